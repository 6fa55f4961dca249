theorem va_A_up {ws wc : va_W} {isC : List Nat} {sz : Nat} (h : isC.map (fun i => ws[i]?) = wc.map some) : ∀ q, va_A wc sz q → va_A ws sz q := by
  intro q hq
  rcases hq with ⟨k, e, hk⟩ | hq
  · have h1 : (isC.map (fun i => ws[i]?))[k]? = some (some (q, e)) := by rw [h, List.getElem?_map, hk]; rfl
    rw [List.getElem?_map] at h1
    cases hi : isC[k]? with
    | none => rw [hi] at h1; cases h1
    | some i => rw [hi] at h1; exact Or.inl ⟨i, e, Option.some.inj h1⟩
  · exact Or.inr hq
theorem pm_filter {ws w : va_W} {pm : List Nat} (h : pm.map (fun i => ws[i]?) = w.map some) : pm.filterMap (fun i => ws[i]?) = w := by
  have := congrArg (fun l => l.filterMap id) h
  simpa [List.filterMap_map] using this
/-- a contract over some of an object's cells is one over all of them -/
theorem XMi.frame {l : Launch} {D : va_G} {tys : List (ClassId × FieldType)} {E E2 : (Nat → Prop) → State → Prop} {y : MethodName} {bytes : ByteArray} {maxL : Nat} {ret : Option FieldType} {rm : Room} {av : List Value} {wc ws wr : va_W} {S S2 : Type} {post : Int32 → S → Prop} {w1 : S → va_W} {post2 : Int32 → S2 → Prop} {w2 : S2 → va_W} (f : S → S2) (isC isR pm : List Nat)
    (hM : XMi l D tys E y bytes maxL ret rm av wc post w1) (hcut : xCut ws wc wr isC isR) (hE : ∀ (A A' : Nat → Prop) (U : State), (∀ q, A' q → A q) → E2 A U → E A' U) (hpost : ∀ r u, post r u → post2 r (f u)) (hn : va_nd pm = true) (hw : ∀ u, pm.map (fun i => (wr ++ w1 u)[i]?) = (w2 (f u)).map some) : XMi l D tys E2 y bytes maxL ret rm av ws post2 w2 := by
  intro sz
  have hAA := va_A_up (sz := sz) hcut.1
  refine Met.mono (hM sz) ?_ ?_ hAA
  · intro a s h
    obtain ⟨ha, h1, hP, hK, hD, hEE⟩ := h
    exact ⟨ha, h1, xCut_P hcut hP, hK, hD.sub isC hcut.2.2.1 hcut.1, hE _ _ s hAA hEE⟩
  · intro a s o t hp hq
    obtain ⟨ha, h1, hP, hK, hD, hEE⟩ := hp
    obtain ⟨⟨r, u, ho, hpo, hB⟩, hF⟩ := hq
    subst h1
    obtain ⟨hP1, hD1⟩ := va_join (A0 := va_A ws s.heap.size) hP hD.self isC isR hcut.1 hcut.2.1 hcut.2.2.2.1 hcut.2.2.2.2 hF.2 hAA hB.1 hB.2.2
    exact ⟨⟨r, f u, ho, hpost r u hpo, hP1.sub pm (pm_filter (hw u)), hB.2.1, hD1.sub pm hn (hw u)⟩, hF.1, fun q h2 h3 => hF.2 q h2 (fun h4 => h3 (hAA q h4))⟩
theorem EV_narrow {adK adV : Nat → Nat} (A A' : Nat → Prop) (U : State) (hsub : ∀ q, A' q → A q) (h : EV adK adV A U) : EV adK adV A' U := by
  obtain ⟨e1, e2, e3, e4, e5, e6, e7, e8, e9, e10, e11, e12⟩ := h
  exact ⟨e1, e2, e3, e4, e5, e6, e7, e8, e9.narrow hsub, e10.narrow hsub, e11.narrow hsub, e12⟩
abbrev XS : Type := (Nat → Nat) × (Nat → Int32) × (Nat → Int64) × (Nat → Value) × (Nat → Nat → Int32) × (Nat → Nat → Int64) × (Nat → Nat → Nat) × (Nat → Nat → Nat → Int32) × (Nat → Nat → Nat → Nat)
def IX (cy : Nat → ClassId) (x0 : Nat) (u : XS) : va_W := [(x0, .inr (11, [.ref (u.1 0), .ref (u.1 3), .ref (u.1 9), .ref (u.1 27), .ref (u.1 45), .ref (u.1 49), .ref (u.1 58), .ref (u.1 61), .ref (u.1 66), .ref (u.1 71), .ref (u.1 74), .ref (u.1 77), .ref (u.1 80), .int (nI (u.1 102))])), ((u.1 0), .inr (9, [.ref (u.1 1), .ref (u.1 2), .int (nI (u.1 81)), .int (nI (u.1 82)), .int (nI (u.1 83)), .int (nI (u.1 84)), .long (u.2.2.1 0), .int (u.2.1 0)])), ((u.1 1), .inl (cy 0, 1600, .inl ((u.2.2.2.2.1 0)))), ((u.1 2), .inl (cy 2, 24, .inr (.inl ((u.2.2.2.2.2.1 0))))), ((u.1 3), .inr (10, [.ref (u.1 0), .ref (u.1 4), (u.2.2.2.1 0), (u.2.2.2.1 1), .int (u.2.1 1), .int (u.2.1 2), .int (u.2.1 3), .int (u.2.1 4), .int (u.2.1 5), .int (u.2.1 6)])), ((u.1 4), .inl (cy 5, 4, .inr (.inr (.inr (.inr (eF (u.1 5) (u.1 6) (u.1 7) (u.1 8))))))), ((u.1 5), .inl (cy 2, 8, .inr (.inl ((u.2.2.2.2.2.1 1))))), ((u.1 6), .inl (cy 2, 8, .inr (.inl ((u.2.2.2.2.2.1 2))))), ((u.1 7), .inl (cy 2, 8, .inr (.inl ((u.2.2.2.2.2.1 3))))), ((u.1 8), .inl (cy 2, 8, .inr (.inl ((u.2.2.2.2.2.1 4))))), ((u.1 9), .inr (4, [.ref (u.1 10), .ref (u.1 11), .ref (u.1 12), .ref (u.1 13), .ref (u.1 14), .ref (u.1 15), .ref (u.1 16), .ref (u.1 17), .ref (u.1 18), .ref (u.1 19), .ref (u.1 20), .int (u.2.1 7), .int (u.2.1 8), .int (u.2.1 9), .int (u.2.1 10), .int (u.2.1 11)])), ((u.1 10), .inl (cy 1, 4, .inl ((u.2.2.2.2.1 1)))), ((u.1 11), .inl (cy 1, 8, .inl ((u.2.2.2.2.1 2)))), ((u.1 12), .inl (cy 1, 4, .inl ((u.2.2.2.2.1 3)))), ((u.1 13), .inl (cy 1, 4, .inl ((u.2.2.2.2.1 4)))), ((u.1 14), .inl (cy 1, 4, .inl ((u.2.2.2.2.1 5)))), ((u.1 15), .inl (cy 1, 4, .inl ((u.2.2.2.2.1 6)))), ((u.1 16), .inl (cy 1, 48, .inl ((u.2.2.2.2.1 7)))), ((u.1 17), .inl (cy 1, 6, .inl ((u.2.2.2.2.1 8)))), ((u.1 18), .inr (3, [.ref (u.1 21), .ref (u.1 22), .int (nI (u.1 89)), .int (u.2.1 12)])), ((u.1 21), .inl (cy 1, 280, .inl ((u.2.2.2.2.1 9)))), ((u.1 22), .inl (cy 1, 31, .inl ((u.2.2.2.2.1 10)))), ((u.1 19), .inr (3, [.ref (u.1 23), .ref (u.1 24), .int (nI (u.1 90)), .int (u.2.1 13)])), ((u.1 23), .inl (cy 1, 280, .inl ((u.2.2.2.2.1 11)))), ((u.1 24), .inl (cy 1, 31, .inl ((u.2.2.2.2.1 12)))), ((u.1 20), .inr (3, [.ref (u.1 25), .ref (u.1 26), .int (nI (u.1 91)), .int (u.2.1 14)])), ((u.1 25), .inl (cy 1, 280, .inl ((u.2.2.2.2.1 13)))), ((u.1 26), .inl (cy 1, 31, .inl ((u.2.2.2.2.1 14)))), ((u.1 27), .inr (4, [.ref (u.1 28), .ref (u.1 29), .ref (u.1 30), .ref (u.1 31), .ref (u.1 32), .ref (u.1 33), .ref (u.1 34), .ref (u.1 35), .ref (u.1 36), .ref (u.1 37), .ref (u.1 38), (u.2.2.2.1 2), (u.2.2.2.1 3), (u.2.2.2.1 4), (u.2.2.2.1 5), (u.2.2.2.1 6)])), ((u.1 28), .inl (cy 1, 4, .inl ((u.2.2.2.2.1 15)))), ((u.1 29), .inl (cy 1, 8, .inl ((u.2.2.2.2.1 16)))), ((u.1 30), .inl (cy 1, 4, .inl ((u.2.2.2.2.1 17)))), ((u.1 31), .inl (cy 1, 4, .inl ((u.2.2.2.2.1 18)))), ((u.1 32), .inl (cy 1, 4, .inl ((u.2.2.2.2.1 19)))), ((u.1 33), .inl (cy 1, 4, .inl ((u.2.2.2.2.1 20)))), ((u.1 34), .inl (cy 1, 48, .inl ((u.2.2.2.2.1 21)))), ((u.1 35), .inl (cy 1, 6, .inl ((u.2.2.2.2.1 22)))), ((u.1 36), .inr (3, [.ref (u.1 39), .ref (u.1 40), (u.2.2.2.1 7), (u.2.2.2.1 8)])), ((u.1 39), .inl (cy 1, 280, .inl ((u.2.2.2.2.1 23)))), ((u.1 40), .inl (cy 1, 31, .inl ((u.2.2.2.2.1 24)))), ((u.1 37), .inr (3, [.ref (u.1 41), .ref (u.1 42), (u.2.2.2.1 9), (u.2.2.2.1 10)])), ((u.1 41), .inl (cy 1, 280, .inl ((u.2.2.2.2.1 25)))), ((u.1 42), .inl (cy 1, 31, .inl ((u.2.2.2.2.1 26)))), ((u.1 38), .inr (3, [.ref (u.1 43), .ref (u.1 44), (u.2.2.2.1 11), (u.2.2.2.1 12)])), ((u.1 43), .inl (cy 1, 280, .inl ((u.2.2.2.2.1 27)))), ((u.1 44), .inl (cy 1, 31, .inl ((u.2.2.2.2.1 28)))), ((u.1 45), .inr (5, [.ref (u.1 46), .ref (u.1 47), .ref (u.1 48), .int (u.2.1 15), .int (nI (u.1 92)), .int (nI (u.1 93)), .int (nI (u.1 94))])), ((u.1 46), .inl (cy 1, 41, .inl ((u.2.2.2.2.1 29)))), ((u.1 47), .inl (cy 1, 1681, .inl ((u.2.2.2.2.1 30)))), ((u.1 48), .inl (cy 1, 123, .inl ((u.2.2.2.2.1 31)))), ((u.1 49), .inr (8, [.ref (u.1 50), .ref (u.1 51), .ref (u.1 52), .ref (u.1 53), .ref (u.1 54), .ref (u.1 55), .ref (u.1 56), .ref (u.1 57), .int (nI (u.1 95)), .int (u.2.1 16), .int (nI (u.1 96)), .int (u.2.1 17), .int (u.2.1 18)])), ((u.1 50), .inl (cy 1, 30, .inl ((u.2.2.2.2.1 32)))), ((u.1 51), .inl (cy 1, 30, .inl ((u.2.2.2.2.1 33)))), ((u.1 52), .inl (cy 1, 30, .inl ((u.2.2.2.2.1 34)))), ((u.1 53), .inl (cy 1, 30, .inl ((u.2.2.2.2.1 35)))), ((u.1 54), .inl (cy 1, 30, .inl ((u.2.2.2.2.1 36)))), ((u.1 55), .inl (cy 1, 100, .inl ((u.2.2.2.2.1 37)))), ((u.1 56), .inl (cy 1, 11, .inl ((u.2.2.2.2.1 38)))), ((u.1 57), .inl (cy 1, 7, .inl ((u.2.2.2.2.1 39)))), ((u.1 58), .inr (0, [.ref (u.1 59), .ref (u.1 60), .int (u.2.1 19)])), ((u.1 59), .inl (cy 4, 4, .inr (.inr (.inr (.inr (eF ((u.2.2.2.2.2.2.1 0) 0) ((u.2.2.2.2.2.2.1 0) 1) ((u.2.2.2.2.2.2.1 0) 2) ((u.2.2.2.2.2.2.1 0) 3))))))), ((u.1 60), .inl (cy 1, 20, .inl ((u.2.2.2.2.1 40)))), ((u.2.2.2.2.2.2.1 0) 0, .inr (2, [.ref ((u.2.2.2.2.2.2.1 1) 0), .ref ((u.2.2.2.2.2.2.1 2) 0), .int ((u.2.2.2.2.1 41) 0), .int (nI ((u.2.2.2.2.2.2.1 3) 0)), .int (nI ((u.2.2.2.2.2.2.1 4) 0))])), ((u.2.2.2.2.2.2.1 1) 0, .inl (cy 1, 10, .inl ((u.2.2.2.2.2.2.2.1 0) 0))), ((u.2.2.2.2.2.2.1 2) 0, .inl (cy 1, 7, .inl ((u.2.2.2.2.2.2.2.1 1) 0))), ((u.2.2.2.2.2.2.1 0) 1, .inr (2, [.ref ((u.2.2.2.2.2.2.1 1) 1), .ref ((u.2.2.2.2.2.2.1 2) 1), .int ((u.2.2.2.2.1 41) 1), .int (nI ((u.2.2.2.2.2.2.1 3) 1)), .int (nI ((u.2.2.2.2.2.2.1 4) 1))])), ((u.2.2.2.2.2.2.1 1) 1, .inl (cy 1, 10, .inl ((u.2.2.2.2.2.2.2.1 0) 1))), ((u.2.2.2.2.2.2.1 2) 1, .inl (cy 1, 7, .inl ((u.2.2.2.2.2.2.2.1 1) 1))), ((u.2.2.2.2.2.2.1 0) 2, .inr (2, [.ref ((u.2.2.2.2.2.2.1 1) 2), .ref ((u.2.2.2.2.2.2.1 2) 2), .int ((u.2.2.2.2.1 41) 2), .int (nI ((u.2.2.2.2.2.2.1 3) 2)), .int (nI ((u.2.2.2.2.2.2.1 4) 2))])), ((u.2.2.2.2.2.2.1 1) 2, .inl (cy 1, 10, .inl ((u.2.2.2.2.2.2.2.1 0) 2))), ((u.2.2.2.2.2.2.1 2) 2, .inl (cy 1, 7, .inl ((u.2.2.2.2.2.2.2.1 1) 2))), ((u.2.2.2.2.2.2.1 0) 3, .inr (2, [.ref ((u.2.2.2.2.2.2.1 1) 3), .ref ((u.2.2.2.2.2.2.1 2) 3), .int ((u.2.2.2.2.1 41) 3), .int (nI ((u.2.2.2.2.2.2.1 3) 3)), .int (nI ((u.2.2.2.2.2.2.1 4) 3))])), ((u.2.2.2.2.2.2.1 1) 3, .inl (cy 1, 10, .inl ((u.2.2.2.2.2.2.2.1 0) 3))), ((u.2.2.2.2.2.2.1 2) 3, .inl (cy 1, 7, .inl ((u.2.2.2.2.2.2.2.1 1) 3))), ((u.1 61), .inr (1, [.ref (u.1 62), .ref (u.1 59), .ref (u.1 63), .ref (u.1 64), .ref (u.1 65), (u.2.2.2.1 13), .int (nI (u.1 97)), .int (u.2.1 20)])), ((u.1 62), .inl (cy 1, 5, .inl ((u.2.2.2.2.1 42)))), ((u.1 63), .inl (cy 1, 24, .inl ((u.2.2.2.2.1 43)))), ((u.1 64), .inl (cy 1, 10, .inl ((u.2.2.2.2.1 44)))), ((u.1 65), .inl (cy 1, 66, .inl ((u.2.2.2.2.1 45)))), ((u.1 66), .inr (6, [.ref (u.1 67), .ref (u.1 59), .ref (u.1 60), .ref (u.1 68), .ref (u.1 69), .ref (u.1 70), (u.2.2.2.1 14), (u.2.2.2.1 15), .int (nI (u.1 98))])), ((u.1 67), .inl (cy 1, 3, .inl ((u.2.2.2.2.1 46)))), ((u.1 68), .inl (cy 1, 3, .inl ((u.2.2.2.2.1 47)))), ((u.1 69), .inl (cy 1, 4, .inl ((u.2.2.2.2.1 48)))), ((u.1 70), .inl (cy 1, 40, .inl ((u.2.2.2.2.1 49)))), ((u.1 71), .inr (7, [.ref (u.1 72), .ref (u.1 73), .int (nI (u.1 99)), .int (u.2.1 21), .int (u.2.1 22), .int (u.2.1 23), .int (u.2.1 24)])), ((u.1 72), .inl (cy 1, 10, .inl ((u.2.2.2.2.1 50)))), ((u.1 73), .inl (cy 1, 4, .inl ((u.2.2.2.2.1 51)))), ((u.1 74), .inr (7, [.ref (u.1 75), .ref (u.1 76), .int (nI (u.1 100)), .int (u.2.1 25), .int (u.2.1 26), .int (u.2.1 27), .int (u.2.1 28)])), ((u.1 75), .inl (cy 1, 10, .inl ((u.2.2.2.2.1 52)))), ((u.1 76), .inl (cy 1, 4, .inl ((u.2.2.2.2.1 53)))), ((u.1 77), .inr (7, [.ref (u.1 78), .ref (u.1 79), .int (nI (u.1 101)), .int (u.2.1 29), .int (u.2.1 30), .int (u.2.1 31), .int (u.2.1 32)])), ((u.1 78), .inl (cy 1, 10, .inl ((u.2.2.2.2.1 54)))), ((u.1 79), .inl (cy 1, 4, .inl ((u.2.2.2.2.1 55)))), ((u.1 80), .inl (cy 1, 10, .inl ((u.2.2.2.2.1 56))))]
def IM (cy : Nat → ClassId) (m0 : Nat) (v : XS) : va_W := [(m0, .inr (12, [.ref (v.1 0), .int (nI (v.1 47)), .int (nI (v.1 48)), .int (v.2.1 0), .int (nI (v.1 49)), .int (nI (v.1 50)), .int (v.2.1 1), .int (v.2.1 2), .int (v.2.1 3), .long (v.2.2.1 0), .ref (v.1 1), .ref (v.1 2), .ref (v.1 3), .ref (v.1 4), .ref (v.1 5), .ref (v.1 6), .ref (v.1 7), .ref (v.1 8), .ref (v.1 9), .ref (v.1 10), .ref (v.1 11), .int (nI (v.1 51)), .int (nI (v.1 52)), .int (nI (v.1 53)), .int (v.2.1 4), .int (nI (v.1 54)), .int (nI (v.1 55)), .ref (v.1 12), .ref (v.1 13), .ref (v.1 14), .ref (v.1 15), .ref (v.1 16), .ref (v.1 17), .ref (v.1 18), .ref (v.1 19), .ref (v.1 20), .ref (v.1 21), .ref (v.1 22), .ref (v.1 23), .ref (v.1 24), .ref (v.1 25), .ref (v.1 26), .int (nI (v.1 56)), .int (nI (v.1 57)), .int (nI (v.1 58)), .int (nI (v.1 59)), .int (nI (v.1 60)), .int (v.2.1 5), .int (v.2.1 6), .int (nI (v.1 61)), .int (nI (v.1 62)), .int (nI (v.1 63)), .int (nI (v.1 64)), .int (v.2.1 7), .int (v.2.1 8), .int (v.2.1 9), .int (v.2.1 10), .ref (v.1 27), .ref (v.1 28), .ref (v.1 29), .ref (v.1 30), .int (nI (v.1 65)), .int (v.2.1 11), .int (v.2.1 12), .int (v.2.1 13), .int (v.2.1 14), .int (nI (v.1 66)), .ref (v.1 31), .int (nI (v.1 67)), .int (nI (v.1 68)), .ref (v.1 32), .int (nI (v.1 69)), .ref (v.1 33), .ref (v.1 34), .ref (v.1 35), .ref (v.1 36), .ref (v.1 37), .ref (v.1 38), .ref (v.1 39), .ref (v.1 40), .ref (v.1 41), .ref (v.1 42), .int (nI (v.1 70)), .int (v.2.1 15), .ref (v.1 43), .int (v.2.1 16), .ref (v.1 44), .ref (v.1 45), .ref (v.1 46)])), ((v.1 0), .inl (cy 1, 1600, .inl ((v.2.2.2.2.1 0)))), ((v.1 1), .inl (cy 2, 24, .inr (.inl ((v.2.2.2.2.2.1 0))))), ((v.1 2), .inl (cy 1, 960, .inl ((v.2.2.2.2.1 1)))), ((v.1 3), .inl (cy 1, 960, .inl ((v.2.2.2.2.1 2)))), ((v.1 4), .inl (cy 1, 3, .inl ((v.2.2.2.2.1 3)))), ((v.1 5), .inl (cy 1, 960, .inl ((v.2.2.2.2.1 4)))), ((v.1 6), .inl (cy 1, 960, .inl ((v.2.2.2.2.1 5)))), ((v.1 7), .inl (cy 1, 3, .inl ((v.2.2.2.2.1 6)))), ((v.1 8), .inl (cy 1, 160, .inl ((v.2.2.2.2.1 7)))), ((v.1 9), .inl (cy 1, 64, .inl ((v.2.2.2.2.1 8)))), ((v.1 10), .inl (cy 3, 3, .inl ((v.2.2.2.2.1 9)))), ((v.1 11), .inl (cy 3, 3, .inl ((v.2.2.2.2.1 10)))), ((v.1 12), .inl (cy 1, 7, .inl ((v.2.2.2.2.1 11)))), ((v.1 13), .inl (cy 1, 8, .inl ((v.2.2.2.2.1 12)))), ((v.1 14), .inl (cy 1, 4, .inl ((v.2.2.2.2.1 13)))), ((v.1 15), .inl (cy 1, 4, .inl ((v.2.2.2.2.1 14)))), ((v.1 16), .inl (cy 1, 4, .inl ((v.2.2.2.2.1 15)))), ((v.1 17), .inl (cy 1, 4, .inl ((v.2.2.2.2.1 16)))), ((v.1 18), .inl (cy 1, 48, .inl ((v.2.2.2.2.1 17)))), ((v.1 19), .inl (cy 1, 8, .inl ((v.2.2.2.2.1 18)))), ((v.1 20), .inl (cy 1, 4, .inl ((v.2.2.2.2.1 19)))), ((v.1 21), .inl (cy 1, 4, .inl ((v.2.2.2.2.1 20)))), ((v.1 22), .inl (cy 1, 4, .inl ((v.2.2.2.2.1 21)))), ((v.1 23), .inl (cy 1, 4, .inl ((v.2.2.2.2.1 22)))), ((v.1 24), .inl (cy 1, 48, .inl ((v.2.2.2.2.1 23)))), ((v.1 25), .inl (cy 3, 6, .inl ((v.2.2.2.2.1 24)))), ((v.1 26), .inl (cy 3, 6, .inl ((v.2.2.2.2.1 25)))), ((v.1 27), .inl (cy 1, 42, .inl ((v.2.2.2.2.1 26)))), ((v.1 28), .inl (cy 1, 10, .inl ((v.2.2.2.2.1 27)))), ((v.1 29), .inl (cy 1, 4, .inl ((v.2.2.2.2.1 28)))), ((v.1 30), .inl (cy 1, 20, .inl ((v.2.2.2.2.1 29)))), ((v.1 31), .inl (cy 1, 1680, .inl ((v.2.2.2.2.1 30)))), ((v.1 32), .inl (cy 1, 20, .inl ((v.2.2.2.2.1 31)))), ((v.1 33), .inl (cy 1, 3, .inl ((v.2.2.2.2.1 32)))), ((v.1 34), .inl (cy 1, 6, .inl ((v.2.2.2.2.1 33)))), ((v.1 35), .inl (cy 1, 6, .inl ((v.2.2.2.2.1 34)))), ((v.1 36), .inl (cy 1, 6, .inl ((v.2.2.2.2.1 35)))), ((v.1 37), .inl (cy 1, 6, .inl ((v.2.2.2.2.1 36)))), ((v.1 38), .inl (cy 1, 30, .inl ((v.2.2.2.2.1 37)))), ((v.1 39), .inl (cy 1, 30, .inl ((v.2.2.2.2.1 38)))), ((v.1 40), .inl (cy 1, 30, .inl ((v.2.2.2.2.1 39)))), ((v.1 41), .inl (cy 1, 30, .inl ((v.2.2.2.2.1 40)))), ((v.1 42), .inl (cy 1, 30, .inl ((v.2.2.2.2.1 41)))), ((v.1 43), .inl (cy 3, 100, .inl ((v.2.2.2.2.1 42)))), ((v.1 44), .inl (cy 1, 11, .inl ((v.2.2.2.2.1 43)))), ((v.1 45), .inl (cy 3, 3, .inl ((v.2.2.2.2.1 44)))), ((v.1 46), .inl (cy 1, 126, .inl ((v.2.2.2.2.1 45))))]
def okX (u : XS) : Prop := ((u.1 81) ≤ 1600) ∧ (cntOK (u.2.2.2.2.1 1) (u.1 85) (u.1 86) (u.1 87) (u.1 88)) ∧ ((u.1 85) ≤ 8) ∧ ((u.1 86) ≤ 4) ∧ ((u.1 87) ≤ 4) ∧ ((u.1 88) ≤ 6) ∧ (rng (u.2.2.2.2.1 7) 48 5) ∧ ((u.1 89) ≤ 280) ∧ (cOK (u.2.2.2.2.1 9) (u.1 89)) ∧ ((u.1 91) ≤ 280) ∧ (cOK (u.2.2.2.2.1 13) (u.1 91)) ∧ ((u.1 90) ≤ 280) ∧ (cOK (u.2.2.2.2.1 11) (u.1 90)) ∧ ((u.1 92) ≤ 40) ∧ ((u.1 93) + (u.1 94) ≤ 40) ∧ (mRows (u.2.2.2.2.1 29) 1) ∧ (mRows (u.2.2.2.2.1 30) 41) ∧ (mRows (u.2.2.2.2.1 31) 3) ∧ ((u.1 95) ≤ 30) ∧ ((u.1 96) ≤ 100) ∧ (rng (u.2.2.2.2.1 32) 30 3) ∧ (rng (u.2.2.2.2.1 33) 30 10) ∧ (∀ i9, i9 < 4 → (u.2.2.2.2.2.2.1 3) i9 ≤ 10) ∧ (rng (u.2.2.2.2.1 40) 20 7) ∧ (pRow (u.2.2.2.2.1 43)) ∧ (rng (u.2.2.2.2.1 47) 3 9) ∧ ((u.1 98) ≤ 3) ∧ ((u.1 99) ≤ 10) ∧ (rng (u.2.2.2.2.1 50) 10 7) ∧ ((u.1 100) ≤ 10) ∧ (rng (u.2.2.2.2.1 52) 10 7) ∧ ((u.1 101) ≤ 10) ∧ (rng (u.2.2.2.2.1 54) 10 7) ∧ ((u.1 102) ≤ 10) ∧ (kyOK (u.2.2.2.2.2.1 0))
def okM (v : XS) : Prop := ((v.1 47) ≤ 1600) ∧ ((v.1 49) ≤ (v.1 50)) ∧ ((v.1 50) ≤ 1600) ∧ ((v.1 48) ≤ 5) ∧ ((v.1 51) ≤ 2) ∧ ((v.1 56) ≤ 8) ∧ ((v.1 57) ≤ 4) ∧ ((v.1 58) ≤ 4) ∧ ((v.1 59) ≤ 6) ∧ ((v.1 61) ≤ 8) ∧ ((v.1 62) ≤ 4) ∧ ((v.1 63) ≤ 4) ∧ ((v.1 64) ≤ 6) ∧ ((v.1 65) ≤ 10) ∧ ((v.1 66) ≤ 20) ∧ ((v.1 67) + (v.1 68) ≤ 40) ∧ ((v.1 69) ≤ 20) ∧ ((v.1 70) ≤ 30) ∧ ((v.1 52) ≤ 40) ∧ ((v.1 55) ≤ 8) ∧ ((v.1 54) ≤ 31) ∧ ((v.1 53) ≤ 61) ∧ ((v.1 60) ≤ 30) ∧ (rng (v.2.2.2.2.1 27) 10 7) ∧ (rng (v.2.2.2.2.1 29) 20 7) ∧ (rng (v.2.2.2.2.1 37) 30 3) ∧ (rng (v.2.2.2.2.1 38) 30 10) ∧ (wRows (v.2.2.2.2.1 26) 1) ∧ (wRows (v.2.2.2.2.1 30) 40) ∧ (wRows (v.2.2.2.2.1 45) 3) ∧ (nxT (v.2.2.2.2.1 23)) ∧ (nxT (v.2.2.2.2.1 17)) ∧ (rng (v.2.2.2.2.1 36) 6 5) ∧ (rng (v.2.2.2.2.1 34) 6 5) ∧ (allR (v.2.2.2.2.1 1) (v.2.2.2.2.1 2) (v.2.2.2.2.1 3) (v.2.2.2.2.2.2.1 0) (v.2.2.2.2.2.2.2.2 0)) ∧ (allR (v.2.2.2.2.1 4) (v.2.2.2.2.1 5) (v.2.2.2.2.1 6) (v.2.2.2.2.2.2.1 1) (v.2.2.2.2.2.2.2.2 1)) ∧ (byN (v.2.2.2.2.1 0))
section L1S
abbrev FN9 : Type := Nat → Int32
abbrev HXT : Type := Nat × Nat × Nat × Nat × FN9 × FN9 × FN9 × FN9 × FN9 × FN9 × Int32 × Int32 × Int32 × Int32
abbrev HMT : Type := Nat × Nat × Nat × Nat × FN9 × FN9 × FN9 × FN9 × FN9 × FN9 × Int32 × Int32 × Int32
abbrev SST : Type := Nat × FN9 × FN9 × FN9 × FN9 × FN9
/-- class and reference hold the same HILLS -/
def RH (h : HXT) (m : HMT) : Prop :=
  (h.1 = m.1 ∧ h.2.1 = m.2.1 ∧ h.2.2.1 = m.2.2.1 ∧ h.2.2.2.1 = m.2.2.2.1) ∧ (h.1 ≤ 8 ∧ h.2.1 ≤ 4 ∧ h.2.2.1 ≤ 4 ∧ h.2.2.2.1 ≤ 6) ∧
  (rowR h.2.2.2.2.1 m.2.2.2.2.1 h.2.1 ∧ rowR h.2.2.2.2.2.1 m.2.2.2.2.2.1 h.2.1 ∧ rowR h.2.2.2.2.2.2.1 m.2.2.2.2.2.2.1 h.2.2.1 ∧ rowR h.2.2.2.2.2.2.2.1 m.2.2.2.2.2.2.2.1 h.2.2.1 ∧ rowR h.2.2.2.2.2.2.2.2.1 m.2.2.2.2.2.2.2.2.1 h.1) ∧
  (∀ s w : Nat, s < h.2.2.2.1 → w < 8 → nxC h.2.2.2.2.2.2.2.2.2.1 s w = nxR m.2.2.2.2.2.2.2.2.2.1 s w) ∧
  h.2.2.2.2.2.2.2.2.2.2.1 = m.2.2.2.2.2.2.2.2.2.2.1 ∧ h.2.2.2.2.2.2.2.2.2.2.2.1 = m.2.2.2.2.2.2.2.2.2.2.2.1 ∧ h.2.2.2.2.2.2.2.2.2.2.2.2.2 = m.2.2.2.2.2.2.2.2.2.2.2.2
/-- class and reference hold the same SOUNDS -/
def RS (t : Int32) (a b : SST) : Prop :=
  a.1 = b.1 ∧ a.1 ≤ 30 ∧ (∃ n : Nat, n ≤ 100000 ∧ t = nI n) ∧ ∀ i, i < a.1 → a.2.1 i = b.2.1 i ∧ a.2.2.1 i = b.2.2.1 i ∧ a.2.2.2.1 i = b.2.2.2.1 i ∧ a.2.2.2.2.1 i = b.2.2.2.2.1 i ∧ a.2.2.2.2.2 i = b.2.2.2.2.2 i ∧ (a.2.2.2.2.2 i = -1 ∨ ∃ n : Nat, n ≤ 100000 ∧ a.2.2.2.2.2 i = nI n)
theorem RH_eq {h h2 : HXT} {m m2 : HMT} (R : RH h m) (e1 : h2 = h) (e2 : m2 = m) : RH h2 m2 := by subst e1 e2; exact R
theorem RS_eq {t t2 : Int32} {h h2 : SST} {m m2 : SST} (R : RS t h m) (e : t2 = t) (e1 : h2 = h) (e2 : m2 = m) : RS t2 h2 m2 := by subst e e1 e2; exact R
theorem upd_same {f g : FN9} {i k : Nat} {x y : Int32} (h : i < k → f i = g i) (hi : i < k + 1) (e : x = y) : upd f k x i = upd g k y i := by
  subst e
  by_cases h9 : i = k
  · rw [h9, pk_us, pk_us]
  · rw [pk_un h9, pk_un h9]; exact h (by omega)
theorem so_same {c1 n1 uc us uc2 us2 : Nat} {t t' x n z r r' : Int32} {f1 f2 f3 f4 f5 g1 g2 g3 g4 g5 a1 a2 a3 a4 a5 b1 b2 b3 b4 b5 : FN9} (hc : c1 = n1) (ht : t = t') (R : RS t (uc, f1, f2, f3, f4, f5) (us, g1, g2, g3, g4, g5)) (h1 : soS c1 uc f1 f2 f3 f4 f5 t x n z r uc2 a1 a2 a3 a4 a5) (h2 : soS n1 us g1 g2 g3 g4 g5 t' x n z r' us2 b1 b2 b3 b4 b5) : r = r' ∧ RS t (uc2, a1, a2, a3, a4, a5) (us2, b1, b2, b3, b4, b5) := by
  subst hc ht
  obtain ⟨e0, e30, et, ea⟩ := R
  have e0 : uc = us := e0
  have e30 : uc ≤ 30 := e30
  subst e0
  rcases h1 with ⟨p1, p2, ⟨p3, p4, p5, p6, p7⟩, p8⟩ | ⟨⟨q1, q2, q3, q4, q5⟩, q6⟩ <;> rcases h2 with ⟨p1', p2', ⟨p3', p4', p5', p6', p7'⟩, p8'⟩ | ⟨⟨q1', q2', q3', q4', q5'⟩, q6'⟩
  · subst p2 p3 p4 p5 p6 p7 p2' p3' p4' p5' p6' p7'
    exact ⟨by rw [p1, p1'], rfl, e30, et, ea⟩
  · rcases p8 with h | h | h | h | h <;> exact absurd h (by first | exact not_not_intro q1' | assumption)
  · rcases p8' with h | h | h | h | h <;> exact absurd h (by first | exact not_not_intro q1 | assumption)
  · rcases q6 with ⟨a0, a6, a7, h1, h2, h3, h4, h5⟩ | ⟨a0, a6, a7, h1, h2, h3, h4, h5⟩ <;> rcases q6' with ⟨b0, b6, b7, k1, k2, k3, k4, k5⟩ | ⟨b0, b6, b7, k1, k2, k3, k4, k5⟩
    · subst a7 b7 h1 h2 h3 h4 h5 k1 k2 k3 k4 k5
      exact ⟨by rw [a6, b6], rfl, e30, et, ea⟩
    · omega
    · omega
    · subst a7 b7 h1 h2 h3 h4 h5 k1 k2 k3 k4 k5
      refine ⟨by rw [a6, b6], rfl, show uc + 1 ≤ 30 by omega, et, fun i hi => ?_⟩
      have hi : i < uc + 1 := hi
      refine ⟨upd_same (fun h => (ea i h).1) hi rfl, upd_same (fun h => (ea i h).2.1) hi rfl, upd_same (fun h => (ea i h).2.2.1) hi rfl, upd_same (fun h => (ea i h).2.2.2.1) hi rfl, upd_same (fun h => (ea i h).2.2.2.2.1) hi rfl, ?_⟩
      show upd f5 uc (-1) i = -1 ∨ ∃ n : Nat, n ≤ 100000 ∧ upd f5 uc (-1) i = nI n
      by_cases h9 : i = uc
      · rw [h9, pk_us]; exact Or.inl rfl
      · rw [pk_un h9]; exact (ea i (show i < uc by omega)).2.2.2.2.2
theorem neg_iff {x : Int32} (h : x = -1 ∨ ∃ n : Nat, n ≤ 100000 ∧ x = nI n) : x = -1 ↔ x < 0 := by
  constructor
  · intro h9; rw [h9]; decide
  · intro h9
    rcases h with h | ⟨n, hn, e⟩
    · exact h
    · exact absurd (e ▸ h9) (nI_pos (by omega))
theorem un_same {uc us : Nat} {t t' x r r' : Int32} {f1 f2 f3 f4 f5 g1 g2 g3 g4 g5 a5 b5 : FN9} (ht : t = t') (R : RS t (uc, f1, f2, f3, f4, f5) (us, g1, g2, g3, g4, g5)) (h1 : unS (fun y => y = -1) uc f5 t x r a5) (h2 : unS (fun y => y < 0) us g5 t' x r' b5) : r = r' ∧ RS t (uc, f1, f2, f3, f4, a5) (us, g1, g2, g3, g4, b5) := by
  subst ht
  obtain ⟨e0, e30, et, ea⟩ := R
  have e0 : uc = us := e0
  have e30 : uc ≤ 30 := e30
  subst e0
  have hk : ∀ j, j < uc → (f5 j = -1 ↔ g5 j < 0) := fun j hj => by
    have h9 := ea j hj
    have e5 : f5 j = g5 j := h9.2.2.2.2.1
    rw [← e5]
    exact neg_iff h9.2.2.2.2.2
  rcases h1 with ⟨p1, p2, p3⟩ | ⟨p1, j, p2, p3, p4, p5⟩ <;> rcases h2 with ⟨q1, q2, q3⟩ | ⟨q1, k, q2, q3, q4, q5⟩
  · subst p2 q2
    exact ⟨by rw [p1, q1], rfl, e30, et, ea⟩
  · exact absurd ⟨k, q2, q3, (hk k q2).mpr q4⟩ p3
  · exact absurd ⟨j, p2, p3, (hk j p2).mp p4⟩ q3
  · have e := nI_inj (by omega) (by omega) (p3.symm.trans q3)
    subst e p5 q5
    refine ⟨by rw [p1, q1], rfl, e30, et, fun i hi => ?_⟩
    have hi : i < uc := hi
    obtain ⟨r1, r2, r3, r4, r5, r6⟩ := ea i hi
    refine ⟨r1, r2, r3, r4, ?_, ?_⟩
    · show upd f5 j t i = upd g5 j t i
      by_cases h9 : i = j
      · rw [h9, pk_us, pk_us]
      · rw [pk_un h9, pk_un h9]; exact r5
    · show upd f5 j t i = -1 ∨ ∃ n : Nat, n ≤ 100000 ∧ upd f5 j t i = nI n
      by_cases h9 : i = j
      · rw [h9, pk_us]; exact Or.inr et
      · rw [pk_un h9]; exact r6
theorem later_RS {t t2 b r : Int32} {h m : SST} (R : RS t h m) (e : (r, t2) = laterF t b) : RS t2 h m := by
  obtain ⟨e0, e30, ⟨n, hn, et⟩, ea⟩ := R
  refine ⟨e0, e30, ?_, ea⟩
  unfold laterF at e
  by_cases h1 : b < 0
  · rw [if_pos h1] at e; cases e; exact ⟨n, hn, et⟩
  · rw [if_neg h1] at e
    by_cases h2 : 1000 < b
    · rw [if_pos h2] at e; cases e; exact ⟨n, hn, et⟩
    · rw [if_neg h2] at e
      by_cases h3 : t + b ≤ 100000
      · rw [if_pos h3] at e
        obtain ⟨j, hj, eb⟩ := nI_of h1
        have hj2 : j ≤ 1000 := by
          rw [eb] at h2
          have := q_nlt (a := 1000) (b := j) rfl rfl (by omega) hj h2
          omega
        rw [et, eb, nI_add] at e h3
        cases e
        exact ⟨n + j, q_le (a := n + j) (b := 100000) rfl rfl (by omega) (by omega) h3, rfl⟩
      · rw [if_neg h3] at e; cases e; exact ⟨n, hn, et⟩
theorem ld_same {h : HXT} {m : HMT} {xs xw r r' : Int32} (R : RH h m) (h1 : ldS (nxC h.2.2.2.2.2.2.2.2.2.1) h.2.2.2.1 h.1 xs xw r) (h2 : ldS (nxR m.2.2.2.2.2.2.2.2.2.1) m.2.2.2.1 m.1 xs xw r') : r = r' := by
  obtain ⟨⟨c0, c1, c2, c3⟩, ⟨b0, b1, b2, b3⟩, _, hx, _⟩ := R
  rw [← c0, ← c3] at h2
  rcases h1 with ⟨p1, p2⟩ | ⟨s, w, p1, p2, p3, p4, p5⟩ <;> rcases h2 with ⟨q1, q2⟩ | ⟨s', w', q1, q2, q3, q4, q5⟩
  · rw [p1, q1]
  · exact absurd p2 (not_or.mpr ⟨not_not_intro ⟨s', q1, q3⟩, not_not_intro ⟨w', q2, q4⟩⟩)
  · exact absurd q2 (not_or.mpr ⟨not_not_intro ⟨s, p1, p3⟩, not_not_intro ⟨w, p2, p4⟩⟩)
  · have e1 := nI_inj (by omega) (by omega) (p3.symm.trans q3)
    have e2 := nI_inj (by omega) (by omega) (p4.symm.trans q4)
    subst e1 e2
    rw [p5, q5, hx s w p1 (by omega)]
theorem td_RH {s : AS} {c0 c1 c2 c3 : Nat} {fp fcs fmp fmv flo fx : FN9} {hon hwi hdr hu : Int32} {nW nC nM nS : Nat} {ca sn ma vo lo on : FN9} {ons wi un : Int32} (b : c0 ≤ 8 ∧ c1 ≤ 4 ∧ c2 ≤ 4 ∧ c3 ≤ 6) (h : tdC s c0 c1 c2 c3 fp fcs fmp fmv flo fx hon hwi hdr hu) (k : tdR s nW nC nM nS ca sn ma vo lo on ons wi un) : RH (c0, c1, c2, c3, fp, fcs, fmp, fmv, flo, fx, hon, hwi, hdr, hu) (nW, nC, nM, nS, ca, sn, ma, vo, lo, on, ons, wi, un) := by
  obtain ⟨⟨e0, e1, e2, e3⟩, ⟨r0, r1, r2, r3, r4⟩, ex, v1, v2, v3, v4⟩ := h
  obtain ⟨⟨k0, k1, k2, k3⟩, ⟨s0, s1, s2, s3, s4⟩, kx, w1, w2, w3⟩ := k
  subst e0 e1 e2 e3 k0 k1 k2 k3
  have tr : ∀ {f g k : FN9} {c : Nat}, rowR f k c → rowR g k c → rowR f g c := fun h1 h2 i hi => (h1 i hi).trans (h2 i hi).symm
  refine ⟨⟨rfl, rfl, rfl, rfl⟩, b, ⟨tr r1 s1, tr r2 s2, tr r3 s3, tr r4 s4, tr r0 s0⟩, fun a w ha hw => ?_, v1.trans w1.symm, v2.trans w2.symm, v4.trans w3.symm⟩
  have ha : a < sC s 3 := ha
  show fx (8 * a + w) = if on (8 * a + w) = -1 then nI a else on (8 * a + w)
  have hb := b.2.2.2
  rw [kx (8 * a + w) (by omega), ex (8 * a + w) (by omega), show (8 * a + w) / 8 = a by omega]
/-- hills, of both -/
def hlX (f : FN9) (n : Nat) (h h2 : HXT) (s s2 : SST) : Prop := (h2 = h ∧ s2 = s ∧ ∃ e, PR f n aS0 (.inl e)) ∨ ∃ gs, PR f n aS0 (.inr gs) ∧ s2.1 = 0 ∧ tdC gs h2.1 h2.2.1 h2.2.2.1 h2.2.2.2.1 h2.2.2.2.2.1 h2.2.2.2.2.2.1 h2.2.2.2.2.2.2.1 h2.2.2.2.2.2.2.2.1 h2.2.2.2.2.2.2.2.2.1 h2.2.2.2.2.2.2.2.2.2.1 h2.2.2.2.2.2.2.2.2.2.2.1 h2.2.2.2.2.2.2.2.2.2.2.2.1 h2.2.2.2.2.2.2.2.2.2.2.2.2.1 h2.2.2.2.2.2.2.2.2.2.2.2.2.2
def hlM (f : FN9) (n : Nat) (h h2 : HMT) (s s2 : SST) : Prop := (h2 = h ∧ s2 = s ∧ ∃ e, PR f n aS0 (.inl e)) ∨ ∃ gs, PR f n aS0 (.inr gs) ∧ s2.1 = 0 ∧ tdR gs h2.1 h2.2.1 h2.2.2.1 h2.2.2.2.1 h2.2.2.2.2.1 h2.2.2.2.2.2.1 h2.2.2.2.2.2.2.1 h2.2.2.2.2.2.2.2.1 h2.2.2.2.2.2.2.2.2.1 h2.2.2.2.2.2.2.2.2.2.1 h2.2.2.2.2.2.2.2.2.2.2.1 h2.2.2.2.2.2.2.2.2.2.2.2.1 h2.2.2.2.2.2.2.2.2.2.2.2.2
theorem hl_same {f g : FN9} {n n' : Nat} {t : Int32} {h h2 : HXT} {m m2 : HMT} {s s2 z z2 : SST} (hn : n = n') (ht : tpR f g n) (R : RH h m) (S : RS t s z) (b : h2.1 ≤ 8 ∧ h2.2.1 ≤ 4 ∧ h2.2.2.1 ≤ 4 ∧ h2.2.2.2.1 ≤ 6) (h1 : hlX f n h h2 s s2) (k1 : hlM g n' m m2 z z2) : RH h2 m2 ∧ RS t s2 z2 := by
  subst hn
  rcases h1 with ⟨p1, p2, e, p3⟩ | ⟨gs, p1, p2, p3⟩ <;> rcases k1 with ⟨q1, q2, e', q3⟩ | ⟨gs', q1, q2, q3⟩
  · subst p1 p2 q1 q2; exact ⟨R, S⟩
  · have e := (PR_tp ht p3).det q1; cases e
  · have e := (PR_tp ht p1).det q3; cases e
  · have e := (PR_tp ht p1).det q1
    cases e
    refine ⟨td_RH b p3 q3, p2.trans q2.symm, by rw [p2]; decide, S.2.2.1, fun i hi => ?_⟩
    rw [p2] at hi
    exact absurd hi (Nat.not_lt_zero i)
end L1S
abbrev TXh (u : XS) : HXT := ((u.1 85), (u.1 86), (u.1 87), (u.1 88), (u.2.2.2.2.1 3), (u.2.2.2.2.1 4), (u.2.2.2.2.1 5), (u.2.2.2.2.1 6), (u.2.2.2.2.1 2), (u.2.2.2.2.1 7), (u.2.1 8), (u.2.1 9), (u.2.1 10), (u.2.1 11))
abbrev TMh (v : XS) : HMT := ((v.1 61), (v.1 62), (v.1 63), (v.1 64), (v.2.2.2.2.1 19), (v.2.2.2.2.1 20), (v.2.2.2.2.1 21), (v.2.2.2.2.1 22), (v.2.2.2.2.1 18), (v.2.2.2.2.1 23), (v.2.1 7), (v.2.1 8), (v.2.1 4))
abbrev TXs (u : XS) : SST := ((u.1 95), (u.2.2.2.2.1 32), (u.2.2.2.2.1 33), (u.2.2.2.2.1 34), (u.2.2.2.2.1 35), (u.2.2.2.2.1 36))
abbrev TMs (v : XS) : SST := ((v.1 70), (v.2.2.2.2.1 37), (v.2.2.2.2.1 38), (v.2.2.2.2.1 39), (v.2.2.2.2.1 40), (v.2.2.2.2.1 41))
