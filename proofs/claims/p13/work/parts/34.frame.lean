theorem va_A_up {ws wc : va_W} {isC : List Nat} {sz : Nat} (h : isC.map (fun i => ws[i]?) = wc.map some) : ∀ q, va_A wc sz q → va_A ws sz q := by
  intro q hq
  rcases hq with ⟨k, e, hk⟩ | hq
  · have h1 : (isC.map (fun i => ws[i]?))[k]? = some (some (q, e)) := by rw [h, List.getElem?_map, hk]; rfl
    rw [List.getElem?_map] at h1
    cases hi : isC[k]? with
    | none => rw [hi] at h1; cases h1
    | some i => rw [hi] at h1; exact Or.inl ⟨i, e, Option.some.inj h1⟩
  · exact Or.inr hq
theorem pm_filter {ws w : va_W} {pm : List Nat} (h : pm.map (fun i => ws[i]?) = w.map some) : pm.filterMap (fun i => ws[i]?) = w := by
  have := congrArg (fun l => l.filterMap id) h
  simpa [List.filterMap_map] using this
/-- a contract over some of an object's cells is one over all of them -/
theorem XMi.frame {l : Launch} {D : va_G} {tys : List (ClassId × FieldType)} {E E2 : (Nat → Prop) → State → Prop} {y : MethodName} {bytes : ByteArray} {maxL : Nat} {ret : Option FieldType} {rm : Room} {av : List Value} {wc ws wr : va_W} {S S2 : Type} {post : Int32 → S → Prop} {w1 : S → va_W} {post2 : Int32 → S2 → Prop} {w2 : S2 → va_W} (f : S → S2) (isC isR pm : List Nat)
    (hM : XMi l D tys E y bytes maxL ret rm av wc post w1) (hcut : xCut ws wc wr isC isR) (hE : ∀ (A A' : Nat → Prop) (U : State), (∀ q, A' q → A q) → E2 A U → E A' U) (hpost : ∀ r u, post r u → post2 r (f u)) (hn : va_nd pm = true) (hw : ∀ u, pm.map (fun i => (wr ++ w1 u)[i]?) = (w2 (f u)).map some) : XMi l D tys E2 y bytes maxL ret rm av ws post2 w2 := by
  intro sz
  have hAA := va_A_up (sz := sz) hcut.1
  refine Met.mono (hM sz) ?_ ?_ hAA
  · intro a s h
    obtain ⟨ha, h1, hP, hK, hD, hEE⟩ := h
    exact ⟨ha, h1, xCut_P hcut hP, hK, hD.sub isC hcut.2.2.1 hcut.1, hE _ _ s hAA hEE⟩
  · intro a s o t hp hq
    obtain ⟨ha, h1, hP, hK, hD, hEE⟩ := hp
    obtain ⟨⟨r, u, ho, hpo, hB⟩, hF⟩ := hq
    subst h1
    obtain ⟨hP1, hD1⟩ := va_join (A0 := va_A ws s.heap.size) hP hD.self isC isR hcut.1 hcut.2.1 hcut.2.2.2.1 hcut.2.2.2.2 hF.2 hAA hB.1 hB.2.2
    exact ⟨⟨r, f u, ho, hpost r u hpo, hP1.sub pm (pm_filter (hw u)), hB.2.1, hD1.sub pm hn (hw u)⟩, hF.1, fun q h2 h3 => hF.2 q h2 (fun h4 => h3 (hAA q h4))⟩
theorem EV_narrow {adK adV : Nat → Nat} (A A' : Nat → Prop) (U : State) (hsub : ∀ q, A' q → A q) (h : EV adK adV A U) : EV adK adV A' U := by
  obtain ⟨e1, e2, e3, e4, e5, e6, e7, e8, e9, e10, e11, e12⟩ := h
  exact ⟨e1, e2, e3, e4, e5, e6, e7, e8, e9.narrow hsub, e10.narrow hsub, e11.narrow hsub, e12⟩
abbrev XS : Type := (Nat → Nat) × (Nat → Int32) × (Nat → Int64) × (Nat → Value) × (Nat → Nat → Int32) × (Nat → Nat → Int64) × (Nat → Nat → Nat) × (Nat → Nat → Nat → Int32) × (Nat → Nat → Nat → Nat)
def IX (cy : Nat → ClassId) (x0 : Nat) (u : XS) : va_W := [wO x0 11 [.ref (u.1 0), .ref (u.1 3), .ref (u.1 9), .ref (u.1 27), .ref (u.1 45), .ref (u.1 49), .ref (u.1 58), .ref (u.1 61), .ref (u.1 66), .ref (u.1 71), .ref (u.1 74), .ref (u.1 77), .ref (u.1 80), .int (nI (u.1 102))], ((u.1 0), .inr (9, [.ref (u.1 1), .ref (u.1 2), .int (nI (u.1 81)), .int (nI (u.1 82)), .int (nI (u.1 83)), .int (nI (u.1 84)), .long (u.2.2.1 0), .int (u.2.1 0)])), ((u.1 1), .inl (cy 0, 1600, .inl ((u.2.2.2.2.1 0)))), ((u.1 2), .inl (cy 2, 24, .inr (.inl ((u.2.2.2.2.2.1 0))))), ((u.1 3), .inr (10, [.ref (u.1 0), .ref (u.1 4), (u.2.2.2.1 0), (u.2.2.2.1 1), .int (u.2.1 1), .int (u.2.1 2), .int (u.2.1 3), .int (u.2.1 4), .int (u.2.1 5), .int (u.2.1 6)])), ((u.1 4), .inl (cy 5, 4, .inr (.inr (.inr (.inr (eF (u.1 5) (u.1 6) (u.1 7) (u.1 8))))))), ((u.1 5), .inl (cy 2, 8, .inr (.inl ((u.2.2.2.2.2.1 1))))), ((u.1 6), .inl (cy 2, 8, .inr (.inl ((u.2.2.2.2.2.1 2))))), ((u.1 7), .inl (cy 2, 8, .inr (.inl ((u.2.2.2.2.2.1 3))))), ((u.1 8), .inl (cy 2, 8, .inr (.inl ((u.2.2.2.2.2.1 4))))), ((u.1 9), .inr (4, [.ref (u.1 10), .ref (u.1 11), .ref (u.1 12), .ref (u.1 13), .ref (u.1 14), .ref (u.1 15), .ref (u.1 16), .ref (u.1 17), .ref (u.1 18), .ref (u.1 19), .ref (u.1 20), .int (u.2.1 7), .int (u.2.1 8), .int (u.2.1 9), .int (u.2.1 10), .int (u.2.1 11)])), ((u.1 10), .inl (cy 1, 4, .inl ((u.2.2.2.2.1 1)))), ((u.1 11), .inl (cy 1, 8, .inl ((u.2.2.2.2.1 2)))), ((u.1 12), .inl (cy 1, 4, .inl ((u.2.2.2.2.1 3)))), ((u.1 13), .inl (cy 1, 4, .inl ((u.2.2.2.2.1 4)))), ((u.1 14), .inl (cy 1, 4, .inl ((u.2.2.2.2.1 5)))), ((u.1 15), .inl (cy 1, 4, .inl ((u.2.2.2.2.1 6)))), ((u.1 16), .inl (cy 1, 48, .inl ((u.2.2.2.2.1 7)))), ((u.1 17), .inl (cy 1, 6, .inl ((u.2.2.2.2.1 8)))), ((u.1 18), .inr (3, [.ref (u.1 21), .ref (u.1 22), .int (nI (u.1 89)), .int (u.2.1 12)])), ((u.1 21), .inl (cy 1, 280, .inl ((u.2.2.2.2.1 9)))), ((u.1 22), .inl (cy 1, 31, .inl ((u.2.2.2.2.1 10)))), ((u.1 19), .inr (3, [.ref (u.1 23), .ref (u.1 24), .int (nI (u.1 90)), .int (u.2.1 13)])), ((u.1 23), .inl (cy 1, 280, .inl ((u.2.2.2.2.1 11)))), ((u.1 24), .inl (cy 1, 31, .inl ((u.2.2.2.2.1 12)))), ((u.1 20), .inr (3, [.ref (u.1 25), .ref (u.1 26), .int (nI (u.1 91)), .int (u.2.1 14)])), ((u.1 25), .inl (cy 1, 280, .inl ((u.2.2.2.2.1 13)))), ((u.1 26), .inl (cy 1, 31, .inl ((u.2.2.2.2.1 14)))), ((u.1 27), .inr (4, [.ref (u.1 28), .ref (u.1 29), .ref (u.1 30), .ref (u.1 31), .ref (u.1 32), .ref (u.1 33), .ref (u.1 34), .ref (u.1 35), .ref (u.1 36), .ref (u.1 37), .ref (u.1 38), (u.2.2.2.1 2), (u.2.2.2.1 3), (u.2.2.2.1 4), (u.2.2.2.1 5), (u.2.2.2.1 6)])), ((u.1 28), .inl (cy 1, 4, .inl ((u.2.2.2.2.1 15)))), ((u.1 29), .inl (cy 1, 8, .inl ((u.2.2.2.2.1 16)))), ((u.1 30), .inl (cy 1, 4, .inl ((u.2.2.2.2.1 17)))), ((u.1 31), .inl (cy 1, 4, .inl ((u.2.2.2.2.1 18)))), ((u.1 32), .inl (cy 1, 4, .inl ((u.2.2.2.2.1 19)))), ((u.1 33), .inl (cy 1, 4, .inl ((u.2.2.2.2.1 20)))), ((u.1 34), .inl (cy 1, 48, .inl ((u.2.2.2.2.1 21)))), ((u.1 35), .inl (cy 1, 6, .inl ((u.2.2.2.2.1 22)))), ((u.1 36), .inr (3, [.ref (u.1 39), .ref (u.1 40), (u.2.2.2.1 7), (u.2.2.2.1 8)])), ((u.1 39), .inl (cy 1, 280, .inl ((u.2.2.2.2.1 23)))), ((u.1 40), .inl (cy 1, 31, .inl ((u.2.2.2.2.1 24)))), ((u.1 37), .inr (3, [.ref (u.1 41), .ref (u.1 42), (u.2.2.2.1 9), (u.2.2.2.1 10)])), ((u.1 41), .inl (cy 1, 280, .inl ((u.2.2.2.2.1 25)))), ((u.1 42), .inl (cy 1, 31, .inl ((u.2.2.2.2.1 26)))), ((u.1 38), .inr (3, [.ref (u.1 43), .ref (u.1 44), (u.2.2.2.1 11), (u.2.2.2.1 12)])), ((u.1 43), .inl (cy 1, 280, .inl ((u.2.2.2.2.1 27)))), ((u.1 44), .inl (cy 1, 31, .inl ((u.2.2.2.2.1 28)))), ((u.1 45), .inr (5, [.ref (u.1 46), .ref (u.1 47), .ref (u.1 48), .int (u.2.1 15), .int (nI (u.1 92)), .int (nI (u.1 93)), .int (nI (u.1 94))])), ((u.1 46), .inl (cy 1, 41, .inl ((u.2.2.2.2.1 29)))), ((u.1 47), .inl (cy 1, 1681, .inl ((u.2.2.2.2.1 30)))), ((u.1 48), .inl (cy 1, 123, .inl ((u.2.2.2.2.1 31)))), ((u.1 49), .inr (8, [.ref (u.1 50), .ref (u.1 51), .ref (u.1 52), .ref (u.1 53), .ref (u.1 54), .ref (u.1 55), .ref (u.1 56), .ref (u.1 57), .int (nI (u.1 95)), .int (u.2.1 16), .int (nI (u.1 96)), .int (u.2.1 17), .int (u.2.1 18)])), ((u.1 50), .inl (cy 1, 30, .inl ((u.2.2.2.2.1 32)))), ((u.1 51), .inl (cy 1, 30, .inl ((u.2.2.2.2.1 33)))), ((u.1 52), .inl (cy 1, 30, .inl ((u.2.2.2.2.1 34)))), ((u.1 53), .inl (cy 1, 30, .inl ((u.2.2.2.2.1 35)))), ((u.1 54), .inl (cy 1, 30, .inl ((u.2.2.2.2.1 36)))), ((u.1 55), .inl (cy 1, 100, .inl ((u.2.2.2.2.1 37)))), ((u.1 56), .inl (cy 1, 11, .inl ((u.2.2.2.2.1 38)))), ((u.1 57), .inl (cy 1, 7, .inl ((u.2.2.2.2.1 39)))), ((u.1 58), .inr (0, [.ref (u.1 59), .ref (u.1 60), .int (u.2.1 19)])), ((u.1 59), .inl (cy 4, 4, .inr (.inr (.inr (.inr (eF ((u.2.2.2.2.2.2.1 0) 0) ((u.2.2.2.2.2.2.1 0) 1) ((u.2.2.2.2.2.2.1 0) 2) ((u.2.2.2.2.2.2.1 0) 3))))))), ((u.1 60), .inl (cy 1, 20, .inl ((u.2.2.2.2.1 40)))), ((u.2.2.2.2.2.2.1 0) 0, .inr (2, [.ref ((u.2.2.2.2.2.2.1 1) 0), .ref ((u.2.2.2.2.2.2.1 2) 0), .int ((u.2.2.2.2.1 41) 0), .int (nI ((u.2.2.2.2.2.2.1 3) 0)), .int (nI ((u.2.2.2.2.2.2.1 4) 0))])), ((u.2.2.2.2.2.2.1 1) 0, .inl (cy 1, 10, .inl ((u.2.2.2.2.2.2.2.1 0) 0))), ((u.2.2.2.2.2.2.1 2) 0, .inl (cy 1, 7, .inl ((u.2.2.2.2.2.2.2.1 1) 0))), ((u.2.2.2.2.2.2.1 0) 1, .inr (2, [.ref ((u.2.2.2.2.2.2.1 1) 1), .ref ((u.2.2.2.2.2.2.1 2) 1), .int ((u.2.2.2.2.1 41) 1), .int (nI ((u.2.2.2.2.2.2.1 3) 1)), .int (nI ((u.2.2.2.2.2.2.1 4) 1))])), ((u.2.2.2.2.2.2.1 1) 1, .inl (cy 1, 10, .inl ((u.2.2.2.2.2.2.2.1 0) 1))), ((u.2.2.2.2.2.2.1 2) 1, .inl (cy 1, 7, .inl ((u.2.2.2.2.2.2.2.1 1) 1))), ((u.2.2.2.2.2.2.1 0) 2, .inr (2, [.ref ((u.2.2.2.2.2.2.1 1) 2), .ref ((u.2.2.2.2.2.2.1 2) 2), .int ((u.2.2.2.2.1 41) 2), .int (nI ((u.2.2.2.2.2.2.1 3) 2)), .int (nI ((u.2.2.2.2.2.2.1 4) 2))])), ((u.2.2.2.2.2.2.1 1) 2, .inl (cy 1, 10, .inl ((u.2.2.2.2.2.2.2.1 0) 2))), ((u.2.2.2.2.2.2.1 2) 2, .inl (cy 1, 7, .inl ((u.2.2.2.2.2.2.2.1 1) 2))), ((u.2.2.2.2.2.2.1 0) 3, .inr (2, [.ref ((u.2.2.2.2.2.2.1 1) 3), .ref ((u.2.2.2.2.2.2.1 2) 3), .int ((u.2.2.2.2.1 41) 3), .int (nI ((u.2.2.2.2.2.2.1 3) 3)), .int (nI ((u.2.2.2.2.2.2.1 4) 3))])), ((u.2.2.2.2.2.2.1 1) 3, .inl (cy 1, 10, .inl ((u.2.2.2.2.2.2.2.1 0) 3))), ((u.2.2.2.2.2.2.1 2) 3, .inl (cy 1, 7, .inl ((u.2.2.2.2.2.2.2.1 1) 3))), ((u.1 61), .inr (1, [.ref (u.1 62), .ref (u.1 59), .ref (u.1 63), .ref (u.1 64), .ref (u.1 65), (u.2.2.2.1 13), .int (nI (u.1 97)), .int (u.2.1 20)])), ((u.1 62), .inl (cy 1, 5, .inl ((u.2.2.2.2.1 42)))), ((u.1 63), .inl (cy 1, 24, .inl ((u.2.2.2.2.1 43)))), ((u.1 64), .inl (cy 1, 10, .inl ((u.2.2.2.2.1 44)))), ((u.1 65), .inl (cy 1, 66, .inl ((u.2.2.2.2.1 45)))), ((u.1 66), .inr (6, [.ref (u.1 67), .ref (u.1 59), .ref (u.1 60), .ref (u.1 68), .ref (u.1 69), .ref (u.1 70), (u.2.2.2.1 14), (u.2.2.2.1 15), .int (nI (u.1 98))])), ((u.1 67), .inl (cy 1, 3, .inl ((u.2.2.2.2.1 46)))), ((u.1 68), .inl (cy 1, 3, .inl ((u.2.2.2.2.1 47)))), ((u.1 69), .inl (cy 1, 4, .inl ((u.2.2.2.2.1 48)))), ((u.1 70), .inl (cy 1, 40, .inl ((u.2.2.2.2.1 49)))), ((u.1 71), .inr (7, [.ref (u.1 72), .ref (u.1 73), .int (nI (u.1 99)), .int (u.2.1 21), .int (u.2.1 22), .int (u.2.1 23), .int (u.2.1 24)])), ((u.1 72), .inl (cy 1, 10, .inl ((u.2.2.2.2.1 50)))), ((u.1 73), .inl (cy 1, 4, .inl ((u.2.2.2.2.1 51)))), ((u.1 74), .inr (7, [.ref (u.1 75), .ref (u.1 76), .int (nI (u.1 100)), .int (u.2.1 25), .int (u.2.1 26), .int (u.2.1 27), .int (u.2.1 28)])), ((u.1 75), .inl (cy 1, 10, .inl ((u.2.2.2.2.1 52)))), ((u.1 76), .inl (cy 1, 4, .inl ((u.2.2.2.2.1 53)))), ((u.1 77), .inr (7, [.ref (u.1 78), .ref (u.1 79), .int (nI (u.1 101)), .int (u.2.1 29), .int (u.2.1 30), .int (u.2.1 31), .int (u.2.1 32)])), ((u.1 78), .inl (cy 1, 10, .inl ((u.2.2.2.2.1 54)))), ((u.1 79), .inl (cy 1, 4, .inl ((u.2.2.2.2.1 55)))), ((u.1 80), .inl (cy 1, 10, .inl ((u.2.2.2.2.1 56))))]
def IM (cy : Nat → ClassId) (m0 : Nat) (v : XS) : va_W := [wO m0 12 [.ref (v.1 0), .int (nI (v.1 47)), .int (nI (v.1 48)), .int (v.2.1 0), .int (nI (v.1 49)), .int (nI (v.1 50)), .int (v.2.1 1), .int (v.2.1 2), .int (v.2.1 3), .long (v.2.2.1 0), .ref (v.1 1), .ref (v.1 2), .ref (v.1 3), .ref (v.1 4), .ref (v.1 5), .ref (v.1 6), .ref (v.1 7), .ref (v.1 8), .ref (v.1 9), .ref (v.1 10), .ref (v.1 11), .int (nI (v.1 51)), .int (nI (v.1 52)), .int (nI (v.1 53)), .int (v.2.1 4), .int (nI (v.1 54)), .int (nI (v.1 55)), .ref (v.1 12), .ref (v.1 13), .ref (v.1 14), .ref (v.1 15), .ref (v.1 16), .ref (v.1 17), .ref (v.1 18), .ref (v.1 19), .ref (v.1 20), .ref (v.1 21), .ref (v.1 22), .ref (v.1 23), .ref (v.1 24), .ref (v.1 25), .ref (v.1 26), .int (nI (v.1 56)), .int (nI (v.1 57)), .int (nI (v.1 58)), .int (nI (v.1 59)), .int (nI (v.1 60)), .int (v.2.1 5), .int (v.2.1 6), .int (nI (v.1 61)), .int (nI (v.1 62)), .int (nI (v.1 63)), .int (nI (v.1 64)), .int (v.2.1 7), .int (v.2.1 8), .int (v.2.1 9), .int (v.2.1 10), .ref (v.1 27), .ref (v.1 28), .ref (v.1 29), .ref (v.1 30), .int (nI (v.1 65)), .int (v.2.1 11), .int (v.2.1 12), .int (v.2.1 13), .int (v.2.1 14), .int (nI (v.1 66)), .ref (v.1 31), .int (nI (v.1 67)), .int (nI (v.1 68)), .ref (v.1 32), .int (nI (v.1 69)), .ref (v.1 33), .ref (v.1 34), .ref (v.1 35), .ref (v.1 36), .ref (v.1 37), .ref (v.1 38), .ref (v.1 39), .ref (v.1 40), .ref (v.1 41), .ref (v.1 42), .int (nI (v.1 70)), .int (v.2.1 15), .ref (v.1 43), .int (v.2.1 16), .ref (v.1 44), .ref (v.1 45), .ref (v.1 46)], ((v.1 0), .inl (cy 1, 1600, .inl ((v.2.2.2.2.1 0)))), ((v.1 1), .inl (cy 2, 24, .inr (.inl ((v.2.2.2.2.2.1 0))))), ((v.1 2), .inl (cy 1, 960, .inl ((v.2.2.2.2.1 1)))), ((v.1 3), .inl (cy 1, 960, .inl ((v.2.2.2.2.1 2)))), ((v.1 4), .inl (cy 1, 3, .inl ((v.2.2.2.2.1 3)))), ((v.1 5), .inl (cy 1, 960, .inl ((v.2.2.2.2.1 4)))), ((v.1 6), .inl (cy 1, 960, .inl ((v.2.2.2.2.1 5)))), ((v.1 7), .inl (cy 1, 3, .inl ((v.2.2.2.2.1 6)))), ((v.1 8), .inl (cy 1, 160, .inl ((v.2.2.2.2.1 7)))), ((v.1 9), .inl (cy 1, 64, .inl ((v.2.2.2.2.1 8)))), ((v.1 10), .inl (cy 3, 3, .inl ((v.2.2.2.2.1 9)))), ((v.1 11), .inl (cy 3, 3, .inl ((v.2.2.2.2.1 10)))), ((v.1 12), .inl (cy 1, 7, .inl ((v.2.2.2.2.1 11)))), ((v.1 13), .inl (cy 1, 8, .inl ((v.2.2.2.2.1 12)))), ((v.1 14), .inl (cy 1, 4, .inl ((v.2.2.2.2.1 13)))), ((v.1 15), .inl (cy 1, 4, .inl ((v.2.2.2.2.1 14)))), ((v.1 16), .inl (cy 1, 4, .inl ((v.2.2.2.2.1 15)))), ((v.1 17), .inl (cy 1, 4, .inl ((v.2.2.2.2.1 16)))), ((v.1 18), .inl (cy 1, 48, .inl ((v.2.2.2.2.1 17)))), ((v.1 19), .inl (cy 1, 8, .inl ((v.2.2.2.2.1 18)))), ((v.1 20), .inl (cy 1, 4, .inl ((v.2.2.2.2.1 19)))), ((v.1 21), .inl (cy 1, 4, .inl ((v.2.2.2.2.1 20)))), ((v.1 22), .inl (cy 1, 4, .inl ((v.2.2.2.2.1 21)))), ((v.1 23), .inl (cy 1, 4, .inl ((v.2.2.2.2.1 22)))), ((v.1 24), .inl (cy 1, 48, .inl ((v.2.2.2.2.1 23)))), ((v.1 25), .inl (cy 3, 6, .inl ((v.2.2.2.2.1 24)))), ((v.1 26), .inl (cy 3, 6, .inl ((v.2.2.2.2.1 25)))), ((v.1 27), .inl (cy 1, 42, .inl ((v.2.2.2.2.1 26)))), ((v.1 28), .inl (cy 1, 10, .inl ((v.2.2.2.2.1 27)))), ((v.1 29), .inl (cy 1, 4, .inl ((v.2.2.2.2.1 28)))), ((v.1 30), .inl (cy 1, 20, .inl ((v.2.2.2.2.1 29)))), ((v.1 31), .inl (cy 1, 1680, .inl ((v.2.2.2.2.1 30)))), ((v.1 32), .inl (cy 1, 20, .inl ((v.2.2.2.2.1 31)))), ((v.1 33), .inl (cy 1, 3, .inl ((v.2.2.2.2.1 32)))), ((v.1 34), .inl (cy 1, 6, .inl ((v.2.2.2.2.1 33)))), ((v.1 35), .inl (cy 1, 6, .inl ((v.2.2.2.2.1 34)))), ((v.1 36), .inl (cy 1, 6, .inl ((v.2.2.2.2.1 35)))), ((v.1 37), .inl (cy 1, 6, .inl ((v.2.2.2.2.1 36)))), ((v.1 38), .inl (cy 1, 30, .inl ((v.2.2.2.2.1 37)))), ((v.1 39), .inl (cy 1, 30, .inl ((v.2.2.2.2.1 38)))), ((v.1 40), .inl (cy 1, 30, .inl ((v.2.2.2.2.1 39)))), ((v.1 41), .inl (cy 1, 30, .inl ((v.2.2.2.2.1 40)))), ((v.1 42), .inl (cy 1, 30, .inl ((v.2.2.2.2.1 41)))), ((v.1 43), .inl (cy 3, 100, .inl ((v.2.2.2.2.1 42)))), ((v.1 44), .inl (cy 1, 11, .inl ((v.2.2.2.2.1 43)))), ((v.1 45), .inl (cy 3, 3, .inl ((v.2.2.2.2.1 44)))), ((v.1 46), .inl (cy 1, 126, .inl ((v.2.2.2.2.1 45))))]
def okX (u : XS) : Prop := ((u.1 81) ≤ 1600) ∧ (cntOK (u.2.2.2.2.1 1) (u.1 85) (u.1 86) (u.1 87) (u.1 88)) ∧ ((u.1 85) ≤ 8) ∧ ((u.1 86) ≤ 4) ∧ ((u.1 87) ≤ 4) ∧ ((u.1 88) ≤ 6) ∧ (rng (u.2.2.2.2.1 7) 48 5) ∧ ((u.1 89) ≤ 280) ∧ (cOK (u.2.2.2.2.1 9) (u.1 89)) ∧ ((u.1 91) ≤ 280) ∧ (cOK (u.2.2.2.2.1 13) (u.1 91)) ∧ ((u.1 90) ≤ 280) ∧ (cOK (u.2.2.2.2.1 11) (u.1 90)) ∧ ((u.1 92) ≤ 40) ∧ ((u.1 93) + (u.1 94) ≤ 40) ∧ (mRows (u.2.2.2.2.1 29) 1) ∧ (mRows (u.2.2.2.2.1 30) 41) ∧ (mRows (u.2.2.2.2.1 31) 3) ∧ ((u.1 95) ≤ 30) ∧ ((u.1 96) ≤ 100) ∧ (rng (u.2.2.2.2.1 32) 30 3) ∧ (rng (u.2.2.2.2.1 33) 30 10) ∧ (∀ i9, i9 < 4 → (u.2.2.2.2.2.2.1 3) i9 ≤ 10) ∧ (rng (u.2.2.2.2.1 40) 20 7) ∧ (pRow (u.2.2.2.2.1 43)) ∧ (rng (u.2.2.2.2.1 47) 3 9) ∧ ((u.1 98) ≤ 3) ∧ ((u.1 99) ≤ 10) ∧ (rng (u.2.2.2.2.1 50) 10 7) ∧ ((u.1 100) ≤ 10) ∧ (rng (u.2.2.2.2.1 52) 10 7) ∧ ((u.1 101) ≤ 10) ∧ (rng (u.2.2.2.2.1 54) 10 7) ∧ ((u.1 102) ≤ 10) ∧ (kyOK (u.2.2.2.2.2.1 0))
def okM (v : XS) : Prop := ((v.1 47) ≤ 1600) ∧ ((v.1 49) ≤ (v.1 50)) ∧ ((v.1 50) ≤ 1600) ∧ ((v.1 48) ≤ 5) ∧ ((v.1 51) ≤ 2) ∧ ((v.1 56) ≤ 8) ∧ ((v.1 57) ≤ 4) ∧ ((v.1 58) ≤ 4) ∧ ((v.1 59) ≤ 6) ∧ ((v.1 61) ≤ 8) ∧ ((v.1 62) ≤ 4) ∧ ((v.1 63) ≤ 4) ∧ ((v.1 64) ≤ 6) ∧ ((v.1 65) ≤ 10) ∧ ((v.1 66) ≤ 20) ∧ ((v.1 67) + (v.1 68) ≤ 40) ∧ ((v.1 69) ≤ 20) ∧ ((v.1 70) ≤ 30) ∧ ((v.1 52) ≤ 40) ∧ ((v.1 55) ≤ 8) ∧ ((v.1 54) ≤ 31) ∧ ((v.1 53) ≤ 61) ∧ ((v.1 60) ≤ 30) ∧ (rng (v.2.2.2.2.1 27) 10 7) ∧ (rng (v.2.2.2.2.1 29) 20 7) ∧ (rng (v.2.2.2.2.1 37) 30 3) ∧ (rng (v.2.2.2.2.1 38) 30 10) ∧ (wRows (v.2.2.2.2.1 26) 1) ∧ (wRows (v.2.2.2.2.1 30) 40) ∧ (wRows (v.2.2.2.2.1 45) 3) ∧ (nxT (v.2.2.2.2.1 23)) ∧ (nxT (v.2.2.2.2.1 17)) ∧ (rng (v.2.2.2.2.1 36) 6 5) ∧ (rng (v.2.2.2.2.1 34) 6 5) ∧ (allR (v.2.2.2.2.1 1) (v.2.2.2.2.1 2) (v.2.2.2.2.1 3) (v.2.2.2.2.2.2.1 0) (v.2.2.2.2.2.2.2.2 0)) ∧ (allR (v.2.2.2.2.1 4) (v.2.2.2.2.1 5) (v.2.2.2.2.1 6) (v.2.2.2.2.2.2.1 1) (v.2.2.2.2.2.2.2.2 1)) ∧ (byN (v.2.2.2.2.1 0))
section L1S
abbrev HXT : Type := Nat × Nat × Nat × Nat × FN9 × FN9 × FN9 × FN9 × FN9 × FN9 × Int32 × Int32 × Int32 × Int32
abbrev HMT : Type := Nat × Nat × Nat × Nat × FN9 × FN9 × FN9 × FN9 × FN9 × FN9 × Int32 × Int32 × Int32
abbrev SST : Type := Nat × FN9 × FN9 × FN9 × FN9 × FN9
/-- class and reference hold the same HILLS -/
def RH (h : HXT) (m : HMT) : Prop :=
  (h.1 = m.1 ∧ h.2.1 = m.2.1 ∧ h.2.2.1 = m.2.2.1 ∧ h.2.2.2.1 = m.2.2.2.1) ∧ (h.1 ≤ 8 ∧ h.2.1 ≤ 4 ∧ h.2.2.1 ≤ 4 ∧ h.2.2.2.1 ≤ 6) ∧
  (rowR h.2.2.2.2.1 m.2.2.2.2.1 h.2.1 ∧ rowR h.2.2.2.2.2.1 m.2.2.2.2.2.1 h.2.1 ∧ rowR h.2.2.2.2.2.2.1 m.2.2.2.2.2.2.1 h.2.2.1 ∧ rowR h.2.2.2.2.2.2.2.1 m.2.2.2.2.2.2.2.1 h.2.2.1 ∧ rowR h.2.2.2.2.2.2.2.2.1 m.2.2.2.2.2.2.2.2.1 h.1) ∧
  (∀ s w : Nat, s < h.2.2.2.1 → w < 8 → nxC h.2.2.2.2.2.2.2.2.2.1 s w = nxR m.2.2.2.2.2.2.2.2.2.1 s w) ∧
  h.2.2.2.2.2.2.2.2.2.2.1 = m.2.2.2.2.2.2.2.2.2.2.1 ∧ h.2.2.2.2.2.2.2.2.2.2.2.1 = m.2.2.2.2.2.2.2.2.2.2.2.1 ∧ h.2.2.2.2.2.2.2.2.2.2.2.2.2 = m.2.2.2.2.2.2.2.2.2.2.2.2
/-- class and reference hold the same SOUNDS -/
def RS (t : Int32) (a b : SST) : Prop :=
  a.1 = b.1 ∧ a.1 ≤ 30 ∧ (∃ n : Nat, n ≤ 100000 ∧ t = nI n) ∧ ∀ i, i < a.1 → a.2.1 i = b.2.1 i ∧ a.2.2.1 i = b.2.2.1 i ∧ a.2.2.2.1 i = b.2.2.2.1 i ∧ a.2.2.2.2.1 i = b.2.2.2.2.1 i ∧ a.2.2.2.2.2 i = b.2.2.2.2.2 i ∧ (a.2.2.2.2.2 i = -1 ∨ ∃ n : Nat, n ≤ 100000 ∧ a.2.2.2.2.2 i = nI n)
theorem RH_eq {h h2 : HXT} {m m2 : HMT} (R : RH h m) (e1 : h2 = h) (e2 : m2 = m) : RH h2 m2 := by subst e1 e2; exact R
theorem RS_eq {t t2 : Int32} {h h2 : SST} {m m2 : SST} (R : RS t h m) (e : t2 = t) (e1 : h2 = h) (e2 : m2 = m) : RS t2 h2 m2 := by subst e e1 e2; exact R
theorem upd_same {f g : FN9} {i k : Nat} {x y : Int32} (h : i < k → f i = g i) (hi : i < k + 1) (e : x = y) : upd f k x i = upd g k y i := by
  subst e
  by_cases h9 : i = k
  · rw [h9, pk_us, pk_us]
  · rw [pk_un h9, pk_un h9]; exact h (by omega)
theorem so_same {c1 n1 uc us uc2 us2 : Nat} {t t' x n z r r' : Int32} {f1 f2 f3 f4 f5 g1 g2 g3 g4 g5 a1 a2 a3 a4 a5 b1 b2 b3 b4 b5 : FN9} (hc : c1 = n1) (ht : t = t') (R : RS t (uc, f1, f2, f3, f4, f5) (us, g1, g2, g3, g4, g5)) (h1 : soS c1 uc f1 f2 f3 f4 f5 t x n z r uc2 a1 a2 a3 a4 a5) (h2 : soS n1 us g1 g2 g3 g4 g5 t' x n z r' us2 b1 b2 b3 b4 b5) : r = r' ∧ RS t (uc2, a1, a2, a3, a4, a5) (us2, b1, b2, b3, b4, b5) := by
  subst hc ht
  obtain ⟨e0, e30, et, ea⟩ := R
  have e0 : uc = us := e0
  have e30 : uc ≤ 30 := e30
  subst e0
  rcases h1 with ⟨p1, p2, ⟨p3, p4, p5, p6, p7⟩, p8⟩ | ⟨⟨q1, q2, q3, q4, q5⟩, q6⟩ <;> rcases h2 with ⟨p1', p2', ⟨p3', p4', p5', p6', p7'⟩, p8'⟩ | ⟨⟨q1', q2', q3', q4', q5'⟩, q6'⟩
  · subst p2 p3 p4 p5 p6 p7 p2' p3' p4' p5' p6' p7'
    exact ⟨by rw [p1, p1'], rfl, e30, et, ea⟩
  · rcases p8 with h | h | h | h | h <;> exact absurd h (by first | exact not_not_intro q1' | assumption)
  · rcases p8' with h | h | h | h | h <;> exact absurd h (by first | exact not_not_intro q1 | assumption)
  · rcases q6 with ⟨a0, a6, a7, h1, h2, h3, h4, h5⟩ | ⟨a0, a6, a7, h1, h2, h3, h4, h5⟩ <;> rcases q6' with ⟨b0, b6, b7, k1, k2, k3, k4, k5⟩ | ⟨b0, b6, b7, k1, k2, k3, k4, k5⟩
    · subst a7 b7 h1 h2 h3 h4 h5 k1 k2 k3 k4 k5
      exact ⟨by rw [a6, b6], rfl, e30, et, ea⟩
    · omega
    · omega
    · subst a7 b7 h1 h2 h3 h4 h5 k1 k2 k3 k4 k5
      refine ⟨by rw [a6, b6], rfl, show uc + 1 ≤ 30 by omega, et, fun i hi => ?_⟩
      have hi : i < uc + 1 := hi
      refine ⟨upd_same (fun h => (ea i h).1) hi rfl, upd_same (fun h => (ea i h).2.1) hi rfl, upd_same (fun h => (ea i h).2.2.1) hi rfl, upd_same (fun h => (ea i h).2.2.2.1) hi rfl, upd_same (fun h => (ea i h).2.2.2.2.1) hi rfl, ?_⟩
      show upd f5 uc (-1) i = -1 ∨ ∃ n : Nat, n ≤ 100000 ∧ upd f5 uc (-1) i = nI n
      by_cases h9 : i = uc
      · rw [h9, pk_us]; exact Or.inl rfl
      · rw [pk_un h9]; exact (ea i (show i < uc by omega)).2.2.2.2.2
theorem neg_iff {x : Int32} (h : x = -1 ∨ ∃ n : Nat, n ≤ 100000 ∧ x = nI n) : x = -1 ↔ x < 0 := by
  constructor
  · intro h9; rw [h9]; decide
  · intro h9
    rcases h with h | ⟨n, hn, e⟩
    · exact h
    · exact absurd (e ▸ h9) (nI_pos (by omega))
theorem un_same {uc us : Nat} {t t' x r r' : Int32} {f1 f2 f3 f4 f5 g1 g2 g3 g4 g5 a5 b5 : FN9} (ht : t = t') (R : RS t (uc, f1, f2, f3, f4, f5) (us, g1, g2, g3, g4, g5)) (h1 : unS (fun y => y = -1) uc f5 t x r a5) (h2 : unS (fun y => y < 0) us g5 t' x r' b5) : r = r' ∧ RS t (uc, f1, f2, f3, f4, a5) (us, g1, g2, g3, g4, b5) := by
  subst ht
  obtain ⟨e0, e30, et, ea⟩ := R
  have e0 : uc = us := e0
  have e30 : uc ≤ 30 := e30
  subst e0
  have hk : ∀ j, j < uc → (f5 j = -1 ↔ g5 j < 0) := fun j hj => by
    have h9 := ea j hj
    have e5 : f5 j = g5 j := h9.2.2.2.2.1
    rw [← e5]
    exact neg_iff h9.2.2.2.2.2
  rcases h1 with ⟨p1, p2, p3⟩ | ⟨p1, j, p2, p3, p4, p5⟩ <;> rcases h2 with ⟨q1, q2, q3⟩ | ⟨q1, k, q2, q3, q4, q5⟩
  · subst p2 q2
    exact ⟨by rw [p1, q1], rfl, e30, et, ea⟩
  · exact absurd ⟨k, q2, q3, (hk k q2).mpr q4⟩ p3
  · exact absurd ⟨j, p2, p3, (hk j p2).mp p4⟩ q3
  · have e := nI_inj (by omega) (by omega) (p3.symm.trans q3)
    subst e p5 q5
    refine ⟨by rw [p1, q1], rfl, e30, et, fun i hi => ?_⟩
    have hi : i < uc := hi
    obtain ⟨r1, r2, r3, r4, r5, r6⟩ := ea i hi
    refine ⟨r1, r2, r3, r4, ?_, ?_⟩
    · show upd f5 j t i = upd g5 j t i
      by_cases h9 : i = j
      · rw [h9, pk_us, pk_us]
      · rw [pk_un h9, pk_un h9]; exact r5
    · show upd f5 j t i = -1 ∨ ∃ n : Nat, n ≤ 100000 ∧ upd f5 j t i = nI n
      by_cases h9 : i = j
      · rw [h9, pk_us]; exact Or.inr et
      · rw [pk_un h9]; exact r6
theorem later_RS {t t2 b r : Int32} {h m : SST} (R : RS t h m) (e : (r, t2) = laterF t b) : RS t2 h m := by
  obtain ⟨e0, e30, ⟨n, hn, et⟩, ea⟩ := R
  refine ⟨e0, e30, ?_, ea⟩
  unfold laterF at e
  by_cases h1 : b < 0
  · rw [if_pos h1] at e; cases e; exact ⟨n, hn, et⟩
  · rw [if_neg h1] at e
    by_cases h2 : 1000 < b
    · rw [if_pos h2] at e; cases e; exact ⟨n, hn, et⟩
    · rw [if_neg h2] at e
      by_cases h3 : t + b ≤ 100000
      · rw [if_pos h3] at e
        obtain ⟨j, hj, eb⟩ := nI_of h1
        have hj2 : j ≤ 1000 := by
          rw [eb] at h2
          have := q_nlt (a := 1000) (b := j) rfl rfl (by omega) hj h2
          omega
        rw [et, eb, nI_add] at e h3
        cases e
        exact ⟨n + j, q_le (a := n + j) (b := 100000) rfl rfl (by omega) (by omega) h3, rfl⟩
      · rw [if_neg h3] at e; cases e; exact ⟨n, hn, et⟩
theorem ld_same {h : HXT} {m : HMT} {xs xw r r' : Int32} (R : RH h m) (h1 : ldS (nxC h.2.2.2.2.2.2.2.2.2.1) h.2.2.2.1 h.1 xs xw r) (h2 : ldS (nxR m.2.2.2.2.2.2.2.2.2.1) m.2.2.2.1 m.1 xs xw r') : r = r' := by
  obtain ⟨⟨c0, c1, c2, c3⟩, ⟨b0, b1, b2, b3⟩, _, hx, _⟩ := R
  rw [← c0, ← c3] at h2
  rcases h1 with ⟨p1, p2⟩ | ⟨s, w, p1, p2, p3, p4, p5⟩ <;> rcases h2 with ⟨q1, q2⟩ | ⟨s', w', q1, q2, q3, q4, q5⟩
  · rw [p1, q1]
  · exact absurd p2 (not_or.mpr ⟨not_not_intro ⟨s', q1, q3⟩, not_not_intro ⟨w', q2, q4⟩⟩)
  · exact absurd q2 (not_or.mpr ⟨not_not_intro ⟨s, p1, p3⟩, not_not_intro ⟨w, p2, p4⟩⟩)
  · have e1 := nI_inj (by omega) (by omega) (p3.symm.trans q3)
    have e2 := nI_inj (by omega) (by omega) (p4.symm.trans q4)
    subst e1 e2
    rw [p5, q5, hx s w p1 (by omega)]
theorem td_RH {s : AS} {c0 c1 c2 c3 : Nat} {fp fcs fmp fmv flo fx : FN9} {hon hwi hdr hu : Int32} {nW nC nM nS : Nat} {ca sn ma vo lo on : FN9} {ons wi un : Int32} (b : c0 ≤ 8 ∧ c1 ≤ 4 ∧ c2 ≤ 4 ∧ c3 ≤ 6) (h : tdC s c0 c1 c2 c3 fp fcs fmp fmv flo fx hon hwi hdr hu) (k : tdR s nW nC nM nS ca sn ma vo lo on ons wi un) : RH (c0, c1, c2, c3, fp, fcs, fmp, fmv, flo, fx, hon, hwi, hdr, hu) (nW, nC, nM, nS, ca, sn, ma, vo, lo, on, ons, wi, un) := by
  obtain ⟨⟨e0, e1, e2, e3⟩, ⟨r0, r1, r2, r3, r4⟩, ex, v1, v2, v3, v4⟩ := h
  obtain ⟨⟨k0, k1, k2, k3⟩, ⟨s0, s1, s2, s3, s4⟩, kx, w1, w2, w3⟩ := k
  subst e0 e1 e2 e3 k0 k1 k2 k3
  have tr : ∀ {f g k : FN9} {c : Nat}, rowR f k c → rowR g k c → rowR f g c := fun h1 h2 i hi => (h1 i hi).trans (h2 i hi).symm
  refine ⟨⟨rfl, rfl, rfl, rfl⟩, b, ⟨tr r1 s1, tr r2 s2, tr r3 s3, tr r4 s4, tr r0 s0⟩, fun a w ha hw => ?_, v1.trans w1.symm, v2.trans w2.symm, v4.trans w3.symm⟩
  have ha : a < sC s 3 := ha
  show fx (8 * a + w) = if on (8 * a + w) = -1 then nI a else on (8 * a + w)
  have hb := b.2.2.2
  rw [kx (8 * a + w) (by omega), ex (8 * a + w) (by omega), show (8 * a + w) / 8 = a by omega]
/-- hills, of both -/
def hlX (f : FN9) (n : Nat) (h h2 : HXT) (s s2 : SST) : Prop := (h2 = h ∧ s2 = s ∧ ∃ e, PR f n aS0 (.inl e)) ∨ ∃ gs, PR f n aS0 (.inr gs) ∧ s2.1 = 0 ∧ tdC gs h2.1 h2.2.1 h2.2.2.1 h2.2.2.2.1 h2.2.2.2.2.1 h2.2.2.2.2.2.1 h2.2.2.2.2.2.2.1 h2.2.2.2.2.2.2.2.1 h2.2.2.2.2.2.2.2.2.1 h2.2.2.2.2.2.2.2.2.2.1 h2.2.2.2.2.2.2.2.2.2.2.1 h2.2.2.2.2.2.2.2.2.2.2.2.1 h2.2.2.2.2.2.2.2.2.2.2.2.2.1 h2.2.2.2.2.2.2.2.2.2.2.2.2.2
def hlM (f : FN9) (n : Nat) (h h2 : HMT) (s s2 : SST) : Prop := (h2 = h ∧ s2 = s ∧ ∃ e, PR f n aS0 (.inl e)) ∨ ∃ gs, PR f n aS0 (.inr gs) ∧ s2.1 = 0 ∧ tdR gs h2.1 h2.2.1 h2.2.2.1 h2.2.2.2.1 h2.2.2.2.2.1 h2.2.2.2.2.2.1 h2.2.2.2.2.2.2.1 h2.2.2.2.2.2.2.2.1 h2.2.2.2.2.2.2.2.2.1 h2.2.2.2.2.2.2.2.2.2.1 h2.2.2.2.2.2.2.2.2.2.2.1 h2.2.2.2.2.2.2.2.2.2.2.2.1 h2.2.2.2.2.2.2.2.2.2.2.2.2
theorem hl_same {f g : FN9} {n n' : Nat} {t : Int32} {h h2 : HXT} {m m2 : HMT} {s s2 z z2 : SST} (hn : n = n') (ht : tpR f g n) (R : RH h m) (S : RS t s z) (b : h2.1 ≤ 8 ∧ h2.2.1 ≤ 4 ∧ h2.2.2.1 ≤ 4 ∧ h2.2.2.2.1 ≤ 6) (h1 : hlX f n h h2 s s2) (k1 : hlM g n' m m2 z z2) : RH h2 m2 ∧ RS t s2 z2 := by
  subst hn
  rcases h1 with ⟨p1, p2, e, p3⟩ | ⟨gs, p1, p2, p3⟩ <;> rcases k1 with ⟨q1, q2, e', q3⟩ | ⟨gs', q1, q2, q3⟩
  · subst p1 p2 q1 q2; exact ⟨R, S⟩
  · have e := (PR_tp ht p3).det q1; cases e
  · have e := (PR_tp ht p1).det q3; cases e
  · have e := (PR_tp ht p1).det q1
    cases e
    refine ⟨td_RH b p3 q3, p2.trans q2.symm, by rw [p2]; decide, S.2.2.1, fun i hi => ?_⟩
    rw [p2] at hi
    exact absurd hi (Nat.not_lt_zero i)
end L1S
section MOM
/-- where the class keeps what the reference keeps at k, in one moment -/
def phi (k : Nat) : Nat := if k < 10 then k + 1 else if k < 20 then k + 2 else if k = 20 then 0 else if k = 21 then 11 else if k = 22 then 22 else if k < 27 then k + 2 else if k = 27 then 23 else if k = 28 then 24 else k
theorem phi_lt {k : Nat} (h : k < 41) : phi k < 41 := by unfold phi; repeat' split
                                                         all_goals omega
theorem phi_inj {k j : Nat} (hk : k < 41) (hj : j < 41) (h : phi k = phi j) : k = j := by
  have H : ∀ k, k < 41 → ∀ j, j < 41 → phi k = phi j → k = j := by decide +kernel
  exact H k hk j hj h
/-- one moment of the class at o of f, one of the reference at p of g: alike up to N; NOONS at most 999, snow at most 9 -/
def nowR (N : Nat) (f : FN9) (o : Nat) (g : FN9) (p : Nat) : Prop :=
  (∀ k, k < N → f (o + phi k) = g (p + k)) ∧ (∃ j : Nat, j ≤ 999 ∧ f (o + 24) = nI j) ∧ ∀ c, c < 4 → ∃ j : Nat, j ≤ 9 ∧ f (o + (25 + c)) = nI j
theorem nowR_ext {N : Nat} {f g f2 g2 : FN9} {o p o2 p2 : Nat} (hN : N ≤ 41) (h : nowR N f o g p) (h1 : ∀ k, k < 41 → f2 (o2 + k) = f (o + k)) (h2 : ∀ k, k < 41 → g2 (p2 + k) = g (p + k)) : nowR N f2 o2 g2 p2 := by
  obtain ⟨a, ⟨j, hj, b⟩, c⟩ := h
  refine ⟨fun k hk => ?_, ⟨j, hj, ?_⟩, fun q hq => ?_⟩
  · rw [h1 (phi k) (phi_lt (by omega)), h2 k (by omega)]; exact a k hk
  · rw [h1 24 (by omega)]; exact b
  · obtain ⟨i, hi, e⟩ := c q hq
    exact ⟨i, hi, by rw [h1 (25 + q) (by omega)]; exact e⟩
/-- the class's ring and the reference's shifted row -/
def RM (N : Nat) (fn fq fb : FN9) (fu : Int32) (cu un re : Nat) (gn gw gb hb : FN9) (ac ud : Nat) : Prop :=
  (cu ≤ 40 ∧ un + re ≤ 40 ∧ un = ac ∧ re = ud) ∧ nowR N fn 0 gn 0 ∧ (∀ k, k < 41 → fq (41 * cu + k) = fn k) ∧
  (∀ d, 1 ≤ d → d ≤ un → nowR N fq (41 * ((cu + 41 - d) % 41)) gw (42 * (un - d))) ∧
  (∀ d, 1 ≤ d → d ≤ re → nowR N fq (41 * ((cu + d) % 41)) gw (42 * (un + d - 1))) ∧
  (∃ m : Nat, m < 8 ∧ fu = nI m ∧ ∀ b, b < 3 → (m / 2 ^ b % 2 = 0 ↔ hb b = 0)) ∧
  ∀ b, b < 3 → ¬ hb b = 0 → nowR N fb (41 * b) gb (42 * b)
theorem RM_act {N : Nat} {fn fq fb : FN9} {fu : Int32} {cu un re : Nat} {gn gw gb hb : FN9} {ac ud : Nat} {fn2 fq2 gn2 gw2 : FN9} {cu2 un2 re2 ac2 ud2 : Nat} (hN : N ≤ 41) (R : RM N fn fq fb fu cu un re gn gw gb hb ac ud) (hn : nowR N fn2 0 gn2 0) (h1 : actC fn2 fq cu un fq2 cu2 un2 re2) (h2 : actR gn gw ac gw2 ac2 ud2) : RM N fn2 fq2 fb fu cu2 un2 re2 gn2 gw2 gb hb ac2 ud2 := by
  obtain ⟨⟨b1, b2, b3, b4⟩, n0, q0, pa, fa, bx, bo⟩ := R
  obtain ⟨a1, a2, a3, a4⟩ := h1
  obtain ⟨c1, c2, c3, c4⟩ := h2
  subst b3 b4
  have hcu : cu2 ≤ 40 := by omega
  have hin : ∀ k, k < 41 → fq2 (41 * cu2 + k) = fn2 k := fun k hk => by
    rw [a4, pk_cpy_in (by omega) (by omega)]
    congr 1
    omega
  have hout : ∀ r k, r ≤ 40 → ¬ r = cu2 → k < 41 → fq2 (41 * r + k) = fq (41 * r + k) := fun r k hr hne hk => by
    rw [a4]
    exact pk_cpy_out (by omega)
  refine ⟨⟨hcu, by omega, by omega, by omega⟩, hn, hin, fun d hd1 hd2 => ?_, fun d hd1 hd2 => by omega, bx, bo⟩
  by_cases hd : d = 1
  · subst hd
    have e : (cu2 + 41 - 1) % 41 = cu := by omega
    rw [e, show un2 = ac2 by omega]
    refine nowR_ext hN n0 (fun k hk => ?_) (fun k hk => ?_)
    · rw [hout cu k b1 (by omega) hk, q0 k hk, Nat.zero_add]
    · rw [c4 k hk, Nat.zero_add]
  · have e : (cu2 + 41 - d) % 41 = (cu + 41 - (d - 1)) % 41 := by omega
    rw [e, show un2 = ac2 by omega]
    have hle : d - 1 ≤ un := by omega
    refine nowR_ext hN (pa (d - 1) (by omega) hle) (fun k hk => ?_) (fun k hk => ?_)
    · exact hout _ k (by omega) (by omega) hk
    · rw [c3 d (by omega) (by omega) k hk, show un + 1 - d = un - (d - 1) by omega]
theorem cpy_row {f g : FN9} {o k : Nat} (hk : k < 41) : va_cpy f g o 0 41 k = f (o + k) := by
  rw [pk_cpy_in (by omega) (by omega)]
  congr 1
theorem cpy_00 {f g : FN9} {k : Nat} (hk : k < 41) : va_cpy f g 0 0 41 k = f k := by
  rw [cpy_row hk, Nat.zero_add]
theorem RM_back {N : Nat} {fn fq fb : FN9} {fu : Int32} {cu un re : Nat} {gn gw gb hb : FN9} {ac ud : Nat} {gn2 gw2 : FN9} (hN : N ≤ 41) (R : RM N fn fq fb fu cu un re gn gw gb hb ac ud) (h0 : 1 ≤ un) (h : exR gn gw (42 * (ac - 1)) gn2 gw2) : RM N (va_cpy fq fn (41 * ((cu + 41 - 1) % 41)) 0 41) fq fb fu ((cu + 41 - 1) % 41) (un - 1) (re + 1) gn2 gw2 gb hb (ac - 1) (ud + 1) := by
  obtain ⟨⟨b1, b2, b3, b4⟩, n0, q0, pa, fa, bx, bo⟩ := R
  obtain ⟨x1, x2, x3⟩ := h
  subst b3 b4
  refine ⟨⟨by omega, by omega, rfl, rfl⟩, ?_, ?_, fun d hd1 hd2 => ?_, fun d hd1 hd2 => ?_, bx, bo⟩
  · refine nowR_ext hN (pa 1 (by omega) h0) (fun k hk => ?_) (fun k hk => ?_)
    · rw [Nat.zero_add, cpy_row hk]
    · rw [Nat.zero_add, x1 k hk]
  · intro k hk; rw [cpy_row hk]
  · have e : ((cu + 41 - 1) % 41 + 41 - d) % 41 = (cu + 41 - (d + 1)) % 41 := by omega
    rw [e, show un - 1 - d = un - (d + 1) by omega]
    refine nowR_ext hN (pa (d + 1) (by omega) (by omega)) (fun k hk => rfl) (fun k hk => ?_)
    exact x3 _ (by omega)
  · by_cases hd : d = 1
    · subst hd
      have e : ((cu + 41 - 1) % 41 + 1) % 41 = cu := by omega
      rw [e, show un - 1 + 1 - 1 = un - 1 by omega]
      refine nowR_ext hN n0 (fun k hk => ?_) (fun k hk => ?_)
      · rw [q0 k hk, Nat.zero_add]
      · rw [x2 k hk, Nat.zero_add]
    · have e : ((cu + 41 - 1) % 41 + d) % 41 = (cu + (d - 1)) % 41 := by omega
      rw [e, show un - 1 + d - 1 = un + (d - 1) - 1 by omega]
      refine nowR_ext hN (fa (d - 1) (by omega) (by omega)) (fun k hk => rfl) (fun k hk => ?_)
      exact x3 _ (by omega)
theorem RM_on {N : Nat} {fn fq fb : FN9} {fu : Int32} {cu un re : Nat} {gn gw gb hb : FN9} {ac ud : Nat} {gn2 gw2 : FN9} (hN : N ≤ 41) (R : RM N fn fq fb fu cu un re gn gw gb hb ac ud) (h0 : 1 ≤ re) (h : exR gn gw (42 * ac) gn2 gw2) : RM N (va_cpy fq fn (41 * ((cu + 1) % 41)) 0 41) fq fb fu ((cu + 1) % 41) (un + 1) (re - 1) gn2 gw2 gb hb (ac + 1) (ud - 1) := by
  obtain ⟨⟨b1, b2, b3, b4⟩, n0, q0, pa, fa, bx, bo⟩ := R
  obtain ⟨x1, x2, x3⟩ := h
  subst b3 b4
  refine ⟨⟨by omega, by omega, rfl, rfl⟩, ?_, ?_, fun d hd1 hd2 => ?_, fun d hd1 hd2 => ?_, bx, bo⟩
  · refine nowR_ext hN (fa 1 (by omega) h0) (fun k hk => ?_) (fun k hk => ?_)
    · rw [Nat.zero_add, cpy_row hk]
    · rw [Nat.zero_add, x1 k hk, show un + 1 - 1 = un by omega]
  · intro k hk; rw [cpy_row hk]
  · by_cases hd : d = 1
    · subst hd
      have e : ((cu + 1) % 41 + 41 - 1) % 41 = cu := by omega
      rw [e, show un + 1 - 1 = un by omega]
      refine nowR_ext hN n0 (fun k hk => ?_) (fun k hk => ?_)
      · rw [q0 k hk, Nat.zero_add]
      · rw [x2 k hk, Nat.zero_add]
    · have e : ((cu + 1) % 41 + 41 - d) % 41 = (cu + 41 - (d - 1)) % 41 := by omega
      rw [e, show un + 1 - d = un - (d - 1) by omega]
      refine nowR_ext hN (pa (d - 1) (by omega) (by omega)) (fun k hk => rfl) (fun k hk => ?_)
      exact x3 _ (by omega)
  · have e : ((cu + 1) % 41 + d) % 41 = (cu + (d + 1)) % 41 := by omega
    rw [e, show un + 1 + d - 1 = un + (d + 1) - 1 by omega]
    refine nowR_ext hN (fa (d + 1) (by omega) (by omega)) (fun k hk => rfl) (fun k hk => ?_)
    exact x3 _ (by omega)
theorem bits3 : ∀ m : Nat, m < 8 → ∀ b : Nat, b < 3 → (nI m >>> (nI b &&& 31)) &&& 1 = nI (m / 2 ^ b % 2) := by decide +kernel
theorem bitO3 : ∀ m : Nat, m < 8 → ∀ b : Nat, b < 3 → ∃ m2 : Nat, m2 < 8 ∧ nI m ||| ((1 : Int32) <<< (nI b &&& 31)) = nI m2 ∧ ∀ c : Nat, c < 3 → m2 / 2 ^ c % 2 = if c = b then 1 else m / 2 ^ c % 2 := by
  have H : ∀ m : Nat, m < 8 → ∀ b : Nat, b < 3 → nI m ||| ((1 : Int32) <<< (nI b &&& 31)) = nI (m ||| 2 ^ b) ∧ (m ||| 2 ^ b) < 8 ∧ ∀ c : Nat, c < 3 → (m ||| 2 ^ b) / 2 ^ c % 2 = if c = b then 1 else m / 2 ^ c % 2 := by decide +kernel
  intro m hm b hb
  have h := H m hm b hb
  exact ⟨m ||| 2 ^ b, h.2.1, h.1, h.2.2⟩
/-- both keep now in a BOX -/
theorem RM_image {N : Nat} {fn fq fb : FN9} {fu : Int32} {cu un re : Nat} {gn gw gb hb : FN9} {ac ud : Nat} {b : Nat} {fb2 gb2 hb2 : FN9} {fu2 : Int32} (hN : N ≤ 41) (R : RM N fn fq fb fu cu un re gn gw gb hb ac ud) (hb3 : b < 3) (h1 : fb2 = va_cpy fn fb 0 (41 * b) 41 ∧ fu2 = fu ||| ((1 : Int32) <<< (nI b &&& 31))) (h2 : (∀ k, k < 41 → gb2 (42 * b + k) = gn k) ∧ (∀ q, (q < 42 * b ∨ 42 * b + 41 ≤ q) → gb2 q = gb q) ∧ hb2 = upd hb b 1) : RM N fn fq fb2 fu2 cu un re gn gw gb2 hb2 ac ud := by
  obtain ⟨c0, n0, q0, pa, fa, ⟨m, hm, em, eb⟩, bo⟩ := R
  obtain ⟨h1a, h1b⟩ := h1
  obtain ⟨h2a, h2b, h2c⟩ := h2
  obtain ⟨m2, hm2, em2, hbit⟩ := bitO3 m hm b hb3
  refine ⟨c0, n0, q0, pa, fa, ⟨m2, hm2, by rw [h1b, em, em2], fun c hc => ?_⟩, fun c hc hne => ?_⟩
  · rw [hbit c hc, h2c]
    by_cases e : c = b
    · rw [if_pos e, e, pk_us]; constructor <;> intro h <;> exact absurd h (by decide)
    · rw [if_neg e, pk_un e]; exact eb c hc
  · by_cases e : c = b
    · subst e
      refine nowR_ext hN n0 (fun k hk => ?_) (fun k hk => ?_)
      · rw [h1a, pk_cpy_in (by omega) (by omega)]
        congr 1
        omega
      · rw [h2a k hk, Nat.zero_add]
    · rw [h2c, pk_un e] at hne
      refine nowR_ext hN (bo c hc hne) (fun k hk => ?_) (fun k hk => ?_)
      · rw [h1a]; exact pk_cpy_out (by omega)
      · exact h2b _ (by omega)
/-- both go back to a BOX -/
theorem RM_box {N : Nat} {fn fq fb : FN9} {fu : Int32} {cu un re : Nat} {gn gw gb hb : FN9} {ac ud : Nat} {b : Nat} {fn2 fq2 gn2 : FN9} (hN : N ≤ 41) (R : RM N fn fq fb fu cu un re gn gw gb hb ac ud) (hb3 : b < 3) (hh : ¬ hb b = 0) (h1 : fn2 = va_cpy fb fn (41 * b) 0 41 ∧ fq2 = va_cpy fn2 fq 0 0 41) (h2 : ∀ k, k < 41 → gn2 k = gb (42 * b + k)) : RM N fn2 fq2 fb fu 0 0 0 gn2 gw gb hb 0 0 := by
  obtain ⟨c0, n0, q0, pa, fa, bx, bo⟩ := R
  refine ⟨⟨by omega, by omega, rfl, rfl⟩, ?_, fun k hk => ?_, fun d hd1 hd2 => by omega, fun d hd1 hd2 => by omega, bx, bo⟩
  · refine nowR_ext hN (bo b hb3 hh) (fun k hk => ?_) (fun k hk => ?_)
    · rw [Nat.zero_add, h1.1, cpy_row hk]
    · rw [Nat.zero_add, h2 k hk]
  · rw [h1.2, show 41 * 0 + k = k by omega]; exact cpy_00 hk
theorem box_iff {N : Nat} {fn fq fb : FN9} {fu : Int32} {cu un re : Nat} {gn gw gb hb : FN9} {ac ud b : Nat} (R : RM N fn fq fb fu cu un re gn gw gb hb ac ud) (hb3 : b < 3) : (fu >>> (nI b &&& 31)) &&& 1 = 0 ↔ hb b = 0 := by
  obtain ⟨_, _, _, _, _, ⟨m, hm, em, eb⟩, _⟩ := R
  rw [← eb b hb3, em, bits3 m hm b hb3]
  have hlt : m / 2 ^ b % 2 < 2 := Nat.mod_lt _ (by decide)
  constructor
  · intro h; exact nI_inj (b := 0) (by omega) (by decide) h
  · intro h; rw [h]; rfl
/-- new HILLS: nothing is kept -/
theorem RM_new {N : Nat} {fn fq fb gn gw gb hb : FN9} (hn : nowR N fn 0 gn 0) (hq : ∀ k, k < 41 → fq k = fn k) (hh : ∀ b, b < 3 → hb b = 0) : RM N fn fq fb 0 0 0 0 gn gw gb hb 0 0 := by
  refine ⟨⟨by omega, by omega, rfl, rfl⟩, hn, fun k hk => ?_, fun d hd1 hd2 => by omega, fun d hd1 hd2 => by omega, ⟨0, by omega, rfl, fun b h3 => ?_⟩, fun b h3 hne => absurd (hh b h3) hne⟩
  · rw [show 41 * 0 + k = k by omega]
    exact hq k hk
  · rw [hh b h3, Nat.zero_div]; exact ⟨fun _ => rfl, fun _ => rfl⟩
end MOM
section MOM3
theorem nowR_put {N : Nat} {f g : FN9} {k a : Nat} {x : Int32} (hN : N ≤ 41) (h : nowR N f 0 g 0) (hk : k < 41) (ha : a = phi k) (h24 : a = 24 → ∃ j : Nat, j ≤ 999 ∧ x = nI j) (h25 : 25 ≤ a → a < 29 → ∃ j : Nat, j ≤ 9 ∧ x = nI j) : nowR N (upd f a x) 0 (upd g k x) 0 := by
  subst ha
  obtain ⟨p, q, r⟩ := h
  refine ⟨fun j hj => ?_, ?_, fun c hc => ?_⟩
  · by_cases e : j = k
    · subst e; rw [Nat.zero_add, Nat.zero_add, pk_us, pk_us]
    · rw [Nat.zero_add, Nat.zero_add, pk_un e, pk_un (fun h9 => e (phi_inj (by omega) hk h9))]
      have := p j hj
      rwa [Nat.zero_add, Nat.zero_add] at this
  · rw [Nat.zero_add] at q ⊢
    by_cases e : 24 = phi k
    · rw [e, pk_us]; exact h24 e.symm
    · rw [pk_un e]; exact q
  · have r9 := r c hc
    rw [Nat.zero_add] at r9 ⊢
    by_cases e : 25 + c = phi k
    · rw [e, pk_us]; exact h25 (by omega) (by omega)
    · rw [pk_un e]; exact r9
/-- what the parts of now that are not compared hold is left open -/
theorem nowR_put9 {N : Nat} {f g : FN9} {k a : Nat} {x y : Int32} (hN : N ≤ 29) (h : nowR N f 0 g 0) (hk : 29 ≤ k) (ha : 29 ≤ a) : nowR N (upd f a x) 0 (upd g k y) 0 := by
  obtain ⟨p, q, r⟩ := h
  have hp : ∀ j, j < 29 → phi j < 29 := by decide
  refine ⟨fun j hj => ?_, ?_, fun c hc => ?_⟩
  · have := hp j (by omega)
    rw [Nat.zero_add, Nat.zero_add, pk_un (by omega), pk_un (by omega)]
    have := p j hj
    rwa [Nat.zero_add, Nat.zero_add] at this
  · rw [pk_un (by omega)]; exact q
  · rw [pk_un (by omega)]; exact r c hc
theorem nowR_at {N : Nat} {f g : FN9} {k a : Nat} (h : nowR N f 0 g 0) (hk : k < N) (ha : a = phi k) : f a = g k := by
  have := h.1 k hk
  rw [Nat.zero_add, Nat.zero_add] at this
  rw [ha]; exact this
theorem upd_comm {f : FN9} {a b : Nat} {x y : Int32} (h : ¬ a = b) : upd (upd f a x) b y = upd (upd f b y) a x := by
  funext q
  by_cases h1 : q = b
  · subst h1; rw [pk_us, pk_un (fun e => h e.symm), pk_us]
  · by_cases h2 : q = a
    · subst h2; rw [pk_un h1, pk_us, pk_us]
    · rw [pk_un h1, pk_un h2, pk_un h2, pk_un h1]
theorem phi_len {c : Nat} (hc : c < 2) : 11 * c = phi (20 + c) := by
  rcases (show c = 0 ∨ c = 1 by omega) with rfl | rfl <;> rfl
theorem phi_word : ∀ c : Nat, c < 2 → ∀ i : Nat, i < 10 → 11 * c + 1 + i = phi (10 * c + i) := by decide
variable {N : Nat} {fn fq fb : FN9} {fu : Int32} {cu un re : Nat} {gn gw gb hb : FN9} {ac ud : Nat} {fn2 fq2 fb2 gn2 gw2 gb2 hb2 : FN9} {fu2 : Int32} {cu2 un2 re2 ac2 ud2 : Nat} {r r' : Int32}
theorem cry_of {x : Int32} {c : Nat} (hc : c < 2) (h : x = nI c) : x = 0 ∨ x = 1 := by
  rcases (show c = 0 ∨ c = 1 by omega) with rfl | rfl
  · exact Or.inl h
  · exact Or.inr h
theorem sy_same {c0 nw : Nat} {xc xw : Int32} (h29 : 29 ≤ N) (hN : N ≤ 41) (hw : c0 = nw) (hw8 : c0 ≤ 8) (R : RM N fn fq fb fu cu un re gn gw gb hb ac ud) (h1 : syC c0 fn fq cu un re xc xw r fn2 fq2 cu2 un2 re2) (h2 : syR nw gn gw ac ud xc xw r' gn2 gw2 ac2 ud2) : r = r' ∧ RM N fn2 fq2 fb fu cu2 un2 re2 gn2 gw2 gb hb ac2 ud2 := by
  subst hw
  have n0 := R.2.1
  rcases h1 with ⟨p1, ⟨p2, p3, p4, p5, p6⟩, p7⟩ | ⟨c, w, le, p1, p2, p3, p4, p5, p6, p7, p8, p9⟩ <;> rcases h2 with ⟨q1, ⟨q2, q3, q4, q5⟩, q6⟩ | ⟨c', w', le', q1, q2, q3, q4, q5, q6, q7, q8, q9⟩
  · subst p2 p3 p4 p5 p6 q2 q3 q4 q5
    exact ⟨by rw [p1, q1], R⟩
  · exfalso
    rcases p7 with h | h | ⟨c, hc, ec, el⟩
    · exact h (cry_of q1 q2)
    · exact h ⟨w', q3, q4⟩
    · have e := nI_inj (by omega) (by omega) (ec.symm.trans q2)
      subst e
      rw [nowR_at n0 (by omega) (phi_len hc), q6] at el
      have := nI_inj (by omega) (by omega) el
      omega
  · exfalso
    rcases q6 with h | h | ⟨c', hc, ec, el⟩
    · exact h (cry_of p1 p2)
    · exact h ⟨w, p3, p4⟩
    · have e := nI_inj (by omega) (by omega) (ec.symm.trans p2)
      subst e
      rw [← nowR_at n0 (show 20 + c' < N by omega) (phi_len hc), p6] at el
      have := nI_inj (by omega) (by omega) el
      omega
  · have e1 := nI_inj (by omega) (by omega) (p2.symm.trans q2)
    have e2 := nI_inj (by omega) (by omega) (p4.symm.trans q4)
    subst e1 e2
    rw [← nowR_at n0 (show 20 + c < N by omega) (phi_len p1), p6] at q6
    have e3 := nI_inj (by omega) (by omega) q6
    subst e3
    refine ⟨by rw [p7, q7], RM_act hN R ?_ p9 q9⟩
    rw [p8, q8, upd_comm (show ¬ 10 * c + le = 20 + c by omega)]
    refine nowR_put hN (nowR_put hN n0 (by omega) (phi_len p1) (by omega) (by omega)) (by omega) ?_ (by omega) (by omega)
    rw [← phi_word c p1 le (by omega)]
    omega
theorem uy_same {xc : Int32} (h29 : 29 ≤ N) (hN : N ≤ 41) (R : RM N fn fq fb fu cu un re gn gw gb hb ac ud) (h1 : uyC fn fq cu un re xc r fn2 fq2 cu2 un2 re2) (h2 : uyR gn gw ac ud xc r' gn2 gw2 ac2 ud2) : r = r' ∧ RM N fn2 fq2 fb fu cu2 un2 re2 gn2 gw2 gb hb ac2 ud2 := by
  have n0 := R.2.1
  rcases h1 with ⟨p1, ⟨p2, p3, p4, p5, p6⟩, p7⟩ | ⟨c, le, p1, p2, p3, p4, p5, p6, p7, p8⟩ <;> rcases h2 with ⟨q1, ⟨q2, q3, q4, q5⟩, q6⟩ | ⟨c', le', q1, q2, q3, q4, q5, q6, q7, q8⟩
  · subst p2 p3 p4 p5 p6 q2 q3 q4 q5
    exact ⟨by rw [p1, q1], R⟩
  · exfalso
    rcases p7 with h | ⟨c, hc, ec, el⟩
    · exact h (cry_of q1 q2)
    · have e := nI_inj (by omega) (by omega) (ec.symm.trans q2)
      subst e
      rw [nowR_at n0 (by omega) (phi_len hc), q5] at el
      have := nI_inj (by omega) (by omega) el
      omega
  · exfalso
    rcases q6 with h | ⟨c', hc, ec, el⟩
    · exact h (cry_of p1 p2)
    · have e := nI_inj (by omega) (by omega) (ec.symm.trans p2)
      subst e
      rw [← nowR_at n0 (show 20 + c' < N by omega) (phi_len hc), p5] at el
      have := nI_inj (by omega) (by omega) el
      omega
  · have e1 := nI_inj (by omega) (by omega) (p2.symm.trans q2)
    subst e1
    rw [← nowR_at n0 (show 20 + c < N by omega) (phi_len p1), p5] at q5
    have e3 := nI_inj (by omega) (by omega) q5
    subst e3
    refine ⟨?_, RM_act hN R ?_ p8 q8⟩
    · rw [p6, q6]
      refine nowR_at n0 (by omega) ?_
      rw [← phi_word c p1 (le - 1) (by omega)]
      omega
    · rw [p7, q7]
      exact nowR_put hN n0 (by omega) (phi_len p1) (by omega) (by omega)
theorem sd_same {xc xi : Int32} (h29 : 29 ≤ N) (R : RM N fn fq fb fu cu un re gn gw gb hb ac ud) (h1 : sdC fn xc xi r) (h2 : sdR gn xc xi r') : r = r' := by
  have n0 := R.2.1
  rcases h1 with ⟨p1, p7⟩ | ⟨c, le, i, p1, p2, p3, p4, p5, p6, p7⟩ <;> rcases h2 with ⟨q1, q6⟩ | ⟨c', le', i', q1, q2, q3, q4, q5, q6, q7⟩
  · rw [p1, q1]
  · exfalso
    rcases p7 with h | ⟨c, le, hc, ec, hl, el, hn⟩
    · exact h (cry_of q1 q2)
    · have e := nI_inj (by omega) (by omega) (ec.symm.trans q2)
      subst e
      rw [nowR_at n0 (by omega) (phi_len hc), q4] at el
      have := nI_inj (by omega) (by omega) el
      exact hn ⟨i', by omega, q6⟩
  · exfalso
    rcases q6 with h | ⟨c', le', hc, ec, hl, el, hn⟩
    · exact h (cry_of p1 p2)
    · have e := nI_inj (by omega) (by omega) (ec.symm.trans p2)
      subst e
      rw [← nowR_at n0 (show 20 + c' < N by omega) (phi_len hc), p4] at el
      have := nI_inj (by omega) (by omega) el
      exact hn ⟨i, by omega, p6⟩
  · have e1 := nI_inj (by omega) (by omega) (p2.symm.trans q2)
    have e2 := nI_inj (by omega) (by omega) (p6.symm.trans q6)
    subst e1 e2
    rw [p7, q7]
    exact nowR_at n0 (by omega) (phi_word c p1 i (by omega))
theorem cl_same {c1 nc : Nat} {fp ca : FN9} {xm wh : Int32} (h29 : 29 ≤ N) (hc : c1 = nc) (hc4 : c1 ≤ 4) (hp : rowR fp ca c1) (R : RM N fn fq fb fu cu un re gn gw gb hb ac ud) (h1 : clC c1 fp fn xm wh r) (h2 : clR nc ca gn xm wh r') : r = r' := by
  subst hc
  have n0 := R.2.1
  rcases h1 with ⟨p1, p2⟩ | ⟨j, p1, p2, p3⟩ <;> rcases h2 with ⟨q1, q2⟩ | ⟨j', q1, q2, q3⟩
  · rw [p1, q1]
  · exfalso
    rcases p2 with h | h
    · exact h ⟨j', q1, q2⟩
    · rcases q3 with q3 | q3
      · exact h.1 q3.1
      · exact h.2 q3.1
  · exfalso
    rcases q2 with h | h
    · exact h ⟨j, p1, p2⟩
    · rcases p3 with p3 | p3
      · exact h.1 p3.1
      · exact h.2 p3.1
  · have e := nI_inj (by omega) (by omega) (p2.symm.trans q2)
    subst e
    rcases p3 with ⟨a, b⟩ | ⟨a, b⟩ <;> rcases q3 with ⟨c, d⟩ | ⟨c, d⟩
    · rw [b, d]; exact hp j p1
    · rw [a] at c; exact absurd c (by decide)
    · rw [a] at c; exact absurd c (by decide)
    · rw [b, d]
      refine nowR_at n0 (by omega) ?_
      have : ∀ j, j < 4 → 25 + j = phi (23 + j) := by decide
      exact this j (by omega)
theorem ca_same {c2 nm : Nat} {xm : Int32} (hN : N ≤ 29) (hc : c2 = nm) (R : RM N fn fq fb fu cu un re gn gw gb hb ac ud) (h1 : caC c2 fn fq cu un re xm fn2 fq2 cu2 un2 re2) (h2 : caR nm gn gw ac ud xm gn2 gw2 ac2 ud2) : RM N fn2 fq2 fb fu cu2 un2 re2 gn2 gw2 gb hb ac2 ud2 := by
  subst hc
  rcases h1 with ⟨⟨p2, p3, p4, p5, p6⟩, p7⟩ | ⟨p1, ⟨k, x, p2, p3, p4⟩, p5⟩ <;> rcases h2 with ⟨⟨q2, q3, q4, q5⟩, q6⟩ | ⟨q1, ⟨k', x', q2, q3, q4⟩, q5⟩
  · subst p2 p3 p4 p5 p6 q2 q3 q4 q5
    exact R
  · exact absurd q1 p7
  · exact absurd p1 q6
  · refine RM_act (by omega) R ?_ p5 q5
    rw [p4, q4]
    exact nowR_put9 hN R.2.1 q2 p2
theorem phi_sn : ∀ c : Nat, c < 4 → 25 + c = phi (23 + c) := by decide
theorem min9 {s : Nat} (h : s ≤ 9) : (if (9 : Int32) < nI s + 1 then (9 : Int32) else nI s + 1) = (if nI s < 9 then nI s + 1 else nI s) ∧ ∃ j : Nat, j ≤ 9 ∧ (if (9 : Int32) < nI s + 1 then (9 : Int32) else nI s + 1) = nI j := by
  have H : ∀ s : Nat, s < 10 → (if (9 : Int32) < nI s + 1 then (9 : Int32) else nI s + 1) = (if nI s < 9 then nI s + 1 else nI s) ∧ (if (9 : Int32) < nI s + 1 then (9 : Int32) else nI s + 1) = nI (min (s + 1) 9) := by decide +kernel
  have h9 := H s (by omega)
  exact ⟨h9.1, min (s + 1) 9, by omega, h9.2⟩
theorem no_now {cl : Nat} (hN : N ≤ 29 ∨ N = 41) (h41 : N ≤ 41) (n0 : nowR N fn 0 gn 0) (hl : ¬ 999 ≤ fn 24) (h1 : nnC fn cl fn2) (h2 : nnR gn cl gn2) (h29 : 29 ≤ N) : nowR N fn2 0 gn2 0 := by
  obtain ⟨a1, a2, a3, a4, a5⟩ := h1
  obtain ⟨b1, b2, b3, b4, b5⟩ := h2
  have e27 : fn 23 = gn 27 := nowR_at n0 (by omega) rfl
  have e28 : fn 24 = gn 28 := nowR_at n0 (by omega) rfl
  obtain ⟨n, hn, en⟩ := n0.2.1
  rw [Nat.zero_add] at en
  have hsn : ∀ c, c < 4 → (∃ j : Nat, j ≤ 9 ∧ fn (25 + c) = nI j) ∧ fn (25 + c) = gn (23 + c) := fun c hc => by
    have := n0.2.2 c hc
    rw [Nat.zero_add] at this
    exact ⟨this, nowR_at n0 (by omega) (phi_sn c hc)⟩
  have hs2 : ∀ c, c < 4 → fn2 (25 + c) = gn2 (23 + c) ∧ ∃ j : Nat, j ≤ 9 ∧ fn2 (25 + c) = nI j := fun c hc => by
    obtain ⟨⟨j, hj, ej⟩, eg⟩ := hsn c hc
    rw [a4 c hc, b4 c hc, ← e27, ← eg, ej]
    by_cases h9 : c < cl ∧ dyF (sdF (fn 23)) = 0
    · rw [if_pos h9, if_pos h9]; exact min9 hj
    · rw [if_neg h9, if_neg h9]; exact ⟨rfl, j, hj, rfl⟩
  refine ⟨fun k hk => ?_, ?_, fun c hc => ?_⟩
  · rw [Nat.zero_add, Nat.zero_add]
    by_cases k1 : k < 22
    · have hp : ∀ k, k < 22 → phi k < 22 := by decide
      rw [a5 _ (Or.inl (hp k k1)), b5 k (by omega)]
      exact nowR_at n0 hk rfl
    · by_cases k2 : k = 22
      · subst k2; exact a2.trans (by rw [e27]; exact b2.symm)
      · by_cases k3 : k < 27
        · have h9 := hs2 (k - 23) (by omega)
          rw [show 25 + (k - 23) = phi k by rw [phi_sn (k - 23) (by omega)]; congr 1; omega, show 23 + (k - 23) = k by omega] at h9
          exact h9.1
        · by_cases k4 : k = 27
          · subst k4; exact a1.trans (by rw [e27]; exact b1.symm)
          · by_cases k5 : k = 28
            · subst k5; exact a3.trans (by rw [e28]; exact b3.symm)
            · have hp : phi k = k := by
                unfold phi
                rw [if_neg (by omega), if_neg (by omega), if_neg (by omega), if_neg (by omega), if_neg (by omega), if_neg (by omega), if_neg (by omega), if_neg (by omega)]
              rw [hp, a5 k (by omega), b5 k (by omega)]
              exact nowR_at n0 hk hp.symm
  · rw [Nat.zero_add, a3, en]
    refine ⟨n + 1, ?_, nI_add n 1⟩
    rw [en] at hl
    have := mt (nI_leI (a := 999) (b := n) (by omega) (by omega)).mpr hl
    omega
  · rw [Nat.zero_add]; exact (hs2 c hc).2
theorem no_same {c1 nc : Nat} (h29 : 29 ≤ N) (hN : N ≤ 29 ∨ N = 41) (hc : c1 = nc) (R : RM N fn fq fb fu cu un re gn gw gb hb ac ud) (h1 : noC c1 fn fq cu un re r fn2 fq2 cu2 un2 re2) (h2 : noR nc gn gw ac ud r' gn2 gw2 ac2 ud2) : r = r' ∧ RM N fn2 fq2 fb fu cu2 un2 re2 gn2 gw2 gb hb ac2 ud2 := by
  subst hc
  have n0 := R.2.1
  have e28 : fn 24 = gn 28 := nowR_at n0 (by omega) rfl
  obtain ⟨n, hn, en⟩ := n0.2.1
  rw [Nat.zero_add] at en
  have hk : 999 ≤ fn 24 ↔ gn 28 = 999 := by
    rw [← e28, en]
    constructor
    · intro h9
      have := (nI_leI (a := 999) (b := n) (by omega) (by omega)).mp h9
      rw [show n = 999 by omega]; rfl
    · intro h9
      have := nI_inj (a := n) (b := 999) (by omega) (by omega) h9
      rw [this]; decide
  rcases h1 with ⟨p1, ⟨p2, p3, p4, p5, p6⟩, p7⟩ | ⟨p1, p2, p3, p4⟩ <;> rcases h2 with ⟨q1, ⟨q2, q3, q4, q5⟩, q6⟩ | ⟨q1, q2, q3, q4⟩
  · subst p2 p3 p4 p5 p6 q2 q3 q4 q5
    exact ⟨by rw [p1, q1], R⟩
  · exact absurd (hk.mp p7) q1
  · exact absurd (hk.mpr q6) p1
  · have n2 := no_now hN (by omega) n0 p1 p2 q2 h29
    exact ⟨by rw [p3, q3]; exact nowR_at n2 (by omega) rfl, RM_act (by omega) R n2 p4 q4⟩
theorem sw_same {c1 nc : Nat} {xm : Int32} (h29 : 29 ≤ N) (hN : N ≤ 41) (hc : c1 = nc) (hc4 : c1 ≤ 4) (R : RM N fn fq fb fu cu un re gn gw gb hb ac ud) (h1 : swC c1 fn fq cu un re xm r fn2 fq2 cu2 un2 re2) (h2 : swR nc gn gw ac ud xm r' gn2 gw2 ac2 ud2) : r = r' ∧ RM N fn2 fq2 fb fu cu2 un2 re2 gn2 gw2 gb hb ac2 ud2 := by
  subst hc
  have n0 := R.2.1
  rcases h1 with ⟨p1, ⟨p2, p3, p4, p5, p6⟩, p7⟩ | ⟨j, p1, p2, p3, p4, p5⟩ <;> rcases h2 with ⟨q1, ⟨q2, q3, q4, q5⟩, q6⟩ | ⟨j', q1, q2, q3, q4, q5⟩
  · subst p2 p3 p4 p5 p6 q2 q3 q4 q5
    exact ⟨by rw [p1, q1], R⟩
  · exact absurd ⟨j', q1, q2⟩ p7
  · exact absurd ⟨j, p1, p2⟩ q6
  · have e := nI_inj (by omega) (by omega) (p2.symm.trans q2)
    subst e
    refine ⟨by rw [p3, q3]; exact nowR_at n0 (by omega) (phi_sn j (by omega)), RM_act hN R ?_ p5 q5⟩
    rw [p4, q4]
    exact nowR_put hN n0 (by omega) (phi_sn j (by omega)) (by omega) (fun _ _ => ⟨0, by omega, rfl⟩)
theorem ub_same (hN : N ≤ 41) (R : RM N fn fq fb fu cu un re gn gw gb hb ac ud) (h1 : sbC r fn fq cu un re fn2 cu2 un2 re2) (h2 : ubR r' gn gw ac ud gn2 gw2 ac2 ud2) : r = r' ∧ RM N fn2 fq fb fu cu2 un2 re2 gn2 gw2 gb hb ac2 ud2 := by
  have e := R.1.2.2.1
  rcases h1 with ⟨p1, p2, p3, p4, p5, p6⟩ | ⟨p1, p2, p3, p4, p5, p6⟩ <;> rcases h2 with ⟨q1, q2, q3, q4, q5, q6⟩ | ⟨q1, q2, q3, q4, q5⟩
  · subst p3 p4 p5 p6 q3 q4 q5 q6
    exact ⟨by rw [p1, q1], R⟩
  · omega
  · omega
  · rw [p3, p4, p5, p6, q4, q5]
    exact ⟨by rw [p1, q1], RM_back hN R p2 q3⟩
theorem on_same (hN : N ≤ 41) (R : RM N fn fq fb fu cu un re gn gw gb hb ac ud) (h1 : snC r fn fq cu un re fn2 cu2 un2 re2) (h2 : onR r' gn gw ac ud gn2 gw2 ac2 ud2) : r = r' ∧ RM N fn2 fq fb fu cu2 un2 re2 gn2 gw2 gb hb ac2 ud2 := by
  have e := R.1.2.2.2
  rcases h1 with ⟨p1, p2, p3, p4, p5, p6⟩ | ⟨p1, p2, p3, p4, p5, p6⟩ <;> rcases h2 with ⟨q1, q2, q3, q4, q5, q6⟩ | ⟨q1, q2, q3, q4, q5⟩
  · subst p3 p4 p5 p6 q3 q4 q5 q6
    exact ⟨by rw [p1, q1], R⟩
  · omega
  · omega
  · rw [p3, p4, p5, p6, q4, q5]
    exact ⟨by rw [p1, q1], RM_on hN R p2 q3⟩
theorem im_same {xb : Int32} (h29 : 29 ≤ N) (hN : N ≤ 41) (R : RM N fn fq fb fu cu un re gn gw gb hb ac ud) (h1 : imC fn fb fu xb r fb2 fu2) (h2 : imR gn gb hb xb r' gb2 hb2) : r = r' ∧ RM N fn fq fb2 fu2 cu un re gn gw gb2 hb2 ac ud := by
  rcases h1 with ⟨p1, p2, p3, p4⟩ | ⟨b, p1, p2, p3, p4⟩ <;> rcases h2 with ⟨q1, q2, q3, q4⟩ | ⟨b', q1, q2, q3, q4⟩
  · subst p2 p3 q2 q3; exact ⟨by rw [p1, q1], R⟩
  · exact absurd ⟨b', q1, q2⟩ p4
  · exact absurd ⟨b, p1, p2⟩ q4
  · have e := nI_inj (by omega) (by omega) (p2.symm.trans q2)
    subst e
    exact ⟨by rw [p4, q4]; exact nowR_at R.2.1 (by omega) rfl, RM_image hN R p1 p3 q3⟩
theorem bk_same {xb : Int32} (h29 : 29 ≤ N) (hN : N ≤ 41) (R : RM N fn fq fb fu cu un re gn gw gb hb ac ud) (h1 : bkC fn fq fb fu cu un re xb r fn2 fq2 cu2 un2 re2) (h2 : bkR gn gb hb ac ud xb r' gn2 ac2 ud2) : r = r' ∧ RM N fn2 fq2 fb fu cu2 un2 re2 gn2 gw gb hb ac2 ud2 := by
  rcases h1 with ⟨p1, ⟨p2, p3, p4, p5, p6⟩, p7⟩ | ⟨b, q, p1, p2, p3, p4⟩ <;> rcases h2 with ⟨q1, ⟨q2, q3, q4⟩, q5⟩ | ⟨b', q1, q2, q3, q4, q5, q6, q7⟩
  · subst p2 p3 p4 p5 p6 q2 q3 q4
    exact ⟨by rw [p1, q1], R⟩
  · exact absurd ⟨b', q1, q2⟩ p7
  · have hb9 := box_iff R p1
    subst q2 q3 q4
    rcases q5 with h | ⟨b', h1, h2, h3⟩
    · exact absurd ⟨b, p1, p2⟩ h
    · have e := nI_inj (by omega) (by omega) (p2.symm.trans h2)
      subst e
      rcases p3 with ⟨s1, s2, s3, s4, s5, s6, s7⟩ | ⟨s1, s2, s3⟩
      · subst s3 s4 s5 s6 s7
        exact ⟨by rw [p4, if_pos s1, q1], R⟩
      · exact absurd (hb9.mpr h3) s2
  · have hb9 := box_iff R p1
    have e := nI_inj (by omega) (by omega) (p2.symm.trans q2)
    subst e
    rcases p3 with ⟨s1, s2, s3⟩ | ⟨s1, s2, s3, s4, s5, s6⟩
    · exact absurd (hb9.mp s2) q3
    · subst s4 s5 s6 q5 q6
      have R2 := RM_box hN R p1 q3 s3 q4
      refine ⟨?_, R2⟩
      rw [p4, if_neg (by rw [s1]; decide), q7]
      exact nowR_at R2.2.1 (by omega) rfl
end MOM3
section MOM4
abbrev MXT : Type := FN9 × FN9 × FN9 × Int32 × Nat × Nat × Nat
abbrev MMT : Type := FN9 × FN9 × FN9 × FN9 × Nat × Nat
def RMt (N : Nat) (a : MXT) (b : MMT) : Prop := RM N a.1 a.2.1 a.2.2.1 a.2.2.2.1 a.2.2.2.2.1 a.2.2.2.2.2.1 a.2.2.2.2.2.2 b.1 b.2.1 b.2.2.1 b.2.2.2.1 b.2.2.2.2.1 b.2.2.2.2.2
theorem RMt_eq {N : Nat} {a a2 : MXT} {b b2 : MMT} (R : RMt N a b) (e1 : a2 = a) (e2 : b2 = b) : RMt N a2 b2 := by subst e1 e2; exact R
theorem RMt_of {N : Nat} {a a2 : MXT} {b b2 : MMT} (e1 : a2 = a) (e2 : b2 = b) (R : RMt N a b) : RMt N a2 b2 := by subst e1 e2; exact R
/-- the snow that a text tells is at most 9 -/
def inv9 (s : AS) : Prop := ∀ i, i < sC s 1 → ∃ j : Nat, j ≤ 9 ∧ sV s 2 i = nI j
theorem bnd_inr {α β : Type} {x : ER α} {g : α → β} {b : β} (h : (Sum.inr b : ER β) = bnd x (fun a => .inr (g a))) : ∃ a, x = .inr a ∧ b = g a := by
  cases x with
  | inl e => cases h
  | inr a => exact ⟨a, rfl, by cases h; rfl⟩
theorem bnd_ok {α β : Type} {x : ER α} {g : α → ER β} {b : β} (h : bnd x g = .inr b) : ∃ a, x = .inr a ∧ g a = .inr b := by
  cases x with
  | inl e => cases h
  | inr a => exact ⟨a, rfl, h⟩
theorem optS_9 {f : Nat → Int32} {n k a : Nat} {y : Nat × Nat} (h : optS f n k a = .inr y) : y.1 ≤ 9 := by
  unfold optS at h
  by_cases h1 : knd f n a = k
  · rw [if_pos h1] at h
    unfold numS at h
    by_cases h2 : knd f n (fin f n a) = 2
    · rw [if_pos h2] at h
      by_cases h3 : 9 < num f n (fin f n a)
      · rw [if_pos h3] at h; cases h
      · rw [if_neg h3] at h; cases h; exact Nat.le_of_not_lt h3
    · rw [if_neg h2] at h; cases h
  · rw [if_neg h1] at h; cases h; exact Nat.zero_le _
theorem plaS_9 {f : Nat → Int32} {n c key a : Nat} {np : Nat → Nat} {x : Nat × Nat × Nat} (h : plaS f n c np key a = .inr x) : x.2.1 ≤ 9 := by
  unfold plaS at h
  obtain ⟨b, _, h⟩ := bnd_ok h
  obtain ⟨b2, _, h⟩ := bnd_ok h
  obtain ⟨x1, _, h⟩ := bnd_ok h
  obtain ⟨y, hy, h⟩ := bnd_ok h
  obtain ⟨e, _, h⟩ := bnd_ok h
  cases h
  show y.1 ≤ 9
  exact optS_9 hy
theorem lin_inv9 {f : Nat → Int32} {n : Nat} {s s2 : AS} (h0 : inv9 s) (h : linR f n s (.inr s2)) : inv9 s2 := by
  rcases h with ⟨_, h⟩ | ⟨_, h⟩ | ⟨_, h⟩ | ⟨_, h⟩ | ⟨_, h⟩ | ⟨k, q, _, _, _, h⟩ | ⟨_, h⟩ | ⟨_, h⟩ | ⟨_, h⟩
  · obtain ⟨a, _, e⟩ := bnd_inr h
    subst e; exact h0
  · obtain ⟨a, ha, e⟩ := bnd_inr h
    subst e
    intro i hi
    have hi : i < sC s 1 + 1 := hi
    show ∃ j : Nat, j ≤ 9 ∧ upd (sV s 2) (sC s 1) (nI a.2.1) i = nI j
    by_cases h9 : i = sC s 1
    · rw [h9, pk_us]; exact ⟨a.2.1, plaS_9 ha, rfl⟩
    · rw [pk_un h9]; exact h0 i (by omega)
  · obtain ⟨a, _, e⟩ := bnd_inr h
    subst e; exact h0
  · obtain ⟨a, _, e⟩ := bnd_inr h
    subst e; exact h0
  · obtain ⟨a, _, e⟩ := bnd_inr h
    subst e; exact h0
  · obtain ⟨a, _, e⟩ := bnd_inr h
    subst e; exact h0
  · obtain ⟨a, _, e⟩ := bnd_inr h
    subst e; exact h0
  · obtain ⟨a, _, e⟩ := bnd_inr h
    subst e; exact h0
  · cases h
theorem prs_inv9 {f : Nat → Int32} {n : Nat} (k : Nat) : ∀ (s s2 : AS), inv9 s → prs f n k s (.inr s2) → inv9 s2 := by
  induction k with
  | zero => intro s s2 _ h; exact h.elim
  | succ k ih =>
    intro s s2 h0 h
    rcases h with ⟨_, h⟩ | ⟨_, ⟨e, _, h⟩ | ⟨s3, h1, h2⟩⟩
    · cases h; exact h0
    · cases h
    · exact ih s3 s2 (lin_inv9 h0 h1) h2
theorem PR_inv9 {f : Nat → Int32} {n : Nat} {gs : AS} (h : PR f n aS0 (.inr gs)) : inv9 gs := by
  obtain ⟨k, h⟩ := h
  exact prs_inv9 k aS0 gs (fun i hi => absurd hi (Nat.not_lt_zero i)) h
/-- the first moment, of both -/
theorem bg_now {N : Nat} {s : AS} {c0 c1 c2 c3 : Nat} {fp fcs fmp fmv flo fx : FN9} {hon hwi hdr hu : Int32} {nW nC nM nS : Nat} {ca sn ma vo lo on : FN9} {ons wi un : Int32} {fn gn : FN9} (hN : N ≤ 41) (b : c1 ≤ 4) (h : tdC s c0 c1 c2 c3 fp fcs fmp fmv flo fx hon hwi hdr hu) (k : tdR s nW nC nM nS ca sn ma vo lo on ons wi un) (h9 : inv9 s) (h1 : bgT hwi hdr fcs c1 fn) (h2 : bgR wi (sV s 6 1) sn nC gn) : nowR N fn 0 gn 0 := by
  obtain ⟨⟨_, e1, _, _⟩, ⟨_, _, r2, _, _⟩, _, _, v2, v3, _⟩ := h
  obtain ⟨⟨_, k1, _, _⟩, ⟨_, _, s2, _, _⟩, _, _, w2, _⟩ := k
  subst e1 k1 v2 v3 w2
  refine ⟨fun q hq => ?_, ?_, fun c hc => ?_⟩
  · rw [Nat.zero_add, Nat.zero_add, h2 q (by omega), h1 _ (phi_lt (by omega))]
    by_cases k1 : q < 22
    · have hp : ∀ k, k < 22 → phi k < 22 := by decide
      have hp := hp q k1
      rw [if_neg (by omega), if_neg (by omega), if_neg (by omega), if_neg (by omega), if_neg (by omega), if_neg (by omega)]
    · by_cases k2 : q = 22
      · subst k2; rfl
      · by_cases k3 : q < 27
        · have hp := phi_sn (q - 23) (by omega)
          rw [show 23 + (q - 23) = q by omega] at hp
          rw [← hp, if_neg (show ¬ 25 + (q - 23) = 22 by omega), if_neg (show ¬ 25 + (q - 23) = 23 by omega), if_neg k2, if_neg (show ¬ q = 27 by omega), show 25 + (q - 23) - 25 = q - 23 by omega]
          by_cases k4 : q - 23 < sC s 1
          · rw [if_pos (by omega), if_pos (by omega), r2 _ k4, s2 _ k4]
          · rw [if_neg (by omega), if_neg (by omega)]
        · by_cases k4 : q = 27
          · subst k4; rfl
          · by_cases k5 : q = 28
            · subst k5
              rw [show phi 28 = 24 from rfl, if_neg (by decide), if_neg (by decide), if_neg (by omega), if_neg (by decide), if_neg (by decide), if_neg (by omega)]
            · have hp : phi q = q := by
                unfold phi
                rw [if_neg (by omega), if_neg (by omega), if_neg (by omega), if_neg (by omega), if_neg (by omega), if_neg (by omega), if_neg (by omega), if_neg (by omega)]
              rw [hp, if_neg (by omega), if_neg (by omega), if_neg (by omega), if_neg (by omega), if_neg (by omega), if_neg (by omega)]
  · rw [Nat.zero_add, h1 24 (by omega), if_neg (by decide), if_neg (by decide), if_neg (by omega)]
    exact ⟨0, by omega, rfl⟩
  · rw [Nat.zero_add, h1 (25 + c) (by omega), if_neg (by omega), if_neg (by omega)]
    by_cases k4 : c < sC s 1
    · rw [if_pos (by omega), show 25 + c - 25 = c by omega, r2 c k4]; exact h9 c k4
    · rw [if_neg (by omega)]; exact ⟨0, by omega, rfl⟩
def tdCh (s : AS) (h2 : HXT) : Prop := tdC s h2.1 h2.2.1 h2.2.2.1 h2.2.2.2.1 h2.2.2.2.2.1 h2.2.2.2.2.2.1 h2.2.2.2.2.2.2.1 h2.2.2.2.2.2.2.2.1 h2.2.2.2.2.2.2.2.2.1 h2.2.2.2.2.2.2.2.2.2.1 h2.2.2.2.2.2.2.2.2.2.2.1 h2.2.2.2.2.2.2.2.2.2.2.2.1 h2.2.2.2.2.2.2.2.2.2.2.2.2.1 h2.2.2.2.2.2.2.2.2.2.2.2.2.2
def tdRh (s : AS) (h2 : HMT) : Prop := tdR s h2.1 h2.2.1 h2.2.2.1 h2.2.2.2.1 h2.2.2.2.2.1 h2.2.2.2.2.2.1 h2.2.2.2.2.2.2.1 h2.2.2.2.2.2.2.2.1 h2.2.2.2.2.2.2.2.2.1 h2.2.2.2.2.2.2.2.2.2.1 h2.2.2.2.2.2.2.2.2.2.2.1 h2.2.2.2.2.2.2.2.2.2.2.2.1 h2.2.2.2.2.2.2.2.2.2.2.2.2
/-- hills, of both, on what is kept -/
def hmX (f : FN9) (n : Nat) (h2 : HXT) (m m2 : MXT) : Prop := (m2 = m ∧ ∃ e, PR f n aS0 (.inl e)) ∨ ∃ gs, PR f n aS0 (.inr gs) ∧ tdCh gs h2 ∧ bgT h2.2.2.2.2.2.2.2.2.2.2.2.1 h2.2.2.2.2.2.2.2.2.2.2.2.2.1 h2.2.2.2.2.2.1 h2.2.1 m2.1 ∧ m2 = (m2.1, va_cpy m2.1 m.2.1 0 0 41, m.2.2.1, 0, 0, 0, 0)
def hmM (f : FN9) (n : Nat) (h2 : HMT) (m m2 : MMT) : Prop := (m2 = m ∧ ∃ e, PR f n aS0 (.inl e)) ∨ ∃ gs, PR f n aS0 (.inr gs) ∧ tdRh gs h2 ∧ bgR h2.2.2.2.2.2.2.2.2.2.2.2.1 (sV gs 6 1) h2.2.2.2.2.2.1 h2.2.1 m2.1 ∧ (∀ b, b < 3 → m2.2.2.2.1 b = 0) ∧ m2 = (m2.1, m.2.1, m.2.2.1, m2.2.2.2.1, 0, 0)
theorem hm_same {N : Nat} {f g : FN9} {n n' : Nat} {h2 : HXT} {k2 : HMT} {m m2 : MXT} {z z2 : MMT} (hN : N ≤ 41) (hn : n = n') (ht : tpR f g n) (b : h2.2.1 ≤ 4) (R : RMt N m z) (h1 : hmX f n h2 m m2) (k1 : hmM g n' k2 z z2) : RMt N m2 z2 := by
  subst hn
  rcases h1 with ⟨p1, e, p3⟩ | ⟨gs, p1, p2, p3, p4⟩ <;> rcases k1 with ⟨q1, e', q3⟩ | ⟨gs', q1, q2, q3, q4, q5⟩
  · subst p1 q1; exact R
  · have e := (PR_tp ht p3).det q1; cases e
  · have e := (PR_tp ht p1).det q3; cases e
  · have e := (PR_tp ht p1).det q1
    cases e
    have hn := bg_now hN b p2 q2 (PR_inv9 p1) p3 q3
    rw [p4, q5]
    exact RM_new hn (fun k hk => cpy_00 hk) q4
theorem mx_eq {fn2 q2 q fb : FN9} {fu2 : Int32} {cu2 un2 re2 : Nat} (h : q2 = va_cpy fn2 q 0 0 41 ∧ fu2 = 0 ∧ cu2 = 0 ∧ un2 = 0 ∧ re2 = 0) : ((fn2, q2, fb, fu2, cu2, un2, re2) : MXT) = (fn2, va_cpy fn2 q 0 0 41, fb, 0, 0, 0, 0) := by
  obtain ⟨a, b, c, d, e⟩ := h
  subst a b c d e; rfl
theorem mm_eq {gn2 gw gb hb2 : FN9} {ac2 ud2 : Nat} (h : ac2 = 0 ∧ ud2 = 0) : ((gn2, gw, gb, hb2, ac2, ud2) : MMT) = (gn2, gw, gb, hb2, 0, 0) := by
  obtain ⟨a, b⟩ := h
  subst a b; rfl
end MOM4
abbrev TXh (u : XS) : HXT := ((u.1 85), (u.1 86), (u.1 87), (u.1 88), (u.2.2.2.2.1 3), (u.2.2.2.2.1 4), (u.2.2.2.2.1 5), (u.2.2.2.2.1 6), (u.2.2.2.2.1 2), (u.2.2.2.2.1 7), (u.2.1 8), (u.2.1 9), (u.2.1 10), (u.2.1 11))
abbrev TMh (v : XS) : HMT := ((v.1 61), (v.1 62), (v.1 63), (v.1 64), (v.2.2.2.2.1 19), (v.2.2.2.2.1 20), (v.2.2.2.2.1 21), (v.2.2.2.2.1 22), (v.2.2.2.2.1 18), (v.2.2.2.2.1 23), (v.2.1 7), (v.2.1 8), (v.2.1 4))
abbrev TXs (u : XS) : SST := ((u.1 95), (u.2.2.2.2.1 32), (u.2.2.2.2.1 33), (u.2.2.2.2.1 34), (u.2.2.2.2.1 35), (u.2.2.2.2.1 36))
abbrev TMs (v : XS) : SST := ((v.1 70), (v.2.2.2.2.1 37), (v.2.2.2.2.1 38), (v.2.2.2.2.1 39), (v.2.2.2.2.1 40), (v.2.2.2.2.1 41))
abbrev TXm (u : XS) : MXT := ((u.2.2.2.2.1 29), (u.2.2.2.2.1 30), (u.2.2.2.2.1 31), (u.2.1 15), (u.1 92), (u.1 93), (u.1 94))
abbrev TMm (v : XS) : MMT := ((v.2.2.2.2.1 26), (v.2.2.2.2.1 30), (v.2.2.2.2.1 45), (v.2.2.2.2.1 44), (v.1 67), (v.1 68))
