theorem va_A_up {ws wc : va_W} {isC : List Nat} {sz : Nat} (h : isC.map (fun i => ws[i]?) = wc.map some) : ∀ q, va_A wc sz q → va_A ws sz q := by
  intro q hq
  rcases hq with ⟨k, e, hk⟩ | hq
  · have h1 : (isC.map (fun i => ws[i]?))[k]? = some (some (q, e)) := by rw [h, List.getElem?_map, hk]; rfl
    rw [List.getElem?_map] at h1
    cases hi : isC[k]? with
    | none => rw [hi] at h1; cases h1
    | some i => rw [hi] at h1; exact Or.inl ⟨i, e, Option.some.inj h1⟩
  · exact Or.inr hq
theorem pm_filter {ws w : va_W} {pm : List Nat} (h : pm.map (fun i => ws[i]?) = w.map some) : pm.filterMap (fun i => ws[i]?) = w := by
  have := congrArg (fun l => l.filterMap id) h
  simpa [List.filterMap_map] using this
/-- a contract over some of an object's cells is one over all of them -/
theorem XMi.frame {l : Launch} {D : va_G} {tys : List (ClassId × FieldType)} {E E2 : (Nat → Prop) → State → Prop} {y : MethodName} {bytes : ByteArray} {maxL : Nat} {ret : Option FieldType} {rm : Room} {av : List Value} {wc ws wr : va_W} {S S2 : Type} {post : Int32 → S → Prop} {w1 : S → va_W} {post2 : Int32 → S2 → Prop} {w2 : S2 → va_W} (f : S → S2) (isC isR pm : List Nat)
    (hM : XMi l D tys E y bytes maxL ret rm av wc post w1) (hcut : xCut ws wc wr isC isR) (hE : ∀ (A A' : Nat → Prop) (U : State), (∀ q, A' q → A q) → E2 A U → E A' U) (hpost : ∀ r u, post r u → post2 r (f u)) (hn : va_nd pm = true) (hw : ∀ u, pm.map (fun i => (wr ++ w1 u)[i]?) = (w2 (f u)).map some) : XMi l D tys E2 y bytes maxL ret rm av ws post2 w2 := by
  intro sz
  have hAA := va_A_up (sz := sz) hcut.1
  refine Met.mono (hM sz) ?_ ?_ hAA
  · intro a s h
    obtain ⟨ha, h1, hP, hK, hD, hEE⟩ := h
    exact ⟨ha, h1, xCut_P hcut hP, hK, hD.sub isC hcut.2.2.1 hcut.1, hE _ _ s hAA hEE⟩
  · intro a s o t hp hq
    obtain ⟨ha, h1, hP, hK, hD, hEE⟩ := hp
    obtain ⟨⟨r, u, ho, hpo, hB⟩, hF⟩ := hq
    subst h1
    obtain ⟨hP1, hD1⟩ := va_join (A0 := va_A ws s.heap.size) hP hD.self isC isR hcut.1 hcut.2.1 hcut.2.2.2.1 hcut.2.2.2.2 hF.2 hAA hB.1 hB.2.2
    exact ⟨⟨r, f u, ho, hpost r u hpo, hP1.sub pm (pm_filter (hw u)), hB.2.1, hD1.sub pm hn (hw u)⟩, hF.1, fun q h2 h3 => hF.2 q h2 (fun h4 => h3 (hAA q h4))⟩
theorem EV_narrow {adK adV : Nat → Nat} (A A' : Nat → Prop) (U : State) (hsub : ∀ q, A' q → A q) (h : EV adK adV A U) : EV adK adV A' U := by
  obtain ⟨e1, e2, e3, e4, e5, e6, e7, e8, e9, e10, e11, e12⟩ := h
  exact ⟨e1, e2, e3, e4, e5, e6, e7, e8, e9.narrow hsub, e10.narrow hsub, e11.narrow hsub, e12⟩
abbrev XS : Type := (Nat → Nat) × (Nat → Int32) × (Nat → Int64) × (Nat → Value) × (Nat → Nat → Int32) × (Nat → Nat → Int64) × (Nat → Nat → Nat) × (Nat → Nat → Nat → Int32) × (Nat → Nat → Nat → Nat)
def IX (cy : Nat → ClassId) (x0 : Nat) (u : XS) : va_W := [wO x0 11 [.ref (u.1 0), .ref (u.1 3), .ref (u.1 9), .ref (u.1 27), .ref (u.1 45), .ref (u.1 49), .ref (u.1 58), .ref (u.1 61), .ref (u.1 66), .ref (u.1 71), .ref (u.1 74), .ref (u.1 77), .ref (u.1 80), .int (nI (u.1 102))], ((u.1 0), .inr (9, [.ref (u.1 1), .ref (u.1 2), .int (nI (u.1 81)), .int (nI (u.1 82)), .int (nI (u.1 83)), .int (nI (u.1 84)), .long (u.2.2.1 0), .int (u.2.1 0)])), ((u.1 1), .inl (cy 0, 1600, .inl ((u.2.2.2.2.1 0)))), ((u.1 2), .inl (cy 2, 24, .inr (.inl ((u.2.2.2.2.2.1 0))))), ((u.1 3), .inr (10, [.ref (u.1 0), .ref (u.1 4), (u.2.2.2.1 0), (u.2.2.2.1 1), .int (u.2.1 1), .int (u.2.1 2), .int (u.2.1 3), .int (u.2.1 4), .int (u.2.1 5), .int (u.2.1 6)])), ((u.1 4), .inl (cy 5, 4, .inr (.inr (.inr (.inr (eF (u.1 5) (u.1 6) (u.1 7) (u.1 8))))))), ((u.1 5), .inl (cy 2, 8, .inr (.inl ((u.2.2.2.2.2.1 1))))), ((u.1 6), .inl (cy 2, 8, .inr (.inl ((u.2.2.2.2.2.1 2))))), ((u.1 7), .inl (cy 2, 8, .inr (.inl ((u.2.2.2.2.2.1 3))))), ((u.1 8), .inl (cy 2, 8, .inr (.inl ((u.2.2.2.2.2.1 4))))), ((u.1 9), .inr (4, [.ref (u.1 10), .ref (u.1 11), .ref (u.1 12), .ref (u.1 13), .ref (u.1 14), .ref (u.1 15), .ref (u.1 16), .ref (u.1 17), .ref (u.1 18), .ref (u.1 19), .ref (u.1 20), .int (u.2.1 7), .int (u.2.1 8), .int (u.2.1 9), .int (u.2.1 10), .int (u.2.1 11)])), ((u.1 10), .inl (cy 1, 4, .inl ((u.2.2.2.2.1 1)))), ((u.1 11), .inl (cy 1, 8, .inl ((u.2.2.2.2.1 2)))), ((u.1 12), .inl (cy 1, 4, .inl ((u.2.2.2.2.1 3)))), ((u.1 13), .inl (cy 1, 4, .inl ((u.2.2.2.2.1 4)))), ((u.1 14), .inl (cy 1, 4, .inl ((u.2.2.2.2.1 5)))), ((u.1 15), .inl (cy 1, 4, .inl ((u.2.2.2.2.1 6)))), ((u.1 16), .inl (cy 1, 48, .inl ((u.2.2.2.2.1 7)))), ((u.1 17), .inl (cy 1, 6, .inl ((u.2.2.2.2.1 8)))), ((u.1 18), .inr (3, [.ref (u.1 21), .ref (u.1 22), .int (nI (u.1 89)), .int (u.2.1 12)])), ((u.1 21), .inl (cy 1, 280, .inl ((u.2.2.2.2.1 9)))), ((u.1 22), .inl (cy 1, 31, .inl ((u.2.2.2.2.1 10)))), ((u.1 19), .inr (3, [.ref (u.1 23), .ref (u.1 24), .int (nI (u.1 90)), .int (u.2.1 13)])), ((u.1 23), .inl (cy 1, 280, .inl ((u.2.2.2.2.1 11)))), ((u.1 24), .inl (cy 1, 31, .inl ((u.2.2.2.2.1 12)))), ((u.1 20), .inr (3, [.ref (u.1 25), .ref (u.1 26), .int (nI (u.1 91)), .int (u.2.1 14)])), ((u.1 25), .inl (cy 1, 280, .inl ((u.2.2.2.2.1 13)))), ((u.1 26), .inl (cy 1, 31, .inl ((u.2.2.2.2.1 14)))), ((u.1 27), .inr (4, [.ref (u.1 28), .ref (u.1 29), .ref (u.1 30), .ref (u.1 31), .ref (u.1 32), .ref (u.1 33), .ref (u.1 34), .ref (u.1 35), .ref (u.1 36), .ref (u.1 37), .ref (u.1 38), (u.2.2.2.1 2), (u.2.2.2.1 3), (u.2.2.2.1 4), (u.2.2.2.1 5), (u.2.2.2.1 6)])), ((u.1 28), .inl (cy 1, 4, .inl ((u.2.2.2.2.1 15)))), ((u.1 29), .inl (cy 1, 8, .inl ((u.2.2.2.2.1 16)))), ((u.1 30), .inl (cy 1, 4, .inl ((u.2.2.2.2.1 17)))), ((u.1 31), .inl (cy 1, 4, .inl ((u.2.2.2.2.1 18)))), ((u.1 32), .inl (cy 1, 4, .inl ((u.2.2.2.2.1 19)))), ((u.1 33), .inl (cy 1, 4, .inl ((u.2.2.2.2.1 20)))), ((u.1 34), .inl (cy 1, 48, .inl ((u.2.2.2.2.1 21)))), ((u.1 35), .inl (cy 1, 6, .inl ((u.2.2.2.2.1 22)))), ((u.1 36), .inr (3, [.ref (u.1 39), .ref (u.1 40), (u.2.2.2.1 7), (u.2.2.2.1 8)])), ((u.1 39), .inl (cy 1, 280, .inl ((u.2.2.2.2.1 23)))), ((u.1 40), .inl (cy 1, 31, .inl ((u.2.2.2.2.1 24)))), ((u.1 37), .inr (3, [.ref (u.1 41), .ref (u.1 42), (u.2.2.2.1 9), (u.2.2.2.1 10)])), ((u.1 41), .inl (cy 1, 280, .inl ((u.2.2.2.2.1 25)))), ((u.1 42), .inl (cy 1, 31, .inl ((u.2.2.2.2.1 26)))), ((u.1 38), .inr (3, [.ref (u.1 43), .ref (u.1 44), (u.2.2.2.1 11), (u.2.2.2.1 12)])), ((u.1 43), .inl (cy 1, 280, .inl ((u.2.2.2.2.1 27)))), ((u.1 44), .inl (cy 1, 31, .inl ((u.2.2.2.2.1 28)))), ((u.1 45), .inr (5, [.ref (u.1 46), .ref (u.1 47), .ref (u.1 48), .int (u.2.1 15), .int (nI (u.1 92)), .int (nI (u.1 93)), .int (nI (u.1 94))])), ((u.1 46), .inl (cy 1, 41, .inl ((u.2.2.2.2.1 29)))), ((u.1 47), .inl (cy 1, 1681, .inl ((u.2.2.2.2.1 30)))), ((u.1 48), .inl (cy 1, 123, .inl ((u.2.2.2.2.1 31)))), ((u.1 49), .inr (8, [.ref (u.1 50), .ref (u.1 51), .ref (u.1 52), .ref (u.1 53), .ref (u.1 54), .ref (u.1 55), .ref (u.1 56), .ref (u.1 57), .int (nI (u.1 95)), .int (u.2.1 16), .int (nI (u.1 96)), .int (u.2.1 17), .int (u.2.1 18)])), ((u.1 50), .inl (cy 1, 30, .inl ((u.2.2.2.2.1 32)))), ((u.1 51), .inl (cy 1, 30, .inl ((u.2.2.2.2.1 33)))), ((u.1 52), .inl (cy 1, 30, .inl ((u.2.2.2.2.1 34)))), ((u.1 53), .inl (cy 1, 30, .inl ((u.2.2.2.2.1 35)))), ((u.1 54), .inl (cy 1, 30, .inl ((u.2.2.2.2.1 36)))), ((u.1 55), .inl (cy 1, 100, .inl ((u.2.2.2.2.1 37)))), ((u.1 56), .inl (cy 1, 11, .inl ((u.2.2.2.2.1 38)))), ((u.1 57), .inl (cy 1, 7, .inl ((u.2.2.2.2.1 39)))), ((u.1 58), .inr (0, [.ref (u.1 59), .ref (u.1 60), .int (u.2.1 19)])), ((u.1 59), .inl (cy 4, 4, .inr (.inr (.inr (.inr (eF ((u.2.2.2.2.2.2.1 0) 0) ((u.2.2.2.2.2.2.1 0) 1) ((u.2.2.2.2.2.2.1 0) 2) ((u.2.2.2.2.2.2.1 0) 3))))))), ((u.1 60), .inl (cy 1, 20, .inl ((u.2.2.2.2.1 40)))), ((u.2.2.2.2.2.2.1 0) 0, .inr (2, [.ref ((u.2.2.2.2.2.2.1 1) 0), .ref ((u.2.2.2.2.2.2.1 2) 0), .int ((u.2.2.2.2.1 41) 0), .int (nI ((u.2.2.2.2.2.2.1 3) 0)), .int (nI ((u.2.2.2.2.2.2.1 4) 0))])), ((u.2.2.2.2.2.2.1 1) 0, .inl (cy 1, 10, .inl ((u.2.2.2.2.2.2.2.1 0) 0))), ((u.2.2.2.2.2.2.1 2) 0, .inl (cy 1, 7, .inl ((u.2.2.2.2.2.2.2.1 1) 0))), ((u.2.2.2.2.2.2.1 0) 1, .inr (2, [.ref ((u.2.2.2.2.2.2.1 1) 1), .ref ((u.2.2.2.2.2.2.1 2) 1), .int ((u.2.2.2.2.1 41) 1), .int (nI ((u.2.2.2.2.2.2.1 3) 1)), .int (nI ((u.2.2.2.2.2.2.1 4) 1))])), ((u.2.2.2.2.2.2.1 1) 1, .inl (cy 1, 10, .inl ((u.2.2.2.2.2.2.2.1 0) 1))), ((u.2.2.2.2.2.2.1 2) 1, .inl (cy 1, 7, .inl ((u.2.2.2.2.2.2.2.1 1) 1))), ((u.2.2.2.2.2.2.1 0) 2, .inr (2, [.ref ((u.2.2.2.2.2.2.1 1) 2), .ref ((u.2.2.2.2.2.2.1 2) 2), .int ((u.2.2.2.2.1 41) 2), .int (nI ((u.2.2.2.2.2.2.1 3) 2)), .int (nI ((u.2.2.2.2.2.2.1 4) 2))])), ((u.2.2.2.2.2.2.1 1) 2, .inl (cy 1, 10, .inl ((u.2.2.2.2.2.2.2.1 0) 2))), ((u.2.2.2.2.2.2.1 2) 2, .inl (cy 1, 7, .inl ((u.2.2.2.2.2.2.2.1 1) 2))), ((u.2.2.2.2.2.2.1 0) 3, .inr (2, [.ref ((u.2.2.2.2.2.2.1 1) 3), .ref ((u.2.2.2.2.2.2.1 2) 3), .int ((u.2.2.2.2.1 41) 3), .int (nI ((u.2.2.2.2.2.2.1 3) 3)), .int (nI ((u.2.2.2.2.2.2.1 4) 3))])), ((u.2.2.2.2.2.2.1 1) 3, .inl (cy 1, 10, .inl ((u.2.2.2.2.2.2.2.1 0) 3))), ((u.2.2.2.2.2.2.1 2) 3, .inl (cy 1, 7, .inl ((u.2.2.2.2.2.2.2.1 1) 3))), ((u.1 61), .inr (1, [.ref (u.1 62), .ref (u.1 59), .ref (u.1 63), .ref (u.1 64), .ref (u.1 65), (u.2.2.2.1 13), .int (nI (u.1 97)), .int (u.2.1 20)])), ((u.1 62), .inl (cy 1, 5, .inl ((u.2.2.2.2.1 42)))), ((u.1 63), .inl (cy 1, 24, .inl ((u.2.2.2.2.1 43)))), ((u.1 64), .inl (cy 1, 10, .inl ((u.2.2.2.2.1 44)))), ((u.1 65), .inl (cy 1, 66, .inl ((u.2.2.2.2.1 45)))), ((u.1 66), .inr (6, [.ref (u.1 67), .ref (u.1 59), .ref (u.1 60), .ref (u.1 68), .ref (u.1 69), .ref (u.1 70), (u.2.2.2.1 14), (u.2.2.2.1 15), .int (nI (u.1 98))])), ((u.1 67), .inl (cy 1, 3, .inl ((u.2.2.2.2.1 46)))), ((u.1 68), .inl (cy 1, 3, .inl ((u.2.2.2.2.1 47)))), ((u.1 69), .inl (cy 1, 4, .inl ((u.2.2.2.2.1 48)))), ((u.1 70), .inl (cy 1, 40, .inl ((u.2.2.2.2.1 49)))), ((u.1 71), .inr (7, [.ref (u.1 72), .ref (u.1 73), .int (nI (u.1 99)), .int (u.2.1 21), .int (u.2.1 22), .int (u.2.1 23), .int (u.2.1 24)])), ((u.1 72), .inl (cy 1, 10, .inl ((u.2.2.2.2.1 50)))), ((u.1 73), .inl (cy 1, 4, .inl ((u.2.2.2.2.1 51)))), ((u.1 74), .inr (7, [.ref (u.1 75), .ref (u.1 76), .int (nI (u.1 100)), .int (u.2.1 25), .int (u.2.1 26), .int (u.2.1 27), .int (u.2.1 28)])), ((u.1 75), .inl (cy 1, 10, .inl ((u.2.2.2.2.1 52)))), ((u.1 76), .inl (cy 1, 4, .inl ((u.2.2.2.2.1 53)))), ((u.1 77), .inr (7, [.ref (u.1 78), .ref (u.1 79), .int (nI (u.1 101)), .int (u.2.1 29), .int (u.2.1 30), .int (u.2.1 31), .int (u.2.1 32)])), ((u.1 78), .inl (cy 1, 10, .inl ((u.2.2.2.2.1 54)))), ((u.1 79), .inl (cy 1, 4, .inl ((u.2.2.2.2.1 55)))), ((u.1 80), .inl (cy 1, 10, .inl ((u.2.2.2.2.1 56))))]
def IM (cy : Nat → ClassId) (m0 : Nat) (v : XS) : va_W := [wO m0 12 [.ref (v.1 0), .int (nI (v.1 47)), .int (nI (v.1 48)), .int (v.2.1 0), .int (nI (v.1 49)), .int (nI (v.1 50)), .int (v.2.1 1), .int (v.2.1 2), .int (v.2.1 3), .long (v.2.2.1 0), .ref (v.1 1), .ref (v.1 2), .ref (v.1 3), .ref (v.1 4), .ref (v.1 5), .ref (v.1 6), .ref (v.1 7), .ref (v.1 8), .ref (v.1 9), .ref (v.1 10), .ref (v.1 11), .int (nI (v.1 51)), .int (nI (v.1 52)), .int (nI (v.1 53)), .int (v.2.1 4), .int (nI (v.1 54)), .int (nI (v.1 55)), .ref (v.1 12), .ref (v.1 13), .ref (v.1 14), .ref (v.1 15), .ref (v.1 16), .ref (v.1 17), .ref (v.1 18), .ref (v.1 19), .ref (v.1 20), .ref (v.1 21), .ref (v.1 22), .ref (v.1 23), .ref (v.1 24), .ref (v.1 25), .ref (v.1 26), .int (nI (v.1 56)), .int (nI (v.1 57)), .int (nI (v.1 58)), .int (nI (v.1 59)), .int (nI (v.1 60)), .int (v.2.1 5), .int (v.2.1 6), .int (nI (v.1 61)), .int (nI (v.1 62)), .int (nI (v.1 63)), .int (nI (v.1 64)), .int (v.2.1 7), .int (v.2.1 8), .int (v.2.1 9), .int (v.2.1 10), .ref (v.1 27), .ref (v.1 28), .ref (v.1 29), .ref (v.1 30), .int (nI (v.1 65)), .int (v.2.1 11), .int (v.2.1 12), .int (v.2.1 13), .int (v.2.1 14), .int (nI (v.1 66)), .ref (v.1 31), .int (nI (v.1 67)), .int (nI (v.1 68)), .ref (v.1 32), .int (nI (v.1 69)), .ref (v.1 33), .ref (v.1 34), .ref (v.1 35), .ref (v.1 36), .ref (v.1 37), .ref (v.1 38), .ref (v.1 39), .ref (v.1 40), .ref (v.1 41), .ref (v.1 42), .int (nI (v.1 70)), .int (v.2.1 15), .ref (v.1 43), .int (v.2.1 16), .ref (v.1 44), .ref (v.1 45), .ref (v.1 46)], ((v.1 0), .inl (cy 1, 1600, .inl ((v.2.2.2.2.1 0)))), ((v.1 1), .inl (cy 2, 24, .inr (.inl ((v.2.2.2.2.2.1 0))))), ((v.1 2), .inl (cy 1, 960, .inl ((v.2.2.2.2.1 1)))), ((v.1 3), .inl (cy 1, 960, .inl ((v.2.2.2.2.1 2)))), ((v.1 4), .inl (cy 1, 3, .inl ((v.2.2.2.2.1 3)))), ((v.1 5), .inl (cy 1, 960, .inl ((v.2.2.2.2.1 4)))), ((v.1 6), .inl (cy 1, 960, .inl ((v.2.2.2.2.1 5)))), ((v.1 7), .inl (cy 1, 3, .inl ((v.2.2.2.2.1 6)))), ((v.1 8), .inl (cy 1, 160, .inl ((v.2.2.2.2.1 7)))), ((v.1 9), .inl (cy 1, 64, .inl ((v.2.2.2.2.1 8)))), ((v.1 10), .inl (cy 3, 3, .inl ((v.2.2.2.2.1 9)))), ((v.1 11), .inl (cy 3, 3, .inl ((v.2.2.2.2.1 10)))), ((v.1 12), .inl (cy 1, 7, .inl ((v.2.2.2.2.1 11)))), ((v.1 13), .inl (cy 1, 8, .inl ((v.2.2.2.2.1 12)))), ((v.1 14), .inl (cy 1, 4, .inl ((v.2.2.2.2.1 13)))), ((v.1 15), .inl (cy 1, 4, .inl ((v.2.2.2.2.1 14)))), ((v.1 16), .inl (cy 1, 4, .inl ((v.2.2.2.2.1 15)))), ((v.1 17), .inl (cy 1, 4, .inl ((v.2.2.2.2.1 16)))), ((v.1 18), .inl (cy 1, 48, .inl ((v.2.2.2.2.1 17)))), ((v.1 19), .inl (cy 1, 8, .inl ((v.2.2.2.2.1 18)))), ((v.1 20), .inl (cy 1, 4, .inl ((v.2.2.2.2.1 19)))), ((v.1 21), .inl (cy 1, 4, .inl ((v.2.2.2.2.1 20)))), ((v.1 22), .inl (cy 1, 4, .inl ((v.2.2.2.2.1 21)))), ((v.1 23), .inl (cy 1, 4, .inl ((v.2.2.2.2.1 22)))), ((v.1 24), .inl (cy 1, 48, .inl ((v.2.2.2.2.1 23)))), ((v.1 25), .inl (cy 3, 6, .inl ((v.2.2.2.2.1 24)))), ((v.1 26), .inl (cy 3, 6, .inl ((v.2.2.2.2.1 25)))), ((v.1 27), .inl (cy 1, 42, .inl ((v.2.2.2.2.1 26)))), ((v.1 28), .inl (cy 1, 10, .inl ((v.2.2.2.2.1 27)))), ((v.1 29), .inl (cy 1, 4, .inl ((v.2.2.2.2.1 28)))), ((v.1 30), .inl (cy 1, 20, .inl ((v.2.2.2.2.1 29)))), ((v.1 31), .inl (cy 1, 1680, .inl ((v.2.2.2.2.1 30)))), ((v.1 32), .inl (cy 1, 20, .inl ((v.2.2.2.2.1 31)))), ((v.1 33), .inl (cy 1, 3, .inl ((v.2.2.2.2.1 32)))), ((v.1 34), .inl (cy 1, 6, .inl ((v.2.2.2.2.1 33)))), ((v.1 35), .inl (cy 1, 6, .inl ((v.2.2.2.2.1 34)))), ((v.1 36), .inl (cy 1, 6, .inl ((v.2.2.2.2.1 35)))), ((v.1 37), .inl (cy 1, 6, .inl ((v.2.2.2.2.1 36)))), ((v.1 38), .inl (cy 1, 30, .inl ((v.2.2.2.2.1 37)))), ((v.1 39), .inl (cy 1, 30, .inl ((v.2.2.2.2.1 38)))), ((v.1 40), .inl (cy 1, 30, .inl ((v.2.2.2.2.1 39)))), ((v.1 41), .inl (cy 1, 30, .inl ((v.2.2.2.2.1 40)))), ((v.1 42), .inl (cy 1, 30, .inl ((v.2.2.2.2.1 41)))), ((v.1 43), .inl (cy 3, 100, .inl ((v.2.2.2.2.1 42)))), ((v.1 44), .inl (cy 1, 11, .inl ((v.2.2.2.2.1 43)))), ((v.1 45), .inl (cy 3, 3, .inl ((v.2.2.2.2.1 44)))), ((v.1 46), .inl (cy 1, 126, .inl ((v.2.2.2.2.1 45))))]
def okX (u : XS) : Prop := ((u.1 81) ≤ 1600) ∧ (cntOK (u.2.2.2.2.1 1) (u.1 85) (u.1 86) (u.1 87) (u.1 88)) ∧ ((u.1 85) ≤ 8) ∧ ((u.1 86) ≤ 4) ∧ ((u.1 87) ≤ 4) ∧ ((u.1 88) ≤ 6) ∧ (rng (u.2.2.2.2.1 7) 48 5) ∧ ((u.1 89) ≤ 280) ∧ (cOK (u.2.2.2.2.1 9) (u.1 89)) ∧ (fmW (u.2.1 12) (u.2.2.2.2.1 9) (u.1 89)) ∧ ((u.1 91) ≤ 280) ∧ (cOK (u.2.2.2.2.1 13) (u.1 91)) ∧ (fmW (u.2.1 14) (u.2.2.2.2.1 13) (u.1 91)) ∧ ((u.1 90) ≤ 280) ∧ (cOK (u.2.2.2.2.1 11) (u.1 90)) ∧ (fmW (u.2.1 13) (u.2.2.2.2.1 11) (u.1 90)) ∧ ((u.1 92) ≤ 40) ∧ ((u.1 93) + (u.1 94) ≤ 40) ∧ (mRows (u.2.2.2.2.1 29) 1) ∧ (mRows (u.2.2.2.2.1 30) 41) ∧ (mRows (u.2.2.2.2.1 31) 3) ∧ ((u.1 95) ≤ 30) ∧ ((u.1 96) ≤ 100) ∧ (rng (u.2.2.2.2.1 32) 30 3) ∧ (rng (u.2.2.2.2.1 33) 30 10) ∧ (∀ i9, i9 < 4 → (u.2.2.2.2.2.2.1 3) i9 ≤ 10) ∧ (rng (u.2.2.2.2.1 40) 20 7) ∧ (pRow (u.2.2.2.2.1 43)) ∧ (rng (u.2.2.2.2.1 47) 3 9) ∧ ((u.1 98) ≤ 3) ∧ ((u.1 99) ≤ 10) ∧ (rng (u.2.2.2.2.1 50) 10 7) ∧ ((u.1 100) ≤ 10) ∧ (rng (u.2.2.2.2.1 52) 10 7) ∧ ((u.1 101) ≤ 10) ∧ (rng (u.2.2.2.2.1 54) 10 7) ∧ ((u.1 102) ≤ 10) ∧ (kyOK (u.2.2.2.2.2.1 0)) ∧ ((u.1 101) = 0) ∧ (z8P (u.2.2.2.2.1 39)) ∧ (cl9 (u.2.2.2.2.1 7) (u.2.1 7) (u.1 88))
def okM (v : XS) : Prop := ((v.1 47) ≤ 1600) ∧ ((v.1 49) ≤ (v.1 50)) ∧ ((v.1 50) ≤ 1600) ∧ ((v.1 48) ≤ 5) ∧ ((v.1 51) ≤ 2) ∧ ((v.1 56) ≤ 8) ∧ ((v.1 57) ≤ 4) ∧ ((v.1 58) ≤ 4) ∧ ((v.1 59) ≤ 6) ∧ ((v.1 61) ≤ 8) ∧ ((v.1 62) ≤ 4) ∧ ((v.1 63) ≤ 4) ∧ ((v.1 64) ≤ 6) ∧ ((v.1 65) ≤ 10) ∧ ((v.1 66) ≤ 20) ∧ ((v.1 67) + (v.1 68) ≤ 40) ∧ ((v.1 69) ≤ 20) ∧ ((v.1 70) ≤ 30) ∧ ((v.1 52) ≤ 40) ∧ ((v.1 55) ≤ 8) ∧ ((v.1 54) ≤ 31) ∧ ((v.1 53) ≤ 61) ∧ ((v.1 60) ≤ 30) ∧ (∀ k9 : Nat, k9 < 3 → ¬ (v.2.2.2.2.1 10) k9 = 0 → 1 ≤ (v.2.2.2.2.2.2.1 1) k9) ∧ (rng (v.2.2.2.2.1 27) 10 7) ∧ (rng (v.2.2.2.2.1 29) 20 7) ∧ (rng (v.2.2.2.2.1 37) 30 3) ∧ (rng (v.2.2.2.2.1 38) 30 10) ∧ (wRows (v.2.2.2.2.1 26) 1) ∧ (wRows (v.2.2.2.2.1 30) 40) ∧ (wRows (v.2.2.2.2.1 45) 3) ∧ (nxT (v.2.2.2.2.1 23)) ∧ (nxT (v.2.2.2.2.1 17)) ∧ (rng (v.2.2.2.2.1 36) 6 5) ∧ (rng (v.2.2.2.2.1 34) 6 5) ∧ (allR (v.2.2.2.2.1 1) (v.2.2.2.2.1 2) (v.2.2.2.2.1 3) (v.2.2.2.2.2.2.1 0) (v.2.2.2.2.2.2.2.2 0)) ∧ (allR (v.2.2.2.2.1 4) (v.2.2.2.2.1 5) (v.2.2.2.2.1 6) (v.2.2.2.2.2.2.1 1) (v.2.2.2.2.2.2.2.2 1)) ∧ (byN (v.2.2.2.2.1 0))
section L1S
abbrev HXT : Type := Nat × Nat × Nat × Nat × FN9 × FN9 × FN9 × FN9 × FN9 × FN9 × Int32 × Int32 × Int32 × Int32
abbrev HMT : Type := Nat × Nat × Nat × Nat × FN9 × FN9 × FN9 × FN9 × FN9 × FN9 × Int32 × Int32 × Int32
abbrev SST : Type := Nat × FN9 × FN9 × FN9 × FN9 × FN9
/-- class and reference hold the same HILLS -/
def RH (h : HXT) (m : HMT) : Prop :=
  (h.1 = m.1 ∧ h.2.1 = m.2.1 ∧ h.2.2.1 = m.2.2.1 ∧ h.2.2.2.1 = m.2.2.2.1) ∧ (h.1 ≤ 8 ∧ h.2.1 ≤ 4 ∧ h.2.2.1 ≤ 4 ∧ h.2.2.2.1 ≤ 6) ∧
  (rowR h.2.2.2.2.1 m.2.2.2.2.1 h.2.1 ∧ rowR h.2.2.2.2.2.1 m.2.2.2.2.2.1 h.2.1 ∧ rowR h.2.2.2.2.2.2.1 m.2.2.2.2.2.2.1 h.2.2.1 ∧ rowR h.2.2.2.2.2.2.2.1 m.2.2.2.2.2.2.2.1 h.2.2.1 ∧ rowR h.2.2.2.2.2.2.2.2.1 m.2.2.2.2.2.2.2.2.1 h.1) ∧
  (∀ s w : Nat, s < h.2.2.2.1 → w < 8 → nxC h.2.2.2.2.2.2.2.2.2.1 s w = nxR m.2.2.2.2.2.2.2.2.2.1 s w) ∧
  h.2.2.2.2.2.2.2.2.2.2.1 = m.2.2.2.2.2.2.2.2.2.2.1 ∧ h.2.2.2.2.2.2.2.2.2.2.2.1 = m.2.2.2.2.2.2.2.2.2.2.2.1 ∧ h.2.2.2.2.2.2.2.2.2.2.2.2.2 = m.2.2.2.2.2.2.2.2.2.2.2.2
/-- class and reference hold the same SOUNDS -/
def RS (t : Int32) (a b : SST) : Prop :=
  a.1 = b.1 ∧ a.1 ≤ 30 ∧ (∃ n : Nat, n ≤ 100000 ∧ t = nI n) ∧ ∀ i, i < a.1 → a.2.1 i = b.2.1 i ∧ a.2.2.1 i = b.2.2.1 i ∧ a.2.2.2.1 i = b.2.2.2.1 i ∧ a.2.2.2.2.1 i = b.2.2.2.2.1 i ∧ a.2.2.2.2.2 i = b.2.2.2.2.2 i ∧ (a.2.2.2.2.2 i = -1 ∨ ∃ n : Nat, n ≤ 100000 ∧ a.2.2.2.2.2 i = nI n)
theorem RH_eq {h h2 : HXT} {m m2 : HMT} (R : RH h m) (e1 : h2 = h) (e2 : m2 = m) : RH h2 m2 := by subst e1 e2; exact R
theorem RS_eq {t t2 : Int32} {h h2 : SST} {m m2 : SST} (R : RS t h m) (e : t2 = t) (e1 : h2 = h) (e2 : m2 = m) : RS t2 h2 m2 := by subst e e1 e2; exact R
theorem upd_same {f g : FN9} {i k : Nat} {x y : Int32} (h : i < k → f i = g i) (hi : i < k + 1) (e : x = y) : upd f k x i = upd g k y i := by
  subst e
  by_cases h9 : i = k
  · rw [h9, pk_us, pk_us]
  · rw [pk_un h9, pk_un h9]; exact h (by omega)
theorem so_same {c1 n1 uc us uc2 us2 : Nat} {t t' x n z r r' : Int32} {f1 f2 f3 f4 f5 g1 g2 g3 g4 g5 a1 a2 a3 a4 a5 b1 b2 b3 b4 b5 : FN9} (hc : c1 = n1) (ht : t = t') (R : RS t (uc, f1, f2, f3, f4, f5) (us, g1, g2, g3, g4, g5)) (h1 : soS c1 uc f1 f2 f3 f4 f5 t x n z r uc2 a1 a2 a3 a4 a5) (h2 : soS n1 us g1 g2 g3 g4 g5 t' x n z r' us2 b1 b2 b3 b4 b5) : r = r' ∧ RS t (uc2, a1, a2, a3, a4, a5) (us2, b1, b2, b3, b4, b5) := by
  subst hc ht
  obtain ⟨e0, e30, et, ea⟩ := R
  have e0 : uc = us := e0
  have e30 : uc ≤ 30 := e30
  subst e0
  rcases h1 with ⟨p1, p2, ⟨p3, p4, p5, p6, p7⟩, p8⟩ | ⟨⟨q1, q2, q3, q4, q5⟩, q6⟩ <;> rcases h2 with ⟨p1', p2', ⟨p3', p4', p5', p6', p7'⟩, p8'⟩ | ⟨⟨q1', q2', q3', q4', q5'⟩, q6'⟩
  · subst p2 p3 p4 p5 p6 p7 p2' p3' p4' p5' p6' p7'
    exact ⟨by rw [p1, p1'], rfl, e30, et, ea⟩
  · rcases p8 with h | h | h | h | h <;> exact absurd h (by first | exact not_not_intro q1' | assumption)
  · rcases p8' with h | h | h | h | h <;> exact absurd h (by first | exact not_not_intro q1 | assumption)
  · rcases q6 with ⟨a0, a6, a7, h1, h2, h3, h4, h5⟩ | ⟨a0, a6, a7, h1, h2, h3, h4, h5⟩ <;> rcases q6' with ⟨b0, b6, b7, k1, k2, k3, k4, k5⟩ | ⟨b0, b6, b7, k1, k2, k3, k4, k5⟩
    · subst a7 b7 h1 h2 h3 h4 h5 k1 k2 k3 k4 k5
      exact ⟨by rw [a6, b6], rfl, e30, et, ea⟩
    · omega
    · omega
    · subst a7 b7 h1 h2 h3 h4 h5 k1 k2 k3 k4 k5
      refine ⟨by rw [a6, b6], rfl, show uc + 1 ≤ 30 by omega, et, fun i hi => ?_⟩
      have hi : i < uc + 1 := hi
      refine ⟨upd_same (fun h => (ea i h).1) hi rfl, upd_same (fun h => (ea i h).2.1) hi rfl, upd_same (fun h => (ea i h).2.2.1) hi rfl, upd_same (fun h => (ea i h).2.2.2.1) hi rfl, upd_same (fun h => (ea i h).2.2.2.2.1) hi rfl, ?_⟩
      show upd f5 uc (-1) i = -1 ∨ ∃ n : Nat, n ≤ 100000 ∧ upd f5 uc (-1) i = nI n
      by_cases h9 : i = uc
      · rw [h9, pk_us]; exact Or.inl rfl
      · rw [pk_un h9]; exact (ea i (show i < uc by omega)).2.2.2.2.2
theorem neg_iff {x : Int32} (h : x = -1 ∨ ∃ n : Nat, n ≤ 100000 ∧ x = nI n) : x = -1 ↔ x < 0 := by
  constructor
  · intro h9; rw [h9]; decide
  · intro h9
    rcases h with h | ⟨n, hn, e⟩
    · exact h
    · exact absurd (e ▸ h9) (nI_pos (by omega))
theorem un_same {uc us : Nat} {t t' x r r' : Int32} {f1 f2 f3 f4 f5 g1 g2 g3 g4 g5 a5 b5 : FN9} (ht : t = t') (R : RS t (uc, f1, f2, f3, f4, f5) (us, g1, g2, g3, g4, g5)) (h1 : unS (fun y => y = -1) uc f5 t x r a5) (h2 : unS (fun y => y < 0) us g5 t' x r' b5) : r = r' ∧ RS t (uc, f1, f2, f3, f4, a5) (us, g1, g2, g3, g4, b5) := by
  subst ht
  obtain ⟨e0, e30, et, ea⟩ := R
  have e0 : uc = us := e0
  have e30 : uc ≤ 30 := e30
  subst e0
  have hk : ∀ j, j < uc → (f5 j = -1 ↔ g5 j < 0) := fun j hj => by
    have h9 := ea j hj
    have e5 : f5 j = g5 j := h9.2.2.2.2.1
    rw [← e5]
    exact neg_iff h9.2.2.2.2.2
  rcases h1 with ⟨p1, p2, p3⟩ | ⟨p1, j, p2, p3, p4, p5⟩ <;> rcases h2 with ⟨q1, q2, q3⟩ | ⟨q1, k, q2, q3, q4, q5⟩
  · subst p2 q2
    exact ⟨by rw [p1, q1], rfl, e30, et, ea⟩
  · exact absurd ⟨k, q2, q3, (hk k q2).mpr q4⟩ p3
  · exact absurd ⟨j, p2, p3, (hk j p2).mp p4⟩ q3
  · have e := nI_inj (by omega) (by omega) (p3.symm.trans q3)
    subst e p5 q5
    refine ⟨by rw [p1, q1], rfl, e30, et, fun i hi => ?_⟩
    have hi : i < uc := hi
    obtain ⟨r1, r2, r3, r4, r5, r6⟩ := ea i hi
    refine ⟨r1, r2, r3, r4, ?_, ?_⟩
    · show upd f5 j t i = upd g5 j t i
      by_cases h9 : i = j
      · rw [h9, pk_us, pk_us]
      · rw [pk_un h9, pk_un h9]; exact r5
    · show upd f5 j t i = -1 ∨ ∃ n : Nat, n ≤ 100000 ∧ upd f5 j t i = nI n
      by_cases h9 : i = j
      · rw [h9, pk_us]; exact Or.inr et
      · rw [pk_un h9]; exact r6
theorem later_RS {t t2 b r : Int32} {h m : SST} (R : RS t h m) (e : (r, t2) = laterF t b) : RS t2 h m := by
  obtain ⟨e0, e30, ⟨n, hn, et⟩, ea⟩ := R
  refine ⟨e0, e30, ?_, ea⟩
  unfold laterF at e
  by_cases h1 : b < 0
  · rw [if_pos h1] at e; cases e; exact ⟨n, hn, et⟩
  · rw [if_neg h1] at e
    by_cases h2 : 1000 < b
    · rw [if_pos h2] at e; cases e; exact ⟨n, hn, et⟩
    · rw [if_neg h2] at e
      by_cases h3 : t + b ≤ 100000
      · rw [if_pos h3] at e
        obtain ⟨j, hj, eb⟩ := nI_of h1
        have hj2 : j ≤ 1000 := by
          rw [eb] at h2
          have := q_nlt (a := 1000) (b := j) rfl rfl (by omega) hj h2
          omega
        rw [et, eb, nI_add] at e h3
        cases e
        exact ⟨n + j, q_le (a := n + j) (b := 100000) rfl rfl (by omega) (by omega) h3, rfl⟩
      · rw [if_neg h3] at e; cases e; exact ⟨n, hn, et⟩
theorem ld_same {h : HXT} {m : HMT} {xs xw r r' : Int32} (R : RH h m) (h1 : ldS (nxC h.2.2.2.2.2.2.2.2.2.1) h.2.2.2.1 h.1 xs xw r) (h2 : ldS (nxR m.2.2.2.2.2.2.2.2.2.1) m.2.2.2.1 m.1 xs xw r') : r = r' := by
  obtain ⟨⟨c0, c1, c2, c3⟩, ⟨b0, b1, b2, b3⟩, _, hx, _⟩ := R
  rw [← c0, ← c3] at h2
  rcases h1 with ⟨p1, p2⟩ | ⟨s, w, p1, p2, p3, p4, p5⟩ <;> rcases h2 with ⟨q1, q2⟩ | ⟨s', w', q1, q2, q3, q4, q5⟩
  · rw [p1, q1]
  · exact absurd p2 (not_or.mpr ⟨not_not_intro ⟨s', q1, q3⟩, not_not_intro ⟨w', q2, q4⟩⟩)
  · exact absurd q2 (not_or.mpr ⟨not_not_intro ⟨s, p1, p3⟩, not_not_intro ⟨w, p2, p4⟩⟩)
  · have e1 := nI_inj (by omega) (by omega) (p3.symm.trans q3)
    have e2 := nI_inj (by omega) (by omega) (p4.symm.trans q4)
    subst e1 e2
    rw [p5, q5, hx s w p1 (by omega)]
theorem td_RH {s : AS} {c0 c1 c2 c3 : Nat} {fp fcs fmp fmv flo fx : FN9} {hon hwi hdr hu : Int32} {nW nC nM nS : Nat} {ca sn ma vo lo on : FN9} {ons wi un : Int32} (b : c0 ≤ 8 ∧ c1 ≤ 4 ∧ c2 ≤ 4 ∧ c3 ≤ 6) (h : tdC s c0 c1 c2 c3 fp fcs fmp fmv flo fx hon hwi hdr hu) (k : tdR s nW nC nM nS ca sn ma vo lo on ons wi un) : RH (c0, c1, c2, c3, fp, fcs, fmp, fmv, flo, fx, hon, hwi, hdr, hu) (nW, nC, nM, nS, ca, sn, ma, vo, lo, on, ons, wi, un) := by
  obtain ⟨⟨e0, e1, e2, e3⟩, ⟨r0, r1, r2, r3, r4⟩, ex, v1, v2, v3, v4⟩ := h
  obtain ⟨⟨k0, k1, k2, k3⟩, ⟨s0, s1, s2, s3, s4⟩, kx, w1, w2, w3⟩ := k
  subst e0 e1 e2 e3 k0 k1 k2 k3
  have tr : ∀ {f g k : FN9} {c : Nat}, rowR f k c → rowR g k c → rowR f g c := fun h1 h2 i hi => (h1 i hi).trans (h2 i hi).symm
  refine ⟨⟨rfl, rfl, rfl, rfl⟩, b, ⟨tr r1 s1, tr r2 s2, tr r3 s3, tr r4 s4, tr r0 s0⟩, fun a w ha hw => ?_, v1.trans w1.symm, v2.trans w2.symm, v4.trans w3.symm⟩
  have ha : a < sC s 3 := ha
  show fx (8 * a + w) = if on (8 * a + w) = -1 then nI a else on (8 * a + w)
  have hb := b.2.2.2
  rw [kx (8 * a + w) (by omega), ex (8 * a + w) (by omega), show (8 * a + w) / 8 = a by omega]
/-- hills, of both -/
def hlX (f : FN9) (n : Nat) (h h2 : HXT) (s s2 : SST) : Prop := (h2 = h ∧ s2 = s ∧ ∃ e, PR f n aS0 (.inl e)) ∨ ∃ gs, PR f n aS0 (.inr gs) ∧ s2.1 = 0 ∧ tdC gs h2.1 h2.2.1 h2.2.2.1 h2.2.2.2.1 h2.2.2.2.2.1 h2.2.2.2.2.2.1 h2.2.2.2.2.2.2.1 h2.2.2.2.2.2.2.2.1 h2.2.2.2.2.2.2.2.2.1 h2.2.2.2.2.2.2.2.2.2.1 h2.2.2.2.2.2.2.2.2.2.2.1 h2.2.2.2.2.2.2.2.2.2.2.2.1 h2.2.2.2.2.2.2.2.2.2.2.2.2.1 h2.2.2.2.2.2.2.2.2.2.2.2.2.2
def hlM (f : FN9) (n : Nat) (h h2 : HMT) (s s2 : SST) : Prop := (h2 = h ∧ s2 = s ∧ ∃ e, PR f n aS0 (.inl e)) ∨ ∃ gs, PR f n aS0 (.inr gs) ∧ s2.1 = 0 ∧ tdR gs h2.1 h2.2.1 h2.2.2.1 h2.2.2.2.1 h2.2.2.2.2.1 h2.2.2.2.2.2.1 h2.2.2.2.2.2.2.1 h2.2.2.2.2.2.2.2.1 h2.2.2.2.2.2.2.2.2.1 h2.2.2.2.2.2.2.2.2.2.1 h2.2.2.2.2.2.2.2.2.2.2.1 h2.2.2.2.2.2.2.2.2.2.2.2.1 h2.2.2.2.2.2.2.2.2.2.2.2.2
theorem hl_same {f g : FN9} {n n' : Nat} {t : Int32} {h h2 : HXT} {m m2 : HMT} {s s2 z z2 : SST} (hn : n = n') (ht : tpR f g n) (R : RH h m) (S : RS t s z) (b : h2.1 ≤ 8 ∧ h2.2.1 ≤ 4 ∧ h2.2.2.1 ≤ 4 ∧ h2.2.2.2.1 ≤ 6) (h1 : hlX f n h h2 s s2) (k1 : hlM g n' m m2 z z2) : RH h2 m2 ∧ RS t s2 z2 := by
  subst hn
  rcases h1 with ⟨p1, p2, e, p3⟩ | ⟨gs, p1, p2, p3⟩ <;> rcases k1 with ⟨q1, q2, e', q3⟩ | ⟨gs', q1, q2, q3⟩
  · subst p1 p2 q1 q2; exact ⟨R, S⟩
  · have e := (PR_tp ht p3).det q1; cases e
  · have e := (PR_tp ht p1).det q3; cases e
  · have e := (PR_tp ht p1).det q1
    cases e
    refine ⟨td_RH b p3 q3, p2.trans q2.symm, by rw [p2]; decide, S.2.2.1, fun i hi => ?_⟩
    rw [p2] at hi
    exact absurd hi (Nat.not_lt_zero i)
end L1S
section MOM
/-- where the class keeps what the reference keeps at k, in one moment -/
def phi (k : Nat) : Nat := if k < 10 then k + 1 else if k < 20 then k + 2 else if k = 20 then 0 else if k = 21 then 11 else if k = 22 then 22 else if k < 27 then k + 2 else if k = 27 then 23 else if k = 28 then 24 else k
theorem phi_lt {k : Nat} (h : k < 41) : phi k < 41 := by unfold phi; repeat' split
                                                         all_goals omega
theorem phi_inj {k j : Nat} (hk : k < 41) (hj : j < 41) (h : phi k = phi j) : k = j := by
  have H : ∀ k, k < 41 → ∀ j, j < 41 → phi k = phi j → k = j := by decide +kernel
  exact H k hk j hj h
/-- one moment of the class at o of f, one of the reference at p of g: alike up to N; NOONS at most 999, snow at most 9 -/
def nowR (wn N : Nat) (f : FN9) (o : Nat) (g : FN9) (p : Nat) : Prop :=
  (∀ k, k < N → f (o + phi k) = g (p + k)) ∧ (∃ j : Nat, j ≤ 999 ∧ f (o + 24) = nI j) ∧ (∀ c, c < 4 → ∃ j : Nat, j ≤ 9 ∧ f (o + (25 + c)) = nI j) ∧ (∀ k, k < 20 → ∃ j : Nat, (j < wn ∨ j = 0) ∧ g (p + k) = nI j) ∧ (wn = 0 → ∀ k, 20 ≤ k → k < 22 → g (p + k) = 0)
theorem nowR_ext {wn N : Nat} {f g f2 g2 : FN9} {o p o2 p2 : Nat} (hN : N ≤ 41) (h : nowR wn N f o g p) (h1 : ∀ k, k < 41 → f2 (o2 + k) = f (o + k)) (h2 : ∀ k, k < 41 → g2 (p2 + k) = g (p + k)) : nowR wn N f2 o2 g2 p2 := by
  obtain ⟨a, ⟨j, hj, b⟩, c, d, z⟩ := h
  refine ⟨fun k hk => ?_, ⟨j, hj, ?_⟩, fun q hq => ?_, fun k hk => ?_, fun hz k k1 k2 => by rw [h2 k (by omega)]; exact z hz k k1 k2⟩
  · rw [h1 (phi k) (phi_lt (by omega)), h2 k (by omega)]; exact a k hk
  · rw [h1 24 (by omega)]; exact b
  · obtain ⟨i, hi, e⟩ := c q hq
    exact ⟨i, hi, by rw [h1 (25 + q) (by omega)]; exact e⟩
  · obtain ⟨i, hi, e⟩ := d k hk
    exact ⟨i, hi, by rw [h2 k (by omega)]; exact e⟩
/-- the class's ring and the reference's shifted row -/
def RM (wn N : Nat) (fn fq fb : FN9) (fu : Int32) (cu un re : Nat) (gn gw gb hb : FN9) (ac ud : Nat) : Prop :=
  (cu ≤ 40 ∧ un + re ≤ 40 ∧ un = ac ∧ re = ud) ∧ nowR wn N fn 0 gn 0 ∧ (∀ k, k < 41 → fq (41 * cu + k) = fn k) ∧
  (∀ d, 1 ≤ d → d ≤ un → nowR wn N fq (41 * ((cu + 41 - d) % 41)) gw (42 * (un - d))) ∧
  (∀ d, 1 ≤ d → d ≤ re → nowR wn N fq (41 * ((cu + d) % 41)) gw (42 * (un + d - 1))) ∧
  (∃ m : Nat, m < 8 ∧ fu = nI m ∧ ∀ b, b < 3 → (m / 2 ^ b % 2 = 0 ↔ hb b = 0)) ∧
  ∀ b, b < 3 → ¬ hb b = 0 → nowR wn N fb (41 * b) gb (42 * b)
theorem RM_act {wn N : Nat} {fn fq fb : FN9} {fu : Int32} {cu un re : Nat} {gn gw gb hb : FN9} {ac ud : Nat} {fn2 fq2 gn2 gw2 : FN9} {cu2 un2 re2 ac2 ud2 : Nat} (hN : N ≤ 41) (R : RM wn N fn fq fb fu cu un re gn gw gb hb ac ud) (hn : nowR wn N fn2 0 gn2 0) (h1 : actC fn2 fq cu un fq2 cu2 un2 re2) (h2 : actR gn gw ac gw2 ac2 ud2) : RM wn N fn2 fq2 fb fu cu2 un2 re2 gn2 gw2 gb hb ac2 ud2 := by
  obtain ⟨⟨b1, b2, b3, b4⟩, n0, q0, pa, fa, bx, bo⟩ := R
  obtain ⟨a1, a2, a3, a4⟩ := h1
  obtain ⟨c1, c2, c3, c4⟩ := h2
  subst b3 b4
  have hcu : cu2 ≤ 40 := by omega
  have hin : ∀ k, k < 41 → fq2 (41 * cu2 + k) = fn2 k := fun k hk => by
    rw [a4, pk_cpy_in (by omega) (by omega)]
    congr 1
    omega
  have hout : ∀ r k, r ≤ 40 → ¬ r = cu2 → k < 41 → fq2 (41 * r + k) = fq (41 * r + k) := fun r k hr hne hk => by
    rw [a4]
    exact pk_cpy_out (by omega)
  refine ⟨⟨hcu, by omega, by omega, by omega⟩, hn, hin, fun d hd1 hd2 => ?_, fun d hd1 hd2 => by omega, bx, bo⟩
  by_cases hd : d = 1
  · subst hd
    have e : (cu2 + 41 - 1) % 41 = cu := by omega
    rw [e, show un2 = ac2 by omega]
    refine nowR_ext hN n0 (fun k hk => ?_) (fun k hk => ?_)
    · rw [hout cu k b1 (by omega) hk, q0 k hk, Nat.zero_add]
    · rw [c4 k hk, Nat.zero_add]
  · have e : (cu2 + 41 - d) % 41 = (cu + 41 - (d - 1)) % 41 := by omega
    rw [e, show un2 = ac2 by omega]
    have hle : d - 1 ≤ un := by omega
    refine nowR_ext hN (pa (d - 1) (by omega) hle) (fun k hk => ?_) (fun k hk => ?_)
    · exact hout _ k (by omega) (by omega) hk
    · rw [c3 d (by omega) (by omega) k hk, show un + 1 - d = un - (d - 1) by omega]
theorem cpy_row {f g : FN9} {o k : Nat} (hk : k < 41) : va_cpy f g o 0 41 k = f (o + k) := by
  rw [pk_cpy_in (by omega) (by omega)]
  congr 1
theorem cpy_00 {f g : FN9} {k : Nat} (hk : k < 41) : va_cpy f g 0 0 41 k = f k := by
  rw [cpy_row hk, Nat.zero_add]
theorem RM_back {wn N : Nat} {fn fq fb : FN9} {fu : Int32} {cu un re : Nat} {gn gw gb hb : FN9} {ac ud : Nat} {gn2 gw2 : FN9} (hN : N ≤ 41) (R : RM wn N fn fq fb fu cu un re gn gw gb hb ac ud) (h0 : 1 ≤ un) (h : exR gn gw (42 * (ac - 1)) gn2 gw2) : RM wn N (va_cpy fq fn (41 * ((cu + 41 - 1) % 41)) 0 41) fq fb fu ((cu + 41 - 1) % 41) (un - 1) (re + 1) gn2 gw2 gb hb (ac - 1) (ud + 1) := by
  obtain ⟨⟨b1, b2, b3, b4⟩, n0, q0, pa, fa, bx, bo⟩ := R
  obtain ⟨x1, x2, x3⟩ := h
  subst b3 b4
  refine ⟨⟨by omega, by omega, rfl, rfl⟩, ?_, ?_, fun d hd1 hd2 => ?_, fun d hd1 hd2 => ?_, bx, bo⟩
  · refine nowR_ext hN (pa 1 (by omega) h0) (fun k hk => ?_) (fun k hk => ?_)
    · rw [Nat.zero_add, cpy_row hk]
    · rw [Nat.zero_add, x1 k hk]
  · intro k hk; rw [cpy_row hk]
  · have e : ((cu + 41 - 1) % 41 + 41 - d) % 41 = (cu + 41 - (d + 1)) % 41 := by omega
    rw [e, show un - 1 - d = un - (d + 1) by omega]
    refine nowR_ext hN (pa (d + 1) (by omega) (by omega)) (fun k hk => rfl) (fun k hk => ?_)
    exact x3 _ (by omega)
  · by_cases hd : d = 1
    · subst hd
      have e : ((cu + 41 - 1) % 41 + 1) % 41 = cu := by omega
      rw [e, show un - 1 + 1 - 1 = un - 1 by omega]
      refine nowR_ext hN n0 (fun k hk => ?_) (fun k hk => ?_)
      · rw [q0 k hk, Nat.zero_add]
      · rw [x2 k hk, Nat.zero_add]
    · have e : ((cu + 41 - 1) % 41 + d) % 41 = (cu + (d - 1)) % 41 := by omega
      rw [e, show un - 1 + d - 1 = un + (d - 1) - 1 by omega]
      refine nowR_ext hN (fa (d - 1) (by omega) (by omega)) (fun k hk => rfl) (fun k hk => ?_)
      exact x3 _ (by omega)
theorem RM_on {wn N : Nat} {fn fq fb : FN9} {fu : Int32} {cu un re : Nat} {gn gw gb hb : FN9} {ac ud : Nat} {gn2 gw2 : FN9} (hN : N ≤ 41) (R : RM wn N fn fq fb fu cu un re gn gw gb hb ac ud) (h0 : 1 ≤ re) (h : exR gn gw (42 * ac) gn2 gw2) : RM wn N (va_cpy fq fn (41 * ((cu + 1) % 41)) 0 41) fq fb fu ((cu + 1) % 41) (un + 1) (re - 1) gn2 gw2 gb hb (ac + 1) (ud - 1) := by
  obtain ⟨⟨b1, b2, b3, b4⟩, n0, q0, pa, fa, bx, bo⟩ := R
  obtain ⟨x1, x2, x3⟩ := h
  subst b3 b4
  refine ⟨⟨by omega, by omega, rfl, rfl⟩, ?_, ?_, fun d hd1 hd2 => ?_, fun d hd1 hd2 => ?_, bx, bo⟩
  · refine nowR_ext hN (fa 1 (by omega) h0) (fun k hk => ?_) (fun k hk => ?_)
    · rw [Nat.zero_add, cpy_row hk]
    · rw [Nat.zero_add, x1 k hk, show un + 1 - 1 = un by omega]
  · intro k hk; rw [cpy_row hk]
  · by_cases hd : d = 1
    · subst hd
      have e : ((cu + 1) % 41 + 41 - 1) % 41 = cu := by omega
      rw [e, show un + 1 - 1 = un by omega]
      refine nowR_ext hN n0 (fun k hk => ?_) (fun k hk => ?_)
      · rw [q0 k hk, Nat.zero_add]
      · rw [x2 k hk, Nat.zero_add]
    · have e : ((cu + 1) % 41 + 41 - d) % 41 = (cu + 41 - (d - 1)) % 41 := by omega
      rw [e, show un + 1 - d = un - (d - 1) by omega]
      refine nowR_ext hN (pa (d - 1) (by omega) (by omega)) (fun k hk => rfl) (fun k hk => ?_)
      exact x3 _ (by omega)
  · have e : ((cu + 1) % 41 + d) % 41 = (cu + (d + 1)) % 41 := by omega
    rw [e, show un + 1 + d - 1 = un + (d + 1) - 1 by omega]
    refine nowR_ext hN (fa (d + 1) (by omega) (by omega)) (fun k hk => rfl) (fun k hk => ?_)
    exact x3 _ (by omega)
theorem bits3 : ∀ m : Nat, m < 8 → ∀ b : Nat, b < 3 → (nI m >>> (nI b &&& 31)) &&& 1 = nI (m / 2 ^ b % 2) := by decide +kernel
theorem bitO3 : ∀ m : Nat, m < 8 → ∀ b : Nat, b < 3 → ∃ m2 : Nat, m2 < 8 ∧ nI m ||| ((1 : Int32) <<< (nI b &&& 31)) = nI m2 ∧ ∀ c : Nat, c < 3 → m2 / 2 ^ c % 2 = if c = b then 1 else m / 2 ^ c % 2 := by
  have H : ∀ m : Nat, m < 8 → ∀ b : Nat, b < 3 → nI m ||| ((1 : Int32) <<< (nI b &&& 31)) = nI (m ||| 2 ^ b) ∧ (m ||| 2 ^ b) < 8 ∧ ∀ c : Nat, c < 3 → (m ||| 2 ^ b) / 2 ^ c % 2 = if c = b then 1 else m / 2 ^ c % 2 := by decide +kernel
  intro m hm b hb
  have h := H m hm b hb
  exact ⟨m ||| 2 ^ b, h.2.1, h.1, h.2.2⟩
/-- both keep now in a BOX -/
theorem RM_image {wn N : Nat} {fn fq fb : FN9} {fu : Int32} {cu un re : Nat} {gn gw gb hb : FN9} {ac ud : Nat} {b : Nat} {fb2 gb2 hb2 : FN9} {fu2 : Int32} (hN : N ≤ 41) (R : RM wn N fn fq fb fu cu un re gn gw gb hb ac ud) (hb3 : b < 3) (h1 : fb2 = va_cpy fn fb 0 (41 * b) 41 ∧ fu2 = fu ||| ((1 : Int32) <<< (nI b &&& 31))) (h2 : (∀ k, k < 41 → gb2 (42 * b + k) = gn k) ∧ (∀ q, (q < 42 * b ∨ 42 * b + 41 ≤ q) → gb2 q = gb q) ∧ hb2 = upd hb b 1) : RM wn N fn fq fb2 fu2 cu un re gn gw gb2 hb2 ac ud := by
  obtain ⟨c0, n0, q0, pa, fa, ⟨m, hm, em, eb⟩, bo⟩ := R
  obtain ⟨h1a, h1b⟩ := h1
  obtain ⟨h2a, h2b, h2c⟩ := h2
  obtain ⟨m2, hm2, em2, hbit⟩ := bitO3 m hm b hb3
  refine ⟨c0, n0, q0, pa, fa, ⟨m2, hm2, by rw [h1b, em, em2], fun c hc => ?_⟩, fun c hc hne => ?_⟩
  · rw [hbit c hc, h2c]
    by_cases e : c = b
    · rw [if_pos e, e, pk_us]; constructor <;> intro h <;> exact absurd h (by decide)
    · rw [if_neg e, pk_un e]; exact eb c hc
  · by_cases e : c = b
    · subst e
      refine nowR_ext hN n0 (fun k hk => ?_) (fun k hk => ?_)
      · rw [h1a, pk_cpy_in (by omega) (by omega)]
        congr 1
        omega
      · rw [h2a k hk, Nat.zero_add]
    · rw [h2c, pk_un e] at hne
      refine nowR_ext hN (bo c hc hne) (fun k hk => ?_) (fun k hk => ?_)
      · rw [h1a]; exact pk_cpy_out (by omega)
      · exact h2b _ (by omega)
/-- both go back to a BOX -/
theorem RM_box {wn N : Nat} {fn fq fb : FN9} {fu : Int32} {cu un re : Nat} {gn gw gb hb : FN9} {ac ud : Nat} {b : Nat} {fn2 fq2 gn2 : FN9} (hN : N ≤ 41) (R : RM wn N fn fq fb fu cu un re gn gw gb hb ac ud) (hb3 : b < 3) (hh : ¬ hb b = 0) (h1 : fn2 = va_cpy fb fn (41 * b) 0 41 ∧ fq2 = va_cpy fn2 fq 0 0 41) (h2 : ∀ k, k < 41 → gn2 k = gb (42 * b + k)) : RM wn N fn2 fq2 fb fu 0 0 0 gn2 gw gb hb 0 0 := by
  obtain ⟨c0, n0, q0, pa, fa, bx, bo⟩ := R
  refine ⟨⟨by omega, by omega, rfl, rfl⟩, ?_, fun k hk => ?_, fun d hd1 hd2 => by omega, fun d hd1 hd2 => by omega, bx, bo⟩
  · refine nowR_ext hN (bo b hb3 hh) (fun k hk => ?_) (fun k hk => ?_)
    · rw [Nat.zero_add, h1.1, cpy_row hk]
    · rw [Nat.zero_add, h2 k hk]
  · rw [h1.2, show 41 * 0 + k = k by omega]; exact cpy_00 hk
theorem box_iff {wn N : Nat} {fn fq fb : FN9} {fu : Int32} {cu un re : Nat} {gn gw gb hb : FN9} {ac ud b : Nat} (R : RM wn N fn fq fb fu cu un re gn gw gb hb ac ud) (hb3 : b < 3) : (fu >>> (nI b &&& 31)) &&& 1 = 0 ↔ hb b = 0 := by
  obtain ⟨_, _, _, _, _, ⟨m, hm, em, eb⟩, _⟩ := R
  rw [← eb b hb3, em, bits3 m hm b hb3]
  have hlt : m / 2 ^ b % 2 < 2 := Nat.mod_lt _ (by decide)
  constructor
  · intro h; exact nI_inj (b := 0) (by omega) (by decide) h
  · intro h; rw [h]; rfl
/-- new HILLS: nothing is kept -/
theorem RM_new {wn N : Nat} {fn fq fb gn gw gb hb : FN9} (hn : nowR wn N fn 0 gn 0) (hq : ∀ k, k < 41 → fq k = fn k) (hh : ∀ b, b < 3 → hb b = 0) : RM wn N fn fq fb 0 0 0 0 gn gw gb hb 0 0 := by
  refine ⟨⟨by omega, by omega, rfl, rfl⟩, hn, fun k hk => ?_, fun d hd1 hd2 => by omega, fun d hd1 hd2 => by omega, ⟨0, by omega, rfl, fun b h3 => ?_⟩, fun b h3 hne => absurd (hh b h3) hne⟩
  · rw [show 41 * 0 + k = k by omega]
    exact hq k hk
  · rw [hh b h3, Nat.zero_div]; exact ⟨fun _ => rfl, fun _ => rfl⟩
end MOM
section MOM3
theorem nowR_put {wn N : Nat} {f g : FN9} {k a : Nat} {x : Int32} (hN : N ≤ 41) (h : nowR wn N f 0 g 0) (hk : k < 41) (ha : a = phi k) (h24 : a = 24 → ∃ j : Nat, j ≤ 999 ∧ x = nI j) (h25 : 25 ≤ a → a < 29 → ∃ j : Nat, j ≤ 9 ∧ x = nI j) (h20 : k < 20 → ∃ j : Nat, (j < wn ∨ j = 0) ∧ x = nI j) (h21 : wn = 0 → 20 ≤ k → k < 22 → x = 0) : nowR wn N (upd f a x) 0 (upd g k x) 0 := by
  subst ha
  obtain ⟨p, q, r, d, z⟩ := h
  refine ⟨fun j hj => ?_, ?_, fun c hc => ?_, fun i hi => ?_, fun hz i i1 i2 => ?_⟩
  · by_cases e : j = k
    · subst e; rw [Nat.zero_add, Nat.zero_add, pk_us, pk_us]
    · rw [Nat.zero_add, Nat.zero_add, pk_un e, pk_un (fun h9 => e (phi_inj (by omega) hk h9))]
      have := p j hj
      rwa [Nat.zero_add, Nat.zero_add] at this
  · rw [Nat.zero_add] at q ⊢
    by_cases e : 24 = phi k
    · rw [e, pk_us]; exact h24 e.symm
    · rw [pk_un e]; exact q
  · have r9 := r c hc
    rw [Nat.zero_add] at r9 ⊢
    by_cases e : 25 + c = phi k
    · rw [e, pk_us]; exact h25 (by omega) (by omega)
    · rw [pk_un e]; exact r9
  · have d9 := d i hi
    rw [Nat.zero_add] at d9 ⊢
    by_cases e : i = k
    · rw [e, pk_us]; exact h20 (by omega)
    · rw [pk_un e]; exact d9
  · have z9 := z hz i i1 i2
    rw [Nat.zero_add] at z9 ⊢
    by_cases e : i = k
    · rw [e, pk_us]; exact h21 hz (by omega) (by omega)
    · rw [pk_un e]; exact z9
/-- what the parts of now that are not compared hold is left open -/
theorem nowR_put9 {wn N : Nat} {f g : FN9} {k a : Nat} {x y : Int32} (hN : N ≤ 29) (h : nowR wn N f 0 g 0) (hk : 29 ≤ k) (ha : 29 ≤ a) : nowR wn N (upd f a x) 0 (upd g k y) 0 := by
  obtain ⟨p, q, r, d, z⟩ := h
  have hp : ∀ j, j < 29 → phi j < 29 := by decide
  refine ⟨fun j hj => ?_, ?_, fun c hc => ?_, fun i hi => ?_, fun hz i i1 i2 => by rw [pk_un (by omega)]; exact z hz i i1 i2⟩
  · have := hp j (by omega)
    rw [Nat.zero_add, Nat.zero_add, pk_un (by omega), pk_un (by omega)]
    have := p j hj
    rwa [Nat.zero_add, Nat.zero_add] at this
  · rw [pk_un (by omega)]; exact q
  · rw [pk_un (by omega)]; exact r c hc
  · rw [pk_un (by omega)]; exact d i hi
theorem nowR_at {wn N : Nat} {f g : FN9} {k a : Nat} (h : nowR wn N f 0 g 0) (hk : k < N) (ha : a = phi k) : f a = g k := by
  have := h.1 k hk
  rw [Nat.zero_add, Nat.zero_add] at this
  rw [ha]; exact this
theorem upd_comm {f : FN9} {a b : Nat} {x y : Int32} (h : ¬ a = b) : upd (upd f a x) b y = upd (upd f b y) a x := by
  funext q
  by_cases h1 : q = b
  · subst h1; rw [pk_us, pk_un (fun e => h e.symm), pk_us]
  · by_cases h2 : q = a
    · subst h2; rw [pk_un h1, pk_us, pk_us]
    · rw [pk_un h1, pk_un h2, pk_un h2, pk_un h1]
theorem phi_len {c : Nat} (hc : c < 2) : 11 * c = phi (20 + c) := by
  rcases (show c = 0 ∨ c = 1 by omega) with rfl | rfl <;> rfl
theorem phi_word : ∀ c : Nat, c < 2 → ∀ i : Nat, i < 10 → 11 * c + 1 + i = phi (10 * c + i) := by decide
variable {wn N : Nat} {fn fq fb : FN9} {fu : Int32} {cu un re : Nat} {gn gw gb hb : FN9} {ac ud : Nat} {fn2 fq2 fb2 gn2 gw2 gb2 hb2 : FN9} {fu2 : Int32} {cu2 un2 re2 ac2 ud2 : Nat} {r r' : Int32}
theorem cry_of {x : Int32} {c : Nat} (hc : c < 2) (h : x = nI c) : x = 0 ∨ x = 1 := by
  rcases (show c = 0 ∨ c = 1 by omega) with rfl | rfl
  · exact Or.inl h
  · exact Or.inr h
theorem sy_same {c0 nw : Nat} {xc xw : Int32} (h29 : 29 ≤ N) (hN : N ≤ 41) (hw : c0 = nw) (hw8 : c0 ≤ 8) (R : RM c0 N fn fq fb fu cu un re gn gw gb hb ac ud) (h1 : syC c0 fn fq cu un re xc xw r fn2 fq2 cu2 un2 re2) (h2 : syR nw gn gw ac ud xc xw r' gn2 gw2 ac2 ud2) : r = r' ∧ RM c0 N fn2 fq2 fb fu cu2 un2 re2 gn2 gw2 gb hb ac2 ud2 := by
  subst hw
  have n0 := R.2.1
  rcases h1 with ⟨p1, ⟨p2, p3, p4, p5, p6⟩, p7⟩ | ⟨c, w, le, p1, p2, p3, p4, p5, p6, p7, p8, p9⟩ <;> rcases h2 with ⟨q1, ⟨q2, q3, q4, q5⟩, q6⟩ | ⟨c', w', le', q1, q2, q3, q4, q5, q6, q7, q8, q9⟩
  · subst p2 p3 p4 p5 p6 q2 q3 q4 q5
    exact ⟨by rw [p1, q1], R⟩
  · exfalso
    rcases p7 with h | h | ⟨c, hc, ec, el⟩
    · exact h (cry_of q1 q2)
    · exact h ⟨w', q3, q4⟩
    · have e := nI_inj (by omega) (by omega) (ec.symm.trans q2)
      subst e
      rw [nowR_at n0 (by omega) (phi_len hc), q6] at el
      have := nI_inj (by omega) (by omega) el
      omega
  · exfalso
    rcases q6 with h | h | ⟨c', hc, ec, el⟩
    · exact h (cry_of p1 p2)
    · exact h ⟨w, p3, p4⟩
    · have e := nI_inj (by omega) (by omega) (ec.symm.trans p2)
      subst e
      rw [← nowR_at n0 (show 20 + c' < N by omega) (phi_len hc), p6] at el
      have := nI_inj (by omega) (by omega) el
      omega
  · have e1 := nI_inj (by omega) (by omega) (p2.symm.trans q2)
    have e2 := nI_inj (by omega) (by omega) (p4.symm.trans q4)
    subst e1 e2
    rw [← nowR_at n0 (show 20 + c < N by omega) (phi_len p1), p6] at q6
    have e3 := nI_inj (by omega) (by omega) q6
    subst e3
    refine ⟨by rw [p7, q7], RM_act hN R ?_ p9 q9⟩
    rw [p8, q8, upd_comm (show ¬ 10 * c + le = 20 + c by omega)]
    refine nowR_put hN (nowR_put hN n0 (by omega) (phi_len p1) (by omega) (by omega) (fun h9 => absurd h9 (by omega)) (fun h9 => absurd h9 (by omega))) (by omega) ?_ (by omega) (by omega) (fun _ => ⟨_, Or.inl (by assumption), rfl⟩) (fun h9 => absurd h9 (by omega))
    rw [← phi_word c p1 le (by omega)]
    omega
theorem uy_same {xc : Int32} (h29 : 29 ≤ N) (hN : N ≤ 41) (R : RM wn N fn fq fb fu cu un re gn gw gb hb ac ud) (h1 : uyC fn fq cu un re xc r fn2 fq2 cu2 un2 re2) (h2 : uyR gn gw ac ud xc r' gn2 gw2 ac2 ud2) : r = r' ∧ RM wn N fn2 fq2 fb fu cu2 un2 re2 gn2 gw2 gb hb ac2 ud2 := by
  have n0 := R.2.1
  rcases h1 with ⟨p1, ⟨p2, p3, p4, p5, p6⟩, p7⟩ | ⟨c, le, p1, p2, p3, p4, p5, p6, p7, p8⟩ <;> rcases h2 with ⟨q1, ⟨q2, q3, q4, q5⟩, q6⟩ | ⟨c', le', q1, q2, q3, q4, q5, q6, q7, q8⟩
  · subst p2 p3 p4 p5 p6 q2 q3 q4 q5
    exact ⟨by rw [p1, q1], R⟩
  · exfalso
    rcases p7 with h | ⟨c, hc, ec, el⟩
    · exact h (cry_of q1 q2)
    · have e := nI_inj (by omega) (by omega) (ec.symm.trans q2)
      subst e
      rw [nowR_at n0 (by omega) (phi_len hc), q5] at el
      have := nI_inj (by omega) (by omega) el
      omega
  · exfalso
    rcases q6 with h | ⟨c', hc, ec, el⟩
    · exact h (cry_of p1 p2)
    · have e := nI_inj (by omega) (by omega) (ec.symm.trans p2)
      subst e
      rw [← nowR_at n0 (show 20 + c' < N by omega) (phi_len hc), p5] at el
      have := nI_inj (by omega) (by omega) el
      omega
  · have e1 := nI_inj (by omega) (by omega) (p2.symm.trans q2)
    subst e1
    rw [← nowR_at n0 (show 20 + c < N by omega) (phi_len p1), p5] at q5
    have e3 := nI_inj (by omega) (by omega) q5
    subst e3
    refine ⟨?_, RM_act hN R ?_ p8 q8⟩
    · rw [p6, q6]
      refine nowR_at n0 (by omega) ?_
      rw [← phi_word c p1 (le - 1) (by omega)]
      omega
    · rw [p7, q7]
      refine nowR_put hN n0 (by omega) (phi_len p1) (by omega) (by omega) (fun h9 => absurd h9 (by omega)) (fun h8 _ _ => ?_)
      exfalso
      have z9 := n0.2.2.2.2 h8 (20 + c) (by omega) (by omega)
      rw [Nat.zero_add, ← nowR_at n0 (show 20 + c < N by omega) (phi_len p1), p5] at z9
      have := nI_inj (a := le) (b := 0) (by omega) (by omega) z9
      omega
theorem sd_same {xc xi : Int32} (h29 : 29 ≤ N) (R : RM wn N fn fq fb fu cu un re gn gw gb hb ac ud) (h1 : sdC fn xc xi r) (h2 : sdR gn xc xi r') : r = r' := by
  have n0 := R.2.1
  rcases h1 with ⟨p1, p7⟩ | ⟨c, le, i, p1, p2, p3, p4, p5, p6, p7⟩ <;> rcases h2 with ⟨q1, q6⟩ | ⟨c', le', i', q1, q2, q3, q4, q5, q6, q7⟩
  · rw [p1, q1]
  · exfalso
    rcases p7 with h | ⟨c, le, hc, ec, hl, el, hn⟩
    · exact h (cry_of q1 q2)
    · have e := nI_inj (by omega) (by omega) (ec.symm.trans q2)
      subst e
      rw [nowR_at n0 (by omega) (phi_len hc), q4] at el
      have := nI_inj (by omega) (by omega) el
      exact hn ⟨i', by omega, q6⟩
  · exfalso
    rcases q6 with h | ⟨c', le', hc, ec, hl, el, hn⟩
    · exact h (cry_of p1 p2)
    · have e := nI_inj (by omega) (by omega) (ec.symm.trans p2)
      subst e
      rw [← nowR_at n0 (show 20 + c' < N by omega) (phi_len hc), p4] at el
      have := nI_inj (by omega) (by omega) el
      exact hn ⟨i, by omega, p6⟩
  · have e1 := nI_inj (by omega) (by omega) (p2.symm.trans q2)
    have e2 := nI_inj (by omega) (by omega) (p6.symm.trans q6)
    subst e1 e2
    rw [p7, q7]
    exact nowR_at n0 (by omega) (phi_word c p1 i (by omega))
theorem cl_same {c1 nc : Nat} {fp ca : FN9} {xm wh : Int32} (h29 : 29 ≤ N) (hc : c1 = nc) (hc4 : c1 ≤ 4) (hp : rowR fp ca c1) (R : RM wn N fn fq fb fu cu un re gn gw gb hb ac ud) (h1 : clC c1 fp fn xm wh r) (h2 : clR nc ca gn xm wh r') : r = r' := by
  subst hc
  have n0 := R.2.1
  rcases h1 with ⟨p1, p2⟩ | ⟨j, p1, p2, p3⟩ <;> rcases h2 with ⟨q1, q2⟩ | ⟨j', q1, q2, q3⟩
  · rw [p1, q1]
  · exfalso
    rcases p2 with h | h
    · exact h ⟨j', q1, q2⟩
    · rcases q3 with q3 | q3
      · exact h.1 q3.1
      · exact h.2 q3.1
  · exfalso
    rcases q2 with h | h
    · exact h ⟨j, p1, p2⟩
    · rcases p3 with p3 | p3
      · exact h.1 p3.1
      · exact h.2 p3.1
  · have e := nI_inj (by omega) (by omega) (p2.symm.trans q2)
    subst e
    rcases p3 with ⟨a, b⟩ | ⟨a, b⟩ <;> rcases q3 with ⟨c, d⟩ | ⟨c, d⟩
    · rw [b, d]; exact hp j p1
    · rw [a] at c; exact absurd c (by decide)
    · rw [a] at c; exact absurd c (by decide)
    · rw [b, d]
      refine nowR_at n0 (by omega) ?_
      have : ∀ j, j < 4 → 25 + j = phi (23 + j) := by decide
      exact this j (by omega)
theorem ca_same {c2 nm : Nat} {xm : Int32} (hN : N ≤ 29) (hc : c2 = nm) (R : RM wn N fn fq fb fu cu un re gn gw gb hb ac ud) (h1 : caC c2 fn fq cu un re xm fn2 fq2 cu2 un2 re2) (h2 : caR nm gn gw ac ud xm gn2 gw2 ac2 ud2) : RM wn N fn2 fq2 fb fu cu2 un2 re2 gn2 gw2 gb hb ac2 ud2 := by
  subst hc
  rcases h1 with ⟨⟨p2, p3, p4, p5, p6⟩, p7⟩ | ⟨p1, ⟨k, x, p2, p3, p4⟩, p5⟩ <;> rcases h2 with ⟨⟨q2, q3, q4, q5⟩, q6⟩ | ⟨q1, ⟨k', x', q2, q3, q4⟩, q5⟩
  · subst p2 p3 p4 p5 p6 q2 q3 q4 q5
    exact R
  · exact absurd q1 p7
  · exact absurd p1 q6
  · refine RM_act (by omega) R ?_ p5 q5
    rw [p4, q4]
    exact nowR_put9 hN R.2.1 q2 p2
theorem phi_sn : ∀ c : Nat, c < 4 → 25 + c = phi (23 + c) := by decide
theorem min9 {s : Nat} (h : s ≤ 9) : (if (9 : Int32) < nI s + 1 then (9 : Int32) else nI s + 1) = (if nI s < 9 then nI s + 1 else nI s) ∧ ∃ j : Nat, j ≤ 9 ∧ (if (9 : Int32) < nI s + 1 then (9 : Int32) else nI s + 1) = nI j := by
  have H : ∀ s : Nat, s < 10 → (if (9 : Int32) < nI s + 1 then (9 : Int32) else nI s + 1) = (if nI s < 9 then nI s + 1 else nI s) ∧ (if (9 : Int32) < nI s + 1 then (9 : Int32) else nI s + 1) = nI (min (s + 1) 9) := by decide +kernel
  have h9 := H s (by omega)
  exact ⟨h9.1, min (s + 1) 9, by omega, h9.2⟩
theorem no_now {cl : Nat} (hN : N ≤ 29 ∨ N = 41) (h41 : N ≤ 41) (n0 : nowR wn N fn 0 gn 0) (hl : ¬ 999 ≤ fn 24) (h1 : nnC fn cl fn2) (h2 : nnR gn cl gn2) (h29 : 29 ≤ N) : nowR wn N fn2 0 gn2 0 := by
  obtain ⟨a1, a2, a3, a4, a5⟩ := h1
  obtain ⟨b1, b2, b3, b4, b5⟩ := h2
  have e27 : fn 23 = gn 27 := nowR_at n0 (by omega) rfl
  have e28 : fn 24 = gn 28 := nowR_at n0 (by omega) rfl
  obtain ⟨n, hn, en⟩ := n0.2.1
  rw [Nat.zero_add] at en
  have hsn : ∀ c, c < 4 → (∃ j : Nat, j ≤ 9 ∧ fn (25 + c) = nI j) ∧ fn (25 + c) = gn (23 + c) := fun c hc => by
    have := n0.2.2.1 c hc
    rw [Nat.zero_add] at this
    exact ⟨this, nowR_at n0 (by omega) (phi_sn c hc)⟩
  have hs2 : ∀ c, c < 4 → fn2 (25 + c) = gn2 (23 + c) ∧ ∃ j : Nat, j ≤ 9 ∧ fn2 (25 + c) = nI j := fun c hc => by
    obtain ⟨⟨j, hj, ej⟩, eg⟩ := hsn c hc
    rw [a4 c hc, b4 c hc, ← e27, ← eg, ej]
    by_cases h9 : c < cl ∧ dyF (sdF (fn 23)) = 0
    · rw [if_pos h9, if_pos h9]; exact min9 hj
    · rw [if_neg h9, if_neg h9]; exact ⟨rfl, j, hj, rfl⟩
  refine ⟨fun k hk => ?_, ?_, fun c hc => ?_, fun k hk => ?_, fun hz k k1 k2 => ?_⟩
  · rw [Nat.zero_add, Nat.zero_add]
    by_cases k1 : k < 22
    · have hp : ∀ k, k < 22 → phi k < 22 := by decide
      rw [a5 _ (Or.inl (hp k k1)), b5 k (by omega)]
      exact nowR_at n0 hk rfl
    · by_cases k2 : k = 22
      · subst k2; exact a2.trans (by rw [e27]; exact b2.symm)
      · by_cases k3 : k < 27
        · have h9 := hs2 (k - 23) (by omega)
          rw [show 25 + (k - 23) = phi k by rw [phi_sn (k - 23) (by omega)]; congr 1; omega, show 23 + (k - 23) = k by omega] at h9
          exact h9.1
        · by_cases k4 : k = 27
          · subst k4; exact a1.trans (by rw [e27]; exact b1.symm)
          · by_cases k5 : k = 28
            · subst k5; exact a3.trans (by rw [e28]; exact b3.symm)
            · have hp : phi k = k := by
                unfold phi
                rw [if_neg (by omega), if_neg (by omega), if_neg (by omega), if_neg (by omega), if_neg (by omega), if_neg (by omega), if_neg (by omega), if_neg (by omega)]
              rw [hp, a5 k (by omega), b5 k (by omega)]
              exact nowR_at n0 hk hp.symm
  · rw [Nat.zero_add, a3, en]
    refine ⟨n + 1, ?_, nI_add n 1⟩
    rw [en] at hl
    have := mt (nI_leI (a := 999) (b := n) (by omega) (by omega)).mpr hl
    omega
  · rw [Nat.zero_add]; exact (hs2 c hc).2
  · have d9 := n0.2.2.2.1 k hk
    rw [Nat.zero_add] at d9 ⊢
    rw [b5 k (by omega)]
    exact d9
  · have z9 := n0.2.2.2.2 hz k k1 k2
    rw [Nat.zero_add] at z9 ⊢
    rw [b5 k (by omega)]
    exact z9
theorem no_same {c1 nc : Nat} (h29 : 29 ≤ N) (hN : N ≤ 29 ∨ N = 41) (hc : c1 = nc) (R : RM wn N fn fq fb fu cu un re gn gw gb hb ac ud) (h1 : noC c1 fn fq cu un re r fn2 fq2 cu2 un2 re2) (h2 : noR nc gn gw ac ud r' gn2 gw2 ac2 ud2) : r = r' ∧ RM wn N fn2 fq2 fb fu cu2 un2 re2 gn2 gw2 gb hb ac2 ud2 := by
  subst hc
  have n0 := R.2.1
  have e28 : fn 24 = gn 28 := nowR_at n0 (by omega) rfl
  obtain ⟨n, hn, en⟩ := n0.2.1
  rw [Nat.zero_add] at en
  have hk : 999 ≤ fn 24 ↔ gn 28 = 999 := by
    rw [← e28, en]
    constructor
    · intro h9
      have := (nI_leI (a := 999) (b := n) (by omega) (by omega)).mp h9
      rw [show n = 999 by omega]; rfl
    · intro h9
      have := nI_inj (a := n) (b := 999) (by omega) (by omega) h9
      rw [this]; decide
  rcases h1 with ⟨p1, ⟨p2, p3, p4, p5, p6⟩, p7⟩ | ⟨p1, p2, p3, p4⟩ <;> rcases h2 with ⟨q1, ⟨q2, q3, q4, q5⟩, q6⟩ | ⟨q1, q2, q3, q4⟩
  · subst p2 p3 p4 p5 p6 q2 q3 q4 q5
    exact ⟨by rw [p1, q1], R⟩
  · exact absurd (hk.mp p7) q1
  · exact absurd (hk.mpr q6) p1
  · have n2 := no_now hN (by omega) n0 p1 p2 q2 h29
    exact ⟨by rw [p3, q3]; exact nowR_at n2 (by omega) rfl, RM_act (by omega) R n2 p4 q4⟩
theorem sw_same {c1 nc : Nat} {xm : Int32} (h29 : 29 ≤ N) (hN : N ≤ 41) (hc : c1 = nc) (hc4 : c1 ≤ 4) (R : RM wn N fn fq fb fu cu un re gn gw gb hb ac ud) (h1 : swC c1 fn fq cu un re xm r fn2 fq2 cu2 un2 re2) (h2 : swR nc gn gw ac ud xm r' gn2 gw2 ac2 ud2) : r = r' ∧ RM wn N fn2 fq2 fb fu cu2 un2 re2 gn2 gw2 gb hb ac2 ud2 := by
  subst hc
  have n0 := R.2.1
  rcases h1 with ⟨p1, ⟨p2, p3, p4, p5, p6⟩, p7⟩ | ⟨j, p1, p2, p3, p4, p5⟩ <;> rcases h2 with ⟨q1, ⟨q2, q3, q4, q5⟩, q6⟩ | ⟨j', q1, q2, q3, q4, q5⟩
  · subst p2 p3 p4 p5 p6 q2 q3 q4 q5
    exact ⟨by rw [p1, q1], R⟩
  · exact absurd ⟨j', q1, q2⟩ p7
  · exact absurd ⟨j, p1, p2⟩ q6
  · have e := nI_inj (by omega) (by omega) (p2.symm.trans q2)
    subst e
    refine ⟨by rw [p3, q3]; exact nowR_at n0 (by omega) (phi_sn j (by omega)), RM_act hN R ?_ p5 q5⟩
    rw [p4, q4]
    exact nowR_put hN n0 (by omega) (phi_sn j (by omega)) (by omega) (fun _ _ => ⟨0, by omega, rfl⟩) (fun h9 => absurd h9 (by omega)) (fun _ _ h9 => absurd h9 (by omega))
theorem ub_same (hN : N ≤ 41) (R : RM wn N fn fq fb fu cu un re gn gw gb hb ac ud) (h1 : sbC r fn fq cu un re fn2 cu2 un2 re2) (h2 : ubR r' gn gw ac ud gn2 gw2 ac2 ud2) : r = r' ∧ RM wn N fn2 fq fb fu cu2 un2 re2 gn2 gw2 gb hb ac2 ud2 := by
  have e := R.1.2.2.1
  rcases h1 with ⟨p1, p2, p3, p4, p5, p6⟩ | ⟨p1, p2, p3, p4, p5, p6⟩ <;> rcases h2 with ⟨q1, q2, q3, q4, q5, q6⟩ | ⟨q1, q2, q3, q4, q5⟩
  · subst p3 p4 p5 p6 q3 q4 q5 q6
    exact ⟨by rw [p1, q1], R⟩
  · omega
  · omega
  · rw [p3, p4, p5, p6, q4, q5]
    exact ⟨by rw [p1, q1], RM_back hN R p2 q3⟩
theorem on_same (hN : N ≤ 41) (R : RM wn N fn fq fb fu cu un re gn gw gb hb ac ud) (h1 : snC r fn fq cu un re fn2 cu2 un2 re2) (h2 : onR r' gn gw ac ud gn2 gw2 ac2 ud2) : r = r' ∧ RM wn N fn2 fq fb fu cu2 un2 re2 gn2 gw2 gb hb ac2 ud2 := by
  have e := R.1.2.2.2
  rcases h1 with ⟨p1, p2, p3, p4, p5, p6⟩ | ⟨p1, p2, p3, p4, p5, p6⟩ <;> rcases h2 with ⟨q1, q2, q3, q4, q5, q6⟩ | ⟨q1, q2, q3, q4, q5⟩
  · subst p3 p4 p5 p6 q3 q4 q5 q6
    exact ⟨by rw [p1, q1], R⟩
  · omega
  · omega
  · rw [p3, p4, p5, p6, q4, q5]
    exact ⟨by rw [p1, q1], RM_on hN R p2 q3⟩
theorem im_same {xb : Int32} (h29 : 29 ≤ N) (hN : N ≤ 41) (R : RM wn N fn fq fb fu cu un re gn gw gb hb ac ud) (h1 : imC fn fb fu xb r fb2 fu2) (h2 : imR gn gb hb xb r' gb2 hb2) : r = r' ∧ RM wn N fn fq fb2 fu2 cu un re gn gw gb2 hb2 ac ud := by
  rcases h1 with ⟨p1, p2, p3, p4⟩ | ⟨b, p1, p2, p3, p4⟩ <;> rcases h2 with ⟨q1, q2, q3, q4⟩ | ⟨b', q1, q2, q3, q4⟩
  · subst p2 p3 q2 q3; exact ⟨by rw [p1, q1], R⟩
  · exact absurd ⟨b', q1, q2⟩ p4
  · exact absurd ⟨b, p1, p2⟩ q4
  · have e := nI_inj (by omega) (by omega) (p2.symm.trans q2)
    subst e
    exact ⟨by rw [p4, q4]; exact nowR_at R.2.1 (by omega) rfl, RM_image hN R p1 p3 q3⟩
theorem bk_same {xb : Int32} (h29 : 29 ≤ N) (hN : N ≤ 41) (R : RM wn N fn fq fb fu cu un re gn gw gb hb ac ud) (h1 : bkC fn fq fb fu cu un re xb r fn2 fq2 cu2 un2 re2) (h2 : bkR gn gb hb ac ud xb r' gn2 ac2 ud2) : r = r' ∧ RM wn N fn2 fq2 fb fu cu2 un2 re2 gn2 gw gb hb ac2 ud2 := by
  rcases h1 with ⟨p1, ⟨p2, p3, p4, p5, p6⟩, p7⟩ | ⟨b, q, p1, p2, p3, p4⟩ <;> rcases h2 with ⟨q1, ⟨q2, q3, q4⟩, q5⟩ | ⟨b', q1, q2, q3, q4, q5, q6, q7⟩
  · subst p2 p3 p4 p5 p6 q2 q3 q4
    exact ⟨by rw [p1, q1], R⟩
  · exact absurd ⟨b', q1, q2⟩ p7
  · have hb9 := box_iff R p1
    subst q2 q3 q4
    rcases q5 with h | ⟨b', h1, h2, h3⟩
    · exact absurd ⟨b, p1, p2⟩ h
    · have e := nI_inj (by omega) (by omega) (p2.symm.trans h2)
      subst e
      rcases p3 with ⟨s1, s2, s3, s4, s5, s6, s7⟩ | ⟨s1, s2, s3⟩
      · subst s3 s4 s5 s6 s7
        exact ⟨by rw [p4, if_pos s1, q1], R⟩
      · exact absurd (hb9.mpr h3) s2
  · have hb9 := box_iff R p1
    have e := nI_inj (by omega) (by omega) (p2.symm.trans q2)
    subst e
    rcases p3 with ⟨s1, s2, s3⟩ | ⟨s1, s2, s3, s4, s5, s6⟩
    · exact absurd (hb9.mp s2) q3
    · subst s4 s5 s6 q5 q6
      have R2 := RM_box hN R p1 q3 s3 q4
      refine ⟨?_, R2⟩
      rw [p4, if_neg (by rw [s1]; decide), q7]
      exact nowR_at R2.2.1 (by omega) rfl
end MOM3
section MOM4
abbrev MXT : Type := FN9 × FN9 × FN9 × Int32 × Nat × Nat × Nat
abbrev MMT : Type := FN9 × FN9 × FN9 × FN9 × Nat × Nat
def RMt (wn N : Nat) (a : MXT) (b : MMT) : Prop := RM wn N a.1 a.2.1 a.2.2.1 a.2.2.2.1 a.2.2.2.2.1 a.2.2.2.2.2.1 a.2.2.2.2.2.2 b.1 b.2.1 b.2.2.1 b.2.2.2.1 b.2.2.2.2.1 b.2.2.2.2.2
theorem RMt_eq {wn N : Nat} {a a2 : MXT} {b b2 : MMT} (R : RMt wn N a b) (e1 : a2 = a) (e2 : b2 = b) : RMt wn N a2 b2 := by subst e1 e2; exact R
theorem RMt_of {wn N : Nat} {a a2 : MXT} {b b2 : MMT} (e1 : a2 = a) (e2 : b2 = b) (R : RMt wn N a b) : RMt wn N a2 b2 := by subst e1 e2; exact R
/-- the snow that a text tells is at most 9 -/
def inv9 (s : AS) : Prop := ∀ i, i < sC s 1 → ∃ j : Nat, j ≤ 9 ∧ sV s 2 i = nI j
theorem bnd_inr {α β : Type} {x : ER α} {g : α → β} {b : β} (h : (Sum.inr b : ER β) = bnd x (fun a => .inr (g a))) : ∃ a, x = .inr a ∧ b = g a := by
  cases x with
  | inl e => cases h
  | inr a => exact ⟨a, rfl, by cases h; rfl⟩
theorem bnd_ok {α β : Type} {x : ER α} {g : α → ER β} {b : β} (h : bnd x g = .inr b) : ∃ a, x = .inr a ∧ g a = .inr b := by
  cases x with
  | inl e => cases h
  | inr a => exact ⟨a, rfl, h⟩
theorem optS_9 {f : Nat → Int32} {n k a : Nat} {y : Nat × Nat} (h : optS f n k a = .inr y) : y.1 ≤ 9 := by
  unfold optS at h
  by_cases h1 : knd f n a = k
  · rw [if_pos h1] at h
    unfold numS at h
    by_cases h2 : knd f n (fin f n a) = 2
    · rw [if_pos h2] at h
      by_cases h3 : 9 < num f n (fin f n a)
      · rw [if_pos h3] at h; cases h
      · rw [if_neg h3] at h; cases h; exact Nat.le_of_not_lt h3
    · rw [if_neg h2] at h; cases h
  · rw [if_neg h1] at h; cases h; exact Nat.zero_le _
theorem plaS_9 {f : Nat → Int32} {n c key a : Nat} {np : Nat → Nat} {x : Nat × Nat × Nat} (h : plaS f n c np key a = .inr x) : x.2.1 ≤ 9 := by
  unfold plaS at h
  obtain ⟨b, _, h⟩ := bnd_ok h
  obtain ⟨b2, _, h⟩ := bnd_ok h
  obtain ⟨x1, _, h⟩ := bnd_ok h
  obtain ⟨y, hy, h⟩ := bnd_ok h
  obtain ⟨e, _, h⟩ := bnd_ok h
  cases h
  show y.1 ≤ 9
  exact optS_9 hy
theorem lin_inv9 {f : Nat → Int32} {n : Nat} {s s2 : AS} (h0 : inv9 s) (h : linR f n s (.inr s2)) : inv9 s2 := by
  rcases h with ⟨_, h⟩ | ⟨_, h⟩ | ⟨_, h⟩ | ⟨_, h⟩ | ⟨_, h⟩ | ⟨k, q, _, _, _, h⟩ | ⟨_, h⟩ | ⟨_, h⟩ | ⟨_, h⟩
  · obtain ⟨a, _, e⟩ := bnd_inr h
    subst e; exact h0
  · obtain ⟨a, ha, e⟩ := bnd_inr h
    subst e
    intro i hi
    have hi : i < sC s 1 + 1 := hi
    show ∃ j : Nat, j ≤ 9 ∧ upd (sV s 2) (sC s 1) (nI a.2.1) i = nI j
    by_cases h9 : i = sC s 1
    · rw [h9, pk_us]; exact ⟨a.2.1, plaS_9 ha, rfl⟩
    · rw [pk_un h9]; exact h0 i (by omega)
  · obtain ⟨a, _, e⟩ := bnd_inr h
    subst e; exact h0
  · obtain ⟨a, _, e⟩ := bnd_inr h
    subst e; exact h0
  · obtain ⟨a, _, e⟩ := bnd_inr h
    subst e; exact h0
  · obtain ⟨a, _, e⟩ := bnd_inr h
    subst e; exact h0
  · obtain ⟨a, _, e⟩ := bnd_inr h
    subst e; exact h0
  · obtain ⟨a, _, e⟩ := bnd_inr h
    subst e; exact h0
  · cases h
theorem prs_inv9 {f : Nat → Int32} {n : Nat} (k : Nat) : ∀ (s s2 : AS), inv9 s → prs f n k s (.inr s2) → inv9 s2 := by
  induction k with
  | zero => intro s s2 _ h; exact h.elim
  | succ k ih =>
    intro s s2 h0 h
    rcases h with ⟨_, h⟩ | ⟨_, ⟨e, _, h⟩ | ⟨s3, h1, h2⟩⟩
    · cases h; exact h0
    · cases h
    · exact ih s3 s2 (lin_inv9 h0 h1) h2
theorem PR_inv9 {f : Nat → Int32} {n : Nat} {gs : AS} (h : PR f n aS0 (.inr gs)) : inv9 gs := by
  obtain ⟨k, h⟩ := h
  exact prs_inv9 k aS0 gs (fun i hi => absurd hi (Nat.not_lt_zero i)) h
/-- the first moment, of both -/
theorem bg_now {wn N : Nat} {s : AS} {c0 c1 c2 c3 : Nat} {fp fcs fmp fmv flo fx : FN9} {hon hwi hdr hu : Int32} {nW nC nM nS : Nat} {ca sn ma vo lo on : FN9} {ons wi un : Int32} {fn gn : FN9} (hN : N ≤ 41) (b : c1 ≤ 4) (h : tdC s c0 c1 c2 c3 fp fcs fmp fmv flo fx hon hwi hdr hu) (k : tdR s nW nC nM nS ca sn ma vo lo on ons wi un) (h9 : inv9 s) (h1 : bgT hwi hdr fcs c1 fn) (h2 : bgR wi (sV s 6 1) sn nC gn) : nowR wn N fn 0 gn 0 := by
  obtain ⟨⟨_, e1, _, _⟩, ⟨_, _, r2, _, _⟩, _, _, v2, v3, _⟩ := h
  obtain ⟨⟨_, k1, _, _⟩, ⟨_, _, s2, _, _⟩, _, _, w2, _⟩ := k
  subst e1 k1 v2 v3 w2
  refine ⟨fun q hq => ?_, ?_, fun c hc => ?_, fun q hq => ?_, fun _ q q1 q2 => ?_⟩
  · rw [Nat.zero_add, Nat.zero_add, h2 q (by omega), h1 _ (phi_lt (by omega))]
    by_cases k1 : q < 22
    · have hp : ∀ k, k < 22 → phi k < 22 := by decide
      have hp := hp q k1
      rw [if_neg (by omega), if_neg (by omega), if_neg (by omega), if_neg (by omega), if_neg (by omega), if_neg (by omega)]
    · by_cases k2 : q = 22
      · subst k2; rfl
      · by_cases k3 : q < 27
        · have hp := phi_sn (q - 23) (by omega)
          rw [show 23 + (q - 23) = q by omega] at hp
          rw [← hp, if_neg (show ¬ 25 + (q - 23) = 22 by omega), if_neg (show ¬ 25 + (q - 23) = 23 by omega), if_neg k2, if_neg (show ¬ q = 27 by omega), show 25 + (q - 23) - 25 = q - 23 by omega]
          by_cases k4 : q - 23 < sC s 1
          · rw [if_pos (by omega), if_pos (by omega), r2 _ k4, s2 _ k4]
          · rw [if_neg (by omega), if_neg (by omega)]
        · by_cases k4 : q = 27
          · subst k4; rfl
          · by_cases k5 : q = 28
            · subst k5
              rw [show phi 28 = 24 from rfl, if_neg (by decide), if_neg (by decide), if_neg (by omega), if_neg (by decide), if_neg (by decide), if_neg (by omega)]
            · have hp : phi q = q := by
                unfold phi
                rw [if_neg (by omega), if_neg (by omega), if_neg (by omega), if_neg (by omega), if_neg (by omega), if_neg (by omega), if_neg (by omega), if_neg (by omega)]
              rw [hp, if_neg (by omega), if_neg (by omega), if_neg (by omega), if_neg (by omega), if_neg (by omega), if_neg (by omega)]
  · rw [Nat.zero_add, h1 24 (by omega), if_neg (by decide), if_neg (by decide), if_neg (by omega)]
    exact ⟨0, by omega, rfl⟩
  · rw [Nat.zero_add, h1 (25 + c) (by omega), if_neg (by omega), if_neg (by omega)]
    by_cases k4 : c < sC s 1
    · rw [if_pos (by omega), show 25 + c - 25 = c by omega, r2 c k4]; exact h9 c k4
    · rw [if_neg (by omega)]; exact ⟨0, by omega, rfl⟩
  · rw [Nat.zero_add, h2 q (by omega), if_neg (by omega), if_neg (by omega), if_neg (by omega)]
    exact ⟨0, Or.inr rfl, rfl⟩
  · rw [Nat.zero_add, h2 q (by omega), if_neg (by omega), if_neg (by omega), if_neg (by omega)]
def tdCh (s : AS) (h2 : HXT) : Prop := tdC s h2.1 h2.2.1 h2.2.2.1 h2.2.2.2.1 h2.2.2.2.2.1 h2.2.2.2.2.2.1 h2.2.2.2.2.2.2.1 h2.2.2.2.2.2.2.2.1 h2.2.2.2.2.2.2.2.2.1 h2.2.2.2.2.2.2.2.2.2.1 h2.2.2.2.2.2.2.2.2.2.2.1 h2.2.2.2.2.2.2.2.2.2.2.2.1 h2.2.2.2.2.2.2.2.2.2.2.2.2.1 h2.2.2.2.2.2.2.2.2.2.2.2.2.2
def tdRh (s : AS) (h2 : HMT) : Prop := tdR s h2.1 h2.2.1 h2.2.2.1 h2.2.2.2.1 h2.2.2.2.2.1 h2.2.2.2.2.2.1 h2.2.2.2.2.2.2.1 h2.2.2.2.2.2.2.2.1 h2.2.2.2.2.2.2.2.2.1 h2.2.2.2.2.2.2.2.2.2.1 h2.2.2.2.2.2.2.2.2.2.2.1 h2.2.2.2.2.2.2.2.2.2.2.2.1 h2.2.2.2.2.2.2.2.2.2.2.2.2
/-- hills, of both, on what is kept -/
def hmX (f : FN9) (n : Nat) (h2 : HXT) (m m2 : MXT) : Prop := (m2 = m ∧ ∃ e, PR f n aS0 (.inl e)) ∨ ∃ gs, PR f n aS0 (.inr gs) ∧ tdCh gs h2 ∧ bgT h2.2.2.2.2.2.2.2.2.2.2.2.1 h2.2.2.2.2.2.2.2.2.2.2.2.2.1 h2.2.2.2.2.2.1 h2.2.1 m2.1 ∧ m2 = (m2.1, va_cpy m2.1 m.2.1 0 0 41, m.2.2.1, 0, 0, 0, 0)
def hmM (f : FN9) (n : Nat) (h2 : HMT) (m m2 : MMT) : Prop := (m2 = m ∧ ∃ e, PR f n aS0 (.inl e)) ∨ ∃ gs, PR f n aS0 (.inr gs) ∧ tdRh gs h2 ∧ bgR h2.2.2.2.2.2.2.2.2.2.2.2.1 (sV gs 6 1) h2.2.2.2.2.2.1 h2.2.1 m2.1 ∧ (∀ b, b < 3 → m2.2.2.2.1 b = 0) ∧ m2 = (m2.1, m.2.1, m.2.2.1, m2.2.2.2.1, 0, 0)
theorem hm_same {N : Nat} {f g : FN9} {n n' : Nat} {h h2 : HXT} {k2 : HMT} {m m2 : MXT} {z z2 : MMT} {s s2 : SST} (hN : N ≤ 41) (hn : n = n') (ht : tpR f g n) (b : h2.2.1 ≤ 4) (R : RMt h.1 N m z) (h0 : hlX f n h h2 s s2) (h1 : hmX f n h2 m m2) (k1 : hmM g n' k2 z z2) : RMt h2.1 N m2 z2 := by
  subst hn
  rcases h1 with ⟨p1, e, p3⟩ | ⟨gs, p1, p2, p3, p4⟩ <;> rcases k1 with ⟨q1, e', q3⟩ | ⟨gs', q1, q2, q3, q4, q5⟩
  · rcases h0 with ⟨r1, _⟩ | ⟨gs, r1, _⟩
    · subst p1 q1 r1; exact R
    · have e := p3.det r1; cases e
  · have e := (PR_tp ht p3).det q1; cases e
  · have e := (PR_tp ht p1).det q3; cases e
  · have e := (PR_tp ht p1).det q1
    cases e
    have hn := bg_now (wn := h2.1) hN b p2 q2 (PR_inv9 p1) p3 q3
    rw [p4, q5]
    exact RM_new hn (fun k hk => cpy_00 hk) q4
theorem mx_eq {fn2 q2 q fb : FN9} {fu2 : Int32} {cu2 un2 re2 : Nat} (h : q2 = va_cpy fn2 q 0 0 41 ∧ fu2 = 0 ∧ cu2 = 0 ∧ un2 = 0 ∧ re2 = 0) : ((fn2, q2, fb, fu2, cu2, un2, re2) : MXT) = (fn2, va_cpy fn2 q 0 0 41, fb, 0, 0, 0, 0) := by
  obtain ⟨a, b, c, d, e⟩ := h
  subst a b c d e; rfl
theorem mm_eq {gn2 gw gb hb2 : FN9} {ac2 ud2 : Nat} (h : ac2 = 0 ∧ ud2 = 0) : ((gn2, gw, gb, hb2, ac2, ud2) : MMT) = (gn2, gw, gb, hb2, 0, 0) := by
  obtain ⟨a, b⟩ := h
  subst a b; rfl
end MOM4
abbrev TXh (u : XS) : HXT := ((u.1 85), (u.1 86), (u.1 87), (u.1 88), (u.2.2.2.2.1 3), (u.2.2.2.2.1 4), (u.2.2.2.2.1 5), (u.2.2.2.2.1 6), (u.2.2.2.2.1 2), (u.2.2.2.2.1 7), (u.2.1 8), (u.2.1 9), (u.2.1 10), (u.2.1 11))
abbrev TMh (v : XS) : HMT := ((v.1 61), (v.1 62), (v.1 63), (v.1 64), (v.2.2.2.2.1 19), (v.2.2.2.2.1 20), (v.2.2.2.2.1 21), (v.2.2.2.2.1 22), (v.2.2.2.2.1 18), (v.2.2.2.2.1 23), (v.2.1 7), (v.2.1 8), (v.2.1 4))
abbrev TXs (u : XS) : SST := ((u.1 95), (u.2.2.2.2.1 32), (u.2.2.2.2.1 33), (u.2.2.2.2.1 34), (u.2.2.2.2.1 35), (u.2.2.2.2.1 36))
abbrev TMs (v : XS) : SST := ((v.1 70), (v.2.2.2.2.1 37), (v.2.2.2.2.1 38), (v.2.2.2.2.1 39), (v.2.2.2.2.1 40), (v.2.2.2.2.1 41))
abbrev TXm (u : XS) : MXT := ((u.2.2.2.2.1 29), (u.2.2.2.2.1 30), (u.2.2.2.2.1 31), (u.2.1 15), (u.1 92), (u.1 93), (u.1 94))
abbrev TMm (v : XS) : MMT := ((v.2.2.2.2.1 26), (v.2.2.2.2.1 30), (v.2.2.2.2.1 45), (v.2.2.2.2.1 44), (v.1 67), (v.1 68))
/-! formulas, yes and places: class and reference alike -/
section L2V
theorem cv_mv {ff : Nat → Int32} {s a : Int32} {S : List Int32} (h : (cdO s a).toInt < 10007 ∨ 20000 ≤ (cdO s a).toInt) : cv1 ff (cdO s a) S = mv1 ff s a S := by
  have n15 : ¬ cdO s a = 15000 := fun e => by
    rw [e] at h
    revert h
    decide
  have z2 : (20000 : Int32).toInt = 20000 := by decide
  have z1 : (10000 : Int32).toInt = 10000 := by decide
  have z0 : (0 : Int32).toInt = 0 := by decide
  by_cases h0 : s = 0
  · subst h0
    have e : cdO 0 a = if ¬ a < 0 ∧ a < 10000 then a else 15000 := if_pos rfl
    by_cases c : ¬ a < 0 ∧ a < 10000
    · rw [e, if_pos c]
      have c2 := c.2
      rw [fa_lt, z1] at c2
      have k1 : ¬ a = 20116 := fun h9 => by rw [h9] at c2; revert c2; decide
      have k2 : ¬ 20000 ≤ a := fun h9 => by rw [fa_le, z2] at h9; omega
      unfold cv1 mv1
      rw [if_neg k1, if_neg k2, if_pos c.2, if_pos rfl]
    · exact absurd (e.trans (if_neg c)) n15
  by_cases h1 : s = 1
  · subst h1
    have e : cdO 1 a = if ¬ a < 0 ∧ a < 7 then a + 10000 else 15000 := (if_neg h0).trans (if_pos rfl)
    by_cases c : ¬ a < 0 ∧ a < 7
    · rw [e, if_pos c]
      obtain ⟨j, hj, ej⟩ := nI_of c.1
      have hj7 : j < 7 := by
        have c2 := c.2
        rw [ej] at c2
        exact (nI_ltI (b := 7) hj (by decide)).mp c2
      subst ej
      have k : ∀ q : Nat, q < 7 → ¬ nI q + 10000 = 20116 ∧ ¬ 20000 ≤ nI q + 10000 ∧ ¬ nI q + 10000 < 10000 ∧ nI q + 10000 - 10000 = nI q := by decide +kernel
      obtain ⟨k1, k2, k3, k4⟩ := k j hj7
      unfold cv1 mv1
      rw [if_neg k1, if_neg k2, if_neg k3, k4, if_neg h0, if_pos rfl]
    · exact absurd (e.trans (if_neg c)) n15
  by_cases h2 : s = 2
  · subst h2
    have e : cdO 2 a = 20116 := (if_neg h0).trans ((if_neg h1).trans (if_pos rfl))
    rw [e]
    unfold cv1 mv1
    rw [if_pos rfl, if_neg h0, if_neg h1, if_pos rfl]
    cases S <;> rfl
  by_cases h3 : s = 3
  · subst h3
    have e : cdO 3 a = if a = 21 then 15000 else ded a := (if_neg h0).trans ((if_neg h1).trans ((if_neg h2).trans (if_pos rfl)))
    by_cases c : a = 21
    · exact absurd (e.trans (if_pos c)) n15
    · have e2 : cdO 3 a = ded a := e.trans (if_neg c)
      have hd : ¬ ded a = 15000 := e2 ▸ n15
      have hs : a = 38 ∨ a = 124 ∨ a = 43 ∨ a = 45 ∨ a = 42 ∨ a = 47 ∨ a = 37 ∨ a = 60 ∨ a = 62 ∨ a = 61 := by
        by_cases c1 : a = 38
        · exact Or.inl c1
        by_cases c2 : a = 124
        · exact Or.inr (Or.inl c2)
        by_cases c3 : a = 43 ∨ a = 45 ∨ a = 42 ∨ a = 47 ∨ a = 37 ∨ a = 60 ∨ a = 62 ∨ a = 61
        · exact Or.inr (Or.inr c3)
        · exact absurd (by unfold ded; rw [if_neg c, if_neg c1, if_neg c2, if_neg c3]) hd
      have k : ¬ ded a = 20116 ∧ 20000 ≤ ded a := by
        rcases hs with q | q | q | q | q | q | q | q | q | q <;> subst q <;> decide
      rw [e2]
      unfold cv1 mv1
      rw [if_neg k.1, if_pos k.2, if_neg h0, if_neg h1, if_neg h2]
      match S with
      | [] => rfl
      | [_] => rfl
      | v :: u :: q => exact congrArg (fun z9 => z9 :: q) (dn_cmb hd c).symm
  · have e : cdO s a = 15000 := (if_neg h0).trans ((if_neg h1).trans ((if_neg h2).trans (if_neg h3)))
    exact absurd e n15
def foV (ff : Nat → Int32) (L S : List Int32) : List Int32 := L.foldl (fun S x => cv1 ff x S) S
theorem evA_fo {ff fc : Nat → Int32} (L : List Int32) : ∀ (i : Nat) (S : List Int32), (∀ j, j < L.length → fc (i + j) = L.getD j 0) → evA ff fc L.length i S = foV ff L S := by
  induction L with
  | nil => intro i S h; rfl
  | cons x r ih =>
    intro i S h
    have h0 : fc i = x := h 0 (by rw [List.length_cons]; omega)
    show evA ff fc r.length (i + 1) (cv1 ff (fc i) S) = foV ff r (cv1 ff x S)
    rw [h0]
    refine ih (i + 1) _ (fun j hj => ?_)
    have h9 := h (j + 1) (by rw [List.length_cons]; omega)
    rw [show i + 1 + j = i + (j + 1) by omega]
    exact h9
theorem evM_fo {st ar ff : Nat → Int32} {b : Nat} (m : Nat) (h : ∀ x, x ∈ rwL st ar b m → (x.toInt < 10007 ∨ 20000 ≤ x.toInt)) : evM st ar ff b m = foV ff (rwL st ar b m) [] := by
  induction m with
  | zero => rfl
  | succ m ih =>
    have h1 := ih (fun x hx => h x (List.mem_append.mpr (Or.inl hx)))
    show mv1 ff (st (b + m)) (ar (b + m)) (evM st ar ff b m) = List.foldl (fun S x => cv1 ff x S) [] (rwL st ar b m ++ [cdO (st (b + m)) (ar (b + m))])
    rw [List.foldl_append, h1]
    exact (cv_mv (h _ (List.mem_append.mpr (Or.inr (List.mem_singleton.mpr rfl))))).symm
theorem chk_len {ff : Nat → Int32} (L : List Int32) : ∀ (d e : Nat) (S : List Int32), S.length = d → chk L d = some e → (foV ff L S).length = e := by
  induction L with
  | nil => intro d e S h1 h2; cases h2; exact h1
  | cons x r ih =>
    intro d e S h1 h2
    have h9 : (if x = 20116 then (if 1 ≤ d then chk r d else none) else if 20000 ≤ x then (if 2 ≤ d then chk r (d - 1) else none) else (if d < 31 then chk r (d + 1) else none)) = some e := h2
    show (foV ff r (cv1 ff x S)).length = e
    by_cases c1 : x = 20116
    · rw [if_pos c1] at h9
      by_cases c2 : 1 ≤ d
      · rw [if_pos c2] at h9
        refine ih d e _ ?_ h9
        unfold cv1
        rw [if_pos c1]
        match S, h1 with
        | [], h1 => exact h1
        | v :: q, h1 => exact h1
      · rw [if_neg c2] at h9; cases h9
    rw [if_neg c1] at h9
    by_cases c3 : 20000 ≤ x
    · rw [if_pos c3] at h9
      by_cases c2 : 2 ≤ d
      · rw [if_pos c2] at h9
        refine ih (d - 1) e _ ?_ h9
        unfold cv1
        rw [if_neg c1, if_pos c3]
        match S, h1 with
        | [], h1 => exact absurd h1 (by intro h8; rw [← h8] at c2; exact absurd c2 (by decide))
        | [_], h1 => exact absurd c2 (by rw [← h1]; exact (by decide : ¬ 2 ≤ 1))
        | v :: u :: q, h1 =>
          show q.length + 1 = d - 1
          rw [List.length_cons, List.length_cons] at h1
          omega
      · rw [if_neg c2] at h9; cases h9
    rw [if_neg c3] at h9
    by_cases c2 : d < 31
    · rw [if_pos c2] at h9
      refine ih (d + 1) e _ ?_ h9
      unfold cv1
      rw [if_neg c1, if_neg c3, List.length_cons, h1]
    · rw [if_neg c2] at h9; cases h9
theorem one_hl {S : List Int32} (h : S.length = 1) : S.headD 0 = S.getLastD 0 := by
  match S, h with
  | [x], _ => rfl
/-- a formula's value, of both -/
theorem vl_same {t : Int32} {fc hf st ar : Nat → Int32} {am : Nat → Nat} {n k : Nat} {z : Int32} {L : List Int32} (e : t = hf k) (ht : ¬ t = 0 → exC fc 0 fc n L ∧ chk L 0 = some 1) (hc : cOK fc n) (hL : ¬ hf k = 0 → rwL st ar (320 * k) (am k) = L) : vlC t fc n z = vlM hf st ar am k z := by
  funext ff
  unfold vlC vlM
  by_cases c : t = 0
  · rw [if_pos c, if_pos (e ▸ c)]
  · have c2 : ¬ hf k = 0 := e ▸ c
    rw [if_neg c, if_neg c2]
    obtain ⟨⟨x1, _, x3⟩, hck⟩ := ht c
    have xl : n = L.length := by omega
    have eA : evA ff fc n 0 [] = foV ff L [] := by
      rw [xl]
      exact evA_fo L 0 [] (fun j hj => x3 j hj)
    have eM : evM st ar ff (320 * k) (am k) = foV ff L [] := by
      rw [evM_fo (am k) (fun x hx => ?_), hL c2]
      rw [hL c2] at hx
      obtain ⟨j, hj, ej⟩ := List.mem_iff_getElem.mp hx
      have h9 := hc j (by omega)
      have h8 := x3 j hj
      rw [Nat.zero_add, List.getD_eq_getElem?_getD, List.getElem?_eq_getElem hj, Option.getD_some, ej] at h8
      rw [← h8]
      exact h9
    rw [eA, eM]
    exact one_hl (chk_len L 0 1 [] rfl hck)
/-- far, of both -/
theorem far_same {a b : Nat} (ha : a ≤ 99) (hb : b ≤ 99) : farC (nI a) (nI b) = ofR (nI a) (nI b) := by
  have H : ∀ a : Nat, a < 100 → ∀ b : Nat, b < 100 → farC (nI a) (nI b) = ofR (nI a) (nI b) := by decide +kernel
  exact H a (by omega) b (by omega)
/-- a row of WORDS leads to one STATE, of both -/
theorem stL_c {fx : Nat → Int32} {s : Nat} {x : Int32} {r : List Int32} : stL fx s (x :: r) = stL fx (fx (s * 8 + x.toNatClampNeg)).toNatClampNeg r := rfl
theorem stR_c {on : Nat → Int32} {s : Nat} {x : Int32} {r : List Int32} : stR on s (x :: r) = stR on (nxR on s x.toNatClampNeg).toNatClampNeg r := rfl
theorem stL_n {fx : Nat → Int32} {s : Nat} : stL fx s [] = s := rfl
theorem stR_n {on : Nat → Int32} {s : Nat} : stR on s [] = s := rfl
theorem st_same {fx on : Nat → Int32} {c3 : Nat} (h6 : c3 ≤ 6) (hx : ∀ s w : Nat, s < c3 → w < 8 → nxC fx s w = nxR on s w) (hj : ∀ s w : Nat, s < c3 → w < 8 → ∃ j : Nat, j < c3 ∧ nxC fx s w = nI j) (L : List Int32) : ∀ s : Nat, s < c3 → (∀ x, x ∈ L → ∃ j : Nat, j ≤ 7 ∧ x = nI j) → stL fx s L = stR on s L ∧ stL fx s L < c3 := by
  induction L with
  | nil => intro s hs h; exact ⟨stL_n.trans stR_n.symm, stL_n.symm ▸ hs⟩
  | cons x r ih =>
    intro s hs h
    obtain ⟨j, hj7, ej⟩ := h x (List.mem_cons_self ..)
    have e1 : fx (s * 8 + x.toNatClampNeg) = nxC fx s j := by
      rw [ej, nI_clamp (by omega)]
      unfold nxC
      congr 1
      omega
    obtain ⟨q, hq, e2⟩ := hj s j hs (by omega)
    have e3 : nxR on s x.toNatClampNeg = nI q := by
      rw [ej, nI_clamp (by omega), ← hx s j hs (by omega)]
      exact e2
    have e4 : fx (s * 8 + x.toNatClampNeg) = nI q := e1.trans e2
    rw [stL_c, stR_c, e3, e4, nI_clamp (by omega)]
    exact ih q hq (fun y hy => h y (List.mem_cons_of_mem _ hy))
theorem st_in {fx : Nat → Int32} (hr : rng fx 48 5) (L : List Int32) : ∀ s : Nat, s < 6 → (∀ x, x ∈ L → ∃ j : Nat, j ≤ 7 ∧ x = nI j) → stL fx s L < 6 := by
  induction L with
  | nil => intro s hs h; exact hs
  | cons x r ih =>
    intro s hs h
    obtain ⟨j, hj7, ej⟩ := h x (List.mem_cons_self ..)
    obtain ⟨q, hq, eq⟩ := hr (s * 8 + j) (by omega)
    show stL fx (fx (s * 8 + x.toNatClampNeg)).toNatClampNeg r < 6
    rw [ej, nI_clamp (by omega), eq, nI_clamp (by omega)]
    exact ih q (by omega) (fun y hy => h y (List.mem_cons_of_mem _ hy))
theorem ye_same {fx on ye : Nat → Int32} {ys : Int32} {c3 : Nat} {f5 : Nat → Int32} {L : List Int32} (hr : rng fx 48 5) (h6 : c3 ≤ 6) (hx : ∀ s w : Nat, s < c3 → w < 8 → nxC fx s w = nxR on s w) (hj : ∀ s w : Nat, s < c3 → w < 8 → ∃ j : Nat, j < c3 ∧ nxC fx s w = nI j) (hy : ysR ys c3 f5) (hz : ∀ i, i < c3 → ye i = f5 i) (hL : ∀ x, x ∈ L → ∃ j : Nat, j ≤ 7 ∧ x = nI j) : yeC fx ys L = yeM on ye c3 L := by
  unfold yeC ysB yeM
  by_cases c : 0 < c3
  · obtain ⟨e, lt⟩ := st_same h6 hx hj L 0 c hL
    rw [hy.2 _ (by omega), if_pos lt, if_pos c, ← e, hz _ lt]
    simp [c]
  · have lt := st_in hr L 0 (by decide) hL
    rw [hy.2 _ lt, if_neg (by omega)]
    simp [c]
theorem sdL_mem {c : Nat → Bool} {fw : Nat → Int32} {pl : Nat → Nat} {m : Nat} {x : Int32} (h : x ∈ sdL c fw pl m) : ∃ k, k < m ∧ x = fw (pl k) := by
  induction m with
  | zero => exact absurd h List.not_mem_nil
  | succ m ih =>
    have h9 : x ∈ sdL c fw pl m ++ (if c (pl m) = true then [fw (pl m)] else []) := h
    rcases List.mem_append.mp h9 with h1 | h1
    · obtain ⟨k, hk, e⟩ := ih h1
      exact ⟨k, by omega, e⟩
    · by_cases q : c (pl m) = true
      · rw [if_pos q] at h1
        exact ⟨m, by omega, List.mem_singleton.mp h1⟩
      · rw [if_neg q] at h1
        exact absurd h1 List.not_mem_nil
theorem ecS_mem {bE lE tE : FE} {lo : Nat → Int32} {far wi sn voc cha : Int32} {fw : Nat → Int32} {n : Nat} {x : Int32} (h : x ∈ ecS bE lE tE lo far wi sn voc cha fw n) : ∃ i, i < n ∧ x = fw i := by
  obtain ⟨k, hk, e⟩ := sdL_mem h
  refine ⟨_, ?_, e⟩
  split <;> omega
section GS
variable {bE lE tE : FE} {Y Y2 : List Int32 → Bool} {c0 c1 : Nat} {fp ca flo lo : Nat → Int32}
/-- one way to ask, of both: far, loud and yes alike -/
def okG (Y Y2 : List Int32 → Bool) (c0 c1 : Nat) (fp ca flo lo : Nat → Int32) : Prop := (c0 ≤ 8 ∧ c1 ≤ 4) ∧ (∀ i, i < c1 → fp i = ca i ∧ ∃ j : Nat, j ≤ 99 ∧ fp i = nI j) ∧ (∀ i, i < c0 → flo i = lo i) ∧ ∀ L : List Int32, (∀ x, x ∈ L → ∃ j : Nat, j ≤ 7 ∧ x = nI j) → Y L = Y2 L
theorem exG_same {pl vo wi ch s : Int32} {fw : Nat → Int32} {n j : Nat} (G : okG Y Y2 c0 c1 fp ca flo lo) (hp : ∃ q : Nat, q ≤ 99 ∧ pl = nI q) (hw : ∀ i, i < n → ∃ q : Nat, q < c0 ∧ fw i = nI q) (hj : j < c1) : farC pl (fp j) = ofR pl (ca j) ∧ ecS bE lE tE flo (farC pl (fp j)) wi s vo ch fw n = ecS bE lE tE lo (ofR pl (ca j)) wi s vo ch fw n := by
  obtain ⟨⟨h8, _⟩, hP, hL, _⟩ := G
  obtain ⟨e, q, hq, eq⟩ := hP j hj
  obtain ⟨r, hr, er⟩ := hp
  have hf : farC pl (fp j) = ofR pl (ca j) := by
    rw [← e, eq, er]
    exact far_same hr hq
  refine ⟨hf, ?_⟩
  rw [hf]
  refine ec_cg rfl (fun _ => rfl) rfl (fun i hi => ?_) (fun _ _ => rfl)
  obtain ⟨k, hk, ek⟩ := hw i hi
  rw [ek, nI_clamp (by omega)]
  exact hL k hk
theorem vdG_same {pl vo wi ch : Int32} {sn fw : Nat → Int32} {n : Nat} (G : okG Y Y2 c0 c1 fp ca flo lo) (hp : ∃ q : Nat, q ≤ 99 ∧ pl = nI q) (hw : ∀ i, i < n → ∃ q : Nat, q < c0 ∧ fw i = nI q) : vdG farC bE lE tE Y c1 fp flo pl vo wi ch sn fw n = vdG ofR bE lE tE Y2 c1 ca lo pl vo wi ch sn fw n := by
  have h8 := G.1
  have hE := fun (j : Nat) (hj : j < c1) => exG_same (bE := bE) (lE := lE) (tE := tE) (vo := vo) (wi := wi) (ch := ch) (s := sn j) G hp hw hj
  unfold vdG
  refine vdS_cg (by omega) (fun j hj => ⟨(hE j hj).2, (hE j hj).1⟩) (fun j hj => ?_)
  rw [← (hE j hj).2]
  refine G.2.2.2 _ (fun x hx => ?_)
  obtain ⟨i, hi, e⟩ := ecS_mem hx
  obtain ⟨q, hq, eq⟩ := hw i hi
  exact ⟨q, by omega, e.trans eq⟩
theorem bdG_same {pl vo wi ch : Int32} {sn fw : Nat → Int32} {n : Nat} (G : okG Y Y2 c0 c1 fp ca flo lo) (hp : ∃ q : Nat, q ≤ 99 ∧ pl = nI q) (hw : ∀ i, i < n → ∃ q : Nat, q < c0 ∧ fw i = nI q) : bdG farC bE lE tE c1 fp flo pl vo wi ch sn fw n = bdG ofR bE lE tE c1 ca lo pl vo wi ch sn fw n := by
  have h8 := G.1
  have hE := fun (j : Nat) (hj : j < c1) => exG_same (bE := bE) (lE := lE) (tE := tE) (vo := vo) (wi := wi) (ch := ch) (s := sn j) G hp hw hj
  unfold bdG
  exact bdS_cg (by omega) (fun j hj => ⟨(hE j hj).2, (hE j hj).1⟩)
theorem jnG_same {fmp fmv ma vo9 sn fw fw2 : Nat → Int32} {wi : Int32} {n n2 m o : Nat} (G : okG Y Y2 c0 c1 fp ca flo lo) (hm : fmp m = ma m ∧ fmv m = vo9 m) (ho : fmp o = ma o ∧ fmv o = vo9 o) (hp : ∃ q : Nat, q ≤ 99 ∧ fmp m = nI q) (hq : ∃ q : Nat, q ≤ 99 ∧ fmp o = nI q) (hw : ∀ i, i < n → ∃ q : Nat, q < c0 ∧ fw i = nI q) (hw2 : ∀ i, i < n2 → ∃ q : Nat, q < c0 ∧ fw2 i = nI q) : jnG farC bE lE tE Y c1 fp flo fmp fmv wi sn fw n fw2 n2 m o = jnG ofR bE lE tE Y2 c1 ca lo ma vo9 wi sn fw n fw2 n2 m o := by
  have h8 := G.1
  have hE := fun (j : Nat) (hj : j < c1) => exG_same (bE := bE) (lE := lE) (tE := tE) (vo := fmv m) (wi := wi) (ch := 0) (s := sn j) G hp hw hj
  have hE2 := fun (j : Nat) (hj : j < c1) => exG_same (bE := bE) (lE := lE) (tE := tE) (vo := fmv o) (wi := wi) (ch := 0) (s := sn j) G hq hw2 hj
  unfold jnG
  rw [← hm.1, ← hm.2, ← ho.1, ← ho.2]
  refine congrArg nI (vdS_cg (by omega) (fun j hj => ⟨?_, (hE j hj).1⟩) (fun j hj => ?_))
  · rw [(hE j hj).2, (hE2 j hj).2]
  · rw [← (hE j hj).2, ← (hE2 j hj).2]
    refine G.2.2.2 _ (fun x hx => ?_)
    rcases List.mem_append.mp hx with hx | hx
    · obtain ⟨i, hi, e⟩ := ecS_mem hx
      obtain ⟨q, hq, eq⟩ := hw i hi
      exact ⟨q, by omega, e.trans eq⟩
    · obtain ⟨i, hi, e⟩ := ecS_mem hx
      obtain ⟨q, hq, eq⟩ := hw2 i hi
      exact ⟨q, by omega, e.trans eq⟩
end GS
/-! answers alike -/
theorem aM_same {c2 nm : Nat} {V W : Nat → Int32} {xm r r' : Int32} (hc : c2 = nm) (h4 : c2 ≤ 4) (hV : ∀ m, m < c2 → V m = W m) (h1 : aM c2 V xm r) (h2 : aM nm W xm r') : r = r' := by
  subst hc
  rcases h1 with ⟨a, b⟩ | ⟨m, a, b, c⟩ <;> rcases h2 with ⟨a', b'⟩ | ⟨m', a', b', c'⟩
  · rw [a, a']
  · exact absurd ⟨m', a', b'⟩ b
  · exact absurd ⟨m, a, b⟩ b'
  · have e := nI_inj (by omega) (by omega) (b.symm.trans b')
    subst e
    rw [c, c', hV m a]
theorem aE_same {c1 c2 nm nc : Nat} {V W : Nat → Nat → Int32} {xm xk r r' : Int32} (hc : c2 = nm) (hd : c1 = nc) (h4 : c2 ≤ 4 ∧ c1 ≤ 4) (hV : ∀ m k, m < c2 → k < c1 → V m k = W m k) (h1 : aE c2 c1 V xm xk r) (h2 : aE nm nc W xm xk r') : r = r' := by
  subst hc hd
  rcases h1 with ⟨a, b⟩ | ⟨m, k, a, d, b, f, c⟩ <;> rcases h2 with ⟨a', b'⟩ | ⟨m', k', a', d', b', f', c'⟩
  · rw [a, a']
  · rcases b with b | b
    · exact absurd ⟨m', a', b'⟩ b
    · exact absurd ⟨k', d', f'⟩ b
  · rcases b' with b' | b'
    · exact absurd ⟨m, a, b⟩ b'
    · exact absurd ⟨k, d, f⟩ b'
  · have e := nI_inj (by omega) (by omega) (b.symm.trans b')
    have e2 := nI_inj (by omega) (by omega) (f.symm.trans f')
    subst e e2
    rw [c, c', hV m k a d]
theorem aJ_same {c2 nm : Nat} {V W : Nat → Nat → Int32} {xm xo r r' : Int32} (hc : c2 = nm) (h4 : c2 ≤ 4) (hV : ∀ m o, m < c2 → o < c2 → V m o = W m o) (h1 : aJ c2 V xm xo r) (h2 : aJ nm W xm xo r') : r = r' := by
  subst hc
  rcases h1 with ⟨a, b⟩ | ⟨m, o, a, d, n, b, f, c⟩ <;> rcases h2 with ⟨a', b'⟩ | ⟨m', o', a', d', n', b', f', c'⟩
  · rw [a, a']
  · rcases b with b | b | b
    · exact absurd ⟨m', a', b'⟩ b
    · exact absurd ⟨o', d', f'⟩ b
    · exact absurd (nI_inj (by omega) (by omega) (b'.symm.trans (b.trans f'))) n'
  · rcases b' with b' | b' | b'
    · exact absurd ⟨m, a, b⟩ b'
    · exact absurd ⟨o, d, f⟩ b'
    · exact absurd (nI_inj (by omega) (by omega) (b.symm.trans (b'.trans f))) n
  · have e := nI_inj (by omega) (by omega) (b.symm.trans b')
    have e2 := nI_inj (by omega) (by omega) (f.symm.trans f')
    subst e e2
    rw [c, c', hV m o a d]
theorem aY_same {V W : Int32 → Int32 → Int32} {xv wh r r' : Int32} (hV : V xv wh = W xv wh) (h1 : aY V xv wh r) (h2 : aY W xv wh r') : r = r' := by
  rcases h1 with ⟨a, b⟩ | ⟨⟨a1, a2, a3, a4⟩, c⟩ <;> rcases h2 with ⟨a', b'⟩ | ⟨⟨a1', a2', a3', a4'⟩, c'⟩
  · rw [a, a']
  · rcases b with b | b | b | b
    · exact absurd b a1'
    · exact absurd b a2'
    · exact absurd b a3'
    · exact absurd a4' b
  · rcases b' with b | b | b | b
    · exact absurd b a1
    · exact absurd b a2
    · exact absurd b a3
    · exact absurd a4 b
  · rw [c, c', hV]
theorem ckS_cg {c1 : Nat} {P Q : Nat → Bool} {wh r : Int32} (hP : ∀ b, b < 2 ^ c1 → P b = Q b) (h : ckS c1 P wh r) : ckS c1 Q wh r := by
  rcases h with ⟨a, b⟩ | ⟨b, h1, h2, h3, h4⟩
  · exact Or.inl ⟨a, fun k hk => (hP k hk).symm.trans (b k hk)⟩
  · exact Or.inr ⟨b, h1, (hP b h1).symm.trans h2, fun k hk h9 => h3 k hk ((hP k hk).trans h9), h4⟩
theorem aC_same {c1 nc c2 nm : Nat} {P Q : Nat → Nat → Bool} {xm wh r r' : Int32} (hc : c2 = nm) (hd : c1 = nc) (h4 : c2 ≤ 4) (hV : ∀ m b, m < c2 → b < 2 ^ c1 → P m b = Q m b) (h1 : aC c2 (fun m9 w9 r9 => ckS c1 (P m9) w9 r9) xm wh r) (h2 : aC nm (fun m9 w9 r9 => ckS nc (Q m9) w9 r9) xm wh r') : r = r' := by
  subst hc hd
  rcases h1 with ⟨a, b⟩ | ⟨m, a, b, ⟨k1, k2⟩, c⟩ <;> rcases h2 with ⟨a', b'⟩ | ⟨m', a', b', ⟨k1', k2'⟩, c'⟩
  · rw [a, a']
  · rcases b with b | b | b
    · exact absurd ⟨m', a', b'⟩ b
    · exact absurd b k1'
    · exact absurd k2' b
  · rcases b' with b | b | b
    · exact absurd ⟨m, a, by assumption⟩ b
    · exact absurd b k1
    · exact absurd k2 b
  · have e := nI_inj (by omega) (by omega) (b.symm.trans b')
    subst e
    exact ckS_det (ckS_cg (fun k hk => hV m k a hk) c) c'
end L2V
section L2R
abbrev LXT : Type := Int32 × Int32 × FN9 × Nat × Int32 × FN9 × Nat × Int32 × FN9 × Nat
abbrev LMT : Type := FN9 × FN9 × FN9 × (Nat → Nat) × FN9
def tdLh (s : AS) (c3 : Nat) (l : LXT) : Prop := tdL s c3 l.1 l.2.1 l.2.2.1 l.2.2.2.1 l.2.2.2.2.1 l.2.2.2.2.2.1 l.2.2.2.2.2.2.1 l.2.2.2.2.2.2.2.1 l.2.2.2.2.2.2.2.2.1 l.2.2.2.2.2.2.2.2.2
def tdMh (s : AS) (m : LMT) : Prop := tdM s m.1 m.2.1 m.2.2.1 m.2.2.2.1 m.2.2.2.2
/-- class and reference hold the same formulas and yes STATES; places are at most 99, and STATES lead to STATES -/
def RLw (h : HXT) (l : LXT) (m : LMT) : Prop := ∃ gs : AS, tdLh gs h.2.2.2.1 l ∧ tdMh gs m ∧ sC gs 3 = h.2.2.2.1 ∧ okA gs ∧ (∀ i, i < h.2.1 → ∃ j : Nat, j ≤ 99 ∧ h.2.2.2.2.1 i = nI j) ∧ (∀ i, i < h.2.2.1 → ∃ j : Nat, j ≤ 99 ∧ h.2.2.2.2.2.2.1 i = nI j) ∧ ∀ s w : Nat, s < h.2.2.2.1 → w < 8 → ∃ j : Nat, j < h.2.2.2.1 ∧ nxC h.2.2.2.2.2.2.2.2.2.1 s w = nI j
theorem td_RL {s : AS} {h : HXT} {l : LXT} {m : LMT} (b : h.2.2.2.1 ≤ 6) (hC : tdCh s h) (hl : tdLh s h.2.2.2.1 l) (hm : tdMh s m) (ho : okA s) : RLw h l m := by
  have hC2 := hC
  obtain ⟨⟨e0, e1, e2, e3⟩, ⟨r0, r1, r2, r3, r4⟩, ex, _⟩ := hC2
  refine ⟨s, hl, hm, e3, ho, fun i hi => ?_, fun i hi => ?_, fun a w ha hw => ?_⟩
  · obtain ⟨j, hj, e⟩ := ho.2.1 i (by rw [e1]; exact hi)
    exact ⟨j, hj, (r1 i hi).trans e⟩
  · obtain ⟨j, hj, e⟩ := ho.2.2.1 i (by rw [e2]; exact hi)
    exact ⟨j, hj, (r3 i hi).trans e⟩
  · have h9 := ex (8 * a + w) (by omega)
    unfold nxC
    rw [h9]
    rcases ho.2.2.2.2.2 (8 * a + w) with e | ⟨j, hj, e⟩
    · rw [if_pos e, show (8 * a + w) / 8 = a by omega]
      exact ⟨a, ha, rfl⟩
    · rw [if_neg (fun h8 => nI_nneg (a := j) (by omega) (by decide) (e.symm.trans h8)), e]
      exact ⟨j, by omega, rfl⟩
def hLX (f : FN9) (n : Nat) (h2 : HXT) (l l2 : LXT) : Prop := (l2 = l ∧ ∃ e, PR f n aS0 (.inl e)) ∨ ∃ gs, PR f n aS0 (.inr gs) ∧ tdCh gs h2 ∧ tdLh gs h2.2.2.2.1 l2
def hLM (f : FN9) (n : Nat) (m m2 : LMT) : Prop := (m2 = m ∧ ∃ e, PR f n aS0 (.inl e)) ∨ ∃ gs, PR f n aS0 (.inr gs) ∧ tdMh gs m2
theorem hL_same {f g : FN9} {n n' : Nat} {h h2 : HXT} {l l2 : LXT} {m m2 : LMT} {s s2 : SST} (hn : n = n') (ht : tpR f g n) (b : h2.2.2.2.1 ≤ 6) (R : RLw h l m) (h0 : hlX f n h h2 s s2) (h1 : hLX f n h2 l l2) (k1 : hLM g n' m m2) : RLw h2 l2 m2 := by
  subst hn
  rcases h1 with ⟨p1, e, p3⟩ | ⟨gs, p1, p2, p3⟩ <;> rcases k1 with ⟨q1, e', q3⟩ | ⟨gs', q1, q2⟩
  · rcases h0 with ⟨r1, _⟩ | ⟨gs, r1, _⟩
    · subst p1 q1 r1; exact R
    · have e := p3.det r1; cases e
  · have e := (PR_tp ht p3).det q1; cases e
  · have e := (PR_tp ht p1).det q3; cases e
  · have e := (PR_tp ht p1).det q1
    cases e
    exact td_RL b p2 p3 q2 (PR_ok p1 okA_0)
theorem RL_0 {h : HXT} {l : LXT} {m : LMT} (e1 : h.2.1 = 0) (e2 : h.2.2.1 = 0) (e3 : h.2.2.2.1 = 0) (el : ∃ fb fl ft : FN9, l = (0, 0, fb, 0, 0, fl, 0, 0, ft, 0)) (em : ∀ k, k < 3 → m.1 k = 0) : RLw h l m := by
  obtain ⟨fb, fl, ft, el⟩ := el
  refine ⟨aS0, ?_, ?_, e3.symm, okA_0, fun i hi => ?_, fun i hi => ?_, fun a w ha => ?_⟩
  · subst el
    rw [e3]
    exact ⟨⟨rfl, rfl, rfl⟩, relL_0⟩
  · exact ⟨fun k hk => ⟨em k hk, fun h9 => absurd (em k hk) h9⟩, fun i hi => absurd hi (Nat.not_lt_zero i)⟩
  · rw [e1] at hi; exact absurd hi (Nat.not_lt_zero i)
  · rw [e2] at hi; exact absurd hi (Nat.not_lt_zero i)
  · rw [e3] at ha; exact absurd ha (Nat.not_lt_zero a)
theorem RL_of {h h2 : HXT} {l l2 : LXT} {m m2 : LMT} (e : h2 = h) (e1 : l2 = l) (e2 : m2 = m) (R : RLw h l m) : RLw h2 l2 m2 := by subst e e1 e2; exact R
theorem okG_of {h : HXT} {k : HMT} {l : LXT} {m : LMT} (R : RH h k) (L : RLw h l m) (hr : rng h.2.2.2.2.2.2.2.2.2.1 48 5) : okG (yeC h.2.2.2.2.2.2.2.2.2.1 l.1) (yeM k.2.2.2.2.2.2.2.2.2.1 m.2.2.2.2 k.2.2.2.1) h.1 h.2.1 h.2.2.2.2.1 k.2.2.2.2.1 h.2.2.2.2.2.2.2.2.1 k.2.2.2.2.2.2.2.2.1 := by
  obtain ⟨⟨c0, c1, c2, c3⟩, ⟨b0, b1, b2, b3⟩, ⟨r0, r1, r2, r3, r4⟩, hx, _⟩ := R
  obtain ⟨gs, hl, hm, e3, ho, hp, hq, hj⟩ := L
  refine ⟨⟨b0, b1⟩, fun i hi => ⟨r0 i hi, hp i hi⟩, r4, fun L9 hL9 => ?_⟩
  rw [← c3]
  exact ye_same hr b3 hx hj hl.2.2.2.2 (fun i hi => hm.2 i (by rw [e3]; exact hi)) hL9
theorem forms_of {h : HXT} {l : LXT} {m : LMT} (L : RLw h l m) (k0 : cOK l.2.2.1 l.2.2.2.1) (k1 : cOK l.2.2.2.2.2.1 l.2.2.2.2.2.2.1) (k2 : cOK l.2.2.2.2.2.2.2.2.1 l.2.2.2.2.2.2.2.2.2) : vlC l.2.1 l.2.2.1 l.2.2.2.1 3 = vlM m.1 m.2.1 m.2.2.1 m.2.2.2.1 0 3 ∧ vlC l.2.2.2.2.1 l.2.2.2.2.2.1 l.2.2.2.2.2.2.1 0 = vlM m.1 m.2.1 m.2.2.1 m.2.2.2.1 1 0 ∧ vlC l.2.2.2.2.2.2.2.1 l.2.2.2.2.2.2.2.2.1 l.2.2.2.2.2.2.2.2.2 0 = vlM m.1 m.2.1 m.2.2.1 m.2.2.2.1 2 0 := by
  obtain ⟨gs, ⟨⟨f0, f1, f2⟩, g0, g1, g2, _⟩, ⟨hm, _⟩, _⟩ := L
  have a0 := hm 0 (by decide)
  have a1 := hm 1 (by decide)
  have a2 := hm 2 (by decide)
  exact ⟨vl_same (f0.symm.trans a0.1.symm) g0.2 k0 a0.2, vl_same (f1.symm.trans a1.1.symm) g1.2 k1 a1.2, vl_same (f2.symm.trans a2.1.symm) g2.2 k2 a2.2⟩
def nowA (c0 : Nat) (fn gn : FN9) : Prop := (fn 22 = gn 22 ∧ ∀ c, c < 4 → nSn fn c = mSn gn c) ∧ (mLn gn 20 = nLn fn 0 ∧ (nLn fn 0 ≤ 10) ∧ (∀ i, i < nLn fn 0 → nFw fn 1 i = mFw gn 0 i) ∧ ∀ i, i < nLn fn 0 → ∃ q : Nat, q < c0 ∧ nFw fn 1 i = nI q) ∧ (mLn gn 21 = nLn fn 11 ∧ (nLn fn 11 ≤ 10) ∧ (∀ i, i < nLn fn 11 → nFw fn 12 i = mFw gn 10 i) ∧ ∀ i, i < nLn fn 11 → ∃ q : Nat, q < c0 ∧ nFw fn 12 i = nI q)
/-- what is now, of both, as a call takes it -/
theorem now_of {c0 : Nat} {fn gn : FN9} (R : nowR c0 41 fn 0 gn 0) (hl : (∃ a : Nat, a ≤ 10 ∧ fn 0 = nI a) ∧ ∃ a : Nat, a ≤ 10 ∧ fn 11 = nI a) : nowA c0 fn gn := by
  have hA : ∀ c : Nat, c < 2 → (∃ a : Nat, a ≤ 10 ∧ fn (11 * c) = nI a) → mLn gn (20 + c) = nLn fn (11 * c) ∧ (nLn fn (11 * c) ≤ 10) ∧ (∀ i, i < nLn fn (11 * c) → nFw fn (11 * c + 1) i = mFw gn (10 * c) i) ∧ ∀ i, i < nLn fn (11 * c) → ∃ q : Nat, q < c0 ∧ nFw fn (11 * c + 1) i = nI q := fun c hc ⟨a, ha, ea⟩ => by
    have e1 := ln_of ea ha
    have e2 : gn (20 + c) = nI a := (nowR_at R (by omega) (phi_len hc)).symm.trans ea
    have hw : ∀ i, i < a → nFw fn (11 * c + 1) i = mFw gn (10 * c) i := fun i hi => show fn (11 * c + 1 + i) = gn (10 * c + i) from nowR_at R (by omega) (phi_word c hc i (by omega))
    refine ⟨?_, by omega, ?_, ?_⟩
    · unfold mLn
      rw [e2, nI_clamp (by omega), e1]
    · rw [e1]; exact hw
    · rw [e1]
      intro i hi
      rw [hw i hi]
      obtain ⟨j, hj, ej⟩ := R.2.2.2.1 (10 * c + i) (by omega)
      rw [Nat.zero_add] at ej
      rcases Nat.eq_zero_or_pos c0 with z | z
      · have z9 := R.2.2.2.2 z (20 + c) (by omega) (by omega)
        rw [Nat.zero_add, e2] at z9
        have := nI_inj (a := a) (b := 0) (by omega) (by omega) z9
        omega
      · exact ⟨j, by omega, ej⟩
  refine ⟨⟨nowR_at R (by omega) rfl, fun c hc => show fn (25 + c) = gn (23 + c) from nowR_at R (by omega) (phi_sn c hc)⟩, hA 0 (by decide) hl.1, hA 1 (by decide) hl.2⟩
theorem vdG_all {bE lE tE : FE} {Y Y2 : List Int32 → Bool} {c0 c1 : Nat} {fp ca flo lo : Nat → Int32} {pl vo wi ch PL VO WI : Int32} {sn fw SN FW : Nat → Int32} {n N : Nat} (G : okG Y Y2 c0 c1 fp ca flo lo) (hp : ∃ q : Nat, q ≤ 99 ∧ pl = nI q) (hw : ∀ i, i < n → ∃ q : Nat, q < c0 ∧ fw i = nI q) (e1 : pl = PL) (e2 : vo = VO) (e3 : wi = WI) (hs : ∀ c, c < c1 → sn c = SN c) (hN : N = n) (hf : ∀ i, i < n → fw i = FW i) : vdG farC bE lE tE Y c1 fp flo pl vo wi ch sn fw n = vdG ofR bE lE tE Y2 c1 ca lo PL VO WI ch SN FW N :=
  vdG_cg G.1.2 e1 e2 e3 rfl hs hN hf (vdG_same G hp hw)
/-- a VERDICT is counted, of both -/
theorem phi9 {k : Nat} (h : 29 ≤ k) : k = phi k := by
  unfold phi
  rw [if_neg (by omega), if_neg (by omega), if_neg (by omega), if_neg (by omega), if_neg (by omega), if_neg (by omega), if_neg (by omega), if_neg (by omega)]
theorem cv_same {wn c2 nm : Nat} {V W : Nat → Int32} {xm r r' : Int32} {fn fq fb : FN9} {fu : Int32} {cu un re : Nat} {gn gw gb hb : FN9} {ac ud : Nat} {fn2 fq2 gn2 gw2 : FN9} {cu2 un2 re2 ac2 ud2 : Nat} (hc : c2 = nm) (h4 : c2 ≤ 4) (hV : ∀ m, m < c2 → V m = W m) (R : RM wn 41 fn fq fb fu cu un re gn gw gb hb ac ud) (h1 : caV c2 V fn fq cu un re xm r fn2 fq2 cu2 un2 re2) (h2 : caM nm W gn gw ac ud xm r' gn2 gw2 ac2 ud2) : r = r' ∧ RM wn 41 fn2 fq2 fb fu cu2 un2 re2 gn2 gw2 gb hb ac2 ud2 := by
  subst hc
  rcases h1 with ⟨p1, ⟨p2, p3, p4, p5, p6⟩, p7⟩ | ⟨m, vd, p1, p2, p3, p4, p5, p6, p7⟩ <;> rcases h2 with ⟨q1, ⟨q2, q3, q4, q5⟩, q6⟩ | ⟨m', vd', q1, q2, q3, q4, q5, q6, q7⟩
  · subst p2 p3 p4 p5 p6 q2 q3 q4 q5
    exact ⟨by rw [p1, q1], R⟩
  · exact absurd ⟨m', q1, q2⟩ p7
  · exact absurd ⟨m, p1, p2⟩ q6
  · have e := nI_inj (by omega) (by omega) (p2.symm.trans q2)
    subst e
    have e2 : nI vd = nI vd' := p4.trans ((hV m p1).trans q4.symm)
    have e3 := nI_inj (by omega) (by omega) e2
    subst e3
    refine ⟨by rw [p5, q5], RM_act (by omega) R ?_ p7 q7⟩
    rw [p6, q6, nowR_at R.2.1 (show 29 + 3 * m + vd < 41 by omega) (phi9 (by omega))]
    exact nowR_put (by omega) R.2.1 (by omega) (phi9 (by omega)) (by omega) (by omega) (fun h9 => absurd h9 (by omega)) (fun _ _ h9 => absurd h9 (by omega))
/-- what is said of a MAN, of both -/
theorem an_same {wn c2 nm : Nat} {fmp fmv ma vo fn gn : FN9} {xm wh r r' : Int32} (hc : c2 = nm) (h4 : c2 ≤ 4) (hp : rowR fmp ma c2) (hv : rowR fmv vo c2) (R : nowR wn 41 fn 0 gn 0) (h1 : aN c2 fmp fmv fn xm wh r) (h2 : aN nm ma vo gn xm wh r') : r = r' := by
  subst hc
  rcases h1 with ⟨a, b⟩ | ⟨m, a, b, c⟩ <;> rcases h2 with ⟨a', b'⟩ | ⟨m', a', b', c'⟩
  · rw [a, a']
  · rcases b with b | ⟨n0, n1, n2, n3, n4⟩
    · exact absurd ⟨m', a', b'⟩ b
    · rcases c' with ⟨h, _⟩ | ⟨h, _⟩ | ⟨h, _⟩ | ⟨h, _⟩ | ⟨h, _⟩
      · exact absurd h n0
      · exact absurd h n1
      · exact absurd h n2
      · exact absurd h n3
      · exact absurd h n4
  · rcases b' with b' | ⟨n0, n1, n2, n3, n4⟩
    · exact absurd ⟨m, a, b⟩ b'
    · rcases c with ⟨h, _⟩ | ⟨h, _⟩ | ⟨h, _⟩ | ⟨h, _⟩ | ⟨h, _⟩
      · exact absurd h n0
      · exact absurd h n1
      · exact absurd h n2
      · exact absurd h n3
      · exact absurd h n4
  · have e := nI_inj (by omega) (by omega) (b.symm.trans b')
    subst e
    have hN : ∀ k, k < 3 → fn (29 + 3 * m + k) = gn (29 + 3 * m + k) := fun k hk => nowR_at R (by omega) (phi9 (by omega))
    have d : ∀ {x y : Int32}, wh = x → wh = y → x = y := fun h h9 => h.symm.trans h9
    rcases c with ⟨h, c⟩ | ⟨h, c⟩ | ⟨h, c⟩ | ⟨h, c⟩ | ⟨h, c⟩ <;> rcases c' with ⟨h', c'⟩ | ⟨h', c'⟩ | ⟨h', c'⟩ | ⟨h', c'⟩ | ⟨h', c'⟩ <;>
      first
      | exact absurd (d h h') (by decide)
      | (rw [c, c']; exact hp m a)
      | (rw [c, c']; exact hv m a)
      | (rw [c, c']; exact hN _ (by decide))
/-- all that a call's answer hangs on, of both -/
def allG (c0 c1 nc c2 : Nat) (fp ca flo lo fx : FN9) (ys : Int32) (Y2 : List Int32 → Bool) (tb : Int32) (fcb : FN9) (nb : Nat) (tl : Int32) (fcl : FN9) (nl : Nat) (tt : Int32) (fct : FN9) (nt : Nat) (bE lE tE : FE) (fmp ma fmv vo fn gn : FN9) : Prop :=
  c1 = nc ∧ okG (yeC fx ys) Y2 c0 c1 fp ca flo lo ∧ (vlC tb fcb nb 3 = bE ∧ vlC tl fcl nl 0 = lE ∧ vlC tt fct nt 0 = tE) ∧ (∀ i, i < c2 → fmp i = ma i ∧ fmv i = vo i ∧ ∃ j : Nat, j ≤ 99 ∧ fmp i = nI j) ∧ nowA c0 fn gn
section AG
variable {c0 c1 nc c2 : Nat} {fp ca flo lo fx : FN9} {ys : Int32} {Y2 : List Int32 → Bool} {tb : Int32} {fcb : FN9} {nb : Nat} {tl : Int32} {fcl : FN9} {nl : Nat} {tt : Int32} {fct : FN9} {nt : Nat} {bE lE tE : FE} {fmp ma fmv vo fn gn : FN9}
theorem vn_same (A : allG c0 c1 nc c2 fp ca flo lo fx ys Y2 tb fcb nb tl fcl nl tt fct nt bE lE tE fmp ma fmv vo fn gn) : ∀ m, m < c2 → vnX c1 fp flo fx ys tb fcb nb tl fcl nl tt fct nt fmp fmv fn m = vnG ofR bE lE tE Y2 nc ca lo ma vo (gn 22) (mSn gn) (mFw gn 0) (mLn gn 20) m := by
  obtain ⟨e, G, ⟨eb, el, et⟩, hm, ⟨w1, w2⟩, ⟨l1, l2, l3, l4⟩, _⟩ := A
  subst e eb el et
  intro m hq
  obtain ⟨p1, p2, p3⟩ := hm m hq
  have h4 := G.1.2
  exact congrArg nI (vdG_all (ch := 0) G p3 l4 p1 p2 w1 (fun c hc => w2 c (by omega)) l1 l3)
theorem bn_same (A : allG c0 c1 nc c2 fp ca flo lo fx ys Y2 tb fcb nb tl fcl nl tt fct nt bE lE tE fmp ma fmv vo fn gn) : ∀ m, m < c2 → bnX c1 fp flo tb fcb nb tl fcl nl tt fct nt fmp fmv fn m = bnG ofR bE lE tE nc ca lo ma vo (gn 22) (mSn gn) (mFw gn 0) (mLn gn 20) m := by
  obtain ⟨e, G, ⟨eb, el, et⟩, hm, ⟨w1, w2⟩, ⟨l1, l2, l3, l4⟩, _⟩ := A
  subst e eb el et
  intro m hq
  obtain ⟨p1, p2, p3⟩ := hm m hq
  have h4 := G.1.2
  exact bdG_cg h4 p1 p2 w1 rfl (fun c hc => w2 c (by omega)) l1 l3 (bdG_same (ch := 0) G p3 l4)
theorem en_same (A : allG c0 c1 nc c2 fp ca flo lo fx ys Y2 tb fcb nb tl fcl nl tt fct nt bE lE tE fmp ma fmv vo fn gn) : ∀ m k, m < c2 → k < c1 → enX fp flo tb fcb nb tl fcl nl tt fct nt fmp fmv fn m k = enG ofR bE lE tE ca lo ma vo (gn 22) (mSn gn) (mFw gn 0) (mLn gn 20) m k := by
  obtain ⟨e, G, ⟨eb, el, et⟩, hm, ⟨w1, w2⟩, ⟨l1, l2, l3, l4⟩, _⟩ := A
  subst e eb el et
  intro m k hq hk
  obtain ⟨p1, p2, p3⟩ := hm m hq
  have h4 := G.1.2
  unfold enX enG
  rw [← p1, ← p2, ← w1, ← w2 k (by omega), l1]
  refine congrArg (fun z9 : List Int32 => nI z9.length) ((exG_same (ch := 0) G p3 l4 hk).2.trans ?_)
  exact ec_cg rfl (fun _ => rfl) rfl (fun _ _ => rfl) l3
theorem lk_same (A : allG c0 c1 nc c2 fp ca flo lo fx ys Y2 tb fcb nb tl fcl nl tt fct nt bE lE tE fmp ma fmv vo fn gn) : ∀ m, m < c2 → lkX c1 fp flo fx ys tb fcb nb tl fcl nl tt fct nt fmp fmv fn m = lkG ofR bE lE tE Y2 nc ca lo ma vo (gn 22) (mSn gn) (mFw gn 0) (mLn gn 20) m := by
  obtain ⟨e, G, ⟨eb, el, et⟩, hm, ⟨w1, w2⟩, ⟨l1, l2, l3, l4⟩, _⟩ := A
  subst e eb el et
  intro m hq
  obtain ⟨p1, p2, p3⟩ := hm m hq
  have h4 := G.1.2
  exact congrArg nI (ctF_cg (fun k _ => congrArg is2 (vdG_all (ch := nI k) G p3 l4 p1 p2 w1 (fun c hc => w2 c (by omega)) l1 l3)))
theorem wn_same (A : allG c0 c1 nc c2 fp ca flo lo fx ys Y2 tb fcb nb tl fcl nl tt fct nt bE lE tE fmp ma fmv vo fn gn) : ∀ m, m < c2 → wnX c1 fp flo fx ys tb fcb nb tl fcl nl tt fct nt fmp fmv fn m = wnG ofR bE lE tE Y2 nc ca lo ma vo (mSn gn) (mFw gn 0) (mLn gn 20) m := by
  obtain ⟨e, G, ⟨eb, el, et⟩, hm, ⟨w1, w2⟩, ⟨l1, l2, l3, l4⟩, _⟩ := A
  subst e eb el et
  intro m hq
  obtain ⟨p1, p2, p3⟩ := hm m hq
  have h4 := G.1.2
  exact btF_cg (fun k _ => congrArg is2 (vdG_all (ch := 0) G p3 l4 p1 p2 rfl (fun c hc => w2 c (by omega)) l1 l3))
theorem mo_same {n0 : Nat} (A : allG c0 c1 nc c2 fp ca flo lo fx ys Y2 tb fcb nb tl fcl nl tt fct nt bE lE tE fmp ma fmv vo fn gn) (e0 : c0 = n0) : ∀ m, m < c2 → moX c1 fp flo fx ys tb fcb nb tl fcl nl tt fct nt fmp fmv fn c0 m = moG ofR bE lE tE Y2 nc ca lo ma vo (gn 22) (mSn gn) (mFw gn 0) (mLn gn 20) n0 m := by
  obtain ⟨e, G, ⟨eb, el, et⟩, hm, ⟨w1, w2⟩, ⟨l1, l2, l3, l4⟩, _⟩ := A
  subst e eb el et e0
  intro m hq
  obtain ⟨p1, p2, p3⟩ := hm m hq
  have h4 := G.1.2
  unfold moX moG
  rw [l1]
  by_cases h10 : 10 ≤ nLn fn 0
  · rw [if_pos h10, if_pos h10]
  · rw [if_neg h10, if_neg h10]
    refine btF_cg (fun k hk => congrArg is2 (vdG_all (ch := 0) G p3 (fun i hi => ?_) p1 p2 w1 (fun c hc => w2 c (by omega)) rfl (fun i hi => ?_)))
    · by_cases q : i = nLn fn 0
      · rw [q, pk_us]; exact ⟨k, hk, rfl⟩
      · rw [pk_un q]; exact l4 i (by omega)
    · by_cases q : i = nLn fn 0
      · rw [q, pk_us, pk_us]
      · rw [pk_un q, pk_un q]; exact l3 i (by omega)
theorem ye_all (A : allG c0 c1 nc c2 fp ca flo lo fx ys Y2 tb fcb nb tl fcl nl tt fct nt bE lE tE fmp ma fmv vo fn gn) (xv wh : Int32) : yeX c1 fp flo fx ys tb fcb nb tl fcl nl tt fct nt fn xv wh = yeG ofR bE lE tE Y2 nc ca lo (gn 22) (mSn gn) (mFw gn 0) (mLn gn 20) xv wh := by
  obtain ⟨e, G, ⟨eb, el, et⟩, hm, ⟨w1, w2⟩, ⟨l1, l2, l3, l4⟩, _⟩ := A
  subst e eb el et
  have h4 := G.1.2
  have hP : ∀ k, k < 100 → yeP c1 fp flo fx ys tb fcb nb tl fcl nl tt fct nt fn xv k = yeP9 ofR (vlC tb fcb nb 3) (vlC tl fcl nl 0) (vlC tt fct nt 0) Y2 c1 ca lo (gn 22) (mSn gn) (mFw gn 0) (mLn gn 20) xv k := fun k hk => congrArg is2 (vdG_all (ch := 0) G ⟨k, by omega, rfl⟩ l4 rfl rfl w1 (fun c hc => w2 c (by omega)) l1 l3)
  unfold yeX yeG
  rw [ctF_cg hP, fsF_cg hP, lsF_cg hP]
theorem jn_same (A : allG c0 c1 nc c2 fp ca flo lo fx ys Y2 tb fcb nb tl fcl nl tt fct nt bE lE tE fmp ma fmv vo fn gn) : ∀ m o, m < c2 → o < c2 → jnX c1 fp flo fx ys tb fcb nb tl fcl nl tt fct nt fmp fmv fn m o = jnG ofR bE lE tE Y2 nc ca lo ma vo (gn 22) (mSn gn) (mFw gn 0) (mLn gn 20) (mFw gn 10) (mLn gn 21) m o := by
  obtain ⟨e, G, ⟨eb, el, et⟩, hm, ⟨w1, w2⟩, ⟨l1, l2, l3, l4⟩, ⟨k1, k2, k3, k4⟩⟩ := A
  subst e eb el et
  intro m o hq ho
  obtain ⟨p1, p2, p3⟩ := hm m hq
  obtain ⟨q1, q2, q3⟩ := hm o ho
  have h4 := G.1.2
  refine Eq.trans (jnG_same (fmp := fmp) (fmv := fmv) (ma := ma) (vo9 := vo) (wi := fn 22) (sn := nSn fn) (fw := nFw fn 1) (fw2 := nFw fn 12) (n := nLn fn 0) (n2 := nLn fn 11) G ⟨p1, p2⟩ ⟨q1, q2⟩ p3 q3 l4 k4) ?_
  unfold jnG
  rw [l1, k1]
  have hE : ∀ j, j < c1 → ecS (vlC tb fcb nb 3) (vlC tl fcl nl 0) (vlC tt fct nt 0) lo (ofR (ma m) (ca j)) (fn 22) (nSn fn j) (vo m) 0 (nFw fn 1) (nLn fn 0) ++ ecS (vlC tb fcb nb 3) (vlC tl fcl nl 0) (vlC tt fct nt 0) lo (ofR (ma o) (ca j)) (fn 22) (nSn fn j) (vo o) 0 (nFw fn 12) (nLn fn 11) = ecS (vlC tb fcb nb 3) (vlC tl fcl nl 0) (vlC tt fct nt 0) lo (ofR (ma m) (ca j)) (gn 22) (mSn gn j) (vo m) 0 (mFw gn 0) (nLn fn 0) ++ ecS (vlC tb fcb nb 3) (vlC tl fcl nl 0) (vlC tt fct nt 0) lo (ofR (ma o) (ca j)) (gn 22) (mSn gn j) (vo o) 0 (mFw gn 10) (nLn fn 11) := fun j hj => by
    rw [w1, w2 j (by omega)]
    congr 1
    · exact ec_cg rfl (fun _ => rfl) rfl (fun _ _ => rfl) l3
    · exact ec_cg rfl (fun _ => rfl) rfl (fun _ _ => rfl) k3
  exact congrArg nI (vdS_cg (by omega) (fun j hj => ⟨hE j hj, rfl⟩) (fun j hj => congrArg Y2 (hE j hj)))
theorem ck_same (A : allG c0 c1 nc c2 fp ca flo lo fx ys Y2 tb fcb nb tl fcl nl tt fct nt bE lE tE fmp ma fmv vo fn gn) : ∀ m b, m < c2 → b < 2 ^ c1 → ckP c1 fp flo fx ys tb fcb nb tl fcl nl tt fct nt fmp fmv fn m b = ckG ofR bE lE tE Y2 nc ca lo ma vo (gn 22) (mSn gn) (mFw gn 0) (mLn gn 20) m b := by
  obtain ⟨e, G, ⟨eb, el, et⟩, hm, ⟨w1, w2⟩, ⟨l1, l2, l3, l4⟩, _⟩ := A
  subst e eb el et
  intro m b hq _
  obtain ⟨p1, p2, p3⟩ := hm m hq
  have h4 := G.1.2
  refine congrArg is2 (vdG_all (ch := 0) G p3 l4 p1 p2 w1 (fun c hc => ?_) l1 l3)
  unfold clS clG
  rw [show fn (25 + c) = mSn gn c from w2 c (by omega)]
end AG
theorem RMt_hof {h h2 : HXT} {a a2 : MXT} {b b2 : MMT} (e0 : h2 = h) (e1 : a2 = a) (e2 : b2 = b) (R : RMt h.1 41 a b) : RMt h2.1 41 a2 b2 := by subst e0 e1 e2; exact R
theorem allG_of {h : HXT} {k : HMT} {l : LXT} {m : LMT} {fn gn : FN9} (R : RH h k) (L : RLw h l m) (n0 : nowR h.1 41 fn 0 gn 0) (hr : rng h.2.2.2.2.2.2.2.2.2.1 48 5) (hno : mRows fn 1) (k0 : cOK l.2.2.1 l.2.2.2.1) (k1 : cOK l.2.2.2.2.2.1 l.2.2.2.2.2.2.1) (k2 : cOK l.2.2.2.2.2.2.2.2.1 l.2.2.2.2.2.2.2.2.2) : allG h.1 h.2.1 k.2.1 h.2.2.1 h.2.2.2.2.1 k.2.2.2.2.1 h.2.2.2.2.2.2.2.2.1 k.2.2.2.2.2.2.2.2.1 h.2.2.2.2.2.2.2.2.2.1 l.1 (yeM k.2.2.2.2.2.2.2.2.2.1 m.2.2.2.2 k.2.2.2.1) l.2.1 l.2.2.1 l.2.2.2.1 l.2.2.2.2.1 l.2.2.2.2.2.1 l.2.2.2.2.2.2.1 l.2.2.2.2.2.2.2.1 l.2.2.2.2.2.2.2.2.1 l.2.2.2.2.2.2.2.2.2 (vlM m.1 m.2.1 m.2.2.1 m.2.2.2.1 0 3) (vlM m.1 m.2.1 m.2.2.1 m.2.2.2.1 1 0) (vlM m.1 m.2.1 m.2.2.1 m.2.2.2.1 2 0) h.2.2.2.2.2.2.1 k.2.2.2.2.2.2.1 h.2.2.2.2.2.2.2.1 k.2.2.2.2.2.2.2.1 fn gn := by
  refine ⟨R.1.2.1, okG_of R L hr, forms_of L k0 k1 k2, fun i hi => ⟨R.2.2.1.2.2.1 i hi, R.2.2.1.2.2.2.1 i hi, ?_⟩, now_of n0 (m_lenAt hno)⟩
  obtain ⟨_, _, _, _, _, _, hq, _⟩ := L
  exact hq i hi
end L2R
section SND4
/-- each SOUND is of a CLIFF that there is -/
def RC (c1 : Nat) (a : SST) : Prop := ∀ i, i < a.1 → ∃ j : Nat, j < c1 ∧ a.2.1 i = nI j
theorem RC_eq {h h2 : HXT} {a a2 : SST} (R : RC h.2.1 a) (e : h2 = h) (e1 : a2 = a) : RC h2.2.1 a2 := by subst e e1; exact R
theorem RC_so {h h2 : HXT} {uc uc2 : Nat} {f1 f2 f3 f4 f5 g1 g2 g3 g4 g5 : FN9} {t x n z r : Int32} (e : h2 = h) (R : RC h.2.1 (uc, f1, f2, f3, f4, f5)) (h1 : soS h.2.1 uc f1 f2 f3 f4 f5 t x n z r uc2 g1 g2 g3 g4 g5) : RC h2.2.1 (uc2, g1, g2, g3, g4, g5) := by
  subst e
  rcases h1 with ⟨p1, p2, ⟨p3, p4, p5, p6, p7⟩, p8⟩ | ⟨⟨q1, q2, q3, q4, q5⟩, q6⟩
  · subst p2 p3
    exact R
  · rcases q6 with ⟨a0, a6, a7, h1, h2, h3, h4, h5⟩ | ⟨a0, a6, a7, h1, h2, h3, h4, h5⟩
    · subst a7 h1
      exact R
    · subst a7 h1
      intro i hi
      have hi : i < uc + 1 := hi
      show ∃ j : Nat, j < _ ∧ upd f1 uc x i = nI j
      by_cases q : i = uc
      · rw [q, pk_us]
        exact q1
      · rw [pk_un q]
        exact R i (show i < uc by omega)
theorem RC_un {h h2 : HXT} {uc : Nat} {f1 f2 f3 f4 f5 g5 : FN9} {s2 : SST} (e : h2 = h) (R : RC h.2.1 (uc, f1, f2, f3, f4, f5)) (e1 : s2 = (uc, f1, f2, f3, f4, g5)) : RC h2.2.1 s2 := by subst e e1; exact R
theorem RC_hl {f : FN9} {n : Nat} {h h2 : HXT} {s s2 : SST} (R : RC h.2.1 s) (h1 : hlX f n h h2 s s2) : RC h2.2.1 s2 := by
  rcases h1 with ⟨p1, p2, _⟩ | ⟨gs, p1, p2, _⟩
  · subst p1 p2
    exact R
  · intro i hi
    rw [p2] at hi
    exact absurd hi (Nat.not_lt_zero i)
theorem snV_same {h : HXT} {k : HMT} {l : LXT} {m : LMT} (R : RH h k) (L : RLw h l m) (k0 : cOK l.2.2.1 l.2.2.2.1) (k1 : cOK l.2.2.2.2.2.1 l.2.2.2.2.2.2.1) (k2 : cOK l.2.2.2.2.2.2.2.2.1 l.2.2.2.2.2.2.2.2.2) : ∀ c n q : Nat, c < h.2.1 → n ≤ 10 → q < 100 → snB (vlC l.2.1 l.2.2.1 l.2.2.2.1 3) farC h.2.2.2.2.1 h.2.2.2.2.2.1 h.2.2.2.2.2.2.2.2.2.2.2.1 c n (nI q) = snB (vlM m.1 m.2.1 m.2.2.1 m.2.2.2.1 0 3) ofR k.2.2.2.2.1 k.2.2.2.2.2.1 k.2.2.2.2.2.2.2.2.2.2.2.1 c n (nI q) := by
  intro c n q hc _ hq
  have hF := (forms_of L k0 k1 k2).1
  obtain ⟨_, _, ⟨r0, r1, _⟩, _, _, hw, _⟩ := R
  obtain ⟨gs, _, _, _, _, hp, _⟩ := L
  obtain ⟨j, hj, ej⟩ := hp c hc
  unfold snB
  rw [hF, hw, ← r0 c hc, ← r1 c hc, ej, far_same (show q ≤ 99 by omega) hj]
theorem cn_same {f4 f5 g4 g5 : FN9} {kk : Int32} {i : Nat} (e4 : f4 i = g4 i) (e5 : f5 i = g5 i) (h : f5 i = -1 ∨ ∃ n : Nat, n ≤ 100000 ∧ f5 i = nI n) : cnC f4 f5 kk i = cnR g4 g5 kk i := by
  unfold cnC cnR
  rw [← e4, ← e5]
  congr 1
  rcases h with e | ⟨n, hn, e⟩
  · rw [e, decide_eq_false (show ¬ ¬ (-1 : Int32) = -1 from fun h9 => h9 rfl), decide_eq_true (show (-1 : Int32) < 0 by decide)]
    rfl
  · rw [e, decide_eq_true (show ¬ nI n = -1 from nI_nneg (by omega) (by decide)), decide_eq_false (show ¬ nI n < 0 from nI_pos (by omega)), Bool.true_and, Bool.false_or]
    by_cases q : nI n ≤ kk
    · rw [decide_eq_true q, decide_eq_false (le_nlt q)]
      rfl
    · rw [decide_eq_false q, decide_eq_true (nle_lt q)]
      rfl
theorem stQ_same {h : HXT} {k : HMT} {l : LXT} {m : LMT} {t kk : Int32} {a b : SST} (R : RH h k) (L : RLw h l m) (k0 : cOK l.2.2.1 l.2.2.2.1) (k1 : cOK l.2.2.2.2.2.1 l.2.2.2.2.2.2.1) (k2 : cOK l.2.2.2.2.2.2.2.2.1 l.2.2.2.2.2.2.2.2.2) (S : RS t a b) (C : RC h.2.1 a) (h2 : rng a.2.2.1 30 10) : ∀ p : Nat, p < 100 → stQ (cnC a.2.2.2.2.1 a.2.2.2.2.2 kk) (snB (vlC l.2.1 l.2.2.1 l.2.2.2.1 3) farC h.2.2.2.2.1 h.2.2.2.2.2.1 h.2.2.2.2.2.2.2.2.2.2.2.1) a.2.1 a.2.2.1 a.2.2.2.1 a.1 p = stQ (cnR b.2.2.2.2.1 b.2.2.2.2.2 kk) (snB (vlM m.1 m.2.1 m.2.2.1 m.2.2.2.1 0 3) ofR k.2.2.2.2.1 k.2.2.2.2.2.1 k.2.2.2.2.2.2.2.2.2.2.2.1) b.2.1 b.2.2.1 b.2.2.2.1 b.1 p := by
  intro p hp
  have hV := snV_same R L k0 k1 k2
  have hc1 := R.2.1.2.1
  obtain ⟨e0, e30, _, ea⟩ := S
  unfold stQ
  rw [← e0]
  refine alF_cg (fun i hi => ?_)
  obtain ⟨x1, x2, x3, x4, x5, x6⟩ := ea i hi
  obtain ⟨j, hj, ej⟩ := C i hi
  obtain ⟨n, hn, en⟩ := h2 i (by omega)
  unfold sdP
  rw [cn_same x4 x5 x6, ← x1, ← x2, ← x3, ej, en, nI_clamp (by omega), nI_clamp (by omega), hV j n p hj hn hp]
end SND4
section WAY3
/-- fewer holes than doves -/
theorem php : ∀ (c n : Nat) (f : Nat → Nat), (∀ i, i < n → f i < c) → (∀ i j, i < n → j < n → f i = f j → i = j) → n ≤ c := by
  intro c
  induction c with
  | zero =>
    intro n f h _
    rcases Nat.eq_zero_or_pos n with e | e
    · omega
    · exact absurd (h 0 e) (Nat.not_lt_zero _)
  | succ c ih =>
    intro n f h inj
    by_cases hx : ∃ i, i < n ∧ f i = c
    · obtain ⟨i0, h0, e0⟩ := hx
      have h9 := ih (n - 1) (fun i => if i < i0 then f i else f (i + 1)) (fun i hi => by
        (try dsimp only)
        by_cases q : i < i0
        · rw [if_pos q]
          have h1 := h i (by omega)
          have h2 : ¬ f i = c := fun h3 => by
            have := inj i i0 (by omega) h0 (h3.trans e0.symm)
            omega
          omega
        · rw [if_neg q]
          have h1 := h (i + 1) (by omega)
          have h2 : ¬ f (i + 1) = c := fun h3 => by
            have := inj (i + 1) i0 (by omega) h0 (h3.trans e0.symm)
            omega
          omega) (fun i j hi hj e => by
        (try dsimp only at e)
        by_cases q : i < i0 <;> by_cases q2 : j < i0
        · rw [if_pos q, if_pos q2] at e
          exact inj i j (by omega) (by omega) e
        · rw [if_pos q, if_neg q2] at e
          have := inj i (j + 1) (by omega) (by omega) e
          omega
        · rw [if_neg q, if_pos q2] at e
          have := inj (i + 1) j (by omega) (by omega) e
          omega
        · rw [if_neg q, if_neg q2] at e
          have := inj (i + 1) (j + 1) (by omega) (by omega) e
          omega)
      omega
    · have h9 := ih n f (fun i hi => by
        have h1 := h i hi
        have h2 : ¬ f i = c := fun h3 => hx ⟨i, hi, h3⟩
        omega) inj
      omega
theorem rc_app {nx : Nat → Nat → Nat} {c0 m b : Nat} : ∀ (a : Nat) {s q t : Nat}, RcB nx c0 m a s q → RcB nx c0 m b q t → RcB nx c0 m (a + b) s t := by
  intro a
  induction a with
  | zero =>
    intro s q t h1 h2
    have h1 : s = q := h1
    subst h1
    rw [Nat.zero_add]
    exact h2
  | succ a ih =>
    intro s q t h1 h2
    obtain ⟨w, k1, k2, k3⟩ := h1
    rw [show a + 1 + b = (a + b) + 1 by omega]
    exact ⟨w, k1, k2, ih k3 h2⟩
theorem rc_split {nx : Nat → Nat → Nat} {c0 m b : Nat} : ∀ (a : Nat) {s t : Nat}, RcB nx c0 m (a + b) s t → ∃ q, RcB nx c0 m a s q ∧ RcB nx c0 m b q t := by
  intro a
  induction a with
  | zero =>
    intro s t h
    rw [Nat.zero_add] at h
    exact ⟨s, rfl, h⟩
  | succ a ih =>
    intro s t h
    rw [show a + 1 + b = (a + b) + 1 by omega] at h
    obtain ⟨w, k1, k2, k3⟩ := h
    obtain ⟨q, j1, j2⟩ := ih k3
    exact ⟨q, ⟨w, k1, k2, j1⟩, j2⟩
theorem rc_lt {nx : Nat → Nat → Nat} {c0 m : Nat} : ∀ (a : Nat) {s q : Nat}, RcB nx c0 m a s q → s < m → q < m := by
  intro a
  induction a with
  | zero =>
    intro s q h hs
    have h : s = q := h
    omega
  | succ a ih =>
    intro s q h hs
    obtain ⟨w, k1, k2, k3⟩ := h
    exact ih k3 k2
/-- the fewest are fewer than there are STATES -/
theorem rc_min {nx : Nat → Nat → Nat} {c0 m d g s : Nat} (hs : s < m) (h : RcB nx c0 m d s g) (hm : ∀ e, e < d → ¬ RcB nx c0 m e s g) : d < m := by
  have hP : ∀ e : Nat, ∃ q : Nat, e ≤ d → (RcB nx c0 m e s q ∧ RcB nx c0 m (d - e) q g) := fun e => by
    by_cases he : e ≤ d
    · rw [show d = e + (d - e) by omega] at h
      obtain ⟨q, h1, h2⟩ := rc_split e h
      exact ⟨q, fun _ => ⟨h1, h2⟩⟩
    · exact ⟨0, fun h9 => absurd h9 he⟩
  have hC : ∃ P : Nat → Nat, ∀ e, e ≤ d → (RcB nx c0 m e s (P e) ∧ RcB nx c0 m (d - e) (P e) g) := ⟨fun e => Classical.choose (hP e), fun e he => Classical.choose_spec (hP e) he⟩
  obtain ⟨P, hP⟩ := hC
  have hne : ∀ i j, i < j → j ≤ d → ¬ P i = P j := fun i j hij hj e => by
    have h1 := (hP i (by omega)).1
    rw [e] at h1
    exact hm (i + (d - j)) (by omega) (rc_app i h1 (hP j hj).2)
  have h9 := php m (d + 1) P (fun i hi => rc_lt i (hP i (by omega)).1 hs) (fun i j hi hj e => by
    rcases Nat.lt_trichotomy i j with q | q | q
    · exact absurd e (hne i j q (by omega))
    · exact q
    · exact absurd e.symm (hne j i q (by omega)))
  omega
theorem rc_cg {nx ny : Nat → Nat → Nat} {c0 m m2 : Nat} (h6 : m ≤ m2) (he : ∀ s w, s < m → w < c0 → nx s w = ny s w ∧ nx s w < m) : ∀ (n : Nat) {s t : Nat}, s < m → (RcB nx c0 m n s t ↔ RcB ny c0 m2 n s t) := by
  intro n
  induction n with
  | zero => intro s t hs; exact Iff.rfl
  | succ n ih =>
    intro s t hs
    constructor
    · intro ⟨w, k1, k2, k3⟩
      have h9 := he s w hs k1
      refine ⟨w, k1, by omega, ?_⟩
      rw [← h9.1]
      exact (ih k2).mp k3
    · intro ⟨w, k1, k2, k3⟩
      have h9 := he s w hs k1
      rw [← h9.1] at k3
      exact ⟨w, k1, h9.2, (ih h9.2).mpr k3⟩
theorem wy_same {nx ny : Nat → Nat → Nat} {c0 n0 c3 n3 : Nat} {xs r r' : Int32} (e0 : c0 = n0) (e3 : c3 = n3) (h6 : c3 ≤ 6) (he : ∀ s w, s < c3 → w < c0 → nx s w = ny s w ∧ nx s w < c3) (h1 : aW nx c0 c3 xs r) (h2 : aWM ny n0 n3 xs r') : r = r' := by
  subst e0 e3
  rcases h1 with ⟨a, b⟩ | ⟨g, a, b, c⟩ <;> rcases h2 with ⟨a', b'⟩ | ⟨g', a', b', c'⟩
  · rw [a, a']
  · exact absurd ⟨g', a', b'⟩ b
  · exact absurd ⟨g, a, b⟩ b'
  · have e := nI_inj (by omega) (by omega) (b.symm.trans b')
    subst e
    have h0 : 0 < c3 := by omega
    have hc := fun (n : Nat) => rc_cg (nx := nx) (ny := ny) (c0 := c0) h6 he n (s := 0) (t := g) h0
    rcases c with ⟨p1, p2⟩ | ⟨d, p1, p2, p3, p4⟩ <;> rcases c' with ⟨q1, q2⟩ | ⟨d', q1, q2, q3, q4⟩
    · rw [p1, q1]
    · have k3 := (hc d').mpr q3
      have hd := rc_min h0 k3 (fun e he h9 => q4 e he ((hc e).mp h9))
      exact absurd k3 (p2 d' hd)
    · exact absurd ((hc d).mp p3) (q2 d)
    · rcases Nat.lt_trichotomy d d' with q | q | q
      · exact absurd ((hc d).mp p3) (q4 d q)
      · rw [p2, q2, q]
      · exact absurd ((hc d').mpr q3) (p4 d' q)
theorem nx_same {h : HXT} {k : HMT} {l : LXT} {m : LMT} (R : RH h k) (L : RLw h l m) : ∀ s w, s < h.2.2.2.1 → w < h.1 → nC9 h.2.2.2.2.2.2.2.2.2.1 s w = nR9 k.2.2.2.2.2.2.2.2.2.1 s w ∧ nC9 h.2.2.2.2.2.2.2.2.2.1 s w < h.2.2.2.1 := by
  intro s w hs hw
  obtain ⟨_, ⟨b0, _, _, b3⟩, _, hx, _⟩ := R
  obtain ⟨gs, _, _, _, _, _, _, hj⟩ := L
  have hw8 : w < 8 := by omega
  obtain ⟨j, h1, h2⟩ := hj s w hs hw8
  have e1 : nC9 h.2.2.2.2.2.2.2.2.2.1 s w = (nxC h.2.2.2.2.2.2.2.2.2.1 s w).toNatClampNeg := by
    unfold nC9 nxC
    rw [Nat.mul_comm s 8]
  refine ⟨?_, ?_⟩
  · rw [e1, hx s w hs hw8]
    rfl
  · rw [e1, h2]
    rw [nI_clamp (by omega)]
    exact h1
end WAY3
theorem pdb_cg {L L2 : List Int32} {Y Y2 : List Int32 → Bool} (e : L = L2) (h : Y L = Y2 L) : (decide (¬ L = []) && Y L) = (decide (¬ L2 = []) && Y2 L2) := by
  subst e
  rw [h]
section PAR3
variable {bE lE tE : FE} {Y Y2 : List Int32 → Bool} {c0 c1 : Nat} {fp ca flo lo : Nat → Int32}
theorem pdG_same {pl vo wi PL VO WI : Int32} {sn SN : Nat → Int32} {n : Nat} (G : okG Y Y2 c0 c1 fp ca flo lo) (hp : ∃ q : Nat, q ≤ 99 ∧ pl = nI q) (e1 : pl = PL) (e2 : vo = VO) (e3 : wi = WI) (hs : ∀ c, c < 4 → sn c = SN c) (f : FNW) (hf : okW c0 f n) : pdE (fun c f => ecS bE lE tE flo (farC pl (fp c)) wi (sn c) vo 0 f n) Y c1 f = pdE (fun c f => ecS bE lE tE lo (ofR PL (ca c)) WI (SN c) VO 0 f n) Y2 c1 f := by
  subst e1 e2 e3
  have h4 := G.1
  refine alF_cg (fun c hc => ?_)
  have h9 := (exG_same (bE := bE) (lE := lE) (tE := tE) (vo := vo) (wi := wi) (ch := 0) (s := sn c) G hp hf hc).2
  have h7 : ecS bE lE tE flo (farC pl (fp c)) wi (sn c) vo 0 f n = ecS bE lE tE lo (ofR pl (ca c)) wi (SN c) vo 0 f n := by rw [h9, hs c (by omega)]
  refine pdb_cg h7 (G.2.2.2 _ (fun x hx => ?_))
  obtain ⟨i, hi, e⟩ := ecS_mem hx
  obtain ⟨q, hq, eq⟩ := hf i hi
  exact ⟨q, by omega, e.trans eq⟩
theorem pw_0 {c0 n v : Nat} (hn : 1 ≤ n) (hv : v < c0 ^ n) : 0 < c0 := by
  rcases Nat.eq_zero_or_pos c0 with q | q
  · rw [q, Nat.zero_pow hn] at hv
    exact absurd hv (Nat.not_lt_zero v)
  · exact q
theorem pnG_same {pl vo wi PL VO WI : Int32} {sn SN : Nat → Int32} {n : Nat} (hn : 1 ≤ n) (G : okG Y Y2 c0 c1 fp ca flo lo) (hp : ∃ q : Nat, q ≤ 99 ∧ pl = nI q) (e1 : pl = PL) (e2 : vo = VO) (e3 : wi = WI) (hs : ∀ c, c < 4 → sn c = SN c) : pnG farC bE lE tE Y c0 c1 fp flo pl vo wi sn n = pnG ofR bE lE tE Y2 c0 c1 ca lo PL VO WI SN n :=
  ctF_cg (fun v hv => pdG_same G hp e1 e2 e3 hs _ (dgW_ok (pw_0 hn hv)))
theorem pfG_same {pl vo wi PL VO WI : Int32} {sn SN : Nat → Int32} {n : Nat} (hn : 1 ≤ n) (G : okG Y Y2 c0 c1 fp ca flo lo) (hp : ∃ q : Nat, q ≤ 99 ∧ pl = nI q) (e1 : pl = PL) (e2 : vo = VO) (e3 : wi = WI) (hs : ∀ c, c < 4 → sn c = SN c) : pfG farC bE lE tE Y c0 c1 fp flo pl vo wi sn n = pfG ofR bE lE tE Y2 c0 c1 ca lo PL VO WI SN n :=
  foF_cg (fun v hv => by rw [pdG_same G hp e1 e2 e3 hs _ (dgW_ok (pw_0 hn hv))])
end PAR3
theorem aP_same {c2 n2 c1 n1 : Nat} {V W : Nat → Nat → Int32} {xm xn r r' : Int32} (hc : c2 = n2) (hc1 : c1 = n1) (h4 : c2 ≤ 4) (hV : ∀ m n, m < c2 → 1 ≤ n → V m n = W m n) (h1 : aP c2 c1 V xm xn r) (h2 : aP n2 n1 W xm xn r') : r = r' := by
  subst hc hc1
  rcases h1 with ⟨a, b⟩ | ⟨m, n, a1, a2, ⟨a3, a4⟩, a5, a6, a7⟩ <;> rcases h2 with ⟨a', b'⟩ | ⟨m', n', b1, b2, ⟨b3, b4⟩, b5, b6, b7⟩
  · rw [a, a']
  · rcases b with b | b | b | b
    · exact absurd ⟨m', b1, b5⟩ b
    · omega
    · rw [b6] at b
      have := (nI_ltI (b := 1) (by omega) (by decide)).mp b
      omega
    · rw [b6] at b
      have := (nI_ltI (a := 5) (by decide) (by omega)).mp b
      omega
  · rcases b' with b | b | b | b
    · exact absurd ⟨m, a1, a5⟩ b
    · omega
    · rw [a6] at b
      have := (nI_ltI (b := 1) (by omega) (by decide)).mp b
      omega
    · rw [a6] at b
      have := (nI_ltI (a := 5) (by decide) (by omega)).mp b
      omega
  · have e := nI_inj (by omega) (by omega) (a5.symm.trans b5)
    have e2 := nI_inj (by omega) (by omega) (a6.symm.trans b6)
    subst e e2
    rw [a7, b7, hV m n a1 a3]
theorem aQ_same {c2 n2 c1 n1 : Nat} {f g : Nat → Nat → Option FNW} {xm r r' : Int32} (hc : c2 = n2) (hc1 : c1 = n1) (h4 : c2 ≤ 4) (hV : ∀ m n, m < c2 → 1 ≤ n → f m n = g m n) (h1 : aQ c2 c1 f xm r) (h2 : aQ n2 n1 g xm r') : r = r' := by
  subst hc hc1
  rcases h1 with ⟨a, b⟩ | ⟨m, a1, a2, a3, a4⟩ <;> rcases h2 with ⟨a', b'⟩ | ⟨m', b1, b2, b3, b4⟩
  · rw [a, a']
  · rcases b with b | b
    · exact absurd ⟨m', b1, b3⟩ b
    · omega
  · rcases b' with b | b
    · exact absurd ⟨m, a1, a3⟩ b
    · omega
  · have e := nI_inj (by omega) (by omega) (a3.symm.trans b3)
    subst e
    rcases a4 with ⟨p1, p2⟩ | ⟨q, x, ⟨p0, p1⟩, p2, p3, p4⟩ <;> rcases b4 with ⟨q1, q2⟩ | ⟨q', x', ⟨q0, q1⟩, q2, q3, q4⟩
    · rw [p1, q1]
    · have h9 := p2 q' q0 q1
      rw [hV m q' a1 q0, q2] at h9
      exact absurd h9 (by simp)
    · have h9 := q2 q p0 p1
      rw [← hV m q a1 p0, p2] at h9
      exact absurd h9 (by simp)
    · rcases Nat.lt_trichotomy q q' with z | z | z
      · have h9 := q4 q p0 z
        rw [← hV m q a1 p0, p2] at h9
        exact absurd h9 (by simp)
      · rw [p3, q3, z]
      · have h9 := p4 q' q0 z
        rw [hV m q' a1 q0, q2] at h9
        exact absurd h9 (by simp)
section AGP
variable {c0 n0 c1 nc c2 : Nat} {fp ca flo lo fx : FN9} {ys : Int32} {Y2 : List Int32 → Bool} {tb : Int32} {fcb : FN9} {nb : Nat} {tl : Int32} {fcl : FN9} {nl : Nat} {tt : Int32} {fct : FN9} {nt : Nat} {bE lE tE : FE} {fmp ma fmv vo fn gn : FN9}
theorem pn_same (A : allG c0 c1 nc c2 fp ca flo lo fx ys Y2 tb fcb nb tl fcl nl tt fct nt bE lE tE fmp ma fmv vo fn gn) (e0 : c0 = n0) : ∀ m n, m < c2 → 1 ≤ n → nI (pnG farC (vlC tb fcb nb 3) (vlC tl fcl nl 0) (vlC tt fct nt 0) (yeC fx ys) c0 c1 fp flo (fmp m) (fmv m) (fn 22) (nSn fn) n) = nI (pnG ofR bE lE tE Y2 n0 nc ca lo (ma m) (vo m) (gn 22) (mSn gn) n) := by
  obtain ⟨e, G, ⟨eb, el, et⟩, hm, ⟨w1, w2⟩, _⟩ := A
  subst e eb el et e0
  intro m n hq hn
  obtain ⟨p1, p2, p3⟩ := hm m hq
  exact congrArg nI (pnG_same hn G p3 p1 p2 w1 w2)
theorem pf_same (A : allG c0 c1 nc c2 fp ca flo lo fx ys Y2 tb fcb nb tl fcl nl tt fct nt bE lE tE fmp ma fmv vo fn gn) (e0 : c0 = n0) : ∀ m n, m < c2 → 1 ≤ n → pfG farC (vlC tb fcb nb 3) (vlC tl fcl nl 0) (vlC tt fct nt 0) (yeC fx ys) c0 c1 fp flo (fmp m) (fmv m) (fn 22) (nSn fn) n = pfG ofR bE lE tE Y2 n0 nc ca lo (ma m) (vo m) (gn 22) (mSn gn) n := by
  obtain ⟨e, G, ⟨eb, el, et⟩, hm, ⟨w1, w2⟩, _⟩ := A
  subst e eb el et e0
  intro m n hq hn
  obtain ⟨p1, p2, p3⟩ := hm m hq
  exact pfG_same hn G p3 p1 p2 w1 w2
end AGP
theorem aH_same {c2 n2 c1 n1 : Nat} {ok : Prop} {V W : Nat → Nat → Nat → Int32} {xm xk xn r r' : Int32} (hc : c2 = n2) (hc1 : c1 = n1) (h4 : c2 ≤ 4 ∧ c1 ≤ 4) (ho : ok) (hV : ∀ m k n, m < c2 → k < c1 → 1 ≤ n → V m k n = W m k n) (h1 : aH c2 c1 ok V xm xk xn r) (h2 : aH n2 n1 True W xm xk xn r') : r = r' := by
  subst hc hc1
  have hx : ∀ n : Nat, 1 ≤ n → n ≤ 5 → xn = nI n → ¬ (xn < 1 ∨ 5 < xn) := fun n a b e h => by
    rw [e] at h
    rcases h with h | h
    · have := (nI_ltI (b := 1) (by omega) (by decide)).mp h
      omega
    · have := (nI_ltI (a := 5) (by decide) (by omega)).mp h
      omega
  rcases h1 with ⟨a, b⟩ | ⟨m, k, n, a1, a2, ⟨a3, a4⟩, a5, a6, a7, a8⟩ <;> rcases h2 with ⟨a', b'⟩ | ⟨m', k', n', b1, b2, ⟨b3, b4⟩, b5, b6, b7, b8⟩
  · rw [a, a']
  · rcases b with b | b | b
    · exact absurd ⟨m', b1, b5⟩ b
    · exact absurd ⟨k', b2, b6⟩ b
    · exact absurd b (hx n' b3 b4 b7)
  · rcases b' with b | b | b
    · exact absurd ⟨m, a1, a5⟩ b
    · exact absurd ⟨k, a2, a6⟩ b
    · exact absurd b (hx n a3 a4 a7)
  · have e := nI_inj (by omega) (by omega) (a5.symm.trans b5)
    have e2 := nI_inj (by omega) (by omega) (a6.symm.trans b6)
    have e3 := nI_inj (by omega) (by omega) (a7.symm.trans b7)
    subst e e2 e3
    rw [a8 ho, b8 trivial, hV m k n a1 a2 a3]
theorem anG_same {bE lE tE : FE} {Y Y2 : List Int32 → Bool} {c0 c1 k n : Nat} {fp ca flo lo : Nat → Int32} {pl vo wi PL VO WI : Int32} {sn SN : Nat → Int32} {L L2 : List Int32} (hn : 1 ≤ n) (G : okG Y Y2 c0 c1 fp ca flo lo) (hk : k < c1) (hp : ∃ q : Nat, q ≤ 99 ∧ pl = nI q) (e1 : pl = PL) (e2 : vo = VO) (e3 : wi = WI) (hs : ∀ c, c < 4 → sn c = SN c) (eL : L = L2) : anG farC bE lE tE c0 fp flo pl vo wi sn L k n = anG ofR bE lE tE c0 ca lo PL VO WI SN L2 k n := by
  subst e1 e2 e3 eL
  have h4 := G.1.2
  refine ctF_cg (fun v hv => ?_)
  have h9 := (exG_same (bE := bE) (lE := lE) (tE := tE) (vo := vo) (wi := wi) (ch := 0) (s := sn k) G hp (dgW_ok (n := n) (v := v) (pw_0 hn hv)) hk).2
  (try dsimp only)
  rw [← hs k (by omega), h9]
section AGH
variable {c0 n0 c1 nc c2 : Nat} {fp ca flo lo fx : FN9} {ys : Int32} {Y2 : List Int32 → Bool} {tb : Int32} {fcb : FN9} {nb : Nat} {tl : Int32} {fcl : FN9} {nl : Nat} {tt : Int32} {fct : FN9} {nt : Nat} {bE lE tE : FE} {fmp ma fmv vo fn gn : FN9}
theorem ahn_ok (A : allG c0 c1 nc c2 fp ca flo lo fx ys Y2 tb fcb nb tl fcl nl tt fct nt bE lE tE fmp ma fmv vo fn gn) : okW c0 (nFw fn 12) (nLn fn 11) := by
  obtain ⟨_, _, _, _, _, _, _, _, _, h⟩ := A
  exact h
theorem ahn_same (A : allG c0 c1 nc c2 fp ca flo lo fx ys Y2 tb fcb nb tl fcl nl tt fct nt bE lE tE fmp ma fmv vo fn gn) (e0 : c0 = n0) : ∀ m k n, m < c2 → k < c1 → 1 ≤ n → nI (anG farC (vlC tb fcb nb 3) (vlC tl fcl nl 0) (vlC tt fct nt 0) c0 fp flo (fmp m) (fmv m) (fn 22) (nSn fn) (lsL9 (nFw fn 12) (nLn fn 11)) k n) = nI (anG ofR bE lE tE n0 ca lo (ma m) (vo m) (gn 22) (mSn gn) (lsL9 (mFw gn 10) (mLn gn 21)) k n) := by
  obtain ⟨e, G, ⟨eb, el, et⟩, hm, ⟨w1, w2⟩, _, ⟨l1, l2, l3, l4⟩⟩ := A
  subst e eb el et e0
  intro m k n hq hk hn
  obtain ⟨p1, p2, p3⟩ := hm m hq
  exact congrArg nI (anG_same hn G hk p3 p1 p2 w1 w2 (by rw [l1]; exact lsL9_cg l3))
end AGH
theorem aRh_same {c2 n2 : Nat} {ok ok2 : Prop} {R S : Nat → Int32 → Prop} {xm r r' : Int32} (hc : c2 = n2) (h4 : c2 ≤ 4) (ho : ok) (ho2 : ok2) (hd : ∀ (m : Nat) (r r' : Int32), m < c2 → R m r → S m r' → r = r') (h1 : aRh c2 ok R xm r) (h2 : aRh n2 ok2 S xm r') : r = r' := by
  subst hc
  rcases h1 with ⟨a, b⟩ | ⟨m, a, b, c⟩ <;> rcases h2 with ⟨a', b'⟩ | ⟨m', a', b', c'⟩
  · rw [a, a']
  · exact absurd ⟨m', a', b'⟩ b
  · exact absurd ⟨m, a, b⟩ b'
  · have e := nI_inj (by omega) (by omega) (b.symm.trans b')
    subst e
    exact hd m r r' a (c ho) (c' ho2)
section AGR
variable {c0 n0 c1 nc c2 : Nat} {fp ca flo lo fx : FN9} {ys : Int32} {Y2 : List Int32 → Bool} {tb : Int32} {fcb : FN9} {nb : Nat} {tl : Int32} {fcl : FN9} {nl : Nat} {tt : Int32} {fct : FN9} {nt : Nat} {bE lE tE : FE} {fmp ma fmv vo fn gn : FN9}
theorem rhn_ok (A : allG c0 c1 nc c2 fp ca flo lo fx ys Y2 tb fcb nb tl fcl nl tt fct nt bE lE tE fmp ma fmv vo fn gn) : okW c0 (nFw fn 1) (nLn fn 0) := by
  obtain ⟨_, _, _, _, _, ⟨_, _, _, h⟩, _⟩ := A
  exact h
theorem rhn_ok2 (A : allG c0 c1 nc c2 fp ca flo lo fx ys Y2 tb fcb nb tl fcl nl tt fct nt bE lE tE fmp ma fmv vo fn gn) (e0 : c0 = n0) : okW n0 (mFw gn 0) (mLn gn 20) := by
  obtain ⟨_, _, _, _, _, ⟨l1, _, l3, h⟩, _⟩ := A
  subst e0
  rw [l1]
  intro i hi
  rw [← l3 i hi]
  exact h i hi
theorem rhn_same (A : allG c0 c1 nc c2 fp ca flo lo fx ys Y2 tb fcb nb tl fcl nl tt fct nt bE lE tE fmp ma fmv vo fn gn) (e0 : c0 = n0) : ∀ (m : Nat) (r r' : Int32), m < c2 → rhX c1 fp flo fx ys tb fcb nb tl fcl nl tt fct nt fmp fmv fn c0 m r → rhA (rhC n0 (mLn gn 20) (mFw gn 0) (fun f9 => vdG ofR bE lE tE Y2 nc ca lo (ma m) (vo m) (gn 22) 0 (mSn gn) f9 (mLn gn 20) = 2)) (mLn gn 20) r' → r = r' := by
  obtain ⟨e, G, ⟨eb, el, et⟩, hm, ⟨w1, w2⟩, ⟨l1, l2, l3, l4⟩, _⟩ := A
  subst e eb el et e0
  intro m r r' hq h1 h2
  obtain ⟨p1, p2, p3⟩ := hm m hq
  have h4 := G.1.2
  unfold rhX at h1
  rw [l1] at h2
  refine rhA_det h1 (rhA_cg (fun cg => (rhC_cg l3 (fun f hf => ?_)).symm) h2)
  have e9 : vdX c1 fp flo fx ys tb fcb nb tl fcl nl tt fct nt (fmp m) (fmv m) (fn 22) 0 (nSn fn) f (nLn fn 0) = vdG ofR (vlC tb fcb nb 3) (vlC tl fcl nl 0) (vlC tt fct nt 0) Y2 c1 ca lo (ma m) (vo m) (gn 22) 0 (mSn gn) f (nLn fn 0) := vdG_all (ch := 0) G p3 hf p1 p2 w1 (fun c hc => w2 c (by omega)) rfl (fun _ _ => rfl)
  rw [e9]
end AGR
theorem hly_same {r r' : Int32} {y y2 z z2 : Nat} (hr : r = r') (e : y = z) (h1 : (r = -1 ∧ y2 = y) ∨ (¬ r = -1 ∧ y2 = 0)) (h2 : (r' = -1 ∧ z2 = z) ∨ (¬ r' = -1 ∧ z2 = 0)) : y2 = z2 := by
  subst hr e
  rcases h1 with ⟨a, b⟩ | ⟨a, b⟩ <;> rcases h2 with ⟨c, d⟩ | ⟨c, d⟩
  · rw [b, d]
  · exact absurd a c
  · exact absurd c a
  · rw [b, d]
theorem yc_lt {n : Nat} {k : Nat} (h : n ≤ k) (hk : k < 2 ^ 31 := by decide) : n < 2 ^ 31 := Nat.lt_of_le_of_lt h hk
theorem abV_same {c1 c0 c2 c3 d1 d0 d2 d3 : Nat} {a0 a1 a2 a3 a4 a5 b0 b1 b2 b3 b4 b5 : Int32} {un re uc vn ve vc : Nat} {ut vt : Int32} {tn wn : Nat} {hu gu : Int32} {yc zc : Nat} (e1 : c1 = d1) (e0 : c0 = d0) (e2 : c2 = d2) (e3 : c3 = d3) (f0 : a0 = b0) (f1 : a1 = b1) (f2 : a2 = b2) (f3 : a3 = b3) (f4 : a4 = b4) (f5 : a5 = b5) (g1 : un = vn) (g2 : re = ve) (g3 : uc = vc) (g4 : ut = vt) (g5 : tn = wn) (g6 : hu = gu) (g7 : yc = zc) : ∀ k, k < 17 → abV c1 c0 c2 c3 a0 a1 a2 a3 a4 a5 un re uc ut tn hu yc k = abV d1 d0 d2 d3 b0 b1 b2 b3 b4 b5 vn ve vc vt wn gu zc k := by
  subst e1 e0 e2 e3 f0 f1 f2 f3 f4 f5 g1 g2 g3 g4 g5 g6 g7
  exact fun _ _ => rfl
abbrev TXl (u : XS) : LXT := ((u.2.1 7), (u.2.1 12), (u.2.2.2.2.1 9), (u.1 89), (u.2.1 13), (u.2.2.2.2.1 11), (u.1 90), (u.2.1 14), (u.2.2.2.2.1 13), (u.1 91))
abbrev TMl (v : XS) : LMT := ((v.2.2.2.2.1 10), (v.2.2.2.2.1 4), (v.2.2.2.2.1 5), (v.2.2.2.2.2.2.1 1), (v.2.2.2.2.1 25))
