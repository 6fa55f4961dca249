def mL28 : List (Option Cond) := [some (Cond.selects RX12 yX12_leadsTo yX12_leadsTo), some (Cond.selects RX12 yX12_loadSky yX12_loadSky), some (Cond.selects RX12 yX12_loadCry yX12_loadCry), some (Cond.selects RX12 yX12_loadMan yX12_loadMan), some (Cond.selects RX12 yX12_bindsAtHand yX12_bindsAtHand), some (Cond.selects RX12 yX12_sendFrom yX12_sendFrom), some (Cond.selects RX12 yX12_addEcho yX12_addEcho), some (Cond.selects RX12 yX12_farOf yX12_farOf), some (Cond.selects RX12 yX12_backOf yX12_backOf), some (Cond.selects RX12 yX12_askOf yX12_askOf), some (Cond.selects RX12 yX12_worked yX12_worked), some (Cond.selects RX12 yX12_isLost yX12_isLost), some (Cond.selects RX12 yX12_isYes yX12_isYes), some (Cond.fieldLink RX12 30 "CliffJudgesModel" "step" "[I"), some (Cond.fieldLink RX12 33 "CliffJudgesModel" "arg" "[I"), some (Cond.fieldLink RX12 36 "CliffJudgesModel" "many" "[I"), some (Cond.fieldLink RX12 42 "CliffJudgesModel" "values" "[I"), some (Cond.fieldLink RX12 49 "CliffJudgesModel" "hasForm" "[Z"), some (Cond.fieldLink RX12 52 "CliffJudgesModel" "asks" "[I"), some (Cond.fieldLink RX12 73 "CliffJudgesModel" "loud" "[I"), some (Cond.fieldLink RX12 76 "CliffJudgesModel" "cliffAt" "[I"), some (Cond.fieldLink RX12 82 "CliffJudgesModel" "manAt" "[I"), some (Cond.fieldLink RX12 85 "CliffJudgesModel" "voice" "[I"), some (Cond.fieldLink RX12 88 "CliffJudgesModel" "on" "[I"), some (Cond.fieldLink RX12 94 "CliffJudgesModel" "yes" "[Z"), some (Cond.fieldLink RX12 403 "CliffJudgesModel" "words" "I"), some (Cond.fieldLink RX12 406 "CliffJudgesModel" "cliffs" "I"), some (Cond.fieldLink RX12 409 "CliffJudgesModel" "men" "I"), some (Cond.fieldLink RX12 412 "CliffJudgesModel" "states" "I"), some (Cond.fieldLink RX12 97 "CliffJudgesModel" "now" "[I"), some (Cond.fieldLink RX12 100 "CliffJudgesModel" "cry" "[I"), some (Cond.fieldLink RX12 103 "CliffJudgesModel" "snow" "[I"), some (Cond.fieldLink RX12 106 "CliffJudgesModel" "echo" "[I"), some (Cond.fieldLink RX12 446 "CliffJudgesModel" "cryMany" "I"), some (Cond.fieldLink RX12 449 "CliffJudgesModel" "callPlace" "I"), some (Cond.fieldLink RX12 452 "CliffJudgesModel" "callVoice" "I"), some (Cond.fieldLink RX12 440 "CliffJudgesModel" "wind" "I"), some (Cond.fieldLink RX12 443 "CliffJudgesModel" "chance" "I"), some (Cond.fieldLink RX12 477 "CliffJudgesModel" "echoMany" "I"), some (Cond.methodLink RX12 436 yX12_isIn), some (Cond.static yX12_isIn), some (Cond.code yX12_isIn cX12_isIn 3 (some .boolean)), some (Cond.methodLink RX12 491 yX12_leadsTo), some (Cond.instanceMethod yX12_leadsTo), some (Cond.code yX12_leadsTo cX12_leadsTo 3 (some .int)), some (Cond.methodLink RX12 455 yX12_loadSky), some (Cond.instanceMethod yX12_loadSky), some (Cond.code yX12_loadSky cX12_loadSky 2 none), some (Cond.methodLink RX12 458 yX12_loadCry), some (Cond.instanceMethod yX12_loadCry), some (Cond.code yX12_loadCry cX12_loadCry 3 none), some (Cond.methodLink RX12 461 yX12_loadMan), some (Cond.instanceMethod yX12_loadMan), some (Cond.code yX12_loadMan cX12_loadMan 2 none), some (Cond.methodLink RX12 497 yX12_bindsAtHand), some (Cond.instanceMethod yX12_bindsAtHand), some (Cond.code yX12_bindsAtHand cX12_bindsAtHand 3 (some .int)), some (Cond.methodLink RX12 494 yX12_sendFrom), some (Cond.instanceMethod yX12_sendFrom), some (Cond.code yX12_sendFrom cX12_sendFrom 2 none), some (Cond.methodLink RX12 488 yX12_addEcho), some (Cond.instanceMethod yX12_addEcho), some (Cond.code yX12_addEcho cX12_addEcho 6 none), some (Cond.methodLink RX12 474 yX12_farOf), some (Cond.instanceMethod yX12_farOf), some (Cond.code yX12_farOf cX12_farOf 2 (some .int)), some (Cond.methodLink RX12 464 yX12_off), some (Cond.static yX12_off), some (Cond.code yX12_off cX12_off 2 (some .int)), some (Cond.methodLink RX12 480 yX12_backOf), some (Cond.instanceMethod yX12_backOf), some (Cond.code yX12_backOf cX12_backOf 6 (some .int)), some (Cond.methodLink RX12 467 yX12_askOf), some (Cond.instanceMethod yX12_askOf), some (Cond.code yX12_askOf cX12_askOf 5 none), some (Cond.methodLink RX12 471 yX12_worked), some (Cond.instanceMethod yX12_worked), some (Cond.code yX12_worked cX12_worked 4 (some .int)), some (Cond.methodLink RX12 333 yX12_truth), some (Cond.static yX12_truth), some (Cond.code yX12_truth cX12_truth 1 (some .int)), some (Cond.methodLink RX12 337 yX12_done), some (Cond.static yX12_done), some (Cond.code yX12_done cX12_done 3 (some .int)), some (Cond.methodLink RX12 484 yX12_isLost), some (Cond.instanceMethod yX12_isLost), some (Cond.code yX12_isLost cX12_isLost 3 (some .boolean)), some (Cond.methodLink RX12 500 yX12_isYes), some (Cond.instanceMethod yX12_isYes), some (Cond.code yX12_isYes cX12_isYes 3 (some .boolean))]
set_option maxRecDepth 100000 in
theorem mP28 : pick [100, 3, 1, 1, 2, 1, 1, 1, 1, 1, 1, 1, 1, 1312, 1, 1, 2, 2, 7, 7, 1, 2, 1, 1, 2, 8, 1, 1, 1, 5, 1, 1, 1, 1, 1, 1, 1, 1, 1, 395, 1, 1, 21, 2, 1, 28, 2, 1, 1, 2, 1, 1, 2, 1, 5, 2, 1, 1, 2, 1, 1, 2, 1, 1, 2, 1, 1, 1, 1, 1, 2, 1, 1, 2, 1, 1, 2, 1, 1, 1, 1, 1, 1, 1, 1, 2, 1, 1, 2, 1] lw_tbl = mL28 := rfl
set_option maxRecDepth 100000 in
theorem mG28 : mL28.all (fun o => o.all goodWord) = true := rfl
theorem m_100 : (Cond.selects RX12 yX12_leadsTo yX12_leadsTo) ∈ gT := gp mP28 mG28 0 rfl
theorem m_103 : (Cond.selects RX12 yX12_loadSky yX12_loadSky) ∈ gT := gp mP28 mG28 1 rfl
theorem m_104 : (Cond.selects RX12 yX12_loadCry yX12_loadCry) ∈ gT := gp mP28 mG28 2 rfl
theorem m_105 : (Cond.selects RX12 yX12_loadMan yX12_loadMan) ∈ gT := gp mP28 mG28 3 rfl
theorem m_107 : (Cond.selects RX12 yX12_bindsAtHand yX12_bindsAtHand) ∈ gT := gp mP28 mG28 4 rfl
theorem m_108 : (Cond.selects RX12 yX12_sendFrom yX12_sendFrom) ∈ gT := gp mP28 mG28 5 rfl
theorem m_109 : (Cond.selects RX12 yX12_addEcho yX12_addEcho) ∈ gT := gp mP28 mG28 6 rfl
theorem m_110 : (Cond.selects RX12 yX12_farOf yX12_farOf) ∈ gT := gp mP28 mG28 7 rfl
theorem m_111 : (Cond.selects RX12 yX12_backOf yX12_backOf) ∈ gT := gp mP28 mG28 8 rfl
theorem m_112 : (Cond.selects RX12 yX12_askOf yX12_askOf) ∈ gT := gp mP28 mG28 9 rfl
theorem m_113 : (Cond.selects RX12 yX12_worked yX12_worked) ∈ gT := gp mP28 mG28 10 rfl
theorem m_114 : (Cond.selects RX12 yX12_isLost yX12_isLost) ∈ gT := gp mP28 mG28 11 rfl
theorem m_115 : (Cond.selects RX12 yX12_isYes yX12_isYes) ∈ gT := gp mP28 mG28 12 rfl
theorem m_1427 : (Cond.fieldLink RX12 30 "CliffJudgesModel" "step" "[I") ∈ gT := gp mP28 mG28 13 rfl
theorem m_1428 : (Cond.fieldLink RX12 33 "CliffJudgesModel" "arg" "[I") ∈ gT := gp mP28 mG28 14 rfl
theorem m_1429 : (Cond.fieldLink RX12 36 "CliffJudgesModel" "many" "[I") ∈ gT := gp mP28 mG28 15 rfl
theorem m_1431 : (Cond.fieldLink RX12 42 "CliffJudgesModel" "values" "[I") ∈ gT := gp mP28 mG28 16 rfl
theorem m_1433 : (Cond.fieldLink RX12 49 "CliffJudgesModel" "hasForm" "[Z") ∈ gT := gp mP28 mG28 17 rfl
theorem m_1440 : (Cond.fieldLink RX12 52 "CliffJudgesModel" "asks" "[I") ∈ gT := gp mP28 mG28 18 rfl
theorem m_1447 : (Cond.fieldLink RX12 73 "CliffJudgesModel" "loud" "[I") ∈ gT := gp mP28 mG28 19 rfl
theorem m_1448 : (Cond.fieldLink RX12 76 "CliffJudgesModel" "cliffAt" "[I") ∈ gT := gp mP28 mG28 20 rfl
theorem m_1450 : (Cond.fieldLink RX12 82 "CliffJudgesModel" "manAt" "[I") ∈ gT := gp mP28 mG28 21 rfl
theorem m_1451 : (Cond.fieldLink RX12 85 "CliffJudgesModel" "voice" "[I") ∈ gT := gp mP28 mG28 22 rfl
theorem m_1452 : (Cond.fieldLink RX12 88 "CliffJudgesModel" "on" "[I") ∈ gT := gp mP28 mG28 23 rfl
theorem m_1454 : (Cond.fieldLink RX12 94 "CliffJudgesModel" "yes" "[Z") ∈ gT := gp mP28 mG28 24 rfl
theorem m_1462 : (Cond.fieldLink RX12 403 "CliffJudgesModel" "words" "I") ∈ gT := gp mP28 mG28 25 rfl
theorem m_1463 : (Cond.fieldLink RX12 406 "CliffJudgesModel" "cliffs" "I") ∈ gT := gp mP28 mG28 26 rfl
theorem m_1464 : (Cond.fieldLink RX12 409 "CliffJudgesModel" "men" "I") ∈ gT := gp mP28 mG28 27 rfl
theorem m_1465 : (Cond.fieldLink RX12 412 "CliffJudgesModel" "states" "I") ∈ gT := gp mP28 mG28 28 rfl
theorem m_1470 : (Cond.fieldLink RX12 97 "CliffJudgesModel" "now" "[I") ∈ gT := gp mP28 mG28 29 rfl
theorem m_1471 : (Cond.fieldLink RX12 100 "CliffJudgesModel" "cry" "[I") ∈ gT := gp mP28 mG28 30 rfl
theorem m_1472 : (Cond.fieldLink RX12 103 "CliffJudgesModel" "snow" "[I") ∈ gT := gp mP28 mG28 31 rfl
theorem m_1473 : (Cond.fieldLink RX12 106 "CliffJudgesModel" "echo" "[I") ∈ gT := gp mP28 mG28 32 rfl
theorem m_1474 : (Cond.fieldLink RX12 446 "CliffJudgesModel" "cryMany" "I") ∈ gT := gp mP28 mG28 33 rfl
theorem m_1475 : (Cond.fieldLink RX12 449 "CliffJudgesModel" "callPlace" "I") ∈ gT := gp mP28 mG28 34 rfl
theorem m_1476 : (Cond.fieldLink RX12 452 "CliffJudgesModel" "callVoice" "I") ∈ gT := gp mP28 mG28 35 rfl
theorem m_1477 : (Cond.fieldLink RX12 440 "CliffJudgesModel" "wind" "I") ∈ gT := gp mP28 mG28 36 rfl
theorem m_1478 : (Cond.fieldLink RX12 443 "CliffJudgesModel" "chance" "I") ∈ gT := gp mP28 mG28 37 rfl
theorem m_1479 : (Cond.fieldLink RX12 477 "CliffJudgesModel" "echoMany" "I") ∈ gT := gp mP28 mG28 38 rfl
theorem m_1874 : (Cond.methodLink RX12 436 yX12_isIn) ∈ gT := gp mP28 mG28 39 rfl
theorem m_1875 : (Cond.static yX12_isIn) ∈ gT := gp mP28 mG28 40 rfl
theorem m_1876 : (Cond.code yX12_isIn cX12_isIn 3 (some .boolean)) ∈ gT := gp mP28 mG28 41 rfl
theorem m_1897 : (Cond.methodLink RX12 491 yX12_leadsTo) ∈ gT := gp mP28 mG28 42 rfl
theorem m_1899 : (Cond.instanceMethod yX12_leadsTo) ∈ gT := gp mP28 mG28 43 rfl
theorem m_1900 : (Cond.code yX12_leadsTo cX12_leadsTo 3 (some .int)) ∈ gT := gp mP28 mG28 44 rfl
theorem m_1928 : (Cond.methodLink RX12 455 yX12_loadSky) ∈ gT := gp mP28 mG28 45 rfl
theorem m_1930 : (Cond.instanceMethod yX12_loadSky) ∈ gT := gp mP28 mG28 46 rfl
theorem m_1931 : (Cond.code yX12_loadSky cX12_loadSky 2 none) ∈ gT := gp mP28 mG28 47 rfl
theorem m_1932 : (Cond.methodLink RX12 458 yX12_loadCry) ∈ gT := gp mP28 mG28 48 rfl
theorem m_1934 : (Cond.instanceMethod yX12_loadCry) ∈ gT := gp mP28 mG28 49 rfl
theorem m_1935 : (Cond.code yX12_loadCry cX12_loadCry 3 none) ∈ gT := gp mP28 mG28 50 rfl
theorem m_1936 : (Cond.methodLink RX12 461 yX12_loadMan) ∈ gT := gp mP28 mG28 51 rfl
theorem m_1938 : (Cond.instanceMethod yX12_loadMan) ∈ gT := gp mP28 mG28 52 rfl
theorem m_1939 : (Cond.code yX12_loadMan cX12_loadMan 2 none) ∈ gT := gp mP28 mG28 53 rfl
theorem m_1944 : (Cond.methodLink RX12 497 yX12_bindsAtHand) ∈ gT := gp mP28 mG28 54 rfl
theorem m_1946 : (Cond.instanceMethod yX12_bindsAtHand) ∈ gT := gp mP28 mG28 55 rfl
theorem m_1947 : (Cond.code yX12_bindsAtHand cX12_bindsAtHand 3 (some .int)) ∈ gT := gp mP28 mG28 56 rfl
theorem m_1948 : (Cond.methodLink RX12 494 yX12_sendFrom) ∈ gT := gp mP28 mG28 57 rfl
theorem m_1950 : (Cond.instanceMethod yX12_sendFrom) ∈ gT := gp mP28 mG28 58 rfl
theorem m_1951 : (Cond.code yX12_sendFrom cX12_sendFrom 2 none) ∈ gT := gp mP28 mG28 59 rfl
theorem m_1952 : (Cond.methodLink RX12 488 yX12_addEcho) ∈ gT := gp mP28 mG28 60 rfl
theorem m_1954 : (Cond.instanceMethod yX12_addEcho) ∈ gT := gp mP28 mG28 61 rfl
theorem m_1955 : (Cond.code yX12_addEcho cX12_addEcho 6 none) ∈ gT := gp mP28 mG28 62 rfl
theorem m_1956 : (Cond.methodLink RX12 474 yX12_farOf) ∈ gT := gp mP28 mG28 63 rfl
theorem m_1958 : (Cond.instanceMethod yX12_farOf) ∈ gT := gp mP28 mG28 64 rfl
theorem m_1959 : (Cond.code yX12_farOf cX12_farOf 2 (some .int)) ∈ gT := gp mP28 mG28 65 rfl
theorem m_1960 : (Cond.methodLink RX12 464 yX12_off) ∈ gT := gp mP28 mG28 66 rfl
theorem m_1961 : (Cond.static yX12_off) ∈ gT := gp mP28 mG28 67 rfl
theorem m_1962 : (Cond.code yX12_off cX12_off 2 (some .int)) ∈ gT := gp mP28 mG28 68 rfl
theorem m_1963 : (Cond.methodLink RX12 480 yX12_backOf) ∈ gT := gp mP28 mG28 69 rfl
theorem m_1965 : (Cond.instanceMethod yX12_backOf) ∈ gT := gp mP28 mG28 70 rfl
theorem m_1966 : (Cond.code yX12_backOf cX12_backOf 6 (some .int)) ∈ gT := gp mP28 mG28 71 rfl
theorem m_1967 : (Cond.methodLink RX12 467 yX12_askOf) ∈ gT := gp mP28 mG28 72 rfl
theorem m_1969 : (Cond.instanceMethod yX12_askOf) ∈ gT := gp mP28 mG28 73 rfl
theorem m_1970 : (Cond.code yX12_askOf cX12_askOf 5 none) ∈ gT := gp mP28 mG28 74 rfl
theorem m_1971 : (Cond.methodLink RX12 471 yX12_worked) ∈ gT := gp mP28 mG28 75 rfl
theorem m_1973 : (Cond.instanceMethod yX12_worked) ∈ gT := gp mP28 mG28 76 rfl
theorem m_1974 : (Cond.code yX12_worked cX12_worked 4 (some .int)) ∈ gT := gp mP28 mG28 77 rfl
theorem m_1975 : (Cond.methodLink RX12 333 yX12_truth) ∈ gT := gp mP28 mG28 78 rfl
theorem m_1976 : (Cond.static yX12_truth) ∈ gT := gp mP28 mG28 79 rfl
theorem m_1977 : (Cond.code yX12_truth cX12_truth 1 (some .int)) ∈ gT := gp mP28 mG28 80 rfl
theorem m_1978 : (Cond.methodLink RX12 337 yX12_done) ∈ gT := gp mP28 mG28 81 rfl
theorem m_1979 : (Cond.static yX12_done) ∈ gT := gp mP28 mG28 82 rfl
theorem m_1980 : (Cond.code yX12_done cX12_done 3 (some .int)) ∈ gT := gp mP28 mG28 83 rfl
theorem m_1981 : (Cond.methodLink RX12 484 yX12_isLost) ∈ gT := gp mP28 mG28 84 rfl
theorem m_1983 : (Cond.instanceMethod yX12_isLost) ∈ gT := gp mP28 mG28 85 rfl
theorem m_1984 : (Cond.code yX12_isLost cX12_isLost 3 (some .boolean)) ∈ gT := gp mP28 mG28 86 rfl
theorem m_1985 : (Cond.methodLink RX12 500 yX12_isYes) ∈ gT := gp mP28 mG28 87 rfl
theorem m_1987 : (Cond.instanceMethod yX12_isYes) ∈ gT := gp mP28 mG28 88 rfl
theorem m_1988 : (Cond.code yX12_isYes cX12_isYes 3 (some .boolean)) ∈ gT := gp mP28 mG28 89 rfl
/-- one entry of a kept moment: a WORD, a CRY's length, or anything -/
def eltOK (k : Nat) (x : Int32) : Prop := (k < 20 → ∃ j : Nat, j ≤ 7 ∧ x = nI j) ∧ (20 ≤ k → k < 22 → ∃ j : Nat, j ≤ 10 ∧ x = nI j)
def wRows (f : Nat → Int32) (n : Nat) : Prop := ∀ q, q < 42 * n → eltOK (q % 42) (f q)
theorem elt_nat {k j : Nat} (h : (k < 20 → j ≤ 7) ∧ (20 ≤ k → k < 22 → j ≤ 10)) : eltOK k (nI j) := ⟨fun h9 => ⟨j, h.1 h9, rfl⟩, fun h8 h9 => ⟨j, h.2 h8 h9, rfl⟩⟩
theorem elt_rest {k : Nat} {x : Int32} (h : 22 ≤ k) : eltOK k x := ⟨fun h9 => absurd h9 (by omega), fun _ h9 => absurd h9 (by omega)⟩
theorem elt_0 {k : Nat} : eltOK k 0 := elt_nat (j := 0) ⟨fun _ => by omega, fun _ _ => by omega⟩
theorem wR_put {f : Nat → Int32} {n T : Nat} {z x : Int32} (h : wRows f n) (hz : z.toNatClampNeg = T) (hx : eltOK (T % 42) x) : wRows (upd f z.toNatClampNeg x) n := by
  rw [hz]
  intro q hq
  by_cases e : q = T
  · rw [e, pk_us]; exact hx
  · rw [pk_un e]; exact h q hq
theorem wR_at {f : Nat → Int32} {n T : Nat} {z x : Int32} (h : wRows f n) (hz : z.toNatClampNeg = T) (hT : T < 42 * n) (ex : x = f z.toNatClampNeg) : eltOK (T % 42) x := by
  rw [hz] at ex; rw [ex]; exact h T hT
theorem wR_z {n : Nat} : wRows (fun _ => 0) n := fun _ _ => elt_0
theorem wR_word {f : Nat → Int32} {n T : Nat} {z : Int32} (h : wRows f n) (hz : z.toNatClampNeg = T) (hT : T < 42 * n) (hw : T % 42 < 20) : ∃ j : Nat, j ≤ 7 ∧ f z.toNatClampNeg = nI j := (wR_at h hz hT rfl).1 hw
theorem wR_len {f : Nat → Int32} {n T : Nat} {z : Int32} (h : wRows f n) (hz : z.toNatClampNeg = T) (hT : T < 42 * n) (hw : 20 ≤ T % 42 ∧ T % 42 < 22) : ∃ j : Nat, j ≤ 10 ∧ f z.toNatClampNeg = nI j := (wR_at h hz hT rfl).2 hw.1 hw.2
theorem keep_at {f g : Nat → Int32} {z : Int32} {T q : Nat} {x v : Int32} (e : upd f z.toNatClampNeg x = g) (hz : z.toNatClampNeg = T) (hne : q ≠ T) (ej : f q = v) : g q = v := by
  rw [← e, hz, pk_un hne]; exact ej
theorem isin_lt {ix : Int32} {n : Nat} (hn : n < 2 ^ 31) (h0 : ¬ ix < 0) (h1 : ¬ (nI n - 1) < ix) : ∃ j : Nat, j < n ∧ ix = nI j := by
  obtain ⟨j, hj, e⟩ := nI_of h0
  rcases Nat.eq_zero_or_pos n with h | h
  · subst h
    exact absurd (by rw [e, fa_lt, nI_toInt hj]; rw [show (nI 0 - 1).toInt = -1 by decide]; omega) h1
  · refine ⟨j, ?_, e⟩
    have h9 := nI_pred (n - 1)
    rw [Nat.sub_add_cancel h] at h9
    rw [h9, e] at h1
    have := mt (nI_ltI (by omega) hj).mpr h1
    omega
theorem rem_in {a d : Nat} (ha : a < 2 ^ 31) (hd : 0 < d) (hd2 : d < 2 ^ 31) : ∃ r : Nat, r < d ∧ nI a - nI a / nI d * nI d = nI r := ⟨a % d, Nat.mod_lt _ hd, pk_rem ha hd hd2⟩
theorem div_in {a d : Nat} (ha : a < 2 ^ 31) (hd : 0 < d) (hd2 : d < 2 ^ 31) : ∃ q : Nat, q ≤ a ∧ nI a / nI d = nI q := ⟨a / d, Nat.div_le_self _ _, pk_div ha hd hd2⟩
theorem nz_nI {d : Nat} (h0 : 0 < d) (hd : d < 2 ^ 31) : ¬ nI d = 0 := fun h => absurd (q_eq (a := d) (b := 0) rfl rfl hd (by decide) h) (by omega)
theorem neg_le {y : Int32} {a : Nat} (ha : a < 2 ^ 31) (hy : y < 0) : y ≤ nI a := by
  rw [fa_le, nI_toInt ha]
  rw [fa_lt] at hy
  have z0 : (0 : Int32).toInt = 0 := by decide
  omega
theorem nxT_at {f : Nat → Int32} {T : Nat} {x : Int32} (h : nxT f) (hT : T < 48) (ex : x = f (nI T).toNatClampNeg) : x = -1 ∨ ∃ j : Nat, j ≤ 5 ∧ x = nI j := by
  rw [nI_clamp (by omega)] at ex; rw [ex]; exact h T hT
theorem nxT_cp {f : Nat → Int32} {k : Nat} {x : Int32} (h : nxT f) (hx : x = -1 ∨ ∃ j : Nat, j ≤ 5 ∧ x = nI j) : nxT (upd f k x) := by
  intro i hi
  by_cases e : i = k
  · rw [e, pk_us]; exact hx
  · rw [pk_un e]; exact h i hi
theorem sw_lo (x : Int32) (lo hi : Nat) (h : hi < 2 ^ 31) (hl : lo ≤ hi) : (x.toInt < lo ∨ (hi : Int) < x.toInt) ∨ ∃ j : Nat, lo ≤ j ∧ j ≤ hi ∧ x = nI j := by
  by_cases h1 : x < nI lo
  · rw [fa_lt, nI_toInt (by omega)] at h1; exact Or.inl (Or.inl h1)
  · by_cases h2 : nI hi < x
    · rw [fa_lt, nI_toInt h] at h2; exact Or.inl (Or.inr h2)
    · exact Or.inr (btw (by omega) h h1 h2)
theorem inR_isin {ix : Int32} {n : Nat} (hn : n < 2 ^ 31) (h : ix < 0 ∨ nI n - 1 < ix) : ¬ inR ix n := by
  rintro ⟨j, hj, e⟩
  rcases h with h | h
  · exact nI_pos (n := j) (by omega) (e ▸ h)
  · have h9 := nI_pred (n - 1)
    rw [Nat.sub_add_cancel (by omega)] at h9
    rw [h9, e] at h
    have := (nI_ltI (by omega) (by omega)).mp h
    omega
theorem inR_box {ix : Int32} (h : ix < 0 ∨ ¬ ix < 3) : ¬ inR ix 3 := by
  rintro ⟨j, hj, e⟩
  rcases h with h | h
  · exact nI_pos (n := j) (by omega) (e ▸ h)
  · exact h (by rw [e]; exact (nI_ltI (b := 3) (by omega) (by omega)).mpr hj)
/-- where a WORD leads, of the row of ONS -/
def nxR (g : Nat → Int32) (s w : Nat) : Int32 := if g (8 * s + w) = -1 then nI s else g (8 * s + w)
theorem nxR_is {g : Nat → Int32} {s w : Nat} {x : Int32} (hs : s ≤ 5) (hw : w ≤ 7) (ex : x = g (nI (8 * s + w)).toNatClampNeg) (h : x = -1) : nI s = nxR g s w := by
  rw [nI_clamp (by omega)] at ex
  unfold nxR
  rw [if_pos (ex ▸ h)]
theorem nxR_no {g : Nat → Int32} {s w : Nat} {x r : Int32} (hs : s ≤ 5) (hw : w ≤ 7) (ex : x = g (nI (8 * s + w)).toNatClampNeg) (h : ¬ x = -1) (er : r = g (nI (8 * s + w)).toNatClampNeg) : r = nxR g s w := by
  rw [nI_clamp (by omega)] at ex er
  unfold nxR
  rw [if_neg (fun h9 => h (ex.trans h9))]
  exact er
theorem gdX12_isIn_0 : decode cX12_isIn 0 = .ok (.iload_n 0, 1) ∧ decode cX12_isIn 1 = .ok (.iload_n 1, 1) ∧ decode cX12_isIn 2 = .ok (.if_icmp .lt 12, 3) ∧ decode cX12_isIn 14 = .ok (.iconst 0, 1) ∧ decode cX12_isIn 15 = .ok (.ireturn, 1) ∧ decode cX12_isIn 5 = .ok (.iload_n 0, 1) ∧ decode cX12_isIn 6 = .ok (.iload_n 2, 1) ∧ decode cX12_isIn 7 = .ok (.if_icmp .gt 7, 3) ∧ decode cX12_isIn 10 = .ok (.iconst 1, 1) ∧ decode cX12_isIn 11 = .ok (.goto 4, 3) := by decide +kernel
theorem dX12_isIn_0 : decode cX12_isIn 0 = .ok (.iload_n 0, 1) := gdX12_isIn_0.1
theorem dX12_isIn_1 : decode cX12_isIn 1 = .ok (.iload_n 1, 1) := gdX12_isIn_0.2.1
theorem dX12_isIn_2 : decode cX12_isIn 2 = .ok (.if_icmp .lt 12, 3) := gdX12_isIn_0.2.2.1
theorem dX12_isIn_14 : decode cX12_isIn 14 = .ok (.iconst 0, 1) := gdX12_isIn_0.2.2.2.1
theorem dX12_isIn_15 : decode cX12_isIn 15 = .ok (.ireturn, 1) := gdX12_isIn_0.2.2.2.2.1
theorem dX12_isIn_5 : decode cX12_isIn 5 = .ok (.iload_n 0, 1) := gdX12_isIn_0.2.2.2.2.2.1
theorem dX12_isIn_6 : decode cX12_isIn 6 = .ok (.iload_n 2, 1) := gdX12_isIn_0.2.2.2.2.2.2.1
theorem dX12_isIn_7 : decode cX12_isIn 7 = .ok (.if_icmp .gt 7, 3) := gdX12_isIn_0.2.2.2.2.2.2.2.1
theorem dX12_isIn_10 : decode cX12_isIn 10 = .ok (.iconst 1, 1) := gdX12_isIn_0.2.2.2.2.2.2.2.2.1
theorem dX12_isIn_11 : decode cX12_isIn 11 = .ok (.goto 4, 3) := gdX12_isIn_0.2.2.2.2.2.2.2.2.2
set_option maxHeartbeats 1000000 in
set_option maxRecDepth 100000 in
theorem r_isIn (l : Launch) (D : va_G) (cy : Nat → ClassId) (va : Int32) (vb : Int32) (vc : Int32)  : XMi l D (tyL cy) E0 yX12_isIn cX12_isIn 3 (some .boolean) (rmk 0 0 0) [.int va, .int vb, .int vc] [] (fun (r : Int32) (_ : Unit) => (r = 0 ∨ r = 1) ∧ (r = 0 ∨ (r = 1 ∧ ¬ va < vb ∧ ¬ vc < va)) ∧ (r = 0 → (va < vb ∨ vc < va))) (fun (_ : Unit) => []) := by
  refine XMi.start (by decide) (Nat.le_of_ble_eq_true rfl) ?_
  intro p e s m below meth c args A ls Q hat hQ
  obtain ⟨hx, hb, hr, hml, hown, hg, hlocks, hin, hK, hA, hP, hD, hS, hE, hl⟩ := hat
  have hown : s.vm.findClass RX12 = some m.cls := hown
  have hl : lv_has ls 3 [(0, .int va), (1, .int vb), (2, .int vc)] := hl
  refine lv_iload_n hx hb dX12_isIn_0 rfl (lv_at hl 0 rfl) ?_
  refine lv_iload_n hx hb dX12_isIn_1 rfl (lv_at hl 1 rfl) ?_
  refine lv_icmp_lt (tgt := 14) hx hb dX12_isIn_2 (by decide) (fun c_2 => ?_) (fun c_2 => ?_)
  · refine lv_iconst (v := 0) hx hb dX12_isIn_14 (by decide) ?_
    exact x_zret hQ hx hb hr hlocks hK hP hD hS rfl dX12_isIn_15 () (⟨(Or.inl rfl), (show (0 : Int32) = 0 ∨ ((0 : Int32) = 1 ∧ ¬ va < vb ∧ ¬ vc < va) from Or.inl rfl), (show (0 : Int32) = 0 → (va < vb ∨ vc < va) from fun _ => Or.inl c_2)⟩) [] (by decide +kernel) rfl (Nat.le_of_ble_eq_true rfl) (Nat.le_of_ble_eq_true rfl)
  · refine lv_iload_n hx hb dX12_isIn_5 rfl (lv_at hl 0 rfl) ?_
    refine lv_iload_n hx hb dX12_isIn_6 rfl (lv_at hl 2 rfl) ?_
    refine lv_icmp_gt (tgt := 14) hx hb dX12_isIn_7 (by decide) (fun c_7 => ?_) (fun c_7 => ?_)
    · refine lv_iconst (v := 0) hx hb dX12_isIn_14 (by decide) ?_
      exact x_zret hQ hx hb hr hlocks hK hP hD hS rfl dX12_isIn_15 () (⟨(Or.inl rfl), (show (0 : Int32) = 0 ∨ ((0 : Int32) = 1 ∧ ¬ va < vb ∧ ¬ vc < va) from Or.inl rfl), (show (0 : Int32) = 0 → (va < vb ∨ vc < va) from fun _ => Or.inr c_7)⟩) [] (by decide +kernel) rfl (Nat.le_of_ble_eq_true rfl) (Nat.le_of_ble_eq_true rfl)
    · refine lv_iconst (v := 1) hx hb dX12_isIn_10 (by decide) ?_
      refine lv_goto (tgt := 15) hx hb dX12_isIn_11 (by decide) ?_
      exact x_zret hQ hx hb hr hlocks hK hP hD hS rfl dX12_isIn_15 () (⟨(Or.inr rfl), (show (1 : Int32) = 0 ∨ ((1 : Int32) = 1 ∧ ¬ va < vb ∧ ¬ vc < va) from Or.inr ⟨rfl, c_2, c_7⟩), (show (1 : Int32) = 0 → (va < vb ∨ vc < va) from fun h9 => absurd h9 (by decide))⟩) [] (by decide +kernel) rfl (Nat.le_of_ble_eq_true rfl) (Nat.le_of_ble_eq_true rfl)
theorem gdX12_isCliff_0 : decode cX12_isCliff 0 = .ok (.iload_n 1, 1) ∧ decode cX12_isCliff 1 = .ok (.iconst 0, 1) ∧ decode cX12_isCliff 2 = .ok (.aload_n 0, 1) ∧ decode cX12_isCliff 3 = .ok (.getfield 406, 3) ∧ decode cX12_isCliff 6 = .ok (.iconst 1, 1) ∧ decode cX12_isCliff 7 = .ok (.isub, 1) ∧ decode cX12_isCliff 8 = .ok (.invokestatic 436, 3) := by decide +kernel
theorem dX12_isCliff_0 : decode cX12_isCliff 0 = .ok (.iload_n 1, 1) := gdX12_isCliff_0.1
theorem dX12_isCliff_1 : decode cX12_isCliff 1 = .ok (.iconst 0, 1) := gdX12_isCliff_0.2.1
theorem dX12_isCliff_2 : decode cX12_isCliff 2 = .ok (.aload_n 0, 1) := gdX12_isCliff_0.2.2.1
theorem dX12_isCliff_3 : decode cX12_isCliff 3 = .ok (.getfield 406, 3) := gdX12_isCliff_0.2.2.2.1
theorem dX12_isCliff_6 : decode cX12_isCliff 6 = .ok (.iconst 1, 1) := gdX12_isCliff_0.2.2.2.2.1
theorem dX12_isCliff_7 : decode cX12_isCliff 7 = .ok (.isub, 1) := gdX12_isCliff_0.2.2.2.2.2.1
theorem dX12_isCliff_8 : decode cX12_isCliff 8 = .ok (.invokestatic 436, 3) := gdX12_isCliff_0.2.2.2.2.2.2
theorem k_X12_436 : xS RX12 436 yX12_isIn cX12_isIn 3 (some .boolean) 3 := ⟨⟨m_1874, m_1875, m_146, m_1876⟩, by decide, by decide, by decide +kernel⟩
theorem dX12_isCliff_11 : decode cX12_isCliff 11 = .ok (.ireturn, 1) := by decide +kernel
set_option maxHeartbeats 1000000 in
set_option maxRecDepth 100000 in
theorem r_isCliff (l : Launch) (D : va_G) (cy : Nat → ClassId) (m0 : Nat) (Mtape : Nat) (MnName : Nat) (MnStep : Nat) (MnArg : Nat) (MnMany : Nat) (Mstep : Nat) (Marg : Nat) (Mmany : Nat) (Mopen : Nat) (Mvalues : Nat) (MnHasForm : Nat) (MhasForm : Nat) (Masks : Nat) (MnLoud : Nat) (MnCliffAt : Nat) (MnSnow : Nat) (MnManAt : Nat) (MnVoice : Nat) (MnOn : Nat) (Mloud : Nat) (McliffAt : Nat) (MsnowTold : Nat) (MmanAt : Nat) (Mvoice : Nat) (Mon : Nat) (MnYes : Nat) (Myes : Nat) (Mnow : Nat) (Mcry : Nat) (Msnow : Nat) (Mecho : Nat) (Mwere : Nat) (Mlies : Nat) (Mspots : Nat) (Msteps : Nat) (MfromState : Nat) (MbyWord : Nat) (Mqueue : Nat) (MsoundCliff : Nat) (MsoundLong : Nat) (MsoundCame : Nat) (MsoundTold : Nat) (MsoundUntold : Nat) (Mstands : Nat) (Mtally : Nat) (MhasBox : Nat) (Mboxes : Nat) (Itaped : Nat) (Ifault : Nat) (IfaultPlace : Int32) (Iat : Nat) (Isize : Nat) (Isort : Int32) (Iplace : Int32) (Inumber : Int32) (Iword : Int64) (Iform : Nat) (Iopens : Nat) (InUnits : Nat) (Iunits : Int32) (IownUnits : Nat) (Ideep : Nat) (InWords : Nat) (InCliffs : Nat) (InMen : Nat) (InStates : Nat) (InOns : Nat) (InWind : Int32) (InDraw : Int32) (Iwords : Nat) (Icliffs : Nat) (Imen : Nat) (Istates : Nat) (Ions : Int32) (IwindTold : Int32) (InHasWind : Int32) (InHasDraw : Int32) (IcryMany : Nat) (IcallPlace : Int32) (IcallVoice : Int32) (Iwind : Int32) (Ichance : Int32) (IechoMany : Nat) (Iacts : Nat) (Iundone : Nat) (Ilain : Nat) (Isounds : Nat) (Itime : Int32) (IstandMany : Int32) (ix : Int32) (gtp : Itaped ≤ 1600) (gat : Iat ≤ Isize) (gsz : Isize ≤ 1600) (gfl : Ifault ≤ 5) (gfo : Iform ≤ 2) (gnw : InWords ≤ 8) (gnc : InCliffs ≤ 4) (gnm : InMen ≤ 4) (gns : InStates ≤ 6) (gw : Iwords ≤ 8) (gc9 : Icliffs ≤ 4) (gm : Imen ≤ 4) (gs : Istates ≤ 6) (gcm : IcryMany ≤ 10) (gem : IechoMany ≤ 20) (gau : Iacts + Iundone ≤ 40) (gla : Ilain ≤ 20) (gso : Isounds ≤ 30) (gop : Iopens ≤ 40) (gde : Ideep ≤ 8) (gou : IownUnits ≤ 31) (gnu : InUnits ≤ 61) (gno : InOns ≤ 30) : XMi l D (tyL cy) E0 yX12_isCliff cX12_isCliff 2 (some .boolean) (rmk 1 0 0) [.ref m0, .int ix] [wO m0 12 [.ref Mtape, .int (nI Itaped), .int (nI Ifault), .int IfaultPlace, .int (nI Iat), .int (nI Isize), .int Isort, .int Iplace, .int Inumber, .long Iword, .ref MnName, .ref MnStep, .ref MnArg, .ref MnMany, .ref Mstep, .ref Marg, .ref Mmany, .ref Mopen, .ref Mvalues, .ref MnHasForm, .ref MhasForm, .int (nI Iform), .int (nI Iopens), .int (nI InUnits), .int Iunits, .int (nI IownUnits), .int (nI Ideep), .ref Masks, .ref MnLoud, .ref MnCliffAt, .ref MnSnow, .ref MnManAt, .ref MnVoice, .ref MnOn, .ref Mloud, .ref McliffAt, .ref MsnowTold, .ref MmanAt, .ref Mvoice, .ref Mon, .ref MnYes, .ref Myes, .int (nI InWords), .int (nI InCliffs), .int (nI InMen), .int (nI InStates), .int (nI InOns), .int InWind, .int InDraw, .int (nI Iwords), .int (nI Icliffs), .int (nI Imen), .int (nI Istates), .int Ions, .int IwindTold, .int InHasWind, .int InHasDraw, .ref Mnow, .ref Mcry, .ref Msnow, .ref Mecho, .int (nI IcryMany), .int IcallPlace, .int IcallVoice, .int Iwind, .int Ichance, .int (nI IechoMany), .ref Mwere, .int (nI Iacts), .int (nI Iundone), .ref Mlies, .int (nI Ilain), .ref Mspots, .ref Msteps, .ref MfromState, .ref MbyWord, .ref Mqueue, .ref MsoundCliff, .ref MsoundLong, .ref MsoundCame, .ref MsoundTold, .ref MsoundUntold, .int (nI Isounds), .int Itime, .ref Mstands, .int IstandMany, .ref Mtally, .ref MhasBox, .ref Mboxes]] (fun (r : Int32) (_ : Unit) => (r = 0 ∨ r = 1) ∧ (r = 0 ∨ (r = 1 ∧ ∃ j9 : Nat, j9 < Icliffs ∧ ix = nI j9)) ∧ (r = 0 → ¬ inR ix Icliffs)) (fun (_ : Unit) => [wO m0 12 [.ref Mtape, .int (nI Itaped), .int (nI Ifault), .int IfaultPlace, .int (nI Iat), .int (nI Isize), .int Isort, .int Iplace, .int Inumber, .long Iword, .ref MnName, .ref MnStep, .ref MnArg, .ref MnMany, .ref Mstep, .ref Marg, .ref Mmany, .ref Mopen, .ref Mvalues, .ref MnHasForm, .ref MhasForm, .int (nI Iform), .int (nI Iopens), .int (nI InUnits), .int Iunits, .int (nI IownUnits), .int (nI Ideep), .ref Masks, .ref MnLoud, .ref MnCliffAt, .ref MnSnow, .ref MnManAt, .ref MnVoice, .ref MnOn, .ref Mloud, .ref McliffAt, .ref MsnowTold, .ref MmanAt, .ref Mvoice, .ref Mon, .ref MnYes, .ref Myes, .int (nI InWords), .int (nI InCliffs), .int (nI InMen), .int (nI InStates), .int (nI InOns), .int InWind, .int InDraw, .int (nI Iwords), .int (nI Icliffs), .int (nI Imen), .int (nI Istates), .int Ions, .int IwindTold, .int InHasWind, .int InHasDraw, .ref Mnow, .ref Mcry, .ref Msnow, .ref Mecho, .int (nI IcryMany), .int IcallPlace, .int IcallVoice, .int Iwind, .int Ichance, .int (nI IechoMany), .ref Mwere, .int (nI Iacts), .int (nI Iundone), .ref Mlies, .int (nI Ilain), .ref Mspots, .ref Msteps, .ref MfromState, .ref MbyWord, .ref Mqueue, .ref MsoundCliff, .ref MsoundLong, .ref MsoundCame, .ref MsoundTold, .ref MsoundUntold, .int (nI Isounds), .int Itime, .ref Mstands, .int IstandMany, .ref Mtally, .ref MhasBox, .ref Mboxes]]) := by
  refine XMi.start (by decide) (Nat.le_of_ble_eq_true rfl) ?_
  intro p e s m below meth c args A ls Q hat hQ
  obtain ⟨hx, hb, hr, hml, hown, hg, hlocks, hin, hK, hA, hP, hD, hS, hE, hl⟩ := hat
  have hown : s.vm.findClass RX12 = some m.cls := hown
  have hl : lv_has ls 2 [(0, .ref m0), (1, .int ix)] := hl
  refine lv_iload_n hx hb dX12_isCliff_0 rfl (lv_at hl 1 rfl) ?_
  refine lv_iconst (v := 0) hx hb dX12_isCliff_1 (by decide) ?_
  refine lv_aload_n hx hb dX12_isCliff_2 rfl (lv_at hl 0 rfl) ?_
  refine va_get (D := D) (ci := 12) (v := .int (nI Icliffs)) (C := RX12) (T := TX12) (N := 89) hx hb hg i_X12 hown hK hP 0 rfl rfl 50 (by decide) (hg _ m_1463) (fun _ h9 => h9) rfl dX12_isCliff_3 ?_
  refine lv_iconst (v := 1) hx hb dX12_isCliff_6 (by decide) ?_
  refine lv_isub hx hb dX12_isCliff_7 ?_
  refine lv_topi (fun x_1 ex_1 => ?_)
  refine x_callSi (wr := [wO m0 12 [.ref Mtape, .int (nI Itaped), .int (nI Ifault), .int IfaultPlace, .int (nI Iat), .int (nI Isize), .int Isort, .int Iplace, .int Inumber, .long Iword, .ref MnName, .ref MnStep, .ref MnArg, .ref MnMany, .ref Mstep, .ref Marg, .ref Mmany, .ref Mopen, .ref Mvalues, .ref MnHasForm, .ref MhasForm, .int (nI Iform), .int (nI Iopens), .int (nI InUnits), .int Iunits, .int (nI IownUnits), .int (nI Ideep), .ref Masks, .ref MnLoud, .ref MnCliffAt, .ref MnSnow, .ref MnManAt, .ref MnVoice, .ref MnOn, .ref Mloud, .ref McliffAt, .ref MsnowTold, .ref MmanAt, .ref Mvoice, .ref Mon, .ref MnYes, .ref Myes, .int (nI InWords), .int (nI InCliffs), .int (nI InMen), .int (nI InStates), .int (nI InOns), .int InWind, .int InDraw, .int (nI Iwords), .int (nI Icliffs), .int (nI Imen), .int (nI Istates), .int Ions, .int IwindTold, .int InHasWind, .int InHasDraw, .ref Mnow, .ref Mcry, .ref Msnow, .ref Mecho, .int (nI IcryMany), .int IcallPlace, .int IcallVoice, .int Iwind, .int Ichance, .int (nI IechoMany), .ref Mwere, .int (nI Iacts), .int (nI Iundone), .ref Mlies, .int (nI Ilain), .ref Mspots, .ref Msteps, .ref MfromState, .ref MbyWord, .ref Mqueue, .ref MsoundCliff, .ref MsoundLong, .ref MsoundCame, .ref MsoundTold, .ref MsoundUntold, .int (nI Isounds), .int Itime, .ref Mstands, .int IstandMany, .ref Mtally, .ref MhasBox, .ref Mboxes]]) (rest := []) ⟨hx, hb, hml, hown, hg, hl.1⟩ k_X12_436 (r_isIn l D cy ix 0 x_1) E0_blind hK hP hD hS hA [] [0] ⟨rfl, rfl, by decide +kernel, by decide +kernel, by decide +kernel⟩ (fun _ _ _ => trivial) dX12_isCliff_8 rfl rfl (Nat.le_of_ble_eq_true rfl) ⟨Nat.le_of_ble_eq_true rfl, Nat.le_of_ble_eq_true rfl⟩ ⟨Nat.le_of_ble_eq_true rfl, Nat.le_of_ble_eq_true rfl⟩ (fun zr2 zu2 H locs hw2 hP9 hD9 hS9 => ?_)
  clear hP hD hS
  refine reW [wO m0 12 [.ref Mtape, .int (nI Itaped), .int (nI Ifault), .int IfaultPlace, .int (nI Iat), .int (nI Isize), .int Isort, .int Iplace, .int Inumber, .long Iword, .ref MnName, .ref MnStep, .ref MnArg, .ref MnMany, .ref Mstep, .ref Marg, .ref Mmany, .ref Mopen, .ref Mvalues, .ref MnHasForm, .ref MhasForm, .int (nI Iform), .int (nI Iopens), .int (nI InUnits), .int Iunits, .int (nI IownUnits), .int (nI Ideep), .ref Masks, .ref MnLoud, .ref MnCliffAt, .ref MnSnow, .ref MnManAt, .ref MnVoice, .ref MnOn, .ref Mloud, .ref McliffAt, .ref MsnowTold, .ref MmanAt, .ref Mvoice, .ref Mon, .ref MnYes, .ref Myes, .int (nI InWords), .int (nI InCliffs), .int (nI InMen), .int (nI InStates), .int (nI InOns), .int InWind, .int InDraw, .int (nI Iwords), .int (nI Icliffs), .int (nI Imen), .int (nI Istates), .int Ions, .int IwindTold, .int InHasWind, .int InHasDraw, .ref Mnow, .ref Mcry, .ref Msnow, .ref Mecho, .int (nI IcryMany), .int IcallPlace, .int IcallVoice, .int Iwind, .int Ichance, .int (nI IechoMany), .ref Mwere, .int (nI Iacts), .int (nI Iundone), .ref Mlies, .int (nI Ilain), .ref Mspots, .ref Msteps, .ref MfromState, .ref MbyWord, .ref Mqueue, .ref MsoundCliff, .ref MsoundLong, .ref MsoundCame, .ref MsoundTold, .ref MsoundUntold, .int (nI Isounds), .int Itime, .ref Mstands, .int IstandMany, .ref Mtally, .ref MhasBox, .ref Mboxes]] hP9 hD9 hS9 (fun hP hD hS => ?_)
  clear hP9 hD9 hS9
  refine W.widen (k := 0) (n := 0) (Nat.le_of_ble_eq_true rfl) (Nat.le_of_ble_eq_true rfl) ?_
  change (zr2 = 0 ∨ zr2 = 1) ∧ (zr2 = 0 ∨ (zr2 = 1 ∧ ¬ ix < (0 : Int32) ∧ ¬ x_1 < ix)) ∧ (zr2 = 0 → (ix < (0 : Int32) ∨ x_1 < ix)) at hw2
  obtain ⟨f_3, f_4, f_5⟩ := hw2
  exact x_zret hQ hx hb hr hlocks hK hP hD hS (narB f_3) dX12_isCliff_11 () (⟨f_3, (show (zr2 : Int32) = 0 ∨ ((zr2 : Int32) = 1 ∧ ∃ j9 : Nat, j9 < Icliffs ∧ ix = nI j9) from f_4.elim Or.inl (fun hq9 => Or.inr ⟨hq9.1, isin_lt (n := Icliffs) (by omega) hq9.2.1 (by rw [← ex_1]; exact hq9.2.2)⟩)), (show (zr2 : Int32) = 0 → ¬ inR ix Icliffs from fun h9 => inR_isin (n := Icliffs) (by omega) (by rw [← ex_1]; exact f_5 h9))⟩) [0] (by decide +kernel) rfl (Nat.le_of_ble_eq_true rfl) (Nat.le_of_ble_eq_true rfl)
theorem gdX12_isMan_0 : decode cX12_isMan 0 = .ok (.iload_n 1, 1) ∧ decode cX12_isMan 1 = .ok (.iconst 0, 1) ∧ decode cX12_isMan 2 = .ok (.aload_n 0, 1) ∧ decode cX12_isMan 3 = .ok (.getfield 409, 3) ∧ decode cX12_isMan 6 = .ok (.iconst 1, 1) ∧ decode cX12_isMan 7 = .ok (.isub, 1) ∧ decode cX12_isMan 8 = .ok (.invokestatic 436, 3) ∧ decode cX12_isMan 11 = .ok (.ireturn, 1) := by decide +kernel
theorem dX12_isMan_0 : decode cX12_isMan 0 = .ok (.iload_n 1, 1) := gdX12_isMan_0.1
theorem dX12_isMan_1 : decode cX12_isMan 1 = .ok (.iconst 0, 1) := gdX12_isMan_0.2.1
theorem dX12_isMan_2 : decode cX12_isMan 2 = .ok (.aload_n 0, 1) := gdX12_isMan_0.2.2.1
theorem dX12_isMan_3 : decode cX12_isMan 3 = .ok (.getfield 409, 3) := gdX12_isMan_0.2.2.2.1
theorem dX12_isMan_6 : decode cX12_isMan 6 = .ok (.iconst 1, 1) := gdX12_isMan_0.2.2.2.2.1
theorem dX12_isMan_7 : decode cX12_isMan 7 = .ok (.isub, 1) := gdX12_isMan_0.2.2.2.2.2.1
theorem dX12_isMan_8 : decode cX12_isMan 8 = .ok (.invokestatic 436, 3) := gdX12_isMan_0.2.2.2.2.2.2.1
theorem dX12_isMan_11 : decode cX12_isMan 11 = .ok (.ireturn, 1) := gdX12_isMan_0.2.2.2.2.2.2.2
set_option maxHeartbeats 1000000 in
set_option maxRecDepth 100000 in
theorem r_isMan (l : Launch) (D : va_G) (cy : Nat → ClassId) (m0 : Nat) (Mtape : Nat) (MnName : Nat) (MnStep : Nat) (MnArg : Nat) (MnMany : Nat) (Mstep : Nat) (Marg : Nat) (Mmany : Nat) (Mopen : Nat) (Mvalues : Nat) (MnHasForm : Nat) (MhasForm : Nat) (Masks : Nat) (MnLoud : Nat) (MnCliffAt : Nat) (MnSnow : Nat) (MnManAt : Nat) (MnVoice : Nat) (MnOn : Nat) (Mloud : Nat) (McliffAt : Nat) (MsnowTold : Nat) (MmanAt : Nat) (Mvoice : Nat) (Mon : Nat) (MnYes : Nat) (Myes : Nat) (Mnow : Nat) (Mcry : Nat) (Msnow : Nat) (Mecho : Nat) (Mwere : Nat) (Mlies : Nat) (Mspots : Nat) (Msteps : Nat) (MfromState : Nat) (MbyWord : Nat) (Mqueue : Nat) (MsoundCliff : Nat) (MsoundLong : Nat) (MsoundCame : Nat) (MsoundTold : Nat) (MsoundUntold : Nat) (Mstands : Nat) (Mtally : Nat) (MhasBox : Nat) (Mboxes : Nat) (Itaped : Nat) (Ifault : Nat) (IfaultPlace : Int32) (Iat : Nat) (Isize : Nat) (Isort : Int32) (Iplace : Int32) (Inumber : Int32) (Iword : Int64) (Iform : Nat) (Iopens : Nat) (InUnits : Nat) (Iunits : Int32) (IownUnits : Nat) (Ideep : Nat) (InWords : Nat) (InCliffs : Nat) (InMen : Nat) (InStates : Nat) (InOns : Nat) (InWind : Int32) (InDraw : Int32) (Iwords : Nat) (Icliffs : Nat) (Imen : Nat) (Istates : Nat) (Ions : Int32) (IwindTold : Int32) (InHasWind : Int32) (InHasDraw : Int32) (IcryMany : Nat) (IcallPlace : Int32) (IcallVoice : Int32) (Iwind : Int32) (Ichance : Int32) (IechoMany : Nat) (Iacts : Nat) (Iundone : Nat) (Ilain : Nat) (Isounds : Nat) (Itime : Int32) (IstandMany : Int32) (ix : Int32) (gtp : Itaped ≤ 1600) (gat : Iat ≤ Isize) (gsz : Isize ≤ 1600) (gfl : Ifault ≤ 5) (gfo : Iform ≤ 2) (gnw : InWords ≤ 8) (gnc : InCliffs ≤ 4) (gnm : InMen ≤ 4) (gns : InStates ≤ 6) (gw : Iwords ≤ 8) (gc9 : Icliffs ≤ 4) (gm : Imen ≤ 4) (gs : Istates ≤ 6) (gcm : IcryMany ≤ 10) (gem : IechoMany ≤ 20) (gau : Iacts + Iundone ≤ 40) (gla : Ilain ≤ 20) (gso : Isounds ≤ 30) (gop : Iopens ≤ 40) (gde : Ideep ≤ 8) (gou : IownUnits ≤ 31) (gnu : InUnits ≤ 61) (gno : InOns ≤ 30) : XMi l D (tyL cy) E0 yX12_isMan cX12_isMan 2 (some .boolean) (rmk 1 0 0) [.ref m0, .int ix] [wO m0 12 [.ref Mtape, .int (nI Itaped), .int (nI Ifault), .int IfaultPlace, .int (nI Iat), .int (nI Isize), .int Isort, .int Iplace, .int Inumber, .long Iword, .ref MnName, .ref MnStep, .ref MnArg, .ref MnMany, .ref Mstep, .ref Marg, .ref Mmany, .ref Mopen, .ref Mvalues, .ref MnHasForm, .ref MhasForm, .int (nI Iform), .int (nI Iopens), .int (nI InUnits), .int Iunits, .int (nI IownUnits), .int (nI Ideep), .ref Masks, .ref MnLoud, .ref MnCliffAt, .ref MnSnow, .ref MnManAt, .ref MnVoice, .ref MnOn, .ref Mloud, .ref McliffAt, .ref MsnowTold, .ref MmanAt, .ref Mvoice, .ref Mon, .ref MnYes, .ref Myes, .int (nI InWords), .int (nI InCliffs), .int (nI InMen), .int (nI InStates), .int (nI InOns), .int InWind, .int InDraw, .int (nI Iwords), .int (nI Icliffs), .int (nI Imen), .int (nI Istates), .int Ions, .int IwindTold, .int InHasWind, .int InHasDraw, .ref Mnow, .ref Mcry, .ref Msnow, .ref Mecho, .int (nI IcryMany), .int IcallPlace, .int IcallVoice, .int Iwind, .int Ichance, .int (nI IechoMany), .ref Mwere, .int (nI Iacts), .int (nI Iundone), .ref Mlies, .int (nI Ilain), .ref Mspots, .ref Msteps, .ref MfromState, .ref MbyWord, .ref Mqueue, .ref MsoundCliff, .ref MsoundLong, .ref MsoundCame, .ref MsoundTold, .ref MsoundUntold, .int (nI Isounds), .int Itime, .ref Mstands, .int IstandMany, .ref Mtally, .ref MhasBox, .ref Mboxes]] (fun (r : Int32) (_ : Unit) => (r = 0 ∨ r = 1) ∧ (r = 0 ∨ (r = 1 ∧ ∃ j9 : Nat, j9 < Imen ∧ ix = nI j9)) ∧ (r = 0 → ¬ inR ix Imen)) (fun (_ : Unit) => [wO m0 12 [.ref Mtape, .int (nI Itaped), .int (nI Ifault), .int IfaultPlace, .int (nI Iat), .int (nI Isize), .int Isort, .int Iplace, .int Inumber, .long Iword, .ref MnName, .ref MnStep, .ref MnArg, .ref MnMany, .ref Mstep, .ref Marg, .ref Mmany, .ref Mopen, .ref Mvalues, .ref MnHasForm, .ref MhasForm, .int (nI Iform), .int (nI Iopens), .int (nI InUnits), .int Iunits, .int (nI IownUnits), .int (nI Ideep), .ref Masks, .ref MnLoud, .ref MnCliffAt, .ref MnSnow, .ref MnManAt, .ref MnVoice, .ref MnOn, .ref Mloud, .ref McliffAt, .ref MsnowTold, .ref MmanAt, .ref Mvoice, .ref Mon, .ref MnYes, .ref Myes, .int (nI InWords), .int (nI InCliffs), .int (nI InMen), .int (nI InStates), .int (nI InOns), .int InWind, .int InDraw, .int (nI Iwords), .int (nI Icliffs), .int (nI Imen), .int (nI Istates), .int Ions, .int IwindTold, .int InHasWind, .int InHasDraw, .ref Mnow, .ref Mcry, .ref Msnow, .ref Mecho, .int (nI IcryMany), .int IcallPlace, .int IcallVoice, .int Iwind, .int Ichance, .int (nI IechoMany), .ref Mwere, .int (nI Iacts), .int (nI Iundone), .ref Mlies, .int (nI Ilain), .ref Mspots, .ref Msteps, .ref MfromState, .ref MbyWord, .ref Mqueue, .ref MsoundCliff, .ref MsoundLong, .ref MsoundCame, .ref MsoundTold, .ref MsoundUntold, .int (nI Isounds), .int Itime, .ref Mstands, .int IstandMany, .ref Mtally, .ref MhasBox, .ref Mboxes]]) := by
  refine XMi.start (by decide) (Nat.le_of_ble_eq_true rfl) ?_
  intro p e s m below meth c args A ls Q hat hQ
  obtain ⟨hx, hb, hr, hml, hown, hg, hlocks, hin, hK, hA, hP, hD, hS, hE, hl⟩ := hat
  have hown : s.vm.findClass RX12 = some m.cls := hown
  have hl : lv_has ls 2 [(0, .ref m0), (1, .int ix)] := hl
  refine lv_iload_n hx hb dX12_isMan_0 rfl (lv_at hl 1 rfl) ?_
  refine lv_iconst (v := 0) hx hb dX12_isMan_1 (by decide) ?_
  refine lv_aload_n hx hb dX12_isMan_2 rfl (lv_at hl 0 rfl) ?_
  refine va_get (D := D) (ci := 12) (v := .int (nI Imen)) (C := RX12) (T := TX12) (N := 89) hx hb hg i_X12 hown hK hP 0 rfl rfl 51 (by decide) (hg _ m_1464) (fun _ h9 => h9) rfl dX12_isMan_3 ?_
  refine lv_iconst (v := 1) hx hb dX12_isMan_6 (by decide) ?_
  refine lv_isub hx hb dX12_isMan_7 ?_
  refine lv_topi (fun x_1 ex_1 => ?_)
  refine x_callSi (wr := [wO m0 12 [.ref Mtape, .int (nI Itaped), .int (nI Ifault), .int IfaultPlace, .int (nI Iat), .int (nI Isize), .int Isort, .int Iplace, .int Inumber, .long Iword, .ref MnName, .ref MnStep, .ref MnArg, .ref MnMany, .ref Mstep, .ref Marg, .ref Mmany, .ref Mopen, .ref Mvalues, .ref MnHasForm, .ref MhasForm, .int (nI Iform), .int (nI Iopens), .int (nI InUnits), .int Iunits, .int (nI IownUnits), .int (nI Ideep), .ref Masks, .ref MnLoud, .ref MnCliffAt, .ref MnSnow, .ref MnManAt, .ref MnVoice, .ref MnOn, .ref Mloud, .ref McliffAt, .ref MsnowTold, .ref MmanAt, .ref Mvoice, .ref Mon, .ref MnYes, .ref Myes, .int (nI InWords), .int (nI InCliffs), .int (nI InMen), .int (nI InStates), .int (nI InOns), .int InWind, .int InDraw, .int (nI Iwords), .int (nI Icliffs), .int (nI Imen), .int (nI Istates), .int Ions, .int IwindTold, .int InHasWind, .int InHasDraw, .ref Mnow, .ref Mcry, .ref Msnow, .ref Mecho, .int (nI IcryMany), .int IcallPlace, .int IcallVoice, .int Iwind, .int Ichance, .int (nI IechoMany), .ref Mwere, .int (nI Iacts), .int (nI Iundone), .ref Mlies, .int (nI Ilain), .ref Mspots, .ref Msteps, .ref MfromState, .ref MbyWord, .ref Mqueue, .ref MsoundCliff, .ref MsoundLong, .ref MsoundCame, .ref MsoundTold, .ref MsoundUntold, .int (nI Isounds), .int Itime, .ref Mstands, .int IstandMany, .ref Mtally, .ref MhasBox, .ref Mboxes]]) (rest := []) ⟨hx, hb, hml, hown, hg, hl.1⟩ k_X12_436 (r_isIn l D cy ix 0 x_1) E0_blind hK hP hD hS hA [] [0] ⟨rfl, rfl, by decide +kernel, by decide +kernel, by decide +kernel⟩ (fun _ _ _ => trivial) dX12_isMan_8 rfl rfl (Nat.le_of_ble_eq_true rfl) ⟨Nat.le_of_ble_eq_true rfl, Nat.le_of_ble_eq_true rfl⟩ ⟨Nat.le_of_ble_eq_true rfl, Nat.le_of_ble_eq_true rfl⟩ (fun zr2 zu2 H locs hw2 hP9 hD9 hS9 => ?_)
  clear hP hD hS
  refine reW [wO m0 12 [.ref Mtape, .int (nI Itaped), .int (nI Ifault), .int IfaultPlace, .int (nI Iat), .int (nI Isize), .int Isort, .int Iplace, .int Inumber, .long Iword, .ref MnName, .ref MnStep, .ref MnArg, .ref MnMany, .ref Mstep, .ref Marg, .ref Mmany, .ref Mopen, .ref Mvalues, .ref MnHasForm, .ref MhasForm, .int (nI Iform), .int (nI Iopens), .int (nI InUnits), .int Iunits, .int (nI IownUnits), .int (nI Ideep), .ref Masks, .ref MnLoud, .ref MnCliffAt, .ref MnSnow, .ref MnManAt, .ref MnVoice, .ref MnOn, .ref Mloud, .ref McliffAt, .ref MsnowTold, .ref MmanAt, .ref Mvoice, .ref Mon, .ref MnYes, .ref Myes, .int (nI InWords), .int (nI InCliffs), .int (nI InMen), .int (nI InStates), .int (nI InOns), .int InWind, .int InDraw, .int (nI Iwords), .int (nI Icliffs), .int (nI Imen), .int (nI Istates), .int Ions, .int IwindTold, .int InHasWind, .int InHasDraw, .ref Mnow, .ref Mcry, .ref Msnow, .ref Mecho, .int (nI IcryMany), .int IcallPlace, .int IcallVoice, .int Iwind, .int Ichance, .int (nI IechoMany), .ref Mwere, .int (nI Iacts), .int (nI Iundone), .ref Mlies, .int (nI Ilain), .ref Mspots, .ref Msteps, .ref MfromState, .ref MbyWord, .ref Mqueue, .ref MsoundCliff, .ref MsoundLong, .ref MsoundCame, .ref MsoundTold, .ref MsoundUntold, .int (nI Isounds), .int Itime, .ref Mstands, .int IstandMany, .ref Mtally, .ref MhasBox, .ref Mboxes]] hP9 hD9 hS9 (fun hP hD hS => ?_)
  clear hP9 hD9 hS9
  refine W.widen (k := 0) (n := 0) (Nat.le_of_ble_eq_true rfl) (Nat.le_of_ble_eq_true rfl) ?_
  change (zr2 = 0 ∨ zr2 = 1) ∧ (zr2 = 0 ∨ (zr2 = 1 ∧ ¬ ix < (0 : Int32) ∧ ¬ x_1 < ix)) ∧ (zr2 = 0 → (ix < (0 : Int32) ∨ x_1 < ix)) at hw2
  obtain ⟨f_3, f_4, f_5⟩ := hw2
  exact x_zret hQ hx hb hr hlocks hK hP hD hS (narB f_3) dX12_isMan_11 () (⟨f_3, (show (zr2 : Int32) = 0 ∨ ((zr2 : Int32) = 1 ∧ ∃ j9 : Nat, j9 < Imen ∧ ix = nI j9) from f_4.elim Or.inl (fun hq9 => Or.inr ⟨hq9.1, isin_lt (n := Imen) (by omega) hq9.2.1 (by rw [← ex_1]; exact hq9.2.2)⟩)), (show (zr2 : Int32) = 0 → ¬ inR ix Imen from fun h9 => inR_isin (n := Imen) (by omega) (by rw [← ex_1]; exact f_5 h9))⟩) [0] (by decide +kernel) rfl (Nat.le_of_ble_eq_true rfl) (Nat.le_of_ble_eq_true rfl)
theorem gdX12_isSaid_0 : decode cX12_isSaid 0 = .ok (.iload_n 1, 1) ∧ decode cX12_isSaid 1 = .ok (.iconst 0, 1) ∧ decode cX12_isSaid 2 = .ok (.aload_n 0, 1) ∧ decode cX12_isSaid 3 = .ok (.getfield 403, 3) ∧ decode cX12_isSaid 6 = .ok (.iconst 1, 1) ∧ decode cX12_isSaid 7 = .ok (.isub, 1) ∧ decode cX12_isSaid 8 = .ok (.invokestatic 436, 3) ∧ decode cX12_isSaid 11 = .ok (.ireturn, 1) := by decide +kernel
theorem dX12_isSaid_0 : decode cX12_isSaid 0 = .ok (.iload_n 1, 1) := gdX12_isSaid_0.1
theorem dX12_isSaid_1 : decode cX12_isSaid 1 = .ok (.iconst 0, 1) := gdX12_isSaid_0.2.1
theorem dX12_isSaid_2 : decode cX12_isSaid 2 = .ok (.aload_n 0, 1) := gdX12_isSaid_0.2.2.1
theorem dX12_isSaid_3 : decode cX12_isSaid 3 = .ok (.getfield 403, 3) := gdX12_isSaid_0.2.2.2.1
theorem dX12_isSaid_6 : decode cX12_isSaid 6 = .ok (.iconst 1, 1) := gdX12_isSaid_0.2.2.2.2.1
theorem dX12_isSaid_7 : decode cX12_isSaid 7 = .ok (.isub, 1) := gdX12_isSaid_0.2.2.2.2.2.1
theorem dX12_isSaid_8 : decode cX12_isSaid 8 = .ok (.invokestatic 436, 3) := gdX12_isSaid_0.2.2.2.2.2.2.1
theorem dX12_isSaid_11 : decode cX12_isSaid 11 = .ok (.ireturn, 1) := gdX12_isSaid_0.2.2.2.2.2.2.2
set_option maxHeartbeats 1000000 in
set_option maxRecDepth 100000 in
theorem r_isSaid (l : Launch) (D : va_G) (cy : Nat → ClassId) (m0 : Nat) (Mtape : Nat) (MnName : Nat) (MnStep : Nat) (MnArg : Nat) (MnMany : Nat) (Mstep : Nat) (Marg : Nat) (Mmany : Nat) (Mopen : Nat) (Mvalues : Nat) (MnHasForm : Nat) (MhasForm : Nat) (Masks : Nat) (MnLoud : Nat) (MnCliffAt : Nat) (MnSnow : Nat) (MnManAt : Nat) (MnVoice : Nat) (MnOn : Nat) (Mloud : Nat) (McliffAt : Nat) (MsnowTold : Nat) (MmanAt : Nat) (Mvoice : Nat) (Mon : Nat) (MnYes : Nat) (Myes : Nat) (Mnow : Nat) (Mcry : Nat) (Msnow : Nat) (Mecho : Nat) (Mwere : Nat) (Mlies : Nat) (Mspots : Nat) (Msteps : Nat) (MfromState : Nat) (MbyWord : Nat) (Mqueue : Nat) (MsoundCliff : Nat) (MsoundLong : Nat) (MsoundCame : Nat) (MsoundTold : Nat) (MsoundUntold : Nat) (Mstands : Nat) (Mtally : Nat) (MhasBox : Nat) (Mboxes : Nat) (Itaped : Nat) (Ifault : Nat) (IfaultPlace : Int32) (Iat : Nat) (Isize : Nat) (Isort : Int32) (Iplace : Int32) (Inumber : Int32) (Iword : Int64) (Iform : Nat) (Iopens : Nat) (InUnits : Nat) (Iunits : Int32) (IownUnits : Nat) (Ideep : Nat) (InWords : Nat) (InCliffs : Nat) (InMen : Nat) (InStates : Nat) (InOns : Nat) (InWind : Int32) (InDraw : Int32) (Iwords : Nat) (Icliffs : Nat) (Imen : Nat) (Istates : Nat) (Ions : Int32) (IwindTold : Int32) (InHasWind : Int32) (InHasDraw : Int32) (IcryMany : Nat) (IcallPlace : Int32) (IcallVoice : Int32) (Iwind : Int32) (Ichance : Int32) (IechoMany : Nat) (Iacts : Nat) (Iundone : Nat) (Ilain : Nat) (Isounds : Nat) (Itime : Int32) (IstandMany : Int32) (ix : Int32) (gtp : Itaped ≤ 1600) (gat : Iat ≤ Isize) (gsz : Isize ≤ 1600) (gfl : Ifault ≤ 5) (gfo : Iform ≤ 2) (gnw : InWords ≤ 8) (gnc : InCliffs ≤ 4) (gnm : InMen ≤ 4) (gns : InStates ≤ 6) (gw : Iwords ≤ 8) (gc9 : Icliffs ≤ 4) (gm : Imen ≤ 4) (gs : Istates ≤ 6) (gcm : IcryMany ≤ 10) (gem : IechoMany ≤ 20) (gau : Iacts + Iundone ≤ 40) (gla : Ilain ≤ 20) (gso : Isounds ≤ 30) (gop : Iopens ≤ 40) (gde : Ideep ≤ 8) (gou : IownUnits ≤ 31) (gnu : InUnits ≤ 61) (gno : InOns ≤ 30) : XMi l D (tyL cy) E0 yX12_isSaid cX12_isSaid 2 (some .boolean) (rmk 1 0 0) [.ref m0, .int ix] [wO m0 12 [.ref Mtape, .int (nI Itaped), .int (nI Ifault), .int IfaultPlace, .int (nI Iat), .int (nI Isize), .int Isort, .int Iplace, .int Inumber, .long Iword, .ref MnName, .ref MnStep, .ref MnArg, .ref MnMany, .ref Mstep, .ref Marg, .ref Mmany, .ref Mopen, .ref Mvalues, .ref MnHasForm, .ref MhasForm, .int (nI Iform), .int (nI Iopens), .int (nI InUnits), .int Iunits, .int (nI IownUnits), .int (nI Ideep), .ref Masks, .ref MnLoud, .ref MnCliffAt, .ref MnSnow, .ref MnManAt, .ref MnVoice, .ref MnOn, .ref Mloud, .ref McliffAt, .ref MsnowTold, .ref MmanAt, .ref Mvoice, .ref Mon, .ref MnYes, .ref Myes, .int (nI InWords), .int (nI InCliffs), .int (nI InMen), .int (nI InStates), .int (nI InOns), .int InWind, .int InDraw, .int (nI Iwords), .int (nI Icliffs), .int (nI Imen), .int (nI Istates), .int Ions, .int IwindTold, .int InHasWind, .int InHasDraw, .ref Mnow, .ref Mcry, .ref Msnow, .ref Mecho, .int (nI IcryMany), .int IcallPlace, .int IcallVoice, .int Iwind, .int Ichance, .int (nI IechoMany), .ref Mwere, .int (nI Iacts), .int (nI Iundone), .ref Mlies, .int (nI Ilain), .ref Mspots, .ref Msteps, .ref MfromState, .ref MbyWord, .ref Mqueue, .ref MsoundCliff, .ref MsoundLong, .ref MsoundCame, .ref MsoundTold, .ref MsoundUntold, .int (nI Isounds), .int Itime, .ref Mstands, .int IstandMany, .ref Mtally, .ref MhasBox, .ref Mboxes]] (fun (r : Int32) (_ : Unit) => (r = 0 ∨ r = 1) ∧ (r = 0 ∨ (r = 1 ∧ ∃ j9 : Nat, j9 < Iwords ∧ ix = nI j9)) ∧ (r = 0 → ¬ inR ix Iwords)) (fun (_ : Unit) => [wO m0 12 [.ref Mtape, .int (nI Itaped), .int (nI Ifault), .int IfaultPlace, .int (nI Iat), .int (nI Isize), .int Isort, .int Iplace, .int Inumber, .long Iword, .ref MnName, .ref MnStep, .ref MnArg, .ref MnMany, .ref Mstep, .ref Marg, .ref Mmany, .ref Mopen, .ref Mvalues, .ref MnHasForm, .ref MhasForm, .int (nI Iform), .int (nI Iopens), .int (nI InUnits), .int Iunits, .int (nI IownUnits), .int (nI Ideep), .ref Masks, .ref MnLoud, .ref MnCliffAt, .ref MnSnow, .ref MnManAt, .ref MnVoice, .ref MnOn, .ref Mloud, .ref McliffAt, .ref MsnowTold, .ref MmanAt, .ref Mvoice, .ref Mon, .ref MnYes, .ref Myes, .int (nI InWords), .int (nI InCliffs), .int (nI InMen), .int (nI InStates), .int (nI InOns), .int InWind, .int InDraw, .int (nI Iwords), .int (nI Icliffs), .int (nI Imen), .int (nI Istates), .int Ions, .int IwindTold, .int InHasWind, .int InHasDraw, .ref Mnow, .ref Mcry, .ref Msnow, .ref Mecho, .int (nI IcryMany), .int IcallPlace, .int IcallVoice, .int Iwind, .int Ichance, .int (nI IechoMany), .ref Mwere, .int (nI Iacts), .int (nI Iundone), .ref Mlies, .int (nI Ilain), .ref Mspots, .ref Msteps, .ref MfromState, .ref MbyWord, .ref Mqueue, .ref MsoundCliff, .ref MsoundLong, .ref MsoundCame, .ref MsoundTold, .ref MsoundUntold, .int (nI Isounds), .int Itime, .ref Mstands, .int IstandMany, .ref Mtally, .ref MhasBox, .ref Mboxes]]) := by
  refine XMi.start (by decide) (Nat.le_of_ble_eq_true rfl) ?_
  intro p e s m below meth c args A ls Q hat hQ
  obtain ⟨hx, hb, hr, hml, hown, hg, hlocks, hin, hK, hA, hP, hD, hS, hE, hl⟩ := hat
  have hown : s.vm.findClass RX12 = some m.cls := hown
  have hl : lv_has ls 2 [(0, .ref m0), (1, .int ix)] := hl
  refine lv_iload_n hx hb dX12_isSaid_0 rfl (lv_at hl 1 rfl) ?_
  refine lv_iconst (v := 0) hx hb dX12_isSaid_1 (by decide) ?_
  refine lv_aload_n hx hb dX12_isSaid_2 rfl (lv_at hl 0 rfl) ?_
  refine va_get (D := D) (ci := 12) (v := .int (nI Iwords)) (C := RX12) (T := TX12) (N := 89) hx hb hg i_X12 hown hK hP 0 rfl rfl 49 (by decide) (hg _ m_1462) (fun _ h9 => h9) rfl dX12_isSaid_3 ?_
  refine lv_iconst (v := 1) hx hb dX12_isSaid_6 (by decide) ?_
  refine lv_isub hx hb dX12_isSaid_7 ?_
  refine lv_topi (fun x_1 ex_1 => ?_)
  refine x_callSi (wr := [wO m0 12 [.ref Mtape, .int (nI Itaped), .int (nI Ifault), .int IfaultPlace, .int (nI Iat), .int (nI Isize), .int Isort, .int Iplace, .int Inumber, .long Iword, .ref MnName, .ref MnStep, .ref MnArg, .ref MnMany, .ref Mstep, .ref Marg, .ref Mmany, .ref Mopen, .ref Mvalues, .ref MnHasForm, .ref MhasForm, .int (nI Iform), .int (nI Iopens), .int (nI InUnits), .int Iunits, .int (nI IownUnits), .int (nI Ideep), .ref Masks, .ref MnLoud, .ref MnCliffAt, .ref MnSnow, .ref MnManAt, .ref MnVoice, .ref MnOn, .ref Mloud, .ref McliffAt, .ref MsnowTold, .ref MmanAt, .ref Mvoice, .ref Mon, .ref MnYes, .ref Myes, .int (nI InWords), .int (nI InCliffs), .int (nI InMen), .int (nI InStates), .int (nI InOns), .int InWind, .int InDraw, .int (nI Iwords), .int (nI Icliffs), .int (nI Imen), .int (nI Istates), .int Ions, .int IwindTold, .int InHasWind, .int InHasDraw, .ref Mnow, .ref Mcry, .ref Msnow, .ref Mecho, .int (nI IcryMany), .int IcallPlace, .int IcallVoice, .int Iwind, .int Ichance, .int (nI IechoMany), .ref Mwere, .int (nI Iacts), .int (nI Iundone), .ref Mlies, .int (nI Ilain), .ref Mspots, .ref Msteps, .ref MfromState, .ref MbyWord, .ref Mqueue, .ref MsoundCliff, .ref MsoundLong, .ref MsoundCame, .ref MsoundTold, .ref MsoundUntold, .int (nI Isounds), .int Itime, .ref Mstands, .int IstandMany, .ref Mtally, .ref MhasBox, .ref Mboxes]]) (rest := []) ⟨hx, hb, hml, hown, hg, hl.1⟩ k_X12_436 (r_isIn l D cy ix 0 x_1) E0_blind hK hP hD hS hA [] [0] ⟨rfl, rfl, by decide +kernel, by decide +kernel, by decide +kernel⟩ (fun _ _ _ => trivial) dX12_isSaid_8 rfl rfl (Nat.le_of_ble_eq_true rfl) ⟨Nat.le_of_ble_eq_true rfl, Nat.le_of_ble_eq_true rfl⟩ ⟨Nat.le_of_ble_eq_true rfl, Nat.le_of_ble_eq_true rfl⟩ (fun zr2 zu2 H locs hw2 hP9 hD9 hS9 => ?_)
  clear hP hD hS
  refine reW [wO m0 12 [.ref Mtape, .int (nI Itaped), .int (nI Ifault), .int IfaultPlace, .int (nI Iat), .int (nI Isize), .int Isort, .int Iplace, .int Inumber, .long Iword, .ref MnName, .ref MnStep, .ref MnArg, .ref MnMany, .ref Mstep, .ref Marg, .ref Mmany, .ref Mopen, .ref Mvalues, .ref MnHasForm, .ref MhasForm, .int (nI Iform), .int (nI Iopens), .int (nI InUnits), .int Iunits, .int (nI IownUnits), .int (nI Ideep), .ref Masks, .ref MnLoud, .ref MnCliffAt, .ref MnSnow, .ref MnManAt, .ref MnVoice, .ref MnOn, .ref Mloud, .ref McliffAt, .ref MsnowTold, .ref MmanAt, .ref Mvoice, .ref Mon, .ref MnYes, .ref Myes, .int (nI InWords), .int (nI InCliffs), .int (nI InMen), .int (nI InStates), .int (nI InOns), .int InWind, .int InDraw, .int (nI Iwords), .int (nI Icliffs), .int (nI Imen), .int (nI Istates), .int Ions, .int IwindTold, .int InHasWind, .int InHasDraw, .ref Mnow, .ref Mcry, .ref Msnow, .ref Mecho, .int (nI IcryMany), .int IcallPlace, .int IcallVoice, .int Iwind, .int Ichance, .int (nI IechoMany), .ref Mwere, .int (nI Iacts), .int (nI Iundone), .ref Mlies, .int (nI Ilain), .ref Mspots, .ref Msteps, .ref MfromState, .ref MbyWord, .ref Mqueue, .ref MsoundCliff, .ref MsoundLong, .ref MsoundCame, .ref MsoundTold, .ref MsoundUntold, .int (nI Isounds), .int Itime, .ref Mstands, .int IstandMany, .ref Mtally, .ref MhasBox, .ref Mboxes]] hP9 hD9 hS9 (fun hP hD hS => ?_)
  clear hP9 hD9 hS9
  refine W.widen (k := 0) (n := 0) (Nat.le_of_ble_eq_true rfl) (Nat.le_of_ble_eq_true rfl) ?_
  change (zr2 = 0 ∨ zr2 = 1) ∧ (zr2 = 0 ∨ (zr2 = 1 ∧ ¬ ix < (0 : Int32) ∧ ¬ x_1 < ix)) ∧ (zr2 = 0 → (ix < (0 : Int32) ∨ x_1 < ix)) at hw2
  obtain ⟨f_3, f_4, f_5⟩ := hw2
  exact x_zret hQ hx hb hr hlocks hK hP hD hS (narB f_3) dX12_isSaid_11 () (⟨f_3, (show (zr2 : Int32) = 0 ∨ ((zr2 : Int32) = 1 ∧ ∃ j9 : Nat, j9 < Iwords ∧ ix = nI j9) from f_4.elim Or.inl (fun hq9 => Or.inr ⟨hq9.1, isin_lt (n := Iwords) (by omega) hq9.2.1 (by rw [← ex_1]; exact hq9.2.2)⟩)), (show (zr2 : Int32) = 0 → ¬ inR ix Iwords from fun h9 => inR_isin (n := Iwords) (by omega) (by rw [← ex_1]; exact f_5 h9))⟩) [0] (by decide +kernel) rfl (Nat.le_of_ble_eq_true rfl) (Nat.le_of_ble_eq_true rfl)
theorem gdX12_isState_0 : decode cX12_isState 0 = .ok (.iload_n 1, 1) ∧ decode cX12_isState 1 = .ok (.iconst 0, 1) ∧ decode cX12_isState 2 = .ok (.aload_n 0, 1) ∧ decode cX12_isState 3 = .ok (.getfield 412, 3) ∧ decode cX12_isState 6 = .ok (.iconst 1, 1) ∧ decode cX12_isState 7 = .ok (.isub, 1) ∧ decode cX12_isState 8 = .ok (.invokestatic 436, 3) ∧ decode cX12_isState 11 = .ok (.ireturn, 1) := by decide +kernel
theorem dX12_isState_0 : decode cX12_isState 0 = .ok (.iload_n 1, 1) := gdX12_isState_0.1
theorem dX12_isState_1 : decode cX12_isState 1 = .ok (.iconst 0, 1) := gdX12_isState_0.2.1
theorem dX12_isState_2 : decode cX12_isState 2 = .ok (.aload_n 0, 1) := gdX12_isState_0.2.2.1
theorem dX12_isState_3 : decode cX12_isState 3 = .ok (.getfield 412, 3) := gdX12_isState_0.2.2.2.1
theorem dX12_isState_6 : decode cX12_isState 6 = .ok (.iconst 1, 1) := gdX12_isState_0.2.2.2.2.1
theorem dX12_isState_7 : decode cX12_isState 7 = .ok (.isub, 1) := gdX12_isState_0.2.2.2.2.2.1
theorem dX12_isState_8 : decode cX12_isState 8 = .ok (.invokestatic 436, 3) := gdX12_isState_0.2.2.2.2.2.2.1
theorem dX12_isState_11 : decode cX12_isState 11 = .ok (.ireturn, 1) := gdX12_isState_0.2.2.2.2.2.2.2
set_option maxHeartbeats 1000000 in
set_option maxRecDepth 100000 in
theorem r_isState (l : Launch) (D : va_G) (cy : Nat → ClassId) (m0 : Nat) (Mtape : Nat) (MnName : Nat) (MnStep : Nat) (MnArg : Nat) (MnMany : Nat) (Mstep : Nat) (Marg : Nat) (Mmany : Nat) (Mopen : Nat) (Mvalues : Nat) (MnHasForm : Nat) (MhasForm : Nat) (Masks : Nat) (MnLoud : Nat) (MnCliffAt : Nat) (MnSnow : Nat) (MnManAt : Nat) (MnVoice : Nat) (MnOn : Nat) (Mloud : Nat) (McliffAt : Nat) (MsnowTold : Nat) (MmanAt : Nat) (Mvoice : Nat) (Mon : Nat) (MnYes : Nat) (Myes : Nat) (Mnow : Nat) (Mcry : Nat) (Msnow : Nat) (Mecho : Nat) (Mwere : Nat) (Mlies : Nat) (Mspots : Nat) (Msteps : Nat) (MfromState : Nat) (MbyWord : Nat) (Mqueue : Nat) (MsoundCliff : Nat) (MsoundLong : Nat) (MsoundCame : Nat) (MsoundTold : Nat) (MsoundUntold : Nat) (Mstands : Nat) (Mtally : Nat) (MhasBox : Nat) (Mboxes : Nat) (Itaped : Nat) (Ifault : Nat) (IfaultPlace : Int32) (Iat : Nat) (Isize : Nat) (Isort : Int32) (Iplace : Int32) (Inumber : Int32) (Iword : Int64) (Iform : Nat) (Iopens : Nat) (InUnits : Nat) (Iunits : Int32) (IownUnits : Nat) (Ideep : Nat) (InWords : Nat) (InCliffs : Nat) (InMen : Nat) (InStates : Nat) (InOns : Nat) (InWind : Int32) (InDraw : Int32) (Iwords : Nat) (Icliffs : Nat) (Imen : Nat) (Istates : Nat) (Ions : Int32) (IwindTold : Int32) (InHasWind : Int32) (InHasDraw : Int32) (IcryMany : Nat) (IcallPlace : Int32) (IcallVoice : Int32) (Iwind : Int32) (Ichance : Int32) (IechoMany : Nat) (Iacts : Nat) (Iundone : Nat) (Ilain : Nat) (Isounds : Nat) (Itime : Int32) (IstandMany : Int32) (ix : Int32) (gtp : Itaped ≤ 1600) (gat : Iat ≤ Isize) (gsz : Isize ≤ 1600) (gfl : Ifault ≤ 5) (gfo : Iform ≤ 2) (gnw : InWords ≤ 8) (gnc : InCliffs ≤ 4) (gnm : InMen ≤ 4) (gns : InStates ≤ 6) (gw : Iwords ≤ 8) (gc9 : Icliffs ≤ 4) (gm : Imen ≤ 4) (gs : Istates ≤ 6) (gcm : IcryMany ≤ 10) (gem : IechoMany ≤ 20) (gau : Iacts + Iundone ≤ 40) (gla : Ilain ≤ 20) (gso : Isounds ≤ 30) (gop : Iopens ≤ 40) (gde : Ideep ≤ 8) (gou : IownUnits ≤ 31) (gnu : InUnits ≤ 61) (gno : InOns ≤ 30) : XMi l D (tyL cy) E0 yX12_isState cX12_isState 2 (some .boolean) (rmk 1 0 0) [.ref m0, .int ix] [wO m0 12 [.ref Mtape, .int (nI Itaped), .int (nI Ifault), .int IfaultPlace, .int (nI Iat), .int (nI Isize), .int Isort, .int Iplace, .int Inumber, .long Iword, .ref MnName, .ref MnStep, .ref MnArg, .ref MnMany, .ref Mstep, .ref Marg, .ref Mmany, .ref Mopen, .ref Mvalues, .ref MnHasForm, .ref MhasForm, .int (nI Iform), .int (nI Iopens), .int (nI InUnits), .int Iunits, .int (nI IownUnits), .int (nI Ideep), .ref Masks, .ref MnLoud, .ref MnCliffAt, .ref MnSnow, .ref MnManAt, .ref MnVoice, .ref MnOn, .ref Mloud, .ref McliffAt, .ref MsnowTold, .ref MmanAt, .ref Mvoice, .ref Mon, .ref MnYes, .ref Myes, .int (nI InWords), .int (nI InCliffs), .int (nI InMen), .int (nI InStates), .int (nI InOns), .int InWind, .int InDraw, .int (nI Iwords), .int (nI Icliffs), .int (nI Imen), .int (nI Istates), .int Ions, .int IwindTold, .int InHasWind, .int InHasDraw, .ref Mnow, .ref Mcry, .ref Msnow, .ref Mecho, .int (nI IcryMany), .int IcallPlace, .int IcallVoice, .int Iwind, .int Ichance, .int (nI IechoMany), .ref Mwere, .int (nI Iacts), .int (nI Iundone), .ref Mlies, .int (nI Ilain), .ref Mspots, .ref Msteps, .ref MfromState, .ref MbyWord, .ref Mqueue, .ref MsoundCliff, .ref MsoundLong, .ref MsoundCame, .ref MsoundTold, .ref MsoundUntold, .int (nI Isounds), .int Itime, .ref Mstands, .int IstandMany, .ref Mtally, .ref MhasBox, .ref Mboxes]] (fun (r : Int32) (_ : Unit) => (r = 0 ∨ r = 1) ∧ (r = 0 ∨ (r = 1 ∧ ∃ j9 : Nat, j9 < Istates ∧ ix = nI j9)) ∧ (r = 0 → ¬ inR ix Istates)) (fun (_ : Unit) => [wO m0 12 [.ref Mtape, .int (nI Itaped), .int (nI Ifault), .int IfaultPlace, .int (nI Iat), .int (nI Isize), .int Isort, .int Iplace, .int Inumber, .long Iword, .ref MnName, .ref MnStep, .ref MnArg, .ref MnMany, .ref Mstep, .ref Marg, .ref Mmany, .ref Mopen, .ref Mvalues, .ref MnHasForm, .ref MhasForm, .int (nI Iform), .int (nI Iopens), .int (nI InUnits), .int Iunits, .int (nI IownUnits), .int (nI Ideep), .ref Masks, .ref MnLoud, .ref MnCliffAt, .ref MnSnow, .ref MnManAt, .ref MnVoice, .ref MnOn, .ref Mloud, .ref McliffAt, .ref MsnowTold, .ref MmanAt, .ref Mvoice, .ref Mon, .ref MnYes, .ref Myes, .int (nI InWords), .int (nI InCliffs), .int (nI InMen), .int (nI InStates), .int (nI InOns), .int InWind, .int InDraw, .int (nI Iwords), .int (nI Icliffs), .int (nI Imen), .int (nI Istates), .int Ions, .int IwindTold, .int InHasWind, .int InHasDraw, .ref Mnow, .ref Mcry, .ref Msnow, .ref Mecho, .int (nI IcryMany), .int IcallPlace, .int IcallVoice, .int Iwind, .int Ichance, .int (nI IechoMany), .ref Mwere, .int (nI Iacts), .int (nI Iundone), .ref Mlies, .int (nI Ilain), .ref Mspots, .ref Msteps, .ref MfromState, .ref MbyWord, .ref Mqueue, .ref MsoundCliff, .ref MsoundLong, .ref MsoundCame, .ref MsoundTold, .ref MsoundUntold, .int (nI Isounds), .int Itime, .ref Mstands, .int IstandMany, .ref Mtally, .ref MhasBox, .ref Mboxes]]) := by
  refine XMi.start (by decide) (Nat.le_of_ble_eq_true rfl) ?_
  intro p e s m below meth c args A ls Q hat hQ
  obtain ⟨hx, hb, hr, hml, hown, hg, hlocks, hin, hK, hA, hP, hD, hS, hE, hl⟩ := hat
  have hown : s.vm.findClass RX12 = some m.cls := hown
  have hl : lv_has ls 2 [(0, .ref m0), (1, .int ix)] := hl
  refine lv_iload_n hx hb dX12_isState_0 rfl (lv_at hl 1 rfl) ?_
  refine lv_iconst (v := 0) hx hb dX12_isState_1 (by decide) ?_
  refine lv_aload_n hx hb dX12_isState_2 rfl (lv_at hl 0 rfl) ?_
  refine va_get (D := D) (ci := 12) (v := .int (nI Istates)) (C := RX12) (T := TX12) (N := 89) hx hb hg i_X12 hown hK hP 0 rfl rfl 52 (by decide) (hg _ m_1465) (fun _ h9 => h9) rfl dX12_isState_3 ?_
  refine lv_iconst (v := 1) hx hb dX12_isState_6 (by decide) ?_
  refine lv_isub hx hb dX12_isState_7 ?_
  refine lv_topi (fun x_1 ex_1 => ?_)
  refine x_callSi (wr := [wO m0 12 [.ref Mtape, .int (nI Itaped), .int (nI Ifault), .int IfaultPlace, .int (nI Iat), .int (nI Isize), .int Isort, .int Iplace, .int Inumber, .long Iword, .ref MnName, .ref MnStep, .ref MnArg, .ref MnMany, .ref Mstep, .ref Marg, .ref Mmany, .ref Mopen, .ref Mvalues, .ref MnHasForm, .ref MhasForm, .int (nI Iform), .int (nI Iopens), .int (nI InUnits), .int Iunits, .int (nI IownUnits), .int (nI Ideep), .ref Masks, .ref MnLoud, .ref MnCliffAt, .ref MnSnow, .ref MnManAt, .ref MnVoice, .ref MnOn, .ref Mloud, .ref McliffAt, .ref MsnowTold, .ref MmanAt, .ref Mvoice, .ref Mon, .ref MnYes, .ref Myes, .int (nI InWords), .int (nI InCliffs), .int (nI InMen), .int (nI InStates), .int (nI InOns), .int InWind, .int InDraw, .int (nI Iwords), .int (nI Icliffs), .int (nI Imen), .int (nI Istates), .int Ions, .int IwindTold, .int InHasWind, .int InHasDraw, .ref Mnow, .ref Mcry, .ref Msnow, .ref Mecho, .int (nI IcryMany), .int IcallPlace, .int IcallVoice, .int Iwind, .int Ichance, .int (nI IechoMany), .ref Mwere, .int (nI Iacts), .int (nI Iundone), .ref Mlies, .int (nI Ilain), .ref Mspots, .ref Msteps, .ref MfromState, .ref MbyWord, .ref Mqueue, .ref MsoundCliff, .ref MsoundLong, .ref MsoundCame, .ref MsoundTold, .ref MsoundUntold, .int (nI Isounds), .int Itime, .ref Mstands, .int IstandMany, .ref Mtally, .ref MhasBox, .ref Mboxes]]) (rest := []) ⟨hx, hb, hml, hown, hg, hl.1⟩ k_X12_436 (r_isIn l D cy ix 0 x_1) E0_blind hK hP hD hS hA [] [0] ⟨rfl, rfl, by decide +kernel, by decide +kernel, by decide +kernel⟩ (fun _ _ _ => trivial) dX12_isState_8 rfl rfl (Nat.le_of_ble_eq_true rfl) ⟨Nat.le_of_ble_eq_true rfl, Nat.le_of_ble_eq_true rfl⟩ ⟨Nat.le_of_ble_eq_true rfl, Nat.le_of_ble_eq_true rfl⟩ (fun zr2 zu2 H locs hw2 hP9 hD9 hS9 => ?_)
  clear hP hD hS
  refine reW [wO m0 12 [.ref Mtape, .int (nI Itaped), .int (nI Ifault), .int IfaultPlace, .int (nI Iat), .int (nI Isize), .int Isort, .int Iplace, .int Inumber, .long Iword, .ref MnName, .ref MnStep, .ref MnArg, .ref MnMany, .ref Mstep, .ref Marg, .ref Mmany, .ref Mopen, .ref Mvalues, .ref MnHasForm, .ref MhasForm, .int (nI Iform), .int (nI Iopens), .int (nI InUnits), .int Iunits, .int (nI IownUnits), .int (nI Ideep), .ref Masks, .ref MnLoud, .ref MnCliffAt, .ref MnSnow, .ref MnManAt, .ref MnVoice, .ref MnOn, .ref Mloud, .ref McliffAt, .ref MsnowTold, .ref MmanAt, .ref Mvoice, .ref Mon, .ref MnYes, .ref Myes, .int (nI InWords), .int (nI InCliffs), .int (nI InMen), .int (nI InStates), .int (nI InOns), .int InWind, .int InDraw, .int (nI Iwords), .int (nI Icliffs), .int (nI Imen), .int (nI Istates), .int Ions, .int IwindTold, .int InHasWind, .int InHasDraw, .ref Mnow, .ref Mcry, .ref Msnow, .ref Mecho, .int (nI IcryMany), .int IcallPlace, .int IcallVoice, .int Iwind, .int Ichance, .int (nI IechoMany), .ref Mwere, .int (nI Iacts), .int (nI Iundone), .ref Mlies, .int (nI Ilain), .ref Mspots, .ref Msteps, .ref MfromState, .ref MbyWord, .ref Mqueue, .ref MsoundCliff, .ref MsoundLong, .ref MsoundCame, .ref MsoundTold, .ref MsoundUntold, .int (nI Isounds), .int Itime, .ref Mstands, .int IstandMany, .ref Mtally, .ref MhasBox, .ref Mboxes]] hP9 hD9 hS9 (fun hP hD hS => ?_)
  clear hP9 hD9 hS9
  refine W.widen (k := 0) (n := 0) (Nat.le_of_ble_eq_true rfl) (Nat.le_of_ble_eq_true rfl) ?_
  change (zr2 = 0 ∨ zr2 = 1) ∧ (zr2 = 0 ∨ (zr2 = 1 ∧ ¬ ix < (0 : Int32) ∧ ¬ x_1 < ix)) ∧ (zr2 = 0 → (ix < (0 : Int32) ∨ x_1 < ix)) at hw2
  obtain ⟨f_3, f_4, f_5⟩ := hw2
  exact x_zret hQ hx hb hr hlocks hK hP hD hS (narB f_3) dX12_isState_11 () (⟨f_3, (show (zr2 : Int32) = 0 ∨ ((zr2 : Int32) = 1 ∧ ∃ j9 : Nat, j9 < Istates ∧ ix = nI j9) from f_4.elim Or.inl (fun hq9 => Or.inr ⟨hq9.1, isin_lt (n := Istates) (by omega) hq9.2.1 (by rw [← ex_1]; exact hq9.2.2)⟩)), (show (zr2 : Int32) = 0 → ¬ inR ix Istates from fun h9 => inR_isin (n := Istates) (by omega) (by rw [← ex_1]; exact f_5 h9))⟩) [0] (by decide +kernel) rfl (Nat.le_of_ble_eq_true rfl) (Nat.le_of_ble_eq_true rfl)
theorem gdX12_isCry_0 : decode cX12_isCry 0 = .ok (.iload_n 0, 1) ∧ decode cX12_isCry 1 = .ok (.ifCond .eq 8, 3) ∧ decode cX12_isCry 9 = .ok (.iconst 1, 1) ∧ decode cX12_isCry 10 = .ok (.goto 4, 3) ∧ decode cX12_isCry 14 = .ok (.ireturn, 1) ∧ decode cX12_isCry 4 = .ok (.iload_n 0, 1) ∧ decode cX12_isCry 5 = .ok (.iconst 1, 1) ∧ decode cX12_isCry 6 = .ok (.if_icmp .ne 7, 3) ∧ decode cX12_isCry 13 = .ok (.iconst 0, 1) := by decide +kernel
theorem dX12_isCry_0 : decode cX12_isCry 0 = .ok (.iload_n 0, 1) := gdX12_isCry_0.1
theorem dX12_isCry_1 : decode cX12_isCry 1 = .ok (.ifCond .eq 8, 3) := gdX12_isCry_0.2.1
theorem dX12_isCry_9 : decode cX12_isCry 9 = .ok (.iconst 1, 1) := gdX12_isCry_0.2.2.1
theorem dX12_isCry_10 : decode cX12_isCry 10 = .ok (.goto 4, 3) := gdX12_isCry_0.2.2.2.1
theorem dX12_isCry_14 : decode cX12_isCry 14 = .ok (.ireturn, 1) := gdX12_isCry_0.2.2.2.2.1
theorem dX12_isCry_4 : decode cX12_isCry 4 = .ok (.iload_n 0, 1) := gdX12_isCry_0.2.2.2.2.2.1
theorem dX12_isCry_5 : decode cX12_isCry 5 = .ok (.iconst 1, 1) := gdX12_isCry_0.2.2.2.2.2.2.1
theorem dX12_isCry_6 : decode cX12_isCry 6 = .ok (.if_icmp .ne 7, 3) := gdX12_isCry_0.2.2.2.2.2.2.2.1
theorem dX12_isCry_13 : decode cX12_isCry 13 = .ok (.iconst 0, 1) := gdX12_isCry_0.2.2.2.2.2.2.2.2
set_option maxHeartbeats 1000000 in
set_option maxRecDepth 100000 in
theorem r_isCry (l : Launch) (D : va_G) (cy : Nat → ClassId) (ix : Int32)  : XMi l D (tyL cy) E0 yX12_isCry cX12_isCry 1 (some .boolean) (rmk 0 0 0) [.int ix] [] (fun (r : Int32) (_ : Unit) => (r = 0 ∨ r = 1) ∧ (r = 0 ∨ (r = 1 ∧ (ix = 0 ∨ ix = 1))) ∧ (r = 0 → ¬ (ix = 0 ∨ ix = 1))) (fun (_ : Unit) => []) := by
  refine XMi.start (by decide) (Nat.le_of_ble_eq_true rfl) ?_
  intro p e s m below meth c args A ls Q hat hQ
  obtain ⟨hx, hb, hr, hml, hown, hg, hlocks, hin, hK, hA, hP, hD, hS, hE, hl⟩ := hat
  have hown : s.vm.findClass RX12 = some m.cls := hown
  have hl : lv_has ls 1 [(0, .int ix)] := hl
  refine lv_iload_n hx hb dX12_isCry_0 rfl (lv_at hl 0 rfl) ?_
  refine lv_if_eq (tgt := 9) hx hb dX12_isCry_1 (by decide) (fun c_1 => ?_) (fun c_1 => ?_)
  · refine lv_iconst (v := 1) hx hb dX12_isCry_9 (by decide) ?_
    refine lv_goto (tgt := 14) hx hb dX12_isCry_10 (by decide) ?_
    exact x_zret hQ hx hb hr hlocks hK hP hD hS rfl dX12_isCry_14 () (⟨(Or.inr rfl), (show (1 : Int32) = 0 ∨ ((1 : Int32) = 1 ∧ (ix = 0 ∨ ix = 1)) from Or.inr ⟨rfl, Or.inl c_1⟩), (show (1 : Int32) = 0 → ¬ (ix = 0 ∨ ix = 1) from fun h9 => absurd h9 (by decide))⟩) [] (by decide +kernel) rfl (Nat.le_of_ble_eq_true rfl) (Nat.le_of_ble_eq_true rfl)
  · refine lv_iload_n hx hb dX12_isCry_4 rfl (lv_at hl 0 rfl) ?_
    refine lv_iconst (v := 1) hx hb dX12_isCry_5 (by decide) ?_
    refine lv_icmp_ne (tgt := 13) hx hb dX12_isCry_6 (by decide) (fun c_6 => ?_) (fun c_6 => ?_)
    · refine lv_iconst (v := 0) hx hb dX12_isCry_13 (by decide) ?_
      exact x_zret hQ hx hb hr hlocks hK hP hD hS rfl dX12_isCry_14 () (⟨(Or.inl rfl), (show (0 : Int32) = 0 ∨ ((0 : Int32) = 1 ∧ (ix = 0 ∨ ix = 1)) from Or.inl rfl), (show (0 : Int32) = 0 → ¬ (ix = 0 ∨ ix = 1) from fun _ h9 => h9.elim c_1 c_6)⟩) [] (by decide +kernel) rfl (Nat.le_of_ble_eq_true rfl) (Nat.le_of_ble_eq_true rfl)
    · refine lv_iconst (v := 1) hx hb dX12_isCry_9 (by decide) ?_
      refine lv_goto (tgt := 14) hx hb dX12_isCry_10 (by decide) ?_
      exact x_zret hQ hx hb hr hlocks hK hP hD hS rfl dX12_isCry_14 () (⟨(Or.inr rfl), (show (1 : Int32) = 0 ∨ ((1 : Int32) = 1 ∧ (ix = 0 ∨ ix = 1)) from Or.inr ⟨rfl, Or.inr c_6⟩), (show (1 : Int32) = 0 → ¬ (ix = 0 ∨ ix = 1) from fun h9 => absurd h9 (by decide))⟩) [] (by decide +kernel) rfl (Nat.le_of_ble_eq_true rfl) (Nat.le_of_ble_eq_true rfl)
theorem gdX12_isBox_0 : decode cX12_isBox 0 = .ok (.iload_n 0, 1) ∧ decode cX12_isBox 1 = .ok (.ifCond .lt 12, 3) ∧ decode cX12_isBox 13 = .ok (.iconst 0, 1) ∧ decode cX12_isBox 14 = .ok (.ireturn, 1) ∧ decode cX12_isBox 4 = .ok (.iload_n 0, 1) ∧ decode cX12_isBox 5 = .ok (.iconst 3, 1) ∧ decode cX12_isBox 6 = .ok (.if_icmp .ge 7, 3) ∧ decode cX12_isBox 9 = .ok (.iconst 1, 1) ∧ decode cX12_isBox 10 = .ok (.goto 4, 3) := by decide +kernel
theorem dX12_isBox_0 : decode cX12_isBox 0 = .ok (.iload_n 0, 1) := gdX12_isBox_0.1
theorem dX12_isBox_1 : decode cX12_isBox 1 = .ok (.ifCond .lt 12, 3) := gdX12_isBox_0.2.1
theorem dX12_isBox_13 : decode cX12_isBox 13 = .ok (.iconst 0, 1) := gdX12_isBox_0.2.2.1
theorem dX12_isBox_14 : decode cX12_isBox 14 = .ok (.ireturn, 1) := gdX12_isBox_0.2.2.2.1
theorem dX12_isBox_4 : decode cX12_isBox 4 = .ok (.iload_n 0, 1) := gdX12_isBox_0.2.2.2.2.1
theorem dX12_isBox_5 : decode cX12_isBox 5 = .ok (.iconst 3, 1) := gdX12_isBox_0.2.2.2.2.2.1
theorem dX12_isBox_6 : decode cX12_isBox 6 = .ok (.if_icmp .ge 7, 3) := gdX12_isBox_0.2.2.2.2.2.2.1
theorem dX12_isBox_9 : decode cX12_isBox 9 = .ok (.iconst 1, 1) := gdX12_isBox_0.2.2.2.2.2.2.2.1
theorem dX12_isBox_10 : decode cX12_isBox 10 = .ok (.goto 4, 3) := gdX12_isBox_0.2.2.2.2.2.2.2.2
set_option maxHeartbeats 1000000 in
set_option maxRecDepth 100000 in
theorem r_isBox (l : Launch) (D : va_G) (cy : Nat → ClassId) (ix : Int32)  : XMi l D (tyL cy) E0 yX12_isBox cX12_isBox 1 (some .boolean) (rmk 0 0 0) [.int ix] [] (fun (r : Int32) (_ : Unit) => (r = 0 ∨ r = 1) ∧ (r = 0 ∨ (r = 1 ∧ ∃ j9 : Nat, j9 < 3 ∧ ix = nI j9)) ∧ (r = 0 → ¬ inR ix 3)) (fun (_ : Unit) => []) := by
  refine XMi.start (by decide) (Nat.le_of_ble_eq_true rfl) ?_
  intro p e s m below meth c args A ls Q hat hQ
  obtain ⟨hx, hb, hr, hml, hown, hg, hlocks, hin, hK, hA, hP, hD, hS, hE, hl⟩ := hat
  have hown : s.vm.findClass RX12 = some m.cls := hown
  have hl : lv_has ls 1 [(0, .int ix)] := hl
  refine lv_iload_n hx hb dX12_isBox_0 rfl (lv_at hl 0 rfl) ?_
  refine lv_if_lt (tgt := 13) hx hb dX12_isBox_1 (by decide) (fun c_1 => ?_) (fun c_1 => ?_)
  · refine lv_iconst (v := 0) hx hb dX12_isBox_13 (by decide) ?_
    exact x_zret hQ hx hb hr hlocks hK hP hD hS rfl dX12_isBox_14 () (⟨(Or.inl rfl), (show (0 : Int32) = 0 ∨ ((0 : Int32) = 1 ∧ ∃ j9 : Nat, j9 < 3 ∧ ix = nI j9) from Or.inl rfl), (show (0 : Int32) = 0 → ¬ inR ix 3 from fun _ => inR_box (Or.inl c_1))⟩) [] (by decide +kernel) rfl (Nat.le_of_ble_eq_true rfl) (Nat.le_of_ble_eq_true rfl)
  · refine lv_iload_n hx hb dX12_isBox_4 rfl (lv_at hl 0 rfl) ?_
    refine lv_iconst (v := 3) hx hb dX12_isBox_5 (by decide) ?_
    refine lv_icmp_ge (tgt := 13) hx hb dX12_isBox_6 (by decide) (fun c_6 => ?_) (fun c_6 => ?_)
    · refine lv_iconst (v := 0) hx hb dX12_isBox_13 (by decide) ?_
      exact x_zret hQ hx hb hr hlocks hK hP hD hS rfl dX12_isBox_14 () (⟨(Or.inl rfl), (show (0 : Int32) = 0 ∨ ((0 : Int32) = 1 ∧ ∃ j9 : Nat, j9 < 3 ∧ ix = nI j9) from Or.inl rfl), (show (0 : Int32) = 0 → ¬ inR ix 3 from fun _ => inR_ge (c := 3) (by decide) c_6)⟩) [] (by decide +kernel) rfl (Nat.le_of_ble_eq_true rfl) (Nat.le_of_ble_eq_true rfl)
    · refine lv_iconst (v := 1) hx hb dX12_isBox_9 (by decide) ?_
      refine lv_goto (tgt := 14) hx hb dX12_isBox_10 (by decide) ?_
      exact x_zret hQ hx hb hr hlocks hK hP hD hS rfl dX12_isBox_14 () (⟨(Or.inr rfl), (show (1 : Int32) = 0 ∨ ((1 : Int32) = 1 ∧ ∃ j9 : Nat, j9 < 3 ∧ ix = nI j9) from Or.inr ⟨rfl, has_in (c := 3) (by decide) c_1 c_6⟩), (show (1 : Int32) = 0 → ¬ inR ix 3 from fun h9 => absurd h9 (by decide))⟩) [] (by decide +kernel) rfl (Nat.le_of_ble_eq_true rfl) (Nat.le_of_ble_eq_true rfl)
theorem gdX12_truth_0 : decode cX12_truth 0 = .ok (.iload_n 0, 1) ∧ decode cX12_truth 1 = .ok (.ifCond .eq 7, 3) ∧ decode cX12_truth 8 = .ok (.iconst 0, 1) ∧ decode cX12_truth 9 = .ok (.ireturn, 1) ∧ decode cX12_truth 4 = .ok (.iconst 1, 1) ∧ decode cX12_truth 5 = .ok (.goto 4, 3) := by decide +kernel
theorem dX12_truth_0 : decode cX12_truth 0 = .ok (.iload_n 0, 1) := gdX12_truth_0.1
theorem dX12_truth_1 : decode cX12_truth 1 = .ok (.ifCond .eq 7, 3) := gdX12_truth_0.2.1
theorem dX12_truth_8 : decode cX12_truth 8 = .ok (.iconst 0, 1) := gdX12_truth_0.2.2.1
theorem dX12_truth_9 : decode cX12_truth 9 = .ok (.ireturn, 1) := gdX12_truth_0.2.2.2.1
theorem dX12_truth_4 : decode cX12_truth 4 = .ok (.iconst 1, 1) := gdX12_truth_0.2.2.2.2.1
theorem dX12_truth_5 : decode cX12_truth 5 = .ok (.goto 4, 3) := gdX12_truth_0.2.2.2.2.2
set_option maxHeartbeats 1000000 in
set_option maxRecDepth 100000 in
theorem r_truth (l : Launch) (D : va_G) (cy : Nat → ClassId) (ix : Int32)  : XMi l D (tyL cy) E0 yX12_truth cX12_truth 1 (some .int) (rmk 0 0 0) [.int ix] [] (fun (r : Int32) (k : Nat) => (r = nI k) ∧ (k ≤ 1)) (fun (k : Nat) => []) := by
  refine XMi.start (by decide) (Nat.le_of_ble_eq_true rfl) ?_
  intro p e s m below meth c args A ls Q hat hQ
  obtain ⟨hx, hb, hr, hml, hown, hg, hlocks, hin, hK, hA, hP, hD, hS, hE, hl⟩ := hat
  have hown : s.vm.findClass RX12 = some m.cls := hown
  have hl : lv_has ls 1 [(0, .int ix)] := hl
  refine lv_iload_n hx hb dX12_truth_0 rfl (lv_at hl 0 rfl) ?_
  refine lv_if_eq (tgt := 8) hx hb dX12_truth_1 (by decide) (fun c_1 => ?_) (fun c_1 => ?_)
  · refine lv_iconst (v := 0) hx hb dX12_truth_8 (by decide) ?_
    exact x_iret hQ hx hb hr hlocks hK hP hD hS dX12_truth_9 0 (⟨rfl, (show 0 ≤ 1 from by first | assumption | omega)⟩) [] (by decide +kernel) rfl (Nat.le_of_ble_eq_true rfl) (Nat.le_of_ble_eq_true rfl)
  · refine lv_iconst (v := 1) hx hb dX12_truth_4 (by decide) ?_
    refine lv_goto (tgt := 9) hx hb dX12_truth_5 (by decide) ?_
    exact x_iret hQ hx hb hr hlocks hK hP hD hS dX12_truth_9 1 (⟨rfl, (show 1 ≤ 1 from by first | assumption | omega)⟩) [] (by decide +kernel) rfl (Nat.le_of_ble_eq_true rfl) (Nat.le_of_ble_eq_true rfl)
theorem gdX12_done_0 : decode cX12_done 0 = .ok (.iload_n 0, 1) ∧ decode cX12_done 1 = .ok (.tableswitch 214 37 62 #[143, 197, 214, 214, 214, 127, 119, 214, 123, 214, 131, 214, 214, 214, 214, 214, 214, 214, 214, 214, 214, 214, 214, 155, 183, 169], 119) ∧ decode cX12_done 215 = .ok (.iload_n 1, 1) ∧ decode cX12_done 216 = .ok (.ifCond .ne 7, 3) ∧ decode cX12_done 223 = .ok (.iconst 1, 1) ∧ decode cX12_done 224 = .ok (.goto 4, 3) ∧ decode cX12_done 228 = .ok (.invokestatic 333, 3) := by decide +kernel
theorem dX12_done_0 : decode cX12_done 0 = .ok (.iload_n 0, 1) := gdX12_done_0.1
theorem dX12_done_1 : decode cX12_done 1 = .ok (.tableswitch 214 37 62 #[143, 197, 214, 214, 214, 127, 119, 214, 123, 214, 131, 214, 214, 214, 214, 214, 214, 214, 214, 214, 214, 214, 214, 155, 183, 169], 119) := gdX12_done_0.2.1
theorem dX12_done_215 : decode cX12_done 215 = .ok (.iload_n 1, 1) := gdX12_done_0.2.2.1
theorem dX12_done_216 : decode cX12_done 216 = .ok (.ifCond .ne 7, 3) := gdX12_done_0.2.2.2.1
theorem dX12_done_223 : decode cX12_done 223 = .ok (.iconst 1, 1) := gdX12_done_0.2.2.2.2.1
theorem dX12_done_224 : decode cX12_done 224 = .ok (.goto 4, 3) := gdX12_done_0.2.2.2.2.2.1
theorem dX12_done_228 : decode cX12_done 228 = .ok (.invokestatic 333, 3) := gdX12_done_0.2.2.2.2.2.2
theorem k_X12_333 : xS RX12 333 yX12_truth cX12_truth 1 (some .int) 1 := ⟨⟨m_1975, m_1976, m_146, m_1977⟩, by decide, by decide, by decide +kernel⟩
theorem gdX12_done_231 : decode cX12_done 231 = .ok (.ireturn, 1) ∧ decode cX12_done 219 = .ok (.iload_n 2, 1) ∧ decode cX12_done 220 = .ok (.ifCond .eq 7, 3) ∧ decode cX12_done 227 = .ok (.iconst 0, 1) ∧ decode cX12_done 144 = .ok (.iload_n 2, 1) ∧ decode cX12_done 145 = .ok (.ifCond .ne 7, 3) ∧ decode cX12_done 152 = .ok (.iload_n 1, 1) ∧ decode cX12_done 153 = .ok (.iload_n 2, 1) ∧ decode cX12_done 154 = .ok (.irem, 1) ∧ decode cX12_done 155 = .ok (.ireturn, 1) ∧ decode cX12_done 148 = .ok (.iconst 0, 1) ∧ decode cX12_done 149 = .ok (.goto 6, 3) := by decide +kernel
theorem dX12_done_231 : decode cX12_done 231 = .ok (.ireturn, 1) := gdX12_done_231.1
theorem dX12_done_219 : decode cX12_done 219 = .ok (.iload_n 2, 1) := gdX12_done_231.2.1
theorem dX12_done_220 : decode cX12_done 220 = .ok (.ifCond .eq 7, 3) := gdX12_done_231.2.2.1
theorem dX12_done_227 : decode cX12_done 227 = .ok (.iconst 0, 1) := gdX12_done_231.2.2.2.1
theorem dX12_done_144 : decode cX12_done 144 = .ok (.iload_n 2, 1) := gdX12_done_231.2.2.2.2.1
theorem dX12_done_145 : decode cX12_done 145 = .ok (.ifCond .ne 7, 3) := gdX12_done_231.2.2.2.2.2.1
theorem dX12_done_152 : decode cX12_done 152 = .ok (.iload_n 1, 1) := gdX12_done_231.2.2.2.2.2.2.1
theorem dX12_done_153 : decode cX12_done 153 = .ok (.iload_n 2, 1) := gdX12_done_231.2.2.2.2.2.2.2.1
theorem dX12_done_154 : decode cX12_done 154 = .ok (.irem, 1) := gdX12_done_231.2.2.2.2.2.2.2.2.1
theorem dX12_done_155 : decode cX12_done 155 = .ok (.ireturn, 1) := gdX12_done_231.2.2.2.2.2.2.2.2.2.1
theorem dX12_done_148 : decode cX12_done 148 = .ok (.iconst 0, 1) := gdX12_done_231.2.2.2.2.2.2.2.2.2.2.1
theorem dX12_done_149 : decode cX12_done 149 = .ok (.goto 6, 3) := gdX12_done_231.2.2.2.2.2.2.2.2.2.2.2
theorem gdX12_done_198 : decode cX12_done 198 = .ok (.iload_n 1, 1) ∧ decode cX12_done 199 = .ok (.ifCond .eq 11, 3) ∧ decode cX12_done 210 = .ok (.iconst 0, 1) ∧ decode cX12_done 211 = .ok (.invokestatic 333, 3) ∧ decode cX12_done 214 = .ok (.ireturn, 1) ∧ decode cX12_done 202 = .ok (.iload_n 2, 1) ∧ decode cX12_done 203 = .ok (.ifCond .eq 7, 3) ∧ decode cX12_done 206 = .ok (.iconst 1, 1) ∧ decode cX12_done 207 = .ok (.goto 4, 3) ∧ decode cX12_done 128 = .ok (.iload_n 1, 1) ∧ decode cX12_done 129 = .ok (.iload_n 2, 1) ∧ decode cX12_done 130 = .ok (.imul, 1) := by decide +kernel
theorem dX12_done_198 : decode cX12_done 198 = .ok (.iload_n 1, 1) := gdX12_done_198.1
theorem dX12_done_199 : decode cX12_done 199 = .ok (.ifCond .eq 11, 3) := gdX12_done_198.2.1
theorem dX12_done_210 : decode cX12_done 210 = .ok (.iconst 0, 1) := gdX12_done_198.2.2.1
theorem dX12_done_211 : decode cX12_done 211 = .ok (.invokestatic 333, 3) := gdX12_done_198.2.2.2.1
theorem dX12_done_214 : decode cX12_done 214 = .ok (.ireturn, 1) := gdX12_done_198.2.2.2.2.1
theorem dX12_done_202 : decode cX12_done 202 = .ok (.iload_n 2, 1) := gdX12_done_198.2.2.2.2.2.1
theorem dX12_done_203 : decode cX12_done 203 = .ok (.ifCond .eq 7, 3) := gdX12_done_198.2.2.2.2.2.2.1
theorem dX12_done_206 : decode cX12_done 206 = .ok (.iconst 1, 1) := gdX12_done_198.2.2.2.2.2.2.2.1
theorem dX12_done_207 : decode cX12_done 207 = .ok (.goto 4, 3) := gdX12_done_198.2.2.2.2.2.2.2.2.1
theorem dX12_done_128 : decode cX12_done 128 = .ok (.iload_n 1, 1) := gdX12_done_198.2.2.2.2.2.2.2.2.2.1
theorem dX12_done_129 : decode cX12_done 129 = .ok (.iload_n 2, 1) := gdX12_done_198.2.2.2.2.2.2.2.2.2.2.1
theorem dX12_done_130 : decode cX12_done 130 = .ok (.imul, 1) := gdX12_done_198.2.2.2.2.2.2.2.2.2.2.2
theorem gdX12_done_131 : decode cX12_done 131 = .ok (.ireturn, 1) ∧ decode cX12_done 120 = .ok (.iload_n 1, 1) ∧ decode cX12_done 121 = .ok (.iload_n 2, 1) ∧ decode cX12_done 122 = .ok (.iadd, 1) ∧ decode cX12_done 123 = .ok (.ireturn, 1) ∧ decode cX12_done 124 = .ok (.iload_n 1, 1) ∧ decode cX12_done 125 = .ok (.iload_n 2, 1) ∧ decode cX12_done 126 = .ok (.isub, 1) ∧ decode cX12_done 127 = .ok (.ireturn, 1) ∧ decode cX12_done 132 = .ok (.iload_n 2, 1) ∧ decode cX12_done 133 = .ok (.ifCond .ne 7, 3) ∧ decode cX12_done 140 = .ok (.iload_n 1, 1) := by decide +kernel
theorem dX12_done_131 : decode cX12_done 131 = .ok (.ireturn, 1) := gdX12_done_131.1
theorem dX12_done_120 : decode cX12_done 120 = .ok (.iload_n 1, 1) := gdX12_done_131.2.1
theorem dX12_done_121 : decode cX12_done 121 = .ok (.iload_n 2, 1) := gdX12_done_131.2.2.1
theorem dX12_done_122 : decode cX12_done 122 = .ok (.iadd, 1) := gdX12_done_131.2.2.2.1
theorem dX12_done_123 : decode cX12_done 123 = .ok (.ireturn, 1) := gdX12_done_131.2.2.2.2.1
theorem dX12_done_124 : decode cX12_done 124 = .ok (.iload_n 1, 1) := gdX12_done_131.2.2.2.2.2.1
theorem dX12_done_125 : decode cX12_done 125 = .ok (.iload_n 2, 1) := gdX12_done_131.2.2.2.2.2.2.1
theorem dX12_done_126 : decode cX12_done 126 = .ok (.isub, 1) := gdX12_done_131.2.2.2.2.2.2.2.1
theorem dX12_done_127 : decode cX12_done 127 = .ok (.ireturn, 1) := gdX12_done_131.2.2.2.2.2.2.2.2.1
theorem dX12_done_132 : decode cX12_done 132 = .ok (.iload_n 2, 1) := gdX12_done_131.2.2.2.2.2.2.2.2.2.1
theorem dX12_done_133 : decode cX12_done 133 = .ok (.ifCond .ne 7, 3) := gdX12_done_131.2.2.2.2.2.2.2.2.2.2.1
theorem dX12_done_140 : decode cX12_done 140 = .ok (.iload_n 1, 1) := gdX12_done_131.2.2.2.2.2.2.2.2.2.2.2
theorem gdX12_done_141 : decode cX12_done 141 = .ok (.iload_n 2, 1) ∧ decode cX12_done 142 = .ok (.idiv, 1) ∧ decode cX12_done 143 = .ok (.ireturn, 1) ∧ decode cX12_done 136 = .ok (.iconst 0, 1) ∧ decode cX12_done 137 = .ok (.goto 6, 3) ∧ decode cX12_done 156 = .ok (.iload_n 1, 1) ∧ decode cX12_done 157 = .ok (.iload_n 2, 1) ∧ decode cX12_done 158 = .ok (.if_icmp .ge 7, 3) ∧ decode cX12_done 165 = .ok (.iconst 0, 1) ∧ decode cX12_done 166 = .ok (.invokestatic 333, 3) ∧ decode cX12_done 169 = .ok (.ireturn, 1) ∧ decode cX12_done 161 = .ok (.iconst 1, 1) := by decide +kernel
theorem dX12_done_141 : decode cX12_done 141 = .ok (.iload_n 2, 1) := gdX12_done_141.1
theorem dX12_done_142 : decode cX12_done 142 = .ok (.idiv, 1) := gdX12_done_141.2.1
theorem dX12_done_143 : decode cX12_done 143 = .ok (.ireturn, 1) := gdX12_done_141.2.2.1
theorem dX12_done_136 : decode cX12_done 136 = .ok (.iconst 0, 1) := gdX12_done_141.2.2.2.1
theorem dX12_done_137 : decode cX12_done 137 = .ok (.goto 6, 3) := gdX12_done_141.2.2.2.2.1
theorem dX12_done_156 : decode cX12_done 156 = .ok (.iload_n 1, 1) := gdX12_done_141.2.2.2.2.2.1
theorem dX12_done_157 : decode cX12_done 157 = .ok (.iload_n 2, 1) := gdX12_done_141.2.2.2.2.2.2.1
theorem dX12_done_158 : decode cX12_done 158 = .ok (.if_icmp .ge 7, 3) := gdX12_done_141.2.2.2.2.2.2.2.1
theorem dX12_done_165 : decode cX12_done 165 = .ok (.iconst 0, 1) := gdX12_done_141.2.2.2.2.2.2.2.2.1
theorem dX12_done_166 : decode cX12_done 166 = .ok (.invokestatic 333, 3) := gdX12_done_141.2.2.2.2.2.2.2.2.2.1
theorem dX12_done_169 : decode cX12_done 169 = .ok (.ireturn, 1) := gdX12_done_141.2.2.2.2.2.2.2.2.2.2.1
theorem dX12_done_161 : decode cX12_done 161 = .ok (.iconst 1, 1) := gdX12_done_141.2.2.2.2.2.2.2.2.2.2.2
theorem gdX12_done_162 : decode cX12_done 162 = .ok (.goto 4, 3) ∧ decode cX12_done 184 = .ok (.iload_n 1, 1) ∧ decode cX12_done 185 = .ok (.iload_n 2, 1) ∧ decode cX12_done 186 = .ok (.if_icmp .ne 7, 3) ∧ decode cX12_done 193 = .ok (.iconst 0, 1) ∧ decode cX12_done 194 = .ok (.invokestatic 333, 3) ∧ decode cX12_done 197 = .ok (.ireturn, 1) ∧ decode cX12_done 189 = .ok (.iconst 1, 1) ∧ decode cX12_done 190 = .ok (.goto 4, 3) ∧ decode cX12_done 170 = .ok (.iload_n 1, 1) ∧ decode cX12_done 171 = .ok (.iload_n 2, 1) ∧ decode cX12_done 172 = .ok (.if_icmp .le 7, 3) := by decide +kernel
theorem dX12_done_162 : decode cX12_done 162 = .ok (.goto 4, 3) := gdX12_done_162.1
theorem dX12_done_184 : decode cX12_done 184 = .ok (.iload_n 1, 1) := gdX12_done_162.2.1
theorem dX12_done_185 : decode cX12_done 185 = .ok (.iload_n 2, 1) := gdX12_done_162.2.2.1
theorem dX12_done_186 : decode cX12_done 186 = .ok (.if_icmp .ne 7, 3) := gdX12_done_162.2.2.2.1
theorem dX12_done_193 : decode cX12_done 193 = .ok (.iconst 0, 1) := gdX12_done_162.2.2.2.2.1
theorem dX12_done_194 : decode cX12_done 194 = .ok (.invokestatic 333, 3) := gdX12_done_162.2.2.2.2.2.1
theorem dX12_done_197 : decode cX12_done 197 = .ok (.ireturn, 1) := gdX12_done_162.2.2.2.2.2.2.1
theorem dX12_done_189 : decode cX12_done 189 = .ok (.iconst 1, 1) := gdX12_done_162.2.2.2.2.2.2.2.1
theorem dX12_done_190 : decode cX12_done 190 = .ok (.goto 4, 3) := gdX12_done_162.2.2.2.2.2.2.2.2.1
theorem dX12_done_170 : decode cX12_done 170 = .ok (.iload_n 1, 1) := gdX12_done_162.2.2.2.2.2.2.2.2.2.1
theorem dX12_done_171 : decode cX12_done 171 = .ok (.iload_n 2, 1) := gdX12_done_162.2.2.2.2.2.2.2.2.2.2.1
theorem dX12_done_172 : decode cX12_done 172 = .ok (.if_icmp .le 7, 3) := gdX12_done_162.2.2.2.2.2.2.2.2.2.2.2
theorem gdX12_done_179 : decode cX12_done 179 = .ok (.iconst 0, 1) ∧ decode cX12_done 180 = .ok (.invokestatic 333, 3) ∧ decode cX12_done 183 = .ok (.ireturn, 1) ∧ decode cX12_done 175 = .ok (.iconst 1, 1) ∧ decode cX12_done 176 = .ok (.goto 4, 3) := by decide +kernel
theorem dX12_done_179 : decode cX12_done 179 = .ok (.iconst 0, 1) := gdX12_done_179.1
theorem dX12_done_180 : decode cX12_done 180 = .ok (.invokestatic 333, 3) := gdX12_done_179.2.1
theorem dX12_done_183 : decode cX12_done 183 = .ok (.ireturn, 1) := gdX12_done_179.2.2.1
theorem dX12_done_175 : decode cX12_done 175 = .ok (.iconst 1, 1) := gdX12_done_179.2.2.2.1
theorem dX12_done_176 : decode cX12_done 176 = .ok (.goto 4, 3) := gdX12_done_179.2.2.2.2
set_option maxHeartbeats 1000000 in
set_option maxRecDepth 100000 in
theorem r_done (l : Launch) (D : va_G) (cy : Nat → ClassId) (ix : Int32) (xa : Int32) (xb : Int32)  : XMi l D (tyL cy) E0 yX12_done cX12_done 3 (some .int) (rmk 1 0 0) [.int ix, .int xa, .int xb] [] (fun (r : Int32) (_ : Unit) => True) (fun (_ : Unit) => []) := by
  refine XMi.start (by decide) (Nat.le_of_ble_eq_true rfl) ?_
  intro p e s m below meth c args A ls Q hat hQ
  obtain ⟨hx, hb, hr, hml, hown, hg, hlocks, hin, hK, hA, hP, hD, hS, hE, hl⟩ := hat
  have hown : s.vm.findClass RX12 = some m.cls := hown
  have hl : lv_has ls 3 [(0, .int ix), (1, .int xa), (2, .int xb)] := hl
  refine lv_iload_n hx hb dX12_done_0 rfl (lv_at hl 0 rfl) ?_
  rcases sw_lo ix 37 62 (by decide) (by decide) with hs | ⟨j, hj1, hj2, rfl⟩
  · refine lv_tableOut (tgt := 215) hx hb dX12_done_1 (by omega) (by decide) ?_
    refine lv_iload_n hx hb dX12_done_215 rfl (lv_at hl 1 rfl) ?_
    refine lv_if_ne (tgt := 223) hx hb dX12_done_216 (by decide) (fun c_216 => ?_) (fun c_216 => ?_)
    · refine lv_iconst (v := 1) hx hb dX12_done_223 (by decide) ?_
      refine lv_goto (tgt := 228) hx hb dX12_done_224 (by decide) ?_
      refine x_callSi (wr := []) (rest := []) ⟨hx, hb, hml, hown, hg, hl.1⟩ k_X12_333 (r_truth l D cy 1) E0_blind hK hP hD hS hA [] [] ⟨rfl, rfl, by decide +kernel, by decide +kernel, by decide +kernel⟩ (fun _ _ _ => trivial) dX12_done_228 rfl rfl (Nat.le_of_ble_eq_true rfl) ⟨Nat.le_of_ble_eq_true rfl, Nat.le_of_ble_eq_true rfl⟩ ⟨Nat.le_of_ble_eq_true rfl, Nat.le_of_ble_eq_true rfl⟩ (fun zr1 zu1 H locs hw1 hP9 hD9 hS9 => ?_)
      clear hP hD hS
      obtain ⟨k_2, rfl⟩ : ∃ z, z = zu1 := ⟨_, rfl⟩
      refine reW [] hP9 hD9 hS9 (fun hP hD hS => ?_)
      clear hP9 hD9 hS9
      refine W.widen (k := 0) (n := 0) (Nat.le_of_ble_eq_true rfl) (Nat.le_of_ble_eq_true rfl) ?_
      change (zr1 = nI k_2) ∧ (k_2 ≤ 1) at hw1
      obtain ⟨f_3, f_4⟩ := hw1
      subst f_3
      exact x_iret hQ hx hb hr hlocks hK hP hD hS dX12_done_231 () (trivial) [] (by decide +kernel) rfl (Nat.le_of_ble_eq_true rfl) (Nat.le_of_ble_eq_true rfl)
    · refine lv_iload_n hx hb dX12_done_219 rfl (lv_at hl 2 rfl) ?_
      refine lv_if_eq (tgt := 227) hx hb dX12_done_220 (by decide) (fun c_220 => ?_) (fun c_220 => ?_)
      · refine lv_iconst (v := 0) hx hb dX12_done_227 (by decide) ?_
        refine x_callSi (wr := []) (rest := []) ⟨hx, hb, hml, hown, hg, hl.1⟩ k_X12_333 (r_truth l D cy 0) E0_blind hK hP hD hS hA [] [] ⟨rfl, rfl, by decide +kernel, by decide +kernel, by decide +kernel⟩ (fun _ _ _ => trivial) dX12_done_228 rfl rfl (Nat.le_of_ble_eq_true rfl) ⟨Nat.le_of_ble_eq_true rfl, Nat.le_of_ble_eq_true rfl⟩ ⟨Nat.le_of_ble_eq_true rfl, Nat.le_of_ble_eq_true rfl⟩ (fun zr5 zu5 H locs hw5 hP9 hD9 hS9 => ?_)
        clear hP hD hS
        obtain ⟨k_6, rfl⟩ : ∃ z, z = zu5 := ⟨_, rfl⟩
        refine reW [] hP9 hD9 hS9 (fun hP hD hS => ?_)
        clear hP9 hD9 hS9
        refine W.widen (k := 0) (n := 0) (Nat.le_of_ble_eq_true rfl) (Nat.le_of_ble_eq_true rfl) ?_
        change (zr5 = nI k_6) ∧ (k_6 ≤ 1) at hw5
        obtain ⟨f_7, f_8⟩ := hw5
        subst f_7
        exact x_iret hQ hx hb hr hlocks hK hP hD hS dX12_done_231 () (trivial) [] (by decide +kernel) rfl (Nat.le_of_ble_eq_true rfl) (Nat.le_of_ble_eq_true rfl)
      · refine lv_iconst (v := 1) hx hb dX12_done_223 (by decide) ?_
        refine lv_goto (tgt := 228) hx hb dX12_done_224 (by decide) ?_
        refine x_callSi (wr := []) (rest := []) ⟨hx, hb, hml, hown, hg, hl.1⟩ k_X12_333 (r_truth l D cy 1) E0_blind hK hP hD hS hA [] [] ⟨rfl, rfl, by decide +kernel, by decide +kernel, by decide +kernel⟩ (fun _ _ _ => trivial) dX12_done_228 rfl rfl (Nat.le_of_ble_eq_true rfl) ⟨Nat.le_of_ble_eq_true rfl, Nat.le_of_ble_eq_true rfl⟩ ⟨Nat.le_of_ble_eq_true rfl, Nat.le_of_ble_eq_true rfl⟩ (fun zr9 zu9 H locs hw9 hP9 hD9 hS9 => ?_)
        clear hP hD hS
        obtain ⟨k_10, rfl⟩ : ∃ z, z = zu9 := ⟨_, rfl⟩
        refine reW [] hP9 hD9 hS9 (fun hP hD hS => ?_)
        clear hP9 hD9 hS9
        refine W.widen (k := 0) (n := 0) (Nat.le_of_ble_eq_true rfl) (Nat.le_of_ble_eq_true rfl) ?_
        change (zr9 = nI k_10) ∧ (k_10 ≤ 1) at hw9
        obtain ⟨f_11, f_12⟩ := hw9
        subst f_11
        exact x_iret hQ hx hb hr hlocks hK hP hD hS dX12_done_231 () (trivial) [] (by decide +kernel) rfl (Nat.le_of_ble_eq_true rfl) (Nat.le_of_ble_eq_true rfl)
  · rcases (show j = 37 ∨ j = 38 ∨ j = 39 ∨ j = 40 ∨ j = 41 ∨ j = 42 ∨ j = 43 ∨ j = 44 ∨ j = 45 ∨ j = 46 ∨ j = 47 ∨ j = 48 ∨ j = 49 ∨ j = 50 ∨ j = 51 ∨ j = 52 ∨ j = 53 ∨ j = 54 ∨ j = 55 ∨ j = 56 ∨ j = 57 ∨ j = 58 ∨ j = 59 ∨ j = 60 ∨ j = 61 ∨ j = 62 by omega) with rfl | rfl | rfl | rfl | rfl | rfl | rfl | rfl | rfl | rfl | rfl | rfl | rfl | rfl | rfl | rfl | rfl | rfl | rfl | rfl | rfl | rfl | rfl | rfl | rfl | rfl
    · refine lv_tableIn (off := 143) (tgt := 144) hx hb dX12_done_1 (by decide) (by decide) (by decide) (by decide) ?_
      refine lv_iload_n hx hb dX12_done_144 rfl (lv_at hl 2 rfl) ?_
      refine lv_if_ne (tgt := 152) hx hb dX12_done_145 (by decide) (fun c_145 => ?_) (fun c_145 => ?_)
      · refine lv_iload_n hx hb dX12_done_152 rfl (lv_at hl 1 rfl) ?_
        refine lv_iload_n hx hb dX12_done_153 rfl (lv_at hl 2 rfl) ?_
        refine lv_irem hx hb dX12_done_154 c_145 ?_
        refine lv_topi (fun x_13 ex_13 => ?_)
        exact x_iret hQ hx hb hr hlocks hK hP hD hS dX12_done_155 () (trivial) [] (by decide +kernel) rfl (Nat.le_of_ble_eq_true rfl) (Nat.le_of_ble_eq_true rfl)
      · refine lv_iconst (v := 0) hx hb dX12_done_148 (by decide) ?_
        refine lv_goto (tgt := 155) hx hb dX12_done_149 (by decide) ?_
        exact x_iret hQ hx hb hr hlocks hK hP hD hS dX12_done_155 () (trivial) [] (by decide +kernel) rfl (Nat.le_of_ble_eq_true rfl) (Nat.le_of_ble_eq_true rfl)
    · refine lv_tableIn (off := 197) (tgt := 198) hx hb dX12_done_1 (by decide) (by decide) (by decide) (by decide) ?_
      refine lv_iload_n hx hb dX12_done_198 rfl (lv_at hl 1 rfl) ?_
      refine lv_if_eq (tgt := 210) hx hb dX12_done_199 (by decide) (fun c_199 => ?_) (fun c_199 => ?_)
      · refine lv_iconst (v := 0) hx hb dX12_done_210 (by decide) ?_
        refine x_callSi (wr := []) (rest := []) ⟨hx, hb, hml, hown, hg, hl.1⟩ k_X12_333 (r_truth l D cy 0) E0_blind hK hP hD hS hA [] [] ⟨rfl, rfl, by decide +kernel, by decide +kernel, by decide +kernel⟩ (fun _ _ _ => trivial) dX12_done_211 rfl rfl (Nat.le_of_ble_eq_true rfl) ⟨Nat.le_of_ble_eq_true rfl, Nat.le_of_ble_eq_true rfl⟩ ⟨Nat.le_of_ble_eq_true rfl, Nat.le_of_ble_eq_true rfl⟩ (fun zr14 zu14 H locs hw14 hP9 hD9 hS9 => ?_)
        clear hP hD hS
        obtain ⟨k_15, rfl⟩ : ∃ z, z = zu14 := ⟨_, rfl⟩
        refine reW [] hP9 hD9 hS9 (fun hP hD hS => ?_)
        clear hP9 hD9 hS9
        refine W.widen (k := 0) (n := 0) (Nat.le_of_ble_eq_true rfl) (Nat.le_of_ble_eq_true rfl) ?_
        change (zr14 = nI k_15) ∧ (k_15 ≤ 1) at hw14
        obtain ⟨f_16, f_17⟩ := hw14
        subst f_16
        exact x_iret hQ hx hb hr hlocks hK hP hD hS dX12_done_214 () (trivial) [] (by decide +kernel) rfl (Nat.le_of_ble_eq_true rfl) (Nat.le_of_ble_eq_true rfl)
      · refine lv_iload_n hx hb dX12_done_202 rfl (lv_at hl 2 rfl) ?_
        refine lv_if_eq (tgt := 210) hx hb dX12_done_203 (by decide) (fun c_203 => ?_) (fun c_203 => ?_)
        · refine lv_iconst (v := 0) hx hb dX12_done_210 (by decide) ?_
          refine x_callSi (wr := []) (rest := []) ⟨hx, hb, hml, hown, hg, hl.1⟩ k_X12_333 (r_truth l D cy 0) E0_blind hK hP hD hS hA [] [] ⟨rfl, rfl, by decide +kernel, by decide +kernel, by decide +kernel⟩ (fun _ _ _ => trivial) dX12_done_211 rfl rfl (Nat.le_of_ble_eq_true rfl) ⟨Nat.le_of_ble_eq_true rfl, Nat.le_of_ble_eq_true rfl⟩ ⟨Nat.le_of_ble_eq_true rfl, Nat.le_of_ble_eq_true rfl⟩ (fun zr18 zu18 H locs hw18 hP9 hD9 hS9 => ?_)
          clear hP hD hS
          obtain ⟨k_19, rfl⟩ : ∃ z, z = zu18 := ⟨_, rfl⟩
          refine reW [] hP9 hD9 hS9 (fun hP hD hS => ?_)
          clear hP9 hD9 hS9
          refine W.widen (k := 0) (n := 0) (Nat.le_of_ble_eq_true rfl) (Nat.le_of_ble_eq_true rfl) ?_
          change (zr18 = nI k_19) ∧ (k_19 ≤ 1) at hw18
          obtain ⟨f_20, f_21⟩ := hw18
          subst f_20
          exact x_iret hQ hx hb hr hlocks hK hP hD hS dX12_done_214 () (trivial) [] (by decide +kernel) rfl (Nat.le_of_ble_eq_true rfl) (Nat.le_of_ble_eq_true rfl)
        · refine lv_iconst (v := 1) hx hb dX12_done_206 (by decide) ?_
          refine lv_goto (tgt := 211) hx hb dX12_done_207 (by decide) ?_
          refine x_callSi (wr := []) (rest := []) ⟨hx, hb, hml, hown, hg, hl.1⟩ k_X12_333 (r_truth l D cy 1) E0_blind hK hP hD hS hA [] [] ⟨rfl, rfl, by decide +kernel, by decide +kernel, by decide +kernel⟩ (fun _ _ _ => trivial) dX12_done_211 rfl rfl (Nat.le_of_ble_eq_true rfl) ⟨Nat.le_of_ble_eq_true rfl, Nat.le_of_ble_eq_true rfl⟩ ⟨Nat.le_of_ble_eq_true rfl, Nat.le_of_ble_eq_true rfl⟩ (fun zr22 zu22 H locs hw22 hP9 hD9 hS9 => ?_)
          clear hP hD hS
          obtain ⟨k_23, rfl⟩ : ∃ z, z = zu22 := ⟨_, rfl⟩
          refine reW [] hP9 hD9 hS9 (fun hP hD hS => ?_)
          clear hP9 hD9 hS9
          refine W.widen (k := 0) (n := 0) (Nat.le_of_ble_eq_true rfl) (Nat.le_of_ble_eq_true rfl) ?_
          change (zr22 = nI k_23) ∧ (k_23 ≤ 1) at hw22
          obtain ⟨f_24, f_25⟩ := hw22
          subst f_24
          exact x_iret hQ hx hb hr hlocks hK hP hD hS dX12_done_214 () (trivial) [] (by decide +kernel) rfl (Nat.le_of_ble_eq_true rfl) (Nat.le_of_ble_eq_true rfl)
    · refine lv_tableIn (off := 214) (tgt := 215) hx hb dX12_done_1 (by decide) (by decide) (by decide) (by decide) ?_
      refine lv_iload_n hx hb dX12_done_215 rfl (lv_at hl 1 rfl) ?_
      refine lv_if_ne (tgt := 223) hx hb dX12_done_216 (by decide) (fun c_216 => ?_) (fun c_216 => ?_)
      · refine lv_iconst (v := 1) hx hb dX12_done_223 (by decide) ?_
        refine lv_goto (tgt := 228) hx hb dX12_done_224 (by decide) ?_
        refine x_callSi (wr := []) (rest := []) ⟨hx, hb, hml, hown, hg, hl.1⟩ k_X12_333 (r_truth l D cy 1) E0_blind hK hP hD hS hA [] [] ⟨rfl, rfl, by decide +kernel, by decide +kernel, by decide +kernel⟩ (fun _ _ _ => trivial) dX12_done_228 rfl rfl (Nat.le_of_ble_eq_true rfl) ⟨Nat.le_of_ble_eq_true rfl, Nat.le_of_ble_eq_true rfl⟩ ⟨Nat.le_of_ble_eq_true rfl, Nat.le_of_ble_eq_true rfl⟩ (fun zr26 zu26 H locs hw26 hP9 hD9 hS9 => ?_)
        clear hP hD hS
        obtain ⟨k_27, rfl⟩ : ∃ z, z = zu26 := ⟨_, rfl⟩
        refine reW [] hP9 hD9 hS9 (fun hP hD hS => ?_)
        clear hP9 hD9 hS9
        refine W.widen (k := 0) (n := 0) (Nat.le_of_ble_eq_true rfl) (Nat.le_of_ble_eq_true rfl) ?_
        change (zr26 = nI k_27) ∧ (k_27 ≤ 1) at hw26
        obtain ⟨f_28, f_29⟩ := hw26
        subst f_28
        exact x_iret hQ hx hb hr hlocks hK hP hD hS dX12_done_231 () (trivial) [] (by decide +kernel) rfl (Nat.le_of_ble_eq_true rfl) (Nat.le_of_ble_eq_true rfl)
      · refine lv_iload_n hx hb dX12_done_219 rfl (lv_at hl 2 rfl) ?_
        refine lv_if_eq (tgt := 227) hx hb dX12_done_220 (by decide) (fun c_220 => ?_) (fun c_220 => ?_)
        · refine lv_iconst (v := 0) hx hb dX12_done_227 (by decide) ?_
          refine x_callSi (wr := []) (rest := []) ⟨hx, hb, hml, hown, hg, hl.1⟩ k_X12_333 (r_truth l D cy 0) E0_blind hK hP hD hS hA [] [] ⟨rfl, rfl, by decide +kernel, by decide +kernel, by decide +kernel⟩ (fun _ _ _ => trivial) dX12_done_228 rfl rfl (Nat.le_of_ble_eq_true rfl) ⟨Nat.le_of_ble_eq_true rfl, Nat.le_of_ble_eq_true rfl⟩ ⟨Nat.le_of_ble_eq_true rfl, Nat.le_of_ble_eq_true rfl⟩ (fun zr30 zu30 H locs hw30 hP9 hD9 hS9 => ?_)
          clear hP hD hS
          obtain ⟨k_31, rfl⟩ : ∃ z, z = zu30 := ⟨_, rfl⟩
          refine reW [] hP9 hD9 hS9 (fun hP hD hS => ?_)
          clear hP9 hD9 hS9
          refine W.widen (k := 0) (n := 0) (Nat.le_of_ble_eq_true rfl) (Nat.le_of_ble_eq_true rfl) ?_
          change (zr30 = nI k_31) ∧ (k_31 ≤ 1) at hw30
          obtain ⟨f_32, f_33⟩ := hw30
          subst f_32
          exact x_iret hQ hx hb hr hlocks hK hP hD hS dX12_done_231 () (trivial) [] (by decide +kernel) rfl (Nat.le_of_ble_eq_true rfl) (Nat.le_of_ble_eq_true rfl)
        · refine lv_iconst (v := 1) hx hb dX12_done_223 (by decide) ?_
          refine lv_goto (tgt := 228) hx hb dX12_done_224 (by decide) ?_
          refine x_callSi (wr := []) (rest := []) ⟨hx, hb, hml, hown, hg, hl.1⟩ k_X12_333 (r_truth l D cy 1) E0_blind hK hP hD hS hA [] [] ⟨rfl, rfl, by decide +kernel, by decide +kernel, by decide +kernel⟩ (fun _ _ _ => trivial) dX12_done_228 rfl rfl (Nat.le_of_ble_eq_true rfl) ⟨Nat.le_of_ble_eq_true rfl, Nat.le_of_ble_eq_true rfl⟩ ⟨Nat.le_of_ble_eq_true rfl, Nat.le_of_ble_eq_true rfl⟩ (fun zr34 zu34 H locs hw34 hP9 hD9 hS9 => ?_)
          clear hP hD hS
          obtain ⟨k_35, rfl⟩ : ∃ z, z = zu34 := ⟨_, rfl⟩
          refine reW [] hP9 hD9 hS9 (fun hP hD hS => ?_)
          clear hP9 hD9 hS9
          refine W.widen (k := 0) (n := 0) (Nat.le_of_ble_eq_true rfl) (Nat.le_of_ble_eq_true rfl) ?_
          change (zr34 = nI k_35) ∧ (k_35 ≤ 1) at hw34
          obtain ⟨f_36, f_37⟩ := hw34
          subst f_36
          exact x_iret hQ hx hb hr hlocks hK hP hD hS dX12_done_231 () (trivial) [] (by decide +kernel) rfl (Nat.le_of_ble_eq_true rfl) (Nat.le_of_ble_eq_true rfl)
    · refine lv_tableIn (off := 214) (tgt := 215) hx hb dX12_done_1 (by decide) (by decide) (by decide) (by decide) ?_
      refine lv_iload_n hx hb dX12_done_215 rfl (lv_at hl 1 rfl) ?_
      refine lv_if_ne (tgt := 223) hx hb dX12_done_216 (by decide) (fun c_216 => ?_) (fun c_216 => ?_)
      · refine lv_iconst (v := 1) hx hb dX12_done_223 (by decide) ?_
        refine lv_goto (tgt := 228) hx hb dX12_done_224 (by decide) ?_
        refine x_callSi (wr := []) (rest := []) ⟨hx, hb, hml, hown, hg, hl.1⟩ k_X12_333 (r_truth l D cy 1) E0_blind hK hP hD hS hA [] [] ⟨rfl, rfl, by decide +kernel, by decide +kernel, by decide +kernel⟩ (fun _ _ _ => trivial) dX12_done_228 rfl rfl (Nat.le_of_ble_eq_true rfl) ⟨Nat.le_of_ble_eq_true rfl, Nat.le_of_ble_eq_true rfl⟩ ⟨Nat.le_of_ble_eq_true rfl, Nat.le_of_ble_eq_true rfl⟩ (fun zr38 zu38 H locs hw38 hP9 hD9 hS9 => ?_)
        clear hP hD hS
        obtain ⟨k_39, rfl⟩ : ∃ z, z = zu38 := ⟨_, rfl⟩
        refine reW [] hP9 hD9 hS9 (fun hP hD hS => ?_)
        clear hP9 hD9 hS9
        refine W.widen (k := 0) (n := 0) (Nat.le_of_ble_eq_true rfl) (Nat.le_of_ble_eq_true rfl) ?_
        change (zr38 = nI k_39) ∧ (k_39 ≤ 1) at hw38
        obtain ⟨f_40, f_41⟩ := hw38
        subst f_40
        exact x_iret hQ hx hb hr hlocks hK hP hD hS dX12_done_231 () (trivial) [] (by decide +kernel) rfl (Nat.le_of_ble_eq_true rfl) (Nat.le_of_ble_eq_true rfl)
      · refine lv_iload_n hx hb dX12_done_219 rfl (lv_at hl 2 rfl) ?_
        refine lv_if_eq (tgt := 227) hx hb dX12_done_220 (by decide) (fun c_220 => ?_) (fun c_220 => ?_)
        · refine lv_iconst (v := 0) hx hb dX12_done_227 (by decide) ?_
          refine x_callSi (wr := []) (rest := []) ⟨hx, hb, hml, hown, hg, hl.1⟩ k_X12_333 (r_truth l D cy 0) E0_blind hK hP hD hS hA [] [] ⟨rfl, rfl, by decide +kernel, by decide +kernel, by decide +kernel⟩ (fun _ _ _ => trivial) dX12_done_228 rfl rfl (Nat.le_of_ble_eq_true rfl) ⟨Nat.le_of_ble_eq_true rfl, Nat.le_of_ble_eq_true rfl⟩ ⟨Nat.le_of_ble_eq_true rfl, Nat.le_of_ble_eq_true rfl⟩ (fun zr42 zu42 H locs hw42 hP9 hD9 hS9 => ?_)
          clear hP hD hS
          obtain ⟨k_43, rfl⟩ : ∃ z, z = zu42 := ⟨_, rfl⟩
          refine reW [] hP9 hD9 hS9 (fun hP hD hS => ?_)
          clear hP9 hD9 hS9
          refine W.widen (k := 0) (n := 0) (Nat.le_of_ble_eq_true rfl) (Nat.le_of_ble_eq_true rfl) ?_
          change (zr42 = nI k_43) ∧ (k_43 ≤ 1) at hw42
          obtain ⟨f_44, f_45⟩ := hw42
          subst f_44
          exact x_iret hQ hx hb hr hlocks hK hP hD hS dX12_done_231 () (trivial) [] (by decide +kernel) rfl (Nat.le_of_ble_eq_true rfl) (Nat.le_of_ble_eq_true rfl)
        · refine lv_iconst (v := 1) hx hb dX12_done_223 (by decide) ?_
          refine lv_goto (tgt := 228) hx hb dX12_done_224 (by decide) ?_
          refine x_callSi (wr := []) (rest := []) ⟨hx, hb, hml, hown, hg, hl.1⟩ k_X12_333 (r_truth l D cy 1) E0_blind hK hP hD hS hA [] [] ⟨rfl, rfl, by decide +kernel, by decide +kernel, by decide +kernel⟩ (fun _ _ _ => trivial) dX12_done_228 rfl rfl (Nat.le_of_ble_eq_true rfl) ⟨Nat.le_of_ble_eq_true rfl, Nat.le_of_ble_eq_true rfl⟩ ⟨Nat.le_of_ble_eq_true rfl, Nat.le_of_ble_eq_true rfl⟩ (fun zr46 zu46 H locs hw46 hP9 hD9 hS9 => ?_)
          clear hP hD hS
          obtain ⟨k_47, rfl⟩ : ∃ z, z = zu46 := ⟨_, rfl⟩
          refine reW [] hP9 hD9 hS9 (fun hP hD hS => ?_)
          clear hP9 hD9 hS9
          refine W.widen (k := 0) (n := 0) (Nat.le_of_ble_eq_true rfl) (Nat.le_of_ble_eq_true rfl) ?_
          change (zr46 = nI k_47) ∧ (k_47 ≤ 1) at hw46
          obtain ⟨f_48, f_49⟩ := hw46
          subst f_48
          exact x_iret hQ hx hb hr hlocks hK hP hD hS dX12_done_231 () (trivial) [] (by decide +kernel) rfl (Nat.le_of_ble_eq_true rfl) (Nat.le_of_ble_eq_true rfl)
    · refine lv_tableIn (off := 214) (tgt := 215) hx hb dX12_done_1 (by decide) (by decide) (by decide) (by decide) ?_
      refine lv_iload_n hx hb dX12_done_215 rfl (lv_at hl 1 rfl) ?_
      refine lv_if_ne (tgt := 223) hx hb dX12_done_216 (by decide) (fun c_216 => ?_) (fun c_216 => ?_)
      · refine lv_iconst (v := 1) hx hb dX12_done_223 (by decide) ?_
        refine lv_goto (tgt := 228) hx hb dX12_done_224 (by decide) ?_
        refine x_callSi (wr := []) (rest := []) ⟨hx, hb, hml, hown, hg, hl.1⟩ k_X12_333 (r_truth l D cy 1) E0_blind hK hP hD hS hA [] [] ⟨rfl, rfl, by decide +kernel, by decide +kernel, by decide +kernel⟩ (fun _ _ _ => trivial) dX12_done_228 rfl rfl (Nat.le_of_ble_eq_true rfl) ⟨Nat.le_of_ble_eq_true rfl, Nat.le_of_ble_eq_true rfl⟩ ⟨Nat.le_of_ble_eq_true rfl, Nat.le_of_ble_eq_true rfl⟩ (fun zr50 zu50 H locs hw50 hP9 hD9 hS9 => ?_)
        clear hP hD hS
        obtain ⟨k_51, rfl⟩ : ∃ z, z = zu50 := ⟨_, rfl⟩
        refine reW [] hP9 hD9 hS9 (fun hP hD hS => ?_)
        clear hP9 hD9 hS9
        refine W.widen (k := 0) (n := 0) (Nat.le_of_ble_eq_true rfl) (Nat.le_of_ble_eq_true rfl) ?_
        change (zr50 = nI k_51) ∧ (k_51 ≤ 1) at hw50
        obtain ⟨f_52, f_53⟩ := hw50
        subst f_52
        exact x_iret hQ hx hb hr hlocks hK hP hD hS dX12_done_231 () (trivial) [] (by decide +kernel) rfl (Nat.le_of_ble_eq_true rfl) (Nat.le_of_ble_eq_true rfl)
      · refine lv_iload_n hx hb dX12_done_219 rfl (lv_at hl 2 rfl) ?_
        refine lv_if_eq (tgt := 227) hx hb dX12_done_220 (by decide) (fun c_220 => ?_) (fun c_220 => ?_)
        · refine lv_iconst (v := 0) hx hb dX12_done_227 (by decide) ?_
          refine x_callSi (wr := []) (rest := []) ⟨hx, hb, hml, hown, hg, hl.1⟩ k_X12_333 (r_truth l D cy 0) E0_blind hK hP hD hS hA [] [] ⟨rfl, rfl, by decide +kernel, by decide +kernel, by decide +kernel⟩ (fun _ _ _ => trivial) dX12_done_228 rfl rfl (Nat.le_of_ble_eq_true rfl) ⟨Nat.le_of_ble_eq_true rfl, Nat.le_of_ble_eq_true rfl⟩ ⟨Nat.le_of_ble_eq_true rfl, Nat.le_of_ble_eq_true rfl⟩ (fun zr54 zu54 H locs hw54 hP9 hD9 hS9 => ?_)
          clear hP hD hS
          obtain ⟨k_55, rfl⟩ : ∃ z, z = zu54 := ⟨_, rfl⟩
          refine reW [] hP9 hD9 hS9 (fun hP hD hS => ?_)
          clear hP9 hD9 hS9
          refine W.widen (k := 0) (n := 0) (Nat.le_of_ble_eq_true rfl) (Nat.le_of_ble_eq_true rfl) ?_
          change (zr54 = nI k_55) ∧ (k_55 ≤ 1) at hw54
          obtain ⟨f_56, f_57⟩ := hw54
          subst f_56
          exact x_iret hQ hx hb hr hlocks hK hP hD hS dX12_done_231 () (trivial) [] (by decide +kernel) rfl (Nat.le_of_ble_eq_true rfl) (Nat.le_of_ble_eq_true rfl)
        · refine lv_iconst (v := 1) hx hb dX12_done_223 (by decide) ?_
          refine lv_goto (tgt := 228) hx hb dX12_done_224 (by decide) ?_
          refine x_callSi (wr := []) (rest := []) ⟨hx, hb, hml, hown, hg, hl.1⟩ k_X12_333 (r_truth l D cy 1) E0_blind hK hP hD hS hA [] [] ⟨rfl, rfl, by decide +kernel, by decide +kernel, by decide +kernel⟩ (fun _ _ _ => trivial) dX12_done_228 rfl rfl (Nat.le_of_ble_eq_true rfl) ⟨Nat.le_of_ble_eq_true rfl, Nat.le_of_ble_eq_true rfl⟩ ⟨Nat.le_of_ble_eq_true rfl, Nat.le_of_ble_eq_true rfl⟩ (fun zr58 zu58 H locs hw58 hP9 hD9 hS9 => ?_)
          clear hP hD hS
          obtain ⟨k_59, rfl⟩ : ∃ z, z = zu58 := ⟨_, rfl⟩
          refine reW [] hP9 hD9 hS9 (fun hP hD hS => ?_)
          clear hP9 hD9 hS9
          refine W.widen (k := 0) (n := 0) (Nat.le_of_ble_eq_true rfl) (Nat.le_of_ble_eq_true rfl) ?_
          change (zr58 = nI k_59) ∧ (k_59 ≤ 1) at hw58
          obtain ⟨f_60, f_61⟩ := hw58
          subst f_60
          exact x_iret hQ hx hb hr hlocks hK hP hD hS dX12_done_231 () (trivial) [] (by decide +kernel) rfl (Nat.le_of_ble_eq_true rfl) (Nat.le_of_ble_eq_true rfl)
    · refine lv_tableIn (off := 127) (tgt := 128) hx hb dX12_done_1 (by decide) (by decide) (by decide) (by decide) ?_
      refine lv_iload_n hx hb dX12_done_128 rfl (lv_at hl 1 rfl) ?_
      refine lv_iload_n hx hb dX12_done_129 rfl (lv_at hl 2 rfl) ?_
      refine lv_imul hx hb dX12_done_130 ?_
      refine lv_topi (fun x_62 ex_62 => ?_)
      exact x_iret hQ hx hb hr hlocks hK hP hD hS dX12_done_131 () (trivial) [] (by decide +kernel) rfl (Nat.le_of_ble_eq_true rfl) (Nat.le_of_ble_eq_true rfl)
    · refine lv_tableIn (off := 119) (tgt := 120) hx hb dX12_done_1 (by decide) (by decide) (by decide) (by decide) ?_
      refine lv_iload_n hx hb dX12_done_120 rfl (lv_at hl 1 rfl) ?_
      refine lv_iload_n hx hb dX12_done_121 rfl (lv_at hl 2 rfl) ?_
      refine lv_iadd hx hb dX12_done_122 ?_
      refine lv_topi (fun x_63 ex_63 => ?_)
      exact x_iret hQ hx hb hr hlocks hK hP hD hS dX12_done_123 () (trivial) [] (by decide +kernel) rfl (Nat.le_of_ble_eq_true rfl) (Nat.le_of_ble_eq_true rfl)
    · refine lv_tableIn (off := 214) (tgt := 215) hx hb dX12_done_1 (by decide) (by decide) (by decide) (by decide) ?_
      refine lv_iload_n hx hb dX12_done_215 rfl (lv_at hl 1 rfl) ?_
      refine lv_if_ne (tgt := 223) hx hb dX12_done_216 (by decide) (fun c_216 => ?_) (fun c_216 => ?_)
      · refine lv_iconst (v := 1) hx hb dX12_done_223 (by decide) ?_
        refine lv_goto (tgt := 228) hx hb dX12_done_224 (by decide) ?_
        refine x_callSi (wr := []) (rest := []) ⟨hx, hb, hml, hown, hg, hl.1⟩ k_X12_333 (r_truth l D cy 1) E0_blind hK hP hD hS hA [] [] ⟨rfl, rfl, by decide +kernel, by decide +kernel, by decide +kernel⟩ (fun _ _ _ => trivial) dX12_done_228 rfl rfl (Nat.le_of_ble_eq_true rfl) ⟨Nat.le_of_ble_eq_true rfl, Nat.le_of_ble_eq_true rfl⟩ ⟨Nat.le_of_ble_eq_true rfl, Nat.le_of_ble_eq_true rfl⟩ (fun zr64 zu64 H locs hw64 hP9 hD9 hS9 => ?_)
        clear hP hD hS
        obtain ⟨k_65, rfl⟩ : ∃ z, z = zu64 := ⟨_, rfl⟩
        refine reW [] hP9 hD9 hS9 (fun hP hD hS => ?_)
        clear hP9 hD9 hS9
        refine W.widen (k := 0) (n := 0) (Nat.le_of_ble_eq_true rfl) (Nat.le_of_ble_eq_true rfl) ?_
        change (zr64 = nI k_65) ∧ (k_65 ≤ 1) at hw64
        obtain ⟨f_66, f_67⟩ := hw64
        subst f_66
        exact x_iret hQ hx hb hr hlocks hK hP hD hS dX12_done_231 () (trivial) [] (by decide +kernel) rfl (Nat.le_of_ble_eq_true rfl) (Nat.le_of_ble_eq_true rfl)
      · refine lv_iload_n hx hb dX12_done_219 rfl (lv_at hl 2 rfl) ?_
        refine lv_if_eq (tgt := 227) hx hb dX12_done_220 (by decide) (fun c_220 => ?_) (fun c_220 => ?_)
        · refine lv_iconst (v := 0) hx hb dX12_done_227 (by decide) ?_
          refine x_callSi (wr := []) (rest := []) ⟨hx, hb, hml, hown, hg, hl.1⟩ k_X12_333 (r_truth l D cy 0) E0_blind hK hP hD hS hA [] [] ⟨rfl, rfl, by decide +kernel, by decide +kernel, by decide +kernel⟩ (fun _ _ _ => trivial) dX12_done_228 rfl rfl (Nat.le_of_ble_eq_true rfl) ⟨Nat.le_of_ble_eq_true rfl, Nat.le_of_ble_eq_true rfl⟩ ⟨Nat.le_of_ble_eq_true rfl, Nat.le_of_ble_eq_true rfl⟩ (fun zr68 zu68 H locs hw68 hP9 hD9 hS9 => ?_)
          clear hP hD hS
          obtain ⟨k_69, rfl⟩ : ∃ z, z = zu68 := ⟨_, rfl⟩
          refine reW [] hP9 hD9 hS9 (fun hP hD hS => ?_)
          clear hP9 hD9 hS9
          refine W.widen (k := 0) (n := 0) (Nat.le_of_ble_eq_true rfl) (Nat.le_of_ble_eq_true rfl) ?_
          change (zr68 = nI k_69) ∧ (k_69 ≤ 1) at hw68
          obtain ⟨f_70, f_71⟩ := hw68
          subst f_70
          exact x_iret hQ hx hb hr hlocks hK hP hD hS dX12_done_231 () (trivial) [] (by decide +kernel) rfl (Nat.le_of_ble_eq_true rfl) (Nat.le_of_ble_eq_true rfl)
        · refine lv_iconst (v := 1) hx hb dX12_done_223 (by decide) ?_
          refine lv_goto (tgt := 228) hx hb dX12_done_224 (by decide) ?_
          refine x_callSi (wr := []) (rest := []) ⟨hx, hb, hml, hown, hg, hl.1⟩ k_X12_333 (r_truth l D cy 1) E0_blind hK hP hD hS hA [] [] ⟨rfl, rfl, by decide +kernel, by decide +kernel, by decide +kernel⟩ (fun _ _ _ => trivial) dX12_done_228 rfl rfl (Nat.le_of_ble_eq_true rfl) ⟨Nat.le_of_ble_eq_true rfl, Nat.le_of_ble_eq_true rfl⟩ ⟨Nat.le_of_ble_eq_true rfl, Nat.le_of_ble_eq_true rfl⟩ (fun zr72 zu72 H locs hw72 hP9 hD9 hS9 => ?_)
          clear hP hD hS
          obtain ⟨k_73, rfl⟩ : ∃ z, z = zu72 := ⟨_, rfl⟩
          refine reW [] hP9 hD9 hS9 (fun hP hD hS => ?_)
          clear hP9 hD9 hS9
          refine W.widen (k := 0) (n := 0) (Nat.le_of_ble_eq_true rfl) (Nat.le_of_ble_eq_true rfl) ?_
          change (zr72 = nI k_73) ∧ (k_73 ≤ 1) at hw72
          obtain ⟨f_74, f_75⟩ := hw72
          subst f_74
          exact x_iret hQ hx hb hr hlocks hK hP hD hS dX12_done_231 () (trivial) [] (by decide +kernel) rfl (Nat.le_of_ble_eq_true rfl) (Nat.le_of_ble_eq_true rfl)
    · refine lv_tableIn (off := 123) (tgt := 124) hx hb dX12_done_1 (by decide) (by decide) (by decide) (by decide) ?_
      refine lv_iload_n hx hb dX12_done_124 rfl (lv_at hl 1 rfl) ?_
      refine lv_iload_n hx hb dX12_done_125 rfl (lv_at hl 2 rfl) ?_
      refine lv_isub hx hb dX12_done_126 ?_
      refine lv_topi (fun x_76 ex_76 => ?_)
      exact x_iret hQ hx hb hr hlocks hK hP hD hS dX12_done_127 () (trivial) [] (by decide +kernel) rfl (Nat.le_of_ble_eq_true rfl) (Nat.le_of_ble_eq_true rfl)
    · refine lv_tableIn (off := 214) (tgt := 215) hx hb dX12_done_1 (by decide) (by decide) (by decide) (by decide) ?_
      refine lv_iload_n hx hb dX12_done_215 rfl (lv_at hl 1 rfl) ?_
      refine lv_if_ne (tgt := 223) hx hb dX12_done_216 (by decide) (fun c_216 => ?_) (fun c_216 => ?_)
      · refine lv_iconst (v := 1) hx hb dX12_done_223 (by decide) ?_
        refine lv_goto (tgt := 228) hx hb dX12_done_224 (by decide) ?_
        refine x_callSi (wr := []) (rest := []) ⟨hx, hb, hml, hown, hg, hl.1⟩ k_X12_333 (r_truth l D cy 1) E0_blind hK hP hD hS hA [] [] ⟨rfl, rfl, by decide +kernel, by decide +kernel, by decide +kernel⟩ (fun _ _ _ => trivial) dX12_done_228 rfl rfl (Nat.le_of_ble_eq_true rfl) ⟨Nat.le_of_ble_eq_true rfl, Nat.le_of_ble_eq_true rfl⟩ ⟨Nat.le_of_ble_eq_true rfl, Nat.le_of_ble_eq_true rfl⟩ (fun zr77 zu77 H locs hw77 hP9 hD9 hS9 => ?_)
        clear hP hD hS
        obtain ⟨k_78, rfl⟩ : ∃ z, z = zu77 := ⟨_, rfl⟩
        refine reW [] hP9 hD9 hS9 (fun hP hD hS => ?_)
        clear hP9 hD9 hS9
        refine W.widen (k := 0) (n := 0) (Nat.le_of_ble_eq_true rfl) (Nat.le_of_ble_eq_true rfl) ?_
        change (zr77 = nI k_78) ∧ (k_78 ≤ 1) at hw77
        obtain ⟨f_79, f_80⟩ := hw77
        subst f_79
        exact x_iret hQ hx hb hr hlocks hK hP hD hS dX12_done_231 () (trivial) [] (by decide +kernel) rfl (Nat.le_of_ble_eq_true rfl) (Nat.le_of_ble_eq_true rfl)
      · refine lv_iload_n hx hb dX12_done_219 rfl (lv_at hl 2 rfl) ?_
        refine lv_if_eq (tgt := 227) hx hb dX12_done_220 (by decide) (fun c_220 => ?_) (fun c_220 => ?_)
        · refine lv_iconst (v := 0) hx hb dX12_done_227 (by decide) ?_
          refine x_callSi (wr := []) (rest := []) ⟨hx, hb, hml, hown, hg, hl.1⟩ k_X12_333 (r_truth l D cy 0) E0_blind hK hP hD hS hA [] [] ⟨rfl, rfl, by decide +kernel, by decide +kernel, by decide +kernel⟩ (fun _ _ _ => trivial) dX12_done_228 rfl rfl (Nat.le_of_ble_eq_true rfl) ⟨Nat.le_of_ble_eq_true rfl, Nat.le_of_ble_eq_true rfl⟩ ⟨Nat.le_of_ble_eq_true rfl, Nat.le_of_ble_eq_true rfl⟩ (fun zr81 zu81 H locs hw81 hP9 hD9 hS9 => ?_)
          clear hP hD hS
          obtain ⟨k_82, rfl⟩ : ∃ z, z = zu81 := ⟨_, rfl⟩
          refine reW [] hP9 hD9 hS9 (fun hP hD hS => ?_)
          clear hP9 hD9 hS9
          refine W.widen (k := 0) (n := 0) (Nat.le_of_ble_eq_true rfl) (Nat.le_of_ble_eq_true rfl) ?_
          change (zr81 = nI k_82) ∧ (k_82 ≤ 1) at hw81
          obtain ⟨f_83, f_84⟩ := hw81
          subst f_83
          exact x_iret hQ hx hb hr hlocks hK hP hD hS dX12_done_231 () (trivial) [] (by decide +kernel) rfl (Nat.le_of_ble_eq_true rfl) (Nat.le_of_ble_eq_true rfl)
        · refine lv_iconst (v := 1) hx hb dX12_done_223 (by decide) ?_
          refine lv_goto (tgt := 228) hx hb dX12_done_224 (by decide) ?_
          refine x_callSi (wr := []) (rest := []) ⟨hx, hb, hml, hown, hg, hl.1⟩ k_X12_333 (r_truth l D cy 1) E0_blind hK hP hD hS hA [] [] ⟨rfl, rfl, by decide +kernel, by decide +kernel, by decide +kernel⟩ (fun _ _ _ => trivial) dX12_done_228 rfl rfl (Nat.le_of_ble_eq_true rfl) ⟨Nat.le_of_ble_eq_true rfl, Nat.le_of_ble_eq_true rfl⟩ ⟨Nat.le_of_ble_eq_true rfl, Nat.le_of_ble_eq_true rfl⟩ (fun zr85 zu85 H locs hw85 hP9 hD9 hS9 => ?_)
          clear hP hD hS
          obtain ⟨k_86, rfl⟩ : ∃ z, z = zu85 := ⟨_, rfl⟩
          refine reW [] hP9 hD9 hS9 (fun hP hD hS => ?_)
          clear hP9 hD9 hS9
          refine W.widen (k := 0) (n := 0) (Nat.le_of_ble_eq_true rfl) (Nat.le_of_ble_eq_true rfl) ?_
          change (zr85 = nI k_86) ∧ (k_86 ≤ 1) at hw85
          obtain ⟨f_87, f_88⟩ := hw85
          subst f_87
          exact x_iret hQ hx hb hr hlocks hK hP hD hS dX12_done_231 () (trivial) [] (by decide +kernel) rfl (Nat.le_of_ble_eq_true rfl) (Nat.le_of_ble_eq_true rfl)
    · refine lv_tableIn (off := 131) (tgt := 132) hx hb dX12_done_1 (by decide) (by decide) (by decide) (by decide) ?_
      refine lv_iload_n hx hb dX12_done_132 rfl (lv_at hl 2 rfl) ?_
      refine lv_if_ne (tgt := 140) hx hb dX12_done_133 (by decide) (fun c_133 => ?_) (fun c_133 => ?_)
      · refine lv_iload_n hx hb dX12_done_140 rfl (lv_at hl 1 rfl) ?_
        refine lv_iload_n hx hb dX12_done_141 rfl (lv_at hl 2 rfl) ?_
        refine lv_idiv hx hb dX12_done_142 c_133 ?_
        refine lv_topi (fun x_89 ex_89 => ?_)
        exact x_iret hQ hx hb hr hlocks hK hP hD hS dX12_done_143 () (trivial) [] (by decide +kernel) rfl (Nat.le_of_ble_eq_true rfl) (Nat.le_of_ble_eq_true rfl)
      · refine lv_iconst (v := 0) hx hb dX12_done_136 (by decide) ?_
        refine lv_goto (tgt := 143) hx hb dX12_done_137 (by decide) ?_
        exact x_iret hQ hx hb hr hlocks hK hP hD hS dX12_done_143 () (trivial) [] (by decide +kernel) rfl (Nat.le_of_ble_eq_true rfl) (Nat.le_of_ble_eq_true rfl)
    · refine lv_tableIn (off := 214) (tgt := 215) hx hb dX12_done_1 (by decide) (by decide) (by decide) (by decide) ?_
      refine lv_iload_n hx hb dX12_done_215 rfl (lv_at hl 1 rfl) ?_
      refine lv_if_ne (tgt := 223) hx hb dX12_done_216 (by decide) (fun c_216 => ?_) (fun c_216 => ?_)
      · refine lv_iconst (v := 1) hx hb dX12_done_223 (by decide) ?_
        refine lv_goto (tgt := 228) hx hb dX12_done_224 (by decide) ?_
        refine x_callSi (wr := []) (rest := []) ⟨hx, hb, hml, hown, hg, hl.1⟩ k_X12_333 (r_truth l D cy 1) E0_blind hK hP hD hS hA [] [] ⟨rfl, rfl, by decide +kernel, by decide +kernel, by decide +kernel⟩ (fun _ _ _ => trivial) dX12_done_228 rfl rfl (Nat.le_of_ble_eq_true rfl) ⟨Nat.le_of_ble_eq_true rfl, Nat.le_of_ble_eq_true rfl⟩ ⟨Nat.le_of_ble_eq_true rfl, Nat.le_of_ble_eq_true rfl⟩ (fun zr90 zu90 H locs hw90 hP9 hD9 hS9 => ?_)
        clear hP hD hS
        obtain ⟨k_91, rfl⟩ : ∃ z, z = zu90 := ⟨_, rfl⟩
        refine reW [] hP9 hD9 hS9 (fun hP hD hS => ?_)
        clear hP9 hD9 hS9
        refine W.widen (k := 0) (n := 0) (Nat.le_of_ble_eq_true rfl) (Nat.le_of_ble_eq_true rfl) ?_
        change (zr90 = nI k_91) ∧ (k_91 ≤ 1) at hw90
        obtain ⟨f_92, f_93⟩ := hw90
        subst f_92
        exact x_iret hQ hx hb hr hlocks hK hP hD hS dX12_done_231 () (trivial) [] (by decide +kernel) rfl (Nat.le_of_ble_eq_true rfl) (Nat.le_of_ble_eq_true rfl)
      · refine lv_iload_n hx hb dX12_done_219 rfl (lv_at hl 2 rfl) ?_
        refine lv_if_eq (tgt := 227) hx hb dX12_done_220 (by decide) (fun c_220 => ?_) (fun c_220 => ?_)
        · refine lv_iconst (v := 0) hx hb dX12_done_227 (by decide) ?_
          refine x_callSi (wr := []) (rest := []) ⟨hx, hb, hml, hown, hg, hl.1⟩ k_X12_333 (r_truth l D cy 0) E0_blind hK hP hD hS hA [] [] ⟨rfl, rfl, by decide +kernel, by decide +kernel, by decide +kernel⟩ (fun _ _ _ => trivial) dX12_done_228 rfl rfl (Nat.le_of_ble_eq_true rfl) ⟨Nat.le_of_ble_eq_true rfl, Nat.le_of_ble_eq_true rfl⟩ ⟨Nat.le_of_ble_eq_true rfl, Nat.le_of_ble_eq_true rfl⟩ (fun zr94 zu94 H locs hw94 hP9 hD9 hS9 => ?_)
          clear hP hD hS
          obtain ⟨k_95, rfl⟩ : ∃ z, z = zu94 := ⟨_, rfl⟩
          refine reW [] hP9 hD9 hS9 (fun hP hD hS => ?_)
          clear hP9 hD9 hS9
          refine W.widen (k := 0) (n := 0) (Nat.le_of_ble_eq_true rfl) (Nat.le_of_ble_eq_true rfl) ?_
          change (zr94 = nI k_95) ∧ (k_95 ≤ 1) at hw94
          obtain ⟨f_96, f_97⟩ := hw94
          subst f_96
          exact x_iret hQ hx hb hr hlocks hK hP hD hS dX12_done_231 () (trivial) [] (by decide +kernel) rfl (Nat.le_of_ble_eq_true rfl) (Nat.le_of_ble_eq_true rfl)
        · refine lv_iconst (v := 1) hx hb dX12_done_223 (by decide) ?_
          refine lv_goto (tgt := 228) hx hb dX12_done_224 (by decide) ?_
          refine x_callSi (wr := []) (rest := []) ⟨hx, hb, hml, hown, hg, hl.1⟩ k_X12_333 (r_truth l D cy 1) E0_blind hK hP hD hS hA [] [] ⟨rfl, rfl, by decide +kernel, by decide +kernel, by decide +kernel⟩ (fun _ _ _ => trivial) dX12_done_228 rfl rfl (Nat.le_of_ble_eq_true rfl) ⟨Nat.le_of_ble_eq_true rfl, Nat.le_of_ble_eq_true rfl⟩ ⟨Nat.le_of_ble_eq_true rfl, Nat.le_of_ble_eq_true rfl⟩ (fun zr98 zu98 H locs hw98 hP9 hD9 hS9 => ?_)
          clear hP hD hS
          obtain ⟨k_99, rfl⟩ : ∃ z, z = zu98 := ⟨_, rfl⟩
          refine reW [] hP9 hD9 hS9 (fun hP hD hS => ?_)
          clear hP9 hD9 hS9
          refine W.widen (k := 0) (n := 0) (Nat.le_of_ble_eq_true rfl) (Nat.le_of_ble_eq_true rfl) ?_
          change (zr98 = nI k_99) ∧ (k_99 ≤ 1) at hw98
          obtain ⟨f_100, f_101⟩ := hw98
          subst f_100
          exact x_iret hQ hx hb hr hlocks hK hP hD hS dX12_done_231 () (trivial) [] (by decide +kernel) rfl (Nat.le_of_ble_eq_true rfl) (Nat.le_of_ble_eq_true rfl)
    · refine lv_tableIn (off := 214) (tgt := 215) hx hb dX12_done_1 (by decide) (by decide) (by decide) (by decide) ?_
      refine lv_iload_n hx hb dX12_done_215 rfl (lv_at hl 1 rfl) ?_
      refine lv_if_ne (tgt := 223) hx hb dX12_done_216 (by decide) (fun c_216 => ?_) (fun c_216 => ?_)
      · refine lv_iconst (v := 1) hx hb dX12_done_223 (by decide) ?_
        refine lv_goto (tgt := 228) hx hb dX12_done_224 (by decide) ?_
        refine x_callSi (wr := []) (rest := []) ⟨hx, hb, hml, hown, hg, hl.1⟩ k_X12_333 (r_truth l D cy 1) E0_blind hK hP hD hS hA [] [] ⟨rfl, rfl, by decide +kernel, by decide +kernel, by decide +kernel⟩ (fun _ _ _ => trivial) dX12_done_228 rfl rfl (Nat.le_of_ble_eq_true rfl) ⟨Nat.le_of_ble_eq_true rfl, Nat.le_of_ble_eq_true rfl⟩ ⟨Nat.le_of_ble_eq_true rfl, Nat.le_of_ble_eq_true rfl⟩ (fun zr102 zu102 H locs hw102 hP9 hD9 hS9 => ?_)
        clear hP hD hS
        obtain ⟨k_103, rfl⟩ : ∃ z, z = zu102 := ⟨_, rfl⟩
        refine reW [] hP9 hD9 hS9 (fun hP hD hS => ?_)
        clear hP9 hD9 hS9
        refine W.widen (k := 0) (n := 0) (Nat.le_of_ble_eq_true rfl) (Nat.le_of_ble_eq_true rfl) ?_
        change (zr102 = nI k_103) ∧ (k_103 ≤ 1) at hw102
        obtain ⟨f_104, f_105⟩ := hw102
        subst f_104
        exact x_iret hQ hx hb hr hlocks hK hP hD hS dX12_done_231 () (trivial) [] (by decide +kernel) rfl (Nat.le_of_ble_eq_true rfl) (Nat.le_of_ble_eq_true rfl)
      · refine lv_iload_n hx hb dX12_done_219 rfl (lv_at hl 2 rfl) ?_
        refine lv_if_eq (tgt := 227) hx hb dX12_done_220 (by decide) (fun c_220 => ?_) (fun c_220 => ?_)
        · refine lv_iconst (v := 0) hx hb dX12_done_227 (by decide) ?_
          refine x_callSi (wr := []) (rest := []) ⟨hx, hb, hml, hown, hg, hl.1⟩ k_X12_333 (r_truth l D cy 0) E0_blind hK hP hD hS hA [] [] ⟨rfl, rfl, by decide +kernel, by decide +kernel, by decide +kernel⟩ (fun _ _ _ => trivial) dX12_done_228 rfl rfl (Nat.le_of_ble_eq_true rfl) ⟨Nat.le_of_ble_eq_true rfl, Nat.le_of_ble_eq_true rfl⟩ ⟨Nat.le_of_ble_eq_true rfl, Nat.le_of_ble_eq_true rfl⟩ (fun zr106 zu106 H locs hw106 hP9 hD9 hS9 => ?_)
          clear hP hD hS
          obtain ⟨k_107, rfl⟩ : ∃ z, z = zu106 := ⟨_, rfl⟩
          refine reW [] hP9 hD9 hS9 (fun hP hD hS => ?_)
          clear hP9 hD9 hS9
          refine W.widen (k := 0) (n := 0) (Nat.le_of_ble_eq_true rfl) (Nat.le_of_ble_eq_true rfl) ?_
          change (zr106 = nI k_107) ∧ (k_107 ≤ 1) at hw106
          obtain ⟨f_108, f_109⟩ := hw106
          subst f_108
          exact x_iret hQ hx hb hr hlocks hK hP hD hS dX12_done_231 () (trivial) [] (by decide +kernel) rfl (Nat.le_of_ble_eq_true rfl) (Nat.le_of_ble_eq_true rfl)
        · refine lv_iconst (v := 1) hx hb dX12_done_223 (by decide) ?_
          refine lv_goto (tgt := 228) hx hb dX12_done_224 (by decide) ?_
          refine x_callSi (wr := []) (rest := []) ⟨hx, hb, hml, hown, hg, hl.1⟩ k_X12_333 (r_truth l D cy 1) E0_blind hK hP hD hS hA [] [] ⟨rfl, rfl, by decide +kernel, by decide +kernel, by decide +kernel⟩ (fun _ _ _ => trivial) dX12_done_228 rfl rfl (Nat.le_of_ble_eq_true rfl) ⟨Nat.le_of_ble_eq_true rfl, Nat.le_of_ble_eq_true rfl⟩ ⟨Nat.le_of_ble_eq_true rfl, Nat.le_of_ble_eq_true rfl⟩ (fun zr110 zu110 H locs hw110 hP9 hD9 hS9 => ?_)
          clear hP hD hS
          obtain ⟨k_111, rfl⟩ : ∃ z, z = zu110 := ⟨_, rfl⟩
          refine reW [] hP9 hD9 hS9 (fun hP hD hS => ?_)
          clear hP9 hD9 hS9
          refine W.widen (k := 0) (n := 0) (Nat.le_of_ble_eq_true rfl) (Nat.le_of_ble_eq_true rfl) ?_
          change (zr110 = nI k_111) ∧ (k_111 ≤ 1) at hw110
          obtain ⟨f_112, f_113⟩ := hw110
          subst f_112
          exact x_iret hQ hx hb hr hlocks hK hP hD hS dX12_done_231 () (trivial) [] (by decide +kernel) rfl (Nat.le_of_ble_eq_true rfl) (Nat.le_of_ble_eq_true rfl)
    · refine lv_tableIn (off := 214) (tgt := 215) hx hb dX12_done_1 (by decide) (by decide) (by decide) (by decide) ?_
      refine lv_iload_n hx hb dX12_done_215 rfl (lv_at hl 1 rfl) ?_
      refine lv_if_ne (tgt := 223) hx hb dX12_done_216 (by decide) (fun c_216 => ?_) (fun c_216 => ?_)
      · refine lv_iconst (v := 1) hx hb dX12_done_223 (by decide) ?_
        refine lv_goto (tgt := 228) hx hb dX12_done_224 (by decide) ?_
        refine x_callSi (wr := []) (rest := []) ⟨hx, hb, hml, hown, hg, hl.1⟩ k_X12_333 (r_truth l D cy 1) E0_blind hK hP hD hS hA [] [] ⟨rfl, rfl, by decide +kernel, by decide +kernel, by decide +kernel⟩ (fun _ _ _ => trivial) dX12_done_228 rfl rfl (Nat.le_of_ble_eq_true rfl) ⟨Nat.le_of_ble_eq_true rfl, Nat.le_of_ble_eq_true rfl⟩ ⟨Nat.le_of_ble_eq_true rfl, Nat.le_of_ble_eq_true rfl⟩ (fun zr114 zu114 H locs hw114 hP9 hD9 hS9 => ?_)
        clear hP hD hS
        obtain ⟨k_115, rfl⟩ : ∃ z, z = zu114 := ⟨_, rfl⟩
        refine reW [] hP9 hD9 hS9 (fun hP hD hS => ?_)
        clear hP9 hD9 hS9
        refine W.widen (k := 0) (n := 0) (Nat.le_of_ble_eq_true rfl) (Nat.le_of_ble_eq_true rfl) ?_
        change (zr114 = nI k_115) ∧ (k_115 ≤ 1) at hw114
        obtain ⟨f_116, f_117⟩ := hw114
        subst f_116
        exact x_iret hQ hx hb hr hlocks hK hP hD hS dX12_done_231 () (trivial) [] (by decide +kernel) rfl (Nat.le_of_ble_eq_true rfl) (Nat.le_of_ble_eq_true rfl)
      · refine lv_iload_n hx hb dX12_done_219 rfl (lv_at hl 2 rfl) ?_
        refine lv_if_eq (tgt := 227) hx hb dX12_done_220 (by decide) (fun c_220 => ?_) (fun c_220 => ?_)
        · refine lv_iconst (v := 0) hx hb dX12_done_227 (by decide) ?_
          refine x_callSi (wr := []) (rest := []) ⟨hx, hb, hml, hown, hg, hl.1⟩ k_X12_333 (r_truth l D cy 0) E0_blind hK hP hD hS hA [] [] ⟨rfl, rfl, by decide +kernel, by decide +kernel, by decide +kernel⟩ (fun _ _ _ => trivial) dX12_done_228 rfl rfl (Nat.le_of_ble_eq_true rfl) ⟨Nat.le_of_ble_eq_true rfl, Nat.le_of_ble_eq_true rfl⟩ ⟨Nat.le_of_ble_eq_true rfl, Nat.le_of_ble_eq_true rfl⟩ (fun zr118 zu118 H locs hw118 hP9 hD9 hS9 => ?_)
          clear hP hD hS
          obtain ⟨k_119, rfl⟩ : ∃ z, z = zu118 := ⟨_, rfl⟩
          refine reW [] hP9 hD9 hS9 (fun hP hD hS => ?_)
          clear hP9 hD9 hS9
          refine W.widen (k := 0) (n := 0) (Nat.le_of_ble_eq_true rfl) (Nat.le_of_ble_eq_true rfl) ?_
          change (zr118 = nI k_119) ∧ (k_119 ≤ 1) at hw118
          obtain ⟨f_120, f_121⟩ := hw118
          subst f_120
          exact x_iret hQ hx hb hr hlocks hK hP hD hS dX12_done_231 () (trivial) [] (by decide +kernel) rfl (Nat.le_of_ble_eq_true rfl) (Nat.le_of_ble_eq_true rfl)
        · refine lv_iconst (v := 1) hx hb dX12_done_223 (by decide) ?_
          refine lv_goto (tgt := 228) hx hb dX12_done_224 (by decide) ?_
          refine x_callSi (wr := []) (rest := []) ⟨hx, hb, hml, hown, hg, hl.1⟩ k_X12_333 (r_truth l D cy 1) E0_blind hK hP hD hS hA [] [] ⟨rfl, rfl, by decide +kernel, by decide +kernel, by decide +kernel⟩ (fun _ _ _ => trivial) dX12_done_228 rfl rfl (Nat.le_of_ble_eq_true rfl) ⟨Nat.le_of_ble_eq_true rfl, Nat.le_of_ble_eq_true rfl⟩ ⟨Nat.le_of_ble_eq_true rfl, Nat.le_of_ble_eq_true rfl⟩ (fun zr122 zu122 H locs hw122 hP9 hD9 hS9 => ?_)
          clear hP hD hS
          obtain ⟨k_123, rfl⟩ : ∃ z, z = zu122 := ⟨_, rfl⟩
          refine reW [] hP9 hD9 hS9 (fun hP hD hS => ?_)
          clear hP9 hD9 hS9
          refine W.widen (k := 0) (n := 0) (Nat.le_of_ble_eq_true rfl) (Nat.le_of_ble_eq_true rfl) ?_
          change (zr122 = nI k_123) ∧ (k_123 ≤ 1) at hw122
          obtain ⟨f_124, f_125⟩ := hw122
          subst f_124
          exact x_iret hQ hx hb hr hlocks hK hP hD hS dX12_done_231 () (trivial) [] (by decide +kernel) rfl (Nat.le_of_ble_eq_true rfl) (Nat.le_of_ble_eq_true rfl)
    · refine lv_tableIn (off := 214) (tgt := 215) hx hb dX12_done_1 (by decide) (by decide) (by decide) (by decide) ?_
      refine lv_iload_n hx hb dX12_done_215 rfl (lv_at hl 1 rfl) ?_
      refine lv_if_ne (tgt := 223) hx hb dX12_done_216 (by decide) (fun c_216 => ?_) (fun c_216 => ?_)
      · refine lv_iconst (v := 1) hx hb dX12_done_223 (by decide) ?_
        refine lv_goto (tgt := 228) hx hb dX12_done_224 (by decide) ?_
        refine x_callSi (wr := []) (rest := []) ⟨hx, hb, hml, hown, hg, hl.1⟩ k_X12_333 (r_truth l D cy 1) E0_blind hK hP hD hS hA [] [] ⟨rfl, rfl, by decide +kernel, by decide +kernel, by decide +kernel⟩ (fun _ _ _ => trivial) dX12_done_228 rfl rfl (Nat.le_of_ble_eq_true rfl) ⟨Nat.le_of_ble_eq_true rfl, Nat.le_of_ble_eq_true rfl⟩ ⟨Nat.le_of_ble_eq_true rfl, Nat.le_of_ble_eq_true rfl⟩ (fun zr126 zu126 H locs hw126 hP9 hD9 hS9 => ?_)
        clear hP hD hS
        obtain ⟨k_127, rfl⟩ : ∃ z, z = zu126 := ⟨_, rfl⟩
        refine reW [] hP9 hD9 hS9 (fun hP hD hS => ?_)
        clear hP9 hD9 hS9
        refine W.widen (k := 0) (n := 0) (Nat.le_of_ble_eq_true rfl) (Nat.le_of_ble_eq_true rfl) ?_
        change (zr126 = nI k_127) ∧ (k_127 ≤ 1) at hw126
        obtain ⟨f_128, f_129⟩ := hw126
        subst f_128
        exact x_iret hQ hx hb hr hlocks hK hP hD hS dX12_done_231 () (trivial) [] (by decide +kernel) rfl (Nat.le_of_ble_eq_true rfl) (Nat.le_of_ble_eq_true rfl)
      · refine lv_iload_n hx hb dX12_done_219 rfl (lv_at hl 2 rfl) ?_
        refine lv_if_eq (tgt := 227) hx hb dX12_done_220 (by decide) (fun c_220 => ?_) (fun c_220 => ?_)
        · refine lv_iconst (v := 0) hx hb dX12_done_227 (by decide) ?_
          refine x_callSi (wr := []) (rest := []) ⟨hx, hb, hml, hown, hg, hl.1⟩ k_X12_333 (r_truth l D cy 0) E0_blind hK hP hD hS hA [] [] ⟨rfl, rfl, by decide +kernel, by decide +kernel, by decide +kernel⟩ (fun _ _ _ => trivial) dX12_done_228 rfl rfl (Nat.le_of_ble_eq_true rfl) ⟨Nat.le_of_ble_eq_true rfl, Nat.le_of_ble_eq_true rfl⟩ ⟨Nat.le_of_ble_eq_true rfl, Nat.le_of_ble_eq_true rfl⟩ (fun zr130 zu130 H locs hw130 hP9 hD9 hS9 => ?_)
          clear hP hD hS
          obtain ⟨k_131, rfl⟩ : ∃ z, z = zu130 := ⟨_, rfl⟩
          refine reW [] hP9 hD9 hS9 (fun hP hD hS => ?_)
          clear hP9 hD9 hS9
          refine W.widen (k := 0) (n := 0) (Nat.le_of_ble_eq_true rfl) (Nat.le_of_ble_eq_true rfl) ?_
          change (zr130 = nI k_131) ∧ (k_131 ≤ 1) at hw130
          obtain ⟨f_132, f_133⟩ := hw130
          subst f_132
          exact x_iret hQ hx hb hr hlocks hK hP hD hS dX12_done_231 () (trivial) [] (by decide +kernel) rfl (Nat.le_of_ble_eq_true rfl) (Nat.le_of_ble_eq_true rfl)
        · refine lv_iconst (v := 1) hx hb dX12_done_223 (by decide) ?_
          refine lv_goto (tgt := 228) hx hb dX12_done_224 (by decide) ?_
          refine x_callSi (wr := []) (rest := []) ⟨hx, hb, hml, hown, hg, hl.1⟩ k_X12_333 (r_truth l D cy 1) E0_blind hK hP hD hS hA [] [] ⟨rfl, rfl, by decide +kernel, by decide +kernel, by decide +kernel⟩ (fun _ _ _ => trivial) dX12_done_228 rfl rfl (Nat.le_of_ble_eq_true rfl) ⟨Nat.le_of_ble_eq_true rfl, Nat.le_of_ble_eq_true rfl⟩ ⟨Nat.le_of_ble_eq_true rfl, Nat.le_of_ble_eq_true rfl⟩ (fun zr134 zu134 H locs hw134 hP9 hD9 hS9 => ?_)
          clear hP hD hS
          obtain ⟨k_135, rfl⟩ : ∃ z, z = zu134 := ⟨_, rfl⟩
          refine reW [] hP9 hD9 hS9 (fun hP hD hS => ?_)
          clear hP9 hD9 hS9
          refine W.widen (k := 0) (n := 0) (Nat.le_of_ble_eq_true rfl) (Nat.le_of_ble_eq_true rfl) ?_
          change (zr134 = nI k_135) ∧ (k_135 ≤ 1) at hw134
          obtain ⟨f_136, f_137⟩ := hw134
          subst f_136
          exact x_iret hQ hx hb hr hlocks hK hP hD hS dX12_done_231 () (trivial) [] (by decide +kernel) rfl (Nat.le_of_ble_eq_true rfl) (Nat.le_of_ble_eq_true rfl)
    · refine lv_tableIn (off := 214) (tgt := 215) hx hb dX12_done_1 (by decide) (by decide) (by decide) (by decide) ?_
      refine lv_iload_n hx hb dX12_done_215 rfl (lv_at hl 1 rfl) ?_
      refine lv_if_ne (tgt := 223) hx hb dX12_done_216 (by decide) (fun c_216 => ?_) (fun c_216 => ?_)
      · refine lv_iconst (v := 1) hx hb dX12_done_223 (by decide) ?_
        refine lv_goto (tgt := 228) hx hb dX12_done_224 (by decide) ?_
        refine x_callSi (wr := []) (rest := []) ⟨hx, hb, hml, hown, hg, hl.1⟩ k_X12_333 (r_truth l D cy 1) E0_blind hK hP hD hS hA [] [] ⟨rfl, rfl, by decide +kernel, by decide +kernel, by decide +kernel⟩ (fun _ _ _ => trivial) dX12_done_228 rfl rfl (Nat.le_of_ble_eq_true rfl) ⟨Nat.le_of_ble_eq_true rfl, Nat.le_of_ble_eq_true rfl⟩ ⟨Nat.le_of_ble_eq_true rfl, Nat.le_of_ble_eq_true rfl⟩ (fun zr138 zu138 H locs hw138 hP9 hD9 hS9 => ?_)
        clear hP hD hS
        obtain ⟨k_139, rfl⟩ : ∃ z, z = zu138 := ⟨_, rfl⟩
        refine reW [] hP9 hD9 hS9 (fun hP hD hS => ?_)
        clear hP9 hD9 hS9
        refine W.widen (k := 0) (n := 0) (Nat.le_of_ble_eq_true rfl) (Nat.le_of_ble_eq_true rfl) ?_
        change (zr138 = nI k_139) ∧ (k_139 ≤ 1) at hw138
        obtain ⟨f_140, f_141⟩ := hw138
        subst f_140
        exact x_iret hQ hx hb hr hlocks hK hP hD hS dX12_done_231 () (trivial) [] (by decide +kernel) rfl (Nat.le_of_ble_eq_true rfl) (Nat.le_of_ble_eq_true rfl)
      · refine lv_iload_n hx hb dX12_done_219 rfl (lv_at hl 2 rfl) ?_
        refine lv_if_eq (tgt := 227) hx hb dX12_done_220 (by decide) (fun c_220 => ?_) (fun c_220 => ?_)
        · refine lv_iconst (v := 0) hx hb dX12_done_227 (by decide) ?_
          refine x_callSi (wr := []) (rest := []) ⟨hx, hb, hml, hown, hg, hl.1⟩ k_X12_333 (r_truth l D cy 0) E0_blind hK hP hD hS hA [] [] ⟨rfl, rfl, by decide +kernel, by decide +kernel, by decide +kernel⟩ (fun _ _ _ => trivial) dX12_done_228 rfl rfl (Nat.le_of_ble_eq_true rfl) ⟨Nat.le_of_ble_eq_true rfl, Nat.le_of_ble_eq_true rfl⟩ ⟨Nat.le_of_ble_eq_true rfl, Nat.le_of_ble_eq_true rfl⟩ (fun zr142 zu142 H locs hw142 hP9 hD9 hS9 => ?_)
          clear hP hD hS
          obtain ⟨k_143, rfl⟩ : ∃ z, z = zu142 := ⟨_, rfl⟩
          refine reW [] hP9 hD9 hS9 (fun hP hD hS => ?_)
          clear hP9 hD9 hS9
          refine W.widen (k := 0) (n := 0) (Nat.le_of_ble_eq_true rfl) (Nat.le_of_ble_eq_true rfl) ?_
          change (zr142 = nI k_143) ∧ (k_143 ≤ 1) at hw142
          obtain ⟨f_144, f_145⟩ := hw142
          subst f_144
          exact x_iret hQ hx hb hr hlocks hK hP hD hS dX12_done_231 () (trivial) [] (by decide +kernel) rfl (Nat.le_of_ble_eq_true rfl) (Nat.le_of_ble_eq_true rfl)
        · refine lv_iconst (v := 1) hx hb dX12_done_223 (by decide) ?_
          refine lv_goto (tgt := 228) hx hb dX12_done_224 (by decide) ?_
          refine x_callSi (wr := []) (rest := []) ⟨hx, hb, hml, hown, hg, hl.1⟩ k_X12_333 (r_truth l D cy 1) E0_blind hK hP hD hS hA [] [] ⟨rfl, rfl, by decide +kernel, by decide +kernel, by decide +kernel⟩ (fun _ _ _ => trivial) dX12_done_228 rfl rfl (Nat.le_of_ble_eq_true rfl) ⟨Nat.le_of_ble_eq_true rfl, Nat.le_of_ble_eq_true rfl⟩ ⟨Nat.le_of_ble_eq_true rfl, Nat.le_of_ble_eq_true rfl⟩ (fun zr146 zu146 H locs hw146 hP9 hD9 hS9 => ?_)
          clear hP hD hS
          obtain ⟨k_147, rfl⟩ : ∃ z, z = zu146 := ⟨_, rfl⟩
          refine reW [] hP9 hD9 hS9 (fun hP hD hS => ?_)
          clear hP9 hD9 hS9
          refine W.widen (k := 0) (n := 0) (Nat.le_of_ble_eq_true rfl) (Nat.le_of_ble_eq_true rfl) ?_
          change (zr146 = nI k_147) ∧ (k_147 ≤ 1) at hw146
          obtain ⟨f_148, f_149⟩ := hw146
          subst f_148
          exact x_iret hQ hx hb hr hlocks hK hP hD hS dX12_done_231 () (trivial) [] (by decide +kernel) rfl (Nat.le_of_ble_eq_true rfl) (Nat.le_of_ble_eq_true rfl)
    · refine lv_tableIn (off := 214) (tgt := 215) hx hb dX12_done_1 (by decide) (by decide) (by decide) (by decide) ?_
      refine lv_iload_n hx hb dX12_done_215 rfl (lv_at hl 1 rfl) ?_
      refine lv_if_ne (tgt := 223) hx hb dX12_done_216 (by decide) (fun c_216 => ?_) (fun c_216 => ?_)
      · refine lv_iconst (v := 1) hx hb dX12_done_223 (by decide) ?_
        refine lv_goto (tgt := 228) hx hb dX12_done_224 (by decide) ?_
        refine x_callSi (wr := []) (rest := []) ⟨hx, hb, hml, hown, hg, hl.1⟩ k_X12_333 (r_truth l D cy 1) E0_blind hK hP hD hS hA [] [] ⟨rfl, rfl, by decide +kernel, by decide +kernel, by decide +kernel⟩ (fun _ _ _ => trivial) dX12_done_228 rfl rfl (Nat.le_of_ble_eq_true rfl) ⟨Nat.le_of_ble_eq_true rfl, Nat.le_of_ble_eq_true rfl⟩ ⟨Nat.le_of_ble_eq_true rfl, Nat.le_of_ble_eq_true rfl⟩ (fun zr150 zu150 H locs hw150 hP9 hD9 hS9 => ?_)
        clear hP hD hS
        obtain ⟨k_151, rfl⟩ : ∃ z, z = zu150 := ⟨_, rfl⟩
        refine reW [] hP9 hD9 hS9 (fun hP hD hS => ?_)
        clear hP9 hD9 hS9
        refine W.widen (k := 0) (n := 0) (Nat.le_of_ble_eq_true rfl) (Nat.le_of_ble_eq_true rfl) ?_
        change (zr150 = nI k_151) ∧ (k_151 ≤ 1) at hw150
        obtain ⟨f_152, f_153⟩ := hw150
        subst f_152
        exact x_iret hQ hx hb hr hlocks hK hP hD hS dX12_done_231 () (trivial) [] (by decide +kernel) rfl (Nat.le_of_ble_eq_true rfl) (Nat.le_of_ble_eq_true rfl)
      · refine lv_iload_n hx hb dX12_done_219 rfl (lv_at hl 2 rfl) ?_
        refine lv_if_eq (tgt := 227) hx hb dX12_done_220 (by decide) (fun c_220 => ?_) (fun c_220 => ?_)
        · refine lv_iconst (v := 0) hx hb dX12_done_227 (by decide) ?_
          refine x_callSi (wr := []) (rest := []) ⟨hx, hb, hml, hown, hg, hl.1⟩ k_X12_333 (r_truth l D cy 0) E0_blind hK hP hD hS hA [] [] ⟨rfl, rfl, by decide +kernel, by decide +kernel, by decide +kernel⟩ (fun _ _ _ => trivial) dX12_done_228 rfl rfl (Nat.le_of_ble_eq_true rfl) ⟨Nat.le_of_ble_eq_true rfl, Nat.le_of_ble_eq_true rfl⟩ ⟨Nat.le_of_ble_eq_true rfl, Nat.le_of_ble_eq_true rfl⟩ (fun zr154 zu154 H locs hw154 hP9 hD9 hS9 => ?_)
          clear hP hD hS
          obtain ⟨k_155, rfl⟩ : ∃ z, z = zu154 := ⟨_, rfl⟩
          refine reW [] hP9 hD9 hS9 (fun hP hD hS => ?_)
          clear hP9 hD9 hS9
          refine W.widen (k := 0) (n := 0) (Nat.le_of_ble_eq_true rfl) (Nat.le_of_ble_eq_true rfl) ?_
          change (zr154 = nI k_155) ∧ (k_155 ≤ 1) at hw154
          obtain ⟨f_156, f_157⟩ := hw154
          subst f_156
          exact x_iret hQ hx hb hr hlocks hK hP hD hS dX12_done_231 () (trivial) [] (by decide +kernel) rfl (Nat.le_of_ble_eq_true rfl) (Nat.le_of_ble_eq_true rfl)
        · refine lv_iconst (v := 1) hx hb dX12_done_223 (by decide) ?_
          refine lv_goto (tgt := 228) hx hb dX12_done_224 (by decide) ?_
          refine x_callSi (wr := []) (rest := []) ⟨hx, hb, hml, hown, hg, hl.1⟩ k_X12_333 (r_truth l D cy 1) E0_blind hK hP hD hS hA [] [] ⟨rfl, rfl, by decide +kernel, by decide +kernel, by decide +kernel⟩ (fun _ _ _ => trivial) dX12_done_228 rfl rfl (Nat.le_of_ble_eq_true rfl) ⟨Nat.le_of_ble_eq_true rfl, Nat.le_of_ble_eq_true rfl⟩ ⟨Nat.le_of_ble_eq_true rfl, Nat.le_of_ble_eq_true rfl⟩ (fun zr158 zu158 H locs hw158 hP9 hD9 hS9 => ?_)
          clear hP hD hS
          obtain ⟨k_159, rfl⟩ : ∃ z, z = zu158 := ⟨_, rfl⟩
          refine reW [] hP9 hD9 hS9 (fun hP hD hS => ?_)
          clear hP9 hD9 hS9
          refine W.widen (k := 0) (n := 0) (Nat.le_of_ble_eq_true rfl) (Nat.le_of_ble_eq_true rfl) ?_
          change (zr158 = nI k_159) ∧ (k_159 ≤ 1) at hw158
          obtain ⟨f_160, f_161⟩ := hw158
          subst f_160
          exact x_iret hQ hx hb hr hlocks hK hP hD hS dX12_done_231 () (trivial) [] (by decide +kernel) rfl (Nat.le_of_ble_eq_true rfl) (Nat.le_of_ble_eq_true rfl)
    · refine lv_tableIn (off := 214) (tgt := 215) hx hb dX12_done_1 (by decide) (by decide) (by decide) (by decide) ?_
      refine lv_iload_n hx hb dX12_done_215 rfl (lv_at hl 1 rfl) ?_
      refine lv_if_ne (tgt := 223) hx hb dX12_done_216 (by decide) (fun c_216 => ?_) (fun c_216 => ?_)
      · refine lv_iconst (v := 1) hx hb dX12_done_223 (by decide) ?_
        refine lv_goto (tgt := 228) hx hb dX12_done_224 (by decide) ?_
        refine x_callSi (wr := []) (rest := []) ⟨hx, hb, hml, hown, hg, hl.1⟩ k_X12_333 (r_truth l D cy 1) E0_blind hK hP hD hS hA [] [] ⟨rfl, rfl, by decide +kernel, by decide +kernel, by decide +kernel⟩ (fun _ _ _ => trivial) dX12_done_228 rfl rfl (Nat.le_of_ble_eq_true rfl) ⟨Nat.le_of_ble_eq_true rfl, Nat.le_of_ble_eq_true rfl⟩ ⟨Nat.le_of_ble_eq_true rfl, Nat.le_of_ble_eq_true rfl⟩ (fun zr162 zu162 H locs hw162 hP9 hD9 hS9 => ?_)
        clear hP hD hS
        obtain ⟨k_163, rfl⟩ : ∃ z, z = zu162 := ⟨_, rfl⟩
        refine reW [] hP9 hD9 hS9 (fun hP hD hS => ?_)
        clear hP9 hD9 hS9
        refine W.widen (k := 0) (n := 0) (Nat.le_of_ble_eq_true rfl) (Nat.le_of_ble_eq_true rfl) ?_
        change (zr162 = nI k_163) ∧ (k_163 ≤ 1) at hw162
        obtain ⟨f_164, f_165⟩ := hw162
        subst f_164
        exact x_iret hQ hx hb hr hlocks hK hP hD hS dX12_done_231 () (trivial) [] (by decide +kernel) rfl (Nat.le_of_ble_eq_true rfl) (Nat.le_of_ble_eq_true rfl)
      · refine lv_iload_n hx hb dX12_done_219 rfl (lv_at hl 2 rfl) ?_
        refine lv_if_eq (tgt := 227) hx hb dX12_done_220 (by decide) (fun c_220 => ?_) (fun c_220 => ?_)
        · refine lv_iconst (v := 0) hx hb dX12_done_227 (by decide) ?_
          refine x_callSi (wr := []) (rest := []) ⟨hx, hb, hml, hown, hg, hl.1⟩ k_X12_333 (r_truth l D cy 0) E0_blind hK hP hD hS hA [] [] ⟨rfl, rfl, by decide +kernel, by decide +kernel, by decide +kernel⟩ (fun _ _ _ => trivial) dX12_done_228 rfl rfl (Nat.le_of_ble_eq_true rfl) ⟨Nat.le_of_ble_eq_true rfl, Nat.le_of_ble_eq_true rfl⟩ ⟨Nat.le_of_ble_eq_true rfl, Nat.le_of_ble_eq_true rfl⟩ (fun zr166 zu166 H locs hw166 hP9 hD9 hS9 => ?_)
          clear hP hD hS
          obtain ⟨k_167, rfl⟩ : ∃ z, z = zu166 := ⟨_, rfl⟩
          refine reW [] hP9 hD9 hS9 (fun hP hD hS => ?_)
          clear hP9 hD9 hS9
          refine W.widen (k := 0) (n := 0) (Nat.le_of_ble_eq_true rfl) (Nat.le_of_ble_eq_true rfl) ?_
          change (zr166 = nI k_167) ∧ (k_167 ≤ 1) at hw166
          obtain ⟨f_168, f_169⟩ := hw166
          subst f_168
          exact x_iret hQ hx hb hr hlocks hK hP hD hS dX12_done_231 () (trivial) [] (by decide +kernel) rfl (Nat.le_of_ble_eq_true rfl) (Nat.le_of_ble_eq_true rfl)
        · refine lv_iconst (v := 1) hx hb dX12_done_223 (by decide) ?_
          refine lv_goto (tgt := 228) hx hb dX12_done_224 (by decide) ?_
          refine x_callSi (wr := []) (rest := []) ⟨hx, hb, hml, hown, hg, hl.1⟩ k_X12_333 (r_truth l D cy 1) E0_blind hK hP hD hS hA [] [] ⟨rfl, rfl, by decide +kernel, by decide +kernel, by decide +kernel⟩ (fun _ _ _ => trivial) dX12_done_228 rfl rfl (Nat.le_of_ble_eq_true rfl) ⟨Nat.le_of_ble_eq_true rfl, Nat.le_of_ble_eq_true rfl⟩ ⟨Nat.le_of_ble_eq_true rfl, Nat.le_of_ble_eq_true rfl⟩ (fun zr170 zu170 H locs hw170 hP9 hD9 hS9 => ?_)
          clear hP hD hS
          obtain ⟨k_171, rfl⟩ : ∃ z, z = zu170 := ⟨_, rfl⟩
          refine reW [] hP9 hD9 hS9 (fun hP hD hS => ?_)
          clear hP9 hD9 hS9
          refine W.widen (k := 0) (n := 0) (Nat.le_of_ble_eq_true rfl) (Nat.le_of_ble_eq_true rfl) ?_
          change (zr170 = nI k_171) ∧ (k_171 ≤ 1) at hw170
          obtain ⟨f_172, f_173⟩ := hw170
          subst f_172
          exact x_iret hQ hx hb hr hlocks hK hP hD hS dX12_done_231 () (trivial) [] (by decide +kernel) rfl (Nat.le_of_ble_eq_true rfl) (Nat.le_of_ble_eq_true rfl)
    · refine lv_tableIn (off := 214) (tgt := 215) hx hb dX12_done_1 (by decide) (by decide) (by decide) (by decide) ?_
      refine lv_iload_n hx hb dX12_done_215 rfl (lv_at hl 1 rfl) ?_
      refine lv_if_ne (tgt := 223) hx hb dX12_done_216 (by decide) (fun c_216 => ?_) (fun c_216 => ?_)
      · refine lv_iconst (v := 1) hx hb dX12_done_223 (by decide) ?_
        refine lv_goto (tgt := 228) hx hb dX12_done_224 (by decide) ?_
        refine x_callSi (wr := []) (rest := []) ⟨hx, hb, hml, hown, hg, hl.1⟩ k_X12_333 (r_truth l D cy 1) E0_blind hK hP hD hS hA [] [] ⟨rfl, rfl, by decide +kernel, by decide +kernel, by decide +kernel⟩ (fun _ _ _ => trivial) dX12_done_228 rfl rfl (Nat.le_of_ble_eq_true rfl) ⟨Nat.le_of_ble_eq_true rfl, Nat.le_of_ble_eq_true rfl⟩ ⟨Nat.le_of_ble_eq_true rfl, Nat.le_of_ble_eq_true rfl⟩ (fun zr174 zu174 H locs hw174 hP9 hD9 hS9 => ?_)
        clear hP hD hS
        obtain ⟨k_175, rfl⟩ : ∃ z, z = zu174 := ⟨_, rfl⟩
        refine reW [] hP9 hD9 hS9 (fun hP hD hS => ?_)
        clear hP9 hD9 hS9
        refine W.widen (k := 0) (n := 0) (Nat.le_of_ble_eq_true rfl) (Nat.le_of_ble_eq_true rfl) ?_
        change (zr174 = nI k_175) ∧ (k_175 ≤ 1) at hw174
        obtain ⟨f_176, f_177⟩ := hw174
        subst f_176
        exact x_iret hQ hx hb hr hlocks hK hP hD hS dX12_done_231 () (trivial) [] (by decide +kernel) rfl (Nat.le_of_ble_eq_true rfl) (Nat.le_of_ble_eq_true rfl)
      · refine lv_iload_n hx hb dX12_done_219 rfl (lv_at hl 2 rfl) ?_
        refine lv_if_eq (tgt := 227) hx hb dX12_done_220 (by decide) (fun c_220 => ?_) (fun c_220 => ?_)
        · refine lv_iconst (v := 0) hx hb dX12_done_227 (by decide) ?_
          refine x_callSi (wr := []) (rest := []) ⟨hx, hb, hml, hown, hg, hl.1⟩ k_X12_333 (r_truth l D cy 0) E0_blind hK hP hD hS hA [] [] ⟨rfl, rfl, by decide +kernel, by decide +kernel, by decide +kernel⟩ (fun _ _ _ => trivial) dX12_done_228 rfl rfl (Nat.le_of_ble_eq_true rfl) ⟨Nat.le_of_ble_eq_true rfl, Nat.le_of_ble_eq_true rfl⟩ ⟨Nat.le_of_ble_eq_true rfl, Nat.le_of_ble_eq_true rfl⟩ (fun zr178 zu178 H locs hw178 hP9 hD9 hS9 => ?_)
          clear hP hD hS
          obtain ⟨k_179, rfl⟩ : ∃ z, z = zu178 := ⟨_, rfl⟩
          refine reW [] hP9 hD9 hS9 (fun hP hD hS => ?_)
          clear hP9 hD9 hS9
          refine W.widen (k := 0) (n := 0) (Nat.le_of_ble_eq_true rfl) (Nat.le_of_ble_eq_true rfl) ?_
          change (zr178 = nI k_179) ∧ (k_179 ≤ 1) at hw178
          obtain ⟨f_180, f_181⟩ := hw178
          subst f_180
          exact x_iret hQ hx hb hr hlocks hK hP hD hS dX12_done_231 () (trivial) [] (by decide +kernel) rfl (Nat.le_of_ble_eq_true rfl) (Nat.le_of_ble_eq_true rfl)
        · refine lv_iconst (v := 1) hx hb dX12_done_223 (by decide) ?_
          refine lv_goto (tgt := 228) hx hb dX12_done_224 (by decide) ?_
          refine x_callSi (wr := []) (rest := []) ⟨hx, hb, hml, hown, hg, hl.1⟩ k_X12_333 (r_truth l D cy 1) E0_blind hK hP hD hS hA [] [] ⟨rfl, rfl, by decide +kernel, by decide +kernel, by decide +kernel⟩ (fun _ _ _ => trivial) dX12_done_228 rfl rfl (Nat.le_of_ble_eq_true rfl) ⟨Nat.le_of_ble_eq_true rfl, Nat.le_of_ble_eq_true rfl⟩ ⟨Nat.le_of_ble_eq_true rfl, Nat.le_of_ble_eq_true rfl⟩ (fun zr182 zu182 H locs hw182 hP9 hD9 hS9 => ?_)
          clear hP hD hS
          obtain ⟨k_183, rfl⟩ : ∃ z, z = zu182 := ⟨_, rfl⟩
          refine reW [] hP9 hD9 hS9 (fun hP hD hS => ?_)
          clear hP9 hD9 hS9
          refine W.widen (k := 0) (n := 0) (Nat.le_of_ble_eq_true rfl) (Nat.le_of_ble_eq_true rfl) ?_
          change (zr182 = nI k_183) ∧ (k_183 ≤ 1) at hw182
          obtain ⟨f_184, f_185⟩ := hw182
          subst f_184
          exact x_iret hQ hx hb hr hlocks hK hP hD hS dX12_done_231 () (trivial) [] (by decide +kernel) rfl (Nat.le_of_ble_eq_true rfl) (Nat.le_of_ble_eq_true rfl)
    · refine lv_tableIn (off := 214) (tgt := 215) hx hb dX12_done_1 (by decide) (by decide) (by decide) (by decide) ?_
      refine lv_iload_n hx hb dX12_done_215 rfl (lv_at hl 1 rfl) ?_
      refine lv_if_ne (tgt := 223) hx hb dX12_done_216 (by decide) (fun c_216 => ?_) (fun c_216 => ?_)
      · refine lv_iconst (v := 1) hx hb dX12_done_223 (by decide) ?_
        refine lv_goto (tgt := 228) hx hb dX12_done_224 (by decide) ?_
        refine x_callSi (wr := []) (rest := []) ⟨hx, hb, hml, hown, hg, hl.1⟩ k_X12_333 (r_truth l D cy 1) E0_blind hK hP hD hS hA [] [] ⟨rfl, rfl, by decide +kernel, by decide +kernel, by decide +kernel⟩ (fun _ _ _ => trivial) dX12_done_228 rfl rfl (Nat.le_of_ble_eq_true rfl) ⟨Nat.le_of_ble_eq_true rfl, Nat.le_of_ble_eq_true rfl⟩ ⟨Nat.le_of_ble_eq_true rfl, Nat.le_of_ble_eq_true rfl⟩ (fun zr186 zu186 H locs hw186 hP9 hD9 hS9 => ?_)
        clear hP hD hS
        obtain ⟨k_187, rfl⟩ : ∃ z, z = zu186 := ⟨_, rfl⟩
        refine reW [] hP9 hD9 hS9 (fun hP hD hS => ?_)
        clear hP9 hD9 hS9
        refine W.widen (k := 0) (n := 0) (Nat.le_of_ble_eq_true rfl) (Nat.le_of_ble_eq_true rfl) ?_
        change (zr186 = nI k_187) ∧ (k_187 ≤ 1) at hw186
        obtain ⟨f_188, f_189⟩ := hw186
        subst f_188
        exact x_iret hQ hx hb hr hlocks hK hP hD hS dX12_done_231 () (trivial) [] (by decide +kernel) rfl (Nat.le_of_ble_eq_true rfl) (Nat.le_of_ble_eq_true rfl)
      · refine lv_iload_n hx hb dX12_done_219 rfl (lv_at hl 2 rfl) ?_
        refine lv_if_eq (tgt := 227) hx hb dX12_done_220 (by decide) (fun c_220 => ?_) (fun c_220 => ?_)
        · refine lv_iconst (v := 0) hx hb dX12_done_227 (by decide) ?_
          refine x_callSi (wr := []) (rest := []) ⟨hx, hb, hml, hown, hg, hl.1⟩ k_X12_333 (r_truth l D cy 0) E0_blind hK hP hD hS hA [] [] ⟨rfl, rfl, by decide +kernel, by decide +kernel, by decide +kernel⟩ (fun _ _ _ => trivial) dX12_done_228 rfl rfl (Nat.le_of_ble_eq_true rfl) ⟨Nat.le_of_ble_eq_true rfl, Nat.le_of_ble_eq_true rfl⟩ ⟨Nat.le_of_ble_eq_true rfl, Nat.le_of_ble_eq_true rfl⟩ (fun zr190 zu190 H locs hw190 hP9 hD9 hS9 => ?_)
          clear hP hD hS
          obtain ⟨k_191, rfl⟩ : ∃ z, z = zu190 := ⟨_, rfl⟩
          refine reW [] hP9 hD9 hS9 (fun hP hD hS => ?_)
          clear hP9 hD9 hS9
          refine W.widen (k := 0) (n := 0) (Nat.le_of_ble_eq_true rfl) (Nat.le_of_ble_eq_true rfl) ?_
          change (zr190 = nI k_191) ∧ (k_191 ≤ 1) at hw190
          obtain ⟨f_192, f_193⟩ := hw190
          subst f_192
          exact x_iret hQ hx hb hr hlocks hK hP hD hS dX12_done_231 () (trivial) [] (by decide +kernel) rfl (Nat.le_of_ble_eq_true rfl) (Nat.le_of_ble_eq_true rfl)
        · refine lv_iconst (v := 1) hx hb dX12_done_223 (by decide) ?_
          refine lv_goto (tgt := 228) hx hb dX12_done_224 (by decide) ?_
          refine x_callSi (wr := []) (rest := []) ⟨hx, hb, hml, hown, hg, hl.1⟩ k_X12_333 (r_truth l D cy 1) E0_blind hK hP hD hS hA [] [] ⟨rfl, rfl, by decide +kernel, by decide +kernel, by decide +kernel⟩ (fun _ _ _ => trivial) dX12_done_228 rfl rfl (Nat.le_of_ble_eq_true rfl) ⟨Nat.le_of_ble_eq_true rfl, Nat.le_of_ble_eq_true rfl⟩ ⟨Nat.le_of_ble_eq_true rfl, Nat.le_of_ble_eq_true rfl⟩ (fun zr194 zu194 H locs hw194 hP9 hD9 hS9 => ?_)
          clear hP hD hS
          obtain ⟨k_195, rfl⟩ : ∃ z, z = zu194 := ⟨_, rfl⟩
          refine reW [] hP9 hD9 hS9 (fun hP hD hS => ?_)
          clear hP9 hD9 hS9
          refine W.widen (k := 0) (n := 0) (Nat.le_of_ble_eq_true rfl) (Nat.le_of_ble_eq_true rfl) ?_
          change (zr194 = nI k_195) ∧ (k_195 ≤ 1) at hw194
          obtain ⟨f_196, f_197⟩ := hw194
          subst f_196
          exact x_iret hQ hx hb hr hlocks hK hP hD hS dX12_done_231 () (trivial) [] (by decide +kernel) rfl (Nat.le_of_ble_eq_true rfl) (Nat.le_of_ble_eq_true rfl)
    · refine lv_tableIn (off := 214) (tgt := 215) hx hb dX12_done_1 (by decide) (by decide) (by decide) (by decide) ?_
      refine lv_iload_n hx hb dX12_done_215 rfl (lv_at hl 1 rfl) ?_
      refine lv_if_ne (tgt := 223) hx hb dX12_done_216 (by decide) (fun c_216 => ?_) (fun c_216 => ?_)
      · refine lv_iconst (v := 1) hx hb dX12_done_223 (by decide) ?_
        refine lv_goto (tgt := 228) hx hb dX12_done_224 (by decide) ?_
        refine x_callSi (wr := []) (rest := []) ⟨hx, hb, hml, hown, hg, hl.1⟩ k_X12_333 (r_truth l D cy 1) E0_blind hK hP hD hS hA [] [] ⟨rfl, rfl, by decide +kernel, by decide +kernel, by decide +kernel⟩ (fun _ _ _ => trivial) dX12_done_228 rfl rfl (Nat.le_of_ble_eq_true rfl) ⟨Nat.le_of_ble_eq_true rfl, Nat.le_of_ble_eq_true rfl⟩ ⟨Nat.le_of_ble_eq_true rfl, Nat.le_of_ble_eq_true rfl⟩ (fun zr198 zu198 H locs hw198 hP9 hD9 hS9 => ?_)
        clear hP hD hS
        obtain ⟨k_199, rfl⟩ : ∃ z, z = zu198 := ⟨_, rfl⟩
        refine reW [] hP9 hD9 hS9 (fun hP hD hS => ?_)
        clear hP9 hD9 hS9
        refine W.widen (k := 0) (n := 0) (Nat.le_of_ble_eq_true rfl) (Nat.le_of_ble_eq_true rfl) ?_
        change (zr198 = nI k_199) ∧ (k_199 ≤ 1) at hw198
        obtain ⟨f_200, f_201⟩ := hw198
        subst f_200
        exact x_iret hQ hx hb hr hlocks hK hP hD hS dX12_done_231 () (trivial) [] (by decide +kernel) rfl (Nat.le_of_ble_eq_true rfl) (Nat.le_of_ble_eq_true rfl)
      · refine lv_iload_n hx hb dX12_done_219 rfl (lv_at hl 2 rfl) ?_
        refine lv_if_eq (tgt := 227) hx hb dX12_done_220 (by decide) (fun c_220 => ?_) (fun c_220 => ?_)
        · refine lv_iconst (v := 0) hx hb dX12_done_227 (by decide) ?_
          refine x_callSi (wr := []) (rest := []) ⟨hx, hb, hml, hown, hg, hl.1⟩ k_X12_333 (r_truth l D cy 0) E0_blind hK hP hD hS hA [] [] ⟨rfl, rfl, by decide +kernel, by decide +kernel, by decide +kernel⟩ (fun _ _ _ => trivial) dX12_done_228 rfl rfl (Nat.le_of_ble_eq_true rfl) ⟨Nat.le_of_ble_eq_true rfl, Nat.le_of_ble_eq_true rfl⟩ ⟨Nat.le_of_ble_eq_true rfl, Nat.le_of_ble_eq_true rfl⟩ (fun zr202 zu202 H locs hw202 hP9 hD9 hS9 => ?_)
          clear hP hD hS
          obtain ⟨k_203, rfl⟩ : ∃ z, z = zu202 := ⟨_, rfl⟩
          refine reW [] hP9 hD9 hS9 (fun hP hD hS => ?_)
          clear hP9 hD9 hS9
          refine W.widen (k := 0) (n := 0) (Nat.le_of_ble_eq_true rfl) (Nat.le_of_ble_eq_true rfl) ?_
          change (zr202 = nI k_203) ∧ (k_203 ≤ 1) at hw202
          obtain ⟨f_204, f_205⟩ := hw202
          subst f_204
          exact x_iret hQ hx hb hr hlocks hK hP hD hS dX12_done_231 () (trivial) [] (by decide +kernel) rfl (Nat.le_of_ble_eq_true rfl) (Nat.le_of_ble_eq_true rfl)
        · refine lv_iconst (v := 1) hx hb dX12_done_223 (by decide) ?_
          refine lv_goto (tgt := 228) hx hb dX12_done_224 (by decide) ?_
          refine x_callSi (wr := []) (rest := []) ⟨hx, hb, hml, hown, hg, hl.1⟩ k_X12_333 (r_truth l D cy 1) E0_blind hK hP hD hS hA [] [] ⟨rfl, rfl, by decide +kernel, by decide +kernel, by decide +kernel⟩ (fun _ _ _ => trivial) dX12_done_228 rfl rfl (Nat.le_of_ble_eq_true rfl) ⟨Nat.le_of_ble_eq_true rfl, Nat.le_of_ble_eq_true rfl⟩ ⟨Nat.le_of_ble_eq_true rfl, Nat.le_of_ble_eq_true rfl⟩ (fun zr206 zu206 H locs hw206 hP9 hD9 hS9 => ?_)
          clear hP hD hS
          obtain ⟨k_207, rfl⟩ : ∃ z, z = zu206 := ⟨_, rfl⟩
          refine reW [] hP9 hD9 hS9 (fun hP hD hS => ?_)
          clear hP9 hD9 hS9
          refine W.widen (k := 0) (n := 0) (Nat.le_of_ble_eq_true rfl) (Nat.le_of_ble_eq_true rfl) ?_
          change (zr206 = nI k_207) ∧ (k_207 ≤ 1) at hw206
          obtain ⟨f_208, f_209⟩ := hw206
          subst f_208
          exact x_iret hQ hx hb hr hlocks hK hP hD hS dX12_done_231 () (trivial) [] (by decide +kernel) rfl (Nat.le_of_ble_eq_true rfl) (Nat.le_of_ble_eq_true rfl)
    · refine lv_tableIn (off := 214) (tgt := 215) hx hb dX12_done_1 (by decide) (by decide) (by decide) (by decide) ?_
      refine lv_iload_n hx hb dX12_done_215 rfl (lv_at hl 1 rfl) ?_
      refine lv_if_ne (tgt := 223) hx hb dX12_done_216 (by decide) (fun c_216 => ?_) (fun c_216 => ?_)
      · refine lv_iconst (v := 1) hx hb dX12_done_223 (by decide) ?_
        refine lv_goto (tgt := 228) hx hb dX12_done_224 (by decide) ?_
        refine x_callSi (wr := []) (rest := []) ⟨hx, hb, hml, hown, hg, hl.1⟩ k_X12_333 (r_truth l D cy 1) E0_blind hK hP hD hS hA [] [] ⟨rfl, rfl, by decide +kernel, by decide +kernel, by decide +kernel⟩ (fun _ _ _ => trivial) dX12_done_228 rfl rfl (Nat.le_of_ble_eq_true rfl) ⟨Nat.le_of_ble_eq_true rfl, Nat.le_of_ble_eq_true rfl⟩ ⟨Nat.le_of_ble_eq_true rfl, Nat.le_of_ble_eq_true rfl⟩ (fun zr210 zu210 H locs hw210 hP9 hD9 hS9 => ?_)
        clear hP hD hS
        obtain ⟨k_211, rfl⟩ : ∃ z, z = zu210 := ⟨_, rfl⟩
        refine reW [] hP9 hD9 hS9 (fun hP hD hS => ?_)
        clear hP9 hD9 hS9
        refine W.widen (k := 0) (n := 0) (Nat.le_of_ble_eq_true rfl) (Nat.le_of_ble_eq_true rfl) ?_
        change (zr210 = nI k_211) ∧ (k_211 ≤ 1) at hw210
        obtain ⟨f_212, f_213⟩ := hw210
        subst f_212
        exact x_iret hQ hx hb hr hlocks hK hP hD hS dX12_done_231 () (trivial) [] (by decide +kernel) rfl (Nat.le_of_ble_eq_true rfl) (Nat.le_of_ble_eq_true rfl)
      · refine lv_iload_n hx hb dX12_done_219 rfl (lv_at hl 2 rfl) ?_
        refine lv_if_eq (tgt := 227) hx hb dX12_done_220 (by decide) (fun c_220 => ?_) (fun c_220 => ?_)
        · refine lv_iconst (v := 0) hx hb dX12_done_227 (by decide) ?_
          refine x_callSi (wr := []) (rest := []) ⟨hx, hb, hml, hown, hg, hl.1⟩ k_X12_333 (r_truth l D cy 0) E0_blind hK hP hD hS hA [] [] ⟨rfl, rfl, by decide +kernel, by decide +kernel, by decide +kernel⟩ (fun _ _ _ => trivial) dX12_done_228 rfl rfl (Nat.le_of_ble_eq_true rfl) ⟨Nat.le_of_ble_eq_true rfl, Nat.le_of_ble_eq_true rfl⟩ ⟨Nat.le_of_ble_eq_true rfl, Nat.le_of_ble_eq_true rfl⟩ (fun zr214 zu214 H locs hw214 hP9 hD9 hS9 => ?_)
          clear hP hD hS
          obtain ⟨k_215, rfl⟩ : ∃ z, z = zu214 := ⟨_, rfl⟩
          refine reW [] hP9 hD9 hS9 (fun hP hD hS => ?_)
          clear hP9 hD9 hS9
          refine W.widen (k := 0) (n := 0) (Nat.le_of_ble_eq_true rfl) (Nat.le_of_ble_eq_true rfl) ?_
          change (zr214 = nI k_215) ∧ (k_215 ≤ 1) at hw214
          obtain ⟨f_216, f_217⟩ := hw214
          subst f_216
          exact x_iret hQ hx hb hr hlocks hK hP hD hS dX12_done_231 () (trivial) [] (by decide +kernel) rfl (Nat.le_of_ble_eq_true rfl) (Nat.le_of_ble_eq_true rfl)
        · refine lv_iconst (v := 1) hx hb dX12_done_223 (by decide) ?_
          refine lv_goto (tgt := 228) hx hb dX12_done_224 (by decide) ?_
          refine x_callSi (wr := []) (rest := []) ⟨hx, hb, hml, hown, hg, hl.1⟩ k_X12_333 (r_truth l D cy 1) E0_blind hK hP hD hS hA [] [] ⟨rfl, rfl, by decide +kernel, by decide +kernel, by decide +kernel⟩ (fun _ _ _ => trivial) dX12_done_228 rfl rfl (Nat.le_of_ble_eq_true rfl) ⟨Nat.le_of_ble_eq_true rfl, Nat.le_of_ble_eq_true rfl⟩ ⟨Nat.le_of_ble_eq_true rfl, Nat.le_of_ble_eq_true rfl⟩ (fun zr218 zu218 H locs hw218 hP9 hD9 hS9 => ?_)
          clear hP hD hS
          obtain ⟨k_219, rfl⟩ : ∃ z, z = zu218 := ⟨_, rfl⟩
          refine reW [] hP9 hD9 hS9 (fun hP hD hS => ?_)
          clear hP9 hD9 hS9
          refine W.widen (k := 0) (n := 0) (Nat.le_of_ble_eq_true rfl) (Nat.le_of_ble_eq_true rfl) ?_
          change (zr218 = nI k_219) ∧ (k_219 ≤ 1) at hw218
          obtain ⟨f_220, f_221⟩ := hw218
          subst f_220
          exact x_iret hQ hx hb hr hlocks hK hP hD hS dX12_done_231 () (trivial) [] (by decide +kernel) rfl (Nat.le_of_ble_eq_true rfl) (Nat.le_of_ble_eq_true rfl)
    · refine lv_tableIn (off := 214) (tgt := 215) hx hb dX12_done_1 (by decide) (by decide) (by decide) (by decide) ?_
      refine lv_iload_n hx hb dX12_done_215 rfl (lv_at hl 1 rfl) ?_
      refine lv_if_ne (tgt := 223) hx hb dX12_done_216 (by decide) (fun c_216 => ?_) (fun c_216 => ?_)
      · refine lv_iconst (v := 1) hx hb dX12_done_223 (by decide) ?_
        refine lv_goto (tgt := 228) hx hb dX12_done_224 (by decide) ?_
        refine x_callSi (wr := []) (rest := []) ⟨hx, hb, hml, hown, hg, hl.1⟩ k_X12_333 (r_truth l D cy 1) E0_blind hK hP hD hS hA [] [] ⟨rfl, rfl, by decide +kernel, by decide +kernel, by decide +kernel⟩ (fun _ _ _ => trivial) dX12_done_228 rfl rfl (Nat.le_of_ble_eq_true rfl) ⟨Nat.le_of_ble_eq_true rfl, Nat.le_of_ble_eq_true rfl⟩ ⟨Nat.le_of_ble_eq_true rfl, Nat.le_of_ble_eq_true rfl⟩ (fun zr222 zu222 H locs hw222 hP9 hD9 hS9 => ?_)
        clear hP hD hS
        obtain ⟨k_223, rfl⟩ : ∃ z, z = zu222 := ⟨_, rfl⟩
        refine reW [] hP9 hD9 hS9 (fun hP hD hS => ?_)
        clear hP9 hD9 hS9
        refine W.widen (k := 0) (n := 0) (Nat.le_of_ble_eq_true rfl) (Nat.le_of_ble_eq_true rfl) ?_
        change (zr222 = nI k_223) ∧ (k_223 ≤ 1) at hw222
        obtain ⟨f_224, f_225⟩ := hw222
        subst f_224
        exact x_iret hQ hx hb hr hlocks hK hP hD hS dX12_done_231 () (trivial) [] (by decide +kernel) rfl (Nat.le_of_ble_eq_true rfl) (Nat.le_of_ble_eq_true rfl)
      · refine lv_iload_n hx hb dX12_done_219 rfl (lv_at hl 2 rfl) ?_
        refine lv_if_eq (tgt := 227) hx hb dX12_done_220 (by decide) (fun c_220 => ?_) (fun c_220 => ?_)
        · refine lv_iconst (v := 0) hx hb dX12_done_227 (by decide) ?_
          refine x_callSi (wr := []) (rest := []) ⟨hx, hb, hml, hown, hg, hl.1⟩ k_X12_333 (r_truth l D cy 0) E0_blind hK hP hD hS hA [] [] ⟨rfl, rfl, by decide +kernel, by decide +kernel, by decide +kernel⟩ (fun _ _ _ => trivial) dX12_done_228 rfl rfl (Nat.le_of_ble_eq_true rfl) ⟨Nat.le_of_ble_eq_true rfl, Nat.le_of_ble_eq_true rfl⟩ ⟨Nat.le_of_ble_eq_true rfl, Nat.le_of_ble_eq_true rfl⟩ (fun zr226 zu226 H locs hw226 hP9 hD9 hS9 => ?_)
          clear hP hD hS
          obtain ⟨k_227, rfl⟩ : ∃ z, z = zu226 := ⟨_, rfl⟩
          refine reW [] hP9 hD9 hS9 (fun hP hD hS => ?_)
          clear hP9 hD9 hS9
          refine W.widen (k := 0) (n := 0) (Nat.le_of_ble_eq_true rfl) (Nat.le_of_ble_eq_true rfl) ?_
          change (zr226 = nI k_227) ∧ (k_227 ≤ 1) at hw226
          obtain ⟨f_228, f_229⟩ := hw226
          subst f_228
          exact x_iret hQ hx hb hr hlocks hK hP hD hS dX12_done_231 () (trivial) [] (by decide +kernel) rfl (Nat.le_of_ble_eq_true rfl) (Nat.le_of_ble_eq_true rfl)
        · refine lv_iconst (v := 1) hx hb dX12_done_223 (by decide) ?_
          refine lv_goto (tgt := 228) hx hb dX12_done_224 (by decide) ?_
          refine x_callSi (wr := []) (rest := []) ⟨hx, hb, hml, hown, hg, hl.1⟩ k_X12_333 (r_truth l D cy 1) E0_blind hK hP hD hS hA [] [] ⟨rfl, rfl, by decide +kernel, by decide +kernel, by decide +kernel⟩ (fun _ _ _ => trivial) dX12_done_228 rfl rfl (Nat.le_of_ble_eq_true rfl) ⟨Nat.le_of_ble_eq_true rfl, Nat.le_of_ble_eq_true rfl⟩ ⟨Nat.le_of_ble_eq_true rfl, Nat.le_of_ble_eq_true rfl⟩ (fun zr230 zu230 H locs hw230 hP9 hD9 hS9 => ?_)
          clear hP hD hS
          obtain ⟨k_231, rfl⟩ : ∃ z, z = zu230 := ⟨_, rfl⟩
          refine reW [] hP9 hD9 hS9 (fun hP hD hS => ?_)
          clear hP9 hD9 hS9
          refine W.widen (k := 0) (n := 0) (Nat.le_of_ble_eq_true rfl) (Nat.le_of_ble_eq_true rfl) ?_
          change (zr230 = nI k_231) ∧ (k_231 ≤ 1) at hw230
          obtain ⟨f_232, f_233⟩ := hw230
          subst f_232
          exact x_iret hQ hx hb hr hlocks hK hP hD hS dX12_done_231 () (trivial) [] (by decide +kernel) rfl (Nat.le_of_ble_eq_true rfl) (Nat.le_of_ble_eq_true rfl)
    · refine lv_tableIn (off := 155) (tgt := 156) hx hb dX12_done_1 (by decide) (by decide) (by decide) (by decide) ?_
      refine lv_iload_n hx hb dX12_done_156 rfl (lv_at hl 1 rfl) ?_
      refine lv_iload_n hx hb dX12_done_157 rfl (lv_at hl 2 rfl) ?_
      refine lv_icmp_ge (tgt := 165) hx hb dX12_done_158 (by decide) (fun c_158 => ?_) (fun c_158 => ?_)
      · refine lv_iconst (v := 0) hx hb dX12_done_165 (by decide) ?_
        refine x_callSi (wr := []) (rest := []) ⟨hx, hb, hml, hown, hg, hl.1⟩ k_X12_333 (r_truth l D cy 0) E0_blind hK hP hD hS hA [] [] ⟨rfl, rfl, by decide +kernel, by decide +kernel, by decide +kernel⟩ (fun _ _ _ => trivial) dX12_done_166 rfl rfl (Nat.le_of_ble_eq_true rfl) ⟨Nat.le_of_ble_eq_true rfl, Nat.le_of_ble_eq_true rfl⟩ ⟨Nat.le_of_ble_eq_true rfl, Nat.le_of_ble_eq_true rfl⟩ (fun zr234 zu234 H locs hw234 hP9 hD9 hS9 => ?_)
        clear hP hD hS
        obtain ⟨k_235, rfl⟩ : ∃ z, z = zu234 := ⟨_, rfl⟩
        refine reW [] hP9 hD9 hS9 (fun hP hD hS => ?_)
        clear hP9 hD9 hS9
        refine W.widen (k := 0) (n := 0) (Nat.le_of_ble_eq_true rfl) (Nat.le_of_ble_eq_true rfl) ?_
        change (zr234 = nI k_235) ∧ (k_235 ≤ 1) at hw234
        obtain ⟨f_236, f_237⟩ := hw234
        subst f_236
        exact x_iret hQ hx hb hr hlocks hK hP hD hS dX12_done_169 () (trivial) [] (by decide +kernel) rfl (Nat.le_of_ble_eq_true rfl) (Nat.le_of_ble_eq_true rfl)
      · refine lv_iconst (v := 1) hx hb dX12_done_161 (by decide) ?_
        refine lv_goto (tgt := 166) hx hb dX12_done_162 (by decide) ?_
        refine x_callSi (wr := []) (rest := []) ⟨hx, hb, hml, hown, hg, hl.1⟩ k_X12_333 (r_truth l D cy 1) E0_blind hK hP hD hS hA [] [] ⟨rfl, rfl, by decide +kernel, by decide +kernel, by decide +kernel⟩ (fun _ _ _ => trivial) dX12_done_166 rfl rfl (Nat.le_of_ble_eq_true rfl) ⟨Nat.le_of_ble_eq_true rfl, Nat.le_of_ble_eq_true rfl⟩ ⟨Nat.le_of_ble_eq_true rfl, Nat.le_of_ble_eq_true rfl⟩ (fun zr238 zu238 H locs hw238 hP9 hD9 hS9 => ?_)
        clear hP hD hS
        obtain ⟨k_239, rfl⟩ : ∃ z, z = zu238 := ⟨_, rfl⟩
        refine reW [] hP9 hD9 hS9 (fun hP hD hS => ?_)
        clear hP9 hD9 hS9
        refine W.widen (k := 0) (n := 0) (Nat.le_of_ble_eq_true rfl) (Nat.le_of_ble_eq_true rfl) ?_
        change (zr238 = nI k_239) ∧ (k_239 ≤ 1) at hw238
        obtain ⟨f_240, f_241⟩ := hw238
        subst f_240
        exact x_iret hQ hx hb hr hlocks hK hP hD hS dX12_done_169 () (trivial) [] (by decide +kernel) rfl (Nat.le_of_ble_eq_true rfl) (Nat.le_of_ble_eq_true rfl)
    · refine lv_tableIn (off := 183) (tgt := 184) hx hb dX12_done_1 (by decide) (by decide) (by decide) (by decide) ?_
      refine lv_iload_n hx hb dX12_done_184 rfl (lv_at hl 1 rfl) ?_
      refine lv_iload_n hx hb dX12_done_185 rfl (lv_at hl 2 rfl) ?_
      refine lv_icmp_ne (tgt := 193) hx hb dX12_done_186 (by decide) (fun c_186 => ?_) (fun c_186 => ?_)
      · refine lv_iconst (v := 0) hx hb dX12_done_193 (by decide) ?_
        refine x_callSi (wr := []) (rest := []) ⟨hx, hb, hml, hown, hg, hl.1⟩ k_X12_333 (r_truth l D cy 0) E0_blind hK hP hD hS hA [] [] ⟨rfl, rfl, by decide +kernel, by decide +kernel, by decide +kernel⟩ (fun _ _ _ => trivial) dX12_done_194 rfl rfl (Nat.le_of_ble_eq_true rfl) ⟨Nat.le_of_ble_eq_true rfl, Nat.le_of_ble_eq_true rfl⟩ ⟨Nat.le_of_ble_eq_true rfl, Nat.le_of_ble_eq_true rfl⟩ (fun zr242 zu242 H locs hw242 hP9 hD9 hS9 => ?_)
        clear hP hD hS
        obtain ⟨k_243, rfl⟩ : ∃ z, z = zu242 := ⟨_, rfl⟩
        refine reW [] hP9 hD9 hS9 (fun hP hD hS => ?_)
        clear hP9 hD9 hS9
        refine W.widen (k := 0) (n := 0) (Nat.le_of_ble_eq_true rfl) (Nat.le_of_ble_eq_true rfl) ?_
        change (zr242 = nI k_243) ∧ (k_243 ≤ 1) at hw242
        obtain ⟨f_244, f_245⟩ := hw242
        subst f_244
        exact x_iret hQ hx hb hr hlocks hK hP hD hS dX12_done_197 () (trivial) [] (by decide +kernel) rfl (Nat.le_of_ble_eq_true rfl) (Nat.le_of_ble_eq_true rfl)
      · refine lv_iconst (v := 1) hx hb dX12_done_189 (by decide) ?_
        refine lv_goto (tgt := 194) hx hb dX12_done_190 (by decide) ?_
        refine x_callSi (wr := []) (rest := []) ⟨hx, hb, hml, hown, hg, hl.1⟩ k_X12_333 (r_truth l D cy 1) E0_blind hK hP hD hS hA [] [] ⟨rfl, rfl, by decide +kernel, by decide +kernel, by decide +kernel⟩ (fun _ _ _ => trivial) dX12_done_194 rfl rfl (Nat.le_of_ble_eq_true rfl) ⟨Nat.le_of_ble_eq_true rfl, Nat.le_of_ble_eq_true rfl⟩ ⟨Nat.le_of_ble_eq_true rfl, Nat.le_of_ble_eq_true rfl⟩ (fun zr246 zu246 H locs hw246 hP9 hD9 hS9 => ?_)
        clear hP hD hS
        obtain ⟨k_247, rfl⟩ : ∃ z, z = zu246 := ⟨_, rfl⟩
        refine reW [] hP9 hD9 hS9 (fun hP hD hS => ?_)
        clear hP9 hD9 hS9
        refine W.widen (k := 0) (n := 0) (Nat.le_of_ble_eq_true rfl) (Nat.le_of_ble_eq_true rfl) ?_
        change (zr246 = nI k_247) ∧ (k_247 ≤ 1) at hw246
        obtain ⟨f_248, f_249⟩ := hw246
        subst f_248
        exact x_iret hQ hx hb hr hlocks hK hP hD hS dX12_done_197 () (trivial) [] (by decide +kernel) rfl (Nat.le_of_ble_eq_true rfl) (Nat.le_of_ble_eq_true rfl)
    · refine lv_tableIn (off := 169) (tgt := 170) hx hb dX12_done_1 (by decide) (by decide) (by decide) (by decide) ?_
      refine lv_iload_n hx hb dX12_done_170 rfl (lv_at hl 1 rfl) ?_
      refine lv_iload_n hx hb dX12_done_171 rfl (lv_at hl 2 rfl) ?_
      refine lv_icmp_le (tgt := 179) hx hb dX12_done_172 (by decide) (fun c_172 => ?_) (fun c_172 => ?_)
      · refine lv_iconst (v := 0) hx hb dX12_done_179 (by decide) ?_
        refine x_callSi (wr := []) (rest := []) ⟨hx, hb, hml, hown, hg, hl.1⟩ k_X12_333 (r_truth l D cy 0) E0_blind hK hP hD hS hA [] [] ⟨rfl, rfl, by decide +kernel, by decide +kernel, by decide +kernel⟩ (fun _ _ _ => trivial) dX12_done_180 rfl rfl (Nat.le_of_ble_eq_true rfl) ⟨Nat.le_of_ble_eq_true rfl, Nat.le_of_ble_eq_true rfl⟩ ⟨Nat.le_of_ble_eq_true rfl, Nat.le_of_ble_eq_true rfl⟩ (fun zr250 zu250 H locs hw250 hP9 hD9 hS9 => ?_)
        clear hP hD hS
        obtain ⟨k_251, rfl⟩ : ∃ z, z = zu250 := ⟨_, rfl⟩
        refine reW [] hP9 hD9 hS9 (fun hP hD hS => ?_)
        clear hP9 hD9 hS9
        refine W.widen (k := 0) (n := 0) (Nat.le_of_ble_eq_true rfl) (Nat.le_of_ble_eq_true rfl) ?_
        change (zr250 = nI k_251) ∧ (k_251 ≤ 1) at hw250
        obtain ⟨f_252, f_253⟩ := hw250
        subst f_252
        exact x_iret hQ hx hb hr hlocks hK hP hD hS dX12_done_183 () (trivial) [] (by decide +kernel) rfl (Nat.le_of_ble_eq_true rfl) (Nat.le_of_ble_eq_true rfl)
      · refine lv_iconst (v := 1) hx hb dX12_done_175 (by decide) ?_
        refine lv_goto (tgt := 180) hx hb dX12_done_176 (by decide) ?_
        refine x_callSi (wr := []) (rest := []) ⟨hx, hb, hml, hown, hg, hl.1⟩ k_X12_333 (r_truth l D cy 1) E0_blind hK hP hD hS hA [] [] ⟨rfl, rfl, by decide +kernel, by decide +kernel, by decide +kernel⟩ (fun _ _ _ => trivial) dX12_done_180 rfl rfl (Nat.le_of_ble_eq_true rfl) ⟨Nat.le_of_ble_eq_true rfl, Nat.le_of_ble_eq_true rfl⟩ ⟨Nat.le_of_ble_eq_true rfl, Nat.le_of_ble_eq_true rfl⟩ (fun zr254 zu254 H locs hw254 hP9 hD9 hS9 => ?_)
        clear hP hD hS
        obtain ⟨k_255, rfl⟩ : ∃ z, z = zu254 := ⟨_, rfl⟩
        refine reW [] hP9 hD9 hS9 (fun hP hD hS => ?_)
        clear hP9 hD9 hS9
        refine W.widen (k := 0) (n := 0) (Nat.le_of_ble_eq_true rfl) (Nat.le_of_ble_eq_true rfl) ?_
        change (zr254 = nI k_255) ∧ (k_255 ≤ 1) at hw254
        obtain ⟨f_256, f_257⟩ := hw254
        subst f_256
        exact x_iret hQ hx hb hr hlocks hK hP hD hS dX12_done_183 () (trivial) [] (by decide +kernel) rfl (Nat.le_of_ble_eq_true rfl) (Nat.le_of_ble_eq_true rfl)
theorem gdX12_off_0 : decode cX12_off 0 = .ok (.iload_n 0, 1) ∧ decode cX12_off 1 = .ok (.iload_n 1, 1) ∧ decode cX12_off 2 = .ok (.if_icmp .le 9, 3) ∧ decode cX12_off 11 = .ok (.iload_n 1, 1) ∧ decode cX12_off 12 = .ok (.iload_n 0, 1) ∧ decode cX12_off 13 = .ok (.isub, 1) ∧ decode cX12_off 14 = .ok (.ireturn, 1) ∧ decode cX12_off 5 = .ok (.iload_n 0, 1) ∧ decode cX12_off 6 = .ok (.iload_n 1, 1) ∧ decode cX12_off 7 = .ok (.isub, 1) ∧ decode cX12_off 8 = .ok (.goto 6, 3) := by decide +kernel
theorem dX12_off_0 : decode cX12_off 0 = .ok (.iload_n 0, 1) := gdX12_off_0.1
theorem dX12_off_1 : decode cX12_off 1 = .ok (.iload_n 1, 1) := gdX12_off_0.2.1
theorem dX12_off_2 : decode cX12_off 2 = .ok (.if_icmp .le 9, 3) := gdX12_off_0.2.2.1
theorem dX12_off_11 : decode cX12_off 11 = .ok (.iload_n 1, 1) := gdX12_off_0.2.2.2.1
theorem dX12_off_12 : decode cX12_off 12 = .ok (.iload_n 0, 1) := gdX12_off_0.2.2.2.2.1
theorem dX12_off_13 : decode cX12_off 13 = .ok (.isub, 1) := gdX12_off_0.2.2.2.2.2.1
theorem dX12_off_14 : decode cX12_off 14 = .ok (.ireturn, 1) := gdX12_off_0.2.2.2.2.2.2.1
theorem dX12_off_5 : decode cX12_off 5 = .ok (.iload_n 0, 1) := gdX12_off_0.2.2.2.2.2.2.2.1
theorem dX12_off_6 : decode cX12_off 6 = .ok (.iload_n 1, 1) := gdX12_off_0.2.2.2.2.2.2.2.2.1
theorem dX12_off_7 : decode cX12_off 7 = .ok (.isub, 1) := gdX12_off_0.2.2.2.2.2.2.2.2.2.1
theorem dX12_off_8 : decode cX12_off 8 = .ok (.goto 6, 3) := gdX12_off_0.2.2.2.2.2.2.2.2.2.2
set_option maxHeartbeats 1000000 in
set_option maxRecDepth 100000 in
theorem r_off (l : Launch) (D : va_G) (cy : Nat → ClassId) (xa : Int32) (xb : Int32)  : XMi l D (tyL cy) E0 yX12_off cX12_off 2 (some .int) (rmk 0 0 0) [.int xa, .int xb] [] (fun (r : Int32) (_ : Unit) => True) (fun (_ : Unit) => []) := by
  refine XMi.start (by decide) (Nat.le_of_ble_eq_true rfl) ?_
  intro p e s m below meth c args A ls Q hat hQ
  obtain ⟨hx, hb, hr, hml, hown, hg, hlocks, hin, hK, hA, hP, hD, hS, hE, hl⟩ := hat
  have hown : s.vm.findClass RX12 = some m.cls := hown
  have hl : lv_has ls 2 [(0, .int xa), (1, .int xb)] := hl
  refine lv_iload_n hx hb dX12_off_0 rfl (lv_at hl 0 rfl) ?_
  refine lv_iload_n hx hb dX12_off_1 rfl (lv_at hl 1 rfl) ?_
  refine lv_icmp_le (tgt := 11) hx hb dX12_off_2 (by decide) (fun c_2 => ?_) (fun c_2 => ?_)
  · refine lv_iload_n hx hb dX12_off_11 rfl (lv_at hl 1 rfl) ?_
    refine lv_iload_n hx hb dX12_off_12 rfl (lv_at hl 0 rfl) ?_
    refine lv_isub hx hb dX12_off_13 ?_
    refine lv_topi (fun x_1 ex_1 => ?_)
    exact x_iret hQ hx hb hr hlocks hK hP hD hS dX12_off_14 () (trivial) [] (by decide +kernel) rfl (Nat.le_of_ble_eq_true rfl) (Nat.le_of_ble_eq_true rfl)
  · refine lv_iload_n hx hb dX12_off_5 rfl (lv_at hl 0 rfl) ?_
    refine lv_iload_n hx hb dX12_off_6 rfl (lv_at hl 1 rfl) ?_
    refine lv_isub hx hb dX12_off_7 ?_
    refine lv_topi (fun x_2 ex_2 => ?_)
    refine lv_goto (tgt := 14) hx hb dX12_off_8 (by decide) ?_
    exact x_iret hQ hx hb hr hlocks hK hP hD hS dX12_off_14 () (trivial) [] (by decide +kernel) rfl (Nat.le_of_ble_eq_true rfl) (Nat.le_of_ble_eq_true rfl)
theorem gdX12_members_0 : decode cX12_members 0 = .ok (.iconst 0, 1) ∧ decode cX12_members 1 = .ok (.istore_n 1, 1) ∧ decode cX12_members 2 = .ok (.iconst 0, 1) ∧ decode cX12_members 3 = .ok (.istore_n 2, 1) ∧ decode cX12_members 4 = .ok (.iload_n 2, 1) ∧ decode cX12_members 5 = .ok (.bipush 10, 2) ∧ decode cX12_members 7 = .ok (.if_icmp .ge 17, 3) ∧ decode cX12_members 24 = .ok (.iload_n 1, 1) ∧ decode cX12_members 25 = .ok (.ireturn, 1) ∧ decode cX12_members 10 = .ok (.iload_n 1, 1) ∧ decode cX12_members 11 = .ok (.iload_n 0, 1) ∧ decode cX12_members 12 = .ok (.iload_n 2, 1) := by decide +kernel
theorem dX12_members_0 : decode cX12_members 0 = .ok (.iconst 0, 1) := gdX12_members_0.1
theorem dX12_members_1 : decode cX12_members 1 = .ok (.istore_n 1, 1) := gdX12_members_0.2.1
theorem dX12_members_2 : decode cX12_members 2 = .ok (.iconst 0, 1) := gdX12_members_0.2.2.1
theorem dX12_members_3 : decode cX12_members 3 = .ok (.istore_n 2, 1) := gdX12_members_0.2.2.2.1
theorem dX12_members_4 : decode cX12_members 4 = .ok (.iload_n 2, 1) := gdX12_members_0.2.2.2.2.1
theorem dX12_members_5 : decode cX12_members 5 = .ok (.bipush 10, 2) := gdX12_members_0.2.2.2.2.2.1
theorem dX12_members_7 : decode cX12_members 7 = .ok (.if_icmp .ge 17, 3) := gdX12_members_0.2.2.2.2.2.2.1
theorem dX12_members_24 : decode cX12_members 24 = .ok (.iload_n 1, 1) := gdX12_members_0.2.2.2.2.2.2.2.1
theorem dX12_members_25 : decode cX12_members 25 = .ok (.ireturn, 1) := gdX12_members_0.2.2.2.2.2.2.2.2.1
theorem dX12_members_10 : decode cX12_members 10 = .ok (.iload_n 1, 1) := gdX12_members_0.2.2.2.2.2.2.2.2.2.1
theorem dX12_members_11 : decode cX12_members 11 = .ok (.iload_n 0, 1) := gdX12_members_0.2.2.2.2.2.2.2.2.2.2.1
theorem dX12_members_12 : decode cX12_members 12 = .ok (.iload_n 2, 1) := gdX12_members_0.2.2.2.2.2.2.2.2.2.2.2
theorem gdX12_members_13 : decode cX12_members 13 = .ok (.ishr, 1) ∧ decode cX12_members 14 = .ok (.iconst 1, 1) ∧ decode cX12_members 15 = .ok (.iand, 1) ∧ decode cX12_members 16 = .ok (.iadd, 1) ∧ decode cX12_members 17 = .ok (.istore_n 1, 1) ∧ decode cX12_members 18 = .ok (.iinc 2 1, 3) ∧ decode cX12_members 21 = .ok (.goto (-17), 3) := by decide +kernel
theorem dX12_members_13 : decode cX12_members 13 = .ok (.ishr, 1) := gdX12_members_13.1
theorem dX12_members_14 : decode cX12_members 14 = .ok (.iconst 1, 1) := gdX12_members_13.2.1
theorem dX12_members_15 : decode cX12_members 15 = .ok (.iand, 1) := gdX12_members_13.2.2.1
theorem dX12_members_16 : decode cX12_members 16 = .ok (.iadd, 1) := gdX12_members_13.2.2.2.1
theorem dX12_members_17 : decode cX12_members 17 = .ok (.istore_n 1, 1) := gdX12_members_13.2.2.2.2.1
theorem dX12_members_18 : decode cX12_members 18 = .ok (.iinc 2 1, 3) := gdX12_members_13.2.2.2.2.2.1
theorem dX12_members_21 : decode cX12_members 21 = .ok (.goto (-17), 3) := gdX12_members_13.2.2.2.2.2.2
set_option maxHeartbeats 1000000 in
set_option maxRecDepth 100000 in
theorem r_members (l : Launch) (D : va_G) (cy : Nat → ClassId) (ix : Int32)  : XMi l D (tyL cy) E0 yX12_members cX12_members 3 (some .int) (rmk 0 0 0) [.int ix] [] (fun (r : Int32) (_ : Unit) => True) (fun (_ : Unit) => []) := by
  refine XMi.start (by decide) (Nat.le_of_ble_eq_true rfl) ?_
  intro p e s m below meth c args A ls Q hat hQ
  obtain ⟨hx, hb, hr, hml, hown, hg, hlocks, hin, hK, hA, hP, hD, hS, hE, hl⟩ := hat
  have hown : s.vm.findClass RX12 = some m.cls := hown
  have hl : lv_has ls 3 [(0, .int ix)] := hl
  refine lv_iconst (v := 0) hx hb dX12_members_0 (by decide) ?_
  refine lv_istore_n (lv' := [(1, .int 0), (0, .int ix)]) hx hb dX12_members_1 rfl hl (by decide) rfl (fun ls hl => ?_)
  refine lv_iconst (v := 0) hx hb dX12_members_2 (by decide) ?_
  refine lv_istore_n (lv' := [(2, .int 0), (1, .int 0), (0, .int ix)]) hx hb dX12_members_3 rfl hl (by decide) rfl (fun ls hl => ?_)
  have loop1 : ∀ (zn : Nat) (lx1_1 : Int32) (k1 : Nat), (k1 ≤ 10) → 10 - k1 + 1 ≤ zn → ∀ (H : Heap) (locs : List Loc), va_P D vwCl [] H → va_D A [] → va_S A s.heap H locs → ∀ ls : Array Slot, lv_has ls 3 [(2, .int (nI k1)), (1, .int lx1_1), (0, .int ix)] → W p l e (rmk 0 0 0) s m args below meth c H locs 0 0 Q (F0 m 4 ls []) := by
    try clear hP hD hS
    intro zn
    induction zn with
    | zero => intro lx1_1 k1 _ hz; exact absurd hz (by omega)
    | succ zn ih1 =>
      intro lx1_1 k1 hf0_1 hmu1 H locs hP hD hS ls hl
      refine lv_iload_n hx hb dX12_members_4 rfl (lv_at hl 0 rfl) ?_
      refine lv_bipush (v := 10) hx hb dX12_members_5 (by decide) ?_
      refine lv_icmp_ge (tgt := 24) hx hb dX12_members_7 (by decide) (fun c_2 => ?_) (fun c_2 => ?_)
      · have q_3 : 10 ≤ k1 := q_le (a := 10) (b := k1) rfl rfl (by omega) (by omega) c_2
        refine lv_iload_n hx hb dX12_members_24 rfl (lv_at hl 1 rfl) ?_
        exact x_iret hQ hx hb hr hlocks hK hP hD hS dX12_members_25 () (trivial) [] (by decide +kernel) rfl (Nat.le_of_ble_eq_true rfl) (Nat.le_of_ble_eq_true rfl)
      · have q_3 : k1 < 10 := q_nle (a := 10) (b := k1) rfl rfl (by omega) (by omega) c_2
        refine lv_iload_n hx hb dX12_members_10 rfl (lv_at hl 1 rfl) ?_
        refine lv_iload_n hx hb dX12_members_11 rfl (lv_at hl 2 rfl) ?_
        refine lv_iload_n hx hb dX12_members_12 rfl (lv_at hl 0 rfl) ?_
        refine lv_ishr hx hb dX12_members_13 ?_
        refine lv_topi (fun x_4 ex_4 => ?_)
        refine lv_iconst (v := 1) hx hb dX12_members_14 (by decide) ?_
        refine lv_iand hx hb dX12_members_15 ?_
        refine lv_topi (fun x_5 ex_5 => ?_)
        refine lv_iadd hx hb dX12_members_16 ?_
        refine lv_topi (fun x_6 ex_6 => ?_)
        refine lv_istore_n (lv' := [(1, .int x_6), (2, .int (nI k1)), (0, .int ix)]) hx hb dX12_members_17 rfl hl (by decide) rfl (fun ls hl => ?_)
        refine lv_iinc (v := nI (k1 + 1)) (lv' := [(2, .int (nI (k1 + 1))), (1, .int x_6), (0, .int ix)]) hx hb dX12_members_18 hl (k := 1) rfl (nI_add k1 1) (by decide) rfl (fun ls hl => ?_)
        refine lv_goto (tgt := 4) hx hb dX12_members_21 (by decide) ?_
        exact ih1  x_6 ((k1 + 1)) (by first | assumption | omega) (by omega) _ _ (hP.sub [] rfl) (hD.sub [] (by decide +kernel) rfl) hS ls (lv_sub hl [0, 1, 2] rfl)
  exact loop1 _ 0 0 (by first | assumption | omega) (Nat.le_refl _) _ _ (hP.sub [] rfl) (hD.sub [] (by decide +kernel) rfl) hS ls (lv_sub hl [0, 1, 2] rfl)
theorem gdX12_worked_0 : decode cX12_worked 0 = .ok (.iconst 0, 1) ∧ decode cX12_worked 1 = .ok (.istore_n 2, 1) ∧ decode cX12_worked 2 = .ok (.sipush 320, 3) ∧ decode cX12_worked 5 = .ok (.iload_n 1, 1) ∧ decode cX12_worked 6 = .ok (.imul, 1) ∧ decode cX12_worked 7 = .ok (.istore_n 3, 1) ∧ decode cX12_worked 8 = .ok (.iload_n 3, 1) ∧ decode cX12_worked 9 = .ok (.sipush 320, 3) ∧ decode cX12_worked 12 = .ok (.iload_n 1, 1) ∧ decode cX12_worked 13 = .ok (.imul, 1) ∧ decode cX12_worked 14 = .ok (.aload_n 0, 1) ∧ decode cX12_worked 15 = .ok (.getfield 36, 3) := by decide +kernel
theorem dX12_worked_0 : decode cX12_worked 0 = .ok (.iconst 0, 1) := gdX12_worked_0.1
theorem dX12_worked_1 : decode cX12_worked 1 = .ok (.istore_n 2, 1) := gdX12_worked_0.2.1
theorem dX12_worked_2 : decode cX12_worked 2 = .ok (.sipush 320, 3) := gdX12_worked_0.2.2.1
theorem dX12_worked_5 : decode cX12_worked 5 = .ok (.iload_n 1, 1) := gdX12_worked_0.2.2.2.1
theorem dX12_worked_6 : decode cX12_worked 6 = .ok (.imul, 1) := gdX12_worked_0.2.2.2.2.1
theorem dX12_worked_7 : decode cX12_worked 7 = .ok (.istore_n 3, 1) := gdX12_worked_0.2.2.2.2.2.1
theorem dX12_worked_8 : decode cX12_worked 8 = .ok (.iload_n 3, 1) := gdX12_worked_0.2.2.2.2.2.2.1
theorem dX12_worked_9 : decode cX12_worked 9 = .ok (.sipush 320, 3) := gdX12_worked_0.2.2.2.2.2.2.2.1
theorem dX12_worked_12 : decode cX12_worked 12 = .ok (.iload_n 1, 1) := gdX12_worked_0.2.2.2.2.2.2.2.2.1
theorem dX12_worked_13 : decode cX12_worked 13 = .ok (.imul, 1) := gdX12_worked_0.2.2.2.2.2.2.2.2.2.1
theorem dX12_worked_14 : decode cX12_worked 14 = .ok (.aload_n 0, 1) := gdX12_worked_0.2.2.2.2.2.2.2.2.2.2.1
theorem dX12_worked_15 : decode cX12_worked 15 = .ok (.getfield 36, 3) := gdX12_worked_0.2.2.2.2.2.2.2.2.2.2.2
theorem gdX12_worked_18 : decode cX12_worked 18 = .ok (.iload_n 1, 1) ∧ decode cX12_worked 19 = .ok (.iaload, 1) ∧ decode cX12_worked 20 = .ok (.iadd, 1) ∧ decode cX12_worked 21 = .ok (.if_icmp .ge 143, 3) ∧ decode cX12_worked 164 = .ok (.aload_n 0, 1) ∧ decode cX12_worked 165 = .ok (.getfield 42, 3) ∧ decode cX12_worked 168 = .ok (.iconst 0, 1) ∧ decode cX12_worked 169 = .ok (.iaload, 1) ∧ decode cX12_worked 170 = .ok (.ireturn, 1) ∧ decode cX12_worked 24 = .ok (.aload_n 0, 1) ∧ decode cX12_worked 25 = .ok (.getfield 30, 3) ∧ decode cX12_worked 28 = .ok (.iload_n 3, 1) := by decide +kernel
theorem dX12_worked_18 : decode cX12_worked 18 = .ok (.iload_n 1, 1) := gdX12_worked_18.1
theorem dX12_worked_19 : decode cX12_worked 19 = .ok (.iaload, 1) := gdX12_worked_18.2.1
theorem dX12_worked_20 : decode cX12_worked 20 = .ok (.iadd, 1) := gdX12_worked_18.2.2.1
theorem dX12_worked_21 : decode cX12_worked 21 = .ok (.if_icmp .ge 143, 3) := gdX12_worked_18.2.2.2.1
theorem dX12_worked_164 : decode cX12_worked 164 = .ok (.aload_n 0, 1) := gdX12_worked_18.2.2.2.2.1
theorem dX12_worked_165 : decode cX12_worked 165 = .ok (.getfield 42, 3) := gdX12_worked_18.2.2.2.2.2.1
theorem dX12_worked_168 : decode cX12_worked 168 = .ok (.iconst 0, 1) := gdX12_worked_18.2.2.2.2.2.2.1
theorem dX12_worked_169 : decode cX12_worked 169 = .ok (.iaload, 1) := gdX12_worked_18.2.2.2.2.2.2.2.1
theorem dX12_worked_170 : decode cX12_worked 170 = .ok (.ireturn, 1) := gdX12_worked_18.2.2.2.2.2.2.2.2.1
theorem dX12_worked_24 : decode cX12_worked 24 = .ok (.aload_n 0, 1) := gdX12_worked_18.2.2.2.2.2.2.2.2.2.1
theorem dX12_worked_25 : decode cX12_worked 25 = .ok (.getfield 30, 3) := gdX12_worked_18.2.2.2.2.2.2.2.2.2.2.1
theorem dX12_worked_28 : decode cX12_worked 28 = .ok (.iload_n 3, 1) := gdX12_worked_18.2.2.2.2.2.2.2.2.2.2.2
theorem gdX12_worked_29 : decode cX12_worked 29 = .ok (.iaload, 1) ∧ decode cX12_worked 30 = .ok (.ifCond .eq 13, 3) ∧ decode cX12_worked 43 = .ok (.aload_n 0, 1) ∧ decode cX12_worked 44 = .ok (.getfield 42, 3) ∧ decode cX12_worked 47 = .ok (.iload_n 2, 1) ∧ decode cX12_worked 48 = .ok (.aload_n 0, 1) ∧ decode cX12_worked 49 = .ok (.getfield 30, 3) ∧ decode cX12_worked 52 = .ok (.iload_n 3, 1) ∧ decode cX12_worked 53 = .ok (.iaload, 1) ∧ decode cX12_worked 54 = .ok (.ifCond .ne 12, 3) ∧ decode cX12_worked 57 = .ok (.aload_n 0, 1) ∧ decode cX12_worked 58 = .ok (.getfield 33, 3) := by decide +kernel
theorem dX12_worked_29 : decode cX12_worked 29 = .ok (.iaload, 1) := gdX12_worked_29.1
theorem dX12_worked_30 : decode cX12_worked 30 = .ok (.ifCond .eq 13, 3) := gdX12_worked_29.2.1
theorem dX12_worked_43 : decode cX12_worked 43 = .ok (.aload_n 0, 1) := gdX12_worked_29.2.2.1
theorem dX12_worked_44 : decode cX12_worked 44 = .ok (.getfield 42, 3) := gdX12_worked_29.2.2.2.1
theorem dX12_worked_47 : decode cX12_worked 47 = .ok (.iload_n 2, 1) := gdX12_worked_29.2.2.2.2.1
theorem dX12_worked_48 : decode cX12_worked 48 = .ok (.aload_n 0, 1) := gdX12_worked_29.2.2.2.2.2.1
theorem dX12_worked_49 : decode cX12_worked 49 = .ok (.getfield 30, 3) := gdX12_worked_29.2.2.2.2.2.2.1
theorem dX12_worked_52 : decode cX12_worked 52 = .ok (.iload_n 3, 1) := gdX12_worked_29.2.2.2.2.2.2.2.1
theorem dX12_worked_53 : decode cX12_worked 53 = .ok (.iaload, 1) := gdX12_worked_29.2.2.2.2.2.2.2.2.1
theorem dX12_worked_54 : decode cX12_worked 54 = .ok (.ifCond .ne 12, 3) := gdX12_worked_29.2.2.2.2.2.2.2.2.2.1
theorem dX12_worked_57 : decode cX12_worked 57 = .ok (.aload_n 0, 1) := gdX12_worked_29.2.2.2.2.2.2.2.2.2.2.1
theorem dX12_worked_58 : decode cX12_worked 58 = .ok (.getfield 33, 3) := gdX12_worked_29.2.2.2.2.2.2.2.2.2.2.2
theorem gdX12_worked_61 : decode cX12_worked 61 = .ok (.iload_n 3, 1) ∧ decode cX12_worked 62 = .ok (.iaload, 1) ∧ decode cX12_worked 63 = .ok (.goto 14, 3) ∧ decode cX12_worked 77 = .ok (.iastore, 1) ∧ decode cX12_worked 78 = .ok (.iinc 2 1, 3) ∧ decode cX12_worked 81 = .ok (.goto 77, 3) ∧ decode cX12_worked 158 = .ok (.iinc 3 1, 3) ∧ decode cX12_worked 161 = .ok (.goto (-153), 3) ∧ decode cX12_worked 33 = .ok (.aload_n 0, 1) ∧ decode cX12_worked 34 = .ok (.getfield 30, 3) ∧ decode cX12_worked 37 = .ok (.iload_n 3, 1) ∧ decode cX12_worked 38 = .ok (.iaload, 1) := by decide +kernel
theorem dX12_worked_61 : decode cX12_worked 61 = .ok (.iload_n 3, 1) := gdX12_worked_61.1
theorem dX12_worked_62 : decode cX12_worked 62 = .ok (.iaload, 1) := gdX12_worked_61.2.1
theorem dX12_worked_63 : decode cX12_worked 63 = .ok (.goto 14, 3) := gdX12_worked_61.2.2.1
theorem dX12_worked_77 : decode cX12_worked 77 = .ok (.iastore, 1) := gdX12_worked_61.2.2.2.1
theorem dX12_worked_78 : decode cX12_worked 78 = .ok (.iinc 2 1, 3) := gdX12_worked_61.2.2.2.2.1
theorem dX12_worked_81 : decode cX12_worked 81 = .ok (.goto 77, 3) := gdX12_worked_61.2.2.2.2.2.1
theorem dX12_worked_158 : decode cX12_worked 158 = .ok (.iinc 3 1, 3) := gdX12_worked_61.2.2.2.2.2.2.1
theorem dX12_worked_161 : decode cX12_worked 161 = .ok (.goto (-153), 3) := gdX12_worked_61.2.2.2.2.2.2.2.1
theorem dX12_worked_33 : decode cX12_worked 33 = .ok (.aload_n 0, 1) := gdX12_worked_61.2.2.2.2.2.2.2.2.1
theorem dX12_worked_34 : decode cX12_worked 34 = .ok (.getfield 30, 3) := gdX12_worked_61.2.2.2.2.2.2.2.2.2.1
theorem dX12_worked_37 : decode cX12_worked 37 = .ok (.iload_n 3, 1) := gdX12_worked_61.2.2.2.2.2.2.2.2.2.2.1
theorem dX12_worked_38 : decode cX12_worked 38 = .ok (.iaload, 1) := gdX12_worked_61.2.2.2.2.2.2.2.2.2.2.2
theorem gdX12_worked_39 : decode cX12_worked 39 = .ok (.iconst 1, 1) ∧ decode cX12_worked 40 = .ok (.if_icmp .ne 44, 3) ∧ decode cX12_worked 66 = .ok (.aload_n 0, 1) ∧ decode cX12_worked 67 = .ok (.getfield 52, 3) ∧ decode cX12_worked 70 = .ok (.aload_n 0, 1) ∧ decode cX12_worked 71 = .ok (.getfield 33, 3) ∧ decode cX12_worked 74 = .ok (.iload_n 3, 1) ∧ decode cX12_worked 75 = .ok (.iaload, 1) ∧ decode cX12_worked 76 = .ok (.iaload, 1) ∧ decode cX12_worked 84 = .ok (.aload_n 0, 1) ∧ decode cX12_worked 85 = .ok (.getfield 30, 3) ∧ decode cX12_worked 88 = .ok (.iload_n 3, 1) := by decide +kernel
theorem dX12_worked_39 : decode cX12_worked 39 = .ok (.iconst 1, 1) := gdX12_worked_39.1
theorem dX12_worked_40 : decode cX12_worked 40 = .ok (.if_icmp .ne 44, 3) := gdX12_worked_39.2.1
theorem dX12_worked_66 : decode cX12_worked 66 = .ok (.aload_n 0, 1) := gdX12_worked_39.2.2.1
theorem dX12_worked_67 : decode cX12_worked 67 = .ok (.getfield 52, 3) := gdX12_worked_39.2.2.2.1
theorem dX12_worked_70 : decode cX12_worked 70 = .ok (.aload_n 0, 1) := gdX12_worked_39.2.2.2.2.1
theorem dX12_worked_71 : decode cX12_worked 71 = .ok (.getfield 33, 3) := gdX12_worked_39.2.2.2.2.2.1
theorem dX12_worked_74 : decode cX12_worked 74 = .ok (.iload_n 3, 1) := gdX12_worked_39.2.2.2.2.2.2.1
theorem dX12_worked_75 : decode cX12_worked 75 = .ok (.iaload, 1) := gdX12_worked_39.2.2.2.2.2.2.2.1
theorem dX12_worked_76 : decode cX12_worked 76 = .ok (.iaload, 1) := gdX12_worked_39.2.2.2.2.2.2.2.2.1
theorem dX12_worked_84 : decode cX12_worked 84 = .ok (.aload_n 0, 1) := gdX12_worked_39.2.2.2.2.2.2.2.2.2.1
theorem dX12_worked_85 : decode cX12_worked 85 = .ok (.getfield 30, 3) := gdX12_worked_39.2.2.2.2.2.2.2.2.2.2.1
theorem dX12_worked_88 : decode cX12_worked 88 = .ok (.iload_n 3, 1) := gdX12_worked_39.2.2.2.2.2.2.2.2.2.2.2
theorem gdX12_worked_89 : decode cX12_worked 89 = .ok (.iaload, 1) ∧ decode cX12_worked 90 = .ok (.iconst 2, 1) ∧ decode cX12_worked 91 = .ok (.if_icmp .ne 33, 3) ∧ decode cX12_worked 94 = .ok (.aload_n 0, 1) ∧ decode cX12_worked 95 = .ok (.getfield 42, 3) ∧ decode cX12_worked 98 = .ok (.iload_n 2, 1) ∧ decode cX12_worked 99 = .ok (.iconst 1, 1) ∧ decode cX12_worked 100 = .ok (.isub, 1) ∧ decode cX12_worked 101 = .ok (.aload_n 0, 1) ∧ decode cX12_worked 102 = .ok (.getfield 42, 3) ∧ decode cX12_worked 105 = .ok (.iload_n 2, 1) ∧ decode cX12_worked 106 = .ok (.iconst 1, 1) := by decide +kernel
theorem dX12_worked_89 : decode cX12_worked 89 = .ok (.iaload, 1) := gdX12_worked_89.1
theorem dX12_worked_90 : decode cX12_worked 90 = .ok (.iconst 2, 1) := gdX12_worked_89.2.1
theorem dX12_worked_91 : decode cX12_worked 91 = .ok (.if_icmp .ne 33, 3) := gdX12_worked_89.2.2.1
theorem dX12_worked_94 : decode cX12_worked 94 = .ok (.aload_n 0, 1) := gdX12_worked_89.2.2.2.1
theorem dX12_worked_95 : decode cX12_worked 95 = .ok (.getfield 42, 3) := gdX12_worked_89.2.2.2.2.1
theorem dX12_worked_98 : decode cX12_worked 98 = .ok (.iload_n 2, 1) := gdX12_worked_89.2.2.2.2.2.1
theorem dX12_worked_99 : decode cX12_worked 99 = .ok (.iconst 1, 1) := gdX12_worked_89.2.2.2.2.2.2.1
theorem dX12_worked_100 : decode cX12_worked 100 = .ok (.isub, 1) := gdX12_worked_89.2.2.2.2.2.2.2.1
theorem dX12_worked_101 : decode cX12_worked 101 = .ok (.aload_n 0, 1) := gdX12_worked_89.2.2.2.2.2.2.2.2.1
theorem dX12_worked_102 : decode cX12_worked 102 = .ok (.getfield 42, 3) := gdX12_worked_89.2.2.2.2.2.2.2.2.2.1
theorem dX12_worked_105 : decode cX12_worked 105 = .ok (.iload_n 2, 1) := gdX12_worked_89.2.2.2.2.2.2.2.2.2.2.1
theorem dX12_worked_106 : decode cX12_worked 106 = .ok (.iconst 1, 1) := gdX12_worked_89.2.2.2.2.2.2.2.2.2.2.2
theorem gdX12_worked_107 : decode cX12_worked 107 = .ok (.isub, 1) ∧ decode cX12_worked 108 = .ok (.iaload, 1) ∧ decode cX12_worked 109 = .ok (.ifCond .ne 7, 3) ∧ decode cX12_worked 116 = .ok (.iconst 0, 1) ∧ decode cX12_worked 117 = .ok (.invokestatic 333, 3) ∧ decode cX12_worked 120 = .ok (.iastore, 1) ∧ decode cX12_worked 121 = .ok (.goto 37, 3) ∧ decode cX12_worked 112 = .ok (.iconst 1, 1) ∧ decode cX12_worked 113 = .ok (.goto 4, 3) ∧ decode cX12_worked 124 = .ok (.iinc 2 (-1), 3) ∧ decode cX12_worked 127 = .ok (.aload_n 0, 1) ∧ decode cX12_worked 128 = .ok (.getfield 42, 3) := by decide +kernel
theorem dX12_worked_107 : decode cX12_worked 107 = .ok (.isub, 1) := gdX12_worked_107.1
theorem dX12_worked_108 : decode cX12_worked 108 = .ok (.iaload, 1) := gdX12_worked_107.2.1
theorem dX12_worked_109 : decode cX12_worked 109 = .ok (.ifCond .ne 7, 3) := gdX12_worked_107.2.2.1
theorem dX12_worked_116 : decode cX12_worked 116 = .ok (.iconst 0, 1) := gdX12_worked_107.2.2.2.1
theorem dX12_worked_117 : decode cX12_worked 117 = .ok (.invokestatic 333, 3) := gdX12_worked_107.2.2.2.2.1
theorem dX12_worked_120 : decode cX12_worked 120 = .ok (.iastore, 1) := gdX12_worked_107.2.2.2.2.2.1
theorem dX12_worked_121 : decode cX12_worked 121 = .ok (.goto 37, 3) := gdX12_worked_107.2.2.2.2.2.2.1
theorem dX12_worked_112 : decode cX12_worked 112 = .ok (.iconst 1, 1) := gdX12_worked_107.2.2.2.2.2.2.2.1
theorem dX12_worked_113 : decode cX12_worked 113 = .ok (.goto 4, 3) := gdX12_worked_107.2.2.2.2.2.2.2.2.1
theorem dX12_worked_124 : decode cX12_worked 124 = .ok (.iinc 2 (-1), 3) := gdX12_worked_107.2.2.2.2.2.2.2.2.2.1
theorem dX12_worked_127 : decode cX12_worked 127 = .ok (.aload_n 0, 1) := gdX12_worked_107.2.2.2.2.2.2.2.2.2.2.1
theorem dX12_worked_128 : decode cX12_worked 128 = .ok (.getfield 42, 3) := gdX12_worked_107.2.2.2.2.2.2.2.2.2.2.2
theorem gdX12_worked_131 : decode cX12_worked 131 = .ok (.iload_n 2, 1) ∧ decode cX12_worked 132 = .ok (.iconst 1, 1) ∧ decode cX12_worked 133 = .ok (.isub, 1) ∧ decode cX12_worked 134 = .ok (.aload_n 0, 1) ∧ decode cX12_worked 135 = .ok (.getfield 33, 3) ∧ decode cX12_worked 138 = .ok (.iload_n 3, 1) ∧ decode cX12_worked 139 = .ok (.iaload, 1) ∧ decode cX12_worked 140 = .ok (.aload_n 0, 1) ∧ decode cX12_worked 141 = .ok (.getfield 42, 3) ∧ decode cX12_worked 144 = .ok (.iload_n 2, 1) ∧ decode cX12_worked 145 = .ok (.iconst 1, 1) ∧ decode cX12_worked 146 = .ok (.isub, 1) := by decide +kernel
theorem dX12_worked_131 : decode cX12_worked 131 = .ok (.iload_n 2, 1) := gdX12_worked_131.1
theorem dX12_worked_132 : decode cX12_worked 132 = .ok (.iconst 1, 1) := gdX12_worked_131.2.1
theorem dX12_worked_133 : decode cX12_worked 133 = .ok (.isub, 1) := gdX12_worked_131.2.2.1
theorem dX12_worked_134 : decode cX12_worked 134 = .ok (.aload_n 0, 1) := gdX12_worked_131.2.2.2.1
theorem dX12_worked_135 : decode cX12_worked 135 = .ok (.getfield 33, 3) := gdX12_worked_131.2.2.2.2.1
theorem dX12_worked_138 : decode cX12_worked 138 = .ok (.iload_n 3, 1) := gdX12_worked_131.2.2.2.2.2.1
theorem dX12_worked_139 : decode cX12_worked 139 = .ok (.iaload, 1) := gdX12_worked_131.2.2.2.2.2.2.1
theorem dX12_worked_140 : decode cX12_worked 140 = .ok (.aload_n 0, 1) := gdX12_worked_131.2.2.2.2.2.2.2.1
theorem dX12_worked_141 : decode cX12_worked 141 = .ok (.getfield 42, 3) := gdX12_worked_131.2.2.2.2.2.2.2.2.1
theorem dX12_worked_144 : decode cX12_worked 144 = .ok (.iload_n 2, 1) := gdX12_worked_131.2.2.2.2.2.2.2.2.2.1
theorem dX12_worked_145 : decode cX12_worked 145 = .ok (.iconst 1, 1) := gdX12_worked_131.2.2.2.2.2.2.2.2.2.2.1
theorem dX12_worked_146 : decode cX12_worked 146 = .ok (.isub, 1) := gdX12_worked_131.2.2.2.2.2.2.2.2.2.2.2
theorem gdX12_worked_147 : decode cX12_worked 147 = .ok (.iaload, 1) ∧ decode cX12_worked 148 = .ok (.aload_n 0, 1) ∧ decode cX12_worked 149 = .ok (.getfield 42, 3) ∧ decode cX12_worked 152 = .ok (.iload_n 2, 1) ∧ decode cX12_worked 153 = .ok (.iaload, 1) ∧ decode cX12_worked 154 = .ok (.invokestatic 337, 3) := by decide +kernel
theorem dX12_worked_147 : decode cX12_worked 147 = .ok (.iaload, 1) := gdX12_worked_147.1
theorem dX12_worked_148 : decode cX12_worked 148 = .ok (.aload_n 0, 1) := gdX12_worked_147.2.1
theorem dX12_worked_149 : decode cX12_worked 149 = .ok (.getfield 42, 3) := gdX12_worked_147.2.2.1
theorem dX12_worked_152 : decode cX12_worked 152 = .ok (.iload_n 2, 1) := gdX12_worked_147.2.2.2.1
theorem dX12_worked_153 : decode cX12_worked 153 = .ok (.iaload, 1) := gdX12_worked_147.2.2.2.2.1
theorem dX12_worked_154 : decode cX12_worked 154 = .ok (.invokestatic 337, 3) := gdX12_worked_147.2.2.2.2.2
theorem k_X12_337 : xS RX12 337 yX12_done cX12_done 3 (some .int) 3 := ⟨⟨m_1978, m_1979, m_146, m_1980⟩, by decide, by decide, by decide +kernel⟩
theorem dX12_worked_157 : decode cX12_worked 157 = .ok (.iastore, 1) := by decide +kernel
set_option maxHeartbeats 1000000 in
set_option maxRecDepth 100000 in
theorem r_worked (l : Launch) (D : va_G) (cy : Nat → ClassId) (m0 : Nat) (Mtape : Nat) (MnName : Nat) (MnStep : Nat) (MnArg : Nat) (MnMany : Nat) (Mstep : Nat) (Marg : Nat) (Mmany : Nat) (Mopen : Nat) (Mvalues : Nat) (MnHasForm : Nat) (MhasForm : Nat) (Masks : Nat) (MnLoud : Nat) (MnCliffAt : Nat) (MnSnow : Nat) (MnManAt : Nat) (MnVoice : Nat) (MnOn : Nat) (Mloud : Nat) (McliffAt : Nat) (MsnowTold : Nat) (MmanAt : Nat) (Mvoice : Nat) (Mon : Nat) (MnYes : Nat) (Myes : Nat) (Mnow : Nat) (Mcry : Nat) (Msnow : Nat) (Mecho : Nat) (Mwere : Nat) (Mlies : Nat) (Mspots : Nat) (Msteps : Nat) (MfromState : Nat) (MbyWord : Nat) (Mqueue : Nat) (MsoundCliff : Nat) (MsoundLong : Nat) (MsoundCame : Nat) (MsoundTold : Nat) (MsoundUntold : Nat) (Mstands : Nat) (Mtally : Nat) (MhasBox : Nat) (Mboxes : Nat) (Itaped : Nat) (Ifault : Nat) (IfaultPlace : Int32) (Iat : Nat) (Isize : Nat) (Isort : Int32) (Iplace : Int32) (Inumber : Int32) (Iword : Int64) (Gstep : Nat → Int32) (Garg : Nat → Int32) (Gmany : Nat → Int32) (Gvalues : Nat → Int32) (Iform : Nat) (Iopens : Nat) (InUnits : Nat) (Iunits : Int32) (IownUnits : Nat) (Ideep : Nat) (Gasks : Nat → Int32) (InWords : Nat) (InCliffs : Nat) (InMen : Nat) (InStates : Nat) (InOns : Nat) (InWind : Int32) (InDraw : Int32) (Iwords : Nat) (Icliffs : Nat) (Imen : Nat) (Istates : Nat) (Ions : Int32) (IwindTold : Int32) (InHasWind : Int32) (InHasDraw : Int32) (IcryMany : Nat) (IcallPlace : Int32) (IcallVoice : Int32) (Iwind : Int32) (Ichance : Int32) (IechoMany : Nat) (Iacts : Nat) (Iundone : Nat) (Ilain : Nat) (Isounds : Nat) (Itime : Int32) (IstandMany : Int32) (am : Nat → Nat) (AH : Nat → Nat → Nat) (wf : Nat) (gtp : Itaped ≤ 1600) (gat : Iat ≤ Isize) (gsz : Isize ≤ 1600) (gfl : Ifault ≤ 5) (gfo : Iform ≤ 2) (gnw : InWords ≤ 8) (gnc : InCliffs ≤ 4) (gnm : InMen ≤ 4) (gns : InStates ≤ 6) (gw : Iwords ≤ 8) (gc9 : Icliffs ≤ 4) (gm : Imen ≤ 4) (gs : Istates ≤ 6) (gcm : IcryMany ≤ 10) (gem : IechoMany ≤ 20) (gau : Iacts + Iundone ≤ 40) (gla : Ilain ≤ 20) (gso : Isounds ≤ 30) (gop : Iopens ≤ 40) (gde : Ideep ≤ 8) (gou : IownUnits ≤ 31) (gnu : InUnits ≤ 61) (gno : InOns ≤ 30) (gal2 : allR Gstep Garg Gmany am AH) (hwf : wf ≤ 2) : XMi l D (tyL cy) E0 yX12_worked cX12_worked 4 (some .int) (rmk 2 0 0) [.ref m0, .int (nI wf)] [wO m0 12 [.ref Mtape, .int (nI Itaped), .int (nI Ifault), .int IfaultPlace, .int (nI Iat), .int (nI Isize), .int Isort, .int Iplace, .int Inumber, .long Iword, .ref MnName, .ref MnStep, .ref MnArg, .ref MnMany, .ref Mstep, .ref Marg, .ref Mmany, .ref Mopen, .ref Mvalues, .ref MnHasForm, .ref MhasForm, .int (nI Iform), .int (nI Iopens), .int (nI InUnits), .int Iunits, .int (nI IownUnits), .int (nI Ideep), .ref Masks, .ref MnLoud, .ref MnCliffAt, .ref MnSnow, .ref MnManAt, .ref MnVoice, .ref MnOn, .ref Mloud, .ref McliffAt, .ref MsnowTold, .ref MmanAt, .ref Mvoice, .ref Mon, .ref MnYes, .ref Myes, .int (nI InWords), .int (nI InCliffs), .int (nI InMen), .int (nI InStates), .int (nI InOns), .int InWind, .int InDraw, .int (nI Iwords), .int (nI Icliffs), .int (nI Imen), .int (nI Istates), .int Ions, .int IwindTold, .int InHasWind, .int InHasDraw, .ref Mnow, .ref Mcry, .ref Msnow, .ref Mecho, .int (nI IcryMany), .int IcallPlace, .int IcallVoice, .int Iwind, .int Ichance, .int (nI IechoMany), .ref Mwere, .int (nI Iacts), .int (nI Iundone), .ref Mlies, .int (nI Ilain), .ref Mspots, .ref Msteps, .ref MfromState, .ref MbyWord, .ref Mqueue, .ref MsoundCliff, .ref MsoundLong, .ref MsoundCame, .ref MsoundTold, .ref MsoundUntold, .int (nI Isounds), .int Itime, .ref Mstands, .int IstandMany, .ref Mtally, .ref MhasBox, .ref Mboxes], wI (cy 1) Mstep 960 (Gstep), wI (cy 1) Marg 960 (Garg), wI (cy 1) Mmany 3 (Gmany), wI (cy 1) Mvalues 64 (Gvalues), wI (cy 1) Masks 7 (Gasks)] (fun (r : Int32) (Gvalues2 : Nat → Int32) => True) (fun (Gvalues2 : Nat → Int32) => [wO m0 12 [.ref Mtape, .int (nI Itaped), .int (nI Ifault), .int IfaultPlace, .int (nI Iat), .int (nI Isize), .int Isort, .int Iplace, .int Inumber, .long Iword, .ref MnName, .ref MnStep, .ref MnArg, .ref MnMany, .ref Mstep, .ref Marg, .ref Mmany, .ref Mopen, .ref Mvalues, .ref MnHasForm, .ref MhasForm, .int (nI Iform), .int (nI Iopens), .int (nI InUnits), .int Iunits, .int (nI IownUnits), .int (nI Ideep), .ref Masks, .ref MnLoud, .ref MnCliffAt, .ref MnSnow, .ref MnManAt, .ref MnVoice, .ref MnOn, .ref Mloud, .ref McliffAt, .ref MsnowTold, .ref MmanAt, .ref Mvoice, .ref Mon, .ref MnYes, .ref Myes, .int (nI InWords), .int (nI InCliffs), .int (nI InMen), .int (nI InStates), .int (nI InOns), .int InWind, .int InDraw, .int (nI Iwords), .int (nI Icliffs), .int (nI Imen), .int (nI Istates), .int Ions, .int IwindTold, .int InHasWind, .int InHasDraw, .ref Mnow, .ref Mcry, .ref Msnow, .ref Mecho, .int (nI IcryMany), .int IcallPlace, .int IcallVoice, .int Iwind, .int Ichance, .int (nI IechoMany), .ref Mwere, .int (nI Iacts), .int (nI Iundone), .ref Mlies, .int (nI Ilain), .ref Mspots, .ref Msteps, .ref MfromState, .ref MbyWord, .ref Mqueue, .ref MsoundCliff, .ref MsoundLong, .ref MsoundCame, .ref MsoundTold, .ref MsoundUntold, .int (nI Isounds), .int Itime, .ref Mstands, .int IstandMany, .ref Mtally, .ref MhasBox, .ref Mboxes], wI (cy 1) Mstep 960 (Gstep), wI (cy 1) Marg 960 (Garg), wI (cy 1) Mmany 3 (Gmany), wI (cy 1) Mvalues 64 (Gvalues2), wI (cy 1) Masks 7 (Gasks)]) := by
  refine XMi.start (by decide) (Nat.le_of_ble_eq_true rfl) ?_
  intro p e s m below meth c args A ls Q hat hQ
  obtain ⟨hx, hb, hr, hml, hown, hg, hlocks, hin, hK, hA, hP, hD, hS, hE, hl⟩ := hat
  have hown : s.vm.findClass RX12 = some m.cls := hown
  have hl : lv_has ls 4 [(0, .ref m0), (1, .int (nI wf))] := hl
  have hamw := allR_le gal2 hwf
  refine lv_iconst (v := 0) hx hb dX12_worked_0 (by decide) ?_
  refine lv_istore_n (lv' := [(2, .int 0), (0, .ref m0), (1, .int (nI wf))]) hx hb dX12_worked_1 rfl hl (by decide) rfl (fun ls hl => ?_)
  refine lv_sipush (v := 320) hx hb dX12_worked_2 (by decide) ?_
  refine lv_iload_n hx hb dX12_worked_5 rfl (lv_at hl 2 rfl) ?_
  refine lv_imul hx hb dX12_worked_6 ?_
  refine lv_topi (fun y_1 hy_1 => ?_)
  obtain rfl : y_1 = nI (320 * wf) := hy_1.trans (pk_mul 320 wf)
  refine lv_istore_n (lv' := [(3, .int (nI (320 * wf))), (2, .int 0), (0, .ref m0), (1, .int (nI wf))]) hx hb dX12_worked_7 rfl hl (by decide) rfl (fun ls hl => ?_)
  have loop2 : ∀ (zn : Nat) (nn2 : Nat) (k2 : Nat) (i2 : Nat) (fa3_2 : Nat → Int32), (k2 = 320 * wf + i2) → (nn2 = AH wf i2) → (i2 ≤ am wf) → 310 - i2 + 1 ≤ zn → ∀ (H : Heap) (locs : List Loc), va_P D vwCl [wO m0 12 [.ref Mtape, .int (nI Itaped), .int (nI Ifault), .int IfaultPlace, .int (nI Iat), .int (nI Isize), .int Isort, .int Iplace, .int Inumber, .long Iword, .ref MnName, .ref MnStep, .ref MnArg, .ref MnMany, .ref Mstep, .ref Marg, .ref Mmany, .ref Mopen, .ref Mvalues, .ref MnHasForm, .ref MhasForm, .int (nI Iform), .int (nI Iopens), .int (nI InUnits), .int Iunits, .int (nI IownUnits), .int (nI Ideep), .ref Masks, .ref MnLoud, .ref MnCliffAt, .ref MnSnow, .ref MnManAt, .ref MnVoice, .ref MnOn, .ref Mloud, .ref McliffAt, .ref MsnowTold, .ref MmanAt, .ref Mvoice, .ref Mon, .ref MnYes, .ref Myes, .int (nI InWords), .int (nI InCliffs), .int (nI InMen), .int (nI InStates), .int (nI InOns), .int InWind, .int InDraw, .int (nI Iwords), .int (nI Icliffs), .int (nI Imen), .int (nI Istates), .int Ions, .int IwindTold, .int InHasWind, .int InHasDraw, .ref Mnow, .ref Mcry, .ref Msnow, .ref Mecho, .int (nI IcryMany), .int IcallPlace, .int IcallVoice, .int Iwind, .int Ichance, .int (nI IechoMany), .ref Mwere, .int (nI Iacts), .int (nI Iundone), .ref Mlies, .int (nI Ilain), .ref Mspots, .ref Msteps, .ref MfromState, .ref MbyWord, .ref Mqueue, .ref MsoundCliff, .ref MsoundLong, .ref MsoundCame, .ref MsoundTold, .ref MsoundUntold, .int (nI Isounds), .int Itime, .ref Mstands, .int IstandMany, .ref Mtally, .ref MhasBox, .ref Mboxes], wI (cy 1) Mstep 960 (Gstep), wI (cy 1) Marg 960 (Garg), wI (cy 1) Mmany 3 (Gmany), wI (cy 1) Mvalues 64 (fa3_2), wI (cy 1) Masks 7 (Gasks)] H → va_D A [wO m0 12 [.ref Mtape, .int (nI Itaped), .int (nI Ifault), .int IfaultPlace, .int (nI Iat), .int (nI Isize), .int Isort, .int Iplace, .int Inumber, .long Iword, .ref MnName, .ref MnStep, .ref MnArg, .ref MnMany, .ref Mstep, .ref Marg, .ref Mmany, .ref Mopen, .ref Mvalues, .ref MnHasForm, .ref MhasForm, .int (nI Iform), .int (nI Iopens), .int (nI InUnits), .int Iunits, .int (nI IownUnits), .int (nI Ideep), .ref Masks, .ref MnLoud, .ref MnCliffAt, .ref MnSnow, .ref MnManAt, .ref MnVoice, .ref MnOn, .ref Mloud, .ref McliffAt, .ref MsnowTold, .ref MmanAt, .ref Mvoice, .ref Mon, .ref MnYes, .ref Myes, .int (nI InWords), .int (nI InCliffs), .int (nI InMen), .int (nI InStates), .int (nI InOns), .int InWind, .int InDraw, .int (nI Iwords), .int (nI Icliffs), .int (nI Imen), .int (nI Istates), .int Ions, .int IwindTold, .int InHasWind, .int InHasDraw, .ref Mnow, .ref Mcry, .ref Msnow, .ref Mecho, .int (nI IcryMany), .int IcallPlace, .int IcallVoice, .int Iwind, .int Ichance, .int (nI IechoMany), .ref Mwere, .int (nI Iacts), .int (nI Iundone), .ref Mlies, .int (nI Ilain), .ref Mspots, .ref Msteps, .ref MfromState, .ref MbyWord, .ref Mqueue, .ref MsoundCliff, .ref MsoundLong, .ref MsoundCame, .ref MsoundTold, .ref MsoundUntold, .int (nI Isounds), .int Itime, .ref Mstands, .int IstandMany, .ref Mtally, .ref MhasBox, .ref Mboxes], wI (cy 1) Mstep 960 (Gstep), wI (cy 1) Marg 960 (Garg), wI (cy 1) Mmany 3 (Gmany), wI (cy 1) Mvalues 64 (fa3_2), wI (cy 1) Masks 7 (Gasks)] → va_S A s.heap H locs → ∀ ls : Array Slot, lv_has ls 4 [(3, .int (nI k2)), (2, .int (nI nn2)), (0, .ref m0), (1, .int (nI wf))] → W p l e (rmk 2 0 0) s m args below meth c H locs 0 0 Q (F0 m 8 ls []) := by
    try clear hP hD hS
    intro zn
    induction zn with
    | zero => intro nn2 k2 i2 fa3_2 _ _ _ hz; exact absurd hz (by omega)
    | succ zn ih2 =>
      intro nn2 k2 i2 fa3_2 hf0_2 hf1_2 hf2_2 hmu2 H locs hP hD hS ls hl
      refine lv_iload_n hx hb dX12_worked_8 rfl (lv_at hl 0 rfl) ?_
      refine lv_sipush (v := 320) hx hb dX12_worked_9 (by decide) ?_
      refine lv_iload_n hx hb dX12_worked_12 rfl (lv_at hl 3 rfl) ?_
      refine lv_imul hx hb dX12_worked_13 ?_
      refine lv_topi (fun y_3 hy_3 => ?_)
      obtain rfl : y_3 = nI (320 * wf) := hy_3.trans (pk_mul 320 wf)
      refine lv_aload_n hx hb dX12_worked_14 rfl (lv_at hl 2 rfl) ?_
      refine va_get (D := D) (ci := 12) (v := .ref Mmany) (C := RX12) (T := TX12) (N := 89) hx hb hg i_X12 hown hK hP 0 rfl rfl 16 (by decide) (hg _ m_1429) (fun _ h9 => h9) rfl dX12_worked_15 ?_
      refine lv_iload_n hx hb dX12_worked_18 rfl (lv_at hl 3 rfl) ?_
      refine va_iald hx hb hK hP 3 1 rfl rfl (vp_in_nI (by omega) (by decide)) dX12_worked_19 ?_
      refine lv_topi (fun x_4 ex_4 => ?_)
      obtain rfl : x_4 = nI (am wf) := allR_at gal2 hwf ex_4
      refine lv_iadd hx hb dX12_worked_20 ?_
      refine lv_topi (fun y_5 hy_5 => ?_)
      obtain rfl : y_5 = nI ((320 * wf) + (am wf)) := hy_5.trans (nI_add ((320 * wf)) ((am wf)))
      refine lv_icmp_ge (tgt := 164) hx hb dX12_worked_21 (by decide) (fun c_6 => ?_) (fun c_6 => ?_)
      · have q_7 : ((320 * wf) + (am wf)) ≤ k2 := q_le (a := ((320 * wf) + (am wf))) (b := k2) rfl rfl (by omega) (by omega) c_6
        refine lv_aload_n hx hb dX12_worked_164 rfl (lv_at hl 2 rfl) ?_
        refine va_get (D := D) (ci := 12) (v := .ref Mvalues) (C := RX12) (T := TX12) (N := 89) hx hb hg i_X12 hown hK hP 0 rfl rfl 18 (by decide) (hg _ m_1431) (fun _ h9 => h9) rfl dX12_worked_165 ?_
        refine lv_iconst (v := 0) hx hb dX12_worked_168 (by decide) ?_
        refine va_iald hx hb hK hP 4 1 rfl rfl (by unfold vp_in; decide) dX12_worked_169 ?_
        refine lv_topi (fun x_8 ex_8 => ?_)
        exact x_iret hQ hx hb hr hlocks hK hP hD hS dX12_worked_170 fa3_2 (trivial) [0, 1, 2, 3, 4, 5] (by decide +kernel) rfl (Nat.le_of_ble_eq_true rfl) (Nat.le_of_ble_eq_true rfl)
      · have q_7 : k2 < ((320 * wf) + (am wf)) := q_nle (a := ((320 * wf) + (am wf))) (b := k2) rfl rfl (by omega) (by omega) c_6
        subst hf0_2
        have hrp := (gal2 wf (by omega)).2.2.2 i2 (by omega)
        obtain ⟨hr60, hrp⟩ := hrp
        rcases hrp with ⟨hst, hhn⟩ | ⟨hst, hhn, ja, hja, eja⟩ | ⟨hst, hhn, hh1⟩ | ⟨hst, hhn, hh1⟩
        · refine lv_aload_n hx hb dX12_worked_24 rfl (lv_at hl 2 rfl) ?_
          refine va_get (D := D) (ci := 12) (v := .ref Mstep) (C := RX12) (T := TX12) (N := 89) hx hb hg i_X12 hown hK hP 0 rfl rfl 14 (by decide) (hg _ m_1427) (fun _ h9 => h9) rfl dX12_worked_25 ?_
          refine lv_iload_n hx hb dX12_worked_28 rfl (lv_at hl 0 rfl) ?_
          refine va_iald hx hb hK hP 1 1 rfl rfl (vp_in_nI (by omega) (by decide)) dX12_worked_29 ?_
          refine lv_topi (fun x_9 ex_9 => ?_)
          obtain rfl : x_9 = 0 := ex_9.trans (by rw [nI_clamp (by omega)]; exact hst)
          refine lv_if_eq (tgt := 43) hx hb dX12_worked_30 (by decide) (fun _ => ?_) (fun h => absurd (by decide) h)
          refine lv_aload_n hx hb dX12_worked_43 rfl (lv_at hl 2 rfl) ?_
          refine va_get (D := D) (ci := 12) (v := .ref Mvalues) (C := RX12) (T := TX12) (N := 89) hx hb hg i_X12 hown hK hP 0 rfl rfl 18 (by decide) (hg _ m_1431) (fun _ h9 => h9) rfl dX12_worked_44 ?_
          refine lv_iload_n hx hb dX12_worked_47 rfl (lv_at hl 1 rfl) ?_
          refine lv_aload_n hx hb dX12_worked_48 rfl (lv_at hl 2 rfl) ?_
          refine va_get (D := D) (ci := 12) (v := .ref Mstep) (C := RX12) (T := TX12) (N := 89) hx hb hg i_X12 hown hK hP 0 rfl rfl 14 (by decide) (hg _ m_1427) (fun _ h9 => h9) rfl dX12_worked_49 ?_
          refine lv_iload_n hx hb dX12_worked_52 rfl (lv_at hl 0 rfl) ?_
          refine va_iald hx hb hK hP 1 1 rfl rfl (vp_in_nI (by omega) (by decide)) dX12_worked_53 ?_
          refine lv_topi (fun x_10 ex_10 => ?_)
          obtain rfl : x_10 = 0 := ex_10.trans (by rw [nI_clamp (by omega)]; exact hst)
          refine lv_if_ne (tgt := 66) hx hb dX12_worked_54 (by decide) (fun h => absurd (by decide) h) (fun _ => ?_)
          refine lv_aload_n hx hb dX12_worked_57 rfl (lv_at hl 2 rfl) ?_
          refine va_get (D := D) (ci := 12) (v := .ref Marg) (C := RX12) (T := TX12) (N := 89) hx hb hg i_X12 hown hK hP 0 rfl rfl 15 (by decide) (hg _ m_1428) (fun _ h9 => h9) rfl dX12_worked_58 ?_
          refine lv_iload_n hx hb dX12_worked_61 rfl (lv_at hl 0 rfl) ?_
          refine va_iald hx hb hK hP 2 1 rfl rfl (vp_in_nI (by omega) (by decide)) dX12_worked_62 ?_
          refine lv_topi (fun x_11 ex_11 => ?_)
          refine lv_goto (tgt := 77) hx hb dX12_worked_63 (by decide) ?_
          refine va_iast hx hb hK hP hD hS 4 1 rfl rfl (vp_in_nI (by omega) (by decide)) dX12_worked_77 (fun H locs hP9 hD9 hS9 => ?_)
          clear hP hD hS
          obtain ⟨g_12, eg_12⟩ : ∃ y, upd fa3_2 (nI nn2 : Int32).toNatClampNeg x_11 = y := ⟨_, rfl⟩
          rw [eg_12] at hP9 hD9
          refine reW [wO m0 12 [.ref Mtape, .int (nI Itaped), .int (nI Ifault), .int IfaultPlace, .int (nI Iat), .int (nI Isize), .int Isort, .int Iplace, .int Inumber, .long Iword, .ref MnName, .ref MnStep, .ref MnArg, .ref MnMany, .ref Mstep, .ref Marg, .ref Mmany, .ref Mopen, .ref Mvalues, .ref MnHasForm, .ref MhasForm, .int (nI Iform), .int (nI Iopens), .int (nI InUnits), .int Iunits, .int (nI IownUnits), .int (nI Ideep), .ref Masks, .ref MnLoud, .ref MnCliffAt, .ref MnSnow, .ref MnManAt, .ref MnVoice, .ref MnOn, .ref Mloud, .ref McliffAt, .ref MsnowTold, .ref MmanAt, .ref Mvoice, .ref Mon, .ref MnYes, .ref Myes, .int (nI InWords), .int (nI InCliffs), .int (nI InMen), .int (nI InStates), .int (nI InOns), .int InWind, .int InDraw, .int (nI Iwords), .int (nI Icliffs), .int (nI Imen), .int (nI Istates), .int Ions, .int IwindTold, .int InHasWind, .int InHasDraw, .ref Mnow, .ref Mcry, .ref Msnow, .ref Mecho, .int (nI IcryMany), .int IcallPlace, .int IcallVoice, .int Iwind, .int Ichance, .int (nI IechoMany), .ref Mwere, .int (nI Iacts), .int (nI Iundone), .ref Mlies, .int (nI Ilain), .ref Mspots, .ref Msteps, .ref MfromState, .ref MbyWord, .ref Mqueue, .ref MsoundCliff, .ref MsoundLong, .ref MsoundCame, .ref MsoundTold, .ref MsoundUntold, .int (nI Isounds), .int Itime, .ref Mstands, .int IstandMany, .ref Mtally, .ref MhasBox, .ref Mboxes], wI (cy 1) Mstep 960 (Gstep), wI (cy 1) Marg 960 (Garg), wI (cy 1) Mmany 3 (Gmany), wI (cy 1) Mvalues 64 (g_12), wI (cy 1) Masks 7 (Gasks)] hP9 hD9 hS9 (fun hP hD hS => ?_)
          clear hP9 hD9 hS9
          refine lv_iinc (v := nI (nn2 + 1)) (lv' := [(2, .int (nI (nn2 + 1))), (3, .int (nI (320 * wf + i2))), (0, .ref m0), (1, .int (nI wf))]) hx hb dX12_worked_78 hl (k := 1) rfl (nI_add nn2 1) (by decide) rfl (fun ls hl => ?_)
          refine lv_goto (tgt := 158) hx hb dX12_worked_81 (by decide) ?_
          refine lv_iinc (v := nI ((320 * wf + i2) + 1)) (lv' := [(3, .int (nI ((320 * wf + i2) + 1))), (2, .int (nI (nn2 + 1))), (0, .ref m0), (1, .int (nI wf))]) hx hb dX12_worked_158 hl (k := 1) rfl (nI_add ((320 * wf + i2)) 1) (by decide) rfl (fun ls hl => ?_)
          refine lv_goto (tgt := 8) hx hb dX12_worked_161 (by decide) ?_
          exact ih2  ((nn2 + 1)) (((320 * wf + i2) + 1)) (i2 + 1) g_12 (by first | assumption | omega) (by omega) (by first | assumption | omega) (by omega) _ _ (hP.sub [0, 1, 2, 3, 4, 5] rfl) (hD.sub [0, 1, 2, 3, 4, 5] (by decide +kernel) rfl) hS ls (lv_sub hl [0, 1, 2, 3] rfl)
        · refine lv_aload_n hx hb dX12_worked_24 rfl (lv_at hl 2 rfl) ?_
          refine va_get (D := D) (ci := 12) (v := .ref Mstep) (C := RX12) (T := TX12) (N := 89) hx hb hg i_X12 hown hK hP 0 rfl rfl 14 (by decide) (hg _ m_1427) (fun _ h9 => h9) rfl dX12_worked_25 ?_
          refine lv_iload_n hx hb dX12_worked_28 rfl (lv_at hl 0 rfl) ?_
          refine va_iald hx hb hK hP 1 1 rfl rfl (vp_in_nI (by omega) (by decide)) dX12_worked_29 ?_
          refine lv_topi (fun x_13 ex_13 => ?_)
          obtain rfl : x_13 = 1 := ex_13.trans (by rw [nI_clamp (by omega)]; exact hst)
          refine lv_if_eq (tgt := 43) hx hb dX12_worked_30 (by decide) (fun h => absurd h (by decide)) (fun _ => ?_)
          refine lv_aload_n hx hb dX12_worked_33 rfl (lv_at hl 2 rfl) ?_
          refine va_get (D := D) (ci := 12) (v := .ref Mstep) (C := RX12) (T := TX12) (N := 89) hx hb hg i_X12 hown hK hP 0 rfl rfl 14 (by decide) (hg _ m_1427) (fun _ h9 => h9) rfl dX12_worked_34 ?_
          refine lv_iload_n hx hb dX12_worked_37 rfl (lv_at hl 0 rfl) ?_
          refine va_iald hx hb hK hP 1 1 rfl rfl (vp_in_nI (by omega) (by decide)) dX12_worked_38 ?_
          refine lv_topi (fun x_14 ex_14 => ?_)
          obtain rfl : x_14 = 1 := ex_14.trans (by rw [nI_clamp (by omega)]; exact hst)
          refine lv_iconst (v := 1) hx hb dX12_worked_39 (by decide) ?_
          refine lv_icmp_ne (tgt := 84) hx hb dX12_worked_40 (by decide) (fun h => absurd (by decide) h) (fun _ => ?_)
          refine lv_aload_n hx hb dX12_worked_43 rfl (lv_at hl 2 rfl) ?_
          refine va_get (D := D) (ci := 12) (v := .ref Mvalues) (C := RX12) (T := TX12) (N := 89) hx hb hg i_X12 hown hK hP 0 rfl rfl 18 (by decide) (hg _ m_1431) (fun _ h9 => h9) rfl dX12_worked_44 ?_
          refine lv_iload_n hx hb dX12_worked_47 rfl (lv_at hl 1 rfl) ?_
          refine lv_aload_n hx hb dX12_worked_48 rfl (lv_at hl 2 rfl) ?_
          refine va_get (D := D) (ci := 12) (v := .ref Mstep) (C := RX12) (T := TX12) (N := 89) hx hb hg i_X12 hown hK hP 0 rfl rfl 14 (by decide) (hg _ m_1427) (fun _ h9 => h9) rfl dX12_worked_49 ?_
          refine lv_iload_n hx hb dX12_worked_52 rfl (lv_at hl 0 rfl) ?_
          refine va_iald hx hb hK hP 1 1 rfl rfl (vp_in_nI (by omega) (by decide)) dX12_worked_53 ?_
          refine lv_topi (fun x_15 ex_15 => ?_)
          obtain rfl : x_15 = 1 := ex_15.trans (by rw [nI_clamp (by omega)]; exact hst)
          refine lv_if_ne (tgt := 66) hx hb dX12_worked_54 (by decide) (fun _ => ?_) (fun h => absurd h (by decide))
          refine lv_aload_n hx hb dX12_worked_66 rfl (lv_at hl 2 rfl) ?_
          refine va_get (D := D) (ci := 12) (v := .ref Masks) (C := RX12) (T := TX12) (N := 89) hx hb hg i_X12 hown hK hP 0 rfl rfl 27 (by decide) (hg _ m_1440) (fun _ h9 => h9) rfl dX12_worked_67 ?_
          refine lv_aload_n hx hb dX12_worked_70 rfl (lv_at hl 2 rfl) ?_
          refine va_get (D := D) (ci := 12) (v := .ref Marg) (C := RX12) (T := TX12) (N := 89) hx hb hg i_X12 hown hK hP 0 rfl rfl 15 (by decide) (hg _ m_1428) (fun _ h9 => h9) rfl dX12_worked_71 ?_
          refine lv_iload_n hx hb dX12_worked_74 rfl (lv_at hl 0 rfl) ?_
          refine va_iald hx hb hK hP 2 1 rfl rfl (vp_in_nI (by omega) (by decide)) dX12_worked_75 ?_
          refine lv_topi (fun x_16 ex_16 => ?_)
          obtain rfl : x_16 = nI ja := ex_16.trans (by rw [nI_clamp (by omega)]; exact eja)
          refine va_iald hx hb hK hP 5 1 rfl rfl (vp_in_nI (by omega) (by decide)) dX12_worked_76 ?_
          refine lv_topi (fun x_17 ex_17 => ?_)
          refine va_iast hx hb hK hP hD hS 4 1 rfl rfl (vp_in_nI (by omega) (by decide)) dX12_worked_77 (fun H locs hP9 hD9 hS9 => ?_)
          clear hP hD hS
          obtain ⟨g_18, eg_18⟩ : ∃ y, upd fa3_2 (nI nn2 : Int32).toNatClampNeg x_17 = y := ⟨_, rfl⟩
          rw [eg_18] at hP9 hD9
          refine reW [wO m0 12 [.ref Mtape, .int (nI Itaped), .int (nI Ifault), .int IfaultPlace, .int (nI Iat), .int (nI Isize), .int Isort, .int Iplace, .int Inumber, .long Iword, .ref MnName, .ref MnStep, .ref MnArg, .ref MnMany, .ref Mstep, .ref Marg, .ref Mmany, .ref Mopen, .ref Mvalues, .ref MnHasForm, .ref MhasForm, .int (nI Iform), .int (nI Iopens), .int (nI InUnits), .int Iunits, .int (nI IownUnits), .int (nI Ideep), .ref Masks, .ref MnLoud, .ref MnCliffAt, .ref MnSnow, .ref MnManAt, .ref MnVoice, .ref MnOn, .ref Mloud, .ref McliffAt, .ref MsnowTold, .ref MmanAt, .ref Mvoice, .ref Mon, .ref MnYes, .ref Myes, .int (nI InWords), .int (nI InCliffs), .int (nI InMen), .int (nI InStates), .int (nI InOns), .int InWind, .int InDraw, .int (nI Iwords), .int (nI Icliffs), .int (nI Imen), .int (nI Istates), .int Ions, .int IwindTold, .int InHasWind, .int InHasDraw, .ref Mnow, .ref Mcry, .ref Msnow, .ref Mecho, .int (nI IcryMany), .int IcallPlace, .int IcallVoice, .int Iwind, .int Ichance, .int (nI IechoMany), .ref Mwere, .int (nI Iacts), .int (nI Iundone), .ref Mlies, .int (nI Ilain), .ref Mspots, .ref Msteps, .ref MfromState, .ref MbyWord, .ref Mqueue, .ref MsoundCliff, .ref MsoundLong, .ref MsoundCame, .ref MsoundTold, .ref MsoundUntold, .int (nI Isounds), .int Itime, .ref Mstands, .int IstandMany, .ref Mtally, .ref MhasBox, .ref Mboxes], wI (cy 1) Mstep 960 (Gstep), wI (cy 1) Marg 960 (Garg), wI (cy 1) Mmany 3 (Gmany), wI (cy 1) Mvalues 64 (g_18), wI (cy 1) Masks 7 (Gasks)] hP9 hD9 hS9 (fun hP hD hS => ?_)
          clear hP9 hD9 hS9
          refine lv_iinc (v := nI (nn2 + 1)) (lv' := [(2, .int (nI (nn2 + 1))), (3, .int (nI (320 * wf + i2))), (0, .ref m0), (1, .int (nI wf))]) hx hb dX12_worked_78 hl (k := 1) rfl (nI_add nn2 1) (by decide) rfl (fun ls hl => ?_)
          refine lv_goto (tgt := 158) hx hb dX12_worked_81 (by decide) ?_
          refine lv_iinc (v := nI ((320 * wf + i2) + 1)) (lv' := [(3, .int (nI ((320 * wf + i2) + 1))), (2, .int (nI (nn2 + 1))), (0, .ref m0), (1, .int (nI wf))]) hx hb dX12_worked_158 hl (k := 1) rfl (nI_add ((320 * wf + i2)) 1) (by decide) rfl (fun ls hl => ?_)
          refine lv_goto (tgt := 8) hx hb dX12_worked_161 (by decide) ?_
          exact ih2  ((nn2 + 1)) (((320 * wf + i2) + 1)) (i2 + 1) g_18 (by first | assumption | omega) (by omega) (by first | assumption | omega) (by omega) _ _ (hP.sub [0, 1, 2, 3, 4, 5] rfl) (hD.sub [0, 1, 2, 3, 4, 5] (by decide +kernel) rfl) hS ls (lv_sub hl [0, 1, 2, 3] rfl)
        · refine lv_aload_n hx hb dX12_worked_24 rfl (lv_at hl 2 rfl) ?_
          refine va_get (D := D) (ci := 12) (v := .ref Mstep) (C := RX12) (T := TX12) (N := 89) hx hb hg i_X12 hown hK hP 0 rfl rfl 14 (by decide) (hg _ m_1427) (fun _ h9 => h9) rfl dX12_worked_25 ?_
          refine lv_iload_n hx hb dX12_worked_28 rfl (lv_at hl 0 rfl) ?_
          refine va_iald hx hb hK hP 1 1 rfl rfl (vp_in_nI (by omega) (by decide)) dX12_worked_29 ?_
          refine lv_topi (fun x_19 ex_19 => ?_)
          obtain rfl : x_19 = 2 := ex_19.trans (by rw [nI_clamp (by omega)]; exact hst)
          refine lv_if_eq (tgt := 43) hx hb dX12_worked_30 (by decide) (fun h => absurd h (by decide)) (fun _ => ?_)
          refine lv_aload_n hx hb dX12_worked_33 rfl (lv_at hl 2 rfl) ?_
          refine va_get (D := D) (ci := 12) (v := .ref Mstep) (C := RX12) (T := TX12) (N := 89) hx hb hg i_X12 hown hK hP 0 rfl rfl 14 (by decide) (hg _ m_1427) (fun _ h9 => h9) rfl dX12_worked_34 ?_
          refine lv_iload_n hx hb dX12_worked_37 rfl (lv_at hl 0 rfl) ?_
          refine va_iald hx hb hK hP 1 1 rfl rfl (vp_in_nI (by omega) (by decide)) dX12_worked_38 ?_
          refine lv_topi (fun x_20 ex_20 => ?_)
          obtain rfl : x_20 = 2 := ex_20.trans (by rw [nI_clamp (by omega)]; exact hst)
          refine lv_iconst (v := 1) hx hb dX12_worked_39 (by decide) ?_
          refine lv_icmp_ne (tgt := 84) hx hb dX12_worked_40 (by decide) (fun _ => ?_) (fun h => absurd h (by decide))
          refine lv_aload_n hx hb dX12_worked_84 rfl (lv_at hl 2 rfl) ?_
          refine va_get (D := D) (ci := 12) (v := .ref Mstep) (C := RX12) (T := TX12) (N := 89) hx hb hg i_X12 hown hK hP 0 rfl rfl 14 (by decide) (hg _ m_1427) (fun _ h9 => h9) rfl dX12_worked_85 ?_
          refine lv_iload_n hx hb dX12_worked_88 rfl (lv_at hl 0 rfl) ?_
          refine va_iald hx hb hK hP 1 1 rfl rfl (vp_in_nI (by omega) (by decide)) dX12_worked_89 ?_
          refine lv_topi (fun x_21 ex_21 => ?_)
          obtain rfl : x_21 = 2 := ex_21.trans (by rw [nI_clamp (by omega)]; exact hst)
          refine lv_iconst (v := 2) hx hb dX12_worked_90 (by decide) ?_
          refine lv_icmp_ne (tgt := 124) hx hb dX12_worked_91 (by decide) (fun h => absurd (by decide) h) (fun _ => ?_)
          refine lv_aload_n hx hb dX12_worked_94 rfl (lv_at hl 2 rfl) ?_
          refine va_get (D := D) (ci := 12) (v := .ref Mvalues) (C := RX12) (T := TX12) (N := 89) hx hb hg i_X12 hown hK hP 0 rfl rfl 18 (by decide) (hg _ m_1431) (fun _ h9 => h9) rfl dX12_worked_95 ?_
          refine lv_iload_n hx hb dX12_worked_98 rfl (lv_at hl 1 rfl) ?_
          refine lv_iconst (v := 1) hx hb dX12_worked_99 (by decide) ?_
          refine lv_isub hx hb dX12_worked_100 ?_
          refine lv_topi (fun y_22 hy_22 => ?_)
          obtain rfl : y_22 = nI (nn2 - 1) := hy_22.trans (pk_sub (a := nn2) (b := 1) (by omega))
          refine lv_aload_n hx hb dX12_worked_101 rfl (lv_at hl 2 rfl) ?_
          refine va_get (D := D) (ci := 12) (v := .ref Mvalues) (C := RX12) (T := TX12) (N := 89) hx hb hg i_X12 hown hK hP 0 rfl rfl 18 (by decide) (hg _ m_1431) (fun _ h9 => h9) rfl dX12_worked_102 ?_
          refine lv_iload_n hx hb dX12_worked_105 rfl (lv_at hl 1 rfl) ?_
          refine lv_iconst (v := 1) hx hb dX12_worked_106 (by decide) ?_
          refine lv_isub hx hb dX12_worked_107 ?_
          refine lv_topi (fun y_23 hy_23 => ?_)
          obtain rfl : y_23 = nI (nn2 - 1) := hy_23.trans (pk_sub (a := nn2) (b := 1) (by omega))
          refine va_iald hx hb hK hP 4 1 rfl rfl (vp_in_nI (by omega) (by decide)) dX12_worked_108 ?_
          refine lv_topi (fun x_24 ex_24 => ?_)
          refine lv_if_ne (tgt := 116) hx hb dX12_worked_109 (by decide) (fun c_109 => ?_) (fun c_109 => ?_)
          · refine lv_iconst (v := 0) hx hb dX12_worked_116 (by decide) ?_
            refine x_callSi (wr := [wO m0 12 [.ref Mtape, .int (nI Itaped), .int (nI Ifault), .int IfaultPlace, .int (nI Iat), .int (nI Isize), .int Isort, .int Iplace, .int Inumber, .long Iword, .ref MnName, .ref MnStep, .ref MnArg, .ref MnMany, .ref Mstep, .ref Marg, .ref Mmany, .ref Mopen, .ref Mvalues, .ref MnHasForm, .ref MhasForm, .int (nI Iform), .int (nI Iopens), .int (nI InUnits), .int Iunits, .int (nI IownUnits), .int (nI Ideep), .ref Masks, .ref MnLoud, .ref MnCliffAt, .ref MnSnow, .ref MnManAt, .ref MnVoice, .ref MnOn, .ref Mloud, .ref McliffAt, .ref MsnowTold, .ref MmanAt, .ref Mvoice, .ref Mon, .ref MnYes, .ref Myes, .int (nI InWords), .int (nI InCliffs), .int (nI InMen), .int (nI InStates), .int (nI InOns), .int InWind, .int InDraw, .int (nI Iwords), .int (nI Icliffs), .int (nI Imen), .int (nI Istates), .int Ions, .int IwindTold, .int InHasWind, .int InHasDraw, .ref Mnow, .ref Mcry, .ref Msnow, .ref Mecho, .int (nI IcryMany), .int IcallPlace, .int IcallVoice, .int Iwind, .int Ichance, .int (nI IechoMany), .ref Mwere, .int (nI Iacts), .int (nI Iundone), .ref Mlies, .int (nI Ilain), .ref Mspots, .ref Msteps, .ref MfromState, .ref MbyWord, .ref Mqueue, .ref MsoundCliff, .ref MsoundLong, .ref MsoundCame, .ref MsoundTold, .ref MsoundUntold, .int (nI Isounds), .int Itime, .ref Mstands, .int IstandMany, .ref Mtally, .ref MhasBox, .ref Mboxes], wI (cy 1) Mstep 960 (Gstep), wI (cy 1) Marg 960 (Garg), wI (cy 1) Mmany 3 (Gmany), wI (cy 1) Mvalues 64 (fa3_2), wI (cy 1) Masks 7 (Gasks)]) (rest := [.int (nI (nn2 - 1)), .ref Mvalues]) ⟨hx, hb, hml, hown, hg, hl.1⟩ k_X12_333 (r_truth l D cy 0) E0_blind hK hP hD hS hA [] [0, 1, 2, 3, 4, 5] ⟨rfl, rfl, by decide +kernel, by decide +kernel, by decide +kernel⟩ (fun _ _ _ => trivial) dX12_worked_117 rfl rfl (Nat.le_of_ble_eq_true rfl) ⟨Nat.le_of_ble_eq_true rfl, Nat.le_of_ble_eq_true rfl⟩ ⟨Nat.le_of_ble_eq_true rfl, Nat.le_of_ble_eq_true rfl⟩ (fun zr25 zu25 H locs hw25 hP9 hD9 hS9 => ?_)
            clear hP hD hS
            obtain ⟨k_26, rfl⟩ : ∃ z, z = zu25 := ⟨_, rfl⟩
            refine reW [wO m0 12 [.ref Mtape, .int (nI Itaped), .int (nI Ifault), .int IfaultPlace, .int (nI Iat), .int (nI Isize), .int Isort, .int Iplace, .int Inumber, .long Iword, .ref MnName, .ref MnStep, .ref MnArg, .ref MnMany, .ref Mstep, .ref Marg, .ref Mmany, .ref Mopen, .ref Mvalues, .ref MnHasForm, .ref MhasForm, .int (nI Iform), .int (nI Iopens), .int (nI InUnits), .int Iunits, .int (nI IownUnits), .int (nI Ideep), .ref Masks, .ref MnLoud, .ref MnCliffAt, .ref MnSnow, .ref MnManAt, .ref MnVoice, .ref MnOn, .ref Mloud, .ref McliffAt, .ref MsnowTold, .ref MmanAt, .ref Mvoice, .ref Mon, .ref MnYes, .ref Myes, .int (nI InWords), .int (nI InCliffs), .int (nI InMen), .int (nI InStates), .int (nI InOns), .int InWind, .int InDraw, .int (nI Iwords), .int (nI Icliffs), .int (nI Imen), .int (nI Istates), .int Ions, .int IwindTold, .int InHasWind, .int InHasDraw, .ref Mnow, .ref Mcry, .ref Msnow, .ref Mecho, .int (nI IcryMany), .int IcallPlace, .int IcallVoice, .int Iwind, .int Ichance, .int (nI IechoMany), .ref Mwere, .int (nI Iacts), .int (nI Iundone), .ref Mlies, .int (nI Ilain), .ref Mspots, .ref Msteps, .ref MfromState, .ref MbyWord, .ref Mqueue, .ref MsoundCliff, .ref MsoundLong, .ref MsoundCame, .ref MsoundTold, .ref MsoundUntold, .int (nI Isounds), .int Itime, .ref Mstands, .int IstandMany, .ref Mtally, .ref MhasBox, .ref Mboxes], wI (cy 1) Mstep 960 (Gstep), wI (cy 1) Marg 960 (Garg), wI (cy 1) Mmany 3 (Gmany), wI (cy 1) Mvalues 64 (fa3_2), wI (cy 1) Masks 7 (Gasks)] hP9 hD9 hS9 (fun hP hD hS => ?_)
            clear hP9 hD9 hS9
            refine W.widen (k := 0) (n := 0) (Nat.le_of_ble_eq_true rfl) (Nat.le_of_ble_eq_true rfl) ?_
            change (zr25 = nI k_26) ∧ (k_26 ≤ 1) at hw25
            obtain ⟨f_27, f_28⟩ := hw25
            subst f_27
            refine va_iast hx hb hK hP hD hS 4 1 rfl rfl (vp_in_nI (by omega) (by decide)) dX12_worked_120 (fun H locs hP9 hD9 hS9 => ?_)
            clear hP hD hS
            obtain ⟨g_29, eg_29⟩ : ∃ y, upd fa3_2 (nI (nn2 - 1) : Int32).toNatClampNeg (nI k_26) = y := ⟨_, rfl⟩
            rw [eg_29] at hP9 hD9
            refine reW [wO m0 12 [.ref Mtape, .int (nI Itaped), .int (nI Ifault), .int IfaultPlace, .int (nI Iat), .int (nI Isize), .int Isort, .int Iplace, .int Inumber, .long Iword, .ref MnName, .ref MnStep, .ref MnArg, .ref MnMany, .ref Mstep, .ref Marg, .ref Mmany, .ref Mopen, .ref Mvalues, .ref MnHasForm, .ref MhasForm, .int (nI Iform), .int (nI Iopens), .int (nI InUnits), .int Iunits, .int (nI IownUnits), .int (nI Ideep), .ref Masks, .ref MnLoud, .ref MnCliffAt, .ref MnSnow, .ref MnManAt, .ref MnVoice, .ref MnOn, .ref Mloud, .ref McliffAt, .ref MsnowTold, .ref MmanAt, .ref Mvoice, .ref Mon, .ref MnYes, .ref Myes, .int (nI InWords), .int (nI InCliffs), .int (nI InMen), .int (nI InStates), .int (nI InOns), .int InWind, .int InDraw, .int (nI Iwords), .int (nI Icliffs), .int (nI Imen), .int (nI Istates), .int Ions, .int IwindTold, .int InHasWind, .int InHasDraw, .ref Mnow, .ref Mcry, .ref Msnow, .ref Mecho, .int (nI IcryMany), .int IcallPlace, .int IcallVoice, .int Iwind, .int Ichance, .int (nI IechoMany), .ref Mwere, .int (nI Iacts), .int (nI Iundone), .ref Mlies, .int (nI Ilain), .ref Mspots, .ref Msteps, .ref MfromState, .ref MbyWord, .ref Mqueue, .ref MsoundCliff, .ref MsoundLong, .ref MsoundCame, .ref MsoundTold, .ref MsoundUntold, .int (nI Isounds), .int Itime, .ref Mstands, .int IstandMany, .ref Mtally, .ref MhasBox, .ref Mboxes], wI (cy 1) Mstep 960 (Gstep), wI (cy 1) Marg 960 (Garg), wI (cy 1) Mmany 3 (Gmany), wI (cy 1) Mvalues 64 (g_29), wI (cy 1) Masks 7 (Gasks)] hP9 hD9 hS9 (fun hP hD hS => ?_)
            clear hP9 hD9 hS9
            refine lv_goto (tgt := 158) hx hb dX12_worked_121 (by decide) ?_
            refine lv_iinc (v := nI ((320 * wf + i2) + 1)) (lv' := [(3, .int (nI ((320 * wf + i2) + 1))), (2, .int (nI nn2)), (0, .ref m0), (1, .int (nI wf))]) hx hb dX12_worked_158 hl (k := 0) rfl (nI_add ((320 * wf + i2)) 1) (by decide) rfl (fun ls hl => ?_)
            refine lv_goto (tgt := 8) hx hb dX12_worked_161 (by decide) ?_
            exact ih2  nn2 (((320 * wf + i2) + 1)) (i2 + 1) g_29 (by first | assumption | omega) (by omega) (by first | assumption | omega) (by omega) _ _ (hP.sub [0, 1, 2, 3, 4, 5] rfl) (hD.sub [0, 1, 2, 3, 4, 5] (by decide +kernel) rfl) hS ls (lv_sub hl [0, 1, 2, 3] rfl)
          · refine lv_iconst (v := 1) hx hb dX12_worked_112 (by decide) ?_
            refine lv_goto (tgt := 117) hx hb dX12_worked_113 (by decide) ?_
            refine x_callSi (wr := [wO m0 12 [.ref Mtape, .int (nI Itaped), .int (nI Ifault), .int IfaultPlace, .int (nI Iat), .int (nI Isize), .int Isort, .int Iplace, .int Inumber, .long Iword, .ref MnName, .ref MnStep, .ref MnArg, .ref MnMany, .ref Mstep, .ref Marg, .ref Mmany, .ref Mopen, .ref Mvalues, .ref MnHasForm, .ref MhasForm, .int (nI Iform), .int (nI Iopens), .int (nI InUnits), .int Iunits, .int (nI IownUnits), .int (nI Ideep), .ref Masks, .ref MnLoud, .ref MnCliffAt, .ref MnSnow, .ref MnManAt, .ref MnVoice, .ref MnOn, .ref Mloud, .ref McliffAt, .ref MsnowTold, .ref MmanAt, .ref Mvoice, .ref Mon, .ref MnYes, .ref Myes, .int (nI InWords), .int (nI InCliffs), .int (nI InMen), .int (nI InStates), .int (nI InOns), .int InWind, .int InDraw, .int (nI Iwords), .int (nI Icliffs), .int (nI Imen), .int (nI Istates), .int Ions, .int IwindTold, .int InHasWind, .int InHasDraw, .ref Mnow, .ref Mcry, .ref Msnow, .ref Mecho, .int (nI IcryMany), .int IcallPlace, .int IcallVoice, .int Iwind, .int Ichance, .int (nI IechoMany), .ref Mwere, .int (nI Iacts), .int (nI Iundone), .ref Mlies, .int (nI Ilain), .ref Mspots, .ref Msteps, .ref MfromState, .ref MbyWord, .ref Mqueue, .ref MsoundCliff, .ref MsoundLong, .ref MsoundCame, .ref MsoundTold, .ref MsoundUntold, .int (nI Isounds), .int Itime, .ref Mstands, .int IstandMany, .ref Mtally, .ref MhasBox, .ref Mboxes], wI (cy 1) Mstep 960 (Gstep), wI (cy 1) Marg 960 (Garg), wI (cy 1) Mmany 3 (Gmany), wI (cy 1) Mvalues 64 (fa3_2), wI (cy 1) Masks 7 (Gasks)]) (rest := [.int (nI (nn2 - 1)), .ref Mvalues]) ⟨hx, hb, hml, hown, hg, hl.1⟩ k_X12_333 (r_truth l D cy 1) E0_blind hK hP hD hS hA [] [0, 1, 2, 3, 4, 5] ⟨rfl, rfl, by decide +kernel, by decide +kernel, by decide +kernel⟩ (fun _ _ _ => trivial) dX12_worked_117 rfl rfl (Nat.le_of_ble_eq_true rfl) ⟨Nat.le_of_ble_eq_true rfl, Nat.le_of_ble_eq_true rfl⟩ ⟨Nat.le_of_ble_eq_true rfl, Nat.le_of_ble_eq_true rfl⟩ (fun zr30 zu30 H locs hw30 hP9 hD9 hS9 => ?_)
            clear hP hD hS
            obtain ⟨k_31, rfl⟩ : ∃ z, z = zu30 := ⟨_, rfl⟩
            refine reW [wO m0 12 [.ref Mtape, .int (nI Itaped), .int (nI Ifault), .int IfaultPlace, .int (nI Iat), .int (nI Isize), .int Isort, .int Iplace, .int Inumber, .long Iword, .ref MnName, .ref MnStep, .ref MnArg, .ref MnMany, .ref Mstep, .ref Marg, .ref Mmany, .ref Mopen, .ref Mvalues, .ref MnHasForm, .ref MhasForm, .int (nI Iform), .int (nI Iopens), .int (nI InUnits), .int Iunits, .int (nI IownUnits), .int (nI Ideep), .ref Masks, .ref MnLoud, .ref MnCliffAt, .ref MnSnow, .ref MnManAt, .ref MnVoice, .ref MnOn, .ref Mloud, .ref McliffAt, .ref MsnowTold, .ref MmanAt, .ref Mvoice, .ref Mon, .ref MnYes, .ref Myes, .int (nI InWords), .int (nI InCliffs), .int (nI InMen), .int (nI InStates), .int (nI InOns), .int InWind, .int InDraw, .int (nI Iwords), .int (nI Icliffs), .int (nI Imen), .int (nI Istates), .int Ions, .int IwindTold, .int InHasWind, .int InHasDraw, .ref Mnow, .ref Mcry, .ref Msnow, .ref Mecho, .int (nI IcryMany), .int IcallPlace, .int IcallVoice, .int Iwind, .int Ichance, .int (nI IechoMany), .ref Mwere, .int (nI Iacts), .int (nI Iundone), .ref Mlies, .int (nI Ilain), .ref Mspots, .ref Msteps, .ref MfromState, .ref MbyWord, .ref Mqueue, .ref MsoundCliff, .ref MsoundLong, .ref MsoundCame, .ref MsoundTold, .ref MsoundUntold, .int (nI Isounds), .int Itime, .ref Mstands, .int IstandMany, .ref Mtally, .ref MhasBox, .ref Mboxes], wI (cy 1) Mstep 960 (Gstep), wI (cy 1) Marg 960 (Garg), wI (cy 1) Mmany 3 (Gmany), wI (cy 1) Mvalues 64 (fa3_2), wI (cy 1) Masks 7 (Gasks)] hP9 hD9 hS9 (fun hP hD hS => ?_)
            clear hP9 hD9 hS9
            refine W.widen (k := 0) (n := 0) (Nat.le_of_ble_eq_true rfl) (Nat.le_of_ble_eq_true rfl) ?_
            change (zr30 = nI k_31) ∧ (k_31 ≤ 1) at hw30
            obtain ⟨f_32, f_33⟩ := hw30
            subst f_32
            refine va_iast hx hb hK hP hD hS 4 1 rfl rfl (vp_in_nI (by omega) (by decide)) dX12_worked_120 (fun H locs hP9 hD9 hS9 => ?_)
            clear hP hD hS
            obtain ⟨g_34, eg_34⟩ : ∃ y, upd fa3_2 (nI (nn2 - 1) : Int32).toNatClampNeg (nI k_31) = y := ⟨_, rfl⟩
            rw [eg_34] at hP9 hD9
            refine reW [wO m0 12 [.ref Mtape, .int (nI Itaped), .int (nI Ifault), .int IfaultPlace, .int (nI Iat), .int (nI Isize), .int Isort, .int Iplace, .int Inumber, .long Iword, .ref MnName, .ref MnStep, .ref MnArg, .ref MnMany, .ref Mstep, .ref Marg, .ref Mmany, .ref Mopen, .ref Mvalues, .ref MnHasForm, .ref MhasForm, .int (nI Iform), .int (nI Iopens), .int (nI InUnits), .int Iunits, .int (nI IownUnits), .int (nI Ideep), .ref Masks, .ref MnLoud, .ref MnCliffAt, .ref MnSnow, .ref MnManAt, .ref MnVoice, .ref MnOn, .ref Mloud, .ref McliffAt, .ref MsnowTold, .ref MmanAt, .ref Mvoice, .ref Mon, .ref MnYes, .ref Myes, .int (nI InWords), .int (nI InCliffs), .int (nI InMen), .int (nI InStates), .int (nI InOns), .int InWind, .int InDraw, .int (nI Iwords), .int (nI Icliffs), .int (nI Imen), .int (nI Istates), .int Ions, .int IwindTold, .int InHasWind, .int InHasDraw, .ref Mnow, .ref Mcry, .ref Msnow, .ref Mecho, .int (nI IcryMany), .int IcallPlace, .int IcallVoice, .int Iwind, .int Ichance, .int (nI IechoMany), .ref Mwere, .int (nI Iacts), .int (nI Iundone), .ref Mlies, .int (nI Ilain), .ref Mspots, .ref Msteps, .ref MfromState, .ref MbyWord, .ref Mqueue, .ref MsoundCliff, .ref MsoundLong, .ref MsoundCame, .ref MsoundTold, .ref MsoundUntold, .int (nI Isounds), .int Itime, .ref Mstands, .int IstandMany, .ref Mtally, .ref MhasBox, .ref Mboxes], wI (cy 1) Mstep 960 (Gstep), wI (cy 1) Marg 960 (Garg), wI (cy 1) Mmany 3 (Gmany), wI (cy 1) Mvalues 64 (g_34), wI (cy 1) Masks 7 (Gasks)] hP9 hD9 hS9 (fun hP hD hS => ?_)
            clear hP9 hD9 hS9
            refine lv_goto (tgt := 158) hx hb dX12_worked_121 (by decide) ?_
            refine lv_iinc (v := nI ((320 * wf + i2) + 1)) (lv' := [(3, .int (nI ((320 * wf + i2) + 1))), (2, .int (nI nn2)), (0, .ref m0), (1, .int (nI wf))]) hx hb dX12_worked_158 hl (k := 0) rfl (nI_add ((320 * wf + i2)) 1) (by decide) rfl (fun ls hl => ?_)
            refine lv_goto (tgt := 8) hx hb dX12_worked_161 (by decide) ?_
            exact ih2  nn2 (((320 * wf + i2) + 1)) (i2 + 1) g_34 (by first | assumption | omega) (by omega) (by first | assumption | omega) (by omega) _ _ (hP.sub [0, 1, 2, 3, 4, 5] rfl) (hD.sub [0, 1, 2, 3, 4, 5] (by decide +kernel) rfl) hS ls (lv_sub hl [0, 1, 2, 3] rfl)
        · refine lv_aload_n hx hb dX12_worked_24 rfl (lv_at hl 2 rfl) ?_
          refine va_get (D := D) (ci := 12) (v := .ref Mstep) (C := RX12) (T := TX12) (N := 89) hx hb hg i_X12 hown hK hP 0 rfl rfl 14 (by decide) (hg _ m_1427) (fun _ h9 => h9) rfl dX12_worked_25 ?_
          refine lv_iload_n hx hb dX12_worked_28 rfl (lv_at hl 0 rfl) ?_
          refine va_iald hx hb hK hP 1 1 rfl rfl (vp_in_nI (by omega) (by decide)) dX12_worked_29 ?_
          refine lv_topi (fun x_35 ex_35 => ?_)
          obtain rfl : x_35 = 3 := ex_35.trans (by rw [nI_clamp (by omega)]; exact hst)
          refine lv_if_eq (tgt := 43) hx hb dX12_worked_30 (by decide) (fun h => absurd h (by decide)) (fun _ => ?_)
          refine lv_aload_n hx hb dX12_worked_33 rfl (lv_at hl 2 rfl) ?_
          refine va_get (D := D) (ci := 12) (v := .ref Mstep) (C := RX12) (T := TX12) (N := 89) hx hb hg i_X12 hown hK hP 0 rfl rfl 14 (by decide) (hg _ m_1427) (fun _ h9 => h9) rfl dX12_worked_34 ?_
          refine lv_iload_n hx hb dX12_worked_37 rfl (lv_at hl 0 rfl) ?_
          refine va_iald hx hb hK hP 1 1 rfl rfl (vp_in_nI (by omega) (by decide)) dX12_worked_38 ?_
          refine lv_topi (fun x_36 ex_36 => ?_)
          obtain rfl : x_36 = 3 := ex_36.trans (by rw [nI_clamp (by omega)]; exact hst)
          refine lv_iconst (v := 1) hx hb dX12_worked_39 (by decide) ?_
          refine lv_icmp_ne (tgt := 84) hx hb dX12_worked_40 (by decide) (fun _ => ?_) (fun h => absurd h (by decide))
          refine lv_aload_n hx hb dX12_worked_84 rfl (lv_at hl 2 rfl) ?_
          refine va_get (D := D) (ci := 12) (v := .ref Mstep) (C := RX12) (T := TX12) (N := 89) hx hb hg i_X12 hown hK hP 0 rfl rfl 14 (by decide) (hg _ m_1427) (fun _ h9 => h9) rfl dX12_worked_85 ?_
          refine lv_iload_n hx hb dX12_worked_88 rfl (lv_at hl 0 rfl) ?_
          refine va_iald hx hb hK hP 1 1 rfl rfl (vp_in_nI (by omega) (by decide)) dX12_worked_89 ?_
          refine lv_topi (fun x_37 ex_37 => ?_)
          obtain rfl : x_37 = 3 := ex_37.trans (by rw [nI_clamp (by omega)]; exact hst)
          refine lv_iconst (v := 2) hx hb dX12_worked_90 (by decide) ?_
          refine lv_icmp_ne (tgt := 124) hx hb dX12_worked_91 (by decide) (fun _ => ?_) (fun h => absurd h (by decide))
          refine lv_iinc (v := nI (nn2 - 1)) (lv' := [(2, .int (nI (nn2 - 1))), (3, .int (nI (320 * wf + i2))), (0, .ref m0), (1, .int (nI wf))]) hx hb dX12_worked_124 hl (k := 1) rfl (sb_m1 (by omega)) (by decide) rfl (fun ls hl => ?_)
          refine lv_aload_n hx hb dX12_worked_127 rfl (lv_at hl 2 rfl) ?_
          refine va_get (D := D) (ci := 12) (v := .ref Mvalues) (C := RX12) (T := TX12) (N := 89) hx hb hg i_X12 hown hK hP 0 rfl rfl 18 (by decide) (hg _ m_1431) (fun _ h9 => h9) rfl dX12_worked_128 ?_
          refine lv_iload_n hx hb dX12_worked_131 rfl (lv_at hl 0 rfl) ?_
          refine lv_iconst (v := 1) hx hb dX12_worked_132 (by decide) ?_
          refine lv_isub hx hb dX12_worked_133 ?_
          refine lv_topi (fun y_38 hy_38 => ?_)
          obtain rfl : y_38 = nI ((nn2 - 1) - 1) := hy_38.trans (pk_sub (a := (nn2 - 1)) (b := 1) (by omega))
          refine lv_aload_n hx hb dX12_worked_134 rfl (lv_at hl 2 rfl) ?_
          refine va_get (D := D) (ci := 12) (v := .ref Marg) (C := RX12) (T := TX12) (N := 89) hx hb hg i_X12 hown hK hP 0 rfl rfl 15 (by decide) (hg _ m_1428) (fun _ h9 => h9) rfl dX12_worked_135 ?_
          refine lv_iload_n hx hb dX12_worked_138 rfl (lv_at hl 1 rfl) ?_
          refine va_iald hx hb hK hP 2 1 rfl rfl (vp_in_nI (by omega) (by decide)) dX12_worked_139 ?_
          refine lv_topi (fun x_39 ex_39 => ?_)
          refine lv_aload_n hx hb dX12_worked_140 rfl (lv_at hl 2 rfl) ?_
          refine va_get (D := D) (ci := 12) (v := .ref Mvalues) (C := RX12) (T := TX12) (N := 89) hx hb hg i_X12 hown hK hP 0 rfl rfl 18 (by decide) (hg _ m_1431) (fun _ h9 => h9) rfl dX12_worked_141 ?_
          refine lv_iload_n hx hb dX12_worked_144 rfl (lv_at hl 0 rfl) ?_
          refine lv_iconst (v := 1) hx hb dX12_worked_145 (by decide) ?_
          refine lv_isub hx hb dX12_worked_146 ?_
          refine lv_topi (fun y_40 hy_40 => ?_)
          obtain rfl : y_40 = nI ((nn2 - 1) - 1) := hy_40.trans (pk_sub (a := (nn2 - 1)) (b := 1) (by omega))
          refine va_iald hx hb hK hP 4 1 rfl rfl (vp_in_nI (by omega) (by decide)) dX12_worked_147 ?_
          refine lv_topi (fun x_41 ex_41 => ?_)
          refine lv_aload_n hx hb dX12_worked_148 rfl (lv_at hl 2 rfl) ?_
          refine va_get (D := D) (ci := 12) (v := .ref Mvalues) (C := RX12) (T := TX12) (N := 89) hx hb hg i_X12 hown hK hP 0 rfl rfl 18 (by decide) (hg _ m_1431) (fun _ h9 => h9) rfl dX12_worked_149 ?_
          refine lv_iload_n hx hb dX12_worked_152 rfl (lv_at hl 0 rfl) ?_
          refine va_iald hx hb hK hP 4 1 rfl rfl (vp_in_nI (by omega) (by decide)) dX12_worked_153 ?_
          refine lv_topi (fun x_42 ex_42 => ?_)
          refine x_callSi (wr := [wO m0 12 [.ref Mtape, .int (nI Itaped), .int (nI Ifault), .int IfaultPlace, .int (nI Iat), .int (nI Isize), .int Isort, .int Iplace, .int Inumber, .long Iword, .ref MnName, .ref MnStep, .ref MnArg, .ref MnMany, .ref Mstep, .ref Marg, .ref Mmany, .ref Mopen, .ref Mvalues, .ref MnHasForm, .ref MhasForm, .int (nI Iform), .int (nI Iopens), .int (nI InUnits), .int Iunits, .int (nI IownUnits), .int (nI Ideep), .ref Masks, .ref MnLoud, .ref MnCliffAt, .ref MnSnow, .ref MnManAt, .ref MnVoice, .ref MnOn, .ref Mloud, .ref McliffAt, .ref MsnowTold, .ref MmanAt, .ref Mvoice, .ref Mon, .ref MnYes, .ref Myes, .int (nI InWords), .int (nI InCliffs), .int (nI InMen), .int (nI InStates), .int (nI InOns), .int InWind, .int InDraw, .int (nI Iwords), .int (nI Icliffs), .int (nI Imen), .int (nI Istates), .int Ions, .int IwindTold, .int InHasWind, .int InHasDraw, .ref Mnow, .ref Mcry, .ref Msnow, .ref Mecho, .int (nI IcryMany), .int IcallPlace, .int IcallVoice, .int Iwind, .int Ichance, .int (nI IechoMany), .ref Mwere, .int (nI Iacts), .int (nI Iundone), .ref Mlies, .int (nI Ilain), .ref Mspots, .ref Msteps, .ref MfromState, .ref MbyWord, .ref Mqueue, .ref MsoundCliff, .ref MsoundLong, .ref MsoundCame, .ref MsoundTold, .ref MsoundUntold, .int (nI Isounds), .int Itime, .ref Mstands, .int IstandMany, .ref Mtally, .ref MhasBox, .ref Mboxes], wI (cy 1) Mstep 960 (Gstep), wI (cy 1) Marg 960 (Garg), wI (cy 1) Mmany 3 (Gmany), wI (cy 1) Mvalues 64 (fa3_2), wI (cy 1) Masks 7 (Gasks)]) (rest := [.int (nI ((nn2 - 1) - 1)), .ref Mvalues]) ⟨hx, hb, hml, hown, hg, hl.1⟩ k_X12_337 (r_done l D cy x_39 x_41 x_42) E0_blind hK hP hD hS hA [] [0, 1, 2, 3, 4, 5] ⟨rfl, rfl, by decide +kernel, by decide +kernel, by decide +kernel⟩ (fun _ _ _ => trivial) dX12_worked_154 rfl rfl (Nat.le_of_ble_eq_true rfl) ⟨Nat.le_of_ble_eq_true rfl, Nat.le_of_ble_eq_true rfl⟩ ⟨Nat.le_of_ble_eq_true rfl, Nat.le_of_ble_eq_true rfl⟩ (fun zr43 zu43 H locs hw43 hP9 hD9 hS9 => ?_)
          clear hP hD hS
          refine reW [wO m0 12 [.ref Mtape, .int (nI Itaped), .int (nI Ifault), .int IfaultPlace, .int (nI Iat), .int (nI Isize), .int Isort, .int Iplace, .int Inumber, .long Iword, .ref MnName, .ref MnStep, .ref MnArg, .ref MnMany, .ref Mstep, .ref Marg, .ref Mmany, .ref Mopen, .ref Mvalues, .ref MnHasForm, .ref MhasForm, .int (nI Iform), .int (nI Iopens), .int (nI InUnits), .int Iunits, .int (nI IownUnits), .int (nI Ideep), .ref Masks, .ref MnLoud, .ref MnCliffAt, .ref MnSnow, .ref MnManAt, .ref MnVoice, .ref MnOn, .ref Mloud, .ref McliffAt, .ref MsnowTold, .ref MmanAt, .ref Mvoice, .ref Mon, .ref MnYes, .ref Myes, .int (nI InWords), .int (nI InCliffs), .int (nI InMen), .int (nI InStates), .int (nI InOns), .int InWind, .int InDraw, .int (nI Iwords), .int (nI Icliffs), .int (nI Imen), .int (nI Istates), .int Ions, .int IwindTold, .int InHasWind, .int InHasDraw, .ref Mnow, .ref Mcry, .ref Msnow, .ref Mecho, .int (nI IcryMany), .int IcallPlace, .int IcallVoice, .int Iwind, .int Ichance, .int (nI IechoMany), .ref Mwere, .int (nI Iacts), .int (nI Iundone), .ref Mlies, .int (nI Ilain), .ref Mspots, .ref Msteps, .ref MfromState, .ref MbyWord, .ref Mqueue, .ref MsoundCliff, .ref MsoundLong, .ref MsoundCame, .ref MsoundTold, .ref MsoundUntold, .int (nI Isounds), .int Itime, .ref Mstands, .int IstandMany, .ref Mtally, .ref MhasBox, .ref Mboxes], wI (cy 1) Mstep 960 (Gstep), wI (cy 1) Marg 960 (Garg), wI (cy 1) Mmany 3 (Gmany), wI (cy 1) Mvalues 64 (fa3_2), wI (cy 1) Masks 7 (Gasks)] hP9 hD9 hS9 (fun hP hD hS => ?_)
          clear hP9 hD9 hS9
          refine W.widen (k := 0) (n := 0) (Nat.le_of_ble_eq_true rfl) (Nat.le_of_ble_eq_true rfl) ?_
          change True at hw43
          refine va_iast hx hb hK hP hD hS 4 1 rfl rfl (vp_in_nI (by omega) (by decide)) dX12_worked_157 (fun H locs hP9 hD9 hS9 => ?_)
          clear hP hD hS
          obtain ⟨g_44, eg_44⟩ : ∃ y, upd fa3_2 (nI ((nn2 - 1) - 1) : Int32).toNatClampNeg zr43 = y := ⟨_, rfl⟩
          rw [eg_44] at hP9 hD9
          refine reW [wO m0 12 [.ref Mtape, .int (nI Itaped), .int (nI Ifault), .int IfaultPlace, .int (nI Iat), .int (nI Isize), .int Isort, .int Iplace, .int Inumber, .long Iword, .ref MnName, .ref MnStep, .ref MnArg, .ref MnMany, .ref Mstep, .ref Marg, .ref Mmany, .ref Mopen, .ref Mvalues, .ref MnHasForm, .ref MhasForm, .int (nI Iform), .int (nI Iopens), .int (nI InUnits), .int Iunits, .int (nI IownUnits), .int (nI Ideep), .ref Masks, .ref MnLoud, .ref MnCliffAt, .ref MnSnow, .ref MnManAt, .ref MnVoice, .ref MnOn, .ref Mloud, .ref McliffAt, .ref MsnowTold, .ref MmanAt, .ref Mvoice, .ref Mon, .ref MnYes, .ref Myes, .int (nI InWords), .int (nI InCliffs), .int (nI InMen), .int (nI InStates), .int (nI InOns), .int InWind, .int InDraw, .int (nI Iwords), .int (nI Icliffs), .int (nI Imen), .int (nI Istates), .int Ions, .int IwindTold, .int InHasWind, .int InHasDraw, .ref Mnow, .ref Mcry, .ref Msnow, .ref Mecho, .int (nI IcryMany), .int IcallPlace, .int IcallVoice, .int Iwind, .int Ichance, .int (nI IechoMany), .ref Mwere, .int (nI Iacts), .int (nI Iundone), .ref Mlies, .int (nI Ilain), .ref Mspots, .ref Msteps, .ref MfromState, .ref MbyWord, .ref Mqueue, .ref MsoundCliff, .ref MsoundLong, .ref MsoundCame, .ref MsoundTold, .ref MsoundUntold, .int (nI Isounds), .int Itime, .ref Mstands, .int IstandMany, .ref Mtally, .ref MhasBox, .ref Mboxes], wI (cy 1) Mstep 960 (Gstep), wI (cy 1) Marg 960 (Garg), wI (cy 1) Mmany 3 (Gmany), wI (cy 1) Mvalues 64 (g_44), wI (cy 1) Masks 7 (Gasks)] hP9 hD9 hS9 (fun hP hD hS => ?_)
          clear hP9 hD9 hS9
          refine lv_iinc (v := nI ((320 * wf + i2) + 1)) (lv' := [(3, .int (nI ((320 * wf + i2) + 1))), (2, .int (nI (nn2 - 1))), (0, .ref m0), (1, .int (nI wf))]) hx hb dX12_worked_158 hl (k := 1) rfl (nI_add ((320 * wf + i2)) 1) (by decide) rfl (fun ls hl => ?_)
          refine lv_goto (tgt := 8) hx hb dX12_worked_161 (by decide) ?_
          exact ih2  ((nn2 - 1)) (((320 * wf + i2) + 1)) (i2 + 1) g_44 (by first | assumption | omega) (by omega) (by first | assumption | omega) (by omega) _ _ (hP.sub [0, 1, 2, 3, 4, 5] rfl) (hD.sub [0, 1, 2, 3, 4, 5] (by decide +kernel) rfl) hS ls (lv_sub hl [0, 1, 2, 3] rfl)
  exact loop2 _ 0 ((320 * wf)) 0 Gvalues (by first | assumption | omega) ((gal2 wf (by omega)).2.2.1.symm) (by first | assumption | omega) (Nat.le_refl _) _ _ (hP.sub [0, 1, 2, 3, 4, 5] rfl) (hD.sub [0, 1, 2, 3, 4, 5] (by decide +kernel) rfl) hS ls (lv_sub hl [0, 1, 2, 3] rfl)
theorem gdX12_loadSky_0 : decode cX12_loadSky 0 = .ok (.aload_n 0, 1) ∧ decode cX12_loadSky 1 = .ok (.aload_n 0, 1) ∧ decode cX12_loadSky 2 = .ok (.getfield 97, 3) ∧ decode cX12_loadSky 5 = .ok (.bipush 22, 2) ∧ decode cX12_loadSky 7 = .ok (.iaload, 1) ∧ decode cX12_loadSky 8 = .ok (.putfield 440, 3) ∧ decode cX12_loadSky 11 = .ok (.aload_n 0, 1) ∧ decode cX12_loadSky 12 = .ok (.iconst 0, 1) ∧ decode cX12_loadSky 13 = .ok (.putfield 443, 3) ∧ decode cX12_loadSky 16 = .ok (.iconst 0, 1) ∧ decode cX12_loadSky 17 = .ok (.istore_n 1, 1) ∧ decode cX12_loadSky 18 = .ok (.iload_n 1, 1) := by decide +kernel
theorem dX12_loadSky_0 : decode cX12_loadSky 0 = .ok (.aload_n 0, 1) := gdX12_loadSky_0.1
theorem dX12_loadSky_1 : decode cX12_loadSky 1 = .ok (.aload_n 0, 1) := gdX12_loadSky_0.2.1
theorem dX12_loadSky_2 : decode cX12_loadSky 2 = .ok (.getfield 97, 3) := gdX12_loadSky_0.2.2.1
theorem dX12_loadSky_5 : decode cX12_loadSky 5 = .ok (.bipush 22, 2) := gdX12_loadSky_0.2.2.2.1
theorem dX12_loadSky_7 : decode cX12_loadSky 7 = .ok (.iaload, 1) := gdX12_loadSky_0.2.2.2.2.1
theorem dX12_loadSky_8 : decode cX12_loadSky 8 = .ok (.putfield 440, 3) := gdX12_loadSky_0.2.2.2.2.2.1
theorem dX12_loadSky_11 : decode cX12_loadSky 11 = .ok (.aload_n 0, 1) := gdX12_loadSky_0.2.2.2.2.2.2.1
theorem dX12_loadSky_12 : decode cX12_loadSky 12 = .ok (.iconst 0, 1) := gdX12_loadSky_0.2.2.2.2.2.2.2.1
theorem dX12_loadSky_13 : decode cX12_loadSky 13 = .ok (.putfield 443, 3) := gdX12_loadSky_0.2.2.2.2.2.2.2.2.1
theorem dX12_loadSky_16 : decode cX12_loadSky 16 = .ok (.iconst 0, 1) := gdX12_loadSky_0.2.2.2.2.2.2.2.2.2.1
theorem dX12_loadSky_17 : decode cX12_loadSky 17 = .ok (.istore_n 1, 1) := gdX12_loadSky_0.2.2.2.2.2.2.2.2.2.2.1
theorem dX12_loadSky_18 : decode cX12_loadSky 18 = .ok (.iload_n 1, 1) := gdX12_loadSky_0.2.2.2.2.2.2.2.2.2.2.2
theorem gdX12_loadSky_19 : decode cX12_loadSky 19 = .ok (.iconst 4, 1) ∧ decode cX12_loadSky 20 = .ok (.if_icmp .ge 24, 3) ∧ decode cX12_loadSky 44 = .ok (.return_, 1) ∧ decode cX12_loadSky 23 = .ok (.aload_n 0, 1) ∧ decode cX12_loadSky 24 = .ok (.getfield 103, 3) ∧ decode cX12_loadSky 27 = .ok (.iload_n 1, 1) ∧ decode cX12_loadSky 28 = .ok (.aload_n 0, 1) ∧ decode cX12_loadSky 29 = .ok (.getfield 97, 3) ∧ decode cX12_loadSky 32 = .ok (.bipush 23, 2) ∧ decode cX12_loadSky 34 = .ok (.iload_n 1, 1) ∧ decode cX12_loadSky 35 = .ok (.iadd, 1) ∧ decode cX12_loadSky 36 = .ok (.iaload, 1) := by decide +kernel
theorem dX12_loadSky_19 : decode cX12_loadSky 19 = .ok (.iconst 4, 1) := gdX12_loadSky_19.1
theorem dX12_loadSky_20 : decode cX12_loadSky 20 = .ok (.if_icmp .ge 24, 3) := gdX12_loadSky_19.2.1
theorem dX12_loadSky_44 : decode cX12_loadSky 44 = .ok (.return_, 1) := gdX12_loadSky_19.2.2.1
theorem dX12_loadSky_23 : decode cX12_loadSky 23 = .ok (.aload_n 0, 1) := gdX12_loadSky_19.2.2.2.1
theorem dX12_loadSky_24 : decode cX12_loadSky 24 = .ok (.getfield 103, 3) := gdX12_loadSky_19.2.2.2.2.1
theorem dX12_loadSky_27 : decode cX12_loadSky 27 = .ok (.iload_n 1, 1) := gdX12_loadSky_19.2.2.2.2.2.1
theorem dX12_loadSky_28 : decode cX12_loadSky 28 = .ok (.aload_n 0, 1) := gdX12_loadSky_19.2.2.2.2.2.2.1
theorem dX12_loadSky_29 : decode cX12_loadSky 29 = .ok (.getfield 97, 3) := gdX12_loadSky_19.2.2.2.2.2.2.2.1
theorem dX12_loadSky_32 : decode cX12_loadSky 32 = .ok (.bipush 23, 2) := gdX12_loadSky_19.2.2.2.2.2.2.2.2.1
theorem dX12_loadSky_34 : decode cX12_loadSky 34 = .ok (.iload_n 1, 1) := gdX12_loadSky_19.2.2.2.2.2.2.2.2.2.1
theorem dX12_loadSky_35 : decode cX12_loadSky 35 = .ok (.iadd, 1) := gdX12_loadSky_19.2.2.2.2.2.2.2.2.2.2.1
theorem dX12_loadSky_36 : decode cX12_loadSky 36 = .ok (.iaload, 1) := gdX12_loadSky_19.2.2.2.2.2.2.2.2.2.2.2
theorem gdX12_loadSky_37 : decode cX12_loadSky 37 = .ok (.iastore, 1) ∧ decode cX12_loadSky 38 = .ok (.iinc 1 1, 3) ∧ decode cX12_loadSky 41 = .ok (.goto (-23), 3) := by decide +kernel
theorem dX12_loadSky_37 : decode cX12_loadSky 37 = .ok (.iastore, 1) := gdX12_loadSky_37.1
theorem dX12_loadSky_38 : decode cX12_loadSky 38 = .ok (.iinc 1 1, 3) := gdX12_loadSky_37.2.1
theorem dX12_loadSky_41 : decode cX12_loadSky 41 = .ok (.goto (-23), 3) := gdX12_loadSky_37.2.2
set_option maxHeartbeats 1000000 in
set_option maxRecDepth 100000 in
theorem r_loadSky (l : Launch) (D : va_G) (cy : Nat → ClassId) (m0 : Nat) (Mtape : Nat) (MnName : Nat) (MnStep : Nat) (MnArg : Nat) (MnMany : Nat) (Mstep : Nat) (Marg : Nat) (Mmany : Nat) (Mopen : Nat) (Mvalues : Nat) (MnHasForm : Nat) (MhasForm : Nat) (Masks : Nat) (MnLoud : Nat) (MnCliffAt : Nat) (MnSnow : Nat) (MnManAt : Nat) (MnVoice : Nat) (MnOn : Nat) (Mloud : Nat) (McliffAt : Nat) (MsnowTold : Nat) (MmanAt : Nat) (Mvoice : Nat) (Mon : Nat) (MnYes : Nat) (Myes : Nat) (Mnow : Nat) (Mcry : Nat) (Msnow : Nat) (Mecho : Nat) (Mwere : Nat) (Mlies : Nat) (Mspots : Nat) (Msteps : Nat) (MfromState : Nat) (MbyWord : Nat) (Mqueue : Nat) (MsoundCliff : Nat) (MsoundLong : Nat) (MsoundCame : Nat) (MsoundTold : Nat) (MsoundUntold : Nat) (Mstands : Nat) (Mtally : Nat) (MhasBox : Nat) (Mboxes : Nat) (Itaped : Nat) (Ifault : Nat) (IfaultPlace : Int32) (Iat : Nat) (Isize : Nat) (Isort : Int32) (Iplace : Int32) (Inumber : Int32) (Iword : Int64) (Iform : Nat) (Iopens : Nat) (InUnits : Nat) (Iunits : Int32) (IownUnits : Nat) (Ideep : Nat) (InWords : Nat) (InCliffs : Nat) (InMen : Nat) (InStates : Nat) (InOns : Nat) (InWind : Int32) (InDraw : Int32) (Iwords : Nat) (Icliffs : Nat) (Imen : Nat) (Istates : Nat) (Ions : Int32) (IwindTold : Int32) (InHasWind : Int32) (InHasDraw : Int32) (Gnow : Nat → Int32) (Gsnow : Nat → Int32) (IcryMany : Nat) (IcallPlace : Int32) (IcallVoice : Int32) (Iwind : Int32) (Ichance : Int32) (IechoMany : Nat) (Iacts : Nat) (Iundone : Nat) (Ilain : Nat) (Isounds : Nat) (Itime : Int32) (IstandMany : Int32) (gtp : Itaped ≤ 1600) (gat : Iat ≤ Isize) (gsz : Isize ≤ 1600) (gfl : Ifault ≤ 5) (gfo : Iform ≤ 2) (gnw : InWords ≤ 8) (gnc : InCliffs ≤ 4) (gnm : InMen ≤ 4) (gns : InStates ≤ 6) (gw : Iwords ≤ 8) (gc9 : Icliffs ≤ 4) (gm : Imen ≤ 4) (gs : Istates ≤ 6) (gcm : IcryMany ≤ 10) (gem : IechoMany ≤ 20) (gau : Iacts + Iundone ≤ 40) (gla : Ilain ≤ 20) (gso : Isounds ≤ 30) (gop : Iopens ≤ 40) (gde : Ideep ≤ 8) (gou : IownUnits ≤ 31) (gnu : InUnits ≤ 61) (gno : InOns ≤ 30) (gnow : wRows Gnow 1) : XMv l D (tyL cy) E0 yX12_loadSky cX12_loadSky 2 none (rmk 0 0 0) [.ref m0] [wO m0 12 [.ref Mtape, .int (nI Itaped), .int (nI Ifault), .int IfaultPlace, .int (nI Iat), .int (nI Isize), .int Isort, .int Iplace, .int Inumber, .long Iword, .ref MnName, .ref MnStep, .ref MnArg, .ref MnMany, .ref Mstep, .ref Marg, .ref Mmany, .ref Mopen, .ref Mvalues, .ref MnHasForm, .ref MhasForm, .int (nI Iform), .int (nI Iopens), .int (nI InUnits), .int Iunits, .int (nI IownUnits), .int (nI Ideep), .ref Masks, .ref MnLoud, .ref MnCliffAt, .ref MnSnow, .ref MnManAt, .ref MnVoice, .ref MnOn, .ref Mloud, .ref McliffAt, .ref MsnowTold, .ref MmanAt, .ref Mvoice, .ref Mon, .ref MnYes, .ref Myes, .int (nI InWords), .int (nI InCliffs), .int (nI InMen), .int (nI InStates), .int (nI InOns), .int InWind, .int InDraw, .int (nI Iwords), .int (nI Icliffs), .int (nI Imen), .int (nI Istates), .int Ions, .int IwindTold, .int InHasWind, .int InHasDraw, .ref Mnow, .ref Mcry, .ref Msnow, .ref Mecho, .int (nI IcryMany), .int IcallPlace, .int IcallVoice, .int Iwind, .int Ichance, .int (nI IechoMany), .ref Mwere, .int (nI Iacts), .int (nI Iundone), .ref Mlies, .int (nI Ilain), .ref Mspots, .ref Msteps, .ref MfromState, .ref MbyWord, .ref Mqueue, .ref MsoundCliff, .ref MsoundLong, .ref MsoundCame, .ref MsoundTold, .ref MsoundUntold, .int (nI Isounds), .int Itime, .ref Mstands, .int IstandMany, .ref Mtally, .ref MhasBox, .ref Mboxes], wI (cy 1) Mnow 42 (Gnow), wI (cy 1) Msnow 4 (Gsnow)] (fun (u : (Nat → Int32) × Int32 × Int32) => True) (fun (u : (Nat → Int32) × Int32 × Int32) => [wO m0 12 [.ref Mtape, .int (nI Itaped), .int (nI Ifault), .int IfaultPlace, .int (nI Iat), .int (nI Isize), .int Isort, .int Iplace, .int Inumber, .long Iword, .ref MnName, .ref MnStep, .ref MnArg, .ref MnMany, .ref Mstep, .ref Marg, .ref Mmany, .ref Mopen, .ref Mvalues, .ref MnHasForm, .ref MhasForm, .int (nI Iform), .int (nI Iopens), .int (nI InUnits), .int Iunits, .int (nI IownUnits), .int (nI Ideep), .ref Masks, .ref MnLoud, .ref MnCliffAt, .ref MnSnow, .ref MnManAt, .ref MnVoice, .ref MnOn, .ref Mloud, .ref McliffAt, .ref MsnowTold, .ref MmanAt, .ref Mvoice, .ref Mon, .ref MnYes, .ref Myes, .int (nI InWords), .int (nI InCliffs), .int (nI InMen), .int (nI InStates), .int (nI InOns), .int InWind, .int InDraw, .int (nI Iwords), .int (nI Icliffs), .int (nI Imen), .int (nI Istates), .int Ions, .int IwindTold, .int InHasWind, .int InHasDraw, .ref Mnow, .ref Mcry, .ref Msnow, .ref Mecho, .int (nI IcryMany), .int IcallPlace, .int IcallVoice, .int u.2.1, .int u.2.2, .int (nI IechoMany), .ref Mwere, .int (nI Iacts), .int (nI Iundone), .ref Mlies, .int (nI Ilain), .ref Mspots, .ref Msteps, .ref MfromState, .ref MbyWord, .ref Mqueue, .ref MsoundCliff, .ref MsoundLong, .ref MsoundCame, .ref MsoundTold, .ref MsoundUntold, .int (nI Isounds), .int Itime, .ref Mstands, .int IstandMany, .ref Mtally, .ref MhasBox, .ref Mboxes], wI (cy 1) Mnow 42 (Gnow), wI (cy 1) Msnow 4 (u.1)]) := by
  refine XMv.start (by decide) (Nat.le_of_ble_eq_true rfl) ?_
  intro p e s m below meth c args A ls Q hat hQ
  obtain ⟨hx, hb, hr, hml, hown, hg, hlocks, hin, hK, hA, hP, hD, hS, hE, hl⟩ := hat
  have hown : s.vm.findClass RX12 = some m.cls := hown
  have hl : lv_has ls 2 [(0, .ref m0)] := hl
  refine lv_aload_n hx hb dX12_loadSky_0 rfl (lv_at hl 0 rfl) ?_
  refine lv_aload_n hx hb dX12_loadSky_1 rfl (lv_at hl 0 rfl) ?_
  refine va_get (D := D) (ci := 12) (v := .ref Mnow) (C := RX12) (T := TX12) (N := 89) hx hb hg i_X12 hown hK hP 0 rfl rfl 57 (by decide) (hg _ m_1470) (fun _ h9 => h9) rfl dX12_loadSky_2 ?_
  refine lv_bipush (v := 22) hx hb dX12_loadSky_5 (by decide) ?_
  refine va_iald hx hb hK hP 1 1 rfl rfl (by unfold vp_in; decide) dX12_loadSky_7 ?_
  refine lv_topi (fun x_1 ex_1 => ?_)
  have hel_2 := wR_at gnow (T := 22) (by decide) (by omega) ex_1
  refine va_put (D := D) (ci := 12) (v := .int x_1) (ty := .int) (C := RX12) (T := TX12) (N := 89) hx hb hg i_X12 tyX12 tyX12_ok nmX12 hown hK hP hD hS 0 rfl rfl 64 (by decide) (hg _ m_1477) (fun _ h9 => h9) rfl (by decide +kernel) rfl rfl (Nat.le_of_ble_eq_true rfl) dX12_loadSky_8 (fun H locs hP9 hD9 hS9 => ?_)
  clear hP hD hS
  refine reW [wO m0 12 [.ref Mtape, .int (nI Itaped), .int (nI Ifault), .int IfaultPlace, .int (nI Iat), .int (nI Isize), .int Isort, .int Iplace, .int Inumber, .long Iword, .ref MnName, .ref MnStep, .ref MnArg, .ref MnMany, .ref Mstep, .ref Marg, .ref Mmany, .ref Mopen, .ref Mvalues, .ref MnHasForm, .ref MhasForm, .int (nI Iform), .int (nI Iopens), .int (nI InUnits), .int Iunits, .int (nI IownUnits), .int (nI Ideep), .ref Masks, .ref MnLoud, .ref MnCliffAt, .ref MnSnow, .ref MnManAt, .ref MnVoice, .ref MnOn, .ref Mloud, .ref McliffAt, .ref MsnowTold, .ref MmanAt, .ref Mvoice, .ref Mon, .ref MnYes, .ref Myes, .int (nI InWords), .int (nI InCliffs), .int (nI InMen), .int (nI InStates), .int (nI InOns), .int InWind, .int InDraw, .int (nI Iwords), .int (nI Icliffs), .int (nI Imen), .int (nI Istates), .int Ions, .int IwindTold, .int InHasWind, .int InHasDraw, .ref Mnow, .ref Mcry, .ref Msnow, .ref Mecho, .int (nI IcryMany), .int IcallPlace, .int IcallVoice, .int x_1, .int Ichance, .int (nI IechoMany), .ref Mwere, .int (nI Iacts), .int (nI Iundone), .ref Mlies, .int (nI Ilain), .ref Mspots, .ref Msteps, .ref MfromState, .ref MbyWord, .ref Mqueue, .ref MsoundCliff, .ref MsoundLong, .ref MsoundCame, .ref MsoundTold, .ref MsoundUntold, .int (nI Isounds), .int Itime, .ref Mstands, .int IstandMany, .ref Mtally, .ref MhasBox, .ref Mboxes], wI (cy 1) Mnow 42 (Gnow), wI (cy 1) Msnow 4 (Gsnow)] hP9 hD9 hS9 (fun hP hD hS => ?_)
  clear hP9 hD9 hS9
  refine lv_aload_n hx hb dX12_loadSky_11 rfl (lv_at hl 0 rfl) ?_
  refine lv_iconst (v := 0) hx hb dX12_loadSky_12 (by decide) ?_
  refine va_put (D := D) (ci := 12) (v := .int 0) (ty := .int) (C := RX12) (T := TX12) (N := 89) hx hb hg i_X12 tyX12 tyX12_ok nmX12 hown hK hP hD hS 0 rfl rfl 65 (by decide) (hg _ m_1478) (fun _ h9 => h9) rfl (by decide +kernel) rfl rfl (Nat.le_of_ble_eq_true rfl) dX12_loadSky_13 (fun H locs hP9 hD9 hS9 => ?_)
  clear hP hD hS
  refine reW [wO m0 12 [.ref Mtape, .int (nI Itaped), .int (nI Ifault), .int IfaultPlace, .int (nI Iat), .int (nI Isize), .int Isort, .int Iplace, .int Inumber, .long Iword, .ref MnName, .ref MnStep, .ref MnArg, .ref MnMany, .ref Mstep, .ref Marg, .ref Mmany, .ref Mopen, .ref Mvalues, .ref MnHasForm, .ref MhasForm, .int (nI Iform), .int (nI Iopens), .int (nI InUnits), .int Iunits, .int (nI IownUnits), .int (nI Ideep), .ref Masks, .ref MnLoud, .ref MnCliffAt, .ref MnSnow, .ref MnManAt, .ref MnVoice, .ref MnOn, .ref Mloud, .ref McliffAt, .ref MsnowTold, .ref MmanAt, .ref Mvoice, .ref Mon, .ref MnYes, .ref Myes, .int (nI InWords), .int (nI InCliffs), .int (nI InMen), .int (nI InStates), .int (nI InOns), .int InWind, .int InDraw, .int (nI Iwords), .int (nI Icliffs), .int (nI Imen), .int (nI Istates), .int Ions, .int IwindTold, .int InHasWind, .int InHasDraw, .ref Mnow, .ref Mcry, .ref Msnow, .ref Mecho, .int (nI IcryMany), .int IcallPlace, .int IcallVoice, .int x_1, .int 0, .int (nI IechoMany), .ref Mwere, .int (nI Iacts), .int (nI Iundone), .ref Mlies, .int (nI Ilain), .ref Mspots, .ref Msteps, .ref MfromState, .ref MbyWord, .ref Mqueue, .ref MsoundCliff, .ref MsoundLong, .ref MsoundCame, .ref MsoundTold, .ref MsoundUntold, .int (nI Isounds), .int Itime, .ref Mstands, .int IstandMany, .ref Mtally, .ref MhasBox, .ref Mboxes], wI (cy 1) Mnow 42 (Gnow), wI (cy 1) Msnow 4 (Gsnow)] hP9 hD9 hS9 (fun hP hD hS => ?_)
  clear hP9 hD9 hS9
  refine lv_iconst (v := 0) hx hb dX12_loadSky_16 (by decide) ?_
  refine lv_istore_n (lv' := [(1, .int 0), (0, .ref m0)]) hx hb dX12_loadSky_17 rfl hl (by decide) rfl (fun ls hl => ?_)
  have loop3 : ∀ (zn : Nat) (k3 : Nat) (fa1_3 : Nat → Int32), (k3 ≤ 4) → 4 - k3 + 1 ≤ zn → ∀ (H : Heap) (locs : List Loc), va_P D vwCl [wO m0 12 [.ref Mtape, .int (nI Itaped), .int (nI Ifault), .int IfaultPlace, .int (nI Iat), .int (nI Isize), .int Isort, .int Iplace, .int Inumber, .long Iword, .ref MnName, .ref MnStep, .ref MnArg, .ref MnMany, .ref Mstep, .ref Marg, .ref Mmany, .ref Mopen, .ref Mvalues, .ref MnHasForm, .ref MhasForm, .int (nI Iform), .int (nI Iopens), .int (nI InUnits), .int Iunits, .int (nI IownUnits), .int (nI Ideep), .ref Masks, .ref MnLoud, .ref MnCliffAt, .ref MnSnow, .ref MnManAt, .ref MnVoice, .ref MnOn, .ref Mloud, .ref McliffAt, .ref MsnowTold, .ref MmanAt, .ref Mvoice, .ref Mon, .ref MnYes, .ref Myes, .int (nI InWords), .int (nI InCliffs), .int (nI InMen), .int (nI InStates), .int (nI InOns), .int InWind, .int InDraw, .int (nI Iwords), .int (nI Icliffs), .int (nI Imen), .int (nI Istates), .int Ions, .int IwindTold, .int InHasWind, .int InHasDraw, .ref Mnow, .ref Mcry, .ref Msnow, .ref Mecho, .int (nI IcryMany), .int IcallPlace, .int IcallVoice, .int x_1, .int 0, .int (nI IechoMany), .ref Mwere, .int (nI Iacts), .int (nI Iundone), .ref Mlies, .int (nI Ilain), .ref Mspots, .ref Msteps, .ref MfromState, .ref MbyWord, .ref Mqueue, .ref MsoundCliff, .ref MsoundLong, .ref MsoundCame, .ref MsoundTold, .ref MsoundUntold, .int (nI Isounds), .int Itime, .ref Mstands, .int IstandMany, .ref Mtally, .ref MhasBox, .ref Mboxes], wI (cy 1) Mnow 42 (Gnow), wI (cy 1) Msnow 4 (fa1_3)] H → va_D A [wO m0 12 [.ref Mtape, .int (nI Itaped), .int (nI Ifault), .int IfaultPlace, .int (nI Iat), .int (nI Isize), .int Isort, .int Iplace, .int Inumber, .long Iword, .ref MnName, .ref MnStep, .ref MnArg, .ref MnMany, .ref Mstep, .ref Marg, .ref Mmany, .ref Mopen, .ref Mvalues, .ref MnHasForm, .ref MhasForm, .int (nI Iform), .int (nI Iopens), .int (nI InUnits), .int Iunits, .int (nI IownUnits), .int (nI Ideep), .ref Masks, .ref MnLoud, .ref MnCliffAt, .ref MnSnow, .ref MnManAt, .ref MnVoice, .ref MnOn, .ref Mloud, .ref McliffAt, .ref MsnowTold, .ref MmanAt, .ref Mvoice, .ref Mon, .ref MnYes, .ref Myes, .int (nI InWords), .int (nI InCliffs), .int (nI InMen), .int (nI InStates), .int (nI InOns), .int InWind, .int InDraw, .int (nI Iwords), .int (nI Icliffs), .int (nI Imen), .int (nI Istates), .int Ions, .int IwindTold, .int InHasWind, .int InHasDraw, .ref Mnow, .ref Mcry, .ref Msnow, .ref Mecho, .int (nI IcryMany), .int IcallPlace, .int IcallVoice, .int x_1, .int 0, .int (nI IechoMany), .ref Mwere, .int (nI Iacts), .int (nI Iundone), .ref Mlies, .int (nI Ilain), .ref Mspots, .ref Msteps, .ref MfromState, .ref MbyWord, .ref Mqueue, .ref MsoundCliff, .ref MsoundLong, .ref MsoundCame, .ref MsoundTold, .ref MsoundUntold, .int (nI Isounds), .int Itime, .ref Mstands, .int IstandMany, .ref Mtally, .ref MhasBox, .ref Mboxes], wI (cy 1) Mnow 42 (Gnow), wI (cy 1) Msnow 4 (fa1_3)] → va_S A s.heap H locs → ∀ ls : Array Slot, lv_has ls 2 [(1, .int (nI k3)), (0, .ref m0)] → W p l e (rmk 0 0 0) s m args below meth c H locs 0 0 Q (F0 m 18 ls []) := by
    try clear hP hD hS
    intro zn
    induction zn with
    | zero => intro k3 fa1_3 _ hz; exact absurd hz (by omega)
    | succ zn ih3 =>
      intro k3 fa1_3 hf0_3 hmu3 H locs hP hD hS ls hl
      refine lv_iload_n hx hb dX12_loadSky_18 rfl (lv_at hl 0 rfl) ?_
      refine lv_iconst (v := 4) hx hb dX12_loadSky_19 (by decide) ?_
      refine lv_icmp_ge (tgt := 44) hx hb dX12_loadSky_20 (by decide) (fun c_4 => ?_) (fun c_4 => ?_)
      · have q_5 : 4 ≤ k3 := q_le (a := 4) (b := k3) rfl rfl (by omega) (by omega) c_4
        exact x_vret hQ hx hb hr hlocks hK hP hD hS dX12_loadSky_44 (fa1_3, x_1, 0) (trivial) [0, 1, 2] (by decide +kernel) rfl (Nat.le_of_ble_eq_true rfl) (Nat.le_of_ble_eq_true rfl)
      · have q_5 : k3 < 4 := q_nle (a := 4) (b := k3) rfl rfl (by omega) (by omega) c_4
        refine lv_aload_n hx hb dX12_loadSky_23 rfl (lv_at hl 1 rfl) ?_
        refine va_get (D := D) (ci := 12) (v := .ref Msnow) (C := RX12) (T := TX12) (N := 89) hx hb hg i_X12 hown hK hP 0 rfl rfl 59 (by decide) (hg _ m_1472) (fun _ h9 => h9) rfl dX12_loadSky_24 ?_
        refine lv_iload_n hx hb dX12_loadSky_27 rfl (lv_at hl 0 rfl) ?_
        refine lv_aload_n hx hb dX12_loadSky_28 rfl (lv_at hl 1 rfl) ?_
        refine va_get (D := D) (ci := 12) (v := .ref Mnow) (C := RX12) (T := TX12) (N := 89) hx hb hg i_X12 hown hK hP 0 rfl rfl 57 (by decide) (hg _ m_1470) (fun _ h9 => h9) rfl dX12_loadSky_29 ?_
        refine lv_bipush (v := 23) hx hb dX12_loadSky_32 (by decide) ?_
        refine lv_iload_n hx hb dX12_loadSky_34 rfl (lv_at hl 0 rfl) ?_
        refine lv_iadd hx hb dX12_loadSky_35 ?_
        refine lv_topi (fun y_6 hy_6 => ?_)
        obtain rfl : y_6 = nI (23 + k3) := hy_6.trans (nI_add 23 k3)
        refine va_iald hx hb hK hP 1 1 rfl rfl (vp_in_nI (by omega) (by decide)) dX12_loadSky_36 ?_
        refine lv_topi (fun x_7 ex_7 => ?_)
        have hel_8 := wR_at gnow (T := (23 + k3)) (nI_clamp (by omega)) (by omega) ex_7
        refine va_iast hx hb hK hP hD hS 2 1 rfl rfl (vp_in_nI (by omega) (by decide)) dX12_loadSky_37 (fun H locs hP9 hD9 hS9 => ?_)
        clear hP hD hS
        obtain ⟨g_9, eg_9⟩ : ∃ y, upd fa1_3 (nI k3 : Int32).toNatClampNeg x_7 = y := ⟨_, rfl⟩
        rw [eg_9] at hP9 hD9
        refine reW [wO m0 12 [.ref Mtape, .int (nI Itaped), .int (nI Ifault), .int IfaultPlace, .int (nI Iat), .int (nI Isize), .int Isort, .int Iplace, .int Inumber, .long Iword, .ref MnName, .ref MnStep, .ref MnArg, .ref MnMany, .ref Mstep, .ref Marg, .ref Mmany, .ref Mopen, .ref Mvalues, .ref MnHasForm, .ref MhasForm, .int (nI Iform), .int (nI Iopens), .int (nI InUnits), .int Iunits, .int (nI IownUnits), .int (nI Ideep), .ref Masks, .ref MnLoud, .ref MnCliffAt, .ref MnSnow, .ref MnManAt, .ref MnVoice, .ref MnOn, .ref Mloud, .ref McliffAt, .ref MsnowTold, .ref MmanAt, .ref Mvoice, .ref Mon, .ref MnYes, .ref Myes, .int (nI InWords), .int (nI InCliffs), .int (nI InMen), .int (nI InStates), .int (nI InOns), .int InWind, .int InDraw, .int (nI Iwords), .int (nI Icliffs), .int (nI Imen), .int (nI Istates), .int Ions, .int IwindTold, .int InHasWind, .int InHasDraw, .ref Mnow, .ref Mcry, .ref Msnow, .ref Mecho, .int (nI IcryMany), .int IcallPlace, .int IcallVoice, .int x_1, .int 0, .int (nI IechoMany), .ref Mwere, .int (nI Iacts), .int (nI Iundone), .ref Mlies, .int (nI Ilain), .ref Mspots, .ref Msteps, .ref MfromState, .ref MbyWord, .ref Mqueue, .ref MsoundCliff, .ref MsoundLong, .ref MsoundCame, .ref MsoundTold, .ref MsoundUntold, .int (nI Isounds), .int Itime, .ref Mstands, .int IstandMany, .ref Mtally, .ref MhasBox, .ref Mboxes], wI (cy 1) Mnow 42 (Gnow), wI (cy 1) Msnow 4 (g_9)] hP9 hD9 hS9 (fun hP hD hS => ?_)
        clear hP9 hD9 hS9
        refine lv_iinc (v := nI (k3 + 1)) (lv' := [(1, .int (nI (k3 + 1))), (0, .ref m0)]) hx hb dX12_loadSky_38 hl (k := 0) rfl (nI_add k3 1) (by decide) rfl (fun ls hl => ?_)
        refine lv_goto (tgt := 18) hx hb dX12_loadSky_41 (by decide) ?_
        exact ih3  ((k3 + 1)) g_9 (by first | assumption | omega) (by omega) _ _ (hP.sub [0, 1, 2] rfl) (hD.sub [0, 1, 2] (by decide +kernel) rfl) hS ls (lv_sub hl [0, 1] rfl)
  exact loop3 _ 0 Gsnow (by first | assumption | omega) (Nat.le_refl _) _ _ (hP.sub [0, 1, 2] rfl) (hD.sub [0, 1, 2] (by decide +kernel) rfl) hS ls (lv_sub hl [0, 1] rfl)
theorem gdX12_loadCry_0 : decode cX12_loadCry 0 = .ok (.aload_n 0, 1) ∧ decode cX12_loadCry 1 = .ok (.aload_n 0, 1) ∧ decode cX12_loadCry 2 = .ok (.getfield 97, 3) ∧ decode cX12_loadCry 5 = .ok (.bipush 20, 2) ∧ decode cX12_loadCry 7 = .ok (.iload_n 1, 1) ∧ decode cX12_loadCry 8 = .ok (.iadd, 1) ∧ decode cX12_loadCry 9 = .ok (.iaload, 1) ∧ decode cX12_loadCry 10 = .ok (.putfield 446, 3) ∧ decode cX12_loadCry 13 = .ok (.iconst 0, 1) ∧ decode cX12_loadCry 14 = .ok (.istore_n 2, 1) ∧ decode cX12_loadCry 15 = .ok (.iload_n 2, 1) ∧ decode cX12_loadCry 16 = .ok (.aload_n 0, 1) := by decide +kernel
theorem dX12_loadCry_0 : decode cX12_loadCry 0 = .ok (.aload_n 0, 1) := gdX12_loadCry_0.1
theorem dX12_loadCry_1 : decode cX12_loadCry 1 = .ok (.aload_n 0, 1) := gdX12_loadCry_0.2.1
theorem dX12_loadCry_2 : decode cX12_loadCry 2 = .ok (.getfield 97, 3) := gdX12_loadCry_0.2.2.1
theorem dX12_loadCry_5 : decode cX12_loadCry 5 = .ok (.bipush 20, 2) := gdX12_loadCry_0.2.2.2.1
theorem dX12_loadCry_7 : decode cX12_loadCry 7 = .ok (.iload_n 1, 1) := gdX12_loadCry_0.2.2.2.2.1
theorem dX12_loadCry_8 : decode cX12_loadCry 8 = .ok (.iadd, 1) := gdX12_loadCry_0.2.2.2.2.2.1
theorem dX12_loadCry_9 : decode cX12_loadCry 9 = .ok (.iaload, 1) := gdX12_loadCry_0.2.2.2.2.2.2.1
theorem dX12_loadCry_10 : decode cX12_loadCry 10 = .ok (.putfield 446, 3) := gdX12_loadCry_0.2.2.2.2.2.2.2.1
theorem dX12_loadCry_13 : decode cX12_loadCry 13 = .ok (.iconst 0, 1) := gdX12_loadCry_0.2.2.2.2.2.2.2.2.1
theorem dX12_loadCry_14 : decode cX12_loadCry 14 = .ok (.istore_n 2, 1) := gdX12_loadCry_0.2.2.2.2.2.2.2.2.2.1
theorem dX12_loadCry_15 : decode cX12_loadCry 15 = .ok (.iload_n 2, 1) := gdX12_loadCry_0.2.2.2.2.2.2.2.2.2.2.1
theorem dX12_loadCry_16 : decode cX12_loadCry 16 = .ok (.aload_n 0, 1) := gdX12_loadCry_0.2.2.2.2.2.2.2.2.2.2.2
theorem gdX12_loadCry_17 : decode cX12_loadCry 17 = .ok (.getfield 446, 3) ∧ decode cX12_loadCry 20 = .ok (.if_icmp .ge 26, 3) ∧ decode cX12_loadCry 46 = .ok (.return_, 1) ∧ decode cX12_loadCry 23 = .ok (.aload_n 0, 1) ∧ decode cX12_loadCry 24 = .ok (.getfield 100, 3) ∧ decode cX12_loadCry 27 = .ok (.iload_n 2, 1) ∧ decode cX12_loadCry 28 = .ok (.aload_n 0, 1) ∧ decode cX12_loadCry 29 = .ok (.getfield 97, 3) ∧ decode cX12_loadCry 32 = .ok (.bipush 10, 2) ∧ decode cX12_loadCry 34 = .ok (.iload_n 1, 1) ∧ decode cX12_loadCry 35 = .ok (.imul, 1) ∧ decode cX12_loadCry 36 = .ok (.iload_n 2, 1) := by decide +kernel
theorem dX12_loadCry_17 : decode cX12_loadCry 17 = .ok (.getfield 446, 3) := gdX12_loadCry_17.1
theorem dX12_loadCry_20 : decode cX12_loadCry 20 = .ok (.if_icmp .ge 26, 3) := gdX12_loadCry_17.2.1
theorem dX12_loadCry_46 : decode cX12_loadCry 46 = .ok (.return_, 1) := gdX12_loadCry_17.2.2.1
theorem dX12_loadCry_23 : decode cX12_loadCry 23 = .ok (.aload_n 0, 1) := gdX12_loadCry_17.2.2.2.1
theorem dX12_loadCry_24 : decode cX12_loadCry 24 = .ok (.getfield 100, 3) := gdX12_loadCry_17.2.2.2.2.1
theorem dX12_loadCry_27 : decode cX12_loadCry 27 = .ok (.iload_n 2, 1) := gdX12_loadCry_17.2.2.2.2.2.1
theorem dX12_loadCry_28 : decode cX12_loadCry 28 = .ok (.aload_n 0, 1) := gdX12_loadCry_17.2.2.2.2.2.2.1
theorem dX12_loadCry_29 : decode cX12_loadCry 29 = .ok (.getfield 97, 3) := gdX12_loadCry_17.2.2.2.2.2.2.2.1
theorem dX12_loadCry_32 : decode cX12_loadCry 32 = .ok (.bipush 10, 2) := gdX12_loadCry_17.2.2.2.2.2.2.2.2.1
theorem dX12_loadCry_34 : decode cX12_loadCry 34 = .ok (.iload_n 1, 1) := gdX12_loadCry_17.2.2.2.2.2.2.2.2.2.1
theorem dX12_loadCry_35 : decode cX12_loadCry 35 = .ok (.imul, 1) := gdX12_loadCry_17.2.2.2.2.2.2.2.2.2.2.1
theorem dX12_loadCry_36 : decode cX12_loadCry 36 = .ok (.iload_n 2, 1) := gdX12_loadCry_17.2.2.2.2.2.2.2.2.2.2.2
theorem gdX12_loadCry_37 : decode cX12_loadCry 37 = .ok (.iadd, 1) ∧ decode cX12_loadCry 38 = .ok (.iaload, 1) ∧ decode cX12_loadCry 39 = .ok (.iastore, 1) ∧ decode cX12_loadCry 40 = .ok (.iinc 2 1, 3) ∧ decode cX12_loadCry 43 = .ok (.goto (-28), 3) := by decide +kernel
theorem dX12_loadCry_37 : decode cX12_loadCry 37 = .ok (.iadd, 1) := gdX12_loadCry_37.1
theorem dX12_loadCry_38 : decode cX12_loadCry 38 = .ok (.iaload, 1) := gdX12_loadCry_37.2.1
theorem dX12_loadCry_39 : decode cX12_loadCry 39 = .ok (.iastore, 1) := gdX12_loadCry_37.2.2.1
theorem dX12_loadCry_40 : decode cX12_loadCry 40 = .ok (.iinc 2 1, 3) := gdX12_loadCry_37.2.2.2.1
theorem dX12_loadCry_43 : decode cX12_loadCry 43 = .ok (.goto (-28), 3) := gdX12_loadCry_37.2.2.2.2
set_option maxHeartbeats 1000000 in
set_option maxRecDepth 100000 in
theorem r_loadCry0 (l : Launch) (D : va_G) (cy : Nat → ClassId) (m0 : Nat) (Mtape : Nat) (MnName : Nat) (MnStep : Nat) (MnArg : Nat) (MnMany : Nat) (Mstep : Nat) (Marg : Nat) (Mmany : Nat) (Mopen : Nat) (Mvalues : Nat) (MnHasForm : Nat) (MhasForm : Nat) (Masks : Nat) (MnLoud : Nat) (MnCliffAt : Nat) (MnSnow : Nat) (MnManAt : Nat) (MnVoice : Nat) (MnOn : Nat) (Mloud : Nat) (McliffAt : Nat) (MsnowTold : Nat) (MmanAt : Nat) (Mvoice : Nat) (Mon : Nat) (MnYes : Nat) (Myes : Nat) (Mnow : Nat) (Mcry : Nat) (Msnow : Nat) (Mecho : Nat) (Mwere : Nat) (Mlies : Nat) (Mspots : Nat) (Msteps : Nat) (MfromState : Nat) (MbyWord : Nat) (Mqueue : Nat) (MsoundCliff : Nat) (MsoundLong : Nat) (MsoundCame : Nat) (MsoundTold : Nat) (MsoundUntold : Nat) (Mstands : Nat) (Mtally : Nat) (MhasBox : Nat) (Mboxes : Nat) (Itaped : Nat) (Ifault : Nat) (IfaultPlace : Int32) (Iat : Nat) (Isize : Nat) (Isort : Int32) (Iplace : Int32) (Inumber : Int32) (Iword : Int64) (Iform : Nat) (Iopens : Nat) (InUnits : Nat) (Iunits : Int32) (IownUnits : Nat) (Ideep : Nat) (InWords : Nat) (InCliffs : Nat) (InMen : Nat) (InStates : Nat) (InOns : Nat) (InWind : Int32) (InDraw : Int32) (Iwords : Nat) (Icliffs : Nat) (Imen : Nat) (Istates : Nat) (Ions : Int32) (IwindTold : Int32) (InHasWind : Int32) (InHasDraw : Int32) (Gnow : Nat → Int32) (Gcry : Nat → Int32) (IcryMany : Nat) (IcallPlace : Int32) (IcallVoice : Int32) (Iwind : Int32) (Ichance : Int32) (IechoMany : Nat) (Iacts : Nat) (Iundone : Nat) (Ilain : Nat) (Isounds : Nat) (Itime : Int32) (IstandMany : Int32) (gtp : Itaped ≤ 1600) (gat : Iat ≤ Isize) (gsz : Isize ≤ 1600) (gfl : Ifault ≤ 5) (gfo : Iform ≤ 2) (gnw : InWords ≤ 8) (gnc : InCliffs ≤ 4) (gnm : InMen ≤ 4) (gns : InStates ≤ 6) (gw : Iwords ≤ 8) (gc9 : Icliffs ≤ 4) (gm : Imen ≤ 4) (gs : Istates ≤ 6) (gcm : IcryMany ≤ 10) (gem : IechoMany ≤ 20) (gau : Iacts + Iundone ≤ 40) (gla : Ilain ≤ 20) (gso : Isounds ≤ 30) (gop : Iopens ≤ 40) (gde : Ideep ≤ 8) (gou : IownUnits ≤ 31) (gnu : InUnits ≤ 61) (gno : InOns ≤ 30) (gcry : rng Gcry 10 7) (gnow : wRows Gnow 1) : XMv l D (tyL cy) E0 yX12_loadCry cX12_loadCry 3 none (rmk 0 0 0) [.ref m0, .int 0] [wO m0 12 [.ref Mtape, .int (nI Itaped), .int (nI Ifault), .int IfaultPlace, .int (nI Iat), .int (nI Isize), .int Isort, .int Iplace, .int Inumber, .long Iword, .ref MnName, .ref MnStep, .ref MnArg, .ref MnMany, .ref Mstep, .ref Marg, .ref Mmany, .ref Mopen, .ref Mvalues, .ref MnHasForm, .ref MhasForm, .int (nI Iform), .int (nI Iopens), .int (nI InUnits), .int Iunits, .int (nI IownUnits), .int (nI Ideep), .ref Masks, .ref MnLoud, .ref MnCliffAt, .ref MnSnow, .ref MnManAt, .ref MnVoice, .ref MnOn, .ref Mloud, .ref McliffAt, .ref MsnowTold, .ref MmanAt, .ref Mvoice, .ref Mon, .ref MnYes, .ref Myes, .int (nI InWords), .int (nI InCliffs), .int (nI InMen), .int (nI InStates), .int (nI InOns), .int InWind, .int InDraw, .int (nI Iwords), .int (nI Icliffs), .int (nI Imen), .int (nI Istates), .int Ions, .int IwindTold, .int InHasWind, .int InHasDraw, .ref Mnow, .ref Mcry, .ref Msnow, .ref Mecho, .int (nI IcryMany), .int IcallPlace, .int IcallVoice, .int Iwind, .int Ichance, .int (nI IechoMany), .ref Mwere, .int (nI Iacts), .int (nI Iundone), .ref Mlies, .int (nI Ilain), .ref Mspots, .ref Msteps, .ref MfromState, .ref MbyWord, .ref Mqueue, .ref MsoundCliff, .ref MsoundLong, .ref MsoundCame, .ref MsoundTold, .ref MsoundUntold, .int (nI Isounds), .int Itime, .ref Mstands, .int IstandMany, .ref Mtally, .ref MhasBox, .ref Mboxes], wI (cy 1) Mnow 42 (Gnow), wI (cy 1) Mcry 10 (Gcry)] (fun (u : (Nat → Int32) × Nat) => (u.2 ≤ 10) ∧ (rng u.1 10 7) ∧ (Gnow (20 : Int32).toNatClampNeg = nI u.2)) (fun (u : (Nat → Int32) × Nat) => [wO m0 12 [.ref Mtape, .int (nI Itaped), .int (nI Ifault), .int IfaultPlace, .int (nI Iat), .int (nI Isize), .int Isort, .int Iplace, .int Inumber, .long Iword, .ref MnName, .ref MnStep, .ref MnArg, .ref MnMany, .ref Mstep, .ref Marg, .ref Mmany, .ref Mopen, .ref Mvalues, .ref MnHasForm, .ref MhasForm, .int (nI Iform), .int (nI Iopens), .int (nI InUnits), .int Iunits, .int (nI IownUnits), .int (nI Ideep), .ref Masks, .ref MnLoud, .ref MnCliffAt, .ref MnSnow, .ref MnManAt, .ref MnVoice, .ref MnOn, .ref Mloud, .ref McliffAt, .ref MsnowTold, .ref MmanAt, .ref Mvoice, .ref Mon, .ref MnYes, .ref Myes, .int (nI InWords), .int (nI InCliffs), .int (nI InMen), .int (nI InStates), .int (nI InOns), .int InWind, .int InDraw, .int (nI Iwords), .int (nI Icliffs), .int (nI Imen), .int (nI Istates), .int Ions, .int IwindTold, .int InHasWind, .int InHasDraw, .ref Mnow, .ref Mcry, .ref Msnow, .ref Mecho, .int (nI u.2), .int IcallPlace, .int IcallVoice, .int Iwind, .int Ichance, .int (nI IechoMany), .ref Mwere, .int (nI Iacts), .int (nI Iundone), .ref Mlies, .int (nI Ilain), .ref Mspots, .ref Msteps, .ref MfromState, .ref MbyWord, .ref Mqueue, .ref MsoundCliff, .ref MsoundLong, .ref MsoundCame, .ref MsoundTold, .ref MsoundUntold, .int (nI Isounds), .int Itime, .ref Mstands, .int IstandMany, .ref Mtally, .ref MhasBox, .ref Mboxes], wI (cy 1) Mnow 42 (Gnow), wI (cy 1) Mcry 10 (u.1)]) := by
  refine XMv.start (by decide) (Nat.le_of_ble_eq_true rfl) ?_
  intro p e s m below meth c args A ls Q hat hQ
  obtain ⟨hx, hb, hr, hml, hown, hg, hlocks, hin, hK, hA, hP, hD, hS, hE, hl⟩ := hat
  have hown : s.vm.findClass RX12 = some m.cls := hown
  have hl : lv_has ls 3 [(0, .ref m0), (1, .int 0)] := hl
  refine lv_aload_n hx hb dX12_loadCry_0 rfl (lv_at hl 0 rfl) ?_
  refine lv_aload_n hx hb dX12_loadCry_1 rfl (lv_at hl 0 rfl) ?_
  refine va_get (D := D) (ci := 12) (v := .ref Mnow) (C := RX12) (T := TX12) (N := 89) hx hb hg i_X12 hown hK hP 0 rfl rfl 57 (by decide) (hg _ m_1470) (fun _ h9 => h9) rfl dX12_loadCry_2 ?_
  refine lv_bipush (v := 20) hx hb dX12_loadCry_5 (by decide) ?_
  refine lv_iload_n hx hb dX12_loadCry_7 rfl (lv_at hl 1 rfl) ?_
  refine lv_iadd hx hb dX12_loadCry_8 ?_
  refine lv_topi (fun y_1 hy_1 => ?_)
  obtain rfl : y_1 = 20 := hy_1.trans (by decide +kernel)
  refine va_iald hx hb hK hP 1 1 rfl rfl (by unfold vp_in; decide) dX12_loadCry_9 ?_
  obtain ⟨j_3, hj_3, ej_3⟩ := wR_len gnow (z := 20) (T := 20) (by decide) (by omega) (by omega)
  refine lv_topi (fun y_2 hy_2 => ?_)
  obtain rfl : y_2 = nI j_3 := hy_2.trans ej_3
  refine va_put (D := D) (ci := 12) (v := .int (nI j_3)) (ty := .int) (C := RX12) (T := TX12) (N := 89) hx hb hg i_X12 tyX12 tyX12_ok nmX12 hown hK hP hD hS 0 rfl rfl 61 (by decide) (hg _ m_1474) (fun _ h9 => h9) rfl (by decide +kernel) rfl rfl (Nat.le_of_ble_eq_true rfl) dX12_loadCry_10 (fun H locs hP9 hD9 hS9 => ?_)
  clear hP hD hS
  refine reW [wO m0 12 [.ref Mtape, .int (nI Itaped), .int (nI Ifault), .int IfaultPlace, .int (nI Iat), .int (nI Isize), .int Isort, .int Iplace, .int Inumber, .long Iword, .ref MnName, .ref MnStep, .ref MnArg, .ref MnMany, .ref Mstep, .ref Marg, .ref Mmany, .ref Mopen, .ref Mvalues, .ref MnHasForm, .ref MhasForm, .int (nI Iform), .int (nI Iopens), .int (nI InUnits), .int Iunits, .int (nI IownUnits), .int (nI Ideep), .ref Masks, .ref MnLoud, .ref MnCliffAt, .ref MnSnow, .ref MnManAt, .ref MnVoice, .ref MnOn, .ref Mloud, .ref McliffAt, .ref MsnowTold, .ref MmanAt, .ref Mvoice, .ref Mon, .ref MnYes, .ref Myes, .int (nI InWords), .int (nI InCliffs), .int (nI InMen), .int (nI InStates), .int (nI InOns), .int InWind, .int InDraw, .int (nI Iwords), .int (nI Icliffs), .int (nI Imen), .int (nI Istates), .int Ions, .int IwindTold, .int InHasWind, .int InHasDraw, .ref Mnow, .ref Mcry, .ref Msnow, .ref Mecho, .int (nI j_3), .int IcallPlace, .int IcallVoice, .int Iwind, .int Ichance, .int (nI IechoMany), .ref Mwere, .int (nI Iacts), .int (nI Iundone), .ref Mlies, .int (nI Ilain), .ref Mspots, .ref Msteps, .ref MfromState, .ref MbyWord, .ref Mqueue, .ref MsoundCliff, .ref MsoundLong, .ref MsoundCame, .ref MsoundTold, .ref MsoundUntold, .int (nI Isounds), .int Itime, .ref Mstands, .int IstandMany, .ref Mtally, .ref MhasBox, .ref Mboxes], wI (cy 1) Mnow 42 (Gnow), wI (cy 1) Mcry 10 (Gcry)] hP9 hD9 hS9 (fun hP hD hS => ?_)
  clear hP9 hD9 hS9
  refine lv_iconst (v := 0) hx hb dX12_loadCry_13 (by decide) ?_
  refine lv_istore_n (lv' := [(2, .int 0), (0, .ref m0), (1, .int 0)]) hx hb dX12_loadCry_14 rfl hl (by decide) rfl (fun ls hl => ?_)
  have loop4 : ∀ (zn : Nat) (k4 : Nat) (fa1_4 : Nat → Int32), (rng fa1_4 10 7) → (k4 ≤ 10) → 10 - k4 + 1 ≤ zn → ∀ (H : Heap) (locs : List Loc), va_P D vwCl [wO m0 12 [.ref Mtape, .int (nI Itaped), .int (nI Ifault), .int IfaultPlace, .int (nI Iat), .int (nI Isize), .int Isort, .int Iplace, .int Inumber, .long Iword, .ref MnName, .ref MnStep, .ref MnArg, .ref MnMany, .ref Mstep, .ref Marg, .ref Mmany, .ref Mopen, .ref Mvalues, .ref MnHasForm, .ref MhasForm, .int (nI Iform), .int (nI Iopens), .int (nI InUnits), .int Iunits, .int (nI IownUnits), .int (nI Ideep), .ref Masks, .ref MnLoud, .ref MnCliffAt, .ref MnSnow, .ref MnManAt, .ref MnVoice, .ref MnOn, .ref Mloud, .ref McliffAt, .ref MsnowTold, .ref MmanAt, .ref Mvoice, .ref Mon, .ref MnYes, .ref Myes, .int (nI InWords), .int (nI InCliffs), .int (nI InMen), .int (nI InStates), .int (nI InOns), .int InWind, .int InDraw, .int (nI Iwords), .int (nI Icliffs), .int (nI Imen), .int (nI Istates), .int Ions, .int IwindTold, .int InHasWind, .int InHasDraw, .ref Mnow, .ref Mcry, .ref Msnow, .ref Mecho, .int (nI j_3), .int IcallPlace, .int IcallVoice, .int Iwind, .int Ichance, .int (nI IechoMany), .ref Mwere, .int (nI Iacts), .int (nI Iundone), .ref Mlies, .int (nI Ilain), .ref Mspots, .ref Msteps, .ref MfromState, .ref MbyWord, .ref Mqueue, .ref MsoundCliff, .ref MsoundLong, .ref MsoundCame, .ref MsoundTold, .ref MsoundUntold, .int (nI Isounds), .int Itime, .ref Mstands, .int IstandMany, .ref Mtally, .ref MhasBox, .ref Mboxes], wI (cy 1) Mnow 42 (Gnow), wI (cy 1) Mcry 10 (fa1_4)] H → va_D A [wO m0 12 [.ref Mtape, .int (nI Itaped), .int (nI Ifault), .int IfaultPlace, .int (nI Iat), .int (nI Isize), .int Isort, .int Iplace, .int Inumber, .long Iword, .ref MnName, .ref MnStep, .ref MnArg, .ref MnMany, .ref Mstep, .ref Marg, .ref Mmany, .ref Mopen, .ref Mvalues, .ref MnHasForm, .ref MhasForm, .int (nI Iform), .int (nI Iopens), .int (nI InUnits), .int Iunits, .int (nI IownUnits), .int (nI Ideep), .ref Masks, .ref MnLoud, .ref MnCliffAt, .ref MnSnow, .ref MnManAt, .ref MnVoice, .ref MnOn, .ref Mloud, .ref McliffAt, .ref MsnowTold, .ref MmanAt, .ref Mvoice, .ref Mon, .ref MnYes, .ref Myes, .int (nI InWords), .int (nI InCliffs), .int (nI InMen), .int (nI InStates), .int (nI InOns), .int InWind, .int InDraw, .int (nI Iwords), .int (nI Icliffs), .int (nI Imen), .int (nI Istates), .int Ions, .int IwindTold, .int InHasWind, .int InHasDraw, .ref Mnow, .ref Mcry, .ref Msnow, .ref Mecho, .int (nI j_3), .int IcallPlace, .int IcallVoice, .int Iwind, .int Ichance, .int (nI IechoMany), .ref Mwere, .int (nI Iacts), .int (nI Iundone), .ref Mlies, .int (nI Ilain), .ref Mspots, .ref Msteps, .ref MfromState, .ref MbyWord, .ref Mqueue, .ref MsoundCliff, .ref MsoundLong, .ref MsoundCame, .ref MsoundTold, .ref MsoundUntold, .int (nI Isounds), .int Itime, .ref Mstands, .int IstandMany, .ref Mtally, .ref MhasBox, .ref Mboxes], wI (cy 1) Mnow 42 (Gnow), wI (cy 1) Mcry 10 (fa1_4)] → va_S A s.heap H locs → ∀ ls : Array Slot, lv_has ls 3 [(2, .int (nI k4)), (0, .ref m0), (1, .int 0)] → W p l e (rmk 0 0 0) s m args below meth c H locs 0 0 Q (F0 m 15 ls []) := by
    try clear hP hD hS
    intro zn
    induction zn with
    | zero => intro k4 fa1_4 _ _ hz; exact absurd hz (by omega)
    | succ zn ih4 =>
      intro k4 fa1_4 ha2_4 hf0_4 hmu4 H locs hP hD hS ls hl
      refine lv_iload_n hx hb dX12_loadCry_15 rfl (lv_at hl 0 rfl) ?_
      refine lv_aload_n hx hb dX12_loadCry_16 rfl (lv_at hl 1 rfl) ?_
      refine va_get (D := D) (ci := 12) (v := .int (nI j_3)) (C := RX12) (T := TX12) (N := 89) hx hb hg i_X12 hown hK hP 0 rfl rfl 61 (by decide) (hg _ m_1474) (fun _ h9 => h9) rfl dX12_loadCry_17 ?_
      refine lv_icmp_ge (tgt := 46) hx hb dX12_loadCry_20 (by decide) (fun c_5 => ?_) (fun c_5 => ?_)
      · have q_6 : j_3 ≤ k4 := q_le (a := j_3) (b := k4) rfl rfl (by omega) (by omega) c_5
        exact x_vret hQ hx hb hr hlocks hK hP hD hS dX12_loadCry_46 (fa1_4, j_3) (⟨(show j_3 ≤ 10 from by first | assumption | omega), ha2_4, (show Gnow (20 : Int32).toNatClampNeg = nI j_3 from ej_3)⟩) [0, 1, 2] (by decide +kernel) rfl (Nat.le_of_ble_eq_true rfl) (Nat.le_of_ble_eq_true rfl)
      · have q_6 : k4 < j_3 := q_nle (a := j_3) (b := k4) rfl rfl (by omega) (by omega) c_5
        refine lv_aload_n hx hb dX12_loadCry_23 rfl (lv_at hl 1 rfl) ?_
        refine va_get (D := D) (ci := 12) (v := .ref Mcry) (C := RX12) (T := TX12) (N := 89) hx hb hg i_X12 hown hK hP 0 rfl rfl 58 (by decide) (hg _ m_1471) (fun _ h9 => h9) rfl dX12_loadCry_24 ?_
        refine lv_iload_n hx hb dX12_loadCry_27 rfl (lv_at hl 0 rfl) ?_
        refine lv_aload_n hx hb dX12_loadCry_28 rfl (lv_at hl 1 rfl) ?_
        refine va_get (D := D) (ci := 12) (v := .ref Mnow) (C := RX12) (T := TX12) (N := 89) hx hb hg i_X12 hown hK hP 0 rfl rfl 57 (by decide) (hg _ m_1470) (fun _ h9 => h9) rfl dX12_loadCry_29 ?_
        refine lv_bipush (v := 10) hx hb dX12_loadCry_32 (by decide) ?_
        refine lv_iload_n hx hb dX12_loadCry_34 rfl (lv_at hl 2 rfl) ?_
        refine lv_imul hx hb dX12_loadCry_35 ?_
        refine lv_topi (fun y_7 hy_7 => ?_)
        obtain rfl : y_7 = 0 := hy_7.trans (by decide +kernel)
        refine lv_iload_n hx hb dX12_loadCry_36 rfl (lv_at hl 0 rfl) ?_
        refine lv_iadd hx hb dX12_loadCry_37 ?_
        refine lv_topi (fun y_8 hy_8 => ?_)
        obtain rfl : y_8 = nI (0 + k4) := hy_8.trans (nI_add 0 k4)
        refine va_iald hx hb hK hP 1 1 rfl rfl (vp_in_nI (by omega) (by decide)) dX12_loadCry_38 ?_
        obtain ⟨j_10, hj_10, ej_10⟩ := wR_word gnow (z := nI (0 + k4)) (T := (0 + k4)) (nI_clamp (by omega)) (by omega) (by omega)
        refine lv_topi (fun y_9 hy_9 => ?_)
        obtain rfl : y_9 = nI j_10 := hy_9.trans ej_10
        refine va_iast hx hb hK hP hD hS 2 1 rfl rfl (vp_in_nI (by omega) (by decide)) dX12_loadCry_39 (fun H locs hP9 hD9 hS9 => ?_)
        clear hP hD hS
        have hP := hP9
        have hD := hD9
        have hS := hS9
        clear hP9 hD9 hS9
        obtain ⟨g_11, eg_11⟩ : ∃ y, upd fa1_4 (nI k4 : Int32).toNatClampNeg (nI j_10) = y := ⟨_, rfl⟩
        rw [eg_11] at hP hD
        have hr_12 : rng g_11 10 7 := eg_11 ▸ rng_put ha2_4 (j := j_10) (by omega)
        replace hP : va_P D vwCl [wO m0 12 [.ref Mtape, .int (nI Itaped), .int (nI Ifault), .int IfaultPlace, .int (nI Iat), .int (nI Isize), .int Isort, .int Iplace, .int Inumber, .long Iword, .ref MnName, .ref MnStep, .ref MnArg, .ref MnMany, .ref Mstep, .ref Marg, .ref Mmany, .ref Mopen, .ref Mvalues, .ref MnHasForm, .ref MhasForm, .int (nI Iform), .int (nI Iopens), .int (nI InUnits), .int Iunits, .int (nI IownUnits), .int (nI Ideep), .ref Masks, .ref MnLoud, .ref MnCliffAt, .ref MnSnow, .ref MnManAt, .ref MnVoice, .ref MnOn, .ref Mloud, .ref McliffAt, .ref MsnowTold, .ref MmanAt, .ref Mvoice, .ref Mon, .ref MnYes, .ref Myes, .int (nI InWords), .int (nI InCliffs), .int (nI InMen), .int (nI InStates), .int (nI InOns), .int InWind, .int InDraw, .int (nI Iwords), .int (nI Icliffs), .int (nI Imen), .int (nI Istates), .int Ions, .int IwindTold, .int InHasWind, .int InHasDraw, .ref Mnow, .ref Mcry, .ref Msnow, .ref Mecho, .int (nI j_3), .int IcallPlace, .int IcallVoice, .int Iwind, .int Ichance, .int (nI IechoMany), .ref Mwere, .int (nI Iacts), .int (nI Iundone), .ref Mlies, .int (nI Ilain), .ref Mspots, .ref Msteps, .ref MfromState, .ref MbyWord, .ref Mqueue, .ref MsoundCliff, .ref MsoundLong, .ref MsoundCame, .ref MsoundTold, .ref MsoundUntold, .int (nI Isounds), .int Itime, .ref Mstands, .int IstandMany, .ref Mtally, .ref MhasBox, .ref Mboxes], wI (cy 1) Mnow 42 (Gnow), wI (cy 1) Mcry 10 (g_11)] H := hP
        replace hD : va_D A [wO m0 12 [.ref Mtape, .int (nI Itaped), .int (nI Ifault), .int IfaultPlace, .int (nI Iat), .int (nI Isize), .int Isort, .int Iplace, .int Inumber, .long Iword, .ref MnName, .ref MnStep, .ref MnArg, .ref MnMany, .ref Mstep, .ref Marg, .ref Mmany, .ref Mopen, .ref Mvalues, .ref MnHasForm, .ref MhasForm, .int (nI Iform), .int (nI Iopens), .int (nI InUnits), .int Iunits, .int (nI IownUnits), .int (nI Ideep), .ref Masks, .ref MnLoud, .ref MnCliffAt, .ref MnSnow, .ref MnManAt, .ref MnVoice, .ref MnOn, .ref Mloud, .ref McliffAt, .ref MsnowTold, .ref MmanAt, .ref Mvoice, .ref Mon, .ref MnYes, .ref Myes, .int (nI InWords), .int (nI InCliffs), .int (nI InMen), .int (nI InStates), .int (nI InOns), .int InWind, .int InDraw, .int (nI Iwords), .int (nI Icliffs), .int (nI Imen), .int (nI Istates), .int Ions, .int IwindTold, .int InHasWind, .int InHasDraw, .ref Mnow, .ref Mcry, .ref Msnow, .ref Mecho, .int (nI j_3), .int IcallPlace, .int IcallVoice, .int Iwind, .int Ichance, .int (nI IechoMany), .ref Mwere, .int (nI Iacts), .int (nI Iundone), .ref Mlies, .int (nI Ilain), .ref Mspots, .ref Msteps, .ref MfromState, .ref MbyWord, .ref Mqueue, .ref MsoundCliff, .ref MsoundLong, .ref MsoundCame, .ref MsoundTold, .ref MsoundUntold, .int (nI Isounds), .int Itime, .ref Mstands, .int IstandMany, .ref Mtally, .ref MhasBox, .ref Mboxes], wI (cy 1) Mnow 42 (Gnow), wI (cy 1) Mcry 10 (g_11)] := hD
        refine lv_iinc (v := nI (k4 + 1)) (lv' := [(2, .int (nI (k4 + 1))), (0, .ref m0), (1, .int 0)]) hx hb dX12_loadCry_40 hl (k := 0) rfl (nI_add k4 1) (by decide) rfl (fun ls hl => ?_)
        refine lv_goto (tgt := 15) hx hb dX12_loadCry_43 (by decide) ?_
        exact ih4  ((k4 + 1)) g_11 hr_12 (by first | assumption | omega) (by omega) _ _ (hP.sub [0, 1, 2] rfl) (hD.sub [0, 1, 2] (by decide +kernel) rfl) hS ls (lv_sub hl [0, 1, 2] rfl)
  exact loop4 _ 0 Gcry gcry (by first | assumption | omega) (Nat.le_refl _) _ _ (hP.sub [0, 1, 2] rfl) (hD.sub [0, 1, 2] (by decide +kernel) rfl) hS ls (lv_sub hl [0, 1, 2] rfl)
set_option maxHeartbeats 1000000 in
set_option maxRecDepth 100000 in
theorem r_loadCry1 (l : Launch) (D : va_G) (cy : Nat → ClassId) (m0 : Nat) (Mtape : Nat) (MnName : Nat) (MnStep : Nat) (MnArg : Nat) (MnMany : Nat) (Mstep : Nat) (Marg : Nat) (Mmany : Nat) (Mopen : Nat) (Mvalues : Nat) (MnHasForm : Nat) (MhasForm : Nat) (Masks : Nat) (MnLoud : Nat) (MnCliffAt : Nat) (MnSnow : Nat) (MnManAt : Nat) (MnVoice : Nat) (MnOn : Nat) (Mloud : Nat) (McliffAt : Nat) (MsnowTold : Nat) (MmanAt : Nat) (Mvoice : Nat) (Mon : Nat) (MnYes : Nat) (Myes : Nat) (Mnow : Nat) (Mcry : Nat) (Msnow : Nat) (Mecho : Nat) (Mwere : Nat) (Mlies : Nat) (Mspots : Nat) (Msteps : Nat) (MfromState : Nat) (MbyWord : Nat) (Mqueue : Nat) (MsoundCliff : Nat) (MsoundLong : Nat) (MsoundCame : Nat) (MsoundTold : Nat) (MsoundUntold : Nat) (Mstands : Nat) (Mtally : Nat) (MhasBox : Nat) (Mboxes : Nat) (Itaped : Nat) (Ifault : Nat) (IfaultPlace : Int32) (Iat : Nat) (Isize : Nat) (Isort : Int32) (Iplace : Int32) (Inumber : Int32) (Iword : Int64) (Iform : Nat) (Iopens : Nat) (InUnits : Nat) (Iunits : Int32) (IownUnits : Nat) (Ideep : Nat) (InWords : Nat) (InCliffs : Nat) (InMen : Nat) (InStates : Nat) (InOns : Nat) (InWind : Int32) (InDraw : Int32) (Iwords : Nat) (Icliffs : Nat) (Imen : Nat) (Istates : Nat) (Ions : Int32) (IwindTold : Int32) (InHasWind : Int32) (InHasDraw : Int32) (Gnow : Nat → Int32) (Gcry : Nat → Int32) (IcryMany : Nat) (IcallPlace : Int32) (IcallVoice : Int32) (Iwind : Int32) (Ichance : Int32) (IechoMany : Nat) (Iacts : Nat) (Iundone : Nat) (Ilain : Nat) (Isounds : Nat) (Itime : Int32) (IstandMany : Int32) (gtp : Itaped ≤ 1600) (gat : Iat ≤ Isize) (gsz : Isize ≤ 1600) (gfl : Ifault ≤ 5) (gfo : Iform ≤ 2) (gnw : InWords ≤ 8) (gnc : InCliffs ≤ 4) (gnm : InMen ≤ 4) (gns : InStates ≤ 6) (gw : Iwords ≤ 8) (gc9 : Icliffs ≤ 4) (gm : Imen ≤ 4) (gs : Istates ≤ 6) (gcm : IcryMany ≤ 10) (gem : IechoMany ≤ 20) (gau : Iacts + Iundone ≤ 40) (gla : Ilain ≤ 20) (gso : Isounds ≤ 30) (gop : Iopens ≤ 40) (gde : Ideep ≤ 8) (gou : IownUnits ≤ 31) (gnu : InUnits ≤ 61) (gno : InOns ≤ 30) (gcry : rng Gcry 10 7) (gnow : wRows Gnow 1) : XMv l D (tyL cy) E0 yX12_loadCry cX12_loadCry 3 none (rmk 0 0 0) [.ref m0, .int 1] [wO m0 12 [.ref Mtape, .int (nI Itaped), .int (nI Ifault), .int IfaultPlace, .int (nI Iat), .int (nI Isize), .int Isort, .int Iplace, .int Inumber, .long Iword, .ref MnName, .ref MnStep, .ref MnArg, .ref MnMany, .ref Mstep, .ref Marg, .ref Mmany, .ref Mopen, .ref Mvalues, .ref MnHasForm, .ref MhasForm, .int (nI Iform), .int (nI Iopens), .int (nI InUnits), .int Iunits, .int (nI IownUnits), .int (nI Ideep), .ref Masks, .ref MnLoud, .ref MnCliffAt, .ref MnSnow, .ref MnManAt, .ref MnVoice, .ref MnOn, .ref Mloud, .ref McliffAt, .ref MsnowTold, .ref MmanAt, .ref Mvoice, .ref Mon, .ref MnYes, .ref Myes, .int (nI InWords), .int (nI InCliffs), .int (nI InMen), .int (nI InStates), .int (nI InOns), .int InWind, .int InDraw, .int (nI Iwords), .int (nI Icliffs), .int (nI Imen), .int (nI Istates), .int Ions, .int IwindTold, .int InHasWind, .int InHasDraw, .ref Mnow, .ref Mcry, .ref Msnow, .ref Mecho, .int (nI IcryMany), .int IcallPlace, .int IcallVoice, .int Iwind, .int Ichance, .int (nI IechoMany), .ref Mwere, .int (nI Iacts), .int (nI Iundone), .ref Mlies, .int (nI Ilain), .ref Mspots, .ref Msteps, .ref MfromState, .ref MbyWord, .ref Mqueue, .ref MsoundCliff, .ref MsoundLong, .ref MsoundCame, .ref MsoundTold, .ref MsoundUntold, .int (nI Isounds), .int Itime, .ref Mstands, .int IstandMany, .ref Mtally, .ref MhasBox, .ref Mboxes], wI (cy 1) Mnow 42 (Gnow), wI (cy 1) Mcry 10 (Gcry)] (fun (u : (Nat → Int32) × Nat) => (u.2 ≤ 10) ∧ (rng u.1 10 7) ∧ (Gnow (21 : Int32).toNatClampNeg = nI u.2)) (fun (u : (Nat → Int32) × Nat) => [wO m0 12 [.ref Mtape, .int (nI Itaped), .int (nI Ifault), .int IfaultPlace, .int (nI Iat), .int (nI Isize), .int Isort, .int Iplace, .int Inumber, .long Iword, .ref MnName, .ref MnStep, .ref MnArg, .ref MnMany, .ref Mstep, .ref Marg, .ref Mmany, .ref Mopen, .ref Mvalues, .ref MnHasForm, .ref MhasForm, .int (nI Iform), .int (nI Iopens), .int (nI InUnits), .int Iunits, .int (nI IownUnits), .int (nI Ideep), .ref Masks, .ref MnLoud, .ref MnCliffAt, .ref MnSnow, .ref MnManAt, .ref MnVoice, .ref MnOn, .ref Mloud, .ref McliffAt, .ref MsnowTold, .ref MmanAt, .ref Mvoice, .ref Mon, .ref MnYes, .ref Myes, .int (nI InWords), .int (nI InCliffs), .int (nI InMen), .int (nI InStates), .int (nI InOns), .int InWind, .int InDraw, .int (nI Iwords), .int (nI Icliffs), .int (nI Imen), .int (nI Istates), .int Ions, .int IwindTold, .int InHasWind, .int InHasDraw, .ref Mnow, .ref Mcry, .ref Msnow, .ref Mecho, .int (nI u.2), .int IcallPlace, .int IcallVoice, .int Iwind, .int Ichance, .int (nI IechoMany), .ref Mwere, .int (nI Iacts), .int (nI Iundone), .ref Mlies, .int (nI Ilain), .ref Mspots, .ref Msteps, .ref MfromState, .ref MbyWord, .ref Mqueue, .ref MsoundCliff, .ref MsoundLong, .ref MsoundCame, .ref MsoundTold, .ref MsoundUntold, .int (nI Isounds), .int Itime, .ref Mstands, .int IstandMany, .ref Mtally, .ref MhasBox, .ref Mboxes], wI (cy 1) Mnow 42 (Gnow), wI (cy 1) Mcry 10 (u.1)]) := by
  refine XMv.start (by decide) (Nat.le_of_ble_eq_true rfl) ?_
  intro p e s m below meth c args A ls Q hat hQ
  obtain ⟨hx, hb, hr, hml, hown, hg, hlocks, hin, hK, hA, hP, hD, hS, hE, hl⟩ := hat
  have hown : s.vm.findClass RX12 = some m.cls := hown
  have hl : lv_has ls 3 [(0, .ref m0), (1, .int 1)] := hl
  refine lv_aload_n hx hb dX12_loadCry_0 rfl (lv_at hl 0 rfl) ?_
  refine lv_aload_n hx hb dX12_loadCry_1 rfl (lv_at hl 0 rfl) ?_
  refine va_get (D := D) (ci := 12) (v := .ref Mnow) (C := RX12) (T := TX12) (N := 89) hx hb hg i_X12 hown hK hP 0 rfl rfl 57 (by decide) (hg _ m_1470) (fun _ h9 => h9) rfl dX12_loadCry_2 ?_
  refine lv_bipush (v := 20) hx hb dX12_loadCry_5 (by decide) ?_
  refine lv_iload_n hx hb dX12_loadCry_7 rfl (lv_at hl 1 rfl) ?_
  refine lv_iadd hx hb dX12_loadCry_8 ?_
  refine lv_topi (fun y_1 hy_1 => ?_)
  obtain rfl : y_1 = 21 := hy_1.trans (by decide +kernel)
  refine va_iald hx hb hK hP 1 1 rfl rfl (by unfold vp_in; decide) dX12_loadCry_9 ?_
  obtain ⟨j_3, hj_3, ej_3⟩ := wR_len gnow (z := 21) (T := 21) (by decide) (by omega) (by omega)
  refine lv_topi (fun y_2 hy_2 => ?_)
  obtain rfl : y_2 = nI j_3 := hy_2.trans ej_3
  refine va_put (D := D) (ci := 12) (v := .int (nI j_3)) (ty := .int) (C := RX12) (T := TX12) (N := 89) hx hb hg i_X12 tyX12 tyX12_ok nmX12 hown hK hP hD hS 0 rfl rfl 61 (by decide) (hg _ m_1474) (fun _ h9 => h9) rfl (by decide +kernel) rfl rfl (Nat.le_of_ble_eq_true rfl) dX12_loadCry_10 (fun H locs hP9 hD9 hS9 => ?_)
  clear hP hD hS
  refine reW [wO m0 12 [.ref Mtape, .int (nI Itaped), .int (nI Ifault), .int IfaultPlace, .int (nI Iat), .int (nI Isize), .int Isort, .int Iplace, .int Inumber, .long Iword, .ref MnName, .ref MnStep, .ref MnArg, .ref MnMany, .ref Mstep, .ref Marg, .ref Mmany, .ref Mopen, .ref Mvalues, .ref MnHasForm, .ref MhasForm, .int (nI Iform), .int (nI Iopens), .int (nI InUnits), .int Iunits, .int (nI IownUnits), .int (nI Ideep), .ref Masks, .ref MnLoud, .ref MnCliffAt, .ref MnSnow, .ref MnManAt, .ref MnVoice, .ref MnOn, .ref Mloud, .ref McliffAt, .ref MsnowTold, .ref MmanAt, .ref Mvoice, .ref Mon, .ref MnYes, .ref Myes, .int (nI InWords), .int (nI InCliffs), .int (nI InMen), .int (nI InStates), .int (nI InOns), .int InWind, .int InDraw, .int (nI Iwords), .int (nI Icliffs), .int (nI Imen), .int (nI Istates), .int Ions, .int IwindTold, .int InHasWind, .int InHasDraw, .ref Mnow, .ref Mcry, .ref Msnow, .ref Mecho, .int (nI j_3), .int IcallPlace, .int IcallVoice, .int Iwind, .int Ichance, .int (nI IechoMany), .ref Mwere, .int (nI Iacts), .int (nI Iundone), .ref Mlies, .int (nI Ilain), .ref Mspots, .ref Msteps, .ref MfromState, .ref MbyWord, .ref Mqueue, .ref MsoundCliff, .ref MsoundLong, .ref MsoundCame, .ref MsoundTold, .ref MsoundUntold, .int (nI Isounds), .int Itime, .ref Mstands, .int IstandMany, .ref Mtally, .ref MhasBox, .ref Mboxes], wI (cy 1) Mnow 42 (Gnow), wI (cy 1) Mcry 10 (Gcry)] hP9 hD9 hS9 (fun hP hD hS => ?_)
  clear hP9 hD9 hS9
  refine lv_iconst (v := 0) hx hb dX12_loadCry_13 (by decide) ?_
  refine lv_istore_n (lv' := [(2, .int 0), (0, .ref m0), (1, .int 1)]) hx hb dX12_loadCry_14 rfl hl (by decide) rfl (fun ls hl => ?_)
  have loop4 : ∀ (zn : Nat) (k4 : Nat) (fa1_4 : Nat → Int32), (rng fa1_4 10 7) → (k4 ≤ 10) → 10 - k4 + 1 ≤ zn → ∀ (H : Heap) (locs : List Loc), va_P D vwCl [wO m0 12 [.ref Mtape, .int (nI Itaped), .int (nI Ifault), .int IfaultPlace, .int (nI Iat), .int (nI Isize), .int Isort, .int Iplace, .int Inumber, .long Iword, .ref MnName, .ref MnStep, .ref MnArg, .ref MnMany, .ref Mstep, .ref Marg, .ref Mmany, .ref Mopen, .ref Mvalues, .ref MnHasForm, .ref MhasForm, .int (nI Iform), .int (nI Iopens), .int (nI InUnits), .int Iunits, .int (nI IownUnits), .int (nI Ideep), .ref Masks, .ref MnLoud, .ref MnCliffAt, .ref MnSnow, .ref MnManAt, .ref MnVoice, .ref MnOn, .ref Mloud, .ref McliffAt, .ref MsnowTold, .ref MmanAt, .ref Mvoice, .ref Mon, .ref MnYes, .ref Myes, .int (nI InWords), .int (nI InCliffs), .int (nI InMen), .int (nI InStates), .int (nI InOns), .int InWind, .int InDraw, .int (nI Iwords), .int (nI Icliffs), .int (nI Imen), .int (nI Istates), .int Ions, .int IwindTold, .int InHasWind, .int InHasDraw, .ref Mnow, .ref Mcry, .ref Msnow, .ref Mecho, .int (nI j_3), .int IcallPlace, .int IcallVoice, .int Iwind, .int Ichance, .int (nI IechoMany), .ref Mwere, .int (nI Iacts), .int (nI Iundone), .ref Mlies, .int (nI Ilain), .ref Mspots, .ref Msteps, .ref MfromState, .ref MbyWord, .ref Mqueue, .ref MsoundCliff, .ref MsoundLong, .ref MsoundCame, .ref MsoundTold, .ref MsoundUntold, .int (nI Isounds), .int Itime, .ref Mstands, .int IstandMany, .ref Mtally, .ref MhasBox, .ref Mboxes], wI (cy 1) Mnow 42 (Gnow), wI (cy 1) Mcry 10 (fa1_4)] H → va_D A [wO m0 12 [.ref Mtape, .int (nI Itaped), .int (nI Ifault), .int IfaultPlace, .int (nI Iat), .int (nI Isize), .int Isort, .int Iplace, .int Inumber, .long Iword, .ref MnName, .ref MnStep, .ref MnArg, .ref MnMany, .ref Mstep, .ref Marg, .ref Mmany, .ref Mopen, .ref Mvalues, .ref MnHasForm, .ref MhasForm, .int (nI Iform), .int (nI Iopens), .int (nI InUnits), .int Iunits, .int (nI IownUnits), .int (nI Ideep), .ref Masks, .ref MnLoud, .ref MnCliffAt, .ref MnSnow, .ref MnManAt, .ref MnVoice, .ref MnOn, .ref Mloud, .ref McliffAt, .ref MsnowTold, .ref MmanAt, .ref Mvoice, .ref Mon, .ref MnYes, .ref Myes, .int (nI InWords), .int (nI InCliffs), .int (nI InMen), .int (nI InStates), .int (nI InOns), .int InWind, .int InDraw, .int (nI Iwords), .int (nI Icliffs), .int (nI Imen), .int (nI Istates), .int Ions, .int IwindTold, .int InHasWind, .int InHasDraw, .ref Mnow, .ref Mcry, .ref Msnow, .ref Mecho, .int (nI j_3), .int IcallPlace, .int IcallVoice, .int Iwind, .int Ichance, .int (nI IechoMany), .ref Mwere, .int (nI Iacts), .int (nI Iundone), .ref Mlies, .int (nI Ilain), .ref Mspots, .ref Msteps, .ref MfromState, .ref MbyWord, .ref Mqueue, .ref MsoundCliff, .ref MsoundLong, .ref MsoundCame, .ref MsoundTold, .ref MsoundUntold, .int (nI Isounds), .int Itime, .ref Mstands, .int IstandMany, .ref Mtally, .ref MhasBox, .ref Mboxes], wI (cy 1) Mnow 42 (Gnow), wI (cy 1) Mcry 10 (fa1_4)] → va_S A s.heap H locs → ∀ ls : Array Slot, lv_has ls 3 [(2, .int (nI k4)), (0, .ref m0), (1, .int 1)] → W p l e (rmk 0 0 0) s m args below meth c H locs 0 0 Q (F0 m 15 ls []) := by
    try clear hP hD hS
    intro zn
    induction zn with
    | zero => intro k4 fa1_4 _ _ hz; exact absurd hz (by omega)
    | succ zn ih4 =>
      intro k4 fa1_4 ha2_4 hf0_4 hmu4 H locs hP hD hS ls hl
      refine lv_iload_n hx hb dX12_loadCry_15 rfl (lv_at hl 0 rfl) ?_
      refine lv_aload_n hx hb dX12_loadCry_16 rfl (lv_at hl 1 rfl) ?_
      refine va_get (D := D) (ci := 12) (v := .int (nI j_3)) (C := RX12) (T := TX12) (N := 89) hx hb hg i_X12 hown hK hP 0 rfl rfl 61 (by decide) (hg _ m_1474) (fun _ h9 => h9) rfl dX12_loadCry_17 ?_
      refine lv_icmp_ge (tgt := 46) hx hb dX12_loadCry_20 (by decide) (fun c_5 => ?_) (fun c_5 => ?_)
      · have q_6 : j_3 ≤ k4 := q_le (a := j_3) (b := k4) rfl rfl (by omega) (by omega) c_5
        exact x_vret hQ hx hb hr hlocks hK hP hD hS dX12_loadCry_46 (fa1_4, j_3) (⟨(show j_3 ≤ 10 from by first | assumption | omega), ha2_4, (show Gnow (21 : Int32).toNatClampNeg = nI j_3 from ej_3)⟩) [0, 1, 2] (by decide +kernel) rfl (Nat.le_of_ble_eq_true rfl) (Nat.le_of_ble_eq_true rfl)
      · have q_6 : k4 < j_3 := q_nle (a := j_3) (b := k4) rfl rfl (by omega) (by omega) c_5
        refine lv_aload_n hx hb dX12_loadCry_23 rfl (lv_at hl 1 rfl) ?_
        refine va_get (D := D) (ci := 12) (v := .ref Mcry) (C := RX12) (T := TX12) (N := 89) hx hb hg i_X12 hown hK hP 0 rfl rfl 58 (by decide) (hg _ m_1471) (fun _ h9 => h9) rfl dX12_loadCry_24 ?_
        refine lv_iload_n hx hb dX12_loadCry_27 rfl (lv_at hl 0 rfl) ?_
        refine lv_aload_n hx hb dX12_loadCry_28 rfl (lv_at hl 1 rfl) ?_
        refine va_get (D := D) (ci := 12) (v := .ref Mnow) (C := RX12) (T := TX12) (N := 89) hx hb hg i_X12 hown hK hP 0 rfl rfl 57 (by decide) (hg _ m_1470) (fun _ h9 => h9) rfl dX12_loadCry_29 ?_
        refine lv_bipush (v := 10) hx hb dX12_loadCry_32 (by decide) ?_
        refine lv_iload_n hx hb dX12_loadCry_34 rfl (lv_at hl 2 rfl) ?_
        refine lv_imul hx hb dX12_loadCry_35 ?_
        refine lv_topi (fun y_7 hy_7 => ?_)
        obtain rfl : y_7 = 10 := hy_7.trans (by decide +kernel)
        refine lv_iload_n hx hb dX12_loadCry_36 rfl (lv_at hl 0 rfl) ?_
        refine lv_iadd hx hb dX12_loadCry_37 ?_
        refine lv_topi (fun y_8 hy_8 => ?_)
        obtain rfl : y_8 = nI (10 + k4) := hy_8.trans (nI_add 10 k4)
        refine va_iald hx hb hK hP 1 1 rfl rfl (vp_in_nI (by omega) (by decide)) dX12_loadCry_38 ?_
        obtain ⟨j_10, hj_10, ej_10⟩ := wR_word gnow (z := nI (10 + k4)) (T := (10 + k4)) (nI_clamp (by omega)) (by omega) (by omega)
        refine lv_topi (fun y_9 hy_9 => ?_)
        obtain rfl : y_9 = nI j_10 := hy_9.trans ej_10
        refine va_iast hx hb hK hP hD hS 2 1 rfl rfl (vp_in_nI (by omega) (by decide)) dX12_loadCry_39 (fun H locs hP9 hD9 hS9 => ?_)
        clear hP hD hS
        have hP := hP9
        have hD := hD9
        have hS := hS9
        clear hP9 hD9 hS9
        obtain ⟨g_11, eg_11⟩ : ∃ y, upd fa1_4 (nI k4 : Int32).toNatClampNeg (nI j_10) = y := ⟨_, rfl⟩
        rw [eg_11] at hP hD
        have hr_12 : rng g_11 10 7 := eg_11 ▸ rng_put ha2_4 (j := j_10) (by omega)
        replace hP : va_P D vwCl [wO m0 12 [.ref Mtape, .int (nI Itaped), .int (nI Ifault), .int IfaultPlace, .int (nI Iat), .int (nI Isize), .int Isort, .int Iplace, .int Inumber, .long Iword, .ref MnName, .ref MnStep, .ref MnArg, .ref MnMany, .ref Mstep, .ref Marg, .ref Mmany, .ref Mopen, .ref Mvalues, .ref MnHasForm, .ref MhasForm, .int (nI Iform), .int (nI Iopens), .int (nI InUnits), .int Iunits, .int (nI IownUnits), .int (nI Ideep), .ref Masks, .ref MnLoud, .ref MnCliffAt, .ref MnSnow, .ref MnManAt, .ref MnVoice, .ref MnOn, .ref Mloud, .ref McliffAt, .ref MsnowTold, .ref MmanAt, .ref Mvoice, .ref Mon, .ref MnYes, .ref Myes, .int (nI InWords), .int (nI InCliffs), .int (nI InMen), .int (nI InStates), .int (nI InOns), .int InWind, .int InDraw, .int (nI Iwords), .int (nI Icliffs), .int (nI Imen), .int (nI Istates), .int Ions, .int IwindTold, .int InHasWind, .int InHasDraw, .ref Mnow, .ref Mcry, .ref Msnow, .ref Mecho, .int (nI j_3), .int IcallPlace, .int IcallVoice, .int Iwind, .int Ichance, .int (nI IechoMany), .ref Mwere, .int (nI Iacts), .int (nI Iundone), .ref Mlies, .int (nI Ilain), .ref Mspots, .ref Msteps, .ref MfromState, .ref MbyWord, .ref Mqueue, .ref MsoundCliff, .ref MsoundLong, .ref MsoundCame, .ref MsoundTold, .ref MsoundUntold, .int (nI Isounds), .int Itime, .ref Mstands, .int IstandMany, .ref Mtally, .ref MhasBox, .ref Mboxes], wI (cy 1) Mnow 42 (Gnow), wI (cy 1) Mcry 10 (g_11)] H := hP
        replace hD : va_D A [wO m0 12 [.ref Mtape, .int (nI Itaped), .int (nI Ifault), .int IfaultPlace, .int (nI Iat), .int (nI Isize), .int Isort, .int Iplace, .int Inumber, .long Iword, .ref MnName, .ref MnStep, .ref MnArg, .ref MnMany, .ref Mstep, .ref Marg, .ref Mmany, .ref Mopen, .ref Mvalues, .ref MnHasForm, .ref MhasForm, .int (nI Iform), .int (nI Iopens), .int (nI InUnits), .int Iunits, .int (nI IownUnits), .int (nI Ideep), .ref Masks, .ref MnLoud, .ref MnCliffAt, .ref MnSnow, .ref MnManAt, .ref MnVoice, .ref MnOn, .ref Mloud, .ref McliffAt, .ref MsnowTold, .ref MmanAt, .ref Mvoice, .ref Mon, .ref MnYes, .ref Myes, .int (nI InWords), .int (nI InCliffs), .int (nI InMen), .int (nI InStates), .int (nI InOns), .int InWind, .int InDraw, .int (nI Iwords), .int (nI Icliffs), .int (nI Imen), .int (nI Istates), .int Ions, .int IwindTold, .int InHasWind, .int InHasDraw, .ref Mnow, .ref Mcry, .ref Msnow, .ref Mecho, .int (nI j_3), .int IcallPlace, .int IcallVoice, .int Iwind, .int Ichance, .int (nI IechoMany), .ref Mwere, .int (nI Iacts), .int (nI Iundone), .ref Mlies, .int (nI Ilain), .ref Mspots, .ref Msteps, .ref MfromState, .ref MbyWord, .ref Mqueue, .ref MsoundCliff, .ref MsoundLong, .ref MsoundCame, .ref MsoundTold, .ref MsoundUntold, .int (nI Isounds), .int Itime, .ref Mstands, .int IstandMany, .ref Mtally, .ref MhasBox, .ref Mboxes], wI (cy 1) Mnow 42 (Gnow), wI (cy 1) Mcry 10 (g_11)] := hD
        refine lv_iinc (v := nI (k4 + 1)) (lv' := [(2, .int (nI (k4 + 1))), (0, .ref m0), (1, .int 1)]) hx hb dX12_loadCry_40 hl (k := 0) rfl (nI_add k4 1) (by decide) rfl (fun ls hl => ?_)
        refine lv_goto (tgt := 15) hx hb dX12_loadCry_43 (by decide) ?_
        exact ih4  ((k4 + 1)) g_11 hr_12 (by first | assumption | omega) (by omega) _ _ (hP.sub [0, 1, 2] rfl) (hD.sub [0, 1, 2] (by decide +kernel) rfl) hS ls (lv_sub hl [0, 1, 2] rfl)
  exact loop4 _ 0 Gcry gcry (by first | assumption | omega) (Nat.le_refl _) _ _ (hP.sub [0, 1, 2] rfl) (hD.sub [0, 1, 2] (by decide +kernel) rfl) hS ls (lv_sub hl [0, 1, 2] rfl)
theorem gdX12_loadMan_0 : decode cX12_loadMan 0 = .ok (.aload_n 0, 1) ∧ decode cX12_loadMan 1 = .ok (.aload_n 0, 1) ∧ decode cX12_loadMan 2 = .ok (.getfield 82, 3) ∧ decode cX12_loadMan 5 = .ok (.iload_n 1, 1) ∧ decode cX12_loadMan 6 = .ok (.iaload, 1) ∧ decode cX12_loadMan 7 = .ok (.putfield 449, 3) ∧ decode cX12_loadMan 10 = .ok (.aload_n 0, 1) ∧ decode cX12_loadMan 11 = .ok (.aload_n 0, 1) ∧ decode cX12_loadMan 12 = .ok (.getfield 85, 3) ∧ decode cX12_loadMan 15 = .ok (.iload_n 1, 1) ∧ decode cX12_loadMan 16 = .ok (.iaload, 1) ∧ decode cX12_loadMan 17 = .ok (.putfield 452, 3) := by decide +kernel
theorem dX12_loadMan_0 : decode cX12_loadMan 0 = .ok (.aload_n 0, 1) := gdX12_loadMan_0.1
theorem dX12_loadMan_1 : decode cX12_loadMan 1 = .ok (.aload_n 0, 1) := gdX12_loadMan_0.2.1
theorem dX12_loadMan_2 : decode cX12_loadMan 2 = .ok (.getfield 82, 3) := gdX12_loadMan_0.2.2.1
theorem dX12_loadMan_5 : decode cX12_loadMan 5 = .ok (.iload_n 1, 1) := gdX12_loadMan_0.2.2.2.1
theorem dX12_loadMan_6 : decode cX12_loadMan 6 = .ok (.iaload, 1) := gdX12_loadMan_0.2.2.2.2.1
theorem dX12_loadMan_7 : decode cX12_loadMan 7 = .ok (.putfield 449, 3) := gdX12_loadMan_0.2.2.2.2.2.1
theorem dX12_loadMan_10 : decode cX12_loadMan 10 = .ok (.aload_n 0, 1) := gdX12_loadMan_0.2.2.2.2.2.2.1
theorem dX12_loadMan_11 : decode cX12_loadMan 11 = .ok (.aload_n 0, 1) := gdX12_loadMan_0.2.2.2.2.2.2.2.1
theorem dX12_loadMan_12 : decode cX12_loadMan 12 = .ok (.getfield 85, 3) := gdX12_loadMan_0.2.2.2.2.2.2.2.2.1
theorem dX12_loadMan_15 : decode cX12_loadMan 15 = .ok (.iload_n 1, 1) := gdX12_loadMan_0.2.2.2.2.2.2.2.2.2.1
theorem dX12_loadMan_16 : decode cX12_loadMan 16 = .ok (.iaload, 1) := gdX12_loadMan_0.2.2.2.2.2.2.2.2.2.2.1
theorem dX12_loadMan_17 : decode cX12_loadMan 17 = .ok (.putfield 452, 3) := gdX12_loadMan_0.2.2.2.2.2.2.2.2.2.2.2
theorem dX12_loadMan_20 : decode cX12_loadMan 20 = .ok (.return_, 1) := by decide +kernel
set_option maxHeartbeats 1000000 in
set_option maxRecDepth 100000 in
theorem r_loadMan (l : Launch) (D : va_G) (cy : Nat → ClassId) (m0 : Nat) (Mtape : Nat) (MnName : Nat) (MnStep : Nat) (MnArg : Nat) (MnMany : Nat) (Mstep : Nat) (Marg : Nat) (Mmany : Nat) (Mopen : Nat) (Mvalues : Nat) (MnHasForm : Nat) (MhasForm : Nat) (Masks : Nat) (MnLoud : Nat) (MnCliffAt : Nat) (MnSnow : Nat) (MnManAt : Nat) (MnVoice : Nat) (MnOn : Nat) (Mloud : Nat) (McliffAt : Nat) (MsnowTold : Nat) (MmanAt : Nat) (Mvoice : Nat) (Mon : Nat) (MnYes : Nat) (Myes : Nat) (Mnow : Nat) (Mcry : Nat) (Msnow : Nat) (Mecho : Nat) (Mwere : Nat) (Mlies : Nat) (Mspots : Nat) (Msteps : Nat) (MfromState : Nat) (MbyWord : Nat) (Mqueue : Nat) (MsoundCliff : Nat) (MsoundLong : Nat) (MsoundCame : Nat) (MsoundTold : Nat) (MsoundUntold : Nat) (Mstands : Nat) (Mtally : Nat) (MhasBox : Nat) (Mboxes : Nat) (Itaped : Nat) (Ifault : Nat) (IfaultPlace : Int32) (Iat : Nat) (Isize : Nat) (Isort : Int32) (Iplace : Int32) (Inumber : Int32) (Iword : Int64) (Iform : Nat) (Iopens : Nat) (InUnits : Nat) (Iunits : Int32) (IownUnits : Nat) (Ideep : Nat) (GmanAt : Nat → Int32) (Gvoice : Nat → Int32) (InWords : Nat) (InCliffs : Nat) (InMen : Nat) (InStates : Nat) (InOns : Nat) (InWind : Int32) (InDraw : Int32) (Iwords : Nat) (Icliffs : Nat) (Imen : Nat) (Istates : Nat) (Ions : Int32) (IwindTold : Int32) (InHasWind : Int32) (InHasDraw : Int32) (IcryMany : Nat) (IcallPlace : Int32) (IcallVoice : Int32) (Iwind : Int32) (Ichance : Int32) (IechoMany : Nat) (Iacts : Nat) (Iundone : Nat) (Ilain : Nat) (Isounds : Nat) (Itime : Int32) (IstandMany : Int32) (j : Nat) (gtp : Itaped ≤ 1600) (gat : Iat ≤ Isize) (gsz : Isize ≤ 1600) (gfl : Ifault ≤ 5) (gfo : Iform ≤ 2) (gnw : InWords ≤ 8) (gnc : InCliffs ≤ 4) (gnm : InMen ≤ 4) (gns : InStates ≤ 6) (gw : Iwords ≤ 8) (gc9 : Icliffs ≤ 4) (gm : Imen ≤ 4) (gs : Istates ≤ 6) (gcm : IcryMany ≤ 10) (gem : IechoMany ≤ 20) (gau : Iacts + Iundone ≤ 40) (gla : Ilain ≤ 20) (gso : Isounds ≤ 30) (gop : Iopens ≤ 40) (gde : Ideep ≤ 8) (gou : IownUnits ≤ 31) (gnu : InUnits ≤ 61) (gno : InOns ≤ 30) (hj : j < 4) : XMv l D (tyL cy) E0 yX12_loadMan cX12_loadMan 2 none (rmk 0 0 0) [.ref m0, .int (nI j)] [wO m0 12 [.ref Mtape, .int (nI Itaped), .int (nI Ifault), .int IfaultPlace, .int (nI Iat), .int (nI Isize), .int Isort, .int Iplace, .int Inumber, .long Iword, .ref MnName, .ref MnStep, .ref MnArg, .ref MnMany, .ref Mstep, .ref Marg, .ref Mmany, .ref Mopen, .ref Mvalues, .ref MnHasForm, .ref MhasForm, .int (nI Iform), .int (nI Iopens), .int (nI InUnits), .int Iunits, .int (nI IownUnits), .int (nI Ideep), .ref Masks, .ref MnLoud, .ref MnCliffAt, .ref MnSnow, .ref MnManAt, .ref MnVoice, .ref MnOn, .ref Mloud, .ref McliffAt, .ref MsnowTold, .ref MmanAt, .ref Mvoice, .ref Mon, .ref MnYes, .ref Myes, .int (nI InWords), .int (nI InCliffs), .int (nI InMen), .int (nI InStates), .int (nI InOns), .int InWind, .int InDraw, .int (nI Iwords), .int (nI Icliffs), .int (nI Imen), .int (nI Istates), .int Ions, .int IwindTold, .int InHasWind, .int InHasDraw, .ref Mnow, .ref Mcry, .ref Msnow, .ref Mecho, .int (nI IcryMany), .int IcallPlace, .int IcallVoice, .int Iwind, .int Ichance, .int (nI IechoMany), .ref Mwere, .int (nI Iacts), .int (nI Iundone), .ref Mlies, .int (nI Ilain), .ref Mspots, .ref Msteps, .ref MfromState, .ref MbyWord, .ref Mqueue, .ref MsoundCliff, .ref MsoundLong, .ref MsoundCame, .ref MsoundTold, .ref MsoundUntold, .int (nI Isounds), .int Itime, .ref Mstands, .int IstandMany, .ref Mtally, .ref MhasBox, .ref Mboxes], wI (cy 1) MmanAt 4 (GmanAt), wI (cy 1) Mvoice 4 (Gvoice)] (fun (u : Int32 × Int32) => True) (fun (u : Int32 × Int32) => [wO m0 12 [.ref Mtape, .int (nI Itaped), .int (nI Ifault), .int IfaultPlace, .int (nI Iat), .int (nI Isize), .int Isort, .int Iplace, .int Inumber, .long Iword, .ref MnName, .ref MnStep, .ref MnArg, .ref MnMany, .ref Mstep, .ref Marg, .ref Mmany, .ref Mopen, .ref Mvalues, .ref MnHasForm, .ref MhasForm, .int (nI Iform), .int (nI Iopens), .int (nI InUnits), .int Iunits, .int (nI IownUnits), .int (nI Ideep), .ref Masks, .ref MnLoud, .ref MnCliffAt, .ref MnSnow, .ref MnManAt, .ref MnVoice, .ref MnOn, .ref Mloud, .ref McliffAt, .ref MsnowTold, .ref MmanAt, .ref Mvoice, .ref Mon, .ref MnYes, .ref Myes, .int (nI InWords), .int (nI InCliffs), .int (nI InMen), .int (nI InStates), .int (nI InOns), .int InWind, .int InDraw, .int (nI Iwords), .int (nI Icliffs), .int (nI Imen), .int (nI Istates), .int Ions, .int IwindTold, .int InHasWind, .int InHasDraw, .ref Mnow, .ref Mcry, .ref Msnow, .ref Mecho, .int (nI IcryMany), .int u.1, .int u.2, .int Iwind, .int Ichance, .int (nI IechoMany), .ref Mwere, .int (nI Iacts), .int (nI Iundone), .ref Mlies, .int (nI Ilain), .ref Mspots, .ref Msteps, .ref MfromState, .ref MbyWord, .ref Mqueue, .ref MsoundCliff, .ref MsoundLong, .ref MsoundCame, .ref MsoundTold, .ref MsoundUntold, .int (nI Isounds), .int Itime, .ref Mstands, .int IstandMany, .ref Mtally, .ref MhasBox, .ref Mboxes], wI (cy 1) MmanAt 4 (GmanAt), wI (cy 1) Mvoice 4 (Gvoice)]) := by
  refine XMv.start (by decide) (Nat.le_of_ble_eq_true rfl) ?_
  intro p e s m below meth c args A ls Q hat hQ
  obtain ⟨hx, hb, hr, hml, hown, hg, hlocks, hin, hK, hA, hP, hD, hS, hE, hl⟩ := hat
  have hown : s.vm.findClass RX12 = some m.cls := hown
  have hl : lv_has ls 2 [(0, .ref m0), (1, .int (nI j))] := hl
  refine lv_aload_n hx hb dX12_loadMan_0 rfl (lv_at hl 0 rfl) ?_
  refine lv_aload_n hx hb dX12_loadMan_1 rfl (lv_at hl 0 rfl) ?_
  refine va_get (D := D) (ci := 12) (v := .ref MmanAt) (C := RX12) (T := TX12) (N := 89) hx hb hg i_X12 hown hK hP 0 rfl rfl 37 (by decide) (hg _ m_1450) (fun _ h9 => h9) rfl dX12_loadMan_2 ?_
  refine lv_iload_n hx hb dX12_loadMan_5 rfl (lv_at hl 1 rfl) ?_
  refine va_iald hx hb hK hP 1 1 rfl rfl (vp_in_nI (by omega) (by decide)) dX12_loadMan_6 ?_
  refine lv_topi (fun x_1 ex_1 => ?_)
  refine va_put (D := D) (ci := 12) (v := .int x_1) (ty := .int) (C := RX12) (T := TX12) (N := 89) hx hb hg i_X12 tyX12 tyX12_ok nmX12 hown hK hP hD hS 0 rfl rfl 62 (by decide) (hg _ m_1475) (fun _ h9 => h9) rfl (by decide +kernel) rfl rfl (Nat.le_of_ble_eq_true rfl) dX12_loadMan_7 (fun H locs hP9 hD9 hS9 => ?_)
  clear hP hD hS
  refine reW [wO m0 12 [.ref Mtape, .int (nI Itaped), .int (nI Ifault), .int IfaultPlace, .int (nI Iat), .int (nI Isize), .int Isort, .int Iplace, .int Inumber, .long Iword, .ref MnName, .ref MnStep, .ref MnArg, .ref MnMany, .ref Mstep, .ref Marg, .ref Mmany, .ref Mopen, .ref Mvalues, .ref MnHasForm, .ref MhasForm, .int (nI Iform), .int (nI Iopens), .int (nI InUnits), .int Iunits, .int (nI IownUnits), .int (nI Ideep), .ref Masks, .ref MnLoud, .ref MnCliffAt, .ref MnSnow, .ref MnManAt, .ref MnVoice, .ref MnOn, .ref Mloud, .ref McliffAt, .ref MsnowTold, .ref MmanAt, .ref Mvoice, .ref Mon, .ref MnYes, .ref Myes, .int (nI InWords), .int (nI InCliffs), .int (nI InMen), .int (nI InStates), .int (nI InOns), .int InWind, .int InDraw, .int (nI Iwords), .int (nI Icliffs), .int (nI Imen), .int (nI Istates), .int Ions, .int IwindTold, .int InHasWind, .int InHasDraw, .ref Mnow, .ref Mcry, .ref Msnow, .ref Mecho, .int (nI IcryMany), .int x_1, .int IcallVoice, .int Iwind, .int Ichance, .int (nI IechoMany), .ref Mwere, .int (nI Iacts), .int (nI Iundone), .ref Mlies, .int (nI Ilain), .ref Mspots, .ref Msteps, .ref MfromState, .ref MbyWord, .ref Mqueue, .ref MsoundCliff, .ref MsoundLong, .ref MsoundCame, .ref MsoundTold, .ref MsoundUntold, .int (nI Isounds), .int Itime, .ref Mstands, .int IstandMany, .ref Mtally, .ref MhasBox, .ref Mboxes], wI (cy 1) MmanAt 4 (GmanAt), wI (cy 1) Mvoice 4 (Gvoice)] hP9 hD9 hS9 (fun hP hD hS => ?_)
  clear hP9 hD9 hS9
  refine lv_aload_n hx hb dX12_loadMan_10 rfl (lv_at hl 0 rfl) ?_
  refine lv_aload_n hx hb dX12_loadMan_11 rfl (lv_at hl 0 rfl) ?_
  refine va_get (D := D) (ci := 12) (v := .ref Mvoice) (C := RX12) (T := TX12) (N := 89) hx hb hg i_X12 hown hK hP 0 rfl rfl 38 (by decide) (hg _ m_1451) (fun _ h9 => h9) rfl dX12_loadMan_12 ?_
  refine lv_iload_n hx hb dX12_loadMan_15 rfl (lv_at hl 1 rfl) ?_
  refine va_iald hx hb hK hP 2 1 rfl rfl (vp_in_nI (by omega) (by decide)) dX12_loadMan_16 ?_
  refine lv_topi (fun x_2 ex_2 => ?_)
  refine va_put (D := D) (ci := 12) (v := .int x_2) (ty := .int) (C := RX12) (T := TX12) (N := 89) hx hb hg i_X12 tyX12 tyX12_ok nmX12 hown hK hP hD hS 0 rfl rfl 63 (by decide) (hg _ m_1476) (fun _ h9 => h9) rfl (by decide +kernel) rfl rfl (Nat.le_of_ble_eq_true rfl) dX12_loadMan_17 (fun H locs hP9 hD9 hS9 => ?_)
  clear hP hD hS
  refine reW [wO m0 12 [.ref Mtape, .int (nI Itaped), .int (nI Ifault), .int IfaultPlace, .int (nI Iat), .int (nI Isize), .int Isort, .int Iplace, .int Inumber, .long Iword, .ref MnName, .ref MnStep, .ref MnArg, .ref MnMany, .ref Mstep, .ref Marg, .ref Mmany, .ref Mopen, .ref Mvalues, .ref MnHasForm, .ref MhasForm, .int (nI Iform), .int (nI Iopens), .int (nI InUnits), .int Iunits, .int (nI IownUnits), .int (nI Ideep), .ref Masks, .ref MnLoud, .ref MnCliffAt, .ref MnSnow, .ref MnManAt, .ref MnVoice, .ref MnOn, .ref Mloud, .ref McliffAt, .ref MsnowTold, .ref MmanAt, .ref Mvoice, .ref Mon, .ref MnYes, .ref Myes, .int (nI InWords), .int (nI InCliffs), .int (nI InMen), .int (nI InStates), .int (nI InOns), .int InWind, .int InDraw, .int (nI Iwords), .int (nI Icliffs), .int (nI Imen), .int (nI Istates), .int Ions, .int IwindTold, .int InHasWind, .int InHasDraw, .ref Mnow, .ref Mcry, .ref Msnow, .ref Mecho, .int (nI IcryMany), .int x_1, .int x_2, .int Iwind, .int Ichance, .int (nI IechoMany), .ref Mwere, .int (nI Iacts), .int (nI Iundone), .ref Mlies, .int (nI Ilain), .ref Mspots, .ref Msteps, .ref MfromState, .ref MbyWord, .ref Mqueue, .ref MsoundCliff, .ref MsoundLong, .ref MsoundCame, .ref MsoundTold, .ref MsoundUntold, .int (nI Isounds), .int Itime, .ref Mstands, .int IstandMany, .ref Mtally, .ref MhasBox, .ref Mboxes], wI (cy 1) MmanAt 4 (GmanAt), wI (cy 1) Mvoice 4 (Gvoice)] hP9 hD9 hS9 (fun hP hD hS => ?_)
  clear hP9 hD9 hS9
  exact x_vret hQ hx hb hr hlocks hK hP hD hS dX12_loadMan_20 (x_1, x_2) (trivial) [0, 1, 2] (by decide +kernel) rfl (Nat.le_of_ble_eq_true rfl) (Nat.le_of_ble_eq_true rfl)
theorem dX12_load_0 : decode cX12_load 0 = .ok (.aload_n 0, 1) := by decide +kernel
theorem dX12_load_1 : decode cX12_load 1 = .ok (.invokevirtual 455, 3) := by decide +kernel
theorem k_X12_455 : xV RX12 RX12 455 yX12_loadSky cX12_loadSky 2 none 0 := ⟨⟨m_1928, m_1930, m_103, m_146, m_1931⟩, rfl, by decide, by decide, by decide +kernel⟩
theorem gdX12_load_4 : decode cX12_load 4 = .ok (.aload_n 0, 1) ∧ decode cX12_load 5 = .ok (.iconst 0, 1) ∧ decode cX12_load 6 = .ok (.invokevirtual 458, 3) := by decide +kernel
theorem dX12_load_4 : decode cX12_load 4 = .ok (.aload_n 0, 1) := gdX12_load_4.1
theorem dX12_load_5 : decode cX12_load 5 = .ok (.iconst 0, 1) := gdX12_load_4.2.1
theorem dX12_load_6 : decode cX12_load 6 = .ok (.invokevirtual 458, 3) := gdX12_load_4.2.2
theorem k_X12_458 : xV RX12 RX12 458 yX12_loadCry cX12_loadCry 3 none 1 := ⟨⟨m_1932, m_1934, m_104, m_146, m_1935⟩, rfl, by decide, by decide, by decide +kernel⟩
theorem gdX12_load_9 : decode cX12_load 9 = .ok (.aload_n 0, 1) ∧ decode cX12_load 10 = .ok (.iload_n 1, 1) ∧ decode cX12_load 11 = .ok (.invokevirtual 461, 3) := by decide +kernel
theorem dX12_load_9 : decode cX12_load 9 = .ok (.aload_n 0, 1) := gdX12_load_9.1
theorem dX12_load_10 : decode cX12_load 10 = .ok (.iload_n 1, 1) := gdX12_load_9.2.1
theorem dX12_load_11 : decode cX12_load 11 = .ok (.invokevirtual 461, 3) := gdX12_load_9.2.2
theorem k_X12_461 : xV RX12 RX12 461 yX12_loadMan cX12_loadMan 2 none 1 := ⟨⟨m_1936, m_1938, m_105, m_146, m_1939⟩, rfl, by decide, by decide, by decide +kernel⟩
theorem dX12_load_14 : decode cX12_load 14 = .ok (.return_, 1) := by decide +kernel
set_option maxHeartbeats 1000000 in
set_option maxRecDepth 100000 in
theorem r_load (l : Launch) (D : va_G) (cy : Nat → ClassId) (m0 : Nat) (Mtape : Nat) (MnName : Nat) (MnStep : Nat) (MnArg : Nat) (MnMany : Nat) (Mstep : Nat) (Marg : Nat) (Mmany : Nat) (Mopen : Nat) (Mvalues : Nat) (MnHasForm : Nat) (MhasForm : Nat) (Masks : Nat) (MnLoud : Nat) (MnCliffAt : Nat) (MnSnow : Nat) (MnManAt : Nat) (MnVoice : Nat) (MnOn : Nat) (Mloud : Nat) (McliffAt : Nat) (MsnowTold : Nat) (MmanAt : Nat) (Mvoice : Nat) (Mon : Nat) (MnYes : Nat) (Myes : Nat) (Mnow : Nat) (Mcry : Nat) (Msnow : Nat) (Mecho : Nat) (Mwere : Nat) (Mlies : Nat) (Mspots : Nat) (Msteps : Nat) (MfromState : Nat) (MbyWord : Nat) (Mqueue : Nat) (MsoundCliff : Nat) (MsoundLong : Nat) (MsoundCame : Nat) (MsoundTold : Nat) (MsoundUntold : Nat) (Mstands : Nat) (Mtally : Nat) (MhasBox : Nat) (Mboxes : Nat) (Itaped : Nat) (Ifault : Nat) (IfaultPlace : Int32) (Iat : Nat) (Isize : Nat) (Isort : Int32) (Iplace : Int32) (Inumber : Int32) (Iword : Int64) (Iform : Nat) (Iopens : Nat) (InUnits : Nat) (Iunits : Int32) (IownUnits : Nat) (Ideep : Nat) (GmanAt : Nat → Int32) (Gvoice : Nat → Int32) (InWords : Nat) (InCliffs : Nat) (InMen : Nat) (InStates : Nat) (InOns : Nat) (InWind : Int32) (InDraw : Int32) (Iwords : Nat) (Icliffs : Nat) (Imen : Nat) (Istates : Nat) (Ions : Int32) (IwindTold : Int32) (InHasWind : Int32) (InHasDraw : Int32) (Gnow : Nat → Int32) (Gcry : Nat → Int32) (Gsnow : Nat → Int32) (IcryMany : Nat) (IcallPlace : Int32) (IcallVoice : Int32) (Iwind : Int32) (Ichance : Int32) (IechoMany : Nat) (Iacts : Nat) (Iundone : Nat) (Ilain : Nat) (Isounds : Nat) (Itime : Int32) (IstandMany : Int32) (j : Nat) (gtp : Itaped ≤ 1600) (gat : Iat ≤ Isize) (gsz : Isize ≤ 1600) (gfl : Ifault ≤ 5) (gfo : Iform ≤ 2) (gnw : InWords ≤ 8) (gnc : InCliffs ≤ 4) (gnm : InMen ≤ 4) (gns : InStates ≤ 6) (gw : Iwords ≤ 8) (gc9 : Icliffs ≤ 4) (gm : Imen ≤ 4) (gs : Istates ≤ 6) (gcm : IcryMany ≤ 10) (gem : IechoMany ≤ 20) (gau : Iacts + Iundone ≤ 40) (gla : Ilain ≤ 20) (gso : Isounds ≤ 30) (gop : Iopens ≤ 40) (gde : Ideep ≤ 8) (gou : IownUnits ≤ 31) (gnu : InUnits ≤ 61) (gno : InOns ≤ 30) (gcry : rng Gcry 10 7) (gnow : wRows Gnow 1) (hj : j < 4) : XMv l D (tyL cy) E0 yX12_load cX12_load 2 none (rmk 1 0 0) [.ref m0, .int (nI j)] [wO m0 12 [.ref Mtape, .int (nI Itaped), .int (nI Ifault), .int IfaultPlace, .int (nI Iat), .int (nI Isize), .int Isort, .int Iplace, .int Inumber, .long Iword, .ref MnName, .ref MnStep, .ref MnArg, .ref MnMany, .ref Mstep, .ref Marg, .ref Mmany, .ref Mopen, .ref Mvalues, .ref MnHasForm, .ref MhasForm, .int (nI Iform), .int (nI Iopens), .int (nI InUnits), .int Iunits, .int (nI IownUnits), .int (nI Ideep), .ref Masks, .ref MnLoud, .ref MnCliffAt, .ref MnSnow, .ref MnManAt, .ref MnVoice, .ref MnOn, .ref Mloud, .ref McliffAt, .ref MsnowTold, .ref MmanAt, .ref Mvoice, .ref Mon, .ref MnYes, .ref Myes, .int (nI InWords), .int (nI InCliffs), .int (nI InMen), .int (nI InStates), .int (nI InOns), .int InWind, .int InDraw, .int (nI Iwords), .int (nI Icliffs), .int (nI Imen), .int (nI Istates), .int Ions, .int IwindTold, .int InHasWind, .int InHasDraw, .ref Mnow, .ref Mcry, .ref Msnow, .ref Mecho, .int (nI IcryMany), .int IcallPlace, .int IcallVoice, .int Iwind, .int Ichance, .int (nI IechoMany), .ref Mwere, .int (nI Iacts), .int (nI Iundone), .ref Mlies, .int (nI Ilain), .ref Mspots, .ref Msteps, .ref MfromState, .ref MbyWord, .ref Mqueue, .ref MsoundCliff, .ref MsoundLong, .ref MsoundCame, .ref MsoundTold, .ref MsoundUntold, .int (nI Isounds), .int Itime, .ref Mstands, .int IstandMany, .ref Mtally, .ref MhasBox, .ref Mboxes], wI (cy 1) Mnow 42 (Gnow), wI (cy 1) Msnow 4 (Gsnow), wI (cy 1) Mcry 10 (Gcry), wI (cy 1) MmanAt 4 (GmanAt), wI (cy 1) Mvoice 4 (Gvoice)] (fun (u : (Nat → Int32) × (Nat → Int32) × Nat × Int32 × Int32 × Int32 × Int32) => (u.2.2.1 ≤ 10) ∧ (rng u.1 10 7) ∧ (Gnow (20 : Int32).toNatClampNeg = nI u.2.2.1)) (fun (u : (Nat → Int32) × (Nat → Int32) × Nat × Int32 × Int32 × Int32 × Int32) => [wO m0 12 [.ref Mtape, .int (nI Itaped), .int (nI Ifault), .int IfaultPlace, .int (nI Iat), .int (nI Isize), .int Isort, .int Iplace, .int Inumber, .long Iword, .ref MnName, .ref MnStep, .ref MnArg, .ref MnMany, .ref Mstep, .ref Marg, .ref Mmany, .ref Mopen, .ref Mvalues, .ref MnHasForm, .ref MhasForm, .int (nI Iform), .int (nI Iopens), .int (nI InUnits), .int Iunits, .int (nI IownUnits), .int (nI Ideep), .ref Masks, .ref MnLoud, .ref MnCliffAt, .ref MnSnow, .ref MnManAt, .ref MnVoice, .ref MnOn, .ref Mloud, .ref McliffAt, .ref MsnowTold, .ref MmanAt, .ref Mvoice, .ref Mon, .ref MnYes, .ref Myes, .int (nI InWords), .int (nI InCliffs), .int (nI InMen), .int (nI InStates), .int (nI InOns), .int InWind, .int InDraw, .int (nI Iwords), .int (nI Icliffs), .int (nI Imen), .int (nI Istates), .int Ions, .int IwindTold, .int InHasWind, .int InHasDraw, .ref Mnow, .ref Mcry, .ref Msnow, .ref Mecho, .int (nI u.2.2.1), .int u.2.2.2.1, .int u.2.2.2.2.1, .int u.2.2.2.2.2.1, .int u.2.2.2.2.2.2, .int (nI IechoMany), .ref Mwere, .int (nI Iacts), .int (nI Iundone), .ref Mlies, .int (nI Ilain), .ref Mspots, .ref Msteps, .ref MfromState, .ref MbyWord, .ref Mqueue, .ref MsoundCliff, .ref MsoundLong, .ref MsoundCame, .ref MsoundTold, .ref MsoundUntold, .int (nI Isounds), .int Itime, .ref Mstands, .int IstandMany, .ref Mtally, .ref MhasBox, .ref Mboxes], wI (cy 1) Mnow 42 (Gnow), wI (cy 1) Msnow 4 (u.2.1), wI (cy 1) Mcry 10 (u.1), wI (cy 1) MmanAt 4 (GmanAt), wI (cy 1) Mvoice 4 (Gvoice)]) := by
  refine XMv.start (by decide) (Nat.le_of_ble_eq_true rfl) ?_
  intro p e s m below meth c args A ls Q hat hQ
  obtain ⟨hx, hb, hr, hml, hown, hg, hlocks, hin, hK, hA, hP, hD, hS, hE, hl⟩ := hat
  have hown : s.vm.findClass RX12 = some m.cls := hown
  have hl : lv_has ls 2 [(0, .ref m0), (1, .int (nI j))] := hl
  refine lv_aload_n hx hb dX12_load_0 rfl (lv_at hl 0 rfl) ?_
  refine x_callVv (q := (RX12, TX12, 89)) (ci := 12) (q0 := 0) (wr := [wI (cy 1) Mcry 10 (Gcry), wI (cy 1) MmanAt 4 (GmanAt), wI (cy 1) Mvoice 4 (Gvoice)]) (rest := []) ⟨hx, hb, hml, hown, hg, hl.1⟩ k_X12_455 (r_loadSky l D cy m0 Mtape MnName MnStep MnArg MnMany Mstep Marg Mmany Mopen Mvalues MnHasForm MhasForm Masks MnLoud MnCliffAt MnSnow MnManAt MnVoice MnOn Mloud McliffAt MsnowTold MmanAt Mvoice Mon MnYes Myes Mnow Mcry Msnow Mecho Mwere Mlies Mspots Msteps MfromState MbyWord Mqueue MsoundCliff MsoundLong MsoundCame MsoundTold MsoundUntold Mstands Mtally MhasBox Mboxes Itaped Ifault IfaultPlace Iat Isize Isort Iplace Inumber Iword Iform Iopens InUnits Iunits IownUnits Ideep InWords InCliffs InMen InStates InOns InWind InDraw Iwords Icliffs Imen Istates Ions IwindTold InHasWind InHasDraw Gnow Gsnow IcryMany IcallPlace IcallVoice Iwind Ichance IechoMany Iacts Iundone Ilain Isounds Itime IstandMany (by first | assumption | omega) (by first | assumption | omega) (by first | assumption | omega) (by first | assumption | omega) (by first | assumption | omega) (by first | assumption | omega) (by first | assumption | omega) (by first | assumption | omega) (by first | assumption | omega) (by first | assumption | omega) (by first | assumption | omega) (by first | assumption | omega) (by first | assumption | omega) (by first | assumption | omega) (by first | assumption | omega) (by first | assumption | omega) (by first | assumption | omega) (by first | assumption | omega) (by first | assumption | omega) (by first | assumption | omega) (by first | assumption | omega) (by first | assumption | omega) (by first | assumption | omega) (gnow)) E0_blind hK hP hD hS hA [0, 1, 2] [3, 4, 5] ⟨rfl, rfl, by decide +kernel, by decide +kernel, by decide +kernel⟩ rfl rfl (fun _ _ _ => trivial) dX12_load_1 rfl rfl (Nat.le_of_ble_eq_true rfl) ⟨Nat.le_of_ble_eq_true rfl, Nat.le_of_ble_eq_true rfl⟩ ⟨Nat.le_of_ble_eq_true rfl, Nat.le_of_ble_eq_true rfl⟩ (fun zu1 H locs hw1 hP9 hD9 hS9 => ?_)
  clear hP hD hS
  obtain ⟨Gsnow2_2, Iwind2_3, Ichance2_4⟩ := zu1
  refine reW [wI (cy 1) Mcry 10 (Gcry), wI (cy 1) MmanAt 4 (GmanAt), wI (cy 1) Mvoice 4 (Gvoice), wO m0 12 [.ref Mtape, .int (nI Itaped), .int (nI Ifault), .int IfaultPlace, .int (nI Iat), .int (nI Isize), .int Isort, .int Iplace, .int Inumber, .long Iword, .ref MnName, .ref MnStep, .ref MnArg, .ref MnMany, .ref Mstep, .ref Marg, .ref Mmany, .ref Mopen, .ref Mvalues, .ref MnHasForm, .ref MhasForm, .int (nI Iform), .int (nI Iopens), .int (nI InUnits), .int Iunits, .int (nI IownUnits), .int (nI Ideep), .ref Masks, .ref MnLoud, .ref MnCliffAt, .ref MnSnow, .ref MnManAt, .ref MnVoice, .ref MnOn, .ref Mloud, .ref McliffAt, .ref MsnowTold, .ref MmanAt, .ref Mvoice, .ref Mon, .ref MnYes, .ref Myes, .int (nI InWords), .int (nI InCliffs), .int (nI InMen), .int (nI InStates), .int (nI InOns), .int InWind, .int InDraw, .int (nI Iwords), .int (nI Icliffs), .int (nI Imen), .int (nI Istates), .int Ions, .int IwindTold, .int InHasWind, .int InHasDraw, .ref Mnow, .ref Mcry, .ref Msnow, .ref Mecho, .int (nI IcryMany), .int IcallPlace, .int IcallVoice, .int Iwind2_3, .int Ichance2_4, .int (nI IechoMany), .ref Mwere, .int (nI Iacts), .int (nI Iundone), .ref Mlies, .int (nI Ilain), .ref Mspots, .ref Msteps, .ref MfromState, .ref MbyWord, .ref Mqueue, .ref MsoundCliff, .ref MsoundLong, .ref MsoundCame, .ref MsoundTold, .ref MsoundUntold, .int (nI Isounds), .int Itime, .ref Mstands, .int IstandMany, .ref Mtally, .ref MhasBox, .ref Mboxes], wI (cy 1) Mnow 42 (Gnow), wI (cy 1) Msnow 4 (Gsnow2_2)] hP9 hD9 hS9 (fun hP hD hS => ?_)
  clear hP9 hD9 hS9
  refine W.widen (k := 0) (n := 0) (Nat.le_of_ble_eq_true rfl) (Nat.le_of_ble_eq_true rfl) ?_
  refine lv_aload_n hx hb dX12_load_4 rfl (lv_at hl 0 rfl) ?_
  refine lv_iconst (v := 0) hx hb dX12_load_5 (by decide) ?_
  refine x_callVv (q := (RX12, TX12, 89)) (ci := 12) (q0 := 0) (wr := [wI (cy 1) MmanAt 4 (GmanAt), wI (cy 1) Mvoice 4 (Gvoice), wI (cy 1) Msnow 4 (Gsnow2_2)]) (rest := []) ⟨hx, hb, hml, hown, hg, hl.1⟩ k_X12_458 (r_loadCry0 l D cy m0 Mtape MnName MnStep MnArg MnMany Mstep Marg Mmany Mopen Mvalues MnHasForm MhasForm Masks MnLoud MnCliffAt MnSnow MnManAt MnVoice MnOn Mloud McliffAt MsnowTold MmanAt Mvoice Mon MnYes Myes Mnow Mcry Msnow Mecho Mwere Mlies Mspots Msteps MfromState MbyWord Mqueue MsoundCliff MsoundLong MsoundCame MsoundTold MsoundUntold Mstands Mtally MhasBox Mboxes Itaped Ifault IfaultPlace Iat Isize Isort Iplace Inumber Iword Iform Iopens InUnits Iunits IownUnits Ideep InWords InCliffs InMen InStates InOns InWind InDraw Iwords Icliffs Imen Istates Ions IwindTold InHasWind InHasDraw Gnow Gcry IcryMany IcallPlace IcallVoice Iwind2_3 Ichance2_4 IechoMany Iacts Iundone Ilain Isounds Itime IstandMany (by first | assumption | omega) (by first | assumption | omega) (by first | assumption | omega) (by first | assumption | omega) (by first | assumption | omega) (by first | assumption | omega) (by first | assumption | omega) (by first | assumption | omega) (by first | assumption | omega) (by first | assumption | omega) (by first | assumption | omega) (by first | assumption | omega) (by first | assumption | omega) (by first | assumption | omega) (by first | assumption | omega) (by first | assumption | omega) (by first | assumption | omega) (by first | assumption | omega) (by first | assumption | omega) (by first | assumption | omega) (by first | assumption | omega) (by first | assumption | omega) (by first | assumption | omega) (gcry) (gnow)) E0_blind hK hP hD hS hA [3, 4, 0] [1, 2, 5] ⟨rfl, rfl, by decide +kernel, by decide +kernel, by decide +kernel⟩ rfl rfl (fun _ _ _ => trivial) dX12_load_6 rfl rfl (Nat.le_of_ble_eq_true rfl) ⟨Nat.le_of_ble_eq_true rfl, Nat.le_of_ble_eq_true rfl⟩ ⟨Nat.le_of_ble_eq_true rfl, Nat.le_of_ble_eq_true rfl⟩ (fun zu5 H locs hw5 hP9 hD9 hS9 => ?_)
  clear hP hD hS
  obtain ⟨Gcry2_6, IcryMany2_7⟩ := zu5
  refine reW [wI (cy 1) MmanAt 4 (GmanAt), wI (cy 1) Mvoice 4 (Gvoice), wI (cy 1) Msnow 4 (Gsnow2_2), wO m0 12 [.ref Mtape, .int (nI Itaped), .int (nI Ifault), .int IfaultPlace, .int (nI Iat), .int (nI Isize), .int Isort, .int Iplace, .int Inumber, .long Iword, .ref MnName, .ref MnStep, .ref MnArg, .ref MnMany, .ref Mstep, .ref Marg, .ref Mmany, .ref Mopen, .ref Mvalues, .ref MnHasForm, .ref MhasForm, .int (nI Iform), .int (nI Iopens), .int (nI InUnits), .int Iunits, .int (nI IownUnits), .int (nI Ideep), .ref Masks, .ref MnLoud, .ref MnCliffAt, .ref MnSnow, .ref MnManAt, .ref MnVoice, .ref MnOn, .ref Mloud, .ref McliffAt, .ref MsnowTold, .ref MmanAt, .ref Mvoice, .ref Mon, .ref MnYes, .ref Myes, .int (nI InWords), .int (nI InCliffs), .int (nI InMen), .int (nI InStates), .int (nI InOns), .int InWind, .int InDraw, .int (nI Iwords), .int (nI Icliffs), .int (nI Imen), .int (nI Istates), .int Ions, .int IwindTold, .int InHasWind, .int InHasDraw, .ref Mnow, .ref Mcry, .ref Msnow, .ref Mecho, .int (nI IcryMany2_7), .int IcallPlace, .int IcallVoice, .int Iwind2_3, .int Ichance2_4, .int (nI IechoMany), .ref Mwere, .int (nI Iacts), .int (nI Iundone), .ref Mlies, .int (nI Ilain), .ref Mspots, .ref Msteps, .ref MfromState, .ref MbyWord, .ref Mqueue, .ref MsoundCliff, .ref MsoundLong, .ref MsoundCame, .ref MsoundTold, .ref MsoundUntold, .int (nI Isounds), .int Itime, .ref Mstands, .int IstandMany, .ref Mtally, .ref MhasBox, .ref Mboxes], wI (cy 1) Mnow 42 (Gnow), wI (cy 1) Mcry 10 (Gcry2_6)] hP9 hD9 hS9 (fun hP hD hS => ?_)
  clear hP9 hD9 hS9
  refine W.widen (k := 0) (n := 0) (Nat.le_of_ble_eq_true rfl) (Nat.le_of_ble_eq_true rfl) ?_
  change (IcryMany2_7 ≤ 10) ∧ (rng Gcry2_6 10 7) ∧ (Gnow (20 : Int32).toNatClampNeg = nI IcryMany2_7) at hw5
  obtain ⟨f_8, f_9, f_10⟩ := hw5
  refine lv_aload_n hx hb dX12_load_9 rfl (lv_at hl 0 rfl) ?_
  refine lv_iload_n hx hb dX12_load_10 rfl (lv_at hl 1 rfl) ?_
  refine x_callVv (q := (RX12, TX12, 89)) (ci := 12) (q0 := 0) (wr := [wI (cy 1) Msnow 4 (Gsnow2_2), wI (cy 1) Mnow 42 (Gnow), wI (cy 1) Mcry 10 (Gcry2_6)]) (rest := []) ⟨hx, hb, hml, hown, hg, hl.1⟩ k_X12_461 (r_loadMan l D cy m0 Mtape MnName MnStep MnArg MnMany Mstep Marg Mmany Mopen Mvalues MnHasForm MhasForm Masks MnLoud MnCliffAt MnSnow MnManAt MnVoice MnOn Mloud McliffAt MsnowTold MmanAt Mvoice Mon MnYes Myes Mnow Mcry Msnow Mecho Mwere Mlies Mspots Msteps MfromState MbyWord Mqueue MsoundCliff MsoundLong MsoundCame MsoundTold MsoundUntold Mstands Mtally MhasBox Mboxes Itaped Ifault IfaultPlace Iat Isize Isort Iplace Inumber Iword Iform Iopens InUnits Iunits IownUnits Ideep GmanAt Gvoice InWords InCliffs InMen InStates InOns InWind InDraw Iwords Icliffs Imen Istates Ions IwindTold InHasWind InHasDraw IcryMany2_7 IcallPlace IcallVoice Iwind2_3 Ichance2_4 IechoMany Iacts Iundone Ilain Isounds Itime IstandMany j (by first | assumption | omega) (by first | assumption | omega) (by first | assumption | omega) (by first | assumption | omega) (by first | assumption | omega) (by first | assumption | omega) (by first | assumption | omega) (by first | assumption | omega) (by first | assumption | omega) (by first | assumption | omega) (by first | assumption | omega) (by first | assumption | omega) (by first | assumption | omega) (by first | assumption | omega) (by first | assumption | omega) (by first | assumption | omega) (by first | assumption | omega) (by first | assumption | omega) (by first | assumption | omega) (by first | assumption | omega) (by first | assumption | omega) (by first | assumption | omega) (by first | assumption | omega) (by first | assumption | omega)) E0_blind hK hP hD hS hA [3, 0, 1] [2, 4, 5] ⟨rfl, rfl, by decide +kernel, by decide +kernel, by decide +kernel⟩ rfl rfl (fun _ _ _ => trivial) dX12_load_11 rfl rfl (Nat.le_of_ble_eq_true rfl) ⟨Nat.le_of_ble_eq_true rfl, Nat.le_of_ble_eq_true rfl⟩ ⟨Nat.le_of_ble_eq_true rfl, Nat.le_of_ble_eq_true rfl⟩ (fun zu11 H locs hw11 hP9 hD9 hS9 => ?_)
  clear hP hD hS
  obtain ⟨IcallPlace2_12, IcallVoice2_13⟩ := zu11
  refine reW [wI (cy 1) Msnow 4 (Gsnow2_2), wI (cy 1) Mnow 42 (Gnow), wI (cy 1) Mcry 10 (Gcry2_6), wO m0 12 [.ref Mtape, .int (nI Itaped), .int (nI Ifault), .int IfaultPlace, .int (nI Iat), .int (nI Isize), .int Isort, .int Iplace, .int Inumber, .long Iword, .ref MnName, .ref MnStep, .ref MnArg, .ref MnMany, .ref Mstep, .ref Marg, .ref Mmany, .ref Mopen, .ref Mvalues, .ref MnHasForm, .ref MhasForm, .int (nI Iform), .int (nI Iopens), .int (nI InUnits), .int Iunits, .int (nI IownUnits), .int (nI Ideep), .ref Masks, .ref MnLoud, .ref MnCliffAt, .ref MnSnow, .ref MnManAt, .ref MnVoice, .ref MnOn, .ref Mloud, .ref McliffAt, .ref MsnowTold, .ref MmanAt, .ref Mvoice, .ref Mon, .ref MnYes, .ref Myes, .int (nI InWords), .int (nI InCliffs), .int (nI InMen), .int (nI InStates), .int (nI InOns), .int InWind, .int InDraw, .int (nI Iwords), .int (nI Icliffs), .int (nI Imen), .int (nI Istates), .int Ions, .int IwindTold, .int InHasWind, .int InHasDraw, .ref Mnow, .ref Mcry, .ref Msnow, .ref Mecho, .int (nI IcryMany2_7), .int IcallPlace2_12, .int IcallVoice2_13, .int Iwind2_3, .int Ichance2_4, .int (nI IechoMany), .ref Mwere, .int (nI Iacts), .int (nI Iundone), .ref Mlies, .int (nI Ilain), .ref Mspots, .ref Msteps, .ref MfromState, .ref MbyWord, .ref Mqueue, .ref MsoundCliff, .ref MsoundLong, .ref MsoundCame, .ref MsoundTold, .ref MsoundUntold, .int (nI Isounds), .int Itime, .ref Mstands, .int IstandMany, .ref Mtally, .ref MhasBox, .ref Mboxes], wI (cy 1) MmanAt 4 (GmanAt), wI (cy 1) Mvoice 4 (Gvoice)] hP9 hD9 hS9 (fun hP hD hS => ?_)
  clear hP9 hD9 hS9
  refine W.widen (k := 0) (n := 0) (Nat.le_of_ble_eq_true rfl) (Nat.le_of_ble_eq_true rfl) ?_
  exact x_vret hQ hx hb hr hlocks hK hP hD hS dX12_load_14 (Gcry2_6, Gsnow2_2, IcryMany2_7, IcallPlace2_12, IcallVoice2_13, Iwind2_3, Ichance2_4) (⟨(show IcryMany2_7 ≤ 10 from by first | assumption | omega), f_9, (show Gnow (20 : Int32).toNatClampNeg = nI IcryMany2_7 from f_10)⟩) [3, 1, 0, 2, 4, 5] (by decide +kernel) rfl (Nat.le_of_ble_eq_true rfl) (Nat.le_of_ble_eq_true rfl)
theorem gdX12_farOf_0 : decode cX12_farOf 0 = .ok (.aload_n 0, 1) ∧ decode cX12_farOf 1 = .ok (.getfield 449, 3) ∧ decode cX12_farOf 4 = .ok (.aload_n 0, 1) ∧ decode cX12_farOf 5 = .ok (.getfield 76, 3) ∧ decode cX12_farOf 8 = .ok (.iload_n 1, 1) ∧ decode cX12_farOf 9 = .ok (.iaload, 1) ∧ decode cX12_farOf 10 = .ok (.invokestatic 464, 3) := by decide +kernel
theorem dX12_farOf_0 : decode cX12_farOf 0 = .ok (.aload_n 0, 1) := gdX12_farOf_0.1
theorem dX12_farOf_1 : decode cX12_farOf 1 = .ok (.getfield 449, 3) := gdX12_farOf_0.2.1
theorem dX12_farOf_4 : decode cX12_farOf 4 = .ok (.aload_n 0, 1) := gdX12_farOf_0.2.2.1
theorem dX12_farOf_5 : decode cX12_farOf 5 = .ok (.getfield 76, 3) := gdX12_farOf_0.2.2.2.1
theorem dX12_farOf_8 : decode cX12_farOf 8 = .ok (.iload_n 1, 1) := gdX12_farOf_0.2.2.2.2.1
theorem dX12_farOf_9 : decode cX12_farOf 9 = .ok (.iaload, 1) := gdX12_farOf_0.2.2.2.2.2.1
theorem dX12_farOf_10 : decode cX12_farOf 10 = .ok (.invokestatic 464, 3) := gdX12_farOf_0.2.2.2.2.2.2
theorem k_X12_464 : xS RX12 464 yX12_off cX12_off 2 (some .int) 2 := ⟨⟨m_1960, m_1961, m_146, m_1962⟩, by decide, by decide, by decide +kernel⟩
theorem dX12_farOf_13 : decode cX12_farOf 13 = .ok (.ireturn, 1) := by decide +kernel
set_option maxHeartbeats 1000000 in
set_option maxRecDepth 100000 in
theorem r_farOf (l : Launch) (D : va_G) (cy : Nat → ClassId) (m0 : Nat) (Mtape : Nat) (MnName : Nat) (MnStep : Nat) (MnArg : Nat) (MnMany : Nat) (Mstep : Nat) (Marg : Nat) (Mmany : Nat) (Mopen : Nat) (Mvalues : Nat) (MnHasForm : Nat) (MhasForm : Nat) (Masks : Nat) (MnLoud : Nat) (MnCliffAt : Nat) (MnSnow : Nat) (MnManAt : Nat) (MnVoice : Nat) (MnOn : Nat) (Mloud : Nat) (McliffAt : Nat) (MsnowTold : Nat) (MmanAt : Nat) (Mvoice : Nat) (Mon : Nat) (MnYes : Nat) (Myes : Nat) (Mnow : Nat) (Mcry : Nat) (Msnow : Nat) (Mecho : Nat) (Mwere : Nat) (Mlies : Nat) (Mspots : Nat) (Msteps : Nat) (MfromState : Nat) (MbyWord : Nat) (Mqueue : Nat) (MsoundCliff : Nat) (MsoundLong : Nat) (MsoundCame : Nat) (MsoundTold : Nat) (MsoundUntold : Nat) (Mstands : Nat) (Mtally : Nat) (MhasBox : Nat) (Mboxes : Nat) (Itaped : Nat) (Ifault : Nat) (IfaultPlace : Int32) (Iat : Nat) (Isize : Nat) (Isort : Int32) (Iplace : Int32) (Inumber : Int32) (Iword : Int64) (Iform : Nat) (Iopens : Nat) (InUnits : Nat) (Iunits : Int32) (IownUnits : Nat) (Ideep : Nat) (GcliffAt : Nat → Int32) (InWords : Nat) (InCliffs : Nat) (InMen : Nat) (InStates : Nat) (InOns : Nat) (InWind : Int32) (InDraw : Int32) (Iwords : Nat) (Icliffs : Nat) (Imen : Nat) (Istates : Nat) (Ions : Int32) (IwindTold : Int32) (InHasWind : Int32) (InHasDraw : Int32) (IcryMany : Nat) (IcallPlace : Int32) (IcallVoice : Int32) (Iwind : Int32) (Ichance : Int32) (IechoMany : Nat) (Iacts : Nat) (Iundone : Nat) (Ilain : Nat) (Isounds : Nat) (Itime : Int32) (IstandMany : Int32) (j : Nat) (gtp : Itaped ≤ 1600) (gat : Iat ≤ Isize) (gsz : Isize ≤ 1600) (gfl : Ifault ≤ 5) (gfo : Iform ≤ 2) (gnw : InWords ≤ 8) (gnc : InCliffs ≤ 4) (gnm : InMen ≤ 4) (gns : InStates ≤ 6) (gw : Iwords ≤ 8) (gc9 : Icliffs ≤ 4) (gm : Imen ≤ 4) (gs : Istates ≤ 6) (gcm : IcryMany ≤ 10) (gem : IechoMany ≤ 20) (gau : Iacts + Iundone ≤ 40) (gla : Ilain ≤ 20) (gso : Isounds ≤ 30) (gop : Iopens ≤ 40) (gde : Ideep ≤ 8) (gou : IownUnits ≤ 31) (gnu : InUnits ≤ 61) (gno : InOns ≤ 30) (hj : j < 4) : XMi l D (tyL cy) E0 yX12_farOf cX12_farOf 2 (some .int) (rmk 1 0 0) [.ref m0, .int (nI j)] [wO m0 12 [.ref Mtape, .int (nI Itaped), .int (nI Ifault), .int IfaultPlace, .int (nI Iat), .int (nI Isize), .int Isort, .int Iplace, .int Inumber, .long Iword, .ref MnName, .ref MnStep, .ref MnArg, .ref MnMany, .ref Mstep, .ref Marg, .ref Mmany, .ref Mopen, .ref Mvalues, .ref MnHasForm, .ref MhasForm, .int (nI Iform), .int (nI Iopens), .int (nI InUnits), .int Iunits, .int (nI IownUnits), .int (nI Ideep), .ref Masks, .ref MnLoud, .ref MnCliffAt, .ref MnSnow, .ref MnManAt, .ref MnVoice, .ref MnOn, .ref Mloud, .ref McliffAt, .ref MsnowTold, .ref MmanAt, .ref Mvoice, .ref Mon, .ref MnYes, .ref Myes, .int (nI InWords), .int (nI InCliffs), .int (nI InMen), .int (nI InStates), .int (nI InOns), .int InWind, .int InDraw, .int (nI Iwords), .int (nI Icliffs), .int (nI Imen), .int (nI Istates), .int Ions, .int IwindTold, .int InHasWind, .int InHasDraw, .ref Mnow, .ref Mcry, .ref Msnow, .ref Mecho, .int (nI IcryMany), .int IcallPlace, .int IcallVoice, .int Iwind, .int Ichance, .int (nI IechoMany), .ref Mwere, .int (nI Iacts), .int (nI Iundone), .ref Mlies, .int (nI Ilain), .ref Mspots, .ref Msteps, .ref MfromState, .ref MbyWord, .ref Mqueue, .ref MsoundCliff, .ref MsoundLong, .ref MsoundCame, .ref MsoundTold, .ref MsoundUntold, .int (nI Isounds), .int Itime, .ref Mstands, .int IstandMany, .ref Mtally, .ref MhasBox, .ref Mboxes], wI (cy 1) McliffAt 4 (GcliffAt)] (fun (r : Int32) (_ : Unit) => True) (fun (_ : Unit) => [wO m0 12 [.ref Mtape, .int (nI Itaped), .int (nI Ifault), .int IfaultPlace, .int (nI Iat), .int (nI Isize), .int Isort, .int Iplace, .int Inumber, .long Iword, .ref MnName, .ref MnStep, .ref MnArg, .ref MnMany, .ref Mstep, .ref Marg, .ref Mmany, .ref Mopen, .ref Mvalues, .ref MnHasForm, .ref MhasForm, .int (nI Iform), .int (nI Iopens), .int (nI InUnits), .int Iunits, .int (nI IownUnits), .int (nI Ideep), .ref Masks, .ref MnLoud, .ref MnCliffAt, .ref MnSnow, .ref MnManAt, .ref MnVoice, .ref MnOn, .ref Mloud, .ref McliffAt, .ref MsnowTold, .ref MmanAt, .ref Mvoice, .ref Mon, .ref MnYes, .ref Myes, .int (nI InWords), .int (nI InCliffs), .int (nI InMen), .int (nI InStates), .int (nI InOns), .int InWind, .int InDraw, .int (nI Iwords), .int (nI Icliffs), .int (nI Imen), .int (nI Istates), .int Ions, .int IwindTold, .int InHasWind, .int InHasDraw, .ref Mnow, .ref Mcry, .ref Msnow, .ref Mecho, .int (nI IcryMany), .int IcallPlace, .int IcallVoice, .int Iwind, .int Ichance, .int (nI IechoMany), .ref Mwere, .int (nI Iacts), .int (nI Iundone), .ref Mlies, .int (nI Ilain), .ref Mspots, .ref Msteps, .ref MfromState, .ref MbyWord, .ref Mqueue, .ref MsoundCliff, .ref MsoundLong, .ref MsoundCame, .ref MsoundTold, .ref MsoundUntold, .int (nI Isounds), .int Itime, .ref Mstands, .int IstandMany, .ref Mtally, .ref MhasBox, .ref Mboxes], wI (cy 1) McliffAt 4 (GcliffAt)]) := by
  refine XMi.start (by decide) (Nat.le_of_ble_eq_true rfl) ?_
  intro p e s m below meth c args A ls Q hat hQ
  obtain ⟨hx, hb, hr, hml, hown, hg, hlocks, hin, hK, hA, hP, hD, hS, hE, hl⟩ := hat
  have hown : s.vm.findClass RX12 = some m.cls := hown
  have hl : lv_has ls 2 [(0, .ref m0), (1, .int (nI j))] := hl
  refine lv_aload_n hx hb dX12_farOf_0 rfl (lv_at hl 0 rfl) ?_
  refine va_get (D := D) (ci := 12) (v := .int IcallPlace) (C := RX12) (T := TX12) (N := 89) hx hb hg i_X12 hown hK hP 0 rfl rfl 62 (by decide) (hg _ m_1475) (fun _ h9 => h9) rfl dX12_farOf_1 ?_
  refine lv_aload_n hx hb dX12_farOf_4 rfl (lv_at hl 0 rfl) ?_
  refine va_get (D := D) (ci := 12) (v := .ref McliffAt) (C := RX12) (T := TX12) (N := 89) hx hb hg i_X12 hown hK hP 0 rfl rfl 35 (by decide) (hg _ m_1448) (fun _ h9 => h9) rfl dX12_farOf_5 ?_
  refine lv_iload_n hx hb dX12_farOf_8 rfl (lv_at hl 1 rfl) ?_
  refine va_iald hx hb hK hP 1 1 rfl rfl (vp_in_nI (by omega) (by decide)) dX12_farOf_9 ?_
  refine lv_topi (fun x_1 ex_1 => ?_)
  refine x_callSi (wr := [wO m0 12 [.ref Mtape, .int (nI Itaped), .int (nI Ifault), .int IfaultPlace, .int (nI Iat), .int (nI Isize), .int Isort, .int Iplace, .int Inumber, .long Iword, .ref MnName, .ref MnStep, .ref MnArg, .ref MnMany, .ref Mstep, .ref Marg, .ref Mmany, .ref Mopen, .ref Mvalues, .ref MnHasForm, .ref MhasForm, .int (nI Iform), .int (nI Iopens), .int (nI InUnits), .int Iunits, .int (nI IownUnits), .int (nI Ideep), .ref Masks, .ref MnLoud, .ref MnCliffAt, .ref MnSnow, .ref MnManAt, .ref MnVoice, .ref MnOn, .ref Mloud, .ref McliffAt, .ref MsnowTold, .ref MmanAt, .ref Mvoice, .ref Mon, .ref MnYes, .ref Myes, .int (nI InWords), .int (nI InCliffs), .int (nI InMen), .int (nI InStates), .int (nI InOns), .int InWind, .int InDraw, .int (nI Iwords), .int (nI Icliffs), .int (nI Imen), .int (nI Istates), .int Ions, .int IwindTold, .int InHasWind, .int InHasDraw, .ref Mnow, .ref Mcry, .ref Msnow, .ref Mecho, .int (nI IcryMany), .int IcallPlace, .int IcallVoice, .int Iwind, .int Ichance, .int (nI IechoMany), .ref Mwere, .int (nI Iacts), .int (nI Iundone), .ref Mlies, .int (nI Ilain), .ref Mspots, .ref Msteps, .ref MfromState, .ref MbyWord, .ref Mqueue, .ref MsoundCliff, .ref MsoundLong, .ref MsoundCame, .ref MsoundTold, .ref MsoundUntold, .int (nI Isounds), .int Itime, .ref Mstands, .int IstandMany, .ref Mtally, .ref MhasBox, .ref Mboxes], wI (cy 1) McliffAt 4 (GcliffAt)]) (rest := []) ⟨hx, hb, hml, hown, hg, hl.1⟩ k_X12_464 (r_off l D cy IcallPlace x_1) E0_blind hK hP hD hS hA [] [0, 1] ⟨rfl, rfl, by decide +kernel, by decide +kernel, by decide +kernel⟩ (fun _ _ _ => trivial) dX12_farOf_10 rfl rfl (Nat.le_of_ble_eq_true rfl) ⟨Nat.le_of_ble_eq_true rfl, Nat.le_of_ble_eq_true rfl⟩ ⟨Nat.le_of_ble_eq_true rfl, Nat.le_of_ble_eq_true rfl⟩ (fun zr2 zu2 H locs hw2 hP9 hD9 hS9 => ?_)
  clear hP hD hS
  refine reW [wO m0 12 [.ref Mtape, .int (nI Itaped), .int (nI Ifault), .int IfaultPlace, .int (nI Iat), .int (nI Isize), .int Isort, .int Iplace, .int Inumber, .long Iword, .ref MnName, .ref MnStep, .ref MnArg, .ref MnMany, .ref Mstep, .ref Marg, .ref Mmany, .ref Mopen, .ref Mvalues, .ref MnHasForm, .ref MhasForm, .int (nI Iform), .int (nI Iopens), .int (nI InUnits), .int Iunits, .int (nI IownUnits), .int (nI Ideep), .ref Masks, .ref MnLoud, .ref MnCliffAt, .ref MnSnow, .ref MnManAt, .ref MnVoice, .ref MnOn, .ref Mloud, .ref McliffAt, .ref MsnowTold, .ref MmanAt, .ref Mvoice, .ref Mon, .ref MnYes, .ref Myes, .int (nI InWords), .int (nI InCliffs), .int (nI InMen), .int (nI InStates), .int (nI InOns), .int InWind, .int InDraw, .int (nI Iwords), .int (nI Icliffs), .int (nI Imen), .int (nI Istates), .int Ions, .int IwindTold, .int InHasWind, .int InHasDraw, .ref Mnow, .ref Mcry, .ref Msnow, .ref Mecho, .int (nI IcryMany), .int IcallPlace, .int IcallVoice, .int Iwind, .int Ichance, .int (nI IechoMany), .ref Mwere, .int (nI Iacts), .int (nI Iundone), .ref Mlies, .int (nI Ilain), .ref Mspots, .ref Msteps, .ref MfromState, .ref MbyWord, .ref Mqueue, .ref MsoundCliff, .ref MsoundLong, .ref MsoundCame, .ref MsoundTold, .ref MsoundUntold, .int (nI Isounds), .int Itime, .ref Mstands, .int IstandMany, .ref Mtally, .ref MhasBox, .ref Mboxes], wI (cy 1) McliffAt 4 (GcliffAt)] hP9 hD9 hS9 (fun hP hD hS => ?_)
  clear hP9 hD9 hS9
  refine W.widen (k := 0) (n := 0) (Nat.le_of_ble_eq_true rfl) (Nat.le_of_ble_eq_true rfl) ?_
  change True at hw2
  exact x_iret hQ hx hb hr hlocks hK hP hD hS dX12_farOf_13 () (trivial) [0, 1] (by decide +kernel) rfl (Nat.le_of_ble_eq_true rfl) (Nat.le_of_ble_eq_true rfl)
theorem gdX12_askOf_0 : decode cX12_askOf 0 = .ok (.aload_n 0, 1) ∧ decode cX12_askOf 1 = .ok (.getfield 52, 3) ∧ decode cX12_askOf 4 = .ok (.iconst 0, 1) ∧ decode cX12_askOf 5 = .ok (.iload_n 1, 1) ∧ decode cX12_askOf 6 = .ok (.iastore, 1) ∧ decode cX12_askOf 7 = .ok (.aload_n 0, 1) ∧ decode cX12_askOf 8 = .ok (.getfield 52, 3) ∧ decode cX12_askOf 11 = .ok (.iconst 1, 1) ∧ decode cX12_askOf 12 = .ok (.iload_n 2, 1) ∧ decode cX12_askOf 13 = .ok (.iastore, 1) ∧ decode cX12_askOf 14 = .ok (.aload_n 0, 1) ∧ decode cX12_askOf 15 = .ok (.getfield 52, 3) := by decide +kernel
theorem dX12_askOf_0 : decode cX12_askOf 0 = .ok (.aload_n 0, 1) := gdX12_askOf_0.1
theorem dX12_askOf_1 : decode cX12_askOf 1 = .ok (.getfield 52, 3) := gdX12_askOf_0.2.1
theorem dX12_askOf_4 : decode cX12_askOf 4 = .ok (.iconst 0, 1) := gdX12_askOf_0.2.2.1
theorem dX12_askOf_5 : decode cX12_askOf 5 = .ok (.iload_n 1, 1) := gdX12_askOf_0.2.2.2.1
theorem dX12_askOf_6 : decode cX12_askOf 6 = .ok (.iastore, 1) := gdX12_askOf_0.2.2.2.2.1
theorem dX12_askOf_7 : decode cX12_askOf 7 = .ok (.aload_n 0, 1) := gdX12_askOf_0.2.2.2.2.2.1
theorem dX12_askOf_8 : decode cX12_askOf 8 = .ok (.getfield 52, 3) := gdX12_askOf_0.2.2.2.2.2.2.1
theorem dX12_askOf_11 : decode cX12_askOf 11 = .ok (.iconst 1, 1) := gdX12_askOf_0.2.2.2.2.2.2.2.1
theorem dX12_askOf_12 : decode cX12_askOf 12 = .ok (.iload_n 2, 1) := gdX12_askOf_0.2.2.2.2.2.2.2.2.1
theorem dX12_askOf_13 : decode cX12_askOf 13 = .ok (.iastore, 1) := gdX12_askOf_0.2.2.2.2.2.2.2.2.2.1
theorem dX12_askOf_14 : decode cX12_askOf 14 = .ok (.aload_n 0, 1) := gdX12_askOf_0.2.2.2.2.2.2.2.2.2.2.1
theorem dX12_askOf_15 : decode cX12_askOf 15 = .ok (.getfield 52, 3) := gdX12_askOf_0.2.2.2.2.2.2.2.2.2.2.2
theorem gdX12_askOf_18 : decode cX12_askOf 18 = .ok (.iconst 2, 1) ∧ decode cX12_askOf 19 = .ok (.iload_n 3, 1) ∧ decode cX12_askOf 20 = .ok (.iastore, 1) ∧ decode cX12_askOf 21 = .ok (.aload_n 0, 1) ∧ decode cX12_askOf 22 = .ok (.getfield 52, 3) ∧ decode cX12_askOf 25 = .ok (.iconst 3, 1) ∧ decode cX12_askOf 26 = .ok (.iload 4, 2) ∧ decode cX12_askOf 28 = .ok (.iastore, 1) ∧ decode cX12_askOf 29 = .ok (.aload_n 0, 1) ∧ decode cX12_askOf 30 = .ok (.getfield 52, 3) ∧ decode cX12_askOf 33 = .ok (.iconst 4, 1) ∧ decode cX12_askOf 34 = .ok (.iconst 0, 1) := by decide +kernel
theorem dX12_askOf_18 : decode cX12_askOf 18 = .ok (.iconst 2, 1) := gdX12_askOf_18.1
theorem dX12_askOf_19 : decode cX12_askOf 19 = .ok (.iload_n 3, 1) := gdX12_askOf_18.2.1
theorem dX12_askOf_20 : decode cX12_askOf 20 = .ok (.iastore, 1) := gdX12_askOf_18.2.2.1
theorem dX12_askOf_21 : decode cX12_askOf 21 = .ok (.aload_n 0, 1) := gdX12_askOf_18.2.2.2.1
theorem dX12_askOf_22 : decode cX12_askOf 22 = .ok (.getfield 52, 3) := gdX12_askOf_18.2.2.2.2.1
theorem dX12_askOf_25 : decode cX12_askOf 25 = .ok (.iconst 3, 1) := gdX12_askOf_18.2.2.2.2.2.1
theorem dX12_askOf_26 : decode cX12_askOf 26 = .ok (.iload 4, 2) := gdX12_askOf_18.2.2.2.2.2.2.1
theorem dX12_askOf_28 : decode cX12_askOf 28 = .ok (.iastore, 1) := gdX12_askOf_18.2.2.2.2.2.2.2.1
theorem dX12_askOf_29 : decode cX12_askOf 29 = .ok (.aload_n 0, 1) := gdX12_askOf_18.2.2.2.2.2.2.2.2.1
theorem dX12_askOf_30 : decode cX12_askOf 30 = .ok (.getfield 52, 3) := gdX12_askOf_18.2.2.2.2.2.2.2.2.2.1
theorem dX12_askOf_33 : decode cX12_askOf 33 = .ok (.iconst 4, 1) := gdX12_askOf_18.2.2.2.2.2.2.2.2.2.2.1
theorem dX12_askOf_34 : decode cX12_askOf 34 = .ok (.iconst 0, 1) := gdX12_askOf_18.2.2.2.2.2.2.2.2.2.2.2
theorem gdX12_askOf_35 : decode cX12_askOf 35 = .ok (.iastore, 1) ∧ decode cX12_askOf 36 = .ok (.aload_n 0, 1) ∧ decode cX12_askOf 37 = .ok (.getfield 52, 3) ∧ decode cX12_askOf 40 = .ok (.iconst 5, 1) ∧ decode cX12_askOf 41 = .ok (.iconst 0, 1) ∧ decode cX12_askOf 42 = .ok (.iastore, 1) ∧ decode cX12_askOf 43 = .ok (.aload_n 0, 1) ∧ decode cX12_askOf 44 = .ok (.getfield 52, 3) ∧ decode cX12_askOf 47 = .ok (.bipush 6, 2) ∧ decode cX12_askOf 49 = .ok (.iconst 0, 1) ∧ decode cX12_askOf 50 = .ok (.iastore, 1) ∧ decode cX12_askOf 51 = .ok (.return_, 1) := by decide +kernel
theorem dX12_askOf_35 : decode cX12_askOf 35 = .ok (.iastore, 1) := gdX12_askOf_35.1
theorem dX12_askOf_36 : decode cX12_askOf 36 = .ok (.aload_n 0, 1) := gdX12_askOf_35.2.1
theorem dX12_askOf_37 : decode cX12_askOf 37 = .ok (.getfield 52, 3) := gdX12_askOf_35.2.2.1
theorem dX12_askOf_40 : decode cX12_askOf 40 = .ok (.iconst 5, 1) := gdX12_askOf_35.2.2.2.1
theorem dX12_askOf_41 : decode cX12_askOf 41 = .ok (.iconst 0, 1) := gdX12_askOf_35.2.2.2.2.1
theorem dX12_askOf_42 : decode cX12_askOf 42 = .ok (.iastore, 1) := gdX12_askOf_35.2.2.2.2.2.1
theorem dX12_askOf_43 : decode cX12_askOf 43 = .ok (.aload_n 0, 1) := gdX12_askOf_35.2.2.2.2.2.2.1
theorem dX12_askOf_44 : decode cX12_askOf 44 = .ok (.getfield 52, 3) := gdX12_askOf_35.2.2.2.2.2.2.2.1
theorem dX12_askOf_47 : decode cX12_askOf 47 = .ok (.bipush 6, 2) := gdX12_askOf_35.2.2.2.2.2.2.2.2.1
theorem dX12_askOf_49 : decode cX12_askOf 49 = .ok (.iconst 0, 1) := gdX12_askOf_35.2.2.2.2.2.2.2.2.2.1
theorem dX12_askOf_50 : decode cX12_askOf 50 = .ok (.iastore, 1) := gdX12_askOf_35.2.2.2.2.2.2.2.2.2.2.1
theorem dX12_askOf_51 : decode cX12_askOf 51 = .ok (.return_, 1) := gdX12_askOf_35.2.2.2.2.2.2.2.2.2.2.2
set_option maxHeartbeats 1000000 in
set_option maxRecDepth 100000 in
theorem r_askOf (l : Launch) (D : va_G) (cy : Nat → ClassId) (m0 : Nat) (Mtape : Nat) (MnName : Nat) (MnStep : Nat) (MnArg : Nat) (MnMany : Nat) (Mstep : Nat) (Marg : Nat) (Mmany : Nat) (Mopen : Nat) (Mvalues : Nat) (MnHasForm : Nat) (MhasForm : Nat) (Masks : Nat) (MnLoud : Nat) (MnCliffAt : Nat) (MnSnow : Nat) (MnManAt : Nat) (MnVoice : Nat) (MnOn : Nat) (Mloud : Nat) (McliffAt : Nat) (MsnowTold : Nat) (MmanAt : Nat) (Mvoice : Nat) (Mon : Nat) (MnYes : Nat) (Myes : Nat) (Mnow : Nat) (Mcry : Nat) (Msnow : Nat) (Mecho : Nat) (Mwere : Nat) (Mlies : Nat) (Mspots : Nat) (Msteps : Nat) (MfromState : Nat) (MbyWord : Nat) (Mqueue : Nat) (MsoundCliff : Nat) (MsoundLong : Nat) (MsoundCame : Nat) (MsoundTold : Nat) (MsoundUntold : Nat) (Mstands : Nat) (Mtally : Nat) (MhasBox : Nat) (Mboxes : Nat) (Itaped : Nat) (Ifault : Nat) (IfaultPlace : Int32) (Iat : Nat) (Isize : Nat) (Isort : Int32) (Iplace : Int32) (Inumber : Int32) (Iword : Int64) (Iform : Nat) (Iopens : Nat) (InUnits : Nat) (Iunits : Int32) (IownUnits : Nat) (Ideep : Nat) (Gasks : Nat → Int32) (InWords : Nat) (InCliffs : Nat) (InMen : Nat) (InStates : Nat) (InOns : Nat) (InWind : Int32) (InDraw : Int32) (Iwords : Nat) (Icliffs : Nat) (Imen : Nat) (Istates : Nat) (Ions : Int32) (IwindTold : Int32) (InHasWind : Int32) (InHasDraw : Int32) (IcryMany : Nat) (IcallPlace : Int32) (IcallVoice : Int32) (Iwind : Int32) (Ichance : Int32) (IechoMany : Nat) (Iacts : Nat) (Iundone : Nat) (Ilain : Nat) (Isounds : Nat) (Itime : Int32) (IstandMany : Int32) (xa : Int32) (xb : Int32) (xc9 : Int32) (xd : Int32) (gtp : Itaped ≤ 1600) (gat : Iat ≤ Isize) (gsz : Isize ≤ 1600) (gfl : Ifault ≤ 5) (gfo : Iform ≤ 2) (gnw : InWords ≤ 8) (gnc : InCliffs ≤ 4) (gnm : InMen ≤ 4) (gns : InStates ≤ 6) (gw : Iwords ≤ 8) (gc9 : Icliffs ≤ 4) (gm : Imen ≤ 4) (gs : Istates ≤ 6) (gcm : IcryMany ≤ 10) (gem : IechoMany ≤ 20) (gau : Iacts + Iundone ≤ 40) (gla : Ilain ≤ 20) (gso : Isounds ≤ 30) (gop : Iopens ≤ 40) (gde : Ideep ≤ 8) (gou : IownUnits ≤ 31) (gnu : InUnits ≤ 61) (gno : InOns ≤ 30) : XMv l D (tyL cy) E0 yX12_askOf cX12_askOf 5 none (rmk 0 0 0) [.ref m0, .int xa, .int xb, .int xc9, .int xd] [wO m0 12 [.ref Mtape, .int (nI Itaped), .int (nI Ifault), .int IfaultPlace, .int (nI Iat), .int (nI Isize), .int Isort, .int Iplace, .int Inumber, .long Iword, .ref MnName, .ref MnStep, .ref MnArg, .ref MnMany, .ref Mstep, .ref Marg, .ref Mmany, .ref Mopen, .ref Mvalues, .ref MnHasForm, .ref MhasForm, .int (nI Iform), .int (nI Iopens), .int (nI InUnits), .int Iunits, .int (nI IownUnits), .int (nI Ideep), .ref Masks, .ref MnLoud, .ref MnCliffAt, .ref MnSnow, .ref MnManAt, .ref MnVoice, .ref MnOn, .ref Mloud, .ref McliffAt, .ref MsnowTold, .ref MmanAt, .ref Mvoice, .ref Mon, .ref MnYes, .ref Myes, .int (nI InWords), .int (nI InCliffs), .int (nI InMen), .int (nI InStates), .int (nI InOns), .int InWind, .int InDraw, .int (nI Iwords), .int (nI Icliffs), .int (nI Imen), .int (nI Istates), .int Ions, .int IwindTold, .int InHasWind, .int InHasDraw, .ref Mnow, .ref Mcry, .ref Msnow, .ref Mecho, .int (nI IcryMany), .int IcallPlace, .int IcallVoice, .int Iwind, .int Ichance, .int (nI IechoMany), .ref Mwere, .int (nI Iacts), .int (nI Iundone), .ref Mlies, .int (nI Ilain), .ref Mspots, .ref Msteps, .ref MfromState, .ref MbyWord, .ref Mqueue, .ref MsoundCliff, .ref MsoundLong, .ref MsoundCame, .ref MsoundTold, .ref MsoundUntold, .int (nI Isounds), .int Itime, .ref Mstands, .int IstandMany, .ref Mtally, .ref MhasBox, .ref Mboxes], wI (cy 1) Masks 7 (Gasks)] (fun (Gasks2 : Nat → Int32) => True) (fun (Gasks2 : Nat → Int32) => [wO m0 12 [.ref Mtape, .int (nI Itaped), .int (nI Ifault), .int IfaultPlace, .int (nI Iat), .int (nI Isize), .int Isort, .int Iplace, .int Inumber, .long Iword, .ref MnName, .ref MnStep, .ref MnArg, .ref MnMany, .ref Mstep, .ref Marg, .ref Mmany, .ref Mopen, .ref Mvalues, .ref MnHasForm, .ref MhasForm, .int (nI Iform), .int (nI Iopens), .int (nI InUnits), .int Iunits, .int (nI IownUnits), .int (nI Ideep), .ref Masks, .ref MnLoud, .ref MnCliffAt, .ref MnSnow, .ref MnManAt, .ref MnVoice, .ref MnOn, .ref Mloud, .ref McliffAt, .ref MsnowTold, .ref MmanAt, .ref Mvoice, .ref Mon, .ref MnYes, .ref Myes, .int (nI InWords), .int (nI InCliffs), .int (nI InMen), .int (nI InStates), .int (nI InOns), .int InWind, .int InDraw, .int (nI Iwords), .int (nI Icliffs), .int (nI Imen), .int (nI Istates), .int Ions, .int IwindTold, .int InHasWind, .int InHasDraw, .ref Mnow, .ref Mcry, .ref Msnow, .ref Mecho, .int (nI IcryMany), .int IcallPlace, .int IcallVoice, .int Iwind, .int Ichance, .int (nI IechoMany), .ref Mwere, .int (nI Iacts), .int (nI Iundone), .ref Mlies, .int (nI Ilain), .ref Mspots, .ref Msteps, .ref MfromState, .ref MbyWord, .ref Mqueue, .ref MsoundCliff, .ref MsoundLong, .ref MsoundCame, .ref MsoundTold, .ref MsoundUntold, .int (nI Isounds), .int Itime, .ref Mstands, .int IstandMany, .ref Mtally, .ref MhasBox, .ref Mboxes], wI (cy 1) Masks 7 (Gasks2)]) := by
  refine XMv.start (by decide) (Nat.le_of_ble_eq_true rfl) ?_
  intro p e s m below meth c args A ls Q hat hQ
  obtain ⟨hx, hb, hr, hml, hown, hg, hlocks, hin, hK, hA, hP, hD, hS, hE, hl⟩ := hat
  have hown : s.vm.findClass RX12 = some m.cls := hown
  have hl : lv_has ls 5 [(0, .ref m0), (1, .int xa), (2, .int xb), (3, .int xc9), (4, .int xd)] := hl
  refine lv_aload_n hx hb dX12_askOf_0 rfl (lv_at hl 0 rfl) ?_
  refine va_get (D := D) (ci := 12) (v := .ref Masks) (C := RX12) (T := TX12) (N := 89) hx hb hg i_X12 hown hK hP 0 rfl rfl 27 (by decide) (hg _ m_1440) (fun _ h9 => h9) rfl dX12_askOf_1 ?_
  refine lv_iconst (v := 0) hx hb dX12_askOf_4 (by decide) ?_
  refine lv_iload_n hx hb dX12_askOf_5 rfl (lv_at hl 1 rfl) ?_
  refine va_iast hx hb hK hP hD hS 1 1 rfl rfl (by unfold vp_in; decide) dX12_askOf_6 (fun H locs hP9 hD9 hS9 => ?_)
  clear hP hD hS
  obtain ⟨g_1, eg_1⟩ : ∃ y, upd Gasks (0 : Int32).toNatClampNeg xa = y := ⟨_, rfl⟩
  rw [eg_1] at hP9 hD9
  refine reW [wO m0 12 [.ref Mtape, .int (nI Itaped), .int (nI Ifault), .int IfaultPlace, .int (nI Iat), .int (nI Isize), .int Isort, .int Iplace, .int Inumber, .long Iword, .ref MnName, .ref MnStep, .ref MnArg, .ref MnMany, .ref Mstep, .ref Marg, .ref Mmany, .ref Mopen, .ref Mvalues, .ref MnHasForm, .ref MhasForm, .int (nI Iform), .int (nI Iopens), .int (nI InUnits), .int Iunits, .int (nI IownUnits), .int (nI Ideep), .ref Masks, .ref MnLoud, .ref MnCliffAt, .ref MnSnow, .ref MnManAt, .ref MnVoice, .ref MnOn, .ref Mloud, .ref McliffAt, .ref MsnowTold, .ref MmanAt, .ref Mvoice, .ref Mon, .ref MnYes, .ref Myes, .int (nI InWords), .int (nI InCliffs), .int (nI InMen), .int (nI InStates), .int (nI InOns), .int InWind, .int InDraw, .int (nI Iwords), .int (nI Icliffs), .int (nI Imen), .int (nI Istates), .int Ions, .int IwindTold, .int InHasWind, .int InHasDraw, .ref Mnow, .ref Mcry, .ref Msnow, .ref Mecho, .int (nI IcryMany), .int IcallPlace, .int IcallVoice, .int Iwind, .int Ichance, .int (nI IechoMany), .ref Mwere, .int (nI Iacts), .int (nI Iundone), .ref Mlies, .int (nI Ilain), .ref Mspots, .ref Msteps, .ref MfromState, .ref MbyWord, .ref Mqueue, .ref MsoundCliff, .ref MsoundLong, .ref MsoundCame, .ref MsoundTold, .ref MsoundUntold, .int (nI Isounds), .int Itime, .ref Mstands, .int IstandMany, .ref Mtally, .ref MhasBox, .ref Mboxes], wI (cy 1) Masks 7 (g_1)] hP9 hD9 hS9 (fun hP hD hS => ?_)
  clear hP9 hD9 hS9
  refine lv_aload_n hx hb dX12_askOf_7 rfl (lv_at hl 0 rfl) ?_
  refine va_get (D := D) (ci := 12) (v := .ref Masks) (C := RX12) (T := TX12) (N := 89) hx hb hg i_X12 hown hK hP 0 rfl rfl 27 (by decide) (hg _ m_1440) (fun _ h9 => h9) rfl dX12_askOf_8 ?_
  refine lv_iconst (v := 1) hx hb dX12_askOf_11 (by decide) ?_
  refine lv_iload_n hx hb dX12_askOf_12 rfl (lv_at hl 2 rfl) ?_
  refine va_iast hx hb hK hP hD hS 1 1 rfl rfl (by unfold vp_in; decide) dX12_askOf_13 (fun H locs hP9 hD9 hS9 => ?_)
  clear hP hD hS
  obtain ⟨g_2, eg_2⟩ : ∃ y, upd g_1 (1 : Int32).toNatClampNeg xb = y := ⟨_, rfl⟩
  rw [eg_2] at hP9 hD9
  refine reW [wO m0 12 [.ref Mtape, .int (nI Itaped), .int (nI Ifault), .int IfaultPlace, .int (nI Iat), .int (nI Isize), .int Isort, .int Iplace, .int Inumber, .long Iword, .ref MnName, .ref MnStep, .ref MnArg, .ref MnMany, .ref Mstep, .ref Marg, .ref Mmany, .ref Mopen, .ref Mvalues, .ref MnHasForm, .ref MhasForm, .int (nI Iform), .int (nI Iopens), .int (nI InUnits), .int Iunits, .int (nI IownUnits), .int (nI Ideep), .ref Masks, .ref MnLoud, .ref MnCliffAt, .ref MnSnow, .ref MnManAt, .ref MnVoice, .ref MnOn, .ref Mloud, .ref McliffAt, .ref MsnowTold, .ref MmanAt, .ref Mvoice, .ref Mon, .ref MnYes, .ref Myes, .int (nI InWords), .int (nI InCliffs), .int (nI InMen), .int (nI InStates), .int (nI InOns), .int InWind, .int InDraw, .int (nI Iwords), .int (nI Icliffs), .int (nI Imen), .int (nI Istates), .int Ions, .int IwindTold, .int InHasWind, .int InHasDraw, .ref Mnow, .ref Mcry, .ref Msnow, .ref Mecho, .int (nI IcryMany), .int IcallPlace, .int IcallVoice, .int Iwind, .int Ichance, .int (nI IechoMany), .ref Mwere, .int (nI Iacts), .int (nI Iundone), .ref Mlies, .int (nI Ilain), .ref Mspots, .ref Msteps, .ref MfromState, .ref MbyWord, .ref Mqueue, .ref MsoundCliff, .ref MsoundLong, .ref MsoundCame, .ref MsoundTold, .ref MsoundUntold, .int (nI Isounds), .int Itime, .ref Mstands, .int IstandMany, .ref Mtally, .ref MhasBox, .ref Mboxes], wI (cy 1) Masks 7 (g_2)] hP9 hD9 hS9 (fun hP hD hS => ?_)
  clear hP9 hD9 hS9
  refine lv_aload_n hx hb dX12_askOf_14 rfl (lv_at hl 0 rfl) ?_
  refine va_get (D := D) (ci := 12) (v := .ref Masks) (C := RX12) (T := TX12) (N := 89) hx hb hg i_X12 hown hK hP 0 rfl rfl 27 (by decide) (hg _ m_1440) (fun _ h9 => h9) rfl dX12_askOf_15 ?_
  refine lv_iconst (v := 2) hx hb dX12_askOf_18 (by decide) ?_
  refine lv_iload_n hx hb dX12_askOf_19 rfl (lv_at hl 3 rfl) ?_
  refine va_iast hx hb hK hP hD hS 1 1 rfl rfl (by unfold vp_in; decide) dX12_askOf_20 (fun H locs hP9 hD9 hS9 => ?_)
  clear hP hD hS
  obtain ⟨g_3, eg_3⟩ : ∃ y, upd g_2 (2 : Int32).toNatClampNeg xc9 = y := ⟨_, rfl⟩
  rw [eg_3] at hP9 hD9
  refine reW [wO m0 12 [.ref Mtape, .int (nI Itaped), .int (nI Ifault), .int IfaultPlace, .int (nI Iat), .int (nI Isize), .int Isort, .int Iplace, .int Inumber, .long Iword, .ref MnName, .ref MnStep, .ref MnArg, .ref MnMany, .ref Mstep, .ref Marg, .ref Mmany, .ref Mopen, .ref Mvalues, .ref MnHasForm, .ref MhasForm, .int (nI Iform), .int (nI Iopens), .int (nI InUnits), .int Iunits, .int (nI IownUnits), .int (nI Ideep), .ref Masks, .ref MnLoud, .ref MnCliffAt, .ref MnSnow, .ref MnManAt, .ref MnVoice, .ref MnOn, .ref Mloud, .ref McliffAt, .ref MsnowTold, .ref MmanAt, .ref Mvoice, .ref Mon, .ref MnYes, .ref Myes, .int (nI InWords), .int (nI InCliffs), .int (nI InMen), .int (nI InStates), .int (nI InOns), .int InWind, .int InDraw, .int (nI Iwords), .int (nI Icliffs), .int (nI Imen), .int (nI Istates), .int Ions, .int IwindTold, .int InHasWind, .int InHasDraw, .ref Mnow, .ref Mcry, .ref Msnow, .ref Mecho, .int (nI IcryMany), .int IcallPlace, .int IcallVoice, .int Iwind, .int Ichance, .int (nI IechoMany), .ref Mwere, .int (nI Iacts), .int (nI Iundone), .ref Mlies, .int (nI Ilain), .ref Mspots, .ref Msteps, .ref MfromState, .ref MbyWord, .ref Mqueue, .ref MsoundCliff, .ref MsoundLong, .ref MsoundCame, .ref MsoundTold, .ref MsoundUntold, .int (nI Isounds), .int Itime, .ref Mstands, .int IstandMany, .ref Mtally, .ref MhasBox, .ref Mboxes], wI (cy 1) Masks 7 (g_3)] hP9 hD9 hS9 (fun hP hD hS => ?_)
  clear hP9 hD9 hS9
  refine lv_aload_n hx hb dX12_askOf_21 rfl (lv_at hl 0 rfl) ?_
  refine va_get (D := D) (ci := 12) (v := .ref Masks) (C := RX12) (T := TX12) (N := 89) hx hb hg i_X12 hown hK hP 0 rfl rfl 27 (by decide) (hg _ m_1440) (fun _ h9 => h9) rfl dX12_askOf_22 ?_
  refine lv_iconst (v := 3) hx hb dX12_askOf_25 (by decide) ?_
  refine lv_iload hx hb dX12_askOf_26 (lv_at hl 4 rfl) ?_
  refine va_iast hx hb hK hP hD hS 1 1 rfl rfl (by unfold vp_in; decide) dX12_askOf_28 (fun H locs hP9 hD9 hS9 => ?_)
  clear hP hD hS
  obtain ⟨g_4, eg_4⟩ : ∃ y, upd g_3 (3 : Int32).toNatClampNeg xd = y := ⟨_, rfl⟩
  rw [eg_4] at hP9 hD9
  refine reW [wO m0 12 [.ref Mtape, .int (nI Itaped), .int (nI Ifault), .int IfaultPlace, .int (nI Iat), .int (nI Isize), .int Isort, .int Iplace, .int Inumber, .long Iword, .ref MnName, .ref MnStep, .ref MnArg, .ref MnMany, .ref Mstep, .ref Marg, .ref Mmany, .ref Mopen, .ref Mvalues, .ref MnHasForm, .ref MhasForm, .int (nI Iform), .int (nI Iopens), .int (nI InUnits), .int Iunits, .int (nI IownUnits), .int (nI Ideep), .ref Masks, .ref MnLoud, .ref MnCliffAt, .ref MnSnow, .ref MnManAt, .ref MnVoice, .ref MnOn, .ref Mloud, .ref McliffAt, .ref MsnowTold, .ref MmanAt, .ref Mvoice, .ref Mon, .ref MnYes, .ref Myes, .int (nI InWords), .int (nI InCliffs), .int (nI InMen), .int (nI InStates), .int (nI InOns), .int InWind, .int InDraw, .int (nI Iwords), .int (nI Icliffs), .int (nI Imen), .int (nI Istates), .int Ions, .int IwindTold, .int InHasWind, .int InHasDraw, .ref Mnow, .ref Mcry, .ref Msnow, .ref Mecho, .int (nI IcryMany), .int IcallPlace, .int IcallVoice, .int Iwind, .int Ichance, .int (nI IechoMany), .ref Mwere, .int (nI Iacts), .int (nI Iundone), .ref Mlies, .int (nI Ilain), .ref Mspots, .ref Msteps, .ref MfromState, .ref MbyWord, .ref Mqueue, .ref MsoundCliff, .ref MsoundLong, .ref MsoundCame, .ref MsoundTold, .ref MsoundUntold, .int (nI Isounds), .int Itime, .ref Mstands, .int IstandMany, .ref Mtally, .ref MhasBox, .ref Mboxes], wI (cy 1) Masks 7 (g_4)] hP9 hD9 hS9 (fun hP hD hS => ?_)
  clear hP9 hD9 hS9
  refine lv_aload_n hx hb dX12_askOf_29 rfl (lv_at hl 0 rfl) ?_
  refine va_get (D := D) (ci := 12) (v := .ref Masks) (C := RX12) (T := TX12) (N := 89) hx hb hg i_X12 hown hK hP 0 rfl rfl 27 (by decide) (hg _ m_1440) (fun _ h9 => h9) rfl dX12_askOf_30 ?_
  refine lv_iconst (v := 4) hx hb dX12_askOf_33 (by decide) ?_
  refine lv_iconst (v := 0) hx hb dX12_askOf_34 (by decide) ?_
  refine va_iast hx hb hK hP hD hS 1 1 rfl rfl (by unfold vp_in; decide) dX12_askOf_35 (fun H locs hP9 hD9 hS9 => ?_)
  clear hP hD hS
  obtain ⟨g_5, eg_5⟩ : ∃ y, upd g_4 (4 : Int32).toNatClampNeg 0 = y := ⟨_, rfl⟩
  rw [eg_5] at hP9 hD9
  refine reW [wO m0 12 [.ref Mtape, .int (nI Itaped), .int (nI Ifault), .int IfaultPlace, .int (nI Iat), .int (nI Isize), .int Isort, .int Iplace, .int Inumber, .long Iword, .ref MnName, .ref MnStep, .ref MnArg, .ref MnMany, .ref Mstep, .ref Marg, .ref Mmany, .ref Mopen, .ref Mvalues, .ref MnHasForm, .ref MhasForm, .int (nI Iform), .int (nI Iopens), .int (nI InUnits), .int Iunits, .int (nI IownUnits), .int (nI Ideep), .ref Masks, .ref MnLoud, .ref MnCliffAt, .ref MnSnow, .ref MnManAt, .ref MnVoice, .ref MnOn, .ref Mloud, .ref McliffAt, .ref MsnowTold, .ref MmanAt, .ref Mvoice, .ref Mon, .ref MnYes, .ref Myes, .int (nI InWords), .int (nI InCliffs), .int (nI InMen), .int (nI InStates), .int (nI InOns), .int InWind, .int InDraw, .int (nI Iwords), .int (nI Icliffs), .int (nI Imen), .int (nI Istates), .int Ions, .int IwindTold, .int InHasWind, .int InHasDraw, .ref Mnow, .ref Mcry, .ref Msnow, .ref Mecho, .int (nI IcryMany), .int IcallPlace, .int IcallVoice, .int Iwind, .int Ichance, .int (nI IechoMany), .ref Mwere, .int (nI Iacts), .int (nI Iundone), .ref Mlies, .int (nI Ilain), .ref Mspots, .ref Msteps, .ref MfromState, .ref MbyWord, .ref Mqueue, .ref MsoundCliff, .ref MsoundLong, .ref MsoundCame, .ref MsoundTold, .ref MsoundUntold, .int (nI Isounds), .int Itime, .ref Mstands, .int IstandMany, .ref Mtally, .ref MhasBox, .ref Mboxes], wI (cy 1) Masks 7 (g_5)] hP9 hD9 hS9 (fun hP hD hS => ?_)
  clear hP9 hD9 hS9
  refine lv_aload_n hx hb dX12_askOf_36 rfl (lv_at hl 0 rfl) ?_
  refine va_get (D := D) (ci := 12) (v := .ref Masks) (C := RX12) (T := TX12) (N := 89) hx hb hg i_X12 hown hK hP 0 rfl rfl 27 (by decide) (hg _ m_1440) (fun _ h9 => h9) rfl dX12_askOf_37 ?_
  refine lv_iconst (v := 5) hx hb dX12_askOf_40 (by decide) ?_
  refine lv_iconst (v := 0) hx hb dX12_askOf_41 (by decide) ?_
  refine va_iast hx hb hK hP hD hS 1 1 rfl rfl (by unfold vp_in; decide) dX12_askOf_42 (fun H locs hP9 hD9 hS9 => ?_)
  clear hP hD hS
  obtain ⟨g_6, eg_6⟩ : ∃ y, upd g_5 (5 : Int32).toNatClampNeg 0 = y := ⟨_, rfl⟩
  rw [eg_6] at hP9 hD9
  refine reW [wO m0 12 [.ref Mtape, .int (nI Itaped), .int (nI Ifault), .int IfaultPlace, .int (nI Iat), .int (nI Isize), .int Isort, .int Iplace, .int Inumber, .long Iword, .ref MnName, .ref MnStep, .ref MnArg, .ref MnMany, .ref Mstep, .ref Marg, .ref Mmany, .ref Mopen, .ref Mvalues, .ref MnHasForm, .ref MhasForm, .int (nI Iform), .int (nI Iopens), .int (nI InUnits), .int Iunits, .int (nI IownUnits), .int (nI Ideep), .ref Masks, .ref MnLoud, .ref MnCliffAt, .ref MnSnow, .ref MnManAt, .ref MnVoice, .ref MnOn, .ref Mloud, .ref McliffAt, .ref MsnowTold, .ref MmanAt, .ref Mvoice, .ref Mon, .ref MnYes, .ref Myes, .int (nI InWords), .int (nI InCliffs), .int (nI InMen), .int (nI InStates), .int (nI InOns), .int InWind, .int InDraw, .int (nI Iwords), .int (nI Icliffs), .int (nI Imen), .int (nI Istates), .int Ions, .int IwindTold, .int InHasWind, .int InHasDraw, .ref Mnow, .ref Mcry, .ref Msnow, .ref Mecho, .int (nI IcryMany), .int IcallPlace, .int IcallVoice, .int Iwind, .int Ichance, .int (nI IechoMany), .ref Mwere, .int (nI Iacts), .int (nI Iundone), .ref Mlies, .int (nI Ilain), .ref Mspots, .ref Msteps, .ref MfromState, .ref MbyWord, .ref Mqueue, .ref MsoundCliff, .ref MsoundLong, .ref MsoundCame, .ref MsoundTold, .ref MsoundUntold, .int (nI Isounds), .int Itime, .ref Mstands, .int IstandMany, .ref Mtally, .ref MhasBox, .ref Mboxes], wI (cy 1) Masks 7 (g_6)] hP9 hD9 hS9 (fun hP hD hS => ?_)
  clear hP9 hD9 hS9
  refine lv_aload_n hx hb dX12_askOf_43 rfl (lv_at hl 0 rfl) ?_
  refine va_get (D := D) (ci := 12) (v := .ref Masks) (C := RX12) (T := TX12) (N := 89) hx hb hg i_X12 hown hK hP 0 rfl rfl 27 (by decide) (hg _ m_1440) (fun _ h9 => h9) rfl dX12_askOf_44 ?_
  refine lv_bipush (v := 6) hx hb dX12_askOf_47 (by decide) ?_
  refine lv_iconst (v := 0) hx hb dX12_askOf_49 (by decide) ?_
  refine va_iast hx hb hK hP hD hS 1 1 rfl rfl (by unfold vp_in; decide) dX12_askOf_50 (fun H locs hP9 hD9 hS9 => ?_)
  clear hP hD hS
  obtain ⟨g_7, eg_7⟩ : ∃ y, upd g_6 (6 : Int32).toNatClampNeg 0 = y := ⟨_, rfl⟩
  rw [eg_7] at hP9 hD9
  refine reW [wO m0 12 [.ref Mtape, .int (nI Itaped), .int (nI Ifault), .int IfaultPlace, .int (nI Iat), .int (nI Isize), .int Isort, .int Iplace, .int Inumber, .long Iword, .ref MnName, .ref MnStep, .ref MnArg, .ref MnMany, .ref Mstep, .ref Marg, .ref Mmany, .ref Mopen, .ref Mvalues, .ref MnHasForm, .ref MhasForm, .int (nI Iform), .int (nI Iopens), .int (nI InUnits), .int Iunits, .int (nI IownUnits), .int (nI Ideep), .ref Masks, .ref MnLoud, .ref MnCliffAt, .ref MnSnow, .ref MnManAt, .ref MnVoice, .ref MnOn, .ref Mloud, .ref McliffAt, .ref MsnowTold, .ref MmanAt, .ref Mvoice, .ref Mon, .ref MnYes, .ref Myes, .int (nI InWords), .int (nI InCliffs), .int (nI InMen), .int (nI InStates), .int (nI InOns), .int InWind, .int InDraw, .int (nI Iwords), .int (nI Icliffs), .int (nI Imen), .int (nI Istates), .int Ions, .int IwindTold, .int InHasWind, .int InHasDraw, .ref Mnow, .ref Mcry, .ref Msnow, .ref Mecho, .int (nI IcryMany), .int IcallPlace, .int IcallVoice, .int Iwind, .int Ichance, .int (nI IechoMany), .ref Mwere, .int (nI Iacts), .int (nI Iundone), .ref Mlies, .int (nI Ilain), .ref Mspots, .ref Msteps, .ref MfromState, .ref MbyWord, .ref Mqueue, .ref MsoundCliff, .ref MsoundLong, .ref MsoundCame, .ref MsoundTold, .ref MsoundUntold, .int (nI Isounds), .int Itime, .ref Mstands, .int IstandMany, .ref Mtally, .ref MhasBox, .ref Mboxes], wI (cy 1) Masks 7 (g_7)] hP9 hD9 hS9 (fun hP hD hS => ?_)
  clear hP9 hD9 hS9
  exact x_vret hQ hx hb hr hlocks hK hP hD hS dX12_askOf_51 g_7 (trivial) [0, 1] (by decide +kernel) rfl (Nat.le_of_ble_eq_true rfl) (Nat.le_of_ble_eq_true rfl)
theorem gdX12_backOf_0 : decode cX12_backOf 0 = .ok (.aload_n 0, 1) ∧ decode cX12_backOf 1 = .ok (.iload_n 1, 1) ∧ decode cX12_backOf 2 = .ok (.iload_n 2, 1) ∧ decode cX12_backOf 3 = .ok (.iload_n 3, 1) ∧ decode cX12_backOf 4 = .ok (.iload 4, 2) ∧ decode cX12_backOf 6 = .ok (.invokevirtual 467, 3) := by decide +kernel
theorem dX12_backOf_0 : decode cX12_backOf 0 = .ok (.aload_n 0, 1) := gdX12_backOf_0.1
theorem dX12_backOf_1 : decode cX12_backOf 1 = .ok (.iload_n 1, 1) := gdX12_backOf_0.2.1
theorem dX12_backOf_2 : decode cX12_backOf 2 = .ok (.iload_n 2, 1) := gdX12_backOf_0.2.2.1
theorem dX12_backOf_3 : decode cX12_backOf 3 = .ok (.iload_n 3, 1) := gdX12_backOf_0.2.2.2.1
theorem dX12_backOf_4 : decode cX12_backOf 4 = .ok (.iload 4, 2) := gdX12_backOf_0.2.2.2.2.1
theorem dX12_backOf_6 : decode cX12_backOf 6 = .ok (.invokevirtual 467, 3) := gdX12_backOf_0.2.2.2.2.2
theorem k_X12_467 : xV RX12 RX12 467 yX12_askOf cX12_askOf 5 none 4 := ⟨⟨m_1967, m_1969, m_112, m_146, m_1970⟩, rfl, by decide, by decide, by decide +kernel⟩
theorem gdX12_backOf_9 : decode cX12_backOf 9 = .ok (.aload_n 0, 1) ∧ decode cX12_backOf 10 = .ok (.getfield 49, 3) ∧ decode cX12_backOf 13 = .ok (.iconst 0, 1) ∧ decode cX12_backOf 14 = .ok (.baload, 1) ∧ decode cX12_backOf 15 = .ok (.ifCond .eq 11, 3) ∧ decode cX12_backOf 26 = .ok (.iconst 3, 1) ∧ decode cX12_backOf 27 = .ok (.istore 5, 2) ∧ decode cX12_backOf 29 = .ok (.iload 5, 2) ∧ decode cX12_backOf 31 = .ok (.ifCond .ge 7, 3) ∧ decode cX12_backOf 38 = .ok (.iload 5, 2) ∧ decode cX12_backOf 40 = .ok (.iload 4, 2) ∧ decode cX12_backOf 42 = .ok (.if_icmp .le 8, 3) := by decide +kernel
theorem dX12_backOf_9 : decode cX12_backOf 9 = .ok (.aload_n 0, 1) := gdX12_backOf_9.1
theorem dX12_backOf_10 : decode cX12_backOf 10 = .ok (.getfield 49, 3) := gdX12_backOf_9.2.1
theorem dX12_backOf_13 : decode cX12_backOf 13 = .ok (.iconst 0, 1) := gdX12_backOf_9.2.2.1
theorem dX12_backOf_14 : decode cX12_backOf 14 = .ok (.baload, 1) := gdX12_backOf_9.2.2.2.1
theorem dX12_backOf_15 : decode cX12_backOf 15 = .ok (.ifCond .eq 11, 3) := gdX12_backOf_9.2.2.2.2.1
theorem dX12_backOf_26 : decode cX12_backOf 26 = .ok (.iconst 3, 1) := gdX12_backOf_9.2.2.2.2.2.1
theorem dX12_backOf_27 : decode cX12_backOf 27 = .ok (.istore 5, 2) := gdX12_backOf_9.2.2.2.2.2.2.1
theorem dX12_backOf_29 : decode cX12_backOf 29 = .ok (.iload 5, 2) := gdX12_backOf_9.2.2.2.2.2.2.2.1
theorem dX12_backOf_31 : decode cX12_backOf 31 = .ok (.ifCond .ge 7, 3) := gdX12_backOf_9.2.2.2.2.2.2.2.2.1
theorem dX12_backOf_38 : decode cX12_backOf 38 = .ok (.iload 5, 2) := gdX12_backOf_9.2.2.2.2.2.2.2.2.2.1
theorem dX12_backOf_40 : decode cX12_backOf 40 = .ok (.iload 4, 2) := gdX12_backOf_9.2.2.2.2.2.2.2.2.2.2.1
theorem dX12_backOf_42 : decode cX12_backOf 42 = .ok (.if_icmp .le 8, 3) := gdX12_backOf_9.2.2.2.2.2.2.2.2.2.2.2
theorem gdX12_backOf_50 : decode cX12_backOf 50 = .ok (.iload 5, 2) ∧ decode cX12_backOf 52 = .ok (.ireturn, 1) ∧ decode cX12_backOf 45 = .ok (.iload 4, 2) ∧ decode cX12_backOf 47 = .ok (.goto 5, 3) ∧ decode cX12_backOf 18 = .ok (.aload_n 0, 1) ∧ decode cX12_backOf 19 = .ok (.iconst 0, 1) ∧ decode cX12_backOf 20 = .ok (.invokevirtual 471, 3) := by decide +kernel
theorem dX12_backOf_50 : decode cX12_backOf 50 = .ok (.iload 5, 2) := gdX12_backOf_50.1
theorem dX12_backOf_52 : decode cX12_backOf 52 = .ok (.ireturn, 1) := gdX12_backOf_50.2.1
theorem dX12_backOf_45 : decode cX12_backOf 45 = .ok (.iload 4, 2) := gdX12_backOf_50.2.2.1
theorem dX12_backOf_47 : decode cX12_backOf 47 = .ok (.goto 5, 3) := gdX12_backOf_50.2.2.2.1
theorem dX12_backOf_18 : decode cX12_backOf 18 = .ok (.aload_n 0, 1) := gdX12_backOf_50.2.2.2.2.1
theorem dX12_backOf_19 : decode cX12_backOf 19 = .ok (.iconst 0, 1) := gdX12_backOf_50.2.2.2.2.2.1
theorem dX12_backOf_20 : decode cX12_backOf 20 = .ok (.invokevirtual 471, 3) := gdX12_backOf_50.2.2.2.2.2.2
theorem k_X12_471 : xV RX12 RX12 471 yX12_worked cX12_worked 4 (some .int) 1 := ⟨⟨m_1971, m_1973, m_113, m_146, m_1974⟩, rfl, by decide, by decide, by decide +kernel⟩
theorem gdX12_backOf_23 : decode cX12_backOf 23 = .ok (.goto 4, 3) ∧ decode cX12_backOf 34 = .ok (.iconst 0, 1) ∧ decode cX12_backOf 35 = .ok (.goto 17, 3) := by decide +kernel
theorem dX12_backOf_23 : decode cX12_backOf 23 = .ok (.goto 4, 3) := gdX12_backOf_23.1
theorem dX12_backOf_34 : decode cX12_backOf 34 = .ok (.iconst 0, 1) := gdX12_backOf_23.2.1
theorem dX12_backOf_35 : decode cX12_backOf 35 = .ok (.goto 17, 3) := gdX12_backOf_23.2.2
set_option maxHeartbeats 1000000 in
set_option maxRecDepth 100000 in
theorem r_backOf (l : Launch) (D : va_G) (cy : Nat → ClassId) (m0 : Nat) (Mtape : Nat) (MnName : Nat) (MnStep : Nat) (MnArg : Nat) (MnMany : Nat) (Mstep : Nat) (Marg : Nat) (Mmany : Nat) (Mopen : Nat) (Mvalues : Nat) (MnHasForm : Nat) (MhasForm : Nat) (Masks : Nat) (MnLoud : Nat) (MnCliffAt : Nat) (MnSnow : Nat) (MnManAt : Nat) (MnVoice : Nat) (MnOn : Nat) (Mloud : Nat) (McliffAt : Nat) (MsnowTold : Nat) (MmanAt : Nat) (Mvoice : Nat) (Mon : Nat) (MnYes : Nat) (Myes : Nat) (Mnow : Nat) (Mcry : Nat) (Msnow : Nat) (Mecho : Nat) (Mwere : Nat) (Mlies : Nat) (Mspots : Nat) (Msteps : Nat) (MfromState : Nat) (MbyWord : Nat) (Mqueue : Nat) (MsoundCliff : Nat) (MsoundLong : Nat) (MsoundCame : Nat) (MsoundTold : Nat) (MsoundUntold : Nat) (Mstands : Nat) (Mtally : Nat) (MhasBox : Nat) (Mboxes : Nat) (Itaped : Nat) (Ifault : Nat) (IfaultPlace : Int32) (Iat : Nat) (Isize : Nat) (Isort : Int32) (Iplace : Int32) (Inumber : Int32) (Iword : Int64) (Gstep : Nat → Int32) (Garg : Nat → Int32) (Gmany : Nat → Int32) (Gvalues : Nat → Int32) (GhasForm : Nat → Int32) (Iform : Nat) (Iopens : Nat) (InUnits : Nat) (Iunits : Int32) (IownUnits : Nat) (Ideep : Nat) (Gasks : Nat → Int32) (InWords : Nat) (InCliffs : Nat) (InMen : Nat) (InStates : Nat) (InOns : Nat) (InWind : Int32) (InDraw : Int32) (Iwords : Nat) (Icliffs : Nat) (Imen : Nat) (Istates : Nat) (Ions : Int32) (IwindTold : Int32) (InHasWind : Int32) (InHasDraw : Int32) (IcryMany : Nat) (IcallPlace : Int32) (IcallVoice : Int32) (Iwind : Int32) (Ichance : Int32) (IechoMany : Nat) (Iacts : Nat) (Iundone : Nat) (Ilain : Nat) (Isounds : Nat) (Itime : Int32) (IstandMany : Int32) (am : Nat → Nat) (AH : Nat → Nat → Nat) (xa : Int32) (xb : Int32) (xc9 : Int32) (ln : Nat) (gtp : Itaped ≤ 1600) (gat : Iat ≤ Isize) (gsz : Isize ≤ 1600) (gfl : Ifault ≤ 5) (gfo : Iform ≤ 2) (gnw : InWords ≤ 8) (gnc : InCliffs ≤ 4) (gnm : InMen ≤ 4) (gns : InStates ≤ 6) (gw : Iwords ≤ 8) (gc9 : Icliffs ≤ 4) (gm : Imen ≤ 4) (gs : Istates ≤ 6) (gcm : IcryMany ≤ 10) (gem : IechoMany ≤ 20) (gau : Iacts + Iundone ≤ 40) (gla : Ilain ≤ 20) (gso : Isounds ≤ 30) (gop : Iopens ≤ 40) (gde : Ideep ≤ 8) (gou : IownUnits ≤ 31) (gnu : InUnits ≤ 61) (gno : InOns ≤ 30) (gal2 : allR Gstep Garg Gmany am AH) (hln : ln ≤ 10) : XMi l D (tyL cy) E0 yX12_backOf cX12_backOf 6 (some .int) (rmk 3 0 0) [.ref m0, .int xa, .int xb, .int xc9, .int (nI ln)] [wO m0 12 [.ref Mtape, .int (nI Itaped), .int (nI Ifault), .int IfaultPlace, .int (nI Iat), .int (nI Isize), .int Isort, .int Iplace, .int Inumber, .long Iword, .ref MnName, .ref MnStep, .ref MnArg, .ref MnMany, .ref Mstep, .ref Marg, .ref Mmany, .ref Mopen, .ref Mvalues, .ref MnHasForm, .ref MhasForm, .int (nI Iform), .int (nI Iopens), .int (nI InUnits), .int Iunits, .int (nI IownUnits), .int (nI Ideep), .ref Masks, .ref MnLoud, .ref MnCliffAt, .ref MnSnow, .ref MnManAt, .ref MnVoice, .ref MnOn, .ref Mloud, .ref McliffAt, .ref MsnowTold, .ref MmanAt, .ref Mvoice, .ref Mon, .ref MnYes, .ref Myes, .int (nI InWords), .int (nI InCliffs), .int (nI InMen), .int (nI InStates), .int (nI InOns), .int InWind, .int InDraw, .int (nI Iwords), .int (nI Icliffs), .int (nI Imen), .int (nI Istates), .int Ions, .int IwindTold, .int InHasWind, .int InHasDraw, .ref Mnow, .ref Mcry, .ref Msnow, .ref Mecho, .int (nI IcryMany), .int IcallPlace, .int IcallVoice, .int Iwind, .int Ichance, .int (nI IechoMany), .ref Mwere, .int (nI Iacts), .int (nI Iundone), .ref Mlies, .int (nI Ilain), .ref Mspots, .ref Msteps, .ref MfromState, .ref MbyWord, .ref Mqueue, .ref MsoundCliff, .ref MsoundLong, .ref MsoundCame, .ref MsoundTold, .ref MsoundUntold, .int (nI Isounds), .int Itime, .ref Mstands, .int IstandMany, .ref Mtally, .ref MhasBox, .ref Mboxes], wI (cy 1) Mstep 960 (Gstep), wI (cy 1) Marg 960 (Garg), wI (cy 1) Mmany 3 (Gmany), wI (cy 1) Mvalues 64 (Gvalues), wI (cy 1) Masks 7 (Gasks), wI (cy 3) MhasForm 3 (GhasForm)] (fun (r : Int32) (u : (Nat → Int32) × (Nat → Int32) × Nat) => (r = nI u.2.2) ∧ (u.2.2 ≤ ln)) (fun (u : (Nat → Int32) × (Nat → Int32) × Nat) => [wO m0 12 [.ref Mtape, .int (nI Itaped), .int (nI Ifault), .int IfaultPlace, .int (nI Iat), .int (nI Isize), .int Isort, .int Iplace, .int Inumber, .long Iword, .ref MnName, .ref MnStep, .ref MnArg, .ref MnMany, .ref Mstep, .ref Marg, .ref Mmany, .ref Mopen, .ref Mvalues, .ref MnHasForm, .ref MhasForm, .int (nI Iform), .int (nI Iopens), .int (nI InUnits), .int Iunits, .int (nI IownUnits), .int (nI Ideep), .ref Masks, .ref MnLoud, .ref MnCliffAt, .ref MnSnow, .ref MnManAt, .ref MnVoice, .ref MnOn, .ref Mloud, .ref McliffAt, .ref MsnowTold, .ref MmanAt, .ref Mvoice, .ref Mon, .ref MnYes, .ref Myes, .int (nI InWords), .int (nI InCliffs), .int (nI InMen), .int (nI InStates), .int (nI InOns), .int InWind, .int InDraw, .int (nI Iwords), .int (nI Icliffs), .int (nI Imen), .int (nI Istates), .int Ions, .int IwindTold, .int InHasWind, .int InHasDraw, .ref Mnow, .ref Mcry, .ref Msnow, .ref Mecho, .int (nI IcryMany), .int IcallPlace, .int IcallVoice, .int Iwind, .int Ichance, .int (nI IechoMany), .ref Mwere, .int (nI Iacts), .int (nI Iundone), .ref Mlies, .int (nI Ilain), .ref Mspots, .ref Msteps, .ref MfromState, .ref MbyWord, .ref Mqueue, .ref MsoundCliff, .ref MsoundLong, .ref MsoundCame, .ref MsoundTold, .ref MsoundUntold, .int (nI Isounds), .int Itime, .ref Mstands, .int IstandMany, .ref Mtally, .ref MhasBox, .ref Mboxes], wI (cy 1) Mstep 960 (Gstep), wI (cy 1) Marg 960 (Garg), wI (cy 1) Mmany 3 (Gmany), wI (cy 1) Mvalues 64 (u.1), wI (cy 1) Masks 7 (u.2.1), wI (cy 3) MhasForm 3 (GhasForm)]) := by
  refine XMi.start (by decide) (Nat.le_of_ble_eq_true rfl) ?_
  intro p e s m below meth c args A ls Q hat hQ
  obtain ⟨hx, hb, hr, hml, hown, hg, hlocks, hin, hK, hA, hP, hD, hS, hE, hl⟩ := hat
  have hown : s.vm.findClass RX12 = some m.cls := hown
  have hl : lv_has ls 6 [(0, .ref m0), (1, .int xa), (2, .int xb), (3, .int xc9), (4, .int (nI ln))] := hl
  refine lv_aload_n hx hb dX12_backOf_0 rfl (lv_at hl 0 rfl) ?_
  refine lv_iload_n hx hb dX12_backOf_1 rfl (lv_at hl 1 rfl) ?_
  refine lv_iload_n hx hb dX12_backOf_2 rfl (lv_at hl 2 rfl) ?_
  refine lv_iload_n hx hb dX12_backOf_3 rfl (lv_at hl 3 rfl) ?_
  refine lv_iload hx hb dX12_backOf_4 (lv_at hl 4 rfl) ?_
  refine x_callVv (q := (RX12, TX12, 89)) (ci := 12) (q0 := 0) (wr := [wI (cy 1) Mstep 960 (Gstep), wI (cy 1) Marg 960 (Garg), wI (cy 1) Mmany 3 (Gmany), wI (cy 1) Mvalues 64 (Gvalues), wI (cy 3) MhasForm 3 (GhasForm)]) (rest := []) ⟨hx, hb, hml, hown, hg, hl.1⟩ k_X12_467 (r_askOf l D cy m0 Mtape MnName MnStep MnArg MnMany Mstep Marg Mmany Mopen Mvalues MnHasForm MhasForm Masks MnLoud MnCliffAt MnSnow MnManAt MnVoice MnOn Mloud McliffAt MsnowTold MmanAt Mvoice Mon MnYes Myes Mnow Mcry Msnow Mecho Mwere Mlies Mspots Msteps MfromState MbyWord Mqueue MsoundCliff MsoundLong MsoundCame MsoundTold MsoundUntold Mstands Mtally MhasBox Mboxes Itaped Ifault IfaultPlace Iat Isize Isort Iplace Inumber Iword Iform Iopens InUnits Iunits IownUnits Ideep Gasks InWords InCliffs InMen InStates InOns InWind InDraw Iwords Icliffs Imen Istates Ions IwindTold InHasWind InHasDraw IcryMany IcallPlace IcallVoice Iwind Ichance IechoMany Iacts Iundone Ilain Isounds Itime IstandMany xa xb xc9 (nI ln) (by first | assumption | omega) (by first | assumption | omega) (by first | assumption | omega) (by first | assumption | omega) (by first | assumption | omega) (by first | assumption | omega) (by first | assumption | omega) (by first | assumption | omega) (by first | assumption | omega) (by first | assumption | omega) (by first | assumption | omega) (by first | assumption | omega) (by first | assumption | omega) (by first | assumption | omega) (by first | assumption | omega) (by first | assumption | omega) (by first | assumption | omega) (by first | assumption | omega) (by first | assumption | omega) (by first | assumption | omega) (by first | assumption | omega) (by first | assumption | omega) (by first | assumption | omega)) E0_blind hK hP hD hS hA [0, 5] [1, 2, 3, 4, 6] ⟨rfl, rfl, by decide +kernel, by decide +kernel, by decide +kernel⟩ rfl rfl (fun _ _ _ => trivial) dX12_backOf_6 rfl rfl (Nat.le_of_ble_eq_true rfl) ⟨Nat.le_of_ble_eq_true rfl, Nat.le_of_ble_eq_true rfl⟩ ⟨Nat.le_of_ble_eq_true rfl, Nat.le_of_ble_eq_true rfl⟩ (fun zu1 H locs hw1 hP9 hD9 hS9 => ?_)
  clear hP hD hS
  obtain ⟨Gasks2_2, rfl⟩ : ∃ z, z = zu1 := ⟨_, rfl⟩
  refine reW [wI (cy 1) Mstep 960 (Gstep), wI (cy 1) Marg 960 (Garg), wI (cy 1) Mmany 3 (Gmany), wI (cy 1) Mvalues 64 (Gvalues), wI (cy 3) MhasForm 3 (GhasForm), wO m0 12 [.ref Mtape, .int (nI Itaped), .int (nI Ifault), .int IfaultPlace, .int (nI Iat), .int (nI Isize), .int Isort, .int Iplace, .int Inumber, .long Iword, .ref MnName, .ref MnStep, .ref MnArg, .ref MnMany, .ref Mstep, .ref Marg, .ref Mmany, .ref Mopen, .ref Mvalues, .ref MnHasForm, .ref MhasForm, .int (nI Iform), .int (nI Iopens), .int (nI InUnits), .int Iunits, .int (nI IownUnits), .int (nI Ideep), .ref Masks, .ref MnLoud, .ref MnCliffAt, .ref MnSnow, .ref MnManAt, .ref MnVoice, .ref MnOn, .ref Mloud, .ref McliffAt, .ref MsnowTold, .ref MmanAt, .ref Mvoice, .ref Mon, .ref MnYes, .ref Myes, .int (nI InWords), .int (nI InCliffs), .int (nI InMen), .int (nI InStates), .int (nI InOns), .int InWind, .int InDraw, .int (nI Iwords), .int (nI Icliffs), .int (nI Imen), .int (nI Istates), .int Ions, .int IwindTold, .int InHasWind, .int InHasDraw, .ref Mnow, .ref Mcry, .ref Msnow, .ref Mecho, .int (nI IcryMany), .int IcallPlace, .int IcallVoice, .int Iwind, .int Ichance, .int (nI IechoMany), .ref Mwere, .int (nI Iacts), .int (nI Iundone), .ref Mlies, .int (nI Ilain), .ref Mspots, .ref Msteps, .ref MfromState, .ref MbyWord, .ref Mqueue, .ref MsoundCliff, .ref MsoundLong, .ref MsoundCame, .ref MsoundTold, .ref MsoundUntold, .int (nI Isounds), .int Itime, .ref Mstands, .int IstandMany, .ref Mtally, .ref MhasBox, .ref Mboxes], wI (cy 1) Masks 7 (Gasks2_2)] hP9 hD9 hS9 (fun hP hD hS => ?_)
  clear hP9 hD9 hS9
  refine W.widen (k := 0) (n := 0) (Nat.le_of_ble_eq_true rfl) (Nat.le_of_ble_eq_true rfl) ?_
  refine lv_aload_n hx hb dX12_backOf_9 rfl (lv_at hl 0 rfl) ?_
  refine va_get (D := D) (ci := 12) (v := .ref MhasForm) (C := RX12) (T := TX12) (N := 89) hx hb hg i_X12 hown hK hP 5 rfl rfl 20 (by decide) (hg _ m_1433) (fun _ h9 => h9) rfl dX12_backOf_10 ?_
  refine lv_iconst (v := 0) hx hb dX12_backOf_13 (by decide) ?_
  refine va_zald hx hb hK hP 4 3 rfl rfl (by unfold vp_in; decide) dX12_backOf_14 ?_
  refine lv_topi (fun x_3 ex_3 => ?_)
  refine lv_if_eq (tgt := 26) hx hb dX12_backOf_15 (by decide) (fun c_15 => ?_) (fun c_15 => ?_)
  · refine lv_iconst (v := 3) hx hb dX12_backOf_26 (by decide) ?_
    refine lv_istore (lv' := [(5, .int 3), (0, .ref m0), (1, .int xa), (2, .int xb), (3, .int xc9), (4, .int (nI ln))]) hx hb dX12_backOf_27 hl (by decide) rfl (fun ls hl => ?_)
    refine lv_iload hx hb dX12_backOf_29 (lv_at hl 0 rfl) ?_
    refine lv_if_ge (tgt := 38) hx hb dX12_backOf_31 (by decide) (fun _ => ?_) (fun h => absurd (by decide) h)
    refine lv_iload hx hb dX12_backOf_38 (lv_at hl 0 rfl) ?_
    refine lv_iload hx hb dX12_backOf_40 (lv_at hl 5 rfl) ?_
    refine lv_icmp_le (tgt := 50) hx hb dX12_backOf_42 (by decide) (fun c_4 => ?_) (fun c_4 => ?_)
    · have q_5 : 3 ≤ ln := q_le (a := 3) (b := ln) rfl rfl (by omega) (by omega) c_4
      refine lv_iload hx hb dX12_backOf_50 (lv_at hl 0 rfl) ?_
      exact x_iret hQ hx hb hr hlocks hK hP hD hS dX12_backOf_52 (Gvalues, Gasks2_2, 3) (⟨rfl, (show 3 ≤ ln from by first | assumption | omega)⟩) [5, 0, 1, 2, 3, 6, 4] (by decide +kernel) rfl (Nat.le_of_ble_eq_true rfl) (Nat.le_of_ble_eq_true rfl)
    · have q_5 : ln < 3 := q_nle (a := 3) (b := ln) rfl rfl (by omega) (by omega) c_4
      refine lv_iload hx hb dX12_backOf_45 (lv_at hl 5 rfl) ?_
      refine lv_goto (tgt := 52) hx hb dX12_backOf_47 (by decide) ?_
      exact x_iret hQ hx hb hr hlocks hK hP hD hS dX12_backOf_52 (Gvalues, Gasks2_2, ln) (⟨rfl, (show ln ≤ ln from by first | assumption | omega)⟩) [5, 0, 1, 2, 3, 6, 4] (by decide +kernel) rfl (Nat.le_of_ble_eq_true rfl) (Nat.le_of_ble_eq_true rfl)
  · refine lv_aload_n hx hb dX12_backOf_18 rfl (lv_at hl 0 rfl) ?_
    refine lv_iconst (v := 0) hx hb dX12_backOf_19 (by decide) ?_
    refine x_callVi (q := (RX12, TX12, 89)) (ci := 12) (q0 := 0) (wr := [wI (cy 3) MhasForm 3 (GhasForm)]) (rest := []) ⟨hx, hb, hml, hown, hg, hl.1⟩ k_X12_471 (r_worked l D cy m0 Mtape MnName MnStep MnArg MnMany Mstep Marg Mmany Mopen Mvalues MnHasForm MhasForm Masks MnLoud MnCliffAt MnSnow MnManAt MnVoice MnOn Mloud McliffAt MsnowTold MmanAt Mvoice Mon MnYes Myes Mnow Mcry Msnow Mecho Mwere Mlies Mspots Msteps MfromState MbyWord Mqueue MsoundCliff MsoundLong MsoundCame MsoundTold MsoundUntold Mstands Mtally MhasBox Mboxes Itaped Ifault IfaultPlace Iat Isize Isort Iplace Inumber Iword Gstep Garg Gmany Gvalues Iform Iopens InUnits Iunits IownUnits Ideep Gasks2_2 InWords InCliffs InMen InStates InOns InWind InDraw Iwords Icliffs Imen Istates Ions IwindTold InHasWind InHasDraw IcryMany IcallPlace IcallVoice Iwind Ichance IechoMany Iacts Iundone Ilain Isounds Itime IstandMany am AH 0 (by first | assumption | omega) (by first | assumption | omega) (by first | assumption | omega) (by first | assumption | omega) (by first | assumption | omega) (by first | assumption | omega) (by first | assumption | omega) (by first | assumption | omega) (by first | assumption | omega) (by first | assumption | omega) (by first | assumption | omega) (by first | assumption | omega) (by first | assumption | omega) (by first | assumption | omega) (by first | assumption | omega) (by first | assumption | omega) (by first | assumption | omega) (by first | assumption | omega) (by first | assumption | omega) (by first | assumption | omega) (by first | assumption | omega) (by first | assumption | omega) (by first | assumption | omega) (gal2) (by first | assumption | omega)) E0_blind hK hP hD hS hA [5, 0, 1, 2, 3, 6] [4] ⟨rfl, rfl, by decide +kernel, by decide +kernel, by decide +kernel⟩ rfl rfl (fun _ _ _ => trivial) dX12_backOf_20 rfl rfl (Nat.le_of_ble_eq_true rfl) ⟨Nat.le_of_ble_eq_true rfl, Nat.le_of_ble_eq_true rfl⟩ ⟨Nat.le_of_ble_eq_true rfl, Nat.le_of_ble_eq_true rfl⟩ (fun zr6 zu6 H locs hw6 hP9 hD9 hS9 => ?_)
    clear hP hD hS
    obtain ⟨Gvalues2_7, rfl⟩ : ∃ z, z = zu6 := ⟨_, rfl⟩
    refine reW [wI (cy 3) MhasForm 3 (GhasForm), wO m0 12 [.ref Mtape, .int (nI Itaped), .int (nI Ifault), .int IfaultPlace, .int (nI Iat), .int (nI Isize), .int Isort, .int Iplace, .int Inumber, .long Iword, .ref MnName, .ref MnStep, .ref MnArg, .ref MnMany, .ref Mstep, .ref Marg, .ref Mmany, .ref Mopen, .ref Mvalues, .ref MnHasForm, .ref MhasForm, .int (nI Iform), .int (nI Iopens), .int (nI InUnits), .int Iunits, .int (nI IownUnits), .int (nI Ideep), .ref Masks, .ref MnLoud, .ref MnCliffAt, .ref MnSnow, .ref MnManAt, .ref MnVoice, .ref MnOn, .ref Mloud, .ref McliffAt, .ref MsnowTold, .ref MmanAt, .ref Mvoice, .ref Mon, .ref MnYes, .ref Myes, .int (nI InWords), .int (nI InCliffs), .int (nI InMen), .int (nI InStates), .int (nI InOns), .int InWind, .int InDraw, .int (nI Iwords), .int (nI Icliffs), .int (nI Imen), .int (nI Istates), .int Ions, .int IwindTold, .int InHasWind, .int InHasDraw, .ref Mnow, .ref Mcry, .ref Msnow, .ref Mecho, .int (nI IcryMany), .int IcallPlace, .int IcallVoice, .int Iwind, .int Ichance, .int (nI IechoMany), .ref Mwere, .int (nI Iacts), .int (nI Iundone), .ref Mlies, .int (nI Ilain), .ref Mspots, .ref Msteps, .ref MfromState, .ref MbyWord, .ref Mqueue, .ref MsoundCliff, .ref MsoundLong, .ref MsoundCame, .ref MsoundTold, .ref MsoundUntold, .int (nI Isounds), .int Itime, .ref Mstands, .int IstandMany, .ref Mtally, .ref MhasBox, .ref Mboxes], wI (cy 1) Mstep 960 (Gstep), wI (cy 1) Marg 960 (Garg), wI (cy 1) Mmany 3 (Gmany), wI (cy 1) Mvalues 64 (Gvalues2_7), wI (cy 1) Masks 7 (Gasks2_2)] hP9 hD9 hS9 (fun hP hD hS => ?_)
    clear hP9 hD9 hS9
    refine W.widen (k := 0) (n := 0) (Nat.le_of_ble_eq_true rfl) (Nat.le_of_ble_eq_true rfl) ?_
    change True at hw6
    refine lv_goto (tgt := 27) hx hb dX12_backOf_23 (by decide) ?_
    refine lv_istore (lv' := [(5, .int zr6), (0, .ref m0), (1, .int xa), (2, .int xb), (3, .int xc9), (4, .int (nI ln))]) hx hb dX12_backOf_27 hl (by decide) rfl (fun ls hl => ?_)
    refine lv_iload hx hb dX12_backOf_29 (lv_at hl 0 rfl) ?_
    refine lv_if_ge (tgt := 38) hx hb dX12_backOf_31 (by decide) (fun c_31 => ?_) (fun c_31 => ?_)
    · refine lv_iload hx hb dX12_backOf_38 (lv_at hl 0 rfl) ?_
      refine lv_iload hx hb dX12_backOf_40 (lv_at hl 5 rfl) ?_
      refine lv_icmp_le (tgt := 50) hx hb dX12_backOf_42 (by decide) (fun c_42 => ?_) (fun c_42 => ?_)
      · obtain ⟨j_8, hj_8, ej_8⟩ := hasle (by omega) (fun h9 => absurd c_31 (by rw [fa_le]; rw [fa_lt] at h9; omega)) c_42
        subst ej_8
        refine lv_iload hx hb dX12_backOf_50 (lv_at hl 0 rfl) ?_
        exact x_iret hQ hx hb hr hlocks hK hP hD hS dX12_backOf_52 (Gvalues2_7, Gasks2_2, j_8) (⟨rfl, (show j_8 ≤ ln from by first | assumption | omega)⟩) [1, 2, 3, 4, 5, 6, 0] (by decide +kernel) rfl (Nat.le_of_ble_eq_true rfl) (Nat.le_of_ble_eq_true rfl)
      · refine lv_iload hx hb dX12_backOf_45 (lv_at hl 5 rfl) ?_
        refine lv_goto (tgt := 52) hx hb dX12_backOf_47 (by decide) ?_
        exact x_iret hQ hx hb hr hlocks hK hP hD hS dX12_backOf_52 (Gvalues2_7, Gasks2_2, ln) (⟨rfl, (show ln ≤ ln from by first | assumption | omega)⟩) [1, 2, 3, 4, 5, 6, 0] (by decide +kernel) rfl (Nat.le_of_ble_eq_true rfl) (Nat.le_of_ble_eq_true rfl)
    · refine lv_iconst (v := 0) hx hb dX12_backOf_34 (by decide) ?_
      refine lv_goto (tgt := 52) hx hb dX12_backOf_35 (by decide) ?_
      exact x_iret hQ hx hb hr hlocks hK hP hD hS dX12_backOf_52 (Gvalues2_7, Gasks2_2, 0) (⟨rfl, (show 0 ≤ ln from by first | assumption | omega)⟩) [1, 2, 3, 4, 5, 6, 0] (by decide +kernel) rfl (Nat.le_of_ble_eq_true rfl) (Nat.le_of_ble_eq_true rfl)
theorem gdX12_isLost_0 : decode cX12_isLost 0 = .ok (.aload_n 0, 1) ∧ decode cX12_isLost 1 = .ok (.getfield 49, 3) ∧ decode cX12_isLost 4 = .ok (.iconst 1, 1) ∧ decode cX12_isLost 5 = .ok (.baload, 1) ∧ decode cX12_isLost 6 = .ok (.ifCond .ne 5, 3) ∧ decode cX12_isLost 11 = .ok (.aload_n 0, 1) ∧ decode cX12_isLost 12 = .ok (.aload_n 0, 1) ∧ decode cX12_isLost 13 = .ok (.iload_n 1, 1) ∧ decode cX12_isLost 14 = .ok (.invokevirtual 474, 3) := by decide +kernel
theorem dX12_isLost_0 : decode cX12_isLost 0 = .ok (.aload_n 0, 1) := gdX12_isLost_0.1
theorem dX12_isLost_1 : decode cX12_isLost 1 = .ok (.getfield 49, 3) := gdX12_isLost_0.2.1
theorem dX12_isLost_4 : decode cX12_isLost 4 = .ok (.iconst 1, 1) := gdX12_isLost_0.2.2.1
theorem dX12_isLost_5 : decode cX12_isLost 5 = .ok (.baload, 1) := gdX12_isLost_0.2.2.2.1
theorem dX12_isLost_6 : decode cX12_isLost 6 = .ok (.ifCond .ne 5, 3) := gdX12_isLost_0.2.2.2.2.1
theorem dX12_isLost_11 : decode cX12_isLost 11 = .ok (.aload_n 0, 1) := gdX12_isLost_0.2.2.2.2.2.1
theorem dX12_isLost_12 : decode cX12_isLost 12 = .ok (.aload_n 0, 1) := gdX12_isLost_0.2.2.2.2.2.2.1
theorem dX12_isLost_13 : decode cX12_isLost 13 = .ok (.iload_n 1, 1) := gdX12_isLost_0.2.2.2.2.2.2.2.1
theorem dX12_isLost_14 : decode cX12_isLost 14 = .ok (.invokevirtual 474, 3) := gdX12_isLost_0.2.2.2.2.2.2.2.2
theorem k_X12_474 : xV RX12 RX12 474 yX12_farOf cX12_farOf 2 (some .int) 1 := ⟨⟨m_1956, m_1958, m_110, m_146, m_1959⟩, rfl, by decide, by decide, by decide +kernel⟩
theorem gdX12_isLost_17 : decode cX12_isLost 17 = .ok (.aload_n 0, 1) ∧ decode cX12_isLost 18 = .ok (.getfield 440, 3) ∧ decode cX12_isLost 21 = .ok (.aload_n 0, 1) ∧ decode cX12_isLost 22 = .ok (.getfield 103, 3) ∧ decode cX12_isLost 25 = .ok (.iload_n 1, 1) ∧ decode cX12_isLost 26 = .ok (.iaload, 1) ∧ decode cX12_isLost 27 = .ok (.aload_n 0, 1) ∧ decode cX12_isLost 28 = .ok (.getfield 446, 3) ∧ decode cX12_isLost 31 = .ok (.invokevirtual 467, 3) ∧ decode cX12_isLost 34 = .ok (.aload_n 0, 1) ∧ decode cX12_isLost 35 = .ok (.getfield 52, 3) ∧ decode cX12_isLost 38 = .ok (.iconst 4, 1) := by decide +kernel
theorem dX12_isLost_17 : decode cX12_isLost 17 = .ok (.aload_n 0, 1) := gdX12_isLost_17.1
theorem dX12_isLost_18 : decode cX12_isLost 18 = .ok (.getfield 440, 3) := gdX12_isLost_17.2.1
theorem dX12_isLost_21 : decode cX12_isLost 21 = .ok (.aload_n 0, 1) := gdX12_isLost_17.2.2.1
theorem dX12_isLost_22 : decode cX12_isLost 22 = .ok (.getfield 103, 3) := gdX12_isLost_17.2.2.2.1
theorem dX12_isLost_25 : decode cX12_isLost 25 = .ok (.iload_n 1, 1) := gdX12_isLost_17.2.2.2.2.1
theorem dX12_isLost_26 : decode cX12_isLost 26 = .ok (.iaload, 1) := gdX12_isLost_17.2.2.2.2.2.1
theorem dX12_isLost_27 : decode cX12_isLost 27 = .ok (.aload_n 0, 1) := gdX12_isLost_17.2.2.2.2.2.2.1
theorem dX12_isLost_28 : decode cX12_isLost 28 = .ok (.getfield 446, 3) := gdX12_isLost_17.2.2.2.2.2.2.2.1
theorem dX12_isLost_31 : decode cX12_isLost 31 = .ok (.invokevirtual 467, 3) := gdX12_isLost_17.2.2.2.2.2.2.2.2.1
theorem dX12_isLost_34 : decode cX12_isLost 34 = .ok (.aload_n 0, 1) := gdX12_isLost_17.2.2.2.2.2.2.2.2.2.1
theorem dX12_isLost_35 : decode cX12_isLost 35 = .ok (.getfield 52, 3) := gdX12_isLost_17.2.2.2.2.2.2.2.2.2.2.1
theorem dX12_isLost_38 : decode cX12_isLost 38 = .ok (.iconst 4, 1) := gdX12_isLost_17.2.2.2.2.2.2.2.2.2.2.2
theorem gdX12_isLost_39 : decode cX12_isLost 39 = .ok (.aload_n 0, 1) ∧ decode cX12_isLost 40 = .ok (.getfield 73, 3) ∧ decode cX12_isLost 43 = .ok (.aload_n 0, 1) ∧ decode cX12_isLost 44 = .ok (.getfield 100, 3) ∧ decode cX12_isLost 47 = .ok (.iload_n 2, 1) ∧ decode cX12_isLost 48 = .ok (.iaload, 1) ∧ decode cX12_isLost 49 = .ok (.iaload, 1) ∧ decode cX12_isLost 50 = .ok (.aload_n 0, 1) ∧ decode cX12_isLost 51 = .ok (.getfield 452, 3) ∧ decode cX12_isLost 54 = .ok (.iadd, 1) ∧ decode cX12_isLost 55 = .ok (.iastore, 1) ∧ decode cX12_isLost 56 = .ok (.aload_n 0, 1) := by decide +kernel
theorem dX12_isLost_39 : decode cX12_isLost 39 = .ok (.aload_n 0, 1) := gdX12_isLost_39.1
theorem dX12_isLost_40 : decode cX12_isLost 40 = .ok (.getfield 73, 3) := gdX12_isLost_39.2.1
theorem dX12_isLost_43 : decode cX12_isLost 43 = .ok (.aload_n 0, 1) := gdX12_isLost_39.2.2.1
theorem dX12_isLost_44 : decode cX12_isLost 44 = .ok (.getfield 100, 3) := gdX12_isLost_39.2.2.2.1
theorem dX12_isLost_47 : decode cX12_isLost 47 = .ok (.iload_n 2, 1) := gdX12_isLost_39.2.2.2.2.1
theorem dX12_isLost_48 : decode cX12_isLost 48 = .ok (.iaload, 1) := gdX12_isLost_39.2.2.2.2.2.1
theorem dX12_isLost_49 : decode cX12_isLost 49 = .ok (.iaload, 1) := gdX12_isLost_39.2.2.2.2.2.2.1
theorem dX12_isLost_50 : decode cX12_isLost 50 = .ok (.aload_n 0, 1) := gdX12_isLost_39.2.2.2.2.2.2.2.1
theorem dX12_isLost_51 : decode cX12_isLost 51 = .ok (.getfield 452, 3) := gdX12_isLost_39.2.2.2.2.2.2.2.2.1
theorem dX12_isLost_54 : decode cX12_isLost 54 = .ok (.iadd, 1) := gdX12_isLost_39.2.2.2.2.2.2.2.2.2.1
theorem dX12_isLost_55 : decode cX12_isLost 55 = .ok (.iastore, 1) := gdX12_isLost_39.2.2.2.2.2.2.2.2.2.2.1
theorem dX12_isLost_56 : decode cX12_isLost 56 = .ok (.aload_n 0, 1) := gdX12_isLost_39.2.2.2.2.2.2.2.2.2.2.2
theorem gdX12_isLost_57 : decode cX12_isLost 57 = .ok (.getfield 52, 3) ∧ decode cX12_isLost 60 = .ok (.iconst 5, 1) ∧ decode cX12_isLost 61 = .ok (.aload_n 0, 1) ∧ decode cX12_isLost 62 = .ok (.getfield 446, 3) ∧ decode cX12_isLost 65 = .ok (.iconst 1, 1) ∧ decode cX12_isLost 66 = .ok (.isub, 1) ∧ decode cX12_isLost 67 = .ok (.iload_n 2, 1) ∧ decode cX12_isLost 68 = .ok (.isub, 1) ∧ decode cX12_isLost 69 = .ok (.iastore, 1) ∧ decode cX12_isLost 70 = .ok (.aload_n 0, 1) ∧ decode cX12_isLost 71 = .ok (.getfield 52, 3) ∧ decode cX12_isLost 74 = .ok (.bipush 6, 2) := by decide +kernel
theorem dX12_isLost_57 : decode cX12_isLost 57 = .ok (.getfield 52, 3) := gdX12_isLost_57.1
theorem dX12_isLost_60 : decode cX12_isLost 60 = .ok (.iconst 5, 1) := gdX12_isLost_57.2.1
theorem dX12_isLost_61 : decode cX12_isLost 61 = .ok (.aload_n 0, 1) := gdX12_isLost_57.2.2.1
theorem dX12_isLost_62 : decode cX12_isLost 62 = .ok (.getfield 446, 3) := gdX12_isLost_57.2.2.2.1
theorem dX12_isLost_65 : decode cX12_isLost 65 = .ok (.iconst 1, 1) := gdX12_isLost_57.2.2.2.2.1
theorem dX12_isLost_66 : decode cX12_isLost 66 = .ok (.isub, 1) := gdX12_isLost_57.2.2.2.2.2.1
theorem dX12_isLost_67 : decode cX12_isLost 67 = .ok (.iload_n 2, 1) := gdX12_isLost_57.2.2.2.2.2.2.1
theorem dX12_isLost_68 : decode cX12_isLost 68 = .ok (.isub, 1) := gdX12_isLost_57.2.2.2.2.2.2.2.1
theorem dX12_isLost_69 : decode cX12_isLost 69 = .ok (.iastore, 1) := gdX12_isLost_57.2.2.2.2.2.2.2.2.1
theorem dX12_isLost_70 : decode cX12_isLost 70 = .ok (.aload_n 0, 1) := gdX12_isLost_57.2.2.2.2.2.2.2.2.2.1
theorem dX12_isLost_71 : decode cX12_isLost 71 = .ok (.getfield 52, 3) := gdX12_isLost_57.2.2.2.2.2.2.2.2.2.2.1
theorem dX12_isLost_74 : decode cX12_isLost 74 = .ok (.bipush 6, 2) := gdX12_isLost_57.2.2.2.2.2.2.2.2.2.2.2
theorem gdX12_isLost_76 : decode cX12_isLost 76 = .ok (.aload_n 0, 1) ∧ decode cX12_isLost 77 = .ok (.getfield 443, 3) ∧ decode cX12_isLost 80 = .ok (.iastore, 1) ∧ decode cX12_isLost 81 = .ok (.aload_n 0, 1) ∧ decode cX12_isLost 82 = .ok (.iconst 1, 1) ∧ decode cX12_isLost 83 = .ok (.invokevirtual 471, 3) ∧ decode cX12_isLost 86 = .ok (.ifCond .eq 7, 3) ∧ decode cX12_isLost 93 = .ok (.iconst 0, 1) ∧ decode cX12_isLost 94 = .ok (.ireturn, 1) ∧ decode cX12_isLost 89 = .ok (.iconst 1, 1) ∧ decode cX12_isLost 90 = .ok (.goto 4, 3) ∧ decode cX12_isLost 9 = .ok (.iconst 0, 1) := by decide +kernel
theorem dX12_isLost_76 : decode cX12_isLost 76 = .ok (.aload_n 0, 1) := gdX12_isLost_76.1
theorem dX12_isLost_77 : decode cX12_isLost 77 = .ok (.getfield 443, 3) := gdX12_isLost_76.2.1
theorem dX12_isLost_80 : decode cX12_isLost 80 = .ok (.iastore, 1) := gdX12_isLost_76.2.2.1
theorem dX12_isLost_81 : decode cX12_isLost 81 = .ok (.aload_n 0, 1) := gdX12_isLost_76.2.2.2.1
theorem dX12_isLost_82 : decode cX12_isLost 82 = .ok (.iconst 1, 1) := gdX12_isLost_76.2.2.2.2.1
theorem dX12_isLost_83 : decode cX12_isLost 83 = .ok (.invokevirtual 471, 3) := gdX12_isLost_76.2.2.2.2.2.1
theorem dX12_isLost_86 : decode cX12_isLost 86 = .ok (.ifCond .eq 7, 3) := gdX12_isLost_76.2.2.2.2.2.2.1
theorem dX12_isLost_93 : decode cX12_isLost 93 = .ok (.iconst 0, 1) := gdX12_isLost_76.2.2.2.2.2.2.2.1
theorem dX12_isLost_94 : decode cX12_isLost 94 = .ok (.ireturn, 1) := gdX12_isLost_76.2.2.2.2.2.2.2.2.1
theorem dX12_isLost_89 : decode cX12_isLost 89 = .ok (.iconst 1, 1) := gdX12_isLost_76.2.2.2.2.2.2.2.2.2.1
theorem dX12_isLost_90 : decode cX12_isLost 90 = .ok (.goto 4, 3) := gdX12_isLost_76.2.2.2.2.2.2.2.2.2.2.1
theorem dX12_isLost_9 : decode cX12_isLost 9 = .ok (.iconst 0, 1) := gdX12_isLost_76.2.2.2.2.2.2.2.2.2.2.2
theorem dX12_isLost_10 : decode cX12_isLost 10 = .ok (.ireturn, 1) := by decide +kernel
set_option maxHeartbeats 1000000 in
set_option maxRecDepth 100000 in
theorem r_isLost (l : Launch) (D : va_G) (cy : Nat → ClassId) (m0 : Nat) (Mtape : Nat) (MnName : Nat) (MnStep : Nat) (MnArg : Nat) (MnMany : Nat) (Mstep : Nat) (Marg : Nat) (Mmany : Nat) (Mopen : Nat) (Mvalues : Nat) (MnHasForm : Nat) (MhasForm : Nat) (Masks : Nat) (MnLoud : Nat) (MnCliffAt : Nat) (MnSnow : Nat) (MnManAt : Nat) (MnVoice : Nat) (MnOn : Nat) (Mloud : Nat) (McliffAt : Nat) (MsnowTold : Nat) (MmanAt : Nat) (Mvoice : Nat) (Mon : Nat) (MnYes : Nat) (Myes : Nat) (Mnow : Nat) (Mcry : Nat) (Msnow : Nat) (Mecho : Nat) (Mwere : Nat) (Mlies : Nat) (Mspots : Nat) (Msteps : Nat) (MfromState : Nat) (MbyWord : Nat) (Mqueue : Nat) (MsoundCliff : Nat) (MsoundLong : Nat) (MsoundCame : Nat) (MsoundTold : Nat) (MsoundUntold : Nat) (Mstands : Nat) (Mtally : Nat) (MhasBox : Nat) (Mboxes : Nat) (Itaped : Nat) (Ifault : Nat) (IfaultPlace : Int32) (Iat : Nat) (Isize : Nat) (Isort : Int32) (Iplace : Int32) (Inumber : Int32) (Iword : Int64) (Gstep : Nat → Int32) (Garg : Nat → Int32) (Gmany : Nat → Int32) (Gvalues : Nat → Int32) (GhasForm : Nat → Int32) (Iform : Nat) (Iopens : Nat) (InUnits : Nat) (Iunits : Int32) (IownUnits : Nat) (Ideep : Nat) (Gasks : Nat → Int32) (Gloud : Nat → Int32) (GcliffAt : Nat → Int32) (InWords : Nat) (InCliffs : Nat) (InMen : Nat) (InStates : Nat) (InOns : Nat) (InWind : Int32) (InDraw : Int32) (Iwords : Nat) (Icliffs : Nat) (Imen : Nat) (Istates : Nat) (Ions : Int32) (IwindTold : Int32) (InHasWind : Int32) (InHasDraw : Int32) (Gcry : Nat → Int32) (Gsnow : Nat → Int32) (IcryMany : Nat) (IcallPlace : Int32) (IcallVoice : Int32) (Iwind : Int32) (Ichance : Int32) (IechoMany : Nat) (Iacts : Nat) (Iundone : Nat) (Ilain : Nat) (Isounds : Nat) (Itime : Int32) (IstandMany : Int32) (am : Nat → Nat) (AH : Nat → Nat → Nat) (j : Nat) (kk : Nat) (gtp : Itaped ≤ 1600) (gat : Iat ≤ Isize) (gsz : Isize ≤ 1600) (gfl : Ifault ≤ 5) (gfo : Iform ≤ 2) (gnw : InWords ≤ 8) (gnc : InCliffs ≤ 4) (gnm : InMen ≤ 4) (gns : InStates ≤ 6) (gw : Iwords ≤ 8) (gc9 : Icliffs ≤ 4) (gm : Imen ≤ 4) (gs : Istates ≤ 6) (gcm : IcryMany ≤ 10) (gem : IechoMany ≤ 20) (gau : Iacts + Iundone ≤ 40) (gla : Ilain ≤ 20) (gso : Isounds ≤ 30) (gop : Iopens ≤ 40) (gde : Ideep ≤ 8) (gou : IownUnits ≤ 31) (gnu : InUnits ≤ 61) (gno : InOns ≤ 30) (gcry : rng Gcry 10 7) (gal2 : allR Gstep Garg Gmany am AH) (hj : j < 4) (hkk : kk < 10) : XMi l D (tyL cy) E0 yX12_isLost cX12_isLost 3 (some .boolean) (rmk 3 0 0) [.ref m0, .int (nI j), .int (nI kk)] [wO m0 12 [.ref Mtape, .int (nI Itaped), .int (nI Ifault), .int IfaultPlace, .int (nI Iat), .int (nI Isize), .int Isort, .int Iplace, .int Inumber, .long Iword, .ref MnName, .ref MnStep, .ref MnArg, .ref MnMany, .ref Mstep, .ref Marg, .ref Mmany, .ref Mopen, .ref Mvalues, .ref MnHasForm, .ref MhasForm, .int (nI Iform), .int (nI Iopens), .int (nI InUnits), .int Iunits, .int (nI IownUnits), .int (nI Ideep), .ref Masks, .ref MnLoud, .ref MnCliffAt, .ref MnSnow, .ref MnManAt, .ref MnVoice, .ref MnOn, .ref Mloud, .ref McliffAt, .ref MsnowTold, .ref MmanAt, .ref Mvoice, .ref Mon, .ref MnYes, .ref Myes, .int (nI InWords), .int (nI InCliffs), .int (nI InMen), .int (nI InStates), .int (nI InOns), .int InWind, .int InDraw, .int (nI Iwords), .int (nI Icliffs), .int (nI Imen), .int (nI Istates), .int Ions, .int IwindTold, .int InHasWind, .int InHasDraw, .ref Mnow, .ref Mcry, .ref Msnow, .ref Mecho, .int (nI IcryMany), .int IcallPlace, .int IcallVoice, .int Iwind, .int Ichance, .int (nI IechoMany), .ref Mwere, .int (nI Iacts), .int (nI Iundone), .ref Mlies, .int (nI Ilain), .ref Mspots, .ref Msteps, .ref MfromState, .ref MbyWord, .ref Mqueue, .ref MsoundCliff, .ref MsoundLong, .ref MsoundCame, .ref MsoundTold, .ref MsoundUntold, .int (nI Isounds), .int Itime, .ref Mstands, .int IstandMany, .ref Mtally, .ref MhasBox, .ref Mboxes], wI (cy 1) Mstep 960 (Gstep), wI (cy 1) Marg 960 (Garg), wI (cy 1) Mmany 3 (Gmany), wI (cy 1) Mvalues 64 (Gvalues), wI (cy 1) Masks 7 (Gasks), wI (cy 3) MhasForm 3 (GhasForm), wI (cy 1) McliffAt 4 (GcliffAt), wI (cy 1) Msnow 4 (Gsnow), wI (cy 1) Mloud 8 (Gloud), wI (cy 1) Mcry 10 (Gcry)] (fun (r : Int32) (u : (Nat → Int32) × (Nat → Int32)) => (r = 0 ∨ r = 1)) (fun (u : (Nat → Int32) × (Nat → Int32)) => [wO m0 12 [.ref Mtape, .int (nI Itaped), .int (nI Ifault), .int IfaultPlace, .int (nI Iat), .int (nI Isize), .int Isort, .int Iplace, .int Inumber, .long Iword, .ref MnName, .ref MnStep, .ref MnArg, .ref MnMany, .ref Mstep, .ref Marg, .ref Mmany, .ref Mopen, .ref Mvalues, .ref MnHasForm, .ref MhasForm, .int (nI Iform), .int (nI Iopens), .int (nI InUnits), .int Iunits, .int (nI IownUnits), .int (nI Ideep), .ref Masks, .ref MnLoud, .ref MnCliffAt, .ref MnSnow, .ref MnManAt, .ref MnVoice, .ref MnOn, .ref Mloud, .ref McliffAt, .ref MsnowTold, .ref MmanAt, .ref Mvoice, .ref Mon, .ref MnYes, .ref Myes, .int (nI InWords), .int (nI InCliffs), .int (nI InMen), .int (nI InStates), .int (nI InOns), .int InWind, .int InDraw, .int (nI Iwords), .int (nI Icliffs), .int (nI Imen), .int (nI Istates), .int Ions, .int IwindTold, .int InHasWind, .int InHasDraw, .ref Mnow, .ref Mcry, .ref Msnow, .ref Mecho, .int (nI IcryMany), .int IcallPlace, .int IcallVoice, .int Iwind, .int Ichance, .int (nI IechoMany), .ref Mwere, .int (nI Iacts), .int (nI Iundone), .ref Mlies, .int (nI Ilain), .ref Mspots, .ref Msteps, .ref MfromState, .ref MbyWord, .ref Mqueue, .ref MsoundCliff, .ref MsoundLong, .ref MsoundCame, .ref MsoundTold, .ref MsoundUntold, .int (nI Isounds), .int Itime, .ref Mstands, .int IstandMany, .ref Mtally, .ref MhasBox, .ref Mboxes], wI (cy 1) Mstep 960 (Gstep), wI (cy 1) Marg 960 (Garg), wI (cy 1) Mmany 3 (Gmany), wI (cy 1) Mvalues 64 (u.1), wI (cy 1) Masks 7 (u.2), wI (cy 3) MhasForm 3 (GhasForm), wI (cy 1) McliffAt 4 (GcliffAt), wI (cy 1) Msnow 4 (Gsnow), wI (cy 1) Mloud 8 (Gloud), wI (cy 1) Mcry 10 (Gcry)]) := by
  refine XMi.start (by decide) (Nat.le_of_ble_eq_true rfl) ?_
  intro p e s m below meth c args A ls Q hat hQ
  obtain ⟨hx, hb, hr, hml, hown, hg, hlocks, hin, hK, hA, hP, hD, hS, hE, hl⟩ := hat
  have hown : s.vm.findClass RX12 = some m.cls := hown
  have hl : lv_has ls 3 [(0, .ref m0), (1, .int (nI j)), (2, .int (nI kk))] := hl
  refine lv_aload_n hx hb dX12_isLost_0 rfl (lv_at hl 0 rfl) ?_
  refine va_get (D := D) (ci := 12) (v := .ref MhasForm) (C := RX12) (T := TX12) (N := 89) hx hb hg i_X12 hown hK hP 0 rfl rfl 20 (by decide) (hg _ m_1433) (fun _ h9 => h9) rfl dX12_isLost_1 ?_
  refine lv_iconst (v := 1) hx hb dX12_isLost_4 (by decide) ?_
  refine va_zald hx hb hK hP 6 3 rfl rfl (by unfold vp_in; decide) dX12_isLost_5 ?_
  refine lv_topi (fun x_1 ex_1 => ?_)
  refine lv_if_ne (tgt := 11) hx hb dX12_isLost_6 (by decide) (fun c_6 => ?_) (fun c_6 => ?_)
  · refine lv_aload_n hx hb dX12_isLost_11 rfl (lv_at hl 0 rfl) ?_
    refine lv_aload_n hx hb dX12_isLost_12 rfl (lv_at hl 0 rfl) ?_
    refine lv_iload_n hx hb dX12_isLost_13 rfl (lv_at hl 1 rfl) ?_
    refine x_callVi (q := (RX12, TX12, 89)) (ci := 12) (q0 := 0) (wr := [wI (cy 1) Mstep 960 (Gstep), wI (cy 1) Marg 960 (Garg), wI (cy 1) Mmany 3 (Gmany), wI (cy 1) Mvalues 64 (Gvalues), wI (cy 1) Masks 7 (Gasks), wI (cy 3) MhasForm 3 (GhasForm), wI (cy 1) Msnow 4 (Gsnow), wI (cy 1) Mloud 8 (Gloud), wI (cy 1) Mcry 10 (Gcry)]) (rest := [.ref m0]) ⟨hx, hb, hml, hown, hg, hl.1⟩ k_X12_474 (r_farOf l D cy m0 Mtape MnName MnStep MnArg MnMany Mstep Marg Mmany Mopen Mvalues MnHasForm MhasForm Masks MnLoud MnCliffAt MnSnow MnManAt MnVoice MnOn Mloud McliffAt MsnowTold MmanAt Mvoice Mon MnYes Myes Mnow Mcry Msnow Mecho Mwere Mlies Mspots Msteps MfromState MbyWord Mqueue MsoundCliff MsoundLong MsoundCame MsoundTold MsoundUntold Mstands Mtally MhasBox Mboxes Itaped Ifault IfaultPlace Iat Isize Isort Iplace Inumber Iword Iform Iopens InUnits Iunits IownUnits Ideep GcliffAt InWords InCliffs InMen InStates InOns InWind InDraw Iwords Icliffs Imen Istates Ions IwindTold InHasWind InHasDraw IcryMany IcallPlace IcallVoice Iwind Ichance IechoMany Iacts Iundone Ilain Isounds Itime IstandMany j (by first | assumption | omega) (by first | assumption | omega) (by first | assumption | omega) (by first | assumption | omega) (by first | assumption | omega) (by first | assumption | omega) (by first | assumption | omega) (by first | assumption | omega) (by first | assumption | omega) (by first | assumption | omega) (by first | assumption | omega) (by first | assumption | omega) (by first | assumption | omega) (by first | assumption | omega) (by first | assumption | omega) (by first | assumption | omega) (by first | assumption | omega) (by first | assumption | omega) (by first | assumption | omega) (by first | assumption | omega) (by first | assumption | omega) (by first | assumption | omega) (by first | assumption | omega) (by first | assumption | omega)) E0_blind hK hP hD hS hA [0, 7] [1, 2, 3, 4, 5, 6, 8, 9, 10] ⟨rfl, rfl, by decide +kernel, by decide +kernel, by decide +kernel⟩ rfl rfl (fun _ _ _ => trivial) dX12_isLost_14 rfl rfl (Nat.le_of_ble_eq_true rfl) ⟨Nat.le_of_ble_eq_true rfl, Nat.le_of_ble_eq_true rfl⟩ ⟨Nat.le_of_ble_eq_true rfl, Nat.le_of_ble_eq_true rfl⟩ (fun zr2 zu2 H locs hw2 hP9 hD9 hS9 => ?_)
    clear hP hD hS
    refine reW [wI (cy 1) Mstep 960 (Gstep), wI (cy 1) Marg 960 (Garg), wI (cy 1) Mmany 3 (Gmany), wI (cy 1) Mvalues 64 (Gvalues), wI (cy 1) Masks 7 (Gasks), wI (cy 3) MhasForm 3 (GhasForm), wI (cy 1) Msnow 4 (Gsnow), wI (cy 1) Mloud 8 (Gloud), wI (cy 1) Mcry 10 (Gcry), wO m0 12 [.ref Mtape, .int (nI Itaped), .int (nI Ifault), .int IfaultPlace, .int (nI Iat), .int (nI Isize), .int Isort, .int Iplace, .int Inumber, .long Iword, .ref MnName, .ref MnStep, .ref MnArg, .ref MnMany, .ref Mstep, .ref Marg, .ref Mmany, .ref Mopen, .ref Mvalues, .ref MnHasForm, .ref MhasForm, .int (nI Iform), .int (nI Iopens), .int (nI InUnits), .int Iunits, .int (nI IownUnits), .int (nI Ideep), .ref Masks, .ref MnLoud, .ref MnCliffAt, .ref MnSnow, .ref MnManAt, .ref MnVoice, .ref MnOn, .ref Mloud, .ref McliffAt, .ref MsnowTold, .ref MmanAt, .ref Mvoice, .ref Mon, .ref MnYes, .ref Myes, .int (nI InWords), .int (nI InCliffs), .int (nI InMen), .int (nI InStates), .int (nI InOns), .int InWind, .int InDraw, .int (nI Iwords), .int (nI Icliffs), .int (nI Imen), .int (nI Istates), .int Ions, .int IwindTold, .int InHasWind, .int InHasDraw, .ref Mnow, .ref Mcry, .ref Msnow, .ref Mecho, .int (nI IcryMany), .int IcallPlace, .int IcallVoice, .int Iwind, .int Ichance, .int (nI IechoMany), .ref Mwere, .int (nI Iacts), .int (nI Iundone), .ref Mlies, .int (nI Ilain), .ref Mspots, .ref Msteps, .ref MfromState, .ref MbyWord, .ref Mqueue, .ref MsoundCliff, .ref MsoundLong, .ref MsoundCame, .ref MsoundTold, .ref MsoundUntold, .int (nI Isounds), .int Itime, .ref Mstands, .int IstandMany, .ref Mtally, .ref MhasBox, .ref Mboxes], wI (cy 1) McliffAt 4 (GcliffAt)] hP9 hD9 hS9 (fun hP hD hS => ?_)
    clear hP9 hD9 hS9
    refine W.widen (k := 0) (n := 0) (Nat.le_of_ble_eq_true rfl) (Nat.le_of_ble_eq_true rfl) ?_
    change True at hw2
    refine lv_aload_n hx hb dX12_isLost_17 rfl (lv_at hl 0 rfl) ?_
    refine va_get (D := D) (ci := 12) (v := .int Iwind) (C := RX12) (T := TX12) (N := 89) hx hb hg i_X12 hown hK hP 9 rfl rfl 64 (by decide) (hg _ m_1477) (fun _ h9 => h9) rfl dX12_isLost_18 ?_
    refine lv_aload_n hx hb dX12_isLost_21 rfl (lv_at hl 0 rfl) ?_
    refine va_get (D := D) (ci := 12) (v := .ref Msnow) (C := RX12) (T := TX12) (N := 89) hx hb hg i_X12 hown hK hP 9 rfl rfl 59 (by decide) (hg _ m_1472) (fun _ h9 => h9) rfl dX12_isLost_22 ?_
    refine lv_iload_n hx hb dX12_isLost_25 rfl (lv_at hl 1 rfl) ?_
    refine va_iald hx hb hK hP 6 1 rfl rfl (vp_in_nI (by omega) (by decide)) dX12_isLost_26 ?_
    refine lv_topi (fun x_3 ex_3 => ?_)
    refine lv_aload_n hx hb dX12_isLost_27 rfl (lv_at hl 0 rfl) ?_
    refine va_get (D := D) (ci := 12) (v := .int (nI IcryMany)) (C := RX12) (T := TX12) (N := 89) hx hb hg i_X12 hown hK hP 9 rfl rfl 61 (by decide) (hg _ m_1474) (fun _ h9 => h9) rfl dX12_isLost_28 ?_
    refine x_callVv (q := (RX12, TX12, 89)) (ci := 12) (q0 := 0) (wr := [wI (cy 1) Mstep 960 (Gstep), wI (cy 1) Marg 960 (Garg), wI (cy 1) Mmany 3 (Gmany), wI (cy 1) Mvalues 64 (Gvalues), wI (cy 3) MhasForm 3 (GhasForm), wI (cy 1) Msnow 4 (Gsnow), wI (cy 1) Mloud 8 (Gloud), wI (cy 1) Mcry 10 (Gcry), wI (cy 1) McliffAt 4 (GcliffAt)]) (rest := []) ⟨hx, hb, hml, hown, hg, hl.1⟩ k_X12_467 (r_askOf l D cy m0 Mtape MnName MnStep MnArg MnMany Mstep Marg Mmany Mopen Mvalues MnHasForm MhasForm Masks MnLoud MnCliffAt MnSnow MnManAt MnVoice MnOn Mloud McliffAt MsnowTold MmanAt Mvoice Mon MnYes Myes Mnow Mcry Msnow Mecho Mwere Mlies Mspots Msteps MfromState MbyWord Mqueue MsoundCliff MsoundLong MsoundCame MsoundTold MsoundUntold Mstands Mtally MhasBox Mboxes Itaped Ifault IfaultPlace Iat Isize Isort Iplace Inumber Iword Iform Iopens InUnits Iunits IownUnits Ideep Gasks InWords InCliffs InMen InStates InOns InWind InDraw Iwords Icliffs Imen Istates Ions IwindTold InHasWind InHasDraw IcryMany IcallPlace IcallVoice Iwind Ichance IechoMany Iacts Iundone Ilain Isounds Itime IstandMany zr2 Iwind x_3 (nI IcryMany) (by first | assumption | omega) (by first | assumption | omega) (by first | assumption | omega) (by first | assumption | omega) (by first | assumption | omega) (by first | assumption | omega) (by first | assumption | omega) (by first | assumption | omega) (by first | assumption | omega) (by first | assumption | omega) (by first | assumption | omega) (by first | assumption | omega) (by first | assumption | omega) (by first | assumption | omega) (by first | assumption | omega) (by first | assumption | omega) (by first | assumption | omega) (by first | assumption | omega) (by first | assumption | omega) (by first | assumption | omega) (by first | assumption | omega) (by first | assumption | omega) (by first | assumption | omega)) E0_blind hK hP hD hS hA [9, 4] [0, 1, 2, 3, 5, 6, 7, 8, 10] ⟨rfl, rfl, by decide +kernel, by decide +kernel, by decide +kernel⟩ rfl rfl (fun _ _ _ => trivial) dX12_isLost_31 rfl rfl (Nat.le_of_ble_eq_true rfl) ⟨Nat.le_of_ble_eq_true rfl, Nat.le_of_ble_eq_true rfl⟩ ⟨Nat.le_of_ble_eq_true rfl, Nat.le_of_ble_eq_true rfl⟩ (fun zu4 H locs hw4 hP9 hD9 hS9 => ?_)
    clear hP hD hS
    obtain ⟨Gasks2_5, rfl⟩ : ∃ z, z = zu4 := ⟨_, rfl⟩
    refine reW [wI (cy 1) Mstep 960 (Gstep), wI (cy 1) Marg 960 (Garg), wI (cy 1) Mmany 3 (Gmany), wI (cy 1) Mvalues 64 (Gvalues), wI (cy 3) MhasForm 3 (GhasForm), wI (cy 1) Msnow 4 (Gsnow), wI (cy 1) Mloud 8 (Gloud), wI (cy 1) Mcry 10 (Gcry), wI (cy 1) McliffAt 4 (GcliffAt), wO m0 12 [.ref Mtape, .int (nI Itaped), .int (nI Ifault), .int IfaultPlace, .int (nI Iat), .int (nI Isize), .int Isort, .int Iplace, .int Inumber, .long Iword, .ref MnName, .ref MnStep, .ref MnArg, .ref MnMany, .ref Mstep, .ref Marg, .ref Mmany, .ref Mopen, .ref Mvalues, .ref MnHasForm, .ref MhasForm, .int (nI Iform), .int (nI Iopens), .int (nI InUnits), .int Iunits, .int (nI IownUnits), .int (nI Ideep), .ref Masks, .ref MnLoud, .ref MnCliffAt, .ref MnSnow, .ref MnManAt, .ref MnVoice, .ref MnOn, .ref Mloud, .ref McliffAt, .ref MsnowTold, .ref MmanAt, .ref Mvoice, .ref Mon, .ref MnYes, .ref Myes, .int (nI InWords), .int (nI InCliffs), .int (nI InMen), .int (nI InStates), .int (nI InOns), .int InWind, .int InDraw, .int (nI Iwords), .int (nI Icliffs), .int (nI Imen), .int (nI Istates), .int Ions, .int IwindTold, .int InHasWind, .int InHasDraw, .ref Mnow, .ref Mcry, .ref Msnow, .ref Mecho, .int (nI IcryMany), .int IcallPlace, .int IcallVoice, .int Iwind, .int Ichance, .int (nI IechoMany), .ref Mwere, .int (nI Iacts), .int (nI Iundone), .ref Mlies, .int (nI Ilain), .ref Mspots, .ref Msteps, .ref MfromState, .ref MbyWord, .ref Mqueue, .ref MsoundCliff, .ref MsoundLong, .ref MsoundCame, .ref MsoundTold, .ref MsoundUntold, .int (nI Isounds), .int Itime, .ref Mstands, .int IstandMany, .ref Mtally, .ref MhasBox, .ref Mboxes], wI (cy 1) Masks 7 (Gasks2_5)] hP9 hD9 hS9 (fun hP hD hS => ?_)
    clear hP9 hD9 hS9
    refine W.widen (k := 0) (n := 0) (Nat.le_of_ble_eq_true rfl) (Nat.le_of_ble_eq_true rfl) ?_
    refine lv_aload_n hx hb dX12_isLost_34 rfl (lv_at hl 0 rfl) ?_
    refine va_get (D := D) (ci := 12) (v := .ref Masks) (C := RX12) (T := TX12) (N := 89) hx hb hg i_X12 hown hK hP 9 rfl rfl 27 (by decide) (hg _ m_1440) (fun _ h9 => h9) rfl dX12_isLost_35 ?_
    refine lv_iconst (v := 4) hx hb dX12_isLost_38 (by decide) ?_
    refine lv_aload_n hx hb dX12_isLost_39 rfl (lv_at hl 0 rfl) ?_
    refine va_get (D := D) (ci := 12) (v := .ref Mloud) (C := RX12) (T := TX12) (N := 89) hx hb hg i_X12 hown hK hP 9 rfl rfl 34 (by decide) (hg _ m_1447) (fun _ h9 => h9) rfl dX12_isLost_40 ?_
    refine lv_aload_n hx hb dX12_isLost_43 rfl (lv_at hl 0 rfl) ?_
    refine va_get (D := D) (ci := 12) (v := .ref Mcry) (C := RX12) (T := TX12) (N := 89) hx hb hg i_X12 hown hK hP 9 rfl rfl 58 (by decide) (hg _ m_1471) (fun _ h9 => h9) rfl dX12_isLost_44 ?_
    refine lv_iload_n hx hb dX12_isLost_47 rfl (lv_at hl 2 rfl) ?_
    refine va_iald hx hb hK hP 7 1 rfl rfl (vp_in_nI (by omega) (by decide)) dX12_isLost_48 ?_
    obtain ⟨j_6, hj_6, ej_6⟩ := rng_at gcry (i := kk) (by omega) (by decide)
    refine lv_topi (fun y_7 hy_7 => ?_)
    obtain rfl : y_7 = nI j_6 := hy_7.trans ej_6
    refine va_iald hx hb hK hP 6 1 rfl rfl (vp_in_nI (by omega) (by decide)) dX12_isLost_49 ?_
    refine lv_topi (fun x_8 ex_8 => ?_)
    refine lv_aload_n hx hb dX12_isLost_50 rfl (lv_at hl 0 rfl) ?_
    refine va_get (D := D) (ci := 12) (v := .int IcallVoice) (C := RX12) (T := TX12) (N := 89) hx hb hg i_X12 hown hK hP 9 rfl rfl 63 (by decide) (hg _ m_1476) (fun _ h9 => h9) rfl dX12_isLost_51 ?_
    refine lv_iadd hx hb dX12_isLost_54 ?_
    refine lv_topi (fun x_9 ex_9 => ?_)
    refine va_iast hx hb hK hP hD hS 10 1 rfl rfl (by unfold vp_in; decide) dX12_isLost_55 (fun H locs hP9 hD9 hS9 => ?_)
    clear hP hD hS
    obtain ⟨g_10, eg_10⟩ : ∃ y, upd Gasks2_5 (4 : Int32).toNatClampNeg x_9 = y := ⟨_, rfl⟩
    rw [eg_10] at hP9 hD9
    refine reW [wI (cy 1) Mstep 960 (Gstep), wI (cy 1) Marg 960 (Garg), wI (cy 1) Mmany 3 (Gmany), wI (cy 1) Mvalues 64 (Gvalues), wI (cy 3) MhasForm 3 (GhasForm), wI (cy 1) Msnow 4 (Gsnow), wI (cy 1) Mloud 8 (Gloud), wI (cy 1) Mcry 10 (Gcry), wI (cy 1) McliffAt 4 (GcliffAt), wO m0 12 [.ref Mtape, .int (nI Itaped), .int (nI Ifault), .int IfaultPlace, .int (nI Iat), .int (nI Isize), .int Isort, .int Iplace, .int Inumber, .long Iword, .ref MnName, .ref MnStep, .ref MnArg, .ref MnMany, .ref Mstep, .ref Marg, .ref Mmany, .ref Mopen, .ref Mvalues, .ref MnHasForm, .ref MhasForm, .int (nI Iform), .int (nI Iopens), .int (nI InUnits), .int Iunits, .int (nI IownUnits), .int (nI Ideep), .ref Masks, .ref MnLoud, .ref MnCliffAt, .ref MnSnow, .ref MnManAt, .ref MnVoice, .ref MnOn, .ref Mloud, .ref McliffAt, .ref MsnowTold, .ref MmanAt, .ref Mvoice, .ref Mon, .ref MnYes, .ref Myes, .int (nI InWords), .int (nI InCliffs), .int (nI InMen), .int (nI InStates), .int (nI InOns), .int InWind, .int InDraw, .int (nI Iwords), .int (nI Icliffs), .int (nI Imen), .int (nI Istates), .int Ions, .int IwindTold, .int InHasWind, .int InHasDraw, .ref Mnow, .ref Mcry, .ref Msnow, .ref Mecho, .int (nI IcryMany), .int IcallPlace, .int IcallVoice, .int Iwind, .int Ichance, .int (nI IechoMany), .ref Mwere, .int (nI Iacts), .int (nI Iundone), .ref Mlies, .int (nI Ilain), .ref Mspots, .ref Msteps, .ref MfromState, .ref MbyWord, .ref Mqueue, .ref MsoundCliff, .ref MsoundLong, .ref MsoundCame, .ref MsoundTold, .ref MsoundUntold, .int (nI Isounds), .int Itime, .ref Mstands, .int IstandMany, .ref Mtally, .ref MhasBox, .ref Mboxes], wI (cy 1) Masks 7 (g_10)] hP9 hD9 hS9 (fun hP hD hS => ?_)
    clear hP9 hD9 hS9
    refine lv_aload_n hx hb dX12_isLost_56 rfl (lv_at hl 0 rfl) ?_
    refine va_get (D := D) (ci := 12) (v := .ref Masks) (C := RX12) (T := TX12) (N := 89) hx hb hg i_X12 hown hK hP 9 rfl rfl 27 (by decide) (hg _ m_1440) (fun _ h9 => h9) rfl dX12_isLost_57 ?_
    refine lv_iconst (v := 5) hx hb dX12_isLost_60 (by decide) ?_
    refine lv_aload_n hx hb dX12_isLost_61 rfl (lv_at hl 0 rfl) ?_
    refine va_get (D := D) (ci := 12) (v := .int (nI IcryMany)) (C := RX12) (T := TX12) (N := 89) hx hb hg i_X12 hown hK hP 9 rfl rfl 61 (by decide) (hg _ m_1474) (fun _ h9 => h9) rfl dX12_isLost_62 ?_
    refine lv_iconst (v := 1) hx hb dX12_isLost_65 (by decide) ?_
    refine lv_isub hx hb dX12_isLost_66 ?_
    refine lv_topi (fun x_11 ex_11 => ?_)
    refine lv_iload_n hx hb dX12_isLost_67 rfl (lv_at hl 2 rfl) ?_
    refine lv_isub hx hb dX12_isLost_68 ?_
    refine lv_topi (fun x_12 ex_12 => ?_)
    refine va_iast hx hb hK hP hD hS 10 1 rfl rfl (by unfold vp_in; decide) dX12_isLost_69 (fun H locs hP9 hD9 hS9 => ?_)
    clear hP hD hS
    obtain ⟨g_13, eg_13⟩ : ∃ y, upd g_10 (5 : Int32).toNatClampNeg x_12 = y := ⟨_, rfl⟩
    rw [eg_13] at hP9 hD9
    refine reW [wI (cy 1) Mstep 960 (Gstep), wI (cy 1) Marg 960 (Garg), wI (cy 1) Mmany 3 (Gmany), wI (cy 1) Mvalues 64 (Gvalues), wI (cy 3) MhasForm 3 (GhasForm), wI (cy 1) Msnow 4 (Gsnow), wI (cy 1) Mloud 8 (Gloud), wI (cy 1) Mcry 10 (Gcry), wI (cy 1) McliffAt 4 (GcliffAt), wO m0 12 [.ref Mtape, .int (nI Itaped), .int (nI Ifault), .int IfaultPlace, .int (nI Iat), .int (nI Isize), .int Isort, .int Iplace, .int Inumber, .long Iword, .ref MnName, .ref MnStep, .ref MnArg, .ref MnMany, .ref Mstep, .ref Marg, .ref Mmany, .ref Mopen, .ref Mvalues, .ref MnHasForm, .ref MhasForm, .int (nI Iform), .int (nI Iopens), .int (nI InUnits), .int Iunits, .int (nI IownUnits), .int (nI Ideep), .ref Masks, .ref MnLoud, .ref MnCliffAt, .ref MnSnow, .ref MnManAt, .ref MnVoice, .ref MnOn, .ref Mloud, .ref McliffAt, .ref MsnowTold, .ref MmanAt, .ref Mvoice, .ref Mon, .ref MnYes, .ref Myes, .int (nI InWords), .int (nI InCliffs), .int (nI InMen), .int (nI InStates), .int (nI InOns), .int InWind, .int InDraw, .int (nI Iwords), .int (nI Icliffs), .int (nI Imen), .int (nI Istates), .int Ions, .int IwindTold, .int InHasWind, .int InHasDraw, .ref Mnow, .ref Mcry, .ref Msnow, .ref Mecho, .int (nI IcryMany), .int IcallPlace, .int IcallVoice, .int Iwind, .int Ichance, .int (nI IechoMany), .ref Mwere, .int (nI Iacts), .int (nI Iundone), .ref Mlies, .int (nI Ilain), .ref Mspots, .ref Msteps, .ref MfromState, .ref MbyWord, .ref Mqueue, .ref MsoundCliff, .ref MsoundLong, .ref MsoundCame, .ref MsoundTold, .ref MsoundUntold, .int (nI Isounds), .int Itime, .ref Mstands, .int IstandMany, .ref Mtally, .ref MhasBox, .ref Mboxes], wI (cy 1) Masks 7 (g_13)] hP9 hD9 hS9 (fun hP hD hS => ?_)
    clear hP9 hD9 hS9
    refine lv_aload_n hx hb dX12_isLost_70 rfl (lv_at hl 0 rfl) ?_
    refine va_get (D := D) (ci := 12) (v := .ref Masks) (C := RX12) (T := TX12) (N := 89) hx hb hg i_X12 hown hK hP 9 rfl rfl 27 (by decide) (hg _ m_1440) (fun _ h9 => h9) rfl dX12_isLost_71 ?_
    refine lv_bipush (v := 6) hx hb dX12_isLost_74 (by decide) ?_
    refine lv_aload_n hx hb dX12_isLost_76 rfl (lv_at hl 0 rfl) ?_
    refine va_get (D := D) (ci := 12) (v := .int Ichance) (C := RX12) (T := TX12) (N := 89) hx hb hg i_X12 hown hK hP 9 rfl rfl 65 (by decide) (hg _ m_1478) (fun _ h9 => h9) rfl dX12_isLost_77 ?_
    refine va_iast hx hb hK hP hD hS 10 1 rfl rfl (by unfold vp_in; decide) dX12_isLost_80 (fun H locs hP9 hD9 hS9 => ?_)
    clear hP hD hS
    obtain ⟨g_14, eg_14⟩ : ∃ y, upd g_13 (6 : Int32).toNatClampNeg Ichance = y := ⟨_, rfl⟩
    rw [eg_14] at hP9 hD9
    refine reW [wI (cy 1) Mstep 960 (Gstep), wI (cy 1) Marg 960 (Garg), wI (cy 1) Mmany 3 (Gmany), wI (cy 1) Mvalues 64 (Gvalues), wI (cy 3) MhasForm 3 (GhasForm), wI (cy 1) Msnow 4 (Gsnow), wI (cy 1) Mloud 8 (Gloud), wI (cy 1) Mcry 10 (Gcry), wI (cy 1) McliffAt 4 (GcliffAt), wO m0 12 [.ref Mtape, .int (nI Itaped), .int (nI Ifault), .int IfaultPlace, .int (nI Iat), .int (nI Isize), .int Isort, .int Iplace, .int Inumber, .long Iword, .ref MnName, .ref MnStep, .ref MnArg, .ref MnMany, .ref Mstep, .ref Marg, .ref Mmany, .ref Mopen, .ref Mvalues, .ref MnHasForm, .ref MhasForm, .int (nI Iform), .int (nI Iopens), .int (nI InUnits), .int Iunits, .int (nI IownUnits), .int (nI Ideep), .ref Masks, .ref MnLoud, .ref MnCliffAt, .ref MnSnow, .ref MnManAt, .ref MnVoice, .ref MnOn, .ref Mloud, .ref McliffAt, .ref MsnowTold, .ref MmanAt, .ref Mvoice, .ref Mon, .ref MnYes, .ref Myes, .int (nI InWords), .int (nI InCliffs), .int (nI InMen), .int (nI InStates), .int (nI InOns), .int InWind, .int InDraw, .int (nI Iwords), .int (nI Icliffs), .int (nI Imen), .int (nI Istates), .int Ions, .int IwindTold, .int InHasWind, .int InHasDraw, .ref Mnow, .ref Mcry, .ref Msnow, .ref Mecho, .int (nI IcryMany), .int IcallPlace, .int IcallVoice, .int Iwind, .int Ichance, .int (nI IechoMany), .ref Mwere, .int (nI Iacts), .int (nI Iundone), .ref Mlies, .int (nI Ilain), .ref Mspots, .ref Msteps, .ref MfromState, .ref MbyWord, .ref Mqueue, .ref MsoundCliff, .ref MsoundLong, .ref MsoundCame, .ref MsoundTold, .ref MsoundUntold, .int (nI Isounds), .int Itime, .ref Mstands, .int IstandMany, .ref Mtally, .ref MhasBox, .ref Mboxes], wI (cy 1) Masks 7 (g_14)] hP9 hD9 hS9 (fun hP hD hS => ?_)
    clear hP9 hD9 hS9
    refine lv_aload_n hx hb dX12_isLost_81 rfl (lv_at hl 0 rfl) ?_
    refine lv_iconst (v := 1) hx hb dX12_isLost_82 (by decide) ?_
    refine x_callVi (q := (RX12, TX12, 89)) (ci := 12) (q0 := 0) (wr := [wI (cy 3) MhasForm 3 (GhasForm), wI (cy 1) Msnow 4 (Gsnow), wI (cy 1) Mloud 8 (Gloud), wI (cy 1) Mcry 10 (Gcry), wI (cy 1) McliffAt 4 (GcliffAt)]) (rest := []) ⟨hx, hb, hml, hown, hg, hl.1⟩ k_X12_471 (r_worked l D cy m0 Mtape MnName MnStep MnArg MnMany Mstep Marg Mmany Mopen Mvalues MnHasForm MhasForm Masks MnLoud MnCliffAt MnSnow MnManAt MnVoice MnOn Mloud McliffAt MsnowTold MmanAt Mvoice Mon MnYes Myes Mnow Mcry Msnow Mecho Mwere Mlies Mspots Msteps MfromState MbyWord Mqueue MsoundCliff MsoundLong MsoundCame MsoundTold MsoundUntold Mstands Mtally MhasBox Mboxes Itaped Ifault IfaultPlace Iat Isize Isort Iplace Inumber Iword Gstep Garg Gmany Gvalues Iform Iopens InUnits Iunits IownUnits Ideep g_14 InWords InCliffs InMen InStates InOns InWind InDraw Iwords Icliffs Imen Istates Ions IwindTold InHasWind InHasDraw IcryMany IcallPlace IcallVoice Iwind Ichance IechoMany Iacts Iundone Ilain Isounds Itime IstandMany am AH 1 (by first | assumption | omega) (by first | assumption | omega) (by first | assumption | omega) (by first | assumption | omega) (by first | assumption | omega) (by first | assumption | omega) (by first | assumption | omega) (by first | assumption | omega) (by first | assumption | omega) (by first | assumption | omega) (by first | assumption | omega) (by first | assumption | omega) (by first | assumption | omega) (by first | assumption | omega) (by first | assumption | omega) (by first | assumption | omega) (by first | assumption | omega) (by first | assumption | omega) (by first | assumption | omega) (by first | assumption | omega) (by first | assumption | omega) (by first | assumption | omega) (by first | assumption | omega) (gal2) (by first | assumption | omega)) E0_blind hK hP hD hS hA [9, 0, 1, 2, 3, 10] [4, 5, 6, 7, 8] ⟨rfl, rfl, by decide +kernel, by decide +kernel, by decide +kernel⟩ rfl rfl (fun _ _ _ => trivial) dX12_isLost_83 rfl rfl (Nat.le_of_ble_eq_true rfl) ⟨Nat.le_of_ble_eq_true rfl, Nat.le_of_ble_eq_true rfl⟩ ⟨Nat.le_of_ble_eq_true rfl, Nat.le_of_ble_eq_true rfl⟩ (fun zr15 zu15 H locs hw15 hP9 hD9 hS9 => ?_)
    clear hP hD hS
    obtain ⟨Gvalues2_16, rfl⟩ : ∃ z, z = zu15 := ⟨_, rfl⟩
    refine reW [wI (cy 3) MhasForm 3 (GhasForm), wI (cy 1) Msnow 4 (Gsnow), wI (cy 1) Mloud 8 (Gloud), wI (cy 1) Mcry 10 (Gcry), wI (cy 1) McliffAt 4 (GcliffAt), wO m0 12 [.ref Mtape, .int (nI Itaped), .int (nI Ifault), .int IfaultPlace, .int (nI Iat), .int (nI Isize), .int Isort, .int Iplace, .int Inumber, .long Iword, .ref MnName, .ref MnStep, .ref MnArg, .ref MnMany, .ref Mstep, .ref Marg, .ref Mmany, .ref Mopen, .ref Mvalues, .ref MnHasForm, .ref MhasForm, .int (nI Iform), .int (nI Iopens), .int (nI InUnits), .int Iunits, .int (nI IownUnits), .int (nI Ideep), .ref Masks, .ref MnLoud, .ref MnCliffAt, .ref MnSnow, .ref MnManAt, .ref MnVoice, .ref MnOn, .ref Mloud, .ref McliffAt, .ref MsnowTold, .ref MmanAt, .ref Mvoice, .ref Mon, .ref MnYes, .ref Myes, .int (nI InWords), .int (nI InCliffs), .int (nI InMen), .int (nI InStates), .int (nI InOns), .int InWind, .int InDraw, .int (nI Iwords), .int (nI Icliffs), .int (nI Imen), .int (nI Istates), .int Ions, .int IwindTold, .int InHasWind, .int InHasDraw, .ref Mnow, .ref Mcry, .ref Msnow, .ref Mecho, .int (nI IcryMany), .int IcallPlace, .int IcallVoice, .int Iwind, .int Ichance, .int (nI IechoMany), .ref Mwere, .int (nI Iacts), .int (nI Iundone), .ref Mlies, .int (nI Ilain), .ref Mspots, .ref Msteps, .ref MfromState, .ref MbyWord, .ref Mqueue, .ref MsoundCliff, .ref MsoundLong, .ref MsoundCame, .ref MsoundTold, .ref MsoundUntold, .int (nI Isounds), .int Itime, .ref Mstands, .int IstandMany, .ref Mtally, .ref MhasBox, .ref Mboxes], wI (cy 1) Mstep 960 (Gstep), wI (cy 1) Marg 960 (Garg), wI (cy 1) Mmany 3 (Gmany), wI (cy 1) Mvalues 64 (Gvalues2_16), wI (cy 1) Masks 7 (g_14)] hP9 hD9 hS9 (fun hP hD hS => ?_)
    clear hP9 hD9 hS9
    refine W.widen (k := 0) (n := 0) (Nat.le_of_ble_eq_true rfl) (Nat.le_of_ble_eq_true rfl) ?_
    change True at hw15
    refine lv_if_eq (tgt := 93) hx hb dX12_isLost_86 (by decide) (fun c_86 => ?_) (fun c_86 => ?_)
    · refine lv_iconst (v := 0) hx hb dX12_isLost_93 (by decide) ?_
      exact x_zret hQ hx hb hr hlocks hK hP hD hS rfl dX12_isLost_94 (Gvalues2_16, g_14) ((Or.inl rfl)) [5, 6, 7, 8, 9, 10, 0, 4, 1, 2, 3] (by decide +kernel) rfl (Nat.le_of_ble_eq_true rfl) (Nat.le_of_ble_eq_true rfl)
    · refine lv_iconst (v := 1) hx hb dX12_isLost_89 (by decide) ?_
      refine lv_goto (tgt := 94) hx hb dX12_isLost_90 (by decide) ?_
      exact x_zret hQ hx hb hr hlocks hK hP hD hS rfl dX12_isLost_94 (Gvalues2_16, g_14) ((Or.inr rfl)) [5, 6, 7, 8, 9, 10, 0, 4, 1, 2, 3] (by decide +kernel) rfl (Nat.le_of_ble_eq_true rfl) (Nat.le_of_ble_eq_true rfl)
  · refine lv_iconst (v := 0) hx hb dX12_isLost_9 (by decide) ?_
    exact x_zret hQ hx hb hr hlocks hK hP hD hS rfl dX12_isLost_10 (Gvalues, Gasks) ((Or.inl rfl)) [0, 1, 2, 3, 4, 5, 6, 7, 8, 9, 10] (by decide +kernel) rfl (Nat.le_of_ble_eq_true rfl) (Nat.le_of_ble_eq_true rfl)
theorem gdX12_addEcho_0 : decode cX12_addEcho 0 = .ok (.aload_n 0, 1) ∧ decode cX12_addEcho 1 = .ok (.getfield 477, 3) ∧ decode cX12_addEcho 4 = .ok (.istore_n 2, 1) ∧ decode cX12_addEcho 5 = .ok (.aload_n 0, 1) ∧ decode cX12_addEcho 6 = .ok (.getfield 446, 3) ∧ decode cX12_addEcho 9 = .ok (.aload_n 0, 1) ∧ decode cX12_addEcho 10 = .ok (.aload_n 0, 1) ∧ decode cX12_addEcho 11 = .ok (.iload_n 1, 1) ∧ decode cX12_addEcho 12 = .ok (.invokevirtual 474, 3) ∧ decode cX12_addEcho 15 = .ok (.aload_n 0, 1) ∧ decode cX12_addEcho 16 = .ok (.getfield 440, 3) ∧ decode cX12_addEcho 19 = .ok (.aload_n 0, 1) := by decide +kernel
theorem dX12_addEcho_0 : decode cX12_addEcho 0 = .ok (.aload_n 0, 1) := gdX12_addEcho_0.1
theorem dX12_addEcho_1 : decode cX12_addEcho 1 = .ok (.getfield 477, 3) := gdX12_addEcho_0.2.1
theorem dX12_addEcho_4 : decode cX12_addEcho 4 = .ok (.istore_n 2, 1) := gdX12_addEcho_0.2.2.1
theorem dX12_addEcho_5 : decode cX12_addEcho 5 = .ok (.aload_n 0, 1) := gdX12_addEcho_0.2.2.2.1
theorem dX12_addEcho_6 : decode cX12_addEcho 6 = .ok (.getfield 446, 3) := gdX12_addEcho_0.2.2.2.2.1
theorem dX12_addEcho_9 : decode cX12_addEcho 9 = .ok (.aload_n 0, 1) := gdX12_addEcho_0.2.2.2.2.2.1
theorem dX12_addEcho_10 : decode cX12_addEcho 10 = .ok (.aload_n 0, 1) := gdX12_addEcho_0.2.2.2.2.2.2.1
theorem dX12_addEcho_11 : decode cX12_addEcho 11 = .ok (.iload_n 1, 1) := gdX12_addEcho_0.2.2.2.2.2.2.2.1
theorem dX12_addEcho_12 : decode cX12_addEcho 12 = .ok (.invokevirtual 474, 3) := gdX12_addEcho_0.2.2.2.2.2.2.2.2.1
theorem dX12_addEcho_15 : decode cX12_addEcho 15 = .ok (.aload_n 0, 1) := gdX12_addEcho_0.2.2.2.2.2.2.2.2.2.1
theorem dX12_addEcho_16 : decode cX12_addEcho 16 = .ok (.getfield 440, 3) := gdX12_addEcho_0.2.2.2.2.2.2.2.2.2.2.1
theorem dX12_addEcho_19 : decode cX12_addEcho 19 = .ok (.aload_n 0, 1) := gdX12_addEcho_0.2.2.2.2.2.2.2.2.2.2.2
theorem gdX12_addEcho_20 : decode cX12_addEcho 20 = .ok (.getfield 103, 3) ∧ decode cX12_addEcho 23 = .ok (.iload_n 1, 1) ∧ decode cX12_addEcho 24 = .ok (.iaload, 1) ∧ decode cX12_addEcho 25 = .ok (.aload_n 0, 1) ∧ decode cX12_addEcho 26 = .ok (.getfield 446, 3) ∧ decode cX12_addEcho 29 = .ok (.invokevirtual 480, 3) := by decide +kernel
theorem dX12_addEcho_20 : decode cX12_addEcho 20 = .ok (.getfield 103, 3) := gdX12_addEcho_20.1
theorem dX12_addEcho_23 : decode cX12_addEcho 23 = .ok (.iload_n 1, 1) := gdX12_addEcho_20.2.1
theorem dX12_addEcho_24 : decode cX12_addEcho 24 = .ok (.iaload, 1) := gdX12_addEcho_20.2.2.1
theorem dX12_addEcho_25 : decode cX12_addEcho 25 = .ok (.aload_n 0, 1) := gdX12_addEcho_20.2.2.2.1
theorem dX12_addEcho_26 : decode cX12_addEcho 26 = .ok (.getfield 446, 3) := gdX12_addEcho_20.2.2.2.2.1
theorem dX12_addEcho_29 : decode cX12_addEcho 29 = .ok (.invokevirtual 480, 3) := gdX12_addEcho_20.2.2.2.2.2
theorem k_X12_480 : xV RX12 RX12 480 yX12_backOf cX12_backOf 6 (some .int) 4 := ⟨⟨m_1963, m_1965, m_111, m_146, m_1966⟩, rfl, by decide, by decide, by decide +kernel⟩
theorem gdX12_addEcho_32 : decode cX12_addEcho 32 = .ok (.isub, 1) ∧ decode cX12_addEcho 33 = .ok (.istore_n 3, 1) ∧ decode cX12_addEcho 34 = .ok (.iload_n 3, 1) ∧ decode cX12_addEcho 35 = .ok (.aload_n 0, 1) ∧ decode cX12_addEcho 36 = .ok (.getfield 446, 3) ∧ decode cX12_addEcho 39 = .ok (.if_icmp .ge 46, 3) ∧ decode cX12_addEcho 85 = .ok (.aload_n 0, 1) ∧ decode cX12_addEcho 86 = .ok (.aload_n 0, 1) ∧ decode cX12_addEcho 87 = .ok (.iload_n 1, 1) ∧ decode cX12_addEcho 88 = .ok (.invokevirtual 474, 3) ∧ decode cX12_addEcho 91 = .ok (.aload_n 0, 1) ∧ decode cX12_addEcho 92 = .ok (.getfield 440, 3) := by decide +kernel
theorem dX12_addEcho_32 : decode cX12_addEcho 32 = .ok (.isub, 1) := gdX12_addEcho_32.1
theorem dX12_addEcho_33 : decode cX12_addEcho 33 = .ok (.istore_n 3, 1) := gdX12_addEcho_32.2.1
theorem dX12_addEcho_34 : decode cX12_addEcho 34 = .ok (.iload_n 3, 1) := gdX12_addEcho_32.2.2.1
theorem dX12_addEcho_35 : decode cX12_addEcho 35 = .ok (.aload_n 0, 1) := gdX12_addEcho_32.2.2.2.1
theorem dX12_addEcho_36 : decode cX12_addEcho 36 = .ok (.getfield 446, 3) := gdX12_addEcho_32.2.2.2.2.1
theorem dX12_addEcho_39 : decode cX12_addEcho 39 = .ok (.if_icmp .ge 46, 3) := gdX12_addEcho_32.2.2.2.2.2.1
theorem dX12_addEcho_85 : decode cX12_addEcho 85 = .ok (.aload_n 0, 1) := gdX12_addEcho_32.2.2.2.2.2.2.1
theorem dX12_addEcho_86 : decode cX12_addEcho 86 = .ok (.aload_n 0, 1) := gdX12_addEcho_32.2.2.2.2.2.2.2.1
theorem dX12_addEcho_87 : decode cX12_addEcho 87 = .ok (.iload_n 1, 1) := gdX12_addEcho_32.2.2.2.2.2.2.2.2.1
theorem dX12_addEcho_88 : decode cX12_addEcho 88 = .ok (.invokevirtual 474, 3) := gdX12_addEcho_32.2.2.2.2.2.2.2.2.2.1
theorem dX12_addEcho_91 : decode cX12_addEcho 91 = .ok (.aload_n 0, 1) := gdX12_addEcho_32.2.2.2.2.2.2.2.2.2.2.1
theorem dX12_addEcho_92 : decode cX12_addEcho 92 = .ok (.getfield 440, 3) := gdX12_addEcho_32.2.2.2.2.2.2.2.2.2.2.2
theorem gdX12_addEcho_95 : decode cX12_addEcho 95 = .ok (.aload_n 0, 1) ∧ decode cX12_addEcho 96 = .ok (.getfield 103, 3) ∧ decode cX12_addEcho 99 = .ok (.iload_n 1, 1) ∧ decode cX12_addEcho 100 = .ok (.iaload, 1) ∧ decode cX12_addEcho 101 = .ok (.aload_n 0, 1) ∧ decode cX12_addEcho 102 = .ok (.getfield 446, 3) ∧ decode cX12_addEcho 105 = .ok (.invokevirtual 467, 3) ∧ decode cX12_addEcho 108 = .ok (.aload_n 0, 1) ∧ decode cX12_addEcho 109 = .ok (.getfield 49, 3) ∧ decode cX12_addEcho 112 = .ok (.iconst 2, 1) ∧ decode cX12_addEcho 113 = .ok (.baload, 1) ∧ decode cX12_addEcho 114 = .ok (.ifCond .eq 11, 3) := by decide +kernel
theorem dX12_addEcho_95 : decode cX12_addEcho 95 = .ok (.aload_n 0, 1) := gdX12_addEcho_95.1
theorem dX12_addEcho_96 : decode cX12_addEcho 96 = .ok (.getfield 103, 3) := gdX12_addEcho_95.2.1
theorem dX12_addEcho_99 : decode cX12_addEcho 99 = .ok (.iload_n 1, 1) := gdX12_addEcho_95.2.2.1
theorem dX12_addEcho_100 : decode cX12_addEcho 100 = .ok (.iaload, 1) := gdX12_addEcho_95.2.2.2.1
theorem dX12_addEcho_101 : decode cX12_addEcho 101 = .ok (.aload_n 0, 1) := gdX12_addEcho_95.2.2.2.2.1
theorem dX12_addEcho_102 : decode cX12_addEcho 102 = .ok (.getfield 446, 3) := gdX12_addEcho_95.2.2.2.2.2.1
theorem dX12_addEcho_105 : decode cX12_addEcho 105 = .ok (.invokevirtual 467, 3) := gdX12_addEcho_95.2.2.2.2.2.2.1
theorem dX12_addEcho_108 : decode cX12_addEcho 108 = .ok (.aload_n 0, 1) := gdX12_addEcho_95.2.2.2.2.2.2.2.1
theorem dX12_addEcho_109 : decode cX12_addEcho 109 = .ok (.getfield 49, 3) := gdX12_addEcho_95.2.2.2.2.2.2.2.2.1
theorem dX12_addEcho_112 : decode cX12_addEcho 112 = .ok (.iconst 2, 1) := gdX12_addEcho_95.2.2.2.2.2.2.2.2.2.1
theorem dX12_addEcho_113 : decode cX12_addEcho 113 = .ok (.baload, 1) := gdX12_addEcho_95.2.2.2.2.2.2.2.2.2.2.1
theorem dX12_addEcho_114 : decode cX12_addEcho 114 = .ok (.ifCond .eq 11, 3) := gdX12_addEcho_95.2.2.2.2.2.2.2.2.2.2.2
theorem gdX12_addEcho_125 : decode cX12_addEcho 125 = .ok (.return_, 1) ∧ decode cX12_addEcho 117 = .ok (.aload_n 0, 1) ∧ decode cX12_addEcho 118 = .ok (.iconst 2, 1) ∧ decode cX12_addEcho 119 = .ok (.invokevirtual 471, 3) ∧ decode cX12_addEcho 122 = .ok (.ifCond .ne 4, 3) ∧ decode cX12_addEcho 126 = .ok (.iload_n 2, 1) ∧ decode cX12_addEcho 127 = .ok (.istore_n 3, 1) ∧ decode cX12_addEcho 128 = .ok (.aload_n 0, 1) ∧ decode cX12_addEcho 129 = .ok (.getfield 477, 3) ∧ decode cX12_addEcho 132 = .ok (.iconst 1, 1) ∧ decode cX12_addEcho 133 = .ok (.isub, 1) ∧ decode cX12_addEcho 134 = .ok (.istore 4, 2) := by decide +kernel
theorem dX12_addEcho_125 : decode cX12_addEcho 125 = .ok (.return_, 1) := gdX12_addEcho_125.1
theorem dX12_addEcho_117 : decode cX12_addEcho 117 = .ok (.aload_n 0, 1) := gdX12_addEcho_125.2.1
theorem dX12_addEcho_118 : decode cX12_addEcho 118 = .ok (.iconst 2, 1) := gdX12_addEcho_125.2.2.1
theorem dX12_addEcho_119 : decode cX12_addEcho 119 = .ok (.invokevirtual 471, 3) := gdX12_addEcho_125.2.2.2.1
theorem dX12_addEcho_122 : decode cX12_addEcho 122 = .ok (.ifCond .ne 4, 3) := gdX12_addEcho_125.2.2.2.2.1
theorem dX12_addEcho_126 : decode cX12_addEcho 126 = .ok (.iload_n 2, 1) := gdX12_addEcho_125.2.2.2.2.2.1
theorem dX12_addEcho_127 : decode cX12_addEcho 127 = .ok (.istore_n 3, 1) := gdX12_addEcho_125.2.2.2.2.2.2.1
theorem dX12_addEcho_128 : decode cX12_addEcho 128 = .ok (.aload_n 0, 1) := gdX12_addEcho_125.2.2.2.2.2.2.2.1
theorem dX12_addEcho_129 : decode cX12_addEcho 129 = .ok (.getfield 477, 3) := gdX12_addEcho_125.2.2.2.2.2.2.2.2.1
theorem dX12_addEcho_132 : decode cX12_addEcho 132 = .ok (.iconst 1, 1) := gdX12_addEcho_125.2.2.2.2.2.2.2.2.2.1
theorem dX12_addEcho_133 : decode cX12_addEcho 133 = .ok (.isub, 1) := gdX12_addEcho_125.2.2.2.2.2.2.2.2.2.2.1
theorem dX12_addEcho_134 : decode cX12_addEcho 134 = .ok (.istore 4, 2) := gdX12_addEcho_125.2.2.2.2.2.2.2.2.2.2.2
theorem gdX12_addEcho_136 : decode cX12_addEcho 136 = .ok (.iload_n 3, 1) ∧ decode cX12_addEcho 137 = .ok (.iload 4, 2) ∧ decode cX12_addEcho 139 = .ok (.if_icmp .ge 42, 3) ∧ decode cX12_addEcho 181 = .ok (.return_, 1) ∧ decode cX12_addEcho 142 = .ok (.aload_n 0, 1) ∧ decode cX12_addEcho 143 = .ok (.getfield 106, 3) ∧ decode cX12_addEcho 146 = .ok (.iload_n 3, 1) ∧ decode cX12_addEcho 147 = .ok (.iaload, 1) ∧ decode cX12_addEcho 148 = .ok (.istore 5, 2) ∧ decode cX12_addEcho 150 = .ok (.aload_n 0, 1) ∧ decode cX12_addEcho 151 = .ok (.getfield 106, 3) ∧ decode cX12_addEcho 154 = .ok (.iload_n 3, 1) := by decide +kernel
theorem dX12_addEcho_136 : decode cX12_addEcho 136 = .ok (.iload_n 3, 1) := gdX12_addEcho_136.1
theorem dX12_addEcho_137 : decode cX12_addEcho 137 = .ok (.iload 4, 2) := gdX12_addEcho_136.2.1
theorem dX12_addEcho_139 : decode cX12_addEcho 139 = .ok (.if_icmp .ge 42, 3) := gdX12_addEcho_136.2.2.1
theorem dX12_addEcho_181 : decode cX12_addEcho 181 = .ok (.return_, 1) := gdX12_addEcho_136.2.2.2.1
theorem dX12_addEcho_142 : decode cX12_addEcho 142 = .ok (.aload_n 0, 1) := gdX12_addEcho_136.2.2.2.2.1
theorem dX12_addEcho_143 : decode cX12_addEcho 143 = .ok (.getfield 106, 3) := gdX12_addEcho_136.2.2.2.2.2.1
theorem dX12_addEcho_146 : decode cX12_addEcho 146 = .ok (.iload_n 3, 1) := gdX12_addEcho_136.2.2.2.2.2.2.1
theorem dX12_addEcho_147 : decode cX12_addEcho 147 = .ok (.iaload, 1) := gdX12_addEcho_136.2.2.2.2.2.2.2.1
theorem dX12_addEcho_148 : decode cX12_addEcho 148 = .ok (.istore 5, 2) := gdX12_addEcho_136.2.2.2.2.2.2.2.2.1
theorem dX12_addEcho_150 : decode cX12_addEcho 150 = .ok (.aload_n 0, 1) := gdX12_addEcho_136.2.2.2.2.2.2.2.2.2.1
theorem dX12_addEcho_151 : decode cX12_addEcho 151 = .ok (.getfield 106, 3) := gdX12_addEcho_136.2.2.2.2.2.2.2.2.2.2.1
theorem dX12_addEcho_154 : decode cX12_addEcho 154 = .ok (.iload_n 3, 1) := gdX12_addEcho_136.2.2.2.2.2.2.2.2.2.2.2
theorem gdX12_addEcho_155 : decode cX12_addEcho 155 = .ok (.aload_n 0, 1) ∧ decode cX12_addEcho 156 = .ok (.getfield 106, 3) ∧ decode cX12_addEcho 159 = .ok (.iload 4, 2) ∧ decode cX12_addEcho 161 = .ok (.iaload, 1) ∧ decode cX12_addEcho 162 = .ok (.iastore, 1) ∧ decode cX12_addEcho 163 = .ok (.aload_n 0, 1) ∧ decode cX12_addEcho 164 = .ok (.getfield 106, 3) ∧ decode cX12_addEcho 167 = .ok (.iload 4, 2) ∧ decode cX12_addEcho 169 = .ok (.iload 5, 2) ∧ decode cX12_addEcho 171 = .ok (.iastore, 1) ∧ decode cX12_addEcho 172 = .ok (.iinc 4 (-1), 3) ∧ decode cX12_addEcho 175 = .ok (.iinc 3 1, 3) := by decide +kernel
theorem dX12_addEcho_155 : decode cX12_addEcho 155 = .ok (.aload_n 0, 1) := gdX12_addEcho_155.1
theorem dX12_addEcho_156 : decode cX12_addEcho 156 = .ok (.getfield 106, 3) := gdX12_addEcho_155.2.1
theorem dX12_addEcho_159 : decode cX12_addEcho 159 = .ok (.iload 4, 2) := gdX12_addEcho_155.2.2.1
theorem dX12_addEcho_161 : decode cX12_addEcho 161 = .ok (.iaload, 1) := gdX12_addEcho_155.2.2.2.1
theorem dX12_addEcho_162 : decode cX12_addEcho 162 = .ok (.iastore, 1) := gdX12_addEcho_155.2.2.2.2.1
theorem dX12_addEcho_163 : decode cX12_addEcho 163 = .ok (.aload_n 0, 1) := gdX12_addEcho_155.2.2.2.2.2.1
theorem dX12_addEcho_164 : decode cX12_addEcho 164 = .ok (.getfield 106, 3) := gdX12_addEcho_155.2.2.2.2.2.2.1
theorem dX12_addEcho_167 : decode cX12_addEcho 167 = .ok (.iload 4, 2) := gdX12_addEcho_155.2.2.2.2.2.2.2.1
theorem dX12_addEcho_169 : decode cX12_addEcho 169 = .ok (.iload 5, 2) := gdX12_addEcho_155.2.2.2.2.2.2.2.2.1
theorem dX12_addEcho_171 : decode cX12_addEcho 171 = .ok (.iastore, 1) := gdX12_addEcho_155.2.2.2.2.2.2.2.2.2.1
theorem dX12_addEcho_172 : decode cX12_addEcho 172 = .ok (.iinc 4 (-1), 3) := gdX12_addEcho_155.2.2.2.2.2.2.2.2.2.2.1
theorem dX12_addEcho_175 : decode cX12_addEcho 175 = .ok (.iinc 3 1, 3) := gdX12_addEcho_155.2.2.2.2.2.2.2.2.2.2.2
theorem gdX12_addEcho_178 : decode cX12_addEcho 178 = .ok (.goto (-42), 3) ∧ decode cX12_addEcho 42 = .ok (.aload_n 0, 1) ∧ decode cX12_addEcho 43 = .ok (.iload_n 1, 1) ∧ decode cX12_addEcho 44 = .ok (.iload_n 3, 1) ∧ decode cX12_addEcho 45 = .ok (.invokevirtual 484, 3) := by decide +kernel
theorem dX12_addEcho_178 : decode cX12_addEcho 178 = .ok (.goto (-42), 3) := gdX12_addEcho_178.1
theorem dX12_addEcho_42 : decode cX12_addEcho 42 = .ok (.aload_n 0, 1) := gdX12_addEcho_178.2.1
theorem dX12_addEcho_43 : decode cX12_addEcho 43 = .ok (.iload_n 1, 1) := gdX12_addEcho_178.2.2.1
theorem dX12_addEcho_44 : decode cX12_addEcho 44 = .ok (.iload_n 3, 1) := gdX12_addEcho_178.2.2.2.1
theorem dX12_addEcho_45 : decode cX12_addEcho 45 = .ok (.invokevirtual 484, 3) := gdX12_addEcho_178.2.2.2.2
theorem k_X12_484 : xV RX12 RX12 484 yX12_isLost cX12_isLost 3 (some .boolean) 2 := ⟨⟨m_1981, m_1983, m_114, m_146, m_1984⟩, rfl, by decide, by decide, by decide +kernel⟩
theorem gdX12_addEcho_48 : decode cX12_addEcho 48 = .ok (.ifCond .eq 6, 3) ∧ decode cX12_addEcho 54 = .ok (.aload_n 0, 1) ∧ decode cX12_addEcho 55 = .ok (.getfield 106, 3) ∧ decode cX12_addEcho 58 = .ok (.aload_n 0, 1) ∧ decode cX12_addEcho 59 = .ok (.getfield 477, 3) ∧ decode cX12_addEcho 62 = .ok (.aload_n 0, 1) ∧ decode cX12_addEcho 63 = .ok (.getfield 100, 3) ∧ decode cX12_addEcho 66 = .ok (.iload_n 3, 1) ∧ decode cX12_addEcho 67 = .ok (.iaload, 1) ∧ decode cX12_addEcho 68 = .ok (.iastore, 1) ∧ decode cX12_addEcho 69 = .ok (.aload_n 0, 1) ∧ decode cX12_addEcho 70 = .ok (.dup, 1) := by decide +kernel
theorem dX12_addEcho_48 : decode cX12_addEcho 48 = .ok (.ifCond .eq 6, 3) := gdX12_addEcho_48.1
theorem dX12_addEcho_54 : decode cX12_addEcho 54 = .ok (.aload_n 0, 1) := gdX12_addEcho_48.2.1
theorem dX12_addEcho_55 : decode cX12_addEcho 55 = .ok (.getfield 106, 3) := gdX12_addEcho_48.2.2.1
theorem dX12_addEcho_58 : decode cX12_addEcho 58 = .ok (.aload_n 0, 1) := gdX12_addEcho_48.2.2.2.1
theorem dX12_addEcho_59 : decode cX12_addEcho 59 = .ok (.getfield 477, 3) := gdX12_addEcho_48.2.2.2.2.1
theorem dX12_addEcho_62 : decode cX12_addEcho 62 = .ok (.aload_n 0, 1) := gdX12_addEcho_48.2.2.2.2.2.1
theorem dX12_addEcho_63 : decode cX12_addEcho 63 = .ok (.getfield 100, 3) := gdX12_addEcho_48.2.2.2.2.2.2.1
theorem dX12_addEcho_66 : decode cX12_addEcho 66 = .ok (.iload_n 3, 1) := gdX12_addEcho_48.2.2.2.2.2.2.2.1
theorem dX12_addEcho_67 : decode cX12_addEcho 67 = .ok (.iaload, 1) := gdX12_addEcho_48.2.2.2.2.2.2.2.2.1
theorem dX12_addEcho_68 : decode cX12_addEcho 68 = .ok (.iastore, 1) := gdX12_addEcho_48.2.2.2.2.2.2.2.2.2.1
theorem dX12_addEcho_69 : decode cX12_addEcho 69 = .ok (.aload_n 0, 1) := gdX12_addEcho_48.2.2.2.2.2.2.2.2.2.2.1
theorem dX12_addEcho_70 : decode cX12_addEcho 70 = .ok (.dup, 1) := gdX12_addEcho_48.2.2.2.2.2.2.2.2.2.2.2
theorem gdX12_addEcho_71 : decode cX12_addEcho 71 = .ok (.getfield 477, 3) ∧ decode cX12_addEcho 74 = .ok (.iconst 1, 1) ∧ decode cX12_addEcho 75 = .ok (.iadd, 1) ∧ decode cX12_addEcho 76 = .ok (.putfield 477, 3) ∧ decode cX12_addEcho 79 = .ok (.iinc 3 1, 3) ∧ decode cX12_addEcho 82 = .ok (.goto (-48), 3) ∧ decode cX12_addEcho 51 = .ok (.goto 28, 3) := by decide +kernel
theorem dX12_addEcho_71 : decode cX12_addEcho 71 = .ok (.getfield 477, 3) := gdX12_addEcho_71.1
theorem dX12_addEcho_74 : decode cX12_addEcho 74 = .ok (.iconst 1, 1) := gdX12_addEcho_71.2.1
theorem dX12_addEcho_75 : decode cX12_addEcho 75 = .ok (.iadd, 1) := gdX12_addEcho_71.2.2.1
theorem dX12_addEcho_76 : decode cX12_addEcho 76 = .ok (.putfield 477, 3) := gdX12_addEcho_71.2.2.2.1
theorem dX12_addEcho_79 : decode cX12_addEcho 79 = .ok (.iinc 3 1, 3) := gdX12_addEcho_71.2.2.2.2.1
theorem dX12_addEcho_82 : decode cX12_addEcho 82 = .ok (.goto (-48), 3) := gdX12_addEcho_71.2.2.2.2.2.1
theorem dX12_addEcho_51 : decode cX12_addEcho 51 = .ok (.goto 28, 3) := gdX12_addEcho_71.2.2.2.2.2.2
set_option maxHeartbeats 1000000 in
set_option maxRecDepth 100000 in
theorem r_addEcho (l : Launch) (D : va_G) (cy : Nat → ClassId) (m0 : Nat) (Mtape : Nat) (MnName : Nat) (MnStep : Nat) (MnArg : Nat) (MnMany : Nat) (Mstep : Nat) (Marg : Nat) (Mmany : Nat) (Mopen : Nat) (Mvalues : Nat) (MnHasForm : Nat) (MhasForm : Nat) (Masks : Nat) (MnLoud : Nat) (MnCliffAt : Nat) (MnSnow : Nat) (MnManAt : Nat) (MnVoice : Nat) (MnOn : Nat) (Mloud : Nat) (McliffAt : Nat) (MsnowTold : Nat) (MmanAt : Nat) (Mvoice : Nat) (Mon : Nat) (MnYes : Nat) (Myes : Nat) (Mnow : Nat) (Mcry : Nat) (Msnow : Nat) (Mecho : Nat) (Mwere : Nat) (Mlies : Nat) (Mspots : Nat) (Msteps : Nat) (MfromState : Nat) (MbyWord : Nat) (Mqueue : Nat) (MsoundCliff : Nat) (MsoundLong : Nat) (MsoundCame : Nat) (MsoundTold : Nat) (MsoundUntold : Nat) (Mstands : Nat) (Mtally : Nat) (MhasBox : Nat) (Mboxes : Nat) (Itaped : Nat) (Ifault : Nat) (IfaultPlace : Int32) (Iat : Nat) (Isize : Nat) (Isort : Int32) (Iplace : Int32) (Inumber : Int32) (Iword : Int64) (Gstep : Nat → Int32) (Garg : Nat → Int32) (Gmany : Nat → Int32) (Gvalues : Nat → Int32) (GhasForm : Nat → Int32) (Iform : Nat) (Iopens : Nat) (InUnits : Nat) (Iunits : Int32) (IownUnits : Nat) (Ideep : Nat) (Gasks : Nat → Int32) (Gloud : Nat → Int32) (GcliffAt : Nat → Int32) (InWords : Nat) (InCliffs : Nat) (InMen : Nat) (InStates : Nat) (InOns : Nat) (InWind : Int32) (InDraw : Int32) (Iwords : Nat) (Icliffs : Nat) (Imen : Nat) (Istates : Nat) (Ions : Int32) (IwindTold : Int32) (InHasWind : Int32) (InHasDraw : Int32) (Gcry : Nat → Int32) (Gsnow : Nat → Int32) (Gecho : Nat → Int32) (IcryMany : Nat) (IcallPlace : Int32) (IcallVoice : Int32) (Iwind : Int32) (Ichance : Int32) (IechoMany : Nat) (Iacts : Nat) (Iundone : Nat) (Ilain : Nat) (Isounds : Nat) (Itime : Int32) (IstandMany : Int32) (am : Nat → Nat) (AH : Nat → Nat → Nat) (j : Nat) (gtp : Itaped ≤ 1600) (gat : Iat ≤ Isize) (gsz : Isize ≤ 1600) (gfl : Ifault ≤ 5) (gfo : Iform ≤ 2) (gnw : InWords ≤ 8) (gnc : InCliffs ≤ 4) (gnm : InMen ≤ 4) (gns : InStates ≤ 6) (gw : Iwords ≤ 8) (gc9 : Icliffs ≤ 4) (gm : Imen ≤ 4) (gs : Istates ≤ 6) (gcm : IcryMany ≤ 10) (gem : IechoMany ≤ 20) (gau : Iacts + Iundone ≤ 40) (gla : Ilain ≤ 20) (gso : Isounds ≤ 30) (gop : Iopens ≤ 40) (gde : Ideep ≤ 8) (gou : IownUnits ≤ 31) (gnu : InUnits ≤ 61) (gno : InOns ≤ 30) (gcry : rng Gcry 10 7) (gech : rng Gecho 20 7) (gal2 : allR Gstep Garg Gmany am AH) (hj : j < 4) (hec : IechoMany + IcryMany ≤ 20) : XMv l D (tyL cy) E0 yX12_addEcho cX12_addEcho 6 none (rmk 4 0 0) [.ref m0, .int (nI j)] [wO m0 12 [.ref Mtape, .int (nI Itaped), .int (nI Ifault), .int IfaultPlace, .int (nI Iat), .int (nI Isize), .int Isort, .int Iplace, .int Inumber, .long Iword, .ref MnName, .ref MnStep, .ref MnArg, .ref MnMany, .ref Mstep, .ref Marg, .ref Mmany, .ref Mopen, .ref Mvalues, .ref MnHasForm, .ref MhasForm, .int (nI Iform), .int (nI Iopens), .int (nI InUnits), .int Iunits, .int (nI IownUnits), .int (nI Ideep), .ref Masks, .ref MnLoud, .ref MnCliffAt, .ref MnSnow, .ref MnManAt, .ref MnVoice, .ref MnOn, .ref Mloud, .ref McliffAt, .ref MsnowTold, .ref MmanAt, .ref Mvoice, .ref Mon, .ref MnYes, .ref Myes, .int (nI InWords), .int (nI InCliffs), .int (nI InMen), .int (nI InStates), .int (nI InOns), .int InWind, .int InDraw, .int (nI Iwords), .int (nI Icliffs), .int (nI Imen), .int (nI Istates), .int Ions, .int IwindTold, .int InHasWind, .int InHasDraw, .ref Mnow, .ref Mcry, .ref Msnow, .ref Mecho, .int (nI IcryMany), .int IcallPlace, .int IcallVoice, .int Iwind, .int Ichance, .int (nI IechoMany), .ref Mwere, .int (nI Iacts), .int (nI Iundone), .ref Mlies, .int (nI Ilain), .ref Mspots, .ref Msteps, .ref MfromState, .ref MbyWord, .ref Mqueue, .ref MsoundCliff, .ref MsoundLong, .ref MsoundCame, .ref MsoundTold, .ref MsoundUntold, .int (nI Isounds), .int Itime, .ref Mstands, .int IstandMany, .ref Mtally, .ref MhasBox, .ref Mboxes], wI (cy 1) Mstep 960 (Gstep), wI (cy 1) Marg 960 (Garg), wI (cy 1) Mmany 3 (Gmany), wI (cy 1) Mvalues 64 (Gvalues), wI (cy 1) Masks 7 (Gasks), wI (cy 3) MhasForm 3 (GhasForm), wI (cy 1) McliffAt 4 (GcliffAt), wI (cy 1) Msnow 4 (Gsnow), wI (cy 1) Mloud 8 (Gloud), wI (cy 1) Mcry 10 (Gcry), wI (cy 1) Mecho 20 (Gecho)] (fun (u : (Nat → Int32) × (Nat → Int32) × (Nat → Int32) × Nat) => (u.2.2.2 ≤ 20) ∧ (rng u.2.2.1 20 7) ∧ (u.2.2.2 ≤ IechoMany + IcryMany)) (fun (u : (Nat → Int32) × (Nat → Int32) × (Nat → Int32) × Nat) => [wO m0 12 [.ref Mtape, .int (nI Itaped), .int (nI Ifault), .int IfaultPlace, .int (nI Iat), .int (nI Isize), .int Isort, .int Iplace, .int Inumber, .long Iword, .ref MnName, .ref MnStep, .ref MnArg, .ref MnMany, .ref Mstep, .ref Marg, .ref Mmany, .ref Mopen, .ref Mvalues, .ref MnHasForm, .ref MhasForm, .int (nI Iform), .int (nI Iopens), .int (nI InUnits), .int Iunits, .int (nI IownUnits), .int (nI Ideep), .ref Masks, .ref MnLoud, .ref MnCliffAt, .ref MnSnow, .ref MnManAt, .ref MnVoice, .ref MnOn, .ref Mloud, .ref McliffAt, .ref MsnowTold, .ref MmanAt, .ref Mvoice, .ref Mon, .ref MnYes, .ref Myes, .int (nI InWords), .int (nI InCliffs), .int (nI InMen), .int (nI InStates), .int (nI InOns), .int InWind, .int InDraw, .int (nI Iwords), .int (nI Icliffs), .int (nI Imen), .int (nI Istates), .int Ions, .int IwindTold, .int InHasWind, .int InHasDraw, .ref Mnow, .ref Mcry, .ref Msnow, .ref Mecho, .int (nI IcryMany), .int IcallPlace, .int IcallVoice, .int Iwind, .int Ichance, .int (nI u.2.2.2), .ref Mwere, .int (nI Iacts), .int (nI Iundone), .ref Mlies, .int (nI Ilain), .ref Mspots, .ref Msteps, .ref MfromState, .ref MbyWord, .ref Mqueue, .ref MsoundCliff, .ref MsoundLong, .ref MsoundCame, .ref MsoundTold, .ref MsoundUntold, .int (nI Isounds), .int Itime, .ref Mstands, .int IstandMany, .ref Mtally, .ref MhasBox, .ref Mboxes], wI (cy 1) Mstep 960 (Gstep), wI (cy 1) Marg 960 (Garg), wI (cy 1) Mmany 3 (Gmany), wI (cy 1) Mvalues 64 (u.1), wI (cy 1) Masks 7 (u.2.1), wI (cy 3) MhasForm 3 (GhasForm), wI (cy 1) McliffAt 4 (GcliffAt), wI (cy 1) Msnow 4 (Gsnow), wI (cy 1) Mloud 8 (Gloud), wI (cy 1) Mcry 10 (Gcry), wI (cy 1) Mecho 20 (u.2.2.1)]) := by
  refine XMv.start (by decide) (Nat.le_of_ble_eq_true rfl) ?_
  intro p e s m below meth c args A ls Q hat hQ
  obtain ⟨hx, hb, hr, hml, hown, hg, hlocks, hin, hK, hA, hP, hD, hS, hE, hl⟩ := hat
  have hown : s.vm.findClass RX12 = some m.cls := hown
  have hl : lv_has ls 6 [(0, .ref m0), (1, .int (nI j))] := hl
  refine lv_aload_n hx hb dX12_addEcho_0 rfl (lv_at hl 0 rfl) ?_
  refine va_get (D := D) (ci := 12) (v := .int (nI IechoMany)) (C := RX12) (T := TX12) (N := 89) hx hb hg i_X12 hown hK hP 0 rfl rfl 66 (by decide) (hg _ m_1479) (fun _ h9 => h9) rfl dX12_addEcho_1 ?_
  refine lv_istore_n (lv' := [(2, .int (nI IechoMany)), (0, .ref m0), (1, .int (nI j))]) hx hb dX12_addEcho_4 rfl hl (by decide) rfl (fun ls hl => ?_)
  refine lv_aload_n hx hb dX12_addEcho_5 rfl (lv_at hl 1 rfl) ?_
  refine va_get (D := D) (ci := 12) (v := .int (nI IcryMany)) (C := RX12) (T := TX12) (N := 89) hx hb hg i_X12 hown hK hP 0 rfl rfl 61 (by decide) (hg _ m_1474) (fun _ h9 => h9) rfl dX12_addEcho_6 ?_
  refine lv_aload_n hx hb dX12_addEcho_9 rfl (lv_at hl 1 rfl) ?_
  refine lv_aload_n hx hb dX12_addEcho_10 rfl (lv_at hl 1 rfl) ?_
  refine lv_iload_n hx hb dX12_addEcho_11 rfl (lv_at hl 2 rfl) ?_
  refine x_callVi (q := (RX12, TX12, 89)) (ci := 12) (q0 := 0) (wr := [wI (cy 1) Mstep 960 (Gstep), wI (cy 1) Marg 960 (Garg), wI (cy 1) Mmany 3 (Gmany), wI (cy 1) Mvalues 64 (Gvalues), wI (cy 1) Masks 7 (Gasks), wI (cy 3) MhasForm 3 (GhasForm), wI (cy 1) Msnow 4 (Gsnow), wI (cy 1) Mloud 8 (Gloud), wI (cy 1) Mcry 10 (Gcry), wI (cy 1) Mecho 20 (Gecho)]) (rest := [.ref m0, .int (nI IcryMany)]) ⟨hx, hb, hml, hown, hg, hl.1⟩ k_X12_474 (r_farOf l D cy m0 Mtape MnName MnStep MnArg MnMany Mstep Marg Mmany Mopen Mvalues MnHasForm MhasForm Masks MnLoud MnCliffAt MnSnow MnManAt MnVoice MnOn Mloud McliffAt MsnowTold MmanAt Mvoice Mon MnYes Myes Mnow Mcry Msnow Mecho Mwere Mlies Mspots Msteps MfromState MbyWord Mqueue MsoundCliff MsoundLong MsoundCame MsoundTold MsoundUntold Mstands Mtally MhasBox Mboxes Itaped Ifault IfaultPlace Iat Isize Isort Iplace Inumber Iword Iform Iopens InUnits Iunits IownUnits Ideep GcliffAt InWords InCliffs InMen InStates InOns InWind InDraw Iwords Icliffs Imen Istates Ions IwindTold InHasWind InHasDraw IcryMany IcallPlace IcallVoice Iwind Ichance IechoMany Iacts Iundone Ilain Isounds Itime IstandMany j (by first | assumption | omega) (by first | assumption | omega) (by first | assumption | omega) (by first | assumption | omega) (by first | assumption | omega) (by first | assumption | omega) (by first | assumption | omega) (by first | assumption | omega) (by first | assumption | omega) (by first | assumption | omega) (by first | assumption | omega) (by first | assumption | omega) (by first | assumption | omega) (by first | assumption | omega) (by first | assumption | omega) (by first | assumption | omega) (by first | assumption | omega) (by first | assumption | omega) (by first | assumption | omega) (by first | assumption | omega) (by first | assumption | omega) (by first | assumption | omega) (by first | assumption | omega) (by first | assumption | omega)) E0_blind hK hP hD hS hA [0, 7] [1, 2, 3, 4, 5, 6, 8, 9, 10, 11] ⟨rfl, rfl, by decide +kernel, by decide +kernel, by decide +kernel⟩ rfl rfl (fun _ _ _ => trivial) dX12_addEcho_12 rfl rfl (Nat.le_of_ble_eq_true rfl) ⟨Nat.le_of_ble_eq_true rfl, Nat.le_of_ble_eq_true rfl⟩ ⟨Nat.le_of_ble_eq_true rfl, Nat.le_of_ble_eq_true rfl⟩ (fun zr1 zu1 H locs hw1 hP9 hD9 hS9 => ?_)
  clear hP hD hS
  refine reW [wI (cy 1) Mstep 960 (Gstep), wI (cy 1) Marg 960 (Garg), wI (cy 1) Mmany 3 (Gmany), wI (cy 1) Mvalues 64 (Gvalues), wI (cy 1) Masks 7 (Gasks), wI (cy 3) MhasForm 3 (GhasForm), wI (cy 1) Msnow 4 (Gsnow), wI (cy 1) Mloud 8 (Gloud), wI (cy 1) Mcry 10 (Gcry), wI (cy 1) Mecho 20 (Gecho), wO m0 12 [.ref Mtape, .int (nI Itaped), .int (nI Ifault), .int IfaultPlace, .int (nI Iat), .int (nI Isize), .int Isort, .int Iplace, .int Inumber, .long Iword, .ref MnName, .ref MnStep, .ref MnArg, .ref MnMany, .ref Mstep, .ref Marg, .ref Mmany, .ref Mopen, .ref Mvalues, .ref MnHasForm, .ref MhasForm, .int (nI Iform), .int (nI Iopens), .int (nI InUnits), .int Iunits, .int (nI IownUnits), .int (nI Ideep), .ref Masks, .ref MnLoud, .ref MnCliffAt, .ref MnSnow, .ref MnManAt, .ref MnVoice, .ref MnOn, .ref Mloud, .ref McliffAt, .ref MsnowTold, .ref MmanAt, .ref Mvoice, .ref Mon, .ref MnYes, .ref Myes, .int (nI InWords), .int (nI InCliffs), .int (nI InMen), .int (nI InStates), .int (nI InOns), .int InWind, .int InDraw, .int (nI Iwords), .int (nI Icliffs), .int (nI Imen), .int (nI Istates), .int Ions, .int IwindTold, .int InHasWind, .int InHasDraw, .ref Mnow, .ref Mcry, .ref Msnow, .ref Mecho, .int (nI IcryMany), .int IcallPlace, .int IcallVoice, .int Iwind, .int Ichance, .int (nI IechoMany), .ref Mwere, .int (nI Iacts), .int (nI Iundone), .ref Mlies, .int (nI Ilain), .ref Mspots, .ref Msteps, .ref MfromState, .ref MbyWord, .ref Mqueue, .ref MsoundCliff, .ref MsoundLong, .ref MsoundCame, .ref MsoundTold, .ref MsoundUntold, .int (nI Isounds), .int Itime, .ref Mstands, .int IstandMany, .ref Mtally, .ref MhasBox, .ref Mboxes], wI (cy 1) McliffAt 4 (GcliffAt)] hP9 hD9 hS9 (fun hP hD hS => ?_)
  clear hP9 hD9 hS9
  refine W.widen (k := 0) (n := 0) (Nat.le_of_ble_eq_true rfl) (Nat.le_of_ble_eq_true rfl) ?_
  change True at hw1
  refine lv_aload_n hx hb dX12_addEcho_15 rfl (lv_at hl 1 rfl) ?_
  refine va_get (D := D) (ci := 12) (v := .int Iwind) (C := RX12) (T := TX12) (N := 89) hx hb hg i_X12 hown hK hP 10 rfl rfl 64 (by decide) (hg _ m_1477) (fun _ h9 => h9) rfl dX12_addEcho_16 ?_
  refine lv_aload_n hx hb dX12_addEcho_19 rfl (lv_at hl 1 rfl) ?_
  refine va_get (D := D) (ci := 12) (v := .ref Msnow) (C := RX12) (T := TX12) (N := 89) hx hb hg i_X12 hown hK hP 10 rfl rfl 59 (by decide) (hg _ m_1472) (fun _ h9 => h9) rfl dX12_addEcho_20 ?_
  refine lv_iload_n hx hb dX12_addEcho_23 rfl (lv_at hl 2 rfl) ?_
  refine va_iald hx hb hK hP 6 1 rfl rfl (vp_in_nI (by omega) (by decide)) dX12_addEcho_24 ?_
  refine lv_topi (fun x_2 ex_2 => ?_)
  refine lv_aload_n hx hb dX12_addEcho_25 rfl (lv_at hl 1 rfl) ?_
  refine va_get (D := D) (ci := 12) (v := .int (nI IcryMany)) (C := RX12) (T := TX12) (N := 89) hx hb hg i_X12 hown hK hP 10 rfl rfl 61 (by decide) (hg _ m_1474) (fun _ h9 => h9) rfl dX12_addEcho_26 ?_
  refine x_callVi (q := (RX12, TX12, 89)) (ci := 12) (q0 := 0) (wr := [wI (cy 1) Msnow 4 (Gsnow), wI (cy 1) Mloud 8 (Gloud), wI (cy 1) Mcry 10 (Gcry), wI (cy 1) Mecho 20 (Gecho), wI (cy 1) McliffAt 4 (GcliffAt)]) (rest := [.int (nI IcryMany)]) ⟨hx, hb, hml, hown, hg, hl.1⟩ k_X12_480 (r_backOf l D cy m0 Mtape MnName MnStep MnArg MnMany Mstep Marg Mmany Mopen Mvalues MnHasForm MhasForm Masks MnLoud MnCliffAt MnSnow MnManAt MnVoice MnOn Mloud McliffAt MsnowTold MmanAt Mvoice Mon MnYes Myes Mnow Mcry Msnow Mecho Mwere Mlies Mspots Msteps MfromState MbyWord Mqueue MsoundCliff MsoundLong MsoundCame MsoundTold MsoundUntold Mstands Mtally MhasBox Mboxes Itaped Ifault IfaultPlace Iat Isize Isort Iplace Inumber Iword Gstep Garg Gmany Gvalues GhasForm Iform Iopens InUnits Iunits IownUnits Ideep Gasks InWords InCliffs InMen InStates InOns InWind InDraw Iwords Icliffs Imen Istates Ions IwindTold InHasWind InHasDraw IcryMany IcallPlace IcallVoice Iwind Ichance IechoMany Iacts Iundone Ilain Isounds Itime IstandMany am AH zr1 Iwind x_2 IcryMany (by first | assumption | omega) (by first | assumption | omega) (by first | assumption | omega) (by first | assumption | omega) (by first | assumption | omega) (by first | assumption | omega) (by first | assumption | omega) (by first | assumption | omega) (by first | assumption | omega) (by first | assumption | omega) (by first | assumption | omega) (by first | assumption | omega) (by first | assumption | omega) (by first | assumption | omega) (by first | assumption | omega) (by first | assumption | omega) (by first | assumption | omega) (by first | assumption | omega) (by first | assumption | omega) (by first | assumption | omega) (by first | assumption | omega) (by first | assumption | omega) (by first | assumption | omega) (gal2) (by first | assumption | omega)) E0_blind hK hP hD hS hA [10, 0, 1, 2, 3, 4, 5] [6, 7, 8, 9, 11] ⟨rfl, rfl, by decide +kernel, by decide +kernel, by decide +kernel⟩ rfl rfl (fun _ _ _ => trivial) dX12_addEcho_29 rfl rfl (Nat.le_of_ble_eq_true rfl) ⟨Nat.le_of_ble_eq_true rfl, Nat.le_of_ble_eq_true rfl⟩ ⟨Nat.le_of_ble_eq_true rfl, Nat.le_of_ble_eq_true rfl⟩ (fun zr3 zu3 H locs hw3 hP9 hD9 hS9 => ?_)
  clear hP hD hS
  obtain ⟨Gvalues2_4, Gasks2_5, bk_6⟩ := zu3
  refine reW [wI (cy 1) Msnow 4 (Gsnow), wI (cy 1) Mloud 8 (Gloud), wI (cy 1) Mcry 10 (Gcry), wI (cy 1) Mecho 20 (Gecho), wI (cy 1) McliffAt 4 (GcliffAt), wO m0 12 [.ref Mtape, .int (nI Itaped), .int (nI Ifault), .int IfaultPlace, .int (nI Iat), .int (nI Isize), .int Isort, .int Iplace, .int Inumber, .long Iword, .ref MnName, .ref MnStep, .ref MnArg, .ref MnMany, .ref Mstep, .ref Marg, .ref Mmany, .ref Mopen, .ref Mvalues, .ref MnHasForm, .ref MhasForm, .int (nI Iform), .int (nI Iopens), .int (nI InUnits), .int Iunits, .int (nI IownUnits), .int (nI Ideep), .ref Masks, .ref MnLoud, .ref MnCliffAt, .ref MnSnow, .ref MnManAt, .ref MnVoice, .ref MnOn, .ref Mloud, .ref McliffAt, .ref MsnowTold, .ref MmanAt, .ref Mvoice, .ref Mon, .ref MnYes, .ref Myes, .int (nI InWords), .int (nI InCliffs), .int (nI InMen), .int (nI InStates), .int (nI InOns), .int InWind, .int InDraw, .int (nI Iwords), .int (nI Icliffs), .int (nI Imen), .int (nI Istates), .int Ions, .int IwindTold, .int InHasWind, .int InHasDraw, .ref Mnow, .ref Mcry, .ref Msnow, .ref Mecho, .int (nI IcryMany), .int IcallPlace, .int IcallVoice, .int Iwind, .int Ichance, .int (nI IechoMany), .ref Mwere, .int (nI Iacts), .int (nI Iundone), .ref Mlies, .int (nI Ilain), .ref Mspots, .ref Msteps, .ref MfromState, .ref MbyWord, .ref Mqueue, .ref MsoundCliff, .ref MsoundLong, .ref MsoundCame, .ref MsoundTold, .ref MsoundUntold, .int (nI Isounds), .int Itime, .ref Mstands, .int IstandMany, .ref Mtally, .ref MhasBox, .ref Mboxes], wI (cy 1) Mstep 960 (Gstep), wI (cy 1) Marg 960 (Garg), wI (cy 1) Mmany 3 (Gmany), wI (cy 1) Mvalues 64 (Gvalues2_4), wI (cy 1) Masks 7 (Gasks2_5), wI (cy 3) MhasForm 3 (GhasForm)] hP9 hD9 hS9 (fun hP hD hS => ?_)
  clear hP9 hD9 hS9
  refine W.widen (k := 0) (n := 0) (Nat.le_of_ble_eq_true rfl) (Nat.le_of_ble_eq_true rfl) ?_
  change (zr3 = nI bk_6) ∧ (bk_6 ≤ IcryMany) at hw3
  obtain ⟨f_7, f_8⟩ := hw3
  subst f_7
  refine lv_isub hx hb dX12_addEcho_32 ?_
  refine lv_topi (fun y_9 hy_9 => ?_)
  obtain rfl : y_9 = nI (IcryMany - bk_6) := hy_9.trans (pk_sub (a := IcryMany) (b := bk_6) (by omega))
  refine lv_istore_n (lv' := [(3, .int (nI (IcryMany - bk_6))), (2, .int (nI IechoMany)), (0, .ref m0), (1, .int (nI j))]) hx hb dX12_addEcho_33 rfl hl (by decide) rfl (fun ls hl => ?_)
  have loop10 : ∀ (zn : Nat) (k10 : Nat) (eq10 : Nat) (fa2_10 : Nat → Int32) (fa3_10 : Nat → Int32) (fa4_10 : Nat → Int32), (rng fa2_10 20 7) → (k10 ≤ IcryMany) → (IechoMany ≤ eq10) → (eq10 ≤ IechoMany + k10) → IcryMany - k10 + 1 ≤ zn → ∀ (H : Heap) (locs : List Loc), va_P D vwCl [wI (cy 1) Msnow 4 (Gsnow), wI (cy 1) Mloud 8 (Gloud), wI (cy 1) Mcry 10 (Gcry), wI (cy 1) Mecho 20 (fa2_10), wI (cy 1) McliffAt 4 (GcliffAt), wO m0 12 [.ref Mtape, .int (nI Itaped), .int (nI Ifault), .int IfaultPlace, .int (nI Iat), .int (nI Isize), .int Isort, .int Iplace, .int Inumber, .long Iword, .ref MnName, .ref MnStep, .ref MnArg, .ref MnMany, .ref Mstep, .ref Marg, .ref Mmany, .ref Mopen, .ref Mvalues, .ref MnHasForm, .ref MhasForm, .int (nI Iform), .int (nI Iopens), .int (nI InUnits), .int Iunits, .int (nI IownUnits), .int (nI Ideep), .ref Masks, .ref MnLoud, .ref MnCliffAt, .ref MnSnow, .ref MnManAt, .ref MnVoice, .ref MnOn, .ref Mloud, .ref McliffAt, .ref MsnowTold, .ref MmanAt, .ref Mvoice, .ref Mon, .ref MnYes, .ref Myes, .int (nI InWords), .int (nI InCliffs), .int (nI InMen), .int (nI InStates), .int (nI InOns), .int InWind, .int InDraw, .int (nI Iwords), .int (nI Icliffs), .int (nI Imen), .int (nI Istates), .int Ions, .int IwindTold, .int InHasWind, .int InHasDraw, .ref Mnow, .ref Mcry, .ref Msnow, .ref Mecho, .int (nI IcryMany), .int IcallPlace, .int IcallVoice, .int Iwind, .int Ichance, .int (nI eq10), .ref Mwere, .int (nI Iacts), .int (nI Iundone), .ref Mlies, .int (nI Ilain), .ref Mspots, .ref Msteps, .ref MfromState, .ref MbyWord, .ref Mqueue, .ref MsoundCliff, .ref MsoundLong, .ref MsoundCame, .ref MsoundTold, .ref MsoundUntold, .int (nI Isounds), .int Itime, .ref Mstands, .int IstandMany, .ref Mtally, .ref MhasBox, .ref Mboxes], wI (cy 1) Mstep 960 (Gstep), wI (cy 1) Marg 960 (Garg), wI (cy 1) Mmany 3 (Gmany), wI (cy 1) Mvalues 64 (fa4_10), wI (cy 1) Masks 7 (fa3_10), wI (cy 3) MhasForm 3 (GhasForm)] H → va_D A [wI (cy 1) Msnow 4 (Gsnow), wI (cy 1) Mloud 8 (Gloud), wI (cy 1) Mcry 10 (Gcry), wI (cy 1) Mecho 20 (fa2_10), wI (cy 1) McliffAt 4 (GcliffAt), wO m0 12 [.ref Mtape, .int (nI Itaped), .int (nI Ifault), .int IfaultPlace, .int (nI Iat), .int (nI Isize), .int Isort, .int Iplace, .int Inumber, .long Iword, .ref MnName, .ref MnStep, .ref MnArg, .ref MnMany, .ref Mstep, .ref Marg, .ref Mmany, .ref Mopen, .ref Mvalues, .ref MnHasForm, .ref MhasForm, .int (nI Iform), .int (nI Iopens), .int (nI InUnits), .int Iunits, .int (nI IownUnits), .int (nI Ideep), .ref Masks, .ref MnLoud, .ref MnCliffAt, .ref MnSnow, .ref MnManAt, .ref MnVoice, .ref MnOn, .ref Mloud, .ref McliffAt, .ref MsnowTold, .ref MmanAt, .ref Mvoice, .ref Mon, .ref MnYes, .ref Myes, .int (nI InWords), .int (nI InCliffs), .int (nI InMen), .int (nI InStates), .int (nI InOns), .int InWind, .int InDraw, .int (nI Iwords), .int (nI Icliffs), .int (nI Imen), .int (nI Istates), .int Ions, .int IwindTold, .int InHasWind, .int InHasDraw, .ref Mnow, .ref Mcry, .ref Msnow, .ref Mecho, .int (nI IcryMany), .int IcallPlace, .int IcallVoice, .int Iwind, .int Ichance, .int (nI eq10), .ref Mwere, .int (nI Iacts), .int (nI Iundone), .ref Mlies, .int (nI Ilain), .ref Mspots, .ref Msteps, .ref MfromState, .ref MbyWord, .ref Mqueue, .ref MsoundCliff, .ref MsoundLong, .ref MsoundCame, .ref MsoundTold, .ref MsoundUntold, .int (nI Isounds), .int Itime, .ref Mstands, .int IstandMany, .ref Mtally, .ref MhasBox, .ref Mboxes], wI (cy 1) Mstep 960 (Gstep), wI (cy 1) Marg 960 (Garg), wI (cy 1) Mmany 3 (Gmany), wI (cy 1) Mvalues 64 (fa4_10), wI (cy 1) Masks 7 (fa3_10), wI (cy 3) MhasForm 3 (GhasForm)] → va_S A s.heap H locs → ∀ ls : Array Slot, lv_has ls 6 [(3, .int (nI k10)), (2, .int (nI IechoMany)), (0, .ref m0), (1, .int (nI j))] → W p l e (rmk 4 0 0) s m args below meth c H locs 0 0 Q (F0 m 34 ls []) := by
    try clear hP hD hS
    intro zn
    induction zn with
    | zero => intro k10 eq10 fa2_10 fa3_10 fa4_10 _ _ _ _ hz; exact absurd hz (by omega)
    | succ zn ih10 =>
      intro k10 eq10 fa2_10 fa3_10 fa4_10 ha3_10 hf0_10 hf1_10 hf2_10 hmu10 H locs hP hD hS ls hl
      refine lv_iload_n hx hb dX12_addEcho_34 rfl (lv_at hl 0 rfl) ?_
      refine lv_aload_n hx hb dX12_addEcho_35 rfl (lv_at hl 2 rfl) ?_
      refine va_get (D := D) (ci := 12) (v := .int (nI IcryMany)) (C := RX12) (T := TX12) (N := 89) hx hb hg i_X12 hown hK hP 5 rfl rfl 61 (by decide) (hg _ m_1474) (fun _ h9 => h9) rfl dX12_addEcho_36 ?_
      refine lv_icmp_ge (tgt := 85) hx hb dX12_addEcho_39 (by decide) (fun c_11 => ?_) (fun c_11 => ?_)
      · have q_12 : IcryMany ≤ k10 := q_le (a := IcryMany) (b := k10) rfl rfl (by omega) (by omega) c_11
        refine lv_aload_n hx hb dX12_addEcho_85 rfl (lv_at hl 2 rfl) ?_
        refine lv_aload_n hx hb dX12_addEcho_86 rfl (lv_at hl 2 rfl) ?_
        refine lv_iload_n hx hb dX12_addEcho_87 rfl (lv_at hl 3 rfl) ?_
        refine x_callVi (q := (RX12, TX12, 89)) (ci := 12) (q0 := 0) (wr := [wI (cy 1) Msnow 4 (Gsnow), wI (cy 1) Mloud 8 (Gloud), wI (cy 1) Mcry 10 (Gcry), wI (cy 1) Mecho 20 (fa2_10), wI (cy 1) Mstep 960 (Gstep), wI (cy 1) Marg 960 (Garg), wI (cy 1) Mmany 3 (Gmany), wI (cy 1) Mvalues 64 (fa4_10), wI (cy 1) Masks 7 (fa3_10), wI (cy 3) MhasForm 3 (GhasForm)]) (rest := [.ref m0]) ⟨hx, hb, hml, hown, hg, hl.1⟩ k_X12_474 (r_farOf l D cy m0 Mtape MnName MnStep MnArg MnMany Mstep Marg Mmany Mopen Mvalues MnHasForm MhasForm Masks MnLoud MnCliffAt MnSnow MnManAt MnVoice MnOn Mloud McliffAt MsnowTold MmanAt Mvoice Mon MnYes Myes Mnow Mcry Msnow Mecho Mwere Mlies Mspots Msteps MfromState MbyWord Mqueue MsoundCliff MsoundLong MsoundCame MsoundTold MsoundUntold Mstands Mtally MhasBox Mboxes Itaped Ifault IfaultPlace Iat Isize Isort Iplace Inumber Iword Iform Iopens InUnits Iunits IownUnits Ideep GcliffAt InWords InCliffs InMen InStates InOns InWind InDraw Iwords Icliffs Imen Istates Ions IwindTold InHasWind InHasDraw IcryMany IcallPlace IcallVoice Iwind Ichance eq10 Iacts Iundone Ilain Isounds Itime IstandMany j (by first | assumption | omega) (by first | assumption | omega) (by first | assumption | omega) (by first | assumption | omega) (by first | assumption | omega) (by first | assumption | omega) (by first | assumption | omega) (by first | assumption | omega) (by first | assumption | omega) (by first | assumption | omega) (by first | assumption | omega) (by first | assumption | omega) (by first | assumption | omega) (by first | assumption | omega) (by first | assumption | omega) (by first | assumption | omega) (by first | assumption | omega) (by first | assumption | omega) (by first | assumption | omega) (by first | assumption | omega) (by first | assumption | omega) (by first | assumption | omega) (by first | assumption | omega) (by first | assumption | omega)) E0_blind hK hP hD hS hA [5, 4] [0, 1, 2, 3, 6, 7, 8, 9, 10, 11] ⟨rfl, rfl, by decide +kernel, by decide +kernel, by decide +kernel⟩ rfl rfl (fun _ _ _ => trivial) dX12_addEcho_88 rfl rfl (Nat.le_of_ble_eq_true rfl) ⟨Nat.le_of_ble_eq_true rfl, Nat.le_of_ble_eq_true rfl⟩ ⟨Nat.le_of_ble_eq_true rfl, Nat.le_of_ble_eq_true rfl⟩ (fun zr13 zu13 H locs hw13 hP9 hD9 hS9 => ?_)
        clear hP hD hS
        refine reW [wI (cy 1) Msnow 4 (Gsnow), wI (cy 1) Mloud 8 (Gloud), wI (cy 1) Mcry 10 (Gcry), wI (cy 1) Mecho 20 (fa2_10), wI (cy 1) Mstep 960 (Gstep), wI (cy 1) Marg 960 (Garg), wI (cy 1) Mmany 3 (Gmany), wI (cy 1) Mvalues 64 (fa4_10), wI (cy 1) Masks 7 (fa3_10), wI (cy 3) MhasForm 3 (GhasForm), wO m0 12 [.ref Mtape, .int (nI Itaped), .int (nI Ifault), .int IfaultPlace, .int (nI Iat), .int (nI Isize), .int Isort, .int Iplace, .int Inumber, .long Iword, .ref MnName, .ref MnStep, .ref MnArg, .ref MnMany, .ref Mstep, .ref Marg, .ref Mmany, .ref Mopen, .ref Mvalues, .ref MnHasForm, .ref MhasForm, .int (nI Iform), .int (nI Iopens), .int (nI InUnits), .int Iunits, .int (nI IownUnits), .int (nI Ideep), .ref Masks, .ref MnLoud, .ref MnCliffAt, .ref MnSnow, .ref MnManAt, .ref MnVoice, .ref MnOn, .ref Mloud, .ref McliffAt, .ref MsnowTold, .ref MmanAt, .ref Mvoice, .ref Mon, .ref MnYes, .ref Myes, .int (nI InWords), .int (nI InCliffs), .int (nI InMen), .int (nI InStates), .int (nI InOns), .int InWind, .int InDraw, .int (nI Iwords), .int (nI Icliffs), .int (nI Imen), .int (nI Istates), .int Ions, .int IwindTold, .int InHasWind, .int InHasDraw, .ref Mnow, .ref Mcry, .ref Msnow, .ref Mecho, .int (nI IcryMany), .int IcallPlace, .int IcallVoice, .int Iwind, .int Ichance, .int (nI eq10), .ref Mwere, .int (nI Iacts), .int (nI Iundone), .ref Mlies, .int (nI Ilain), .ref Mspots, .ref Msteps, .ref MfromState, .ref MbyWord, .ref Mqueue, .ref MsoundCliff, .ref MsoundLong, .ref MsoundCame, .ref MsoundTold, .ref MsoundUntold, .int (nI Isounds), .int Itime, .ref Mstands, .int IstandMany, .ref Mtally, .ref MhasBox, .ref Mboxes], wI (cy 1) McliffAt 4 (GcliffAt)] hP9 hD9 hS9 (fun hP hD hS => ?_)
        clear hP9 hD9 hS9
        refine W.widen (k := 0) (n := 0) (Nat.le_of_ble_eq_true rfl) (Nat.le_of_ble_eq_true rfl) ?_
        change True at hw13
        refine lv_aload_n hx hb dX12_addEcho_91 rfl (lv_at hl 2 rfl) ?_
        refine va_get (D := D) (ci := 12) (v := .int Iwind) (C := RX12) (T := TX12) (N := 89) hx hb hg i_X12 hown hK hP 10 rfl rfl 64 (by decide) (hg _ m_1477) (fun _ h9 => h9) rfl dX12_addEcho_92 ?_
        refine lv_aload_n hx hb dX12_addEcho_95 rfl (lv_at hl 2 rfl) ?_
        refine va_get (D := D) (ci := 12) (v := .ref Msnow) (C := RX12) (T := TX12) (N := 89) hx hb hg i_X12 hown hK hP 10 rfl rfl 59 (by decide) (hg _ m_1472) (fun _ h9 => h9) rfl dX12_addEcho_96 ?_
        refine lv_iload_n hx hb dX12_addEcho_99 rfl (lv_at hl 3 rfl) ?_
        refine va_iald hx hb hK hP 0 1 rfl rfl (vp_in_nI (by omega) (by decide)) dX12_addEcho_100 ?_
        refine lv_topi (fun x_14 ex_14 => ?_)
        refine lv_aload_n hx hb dX12_addEcho_101 rfl (lv_at hl 2 rfl) ?_
        refine va_get (D := D) (ci := 12) (v := .int (nI IcryMany)) (C := RX12) (T := TX12) (N := 89) hx hb hg i_X12 hown hK hP 10 rfl rfl 61 (by decide) (hg _ m_1474) (fun _ h9 => h9) rfl dX12_addEcho_102 ?_
        refine x_callVv (q := (RX12, TX12, 89)) (ci := 12) (q0 := 0) (wr := [wI (cy 1) Msnow 4 (Gsnow), wI (cy 1) Mloud 8 (Gloud), wI (cy 1) Mcry 10 (Gcry), wI (cy 1) Mecho 20 (fa2_10), wI (cy 1) Mstep 960 (Gstep), wI (cy 1) Marg 960 (Garg), wI (cy 1) Mmany 3 (Gmany), wI (cy 1) Mvalues 64 (fa4_10), wI (cy 3) MhasForm 3 (GhasForm), wI (cy 1) McliffAt 4 (GcliffAt)]) (rest := []) ⟨hx, hb, hml, hown, hg, hl.1⟩ k_X12_467 (r_askOf l D cy m0 Mtape MnName MnStep MnArg MnMany Mstep Marg Mmany Mopen Mvalues MnHasForm MhasForm Masks MnLoud MnCliffAt MnSnow MnManAt MnVoice MnOn Mloud McliffAt MsnowTold MmanAt Mvoice Mon MnYes Myes Mnow Mcry Msnow Mecho Mwere Mlies Mspots Msteps MfromState MbyWord Mqueue MsoundCliff MsoundLong MsoundCame MsoundTold MsoundUntold Mstands Mtally MhasBox Mboxes Itaped Ifault IfaultPlace Iat Isize Isort Iplace Inumber Iword Iform Iopens InUnits Iunits IownUnits Ideep fa3_10 InWords InCliffs InMen InStates InOns InWind InDraw Iwords Icliffs Imen Istates Ions IwindTold InHasWind InHasDraw IcryMany IcallPlace IcallVoice Iwind Ichance eq10 Iacts Iundone Ilain Isounds Itime IstandMany zr13 Iwind x_14 (nI IcryMany) (by first | assumption | omega) (by first | assumption | omega) (by first | assumption | omega) (by first | assumption | omega) (by first | assumption | omega) (by first | assumption | omega) (by first | assumption | omega) (by first | assumption | omega) (by first | assumption | omega) (by first | assumption | omega) (by first | assumption | omega) (by first | assumption | omega) (by first | assumption | omega) (by first | assumption | omega) (by first | assumption | omega) (by first | assumption | omega) (by first | assumption | omega) (by first | assumption | omega) (by first | assumption | omega) (by first | assumption | omega) (by first | assumption | omega) (by first | assumption | omega) (by first | assumption | omega)) E0_blind hK hP hD hS hA [10, 8] [0, 1, 2, 3, 4, 5, 6, 7, 9, 11] ⟨rfl, rfl, by decide +kernel, by decide +kernel, by decide +kernel⟩ rfl rfl (fun _ _ _ => trivial) dX12_addEcho_105 rfl rfl (Nat.le_of_ble_eq_true rfl) ⟨Nat.le_of_ble_eq_true rfl, Nat.le_of_ble_eq_true rfl⟩ ⟨Nat.le_of_ble_eq_true rfl, Nat.le_of_ble_eq_true rfl⟩ (fun zu15 H locs hw15 hP9 hD9 hS9 => ?_)
        clear hP hD hS
        obtain ⟨Gasks2_16, rfl⟩ : ∃ z, z = zu15 := ⟨_, rfl⟩
        refine reW [wI (cy 1) Msnow 4 (Gsnow), wI (cy 1) Mloud 8 (Gloud), wI (cy 1) Mcry 10 (Gcry), wI (cy 1) Mecho 20 (fa2_10), wI (cy 1) Mstep 960 (Gstep), wI (cy 1) Marg 960 (Garg), wI (cy 1) Mmany 3 (Gmany), wI (cy 1) Mvalues 64 (fa4_10), wI (cy 3) MhasForm 3 (GhasForm), wI (cy 1) McliffAt 4 (GcliffAt), wO m0 12 [.ref Mtape, .int (nI Itaped), .int (nI Ifault), .int IfaultPlace, .int (nI Iat), .int (nI Isize), .int Isort, .int Iplace, .int Inumber, .long Iword, .ref MnName, .ref MnStep, .ref MnArg, .ref MnMany, .ref Mstep, .ref Marg, .ref Mmany, .ref Mopen, .ref Mvalues, .ref MnHasForm, .ref MhasForm, .int (nI Iform), .int (nI Iopens), .int (nI InUnits), .int Iunits, .int (nI IownUnits), .int (nI Ideep), .ref Masks, .ref MnLoud, .ref MnCliffAt, .ref MnSnow, .ref MnManAt, .ref MnVoice, .ref MnOn, .ref Mloud, .ref McliffAt, .ref MsnowTold, .ref MmanAt, .ref Mvoice, .ref Mon, .ref MnYes, .ref Myes, .int (nI InWords), .int (nI InCliffs), .int (nI InMen), .int (nI InStates), .int (nI InOns), .int InWind, .int InDraw, .int (nI Iwords), .int (nI Icliffs), .int (nI Imen), .int (nI Istates), .int Ions, .int IwindTold, .int InHasWind, .int InHasDraw, .ref Mnow, .ref Mcry, .ref Msnow, .ref Mecho, .int (nI IcryMany), .int IcallPlace, .int IcallVoice, .int Iwind, .int Ichance, .int (nI eq10), .ref Mwere, .int (nI Iacts), .int (nI Iundone), .ref Mlies, .int (nI Ilain), .ref Mspots, .ref Msteps, .ref MfromState, .ref MbyWord, .ref Mqueue, .ref MsoundCliff, .ref MsoundLong, .ref MsoundCame, .ref MsoundTold, .ref MsoundUntold, .int (nI Isounds), .int Itime, .ref Mstands, .int IstandMany, .ref Mtally, .ref MhasBox, .ref Mboxes], wI (cy 1) Masks 7 (Gasks2_16)] hP9 hD9 hS9 (fun hP hD hS => ?_)
        clear hP9 hD9 hS9
        refine W.widen (k := 0) (n := 0) (Nat.le_of_ble_eq_true rfl) (Nat.le_of_ble_eq_true rfl) ?_
        refine lv_aload_n hx hb dX12_addEcho_108 rfl (lv_at hl 2 rfl) ?_
        refine va_get (D := D) (ci := 12) (v := .ref MhasForm) (C := RX12) (T := TX12) (N := 89) hx hb hg i_X12 hown hK hP 10 rfl rfl 20 (by decide) (hg _ m_1433) (fun _ h9 => h9) rfl dX12_addEcho_109 ?_
        refine lv_iconst (v := 2) hx hb dX12_addEcho_112 (by decide) ?_
        refine va_zald hx hb hK hP 8 3 rfl rfl (by unfold vp_in; decide) dX12_addEcho_113 ?_
        refine lv_topi (fun x_17 ex_17 => ?_)
        refine lv_if_eq (tgt := 125) hx hb dX12_addEcho_114 (by decide) (fun c_114 => ?_) (fun c_114 => ?_)
        · exact x_vret hQ hx hb hr hlocks hK hP hD hS dX12_addEcho_125 (fa4_10, Gasks2_16, fa2_10, eq10) (⟨(show eq10 ≤ 20 from by first | assumption | omega), ha3_10, (show eq10 ≤ IechoMany + IcryMany from by first | assumption | omega)⟩) [10, 4, 5, 6, 7, 11, 8, 9, 0, 1, 2, 3] (by decide +kernel) rfl (Nat.le_of_ble_eq_true rfl) (Nat.le_of_ble_eq_true rfl)
        · refine lv_aload_n hx hb dX12_addEcho_117 rfl (lv_at hl 2 rfl) ?_
          refine lv_iconst (v := 2) hx hb dX12_addEcho_118 (by decide) ?_
          refine x_callVi (q := (RX12, TX12, 89)) (ci := 12) (q0 := 0) (wr := [wI (cy 1) Msnow 4 (Gsnow), wI (cy 1) Mloud 8 (Gloud), wI (cy 1) Mcry 10 (Gcry), wI (cy 1) Mecho 20 (fa2_10), wI (cy 3) MhasForm 3 (GhasForm), wI (cy 1) McliffAt 4 (GcliffAt)]) (rest := []) ⟨hx, hb, hml, hown, hg, hl.1⟩ k_X12_471 (r_worked l D cy m0 Mtape MnName MnStep MnArg MnMany Mstep Marg Mmany Mopen Mvalues MnHasForm MhasForm Masks MnLoud MnCliffAt MnSnow MnManAt MnVoice MnOn Mloud McliffAt MsnowTold MmanAt Mvoice Mon MnYes Myes Mnow Mcry Msnow Mecho Mwere Mlies Mspots Msteps MfromState MbyWord Mqueue MsoundCliff MsoundLong MsoundCame MsoundTold MsoundUntold Mstands Mtally MhasBox Mboxes Itaped Ifault IfaultPlace Iat Isize Isort Iplace Inumber Iword Gstep Garg Gmany fa4_10 Iform Iopens InUnits Iunits IownUnits Ideep Gasks2_16 InWords InCliffs InMen InStates InOns InWind InDraw Iwords Icliffs Imen Istates Ions IwindTold InHasWind InHasDraw IcryMany IcallPlace IcallVoice Iwind Ichance eq10 Iacts Iundone Ilain Isounds Itime IstandMany am AH 2 (by first | assumption | omega) (by first | assumption | omega) (by first | assumption | omega) (by first | assumption | omega) (by first | assumption | omega) (by first | assumption | omega) (by first | assumption | omega) (by first | assumption | omega) (by first | assumption | omega) (by first | assumption | omega) (by first | assumption | omega) (by first | assumption | omega) (by first | assumption | omega) (by first | assumption | omega) (by first | assumption | omega) (by first | assumption | omega) (by first | assumption | omega) (by first | assumption | omega) (by first | assumption | omega) (by first | assumption | omega) (by first | assumption | omega) (by first | assumption | omega) (by first | assumption | omega) (gal2) (by first | assumption | omega)) E0_blind hK hP hD hS hA [10, 4, 5, 6, 7, 11] [0, 1, 2, 3, 8, 9] ⟨rfl, rfl, by decide +kernel, by decide +kernel, by decide +kernel⟩ rfl rfl (fun _ _ _ => trivial) dX12_addEcho_119 rfl rfl (Nat.le_of_ble_eq_true rfl) ⟨Nat.le_of_ble_eq_true rfl, Nat.le_of_ble_eq_true rfl⟩ ⟨Nat.le_of_ble_eq_true rfl, Nat.le_of_ble_eq_true rfl⟩ (fun zr18 zu18 H locs hw18 hP9 hD9 hS9 => ?_)
          clear hP hD hS
          obtain ⟨Gvalues2_19, rfl⟩ : ∃ z, z = zu18 := ⟨_, rfl⟩
          refine reW [wI (cy 1) Msnow 4 (Gsnow), wI (cy 1) Mloud 8 (Gloud), wI (cy 1) Mcry 10 (Gcry), wI (cy 1) Mecho 20 (fa2_10), wI (cy 3) MhasForm 3 (GhasForm), wI (cy 1) McliffAt 4 (GcliffAt), wO m0 12 [.ref Mtape, .int (nI Itaped), .int (nI Ifault), .int IfaultPlace, .int (nI Iat), .int (nI Isize), .int Isort, .int Iplace, .int Inumber, .long Iword, .ref MnName, .ref MnStep, .ref MnArg, .ref MnMany, .ref Mstep, .ref Marg, .ref Mmany, .ref Mopen, .ref Mvalues, .ref MnHasForm, .ref MhasForm, .int (nI Iform), .int (nI Iopens), .int (nI InUnits), .int Iunits, .int (nI IownUnits), .int (nI Ideep), .ref Masks, .ref MnLoud, .ref MnCliffAt, .ref MnSnow, .ref MnManAt, .ref MnVoice, .ref MnOn, .ref Mloud, .ref McliffAt, .ref MsnowTold, .ref MmanAt, .ref Mvoice, .ref Mon, .ref MnYes, .ref Myes, .int (nI InWords), .int (nI InCliffs), .int (nI InMen), .int (nI InStates), .int (nI InOns), .int InWind, .int InDraw, .int (nI Iwords), .int (nI Icliffs), .int (nI Imen), .int (nI Istates), .int Ions, .int IwindTold, .int InHasWind, .int InHasDraw, .ref Mnow, .ref Mcry, .ref Msnow, .ref Mecho, .int (nI IcryMany), .int IcallPlace, .int IcallVoice, .int Iwind, .int Ichance, .int (nI eq10), .ref Mwere, .int (nI Iacts), .int (nI Iundone), .ref Mlies, .int (nI Ilain), .ref Mspots, .ref Msteps, .ref MfromState, .ref MbyWord, .ref Mqueue, .ref MsoundCliff, .ref MsoundLong, .ref MsoundCame, .ref MsoundTold, .ref MsoundUntold, .int (nI Isounds), .int Itime, .ref Mstands, .int IstandMany, .ref Mtally, .ref MhasBox, .ref Mboxes], wI (cy 1) Mstep 960 (Gstep), wI (cy 1) Marg 960 (Garg), wI (cy 1) Mmany 3 (Gmany), wI (cy 1) Mvalues 64 (Gvalues2_19), wI (cy 1) Masks 7 (Gasks2_16)] hP9 hD9 hS9 (fun hP hD hS => ?_)
          clear hP9 hD9 hS9
          refine W.widen (k := 0) (n := 0) (Nat.le_of_ble_eq_true rfl) (Nat.le_of_ble_eq_true rfl) ?_
          change True at hw18
          refine lv_if_ne (tgt := 126) hx hb dX12_addEcho_122 (by decide) (fun c_122 => ?_) (fun c_122 => ?_)
          · refine lv_iload_n hx hb dX12_addEcho_126 rfl (lv_at hl 1 rfl) ?_
            refine lv_istore_n (lv' := [(3, .int (nI IechoMany)), (2, .int (nI IechoMany)), (0, .ref m0), (1, .int (nI j))]) hx hb dX12_addEcho_127 rfl hl (by decide) rfl (fun ls hl => ?_)
            refine lv_aload_n hx hb dX12_addEcho_128 rfl (lv_at hl 2 rfl) ?_
            refine va_get (D := D) (ci := 12) (v := .int (nI eq10)) (C := RX12) (T := TX12) (N := 89) hx hb hg i_X12 hown hK hP 6 rfl rfl 66 (by decide) (hg _ m_1479) (fun _ h9 => h9) rfl dX12_addEcho_129 ?_
            refine lv_iconst (v := 1) hx hb dX12_addEcho_132 (by decide) ?_
            refine lv_isub hx hb dX12_addEcho_133 ?_
            refine lv_topi (fun x_20 ex_20 => ?_)
            rcases Nat.eq_zero_or_pos eq10 with hem0 | hem0
            · obtain rfl : x_20 = -1 := ex_20.trans (by rw [hem0]; decide)
              refine lv_istore (lv' := [(4, .int (-1)), (3, .int (nI IechoMany)), (2, .int (nI IechoMany)), (0, .ref m0), (1, .int (nI j))]) hx hb dX12_addEcho_134 hl (by decide) rfl (fun ls hl => ?_)
              refine lv_iload_n hx hb dX12_addEcho_136 rfl (lv_at hl 1 rfl) ?_
              refine lv_iload hx hb dX12_addEcho_137 (lv_at hl 0 rfl) ?_
              refine lv_icmp_ge (tgt := 181) hx hb dX12_addEcho_139 (by decide) (fun _ => ?_) (fun h => absurd (neg_le (by omega) (by decide)) h)
              exact x_vret hQ hx hb hr hlocks hK hP hD hS dX12_addEcho_181 (Gvalues2_19, Gasks2_16, fa2_10, eq10) (⟨(show eq10 ≤ 20 from by first | assumption | omega), ha3_10, (show eq10 ≤ IechoMany + IcryMany from by first | assumption | omega)⟩) [6, 7, 8, 9, 10, 11, 4, 5, 0, 1, 2, 3] (by decide +kernel) rfl (Nat.le_of_ble_eq_true rfl) (Nat.le_of_ble_eq_true rfl)
            · obtain rfl : x_20 = nI (eq10 - 1) := ex_20.trans (pk_sub (b := 1) hem0)
              refine lv_istore (lv' := [(4, .int (nI (eq10 - 1))), (3, .int (nI IechoMany)), (2, .int (nI IechoMany)), (0, .ref m0), (1, .int (nI j))]) hx hb dX12_addEcho_134 hl (by decide) rfl (fun ls hl => ?_)
              have loop21 : ∀ (zn : Nat) (a21 : Nat) (b21 : Nat) (fa2_21 : Nat → Int32), (rng fa2_21 20 7) → (a21 ≤ 20) → (b21 ≤ 19) → 20 - a21 + 1 ≤ zn → ∀ (H : Heap) (locs : List Loc), va_P D vwCl [wI (cy 1) Msnow 4 (Gsnow), wI (cy 1) Mloud 8 (Gloud), wI (cy 1) Mcry 10 (Gcry), wI (cy 1) Mecho 20 (fa2_21), wI (cy 3) MhasForm 3 (GhasForm), wI (cy 1) McliffAt 4 (GcliffAt), wO m0 12 [.ref Mtape, .int (nI Itaped), .int (nI Ifault), .int IfaultPlace, .int (nI Iat), .int (nI Isize), .int Isort, .int Iplace, .int Inumber, .long Iword, .ref MnName, .ref MnStep, .ref MnArg, .ref MnMany, .ref Mstep, .ref Marg, .ref Mmany, .ref Mopen, .ref Mvalues, .ref MnHasForm, .ref MhasForm, .int (nI Iform), .int (nI Iopens), .int (nI InUnits), .int Iunits, .int (nI IownUnits), .int (nI Ideep), .ref Masks, .ref MnLoud, .ref MnCliffAt, .ref MnSnow, .ref MnManAt, .ref MnVoice, .ref MnOn, .ref Mloud, .ref McliffAt, .ref MsnowTold, .ref MmanAt, .ref Mvoice, .ref Mon, .ref MnYes, .ref Myes, .int (nI InWords), .int (nI InCliffs), .int (nI InMen), .int (nI InStates), .int (nI InOns), .int InWind, .int InDraw, .int (nI Iwords), .int (nI Icliffs), .int (nI Imen), .int (nI Istates), .int Ions, .int IwindTold, .int InHasWind, .int InHasDraw, .ref Mnow, .ref Mcry, .ref Msnow, .ref Mecho, .int (nI IcryMany), .int IcallPlace, .int IcallVoice, .int Iwind, .int Ichance, .int (nI eq10), .ref Mwere, .int (nI Iacts), .int (nI Iundone), .ref Mlies, .int (nI Ilain), .ref Mspots, .ref Msteps, .ref MfromState, .ref MbyWord, .ref Mqueue, .ref MsoundCliff, .ref MsoundLong, .ref MsoundCame, .ref MsoundTold, .ref MsoundUntold, .int (nI Isounds), .int Itime, .ref Mstands, .int IstandMany, .ref Mtally, .ref MhasBox, .ref Mboxes], wI (cy 1) Mstep 960 (Gstep), wI (cy 1) Marg 960 (Garg), wI (cy 1) Mmany 3 (Gmany), wI (cy 1) Mvalues 64 (Gvalues2_19), wI (cy 1) Masks 7 (Gasks2_16)] H → va_D A [wI (cy 1) Msnow 4 (Gsnow), wI (cy 1) Mloud 8 (Gloud), wI (cy 1) Mcry 10 (Gcry), wI (cy 1) Mecho 20 (fa2_21), wI (cy 3) MhasForm 3 (GhasForm), wI (cy 1) McliffAt 4 (GcliffAt), wO m0 12 [.ref Mtape, .int (nI Itaped), .int (nI Ifault), .int IfaultPlace, .int (nI Iat), .int (nI Isize), .int Isort, .int Iplace, .int Inumber, .long Iword, .ref MnName, .ref MnStep, .ref MnArg, .ref MnMany, .ref Mstep, .ref Marg, .ref Mmany, .ref Mopen, .ref Mvalues, .ref MnHasForm, .ref MhasForm, .int (nI Iform), .int (nI Iopens), .int (nI InUnits), .int Iunits, .int (nI IownUnits), .int (nI Ideep), .ref Masks, .ref MnLoud, .ref MnCliffAt, .ref MnSnow, .ref MnManAt, .ref MnVoice, .ref MnOn, .ref Mloud, .ref McliffAt, .ref MsnowTold, .ref MmanAt, .ref Mvoice, .ref Mon, .ref MnYes, .ref Myes, .int (nI InWords), .int (nI InCliffs), .int (nI InMen), .int (nI InStates), .int (nI InOns), .int InWind, .int InDraw, .int (nI Iwords), .int (nI Icliffs), .int (nI Imen), .int (nI Istates), .int Ions, .int IwindTold, .int InHasWind, .int InHasDraw, .ref Mnow, .ref Mcry, .ref Msnow, .ref Mecho, .int (nI IcryMany), .int IcallPlace, .int IcallVoice, .int Iwind, .int Ichance, .int (nI eq10), .ref Mwere, .int (nI Iacts), .int (nI Iundone), .ref Mlies, .int (nI Ilain), .ref Mspots, .ref Msteps, .ref MfromState, .ref MbyWord, .ref Mqueue, .ref MsoundCliff, .ref MsoundLong, .ref MsoundCame, .ref MsoundTold, .ref MsoundUntold, .int (nI Isounds), .int Itime, .ref Mstands, .int IstandMany, .ref Mtally, .ref MhasBox, .ref Mboxes], wI (cy 1) Mstep 960 (Gstep), wI (cy 1) Marg 960 (Garg), wI (cy 1) Mmany 3 (Gmany), wI (cy 1) Mvalues 64 (Gvalues2_19), wI (cy 1) Masks 7 (Gasks2_16)] → va_S A s.heap H locs → ∀ ls : Array Slot, lv_has ls 6 [(4, .int (nI b21)), (3, .int (nI a21)), (2, .int (nI IechoMany)), (0, .ref m0), (1, .int (nI j))] → W p l e (rmk 4 0 0) s m args below meth c H locs 0 0 Q (F0 m 136 ls []) := by
                try clear hP hD hS
                intro zn
                induction zn with
                | zero => intro a21 b21 fa2_21 _ _ _ hz; exact absurd hz (by omega)
                | succ zn ih21 =>
                  intro a21 b21 fa2_21 ha3_21 hf0_21 hf1_21 hmu21 H locs hP hD hS ls hl
                  refine lv_iload_n hx hb dX12_addEcho_136 rfl (lv_at hl 1 rfl) ?_
                  refine lv_iload hx hb dX12_addEcho_137 (lv_at hl 0 rfl) ?_
                  refine lv_icmp_ge (tgt := 181) hx hb dX12_addEcho_139 (by decide) (fun c_22 => ?_) (fun c_22 => ?_)
                  · have q_23 : b21 ≤ a21 := q_le (a := b21) (b := a21) rfl rfl (by omega) (by omega) c_22
                    exact x_vret hQ hx hb hr hlocks hK hP hD hS dX12_addEcho_181 (Gvalues2_19, Gasks2_16, fa2_21, eq10) (⟨(show eq10 ≤ 20 from by first | assumption | omega), ha3_21, (show eq10 ≤ IechoMany + IcryMany from by first | assumption | omega)⟩) [6, 7, 8, 9, 10, 11, 4, 5, 0, 1, 2, 3] (by decide +kernel) rfl (Nat.le_of_ble_eq_true rfl) (Nat.le_of_ble_eq_true rfl)
                  · have q_23 : a21 < b21 := q_nle (a := b21) (b := a21) rfl rfl (by omega) (by omega) c_22
                    refine lv_aload_n hx hb dX12_addEcho_142 rfl (lv_at hl 3 rfl) ?_
                    refine va_get (D := D) (ci := 12) (v := .ref Mecho) (C := RX12) (T := TX12) (N := 89) hx hb hg i_X12 hown hK hP 6 rfl rfl 60 (by decide) (hg _ m_1473) (fun _ h9 => h9) rfl dX12_addEcho_143 ?_
                    refine lv_iload_n hx hb dX12_addEcho_146 rfl (lv_at hl 1 rfl) ?_
                    refine va_iald hx hb hK hP 3 1 rfl rfl (vp_in_nI (by omega) (by decide)) dX12_addEcho_147 ?_
                    obtain ⟨j_24, hj_24, ej_24⟩ := rng_at ha3_21 (i := a21) (by omega) (by decide)
                    refine lv_topi (fun y_25 hy_25 => ?_)
                    obtain rfl : y_25 = nI j_24 := hy_25.trans ej_24
                    refine lv_istore (lv' := [(5, .int (nI j_24)), (4, .int (nI b21)), (3, .int (nI a21)), (2, .int (nI IechoMany)), (0, .ref m0), (1, .int (nI j))]) hx hb dX12_addEcho_148 hl (by decide) rfl (fun ls hl => ?_)
                    refine lv_aload_n hx hb dX12_addEcho_150 rfl (lv_at hl 4 rfl) ?_
                    refine va_get (D := D) (ci := 12) (v := .ref Mecho) (C := RX12) (T := TX12) (N := 89) hx hb hg i_X12 hown hK hP 6 rfl rfl 60 (by decide) (hg _ m_1473) (fun _ h9 => h9) rfl dX12_addEcho_151 ?_
                    refine lv_iload_n hx hb dX12_addEcho_154 rfl (lv_at hl 2 rfl) ?_
                    refine lv_aload_n hx hb dX12_addEcho_155 rfl (lv_at hl 4 rfl) ?_
                    refine va_get (D := D) (ci := 12) (v := .ref Mecho) (C := RX12) (T := TX12) (N := 89) hx hb hg i_X12 hown hK hP 6 rfl rfl 60 (by decide) (hg _ m_1473) (fun _ h9 => h9) rfl dX12_addEcho_156 ?_
                    refine lv_iload hx hb dX12_addEcho_159 (lv_at hl 1 rfl) ?_
                    refine va_iald hx hb hK hP 3 1 rfl rfl (vp_in_nI (by omega) (by decide)) dX12_addEcho_161 ?_
                    obtain ⟨j_26, hj_26, ej_26⟩ := rng_at ha3_21 (i := b21) (by omega) (by decide)
                    refine lv_topi (fun y_27 hy_27 => ?_)
                    obtain rfl : y_27 = nI j_26 := hy_27.trans ej_26
                    refine va_iast hx hb hK hP hD hS 3 1 rfl rfl (vp_in_nI (by omega) (by decide)) dX12_addEcho_162 (fun H locs hP9 hD9 hS9 => ?_)
                    clear hP hD hS
                    have hP := hP9
                    have hD := hD9
                    have hS := hS9
                    clear hP9 hD9 hS9
                    obtain ⟨g_28, eg_28⟩ : ∃ y, upd fa2_21 (nI a21 : Int32).toNatClampNeg (nI j_26) = y := ⟨_, rfl⟩
                    rw [eg_28] at hP hD
                    have hr_29 : rng g_28 20 7 := eg_28 ▸ rng_put ha3_21 (j := j_26) (by omega)
                    replace hP : va_P D vwCl [wI (cy 1) Msnow 4 (Gsnow), wI (cy 1) Mloud 8 (Gloud), wI (cy 1) Mcry 10 (Gcry), wI (cy 1) Mecho 20 (g_28), wI (cy 3) MhasForm 3 (GhasForm), wI (cy 1) McliffAt 4 (GcliffAt), wO m0 12 [.ref Mtape, .int (nI Itaped), .int (nI Ifault), .int IfaultPlace, .int (nI Iat), .int (nI Isize), .int Isort, .int Iplace, .int Inumber, .long Iword, .ref MnName, .ref MnStep, .ref MnArg, .ref MnMany, .ref Mstep, .ref Marg, .ref Mmany, .ref Mopen, .ref Mvalues, .ref MnHasForm, .ref MhasForm, .int (nI Iform), .int (nI Iopens), .int (nI InUnits), .int Iunits, .int (nI IownUnits), .int (nI Ideep), .ref Masks, .ref MnLoud, .ref MnCliffAt, .ref MnSnow, .ref MnManAt, .ref MnVoice, .ref MnOn, .ref Mloud, .ref McliffAt, .ref MsnowTold, .ref MmanAt, .ref Mvoice, .ref Mon, .ref MnYes, .ref Myes, .int (nI InWords), .int (nI InCliffs), .int (nI InMen), .int (nI InStates), .int (nI InOns), .int InWind, .int InDraw, .int (nI Iwords), .int (nI Icliffs), .int (nI Imen), .int (nI Istates), .int Ions, .int IwindTold, .int InHasWind, .int InHasDraw, .ref Mnow, .ref Mcry, .ref Msnow, .ref Mecho, .int (nI IcryMany), .int IcallPlace, .int IcallVoice, .int Iwind, .int Ichance, .int (nI eq10), .ref Mwere, .int (nI Iacts), .int (nI Iundone), .ref Mlies, .int (nI Ilain), .ref Mspots, .ref Msteps, .ref MfromState, .ref MbyWord, .ref Mqueue, .ref MsoundCliff, .ref MsoundLong, .ref MsoundCame, .ref MsoundTold, .ref MsoundUntold, .int (nI Isounds), .int Itime, .ref Mstands, .int IstandMany, .ref Mtally, .ref MhasBox, .ref Mboxes], wI (cy 1) Mstep 960 (Gstep), wI (cy 1) Marg 960 (Garg), wI (cy 1) Mmany 3 (Gmany), wI (cy 1) Mvalues 64 (Gvalues2_19), wI (cy 1) Masks 7 (Gasks2_16)] H := hP
                    replace hD : va_D A [wI (cy 1) Msnow 4 (Gsnow), wI (cy 1) Mloud 8 (Gloud), wI (cy 1) Mcry 10 (Gcry), wI (cy 1) Mecho 20 (g_28), wI (cy 3) MhasForm 3 (GhasForm), wI (cy 1) McliffAt 4 (GcliffAt), wO m0 12 [.ref Mtape, .int (nI Itaped), .int (nI Ifault), .int IfaultPlace, .int (nI Iat), .int (nI Isize), .int Isort, .int Iplace, .int Inumber, .long Iword, .ref MnName, .ref MnStep, .ref MnArg, .ref MnMany, .ref Mstep, .ref Marg, .ref Mmany, .ref Mopen, .ref Mvalues, .ref MnHasForm, .ref MhasForm, .int (nI Iform), .int (nI Iopens), .int (nI InUnits), .int Iunits, .int (nI IownUnits), .int (nI Ideep), .ref Masks, .ref MnLoud, .ref MnCliffAt, .ref MnSnow, .ref MnManAt, .ref MnVoice, .ref MnOn, .ref Mloud, .ref McliffAt, .ref MsnowTold, .ref MmanAt, .ref Mvoice, .ref Mon, .ref MnYes, .ref Myes, .int (nI InWords), .int (nI InCliffs), .int (nI InMen), .int (nI InStates), .int (nI InOns), .int InWind, .int InDraw, .int (nI Iwords), .int (nI Icliffs), .int (nI Imen), .int (nI Istates), .int Ions, .int IwindTold, .int InHasWind, .int InHasDraw, .ref Mnow, .ref Mcry, .ref Msnow, .ref Mecho, .int (nI IcryMany), .int IcallPlace, .int IcallVoice, .int Iwind, .int Ichance, .int (nI eq10), .ref Mwere, .int (nI Iacts), .int (nI Iundone), .ref Mlies, .int (nI Ilain), .ref Mspots, .ref Msteps, .ref MfromState, .ref MbyWord, .ref Mqueue, .ref MsoundCliff, .ref MsoundLong, .ref MsoundCame, .ref MsoundTold, .ref MsoundUntold, .int (nI Isounds), .int Itime, .ref Mstands, .int IstandMany, .ref Mtally, .ref MhasBox, .ref Mboxes], wI (cy 1) Mstep 960 (Gstep), wI (cy 1) Marg 960 (Garg), wI (cy 1) Mmany 3 (Gmany), wI (cy 1) Mvalues 64 (Gvalues2_19), wI (cy 1) Masks 7 (Gasks2_16)] := hD
                    refine lv_aload_n hx hb dX12_addEcho_163 rfl (lv_at hl 4 rfl) ?_
                    refine va_get (D := D) (ci := 12) (v := .ref Mecho) (C := RX12) (T := TX12) (N := 89) hx hb hg i_X12 hown hK hP 6 rfl rfl 60 (by decide) (hg _ m_1473) (fun _ h9 => h9) rfl dX12_addEcho_164 ?_
                    refine lv_iload hx hb dX12_addEcho_167 (lv_at hl 1 rfl) ?_
                    refine lv_iload hx hb dX12_addEcho_169 (lv_at hl 0 rfl) ?_
                    refine va_iast hx hb hK hP hD hS 3 1 rfl rfl (vp_in_nI (by omega) (by decide)) dX12_addEcho_171 (fun H locs hP9 hD9 hS9 => ?_)
                    clear hP hD hS
                    have hP := hP9
                    have hD := hD9
                    have hS := hS9
                    clear hP9 hD9 hS9
                    obtain ⟨g_30, eg_30⟩ : ∃ y, upd g_28 (nI b21 : Int32).toNatClampNeg (nI j_24) = y := ⟨_, rfl⟩
                    rw [eg_30] at hP hD
                    have hr_31 : rng g_30 20 7 := eg_30 ▸ rng_put hr_29 (j := j_24) (by omega)
                    replace hP : va_P D vwCl [wI (cy 1) Msnow 4 (Gsnow), wI (cy 1) Mloud 8 (Gloud), wI (cy 1) Mcry 10 (Gcry), wI (cy 1) Mecho 20 (g_30), wI (cy 3) MhasForm 3 (GhasForm), wI (cy 1) McliffAt 4 (GcliffAt), wO m0 12 [.ref Mtape, .int (nI Itaped), .int (nI Ifault), .int IfaultPlace, .int (nI Iat), .int (nI Isize), .int Isort, .int Iplace, .int Inumber, .long Iword, .ref MnName, .ref MnStep, .ref MnArg, .ref MnMany, .ref Mstep, .ref Marg, .ref Mmany, .ref Mopen, .ref Mvalues, .ref MnHasForm, .ref MhasForm, .int (nI Iform), .int (nI Iopens), .int (nI InUnits), .int Iunits, .int (nI IownUnits), .int (nI Ideep), .ref Masks, .ref MnLoud, .ref MnCliffAt, .ref MnSnow, .ref MnManAt, .ref MnVoice, .ref MnOn, .ref Mloud, .ref McliffAt, .ref MsnowTold, .ref MmanAt, .ref Mvoice, .ref Mon, .ref MnYes, .ref Myes, .int (nI InWords), .int (nI InCliffs), .int (nI InMen), .int (nI InStates), .int (nI InOns), .int InWind, .int InDraw, .int (nI Iwords), .int (nI Icliffs), .int (nI Imen), .int (nI Istates), .int Ions, .int IwindTold, .int InHasWind, .int InHasDraw, .ref Mnow, .ref Mcry, .ref Msnow, .ref Mecho, .int (nI IcryMany), .int IcallPlace, .int IcallVoice, .int Iwind, .int Ichance, .int (nI eq10), .ref Mwere, .int (nI Iacts), .int (nI Iundone), .ref Mlies, .int (nI Ilain), .ref Mspots, .ref Msteps, .ref MfromState, .ref MbyWord, .ref Mqueue, .ref MsoundCliff, .ref MsoundLong, .ref MsoundCame, .ref MsoundTold, .ref MsoundUntold, .int (nI Isounds), .int Itime, .ref Mstands, .int IstandMany, .ref Mtally, .ref MhasBox, .ref Mboxes], wI (cy 1) Mstep 960 (Gstep), wI (cy 1) Marg 960 (Garg), wI (cy 1) Mmany 3 (Gmany), wI (cy 1) Mvalues 64 (Gvalues2_19), wI (cy 1) Masks 7 (Gasks2_16)] H := hP
                    replace hD : va_D A [wI (cy 1) Msnow 4 (Gsnow), wI (cy 1) Mloud 8 (Gloud), wI (cy 1) Mcry 10 (Gcry), wI (cy 1) Mecho 20 (g_30), wI (cy 3) MhasForm 3 (GhasForm), wI (cy 1) McliffAt 4 (GcliffAt), wO m0 12 [.ref Mtape, .int (nI Itaped), .int (nI Ifault), .int IfaultPlace, .int (nI Iat), .int (nI Isize), .int Isort, .int Iplace, .int Inumber, .long Iword, .ref MnName, .ref MnStep, .ref MnArg, .ref MnMany, .ref Mstep, .ref Marg, .ref Mmany, .ref Mopen, .ref Mvalues, .ref MnHasForm, .ref MhasForm, .int (nI Iform), .int (nI Iopens), .int (nI InUnits), .int Iunits, .int (nI IownUnits), .int (nI Ideep), .ref Masks, .ref MnLoud, .ref MnCliffAt, .ref MnSnow, .ref MnManAt, .ref MnVoice, .ref MnOn, .ref Mloud, .ref McliffAt, .ref MsnowTold, .ref MmanAt, .ref Mvoice, .ref Mon, .ref MnYes, .ref Myes, .int (nI InWords), .int (nI InCliffs), .int (nI InMen), .int (nI InStates), .int (nI InOns), .int InWind, .int InDraw, .int (nI Iwords), .int (nI Icliffs), .int (nI Imen), .int (nI Istates), .int Ions, .int IwindTold, .int InHasWind, .int InHasDraw, .ref Mnow, .ref Mcry, .ref Msnow, .ref Mecho, .int (nI IcryMany), .int IcallPlace, .int IcallVoice, .int Iwind, .int Ichance, .int (nI eq10), .ref Mwere, .int (nI Iacts), .int (nI Iundone), .ref Mlies, .int (nI Ilain), .ref Mspots, .ref Msteps, .ref MfromState, .ref MbyWord, .ref Mqueue, .ref MsoundCliff, .ref MsoundLong, .ref MsoundCame, .ref MsoundTold, .ref MsoundUntold, .int (nI Isounds), .int Itime, .ref Mstands, .int IstandMany, .ref Mtally, .ref MhasBox, .ref Mboxes], wI (cy 1) Mstep 960 (Gstep), wI (cy 1) Marg 960 (Garg), wI (cy 1) Mmany 3 (Gmany), wI (cy 1) Mvalues 64 (Gvalues2_19), wI (cy 1) Masks 7 (Gasks2_16)] := hD
                    refine lv_iinc (v := nI (b21 - 1)) (lv' := [(4, .int (nI (b21 - 1))), (5, .int (nI j_24)), (3, .int (nI a21)), (2, .int (nI IechoMany)), (0, .ref m0), (1, .int (nI j))]) hx hb dX12_addEcho_172 hl (k := 1) rfl (sb_m1 (by omega)) (by decide) rfl (fun ls hl => ?_)
                    refine lv_iinc (v := nI (a21 + 1)) (lv' := [(3, .int (nI (a21 + 1))), (4, .int (nI (b21 - 1))), (5, .int (nI j_24)), (2, .int (nI IechoMany)), (0, .ref m0), (1, .int (nI j))]) hx hb dX12_addEcho_175 hl (k := 2) rfl (nI_add a21 1) (by decide) rfl (fun ls hl => ?_)
                    refine lv_goto (tgt := 136) hx hb dX12_addEcho_178 (by decide) ?_
                    exact ih21  ((a21 + 1)) ((b21 - 1)) g_30 hr_31 (by first | assumption | omega) (by first | assumption | omega) (by omega) _ _ (hP.sub [0, 1, 2, 3, 4, 5, 6, 7, 8, 9, 10, 11] rfl) (hD.sub [0, 1, 2, 3, 4, 5, 6, 7, 8, 9, 10, 11] (by decide +kernel) rfl) hS ls (lv_sub hl [1, 0, 3, 4, 5] rfl)
              exact loop21 _ IechoMany ((eq10 - 1)) fa2_10 ha3_10 (by first | assumption | omega) (by first | assumption | omega) (Nat.le_refl _) _ _ (hP.sub [0, 1, 2, 3, 4, 5, 6, 7, 8, 9, 10, 11] rfl) (hD.sub [0, 1, 2, 3, 4, 5, 6, 7, 8, 9, 10, 11] (by decide +kernel) rfl) hS ls (lv_sub hl [0, 1, 2, 3, 4] rfl)
          · exact x_vret hQ hx hb hr hlocks hK hP hD hS dX12_addEcho_125 (Gvalues2_19, Gasks2_16, fa2_10, eq10) (⟨(show eq10 ≤ 20 from by first | assumption | omega), ha3_10, (show eq10 ≤ IechoMany + IcryMany from by first | assumption | omega)⟩) [6, 7, 8, 9, 10, 11, 4, 5, 0, 1, 2, 3] (by decide +kernel) rfl (Nat.le_of_ble_eq_true rfl) (Nat.le_of_ble_eq_true rfl)
      · have q_12 : k10 < IcryMany := q_nle (a := IcryMany) (b := k10) rfl rfl (by omega) (by omega) c_11
        refine lv_aload_n hx hb dX12_addEcho_42 rfl (lv_at hl 2 rfl) ?_
        refine lv_iload_n hx hb dX12_addEcho_43 rfl (lv_at hl 3 rfl) ?_
        refine lv_iload_n hx hb dX12_addEcho_44 rfl (lv_at hl 0 rfl) ?_
        refine x_callVi (q := (RX12, TX12, 89)) (ci := 12) (q0 := 0) (wr := [wI (cy 1) Mecho 20 (fa2_10)]) (rest := []) ⟨hx, hb, hml, hown, hg, hl.1⟩ k_X12_484 (r_isLost l D cy m0 Mtape MnName MnStep MnArg MnMany Mstep Marg Mmany Mopen Mvalues MnHasForm MhasForm Masks MnLoud MnCliffAt MnSnow MnManAt MnVoice MnOn Mloud McliffAt MsnowTold MmanAt Mvoice Mon MnYes Myes Mnow Mcry Msnow Mecho Mwere Mlies Mspots Msteps MfromState MbyWord Mqueue MsoundCliff MsoundLong MsoundCame MsoundTold MsoundUntold Mstands Mtally MhasBox Mboxes Itaped Ifault IfaultPlace Iat Isize Isort Iplace Inumber Iword Gstep Garg Gmany fa4_10 GhasForm Iform Iopens InUnits Iunits IownUnits Ideep fa3_10 Gloud GcliffAt InWords InCliffs InMen InStates InOns InWind InDraw Iwords Icliffs Imen Istates Ions IwindTold InHasWind InHasDraw Gcry Gsnow IcryMany IcallPlace IcallVoice Iwind Ichance eq10 Iacts Iundone Ilain Isounds Itime IstandMany am AH j k10 (by first | assumption | omega) (by first | assumption | omega) (by first | assumption | omega) (by first | assumption | omega) (by first | assumption | omega) (by first | assumption | omega) (by first | assumption | omega) (by first | assumption | omega) (by first | assumption | omega) (by first | assumption | omega) (by first | assumption | omega) (by first | assumption | omega) (by first | assumption | omega) (by first | assumption | omega) (by first | assumption | omega) (by first | assumption | omega) (by first | assumption | omega) (by first | assumption | omega) (by first | assumption | omega) (by first | assumption | omega) (by first | assumption | omega) (by first | assumption | omega) (by first | assumption | omega) (gcry) (gal2) (by first | assumption | omega) (by first | assumption | omega)) E0_blind hK hP hD hS hA [5, 6, 7, 8, 9, 10, 11, 4, 0, 1, 2] [3] ⟨rfl, rfl, by decide +kernel, by decide +kernel, by decide +kernel⟩ rfl rfl (fun _ _ _ => trivial) dX12_addEcho_45 rfl rfl (Nat.le_of_ble_eq_true rfl) ⟨Nat.le_of_ble_eq_true rfl, Nat.le_of_ble_eq_true rfl⟩ ⟨Nat.le_of_ble_eq_true rfl, Nat.le_of_ble_eq_true rfl⟩ (fun zr32 zu32 H locs hw32 hP9 hD9 hS9 => ?_)
        clear hP hD hS
        obtain ⟨Gvalues2_33, Gasks2_34⟩ := zu32
        refine reW [wI (cy 1) Mecho 20 (fa2_10), wO m0 12 [.ref Mtape, .int (nI Itaped), .int (nI Ifault), .int IfaultPlace, .int (nI Iat), .int (nI Isize), .int Isort, .int Iplace, .int Inumber, .long Iword, .ref MnName, .ref MnStep, .ref MnArg, .ref MnMany, .ref Mstep, .ref Marg, .ref Mmany, .ref Mopen, .ref Mvalues, .ref MnHasForm, .ref MhasForm, .int (nI Iform), .int (nI Iopens), .int (nI InUnits), .int Iunits, .int (nI IownUnits), .int (nI Ideep), .ref Masks, .ref MnLoud, .ref MnCliffAt, .ref MnSnow, .ref MnManAt, .ref MnVoice, .ref MnOn, .ref Mloud, .ref McliffAt, .ref MsnowTold, .ref MmanAt, .ref Mvoice, .ref Mon, .ref MnYes, .ref Myes, .int (nI InWords), .int (nI InCliffs), .int (nI InMen), .int (nI InStates), .int (nI InOns), .int InWind, .int InDraw, .int (nI Iwords), .int (nI Icliffs), .int (nI Imen), .int (nI Istates), .int Ions, .int IwindTold, .int InHasWind, .int InHasDraw, .ref Mnow, .ref Mcry, .ref Msnow, .ref Mecho, .int (nI IcryMany), .int IcallPlace, .int IcallVoice, .int Iwind, .int Ichance, .int (nI eq10), .ref Mwere, .int (nI Iacts), .int (nI Iundone), .ref Mlies, .int (nI Ilain), .ref Mspots, .ref Msteps, .ref MfromState, .ref MbyWord, .ref Mqueue, .ref MsoundCliff, .ref MsoundLong, .ref MsoundCame, .ref MsoundTold, .ref MsoundUntold, .int (nI Isounds), .int Itime, .ref Mstands, .int IstandMany, .ref Mtally, .ref MhasBox, .ref Mboxes], wI (cy 1) Mstep 960 (Gstep), wI (cy 1) Marg 960 (Garg), wI (cy 1) Mmany 3 (Gmany), wI (cy 1) Mvalues 64 (Gvalues2_33), wI (cy 1) Masks 7 (Gasks2_34), wI (cy 3) MhasForm 3 (GhasForm), wI (cy 1) McliffAt 4 (GcliffAt), wI (cy 1) Msnow 4 (Gsnow), wI (cy 1) Mloud 8 (Gloud), wI (cy 1) Mcry 10 (Gcry)] hP9 hD9 hS9 (fun hP hD hS => ?_)
        clear hP9 hD9 hS9
        refine W.widen (k := 0) (n := 0) (Nat.le_of_ble_eq_true rfl) (Nat.le_of_ble_eq_true rfl) ?_
        change (zr32 = 0 ∨ zr32 = 1) at hw32
        have f_35 := hw32
        refine lv_if_eq (tgt := 54) hx hb dX12_addEcho_48 (by decide) (fun c_48 => ?_) (fun c_48 => ?_)
        · refine lv_aload_n hx hb dX12_addEcho_54 rfl (lv_at hl 2 rfl) ?_
          refine va_get (D := D) (ci := 12) (v := .ref Mecho) (C := RX12) (T := TX12) (N := 89) hx hb hg i_X12 hown hK hP 1 rfl rfl 60 (by decide) (hg _ m_1473) (fun _ h9 => h9) rfl dX12_addEcho_55 ?_
          refine lv_aload_n hx hb dX12_addEcho_58 rfl (lv_at hl 2 rfl) ?_
          refine va_get (D := D) (ci := 12) (v := .int (nI eq10)) (C := RX12) (T := TX12) (N := 89) hx hb hg i_X12 hown hK hP 1 rfl rfl 66 (by decide) (hg _ m_1479) (fun _ h9 => h9) rfl dX12_addEcho_59 ?_
          refine lv_aload_n hx hb dX12_addEcho_62 rfl (lv_at hl 2 rfl) ?_
          refine va_get (D := D) (ci := 12) (v := .ref Mcry) (C := RX12) (T := TX12) (N := 89) hx hb hg i_X12 hown hK hP 1 rfl rfl 58 (by decide) (hg _ m_1471) (fun _ h9 => h9) rfl dX12_addEcho_63 ?_
          refine lv_iload_n hx hb dX12_addEcho_66 rfl (lv_at hl 0 rfl) ?_
          refine va_iald hx hb hK hP 11 1 rfl rfl (vp_in_nI (by omega) (by decide)) dX12_addEcho_67 ?_
          obtain ⟨j_36, hj_36, ej_36⟩ := rng_at gcry (i := k10) (by omega) (by decide)
          refine lv_topi (fun y_37 hy_37 => ?_)
          obtain rfl : y_37 = nI j_36 := hy_37.trans ej_36
          refine va_iast hx hb hK hP hD hS 0 1 rfl rfl (vp_in_nI (by omega) (by decide)) dX12_addEcho_68 (fun H locs hP9 hD9 hS9 => ?_)
          clear hP hD hS
          have hP := hP9
          have hD := hD9
          have hS := hS9
          clear hP9 hD9 hS9
          obtain ⟨g_38, eg_38⟩ : ∃ y, upd fa2_10 (nI eq10 : Int32).toNatClampNeg (nI j_36) = y := ⟨_, rfl⟩
          rw [eg_38] at hP hD
          have hr_39 : rng g_38 20 7 := eg_38 ▸ rng_put ha3_10 (j := j_36) (by omega)
          replace hP : va_P D vwCl [wI (cy 1) Mecho 20 (g_38), wO m0 12 [.ref Mtape, .int (nI Itaped), .int (nI Ifault), .int IfaultPlace, .int (nI Iat), .int (nI Isize), .int Isort, .int Iplace, .int Inumber, .long Iword, .ref MnName, .ref MnStep, .ref MnArg, .ref MnMany, .ref Mstep, .ref Marg, .ref Mmany, .ref Mopen, .ref Mvalues, .ref MnHasForm, .ref MhasForm, .int (nI Iform), .int (nI Iopens), .int (nI InUnits), .int Iunits, .int (nI IownUnits), .int (nI Ideep), .ref Masks, .ref MnLoud, .ref MnCliffAt, .ref MnSnow, .ref MnManAt, .ref MnVoice, .ref MnOn, .ref Mloud, .ref McliffAt, .ref MsnowTold, .ref MmanAt, .ref Mvoice, .ref Mon, .ref MnYes, .ref Myes, .int (nI InWords), .int (nI InCliffs), .int (nI InMen), .int (nI InStates), .int (nI InOns), .int InWind, .int InDraw, .int (nI Iwords), .int (nI Icliffs), .int (nI Imen), .int (nI Istates), .int Ions, .int IwindTold, .int InHasWind, .int InHasDraw, .ref Mnow, .ref Mcry, .ref Msnow, .ref Mecho, .int (nI IcryMany), .int IcallPlace, .int IcallVoice, .int Iwind, .int Ichance, .int (nI eq10), .ref Mwere, .int (nI Iacts), .int (nI Iundone), .ref Mlies, .int (nI Ilain), .ref Mspots, .ref Msteps, .ref MfromState, .ref MbyWord, .ref Mqueue, .ref MsoundCliff, .ref MsoundLong, .ref MsoundCame, .ref MsoundTold, .ref MsoundUntold, .int (nI Isounds), .int Itime, .ref Mstands, .int IstandMany, .ref Mtally, .ref MhasBox, .ref Mboxes], wI (cy 1) Mstep 960 (Gstep), wI (cy 1) Marg 960 (Garg), wI (cy 1) Mmany 3 (Gmany), wI (cy 1) Mvalues 64 (Gvalues2_33), wI (cy 1) Masks 7 (Gasks2_34), wI (cy 3) MhasForm 3 (GhasForm), wI (cy 1) McliffAt 4 (GcliffAt), wI (cy 1) Msnow 4 (Gsnow), wI (cy 1) Mloud 8 (Gloud), wI (cy 1) Mcry 10 (Gcry)] H := hP
          replace hD : va_D A [wI (cy 1) Mecho 20 (g_38), wO m0 12 [.ref Mtape, .int (nI Itaped), .int (nI Ifault), .int IfaultPlace, .int (nI Iat), .int (nI Isize), .int Isort, .int Iplace, .int Inumber, .long Iword, .ref MnName, .ref MnStep, .ref MnArg, .ref MnMany, .ref Mstep, .ref Marg, .ref Mmany, .ref Mopen, .ref Mvalues, .ref MnHasForm, .ref MhasForm, .int (nI Iform), .int (nI Iopens), .int (nI InUnits), .int Iunits, .int (nI IownUnits), .int (nI Ideep), .ref Masks, .ref MnLoud, .ref MnCliffAt, .ref MnSnow, .ref MnManAt, .ref MnVoice, .ref MnOn, .ref Mloud, .ref McliffAt, .ref MsnowTold, .ref MmanAt, .ref Mvoice, .ref Mon, .ref MnYes, .ref Myes, .int (nI InWords), .int (nI InCliffs), .int (nI InMen), .int (nI InStates), .int (nI InOns), .int InWind, .int InDraw, .int (nI Iwords), .int (nI Icliffs), .int (nI Imen), .int (nI Istates), .int Ions, .int IwindTold, .int InHasWind, .int InHasDraw, .ref Mnow, .ref Mcry, .ref Msnow, .ref Mecho, .int (nI IcryMany), .int IcallPlace, .int IcallVoice, .int Iwind, .int Ichance, .int (nI eq10), .ref Mwere, .int (nI Iacts), .int (nI Iundone), .ref Mlies, .int (nI Ilain), .ref Mspots, .ref Msteps, .ref MfromState, .ref MbyWord, .ref Mqueue, .ref MsoundCliff, .ref MsoundLong, .ref MsoundCame, .ref MsoundTold, .ref MsoundUntold, .int (nI Isounds), .int Itime, .ref Mstands, .int IstandMany, .ref Mtally, .ref MhasBox, .ref Mboxes], wI (cy 1) Mstep 960 (Gstep), wI (cy 1) Marg 960 (Garg), wI (cy 1) Mmany 3 (Gmany), wI (cy 1) Mvalues 64 (Gvalues2_33), wI (cy 1) Masks 7 (Gasks2_34), wI (cy 3) MhasForm 3 (GhasForm), wI (cy 1) McliffAt 4 (GcliffAt), wI (cy 1) Msnow 4 (Gsnow), wI (cy 1) Mloud 8 (Gloud), wI (cy 1) Mcry 10 (Gcry)] := hD
          refine lv_aload_n hx hb dX12_addEcho_69 rfl (lv_at hl 2 rfl) ?_
          refine lv_dup hx hb dX12_addEcho_70 rfl ?_
          refine va_get (D := D) (ci := 12) (v := .int (nI eq10)) (C := RX12) (T := TX12) (N := 89) hx hb hg i_X12 hown hK hP 1 rfl rfl 66 (by decide) (hg _ m_1479) (fun _ h9 => h9) rfl dX12_addEcho_71 ?_
          refine lv_iconst (v := 1) hx hb dX12_addEcho_74 (by decide) ?_
          refine lv_iadd hx hb dX12_addEcho_75 ?_
          refine lv_topi (fun y_40 hy_40 => ?_)
          obtain rfl : y_40 = nI (eq10 + 1) := hy_40.trans (nI_add eq10 1)
          refine va_put (D := D) (ci := 12) (v := .int (nI (eq10 + 1))) (ty := .int) (C := RX12) (T := TX12) (N := 89) hx hb hg i_X12 tyX12 tyX12_ok nmX12 hown hK hP hD hS 1 rfl rfl 66 (by decide) (hg _ m_1479) (fun _ h9 => h9) rfl (by decide +kernel) rfl rfl (Nat.le_of_ble_eq_true rfl) dX12_addEcho_76 (fun H locs hP9 hD9 hS9 => ?_)
          clear hP hD hS
          refine reW [wI (cy 1) Mecho 20 (g_38), wO m0 12 [.ref Mtape, .int (nI Itaped), .int (nI Ifault), .int IfaultPlace, .int (nI Iat), .int (nI Isize), .int Isort, .int Iplace, .int Inumber, .long Iword, .ref MnName, .ref MnStep, .ref MnArg, .ref MnMany, .ref Mstep, .ref Marg, .ref Mmany, .ref Mopen, .ref Mvalues, .ref MnHasForm, .ref MhasForm, .int (nI Iform), .int (nI Iopens), .int (nI InUnits), .int Iunits, .int (nI IownUnits), .int (nI Ideep), .ref Masks, .ref MnLoud, .ref MnCliffAt, .ref MnSnow, .ref MnManAt, .ref MnVoice, .ref MnOn, .ref Mloud, .ref McliffAt, .ref MsnowTold, .ref MmanAt, .ref Mvoice, .ref Mon, .ref MnYes, .ref Myes, .int (nI InWords), .int (nI InCliffs), .int (nI InMen), .int (nI InStates), .int (nI InOns), .int InWind, .int InDraw, .int (nI Iwords), .int (nI Icliffs), .int (nI Imen), .int (nI Istates), .int Ions, .int IwindTold, .int InHasWind, .int InHasDraw, .ref Mnow, .ref Mcry, .ref Msnow, .ref Mecho, .int (nI IcryMany), .int IcallPlace, .int IcallVoice, .int Iwind, .int Ichance, .int (nI (eq10 + 1)), .ref Mwere, .int (nI Iacts), .int (nI Iundone), .ref Mlies, .int (nI Ilain), .ref Mspots, .ref Msteps, .ref MfromState, .ref MbyWord, .ref Mqueue, .ref MsoundCliff, .ref MsoundLong, .ref MsoundCame, .ref MsoundTold, .ref MsoundUntold, .int (nI Isounds), .int Itime, .ref Mstands, .int IstandMany, .ref Mtally, .ref MhasBox, .ref Mboxes], wI (cy 1) Mstep 960 (Gstep), wI (cy 1) Marg 960 (Garg), wI (cy 1) Mmany 3 (Gmany), wI (cy 1) Mvalues 64 (Gvalues2_33), wI (cy 1) Masks 7 (Gasks2_34), wI (cy 3) MhasForm 3 (GhasForm), wI (cy 1) McliffAt 4 (GcliffAt), wI (cy 1) Msnow 4 (Gsnow), wI (cy 1) Mloud 8 (Gloud), wI (cy 1) Mcry 10 (Gcry)] hP9 hD9 hS9 (fun hP hD hS => ?_)
          clear hP9 hD9 hS9
          refine lv_iinc (v := nI (k10 + 1)) (lv' := [(3, .int (nI (k10 + 1))), (2, .int (nI IechoMany)), (0, .ref m0), (1, .int (nI j))]) hx hb dX12_addEcho_79 hl (k := 0) rfl (nI_add k10 1) (by decide) rfl (fun ls hl => ?_)
          refine lv_goto (tgt := 34) hx hb dX12_addEcho_82 (by decide) ?_
          exact ih10  ((k10 + 1)) ((eq10 + 1)) g_38 Gasks2_34 Gvalues2_33 hr_39 (by first | assumption | omega) (by first | assumption | omega) (by first | assumption | omega) (by omega) _ _ (hP.sub [9, 10, 11, 0, 8, 1, 2, 3, 4, 5, 6, 7] rfl) (hD.sub [9, 10, 11, 0, 8, 1, 2, 3, 4, 5, 6, 7] (by decide +kernel) rfl) hS ls (lv_sub hl [0, 1, 2, 3] rfl)
        · refine lv_goto (tgt := 79) hx hb dX12_addEcho_51 (by decide) ?_
          refine lv_iinc (v := nI (k10 + 1)) (lv' := [(3, .int (nI (k10 + 1))), (2, .int (nI IechoMany)), (0, .ref m0), (1, .int (nI j))]) hx hb dX12_addEcho_79 hl (k := 0) rfl (nI_add k10 1) (by decide) rfl (fun ls hl => ?_)
          refine lv_goto (tgt := 34) hx hb dX12_addEcho_82 (by decide) ?_
          exact ih10  ((k10 + 1)) eq10 fa2_10 Gasks2_34 Gvalues2_33 ha3_10 (by first | assumption | omega) (by first | assumption | omega) (by first | assumption | omega) (by omega) _ _ (hP.sub [9, 10, 11, 0, 8, 1, 2, 3, 4, 5, 6, 7] rfl) (hD.sub [9, 10, 11, 0, 8, 1, 2, 3, 4, 5, 6, 7] (by decide +kernel) rfl) hS ls (lv_sub hl [0, 1, 2, 3] rfl)
  exact loop10 _ ((IcryMany - bk_6)) IechoMany Gecho Gasks2_5 Gvalues2_4 gech (by first | assumption | omega) (by first | assumption | omega) (by first | assumption | omega) (Nat.le_refl _) _ _ (hP.sub [0, 1, 2, 3, 4, 5, 6, 7, 8, 9, 10, 11] rfl) (hD.sub [0, 1, 2, 3, 4, 5, 6, 7, 8, 9, 10, 11] (by decide +kernel) rfl) hS ls (lv_sub hl [0, 1, 2, 3] rfl)
theorem gdX12_sendFrom_0 : decode cX12_sendFrom 0 = .ok (.aload_n 0, 1) ∧ decode cX12_sendFrom 1 = .ok (.iconst 0, 1) ∧ decode cX12_sendFrom 2 = .ok (.putfield 477, 3) ∧ decode cX12_sendFrom 5 = .ok (.aload_n 0, 1) ∧ decode cX12_sendFrom 6 = .ok (.iload_n 1, 1) ∧ decode cX12_sendFrom 7 = .ok (.invokevirtual 488, 3) := by decide +kernel
theorem dX12_sendFrom_0 : decode cX12_sendFrom 0 = .ok (.aload_n 0, 1) := gdX12_sendFrom_0.1
theorem dX12_sendFrom_1 : decode cX12_sendFrom 1 = .ok (.iconst 0, 1) := gdX12_sendFrom_0.2.1
theorem dX12_sendFrom_2 : decode cX12_sendFrom 2 = .ok (.putfield 477, 3) := gdX12_sendFrom_0.2.2.1
theorem dX12_sendFrom_5 : decode cX12_sendFrom 5 = .ok (.aload_n 0, 1) := gdX12_sendFrom_0.2.2.2.1
theorem dX12_sendFrom_6 : decode cX12_sendFrom 6 = .ok (.iload_n 1, 1) := gdX12_sendFrom_0.2.2.2.2.1
theorem dX12_sendFrom_7 : decode cX12_sendFrom 7 = .ok (.invokevirtual 488, 3) := gdX12_sendFrom_0.2.2.2.2.2
theorem k_X12_488 : xV RX12 RX12 488 yX12_addEcho cX12_addEcho 6 none 1 := ⟨⟨m_1952, m_1954, m_109, m_146, m_1955⟩, rfl, by decide, by decide, by decide +kernel⟩
theorem dX12_sendFrom_10 : decode cX12_sendFrom 10 = .ok (.return_, 1) := by decide +kernel
set_option maxHeartbeats 1000000 in
set_option maxRecDepth 100000 in
theorem r_sendFrom (l : Launch) (D : va_G) (cy : Nat → ClassId) (m0 : Nat) (Mtape : Nat) (MnName : Nat) (MnStep : Nat) (MnArg : Nat) (MnMany : Nat) (Mstep : Nat) (Marg : Nat) (Mmany : Nat) (Mopen : Nat) (Mvalues : Nat) (MnHasForm : Nat) (MhasForm : Nat) (Masks : Nat) (MnLoud : Nat) (MnCliffAt : Nat) (MnSnow : Nat) (MnManAt : Nat) (MnVoice : Nat) (MnOn : Nat) (Mloud : Nat) (McliffAt : Nat) (MsnowTold : Nat) (MmanAt : Nat) (Mvoice : Nat) (Mon : Nat) (MnYes : Nat) (Myes : Nat) (Mnow : Nat) (Mcry : Nat) (Msnow : Nat) (Mecho : Nat) (Mwere : Nat) (Mlies : Nat) (Mspots : Nat) (Msteps : Nat) (MfromState : Nat) (MbyWord : Nat) (Mqueue : Nat) (MsoundCliff : Nat) (MsoundLong : Nat) (MsoundCame : Nat) (MsoundTold : Nat) (MsoundUntold : Nat) (Mstands : Nat) (Mtally : Nat) (MhasBox : Nat) (Mboxes : Nat) (Itaped : Nat) (Ifault : Nat) (IfaultPlace : Int32) (Iat : Nat) (Isize : Nat) (Isort : Int32) (Iplace : Int32) (Inumber : Int32) (Iword : Int64) (Gstep : Nat → Int32) (Garg : Nat → Int32) (Gmany : Nat → Int32) (Gvalues : Nat → Int32) (GhasForm : Nat → Int32) (Iform : Nat) (Iopens : Nat) (InUnits : Nat) (Iunits : Int32) (IownUnits : Nat) (Ideep : Nat) (Gasks : Nat → Int32) (Gloud : Nat → Int32) (GcliffAt : Nat → Int32) (InWords : Nat) (InCliffs : Nat) (InMen : Nat) (InStates : Nat) (InOns : Nat) (InWind : Int32) (InDraw : Int32) (Iwords : Nat) (Icliffs : Nat) (Imen : Nat) (Istates : Nat) (Ions : Int32) (IwindTold : Int32) (InHasWind : Int32) (InHasDraw : Int32) (Gcry : Nat → Int32) (Gsnow : Nat → Int32) (Gecho : Nat → Int32) (IcryMany : Nat) (IcallPlace : Int32) (IcallVoice : Int32) (Iwind : Int32) (Ichance : Int32) (IechoMany : Nat) (Iacts : Nat) (Iundone : Nat) (Ilain : Nat) (Isounds : Nat) (Itime : Int32) (IstandMany : Int32) (am : Nat → Nat) (AH : Nat → Nat → Nat) (j : Nat) (gtp : Itaped ≤ 1600) (gat : Iat ≤ Isize) (gsz : Isize ≤ 1600) (gfl : Ifault ≤ 5) (gfo : Iform ≤ 2) (gnw : InWords ≤ 8) (gnc : InCliffs ≤ 4) (gnm : InMen ≤ 4) (gns : InStates ≤ 6) (gw : Iwords ≤ 8) (gc9 : Icliffs ≤ 4) (gm : Imen ≤ 4) (gs : Istates ≤ 6) (gcm : IcryMany ≤ 10) (gem : IechoMany ≤ 20) (gau : Iacts + Iundone ≤ 40) (gla : Ilain ≤ 20) (gso : Isounds ≤ 30) (gop : Iopens ≤ 40) (gde : Ideep ≤ 8) (gou : IownUnits ≤ 31) (gnu : InUnits ≤ 61) (gno : InOns ≤ 30) (gcry : rng Gcry 10 7) (gech : rng Gecho 20 7) (gal2 : allR Gstep Garg Gmany am AH) (hj : j < 4) : XMv l D (tyL cy) E0 yX12_sendFrom cX12_sendFrom 2 none (rmk 5 0 0) [.ref m0, .int (nI j)] [wO m0 12 [.ref Mtape, .int (nI Itaped), .int (nI Ifault), .int IfaultPlace, .int (nI Iat), .int (nI Isize), .int Isort, .int Iplace, .int Inumber, .long Iword, .ref MnName, .ref MnStep, .ref MnArg, .ref MnMany, .ref Mstep, .ref Marg, .ref Mmany, .ref Mopen, .ref Mvalues, .ref MnHasForm, .ref MhasForm, .int (nI Iform), .int (nI Iopens), .int (nI InUnits), .int Iunits, .int (nI IownUnits), .int (nI Ideep), .ref Masks, .ref MnLoud, .ref MnCliffAt, .ref MnSnow, .ref MnManAt, .ref MnVoice, .ref MnOn, .ref Mloud, .ref McliffAt, .ref MsnowTold, .ref MmanAt, .ref Mvoice, .ref Mon, .ref MnYes, .ref Myes, .int (nI InWords), .int (nI InCliffs), .int (nI InMen), .int (nI InStates), .int (nI InOns), .int InWind, .int InDraw, .int (nI Iwords), .int (nI Icliffs), .int (nI Imen), .int (nI Istates), .int Ions, .int IwindTold, .int InHasWind, .int InHasDraw, .ref Mnow, .ref Mcry, .ref Msnow, .ref Mecho, .int (nI IcryMany), .int IcallPlace, .int IcallVoice, .int Iwind, .int Ichance, .int (nI IechoMany), .ref Mwere, .int (nI Iacts), .int (nI Iundone), .ref Mlies, .int (nI Ilain), .ref Mspots, .ref Msteps, .ref MfromState, .ref MbyWord, .ref Mqueue, .ref MsoundCliff, .ref MsoundLong, .ref MsoundCame, .ref MsoundTold, .ref MsoundUntold, .int (nI Isounds), .int Itime, .ref Mstands, .int IstandMany, .ref Mtally, .ref MhasBox, .ref Mboxes], wI (cy 1) Mstep 960 (Gstep), wI (cy 1) Marg 960 (Garg), wI (cy 1) Mmany 3 (Gmany), wI (cy 1) Mvalues 64 (Gvalues), wI (cy 1) Masks 7 (Gasks), wI (cy 3) MhasForm 3 (GhasForm), wI (cy 1) McliffAt 4 (GcliffAt), wI (cy 1) Msnow 4 (Gsnow), wI (cy 1) Mloud 8 (Gloud), wI (cy 1) Mcry 10 (Gcry), wI (cy 1) Mecho 20 (Gecho)] (fun (u : (Nat → Int32) × (Nat → Int32) × (Nat → Int32) × Nat) => (u.2.2.2 ≤ 20) ∧ (rng u.2.2.1 20 7) ∧ (u.2.2.2 ≤ IcryMany)) (fun (u : (Nat → Int32) × (Nat → Int32) × (Nat → Int32) × Nat) => [wO m0 12 [.ref Mtape, .int (nI Itaped), .int (nI Ifault), .int IfaultPlace, .int (nI Iat), .int (nI Isize), .int Isort, .int Iplace, .int Inumber, .long Iword, .ref MnName, .ref MnStep, .ref MnArg, .ref MnMany, .ref Mstep, .ref Marg, .ref Mmany, .ref Mopen, .ref Mvalues, .ref MnHasForm, .ref MhasForm, .int (nI Iform), .int (nI Iopens), .int (nI InUnits), .int Iunits, .int (nI IownUnits), .int (nI Ideep), .ref Masks, .ref MnLoud, .ref MnCliffAt, .ref MnSnow, .ref MnManAt, .ref MnVoice, .ref MnOn, .ref Mloud, .ref McliffAt, .ref MsnowTold, .ref MmanAt, .ref Mvoice, .ref Mon, .ref MnYes, .ref Myes, .int (nI InWords), .int (nI InCliffs), .int (nI InMen), .int (nI InStates), .int (nI InOns), .int InWind, .int InDraw, .int (nI Iwords), .int (nI Icliffs), .int (nI Imen), .int (nI Istates), .int Ions, .int IwindTold, .int InHasWind, .int InHasDraw, .ref Mnow, .ref Mcry, .ref Msnow, .ref Mecho, .int (nI IcryMany), .int IcallPlace, .int IcallVoice, .int Iwind, .int Ichance, .int (nI u.2.2.2), .ref Mwere, .int (nI Iacts), .int (nI Iundone), .ref Mlies, .int (nI Ilain), .ref Mspots, .ref Msteps, .ref MfromState, .ref MbyWord, .ref Mqueue, .ref MsoundCliff, .ref MsoundLong, .ref MsoundCame, .ref MsoundTold, .ref MsoundUntold, .int (nI Isounds), .int Itime, .ref Mstands, .int IstandMany, .ref Mtally, .ref MhasBox, .ref Mboxes], wI (cy 1) Mstep 960 (Gstep), wI (cy 1) Marg 960 (Garg), wI (cy 1) Mmany 3 (Gmany), wI (cy 1) Mvalues 64 (u.1), wI (cy 1) Masks 7 (u.2.1), wI (cy 3) MhasForm 3 (GhasForm), wI (cy 1) McliffAt 4 (GcliffAt), wI (cy 1) Msnow 4 (Gsnow), wI (cy 1) Mloud 8 (Gloud), wI (cy 1) Mcry 10 (Gcry), wI (cy 1) Mecho 20 (u.2.2.1)]) := by
  refine XMv.start (by decide) (Nat.le_of_ble_eq_true rfl) ?_
  intro p e s m below meth c args A ls Q hat hQ
  obtain ⟨hx, hb, hr, hml, hown, hg, hlocks, hin, hK, hA, hP, hD, hS, hE, hl⟩ := hat
  have hown : s.vm.findClass RX12 = some m.cls := hown
  have hl : lv_has ls 2 [(0, .ref m0), (1, .int (nI j))] := hl
  refine lv_aload_n hx hb dX12_sendFrom_0 rfl (lv_at hl 0 rfl) ?_
  refine lv_iconst (v := 0) hx hb dX12_sendFrom_1 (by decide) ?_
  refine va_put (D := D) (ci := 12) (v := .int 0) (ty := .int) (C := RX12) (T := TX12) (N := 89) hx hb hg i_X12 tyX12 tyX12_ok nmX12 hown hK hP hD hS 0 rfl rfl 66 (by decide) (hg _ m_1479) (fun _ h9 => h9) rfl (by decide +kernel) rfl rfl (Nat.le_of_ble_eq_true rfl) dX12_sendFrom_2 (fun H locs hP9 hD9 hS9 => ?_)
  clear hP hD hS
  refine reW [wO m0 12 [.ref Mtape, .int (nI Itaped), .int (nI Ifault), .int IfaultPlace, .int (nI Iat), .int (nI Isize), .int Isort, .int Iplace, .int Inumber, .long Iword, .ref MnName, .ref MnStep, .ref MnArg, .ref MnMany, .ref Mstep, .ref Marg, .ref Mmany, .ref Mopen, .ref Mvalues, .ref MnHasForm, .ref MhasForm, .int (nI Iform), .int (nI Iopens), .int (nI InUnits), .int Iunits, .int (nI IownUnits), .int (nI Ideep), .ref Masks, .ref MnLoud, .ref MnCliffAt, .ref MnSnow, .ref MnManAt, .ref MnVoice, .ref MnOn, .ref Mloud, .ref McliffAt, .ref MsnowTold, .ref MmanAt, .ref Mvoice, .ref Mon, .ref MnYes, .ref Myes, .int (nI InWords), .int (nI InCliffs), .int (nI InMen), .int (nI InStates), .int (nI InOns), .int InWind, .int InDraw, .int (nI Iwords), .int (nI Icliffs), .int (nI Imen), .int (nI Istates), .int Ions, .int IwindTold, .int InHasWind, .int InHasDraw, .ref Mnow, .ref Mcry, .ref Msnow, .ref Mecho, .int (nI IcryMany), .int IcallPlace, .int IcallVoice, .int Iwind, .int Ichance, .int 0, .ref Mwere, .int (nI Iacts), .int (nI Iundone), .ref Mlies, .int (nI Ilain), .ref Mspots, .ref Msteps, .ref MfromState, .ref MbyWord, .ref Mqueue, .ref MsoundCliff, .ref MsoundLong, .ref MsoundCame, .ref MsoundTold, .ref MsoundUntold, .int (nI Isounds), .int Itime, .ref Mstands, .int IstandMany, .ref Mtally, .ref MhasBox, .ref Mboxes], wI (cy 1) Mstep 960 (Gstep), wI (cy 1) Marg 960 (Garg), wI (cy 1) Mmany 3 (Gmany), wI (cy 1) Mvalues 64 (Gvalues), wI (cy 1) Masks 7 (Gasks), wI (cy 3) MhasForm 3 (GhasForm), wI (cy 1) McliffAt 4 (GcliffAt), wI (cy 1) Msnow 4 (Gsnow), wI (cy 1) Mloud 8 (Gloud), wI (cy 1) Mcry 10 (Gcry), wI (cy 1) Mecho 20 (Gecho)] hP9 hD9 hS9 (fun hP hD hS => ?_)
  clear hP9 hD9 hS9
  refine lv_aload_n hx hb dX12_sendFrom_5 rfl (lv_at hl 0 rfl) ?_
  refine lv_iload_n hx hb dX12_sendFrom_6 rfl (lv_at hl 1 rfl) ?_
  refine x_callVv (q := (RX12, TX12, 89)) (ci := 12) (q0 := 0) (wr := []) (rest := []) ⟨hx, hb, hml, hown, hg, hl.1⟩ k_X12_488 (r_addEcho l D cy m0 Mtape MnName MnStep MnArg MnMany Mstep Marg Mmany Mopen Mvalues MnHasForm MhasForm Masks MnLoud MnCliffAt MnSnow MnManAt MnVoice MnOn Mloud McliffAt MsnowTold MmanAt Mvoice Mon MnYes Myes Mnow Mcry Msnow Mecho Mwere Mlies Mspots Msteps MfromState MbyWord Mqueue MsoundCliff MsoundLong MsoundCame MsoundTold MsoundUntold Mstands Mtally MhasBox Mboxes Itaped Ifault IfaultPlace Iat Isize Isort Iplace Inumber Iword Gstep Garg Gmany Gvalues GhasForm Iform Iopens InUnits Iunits IownUnits Ideep Gasks Gloud GcliffAt InWords InCliffs InMen InStates InOns InWind InDraw Iwords Icliffs Imen Istates Ions IwindTold InHasWind InHasDraw Gcry Gsnow Gecho IcryMany IcallPlace IcallVoice Iwind Ichance 0 Iacts Iundone Ilain Isounds Itime IstandMany am AH j (by first | assumption | omega) (by first | assumption | omega) (by first | assumption | omega) (by first | assumption | omega) (by first | assumption | omega) (by first | assumption | omega) (by first | assumption | omega) (by first | assumption | omega) (by first | assumption | omega) (by first | assumption | omega) (by first | assumption | omega) (by first | assumption | omega) (by first | assumption | omega) (by first | assumption | omega) (by first | assumption | omega) (by first | assumption | omega) (by first | assumption | omega) (by first | assumption | omega) (by first | assumption | omega) (by first | assumption | omega) (by first | assumption | omega) (by first | assumption | omega) (by first | assumption | omega) (gcry) (gech) (gal2) (by first | assumption | omega) (by first | assumption | omega)) E0_blind hK hP hD hS hA [0, 1, 2, 3, 4, 5, 6, 7, 8, 9, 10, 11] [] ⟨rfl, rfl, by decide +kernel, by decide +kernel, by decide +kernel⟩ rfl rfl (fun _ _ _ => trivial) dX12_sendFrom_7 rfl rfl (Nat.le_of_ble_eq_true rfl) ⟨Nat.le_of_ble_eq_true rfl, Nat.le_of_ble_eq_true rfl⟩ ⟨Nat.le_of_ble_eq_true rfl, Nat.le_of_ble_eq_true rfl⟩ (fun zu1 H locs hw1 hP9 hD9 hS9 => ?_)
  clear hP hD hS
  obtain ⟨Gvalues2_2, Gasks2_3, Gecho2_4, IechoMany2_5⟩ := zu1
  refine reW [wO m0 12 [.ref Mtape, .int (nI Itaped), .int (nI Ifault), .int IfaultPlace, .int (nI Iat), .int (nI Isize), .int Isort, .int Iplace, .int Inumber, .long Iword, .ref MnName, .ref MnStep, .ref MnArg, .ref MnMany, .ref Mstep, .ref Marg, .ref Mmany, .ref Mopen, .ref Mvalues, .ref MnHasForm, .ref MhasForm, .int (nI Iform), .int (nI Iopens), .int (nI InUnits), .int Iunits, .int (nI IownUnits), .int (nI Ideep), .ref Masks, .ref MnLoud, .ref MnCliffAt, .ref MnSnow, .ref MnManAt, .ref MnVoice, .ref MnOn, .ref Mloud, .ref McliffAt, .ref MsnowTold, .ref MmanAt, .ref Mvoice, .ref Mon, .ref MnYes, .ref Myes, .int (nI InWords), .int (nI InCliffs), .int (nI InMen), .int (nI InStates), .int (nI InOns), .int InWind, .int InDraw, .int (nI Iwords), .int (nI Icliffs), .int (nI Imen), .int (nI Istates), .int Ions, .int IwindTold, .int InHasWind, .int InHasDraw, .ref Mnow, .ref Mcry, .ref Msnow, .ref Mecho, .int (nI IcryMany), .int IcallPlace, .int IcallVoice, .int Iwind, .int Ichance, .int (nI IechoMany2_5), .ref Mwere, .int (nI Iacts), .int (nI Iundone), .ref Mlies, .int (nI Ilain), .ref Mspots, .ref Msteps, .ref MfromState, .ref MbyWord, .ref Mqueue, .ref MsoundCliff, .ref MsoundLong, .ref MsoundCame, .ref MsoundTold, .ref MsoundUntold, .int (nI Isounds), .int Itime, .ref Mstands, .int IstandMany, .ref Mtally, .ref MhasBox, .ref Mboxes], wI (cy 1) Mstep 960 (Gstep), wI (cy 1) Marg 960 (Garg), wI (cy 1) Mmany 3 (Gmany), wI (cy 1) Mvalues 64 (Gvalues2_2), wI (cy 1) Masks 7 (Gasks2_3), wI (cy 3) MhasForm 3 (GhasForm), wI (cy 1) McliffAt 4 (GcliffAt), wI (cy 1) Msnow 4 (Gsnow), wI (cy 1) Mloud 8 (Gloud), wI (cy 1) Mcry 10 (Gcry), wI (cy 1) Mecho 20 (Gecho2_4)] hP9 hD9 hS9 (fun hP hD hS => ?_)
  clear hP9 hD9 hS9
  refine W.widen (k := 0) (n := 0) (Nat.le_of_ble_eq_true rfl) (Nat.le_of_ble_eq_true rfl) ?_
  change (IechoMany2_5 ≤ 20) ∧ (rng Gecho2_4 20 7) ∧ (IechoMany2_5 ≤ 0 + IcryMany) at hw1
  obtain ⟨f_6, f_7, f_8⟩ := hw1
  exact x_vret hQ hx hb hr hlocks hK hP hD hS dX12_sendFrom_10 (Gvalues2_2, Gasks2_3, Gecho2_4, IechoMany2_5) (⟨(show IechoMany2_5 ≤ 20 from by first | assumption | omega), f_7, (show IechoMany2_5 ≤ IcryMany from by first | assumption | omega)⟩) [0, 1, 2, 3, 4, 5, 6, 7, 8, 9, 10, 11] (by decide +kernel) rfl (Nat.le_of_ble_eq_true rfl) (Nat.le_of_ble_eq_true rfl)
theorem gdX12_leadsTo_0 : decode cX12_leadsTo 0 = .ok (.aload_n 0, 1) ∧ decode cX12_leadsTo 1 = .ok (.getfield 88, 3) ∧ decode cX12_leadsTo 4 = .ok (.bipush 8, 2) ∧ decode cX12_leadsTo 6 = .ok (.iload_n 1, 1) ∧ decode cX12_leadsTo 7 = .ok (.imul, 1) ∧ decode cX12_leadsTo 8 = .ok (.iload_n 2, 1) ∧ decode cX12_leadsTo 9 = .ok (.iadd, 1) ∧ decode cX12_leadsTo 10 = .ok (.iaload, 1) ∧ decode cX12_leadsTo 11 = .ok (.iconst (-1), 1) ∧ decode cX12_leadsTo 12 = .ok (.if_icmp .ne 7, 3) ∧ decode cX12_leadsTo 19 = .ok (.aload_n 0, 1) ∧ decode cX12_leadsTo 20 = .ok (.getfield 88, 3) := by decide +kernel
theorem dX12_leadsTo_0 : decode cX12_leadsTo 0 = .ok (.aload_n 0, 1) := gdX12_leadsTo_0.1
theorem dX12_leadsTo_1 : decode cX12_leadsTo 1 = .ok (.getfield 88, 3) := gdX12_leadsTo_0.2.1
theorem dX12_leadsTo_4 : decode cX12_leadsTo 4 = .ok (.bipush 8, 2) := gdX12_leadsTo_0.2.2.1
theorem dX12_leadsTo_6 : decode cX12_leadsTo 6 = .ok (.iload_n 1, 1) := gdX12_leadsTo_0.2.2.2.1
theorem dX12_leadsTo_7 : decode cX12_leadsTo 7 = .ok (.imul, 1) := gdX12_leadsTo_0.2.2.2.2.1
theorem dX12_leadsTo_8 : decode cX12_leadsTo 8 = .ok (.iload_n 2, 1) := gdX12_leadsTo_0.2.2.2.2.2.1
theorem dX12_leadsTo_9 : decode cX12_leadsTo 9 = .ok (.iadd, 1) := gdX12_leadsTo_0.2.2.2.2.2.2.1
theorem dX12_leadsTo_10 : decode cX12_leadsTo 10 = .ok (.iaload, 1) := gdX12_leadsTo_0.2.2.2.2.2.2.2.1
theorem dX12_leadsTo_11 : decode cX12_leadsTo 11 = .ok (.iconst (-1), 1) := gdX12_leadsTo_0.2.2.2.2.2.2.2.2.1
theorem dX12_leadsTo_12 : decode cX12_leadsTo 12 = .ok (.if_icmp .ne 7, 3) := gdX12_leadsTo_0.2.2.2.2.2.2.2.2.2.1
theorem dX12_leadsTo_19 : decode cX12_leadsTo 19 = .ok (.aload_n 0, 1) := gdX12_leadsTo_0.2.2.2.2.2.2.2.2.2.2.1
theorem dX12_leadsTo_20 : decode cX12_leadsTo 20 = .ok (.getfield 88, 3) := gdX12_leadsTo_0.2.2.2.2.2.2.2.2.2.2.2
theorem gdX12_leadsTo_23 : decode cX12_leadsTo 23 = .ok (.bipush 8, 2) ∧ decode cX12_leadsTo 25 = .ok (.iload_n 1, 1) ∧ decode cX12_leadsTo 26 = .ok (.imul, 1) ∧ decode cX12_leadsTo 27 = .ok (.iload_n 2, 1) ∧ decode cX12_leadsTo 28 = .ok (.iadd, 1) ∧ decode cX12_leadsTo 29 = .ok (.iaload, 1) ∧ decode cX12_leadsTo 30 = .ok (.ireturn, 1) ∧ decode cX12_leadsTo 15 = .ok (.iload_n 1, 1) ∧ decode cX12_leadsTo 16 = .ok (.goto 14, 3) := by decide +kernel
theorem dX12_leadsTo_23 : decode cX12_leadsTo 23 = .ok (.bipush 8, 2) := gdX12_leadsTo_23.1
theorem dX12_leadsTo_25 : decode cX12_leadsTo 25 = .ok (.iload_n 1, 1) := gdX12_leadsTo_23.2.1
theorem dX12_leadsTo_26 : decode cX12_leadsTo 26 = .ok (.imul, 1) := gdX12_leadsTo_23.2.2.1
theorem dX12_leadsTo_27 : decode cX12_leadsTo 27 = .ok (.iload_n 2, 1) := gdX12_leadsTo_23.2.2.2.1
theorem dX12_leadsTo_28 : decode cX12_leadsTo 28 = .ok (.iadd, 1) := gdX12_leadsTo_23.2.2.2.2.1
theorem dX12_leadsTo_29 : decode cX12_leadsTo 29 = .ok (.iaload, 1) := gdX12_leadsTo_23.2.2.2.2.2.1
theorem dX12_leadsTo_30 : decode cX12_leadsTo 30 = .ok (.ireturn, 1) := gdX12_leadsTo_23.2.2.2.2.2.2.1
theorem dX12_leadsTo_15 : decode cX12_leadsTo 15 = .ok (.iload_n 1, 1) := gdX12_leadsTo_23.2.2.2.2.2.2.2.1
theorem dX12_leadsTo_16 : decode cX12_leadsTo 16 = .ok (.goto 14, 3) := gdX12_leadsTo_23.2.2.2.2.2.2.2.2
set_option maxHeartbeats 1000000 in
set_option maxRecDepth 100000 in
theorem r_leadsTo (l : Launch) (D : va_G) (cy : Nat → ClassId) (m0 : Nat) (Mtape : Nat) (MnName : Nat) (MnStep : Nat) (MnArg : Nat) (MnMany : Nat) (Mstep : Nat) (Marg : Nat) (Mmany : Nat) (Mopen : Nat) (Mvalues : Nat) (MnHasForm : Nat) (MhasForm : Nat) (Masks : Nat) (MnLoud : Nat) (MnCliffAt : Nat) (MnSnow : Nat) (MnManAt : Nat) (MnVoice : Nat) (MnOn : Nat) (Mloud : Nat) (McliffAt : Nat) (MsnowTold : Nat) (MmanAt : Nat) (Mvoice : Nat) (Mon : Nat) (MnYes : Nat) (Myes : Nat) (Mnow : Nat) (Mcry : Nat) (Msnow : Nat) (Mecho : Nat) (Mwere : Nat) (Mlies : Nat) (Mspots : Nat) (Msteps : Nat) (MfromState : Nat) (MbyWord : Nat) (Mqueue : Nat) (MsoundCliff : Nat) (MsoundLong : Nat) (MsoundCame : Nat) (MsoundTold : Nat) (MsoundUntold : Nat) (Mstands : Nat) (Mtally : Nat) (MhasBox : Nat) (Mboxes : Nat) (Itaped : Nat) (Ifault : Nat) (IfaultPlace : Int32) (Iat : Nat) (Isize : Nat) (Isort : Int32) (Iplace : Int32) (Inumber : Int32) (Iword : Int64) (Iform : Nat) (Iopens : Nat) (InUnits : Nat) (Iunits : Int32) (IownUnits : Nat) (Ideep : Nat) (Gon : Nat → Int32) (InWords : Nat) (InCliffs : Nat) (InMen : Nat) (InStates : Nat) (InOns : Nat) (InWind : Int32) (InDraw : Int32) (Iwords : Nat) (Icliffs : Nat) (Imen : Nat) (Istates : Nat) (Ions : Int32) (IwindTold : Int32) (InHasWind : Int32) (InHasDraw : Int32) (IcryMany : Nat) (IcallPlace : Int32) (IcallVoice : Int32) (Iwind : Int32) (Ichance : Int32) (IechoMany : Nat) (Iacts : Nat) (Iundone : Nat) (Ilain : Nat) (Isounds : Nat) (Itime : Int32) (IstandMany : Int32) (sx : Nat) (wx : Nat) (gtp : Itaped ≤ 1600) (gat : Iat ≤ Isize) (gsz : Isize ≤ 1600) (gfl : Ifault ≤ 5) (gfo : Iform ≤ 2) (gnw : InWords ≤ 8) (gnc : InCliffs ≤ 4) (gnm : InMen ≤ 4) (gns : InStates ≤ 6) (gw : Iwords ≤ 8) (gc9 : Icliffs ≤ 4) (gm : Imen ≤ 4) (gs : Istates ≤ 6) (gcm : IcryMany ≤ 10) (gem : IechoMany ≤ 20) (gau : Iacts + Iundone ≤ 40) (gla : Ilain ≤ 20) (gso : Isounds ≤ 30) (gop : Iopens ≤ 40) (gde : Ideep ≤ 8) (gou : IownUnits ≤ 31) (gnu : InUnits ≤ 61) (gno : InOns ≤ 30) (gon : nxT Gon) (hsx : sx ≤ 5) (hwx : wx ≤ 7) : XMi l D (tyL cy) E0 yX12_leadsTo cX12_leadsTo 3 (some .int) (rmk 0 0 0) [.ref m0, .int (nI sx), .int (nI wx)] [wO m0 12 [.ref Mtape, .int (nI Itaped), .int (nI Ifault), .int IfaultPlace, .int (nI Iat), .int (nI Isize), .int Isort, .int Iplace, .int Inumber, .long Iword, .ref MnName, .ref MnStep, .ref MnArg, .ref MnMany, .ref Mstep, .ref Marg, .ref Mmany, .ref Mopen, .ref Mvalues, .ref MnHasForm, .ref MhasForm, .int (nI Iform), .int (nI Iopens), .int (nI InUnits), .int Iunits, .int (nI IownUnits), .int (nI Ideep), .ref Masks, .ref MnLoud, .ref MnCliffAt, .ref MnSnow, .ref MnManAt, .ref MnVoice, .ref MnOn, .ref Mloud, .ref McliffAt, .ref MsnowTold, .ref MmanAt, .ref Mvoice, .ref Mon, .ref MnYes, .ref Myes, .int (nI InWords), .int (nI InCliffs), .int (nI InMen), .int (nI InStates), .int (nI InOns), .int InWind, .int InDraw, .int (nI Iwords), .int (nI Icliffs), .int (nI Imen), .int (nI Istates), .int Ions, .int IwindTold, .int InHasWind, .int InHasDraw, .ref Mnow, .ref Mcry, .ref Msnow, .ref Mecho, .int (nI IcryMany), .int IcallPlace, .int IcallVoice, .int Iwind, .int Ichance, .int (nI IechoMany), .ref Mwere, .int (nI Iacts), .int (nI Iundone), .ref Mlies, .int (nI Ilain), .ref Mspots, .ref Msteps, .ref MfromState, .ref MbyWord, .ref Mqueue, .ref MsoundCliff, .ref MsoundLong, .ref MsoundCame, .ref MsoundTold, .ref MsoundUntold, .int (nI Isounds), .int Itime, .ref Mstands, .int IstandMany, .ref Mtally, .ref MhasBox, .ref Mboxes], wI (cy 1) Mon 48 (Gon)] (fun (r : Int32) (k : Nat) => (r = nI k) ∧ (k ≤ 5) ∧ (nI k = nxR Gon sx wx)) (fun (k : Nat) => [wO m0 12 [.ref Mtape, .int (nI Itaped), .int (nI Ifault), .int IfaultPlace, .int (nI Iat), .int (nI Isize), .int Isort, .int Iplace, .int Inumber, .long Iword, .ref MnName, .ref MnStep, .ref MnArg, .ref MnMany, .ref Mstep, .ref Marg, .ref Mmany, .ref Mopen, .ref Mvalues, .ref MnHasForm, .ref MhasForm, .int (nI Iform), .int (nI Iopens), .int (nI InUnits), .int Iunits, .int (nI IownUnits), .int (nI Ideep), .ref Masks, .ref MnLoud, .ref MnCliffAt, .ref MnSnow, .ref MnManAt, .ref MnVoice, .ref MnOn, .ref Mloud, .ref McliffAt, .ref MsnowTold, .ref MmanAt, .ref Mvoice, .ref Mon, .ref MnYes, .ref Myes, .int (nI InWords), .int (nI InCliffs), .int (nI InMen), .int (nI InStates), .int (nI InOns), .int InWind, .int InDraw, .int (nI Iwords), .int (nI Icliffs), .int (nI Imen), .int (nI Istates), .int Ions, .int IwindTold, .int InHasWind, .int InHasDraw, .ref Mnow, .ref Mcry, .ref Msnow, .ref Mecho, .int (nI IcryMany), .int IcallPlace, .int IcallVoice, .int Iwind, .int Ichance, .int (nI IechoMany), .ref Mwere, .int (nI Iacts), .int (nI Iundone), .ref Mlies, .int (nI Ilain), .ref Mspots, .ref Msteps, .ref MfromState, .ref MbyWord, .ref Mqueue, .ref MsoundCliff, .ref MsoundLong, .ref MsoundCame, .ref MsoundTold, .ref MsoundUntold, .int (nI Isounds), .int Itime, .ref Mstands, .int IstandMany, .ref Mtally, .ref MhasBox, .ref Mboxes], wI (cy 1) Mon 48 (Gon)]) := by
  refine XMi.start (by decide) (Nat.le_of_ble_eq_true rfl) ?_
  intro p e s m below meth c args A ls Q hat hQ
  obtain ⟨hx, hb, hr, hml, hown, hg, hlocks, hin, hK, hA, hP, hD, hS, hE, hl⟩ := hat
  have hown : s.vm.findClass RX12 = some m.cls := hown
  have hl : lv_has ls 3 [(0, .ref m0), (1, .int (nI sx)), (2, .int (nI wx))] := hl
  refine lv_aload_n hx hb dX12_leadsTo_0 rfl (lv_at hl 0 rfl) ?_
  refine va_get (D := D) (ci := 12) (v := .ref Mon) (C := RX12) (T := TX12) (N := 89) hx hb hg i_X12 hown hK hP 0 rfl rfl 39 (by decide) (hg _ m_1452) (fun _ h9 => h9) rfl dX12_leadsTo_1 ?_
  refine lv_bipush (v := 8) hx hb dX12_leadsTo_4 (by decide) ?_
  refine lv_iload_n hx hb dX12_leadsTo_6 rfl (lv_at hl 1 rfl) ?_
  refine lv_imul hx hb dX12_leadsTo_7 ?_
  refine lv_topi (fun y_1 hy_1 => ?_)
  obtain rfl : y_1 = nI (8 * sx) := hy_1.trans (pk_mul 8 sx)
  refine lv_iload_n hx hb dX12_leadsTo_8 rfl (lv_at hl 2 rfl) ?_
  refine lv_iadd hx hb dX12_leadsTo_9 ?_
  refine lv_topi (fun y_2 hy_2 => ?_)
  obtain rfl : y_2 = nI ((8 * sx) + wx) := hy_2.trans (nI_add ((8 * sx)) wx)
  refine va_iald hx hb hK hP 1 1 rfl rfl (vp_in_nI (by omega) (by decide)) dX12_leadsTo_10 ?_
  refine lv_topi (fun x_3 ex_3 => ?_)
  have hnx_4 := nxT_at gon (T := ((8 * sx) + wx)) (by omega) ex_3
  refine lv_iconst (v := -1) hx hb dX12_leadsTo_11 (by decide) ?_
  refine lv_icmp_ne (tgt := 19) hx hb dX12_leadsTo_12 (by decide) (fun c_12 => ?_) (fun c_12 => ?_)
  · refine lv_aload_n hx hb dX12_leadsTo_19 rfl (lv_at hl 0 rfl) ?_
    refine va_get (D := D) (ci := 12) (v := .ref Mon) (C := RX12) (T := TX12) (N := 89) hx hb hg i_X12 hown hK hP 0 rfl rfl 39 (by decide) (hg _ m_1452) (fun _ h9 => h9) rfl dX12_leadsTo_20 ?_
    refine lv_bipush (v := 8) hx hb dX12_leadsTo_23 (by decide) ?_
    refine lv_iload_n hx hb dX12_leadsTo_25 rfl (lv_at hl 1 rfl) ?_
    refine lv_imul hx hb dX12_leadsTo_26 ?_
    refine lv_topi (fun y_5 hy_5 => ?_)
    obtain rfl : y_5 = nI (8 * sx) := hy_5.trans (pk_mul 8 sx)
    refine lv_iload_n hx hb dX12_leadsTo_27 rfl (lv_at hl 2 rfl) ?_
    refine lv_iadd hx hb dX12_leadsTo_28 ?_
    refine lv_topi (fun y_6 hy_6 => ?_)
    obtain rfl : y_6 = nI ((8 * sx) + wx) := hy_6.trans (nI_add ((8 * sx)) wx)
    refine va_iald hx hb hK hP 1 1 rfl rfl (vp_in_nI (by omega) (by decide)) dX12_leadsTo_29 ?_
    refine lv_topi (fun x_7 ex_7 => ?_)
    have hnx_8 := nxT_at gon (T := ((8 * sx) + wx)) (by omega) ex_7
    obtain ⟨j_9, hj_9, ej_9⟩ := hnx_8.resolve_left (fun h9 => c_12 (by rw [ex_3, ← ex_7]; exact h9))
    subst ej_9
    exact x_iret hQ hx hb hr hlocks hK hP hD hS dX12_leadsTo_30 j_9 (⟨rfl, (show j_9 ≤ 5 from by first | assumption | omega), (show nI j_9 = nxR Gon sx wx from nxR_no (by omega) (by omega) ex_3 c_12 ex_7)⟩) [0, 1] (by decide +kernel) rfl (Nat.le_of_ble_eq_true rfl) (Nat.le_of_ble_eq_true rfl)
  · refine lv_iload_n hx hb dX12_leadsTo_15 rfl (lv_at hl 1 rfl) ?_
    refine lv_goto (tgt := 30) hx hb dX12_leadsTo_16 (by decide) ?_
    exact x_iret hQ hx hb hr hlocks hK hP hD hS dX12_leadsTo_30 sx (⟨rfl, (show sx ≤ 5 from by first | assumption | omega), (show nI sx = nxR Gon sx wx from nxR_is (by omega) (by omega) ex_3 (by first | exact c_12 | exact Decidable.not_not.mp c_12))⟩) [0, 1] (by decide +kernel) rfl (Nat.le_of_ble_eq_true rfl) (Nat.le_of_ble_eq_true rfl)
theorem gdX12_isYes_0 : decode cX12_isYes 0 = .ok (.iconst 0, 1) ∧ decode cX12_isYes 1 = .ok (.istore_n 1, 1) ∧ decode cX12_isYes 2 = .ok (.iconst 0, 1) ∧ decode cX12_isYes 3 = .ok (.istore_n 2, 1) ∧ decode cX12_isYes 4 = .ok (.iload_n 2, 1) ∧ decode cX12_isYes 5 = .ok (.aload_n 0, 1) ∧ decode cX12_isYes 6 = .ok (.getfield 477, 3) ∧ decode cX12_isYes 9 = .ok (.if_icmp .ge 32, 3) ∧ decode cX12_isYes 41 = .ok (.aload_n 0, 1) ∧ decode cX12_isYes 42 = .ok (.getfield 412, 3) ∧ decode cX12_isYes 45 = .ok (.ifCond .le 16, 3) ∧ decode cX12_isYes 61 = .ok (.iconst 0, 1) := by decide +kernel
theorem dX12_isYes_0 : decode cX12_isYes 0 = .ok (.iconst 0, 1) := gdX12_isYes_0.1
theorem dX12_isYes_1 : decode cX12_isYes 1 = .ok (.istore_n 1, 1) := gdX12_isYes_0.2.1
theorem dX12_isYes_2 : decode cX12_isYes 2 = .ok (.iconst 0, 1) := gdX12_isYes_0.2.2.1
theorem dX12_isYes_3 : decode cX12_isYes 3 = .ok (.istore_n 2, 1) := gdX12_isYes_0.2.2.2.1
theorem dX12_isYes_4 : decode cX12_isYes 4 = .ok (.iload_n 2, 1) := gdX12_isYes_0.2.2.2.2.1
theorem dX12_isYes_5 : decode cX12_isYes 5 = .ok (.aload_n 0, 1) := gdX12_isYes_0.2.2.2.2.2.1
theorem dX12_isYes_6 : decode cX12_isYes 6 = .ok (.getfield 477, 3) := gdX12_isYes_0.2.2.2.2.2.2.1
theorem dX12_isYes_9 : decode cX12_isYes 9 = .ok (.if_icmp .ge 32, 3) := gdX12_isYes_0.2.2.2.2.2.2.2.1
theorem dX12_isYes_41 : decode cX12_isYes 41 = .ok (.aload_n 0, 1) := gdX12_isYes_0.2.2.2.2.2.2.2.2.1
theorem dX12_isYes_42 : decode cX12_isYes 42 = .ok (.getfield 412, 3) := gdX12_isYes_0.2.2.2.2.2.2.2.2.2.1
theorem dX12_isYes_45 : decode cX12_isYes 45 = .ok (.ifCond .le 16, 3) := gdX12_isYes_0.2.2.2.2.2.2.2.2.2.2.1
theorem dX12_isYes_61 : decode cX12_isYes 61 = .ok (.iconst 0, 1) := gdX12_isYes_0.2.2.2.2.2.2.2.2.2.2.2
theorem gdX12_isYes_62 : decode cX12_isYes 62 = .ok (.ireturn, 1) ∧ decode cX12_isYes 48 = .ok (.aload_n 0, 1) ∧ decode cX12_isYes 49 = .ok (.getfield 94, 3) ∧ decode cX12_isYes 52 = .ok (.iload_n 1, 1) ∧ decode cX12_isYes 53 = .ok (.baload, 1) ∧ decode cX12_isYes 54 = .ok (.ifCond .eq 7, 3) ∧ decode cX12_isYes 57 = .ok (.iconst 1, 1) ∧ decode cX12_isYes 58 = .ok (.goto 4, 3) ∧ decode cX12_isYes 12 = .ok (.aload_n 0, 1) ∧ decode cX12_isYes 13 = .ok (.getfield 412, 3) ∧ decode cX12_isYes 16 = .ok (.ifCond .le 17, 3) ∧ decode cX12_isYes 33 = .ok (.iconst 0, 1) := by decide +kernel
theorem dX12_isYes_62 : decode cX12_isYes 62 = .ok (.ireturn, 1) := gdX12_isYes_62.1
theorem dX12_isYes_48 : decode cX12_isYes 48 = .ok (.aload_n 0, 1) := gdX12_isYes_62.2.1
theorem dX12_isYes_49 : decode cX12_isYes 49 = .ok (.getfield 94, 3) := gdX12_isYes_62.2.2.1
theorem dX12_isYes_52 : decode cX12_isYes 52 = .ok (.iload_n 1, 1) := gdX12_isYes_62.2.2.2.1
theorem dX12_isYes_53 : decode cX12_isYes 53 = .ok (.baload, 1) := gdX12_isYes_62.2.2.2.2.1
theorem dX12_isYes_54 : decode cX12_isYes 54 = .ok (.ifCond .eq 7, 3) := gdX12_isYes_62.2.2.2.2.2.1
theorem dX12_isYes_57 : decode cX12_isYes 57 = .ok (.iconst 1, 1) := gdX12_isYes_62.2.2.2.2.2.2.1
theorem dX12_isYes_58 : decode cX12_isYes 58 = .ok (.goto 4, 3) := gdX12_isYes_62.2.2.2.2.2.2.2.1
theorem dX12_isYes_12 : decode cX12_isYes 12 = .ok (.aload_n 0, 1) := gdX12_isYes_62.2.2.2.2.2.2.2.2.1
theorem dX12_isYes_13 : decode cX12_isYes 13 = .ok (.getfield 412, 3) := gdX12_isYes_62.2.2.2.2.2.2.2.2.2.1
theorem dX12_isYes_16 : decode cX12_isYes 16 = .ok (.ifCond .le 17, 3) := gdX12_isYes_62.2.2.2.2.2.2.2.2.2.2.1
theorem dX12_isYes_33 : decode cX12_isYes 33 = .ok (.iconst 0, 1) := gdX12_isYes_62.2.2.2.2.2.2.2.2.2.2.2
theorem gdX12_isYes_34 : decode cX12_isYes 34 = .ok (.istore_n 1, 1) ∧ decode cX12_isYes 35 = .ok (.iinc 2 1, 3) ∧ decode cX12_isYes 38 = .ok (.goto (-34), 3) ∧ decode cX12_isYes 19 = .ok (.aload_n 0, 1) ∧ decode cX12_isYes 20 = .ok (.iload_n 1, 1) ∧ decode cX12_isYes 21 = .ok (.aload_n 0, 1) ∧ decode cX12_isYes 22 = .ok (.getfield 106, 3) ∧ decode cX12_isYes 25 = .ok (.iload_n 2, 1) ∧ decode cX12_isYes 26 = .ok (.iaload, 1) ∧ decode cX12_isYes 27 = .ok (.invokevirtual 491, 3) := by decide +kernel
theorem dX12_isYes_34 : decode cX12_isYes 34 = .ok (.istore_n 1, 1) := gdX12_isYes_34.1
theorem dX12_isYes_35 : decode cX12_isYes 35 = .ok (.iinc 2 1, 3) := gdX12_isYes_34.2.1
theorem dX12_isYes_38 : decode cX12_isYes 38 = .ok (.goto (-34), 3) := gdX12_isYes_34.2.2.1
theorem dX12_isYes_19 : decode cX12_isYes 19 = .ok (.aload_n 0, 1) := gdX12_isYes_34.2.2.2.1
theorem dX12_isYes_20 : decode cX12_isYes 20 = .ok (.iload_n 1, 1) := gdX12_isYes_34.2.2.2.2.1
theorem dX12_isYes_21 : decode cX12_isYes 21 = .ok (.aload_n 0, 1) := gdX12_isYes_34.2.2.2.2.2.1
theorem dX12_isYes_22 : decode cX12_isYes 22 = .ok (.getfield 106, 3) := gdX12_isYes_34.2.2.2.2.2.2.1
theorem dX12_isYes_25 : decode cX12_isYes 25 = .ok (.iload_n 2, 1) := gdX12_isYes_34.2.2.2.2.2.2.2.1
theorem dX12_isYes_26 : decode cX12_isYes 26 = .ok (.iaload, 1) := gdX12_isYes_34.2.2.2.2.2.2.2.2.1
theorem dX12_isYes_27 : decode cX12_isYes 27 = .ok (.invokevirtual 491, 3) := gdX12_isYes_34.2.2.2.2.2.2.2.2.2
theorem k_X12_491 : xV RX12 RX12 491 yX12_leadsTo cX12_leadsTo 3 (some .int) 2 := ⟨⟨m_1897, m_1899, m_100, m_146, m_1900⟩, rfl, by decide, by decide, by decide +kernel⟩
theorem dX12_isYes_30 : decode cX12_isYes 30 = .ok (.goto 4, 3) := by decide +kernel
set_option maxHeartbeats 1000000 in
set_option maxRecDepth 100000 in
theorem r_isYes (l : Launch) (D : va_G) (cy : Nat → ClassId) (m0 : Nat) (Mtape : Nat) (MnName : Nat) (MnStep : Nat) (MnArg : Nat) (MnMany : Nat) (Mstep : Nat) (Marg : Nat) (Mmany : Nat) (Mopen : Nat) (Mvalues : Nat) (MnHasForm : Nat) (MhasForm : Nat) (Masks : Nat) (MnLoud : Nat) (MnCliffAt : Nat) (MnSnow : Nat) (MnManAt : Nat) (MnVoice : Nat) (MnOn : Nat) (Mloud : Nat) (McliffAt : Nat) (MsnowTold : Nat) (MmanAt : Nat) (Mvoice : Nat) (Mon : Nat) (MnYes : Nat) (Myes : Nat) (Mnow : Nat) (Mcry : Nat) (Msnow : Nat) (Mecho : Nat) (Mwere : Nat) (Mlies : Nat) (Mspots : Nat) (Msteps : Nat) (MfromState : Nat) (MbyWord : Nat) (Mqueue : Nat) (MsoundCliff : Nat) (MsoundLong : Nat) (MsoundCame : Nat) (MsoundTold : Nat) (MsoundUntold : Nat) (Mstands : Nat) (Mtally : Nat) (MhasBox : Nat) (Mboxes : Nat) (Itaped : Nat) (Ifault : Nat) (IfaultPlace : Int32) (Iat : Nat) (Isize : Nat) (Isort : Int32) (Iplace : Int32) (Inumber : Int32) (Iword : Int64) (Iform : Nat) (Iopens : Nat) (InUnits : Nat) (Iunits : Int32) (IownUnits : Nat) (Ideep : Nat) (Gon : Nat → Int32) (Gyes : Nat → Int32) (InWords : Nat) (InCliffs : Nat) (InMen : Nat) (InStates : Nat) (InOns : Nat) (InWind : Int32) (InDraw : Int32) (Iwords : Nat) (Icliffs : Nat) (Imen : Nat) (Istates : Nat) (Ions : Int32) (IwindTold : Int32) (InHasWind : Int32) (InHasDraw : Int32) (Gecho : Nat → Int32) (IcryMany : Nat) (IcallPlace : Int32) (IcallVoice : Int32) (Iwind : Int32) (Ichance : Int32) (IechoMany : Nat) (Iacts : Nat) (Iundone : Nat) (Ilain : Nat) (Isounds : Nat) (Itime : Int32) (IstandMany : Int32) (gtp : Itaped ≤ 1600) (gat : Iat ≤ Isize) (gsz : Isize ≤ 1600) (gfl : Ifault ≤ 5) (gfo : Iform ≤ 2) (gnw : InWords ≤ 8) (gnc : InCliffs ≤ 4) (gnm : InMen ≤ 4) (gns : InStates ≤ 6) (gw : Iwords ≤ 8) (gc9 : Icliffs ≤ 4) (gm : Imen ≤ 4) (gs : Istates ≤ 6) (gcm : IcryMany ≤ 10) (gem : IechoMany ≤ 20) (gau : Iacts + Iundone ≤ 40) (gla : Ilain ≤ 20) (gso : Isounds ≤ 30) (gop : Iopens ≤ 40) (gde : Ideep ≤ 8) (gou : IownUnits ≤ 31) (gnu : InUnits ≤ 61) (gno : InOns ≤ 30) (gech : rng Gecho 20 7) (gon : nxT Gon) : XMi l D (tyL cy) E0 yX12_isYes cX12_isYes 3 (some .boolean) (rmk 1 0 0) [.ref m0] [wO m0 12 [.ref Mtape, .int (nI Itaped), .int (nI Ifault), .int IfaultPlace, .int (nI Iat), .int (nI Isize), .int Isort, .int Iplace, .int Inumber, .long Iword, .ref MnName, .ref MnStep, .ref MnArg, .ref MnMany, .ref Mstep, .ref Marg, .ref Mmany, .ref Mopen, .ref Mvalues, .ref MnHasForm, .ref MhasForm, .int (nI Iform), .int (nI Iopens), .int (nI InUnits), .int Iunits, .int (nI IownUnits), .int (nI Ideep), .ref Masks, .ref MnLoud, .ref MnCliffAt, .ref MnSnow, .ref MnManAt, .ref MnVoice, .ref MnOn, .ref Mloud, .ref McliffAt, .ref MsnowTold, .ref MmanAt, .ref Mvoice, .ref Mon, .ref MnYes, .ref Myes, .int (nI InWords), .int (nI InCliffs), .int (nI InMen), .int (nI InStates), .int (nI InOns), .int InWind, .int InDraw, .int (nI Iwords), .int (nI Icliffs), .int (nI Imen), .int (nI Istates), .int Ions, .int IwindTold, .int InHasWind, .int InHasDraw, .ref Mnow, .ref Mcry, .ref Msnow, .ref Mecho, .int (nI IcryMany), .int IcallPlace, .int IcallVoice, .int Iwind, .int Ichance, .int (nI IechoMany), .ref Mwere, .int (nI Iacts), .int (nI Iundone), .ref Mlies, .int (nI Ilain), .ref Mspots, .ref Msteps, .ref MfromState, .ref MbyWord, .ref Mqueue, .ref MsoundCliff, .ref MsoundLong, .ref MsoundCame, .ref MsoundTold, .ref MsoundUntold, .int (nI Isounds), .int Itime, .ref Mstands, .int IstandMany, .ref Mtally, .ref MhasBox, .ref Mboxes], wI (cy 1) Mon 48 (Gon), wI (cy 1) Mecho 20 (Gecho), wI (cy 3) Myes 6 (Gyes)] (fun (r : Int32) (_ : Unit) => (r = 0 ∨ r = 1)) (fun (_ : Unit) => [wO m0 12 [.ref Mtape, .int (nI Itaped), .int (nI Ifault), .int IfaultPlace, .int (nI Iat), .int (nI Isize), .int Isort, .int Iplace, .int Inumber, .long Iword, .ref MnName, .ref MnStep, .ref MnArg, .ref MnMany, .ref Mstep, .ref Marg, .ref Mmany, .ref Mopen, .ref Mvalues, .ref MnHasForm, .ref MhasForm, .int (nI Iform), .int (nI Iopens), .int (nI InUnits), .int Iunits, .int (nI IownUnits), .int (nI Ideep), .ref Masks, .ref MnLoud, .ref MnCliffAt, .ref MnSnow, .ref MnManAt, .ref MnVoice, .ref MnOn, .ref Mloud, .ref McliffAt, .ref MsnowTold, .ref MmanAt, .ref Mvoice, .ref Mon, .ref MnYes, .ref Myes, .int (nI InWords), .int (nI InCliffs), .int (nI InMen), .int (nI InStates), .int (nI InOns), .int InWind, .int InDraw, .int (nI Iwords), .int (nI Icliffs), .int (nI Imen), .int (nI Istates), .int Ions, .int IwindTold, .int InHasWind, .int InHasDraw, .ref Mnow, .ref Mcry, .ref Msnow, .ref Mecho, .int (nI IcryMany), .int IcallPlace, .int IcallVoice, .int Iwind, .int Ichance, .int (nI IechoMany), .ref Mwere, .int (nI Iacts), .int (nI Iundone), .ref Mlies, .int (nI Ilain), .ref Mspots, .ref Msteps, .ref MfromState, .ref MbyWord, .ref Mqueue, .ref MsoundCliff, .ref MsoundLong, .ref MsoundCame, .ref MsoundTold, .ref MsoundUntold, .int (nI Isounds), .int Itime, .ref Mstands, .int IstandMany, .ref Mtally, .ref MhasBox, .ref Mboxes], wI (cy 1) Mon 48 (Gon), wI (cy 1) Mecho 20 (Gecho), wI (cy 3) Myes 6 (Gyes)]) := by
  refine XMi.start (by decide) (Nat.le_of_ble_eq_true rfl) ?_
  intro p e s m below meth c args A ls Q hat hQ
  obtain ⟨hx, hb, hr, hml, hown, hg, hlocks, hin, hK, hA, hP, hD, hS, hE, hl⟩ := hat
  have hown : s.vm.findClass RX12 = some m.cls := hown
  have hl : lv_has ls 3 [(0, .ref m0)] := hl
  refine lv_iconst (v := 0) hx hb dX12_isYes_0 (by decide) ?_
  refine lv_istore_n (lv' := [(1, .int 0), (0, .ref m0)]) hx hb dX12_isYes_1 rfl hl (by decide) rfl (fun ls hl => ?_)
  refine lv_iconst (v := 0) hx hb dX12_isYes_2 (by decide) ?_
  refine lv_istore_n (lv' := [(2, .int 0), (1, .int 0), (0, .ref m0)]) hx hb dX12_isYes_3 rfl hl (by decide) rfl (fun ls hl => ?_)
  have loop1 : ∀ (zn : Nat) (sx1 : Nat) (k1 : Nat), (k1 ≤ IechoMany) → (sx1 ≤ 5) → IechoMany - k1 + 1 ≤ zn → ∀ (H : Heap) (locs : List Loc), va_P D vwCl [wO m0 12 [.ref Mtape, .int (nI Itaped), .int (nI Ifault), .int IfaultPlace, .int (nI Iat), .int (nI Isize), .int Isort, .int Iplace, .int Inumber, .long Iword, .ref MnName, .ref MnStep, .ref MnArg, .ref MnMany, .ref Mstep, .ref Marg, .ref Mmany, .ref Mopen, .ref Mvalues, .ref MnHasForm, .ref MhasForm, .int (nI Iform), .int (nI Iopens), .int (nI InUnits), .int Iunits, .int (nI IownUnits), .int (nI Ideep), .ref Masks, .ref MnLoud, .ref MnCliffAt, .ref MnSnow, .ref MnManAt, .ref MnVoice, .ref MnOn, .ref Mloud, .ref McliffAt, .ref MsnowTold, .ref MmanAt, .ref Mvoice, .ref Mon, .ref MnYes, .ref Myes, .int (nI InWords), .int (nI InCliffs), .int (nI InMen), .int (nI InStates), .int (nI InOns), .int InWind, .int InDraw, .int (nI Iwords), .int (nI Icliffs), .int (nI Imen), .int (nI Istates), .int Ions, .int IwindTold, .int InHasWind, .int InHasDraw, .ref Mnow, .ref Mcry, .ref Msnow, .ref Mecho, .int (nI IcryMany), .int IcallPlace, .int IcallVoice, .int Iwind, .int Ichance, .int (nI IechoMany), .ref Mwere, .int (nI Iacts), .int (nI Iundone), .ref Mlies, .int (nI Ilain), .ref Mspots, .ref Msteps, .ref MfromState, .ref MbyWord, .ref Mqueue, .ref MsoundCliff, .ref MsoundLong, .ref MsoundCame, .ref MsoundTold, .ref MsoundUntold, .int (nI Isounds), .int Itime, .ref Mstands, .int IstandMany, .ref Mtally, .ref MhasBox, .ref Mboxes], wI (cy 1) Mon 48 (Gon), wI (cy 1) Mecho 20 (Gecho), wI (cy 3) Myes 6 (Gyes)] H → va_D A [wO m0 12 [.ref Mtape, .int (nI Itaped), .int (nI Ifault), .int IfaultPlace, .int (nI Iat), .int (nI Isize), .int Isort, .int Iplace, .int Inumber, .long Iword, .ref MnName, .ref MnStep, .ref MnArg, .ref MnMany, .ref Mstep, .ref Marg, .ref Mmany, .ref Mopen, .ref Mvalues, .ref MnHasForm, .ref MhasForm, .int (nI Iform), .int (nI Iopens), .int (nI InUnits), .int Iunits, .int (nI IownUnits), .int (nI Ideep), .ref Masks, .ref MnLoud, .ref MnCliffAt, .ref MnSnow, .ref MnManAt, .ref MnVoice, .ref MnOn, .ref Mloud, .ref McliffAt, .ref MsnowTold, .ref MmanAt, .ref Mvoice, .ref Mon, .ref MnYes, .ref Myes, .int (nI InWords), .int (nI InCliffs), .int (nI InMen), .int (nI InStates), .int (nI InOns), .int InWind, .int InDraw, .int (nI Iwords), .int (nI Icliffs), .int (nI Imen), .int (nI Istates), .int Ions, .int IwindTold, .int InHasWind, .int InHasDraw, .ref Mnow, .ref Mcry, .ref Msnow, .ref Mecho, .int (nI IcryMany), .int IcallPlace, .int IcallVoice, .int Iwind, .int Ichance, .int (nI IechoMany), .ref Mwere, .int (nI Iacts), .int (nI Iundone), .ref Mlies, .int (nI Ilain), .ref Mspots, .ref Msteps, .ref MfromState, .ref MbyWord, .ref Mqueue, .ref MsoundCliff, .ref MsoundLong, .ref MsoundCame, .ref MsoundTold, .ref MsoundUntold, .int (nI Isounds), .int Itime, .ref Mstands, .int IstandMany, .ref Mtally, .ref MhasBox, .ref Mboxes], wI (cy 1) Mon 48 (Gon), wI (cy 1) Mecho 20 (Gecho), wI (cy 3) Myes 6 (Gyes)] → va_S A s.heap H locs → ∀ ls : Array Slot, lv_has ls 3 [(2, .int (nI k1)), (1, .int (nI sx1)), (0, .ref m0)] → W p l e (rmk 1 0 0) s m args below meth c H locs 0 0 Q (F0 m 4 ls []) := by
    try clear hP hD hS
    intro zn
    induction zn with
    | zero => intro sx1 k1 _ _ hz; exact absurd hz (by omega)
    | succ zn ih1 =>
      intro sx1 k1 hf0_1 hf1_1 hmu1 H locs hP hD hS ls hl
      refine lv_iload_n hx hb dX12_isYes_4 rfl (lv_at hl 0 rfl) ?_
      refine lv_aload_n hx hb dX12_isYes_5 rfl (lv_at hl 2 rfl) ?_
      refine va_get (D := D) (ci := 12) (v := .int (nI IechoMany)) (C := RX12) (T := TX12) (N := 89) hx hb hg i_X12 hown hK hP 0 rfl rfl 66 (by decide) (hg _ m_1479) (fun _ h9 => h9) rfl dX12_isYes_6 ?_
      refine lv_icmp_ge (tgt := 41) hx hb dX12_isYes_9 (by decide) (fun c_2 => ?_) (fun c_2 => ?_)
      · have q_3 : IechoMany ≤ k1 := q_le (a := IechoMany) (b := k1) rfl rfl (by omega) (by omega) c_2
        refine lv_aload_n hx hb dX12_isYes_41 rfl (lv_at hl 2 rfl) ?_
        refine va_get (D := D) (ci := 12) (v := .int (nI Istates)) (C := RX12) (T := TX12) (N := 89) hx hb hg i_X12 hown hK hP 0 rfl rfl 52 (by decide) (hg _ m_1465) (fun _ h9 => h9) rfl dX12_isYes_42 ?_
        refine lv_if_le (tgt := 61) hx hb dX12_isYes_45 (by decide) (fun c_4 => ?_) (fun c_4 => ?_)
        · have q_5 : Istates ≤ 0 := q_le (a := Istates) (b := 0) rfl rfl (by omega) (by omega) c_4
          refine lv_iconst (v := 0) hx hb dX12_isYes_61 (by decide) ?_
          exact x_zret hQ hx hb hr hlocks hK hP hD hS rfl dX12_isYes_62 () ((Or.inl rfl)) [0, 1, 2, 3] (by decide +kernel) rfl (Nat.le_of_ble_eq_true rfl) (Nat.le_of_ble_eq_true rfl)
        · have q_5 : 0 < Istates := q_nle (a := Istates) (b := 0) rfl rfl (by omega) (by omega) c_4
          refine lv_aload_n hx hb dX12_isYes_48 rfl (lv_at hl 2 rfl) ?_
          refine va_get (D := D) (ci := 12) (v := .ref Myes) (C := RX12) (T := TX12) (N := 89) hx hb hg i_X12 hown hK hP 0 rfl rfl 41 (by decide) (hg _ m_1454) (fun _ h9 => h9) rfl dX12_isYes_49 ?_
          refine lv_iload_n hx hb dX12_isYes_52 rfl (lv_at hl 1 rfl) ?_
          refine va_zald hx hb hK hP 3 3 rfl rfl (vp_in_nI (by omega) (by decide)) dX12_isYes_53 ?_
          refine lv_topi (fun x_6 ex_6 => ?_)
          refine lv_if_eq (tgt := 61) hx hb dX12_isYes_54 (by decide) (fun c_54 => ?_) (fun c_54 => ?_)
          · refine lv_iconst (v := 0) hx hb dX12_isYes_61 (by decide) ?_
            exact x_zret hQ hx hb hr hlocks hK hP hD hS rfl dX12_isYes_62 () ((Or.inl rfl)) [0, 1, 2, 3] (by decide +kernel) rfl (Nat.le_of_ble_eq_true rfl) (Nat.le_of_ble_eq_true rfl)
          · refine lv_iconst (v := 1) hx hb dX12_isYes_57 (by decide) ?_
            refine lv_goto (tgt := 62) hx hb dX12_isYes_58 (by decide) ?_
            exact x_zret hQ hx hb hr hlocks hK hP hD hS rfl dX12_isYes_62 () ((Or.inr rfl)) [0, 1, 2, 3] (by decide +kernel) rfl (Nat.le_of_ble_eq_true rfl) (Nat.le_of_ble_eq_true rfl)
      · have q_3 : k1 < IechoMany := q_nle (a := IechoMany) (b := k1) rfl rfl (by omega) (by omega) c_2
        refine lv_aload_n hx hb dX12_isYes_12 rfl (lv_at hl 2 rfl) ?_
        refine va_get (D := D) (ci := 12) (v := .int (nI Istates)) (C := RX12) (T := TX12) (N := 89) hx hb hg i_X12 hown hK hP 0 rfl rfl 52 (by decide) (hg _ m_1465) (fun _ h9 => h9) rfl dX12_isYes_13 ?_
        refine lv_if_le (tgt := 33) hx hb dX12_isYes_16 (by decide) (fun c_7 => ?_) (fun c_7 => ?_)
        · have q_8 : Istates ≤ 0 := q_le (a := Istates) (b := 0) rfl rfl (by omega) (by omega) c_7
          refine lv_iconst (v := 0) hx hb dX12_isYes_33 (by decide) ?_
          refine lv_istore_n (lv' := [(1, .int 0), (2, .int (nI k1)), (0, .ref m0)]) hx hb dX12_isYes_34 rfl hl (by decide) rfl (fun ls hl => ?_)
          refine lv_iinc (v := nI (k1 + 1)) (lv' := [(2, .int (nI (k1 + 1))), (1, .int 0), (0, .ref m0)]) hx hb dX12_isYes_35 hl (k := 1) rfl (nI_add k1 1) (by decide) rfl (fun ls hl => ?_)
          refine lv_goto (tgt := 4) hx hb dX12_isYes_38 (by decide) ?_
          exact ih1  0 ((k1 + 1)) (by first | assumption | omega) (by first | assumption | omega) (by omega) _ _ (hP.sub [0, 1, 2, 3] rfl) (hD.sub [0, 1, 2, 3] (by decide +kernel) rfl) hS ls (lv_sub hl [0, 1, 2] rfl)
        · have q_8 : 0 < Istates := q_nle (a := Istates) (b := 0) rfl rfl (by omega) (by omega) c_7
          refine lv_aload_n hx hb dX12_isYes_19 rfl (lv_at hl 2 rfl) ?_
          refine lv_iload_n hx hb dX12_isYes_20 rfl (lv_at hl 1 rfl) ?_
          refine lv_aload_n hx hb dX12_isYes_21 rfl (lv_at hl 2 rfl) ?_
          refine va_get (D := D) (ci := 12) (v := .ref Mecho) (C := RX12) (T := TX12) (N := 89) hx hb hg i_X12 hown hK hP 0 rfl rfl 60 (by decide) (hg _ m_1473) (fun _ h9 => h9) rfl dX12_isYes_22 ?_
          refine lv_iload_n hx hb dX12_isYes_25 rfl (lv_at hl 0 rfl) ?_
          refine va_iald hx hb hK hP 2 1 rfl rfl (vp_in_nI (by omega) (by decide)) dX12_isYes_26 ?_
          obtain ⟨j_9, hj_9, ej_9⟩ := rng_at gech (i := k1) (by omega) (by decide)
          refine lv_topi (fun y_10 hy_10 => ?_)
          obtain rfl : y_10 = nI j_9 := hy_10.trans ej_9
          refine x_callVi (q := (RX12, TX12, 89)) (ci := 12) (q0 := 0) (wr := [wI (cy 1) Mecho 20 (Gecho), wI (cy 3) Myes 6 (Gyes)]) (rest := []) ⟨hx, hb, hml, hown, hg, hl.1⟩ k_X12_491 (r_leadsTo l D cy m0 Mtape MnName MnStep MnArg MnMany Mstep Marg Mmany Mopen Mvalues MnHasForm MhasForm Masks MnLoud MnCliffAt MnSnow MnManAt MnVoice MnOn Mloud McliffAt MsnowTold MmanAt Mvoice Mon MnYes Myes Mnow Mcry Msnow Mecho Mwere Mlies Mspots Msteps MfromState MbyWord Mqueue MsoundCliff MsoundLong MsoundCame MsoundTold MsoundUntold Mstands Mtally MhasBox Mboxes Itaped Ifault IfaultPlace Iat Isize Isort Iplace Inumber Iword Iform Iopens InUnits Iunits IownUnits Ideep Gon InWords InCliffs InMen InStates InOns InWind InDraw Iwords Icliffs Imen Istates Ions IwindTold InHasWind InHasDraw IcryMany IcallPlace IcallVoice Iwind Ichance IechoMany Iacts Iundone Ilain Isounds Itime IstandMany sx1 j_9 (by first | assumption | omega) (by first | assumption | omega) (by first | assumption | omega) (by first | assumption | omega) (by first | assumption | omega) (by first | assumption | omega) (by first | assumption | omega) (by first | assumption | omega) (by first | assumption | omega) (by first | assumption | omega) (by first | assumption | omega) (by first | assumption | omega) (by first | assumption | omega) (by first | assumption | omega) (by first | assumption | omega) (by first | assumption | omega) (by first | assumption | omega) (by first | assumption | omega) (by first | assumption | omega) (by first | assumption | omega) (by first | assumption | omega) (by first | assumption | omega) (by first | assumption | omega) (gon) (by first | assumption | omega) (by first | assumption | omega)) E0_blind hK hP hD hS hA [0, 1] [2, 3] ⟨rfl, rfl, by decide +kernel, by decide +kernel, by decide +kernel⟩ rfl rfl (fun _ _ _ => trivial) dX12_isYes_27 rfl rfl (Nat.le_of_ble_eq_true rfl) ⟨Nat.le_of_ble_eq_true rfl, Nat.le_of_ble_eq_true rfl⟩ ⟨Nat.le_of_ble_eq_true rfl, Nat.le_of_ble_eq_true rfl⟩ (fun zr11 zu11 H locs hw11 hP9 hD9 hS9 => ?_)
          clear hP hD hS
          obtain ⟨k_12, rfl⟩ : ∃ z, z = zu11 := ⟨_, rfl⟩
          refine reW [wI (cy 1) Mecho 20 (Gecho), wI (cy 3) Myes 6 (Gyes), wO m0 12 [.ref Mtape, .int (nI Itaped), .int (nI Ifault), .int IfaultPlace, .int (nI Iat), .int (nI Isize), .int Isort, .int Iplace, .int Inumber, .long Iword, .ref MnName, .ref MnStep, .ref MnArg, .ref MnMany, .ref Mstep, .ref Marg, .ref Mmany, .ref Mopen, .ref Mvalues, .ref MnHasForm, .ref MhasForm, .int (nI Iform), .int (nI Iopens), .int (nI InUnits), .int Iunits, .int (nI IownUnits), .int (nI Ideep), .ref Masks, .ref MnLoud, .ref MnCliffAt, .ref MnSnow, .ref MnManAt, .ref MnVoice, .ref MnOn, .ref Mloud, .ref McliffAt, .ref MsnowTold, .ref MmanAt, .ref Mvoice, .ref Mon, .ref MnYes, .ref Myes, .int (nI InWords), .int (nI InCliffs), .int (nI InMen), .int (nI InStates), .int (nI InOns), .int InWind, .int InDraw, .int (nI Iwords), .int (nI Icliffs), .int (nI Imen), .int (nI Istates), .int Ions, .int IwindTold, .int InHasWind, .int InHasDraw, .ref Mnow, .ref Mcry, .ref Msnow, .ref Mecho, .int (nI IcryMany), .int IcallPlace, .int IcallVoice, .int Iwind, .int Ichance, .int (nI IechoMany), .ref Mwere, .int (nI Iacts), .int (nI Iundone), .ref Mlies, .int (nI Ilain), .ref Mspots, .ref Msteps, .ref MfromState, .ref MbyWord, .ref Mqueue, .ref MsoundCliff, .ref MsoundLong, .ref MsoundCame, .ref MsoundTold, .ref MsoundUntold, .int (nI Isounds), .int Itime, .ref Mstands, .int IstandMany, .ref Mtally, .ref MhasBox, .ref Mboxes], wI (cy 1) Mon 48 (Gon)] hP9 hD9 hS9 (fun hP hD hS => ?_)
          clear hP9 hD9 hS9
          refine W.widen (k := 0) (n := 0) (Nat.le_of_ble_eq_true rfl) (Nat.le_of_ble_eq_true rfl) ?_
          change (zr11 = nI k_12) ∧ (k_12 ≤ 5) ∧ (nI k_12 = nxR Gon sx1 j_9) at hw11
          obtain ⟨f_13, f_14, f_15⟩ := hw11
          subst f_13
          refine lv_goto (tgt := 34) hx hb dX12_isYes_30 (by decide) ?_
          refine lv_istore_n (lv' := [(1, .int (nI k_12)), (2, .int (nI k1)), (0, .ref m0)]) hx hb dX12_isYes_34 rfl hl (by decide) rfl (fun ls hl => ?_)
          refine lv_iinc (v := nI (k1 + 1)) (lv' := [(2, .int (nI (k1 + 1))), (1, .int (nI k_12)), (0, .ref m0)]) hx hb dX12_isYes_35 hl (k := 1) rfl (nI_add k1 1) (by decide) rfl (fun ls hl => ?_)
          refine lv_goto (tgt := 4) hx hb dX12_isYes_38 (by decide) ?_
          exact ih1  k_12 ((k1 + 1)) (by first | assumption | omega) (by first | assumption | omega) (by omega) _ _ (hP.sub [2, 3, 0, 1] rfl) (hD.sub [2, 3, 0, 1] (by decide +kernel) rfl) hS ls (lv_sub hl [0, 1, 2] rfl)
  exact loop1 _ 0 0 (by first | assumption | omega) (by first | assumption | omega) (Nat.le_refl _) _ _ (hP.sub [0, 1, 2, 3] rfl) (hD.sub [0, 1, 2, 3] (by decide +kernel) rfl) hS ls (lv_sub hl [0, 1, 2] rfl)
theorem gdX12_bindsAtHand_0 : decode cX12_bindsAtHand 0 = .ok (.iconst (-1), 1) ∧ decode cX12_bindsAtHand 1 = .ok (.istore_n 1, 1) ∧ decode cX12_bindsAtHand 2 = .ok (.iconst 0, 1) ∧ decode cX12_bindsAtHand 3 = .ok (.istore_n 2, 1) ∧ decode cX12_bindsAtHand 4 = .ok (.iload_n 2, 1) ∧ decode cX12_bindsAtHand 5 = .ok (.aload_n 0, 1) ∧ decode cX12_bindsAtHand 6 = .ok (.getfield 406, 3) ∧ decode cX12_bindsAtHand 9 = .ok (.if_icmp .ge 40, 3) ∧ decode cX12_bindsAtHand 49 = .ok (.iload_n 1, 1) ∧ decode cX12_bindsAtHand 50 = .ok (.ireturn, 1) ∧ decode cX12_bindsAtHand 12 = .ok (.aload_n 0, 1) ∧ decode cX12_bindsAtHand 13 = .ok (.iload_n 2, 1) := by decide +kernel
theorem dX12_bindsAtHand_0 : decode cX12_bindsAtHand 0 = .ok (.iconst (-1), 1) := gdX12_bindsAtHand_0.1
theorem dX12_bindsAtHand_1 : decode cX12_bindsAtHand 1 = .ok (.istore_n 1, 1) := gdX12_bindsAtHand_0.2.1
theorem dX12_bindsAtHand_2 : decode cX12_bindsAtHand 2 = .ok (.iconst 0, 1) := gdX12_bindsAtHand_0.2.2.1
theorem dX12_bindsAtHand_3 : decode cX12_bindsAtHand 3 = .ok (.istore_n 2, 1) := gdX12_bindsAtHand_0.2.2.2.1
theorem dX12_bindsAtHand_4 : decode cX12_bindsAtHand 4 = .ok (.iload_n 2, 1) := gdX12_bindsAtHand_0.2.2.2.2.1
theorem dX12_bindsAtHand_5 : decode cX12_bindsAtHand 5 = .ok (.aload_n 0, 1) := gdX12_bindsAtHand_0.2.2.2.2.2.1
theorem dX12_bindsAtHand_6 : decode cX12_bindsAtHand 6 = .ok (.getfield 406, 3) := gdX12_bindsAtHand_0.2.2.2.2.2.2.1
theorem dX12_bindsAtHand_9 : decode cX12_bindsAtHand 9 = .ok (.if_icmp .ge 40, 3) := gdX12_bindsAtHand_0.2.2.2.2.2.2.2.1
theorem dX12_bindsAtHand_49 : decode cX12_bindsAtHand 49 = .ok (.iload_n 1, 1) := gdX12_bindsAtHand_0.2.2.2.2.2.2.2.2.1
theorem dX12_bindsAtHand_50 : decode cX12_bindsAtHand 50 = .ok (.ireturn, 1) := gdX12_bindsAtHand_0.2.2.2.2.2.2.2.2.2.1
theorem dX12_bindsAtHand_12 : decode cX12_bindsAtHand 12 = .ok (.aload_n 0, 1) := gdX12_bindsAtHand_0.2.2.2.2.2.2.2.2.2.2.1
theorem dX12_bindsAtHand_13 : decode cX12_bindsAtHand 13 = .ok (.iload_n 2, 1) := gdX12_bindsAtHand_0.2.2.2.2.2.2.2.2.2.2.2
theorem dX12_bindsAtHand_14 : decode cX12_bindsAtHand 14 = .ok (.invokevirtual 494, 3) := by decide +kernel
theorem k_X12_494 : xV RX12 RX12 494 yX12_sendFrom cX12_sendFrom 2 none 1 := ⟨⟨m_1948, m_1950, m_108, m_146, m_1951⟩, rfl, by decide, by decide, by decide +kernel⟩
theorem gdX12_bindsAtHand_17 : decode cX12_bindsAtHand 17 = .ok (.aload_n 0, 1) ∧ decode cX12_bindsAtHand 18 = .ok (.getfield 477, 3) ∧ decode cX12_bindsAtHand 21 = .ok (.ifCond .le 22, 3) ∧ decode cX12_bindsAtHand 43 = .ok (.iinc 2 1, 3) ∧ decode cX12_bindsAtHand 46 = .ok (.goto (-42), 3) ∧ decode cX12_bindsAtHand 24 = .ok (.iload_n 1, 1) ∧ decode cX12_bindsAtHand 25 = .ok (.ifCond .lt 16, 3) ∧ decode cX12_bindsAtHand 41 = .ok (.iload_n 2, 1) ∧ decode cX12_bindsAtHand 42 = .ok (.istore_n 1, 1) ∧ decode cX12_bindsAtHand 28 = .ok (.aload_n 0, 1) ∧ decode cX12_bindsAtHand 29 = .ok (.iload_n 2, 1) ∧ decode cX12_bindsAtHand 30 = .ok (.invokevirtual 474, 3) := by decide +kernel
theorem dX12_bindsAtHand_17 : decode cX12_bindsAtHand 17 = .ok (.aload_n 0, 1) := gdX12_bindsAtHand_17.1
theorem dX12_bindsAtHand_18 : decode cX12_bindsAtHand 18 = .ok (.getfield 477, 3) := gdX12_bindsAtHand_17.2.1
theorem dX12_bindsAtHand_21 : decode cX12_bindsAtHand 21 = .ok (.ifCond .le 22, 3) := gdX12_bindsAtHand_17.2.2.1
theorem dX12_bindsAtHand_43 : decode cX12_bindsAtHand 43 = .ok (.iinc 2 1, 3) := gdX12_bindsAtHand_17.2.2.2.1
theorem dX12_bindsAtHand_46 : decode cX12_bindsAtHand 46 = .ok (.goto (-42), 3) := gdX12_bindsAtHand_17.2.2.2.2.1
theorem dX12_bindsAtHand_24 : decode cX12_bindsAtHand 24 = .ok (.iload_n 1, 1) := gdX12_bindsAtHand_17.2.2.2.2.2.1
theorem dX12_bindsAtHand_25 : decode cX12_bindsAtHand 25 = .ok (.ifCond .lt 16, 3) := gdX12_bindsAtHand_17.2.2.2.2.2.2.1
theorem dX12_bindsAtHand_41 : decode cX12_bindsAtHand 41 = .ok (.iload_n 2, 1) := gdX12_bindsAtHand_17.2.2.2.2.2.2.2.1
theorem dX12_bindsAtHand_42 : decode cX12_bindsAtHand 42 = .ok (.istore_n 1, 1) := gdX12_bindsAtHand_17.2.2.2.2.2.2.2.2.1
theorem dX12_bindsAtHand_28 : decode cX12_bindsAtHand 28 = .ok (.aload_n 0, 1) := gdX12_bindsAtHand_17.2.2.2.2.2.2.2.2.2.1
theorem dX12_bindsAtHand_29 : decode cX12_bindsAtHand 29 = .ok (.iload_n 2, 1) := gdX12_bindsAtHand_17.2.2.2.2.2.2.2.2.2.2.1
theorem dX12_bindsAtHand_30 : decode cX12_bindsAtHand 30 = .ok (.invokevirtual 474, 3) := gdX12_bindsAtHand_17.2.2.2.2.2.2.2.2.2.2.2
theorem gdX12_bindsAtHand_33 : decode cX12_bindsAtHand 33 = .ok (.aload_n 0, 1) ∧ decode cX12_bindsAtHand 34 = .ok (.iload_n 1, 1) ∧ decode cX12_bindsAtHand 35 = .ok (.invokevirtual 474, 3) ∧ decode cX12_bindsAtHand 38 = .ok (.if_icmp .ge 5, 3) := by decide +kernel
theorem dX12_bindsAtHand_33 : decode cX12_bindsAtHand 33 = .ok (.aload_n 0, 1) := gdX12_bindsAtHand_33.1
theorem dX12_bindsAtHand_34 : decode cX12_bindsAtHand 34 = .ok (.iload_n 1, 1) := gdX12_bindsAtHand_33.2.1
theorem dX12_bindsAtHand_35 : decode cX12_bindsAtHand 35 = .ok (.invokevirtual 474, 3) := gdX12_bindsAtHand_33.2.2.1
theorem dX12_bindsAtHand_38 : decode cX12_bindsAtHand 38 = .ok (.if_icmp .ge 5, 3) := gdX12_bindsAtHand_33.2.2.2
set_option maxHeartbeats 1000000 in
set_option maxRecDepth 100000 in
theorem r_bindsAtHand (l : Launch) (D : va_G) (cy : Nat → ClassId) (m0 : Nat) (Mtape : Nat) (MnName : Nat) (MnStep : Nat) (MnArg : Nat) (MnMany : Nat) (Mstep : Nat) (Marg : Nat) (Mmany : Nat) (Mopen : Nat) (Mvalues : Nat) (MnHasForm : Nat) (MhasForm : Nat) (Masks : Nat) (MnLoud : Nat) (MnCliffAt : Nat) (MnSnow : Nat) (MnManAt : Nat) (MnVoice : Nat) (MnOn : Nat) (Mloud : Nat) (McliffAt : Nat) (MsnowTold : Nat) (MmanAt : Nat) (Mvoice : Nat) (Mon : Nat) (MnYes : Nat) (Myes : Nat) (Mnow : Nat) (Mcry : Nat) (Msnow : Nat) (Mecho : Nat) (Mwere : Nat) (Mlies : Nat) (Mspots : Nat) (Msteps : Nat) (MfromState : Nat) (MbyWord : Nat) (Mqueue : Nat) (MsoundCliff : Nat) (MsoundLong : Nat) (MsoundCame : Nat) (MsoundTold : Nat) (MsoundUntold : Nat) (Mstands : Nat) (Mtally : Nat) (MhasBox : Nat) (Mboxes : Nat) (Itaped : Nat) (Ifault : Nat) (IfaultPlace : Int32) (Iat : Nat) (Isize : Nat) (Isort : Int32) (Iplace : Int32) (Inumber : Int32) (Iword : Int64) (Gstep : Nat → Int32) (Garg : Nat → Int32) (Gmany : Nat → Int32) (Gvalues : Nat → Int32) (GhasForm : Nat → Int32) (Iform : Nat) (Iopens : Nat) (InUnits : Nat) (Iunits : Int32) (IownUnits : Nat) (Ideep : Nat) (Gasks : Nat → Int32) (Gloud : Nat → Int32) (GcliffAt : Nat → Int32) (InWords : Nat) (InCliffs : Nat) (InMen : Nat) (InStates : Nat) (InOns : Nat) (InWind : Int32) (InDraw : Int32) (Iwords : Nat) (Icliffs : Nat) (Imen : Nat) (Istates : Nat) (Ions : Int32) (IwindTold : Int32) (InHasWind : Int32) (InHasDraw : Int32) (Gcry : Nat → Int32) (Gsnow : Nat → Int32) (Gecho : Nat → Int32) (IcryMany : Nat) (IcallPlace : Int32) (IcallVoice : Int32) (Iwind : Int32) (Ichance : Int32) (IechoMany : Nat) (Iacts : Nat) (Iundone : Nat) (Ilain : Nat) (Isounds : Nat) (Itime : Int32) (IstandMany : Int32) (am : Nat → Nat) (AH : Nat → Nat → Nat) (gtp : Itaped ≤ 1600) (gat : Iat ≤ Isize) (gsz : Isize ≤ 1600) (gfl : Ifault ≤ 5) (gfo : Iform ≤ 2) (gnw : InWords ≤ 8) (gnc : InCliffs ≤ 4) (gnm : InMen ≤ 4) (gns : InStates ≤ 6) (gw : Iwords ≤ 8) (gc9 : Icliffs ≤ 4) (gm : Imen ≤ 4) (gs : Istates ≤ 6) (gcm : IcryMany ≤ 10) (gem : IechoMany ≤ 20) (gau : Iacts + Iundone ≤ 40) (gla : Ilain ≤ 20) (gso : Isounds ≤ 30) (gop : Iopens ≤ 40) (gde : Ideep ≤ 8) (gou : IownUnits ≤ 31) (gnu : InUnits ≤ 61) (gno : InOns ≤ 30) (gcry : rng Gcry 10 7) (gech : rng Gecho 20 7) (gal2 : allR Gstep Garg Gmany am AH) : XMi l D (tyL cy) E0 yX12_bindsAtHand cX12_bindsAtHand 3 (some .int) (rmk 6 0 0) [.ref m0] [wO m0 12 [.ref Mtape, .int (nI Itaped), .int (nI Ifault), .int IfaultPlace, .int (nI Iat), .int (nI Isize), .int Isort, .int Iplace, .int Inumber, .long Iword, .ref MnName, .ref MnStep, .ref MnArg, .ref MnMany, .ref Mstep, .ref Marg, .ref Mmany, .ref Mopen, .ref Mvalues, .ref MnHasForm, .ref MhasForm, .int (nI Iform), .int (nI Iopens), .int (nI InUnits), .int Iunits, .int (nI IownUnits), .int (nI Ideep), .ref Masks, .ref MnLoud, .ref MnCliffAt, .ref MnSnow, .ref MnManAt, .ref MnVoice, .ref MnOn, .ref Mloud, .ref McliffAt, .ref MsnowTold, .ref MmanAt, .ref Mvoice, .ref Mon, .ref MnYes, .ref Myes, .int (nI InWords), .int (nI InCliffs), .int (nI InMen), .int (nI InStates), .int (nI InOns), .int InWind, .int InDraw, .int (nI Iwords), .int (nI Icliffs), .int (nI Imen), .int (nI Istates), .int Ions, .int IwindTold, .int InHasWind, .int InHasDraw, .ref Mnow, .ref Mcry, .ref Msnow, .ref Mecho, .int (nI IcryMany), .int IcallPlace, .int IcallVoice, .int Iwind, .int Ichance, .int (nI IechoMany), .ref Mwere, .int (nI Iacts), .int (nI Iundone), .ref Mlies, .int (nI Ilain), .ref Mspots, .ref Msteps, .ref MfromState, .ref MbyWord, .ref Mqueue, .ref MsoundCliff, .ref MsoundLong, .ref MsoundCame, .ref MsoundTold, .ref MsoundUntold, .int (nI Isounds), .int Itime, .ref Mstands, .int IstandMany, .ref Mtally, .ref MhasBox, .ref Mboxes], wI (cy 1) Mstep 960 (Gstep), wI (cy 1) Marg 960 (Garg), wI (cy 1) Mmany 3 (Gmany), wI (cy 1) Mvalues 64 (Gvalues), wI (cy 1) Masks 7 (Gasks), wI (cy 3) MhasForm 3 (GhasForm), wI (cy 1) McliffAt 4 (GcliffAt), wI (cy 1) Msnow 4 (Gsnow), wI (cy 1) Mloud 8 (Gloud), wI (cy 1) Mcry 10 (Gcry), wI (cy 1) Mecho 20 (Gecho)] (fun (r : Int32) (u : (Nat → Int32) × (Nat → Int32) × (Nat → Int32) × Nat) => (u.2.2.2 ≤ 20) ∧ (rng u.2.2.1 20 7) ∧ (r = -1 ∨ ∃ j9 : Nat, j9 < Icliffs ∧ r = nI j9)) (fun (u : (Nat → Int32) × (Nat → Int32) × (Nat → Int32) × Nat) => [wO m0 12 [.ref Mtape, .int (nI Itaped), .int (nI Ifault), .int IfaultPlace, .int (nI Iat), .int (nI Isize), .int Isort, .int Iplace, .int Inumber, .long Iword, .ref MnName, .ref MnStep, .ref MnArg, .ref MnMany, .ref Mstep, .ref Marg, .ref Mmany, .ref Mopen, .ref Mvalues, .ref MnHasForm, .ref MhasForm, .int (nI Iform), .int (nI Iopens), .int (nI InUnits), .int Iunits, .int (nI IownUnits), .int (nI Ideep), .ref Masks, .ref MnLoud, .ref MnCliffAt, .ref MnSnow, .ref MnManAt, .ref MnVoice, .ref MnOn, .ref Mloud, .ref McliffAt, .ref MsnowTold, .ref MmanAt, .ref Mvoice, .ref Mon, .ref MnYes, .ref Myes, .int (nI InWords), .int (nI InCliffs), .int (nI InMen), .int (nI InStates), .int (nI InOns), .int InWind, .int InDraw, .int (nI Iwords), .int (nI Icliffs), .int (nI Imen), .int (nI Istates), .int Ions, .int IwindTold, .int InHasWind, .int InHasDraw, .ref Mnow, .ref Mcry, .ref Msnow, .ref Mecho, .int (nI IcryMany), .int IcallPlace, .int IcallVoice, .int Iwind, .int Ichance, .int (nI u.2.2.2), .ref Mwere, .int (nI Iacts), .int (nI Iundone), .ref Mlies, .int (nI Ilain), .ref Mspots, .ref Msteps, .ref MfromState, .ref MbyWord, .ref Mqueue, .ref MsoundCliff, .ref MsoundLong, .ref MsoundCame, .ref MsoundTold, .ref MsoundUntold, .int (nI Isounds), .int Itime, .ref Mstands, .int IstandMany, .ref Mtally, .ref MhasBox, .ref Mboxes], wI (cy 1) Mstep 960 (Gstep), wI (cy 1) Marg 960 (Garg), wI (cy 1) Mmany 3 (Gmany), wI (cy 1) Mvalues 64 (u.1), wI (cy 1) Masks 7 (u.2.1), wI (cy 3) MhasForm 3 (GhasForm), wI (cy 1) McliffAt 4 (GcliffAt), wI (cy 1) Msnow 4 (Gsnow), wI (cy 1) Mloud 8 (Gloud), wI (cy 1) Mcry 10 (Gcry), wI (cy 1) Mecho 20 (u.2.2.1)]) := by
  refine XMi.start (by decide) (Nat.le_of_ble_eq_true rfl) ?_
  intro p e s m below meth c args A ls Q hat hQ
  obtain ⟨hx, hb, hr, hml, hown, hg, hlocks, hin, hK, hA, hP, hD, hS, hE, hl⟩ := hat
  have hown : s.vm.findClass RX12 = some m.cls := hown
  have hl : lv_has ls 3 [(0, .ref m0)] := hl
  refine lv_iconst (v := -1) hx hb dX12_bindsAtHand_0 (by decide) ?_
  refine lv_istore_n (lv' := [(1, .int (-1)), (0, .ref m0)]) hx hb dX12_bindsAtHand_1 rfl hl (by decide) rfl (fun ls hl => ?_)
  refine lv_iconst (v := 0) hx hb dX12_bindsAtHand_2 (by decide) ?_
  refine lv_istore_n (lv' := [(2, .int 0), (1, .int (-1)), (0, .ref m0)]) hx hb dX12_bindsAtHand_3 rfl hl (by decide) rfl (fun ls hl => ?_)
  have loop1 : ∀ (zn : Nat) (be1 : Int32) (k1 : Nat) (eq1 : Nat) (fa3_1 : Nat → Int32) (fa4_1 : Nat → Int32) (fa5_1 : Nat → Int32), (rng fa3_1 20 7) → (k1 ≤ Icliffs) → (be1 = -1 ∨ ∃ j9 : Nat, j9 < Icliffs ∧ be1 = nI j9) → (eq1 ≤ 20) → Icliffs - k1 + 1 ≤ zn → ∀ (H : Heap) (locs : List Loc), va_P D vwCl [wO m0 12 [.ref Mtape, .int (nI Itaped), .int (nI Ifault), .int IfaultPlace, .int (nI Iat), .int (nI Isize), .int Isort, .int Iplace, .int Inumber, .long Iword, .ref MnName, .ref MnStep, .ref MnArg, .ref MnMany, .ref Mstep, .ref Marg, .ref Mmany, .ref Mopen, .ref Mvalues, .ref MnHasForm, .ref MhasForm, .int (nI Iform), .int (nI Iopens), .int (nI InUnits), .int Iunits, .int (nI IownUnits), .int (nI Ideep), .ref Masks, .ref MnLoud, .ref MnCliffAt, .ref MnSnow, .ref MnManAt, .ref MnVoice, .ref MnOn, .ref Mloud, .ref McliffAt, .ref MsnowTold, .ref MmanAt, .ref Mvoice, .ref Mon, .ref MnYes, .ref Myes, .int (nI InWords), .int (nI InCliffs), .int (nI InMen), .int (nI InStates), .int (nI InOns), .int InWind, .int InDraw, .int (nI Iwords), .int (nI Icliffs), .int (nI Imen), .int (nI Istates), .int Ions, .int IwindTold, .int InHasWind, .int InHasDraw, .ref Mnow, .ref Mcry, .ref Msnow, .ref Mecho, .int (nI IcryMany), .int IcallPlace, .int IcallVoice, .int Iwind, .int Ichance, .int (nI eq1), .ref Mwere, .int (nI Iacts), .int (nI Iundone), .ref Mlies, .int (nI Ilain), .ref Mspots, .ref Msteps, .ref MfromState, .ref MbyWord, .ref Mqueue, .ref MsoundCliff, .ref MsoundLong, .ref MsoundCame, .ref MsoundTold, .ref MsoundUntold, .int (nI Isounds), .int Itime, .ref Mstands, .int IstandMany, .ref Mtally, .ref MhasBox, .ref Mboxes], wI (cy 1) Mstep 960 (Gstep), wI (cy 1) Marg 960 (Garg), wI (cy 1) Mmany 3 (Gmany), wI (cy 1) Mvalues 64 (fa5_1), wI (cy 1) Masks 7 (fa4_1), wI (cy 3) MhasForm 3 (GhasForm), wI (cy 1) McliffAt 4 (GcliffAt), wI (cy 1) Msnow 4 (Gsnow), wI (cy 1) Mloud 8 (Gloud), wI (cy 1) Mcry 10 (Gcry), wI (cy 1) Mecho 20 (fa3_1)] H → va_D A [wO m0 12 [.ref Mtape, .int (nI Itaped), .int (nI Ifault), .int IfaultPlace, .int (nI Iat), .int (nI Isize), .int Isort, .int Iplace, .int Inumber, .long Iword, .ref MnName, .ref MnStep, .ref MnArg, .ref MnMany, .ref Mstep, .ref Marg, .ref Mmany, .ref Mopen, .ref Mvalues, .ref MnHasForm, .ref MhasForm, .int (nI Iform), .int (nI Iopens), .int (nI InUnits), .int Iunits, .int (nI IownUnits), .int (nI Ideep), .ref Masks, .ref MnLoud, .ref MnCliffAt, .ref MnSnow, .ref MnManAt, .ref MnVoice, .ref MnOn, .ref Mloud, .ref McliffAt, .ref MsnowTold, .ref MmanAt, .ref Mvoice, .ref Mon, .ref MnYes, .ref Myes, .int (nI InWords), .int (nI InCliffs), .int (nI InMen), .int (nI InStates), .int (nI InOns), .int InWind, .int InDraw, .int (nI Iwords), .int (nI Icliffs), .int (nI Imen), .int (nI Istates), .int Ions, .int IwindTold, .int InHasWind, .int InHasDraw, .ref Mnow, .ref Mcry, .ref Msnow, .ref Mecho, .int (nI IcryMany), .int IcallPlace, .int IcallVoice, .int Iwind, .int Ichance, .int (nI eq1), .ref Mwere, .int (nI Iacts), .int (nI Iundone), .ref Mlies, .int (nI Ilain), .ref Mspots, .ref Msteps, .ref MfromState, .ref MbyWord, .ref Mqueue, .ref MsoundCliff, .ref MsoundLong, .ref MsoundCame, .ref MsoundTold, .ref MsoundUntold, .int (nI Isounds), .int Itime, .ref Mstands, .int IstandMany, .ref Mtally, .ref MhasBox, .ref Mboxes], wI (cy 1) Mstep 960 (Gstep), wI (cy 1) Marg 960 (Garg), wI (cy 1) Mmany 3 (Gmany), wI (cy 1) Mvalues 64 (fa5_1), wI (cy 1) Masks 7 (fa4_1), wI (cy 3) MhasForm 3 (GhasForm), wI (cy 1) McliffAt 4 (GcliffAt), wI (cy 1) Msnow 4 (Gsnow), wI (cy 1) Mloud 8 (Gloud), wI (cy 1) Mcry 10 (Gcry), wI (cy 1) Mecho 20 (fa3_1)] → va_S A s.heap H locs → ∀ ls : Array Slot, lv_has ls 3 [(2, .int (nI k1)), (1, .int be1), (0, .ref m0)] → W p l e (rmk 6 0 0) s m args below meth c H locs 0 0 Q (F0 m 4 ls []) := by
    try clear hP hD hS
    intro zn
    induction zn with
    | zero => intro be1 k1 eq1 fa3_1 fa4_1 fa5_1 _ _ _ _ hz; exact absurd hz (by omega)
    | succ zn ih1 =>
      intro be1 k1 eq1 fa3_1 fa4_1 fa5_1 ha4_1 hf0_1 hf1_1 hf2_1 hmu1 H locs hP hD hS ls hl
      refine lv_iload_n hx hb dX12_bindsAtHand_4 rfl (lv_at hl 0 rfl) ?_
      refine lv_aload_n hx hb dX12_bindsAtHand_5 rfl (lv_at hl 2 rfl) ?_
      refine va_get (D := D) (ci := 12) (v := .int (nI Icliffs)) (C := RX12) (T := TX12) (N := 89) hx hb hg i_X12 hown hK hP 0 rfl rfl 50 (by decide) (hg _ m_1463) (fun _ h9 => h9) rfl dX12_bindsAtHand_6 ?_
      refine lv_icmp_ge (tgt := 49) hx hb dX12_bindsAtHand_9 (by decide) (fun c_2 => ?_) (fun c_2 => ?_)
      · have q_3 : Icliffs ≤ k1 := q_le (a := Icliffs) (b := k1) rfl rfl (by omega) (by omega) c_2
        refine lv_iload_n hx hb dX12_bindsAtHand_49 rfl (lv_at hl 1 rfl) ?_
        exact x_iret hQ hx hb hr hlocks hK hP hD hS dX12_bindsAtHand_50 (fa5_1, fa4_1, fa3_1, eq1) (⟨(show eq1 ≤ 20 from by first | assumption | omega), ha4_1, (show (be1 : Int32) = -1 ∨ ∃ j9 : Nat, j9 < Icliffs ∧ (be1 : Int32) = nI j9 from hf1_1)⟩) [0, 1, 2, 3, 4, 5, 6, 7, 8, 9, 10, 11] (by decide +kernel) rfl (Nat.le_of_ble_eq_true rfl) (Nat.le_of_ble_eq_true rfl)
      · have q_3 : k1 < Icliffs := q_nle (a := Icliffs) (b := k1) rfl rfl (by omega) (by omega) c_2
        refine lv_aload_n hx hb dX12_bindsAtHand_12 rfl (lv_at hl 2 rfl) ?_
        refine lv_iload_n hx hb dX12_bindsAtHand_13 rfl (lv_at hl 0 rfl) ?_
        refine x_callVv (q := (RX12, TX12, 89)) (ci := 12) (q0 := 0) (wr := []) (rest := []) ⟨hx, hb, hml, hown, hg, hl.1⟩ k_X12_494 (r_sendFrom l D cy m0 Mtape MnName MnStep MnArg MnMany Mstep Marg Mmany Mopen Mvalues MnHasForm MhasForm Masks MnLoud MnCliffAt MnSnow MnManAt MnVoice MnOn Mloud McliffAt MsnowTold MmanAt Mvoice Mon MnYes Myes Mnow Mcry Msnow Mecho Mwere Mlies Mspots Msteps MfromState MbyWord Mqueue MsoundCliff MsoundLong MsoundCame MsoundTold MsoundUntold Mstands Mtally MhasBox Mboxes Itaped Ifault IfaultPlace Iat Isize Isort Iplace Inumber Iword Gstep Garg Gmany fa5_1 GhasForm Iform Iopens InUnits Iunits IownUnits Ideep fa4_1 Gloud GcliffAt InWords InCliffs InMen InStates InOns InWind InDraw Iwords Icliffs Imen Istates Ions IwindTold InHasWind InHasDraw Gcry Gsnow fa3_1 IcryMany IcallPlace IcallVoice Iwind Ichance eq1 Iacts Iundone Ilain Isounds Itime IstandMany am AH k1 (by first | assumption | omega) (by first | assumption | omega) (by first | assumption | omega) (by first | assumption | omega) (by first | assumption | omega) (by first | assumption | omega) (by first | assumption | omega) (by first | assumption | omega) (by first | assumption | omega) (by first | assumption | omega) (by first | assumption | omega) (by first | assumption | omega) (by first | assumption | omega) (by first | assumption | omega) (by first | assumption | omega) (by first | assumption | omega) (by first | assumption | omega) (by first | assumption | omega) (by first | assumption | omega) (by first | assumption | omega) (by first | assumption | omega) (by first | assumption | omega) (by first | assumption | omega) (gcry) (ha4_1) (gal2) (by first | assumption | omega)) E0_blind hK hP hD hS hA [0, 1, 2, 3, 4, 5, 6, 7, 8, 9, 10, 11] [] ⟨rfl, rfl, by decide +kernel, by decide +kernel, by decide +kernel⟩ rfl rfl (fun _ _ _ => trivial) dX12_bindsAtHand_14 rfl rfl (Nat.le_of_ble_eq_true rfl) ⟨Nat.le_of_ble_eq_true rfl, Nat.le_of_ble_eq_true rfl⟩ ⟨Nat.le_of_ble_eq_true rfl, Nat.le_of_ble_eq_true rfl⟩ (fun zu4 H locs hw4 hP9 hD9 hS9 => ?_)
        clear hP hD hS
        obtain ⟨Gvalues2_5, Gasks2_6, Gecho2_7, IechoMany2_8⟩ := zu4
        refine reW [wO m0 12 [.ref Mtape, .int (nI Itaped), .int (nI Ifault), .int IfaultPlace, .int (nI Iat), .int (nI Isize), .int Isort, .int Iplace, .int Inumber, .long Iword, .ref MnName, .ref MnStep, .ref MnArg, .ref MnMany, .ref Mstep, .ref Marg, .ref Mmany, .ref Mopen, .ref Mvalues, .ref MnHasForm, .ref MhasForm, .int (nI Iform), .int (nI Iopens), .int (nI InUnits), .int Iunits, .int (nI IownUnits), .int (nI Ideep), .ref Masks, .ref MnLoud, .ref MnCliffAt, .ref MnSnow, .ref MnManAt, .ref MnVoice, .ref MnOn, .ref Mloud, .ref McliffAt, .ref MsnowTold, .ref MmanAt, .ref Mvoice, .ref Mon, .ref MnYes, .ref Myes, .int (nI InWords), .int (nI InCliffs), .int (nI InMen), .int (nI InStates), .int (nI InOns), .int InWind, .int InDraw, .int (nI Iwords), .int (nI Icliffs), .int (nI Imen), .int (nI Istates), .int Ions, .int IwindTold, .int InHasWind, .int InHasDraw, .ref Mnow, .ref Mcry, .ref Msnow, .ref Mecho, .int (nI IcryMany), .int IcallPlace, .int IcallVoice, .int Iwind, .int Ichance, .int (nI IechoMany2_8), .ref Mwere, .int (nI Iacts), .int (nI Iundone), .ref Mlies, .int (nI Ilain), .ref Mspots, .ref Msteps, .ref MfromState, .ref MbyWord, .ref Mqueue, .ref MsoundCliff, .ref MsoundLong, .ref MsoundCame, .ref MsoundTold, .ref MsoundUntold, .int (nI Isounds), .int Itime, .ref Mstands, .int IstandMany, .ref Mtally, .ref MhasBox, .ref Mboxes], wI (cy 1) Mstep 960 (Gstep), wI (cy 1) Marg 960 (Garg), wI (cy 1) Mmany 3 (Gmany), wI (cy 1) Mvalues 64 (Gvalues2_5), wI (cy 1) Masks 7 (Gasks2_6), wI (cy 3) MhasForm 3 (GhasForm), wI (cy 1) McliffAt 4 (GcliffAt), wI (cy 1) Msnow 4 (Gsnow), wI (cy 1) Mloud 8 (Gloud), wI (cy 1) Mcry 10 (Gcry), wI (cy 1) Mecho 20 (Gecho2_7)] hP9 hD9 hS9 (fun hP hD hS => ?_)
        clear hP9 hD9 hS9
        refine W.widen (k := 0) (n := 0) (Nat.le_of_ble_eq_true rfl) (Nat.le_of_ble_eq_true rfl) ?_
        change (IechoMany2_8 ≤ 20) ∧ (rng Gecho2_7 20 7) ∧ (IechoMany2_8 ≤ IcryMany) at hw4
        obtain ⟨f_9, f_10, f_11⟩ := hw4
        refine lv_aload_n hx hb dX12_bindsAtHand_17 rfl (lv_at hl 2 rfl) ?_
        refine va_get (D := D) (ci := 12) (v := .int (nI IechoMany2_8)) (C := RX12) (T := TX12) (N := 89) hx hb hg i_X12 hown hK hP 0 rfl rfl 66 (by decide) (hg _ m_1479) (fun _ h9 => h9) rfl dX12_bindsAtHand_18 ?_
        refine lv_if_le (tgt := 43) hx hb dX12_bindsAtHand_21 (by decide) (fun c_12 => ?_) (fun c_12 => ?_)
        · have q_13 : IechoMany2_8 ≤ 0 := q_le (a := IechoMany2_8) (b := 0) rfl rfl (by omega) (by omega) c_12
          refine lv_iinc (v := nI (k1 + 1)) (lv' := [(2, .int (nI (k1 + 1))), (1, .int be1), (0, .ref m0)]) hx hb dX12_bindsAtHand_43 hl (k := 0) rfl (nI_add k1 1) (by decide) rfl (fun ls hl => ?_)
          refine lv_goto (tgt := 4) hx hb dX12_bindsAtHand_46 (by decide) ?_
          exact ih1  be1 ((k1 + 1)) IechoMany2_8 Gecho2_7 Gasks2_6 Gvalues2_5 f_10 (by first | assumption | omega) (hf1_1) (by first | assumption | omega) (by omega) _ _ (hP.sub [0, 1, 2, 3, 4, 5, 6, 7, 8, 9, 10, 11] rfl) (hD.sub [0, 1, 2, 3, 4, 5, 6, 7, 8, 9, 10, 11] (by decide +kernel) rfl) hS ls (lv_sub hl [0, 1, 2] rfl)
        · have q_13 : 0 < IechoMany2_8 := q_nle (a := IechoMany2_8) (b := 0) rfl rfl (by omega) (by omega) c_12
          refine lv_iload_n hx hb dX12_bindsAtHand_24 rfl (lv_at hl 1 rfl) ?_
          refine lv_if_lt (tgt := 41) hx hb dX12_bindsAtHand_25 (by decide) (fun c_25 => ?_) (fun c_25 => ?_)
          · refine lv_iload_n hx hb dX12_bindsAtHand_41 rfl (lv_at hl 0 rfl) ?_
            refine lv_istore_n (lv' := [(1, .int (nI k1)), (2, .int (nI k1)), (0, .ref m0)]) hx hb dX12_bindsAtHand_42 rfl hl (by decide) rfl (fun ls hl => ?_)
            refine lv_iinc (v := nI (k1 + 1)) (lv' := [(2, .int (nI (k1 + 1))), (1, .int (nI k1)), (0, .ref m0)]) hx hb dX12_bindsAtHand_43 hl (k := 1) rfl (nI_add k1 1) (by decide) rfl (fun ls hl => ?_)
            refine lv_goto (tgt := 4) hx hb dX12_bindsAtHand_46 (by decide) ?_
            exact ih1  (nI k1) ((k1 + 1)) IechoMany2_8 Gecho2_7 Gasks2_6 Gvalues2_5 f_10 (by first | assumption | omega) (Or.inr ⟨k1, by omega, rfl⟩) (by first | assumption | omega) (by omega) _ _ (hP.sub [0, 1, 2, 3, 4, 5, 6, 7, 8, 9, 10, 11] rfl) (hD.sub [0, 1, 2, 3, 4, 5, 6, 7, 8, 9, 10, 11] (by decide +kernel) rfl) hS ls (lv_sub hl [0, 1, 2] rfl)
          · obtain ⟨j_14, hj_14, ej_14⟩ := hf1_1.resolve_left (fun h9 => c_25 (by rw [h9]; decide))
            subst ej_14
            refine lv_aload_n hx hb dX12_bindsAtHand_28 rfl (lv_at hl 2 rfl) ?_
            refine lv_iload_n hx hb dX12_bindsAtHand_29 rfl (lv_at hl 0 rfl) ?_
            refine x_callVi (q := (RX12, TX12, 89)) (ci := 12) (q0 := 0) (wr := [wI (cy 1) Mstep 960 (Gstep), wI (cy 1) Marg 960 (Garg), wI (cy 1) Mmany 3 (Gmany), wI (cy 1) Mvalues 64 (Gvalues2_5), wI (cy 1) Masks 7 (Gasks2_6), wI (cy 3) MhasForm 3 (GhasForm), wI (cy 1) Msnow 4 (Gsnow), wI (cy 1) Mloud 8 (Gloud), wI (cy 1) Mcry 10 (Gcry), wI (cy 1) Mecho 20 (Gecho2_7)]) (rest := []) ⟨hx, hb, hml, hown, hg, hl.1⟩ k_X12_474 (r_farOf l D cy m0 Mtape MnName MnStep MnArg MnMany Mstep Marg Mmany Mopen Mvalues MnHasForm MhasForm Masks MnLoud MnCliffAt MnSnow MnManAt MnVoice MnOn Mloud McliffAt MsnowTold MmanAt Mvoice Mon MnYes Myes Mnow Mcry Msnow Mecho Mwere Mlies Mspots Msteps MfromState MbyWord Mqueue MsoundCliff MsoundLong MsoundCame MsoundTold MsoundUntold Mstands Mtally MhasBox Mboxes Itaped Ifault IfaultPlace Iat Isize Isort Iplace Inumber Iword Iform Iopens InUnits Iunits IownUnits Ideep GcliffAt InWords InCliffs InMen InStates InOns InWind InDraw Iwords Icliffs Imen Istates Ions IwindTold InHasWind InHasDraw IcryMany IcallPlace IcallVoice Iwind Ichance IechoMany2_8 Iacts Iundone Ilain Isounds Itime IstandMany k1 (by first | assumption | omega) (by first | assumption | omega) (by first | assumption | omega) (by first | assumption | omega) (by first | assumption | omega) (by first | assumption | omega) (by first | assumption | omega) (by first | assumption | omega) (by first | assumption | omega) (by first | assumption | omega) (by first | assumption | omega) (by first | assumption | omega) (by first | assumption | omega) (by first | assumption | omega) (by first | assumption | omega) (by first | assumption | omega) (by first | assumption | omega) (by first | assumption | omega) (by first | assumption | omega) (by first | assumption | omega) (by first | assumption | omega) (by first | assumption | omega) (by first | assumption | omega) (by first | assumption | omega)) E0_blind hK hP hD hS hA [0, 7] [1, 2, 3, 4, 5, 6, 8, 9, 10, 11] ⟨rfl, rfl, by decide +kernel, by decide +kernel, by decide +kernel⟩ rfl rfl (fun _ _ _ => trivial) dX12_bindsAtHand_30 rfl rfl (Nat.le_of_ble_eq_true rfl) ⟨Nat.le_of_ble_eq_true rfl, Nat.le_of_ble_eq_true rfl⟩ ⟨Nat.le_of_ble_eq_true rfl, Nat.le_of_ble_eq_true rfl⟩ (fun zr15 zu15 H locs hw15 hP9 hD9 hS9 => ?_)
            clear hP hD hS
            refine reW [wI (cy 1) Mstep 960 (Gstep), wI (cy 1) Marg 960 (Garg), wI (cy 1) Mmany 3 (Gmany), wI (cy 1) Mvalues 64 (Gvalues2_5), wI (cy 1) Masks 7 (Gasks2_6), wI (cy 3) MhasForm 3 (GhasForm), wI (cy 1) Msnow 4 (Gsnow), wI (cy 1) Mloud 8 (Gloud), wI (cy 1) Mcry 10 (Gcry), wI (cy 1) Mecho 20 (Gecho2_7), wO m0 12 [.ref Mtape, .int (nI Itaped), .int (nI Ifault), .int IfaultPlace, .int (nI Iat), .int (nI Isize), .int Isort, .int Iplace, .int Inumber, .long Iword, .ref MnName, .ref MnStep, .ref MnArg, .ref MnMany, .ref Mstep, .ref Marg, .ref Mmany, .ref Mopen, .ref Mvalues, .ref MnHasForm, .ref MhasForm, .int (nI Iform), .int (nI Iopens), .int (nI InUnits), .int Iunits, .int (nI IownUnits), .int (nI Ideep), .ref Masks, .ref MnLoud, .ref MnCliffAt, .ref MnSnow, .ref MnManAt, .ref MnVoice, .ref MnOn, .ref Mloud, .ref McliffAt, .ref MsnowTold, .ref MmanAt, .ref Mvoice, .ref Mon, .ref MnYes, .ref Myes, .int (nI InWords), .int (nI InCliffs), .int (nI InMen), .int (nI InStates), .int (nI InOns), .int InWind, .int InDraw, .int (nI Iwords), .int (nI Icliffs), .int (nI Imen), .int (nI Istates), .int Ions, .int IwindTold, .int InHasWind, .int InHasDraw, .ref Mnow, .ref Mcry, .ref Msnow, .ref Mecho, .int (nI IcryMany), .int IcallPlace, .int IcallVoice, .int Iwind, .int Ichance, .int (nI IechoMany2_8), .ref Mwere, .int (nI Iacts), .int (nI Iundone), .ref Mlies, .int (nI Ilain), .ref Mspots, .ref Msteps, .ref MfromState, .ref MbyWord, .ref Mqueue, .ref MsoundCliff, .ref MsoundLong, .ref MsoundCame, .ref MsoundTold, .ref MsoundUntold, .int (nI Isounds), .int Itime, .ref Mstands, .int IstandMany, .ref Mtally, .ref MhasBox, .ref Mboxes], wI (cy 1) McliffAt 4 (GcliffAt)] hP9 hD9 hS9 (fun hP hD hS => ?_)
            clear hP9 hD9 hS9
            refine W.widen (k := 0) (n := 0) (Nat.le_of_ble_eq_true rfl) (Nat.le_of_ble_eq_true rfl) ?_
            change True at hw15
            refine lv_aload_n hx hb dX12_bindsAtHand_33 rfl (lv_at hl 2 rfl) ?_
            refine lv_iload_n hx hb dX12_bindsAtHand_34 rfl (lv_at hl 1 rfl) ?_
            refine x_callVi (q := (RX12, TX12, 89)) (ci := 12) (q0 := 0) (wr := [wI (cy 1) Mstep 960 (Gstep), wI (cy 1) Marg 960 (Garg), wI (cy 1) Mmany 3 (Gmany), wI (cy 1) Mvalues 64 (Gvalues2_5), wI (cy 1) Masks 7 (Gasks2_6), wI (cy 3) MhasForm 3 (GhasForm), wI (cy 1) Msnow 4 (Gsnow), wI (cy 1) Mloud 8 (Gloud), wI (cy 1) Mcry 10 (Gcry), wI (cy 1) Mecho 20 (Gecho2_7)]) (rest := [.int zr15]) ⟨hx, hb, hml, hown, hg, hl.1⟩ k_X12_474 (r_farOf l D cy m0 Mtape MnName MnStep MnArg MnMany Mstep Marg Mmany Mopen Mvalues MnHasForm MhasForm Masks MnLoud MnCliffAt MnSnow MnManAt MnVoice MnOn Mloud McliffAt MsnowTold MmanAt Mvoice Mon MnYes Myes Mnow Mcry Msnow Mecho Mwere Mlies Mspots Msteps MfromState MbyWord Mqueue MsoundCliff MsoundLong MsoundCame MsoundTold MsoundUntold Mstands Mtally MhasBox Mboxes Itaped Ifault IfaultPlace Iat Isize Isort Iplace Inumber Iword Iform Iopens InUnits Iunits IownUnits Ideep GcliffAt InWords InCliffs InMen InStates InOns InWind InDraw Iwords Icliffs Imen Istates Ions IwindTold InHasWind InHasDraw IcryMany IcallPlace IcallVoice Iwind Ichance IechoMany2_8 Iacts Iundone Ilain Isounds Itime IstandMany j_14 (by first | assumption | omega) (by first | assumption | omega) (by first | assumption | omega) (by first | assumption | omega) (by first | assumption | omega) (by first | assumption | omega) (by first | assumption | omega) (by first | assumption | omega) (by first | assumption | omega) (by first | assumption | omega) (by first | assumption | omega) (by first | assumption | omega) (by first | assumption | omega) (by first | assumption | omega) (by first | assumption | omega) (by first | assumption | omega) (by first | assumption | omega) (by first | assumption | omega) (by first | assumption | omega) (by first | assumption | omega) (by first | assumption | omega) (by first | assumption | omega) (by first | assumption | omega) (by first | assumption | omega)) E0_blind hK hP hD hS hA [10, 11] [0, 1, 2, 3, 4, 5, 6, 7, 8, 9] ⟨rfl, rfl, by decide +kernel, by decide +kernel, by decide +kernel⟩ rfl rfl (fun _ _ _ => trivial) dX12_bindsAtHand_35 rfl rfl (Nat.le_of_ble_eq_true rfl) ⟨Nat.le_of_ble_eq_true rfl, Nat.le_of_ble_eq_true rfl⟩ ⟨Nat.le_of_ble_eq_true rfl, Nat.le_of_ble_eq_true rfl⟩ (fun zr16 zu16 H locs hw16 hP9 hD9 hS9 => ?_)
            clear hP hD hS
            refine reW [wI (cy 1) Mstep 960 (Gstep), wI (cy 1) Marg 960 (Garg), wI (cy 1) Mmany 3 (Gmany), wI (cy 1) Mvalues 64 (Gvalues2_5), wI (cy 1) Masks 7 (Gasks2_6), wI (cy 3) MhasForm 3 (GhasForm), wI (cy 1) Msnow 4 (Gsnow), wI (cy 1) Mloud 8 (Gloud), wI (cy 1) Mcry 10 (Gcry), wI (cy 1) Mecho 20 (Gecho2_7), wO m0 12 [.ref Mtape, .int (nI Itaped), .int (nI Ifault), .int IfaultPlace, .int (nI Iat), .int (nI Isize), .int Isort, .int Iplace, .int Inumber, .long Iword, .ref MnName, .ref MnStep, .ref MnArg, .ref MnMany, .ref Mstep, .ref Marg, .ref Mmany, .ref Mopen, .ref Mvalues, .ref MnHasForm, .ref MhasForm, .int (nI Iform), .int (nI Iopens), .int (nI InUnits), .int Iunits, .int (nI IownUnits), .int (nI Ideep), .ref Masks, .ref MnLoud, .ref MnCliffAt, .ref MnSnow, .ref MnManAt, .ref MnVoice, .ref MnOn, .ref Mloud, .ref McliffAt, .ref MsnowTold, .ref MmanAt, .ref Mvoice, .ref Mon, .ref MnYes, .ref Myes, .int (nI InWords), .int (nI InCliffs), .int (nI InMen), .int (nI InStates), .int (nI InOns), .int InWind, .int InDraw, .int (nI Iwords), .int (nI Icliffs), .int (nI Imen), .int (nI Istates), .int Ions, .int IwindTold, .int InHasWind, .int InHasDraw, .ref Mnow, .ref Mcry, .ref Msnow, .ref Mecho, .int (nI IcryMany), .int IcallPlace, .int IcallVoice, .int Iwind, .int Ichance, .int (nI IechoMany2_8), .ref Mwere, .int (nI Iacts), .int (nI Iundone), .ref Mlies, .int (nI Ilain), .ref Mspots, .ref Msteps, .ref MfromState, .ref MbyWord, .ref Mqueue, .ref MsoundCliff, .ref MsoundLong, .ref MsoundCame, .ref MsoundTold, .ref MsoundUntold, .int (nI Isounds), .int Itime, .ref Mstands, .int IstandMany, .ref Mtally, .ref MhasBox, .ref Mboxes], wI (cy 1) McliffAt 4 (GcliffAt)] hP9 hD9 hS9 (fun hP hD hS => ?_)
            clear hP9 hD9 hS9
            refine W.widen (k := 0) (n := 0) (Nat.le_of_ble_eq_true rfl) (Nat.le_of_ble_eq_true rfl) ?_
            change True at hw16
            refine lv_icmp_ge (tgt := 43) hx hb dX12_bindsAtHand_38 (by decide) (fun c_38 => ?_) (fun c_38 => ?_)
            · refine lv_iinc (v := nI (k1 + 1)) (lv' := [(2, .int (nI (k1 + 1))), (1, .int (nI j_14)), (0, .ref m0)]) hx hb dX12_bindsAtHand_43 hl (k := 0) rfl (nI_add k1 1) (by decide) rfl (fun ls hl => ?_)
              refine lv_goto (tgt := 4) hx hb dX12_bindsAtHand_46 (by decide) ?_
              exact ih1  (nI j_14) ((k1 + 1)) IechoMany2_8 Gecho2_7 Gasks2_6 Gvalues2_5 f_10 (by first | assumption | omega) (Or.inr ⟨j_14, by omega, rfl⟩) (by first | assumption | omega) (by omega) _ _ (hP.sub [10, 0, 1, 2, 3, 4, 5, 11, 6, 7, 8, 9] rfl) (hD.sub [10, 0, 1, 2, 3, 4, 5, 11, 6, 7, 8, 9] (by decide +kernel) rfl) hS ls (lv_sub hl [0, 1, 2] rfl)
            · refine lv_iload_n hx hb dX12_bindsAtHand_41 rfl (lv_at hl 0 rfl) ?_
              refine lv_istore_n (lv' := [(1, .int (nI k1)), (2, .int (nI k1)), (0, .ref m0)]) hx hb dX12_bindsAtHand_42 rfl hl (by decide) rfl (fun ls hl => ?_)
              refine lv_iinc (v := nI (k1 + 1)) (lv' := [(2, .int (nI (k1 + 1))), (1, .int (nI k1)), (0, .ref m0)]) hx hb dX12_bindsAtHand_43 hl (k := 1) rfl (nI_add k1 1) (by decide) rfl (fun ls hl => ?_)
              refine lv_goto (tgt := 4) hx hb dX12_bindsAtHand_46 (by decide) ?_
              exact ih1  (nI k1) ((k1 + 1)) IechoMany2_8 Gecho2_7 Gasks2_6 Gvalues2_5 f_10 (by first | assumption | omega) (Or.inr ⟨k1, by omega, rfl⟩) (by first | assumption | omega) (by omega) _ _ (hP.sub [10, 0, 1, 2, 3, 4, 5, 11, 6, 7, 8, 9] rfl) (hD.sub [10, 0, 1, 2, 3, 4, 5, 11, 6, 7, 8, 9] (by decide +kernel) rfl) hS ls (lv_sub hl [0, 1, 2] rfl)
  exact loop1 _ (-1) 0 IechoMany Gecho Gasks Gvalues gech (by first | assumption | omega) (Or.inl rfl) (by first | assumption | omega) (Nat.le_refl _) _ _ (hP.sub [0, 1, 2, 3, 4, 5, 6, 7, 8, 9, 10, 11] rfl) (hD.sub [0, 1, 2, 3, 4, 5, 6, 7, 8, 9, 10, 11] (by decide +kernel) rfl) hS ls (lv_sub hl [0, 1, 2] rfl)
theorem dX12_verdict_0 : decode cX12_verdict 0 = .ok (.aload_n 0, 1) := by decide +kernel
theorem dX12_verdict_1 : decode cX12_verdict 1 = .ok (.invokevirtual 497, 3) := by decide +kernel
theorem k_X12_497 : xV RX12 RX12 497 yX12_bindsAtHand cX12_bindsAtHand 3 (some .int) 0 := ⟨⟨m_1944, m_1946, m_107, m_146, m_1947⟩, rfl, by decide, by decide, by decide +kernel⟩
theorem gdX12_verdict_4 : decode cX12_verdict 4 = .ok (.istore_n 1, 1) ∧ decode cX12_verdict 5 = .ok (.iload_n 1, 1) ∧ decode cX12_verdict 6 = .ok (.ifCond .ge 5, 3) ∧ decode cX12_verdict 11 = .ok (.aload_n 0, 1) ∧ decode cX12_verdict 12 = .ok (.iload_n 1, 1) ∧ decode cX12_verdict 13 = .ok (.invokevirtual 494, 3) ∧ decode cX12_verdict 16 = .ok (.iconst 1, 1) ∧ decode cX12_verdict 17 = .ok (.aload_n 0, 1) ∧ decode cX12_verdict 18 = .ok (.invokevirtual 500, 3) := by decide +kernel
theorem dX12_verdict_4 : decode cX12_verdict 4 = .ok (.istore_n 1, 1) := gdX12_verdict_4.1
theorem dX12_verdict_5 : decode cX12_verdict 5 = .ok (.iload_n 1, 1) := gdX12_verdict_4.2.1
theorem dX12_verdict_6 : decode cX12_verdict 6 = .ok (.ifCond .ge 5, 3) := gdX12_verdict_4.2.2.1
theorem dX12_verdict_11 : decode cX12_verdict 11 = .ok (.aload_n 0, 1) := gdX12_verdict_4.2.2.2.1
theorem dX12_verdict_12 : decode cX12_verdict 12 = .ok (.iload_n 1, 1) := gdX12_verdict_4.2.2.2.2.1
theorem dX12_verdict_13 : decode cX12_verdict 13 = .ok (.invokevirtual 494, 3) := gdX12_verdict_4.2.2.2.2.2.1
theorem dX12_verdict_16 : decode cX12_verdict 16 = .ok (.iconst 1, 1) := gdX12_verdict_4.2.2.2.2.2.2.1
theorem dX12_verdict_17 : decode cX12_verdict 17 = .ok (.aload_n 0, 1) := gdX12_verdict_4.2.2.2.2.2.2.2.1
theorem dX12_verdict_18 : decode cX12_verdict 18 = .ok (.invokevirtual 500, 3) := gdX12_verdict_4.2.2.2.2.2.2.2.2
theorem k_X12_500 : xV RX12 RX12 500 yX12_isYes cX12_isYes 3 (some .boolean) 0 := ⟨⟨m_1985, m_1987, m_115, m_146, m_1988⟩, rfl, by decide, by decide, by decide +kernel⟩
theorem gdX12_verdict_21 : decode cX12_verdict 21 = .ok (.invokestatic 333, 3) ∧ decode cX12_verdict 24 = .ok (.iadd, 1) ∧ decode cX12_verdict 25 = .ok (.ireturn, 1) ∧ decode cX12_verdict 9 = .ok (.iconst 0, 1) ∧ decode cX12_verdict 10 = .ok (.ireturn, 1) := by decide +kernel
theorem dX12_verdict_21 : decode cX12_verdict 21 = .ok (.invokestatic 333, 3) := gdX12_verdict_21.1
theorem dX12_verdict_24 : decode cX12_verdict 24 = .ok (.iadd, 1) := gdX12_verdict_21.2.1
theorem dX12_verdict_25 : decode cX12_verdict 25 = .ok (.ireturn, 1) := gdX12_verdict_21.2.2.1
theorem dX12_verdict_9 : decode cX12_verdict 9 = .ok (.iconst 0, 1) := gdX12_verdict_21.2.2.2.1
theorem dX12_verdict_10 : decode cX12_verdict 10 = .ok (.ireturn, 1) := gdX12_verdict_21.2.2.2.2
set_option maxHeartbeats 1000000 in
set_option maxRecDepth 100000 in
theorem r_verdict (l : Launch) (D : va_G) (cy : Nat → ClassId) (m0 : Nat) (Mtape : Nat) (MnName : Nat) (MnStep : Nat) (MnArg : Nat) (MnMany : Nat) (Mstep : Nat) (Marg : Nat) (Mmany : Nat) (Mopen : Nat) (Mvalues : Nat) (MnHasForm : Nat) (MhasForm : Nat) (Masks : Nat) (MnLoud : Nat) (MnCliffAt : Nat) (MnSnow : Nat) (MnManAt : Nat) (MnVoice : Nat) (MnOn : Nat) (Mloud : Nat) (McliffAt : Nat) (MsnowTold : Nat) (MmanAt : Nat) (Mvoice : Nat) (Mon : Nat) (MnYes : Nat) (Myes : Nat) (Mnow : Nat) (Mcry : Nat) (Msnow : Nat) (Mecho : Nat) (Mwere : Nat) (Mlies : Nat) (Mspots : Nat) (Msteps : Nat) (MfromState : Nat) (MbyWord : Nat) (Mqueue : Nat) (MsoundCliff : Nat) (MsoundLong : Nat) (MsoundCame : Nat) (MsoundTold : Nat) (MsoundUntold : Nat) (Mstands : Nat) (Mtally : Nat) (MhasBox : Nat) (Mboxes : Nat) (Itaped : Nat) (Ifault : Nat) (IfaultPlace : Int32) (Iat : Nat) (Isize : Nat) (Isort : Int32) (Iplace : Int32) (Inumber : Int32) (Iword : Int64) (Gstep : Nat → Int32) (Garg : Nat → Int32) (Gmany : Nat → Int32) (Gvalues : Nat → Int32) (GhasForm : Nat → Int32) (Iform : Nat) (Iopens : Nat) (InUnits : Nat) (Iunits : Int32) (IownUnits : Nat) (Ideep : Nat) (Gasks : Nat → Int32) (Gloud : Nat → Int32) (GcliffAt : Nat → Int32) (Gon : Nat → Int32) (Gyes : Nat → Int32) (InWords : Nat) (InCliffs : Nat) (InMen : Nat) (InStates : Nat) (InOns : Nat) (InWind : Int32) (InDraw : Int32) (Iwords : Nat) (Icliffs : Nat) (Imen : Nat) (Istates : Nat) (Ions : Int32) (IwindTold : Int32) (InHasWind : Int32) (InHasDraw : Int32) (Gcry : Nat → Int32) (Gsnow : Nat → Int32) (Gecho : Nat → Int32) (IcryMany : Nat) (IcallPlace : Int32) (IcallVoice : Int32) (Iwind : Int32) (Ichance : Int32) (IechoMany : Nat) (Iacts : Nat) (Iundone : Nat) (Ilain : Nat) (Isounds : Nat) (Itime : Int32) (IstandMany : Int32) (am : Nat → Nat) (AH : Nat → Nat → Nat) (gtp : Itaped ≤ 1600) (gat : Iat ≤ Isize) (gsz : Isize ≤ 1600) (gfl : Ifault ≤ 5) (gfo : Iform ≤ 2) (gnw : InWords ≤ 8) (gnc : InCliffs ≤ 4) (gnm : InMen ≤ 4) (gns : InStates ≤ 6) (gw : Iwords ≤ 8) (gc9 : Icliffs ≤ 4) (gm : Imen ≤ 4) (gs : Istates ≤ 6) (gcm : IcryMany ≤ 10) (gem : IechoMany ≤ 20) (gau : Iacts + Iundone ≤ 40) (gla : Ilain ≤ 20) (gso : Isounds ≤ 30) (gop : Iopens ≤ 40) (gde : Ideep ≤ 8) (gou : IownUnits ≤ 31) (gnu : InUnits ≤ 61) (gno : InOns ≤ 30) (gcry : rng Gcry 10 7) (gech : rng Gecho 20 7) (gon : nxT Gon) (gal2 : allR Gstep Garg Gmany am AH) : XMi l D (tyL cy) E0 yX12_verdict cX12_verdict 2 (some .int) (rmk 7 0 0) [.ref m0] [wO m0 12 [.ref Mtape, .int (nI Itaped), .int (nI Ifault), .int IfaultPlace, .int (nI Iat), .int (nI Isize), .int Isort, .int Iplace, .int Inumber, .long Iword, .ref MnName, .ref MnStep, .ref MnArg, .ref MnMany, .ref Mstep, .ref Marg, .ref Mmany, .ref Mopen, .ref Mvalues, .ref MnHasForm, .ref MhasForm, .int (nI Iform), .int (nI Iopens), .int (nI InUnits), .int Iunits, .int (nI IownUnits), .int (nI Ideep), .ref Masks, .ref MnLoud, .ref MnCliffAt, .ref MnSnow, .ref MnManAt, .ref MnVoice, .ref MnOn, .ref Mloud, .ref McliffAt, .ref MsnowTold, .ref MmanAt, .ref Mvoice, .ref Mon, .ref MnYes, .ref Myes, .int (nI InWords), .int (nI InCliffs), .int (nI InMen), .int (nI InStates), .int (nI InOns), .int InWind, .int InDraw, .int (nI Iwords), .int (nI Icliffs), .int (nI Imen), .int (nI Istates), .int Ions, .int IwindTold, .int InHasWind, .int InHasDraw, .ref Mnow, .ref Mcry, .ref Msnow, .ref Mecho, .int (nI IcryMany), .int IcallPlace, .int IcallVoice, .int Iwind, .int Ichance, .int (nI IechoMany), .ref Mwere, .int (nI Iacts), .int (nI Iundone), .ref Mlies, .int (nI Ilain), .ref Mspots, .ref Msteps, .ref MfromState, .ref MbyWord, .ref Mqueue, .ref MsoundCliff, .ref MsoundLong, .ref MsoundCame, .ref MsoundTold, .ref MsoundUntold, .int (nI Isounds), .int Itime, .ref Mstands, .int IstandMany, .ref Mtally, .ref MhasBox, .ref Mboxes], wI (cy 1) Mstep 960 (Gstep), wI (cy 1) Marg 960 (Garg), wI (cy 1) Mmany 3 (Gmany), wI (cy 1) Mvalues 64 (Gvalues), wI (cy 1) Masks 7 (Gasks), wI (cy 3) MhasForm 3 (GhasForm), wI (cy 1) McliffAt 4 (GcliffAt), wI (cy 1) Msnow 4 (Gsnow), wI (cy 1) Mloud 8 (Gloud), wI (cy 1) Mcry 10 (Gcry), wI (cy 1) Mecho 20 (Gecho), wI (cy 1) Mon 48 (Gon), wI (cy 3) Myes 6 (Gyes)] (fun (r : Int32) (u : (Nat → Int32) × (Nat → Int32) × (Nat → Int32) × Nat × Nat) => (r = nI u.2.2.2.2) ∧ (u.2.2.2.1 ≤ 20) ∧ (rng u.2.2.1 20 7) ∧ (u.2.2.2.2 ≤ 2)) (fun (u : (Nat → Int32) × (Nat → Int32) × (Nat → Int32) × Nat × Nat) => [wO m0 12 [.ref Mtape, .int (nI Itaped), .int (nI Ifault), .int IfaultPlace, .int (nI Iat), .int (nI Isize), .int Isort, .int Iplace, .int Inumber, .long Iword, .ref MnName, .ref MnStep, .ref MnArg, .ref MnMany, .ref Mstep, .ref Marg, .ref Mmany, .ref Mopen, .ref Mvalues, .ref MnHasForm, .ref MhasForm, .int (nI Iform), .int (nI Iopens), .int (nI InUnits), .int Iunits, .int (nI IownUnits), .int (nI Ideep), .ref Masks, .ref MnLoud, .ref MnCliffAt, .ref MnSnow, .ref MnManAt, .ref MnVoice, .ref MnOn, .ref Mloud, .ref McliffAt, .ref MsnowTold, .ref MmanAt, .ref Mvoice, .ref Mon, .ref MnYes, .ref Myes, .int (nI InWords), .int (nI InCliffs), .int (nI InMen), .int (nI InStates), .int (nI InOns), .int InWind, .int InDraw, .int (nI Iwords), .int (nI Icliffs), .int (nI Imen), .int (nI Istates), .int Ions, .int IwindTold, .int InHasWind, .int InHasDraw, .ref Mnow, .ref Mcry, .ref Msnow, .ref Mecho, .int (nI IcryMany), .int IcallPlace, .int IcallVoice, .int Iwind, .int Ichance, .int (nI u.2.2.2.1), .ref Mwere, .int (nI Iacts), .int (nI Iundone), .ref Mlies, .int (nI Ilain), .ref Mspots, .ref Msteps, .ref MfromState, .ref MbyWord, .ref Mqueue, .ref MsoundCliff, .ref MsoundLong, .ref MsoundCame, .ref MsoundTold, .ref MsoundUntold, .int (nI Isounds), .int Itime, .ref Mstands, .int IstandMany, .ref Mtally, .ref MhasBox, .ref Mboxes], wI (cy 1) Mstep 960 (Gstep), wI (cy 1) Marg 960 (Garg), wI (cy 1) Mmany 3 (Gmany), wI (cy 1) Mvalues 64 (u.1), wI (cy 1) Masks 7 (u.2.1), wI (cy 3) MhasForm 3 (GhasForm), wI (cy 1) McliffAt 4 (GcliffAt), wI (cy 1) Msnow 4 (Gsnow), wI (cy 1) Mloud 8 (Gloud), wI (cy 1) Mcry 10 (Gcry), wI (cy 1) Mecho 20 (u.2.2.1), wI (cy 1) Mon 48 (Gon), wI (cy 3) Myes 6 (Gyes)]) := by
  refine XMi.start (by decide) (Nat.le_of_ble_eq_true rfl) ?_
  intro p e s m below meth c args A ls Q hat hQ
  obtain ⟨hx, hb, hr, hml, hown, hg, hlocks, hin, hK, hA, hP, hD, hS, hE, hl⟩ := hat
  have hown : s.vm.findClass RX12 = some m.cls := hown
  have hl : lv_has ls 2 [(0, .ref m0)] := hl
  refine lv_aload_n hx hb dX12_verdict_0 rfl (lv_at hl 0 rfl) ?_
  refine x_callVi (q := (RX12, TX12, 89)) (ci := 12) (q0 := 0) (wr := [wI (cy 1) Mon 48 (Gon), wI (cy 3) Myes 6 (Gyes)]) (rest := []) ⟨hx, hb, hml, hown, hg, hl.1⟩ k_X12_497 (r_bindsAtHand l D cy m0 Mtape MnName MnStep MnArg MnMany Mstep Marg Mmany Mopen Mvalues MnHasForm MhasForm Masks MnLoud MnCliffAt MnSnow MnManAt MnVoice MnOn Mloud McliffAt MsnowTold MmanAt Mvoice Mon MnYes Myes Mnow Mcry Msnow Mecho Mwere Mlies Mspots Msteps MfromState MbyWord Mqueue MsoundCliff MsoundLong MsoundCame MsoundTold MsoundUntold Mstands Mtally MhasBox Mboxes Itaped Ifault IfaultPlace Iat Isize Isort Iplace Inumber Iword Gstep Garg Gmany Gvalues GhasForm Iform Iopens InUnits Iunits IownUnits Ideep Gasks Gloud GcliffAt InWords InCliffs InMen InStates InOns InWind InDraw Iwords Icliffs Imen Istates Ions IwindTold InHasWind InHasDraw Gcry Gsnow Gecho IcryMany IcallPlace IcallVoice Iwind Ichance IechoMany Iacts Iundone Ilain Isounds Itime IstandMany am AH (by first | assumption | omega) (by first | assumption | omega) (by first | assumption | omega) (by first | assumption | omega) (by first | assumption | omega) (by first | assumption | omega) (by first | assumption | omega) (by first | assumption | omega) (by first | assumption | omega) (by first | assumption | omega) (by first | assumption | omega) (by first | assumption | omega) (by first | assumption | omega) (by first | assumption | omega) (by first | assumption | omega) (by first | assumption | omega) (by first | assumption | omega) (by first | assumption | omega) (by first | assumption | omega) (by first | assumption | omega) (by first | assumption | omega) (by first | assumption | omega) (by first | assumption | omega) (gcry) (gech) (gal2)) E0_blind hK hP hD hS hA [0, 1, 2, 3, 4, 5, 6, 7, 8, 9, 10, 11] [12, 13] ⟨rfl, rfl, by decide +kernel, by decide +kernel, by decide +kernel⟩ rfl rfl (fun _ _ _ => trivial) dX12_verdict_1 rfl rfl (Nat.le_of_ble_eq_true rfl) ⟨Nat.le_of_ble_eq_true rfl, Nat.le_of_ble_eq_true rfl⟩ ⟨Nat.le_of_ble_eq_true rfl, Nat.le_of_ble_eq_true rfl⟩ (fun zr1 zu1 H locs hw1 hP9 hD9 hS9 => ?_)
  clear hP hD hS
  obtain ⟨Gvalues2_2, Gasks2_3, Gecho2_4, IechoMany2_5⟩ := zu1
  refine reW [wI (cy 1) Mon 48 (Gon), wI (cy 3) Myes 6 (Gyes), wO m0 12 [.ref Mtape, .int (nI Itaped), .int (nI Ifault), .int IfaultPlace, .int (nI Iat), .int (nI Isize), .int Isort, .int Iplace, .int Inumber, .long Iword, .ref MnName, .ref MnStep, .ref MnArg, .ref MnMany, .ref Mstep, .ref Marg, .ref Mmany, .ref Mopen, .ref Mvalues, .ref MnHasForm, .ref MhasForm, .int (nI Iform), .int (nI Iopens), .int (nI InUnits), .int Iunits, .int (nI IownUnits), .int (nI Ideep), .ref Masks, .ref MnLoud, .ref MnCliffAt, .ref MnSnow, .ref MnManAt, .ref MnVoice, .ref MnOn, .ref Mloud, .ref McliffAt, .ref MsnowTold, .ref MmanAt, .ref Mvoice, .ref Mon, .ref MnYes, .ref Myes, .int (nI InWords), .int (nI InCliffs), .int (nI InMen), .int (nI InStates), .int (nI InOns), .int InWind, .int InDraw, .int (nI Iwords), .int (nI Icliffs), .int (nI Imen), .int (nI Istates), .int Ions, .int IwindTold, .int InHasWind, .int InHasDraw, .ref Mnow, .ref Mcry, .ref Msnow, .ref Mecho, .int (nI IcryMany), .int IcallPlace, .int IcallVoice, .int Iwind, .int Ichance, .int (nI IechoMany2_5), .ref Mwere, .int (nI Iacts), .int (nI Iundone), .ref Mlies, .int (nI Ilain), .ref Mspots, .ref Msteps, .ref MfromState, .ref MbyWord, .ref Mqueue, .ref MsoundCliff, .ref MsoundLong, .ref MsoundCame, .ref MsoundTold, .ref MsoundUntold, .int (nI Isounds), .int Itime, .ref Mstands, .int IstandMany, .ref Mtally, .ref MhasBox, .ref Mboxes], wI (cy 1) Mstep 960 (Gstep), wI (cy 1) Marg 960 (Garg), wI (cy 1) Mmany 3 (Gmany), wI (cy 1) Mvalues 64 (Gvalues2_2), wI (cy 1) Masks 7 (Gasks2_3), wI (cy 3) MhasForm 3 (GhasForm), wI (cy 1) McliffAt 4 (GcliffAt), wI (cy 1) Msnow 4 (Gsnow), wI (cy 1) Mloud 8 (Gloud), wI (cy 1) Mcry 10 (Gcry), wI (cy 1) Mecho 20 (Gecho2_4)] hP9 hD9 hS9 (fun hP hD hS => ?_)
  clear hP9 hD9 hS9
  refine W.widen (k := 0) (n := 0) (Nat.le_of_ble_eq_true rfl) (Nat.le_of_ble_eq_true rfl) ?_
  change (IechoMany2_5 ≤ 20) ∧ (rng Gecho2_4 20 7) ∧ (zr1 = -1 ∨ ∃ j9 : Nat, j9 < Icliffs ∧ zr1 = nI j9) at hw1
  obtain ⟨f_6, f_7, f_8⟩ := hw1
  refine lv_istore_n (lv' := [(1, .int zr1), (0, .ref m0)]) hx hb dX12_verdict_4 rfl hl (by decide) rfl (fun ls hl => ?_)
  refine lv_iload_n hx hb dX12_verdict_5 rfl (lv_at hl 0 rfl) ?_
  refine lv_if_ge (tgt := 11) hx hb dX12_verdict_6 (by decide) (fun c_6 => ?_) (fun c_6 => ?_)
  · obtain ⟨j_9, hj_9, ej_9⟩ := f_8.resolve_left (fun h9 => absurd c_6 (by rw [h9]; decide))
    subst ej_9
    refine lv_aload_n hx hb dX12_verdict_11 rfl (lv_at hl 1 rfl) ?_
    refine lv_iload_n hx hb dX12_verdict_12 rfl (lv_at hl 0 rfl) ?_
    refine x_callVv (q := (RX12, TX12, 89)) (ci := 12) (q0 := 0) (wr := [wI (cy 1) Mon 48 (Gon), wI (cy 3) Myes 6 (Gyes)]) (rest := []) ⟨hx, hb, hml, hown, hg, hl.1⟩ k_X12_494 (r_sendFrom l D cy m0 Mtape MnName MnStep MnArg MnMany Mstep Marg Mmany Mopen Mvalues MnHasForm MhasForm Masks MnLoud MnCliffAt MnSnow MnManAt MnVoice MnOn Mloud McliffAt MsnowTold MmanAt Mvoice Mon MnYes Myes Mnow Mcry Msnow Mecho Mwere Mlies Mspots Msteps MfromState MbyWord Mqueue MsoundCliff MsoundLong MsoundCame MsoundTold MsoundUntold Mstands Mtally MhasBox Mboxes Itaped Ifault IfaultPlace Iat Isize Isort Iplace Inumber Iword Gstep Garg Gmany Gvalues2_2 GhasForm Iform Iopens InUnits Iunits IownUnits Ideep Gasks2_3 Gloud GcliffAt InWords InCliffs InMen InStates InOns InWind InDraw Iwords Icliffs Imen Istates Ions IwindTold InHasWind InHasDraw Gcry Gsnow Gecho2_4 IcryMany IcallPlace IcallVoice Iwind Ichance IechoMany2_5 Iacts Iundone Ilain Isounds Itime IstandMany am AH j_9 (by first | assumption | omega) (by first | assumption | omega) (by first | assumption | omega) (by first | assumption | omega) (by first | assumption | omega) (by first | assumption | omega) (by first | assumption | omega) (by first | assumption | omega) (by first | assumption | omega) (by first | assumption | omega) (by first | assumption | omega) (by first | assumption | omega) (by first | assumption | omega) (by first | assumption | omega) (by first | assumption | omega) (by first | assumption | omega) (by first | assumption | omega) (by first | assumption | omega) (by first | assumption | omega) (by first | assumption | omega) (by first | assumption | omega) (by first | assumption | omega) (by first | assumption | omega) (gcry) (f_7) (gal2) (by first | assumption | omega)) E0_blind hK hP hD hS hA [2, 3, 4, 5, 6, 7, 8, 9, 10, 11, 12, 13] [0, 1] ⟨rfl, rfl, by decide +kernel, by decide +kernel, by decide +kernel⟩ rfl rfl (fun _ _ _ => trivial) dX12_verdict_13 rfl rfl (Nat.le_of_ble_eq_true rfl) ⟨Nat.le_of_ble_eq_true rfl, Nat.le_of_ble_eq_true rfl⟩ ⟨Nat.le_of_ble_eq_true rfl, Nat.le_of_ble_eq_true rfl⟩ (fun zu10 H locs hw10 hP9 hD9 hS9 => ?_)
    clear hP hD hS
    obtain ⟨Gvalues2_11, Gasks2_12, Gecho2_13, IechoMany2_14⟩ := zu10
    refine reW [wI (cy 1) Mon 48 (Gon), wI (cy 3) Myes 6 (Gyes), wO m0 12 [.ref Mtape, .int (nI Itaped), .int (nI Ifault), .int IfaultPlace, .int (nI Iat), .int (nI Isize), .int Isort, .int Iplace, .int Inumber, .long Iword, .ref MnName, .ref MnStep, .ref MnArg, .ref MnMany, .ref Mstep, .ref Marg, .ref Mmany, .ref Mopen, .ref Mvalues, .ref MnHasForm, .ref MhasForm, .int (nI Iform), .int (nI Iopens), .int (nI InUnits), .int Iunits, .int (nI IownUnits), .int (nI Ideep), .ref Masks, .ref MnLoud, .ref MnCliffAt, .ref MnSnow, .ref MnManAt, .ref MnVoice, .ref MnOn, .ref Mloud, .ref McliffAt, .ref MsnowTold, .ref MmanAt, .ref Mvoice, .ref Mon, .ref MnYes, .ref Myes, .int (nI InWords), .int (nI InCliffs), .int (nI InMen), .int (nI InStates), .int (nI InOns), .int InWind, .int InDraw, .int (nI Iwords), .int (nI Icliffs), .int (nI Imen), .int (nI Istates), .int Ions, .int IwindTold, .int InHasWind, .int InHasDraw, .ref Mnow, .ref Mcry, .ref Msnow, .ref Mecho, .int (nI IcryMany), .int IcallPlace, .int IcallVoice, .int Iwind, .int Ichance, .int (nI IechoMany2_14), .ref Mwere, .int (nI Iacts), .int (nI Iundone), .ref Mlies, .int (nI Ilain), .ref Mspots, .ref Msteps, .ref MfromState, .ref MbyWord, .ref Mqueue, .ref MsoundCliff, .ref MsoundLong, .ref MsoundCame, .ref MsoundTold, .ref MsoundUntold, .int (nI Isounds), .int Itime, .ref Mstands, .int IstandMany, .ref Mtally, .ref MhasBox, .ref Mboxes], wI (cy 1) Mstep 960 (Gstep), wI (cy 1) Marg 960 (Garg), wI (cy 1) Mmany 3 (Gmany), wI (cy 1) Mvalues 64 (Gvalues2_11), wI (cy 1) Masks 7 (Gasks2_12), wI (cy 3) MhasForm 3 (GhasForm), wI (cy 1) McliffAt 4 (GcliffAt), wI (cy 1) Msnow 4 (Gsnow), wI (cy 1) Mloud 8 (Gloud), wI (cy 1) Mcry 10 (Gcry), wI (cy 1) Mecho 20 (Gecho2_13)] hP9 hD9 hS9 (fun hP hD hS => ?_)
    clear hP9 hD9 hS9
    refine W.widen (k := 0) (n := 0) (Nat.le_of_ble_eq_true rfl) (Nat.le_of_ble_eq_true rfl) ?_
    change (IechoMany2_14 ≤ 20) ∧ (rng Gecho2_13 20 7) ∧ (IechoMany2_14 ≤ IcryMany) at hw10
    obtain ⟨f_15, f_16, f_17⟩ := hw10
    refine lv_iconst (v := 1) hx hb dX12_verdict_16 (by decide) ?_
    refine lv_aload_n hx hb dX12_verdict_17 rfl (lv_at hl 1 rfl) ?_
    refine x_callVi (q := (RX12, TX12, 89)) (ci := 12) (q0 := 0) (wr := [wI (cy 1) Mstep 960 (Gstep), wI (cy 1) Marg 960 (Garg), wI (cy 1) Mmany 3 (Gmany), wI (cy 1) Mvalues 64 (Gvalues2_11), wI (cy 1) Masks 7 (Gasks2_12), wI (cy 3) MhasForm 3 (GhasForm), wI (cy 1) McliffAt 4 (GcliffAt), wI (cy 1) Msnow 4 (Gsnow), wI (cy 1) Mloud 8 (Gloud), wI (cy 1) Mcry 10 (Gcry)]) (rest := [.int 1]) ⟨hx, hb, hml, hown, hg, hl.1⟩ k_X12_500 (r_isYes l D cy m0 Mtape MnName MnStep MnArg MnMany Mstep Marg Mmany Mopen Mvalues MnHasForm MhasForm Masks MnLoud MnCliffAt MnSnow MnManAt MnVoice MnOn Mloud McliffAt MsnowTold MmanAt Mvoice Mon MnYes Myes Mnow Mcry Msnow Mecho Mwere Mlies Mspots Msteps MfromState MbyWord Mqueue MsoundCliff MsoundLong MsoundCame MsoundTold MsoundUntold Mstands Mtally MhasBox Mboxes Itaped Ifault IfaultPlace Iat Isize Isort Iplace Inumber Iword Iform Iopens InUnits Iunits IownUnits Ideep Gon Gyes InWords InCliffs InMen InStates InOns InWind InDraw Iwords Icliffs Imen Istates Ions IwindTold InHasWind InHasDraw Gecho2_13 IcryMany IcallPlace IcallVoice Iwind Ichance IechoMany2_14 Iacts Iundone Ilain Isounds Itime IstandMany (by first | assumption | omega) (by first | assumption | omega) (by first | assumption | omega) (by first | assumption | omega) (by first | assumption | omega) (by first | assumption | omega) (by first | assumption | omega) (by first | assumption | omega) (by first | assumption | omega) (by first | assumption | omega) (by first | assumption | omega) (by first | assumption | omega) (by first | assumption | omega) (by first | assumption | omega) (by first | assumption | omega) (by first | assumption | omega) (by first | assumption | omega) (by first | assumption | omega) (by first | assumption | omega) (by first | assumption | omega) (by first | assumption | omega) (by first | assumption | omega) (by first | assumption | omega) (f_16) (gon)) E0_blind hK hP hD hS hA [2, 0, 13, 1] [3, 4, 5, 6, 7, 8, 9, 10, 11, 12] ⟨rfl, rfl, by decide +kernel, by decide +kernel, by decide +kernel⟩ rfl rfl (fun _ _ _ => trivial) dX12_verdict_18 rfl rfl (Nat.le_of_ble_eq_true rfl) ⟨Nat.le_of_ble_eq_true rfl, Nat.le_of_ble_eq_true rfl⟩ ⟨Nat.le_of_ble_eq_true rfl, Nat.le_of_ble_eq_true rfl⟩ (fun zr18 zu18 H locs hw18 hP9 hD9 hS9 => ?_)
    clear hP hD hS
    refine reW [wI (cy 1) Mstep 960 (Gstep), wI (cy 1) Marg 960 (Garg), wI (cy 1) Mmany 3 (Gmany), wI (cy 1) Mvalues 64 (Gvalues2_11), wI (cy 1) Masks 7 (Gasks2_12), wI (cy 3) MhasForm 3 (GhasForm), wI (cy 1) McliffAt 4 (GcliffAt), wI (cy 1) Msnow 4 (Gsnow), wI (cy 1) Mloud 8 (Gloud), wI (cy 1) Mcry 10 (Gcry), wO m0 12 [.ref Mtape, .int (nI Itaped), .int (nI Ifault), .int IfaultPlace, .int (nI Iat), .int (nI Isize), .int Isort, .int Iplace, .int Inumber, .long Iword, .ref MnName, .ref MnStep, .ref MnArg, .ref MnMany, .ref Mstep, .ref Marg, .ref Mmany, .ref Mopen, .ref Mvalues, .ref MnHasForm, .ref MhasForm, .int (nI Iform), .int (nI Iopens), .int (nI InUnits), .int Iunits, .int (nI IownUnits), .int (nI Ideep), .ref Masks, .ref MnLoud, .ref MnCliffAt, .ref MnSnow, .ref MnManAt, .ref MnVoice, .ref MnOn, .ref Mloud, .ref McliffAt, .ref MsnowTold, .ref MmanAt, .ref Mvoice, .ref Mon, .ref MnYes, .ref Myes, .int (nI InWords), .int (nI InCliffs), .int (nI InMen), .int (nI InStates), .int (nI InOns), .int InWind, .int InDraw, .int (nI Iwords), .int (nI Icliffs), .int (nI Imen), .int (nI Istates), .int Ions, .int IwindTold, .int InHasWind, .int InHasDraw, .ref Mnow, .ref Mcry, .ref Msnow, .ref Mecho, .int (nI IcryMany), .int IcallPlace, .int IcallVoice, .int Iwind, .int Ichance, .int (nI IechoMany2_14), .ref Mwere, .int (nI Iacts), .int (nI Iundone), .ref Mlies, .int (nI Ilain), .ref Mspots, .ref Msteps, .ref MfromState, .ref MbyWord, .ref Mqueue, .ref MsoundCliff, .ref MsoundLong, .ref MsoundCame, .ref MsoundTold, .ref MsoundUntold, .int (nI Isounds), .int Itime, .ref Mstands, .int IstandMany, .ref Mtally, .ref MhasBox, .ref Mboxes], wI (cy 1) Mon 48 (Gon), wI (cy 1) Mecho 20 (Gecho2_13), wI (cy 3) Myes 6 (Gyes)] hP9 hD9 hS9 (fun hP hD hS => ?_)
    clear hP9 hD9 hS9
    refine W.widen (k := 0) (n := 0) (Nat.le_of_ble_eq_true rfl) (Nat.le_of_ble_eq_true rfl) ?_
    change (zr18 = 0 ∨ zr18 = 1) at hw18
    have f_19 := hw18
    refine x_callSi (wr := [wI (cy 1) Mstep 960 (Gstep), wI (cy 1) Marg 960 (Garg), wI (cy 1) Mmany 3 (Gmany), wI (cy 1) Mvalues 64 (Gvalues2_11), wI (cy 1) Masks 7 (Gasks2_12), wI (cy 3) MhasForm 3 (GhasForm), wI (cy 1) McliffAt 4 (GcliffAt), wI (cy 1) Msnow 4 (Gsnow), wI (cy 1) Mloud 8 (Gloud), wI (cy 1) Mcry 10 (Gcry), wO m0 12 [.ref Mtape, .int (nI Itaped), .int (nI Ifault), .int IfaultPlace, .int (nI Iat), .int (nI Isize), .int Isort, .int Iplace, .int Inumber, .long Iword, .ref MnName, .ref MnStep, .ref MnArg, .ref MnMany, .ref Mstep, .ref Marg, .ref Mmany, .ref Mopen, .ref Mvalues, .ref MnHasForm, .ref MhasForm, .int (nI Iform), .int (nI Iopens), .int (nI InUnits), .int Iunits, .int (nI IownUnits), .int (nI Ideep), .ref Masks, .ref MnLoud, .ref MnCliffAt, .ref MnSnow, .ref MnManAt, .ref MnVoice, .ref MnOn, .ref Mloud, .ref McliffAt, .ref MsnowTold, .ref MmanAt, .ref Mvoice, .ref Mon, .ref MnYes, .ref Myes, .int (nI InWords), .int (nI InCliffs), .int (nI InMen), .int (nI InStates), .int (nI InOns), .int InWind, .int InDraw, .int (nI Iwords), .int (nI Icliffs), .int (nI Imen), .int (nI Istates), .int Ions, .int IwindTold, .int InHasWind, .int InHasDraw, .ref Mnow, .ref Mcry, .ref Msnow, .ref Mecho, .int (nI IcryMany), .int IcallPlace, .int IcallVoice, .int Iwind, .int Ichance, .int (nI IechoMany2_14), .ref Mwere, .int (nI Iacts), .int (nI Iundone), .ref Mlies, .int (nI Ilain), .ref Mspots, .ref Msteps, .ref MfromState, .ref MbyWord, .ref Mqueue, .ref MsoundCliff, .ref MsoundLong, .ref MsoundCame, .ref MsoundTold, .ref MsoundUntold, .int (nI Isounds), .int Itime, .ref Mstands, .int IstandMany, .ref Mtally, .ref MhasBox, .ref Mboxes], wI (cy 1) Mon 48 (Gon), wI (cy 1) Mecho 20 (Gecho2_13), wI (cy 3) Myes 6 (Gyes)]) (rest := [.int 1]) ⟨hx, hb, hml, hown, hg, hl.1⟩ k_X12_333 (r_truth l D cy zr18) E0_blind hK hP hD hS hA [] [0, 1, 2, 3, 4, 5, 6, 7, 8, 9, 10, 11, 12, 13] ⟨rfl, rfl, by decide +kernel, by decide +kernel, by decide +kernel⟩ (fun _ _ _ => trivial) dX12_verdict_21 rfl rfl (Nat.le_of_ble_eq_true rfl) ⟨Nat.le_of_ble_eq_true rfl, Nat.le_of_ble_eq_true rfl⟩ ⟨Nat.le_of_ble_eq_true rfl, Nat.le_of_ble_eq_true rfl⟩ (fun zr20 zu20 H locs hw20 hP9 hD9 hS9 => ?_)
    clear hP hD hS
    obtain ⟨k_21, rfl⟩ : ∃ z, z = zu20 := ⟨_, rfl⟩
    refine reW [wI (cy 1) Mstep 960 (Gstep), wI (cy 1) Marg 960 (Garg), wI (cy 1) Mmany 3 (Gmany), wI (cy 1) Mvalues 64 (Gvalues2_11), wI (cy 1) Masks 7 (Gasks2_12), wI (cy 3) MhasForm 3 (GhasForm), wI (cy 1) McliffAt 4 (GcliffAt), wI (cy 1) Msnow 4 (Gsnow), wI (cy 1) Mloud 8 (Gloud), wI (cy 1) Mcry 10 (Gcry), wO m0 12 [.ref Mtape, .int (nI Itaped), .int (nI Ifault), .int IfaultPlace, .int (nI Iat), .int (nI Isize), .int Isort, .int Iplace, .int Inumber, .long Iword, .ref MnName, .ref MnStep, .ref MnArg, .ref MnMany, .ref Mstep, .ref Marg, .ref Mmany, .ref Mopen, .ref Mvalues, .ref MnHasForm, .ref MhasForm, .int (nI Iform), .int (nI Iopens), .int (nI InUnits), .int Iunits, .int (nI IownUnits), .int (nI Ideep), .ref Masks, .ref MnLoud, .ref MnCliffAt, .ref MnSnow, .ref MnManAt, .ref MnVoice, .ref MnOn, .ref Mloud, .ref McliffAt, .ref MsnowTold, .ref MmanAt, .ref Mvoice, .ref Mon, .ref MnYes, .ref Myes, .int (nI InWords), .int (nI InCliffs), .int (nI InMen), .int (nI InStates), .int (nI InOns), .int InWind, .int InDraw, .int (nI Iwords), .int (nI Icliffs), .int (nI Imen), .int (nI Istates), .int Ions, .int IwindTold, .int InHasWind, .int InHasDraw, .ref Mnow, .ref Mcry, .ref Msnow, .ref Mecho, .int (nI IcryMany), .int IcallPlace, .int IcallVoice, .int Iwind, .int Ichance, .int (nI IechoMany2_14), .ref Mwere, .int (nI Iacts), .int (nI Iundone), .ref Mlies, .int (nI Ilain), .ref Mspots, .ref Msteps, .ref MfromState, .ref MbyWord, .ref Mqueue, .ref MsoundCliff, .ref MsoundLong, .ref MsoundCame, .ref MsoundTold, .ref MsoundUntold, .int (nI Isounds), .int Itime, .ref Mstands, .int IstandMany, .ref Mtally, .ref MhasBox, .ref Mboxes], wI (cy 1) Mon 48 (Gon), wI (cy 1) Mecho 20 (Gecho2_13), wI (cy 3) Myes 6 (Gyes)] hP9 hD9 hS9 (fun hP hD hS => ?_)
    clear hP9 hD9 hS9
    refine W.widen (k := 0) (n := 0) (Nat.le_of_ble_eq_true rfl) (Nat.le_of_ble_eq_true rfl) ?_
    change (zr20 = nI k_21) ∧ (k_21 ≤ 1) at hw20
    obtain ⟨f_22, f_23⟩ := hw20
    subst f_22
    refine lv_iadd hx hb dX12_verdict_24 ?_
    refine lv_topi (fun y_24 hy_24 => ?_)
    obtain rfl : y_24 = nI (1 + k_21) := hy_24.trans (nI_add 1 k_21)
    exact x_iret hQ hx hb hr hlocks hK hP hD hS dX12_verdict_25 (Gvalues2_11, Gasks2_12, Gecho2_13, IechoMany2_14, (1 + k_21)) (⟨rfl, (show IechoMany2_14 ≤ 20 from by first | assumption | omega), f_16, (show ((1 + k_21)) ≤ 2 from by first | assumption | omega)⟩) [10, 0, 1, 2, 3, 4, 5, 6, 7, 8, 9, 12, 11, 13] (by decide +kernel) rfl (Nat.le_of_ble_eq_true rfl) (Nat.le_of_ble_eq_true rfl)
  · refine lv_iconst (v := 0) hx hb dX12_verdict_9 (by decide) ?_
    exact x_iret hQ hx hb hr hlocks hK hP hD hS dX12_verdict_10 (Gvalues2_2, Gasks2_3, Gecho2_4, IechoMany2_5, 0) (⟨rfl, (show IechoMany2_5 ≤ 20 from by first | assumption | omega), f_7, (show 0 ≤ 2 from by first | assumption | omega)⟩) [2, 3, 4, 5, 6, 7, 8, 9, 10, 11, 12, 13, 0, 1] (by decide +kernel) rfl (Nat.le_of_ble_eq_true rfl) (Nat.le_of_ble_eq_true rfl)
