def mL28 : List (Option Cond) := [some (Cond.selects RX12 yX12_leadsTo yX12_leadsTo), some (Cond.selects RX12 yX12_loadSky yX12_loadSky), some (Cond.selects RX12 yX12_loadCry yX12_loadCry), some (Cond.selects RX12 yX12_loadMan yX12_loadMan), some (Cond.selects RX12 yX12_bindsAtHand yX12_bindsAtHand), some (Cond.selects RX12 yX12_sendFrom yX12_sendFrom), some (Cond.selects RX12 yX12_addEcho yX12_addEcho), some (Cond.selects RX12 yX12_farOf yX12_farOf), some (Cond.selects RX12 yX12_backOf yX12_backOf), some (Cond.selects RX12 yX12_askOf yX12_askOf), some (Cond.selects RX12 yX12_worked yX12_worked), some (Cond.selects RX12 yX12_isLost yX12_isLost), some (Cond.selects RX12 yX12_isYes yX12_isYes), some (Cond.fieldLink RX12 30 "CliffJudgesModel" "step" "[I"), some (Cond.fieldLink RX12 33 "CliffJudgesModel" "arg" "[I"), some (Cond.fieldLink RX12 36 "CliffJudgesModel" "many" "[I"), some (Cond.fieldLink RX12 42 "CliffJudgesModel" "values" "[I"), some (Cond.fieldLink RX12 49 "CliffJudgesModel" "hasForm" "[Z"), some (Cond.fieldLink RX12 52 "CliffJudgesModel" "asks" "[I"), some (Cond.fieldLink RX12 73 "CliffJudgesModel" "loud" "[I"), some (Cond.fieldLink RX12 76 "CliffJudgesModel" "cliffAt" "[I"), some (Cond.fieldLink RX12 82 "CliffJudgesModel" "manAt" "[I"), some (Cond.fieldLink RX12 85 "CliffJudgesModel" "voice" "[I"), some (Cond.fieldLink RX12 88 "CliffJudgesModel" "on" "[I"), some (Cond.fieldLink RX12 94 "CliffJudgesModel" "yes" "[Z"), some (Cond.fieldLink RX12 403 "CliffJudgesModel" "words" "I"), some (Cond.fieldLink RX12 406 "CliffJudgesModel" "cliffs" "I"), some (Cond.fieldLink RX12 409 "CliffJudgesModel" "men" "I"), some (Cond.fieldLink RX12 412 "CliffJudgesModel" "states" "I"), some (Cond.fieldLink RX12 97 "CliffJudgesModel" "now" "[I"), some (Cond.fieldLink RX12 100 "CliffJudgesModel" "cry" "[I"), some (Cond.fieldLink RX12 103 "CliffJudgesModel" "snow" "[I"), some (Cond.fieldLink RX12 106 "CliffJudgesModel" "echo" "[I"), some (Cond.fieldLink RX12 446 "CliffJudgesModel" "cryMany" "I"), some (Cond.fieldLink RX12 449 "CliffJudgesModel" "callPlace" "I"), some (Cond.fieldLink RX12 452 "CliffJudgesModel" "callVoice" "I"), some (Cond.fieldLink RX12 440 "CliffJudgesModel" "wind" "I"), some (Cond.fieldLink RX12 443 "CliffJudgesModel" "chance" "I"), some (Cond.fieldLink RX12 477 "CliffJudgesModel" "echoMany" "I"), some (Cond.methodLink RX12 436 yX12_isIn), some (Cond.static yX12_isIn), some (Cond.code yX12_isIn cX12_isIn 3 (some .boolean)), some (Cond.methodLink RX12 491 yX12_leadsTo), some (Cond.instanceMethod yX12_leadsTo), some (Cond.code yX12_leadsTo cX12_leadsTo 3 (some .int)), some (Cond.methodLink RX12 455 yX12_loadSky), some (Cond.instanceMethod yX12_loadSky), some (Cond.code yX12_loadSky cX12_loadSky 2 none), some (Cond.methodLink RX12 458 yX12_loadCry), some (Cond.instanceMethod yX12_loadCry), some (Cond.code yX12_loadCry cX12_loadCry 3 none), some (Cond.methodLink RX12 461 yX12_loadMan), some (Cond.instanceMethod yX12_loadMan), some (Cond.code yX12_loadMan cX12_loadMan 2 none), some (Cond.methodLink RX12 497 yX12_bindsAtHand), some (Cond.instanceMethod yX12_bindsAtHand), some (Cond.code yX12_bindsAtHand cX12_bindsAtHand 3 (some .int)), some (Cond.methodLink RX12 494 yX12_sendFrom), some (Cond.instanceMethod yX12_sendFrom), some (Cond.code yX12_sendFrom cX12_sendFrom 2 none), some (Cond.methodLink RX12 488 yX12_addEcho), some (Cond.instanceMethod yX12_addEcho), some (Cond.code yX12_addEcho cX12_addEcho 6 none), some (Cond.methodLink RX12 474 yX12_farOf), some (Cond.instanceMethod yX12_farOf), some (Cond.code yX12_farOf cX12_farOf 2 (some .int)), some (Cond.methodLink RX12 464 yX12_off), some (Cond.static yX12_off), some (Cond.code yX12_off cX12_off 2 (some .int)), some (Cond.methodLink RX12 480 yX12_backOf), some (Cond.instanceMethod yX12_backOf), some (Cond.code yX12_backOf cX12_backOf 6 (some .int)), some (Cond.methodLink RX12 467 yX12_askOf), some (Cond.instanceMethod yX12_askOf), some (Cond.code yX12_askOf cX12_askOf 5 none), some (Cond.methodLink RX12 471 yX12_worked), some (Cond.instanceMethod yX12_worked), some (Cond.code yX12_worked cX12_worked 4 (some .int)), some (Cond.methodLink RX12 333 yX12_truth), some (Cond.static yX12_truth), some (Cond.code yX12_truth cX12_truth 1 (some .int)), some (Cond.methodLink RX12 337 yX12_done), some (Cond.static yX12_done), some (Cond.code yX12_done cX12_done 3 (some .int)), some (Cond.methodLink RX12 484 yX12_isLost), some (Cond.instanceMethod yX12_isLost), some (Cond.code yX12_isLost cX12_isLost 3 (some .boolean)), some (Cond.methodLink RX12 500 yX12_isYes), some (Cond.instanceMethod yX12_isYes), some (Cond.code yX12_isYes cX12_isYes 3 (some .boolean))]
set_option maxRecDepth 100000 in
theorem mP28 : pick [100, 3, 1, 1, 2, 1, 1, 1, 1, 1, 1, 1, 1, 1312, 1, 1, 2, 2, 7, 7, 1, 2, 1, 1, 2, 8, 1, 1, 1, 5, 1, 1, 1, 1, 1, 1, 1, 1, 1, 395, 1, 1, 21, 2, 1, 28, 2, 1, 1, 2, 1, 1, 2, 1, 5, 2, 1, 1, 2, 1, 1, 2, 1, 1, 2, 1, 1, 1, 1, 1, 2, 1, 1, 2, 1, 1, 2, 1, 1, 1, 1, 1, 1, 1, 1, 2, 1, 1, 2, 1] lw_tbl = mL28 := rfl
set_option maxRecDepth 100000 in
theorem mG28 : mL28.all (fun o => o.all goodWord) = true := rfl
theorem m_100 : (Cond.selects RX12 yX12_leadsTo yX12_leadsTo) ∈ gT := gp mP28 mG28 0 rfl
theorem m_103 : (Cond.selects RX12 yX12_loadSky yX12_loadSky) ∈ gT := gp mP28 mG28 1 rfl
theorem m_104 : (Cond.selects RX12 yX12_loadCry yX12_loadCry) ∈ gT := gp mP28 mG28 2 rfl
theorem m_105 : (Cond.selects RX12 yX12_loadMan yX12_loadMan) ∈ gT := gp mP28 mG28 3 rfl
theorem m_107 : (Cond.selects RX12 yX12_bindsAtHand yX12_bindsAtHand) ∈ gT := gp mP28 mG28 4 rfl
theorem m_108 : (Cond.selects RX12 yX12_sendFrom yX12_sendFrom) ∈ gT := gp mP28 mG28 5 rfl
theorem m_109 : (Cond.selects RX12 yX12_addEcho yX12_addEcho) ∈ gT := gp mP28 mG28 6 rfl
theorem m_110 : (Cond.selects RX12 yX12_farOf yX12_farOf) ∈ gT := gp mP28 mG28 7 rfl
theorem m_111 : (Cond.selects RX12 yX12_backOf yX12_backOf) ∈ gT := gp mP28 mG28 8 rfl
theorem m_112 : (Cond.selects RX12 yX12_askOf yX12_askOf) ∈ gT := gp mP28 mG28 9 rfl
theorem m_113 : (Cond.selects RX12 yX12_worked yX12_worked) ∈ gT := gp mP28 mG28 10 rfl
theorem m_114 : (Cond.selects RX12 yX12_isLost yX12_isLost) ∈ gT := gp mP28 mG28 11 rfl
theorem m_115 : (Cond.selects RX12 yX12_isYes yX12_isYes) ∈ gT := gp mP28 mG28 12 rfl
theorem m_1427 : (Cond.fieldLink RX12 30 "CliffJudgesModel" "step" "[I") ∈ gT := gp mP28 mG28 13 rfl
theorem m_1428 : (Cond.fieldLink RX12 33 "CliffJudgesModel" "arg" "[I") ∈ gT := gp mP28 mG28 14 rfl
theorem m_1429 : (Cond.fieldLink RX12 36 "CliffJudgesModel" "many" "[I") ∈ gT := gp mP28 mG28 15 rfl
theorem m_1431 : (Cond.fieldLink RX12 42 "CliffJudgesModel" "values" "[I") ∈ gT := gp mP28 mG28 16 rfl
theorem m_1433 : (Cond.fieldLink RX12 49 "CliffJudgesModel" "hasForm" "[Z") ∈ gT := gp mP28 mG28 17 rfl
theorem m_1440 : (Cond.fieldLink RX12 52 "CliffJudgesModel" "asks" "[I") ∈ gT := gp mP28 mG28 18 rfl
theorem m_1447 : (Cond.fieldLink RX12 73 "CliffJudgesModel" "loud" "[I") ∈ gT := gp mP28 mG28 19 rfl
theorem m_1448 : (Cond.fieldLink RX12 76 "CliffJudgesModel" "cliffAt" "[I") ∈ gT := gp mP28 mG28 20 rfl
theorem m_1450 : (Cond.fieldLink RX12 82 "CliffJudgesModel" "manAt" "[I") ∈ gT := gp mP28 mG28 21 rfl
theorem m_1451 : (Cond.fieldLink RX12 85 "CliffJudgesModel" "voice" "[I") ∈ gT := gp mP28 mG28 22 rfl
theorem m_1452 : (Cond.fieldLink RX12 88 "CliffJudgesModel" "on" "[I") ∈ gT := gp mP28 mG28 23 rfl
theorem m_1454 : (Cond.fieldLink RX12 94 "CliffJudgesModel" "yes" "[Z") ∈ gT := gp mP28 mG28 24 rfl
theorem m_1462 : (Cond.fieldLink RX12 403 "CliffJudgesModel" "words" "I") ∈ gT := gp mP28 mG28 25 rfl
theorem m_1463 : (Cond.fieldLink RX12 406 "CliffJudgesModel" "cliffs" "I") ∈ gT := gp mP28 mG28 26 rfl
theorem m_1464 : (Cond.fieldLink RX12 409 "CliffJudgesModel" "men" "I") ∈ gT := gp mP28 mG28 27 rfl
theorem m_1465 : (Cond.fieldLink RX12 412 "CliffJudgesModel" "states" "I") ∈ gT := gp mP28 mG28 28 rfl
theorem m_1470 : (Cond.fieldLink RX12 97 "CliffJudgesModel" "now" "[I") ∈ gT := gp mP28 mG28 29 rfl
theorem m_1471 : (Cond.fieldLink RX12 100 "CliffJudgesModel" "cry" "[I") ∈ gT := gp mP28 mG28 30 rfl
theorem m_1472 : (Cond.fieldLink RX12 103 "CliffJudgesModel" "snow" "[I") ∈ gT := gp mP28 mG28 31 rfl
theorem m_1473 : (Cond.fieldLink RX12 106 "CliffJudgesModel" "echo" "[I") ∈ gT := gp mP28 mG28 32 rfl
theorem m_1474 : (Cond.fieldLink RX12 446 "CliffJudgesModel" "cryMany" "I") ∈ gT := gp mP28 mG28 33 rfl
theorem m_1475 : (Cond.fieldLink RX12 449 "CliffJudgesModel" "callPlace" "I") ∈ gT := gp mP28 mG28 34 rfl
theorem m_1476 : (Cond.fieldLink RX12 452 "CliffJudgesModel" "callVoice" "I") ∈ gT := gp mP28 mG28 35 rfl
theorem m_1477 : (Cond.fieldLink RX12 440 "CliffJudgesModel" "wind" "I") ∈ gT := gp mP28 mG28 36 rfl
theorem m_1478 : (Cond.fieldLink RX12 443 "CliffJudgesModel" "chance" "I") ∈ gT := gp mP28 mG28 37 rfl
theorem m_1479 : (Cond.fieldLink RX12 477 "CliffJudgesModel" "echoMany" "I") ∈ gT := gp mP28 mG28 38 rfl
theorem m_1874 : (Cond.methodLink RX12 436 yX12_isIn) ∈ gT := gp mP28 mG28 39 rfl
theorem m_1875 : (Cond.static yX12_isIn) ∈ gT := gp mP28 mG28 40 rfl
theorem m_1876 : (Cond.code yX12_isIn cX12_isIn 3 (some .boolean)) ∈ gT := gp mP28 mG28 41 rfl
theorem m_1897 : (Cond.methodLink RX12 491 yX12_leadsTo) ∈ gT := gp mP28 mG28 42 rfl
theorem m_1899 : (Cond.instanceMethod yX12_leadsTo) ∈ gT := gp mP28 mG28 43 rfl
theorem m_1900 : (Cond.code yX12_leadsTo cX12_leadsTo 3 (some .int)) ∈ gT := gp mP28 mG28 44 rfl
theorem m_1928 : (Cond.methodLink RX12 455 yX12_loadSky) ∈ gT := gp mP28 mG28 45 rfl
theorem m_1930 : (Cond.instanceMethod yX12_loadSky) ∈ gT := gp mP28 mG28 46 rfl
theorem m_1931 : (Cond.code yX12_loadSky cX12_loadSky 2 none) ∈ gT := gp mP28 mG28 47 rfl
theorem m_1932 : (Cond.methodLink RX12 458 yX12_loadCry) ∈ gT := gp mP28 mG28 48 rfl
theorem m_1934 : (Cond.instanceMethod yX12_loadCry) ∈ gT := gp mP28 mG28 49 rfl
theorem m_1935 : (Cond.code yX12_loadCry cX12_loadCry 3 none) ∈ gT := gp mP28 mG28 50 rfl
theorem m_1936 : (Cond.methodLink RX12 461 yX12_loadMan) ∈ gT := gp mP28 mG28 51 rfl
theorem m_1938 : (Cond.instanceMethod yX12_loadMan) ∈ gT := gp mP28 mG28 52 rfl
theorem m_1939 : (Cond.code yX12_loadMan cX12_loadMan 2 none) ∈ gT := gp mP28 mG28 53 rfl
theorem m_1944 : (Cond.methodLink RX12 497 yX12_bindsAtHand) ∈ gT := gp mP28 mG28 54 rfl
theorem m_1946 : (Cond.instanceMethod yX12_bindsAtHand) ∈ gT := gp mP28 mG28 55 rfl
theorem m_1947 : (Cond.code yX12_bindsAtHand cX12_bindsAtHand 3 (some .int)) ∈ gT := gp mP28 mG28 56 rfl
theorem m_1948 : (Cond.methodLink RX12 494 yX12_sendFrom) ∈ gT := gp mP28 mG28 57 rfl
theorem m_1950 : (Cond.instanceMethod yX12_sendFrom) ∈ gT := gp mP28 mG28 58 rfl
theorem m_1951 : (Cond.code yX12_sendFrom cX12_sendFrom 2 none) ∈ gT := gp mP28 mG28 59 rfl
theorem m_1952 : (Cond.methodLink RX12 488 yX12_addEcho) ∈ gT := gp mP28 mG28 60 rfl
theorem m_1954 : (Cond.instanceMethod yX12_addEcho) ∈ gT := gp mP28 mG28 61 rfl
theorem m_1955 : (Cond.code yX12_addEcho cX12_addEcho 6 none) ∈ gT := gp mP28 mG28 62 rfl
theorem m_1956 : (Cond.methodLink RX12 474 yX12_farOf) ∈ gT := gp mP28 mG28 63 rfl
theorem m_1958 : (Cond.instanceMethod yX12_farOf) ∈ gT := gp mP28 mG28 64 rfl
theorem m_1959 : (Cond.code yX12_farOf cX12_farOf 2 (some .int)) ∈ gT := gp mP28 mG28 65 rfl
theorem m_1960 : (Cond.methodLink RX12 464 yX12_off) ∈ gT := gp mP28 mG28 66 rfl
theorem m_1961 : (Cond.static yX12_off) ∈ gT := gp mP28 mG28 67 rfl
theorem m_1962 : (Cond.code yX12_off cX12_off 2 (some .int)) ∈ gT := gp mP28 mG28 68 rfl
theorem m_1963 : (Cond.methodLink RX12 480 yX12_backOf) ∈ gT := gp mP28 mG28 69 rfl
theorem m_1965 : (Cond.instanceMethod yX12_backOf) ∈ gT := gp mP28 mG28 70 rfl
theorem m_1966 : (Cond.code yX12_backOf cX12_backOf 6 (some .int)) ∈ gT := gp mP28 mG28 71 rfl
theorem m_1967 : (Cond.methodLink RX12 467 yX12_askOf) ∈ gT := gp mP28 mG28 72 rfl
theorem m_1969 : (Cond.instanceMethod yX12_askOf) ∈ gT := gp mP28 mG28 73 rfl
theorem m_1970 : (Cond.code yX12_askOf cX12_askOf 5 none) ∈ gT := gp mP28 mG28 74 rfl
theorem m_1971 : (Cond.methodLink RX12 471 yX12_worked) ∈ gT := gp mP28 mG28 75 rfl
theorem m_1973 : (Cond.instanceMethod yX12_worked) ∈ gT := gp mP28 mG28 76 rfl
theorem m_1974 : (Cond.code yX12_worked cX12_worked 4 (some .int)) ∈ gT := gp mP28 mG28 77 rfl
theorem m_1975 : (Cond.methodLink RX12 333 yX12_truth) ∈ gT := gp mP28 mG28 78 rfl
theorem m_1976 : (Cond.static yX12_truth) ∈ gT := gp mP28 mG28 79 rfl
theorem m_1977 : (Cond.code yX12_truth cX12_truth 1 (some .int)) ∈ gT := gp mP28 mG28 80 rfl
theorem m_1978 : (Cond.methodLink RX12 337 yX12_done) ∈ gT := gp mP28 mG28 81 rfl
theorem m_1979 : (Cond.static yX12_done) ∈ gT := gp mP28 mG28 82 rfl
theorem m_1980 : (Cond.code yX12_done cX12_done 3 (some .int)) ∈ gT := gp mP28 mG28 83 rfl
theorem m_1981 : (Cond.methodLink RX12 484 yX12_isLost) ∈ gT := gp mP28 mG28 84 rfl
theorem m_1983 : (Cond.instanceMethod yX12_isLost) ∈ gT := gp mP28 mG28 85 rfl
theorem m_1984 : (Cond.code yX12_isLost cX12_isLost 3 (some .boolean)) ∈ gT := gp mP28 mG28 86 rfl
theorem m_1985 : (Cond.methodLink RX12 500 yX12_isYes) ∈ gT := gp mP28 mG28 87 rfl
theorem m_1987 : (Cond.instanceMethod yX12_isYes) ∈ gT := gp mP28 mG28 88 rfl
theorem m_1988 : (Cond.code yX12_isYes cX12_isYes 3 (some .boolean)) ∈ gT := gp mP28 mG28 89 rfl
/-- one entry of a kept moment: a WORD, a CRY's length, or anything -/
def eltOK (k : Nat) (x : Int32) : Prop := (k < 20 → ∃ j : Nat, j ≤ 7 ∧ x = nI j) ∧ (20 ≤ k → k < 22 → ∃ j : Nat, j ≤ 10 ∧ x = nI j)
def wRows (f : Nat → Int32) (n : Nat) : Prop := ∀ q, q < 42 * n → eltOK (q % 42) (f q)
theorem elt_nat {k j : Nat} (h : (k < 20 → j ≤ 7) ∧ (20 ≤ k → k < 22 → j ≤ 10)) : eltOK k (nI j) := ⟨fun h9 => ⟨j, h.1 h9, rfl⟩, fun h8 h9 => ⟨j, h.2 h8 h9, rfl⟩⟩
theorem elt_rest {k : Nat} {x : Int32} (h : 22 ≤ k) : eltOK k x := ⟨fun h9 => absurd h9 (by omega), fun _ h9 => absurd h9 (by omega)⟩
theorem elt_0 {k : Nat} : eltOK k 0 := elt_nat (j := 0) ⟨fun _ => by omega, fun _ _ => by omega⟩
theorem wR_put {f : Nat → Int32} {n T : Nat} {z x : Int32} (h : wRows f n) (hz : z.toNatClampNeg = T) (hx : eltOK (T % 42) x) : wRows (upd f z.toNatClampNeg x) n := by
  rw [hz]
  intro q hq
  by_cases e : q = T
  · rw [e, pk_us]; exact hx
  · rw [pk_un e]; exact h q hq
theorem wR_at {f : Nat → Int32} {n T : Nat} {z x : Int32} (h : wRows f n) (hz : z.toNatClampNeg = T) (hT : T < 42 * n) (ex : x = f z.toNatClampNeg) : eltOK (T % 42) x := by
  rw [hz] at ex; rw [ex]; exact h T hT
theorem wR_z {n : Nat} : wRows (fun _ => 0) n := fun _ _ => elt_0
theorem wR_word {f : Nat → Int32} {n T : Nat} {z : Int32} (h : wRows f n) (hz : z.toNatClampNeg = T) (hT : T < 42 * n) (hw : T % 42 < 20) : ∃ j : Nat, j ≤ 7 ∧ f z.toNatClampNeg = nI j := (wR_at h hz hT rfl).1 hw
theorem wR_len {f : Nat → Int32} {n T : Nat} {z : Int32} (h : wRows f n) (hz : z.toNatClampNeg = T) (hT : T < 42 * n) (hw : 20 ≤ T % 42 ∧ T % 42 < 22) : ∃ j : Nat, j ≤ 10 ∧ f z.toNatClampNeg = nI j := (wR_at h hz hT rfl).2 hw.1 hw.2
theorem keep_at {f g : Nat → Int32} {z : Int32} {T q : Nat} {x v : Int32} (e : upd f z.toNatClampNeg x = g) (hz : z.toNatClampNeg = T) (hne : q ≠ T) (ej : f q = v) : g q = v := by
  rw [← e, hz, pk_un hne]; exact ej
theorem isin_lt {ix : Int32} {n : Nat} (hn : n < 2 ^ 31) (h0 : ¬ ix < 0) (h1 : ¬ (nI n - 1) < ix) : ∃ j : Nat, j < n ∧ ix = nI j := by
  obtain ⟨j, hj, e⟩ := nI_of h0
  rcases Nat.eq_zero_or_pos n with h | h
  · subst h
    exact absurd (by rw [e, fa_lt, nI_toInt hj]; rw [show (nI 0 - 1).toInt = -1 by decide]; omega) h1
  · refine ⟨j, ?_, e⟩
    have h9 := nI_pred (n - 1)
    rw [Nat.sub_add_cancel h] at h9
    rw [h9, e] at h1
    have := mt (nI_ltI (by omega) hj).mpr h1
    omega
theorem rem_in {a d : Nat} (ha : a < 2 ^ 31) (hd : 0 < d) (hd2 : d < 2 ^ 31) : ∃ r : Nat, r < d ∧ nI a - nI a / nI d * nI d = nI r ∧ r = a % d := ⟨a % d, Nat.mod_lt _ hd, pk_rem ha hd hd2, rfl⟩
theorem div_in {a d : Nat} (ha : a < 2 ^ 31) (hd : 0 < d) (hd2 : d < 2 ^ 31) : ∃ q : Nat, q ≤ a ∧ nI a / nI d = nI q ∧ q = a / d := ⟨a / d, Nat.div_le_self _ _, pk_div ha hd hd2, rfl⟩
theorem nz_nI {d : Nat} (h0 : 0 < d) (hd : d < 2 ^ 31) : ¬ nI d = 0 := fun h => absurd (q_eq (a := d) (b := 0) rfl rfl hd (by decide) h) (by omega)
theorem neg_le {y : Int32} {a : Nat} (ha : a < 2 ^ 31) (hy : y < 0) : y ≤ nI a := by
  rw [fa_le, nI_toInt ha]
  rw [fa_lt] at hy
  have z0 : (0 : Int32).toInt = 0 := by decide
  omega
theorem nxT_at {f : Nat → Int32} {T : Nat} {x : Int32} (h : nxT f) (hT : T < 48) (ex : x = f (nI T).toNatClampNeg) : x = -1 ∨ ∃ j : Nat, j ≤ 5 ∧ x = nI j := by
  rw [nI_clamp (by omega)] at ex; rw [ex]; exact h T hT
theorem nxT_cp {f : Nat → Int32} {k : Nat} {x : Int32} (h : nxT f) (hx : x = -1 ∨ ∃ j : Nat, j ≤ 5 ∧ x = nI j) : nxT (upd f k x) := by
  intro i hi
  by_cases e : i = k
  · rw [e, pk_us]; exact hx
  · rw [pk_un e]; exact h i hi
theorem sw_lo (x : Int32) (lo hi : Nat) (h : hi < 2 ^ 31) (hl : lo ≤ hi) : (x.toInt < lo ∨ (hi : Int) < x.toInt) ∨ ∃ j : Nat, lo ≤ j ∧ j ≤ hi ∧ x = nI j := by
  by_cases h1 : x < nI lo
  · rw [fa_lt, nI_toInt (by omega)] at h1; exact Or.inl (Or.inl h1)
  · by_cases h2 : nI hi < x
    · rw [fa_lt, nI_toInt h] at h2; exact Or.inl (Or.inr h2)
    · exact Or.inr (btw (by omega) h h1 h2)
theorem inR_isin {ix : Int32} {n : Nat} (hn : n < 2 ^ 31) (h : ix < 0 ∨ nI n - 1 < ix) : ¬ inR ix n := by
  rintro ⟨j, hj, e⟩
  rcases h with h | h
  · exact nI_pos (n := j) (by omega) (e ▸ h)
  · have h9 := nI_pred (n - 1)
    rw [Nat.sub_add_cancel (by omega)] at h9
    rw [h9, e] at h
    have := (nI_ltI (by omega) (by omega)).mp h
    omega
theorem inR_box {ix : Int32} (h : ix < 0 ∨ ¬ ix < 3) : ¬ inR ix 3 := by
  rintro ⟨j, hj, e⟩
  rcases h with h | h
  · exact nI_pos (n := j) (by omega) (e ▸ h)
  · exact h (by rw [e]; exact (nI_ltI (b := 3) (by omega) (by omega)).mpr hj)
/-- where a WORD leads, of the row of ONS -/
def nxR (g : Nat → Int32) (s w : Nat) : Int32 := if g (8 * s + w) = -1 then nI s else g (8 * s + w)
theorem nxR_is {g : Nat → Int32} {s w : Nat} {x : Int32} (hs : s ≤ 5) (hw : w ≤ 7) (ex : x = g (nI (8 * s + w)).toNatClampNeg) (h : x = -1) : nI s = nxR g s w := by
  rw [nI_clamp (by omega)] at ex
  unfold nxR
  rw [if_pos (ex ▸ h)]
theorem nxR_no {g : Nat → Int32} {s w : Nat} {x r : Int32} (hs : s ≤ 5) (hw : w ≤ 7) (ex : x = g (nI (8 * s + w)).toNatClampNeg) (h : ¬ x = -1) (er : r = g (nI (8 * s + w)).toNatClampNeg) : r = nxR g s w := by
  rw [nI_clamp (by omega)] at ex er
  unfold nxR
  rw [if_neg (fun h9 => h (ex.trans h9))]
  exact er
theorem gdX12_isIn_0 : decode cX12_isIn 0 = .ok (.iload_n 0, 1) ∧ decode cX12_isIn 1 = .ok (.iload_n 1, 1) ∧ decode cX12_isIn 2 = .ok (.if_icmp .lt 12, 3) ∧ decode cX12_isIn 14 = .ok (.iconst 0, 1) ∧ decode cX12_isIn 15 = .ok (.ireturn, 1) ∧ decode cX12_isIn 5 = .ok (.iload_n 0, 1) ∧ decode cX12_isIn 6 = .ok (.iload_n 2, 1) ∧ decode cX12_isIn 7 = .ok (.if_icmp .gt 7, 3) ∧ decode cX12_isIn 10 = .ok (.iconst 1, 1) ∧ decode cX12_isIn 11 = .ok (.goto 4, 3) := by decide +kernel
theorem dX12_isIn_0 : decode cX12_isIn 0 = .ok (.iload_n 0, 1) := gdX12_isIn_0.1
theorem dX12_isIn_1 : decode cX12_isIn 1 = .ok (.iload_n 1, 1) := gdX12_isIn_0.2.1
theorem dX12_isIn_2 : decode cX12_isIn 2 = .ok (.if_icmp .lt 12, 3) := gdX12_isIn_0.2.2.1
theorem dX12_isIn_14 : decode cX12_isIn 14 = .ok (.iconst 0, 1) := gdX12_isIn_0.2.2.2.1
theorem dX12_isIn_15 : decode cX12_isIn 15 = .ok (.ireturn, 1) := gdX12_isIn_0.2.2.2.2.1
theorem dX12_isIn_5 : decode cX12_isIn 5 = .ok (.iload_n 0, 1) := gdX12_isIn_0.2.2.2.2.2.1
theorem dX12_isIn_6 : decode cX12_isIn 6 = .ok (.iload_n 2, 1) := gdX12_isIn_0.2.2.2.2.2.2.1
theorem dX12_isIn_7 : decode cX12_isIn 7 = .ok (.if_icmp .gt 7, 3) := gdX12_isIn_0.2.2.2.2.2.2.2.1
theorem dX12_isIn_10 : decode cX12_isIn 10 = .ok (.iconst 1, 1) := gdX12_isIn_0.2.2.2.2.2.2.2.2.1
theorem dX12_isIn_11 : decode cX12_isIn 11 = .ok (.goto 4, 3) := gdX12_isIn_0.2.2.2.2.2.2.2.2.2
set_option maxHeartbeats 1000000 in
set_option maxRecDepth 100000 in
theorem r_isIn (l : Launch) (D : va_G) (cy : Nat → ClassId) (va : Int32) (vb : Int32) (vc : Int32)  : XMi l D (tyL cy) E0 yX12_isIn cX12_isIn 3 (some .boolean) (rmk 0 0 0) [.int va, .int vb, .int vc] [] (fun (r : Int32) (_ : Unit) => (r = 0 ∨ r = 1) ∧ (r = 0 ∨ (r = 1 ∧ ¬ va < vb ∧ ¬ vc < va)) ∧ (r = 0 → (va < vb ∨ vc < va))) (fun (_ : Unit) => []) := by
  refine XMi.start (by decide) (Nat.le_of_ble_eq_true rfl) ?_
  intro p e s m below meth c args A ls Q hat hQ
  obtain ⟨hx, hb, hr, hml, hown, hg, hlocks, hin, hK, hA, hP, hD, hS, hE, hl⟩ := hat
  have hown : s.vm.findClass RX12 = some m.cls := hown
  have hl : lv_has ls 3 [(0, .int va), (1, .int vb), (2, .int vc)] := hl
  refine lv_iload_n hx hb dX12_isIn_0 rfl (lv_at hl 0 rfl) ?_
  refine lv_iload_n hx hb dX12_isIn_1 rfl (lv_at hl 1 rfl) ?_
  refine lv_icmp_lt (tgt := 14) hx hb dX12_isIn_2 (by decide) (fun c_2 => ?_) (fun c_2 => ?_)
  · refine lv_iconst (v := 0) hx hb dX12_isIn_14 (by decide) ?_
    exact x_zret hQ hx hb hr hlocks hK hP hD hS rfl dX12_isIn_15 () (⟨(Or.inl rfl), (show (0 : Int32) = 0 ∨ ((0 : Int32) = 1 ∧ ¬ va < vb ∧ ¬ vc < va) from Or.inl rfl), (show (0 : Int32) = 0 → (va < vb ∨ vc < va) from fun _ => Or.inl c_2)⟩) [] (by decide +kernel) rfl (Nat.le_of_ble_eq_true rfl) (Nat.le_of_ble_eq_true rfl)
  · refine lv_iload_n hx hb dX12_isIn_5 rfl (lv_at hl 0 rfl) ?_
    refine lv_iload_n hx hb dX12_isIn_6 rfl (lv_at hl 2 rfl) ?_
    refine lv_icmp_gt (tgt := 14) hx hb dX12_isIn_7 (by decide) (fun c_7 => ?_) (fun c_7 => ?_)
    · refine lv_iconst (v := 0) hx hb dX12_isIn_14 (by decide) ?_
      exact x_zret hQ hx hb hr hlocks hK hP hD hS rfl dX12_isIn_15 () (⟨(Or.inl rfl), (show (0 : Int32) = 0 ∨ ((0 : Int32) = 1 ∧ ¬ va < vb ∧ ¬ vc < va) from Or.inl rfl), (show (0 : Int32) = 0 → (va < vb ∨ vc < va) from fun _ => Or.inr c_7)⟩) [] (by decide +kernel) rfl (Nat.le_of_ble_eq_true rfl) (Nat.le_of_ble_eq_true rfl)
    · refine lv_iconst (v := 1) hx hb dX12_isIn_10 (by decide) ?_
      refine lv_goto (tgt := 15) hx hb dX12_isIn_11 (by decide) ?_
      exact x_zret hQ hx hb hr hlocks hK hP hD hS rfl dX12_isIn_15 () (⟨(Or.inr rfl), (show (1 : Int32) = 0 ∨ ((1 : Int32) = 1 ∧ ¬ va < vb ∧ ¬ vc < va) from Or.inr ⟨rfl, c_2, c_7⟩), (show (1 : Int32) = 0 → (va < vb ∨ vc < va) from fun h9 => absurd h9 (by decide))⟩) [] (by decide +kernel) rfl (Nat.le_of_ble_eq_true rfl) (Nat.le_of_ble_eq_true rfl)
theorem gdX12_isCliff_0 : decode cX12_isCliff 0 = .ok (.iload_n 1, 1) ∧ decode cX12_isCliff 1 = .ok (.iconst 0, 1) ∧ decode cX12_isCliff 2 = .ok (.aload_n 0, 1) ∧ decode cX12_isCliff 3 = .ok (.getfield 406, 3) ∧ decode cX12_isCliff 6 = .ok (.iconst 1, 1) ∧ decode cX12_isCliff 7 = .ok (.isub, 1) ∧ decode cX12_isCliff 8 = .ok (.invokestatic 436, 3) := by decide +kernel
theorem dX12_isCliff_0 : decode cX12_isCliff 0 = .ok (.iload_n 1, 1) := gdX12_isCliff_0.1
theorem dX12_isCliff_1 : decode cX12_isCliff 1 = .ok (.iconst 0, 1) := gdX12_isCliff_0.2.1
theorem dX12_isCliff_2 : decode cX12_isCliff 2 = .ok (.aload_n 0, 1) := gdX12_isCliff_0.2.2.1
theorem dX12_isCliff_3 : decode cX12_isCliff 3 = .ok (.getfield 406, 3) := gdX12_isCliff_0.2.2.2.1
theorem dX12_isCliff_6 : decode cX12_isCliff 6 = .ok (.iconst 1, 1) := gdX12_isCliff_0.2.2.2.2.1
theorem dX12_isCliff_7 : decode cX12_isCliff 7 = .ok (.isub, 1) := gdX12_isCliff_0.2.2.2.2.2.1
theorem dX12_isCliff_8 : decode cX12_isCliff 8 = .ok (.invokestatic 436, 3) := gdX12_isCliff_0.2.2.2.2.2.2
theorem k_X12_436 : xS RX12 436 yX12_isIn cX12_isIn 3 (some .boolean) 3 := ⟨⟨m_1874, m_1875, m_146, m_1876⟩, by decide, by decide, by decide +kernel⟩
theorem dX12_isCliff_11 : decode cX12_isCliff 11 = .ok (.ireturn, 1) := by decide +kernel
set_option maxHeartbeats 1000000 in
set_option maxRecDepth 100000 in
theorem r_isCliff (l : Launch) (D : va_G) (cy : Nat → ClassId) (m0 : Nat) (Mtape : Nat) (MnName : Nat) (MnStep : Nat) (MnArg : Nat) (MnMany : Nat) (Mstep : Nat) (Marg : Nat) (Mmany : Nat) (Mopen : Nat) (Mvalues : Nat) (MnHasForm : Nat) (MhasForm : Nat) (Masks : Nat) (MnLoud : Nat) (MnCliffAt : Nat) (MnSnow : Nat) (MnManAt : Nat) (MnVoice : Nat) (MnOn : Nat) (Mloud : Nat) (McliffAt : Nat) (MsnowTold : Nat) (MmanAt : Nat) (Mvoice : Nat) (Mon : Nat) (MnYes : Nat) (Myes : Nat) (Mnow : Nat) (Mcry : Nat) (Msnow : Nat) (Mecho : Nat) (Mwere : Nat) (Mlies : Nat) (Mspots : Nat) (Msteps : Nat) (MfromState : Nat) (MbyWord : Nat) (Mqueue : Nat) (MsoundCliff : Nat) (MsoundLong : Nat) (MsoundCame : Nat) (MsoundTold : Nat) (MsoundUntold : Nat) (Mstands : Nat) (Mtally : Nat) (MhasBox : Nat) (Mboxes : Nat) (Itaped : Nat) (Ifault : Nat) (IfaultPlace : Int32) (Iat : Nat) (Isize : Nat) (Isort : Int32) (Iplace : Int32) (Inumber : Int32) (Iword : Int64) (Iform : Nat) (Iopens : Nat) (InUnits : Nat) (Iunits : Int32) (IownUnits : Nat) (Ideep : Nat) (InWords : Nat) (InCliffs : Nat) (InMen : Nat) (InStates : Nat) (InOns : Nat) (InWind : Int32) (InDraw : Int32) (Iwords : Nat) (Icliffs : Nat) (Imen : Nat) (Istates : Nat) (Ions : Int32) (IwindTold : Int32) (InHasWind : Int32) (InHasDraw : Int32) (IcryMany : Nat) (IcallPlace : Int32) (IcallVoice : Int32) (Iwind : Int32) (Ichance : Int32) (IechoMany : Nat) (Iacts : Nat) (Iundone : Nat) (Ilain : Nat) (Isounds : Nat) (Itime : Int32) (IstandMany : Int32) (ix : Int32) (gtp : Itaped ≤ 1600) (gat : Iat ≤ Isize) (gsz : Isize ≤ 1600) (gfl : Ifault ≤ 5) (gfo : Iform ≤ 2) (gnw : InWords ≤ 8) (gnc : InCliffs ≤ 4) (gnm : InMen ≤ 4) (gns : InStates ≤ 6) (gw : Iwords ≤ 8) (gc9 : Icliffs ≤ 4) (gm : Imen ≤ 4) (gs : Istates ≤ 6) (gcm : IcryMany ≤ 10) (gem : IechoMany ≤ 20) (gau : Iacts + Iundone ≤ 40) (gla : Ilain ≤ 20) (gso : Isounds ≤ 30) (gop : Iopens ≤ 40) (gde : Ideep ≤ 8) (gou : IownUnits ≤ 31) (gnu : InUnits ≤ 61) (gno : InOns ≤ 30) : XMi l D (tyL cy) E0 yX12_isCliff cX12_isCliff 2 (some .boolean) (rmk 1 0 0) [.ref m0, .int ix] [wO m0 12 [.ref Mtape, .int (nI Itaped), .int (nI Ifault), .int IfaultPlace, .int (nI Iat), .int (nI Isize), .int Isort, .int Iplace, .int Inumber, .long Iword, .ref MnName, .ref MnStep, .ref MnArg, .ref MnMany, .ref Mstep, .ref Marg, .ref Mmany, .ref Mopen, .ref Mvalues, .ref MnHasForm, .ref MhasForm, .int (nI Iform), .int (nI Iopens), .int (nI InUnits), .int Iunits, .int (nI IownUnits), .int (nI Ideep), .ref Masks, .ref MnLoud, .ref MnCliffAt, .ref MnSnow, .ref MnManAt, .ref MnVoice, .ref MnOn, .ref Mloud, .ref McliffAt, .ref MsnowTold, .ref MmanAt, .ref Mvoice, .ref Mon, .ref MnYes, .ref Myes, .int (nI InWords), .int (nI InCliffs), .int (nI InMen), .int (nI InStates), .int (nI InOns), .int InWind, .int InDraw, .int (nI Iwords), .int (nI Icliffs), .int (nI Imen), .int (nI Istates), .int Ions, .int IwindTold, .int InHasWind, .int InHasDraw, .ref Mnow, .ref Mcry, .ref Msnow, .ref Mecho, .int (nI IcryMany), .int IcallPlace, .int IcallVoice, .int Iwind, .int Ichance, .int (nI IechoMany), .ref Mwere, .int (nI Iacts), .int (nI Iundone), .ref Mlies, .int (nI Ilain), .ref Mspots, .ref Msteps, .ref MfromState, .ref MbyWord, .ref Mqueue, .ref MsoundCliff, .ref MsoundLong, .ref MsoundCame, .ref MsoundTold, .ref MsoundUntold, .int (nI Isounds), .int Itime, .ref Mstands, .int IstandMany, .ref Mtally, .ref MhasBox, .ref Mboxes]] (fun (r : Int32) (_ : Unit) => (r = 0 ∨ r = 1) ∧ (r = 0 ∨ (r = 1 ∧ ∃ j9 : Nat, j9 < Icliffs ∧ ix = nI j9)) ∧ (r = 0 → ¬ inR ix Icliffs)) (fun (_ : Unit) => [wO m0 12 [.ref Mtape, .int (nI Itaped), .int (nI Ifault), .int IfaultPlace, .int (nI Iat), .int (nI Isize), .int Isort, .int Iplace, .int Inumber, .long Iword, .ref MnName, .ref MnStep, .ref MnArg, .ref MnMany, .ref Mstep, .ref Marg, .ref Mmany, .ref Mopen, .ref Mvalues, .ref MnHasForm, .ref MhasForm, .int (nI Iform), .int (nI Iopens), .int (nI InUnits), .int Iunits, .int (nI IownUnits), .int (nI Ideep), .ref Masks, .ref MnLoud, .ref MnCliffAt, .ref MnSnow, .ref MnManAt, .ref MnVoice, .ref MnOn, .ref Mloud, .ref McliffAt, .ref MsnowTold, .ref MmanAt, .ref Mvoice, .ref Mon, .ref MnYes, .ref Myes, .int (nI InWords), .int (nI InCliffs), .int (nI InMen), .int (nI InStates), .int (nI InOns), .int InWind, .int InDraw, .int (nI Iwords), .int (nI Icliffs), .int (nI Imen), .int (nI Istates), .int Ions, .int IwindTold, .int InHasWind, .int InHasDraw, .ref Mnow, .ref Mcry, .ref Msnow, .ref Mecho, .int (nI IcryMany), .int IcallPlace, .int IcallVoice, .int Iwind, .int Ichance, .int (nI IechoMany), .ref Mwere, .int (nI Iacts), .int (nI Iundone), .ref Mlies, .int (nI Ilain), .ref Mspots, .ref Msteps, .ref MfromState, .ref MbyWord, .ref Mqueue, .ref MsoundCliff, .ref MsoundLong, .ref MsoundCame, .ref MsoundTold, .ref MsoundUntold, .int (nI Isounds), .int Itime, .ref Mstands, .int IstandMany, .ref Mtally, .ref MhasBox, .ref Mboxes]]) := by
  refine XMi.start (by decide) (Nat.le_of_ble_eq_true rfl) ?_
  intro p e s m below meth c args A ls Q hat hQ
  obtain ⟨hx, hb, hr, hml, hown, hg, hlocks, hin, hK, hA, hP, hD, hS, hE, hl⟩ := hat
  have hown : s.vm.findClass RX12 = some m.cls := hown
  have hl : lv_has ls 2 [(0, .ref m0), (1, .int ix)] := hl
  refine lv_iload_n hx hb dX12_isCliff_0 rfl (lv_at hl 1 rfl) ?_
  refine lv_iconst (v := 0) hx hb dX12_isCliff_1 (by decide) ?_
  refine lv_aload_n hx hb dX12_isCliff_2 rfl (lv_at hl 0 rfl) ?_
  refine va_get (D := D) (ci := 12) (v := .int (nI Icliffs)) (C := RX12) (T := TX12) (N := 89) hx hb hg i_X12 hown hK hP 0 rfl rfl 50 (by decide) (hg _ m_1463) (fun _ h9 => h9) rfl dX12_isCliff_3 ?_
  refine lv_iconst (v := 1) hx hb dX12_isCliff_6 (by decide) ?_
  refine lv_isub hx hb dX12_isCliff_7 ?_
  refine lv_topi (fun x_1 ex_1 => ?_)
  refine x_callSi (wr := [wO m0 12 [.ref Mtape, .int (nI Itaped), .int (nI Ifault), .int IfaultPlace, .int (nI Iat), .int (nI Isize), .int Isort, .int Iplace, .int Inumber, .long Iword, .ref MnName, .ref MnStep, .ref MnArg, .ref MnMany, .ref Mstep, .ref Marg, .ref Mmany, .ref Mopen, .ref Mvalues, .ref MnHasForm, .ref MhasForm, .int (nI Iform), .int (nI Iopens), .int (nI InUnits), .int Iunits, .int (nI IownUnits), .int (nI Ideep), .ref Masks, .ref MnLoud, .ref MnCliffAt, .ref MnSnow, .ref MnManAt, .ref MnVoice, .ref MnOn, .ref Mloud, .ref McliffAt, .ref MsnowTold, .ref MmanAt, .ref Mvoice, .ref Mon, .ref MnYes, .ref Myes, .int (nI InWords), .int (nI InCliffs), .int (nI InMen), .int (nI InStates), .int (nI InOns), .int InWind, .int InDraw, .int (nI Iwords), .int (nI Icliffs), .int (nI Imen), .int (nI Istates), .int Ions, .int IwindTold, .int InHasWind, .int InHasDraw, .ref Mnow, .ref Mcry, .ref Msnow, .ref Mecho, .int (nI IcryMany), .int IcallPlace, .int IcallVoice, .int Iwind, .int Ichance, .int (nI IechoMany), .ref Mwere, .int (nI Iacts), .int (nI Iundone), .ref Mlies, .int (nI Ilain), .ref Mspots, .ref Msteps, .ref MfromState, .ref MbyWord, .ref Mqueue, .ref MsoundCliff, .ref MsoundLong, .ref MsoundCame, .ref MsoundTold, .ref MsoundUntold, .int (nI Isounds), .int Itime, .ref Mstands, .int IstandMany, .ref Mtally, .ref MhasBox, .ref Mboxes]]) (rest := []) ⟨hx, hb, hml, hown, hg, hl.1⟩ k_X12_436 (r_isIn l D cy ix 0 x_1) E0_blind hK hP hD hS hA [] [0] ⟨rfl, rfl, by decide +kernel, by decide +kernel, by decide +kernel⟩ (fun _ _ _ => trivial) dX12_isCliff_8 rfl rfl (Nat.le_of_ble_eq_true rfl) ⟨Nat.le_of_ble_eq_true rfl, Nat.le_of_ble_eq_true rfl⟩ ⟨Nat.le_of_ble_eq_true rfl, Nat.le_of_ble_eq_true rfl⟩ (fun zr2 zu2 H locs hw2 hP9 hD9 hS9 => ?_)
  clear hP hD hS
  refine reW [wO m0 12 [.ref Mtape, .int (nI Itaped), .int (nI Ifault), .int IfaultPlace, .int (nI Iat), .int (nI Isize), .int Isort, .int Iplace, .int Inumber, .long Iword, .ref MnName, .ref MnStep, .ref MnArg, .ref MnMany, .ref Mstep, .ref Marg, .ref Mmany, .ref Mopen, .ref Mvalues, .ref MnHasForm, .ref MhasForm, .int (nI Iform), .int (nI Iopens), .int (nI InUnits), .int Iunits, .int (nI IownUnits), .int (nI Ideep), .ref Masks, .ref MnLoud, .ref MnCliffAt, .ref MnSnow, .ref MnManAt, .ref MnVoice, .ref MnOn, .ref Mloud, .ref McliffAt, .ref MsnowTold, .ref MmanAt, .ref Mvoice, .ref Mon, .ref MnYes, .ref Myes, .int (nI InWords), .int (nI InCliffs), .int (nI InMen), .int (nI InStates), .int (nI InOns), .int InWind, .int InDraw, .int (nI Iwords), .int (nI Icliffs), .int (nI Imen), .int (nI Istates), .int Ions, .int IwindTold, .int InHasWind, .int InHasDraw, .ref Mnow, .ref Mcry, .ref Msnow, .ref Mecho, .int (nI IcryMany), .int IcallPlace, .int IcallVoice, .int Iwind, .int Ichance, .int (nI IechoMany), .ref Mwere, .int (nI Iacts), .int (nI Iundone), .ref Mlies, .int (nI Ilain), .ref Mspots, .ref Msteps, .ref MfromState, .ref MbyWord, .ref Mqueue, .ref MsoundCliff, .ref MsoundLong, .ref MsoundCame, .ref MsoundTold, .ref MsoundUntold, .int (nI Isounds), .int Itime, .ref Mstands, .int IstandMany, .ref Mtally, .ref MhasBox, .ref Mboxes]] hP9 hD9 hS9 (fun hP hD hS => ?_)
  clear hP9 hD9 hS9
  refine W.widen (k := 0) (n := 0) (Nat.le_of_ble_eq_true rfl) (Nat.le_of_ble_eq_true rfl) ?_
  change (zr2 = 0 ∨ zr2 = 1) ∧ (zr2 = 0 ∨ (zr2 = 1 ∧ ¬ ix < (0 : Int32) ∧ ¬ x_1 < ix)) ∧ (zr2 = 0 → (ix < (0 : Int32) ∨ x_1 < ix)) at hw2
  obtain ⟨f_3, f_4, f_5⟩ := hw2
  exact x_zret hQ hx hb hr hlocks hK hP hD hS (narB f_3) dX12_isCliff_11 () (⟨f_3, (show (zr2 : Int32) = 0 ∨ ((zr2 : Int32) = 1 ∧ ∃ j9 : Nat, j9 < Icliffs ∧ ix = nI j9) from f_4.elim Or.inl (fun hq9 => Or.inr ⟨hq9.1, isin_lt (n := Icliffs) (by omega) hq9.2.1 (by rw [← ex_1]; exact hq9.2.2)⟩)), (show (zr2 : Int32) = 0 → ¬ inR ix Icliffs from fun h9 => inR_isin (n := Icliffs) (by omega) (by rw [← ex_1]; exact f_5 h9))⟩) [0] (by decide +kernel) rfl (Nat.le_of_ble_eq_true rfl) (Nat.le_of_ble_eq_true rfl)
theorem gdX12_isMan_0 : decode cX12_isMan 0 = .ok (.iload_n 1, 1) ∧ decode cX12_isMan 1 = .ok (.iconst 0, 1) ∧ decode cX12_isMan 2 = .ok (.aload_n 0, 1) ∧ decode cX12_isMan 3 = .ok (.getfield 409, 3) ∧ decode cX12_isMan 6 = .ok (.iconst 1, 1) ∧ decode cX12_isMan 7 = .ok (.isub, 1) ∧ decode cX12_isMan 8 = .ok (.invokestatic 436, 3) ∧ decode cX12_isMan 11 = .ok (.ireturn, 1) := by decide +kernel
theorem dX12_isMan_0 : decode cX12_isMan 0 = .ok (.iload_n 1, 1) := gdX12_isMan_0.1
theorem dX12_isMan_1 : decode cX12_isMan 1 = .ok (.iconst 0, 1) := gdX12_isMan_0.2.1
theorem dX12_isMan_2 : decode cX12_isMan 2 = .ok (.aload_n 0, 1) := gdX12_isMan_0.2.2.1
theorem dX12_isMan_3 : decode cX12_isMan 3 = .ok (.getfield 409, 3) := gdX12_isMan_0.2.2.2.1
theorem dX12_isMan_6 : decode cX12_isMan 6 = .ok (.iconst 1, 1) := gdX12_isMan_0.2.2.2.2.1
theorem dX12_isMan_7 : decode cX12_isMan 7 = .ok (.isub, 1) := gdX12_isMan_0.2.2.2.2.2.1
theorem dX12_isMan_8 : decode cX12_isMan 8 = .ok (.invokestatic 436, 3) := gdX12_isMan_0.2.2.2.2.2.2.1
theorem dX12_isMan_11 : decode cX12_isMan 11 = .ok (.ireturn, 1) := gdX12_isMan_0.2.2.2.2.2.2.2
set_option maxHeartbeats 1000000 in
set_option maxRecDepth 100000 in
theorem r_isMan (l : Launch) (D : va_G) (cy : Nat → ClassId) (m0 : Nat) (Mtape : Nat) (MnName : Nat) (MnStep : Nat) (MnArg : Nat) (MnMany : Nat) (Mstep : Nat) (Marg : Nat) (Mmany : Nat) (Mopen : Nat) (Mvalues : Nat) (MnHasForm : Nat) (MhasForm : Nat) (Masks : Nat) (MnLoud : Nat) (MnCliffAt : Nat) (MnSnow : Nat) (MnManAt : Nat) (MnVoice : Nat) (MnOn : Nat) (Mloud : Nat) (McliffAt : Nat) (MsnowTold : Nat) (MmanAt : Nat) (Mvoice : Nat) (Mon : Nat) (MnYes : Nat) (Myes : Nat) (Mnow : Nat) (Mcry : Nat) (Msnow : Nat) (Mecho : Nat) (Mwere : Nat) (Mlies : Nat) (Mspots : Nat) (Msteps : Nat) (MfromState : Nat) (MbyWord : Nat) (Mqueue : Nat) (MsoundCliff : Nat) (MsoundLong : Nat) (MsoundCame : Nat) (MsoundTold : Nat) (MsoundUntold : Nat) (Mstands : Nat) (Mtally : Nat) (MhasBox : Nat) (Mboxes : Nat) (Itaped : Nat) (Ifault : Nat) (IfaultPlace : Int32) (Iat : Nat) (Isize : Nat) (Isort : Int32) (Iplace : Int32) (Inumber : Int32) (Iword : Int64) (Iform : Nat) (Iopens : Nat) (InUnits : Nat) (Iunits : Int32) (IownUnits : Nat) (Ideep : Nat) (InWords : Nat) (InCliffs : Nat) (InMen : Nat) (InStates : Nat) (InOns : Nat) (InWind : Int32) (InDraw : Int32) (Iwords : Nat) (Icliffs : Nat) (Imen : Nat) (Istates : Nat) (Ions : Int32) (IwindTold : Int32) (InHasWind : Int32) (InHasDraw : Int32) (IcryMany : Nat) (IcallPlace : Int32) (IcallVoice : Int32) (Iwind : Int32) (Ichance : Int32) (IechoMany : Nat) (Iacts : Nat) (Iundone : Nat) (Ilain : Nat) (Isounds : Nat) (Itime : Int32) (IstandMany : Int32) (ix : Int32) (gtp : Itaped ≤ 1600) (gat : Iat ≤ Isize) (gsz : Isize ≤ 1600) (gfl : Ifault ≤ 5) (gfo : Iform ≤ 2) (gnw : InWords ≤ 8) (gnc : InCliffs ≤ 4) (gnm : InMen ≤ 4) (gns : InStates ≤ 6) (gw : Iwords ≤ 8) (gc9 : Icliffs ≤ 4) (gm : Imen ≤ 4) (gs : Istates ≤ 6) (gcm : IcryMany ≤ 10) (gem : IechoMany ≤ 20) (gau : Iacts + Iundone ≤ 40) (gla : Ilain ≤ 20) (gso : Isounds ≤ 30) (gop : Iopens ≤ 40) (gde : Ideep ≤ 8) (gou : IownUnits ≤ 31) (gnu : InUnits ≤ 61) (gno : InOns ≤ 30) : XMi l D (tyL cy) E0 yX12_isMan cX12_isMan 2 (some .boolean) (rmk 1 0 0) [.ref m0, .int ix] [wO m0 12 [.ref Mtape, .int (nI Itaped), .int (nI Ifault), .int IfaultPlace, .int (nI Iat), .int (nI Isize), .int Isort, .int Iplace, .int Inumber, .long Iword, .ref MnName, .ref MnStep, .ref MnArg, .ref MnMany, .ref Mstep, .ref Marg, .ref Mmany, .ref Mopen, .ref Mvalues, .ref MnHasForm, .ref MhasForm, .int (nI Iform), .int (nI Iopens), .int (nI InUnits), .int Iunits, .int (nI IownUnits), .int (nI Ideep), .ref Masks, .ref MnLoud, .ref MnCliffAt, .ref MnSnow, .ref MnManAt, .ref MnVoice, .ref MnOn, .ref Mloud, .ref McliffAt, .ref MsnowTold, .ref MmanAt, .ref Mvoice, .ref Mon, .ref MnYes, .ref Myes, .int (nI InWords), .int (nI InCliffs), .int (nI InMen), .int (nI InStates), .int (nI InOns), .int InWind, .int InDraw, .int (nI Iwords), .int (nI Icliffs), .int (nI Imen), .int (nI Istates), .int Ions, .int IwindTold, .int InHasWind, .int InHasDraw, .ref Mnow, .ref Mcry, .ref Msnow, .ref Mecho, .int (nI IcryMany), .int IcallPlace, .int IcallVoice, .int Iwind, .int Ichance, .int (nI IechoMany), .ref Mwere, .int (nI Iacts), .int (nI Iundone), .ref Mlies, .int (nI Ilain), .ref Mspots, .ref Msteps, .ref MfromState, .ref MbyWord, .ref Mqueue, .ref MsoundCliff, .ref MsoundLong, .ref MsoundCame, .ref MsoundTold, .ref MsoundUntold, .int (nI Isounds), .int Itime, .ref Mstands, .int IstandMany, .ref Mtally, .ref MhasBox, .ref Mboxes]] (fun (r : Int32) (_ : Unit) => (r = 0 ∨ r = 1) ∧ (r = 0 ∨ (r = 1 ∧ ∃ j9 : Nat, j9 < Imen ∧ ix = nI j9)) ∧ (r = 0 → ¬ inR ix Imen)) (fun (_ : Unit) => [wO m0 12 [.ref Mtape, .int (nI Itaped), .int (nI Ifault), .int IfaultPlace, .int (nI Iat), .int (nI Isize), .int Isort, .int Iplace, .int Inumber, .long Iword, .ref MnName, .ref MnStep, .ref MnArg, .ref MnMany, .ref Mstep, .ref Marg, .ref Mmany, .ref Mopen, .ref Mvalues, .ref MnHasForm, .ref MhasForm, .int (nI Iform), .int (nI Iopens), .int (nI InUnits), .int Iunits, .int (nI IownUnits), .int (nI Ideep), .ref Masks, .ref MnLoud, .ref MnCliffAt, .ref MnSnow, .ref MnManAt, .ref MnVoice, .ref MnOn, .ref Mloud, .ref McliffAt, .ref MsnowTold, .ref MmanAt, .ref Mvoice, .ref Mon, .ref MnYes, .ref Myes, .int (nI InWords), .int (nI InCliffs), .int (nI InMen), .int (nI InStates), .int (nI InOns), .int InWind, .int InDraw, .int (nI Iwords), .int (nI Icliffs), .int (nI Imen), .int (nI Istates), .int Ions, .int IwindTold, .int InHasWind, .int InHasDraw, .ref Mnow, .ref Mcry, .ref Msnow, .ref Mecho, .int (nI IcryMany), .int IcallPlace, .int IcallVoice, .int Iwind, .int Ichance, .int (nI IechoMany), .ref Mwere, .int (nI Iacts), .int (nI Iundone), .ref Mlies, .int (nI Ilain), .ref Mspots, .ref Msteps, .ref MfromState, .ref MbyWord, .ref Mqueue, .ref MsoundCliff, .ref MsoundLong, .ref MsoundCame, .ref MsoundTold, .ref MsoundUntold, .int (nI Isounds), .int Itime, .ref Mstands, .int IstandMany, .ref Mtally, .ref MhasBox, .ref Mboxes]]) := by
  refine XMi.start (by decide) (Nat.le_of_ble_eq_true rfl) ?_
  intro p e s m below meth c args A ls Q hat hQ
  obtain ⟨hx, hb, hr, hml, hown, hg, hlocks, hin, hK, hA, hP, hD, hS, hE, hl⟩ := hat
  have hown : s.vm.findClass RX12 = some m.cls := hown
  have hl : lv_has ls 2 [(0, .ref m0), (1, .int ix)] := hl
  refine lv_iload_n hx hb dX12_isMan_0 rfl (lv_at hl 1 rfl) ?_
  refine lv_iconst (v := 0) hx hb dX12_isMan_1 (by decide) ?_
  refine lv_aload_n hx hb dX12_isMan_2 rfl (lv_at hl 0 rfl) ?_
  refine va_get (D := D) (ci := 12) (v := .int (nI Imen)) (C := RX12) (T := TX12) (N := 89) hx hb hg i_X12 hown hK hP 0 rfl rfl 51 (by decide) (hg _ m_1464) (fun _ h9 => h9) rfl dX12_isMan_3 ?_
  refine lv_iconst (v := 1) hx hb dX12_isMan_6 (by decide) ?_
  refine lv_isub hx hb dX12_isMan_7 ?_
  refine lv_topi (fun x_1 ex_1 => ?_)
  refine x_callSi (wr := [wO m0 12 [.ref Mtape, .int (nI Itaped), .int (nI Ifault), .int IfaultPlace, .int (nI Iat), .int (nI Isize), .int Isort, .int Iplace, .int Inumber, .long Iword, .ref MnName, .ref MnStep, .ref MnArg, .ref MnMany, .ref Mstep, .ref Marg, .ref Mmany, .ref Mopen, .ref Mvalues, .ref MnHasForm, .ref MhasForm, .int (nI Iform), .int (nI Iopens), .int (nI InUnits), .int Iunits, .int (nI IownUnits), .int (nI Ideep), .ref Masks, .ref MnLoud, .ref MnCliffAt, .ref MnSnow, .ref MnManAt, .ref MnVoice, .ref MnOn, .ref Mloud, .ref McliffAt, .ref MsnowTold, .ref MmanAt, .ref Mvoice, .ref Mon, .ref MnYes, .ref Myes, .int (nI InWords), .int (nI InCliffs), .int (nI InMen), .int (nI InStates), .int (nI InOns), .int InWind, .int InDraw, .int (nI Iwords), .int (nI Icliffs), .int (nI Imen), .int (nI Istates), .int Ions, .int IwindTold, .int InHasWind, .int InHasDraw, .ref Mnow, .ref Mcry, .ref Msnow, .ref Mecho, .int (nI IcryMany), .int IcallPlace, .int IcallVoice, .int Iwind, .int Ichance, .int (nI IechoMany), .ref Mwere, .int (nI Iacts), .int (nI Iundone), .ref Mlies, .int (nI Ilain), .ref Mspots, .ref Msteps, .ref MfromState, .ref MbyWord, .ref Mqueue, .ref MsoundCliff, .ref MsoundLong, .ref MsoundCame, .ref MsoundTold, .ref MsoundUntold, .int (nI Isounds), .int Itime, .ref Mstands, .int IstandMany, .ref Mtally, .ref MhasBox, .ref Mboxes]]) (rest := []) ⟨hx, hb, hml, hown, hg, hl.1⟩ k_X12_436 (r_isIn l D cy ix 0 x_1) E0_blind hK hP hD hS hA [] [0] ⟨rfl, rfl, by decide +kernel, by decide +kernel, by decide +kernel⟩ (fun _ _ _ => trivial) dX12_isMan_8 rfl rfl (Nat.le_of_ble_eq_true rfl) ⟨Nat.le_of_ble_eq_true rfl, Nat.le_of_ble_eq_true rfl⟩ ⟨Nat.le_of_ble_eq_true rfl, Nat.le_of_ble_eq_true rfl⟩ (fun zr2 zu2 H locs hw2 hP9 hD9 hS9 => ?_)
  clear hP hD hS
  refine reW [wO m0 12 [.ref Mtape, .int (nI Itaped), .int (nI Ifault), .int IfaultPlace, .int (nI Iat), .int (nI Isize), .int Isort, .int Iplace, .int Inumber, .long Iword, .ref MnName, .ref MnStep, .ref MnArg, .ref MnMany, .ref Mstep, .ref Marg, .ref Mmany, .ref Mopen, .ref Mvalues, .ref MnHasForm, .ref MhasForm, .int (nI Iform), .int (nI Iopens), .int (nI InUnits), .int Iunits, .int (nI IownUnits), .int (nI Ideep), .ref Masks, .ref MnLoud, .ref MnCliffAt, .ref MnSnow, .ref MnManAt, .ref MnVoice, .ref MnOn, .ref Mloud, .ref McliffAt, .ref MsnowTold, .ref MmanAt, .ref Mvoice, .ref Mon, .ref MnYes, .ref Myes, .int (nI InWords), .int (nI InCliffs), .int (nI InMen), .int (nI InStates), .int (nI InOns), .int InWind, .int InDraw, .int (nI Iwords), .int (nI Icliffs), .int (nI Imen), .int (nI Istates), .int Ions, .int IwindTold, .int InHasWind, .int InHasDraw, .ref Mnow, .ref Mcry, .ref Msnow, .ref Mecho, .int (nI IcryMany), .int IcallPlace, .int IcallVoice, .int Iwind, .int Ichance, .int (nI IechoMany), .ref Mwere, .int (nI Iacts), .int (nI Iundone), .ref Mlies, .int (nI Ilain), .ref Mspots, .ref Msteps, .ref MfromState, .ref MbyWord, .ref Mqueue, .ref MsoundCliff, .ref MsoundLong, .ref MsoundCame, .ref MsoundTold, .ref MsoundUntold, .int (nI Isounds), .int Itime, .ref Mstands, .int IstandMany, .ref Mtally, .ref MhasBox, .ref Mboxes]] hP9 hD9 hS9 (fun hP hD hS => ?_)
  clear hP9 hD9 hS9
  refine W.widen (k := 0) (n := 0) (Nat.le_of_ble_eq_true rfl) (Nat.le_of_ble_eq_true rfl) ?_
  change (zr2 = 0 ∨ zr2 = 1) ∧ (zr2 = 0 ∨ (zr2 = 1 ∧ ¬ ix < (0 : Int32) ∧ ¬ x_1 < ix)) ∧ (zr2 = 0 → (ix < (0 : Int32) ∨ x_1 < ix)) at hw2
  obtain ⟨f_3, f_4, f_5⟩ := hw2
  exact x_zret hQ hx hb hr hlocks hK hP hD hS (narB f_3) dX12_isMan_11 () (⟨f_3, (show (zr2 : Int32) = 0 ∨ ((zr2 : Int32) = 1 ∧ ∃ j9 : Nat, j9 < Imen ∧ ix = nI j9) from f_4.elim Or.inl (fun hq9 => Or.inr ⟨hq9.1, isin_lt (n := Imen) (by omega) hq9.2.1 (by rw [← ex_1]; exact hq9.2.2)⟩)), (show (zr2 : Int32) = 0 → ¬ inR ix Imen from fun h9 => inR_isin (n := Imen) (by omega) (by rw [← ex_1]; exact f_5 h9))⟩) [0] (by decide +kernel) rfl (Nat.le_of_ble_eq_true rfl) (Nat.le_of_ble_eq_true rfl)
theorem gdX12_isSaid_0 : decode cX12_isSaid 0 = .ok (.iload_n 1, 1) ∧ decode cX12_isSaid 1 = .ok (.iconst 0, 1) ∧ decode cX12_isSaid 2 = .ok (.aload_n 0, 1) ∧ decode cX12_isSaid 3 = .ok (.getfield 403, 3) ∧ decode cX12_isSaid 6 = .ok (.iconst 1, 1) ∧ decode cX12_isSaid 7 = .ok (.isub, 1) ∧ decode cX12_isSaid 8 = .ok (.invokestatic 436, 3) ∧ decode cX12_isSaid 11 = .ok (.ireturn, 1) := by decide +kernel
theorem dX12_isSaid_0 : decode cX12_isSaid 0 = .ok (.iload_n 1, 1) := gdX12_isSaid_0.1
theorem dX12_isSaid_1 : decode cX12_isSaid 1 = .ok (.iconst 0, 1) := gdX12_isSaid_0.2.1
theorem dX12_isSaid_2 : decode cX12_isSaid 2 = .ok (.aload_n 0, 1) := gdX12_isSaid_0.2.2.1
theorem dX12_isSaid_3 : decode cX12_isSaid 3 = .ok (.getfield 403, 3) := gdX12_isSaid_0.2.2.2.1
theorem dX12_isSaid_6 : decode cX12_isSaid 6 = .ok (.iconst 1, 1) := gdX12_isSaid_0.2.2.2.2.1
theorem dX12_isSaid_7 : decode cX12_isSaid 7 = .ok (.isub, 1) := gdX12_isSaid_0.2.2.2.2.2.1
theorem dX12_isSaid_8 : decode cX12_isSaid 8 = .ok (.invokestatic 436, 3) := gdX12_isSaid_0.2.2.2.2.2.2.1
theorem dX12_isSaid_11 : decode cX12_isSaid 11 = .ok (.ireturn, 1) := gdX12_isSaid_0.2.2.2.2.2.2.2
set_option maxHeartbeats 1000000 in
set_option maxRecDepth 100000 in
theorem r_isSaid (l : Launch) (D : va_G) (cy : Nat → ClassId) (m0 : Nat) (Mtape : Nat) (MnName : Nat) (MnStep : Nat) (MnArg : Nat) (MnMany : Nat) (Mstep : Nat) (Marg : Nat) (Mmany : Nat) (Mopen : Nat) (Mvalues : Nat) (MnHasForm : Nat) (MhasForm : Nat) (Masks : Nat) (MnLoud : Nat) (MnCliffAt : Nat) (MnSnow : Nat) (MnManAt : Nat) (MnVoice : Nat) (MnOn : Nat) (Mloud : Nat) (McliffAt : Nat) (MsnowTold : Nat) (MmanAt : Nat) (Mvoice : Nat) (Mon : Nat) (MnYes : Nat) (Myes : Nat) (Mnow : Nat) (Mcry : Nat) (Msnow : Nat) (Mecho : Nat) (Mwere : Nat) (Mlies : Nat) (Mspots : Nat) (Msteps : Nat) (MfromState : Nat) (MbyWord : Nat) (Mqueue : Nat) (MsoundCliff : Nat) (MsoundLong : Nat) (MsoundCame : Nat) (MsoundTold : Nat) (MsoundUntold : Nat) (Mstands : Nat) (Mtally : Nat) (MhasBox : Nat) (Mboxes : Nat) (Itaped : Nat) (Ifault : Nat) (IfaultPlace : Int32) (Iat : Nat) (Isize : Nat) (Isort : Int32) (Iplace : Int32) (Inumber : Int32) (Iword : Int64) (Iform : Nat) (Iopens : Nat) (InUnits : Nat) (Iunits : Int32) (IownUnits : Nat) (Ideep : Nat) (InWords : Nat) (InCliffs : Nat) (InMen : Nat) (InStates : Nat) (InOns : Nat) (InWind : Int32) (InDraw : Int32) (Iwords : Nat) (Icliffs : Nat) (Imen : Nat) (Istates : Nat) (Ions : Int32) (IwindTold : Int32) (InHasWind : Int32) (InHasDraw : Int32) (IcryMany : Nat) (IcallPlace : Int32) (IcallVoice : Int32) (Iwind : Int32) (Ichance : Int32) (IechoMany : Nat) (Iacts : Nat) (Iundone : Nat) (Ilain : Nat) (Isounds : Nat) (Itime : Int32) (IstandMany : Int32) (ix : Int32) (gtp : Itaped ≤ 1600) (gat : Iat ≤ Isize) (gsz : Isize ≤ 1600) (gfl : Ifault ≤ 5) (gfo : Iform ≤ 2) (gnw : InWords ≤ 8) (gnc : InCliffs ≤ 4) (gnm : InMen ≤ 4) (gns : InStates ≤ 6) (gw : Iwords ≤ 8) (gc9 : Icliffs ≤ 4) (gm : Imen ≤ 4) (gs : Istates ≤ 6) (gcm : IcryMany ≤ 10) (gem : IechoMany ≤ 20) (gau : Iacts + Iundone ≤ 40) (gla : Ilain ≤ 20) (gso : Isounds ≤ 30) (gop : Iopens ≤ 40) (gde : Ideep ≤ 8) (gou : IownUnits ≤ 31) (gnu : InUnits ≤ 61) (gno : InOns ≤ 30) : XMi l D (tyL cy) E0 yX12_isSaid cX12_isSaid 2 (some .boolean) (rmk 1 0 0) [.ref m0, .int ix] [wO m0 12 [.ref Mtape, .int (nI Itaped), .int (nI Ifault), .int IfaultPlace, .int (nI Iat), .int (nI Isize), .int Isort, .int Iplace, .int Inumber, .long Iword, .ref MnName, .ref MnStep, .ref MnArg, .ref MnMany, .ref Mstep, .ref Marg, .ref Mmany, .ref Mopen, .ref Mvalues, .ref MnHasForm, .ref MhasForm, .int (nI Iform), .int (nI Iopens), .int (nI InUnits), .int Iunits, .int (nI IownUnits), .int (nI Ideep), .ref Masks, .ref MnLoud, .ref MnCliffAt, .ref MnSnow, .ref MnManAt, .ref MnVoice, .ref MnOn, .ref Mloud, .ref McliffAt, .ref MsnowTold, .ref MmanAt, .ref Mvoice, .ref Mon, .ref MnYes, .ref Myes, .int (nI InWords), .int (nI InCliffs), .int (nI InMen), .int (nI InStates), .int (nI InOns), .int InWind, .int InDraw, .int (nI Iwords), .int (nI Icliffs), .int (nI Imen), .int (nI Istates), .int Ions, .int IwindTold, .int InHasWind, .int InHasDraw, .ref Mnow, .ref Mcry, .ref Msnow, .ref Mecho, .int (nI IcryMany), .int IcallPlace, .int IcallVoice, .int Iwind, .int Ichance, .int (nI IechoMany), .ref Mwere, .int (nI Iacts), .int (nI Iundone), .ref Mlies, .int (nI Ilain), .ref Mspots, .ref Msteps, .ref MfromState, .ref MbyWord, .ref Mqueue, .ref MsoundCliff, .ref MsoundLong, .ref MsoundCame, .ref MsoundTold, .ref MsoundUntold, .int (nI Isounds), .int Itime, .ref Mstands, .int IstandMany, .ref Mtally, .ref MhasBox, .ref Mboxes]] (fun (r : Int32) (_ : Unit) => (r = 0 ∨ r = 1) ∧ (r = 0 ∨ (r = 1 ∧ ∃ j9 : Nat, j9 < Iwords ∧ ix = nI j9)) ∧ (r = 0 → ¬ inR ix Iwords)) (fun (_ : Unit) => [wO m0 12 [.ref Mtape, .int (nI Itaped), .int (nI Ifault), .int IfaultPlace, .int (nI Iat), .int (nI Isize), .int Isort, .int Iplace, .int Inumber, .long Iword, .ref MnName, .ref MnStep, .ref MnArg, .ref MnMany, .ref Mstep, .ref Marg, .ref Mmany, .ref Mopen, .ref Mvalues, .ref MnHasForm, .ref MhasForm, .int (nI Iform), .int (nI Iopens), .int (nI InUnits), .int Iunits, .int (nI IownUnits), .int (nI Ideep), .ref Masks, .ref MnLoud, .ref MnCliffAt, .ref MnSnow, .ref MnManAt, .ref MnVoice, .ref MnOn, .ref Mloud, .ref McliffAt, .ref MsnowTold, .ref MmanAt, .ref Mvoice, .ref Mon, .ref MnYes, .ref Myes, .int (nI InWords), .int (nI InCliffs), .int (nI InMen), .int (nI InStates), .int (nI InOns), .int InWind, .int InDraw, .int (nI Iwords), .int (nI Icliffs), .int (nI Imen), .int (nI Istates), .int Ions, .int IwindTold, .int InHasWind, .int InHasDraw, .ref Mnow, .ref Mcry, .ref Msnow, .ref Mecho, .int (nI IcryMany), .int IcallPlace, .int IcallVoice, .int Iwind, .int Ichance, .int (nI IechoMany), .ref Mwere, .int (nI Iacts), .int (nI Iundone), .ref Mlies, .int (nI Ilain), .ref Mspots, .ref Msteps, .ref MfromState, .ref MbyWord, .ref Mqueue, .ref MsoundCliff, .ref MsoundLong, .ref MsoundCame, .ref MsoundTold, .ref MsoundUntold, .int (nI Isounds), .int Itime, .ref Mstands, .int IstandMany, .ref Mtally, .ref MhasBox, .ref Mboxes]]) := by
  refine XMi.start (by decide) (Nat.le_of_ble_eq_true rfl) ?_
  intro p e s m below meth c args A ls Q hat hQ
  obtain ⟨hx, hb, hr, hml, hown, hg, hlocks, hin, hK, hA, hP, hD, hS, hE, hl⟩ := hat
  have hown : s.vm.findClass RX12 = some m.cls := hown
  have hl : lv_has ls 2 [(0, .ref m0), (1, .int ix)] := hl
  refine lv_iload_n hx hb dX12_isSaid_0 rfl (lv_at hl 1 rfl) ?_
  refine lv_iconst (v := 0) hx hb dX12_isSaid_1 (by decide) ?_
  refine lv_aload_n hx hb dX12_isSaid_2 rfl (lv_at hl 0 rfl) ?_
  refine va_get (D := D) (ci := 12) (v := .int (nI Iwords)) (C := RX12) (T := TX12) (N := 89) hx hb hg i_X12 hown hK hP 0 rfl rfl 49 (by decide) (hg _ m_1462) (fun _ h9 => h9) rfl dX12_isSaid_3 ?_
  refine lv_iconst (v := 1) hx hb dX12_isSaid_6 (by decide) ?_
  refine lv_isub hx hb dX12_isSaid_7 ?_
  refine lv_topi (fun x_1 ex_1 => ?_)
  refine x_callSi (wr := [wO m0 12 [.ref Mtape, .int (nI Itaped), .int (nI Ifault), .int IfaultPlace, .int (nI Iat), .int (nI Isize), .int Isort, .int Iplace, .int Inumber, .long Iword, .ref MnName, .ref MnStep, .ref MnArg, .ref MnMany, .ref Mstep, .ref Marg, .ref Mmany, .ref Mopen, .ref Mvalues, .ref MnHasForm, .ref MhasForm, .int (nI Iform), .int (nI Iopens), .int (nI InUnits), .int Iunits, .int (nI IownUnits), .int (nI Ideep), .ref Masks, .ref MnLoud, .ref MnCliffAt, .ref MnSnow, .ref MnManAt, .ref MnVoice, .ref MnOn, .ref Mloud, .ref McliffAt, .ref MsnowTold, .ref MmanAt, .ref Mvoice, .ref Mon, .ref MnYes, .ref Myes, .int (nI InWords), .int (nI InCliffs), .int (nI InMen), .int (nI InStates), .int (nI InOns), .int InWind, .int InDraw, .int (nI Iwords), .int (nI Icliffs), .int (nI Imen), .int (nI Istates), .int Ions, .int IwindTold, .int InHasWind, .int InHasDraw, .ref Mnow, .ref Mcry, .ref Msnow, .ref Mecho, .int (nI IcryMany), .int IcallPlace, .int IcallVoice, .int Iwind, .int Ichance, .int (nI IechoMany), .ref Mwere, .int (nI Iacts), .int (nI Iundone), .ref Mlies, .int (nI Ilain), .ref Mspots, .ref Msteps, .ref MfromState, .ref MbyWord, .ref Mqueue, .ref MsoundCliff, .ref MsoundLong, .ref MsoundCame, .ref MsoundTold, .ref MsoundUntold, .int (nI Isounds), .int Itime, .ref Mstands, .int IstandMany, .ref Mtally, .ref MhasBox, .ref Mboxes]]) (rest := []) ⟨hx, hb, hml, hown, hg, hl.1⟩ k_X12_436 (r_isIn l D cy ix 0 x_1) E0_blind hK hP hD hS hA [] [0] ⟨rfl, rfl, by decide +kernel, by decide +kernel, by decide +kernel⟩ (fun _ _ _ => trivial) dX12_isSaid_8 rfl rfl (Nat.le_of_ble_eq_true rfl) ⟨Nat.le_of_ble_eq_true rfl, Nat.le_of_ble_eq_true rfl⟩ ⟨Nat.le_of_ble_eq_true rfl, Nat.le_of_ble_eq_true rfl⟩ (fun zr2 zu2 H locs hw2 hP9 hD9 hS9 => ?_)
  clear hP hD hS
  refine reW [wO m0 12 [.ref Mtape, .int (nI Itaped), .int (nI Ifault), .int IfaultPlace, .int (nI Iat), .int (nI Isize), .int Isort, .int Iplace, .int Inumber, .long Iword, .ref MnName, .ref MnStep, .ref MnArg, .ref MnMany, .ref Mstep, .ref Marg, .ref Mmany, .ref Mopen, .ref Mvalues, .ref MnHasForm, .ref MhasForm, .int (nI Iform), .int (nI Iopens), .int (nI InUnits), .int Iunits, .int (nI IownUnits), .int (nI Ideep), .ref Masks, .ref MnLoud, .ref MnCliffAt, .ref MnSnow, .ref MnManAt, .ref MnVoice, .ref MnOn, .ref Mloud, .ref McliffAt, .ref MsnowTold, .ref MmanAt, .ref Mvoice, .ref Mon, .ref MnYes, .ref Myes, .int (nI InWords), .int (nI InCliffs), .int (nI InMen), .int (nI InStates), .int (nI InOns), .int InWind, .int InDraw, .int (nI Iwords), .int (nI Icliffs), .int (nI Imen), .int (nI Istates), .int Ions, .int IwindTold, .int InHasWind, .int InHasDraw, .ref Mnow, .ref Mcry, .ref Msnow, .ref Mecho, .int (nI IcryMany), .int IcallPlace, .int IcallVoice, .int Iwind, .int Ichance, .int (nI IechoMany), .ref Mwere, .int (nI Iacts), .int (nI Iundone), .ref Mlies, .int (nI Ilain), .ref Mspots, .ref Msteps, .ref MfromState, .ref MbyWord, .ref Mqueue, .ref MsoundCliff, .ref MsoundLong, .ref MsoundCame, .ref MsoundTold, .ref MsoundUntold, .int (nI Isounds), .int Itime, .ref Mstands, .int IstandMany, .ref Mtally, .ref MhasBox, .ref Mboxes]] hP9 hD9 hS9 (fun hP hD hS => ?_)
  clear hP9 hD9 hS9
  refine W.widen (k := 0) (n := 0) (Nat.le_of_ble_eq_true rfl) (Nat.le_of_ble_eq_true rfl) ?_
  change (zr2 = 0 ∨ zr2 = 1) ∧ (zr2 = 0 ∨ (zr2 = 1 ∧ ¬ ix < (0 : Int32) ∧ ¬ x_1 < ix)) ∧ (zr2 = 0 → (ix < (0 : Int32) ∨ x_1 < ix)) at hw2
  obtain ⟨f_3, f_4, f_5⟩ := hw2
  exact x_zret hQ hx hb hr hlocks hK hP hD hS (narB f_3) dX12_isSaid_11 () (⟨f_3, (show (zr2 : Int32) = 0 ∨ ((zr2 : Int32) = 1 ∧ ∃ j9 : Nat, j9 < Iwords ∧ ix = nI j9) from f_4.elim Or.inl (fun hq9 => Or.inr ⟨hq9.1, isin_lt (n := Iwords) (by omega) hq9.2.1 (by rw [← ex_1]; exact hq9.2.2)⟩)), (show (zr2 : Int32) = 0 → ¬ inR ix Iwords from fun h9 => inR_isin (n := Iwords) (by omega) (by rw [← ex_1]; exact f_5 h9))⟩) [0] (by decide +kernel) rfl (Nat.le_of_ble_eq_true rfl) (Nat.le_of_ble_eq_true rfl)
theorem gdX12_isState_0 : decode cX12_isState 0 = .ok (.iload_n 1, 1) ∧ decode cX12_isState 1 = .ok (.iconst 0, 1) ∧ decode cX12_isState 2 = .ok (.aload_n 0, 1) ∧ decode cX12_isState 3 = .ok (.getfield 412, 3) ∧ decode cX12_isState 6 = .ok (.iconst 1, 1) ∧ decode cX12_isState 7 = .ok (.isub, 1) ∧ decode cX12_isState 8 = .ok (.invokestatic 436, 3) ∧ decode cX12_isState 11 = .ok (.ireturn, 1) := by decide +kernel
theorem dX12_isState_0 : decode cX12_isState 0 = .ok (.iload_n 1, 1) := gdX12_isState_0.1
theorem dX12_isState_1 : decode cX12_isState 1 = .ok (.iconst 0, 1) := gdX12_isState_0.2.1
theorem dX12_isState_2 : decode cX12_isState 2 = .ok (.aload_n 0, 1) := gdX12_isState_0.2.2.1
theorem dX12_isState_3 : decode cX12_isState 3 = .ok (.getfield 412, 3) := gdX12_isState_0.2.2.2.1
theorem dX12_isState_6 : decode cX12_isState 6 = .ok (.iconst 1, 1) := gdX12_isState_0.2.2.2.2.1
theorem dX12_isState_7 : decode cX12_isState 7 = .ok (.isub, 1) := gdX12_isState_0.2.2.2.2.2.1
theorem dX12_isState_8 : decode cX12_isState 8 = .ok (.invokestatic 436, 3) := gdX12_isState_0.2.2.2.2.2.2.1
theorem dX12_isState_11 : decode cX12_isState 11 = .ok (.ireturn, 1) := gdX12_isState_0.2.2.2.2.2.2.2
set_option maxHeartbeats 1000000 in
set_option maxRecDepth 100000 in
theorem r_isState (l : Launch) (D : va_G) (cy : Nat → ClassId) (m0 : Nat) (Mtape : Nat) (MnName : Nat) (MnStep : Nat) (MnArg : Nat) (MnMany : Nat) (Mstep : Nat) (Marg : Nat) (Mmany : Nat) (Mopen : Nat) (Mvalues : Nat) (MnHasForm : Nat) (MhasForm : Nat) (Masks : Nat) (MnLoud : Nat) (MnCliffAt : Nat) (MnSnow : Nat) (MnManAt : Nat) (MnVoice : Nat) (MnOn : Nat) (Mloud : Nat) (McliffAt : Nat) (MsnowTold : Nat) (MmanAt : Nat) (Mvoice : Nat) (Mon : Nat) (MnYes : Nat) (Myes : Nat) (Mnow : Nat) (Mcry : Nat) (Msnow : Nat) (Mecho : Nat) (Mwere : Nat) (Mlies : Nat) (Mspots : Nat) (Msteps : Nat) (MfromState : Nat) (MbyWord : Nat) (Mqueue : Nat) (MsoundCliff : Nat) (MsoundLong : Nat) (MsoundCame : Nat) (MsoundTold : Nat) (MsoundUntold : Nat) (Mstands : Nat) (Mtally : Nat) (MhasBox : Nat) (Mboxes : Nat) (Itaped : Nat) (Ifault : Nat) (IfaultPlace : Int32) (Iat : Nat) (Isize : Nat) (Isort : Int32) (Iplace : Int32) (Inumber : Int32) (Iword : Int64) (Iform : Nat) (Iopens : Nat) (InUnits : Nat) (Iunits : Int32) (IownUnits : Nat) (Ideep : Nat) (InWords : Nat) (InCliffs : Nat) (InMen : Nat) (InStates : Nat) (InOns : Nat) (InWind : Int32) (InDraw : Int32) (Iwords : Nat) (Icliffs : Nat) (Imen : Nat) (Istates : Nat) (Ions : Int32) (IwindTold : Int32) (InHasWind : Int32) (InHasDraw : Int32) (IcryMany : Nat) (IcallPlace : Int32) (IcallVoice : Int32) (Iwind : Int32) (Ichance : Int32) (IechoMany : Nat) (Iacts : Nat) (Iundone : Nat) (Ilain : Nat) (Isounds : Nat) (Itime : Int32) (IstandMany : Int32) (ix : Int32) (gtp : Itaped ≤ 1600) (gat : Iat ≤ Isize) (gsz : Isize ≤ 1600) (gfl : Ifault ≤ 5) (gfo : Iform ≤ 2) (gnw : InWords ≤ 8) (gnc : InCliffs ≤ 4) (gnm : InMen ≤ 4) (gns : InStates ≤ 6) (gw : Iwords ≤ 8) (gc9 : Icliffs ≤ 4) (gm : Imen ≤ 4) (gs : Istates ≤ 6) (gcm : IcryMany ≤ 10) (gem : IechoMany ≤ 20) (gau : Iacts + Iundone ≤ 40) (gla : Ilain ≤ 20) (gso : Isounds ≤ 30) (gop : Iopens ≤ 40) (gde : Ideep ≤ 8) (gou : IownUnits ≤ 31) (gnu : InUnits ≤ 61) (gno : InOns ≤ 30) : XMi l D (tyL cy) E0 yX12_isState cX12_isState 2 (some .boolean) (rmk 1 0 0) [.ref m0, .int ix] [wO m0 12 [.ref Mtape, .int (nI Itaped), .int (nI Ifault), .int IfaultPlace, .int (nI Iat), .int (nI Isize), .int Isort, .int Iplace, .int Inumber, .long Iword, .ref MnName, .ref MnStep, .ref MnArg, .ref MnMany, .ref Mstep, .ref Marg, .ref Mmany, .ref Mopen, .ref Mvalues, .ref MnHasForm, .ref MhasForm, .int (nI Iform), .int (nI Iopens), .int (nI InUnits), .int Iunits, .int (nI IownUnits), .int (nI Ideep), .ref Masks, .ref MnLoud, .ref MnCliffAt, .ref MnSnow, .ref MnManAt, .ref MnVoice, .ref MnOn, .ref Mloud, .ref McliffAt, .ref MsnowTold, .ref MmanAt, .ref Mvoice, .ref Mon, .ref MnYes, .ref Myes, .int (nI InWords), .int (nI InCliffs), .int (nI InMen), .int (nI InStates), .int (nI InOns), .int InWind, .int InDraw, .int (nI Iwords), .int (nI Icliffs), .int (nI Imen), .int (nI Istates), .int Ions, .int IwindTold, .int InHasWind, .int InHasDraw, .ref Mnow, .ref Mcry, .ref Msnow, .ref Mecho, .int (nI IcryMany), .int IcallPlace, .int IcallVoice, .int Iwind, .int Ichance, .int (nI IechoMany), .ref Mwere, .int (nI Iacts), .int (nI Iundone), .ref Mlies, .int (nI Ilain), .ref Mspots, .ref Msteps, .ref MfromState, .ref MbyWord, .ref Mqueue, .ref MsoundCliff, .ref MsoundLong, .ref MsoundCame, .ref MsoundTold, .ref MsoundUntold, .int (nI Isounds), .int Itime, .ref Mstands, .int IstandMany, .ref Mtally, .ref MhasBox, .ref Mboxes]] (fun (r : Int32) (_ : Unit) => (r = 0 ∨ r = 1) ∧ (r = 0 ∨ (r = 1 ∧ ∃ j9 : Nat, j9 < Istates ∧ ix = nI j9)) ∧ (r = 0 → ¬ inR ix Istates)) (fun (_ : Unit) => [wO m0 12 [.ref Mtape, .int (nI Itaped), .int (nI Ifault), .int IfaultPlace, .int (nI Iat), .int (nI Isize), .int Isort, .int Iplace, .int Inumber, .long Iword, .ref MnName, .ref MnStep, .ref MnArg, .ref MnMany, .ref Mstep, .ref Marg, .ref Mmany, .ref Mopen, .ref Mvalues, .ref MnHasForm, .ref MhasForm, .int (nI Iform), .int (nI Iopens), .int (nI InUnits), .int Iunits, .int (nI IownUnits), .int (nI Ideep), .ref Masks, .ref MnLoud, .ref MnCliffAt, .ref MnSnow, .ref MnManAt, .ref MnVoice, .ref MnOn, .ref Mloud, .ref McliffAt, .ref MsnowTold, .ref MmanAt, .ref Mvoice, .ref Mon, .ref MnYes, .ref Myes, .int (nI InWords), .int (nI InCliffs), .int (nI InMen), .int (nI InStates), .int (nI InOns), .int InWind, .int InDraw, .int (nI Iwords), .int (nI Icliffs), .int (nI Imen), .int (nI Istates), .int Ions, .int IwindTold, .int InHasWind, .int InHasDraw, .ref Mnow, .ref Mcry, .ref Msnow, .ref Mecho, .int (nI IcryMany), .int IcallPlace, .int IcallVoice, .int Iwind, .int Ichance, .int (nI IechoMany), .ref Mwere, .int (nI Iacts), .int (nI Iundone), .ref Mlies, .int (nI Ilain), .ref Mspots, .ref Msteps, .ref MfromState, .ref MbyWord, .ref Mqueue, .ref MsoundCliff, .ref MsoundLong, .ref MsoundCame, .ref MsoundTold, .ref MsoundUntold, .int (nI Isounds), .int Itime, .ref Mstands, .int IstandMany, .ref Mtally, .ref MhasBox, .ref Mboxes]]) := by
  refine XMi.start (by decide) (Nat.le_of_ble_eq_true rfl) ?_
  intro p e s m below meth c args A ls Q hat hQ
  obtain ⟨hx, hb, hr, hml, hown, hg, hlocks, hin, hK, hA, hP, hD, hS, hE, hl⟩ := hat
  have hown : s.vm.findClass RX12 = some m.cls := hown
  have hl : lv_has ls 2 [(0, .ref m0), (1, .int ix)] := hl
  refine lv_iload_n hx hb dX12_isState_0 rfl (lv_at hl 1 rfl) ?_
  refine lv_iconst (v := 0) hx hb dX12_isState_1 (by decide) ?_
  refine lv_aload_n hx hb dX12_isState_2 rfl (lv_at hl 0 rfl) ?_
  refine va_get (D := D) (ci := 12) (v := .int (nI Istates)) (C := RX12) (T := TX12) (N := 89) hx hb hg i_X12 hown hK hP 0 rfl rfl 52 (by decide) (hg _ m_1465) (fun _ h9 => h9) rfl dX12_isState_3 ?_
  refine lv_iconst (v := 1) hx hb dX12_isState_6 (by decide) ?_
  refine lv_isub hx hb dX12_isState_7 ?_
  refine lv_topi (fun x_1 ex_1 => ?_)
  refine x_callSi (wr := [wO m0 12 [.ref Mtape, .int (nI Itaped), .int (nI Ifault), .int IfaultPlace, .int (nI Iat), .int (nI Isize), .int Isort, .int Iplace, .int Inumber, .long Iword, .ref MnName, .ref MnStep, .ref MnArg, .ref MnMany, .ref Mstep, .ref Marg, .ref Mmany, .ref Mopen, .ref Mvalues, .ref MnHasForm, .ref MhasForm, .int (nI Iform), .int (nI Iopens), .int (nI InUnits), .int Iunits, .int (nI IownUnits), .int (nI Ideep), .ref Masks, .ref MnLoud, .ref MnCliffAt, .ref MnSnow, .ref MnManAt, .ref MnVoice, .ref MnOn, .ref Mloud, .ref McliffAt, .ref MsnowTold, .ref MmanAt, .ref Mvoice, .ref Mon, .ref MnYes, .ref Myes, .int (nI InWords), .int (nI InCliffs), .int (nI InMen), .int (nI InStates), .int (nI InOns), .int InWind, .int InDraw, .int (nI Iwords), .int (nI Icliffs), .int (nI Imen), .int (nI Istates), .int Ions, .int IwindTold, .int InHasWind, .int InHasDraw, .ref Mnow, .ref Mcry, .ref Msnow, .ref Mecho, .int (nI IcryMany), .int IcallPlace, .int IcallVoice, .int Iwind, .int Ichance, .int (nI IechoMany), .ref Mwere, .int (nI Iacts), .int (nI Iundone), .ref Mlies, .int (nI Ilain), .ref Mspots, .ref Msteps, .ref MfromState, .ref MbyWord, .ref Mqueue, .ref MsoundCliff, .ref MsoundLong, .ref MsoundCame, .ref MsoundTold, .ref MsoundUntold, .int (nI Isounds), .int Itime, .ref Mstands, .int IstandMany, .ref Mtally, .ref MhasBox, .ref Mboxes]]) (rest := []) ⟨hx, hb, hml, hown, hg, hl.1⟩ k_X12_436 (r_isIn l D cy ix 0 x_1) E0_blind hK hP hD hS hA [] [0] ⟨rfl, rfl, by decide +kernel, by decide +kernel, by decide +kernel⟩ (fun _ _ _ => trivial) dX12_isState_8 rfl rfl (Nat.le_of_ble_eq_true rfl) ⟨Nat.le_of_ble_eq_true rfl, Nat.le_of_ble_eq_true rfl⟩ ⟨Nat.le_of_ble_eq_true rfl, Nat.le_of_ble_eq_true rfl⟩ (fun zr2 zu2 H locs hw2 hP9 hD9 hS9 => ?_)
  clear hP hD hS
  refine reW [wO m0 12 [.ref Mtape, .int (nI Itaped), .int (nI Ifault), .int IfaultPlace, .int (nI Iat), .int (nI Isize), .int Isort, .int Iplace, .int Inumber, .long Iword, .ref MnName, .ref MnStep, .ref MnArg, .ref MnMany, .ref Mstep, .ref Marg, .ref Mmany, .ref Mopen, .ref Mvalues, .ref MnHasForm, .ref MhasForm, .int (nI Iform), .int (nI Iopens), .int (nI InUnits), .int Iunits, .int (nI IownUnits), .int (nI Ideep), .ref Masks, .ref MnLoud, .ref MnCliffAt, .ref MnSnow, .ref MnManAt, .ref MnVoice, .ref MnOn, .ref Mloud, .ref McliffAt, .ref MsnowTold, .ref MmanAt, .ref Mvoice, .ref Mon, .ref MnYes, .ref Myes, .int (nI InWords), .int (nI InCliffs), .int (nI InMen), .int (nI InStates), .int (nI InOns), .int InWind, .int InDraw, .int (nI Iwords), .int (nI Icliffs), .int (nI Imen), .int (nI Istates), .int Ions, .int IwindTold, .int InHasWind, .int InHasDraw, .ref Mnow, .ref Mcry, .ref Msnow, .ref Mecho, .int (nI IcryMany), .int IcallPlace, .int IcallVoice, .int Iwind, .int Ichance, .int (nI IechoMany), .ref Mwere, .int (nI Iacts), .int (nI Iundone), .ref Mlies, .int (nI Ilain), .ref Mspots, .ref Msteps, .ref MfromState, .ref MbyWord, .ref Mqueue, .ref MsoundCliff, .ref MsoundLong, .ref MsoundCame, .ref MsoundTold, .ref MsoundUntold, .int (nI Isounds), .int Itime, .ref Mstands, .int IstandMany, .ref Mtally, .ref MhasBox, .ref Mboxes]] hP9 hD9 hS9 (fun hP hD hS => ?_)
  clear hP9 hD9 hS9
  refine W.widen (k := 0) (n := 0) (Nat.le_of_ble_eq_true rfl) (Nat.le_of_ble_eq_true rfl) ?_
  change (zr2 = 0 ∨ zr2 = 1) ∧ (zr2 = 0 ∨ (zr2 = 1 ∧ ¬ ix < (0 : Int32) ∧ ¬ x_1 < ix)) ∧ (zr2 = 0 → (ix < (0 : Int32) ∨ x_1 < ix)) at hw2
  obtain ⟨f_3, f_4, f_5⟩ := hw2
  exact x_zret hQ hx hb hr hlocks hK hP hD hS (narB f_3) dX12_isState_11 () (⟨f_3, (show (zr2 : Int32) = 0 ∨ ((zr2 : Int32) = 1 ∧ ∃ j9 : Nat, j9 < Istates ∧ ix = nI j9) from f_4.elim Or.inl (fun hq9 => Or.inr ⟨hq9.1, isin_lt (n := Istates) (by omega) hq9.2.1 (by rw [← ex_1]; exact hq9.2.2)⟩)), (show (zr2 : Int32) = 0 → ¬ inR ix Istates from fun h9 => inR_isin (n := Istates) (by omega) (by rw [← ex_1]; exact f_5 h9))⟩) [0] (by decide +kernel) rfl (Nat.le_of_ble_eq_true rfl) (Nat.le_of_ble_eq_true rfl)
theorem gdX12_isCry_0 : decode cX12_isCry 0 = .ok (.iload_n 0, 1) ∧ decode cX12_isCry 1 = .ok (.ifCond .eq 8, 3) ∧ decode cX12_isCry 9 = .ok (.iconst 1, 1) ∧ decode cX12_isCry 10 = .ok (.goto 4, 3) ∧ decode cX12_isCry 14 = .ok (.ireturn, 1) ∧ decode cX12_isCry 4 = .ok (.iload_n 0, 1) ∧ decode cX12_isCry 5 = .ok (.iconst 1, 1) ∧ decode cX12_isCry 6 = .ok (.if_icmp .ne 7, 3) ∧ decode cX12_isCry 13 = .ok (.iconst 0, 1) := by decide +kernel
theorem dX12_isCry_0 : decode cX12_isCry 0 = .ok (.iload_n 0, 1) := gdX12_isCry_0.1
theorem dX12_isCry_1 : decode cX12_isCry 1 = .ok (.ifCond .eq 8, 3) := gdX12_isCry_0.2.1
theorem dX12_isCry_9 : decode cX12_isCry 9 = .ok (.iconst 1, 1) := gdX12_isCry_0.2.2.1
theorem dX12_isCry_10 : decode cX12_isCry 10 = .ok (.goto 4, 3) := gdX12_isCry_0.2.2.2.1
theorem dX12_isCry_14 : decode cX12_isCry 14 = .ok (.ireturn, 1) := gdX12_isCry_0.2.2.2.2.1
theorem dX12_isCry_4 : decode cX12_isCry 4 = .ok (.iload_n 0, 1) := gdX12_isCry_0.2.2.2.2.2.1
theorem dX12_isCry_5 : decode cX12_isCry 5 = .ok (.iconst 1, 1) := gdX12_isCry_0.2.2.2.2.2.2.1
theorem dX12_isCry_6 : decode cX12_isCry 6 = .ok (.if_icmp .ne 7, 3) := gdX12_isCry_0.2.2.2.2.2.2.2.1
theorem dX12_isCry_13 : decode cX12_isCry 13 = .ok (.iconst 0, 1) := gdX12_isCry_0.2.2.2.2.2.2.2.2
set_option maxHeartbeats 1000000 in
set_option maxRecDepth 100000 in
theorem r_isCry (l : Launch) (D : va_G) (cy : Nat → ClassId) (ix : Int32)  : XMi l D (tyL cy) E0 yX12_isCry cX12_isCry 1 (some .boolean) (rmk 0 0 0) [.int ix] [] (fun (r : Int32) (_ : Unit) => (r = 0 ∨ r = 1) ∧ (r = 0 ∨ (r = 1 ∧ (ix = 0 ∨ ix = 1))) ∧ (r = 0 → ¬ (ix = 0 ∨ ix = 1))) (fun (_ : Unit) => []) := by
  refine XMi.start (by decide) (Nat.le_of_ble_eq_true rfl) ?_
  intro p e s m below meth c args A ls Q hat hQ
  obtain ⟨hx, hb, hr, hml, hown, hg, hlocks, hin, hK, hA, hP, hD, hS, hE, hl⟩ := hat
  have hown : s.vm.findClass RX12 = some m.cls := hown
  have hl : lv_has ls 1 [(0, .int ix)] := hl
  refine lv_iload_n hx hb dX12_isCry_0 rfl (lv_at hl 0 rfl) ?_
  refine lv_if_eq (tgt := 9) hx hb dX12_isCry_1 (by decide) (fun c_1 => ?_) (fun c_1 => ?_)
  · refine lv_iconst (v := 1) hx hb dX12_isCry_9 (by decide) ?_
    refine lv_goto (tgt := 14) hx hb dX12_isCry_10 (by decide) ?_
    exact x_zret hQ hx hb hr hlocks hK hP hD hS rfl dX12_isCry_14 () (⟨(Or.inr rfl), (show (1 : Int32) = 0 ∨ ((1 : Int32) = 1 ∧ (ix = 0 ∨ ix = 1)) from Or.inr ⟨rfl, Or.inl c_1⟩), (show (1 : Int32) = 0 → ¬ (ix = 0 ∨ ix = 1) from fun h9 => absurd h9 (by decide))⟩) [] (by decide +kernel) rfl (Nat.le_of_ble_eq_true rfl) (Nat.le_of_ble_eq_true rfl)
  · refine lv_iload_n hx hb dX12_isCry_4 rfl (lv_at hl 0 rfl) ?_
    refine lv_iconst (v := 1) hx hb dX12_isCry_5 (by decide) ?_
    refine lv_icmp_ne (tgt := 13) hx hb dX12_isCry_6 (by decide) (fun c_6 => ?_) (fun c_6 => ?_)
    · refine lv_iconst (v := 0) hx hb dX12_isCry_13 (by decide) ?_
      exact x_zret hQ hx hb hr hlocks hK hP hD hS rfl dX12_isCry_14 () (⟨(Or.inl rfl), (show (0 : Int32) = 0 ∨ ((0 : Int32) = 1 ∧ (ix = 0 ∨ ix = 1)) from Or.inl rfl), (show (0 : Int32) = 0 → ¬ (ix = 0 ∨ ix = 1) from fun _ h9 => h9.elim c_1 c_6)⟩) [] (by decide +kernel) rfl (Nat.le_of_ble_eq_true rfl) (Nat.le_of_ble_eq_true rfl)
    · refine lv_iconst (v := 1) hx hb dX12_isCry_9 (by decide) ?_
      refine lv_goto (tgt := 14) hx hb dX12_isCry_10 (by decide) ?_
      exact x_zret hQ hx hb hr hlocks hK hP hD hS rfl dX12_isCry_14 () (⟨(Or.inr rfl), (show (1 : Int32) = 0 ∨ ((1 : Int32) = 1 ∧ (ix = 0 ∨ ix = 1)) from Or.inr ⟨rfl, Or.inr c_6⟩), (show (1 : Int32) = 0 → ¬ (ix = 0 ∨ ix = 1) from fun h9 => absurd h9 (by decide))⟩) [] (by decide +kernel) rfl (Nat.le_of_ble_eq_true rfl) (Nat.le_of_ble_eq_true rfl)
theorem gdX12_isBox_0 : decode cX12_isBox 0 = .ok (.iload_n 0, 1) ∧ decode cX12_isBox 1 = .ok (.ifCond .lt 12, 3) ∧ decode cX12_isBox 13 = .ok (.iconst 0, 1) ∧ decode cX12_isBox 14 = .ok (.ireturn, 1) ∧ decode cX12_isBox 4 = .ok (.iload_n 0, 1) ∧ decode cX12_isBox 5 = .ok (.iconst 3, 1) ∧ decode cX12_isBox 6 = .ok (.if_icmp .ge 7, 3) ∧ decode cX12_isBox 9 = .ok (.iconst 1, 1) ∧ decode cX12_isBox 10 = .ok (.goto 4, 3) := by decide +kernel
theorem dX12_isBox_0 : decode cX12_isBox 0 = .ok (.iload_n 0, 1) := gdX12_isBox_0.1
theorem dX12_isBox_1 : decode cX12_isBox 1 = .ok (.ifCond .lt 12, 3) := gdX12_isBox_0.2.1
theorem dX12_isBox_13 : decode cX12_isBox 13 = .ok (.iconst 0, 1) := gdX12_isBox_0.2.2.1
theorem dX12_isBox_14 : decode cX12_isBox 14 = .ok (.ireturn, 1) := gdX12_isBox_0.2.2.2.1
theorem dX12_isBox_4 : decode cX12_isBox 4 = .ok (.iload_n 0, 1) := gdX12_isBox_0.2.2.2.2.1
theorem dX12_isBox_5 : decode cX12_isBox 5 = .ok (.iconst 3, 1) := gdX12_isBox_0.2.2.2.2.2.1
theorem dX12_isBox_6 : decode cX12_isBox 6 = .ok (.if_icmp .ge 7, 3) := gdX12_isBox_0.2.2.2.2.2.2.1
theorem dX12_isBox_9 : decode cX12_isBox 9 = .ok (.iconst 1, 1) := gdX12_isBox_0.2.2.2.2.2.2.2.1
theorem dX12_isBox_10 : decode cX12_isBox 10 = .ok (.goto 4, 3) := gdX12_isBox_0.2.2.2.2.2.2.2.2
set_option maxHeartbeats 1000000 in
set_option maxRecDepth 100000 in
theorem r_isBox (l : Launch) (D : va_G) (cy : Nat → ClassId) (ix : Int32)  : XMi l D (tyL cy) E0 yX12_isBox cX12_isBox 1 (some .boolean) (rmk 0 0 0) [.int ix] [] (fun (r : Int32) (_ : Unit) => (r = 0 ∨ r = 1) ∧ (r = 0 ∨ (r = 1 ∧ ∃ j9 : Nat, j9 < 3 ∧ ix = nI j9)) ∧ (r = 0 → ¬ inR ix 3)) (fun (_ : Unit) => []) := by
  refine XMi.start (by decide) (Nat.le_of_ble_eq_true rfl) ?_
  intro p e s m below meth c args A ls Q hat hQ
  obtain ⟨hx, hb, hr, hml, hown, hg, hlocks, hin, hK, hA, hP, hD, hS, hE, hl⟩ := hat
  have hown : s.vm.findClass RX12 = some m.cls := hown
  have hl : lv_has ls 1 [(0, .int ix)] := hl
  refine lv_iload_n hx hb dX12_isBox_0 rfl (lv_at hl 0 rfl) ?_
  refine lv_if_lt (tgt := 13) hx hb dX12_isBox_1 (by decide) (fun c_1 => ?_) (fun c_1 => ?_)
  · refine lv_iconst (v := 0) hx hb dX12_isBox_13 (by decide) ?_
    exact x_zret hQ hx hb hr hlocks hK hP hD hS rfl dX12_isBox_14 () (⟨(Or.inl rfl), (show (0 : Int32) = 0 ∨ ((0 : Int32) = 1 ∧ ∃ j9 : Nat, j9 < 3 ∧ ix = nI j9) from Or.inl rfl), (show (0 : Int32) = 0 → ¬ inR ix 3 from fun _ => inR_box (Or.inl c_1))⟩) [] (by decide +kernel) rfl (Nat.le_of_ble_eq_true rfl) (Nat.le_of_ble_eq_true rfl)
  · refine lv_iload_n hx hb dX12_isBox_4 rfl (lv_at hl 0 rfl) ?_
    refine lv_iconst (v := 3) hx hb dX12_isBox_5 (by decide) ?_
    refine lv_icmp_ge (tgt := 13) hx hb dX12_isBox_6 (by decide) (fun c_6 => ?_) (fun c_6 => ?_)
    · refine lv_iconst (v := 0) hx hb dX12_isBox_13 (by decide) ?_
      exact x_zret hQ hx hb hr hlocks hK hP hD hS rfl dX12_isBox_14 () (⟨(Or.inl rfl), (show (0 : Int32) = 0 ∨ ((0 : Int32) = 1 ∧ ∃ j9 : Nat, j9 < 3 ∧ ix = nI j9) from Or.inl rfl), (show (0 : Int32) = 0 → ¬ inR ix 3 from fun _ => inR_ge (c := 3) (by decide) c_6)⟩) [] (by decide +kernel) rfl (Nat.le_of_ble_eq_true rfl) (Nat.le_of_ble_eq_true rfl)
    · refine lv_iconst (v := 1) hx hb dX12_isBox_9 (by decide) ?_
      refine lv_goto (tgt := 14) hx hb dX12_isBox_10 (by decide) ?_
      exact x_zret hQ hx hb hr hlocks hK hP hD hS rfl dX12_isBox_14 () (⟨(Or.inr rfl), (show (1 : Int32) = 0 ∨ ((1 : Int32) = 1 ∧ ∃ j9 : Nat, j9 < 3 ∧ ix = nI j9) from Or.inr ⟨rfl, has_in (c := 3) (by decide) c_1 c_6⟩), (show (1 : Int32) = 0 → ¬ inR ix 3 from fun h9 => absurd h9 (by decide))⟩) [] (by decide +kernel) rfl (Nat.le_of_ble_eq_true rfl) (Nat.le_of_ble_eq_true rfl)
/-! formulas worked by the reference -/
def dnR (k a b : Int32) : Int32 :=
  if k = 43 then a + b else if k = 45 then a - b else if k = 42 then a * b else if k = 47 then (if b = 0 then 0 else a / b) else if k = 37 then (if b = 0 then 0 else a - a / b * b) else if k = 60 then (if a < b then 1 else 0) else if k = 62 then (if b < a then 1 else 0) else if k = 61 then (if a = b then 1 else 0) else if k = 38 then (if a = 0 then 0 else if b = 0 then 0 else 1) else (if a = 0 then (if b = 0 then 0 else 1) else 1)
def dnO (k : Int32) : Prop := ¬ k = 43 ∧ ¬ k = 45 ∧ ¬ k = 42 ∧ ¬ k = 47 ∧ ¬ k = 37 ∧ ¬ k = 60 ∧ ¬ k = 62 ∧ ¬ k = 61 ∧ ¬ k = 38
theorem dnR_43 (a b : Int32) : dnR (nI 43) a b = a + b := by
  unfold dnR
  rw [if_pos (by decide)]
theorem dnR_45 (a b : Int32) : dnR (nI 45) a b = a - b := by
  unfold dnR
  rw [if_neg (by decide), if_pos (by decide)]
theorem dnR_42 (a b : Int32) : dnR (nI 42) a b = a * b := by
  unfold dnR
  rw [if_neg (by decide), if_neg (by decide), if_pos (by decide)]
theorem dnR_47 (a b : Int32) : dnR (nI 47) a b = (if b = 0 then 0 else a / b) := by
  unfold dnR
  rw [if_neg (by decide), if_neg (by decide), if_neg (by decide), if_pos (by decide)]
theorem dnR_37 (a b : Int32) : dnR (nI 37) a b = (if b = 0 then 0 else a - a / b * b) := by
  unfold dnR
  rw [if_neg (by decide), if_neg (by decide), if_neg (by decide), if_neg (by decide), if_pos (by decide)]
theorem dnR_60 (a b : Int32) : dnR (nI 60) a b = (if a < b then 1 else 0) := by
  unfold dnR
  rw [if_neg (by decide), if_neg (by decide), if_neg (by decide), if_neg (by decide), if_neg (by decide), if_pos (by decide)]
theorem dnR_62 (a b : Int32) : dnR (nI 62) a b = (if b < a then 1 else 0) := by
  unfold dnR
  rw [if_neg (by decide), if_neg (by decide), if_neg (by decide), if_neg (by decide), if_neg (by decide), if_neg (by decide), if_pos (by decide)]
theorem dnR_61 (a b : Int32) : dnR (nI 61) a b = (if a = b then 1 else 0) := by
  unfold dnR
  rw [if_neg (by decide), if_neg (by decide), if_neg (by decide), if_neg (by decide), if_neg (by decide), if_neg (by decide), if_neg (by decide), if_pos (by decide)]
theorem dnR_38 (a b : Int32) : dnR (nI 38) a b = (if a = 0 then 0 else if b = 0 then 0 else 1) := by
  unfold dnR
  rw [if_neg (by decide), if_neg (by decide), if_neg (by decide), if_neg (by decide), if_neg (by decide), if_neg (by decide), if_neg (by decide), if_neg (by decide), if_pos (by decide)]
theorem dnR_o {k a b : Int32} (h : dnO k) : dnR k a b = (if a = 0 then (if b = 0 then 0 else 1) else 1) := by
  obtain ⟨h43, h45, h42, h47, h37, h60, h62, h61, h38⟩ := h
  unfold dnR
  rw [if_neg h43, if_neg h45, if_neg h42, if_neg h47, if_neg h37, if_neg h60, if_neg h62, if_neg h61, if_neg h38]
theorem dn_add {a b : Int32} : a + b = dnR (nI 43) a b := by
  rw [dnR_43]
theorem dn_sub {a b : Int32} : a - b = dnR (nI 45) a b := by
  rw [dnR_45]
theorem dn_mul {a b : Int32} : a * b = dnR (nI 42) a b := by
  rw [dnR_42]
theorem dn_div1 {a b : Int32} (h : ¬ b = 0) : a / b = dnR (nI 47) a b := by
  rw [dnR_47, if_neg h]
theorem dn_div0 {a b : Int32} (h : b = 0) : 0 = dnR (nI 47) a b := by
  rw [dnR_47, if_pos h]
theorem dn_rem1 {a b : Int32} (h : ¬ b = 0) : a - a / b * b = dnR (nI 37) a b := by
  rw [dnR_37, if_neg h]
theorem dn_rem0 {a b : Int32} (h : b = 0) : 0 = dnR (nI 37) a b := by
  rw [dnR_37, if_pos h]
theorem dn_lt1 {a b : Int32} (h : a < b) : 1 = dnR (nI 60) a b := by
  rw [dnR_60, if_pos h]
theorem dn_lt0 {a b : Int32} (h : ¬ a < b) : 0 = dnR (nI 60) a b := by
  rw [dnR_60, if_neg h]
theorem dn_gt1 {a b : Int32} (h : b < a) : 1 = dnR (nI 62) a b := by
  rw [dnR_62, if_pos h]
theorem dn_gt0 {a b : Int32} (h : ¬ b < a) : 0 = dnR (nI 62) a b := by
  rw [dnR_62, if_neg h]
theorem dn_eq1 {a b : Int32} (h : a = b) : 1 = dnR (nI 61) a b := by
  rw [dnR_61, if_pos h]
theorem dn_eq0 {a b : Int32} (h : ¬ a = b) : 0 = dnR (nI 61) a b := by
  rw [dnR_61, if_neg h]
theorem dn_an0 {a b : Int32} (h : a = 0) : 0 = dnR (nI 38) a b := by
  rw [dnR_38, if_pos h]
theorem dn_an1 {a b : Int32} (h : ¬ a = 0) (h2 : b = 0) : 0 = dnR (nI 38) a b := by
  rw [dnR_38, if_neg h, if_pos h2]
theorem dn_an2 {a b : Int32} (h : ¬ a = 0) (h2 : ¬ b = 0) : 1 = dnR (nI 38) a b := by
  rw [dnR_38, if_neg h, if_neg h2]
theorem dn_or0 {k a b : Int32} (hk : dnO k) (h : ¬ a = 0) : 1 = dnR k a b := by
  rw [dnR_o hk, if_neg h]
theorem dn_or1 {k a b : Int32} (hk : dnO k) (h : a = 0) (h2 : b = 0) : 0 = dnR k a b := by
  rw [dnR_o hk, if_pos h, if_pos h2]
theorem dn_or2 {k a b : Int32} (hk : dnO k) (h : a = 0) (h2 : ¬ b = 0) : 1 = dnR k a b := by
  rw [dnR_o hk, if_pos h, if_neg h2]
theorem dnO_out {k : Int32} (h : k.toInt < ((37 : Nat) : Int) ∨ ((62 : Nat) : Int) < k.toInt) : dnO k := by
  unfold dnO
  refine ⟨fun e => by rw [e] at h; exact absurd h (by decide), fun e => by rw [e] at h; exact absurd h (by decide), fun e => by rw [e] at h; exact absurd h (by decide), fun e => by rw [e] at h; exact absurd h (by decide), fun e => by rw [e] at h; exact absurd h (by decide), fun e => by rw [e] at h; exact absurd h (by decide), fun e => by rw [e] at h; exact absurd h (by decide), fun e => by rw [e] at h; exact absurd h (by decide), fun e => by rw [e] at h; exact absurd h (by decide)⟩
/-- truth of an answer -/
def tvF (x : Int32) : Nat := if x = 0 then 0 else 1
theorem tv1 : nI (tvF 1) = 1 := by decide
theorem tv0 : nI (tvF 0) = 0 := by decide
/-- what the class does with a sign, the reference does with the sign -/
theorem dn_cmb {s a b : Int32} (h : ¬ ded s = 15000) (h2 : ¬ s = 21) : dnR s a b = cmb (ded s - 20000) a b := by
  have hs : s = 38 ∨ s = 124 ∨ s = 43 ∨ s = 45 ∨ s = 42 ∨ s = 47 ∨ s = 37 ∨ s = 60 ∨ s = 62 ∨ s = 61 := by
    by_cases c1 : s = 38
    · exact Or.inl c1
    by_cases c2 : s = 124
    · exact Or.inr (Or.inl c2)
    by_cases c3 : s = 43 ∨ s = 45 ∨ s = 42 ∨ s = 47 ∨ s = 37 ∨ s = 60 ∨ s = 62 ∨ s = 61
    · exact Or.inr (Or.inr c3)
    · exact absurd (by unfold ded; rw [if_neg h2, if_neg c1, if_neg c2, if_neg c3]) h
  rcases hs with e | e | e | e | e | e | e | e | e | e <;> subst e
  · rw [show ded 38 - 20000 = 115 by decide, cmb_115]; exact dnR_38 a b
  · rw [show ded 124 - 20000 = 114 by decide, cmb_114]; exact dnR_o (by unfold dnO; decide)
  · rw [show ded 43 - 20000 = 43 by decide, cmb_43]; exact dnR_43 a b
  · rw [show ded 45 - 20000 = 45 by decide, cmb_45]; exact dnR_45 a b
  · rw [show ded 42 - 20000 = 42 by decide, cmb_42]; exact dnR_42 a b
  · rw [show ded 47 - 20000 = 47 by decide, cmb_47]; exact dnR_47 a b
  · rw [show ded 37 - 20000 = 37 by decide, cmb_37]; exact dnR_37 a b
  · rw [show ded 60 - 20000 = 60 by decide, cmb_60]; exact dnR_60 a b
  · rw [show ded 62 - 20000 = 62 by decide, cmb_62]; exact dnR_62 a b
  · rw [show ded 61 - 20000 = 61 by decide, cmb_61]; exact dnR_61 a b
def mv1 (ff : Nat → Int32) (s a : Int32) (S : List Int32) : List Int32 :=
  if s = 0 then a :: S else if s = 1 then ff a.toNatClampNeg :: S else if s = 2 then (match S with | [] => [] | v :: q => (if v = 0 then 1 else 0) :: q) else (match S with | [] => [] | [v] => [v] | v :: u :: q => dnR a u v :: q)
def evM (st ar ff : Nat → Int32) (b : Nat) : Nat → List Int32
  | 0 => []
  | m + 1 => mv1 ff (st (b + m)) (ar (b + m)) (evM st ar ff b m)
def vlM (hf st ar : Nat → Int32) (am : Nat → Nat) (k : Nat) (z : Int32) (ff : Nat → Int32) : Int32 := if hf k = 0 then z else (evM st ar ff (320 * k) (am k)).getLastD 0
section WK
variable {st ar ff fa g : Nat → Int32} {b i nn : Nat}
theorem wk_push {x : Int32} (hb : b + i < 2 ^ 31) (hn : nn < 2 ^ 31) (h : stk fa nn = evM st ar ff b i) (hst : st (b + i) = 0) (ex : x = ar (nI (b + i)).toNatClampNeg) (eg : upd fa (nI nn).toNatClampNeg x = g) : stk g (nn + 1) = evM st ar ff b (i + 1) := by
  rw [nI_clamp hb] at ex
  rw [stk_put hn eg, h, ex]
  show _ = mv1 ff (st (b + i)) _ _
  unfold mv1
  rw [if_pos hst]
theorem wk_ask {x : Int32} {ja : Nat} (hn : nn < 2 ^ 31) (h : stk fa nn = evM st ar ff b i) (hst : st (b + i) = 1) (eja : ar (b + i) = nI ja) (ex : x = ff (nI ja).toNatClampNeg) (eg : upd fa (nI nn).toNatClampNeg x = g) : stk g (nn + 1) = evM st ar ff b (i + 1) := by
  rw [stk_put hn eg, h, ex]
  show _ = mv1 ff (st (b + i)) (ar (b + i)) _
  unfold mv1
  rw [if_neg (by rw [hst]; decide), if_pos hst, eja]
theorem wk_not {x y : Int32} (hn : 1 ≤ nn) (hn2 : nn < 2 ^ 31) (h : stk fa nn = evM st ar ff b i) (hst : st (b + i) = 2) (ex : x = fa (nI (nn - 1)).toNatClampNeg) (hy : y = if x = 0 then 1 else 0) (eg : upd fa (nI (nn - 1)).toNatClampNeg y = g) : stk g nn = evM st ar ff b (i + 1) := by
  rw [nI_clamp (by omega)] at ex eg
  subst eg
  rw [stk_s hn, pk_us, stk_upd (Nat.le_refl _)]
  show _ = mv1 ff (st (b + i)) (ar (b + i)) (evM st ar ff b i)
  rw [← h, stk_s hn]
  unfold mv1
  rw [if_neg (by rw [hst]; decide), if_neg (by rw [hst]; decide), if_pos hst, hy, ex]
theorem wk_do {a u v r : Int32} (hb : b + i < 2 ^ 31) (hn : 2 ≤ nn) (hn2 : nn < 2 ^ 31) (h : stk fa nn = evM st ar ff b i) (hst : st (b + i) = 3) (ea : a = ar (nI (b + i)).toNatClampNeg) (eu : u = fa (nI (nn - 1 - 1)).toNatClampNeg) (ev : v = fa (nI (nn - 1)).toNatClampNeg) (hr : r = dnR a u v) (eg : upd fa (nI (nn - 1 - 1)).toNatClampNeg r = g) : stk g (nn - 1) = evM st ar ff b (i + 1) := by
  rw [nI_clamp (by omega)] at ea eu ev eg
  subst eg
  rw [stk_s (o := nn - 1) (by omega), pk_us, stk_upd (Nat.le_refl _)]
  show _ = mv1 ff (st (b + i)) (ar (b + i)) (evM st ar ff b i)
  rw [← h, stk_s (show 1 ≤ nn by omega), stk_s (o := nn - 1) (by omega)]
  unfold mv1
  rw [if_neg (by rw [hst]; decide), if_neg (by rw [hst]; decide), if_neg (by rw [hst]; decide), hr, ea, eu, ev]
theorem stk_last {f : Nat → Int32} {n : Nat} (h : 1 ≤ n) : (stk f n).getLastD 0 = f 0 := by
  induction n with
  | zero => omega
  | succ n ih =>
    by_cases e : n = 0
    · subst e; rfl
    · have h9 := ih (by omega)
      rw [← h9]
      show (f n :: stk f n).getLastD 0 = _
      rw [stk_s (show 1 ≤ n by omega)]
      rfl
theorem wk_end {r : Int32} (hn : 1 ≤ nn) (h : stk fa nn = evM st ar ff b i) (er : r = fa (0 : Int32).toNatClampNeg) : r = (evM st ar ff b i).getLastD 0 := by
  rw [← h, stk_last hn, er]
  rfl
end WK
theorem rpn_1 {st ar : Nat → Int32} {b m : Nat} {h : Nat → Nat} (hr : rpn st ar b m h) (k : Nat) : k < m → 1 ≤ h (k + 1) := by
  intro hk
  rcases (hr.2 k hk).2 with ⟨_, e⟩ | ⟨_, e, _⟩ | ⟨_, e, e2⟩ | ⟨_, e, e2⟩ <;> omega
theorem evM_cg {st ar ff gg : Nat → Int32} {b m : Nat} {h : Nat → Nat} (hr : rpn st ar b m h) (hf : ∀ k, k < 7 → ff k = gg k) (j : Nat) (hj : j ≤ m) : evM st ar ff b j = evM st ar gg b j := by
  induction j with
  | zero => rfl
  | succ j ih =>
    show mv1 ff _ _ _ = mv1 gg _ _ _
    rw [ih (by omega)]
    unfold mv1
    by_cases c0 : st (b + j) = 0
    · rw [if_pos c0, if_pos c0]
    rw [if_neg c0, if_neg c0]
    by_cases c1 : st (b + j) = 1
    · rw [if_pos c1, if_pos c1]
      rcases (hr.2 j (by omega)).2 with ⟨e, _⟩ | ⟨_, _, q, hq, e⟩ | ⟨e, _⟩ | ⟨e, _⟩
      · exact absurd e c0
      · rw [e, nI_clamp (by omega), hf q (by omega)]
      · rw [e] at c1; exact absurd c1 (by decide)
      · rw [e] at c1; exact absurd c1 (by decide)
    rw [if_neg c1, if_neg c1]
theorem vlM_cg {hf st ar mn ff gg : Nat → Int32} {am : Nat → Nat} {H : Nat → Nat → Nat} {k : Nat} {z : Int32} (ha : allR st ar mn am H) (hk : k < 3) (h : ∀ j, j < 7 → ff j = gg j) : vlM hf st ar am k z ff = vlM hf st ar am k z gg := by
  unfold vlM
  rw [evM_cg (ha k hk).2.2 h (am k) (Nat.le_refl _)]
theorem vlM_1 {hf st ar ff : Nat → Int32} {am : Nat → Nat} {k : Nat} {z r : Int32} (h : ¬ hf k = 0) (hr : r = (evM st ar ff (320 * k) (am k)).getLastD 0) : r = vlM hf st ar am k z ff := by
  unfold vlM
  rw [if_neg h, hr]
theorem vlM_0 {hf st ar ff : Nat → Int32} {am : Nat → Nat} {k : Nat} {z : Int32} (h : hf k = 0) : z = vlM hf st ar am k z ff := by
  unfold vlM
  rw [if_pos h]
/-- the row of facts is laid -/
theorem fk7_seq {f g0 g1 g2 g3 g4 g5 g6 : Nat → Int32} {a b c d : Int32} (e0 : upd f (0 : Int32).toNatClampNeg a = g0) (e1 : upd g0 (1 : Int32).toNatClampNeg b = g1) (e2 : upd g1 (2 : Int32).toNatClampNeg c = g2) (e3 : upd g2 (3 : Int32).toNatClampNeg d = g3) (e4 : upd g3 (4 : Int32).toNatClampNeg 0 = g4) (e5 : upd g4 (5 : Int32).toNatClampNeg 0 = g5) (e6 : upd g5 (6 : Int32).toNatClampNeg 0 = g6) : ∀ k, k < 7 → g6 k = fk7 a b c d 0 0 0 k := by
  subst e0 e1 e2 e3 e4 e5 e6
  exact fk7_mk rfl rfl
def ofR (a b : Int32) : Int32 := if a ≤ b then b - a else a - b
theorem of_1 {a b x : Int32} (h : a ≤ b) (e : x = b - a) : x = ofR a b := by
  unfold ofR
  rw [if_pos h, e]
theorem of_0 {a b x : Int32} (h : ¬ a ≤ b) (e : x = a - b) : x = ofR a b := by
  unfold ofR
  rw [if_neg h, e]
/-- the row of WORDS turned about -/
theorem ecS_t {bE lE tE : FE} {lo : Nat → Int32} {far wi sn voc cha : Int32} {fw : Nat → Int32} {n : Nat} (h : tuS tE far wi sn n = true) : ecS bE lE tE lo far wi sn voc cha fw n = (sdL (coS bE lE lo far wi sn voc cha n fw) fw (fun k => k) n).reverse := by
  unfold ecS
  simp only [h, if_true]
  exact sdL_rev
theorem ecS_f {bE lE tE : FE} {lo : Nat → Int32} {far wi sn voc cha : Int32} {fw : Nat → Int32} {n : Nat} (h : tuS tE far wi sn n = false) : ecS bE lE tE lo far wi sn voc cha fw n = sdL (coS bE lE lo far wi sn voc cha n fw) fw (fun k => k) n := by
  unfold ecS
  simp only [h]
  rfl
/-- t of the entries changed about -/
def rvT (f : Nat → Int32) (b m : Nat) (g : Nat → Int32) (L : List Int32) (t : Nat) : Prop := m = b + L.length ∧ (∀ i, i < b → g i = f i) ∧ ∀ i, i < L.length → g (b + i) = if i < t ∨ L.length ≤ i + t then L.getD (L.length - 1 - i) 0 else L.getD i 0
theorem rv_0 {f g : Nat → Int32} {b m : Nat} {L : List Int32} (h : exC f b g m L) : rvT f b m g L 0 := by
  refine ⟨h.1, h.2.1, fun i hi => ?_⟩
  rw [if_neg (by omega)]
  exact h.2.2 i hi
theorem rv_step {f g g2 g3 : Nat → Int32} {b m t a d : Nat} {L : List Int32} {x y : Int32} (h : rvT f b m g L t) (ha : a = b + t) (hd : d + t + 1 = m) (hlt : a < d) (hm : m < 2 ^ 31) (ex : x = g (nI a).toNatClampNeg) (ey : y = g (nI d).toNatClampNeg) (e1 : upd g (nI a).toNatClampNeg y = g2) (e2 : upd g2 (nI d).toNatClampNeg x = g3) : rvT f b m g3 L (t + 1) := by
  rw [nI_clamp (by omega)] at ex ey e1 e2
  obtain ⟨h1, h2, h3⟩ := h
  have hx : x = L.getD t 0 := by
    rw [ex, ha, h3 t (by omega), if_neg (by omega)]
  have hy : y = L.getD (L.length - 1 - t) 0 := by
    have h9 := h3 (L.length - 1 - t) (by omega)
    rw [if_neg (by omega)] at h9
    rw [ey, ← h9]
    congr 1
    omega
  subst e1 e2
  refine ⟨h1, fun i hi => by rw [pk_un (by omega), pk_un (by omega)]; exact h2 i hi, fun i hi => ?_⟩
  by_cases c1 : b + i = d
  · rw [c1, pk_us, if_pos (by omega), hx]
    congr 1
    omega
  · rw [pk_un c1]
    by_cases c2 : b + i = a
    · rw [c2, pk_us, if_pos (by omega), hy]
      congr 1
      omega
    · rw [pk_un c2, h3 i hi]
      by_cases c3 : i < t ∨ L.length ≤ i + t
      · rw [if_pos c3, if_pos (by omega)]
      · rw [if_neg c3, if_neg (by omega)]
theorem rv_end {f g : Nat → Int32} {b m t : Nat} {L : List Int32} (h : rvT f b m g L t) (ht : L.length ≤ 2 * t + 1) : exC f b g m L.reverse := by
  obtain ⟨h1, h2, h3⟩ := h
  refine ⟨by rw [List.length_reverse]; exact h1, h2, fun i hi => ?_⟩
  rw [List.length_reverse] at hi
  rw [h3 i hi]
  have hr : L.reverse.getD i 0 = L.getD (L.length - 1 - i) 0 := by
    rw [List.getD_eq_getElem?_getD, List.getD_eq_getElem?_getD, List.getElem?_reverse hi]
  rw [hr]
  by_cases c : i < t ∨ L.length ≤ i + t
  · rw [if_pos c]
  · rw [if_neg c]
    congr 1
    omega
/-- where a row of WORDS leads, by the row of ONS -/
def stR (on : Nat → Int32) (s : Nat) (L : List Int32) : Nat := L.foldl (fun s x => (nxR on s x.toNatClampNeg).toNatClampNeg) s
def stB (on fr : Nat → Int32) : Nat → Nat
  | 0 => 0
  | k + 1 => (nxR on (stB on fr k) (fr k).toNatClampNeg).toNatClampNeg
theorem stR_app (on : Nat → Int32) (s : Nat) (v w : List Int32) : stR on s (v ++ w) = stR on (stR on s v) w := List.foldl_append
theorem stB_take {on fr : Nat → Int32} {L : List Int32} (h : ∀ i, i < L.length → fr i = L.getD i 0) (k : Nat) (hk : k ≤ L.length) : stB on fr k = stR on 0 (L.take k) := by
  induction k with
  | zero => rfl
  | succ k ih =>
    have h9 : L.take (k + 1) = L.take k ++ [L.getD k 0] := by
      rw [List.take_add_one, List.getElem?_eq_getElem (by omega), List.getD_eq_getElem?_getD, List.getElem?_eq_getElem (by omega)]
      rfl
    rw [h9, stR_app, ← ih (by omega), ← h k (by omega)]
    rfl
theorem stB_ex {on f g : Nat → Int32} {m : Nat} {L : List Int32} (h : exC f 0 g m L) : stB on g m = stR on 0 L := by
  obtain ⟨h1, h2, h3⟩ := h
  have e : m = L.length := by omega
  subst e
  rw [stB_take (fun i hi => by have := h3 i hi; rwa [Nat.zero_add] at this) L.length (Nat.le_refl _), List.take_length]
theorem stB_go {on fr : Nat → Int32} {i s j k : Nat} (hi : i < 2 ^ 31) (hs : s = stB on fr i) (ej : fr (nI i).toNatClampNeg = nI j) (hj : j ≤ 7) (hk : nI k = nxR on s j) (hk5 : k ≤ 5) : k = stB on fr (i + 1) := by
  show k = (nxR on (stB on fr i) (fr i).toNatClampNeg).toNatClampNeg
  rw [nI_clamp hi] at ej
  rw [← hs, ej, nI_clamp (by omega), ← hk, nI_clamp (by omega)]
def yeM (on ye : Nat → Int32) (st : Nat) (L : List Int32) : Bool := decide (0 < st) && decide (¬ ye (if 0 < st then stR on 0 L else 0) = 0)
def yeB (on ye fr : Nat → Int32) (st n : Nat) : Bool := decide (0 < st) && decide (¬ ye (if 0 < st then stB on fr n else 0) = 0)
theorem yeB_ex {on ye f g : Nat → Int32} {st m : Nat} {L : List Int32} {r : Int32} (h : exC f 0 g m L) (hb : bR r (yeB on ye g st m)) : bR r (yeM on ye st L) := by
  unfold yeM
  rw [← stB_ex h]
  exact hb
theorem clN_nat {j n : Nat} (hj : j < 2 ^ 31) (hn : n < 2 ^ 31) : clN (nI j) n = min j n := by
  unfold clN
  rw [if_neg (nI_pos hj)]
  by_cases h : nI j < nI n
  · rw [if_pos h, nI_clamp hj]
    have := (nI_ltI hj hn).mp h
    omega
  · rw [if_neg h]
    have h9 : ¬ j < n := fun h8 => h ((nI_ltI hj hn).mpr h8)
    omega
theorem lo_zero {lE : FE} {lo : Nat → Int32} {A B C voc cha wd : Int32} {n i : Nat} (h : ∀ ff, lE ff = 0) : loS lE lo A B C voc cha n wd i = false := by
  unfold loS
  rw [h]
  exact decide_eq_false (fun h9 => h9 rfl)
theorem tu_zero {tE : FE} {A B C : Int32} {n : Nat} (h : ∀ ff, tE ff = 0) : tuS tE A B C n = false := by
  unfold tuS
  rw [h]
  exact decide_eq_false (fun h9 => h9 rfl)
theorem fk7_lo3 {ff lo g4 g5 g6 : Nat → Int32} {A B C D z x v cha : Int32} {wd n i : Nat} (hq : ∀ k, k < 4 → ff k = fk7 A B C D 0 0 0 k) (hw : wd < 2 ^ 31) (ez : z = lo (nI wd).toNatClampNeg) (ex : x = z + v) (e4 : upd ff (4 : Int32).toNatClampNeg x = g4) (e5 : upd g4 (5 : Int32).toNatClampNeg (nI (n - 1 - i)) = g5) (e6 : upd g5 (6 : Int32).toNatClampNeg cha = g6) : ∀ k, k < 7 → g6 k = fk7 A B C D (lo (nI wd).toNatClampNeg + v) (nI (n - 1 - i)) cha k := by
  subst e4 e5 e6
  exact fk7_lo hq hw ez ex
theorem exC_0r {f g : Nat → Int32} {b m : Nat} {L : List Int32} (h : exC f b g m L) (hm : m ≤ b) : exC f b g m L.reverse := by
  have h1 := h.1
  have e : L = [] := List.length_eq_zero_iff.mp (by omega)
  subst e
  exact h
section YB
variable {on ye fr : Nat → Int32} {st n s : Nat} {x : Int32}
theorem yeB_0 (h : ¬ 0 < st) : yeB on ye fr st n = false := by
  unfold yeB
  rw [decide_eq_false h]
  rfl
theorem yeB_t (h : 0 < st) (hs : s = stB on fr n) (hn : s < 2 ^ 31) (ex : x = ye (nI s).toNatClampNeg) (c : ¬ x = 0) : yeB on ye fr st n = true := by
  rw [nI_clamp hn] at ex
  unfold yeB
  rw [decide_eq_true h, if_pos h, ← hs, ← ex, decide_eq_true c]
  rfl
theorem yeB_f (h : 0 < st) (hs : s = stB on fr n) (hn : s < 2 ^ 31) (ex : x = ye (nI s).toNatClampNeg) (c : x = 0) : yeB on ye fr st n = false := by
  rw [nI_clamp hn] at ex
  unfold yeB
  rw [decide_eq_true h, if_pos h, ← hs, ← ex, decide_eq_false (fun h9 => h9 c)]
  rfl
end YB
section BDR
variable {E : Nat → List Int32} {far : Nat → Int32} {Y : List Int32 → Bool} {c j n : Nat} {b r : Int32}
theorem bd_none (hb : b = bdS E far c) (h : E c = []) : b = bdS E far (c + 1) := by
  rw [bdS_no (fun h9 => h9.2 h)]; exact hb
theorem bd_skip (hb : nI j = bdS E far c) (hj : j < 2 ^ 31) (h : far j ≤ far c) : nI j = bdS E far (c + 1) := (vd_skip (Y := fun _ => true) hb hj h).1
theorem bd_b0 (hb : b = bdS E far c) (h : b = -1) (hE : ¬ E c = []) : nI c = bdS E far (c + 1) := (bdS_y ⟨Or.inl (hb.symm.trans h), hE⟩).symm
theorem bd_b1 (hb : nI j = bdS E far c) (hj : j < 2 ^ 31) (h : ¬ far j ≤ far c) (hE : ¬ E c = []) : nI c = bdS E far (c + 1) := (bdS_y ⟨vd_lt hb hj h, hE⟩).symm
theorem vd_z (hb : b = bdS E far n) (h : b = -1) : 0 = vdS E far Y n := by
  unfold vdS
  rw [← hb, if_pos h]
theorem vd_of {k : Nat} (hb : nI j = bdS E far n) (hj : j < 2 ^ 31) (hy : bR r (Y (E j))) (hk : k = tvF r) : 1 + k = vdS E far Y n := by
  unfold vdS
  rw [← hb, if_neg (nI_nneg hj (by decide)), nI_clamp hj, hk]
  rcases hy with ⟨e, e2⟩ | ⟨e, e2⟩
  · rw [e, e2]; rfl
  · rw [e, e2]; rfl
end BDR
theorem sky_put {fn fa g : Nat → Int32} {b i : Nat} {x : Int32} (hi : b + i < 2 ^ 31) (h : ∀ i9, i9 < i → fa i9 = fn (b + i9)) (ex : x = fn (nI (b + i)).toNatClampNeg) (e : upd fa (nI i).toNatClampNeg x = g) : ∀ i9, i9 < i + 1 → g i9 = fn (b + i9) := by
  rw [nI_clamp hi] at ex
  rw [nI_clamp (by omega)] at e
  subst e
  intro k hk
  by_cases q : k = i
  · rw [q, pk_us, ex]
  · rw [pk_un q]; exact h k (by omega)
/-- how many members a set has, as the reference counts -/
def mbS (x : Int32) : Nat → Int32
  | 0 => 0
  | k + 1 => mbS x k + ((x >>> (nI k &&& 31)) &&& 1)
theorem mb_go {x s a b y : Int32} {k : Nat} (h : s = mbS x k) (ea : a = x >>> (nI k &&& 31)) (eb : b = a &&& 1) (ey : y = s + b) : y = mbS x (k + 1) := by
  rw [ey, eb, ea, h]
  rfl
theorem gdX12_truth_0 : decode cX12_truth 0 = .ok (.iload_n 0, 1) ∧ decode cX12_truth 1 = .ok (.ifCond .eq 7, 3) ∧ decode cX12_truth 8 = .ok (.iconst 0, 1) ∧ decode cX12_truth 9 = .ok (.ireturn, 1) ∧ decode cX12_truth 4 = .ok (.iconst 1, 1) ∧ decode cX12_truth 5 = .ok (.goto 4, 3) := by decide +kernel
theorem dX12_truth_0 : decode cX12_truth 0 = .ok (.iload_n 0, 1) := gdX12_truth_0.1
theorem dX12_truth_1 : decode cX12_truth 1 = .ok (.ifCond .eq 7, 3) := gdX12_truth_0.2.1
theorem dX12_truth_8 : decode cX12_truth 8 = .ok (.iconst 0, 1) := gdX12_truth_0.2.2.1
theorem dX12_truth_9 : decode cX12_truth 9 = .ok (.ireturn, 1) := gdX12_truth_0.2.2.2.1
theorem dX12_truth_4 : decode cX12_truth 4 = .ok (.iconst 1, 1) := gdX12_truth_0.2.2.2.2.1
theorem dX12_truth_5 : decode cX12_truth 5 = .ok (.goto 4, 3) := gdX12_truth_0.2.2.2.2.2
set_option maxHeartbeats 1000000 in
set_option maxRecDepth 100000 in
theorem r_truth (l : Launch) (D : va_G) (cy : Nat → ClassId) (ix : Int32)  : XMi l D (tyL cy) E0 yX12_truth cX12_truth 1 (some .int) (rmk 0 0 0) [.int ix] [] (fun (r : Int32) (k : Nat) => (r = nI k) ∧ (k ≤ 1) ∧ (k = tvF ix)) (fun (k : Nat) => []) := by
  refine XMi.start (by decide) (Nat.le_of_ble_eq_true rfl) ?_
  intro p e s m below meth c args A ls Q hat hQ
  obtain ⟨hx, hb, hr, hml, hown, hg, hlocks, hin, hK, hA, hP, hD, hS, hE, hl⟩ := hat
  have hown : s.vm.findClass RX12 = some m.cls := hown
  have hl : lv_has ls 1 [(0, .int ix)] := hl
  refine lv_iload_n hx hb dX12_truth_0 rfl (lv_at hl 0 rfl) ?_
  refine lv_if_eq (tgt := 8) hx hb dX12_truth_1 (by decide) (fun c_1 => ?_) (fun c_1 => ?_)
  · refine lv_iconst (v := 0) hx hb dX12_truth_8 (by decide) ?_
    exact x_iret hQ hx hb hr hlocks hK hP hD hS dX12_truth_9 0 (⟨rfl, (show 0 ≤ 1 from by first | assumption | omega), (show 0 = tvF ix from (if_pos c_1).symm)⟩) [] (by decide +kernel) rfl (Nat.le_of_ble_eq_true rfl) (Nat.le_of_ble_eq_true rfl)
  · refine lv_iconst (v := 1) hx hb dX12_truth_4 (by decide) ?_
    refine lv_goto (tgt := 9) hx hb dX12_truth_5 (by decide) ?_
    exact x_iret hQ hx hb hr hlocks hK hP hD hS dX12_truth_9 1 (⟨rfl, (show 1 ≤ 1 from by first | assumption | omega), (show 1 = tvF ix from (if_neg c_1).symm)⟩) [] (by decide +kernel) rfl (Nat.le_of_ble_eq_true rfl) (Nat.le_of_ble_eq_true rfl)
theorem gdX12_done_0 : decode cX12_done 0 = .ok (.iload_n 0, 1) ∧ decode cX12_done 1 = .ok (.tableswitch 214 37 62 #[143, 197, 214, 214, 214, 127, 119, 214, 123, 214, 131, 214, 214, 214, 214, 214, 214, 214, 214, 214, 214, 214, 214, 155, 183, 169], 119) ∧ decode cX12_done 215 = .ok (.iload_n 1, 1) ∧ decode cX12_done 216 = .ok (.ifCond .ne 7, 3) ∧ decode cX12_done 223 = .ok (.iconst 1, 1) ∧ decode cX12_done 224 = .ok (.goto 4, 3) ∧ decode cX12_done 228 = .ok (.invokestatic 333, 3) := by decide +kernel
theorem dX12_done_0 : decode cX12_done 0 = .ok (.iload_n 0, 1) := gdX12_done_0.1
theorem dX12_done_1 : decode cX12_done 1 = .ok (.tableswitch 214 37 62 #[143, 197, 214, 214, 214, 127, 119, 214, 123, 214, 131, 214, 214, 214, 214, 214, 214, 214, 214, 214, 214, 214, 214, 155, 183, 169], 119) := gdX12_done_0.2.1
theorem dX12_done_215 : decode cX12_done 215 = .ok (.iload_n 1, 1) := gdX12_done_0.2.2.1
theorem dX12_done_216 : decode cX12_done 216 = .ok (.ifCond .ne 7, 3) := gdX12_done_0.2.2.2.1
theorem dX12_done_223 : decode cX12_done 223 = .ok (.iconst 1, 1) := gdX12_done_0.2.2.2.2.1
theorem dX12_done_224 : decode cX12_done 224 = .ok (.goto 4, 3) := gdX12_done_0.2.2.2.2.2.1
theorem dX12_done_228 : decode cX12_done 228 = .ok (.invokestatic 333, 3) := gdX12_done_0.2.2.2.2.2.2
theorem k_X12_333 : xS RX12 333 yX12_truth cX12_truth 1 (some .int) 1 := ⟨⟨m_1975, m_1976, m_146, m_1977⟩, by decide, by decide, by decide +kernel⟩
theorem gdX12_done_231 : decode cX12_done 231 = .ok (.ireturn, 1) ∧ decode cX12_done 219 = .ok (.iload_n 2, 1) ∧ decode cX12_done 220 = .ok (.ifCond .eq 7, 3) ∧ decode cX12_done 227 = .ok (.iconst 0, 1) ∧ decode cX12_done 144 = .ok (.iload_n 2, 1) ∧ decode cX12_done 145 = .ok (.ifCond .ne 7, 3) ∧ decode cX12_done 152 = .ok (.iload_n 1, 1) ∧ decode cX12_done 153 = .ok (.iload_n 2, 1) ∧ decode cX12_done 154 = .ok (.irem, 1) ∧ decode cX12_done 155 = .ok (.ireturn, 1) ∧ decode cX12_done 148 = .ok (.iconst 0, 1) ∧ decode cX12_done 149 = .ok (.goto 6, 3) := by decide +kernel
theorem dX12_done_231 : decode cX12_done 231 = .ok (.ireturn, 1) := gdX12_done_231.1
theorem dX12_done_219 : decode cX12_done 219 = .ok (.iload_n 2, 1) := gdX12_done_231.2.1
theorem dX12_done_220 : decode cX12_done 220 = .ok (.ifCond .eq 7, 3) := gdX12_done_231.2.2.1
theorem dX12_done_227 : decode cX12_done 227 = .ok (.iconst 0, 1) := gdX12_done_231.2.2.2.1
theorem dX12_done_144 : decode cX12_done 144 = .ok (.iload_n 2, 1) := gdX12_done_231.2.2.2.2.1
theorem dX12_done_145 : decode cX12_done 145 = .ok (.ifCond .ne 7, 3) := gdX12_done_231.2.2.2.2.2.1
theorem dX12_done_152 : decode cX12_done 152 = .ok (.iload_n 1, 1) := gdX12_done_231.2.2.2.2.2.2.1
theorem dX12_done_153 : decode cX12_done 153 = .ok (.iload_n 2, 1) := gdX12_done_231.2.2.2.2.2.2.2.1
theorem dX12_done_154 : decode cX12_done 154 = .ok (.irem, 1) := gdX12_done_231.2.2.2.2.2.2.2.2.1
theorem dX12_done_155 : decode cX12_done 155 = .ok (.ireturn, 1) := gdX12_done_231.2.2.2.2.2.2.2.2.2.1
theorem dX12_done_148 : decode cX12_done 148 = .ok (.iconst 0, 1) := gdX12_done_231.2.2.2.2.2.2.2.2.2.2.1
theorem dX12_done_149 : decode cX12_done 149 = .ok (.goto 6, 3) := gdX12_done_231.2.2.2.2.2.2.2.2.2.2.2
theorem gdX12_done_198 : decode cX12_done 198 = .ok (.iload_n 1, 1) ∧ decode cX12_done 199 = .ok (.ifCond .eq 11, 3) ∧ decode cX12_done 210 = .ok (.iconst 0, 1) ∧ decode cX12_done 211 = .ok (.invokestatic 333, 3) ∧ decode cX12_done 214 = .ok (.ireturn, 1) ∧ decode cX12_done 202 = .ok (.iload_n 2, 1) ∧ decode cX12_done 203 = .ok (.ifCond .eq 7, 3) ∧ decode cX12_done 206 = .ok (.iconst 1, 1) ∧ decode cX12_done 207 = .ok (.goto 4, 3) ∧ decode cX12_done 128 = .ok (.iload_n 1, 1) ∧ decode cX12_done 129 = .ok (.iload_n 2, 1) ∧ decode cX12_done 130 = .ok (.imul, 1) := by decide +kernel
theorem dX12_done_198 : decode cX12_done 198 = .ok (.iload_n 1, 1) := gdX12_done_198.1
theorem dX12_done_199 : decode cX12_done 199 = .ok (.ifCond .eq 11, 3) := gdX12_done_198.2.1
theorem dX12_done_210 : decode cX12_done 210 = .ok (.iconst 0, 1) := gdX12_done_198.2.2.1
theorem dX12_done_211 : decode cX12_done 211 = .ok (.invokestatic 333, 3) := gdX12_done_198.2.2.2.1
theorem dX12_done_214 : decode cX12_done 214 = .ok (.ireturn, 1) := gdX12_done_198.2.2.2.2.1
theorem dX12_done_202 : decode cX12_done 202 = .ok (.iload_n 2, 1) := gdX12_done_198.2.2.2.2.2.1
theorem dX12_done_203 : decode cX12_done 203 = .ok (.ifCond .eq 7, 3) := gdX12_done_198.2.2.2.2.2.2.1
theorem dX12_done_206 : decode cX12_done 206 = .ok (.iconst 1, 1) := gdX12_done_198.2.2.2.2.2.2.2.1
theorem dX12_done_207 : decode cX12_done 207 = .ok (.goto 4, 3) := gdX12_done_198.2.2.2.2.2.2.2.2.1
theorem dX12_done_128 : decode cX12_done 128 = .ok (.iload_n 1, 1) := gdX12_done_198.2.2.2.2.2.2.2.2.2.1
theorem dX12_done_129 : decode cX12_done 129 = .ok (.iload_n 2, 1) := gdX12_done_198.2.2.2.2.2.2.2.2.2.2.1
theorem dX12_done_130 : decode cX12_done 130 = .ok (.imul, 1) := gdX12_done_198.2.2.2.2.2.2.2.2.2.2.2
theorem gdX12_done_131 : decode cX12_done 131 = .ok (.ireturn, 1) ∧ decode cX12_done 120 = .ok (.iload_n 1, 1) ∧ decode cX12_done 121 = .ok (.iload_n 2, 1) ∧ decode cX12_done 122 = .ok (.iadd, 1) ∧ decode cX12_done 123 = .ok (.ireturn, 1) ∧ decode cX12_done 124 = .ok (.iload_n 1, 1) ∧ decode cX12_done 125 = .ok (.iload_n 2, 1) ∧ decode cX12_done 126 = .ok (.isub, 1) ∧ decode cX12_done 127 = .ok (.ireturn, 1) ∧ decode cX12_done 132 = .ok (.iload_n 2, 1) ∧ decode cX12_done 133 = .ok (.ifCond .ne 7, 3) ∧ decode cX12_done 140 = .ok (.iload_n 1, 1) := by decide +kernel
theorem dX12_done_131 : decode cX12_done 131 = .ok (.ireturn, 1) := gdX12_done_131.1
theorem dX12_done_120 : decode cX12_done 120 = .ok (.iload_n 1, 1) := gdX12_done_131.2.1
theorem dX12_done_121 : decode cX12_done 121 = .ok (.iload_n 2, 1) := gdX12_done_131.2.2.1
theorem dX12_done_122 : decode cX12_done 122 = .ok (.iadd, 1) := gdX12_done_131.2.2.2.1
theorem dX12_done_123 : decode cX12_done 123 = .ok (.ireturn, 1) := gdX12_done_131.2.2.2.2.1
theorem dX12_done_124 : decode cX12_done 124 = .ok (.iload_n 1, 1) := gdX12_done_131.2.2.2.2.2.1
theorem dX12_done_125 : decode cX12_done 125 = .ok (.iload_n 2, 1) := gdX12_done_131.2.2.2.2.2.2.1
theorem dX12_done_126 : decode cX12_done 126 = .ok (.isub, 1) := gdX12_done_131.2.2.2.2.2.2.2.1
theorem dX12_done_127 : decode cX12_done 127 = .ok (.ireturn, 1) := gdX12_done_131.2.2.2.2.2.2.2.2.1
theorem dX12_done_132 : decode cX12_done 132 = .ok (.iload_n 2, 1) := gdX12_done_131.2.2.2.2.2.2.2.2.2.1
theorem dX12_done_133 : decode cX12_done 133 = .ok (.ifCond .ne 7, 3) := gdX12_done_131.2.2.2.2.2.2.2.2.2.2.1
theorem dX12_done_140 : decode cX12_done 140 = .ok (.iload_n 1, 1) := gdX12_done_131.2.2.2.2.2.2.2.2.2.2.2
theorem gdX12_done_141 : decode cX12_done 141 = .ok (.iload_n 2, 1) ∧ decode cX12_done 142 = .ok (.idiv, 1) ∧ decode cX12_done 143 = .ok (.ireturn, 1) ∧ decode cX12_done 136 = .ok (.iconst 0, 1) ∧ decode cX12_done 137 = .ok (.goto 6, 3) ∧ decode cX12_done 156 = .ok (.iload_n 1, 1) ∧ decode cX12_done 157 = .ok (.iload_n 2, 1) ∧ decode cX12_done 158 = .ok (.if_icmp .ge 7, 3) ∧ decode cX12_done 165 = .ok (.iconst 0, 1) ∧ decode cX12_done 166 = .ok (.invokestatic 333, 3) ∧ decode cX12_done 169 = .ok (.ireturn, 1) ∧ decode cX12_done 161 = .ok (.iconst 1, 1) := by decide +kernel
theorem dX12_done_141 : decode cX12_done 141 = .ok (.iload_n 2, 1) := gdX12_done_141.1
theorem dX12_done_142 : decode cX12_done 142 = .ok (.idiv, 1) := gdX12_done_141.2.1
theorem dX12_done_143 : decode cX12_done 143 = .ok (.ireturn, 1) := gdX12_done_141.2.2.1
theorem dX12_done_136 : decode cX12_done 136 = .ok (.iconst 0, 1) := gdX12_done_141.2.2.2.1
theorem dX12_done_137 : decode cX12_done 137 = .ok (.goto 6, 3) := gdX12_done_141.2.2.2.2.1
theorem dX12_done_156 : decode cX12_done 156 = .ok (.iload_n 1, 1) := gdX12_done_141.2.2.2.2.2.1
theorem dX12_done_157 : decode cX12_done 157 = .ok (.iload_n 2, 1) := gdX12_done_141.2.2.2.2.2.2.1
theorem dX12_done_158 : decode cX12_done 158 = .ok (.if_icmp .ge 7, 3) := gdX12_done_141.2.2.2.2.2.2.2.1
theorem dX12_done_165 : decode cX12_done 165 = .ok (.iconst 0, 1) := gdX12_done_141.2.2.2.2.2.2.2.2.1
theorem dX12_done_166 : decode cX12_done 166 = .ok (.invokestatic 333, 3) := gdX12_done_141.2.2.2.2.2.2.2.2.2.1
theorem dX12_done_169 : decode cX12_done 169 = .ok (.ireturn, 1) := gdX12_done_141.2.2.2.2.2.2.2.2.2.2.1
theorem dX12_done_161 : decode cX12_done 161 = .ok (.iconst 1, 1) := gdX12_done_141.2.2.2.2.2.2.2.2.2.2.2
theorem gdX12_done_162 : decode cX12_done 162 = .ok (.goto 4, 3) ∧ decode cX12_done 184 = .ok (.iload_n 1, 1) ∧ decode cX12_done 185 = .ok (.iload_n 2, 1) ∧ decode cX12_done 186 = .ok (.if_icmp .ne 7, 3) ∧ decode cX12_done 193 = .ok (.iconst 0, 1) ∧ decode cX12_done 194 = .ok (.invokestatic 333, 3) ∧ decode cX12_done 197 = .ok (.ireturn, 1) ∧ decode cX12_done 189 = .ok (.iconst 1, 1) ∧ decode cX12_done 190 = .ok (.goto 4, 3) ∧ decode cX12_done 170 = .ok (.iload_n 1, 1) ∧ decode cX12_done 171 = .ok (.iload_n 2, 1) ∧ decode cX12_done 172 = .ok (.if_icmp .le 7, 3) := by decide +kernel
theorem dX12_done_162 : decode cX12_done 162 = .ok (.goto 4, 3) := gdX12_done_162.1
theorem dX12_done_184 : decode cX12_done 184 = .ok (.iload_n 1, 1) := gdX12_done_162.2.1
theorem dX12_done_185 : decode cX12_done 185 = .ok (.iload_n 2, 1) := gdX12_done_162.2.2.1
theorem dX12_done_186 : decode cX12_done 186 = .ok (.if_icmp .ne 7, 3) := gdX12_done_162.2.2.2.1
theorem dX12_done_193 : decode cX12_done 193 = .ok (.iconst 0, 1) := gdX12_done_162.2.2.2.2.1
theorem dX12_done_194 : decode cX12_done 194 = .ok (.invokestatic 333, 3) := gdX12_done_162.2.2.2.2.2.1
theorem dX12_done_197 : decode cX12_done 197 = .ok (.ireturn, 1) := gdX12_done_162.2.2.2.2.2.2.1
theorem dX12_done_189 : decode cX12_done 189 = .ok (.iconst 1, 1) := gdX12_done_162.2.2.2.2.2.2.2.1
theorem dX12_done_190 : decode cX12_done 190 = .ok (.goto 4, 3) := gdX12_done_162.2.2.2.2.2.2.2.2.1
theorem dX12_done_170 : decode cX12_done 170 = .ok (.iload_n 1, 1) := gdX12_done_162.2.2.2.2.2.2.2.2.2.1
theorem dX12_done_171 : decode cX12_done 171 = .ok (.iload_n 2, 1) := gdX12_done_162.2.2.2.2.2.2.2.2.2.2.1
theorem dX12_done_172 : decode cX12_done 172 = .ok (.if_icmp .le 7, 3) := gdX12_done_162.2.2.2.2.2.2.2.2.2.2.2
theorem gdX12_done_179 : decode cX12_done 179 = .ok (.iconst 0, 1) ∧ decode cX12_done 180 = .ok (.invokestatic 333, 3) ∧ decode cX12_done 183 = .ok (.ireturn, 1) ∧ decode cX12_done 175 = .ok (.iconst 1, 1) ∧ decode cX12_done 176 = .ok (.goto 4, 3) := by decide +kernel
theorem dX12_done_179 : decode cX12_done 179 = .ok (.iconst 0, 1) := gdX12_done_179.1
theorem dX12_done_180 : decode cX12_done 180 = .ok (.invokestatic 333, 3) := gdX12_done_179.2.1
theorem dX12_done_183 : decode cX12_done 183 = .ok (.ireturn, 1) := gdX12_done_179.2.2.1
theorem dX12_done_175 : decode cX12_done 175 = .ok (.iconst 1, 1) := gdX12_done_179.2.2.2.1
theorem dX12_done_176 : decode cX12_done 176 = .ok (.goto 4, 3) := gdX12_done_179.2.2.2.2
set_option maxHeartbeats 1000000 in
set_option maxRecDepth 100000 in
theorem r_done (l : Launch) (D : va_G) (cy : Nat → ClassId) (ix : Int32) (xa : Int32) (xb : Int32)  : XMi l D (tyL cy) E0 yX12_done cX12_done 3 (some .int) (rmk 1 0 0) [.int ix, .int xa, .int xb] [] (fun (r : Int32) (_ : Unit) => (r = dnR ix xa xb)) (fun (_ : Unit) => []) := by
  refine XMi.start (by decide) (Nat.le_of_ble_eq_true rfl) ?_
  intro p e s m below meth c args A ls Q hat hQ
  obtain ⟨hx, hb, hr, hml, hown, hg, hlocks, hin, hK, hA, hP, hD, hS, hE, hl⟩ := hat
  have hown : s.vm.findClass RX12 = some m.cls := hown
  have hl : lv_has ls 3 [(0, .int ix), (1, .int xa), (2, .int xb)] := hl
  refine lv_iload_n hx hb dX12_done_0 rfl (lv_at hl 0 rfl) ?_
  rcases sw_lo ix 37 62 (by decide) (by decide) with hs | ⟨j, hj1, hj2, rfl⟩
  · refine lv_tableOut (tgt := 215) hx hb dX12_done_1 (by omega) (by decide) ?_
    refine lv_iload_n hx hb dX12_done_215 rfl (lv_at hl 1 rfl) ?_
    refine lv_if_ne (tgt := 223) hx hb dX12_done_216 (by decide) (fun c_216 => ?_) (fun c_216 => ?_)
    · refine lv_iconst (v := 1) hx hb dX12_done_223 (by decide) ?_
      refine lv_goto (tgt := 228) hx hb dX12_done_224 (by decide) ?_
      refine x_callSi (wr := []) (rest := []) ⟨hx, hb, hml, hown, hg, hl.1⟩ k_X12_333 (r_truth l D cy 1) E0_blind hK hP hD hS hA [] [] ⟨rfl, rfl, by decide +kernel, by decide +kernel, by decide +kernel⟩ (fun _ _ _ => trivial) dX12_done_228 rfl rfl (Nat.le_of_ble_eq_true rfl) ⟨Nat.le_of_ble_eq_true rfl, Nat.le_of_ble_eq_true rfl⟩ ⟨Nat.le_of_ble_eq_true rfl, Nat.le_of_ble_eq_true rfl⟩ (fun zr1 zu1 H locs hw1 hP9 hD9 hS9 => ?_)
      clear hP hD hS
      obtain ⟨k_2, rfl⟩ : ∃ z, z = zu1 := ⟨_, rfl⟩
      refine reW [] hP9 hD9 hS9 (fun hP hD hS => ?_)
      clear hP9 hD9 hS9
      refine W.widen (k := 0) (n := 0) (Nat.le_of_ble_eq_true rfl) (Nat.le_of_ble_eq_true rfl) ?_
      change (zr1 = nI k_2) ∧ (k_2 ≤ 1) ∧ (k_2 = tvF (1 : Int32)) at hw1
      obtain ⟨f_3, f_4, f_5⟩ := hw1
      subst f_3
      exact x_iret hQ hx hb hr hlocks hK hP hD hS dX12_done_231 () ((by rw [f_5, tv1]; exact dn_or0 (dnO_out hs) c_216)) [] (by decide +kernel) rfl (Nat.le_of_ble_eq_true rfl) (Nat.le_of_ble_eq_true rfl)
    · refine lv_iload_n hx hb dX12_done_219 rfl (lv_at hl 2 rfl) ?_
      refine lv_if_eq (tgt := 227) hx hb dX12_done_220 (by decide) (fun c_220 => ?_) (fun c_220 => ?_)
      · refine lv_iconst (v := 0) hx hb dX12_done_227 (by decide) ?_
        refine x_callSi (wr := []) (rest := []) ⟨hx, hb, hml, hown, hg, hl.1⟩ k_X12_333 (r_truth l D cy 0) E0_blind hK hP hD hS hA [] [] ⟨rfl, rfl, by decide +kernel, by decide +kernel, by decide +kernel⟩ (fun _ _ _ => trivial) dX12_done_228 rfl rfl (Nat.le_of_ble_eq_true rfl) ⟨Nat.le_of_ble_eq_true rfl, Nat.le_of_ble_eq_true rfl⟩ ⟨Nat.le_of_ble_eq_true rfl, Nat.le_of_ble_eq_true rfl⟩ (fun zr6 zu6 H locs hw6 hP9 hD9 hS9 => ?_)
        clear hP hD hS
        obtain ⟨k_7, rfl⟩ : ∃ z, z = zu6 := ⟨_, rfl⟩
        refine reW [] hP9 hD9 hS9 (fun hP hD hS => ?_)
        clear hP9 hD9 hS9
        refine W.widen (k := 0) (n := 0) (Nat.le_of_ble_eq_true rfl) (Nat.le_of_ble_eq_true rfl) ?_
        change (zr6 = nI k_7) ∧ (k_7 ≤ 1) ∧ (k_7 = tvF (0 : Int32)) at hw6
        obtain ⟨f_8, f_9, f_10⟩ := hw6
        subst f_8
        exact x_iret hQ hx hb hr hlocks hK hP hD hS dX12_done_231 () ((by rw [f_10, tv0]; exact dn_or1 (dnO_out hs) c_216 c_220)) [] (by decide +kernel) rfl (Nat.le_of_ble_eq_true rfl) (Nat.le_of_ble_eq_true rfl)
      · refine lv_iconst (v := 1) hx hb dX12_done_223 (by decide) ?_
        refine lv_goto (tgt := 228) hx hb dX12_done_224 (by decide) ?_
        refine x_callSi (wr := []) (rest := []) ⟨hx, hb, hml, hown, hg, hl.1⟩ k_X12_333 (r_truth l D cy 1) E0_blind hK hP hD hS hA [] [] ⟨rfl, rfl, by decide +kernel, by decide +kernel, by decide +kernel⟩ (fun _ _ _ => trivial) dX12_done_228 rfl rfl (Nat.le_of_ble_eq_true rfl) ⟨Nat.le_of_ble_eq_true rfl, Nat.le_of_ble_eq_true rfl⟩ ⟨Nat.le_of_ble_eq_true rfl, Nat.le_of_ble_eq_true rfl⟩ (fun zr11 zu11 H locs hw11 hP9 hD9 hS9 => ?_)
        clear hP hD hS
        obtain ⟨k_12, rfl⟩ : ∃ z, z = zu11 := ⟨_, rfl⟩
        refine reW [] hP9 hD9 hS9 (fun hP hD hS => ?_)
        clear hP9 hD9 hS9
        refine W.widen (k := 0) (n := 0) (Nat.le_of_ble_eq_true rfl) (Nat.le_of_ble_eq_true rfl) ?_
        change (zr11 = nI k_12) ∧ (k_12 ≤ 1) ∧ (k_12 = tvF (1 : Int32)) at hw11
        obtain ⟨f_13, f_14, f_15⟩ := hw11
        subst f_13
        exact x_iret hQ hx hb hr hlocks hK hP hD hS dX12_done_231 () ((by rw [f_15, tv1]; exact dn_or2 (dnO_out hs) c_216 c_220)) [] (by decide +kernel) rfl (Nat.le_of_ble_eq_true rfl) (Nat.le_of_ble_eq_true rfl)
  · rcases (show j = 37 ∨ j = 38 ∨ j = 39 ∨ j = 40 ∨ j = 41 ∨ j = 42 ∨ j = 43 ∨ j = 44 ∨ j = 45 ∨ j = 46 ∨ j = 47 ∨ j = 48 ∨ j = 49 ∨ j = 50 ∨ j = 51 ∨ j = 52 ∨ j = 53 ∨ j = 54 ∨ j = 55 ∨ j = 56 ∨ j = 57 ∨ j = 58 ∨ j = 59 ∨ j = 60 ∨ j = 61 ∨ j = 62 by omega) with rfl | rfl | rfl | rfl | rfl | rfl | rfl | rfl | rfl | rfl | rfl | rfl | rfl | rfl | rfl | rfl | rfl | rfl | rfl | rfl | rfl | rfl | rfl | rfl | rfl | rfl
    · refine lv_tableIn (off := 143) (tgt := 144) hx hb dX12_done_1 (by decide) (by decide) (by decide) (by decide) ?_
      refine lv_iload_n hx hb dX12_done_144 rfl (lv_at hl 2 rfl) ?_
      refine lv_if_ne (tgt := 152) hx hb dX12_done_145 (by decide) (fun c_145 => ?_) (fun c_145 => ?_)
      · refine lv_iload_n hx hb dX12_done_152 rfl (lv_at hl 1 rfl) ?_
        refine lv_iload_n hx hb dX12_done_153 rfl (lv_at hl 2 rfl) ?_
        refine lv_irem hx hb dX12_done_154 c_145 ?_
        refine lv_topi (fun x_16 ex_16 => ?_)
        exact x_iret hQ hx hb hr hlocks hK hP hD hS dX12_done_155 () ((ex_16.trans (dn_rem1 c_145))) [] (by decide +kernel) rfl (Nat.le_of_ble_eq_true rfl) (Nat.le_of_ble_eq_true rfl)
      · refine lv_iconst (v := 0) hx hb dX12_done_148 (by decide) ?_
        refine lv_goto (tgt := 155) hx hb dX12_done_149 (by decide) ?_
        exact x_iret hQ hx hb hr hlocks hK hP hD hS dX12_done_155 () ((dn_rem0 c_145)) [] (by decide +kernel) rfl (Nat.le_of_ble_eq_true rfl) (Nat.le_of_ble_eq_true rfl)
    · refine lv_tableIn (off := 197) (tgt := 198) hx hb dX12_done_1 (by decide) (by decide) (by decide) (by decide) ?_
      refine lv_iload_n hx hb dX12_done_198 rfl (lv_at hl 1 rfl) ?_
      refine lv_if_eq (tgt := 210) hx hb dX12_done_199 (by decide) (fun c_199 => ?_) (fun c_199 => ?_)
      · refine lv_iconst (v := 0) hx hb dX12_done_210 (by decide) ?_
        refine x_callSi (wr := []) (rest := []) ⟨hx, hb, hml, hown, hg, hl.1⟩ k_X12_333 (r_truth l D cy 0) E0_blind hK hP hD hS hA [] [] ⟨rfl, rfl, by decide +kernel, by decide +kernel, by decide +kernel⟩ (fun _ _ _ => trivial) dX12_done_211 rfl rfl (Nat.le_of_ble_eq_true rfl) ⟨Nat.le_of_ble_eq_true rfl, Nat.le_of_ble_eq_true rfl⟩ ⟨Nat.le_of_ble_eq_true rfl, Nat.le_of_ble_eq_true rfl⟩ (fun zr17 zu17 H locs hw17 hP9 hD9 hS9 => ?_)
        clear hP hD hS
        obtain ⟨k_18, rfl⟩ : ∃ z, z = zu17 := ⟨_, rfl⟩
        refine reW [] hP9 hD9 hS9 (fun hP hD hS => ?_)
        clear hP9 hD9 hS9
        refine W.widen (k := 0) (n := 0) (Nat.le_of_ble_eq_true rfl) (Nat.le_of_ble_eq_true rfl) ?_
        change (zr17 = nI k_18) ∧ (k_18 ≤ 1) ∧ (k_18 = tvF (0 : Int32)) at hw17
        obtain ⟨f_19, f_20, f_21⟩ := hw17
        subst f_19
        exact x_iret hQ hx hb hr hlocks hK hP hD hS dX12_done_214 () ((by rw [f_21, tv0]; exact dn_an0 c_199)) [] (by decide +kernel) rfl (Nat.le_of_ble_eq_true rfl) (Nat.le_of_ble_eq_true rfl)
      · refine lv_iload_n hx hb dX12_done_202 rfl (lv_at hl 2 rfl) ?_
        refine lv_if_eq (tgt := 210) hx hb dX12_done_203 (by decide) (fun c_203 => ?_) (fun c_203 => ?_)
        · refine lv_iconst (v := 0) hx hb dX12_done_210 (by decide) ?_
          refine x_callSi (wr := []) (rest := []) ⟨hx, hb, hml, hown, hg, hl.1⟩ k_X12_333 (r_truth l D cy 0) E0_blind hK hP hD hS hA [] [] ⟨rfl, rfl, by decide +kernel, by decide +kernel, by decide +kernel⟩ (fun _ _ _ => trivial) dX12_done_211 rfl rfl (Nat.le_of_ble_eq_true rfl) ⟨Nat.le_of_ble_eq_true rfl, Nat.le_of_ble_eq_true rfl⟩ ⟨Nat.le_of_ble_eq_true rfl, Nat.le_of_ble_eq_true rfl⟩ (fun zr22 zu22 H locs hw22 hP9 hD9 hS9 => ?_)
          clear hP hD hS
          obtain ⟨k_23, rfl⟩ : ∃ z, z = zu22 := ⟨_, rfl⟩
          refine reW [] hP9 hD9 hS9 (fun hP hD hS => ?_)
          clear hP9 hD9 hS9
          refine W.widen (k := 0) (n := 0) (Nat.le_of_ble_eq_true rfl) (Nat.le_of_ble_eq_true rfl) ?_
          change (zr22 = nI k_23) ∧ (k_23 ≤ 1) ∧ (k_23 = tvF (0 : Int32)) at hw22
          obtain ⟨f_24, f_25, f_26⟩ := hw22
          subst f_24
          exact x_iret hQ hx hb hr hlocks hK hP hD hS dX12_done_214 () ((by rw [f_26, tv0]; exact dn_an1 c_199 c_203)) [] (by decide +kernel) rfl (Nat.le_of_ble_eq_true rfl) (Nat.le_of_ble_eq_true rfl)
        · refine lv_iconst (v := 1) hx hb dX12_done_206 (by decide) ?_
          refine lv_goto (tgt := 211) hx hb dX12_done_207 (by decide) ?_
          refine x_callSi (wr := []) (rest := []) ⟨hx, hb, hml, hown, hg, hl.1⟩ k_X12_333 (r_truth l D cy 1) E0_blind hK hP hD hS hA [] [] ⟨rfl, rfl, by decide +kernel, by decide +kernel, by decide +kernel⟩ (fun _ _ _ => trivial) dX12_done_211 rfl rfl (Nat.le_of_ble_eq_true rfl) ⟨Nat.le_of_ble_eq_true rfl, Nat.le_of_ble_eq_true rfl⟩ ⟨Nat.le_of_ble_eq_true rfl, Nat.le_of_ble_eq_true rfl⟩ (fun zr27 zu27 H locs hw27 hP9 hD9 hS9 => ?_)
          clear hP hD hS
          obtain ⟨k_28, rfl⟩ : ∃ z, z = zu27 := ⟨_, rfl⟩
          refine reW [] hP9 hD9 hS9 (fun hP hD hS => ?_)
          clear hP9 hD9 hS9
          refine W.widen (k := 0) (n := 0) (Nat.le_of_ble_eq_true rfl) (Nat.le_of_ble_eq_true rfl) ?_
          change (zr27 = nI k_28) ∧ (k_28 ≤ 1) ∧ (k_28 = tvF (1 : Int32)) at hw27
          obtain ⟨f_29, f_30, f_31⟩ := hw27
          subst f_29
          exact x_iret hQ hx hb hr hlocks hK hP hD hS dX12_done_214 () ((by rw [f_31, tv1]; exact dn_an2 c_199 c_203)) [] (by decide +kernel) rfl (Nat.le_of_ble_eq_true rfl) (Nat.le_of_ble_eq_true rfl)
    · refine lv_tableIn (off := 214) (tgt := 215) hx hb dX12_done_1 (by decide) (by decide) (by decide) (by decide) ?_
      refine lv_iload_n hx hb dX12_done_215 rfl (lv_at hl 1 rfl) ?_
      refine lv_if_ne (tgt := 223) hx hb dX12_done_216 (by decide) (fun c_216 => ?_) (fun c_216 => ?_)
      · refine lv_iconst (v := 1) hx hb dX12_done_223 (by decide) ?_
        refine lv_goto (tgt := 228) hx hb dX12_done_224 (by decide) ?_
        refine x_callSi (wr := []) (rest := []) ⟨hx, hb, hml, hown, hg, hl.1⟩ k_X12_333 (r_truth l D cy 1) E0_blind hK hP hD hS hA [] [] ⟨rfl, rfl, by decide +kernel, by decide +kernel, by decide +kernel⟩ (fun _ _ _ => trivial) dX12_done_228 rfl rfl (Nat.le_of_ble_eq_true rfl) ⟨Nat.le_of_ble_eq_true rfl, Nat.le_of_ble_eq_true rfl⟩ ⟨Nat.le_of_ble_eq_true rfl, Nat.le_of_ble_eq_true rfl⟩ (fun zr32 zu32 H locs hw32 hP9 hD9 hS9 => ?_)
        clear hP hD hS
        obtain ⟨k_33, rfl⟩ : ∃ z, z = zu32 := ⟨_, rfl⟩
        refine reW [] hP9 hD9 hS9 (fun hP hD hS => ?_)
        clear hP9 hD9 hS9
        refine W.widen (k := 0) (n := 0) (Nat.le_of_ble_eq_true rfl) (Nat.le_of_ble_eq_true rfl) ?_
        change (zr32 = nI k_33) ∧ (k_33 ≤ 1) ∧ (k_33 = tvF (1 : Int32)) at hw32
        obtain ⟨f_34, f_35, f_36⟩ := hw32
        subst f_34
        exact x_iret hQ hx hb hr hlocks hK hP hD hS dX12_done_231 () ((by rw [f_36, tv1]; exact dn_or0 (by unfold dnO; decide) c_216)) [] (by decide +kernel) rfl (Nat.le_of_ble_eq_true rfl) (Nat.le_of_ble_eq_true rfl)
      · refine lv_iload_n hx hb dX12_done_219 rfl (lv_at hl 2 rfl) ?_
        refine lv_if_eq (tgt := 227) hx hb dX12_done_220 (by decide) (fun c_220 => ?_) (fun c_220 => ?_)
        · refine lv_iconst (v := 0) hx hb dX12_done_227 (by decide) ?_
          refine x_callSi (wr := []) (rest := []) ⟨hx, hb, hml, hown, hg, hl.1⟩ k_X12_333 (r_truth l D cy 0) E0_blind hK hP hD hS hA [] [] ⟨rfl, rfl, by decide +kernel, by decide +kernel, by decide +kernel⟩ (fun _ _ _ => trivial) dX12_done_228 rfl rfl (Nat.le_of_ble_eq_true rfl) ⟨Nat.le_of_ble_eq_true rfl, Nat.le_of_ble_eq_true rfl⟩ ⟨Nat.le_of_ble_eq_true rfl, Nat.le_of_ble_eq_true rfl⟩ (fun zr37 zu37 H locs hw37 hP9 hD9 hS9 => ?_)
          clear hP hD hS
          obtain ⟨k_38, rfl⟩ : ∃ z, z = zu37 := ⟨_, rfl⟩
          refine reW [] hP9 hD9 hS9 (fun hP hD hS => ?_)
          clear hP9 hD9 hS9
          refine W.widen (k := 0) (n := 0) (Nat.le_of_ble_eq_true rfl) (Nat.le_of_ble_eq_true rfl) ?_
          change (zr37 = nI k_38) ∧ (k_38 ≤ 1) ∧ (k_38 = tvF (0 : Int32)) at hw37
          obtain ⟨f_39, f_40, f_41⟩ := hw37
          subst f_39
          exact x_iret hQ hx hb hr hlocks hK hP hD hS dX12_done_231 () ((by rw [f_41, tv0]; exact dn_or1 (by unfold dnO; decide) c_216 c_220)) [] (by decide +kernel) rfl (Nat.le_of_ble_eq_true rfl) (Nat.le_of_ble_eq_true rfl)
        · refine lv_iconst (v := 1) hx hb dX12_done_223 (by decide) ?_
          refine lv_goto (tgt := 228) hx hb dX12_done_224 (by decide) ?_
          refine x_callSi (wr := []) (rest := []) ⟨hx, hb, hml, hown, hg, hl.1⟩ k_X12_333 (r_truth l D cy 1) E0_blind hK hP hD hS hA [] [] ⟨rfl, rfl, by decide +kernel, by decide +kernel, by decide +kernel⟩ (fun _ _ _ => trivial) dX12_done_228 rfl rfl (Nat.le_of_ble_eq_true rfl) ⟨Nat.le_of_ble_eq_true rfl, Nat.le_of_ble_eq_true rfl⟩ ⟨Nat.le_of_ble_eq_true rfl, Nat.le_of_ble_eq_true rfl⟩ (fun zr42 zu42 H locs hw42 hP9 hD9 hS9 => ?_)
          clear hP hD hS
          obtain ⟨k_43, rfl⟩ : ∃ z, z = zu42 := ⟨_, rfl⟩
          refine reW [] hP9 hD9 hS9 (fun hP hD hS => ?_)
          clear hP9 hD9 hS9
          refine W.widen (k := 0) (n := 0) (Nat.le_of_ble_eq_true rfl) (Nat.le_of_ble_eq_true rfl) ?_
          change (zr42 = nI k_43) ∧ (k_43 ≤ 1) ∧ (k_43 = tvF (1 : Int32)) at hw42
          obtain ⟨f_44, f_45, f_46⟩ := hw42
          subst f_44
          exact x_iret hQ hx hb hr hlocks hK hP hD hS dX12_done_231 () ((by rw [f_46, tv1]; exact dn_or2 (by unfold dnO; decide) c_216 c_220)) [] (by decide +kernel) rfl (Nat.le_of_ble_eq_true rfl) (Nat.le_of_ble_eq_true rfl)
    · refine lv_tableIn (off := 214) (tgt := 215) hx hb dX12_done_1 (by decide) (by decide) (by decide) (by decide) ?_
      refine lv_iload_n hx hb dX12_done_215 rfl (lv_at hl 1 rfl) ?_
      refine lv_if_ne (tgt := 223) hx hb dX12_done_216 (by decide) (fun c_216 => ?_) (fun c_216 => ?_)
      · refine lv_iconst (v := 1) hx hb dX12_done_223 (by decide) ?_
        refine lv_goto (tgt := 228) hx hb dX12_done_224 (by decide) ?_
        refine x_callSi (wr := []) (rest := []) ⟨hx, hb, hml, hown, hg, hl.1⟩ k_X12_333 (r_truth l D cy 1) E0_blind hK hP hD hS hA [] [] ⟨rfl, rfl, by decide +kernel, by decide +kernel, by decide +kernel⟩ (fun _ _ _ => trivial) dX12_done_228 rfl rfl (Nat.le_of_ble_eq_true rfl) ⟨Nat.le_of_ble_eq_true rfl, Nat.le_of_ble_eq_true rfl⟩ ⟨Nat.le_of_ble_eq_true rfl, Nat.le_of_ble_eq_true rfl⟩ (fun zr47 zu47 H locs hw47 hP9 hD9 hS9 => ?_)
        clear hP hD hS
        obtain ⟨k_48, rfl⟩ : ∃ z, z = zu47 := ⟨_, rfl⟩
        refine reW [] hP9 hD9 hS9 (fun hP hD hS => ?_)
        clear hP9 hD9 hS9
        refine W.widen (k := 0) (n := 0) (Nat.le_of_ble_eq_true rfl) (Nat.le_of_ble_eq_true rfl) ?_
        change (zr47 = nI k_48) ∧ (k_48 ≤ 1) ∧ (k_48 = tvF (1 : Int32)) at hw47
        obtain ⟨f_49, f_50, f_51⟩ := hw47
        subst f_49
        exact x_iret hQ hx hb hr hlocks hK hP hD hS dX12_done_231 () ((by rw [f_51, tv1]; exact dn_or0 (by unfold dnO; decide) c_216)) [] (by decide +kernel) rfl (Nat.le_of_ble_eq_true rfl) (Nat.le_of_ble_eq_true rfl)
      · refine lv_iload_n hx hb dX12_done_219 rfl (lv_at hl 2 rfl) ?_
        refine lv_if_eq (tgt := 227) hx hb dX12_done_220 (by decide) (fun c_220 => ?_) (fun c_220 => ?_)
        · refine lv_iconst (v := 0) hx hb dX12_done_227 (by decide) ?_
          refine x_callSi (wr := []) (rest := []) ⟨hx, hb, hml, hown, hg, hl.1⟩ k_X12_333 (r_truth l D cy 0) E0_blind hK hP hD hS hA [] [] ⟨rfl, rfl, by decide +kernel, by decide +kernel, by decide +kernel⟩ (fun _ _ _ => trivial) dX12_done_228 rfl rfl (Nat.le_of_ble_eq_true rfl) ⟨Nat.le_of_ble_eq_true rfl, Nat.le_of_ble_eq_true rfl⟩ ⟨Nat.le_of_ble_eq_true rfl, Nat.le_of_ble_eq_true rfl⟩ (fun zr52 zu52 H locs hw52 hP9 hD9 hS9 => ?_)
          clear hP hD hS
          obtain ⟨k_53, rfl⟩ : ∃ z, z = zu52 := ⟨_, rfl⟩
          refine reW [] hP9 hD9 hS9 (fun hP hD hS => ?_)
          clear hP9 hD9 hS9
          refine W.widen (k := 0) (n := 0) (Nat.le_of_ble_eq_true rfl) (Nat.le_of_ble_eq_true rfl) ?_
          change (zr52 = nI k_53) ∧ (k_53 ≤ 1) ∧ (k_53 = tvF (0 : Int32)) at hw52
          obtain ⟨f_54, f_55, f_56⟩ := hw52
          subst f_54
          exact x_iret hQ hx hb hr hlocks hK hP hD hS dX12_done_231 () ((by rw [f_56, tv0]; exact dn_or1 (by unfold dnO; decide) c_216 c_220)) [] (by decide +kernel) rfl (Nat.le_of_ble_eq_true rfl) (Nat.le_of_ble_eq_true rfl)
        · refine lv_iconst (v := 1) hx hb dX12_done_223 (by decide) ?_
          refine lv_goto (tgt := 228) hx hb dX12_done_224 (by decide) ?_
          refine x_callSi (wr := []) (rest := []) ⟨hx, hb, hml, hown, hg, hl.1⟩ k_X12_333 (r_truth l D cy 1) E0_blind hK hP hD hS hA [] [] ⟨rfl, rfl, by decide +kernel, by decide +kernel, by decide +kernel⟩ (fun _ _ _ => trivial) dX12_done_228 rfl rfl (Nat.le_of_ble_eq_true rfl) ⟨Nat.le_of_ble_eq_true rfl, Nat.le_of_ble_eq_true rfl⟩ ⟨Nat.le_of_ble_eq_true rfl, Nat.le_of_ble_eq_true rfl⟩ (fun zr57 zu57 H locs hw57 hP9 hD9 hS9 => ?_)
          clear hP hD hS
          obtain ⟨k_58, rfl⟩ : ∃ z, z = zu57 := ⟨_, rfl⟩
          refine reW [] hP9 hD9 hS9 (fun hP hD hS => ?_)
          clear hP9 hD9 hS9
          refine W.widen (k := 0) (n := 0) (Nat.le_of_ble_eq_true rfl) (Nat.le_of_ble_eq_true rfl) ?_
          change (zr57 = nI k_58) ∧ (k_58 ≤ 1) ∧ (k_58 = tvF (1 : Int32)) at hw57
          obtain ⟨f_59, f_60, f_61⟩ := hw57
          subst f_59
          exact x_iret hQ hx hb hr hlocks hK hP hD hS dX12_done_231 () ((by rw [f_61, tv1]; exact dn_or2 (by unfold dnO; decide) c_216 c_220)) [] (by decide +kernel) rfl (Nat.le_of_ble_eq_true rfl) (Nat.le_of_ble_eq_true rfl)
    · refine lv_tableIn (off := 214) (tgt := 215) hx hb dX12_done_1 (by decide) (by decide) (by decide) (by decide) ?_
      refine lv_iload_n hx hb dX12_done_215 rfl (lv_at hl 1 rfl) ?_
      refine lv_if_ne (tgt := 223) hx hb dX12_done_216 (by decide) (fun c_216 => ?_) (fun c_216 => ?_)
      · refine lv_iconst (v := 1) hx hb dX12_done_223 (by decide) ?_
        refine lv_goto (tgt := 228) hx hb dX12_done_224 (by decide) ?_
        refine x_callSi (wr := []) (rest := []) ⟨hx, hb, hml, hown, hg, hl.1⟩ k_X12_333 (r_truth l D cy 1) E0_blind hK hP hD hS hA [] [] ⟨rfl, rfl, by decide +kernel, by decide +kernel, by decide +kernel⟩ (fun _ _ _ => trivial) dX12_done_228 rfl rfl (Nat.le_of_ble_eq_true rfl) ⟨Nat.le_of_ble_eq_true rfl, Nat.le_of_ble_eq_true rfl⟩ ⟨Nat.le_of_ble_eq_true rfl, Nat.le_of_ble_eq_true rfl⟩ (fun zr62 zu62 H locs hw62 hP9 hD9 hS9 => ?_)
        clear hP hD hS
        obtain ⟨k_63, rfl⟩ : ∃ z, z = zu62 := ⟨_, rfl⟩
        refine reW [] hP9 hD9 hS9 (fun hP hD hS => ?_)
        clear hP9 hD9 hS9
        refine W.widen (k := 0) (n := 0) (Nat.le_of_ble_eq_true rfl) (Nat.le_of_ble_eq_true rfl) ?_
        change (zr62 = nI k_63) ∧ (k_63 ≤ 1) ∧ (k_63 = tvF (1 : Int32)) at hw62
        obtain ⟨f_64, f_65, f_66⟩ := hw62
        subst f_64
        exact x_iret hQ hx hb hr hlocks hK hP hD hS dX12_done_231 () ((by rw [f_66, tv1]; exact dn_or0 (by unfold dnO; decide) c_216)) [] (by decide +kernel) rfl (Nat.le_of_ble_eq_true rfl) (Nat.le_of_ble_eq_true rfl)
      · refine lv_iload_n hx hb dX12_done_219 rfl (lv_at hl 2 rfl) ?_
        refine lv_if_eq (tgt := 227) hx hb dX12_done_220 (by decide) (fun c_220 => ?_) (fun c_220 => ?_)
        · refine lv_iconst (v := 0) hx hb dX12_done_227 (by decide) ?_
          refine x_callSi (wr := []) (rest := []) ⟨hx, hb, hml, hown, hg, hl.1⟩ k_X12_333 (r_truth l D cy 0) E0_blind hK hP hD hS hA [] [] ⟨rfl, rfl, by decide +kernel, by decide +kernel, by decide +kernel⟩ (fun _ _ _ => trivial) dX12_done_228 rfl rfl (Nat.le_of_ble_eq_true rfl) ⟨Nat.le_of_ble_eq_true rfl, Nat.le_of_ble_eq_true rfl⟩ ⟨Nat.le_of_ble_eq_true rfl, Nat.le_of_ble_eq_true rfl⟩ (fun zr67 zu67 H locs hw67 hP9 hD9 hS9 => ?_)
          clear hP hD hS
          obtain ⟨k_68, rfl⟩ : ∃ z, z = zu67 := ⟨_, rfl⟩
          refine reW [] hP9 hD9 hS9 (fun hP hD hS => ?_)
          clear hP9 hD9 hS9
          refine W.widen (k := 0) (n := 0) (Nat.le_of_ble_eq_true rfl) (Nat.le_of_ble_eq_true rfl) ?_
          change (zr67 = nI k_68) ∧ (k_68 ≤ 1) ∧ (k_68 = tvF (0 : Int32)) at hw67
          obtain ⟨f_69, f_70, f_71⟩ := hw67
          subst f_69
          exact x_iret hQ hx hb hr hlocks hK hP hD hS dX12_done_231 () ((by rw [f_71, tv0]; exact dn_or1 (by unfold dnO; decide) c_216 c_220)) [] (by decide +kernel) rfl (Nat.le_of_ble_eq_true rfl) (Nat.le_of_ble_eq_true rfl)
        · refine lv_iconst (v := 1) hx hb dX12_done_223 (by decide) ?_
          refine lv_goto (tgt := 228) hx hb dX12_done_224 (by decide) ?_
          refine x_callSi (wr := []) (rest := []) ⟨hx, hb, hml, hown, hg, hl.1⟩ k_X12_333 (r_truth l D cy 1) E0_blind hK hP hD hS hA [] [] ⟨rfl, rfl, by decide +kernel, by decide +kernel, by decide +kernel⟩ (fun _ _ _ => trivial) dX12_done_228 rfl rfl (Nat.le_of_ble_eq_true rfl) ⟨Nat.le_of_ble_eq_true rfl, Nat.le_of_ble_eq_true rfl⟩ ⟨Nat.le_of_ble_eq_true rfl, Nat.le_of_ble_eq_true rfl⟩ (fun zr72 zu72 H locs hw72 hP9 hD9 hS9 => ?_)
          clear hP hD hS
          obtain ⟨k_73, rfl⟩ : ∃ z, z = zu72 := ⟨_, rfl⟩
          refine reW [] hP9 hD9 hS9 (fun hP hD hS => ?_)
          clear hP9 hD9 hS9
          refine W.widen (k := 0) (n := 0) (Nat.le_of_ble_eq_true rfl) (Nat.le_of_ble_eq_true rfl) ?_
          change (zr72 = nI k_73) ∧ (k_73 ≤ 1) ∧ (k_73 = tvF (1 : Int32)) at hw72
          obtain ⟨f_74, f_75, f_76⟩ := hw72
          subst f_74
          exact x_iret hQ hx hb hr hlocks hK hP hD hS dX12_done_231 () ((by rw [f_76, tv1]; exact dn_or2 (by unfold dnO; decide) c_216 c_220)) [] (by decide +kernel) rfl (Nat.le_of_ble_eq_true rfl) (Nat.le_of_ble_eq_true rfl)
    · refine lv_tableIn (off := 127) (tgt := 128) hx hb dX12_done_1 (by decide) (by decide) (by decide) (by decide) ?_
      refine lv_iload_n hx hb dX12_done_128 rfl (lv_at hl 1 rfl) ?_
      refine lv_iload_n hx hb dX12_done_129 rfl (lv_at hl 2 rfl) ?_
      refine lv_imul hx hb dX12_done_130 ?_
      refine lv_topi (fun x_77 ex_77 => ?_)
      exact x_iret hQ hx hb hr hlocks hK hP hD hS dX12_done_131 () ((ex_77.trans dn_mul)) [] (by decide +kernel) rfl (Nat.le_of_ble_eq_true rfl) (Nat.le_of_ble_eq_true rfl)
    · refine lv_tableIn (off := 119) (tgt := 120) hx hb dX12_done_1 (by decide) (by decide) (by decide) (by decide) ?_
      refine lv_iload_n hx hb dX12_done_120 rfl (lv_at hl 1 rfl) ?_
      refine lv_iload_n hx hb dX12_done_121 rfl (lv_at hl 2 rfl) ?_
      refine lv_iadd hx hb dX12_done_122 ?_
      refine lv_topi (fun x_78 ex_78 => ?_)
      exact x_iret hQ hx hb hr hlocks hK hP hD hS dX12_done_123 () ((ex_78.trans dn_add)) [] (by decide +kernel) rfl (Nat.le_of_ble_eq_true rfl) (Nat.le_of_ble_eq_true rfl)
    · refine lv_tableIn (off := 214) (tgt := 215) hx hb dX12_done_1 (by decide) (by decide) (by decide) (by decide) ?_
      refine lv_iload_n hx hb dX12_done_215 rfl (lv_at hl 1 rfl) ?_
      refine lv_if_ne (tgt := 223) hx hb dX12_done_216 (by decide) (fun c_216 => ?_) (fun c_216 => ?_)
      · refine lv_iconst (v := 1) hx hb dX12_done_223 (by decide) ?_
        refine lv_goto (tgt := 228) hx hb dX12_done_224 (by decide) ?_
        refine x_callSi (wr := []) (rest := []) ⟨hx, hb, hml, hown, hg, hl.1⟩ k_X12_333 (r_truth l D cy 1) E0_blind hK hP hD hS hA [] [] ⟨rfl, rfl, by decide +kernel, by decide +kernel, by decide +kernel⟩ (fun _ _ _ => trivial) dX12_done_228 rfl rfl (Nat.le_of_ble_eq_true rfl) ⟨Nat.le_of_ble_eq_true rfl, Nat.le_of_ble_eq_true rfl⟩ ⟨Nat.le_of_ble_eq_true rfl, Nat.le_of_ble_eq_true rfl⟩ (fun zr79 zu79 H locs hw79 hP9 hD9 hS9 => ?_)
        clear hP hD hS
        obtain ⟨k_80, rfl⟩ : ∃ z, z = zu79 := ⟨_, rfl⟩
        refine reW [] hP9 hD9 hS9 (fun hP hD hS => ?_)
        clear hP9 hD9 hS9
        refine W.widen (k := 0) (n := 0) (Nat.le_of_ble_eq_true rfl) (Nat.le_of_ble_eq_true rfl) ?_
        change (zr79 = nI k_80) ∧ (k_80 ≤ 1) ∧ (k_80 = tvF (1 : Int32)) at hw79
        obtain ⟨f_81, f_82, f_83⟩ := hw79
        subst f_81
        exact x_iret hQ hx hb hr hlocks hK hP hD hS dX12_done_231 () ((by rw [f_83, tv1]; exact dn_or0 (by unfold dnO; decide) c_216)) [] (by decide +kernel) rfl (Nat.le_of_ble_eq_true rfl) (Nat.le_of_ble_eq_true rfl)
      · refine lv_iload_n hx hb dX12_done_219 rfl (lv_at hl 2 rfl) ?_
        refine lv_if_eq (tgt := 227) hx hb dX12_done_220 (by decide) (fun c_220 => ?_) (fun c_220 => ?_)
        · refine lv_iconst (v := 0) hx hb dX12_done_227 (by decide) ?_
          refine x_callSi (wr := []) (rest := []) ⟨hx, hb, hml, hown, hg, hl.1⟩ k_X12_333 (r_truth l D cy 0) E0_blind hK hP hD hS hA [] [] ⟨rfl, rfl, by decide +kernel, by decide +kernel, by decide +kernel⟩ (fun _ _ _ => trivial) dX12_done_228 rfl rfl (Nat.le_of_ble_eq_true rfl) ⟨Nat.le_of_ble_eq_true rfl, Nat.le_of_ble_eq_true rfl⟩ ⟨Nat.le_of_ble_eq_true rfl, Nat.le_of_ble_eq_true rfl⟩ (fun zr84 zu84 H locs hw84 hP9 hD9 hS9 => ?_)
          clear hP hD hS
          obtain ⟨k_85, rfl⟩ : ∃ z, z = zu84 := ⟨_, rfl⟩
          refine reW [] hP9 hD9 hS9 (fun hP hD hS => ?_)
          clear hP9 hD9 hS9
          refine W.widen (k := 0) (n := 0) (Nat.le_of_ble_eq_true rfl) (Nat.le_of_ble_eq_true rfl) ?_
          change (zr84 = nI k_85) ∧ (k_85 ≤ 1) ∧ (k_85 = tvF (0 : Int32)) at hw84
          obtain ⟨f_86, f_87, f_88⟩ := hw84
          subst f_86
          exact x_iret hQ hx hb hr hlocks hK hP hD hS dX12_done_231 () ((by rw [f_88, tv0]; exact dn_or1 (by unfold dnO; decide) c_216 c_220)) [] (by decide +kernel) rfl (Nat.le_of_ble_eq_true rfl) (Nat.le_of_ble_eq_true rfl)
        · refine lv_iconst (v := 1) hx hb dX12_done_223 (by decide) ?_
          refine lv_goto (tgt := 228) hx hb dX12_done_224 (by decide) ?_
          refine x_callSi (wr := []) (rest := []) ⟨hx, hb, hml, hown, hg, hl.1⟩ k_X12_333 (r_truth l D cy 1) E0_blind hK hP hD hS hA [] [] ⟨rfl, rfl, by decide +kernel, by decide +kernel, by decide +kernel⟩ (fun _ _ _ => trivial) dX12_done_228 rfl rfl (Nat.le_of_ble_eq_true rfl) ⟨Nat.le_of_ble_eq_true rfl, Nat.le_of_ble_eq_true rfl⟩ ⟨Nat.le_of_ble_eq_true rfl, Nat.le_of_ble_eq_true rfl⟩ (fun zr89 zu89 H locs hw89 hP9 hD9 hS9 => ?_)
          clear hP hD hS
          obtain ⟨k_90, rfl⟩ : ∃ z, z = zu89 := ⟨_, rfl⟩
          refine reW [] hP9 hD9 hS9 (fun hP hD hS => ?_)
          clear hP9 hD9 hS9
          refine W.widen (k := 0) (n := 0) (Nat.le_of_ble_eq_true rfl) (Nat.le_of_ble_eq_true rfl) ?_
          change (zr89 = nI k_90) ∧ (k_90 ≤ 1) ∧ (k_90 = tvF (1 : Int32)) at hw89
          obtain ⟨f_91, f_92, f_93⟩ := hw89
          subst f_91
          exact x_iret hQ hx hb hr hlocks hK hP hD hS dX12_done_231 () ((by rw [f_93, tv1]; exact dn_or2 (by unfold dnO; decide) c_216 c_220)) [] (by decide +kernel) rfl (Nat.le_of_ble_eq_true rfl) (Nat.le_of_ble_eq_true rfl)
    · refine lv_tableIn (off := 123) (tgt := 124) hx hb dX12_done_1 (by decide) (by decide) (by decide) (by decide) ?_
      refine lv_iload_n hx hb dX12_done_124 rfl (lv_at hl 1 rfl) ?_
      refine lv_iload_n hx hb dX12_done_125 rfl (lv_at hl 2 rfl) ?_
      refine lv_isub hx hb dX12_done_126 ?_
      refine lv_topi (fun x_94 ex_94 => ?_)
      exact x_iret hQ hx hb hr hlocks hK hP hD hS dX12_done_127 () ((ex_94.trans dn_sub)) [] (by decide +kernel) rfl (Nat.le_of_ble_eq_true rfl) (Nat.le_of_ble_eq_true rfl)
    · refine lv_tableIn (off := 214) (tgt := 215) hx hb dX12_done_1 (by decide) (by decide) (by decide) (by decide) ?_
      refine lv_iload_n hx hb dX12_done_215 rfl (lv_at hl 1 rfl) ?_
      refine lv_if_ne (tgt := 223) hx hb dX12_done_216 (by decide) (fun c_216 => ?_) (fun c_216 => ?_)
      · refine lv_iconst (v := 1) hx hb dX12_done_223 (by decide) ?_
        refine lv_goto (tgt := 228) hx hb dX12_done_224 (by decide) ?_
        refine x_callSi (wr := []) (rest := []) ⟨hx, hb, hml, hown, hg, hl.1⟩ k_X12_333 (r_truth l D cy 1) E0_blind hK hP hD hS hA [] [] ⟨rfl, rfl, by decide +kernel, by decide +kernel, by decide +kernel⟩ (fun _ _ _ => trivial) dX12_done_228 rfl rfl (Nat.le_of_ble_eq_true rfl) ⟨Nat.le_of_ble_eq_true rfl, Nat.le_of_ble_eq_true rfl⟩ ⟨Nat.le_of_ble_eq_true rfl, Nat.le_of_ble_eq_true rfl⟩ (fun zr95 zu95 H locs hw95 hP9 hD9 hS9 => ?_)
        clear hP hD hS
        obtain ⟨k_96, rfl⟩ : ∃ z, z = zu95 := ⟨_, rfl⟩
        refine reW [] hP9 hD9 hS9 (fun hP hD hS => ?_)
        clear hP9 hD9 hS9
        refine W.widen (k := 0) (n := 0) (Nat.le_of_ble_eq_true rfl) (Nat.le_of_ble_eq_true rfl) ?_
        change (zr95 = nI k_96) ∧ (k_96 ≤ 1) ∧ (k_96 = tvF (1 : Int32)) at hw95
        obtain ⟨f_97, f_98, f_99⟩ := hw95
        subst f_97
        exact x_iret hQ hx hb hr hlocks hK hP hD hS dX12_done_231 () ((by rw [f_99, tv1]; exact dn_or0 (by unfold dnO; decide) c_216)) [] (by decide +kernel) rfl (Nat.le_of_ble_eq_true rfl) (Nat.le_of_ble_eq_true rfl)
      · refine lv_iload_n hx hb dX12_done_219 rfl (lv_at hl 2 rfl) ?_
        refine lv_if_eq (tgt := 227) hx hb dX12_done_220 (by decide) (fun c_220 => ?_) (fun c_220 => ?_)
        · refine lv_iconst (v := 0) hx hb dX12_done_227 (by decide) ?_
          refine x_callSi (wr := []) (rest := []) ⟨hx, hb, hml, hown, hg, hl.1⟩ k_X12_333 (r_truth l D cy 0) E0_blind hK hP hD hS hA [] [] ⟨rfl, rfl, by decide +kernel, by decide +kernel, by decide +kernel⟩ (fun _ _ _ => trivial) dX12_done_228 rfl rfl (Nat.le_of_ble_eq_true rfl) ⟨Nat.le_of_ble_eq_true rfl, Nat.le_of_ble_eq_true rfl⟩ ⟨Nat.le_of_ble_eq_true rfl, Nat.le_of_ble_eq_true rfl⟩ (fun zr100 zu100 H locs hw100 hP9 hD9 hS9 => ?_)
          clear hP hD hS
          obtain ⟨k_101, rfl⟩ : ∃ z, z = zu100 := ⟨_, rfl⟩
          refine reW [] hP9 hD9 hS9 (fun hP hD hS => ?_)
          clear hP9 hD9 hS9
          refine W.widen (k := 0) (n := 0) (Nat.le_of_ble_eq_true rfl) (Nat.le_of_ble_eq_true rfl) ?_
          change (zr100 = nI k_101) ∧ (k_101 ≤ 1) ∧ (k_101 = tvF (0 : Int32)) at hw100
          obtain ⟨f_102, f_103, f_104⟩ := hw100
          subst f_102
          exact x_iret hQ hx hb hr hlocks hK hP hD hS dX12_done_231 () ((by rw [f_104, tv0]; exact dn_or1 (by unfold dnO; decide) c_216 c_220)) [] (by decide +kernel) rfl (Nat.le_of_ble_eq_true rfl) (Nat.le_of_ble_eq_true rfl)
        · refine lv_iconst (v := 1) hx hb dX12_done_223 (by decide) ?_
          refine lv_goto (tgt := 228) hx hb dX12_done_224 (by decide) ?_
          refine x_callSi (wr := []) (rest := []) ⟨hx, hb, hml, hown, hg, hl.1⟩ k_X12_333 (r_truth l D cy 1) E0_blind hK hP hD hS hA [] [] ⟨rfl, rfl, by decide +kernel, by decide +kernel, by decide +kernel⟩ (fun _ _ _ => trivial) dX12_done_228 rfl rfl (Nat.le_of_ble_eq_true rfl) ⟨Nat.le_of_ble_eq_true rfl, Nat.le_of_ble_eq_true rfl⟩ ⟨Nat.le_of_ble_eq_true rfl, Nat.le_of_ble_eq_true rfl⟩ (fun zr105 zu105 H locs hw105 hP9 hD9 hS9 => ?_)
          clear hP hD hS
          obtain ⟨k_106, rfl⟩ : ∃ z, z = zu105 := ⟨_, rfl⟩
          refine reW [] hP9 hD9 hS9 (fun hP hD hS => ?_)
          clear hP9 hD9 hS9
          refine W.widen (k := 0) (n := 0) (Nat.le_of_ble_eq_true rfl) (Nat.le_of_ble_eq_true rfl) ?_
          change (zr105 = nI k_106) ∧ (k_106 ≤ 1) ∧ (k_106 = tvF (1 : Int32)) at hw105
          obtain ⟨f_107, f_108, f_109⟩ := hw105
          subst f_107
          exact x_iret hQ hx hb hr hlocks hK hP hD hS dX12_done_231 () ((by rw [f_109, tv1]; exact dn_or2 (by unfold dnO; decide) c_216 c_220)) [] (by decide +kernel) rfl (Nat.le_of_ble_eq_true rfl) (Nat.le_of_ble_eq_true rfl)
    · refine lv_tableIn (off := 131) (tgt := 132) hx hb dX12_done_1 (by decide) (by decide) (by decide) (by decide) ?_
      refine lv_iload_n hx hb dX12_done_132 rfl (lv_at hl 2 rfl) ?_
      refine lv_if_ne (tgt := 140) hx hb dX12_done_133 (by decide) (fun c_133 => ?_) (fun c_133 => ?_)
      · refine lv_iload_n hx hb dX12_done_140 rfl (lv_at hl 1 rfl) ?_
        refine lv_iload_n hx hb dX12_done_141 rfl (lv_at hl 2 rfl) ?_
        refine lv_idiv hx hb dX12_done_142 c_133 ?_
        refine lv_topi (fun x_110 ex_110 => ?_)
        exact x_iret hQ hx hb hr hlocks hK hP hD hS dX12_done_143 () ((ex_110.trans (dn_div1 c_133))) [] (by decide +kernel) rfl (Nat.le_of_ble_eq_true rfl) (Nat.le_of_ble_eq_true rfl)
      · refine lv_iconst (v := 0) hx hb dX12_done_136 (by decide) ?_
        refine lv_goto (tgt := 143) hx hb dX12_done_137 (by decide) ?_
        exact x_iret hQ hx hb hr hlocks hK hP hD hS dX12_done_143 () ((dn_div0 c_133)) [] (by decide +kernel) rfl (Nat.le_of_ble_eq_true rfl) (Nat.le_of_ble_eq_true rfl)
    · refine lv_tableIn (off := 214) (tgt := 215) hx hb dX12_done_1 (by decide) (by decide) (by decide) (by decide) ?_
      refine lv_iload_n hx hb dX12_done_215 rfl (lv_at hl 1 rfl) ?_
      refine lv_if_ne (tgt := 223) hx hb dX12_done_216 (by decide) (fun c_216 => ?_) (fun c_216 => ?_)
      · refine lv_iconst (v := 1) hx hb dX12_done_223 (by decide) ?_
        refine lv_goto (tgt := 228) hx hb dX12_done_224 (by decide) ?_
        refine x_callSi (wr := []) (rest := []) ⟨hx, hb, hml, hown, hg, hl.1⟩ k_X12_333 (r_truth l D cy 1) E0_blind hK hP hD hS hA [] [] ⟨rfl, rfl, by decide +kernel, by decide +kernel, by decide +kernel⟩ (fun _ _ _ => trivial) dX12_done_228 rfl rfl (Nat.le_of_ble_eq_true rfl) ⟨Nat.le_of_ble_eq_true rfl, Nat.le_of_ble_eq_true rfl⟩ ⟨Nat.le_of_ble_eq_true rfl, Nat.le_of_ble_eq_true rfl⟩ (fun zr111 zu111 H locs hw111 hP9 hD9 hS9 => ?_)
        clear hP hD hS
        obtain ⟨k_112, rfl⟩ : ∃ z, z = zu111 := ⟨_, rfl⟩
        refine reW [] hP9 hD9 hS9 (fun hP hD hS => ?_)
        clear hP9 hD9 hS9
        refine W.widen (k := 0) (n := 0) (Nat.le_of_ble_eq_true rfl) (Nat.le_of_ble_eq_true rfl) ?_
        change (zr111 = nI k_112) ∧ (k_112 ≤ 1) ∧ (k_112 = tvF (1 : Int32)) at hw111
        obtain ⟨f_113, f_114, f_115⟩ := hw111
        subst f_113
        exact x_iret hQ hx hb hr hlocks hK hP hD hS dX12_done_231 () ((by rw [f_115, tv1]; exact dn_or0 (by unfold dnO; decide) c_216)) [] (by decide +kernel) rfl (Nat.le_of_ble_eq_true rfl) (Nat.le_of_ble_eq_true rfl)
      · refine lv_iload_n hx hb dX12_done_219 rfl (lv_at hl 2 rfl) ?_
        refine lv_if_eq (tgt := 227) hx hb dX12_done_220 (by decide) (fun c_220 => ?_) (fun c_220 => ?_)
        · refine lv_iconst (v := 0) hx hb dX12_done_227 (by decide) ?_
          refine x_callSi (wr := []) (rest := []) ⟨hx, hb, hml, hown, hg, hl.1⟩ k_X12_333 (r_truth l D cy 0) E0_blind hK hP hD hS hA [] [] ⟨rfl, rfl, by decide +kernel, by decide +kernel, by decide +kernel⟩ (fun _ _ _ => trivial) dX12_done_228 rfl rfl (Nat.le_of_ble_eq_true rfl) ⟨Nat.le_of_ble_eq_true rfl, Nat.le_of_ble_eq_true rfl⟩ ⟨Nat.le_of_ble_eq_true rfl, Nat.le_of_ble_eq_true rfl⟩ (fun zr116 zu116 H locs hw116 hP9 hD9 hS9 => ?_)
          clear hP hD hS
          obtain ⟨k_117, rfl⟩ : ∃ z, z = zu116 := ⟨_, rfl⟩
          refine reW [] hP9 hD9 hS9 (fun hP hD hS => ?_)
          clear hP9 hD9 hS9
          refine W.widen (k := 0) (n := 0) (Nat.le_of_ble_eq_true rfl) (Nat.le_of_ble_eq_true rfl) ?_
          change (zr116 = nI k_117) ∧ (k_117 ≤ 1) ∧ (k_117 = tvF (0 : Int32)) at hw116
          obtain ⟨f_118, f_119, f_120⟩ := hw116
          subst f_118
          exact x_iret hQ hx hb hr hlocks hK hP hD hS dX12_done_231 () ((by rw [f_120, tv0]; exact dn_or1 (by unfold dnO; decide) c_216 c_220)) [] (by decide +kernel) rfl (Nat.le_of_ble_eq_true rfl) (Nat.le_of_ble_eq_true rfl)
        · refine lv_iconst (v := 1) hx hb dX12_done_223 (by decide) ?_
          refine lv_goto (tgt := 228) hx hb dX12_done_224 (by decide) ?_
          refine x_callSi (wr := []) (rest := []) ⟨hx, hb, hml, hown, hg, hl.1⟩ k_X12_333 (r_truth l D cy 1) E0_blind hK hP hD hS hA [] [] ⟨rfl, rfl, by decide +kernel, by decide +kernel, by decide +kernel⟩ (fun _ _ _ => trivial) dX12_done_228 rfl rfl (Nat.le_of_ble_eq_true rfl) ⟨Nat.le_of_ble_eq_true rfl, Nat.le_of_ble_eq_true rfl⟩ ⟨Nat.le_of_ble_eq_true rfl, Nat.le_of_ble_eq_true rfl⟩ (fun zr121 zu121 H locs hw121 hP9 hD9 hS9 => ?_)
          clear hP hD hS
          obtain ⟨k_122, rfl⟩ : ∃ z, z = zu121 := ⟨_, rfl⟩
          refine reW [] hP9 hD9 hS9 (fun hP hD hS => ?_)
          clear hP9 hD9 hS9
          refine W.widen (k := 0) (n := 0) (Nat.le_of_ble_eq_true rfl) (Nat.le_of_ble_eq_true rfl) ?_
          change (zr121 = nI k_122) ∧ (k_122 ≤ 1) ∧ (k_122 = tvF (1 : Int32)) at hw121
          obtain ⟨f_123, f_124, f_125⟩ := hw121
          subst f_123
          exact x_iret hQ hx hb hr hlocks hK hP hD hS dX12_done_231 () ((by rw [f_125, tv1]; exact dn_or2 (by unfold dnO; decide) c_216 c_220)) [] (by decide +kernel) rfl (Nat.le_of_ble_eq_true rfl) (Nat.le_of_ble_eq_true rfl)
    · refine lv_tableIn (off := 214) (tgt := 215) hx hb dX12_done_1 (by decide) (by decide) (by decide) (by decide) ?_
      refine lv_iload_n hx hb dX12_done_215 rfl (lv_at hl 1 rfl) ?_
      refine lv_if_ne (tgt := 223) hx hb dX12_done_216 (by decide) (fun c_216 => ?_) (fun c_216 => ?_)
      · refine lv_iconst (v := 1) hx hb dX12_done_223 (by decide) ?_
        refine lv_goto (tgt := 228) hx hb dX12_done_224 (by decide) ?_
        refine x_callSi (wr := []) (rest := []) ⟨hx, hb, hml, hown, hg, hl.1⟩ k_X12_333 (r_truth l D cy 1) E0_blind hK hP hD hS hA [] [] ⟨rfl, rfl, by decide +kernel, by decide +kernel, by decide +kernel⟩ (fun _ _ _ => trivial) dX12_done_228 rfl rfl (Nat.le_of_ble_eq_true rfl) ⟨Nat.le_of_ble_eq_true rfl, Nat.le_of_ble_eq_true rfl⟩ ⟨Nat.le_of_ble_eq_true rfl, Nat.le_of_ble_eq_true rfl⟩ (fun zr126 zu126 H locs hw126 hP9 hD9 hS9 => ?_)
        clear hP hD hS
        obtain ⟨k_127, rfl⟩ : ∃ z, z = zu126 := ⟨_, rfl⟩
        refine reW [] hP9 hD9 hS9 (fun hP hD hS => ?_)
        clear hP9 hD9 hS9
        refine W.widen (k := 0) (n := 0) (Nat.le_of_ble_eq_true rfl) (Nat.le_of_ble_eq_true rfl) ?_
        change (zr126 = nI k_127) ∧ (k_127 ≤ 1) ∧ (k_127 = tvF (1 : Int32)) at hw126
        obtain ⟨f_128, f_129, f_130⟩ := hw126
        subst f_128
        exact x_iret hQ hx hb hr hlocks hK hP hD hS dX12_done_231 () ((by rw [f_130, tv1]; exact dn_or0 (by unfold dnO; decide) c_216)) [] (by decide +kernel) rfl (Nat.le_of_ble_eq_true rfl) (Nat.le_of_ble_eq_true rfl)
      · refine lv_iload_n hx hb dX12_done_219 rfl (lv_at hl 2 rfl) ?_
        refine lv_if_eq (tgt := 227) hx hb dX12_done_220 (by decide) (fun c_220 => ?_) (fun c_220 => ?_)
        · refine lv_iconst (v := 0) hx hb dX12_done_227 (by decide) ?_
          refine x_callSi (wr := []) (rest := []) ⟨hx, hb, hml, hown, hg, hl.1⟩ k_X12_333 (r_truth l D cy 0) E0_blind hK hP hD hS hA [] [] ⟨rfl, rfl, by decide +kernel, by decide +kernel, by decide +kernel⟩ (fun _ _ _ => trivial) dX12_done_228 rfl rfl (Nat.le_of_ble_eq_true rfl) ⟨Nat.le_of_ble_eq_true rfl, Nat.le_of_ble_eq_true rfl⟩ ⟨Nat.le_of_ble_eq_true rfl, Nat.le_of_ble_eq_true rfl⟩ (fun zr131 zu131 H locs hw131 hP9 hD9 hS9 => ?_)
          clear hP hD hS
          obtain ⟨k_132, rfl⟩ : ∃ z, z = zu131 := ⟨_, rfl⟩
          refine reW [] hP9 hD9 hS9 (fun hP hD hS => ?_)
          clear hP9 hD9 hS9
          refine W.widen (k := 0) (n := 0) (Nat.le_of_ble_eq_true rfl) (Nat.le_of_ble_eq_true rfl) ?_
          change (zr131 = nI k_132) ∧ (k_132 ≤ 1) ∧ (k_132 = tvF (0 : Int32)) at hw131
          obtain ⟨f_133, f_134, f_135⟩ := hw131
          subst f_133
          exact x_iret hQ hx hb hr hlocks hK hP hD hS dX12_done_231 () ((by rw [f_135, tv0]; exact dn_or1 (by unfold dnO; decide) c_216 c_220)) [] (by decide +kernel) rfl (Nat.le_of_ble_eq_true rfl) (Nat.le_of_ble_eq_true rfl)
        · refine lv_iconst (v := 1) hx hb dX12_done_223 (by decide) ?_
          refine lv_goto (tgt := 228) hx hb dX12_done_224 (by decide) ?_
          refine x_callSi (wr := []) (rest := []) ⟨hx, hb, hml, hown, hg, hl.1⟩ k_X12_333 (r_truth l D cy 1) E0_blind hK hP hD hS hA [] [] ⟨rfl, rfl, by decide +kernel, by decide +kernel, by decide +kernel⟩ (fun _ _ _ => trivial) dX12_done_228 rfl rfl (Nat.le_of_ble_eq_true rfl) ⟨Nat.le_of_ble_eq_true rfl, Nat.le_of_ble_eq_true rfl⟩ ⟨Nat.le_of_ble_eq_true rfl, Nat.le_of_ble_eq_true rfl⟩ (fun zr136 zu136 H locs hw136 hP9 hD9 hS9 => ?_)
          clear hP hD hS
          obtain ⟨k_137, rfl⟩ : ∃ z, z = zu136 := ⟨_, rfl⟩
          refine reW [] hP9 hD9 hS9 (fun hP hD hS => ?_)
          clear hP9 hD9 hS9
          refine W.widen (k := 0) (n := 0) (Nat.le_of_ble_eq_true rfl) (Nat.le_of_ble_eq_true rfl) ?_
          change (zr136 = nI k_137) ∧ (k_137 ≤ 1) ∧ (k_137 = tvF (1 : Int32)) at hw136
          obtain ⟨f_138, f_139, f_140⟩ := hw136
          subst f_138
          exact x_iret hQ hx hb hr hlocks hK hP hD hS dX12_done_231 () ((by rw [f_140, tv1]; exact dn_or2 (by unfold dnO; decide) c_216 c_220)) [] (by decide +kernel) rfl (Nat.le_of_ble_eq_true rfl) (Nat.le_of_ble_eq_true rfl)
    · refine lv_tableIn (off := 214) (tgt := 215) hx hb dX12_done_1 (by decide) (by decide) (by decide) (by decide) ?_
      refine lv_iload_n hx hb dX12_done_215 rfl (lv_at hl 1 rfl) ?_
      refine lv_if_ne (tgt := 223) hx hb dX12_done_216 (by decide) (fun c_216 => ?_) (fun c_216 => ?_)
      · refine lv_iconst (v := 1) hx hb dX12_done_223 (by decide) ?_
        refine lv_goto (tgt := 228) hx hb dX12_done_224 (by decide) ?_
        refine x_callSi (wr := []) (rest := []) ⟨hx, hb, hml, hown, hg, hl.1⟩ k_X12_333 (r_truth l D cy 1) E0_blind hK hP hD hS hA [] [] ⟨rfl, rfl, by decide +kernel, by decide +kernel, by decide +kernel⟩ (fun _ _ _ => trivial) dX12_done_228 rfl rfl (Nat.le_of_ble_eq_true rfl) ⟨Nat.le_of_ble_eq_true rfl, Nat.le_of_ble_eq_true rfl⟩ ⟨Nat.le_of_ble_eq_true rfl, Nat.le_of_ble_eq_true rfl⟩ (fun zr141 zu141 H locs hw141 hP9 hD9 hS9 => ?_)
        clear hP hD hS
        obtain ⟨k_142, rfl⟩ : ∃ z, z = zu141 := ⟨_, rfl⟩
        refine reW [] hP9 hD9 hS9 (fun hP hD hS => ?_)
        clear hP9 hD9 hS9
        refine W.widen (k := 0) (n := 0) (Nat.le_of_ble_eq_true rfl) (Nat.le_of_ble_eq_true rfl) ?_
        change (zr141 = nI k_142) ∧ (k_142 ≤ 1) ∧ (k_142 = tvF (1 : Int32)) at hw141
        obtain ⟨f_143, f_144, f_145⟩ := hw141
        subst f_143
        exact x_iret hQ hx hb hr hlocks hK hP hD hS dX12_done_231 () ((by rw [f_145, tv1]; exact dn_or0 (by unfold dnO; decide) c_216)) [] (by decide +kernel) rfl (Nat.le_of_ble_eq_true rfl) (Nat.le_of_ble_eq_true rfl)
      · refine lv_iload_n hx hb dX12_done_219 rfl (lv_at hl 2 rfl) ?_
        refine lv_if_eq (tgt := 227) hx hb dX12_done_220 (by decide) (fun c_220 => ?_) (fun c_220 => ?_)
        · refine lv_iconst (v := 0) hx hb dX12_done_227 (by decide) ?_
          refine x_callSi (wr := []) (rest := []) ⟨hx, hb, hml, hown, hg, hl.1⟩ k_X12_333 (r_truth l D cy 0) E0_blind hK hP hD hS hA [] [] ⟨rfl, rfl, by decide +kernel, by decide +kernel, by decide +kernel⟩ (fun _ _ _ => trivial) dX12_done_228 rfl rfl (Nat.le_of_ble_eq_true rfl) ⟨Nat.le_of_ble_eq_true rfl, Nat.le_of_ble_eq_true rfl⟩ ⟨Nat.le_of_ble_eq_true rfl, Nat.le_of_ble_eq_true rfl⟩ (fun zr146 zu146 H locs hw146 hP9 hD9 hS9 => ?_)
          clear hP hD hS
          obtain ⟨k_147, rfl⟩ : ∃ z, z = zu146 := ⟨_, rfl⟩
          refine reW [] hP9 hD9 hS9 (fun hP hD hS => ?_)
          clear hP9 hD9 hS9
          refine W.widen (k := 0) (n := 0) (Nat.le_of_ble_eq_true rfl) (Nat.le_of_ble_eq_true rfl) ?_
          change (zr146 = nI k_147) ∧ (k_147 ≤ 1) ∧ (k_147 = tvF (0 : Int32)) at hw146
          obtain ⟨f_148, f_149, f_150⟩ := hw146
          subst f_148
          exact x_iret hQ hx hb hr hlocks hK hP hD hS dX12_done_231 () ((by rw [f_150, tv0]; exact dn_or1 (by unfold dnO; decide) c_216 c_220)) [] (by decide +kernel) rfl (Nat.le_of_ble_eq_true rfl) (Nat.le_of_ble_eq_true rfl)
        · refine lv_iconst (v := 1) hx hb dX12_done_223 (by decide) ?_
          refine lv_goto (tgt := 228) hx hb dX12_done_224 (by decide) ?_
          refine x_callSi (wr := []) (rest := []) ⟨hx, hb, hml, hown, hg, hl.1⟩ k_X12_333 (r_truth l D cy 1) E0_blind hK hP hD hS hA [] [] ⟨rfl, rfl, by decide +kernel, by decide +kernel, by decide +kernel⟩ (fun _ _ _ => trivial) dX12_done_228 rfl rfl (Nat.le_of_ble_eq_true rfl) ⟨Nat.le_of_ble_eq_true rfl, Nat.le_of_ble_eq_true rfl⟩ ⟨Nat.le_of_ble_eq_true rfl, Nat.le_of_ble_eq_true rfl⟩ (fun zr151 zu151 H locs hw151 hP9 hD9 hS9 => ?_)
          clear hP hD hS
          obtain ⟨k_152, rfl⟩ : ∃ z, z = zu151 := ⟨_, rfl⟩
          refine reW [] hP9 hD9 hS9 (fun hP hD hS => ?_)
          clear hP9 hD9 hS9
          refine W.widen (k := 0) (n := 0) (Nat.le_of_ble_eq_true rfl) (Nat.le_of_ble_eq_true rfl) ?_
          change (zr151 = nI k_152) ∧ (k_152 ≤ 1) ∧ (k_152 = tvF (1 : Int32)) at hw151
          obtain ⟨f_153, f_154, f_155⟩ := hw151
          subst f_153
          exact x_iret hQ hx hb hr hlocks hK hP hD hS dX12_done_231 () ((by rw [f_155, tv1]; exact dn_or2 (by unfold dnO; decide) c_216 c_220)) [] (by decide +kernel) rfl (Nat.le_of_ble_eq_true rfl) (Nat.le_of_ble_eq_true rfl)
    · refine lv_tableIn (off := 214) (tgt := 215) hx hb dX12_done_1 (by decide) (by decide) (by decide) (by decide) ?_
      refine lv_iload_n hx hb dX12_done_215 rfl (lv_at hl 1 rfl) ?_
      refine lv_if_ne (tgt := 223) hx hb dX12_done_216 (by decide) (fun c_216 => ?_) (fun c_216 => ?_)
      · refine lv_iconst (v := 1) hx hb dX12_done_223 (by decide) ?_
        refine lv_goto (tgt := 228) hx hb dX12_done_224 (by decide) ?_
        refine x_callSi (wr := []) (rest := []) ⟨hx, hb, hml, hown, hg, hl.1⟩ k_X12_333 (r_truth l D cy 1) E0_blind hK hP hD hS hA [] [] ⟨rfl, rfl, by decide +kernel, by decide +kernel, by decide +kernel⟩ (fun _ _ _ => trivial) dX12_done_228 rfl rfl (Nat.le_of_ble_eq_true rfl) ⟨Nat.le_of_ble_eq_true rfl, Nat.le_of_ble_eq_true rfl⟩ ⟨Nat.le_of_ble_eq_true rfl, Nat.le_of_ble_eq_true rfl⟩ (fun zr156 zu156 H locs hw156 hP9 hD9 hS9 => ?_)
        clear hP hD hS
        obtain ⟨k_157, rfl⟩ : ∃ z, z = zu156 := ⟨_, rfl⟩
        refine reW [] hP9 hD9 hS9 (fun hP hD hS => ?_)
        clear hP9 hD9 hS9
        refine W.widen (k := 0) (n := 0) (Nat.le_of_ble_eq_true rfl) (Nat.le_of_ble_eq_true rfl) ?_
        change (zr156 = nI k_157) ∧ (k_157 ≤ 1) ∧ (k_157 = tvF (1 : Int32)) at hw156
        obtain ⟨f_158, f_159, f_160⟩ := hw156
        subst f_158
        exact x_iret hQ hx hb hr hlocks hK hP hD hS dX12_done_231 () ((by rw [f_160, tv1]; exact dn_or0 (by unfold dnO; decide) c_216)) [] (by decide +kernel) rfl (Nat.le_of_ble_eq_true rfl) (Nat.le_of_ble_eq_true rfl)
      · refine lv_iload_n hx hb dX12_done_219 rfl (lv_at hl 2 rfl) ?_
        refine lv_if_eq (tgt := 227) hx hb dX12_done_220 (by decide) (fun c_220 => ?_) (fun c_220 => ?_)
        · refine lv_iconst (v := 0) hx hb dX12_done_227 (by decide) ?_
          refine x_callSi (wr := []) (rest := []) ⟨hx, hb, hml, hown, hg, hl.1⟩ k_X12_333 (r_truth l D cy 0) E0_blind hK hP hD hS hA [] [] ⟨rfl, rfl, by decide +kernel, by decide +kernel, by decide +kernel⟩ (fun _ _ _ => trivial) dX12_done_228 rfl rfl (Nat.le_of_ble_eq_true rfl) ⟨Nat.le_of_ble_eq_true rfl, Nat.le_of_ble_eq_true rfl⟩ ⟨Nat.le_of_ble_eq_true rfl, Nat.le_of_ble_eq_true rfl⟩ (fun zr161 zu161 H locs hw161 hP9 hD9 hS9 => ?_)
          clear hP hD hS
          obtain ⟨k_162, rfl⟩ : ∃ z, z = zu161 := ⟨_, rfl⟩
          refine reW [] hP9 hD9 hS9 (fun hP hD hS => ?_)
          clear hP9 hD9 hS9
          refine W.widen (k := 0) (n := 0) (Nat.le_of_ble_eq_true rfl) (Nat.le_of_ble_eq_true rfl) ?_
          change (zr161 = nI k_162) ∧ (k_162 ≤ 1) ∧ (k_162 = tvF (0 : Int32)) at hw161
          obtain ⟨f_163, f_164, f_165⟩ := hw161
          subst f_163
          exact x_iret hQ hx hb hr hlocks hK hP hD hS dX12_done_231 () ((by rw [f_165, tv0]; exact dn_or1 (by unfold dnO; decide) c_216 c_220)) [] (by decide +kernel) rfl (Nat.le_of_ble_eq_true rfl) (Nat.le_of_ble_eq_true rfl)
        · refine lv_iconst (v := 1) hx hb dX12_done_223 (by decide) ?_
          refine lv_goto (tgt := 228) hx hb dX12_done_224 (by decide) ?_
          refine x_callSi (wr := []) (rest := []) ⟨hx, hb, hml, hown, hg, hl.1⟩ k_X12_333 (r_truth l D cy 1) E0_blind hK hP hD hS hA [] [] ⟨rfl, rfl, by decide +kernel, by decide +kernel, by decide +kernel⟩ (fun _ _ _ => trivial) dX12_done_228 rfl rfl (Nat.le_of_ble_eq_true rfl) ⟨Nat.le_of_ble_eq_true rfl, Nat.le_of_ble_eq_true rfl⟩ ⟨Nat.le_of_ble_eq_true rfl, Nat.le_of_ble_eq_true rfl⟩ (fun zr166 zu166 H locs hw166 hP9 hD9 hS9 => ?_)
          clear hP hD hS
          obtain ⟨k_167, rfl⟩ : ∃ z, z = zu166 := ⟨_, rfl⟩
          refine reW [] hP9 hD9 hS9 (fun hP hD hS => ?_)
          clear hP9 hD9 hS9
          refine W.widen (k := 0) (n := 0) (Nat.le_of_ble_eq_true rfl) (Nat.le_of_ble_eq_true rfl) ?_
          change (zr166 = nI k_167) ∧ (k_167 ≤ 1) ∧ (k_167 = tvF (1 : Int32)) at hw166
          obtain ⟨f_168, f_169, f_170⟩ := hw166
          subst f_168
          exact x_iret hQ hx hb hr hlocks hK hP hD hS dX12_done_231 () ((by rw [f_170, tv1]; exact dn_or2 (by unfold dnO; decide) c_216 c_220)) [] (by decide +kernel) rfl (Nat.le_of_ble_eq_true rfl) (Nat.le_of_ble_eq_true rfl)
    · refine lv_tableIn (off := 214) (tgt := 215) hx hb dX12_done_1 (by decide) (by decide) (by decide) (by decide) ?_
      refine lv_iload_n hx hb dX12_done_215 rfl (lv_at hl 1 rfl) ?_
      refine lv_if_ne (tgt := 223) hx hb dX12_done_216 (by decide) (fun c_216 => ?_) (fun c_216 => ?_)
      · refine lv_iconst (v := 1) hx hb dX12_done_223 (by decide) ?_
        refine lv_goto (tgt := 228) hx hb dX12_done_224 (by decide) ?_
        refine x_callSi (wr := []) (rest := []) ⟨hx, hb, hml, hown, hg, hl.1⟩ k_X12_333 (r_truth l D cy 1) E0_blind hK hP hD hS hA [] [] ⟨rfl, rfl, by decide +kernel, by decide +kernel, by decide +kernel⟩ (fun _ _ _ => trivial) dX12_done_228 rfl rfl (Nat.le_of_ble_eq_true rfl) ⟨Nat.le_of_ble_eq_true rfl, Nat.le_of_ble_eq_true rfl⟩ ⟨Nat.le_of_ble_eq_true rfl, Nat.le_of_ble_eq_true rfl⟩ (fun zr171 zu171 H locs hw171 hP9 hD9 hS9 => ?_)
        clear hP hD hS
        obtain ⟨k_172, rfl⟩ : ∃ z, z = zu171 := ⟨_, rfl⟩
        refine reW [] hP9 hD9 hS9 (fun hP hD hS => ?_)
        clear hP9 hD9 hS9
        refine W.widen (k := 0) (n := 0) (Nat.le_of_ble_eq_true rfl) (Nat.le_of_ble_eq_true rfl) ?_
        change (zr171 = nI k_172) ∧ (k_172 ≤ 1) ∧ (k_172 = tvF (1 : Int32)) at hw171
        obtain ⟨f_173, f_174, f_175⟩ := hw171
        subst f_173
        exact x_iret hQ hx hb hr hlocks hK hP hD hS dX12_done_231 () ((by rw [f_175, tv1]; exact dn_or0 (by unfold dnO; decide) c_216)) [] (by decide +kernel) rfl (Nat.le_of_ble_eq_true rfl) (Nat.le_of_ble_eq_true rfl)
      · refine lv_iload_n hx hb dX12_done_219 rfl (lv_at hl 2 rfl) ?_
        refine lv_if_eq (tgt := 227) hx hb dX12_done_220 (by decide) (fun c_220 => ?_) (fun c_220 => ?_)
        · refine lv_iconst (v := 0) hx hb dX12_done_227 (by decide) ?_
          refine x_callSi (wr := []) (rest := []) ⟨hx, hb, hml, hown, hg, hl.1⟩ k_X12_333 (r_truth l D cy 0) E0_blind hK hP hD hS hA [] [] ⟨rfl, rfl, by decide +kernel, by decide +kernel, by decide +kernel⟩ (fun _ _ _ => trivial) dX12_done_228 rfl rfl (Nat.le_of_ble_eq_true rfl) ⟨Nat.le_of_ble_eq_true rfl, Nat.le_of_ble_eq_true rfl⟩ ⟨Nat.le_of_ble_eq_true rfl, Nat.le_of_ble_eq_true rfl⟩ (fun zr176 zu176 H locs hw176 hP9 hD9 hS9 => ?_)
          clear hP hD hS
          obtain ⟨k_177, rfl⟩ : ∃ z, z = zu176 := ⟨_, rfl⟩
          refine reW [] hP9 hD9 hS9 (fun hP hD hS => ?_)
          clear hP9 hD9 hS9
          refine W.widen (k := 0) (n := 0) (Nat.le_of_ble_eq_true rfl) (Nat.le_of_ble_eq_true rfl) ?_
          change (zr176 = nI k_177) ∧ (k_177 ≤ 1) ∧ (k_177 = tvF (0 : Int32)) at hw176
          obtain ⟨f_178, f_179, f_180⟩ := hw176
          subst f_178
          exact x_iret hQ hx hb hr hlocks hK hP hD hS dX12_done_231 () ((by rw [f_180, tv0]; exact dn_or1 (by unfold dnO; decide) c_216 c_220)) [] (by decide +kernel) rfl (Nat.le_of_ble_eq_true rfl) (Nat.le_of_ble_eq_true rfl)
        · refine lv_iconst (v := 1) hx hb dX12_done_223 (by decide) ?_
          refine lv_goto (tgt := 228) hx hb dX12_done_224 (by decide) ?_
          refine x_callSi (wr := []) (rest := []) ⟨hx, hb, hml, hown, hg, hl.1⟩ k_X12_333 (r_truth l D cy 1) E0_blind hK hP hD hS hA [] [] ⟨rfl, rfl, by decide +kernel, by decide +kernel, by decide +kernel⟩ (fun _ _ _ => trivial) dX12_done_228 rfl rfl (Nat.le_of_ble_eq_true rfl) ⟨Nat.le_of_ble_eq_true rfl, Nat.le_of_ble_eq_true rfl⟩ ⟨Nat.le_of_ble_eq_true rfl, Nat.le_of_ble_eq_true rfl⟩ (fun zr181 zu181 H locs hw181 hP9 hD9 hS9 => ?_)
          clear hP hD hS
          obtain ⟨k_182, rfl⟩ : ∃ z, z = zu181 := ⟨_, rfl⟩
          refine reW [] hP9 hD9 hS9 (fun hP hD hS => ?_)
          clear hP9 hD9 hS9
          refine W.widen (k := 0) (n := 0) (Nat.le_of_ble_eq_true rfl) (Nat.le_of_ble_eq_true rfl) ?_
          change (zr181 = nI k_182) ∧ (k_182 ≤ 1) ∧ (k_182 = tvF (1 : Int32)) at hw181
          obtain ⟨f_183, f_184, f_185⟩ := hw181
          subst f_183
          exact x_iret hQ hx hb hr hlocks hK hP hD hS dX12_done_231 () ((by rw [f_185, tv1]; exact dn_or2 (by unfold dnO; decide) c_216 c_220)) [] (by decide +kernel) rfl (Nat.le_of_ble_eq_true rfl) (Nat.le_of_ble_eq_true rfl)
    · refine lv_tableIn (off := 214) (tgt := 215) hx hb dX12_done_1 (by decide) (by decide) (by decide) (by decide) ?_
      refine lv_iload_n hx hb dX12_done_215 rfl (lv_at hl 1 rfl) ?_
      refine lv_if_ne (tgt := 223) hx hb dX12_done_216 (by decide) (fun c_216 => ?_) (fun c_216 => ?_)
      · refine lv_iconst (v := 1) hx hb dX12_done_223 (by decide) ?_
        refine lv_goto (tgt := 228) hx hb dX12_done_224 (by decide) ?_
        refine x_callSi (wr := []) (rest := []) ⟨hx, hb, hml, hown, hg, hl.1⟩ k_X12_333 (r_truth l D cy 1) E0_blind hK hP hD hS hA [] [] ⟨rfl, rfl, by decide +kernel, by decide +kernel, by decide +kernel⟩ (fun _ _ _ => trivial) dX12_done_228 rfl rfl (Nat.le_of_ble_eq_true rfl) ⟨Nat.le_of_ble_eq_true rfl, Nat.le_of_ble_eq_true rfl⟩ ⟨Nat.le_of_ble_eq_true rfl, Nat.le_of_ble_eq_true rfl⟩ (fun zr186 zu186 H locs hw186 hP9 hD9 hS9 => ?_)
        clear hP hD hS
        obtain ⟨k_187, rfl⟩ : ∃ z, z = zu186 := ⟨_, rfl⟩
        refine reW [] hP9 hD9 hS9 (fun hP hD hS => ?_)
        clear hP9 hD9 hS9
        refine W.widen (k := 0) (n := 0) (Nat.le_of_ble_eq_true rfl) (Nat.le_of_ble_eq_true rfl) ?_
        change (zr186 = nI k_187) ∧ (k_187 ≤ 1) ∧ (k_187 = tvF (1 : Int32)) at hw186
        obtain ⟨f_188, f_189, f_190⟩ := hw186
        subst f_188
        exact x_iret hQ hx hb hr hlocks hK hP hD hS dX12_done_231 () ((by rw [f_190, tv1]; exact dn_or0 (by unfold dnO; decide) c_216)) [] (by decide +kernel) rfl (Nat.le_of_ble_eq_true rfl) (Nat.le_of_ble_eq_true rfl)
      · refine lv_iload_n hx hb dX12_done_219 rfl (lv_at hl 2 rfl) ?_
        refine lv_if_eq (tgt := 227) hx hb dX12_done_220 (by decide) (fun c_220 => ?_) (fun c_220 => ?_)
        · refine lv_iconst (v := 0) hx hb dX12_done_227 (by decide) ?_
          refine x_callSi (wr := []) (rest := []) ⟨hx, hb, hml, hown, hg, hl.1⟩ k_X12_333 (r_truth l D cy 0) E0_blind hK hP hD hS hA [] [] ⟨rfl, rfl, by decide +kernel, by decide +kernel, by decide +kernel⟩ (fun _ _ _ => trivial) dX12_done_228 rfl rfl (Nat.le_of_ble_eq_true rfl) ⟨Nat.le_of_ble_eq_true rfl, Nat.le_of_ble_eq_true rfl⟩ ⟨Nat.le_of_ble_eq_true rfl, Nat.le_of_ble_eq_true rfl⟩ (fun zr191 zu191 H locs hw191 hP9 hD9 hS9 => ?_)
          clear hP hD hS
          obtain ⟨k_192, rfl⟩ : ∃ z, z = zu191 := ⟨_, rfl⟩
          refine reW [] hP9 hD9 hS9 (fun hP hD hS => ?_)
          clear hP9 hD9 hS9
          refine W.widen (k := 0) (n := 0) (Nat.le_of_ble_eq_true rfl) (Nat.le_of_ble_eq_true rfl) ?_
          change (zr191 = nI k_192) ∧ (k_192 ≤ 1) ∧ (k_192 = tvF (0 : Int32)) at hw191
          obtain ⟨f_193, f_194, f_195⟩ := hw191
          subst f_193
          exact x_iret hQ hx hb hr hlocks hK hP hD hS dX12_done_231 () ((by rw [f_195, tv0]; exact dn_or1 (by unfold dnO; decide) c_216 c_220)) [] (by decide +kernel) rfl (Nat.le_of_ble_eq_true rfl) (Nat.le_of_ble_eq_true rfl)
        · refine lv_iconst (v := 1) hx hb dX12_done_223 (by decide) ?_
          refine lv_goto (tgt := 228) hx hb dX12_done_224 (by decide) ?_
          refine x_callSi (wr := []) (rest := []) ⟨hx, hb, hml, hown, hg, hl.1⟩ k_X12_333 (r_truth l D cy 1) E0_blind hK hP hD hS hA [] [] ⟨rfl, rfl, by decide +kernel, by decide +kernel, by decide +kernel⟩ (fun _ _ _ => trivial) dX12_done_228 rfl rfl (Nat.le_of_ble_eq_true rfl) ⟨Nat.le_of_ble_eq_true rfl, Nat.le_of_ble_eq_true rfl⟩ ⟨Nat.le_of_ble_eq_true rfl, Nat.le_of_ble_eq_true rfl⟩ (fun zr196 zu196 H locs hw196 hP9 hD9 hS9 => ?_)
          clear hP hD hS
          obtain ⟨k_197, rfl⟩ : ∃ z, z = zu196 := ⟨_, rfl⟩
          refine reW [] hP9 hD9 hS9 (fun hP hD hS => ?_)
          clear hP9 hD9 hS9
          refine W.widen (k := 0) (n := 0) (Nat.le_of_ble_eq_true rfl) (Nat.le_of_ble_eq_true rfl) ?_
          change (zr196 = nI k_197) ∧ (k_197 ≤ 1) ∧ (k_197 = tvF (1 : Int32)) at hw196
          obtain ⟨f_198, f_199, f_200⟩ := hw196
          subst f_198
          exact x_iret hQ hx hb hr hlocks hK hP hD hS dX12_done_231 () ((by rw [f_200, tv1]; exact dn_or2 (by unfold dnO; decide) c_216 c_220)) [] (by decide +kernel) rfl (Nat.le_of_ble_eq_true rfl) (Nat.le_of_ble_eq_true rfl)
    · refine lv_tableIn (off := 214) (tgt := 215) hx hb dX12_done_1 (by decide) (by decide) (by decide) (by decide) ?_
      refine lv_iload_n hx hb dX12_done_215 rfl (lv_at hl 1 rfl) ?_
      refine lv_if_ne (tgt := 223) hx hb dX12_done_216 (by decide) (fun c_216 => ?_) (fun c_216 => ?_)
      · refine lv_iconst (v := 1) hx hb dX12_done_223 (by decide) ?_
        refine lv_goto (tgt := 228) hx hb dX12_done_224 (by decide) ?_
        refine x_callSi (wr := []) (rest := []) ⟨hx, hb, hml, hown, hg, hl.1⟩ k_X12_333 (r_truth l D cy 1) E0_blind hK hP hD hS hA [] [] ⟨rfl, rfl, by decide +kernel, by decide +kernel, by decide +kernel⟩ (fun _ _ _ => trivial) dX12_done_228 rfl rfl (Nat.le_of_ble_eq_true rfl) ⟨Nat.le_of_ble_eq_true rfl, Nat.le_of_ble_eq_true rfl⟩ ⟨Nat.le_of_ble_eq_true rfl, Nat.le_of_ble_eq_true rfl⟩ (fun zr201 zu201 H locs hw201 hP9 hD9 hS9 => ?_)
        clear hP hD hS
        obtain ⟨k_202, rfl⟩ : ∃ z, z = zu201 := ⟨_, rfl⟩
        refine reW [] hP9 hD9 hS9 (fun hP hD hS => ?_)
        clear hP9 hD9 hS9
        refine W.widen (k := 0) (n := 0) (Nat.le_of_ble_eq_true rfl) (Nat.le_of_ble_eq_true rfl) ?_
        change (zr201 = nI k_202) ∧ (k_202 ≤ 1) ∧ (k_202 = tvF (1 : Int32)) at hw201
        obtain ⟨f_203, f_204, f_205⟩ := hw201
        subst f_203
        exact x_iret hQ hx hb hr hlocks hK hP hD hS dX12_done_231 () ((by rw [f_205, tv1]; exact dn_or0 (by unfold dnO; decide) c_216)) [] (by decide +kernel) rfl (Nat.le_of_ble_eq_true rfl) (Nat.le_of_ble_eq_true rfl)
      · refine lv_iload_n hx hb dX12_done_219 rfl (lv_at hl 2 rfl) ?_
        refine lv_if_eq (tgt := 227) hx hb dX12_done_220 (by decide) (fun c_220 => ?_) (fun c_220 => ?_)
        · refine lv_iconst (v := 0) hx hb dX12_done_227 (by decide) ?_
          refine x_callSi (wr := []) (rest := []) ⟨hx, hb, hml, hown, hg, hl.1⟩ k_X12_333 (r_truth l D cy 0) E0_blind hK hP hD hS hA [] [] ⟨rfl, rfl, by decide +kernel, by decide +kernel, by decide +kernel⟩ (fun _ _ _ => trivial) dX12_done_228 rfl rfl (Nat.le_of_ble_eq_true rfl) ⟨Nat.le_of_ble_eq_true rfl, Nat.le_of_ble_eq_true rfl⟩ ⟨Nat.le_of_ble_eq_true rfl, Nat.le_of_ble_eq_true rfl⟩ (fun zr206 zu206 H locs hw206 hP9 hD9 hS9 => ?_)
          clear hP hD hS
          obtain ⟨k_207, rfl⟩ : ∃ z, z = zu206 := ⟨_, rfl⟩
          refine reW [] hP9 hD9 hS9 (fun hP hD hS => ?_)
          clear hP9 hD9 hS9
          refine W.widen (k := 0) (n := 0) (Nat.le_of_ble_eq_true rfl) (Nat.le_of_ble_eq_true rfl) ?_
          change (zr206 = nI k_207) ∧ (k_207 ≤ 1) ∧ (k_207 = tvF (0 : Int32)) at hw206
          obtain ⟨f_208, f_209, f_210⟩ := hw206
          subst f_208
          exact x_iret hQ hx hb hr hlocks hK hP hD hS dX12_done_231 () ((by rw [f_210, tv0]; exact dn_or1 (by unfold dnO; decide) c_216 c_220)) [] (by decide +kernel) rfl (Nat.le_of_ble_eq_true rfl) (Nat.le_of_ble_eq_true rfl)
        · refine lv_iconst (v := 1) hx hb dX12_done_223 (by decide) ?_
          refine lv_goto (tgt := 228) hx hb dX12_done_224 (by decide) ?_
          refine x_callSi (wr := []) (rest := []) ⟨hx, hb, hml, hown, hg, hl.1⟩ k_X12_333 (r_truth l D cy 1) E0_blind hK hP hD hS hA [] [] ⟨rfl, rfl, by decide +kernel, by decide +kernel, by decide +kernel⟩ (fun _ _ _ => trivial) dX12_done_228 rfl rfl (Nat.le_of_ble_eq_true rfl) ⟨Nat.le_of_ble_eq_true rfl, Nat.le_of_ble_eq_true rfl⟩ ⟨Nat.le_of_ble_eq_true rfl, Nat.le_of_ble_eq_true rfl⟩ (fun zr211 zu211 H locs hw211 hP9 hD9 hS9 => ?_)
          clear hP hD hS
          obtain ⟨k_212, rfl⟩ : ∃ z, z = zu211 := ⟨_, rfl⟩
          refine reW [] hP9 hD9 hS9 (fun hP hD hS => ?_)
          clear hP9 hD9 hS9
          refine W.widen (k := 0) (n := 0) (Nat.le_of_ble_eq_true rfl) (Nat.le_of_ble_eq_true rfl) ?_
          change (zr211 = nI k_212) ∧ (k_212 ≤ 1) ∧ (k_212 = tvF (1 : Int32)) at hw211
          obtain ⟨f_213, f_214, f_215⟩ := hw211
          subst f_213
          exact x_iret hQ hx hb hr hlocks hK hP hD hS dX12_done_231 () ((by rw [f_215, tv1]; exact dn_or2 (by unfold dnO; decide) c_216 c_220)) [] (by decide +kernel) rfl (Nat.le_of_ble_eq_true rfl) (Nat.le_of_ble_eq_true rfl)
    · refine lv_tableIn (off := 214) (tgt := 215) hx hb dX12_done_1 (by decide) (by decide) (by decide) (by decide) ?_
      refine lv_iload_n hx hb dX12_done_215 rfl (lv_at hl 1 rfl) ?_
      refine lv_if_ne (tgt := 223) hx hb dX12_done_216 (by decide) (fun c_216 => ?_) (fun c_216 => ?_)
      · refine lv_iconst (v := 1) hx hb dX12_done_223 (by decide) ?_
        refine lv_goto (tgt := 228) hx hb dX12_done_224 (by decide) ?_
        refine x_callSi (wr := []) (rest := []) ⟨hx, hb, hml, hown, hg, hl.1⟩ k_X12_333 (r_truth l D cy 1) E0_blind hK hP hD hS hA [] [] ⟨rfl, rfl, by decide +kernel, by decide +kernel, by decide +kernel⟩ (fun _ _ _ => trivial) dX12_done_228 rfl rfl (Nat.le_of_ble_eq_true rfl) ⟨Nat.le_of_ble_eq_true rfl, Nat.le_of_ble_eq_true rfl⟩ ⟨Nat.le_of_ble_eq_true rfl, Nat.le_of_ble_eq_true rfl⟩ (fun zr216 zu216 H locs hw216 hP9 hD9 hS9 => ?_)
        clear hP hD hS
        obtain ⟨k_217, rfl⟩ : ∃ z, z = zu216 := ⟨_, rfl⟩
        refine reW [] hP9 hD9 hS9 (fun hP hD hS => ?_)
        clear hP9 hD9 hS9
        refine W.widen (k := 0) (n := 0) (Nat.le_of_ble_eq_true rfl) (Nat.le_of_ble_eq_true rfl) ?_
        change (zr216 = nI k_217) ∧ (k_217 ≤ 1) ∧ (k_217 = tvF (1 : Int32)) at hw216
        obtain ⟨f_218, f_219, f_220⟩ := hw216
        subst f_218
        exact x_iret hQ hx hb hr hlocks hK hP hD hS dX12_done_231 () ((by rw [f_220, tv1]; exact dn_or0 (by unfold dnO; decide) c_216)) [] (by decide +kernel) rfl (Nat.le_of_ble_eq_true rfl) (Nat.le_of_ble_eq_true rfl)
      · refine lv_iload_n hx hb dX12_done_219 rfl (lv_at hl 2 rfl) ?_
        refine lv_if_eq (tgt := 227) hx hb dX12_done_220 (by decide) (fun c_220 => ?_) (fun c_220 => ?_)
        · refine lv_iconst (v := 0) hx hb dX12_done_227 (by decide) ?_
          refine x_callSi (wr := []) (rest := []) ⟨hx, hb, hml, hown, hg, hl.1⟩ k_X12_333 (r_truth l D cy 0) E0_blind hK hP hD hS hA [] [] ⟨rfl, rfl, by decide +kernel, by decide +kernel, by decide +kernel⟩ (fun _ _ _ => trivial) dX12_done_228 rfl rfl (Nat.le_of_ble_eq_true rfl) ⟨Nat.le_of_ble_eq_true rfl, Nat.le_of_ble_eq_true rfl⟩ ⟨Nat.le_of_ble_eq_true rfl, Nat.le_of_ble_eq_true rfl⟩ (fun zr221 zu221 H locs hw221 hP9 hD9 hS9 => ?_)
          clear hP hD hS
          obtain ⟨k_222, rfl⟩ : ∃ z, z = zu221 := ⟨_, rfl⟩
          refine reW [] hP9 hD9 hS9 (fun hP hD hS => ?_)
          clear hP9 hD9 hS9
          refine W.widen (k := 0) (n := 0) (Nat.le_of_ble_eq_true rfl) (Nat.le_of_ble_eq_true rfl) ?_
          change (zr221 = nI k_222) ∧ (k_222 ≤ 1) ∧ (k_222 = tvF (0 : Int32)) at hw221
          obtain ⟨f_223, f_224, f_225⟩ := hw221
          subst f_223
          exact x_iret hQ hx hb hr hlocks hK hP hD hS dX12_done_231 () ((by rw [f_225, tv0]; exact dn_or1 (by unfold dnO; decide) c_216 c_220)) [] (by decide +kernel) rfl (Nat.le_of_ble_eq_true rfl) (Nat.le_of_ble_eq_true rfl)
        · refine lv_iconst (v := 1) hx hb dX12_done_223 (by decide) ?_
          refine lv_goto (tgt := 228) hx hb dX12_done_224 (by decide) ?_
          refine x_callSi (wr := []) (rest := []) ⟨hx, hb, hml, hown, hg, hl.1⟩ k_X12_333 (r_truth l D cy 1) E0_blind hK hP hD hS hA [] [] ⟨rfl, rfl, by decide +kernel, by decide +kernel, by decide +kernel⟩ (fun _ _ _ => trivial) dX12_done_228 rfl rfl (Nat.le_of_ble_eq_true rfl) ⟨Nat.le_of_ble_eq_true rfl, Nat.le_of_ble_eq_true rfl⟩ ⟨Nat.le_of_ble_eq_true rfl, Nat.le_of_ble_eq_true rfl⟩ (fun zr226 zu226 H locs hw226 hP9 hD9 hS9 => ?_)
          clear hP hD hS
          obtain ⟨k_227, rfl⟩ : ∃ z, z = zu226 := ⟨_, rfl⟩
          refine reW [] hP9 hD9 hS9 (fun hP hD hS => ?_)
          clear hP9 hD9 hS9
          refine W.widen (k := 0) (n := 0) (Nat.le_of_ble_eq_true rfl) (Nat.le_of_ble_eq_true rfl) ?_
          change (zr226 = nI k_227) ∧ (k_227 ≤ 1) ∧ (k_227 = tvF (1 : Int32)) at hw226
          obtain ⟨f_228, f_229, f_230⟩ := hw226
          subst f_228
          exact x_iret hQ hx hb hr hlocks hK hP hD hS dX12_done_231 () ((by rw [f_230, tv1]; exact dn_or2 (by unfold dnO; decide) c_216 c_220)) [] (by decide +kernel) rfl (Nat.le_of_ble_eq_true rfl) (Nat.le_of_ble_eq_true rfl)
    · refine lv_tableIn (off := 214) (tgt := 215) hx hb dX12_done_1 (by decide) (by decide) (by decide) (by decide) ?_
      refine lv_iload_n hx hb dX12_done_215 rfl (lv_at hl 1 rfl) ?_
      refine lv_if_ne (tgt := 223) hx hb dX12_done_216 (by decide) (fun c_216 => ?_) (fun c_216 => ?_)
      · refine lv_iconst (v := 1) hx hb dX12_done_223 (by decide) ?_
        refine lv_goto (tgt := 228) hx hb dX12_done_224 (by decide) ?_
        refine x_callSi (wr := []) (rest := []) ⟨hx, hb, hml, hown, hg, hl.1⟩ k_X12_333 (r_truth l D cy 1) E0_blind hK hP hD hS hA [] [] ⟨rfl, rfl, by decide +kernel, by decide +kernel, by decide +kernel⟩ (fun _ _ _ => trivial) dX12_done_228 rfl rfl (Nat.le_of_ble_eq_true rfl) ⟨Nat.le_of_ble_eq_true rfl, Nat.le_of_ble_eq_true rfl⟩ ⟨Nat.le_of_ble_eq_true rfl, Nat.le_of_ble_eq_true rfl⟩ (fun zr231 zu231 H locs hw231 hP9 hD9 hS9 => ?_)
        clear hP hD hS
        obtain ⟨k_232, rfl⟩ : ∃ z, z = zu231 := ⟨_, rfl⟩
        refine reW [] hP9 hD9 hS9 (fun hP hD hS => ?_)
        clear hP9 hD9 hS9
        refine W.widen (k := 0) (n := 0) (Nat.le_of_ble_eq_true rfl) (Nat.le_of_ble_eq_true rfl) ?_
        change (zr231 = nI k_232) ∧ (k_232 ≤ 1) ∧ (k_232 = tvF (1 : Int32)) at hw231
        obtain ⟨f_233, f_234, f_235⟩ := hw231
        subst f_233
        exact x_iret hQ hx hb hr hlocks hK hP hD hS dX12_done_231 () ((by rw [f_235, tv1]; exact dn_or0 (by unfold dnO; decide) c_216)) [] (by decide +kernel) rfl (Nat.le_of_ble_eq_true rfl) (Nat.le_of_ble_eq_true rfl)
      · refine lv_iload_n hx hb dX12_done_219 rfl (lv_at hl 2 rfl) ?_
        refine lv_if_eq (tgt := 227) hx hb dX12_done_220 (by decide) (fun c_220 => ?_) (fun c_220 => ?_)
        · refine lv_iconst (v := 0) hx hb dX12_done_227 (by decide) ?_
          refine x_callSi (wr := []) (rest := []) ⟨hx, hb, hml, hown, hg, hl.1⟩ k_X12_333 (r_truth l D cy 0) E0_blind hK hP hD hS hA [] [] ⟨rfl, rfl, by decide +kernel, by decide +kernel, by decide +kernel⟩ (fun _ _ _ => trivial) dX12_done_228 rfl rfl (Nat.le_of_ble_eq_true rfl) ⟨Nat.le_of_ble_eq_true rfl, Nat.le_of_ble_eq_true rfl⟩ ⟨Nat.le_of_ble_eq_true rfl, Nat.le_of_ble_eq_true rfl⟩ (fun zr236 zu236 H locs hw236 hP9 hD9 hS9 => ?_)
          clear hP hD hS
          obtain ⟨k_237, rfl⟩ : ∃ z, z = zu236 := ⟨_, rfl⟩
          refine reW [] hP9 hD9 hS9 (fun hP hD hS => ?_)
          clear hP9 hD9 hS9
          refine W.widen (k := 0) (n := 0) (Nat.le_of_ble_eq_true rfl) (Nat.le_of_ble_eq_true rfl) ?_
          change (zr236 = nI k_237) ∧ (k_237 ≤ 1) ∧ (k_237 = tvF (0 : Int32)) at hw236
          obtain ⟨f_238, f_239, f_240⟩ := hw236
          subst f_238
          exact x_iret hQ hx hb hr hlocks hK hP hD hS dX12_done_231 () ((by rw [f_240, tv0]; exact dn_or1 (by unfold dnO; decide) c_216 c_220)) [] (by decide +kernel) rfl (Nat.le_of_ble_eq_true rfl) (Nat.le_of_ble_eq_true rfl)
        · refine lv_iconst (v := 1) hx hb dX12_done_223 (by decide) ?_
          refine lv_goto (tgt := 228) hx hb dX12_done_224 (by decide) ?_
          refine x_callSi (wr := []) (rest := []) ⟨hx, hb, hml, hown, hg, hl.1⟩ k_X12_333 (r_truth l D cy 1) E0_blind hK hP hD hS hA [] [] ⟨rfl, rfl, by decide +kernel, by decide +kernel, by decide +kernel⟩ (fun _ _ _ => trivial) dX12_done_228 rfl rfl (Nat.le_of_ble_eq_true rfl) ⟨Nat.le_of_ble_eq_true rfl, Nat.le_of_ble_eq_true rfl⟩ ⟨Nat.le_of_ble_eq_true rfl, Nat.le_of_ble_eq_true rfl⟩ (fun zr241 zu241 H locs hw241 hP9 hD9 hS9 => ?_)
          clear hP hD hS
          obtain ⟨k_242, rfl⟩ : ∃ z, z = zu241 := ⟨_, rfl⟩
          refine reW [] hP9 hD9 hS9 (fun hP hD hS => ?_)
          clear hP9 hD9 hS9
          refine W.widen (k := 0) (n := 0) (Nat.le_of_ble_eq_true rfl) (Nat.le_of_ble_eq_true rfl) ?_
          change (zr241 = nI k_242) ∧ (k_242 ≤ 1) ∧ (k_242 = tvF (1 : Int32)) at hw241
          obtain ⟨f_243, f_244, f_245⟩ := hw241
          subst f_243
          exact x_iret hQ hx hb hr hlocks hK hP hD hS dX12_done_231 () ((by rw [f_245, tv1]; exact dn_or2 (by unfold dnO; decide) c_216 c_220)) [] (by decide +kernel) rfl (Nat.le_of_ble_eq_true rfl) (Nat.le_of_ble_eq_true rfl)
    · refine lv_tableIn (off := 214) (tgt := 215) hx hb dX12_done_1 (by decide) (by decide) (by decide) (by decide) ?_
      refine lv_iload_n hx hb dX12_done_215 rfl (lv_at hl 1 rfl) ?_
      refine lv_if_ne (tgt := 223) hx hb dX12_done_216 (by decide) (fun c_216 => ?_) (fun c_216 => ?_)
      · refine lv_iconst (v := 1) hx hb dX12_done_223 (by decide) ?_
        refine lv_goto (tgt := 228) hx hb dX12_done_224 (by decide) ?_
        refine x_callSi (wr := []) (rest := []) ⟨hx, hb, hml, hown, hg, hl.1⟩ k_X12_333 (r_truth l D cy 1) E0_blind hK hP hD hS hA [] [] ⟨rfl, rfl, by decide +kernel, by decide +kernel, by decide +kernel⟩ (fun _ _ _ => trivial) dX12_done_228 rfl rfl (Nat.le_of_ble_eq_true rfl) ⟨Nat.le_of_ble_eq_true rfl, Nat.le_of_ble_eq_true rfl⟩ ⟨Nat.le_of_ble_eq_true rfl, Nat.le_of_ble_eq_true rfl⟩ (fun zr246 zu246 H locs hw246 hP9 hD9 hS9 => ?_)
        clear hP hD hS
        obtain ⟨k_247, rfl⟩ : ∃ z, z = zu246 := ⟨_, rfl⟩
        refine reW [] hP9 hD9 hS9 (fun hP hD hS => ?_)
        clear hP9 hD9 hS9
        refine W.widen (k := 0) (n := 0) (Nat.le_of_ble_eq_true rfl) (Nat.le_of_ble_eq_true rfl) ?_
        change (zr246 = nI k_247) ∧ (k_247 ≤ 1) ∧ (k_247 = tvF (1 : Int32)) at hw246
        obtain ⟨f_248, f_249, f_250⟩ := hw246
        subst f_248
        exact x_iret hQ hx hb hr hlocks hK hP hD hS dX12_done_231 () ((by rw [f_250, tv1]; exact dn_or0 (by unfold dnO; decide) c_216)) [] (by decide +kernel) rfl (Nat.le_of_ble_eq_true rfl) (Nat.le_of_ble_eq_true rfl)
      · refine lv_iload_n hx hb dX12_done_219 rfl (lv_at hl 2 rfl) ?_
        refine lv_if_eq (tgt := 227) hx hb dX12_done_220 (by decide) (fun c_220 => ?_) (fun c_220 => ?_)
        · refine lv_iconst (v := 0) hx hb dX12_done_227 (by decide) ?_
          refine x_callSi (wr := []) (rest := []) ⟨hx, hb, hml, hown, hg, hl.1⟩ k_X12_333 (r_truth l D cy 0) E0_blind hK hP hD hS hA [] [] ⟨rfl, rfl, by decide +kernel, by decide +kernel, by decide +kernel⟩ (fun _ _ _ => trivial) dX12_done_228 rfl rfl (Nat.le_of_ble_eq_true rfl) ⟨Nat.le_of_ble_eq_true rfl, Nat.le_of_ble_eq_true rfl⟩ ⟨Nat.le_of_ble_eq_true rfl, Nat.le_of_ble_eq_true rfl⟩ (fun zr251 zu251 H locs hw251 hP9 hD9 hS9 => ?_)
          clear hP hD hS
          obtain ⟨k_252, rfl⟩ : ∃ z, z = zu251 := ⟨_, rfl⟩
          refine reW [] hP9 hD9 hS9 (fun hP hD hS => ?_)
          clear hP9 hD9 hS9
          refine W.widen (k := 0) (n := 0) (Nat.le_of_ble_eq_true rfl) (Nat.le_of_ble_eq_true rfl) ?_
          change (zr251 = nI k_252) ∧ (k_252 ≤ 1) ∧ (k_252 = tvF (0 : Int32)) at hw251
          obtain ⟨f_253, f_254, f_255⟩ := hw251
          subst f_253
          exact x_iret hQ hx hb hr hlocks hK hP hD hS dX12_done_231 () ((by rw [f_255, tv0]; exact dn_or1 (by unfold dnO; decide) c_216 c_220)) [] (by decide +kernel) rfl (Nat.le_of_ble_eq_true rfl) (Nat.le_of_ble_eq_true rfl)
        · refine lv_iconst (v := 1) hx hb dX12_done_223 (by decide) ?_
          refine lv_goto (tgt := 228) hx hb dX12_done_224 (by decide) ?_
          refine x_callSi (wr := []) (rest := []) ⟨hx, hb, hml, hown, hg, hl.1⟩ k_X12_333 (r_truth l D cy 1) E0_blind hK hP hD hS hA [] [] ⟨rfl, rfl, by decide +kernel, by decide +kernel, by decide +kernel⟩ (fun _ _ _ => trivial) dX12_done_228 rfl rfl (Nat.le_of_ble_eq_true rfl) ⟨Nat.le_of_ble_eq_true rfl, Nat.le_of_ble_eq_true rfl⟩ ⟨Nat.le_of_ble_eq_true rfl, Nat.le_of_ble_eq_true rfl⟩ (fun zr256 zu256 H locs hw256 hP9 hD9 hS9 => ?_)
          clear hP hD hS
          obtain ⟨k_257, rfl⟩ : ∃ z, z = zu256 := ⟨_, rfl⟩
          refine reW [] hP9 hD9 hS9 (fun hP hD hS => ?_)
          clear hP9 hD9 hS9
          refine W.widen (k := 0) (n := 0) (Nat.le_of_ble_eq_true rfl) (Nat.le_of_ble_eq_true rfl) ?_
          change (zr256 = nI k_257) ∧ (k_257 ≤ 1) ∧ (k_257 = tvF (1 : Int32)) at hw256
          obtain ⟨f_258, f_259, f_260⟩ := hw256
          subst f_258
          exact x_iret hQ hx hb hr hlocks hK hP hD hS dX12_done_231 () ((by rw [f_260, tv1]; exact dn_or2 (by unfold dnO; decide) c_216 c_220)) [] (by decide +kernel) rfl (Nat.le_of_ble_eq_true rfl) (Nat.le_of_ble_eq_true rfl)
    · refine lv_tableIn (off := 214) (tgt := 215) hx hb dX12_done_1 (by decide) (by decide) (by decide) (by decide) ?_
      refine lv_iload_n hx hb dX12_done_215 rfl (lv_at hl 1 rfl) ?_
      refine lv_if_ne (tgt := 223) hx hb dX12_done_216 (by decide) (fun c_216 => ?_) (fun c_216 => ?_)
      · refine lv_iconst (v := 1) hx hb dX12_done_223 (by decide) ?_
        refine lv_goto (tgt := 228) hx hb dX12_done_224 (by decide) ?_
        refine x_callSi (wr := []) (rest := []) ⟨hx, hb, hml, hown, hg, hl.1⟩ k_X12_333 (r_truth l D cy 1) E0_blind hK hP hD hS hA [] [] ⟨rfl, rfl, by decide +kernel, by decide +kernel, by decide +kernel⟩ (fun _ _ _ => trivial) dX12_done_228 rfl rfl (Nat.le_of_ble_eq_true rfl) ⟨Nat.le_of_ble_eq_true rfl, Nat.le_of_ble_eq_true rfl⟩ ⟨Nat.le_of_ble_eq_true rfl, Nat.le_of_ble_eq_true rfl⟩ (fun zr261 zu261 H locs hw261 hP9 hD9 hS9 => ?_)
        clear hP hD hS
        obtain ⟨k_262, rfl⟩ : ∃ z, z = zu261 := ⟨_, rfl⟩
        refine reW [] hP9 hD9 hS9 (fun hP hD hS => ?_)
        clear hP9 hD9 hS9
        refine W.widen (k := 0) (n := 0) (Nat.le_of_ble_eq_true rfl) (Nat.le_of_ble_eq_true rfl) ?_
        change (zr261 = nI k_262) ∧ (k_262 ≤ 1) ∧ (k_262 = tvF (1 : Int32)) at hw261
        obtain ⟨f_263, f_264, f_265⟩ := hw261
        subst f_263
        exact x_iret hQ hx hb hr hlocks hK hP hD hS dX12_done_231 () ((by rw [f_265, tv1]; exact dn_or0 (by unfold dnO; decide) c_216)) [] (by decide +kernel) rfl (Nat.le_of_ble_eq_true rfl) (Nat.le_of_ble_eq_true rfl)
      · refine lv_iload_n hx hb dX12_done_219 rfl (lv_at hl 2 rfl) ?_
        refine lv_if_eq (tgt := 227) hx hb dX12_done_220 (by decide) (fun c_220 => ?_) (fun c_220 => ?_)
        · refine lv_iconst (v := 0) hx hb dX12_done_227 (by decide) ?_
          refine x_callSi (wr := []) (rest := []) ⟨hx, hb, hml, hown, hg, hl.1⟩ k_X12_333 (r_truth l D cy 0) E0_blind hK hP hD hS hA [] [] ⟨rfl, rfl, by decide +kernel, by decide +kernel, by decide +kernel⟩ (fun _ _ _ => trivial) dX12_done_228 rfl rfl (Nat.le_of_ble_eq_true rfl) ⟨Nat.le_of_ble_eq_true rfl, Nat.le_of_ble_eq_true rfl⟩ ⟨Nat.le_of_ble_eq_true rfl, Nat.le_of_ble_eq_true rfl⟩ (fun zr266 zu266 H locs hw266 hP9 hD9 hS9 => ?_)
          clear hP hD hS
          obtain ⟨k_267, rfl⟩ : ∃ z, z = zu266 := ⟨_, rfl⟩
          refine reW [] hP9 hD9 hS9 (fun hP hD hS => ?_)
          clear hP9 hD9 hS9
          refine W.widen (k := 0) (n := 0) (Nat.le_of_ble_eq_true rfl) (Nat.le_of_ble_eq_true rfl) ?_
          change (zr266 = nI k_267) ∧ (k_267 ≤ 1) ∧ (k_267 = tvF (0 : Int32)) at hw266
          obtain ⟨f_268, f_269, f_270⟩ := hw266
          subst f_268
          exact x_iret hQ hx hb hr hlocks hK hP hD hS dX12_done_231 () ((by rw [f_270, tv0]; exact dn_or1 (by unfold dnO; decide) c_216 c_220)) [] (by decide +kernel) rfl (Nat.le_of_ble_eq_true rfl) (Nat.le_of_ble_eq_true rfl)
        · refine lv_iconst (v := 1) hx hb dX12_done_223 (by decide) ?_
          refine lv_goto (tgt := 228) hx hb dX12_done_224 (by decide) ?_
          refine x_callSi (wr := []) (rest := []) ⟨hx, hb, hml, hown, hg, hl.1⟩ k_X12_333 (r_truth l D cy 1) E0_blind hK hP hD hS hA [] [] ⟨rfl, rfl, by decide +kernel, by decide +kernel, by decide +kernel⟩ (fun _ _ _ => trivial) dX12_done_228 rfl rfl (Nat.le_of_ble_eq_true rfl) ⟨Nat.le_of_ble_eq_true rfl, Nat.le_of_ble_eq_true rfl⟩ ⟨Nat.le_of_ble_eq_true rfl, Nat.le_of_ble_eq_true rfl⟩ (fun zr271 zu271 H locs hw271 hP9 hD9 hS9 => ?_)
          clear hP hD hS
          obtain ⟨k_272, rfl⟩ : ∃ z, z = zu271 := ⟨_, rfl⟩
          refine reW [] hP9 hD9 hS9 (fun hP hD hS => ?_)
          clear hP9 hD9 hS9
          refine W.widen (k := 0) (n := 0) (Nat.le_of_ble_eq_true rfl) (Nat.le_of_ble_eq_true rfl) ?_
          change (zr271 = nI k_272) ∧ (k_272 ≤ 1) ∧ (k_272 = tvF (1 : Int32)) at hw271
          obtain ⟨f_273, f_274, f_275⟩ := hw271
          subst f_273
          exact x_iret hQ hx hb hr hlocks hK hP hD hS dX12_done_231 () ((by rw [f_275, tv1]; exact dn_or2 (by unfold dnO; decide) c_216 c_220)) [] (by decide +kernel) rfl (Nat.le_of_ble_eq_true rfl) (Nat.le_of_ble_eq_true rfl)
    · refine lv_tableIn (off := 214) (tgt := 215) hx hb dX12_done_1 (by decide) (by decide) (by decide) (by decide) ?_
      refine lv_iload_n hx hb dX12_done_215 rfl (lv_at hl 1 rfl) ?_
      refine lv_if_ne (tgt := 223) hx hb dX12_done_216 (by decide) (fun c_216 => ?_) (fun c_216 => ?_)
      · refine lv_iconst (v := 1) hx hb dX12_done_223 (by decide) ?_
        refine lv_goto (tgt := 228) hx hb dX12_done_224 (by decide) ?_
        refine x_callSi (wr := []) (rest := []) ⟨hx, hb, hml, hown, hg, hl.1⟩ k_X12_333 (r_truth l D cy 1) E0_blind hK hP hD hS hA [] [] ⟨rfl, rfl, by decide +kernel, by decide +kernel, by decide +kernel⟩ (fun _ _ _ => trivial) dX12_done_228 rfl rfl (Nat.le_of_ble_eq_true rfl) ⟨Nat.le_of_ble_eq_true rfl, Nat.le_of_ble_eq_true rfl⟩ ⟨Nat.le_of_ble_eq_true rfl, Nat.le_of_ble_eq_true rfl⟩ (fun zr276 zu276 H locs hw276 hP9 hD9 hS9 => ?_)
        clear hP hD hS
        obtain ⟨k_277, rfl⟩ : ∃ z, z = zu276 := ⟨_, rfl⟩
        refine reW [] hP9 hD9 hS9 (fun hP hD hS => ?_)
        clear hP9 hD9 hS9
        refine W.widen (k := 0) (n := 0) (Nat.le_of_ble_eq_true rfl) (Nat.le_of_ble_eq_true rfl) ?_
        change (zr276 = nI k_277) ∧ (k_277 ≤ 1) ∧ (k_277 = tvF (1 : Int32)) at hw276
        obtain ⟨f_278, f_279, f_280⟩ := hw276
        subst f_278
        exact x_iret hQ hx hb hr hlocks hK hP hD hS dX12_done_231 () ((by rw [f_280, tv1]; exact dn_or0 (by unfold dnO; decide) c_216)) [] (by decide +kernel) rfl (Nat.le_of_ble_eq_true rfl) (Nat.le_of_ble_eq_true rfl)
      · refine lv_iload_n hx hb dX12_done_219 rfl (lv_at hl 2 rfl) ?_
        refine lv_if_eq (tgt := 227) hx hb dX12_done_220 (by decide) (fun c_220 => ?_) (fun c_220 => ?_)
        · refine lv_iconst (v := 0) hx hb dX12_done_227 (by decide) ?_
          refine x_callSi (wr := []) (rest := []) ⟨hx, hb, hml, hown, hg, hl.1⟩ k_X12_333 (r_truth l D cy 0) E0_blind hK hP hD hS hA [] [] ⟨rfl, rfl, by decide +kernel, by decide +kernel, by decide +kernel⟩ (fun _ _ _ => trivial) dX12_done_228 rfl rfl (Nat.le_of_ble_eq_true rfl) ⟨Nat.le_of_ble_eq_true rfl, Nat.le_of_ble_eq_true rfl⟩ ⟨Nat.le_of_ble_eq_true rfl, Nat.le_of_ble_eq_true rfl⟩ (fun zr281 zu281 H locs hw281 hP9 hD9 hS9 => ?_)
          clear hP hD hS
          obtain ⟨k_282, rfl⟩ : ∃ z, z = zu281 := ⟨_, rfl⟩
          refine reW [] hP9 hD9 hS9 (fun hP hD hS => ?_)
          clear hP9 hD9 hS9
          refine W.widen (k := 0) (n := 0) (Nat.le_of_ble_eq_true rfl) (Nat.le_of_ble_eq_true rfl) ?_
          change (zr281 = nI k_282) ∧ (k_282 ≤ 1) ∧ (k_282 = tvF (0 : Int32)) at hw281
          obtain ⟨f_283, f_284, f_285⟩ := hw281
          subst f_283
          exact x_iret hQ hx hb hr hlocks hK hP hD hS dX12_done_231 () ((by rw [f_285, tv0]; exact dn_or1 (by unfold dnO; decide) c_216 c_220)) [] (by decide +kernel) rfl (Nat.le_of_ble_eq_true rfl) (Nat.le_of_ble_eq_true rfl)
        · refine lv_iconst (v := 1) hx hb dX12_done_223 (by decide) ?_
          refine lv_goto (tgt := 228) hx hb dX12_done_224 (by decide) ?_
          refine x_callSi (wr := []) (rest := []) ⟨hx, hb, hml, hown, hg, hl.1⟩ k_X12_333 (r_truth l D cy 1) E0_blind hK hP hD hS hA [] [] ⟨rfl, rfl, by decide +kernel, by decide +kernel, by decide +kernel⟩ (fun _ _ _ => trivial) dX12_done_228 rfl rfl (Nat.le_of_ble_eq_true rfl) ⟨Nat.le_of_ble_eq_true rfl, Nat.le_of_ble_eq_true rfl⟩ ⟨Nat.le_of_ble_eq_true rfl, Nat.le_of_ble_eq_true rfl⟩ (fun zr286 zu286 H locs hw286 hP9 hD9 hS9 => ?_)
          clear hP hD hS
          obtain ⟨k_287, rfl⟩ : ∃ z, z = zu286 := ⟨_, rfl⟩
          refine reW [] hP9 hD9 hS9 (fun hP hD hS => ?_)
          clear hP9 hD9 hS9
          refine W.widen (k := 0) (n := 0) (Nat.le_of_ble_eq_true rfl) (Nat.le_of_ble_eq_true rfl) ?_
          change (zr286 = nI k_287) ∧ (k_287 ≤ 1) ∧ (k_287 = tvF (1 : Int32)) at hw286
          obtain ⟨f_288, f_289, f_290⟩ := hw286
          subst f_288
          exact x_iret hQ hx hb hr hlocks hK hP hD hS dX12_done_231 () ((by rw [f_290, tv1]; exact dn_or2 (by unfold dnO; decide) c_216 c_220)) [] (by decide +kernel) rfl (Nat.le_of_ble_eq_true rfl) (Nat.le_of_ble_eq_true rfl)
    · refine lv_tableIn (off := 155) (tgt := 156) hx hb dX12_done_1 (by decide) (by decide) (by decide) (by decide) ?_
      refine lv_iload_n hx hb dX12_done_156 rfl (lv_at hl 1 rfl) ?_
      refine lv_iload_n hx hb dX12_done_157 rfl (lv_at hl 2 rfl) ?_
      refine lv_icmp_ge (tgt := 165) hx hb dX12_done_158 (by decide) (fun c_158 => ?_) (fun c_158 => ?_)
      · refine lv_iconst (v := 0) hx hb dX12_done_165 (by decide) ?_
        refine x_callSi (wr := []) (rest := []) ⟨hx, hb, hml, hown, hg, hl.1⟩ k_X12_333 (r_truth l D cy 0) E0_blind hK hP hD hS hA [] [] ⟨rfl, rfl, by decide +kernel, by decide +kernel, by decide +kernel⟩ (fun _ _ _ => trivial) dX12_done_166 rfl rfl (Nat.le_of_ble_eq_true rfl) ⟨Nat.le_of_ble_eq_true rfl, Nat.le_of_ble_eq_true rfl⟩ ⟨Nat.le_of_ble_eq_true rfl, Nat.le_of_ble_eq_true rfl⟩ (fun zr291 zu291 H locs hw291 hP9 hD9 hS9 => ?_)
        clear hP hD hS
        obtain ⟨k_292, rfl⟩ : ∃ z, z = zu291 := ⟨_, rfl⟩
        refine reW [] hP9 hD9 hS9 (fun hP hD hS => ?_)
        clear hP9 hD9 hS9
        refine W.widen (k := 0) (n := 0) (Nat.le_of_ble_eq_true rfl) (Nat.le_of_ble_eq_true rfl) ?_
        change (zr291 = nI k_292) ∧ (k_292 ≤ 1) ∧ (k_292 = tvF (0 : Int32)) at hw291
        obtain ⟨f_293, f_294, f_295⟩ := hw291
        subst f_293
        exact x_iret hQ hx hb hr hlocks hK hP hD hS dX12_done_169 () ((by rw [f_295, tv0]; exact dn_lt0 (le_nlt c_158))) [] (by decide +kernel) rfl (Nat.le_of_ble_eq_true rfl) (Nat.le_of_ble_eq_true rfl)
      · refine lv_iconst (v := 1) hx hb dX12_done_161 (by decide) ?_
        refine lv_goto (tgt := 166) hx hb dX12_done_162 (by decide) ?_
        refine x_callSi (wr := []) (rest := []) ⟨hx, hb, hml, hown, hg, hl.1⟩ k_X12_333 (r_truth l D cy 1) E0_blind hK hP hD hS hA [] [] ⟨rfl, rfl, by decide +kernel, by decide +kernel, by decide +kernel⟩ (fun _ _ _ => trivial) dX12_done_166 rfl rfl (Nat.le_of_ble_eq_true rfl) ⟨Nat.le_of_ble_eq_true rfl, Nat.le_of_ble_eq_true rfl⟩ ⟨Nat.le_of_ble_eq_true rfl, Nat.le_of_ble_eq_true rfl⟩ (fun zr296 zu296 H locs hw296 hP9 hD9 hS9 => ?_)
        clear hP hD hS
        obtain ⟨k_297, rfl⟩ : ∃ z, z = zu296 := ⟨_, rfl⟩
        refine reW [] hP9 hD9 hS9 (fun hP hD hS => ?_)
        clear hP9 hD9 hS9
        refine W.widen (k := 0) (n := 0) (Nat.le_of_ble_eq_true rfl) (Nat.le_of_ble_eq_true rfl) ?_
        change (zr296 = nI k_297) ∧ (k_297 ≤ 1) ∧ (k_297 = tvF (1 : Int32)) at hw296
        obtain ⟨f_298, f_299, f_300⟩ := hw296
        subst f_298
        exact x_iret hQ hx hb hr hlocks hK hP hD hS dX12_done_169 () ((by rw [f_300, tv1]; exact dn_lt1 (nle_lt c_158))) [] (by decide +kernel) rfl (Nat.le_of_ble_eq_true rfl) (Nat.le_of_ble_eq_true rfl)
    · refine lv_tableIn (off := 183) (tgt := 184) hx hb dX12_done_1 (by decide) (by decide) (by decide) (by decide) ?_
      refine lv_iload_n hx hb dX12_done_184 rfl (lv_at hl 1 rfl) ?_
      refine lv_iload_n hx hb dX12_done_185 rfl (lv_at hl 2 rfl) ?_
      refine lv_icmp_ne (tgt := 193) hx hb dX12_done_186 (by decide) (fun c_186 => ?_) (fun c_186 => ?_)
      · refine lv_iconst (v := 0) hx hb dX12_done_193 (by decide) ?_
        refine x_callSi (wr := []) (rest := []) ⟨hx, hb, hml, hown, hg, hl.1⟩ k_X12_333 (r_truth l D cy 0) E0_blind hK hP hD hS hA [] [] ⟨rfl, rfl, by decide +kernel, by decide +kernel, by decide +kernel⟩ (fun _ _ _ => trivial) dX12_done_194 rfl rfl (Nat.le_of_ble_eq_true rfl) ⟨Nat.le_of_ble_eq_true rfl, Nat.le_of_ble_eq_true rfl⟩ ⟨Nat.le_of_ble_eq_true rfl, Nat.le_of_ble_eq_true rfl⟩ (fun zr301 zu301 H locs hw301 hP9 hD9 hS9 => ?_)
        clear hP hD hS
        obtain ⟨k_302, rfl⟩ : ∃ z, z = zu301 := ⟨_, rfl⟩
        refine reW [] hP9 hD9 hS9 (fun hP hD hS => ?_)
        clear hP9 hD9 hS9
        refine W.widen (k := 0) (n := 0) (Nat.le_of_ble_eq_true rfl) (Nat.le_of_ble_eq_true rfl) ?_
        change (zr301 = nI k_302) ∧ (k_302 ≤ 1) ∧ (k_302 = tvF (0 : Int32)) at hw301
        obtain ⟨f_303, f_304, f_305⟩ := hw301
        subst f_303
        exact x_iret hQ hx hb hr hlocks hK hP hD hS dX12_done_197 () ((by rw [f_305, tv0]; exact dn_eq0 c_186)) [] (by decide +kernel) rfl (Nat.le_of_ble_eq_true rfl) (Nat.le_of_ble_eq_true rfl)
      · refine lv_iconst (v := 1) hx hb dX12_done_189 (by decide) ?_
        refine lv_goto (tgt := 194) hx hb dX12_done_190 (by decide) ?_
        refine x_callSi (wr := []) (rest := []) ⟨hx, hb, hml, hown, hg, hl.1⟩ k_X12_333 (r_truth l D cy 1) E0_blind hK hP hD hS hA [] [] ⟨rfl, rfl, by decide +kernel, by decide +kernel, by decide +kernel⟩ (fun _ _ _ => trivial) dX12_done_194 rfl rfl (Nat.le_of_ble_eq_true rfl) ⟨Nat.le_of_ble_eq_true rfl, Nat.le_of_ble_eq_true rfl⟩ ⟨Nat.le_of_ble_eq_true rfl, Nat.le_of_ble_eq_true rfl⟩ (fun zr306 zu306 H locs hw306 hP9 hD9 hS9 => ?_)
        clear hP hD hS
        obtain ⟨k_307, rfl⟩ : ∃ z, z = zu306 := ⟨_, rfl⟩
        refine reW [] hP9 hD9 hS9 (fun hP hD hS => ?_)
        clear hP9 hD9 hS9
        refine W.widen (k := 0) (n := 0) (Nat.le_of_ble_eq_true rfl) (Nat.le_of_ble_eq_true rfl) ?_
        change (zr306 = nI k_307) ∧ (k_307 ≤ 1) ∧ (k_307 = tvF (1 : Int32)) at hw306
        obtain ⟨f_308, f_309, f_310⟩ := hw306
        subst f_308
        exact x_iret hQ hx hb hr hlocks hK hP hD hS dX12_done_197 () ((by rw [f_310, tv1]; exact dn_eq1 c_186)) [] (by decide +kernel) rfl (Nat.le_of_ble_eq_true rfl) (Nat.le_of_ble_eq_true rfl)
    · refine lv_tableIn (off := 169) (tgt := 170) hx hb dX12_done_1 (by decide) (by decide) (by decide) (by decide) ?_
      refine lv_iload_n hx hb dX12_done_170 rfl (lv_at hl 1 rfl) ?_
      refine lv_iload_n hx hb dX12_done_171 rfl (lv_at hl 2 rfl) ?_
      refine lv_icmp_le (tgt := 179) hx hb dX12_done_172 (by decide) (fun c_172 => ?_) (fun c_172 => ?_)
      · refine lv_iconst (v := 0) hx hb dX12_done_179 (by decide) ?_
        refine x_callSi (wr := []) (rest := []) ⟨hx, hb, hml, hown, hg, hl.1⟩ k_X12_333 (r_truth l D cy 0) E0_blind hK hP hD hS hA [] [] ⟨rfl, rfl, by decide +kernel, by decide +kernel, by decide +kernel⟩ (fun _ _ _ => trivial) dX12_done_180 rfl rfl (Nat.le_of_ble_eq_true rfl) ⟨Nat.le_of_ble_eq_true rfl, Nat.le_of_ble_eq_true rfl⟩ ⟨Nat.le_of_ble_eq_true rfl, Nat.le_of_ble_eq_true rfl⟩ (fun zr311 zu311 H locs hw311 hP9 hD9 hS9 => ?_)
        clear hP hD hS
        obtain ⟨k_312, rfl⟩ : ∃ z, z = zu311 := ⟨_, rfl⟩
        refine reW [] hP9 hD9 hS9 (fun hP hD hS => ?_)
        clear hP9 hD9 hS9
        refine W.widen (k := 0) (n := 0) (Nat.le_of_ble_eq_true rfl) (Nat.le_of_ble_eq_true rfl) ?_
        change (zr311 = nI k_312) ∧ (k_312 ≤ 1) ∧ (k_312 = tvF (0 : Int32)) at hw311
        obtain ⟨f_313, f_314, f_315⟩ := hw311
        subst f_313
        exact x_iret hQ hx hb hr hlocks hK hP hD hS dX12_done_183 () ((by rw [f_315, tv0]; exact dn_gt0 (le_nlt c_172))) [] (by decide +kernel) rfl (Nat.le_of_ble_eq_true rfl) (Nat.le_of_ble_eq_true rfl)
      · refine lv_iconst (v := 1) hx hb dX12_done_175 (by decide) ?_
        refine lv_goto (tgt := 180) hx hb dX12_done_176 (by decide) ?_
        refine x_callSi (wr := []) (rest := []) ⟨hx, hb, hml, hown, hg, hl.1⟩ k_X12_333 (r_truth l D cy 1) E0_blind hK hP hD hS hA [] [] ⟨rfl, rfl, by decide +kernel, by decide +kernel, by decide +kernel⟩ (fun _ _ _ => trivial) dX12_done_180 rfl rfl (Nat.le_of_ble_eq_true rfl) ⟨Nat.le_of_ble_eq_true rfl, Nat.le_of_ble_eq_true rfl⟩ ⟨Nat.le_of_ble_eq_true rfl, Nat.le_of_ble_eq_true rfl⟩ (fun zr316 zu316 H locs hw316 hP9 hD9 hS9 => ?_)
        clear hP hD hS
        obtain ⟨k_317, rfl⟩ : ∃ z, z = zu316 := ⟨_, rfl⟩
        refine reW [] hP9 hD9 hS9 (fun hP hD hS => ?_)
        clear hP9 hD9 hS9
        refine W.widen (k := 0) (n := 0) (Nat.le_of_ble_eq_true rfl) (Nat.le_of_ble_eq_true rfl) ?_
        change (zr316 = nI k_317) ∧ (k_317 ≤ 1) ∧ (k_317 = tvF (1 : Int32)) at hw316
        obtain ⟨f_318, f_319, f_320⟩ := hw316
        subst f_318
        exact x_iret hQ hx hb hr hlocks hK hP hD hS dX12_done_183 () ((by rw [f_320, tv1]; exact dn_gt1 (nle_lt c_172))) [] (by decide +kernel) rfl (Nat.le_of_ble_eq_true rfl) (Nat.le_of_ble_eq_true rfl)
theorem gdX12_off_0 : decode cX12_off 0 = .ok (.iload_n 0, 1) ∧ decode cX12_off 1 = .ok (.iload_n 1, 1) ∧ decode cX12_off 2 = .ok (.if_icmp .le 9, 3) ∧ decode cX12_off 11 = .ok (.iload_n 1, 1) ∧ decode cX12_off 12 = .ok (.iload_n 0, 1) ∧ decode cX12_off 13 = .ok (.isub, 1) ∧ decode cX12_off 14 = .ok (.ireturn, 1) ∧ decode cX12_off 5 = .ok (.iload_n 0, 1) ∧ decode cX12_off 6 = .ok (.iload_n 1, 1) ∧ decode cX12_off 7 = .ok (.isub, 1) ∧ decode cX12_off 8 = .ok (.goto 6, 3) := by decide +kernel
theorem dX12_off_0 : decode cX12_off 0 = .ok (.iload_n 0, 1) := gdX12_off_0.1
theorem dX12_off_1 : decode cX12_off 1 = .ok (.iload_n 1, 1) := gdX12_off_0.2.1
theorem dX12_off_2 : decode cX12_off 2 = .ok (.if_icmp .le 9, 3) := gdX12_off_0.2.2.1
theorem dX12_off_11 : decode cX12_off 11 = .ok (.iload_n 1, 1) := gdX12_off_0.2.2.2.1
theorem dX12_off_12 : decode cX12_off 12 = .ok (.iload_n 0, 1) := gdX12_off_0.2.2.2.2.1
theorem dX12_off_13 : decode cX12_off 13 = .ok (.isub, 1) := gdX12_off_0.2.2.2.2.2.1
theorem dX12_off_14 : decode cX12_off 14 = .ok (.ireturn, 1) := gdX12_off_0.2.2.2.2.2.2.1
theorem dX12_off_5 : decode cX12_off 5 = .ok (.iload_n 0, 1) := gdX12_off_0.2.2.2.2.2.2.2.1
theorem dX12_off_6 : decode cX12_off 6 = .ok (.iload_n 1, 1) := gdX12_off_0.2.2.2.2.2.2.2.2.1
theorem dX12_off_7 : decode cX12_off 7 = .ok (.isub, 1) := gdX12_off_0.2.2.2.2.2.2.2.2.2.1
theorem dX12_off_8 : decode cX12_off 8 = .ok (.goto 6, 3) := gdX12_off_0.2.2.2.2.2.2.2.2.2.2
set_option maxHeartbeats 1000000 in
set_option maxRecDepth 100000 in
theorem r_off (l : Launch) (D : va_G) (cy : Nat → ClassId) (xa : Int32) (xb : Int32)  : XMi l D (tyL cy) E0 yX12_off cX12_off 2 (some .int) (rmk 0 0 0) [.int xa, .int xb] [] (fun (r : Int32) (_ : Unit) => (r = ofR xa xb)) (fun (_ : Unit) => []) := by
  refine XMi.start (by decide) (Nat.le_of_ble_eq_true rfl) ?_
  intro p e s m below meth c args A ls Q hat hQ
  obtain ⟨hx, hb, hr, hml, hown, hg, hlocks, hin, hK, hA, hP, hD, hS, hE, hl⟩ := hat
  have hown : s.vm.findClass RX12 = some m.cls := hown
  have hl : lv_has ls 2 [(0, .int xa), (1, .int xb)] := hl
  refine lv_iload_n hx hb dX12_off_0 rfl (lv_at hl 0 rfl) ?_
  refine lv_iload_n hx hb dX12_off_1 rfl (lv_at hl 1 rfl) ?_
  refine lv_icmp_le (tgt := 11) hx hb dX12_off_2 (by decide) (fun c_2 => ?_) (fun c_2 => ?_)
  · refine lv_iload_n hx hb dX12_off_11 rfl (lv_at hl 1 rfl) ?_
    refine lv_iload_n hx hb dX12_off_12 rfl (lv_at hl 0 rfl) ?_
    refine lv_isub hx hb dX12_off_13 ?_
    refine lv_topi (fun x_1 ex_1 => ?_)
    exact x_iret hQ hx hb hr hlocks hK hP hD hS dX12_off_14 () ((show (x_1 : Int32) = ofR xa xb from of_1 c_2 ex_1)) [] (by decide +kernel) rfl (Nat.le_of_ble_eq_true rfl) (Nat.le_of_ble_eq_true rfl)
  · refine lv_iload_n hx hb dX12_off_5 rfl (lv_at hl 0 rfl) ?_
    refine lv_iload_n hx hb dX12_off_6 rfl (lv_at hl 1 rfl) ?_
    refine lv_isub hx hb dX12_off_7 ?_
    refine lv_topi (fun x_2 ex_2 => ?_)
    refine lv_goto (tgt := 14) hx hb dX12_off_8 (by decide) ?_
    exact x_iret hQ hx hb hr hlocks hK hP hD hS dX12_off_14 () ((show (x_2 : Int32) = ofR xa xb from of_0 c_2 ex_2)) [] (by decide +kernel) rfl (Nat.le_of_ble_eq_true rfl) (Nat.le_of_ble_eq_true rfl)
theorem gdX12_members_0 : decode cX12_members 0 = .ok (.iconst 0, 1) ∧ decode cX12_members 1 = .ok (.istore_n 1, 1) ∧ decode cX12_members 2 = .ok (.iconst 0, 1) ∧ decode cX12_members 3 = .ok (.istore_n 2, 1) ∧ decode cX12_members 4 = .ok (.iload_n 2, 1) ∧ decode cX12_members 5 = .ok (.bipush 10, 2) ∧ decode cX12_members 7 = .ok (.if_icmp .ge 17, 3) ∧ decode cX12_members 24 = .ok (.iload_n 1, 1) ∧ decode cX12_members 25 = .ok (.ireturn, 1) ∧ decode cX12_members 10 = .ok (.iload_n 1, 1) ∧ decode cX12_members 11 = .ok (.iload_n 0, 1) ∧ decode cX12_members 12 = .ok (.iload_n 2, 1) := by decide +kernel
theorem dX12_members_0 : decode cX12_members 0 = .ok (.iconst 0, 1) := gdX12_members_0.1
theorem dX12_members_1 : decode cX12_members 1 = .ok (.istore_n 1, 1) := gdX12_members_0.2.1
theorem dX12_members_2 : decode cX12_members 2 = .ok (.iconst 0, 1) := gdX12_members_0.2.2.1
theorem dX12_members_3 : decode cX12_members 3 = .ok (.istore_n 2, 1) := gdX12_members_0.2.2.2.1
theorem dX12_members_4 : decode cX12_members 4 = .ok (.iload_n 2, 1) := gdX12_members_0.2.2.2.2.1
theorem dX12_members_5 : decode cX12_members 5 = .ok (.bipush 10, 2) := gdX12_members_0.2.2.2.2.2.1
theorem dX12_members_7 : decode cX12_members 7 = .ok (.if_icmp .ge 17, 3) := gdX12_members_0.2.2.2.2.2.2.1
theorem dX12_members_24 : decode cX12_members 24 = .ok (.iload_n 1, 1) := gdX12_members_0.2.2.2.2.2.2.2.1
theorem dX12_members_25 : decode cX12_members 25 = .ok (.ireturn, 1) := gdX12_members_0.2.2.2.2.2.2.2.2.1
theorem dX12_members_10 : decode cX12_members 10 = .ok (.iload_n 1, 1) := gdX12_members_0.2.2.2.2.2.2.2.2.2.1
theorem dX12_members_11 : decode cX12_members 11 = .ok (.iload_n 0, 1) := gdX12_members_0.2.2.2.2.2.2.2.2.2.2.1
theorem dX12_members_12 : decode cX12_members 12 = .ok (.iload_n 2, 1) := gdX12_members_0.2.2.2.2.2.2.2.2.2.2.2
theorem gdX12_members_13 : decode cX12_members 13 = .ok (.ishr, 1) ∧ decode cX12_members 14 = .ok (.iconst 1, 1) ∧ decode cX12_members 15 = .ok (.iand, 1) ∧ decode cX12_members 16 = .ok (.iadd, 1) ∧ decode cX12_members 17 = .ok (.istore_n 1, 1) ∧ decode cX12_members 18 = .ok (.iinc 2 1, 3) ∧ decode cX12_members 21 = .ok (.goto (-17), 3) := by decide +kernel
theorem dX12_members_13 : decode cX12_members 13 = .ok (.ishr, 1) := gdX12_members_13.1
theorem dX12_members_14 : decode cX12_members 14 = .ok (.iconst 1, 1) := gdX12_members_13.2.1
theorem dX12_members_15 : decode cX12_members 15 = .ok (.iand, 1) := gdX12_members_13.2.2.1
theorem dX12_members_16 : decode cX12_members 16 = .ok (.iadd, 1) := gdX12_members_13.2.2.2.1
theorem dX12_members_17 : decode cX12_members 17 = .ok (.istore_n 1, 1) := gdX12_members_13.2.2.2.2.1
theorem dX12_members_18 : decode cX12_members 18 = .ok (.iinc 2 1, 3) := gdX12_members_13.2.2.2.2.2.1
theorem dX12_members_21 : decode cX12_members 21 = .ok (.goto (-17), 3) := gdX12_members_13.2.2.2.2.2.2
set_option maxHeartbeats 1000000 in
set_option maxRecDepth 100000 in
theorem r_members (l : Launch) (D : va_G) (cy : Nat → ClassId) (ix : Int32)  : XMi l D (tyL cy) E0 yX12_members cX12_members 3 (some .int) (rmk 0 0 0) [.int ix] [] (fun (r : Int32) (_ : Unit) => (r = mbS ix 10)) (fun (_ : Unit) => []) := by
  refine XMi.start (by decide) (Nat.le_of_ble_eq_true rfl) ?_
  intro p e s m below meth c args A ls Q hat hQ
  obtain ⟨hx, hb, hr, hml, hown, hg, hlocks, hin, hK, hA, hP, hD, hS, hE, hl⟩ := hat
  have hown : s.vm.findClass RX12 = some m.cls := hown
  have hl : lv_has ls 3 [(0, .int ix)] := hl
  refine lv_iconst (v := 0) hx hb dX12_members_0 (by decide) ?_
  refine lv_istore_n (lv' := [(1, .int 0), (0, .int ix)]) hx hb dX12_members_1 rfl hl (by decide) rfl (fun ls hl => ?_)
  refine lv_iconst (v := 0) hx hb dX12_members_2 (by decide) ?_
  refine lv_istore_n (lv' := [(2, .int 0), (1, .int 0), (0, .int ix)]) hx hb dX12_members_3 rfl hl (by decide) rfl (fun ls hl => ?_)
  have loop1 : ∀ (zn : Nat) (mb1 : Int32) (k1 : Nat), (k1 ≤ 10) → (mb1 = mbS ix k1) → 10 - k1 + 1 ≤ zn → ∀ (H : Heap) (locs : List Loc), va_P D vwCl [] H → va_D A [] → va_S A s.heap H locs → ∀ ls : Array Slot, lv_has ls 3 [(2, .int (nI k1)), (1, .int mb1), (0, .int ix)] → W p l e (rmk 0 0 0) s m args below meth c H locs 0 0 Q (F0 m 4 ls []) := by
    try clear hP hD hS
    intro zn
    induction zn with
    | zero => intro mb1 k1 _ _ hz; exact absurd hz (by omega)
    | succ zn ih1 =>
      intro mb1 k1 hf0_1 hf1_1 hmu1 H locs hP hD hS ls hl
      refine lv_iload_n hx hb dX12_members_4 rfl (lv_at hl 0 rfl) ?_
      refine lv_bipush (v := 10) hx hb dX12_members_5 (by decide) ?_
      refine lv_icmp_ge (tgt := 24) hx hb dX12_members_7 (by decide) (fun c_2 => ?_) (fun c_2 => ?_)
      · have q_3 : 10 ≤ k1 := q_le (a := 10) (b := k1) rfl rfl (by omega) (by omega) c_2
        refine lv_iload_n hx hb dX12_members_24 rfl (lv_at hl 1 rfl) ?_
        exact x_iret hQ hx hb hr hlocks hK hP hD hS dX12_members_25 () ((show (mb1 : Int32) = mbS ix 10 from (by have h9 := hf1_1; rwa [show k1 = 10 by omega] at h9))) [] (by decide +kernel) rfl (Nat.le_of_ble_eq_true rfl) (Nat.le_of_ble_eq_true rfl)
      · have q_3 : k1 < 10 := q_nle (a := 10) (b := k1) rfl rfl (by omega) (by omega) c_2
        refine lv_iload_n hx hb dX12_members_10 rfl (lv_at hl 1 rfl) ?_
        refine lv_iload_n hx hb dX12_members_11 rfl (lv_at hl 2 rfl) ?_
        refine lv_iload_n hx hb dX12_members_12 rfl (lv_at hl 0 rfl) ?_
        refine lv_ishr hx hb dX12_members_13 ?_
        refine lv_topi (fun x_4 ex_4 => ?_)
        refine lv_iconst (v := 1) hx hb dX12_members_14 (by decide) ?_
        refine lv_iand hx hb dX12_members_15 ?_
        refine lv_topi (fun x_5 ex_5 => ?_)
        refine lv_iadd hx hb dX12_members_16 ?_
        refine lv_topi (fun x_6 ex_6 => ?_)
        refine lv_istore_n (lv' := [(1, .int x_6), (2, .int (nI k1)), (0, .int ix)]) hx hb dX12_members_17 rfl hl (by decide) rfl (fun ls hl => ?_)
        refine lv_iinc (v := nI (k1 + 1)) (lv' := [(2, .int (nI (k1 + 1))), (1, .int x_6), (0, .int ix)]) hx hb dX12_members_18 hl (k := 1) rfl (nI_add k1 1) (by decide) rfl (fun ls hl => ?_)
        refine lv_goto (tgt := 4) hx hb dX12_members_21 (by decide) ?_
        exact ih1  x_6 ((k1 + 1)) (by first | assumption | omega) (mb_go hf1_1 ex_4 ex_5 ex_6) (by omega) _ _ (hP.sub [] rfl) (hD.sub [] (by decide +kernel) rfl) hS ls (lv_sub hl [0, 1, 2] rfl)
  exact loop1 _ 0 0 (by first | assumption | omega) (rfl) (Nat.le_refl _) _ _ (hP.sub [] rfl) (hD.sub [] (by decide +kernel) rfl) hS ls (lv_sub hl [0, 1, 2] rfl)
theorem gdX12_worked_0 : decode cX12_worked 0 = .ok (.iconst 0, 1) ∧ decode cX12_worked 1 = .ok (.istore_n 2, 1) ∧ decode cX12_worked 2 = .ok (.sipush 320, 3) ∧ decode cX12_worked 5 = .ok (.iload_n 1, 1) ∧ decode cX12_worked 6 = .ok (.imul, 1) ∧ decode cX12_worked 7 = .ok (.istore_n 3, 1) ∧ decode cX12_worked 8 = .ok (.iload_n 3, 1) ∧ decode cX12_worked 9 = .ok (.sipush 320, 3) ∧ decode cX12_worked 12 = .ok (.iload_n 1, 1) ∧ decode cX12_worked 13 = .ok (.imul, 1) ∧ decode cX12_worked 14 = .ok (.aload_n 0, 1) ∧ decode cX12_worked 15 = .ok (.getfield 36, 3) := by decide +kernel
theorem dX12_worked_0 : decode cX12_worked 0 = .ok (.iconst 0, 1) := gdX12_worked_0.1
theorem dX12_worked_1 : decode cX12_worked 1 = .ok (.istore_n 2, 1) := gdX12_worked_0.2.1
theorem dX12_worked_2 : decode cX12_worked 2 = .ok (.sipush 320, 3) := gdX12_worked_0.2.2.1
theorem dX12_worked_5 : decode cX12_worked 5 = .ok (.iload_n 1, 1) := gdX12_worked_0.2.2.2.1
theorem dX12_worked_6 : decode cX12_worked 6 = .ok (.imul, 1) := gdX12_worked_0.2.2.2.2.1
theorem dX12_worked_7 : decode cX12_worked 7 = .ok (.istore_n 3, 1) := gdX12_worked_0.2.2.2.2.2.1
theorem dX12_worked_8 : decode cX12_worked 8 = .ok (.iload_n 3, 1) := gdX12_worked_0.2.2.2.2.2.2.1
theorem dX12_worked_9 : decode cX12_worked 9 = .ok (.sipush 320, 3) := gdX12_worked_0.2.2.2.2.2.2.2.1
theorem dX12_worked_12 : decode cX12_worked 12 = .ok (.iload_n 1, 1) := gdX12_worked_0.2.2.2.2.2.2.2.2.1
theorem dX12_worked_13 : decode cX12_worked 13 = .ok (.imul, 1) := gdX12_worked_0.2.2.2.2.2.2.2.2.2.1
theorem dX12_worked_14 : decode cX12_worked 14 = .ok (.aload_n 0, 1) := gdX12_worked_0.2.2.2.2.2.2.2.2.2.2.1
theorem dX12_worked_15 : decode cX12_worked 15 = .ok (.getfield 36, 3) := gdX12_worked_0.2.2.2.2.2.2.2.2.2.2.2
theorem gdX12_worked_18 : decode cX12_worked 18 = .ok (.iload_n 1, 1) ∧ decode cX12_worked 19 = .ok (.iaload, 1) ∧ decode cX12_worked 20 = .ok (.iadd, 1) ∧ decode cX12_worked 21 = .ok (.if_icmp .ge 143, 3) ∧ decode cX12_worked 164 = .ok (.aload_n 0, 1) ∧ decode cX12_worked 165 = .ok (.getfield 42, 3) ∧ decode cX12_worked 168 = .ok (.iconst 0, 1) ∧ decode cX12_worked 169 = .ok (.iaload, 1) ∧ decode cX12_worked 170 = .ok (.ireturn, 1) ∧ decode cX12_worked 24 = .ok (.aload_n 0, 1) ∧ decode cX12_worked 25 = .ok (.getfield 30, 3) ∧ decode cX12_worked 28 = .ok (.iload_n 3, 1) := by decide +kernel
theorem dX12_worked_18 : decode cX12_worked 18 = .ok (.iload_n 1, 1) := gdX12_worked_18.1
theorem dX12_worked_19 : decode cX12_worked 19 = .ok (.iaload, 1) := gdX12_worked_18.2.1
theorem dX12_worked_20 : decode cX12_worked 20 = .ok (.iadd, 1) := gdX12_worked_18.2.2.1
theorem dX12_worked_21 : decode cX12_worked 21 = .ok (.if_icmp .ge 143, 3) := gdX12_worked_18.2.2.2.1
theorem dX12_worked_164 : decode cX12_worked 164 = .ok (.aload_n 0, 1) := gdX12_worked_18.2.2.2.2.1
theorem dX12_worked_165 : decode cX12_worked 165 = .ok (.getfield 42, 3) := gdX12_worked_18.2.2.2.2.2.1
theorem dX12_worked_168 : decode cX12_worked 168 = .ok (.iconst 0, 1) := gdX12_worked_18.2.2.2.2.2.2.1
theorem dX12_worked_169 : decode cX12_worked 169 = .ok (.iaload, 1) := gdX12_worked_18.2.2.2.2.2.2.2.1
theorem dX12_worked_170 : decode cX12_worked 170 = .ok (.ireturn, 1) := gdX12_worked_18.2.2.2.2.2.2.2.2.1
theorem dX12_worked_24 : decode cX12_worked 24 = .ok (.aload_n 0, 1) := gdX12_worked_18.2.2.2.2.2.2.2.2.2.1
theorem dX12_worked_25 : decode cX12_worked 25 = .ok (.getfield 30, 3) := gdX12_worked_18.2.2.2.2.2.2.2.2.2.2.1
theorem dX12_worked_28 : decode cX12_worked 28 = .ok (.iload_n 3, 1) := gdX12_worked_18.2.2.2.2.2.2.2.2.2.2.2
theorem gdX12_worked_29 : decode cX12_worked 29 = .ok (.iaload, 1) ∧ decode cX12_worked 30 = .ok (.ifCond .eq 13, 3) ∧ decode cX12_worked 43 = .ok (.aload_n 0, 1) ∧ decode cX12_worked 44 = .ok (.getfield 42, 3) ∧ decode cX12_worked 47 = .ok (.iload_n 2, 1) ∧ decode cX12_worked 48 = .ok (.aload_n 0, 1) ∧ decode cX12_worked 49 = .ok (.getfield 30, 3) ∧ decode cX12_worked 52 = .ok (.iload_n 3, 1) ∧ decode cX12_worked 53 = .ok (.iaload, 1) ∧ decode cX12_worked 54 = .ok (.ifCond .ne 12, 3) ∧ decode cX12_worked 57 = .ok (.aload_n 0, 1) ∧ decode cX12_worked 58 = .ok (.getfield 33, 3) := by decide +kernel
theorem dX12_worked_29 : decode cX12_worked 29 = .ok (.iaload, 1) := gdX12_worked_29.1
theorem dX12_worked_30 : decode cX12_worked 30 = .ok (.ifCond .eq 13, 3) := gdX12_worked_29.2.1
theorem dX12_worked_43 : decode cX12_worked 43 = .ok (.aload_n 0, 1) := gdX12_worked_29.2.2.1
theorem dX12_worked_44 : decode cX12_worked 44 = .ok (.getfield 42, 3) := gdX12_worked_29.2.2.2.1
theorem dX12_worked_47 : decode cX12_worked 47 = .ok (.iload_n 2, 1) := gdX12_worked_29.2.2.2.2.1
theorem dX12_worked_48 : decode cX12_worked 48 = .ok (.aload_n 0, 1) := gdX12_worked_29.2.2.2.2.2.1
theorem dX12_worked_49 : decode cX12_worked 49 = .ok (.getfield 30, 3) := gdX12_worked_29.2.2.2.2.2.2.1
theorem dX12_worked_52 : decode cX12_worked 52 = .ok (.iload_n 3, 1) := gdX12_worked_29.2.2.2.2.2.2.2.1
theorem dX12_worked_53 : decode cX12_worked 53 = .ok (.iaload, 1) := gdX12_worked_29.2.2.2.2.2.2.2.2.1
theorem dX12_worked_54 : decode cX12_worked 54 = .ok (.ifCond .ne 12, 3) := gdX12_worked_29.2.2.2.2.2.2.2.2.2.1
theorem dX12_worked_57 : decode cX12_worked 57 = .ok (.aload_n 0, 1) := gdX12_worked_29.2.2.2.2.2.2.2.2.2.2.1
theorem dX12_worked_58 : decode cX12_worked 58 = .ok (.getfield 33, 3) := gdX12_worked_29.2.2.2.2.2.2.2.2.2.2.2
theorem gdX12_worked_61 : decode cX12_worked 61 = .ok (.iload_n 3, 1) ∧ decode cX12_worked 62 = .ok (.iaload, 1) ∧ decode cX12_worked 63 = .ok (.goto 14, 3) ∧ decode cX12_worked 77 = .ok (.iastore, 1) ∧ decode cX12_worked 78 = .ok (.iinc 2 1, 3) ∧ decode cX12_worked 81 = .ok (.goto 77, 3) ∧ decode cX12_worked 158 = .ok (.iinc 3 1, 3) ∧ decode cX12_worked 161 = .ok (.goto (-153), 3) ∧ decode cX12_worked 33 = .ok (.aload_n 0, 1) ∧ decode cX12_worked 34 = .ok (.getfield 30, 3) ∧ decode cX12_worked 37 = .ok (.iload_n 3, 1) ∧ decode cX12_worked 38 = .ok (.iaload, 1) := by decide +kernel
theorem dX12_worked_61 : decode cX12_worked 61 = .ok (.iload_n 3, 1) := gdX12_worked_61.1
theorem dX12_worked_62 : decode cX12_worked 62 = .ok (.iaload, 1) := gdX12_worked_61.2.1
theorem dX12_worked_63 : decode cX12_worked 63 = .ok (.goto 14, 3) := gdX12_worked_61.2.2.1
theorem dX12_worked_77 : decode cX12_worked 77 = .ok (.iastore, 1) := gdX12_worked_61.2.2.2.1
theorem dX12_worked_78 : decode cX12_worked 78 = .ok (.iinc 2 1, 3) := gdX12_worked_61.2.2.2.2.1
theorem dX12_worked_81 : decode cX12_worked 81 = .ok (.goto 77, 3) := gdX12_worked_61.2.2.2.2.2.1
theorem dX12_worked_158 : decode cX12_worked 158 = .ok (.iinc 3 1, 3) := gdX12_worked_61.2.2.2.2.2.2.1
theorem dX12_worked_161 : decode cX12_worked 161 = .ok (.goto (-153), 3) := gdX12_worked_61.2.2.2.2.2.2.2.1
theorem dX12_worked_33 : decode cX12_worked 33 = .ok (.aload_n 0, 1) := gdX12_worked_61.2.2.2.2.2.2.2.2.1
theorem dX12_worked_34 : decode cX12_worked 34 = .ok (.getfield 30, 3) := gdX12_worked_61.2.2.2.2.2.2.2.2.2.1
theorem dX12_worked_37 : decode cX12_worked 37 = .ok (.iload_n 3, 1) := gdX12_worked_61.2.2.2.2.2.2.2.2.2.2.1
theorem dX12_worked_38 : decode cX12_worked 38 = .ok (.iaload, 1) := gdX12_worked_61.2.2.2.2.2.2.2.2.2.2.2
theorem gdX12_worked_39 : decode cX12_worked 39 = .ok (.iconst 1, 1) ∧ decode cX12_worked 40 = .ok (.if_icmp .ne 44, 3) ∧ decode cX12_worked 66 = .ok (.aload_n 0, 1) ∧ decode cX12_worked 67 = .ok (.getfield 52, 3) ∧ decode cX12_worked 70 = .ok (.aload_n 0, 1) ∧ decode cX12_worked 71 = .ok (.getfield 33, 3) ∧ decode cX12_worked 74 = .ok (.iload_n 3, 1) ∧ decode cX12_worked 75 = .ok (.iaload, 1) ∧ decode cX12_worked 76 = .ok (.iaload, 1) ∧ decode cX12_worked 84 = .ok (.aload_n 0, 1) ∧ decode cX12_worked 85 = .ok (.getfield 30, 3) ∧ decode cX12_worked 88 = .ok (.iload_n 3, 1) := by decide +kernel
theorem dX12_worked_39 : decode cX12_worked 39 = .ok (.iconst 1, 1) := gdX12_worked_39.1
theorem dX12_worked_40 : decode cX12_worked 40 = .ok (.if_icmp .ne 44, 3) := gdX12_worked_39.2.1
theorem dX12_worked_66 : decode cX12_worked 66 = .ok (.aload_n 0, 1) := gdX12_worked_39.2.2.1
theorem dX12_worked_67 : decode cX12_worked 67 = .ok (.getfield 52, 3) := gdX12_worked_39.2.2.2.1
theorem dX12_worked_70 : decode cX12_worked 70 = .ok (.aload_n 0, 1) := gdX12_worked_39.2.2.2.2.1
theorem dX12_worked_71 : decode cX12_worked 71 = .ok (.getfield 33, 3) := gdX12_worked_39.2.2.2.2.2.1
theorem dX12_worked_74 : decode cX12_worked 74 = .ok (.iload_n 3, 1) := gdX12_worked_39.2.2.2.2.2.2.1
theorem dX12_worked_75 : decode cX12_worked 75 = .ok (.iaload, 1) := gdX12_worked_39.2.2.2.2.2.2.2.1
theorem dX12_worked_76 : decode cX12_worked 76 = .ok (.iaload, 1) := gdX12_worked_39.2.2.2.2.2.2.2.2.1
theorem dX12_worked_84 : decode cX12_worked 84 = .ok (.aload_n 0, 1) := gdX12_worked_39.2.2.2.2.2.2.2.2.2.1
theorem dX12_worked_85 : decode cX12_worked 85 = .ok (.getfield 30, 3) := gdX12_worked_39.2.2.2.2.2.2.2.2.2.2.1
theorem dX12_worked_88 : decode cX12_worked 88 = .ok (.iload_n 3, 1) := gdX12_worked_39.2.2.2.2.2.2.2.2.2.2.2
theorem gdX12_worked_89 : decode cX12_worked 89 = .ok (.iaload, 1) ∧ decode cX12_worked 90 = .ok (.iconst 2, 1) ∧ decode cX12_worked 91 = .ok (.if_icmp .ne 33, 3) ∧ decode cX12_worked 94 = .ok (.aload_n 0, 1) ∧ decode cX12_worked 95 = .ok (.getfield 42, 3) ∧ decode cX12_worked 98 = .ok (.iload_n 2, 1) ∧ decode cX12_worked 99 = .ok (.iconst 1, 1) ∧ decode cX12_worked 100 = .ok (.isub, 1) ∧ decode cX12_worked 101 = .ok (.aload_n 0, 1) ∧ decode cX12_worked 102 = .ok (.getfield 42, 3) ∧ decode cX12_worked 105 = .ok (.iload_n 2, 1) ∧ decode cX12_worked 106 = .ok (.iconst 1, 1) := by decide +kernel
theorem dX12_worked_89 : decode cX12_worked 89 = .ok (.iaload, 1) := gdX12_worked_89.1
theorem dX12_worked_90 : decode cX12_worked 90 = .ok (.iconst 2, 1) := gdX12_worked_89.2.1
theorem dX12_worked_91 : decode cX12_worked 91 = .ok (.if_icmp .ne 33, 3) := gdX12_worked_89.2.2.1
theorem dX12_worked_94 : decode cX12_worked 94 = .ok (.aload_n 0, 1) := gdX12_worked_89.2.2.2.1
theorem dX12_worked_95 : decode cX12_worked 95 = .ok (.getfield 42, 3) := gdX12_worked_89.2.2.2.2.1
theorem dX12_worked_98 : decode cX12_worked 98 = .ok (.iload_n 2, 1) := gdX12_worked_89.2.2.2.2.2.1
theorem dX12_worked_99 : decode cX12_worked 99 = .ok (.iconst 1, 1) := gdX12_worked_89.2.2.2.2.2.2.1
theorem dX12_worked_100 : decode cX12_worked 100 = .ok (.isub, 1) := gdX12_worked_89.2.2.2.2.2.2.2.1
theorem dX12_worked_101 : decode cX12_worked 101 = .ok (.aload_n 0, 1) := gdX12_worked_89.2.2.2.2.2.2.2.2.1
theorem dX12_worked_102 : decode cX12_worked 102 = .ok (.getfield 42, 3) := gdX12_worked_89.2.2.2.2.2.2.2.2.2.1
theorem dX12_worked_105 : decode cX12_worked 105 = .ok (.iload_n 2, 1) := gdX12_worked_89.2.2.2.2.2.2.2.2.2.2.1
theorem dX12_worked_106 : decode cX12_worked 106 = .ok (.iconst 1, 1) := gdX12_worked_89.2.2.2.2.2.2.2.2.2.2.2
theorem gdX12_worked_107 : decode cX12_worked 107 = .ok (.isub, 1) ∧ decode cX12_worked 108 = .ok (.iaload, 1) ∧ decode cX12_worked 109 = .ok (.ifCond .ne 7, 3) ∧ decode cX12_worked 116 = .ok (.iconst 0, 1) ∧ decode cX12_worked 117 = .ok (.invokestatic 333, 3) ∧ decode cX12_worked 120 = .ok (.iastore, 1) ∧ decode cX12_worked 121 = .ok (.goto 37, 3) ∧ decode cX12_worked 112 = .ok (.iconst 1, 1) ∧ decode cX12_worked 113 = .ok (.goto 4, 3) ∧ decode cX12_worked 124 = .ok (.iinc 2 (-1), 3) ∧ decode cX12_worked 127 = .ok (.aload_n 0, 1) ∧ decode cX12_worked 128 = .ok (.getfield 42, 3) := by decide +kernel
theorem dX12_worked_107 : decode cX12_worked 107 = .ok (.isub, 1) := gdX12_worked_107.1
theorem dX12_worked_108 : decode cX12_worked 108 = .ok (.iaload, 1) := gdX12_worked_107.2.1
theorem dX12_worked_109 : decode cX12_worked 109 = .ok (.ifCond .ne 7, 3) := gdX12_worked_107.2.2.1
theorem dX12_worked_116 : decode cX12_worked 116 = .ok (.iconst 0, 1) := gdX12_worked_107.2.2.2.1
theorem dX12_worked_117 : decode cX12_worked 117 = .ok (.invokestatic 333, 3) := gdX12_worked_107.2.2.2.2.1
theorem dX12_worked_120 : decode cX12_worked 120 = .ok (.iastore, 1) := gdX12_worked_107.2.2.2.2.2.1
theorem dX12_worked_121 : decode cX12_worked 121 = .ok (.goto 37, 3) := gdX12_worked_107.2.2.2.2.2.2.1
theorem dX12_worked_112 : decode cX12_worked 112 = .ok (.iconst 1, 1) := gdX12_worked_107.2.2.2.2.2.2.2.1
theorem dX12_worked_113 : decode cX12_worked 113 = .ok (.goto 4, 3) := gdX12_worked_107.2.2.2.2.2.2.2.2.1
theorem dX12_worked_124 : decode cX12_worked 124 = .ok (.iinc 2 (-1), 3) := gdX12_worked_107.2.2.2.2.2.2.2.2.2.1
theorem dX12_worked_127 : decode cX12_worked 127 = .ok (.aload_n 0, 1) := gdX12_worked_107.2.2.2.2.2.2.2.2.2.2.1
theorem dX12_worked_128 : decode cX12_worked 128 = .ok (.getfield 42, 3) := gdX12_worked_107.2.2.2.2.2.2.2.2.2.2.2
theorem gdX12_worked_131 : decode cX12_worked 131 = .ok (.iload_n 2, 1) ∧ decode cX12_worked 132 = .ok (.iconst 1, 1) ∧ decode cX12_worked 133 = .ok (.isub, 1) ∧ decode cX12_worked 134 = .ok (.aload_n 0, 1) ∧ decode cX12_worked 135 = .ok (.getfield 33, 3) ∧ decode cX12_worked 138 = .ok (.iload_n 3, 1) ∧ decode cX12_worked 139 = .ok (.iaload, 1) ∧ decode cX12_worked 140 = .ok (.aload_n 0, 1) ∧ decode cX12_worked 141 = .ok (.getfield 42, 3) ∧ decode cX12_worked 144 = .ok (.iload_n 2, 1) ∧ decode cX12_worked 145 = .ok (.iconst 1, 1) ∧ decode cX12_worked 146 = .ok (.isub, 1) := by decide +kernel
theorem dX12_worked_131 : decode cX12_worked 131 = .ok (.iload_n 2, 1) := gdX12_worked_131.1
theorem dX12_worked_132 : decode cX12_worked 132 = .ok (.iconst 1, 1) := gdX12_worked_131.2.1
theorem dX12_worked_133 : decode cX12_worked 133 = .ok (.isub, 1) := gdX12_worked_131.2.2.1
theorem dX12_worked_134 : decode cX12_worked 134 = .ok (.aload_n 0, 1) := gdX12_worked_131.2.2.2.1
theorem dX12_worked_135 : decode cX12_worked 135 = .ok (.getfield 33, 3) := gdX12_worked_131.2.2.2.2.1
theorem dX12_worked_138 : decode cX12_worked 138 = .ok (.iload_n 3, 1) := gdX12_worked_131.2.2.2.2.2.1
theorem dX12_worked_139 : decode cX12_worked 139 = .ok (.iaload, 1) := gdX12_worked_131.2.2.2.2.2.2.1
theorem dX12_worked_140 : decode cX12_worked 140 = .ok (.aload_n 0, 1) := gdX12_worked_131.2.2.2.2.2.2.2.1
theorem dX12_worked_141 : decode cX12_worked 141 = .ok (.getfield 42, 3) := gdX12_worked_131.2.2.2.2.2.2.2.2.1
theorem dX12_worked_144 : decode cX12_worked 144 = .ok (.iload_n 2, 1) := gdX12_worked_131.2.2.2.2.2.2.2.2.2.1
theorem dX12_worked_145 : decode cX12_worked 145 = .ok (.iconst 1, 1) := gdX12_worked_131.2.2.2.2.2.2.2.2.2.2.1
theorem dX12_worked_146 : decode cX12_worked 146 = .ok (.isub, 1) := gdX12_worked_131.2.2.2.2.2.2.2.2.2.2.2
theorem gdX12_worked_147 : decode cX12_worked 147 = .ok (.iaload, 1) ∧ decode cX12_worked 148 = .ok (.aload_n 0, 1) ∧ decode cX12_worked 149 = .ok (.getfield 42, 3) ∧ decode cX12_worked 152 = .ok (.iload_n 2, 1) ∧ decode cX12_worked 153 = .ok (.iaload, 1) ∧ decode cX12_worked 154 = .ok (.invokestatic 337, 3) := by decide +kernel
theorem dX12_worked_147 : decode cX12_worked 147 = .ok (.iaload, 1) := gdX12_worked_147.1
theorem dX12_worked_148 : decode cX12_worked 148 = .ok (.aload_n 0, 1) := gdX12_worked_147.2.1
theorem dX12_worked_149 : decode cX12_worked 149 = .ok (.getfield 42, 3) := gdX12_worked_147.2.2.1
theorem dX12_worked_152 : decode cX12_worked 152 = .ok (.iload_n 2, 1) := gdX12_worked_147.2.2.2.1
theorem dX12_worked_153 : decode cX12_worked 153 = .ok (.iaload, 1) := gdX12_worked_147.2.2.2.2.1
theorem dX12_worked_154 : decode cX12_worked 154 = .ok (.invokestatic 337, 3) := gdX12_worked_147.2.2.2.2.2
theorem k_X12_337 : xS RX12 337 yX12_done cX12_done 3 (some .int) 3 := ⟨⟨m_1978, m_1979, m_146, m_1980⟩, by decide, by decide, by decide +kernel⟩
theorem dX12_worked_157 : decode cX12_worked 157 = .ok (.iastore, 1) := by decide +kernel
set_option maxHeartbeats 1000000 in
set_option maxRecDepth 100000 in
theorem r_worked (l : Launch) (D : va_G) (cy : Nat → ClassId) (m0 : Nat) (Mtape : Nat) (MnName : Nat) (MnStep : Nat) (MnArg : Nat) (MnMany : Nat) (Mstep : Nat) (Marg : Nat) (Mmany : Nat) (Mopen : Nat) (Mvalues : Nat) (MnHasForm : Nat) (MhasForm : Nat) (Masks : Nat) (MnLoud : Nat) (MnCliffAt : Nat) (MnSnow : Nat) (MnManAt : Nat) (MnVoice : Nat) (MnOn : Nat) (Mloud : Nat) (McliffAt : Nat) (MsnowTold : Nat) (MmanAt : Nat) (Mvoice : Nat) (Mon : Nat) (MnYes : Nat) (Myes : Nat) (Mnow : Nat) (Mcry : Nat) (Msnow : Nat) (Mecho : Nat) (Mwere : Nat) (Mlies : Nat) (Mspots : Nat) (Msteps : Nat) (MfromState : Nat) (MbyWord : Nat) (Mqueue : Nat) (MsoundCliff : Nat) (MsoundLong : Nat) (MsoundCame : Nat) (MsoundTold : Nat) (MsoundUntold : Nat) (Mstands : Nat) (Mtally : Nat) (MhasBox : Nat) (Mboxes : Nat) (Itaped : Nat) (Ifault : Nat) (IfaultPlace : Int32) (Iat : Nat) (Isize : Nat) (Isort : Int32) (Iplace : Int32) (Inumber : Int32) (Iword : Int64) (Gstep : Nat → Int32) (Garg : Nat → Int32) (Gmany : Nat → Int32) (Gvalues : Nat → Int32) (Iform : Nat) (Iopens : Nat) (InUnits : Nat) (Iunits : Int32) (IownUnits : Nat) (Ideep : Nat) (Gasks : Nat → Int32) (InWords : Nat) (InCliffs : Nat) (InMen : Nat) (InStates : Nat) (InOns : Nat) (InWind : Int32) (InDraw : Int32) (Iwords : Nat) (Icliffs : Nat) (Imen : Nat) (Istates : Nat) (Ions : Int32) (IwindTold : Int32) (InHasWind : Int32) (InHasDraw : Int32) (IcryMany : Nat) (IcallPlace : Int32) (IcallVoice : Int32) (Iwind : Int32) (Ichance : Int32) (IechoMany : Nat) (Iacts : Nat) (Iundone : Nat) (Ilain : Nat) (Isounds : Nat) (Itime : Int32) (IstandMany : Int32) (am : Nat → Nat) (AH : Nat → Nat → Nat) (wf : Nat) (gtp : Itaped ≤ 1600) (gat : Iat ≤ Isize) (gsz : Isize ≤ 1600) (gfl : Ifault ≤ 5) (gfo : Iform ≤ 2) (gnw : InWords ≤ 8) (gnc : InCliffs ≤ 4) (gnm : InMen ≤ 4) (gns : InStates ≤ 6) (gw : Iwords ≤ 8) (gc9 : Icliffs ≤ 4) (gm : Imen ≤ 4) (gs : Istates ≤ 6) (gcm : IcryMany ≤ 10) (gem : IechoMany ≤ 20) (gau : Iacts + Iundone ≤ 40) (gla : Ilain ≤ 20) (gso : Isounds ≤ 30) (gop : Iopens ≤ 40) (gde : Ideep ≤ 8) (gou : IownUnits ≤ 31) (gnu : InUnits ≤ 61) (gno : InOns ≤ 30) (gal2 : allR Gstep Garg Gmany am AH) (hwf : wf ≤ 2) : XMi l D (tyL cy) E0 yX12_worked cX12_worked 4 (some .int) (rmk 2 0 0) [.ref m0, .int (nI wf)] [wO m0 12 [.ref Mtape, .int (nI Itaped), .int (nI Ifault), .int IfaultPlace, .int (nI Iat), .int (nI Isize), .int Isort, .int Iplace, .int Inumber, .long Iword, .ref MnName, .ref MnStep, .ref MnArg, .ref MnMany, .ref Mstep, .ref Marg, .ref Mmany, .ref Mopen, .ref Mvalues, .ref MnHasForm, .ref MhasForm, .int (nI Iform), .int (nI Iopens), .int (nI InUnits), .int Iunits, .int (nI IownUnits), .int (nI Ideep), .ref Masks, .ref MnLoud, .ref MnCliffAt, .ref MnSnow, .ref MnManAt, .ref MnVoice, .ref MnOn, .ref Mloud, .ref McliffAt, .ref MsnowTold, .ref MmanAt, .ref Mvoice, .ref Mon, .ref MnYes, .ref Myes, .int (nI InWords), .int (nI InCliffs), .int (nI InMen), .int (nI InStates), .int (nI InOns), .int InWind, .int InDraw, .int (nI Iwords), .int (nI Icliffs), .int (nI Imen), .int (nI Istates), .int Ions, .int IwindTold, .int InHasWind, .int InHasDraw, .ref Mnow, .ref Mcry, .ref Msnow, .ref Mecho, .int (nI IcryMany), .int IcallPlace, .int IcallVoice, .int Iwind, .int Ichance, .int (nI IechoMany), .ref Mwere, .int (nI Iacts), .int (nI Iundone), .ref Mlies, .int (nI Ilain), .ref Mspots, .ref Msteps, .ref MfromState, .ref MbyWord, .ref Mqueue, .ref MsoundCliff, .ref MsoundLong, .ref MsoundCame, .ref MsoundTold, .ref MsoundUntold, .int (nI Isounds), .int Itime, .ref Mstands, .int IstandMany, .ref Mtally, .ref MhasBox, .ref Mboxes], wI (cy 1) Mstep 960 (Gstep), wI (cy 1) Marg 960 (Garg), wI (cy 1) Mmany 3 (Gmany), wI (cy 1) Mvalues 64 (Gvalues), wI (cy 1) Masks 7 (Gasks)] (fun (r : Int32) (Gvalues2 : Nat → Int32) => (1 ≤ am wf → r = (evM Gstep Garg Gasks (320 * wf) (am wf)).getLastD 0)) (fun (Gvalues2 : Nat → Int32) => [wO m0 12 [.ref Mtape, .int (nI Itaped), .int (nI Ifault), .int IfaultPlace, .int (nI Iat), .int (nI Isize), .int Isort, .int Iplace, .int Inumber, .long Iword, .ref MnName, .ref MnStep, .ref MnArg, .ref MnMany, .ref Mstep, .ref Marg, .ref Mmany, .ref Mopen, .ref Mvalues, .ref MnHasForm, .ref MhasForm, .int (nI Iform), .int (nI Iopens), .int (nI InUnits), .int Iunits, .int (nI IownUnits), .int (nI Ideep), .ref Masks, .ref MnLoud, .ref MnCliffAt, .ref MnSnow, .ref MnManAt, .ref MnVoice, .ref MnOn, .ref Mloud, .ref McliffAt, .ref MsnowTold, .ref MmanAt, .ref Mvoice, .ref Mon, .ref MnYes, .ref Myes, .int (nI InWords), .int (nI InCliffs), .int (nI InMen), .int (nI InStates), .int (nI InOns), .int InWind, .int InDraw, .int (nI Iwords), .int (nI Icliffs), .int (nI Imen), .int (nI Istates), .int Ions, .int IwindTold, .int InHasWind, .int InHasDraw, .ref Mnow, .ref Mcry, .ref Msnow, .ref Mecho, .int (nI IcryMany), .int IcallPlace, .int IcallVoice, .int Iwind, .int Ichance, .int (nI IechoMany), .ref Mwere, .int (nI Iacts), .int (nI Iundone), .ref Mlies, .int (nI Ilain), .ref Mspots, .ref Msteps, .ref MfromState, .ref MbyWord, .ref Mqueue, .ref MsoundCliff, .ref MsoundLong, .ref MsoundCame, .ref MsoundTold, .ref MsoundUntold, .int (nI Isounds), .int Itime, .ref Mstands, .int IstandMany, .ref Mtally, .ref MhasBox, .ref Mboxes], wI (cy 1) Mstep 960 (Gstep), wI (cy 1) Marg 960 (Garg), wI (cy 1) Mmany 3 (Gmany), wI (cy 1) Mvalues 64 (Gvalues2), wI (cy 1) Masks 7 (Gasks)]) := by
  refine XMi.start (by decide) (Nat.le_of_ble_eq_true rfl) ?_
  intro p e s m below meth c args A ls Q hat hQ
  obtain ⟨hx, hb, hr, hml, hown, hg, hlocks, hin, hK, hA, hP, hD, hS, hE, hl⟩ := hat
  have hown : s.vm.findClass RX12 = some m.cls := hown
  have hl : lv_has ls 4 [(0, .ref m0), (1, .int (nI wf))] := hl
  have hamw := allR_le gal2 hwf
  refine lv_iconst (v := 0) hx hb dX12_worked_0 (by decide) ?_
  refine lv_istore_n (lv' := [(2, .int 0), (0, .ref m0), (1, .int (nI wf))]) hx hb dX12_worked_1 rfl hl (by decide) rfl (fun ls hl => ?_)
  refine lv_sipush (v := 320) hx hb dX12_worked_2 (by decide) ?_
  refine lv_iload_n hx hb dX12_worked_5 rfl (lv_at hl 2 rfl) ?_
  refine lv_imul hx hb dX12_worked_6 ?_
  refine lv_topi (fun y_1 hy_1 => ?_)
  obtain rfl : y_1 = nI (320 * wf) := hy_1.trans (pk_mul 320 wf)
  refine lv_istore_n (lv' := [(3, .int (nI (320 * wf))), (2, .int 0), (0, .ref m0), (1, .int (nI wf))]) hx hb dX12_worked_7 rfl hl (by decide) rfl (fun ls hl => ?_)
  have loop2 : ∀ (zn : Nat) (nn2 : Nat) (k2 : Nat) (i2 : Nat) (fa3_2 : Nat → Int32), (k2 = 320 * wf + i2) → (nn2 = AH wf i2) → (i2 ≤ am wf) → (stk fa3_2 nn2 = evM Gstep Garg Gasks (320 * wf) i2) → 310 - i2 + 1 ≤ zn → ∀ (H : Heap) (locs : List Loc), va_P D vwCl [wO m0 12 [.ref Mtape, .int (nI Itaped), .int (nI Ifault), .int IfaultPlace, .int (nI Iat), .int (nI Isize), .int Isort, .int Iplace, .int Inumber, .long Iword, .ref MnName, .ref MnStep, .ref MnArg, .ref MnMany, .ref Mstep, .ref Marg, .ref Mmany, .ref Mopen, .ref Mvalues, .ref MnHasForm, .ref MhasForm, .int (nI Iform), .int (nI Iopens), .int (nI InUnits), .int Iunits, .int (nI IownUnits), .int (nI Ideep), .ref Masks, .ref MnLoud, .ref MnCliffAt, .ref MnSnow, .ref MnManAt, .ref MnVoice, .ref MnOn, .ref Mloud, .ref McliffAt, .ref MsnowTold, .ref MmanAt, .ref Mvoice, .ref Mon, .ref MnYes, .ref Myes, .int (nI InWords), .int (nI InCliffs), .int (nI InMen), .int (nI InStates), .int (nI InOns), .int InWind, .int InDraw, .int (nI Iwords), .int (nI Icliffs), .int (nI Imen), .int (nI Istates), .int Ions, .int IwindTold, .int InHasWind, .int InHasDraw, .ref Mnow, .ref Mcry, .ref Msnow, .ref Mecho, .int (nI IcryMany), .int IcallPlace, .int IcallVoice, .int Iwind, .int Ichance, .int (nI IechoMany), .ref Mwere, .int (nI Iacts), .int (nI Iundone), .ref Mlies, .int (nI Ilain), .ref Mspots, .ref Msteps, .ref MfromState, .ref MbyWord, .ref Mqueue, .ref MsoundCliff, .ref MsoundLong, .ref MsoundCame, .ref MsoundTold, .ref MsoundUntold, .int (nI Isounds), .int Itime, .ref Mstands, .int IstandMany, .ref Mtally, .ref MhasBox, .ref Mboxes], wI (cy 1) Mstep 960 (Gstep), wI (cy 1) Marg 960 (Garg), wI (cy 1) Mmany 3 (Gmany), wI (cy 1) Mvalues 64 (fa3_2), wI (cy 1) Masks 7 (Gasks)] H → va_D A [wO m0 12 [.ref Mtape, .int (nI Itaped), .int (nI Ifault), .int IfaultPlace, .int (nI Iat), .int (nI Isize), .int Isort, .int Iplace, .int Inumber, .long Iword, .ref MnName, .ref MnStep, .ref MnArg, .ref MnMany, .ref Mstep, .ref Marg, .ref Mmany, .ref Mopen, .ref Mvalues, .ref MnHasForm, .ref MhasForm, .int (nI Iform), .int (nI Iopens), .int (nI InUnits), .int Iunits, .int (nI IownUnits), .int (nI Ideep), .ref Masks, .ref MnLoud, .ref MnCliffAt, .ref MnSnow, .ref MnManAt, .ref MnVoice, .ref MnOn, .ref Mloud, .ref McliffAt, .ref MsnowTold, .ref MmanAt, .ref Mvoice, .ref Mon, .ref MnYes, .ref Myes, .int (nI InWords), .int (nI InCliffs), .int (nI InMen), .int (nI InStates), .int (nI InOns), .int InWind, .int InDraw, .int (nI Iwords), .int (nI Icliffs), .int (nI Imen), .int (nI Istates), .int Ions, .int IwindTold, .int InHasWind, .int InHasDraw, .ref Mnow, .ref Mcry, .ref Msnow, .ref Mecho, .int (nI IcryMany), .int IcallPlace, .int IcallVoice, .int Iwind, .int Ichance, .int (nI IechoMany), .ref Mwere, .int (nI Iacts), .int (nI Iundone), .ref Mlies, .int (nI Ilain), .ref Mspots, .ref Msteps, .ref MfromState, .ref MbyWord, .ref Mqueue, .ref MsoundCliff, .ref MsoundLong, .ref MsoundCame, .ref MsoundTold, .ref MsoundUntold, .int (nI Isounds), .int Itime, .ref Mstands, .int IstandMany, .ref Mtally, .ref MhasBox, .ref Mboxes], wI (cy 1) Mstep 960 (Gstep), wI (cy 1) Marg 960 (Garg), wI (cy 1) Mmany 3 (Gmany), wI (cy 1) Mvalues 64 (fa3_2), wI (cy 1) Masks 7 (Gasks)] → va_S A s.heap H locs → ∀ ls : Array Slot, lv_has ls 4 [(3, .int (nI k2)), (2, .int (nI nn2)), (0, .ref m0), (1, .int (nI wf))] → W p l e (rmk 2 0 0) s m args below meth c H locs 0 0 Q (F0 m 8 ls []) := by
    try clear hP hD hS
    intro zn
    induction zn with
    | zero => intro nn2 k2 i2 fa3_2 _ _ _ _ hz; exact absurd hz (by omega)
    | succ zn ih2 =>
      intro nn2 k2 i2 fa3_2 hf0_2 hf1_2 hf2_2 hf3_2 hmu2 H locs hP hD hS ls hl
      refine lv_iload_n hx hb dX12_worked_8 rfl (lv_at hl 0 rfl) ?_
      refine lv_sipush (v := 320) hx hb dX12_worked_9 (by decide) ?_
      refine lv_iload_n hx hb dX12_worked_12 rfl (lv_at hl 3 rfl) ?_
      refine lv_imul hx hb dX12_worked_13 ?_
      refine lv_topi (fun y_3 hy_3 => ?_)
      obtain rfl : y_3 = nI (320 * wf) := hy_3.trans (pk_mul 320 wf)
      refine lv_aload_n hx hb dX12_worked_14 rfl (lv_at hl 2 rfl) ?_
      refine va_get (D := D) (ci := 12) (v := .ref Mmany) (C := RX12) (T := TX12) (N := 89) hx hb hg i_X12 hown hK hP 0 rfl rfl 16 (by decide) (hg _ m_1429) (fun _ h9 => h9) rfl dX12_worked_15 ?_
      refine lv_iload_n hx hb dX12_worked_18 rfl (lv_at hl 3 rfl) ?_
      refine va_iald hx hb hK hP 3 1 rfl rfl (vp_in_nI (by omega) (by decide)) dX12_worked_19 ?_
      refine lv_topi (fun x_4 ex_4 => ?_)
      obtain rfl : x_4 = nI (am wf) := allR_at gal2 hwf ex_4
      refine lv_iadd hx hb dX12_worked_20 ?_
      refine lv_topi (fun y_5 hy_5 => ?_)
      obtain rfl : y_5 = nI ((320 * wf) + (am wf)) := hy_5.trans (nI_add ((320 * wf)) ((am wf)))
      refine lv_icmp_ge (tgt := 164) hx hb dX12_worked_21 (by decide) (fun c_6 => ?_) (fun c_6 => ?_)
      · have q_7 : ((320 * wf) + (am wf)) ≤ k2 := q_le (a := ((320 * wf) + (am wf))) (b := k2) rfl rfl (by omega) (by omega) c_6
        refine lv_aload_n hx hb dX12_worked_164 rfl (lv_at hl 2 rfl) ?_
        refine va_get (D := D) (ci := 12) (v := .ref Mvalues) (C := RX12) (T := TX12) (N := 89) hx hb hg i_X12 hown hK hP 0 rfl rfl 18 (by decide) (hg _ m_1431) (fun _ h9 => h9) rfl dX12_worked_165 ?_
        refine lv_iconst (v := 0) hx hb dX12_worked_168 (by decide) ?_
        refine va_iald hx hb hK hP 4 1 rfl rfl (by unfold vp_in; decide) dX12_worked_169 ?_
        refine lv_topi (fun x_8 ex_8 => ?_)
        exact x_iret hQ hx hb hr hlocks hK hP hD hS dX12_worked_170 fa3_2 ((show 1 ≤ am wf → (x_8 : Int32) = (evM Gstep Garg Gasks (320 * wf) (am wf)).getLastD 0 from (fun h9 => by have h8 := hf3_2; rw [show i2 = am wf by omega] at h8; have h7 := rpn_1 (gal2 wf (by omega)).2.2 (am wf - 1) (by omega); rw [show am wf - 1 + 1 = am wf by omega] at h7; exact wk_end (by rw [hf1_2, show i2 = am wf by omega]; exact h7) h8 ex_8))) [0, 1, 2, 3, 4, 5] (by decide +kernel) rfl (Nat.le_of_ble_eq_true rfl) (Nat.le_of_ble_eq_true rfl)
      · have q_7 : k2 < ((320 * wf) + (am wf)) := q_nle (a := ((320 * wf) + (am wf))) (b := k2) rfl rfl (by omega) (by omega) c_6
        subst hf0_2
        have hrp := (gal2 wf (by omega)).2.2.2 i2 (by omega)
        obtain ⟨hr60, hrp⟩ := hrp
        rcases hrp with ⟨hst, hhn⟩ | ⟨hst, hhn, ja, hja, eja⟩ | ⟨hst, hhn, hh1⟩ | ⟨hst, hhn, hh1⟩
        · refine lv_aload_n hx hb dX12_worked_24 rfl (lv_at hl 2 rfl) ?_
          refine va_get (D := D) (ci := 12) (v := .ref Mstep) (C := RX12) (T := TX12) (N := 89) hx hb hg i_X12 hown hK hP 0 rfl rfl 14 (by decide) (hg _ m_1427) (fun _ h9 => h9) rfl dX12_worked_25 ?_
          refine lv_iload_n hx hb dX12_worked_28 rfl (lv_at hl 0 rfl) ?_
          refine va_iald hx hb hK hP 1 1 rfl rfl (vp_in_nI (by omega) (by decide)) dX12_worked_29 ?_
          refine lv_topi (fun x_9 ex_9 => ?_)
          obtain rfl : x_9 = 0 := ex_9.trans (by rw [nI_clamp (by omega)]; exact hst)
          refine lv_if_eq (tgt := 43) hx hb dX12_worked_30 (by decide) (fun _ => ?_) (fun h => absurd (by decide) h)
          refine lv_aload_n hx hb dX12_worked_43 rfl (lv_at hl 2 rfl) ?_
          refine va_get (D := D) (ci := 12) (v := .ref Mvalues) (C := RX12) (T := TX12) (N := 89) hx hb hg i_X12 hown hK hP 0 rfl rfl 18 (by decide) (hg _ m_1431) (fun _ h9 => h9) rfl dX12_worked_44 ?_
          refine lv_iload_n hx hb dX12_worked_47 rfl (lv_at hl 1 rfl) ?_
          refine lv_aload_n hx hb dX12_worked_48 rfl (lv_at hl 2 rfl) ?_
          refine va_get (D := D) (ci := 12) (v := .ref Mstep) (C := RX12) (T := TX12) (N := 89) hx hb hg i_X12 hown hK hP 0 rfl rfl 14 (by decide) (hg _ m_1427) (fun _ h9 => h9) rfl dX12_worked_49 ?_
          refine lv_iload_n hx hb dX12_worked_52 rfl (lv_at hl 0 rfl) ?_
          refine va_iald hx hb hK hP 1 1 rfl rfl (vp_in_nI (by omega) (by decide)) dX12_worked_53 ?_
          refine lv_topi (fun x_10 ex_10 => ?_)
          obtain rfl : x_10 = 0 := ex_10.trans (by rw [nI_clamp (by omega)]; exact hst)
          refine lv_if_ne (tgt := 66) hx hb dX12_worked_54 (by decide) (fun h => absurd (by decide) h) (fun _ => ?_)
          refine lv_aload_n hx hb dX12_worked_57 rfl (lv_at hl 2 rfl) ?_
          refine va_get (D := D) (ci := 12) (v := .ref Marg) (C := RX12) (T := TX12) (N := 89) hx hb hg i_X12 hown hK hP 0 rfl rfl 15 (by decide) (hg _ m_1428) (fun _ h9 => h9) rfl dX12_worked_58 ?_
          refine lv_iload_n hx hb dX12_worked_61 rfl (lv_at hl 0 rfl) ?_
          refine va_iald hx hb hK hP 2 1 rfl rfl (vp_in_nI (by omega) (by decide)) dX12_worked_62 ?_
          refine lv_topi (fun x_11 ex_11 => ?_)
          refine lv_goto (tgt := 77) hx hb dX12_worked_63 (by decide) ?_
          refine va_iast hx hb hK hP hD hS 4 1 rfl rfl (vp_in_nI (by omega) (by decide)) dX12_worked_77 (fun H locs hP9 hD9 hS9 => ?_)
          clear hP hD hS
          obtain ⟨g_12, eg_12⟩ : ∃ y, upd fa3_2 (nI nn2 : Int32).toNatClampNeg x_11 = y := ⟨_, rfl⟩
          rw [eg_12] at hP9 hD9
          refine reW [wO m0 12 [.ref Mtape, .int (nI Itaped), .int (nI Ifault), .int IfaultPlace, .int (nI Iat), .int (nI Isize), .int Isort, .int Iplace, .int Inumber, .long Iword, .ref MnName, .ref MnStep, .ref MnArg, .ref MnMany, .ref Mstep, .ref Marg, .ref Mmany, .ref Mopen, .ref Mvalues, .ref MnHasForm, .ref MhasForm, .int (nI Iform), .int (nI Iopens), .int (nI InUnits), .int Iunits, .int (nI IownUnits), .int (nI Ideep), .ref Masks, .ref MnLoud, .ref MnCliffAt, .ref MnSnow, .ref MnManAt, .ref MnVoice, .ref MnOn, .ref Mloud, .ref McliffAt, .ref MsnowTold, .ref MmanAt, .ref Mvoice, .ref Mon, .ref MnYes, .ref Myes, .int (nI InWords), .int (nI InCliffs), .int (nI InMen), .int (nI InStates), .int (nI InOns), .int InWind, .int InDraw, .int (nI Iwords), .int (nI Icliffs), .int (nI Imen), .int (nI Istates), .int Ions, .int IwindTold, .int InHasWind, .int InHasDraw, .ref Mnow, .ref Mcry, .ref Msnow, .ref Mecho, .int (nI IcryMany), .int IcallPlace, .int IcallVoice, .int Iwind, .int Ichance, .int (nI IechoMany), .ref Mwere, .int (nI Iacts), .int (nI Iundone), .ref Mlies, .int (nI Ilain), .ref Mspots, .ref Msteps, .ref MfromState, .ref MbyWord, .ref Mqueue, .ref MsoundCliff, .ref MsoundLong, .ref MsoundCame, .ref MsoundTold, .ref MsoundUntold, .int (nI Isounds), .int Itime, .ref Mstands, .int IstandMany, .ref Mtally, .ref MhasBox, .ref Mboxes], wI (cy 1) Mstep 960 (Gstep), wI (cy 1) Marg 960 (Garg), wI (cy 1) Mmany 3 (Gmany), wI (cy 1) Mvalues 64 (g_12), wI (cy 1) Masks 7 (Gasks)] hP9 hD9 hS9 (fun hP hD hS => ?_)
          clear hP9 hD9 hS9
          refine lv_iinc (v := nI (nn2 + 1)) (lv' := [(2, .int (nI (nn2 + 1))), (3, .int (nI (320 * wf + i2))), (0, .ref m0), (1, .int (nI wf))]) hx hb dX12_worked_78 hl (k := 1) rfl (nI_add nn2 1) (by decide) rfl (fun ls hl => ?_)
          refine lv_goto (tgt := 158) hx hb dX12_worked_81 (by decide) ?_
          refine lv_iinc (v := nI ((320 * wf + i2) + 1)) (lv' := [(3, .int (nI ((320 * wf + i2) + 1))), (2, .int (nI (nn2 + 1))), (0, .ref m0), (1, .int (nI wf))]) hx hb dX12_worked_158 hl (k := 1) rfl (nI_add ((320 * wf + i2)) 1) (by decide) rfl (fun ls hl => ?_)
          refine lv_goto (tgt := 8) hx hb dX12_worked_161 (by decide) ?_
          exact ih2  ((nn2 + 1)) (((320 * wf + i2) + 1)) (i2 + 1) g_12 (by first | assumption | omega) (by omega) (by first | assumption | omega) (wk_push (by omega) (by omega) hf3_2 hst ex_11 eg_12) (by omega) _ _ (hP.sub [0, 1, 2, 3, 4, 5] rfl) (hD.sub [0, 1, 2, 3, 4, 5] (by decide +kernel) rfl) hS ls (lv_sub hl [0, 1, 2, 3] rfl)
        · refine lv_aload_n hx hb dX12_worked_24 rfl (lv_at hl 2 rfl) ?_
          refine va_get (D := D) (ci := 12) (v := .ref Mstep) (C := RX12) (T := TX12) (N := 89) hx hb hg i_X12 hown hK hP 0 rfl rfl 14 (by decide) (hg _ m_1427) (fun _ h9 => h9) rfl dX12_worked_25 ?_
          refine lv_iload_n hx hb dX12_worked_28 rfl (lv_at hl 0 rfl) ?_
          refine va_iald hx hb hK hP 1 1 rfl rfl (vp_in_nI (by omega) (by decide)) dX12_worked_29 ?_
          refine lv_topi (fun x_13 ex_13 => ?_)
          obtain rfl : x_13 = 1 := ex_13.trans (by rw [nI_clamp (by omega)]; exact hst)
          refine lv_if_eq (tgt := 43) hx hb dX12_worked_30 (by decide) (fun h => absurd h (by decide)) (fun _ => ?_)
          refine lv_aload_n hx hb dX12_worked_33 rfl (lv_at hl 2 rfl) ?_
          refine va_get (D := D) (ci := 12) (v := .ref Mstep) (C := RX12) (T := TX12) (N := 89) hx hb hg i_X12 hown hK hP 0 rfl rfl 14 (by decide) (hg _ m_1427) (fun _ h9 => h9) rfl dX12_worked_34 ?_
          refine lv_iload_n hx hb dX12_worked_37 rfl (lv_at hl 0 rfl) ?_
          refine va_iald hx hb hK hP 1 1 rfl rfl (vp_in_nI (by omega) (by decide)) dX12_worked_38 ?_
          refine lv_topi (fun x_14 ex_14 => ?_)
          obtain rfl : x_14 = 1 := ex_14.trans (by rw [nI_clamp (by omega)]; exact hst)
          refine lv_iconst (v := 1) hx hb dX12_worked_39 (by decide) ?_
          refine lv_icmp_ne (tgt := 84) hx hb dX12_worked_40 (by decide) (fun h => absurd (by decide) h) (fun _ => ?_)
          refine lv_aload_n hx hb dX12_worked_43 rfl (lv_at hl 2 rfl) ?_
          refine va_get (D := D) (ci := 12) (v := .ref Mvalues) (C := RX12) (T := TX12) (N := 89) hx hb hg i_X12 hown hK hP 0 rfl rfl 18 (by decide) (hg _ m_1431) (fun _ h9 => h9) rfl dX12_worked_44 ?_
          refine lv_iload_n hx hb dX12_worked_47 rfl (lv_at hl 1 rfl) ?_
          refine lv_aload_n hx hb dX12_worked_48 rfl (lv_at hl 2 rfl) ?_
          refine va_get (D := D) (ci := 12) (v := .ref Mstep) (C := RX12) (T := TX12) (N := 89) hx hb hg i_X12 hown hK hP 0 rfl rfl 14 (by decide) (hg _ m_1427) (fun _ h9 => h9) rfl dX12_worked_49 ?_
          refine lv_iload_n hx hb dX12_worked_52 rfl (lv_at hl 0 rfl) ?_
          refine va_iald hx hb hK hP 1 1 rfl rfl (vp_in_nI (by omega) (by decide)) dX12_worked_53 ?_
          refine lv_topi (fun x_15 ex_15 => ?_)
          obtain rfl : x_15 = 1 := ex_15.trans (by rw [nI_clamp (by omega)]; exact hst)
          refine lv_if_ne (tgt := 66) hx hb dX12_worked_54 (by decide) (fun _ => ?_) (fun h => absurd h (by decide))
          refine lv_aload_n hx hb dX12_worked_66 rfl (lv_at hl 2 rfl) ?_
          refine va_get (D := D) (ci := 12) (v := .ref Masks) (C := RX12) (T := TX12) (N := 89) hx hb hg i_X12 hown hK hP 0 rfl rfl 27 (by decide) (hg _ m_1440) (fun _ h9 => h9) rfl dX12_worked_67 ?_
          refine lv_aload_n hx hb dX12_worked_70 rfl (lv_at hl 2 rfl) ?_
          refine va_get (D := D) (ci := 12) (v := .ref Marg) (C := RX12) (T := TX12) (N := 89) hx hb hg i_X12 hown hK hP 0 rfl rfl 15 (by decide) (hg _ m_1428) (fun _ h9 => h9) rfl dX12_worked_71 ?_
          refine lv_iload_n hx hb dX12_worked_74 rfl (lv_at hl 0 rfl) ?_
          refine va_iald hx hb hK hP 2 1 rfl rfl (vp_in_nI (by omega) (by decide)) dX12_worked_75 ?_
          refine lv_topi (fun x_16 ex_16 => ?_)
          obtain rfl : x_16 = nI ja := ex_16.trans (by rw [nI_clamp (by omega)]; exact eja)
          refine va_iald hx hb hK hP 5 1 rfl rfl (vp_in_nI (by omega) (by decide)) dX12_worked_76 ?_
          refine lv_topi (fun x_17 ex_17 => ?_)
          refine va_iast hx hb hK hP hD hS 4 1 rfl rfl (vp_in_nI (by omega) (by decide)) dX12_worked_77 (fun H locs hP9 hD9 hS9 => ?_)
          clear hP hD hS
          obtain ⟨g_18, eg_18⟩ : ∃ y, upd fa3_2 (nI nn2 : Int32).toNatClampNeg x_17 = y := ⟨_, rfl⟩
          rw [eg_18] at hP9 hD9
          refine reW [wO m0 12 [.ref Mtape, .int (nI Itaped), .int (nI Ifault), .int IfaultPlace, .int (nI Iat), .int (nI Isize), .int Isort, .int Iplace, .int Inumber, .long Iword, .ref MnName, .ref MnStep, .ref MnArg, .ref MnMany, .ref Mstep, .ref Marg, .ref Mmany, .ref Mopen, .ref Mvalues, .ref MnHasForm, .ref MhasForm, .int (nI Iform), .int (nI Iopens), .int (nI InUnits), .int Iunits, .int (nI IownUnits), .int (nI Ideep), .ref Masks, .ref MnLoud, .ref MnCliffAt, .ref MnSnow, .ref MnManAt, .ref MnVoice, .ref MnOn, .ref Mloud, .ref McliffAt, .ref MsnowTold, .ref MmanAt, .ref Mvoice, .ref Mon, .ref MnYes, .ref Myes, .int (nI InWords), .int (nI InCliffs), .int (nI InMen), .int (nI InStates), .int (nI InOns), .int InWind, .int InDraw, .int (nI Iwords), .int (nI Icliffs), .int (nI Imen), .int (nI Istates), .int Ions, .int IwindTold, .int InHasWind, .int InHasDraw, .ref Mnow, .ref Mcry, .ref Msnow, .ref Mecho, .int (nI IcryMany), .int IcallPlace, .int IcallVoice, .int Iwind, .int Ichance, .int (nI IechoMany), .ref Mwere, .int (nI Iacts), .int (nI Iundone), .ref Mlies, .int (nI Ilain), .ref Mspots, .ref Msteps, .ref MfromState, .ref MbyWord, .ref Mqueue, .ref MsoundCliff, .ref MsoundLong, .ref MsoundCame, .ref MsoundTold, .ref MsoundUntold, .int (nI Isounds), .int Itime, .ref Mstands, .int IstandMany, .ref Mtally, .ref MhasBox, .ref Mboxes], wI (cy 1) Mstep 960 (Gstep), wI (cy 1) Marg 960 (Garg), wI (cy 1) Mmany 3 (Gmany), wI (cy 1) Mvalues 64 (g_18), wI (cy 1) Masks 7 (Gasks)] hP9 hD9 hS9 (fun hP hD hS => ?_)
          clear hP9 hD9 hS9
          refine lv_iinc (v := nI (nn2 + 1)) (lv' := [(2, .int (nI (nn2 + 1))), (3, .int (nI (320 * wf + i2))), (0, .ref m0), (1, .int (nI wf))]) hx hb dX12_worked_78 hl (k := 1) rfl (nI_add nn2 1) (by decide) rfl (fun ls hl => ?_)
          refine lv_goto (tgt := 158) hx hb dX12_worked_81 (by decide) ?_
          refine lv_iinc (v := nI ((320 * wf + i2) + 1)) (lv' := [(3, .int (nI ((320 * wf + i2) + 1))), (2, .int (nI (nn2 + 1))), (0, .ref m0), (1, .int (nI wf))]) hx hb dX12_worked_158 hl (k := 1) rfl (nI_add ((320 * wf + i2)) 1) (by decide) rfl (fun ls hl => ?_)
          refine lv_goto (tgt := 8) hx hb dX12_worked_161 (by decide) ?_
          exact ih2  ((nn2 + 1)) (((320 * wf + i2) + 1)) (i2 + 1) g_18 (by first | assumption | omega) (by omega) (by first | assumption | omega) (wk_ask (by omega) hf3_2 hst eja ex_17 eg_18) (by omega) _ _ (hP.sub [0, 1, 2, 3, 4, 5] rfl) (hD.sub [0, 1, 2, 3, 4, 5] (by decide +kernel) rfl) hS ls (lv_sub hl [0, 1, 2, 3] rfl)
        · refine lv_aload_n hx hb dX12_worked_24 rfl (lv_at hl 2 rfl) ?_
          refine va_get (D := D) (ci := 12) (v := .ref Mstep) (C := RX12) (T := TX12) (N := 89) hx hb hg i_X12 hown hK hP 0 rfl rfl 14 (by decide) (hg _ m_1427) (fun _ h9 => h9) rfl dX12_worked_25 ?_
          refine lv_iload_n hx hb dX12_worked_28 rfl (lv_at hl 0 rfl) ?_
          refine va_iald hx hb hK hP 1 1 rfl rfl (vp_in_nI (by omega) (by decide)) dX12_worked_29 ?_
          refine lv_topi (fun x_19 ex_19 => ?_)
          obtain rfl : x_19 = 2 := ex_19.trans (by rw [nI_clamp (by omega)]; exact hst)
          refine lv_if_eq (tgt := 43) hx hb dX12_worked_30 (by decide) (fun h => absurd h (by decide)) (fun _ => ?_)
          refine lv_aload_n hx hb dX12_worked_33 rfl (lv_at hl 2 rfl) ?_
          refine va_get (D := D) (ci := 12) (v := .ref Mstep) (C := RX12) (T := TX12) (N := 89) hx hb hg i_X12 hown hK hP 0 rfl rfl 14 (by decide) (hg _ m_1427) (fun _ h9 => h9) rfl dX12_worked_34 ?_
          refine lv_iload_n hx hb dX12_worked_37 rfl (lv_at hl 0 rfl) ?_
          refine va_iald hx hb hK hP 1 1 rfl rfl (vp_in_nI (by omega) (by decide)) dX12_worked_38 ?_
          refine lv_topi (fun x_20 ex_20 => ?_)
          obtain rfl : x_20 = 2 := ex_20.trans (by rw [nI_clamp (by omega)]; exact hst)
          refine lv_iconst (v := 1) hx hb dX12_worked_39 (by decide) ?_
          refine lv_icmp_ne (tgt := 84) hx hb dX12_worked_40 (by decide) (fun _ => ?_) (fun h => absurd h (by decide))
          refine lv_aload_n hx hb dX12_worked_84 rfl (lv_at hl 2 rfl) ?_
          refine va_get (D := D) (ci := 12) (v := .ref Mstep) (C := RX12) (T := TX12) (N := 89) hx hb hg i_X12 hown hK hP 0 rfl rfl 14 (by decide) (hg _ m_1427) (fun _ h9 => h9) rfl dX12_worked_85 ?_
          refine lv_iload_n hx hb dX12_worked_88 rfl (lv_at hl 0 rfl) ?_
          refine va_iald hx hb hK hP 1 1 rfl rfl (vp_in_nI (by omega) (by decide)) dX12_worked_89 ?_
          refine lv_topi (fun x_21 ex_21 => ?_)
          obtain rfl : x_21 = 2 := ex_21.trans (by rw [nI_clamp (by omega)]; exact hst)
          refine lv_iconst (v := 2) hx hb dX12_worked_90 (by decide) ?_
          refine lv_icmp_ne (tgt := 124) hx hb dX12_worked_91 (by decide) (fun h => absurd (by decide) h) (fun _ => ?_)
          refine lv_aload_n hx hb dX12_worked_94 rfl (lv_at hl 2 rfl) ?_
          refine va_get (D := D) (ci := 12) (v := .ref Mvalues) (C := RX12) (T := TX12) (N := 89) hx hb hg i_X12 hown hK hP 0 rfl rfl 18 (by decide) (hg _ m_1431) (fun _ h9 => h9) rfl dX12_worked_95 ?_
          refine lv_iload_n hx hb dX12_worked_98 rfl (lv_at hl 1 rfl) ?_
          refine lv_iconst (v := 1) hx hb dX12_worked_99 (by decide) ?_
          refine lv_isub hx hb dX12_worked_100 ?_
          refine lv_topi (fun y_22 hy_22 => ?_)
          obtain rfl : y_22 = nI (nn2 - 1) := hy_22.trans (pk_sub (a := nn2) (b := 1) (by omega))
          refine lv_aload_n hx hb dX12_worked_101 rfl (lv_at hl 2 rfl) ?_
          refine va_get (D := D) (ci := 12) (v := .ref Mvalues) (C := RX12) (T := TX12) (N := 89) hx hb hg i_X12 hown hK hP 0 rfl rfl 18 (by decide) (hg _ m_1431) (fun _ h9 => h9) rfl dX12_worked_102 ?_
          refine lv_iload_n hx hb dX12_worked_105 rfl (lv_at hl 1 rfl) ?_
          refine lv_iconst (v := 1) hx hb dX12_worked_106 (by decide) ?_
          refine lv_isub hx hb dX12_worked_107 ?_
          refine lv_topi (fun y_23 hy_23 => ?_)
          obtain rfl : y_23 = nI (nn2 - 1) := hy_23.trans (pk_sub (a := nn2) (b := 1) (by omega))
          refine va_iald hx hb hK hP 4 1 rfl rfl (vp_in_nI (by omega) (by decide)) dX12_worked_108 ?_
          refine lv_topi (fun x_24 ex_24 => ?_)
          refine lv_if_ne (tgt := 116) hx hb dX12_worked_109 (by decide) (fun c_109 => ?_) (fun c_109 => ?_)
          · refine lv_iconst (v := 0) hx hb dX12_worked_116 (by decide) ?_
            refine x_callSi (wr := [wO m0 12 [.ref Mtape, .int (nI Itaped), .int (nI Ifault), .int IfaultPlace, .int (nI Iat), .int (nI Isize), .int Isort, .int Iplace, .int Inumber, .long Iword, .ref MnName, .ref MnStep, .ref MnArg, .ref MnMany, .ref Mstep, .ref Marg, .ref Mmany, .ref Mopen, .ref Mvalues, .ref MnHasForm, .ref MhasForm, .int (nI Iform), .int (nI Iopens), .int (nI InUnits), .int Iunits, .int (nI IownUnits), .int (nI Ideep), .ref Masks, .ref MnLoud, .ref MnCliffAt, .ref MnSnow, .ref MnManAt, .ref MnVoice, .ref MnOn, .ref Mloud, .ref McliffAt, .ref MsnowTold, .ref MmanAt, .ref Mvoice, .ref Mon, .ref MnYes, .ref Myes, .int (nI InWords), .int (nI InCliffs), .int (nI InMen), .int (nI InStates), .int (nI InOns), .int InWind, .int InDraw, .int (nI Iwords), .int (nI Icliffs), .int (nI Imen), .int (nI Istates), .int Ions, .int IwindTold, .int InHasWind, .int InHasDraw, .ref Mnow, .ref Mcry, .ref Msnow, .ref Mecho, .int (nI IcryMany), .int IcallPlace, .int IcallVoice, .int Iwind, .int Ichance, .int (nI IechoMany), .ref Mwere, .int (nI Iacts), .int (nI Iundone), .ref Mlies, .int (nI Ilain), .ref Mspots, .ref Msteps, .ref MfromState, .ref MbyWord, .ref Mqueue, .ref MsoundCliff, .ref MsoundLong, .ref MsoundCame, .ref MsoundTold, .ref MsoundUntold, .int (nI Isounds), .int Itime, .ref Mstands, .int IstandMany, .ref Mtally, .ref MhasBox, .ref Mboxes], wI (cy 1) Mstep 960 (Gstep), wI (cy 1) Marg 960 (Garg), wI (cy 1) Mmany 3 (Gmany), wI (cy 1) Mvalues 64 (fa3_2), wI (cy 1) Masks 7 (Gasks)]) (rest := [.int (nI (nn2 - 1)), .ref Mvalues]) ⟨hx, hb, hml, hown, hg, hl.1⟩ k_X12_333 (r_truth l D cy 0) E0_blind hK hP hD hS hA [] [0, 1, 2, 3, 4, 5] ⟨rfl, rfl, by decide +kernel, by decide +kernel, by decide +kernel⟩ (fun _ _ _ => trivial) dX12_worked_117 rfl rfl (Nat.le_of_ble_eq_true rfl) ⟨Nat.le_of_ble_eq_true rfl, Nat.le_of_ble_eq_true rfl⟩ ⟨Nat.le_of_ble_eq_true rfl, Nat.le_of_ble_eq_true rfl⟩ (fun zr25 zu25 H locs hw25 hP9 hD9 hS9 => ?_)
            clear hP hD hS
            obtain ⟨k_26, rfl⟩ : ∃ z, z = zu25 := ⟨_, rfl⟩
            refine reW [wO m0 12 [.ref Mtape, .int (nI Itaped), .int (nI Ifault), .int IfaultPlace, .int (nI Iat), .int (nI Isize), .int Isort, .int Iplace, .int Inumber, .long Iword, .ref MnName, .ref MnStep, .ref MnArg, .ref MnMany, .ref Mstep, .ref Marg, .ref Mmany, .ref Mopen, .ref Mvalues, .ref MnHasForm, .ref MhasForm, .int (nI Iform), .int (nI Iopens), .int (nI InUnits), .int Iunits, .int (nI IownUnits), .int (nI Ideep), .ref Masks, .ref MnLoud, .ref MnCliffAt, .ref MnSnow, .ref MnManAt, .ref MnVoice, .ref MnOn, .ref Mloud, .ref McliffAt, .ref MsnowTold, .ref MmanAt, .ref Mvoice, .ref Mon, .ref MnYes, .ref Myes, .int (nI InWords), .int (nI InCliffs), .int (nI InMen), .int (nI InStates), .int (nI InOns), .int InWind, .int InDraw, .int (nI Iwords), .int (nI Icliffs), .int (nI Imen), .int (nI Istates), .int Ions, .int IwindTold, .int InHasWind, .int InHasDraw, .ref Mnow, .ref Mcry, .ref Msnow, .ref Mecho, .int (nI IcryMany), .int IcallPlace, .int IcallVoice, .int Iwind, .int Ichance, .int (nI IechoMany), .ref Mwere, .int (nI Iacts), .int (nI Iundone), .ref Mlies, .int (nI Ilain), .ref Mspots, .ref Msteps, .ref MfromState, .ref MbyWord, .ref Mqueue, .ref MsoundCliff, .ref MsoundLong, .ref MsoundCame, .ref MsoundTold, .ref MsoundUntold, .int (nI Isounds), .int Itime, .ref Mstands, .int IstandMany, .ref Mtally, .ref MhasBox, .ref Mboxes], wI (cy 1) Mstep 960 (Gstep), wI (cy 1) Marg 960 (Garg), wI (cy 1) Mmany 3 (Gmany), wI (cy 1) Mvalues 64 (fa3_2), wI (cy 1) Masks 7 (Gasks)] hP9 hD9 hS9 (fun hP hD hS => ?_)
            clear hP9 hD9 hS9
            refine W.widen (k := 0) (n := 0) (Nat.le_of_ble_eq_true rfl) (Nat.le_of_ble_eq_true rfl) ?_
            change (zr25 = nI k_26) ∧ (k_26 ≤ 1) ∧ (k_26 = tvF (0 : Int32)) at hw25
            obtain ⟨f_27, f_28, f_29⟩ := hw25
            subst f_27
            refine va_iast hx hb hK hP hD hS 4 1 rfl rfl (vp_in_nI (by omega) (by decide)) dX12_worked_120 (fun H locs hP9 hD9 hS9 => ?_)
            clear hP hD hS
            obtain ⟨g_30, eg_30⟩ : ∃ y, upd fa3_2 (nI (nn2 - 1) : Int32).toNatClampNeg (nI k_26) = y := ⟨_, rfl⟩
            rw [eg_30] at hP9 hD9
            refine reW [wO m0 12 [.ref Mtape, .int (nI Itaped), .int (nI Ifault), .int IfaultPlace, .int (nI Iat), .int (nI Isize), .int Isort, .int Iplace, .int Inumber, .long Iword, .ref MnName, .ref MnStep, .ref MnArg, .ref MnMany, .ref Mstep, .ref Marg, .ref Mmany, .ref Mopen, .ref Mvalues, .ref MnHasForm, .ref MhasForm, .int (nI Iform), .int (nI Iopens), .int (nI InUnits), .int Iunits, .int (nI IownUnits), .int (nI Ideep), .ref Masks, .ref MnLoud, .ref MnCliffAt, .ref MnSnow, .ref MnManAt, .ref MnVoice, .ref MnOn, .ref Mloud, .ref McliffAt, .ref MsnowTold, .ref MmanAt, .ref Mvoice, .ref Mon, .ref MnYes, .ref Myes, .int (nI InWords), .int (nI InCliffs), .int (nI InMen), .int (nI InStates), .int (nI InOns), .int InWind, .int InDraw, .int (nI Iwords), .int (nI Icliffs), .int (nI Imen), .int (nI Istates), .int Ions, .int IwindTold, .int InHasWind, .int InHasDraw, .ref Mnow, .ref Mcry, .ref Msnow, .ref Mecho, .int (nI IcryMany), .int IcallPlace, .int IcallVoice, .int Iwind, .int Ichance, .int (nI IechoMany), .ref Mwere, .int (nI Iacts), .int (nI Iundone), .ref Mlies, .int (nI Ilain), .ref Mspots, .ref Msteps, .ref MfromState, .ref MbyWord, .ref Mqueue, .ref MsoundCliff, .ref MsoundLong, .ref MsoundCame, .ref MsoundTold, .ref MsoundUntold, .int (nI Isounds), .int Itime, .ref Mstands, .int IstandMany, .ref Mtally, .ref MhasBox, .ref Mboxes], wI (cy 1) Mstep 960 (Gstep), wI (cy 1) Marg 960 (Garg), wI (cy 1) Mmany 3 (Gmany), wI (cy 1) Mvalues 64 (g_30), wI (cy 1) Masks 7 (Gasks)] hP9 hD9 hS9 (fun hP hD hS => ?_)
            clear hP9 hD9 hS9
            refine lv_goto (tgt := 158) hx hb dX12_worked_121 (by decide) ?_
            refine lv_iinc (v := nI ((320 * wf + i2) + 1)) (lv' := [(3, .int (nI ((320 * wf + i2) + 1))), (2, .int (nI nn2)), (0, .ref m0), (1, .int (nI wf))]) hx hb dX12_worked_158 hl (k := 0) rfl (nI_add ((320 * wf + i2)) 1) (by decide) rfl (fun ls hl => ?_)
            refine lv_goto (tgt := 8) hx hb dX12_worked_161 (by decide) ?_
            exact ih2  nn2 (((320 * wf + i2) + 1)) (i2 + 1) g_30 (by first | assumption | omega) (by omega) (by first | assumption | omega) (wk_not (by omega) (by omega) hf3_2 hst ex_24 (by rw [f_29, tv0]; exact (if_neg c_109).symm) eg_30) (by omega) _ _ (hP.sub [0, 1, 2, 3, 4, 5] rfl) (hD.sub [0, 1, 2, 3, 4, 5] (by decide +kernel) rfl) hS ls (lv_sub hl [0, 1, 2, 3] rfl)
          · refine lv_iconst (v := 1) hx hb dX12_worked_112 (by decide) ?_
            refine lv_goto (tgt := 117) hx hb dX12_worked_113 (by decide) ?_
            refine x_callSi (wr := [wO m0 12 [.ref Mtape, .int (nI Itaped), .int (nI Ifault), .int IfaultPlace, .int (nI Iat), .int (nI Isize), .int Isort, .int Iplace, .int Inumber, .long Iword, .ref MnName, .ref MnStep, .ref MnArg, .ref MnMany, .ref Mstep, .ref Marg, .ref Mmany, .ref Mopen, .ref Mvalues, .ref MnHasForm, .ref MhasForm, .int (nI Iform), .int (nI Iopens), .int (nI InUnits), .int Iunits, .int (nI IownUnits), .int (nI Ideep), .ref Masks, .ref MnLoud, .ref MnCliffAt, .ref MnSnow, .ref MnManAt, .ref MnVoice, .ref MnOn, .ref Mloud, .ref McliffAt, .ref MsnowTold, .ref MmanAt, .ref Mvoice, .ref Mon, .ref MnYes, .ref Myes, .int (nI InWords), .int (nI InCliffs), .int (nI InMen), .int (nI InStates), .int (nI InOns), .int InWind, .int InDraw, .int (nI Iwords), .int (nI Icliffs), .int (nI Imen), .int (nI Istates), .int Ions, .int IwindTold, .int InHasWind, .int InHasDraw, .ref Mnow, .ref Mcry, .ref Msnow, .ref Mecho, .int (nI IcryMany), .int IcallPlace, .int IcallVoice, .int Iwind, .int Ichance, .int (nI IechoMany), .ref Mwere, .int (nI Iacts), .int (nI Iundone), .ref Mlies, .int (nI Ilain), .ref Mspots, .ref Msteps, .ref MfromState, .ref MbyWord, .ref Mqueue, .ref MsoundCliff, .ref MsoundLong, .ref MsoundCame, .ref MsoundTold, .ref MsoundUntold, .int (nI Isounds), .int Itime, .ref Mstands, .int IstandMany, .ref Mtally, .ref MhasBox, .ref Mboxes], wI (cy 1) Mstep 960 (Gstep), wI (cy 1) Marg 960 (Garg), wI (cy 1) Mmany 3 (Gmany), wI (cy 1) Mvalues 64 (fa3_2), wI (cy 1) Masks 7 (Gasks)]) (rest := [.int (nI (nn2 - 1)), .ref Mvalues]) ⟨hx, hb, hml, hown, hg, hl.1⟩ k_X12_333 (r_truth l D cy 1) E0_blind hK hP hD hS hA [] [0, 1, 2, 3, 4, 5] ⟨rfl, rfl, by decide +kernel, by decide +kernel, by decide +kernel⟩ (fun _ _ _ => trivial) dX12_worked_117 rfl rfl (Nat.le_of_ble_eq_true rfl) ⟨Nat.le_of_ble_eq_true rfl, Nat.le_of_ble_eq_true rfl⟩ ⟨Nat.le_of_ble_eq_true rfl, Nat.le_of_ble_eq_true rfl⟩ (fun zr31 zu31 H locs hw31 hP9 hD9 hS9 => ?_)
            clear hP hD hS
            obtain ⟨k_32, rfl⟩ : ∃ z, z = zu31 := ⟨_, rfl⟩
            refine reW [wO m0 12 [.ref Mtape, .int (nI Itaped), .int (nI Ifault), .int IfaultPlace, .int (nI Iat), .int (nI Isize), .int Isort, .int Iplace, .int Inumber, .long Iword, .ref MnName, .ref MnStep, .ref MnArg, .ref MnMany, .ref Mstep, .ref Marg, .ref Mmany, .ref Mopen, .ref Mvalues, .ref MnHasForm, .ref MhasForm, .int (nI Iform), .int (nI Iopens), .int (nI InUnits), .int Iunits, .int (nI IownUnits), .int (nI Ideep), .ref Masks, .ref MnLoud, .ref MnCliffAt, .ref MnSnow, .ref MnManAt, .ref MnVoice, .ref MnOn, .ref Mloud, .ref McliffAt, .ref MsnowTold, .ref MmanAt, .ref Mvoice, .ref Mon, .ref MnYes, .ref Myes, .int (nI InWords), .int (nI InCliffs), .int (nI InMen), .int (nI InStates), .int (nI InOns), .int InWind, .int InDraw, .int (nI Iwords), .int (nI Icliffs), .int (nI Imen), .int (nI Istates), .int Ions, .int IwindTold, .int InHasWind, .int InHasDraw, .ref Mnow, .ref Mcry, .ref Msnow, .ref Mecho, .int (nI IcryMany), .int IcallPlace, .int IcallVoice, .int Iwind, .int Ichance, .int (nI IechoMany), .ref Mwere, .int (nI Iacts), .int (nI Iundone), .ref Mlies, .int (nI Ilain), .ref Mspots, .ref Msteps, .ref MfromState, .ref MbyWord, .ref Mqueue, .ref MsoundCliff, .ref MsoundLong, .ref MsoundCame, .ref MsoundTold, .ref MsoundUntold, .int (nI Isounds), .int Itime, .ref Mstands, .int IstandMany, .ref Mtally, .ref MhasBox, .ref Mboxes], wI (cy 1) Mstep 960 (Gstep), wI (cy 1) Marg 960 (Garg), wI (cy 1) Mmany 3 (Gmany), wI (cy 1) Mvalues 64 (fa3_2), wI (cy 1) Masks 7 (Gasks)] hP9 hD9 hS9 (fun hP hD hS => ?_)
            clear hP9 hD9 hS9
            refine W.widen (k := 0) (n := 0) (Nat.le_of_ble_eq_true rfl) (Nat.le_of_ble_eq_true rfl) ?_
            change (zr31 = nI k_32) ∧ (k_32 ≤ 1) ∧ (k_32 = tvF (1 : Int32)) at hw31
            obtain ⟨f_33, f_34, f_35⟩ := hw31
            subst f_33
            refine va_iast hx hb hK hP hD hS 4 1 rfl rfl (vp_in_nI (by omega) (by decide)) dX12_worked_120 (fun H locs hP9 hD9 hS9 => ?_)
            clear hP hD hS
            obtain ⟨g_36, eg_36⟩ : ∃ y, upd fa3_2 (nI (nn2 - 1) : Int32).toNatClampNeg (nI k_32) = y := ⟨_, rfl⟩
            rw [eg_36] at hP9 hD9
            refine reW [wO m0 12 [.ref Mtape, .int (nI Itaped), .int (nI Ifault), .int IfaultPlace, .int (nI Iat), .int (nI Isize), .int Isort, .int Iplace, .int Inumber, .long Iword, .ref MnName, .ref MnStep, .ref MnArg, .ref MnMany, .ref Mstep, .ref Marg, .ref Mmany, .ref Mopen, .ref Mvalues, .ref MnHasForm, .ref MhasForm, .int (nI Iform), .int (nI Iopens), .int (nI InUnits), .int Iunits, .int (nI IownUnits), .int (nI Ideep), .ref Masks, .ref MnLoud, .ref MnCliffAt, .ref MnSnow, .ref MnManAt, .ref MnVoice, .ref MnOn, .ref Mloud, .ref McliffAt, .ref MsnowTold, .ref MmanAt, .ref Mvoice, .ref Mon, .ref MnYes, .ref Myes, .int (nI InWords), .int (nI InCliffs), .int (nI InMen), .int (nI InStates), .int (nI InOns), .int InWind, .int InDraw, .int (nI Iwords), .int (nI Icliffs), .int (nI Imen), .int (nI Istates), .int Ions, .int IwindTold, .int InHasWind, .int InHasDraw, .ref Mnow, .ref Mcry, .ref Msnow, .ref Mecho, .int (nI IcryMany), .int IcallPlace, .int IcallVoice, .int Iwind, .int Ichance, .int (nI IechoMany), .ref Mwere, .int (nI Iacts), .int (nI Iundone), .ref Mlies, .int (nI Ilain), .ref Mspots, .ref Msteps, .ref MfromState, .ref MbyWord, .ref Mqueue, .ref MsoundCliff, .ref MsoundLong, .ref MsoundCame, .ref MsoundTold, .ref MsoundUntold, .int (nI Isounds), .int Itime, .ref Mstands, .int IstandMany, .ref Mtally, .ref MhasBox, .ref Mboxes], wI (cy 1) Mstep 960 (Gstep), wI (cy 1) Marg 960 (Garg), wI (cy 1) Mmany 3 (Gmany), wI (cy 1) Mvalues 64 (g_36), wI (cy 1) Masks 7 (Gasks)] hP9 hD9 hS9 (fun hP hD hS => ?_)
            clear hP9 hD9 hS9
            refine lv_goto (tgt := 158) hx hb dX12_worked_121 (by decide) ?_
            refine lv_iinc (v := nI ((320 * wf + i2) + 1)) (lv' := [(3, .int (nI ((320 * wf + i2) + 1))), (2, .int (nI nn2)), (0, .ref m0), (1, .int (nI wf))]) hx hb dX12_worked_158 hl (k := 0) rfl (nI_add ((320 * wf + i2)) 1) (by decide) rfl (fun ls hl => ?_)
            refine lv_goto (tgt := 8) hx hb dX12_worked_161 (by decide) ?_
            exact ih2  nn2 (((320 * wf + i2) + 1)) (i2 + 1) g_36 (by first | assumption | omega) (by omega) (by first | assumption | omega) (wk_not (by omega) (by omega) hf3_2 hst ex_24 (by rw [f_35, tv1]; exact (if_pos c_109).symm) eg_36) (by omega) _ _ (hP.sub [0, 1, 2, 3, 4, 5] rfl) (hD.sub [0, 1, 2, 3, 4, 5] (by decide +kernel) rfl) hS ls (lv_sub hl [0, 1, 2, 3] rfl)
        · refine lv_aload_n hx hb dX12_worked_24 rfl (lv_at hl 2 rfl) ?_
          refine va_get (D := D) (ci := 12) (v := .ref Mstep) (C := RX12) (T := TX12) (N := 89) hx hb hg i_X12 hown hK hP 0 rfl rfl 14 (by decide) (hg _ m_1427) (fun _ h9 => h9) rfl dX12_worked_25 ?_
          refine lv_iload_n hx hb dX12_worked_28 rfl (lv_at hl 0 rfl) ?_
          refine va_iald hx hb hK hP 1 1 rfl rfl (vp_in_nI (by omega) (by decide)) dX12_worked_29 ?_
          refine lv_topi (fun x_37 ex_37 => ?_)
          obtain rfl : x_37 = 3 := ex_37.trans (by rw [nI_clamp (by omega)]; exact hst)
          refine lv_if_eq (tgt := 43) hx hb dX12_worked_30 (by decide) (fun h => absurd h (by decide)) (fun _ => ?_)
          refine lv_aload_n hx hb dX12_worked_33 rfl (lv_at hl 2 rfl) ?_
          refine va_get (D := D) (ci := 12) (v := .ref Mstep) (C := RX12) (T := TX12) (N := 89) hx hb hg i_X12 hown hK hP 0 rfl rfl 14 (by decide) (hg _ m_1427) (fun _ h9 => h9) rfl dX12_worked_34 ?_
          refine lv_iload_n hx hb dX12_worked_37 rfl (lv_at hl 0 rfl) ?_
          refine va_iald hx hb hK hP 1 1 rfl rfl (vp_in_nI (by omega) (by decide)) dX12_worked_38 ?_
          refine lv_topi (fun x_38 ex_38 => ?_)
          obtain rfl : x_38 = 3 := ex_38.trans (by rw [nI_clamp (by omega)]; exact hst)
          refine lv_iconst (v := 1) hx hb dX12_worked_39 (by decide) ?_
          refine lv_icmp_ne (tgt := 84) hx hb dX12_worked_40 (by decide) (fun _ => ?_) (fun h => absurd h (by decide))
          refine lv_aload_n hx hb dX12_worked_84 rfl (lv_at hl 2 rfl) ?_
          refine va_get (D := D) (ci := 12) (v := .ref Mstep) (C := RX12) (T := TX12) (N := 89) hx hb hg i_X12 hown hK hP 0 rfl rfl 14 (by decide) (hg _ m_1427) (fun _ h9 => h9) rfl dX12_worked_85 ?_
          refine lv_iload_n hx hb dX12_worked_88 rfl (lv_at hl 0 rfl) ?_
          refine va_iald hx hb hK hP 1 1 rfl rfl (vp_in_nI (by omega) (by decide)) dX12_worked_89 ?_
          refine lv_topi (fun x_39 ex_39 => ?_)
          obtain rfl : x_39 = 3 := ex_39.trans (by rw [nI_clamp (by omega)]; exact hst)
          refine lv_iconst (v := 2) hx hb dX12_worked_90 (by decide) ?_
          refine lv_icmp_ne (tgt := 124) hx hb dX12_worked_91 (by decide) (fun _ => ?_) (fun h => absurd h (by decide))
          refine lv_iinc (v := nI (nn2 - 1)) (lv' := [(2, .int (nI (nn2 - 1))), (3, .int (nI (320 * wf + i2))), (0, .ref m0), (1, .int (nI wf))]) hx hb dX12_worked_124 hl (k := 1) rfl (sb_m1 (by omega)) (by decide) rfl (fun ls hl => ?_)
          refine lv_aload_n hx hb dX12_worked_127 rfl (lv_at hl 2 rfl) ?_
          refine va_get (D := D) (ci := 12) (v := .ref Mvalues) (C := RX12) (T := TX12) (N := 89) hx hb hg i_X12 hown hK hP 0 rfl rfl 18 (by decide) (hg _ m_1431) (fun _ h9 => h9) rfl dX12_worked_128 ?_
          refine lv_iload_n hx hb dX12_worked_131 rfl (lv_at hl 0 rfl) ?_
          refine lv_iconst (v := 1) hx hb dX12_worked_132 (by decide) ?_
          refine lv_isub hx hb dX12_worked_133 ?_
          refine lv_topi (fun y_40 hy_40 => ?_)
          obtain rfl : y_40 = nI ((nn2 - 1) - 1) := hy_40.trans (pk_sub (a := (nn2 - 1)) (b := 1) (by omega))
          refine lv_aload_n hx hb dX12_worked_134 rfl (lv_at hl 2 rfl) ?_
          refine va_get (D := D) (ci := 12) (v := .ref Marg) (C := RX12) (T := TX12) (N := 89) hx hb hg i_X12 hown hK hP 0 rfl rfl 15 (by decide) (hg _ m_1428) (fun _ h9 => h9) rfl dX12_worked_135 ?_
          refine lv_iload_n hx hb dX12_worked_138 rfl (lv_at hl 1 rfl) ?_
          refine va_iald hx hb hK hP 2 1 rfl rfl (vp_in_nI (by omega) (by decide)) dX12_worked_139 ?_
          refine lv_topi (fun x_41 ex_41 => ?_)
          refine lv_aload_n hx hb dX12_worked_140 rfl (lv_at hl 2 rfl) ?_
          refine va_get (D := D) (ci := 12) (v := .ref Mvalues) (C := RX12) (T := TX12) (N := 89) hx hb hg i_X12 hown hK hP 0 rfl rfl 18 (by decide) (hg _ m_1431) (fun _ h9 => h9) rfl dX12_worked_141 ?_
          refine lv_iload_n hx hb dX12_worked_144 rfl (lv_at hl 0 rfl) ?_
          refine lv_iconst (v := 1) hx hb dX12_worked_145 (by decide) ?_
          refine lv_isub hx hb dX12_worked_146 ?_
          refine lv_topi (fun y_42 hy_42 => ?_)
          obtain rfl : y_42 = nI ((nn2 - 1) - 1) := hy_42.trans (pk_sub (a := (nn2 - 1)) (b := 1) (by omega))
          refine va_iald hx hb hK hP 4 1 rfl rfl (vp_in_nI (by omega) (by decide)) dX12_worked_147 ?_
          refine lv_topi (fun x_43 ex_43 => ?_)
          refine lv_aload_n hx hb dX12_worked_148 rfl (lv_at hl 2 rfl) ?_
          refine va_get (D := D) (ci := 12) (v := .ref Mvalues) (C := RX12) (T := TX12) (N := 89) hx hb hg i_X12 hown hK hP 0 rfl rfl 18 (by decide) (hg _ m_1431) (fun _ h9 => h9) rfl dX12_worked_149 ?_
          refine lv_iload_n hx hb dX12_worked_152 rfl (lv_at hl 0 rfl) ?_
          refine va_iald hx hb hK hP 4 1 rfl rfl (vp_in_nI (by omega) (by decide)) dX12_worked_153 ?_
          refine lv_topi (fun x_44 ex_44 => ?_)
          refine x_callSi (wr := [wO m0 12 [.ref Mtape, .int (nI Itaped), .int (nI Ifault), .int IfaultPlace, .int (nI Iat), .int (nI Isize), .int Isort, .int Iplace, .int Inumber, .long Iword, .ref MnName, .ref MnStep, .ref MnArg, .ref MnMany, .ref Mstep, .ref Marg, .ref Mmany, .ref Mopen, .ref Mvalues, .ref MnHasForm, .ref MhasForm, .int (nI Iform), .int (nI Iopens), .int (nI InUnits), .int Iunits, .int (nI IownUnits), .int (nI Ideep), .ref Masks, .ref MnLoud, .ref MnCliffAt, .ref MnSnow, .ref MnManAt, .ref MnVoice, .ref MnOn, .ref Mloud, .ref McliffAt, .ref MsnowTold, .ref MmanAt, .ref Mvoice, .ref Mon, .ref MnYes, .ref Myes, .int (nI InWords), .int (nI InCliffs), .int (nI InMen), .int (nI InStates), .int (nI InOns), .int InWind, .int InDraw, .int (nI Iwords), .int (nI Icliffs), .int (nI Imen), .int (nI Istates), .int Ions, .int IwindTold, .int InHasWind, .int InHasDraw, .ref Mnow, .ref Mcry, .ref Msnow, .ref Mecho, .int (nI IcryMany), .int IcallPlace, .int IcallVoice, .int Iwind, .int Ichance, .int (nI IechoMany), .ref Mwere, .int (nI Iacts), .int (nI Iundone), .ref Mlies, .int (nI Ilain), .ref Mspots, .ref Msteps, .ref MfromState, .ref MbyWord, .ref Mqueue, .ref MsoundCliff, .ref MsoundLong, .ref MsoundCame, .ref MsoundTold, .ref MsoundUntold, .int (nI Isounds), .int Itime, .ref Mstands, .int IstandMany, .ref Mtally, .ref MhasBox, .ref Mboxes], wI (cy 1) Mstep 960 (Gstep), wI (cy 1) Marg 960 (Garg), wI (cy 1) Mmany 3 (Gmany), wI (cy 1) Mvalues 64 (fa3_2), wI (cy 1) Masks 7 (Gasks)]) (rest := [.int (nI ((nn2 - 1) - 1)), .ref Mvalues]) ⟨hx, hb, hml, hown, hg, hl.1⟩ k_X12_337 (r_done l D cy x_41 x_43 x_44) E0_blind hK hP hD hS hA [] [0, 1, 2, 3, 4, 5] ⟨rfl, rfl, by decide +kernel, by decide +kernel, by decide +kernel⟩ (fun _ _ _ => trivial) dX12_worked_154 rfl rfl (Nat.le_of_ble_eq_true rfl) ⟨Nat.le_of_ble_eq_true rfl, Nat.le_of_ble_eq_true rfl⟩ ⟨Nat.le_of_ble_eq_true rfl, Nat.le_of_ble_eq_true rfl⟩ (fun zr45 zu45 H locs hw45 hP9 hD9 hS9 => ?_)
          clear hP hD hS
          refine reW [wO m0 12 [.ref Mtape, .int (nI Itaped), .int (nI Ifault), .int IfaultPlace, .int (nI Iat), .int (nI Isize), .int Isort, .int Iplace, .int Inumber, .long Iword, .ref MnName, .ref MnStep, .ref MnArg, .ref MnMany, .ref Mstep, .ref Marg, .ref Mmany, .ref Mopen, .ref Mvalues, .ref MnHasForm, .ref MhasForm, .int (nI Iform), .int (nI Iopens), .int (nI InUnits), .int Iunits, .int (nI IownUnits), .int (nI Ideep), .ref Masks, .ref MnLoud, .ref MnCliffAt, .ref MnSnow, .ref MnManAt, .ref MnVoice, .ref MnOn, .ref Mloud, .ref McliffAt, .ref MsnowTold, .ref MmanAt, .ref Mvoice, .ref Mon, .ref MnYes, .ref Myes, .int (nI InWords), .int (nI InCliffs), .int (nI InMen), .int (nI InStates), .int (nI InOns), .int InWind, .int InDraw, .int (nI Iwords), .int (nI Icliffs), .int (nI Imen), .int (nI Istates), .int Ions, .int IwindTold, .int InHasWind, .int InHasDraw, .ref Mnow, .ref Mcry, .ref Msnow, .ref Mecho, .int (nI IcryMany), .int IcallPlace, .int IcallVoice, .int Iwind, .int Ichance, .int (nI IechoMany), .ref Mwere, .int (nI Iacts), .int (nI Iundone), .ref Mlies, .int (nI Ilain), .ref Mspots, .ref Msteps, .ref MfromState, .ref MbyWord, .ref Mqueue, .ref MsoundCliff, .ref MsoundLong, .ref MsoundCame, .ref MsoundTold, .ref MsoundUntold, .int (nI Isounds), .int Itime, .ref Mstands, .int IstandMany, .ref Mtally, .ref MhasBox, .ref Mboxes], wI (cy 1) Mstep 960 (Gstep), wI (cy 1) Marg 960 (Garg), wI (cy 1) Mmany 3 (Gmany), wI (cy 1) Mvalues 64 (fa3_2), wI (cy 1) Masks 7 (Gasks)] hP9 hD9 hS9 (fun hP hD hS => ?_)
          clear hP9 hD9 hS9
          refine W.widen (k := 0) (n := 0) (Nat.le_of_ble_eq_true rfl) (Nat.le_of_ble_eq_true rfl) ?_
          change (zr45 = dnR x_41 x_43 x_44) at hw45
          have f_46 := hw45
          refine va_iast hx hb hK hP hD hS 4 1 rfl rfl (vp_in_nI (by omega) (by decide)) dX12_worked_157 (fun H locs hP9 hD9 hS9 => ?_)
          clear hP hD hS
          obtain ⟨g_47, eg_47⟩ : ∃ y, upd fa3_2 (nI ((nn2 - 1) - 1) : Int32).toNatClampNeg zr45 = y := ⟨_, rfl⟩
          rw [eg_47] at hP9 hD9
          refine reW [wO m0 12 [.ref Mtape, .int (nI Itaped), .int (nI Ifault), .int IfaultPlace, .int (nI Iat), .int (nI Isize), .int Isort, .int Iplace, .int Inumber, .long Iword, .ref MnName, .ref MnStep, .ref MnArg, .ref MnMany, .ref Mstep, .ref Marg, .ref Mmany, .ref Mopen, .ref Mvalues, .ref MnHasForm, .ref MhasForm, .int (nI Iform), .int (nI Iopens), .int (nI InUnits), .int Iunits, .int (nI IownUnits), .int (nI Ideep), .ref Masks, .ref MnLoud, .ref MnCliffAt, .ref MnSnow, .ref MnManAt, .ref MnVoice, .ref MnOn, .ref Mloud, .ref McliffAt, .ref MsnowTold, .ref MmanAt, .ref Mvoice, .ref Mon, .ref MnYes, .ref Myes, .int (nI InWords), .int (nI InCliffs), .int (nI InMen), .int (nI InStates), .int (nI InOns), .int InWind, .int InDraw, .int (nI Iwords), .int (nI Icliffs), .int (nI Imen), .int (nI Istates), .int Ions, .int IwindTold, .int InHasWind, .int InHasDraw, .ref Mnow, .ref Mcry, .ref Msnow, .ref Mecho, .int (nI IcryMany), .int IcallPlace, .int IcallVoice, .int Iwind, .int Ichance, .int (nI IechoMany), .ref Mwere, .int (nI Iacts), .int (nI Iundone), .ref Mlies, .int (nI Ilain), .ref Mspots, .ref Msteps, .ref MfromState, .ref MbyWord, .ref Mqueue, .ref MsoundCliff, .ref MsoundLong, .ref MsoundCame, .ref MsoundTold, .ref MsoundUntold, .int (nI Isounds), .int Itime, .ref Mstands, .int IstandMany, .ref Mtally, .ref MhasBox, .ref Mboxes], wI (cy 1) Mstep 960 (Gstep), wI (cy 1) Marg 960 (Garg), wI (cy 1) Mmany 3 (Gmany), wI (cy 1) Mvalues 64 (g_47), wI (cy 1) Masks 7 (Gasks)] hP9 hD9 hS9 (fun hP hD hS => ?_)
          clear hP9 hD9 hS9
          refine lv_iinc (v := nI ((320 * wf + i2) + 1)) (lv' := [(3, .int (nI ((320 * wf + i2) + 1))), (2, .int (nI (nn2 - 1))), (0, .ref m0), (1, .int (nI wf))]) hx hb dX12_worked_158 hl (k := 1) rfl (nI_add ((320 * wf + i2)) 1) (by decide) rfl (fun ls hl => ?_)
          refine lv_goto (tgt := 8) hx hb dX12_worked_161 (by decide) ?_
          exact ih2  ((nn2 - 1)) (((320 * wf + i2) + 1)) (i2 + 1) g_47 (by first | assumption | omega) (by omega) (by first | assumption | omega) (wk_do (by omega) (by omega) (by omega) hf3_2 hst ex_41 ex_43 ex_44 f_46 eg_47) (by omega) _ _ (hP.sub [0, 1, 2, 3, 4, 5] rfl) (hD.sub [0, 1, 2, 3, 4, 5] (by decide +kernel) rfl) hS ls (lv_sub hl [0, 1, 2, 3] rfl)
  exact loop2 _ 0 ((320 * wf)) 0 Gvalues (by first | assumption | omega) ((gal2 wf (by omega)).2.2.1.symm) (by first | assumption | omega) (rfl) (Nat.le_refl _) _ _ (hP.sub [0, 1, 2, 3, 4, 5] rfl) (hD.sub [0, 1, 2, 3, 4, 5] (by decide +kernel) rfl) hS ls (lv_sub hl [0, 1, 2, 3] rfl)
theorem gdX12_loadSky_0 : decode cX12_loadSky 0 = .ok (.aload_n 0, 1) ∧ decode cX12_loadSky 1 = .ok (.aload_n 0, 1) ∧ decode cX12_loadSky 2 = .ok (.getfield 97, 3) ∧ decode cX12_loadSky 5 = .ok (.bipush 22, 2) ∧ decode cX12_loadSky 7 = .ok (.iaload, 1) ∧ decode cX12_loadSky 8 = .ok (.putfield 440, 3) ∧ decode cX12_loadSky 11 = .ok (.aload_n 0, 1) ∧ decode cX12_loadSky 12 = .ok (.iconst 0, 1) ∧ decode cX12_loadSky 13 = .ok (.putfield 443, 3) ∧ decode cX12_loadSky 16 = .ok (.iconst 0, 1) ∧ decode cX12_loadSky 17 = .ok (.istore_n 1, 1) ∧ decode cX12_loadSky 18 = .ok (.iload_n 1, 1) := by decide +kernel
theorem dX12_loadSky_0 : decode cX12_loadSky 0 = .ok (.aload_n 0, 1) := gdX12_loadSky_0.1
theorem dX12_loadSky_1 : decode cX12_loadSky 1 = .ok (.aload_n 0, 1) := gdX12_loadSky_0.2.1
theorem dX12_loadSky_2 : decode cX12_loadSky 2 = .ok (.getfield 97, 3) := gdX12_loadSky_0.2.2.1
theorem dX12_loadSky_5 : decode cX12_loadSky 5 = .ok (.bipush 22, 2) := gdX12_loadSky_0.2.2.2.1
theorem dX12_loadSky_7 : decode cX12_loadSky 7 = .ok (.iaload, 1) := gdX12_loadSky_0.2.2.2.2.1
theorem dX12_loadSky_8 : decode cX12_loadSky 8 = .ok (.putfield 440, 3) := gdX12_loadSky_0.2.2.2.2.2.1
theorem dX12_loadSky_11 : decode cX12_loadSky 11 = .ok (.aload_n 0, 1) := gdX12_loadSky_0.2.2.2.2.2.2.1
theorem dX12_loadSky_12 : decode cX12_loadSky 12 = .ok (.iconst 0, 1) := gdX12_loadSky_0.2.2.2.2.2.2.2.1
theorem dX12_loadSky_13 : decode cX12_loadSky 13 = .ok (.putfield 443, 3) := gdX12_loadSky_0.2.2.2.2.2.2.2.2.1
theorem dX12_loadSky_16 : decode cX12_loadSky 16 = .ok (.iconst 0, 1) := gdX12_loadSky_0.2.2.2.2.2.2.2.2.2.1
theorem dX12_loadSky_17 : decode cX12_loadSky 17 = .ok (.istore_n 1, 1) := gdX12_loadSky_0.2.2.2.2.2.2.2.2.2.2.1
theorem dX12_loadSky_18 : decode cX12_loadSky 18 = .ok (.iload_n 1, 1) := gdX12_loadSky_0.2.2.2.2.2.2.2.2.2.2.2
theorem gdX12_loadSky_19 : decode cX12_loadSky 19 = .ok (.iconst 4, 1) ∧ decode cX12_loadSky 20 = .ok (.if_icmp .ge 24, 3) ∧ decode cX12_loadSky 44 = .ok (.return_, 1) ∧ decode cX12_loadSky 23 = .ok (.aload_n 0, 1) ∧ decode cX12_loadSky 24 = .ok (.getfield 103, 3) ∧ decode cX12_loadSky 27 = .ok (.iload_n 1, 1) ∧ decode cX12_loadSky 28 = .ok (.aload_n 0, 1) ∧ decode cX12_loadSky 29 = .ok (.getfield 97, 3) ∧ decode cX12_loadSky 32 = .ok (.bipush 23, 2) ∧ decode cX12_loadSky 34 = .ok (.iload_n 1, 1) ∧ decode cX12_loadSky 35 = .ok (.iadd, 1) ∧ decode cX12_loadSky 36 = .ok (.iaload, 1) := by decide +kernel
theorem dX12_loadSky_19 : decode cX12_loadSky 19 = .ok (.iconst 4, 1) := gdX12_loadSky_19.1
theorem dX12_loadSky_20 : decode cX12_loadSky 20 = .ok (.if_icmp .ge 24, 3) := gdX12_loadSky_19.2.1
theorem dX12_loadSky_44 : decode cX12_loadSky 44 = .ok (.return_, 1) := gdX12_loadSky_19.2.2.1
theorem dX12_loadSky_23 : decode cX12_loadSky 23 = .ok (.aload_n 0, 1) := gdX12_loadSky_19.2.2.2.1
theorem dX12_loadSky_24 : decode cX12_loadSky 24 = .ok (.getfield 103, 3) := gdX12_loadSky_19.2.2.2.2.1
theorem dX12_loadSky_27 : decode cX12_loadSky 27 = .ok (.iload_n 1, 1) := gdX12_loadSky_19.2.2.2.2.2.1
theorem dX12_loadSky_28 : decode cX12_loadSky 28 = .ok (.aload_n 0, 1) := gdX12_loadSky_19.2.2.2.2.2.2.1
theorem dX12_loadSky_29 : decode cX12_loadSky 29 = .ok (.getfield 97, 3) := gdX12_loadSky_19.2.2.2.2.2.2.2.1
theorem dX12_loadSky_32 : decode cX12_loadSky 32 = .ok (.bipush 23, 2) := gdX12_loadSky_19.2.2.2.2.2.2.2.2.1
theorem dX12_loadSky_34 : decode cX12_loadSky 34 = .ok (.iload_n 1, 1) := gdX12_loadSky_19.2.2.2.2.2.2.2.2.2.1
theorem dX12_loadSky_35 : decode cX12_loadSky 35 = .ok (.iadd, 1) := gdX12_loadSky_19.2.2.2.2.2.2.2.2.2.2.1
theorem dX12_loadSky_36 : decode cX12_loadSky 36 = .ok (.iaload, 1) := gdX12_loadSky_19.2.2.2.2.2.2.2.2.2.2.2
theorem gdX12_loadSky_37 : decode cX12_loadSky 37 = .ok (.iastore, 1) ∧ decode cX12_loadSky 38 = .ok (.iinc 1 1, 3) ∧ decode cX12_loadSky 41 = .ok (.goto (-23), 3) := by decide +kernel
theorem dX12_loadSky_37 : decode cX12_loadSky 37 = .ok (.iastore, 1) := gdX12_loadSky_37.1
theorem dX12_loadSky_38 : decode cX12_loadSky 38 = .ok (.iinc 1 1, 3) := gdX12_loadSky_37.2.1
theorem dX12_loadSky_41 : decode cX12_loadSky 41 = .ok (.goto (-23), 3) := gdX12_loadSky_37.2.2
set_option maxHeartbeats 1000000 in
set_option maxRecDepth 100000 in
theorem r_loadSky (l : Launch) (D : va_G) (cy : Nat → ClassId) (m0 : Nat) (Mtape : Nat) (MnName : Nat) (MnStep : Nat) (MnArg : Nat) (MnMany : Nat) (Mstep : Nat) (Marg : Nat) (Mmany : Nat) (Mopen : Nat) (Mvalues : Nat) (MnHasForm : Nat) (MhasForm : Nat) (Masks : Nat) (MnLoud : Nat) (MnCliffAt : Nat) (MnSnow : Nat) (MnManAt : Nat) (MnVoice : Nat) (MnOn : Nat) (Mloud : Nat) (McliffAt : Nat) (MsnowTold : Nat) (MmanAt : Nat) (Mvoice : Nat) (Mon : Nat) (MnYes : Nat) (Myes : Nat) (Mnow : Nat) (Mcry : Nat) (Msnow : Nat) (Mecho : Nat) (Mwere : Nat) (Mlies : Nat) (Mspots : Nat) (Msteps : Nat) (MfromState : Nat) (MbyWord : Nat) (Mqueue : Nat) (MsoundCliff : Nat) (MsoundLong : Nat) (MsoundCame : Nat) (MsoundTold : Nat) (MsoundUntold : Nat) (Mstands : Nat) (Mtally : Nat) (MhasBox : Nat) (Mboxes : Nat) (Itaped : Nat) (Ifault : Nat) (IfaultPlace : Int32) (Iat : Nat) (Isize : Nat) (Isort : Int32) (Iplace : Int32) (Inumber : Int32) (Iword : Int64) (Iform : Nat) (Iopens : Nat) (InUnits : Nat) (Iunits : Int32) (IownUnits : Nat) (Ideep : Nat) (InWords : Nat) (InCliffs : Nat) (InMen : Nat) (InStates : Nat) (InOns : Nat) (InWind : Int32) (InDraw : Int32) (Iwords : Nat) (Icliffs : Nat) (Imen : Nat) (Istates : Nat) (Ions : Int32) (IwindTold : Int32) (InHasWind : Int32) (InHasDraw : Int32) (Gnow : Nat → Int32) (Gsnow : Nat → Int32) (IcryMany : Nat) (IcallPlace : Int32) (IcallVoice : Int32) (Iwind : Int32) (Ichance : Int32) (IechoMany : Nat) (Iacts : Nat) (Iundone : Nat) (Ilain : Nat) (Isounds : Nat) (Itime : Int32) (IstandMany : Int32) (gtp : Itaped ≤ 1600) (gat : Iat ≤ Isize) (gsz : Isize ≤ 1600) (gfl : Ifault ≤ 5) (gfo : Iform ≤ 2) (gnw : InWords ≤ 8) (gnc : InCliffs ≤ 4) (gnm : InMen ≤ 4) (gns : InStates ≤ 6) (gw : Iwords ≤ 8) (gc9 : Icliffs ≤ 4) (gm : Imen ≤ 4) (gs : Istates ≤ 6) (gcm : IcryMany ≤ 10) (gem : IechoMany ≤ 20) (gau : Iacts + Iundone ≤ 40) (gla : Ilain ≤ 20) (gso : Isounds ≤ 30) (gop : Iopens ≤ 40) (gde : Ideep ≤ 8) (gou : IownUnits ≤ 31) (gnu : InUnits ≤ 61) (gno : InOns ≤ 30) (gnow : wRows Gnow 1) : XMv l D (tyL cy) E0 yX12_loadSky cX12_loadSky 2 none (rmk 0 0 0) [.ref m0] [wO m0 12 [.ref Mtape, .int (nI Itaped), .int (nI Ifault), .int IfaultPlace, .int (nI Iat), .int (nI Isize), .int Isort, .int Iplace, .int Inumber, .long Iword, .ref MnName, .ref MnStep, .ref MnArg, .ref MnMany, .ref Mstep, .ref Marg, .ref Mmany, .ref Mopen, .ref Mvalues, .ref MnHasForm, .ref MhasForm, .int (nI Iform), .int (nI Iopens), .int (nI InUnits), .int Iunits, .int (nI IownUnits), .int (nI Ideep), .ref Masks, .ref MnLoud, .ref MnCliffAt, .ref MnSnow, .ref MnManAt, .ref MnVoice, .ref MnOn, .ref Mloud, .ref McliffAt, .ref MsnowTold, .ref MmanAt, .ref Mvoice, .ref Mon, .ref MnYes, .ref Myes, .int (nI InWords), .int (nI InCliffs), .int (nI InMen), .int (nI InStates), .int (nI InOns), .int InWind, .int InDraw, .int (nI Iwords), .int (nI Icliffs), .int (nI Imen), .int (nI Istates), .int Ions, .int IwindTold, .int InHasWind, .int InHasDraw, .ref Mnow, .ref Mcry, .ref Msnow, .ref Mecho, .int (nI IcryMany), .int IcallPlace, .int IcallVoice, .int Iwind, .int Ichance, .int (nI IechoMany), .ref Mwere, .int (nI Iacts), .int (nI Iundone), .ref Mlies, .int (nI Ilain), .ref Mspots, .ref Msteps, .ref MfromState, .ref MbyWord, .ref Mqueue, .ref MsoundCliff, .ref MsoundLong, .ref MsoundCame, .ref MsoundTold, .ref MsoundUntold, .int (nI Isounds), .int Itime, .ref Mstands, .int IstandMany, .ref Mtally, .ref MhasBox, .ref Mboxes], wI (cy 1) Mnow 42 (Gnow), wI (cy 1) Msnow 4 (Gsnow)] (fun (u : (Nat → Int32) × Int32 × Int32) => (u.2.1 = Gnow 22 ∧ u.2.2 = 0 ∧ ∀ c9, c9 < 4 → u.1 c9 = Gnow (23 + c9))) (fun (u : (Nat → Int32) × Int32 × Int32) => [wO m0 12 [.ref Mtape, .int (nI Itaped), .int (nI Ifault), .int IfaultPlace, .int (nI Iat), .int (nI Isize), .int Isort, .int Iplace, .int Inumber, .long Iword, .ref MnName, .ref MnStep, .ref MnArg, .ref MnMany, .ref Mstep, .ref Marg, .ref Mmany, .ref Mopen, .ref Mvalues, .ref MnHasForm, .ref MhasForm, .int (nI Iform), .int (nI Iopens), .int (nI InUnits), .int Iunits, .int (nI IownUnits), .int (nI Ideep), .ref Masks, .ref MnLoud, .ref MnCliffAt, .ref MnSnow, .ref MnManAt, .ref MnVoice, .ref MnOn, .ref Mloud, .ref McliffAt, .ref MsnowTold, .ref MmanAt, .ref Mvoice, .ref Mon, .ref MnYes, .ref Myes, .int (nI InWords), .int (nI InCliffs), .int (nI InMen), .int (nI InStates), .int (nI InOns), .int InWind, .int InDraw, .int (nI Iwords), .int (nI Icliffs), .int (nI Imen), .int (nI Istates), .int Ions, .int IwindTold, .int InHasWind, .int InHasDraw, .ref Mnow, .ref Mcry, .ref Msnow, .ref Mecho, .int (nI IcryMany), .int IcallPlace, .int IcallVoice, .int u.2.1, .int u.2.2, .int (nI IechoMany), .ref Mwere, .int (nI Iacts), .int (nI Iundone), .ref Mlies, .int (nI Ilain), .ref Mspots, .ref Msteps, .ref MfromState, .ref MbyWord, .ref Mqueue, .ref MsoundCliff, .ref MsoundLong, .ref MsoundCame, .ref MsoundTold, .ref MsoundUntold, .int (nI Isounds), .int Itime, .ref Mstands, .int IstandMany, .ref Mtally, .ref MhasBox, .ref Mboxes], wI (cy 1) Mnow 42 (Gnow), wI (cy 1) Msnow 4 (u.1)]) := by
  refine XMv.start (by decide) (Nat.le_of_ble_eq_true rfl) ?_
  intro p e s m below meth c args A ls Q hat hQ
  obtain ⟨hx, hb, hr, hml, hown, hg, hlocks, hin, hK, hA, hP, hD, hS, hE, hl⟩ := hat
  have hown : s.vm.findClass RX12 = some m.cls := hown
  have hl : lv_has ls 2 [(0, .ref m0)] := hl
  refine lv_aload_n hx hb dX12_loadSky_0 rfl (lv_at hl 0 rfl) ?_
  refine lv_aload_n hx hb dX12_loadSky_1 rfl (lv_at hl 0 rfl) ?_
  refine va_get (D := D) (ci := 12) (v := .ref Mnow) (C := RX12) (T := TX12) (N := 89) hx hb hg i_X12 hown hK hP 0 rfl rfl 57 (by decide) (hg _ m_1470) (fun _ h9 => h9) rfl dX12_loadSky_2 ?_
  refine lv_bipush (v := 22) hx hb dX12_loadSky_5 (by decide) ?_
  refine va_iald hx hb hK hP 1 1 rfl rfl (by unfold vp_in; decide) dX12_loadSky_7 ?_
  refine lv_topi (fun x_1 ex_1 => ?_)
  have hel_2 := wR_at gnow (T := 22) (by decide) (by omega) ex_1
  refine va_put (D := D) (ci := 12) (v := .int x_1) (ty := .int) (C := RX12) (T := TX12) (N := 89) hx hb hg i_X12 tyX12 tyX12_ok nmX12 hown hK hP hD hS 0 rfl rfl 64 (by decide) (hg _ m_1477) (fun _ h9 => h9) rfl (by decide +kernel) rfl rfl (Nat.le_of_ble_eq_true rfl) dX12_loadSky_8 (fun H locs hP9 hD9 hS9 => ?_)
  clear hP hD hS
  refine reW [wO m0 12 [.ref Mtape, .int (nI Itaped), .int (nI Ifault), .int IfaultPlace, .int (nI Iat), .int (nI Isize), .int Isort, .int Iplace, .int Inumber, .long Iword, .ref MnName, .ref MnStep, .ref MnArg, .ref MnMany, .ref Mstep, .ref Marg, .ref Mmany, .ref Mopen, .ref Mvalues, .ref MnHasForm, .ref MhasForm, .int (nI Iform), .int (nI Iopens), .int (nI InUnits), .int Iunits, .int (nI IownUnits), .int (nI Ideep), .ref Masks, .ref MnLoud, .ref MnCliffAt, .ref MnSnow, .ref MnManAt, .ref MnVoice, .ref MnOn, .ref Mloud, .ref McliffAt, .ref MsnowTold, .ref MmanAt, .ref Mvoice, .ref Mon, .ref MnYes, .ref Myes, .int (nI InWords), .int (nI InCliffs), .int (nI InMen), .int (nI InStates), .int (nI InOns), .int InWind, .int InDraw, .int (nI Iwords), .int (nI Icliffs), .int (nI Imen), .int (nI Istates), .int Ions, .int IwindTold, .int InHasWind, .int InHasDraw, .ref Mnow, .ref Mcry, .ref Msnow, .ref Mecho, .int (nI IcryMany), .int IcallPlace, .int IcallVoice, .int x_1, .int Ichance, .int (nI IechoMany), .ref Mwere, .int (nI Iacts), .int (nI Iundone), .ref Mlies, .int (nI Ilain), .ref Mspots, .ref Msteps, .ref MfromState, .ref MbyWord, .ref Mqueue, .ref MsoundCliff, .ref MsoundLong, .ref MsoundCame, .ref MsoundTold, .ref MsoundUntold, .int (nI Isounds), .int Itime, .ref Mstands, .int IstandMany, .ref Mtally, .ref MhasBox, .ref Mboxes], wI (cy 1) Mnow 42 (Gnow), wI (cy 1) Msnow 4 (Gsnow)] hP9 hD9 hS9 (fun hP hD hS => ?_)
  clear hP9 hD9 hS9
  refine lv_aload_n hx hb dX12_loadSky_11 rfl (lv_at hl 0 rfl) ?_
  refine lv_iconst (v := 0) hx hb dX12_loadSky_12 (by decide) ?_
  refine va_put (D := D) (ci := 12) (v := .int 0) (ty := .int) (C := RX12) (T := TX12) (N := 89) hx hb hg i_X12 tyX12 tyX12_ok nmX12 hown hK hP hD hS 0 rfl rfl 65 (by decide) (hg _ m_1478) (fun _ h9 => h9) rfl (by decide +kernel) rfl rfl (Nat.le_of_ble_eq_true rfl) dX12_loadSky_13 (fun H locs hP9 hD9 hS9 => ?_)
  clear hP hD hS
  refine reW [wO m0 12 [.ref Mtape, .int (nI Itaped), .int (nI Ifault), .int IfaultPlace, .int (nI Iat), .int (nI Isize), .int Isort, .int Iplace, .int Inumber, .long Iword, .ref MnName, .ref MnStep, .ref MnArg, .ref MnMany, .ref Mstep, .ref Marg, .ref Mmany, .ref Mopen, .ref Mvalues, .ref MnHasForm, .ref MhasForm, .int (nI Iform), .int (nI Iopens), .int (nI InUnits), .int Iunits, .int (nI IownUnits), .int (nI Ideep), .ref Masks, .ref MnLoud, .ref MnCliffAt, .ref MnSnow, .ref MnManAt, .ref MnVoice, .ref MnOn, .ref Mloud, .ref McliffAt, .ref MsnowTold, .ref MmanAt, .ref Mvoice, .ref Mon, .ref MnYes, .ref Myes, .int (nI InWords), .int (nI InCliffs), .int (nI InMen), .int (nI InStates), .int (nI InOns), .int InWind, .int InDraw, .int (nI Iwords), .int (nI Icliffs), .int (nI Imen), .int (nI Istates), .int Ions, .int IwindTold, .int InHasWind, .int InHasDraw, .ref Mnow, .ref Mcry, .ref Msnow, .ref Mecho, .int (nI IcryMany), .int IcallPlace, .int IcallVoice, .int x_1, .int 0, .int (nI IechoMany), .ref Mwere, .int (nI Iacts), .int (nI Iundone), .ref Mlies, .int (nI Ilain), .ref Mspots, .ref Msteps, .ref MfromState, .ref MbyWord, .ref Mqueue, .ref MsoundCliff, .ref MsoundLong, .ref MsoundCame, .ref MsoundTold, .ref MsoundUntold, .int (nI Isounds), .int Itime, .ref Mstands, .int IstandMany, .ref Mtally, .ref MhasBox, .ref Mboxes], wI (cy 1) Mnow 42 (Gnow), wI (cy 1) Msnow 4 (Gsnow)] hP9 hD9 hS9 (fun hP hD hS => ?_)
  clear hP9 hD9 hS9
  refine lv_iconst (v := 0) hx hb dX12_loadSky_16 (by decide) ?_
  refine lv_istore_n (lv' := [(1, .int 0), (0, .ref m0)]) hx hb dX12_loadSky_17 rfl hl (by decide) rfl (fun ls hl => ?_)
  have loop3 : ∀ (zn : Nat) (k3 : Nat) (fa1_3 : Nat → Int32), (k3 ≤ 4) → (∀ i9, i9 < k3 → fa1_3 i9 = Gnow (23 + i9)) → 4 - k3 + 1 ≤ zn → ∀ (H : Heap) (locs : List Loc), va_P D vwCl [wO m0 12 [.ref Mtape, .int (nI Itaped), .int (nI Ifault), .int IfaultPlace, .int (nI Iat), .int (nI Isize), .int Isort, .int Iplace, .int Inumber, .long Iword, .ref MnName, .ref MnStep, .ref MnArg, .ref MnMany, .ref Mstep, .ref Marg, .ref Mmany, .ref Mopen, .ref Mvalues, .ref MnHasForm, .ref MhasForm, .int (nI Iform), .int (nI Iopens), .int (nI InUnits), .int Iunits, .int (nI IownUnits), .int (nI Ideep), .ref Masks, .ref MnLoud, .ref MnCliffAt, .ref MnSnow, .ref MnManAt, .ref MnVoice, .ref MnOn, .ref Mloud, .ref McliffAt, .ref MsnowTold, .ref MmanAt, .ref Mvoice, .ref Mon, .ref MnYes, .ref Myes, .int (nI InWords), .int (nI InCliffs), .int (nI InMen), .int (nI InStates), .int (nI InOns), .int InWind, .int InDraw, .int (nI Iwords), .int (nI Icliffs), .int (nI Imen), .int (nI Istates), .int Ions, .int IwindTold, .int InHasWind, .int InHasDraw, .ref Mnow, .ref Mcry, .ref Msnow, .ref Mecho, .int (nI IcryMany), .int IcallPlace, .int IcallVoice, .int x_1, .int 0, .int (nI IechoMany), .ref Mwere, .int (nI Iacts), .int (nI Iundone), .ref Mlies, .int (nI Ilain), .ref Mspots, .ref Msteps, .ref MfromState, .ref MbyWord, .ref Mqueue, .ref MsoundCliff, .ref MsoundLong, .ref MsoundCame, .ref MsoundTold, .ref MsoundUntold, .int (nI Isounds), .int Itime, .ref Mstands, .int IstandMany, .ref Mtally, .ref MhasBox, .ref Mboxes], wI (cy 1) Mnow 42 (Gnow), wI (cy 1) Msnow 4 (fa1_3)] H → va_D A [wO m0 12 [.ref Mtape, .int (nI Itaped), .int (nI Ifault), .int IfaultPlace, .int (nI Iat), .int (nI Isize), .int Isort, .int Iplace, .int Inumber, .long Iword, .ref MnName, .ref MnStep, .ref MnArg, .ref MnMany, .ref Mstep, .ref Marg, .ref Mmany, .ref Mopen, .ref Mvalues, .ref MnHasForm, .ref MhasForm, .int (nI Iform), .int (nI Iopens), .int (nI InUnits), .int Iunits, .int (nI IownUnits), .int (nI Ideep), .ref Masks, .ref MnLoud, .ref MnCliffAt, .ref MnSnow, .ref MnManAt, .ref MnVoice, .ref MnOn, .ref Mloud, .ref McliffAt, .ref MsnowTold, .ref MmanAt, .ref Mvoice, .ref Mon, .ref MnYes, .ref Myes, .int (nI InWords), .int (nI InCliffs), .int (nI InMen), .int (nI InStates), .int (nI InOns), .int InWind, .int InDraw, .int (nI Iwords), .int (nI Icliffs), .int (nI Imen), .int (nI Istates), .int Ions, .int IwindTold, .int InHasWind, .int InHasDraw, .ref Mnow, .ref Mcry, .ref Msnow, .ref Mecho, .int (nI IcryMany), .int IcallPlace, .int IcallVoice, .int x_1, .int 0, .int (nI IechoMany), .ref Mwere, .int (nI Iacts), .int (nI Iundone), .ref Mlies, .int (nI Ilain), .ref Mspots, .ref Msteps, .ref MfromState, .ref MbyWord, .ref Mqueue, .ref MsoundCliff, .ref MsoundLong, .ref MsoundCame, .ref MsoundTold, .ref MsoundUntold, .int (nI Isounds), .int Itime, .ref Mstands, .int IstandMany, .ref Mtally, .ref MhasBox, .ref Mboxes], wI (cy 1) Mnow 42 (Gnow), wI (cy 1) Msnow 4 (fa1_3)] → va_S A s.heap H locs → ∀ ls : Array Slot, lv_has ls 2 [(1, .int (nI k3)), (0, .ref m0)] → W p l e (rmk 0 0 0) s m args below meth c H locs 0 0 Q (F0 m 18 ls []) := by
    try clear hP hD hS
    intro zn
    induction zn with
    | zero => intro k3 fa1_3 _ _ hz; exact absurd hz (by omega)
    | succ zn ih3 =>
      intro k3 fa1_3 hf0_3 hf1_3 hmu3 H locs hP hD hS ls hl
      refine lv_iload_n hx hb dX12_loadSky_18 rfl (lv_at hl 0 rfl) ?_
      refine lv_iconst (v := 4) hx hb dX12_loadSky_19 (by decide) ?_
      refine lv_icmp_ge (tgt := 44) hx hb dX12_loadSky_20 (by decide) (fun c_4 => ?_) (fun c_4 => ?_)
      · have q_5 : 4 ≤ k3 := q_le (a := 4) (b := k3) rfl rfl (by omega) (by omega) c_4
        exact x_vret hQ hx hb hr hlocks hK hP hD hS dX12_loadSky_44 (fa1_3, x_1, 0) ((show x_1 = Gnow 22 ∧ 0 = 0 ∧ ∀ c9, c9 < 4 → fa1_3 c9 = Gnow (23 + c9) from ⟨ldk (by decide) ex_1, rfl, fun i9 h9 => hf1_3 i9 (by omega)⟩)) [0, 1, 2] (by decide +kernel) rfl (Nat.le_of_ble_eq_true rfl) (Nat.le_of_ble_eq_true rfl)
      · have q_5 : k3 < 4 := q_nle (a := 4) (b := k3) rfl rfl (by omega) (by omega) c_4
        refine lv_aload_n hx hb dX12_loadSky_23 rfl (lv_at hl 1 rfl) ?_
        refine va_get (D := D) (ci := 12) (v := .ref Msnow) (C := RX12) (T := TX12) (N := 89) hx hb hg i_X12 hown hK hP 0 rfl rfl 59 (by decide) (hg _ m_1472) (fun _ h9 => h9) rfl dX12_loadSky_24 ?_
        refine lv_iload_n hx hb dX12_loadSky_27 rfl (lv_at hl 0 rfl) ?_
        refine lv_aload_n hx hb dX12_loadSky_28 rfl (lv_at hl 1 rfl) ?_
        refine va_get (D := D) (ci := 12) (v := .ref Mnow) (C := RX12) (T := TX12) (N := 89) hx hb hg i_X12 hown hK hP 0 rfl rfl 57 (by decide) (hg _ m_1470) (fun _ h9 => h9) rfl dX12_loadSky_29 ?_
        refine lv_bipush (v := 23) hx hb dX12_loadSky_32 (by decide) ?_
        refine lv_iload_n hx hb dX12_loadSky_34 rfl (lv_at hl 0 rfl) ?_
        refine lv_iadd hx hb dX12_loadSky_35 ?_
        refine lv_topi (fun y_6 hy_6 => ?_)
        obtain rfl : y_6 = nI (23 + k3) := hy_6.trans (nI_add 23 k3)
        refine va_iald hx hb hK hP 1 1 rfl rfl (vp_in_nI (by omega) (by decide)) dX12_loadSky_36 ?_
        refine lv_topi (fun x_7 ex_7 => ?_)
        have hel_8 := wR_at gnow (T := (23 + k3)) (nI_clamp (by omega)) (by omega) ex_7
        refine va_iast hx hb hK hP hD hS 2 1 rfl rfl (vp_in_nI (by omega) (by decide)) dX12_loadSky_37 (fun H locs hP9 hD9 hS9 => ?_)
        clear hP hD hS
        obtain ⟨g_9, eg_9⟩ : ∃ y, upd fa1_3 (nI k3 : Int32).toNatClampNeg x_7 = y := ⟨_, rfl⟩
        rw [eg_9] at hP9 hD9
        refine reW [wO m0 12 [.ref Mtape, .int (nI Itaped), .int (nI Ifault), .int IfaultPlace, .int (nI Iat), .int (nI Isize), .int Isort, .int Iplace, .int Inumber, .long Iword, .ref MnName, .ref MnStep, .ref MnArg, .ref MnMany, .ref Mstep, .ref Marg, .ref Mmany, .ref Mopen, .ref Mvalues, .ref MnHasForm, .ref MhasForm, .int (nI Iform), .int (nI Iopens), .int (nI InUnits), .int Iunits, .int (nI IownUnits), .int (nI Ideep), .ref Masks, .ref MnLoud, .ref MnCliffAt, .ref MnSnow, .ref MnManAt, .ref MnVoice, .ref MnOn, .ref Mloud, .ref McliffAt, .ref MsnowTold, .ref MmanAt, .ref Mvoice, .ref Mon, .ref MnYes, .ref Myes, .int (nI InWords), .int (nI InCliffs), .int (nI InMen), .int (nI InStates), .int (nI InOns), .int InWind, .int InDraw, .int (nI Iwords), .int (nI Icliffs), .int (nI Imen), .int (nI Istates), .int Ions, .int IwindTold, .int InHasWind, .int InHasDraw, .ref Mnow, .ref Mcry, .ref Msnow, .ref Mecho, .int (nI IcryMany), .int IcallPlace, .int IcallVoice, .int x_1, .int 0, .int (nI IechoMany), .ref Mwere, .int (nI Iacts), .int (nI Iundone), .ref Mlies, .int (nI Ilain), .ref Mspots, .ref Msteps, .ref MfromState, .ref MbyWord, .ref Mqueue, .ref MsoundCliff, .ref MsoundLong, .ref MsoundCame, .ref MsoundTold, .ref MsoundUntold, .int (nI Isounds), .int Itime, .ref Mstands, .int IstandMany, .ref Mtally, .ref MhasBox, .ref Mboxes], wI (cy 1) Mnow 42 (Gnow), wI (cy 1) Msnow 4 (g_9)] hP9 hD9 hS9 (fun hP hD hS => ?_)
        clear hP9 hD9 hS9
        refine lv_iinc (v := nI (k3 + 1)) (lv' := [(1, .int (nI (k3 + 1))), (0, .ref m0)]) hx hb dX12_loadSky_38 hl (k := 0) rfl (nI_add k3 1) (by decide) rfl (fun ls hl => ?_)
        refine lv_goto (tgt := 18) hx hb dX12_loadSky_41 (by decide) ?_
        exact ih3  ((k3 + 1)) g_9 (by first | assumption | omega) (sky_put (by omega) hf1_3 ex_7 eg_9) (by omega) _ _ (hP.sub [0, 1, 2] rfl) (hD.sub [0, 1, 2] (by decide +kernel) rfl) hS ls (lv_sub hl [0, 1] rfl)
  exact loop3 _ 0 Gsnow (by first | assumption | omega) (fun i9 h9 => absurd h9 (Nat.not_lt_zero i9)) (Nat.le_refl _) _ _ (hP.sub [0, 1, 2] rfl) (hD.sub [0, 1, 2] (by decide +kernel) rfl) hS ls (lv_sub hl [0, 1] rfl)
theorem gdX12_loadCry_0 : decode cX12_loadCry 0 = .ok (.aload_n 0, 1) ∧ decode cX12_loadCry 1 = .ok (.aload_n 0, 1) ∧ decode cX12_loadCry 2 = .ok (.getfield 97, 3) ∧ decode cX12_loadCry 5 = .ok (.bipush 20, 2) ∧ decode cX12_loadCry 7 = .ok (.iload_n 1, 1) ∧ decode cX12_loadCry 8 = .ok (.iadd, 1) ∧ decode cX12_loadCry 9 = .ok (.iaload, 1) ∧ decode cX12_loadCry 10 = .ok (.putfield 446, 3) ∧ decode cX12_loadCry 13 = .ok (.iconst 0, 1) ∧ decode cX12_loadCry 14 = .ok (.istore_n 2, 1) ∧ decode cX12_loadCry 15 = .ok (.iload_n 2, 1) ∧ decode cX12_loadCry 16 = .ok (.aload_n 0, 1) := by decide +kernel
theorem dX12_loadCry_0 : decode cX12_loadCry 0 = .ok (.aload_n 0, 1) := gdX12_loadCry_0.1
theorem dX12_loadCry_1 : decode cX12_loadCry 1 = .ok (.aload_n 0, 1) := gdX12_loadCry_0.2.1
theorem dX12_loadCry_2 : decode cX12_loadCry 2 = .ok (.getfield 97, 3) := gdX12_loadCry_0.2.2.1
theorem dX12_loadCry_5 : decode cX12_loadCry 5 = .ok (.bipush 20, 2) := gdX12_loadCry_0.2.2.2.1
theorem dX12_loadCry_7 : decode cX12_loadCry 7 = .ok (.iload_n 1, 1) := gdX12_loadCry_0.2.2.2.2.1
theorem dX12_loadCry_8 : decode cX12_loadCry 8 = .ok (.iadd, 1) := gdX12_loadCry_0.2.2.2.2.2.1
theorem dX12_loadCry_9 : decode cX12_loadCry 9 = .ok (.iaload, 1) := gdX12_loadCry_0.2.2.2.2.2.2.1
theorem dX12_loadCry_10 : decode cX12_loadCry 10 = .ok (.putfield 446, 3) := gdX12_loadCry_0.2.2.2.2.2.2.2.1
theorem dX12_loadCry_13 : decode cX12_loadCry 13 = .ok (.iconst 0, 1) := gdX12_loadCry_0.2.2.2.2.2.2.2.2.1
theorem dX12_loadCry_14 : decode cX12_loadCry 14 = .ok (.istore_n 2, 1) := gdX12_loadCry_0.2.2.2.2.2.2.2.2.2.1
theorem dX12_loadCry_15 : decode cX12_loadCry 15 = .ok (.iload_n 2, 1) := gdX12_loadCry_0.2.2.2.2.2.2.2.2.2.2.1
theorem dX12_loadCry_16 : decode cX12_loadCry 16 = .ok (.aload_n 0, 1) := gdX12_loadCry_0.2.2.2.2.2.2.2.2.2.2.2
theorem gdX12_loadCry_17 : decode cX12_loadCry 17 = .ok (.getfield 446, 3) ∧ decode cX12_loadCry 20 = .ok (.if_icmp .ge 26, 3) ∧ decode cX12_loadCry 46 = .ok (.return_, 1) ∧ decode cX12_loadCry 23 = .ok (.aload_n 0, 1) ∧ decode cX12_loadCry 24 = .ok (.getfield 100, 3) ∧ decode cX12_loadCry 27 = .ok (.iload_n 2, 1) ∧ decode cX12_loadCry 28 = .ok (.aload_n 0, 1) ∧ decode cX12_loadCry 29 = .ok (.getfield 97, 3) ∧ decode cX12_loadCry 32 = .ok (.bipush 10, 2) ∧ decode cX12_loadCry 34 = .ok (.iload_n 1, 1) ∧ decode cX12_loadCry 35 = .ok (.imul, 1) ∧ decode cX12_loadCry 36 = .ok (.iload_n 2, 1) := by decide +kernel
theorem dX12_loadCry_17 : decode cX12_loadCry 17 = .ok (.getfield 446, 3) := gdX12_loadCry_17.1
theorem dX12_loadCry_20 : decode cX12_loadCry 20 = .ok (.if_icmp .ge 26, 3) := gdX12_loadCry_17.2.1
theorem dX12_loadCry_46 : decode cX12_loadCry 46 = .ok (.return_, 1) := gdX12_loadCry_17.2.2.1
theorem dX12_loadCry_23 : decode cX12_loadCry 23 = .ok (.aload_n 0, 1) := gdX12_loadCry_17.2.2.2.1
theorem dX12_loadCry_24 : decode cX12_loadCry 24 = .ok (.getfield 100, 3) := gdX12_loadCry_17.2.2.2.2.1
theorem dX12_loadCry_27 : decode cX12_loadCry 27 = .ok (.iload_n 2, 1) := gdX12_loadCry_17.2.2.2.2.2.1
theorem dX12_loadCry_28 : decode cX12_loadCry 28 = .ok (.aload_n 0, 1) := gdX12_loadCry_17.2.2.2.2.2.2.1
theorem dX12_loadCry_29 : decode cX12_loadCry 29 = .ok (.getfield 97, 3) := gdX12_loadCry_17.2.2.2.2.2.2.2.1
theorem dX12_loadCry_32 : decode cX12_loadCry 32 = .ok (.bipush 10, 2) := gdX12_loadCry_17.2.2.2.2.2.2.2.2.1
theorem dX12_loadCry_34 : decode cX12_loadCry 34 = .ok (.iload_n 1, 1) := gdX12_loadCry_17.2.2.2.2.2.2.2.2.2.1
theorem dX12_loadCry_35 : decode cX12_loadCry 35 = .ok (.imul, 1) := gdX12_loadCry_17.2.2.2.2.2.2.2.2.2.2.1
theorem dX12_loadCry_36 : decode cX12_loadCry 36 = .ok (.iload_n 2, 1) := gdX12_loadCry_17.2.2.2.2.2.2.2.2.2.2.2
theorem gdX12_loadCry_37 : decode cX12_loadCry 37 = .ok (.iadd, 1) ∧ decode cX12_loadCry 38 = .ok (.iaload, 1) ∧ decode cX12_loadCry 39 = .ok (.iastore, 1) ∧ decode cX12_loadCry 40 = .ok (.iinc 2 1, 3) ∧ decode cX12_loadCry 43 = .ok (.goto (-28), 3) := by decide +kernel
theorem dX12_loadCry_37 : decode cX12_loadCry 37 = .ok (.iadd, 1) := gdX12_loadCry_37.1
theorem dX12_loadCry_38 : decode cX12_loadCry 38 = .ok (.iaload, 1) := gdX12_loadCry_37.2.1
theorem dX12_loadCry_39 : decode cX12_loadCry 39 = .ok (.iastore, 1) := gdX12_loadCry_37.2.2.1
theorem dX12_loadCry_40 : decode cX12_loadCry 40 = .ok (.iinc 2 1, 3) := gdX12_loadCry_37.2.2.2.1
theorem dX12_loadCry_43 : decode cX12_loadCry 43 = .ok (.goto (-28), 3) := gdX12_loadCry_37.2.2.2.2
set_option maxHeartbeats 1000000 in
set_option maxRecDepth 100000 in
theorem r_loadCry0 (l : Launch) (D : va_G) (cy : Nat → ClassId) (m0 : Nat) (Mtape : Nat) (MnName : Nat) (MnStep : Nat) (MnArg : Nat) (MnMany : Nat) (Mstep : Nat) (Marg : Nat) (Mmany : Nat) (Mopen : Nat) (Mvalues : Nat) (MnHasForm : Nat) (MhasForm : Nat) (Masks : Nat) (MnLoud : Nat) (MnCliffAt : Nat) (MnSnow : Nat) (MnManAt : Nat) (MnVoice : Nat) (MnOn : Nat) (Mloud : Nat) (McliffAt : Nat) (MsnowTold : Nat) (MmanAt : Nat) (Mvoice : Nat) (Mon : Nat) (MnYes : Nat) (Myes : Nat) (Mnow : Nat) (Mcry : Nat) (Msnow : Nat) (Mecho : Nat) (Mwere : Nat) (Mlies : Nat) (Mspots : Nat) (Msteps : Nat) (MfromState : Nat) (MbyWord : Nat) (Mqueue : Nat) (MsoundCliff : Nat) (MsoundLong : Nat) (MsoundCame : Nat) (MsoundTold : Nat) (MsoundUntold : Nat) (Mstands : Nat) (Mtally : Nat) (MhasBox : Nat) (Mboxes : Nat) (Itaped : Nat) (Ifault : Nat) (IfaultPlace : Int32) (Iat : Nat) (Isize : Nat) (Isort : Int32) (Iplace : Int32) (Inumber : Int32) (Iword : Int64) (Iform : Nat) (Iopens : Nat) (InUnits : Nat) (Iunits : Int32) (IownUnits : Nat) (Ideep : Nat) (InWords : Nat) (InCliffs : Nat) (InMen : Nat) (InStates : Nat) (InOns : Nat) (InWind : Int32) (InDraw : Int32) (Iwords : Nat) (Icliffs : Nat) (Imen : Nat) (Istates : Nat) (Ions : Int32) (IwindTold : Int32) (InHasWind : Int32) (InHasDraw : Int32) (Gnow : Nat → Int32) (Gcry : Nat → Int32) (IcryMany : Nat) (IcallPlace : Int32) (IcallVoice : Int32) (Iwind : Int32) (Ichance : Int32) (IechoMany : Nat) (Iacts : Nat) (Iundone : Nat) (Ilain : Nat) (Isounds : Nat) (Itime : Int32) (IstandMany : Int32) (gtp : Itaped ≤ 1600) (gat : Iat ≤ Isize) (gsz : Isize ≤ 1600) (gfl : Ifault ≤ 5) (gfo : Iform ≤ 2) (gnw : InWords ≤ 8) (gnc : InCliffs ≤ 4) (gnm : InMen ≤ 4) (gns : InStates ≤ 6) (gw : Iwords ≤ 8) (gc9 : Icliffs ≤ 4) (gm : Imen ≤ 4) (gs : Istates ≤ 6) (gcm : IcryMany ≤ 10) (gem : IechoMany ≤ 20) (gau : Iacts + Iundone ≤ 40) (gla : Ilain ≤ 20) (gso : Isounds ≤ 30) (gop : Iopens ≤ 40) (gde : Ideep ≤ 8) (gou : IownUnits ≤ 31) (gnu : InUnits ≤ 61) (gno : InOns ≤ 30) (gcry : rng Gcry 10 7) (gnow : wRows Gnow 1) : XMv l D (tyL cy) E0 yX12_loadCry cX12_loadCry 3 none (rmk 0 0 0) [.ref m0, .int 0] [wO m0 12 [.ref Mtape, .int (nI Itaped), .int (nI Ifault), .int IfaultPlace, .int (nI Iat), .int (nI Isize), .int Isort, .int Iplace, .int Inumber, .long Iword, .ref MnName, .ref MnStep, .ref MnArg, .ref MnMany, .ref Mstep, .ref Marg, .ref Mmany, .ref Mopen, .ref Mvalues, .ref MnHasForm, .ref MhasForm, .int (nI Iform), .int (nI Iopens), .int (nI InUnits), .int Iunits, .int (nI IownUnits), .int (nI Ideep), .ref Masks, .ref MnLoud, .ref MnCliffAt, .ref MnSnow, .ref MnManAt, .ref MnVoice, .ref MnOn, .ref Mloud, .ref McliffAt, .ref MsnowTold, .ref MmanAt, .ref Mvoice, .ref Mon, .ref MnYes, .ref Myes, .int (nI InWords), .int (nI InCliffs), .int (nI InMen), .int (nI InStates), .int (nI InOns), .int InWind, .int InDraw, .int (nI Iwords), .int (nI Icliffs), .int (nI Imen), .int (nI Istates), .int Ions, .int IwindTold, .int InHasWind, .int InHasDraw, .ref Mnow, .ref Mcry, .ref Msnow, .ref Mecho, .int (nI IcryMany), .int IcallPlace, .int IcallVoice, .int Iwind, .int Ichance, .int (nI IechoMany), .ref Mwere, .int (nI Iacts), .int (nI Iundone), .ref Mlies, .int (nI Ilain), .ref Mspots, .ref Msteps, .ref MfromState, .ref MbyWord, .ref Mqueue, .ref MsoundCliff, .ref MsoundLong, .ref MsoundCame, .ref MsoundTold, .ref MsoundUntold, .int (nI Isounds), .int Itime, .ref Mstands, .int IstandMany, .ref Mtally, .ref MhasBox, .ref Mboxes], wI (cy 1) Mnow 42 (Gnow), wI (cy 1) Mcry 10 (Gcry)] (fun (u : (Nat → Int32) × Nat) => (u.2 ≤ 10) ∧ (rng u.1 10 7) ∧ (Gnow (20 : Int32).toNatClampNeg = nI u.2) ∧ (∀ i9, i9 < u.2 → u.1 i9 = Gnow (0 + i9))) (fun (u : (Nat → Int32) × Nat) => [wO m0 12 [.ref Mtape, .int (nI Itaped), .int (nI Ifault), .int IfaultPlace, .int (nI Iat), .int (nI Isize), .int Isort, .int Iplace, .int Inumber, .long Iword, .ref MnName, .ref MnStep, .ref MnArg, .ref MnMany, .ref Mstep, .ref Marg, .ref Mmany, .ref Mopen, .ref Mvalues, .ref MnHasForm, .ref MhasForm, .int (nI Iform), .int (nI Iopens), .int (nI InUnits), .int Iunits, .int (nI IownUnits), .int (nI Ideep), .ref Masks, .ref MnLoud, .ref MnCliffAt, .ref MnSnow, .ref MnManAt, .ref MnVoice, .ref MnOn, .ref Mloud, .ref McliffAt, .ref MsnowTold, .ref MmanAt, .ref Mvoice, .ref Mon, .ref MnYes, .ref Myes, .int (nI InWords), .int (nI InCliffs), .int (nI InMen), .int (nI InStates), .int (nI InOns), .int InWind, .int InDraw, .int (nI Iwords), .int (nI Icliffs), .int (nI Imen), .int (nI Istates), .int Ions, .int IwindTold, .int InHasWind, .int InHasDraw, .ref Mnow, .ref Mcry, .ref Msnow, .ref Mecho, .int (nI u.2), .int IcallPlace, .int IcallVoice, .int Iwind, .int Ichance, .int (nI IechoMany), .ref Mwere, .int (nI Iacts), .int (nI Iundone), .ref Mlies, .int (nI Ilain), .ref Mspots, .ref Msteps, .ref MfromState, .ref MbyWord, .ref Mqueue, .ref MsoundCliff, .ref MsoundLong, .ref MsoundCame, .ref MsoundTold, .ref MsoundUntold, .int (nI Isounds), .int Itime, .ref Mstands, .int IstandMany, .ref Mtally, .ref MhasBox, .ref Mboxes], wI (cy 1) Mnow 42 (Gnow), wI (cy 1) Mcry 10 (u.1)]) := by
  refine XMv.start (by decide) (Nat.le_of_ble_eq_true rfl) ?_
  intro p e s m below meth c args A ls Q hat hQ
  obtain ⟨hx, hb, hr, hml, hown, hg, hlocks, hin, hK, hA, hP, hD, hS, hE, hl⟩ := hat
  have hown : s.vm.findClass RX12 = some m.cls := hown
  have hl : lv_has ls 3 [(0, .ref m0), (1, .int 0)] := hl
  refine lv_aload_n hx hb dX12_loadCry_0 rfl (lv_at hl 0 rfl) ?_
  refine lv_aload_n hx hb dX12_loadCry_1 rfl (lv_at hl 0 rfl) ?_
  refine va_get (D := D) (ci := 12) (v := .ref Mnow) (C := RX12) (T := TX12) (N := 89) hx hb hg i_X12 hown hK hP 0 rfl rfl 57 (by decide) (hg _ m_1470) (fun _ h9 => h9) rfl dX12_loadCry_2 ?_
  refine lv_bipush (v := 20) hx hb dX12_loadCry_5 (by decide) ?_
  refine lv_iload_n hx hb dX12_loadCry_7 rfl (lv_at hl 1 rfl) ?_
  refine lv_iadd hx hb dX12_loadCry_8 ?_
  refine lv_topi (fun y_1 hy_1 => ?_)
  obtain rfl : y_1 = 20 := hy_1.trans (by decide +kernel)
  refine va_iald hx hb hK hP 1 1 rfl rfl (by unfold vp_in; decide) dX12_loadCry_9 ?_
  obtain ⟨j_3, hj_3, ej_3⟩ := wR_len gnow (z := 20) (T := 20) (by decide) (by omega) (by omega)
  refine lv_topi (fun y_2 hy_2 => ?_)
  obtain rfl : y_2 = nI j_3 := hy_2.trans ej_3
  refine va_put (D := D) (ci := 12) (v := .int (nI j_3)) (ty := .int) (C := RX12) (T := TX12) (N := 89) hx hb hg i_X12 tyX12 tyX12_ok nmX12 hown hK hP hD hS 0 rfl rfl 61 (by decide) (hg _ m_1474) (fun _ h9 => h9) rfl (by decide +kernel) rfl rfl (Nat.le_of_ble_eq_true rfl) dX12_loadCry_10 (fun H locs hP9 hD9 hS9 => ?_)
  clear hP hD hS
  refine reW [wO m0 12 [.ref Mtape, .int (nI Itaped), .int (nI Ifault), .int IfaultPlace, .int (nI Iat), .int (nI Isize), .int Isort, .int Iplace, .int Inumber, .long Iword, .ref MnName, .ref MnStep, .ref MnArg, .ref MnMany, .ref Mstep, .ref Marg, .ref Mmany, .ref Mopen, .ref Mvalues, .ref MnHasForm, .ref MhasForm, .int (nI Iform), .int (nI Iopens), .int (nI InUnits), .int Iunits, .int (nI IownUnits), .int (nI Ideep), .ref Masks, .ref MnLoud, .ref MnCliffAt, .ref MnSnow, .ref MnManAt, .ref MnVoice, .ref MnOn, .ref Mloud, .ref McliffAt, .ref MsnowTold, .ref MmanAt, .ref Mvoice, .ref Mon, .ref MnYes, .ref Myes, .int (nI InWords), .int (nI InCliffs), .int (nI InMen), .int (nI InStates), .int (nI InOns), .int InWind, .int InDraw, .int (nI Iwords), .int (nI Icliffs), .int (nI Imen), .int (nI Istates), .int Ions, .int IwindTold, .int InHasWind, .int InHasDraw, .ref Mnow, .ref Mcry, .ref Msnow, .ref Mecho, .int (nI j_3), .int IcallPlace, .int IcallVoice, .int Iwind, .int Ichance, .int (nI IechoMany), .ref Mwere, .int (nI Iacts), .int (nI Iundone), .ref Mlies, .int (nI Ilain), .ref Mspots, .ref Msteps, .ref MfromState, .ref MbyWord, .ref Mqueue, .ref MsoundCliff, .ref MsoundLong, .ref MsoundCame, .ref MsoundTold, .ref MsoundUntold, .int (nI Isounds), .int Itime, .ref Mstands, .int IstandMany, .ref Mtally, .ref MhasBox, .ref Mboxes], wI (cy 1) Mnow 42 (Gnow), wI (cy 1) Mcry 10 (Gcry)] hP9 hD9 hS9 (fun hP hD hS => ?_)
  clear hP9 hD9 hS9
  refine lv_iconst (v := 0) hx hb dX12_loadCry_13 (by decide) ?_
  refine lv_istore_n (lv' := [(2, .int 0), (0, .ref m0), (1, .int 0)]) hx hb dX12_loadCry_14 rfl hl (by decide) rfl (fun ls hl => ?_)
  have loop4 : ∀ (zn : Nat) (k4 : Nat) (fa1_4 : Nat → Int32), (rng fa1_4 10 7) → (k4 ≤ 10) → (∀ i9, i9 < k4 → fa1_4 i9 = Gnow (0 + i9)) → 10 - k4 + 1 ≤ zn → ∀ (H : Heap) (locs : List Loc), va_P D vwCl [wO m0 12 [.ref Mtape, .int (nI Itaped), .int (nI Ifault), .int IfaultPlace, .int (nI Iat), .int (nI Isize), .int Isort, .int Iplace, .int Inumber, .long Iword, .ref MnName, .ref MnStep, .ref MnArg, .ref MnMany, .ref Mstep, .ref Marg, .ref Mmany, .ref Mopen, .ref Mvalues, .ref MnHasForm, .ref MhasForm, .int (nI Iform), .int (nI Iopens), .int (nI InUnits), .int Iunits, .int (nI IownUnits), .int (nI Ideep), .ref Masks, .ref MnLoud, .ref MnCliffAt, .ref MnSnow, .ref MnManAt, .ref MnVoice, .ref MnOn, .ref Mloud, .ref McliffAt, .ref MsnowTold, .ref MmanAt, .ref Mvoice, .ref Mon, .ref MnYes, .ref Myes, .int (nI InWords), .int (nI InCliffs), .int (nI InMen), .int (nI InStates), .int (nI InOns), .int InWind, .int InDraw, .int (nI Iwords), .int (nI Icliffs), .int (nI Imen), .int (nI Istates), .int Ions, .int IwindTold, .int InHasWind, .int InHasDraw, .ref Mnow, .ref Mcry, .ref Msnow, .ref Mecho, .int (nI j_3), .int IcallPlace, .int IcallVoice, .int Iwind, .int Ichance, .int (nI IechoMany), .ref Mwere, .int (nI Iacts), .int (nI Iundone), .ref Mlies, .int (nI Ilain), .ref Mspots, .ref Msteps, .ref MfromState, .ref MbyWord, .ref Mqueue, .ref MsoundCliff, .ref MsoundLong, .ref MsoundCame, .ref MsoundTold, .ref MsoundUntold, .int (nI Isounds), .int Itime, .ref Mstands, .int IstandMany, .ref Mtally, .ref MhasBox, .ref Mboxes], wI (cy 1) Mnow 42 (Gnow), wI (cy 1) Mcry 10 (fa1_4)] H → va_D A [wO m0 12 [.ref Mtape, .int (nI Itaped), .int (nI Ifault), .int IfaultPlace, .int (nI Iat), .int (nI Isize), .int Isort, .int Iplace, .int Inumber, .long Iword, .ref MnName, .ref MnStep, .ref MnArg, .ref MnMany, .ref Mstep, .ref Marg, .ref Mmany, .ref Mopen, .ref Mvalues, .ref MnHasForm, .ref MhasForm, .int (nI Iform), .int (nI Iopens), .int (nI InUnits), .int Iunits, .int (nI IownUnits), .int (nI Ideep), .ref Masks, .ref MnLoud, .ref MnCliffAt, .ref MnSnow, .ref MnManAt, .ref MnVoice, .ref MnOn, .ref Mloud, .ref McliffAt, .ref MsnowTold, .ref MmanAt, .ref Mvoice, .ref Mon, .ref MnYes, .ref Myes, .int (nI InWords), .int (nI InCliffs), .int (nI InMen), .int (nI InStates), .int (nI InOns), .int InWind, .int InDraw, .int (nI Iwords), .int (nI Icliffs), .int (nI Imen), .int (nI Istates), .int Ions, .int IwindTold, .int InHasWind, .int InHasDraw, .ref Mnow, .ref Mcry, .ref Msnow, .ref Mecho, .int (nI j_3), .int IcallPlace, .int IcallVoice, .int Iwind, .int Ichance, .int (nI IechoMany), .ref Mwere, .int (nI Iacts), .int (nI Iundone), .ref Mlies, .int (nI Ilain), .ref Mspots, .ref Msteps, .ref MfromState, .ref MbyWord, .ref Mqueue, .ref MsoundCliff, .ref MsoundLong, .ref MsoundCame, .ref MsoundTold, .ref MsoundUntold, .int (nI Isounds), .int Itime, .ref Mstands, .int IstandMany, .ref Mtally, .ref MhasBox, .ref Mboxes], wI (cy 1) Mnow 42 (Gnow), wI (cy 1) Mcry 10 (fa1_4)] → va_S A s.heap H locs → ∀ ls : Array Slot, lv_has ls 3 [(2, .int (nI k4)), (0, .ref m0), (1, .int 0)] → W p l e (rmk 0 0 0) s m args below meth c H locs 0 0 Q (F0 m 15 ls []) := by
    try clear hP hD hS
    intro zn
    induction zn with
    | zero => intro k4 fa1_4 _ _ _ hz; exact absurd hz (by omega)
    | succ zn ih4 =>
      intro k4 fa1_4 ha2_4 hf0_4 hf1_4 hmu4 H locs hP hD hS ls hl
      refine lv_iload_n hx hb dX12_loadCry_15 rfl (lv_at hl 0 rfl) ?_
      refine lv_aload_n hx hb dX12_loadCry_16 rfl (lv_at hl 1 rfl) ?_
      refine va_get (D := D) (ci := 12) (v := .int (nI j_3)) (C := RX12) (T := TX12) (N := 89) hx hb hg i_X12 hown hK hP 0 rfl rfl 61 (by decide) (hg _ m_1474) (fun _ h9 => h9) rfl dX12_loadCry_17 ?_
      refine lv_icmp_ge (tgt := 46) hx hb dX12_loadCry_20 (by decide) (fun c_5 => ?_) (fun c_5 => ?_)
      · have q_6 : j_3 ≤ k4 := q_le (a := j_3) (b := k4) rfl rfl (by omega) (by omega) c_5
        exact x_vret hQ hx hb hr hlocks hK hP hD hS dX12_loadCry_46 (fa1_4, j_3) (⟨(show j_3 ≤ 10 from by first | assumption | omega), ha2_4, (show Gnow (20 : Int32).toNatClampNeg = nI j_3 from ej_3), (show ∀ i9, i9 < j_3 → fa1_4 i9 = Gnow (0 + i9) from (fun i9 h9 => hf1_4 i9 (by omega)))⟩) [0, 1, 2] (by decide +kernel) rfl (Nat.le_of_ble_eq_true rfl) (Nat.le_of_ble_eq_true rfl)
      · have q_6 : k4 < j_3 := q_nle (a := j_3) (b := k4) rfl rfl (by omega) (by omega) c_5
        refine lv_aload_n hx hb dX12_loadCry_23 rfl (lv_at hl 1 rfl) ?_
        refine va_get (D := D) (ci := 12) (v := .ref Mcry) (C := RX12) (T := TX12) (N := 89) hx hb hg i_X12 hown hK hP 0 rfl rfl 58 (by decide) (hg _ m_1471) (fun _ h9 => h9) rfl dX12_loadCry_24 ?_
        refine lv_iload_n hx hb dX12_loadCry_27 rfl (lv_at hl 0 rfl) ?_
        refine lv_aload_n hx hb dX12_loadCry_28 rfl (lv_at hl 1 rfl) ?_
        refine va_get (D := D) (ci := 12) (v := .ref Mnow) (C := RX12) (T := TX12) (N := 89) hx hb hg i_X12 hown hK hP 0 rfl rfl 57 (by decide) (hg _ m_1470) (fun _ h9 => h9) rfl dX12_loadCry_29 ?_
        refine lv_bipush (v := 10) hx hb dX12_loadCry_32 (by decide) ?_
        refine lv_iload_n hx hb dX12_loadCry_34 rfl (lv_at hl 2 rfl) ?_
        refine lv_imul hx hb dX12_loadCry_35 ?_
        refine lv_topi (fun y_7 hy_7 => ?_)
        obtain rfl : y_7 = 0 := hy_7.trans (by decide +kernel)
        refine lv_iload_n hx hb dX12_loadCry_36 rfl (lv_at hl 0 rfl) ?_
        refine lv_iadd hx hb dX12_loadCry_37 ?_
        refine lv_topi (fun y_8 hy_8 => ?_)
        obtain rfl : y_8 = nI (0 + k4) := hy_8.trans (nI_add 0 k4)
        refine va_iald hx hb hK hP 1 1 rfl rfl (vp_in_nI (by omega) (by decide)) dX12_loadCry_38 ?_
        obtain ⟨j_10, hj_10, ej_10⟩ := wR_word gnow (z := nI (0 + k4)) (T := (0 + k4)) (nI_clamp (by omega)) (by omega) (by omega)
        refine lv_topi (fun y_9 hy_9 => ?_)
        obtain rfl : y_9 = nI j_10 := hy_9.trans ej_10
        refine va_iast hx hb hK hP hD hS 2 1 rfl rfl (vp_in_nI (by omega) (by decide)) dX12_loadCry_39 (fun H locs hP9 hD9 hS9 => ?_)
        clear hP hD hS
        have hP := hP9
        have hD := hD9
        have hS := hS9
        clear hP9 hD9 hS9
        obtain ⟨g_11, eg_11⟩ : ∃ y, upd fa1_4 (nI k4 : Int32).toNatClampNeg (nI j_10) = y := ⟨_, rfl⟩
        rw [eg_11] at hP hD
        have hr_12 : rng g_11 10 7 := eg_11 ▸ rng_put ha2_4 (j := j_10) (by omega)
        replace hP : va_P D vwCl [wO m0 12 [.ref Mtape, .int (nI Itaped), .int (nI Ifault), .int IfaultPlace, .int (nI Iat), .int (nI Isize), .int Isort, .int Iplace, .int Inumber, .long Iword, .ref MnName, .ref MnStep, .ref MnArg, .ref MnMany, .ref Mstep, .ref Marg, .ref Mmany, .ref Mopen, .ref Mvalues, .ref MnHasForm, .ref MhasForm, .int (nI Iform), .int (nI Iopens), .int (nI InUnits), .int Iunits, .int (nI IownUnits), .int (nI Ideep), .ref Masks, .ref MnLoud, .ref MnCliffAt, .ref MnSnow, .ref MnManAt, .ref MnVoice, .ref MnOn, .ref Mloud, .ref McliffAt, .ref MsnowTold, .ref MmanAt, .ref Mvoice, .ref Mon, .ref MnYes, .ref Myes, .int (nI InWords), .int (nI InCliffs), .int (nI InMen), .int (nI InStates), .int (nI InOns), .int InWind, .int InDraw, .int (nI Iwords), .int (nI Icliffs), .int (nI Imen), .int (nI Istates), .int Ions, .int IwindTold, .int InHasWind, .int InHasDraw, .ref Mnow, .ref Mcry, .ref Msnow, .ref Mecho, .int (nI j_3), .int IcallPlace, .int IcallVoice, .int Iwind, .int Ichance, .int (nI IechoMany), .ref Mwere, .int (nI Iacts), .int (nI Iundone), .ref Mlies, .int (nI Ilain), .ref Mspots, .ref Msteps, .ref MfromState, .ref MbyWord, .ref Mqueue, .ref MsoundCliff, .ref MsoundLong, .ref MsoundCame, .ref MsoundTold, .ref MsoundUntold, .int (nI Isounds), .int Itime, .ref Mstands, .int IstandMany, .ref Mtally, .ref MhasBox, .ref Mboxes], wI (cy 1) Mnow 42 (Gnow), wI (cy 1) Mcry 10 (g_11)] H := hP
        replace hD : va_D A [wO m0 12 [.ref Mtape, .int (nI Itaped), .int (nI Ifault), .int IfaultPlace, .int (nI Iat), .int (nI Isize), .int Isort, .int Iplace, .int Inumber, .long Iword, .ref MnName, .ref MnStep, .ref MnArg, .ref MnMany, .ref Mstep, .ref Marg, .ref Mmany, .ref Mopen, .ref Mvalues, .ref MnHasForm, .ref MhasForm, .int (nI Iform), .int (nI Iopens), .int (nI InUnits), .int Iunits, .int (nI IownUnits), .int (nI Ideep), .ref Masks, .ref MnLoud, .ref MnCliffAt, .ref MnSnow, .ref MnManAt, .ref MnVoice, .ref MnOn, .ref Mloud, .ref McliffAt, .ref MsnowTold, .ref MmanAt, .ref Mvoice, .ref Mon, .ref MnYes, .ref Myes, .int (nI InWords), .int (nI InCliffs), .int (nI InMen), .int (nI InStates), .int (nI InOns), .int InWind, .int InDraw, .int (nI Iwords), .int (nI Icliffs), .int (nI Imen), .int (nI Istates), .int Ions, .int IwindTold, .int InHasWind, .int InHasDraw, .ref Mnow, .ref Mcry, .ref Msnow, .ref Mecho, .int (nI j_3), .int IcallPlace, .int IcallVoice, .int Iwind, .int Ichance, .int (nI IechoMany), .ref Mwere, .int (nI Iacts), .int (nI Iundone), .ref Mlies, .int (nI Ilain), .ref Mspots, .ref Msteps, .ref MfromState, .ref MbyWord, .ref Mqueue, .ref MsoundCliff, .ref MsoundLong, .ref MsoundCame, .ref MsoundTold, .ref MsoundUntold, .int (nI Isounds), .int Itime, .ref Mstands, .int IstandMany, .ref Mtally, .ref MhasBox, .ref Mboxes], wI (cy 1) Mnow 42 (Gnow), wI (cy 1) Mcry 10 (g_11)] := hD
        refine lv_iinc (v := nI (k4 + 1)) (lv' := [(2, .int (nI (k4 + 1))), (0, .ref m0), (1, .int 0)]) hx hb dX12_loadCry_40 hl (k := 0) rfl (nI_add k4 1) (by decide) rfl (fun ls hl => ?_)
        refine lv_goto (tgt := 15) hx hb dX12_loadCry_43 (by decide) ?_
        exact ih4  ((k4 + 1)) g_11 hr_12 (by first | assumption | omega) (lcw_put (b := 0) (by omega) hf1_4 (by rw [← ej_10, nI_clamp (by omega)]) eg_11) (by omega) _ _ (hP.sub [0, 1, 2] rfl) (hD.sub [0, 1, 2] (by decide +kernel) rfl) hS ls (lv_sub hl [0, 1, 2] rfl)
  exact loop4 _ 0 Gcry gcry (by first | assumption | omega) (fun i9 h9 => absurd h9 (Nat.not_lt_zero i9)) (Nat.le_refl _) _ _ (hP.sub [0, 1, 2] rfl) (hD.sub [0, 1, 2] (by decide +kernel) rfl) hS ls (lv_sub hl [0, 1, 2] rfl)
set_option maxHeartbeats 1000000 in
set_option maxRecDepth 100000 in
theorem r_loadCry1 (l : Launch) (D : va_G) (cy : Nat → ClassId) (m0 : Nat) (Mtape : Nat) (MnName : Nat) (MnStep : Nat) (MnArg : Nat) (MnMany : Nat) (Mstep : Nat) (Marg : Nat) (Mmany : Nat) (Mopen : Nat) (Mvalues : Nat) (MnHasForm : Nat) (MhasForm : Nat) (Masks : Nat) (MnLoud : Nat) (MnCliffAt : Nat) (MnSnow : Nat) (MnManAt : Nat) (MnVoice : Nat) (MnOn : Nat) (Mloud : Nat) (McliffAt : Nat) (MsnowTold : Nat) (MmanAt : Nat) (Mvoice : Nat) (Mon : Nat) (MnYes : Nat) (Myes : Nat) (Mnow : Nat) (Mcry : Nat) (Msnow : Nat) (Mecho : Nat) (Mwere : Nat) (Mlies : Nat) (Mspots : Nat) (Msteps : Nat) (MfromState : Nat) (MbyWord : Nat) (Mqueue : Nat) (MsoundCliff : Nat) (MsoundLong : Nat) (MsoundCame : Nat) (MsoundTold : Nat) (MsoundUntold : Nat) (Mstands : Nat) (Mtally : Nat) (MhasBox : Nat) (Mboxes : Nat) (Itaped : Nat) (Ifault : Nat) (IfaultPlace : Int32) (Iat : Nat) (Isize : Nat) (Isort : Int32) (Iplace : Int32) (Inumber : Int32) (Iword : Int64) (Iform : Nat) (Iopens : Nat) (InUnits : Nat) (Iunits : Int32) (IownUnits : Nat) (Ideep : Nat) (InWords : Nat) (InCliffs : Nat) (InMen : Nat) (InStates : Nat) (InOns : Nat) (InWind : Int32) (InDraw : Int32) (Iwords : Nat) (Icliffs : Nat) (Imen : Nat) (Istates : Nat) (Ions : Int32) (IwindTold : Int32) (InHasWind : Int32) (InHasDraw : Int32) (Gnow : Nat → Int32) (Gcry : Nat → Int32) (IcryMany : Nat) (IcallPlace : Int32) (IcallVoice : Int32) (Iwind : Int32) (Ichance : Int32) (IechoMany : Nat) (Iacts : Nat) (Iundone : Nat) (Ilain : Nat) (Isounds : Nat) (Itime : Int32) (IstandMany : Int32) (gtp : Itaped ≤ 1600) (gat : Iat ≤ Isize) (gsz : Isize ≤ 1600) (gfl : Ifault ≤ 5) (gfo : Iform ≤ 2) (gnw : InWords ≤ 8) (gnc : InCliffs ≤ 4) (gnm : InMen ≤ 4) (gns : InStates ≤ 6) (gw : Iwords ≤ 8) (gc9 : Icliffs ≤ 4) (gm : Imen ≤ 4) (gs : Istates ≤ 6) (gcm : IcryMany ≤ 10) (gem : IechoMany ≤ 20) (gau : Iacts + Iundone ≤ 40) (gla : Ilain ≤ 20) (gso : Isounds ≤ 30) (gop : Iopens ≤ 40) (gde : Ideep ≤ 8) (gou : IownUnits ≤ 31) (gnu : InUnits ≤ 61) (gno : InOns ≤ 30) (gcry : rng Gcry 10 7) (gnow : wRows Gnow 1) : XMv l D (tyL cy) E0 yX12_loadCry cX12_loadCry 3 none (rmk 0 0 0) [.ref m0, .int 1] [wO m0 12 [.ref Mtape, .int (nI Itaped), .int (nI Ifault), .int IfaultPlace, .int (nI Iat), .int (nI Isize), .int Isort, .int Iplace, .int Inumber, .long Iword, .ref MnName, .ref MnStep, .ref MnArg, .ref MnMany, .ref Mstep, .ref Marg, .ref Mmany, .ref Mopen, .ref Mvalues, .ref MnHasForm, .ref MhasForm, .int (nI Iform), .int (nI Iopens), .int (nI InUnits), .int Iunits, .int (nI IownUnits), .int (nI Ideep), .ref Masks, .ref MnLoud, .ref MnCliffAt, .ref MnSnow, .ref MnManAt, .ref MnVoice, .ref MnOn, .ref Mloud, .ref McliffAt, .ref MsnowTold, .ref MmanAt, .ref Mvoice, .ref Mon, .ref MnYes, .ref Myes, .int (nI InWords), .int (nI InCliffs), .int (nI InMen), .int (nI InStates), .int (nI InOns), .int InWind, .int InDraw, .int (nI Iwords), .int (nI Icliffs), .int (nI Imen), .int (nI Istates), .int Ions, .int IwindTold, .int InHasWind, .int InHasDraw, .ref Mnow, .ref Mcry, .ref Msnow, .ref Mecho, .int (nI IcryMany), .int IcallPlace, .int IcallVoice, .int Iwind, .int Ichance, .int (nI IechoMany), .ref Mwere, .int (nI Iacts), .int (nI Iundone), .ref Mlies, .int (nI Ilain), .ref Mspots, .ref Msteps, .ref MfromState, .ref MbyWord, .ref Mqueue, .ref MsoundCliff, .ref MsoundLong, .ref MsoundCame, .ref MsoundTold, .ref MsoundUntold, .int (nI Isounds), .int Itime, .ref Mstands, .int IstandMany, .ref Mtally, .ref MhasBox, .ref Mboxes], wI (cy 1) Mnow 42 (Gnow), wI (cy 1) Mcry 10 (Gcry)] (fun (u : (Nat → Int32) × Nat) => (u.2 ≤ 10) ∧ (rng u.1 10 7) ∧ (Gnow (21 : Int32).toNatClampNeg = nI u.2) ∧ (∀ i9, i9 < u.2 → u.1 i9 = Gnow (10 + i9))) (fun (u : (Nat → Int32) × Nat) => [wO m0 12 [.ref Mtape, .int (nI Itaped), .int (nI Ifault), .int IfaultPlace, .int (nI Iat), .int (nI Isize), .int Isort, .int Iplace, .int Inumber, .long Iword, .ref MnName, .ref MnStep, .ref MnArg, .ref MnMany, .ref Mstep, .ref Marg, .ref Mmany, .ref Mopen, .ref Mvalues, .ref MnHasForm, .ref MhasForm, .int (nI Iform), .int (nI Iopens), .int (nI InUnits), .int Iunits, .int (nI IownUnits), .int (nI Ideep), .ref Masks, .ref MnLoud, .ref MnCliffAt, .ref MnSnow, .ref MnManAt, .ref MnVoice, .ref MnOn, .ref Mloud, .ref McliffAt, .ref MsnowTold, .ref MmanAt, .ref Mvoice, .ref Mon, .ref MnYes, .ref Myes, .int (nI InWords), .int (nI InCliffs), .int (nI InMen), .int (nI InStates), .int (nI InOns), .int InWind, .int InDraw, .int (nI Iwords), .int (nI Icliffs), .int (nI Imen), .int (nI Istates), .int Ions, .int IwindTold, .int InHasWind, .int InHasDraw, .ref Mnow, .ref Mcry, .ref Msnow, .ref Mecho, .int (nI u.2), .int IcallPlace, .int IcallVoice, .int Iwind, .int Ichance, .int (nI IechoMany), .ref Mwere, .int (nI Iacts), .int (nI Iundone), .ref Mlies, .int (nI Ilain), .ref Mspots, .ref Msteps, .ref MfromState, .ref MbyWord, .ref Mqueue, .ref MsoundCliff, .ref MsoundLong, .ref MsoundCame, .ref MsoundTold, .ref MsoundUntold, .int (nI Isounds), .int Itime, .ref Mstands, .int IstandMany, .ref Mtally, .ref MhasBox, .ref Mboxes], wI (cy 1) Mnow 42 (Gnow), wI (cy 1) Mcry 10 (u.1)]) := by
  refine XMv.start (by decide) (Nat.le_of_ble_eq_true rfl) ?_
  intro p e s m below meth c args A ls Q hat hQ
  obtain ⟨hx, hb, hr, hml, hown, hg, hlocks, hin, hK, hA, hP, hD, hS, hE, hl⟩ := hat
  have hown : s.vm.findClass RX12 = some m.cls := hown
  have hl : lv_has ls 3 [(0, .ref m0), (1, .int 1)] := hl
  refine lv_aload_n hx hb dX12_loadCry_0 rfl (lv_at hl 0 rfl) ?_
  refine lv_aload_n hx hb dX12_loadCry_1 rfl (lv_at hl 0 rfl) ?_
  refine va_get (D := D) (ci := 12) (v := .ref Mnow) (C := RX12) (T := TX12) (N := 89) hx hb hg i_X12 hown hK hP 0 rfl rfl 57 (by decide) (hg _ m_1470) (fun _ h9 => h9) rfl dX12_loadCry_2 ?_
  refine lv_bipush (v := 20) hx hb dX12_loadCry_5 (by decide) ?_
  refine lv_iload_n hx hb dX12_loadCry_7 rfl (lv_at hl 1 rfl) ?_
  refine lv_iadd hx hb dX12_loadCry_8 ?_
  refine lv_topi (fun y_1 hy_1 => ?_)
  obtain rfl : y_1 = 21 := hy_1.trans (by decide +kernel)
  refine va_iald hx hb hK hP 1 1 rfl rfl (by unfold vp_in; decide) dX12_loadCry_9 ?_
  obtain ⟨j_3, hj_3, ej_3⟩ := wR_len gnow (z := 21) (T := 21) (by decide) (by omega) (by omega)
  refine lv_topi (fun y_2 hy_2 => ?_)
  obtain rfl : y_2 = nI j_3 := hy_2.trans ej_3
  refine va_put (D := D) (ci := 12) (v := .int (nI j_3)) (ty := .int) (C := RX12) (T := TX12) (N := 89) hx hb hg i_X12 tyX12 tyX12_ok nmX12 hown hK hP hD hS 0 rfl rfl 61 (by decide) (hg _ m_1474) (fun _ h9 => h9) rfl (by decide +kernel) rfl rfl (Nat.le_of_ble_eq_true rfl) dX12_loadCry_10 (fun H locs hP9 hD9 hS9 => ?_)
  clear hP hD hS
  refine reW [wO m0 12 [.ref Mtape, .int (nI Itaped), .int (nI Ifault), .int IfaultPlace, .int (nI Iat), .int (nI Isize), .int Isort, .int Iplace, .int Inumber, .long Iword, .ref MnName, .ref MnStep, .ref MnArg, .ref MnMany, .ref Mstep, .ref Marg, .ref Mmany, .ref Mopen, .ref Mvalues, .ref MnHasForm, .ref MhasForm, .int (nI Iform), .int (nI Iopens), .int (nI InUnits), .int Iunits, .int (nI IownUnits), .int (nI Ideep), .ref Masks, .ref MnLoud, .ref MnCliffAt, .ref MnSnow, .ref MnManAt, .ref MnVoice, .ref MnOn, .ref Mloud, .ref McliffAt, .ref MsnowTold, .ref MmanAt, .ref Mvoice, .ref Mon, .ref MnYes, .ref Myes, .int (nI InWords), .int (nI InCliffs), .int (nI InMen), .int (nI InStates), .int (nI InOns), .int InWind, .int InDraw, .int (nI Iwords), .int (nI Icliffs), .int (nI Imen), .int (nI Istates), .int Ions, .int IwindTold, .int InHasWind, .int InHasDraw, .ref Mnow, .ref Mcry, .ref Msnow, .ref Mecho, .int (nI j_3), .int IcallPlace, .int IcallVoice, .int Iwind, .int Ichance, .int (nI IechoMany), .ref Mwere, .int (nI Iacts), .int (nI Iundone), .ref Mlies, .int (nI Ilain), .ref Mspots, .ref Msteps, .ref MfromState, .ref MbyWord, .ref Mqueue, .ref MsoundCliff, .ref MsoundLong, .ref MsoundCame, .ref MsoundTold, .ref MsoundUntold, .int (nI Isounds), .int Itime, .ref Mstands, .int IstandMany, .ref Mtally, .ref MhasBox, .ref Mboxes], wI (cy 1) Mnow 42 (Gnow), wI (cy 1) Mcry 10 (Gcry)] hP9 hD9 hS9 (fun hP hD hS => ?_)
  clear hP9 hD9 hS9
  refine lv_iconst (v := 0) hx hb dX12_loadCry_13 (by decide) ?_
  refine lv_istore_n (lv' := [(2, .int 0), (0, .ref m0), (1, .int 1)]) hx hb dX12_loadCry_14 rfl hl (by decide) rfl (fun ls hl => ?_)
  have loop4 : ∀ (zn : Nat) (k4 : Nat) (fa1_4 : Nat → Int32), (rng fa1_4 10 7) → (k4 ≤ 10) → (∀ i9, i9 < k4 → fa1_4 i9 = Gnow (10 + i9)) → 10 - k4 + 1 ≤ zn → ∀ (H : Heap) (locs : List Loc), va_P D vwCl [wO m0 12 [.ref Mtape, .int (nI Itaped), .int (nI Ifault), .int IfaultPlace, .int (nI Iat), .int (nI Isize), .int Isort, .int Iplace, .int Inumber, .long Iword, .ref MnName, .ref MnStep, .ref MnArg, .ref MnMany, .ref Mstep, .ref Marg, .ref Mmany, .ref Mopen, .ref Mvalues, .ref MnHasForm, .ref MhasForm, .int (nI Iform), .int (nI Iopens), .int (nI InUnits), .int Iunits, .int (nI IownUnits), .int (nI Ideep), .ref Masks, .ref MnLoud, .ref MnCliffAt, .ref MnSnow, .ref MnManAt, .ref MnVoice, .ref MnOn, .ref Mloud, .ref McliffAt, .ref MsnowTold, .ref MmanAt, .ref Mvoice, .ref Mon, .ref MnYes, .ref Myes, .int (nI InWords), .int (nI InCliffs), .int (nI InMen), .int (nI InStates), .int (nI InOns), .int InWind, .int InDraw, .int (nI Iwords), .int (nI Icliffs), .int (nI Imen), .int (nI Istates), .int Ions, .int IwindTold, .int InHasWind, .int InHasDraw, .ref Mnow, .ref Mcry, .ref Msnow, .ref Mecho, .int (nI j_3), .int IcallPlace, .int IcallVoice, .int Iwind, .int Ichance, .int (nI IechoMany), .ref Mwere, .int (nI Iacts), .int (nI Iundone), .ref Mlies, .int (nI Ilain), .ref Mspots, .ref Msteps, .ref MfromState, .ref MbyWord, .ref Mqueue, .ref MsoundCliff, .ref MsoundLong, .ref MsoundCame, .ref MsoundTold, .ref MsoundUntold, .int (nI Isounds), .int Itime, .ref Mstands, .int IstandMany, .ref Mtally, .ref MhasBox, .ref Mboxes], wI (cy 1) Mnow 42 (Gnow), wI (cy 1) Mcry 10 (fa1_4)] H → va_D A [wO m0 12 [.ref Mtape, .int (nI Itaped), .int (nI Ifault), .int IfaultPlace, .int (nI Iat), .int (nI Isize), .int Isort, .int Iplace, .int Inumber, .long Iword, .ref MnName, .ref MnStep, .ref MnArg, .ref MnMany, .ref Mstep, .ref Marg, .ref Mmany, .ref Mopen, .ref Mvalues, .ref MnHasForm, .ref MhasForm, .int (nI Iform), .int (nI Iopens), .int (nI InUnits), .int Iunits, .int (nI IownUnits), .int (nI Ideep), .ref Masks, .ref MnLoud, .ref MnCliffAt, .ref MnSnow, .ref MnManAt, .ref MnVoice, .ref MnOn, .ref Mloud, .ref McliffAt, .ref MsnowTold, .ref MmanAt, .ref Mvoice, .ref Mon, .ref MnYes, .ref Myes, .int (nI InWords), .int (nI InCliffs), .int (nI InMen), .int (nI InStates), .int (nI InOns), .int InWind, .int InDraw, .int (nI Iwords), .int (nI Icliffs), .int (nI Imen), .int (nI Istates), .int Ions, .int IwindTold, .int InHasWind, .int InHasDraw, .ref Mnow, .ref Mcry, .ref Msnow, .ref Mecho, .int (nI j_3), .int IcallPlace, .int IcallVoice, .int Iwind, .int Ichance, .int (nI IechoMany), .ref Mwere, .int (nI Iacts), .int (nI Iundone), .ref Mlies, .int (nI Ilain), .ref Mspots, .ref Msteps, .ref MfromState, .ref MbyWord, .ref Mqueue, .ref MsoundCliff, .ref MsoundLong, .ref MsoundCame, .ref MsoundTold, .ref MsoundUntold, .int (nI Isounds), .int Itime, .ref Mstands, .int IstandMany, .ref Mtally, .ref MhasBox, .ref Mboxes], wI (cy 1) Mnow 42 (Gnow), wI (cy 1) Mcry 10 (fa1_4)] → va_S A s.heap H locs → ∀ ls : Array Slot, lv_has ls 3 [(2, .int (nI k4)), (0, .ref m0), (1, .int 1)] → W p l e (rmk 0 0 0) s m args below meth c H locs 0 0 Q (F0 m 15 ls []) := by
    try clear hP hD hS
    intro zn
    induction zn with
    | zero => intro k4 fa1_4 _ _ _ hz; exact absurd hz (by omega)
    | succ zn ih4 =>
      intro k4 fa1_4 ha2_4 hf0_4 hf1_4 hmu4 H locs hP hD hS ls hl
      refine lv_iload_n hx hb dX12_loadCry_15 rfl (lv_at hl 0 rfl) ?_
      refine lv_aload_n hx hb dX12_loadCry_16 rfl (lv_at hl 1 rfl) ?_
      refine va_get (D := D) (ci := 12) (v := .int (nI j_3)) (C := RX12) (T := TX12) (N := 89) hx hb hg i_X12 hown hK hP 0 rfl rfl 61 (by decide) (hg _ m_1474) (fun _ h9 => h9) rfl dX12_loadCry_17 ?_
      refine lv_icmp_ge (tgt := 46) hx hb dX12_loadCry_20 (by decide) (fun c_5 => ?_) (fun c_5 => ?_)
      · have q_6 : j_3 ≤ k4 := q_le (a := j_3) (b := k4) rfl rfl (by omega) (by omega) c_5
        exact x_vret hQ hx hb hr hlocks hK hP hD hS dX12_loadCry_46 (fa1_4, j_3) (⟨(show j_3 ≤ 10 from by first | assumption | omega), ha2_4, (show Gnow (21 : Int32).toNatClampNeg = nI j_3 from ej_3), (show ∀ i9, i9 < j_3 → fa1_4 i9 = Gnow (10 + i9) from (fun i9 h9 => hf1_4 i9 (by omega)))⟩) [0, 1, 2] (by decide +kernel) rfl (Nat.le_of_ble_eq_true rfl) (Nat.le_of_ble_eq_true rfl)
      · have q_6 : k4 < j_3 := q_nle (a := j_3) (b := k4) rfl rfl (by omega) (by omega) c_5
        refine lv_aload_n hx hb dX12_loadCry_23 rfl (lv_at hl 1 rfl) ?_
        refine va_get (D := D) (ci := 12) (v := .ref Mcry) (C := RX12) (T := TX12) (N := 89) hx hb hg i_X12 hown hK hP 0 rfl rfl 58 (by decide) (hg _ m_1471) (fun _ h9 => h9) rfl dX12_loadCry_24 ?_
        refine lv_iload_n hx hb dX12_loadCry_27 rfl (lv_at hl 0 rfl) ?_
        refine lv_aload_n hx hb dX12_loadCry_28 rfl (lv_at hl 1 rfl) ?_
        refine va_get (D := D) (ci := 12) (v := .ref Mnow) (C := RX12) (T := TX12) (N := 89) hx hb hg i_X12 hown hK hP 0 rfl rfl 57 (by decide) (hg _ m_1470) (fun _ h9 => h9) rfl dX12_loadCry_29 ?_
        refine lv_bipush (v := 10) hx hb dX12_loadCry_32 (by decide) ?_
        refine lv_iload_n hx hb dX12_loadCry_34 rfl (lv_at hl 2 rfl) ?_
        refine lv_imul hx hb dX12_loadCry_35 ?_
        refine lv_topi (fun y_7 hy_7 => ?_)
        obtain rfl : y_7 = 10 := hy_7.trans (by decide +kernel)
        refine lv_iload_n hx hb dX12_loadCry_36 rfl (lv_at hl 0 rfl) ?_
        refine lv_iadd hx hb dX12_loadCry_37 ?_
        refine lv_topi (fun y_8 hy_8 => ?_)
        obtain rfl : y_8 = nI (10 + k4) := hy_8.trans (nI_add 10 k4)
        refine va_iald hx hb hK hP 1 1 rfl rfl (vp_in_nI (by omega) (by decide)) dX12_loadCry_38 ?_
        obtain ⟨j_10, hj_10, ej_10⟩ := wR_word gnow (z := nI (10 + k4)) (T := (10 + k4)) (nI_clamp (by omega)) (by omega) (by omega)
        refine lv_topi (fun y_9 hy_9 => ?_)
        obtain rfl : y_9 = nI j_10 := hy_9.trans ej_10
        refine va_iast hx hb hK hP hD hS 2 1 rfl rfl (vp_in_nI (by omega) (by decide)) dX12_loadCry_39 (fun H locs hP9 hD9 hS9 => ?_)
        clear hP hD hS
        have hP := hP9
        have hD := hD9
        have hS := hS9
        clear hP9 hD9 hS9
        obtain ⟨g_11, eg_11⟩ : ∃ y, upd fa1_4 (nI k4 : Int32).toNatClampNeg (nI j_10) = y := ⟨_, rfl⟩
        rw [eg_11] at hP hD
        have hr_12 : rng g_11 10 7 := eg_11 ▸ rng_put ha2_4 (j := j_10) (by omega)
        replace hP : va_P D vwCl [wO m0 12 [.ref Mtape, .int (nI Itaped), .int (nI Ifault), .int IfaultPlace, .int (nI Iat), .int (nI Isize), .int Isort, .int Iplace, .int Inumber, .long Iword, .ref MnName, .ref MnStep, .ref MnArg, .ref MnMany, .ref Mstep, .ref Marg, .ref Mmany, .ref Mopen, .ref Mvalues, .ref MnHasForm, .ref MhasForm, .int (nI Iform), .int (nI Iopens), .int (nI InUnits), .int Iunits, .int (nI IownUnits), .int (nI Ideep), .ref Masks, .ref MnLoud, .ref MnCliffAt, .ref MnSnow, .ref MnManAt, .ref MnVoice, .ref MnOn, .ref Mloud, .ref McliffAt, .ref MsnowTold, .ref MmanAt, .ref Mvoice, .ref Mon, .ref MnYes, .ref Myes, .int (nI InWords), .int (nI InCliffs), .int (nI InMen), .int (nI InStates), .int (nI InOns), .int InWind, .int InDraw, .int (nI Iwords), .int (nI Icliffs), .int (nI Imen), .int (nI Istates), .int Ions, .int IwindTold, .int InHasWind, .int InHasDraw, .ref Mnow, .ref Mcry, .ref Msnow, .ref Mecho, .int (nI j_3), .int IcallPlace, .int IcallVoice, .int Iwind, .int Ichance, .int (nI IechoMany), .ref Mwere, .int (nI Iacts), .int (nI Iundone), .ref Mlies, .int (nI Ilain), .ref Mspots, .ref Msteps, .ref MfromState, .ref MbyWord, .ref Mqueue, .ref MsoundCliff, .ref MsoundLong, .ref MsoundCame, .ref MsoundTold, .ref MsoundUntold, .int (nI Isounds), .int Itime, .ref Mstands, .int IstandMany, .ref Mtally, .ref MhasBox, .ref Mboxes], wI (cy 1) Mnow 42 (Gnow), wI (cy 1) Mcry 10 (g_11)] H := hP
        replace hD : va_D A [wO m0 12 [.ref Mtape, .int (nI Itaped), .int (nI Ifault), .int IfaultPlace, .int (nI Iat), .int (nI Isize), .int Isort, .int Iplace, .int Inumber, .long Iword, .ref MnName, .ref MnStep, .ref MnArg, .ref MnMany, .ref Mstep, .ref Marg, .ref Mmany, .ref Mopen, .ref Mvalues, .ref MnHasForm, .ref MhasForm, .int (nI Iform), .int (nI Iopens), .int (nI InUnits), .int Iunits, .int (nI IownUnits), .int (nI Ideep), .ref Masks, .ref MnLoud, .ref MnCliffAt, .ref MnSnow, .ref MnManAt, .ref MnVoice, .ref MnOn, .ref Mloud, .ref McliffAt, .ref MsnowTold, .ref MmanAt, .ref Mvoice, .ref Mon, .ref MnYes, .ref Myes, .int (nI InWords), .int (nI InCliffs), .int (nI InMen), .int (nI InStates), .int (nI InOns), .int InWind, .int InDraw, .int (nI Iwords), .int (nI Icliffs), .int (nI Imen), .int (nI Istates), .int Ions, .int IwindTold, .int InHasWind, .int InHasDraw, .ref Mnow, .ref Mcry, .ref Msnow, .ref Mecho, .int (nI j_3), .int IcallPlace, .int IcallVoice, .int Iwind, .int Ichance, .int (nI IechoMany), .ref Mwere, .int (nI Iacts), .int (nI Iundone), .ref Mlies, .int (nI Ilain), .ref Mspots, .ref Msteps, .ref MfromState, .ref MbyWord, .ref Mqueue, .ref MsoundCliff, .ref MsoundLong, .ref MsoundCame, .ref MsoundTold, .ref MsoundUntold, .int (nI Isounds), .int Itime, .ref Mstands, .int IstandMany, .ref Mtally, .ref MhasBox, .ref Mboxes], wI (cy 1) Mnow 42 (Gnow), wI (cy 1) Mcry 10 (g_11)] := hD
        refine lv_iinc (v := nI (k4 + 1)) (lv' := [(2, .int (nI (k4 + 1))), (0, .ref m0), (1, .int 1)]) hx hb dX12_loadCry_40 hl (k := 0) rfl (nI_add k4 1) (by decide) rfl (fun ls hl => ?_)
        refine lv_goto (tgt := 15) hx hb dX12_loadCry_43 (by decide) ?_
        exact ih4  ((k4 + 1)) g_11 hr_12 (by first | assumption | omega) (lcw_put (b := 10) (by omega) hf1_4 (by rw [← ej_10, nI_clamp (by omega)]) eg_11) (by omega) _ _ (hP.sub [0, 1, 2] rfl) (hD.sub [0, 1, 2] (by decide +kernel) rfl) hS ls (lv_sub hl [0, 1, 2] rfl)
  exact loop4 _ 0 Gcry gcry (by first | assumption | omega) (fun i9 h9 => absurd h9 (Nat.not_lt_zero i9)) (Nat.le_refl _) _ _ (hP.sub [0, 1, 2] rfl) (hD.sub [0, 1, 2] (by decide +kernel) rfl) hS ls (lv_sub hl [0, 1, 2] rfl)
theorem gdX12_loadMan_0 : decode cX12_loadMan 0 = .ok (.aload_n 0, 1) ∧ decode cX12_loadMan 1 = .ok (.aload_n 0, 1) ∧ decode cX12_loadMan 2 = .ok (.getfield 82, 3) ∧ decode cX12_loadMan 5 = .ok (.iload_n 1, 1) ∧ decode cX12_loadMan 6 = .ok (.iaload, 1) ∧ decode cX12_loadMan 7 = .ok (.putfield 449, 3) ∧ decode cX12_loadMan 10 = .ok (.aload_n 0, 1) ∧ decode cX12_loadMan 11 = .ok (.aload_n 0, 1) ∧ decode cX12_loadMan 12 = .ok (.getfield 85, 3) ∧ decode cX12_loadMan 15 = .ok (.iload_n 1, 1) ∧ decode cX12_loadMan 16 = .ok (.iaload, 1) ∧ decode cX12_loadMan 17 = .ok (.putfield 452, 3) := by decide +kernel
theorem dX12_loadMan_0 : decode cX12_loadMan 0 = .ok (.aload_n 0, 1) := gdX12_loadMan_0.1
theorem dX12_loadMan_1 : decode cX12_loadMan 1 = .ok (.aload_n 0, 1) := gdX12_loadMan_0.2.1
theorem dX12_loadMan_2 : decode cX12_loadMan 2 = .ok (.getfield 82, 3) := gdX12_loadMan_0.2.2.1
theorem dX12_loadMan_5 : decode cX12_loadMan 5 = .ok (.iload_n 1, 1) := gdX12_loadMan_0.2.2.2.1
theorem dX12_loadMan_6 : decode cX12_loadMan 6 = .ok (.iaload, 1) := gdX12_loadMan_0.2.2.2.2.1
theorem dX12_loadMan_7 : decode cX12_loadMan 7 = .ok (.putfield 449, 3) := gdX12_loadMan_0.2.2.2.2.2.1
theorem dX12_loadMan_10 : decode cX12_loadMan 10 = .ok (.aload_n 0, 1) := gdX12_loadMan_0.2.2.2.2.2.2.1
theorem dX12_loadMan_11 : decode cX12_loadMan 11 = .ok (.aload_n 0, 1) := gdX12_loadMan_0.2.2.2.2.2.2.2.1
theorem dX12_loadMan_12 : decode cX12_loadMan 12 = .ok (.getfield 85, 3) := gdX12_loadMan_0.2.2.2.2.2.2.2.2.1
theorem dX12_loadMan_15 : decode cX12_loadMan 15 = .ok (.iload_n 1, 1) := gdX12_loadMan_0.2.2.2.2.2.2.2.2.2.1
theorem dX12_loadMan_16 : decode cX12_loadMan 16 = .ok (.iaload, 1) := gdX12_loadMan_0.2.2.2.2.2.2.2.2.2.2.1
theorem dX12_loadMan_17 : decode cX12_loadMan 17 = .ok (.putfield 452, 3) := gdX12_loadMan_0.2.2.2.2.2.2.2.2.2.2.2
theorem dX12_loadMan_20 : decode cX12_loadMan 20 = .ok (.return_, 1) := by decide +kernel
set_option maxHeartbeats 1000000 in
set_option maxRecDepth 100000 in
theorem r_loadMan (l : Launch) (D : va_G) (cy : Nat → ClassId) (m0 : Nat) (Mtape : Nat) (MnName : Nat) (MnStep : Nat) (MnArg : Nat) (MnMany : Nat) (Mstep : Nat) (Marg : Nat) (Mmany : Nat) (Mopen : Nat) (Mvalues : Nat) (MnHasForm : Nat) (MhasForm : Nat) (Masks : Nat) (MnLoud : Nat) (MnCliffAt : Nat) (MnSnow : Nat) (MnManAt : Nat) (MnVoice : Nat) (MnOn : Nat) (Mloud : Nat) (McliffAt : Nat) (MsnowTold : Nat) (MmanAt : Nat) (Mvoice : Nat) (Mon : Nat) (MnYes : Nat) (Myes : Nat) (Mnow : Nat) (Mcry : Nat) (Msnow : Nat) (Mecho : Nat) (Mwere : Nat) (Mlies : Nat) (Mspots : Nat) (Msteps : Nat) (MfromState : Nat) (MbyWord : Nat) (Mqueue : Nat) (MsoundCliff : Nat) (MsoundLong : Nat) (MsoundCame : Nat) (MsoundTold : Nat) (MsoundUntold : Nat) (Mstands : Nat) (Mtally : Nat) (MhasBox : Nat) (Mboxes : Nat) (Itaped : Nat) (Ifault : Nat) (IfaultPlace : Int32) (Iat : Nat) (Isize : Nat) (Isort : Int32) (Iplace : Int32) (Inumber : Int32) (Iword : Int64) (Iform : Nat) (Iopens : Nat) (InUnits : Nat) (Iunits : Int32) (IownUnits : Nat) (Ideep : Nat) (GmanAt : Nat → Int32) (Gvoice : Nat → Int32) (InWords : Nat) (InCliffs : Nat) (InMen : Nat) (InStates : Nat) (InOns : Nat) (InWind : Int32) (InDraw : Int32) (Iwords : Nat) (Icliffs : Nat) (Imen : Nat) (Istates : Nat) (Ions : Int32) (IwindTold : Int32) (InHasWind : Int32) (InHasDraw : Int32) (IcryMany : Nat) (IcallPlace : Int32) (IcallVoice : Int32) (Iwind : Int32) (Ichance : Int32) (IechoMany : Nat) (Iacts : Nat) (Iundone : Nat) (Ilain : Nat) (Isounds : Nat) (Itime : Int32) (IstandMany : Int32) (j : Nat) (gtp : Itaped ≤ 1600) (gat : Iat ≤ Isize) (gsz : Isize ≤ 1600) (gfl : Ifault ≤ 5) (gfo : Iform ≤ 2) (gnw : InWords ≤ 8) (gnc : InCliffs ≤ 4) (gnm : InMen ≤ 4) (gns : InStates ≤ 6) (gw : Iwords ≤ 8) (gc9 : Icliffs ≤ 4) (gm : Imen ≤ 4) (gs : Istates ≤ 6) (gcm : IcryMany ≤ 10) (gem : IechoMany ≤ 20) (gau : Iacts + Iundone ≤ 40) (gla : Ilain ≤ 20) (gso : Isounds ≤ 30) (gop : Iopens ≤ 40) (gde : Ideep ≤ 8) (gou : IownUnits ≤ 31) (gnu : InUnits ≤ 61) (gno : InOns ≤ 30) (hj : j < 4) : XMv l D (tyL cy) E0 yX12_loadMan cX12_loadMan 2 none (rmk 0 0 0) [.ref m0, .int (nI j)] [wO m0 12 [.ref Mtape, .int (nI Itaped), .int (nI Ifault), .int IfaultPlace, .int (nI Iat), .int (nI Isize), .int Isort, .int Iplace, .int Inumber, .long Iword, .ref MnName, .ref MnStep, .ref MnArg, .ref MnMany, .ref Mstep, .ref Marg, .ref Mmany, .ref Mopen, .ref Mvalues, .ref MnHasForm, .ref MhasForm, .int (nI Iform), .int (nI Iopens), .int (nI InUnits), .int Iunits, .int (nI IownUnits), .int (nI Ideep), .ref Masks, .ref MnLoud, .ref MnCliffAt, .ref MnSnow, .ref MnManAt, .ref MnVoice, .ref MnOn, .ref Mloud, .ref McliffAt, .ref MsnowTold, .ref MmanAt, .ref Mvoice, .ref Mon, .ref MnYes, .ref Myes, .int (nI InWords), .int (nI InCliffs), .int (nI InMen), .int (nI InStates), .int (nI InOns), .int InWind, .int InDraw, .int (nI Iwords), .int (nI Icliffs), .int (nI Imen), .int (nI Istates), .int Ions, .int IwindTold, .int InHasWind, .int InHasDraw, .ref Mnow, .ref Mcry, .ref Msnow, .ref Mecho, .int (nI IcryMany), .int IcallPlace, .int IcallVoice, .int Iwind, .int Ichance, .int (nI IechoMany), .ref Mwere, .int (nI Iacts), .int (nI Iundone), .ref Mlies, .int (nI Ilain), .ref Mspots, .ref Msteps, .ref MfromState, .ref MbyWord, .ref Mqueue, .ref MsoundCliff, .ref MsoundLong, .ref MsoundCame, .ref MsoundTold, .ref MsoundUntold, .int (nI Isounds), .int Itime, .ref Mstands, .int IstandMany, .ref Mtally, .ref MhasBox, .ref Mboxes], wI (cy 1) MmanAt 4 (GmanAt), wI (cy 1) Mvoice 4 (Gvoice)] (fun (u : Int32 × Int32) => (u.1 = GmanAt j ∧ u.2 = Gvoice j)) (fun (u : Int32 × Int32) => [wO m0 12 [.ref Mtape, .int (nI Itaped), .int (nI Ifault), .int IfaultPlace, .int (nI Iat), .int (nI Isize), .int Isort, .int Iplace, .int Inumber, .long Iword, .ref MnName, .ref MnStep, .ref MnArg, .ref MnMany, .ref Mstep, .ref Marg, .ref Mmany, .ref Mopen, .ref Mvalues, .ref MnHasForm, .ref MhasForm, .int (nI Iform), .int (nI Iopens), .int (nI InUnits), .int Iunits, .int (nI IownUnits), .int (nI Ideep), .ref Masks, .ref MnLoud, .ref MnCliffAt, .ref MnSnow, .ref MnManAt, .ref MnVoice, .ref MnOn, .ref Mloud, .ref McliffAt, .ref MsnowTold, .ref MmanAt, .ref Mvoice, .ref Mon, .ref MnYes, .ref Myes, .int (nI InWords), .int (nI InCliffs), .int (nI InMen), .int (nI InStates), .int (nI InOns), .int InWind, .int InDraw, .int (nI Iwords), .int (nI Icliffs), .int (nI Imen), .int (nI Istates), .int Ions, .int IwindTold, .int InHasWind, .int InHasDraw, .ref Mnow, .ref Mcry, .ref Msnow, .ref Mecho, .int (nI IcryMany), .int u.1, .int u.2, .int Iwind, .int Ichance, .int (nI IechoMany), .ref Mwere, .int (nI Iacts), .int (nI Iundone), .ref Mlies, .int (nI Ilain), .ref Mspots, .ref Msteps, .ref MfromState, .ref MbyWord, .ref Mqueue, .ref MsoundCliff, .ref MsoundLong, .ref MsoundCame, .ref MsoundTold, .ref MsoundUntold, .int (nI Isounds), .int Itime, .ref Mstands, .int IstandMany, .ref Mtally, .ref MhasBox, .ref Mboxes], wI (cy 1) MmanAt 4 (GmanAt), wI (cy 1) Mvoice 4 (Gvoice)]) := by
  refine XMv.start (by decide) (Nat.le_of_ble_eq_true rfl) ?_
  intro p e s m below meth c args A ls Q hat hQ
  obtain ⟨hx, hb, hr, hml, hown, hg, hlocks, hin, hK, hA, hP, hD, hS, hE, hl⟩ := hat
  have hown : s.vm.findClass RX12 = some m.cls := hown
  have hl : lv_has ls 2 [(0, .ref m0), (1, .int (nI j))] := hl
  refine lv_aload_n hx hb dX12_loadMan_0 rfl (lv_at hl 0 rfl) ?_
  refine lv_aload_n hx hb dX12_loadMan_1 rfl (lv_at hl 0 rfl) ?_
  refine va_get (D := D) (ci := 12) (v := .ref MmanAt) (C := RX12) (T := TX12) (N := 89) hx hb hg i_X12 hown hK hP 0 rfl rfl 37 (by decide) (hg _ m_1450) (fun _ h9 => h9) rfl dX12_loadMan_2 ?_
  refine lv_iload_n hx hb dX12_loadMan_5 rfl (lv_at hl 1 rfl) ?_
  refine va_iald hx hb hK hP 1 1 rfl rfl (vp_in_nI (by omega) (by decide)) dX12_loadMan_6 ?_
  refine lv_topi (fun x_1 ex_1 => ?_)
  refine va_put (D := D) (ci := 12) (v := .int x_1) (ty := .int) (C := RX12) (T := TX12) (N := 89) hx hb hg i_X12 tyX12 tyX12_ok nmX12 hown hK hP hD hS 0 rfl rfl 62 (by decide) (hg _ m_1475) (fun _ h9 => h9) rfl (by decide +kernel) rfl rfl (Nat.le_of_ble_eq_true rfl) dX12_loadMan_7 (fun H locs hP9 hD9 hS9 => ?_)
  clear hP hD hS
  refine reW [wO m0 12 [.ref Mtape, .int (nI Itaped), .int (nI Ifault), .int IfaultPlace, .int (nI Iat), .int (nI Isize), .int Isort, .int Iplace, .int Inumber, .long Iword, .ref MnName, .ref MnStep, .ref MnArg, .ref MnMany, .ref Mstep, .ref Marg, .ref Mmany, .ref Mopen, .ref Mvalues, .ref MnHasForm, .ref MhasForm, .int (nI Iform), .int (nI Iopens), .int (nI InUnits), .int Iunits, .int (nI IownUnits), .int (nI Ideep), .ref Masks, .ref MnLoud, .ref MnCliffAt, .ref MnSnow, .ref MnManAt, .ref MnVoice, .ref MnOn, .ref Mloud, .ref McliffAt, .ref MsnowTold, .ref MmanAt, .ref Mvoice, .ref Mon, .ref MnYes, .ref Myes, .int (nI InWords), .int (nI InCliffs), .int (nI InMen), .int (nI InStates), .int (nI InOns), .int InWind, .int InDraw, .int (nI Iwords), .int (nI Icliffs), .int (nI Imen), .int (nI Istates), .int Ions, .int IwindTold, .int InHasWind, .int InHasDraw, .ref Mnow, .ref Mcry, .ref Msnow, .ref Mecho, .int (nI IcryMany), .int x_1, .int IcallVoice, .int Iwind, .int Ichance, .int (nI IechoMany), .ref Mwere, .int (nI Iacts), .int (nI Iundone), .ref Mlies, .int (nI Ilain), .ref Mspots, .ref Msteps, .ref MfromState, .ref MbyWord, .ref Mqueue, .ref MsoundCliff, .ref MsoundLong, .ref MsoundCame, .ref MsoundTold, .ref MsoundUntold, .int (nI Isounds), .int Itime, .ref Mstands, .int IstandMany, .ref Mtally, .ref MhasBox, .ref Mboxes], wI (cy 1) MmanAt 4 (GmanAt), wI (cy 1) Mvoice 4 (Gvoice)] hP9 hD9 hS9 (fun hP hD hS => ?_)
  clear hP9 hD9 hS9
  refine lv_aload_n hx hb dX12_loadMan_10 rfl (lv_at hl 0 rfl) ?_
  refine lv_aload_n hx hb dX12_loadMan_11 rfl (lv_at hl 0 rfl) ?_
  refine va_get (D := D) (ci := 12) (v := .ref Mvoice) (C := RX12) (T := TX12) (N := 89) hx hb hg i_X12 hown hK hP 0 rfl rfl 38 (by decide) (hg _ m_1451) (fun _ h9 => h9) rfl dX12_loadMan_12 ?_
  refine lv_iload_n hx hb dX12_loadMan_15 rfl (lv_at hl 1 rfl) ?_
  refine va_iald hx hb hK hP 2 1 rfl rfl (vp_in_nI (by omega) (by decide)) dX12_loadMan_16 ?_
  refine lv_topi (fun x_2 ex_2 => ?_)
  refine va_put (D := D) (ci := 12) (v := .int x_2) (ty := .int) (C := RX12) (T := TX12) (N := 89) hx hb hg i_X12 tyX12 tyX12_ok nmX12 hown hK hP hD hS 0 rfl rfl 63 (by decide) (hg _ m_1476) (fun _ h9 => h9) rfl (by decide +kernel) rfl rfl (Nat.le_of_ble_eq_true rfl) dX12_loadMan_17 (fun H locs hP9 hD9 hS9 => ?_)
  clear hP hD hS
  refine reW [wO m0 12 [.ref Mtape, .int (nI Itaped), .int (nI Ifault), .int IfaultPlace, .int (nI Iat), .int (nI Isize), .int Isort, .int Iplace, .int Inumber, .long Iword, .ref MnName, .ref MnStep, .ref MnArg, .ref MnMany, .ref Mstep, .ref Marg, .ref Mmany, .ref Mopen, .ref Mvalues, .ref MnHasForm, .ref MhasForm, .int (nI Iform), .int (nI Iopens), .int (nI InUnits), .int Iunits, .int (nI IownUnits), .int (nI Ideep), .ref Masks, .ref MnLoud, .ref MnCliffAt, .ref MnSnow, .ref MnManAt, .ref MnVoice, .ref MnOn, .ref Mloud, .ref McliffAt, .ref MsnowTold, .ref MmanAt, .ref Mvoice, .ref Mon, .ref MnYes, .ref Myes, .int (nI InWords), .int (nI InCliffs), .int (nI InMen), .int (nI InStates), .int (nI InOns), .int InWind, .int InDraw, .int (nI Iwords), .int (nI Icliffs), .int (nI Imen), .int (nI Istates), .int Ions, .int IwindTold, .int InHasWind, .int InHasDraw, .ref Mnow, .ref Mcry, .ref Msnow, .ref Mecho, .int (nI IcryMany), .int x_1, .int x_2, .int Iwind, .int Ichance, .int (nI IechoMany), .ref Mwere, .int (nI Iacts), .int (nI Iundone), .ref Mlies, .int (nI Ilain), .ref Mspots, .ref Msteps, .ref MfromState, .ref MbyWord, .ref Mqueue, .ref MsoundCliff, .ref MsoundLong, .ref MsoundCame, .ref MsoundTold, .ref MsoundUntold, .int (nI Isounds), .int Itime, .ref Mstands, .int IstandMany, .ref Mtally, .ref MhasBox, .ref Mboxes], wI (cy 1) MmanAt 4 (GmanAt), wI (cy 1) Mvoice 4 (Gvoice)] hP9 hD9 hS9 (fun hP hD hS => ?_)
  clear hP9 hD9 hS9
  exact x_vret hQ hx hb hr hlocks hK hP hD hS dX12_loadMan_20 (x_1, x_2) ((show x_1 = GmanAt j ∧ x_2 = Gvoice j from ⟨ld_at (by omega) ex_1, ld_at (by omega) ex_2⟩)) [0, 1, 2] (by decide +kernel) rfl (Nat.le_of_ble_eq_true rfl) (Nat.le_of_ble_eq_true rfl)
theorem dX12_load_0 : decode cX12_load 0 = .ok (.aload_n 0, 1) := by decide +kernel
theorem dX12_load_1 : decode cX12_load 1 = .ok (.invokevirtual 455, 3) := by decide +kernel
theorem k_X12_455 : xV RX12 RX12 455 yX12_loadSky cX12_loadSky 2 none 0 := ⟨⟨m_1928, m_1930, m_103, m_146, m_1931⟩, rfl, by decide, by decide, by decide +kernel⟩
theorem gdX12_load_4 : decode cX12_load 4 = .ok (.aload_n 0, 1) ∧ decode cX12_load 5 = .ok (.iconst 0, 1) ∧ decode cX12_load 6 = .ok (.invokevirtual 458, 3) := by decide +kernel
theorem dX12_load_4 : decode cX12_load 4 = .ok (.aload_n 0, 1) := gdX12_load_4.1
theorem dX12_load_5 : decode cX12_load 5 = .ok (.iconst 0, 1) := gdX12_load_4.2.1
theorem dX12_load_6 : decode cX12_load 6 = .ok (.invokevirtual 458, 3) := gdX12_load_4.2.2
theorem k_X12_458 : xV RX12 RX12 458 yX12_loadCry cX12_loadCry 3 none 1 := ⟨⟨m_1932, m_1934, m_104, m_146, m_1935⟩, rfl, by decide, by decide, by decide +kernel⟩
theorem gdX12_load_9 : decode cX12_load 9 = .ok (.aload_n 0, 1) ∧ decode cX12_load 10 = .ok (.iload_n 1, 1) ∧ decode cX12_load 11 = .ok (.invokevirtual 461, 3) := by decide +kernel
theorem dX12_load_9 : decode cX12_load 9 = .ok (.aload_n 0, 1) := gdX12_load_9.1
theorem dX12_load_10 : decode cX12_load 10 = .ok (.iload_n 1, 1) := gdX12_load_9.2.1
theorem dX12_load_11 : decode cX12_load 11 = .ok (.invokevirtual 461, 3) := gdX12_load_9.2.2
theorem k_X12_461 : xV RX12 RX12 461 yX12_loadMan cX12_loadMan 2 none 1 := ⟨⟨m_1936, m_1938, m_105, m_146, m_1939⟩, rfl, by decide, by decide, by decide +kernel⟩
theorem dX12_load_14 : decode cX12_load 14 = .ok (.return_, 1) := by decide +kernel
set_option maxHeartbeats 1000000 in
set_option maxRecDepth 100000 in
theorem r_load (l : Launch) (D : va_G) (cy : Nat → ClassId) (m0 : Nat) (Mtape : Nat) (MnName : Nat) (MnStep : Nat) (MnArg : Nat) (MnMany : Nat) (Mstep : Nat) (Marg : Nat) (Mmany : Nat) (Mopen : Nat) (Mvalues : Nat) (MnHasForm : Nat) (MhasForm : Nat) (Masks : Nat) (MnLoud : Nat) (MnCliffAt : Nat) (MnSnow : Nat) (MnManAt : Nat) (MnVoice : Nat) (MnOn : Nat) (Mloud : Nat) (McliffAt : Nat) (MsnowTold : Nat) (MmanAt : Nat) (Mvoice : Nat) (Mon : Nat) (MnYes : Nat) (Myes : Nat) (Mnow : Nat) (Mcry : Nat) (Msnow : Nat) (Mecho : Nat) (Mwere : Nat) (Mlies : Nat) (Mspots : Nat) (Msteps : Nat) (MfromState : Nat) (MbyWord : Nat) (Mqueue : Nat) (MsoundCliff : Nat) (MsoundLong : Nat) (MsoundCame : Nat) (MsoundTold : Nat) (MsoundUntold : Nat) (Mstands : Nat) (Mtally : Nat) (MhasBox : Nat) (Mboxes : Nat) (Itaped : Nat) (Ifault : Nat) (IfaultPlace : Int32) (Iat : Nat) (Isize : Nat) (Isort : Int32) (Iplace : Int32) (Inumber : Int32) (Iword : Int64) (Iform : Nat) (Iopens : Nat) (InUnits : Nat) (Iunits : Int32) (IownUnits : Nat) (Ideep : Nat) (GmanAt : Nat → Int32) (Gvoice : Nat → Int32) (InWords : Nat) (InCliffs : Nat) (InMen : Nat) (InStates : Nat) (InOns : Nat) (InWind : Int32) (InDraw : Int32) (Iwords : Nat) (Icliffs : Nat) (Imen : Nat) (Istates : Nat) (Ions : Int32) (IwindTold : Int32) (InHasWind : Int32) (InHasDraw : Int32) (Gnow : Nat → Int32) (Gcry : Nat → Int32) (Gsnow : Nat → Int32) (IcryMany : Nat) (IcallPlace : Int32) (IcallVoice : Int32) (Iwind : Int32) (Ichance : Int32) (IechoMany : Nat) (Iacts : Nat) (Iundone : Nat) (Ilain : Nat) (Isounds : Nat) (Itime : Int32) (IstandMany : Int32) (j : Nat) (gtp : Itaped ≤ 1600) (gat : Iat ≤ Isize) (gsz : Isize ≤ 1600) (gfl : Ifault ≤ 5) (gfo : Iform ≤ 2) (gnw : InWords ≤ 8) (gnc : InCliffs ≤ 4) (gnm : InMen ≤ 4) (gns : InStates ≤ 6) (gw : Iwords ≤ 8) (gc9 : Icliffs ≤ 4) (gm : Imen ≤ 4) (gs : Istates ≤ 6) (gcm : IcryMany ≤ 10) (gem : IechoMany ≤ 20) (gau : Iacts + Iundone ≤ 40) (gla : Ilain ≤ 20) (gso : Isounds ≤ 30) (gop : Iopens ≤ 40) (gde : Ideep ≤ 8) (gou : IownUnits ≤ 31) (gnu : InUnits ≤ 61) (gno : InOns ≤ 30) (gcry : rng Gcry 10 7) (gnow : wRows Gnow 1) (hj : j < 4) : XMv l D (tyL cy) E0 yX12_load cX12_load 2 none (rmk 1 0 0) [.ref m0, .int (nI j)] [wO m0 12 [.ref Mtape, .int (nI Itaped), .int (nI Ifault), .int IfaultPlace, .int (nI Iat), .int (nI Isize), .int Isort, .int Iplace, .int Inumber, .long Iword, .ref MnName, .ref MnStep, .ref MnArg, .ref MnMany, .ref Mstep, .ref Marg, .ref Mmany, .ref Mopen, .ref Mvalues, .ref MnHasForm, .ref MhasForm, .int (nI Iform), .int (nI Iopens), .int (nI InUnits), .int Iunits, .int (nI IownUnits), .int (nI Ideep), .ref Masks, .ref MnLoud, .ref MnCliffAt, .ref MnSnow, .ref MnManAt, .ref MnVoice, .ref MnOn, .ref Mloud, .ref McliffAt, .ref MsnowTold, .ref MmanAt, .ref Mvoice, .ref Mon, .ref MnYes, .ref Myes, .int (nI InWords), .int (nI InCliffs), .int (nI InMen), .int (nI InStates), .int (nI InOns), .int InWind, .int InDraw, .int (nI Iwords), .int (nI Icliffs), .int (nI Imen), .int (nI Istates), .int Ions, .int IwindTold, .int InHasWind, .int InHasDraw, .ref Mnow, .ref Mcry, .ref Msnow, .ref Mecho, .int (nI IcryMany), .int IcallPlace, .int IcallVoice, .int Iwind, .int Ichance, .int (nI IechoMany), .ref Mwere, .int (nI Iacts), .int (nI Iundone), .ref Mlies, .int (nI Ilain), .ref Mspots, .ref Msteps, .ref MfromState, .ref MbyWord, .ref Mqueue, .ref MsoundCliff, .ref MsoundLong, .ref MsoundCame, .ref MsoundTold, .ref MsoundUntold, .int (nI Isounds), .int Itime, .ref Mstands, .int IstandMany, .ref Mtally, .ref MhasBox, .ref Mboxes], wI (cy 1) Mnow 42 (Gnow), wI (cy 1) Msnow 4 (Gsnow), wI (cy 1) Mcry 10 (Gcry), wI (cy 1) MmanAt 4 (GmanAt), wI (cy 1) Mvoice 4 (Gvoice)] (fun (u : (Nat → Int32) × (Nat → Int32) × Nat × Int32 × Int32 × Int32 × Int32) => (u.2.2.1 ≤ 10) ∧ (rng u.1 10 7) ∧ (Gnow (20 : Int32).toNatClampNeg = nI u.2.2.1) ∧ (∀ i9, i9 < u.2.2.1 → u.1 i9 = Gnow (0 + i9)) ∧ (u.2.2.2.1 = GmanAt j ∧ u.2.2.2.2.1 = Gvoice j) ∧ (u.2.2.2.2.2.1 = Gnow 22 ∧ u.2.2.2.2.2.2 = 0 ∧ ∀ c9, c9 < 4 → u.2.1 c9 = Gnow (23 + c9))) (fun (u : (Nat → Int32) × (Nat → Int32) × Nat × Int32 × Int32 × Int32 × Int32) => [wO m0 12 [.ref Mtape, .int (nI Itaped), .int (nI Ifault), .int IfaultPlace, .int (nI Iat), .int (nI Isize), .int Isort, .int Iplace, .int Inumber, .long Iword, .ref MnName, .ref MnStep, .ref MnArg, .ref MnMany, .ref Mstep, .ref Marg, .ref Mmany, .ref Mopen, .ref Mvalues, .ref MnHasForm, .ref MhasForm, .int (nI Iform), .int (nI Iopens), .int (nI InUnits), .int Iunits, .int (nI IownUnits), .int (nI Ideep), .ref Masks, .ref MnLoud, .ref MnCliffAt, .ref MnSnow, .ref MnManAt, .ref MnVoice, .ref MnOn, .ref Mloud, .ref McliffAt, .ref MsnowTold, .ref MmanAt, .ref Mvoice, .ref Mon, .ref MnYes, .ref Myes, .int (nI InWords), .int (nI InCliffs), .int (nI InMen), .int (nI InStates), .int (nI InOns), .int InWind, .int InDraw, .int (nI Iwords), .int (nI Icliffs), .int (nI Imen), .int (nI Istates), .int Ions, .int IwindTold, .int InHasWind, .int InHasDraw, .ref Mnow, .ref Mcry, .ref Msnow, .ref Mecho, .int (nI u.2.2.1), .int u.2.2.2.1, .int u.2.2.2.2.1, .int u.2.2.2.2.2.1, .int u.2.2.2.2.2.2, .int (nI IechoMany), .ref Mwere, .int (nI Iacts), .int (nI Iundone), .ref Mlies, .int (nI Ilain), .ref Mspots, .ref Msteps, .ref MfromState, .ref MbyWord, .ref Mqueue, .ref MsoundCliff, .ref MsoundLong, .ref MsoundCame, .ref MsoundTold, .ref MsoundUntold, .int (nI Isounds), .int Itime, .ref Mstands, .int IstandMany, .ref Mtally, .ref MhasBox, .ref Mboxes], wI (cy 1) Mnow 42 (Gnow), wI (cy 1) Msnow 4 (u.2.1), wI (cy 1) Mcry 10 (u.1), wI (cy 1) MmanAt 4 (GmanAt), wI (cy 1) Mvoice 4 (Gvoice)]) := by
  refine XMv.start (by decide) (Nat.le_of_ble_eq_true rfl) ?_
  intro p e s m below meth c args A ls Q hat hQ
  obtain ⟨hx, hb, hr, hml, hown, hg, hlocks, hin, hK, hA, hP, hD, hS, hE, hl⟩ := hat
  have hown : s.vm.findClass RX12 = some m.cls := hown
  have hl : lv_has ls 2 [(0, .ref m0), (1, .int (nI j))] := hl
  refine lv_aload_n hx hb dX12_load_0 rfl (lv_at hl 0 rfl) ?_
  refine x_callVv (q := (RX12, TX12, 89)) (ci := 12) (q0 := 0) (wr := [wI (cy 1) Mcry 10 (Gcry), wI (cy 1) MmanAt 4 (GmanAt), wI (cy 1) Mvoice 4 (Gvoice)]) (rest := []) ⟨hx, hb, hml, hown, hg, hl.1⟩ k_X12_455 (r_loadSky l D cy m0 Mtape MnName MnStep MnArg MnMany Mstep Marg Mmany Mopen Mvalues MnHasForm MhasForm Masks MnLoud MnCliffAt MnSnow MnManAt MnVoice MnOn Mloud McliffAt MsnowTold MmanAt Mvoice Mon MnYes Myes Mnow Mcry Msnow Mecho Mwere Mlies Mspots Msteps MfromState MbyWord Mqueue MsoundCliff MsoundLong MsoundCame MsoundTold MsoundUntold Mstands Mtally MhasBox Mboxes Itaped Ifault IfaultPlace Iat Isize Isort Iplace Inumber Iword Iform Iopens InUnits Iunits IownUnits Ideep InWords InCliffs InMen InStates InOns InWind InDraw Iwords Icliffs Imen Istates Ions IwindTold InHasWind InHasDraw Gnow Gsnow IcryMany IcallPlace IcallVoice Iwind Ichance IechoMany Iacts Iundone Ilain Isounds Itime IstandMany (by first | assumption | omega) (by first | assumption | omega) (by first | assumption | omega) (by first | assumption | omega) (by first | assumption | omega) (by first | assumption | omega) (by first | assumption | omega) (by first | assumption | omega) (by first | assumption | omega) (by first | assumption | omega) (by first | assumption | omega) (by first | assumption | omega) (by first | assumption | omega) (by first | assumption | omega) (by first | assumption | omega) (by first | assumption | omega) (by first | assumption | omega) (by first | assumption | omega) (by first | assumption | omega) (by first | assumption | omega) (by first | assumption | omega) (by first | assumption | omega) (by first | assumption | omega) (gnow)) E0_blind hK hP hD hS hA [0, 1, 2] [3, 4, 5] ⟨rfl, rfl, by decide +kernel, by decide +kernel, by decide +kernel⟩ rfl rfl (fun _ _ _ => trivial) dX12_load_1 rfl rfl (Nat.le_of_ble_eq_true rfl) ⟨Nat.le_of_ble_eq_true rfl, Nat.le_of_ble_eq_true rfl⟩ ⟨Nat.le_of_ble_eq_true rfl, Nat.le_of_ble_eq_true rfl⟩ (fun zu1 H locs hw1 hP9 hD9 hS9 => ?_)
  clear hP hD hS
  obtain ⟨Gsnow2_2, Iwind2_3, Ichance2_4⟩ := zu1
  refine reW [wI (cy 1) Mcry 10 (Gcry), wI (cy 1) MmanAt 4 (GmanAt), wI (cy 1) Mvoice 4 (Gvoice), wO m0 12 [.ref Mtape, .int (nI Itaped), .int (nI Ifault), .int IfaultPlace, .int (nI Iat), .int (nI Isize), .int Isort, .int Iplace, .int Inumber, .long Iword, .ref MnName, .ref MnStep, .ref MnArg, .ref MnMany, .ref Mstep, .ref Marg, .ref Mmany, .ref Mopen, .ref Mvalues, .ref MnHasForm, .ref MhasForm, .int (nI Iform), .int (nI Iopens), .int (nI InUnits), .int Iunits, .int (nI IownUnits), .int (nI Ideep), .ref Masks, .ref MnLoud, .ref MnCliffAt, .ref MnSnow, .ref MnManAt, .ref MnVoice, .ref MnOn, .ref Mloud, .ref McliffAt, .ref MsnowTold, .ref MmanAt, .ref Mvoice, .ref Mon, .ref MnYes, .ref Myes, .int (nI InWords), .int (nI InCliffs), .int (nI InMen), .int (nI InStates), .int (nI InOns), .int InWind, .int InDraw, .int (nI Iwords), .int (nI Icliffs), .int (nI Imen), .int (nI Istates), .int Ions, .int IwindTold, .int InHasWind, .int InHasDraw, .ref Mnow, .ref Mcry, .ref Msnow, .ref Mecho, .int (nI IcryMany), .int IcallPlace, .int IcallVoice, .int Iwind2_3, .int Ichance2_4, .int (nI IechoMany), .ref Mwere, .int (nI Iacts), .int (nI Iundone), .ref Mlies, .int (nI Ilain), .ref Mspots, .ref Msteps, .ref MfromState, .ref MbyWord, .ref Mqueue, .ref MsoundCliff, .ref MsoundLong, .ref MsoundCame, .ref MsoundTold, .ref MsoundUntold, .int (nI Isounds), .int Itime, .ref Mstands, .int IstandMany, .ref Mtally, .ref MhasBox, .ref Mboxes], wI (cy 1) Mnow 42 (Gnow), wI (cy 1) Msnow 4 (Gsnow2_2)] hP9 hD9 hS9 (fun hP hD hS => ?_)
  clear hP9 hD9 hS9
  refine W.widen (k := 0) (n := 0) (Nat.le_of_ble_eq_true rfl) (Nat.le_of_ble_eq_true rfl) ?_
  change (Iwind2_3 = Gnow 22 ∧ Ichance2_4 = 0 ∧ ∀ c9, c9 < 4 → Gsnow2_2 c9 = Gnow (23 + c9)) at hw1
  have f_5 := hw1
  refine lv_aload_n hx hb dX12_load_4 rfl (lv_at hl 0 rfl) ?_
  refine lv_iconst (v := 0) hx hb dX12_load_5 (by decide) ?_
  refine x_callVv (q := (RX12, TX12, 89)) (ci := 12) (q0 := 0) (wr := [wI (cy 1) MmanAt 4 (GmanAt), wI (cy 1) Mvoice 4 (Gvoice), wI (cy 1) Msnow 4 (Gsnow2_2)]) (rest := []) ⟨hx, hb, hml, hown, hg, hl.1⟩ k_X12_458 (r_loadCry0 l D cy m0 Mtape MnName MnStep MnArg MnMany Mstep Marg Mmany Mopen Mvalues MnHasForm MhasForm Masks MnLoud MnCliffAt MnSnow MnManAt MnVoice MnOn Mloud McliffAt MsnowTold MmanAt Mvoice Mon MnYes Myes Mnow Mcry Msnow Mecho Mwere Mlies Mspots Msteps MfromState MbyWord Mqueue MsoundCliff MsoundLong MsoundCame MsoundTold MsoundUntold Mstands Mtally MhasBox Mboxes Itaped Ifault IfaultPlace Iat Isize Isort Iplace Inumber Iword Iform Iopens InUnits Iunits IownUnits Ideep InWords InCliffs InMen InStates InOns InWind InDraw Iwords Icliffs Imen Istates Ions IwindTold InHasWind InHasDraw Gnow Gcry IcryMany IcallPlace IcallVoice Iwind2_3 Ichance2_4 IechoMany Iacts Iundone Ilain Isounds Itime IstandMany (by first | assumption | omega) (by first | assumption | omega) (by first | assumption | omega) (by first | assumption | omega) (by first | assumption | omega) (by first | assumption | omega) (by first | assumption | omega) (by first | assumption | omega) (by first | assumption | omega) (by first | assumption | omega) (by first | assumption | omega) (by first | assumption | omega) (by first | assumption | omega) (by first | assumption | omega) (by first | assumption | omega) (by first | assumption | omega) (by first | assumption | omega) (by first | assumption | omega) (by first | assumption | omega) (by first | assumption | omega) (by first | assumption | omega) (by first | assumption | omega) (by first | assumption | omega) (gcry) (gnow)) E0_blind hK hP hD hS hA [3, 4, 0] [1, 2, 5] ⟨rfl, rfl, by decide +kernel, by decide +kernel, by decide +kernel⟩ rfl rfl (fun _ _ _ => trivial) dX12_load_6 rfl rfl (Nat.le_of_ble_eq_true rfl) ⟨Nat.le_of_ble_eq_true rfl, Nat.le_of_ble_eq_true rfl⟩ ⟨Nat.le_of_ble_eq_true rfl, Nat.le_of_ble_eq_true rfl⟩ (fun zu6 H locs hw6 hP9 hD9 hS9 => ?_)
  clear hP hD hS
  obtain ⟨Gcry2_7, IcryMany2_8⟩ := zu6
  refine reW [wI (cy 1) MmanAt 4 (GmanAt), wI (cy 1) Mvoice 4 (Gvoice), wI (cy 1) Msnow 4 (Gsnow2_2), wO m0 12 [.ref Mtape, .int (nI Itaped), .int (nI Ifault), .int IfaultPlace, .int (nI Iat), .int (nI Isize), .int Isort, .int Iplace, .int Inumber, .long Iword, .ref MnName, .ref MnStep, .ref MnArg, .ref MnMany, .ref Mstep, .ref Marg, .ref Mmany, .ref Mopen, .ref Mvalues, .ref MnHasForm, .ref MhasForm, .int (nI Iform), .int (nI Iopens), .int (nI InUnits), .int Iunits, .int (nI IownUnits), .int (nI Ideep), .ref Masks, .ref MnLoud, .ref MnCliffAt, .ref MnSnow, .ref MnManAt, .ref MnVoice, .ref MnOn, .ref Mloud, .ref McliffAt, .ref MsnowTold, .ref MmanAt, .ref Mvoice, .ref Mon, .ref MnYes, .ref Myes, .int (nI InWords), .int (nI InCliffs), .int (nI InMen), .int (nI InStates), .int (nI InOns), .int InWind, .int InDraw, .int (nI Iwords), .int (nI Icliffs), .int (nI Imen), .int (nI Istates), .int Ions, .int IwindTold, .int InHasWind, .int InHasDraw, .ref Mnow, .ref Mcry, .ref Msnow, .ref Mecho, .int (nI IcryMany2_8), .int IcallPlace, .int IcallVoice, .int Iwind2_3, .int Ichance2_4, .int (nI IechoMany), .ref Mwere, .int (nI Iacts), .int (nI Iundone), .ref Mlies, .int (nI Ilain), .ref Mspots, .ref Msteps, .ref MfromState, .ref MbyWord, .ref Mqueue, .ref MsoundCliff, .ref MsoundLong, .ref MsoundCame, .ref MsoundTold, .ref MsoundUntold, .int (nI Isounds), .int Itime, .ref Mstands, .int IstandMany, .ref Mtally, .ref MhasBox, .ref Mboxes], wI (cy 1) Mnow 42 (Gnow), wI (cy 1) Mcry 10 (Gcry2_7)] hP9 hD9 hS9 (fun hP hD hS => ?_)
  clear hP9 hD9 hS9
  refine W.widen (k := 0) (n := 0) (Nat.le_of_ble_eq_true rfl) (Nat.le_of_ble_eq_true rfl) ?_
  change (IcryMany2_8 ≤ 10) ∧ (rng Gcry2_7 10 7) ∧ (Gnow (20 : Int32).toNatClampNeg = nI IcryMany2_8) ∧ (∀ i9, i9 < IcryMany2_8 → Gcry2_7 i9 = Gnow (0 + i9)) at hw6
  obtain ⟨f_9, f_10, f_11, f_12⟩ := hw6
  refine lv_aload_n hx hb dX12_load_9 rfl (lv_at hl 0 rfl) ?_
  refine lv_iload_n hx hb dX12_load_10 rfl (lv_at hl 1 rfl) ?_
  refine x_callVv (q := (RX12, TX12, 89)) (ci := 12) (q0 := 0) (wr := [wI (cy 1) Msnow 4 (Gsnow2_2), wI (cy 1) Mnow 42 (Gnow), wI (cy 1) Mcry 10 (Gcry2_7)]) (rest := []) ⟨hx, hb, hml, hown, hg, hl.1⟩ k_X12_461 (r_loadMan l D cy m0 Mtape MnName MnStep MnArg MnMany Mstep Marg Mmany Mopen Mvalues MnHasForm MhasForm Masks MnLoud MnCliffAt MnSnow MnManAt MnVoice MnOn Mloud McliffAt MsnowTold MmanAt Mvoice Mon MnYes Myes Mnow Mcry Msnow Mecho Mwere Mlies Mspots Msteps MfromState MbyWord Mqueue MsoundCliff MsoundLong MsoundCame MsoundTold MsoundUntold Mstands Mtally MhasBox Mboxes Itaped Ifault IfaultPlace Iat Isize Isort Iplace Inumber Iword Iform Iopens InUnits Iunits IownUnits Ideep GmanAt Gvoice InWords InCliffs InMen InStates InOns InWind InDraw Iwords Icliffs Imen Istates Ions IwindTold InHasWind InHasDraw IcryMany2_8 IcallPlace IcallVoice Iwind2_3 Ichance2_4 IechoMany Iacts Iundone Ilain Isounds Itime IstandMany j (by first | assumption | omega) (by first | assumption | omega) (by first | assumption | omega) (by first | assumption | omega) (by first | assumption | omega) (by first | assumption | omega) (by first | assumption | omega) (by first | assumption | omega) (by first | assumption | omega) (by first | assumption | omega) (by first | assumption | omega) (by first | assumption | omega) (by first | assumption | omega) (by first | assumption | omega) (by first | assumption | omega) (by first | assumption | omega) (by first | assumption | omega) (by first | assumption | omega) (by first | assumption | omega) (by first | assumption | omega) (by first | assumption | omega) (by first | assumption | omega) (by first | assumption | omega) (by first | assumption | omega)) E0_blind hK hP hD hS hA [3, 0, 1] [2, 4, 5] ⟨rfl, rfl, by decide +kernel, by decide +kernel, by decide +kernel⟩ rfl rfl (fun _ _ _ => trivial) dX12_load_11 rfl rfl (Nat.le_of_ble_eq_true rfl) ⟨Nat.le_of_ble_eq_true rfl, Nat.le_of_ble_eq_true rfl⟩ ⟨Nat.le_of_ble_eq_true rfl, Nat.le_of_ble_eq_true rfl⟩ (fun zu13 H locs hw13 hP9 hD9 hS9 => ?_)
  clear hP hD hS
  obtain ⟨IcallPlace2_14, IcallVoice2_15⟩ := zu13
  refine reW [wI (cy 1) Msnow 4 (Gsnow2_2), wI (cy 1) Mnow 42 (Gnow), wI (cy 1) Mcry 10 (Gcry2_7), wO m0 12 [.ref Mtape, .int (nI Itaped), .int (nI Ifault), .int IfaultPlace, .int (nI Iat), .int (nI Isize), .int Isort, .int Iplace, .int Inumber, .long Iword, .ref MnName, .ref MnStep, .ref MnArg, .ref MnMany, .ref Mstep, .ref Marg, .ref Mmany, .ref Mopen, .ref Mvalues, .ref MnHasForm, .ref MhasForm, .int (nI Iform), .int (nI Iopens), .int (nI InUnits), .int Iunits, .int (nI IownUnits), .int (nI Ideep), .ref Masks, .ref MnLoud, .ref MnCliffAt, .ref MnSnow, .ref MnManAt, .ref MnVoice, .ref MnOn, .ref Mloud, .ref McliffAt, .ref MsnowTold, .ref MmanAt, .ref Mvoice, .ref Mon, .ref MnYes, .ref Myes, .int (nI InWords), .int (nI InCliffs), .int (nI InMen), .int (nI InStates), .int (nI InOns), .int InWind, .int InDraw, .int (nI Iwords), .int (nI Icliffs), .int (nI Imen), .int (nI Istates), .int Ions, .int IwindTold, .int InHasWind, .int InHasDraw, .ref Mnow, .ref Mcry, .ref Msnow, .ref Mecho, .int (nI IcryMany2_8), .int IcallPlace2_14, .int IcallVoice2_15, .int Iwind2_3, .int Ichance2_4, .int (nI IechoMany), .ref Mwere, .int (nI Iacts), .int (nI Iundone), .ref Mlies, .int (nI Ilain), .ref Mspots, .ref Msteps, .ref MfromState, .ref MbyWord, .ref Mqueue, .ref MsoundCliff, .ref MsoundLong, .ref MsoundCame, .ref MsoundTold, .ref MsoundUntold, .int (nI Isounds), .int Itime, .ref Mstands, .int IstandMany, .ref Mtally, .ref MhasBox, .ref Mboxes], wI (cy 1) MmanAt 4 (GmanAt), wI (cy 1) Mvoice 4 (Gvoice)] hP9 hD9 hS9 (fun hP hD hS => ?_)
  clear hP9 hD9 hS9
  refine W.widen (k := 0) (n := 0) (Nat.le_of_ble_eq_true rfl) (Nat.le_of_ble_eq_true rfl) ?_
  change (IcallPlace2_14 = GmanAt j ∧ IcallVoice2_15 = Gvoice j) at hw13
  have f_16 := hw13
  exact x_vret hQ hx hb hr hlocks hK hP hD hS dX12_load_14 (Gcry2_7, Gsnow2_2, IcryMany2_8, IcallPlace2_14, IcallVoice2_15, Iwind2_3, Ichance2_4) (⟨(show IcryMany2_8 ≤ 10 from by first | assumption | omega), f_10, (show Gnow (20 : Int32).toNatClampNeg = nI IcryMany2_8 from f_11), (show ∀ i9, i9 < IcryMany2_8 → Gcry2_7 i9 = Gnow (0 + i9) from f_12), (show IcallPlace2_14 = GmanAt j ∧ IcallVoice2_15 = Gvoice j from f_16), (show Iwind2_3 = Gnow 22 ∧ Ichance2_4 = 0 ∧ ∀ c9, c9 < 4 → Gsnow2_2 c9 = Gnow (23 + c9) from f_5)⟩) [3, 1, 0, 2, 4, 5] (by decide +kernel) rfl (Nat.le_of_ble_eq_true rfl) (Nat.le_of_ble_eq_true rfl)
theorem gdX12_farOf_0 : decode cX12_farOf 0 = .ok (.aload_n 0, 1) ∧ decode cX12_farOf 1 = .ok (.getfield 449, 3) ∧ decode cX12_farOf 4 = .ok (.aload_n 0, 1) ∧ decode cX12_farOf 5 = .ok (.getfield 76, 3) ∧ decode cX12_farOf 8 = .ok (.iload_n 1, 1) ∧ decode cX12_farOf 9 = .ok (.iaload, 1) ∧ decode cX12_farOf 10 = .ok (.invokestatic 464, 3) := by decide +kernel
theorem dX12_farOf_0 : decode cX12_farOf 0 = .ok (.aload_n 0, 1) := gdX12_farOf_0.1
theorem dX12_farOf_1 : decode cX12_farOf 1 = .ok (.getfield 449, 3) := gdX12_farOf_0.2.1
theorem dX12_farOf_4 : decode cX12_farOf 4 = .ok (.aload_n 0, 1) := gdX12_farOf_0.2.2.1
theorem dX12_farOf_5 : decode cX12_farOf 5 = .ok (.getfield 76, 3) := gdX12_farOf_0.2.2.2.1
theorem dX12_farOf_8 : decode cX12_farOf 8 = .ok (.iload_n 1, 1) := gdX12_farOf_0.2.2.2.2.1
theorem dX12_farOf_9 : decode cX12_farOf 9 = .ok (.iaload, 1) := gdX12_farOf_0.2.2.2.2.2.1
theorem dX12_farOf_10 : decode cX12_farOf 10 = .ok (.invokestatic 464, 3) := gdX12_farOf_0.2.2.2.2.2.2
theorem k_X12_464 : xS RX12 464 yX12_off cX12_off 2 (some .int) 2 := ⟨⟨m_1960, m_1961, m_146, m_1962⟩, by decide, by decide, by decide +kernel⟩
theorem dX12_farOf_13 : decode cX12_farOf 13 = .ok (.ireturn, 1) := by decide +kernel
set_option maxHeartbeats 1000000 in
set_option maxRecDepth 100000 in
theorem r_farOf (l : Launch) (D : va_G) (cy : Nat → ClassId) (m0 : Nat) (Mtape : Nat) (MnName : Nat) (MnStep : Nat) (MnArg : Nat) (MnMany : Nat) (Mstep : Nat) (Marg : Nat) (Mmany : Nat) (Mopen : Nat) (Mvalues : Nat) (MnHasForm : Nat) (MhasForm : Nat) (Masks : Nat) (MnLoud : Nat) (MnCliffAt : Nat) (MnSnow : Nat) (MnManAt : Nat) (MnVoice : Nat) (MnOn : Nat) (Mloud : Nat) (McliffAt : Nat) (MsnowTold : Nat) (MmanAt : Nat) (Mvoice : Nat) (Mon : Nat) (MnYes : Nat) (Myes : Nat) (Mnow : Nat) (Mcry : Nat) (Msnow : Nat) (Mecho : Nat) (Mwere : Nat) (Mlies : Nat) (Mspots : Nat) (Msteps : Nat) (MfromState : Nat) (MbyWord : Nat) (Mqueue : Nat) (MsoundCliff : Nat) (MsoundLong : Nat) (MsoundCame : Nat) (MsoundTold : Nat) (MsoundUntold : Nat) (Mstands : Nat) (Mtally : Nat) (MhasBox : Nat) (Mboxes : Nat) (Itaped : Nat) (Ifault : Nat) (IfaultPlace : Int32) (Iat : Nat) (Isize : Nat) (Isort : Int32) (Iplace : Int32) (Inumber : Int32) (Iword : Int64) (Iform : Nat) (Iopens : Nat) (InUnits : Nat) (Iunits : Int32) (IownUnits : Nat) (Ideep : Nat) (GcliffAt : Nat → Int32) (InWords : Nat) (InCliffs : Nat) (InMen : Nat) (InStates : Nat) (InOns : Nat) (InWind : Int32) (InDraw : Int32) (Iwords : Nat) (Icliffs : Nat) (Imen : Nat) (Istates : Nat) (Ions : Int32) (IwindTold : Int32) (InHasWind : Int32) (InHasDraw : Int32) (IcryMany : Nat) (IcallPlace : Int32) (IcallVoice : Int32) (Iwind : Int32) (Ichance : Int32) (IechoMany : Nat) (Iacts : Nat) (Iundone : Nat) (Ilain : Nat) (Isounds : Nat) (Itime : Int32) (IstandMany : Int32) (j : Nat) (gtp : Itaped ≤ 1600) (gat : Iat ≤ Isize) (gsz : Isize ≤ 1600) (gfl : Ifault ≤ 5) (gfo : Iform ≤ 2) (gnw : InWords ≤ 8) (gnc : InCliffs ≤ 4) (gnm : InMen ≤ 4) (gns : InStates ≤ 6) (gw : Iwords ≤ 8) (gc9 : Icliffs ≤ 4) (gm : Imen ≤ 4) (gs : Istates ≤ 6) (gcm : IcryMany ≤ 10) (gem : IechoMany ≤ 20) (gau : Iacts + Iundone ≤ 40) (gla : Ilain ≤ 20) (gso : Isounds ≤ 30) (gop : Iopens ≤ 40) (gde : Ideep ≤ 8) (gou : IownUnits ≤ 31) (gnu : InUnits ≤ 61) (gno : InOns ≤ 30) (hj : j < 4) : XMi l D (tyL cy) E0 yX12_farOf cX12_farOf 2 (some .int) (rmk 1 0 0) [.ref m0, .int (nI j)] [wO m0 12 [.ref Mtape, .int (nI Itaped), .int (nI Ifault), .int IfaultPlace, .int (nI Iat), .int (nI Isize), .int Isort, .int Iplace, .int Inumber, .long Iword, .ref MnName, .ref MnStep, .ref MnArg, .ref MnMany, .ref Mstep, .ref Marg, .ref Mmany, .ref Mopen, .ref Mvalues, .ref MnHasForm, .ref MhasForm, .int (nI Iform), .int (nI Iopens), .int (nI InUnits), .int Iunits, .int (nI IownUnits), .int (nI Ideep), .ref Masks, .ref MnLoud, .ref MnCliffAt, .ref MnSnow, .ref MnManAt, .ref MnVoice, .ref MnOn, .ref Mloud, .ref McliffAt, .ref MsnowTold, .ref MmanAt, .ref Mvoice, .ref Mon, .ref MnYes, .ref Myes, .int (nI InWords), .int (nI InCliffs), .int (nI InMen), .int (nI InStates), .int (nI InOns), .int InWind, .int InDraw, .int (nI Iwords), .int (nI Icliffs), .int (nI Imen), .int (nI Istates), .int Ions, .int IwindTold, .int InHasWind, .int InHasDraw, .ref Mnow, .ref Mcry, .ref Msnow, .ref Mecho, .int (nI IcryMany), .int IcallPlace, .int IcallVoice, .int Iwind, .int Ichance, .int (nI IechoMany), .ref Mwere, .int (nI Iacts), .int (nI Iundone), .ref Mlies, .int (nI Ilain), .ref Mspots, .ref Msteps, .ref MfromState, .ref MbyWord, .ref Mqueue, .ref MsoundCliff, .ref MsoundLong, .ref MsoundCame, .ref MsoundTold, .ref MsoundUntold, .int (nI Isounds), .int Itime, .ref Mstands, .int IstandMany, .ref Mtally, .ref MhasBox, .ref Mboxes], wI (cy 1) McliffAt 4 (GcliffAt)] (fun (r : Int32) (_ : Unit) => (r = ofR IcallPlace (GcliffAt j))) (fun (_ : Unit) => [wO m0 12 [.ref Mtape, .int (nI Itaped), .int (nI Ifault), .int IfaultPlace, .int (nI Iat), .int (nI Isize), .int Isort, .int Iplace, .int Inumber, .long Iword, .ref MnName, .ref MnStep, .ref MnArg, .ref MnMany, .ref Mstep, .ref Marg, .ref Mmany, .ref Mopen, .ref Mvalues, .ref MnHasForm, .ref MhasForm, .int (nI Iform), .int (nI Iopens), .int (nI InUnits), .int Iunits, .int (nI IownUnits), .int (nI Ideep), .ref Masks, .ref MnLoud, .ref MnCliffAt, .ref MnSnow, .ref MnManAt, .ref MnVoice, .ref MnOn, .ref Mloud, .ref McliffAt, .ref MsnowTold, .ref MmanAt, .ref Mvoice, .ref Mon, .ref MnYes, .ref Myes, .int (nI InWords), .int (nI InCliffs), .int (nI InMen), .int (nI InStates), .int (nI InOns), .int InWind, .int InDraw, .int (nI Iwords), .int (nI Icliffs), .int (nI Imen), .int (nI Istates), .int Ions, .int IwindTold, .int InHasWind, .int InHasDraw, .ref Mnow, .ref Mcry, .ref Msnow, .ref Mecho, .int (nI IcryMany), .int IcallPlace, .int IcallVoice, .int Iwind, .int Ichance, .int (nI IechoMany), .ref Mwere, .int (nI Iacts), .int (nI Iundone), .ref Mlies, .int (nI Ilain), .ref Mspots, .ref Msteps, .ref MfromState, .ref MbyWord, .ref Mqueue, .ref MsoundCliff, .ref MsoundLong, .ref MsoundCame, .ref MsoundTold, .ref MsoundUntold, .int (nI Isounds), .int Itime, .ref Mstands, .int IstandMany, .ref Mtally, .ref MhasBox, .ref Mboxes], wI (cy 1) McliffAt 4 (GcliffAt)]) := by
  refine XMi.start (by decide) (Nat.le_of_ble_eq_true rfl) ?_
  intro p e s m below meth c args A ls Q hat hQ
  obtain ⟨hx, hb, hr, hml, hown, hg, hlocks, hin, hK, hA, hP, hD, hS, hE, hl⟩ := hat
  have hown : s.vm.findClass RX12 = some m.cls := hown
  have hl : lv_has ls 2 [(0, .ref m0), (1, .int (nI j))] := hl
  refine lv_aload_n hx hb dX12_farOf_0 rfl (lv_at hl 0 rfl) ?_
  refine va_get (D := D) (ci := 12) (v := .int IcallPlace) (C := RX12) (T := TX12) (N := 89) hx hb hg i_X12 hown hK hP 0 rfl rfl 62 (by decide) (hg _ m_1475) (fun _ h9 => h9) rfl dX12_farOf_1 ?_
  refine lv_aload_n hx hb dX12_farOf_4 rfl (lv_at hl 0 rfl) ?_
  refine va_get (D := D) (ci := 12) (v := .ref McliffAt) (C := RX12) (T := TX12) (N := 89) hx hb hg i_X12 hown hK hP 0 rfl rfl 35 (by decide) (hg _ m_1448) (fun _ h9 => h9) rfl dX12_farOf_5 ?_
  refine lv_iload_n hx hb dX12_farOf_8 rfl (lv_at hl 1 rfl) ?_
  refine va_iald hx hb hK hP 1 1 rfl rfl (vp_in_nI (by omega) (by decide)) dX12_farOf_9 ?_
  refine lv_topi (fun x_1 ex_1 => ?_)
  refine x_callSi (wr := [wO m0 12 [.ref Mtape, .int (nI Itaped), .int (nI Ifault), .int IfaultPlace, .int (nI Iat), .int (nI Isize), .int Isort, .int Iplace, .int Inumber, .long Iword, .ref MnName, .ref MnStep, .ref MnArg, .ref MnMany, .ref Mstep, .ref Marg, .ref Mmany, .ref Mopen, .ref Mvalues, .ref MnHasForm, .ref MhasForm, .int (nI Iform), .int (nI Iopens), .int (nI InUnits), .int Iunits, .int (nI IownUnits), .int (nI Ideep), .ref Masks, .ref MnLoud, .ref MnCliffAt, .ref MnSnow, .ref MnManAt, .ref MnVoice, .ref MnOn, .ref Mloud, .ref McliffAt, .ref MsnowTold, .ref MmanAt, .ref Mvoice, .ref Mon, .ref MnYes, .ref Myes, .int (nI InWords), .int (nI InCliffs), .int (nI InMen), .int (nI InStates), .int (nI InOns), .int InWind, .int InDraw, .int (nI Iwords), .int (nI Icliffs), .int (nI Imen), .int (nI Istates), .int Ions, .int IwindTold, .int InHasWind, .int InHasDraw, .ref Mnow, .ref Mcry, .ref Msnow, .ref Mecho, .int (nI IcryMany), .int IcallPlace, .int IcallVoice, .int Iwind, .int Ichance, .int (nI IechoMany), .ref Mwere, .int (nI Iacts), .int (nI Iundone), .ref Mlies, .int (nI Ilain), .ref Mspots, .ref Msteps, .ref MfromState, .ref MbyWord, .ref Mqueue, .ref MsoundCliff, .ref MsoundLong, .ref MsoundCame, .ref MsoundTold, .ref MsoundUntold, .int (nI Isounds), .int Itime, .ref Mstands, .int IstandMany, .ref Mtally, .ref MhasBox, .ref Mboxes], wI (cy 1) McliffAt 4 (GcliffAt)]) (rest := []) ⟨hx, hb, hml, hown, hg, hl.1⟩ k_X12_464 (r_off l D cy IcallPlace x_1) E0_blind hK hP hD hS hA [] [0, 1] ⟨rfl, rfl, by decide +kernel, by decide +kernel, by decide +kernel⟩ (fun _ _ _ => trivial) dX12_farOf_10 rfl rfl (Nat.le_of_ble_eq_true rfl) ⟨Nat.le_of_ble_eq_true rfl, Nat.le_of_ble_eq_true rfl⟩ ⟨Nat.le_of_ble_eq_true rfl, Nat.le_of_ble_eq_true rfl⟩ (fun zr2 zu2 H locs hw2 hP9 hD9 hS9 => ?_)
  clear hP hD hS
  refine reW [wO m0 12 [.ref Mtape, .int (nI Itaped), .int (nI Ifault), .int IfaultPlace, .int (nI Iat), .int (nI Isize), .int Isort, .int Iplace, .int Inumber, .long Iword, .ref MnName, .ref MnStep, .ref MnArg, .ref MnMany, .ref Mstep, .ref Marg, .ref Mmany, .ref Mopen, .ref Mvalues, .ref MnHasForm, .ref MhasForm, .int (nI Iform), .int (nI Iopens), .int (nI InUnits), .int Iunits, .int (nI IownUnits), .int (nI Ideep), .ref Masks, .ref MnLoud, .ref MnCliffAt, .ref MnSnow, .ref MnManAt, .ref MnVoice, .ref MnOn, .ref Mloud, .ref McliffAt, .ref MsnowTold, .ref MmanAt, .ref Mvoice, .ref Mon, .ref MnYes, .ref Myes, .int (nI InWords), .int (nI InCliffs), .int (nI InMen), .int (nI InStates), .int (nI InOns), .int InWind, .int InDraw, .int (nI Iwords), .int (nI Icliffs), .int (nI Imen), .int (nI Istates), .int Ions, .int IwindTold, .int InHasWind, .int InHasDraw, .ref Mnow, .ref Mcry, .ref Msnow, .ref Mecho, .int (nI IcryMany), .int IcallPlace, .int IcallVoice, .int Iwind, .int Ichance, .int (nI IechoMany), .ref Mwere, .int (nI Iacts), .int (nI Iundone), .ref Mlies, .int (nI Ilain), .ref Mspots, .ref Msteps, .ref MfromState, .ref MbyWord, .ref Mqueue, .ref MsoundCliff, .ref MsoundLong, .ref MsoundCame, .ref MsoundTold, .ref MsoundUntold, .int (nI Isounds), .int Itime, .ref Mstands, .int IstandMany, .ref Mtally, .ref MhasBox, .ref Mboxes], wI (cy 1) McliffAt 4 (GcliffAt)] hP9 hD9 hS9 (fun hP hD hS => ?_)
  clear hP9 hD9 hS9
  refine W.widen (k := 0) (n := 0) (Nat.le_of_ble_eq_true rfl) (Nat.le_of_ble_eq_true rfl) ?_
  change (zr2 = ofR IcallPlace x_1) at hw2
  have f_3 := hw2
  exact x_iret hQ hx hb hr hlocks hK hP hD hS dX12_farOf_13 () ((show (zr2 : Int32) = ofR IcallPlace (GcliffAt j) from f_3.trans (by rw [ex_1, nI_clamp (by omega)]))) [0, 1] (by decide +kernel) rfl (Nat.le_of_ble_eq_true rfl) (Nat.le_of_ble_eq_true rfl)
theorem gdX12_askOf_0 : decode cX12_askOf 0 = .ok (.aload_n 0, 1) ∧ decode cX12_askOf 1 = .ok (.getfield 52, 3) ∧ decode cX12_askOf 4 = .ok (.iconst 0, 1) ∧ decode cX12_askOf 5 = .ok (.iload_n 1, 1) ∧ decode cX12_askOf 6 = .ok (.iastore, 1) ∧ decode cX12_askOf 7 = .ok (.aload_n 0, 1) ∧ decode cX12_askOf 8 = .ok (.getfield 52, 3) ∧ decode cX12_askOf 11 = .ok (.iconst 1, 1) ∧ decode cX12_askOf 12 = .ok (.iload_n 2, 1) ∧ decode cX12_askOf 13 = .ok (.iastore, 1) ∧ decode cX12_askOf 14 = .ok (.aload_n 0, 1) ∧ decode cX12_askOf 15 = .ok (.getfield 52, 3) := by decide +kernel
theorem dX12_askOf_0 : decode cX12_askOf 0 = .ok (.aload_n 0, 1) := gdX12_askOf_0.1
theorem dX12_askOf_1 : decode cX12_askOf 1 = .ok (.getfield 52, 3) := gdX12_askOf_0.2.1
theorem dX12_askOf_4 : decode cX12_askOf 4 = .ok (.iconst 0, 1) := gdX12_askOf_0.2.2.1
theorem dX12_askOf_5 : decode cX12_askOf 5 = .ok (.iload_n 1, 1) := gdX12_askOf_0.2.2.2.1
theorem dX12_askOf_6 : decode cX12_askOf 6 = .ok (.iastore, 1) := gdX12_askOf_0.2.2.2.2.1
theorem dX12_askOf_7 : decode cX12_askOf 7 = .ok (.aload_n 0, 1) := gdX12_askOf_0.2.2.2.2.2.1
theorem dX12_askOf_8 : decode cX12_askOf 8 = .ok (.getfield 52, 3) := gdX12_askOf_0.2.2.2.2.2.2.1
theorem dX12_askOf_11 : decode cX12_askOf 11 = .ok (.iconst 1, 1) := gdX12_askOf_0.2.2.2.2.2.2.2.1
theorem dX12_askOf_12 : decode cX12_askOf 12 = .ok (.iload_n 2, 1) := gdX12_askOf_0.2.2.2.2.2.2.2.2.1
theorem dX12_askOf_13 : decode cX12_askOf 13 = .ok (.iastore, 1) := gdX12_askOf_0.2.2.2.2.2.2.2.2.2.1
theorem dX12_askOf_14 : decode cX12_askOf 14 = .ok (.aload_n 0, 1) := gdX12_askOf_0.2.2.2.2.2.2.2.2.2.2.1
theorem dX12_askOf_15 : decode cX12_askOf 15 = .ok (.getfield 52, 3) := gdX12_askOf_0.2.2.2.2.2.2.2.2.2.2.2
theorem gdX12_askOf_18 : decode cX12_askOf 18 = .ok (.iconst 2, 1) ∧ decode cX12_askOf 19 = .ok (.iload_n 3, 1) ∧ decode cX12_askOf 20 = .ok (.iastore, 1) ∧ decode cX12_askOf 21 = .ok (.aload_n 0, 1) ∧ decode cX12_askOf 22 = .ok (.getfield 52, 3) ∧ decode cX12_askOf 25 = .ok (.iconst 3, 1) ∧ decode cX12_askOf 26 = .ok (.iload 4, 2) ∧ decode cX12_askOf 28 = .ok (.iastore, 1) ∧ decode cX12_askOf 29 = .ok (.aload_n 0, 1) ∧ decode cX12_askOf 30 = .ok (.getfield 52, 3) ∧ decode cX12_askOf 33 = .ok (.iconst 4, 1) ∧ decode cX12_askOf 34 = .ok (.iconst 0, 1) := by decide +kernel
theorem dX12_askOf_18 : decode cX12_askOf 18 = .ok (.iconst 2, 1) := gdX12_askOf_18.1
theorem dX12_askOf_19 : decode cX12_askOf 19 = .ok (.iload_n 3, 1) := gdX12_askOf_18.2.1
theorem dX12_askOf_20 : decode cX12_askOf 20 = .ok (.iastore, 1) := gdX12_askOf_18.2.2.1
theorem dX12_askOf_21 : decode cX12_askOf 21 = .ok (.aload_n 0, 1) := gdX12_askOf_18.2.2.2.1
theorem dX12_askOf_22 : decode cX12_askOf 22 = .ok (.getfield 52, 3) := gdX12_askOf_18.2.2.2.2.1
theorem dX12_askOf_25 : decode cX12_askOf 25 = .ok (.iconst 3, 1) := gdX12_askOf_18.2.2.2.2.2.1
theorem dX12_askOf_26 : decode cX12_askOf 26 = .ok (.iload 4, 2) := gdX12_askOf_18.2.2.2.2.2.2.1
theorem dX12_askOf_28 : decode cX12_askOf 28 = .ok (.iastore, 1) := gdX12_askOf_18.2.2.2.2.2.2.2.1
theorem dX12_askOf_29 : decode cX12_askOf 29 = .ok (.aload_n 0, 1) := gdX12_askOf_18.2.2.2.2.2.2.2.2.1
theorem dX12_askOf_30 : decode cX12_askOf 30 = .ok (.getfield 52, 3) := gdX12_askOf_18.2.2.2.2.2.2.2.2.2.1
theorem dX12_askOf_33 : decode cX12_askOf 33 = .ok (.iconst 4, 1) := gdX12_askOf_18.2.2.2.2.2.2.2.2.2.2.1
theorem dX12_askOf_34 : decode cX12_askOf 34 = .ok (.iconst 0, 1) := gdX12_askOf_18.2.2.2.2.2.2.2.2.2.2.2
theorem gdX12_askOf_35 : decode cX12_askOf 35 = .ok (.iastore, 1) ∧ decode cX12_askOf 36 = .ok (.aload_n 0, 1) ∧ decode cX12_askOf 37 = .ok (.getfield 52, 3) ∧ decode cX12_askOf 40 = .ok (.iconst 5, 1) ∧ decode cX12_askOf 41 = .ok (.iconst 0, 1) ∧ decode cX12_askOf 42 = .ok (.iastore, 1) ∧ decode cX12_askOf 43 = .ok (.aload_n 0, 1) ∧ decode cX12_askOf 44 = .ok (.getfield 52, 3) ∧ decode cX12_askOf 47 = .ok (.bipush 6, 2) ∧ decode cX12_askOf 49 = .ok (.iconst 0, 1) ∧ decode cX12_askOf 50 = .ok (.iastore, 1) ∧ decode cX12_askOf 51 = .ok (.return_, 1) := by decide +kernel
theorem dX12_askOf_35 : decode cX12_askOf 35 = .ok (.iastore, 1) := gdX12_askOf_35.1
theorem dX12_askOf_36 : decode cX12_askOf 36 = .ok (.aload_n 0, 1) := gdX12_askOf_35.2.1
theorem dX12_askOf_37 : decode cX12_askOf 37 = .ok (.getfield 52, 3) := gdX12_askOf_35.2.2.1
theorem dX12_askOf_40 : decode cX12_askOf 40 = .ok (.iconst 5, 1) := gdX12_askOf_35.2.2.2.1
theorem dX12_askOf_41 : decode cX12_askOf 41 = .ok (.iconst 0, 1) := gdX12_askOf_35.2.2.2.2.1
theorem dX12_askOf_42 : decode cX12_askOf 42 = .ok (.iastore, 1) := gdX12_askOf_35.2.2.2.2.2.1
theorem dX12_askOf_43 : decode cX12_askOf 43 = .ok (.aload_n 0, 1) := gdX12_askOf_35.2.2.2.2.2.2.1
theorem dX12_askOf_44 : decode cX12_askOf 44 = .ok (.getfield 52, 3) := gdX12_askOf_35.2.2.2.2.2.2.2.1
theorem dX12_askOf_47 : decode cX12_askOf 47 = .ok (.bipush 6, 2) := gdX12_askOf_35.2.2.2.2.2.2.2.2.1
theorem dX12_askOf_49 : decode cX12_askOf 49 = .ok (.iconst 0, 1) := gdX12_askOf_35.2.2.2.2.2.2.2.2.2.1
theorem dX12_askOf_50 : decode cX12_askOf 50 = .ok (.iastore, 1) := gdX12_askOf_35.2.2.2.2.2.2.2.2.2.2.1
theorem dX12_askOf_51 : decode cX12_askOf 51 = .ok (.return_, 1) := gdX12_askOf_35.2.2.2.2.2.2.2.2.2.2.2
set_option maxHeartbeats 1000000 in
set_option maxRecDepth 100000 in
theorem r_askOf (l : Launch) (D : va_G) (cy : Nat → ClassId) (m0 : Nat) (Mtape : Nat) (MnName : Nat) (MnStep : Nat) (MnArg : Nat) (MnMany : Nat) (Mstep : Nat) (Marg : Nat) (Mmany : Nat) (Mopen : Nat) (Mvalues : Nat) (MnHasForm : Nat) (MhasForm : Nat) (Masks : Nat) (MnLoud : Nat) (MnCliffAt : Nat) (MnSnow : Nat) (MnManAt : Nat) (MnVoice : Nat) (MnOn : Nat) (Mloud : Nat) (McliffAt : Nat) (MsnowTold : Nat) (MmanAt : Nat) (Mvoice : Nat) (Mon : Nat) (MnYes : Nat) (Myes : Nat) (Mnow : Nat) (Mcry : Nat) (Msnow : Nat) (Mecho : Nat) (Mwere : Nat) (Mlies : Nat) (Mspots : Nat) (Msteps : Nat) (MfromState : Nat) (MbyWord : Nat) (Mqueue : Nat) (MsoundCliff : Nat) (MsoundLong : Nat) (MsoundCame : Nat) (MsoundTold : Nat) (MsoundUntold : Nat) (Mstands : Nat) (Mtally : Nat) (MhasBox : Nat) (Mboxes : Nat) (Itaped : Nat) (Ifault : Nat) (IfaultPlace : Int32) (Iat : Nat) (Isize : Nat) (Isort : Int32) (Iplace : Int32) (Inumber : Int32) (Iword : Int64) (Iform : Nat) (Iopens : Nat) (InUnits : Nat) (Iunits : Int32) (IownUnits : Nat) (Ideep : Nat) (Gasks : Nat → Int32) (InWords : Nat) (InCliffs : Nat) (InMen : Nat) (InStates : Nat) (InOns : Nat) (InWind : Int32) (InDraw : Int32) (Iwords : Nat) (Icliffs : Nat) (Imen : Nat) (Istates : Nat) (Ions : Int32) (IwindTold : Int32) (InHasWind : Int32) (InHasDraw : Int32) (IcryMany : Nat) (IcallPlace : Int32) (IcallVoice : Int32) (Iwind : Int32) (Ichance : Int32) (IechoMany : Nat) (Iacts : Nat) (Iundone : Nat) (Ilain : Nat) (Isounds : Nat) (Itime : Int32) (IstandMany : Int32) (xa : Int32) (xb : Int32) (xc9 : Int32) (xd : Int32) (gtp : Itaped ≤ 1600) (gat : Iat ≤ Isize) (gsz : Isize ≤ 1600) (gfl : Ifault ≤ 5) (gfo : Iform ≤ 2) (gnw : InWords ≤ 8) (gnc : InCliffs ≤ 4) (gnm : InMen ≤ 4) (gns : InStates ≤ 6) (gw : Iwords ≤ 8) (gc9 : Icliffs ≤ 4) (gm : Imen ≤ 4) (gs : Istates ≤ 6) (gcm : IcryMany ≤ 10) (gem : IechoMany ≤ 20) (gau : Iacts + Iundone ≤ 40) (gla : Ilain ≤ 20) (gso : Isounds ≤ 30) (gop : Iopens ≤ 40) (gde : Ideep ≤ 8) (gou : IownUnits ≤ 31) (gnu : InUnits ≤ 61) (gno : InOns ≤ 30) : XMv l D (tyL cy) E0 yX12_askOf cX12_askOf 5 none (rmk 0 0 0) [.ref m0, .int xa, .int xb, .int xc9, .int xd] [wO m0 12 [.ref Mtape, .int (nI Itaped), .int (nI Ifault), .int IfaultPlace, .int (nI Iat), .int (nI Isize), .int Isort, .int Iplace, .int Inumber, .long Iword, .ref MnName, .ref MnStep, .ref MnArg, .ref MnMany, .ref Mstep, .ref Marg, .ref Mmany, .ref Mopen, .ref Mvalues, .ref MnHasForm, .ref MhasForm, .int (nI Iform), .int (nI Iopens), .int (nI InUnits), .int Iunits, .int (nI IownUnits), .int (nI Ideep), .ref Masks, .ref MnLoud, .ref MnCliffAt, .ref MnSnow, .ref MnManAt, .ref MnVoice, .ref MnOn, .ref Mloud, .ref McliffAt, .ref MsnowTold, .ref MmanAt, .ref Mvoice, .ref Mon, .ref MnYes, .ref Myes, .int (nI InWords), .int (nI InCliffs), .int (nI InMen), .int (nI InStates), .int (nI InOns), .int InWind, .int InDraw, .int (nI Iwords), .int (nI Icliffs), .int (nI Imen), .int (nI Istates), .int Ions, .int IwindTold, .int InHasWind, .int InHasDraw, .ref Mnow, .ref Mcry, .ref Msnow, .ref Mecho, .int (nI IcryMany), .int IcallPlace, .int IcallVoice, .int Iwind, .int Ichance, .int (nI IechoMany), .ref Mwere, .int (nI Iacts), .int (nI Iundone), .ref Mlies, .int (nI Ilain), .ref Mspots, .ref Msteps, .ref MfromState, .ref MbyWord, .ref Mqueue, .ref MsoundCliff, .ref MsoundLong, .ref MsoundCame, .ref MsoundTold, .ref MsoundUntold, .int (nI Isounds), .int Itime, .ref Mstands, .int IstandMany, .ref Mtally, .ref MhasBox, .ref Mboxes], wI (cy 1) Masks 7 (Gasks)] (fun (Gasks2 : Nat → Int32) => (∀ k9, k9 < 7 → Gasks2 k9 = fk7 xa xb xc9 xd 0 0 0 k9)) (fun (Gasks2 : Nat → Int32) => [wO m0 12 [.ref Mtape, .int (nI Itaped), .int (nI Ifault), .int IfaultPlace, .int (nI Iat), .int (nI Isize), .int Isort, .int Iplace, .int Inumber, .long Iword, .ref MnName, .ref MnStep, .ref MnArg, .ref MnMany, .ref Mstep, .ref Marg, .ref Mmany, .ref Mopen, .ref Mvalues, .ref MnHasForm, .ref MhasForm, .int (nI Iform), .int (nI Iopens), .int (nI InUnits), .int Iunits, .int (nI IownUnits), .int (nI Ideep), .ref Masks, .ref MnLoud, .ref MnCliffAt, .ref MnSnow, .ref MnManAt, .ref MnVoice, .ref MnOn, .ref Mloud, .ref McliffAt, .ref MsnowTold, .ref MmanAt, .ref Mvoice, .ref Mon, .ref MnYes, .ref Myes, .int (nI InWords), .int (nI InCliffs), .int (nI InMen), .int (nI InStates), .int (nI InOns), .int InWind, .int InDraw, .int (nI Iwords), .int (nI Icliffs), .int (nI Imen), .int (nI Istates), .int Ions, .int IwindTold, .int InHasWind, .int InHasDraw, .ref Mnow, .ref Mcry, .ref Msnow, .ref Mecho, .int (nI IcryMany), .int IcallPlace, .int IcallVoice, .int Iwind, .int Ichance, .int (nI IechoMany), .ref Mwere, .int (nI Iacts), .int (nI Iundone), .ref Mlies, .int (nI Ilain), .ref Mspots, .ref Msteps, .ref MfromState, .ref MbyWord, .ref Mqueue, .ref MsoundCliff, .ref MsoundLong, .ref MsoundCame, .ref MsoundTold, .ref MsoundUntold, .int (nI Isounds), .int Itime, .ref Mstands, .int IstandMany, .ref Mtally, .ref MhasBox, .ref Mboxes], wI (cy 1) Masks 7 (Gasks2)]) := by
  refine XMv.start (by decide) (Nat.le_of_ble_eq_true rfl) ?_
  intro p e s m below meth c args A ls Q hat hQ
  obtain ⟨hx, hb, hr, hml, hown, hg, hlocks, hin, hK, hA, hP, hD, hS, hE, hl⟩ := hat
  have hown : s.vm.findClass RX12 = some m.cls := hown
  have hl : lv_has ls 5 [(0, .ref m0), (1, .int xa), (2, .int xb), (3, .int xc9), (4, .int xd)] := hl
  refine lv_aload_n hx hb dX12_askOf_0 rfl (lv_at hl 0 rfl) ?_
  refine va_get (D := D) (ci := 12) (v := .ref Masks) (C := RX12) (T := TX12) (N := 89) hx hb hg i_X12 hown hK hP 0 rfl rfl 27 (by decide) (hg _ m_1440) (fun _ h9 => h9) rfl dX12_askOf_1 ?_
  refine lv_iconst (v := 0) hx hb dX12_askOf_4 (by decide) ?_
  refine lv_iload_n hx hb dX12_askOf_5 rfl (lv_at hl 1 rfl) ?_
  refine va_iast hx hb hK hP hD hS 1 1 rfl rfl (by unfold vp_in; decide) dX12_askOf_6 (fun H locs hP9 hD9 hS9 => ?_)
  clear hP hD hS
  obtain ⟨g_1, eg_1⟩ : ∃ y, upd Gasks (0 : Int32).toNatClampNeg xa = y := ⟨_, rfl⟩
  rw [eg_1] at hP9 hD9
  refine reW [wO m0 12 [.ref Mtape, .int (nI Itaped), .int (nI Ifault), .int IfaultPlace, .int (nI Iat), .int (nI Isize), .int Isort, .int Iplace, .int Inumber, .long Iword, .ref MnName, .ref MnStep, .ref MnArg, .ref MnMany, .ref Mstep, .ref Marg, .ref Mmany, .ref Mopen, .ref Mvalues, .ref MnHasForm, .ref MhasForm, .int (nI Iform), .int (nI Iopens), .int (nI InUnits), .int Iunits, .int (nI IownUnits), .int (nI Ideep), .ref Masks, .ref MnLoud, .ref MnCliffAt, .ref MnSnow, .ref MnManAt, .ref MnVoice, .ref MnOn, .ref Mloud, .ref McliffAt, .ref MsnowTold, .ref MmanAt, .ref Mvoice, .ref Mon, .ref MnYes, .ref Myes, .int (nI InWords), .int (nI InCliffs), .int (nI InMen), .int (nI InStates), .int (nI InOns), .int InWind, .int InDraw, .int (nI Iwords), .int (nI Icliffs), .int (nI Imen), .int (nI Istates), .int Ions, .int IwindTold, .int InHasWind, .int InHasDraw, .ref Mnow, .ref Mcry, .ref Msnow, .ref Mecho, .int (nI IcryMany), .int IcallPlace, .int IcallVoice, .int Iwind, .int Ichance, .int (nI IechoMany), .ref Mwere, .int (nI Iacts), .int (nI Iundone), .ref Mlies, .int (nI Ilain), .ref Mspots, .ref Msteps, .ref MfromState, .ref MbyWord, .ref Mqueue, .ref MsoundCliff, .ref MsoundLong, .ref MsoundCame, .ref MsoundTold, .ref MsoundUntold, .int (nI Isounds), .int Itime, .ref Mstands, .int IstandMany, .ref Mtally, .ref MhasBox, .ref Mboxes], wI (cy 1) Masks 7 (g_1)] hP9 hD9 hS9 (fun hP hD hS => ?_)
  clear hP9 hD9 hS9
  refine lv_aload_n hx hb dX12_askOf_7 rfl (lv_at hl 0 rfl) ?_
  refine va_get (D := D) (ci := 12) (v := .ref Masks) (C := RX12) (T := TX12) (N := 89) hx hb hg i_X12 hown hK hP 0 rfl rfl 27 (by decide) (hg _ m_1440) (fun _ h9 => h9) rfl dX12_askOf_8 ?_
  refine lv_iconst (v := 1) hx hb dX12_askOf_11 (by decide) ?_
  refine lv_iload_n hx hb dX12_askOf_12 rfl (lv_at hl 2 rfl) ?_
  refine va_iast hx hb hK hP hD hS 1 1 rfl rfl (by unfold vp_in; decide) dX12_askOf_13 (fun H locs hP9 hD9 hS9 => ?_)
  clear hP hD hS
  obtain ⟨g_2, eg_2⟩ : ∃ y, upd g_1 (1 : Int32).toNatClampNeg xb = y := ⟨_, rfl⟩
  rw [eg_2] at hP9 hD9
  refine reW [wO m0 12 [.ref Mtape, .int (nI Itaped), .int (nI Ifault), .int IfaultPlace, .int (nI Iat), .int (nI Isize), .int Isort, .int Iplace, .int Inumber, .long Iword, .ref MnName, .ref MnStep, .ref MnArg, .ref MnMany, .ref Mstep, .ref Marg, .ref Mmany, .ref Mopen, .ref Mvalues, .ref MnHasForm, .ref MhasForm, .int (nI Iform), .int (nI Iopens), .int (nI InUnits), .int Iunits, .int (nI IownUnits), .int (nI Ideep), .ref Masks, .ref MnLoud, .ref MnCliffAt, .ref MnSnow, .ref MnManAt, .ref MnVoice, .ref MnOn, .ref Mloud, .ref McliffAt, .ref MsnowTold, .ref MmanAt, .ref Mvoice, .ref Mon, .ref MnYes, .ref Myes, .int (nI InWords), .int (nI InCliffs), .int (nI InMen), .int (nI InStates), .int (nI InOns), .int InWind, .int InDraw, .int (nI Iwords), .int (nI Icliffs), .int (nI Imen), .int (nI Istates), .int Ions, .int IwindTold, .int InHasWind, .int InHasDraw, .ref Mnow, .ref Mcry, .ref Msnow, .ref Mecho, .int (nI IcryMany), .int IcallPlace, .int IcallVoice, .int Iwind, .int Ichance, .int (nI IechoMany), .ref Mwere, .int (nI Iacts), .int (nI Iundone), .ref Mlies, .int (nI Ilain), .ref Mspots, .ref Msteps, .ref MfromState, .ref MbyWord, .ref Mqueue, .ref MsoundCliff, .ref MsoundLong, .ref MsoundCame, .ref MsoundTold, .ref MsoundUntold, .int (nI Isounds), .int Itime, .ref Mstands, .int IstandMany, .ref Mtally, .ref MhasBox, .ref Mboxes], wI (cy 1) Masks 7 (g_2)] hP9 hD9 hS9 (fun hP hD hS => ?_)
  clear hP9 hD9 hS9
  refine lv_aload_n hx hb dX12_askOf_14 rfl (lv_at hl 0 rfl) ?_
  refine va_get (D := D) (ci := 12) (v := .ref Masks) (C := RX12) (T := TX12) (N := 89) hx hb hg i_X12 hown hK hP 0 rfl rfl 27 (by decide) (hg _ m_1440) (fun _ h9 => h9) rfl dX12_askOf_15 ?_
  refine lv_iconst (v := 2) hx hb dX12_askOf_18 (by decide) ?_
  refine lv_iload_n hx hb dX12_askOf_19 rfl (lv_at hl 3 rfl) ?_
  refine va_iast hx hb hK hP hD hS 1 1 rfl rfl (by unfold vp_in; decide) dX12_askOf_20 (fun H locs hP9 hD9 hS9 => ?_)
  clear hP hD hS
  obtain ⟨g_3, eg_3⟩ : ∃ y, upd g_2 (2 : Int32).toNatClampNeg xc9 = y := ⟨_, rfl⟩
  rw [eg_3] at hP9 hD9
  refine reW [wO m0 12 [.ref Mtape, .int (nI Itaped), .int (nI Ifault), .int IfaultPlace, .int (nI Iat), .int (nI Isize), .int Isort, .int Iplace, .int Inumber, .long Iword, .ref MnName, .ref MnStep, .ref MnArg, .ref MnMany, .ref Mstep, .ref Marg, .ref Mmany, .ref Mopen, .ref Mvalues, .ref MnHasForm, .ref MhasForm, .int (nI Iform), .int (nI Iopens), .int (nI InUnits), .int Iunits, .int (nI IownUnits), .int (nI Ideep), .ref Masks, .ref MnLoud, .ref MnCliffAt, .ref MnSnow, .ref MnManAt, .ref MnVoice, .ref MnOn, .ref Mloud, .ref McliffAt, .ref MsnowTold, .ref MmanAt, .ref Mvoice, .ref Mon, .ref MnYes, .ref Myes, .int (nI InWords), .int (nI InCliffs), .int (nI InMen), .int (nI InStates), .int (nI InOns), .int InWind, .int InDraw, .int (nI Iwords), .int (nI Icliffs), .int (nI Imen), .int (nI Istates), .int Ions, .int IwindTold, .int InHasWind, .int InHasDraw, .ref Mnow, .ref Mcry, .ref Msnow, .ref Mecho, .int (nI IcryMany), .int IcallPlace, .int IcallVoice, .int Iwind, .int Ichance, .int (nI IechoMany), .ref Mwere, .int (nI Iacts), .int (nI Iundone), .ref Mlies, .int (nI Ilain), .ref Mspots, .ref Msteps, .ref MfromState, .ref MbyWord, .ref Mqueue, .ref MsoundCliff, .ref MsoundLong, .ref MsoundCame, .ref MsoundTold, .ref MsoundUntold, .int (nI Isounds), .int Itime, .ref Mstands, .int IstandMany, .ref Mtally, .ref MhasBox, .ref Mboxes], wI (cy 1) Masks 7 (g_3)] hP9 hD9 hS9 (fun hP hD hS => ?_)
  clear hP9 hD9 hS9
  refine lv_aload_n hx hb dX12_askOf_21 rfl (lv_at hl 0 rfl) ?_
  refine va_get (D := D) (ci := 12) (v := .ref Masks) (C := RX12) (T := TX12) (N := 89) hx hb hg i_X12 hown hK hP 0 rfl rfl 27 (by decide) (hg _ m_1440) (fun _ h9 => h9) rfl dX12_askOf_22 ?_
  refine lv_iconst (v := 3) hx hb dX12_askOf_25 (by decide) ?_
  refine lv_iload hx hb dX12_askOf_26 (lv_at hl 4 rfl) ?_
  refine va_iast hx hb hK hP hD hS 1 1 rfl rfl (by unfold vp_in; decide) dX12_askOf_28 (fun H locs hP9 hD9 hS9 => ?_)
  clear hP hD hS
  obtain ⟨g_4, eg_4⟩ : ∃ y, upd g_3 (3 : Int32).toNatClampNeg xd = y := ⟨_, rfl⟩
  rw [eg_4] at hP9 hD9
  refine reW [wO m0 12 [.ref Mtape, .int (nI Itaped), .int (nI Ifault), .int IfaultPlace, .int (nI Iat), .int (nI Isize), .int Isort, .int Iplace, .int Inumber, .long Iword, .ref MnName, .ref MnStep, .ref MnArg, .ref MnMany, .ref Mstep, .ref Marg, .ref Mmany, .ref Mopen, .ref Mvalues, .ref MnHasForm, .ref MhasForm, .int (nI Iform), .int (nI Iopens), .int (nI InUnits), .int Iunits, .int (nI IownUnits), .int (nI Ideep), .ref Masks, .ref MnLoud, .ref MnCliffAt, .ref MnSnow, .ref MnManAt, .ref MnVoice, .ref MnOn, .ref Mloud, .ref McliffAt, .ref MsnowTold, .ref MmanAt, .ref Mvoice, .ref Mon, .ref MnYes, .ref Myes, .int (nI InWords), .int (nI InCliffs), .int (nI InMen), .int (nI InStates), .int (nI InOns), .int InWind, .int InDraw, .int (nI Iwords), .int (nI Icliffs), .int (nI Imen), .int (nI Istates), .int Ions, .int IwindTold, .int InHasWind, .int InHasDraw, .ref Mnow, .ref Mcry, .ref Msnow, .ref Mecho, .int (nI IcryMany), .int IcallPlace, .int IcallVoice, .int Iwind, .int Ichance, .int (nI IechoMany), .ref Mwere, .int (nI Iacts), .int (nI Iundone), .ref Mlies, .int (nI Ilain), .ref Mspots, .ref Msteps, .ref MfromState, .ref MbyWord, .ref Mqueue, .ref MsoundCliff, .ref MsoundLong, .ref MsoundCame, .ref MsoundTold, .ref MsoundUntold, .int (nI Isounds), .int Itime, .ref Mstands, .int IstandMany, .ref Mtally, .ref MhasBox, .ref Mboxes], wI (cy 1) Masks 7 (g_4)] hP9 hD9 hS9 (fun hP hD hS => ?_)
  clear hP9 hD9 hS9
  refine lv_aload_n hx hb dX12_askOf_29 rfl (lv_at hl 0 rfl) ?_
  refine va_get (D := D) (ci := 12) (v := .ref Masks) (C := RX12) (T := TX12) (N := 89) hx hb hg i_X12 hown hK hP 0 rfl rfl 27 (by decide) (hg _ m_1440) (fun _ h9 => h9) rfl dX12_askOf_30 ?_
  refine lv_iconst (v := 4) hx hb dX12_askOf_33 (by decide) ?_
  refine lv_iconst (v := 0) hx hb dX12_askOf_34 (by decide) ?_
  refine va_iast hx hb hK hP hD hS 1 1 rfl rfl (by unfold vp_in; decide) dX12_askOf_35 (fun H locs hP9 hD9 hS9 => ?_)
  clear hP hD hS
  obtain ⟨g_5, eg_5⟩ : ∃ y, upd g_4 (4 : Int32).toNatClampNeg 0 = y := ⟨_, rfl⟩
  rw [eg_5] at hP9 hD9
  refine reW [wO m0 12 [.ref Mtape, .int (nI Itaped), .int (nI Ifault), .int IfaultPlace, .int (nI Iat), .int (nI Isize), .int Isort, .int Iplace, .int Inumber, .long Iword, .ref MnName, .ref MnStep, .ref MnArg, .ref MnMany, .ref Mstep, .ref Marg, .ref Mmany, .ref Mopen, .ref Mvalues, .ref MnHasForm, .ref MhasForm, .int (nI Iform), .int (nI Iopens), .int (nI InUnits), .int Iunits, .int (nI IownUnits), .int (nI Ideep), .ref Masks, .ref MnLoud, .ref MnCliffAt, .ref MnSnow, .ref MnManAt, .ref MnVoice, .ref MnOn, .ref Mloud, .ref McliffAt, .ref MsnowTold, .ref MmanAt, .ref Mvoice, .ref Mon, .ref MnYes, .ref Myes, .int (nI InWords), .int (nI InCliffs), .int (nI InMen), .int (nI InStates), .int (nI InOns), .int InWind, .int InDraw, .int (nI Iwords), .int (nI Icliffs), .int (nI Imen), .int (nI Istates), .int Ions, .int IwindTold, .int InHasWind, .int InHasDraw, .ref Mnow, .ref Mcry, .ref Msnow, .ref Mecho, .int (nI IcryMany), .int IcallPlace, .int IcallVoice, .int Iwind, .int Ichance, .int (nI IechoMany), .ref Mwere, .int (nI Iacts), .int (nI Iundone), .ref Mlies, .int (nI Ilain), .ref Mspots, .ref Msteps, .ref MfromState, .ref MbyWord, .ref Mqueue, .ref MsoundCliff, .ref MsoundLong, .ref MsoundCame, .ref MsoundTold, .ref MsoundUntold, .int (nI Isounds), .int Itime, .ref Mstands, .int IstandMany, .ref Mtally, .ref MhasBox, .ref Mboxes], wI (cy 1) Masks 7 (g_5)] hP9 hD9 hS9 (fun hP hD hS => ?_)
  clear hP9 hD9 hS9
  refine lv_aload_n hx hb dX12_askOf_36 rfl (lv_at hl 0 rfl) ?_
  refine va_get (D := D) (ci := 12) (v := .ref Masks) (C := RX12) (T := TX12) (N := 89) hx hb hg i_X12 hown hK hP 0 rfl rfl 27 (by decide) (hg _ m_1440) (fun _ h9 => h9) rfl dX12_askOf_37 ?_
  refine lv_iconst (v := 5) hx hb dX12_askOf_40 (by decide) ?_
  refine lv_iconst (v := 0) hx hb dX12_askOf_41 (by decide) ?_
  refine va_iast hx hb hK hP hD hS 1 1 rfl rfl (by unfold vp_in; decide) dX12_askOf_42 (fun H locs hP9 hD9 hS9 => ?_)
  clear hP hD hS
  obtain ⟨g_6, eg_6⟩ : ∃ y, upd g_5 (5 : Int32).toNatClampNeg 0 = y := ⟨_, rfl⟩
  rw [eg_6] at hP9 hD9
  refine reW [wO m0 12 [.ref Mtape, .int (nI Itaped), .int (nI Ifault), .int IfaultPlace, .int (nI Iat), .int (nI Isize), .int Isort, .int Iplace, .int Inumber, .long Iword, .ref MnName, .ref MnStep, .ref MnArg, .ref MnMany, .ref Mstep, .ref Marg, .ref Mmany, .ref Mopen, .ref Mvalues, .ref MnHasForm, .ref MhasForm, .int (nI Iform), .int (nI Iopens), .int (nI InUnits), .int Iunits, .int (nI IownUnits), .int (nI Ideep), .ref Masks, .ref MnLoud, .ref MnCliffAt, .ref MnSnow, .ref MnManAt, .ref MnVoice, .ref MnOn, .ref Mloud, .ref McliffAt, .ref MsnowTold, .ref MmanAt, .ref Mvoice, .ref Mon, .ref MnYes, .ref Myes, .int (nI InWords), .int (nI InCliffs), .int (nI InMen), .int (nI InStates), .int (nI InOns), .int InWind, .int InDraw, .int (nI Iwords), .int (nI Icliffs), .int (nI Imen), .int (nI Istates), .int Ions, .int IwindTold, .int InHasWind, .int InHasDraw, .ref Mnow, .ref Mcry, .ref Msnow, .ref Mecho, .int (nI IcryMany), .int IcallPlace, .int IcallVoice, .int Iwind, .int Ichance, .int (nI IechoMany), .ref Mwere, .int (nI Iacts), .int (nI Iundone), .ref Mlies, .int (nI Ilain), .ref Mspots, .ref Msteps, .ref MfromState, .ref MbyWord, .ref Mqueue, .ref MsoundCliff, .ref MsoundLong, .ref MsoundCame, .ref MsoundTold, .ref MsoundUntold, .int (nI Isounds), .int Itime, .ref Mstands, .int IstandMany, .ref Mtally, .ref MhasBox, .ref Mboxes], wI (cy 1) Masks 7 (g_6)] hP9 hD9 hS9 (fun hP hD hS => ?_)
  clear hP9 hD9 hS9
  refine lv_aload_n hx hb dX12_askOf_43 rfl (lv_at hl 0 rfl) ?_
  refine va_get (D := D) (ci := 12) (v := .ref Masks) (C := RX12) (T := TX12) (N := 89) hx hb hg i_X12 hown hK hP 0 rfl rfl 27 (by decide) (hg _ m_1440) (fun _ h9 => h9) rfl dX12_askOf_44 ?_
  refine lv_bipush (v := 6) hx hb dX12_askOf_47 (by decide) ?_
  refine lv_iconst (v := 0) hx hb dX12_askOf_49 (by decide) ?_
  refine va_iast hx hb hK hP hD hS 1 1 rfl rfl (by unfold vp_in; decide) dX12_askOf_50 (fun H locs hP9 hD9 hS9 => ?_)
  clear hP hD hS
  obtain ⟨g_7, eg_7⟩ : ∃ y, upd g_6 (6 : Int32).toNatClampNeg 0 = y := ⟨_, rfl⟩
  rw [eg_7] at hP9 hD9
  refine reW [wO m0 12 [.ref Mtape, .int (nI Itaped), .int (nI Ifault), .int IfaultPlace, .int (nI Iat), .int (nI Isize), .int Isort, .int Iplace, .int Inumber, .long Iword, .ref MnName, .ref MnStep, .ref MnArg, .ref MnMany, .ref Mstep, .ref Marg, .ref Mmany, .ref Mopen, .ref Mvalues, .ref MnHasForm, .ref MhasForm, .int (nI Iform), .int (nI Iopens), .int (nI InUnits), .int Iunits, .int (nI IownUnits), .int (nI Ideep), .ref Masks, .ref MnLoud, .ref MnCliffAt, .ref MnSnow, .ref MnManAt, .ref MnVoice, .ref MnOn, .ref Mloud, .ref McliffAt, .ref MsnowTold, .ref MmanAt, .ref Mvoice, .ref Mon, .ref MnYes, .ref Myes, .int (nI InWords), .int (nI InCliffs), .int (nI InMen), .int (nI InStates), .int (nI InOns), .int InWind, .int InDraw, .int (nI Iwords), .int (nI Icliffs), .int (nI Imen), .int (nI Istates), .int Ions, .int IwindTold, .int InHasWind, .int InHasDraw, .ref Mnow, .ref Mcry, .ref Msnow, .ref Mecho, .int (nI IcryMany), .int IcallPlace, .int IcallVoice, .int Iwind, .int Ichance, .int (nI IechoMany), .ref Mwere, .int (nI Iacts), .int (nI Iundone), .ref Mlies, .int (nI Ilain), .ref Mspots, .ref Msteps, .ref MfromState, .ref MbyWord, .ref Mqueue, .ref MsoundCliff, .ref MsoundLong, .ref MsoundCame, .ref MsoundTold, .ref MsoundUntold, .int (nI Isounds), .int Itime, .ref Mstands, .int IstandMany, .ref Mtally, .ref MhasBox, .ref Mboxes], wI (cy 1) Masks 7 (g_7)] hP9 hD9 hS9 (fun hP hD hS => ?_)
  clear hP9 hD9 hS9
  exact x_vret hQ hx hb hr hlocks hK hP hD hS dX12_askOf_51 g_7 ((show ∀ k9, k9 < 7 → g_7 k9 = fk7 xa xb xc9 xd 0 0 0 k9 from (fk7_seq eg_1 eg_2 eg_3 eg_4 eg_5 eg_6 eg_7))) [0, 1] (by decide +kernel) rfl (Nat.le_of_ble_eq_true rfl) (Nat.le_of_ble_eq_true rfl)
theorem gdX12_backOf_0 : decode cX12_backOf 0 = .ok (.aload_n 0, 1) ∧ decode cX12_backOf 1 = .ok (.iload_n 1, 1) ∧ decode cX12_backOf 2 = .ok (.iload_n 2, 1) ∧ decode cX12_backOf 3 = .ok (.iload_n 3, 1) ∧ decode cX12_backOf 4 = .ok (.iload 4, 2) ∧ decode cX12_backOf 6 = .ok (.invokevirtual 467, 3) := by decide +kernel
theorem dX12_backOf_0 : decode cX12_backOf 0 = .ok (.aload_n 0, 1) := gdX12_backOf_0.1
theorem dX12_backOf_1 : decode cX12_backOf 1 = .ok (.iload_n 1, 1) := gdX12_backOf_0.2.1
theorem dX12_backOf_2 : decode cX12_backOf 2 = .ok (.iload_n 2, 1) := gdX12_backOf_0.2.2.1
theorem dX12_backOf_3 : decode cX12_backOf 3 = .ok (.iload_n 3, 1) := gdX12_backOf_0.2.2.2.1
theorem dX12_backOf_4 : decode cX12_backOf 4 = .ok (.iload 4, 2) := gdX12_backOf_0.2.2.2.2.1
theorem dX12_backOf_6 : decode cX12_backOf 6 = .ok (.invokevirtual 467, 3) := gdX12_backOf_0.2.2.2.2.2
theorem k_X12_467 : xV RX12 RX12 467 yX12_askOf cX12_askOf 5 none 4 := ⟨⟨m_1967, m_1969, m_112, m_146, m_1970⟩, rfl, by decide, by decide, by decide +kernel⟩
theorem gdX12_backOf_9 : decode cX12_backOf 9 = .ok (.aload_n 0, 1) ∧ decode cX12_backOf 10 = .ok (.getfield 49, 3) ∧ decode cX12_backOf 13 = .ok (.iconst 0, 1) ∧ decode cX12_backOf 14 = .ok (.baload, 1) ∧ decode cX12_backOf 15 = .ok (.ifCond .eq 11, 3) ∧ decode cX12_backOf 26 = .ok (.iconst 3, 1) ∧ decode cX12_backOf 27 = .ok (.istore 5, 2) ∧ decode cX12_backOf 29 = .ok (.iload 5, 2) ∧ decode cX12_backOf 31 = .ok (.ifCond .ge 7, 3) ∧ decode cX12_backOf 38 = .ok (.iload 5, 2) ∧ decode cX12_backOf 40 = .ok (.iload 4, 2) ∧ decode cX12_backOf 42 = .ok (.if_icmp .le 8, 3) := by decide +kernel
theorem dX12_backOf_9 : decode cX12_backOf 9 = .ok (.aload_n 0, 1) := gdX12_backOf_9.1
theorem dX12_backOf_10 : decode cX12_backOf 10 = .ok (.getfield 49, 3) := gdX12_backOf_9.2.1
theorem dX12_backOf_13 : decode cX12_backOf 13 = .ok (.iconst 0, 1) := gdX12_backOf_9.2.2.1
theorem dX12_backOf_14 : decode cX12_backOf 14 = .ok (.baload, 1) := gdX12_backOf_9.2.2.2.1
theorem dX12_backOf_15 : decode cX12_backOf 15 = .ok (.ifCond .eq 11, 3) := gdX12_backOf_9.2.2.2.2.1
theorem dX12_backOf_26 : decode cX12_backOf 26 = .ok (.iconst 3, 1) := gdX12_backOf_9.2.2.2.2.2.1
theorem dX12_backOf_27 : decode cX12_backOf 27 = .ok (.istore 5, 2) := gdX12_backOf_9.2.2.2.2.2.2.1
theorem dX12_backOf_29 : decode cX12_backOf 29 = .ok (.iload 5, 2) := gdX12_backOf_9.2.2.2.2.2.2.2.1
theorem dX12_backOf_31 : decode cX12_backOf 31 = .ok (.ifCond .ge 7, 3) := gdX12_backOf_9.2.2.2.2.2.2.2.2.1
theorem dX12_backOf_38 : decode cX12_backOf 38 = .ok (.iload 5, 2) := gdX12_backOf_9.2.2.2.2.2.2.2.2.2.1
theorem dX12_backOf_40 : decode cX12_backOf 40 = .ok (.iload 4, 2) := gdX12_backOf_9.2.2.2.2.2.2.2.2.2.2.1
theorem dX12_backOf_42 : decode cX12_backOf 42 = .ok (.if_icmp .le 8, 3) := gdX12_backOf_9.2.2.2.2.2.2.2.2.2.2.2
theorem gdX12_backOf_50 : decode cX12_backOf 50 = .ok (.iload 5, 2) ∧ decode cX12_backOf 52 = .ok (.ireturn, 1) ∧ decode cX12_backOf 45 = .ok (.iload 4, 2) ∧ decode cX12_backOf 47 = .ok (.goto 5, 3) ∧ decode cX12_backOf 18 = .ok (.aload_n 0, 1) ∧ decode cX12_backOf 19 = .ok (.iconst 0, 1) ∧ decode cX12_backOf 20 = .ok (.invokevirtual 471, 3) := by decide +kernel
theorem dX12_backOf_50 : decode cX12_backOf 50 = .ok (.iload 5, 2) := gdX12_backOf_50.1
theorem dX12_backOf_52 : decode cX12_backOf 52 = .ok (.ireturn, 1) := gdX12_backOf_50.2.1
theorem dX12_backOf_45 : decode cX12_backOf 45 = .ok (.iload 4, 2) := gdX12_backOf_50.2.2.1
theorem dX12_backOf_47 : decode cX12_backOf 47 = .ok (.goto 5, 3) := gdX12_backOf_50.2.2.2.1
theorem dX12_backOf_18 : decode cX12_backOf 18 = .ok (.aload_n 0, 1) := gdX12_backOf_50.2.2.2.2.1
theorem dX12_backOf_19 : decode cX12_backOf 19 = .ok (.iconst 0, 1) := gdX12_backOf_50.2.2.2.2.2.1
theorem dX12_backOf_20 : decode cX12_backOf 20 = .ok (.invokevirtual 471, 3) := gdX12_backOf_50.2.2.2.2.2.2
theorem k_X12_471 : xV RX12 RX12 471 yX12_worked cX12_worked 4 (some .int) 1 := ⟨⟨m_1971, m_1973, m_113, m_146, m_1974⟩, rfl, by decide, by decide, by decide +kernel⟩
theorem gdX12_backOf_23 : decode cX12_backOf 23 = .ok (.goto 4, 3) ∧ decode cX12_backOf 34 = .ok (.iconst 0, 1) ∧ decode cX12_backOf 35 = .ok (.goto 17, 3) := by decide +kernel
theorem dX12_backOf_23 : decode cX12_backOf 23 = .ok (.goto 4, 3) := gdX12_backOf_23.1
theorem dX12_backOf_34 : decode cX12_backOf 34 = .ok (.iconst 0, 1) := gdX12_backOf_23.2.1
theorem dX12_backOf_35 : decode cX12_backOf 35 = .ok (.goto 17, 3) := gdX12_backOf_23.2.2
set_option maxHeartbeats 1000000 in
set_option maxRecDepth 100000 in
theorem r_backOf (l : Launch) (D : va_G) (cy : Nat → ClassId) (m0 : Nat) (Mtape : Nat) (MnName : Nat) (MnStep : Nat) (MnArg : Nat) (MnMany : Nat) (Mstep : Nat) (Marg : Nat) (Mmany : Nat) (Mopen : Nat) (Mvalues : Nat) (MnHasForm : Nat) (MhasForm : Nat) (Masks : Nat) (MnLoud : Nat) (MnCliffAt : Nat) (MnSnow : Nat) (MnManAt : Nat) (MnVoice : Nat) (MnOn : Nat) (Mloud : Nat) (McliffAt : Nat) (MsnowTold : Nat) (MmanAt : Nat) (Mvoice : Nat) (Mon : Nat) (MnYes : Nat) (Myes : Nat) (Mnow : Nat) (Mcry : Nat) (Msnow : Nat) (Mecho : Nat) (Mwere : Nat) (Mlies : Nat) (Mspots : Nat) (Msteps : Nat) (MfromState : Nat) (MbyWord : Nat) (Mqueue : Nat) (MsoundCliff : Nat) (MsoundLong : Nat) (MsoundCame : Nat) (MsoundTold : Nat) (MsoundUntold : Nat) (Mstands : Nat) (Mtally : Nat) (MhasBox : Nat) (Mboxes : Nat) (Itaped : Nat) (Ifault : Nat) (IfaultPlace : Int32) (Iat : Nat) (Isize : Nat) (Isort : Int32) (Iplace : Int32) (Inumber : Int32) (Iword : Int64) (Gstep : Nat → Int32) (Garg : Nat → Int32) (Gmany : Nat → Int32) (Gvalues : Nat → Int32) (GhasForm : Nat → Int32) (Iform : Nat) (Iopens : Nat) (InUnits : Nat) (Iunits : Int32) (IownUnits : Nat) (Ideep : Nat) (Gasks : Nat → Int32) (InWords : Nat) (InCliffs : Nat) (InMen : Nat) (InStates : Nat) (InOns : Nat) (InWind : Int32) (InDraw : Int32) (Iwords : Nat) (Icliffs : Nat) (Imen : Nat) (Istates : Nat) (Ions : Int32) (IwindTold : Int32) (InHasWind : Int32) (InHasDraw : Int32) (IcryMany : Nat) (IcallPlace : Int32) (IcallVoice : Int32) (Iwind : Int32) (Ichance : Int32) (IechoMany : Nat) (Iacts : Nat) (Iundone : Nat) (Ilain : Nat) (Isounds : Nat) (Itime : Int32) (IstandMany : Int32) (am : Nat → Nat) (AH : Nat → Nat → Nat) (xa : Int32) (xb : Int32) (xc9 : Int32) (ln : Nat) (gtp : Itaped ≤ 1600) (gat : Iat ≤ Isize) (gsz : Isize ≤ 1600) (gfl : Ifault ≤ 5) (gfo : Iform ≤ 2) (gnw : InWords ≤ 8) (gnc : InCliffs ≤ 4) (gnm : InMen ≤ 4) (gns : InStates ≤ 6) (gw : Iwords ≤ 8) (gc9 : Icliffs ≤ 4) (gm : Imen ≤ 4) (gs : Istates ≤ 6) (gcm : IcryMany ≤ 10) (gem : IechoMany ≤ 20) (gau : Iacts + Iundone ≤ 40) (gla : Ilain ≤ 20) (gso : Isounds ≤ 30) (gop : Iopens ≤ 40) (gde : Ideep ≤ 8) (gou : IownUnits ≤ 31) (gnu : InUnits ≤ 61) (gno : InOns ≤ 30) (gfm : ∀ k9 : Nat, k9 < 3 → ¬ GhasForm k9 = 0 → 1 ≤ am k9) (gal2 : allR Gstep Garg Gmany am AH) (hln : ln ≤ 10) : XMi l D (tyL cy) E0 yX12_backOf cX12_backOf 6 (some .int) (rmk 3 0 0) [.ref m0, .int xa, .int xb, .int xc9, .int (nI ln)] [wO m0 12 [.ref Mtape, .int (nI Itaped), .int (nI Ifault), .int IfaultPlace, .int (nI Iat), .int (nI Isize), .int Isort, .int Iplace, .int Inumber, .long Iword, .ref MnName, .ref MnStep, .ref MnArg, .ref MnMany, .ref Mstep, .ref Marg, .ref Mmany, .ref Mopen, .ref Mvalues, .ref MnHasForm, .ref MhasForm, .int (nI Iform), .int (nI Iopens), .int (nI InUnits), .int Iunits, .int (nI IownUnits), .int (nI Ideep), .ref Masks, .ref MnLoud, .ref MnCliffAt, .ref MnSnow, .ref MnManAt, .ref MnVoice, .ref MnOn, .ref Mloud, .ref McliffAt, .ref MsnowTold, .ref MmanAt, .ref Mvoice, .ref Mon, .ref MnYes, .ref Myes, .int (nI InWords), .int (nI InCliffs), .int (nI InMen), .int (nI InStates), .int (nI InOns), .int InWind, .int InDraw, .int (nI Iwords), .int (nI Icliffs), .int (nI Imen), .int (nI Istates), .int Ions, .int IwindTold, .int InHasWind, .int InHasDraw, .ref Mnow, .ref Mcry, .ref Msnow, .ref Mecho, .int (nI IcryMany), .int IcallPlace, .int IcallVoice, .int Iwind, .int Ichance, .int (nI IechoMany), .ref Mwere, .int (nI Iacts), .int (nI Iundone), .ref Mlies, .int (nI Ilain), .ref Mspots, .ref Msteps, .ref MfromState, .ref MbyWord, .ref Mqueue, .ref MsoundCliff, .ref MsoundLong, .ref MsoundCame, .ref MsoundTold, .ref MsoundUntold, .int (nI Isounds), .int Itime, .ref Mstands, .int IstandMany, .ref Mtally, .ref MhasBox, .ref Mboxes], wI (cy 1) Mstep 960 (Gstep), wI (cy 1) Marg 960 (Garg), wI (cy 1) Mmany 3 (Gmany), wI (cy 1) Mvalues 64 (Gvalues), wI (cy 1) Masks 7 (Gasks), wI (cy 3) MhasForm 3 (GhasForm)] (fun (r : Int32) (u : (Nat → Int32) × (Nat → Int32) × Nat) => (r = nI u.2.2) ∧ (u.2.2 ≤ ln) ∧ (u.2.2 = clN (vlM GhasForm Gstep Garg am 0 3 (fk7 xa xb xc9 (nI ln) 0 0 0)) ln)) (fun (u : (Nat → Int32) × (Nat → Int32) × Nat) => [wO m0 12 [.ref Mtape, .int (nI Itaped), .int (nI Ifault), .int IfaultPlace, .int (nI Iat), .int (nI Isize), .int Isort, .int Iplace, .int Inumber, .long Iword, .ref MnName, .ref MnStep, .ref MnArg, .ref MnMany, .ref Mstep, .ref Marg, .ref Mmany, .ref Mopen, .ref Mvalues, .ref MnHasForm, .ref MhasForm, .int (nI Iform), .int (nI Iopens), .int (nI InUnits), .int Iunits, .int (nI IownUnits), .int (nI Ideep), .ref Masks, .ref MnLoud, .ref MnCliffAt, .ref MnSnow, .ref MnManAt, .ref MnVoice, .ref MnOn, .ref Mloud, .ref McliffAt, .ref MsnowTold, .ref MmanAt, .ref Mvoice, .ref Mon, .ref MnYes, .ref Myes, .int (nI InWords), .int (nI InCliffs), .int (nI InMen), .int (nI InStates), .int (nI InOns), .int InWind, .int InDraw, .int (nI Iwords), .int (nI Icliffs), .int (nI Imen), .int (nI Istates), .int Ions, .int IwindTold, .int InHasWind, .int InHasDraw, .ref Mnow, .ref Mcry, .ref Msnow, .ref Mecho, .int (nI IcryMany), .int IcallPlace, .int IcallVoice, .int Iwind, .int Ichance, .int (nI IechoMany), .ref Mwere, .int (nI Iacts), .int (nI Iundone), .ref Mlies, .int (nI Ilain), .ref Mspots, .ref Msteps, .ref MfromState, .ref MbyWord, .ref Mqueue, .ref MsoundCliff, .ref MsoundLong, .ref MsoundCame, .ref MsoundTold, .ref MsoundUntold, .int (nI Isounds), .int Itime, .ref Mstands, .int IstandMany, .ref Mtally, .ref MhasBox, .ref Mboxes], wI (cy 1) Mstep 960 (Gstep), wI (cy 1) Marg 960 (Garg), wI (cy 1) Mmany 3 (Gmany), wI (cy 1) Mvalues 64 (u.1), wI (cy 1) Masks 7 (u.2.1), wI (cy 3) MhasForm 3 (GhasForm)]) := by
  refine XMi.start (by decide) (Nat.le_of_ble_eq_true rfl) ?_
  intro p e s m below meth c args A ls Q hat hQ
  obtain ⟨hx, hb, hr, hml, hown, hg, hlocks, hin, hK, hA, hP, hD, hS, hE, hl⟩ := hat
  have hown : s.vm.findClass RX12 = some m.cls := hown
  have hl : lv_has ls 6 [(0, .ref m0), (1, .int xa), (2, .int xb), (3, .int xc9), (4, .int (nI ln))] := hl
  refine lv_aload_n hx hb dX12_backOf_0 rfl (lv_at hl 0 rfl) ?_
  refine lv_iload_n hx hb dX12_backOf_1 rfl (lv_at hl 1 rfl) ?_
  refine lv_iload_n hx hb dX12_backOf_2 rfl (lv_at hl 2 rfl) ?_
  refine lv_iload_n hx hb dX12_backOf_3 rfl (lv_at hl 3 rfl) ?_
  refine lv_iload hx hb dX12_backOf_4 (lv_at hl 4 rfl) ?_
  refine x_callVv (q := (RX12, TX12, 89)) (ci := 12) (q0 := 0) (wr := [wI (cy 1) Mstep 960 (Gstep), wI (cy 1) Marg 960 (Garg), wI (cy 1) Mmany 3 (Gmany), wI (cy 1) Mvalues 64 (Gvalues), wI (cy 3) MhasForm 3 (GhasForm)]) (rest := []) ⟨hx, hb, hml, hown, hg, hl.1⟩ k_X12_467 (r_askOf l D cy m0 Mtape MnName MnStep MnArg MnMany Mstep Marg Mmany Mopen Mvalues MnHasForm MhasForm Masks MnLoud MnCliffAt MnSnow MnManAt MnVoice MnOn Mloud McliffAt MsnowTold MmanAt Mvoice Mon MnYes Myes Mnow Mcry Msnow Mecho Mwere Mlies Mspots Msteps MfromState MbyWord Mqueue MsoundCliff MsoundLong MsoundCame MsoundTold MsoundUntold Mstands Mtally MhasBox Mboxes Itaped Ifault IfaultPlace Iat Isize Isort Iplace Inumber Iword Iform Iopens InUnits Iunits IownUnits Ideep Gasks InWords InCliffs InMen InStates InOns InWind InDraw Iwords Icliffs Imen Istates Ions IwindTold InHasWind InHasDraw IcryMany IcallPlace IcallVoice Iwind Ichance IechoMany Iacts Iundone Ilain Isounds Itime IstandMany xa xb xc9 (nI ln) (by first | assumption | omega) (by first | assumption | omega) (by first | assumption | omega) (by first | assumption | omega) (by first | assumption | omega) (by first | assumption | omega) (by first | assumption | omega) (by first | assumption | omega) (by first | assumption | omega) (by first | assumption | omega) (by first | assumption | omega) (by first | assumption | omega) (by first | assumption | omega) (by first | assumption | omega) (by first | assumption | omega) (by first | assumption | omega) (by first | assumption | omega) (by first | assumption | omega) (by first | assumption | omega) (by first | assumption | omega) (by first | assumption | omega) (by first | assumption | omega) (by first | assumption | omega)) E0_blind hK hP hD hS hA [0, 5] [1, 2, 3, 4, 6] ⟨rfl, rfl, by decide +kernel, by decide +kernel, by decide +kernel⟩ rfl rfl (fun _ _ _ => trivial) dX12_backOf_6 rfl rfl (Nat.le_of_ble_eq_true rfl) ⟨Nat.le_of_ble_eq_true rfl, Nat.le_of_ble_eq_true rfl⟩ ⟨Nat.le_of_ble_eq_true rfl, Nat.le_of_ble_eq_true rfl⟩ (fun zu1 H locs hw1 hP9 hD9 hS9 => ?_)
  clear hP hD hS
  obtain ⟨Gasks2_2, rfl⟩ : ∃ z, z = zu1 := ⟨_, rfl⟩
  refine reW [wI (cy 1) Mstep 960 (Gstep), wI (cy 1) Marg 960 (Garg), wI (cy 1) Mmany 3 (Gmany), wI (cy 1) Mvalues 64 (Gvalues), wI (cy 3) MhasForm 3 (GhasForm), wO m0 12 [.ref Mtape, .int (nI Itaped), .int (nI Ifault), .int IfaultPlace, .int (nI Iat), .int (nI Isize), .int Isort, .int Iplace, .int Inumber, .long Iword, .ref MnName, .ref MnStep, .ref MnArg, .ref MnMany, .ref Mstep, .ref Marg, .ref Mmany, .ref Mopen, .ref Mvalues, .ref MnHasForm, .ref MhasForm, .int (nI Iform), .int (nI Iopens), .int (nI InUnits), .int Iunits, .int (nI IownUnits), .int (nI Ideep), .ref Masks, .ref MnLoud, .ref MnCliffAt, .ref MnSnow, .ref MnManAt, .ref MnVoice, .ref MnOn, .ref Mloud, .ref McliffAt, .ref MsnowTold, .ref MmanAt, .ref Mvoice, .ref Mon, .ref MnYes, .ref Myes, .int (nI InWords), .int (nI InCliffs), .int (nI InMen), .int (nI InStates), .int (nI InOns), .int InWind, .int InDraw, .int (nI Iwords), .int (nI Icliffs), .int (nI Imen), .int (nI Istates), .int Ions, .int IwindTold, .int InHasWind, .int InHasDraw, .ref Mnow, .ref Mcry, .ref Msnow, .ref Mecho, .int (nI IcryMany), .int IcallPlace, .int IcallVoice, .int Iwind, .int Ichance, .int (nI IechoMany), .ref Mwere, .int (nI Iacts), .int (nI Iundone), .ref Mlies, .int (nI Ilain), .ref Mspots, .ref Msteps, .ref MfromState, .ref MbyWord, .ref Mqueue, .ref MsoundCliff, .ref MsoundLong, .ref MsoundCame, .ref MsoundTold, .ref MsoundUntold, .int (nI Isounds), .int Itime, .ref Mstands, .int IstandMany, .ref Mtally, .ref MhasBox, .ref Mboxes], wI (cy 1) Masks 7 (Gasks2_2)] hP9 hD9 hS9 (fun hP hD hS => ?_)
  clear hP9 hD9 hS9
  refine W.widen (k := 0) (n := 0) (Nat.le_of_ble_eq_true rfl) (Nat.le_of_ble_eq_true rfl) ?_
  change (∀ k9, k9 < 7 → Gasks2_2 k9 = fk7 xa xb xc9 (nI ln) 0 0 0 k9) at hw1
  have f_3 := hw1
  refine lv_aload_n hx hb dX12_backOf_9 rfl (lv_at hl 0 rfl) ?_
  refine va_get (D := D) (ci := 12) (v := .ref MhasForm) (C := RX12) (T := TX12) (N := 89) hx hb hg i_X12 hown hK hP 5 rfl rfl 20 (by decide) (hg _ m_1433) (fun _ h9 => h9) rfl dX12_backOf_10 ?_
  refine lv_iconst (v := 0) hx hb dX12_backOf_13 (by decide) ?_
  refine va_zald hx hb hK hP 4 3 rfl rfl (by unfold vp_in; decide) dX12_backOf_14 ?_
  refine lv_topi (fun x_4 ex_4 => ?_)
  refine lv_if_eq (tgt := 26) hx hb dX12_backOf_15 (by decide) (fun c_15 => ?_) (fun c_15 => ?_)
  · refine lv_iconst (v := 3) hx hb dX12_backOf_26 (by decide) ?_
    refine lv_istore (lv' := [(5, .int 3), (0, .ref m0), (1, .int xa), (2, .int xb), (3, .int xc9), (4, .int (nI ln))]) hx hb dX12_backOf_27 hl (by decide) rfl (fun ls hl => ?_)
    have hv9 : (3 : Int32) = vlM GhasForm Gstep Garg am 0 3 (fk7 xa xb xc9 (nI ln) 0 0 0) := vlM_0 ((ldk (by decide) ex_4).symm.trans c_15)
    refine lv_iload hx hb dX12_backOf_29 (lv_at hl 0 rfl) ?_
    refine lv_if_ge (tgt := 38) hx hb dX12_backOf_31 (by decide) (fun _ => ?_) (fun h => absurd (by decide) h)
    refine lv_iload hx hb dX12_backOf_38 (lv_at hl 0 rfl) ?_
    refine lv_iload hx hb dX12_backOf_40 (lv_at hl 5 rfl) ?_
    refine lv_icmp_le (tgt := 50) hx hb dX12_backOf_42 (by decide) (fun c_5 => ?_) (fun c_5 => ?_)
    · have q_6 : 3 ≤ ln := q_le (a := 3) (b := ln) rfl rfl (by omega) (by omega) c_5
      refine lv_iload hx hb dX12_backOf_50 (lv_at hl 0 rfl) ?_
      exact x_iret hQ hx hb hr hlocks hK hP hD hS dX12_backOf_52 (Gvalues, Gasks2_2, 3) (⟨rfl, (show 3 ≤ ln from by first | assumption | omega), (show 3 = clN (vlM GhasForm Gstep Garg am 0 3 (fk7 xa xb xc9 (nI ln) 0 0 0)) ln from (by rw [← hv9, show (3 : Int32) = nI 3 by decide, clN_nat (by decide) (by omega)]; omega))⟩) [5, 0, 1, 2, 3, 6, 4] (by decide +kernel) rfl (Nat.le_of_ble_eq_true rfl) (Nat.le_of_ble_eq_true rfl)
    · have q_6 : ln < 3 := q_nle (a := 3) (b := ln) rfl rfl (by omega) (by omega) c_5
      refine lv_iload hx hb dX12_backOf_45 (lv_at hl 5 rfl) ?_
      refine lv_goto (tgt := 52) hx hb dX12_backOf_47 (by decide) ?_
      exact x_iret hQ hx hb hr hlocks hK hP hD hS dX12_backOf_52 (Gvalues, Gasks2_2, ln) (⟨rfl, (show ln ≤ ln from by first | assumption | omega), (show ln = clN (vlM GhasForm Gstep Garg am 0 3 (fk7 xa xb xc9 (nI ln) 0 0 0)) ln from (by rw [← hv9, show (3 : Int32) = nI 3 by decide, clN_nat (by decide) (by omega)]; omega))⟩) [5, 0, 1, 2, 3, 6, 4] (by decide +kernel) rfl (Nat.le_of_ble_eq_true rfl) (Nat.le_of_ble_eq_true rfl)
  · refine lv_aload_n hx hb dX12_backOf_18 rfl (lv_at hl 0 rfl) ?_
    refine lv_iconst (v := 0) hx hb dX12_backOf_19 (by decide) ?_
    refine x_callVi (q := (RX12, TX12, 89)) (ci := 12) (q0 := 0) (wr := [wI (cy 3) MhasForm 3 (GhasForm)]) (rest := []) ⟨hx, hb, hml, hown, hg, hl.1⟩ k_X12_471 (r_worked l D cy m0 Mtape MnName MnStep MnArg MnMany Mstep Marg Mmany Mopen Mvalues MnHasForm MhasForm Masks MnLoud MnCliffAt MnSnow MnManAt MnVoice MnOn Mloud McliffAt MsnowTold MmanAt Mvoice Mon MnYes Myes Mnow Mcry Msnow Mecho Mwere Mlies Mspots Msteps MfromState MbyWord Mqueue MsoundCliff MsoundLong MsoundCame MsoundTold MsoundUntold Mstands Mtally MhasBox Mboxes Itaped Ifault IfaultPlace Iat Isize Isort Iplace Inumber Iword Gstep Garg Gmany Gvalues Iform Iopens InUnits Iunits IownUnits Ideep Gasks2_2 InWords InCliffs InMen InStates InOns InWind InDraw Iwords Icliffs Imen Istates Ions IwindTold InHasWind InHasDraw IcryMany IcallPlace IcallVoice Iwind Ichance IechoMany Iacts Iundone Ilain Isounds Itime IstandMany am AH 0 (by first | assumption | omega) (by first | assumption | omega) (by first | assumption | omega) (by first | assumption | omega) (by first | assumption | omega) (by first | assumption | omega) (by first | assumption | omega) (by first | assumption | omega) (by first | assumption | omega) (by first | assumption | omega) (by first | assumption | omega) (by first | assumption | omega) (by first | assumption | omega) (by first | assumption | omega) (by first | assumption | omega) (by first | assumption | omega) (by first | assumption | omega) (by first | assumption | omega) (by first | assumption | omega) (by first | assumption | omega) (by first | assumption | omega) (by first | assumption | omega) (by first | assumption | omega) (gal2) (by first | assumption | omega)) E0_blind hK hP hD hS hA [5, 0, 1, 2, 3, 6] [4] ⟨rfl, rfl, by decide +kernel, by decide +kernel, by decide +kernel⟩ rfl rfl (fun _ _ _ => trivial) dX12_backOf_20 rfl rfl (Nat.le_of_ble_eq_true rfl) ⟨Nat.le_of_ble_eq_true rfl, Nat.le_of_ble_eq_true rfl⟩ ⟨Nat.le_of_ble_eq_true rfl, Nat.le_of_ble_eq_true rfl⟩ (fun zr7 zu7 H locs hw7 hP9 hD9 hS9 => ?_)
    clear hP hD hS
    obtain ⟨Gvalues2_8, rfl⟩ : ∃ z, z = zu7 := ⟨_, rfl⟩
    refine reW [wI (cy 3) MhasForm 3 (GhasForm), wO m0 12 [.ref Mtape, .int (nI Itaped), .int (nI Ifault), .int IfaultPlace, .int (nI Iat), .int (nI Isize), .int Isort, .int Iplace, .int Inumber, .long Iword, .ref MnName, .ref MnStep, .ref MnArg, .ref MnMany, .ref Mstep, .ref Marg, .ref Mmany, .ref Mopen, .ref Mvalues, .ref MnHasForm, .ref MhasForm, .int (nI Iform), .int (nI Iopens), .int (nI InUnits), .int Iunits, .int (nI IownUnits), .int (nI Ideep), .ref Masks, .ref MnLoud, .ref MnCliffAt, .ref MnSnow, .ref MnManAt, .ref MnVoice, .ref MnOn, .ref Mloud, .ref McliffAt, .ref MsnowTold, .ref MmanAt, .ref Mvoice, .ref Mon, .ref MnYes, .ref Myes, .int (nI InWords), .int (nI InCliffs), .int (nI InMen), .int (nI InStates), .int (nI InOns), .int InWind, .int InDraw, .int (nI Iwords), .int (nI Icliffs), .int (nI Imen), .int (nI Istates), .int Ions, .int IwindTold, .int InHasWind, .int InHasDraw, .ref Mnow, .ref Mcry, .ref Msnow, .ref Mecho, .int (nI IcryMany), .int IcallPlace, .int IcallVoice, .int Iwind, .int Ichance, .int (nI IechoMany), .ref Mwere, .int (nI Iacts), .int (nI Iundone), .ref Mlies, .int (nI Ilain), .ref Mspots, .ref Msteps, .ref MfromState, .ref MbyWord, .ref Mqueue, .ref MsoundCliff, .ref MsoundLong, .ref MsoundCame, .ref MsoundTold, .ref MsoundUntold, .int (nI Isounds), .int Itime, .ref Mstands, .int IstandMany, .ref Mtally, .ref MhasBox, .ref Mboxes], wI (cy 1) Mstep 960 (Gstep), wI (cy 1) Marg 960 (Garg), wI (cy 1) Mmany 3 (Gmany), wI (cy 1) Mvalues 64 (Gvalues2_8), wI (cy 1) Masks 7 (Gasks2_2)] hP9 hD9 hS9 (fun hP hD hS => ?_)
    clear hP9 hD9 hS9
    refine W.widen (k := 0) (n := 0) (Nat.le_of_ble_eq_true rfl) (Nat.le_of_ble_eq_true rfl) ?_
    change (1 ≤ am 0 → zr7 = (evM Gstep Garg Gasks2_2 (320 * 0) (am 0)).getLastD 0) at hw7
    have f_9 := hw7
    refine lv_goto (tgt := 27) hx hb dX12_backOf_23 (by decide) ?_
    refine lv_istore (lv' := [(5, .int zr7), (0, .ref m0), (1, .int xa), (2, .int xb), (3, .int xc9), (4, .int (nI ln))]) hx hb dX12_backOf_27 hl (by decide) rfl (fun ls hl => ?_)
    have hne9 : ¬ GhasForm 0 = 0 := (fun h9 => c_15 ((ldk (by decide) ex_4).trans h9))
    have hv9 : zr7 = vlM GhasForm Gstep Garg am 0 3 (fk7 xa xb xc9 (nI ln) 0 0 0) := (vlM_1 hne9 (f_9 (gfm 0 (by decide) hne9))).trans (vlM_cg gal2 (by decide) f_3)
    refine lv_iload hx hb dX12_backOf_29 (lv_at hl 0 rfl) ?_
    refine lv_if_ge (tgt := 38) hx hb dX12_backOf_31 (by decide) (fun c_31 => ?_) (fun c_31 => ?_)
    · refine lv_iload hx hb dX12_backOf_38 (lv_at hl 0 rfl) ?_
      refine lv_iload hx hb dX12_backOf_40 (lv_at hl 5 rfl) ?_
      refine lv_icmp_le (tgt := 50) hx hb dX12_backOf_42 (by decide) (fun c_42 => ?_) (fun c_42 => ?_)
      · obtain ⟨j_10, hj_10, ej_10⟩ := hasle (by omega) (le_nlt c_31) c_42
        subst ej_10
        refine lv_iload hx hb dX12_backOf_50 (lv_at hl 0 rfl) ?_
        exact x_iret hQ hx hb hr hlocks hK hP hD hS dX12_backOf_52 (Gvalues2_8, Gasks2_2, j_10) (⟨rfl, (show j_10 ≤ ln from by first | assumption | omega), (show j_10 = clN (vlM GhasForm Gstep Garg am 0 3 (fk7 xa xb xc9 (nI ln) 0 0 0)) ln from (by rw [← hv9, clN_nat (by omega) (by omega)]; omega))⟩) [1, 2, 3, 4, 5, 6, 0] (by decide +kernel) rfl (Nat.le_of_ble_eq_true rfl) (Nat.le_of_ble_eq_true rfl)
      · refine lv_iload hx hb dX12_backOf_45 (lv_at hl 5 rfl) ?_
        refine lv_goto (tgt := 52) hx hb dX12_backOf_47 (by decide) ?_
        exact x_iret hQ hx hb hr hlocks hK hP hD hS dX12_backOf_52 (Gvalues2_8, Gasks2_2, ln) (⟨rfl, (show ln ≤ ln from by first | assumption | omega), (show ln = clN (vlM GhasForm Gstep Garg am 0 3 (fk7 xa xb xc9 (nI ln) 0 0 0)) ln from (by rw [← hv9]; exact clN_n (by omega) (le_nlt c_31) (nle_lt c_42)))⟩) [1, 2, 3, 4, 5, 6, 0] (by decide +kernel) rfl (Nat.le_of_ble_eq_true rfl) (Nat.le_of_ble_eq_true rfl)
    · refine lv_iconst (v := 0) hx hb dX12_backOf_34 (by decide) ?_
      refine lv_goto (tgt := 52) hx hb dX12_backOf_35 (by decide) ?_
      exact x_iret hQ hx hb hr hlocks hK hP hD hS dX12_backOf_52 (Gvalues2_8, Gasks2_2, 0) (⟨rfl, (show 0 ≤ ln from by first | assumption | omega), (show 0 = clN (vlM GhasForm Gstep Garg am 0 3 (fk7 xa xb xc9 (nI ln) 0 0 0)) ln from (by rw [← hv9]; exact clN_0 (nle_lt c_31)))⟩) [1, 2, 3, 4, 5, 6, 0] (by decide +kernel) rfl (Nat.le_of_ble_eq_true rfl) (Nat.le_of_ble_eq_true rfl)
theorem gdX12_isLost_0 : decode cX12_isLost 0 = .ok (.aload_n 0, 1) ∧ decode cX12_isLost 1 = .ok (.getfield 49, 3) ∧ decode cX12_isLost 4 = .ok (.iconst 1, 1) ∧ decode cX12_isLost 5 = .ok (.baload, 1) ∧ decode cX12_isLost 6 = .ok (.ifCond .ne 5, 3) ∧ decode cX12_isLost 11 = .ok (.aload_n 0, 1) ∧ decode cX12_isLost 12 = .ok (.aload_n 0, 1) ∧ decode cX12_isLost 13 = .ok (.iload_n 1, 1) ∧ decode cX12_isLost 14 = .ok (.invokevirtual 474, 3) := by decide +kernel
theorem dX12_isLost_0 : decode cX12_isLost 0 = .ok (.aload_n 0, 1) := gdX12_isLost_0.1
theorem dX12_isLost_1 : decode cX12_isLost 1 = .ok (.getfield 49, 3) := gdX12_isLost_0.2.1
theorem dX12_isLost_4 : decode cX12_isLost 4 = .ok (.iconst 1, 1) := gdX12_isLost_0.2.2.1
theorem dX12_isLost_5 : decode cX12_isLost 5 = .ok (.baload, 1) := gdX12_isLost_0.2.2.2.1
theorem dX12_isLost_6 : decode cX12_isLost 6 = .ok (.ifCond .ne 5, 3) := gdX12_isLost_0.2.2.2.2.1
theorem dX12_isLost_11 : decode cX12_isLost 11 = .ok (.aload_n 0, 1) := gdX12_isLost_0.2.2.2.2.2.1
theorem dX12_isLost_12 : decode cX12_isLost 12 = .ok (.aload_n 0, 1) := gdX12_isLost_0.2.2.2.2.2.2.1
theorem dX12_isLost_13 : decode cX12_isLost 13 = .ok (.iload_n 1, 1) := gdX12_isLost_0.2.2.2.2.2.2.2.1
theorem dX12_isLost_14 : decode cX12_isLost 14 = .ok (.invokevirtual 474, 3) := gdX12_isLost_0.2.2.2.2.2.2.2.2
theorem k_X12_474 : xV RX12 RX12 474 yX12_farOf cX12_farOf 2 (some .int) 1 := ⟨⟨m_1956, m_1958, m_110, m_146, m_1959⟩, rfl, by decide, by decide, by decide +kernel⟩
theorem gdX12_isLost_17 : decode cX12_isLost 17 = .ok (.aload_n 0, 1) ∧ decode cX12_isLost 18 = .ok (.getfield 440, 3) ∧ decode cX12_isLost 21 = .ok (.aload_n 0, 1) ∧ decode cX12_isLost 22 = .ok (.getfield 103, 3) ∧ decode cX12_isLost 25 = .ok (.iload_n 1, 1) ∧ decode cX12_isLost 26 = .ok (.iaload, 1) ∧ decode cX12_isLost 27 = .ok (.aload_n 0, 1) ∧ decode cX12_isLost 28 = .ok (.getfield 446, 3) ∧ decode cX12_isLost 31 = .ok (.invokevirtual 467, 3) ∧ decode cX12_isLost 34 = .ok (.aload_n 0, 1) ∧ decode cX12_isLost 35 = .ok (.getfield 52, 3) ∧ decode cX12_isLost 38 = .ok (.iconst 4, 1) := by decide +kernel
theorem dX12_isLost_17 : decode cX12_isLost 17 = .ok (.aload_n 0, 1) := gdX12_isLost_17.1
theorem dX12_isLost_18 : decode cX12_isLost 18 = .ok (.getfield 440, 3) := gdX12_isLost_17.2.1
theorem dX12_isLost_21 : decode cX12_isLost 21 = .ok (.aload_n 0, 1) := gdX12_isLost_17.2.2.1
theorem dX12_isLost_22 : decode cX12_isLost 22 = .ok (.getfield 103, 3) := gdX12_isLost_17.2.2.2.1
theorem dX12_isLost_25 : decode cX12_isLost 25 = .ok (.iload_n 1, 1) := gdX12_isLost_17.2.2.2.2.1
theorem dX12_isLost_26 : decode cX12_isLost 26 = .ok (.iaload, 1) := gdX12_isLost_17.2.2.2.2.2.1
theorem dX12_isLost_27 : decode cX12_isLost 27 = .ok (.aload_n 0, 1) := gdX12_isLost_17.2.2.2.2.2.2.1
theorem dX12_isLost_28 : decode cX12_isLost 28 = .ok (.getfield 446, 3) := gdX12_isLost_17.2.2.2.2.2.2.2.1
theorem dX12_isLost_31 : decode cX12_isLost 31 = .ok (.invokevirtual 467, 3) := gdX12_isLost_17.2.2.2.2.2.2.2.2.1
theorem dX12_isLost_34 : decode cX12_isLost 34 = .ok (.aload_n 0, 1) := gdX12_isLost_17.2.2.2.2.2.2.2.2.2.1
theorem dX12_isLost_35 : decode cX12_isLost 35 = .ok (.getfield 52, 3) := gdX12_isLost_17.2.2.2.2.2.2.2.2.2.2.1
theorem dX12_isLost_38 : decode cX12_isLost 38 = .ok (.iconst 4, 1) := gdX12_isLost_17.2.2.2.2.2.2.2.2.2.2.2
theorem gdX12_isLost_39 : decode cX12_isLost 39 = .ok (.aload_n 0, 1) ∧ decode cX12_isLost 40 = .ok (.getfield 73, 3) ∧ decode cX12_isLost 43 = .ok (.aload_n 0, 1) ∧ decode cX12_isLost 44 = .ok (.getfield 100, 3) ∧ decode cX12_isLost 47 = .ok (.iload_n 2, 1) ∧ decode cX12_isLost 48 = .ok (.iaload, 1) ∧ decode cX12_isLost 49 = .ok (.iaload, 1) ∧ decode cX12_isLost 50 = .ok (.aload_n 0, 1) ∧ decode cX12_isLost 51 = .ok (.getfield 452, 3) ∧ decode cX12_isLost 54 = .ok (.iadd, 1) ∧ decode cX12_isLost 55 = .ok (.iastore, 1) ∧ decode cX12_isLost 56 = .ok (.aload_n 0, 1) := by decide +kernel
theorem dX12_isLost_39 : decode cX12_isLost 39 = .ok (.aload_n 0, 1) := gdX12_isLost_39.1
theorem dX12_isLost_40 : decode cX12_isLost 40 = .ok (.getfield 73, 3) := gdX12_isLost_39.2.1
theorem dX12_isLost_43 : decode cX12_isLost 43 = .ok (.aload_n 0, 1) := gdX12_isLost_39.2.2.1
theorem dX12_isLost_44 : decode cX12_isLost 44 = .ok (.getfield 100, 3) := gdX12_isLost_39.2.2.2.1
theorem dX12_isLost_47 : decode cX12_isLost 47 = .ok (.iload_n 2, 1) := gdX12_isLost_39.2.2.2.2.1
theorem dX12_isLost_48 : decode cX12_isLost 48 = .ok (.iaload, 1) := gdX12_isLost_39.2.2.2.2.2.1
theorem dX12_isLost_49 : decode cX12_isLost 49 = .ok (.iaload, 1) := gdX12_isLost_39.2.2.2.2.2.2.1
theorem dX12_isLost_50 : decode cX12_isLost 50 = .ok (.aload_n 0, 1) := gdX12_isLost_39.2.2.2.2.2.2.2.1
theorem dX12_isLost_51 : decode cX12_isLost 51 = .ok (.getfield 452, 3) := gdX12_isLost_39.2.2.2.2.2.2.2.2.1
theorem dX12_isLost_54 : decode cX12_isLost 54 = .ok (.iadd, 1) := gdX12_isLost_39.2.2.2.2.2.2.2.2.2.1
theorem dX12_isLost_55 : decode cX12_isLost 55 = .ok (.iastore, 1) := gdX12_isLost_39.2.2.2.2.2.2.2.2.2.2.1
theorem dX12_isLost_56 : decode cX12_isLost 56 = .ok (.aload_n 0, 1) := gdX12_isLost_39.2.2.2.2.2.2.2.2.2.2.2
theorem gdX12_isLost_57 : decode cX12_isLost 57 = .ok (.getfield 52, 3) ∧ decode cX12_isLost 60 = .ok (.iconst 5, 1) ∧ decode cX12_isLost 61 = .ok (.aload_n 0, 1) ∧ decode cX12_isLost 62 = .ok (.getfield 446, 3) ∧ decode cX12_isLost 65 = .ok (.iconst 1, 1) ∧ decode cX12_isLost 66 = .ok (.isub, 1) ∧ decode cX12_isLost 67 = .ok (.iload_n 2, 1) ∧ decode cX12_isLost 68 = .ok (.isub, 1) ∧ decode cX12_isLost 69 = .ok (.iastore, 1) ∧ decode cX12_isLost 70 = .ok (.aload_n 0, 1) ∧ decode cX12_isLost 71 = .ok (.getfield 52, 3) ∧ decode cX12_isLost 74 = .ok (.bipush 6, 2) := by decide +kernel
theorem dX12_isLost_57 : decode cX12_isLost 57 = .ok (.getfield 52, 3) := gdX12_isLost_57.1
theorem dX12_isLost_60 : decode cX12_isLost 60 = .ok (.iconst 5, 1) := gdX12_isLost_57.2.1
theorem dX12_isLost_61 : decode cX12_isLost 61 = .ok (.aload_n 0, 1) := gdX12_isLost_57.2.2.1
theorem dX12_isLost_62 : decode cX12_isLost 62 = .ok (.getfield 446, 3) := gdX12_isLost_57.2.2.2.1
theorem dX12_isLost_65 : decode cX12_isLost 65 = .ok (.iconst 1, 1) := gdX12_isLost_57.2.2.2.2.1
theorem dX12_isLost_66 : decode cX12_isLost 66 = .ok (.isub, 1) := gdX12_isLost_57.2.2.2.2.2.1
theorem dX12_isLost_67 : decode cX12_isLost 67 = .ok (.iload_n 2, 1) := gdX12_isLost_57.2.2.2.2.2.2.1
theorem dX12_isLost_68 : decode cX12_isLost 68 = .ok (.isub, 1) := gdX12_isLost_57.2.2.2.2.2.2.2.1
theorem dX12_isLost_69 : decode cX12_isLost 69 = .ok (.iastore, 1) := gdX12_isLost_57.2.2.2.2.2.2.2.2.1
theorem dX12_isLost_70 : decode cX12_isLost 70 = .ok (.aload_n 0, 1) := gdX12_isLost_57.2.2.2.2.2.2.2.2.2.1
theorem dX12_isLost_71 : decode cX12_isLost 71 = .ok (.getfield 52, 3) := gdX12_isLost_57.2.2.2.2.2.2.2.2.2.2.1
theorem dX12_isLost_74 : decode cX12_isLost 74 = .ok (.bipush 6, 2) := gdX12_isLost_57.2.2.2.2.2.2.2.2.2.2.2
theorem gdX12_isLost_76 : decode cX12_isLost 76 = .ok (.aload_n 0, 1) ∧ decode cX12_isLost 77 = .ok (.getfield 443, 3) ∧ decode cX12_isLost 80 = .ok (.iastore, 1) ∧ decode cX12_isLost 81 = .ok (.aload_n 0, 1) ∧ decode cX12_isLost 82 = .ok (.iconst 1, 1) ∧ decode cX12_isLost 83 = .ok (.invokevirtual 471, 3) ∧ decode cX12_isLost 86 = .ok (.ifCond .eq 7, 3) ∧ decode cX12_isLost 93 = .ok (.iconst 0, 1) ∧ decode cX12_isLost 94 = .ok (.ireturn, 1) ∧ decode cX12_isLost 89 = .ok (.iconst 1, 1) ∧ decode cX12_isLost 90 = .ok (.goto 4, 3) ∧ decode cX12_isLost 9 = .ok (.iconst 0, 1) := by decide +kernel
theorem dX12_isLost_76 : decode cX12_isLost 76 = .ok (.aload_n 0, 1) := gdX12_isLost_76.1
theorem dX12_isLost_77 : decode cX12_isLost 77 = .ok (.getfield 443, 3) := gdX12_isLost_76.2.1
theorem dX12_isLost_80 : decode cX12_isLost 80 = .ok (.iastore, 1) := gdX12_isLost_76.2.2.1
theorem dX12_isLost_81 : decode cX12_isLost 81 = .ok (.aload_n 0, 1) := gdX12_isLost_76.2.2.2.1
theorem dX12_isLost_82 : decode cX12_isLost 82 = .ok (.iconst 1, 1) := gdX12_isLost_76.2.2.2.2.1
theorem dX12_isLost_83 : decode cX12_isLost 83 = .ok (.invokevirtual 471, 3) := gdX12_isLost_76.2.2.2.2.2.1
theorem dX12_isLost_86 : decode cX12_isLost 86 = .ok (.ifCond .eq 7, 3) := gdX12_isLost_76.2.2.2.2.2.2.1
theorem dX12_isLost_93 : decode cX12_isLost 93 = .ok (.iconst 0, 1) := gdX12_isLost_76.2.2.2.2.2.2.2.1
theorem dX12_isLost_94 : decode cX12_isLost 94 = .ok (.ireturn, 1) := gdX12_isLost_76.2.2.2.2.2.2.2.2.1
theorem dX12_isLost_89 : decode cX12_isLost 89 = .ok (.iconst 1, 1) := gdX12_isLost_76.2.2.2.2.2.2.2.2.2.1
theorem dX12_isLost_90 : decode cX12_isLost 90 = .ok (.goto 4, 3) := gdX12_isLost_76.2.2.2.2.2.2.2.2.2.2.1
theorem dX12_isLost_9 : decode cX12_isLost 9 = .ok (.iconst 0, 1) := gdX12_isLost_76.2.2.2.2.2.2.2.2.2.2.2
theorem dX12_isLost_10 : decode cX12_isLost 10 = .ok (.ireturn, 1) := by decide +kernel
set_option maxHeartbeats 1000000 in
set_option maxRecDepth 100000 in
theorem r_isLost (l : Launch) (D : va_G) (cy : Nat → ClassId) (m0 : Nat) (Mtape : Nat) (MnName : Nat) (MnStep : Nat) (MnArg : Nat) (MnMany : Nat) (Mstep : Nat) (Marg : Nat) (Mmany : Nat) (Mopen : Nat) (Mvalues : Nat) (MnHasForm : Nat) (MhasForm : Nat) (Masks : Nat) (MnLoud : Nat) (MnCliffAt : Nat) (MnSnow : Nat) (MnManAt : Nat) (MnVoice : Nat) (MnOn : Nat) (Mloud : Nat) (McliffAt : Nat) (MsnowTold : Nat) (MmanAt : Nat) (Mvoice : Nat) (Mon : Nat) (MnYes : Nat) (Myes : Nat) (Mnow : Nat) (Mcry : Nat) (Msnow : Nat) (Mecho : Nat) (Mwere : Nat) (Mlies : Nat) (Mspots : Nat) (Msteps : Nat) (MfromState : Nat) (MbyWord : Nat) (Mqueue : Nat) (MsoundCliff : Nat) (MsoundLong : Nat) (MsoundCame : Nat) (MsoundTold : Nat) (MsoundUntold : Nat) (Mstands : Nat) (Mtally : Nat) (MhasBox : Nat) (Mboxes : Nat) (Itaped : Nat) (Ifault : Nat) (IfaultPlace : Int32) (Iat : Nat) (Isize : Nat) (Isort : Int32) (Iplace : Int32) (Inumber : Int32) (Iword : Int64) (Gstep : Nat → Int32) (Garg : Nat → Int32) (Gmany : Nat → Int32) (Gvalues : Nat → Int32) (GhasForm : Nat → Int32) (Iform : Nat) (Iopens : Nat) (InUnits : Nat) (Iunits : Int32) (IownUnits : Nat) (Ideep : Nat) (Gasks : Nat → Int32) (Gloud : Nat → Int32) (GcliffAt : Nat → Int32) (InWords : Nat) (InCliffs : Nat) (InMen : Nat) (InStates : Nat) (InOns : Nat) (InWind : Int32) (InDraw : Int32) (Iwords : Nat) (Icliffs : Nat) (Imen : Nat) (Istates : Nat) (Ions : Int32) (IwindTold : Int32) (InHasWind : Int32) (InHasDraw : Int32) (Gcry : Nat → Int32) (Gsnow : Nat → Int32) (IcryMany : Nat) (IcallPlace : Int32) (IcallVoice : Int32) (Iwind : Int32) (Ichance : Int32) (IechoMany : Nat) (Iacts : Nat) (Iundone : Nat) (Ilain : Nat) (Isounds : Nat) (Itime : Int32) (IstandMany : Int32) (am : Nat → Nat) (AH : Nat → Nat → Nat) (j : Nat) (kk : Nat) (gtp : Itaped ≤ 1600) (gat : Iat ≤ Isize) (gsz : Isize ≤ 1600) (gfl : Ifault ≤ 5) (gfo : Iform ≤ 2) (gnw : InWords ≤ 8) (gnc : InCliffs ≤ 4) (gnm : InMen ≤ 4) (gns : InStates ≤ 6) (gw : Iwords ≤ 8) (gc9 : Icliffs ≤ 4) (gm : Imen ≤ 4) (gs : Istates ≤ 6) (gcm : IcryMany ≤ 10) (gem : IechoMany ≤ 20) (gau : Iacts + Iundone ≤ 40) (gla : Ilain ≤ 20) (gso : Isounds ≤ 30) (gop : Iopens ≤ 40) (gde : Ideep ≤ 8) (gou : IownUnits ≤ 31) (gnu : InUnits ≤ 61) (gno : InOns ≤ 30) (gfm : ∀ k9 : Nat, k9 < 3 → ¬ GhasForm k9 = 0 → 1 ≤ am k9) (gcry : rng Gcry 10 7) (gal2 : allR Gstep Garg Gmany am AH) (hj : j < 4) (hkk : kk < 10) (hkm : kk < IcryMany) : XMi l D (tyL cy) E0 yX12_isLost cX12_isLost 3 (some .boolean) (rmk 3 0 0) [.ref m0, .int (nI j), .int (nI kk)] [wO m0 12 [.ref Mtape, .int (nI Itaped), .int (nI Ifault), .int IfaultPlace, .int (nI Iat), .int (nI Isize), .int Isort, .int Iplace, .int Inumber, .long Iword, .ref MnName, .ref MnStep, .ref MnArg, .ref MnMany, .ref Mstep, .ref Marg, .ref Mmany, .ref Mopen, .ref Mvalues, .ref MnHasForm, .ref MhasForm, .int (nI Iform), .int (nI Iopens), .int (nI InUnits), .int Iunits, .int (nI IownUnits), .int (nI Ideep), .ref Masks, .ref MnLoud, .ref MnCliffAt, .ref MnSnow, .ref MnManAt, .ref MnVoice, .ref MnOn, .ref Mloud, .ref McliffAt, .ref MsnowTold, .ref MmanAt, .ref Mvoice, .ref Mon, .ref MnYes, .ref Myes, .int (nI InWords), .int (nI InCliffs), .int (nI InMen), .int (nI InStates), .int (nI InOns), .int InWind, .int InDraw, .int (nI Iwords), .int (nI Icliffs), .int (nI Imen), .int (nI Istates), .int Ions, .int IwindTold, .int InHasWind, .int InHasDraw, .ref Mnow, .ref Mcry, .ref Msnow, .ref Mecho, .int (nI IcryMany), .int IcallPlace, .int IcallVoice, .int Iwind, .int Ichance, .int (nI IechoMany), .ref Mwere, .int (nI Iacts), .int (nI Iundone), .ref Mlies, .int (nI Ilain), .ref Mspots, .ref Msteps, .ref MfromState, .ref MbyWord, .ref Mqueue, .ref MsoundCliff, .ref MsoundLong, .ref MsoundCame, .ref MsoundTold, .ref MsoundUntold, .int (nI Isounds), .int Itime, .ref Mstands, .int IstandMany, .ref Mtally, .ref MhasBox, .ref Mboxes], wI (cy 1) Mstep 960 (Gstep), wI (cy 1) Marg 960 (Garg), wI (cy 1) Mmany 3 (Gmany), wI (cy 1) Mvalues 64 (Gvalues), wI (cy 1) Masks 7 (Gasks), wI (cy 3) MhasForm 3 (GhasForm), wI (cy 1) McliffAt 4 (GcliffAt), wI (cy 1) Msnow 4 (Gsnow), wI (cy 1) Mloud 8 (Gloud), wI (cy 1) Mcry 10 (Gcry)] (fun (r : Int32) (u : (Nat → Int32) × (Nat → Int32)) => (r = 0 ∨ r = 1) ∧ (bR r (loS (vlM GhasForm Gstep Garg am 1 0) Gloud (ofR IcallPlace (GcliffAt j)) Iwind (Gsnow j) IcallVoice Ichance IcryMany (Gcry kk) kk))) (fun (u : (Nat → Int32) × (Nat → Int32)) => [wO m0 12 [.ref Mtape, .int (nI Itaped), .int (nI Ifault), .int IfaultPlace, .int (nI Iat), .int (nI Isize), .int Isort, .int Iplace, .int Inumber, .long Iword, .ref MnName, .ref MnStep, .ref MnArg, .ref MnMany, .ref Mstep, .ref Marg, .ref Mmany, .ref Mopen, .ref Mvalues, .ref MnHasForm, .ref MhasForm, .int (nI Iform), .int (nI Iopens), .int (nI InUnits), .int Iunits, .int (nI IownUnits), .int (nI Ideep), .ref Masks, .ref MnLoud, .ref MnCliffAt, .ref MnSnow, .ref MnManAt, .ref MnVoice, .ref MnOn, .ref Mloud, .ref McliffAt, .ref MsnowTold, .ref MmanAt, .ref Mvoice, .ref Mon, .ref MnYes, .ref Myes, .int (nI InWords), .int (nI InCliffs), .int (nI InMen), .int (nI InStates), .int (nI InOns), .int InWind, .int InDraw, .int (nI Iwords), .int (nI Icliffs), .int (nI Imen), .int (nI Istates), .int Ions, .int IwindTold, .int InHasWind, .int InHasDraw, .ref Mnow, .ref Mcry, .ref Msnow, .ref Mecho, .int (nI IcryMany), .int IcallPlace, .int IcallVoice, .int Iwind, .int Ichance, .int (nI IechoMany), .ref Mwere, .int (nI Iacts), .int (nI Iundone), .ref Mlies, .int (nI Ilain), .ref Mspots, .ref Msteps, .ref MfromState, .ref MbyWord, .ref Mqueue, .ref MsoundCliff, .ref MsoundLong, .ref MsoundCame, .ref MsoundTold, .ref MsoundUntold, .int (nI Isounds), .int Itime, .ref Mstands, .int IstandMany, .ref Mtally, .ref MhasBox, .ref Mboxes], wI (cy 1) Mstep 960 (Gstep), wI (cy 1) Marg 960 (Garg), wI (cy 1) Mmany 3 (Gmany), wI (cy 1) Mvalues 64 (u.1), wI (cy 1) Masks 7 (u.2), wI (cy 3) MhasForm 3 (GhasForm), wI (cy 1) McliffAt 4 (GcliffAt), wI (cy 1) Msnow 4 (Gsnow), wI (cy 1) Mloud 8 (Gloud), wI (cy 1) Mcry 10 (Gcry)]) := by
  refine XMi.start (by decide) (Nat.le_of_ble_eq_true rfl) ?_
  intro p e s m below meth c args A ls Q hat hQ
  obtain ⟨hx, hb, hr, hml, hown, hg, hlocks, hin, hK, hA, hP, hD, hS, hE, hl⟩ := hat
  have hown : s.vm.findClass RX12 = some m.cls := hown
  have hl : lv_has ls 3 [(0, .ref m0), (1, .int (nI j)), (2, .int (nI kk))] := hl
  refine lv_aload_n hx hb dX12_isLost_0 rfl (lv_at hl 0 rfl) ?_
  refine va_get (D := D) (ci := 12) (v := .ref MhasForm) (C := RX12) (T := TX12) (N := 89) hx hb hg i_X12 hown hK hP 0 rfl rfl 20 (by decide) (hg _ m_1433) (fun _ h9 => h9) rfl dX12_isLost_1 ?_
  refine lv_iconst (v := 1) hx hb dX12_isLost_4 (by decide) ?_
  refine va_zald hx hb hK hP 6 3 rfl rfl (by unfold vp_in; decide) dX12_isLost_5 ?_
  refine lv_topi (fun x_1 ex_1 => ?_)
  refine lv_if_ne (tgt := 11) hx hb dX12_isLost_6 (by decide) (fun c_6 => ?_) (fun c_6 => ?_)
  · have hne9 : ¬ GhasForm 1 = 0 := (fun h9 => c_6 ((ldk (by decide) ex_1).trans h9))
    refine lv_aload_n hx hb dX12_isLost_11 rfl (lv_at hl 0 rfl) ?_
    refine lv_aload_n hx hb dX12_isLost_12 rfl (lv_at hl 0 rfl) ?_
    refine lv_iload_n hx hb dX12_isLost_13 rfl (lv_at hl 1 rfl) ?_
    refine x_callVi (q := (RX12, TX12, 89)) (ci := 12) (q0 := 0) (wr := [wI (cy 1) Mstep 960 (Gstep), wI (cy 1) Marg 960 (Garg), wI (cy 1) Mmany 3 (Gmany), wI (cy 1) Mvalues 64 (Gvalues), wI (cy 1) Masks 7 (Gasks), wI (cy 3) MhasForm 3 (GhasForm), wI (cy 1) Msnow 4 (Gsnow), wI (cy 1) Mloud 8 (Gloud), wI (cy 1) Mcry 10 (Gcry)]) (rest := [.ref m0]) ⟨hx, hb, hml, hown, hg, hl.1⟩ k_X12_474 (r_farOf l D cy m0 Mtape MnName MnStep MnArg MnMany Mstep Marg Mmany Mopen Mvalues MnHasForm MhasForm Masks MnLoud MnCliffAt MnSnow MnManAt MnVoice MnOn Mloud McliffAt MsnowTold MmanAt Mvoice Mon MnYes Myes Mnow Mcry Msnow Mecho Mwere Mlies Mspots Msteps MfromState MbyWord Mqueue MsoundCliff MsoundLong MsoundCame MsoundTold MsoundUntold Mstands Mtally MhasBox Mboxes Itaped Ifault IfaultPlace Iat Isize Isort Iplace Inumber Iword Iform Iopens InUnits Iunits IownUnits Ideep GcliffAt InWords InCliffs InMen InStates InOns InWind InDraw Iwords Icliffs Imen Istates Ions IwindTold InHasWind InHasDraw IcryMany IcallPlace IcallVoice Iwind Ichance IechoMany Iacts Iundone Ilain Isounds Itime IstandMany j (by first | assumption | omega) (by first | assumption | omega) (by first | assumption | omega) (by first | assumption | omega) (by first | assumption | omega) (by first | assumption | omega) (by first | assumption | omega) (by first | assumption | omega) (by first | assumption | omega) (by first | assumption | omega) (by first | assumption | omega) (by first | assumption | omega) (by first | assumption | omega) (by first | assumption | omega) (by first | assumption | omega) (by first | assumption | omega) (by first | assumption | omega) (by first | assumption | omega) (by first | assumption | omega) (by first | assumption | omega) (by first | assumption | omega) (by first | assumption | omega) (by first | assumption | omega) (by first | assumption | omega)) E0_blind hK hP hD hS hA [0, 7] [1, 2, 3, 4, 5, 6, 8, 9, 10] ⟨rfl, rfl, by decide +kernel, by decide +kernel, by decide +kernel⟩ rfl rfl (fun _ _ _ => trivial) dX12_isLost_14 rfl rfl (Nat.le_of_ble_eq_true rfl) ⟨Nat.le_of_ble_eq_true rfl, Nat.le_of_ble_eq_true rfl⟩ ⟨Nat.le_of_ble_eq_true rfl, Nat.le_of_ble_eq_true rfl⟩ (fun zr2 zu2 H locs hw2 hP9 hD9 hS9 => ?_)
    clear hP hD hS
    refine reW [wI (cy 1) Mstep 960 (Gstep), wI (cy 1) Marg 960 (Garg), wI (cy 1) Mmany 3 (Gmany), wI (cy 1) Mvalues 64 (Gvalues), wI (cy 1) Masks 7 (Gasks), wI (cy 3) MhasForm 3 (GhasForm), wI (cy 1) Msnow 4 (Gsnow), wI (cy 1) Mloud 8 (Gloud), wI (cy 1) Mcry 10 (Gcry), wO m0 12 [.ref Mtape, .int (nI Itaped), .int (nI Ifault), .int IfaultPlace, .int (nI Iat), .int (nI Isize), .int Isort, .int Iplace, .int Inumber, .long Iword, .ref MnName, .ref MnStep, .ref MnArg, .ref MnMany, .ref Mstep, .ref Marg, .ref Mmany, .ref Mopen, .ref Mvalues, .ref MnHasForm, .ref MhasForm, .int (nI Iform), .int (nI Iopens), .int (nI InUnits), .int Iunits, .int (nI IownUnits), .int (nI Ideep), .ref Masks, .ref MnLoud, .ref MnCliffAt, .ref MnSnow, .ref MnManAt, .ref MnVoice, .ref MnOn, .ref Mloud, .ref McliffAt, .ref MsnowTold, .ref MmanAt, .ref Mvoice, .ref Mon, .ref MnYes, .ref Myes, .int (nI InWords), .int (nI InCliffs), .int (nI InMen), .int (nI InStates), .int (nI InOns), .int InWind, .int InDraw, .int (nI Iwords), .int (nI Icliffs), .int (nI Imen), .int (nI Istates), .int Ions, .int IwindTold, .int InHasWind, .int InHasDraw, .ref Mnow, .ref Mcry, .ref Msnow, .ref Mecho, .int (nI IcryMany), .int IcallPlace, .int IcallVoice, .int Iwind, .int Ichance, .int (nI IechoMany), .ref Mwere, .int (nI Iacts), .int (nI Iundone), .ref Mlies, .int (nI Ilain), .ref Mspots, .ref Msteps, .ref MfromState, .ref MbyWord, .ref Mqueue, .ref MsoundCliff, .ref MsoundLong, .ref MsoundCame, .ref MsoundTold, .ref MsoundUntold, .int (nI Isounds), .int Itime, .ref Mstands, .int IstandMany, .ref Mtally, .ref MhasBox, .ref Mboxes], wI (cy 1) McliffAt 4 (GcliffAt)] hP9 hD9 hS9 (fun hP hD hS => ?_)
    clear hP9 hD9 hS9
    refine W.widen (k := 0) (n := 0) (Nat.le_of_ble_eq_true rfl) (Nat.le_of_ble_eq_true rfl) ?_
    change (zr2 = ofR IcallPlace (GcliffAt j)) at hw2
    have f_3 := hw2
    refine lv_aload_n hx hb dX12_isLost_17 rfl (lv_at hl 0 rfl) ?_
    refine va_get (D := D) (ci := 12) (v := .int Iwind) (C := RX12) (T := TX12) (N := 89) hx hb hg i_X12 hown hK hP 9 rfl rfl 64 (by decide) (hg _ m_1477) (fun _ h9 => h9) rfl dX12_isLost_18 ?_
    refine lv_aload_n hx hb dX12_isLost_21 rfl (lv_at hl 0 rfl) ?_
    refine va_get (D := D) (ci := 12) (v := .ref Msnow) (C := RX12) (T := TX12) (N := 89) hx hb hg i_X12 hown hK hP 9 rfl rfl 59 (by decide) (hg _ m_1472) (fun _ h9 => h9) rfl dX12_isLost_22 ?_
    refine lv_iload_n hx hb dX12_isLost_25 rfl (lv_at hl 1 rfl) ?_
    refine va_iald hx hb hK hP 6 1 rfl rfl (vp_in_nI (by omega) (by decide)) dX12_isLost_26 ?_
    refine lv_topi (fun x_4 ex_4 => ?_)
    refine lv_aload_n hx hb dX12_isLost_27 rfl (lv_at hl 0 rfl) ?_
    refine va_get (D := D) (ci := 12) (v := .int (nI IcryMany)) (C := RX12) (T := TX12) (N := 89) hx hb hg i_X12 hown hK hP 9 rfl rfl 61 (by decide) (hg _ m_1474) (fun _ h9 => h9) rfl dX12_isLost_28 ?_
    refine x_callVv (q := (RX12, TX12, 89)) (ci := 12) (q0 := 0) (wr := [wI (cy 1) Mstep 960 (Gstep), wI (cy 1) Marg 960 (Garg), wI (cy 1) Mmany 3 (Gmany), wI (cy 1) Mvalues 64 (Gvalues), wI (cy 3) MhasForm 3 (GhasForm), wI (cy 1) Msnow 4 (Gsnow), wI (cy 1) Mloud 8 (Gloud), wI (cy 1) Mcry 10 (Gcry), wI (cy 1) McliffAt 4 (GcliffAt)]) (rest := []) ⟨hx, hb, hml, hown, hg, hl.1⟩ k_X12_467 (r_askOf l D cy m0 Mtape MnName MnStep MnArg MnMany Mstep Marg Mmany Mopen Mvalues MnHasForm MhasForm Masks MnLoud MnCliffAt MnSnow MnManAt MnVoice MnOn Mloud McliffAt MsnowTold MmanAt Mvoice Mon MnYes Myes Mnow Mcry Msnow Mecho Mwere Mlies Mspots Msteps MfromState MbyWord Mqueue MsoundCliff MsoundLong MsoundCame MsoundTold MsoundUntold Mstands Mtally MhasBox Mboxes Itaped Ifault IfaultPlace Iat Isize Isort Iplace Inumber Iword Iform Iopens InUnits Iunits IownUnits Ideep Gasks InWords InCliffs InMen InStates InOns InWind InDraw Iwords Icliffs Imen Istates Ions IwindTold InHasWind InHasDraw IcryMany IcallPlace IcallVoice Iwind Ichance IechoMany Iacts Iundone Ilain Isounds Itime IstandMany zr2 Iwind x_4 (nI IcryMany) (by first | assumption | omega) (by first | assumption | omega) (by first | assumption | omega) (by first | assumption | omega) (by first | assumption | omega) (by first | assumption | omega) (by first | assumption | omega) (by first | assumption | omega) (by first | assumption | omega) (by first | assumption | omega) (by first | assumption | omega) (by first | assumption | omega) (by first | assumption | omega) (by first | assumption | omega) (by first | assumption | omega) (by first | assumption | omega) (by first | assumption | omega) (by first | assumption | omega) (by first | assumption | omega) (by first | assumption | omega) (by first | assumption | omega) (by first | assumption | omega) (by first | assumption | omega)) E0_blind hK hP hD hS hA [9, 4] [0, 1, 2, 3, 5, 6, 7, 8, 10] ⟨rfl, rfl, by decide +kernel, by decide +kernel, by decide +kernel⟩ rfl rfl (fun _ _ _ => trivial) dX12_isLost_31 rfl rfl (Nat.le_of_ble_eq_true rfl) ⟨Nat.le_of_ble_eq_true rfl, Nat.le_of_ble_eq_true rfl⟩ ⟨Nat.le_of_ble_eq_true rfl, Nat.le_of_ble_eq_true rfl⟩ (fun zu5 H locs hw5 hP9 hD9 hS9 => ?_)
    clear hP hD hS
    obtain ⟨Gasks2_6, rfl⟩ : ∃ z, z = zu5 := ⟨_, rfl⟩
    refine reW [wI (cy 1) Mstep 960 (Gstep), wI (cy 1) Marg 960 (Garg), wI (cy 1) Mmany 3 (Gmany), wI (cy 1) Mvalues 64 (Gvalues), wI (cy 3) MhasForm 3 (GhasForm), wI (cy 1) Msnow 4 (Gsnow), wI (cy 1) Mloud 8 (Gloud), wI (cy 1) Mcry 10 (Gcry), wI (cy 1) McliffAt 4 (GcliffAt), wO m0 12 [.ref Mtape, .int (nI Itaped), .int (nI Ifault), .int IfaultPlace, .int (nI Iat), .int (nI Isize), .int Isort, .int Iplace, .int Inumber, .long Iword, .ref MnName, .ref MnStep, .ref MnArg, .ref MnMany, .ref Mstep, .ref Marg, .ref Mmany, .ref Mopen, .ref Mvalues, .ref MnHasForm, .ref MhasForm, .int (nI Iform), .int (nI Iopens), .int (nI InUnits), .int Iunits, .int (nI IownUnits), .int (nI Ideep), .ref Masks, .ref MnLoud, .ref MnCliffAt, .ref MnSnow, .ref MnManAt, .ref MnVoice, .ref MnOn, .ref Mloud, .ref McliffAt, .ref MsnowTold, .ref MmanAt, .ref Mvoice, .ref Mon, .ref MnYes, .ref Myes, .int (nI InWords), .int (nI InCliffs), .int (nI InMen), .int (nI InStates), .int (nI InOns), .int InWind, .int InDraw, .int (nI Iwords), .int (nI Icliffs), .int (nI Imen), .int (nI Istates), .int Ions, .int IwindTold, .int InHasWind, .int InHasDraw, .ref Mnow, .ref Mcry, .ref Msnow, .ref Mecho, .int (nI IcryMany), .int IcallPlace, .int IcallVoice, .int Iwind, .int Ichance, .int (nI IechoMany), .ref Mwere, .int (nI Iacts), .int (nI Iundone), .ref Mlies, .int (nI Ilain), .ref Mspots, .ref Msteps, .ref MfromState, .ref MbyWord, .ref Mqueue, .ref MsoundCliff, .ref MsoundLong, .ref MsoundCame, .ref MsoundTold, .ref MsoundUntold, .int (nI Isounds), .int Itime, .ref Mstands, .int IstandMany, .ref Mtally, .ref MhasBox, .ref Mboxes], wI (cy 1) Masks 7 (Gasks2_6)] hP9 hD9 hS9 (fun hP hD hS => ?_)
    clear hP9 hD9 hS9
    refine W.widen (k := 0) (n := 0) (Nat.le_of_ble_eq_true rfl) (Nat.le_of_ble_eq_true rfl) ?_
    change (∀ k9, k9 < 7 → Gasks2_6 k9 = fk7 zr2 Iwind x_4 (nI IcryMany) 0 0 0 k9) at hw5
    have f_7 := hw5
    refine lv_aload_n hx hb dX12_isLost_34 rfl (lv_at hl 0 rfl) ?_
    refine va_get (D := D) (ci := 12) (v := .ref Masks) (C := RX12) (T := TX12) (N := 89) hx hb hg i_X12 hown hK hP 9 rfl rfl 27 (by decide) (hg _ m_1440) (fun _ h9 => h9) rfl dX12_isLost_35 ?_
    refine lv_iconst (v := 4) hx hb dX12_isLost_38 (by decide) ?_
    refine lv_aload_n hx hb dX12_isLost_39 rfl (lv_at hl 0 rfl) ?_
    refine va_get (D := D) (ci := 12) (v := .ref Mloud) (C := RX12) (T := TX12) (N := 89) hx hb hg i_X12 hown hK hP 9 rfl rfl 34 (by decide) (hg _ m_1447) (fun _ h9 => h9) rfl dX12_isLost_40 ?_
    refine lv_aload_n hx hb dX12_isLost_43 rfl (lv_at hl 0 rfl) ?_
    refine va_get (D := D) (ci := 12) (v := .ref Mcry) (C := RX12) (T := TX12) (N := 89) hx hb hg i_X12 hown hK hP 9 rfl rfl 58 (by decide) (hg _ m_1471) (fun _ h9 => h9) rfl dX12_isLost_44 ?_
    refine lv_iload_n hx hb dX12_isLost_47 rfl (lv_at hl 2 rfl) ?_
    refine va_iald hx hb hK hP 7 1 rfl rfl (vp_in_nI (by omega) (by decide)) dX12_isLost_48 ?_
    obtain ⟨j_8, hj_8, ej_8⟩ := rng_at gcry (i := kk) (by omega) (by decide)
    refine lv_topi (fun y_9 hy_9 => ?_)
    obtain rfl : y_9 = nI j_8 := hy_9.trans ej_8
    refine va_iald hx hb hK hP 6 1 rfl rfl (vp_in_nI (by omega) (by decide)) dX12_isLost_49 ?_
    refine lv_topi (fun x_10 ex_10 => ?_)
    refine lv_aload_n hx hb dX12_isLost_50 rfl (lv_at hl 0 rfl) ?_
    refine va_get (D := D) (ci := 12) (v := .int IcallVoice) (C := RX12) (T := TX12) (N := 89) hx hb hg i_X12 hown hK hP 9 rfl rfl 63 (by decide) (hg _ m_1476) (fun _ h9 => h9) rfl dX12_isLost_51 ?_
    refine lv_iadd hx hb dX12_isLost_54 ?_
    refine lv_topi (fun x_11 ex_11 => ?_)
    refine va_iast hx hb hK hP hD hS 10 1 rfl rfl (by unfold vp_in; decide) dX12_isLost_55 (fun H locs hP9 hD9 hS9 => ?_)
    clear hP hD hS
    obtain ⟨g_12, eg_12⟩ : ∃ y, upd Gasks2_6 (4 : Int32).toNatClampNeg x_11 = y := ⟨_, rfl⟩
    rw [eg_12] at hP9 hD9
    refine reW [wI (cy 1) Mstep 960 (Gstep), wI (cy 1) Marg 960 (Garg), wI (cy 1) Mmany 3 (Gmany), wI (cy 1) Mvalues 64 (Gvalues), wI (cy 3) MhasForm 3 (GhasForm), wI (cy 1) Msnow 4 (Gsnow), wI (cy 1) Mloud 8 (Gloud), wI (cy 1) Mcry 10 (Gcry), wI (cy 1) McliffAt 4 (GcliffAt), wO m0 12 [.ref Mtape, .int (nI Itaped), .int (nI Ifault), .int IfaultPlace, .int (nI Iat), .int (nI Isize), .int Isort, .int Iplace, .int Inumber, .long Iword, .ref MnName, .ref MnStep, .ref MnArg, .ref MnMany, .ref Mstep, .ref Marg, .ref Mmany, .ref Mopen, .ref Mvalues, .ref MnHasForm, .ref MhasForm, .int (nI Iform), .int (nI Iopens), .int (nI InUnits), .int Iunits, .int (nI IownUnits), .int (nI Ideep), .ref Masks, .ref MnLoud, .ref MnCliffAt, .ref MnSnow, .ref MnManAt, .ref MnVoice, .ref MnOn, .ref Mloud, .ref McliffAt, .ref MsnowTold, .ref MmanAt, .ref Mvoice, .ref Mon, .ref MnYes, .ref Myes, .int (nI InWords), .int (nI InCliffs), .int (nI InMen), .int (nI InStates), .int (nI InOns), .int InWind, .int InDraw, .int (nI Iwords), .int (nI Icliffs), .int (nI Imen), .int (nI Istates), .int Ions, .int IwindTold, .int InHasWind, .int InHasDraw, .ref Mnow, .ref Mcry, .ref Msnow, .ref Mecho, .int (nI IcryMany), .int IcallPlace, .int IcallVoice, .int Iwind, .int Ichance, .int (nI IechoMany), .ref Mwere, .int (nI Iacts), .int (nI Iundone), .ref Mlies, .int (nI Ilain), .ref Mspots, .ref Msteps, .ref MfromState, .ref MbyWord, .ref Mqueue, .ref MsoundCliff, .ref MsoundLong, .ref MsoundCame, .ref MsoundTold, .ref MsoundUntold, .int (nI Isounds), .int Itime, .ref Mstands, .int IstandMany, .ref Mtally, .ref MhasBox, .ref Mboxes], wI (cy 1) Masks 7 (g_12)] hP9 hD9 hS9 (fun hP hD hS => ?_)
    clear hP9 hD9 hS9
    refine lv_aload_n hx hb dX12_isLost_56 rfl (lv_at hl 0 rfl) ?_
    refine va_get (D := D) (ci := 12) (v := .ref Masks) (C := RX12) (T := TX12) (N := 89) hx hb hg i_X12 hown hK hP 9 rfl rfl 27 (by decide) (hg _ m_1440) (fun _ h9 => h9) rfl dX12_isLost_57 ?_
    refine lv_iconst (v := 5) hx hb dX12_isLost_60 (by decide) ?_
    refine lv_aload_n hx hb dX12_isLost_61 rfl (lv_at hl 0 rfl) ?_
    refine va_get (D := D) (ci := 12) (v := .int (nI IcryMany)) (C := RX12) (T := TX12) (N := 89) hx hb hg i_X12 hown hK hP 9 rfl rfl 61 (by decide) (hg _ m_1474) (fun _ h9 => h9) rfl dX12_isLost_62 ?_
    refine lv_iconst (v := 1) hx hb dX12_isLost_65 (by decide) ?_
    refine lv_isub hx hb dX12_isLost_66 ?_
    refine lv_topi (fun y_13 hy_13 => ?_)
    obtain rfl : y_13 = nI (IcryMany - 1) := hy_13.trans (pk_sub (a := IcryMany) (b := 1) (by omega))
    refine lv_iload_n hx hb dX12_isLost_67 rfl (lv_at hl 2 rfl) ?_
    refine lv_isub hx hb dX12_isLost_68 ?_
    refine lv_topi (fun y_14 hy_14 => ?_)
    obtain rfl : y_14 = nI ((IcryMany - 1) - kk) := hy_14.trans (pk_sub (a := (IcryMany - 1)) (b := kk) (by omega))
    refine va_iast hx hb hK hP hD hS 10 1 rfl rfl (by unfold vp_in; decide) dX12_isLost_69 (fun H locs hP9 hD9 hS9 => ?_)
    clear hP hD hS
    obtain ⟨g_15, eg_15⟩ : ∃ y, upd g_12 (5 : Int32).toNatClampNeg (nI ((IcryMany - 1) - kk)) = y := ⟨_, rfl⟩
    rw [eg_15] at hP9 hD9
    refine reW [wI (cy 1) Mstep 960 (Gstep), wI (cy 1) Marg 960 (Garg), wI (cy 1) Mmany 3 (Gmany), wI (cy 1) Mvalues 64 (Gvalues), wI (cy 3) MhasForm 3 (GhasForm), wI (cy 1) Msnow 4 (Gsnow), wI (cy 1) Mloud 8 (Gloud), wI (cy 1) Mcry 10 (Gcry), wI (cy 1) McliffAt 4 (GcliffAt), wO m0 12 [.ref Mtape, .int (nI Itaped), .int (nI Ifault), .int IfaultPlace, .int (nI Iat), .int (nI Isize), .int Isort, .int Iplace, .int Inumber, .long Iword, .ref MnName, .ref MnStep, .ref MnArg, .ref MnMany, .ref Mstep, .ref Marg, .ref Mmany, .ref Mopen, .ref Mvalues, .ref MnHasForm, .ref MhasForm, .int (nI Iform), .int (nI Iopens), .int (nI InUnits), .int Iunits, .int (nI IownUnits), .int (nI Ideep), .ref Masks, .ref MnLoud, .ref MnCliffAt, .ref MnSnow, .ref MnManAt, .ref MnVoice, .ref MnOn, .ref Mloud, .ref McliffAt, .ref MsnowTold, .ref MmanAt, .ref Mvoice, .ref Mon, .ref MnYes, .ref Myes, .int (nI InWords), .int (nI InCliffs), .int (nI InMen), .int (nI InStates), .int (nI InOns), .int InWind, .int InDraw, .int (nI Iwords), .int (nI Icliffs), .int (nI Imen), .int (nI Istates), .int Ions, .int IwindTold, .int InHasWind, .int InHasDraw, .ref Mnow, .ref Mcry, .ref Msnow, .ref Mecho, .int (nI IcryMany), .int IcallPlace, .int IcallVoice, .int Iwind, .int Ichance, .int (nI IechoMany), .ref Mwere, .int (nI Iacts), .int (nI Iundone), .ref Mlies, .int (nI Ilain), .ref Mspots, .ref Msteps, .ref MfromState, .ref MbyWord, .ref Mqueue, .ref MsoundCliff, .ref MsoundLong, .ref MsoundCame, .ref MsoundTold, .ref MsoundUntold, .int (nI Isounds), .int Itime, .ref Mstands, .int IstandMany, .ref Mtally, .ref MhasBox, .ref Mboxes], wI (cy 1) Masks 7 (g_15)] hP9 hD9 hS9 (fun hP hD hS => ?_)
    clear hP9 hD9 hS9
    refine lv_aload_n hx hb dX12_isLost_70 rfl (lv_at hl 0 rfl) ?_
    refine va_get (D := D) (ci := 12) (v := .ref Masks) (C := RX12) (T := TX12) (N := 89) hx hb hg i_X12 hown hK hP 9 rfl rfl 27 (by decide) (hg _ m_1440) (fun _ h9 => h9) rfl dX12_isLost_71 ?_
    refine lv_bipush (v := 6) hx hb dX12_isLost_74 (by decide) ?_
    refine lv_aload_n hx hb dX12_isLost_76 rfl (lv_at hl 0 rfl) ?_
    refine va_get (D := D) (ci := 12) (v := .int Ichance) (C := RX12) (T := TX12) (N := 89) hx hb hg i_X12 hown hK hP 9 rfl rfl 65 (by decide) (hg _ m_1478) (fun _ h9 => h9) rfl dX12_isLost_77 ?_
    refine va_iast hx hb hK hP hD hS 10 1 rfl rfl (by unfold vp_in; decide) dX12_isLost_80 (fun H locs hP9 hD9 hS9 => ?_)
    clear hP hD hS
    obtain ⟨g_16, eg_16⟩ : ∃ y, upd g_15 (6 : Int32).toNatClampNeg Ichance = y := ⟨_, rfl⟩
    rw [eg_16] at hP9 hD9
    refine reW [wI (cy 1) Mstep 960 (Gstep), wI (cy 1) Marg 960 (Garg), wI (cy 1) Mmany 3 (Gmany), wI (cy 1) Mvalues 64 (Gvalues), wI (cy 3) MhasForm 3 (GhasForm), wI (cy 1) Msnow 4 (Gsnow), wI (cy 1) Mloud 8 (Gloud), wI (cy 1) Mcry 10 (Gcry), wI (cy 1) McliffAt 4 (GcliffAt), wO m0 12 [.ref Mtape, .int (nI Itaped), .int (nI Ifault), .int IfaultPlace, .int (nI Iat), .int (nI Isize), .int Isort, .int Iplace, .int Inumber, .long Iword, .ref MnName, .ref MnStep, .ref MnArg, .ref MnMany, .ref Mstep, .ref Marg, .ref Mmany, .ref Mopen, .ref Mvalues, .ref MnHasForm, .ref MhasForm, .int (nI Iform), .int (nI Iopens), .int (nI InUnits), .int Iunits, .int (nI IownUnits), .int (nI Ideep), .ref Masks, .ref MnLoud, .ref MnCliffAt, .ref MnSnow, .ref MnManAt, .ref MnVoice, .ref MnOn, .ref Mloud, .ref McliffAt, .ref MsnowTold, .ref MmanAt, .ref Mvoice, .ref Mon, .ref MnYes, .ref Myes, .int (nI InWords), .int (nI InCliffs), .int (nI InMen), .int (nI InStates), .int (nI InOns), .int InWind, .int InDraw, .int (nI Iwords), .int (nI Icliffs), .int (nI Imen), .int (nI Istates), .int Ions, .int IwindTold, .int InHasWind, .int InHasDraw, .ref Mnow, .ref Mcry, .ref Msnow, .ref Mecho, .int (nI IcryMany), .int IcallPlace, .int IcallVoice, .int Iwind, .int Ichance, .int (nI IechoMany), .ref Mwere, .int (nI Iacts), .int (nI Iundone), .ref Mlies, .int (nI Ilain), .ref Mspots, .ref Msteps, .ref MfromState, .ref MbyWord, .ref Mqueue, .ref MsoundCliff, .ref MsoundLong, .ref MsoundCame, .ref MsoundTold, .ref MsoundUntold, .int (nI Isounds), .int Itime, .ref Mstands, .int IstandMany, .ref Mtally, .ref MhasBox, .ref Mboxes], wI (cy 1) Masks 7 (g_16)] hP9 hD9 hS9 (fun hP hD hS => ?_)
    clear hP9 hD9 hS9
    refine lv_aload_n hx hb dX12_isLost_81 rfl (lv_at hl 0 rfl) ?_
    refine lv_iconst (v := 1) hx hb dX12_isLost_82 (by decide) ?_
    refine x_callVi (q := (RX12, TX12, 89)) (ci := 12) (q0 := 0) (wr := [wI (cy 3) MhasForm 3 (GhasForm), wI (cy 1) Msnow 4 (Gsnow), wI (cy 1) Mloud 8 (Gloud), wI (cy 1) Mcry 10 (Gcry), wI (cy 1) McliffAt 4 (GcliffAt)]) (rest := []) ⟨hx, hb, hml, hown, hg, hl.1⟩ k_X12_471 (r_worked l D cy m0 Mtape MnName MnStep MnArg MnMany Mstep Marg Mmany Mopen Mvalues MnHasForm MhasForm Masks MnLoud MnCliffAt MnSnow MnManAt MnVoice MnOn Mloud McliffAt MsnowTold MmanAt Mvoice Mon MnYes Myes Mnow Mcry Msnow Mecho Mwere Mlies Mspots Msteps MfromState MbyWord Mqueue MsoundCliff MsoundLong MsoundCame MsoundTold MsoundUntold Mstands Mtally MhasBox Mboxes Itaped Ifault IfaultPlace Iat Isize Isort Iplace Inumber Iword Gstep Garg Gmany Gvalues Iform Iopens InUnits Iunits IownUnits Ideep g_16 InWords InCliffs InMen InStates InOns InWind InDraw Iwords Icliffs Imen Istates Ions IwindTold InHasWind InHasDraw IcryMany IcallPlace IcallVoice Iwind Ichance IechoMany Iacts Iundone Ilain Isounds Itime IstandMany am AH 1 (by first | assumption | omega) (by first | assumption | omega) (by first | assumption | omega) (by first | assumption | omega) (by first | assumption | omega) (by first | assumption | omega) (by first | assumption | omega) (by first | assumption | omega) (by first | assumption | omega) (by first | assumption | omega) (by first | assumption | omega) (by first | assumption | omega) (by first | assumption | omega) (by first | assumption | omega) (by first | assumption | omega) (by first | assumption | omega) (by first | assumption | omega) (by first | assumption | omega) (by first | assumption | omega) (by first | assumption | omega) (by first | assumption | omega) (by first | assumption | omega) (by first | assumption | omega) (gal2) (by first | assumption | omega)) E0_blind hK hP hD hS hA [9, 0, 1, 2, 3, 10] [4, 5, 6, 7, 8] ⟨rfl, rfl, by decide +kernel, by decide +kernel, by decide +kernel⟩ rfl rfl (fun _ _ _ => trivial) dX12_isLost_83 rfl rfl (Nat.le_of_ble_eq_true rfl) ⟨Nat.le_of_ble_eq_true rfl, Nat.le_of_ble_eq_true rfl⟩ ⟨Nat.le_of_ble_eq_true rfl, Nat.le_of_ble_eq_true rfl⟩ (fun zr17 zu17 H locs hw17 hP9 hD9 hS9 => ?_)
    clear hP hD hS
    obtain ⟨Gvalues2_18, rfl⟩ : ∃ z, z = zu17 := ⟨_, rfl⟩
    refine reW [wI (cy 3) MhasForm 3 (GhasForm), wI (cy 1) Msnow 4 (Gsnow), wI (cy 1) Mloud 8 (Gloud), wI (cy 1) Mcry 10 (Gcry), wI (cy 1) McliffAt 4 (GcliffAt), wO m0 12 [.ref Mtape, .int (nI Itaped), .int (nI Ifault), .int IfaultPlace, .int (nI Iat), .int (nI Isize), .int Isort, .int Iplace, .int Inumber, .long Iword, .ref MnName, .ref MnStep, .ref MnArg, .ref MnMany, .ref Mstep, .ref Marg, .ref Mmany, .ref Mopen, .ref Mvalues, .ref MnHasForm, .ref MhasForm, .int (nI Iform), .int (nI Iopens), .int (nI InUnits), .int Iunits, .int (nI IownUnits), .int (nI Ideep), .ref Masks, .ref MnLoud, .ref MnCliffAt, .ref MnSnow, .ref MnManAt, .ref MnVoice, .ref MnOn, .ref Mloud, .ref McliffAt, .ref MsnowTold, .ref MmanAt, .ref Mvoice, .ref Mon, .ref MnYes, .ref Myes, .int (nI InWords), .int (nI InCliffs), .int (nI InMen), .int (nI InStates), .int (nI InOns), .int InWind, .int InDraw, .int (nI Iwords), .int (nI Icliffs), .int (nI Imen), .int (nI Istates), .int Ions, .int IwindTold, .int InHasWind, .int InHasDraw, .ref Mnow, .ref Mcry, .ref Msnow, .ref Mecho, .int (nI IcryMany), .int IcallPlace, .int IcallVoice, .int Iwind, .int Ichance, .int (nI IechoMany), .ref Mwere, .int (nI Iacts), .int (nI Iundone), .ref Mlies, .int (nI Ilain), .ref Mspots, .ref Msteps, .ref MfromState, .ref MbyWord, .ref Mqueue, .ref MsoundCliff, .ref MsoundLong, .ref MsoundCame, .ref MsoundTold, .ref MsoundUntold, .int (nI Isounds), .int Itime, .ref Mstands, .int IstandMany, .ref Mtally, .ref MhasBox, .ref Mboxes], wI (cy 1) Mstep 960 (Gstep), wI (cy 1) Marg 960 (Garg), wI (cy 1) Mmany 3 (Gmany), wI (cy 1) Mvalues 64 (Gvalues2_18), wI (cy 1) Masks 7 (g_16)] hP9 hD9 hS9 (fun hP hD hS => ?_)
    clear hP9 hD9 hS9
    refine W.widen (k := 0) (n := 0) (Nat.le_of_ble_eq_true rfl) (Nat.le_of_ble_eq_true rfl) ?_
    change (1 ≤ am 1 → zr17 = (evM Gstep Garg g_16 (320 * 1) (am 1)).getLastD 0) at hw17
    have f_19 := hw17
    refine lv_if_eq (tgt := 93) hx hb dX12_isLost_86 (by decide) (fun c_86 => ?_) (fun c_86 => ?_)
    · refine lv_iconst (v := 0) hx hb dX12_isLost_93 (by decide) ?_
      exact x_zret hQ hx hb hr hlocks hK hP hD hS rfl dX12_isLost_94 (Gvalues2_18, g_16) (⟨(Or.inl rfl), (show bR (0 : Int32) (loS (vlM GhasForm Gstep Garg am 1 0) Gloud (ofR IcallPlace (GcliffAt j)) Iwind (Gsnow j) IcallVoice Ichance IcryMany (Gcry kk) kk) from (by rw [show Gcry kk = nI j_8 from by rw [← ej_8, nI_clamp (by omega)]]; exact bR_0 (lo_0 (vlM_1 hne9 (f_19 (gfm 1 (by decide) hne9))) (vlM_cg gal2 (by decide) (fk7_lo3 (by intro k9 h9; rw [f_7 k9 (by omega), f_3, ld_at (by omega) ex_4]) (by omega) ex_10 ex_11 eg_12 eg_15 eg_16)) c_86)))⟩) [5, 6, 7, 8, 9, 10, 0, 4, 1, 2, 3] (by decide +kernel) rfl (Nat.le_of_ble_eq_true rfl) (Nat.le_of_ble_eq_true rfl)
    · refine lv_iconst (v := 1) hx hb dX12_isLost_89 (by decide) ?_
      refine lv_goto (tgt := 94) hx hb dX12_isLost_90 (by decide) ?_
      exact x_zret hQ hx hb hr hlocks hK hP hD hS rfl dX12_isLost_94 (Gvalues2_18, g_16) (⟨(Or.inr rfl), (show bR (1 : Int32) (loS (vlM GhasForm Gstep Garg am 1 0) Gloud (ofR IcallPlace (GcliffAt j)) Iwind (Gsnow j) IcallVoice Ichance IcryMany (Gcry kk) kk) from (by rw [show Gcry kk = nI j_8 from by rw [← ej_8, nI_clamp (by omega)]]; exact bR_1 (lo_1 (vlM_1 hne9 (f_19 (gfm 1 (by decide) hne9))) (vlM_cg gal2 (by decide) (fk7_lo3 (by intro k9 h9; rw [f_7 k9 (by omega), f_3, ld_at (by omega) ex_4]) (by omega) ex_10 ex_11 eg_12 eg_15 eg_16)) c_86)))⟩) [5, 6, 7, 8, 9, 10, 0, 4, 1, 2, 3] (by decide +kernel) rfl (Nat.le_of_ble_eq_true rfl) (Nat.le_of_ble_eq_true rfl)
  · refine lv_iconst (v := 0) hx hb dX12_isLost_9 (by decide) ?_
    exact x_zret hQ hx hb hr hlocks hK hP hD hS rfl dX12_isLost_10 (Gvalues, Gasks) (⟨(Or.inl rfl), (show bR (0 : Int32) (loS (vlM GhasForm Gstep Garg am 1 0) Gloud (ofR IcallPlace (GcliffAt j)) Iwind (Gsnow j) IcallVoice Ichance IcryMany (Gcry kk) kk) from bR_0 (lo_zero (fun ff => (vlM_0 ((ldk (by decide) ex_1).symm.trans c_6)).symm)))⟩) [0, 1, 2, 3, 4, 5, 6, 7, 8, 9, 10] (by decide +kernel) rfl (Nat.le_of_ble_eq_true rfl) (Nat.le_of_ble_eq_true rfl)
theorem gdX12_addEcho_0 : decode cX12_addEcho 0 = .ok (.aload_n 0, 1) ∧ decode cX12_addEcho 1 = .ok (.getfield 477, 3) ∧ decode cX12_addEcho 4 = .ok (.istore_n 2, 1) ∧ decode cX12_addEcho 5 = .ok (.aload_n 0, 1) ∧ decode cX12_addEcho 6 = .ok (.getfield 446, 3) ∧ decode cX12_addEcho 9 = .ok (.aload_n 0, 1) ∧ decode cX12_addEcho 10 = .ok (.aload_n 0, 1) ∧ decode cX12_addEcho 11 = .ok (.iload_n 1, 1) ∧ decode cX12_addEcho 12 = .ok (.invokevirtual 474, 3) ∧ decode cX12_addEcho 15 = .ok (.aload_n 0, 1) ∧ decode cX12_addEcho 16 = .ok (.getfield 440, 3) ∧ decode cX12_addEcho 19 = .ok (.aload_n 0, 1) := by decide +kernel
theorem dX12_addEcho_0 : decode cX12_addEcho 0 = .ok (.aload_n 0, 1) := gdX12_addEcho_0.1
theorem dX12_addEcho_1 : decode cX12_addEcho 1 = .ok (.getfield 477, 3) := gdX12_addEcho_0.2.1
theorem dX12_addEcho_4 : decode cX12_addEcho 4 = .ok (.istore_n 2, 1) := gdX12_addEcho_0.2.2.1
theorem dX12_addEcho_5 : decode cX12_addEcho 5 = .ok (.aload_n 0, 1) := gdX12_addEcho_0.2.2.2.1
theorem dX12_addEcho_6 : decode cX12_addEcho 6 = .ok (.getfield 446, 3) := gdX12_addEcho_0.2.2.2.2.1
theorem dX12_addEcho_9 : decode cX12_addEcho 9 = .ok (.aload_n 0, 1) := gdX12_addEcho_0.2.2.2.2.2.1
theorem dX12_addEcho_10 : decode cX12_addEcho 10 = .ok (.aload_n 0, 1) := gdX12_addEcho_0.2.2.2.2.2.2.1
theorem dX12_addEcho_11 : decode cX12_addEcho 11 = .ok (.iload_n 1, 1) := gdX12_addEcho_0.2.2.2.2.2.2.2.1
theorem dX12_addEcho_12 : decode cX12_addEcho 12 = .ok (.invokevirtual 474, 3) := gdX12_addEcho_0.2.2.2.2.2.2.2.2.1
theorem dX12_addEcho_15 : decode cX12_addEcho 15 = .ok (.aload_n 0, 1) := gdX12_addEcho_0.2.2.2.2.2.2.2.2.2.1
theorem dX12_addEcho_16 : decode cX12_addEcho 16 = .ok (.getfield 440, 3) := gdX12_addEcho_0.2.2.2.2.2.2.2.2.2.2.1
theorem dX12_addEcho_19 : decode cX12_addEcho 19 = .ok (.aload_n 0, 1) := gdX12_addEcho_0.2.2.2.2.2.2.2.2.2.2.2
theorem gdX12_addEcho_20 : decode cX12_addEcho 20 = .ok (.getfield 103, 3) ∧ decode cX12_addEcho 23 = .ok (.iload_n 1, 1) ∧ decode cX12_addEcho 24 = .ok (.iaload, 1) ∧ decode cX12_addEcho 25 = .ok (.aload_n 0, 1) ∧ decode cX12_addEcho 26 = .ok (.getfield 446, 3) ∧ decode cX12_addEcho 29 = .ok (.invokevirtual 480, 3) := by decide +kernel
theorem dX12_addEcho_20 : decode cX12_addEcho 20 = .ok (.getfield 103, 3) := gdX12_addEcho_20.1
theorem dX12_addEcho_23 : decode cX12_addEcho 23 = .ok (.iload_n 1, 1) := gdX12_addEcho_20.2.1
theorem dX12_addEcho_24 : decode cX12_addEcho 24 = .ok (.iaload, 1) := gdX12_addEcho_20.2.2.1
theorem dX12_addEcho_25 : decode cX12_addEcho 25 = .ok (.aload_n 0, 1) := gdX12_addEcho_20.2.2.2.1
theorem dX12_addEcho_26 : decode cX12_addEcho 26 = .ok (.getfield 446, 3) := gdX12_addEcho_20.2.2.2.2.1
theorem dX12_addEcho_29 : decode cX12_addEcho 29 = .ok (.invokevirtual 480, 3) := gdX12_addEcho_20.2.2.2.2.2
theorem k_X12_480 : xV RX12 RX12 480 yX12_backOf cX12_backOf 6 (some .int) 4 := ⟨⟨m_1963, m_1965, m_111, m_146, m_1966⟩, rfl, by decide, by decide, by decide +kernel⟩
theorem gdX12_addEcho_32 : decode cX12_addEcho 32 = .ok (.isub, 1) ∧ decode cX12_addEcho 33 = .ok (.istore_n 3, 1) ∧ decode cX12_addEcho 34 = .ok (.iload_n 3, 1) ∧ decode cX12_addEcho 35 = .ok (.aload_n 0, 1) ∧ decode cX12_addEcho 36 = .ok (.getfield 446, 3) ∧ decode cX12_addEcho 39 = .ok (.if_icmp .ge 46, 3) ∧ decode cX12_addEcho 85 = .ok (.aload_n 0, 1) ∧ decode cX12_addEcho 86 = .ok (.aload_n 0, 1) ∧ decode cX12_addEcho 87 = .ok (.iload_n 1, 1) ∧ decode cX12_addEcho 88 = .ok (.invokevirtual 474, 3) ∧ decode cX12_addEcho 91 = .ok (.aload_n 0, 1) ∧ decode cX12_addEcho 92 = .ok (.getfield 440, 3) := by decide +kernel
theorem dX12_addEcho_32 : decode cX12_addEcho 32 = .ok (.isub, 1) := gdX12_addEcho_32.1
theorem dX12_addEcho_33 : decode cX12_addEcho 33 = .ok (.istore_n 3, 1) := gdX12_addEcho_32.2.1
theorem dX12_addEcho_34 : decode cX12_addEcho 34 = .ok (.iload_n 3, 1) := gdX12_addEcho_32.2.2.1
theorem dX12_addEcho_35 : decode cX12_addEcho 35 = .ok (.aload_n 0, 1) := gdX12_addEcho_32.2.2.2.1
theorem dX12_addEcho_36 : decode cX12_addEcho 36 = .ok (.getfield 446, 3) := gdX12_addEcho_32.2.2.2.2.1
theorem dX12_addEcho_39 : decode cX12_addEcho 39 = .ok (.if_icmp .ge 46, 3) := gdX12_addEcho_32.2.2.2.2.2.1
theorem dX12_addEcho_85 : decode cX12_addEcho 85 = .ok (.aload_n 0, 1) := gdX12_addEcho_32.2.2.2.2.2.2.1
theorem dX12_addEcho_86 : decode cX12_addEcho 86 = .ok (.aload_n 0, 1) := gdX12_addEcho_32.2.2.2.2.2.2.2.1
theorem dX12_addEcho_87 : decode cX12_addEcho 87 = .ok (.iload_n 1, 1) := gdX12_addEcho_32.2.2.2.2.2.2.2.2.1
theorem dX12_addEcho_88 : decode cX12_addEcho 88 = .ok (.invokevirtual 474, 3) := gdX12_addEcho_32.2.2.2.2.2.2.2.2.2.1
theorem dX12_addEcho_91 : decode cX12_addEcho 91 = .ok (.aload_n 0, 1) := gdX12_addEcho_32.2.2.2.2.2.2.2.2.2.2.1
theorem dX12_addEcho_92 : decode cX12_addEcho 92 = .ok (.getfield 440, 3) := gdX12_addEcho_32.2.2.2.2.2.2.2.2.2.2.2
theorem gdX12_addEcho_95 : decode cX12_addEcho 95 = .ok (.aload_n 0, 1) ∧ decode cX12_addEcho 96 = .ok (.getfield 103, 3) ∧ decode cX12_addEcho 99 = .ok (.iload_n 1, 1) ∧ decode cX12_addEcho 100 = .ok (.iaload, 1) ∧ decode cX12_addEcho 101 = .ok (.aload_n 0, 1) ∧ decode cX12_addEcho 102 = .ok (.getfield 446, 3) ∧ decode cX12_addEcho 105 = .ok (.invokevirtual 467, 3) ∧ decode cX12_addEcho 108 = .ok (.aload_n 0, 1) ∧ decode cX12_addEcho 109 = .ok (.getfield 49, 3) ∧ decode cX12_addEcho 112 = .ok (.iconst 2, 1) ∧ decode cX12_addEcho 113 = .ok (.baload, 1) ∧ decode cX12_addEcho 114 = .ok (.ifCond .eq 11, 3) := by decide +kernel
theorem dX12_addEcho_95 : decode cX12_addEcho 95 = .ok (.aload_n 0, 1) := gdX12_addEcho_95.1
theorem dX12_addEcho_96 : decode cX12_addEcho 96 = .ok (.getfield 103, 3) := gdX12_addEcho_95.2.1
theorem dX12_addEcho_99 : decode cX12_addEcho 99 = .ok (.iload_n 1, 1) := gdX12_addEcho_95.2.2.1
theorem dX12_addEcho_100 : decode cX12_addEcho 100 = .ok (.iaload, 1) := gdX12_addEcho_95.2.2.2.1
theorem dX12_addEcho_101 : decode cX12_addEcho 101 = .ok (.aload_n 0, 1) := gdX12_addEcho_95.2.2.2.2.1
theorem dX12_addEcho_102 : decode cX12_addEcho 102 = .ok (.getfield 446, 3) := gdX12_addEcho_95.2.2.2.2.2.1
theorem dX12_addEcho_105 : decode cX12_addEcho 105 = .ok (.invokevirtual 467, 3) := gdX12_addEcho_95.2.2.2.2.2.2.1
theorem dX12_addEcho_108 : decode cX12_addEcho 108 = .ok (.aload_n 0, 1) := gdX12_addEcho_95.2.2.2.2.2.2.2.1
theorem dX12_addEcho_109 : decode cX12_addEcho 109 = .ok (.getfield 49, 3) := gdX12_addEcho_95.2.2.2.2.2.2.2.2.1
theorem dX12_addEcho_112 : decode cX12_addEcho 112 = .ok (.iconst 2, 1) := gdX12_addEcho_95.2.2.2.2.2.2.2.2.2.1
theorem dX12_addEcho_113 : decode cX12_addEcho 113 = .ok (.baload, 1) := gdX12_addEcho_95.2.2.2.2.2.2.2.2.2.2.1
theorem dX12_addEcho_114 : decode cX12_addEcho 114 = .ok (.ifCond .eq 11, 3) := gdX12_addEcho_95.2.2.2.2.2.2.2.2.2.2.2
theorem gdX12_addEcho_125 : decode cX12_addEcho 125 = .ok (.return_, 1) ∧ decode cX12_addEcho 117 = .ok (.aload_n 0, 1) ∧ decode cX12_addEcho 118 = .ok (.iconst 2, 1) ∧ decode cX12_addEcho 119 = .ok (.invokevirtual 471, 3) ∧ decode cX12_addEcho 122 = .ok (.ifCond .ne 4, 3) ∧ decode cX12_addEcho 126 = .ok (.iload_n 2, 1) ∧ decode cX12_addEcho 127 = .ok (.istore_n 3, 1) ∧ decode cX12_addEcho 128 = .ok (.aload_n 0, 1) ∧ decode cX12_addEcho 129 = .ok (.getfield 477, 3) ∧ decode cX12_addEcho 132 = .ok (.iconst 1, 1) ∧ decode cX12_addEcho 133 = .ok (.isub, 1) ∧ decode cX12_addEcho 134 = .ok (.istore 4, 2) := by decide +kernel
theorem dX12_addEcho_125 : decode cX12_addEcho 125 = .ok (.return_, 1) := gdX12_addEcho_125.1
theorem dX12_addEcho_117 : decode cX12_addEcho 117 = .ok (.aload_n 0, 1) := gdX12_addEcho_125.2.1
theorem dX12_addEcho_118 : decode cX12_addEcho 118 = .ok (.iconst 2, 1) := gdX12_addEcho_125.2.2.1
theorem dX12_addEcho_119 : decode cX12_addEcho 119 = .ok (.invokevirtual 471, 3) := gdX12_addEcho_125.2.2.2.1
theorem dX12_addEcho_122 : decode cX12_addEcho 122 = .ok (.ifCond .ne 4, 3) := gdX12_addEcho_125.2.2.2.2.1
theorem dX12_addEcho_126 : decode cX12_addEcho 126 = .ok (.iload_n 2, 1) := gdX12_addEcho_125.2.2.2.2.2.1
theorem dX12_addEcho_127 : decode cX12_addEcho 127 = .ok (.istore_n 3, 1) := gdX12_addEcho_125.2.2.2.2.2.2.1
theorem dX12_addEcho_128 : decode cX12_addEcho 128 = .ok (.aload_n 0, 1) := gdX12_addEcho_125.2.2.2.2.2.2.2.1
theorem dX12_addEcho_129 : decode cX12_addEcho 129 = .ok (.getfield 477, 3) := gdX12_addEcho_125.2.2.2.2.2.2.2.2.1
theorem dX12_addEcho_132 : decode cX12_addEcho 132 = .ok (.iconst 1, 1) := gdX12_addEcho_125.2.2.2.2.2.2.2.2.2.1
theorem dX12_addEcho_133 : decode cX12_addEcho 133 = .ok (.isub, 1) := gdX12_addEcho_125.2.2.2.2.2.2.2.2.2.2.1
theorem dX12_addEcho_134 : decode cX12_addEcho 134 = .ok (.istore 4, 2) := gdX12_addEcho_125.2.2.2.2.2.2.2.2.2.2.2
theorem gdX12_addEcho_136 : decode cX12_addEcho 136 = .ok (.iload_n 3, 1) ∧ decode cX12_addEcho 137 = .ok (.iload 4, 2) ∧ decode cX12_addEcho 139 = .ok (.if_icmp .ge 42, 3) ∧ decode cX12_addEcho 181 = .ok (.return_, 1) ∧ decode cX12_addEcho 142 = .ok (.aload_n 0, 1) ∧ decode cX12_addEcho 143 = .ok (.getfield 106, 3) ∧ decode cX12_addEcho 146 = .ok (.iload_n 3, 1) ∧ decode cX12_addEcho 147 = .ok (.iaload, 1) ∧ decode cX12_addEcho 148 = .ok (.istore 5, 2) ∧ decode cX12_addEcho 150 = .ok (.aload_n 0, 1) ∧ decode cX12_addEcho 151 = .ok (.getfield 106, 3) ∧ decode cX12_addEcho 154 = .ok (.iload_n 3, 1) := by decide +kernel
theorem dX12_addEcho_136 : decode cX12_addEcho 136 = .ok (.iload_n 3, 1) := gdX12_addEcho_136.1
theorem dX12_addEcho_137 : decode cX12_addEcho 137 = .ok (.iload 4, 2) := gdX12_addEcho_136.2.1
theorem dX12_addEcho_139 : decode cX12_addEcho 139 = .ok (.if_icmp .ge 42, 3) := gdX12_addEcho_136.2.2.1
theorem dX12_addEcho_181 : decode cX12_addEcho 181 = .ok (.return_, 1) := gdX12_addEcho_136.2.2.2.1
theorem dX12_addEcho_142 : decode cX12_addEcho 142 = .ok (.aload_n 0, 1) := gdX12_addEcho_136.2.2.2.2.1
theorem dX12_addEcho_143 : decode cX12_addEcho 143 = .ok (.getfield 106, 3) := gdX12_addEcho_136.2.2.2.2.2.1
theorem dX12_addEcho_146 : decode cX12_addEcho 146 = .ok (.iload_n 3, 1) := gdX12_addEcho_136.2.2.2.2.2.2.1
theorem dX12_addEcho_147 : decode cX12_addEcho 147 = .ok (.iaload, 1) := gdX12_addEcho_136.2.2.2.2.2.2.2.1
theorem dX12_addEcho_148 : decode cX12_addEcho 148 = .ok (.istore 5, 2) := gdX12_addEcho_136.2.2.2.2.2.2.2.2.1
theorem dX12_addEcho_150 : decode cX12_addEcho 150 = .ok (.aload_n 0, 1) := gdX12_addEcho_136.2.2.2.2.2.2.2.2.2.1
theorem dX12_addEcho_151 : decode cX12_addEcho 151 = .ok (.getfield 106, 3) := gdX12_addEcho_136.2.2.2.2.2.2.2.2.2.2.1
theorem dX12_addEcho_154 : decode cX12_addEcho 154 = .ok (.iload_n 3, 1) := gdX12_addEcho_136.2.2.2.2.2.2.2.2.2.2.2
theorem gdX12_addEcho_155 : decode cX12_addEcho 155 = .ok (.aload_n 0, 1) ∧ decode cX12_addEcho 156 = .ok (.getfield 106, 3) ∧ decode cX12_addEcho 159 = .ok (.iload 4, 2) ∧ decode cX12_addEcho 161 = .ok (.iaload, 1) ∧ decode cX12_addEcho 162 = .ok (.iastore, 1) ∧ decode cX12_addEcho 163 = .ok (.aload_n 0, 1) ∧ decode cX12_addEcho 164 = .ok (.getfield 106, 3) ∧ decode cX12_addEcho 167 = .ok (.iload 4, 2) ∧ decode cX12_addEcho 169 = .ok (.iload 5, 2) ∧ decode cX12_addEcho 171 = .ok (.iastore, 1) ∧ decode cX12_addEcho 172 = .ok (.iinc 4 (-1), 3) ∧ decode cX12_addEcho 175 = .ok (.iinc 3 1, 3) := by decide +kernel
theorem dX12_addEcho_155 : decode cX12_addEcho 155 = .ok (.aload_n 0, 1) := gdX12_addEcho_155.1
theorem dX12_addEcho_156 : decode cX12_addEcho 156 = .ok (.getfield 106, 3) := gdX12_addEcho_155.2.1
theorem dX12_addEcho_159 : decode cX12_addEcho 159 = .ok (.iload 4, 2) := gdX12_addEcho_155.2.2.1
theorem dX12_addEcho_161 : decode cX12_addEcho 161 = .ok (.iaload, 1) := gdX12_addEcho_155.2.2.2.1
theorem dX12_addEcho_162 : decode cX12_addEcho 162 = .ok (.iastore, 1) := gdX12_addEcho_155.2.2.2.2.1
theorem dX12_addEcho_163 : decode cX12_addEcho 163 = .ok (.aload_n 0, 1) := gdX12_addEcho_155.2.2.2.2.2.1
theorem dX12_addEcho_164 : decode cX12_addEcho 164 = .ok (.getfield 106, 3) := gdX12_addEcho_155.2.2.2.2.2.2.1
theorem dX12_addEcho_167 : decode cX12_addEcho 167 = .ok (.iload 4, 2) := gdX12_addEcho_155.2.2.2.2.2.2.2.1
theorem dX12_addEcho_169 : decode cX12_addEcho 169 = .ok (.iload 5, 2) := gdX12_addEcho_155.2.2.2.2.2.2.2.2.1
theorem dX12_addEcho_171 : decode cX12_addEcho 171 = .ok (.iastore, 1) := gdX12_addEcho_155.2.2.2.2.2.2.2.2.2.1
theorem dX12_addEcho_172 : decode cX12_addEcho 172 = .ok (.iinc 4 (-1), 3) := gdX12_addEcho_155.2.2.2.2.2.2.2.2.2.2.1
theorem dX12_addEcho_175 : decode cX12_addEcho 175 = .ok (.iinc 3 1, 3) := gdX12_addEcho_155.2.2.2.2.2.2.2.2.2.2.2
theorem gdX12_addEcho_178 : decode cX12_addEcho 178 = .ok (.goto (-42), 3) ∧ decode cX12_addEcho 42 = .ok (.aload_n 0, 1) ∧ decode cX12_addEcho 43 = .ok (.iload_n 1, 1) ∧ decode cX12_addEcho 44 = .ok (.iload_n 3, 1) ∧ decode cX12_addEcho 45 = .ok (.invokevirtual 484, 3) := by decide +kernel
theorem dX12_addEcho_178 : decode cX12_addEcho 178 = .ok (.goto (-42), 3) := gdX12_addEcho_178.1
theorem dX12_addEcho_42 : decode cX12_addEcho 42 = .ok (.aload_n 0, 1) := gdX12_addEcho_178.2.1
theorem dX12_addEcho_43 : decode cX12_addEcho 43 = .ok (.iload_n 1, 1) := gdX12_addEcho_178.2.2.1
theorem dX12_addEcho_44 : decode cX12_addEcho 44 = .ok (.iload_n 3, 1) := gdX12_addEcho_178.2.2.2.1
theorem dX12_addEcho_45 : decode cX12_addEcho 45 = .ok (.invokevirtual 484, 3) := gdX12_addEcho_178.2.2.2.2
theorem k_X12_484 : xV RX12 RX12 484 yX12_isLost cX12_isLost 3 (some .boolean) 2 := ⟨⟨m_1981, m_1983, m_114, m_146, m_1984⟩, rfl, by decide, by decide, by decide +kernel⟩
theorem gdX12_addEcho_48 : decode cX12_addEcho 48 = .ok (.ifCond .eq 6, 3) ∧ decode cX12_addEcho 54 = .ok (.aload_n 0, 1) ∧ decode cX12_addEcho 55 = .ok (.getfield 106, 3) ∧ decode cX12_addEcho 58 = .ok (.aload_n 0, 1) ∧ decode cX12_addEcho 59 = .ok (.getfield 477, 3) ∧ decode cX12_addEcho 62 = .ok (.aload_n 0, 1) ∧ decode cX12_addEcho 63 = .ok (.getfield 100, 3) ∧ decode cX12_addEcho 66 = .ok (.iload_n 3, 1) ∧ decode cX12_addEcho 67 = .ok (.iaload, 1) ∧ decode cX12_addEcho 68 = .ok (.iastore, 1) ∧ decode cX12_addEcho 69 = .ok (.aload_n 0, 1) ∧ decode cX12_addEcho 70 = .ok (.dup, 1) := by decide +kernel
theorem dX12_addEcho_48 : decode cX12_addEcho 48 = .ok (.ifCond .eq 6, 3) := gdX12_addEcho_48.1
theorem dX12_addEcho_54 : decode cX12_addEcho 54 = .ok (.aload_n 0, 1) := gdX12_addEcho_48.2.1
theorem dX12_addEcho_55 : decode cX12_addEcho 55 = .ok (.getfield 106, 3) := gdX12_addEcho_48.2.2.1
theorem dX12_addEcho_58 : decode cX12_addEcho 58 = .ok (.aload_n 0, 1) := gdX12_addEcho_48.2.2.2.1
theorem dX12_addEcho_59 : decode cX12_addEcho 59 = .ok (.getfield 477, 3) := gdX12_addEcho_48.2.2.2.2.1
theorem dX12_addEcho_62 : decode cX12_addEcho 62 = .ok (.aload_n 0, 1) := gdX12_addEcho_48.2.2.2.2.2.1
theorem dX12_addEcho_63 : decode cX12_addEcho 63 = .ok (.getfield 100, 3) := gdX12_addEcho_48.2.2.2.2.2.2.1
theorem dX12_addEcho_66 : decode cX12_addEcho 66 = .ok (.iload_n 3, 1) := gdX12_addEcho_48.2.2.2.2.2.2.2.1
theorem dX12_addEcho_67 : decode cX12_addEcho 67 = .ok (.iaload, 1) := gdX12_addEcho_48.2.2.2.2.2.2.2.2.1
theorem dX12_addEcho_68 : decode cX12_addEcho 68 = .ok (.iastore, 1) := gdX12_addEcho_48.2.2.2.2.2.2.2.2.2.1
theorem dX12_addEcho_69 : decode cX12_addEcho 69 = .ok (.aload_n 0, 1) := gdX12_addEcho_48.2.2.2.2.2.2.2.2.2.2.1
theorem dX12_addEcho_70 : decode cX12_addEcho 70 = .ok (.dup, 1) := gdX12_addEcho_48.2.2.2.2.2.2.2.2.2.2.2
theorem gdX12_addEcho_71 : decode cX12_addEcho 71 = .ok (.getfield 477, 3) ∧ decode cX12_addEcho 74 = .ok (.iconst 1, 1) ∧ decode cX12_addEcho 75 = .ok (.iadd, 1) ∧ decode cX12_addEcho 76 = .ok (.putfield 477, 3) ∧ decode cX12_addEcho 79 = .ok (.iinc 3 1, 3) ∧ decode cX12_addEcho 82 = .ok (.goto (-48), 3) ∧ decode cX12_addEcho 51 = .ok (.goto 28, 3) := by decide +kernel
theorem dX12_addEcho_71 : decode cX12_addEcho 71 = .ok (.getfield 477, 3) := gdX12_addEcho_71.1
theorem dX12_addEcho_74 : decode cX12_addEcho 74 = .ok (.iconst 1, 1) := gdX12_addEcho_71.2.1
theorem dX12_addEcho_75 : decode cX12_addEcho 75 = .ok (.iadd, 1) := gdX12_addEcho_71.2.2.1
theorem dX12_addEcho_76 : decode cX12_addEcho 76 = .ok (.putfield 477, 3) := gdX12_addEcho_71.2.2.2.1
theorem dX12_addEcho_79 : decode cX12_addEcho 79 = .ok (.iinc 3 1, 3) := gdX12_addEcho_71.2.2.2.2.1
theorem dX12_addEcho_82 : decode cX12_addEcho 82 = .ok (.goto (-48), 3) := gdX12_addEcho_71.2.2.2.2.2.1
theorem dX12_addEcho_51 : decode cX12_addEcho 51 = .ok (.goto 28, 3) := gdX12_addEcho_71.2.2.2.2.2.2
set_option maxHeartbeats 1000000 in
set_option maxRecDepth 100000 in
theorem r_addEcho (l : Launch) (D : va_G) (cy : Nat → ClassId) (m0 : Nat) (Mtape : Nat) (MnName : Nat) (MnStep : Nat) (MnArg : Nat) (MnMany : Nat) (Mstep : Nat) (Marg : Nat) (Mmany : Nat) (Mopen : Nat) (Mvalues : Nat) (MnHasForm : Nat) (MhasForm : Nat) (Masks : Nat) (MnLoud : Nat) (MnCliffAt : Nat) (MnSnow : Nat) (MnManAt : Nat) (MnVoice : Nat) (MnOn : Nat) (Mloud : Nat) (McliffAt : Nat) (MsnowTold : Nat) (MmanAt : Nat) (Mvoice : Nat) (Mon : Nat) (MnYes : Nat) (Myes : Nat) (Mnow : Nat) (Mcry : Nat) (Msnow : Nat) (Mecho : Nat) (Mwere : Nat) (Mlies : Nat) (Mspots : Nat) (Msteps : Nat) (MfromState : Nat) (MbyWord : Nat) (Mqueue : Nat) (MsoundCliff : Nat) (MsoundLong : Nat) (MsoundCame : Nat) (MsoundTold : Nat) (MsoundUntold : Nat) (Mstands : Nat) (Mtally : Nat) (MhasBox : Nat) (Mboxes : Nat) (Itaped : Nat) (Ifault : Nat) (IfaultPlace : Int32) (Iat : Nat) (Isize : Nat) (Isort : Int32) (Iplace : Int32) (Inumber : Int32) (Iword : Int64) (Gstep : Nat → Int32) (Garg : Nat → Int32) (Gmany : Nat → Int32) (Gvalues : Nat → Int32) (GhasForm : Nat → Int32) (Iform : Nat) (Iopens : Nat) (InUnits : Nat) (Iunits : Int32) (IownUnits : Nat) (Ideep : Nat) (Gasks : Nat → Int32) (Gloud : Nat → Int32) (GcliffAt : Nat → Int32) (InWords : Nat) (InCliffs : Nat) (InMen : Nat) (InStates : Nat) (InOns : Nat) (InWind : Int32) (InDraw : Int32) (Iwords : Nat) (Icliffs : Nat) (Imen : Nat) (Istates : Nat) (Ions : Int32) (IwindTold : Int32) (InHasWind : Int32) (InHasDraw : Int32) (Gcry : Nat → Int32) (Gsnow : Nat → Int32) (Gecho : Nat → Int32) (IcryMany : Nat) (IcallPlace : Int32) (IcallVoice : Int32) (Iwind : Int32) (Ichance : Int32) (IechoMany : Nat) (Iacts : Nat) (Iundone : Nat) (Ilain : Nat) (Isounds : Nat) (Itime : Int32) (IstandMany : Int32) (am : Nat → Nat) (AH : Nat → Nat → Nat) (j : Nat) (gtp : Itaped ≤ 1600) (gat : Iat ≤ Isize) (gsz : Isize ≤ 1600) (gfl : Ifault ≤ 5) (gfo : Iform ≤ 2) (gnw : InWords ≤ 8) (gnc : InCliffs ≤ 4) (gnm : InMen ≤ 4) (gns : InStates ≤ 6) (gw : Iwords ≤ 8) (gc9 : Icliffs ≤ 4) (gm : Imen ≤ 4) (gs : Istates ≤ 6) (gcm : IcryMany ≤ 10) (gem : IechoMany ≤ 20) (gau : Iacts + Iundone ≤ 40) (gla : Ilain ≤ 20) (gso : Isounds ≤ 30) (gop : Iopens ≤ 40) (gde : Ideep ≤ 8) (gou : IownUnits ≤ 31) (gnu : InUnits ≤ 61) (gno : InOns ≤ 30) (gfm : ∀ k9 : Nat, k9 < 3 → ¬ GhasForm k9 = 0 → 1 ≤ am k9) (gcry : rng Gcry 10 7) (gech : rng Gecho 20 7) (gal2 : allR Gstep Garg Gmany am AH) (hj : j < 4) (hec : IechoMany + IcryMany ≤ 20) : XMv l D (tyL cy) E0 yX12_addEcho cX12_addEcho 6 none (rmk 4 0 0) [.ref m0, .int (nI j)] [wO m0 12 [.ref Mtape, .int (nI Itaped), .int (nI Ifault), .int IfaultPlace, .int (nI Iat), .int (nI Isize), .int Isort, .int Iplace, .int Inumber, .long Iword, .ref MnName, .ref MnStep, .ref MnArg, .ref MnMany, .ref Mstep, .ref Marg, .ref Mmany, .ref Mopen, .ref Mvalues, .ref MnHasForm, .ref MhasForm, .int (nI Iform), .int (nI Iopens), .int (nI InUnits), .int Iunits, .int (nI IownUnits), .int (nI Ideep), .ref Masks, .ref MnLoud, .ref MnCliffAt, .ref MnSnow, .ref MnManAt, .ref MnVoice, .ref MnOn, .ref Mloud, .ref McliffAt, .ref MsnowTold, .ref MmanAt, .ref Mvoice, .ref Mon, .ref MnYes, .ref Myes, .int (nI InWords), .int (nI InCliffs), .int (nI InMen), .int (nI InStates), .int (nI InOns), .int InWind, .int InDraw, .int (nI Iwords), .int (nI Icliffs), .int (nI Imen), .int (nI Istates), .int Ions, .int IwindTold, .int InHasWind, .int InHasDraw, .ref Mnow, .ref Mcry, .ref Msnow, .ref Mecho, .int (nI IcryMany), .int IcallPlace, .int IcallVoice, .int Iwind, .int Ichance, .int (nI IechoMany), .ref Mwere, .int (nI Iacts), .int (nI Iundone), .ref Mlies, .int (nI Ilain), .ref Mspots, .ref Msteps, .ref MfromState, .ref MbyWord, .ref Mqueue, .ref MsoundCliff, .ref MsoundLong, .ref MsoundCame, .ref MsoundTold, .ref MsoundUntold, .int (nI Isounds), .int Itime, .ref Mstands, .int IstandMany, .ref Mtally, .ref MhasBox, .ref Mboxes], wI (cy 1) Mstep 960 (Gstep), wI (cy 1) Marg 960 (Garg), wI (cy 1) Mmany 3 (Gmany), wI (cy 1) Mvalues 64 (Gvalues), wI (cy 1) Masks 7 (Gasks), wI (cy 3) MhasForm 3 (GhasForm), wI (cy 1) McliffAt 4 (GcliffAt), wI (cy 1) Msnow 4 (Gsnow), wI (cy 1) Mloud 8 (Gloud), wI (cy 1) Mcry 10 (Gcry), wI (cy 1) Mecho 20 (Gecho)] (fun (u : (Nat → Int32) × (Nat → Int32) × (Nat → Int32) × Nat) => (u.2.2.2 ≤ 20) ∧ (rng u.2.2.1 20 7) ∧ (u.2.2.2 ≤ IechoMany + IcryMany) ∧ (exC Gecho IechoMany u.2.2.1 u.2.2.2 (ecS (vlM GhasForm Gstep Garg am 0 3) (vlM GhasForm Gstep Garg am 1 0) (vlM GhasForm Gstep Garg am 2 0) Gloud (ofR IcallPlace (GcliffAt j)) Iwind (Gsnow j) IcallVoice Ichance Gcry IcryMany))) (fun (u : (Nat → Int32) × (Nat → Int32) × (Nat → Int32) × Nat) => [wO m0 12 [.ref Mtape, .int (nI Itaped), .int (nI Ifault), .int IfaultPlace, .int (nI Iat), .int (nI Isize), .int Isort, .int Iplace, .int Inumber, .long Iword, .ref MnName, .ref MnStep, .ref MnArg, .ref MnMany, .ref Mstep, .ref Marg, .ref Mmany, .ref Mopen, .ref Mvalues, .ref MnHasForm, .ref MhasForm, .int (nI Iform), .int (nI Iopens), .int (nI InUnits), .int Iunits, .int (nI IownUnits), .int (nI Ideep), .ref Masks, .ref MnLoud, .ref MnCliffAt, .ref MnSnow, .ref MnManAt, .ref MnVoice, .ref MnOn, .ref Mloud, .ref McliffAt, .ref MsnowTold, .ref MmanAt, .ref Mvoice, .ref Mon, .ref MnYes, .ref Myes, .int (nI InWords), .int (nI InCliffs), .int (nI InMen), .int (nI InStates), .int (nI InOns), .int InWind, .int InDraw, .int (nI Iwords), .int (nI Icliffs), .int (nI Imen), .int (nI Istates), .int Ions, .int IwindTold, .int InHasWind, .int InHasDraw, .ref Mnow, .ref Mcry, .ref Msnow, .ref Mecho, .int (nI IcryMany), .int IcallPlace, .int IcallVoice, .int Iwind, .int Ichance, .int (nI u.2.2.2), .ref Mwere, .int (nI Iacts), .int (nI Iundone), .ref Mlies, .int (nI Ilain), .ref Mspots, .ref Msteps, .ref MfromState, .ref MbyWord, .ref Mqueue, .ref MsoundCliff, .ref MsoundLong, .ref MsoundCame, .ref MsoundTold, .ref MsoundUntold, .int (nI Isounds), .int Itime, .ref Mstands, .int IstandMany, .ref Mtally, .ref MhasBox, .ref Mboxes], wI (cy 1) Mstep 960 (Gstep), wI (cy 1) Marg 960 (Garg), wI (cy 1) Mmany 3 (Gmany), wI (cy 1) Mvalues 64 (u.1), wI (cy 1) Masks 7 (u.2.1), wI (cy 3) MhasForm 3 (GhasForm), wI (cy 1) McliffAt 4 (GcliffAt), wI (cy 1) Msnow 4 (Gsnow), wI (cy 1) Mloud 8 (Gloud), wI (cy 1) Mcry 10 (Gcry), wI (cy 1) Mecho 20 (u.2.2.1)]) := by
  refine XMv.start (by decide) (Nat.le_of_ble_eq_true rfl) ?_
  intro p e s m below meth c args A ls Q hat hQ
  obtain ⟨hx, hb, hr, hml, hown, hg, hlocks, hin, hK, hA, hP, hD, hS, hE, hl⟩ := hat
  have hown : s.vm.findClass RX12 = some m.cls := hown
  have hl : lv_has ls 6 [(0, .ref m0), (1, .int (nI j))] := hl
  refine lv_aload_n hx hb dX12_addEcho_0 rfl (lv_at hl 0 rfl) ?_
  refine va_get (D := D) (ci := 12) (v := .int (nI IechoMany)) (C := RX12) (T := TX12) (N := 89) hx hb hg i_X12 hown hK hP 0 rfl rfl 66 (by decide) (hg _ m_1479) (fun _ h9 => h9) rfl dX12_addEcho_1 ?_
  refine lv_istore_n (lv' := [(2, .int (nI IechoMany)), (0, .ref m0), (1, .int (nI j))]) hx hb dX12_addEcho_4 rfl hl (by decide) rfl (fun ls hl => ?_)
  refine lv_aload_n hx hb dX12_addEcho_5 rfl (lv_at hl 1 rfl) ?_
  refine va_get (D := D) (ci := 12) (v := .int (nI IcryMany)) (C := RX12) (T := TX12) (N := 89) hx hb hg i_X12 hown hK hP 0 rfl rfl 61 (by decide) (hg _ m_1474) (fun _ h9 => h9) rfl dX12_addEcho_6 ?_
  refine lv_aload_n hx hb dX12_addEcho_9 rfl (lv_at hl 1 rfl) ?_
  refine lv_aload_n hx hb dX12_addEcho_10 rfl (lv_at hl 1 rfl) ?_
  refine lv_iload_n hx hb dX12_addEcho_11 rfl (lv_at hl 2 rfl) ?_
  refine x_callVi (q := (RX12, TX12, 89)) (ci := 12) (q0 := 0) (wr := [wI (cy 1) Mstep 960 (Gstep), wI (cy 1) Marg 960 (Garg), wI (cy 1) Mmany 3 (Gmany), wI (cy 1) Mvalues 64 (Gvalues), wI (cy 1) Masks 7 (Gasks), wI (cy 3) MhasForm 3 (GhasForm), wI (cy 1) Msnow 4 (Gsnow), wI (cy 1) Mloud 8 (Gloud), wI (cy 1) Mcry 10 (Gcry), wI (cy 1) Mecho 20 (Gecho)]) (rest := [.ref m0, .int (nI IcryMany)]) ⟨hx, hb, hml, hown, hg, hl.1⟩ k_X12_474 (r_farOf l D cy m0 Mtape MnName MnStep MnArg MnMany Mstep Marg Mmany Mopen Mvalues MnHasForm MhasForm Masks MnLoud MnCliffAt MnSnow MnManAt MnVoice MnOn Mloud McliffAt MsnowTold MmanAt Mvoice Mon MnYes Myes Mnow Mcry Msnow Mecho Mwere Mlies Mspots Msteps MfromState MbyWord Mqueue MsoundCliff MsoundLong MsoundCame MsoundTold MsoundUntold Mstands Mtally MhasBox Mboxes Itaped Ifault IfaultPlace Iat Isize Isort Iplace Inumber Iword Iform Iopens InUnits Iunits IownUnits Ideep GcliffAt InWords InCliffs InMen InStates InOns InWind InDraw Iwords Icliffs Imen Istates Ions IwindTold InHasWind InHasDraw IcryMany IcallPlace IcallVoice Iwind Ichance IechoMany Iacts Iundone Ilain Isounds Itime IstandMany j (by first | assumption | omega) (by first | assumption | omega) (by first | assumption | omega) (by first | assumption | omega) (by first | assumption | omega) (by first | assumption | omega) (by first | assumption | omega) (by first | assumption | omega) (by first | assumption | omega) (by first | assumption | omega) (by first | assumption | omega) (by first | assumption | omega) (by first | assumption | omega) (by first | assumption | omega) (by first | assumption | omega) (by first | assumption | omega) (by first | assumption | omega) (by first | assumption | omega) (by first | assumption | omega) (by first | assumption | omega) (by first | assumption | omega) (by first | assumption | omega) (by first | assumption | omega) (by first | assumption | omega)) E0_blind hK hP hD hS hA [0, 7] [1, 2, 3, 4, 5, 6, 8, 9, 10, 11] ⟨rfl, rfl, by decide +kernel, by decide +kernel, by decide +kernel⟩ rfl rfl (fun _ _ _ => trivial) dX12_addEcho_12 rfl rfl (Nat.le_of_ble_eq_true rfl) ⟨Nat.le_of_ble_eq_true rfl, Nat.le_of_ble_eq_true rfl⟩ ⟨Nat.le_of_ble_eq_true rfl, Nat.le_of_ble_eq_true rfl⟩ (fun zr1 zu1 H locs hw1 hP9 hD9 hS9 => ?_)
  clear hP hD hS
  refine reW [wI (cy 1) Mstep 960 (Gstep), wI (cy 1) Marg 960 (Garg), wI (cy 1) Mmany 3 (Gmany), wI (cy 1) Mvalues 64 (Gvalues), wI (cy 1) Masks 7 (Gasks), wI (cy 3) MhasForm 3 (GhasForm), wI (cy 1) Msnow 4 (Gsnow), wI (cy 1) Mloud 8 (Gloud), wI (cy 1) Mcry 10 (Gcry), wI (cy 1) Mecho 20 (Gecho), wO m0 12 [.ref Mtape, .int (nI Itaped), .int (nI Ifault), .int IfaultPlace, .int (nI Iat), .int (nI Isize), .int Isort, .int Iplace, .int Inumber, .long Iword, .ref MnName, .ref MnStep, .ref MnArg, .ref MnMany, .ref Mstep, .ref Marg, .ref Mmany, .ref Mopen, .ref Mvalues, .ref MnHasForm, .ref MhasForm, .int (nI Iform), .int (nI Iopens), .int (nI InUnits), .int Iunits, .int (nI IownUnits), .int (nI Ideep), .ref Masks, .ref MnLoud, .ref MnCliffAt, .ref MnSnow, .ref MnManAt, .ref MnVoice, .ref MnOn, .ref Mloud, .ref McliffAt, .ref MsnowTold, .ref MmanAt, .ref Mvoice, .ref Mon, .ref MnYes, .ref Myes, .int (nI InWords), .int (nI InCliffs), .int (nI InMen), .int (nI InStates), .int (nI InOns), .int InWind, .int InDraw, .int (nI Iwords), .int (nI Icliffs), .int (nI Imen), .int (nI Istates), .int Ions, .int IwindTold, .int InHasWind, .int InHasDraw, .ref Mnow, .ref Mcry, .ref Msnow, .ref Mecho, .int (nI IcryMany), .int IcallPlace, .int IcallVoice, .int Iwind, .int Ichance, .int (nI IechoMany), .ref Mwere, .int (nI Iacts), .int (nI Iundone), .ref Mlies, .int (nI Ilain), .ref Mspots, .ref Msteps, .ref MfromState, .ref MbyWord, .ref Mqueue, .ref MsoundCliff, .ref MsoundLong, .ref MsoundCame, .ref MsoundTold, .ref MsoundUntold, .int (nI Isounds), .int Itime, .ref Mstands, .int IstandMany, .ref Mtally, .ref MhasBox, .ref Mboxes], wI (cy 1) McliffAt 4 (GcliffAt)] hP9 hD9 hS9 (fun hP hD hS => ?_)
  clear hP9 hD9 hS9
  refine W.widen (k := 0) (n := 0) (Nat.le_of_ble_eq_true rfl) (Nat.le_of_ble_eq_true rfl) ?_
  change (zr1 = ofR IcallPlace (GcliffAt j)) at hw1
  have f_2 := hw1
  refine lv_aload_n hx hb dX12_addEcho_15 rfl (lv_at hl 1 rfl) ?_
  refine va_get (D := D) (ci := 12) (v := .int Iwind) (C := RX12) (T := TX12) (N := 89) hx hb hg i_X12 hown hK hP 10 rfl rfl 64 (by decide) (hg _ m_1477) (fun _ h9 => h9) rfl dX12_addEcho_16 ?_
  refine lv_aload_n hx hb dX12_addEcho_19 rfl (lv_at hl 1 rfl) ?_
  refine va_get (D := D) (ci := 12) (v := .ref Msnow) (C := RX12) (T := TX12) (N := 89) hx hb hg i_X12 hown hK hP 10 rfl rfl 59 (by decide) (hg _ m_1472) (fun _ h9 => h9) rfl dX12_addEcho_20 ?_
  refine lv_iload_n hx hb dX12_addEcho_23 rfl (lv_at hl 2 rfl) ?_
  refine va_iald hx hb hK hP 6 1 rfl rfl (vp_in_nI (by omega) (by decide)) dX12_addEcho_24 ?_
  refine lv_topi (fun x_3 ex_3 => ?_)
  refine lv_aload_n hx hb dX12_addEcho_25 rfl (lv_at hl 1 rfl) ?_
  refine va_get (D := D) (ci := 12) (v := .int (nI IcryMany)) (C := RX12) (T := TX12) (N := 89) hx hb hg i_X12 hown hK hP 10 rfl rfl 61 (by decide) (hg _ m_1474) (fun _ h9 => h9) rfl dX12_addEcho_26 ?_
  refine x_callVi (q := (RX12, TX12, 89)) (ci := 12) (q0 := 0) (wr := [wI (cy 1) Msnow 4 (Gsnow), wI (cy 1) Mloud 8 (Gloud), wI (cy 1) Mcry 10 (Gcry), wI (cy 1) Mecho 20 (Gecho), wI (cy 1) McliffAt 4 (GcliffAt)]) (rest := [.int (nI IcryMany)]) ⟨hx, hb, hml, hown, hg, hl.1⟩ k_X12_480 (r_backOf l D cy m0 Mtape MnName MnStep MnArg MnMany Mstep Marg Mmany Mopen Mvalues MnHasForm MhasForm Masks MnLoud MnCliffAt MnSnow MnManAt MnVoice MnOn Mloud McliffAt MsnowTold MmanAt Mvoice Mon MnYes Myes Mnow Mcry Msnow Mecho Mwere Mlies Mspots Msteps MfromState MbyWord Mqueue MsoundCliff MsoundLong MsoundCame MsoundTold MsoundUntold Mstands Mtally MhasBox Mboxes Itaped Ifault IfaultPlace Iat Isize Isort Iplace Inumber Iword Gstep Garg Gmany Gvalues GhasForm Iform Iopens InUnits Iunits IownUnits Ideep Gasks InWords InCliffs InMen InStates InOns InWind InDraw Iwords Icliffs Imen Istates Ions IwindTold InHasWind InHasDraw IcryMany IcallPlace IcallVoice Iwind Ichance IechoMany Iacts Iundone Ilain Isounds Itime IstandMany am AH zr1 Iwind x_3 IcryMany (by first | assumption | omega) (by first | assumption | omega) (by first | assumption | omega) (by first | assumption | omega) (by first | assumption | omega) (by first | assumption | omega) (by first | assumption | omega) (by first | assumption | omega) (by first | assumption | omega) (by first | assumption | omega) (by first | assumption | omega) (by first | assumption | omega) (by first | assumption | omega) (by first | assumption | omega) (by first | assumption | omega) (by first | assumption | omega) (by first | assumption | omega) (by first | assumption | omega) (by first | assumption | omega) (by first | assumption | omega) (by first | assumption | omega) (by first | assumption | omega) (by first | assumption | omega) (gfm) (gal2) (by first | assumption | omega)) E0_blind hK hP hD hS hA [10, 0, 1, 2, 3, 4, 5] [6, 7, 8, 9, 11] ⟨rfl, rfl, by decide +kernel, by decide +kernel, by decide +kernel⟩ rfl rfl (fun _ _ _ => trivial) dX12_addEcho_29 rfl rfl (Nat.le_of_ble_eq_true rfl) ⟨Nat.le_of_ble_eq_true rfl, Nat.le_of_ble_eq_true rfl⟩ ⟨Nat.le_of_ble_eq_true rfl, Nat.le_of_ble_eq_true rfl⟩ (fun zr4 zu4 H locs hw4 hP9 hD9 hS9 => ?_)
  clear hP hD hS
  obtain ⟨Gvalues2_5, Gasks2_6, bk_7⟩ := zu4
  refine reW [wI (cy 1) Msnow 4 (Gsnow), wI (cy 1) Mloud 8 (Gloud), wI (cy 1) Mcry 10 (Gcry), wI (cy 1) Mecho 20 (Gecho), wI (cy 1) McliffAt 4 (GcliffAt), wO m0 12 [.ref Mtape, .int (nI Itaped), .int (nI Ifault), .int IfaultPlace, .int (nI Iat), .int (nI Isize), .int Isort, .int Iplace, .int Inumber, .long Iword, .ref MnName, .ref MnStep, .ref MnArg, .ref MnMany, .ref Mstep, .ref Marg, .ref Mmany, .ref Mopen, .ref Mvalues, .ref MnHasForm, .ref MhasForm, .int (nI Iform), .int (nI Iopens), .int (nI InUnits), .int Iunits, .int (nI IownUnits), .int (nI Ideep), .ref Masks, .ref MnLoud, .ref MnCliffAt, .ref MnSnow, .ref MnManAt, .ref MnVoice, .ref MnOn, .ref Mloud, .ref McliffAt, .ref MsnowTold, .ref MmanAt, .ref Mvoice, .ref Mon, .ref MnYes, .ref Myes, .int (nI InWords), .int (nI InCliffs), .int (nI InMen), .int (nI InStates), .int (nI InOns), .int InWind, .int InDraw, .int (nI Iwords), .int (nI Icliffs), .int (nI Imen), .int (nI Istates), .int Ions, .int IwindTold, .int InHasWind, .int InHasDraw, .ref Mnow, .ref Mcry, .ref Msnow, .ref Mecho, .int (nI IcryMany), .int IcallPlace, .int IcallVoice, .int Iwind, .int Ichance, .int (nI IechoMany), .ref Mwere, .int (nI Iacts), .int (nI Iundone), .ref Mlies, .int (nI Ilain), .ref Mspots, .ref Msteps, .ref MfromState, .ref MbyWord, .ref Mqueue, .ref MsoundCliff, .ref MsoundLong, .ref MsoundCame, .ref MsoundTold, .ref MsoundUntold, .int (nI Isounds), .int Itime, .ref Mstands, .int IstandMany, .ref Mtally, .ref MhasBox, .ref Mboxes], wI (cy 1) Mstep 960 (Gstep), wI (cy 1) Marg 960 (Garg), wI (cy 1) Mmany 3 (Gmany), wI (cy 1) Mvalues 64 (Gvalues2_5), wI (cy 1) Masks 7 (Gasks2_6), wI (cy 3) MhasForm 3 (GhasForm)] hP9 hD9 hS9 (fun hP hD hS => ?_)
  clear hP9 hD9 hS9
  refine W.widen (k := 0) (n := 0) (Nat.le_of_ble_eq_true rfl) (Nat.le_of_ble_eq_true rfl) ?_
  change (zr4 = nI bk_7) ∧ (bk_7 ≤ IcryMany) ∧ (bk_7 = clN (vlM GhasForm Gstep Garg am 0 3 (fk7 zr1 Iwind x_3 (nI IcryMany) 0 0 0)) IcryMany) at hw4
  obtain ⟨f_8, f_9, f_10⟩ := hw4
  subst f_8
  have hbk9 : bk_7 = bkS (vlM GhasForm Gstep Garg am 0 3) (ofR IcallPlace (GcliffAt j)) Iwind (Gsnow j) IcryMany := by have h8 := f_10; rw [f_2, ld_at (by omega) ex_3] at h8; exact h8
  refine lv_isub hx hb dX12_addEcho_32 ?_
  refine lv_topi (fun y_11 hy_11 => ?_)
  obtain rfl : y_11 = nI (IcryMany - bk_7) := hy_11.trans (pk_sub (a := IcryMany) (b := bk_7) (by omega))
  refine lv_istore_n (lv' := [(3, .int (nI (IcryMany - bk_7))), (2, .int (nI IechoMany)), (0, .ref m0), (1, .int (nI j))]) hx hb dX12_addEcho_33 rfl hl (by decide) rfl (fun ls hl => ?_)
  have loop12 : ∀ (zn : Nat) (k12 : Nat) (eq12 : Nat) (fa2_12 : Nat → Int32) (fa3_12 : Nat → Int32) (fa4_12 : Nat → Int32), (rng fa2_12 20 7) → (k12 ≤ IcryMany) → (IechoMany ≤ eq12) → (eq12 ≤ IechoMany + k12) → (exC Gecho IechoMany fa2_12 eq12 (sdL (coS (vlM GhasForm Gstep Garg am 0 3) (vlM GhasForm Gstep Garg am 1 0) Gloud (ofR IcallPlace (GcliffAt j)) Iwind (Gsnow j) IcallVoice Ichance IcryMany Gcry) Gcry (fun p9 => p9) k12)) → (((IcryMany - bk_7)) ≤ k12) → IcryMany - k12 + 1 ≤ zn → ∀ (H : Heap) (locs : List Loc), va_P D vwCl [wI (cy 1) Msnow 4 (Gsnow), wI (cy 1) Mloud 8 (Gloud), wI (cy 1) Mcry 10 (Gcry), wI (cy 1) Mecho 20 (fa2_12), wI (cy 1) McliffAt 4 (GcliffAt), wO m0 12 [.ref Mtape, .int (nI Itaped), .int (nI Ifault), .int IfaultPlace, .int (nI Iat), .int (nI Isize), .int Isort, .int Iplace, .int Inumber, .long Iword, .ref MnName, .ref MnStep, .ref MnArg, .ref MnMany, .ref Mstep, .ref Marg, .ref Mmany, .ref Mopen, .ref Mvalues, .ref MnHasForm, .ref MhasForm, .int (nI Iform), .int (nI Iopens), .int (nI InUnits), .int Iunits, .int (nI IownUnits), .int (nI Ideep), .ref Masks, .ref MnLoud, .ref MnCliffAt, .ref MnSnow, .ref MnManAt, .ref MnVoice, .ref MnOn, .ref Mloud, .ref McliffAt, .ref MsnowTold, .ref MmanAt, .ref Mvoice, .ref Mon, .ref MnYes, .ref Myes, .int (nI InWords), .int (nI InCliffs), .int (nI InMen), .int (nI InStates), .int (nI InOns), .int InWind, .int InDraw, .int (nI Iwords), .int (nI Icliffs), .int (nI Imen), .int (nI Istates), .int Ions, .int IwindTold, .int InHasWind, .int InHasDraw, .ref Mnow, .ref Mcry, .ref Msnow, .ref Mecho, .int (nI IcryMany), .int IcallPlace, .int IcallVoice, .int Iwind, .int Ichance, .int (nI eq12), .ref Mwere, .int (nI Iacts), .int (nI Iundone), .ref Mlies, .int (nI Ilain), .ref Mspots, .ref Msteps, .ref MfromState, .ref MbyWord, .ref Mqueue, .ref MsoundCliff, .ref MsoundLong, .ref MsoundCame, .ref MsoundTold, .ref MsoundUntold, .int (nI Isounds), .int Itime, .ref Mstands, .int IstandMany, .ref Mtally, .ref MhasBox, .ref Mboxes], wI (cy 1) Mstep 960 (Gstep), wI (cy 1) Marg 960 (Garg), wI (cy 1) Mmany 3 (Gmany), wI (cy 1) Mvalues 64 (fa4_12), wI (cy 1) Masks 7 (fa3_12), wI (cy 3) MhasForm 3 (GhasForm)] H → va_D A [wI (cy 1) Msnow 4 (Gsnow), wI (cy 1) Mloud 8 (Gloud), wI (cy 1) Mcry 10 (Gcry), wI (cy 1) Mecho 20 (fa2_12), wI (cy 1) McliffAt 4 (GcliffAt), wO m0 12 [.ref Mtape, .int (nI Itaped), .int (nI Ifault), .int IfaultPlace, .int (nI Iat), .int (nI Isize), .int Isort, .int Iplace, .int Inumber, .long Iword, .ref MnName, .ref MnStep, .ref MnArg, .ref MnMany, .ref Mstep, .ref Marg, .ref Mmany, .ref Mopen, .ref Mvalues, .ref MnHasForm, .ref MhasForm, .int (nI Iform), .int (nI Iopens), .int (nI InUnits), .int Iunits, .int (nI IownUnits), .int (nI Ideep), .ref Masks, .ref MnLoud, .ref MnCliffAt, .ref MnSnow, .ref MnManAt, .ref MnVoice, .ref MnOn, .ref Mloud, .ref McliffAt, .ref MsnowTold, .ref MmanAt, .ref Mvoice, .ref Mon, .ref MnYes, .ref Myes, .int (nI InWords), .int (nI InCliffs), .int (nI InMen), .int (nI InStates), .int (nI InOns), .int InWind, .int InDraw, .int (nI Iwords), .int (nI Icliffs), .int (nI Imen), .int (nI Istates), .int Ions, .int IwindTold, .int InHasWind, .int InHasDraw, .ref Mnow, .ref Mcry, .ref Msnow, .ref Mecho, .int (nI IcryMany), .int IcallPlace, .int IcallVoice, .int Iwind, .int Ichance, .int (nI eq12), .ref Mwere, .int (nI Iacts), .int (nI Iundone), .ref Mlies, .int (nI Ilain), .ref Mspots, .ref Msteps, .ref MfromState, .ref MbyWord, .ref Mqueue, .ref MsoundCliff, .ref MsoundLong, .ref MsoundCame, .ref MsoundTold, .ref MsoundUntold, .int (nI Isounds), .int Itime, .ref Mstands, .int IstandMany, .ref Mtally, .ref MhasBox, .ref Mboxes], wI (cy 1) Mstep 960 (Gstep), wI (cy 1) Marg 960 (Garg), wI (cy 1) Mmany 3 (Gmany), wI (cy 1) Mvalues 64 (fa4_12), wI (cy 1) Masks 7 (fa3_12), wI (cy 3) MhasForm 3 (GhasForm)] → va_S A s.heap H locs → ∀ ls : Array Slot, lv_has ls 6 [(3, .int (nI k12)), (2, .int (nI IechoMany)), (0, .ref m0), (1, .int (nI j))] → W p l e (rmk 4 0 0) s m args below meth c H locs 0 0 Q (F0 m 34 ls []) := by
    try clear hP hD hS
    intro zn
    induction zn with
    | zero => intro k12 eq12 fa2_12 fa3_12 fa4_12 _ _ _ _ _ _ hz; exact absurd hz (by omega)
    | succ zn ih12 =>
      intro k12 eq12 fa2_12 fa3_12 fa4_12 ha3_12 hf0_12 hf1_12 hf2_12 hf3_12 hf4_12 hmu12 H locs hP hD hS ls hl
      refine lv_iload_n hx hb dX12_addEcho_34 rfl (lv_at hl 0 rfl) ?_
      refine lv_aload_n hx hb dX12_addEcho_35 rfl (lv_at hl 2 rfl) ?_
      refine va_get (D := D) (ci := 12) (v := .int (nI IcryMany)) (C := RX12) (T := TX12) (N := 89) hx hb hg i_X12 hown hK hP 5 rfl rfl 61 (by decide) (hg _ m_1474) (fun _ h9 => h9) rfl dX12_addEcho_36 ?_
      refine lv_icmp_ge (tgt := 85) hx hb dX12_addEcho_39 (by decide) (fun c_13 => ?_) (fun c_13 => ?_)
      · have q_14 : IcryMany ≤ k12 := q_le (a := IcryMany) (b := k12) rfl rfl (by omega) (by omega) c_13
        refine lv_aload_n hx hb dX12_addEcho_85 rfl (lv_at hl 2 rfl) ?_
        refine lv_aload_n hx hb dX12_addEcho_86 rfl (lv_at hl 2 rfl) ?_
        have hfw9 : exC Gecho IechoMany fa2_12 eq12 (sdL (coS (vlM GhasForm Gstep Garg am 0 3) (vlM GhasForm Gstep Garg am 1 0) Gloud (ofR IcallPlace (GcliffAt j)) Iwind (Gsnow j) IcallVoice Ichance IcryMany Gcry) Gcry (fun p9 => p9) IcryMany) := by have h8 := hf3_12; rw [show k12 = IcryMany by omega] at h8; exact h8
        refine lv_iload_n hx hb dX12_addEcho_87 rfl (lv_at hl 3 rfl) ?_
        refine x_callVi (q := (RX12, TX12, 89)) (ci := 12) (q0 := 0) (wr := [wI (cy 1) Msnow 4 (Gsnow), wI (cy 1) Mloud 8 (Gloud), wI (cy 1) Mcry 10 (Gcry), wI (cy 1) Mecho 20 (fa2_12), wI (cy 1) Mstep 960 (Gstep), wI (cy 1) Marg 960 (Garg), wI (cy 1) Mmany 3 (Gmany), wI (cy 1) Mvalues 64 (fa4_12), wI (cy 1) Masks 7 (fa3_12), wI (cy 3) MhasForm 3 (GhasForm)]) (rest := [.ref m0]) ⟨hx, hb, hml, hown, hg, hl.1⟩ k_X12_474 (r_farOf l D cy m0 Mtape MnName MnStep MnArg MnMany Mstep Marg Mmany Mopen Mvalues MnHasForm MhasForm Masks MnLoud MnCliffAt MnSnow MnManAt MnVoice MnOn Mloud McliffAt MsnowTold MmanAt Mvoice Mon MnYes Myes Mnow Mcry Msnow Mecho Mwere Mlies Mspots Msteps MfromState MbyWord Mqueue MsoundCliff MsoundLong MsoundCame MsoundTold MsoundUntold Mstands Mtally MhasBox Mboxes Itaped Ifault IfaultPlace Iat Isize Isort Iplace Inumber Iword Iform Iopens InUnits Iunits IownUnits Ideep GcliffAt InWords InCliffs InMen InStates InOns InWind InDraw Iwords Icliffs Imen Istates Ions IwindTold InHasWind InHasDraw IcryMany IcallPlace IcallVoice Iwind Ichance eq12 Iacts Iundone Ilain Isounds Itime IstandMany j (by first | assumption | omega) (by first | assumption | omega) (by first | assumption | omega) (by first | assumption | omega) (by first | assumption | omega) (by first | assumption | omega) (by first | assumption | omega) (by first | assumption | omega) (by first | assumption | omega) (by first | assumption | omega) (by first | assumption | omega) (by first | assumption | omega) (by first | assumption | omega) (by first | assumption | omega) (by first | assumption | omega) (by first | assumption | omega) (by first | assumption | omega) (by first | assumption | omega) (by first | assumption | omega) (by first | assumption | omega) (by first | assumption | omega) (by first | assumption | omega) (by first | assumption | omega) (by first | assumption | omega)) E0_blind hK hP hD hS hA [5, 4] [0, 1, 2, 3, 6, 7, 8, 9, 10, 11] ⟨rfl, rfl, by decide +kernel, by decide +kernel, by decide +kernel⟩ rfl rfl (fun _ _ _ => trivial) dX12_addEcho_88 rfl rfl (Nat.le_of_ble_eq_true rfl) ⟨Nat.le_of_ble_eq_true rfl, Nat.le_of_ble_eq_true rfl⟩ ⟨Nat.le_of_ble_eq_true rfl, Nat.le_of_ble_eq_true rfl⟩ (fun zr15 zu15 H locs hw15 hP9 hD9 hS9 => ?_)
        clear hP hD hS
        refine reW [wI (cy 1) Msnow 4 (Gsnow), wI (cy 1) Mloud 8 (Gloud), wI (cy 1) Mcry 10 (Gcry), wI (cy 1) Mecho 20 (fa2_12), wI (cy 1) Mstep 960 (Gstep), wI (cy 1) Marg 960 (Garg), wI (cy 1) Mmany 3 (Gmany), wI (cy 1) Mvalues 64 (fa4_12), wI (cy 1) Masks 7 (fa3_12), wI (cy 3) MhasForm 3 (GhasForm), wO m0 12 [.ref Mtape, .int (nI Itaped), .int (nI Ifault), .int IfaultPlace, .int (nI Iat), .int (nI Isize), .int Isort, .int Iplace, .int Inumber, .long Iword, .ref MnName, .ref MnStep, .ref MnArg, .ref MnMany, .ref Mstep, .ref Marg, .ref Mmany, .ref Mopen, .ref Mvalues, .ref MnHasForm, .ref MhasForm, .int (nI Iform), .int (nI Iopens), .int (nI InUnits), .int Iunits, .int (nI IownUnits), .int (nI Ideep), .ref Masks, .ref MnLoud, .ref MnCliffAt, .ref MnSnow, .ref MnManAt, .ref MnVoice, .ref MnOn, .ref Mloud, .ref McliffAt, .ref MsnowTold, .ref MmanAt, .ref Mvoice, .ref Mon, .ref MnYes, .ref Myes, .int (nI InWords), .int (nI InCliffs), .int (nI InMen), .int (nI InStates), .int (nI InOns), .int InWind, .int InDraw, .int (nI Iwords), .int (nI Icliffs), .int (nI Imen), .int (nI Istates), .int Ions, .int IwindTold, .int InHasWind, .int InHasDraw, .ref Mnow, .ref Mcry, .ref Msnow, .ref Mecho, .int (nI IcryMany), .int IcallPlace, .int IcallVoice, .int Iwind, .int Ichance, .int (nI eq12), .ref Mwere, .int (nI Iacts), .int (nI Iundone), .ref Mlies, .int (nI Ilain), .ref Mspots, .ref Msteps, .ref MfromState, .ref MbyWord, .ref Mqueue, .ref MsoundCliff, .ref MsoundLong, .ref MsoundCame, .ref MsoundTold, .ref MsoundUntold, .int (nI Isounds), .int Itime, .ref Mstands, .int IstandMany, .ref Mtally, .ref MhasBox, .ref Mboxes], wI (cy 1) McliffAt 4 (GcliffAt)] hP9 hD9 hS9 (fun hP hD hS => ?_)
        clear hP9 hD9 hS9
        refine W.widen (k := 0) (n := 0) (Nat.le_of_ble_eq_true rfl) (Nat.le_of_ble_eq_true rfl) ?_
        change (zr15 = ofR IcallPlace (GcliffAt j)) at hw15
        have f_16 := hw15
        refine lv_aload_n hx hb dX12_addEcho_91 rfl (lv_at hl 2 rfl) ?_
        refine va_get (D := D) (ci := 12) (v := .int Iwind) (C := RX12) (T := TX12) (N := 89) hx hb hg i_X12 hown hK hP 10 rfl rfl 64 (by decide) (hg _ m_1477) (fun _ h9 => h9) rfl dX12_addEcho_92 ?_
        refine lv_aload_n hx hb dX12_addEcho_95 rfl (lv_at hl 2 rfl) ?_
        refine va_get (D := D) (ci := 12) (v := .ref Msnow) (C := RX12) (T := TX12) (N := 89) hx hb hg i_X12 hown hK hP 10 rfl rfl 59 (by decide) (hg _ m_1472) (fun _ h9 => h9) rfl dX12_addEcho_96 ?_
        refine lv_iload_n hx hb dX12_addEcho_99 rfl (lv_at hl 3 rfl) ?_
        refine va_iald hx hb hK hP 0 1 rfl rfl (vp_in_nI (by omega) (by decide)) dX12_addEcho_100 ?_
        refine lv_topi (fun x_17 ex_17 => ?_)
        refine lv_aload_n hx hb dX12_addEcho_101 rfl (lv_at hl 2 rfl) ?_
        refine va_get (D := D) (ci := 12) (v := .int (nI IcryMany)) (C := RX12) (T := TX12) (N := 89) hx hb hg i_X12 hown hK hP 10 rfl rfl 61 (by decide) (hg _ m_1474) (fun _ h9 => h9) rfl dX12_addEcho_102 ?_
        refine x_callVv (q := (RX12, TX12, 89)) (ci := 12) (q0 := 0) (wr := [wI (cy 1) Msnow 4 (Gsnow), wI (cy 1) Mloud 8 (Gloud), wI (cy 1) Mcry 10 (Gcry), wI (cy 1) Mecho 20 (fa2_12), wI (cy 1) Mstep 960 (Gstep), wI (cy 1) Marg 960 (Garg), wI (cy 1) Mmany 3 (Gmany), wI (cy 1) Mvalues 64 (fa4_12), wI (cy 3) MhasForm 3 (GhasForm), wI (cy 1) McliffAt 4 (GcliffAt)]) (rest := []) ⟨hx, hb, hml, hown, hg, hl.1⟩ k_X12_467 (r_askOf l D cy m0 Mtape MnName MnStep MnArg MnMany Mstep Marg Mmany Mopen Mvalues MnHasForm MhasForm Masks MnLoud MnCliffAt MnSnow MnManAt MnVoice MnOn Mloud McliffAt MsnowTold MmanAt Mvoice Mon MnYes Myes Mnow Mcry Msnow Mecho Mwere Mlies Mspots Msteps MfromState MbyWord Mqueue MsoundCliff MsoundLong MsoundCame MsoundTold MsoundUntold Mstands Mtally MhasBox Mboxes Itaped Ifault IfaultPlace Iat Isize Isort Iplace Inumber Iword Iform Iopens InUnits Iunits IownUnits Ideep fa3_12 InWords InCliffs InMen InStates InOns InWind InDraw Iwords Icliffs Imen Istates Ions IwindTold InHasWind InHasDraw IcryMany IcallPlace IcallVoice Iwind Ichance eq12 Iacts Iundone Ilain Isounds Itime IstandMany zr15 Iwind x_17 (nI IcryMany) (by first | assumption | omega) (by first | assumption | omega) (by first | assumption | omega) (by first | assumption | omega) (by first | assumption | omega) (by first | assumption | omega) (by first | assumption | omega) (by first | assumption | omega) (by first | assumption | omega) (by first | assumption | omega) (by first | assumption | omega) (by first | assumption | omega) (by first | assumption | omega) (by first | assumption | omega) (by first | assumption | omega) (by first | assumption | omega) (by first | assumption | omega) (by first | assumption | omega) (by first | assumption | omega) (by first | assumption | omega) (by first | assumption | omega) (by first | assumption | omega) (by first | assumption | omega)) E0_blind hK hP hD hS hA [10, 8] [0, 1, 2, 3, 4, 5, 6, 7, 9, 11] ⟨rfl, rfl, by decide +kernel, by decide +kernel, by decide +kernel⟩ rfl rfl (fun _ _ _ => trivial) dX12_addEcho_105 rfl rfl (Nat.le_of_ble_eq_true rfl) ⟨Nat.le_of_ble_eq_true rfl, Nat.le_of_ble_eq_true rfl⟩ ⟨Nat.le_of_ble_eq_true rfl, Nat.le_of_ble_eq_true rfl⟩ (fun zu18 H locs hw18 hP9 hD9 hS9 => ?_)
        clear hP hD hS
        obtain ⟨Gasks2_19, rfl⟩ : ∃ z, z = zu18 := ⟨_, rfl⟩
        refine reW [wI (cy 1) Msnow 4 (Gsnow), wI (cy 1) Mloud 8 (Gloud), wI (cy 1) Mcry 10 (Gcry), wI (cy 1) Mecho 20 (fa2_12), wI (cy 1) Mstep 960 (Gstep), wI (cy 1) Marg 960 (Garg), wI (cy 1) Mmany 3 (Gmany), wI (cy 1) Mvalues 64 (fa4_12), wI (cy 3) MhasForm 3 (GhasForm), wI (cy 1) McliffAt 4 (GcliffAt), wO m0 12 [.ref Mtape, .int (nI Itaped), .int (nI Ifault), .int IfaultPlace, .int (nI Iat), .int (nI Isize), .int Isort, .int Iplace, .int Inumber, .long Iword, .ref MnName, .ref MnStep, .ref MnArg, .ref MnMany, .ref Mstep, .ref Marg, .ref Mmany, .ref Mopen, .ref Mvalues, .ref MnHasForm, .ref MhasForm, .int (nI Iform), .int (nI Iopens), .int (nI InUnits), .int Iunits, .int (nI IownUnits), .int (nI Ideep), .ref Masks, .ref MnLoud, .ref MnCliffAt, .ref MnSnow, .ref MnManAt, .ref MnVoice, .ref MnOn, .ref Mloud, .ref McliffAt, .ref MsnowTold, .ref MmanAt, .ref Mvoice, .ref Mon, .ref MnYes, .ref Myes, .int (nI InWords), .int (nI InCliffs), .int (nI InMen), .int (nI InStates), .int (nI InOns), .int InWind, .int InDraw, .int (nI Iwords), .int (nI Icliffs), .int (nI Imen), .int (nI Istates), .int Ions, .int IwindTold, .int InHasWind, .int InHasDraw, .ref Mnow, .ref Mcry, .ref Msnow, .ref Mecho, .int (nI IcryMany), .int IcallPlace, .int IcallVoice, .int Iwind, .int Ichance, .int (nI eq12), .ref Mwere, .int (nI Iacts), .int (nI Iundone), .ref Mlies, .int (nI Ilain), .ref Mspots, .ref Msteps, .ref MfromState, .ref MbyWord, .ref Mqueue, .ref MsoundCliff, .ref MsoundLong, .ref MsoundCame, .ref MsoundTold, .ref MsoundUntold, .int (nI Isounds), .int Itime, .ref Mstands, .int IstandMany, .ref Mtally, .ref MhasBox, .ref Mboxes], wI (cy 1) Masks 7 (Gasks2_19)] hP9 hD9 hS9 (fun hP hD hS => ?_)
        clear hP9 hD9 hS9
        refine W.widen (k := 0) (n := 0) (Nat.le_of_ble_eq_true rfl) (Nat.le_of_ble_eq_true rfl) ?_
        change (∀ k9, k9 < 7 → Gasks2_19 k9 = fk7 zr15 Iwind x_17 (nI IcryMany) 0 0 0 k9) at hw18
        have f_20 := hw18
        refine lv_aload_n hx hb dX12_addEcho_108 rfl (lv_at hl 2 rfl) ?_
        refine va_get (D := D) (ci := 12) (v := .ref MhasForm) (C := RX12) (T := TX12) (N := 89) hx hb hg i_X12 hown hK hP 10 rfl rfl 20 (by decide) (hg _ m_1433) (fun _ h9 => h9) rfl dX12_addEcho_109 ?_
        refine lv_iconst (v := 2) hx hb dX12_addEcho_112 (by decide) ?_
        refine va_zald hx hb hK hP 8 3 rfl rfl (by unfold vp_in; decide) dX12_addEcho_113 ?_
        refine lv_topi (fun x_21 ex_21 => ?_)
        refine lv_if_eq (tgt := 125) hx hb dX12_addEcho_114 (by decide) (fun c_114 => ?_) (fun c_114 => ?_)
        · exact x_vret hQ hx hb hr hlocks hK hP hD hS dX12_addEcho_125 (fa4_12, Gasks2_19, fa2_12, eq12) (⟨(show eq12 ≤ 20 from by first | assumption | omega), ha3_12, (show eq12 ≤ IechoMany + IcryMany from by first | assumption | omega), (show exC Gecho IechoMany fa2_12 eq12 (ecS (vlM GhasForm Gstep Garg am 0 3) (vlM GhasForm Gstep Garg am 1 0) (vlM GhasForm Gstep Garg am 2 0) Gloud (ofR IcallPlace (GcliffAt j)) Iwind (Gsnow j) IcallVoice Ichance Gcry IcryMany) from exC_eq hfw9 (ecS_f (tu_zero (fun ff => (vlM_0 ((ldk (by decide) ex_21).symm.trans c_114)).symm))).symm)⟩) [10, 4, 5, 6, 7, 11, 8, 9, 0, 1, 2, 3] (by decide +kernel) rfl (Nat.le_of_ble_eq_true rfl) (Nat.le_of_ble_eq_true rfl)
        · refine lv_aload_n hx hb dX12_addEcho_117 rfl (lv_at hl 2 rfl) ?_
          refine lv_iconst (v := 2) hx hb dX12_addEcho_118 (by decide) ?_
          refine x_callVi (q := (RX12, TX12, 89)) (ci := 12) (q0 := 0) (wr := [wI (cy 1) Msnow 4 (Gsnow), wI (cy 1) Mloud 8 (Gloud), wI (cy 1) Mcry 10 (Gcry), wI (cy 1) Mecho 20 (fa2_12), wI (cy 3) MhasForm 3 (GhasForm), wI (cy 1) McliffAt 4 (GcliffAt)]) (rest := []) ⟨hx, hb, hml, hown, hg, hl.1⟩ k_X12_471 (r_worked l D cy m0 Mtape MnName MnStep MnArg MnMany Mstep Marg Mmany Mopen Mvalues MnHasForm MhasForm Masks MnLoud MnCliffAt MnSnow MnManAt MnVoice MnOn Mloud McliffAt MsnowTold MmanAt Mvoice Mon MnYes Myes Mnow Mcry Msnow Mecho Mwere Mlies Mspots Msteps MfromState MbyWord Mqueue MsoundCliff MsoundLong MsoundCame MsoundTold MsoundUntold Mstands Mtally MhasBox Mboxes Itaped Ifault IfaultPlace Iat Isize Isort Iplace Inumber Iword Gstep Garg Gmany fa4_12 Iform Iopens InUnits Iunits IownUnits Ideep Gasks2_19 InWords InCliffs InMen InStates InOns InWind InDraw Iwords Icliffs Imen Istates Ions IwindTold InHasWind InHasDraw IcryMany IcallPlace IcallVoice Iwind Ichance eq12 Iacts Iundone Ilain Isounds Itime IstandMany am AH 2 (by first | assumption | omega) (by first | assumption | omega) (by first | assumption | omega) (by first | assumption | omega) (by first | assumption | omega) (by first | assumption | omega) (by first | assumption | omega) (by first | assumption | omega) (by first | assumption | omega) (by first | assumption | omega) (by first | assumption | omega) (by first | assumption | omega) (by first | assumption | omega) (by first | assumption | omega) (by first | assumption | omega) (by first | assumption | omega) (by first | assumption | omega) (by first | assumption | omega) (by first | assumption | omega) (by first | assumption | omega) (by first | assumption | omega) (by first | assumption | omega) (by first | assumption | omega) (gal2) (by first | assumption | omega)) E0_blind hK hP hD hS hA [10, 4, 5, 6, 7, 11] [0, 1, 2, 3, 8, 9] ⟨rfl, rfl, by decide +kernel, by decide +kernel, by decide +kernel⟩ rfl rfl (fun _ _ _ => trivial) dX12_addEcho_119 rfl rfl (Nat.le_of_ble_eq_true rfl) ⟨Nat.le_of_ble_eq_true rfl, Nat.le_of_ble_eq_true rfl⟩ ⟨Nat.le_of_ble_eq_true rfl, Nat.le_of_ble_eq_true rfl⟩ (fun zr22 zu22 H locs hw22 hP9 hD9 hS9 => ?_)
          clear hP hD hS
          obtain ⟨Gvalues2_23, rfl⟩ : ∃ z, z = zu22 := ⟨_, rfl⟩
          refine reW [wI (cy 1) Msnow 4 (Gsnow), wI (cy 1) Mloud 8 (Gloud), wI (cy 1) Mcry 10 (Gcry), wI (cy 1) Mecho 20 (fa2_12), wI (cy 3) MhasForm 3 (GhasForm), wI (cy 1) McliffAt 4 (GcliffAt), wO m0 12 [.ref Mtape, .int (nI Itaped), .int (nI Ifault), .int IfaultPlace, .int (nI Iat), .int (nI Isize), .int Isort, .int Iplace, .int Inumber, .long Iword, .ref MnName, .ref MnStep, .ref MnArg, .ref MnMany, .ref Mstep, .ref Marg, .ref Mmany, .ref Mopen, .ref Mvalues, .ref MnHasForm, .ref MhasForm, .int (nI Iform), .int (nI Iopens), .int (nI InUnits), .int Iunits, .int (nI IownUnits), .int (nI Ideep), .ref Masks, .ref MnLoud, .ref MnCliffAt, .ref MnSnow, .ref MnManAt, .ref MnVoice, .ref MnOn, .ref Mloud, .ref McliffAt, .ref MsnowTold, .ref MmanAt, .ref Mvoice, .ref Mon, .ref MnYes, .ref Myes, .int (nI InWords), .int (nI InCliffs), .int (nI InMen), .int (nI InStates), .int (nI InOns), .int InWind, .int InDraw, .int (nI Iwords), .int (nI Icliffs), .int (nI Imen), .int (nI Istates), .int Ions, .int IwindTold, .int InHasWind, .int InHasDraw, .ref Mnow, .ref Mcry, .ref Msnow, .ref Mecho, .int (nI IcryMany), .int IcallPlace, .int IcallVoice, .int Iwind, .int Ichance, .int (nI eq12), .ref Mwere, .int (nI Iacts), .int (nI Iundone), .ref Mlies, .int (nI Ilain), .ref Mspots, .ref Msteps, .ref MfromState, .ref MbyWord, .ref Mqueue, .ref MsoundCliff, .ref MsoundLong, .ref MsoundCame, .ref MsoundTold, .ref MsoundUntold, .int (nI Isounds), .int Itime, .ref Mstands, .int IstandMany, .ref Mtally, .ref MhasBox, .ref Mboxes], wI (cy 1) Mstep 960 (Gstep), wI (cy 1) Marg 960 (Garg), wI (cy 1) Mmany 3 (Gmany), wI (cy 1) Mvalues 64 (Gvalues2_23), wI (cy 1) Masks 7 (Gasks2_19)] hP9 hD9 hS9 (fun hP hD hS => ?_)
          clear hP9 hD9 hS9
          refine W.widen (k := 0) (n := 0) (Nat.le_of_ble_eq_true rfl) (Nat.le_of_ble_eq_true rfl) ?_
          change (1 ≤ am 2 → zr22 = (evM Gstep Garg Gasks2_19 (320 * 2) (am 2)).getLastD 0) at hw22
          have f_24 := hw22
          refine lv_if_ne (tgt := 126) hx hb dX12_addEcho_122 (by decide) (fun c_122 => ?_) (fun c_122 => ?_)
          · refine lv_iload_n hx hb dX12_addEcho_126 rfl (lv_at hl 1 rfl) ?_
            refine lv_istore_n (lv' := [(3, .int (nI IechoMany)), (2, .int (nI IechoMany)), (0, .ref m0), (1, .int (nI j))]) hx hb dX12_addEcho_127 rfl hl (by decide) rfl (fun ls hl => ?_)
            refine lv_aload_n hx hb dX12_addEcho_128 rfl (lv_at hl 2 rfl) ?_
            refine va_get (D := D) (ci := 12) (v := .int (nI eq12)) (C := RX12) (T := TX12) (N := 89) hx hb hg i_X12 hown hK hP 6 rfl rfl 66 (by decide) (hg _ m_1479) (fun _ h9 => h9) rfl dX12_addEcho_129 ?_
            refine lv_iconst (v := 1) hx hb dX12_addEcho_132 (by decide) ?_
            refine lv_isub hx hb dX12_addEcho_133 ?_
            refine lv_topi (fun x_25 ex_25 => ?_)
            rcases Nat.eq_zero_or_pos eq12 with hem0 | hem0
            · obtain rfl : x_25 = -1 := ex_25.trans (by rw [hem0]; decide)
              refine lv_istore (lv' := [(4, .int (-1)), (3, .int (nI IechoMany)), (2, .int (nI IechoMany)), (0, .ref m0), (1, .int (nI j))]) hx hb dX12_addEcho_134 hl (by decide) rfl (fun ls hl => ?_)
              refine lv_iload_n hx hb dX12_addEcho_136 rfl (lv_at hl 1 rfl) ?_
              refine lv_iload hx hb dX12_addEcho_137 (lv_at hl 0 rfl) ?_
              refine lv_icmp_ge (tgt := 181) hx hb dX12_addEcho_139 (by decide) (fun _ => ?_) (fun h => absurd (neg_le (by omega) (by decide)) h)
              exact x_vret hQ hx hb hr hlocks hK hP hD hS dX12_addEcho_181 (Gvalues2_23, Gasks2_19, fa2_12, eq12) (⟨(show eq12 ≤ 20 from by first | assumption | omega), ha3_12, (show eq12 ≤ IechoMany + IcryMany from by first | assumption | omega), (show exC Gecho IechoMany fa2_12 eq12 (ecS (vlM GhasForm Gstep Garg am 0 3) (vlM GhasForm Gstep Garg am 1 0) (vlM GhasForm Gstep Garg am 2 0) Gloud (ofR IcallPlace (GcliffAt j)) Iwind (Gsnow j) IcallVoice Ichance Gcry IcryMany) from exC_eq (exC_0r hfw9 (by omega)) (ecS_t (tu_1 (vlM_1 ((fun h9 => c_114 ((ldk (by decide) ex_21).trans h9))) (f_24 (gfm 2 (by decide) ((fun h9 => c_114 ((ldk (by decide) ex_21).trans h9)))))) (vlM_cg gal2 (by decide) (by intro k9 h9; rw [f_20 k9 h9, f_16, ld_at (by omega) ex_17])) c_122)).symm)⟩) [6, 7, 8, 9, 10, 11, 4, 5, 0, 1, 2, 3] (by decide +kernel) rfl (Nat.le_of_ble_eq_true rfl) (Nat.le_of_ble_eq_true rfl)
            · obtain rfl : x_25 = nI (eq12 - 1) := ex_25.trans (pk_sub (b := 1) hem0)
              refine lv_istore (lv' := [(4, .int (nI (eq12 - 1))), (3, .int (nI IechoMany)), (2, .int (nI IechoMany)), (0, .ref m0), (1, .int (nI j))]) hx hb dX12_addEcho_134 hl (by decide) rfl (fun ls hl => ?_)
              have loop26 : ∀ (zn : Nat) (a26 : Nat) (b26 : Nat) (fa2_26 : Nat → Int32), (rng fa2_26 20 7) → (a26 ≤ 20) → (b26 ≤ 19) → (IechoMany ≤ a26) → (rvT Gecho IechoMany eq12 fa2_26 (sdL (coS (vlM GhasForm Gstep Garg am 0 3) (vlM GhasForm Gstep Garg am 1 0) Gloud (ofR IcallPlace (GcliffAt j)) Iwind (Gsnow j) IcallVoice Ichance IcryMany Gcry) Gcry (fun p9 => p9) IcryMany) (a26 - IechoMany)) → (b26 + (a26 - IechoMany) + 1 = eq12) → 20 - a26 + 1 ≤ zn → ∀ (H : Heap) (locs : List Loc), va_P D vwCl [wI (cy 1) Msnow 4 (Gsnow), wI (cy 1) Mloud 8 (Gloud), wI (cy 1) Mcry 10 (Gcry), wI (cy 1) Mecho 20 (fa2_26), wI (cy 3) MhasForm 3 (GhasForm), wI (cy 1) McliffAt 4 (GcliffAt), wO m0 12 [.ref Mtape, .int (nI Itaped), .int (nI Ifault), .int IfaultPlace, .int (nI Iat), .int (nI Isize), .int Isort, .int Iplace, .int Inumber, .long Iword, .ref MnName, .ref MnStep, .ref MnArg, .ref MnMany, .ref Mstep, .ref Marg, .ref Mmany, .ref Mopen, .ref Mvalues, .ref MnHasForm, .ref MhasForm, .int (nI Iform), .int (nI Iopens), .int (nI InUnits), .int Iunits, .int (nI IownUnits), .int (nI Ideep), .ref Masks, .ref MnLoud, .ref MnCliffAt, .ref MnSnow, .ref MnManAt, .ref MnVoice, .ref MnOn, .ref Mloud, .ref McliffAt, .ref MsnowTold, .ref MmanAt, .ref Mvoice, .ref Mon, .ref MnYes, .ref Myes, .int (nI InWords), .int (nI InCliffs), .int (nI InMen), .int (nI InStates), .int (nI InOns), .int InWind, .int InDraw, .int (nI Iwords), .int (nI Icliffs), .int (nI Imen), .int (nI Istates), .int Ions, .int IwindTold, .int InHasWind, .int InHasDraw, .ref Mnow, .ref Mcry, .ref Msnow, .ref Mecho, .int (nI IcryMany), .int IcallPlace, .int IcallVoice, .int Iwind, .int Ichance, .int (nI eq12), .ref Mwere, .int (nI Iacts), .int (nI Iundone), .ref Mlies, .int (nI Ilain), .ref Mspots, .ref Msteps, .ref MfromState, .ref MbyWord, .ref Mqueue, .ref MsoundCliff, .ref MsoundLong, .ref MsoundCame, .ref MsoundTold, .ref MsoundUntold, .int (nI Isounds), .int Itime, .ref Mstands, .int IstandMany, .ref Mtally, .ref MhasBox, .ref Mboxes], wI (cy 1) Mstep 960 (Gstep), wI (cy 1) Marg 960 (Garg), wI (cy 1) Mmany 3 (Gmany), wI (cy 1) Mvalues 64 (Gvalues2_23), wI (cy 1) Masks 7 (Gasks2_19)] H → va_D A [wI (cy 1) Msnow 4 (Gsnow), wI (cy 1) Mloud 8 (Gloud), wI (cy 1) Mcry 10 (Gcry), wI (cy 1) Mecho 20 (fa2_26), wI (cy 3) MhasForm 3 (GhasForm), wI (cy 1) McliffAt 4 (GcliffAt), wO m0 12 [.ref Mtape, .int (nI Itaped), .int (nI Ifault), .int IfaultPlace, .int (nI Iat), .int (nI Isize), .int Isort, .int Iplace, .int Inumber, .long Iword, .ref MnName, .ref MnStep, .ref MnArg, .ref MnMany, .ref Mstep, .ref Marg, .ref Mmany, .ref Mopen, .ref Mvalues, .ref MnHasForm, .ref MhasForm, .int (nI Iform), .int (nI Iopens), .int (nI InUnits), .int Iunits, .int (nI IownUnits), .int (nI Ideep), .ref Masks, .ref MnLoud, .ref MnCliffAt, .ref MnSnow, .ref MnManAt, .ref MnVoice, .ref MnOn, .ref Mloud, .ref McliffAt, .ref MsnowTold, .ref MmanAt, .ref Mvoice, .ref Mon, .ref MnYes, .ref Myes, .int (nI InWords), .int (nI InCliffs), .int (nI InMen), .int (nI InStates), .int (nI InOns), .int InWind, .int InDraw, .int (nI Iwords), .int (nI Icliffs), .int (nI Imen), .int (nI Istates), .int Ions, .int IwindTold, .int InHasWind, .int InHasDraw, .ref Mnow, .ref Mcry, .ref Msnow, .ref Mecho, .int (nI IcryMany), .int IcallPlace, .int IcallVoice, .int Iwind, .int Ichance, .int (nI eq12), .ref Mwere, .int (nI Iacts), .int (nI Iundone), .ref Mlies, .int (nI Ilain), .ref Mspots, .ref Msteps, .ref MfromState, .ref MbyWord, .ref Mqueue, .ref MsoundCliff, .ref MsoundLong, .ref MsoundCame, .ref MsoundTold, .ref MsoundUntold, .int (nI Isounds), .int Itime, .ref Mstands, .int IstandMany, .ref Mtally, .ref MhasBox, .ref Mboxes], wI (cy 1) Mstep 960 (Gstep), wI (cy 1) Marg 960 (Garg), wI (cy 1) Mmany 3 (Gmany), wI (cy 1) Mvalues 64 (Gvalues2_23), wI (cy 1) Masks 7 (Gasks2_19)] → va_S A s.heap H locs → ∀ ls : Array Slot, lv_has ls 6 [(4, .int (nI b26)), (3, .int (nI a26)), (2, .int (nI IechoMany)), (0, .ref m0), (1, .int (nI j))] → W p l e (rmk 4 0 0) s m args below meth c H locs 0 0 Q (F0 m 136 ls []) := by
                try clear hP hD hS
                intro zn
                induction zn with
                | zero => intro a26 b26 fa2_26 _ _ _ _ _ _ hz; exact absurd hz (by omega)
                | succ zn ih26 =>
                  intro a26 b26 fa2_26 ha3_26 hf0_26 hf1_26 hf2_26 hf3_26 hf4_26 hmu26 H locs hP hD hS ls hl
                  refine lv_iload_n hx hb dX12_addEcho_136 rfl (lv_at hl 1 rfl) ?_
                  refine lv_iload hx hb dX12_addEcho_137 (lv_at hl 0 rfl) ?_
                  refine lv_icmp_ge (tgt := 181) hx hb dX12_addEcho_139 (by decide) (fun c_27 => ?_) (fun c_27 => ?_)
                  · have q_28 : b26 ≤ a26 := q_le (a := b26) (b := a26) rfl rfl (by omega) (by omega) c_27
                    exact x_vret hQ hx hb hr hlocks hK hP hD hS dX12_addEcho_181 (Gvalues2_23, Gasks2_19, fa2_26, eq12) (⟨(show eq12 ≤ 20 from by first | assumption | omega), ha3_26, (show eq12 ≤ IechoMany + IcryMany from by first | assumption | omega), (show exC Gecho IechoMany fa2_26 eq12 (ecS (vlM GhasForm Gstep Garg am 0 3) (vlM GhasForm Gstep Garg am 1 0) (vlM GhasForm Gstep Garg am 2 0) Gloud (ofR IcallPlace (GcliffAt j)) Iwind (Gsnow j) IcallVoice Ichance Gcry IcryMany) from exC_eq (rv_end hf3_26 (by have h8 := hf3_26.1; omega)) (ecS_t (tu_1 (vlM_1 ((fun h9 => c_114 ((ldk (by decide) ex_21).trans h9))) (f_24 (gfm 2 (by decide) ((fun h9 => c_114 ((ldk (by decide) ex_21).trans h9)))))) (vlM_cg gal2 (by decide) (by intro k9 h9; rw [f_20 k9 h9, f_16, ld_at (by omega) ex_17])) c_122)).symm)⟩) [6, 7, 8, 9, 10, 11, 4, 5, 0, 1, 2, 3] (by decide +kernel) rfl (Nat.le_of_ble_eq_true rfl) (Nat.le_of_ble_eq_true rfl)
                  · have q_28 : a26 < b26 := q_nle (a := b26) (b := a26) rfl rfl (by omega) (by omega) c_27
                    refine lv_aload_n hx hb dX12_addEcho_142 rfl (lv_at hl 3 rfl) ?_
                    refine va_get (D := D) (ci := 12) (v := .ref Mecho) (C := RX12) (T := TX12) (N := 89) hx hb hg i_X12 hown hK hP 6 rfl rfl 60 (by decide) (hg _ m_1473) (fun _ h9 => h9) rfl dX12_addEcho_143 ?_
                    refine lv_iload_n hx hb dX12_addEcho_146 rfl (lv_at hl 1 rfl) ?_
                    refine va_iald hx hb hK hP 3 1 rfl rfl (vp_in_nI (by omega) (by decide)) dX12_addEcho_147 ?_
                    obtain ⟨j_29, hj_29, ej_29⟩ := rng_at ha3_26 (i := a26) (by omega) (by decide)
                    refine lv_topi (fun y_30 hy_30 => ?_)
                    obtain rfl : y_30 = nI j_29 := hy_30.trans ej_29
                    refine lv_istore (lv' := [(5, .int (nI j_29)), (4, .int (nI b26)), (3, .int (nI a26)), (2, .int (nI IechoMany)), (0, .ref m0), (1, .int (nI j))]) hx hb dX12_addEcho_148 hl (by decide) rfl (fun ls hl => ?_)
                    refine lv_aload_n hx hb dX12_addEcho_150 rfl (lv_at hl 4 rfl) ?_
                    refine va_get (D := D) (ci := 12) (v := .ref Mecho) (C := RX12) (T := TX12) (N := 89) hx hb hg i_X12 hown hK hP 6 rfl rfl 60 (by decide) (hg _ m_1473) (fun _ h9 => h9) rfl dX12_addEcho_151 ?_
                    refine lv_iload_n hx hb dX12_addEcho_154 rfl (lv_at hl 2 rfl) ?_
                    refine lv_aload_n hx hb dX12_addEcho_155 rfl (lv_at hl 4 rfl) ?_
                    refine va_get (D := D) (ci := 12) (v := .ref Mecho) (C := RX12) (T := TX12) (N := 89) hx hb hg i_X12 hown hK hP 6 rfl rfl 60 (by decide) (hg _ m_1473) (fun _ h9 => h9) rfl dX12_addEcho_156 ?_
                    refine lv_iload hx hb dX12_addEcho_159 (lv_at hl 1 rfl) ?_
                    refine va_iald hx hb hK hP 3 1 rfl rfl (vp_in_nI (by omega) (by decide)) dX12_addEcho_161 ?_
                    obtain ⟨j_31, hj_31, ej_31⟩ := rng_at ha3_26 (i := b26) (by omega) (by decide)
                    refine lv_topi (fun y_32 hy_32 => ?_)
                    obtain rfl : y_32 = nI j_31 := hy_32.trans ej_31
                    refine va_iast hx hb hK hP hD hS 3 1 rfl rfl (vp_in_nI (by omega) (by decide)) dX12_addEcho_162 (fun H locs hP9 hD9 hS9 => ?_)
                    clear hP hD hS
                    have hP := hP9
                    have hD := hD9
                    have hS := hS9
                    clear hP9 hD9 hS9
                    obtain ⟨g_33, eg_33⟩ : ∃ y, upd fa2_26 (nI a26 : Int32).toNatClampNeg (nI j_31) = y := ⟨_, rfl⟩
                    rw [eg_33] at hP hD
                    have hr_34 : rng g_33 20 7 := eg_33 ▸ rng_put ha3_26 (j := j_31) (by omega)
                    replace hP : va_P D vwCl [wI (cy 1) Msnow 4 (Gsnow), wI (cy 1) Mloud 8 (Gloud), wI (cy 1) Mcry 10 (Gcry), wI (cy 1) Mecho 20 (g_33), wI (cy 3) MhasForm 3 (GhasForm), wI (cy 1) McliffAt 4 (GcliffAt), wO m0 12 [.ref Mtape, .int (nI Itaped), .int (nI Ifault), .int IfaultPlace, .int (nI Iat), .int (nI Isize), .int Isort, .int Iplace, .int Inumber, .long Iword, .ref MnName, .ref MnStep, .ref MnArg, .ref MnMany, .ref Mstep, .ref Marg, .ref Mmany, .ref Mopen, .ref Mvalues, .ref MnHasForm, .ref MhasForm, .int (nI Iform), .int (nI Iopens), .int (nI InUnits), .int Iunits, .int (nI IownUnits), .int (nI Ideep), .ref Masks, .ref MnLoud, .ref MnCliffAt, .ref MnSnow, .ref MnManAt, .ref MnVoice, .ref MnOn, .ref Mloud, .ref McliffAt, .ref MsnowTold, .ref MmanAt, .ref Mvoice, .ref Mon, .ref MnYes, .ref Myes, .int (nI InWords), .int (nI InCliffs), .int (nI InMen), .int (nI InStates), .int (nI InOns), .int InWind, .int InDraw, .int (nI Iwords), .int (nI Icliffs), .int (nI Imen), .int (nI Istates), .int Ions, .int IwindTold, .int InHasWind, .int InHasDraw, .ref Mnow, .ref Mcry, .ref Msnow, .ref Mecho, .int (nI IcryMany), .int IcallPlace, .int IcallVoice, .int Iwind, .int Ichance, .int (nI eq12), .ref Mwere, .int (nI Iacts), .int (nI Iundone), .ref Mlies, .int (nI Ilain), .ref Mspots, .ref Msteps, .ref MfromState, .ref MbyWord, .ref Mqueue, .ref MsoundCliff, .ref MsoundLong, .ref MsoundCame, .ref MsoundTold, .ref MsoundUntold, .int (nI Isounds), .int Itime, .ref Mstands, .int IstandMany, .ref Mtally, .ref MhasBox, .ref Mboxes], wI (cy 1) Mstep 960 (Gstep), wI (cy 1) Marg 960 (Garg), wI (cy 1) Mmany 3 (Gmany), wI (cy 1) Mvalues 64 (Gvalues2_23), wI (cy 1) Masks 7 (Gasks2_19)] H := hP
                    replace hD : va_D A [wI (cy 1) Msnow 4 (Gsnow), wI (cy 1) Mloud 8 (Gloud), wI (cy 1) Mcry 10 (Gcry), wI (cy 1) Mecho 20 (g_33), wI (cy 3) MhasForm 3 (GhasForm), wI (cy 1) McliffAt 4 (GcliffAt), wO m0 12 [.ref Mtape, .int (nI Itaped), .int (nI Ifault), .int IfaultPlace, .int (nI Iat), .int (nI Isize), .int Isort, .int Iplace, .int Inumber, .long Iword, .ref MnName, .ref MnStep, .ref MnArg, .ref MnMany, .ref Mstep, .ref Marg, .ref Mmany, .ref Mopen, .ref Mvalues, .ref MnHasForm, .ref MhasForm, .int (nI Iform), .int (nI Iopens), .int (nI InUnits), .int Iunits, .int (nI IownUnits), .int (nI Ideep), .ref Masks, .ref MnLoud, .ref MnCliffAt, .ref MnSnow, .ref MnManAt, .ref MnVoice, .ref MnOn, .ref Mloud, .ref McliffAt, .ref MsnowTold, .ref MmanAt, .ref Mvoice, .ref Mon, .ref MnYes, .ref Myes, .int (nI InWords), .int (nI InCliffs), .int (nI InMen), .int (nI InStates), .int (nI InOns), .int InWind, .int InDraw, .int (nI Iwords), .int (nI Icliffs), .int (nI Imen), .int (nI Istates), .int Ions, .int IwindTold, .int InHasWind, .int InHasDraw, .ref Mnow, .ref Mcry, .ref Msnow, .ref Mecho, .int (nI IcryMany), .int IcallPlace, .int IcallVoice, .int Iwind, .int Ichance, .int (nI eq12), .ref Mwere, .int (nI Iacts), .int (nI Iundone), .ref Mlies, .int (nI Ilain), .ref Mspots, .ref Msteps, .ref MfromState, .ref MbyWord, .ref Mqueue, .ref MsoundCliff, .ref MsoundLong, .ref MsoundCame, .ref MsoundTold, .ref MsoundUntold, .int (nI Isounds), .int Itime, .ref Mstands, .int IstandMany, .ref Mtally, .ref MhasBox, .ref Mboxes], wI (cy 1) Mstep 960 (Gstep), wI (cy 1) Marg 960 (Garg), wI (cy 1) Mmany 3 (Gmany), wI (cy 1) Mvalues 64 (Gvalues2_23), wI (cy 1) Masks 7 (Gasks2_19)] := hD
                    refine lv_aload_n hx hb dX12_addEcho_163 rfl (lv_at hl 4 rfl) ?_
                    refine va_get (D := D) (ci := 12) (v := .ref Mecho) (C := RX12) (T := TX12) (N := 89) hx hb hg i_X12 hown hK hP 6 rfl rfl 60 (by decide) (hg _ m_1473) (fun _ h9 => h9) rfl dX12_addEcho_164 ?_
                    refine lv_iload hx hb dX12_addEcho_167 (lv_at hl 1 rfl) ?_
                    refine lv_iload hx hb dX12_addEcho_169 (lv_at hl 0 rfl) ?_
                    refine va_iast hx hb hK hP hD hS 3 1 rfl rfl (vp_in_nI (by omega) (by decide)) dX12_addEcho_171 (fun H locs hP9 hD9 hS9 => ?_)
                    clear hP hD hS
                    have hP := hP9
                    have hD := hD9
                    have hS := hS9
                    clear hP9 hD9 hS9
                    obtain ⟨g_35, eg_35⟩ : ∃ y, upd g_33 (nI b26 : Int32).toNatClampNeg (nI j_29) = y := ⟨_, rfl⟩
                    rw [eg_35] at hP hD
                    have hr_36 : rng g_35 20 7 := eg_35 ▸ rng_put hr_34 (j := j_29) (by omega)
                    replace hP : va_P D vwCl [wI (cy 1) Msnow 4 (Gsnow), wI (cy 1) Mloud 8 (Gloud), wI (cy 1) Mcry 10 (Gcry), wI (cy 1) Mecho 20 (g_35), wI (cy 3) MhasForm 3 (GhasForm), wI (cy 1) McliffAt 4 (GcliffAt), wO m0 12 [.ref Mtape, .int (nI Itaped), .int (nI Ifault), .int IfaultPlace, .int (nI Iat), .int (nI Isize), .int Isort, .int Iplace, .int Inumber, .long Iword, .ref MnName, .ref MnStep, .ref MnArg, .ref MnMany, .ref Mstep, .ref Marg, .ref Mmany, .ref Mopen, .ref Mvalues, .ref MnHasForm, .ref MhasForm, .int (nI Iform), .int (nI Iopens), .int (nI InUnits), .int Iunits, .int (nI IownUnits), .int (nI Ideep), .ref Masks, .ref MnLoud, .ref MnCliffAt, .ref MnSnow, .ref MnManAt, .ref MnVoice, .ref MnOn, .ref Mloud, .ref McliffAt, .ref MsnowTold, .ref MmanAt, .ref Mvoice, .ref Mon, .ref MnYes, .ref Myes, .int (nI InWords), .int (nI InCliffs), .int (nI InMen), .int (nI InStates), .int (nI InOns), .int InWind, .int InDraw, .int (nI Iwords), .int (nI Icliffs), .int (nI Imen), .int (nI Istates), .int Ions, .int IwindTold, .int InHasWind, .int InHasDraw, .ref Mnow, .ref Mcry, .ref Msnow, .ref Mecho, .int (nI IcryMany), .int IcallPlace, .int IcallVoice, .int Iwind, .int Ichance, .int (nI eq12), .ref Mwere, .int (nI Iacts), .int (nI Iundone), .ref Mlies, .int (nI Ilain), .ref Mspots, .ref Msteps, .ref MfromState, .ref MbyWord, .ref Mqueue, .ref MsoundCliff, .ref MsoundLong, .ref MsoundCame, .ref MsoundTold, .ref MsoundUntold, .int (nI Isounds), .int Itime, .ref Mstands, .int IstandMany, .ref Mtally, .ref MhasBox, .ref Mboxes], wI (cy 1) Mstep 960 (Gstep), wI (cy 1) Marg 960 (Garg), wI (cy 1) Mmany 3 (Gmany), wI (cy 1) Mvalues 64 (Gvalues2_23), wI (cy 1) Masks 7 (Gasks2_19)] H := hP
                    replace hD : va_D A [wI (cy 1) Msnow 4 (Gsnow), wI (cy 1) Mloud 8 (Gloud), wI (cy 1) Mcry 10 (Gcry), wI (cy 1) Mecho 20 (g_35), wI (cy 3) MhasForm 3 (GhasForm), wI (cy 1) McliffAt 4 (GcliffAt), wO m0 12 [.ref Mtape, .int (nI Itaped), .int (nI Ifault), .int IfaultPlace, .int (nI Iat), .int (nI Isize), .int Isort, .int Iplace, .int Inumber, .long Iword, .ref MnName, .ref MnStep, .ref MnArg, .ref MnMany, .ref Mstep, .ref Marg, .ref Mmany, .ref Mopen, .ref Mvalues, .ref MnHasForm, .ref MhasForm, .int (nI Iform), .int (nI Iopens), .int (nI InUnits), .int Iunits, .int (nI IownUnits), .int (nI Ideep), .ref Masks, .ref MnLoud, .ref MnCliffAt, .ref MnSnow, .ref MnManAt, .ref MnVoice, .ref MnOn, .ref Mloud, .ref McliffAt, .ref MsnowTold, .ref MmanAt, .ref Mvoice, .ref Mon, .ref MnYes, .ref Myes, .int (nI InWords), .int (nI InCliffs), .int (nI InMen), .int (nI InStates), .int (nI InOns), .int InWind, .int InDraw, .int (nI Iwords), .int (nI Icliffs), .int (nI Imen), .int (nI Istates), .int Ions, .int IwindTold, .int InHasWind, .int InHasDraw, .ref Mnow, .ref Mcry, .ref Msnow, .ref Mecho, .int (nI IcryMany), .int IcallPlace, .int IcallVoice, .int Iwind, .int Ichance, .int (nI eq12), .ref Mwere, .int (nI Iacts), .int (nI Iundone), .ref Mlies, .int (nI Ilain), .ref Mspots, .ref Msteps, .ref MfromState, .ref MbyWord, .ref Mqueue, .ref MsoundCliff, .ref MsoundLong, .ref MsoundCame, .ref MsoundTold, .ref MsoundUntold, .int (nI Isounds), .int Itime, .ref Mstands, .int IstandMany, .ref Mtally, .ref MhasBox, .ref Mboxes], wI (cy 1) Mstep 960 (Gstep), wI (cy 1) Marg 960 (Garg), wI (cy 1) Mmany 3 (Gmany), wI (cy 1) Mvalues 64 (Gvalues2_23), wI (cy 1) Masks 7 (Gasks2_19)] := hD
                    refine lv_iinc (v := nI (b26 - 1)) (lv' := [(4, .int (nI (b26 - 1))), (5, .int (nI j_29)), (3, .int (nI a26)), (2, .int (nI IechoMany)), (0, .ref m0), (1, .int (nI j))]) hx hb dX12_addEcho_172 hl (k := 1) rfl (sb_m1 (by omega)) (by decide) rfl (fun ls hl => ?_)
                    refine lv_iinc (v := nI (a26 + 1)) (lv' := [(3, .int (nI (a26 + 1))), (4, .int (nI (b26 - 1))), (5, .int (nI j_29)), (2, .int (nI IechoMany)), (0, .ref m0), (1, .int (nI j))]) hx hb dX12_addEcho_175 hl (k := 2) rfl (nI_add a26 1) (by decide) rfl (fun ls hl => ?_)
                    refine lv_goto (tgt := 136) hx hb dX12_addEcho_178 (by decide) ?_
                    exact ih26  ((a26 + 1)) ((b26 - 1)) g_35 hr_36 (by first | assumption | omega) (by first | assumption | omega) (by first | assumption | omega) ((by rw [show a26 + 1 - IechoMany = (a26 - IechoMany) + 1 by omega]; exact rv_step hf3_26 (by omega) (by omega) (by omega) (by omega) ej_29.symm ej_31.symm eg_33 eg_35)) (by first | assumption | omega) (by omega) _ _ (hP.sub [0, 1, 2, 3, 4, 5, 6, 7, 8, 9, 10, 11] rfl) (hD.sub [0, 1, 2, 3, 4, 5, 6, 7, 8, 9, 10, 11] (by decide +kernel) rfl) hS ls (lv_sub hl [1, 0, 3, 4, 5] rfl)
              exact loop26 _ IechoMany ((eq12 - 1)) fa2_12 ha3_12 (by first | assumption | omega) (by first | assumption | omega) (by first | assumption | omega) ((by rw [Nat.sub_self]; exact rv_0 hfw9)) (by first | assumption | omega) (Nat.le_refl _) _ _ (hP.sub [0, 1, 2, 3, 4, 5, 6, 7, 8, 9, 10, 11] rfl) (hD.sub [0, 1, 2, 3, 4, 5, 6, 7, 8, 9, 10, 11] (by decide +kernel) rfl) hS ls (lv_sub hl [0, 1, 2, 3, 4] rfl)
          · exact x_vret hQ hx hb hr hlocks hK hP hD hS dX12_addEcho_125 (Gvalues2_23, Gasks2_19, fa2_12, eq12) (⟨(show eq12 ≤ 20 from by first | assumption | omega), ha3_12, (show eq12 ≤ IechoMany + IcryMany from by first | assumption | omega), (show exC Gecho IechoMany fa2_12 eq12 (ecS (vlM GhasForm Gstep Garg am 0 3) (vlM GhasForm Gstep Garg am 1 0) (vlM GhasForm Gstep Garg am 2 0) Gloud (ofR IcallPlace (GcliffAt j)) Iwind (Gsnow j) IcallVoice Ichance Gcry IcryMany) from exC_eq hfw9 (ecS_f (tu_0 (vlM_1 ((fun h9 => c_114 ((ldk (by decide) ex_21).trans h9))) (f_24 (gfm 2 (by decide) ((fun h9 => c_114 ((ldk (by decide) ex_21).trans h9)))))) (vlM_cg gal2 (by decide) (by intro k9 h9; rw [f_20 k9 h9, f_16, ld_at (by omega) ex_17])) c_122)).symm)⟩) [6, 7, 8, 9, 10, 11, 4, 5, 0, 1, 2, 3] (by decide +kernel) rfl (Nat.le_of_ble_eq_true rfl) (Nat.le_of_ble_eq_true rfl)
      · have q_14 : k12 < IcryMany := q_nle (a := IcryMany) (b := k12) rfl rfl (by omega) (by omega) c_13
        refine lv_aload_n hx hb dX12_addEcho_42 rfl (lv_at hl 2 rfl) ?_
        refine lv_iload_n hx hb dX12_addEcho_43 rfl (lv_at hl 3 rfl) ?_
        refine lv_iload_n hx hb dX12_addEcho_44 rfl (lv_at hl 0 rfl) ?_
        refine x_callVi (q := (RX12, TX12, 89)) (ci := 12) (q0 := 0) (wr := [wI (cy 1) Mecho 20 (fa2_12)]) (rest := []) ⟨hx, hb, hml, hown, hg, hl.1⟩ k_X12_484 (r_isLost l D cy m0 Mtape MnName MnStep MnArg MnMany Mstep Marg Mmany Mopen Mvalues MnHasForm MhasForm Masks MnLoud MnCliffAt MnSnow MnManAt MnVoice MnOn Mloud McliffAt MsnowTold MmanAt Mvoice Mon MnYes Myes Mnow Mcry Msnow Mecho Mwere Mlies Mspots Msteps MfromState MbyWord Mqueue MsoundCliff MsoundLong MsoundCame MsoundTold MsoundUntold Mstands Mtally MhasBox Mboxes Itaped Ifault IfaultPlace Iat Isize Isort Iplace Inumber Iword Gstep Garg Gmany fa4_12 GhasForm Iform Iopens InUnits Iunits IownUnits Ideep fa3_12 Gloud GcliffAt InWords InCliffs InMen InStates InOns InWind InDraw Iwords Icliffs Imen Istates Ions IwindTold InHasWind InHasDraw Gcry Gsnow IcryMany IcallPlace IcallVoice Iwind Ichance eq12 Iacts Iundone Ilain Isounds Itime IstandMany am AH j k12 (by first | assumption | omega) (by first | assumption | omega) (by first | assumption | omega) (by first | assumption | omega) (by first | assumption | omega) (by first | assumption | omega) (by first | assumption | omega) (by first | assumption | omega) (by first | assumption | omega) (by first | assumption | omega) (by first | assumption | omega) (by first | assumption | omega) (by first | assumption | omega) (by first | assumption | omega) (by first | assumption | omega) (by first | assumption | omega) (by first | assumption | omega) (by first | assumption | omega) (by first | assumption | omega) (by first | assumption | omega) (by first | assumption | omega) (by first | assumption | omega) (by first | assumption | omega) (gfm) (gcry) (gal2) (by first | assumption | omega) (by first | assumption | omega) (by first | assumption | omega)) E0_blind hK hP hD hS hA [5, 6, 7, 8, 9, 10, 11, 4, 0, 1, 2] [3] ⟨rfl, rfl, by decide +kernel, by decide +kernel, by decide +kernel⟩ rfl rfl (fun _ _ _ => trivial) dX12_addEcho_45 rfl rfl (Nat.le_of_ble_eq_true rfl) ⟨Nat.le_of_ble_eq_true rfl, Nat.le_of_ble_eq_true rfl⟩ ⟨Nat.le_of_ble_eq_true rfl, Nat.le_of_ble_eq_true rfl⟩ (fun zr37 zu37 H locs hw37 hP9 hD9 hS9 => ?_)
        clear hP hD hS
        obtain ⟨Gvalues2_38, Gasks2_39⟩ := zu37
        refine reW [wI (cy 1) Mecho 20 (fa2_12), wO m0 12 [.ref Mtape, .int (nI Itaped), .int (nI Ifault), .int IfaultPlace, .int (nI Iat), .int (nI Isize), .int Isort, .int Iplace, .int Inumber, .long Iword, .ref MnName, .ref MnStep, .ref MnArg, .ref MnMany, .ref Mstep, .ref Marg, .ref Mmany, .ref Mopen, .ref Mvalues, .ref MnHasForm, .ref MhasForm, .int (nI Iform), .int (nI Iopens), .int (nI InUnits), .int Iunits, .int (nI IownUnits), .int (nI Ideep), .ref Masks, .ref MnLoud, .ref MnCliffAt, .ref MnSnow, .ref MnManAt, .ref MnVoice, .ref MnOn, .ref Mloud, .ref McliffAt, .ref MsnowTold, .ref MmanAt, .ref Mvoice, .ref Mon, .ref MnYes, .ref Myes, .int (nI InWords), .int (nI InCliffs), .int (nI InMen), .int (nI InStates), .int (nI InOns), .int InWind, .int InDraw, .int (nI Iwords), .int (nI Icliffs), .int (nI Imen), .int (nI Istates), .int Ions, .int IwindTold, .int InHasWind, .int InHasDraw, .ref Mnow, .ref Mcry, .ref Msnow, .ref Mecho, .int (nI IcryMany), .int IcallPlace, .int IcallVoice, .int Iwind, .int Ichance, .int (nI eq12), .ref Mwere, .int (nI Iacts), .int (nI Iundone), .ref Mlies, .int (nI Ilain), .ref Mspots, .ref Msteps, .ref MfromState, .ref MbyWord, .ref Mqueue, .ref MsoundCliff, .ref MsoundLong, .ref MsoundCame, .ref MsoundTold, .ref MsoundUntold, .int (nI Isounds), .int Itime, .ref Mstands, .int IstandMany, .ref Mtally, .ref MhasBox, .ref Mboxes], wI (cy 1) Mstep 960 (Gstep), wI (cy 1) Marg 960 (Garg), wI (cy 1) Mmany 3 (Gmany), wI (cy 1) Mvalues 64 (Gvalues2_38), wI (cy 1) Masks 7 (Gasks2_39), wI (cy 3) MhasForm 3 (GhasForm), wI (cy 1) McliffAt 4 (GcliffAt), wI (cy 1) Msnow 4 (Gsnow), wI (cy 1) Mloud 8 (Gloud), wI (cy 1) Mcry 10 (Gcry)] hP9 hD9 hS9 (fun hP hD hS => ?_)
        clear hP9 hD9 hS9
        refine W.widen (k := 0) (n := 0) (Nat.le_of_ble_eq_true rfl) (Nat.le_of_ble_eq_true rfl) ?_
        change (zr37 = 0 ∨ zr37 = 1) ∧ (bR zr37 (loS (vlM GhasForm Gstep Garg am 1 0) Gloud (ofR IcallPlace (GcliffAt j)) Iwind (Gsnow j) IcallVoice Ichance IcryMany (Gcry k12) k12)) at hw37
        obtain ⟨f_40, f_41⟩ := hw37
        refine lv_if_eq (tgt := 54) hx hb dX12_addEcho_48 (by decide) (fun c_48 => ?_) (fun c_48 => ?_)
        · refine lv_aload_n hx hb dX12_addEcho_54 rfl (lv_at hl 2 rfl) ?_
          refine va_get (D := D) (ci := 12) (v := .ref Mecho) (C := RX12) (T := TX12) (N := 89) hx hb hg i_X12 hown hK hP 1 rfl rfl 60 (by decide) (hg _ m_1473) (fun _ h9 => h9) rfl dX12_addEcho_55 ?_
          refine lv_aload_n hx hb dX12_addEcho_58 rfl (lv_at hl 2 rfl) ?_
          refine va_get (D := D) (ci := 12) (v := .int (nI eq12)) (C := RX12) (T := TX12) (N := 89) hx hb hg i_X12 hown hK hP 1 rfl rfl 66 (by decide) (hg _ m_1479) (fun _ h9 => h9) rfl dX12_addEcho_59 ?_
          refine lv_aload_n hx hb dX12_addEcho_62 rfl (lv_at hl 2 rfl) ?_
          refine va_get (D := D) (ci := 12) (v := .ref Mcry) (C := RX12) (T := TX12) (N := 89) hx hb hg i_X12 hown hK hP 1 rfl rfl 58 (by decide) (hg _ m_1471) (fun _ h9 => h9) rfl dX12_addEcho_63 ?_
          refine lv_iload_n hx hb dX12_addEcho_66 rfl (lv_at hl 0 rfl) ?_
          refine va_iald hx hb hK hP 11 1 rfl rfl (vp_in_nI (by omega) (by decide)) dX12_addEcho_67 ?_
          obtain ⟨j_42, hj_42, ej_42⟩ := rng_at gcry (i := k12) (by omega) (by decide)
          refine lv_topi (fun y_43 hy_43 => ?_)
          obtain rfl : y_43 = nI j_42 := hy_43.trans ej_42
          refine va_iast hx hb hK hP hD hS 0 1 rfl rfl (vp_in_nI (by omega) (by decide)) dX12_addEcho_68 (fun H locs hP9 hD9 hS9 => ?_)
          clear hP hD hS
          have hP := hP9
          have hD := hD9
          have hS := hS9
          clear hP9 hD9 hS9
          obtain ⟨g_44, eg_44⟩ : ∃ y, upd fa2_12 (nI eq12 : Int32).toNatClampNeg (nI j_42) = y := ⟨_, rfl⟩
          rw [eg_44] at hP hD
          have hr_45 : rng g_44 20 7 := eg_44 ▸ rng_put ha3_12 (j := j_42) (by omega)
          replace hP : va_P D vwCl [wI (cy 1) Mecho 20 (g_44), wO m0 12 [.ref Mtape, .int (nI Itaped), .int (nI Ifault), .int IfaultPlace, .int (nI Iat), .int (nI Isize), .int Isort, .int Iplace, .int Inumber, .long Iword, .ref MnName, .ref MnStep, .ref MnArg, .ref MnMany, .ref Mstep, .ref Marg, .ref Mmany, .ref Mopen, .ref Mvalues, .ref MnHasForm, .ref MhasForm, .int (nI Iform), .int (nI Iopens), .int (nI InUnits), .int Iunits, .int (nI IownUnits), .int (nI Ideep), .ref Masks, .ref MnLoud, .ref MnCliffAt, .ref MnSnow, .ref MnManAt, .ref MnVoice, .ref MnOn, .ref Mloud, .ref McliffAt, .ref MsnowTold, .ref MmanAt, .ref Mvoice, .ref Mon, .ref MnYes, .ref Myes, .int (nI InWords), .int (nI InCliffs), .int (nI InMen), .int (nI InStates), .int (nI InOns), .int InWind, .int InDraw, .int (nI Iwords), .int (nI Icliffs), .int (nI Imen), .int (nI Istates), .int Ions, .int IwindTold, .int InHasWind, .int InHasDraw, .ref Mnow, .ref Mcry, .ref Msnow, .ref Mecho, .int (nI IcryMany), .int IcallPlace, .int IcallVoice, .int Iwind, .int Ichance, .int (nI eq12), .ref Mwere, .int (nI Iacts), .int (nI Iundone), .ref Mlies, .int (nI Ilain), .ref Mspots, .ref Msteps, .ref MfromState, .ref MbyWord, .ref Mqueue, .ref MsoundCliff, .ref MsoundLong, .ref MsoundCame, .ref MsoundTold, .ref MsoundUntold, .int (nI Isounds), .int Itime, .ref Mstands, .int IstandMany, .ref Mtally, .ref MhasBox, .ref Mboxes], wI (cy 1) Mstep 960 (Gstep), wI (cy 1) Marg 960 (Garg), wI (cy 1) Mmany 3 (Gmany), wI (cy 1) Mvalues 64 (Gvalues2_38), wI (cy 1) Masks 7 (Gasks2_39), wI (cy 3) MhasForm 3 (GhasForm), wI (cy 1) McliffAt 4 (GcliffAt), wI (cy 1) Msnow 4 (Gsnow), wI (cy 1) Mloud 8 (Gloud), wI (cy 1) Mcry 10 (Gcry)] H := hP
          replace hD : va_D A [wI (cy 1) Mecho 20 (g_44), wO m0 12 [.ref Mtape, .int (nI Itaped), .int (nI Ifault), .int IfaultPlace, .int (nI Iat), .int (nI Isize), .int Isort, .int Iplace, .int Inumber, .long Iword, .ref MnName, .ref MnStep, .ref MnArg, .ref MnMany, .ref Mstep, .ref Marg, .ref Mmany, .ref Mopen, .ref Mvalues, .ref MnHasForm, .ref MhasForm, .int (nI Iform), .int (nI Iopens), .int (nI InUnits), .int Iunits, .int (nI IownUnits), .int (nI Ideep), .ref Masks, .ref MnLoud, .ref MnCliffAt, .ref MnSnow, .ref MnManAt, .ref MnVoice, .ref MnOn, .ref Mloud, .ref McliffAt, .ref MsnowTold, .ref MmanAt, .ref Mvoice, .ref Mon, .ref MnYes, .ref Myes, .int (nI InWords), .int (nI InCliffs), .int (nI InMen), .int (nI InStates), .int (nI InOns), .int InWind, .int InDraw, .int (nI Iwords), .int (nI Icliffs), .int (nI Imen), .int (nI Istates), .int Ions, .int IwindTold, .int InHasWind, .int InHasDraw, .ref Mnow, .ref Mcry, .ref Msnow, .ref Mecho, .int (nI IcryMany), .int IcallPlace, .int IcallVoice, .int Iwind, .int Ichance, .int (nI eq12), .ref Mwere, .int (nI Iacts), .int (nI Iundone), .ref Mlies, .int (nI Ilain), .ref Mspots, .ref Msteps, .ref MfromState, .ref MbyWord, .ref Mqueue, .ref MsoundCliff, .ref MsoundLong, .ref MsoundCame, .ref MsoundTold, .ref MsoundUntold, .int (nI Isounds), .int Itime, .ref Mstands, .int IstandMany, .ref Mtally, .ref MhasBox, .ref Mboxes], wI (cy 1) Mstep 960 (Gstep), wI (cy 1) Marg 960 (Garg), wI (cy 1) Mmany 3 (Gmany), wI (cy 1) Mvalues 64 (Gvalues2_38), wI (cy 1) Masks 7 (Gasks2_39), wI (cy 3) MhasForm 3 (GhasForm), wI (cy 1) McliffAt 4 (GcliffAt), wI (cy 1) Msnow 4 (Gsnow), wI (cy 1) Mloud 8 (Gloud), wI (cy 1) Mcry 10 (Gcry)] := hD
          refine lv_aload_n hx hb dX12_addEcho_69 rfl (lv_at hl 2 rfl) ?_
          refine lv_dup hx hb dX12_addEcho_70 rfl ?_
          refine va_get (D := D) (ci := 12) (v := .int (nI eq12)) (C := RX12) (T := TX12) (N := 89) hx hb hg i_X12 hown hK hP 1 rfl rfl 66 (by decide) (hg _ m_1479) (fun _ h9 => h9) rfl dX12_addEcho_71 ?_
          refine lv_iconst (v := 1) hx hb dX12_addEcho_74 (by decide) ?_
          refine lv_iadd hx hb dX12_addEcho_75 ?_
          refine lv_topi (fun y_46 hy_46 => ?_)
          obtain rfl : y_46 = nI (eq12 + 1) := hy_46.trans (nI_add eq12 1)
          refine va_put (D := D) (ci := 12) (v := .int (nI (eq12 + 1))) (ty := .int) (C := RX12) (T := TX12) (N := 89) hx hb hg i_X12 tyX12 tyX12_ok nmX12 hown hK hP hD hS 1 rfl rfl 66 (by decide) (hg _ m_1479) (fun _ h9 => h9) rfl (by decide +kernel) rfl rfl (Nat.le_of_ble_eq_true rfl) dX12_addEcho_76 (fun H locs hP9 hD9 hS9 => ?_)
          clear hP hD hS
          refine reW [wI (cy 1) Mecho 20 (g_44), wO m0 12 [.ref Mtape, .int (nI Itaped), .int (nI Ifault), .int IfaultPlace, .int (nI Iat), .int (nI Isize), .int Isort, .int Iplace, .int Inumber, .long Iword, .ref MnName, .ref MnStep, .ref MnArg, .ref MnMany, .ref Mstep, .ref Marg, .ref Mmany, .ref Mopen, .ref Mvalues, .ref MnHasForm, .ref MhasForm, .int (nI Iform), .int (nI Iopens), .int (nI InUnits), .int Iunits, .int (nI IownUnits), .int (nI Ideep), .ref Masks, .ref MnLoud, .ref MnCliffAt, .ref MnSnow, .ref MnManAt, .ref MnVoice, .ref MnOn, .ref Mloud, .ref McliffAt, .ref MsnowTold, .ref MmanAt, .ref Mvoice, .ref Mon, .ref MnYes, .ref Myes, .int (nI InWords), .int (nI InCliffs), .int (nI InMen), .int (nI InStates), .int (nI InOns), .int InWind, .int InDraw, .int (nI Iwords), .int (nI Icliffs), .int (nI Imen), .int (nI Istates), .int Ions, .int IwindTold, .int InHasWind, .int InHasDraw, .ref Mnow, .ref Mcry, .ref Msnow, .ref Mecho, .int (nI IcryMany), .int IcallPlace, .int IcallVoice, .int Iwind, .int Ichance, .int (nI (eq12 + 1)), .ref Mwere, .int (nI Iacts), .int (nI Iundone), .ref Mlies, .int (nI Ilain), .ref Mspots, .ref Msteps, .ref MfromState, .ref MbyWord, .ref Mqueue, .ref MsoundCliff, .ref MsoundLong, .ref MsoundCame, .ref MsoundTold, .ref MsoundUntold, .int (nI Isounds), .int Itime, .ref Mstands, .int IstandMany, .ref Mtally, .ref MhasBox, .ref Mboxes], wI (cy 1) Mstep 960 (Gstep), wI (cy 1) Marg 960 (Garg), wI (cy 1) Mmany 3 (Gmany), wI (cy 1) Mvalues 64 (Gvalues2_38), wI (cy 1) Masks 7 (Gasks2_39), wI (cy 3) MhasForm 3 (GhasForm), wI (cy 1) McliffAt 4 (GcliffAt), wI (cy 1) Msnow 4 (Gsnow), wI (cy 1) Mloud 8 (Gloud), wI (cy 1) Mcry 10 (Gcry)] hP9 hD9 hS9 (fun hP hD hS => ?_)
          clear hP9 hD9 hS9
          refine lv_iinc (v := nI (k12 + 1)) (lv' := [(3, .int (nI (k12 + 1))), (2, .int (nI IechoMany)), (0, .ref m0), (1, .int (nI j))]) hx hb dX12_addEcho_79 hl (k := 0) rfl (nI_add k12 1) (by decide) rfl (fun ls hl => ?_)
          refine lv_goto (tgt := 34) hx hb dX12_addEcho_82 (by decide) ?_
          exact ih12  ((k12 + 1)) ((eq12 + 1)) g_44 Gasks2_39 Gvalues2_38 hr_45 (by first | assumption | omega) (by first | assumption | omega) (by first | assumption | omega) (exC_eq (sd_put (by omega) (by omega) hf3_12 ej_42 eg_44) (sdL_y rfl (by rw [co_l (b := false) (by omega) (bR_f f_41 c_48)]; rfl))) (by first | assumption | omega) (by omega) _ _ (hP.sub [9, 10, 11, 0, 8, 1, 2, 3, 4, 5, 6, 7] rfl) (hD.sub [9, 10, 11, 0, 8, 1, 2, 3, 4, 5, 6, 7] (by decide +kernel) rfl) hS ls (lv_sub hl [0, 1, 2, 3] rfl)
        · refine lv_goto (tgt := 79) hx hb dX12_addEcho_51 (by decide) ?_
          refine lv_iinc (v := nI (k12 + 1)) (lv' := [(3, .int (nI (k12 + 1))), (2, .int (nI IechoMany)), (0, .ref m0), (1, .int (nI j))]) hx hb dX12_addEcho_79 hl (k := 0) rfl (nI_add k12 1) (by decide) rfl (fun ls hl => ?_)
          refine lv_goto (tgt := 34) hx hb dX12_addEcho_82 (by decide) ?_
          exact ih12  ((k12 + 1)) eq12 fa2_12 Gasks2_39 Gvalues2_38 ha3_12 (by first | assumption | omega) (by first | assumption | omega) (by first | assumption | omega) (exC_eq hf3_12 (sdL_n rfl (by rw [co_l (b := true) (by omega) (bR_t f_41 c_48)]; decide))) (by first | assumption | omega) (by omega) _ _ (hP.sub [9, 10, 11, 0, 8, 1, 2, 3, 4, 5, 6, 7] rfl) (hD.sub [9, 10, 11, 0, 8, 1, 2, 3, 4, 5, 6, 7] (by decide +kernel) rfl) hS ls (lv_sub hl [0, 1, 2, 3] rfl)
  exact loop12 _ ((IcryMany - bk_7)) IechoMany Gecho Gasks2_6 Gvalues2_5 gech (by first | assumption | omega) (by first | assumption | omega) (by first | assumption | omega) (exC_eq exC_0 (sdL_no (fun k9 h9 => co_f (by omega))).symm) (by first | assumption | omega) (Nat.le_refl _) _ _ (hP.sub [0, 1, 2, 3, 4, 5, 6, 7, 8, 9, 10, 11] rfl) (hD.sub [0, 1, 2, 3, 4, 5, 6, 7, 8, 9, 10, 11] (by decide +kernel) rfl) hS ls (lv_sub hl [0, 1, 2, 3] rfl)
theorem gdX12_sendFrom_0 : decode cX12_sendFrom 0 = .ok (.aload_n 0, 1) ∧ decode cX12_sendFrom 1 = .ok (.iconst 0, 1) ∧ decode cX12_sendFrom 2 = .ok (.putfield 477, 3) ∧ decode cX12_sendFrom 5 = .ok (.aload_n 0, 1) ∧ decode cX12_sendFrom 6 = .ok (.iload_n 1, 1) ∧ decode cX12_sendFrom 7 = .ok (.invokevirtual 488, 3) := by decide +kernel
theorem dX12_sendFrom_0 : decode cX12_sendFrom 0 = .ok (.aload_n 0, 1) := gdX12_sendFrom_0.1
theorem dX12_sendFrom_1 : decode cX12_sendFrom 1 = .ok (.iconst 0, 1) := gdX12_sendFrom_0.2.1
theorem dX12_sendFrom_2 : decode cX12_sendFrom 2 = .ok (.putfield 477, 3) := gdX12_sendFrom_0.2.2.1
theorem dX12_sendFrom_5 : decode cX12_sendFrom 5 = .ok (.aload_n 0, 1) := gdX12_sendFrom_0.2.2.2.1
theorem dX12_sendFrom_6 : decode cX12_sendFrom 6 = .ok (.iload_n 1, 1) := gdX12_sendFrom_0.2.2.2.2.1
theorem dX12_sendFrom_7 : decode cX12_sendFrom 7 = .ok (.invokevirtual 488, 3) := gdX12_sendFrom_0.2.2.2.2.2
theorem k_X12_488 : xV RX12 RX12 488 yX12_addEcho cX12_addEcho 6 none 1 := ⟨⟨m_1952, m_1954, m_109, m_146, m_1955⟩, rfl, by decide, by decide, by decide +kernel⟩
theorem dX12_sendFrom_10 : decode cX12_sendFrom 10 = .ok (.return_, 1) := by decide +kernel
set_option maxHeartbeats 1000000 in
set_option maxRecDepth 100000 in
theorem r_sendFrom (l : Launch) (D : va_G) (cy : Nat → ClassId) (m0 : Nat) (Mtape : Nat) (MnName : Nat) (MnStep : Nat) (MnArg : Nat) (MnMany : Nat) (Mstep : Nat) (Marg : Nat) (Mmany : Nat) (Mopen : Nat) (Mvalues : Nat) (MnHasForm : Nat) (MhasForm : Nat) (Masks : Nat) (MnLoud : Nat) (MnCliffAt : Nat) (MnSnow : Nat) (MnManAt : Nat) (MnVoice : Nat) (MnOn : Nat) (Mloud : Nat) (McliffAt : Nat) (MsnowTold : Nat) (MmanAt : Nat) (Mvoice : Nat) (Mon : Nat) (MnYes : Nat) (Myes : Nat) (Mnow : Nat) (Mcry : Nat) (Msnow : Nat) (Mecho : Nat) (Mwere : Nat) (Mlies : Nat) (Mspots : Nat) (Msteps : Nat) (MfromState : Nat) (MbyWord : Nat) (Mqueue : Nat) (MsoundCliff : Nat) (MsoundLong : Nat) (MsoundCame : Nat) (MsoundTold : Nat) (MsoundUntold : Nat) (Mstands : Nat) (Mtally : Nat) (MhasBox : Nat) (Mboxes : Nat) (Itaped : Nat) (Ifault : Nat) (IfaultPlace : Int32) (Iat : Nat) (Isize : Nat) (Isort : Int32) (Iplace : Int32) (Inumber : Int32) (Iword : Int64) (Gstep : Nat → Int32) (Garg : Nat → Int32) (Gmany : Nat → Int32) (Gvalues : Nat → Int32) (GhasForm : Nat → Int32) (Iform : Nat) (Iopens : Nat) (InUnits : Nat) (Iunits : Int32) (IownUnits : Nat) (Ideep : Nat) (Gasks : Nat → Int32) (Gloud : Nat → Int32) (GcliffAt : Nat → Int32) (InWords : Nat) (InCliffs : Nat) (InMen : Nat) (InStates : Nat) (InOns : Nat) (InWind : Int32) (InDraw : Int32) (Iwords : Nat) (Icliffs : Nat) (Imen : Nat) (Istates : Nat) (Ions : Int32) (IwindTold : Int32) (InHasWind : Int32) (InHasDraw : Int32) (Gcry : Nat → Int32) (Gsnow : Nat → Int32) (Gecho : Nat → Int32) (IcryMany : Nat) (IcallPlace : Int32) (IcallVoice : Int32) (Iwind : Int32) (Ichance : Int32) (IechoMany : Nat) (Iacts : Nat) (Iundone : Nat) (Ilain : Nat) (Isounds : Nat) (Itime : Int32) (IstandMany : Int32) (am : Nat → Nat) (AH : Nat → Nat → Nat) (j : Nat) (gtp : Itaped ≤ 1600) (gat : Iat ≤ Isize) (gsz : Isize ≤ 1600) (gfl : Ifault ≤ 5) (gfo : Iform ≤ 2) (gnw : InWords ≤ 8) (gnc : InCliffs ≤ 4) (gnm : InMen ≤ 4) (gns : InStates ≤ 6) (gw : Iwords ≤ 8) (gc9 : Icliffs ≤ 4) (gm : Imen ≤ 4) (gs : Istates ≤ 6) (gcm : IcryMany ≤ 10) (gem : IechoMany ≤ 20) (gau : Iacts + Iundone ≤ 40) (gla : Ilain ≤ 20) (gso : Isounds ≤ 30) (gop : Iopens ≤ 40) (gde : Ideep ≤ 8) (gou : IownUnits ≤ 31) (gnu : InUnits ≤ 61) (gno : InOns ≤ 30) (gfm : ∀ k9 : Nat, k9 < 3 → ¬ GhasForm k9 = 0 → 1 ≤ am k9) (gcry : rng Gcry 10 7) (gech : rng Gecho 20 7) (gal2 : allR Gstep Garg Gmany am AH) (hj : j < 4) : XMv l D (tyL cy) E0 yX12_sendFrom cX12_sendFrom 2 none (rmk 5 0 0) [.ref m0, .int (nI j)] [wO m0 12 [.ref Mtape, .int (nI Itaped), .int (nI Ifault), .int IfaultPlace, .int (nI Iat), .int (nI Isize), .int Isort, .int Iplace, .int Inumber, .long Iword, .ref MnName, .ref MnStep, .ref MnArg, .ref MnMany, .ref Mstep, .ref Marg, .ref Mmany, .ref Mopen, .ref Mvalues, .ref MnHasForm, .ref MhasForm, .int (nI Iform), .int (nI Iopens), .int (nI InUnits), .int Iunits, .int (nI IownUnits), .int (nI Ideep), .ref Masks, .ref MnLoud, .ref MnCliffAt, .ref MnSnow, .ref MnManAt, .ref MnVoice, .ref MnOn, .ref Mloud, .ref McliffAt, .ref MsnowTold, .ref MmanAt, .ref Mvoice, .ref Mon, .ref MnYes, .ref Myes, .int (nI InWords), .int (nI InCliffs), .int (nI InMen), .int (nI InStates), .int (nI InOns), .int InWind, .int InDraw, .int (nI Iwords), .int (nI Icliffs), .int (nI Imen), .int (nI Istates), .int Ions, .int IwindTold, .int InHasWind, .int InHasDraw, .ref Mnow, .ref Mcry, .ref Msnow, .ref Mecho, .int (nI IcryMany), .int IcallPlace, .int IcallVoice, .int Iwind, .int Ichance, .int (nI IechoMany), .ref Mwere, .int (nI Iacts), .int (nI Iundone), .ref Mlies, .int (nI Ilain), .ref Mspots, .ref Msteps, .ref MfromState, .ref MbyWord, .ref Mqueue, .ref MsoundCliff, .ref MsoundLong, .ref MsoundCame, .ref MsoundTold, .ref MsoundUntold, .int (nI Isounds), .int Itime, .ref Mstands, .int IstandMany, .ref Mtally, .ref MhasBox, .ref Mboxes], wI (cy 1) Mstep 960 (Gstep), wI (cy 1) Marg 960 (Garg), wI (cy 1) Mmany 3 (Gmany), wI (cy 1) Mvalues 64 (Gvalues), wI (cy 1) Masks 7 (Gasks), wI (cy 3) MhasForm 3 (GhasForm), wI (cy 1) McliffAt 4 (GcliffAt), wI (cy 1) Msnow 4 (Gsnow), wI (cy 1) Mloud 8 (Gloud), wI (cy 1) Mcry 10 (Gcry), wI (cy 1) Mecho 20 (Gecho)] (fun (u : (Nat → Int32) × (Nat → Int32) × (Nat → Int32) × Nat) => (u.2.2.2 ≤ 20) ∧ (rng u.2.2.1 20 7) ∧ (u.2.2.2 ≤ IcryMany) ∧ (exC Gecho 0 u.2.2.1 u.2.2.2 (ecS (vlM GhasForm Gstep Garg am 0 3) (vlM GhasForm Gstep Garg am 1 0) (vlM GhasForm Gstep Garg am 2 0) Gloud (ofR IcallPlace (GcliffAt j)) Iwind (Gsnow j) IcallVoice Ichance Gcry IcryMany))) (fun (u : (Nat → Int32) × (Nat → Int32) × (Nat → Int32) × Nat) => [wO m0 12 [.ref Mtape, .int (nI Itaped), .int (nI Ifault), .int IfaultPlace, .int (nI Iat), .int (nI Isize), .int Isort, .int Iplace, .int Inumber, .long Iword, .ref MnName, .ref MnStep, .ref MnArg, .ref MnMany, .ref Mstep, .ref Marg, .ref Mmany, .ref Mopen, .ref Mvalues, .ref MnHasForm, .ref MhasForm, .int (nI Iform), .int (nI Iopens), .int (nI InUnits), .int Iunits, .int (nI IownUnits), .int (nI Ideep), .ref Masks, .ref MnLoud, .ref MnCliffAt, .ref MnSnow, .ref MnManAt, .ref MnVoice, .ref MnOn, .ref Mloud, .ref McliffAt, .ref MsnowTold, .ref MmanAt, .ref Mvoice, .ref Mon, .ref MnYes, .ref Myes, .int (nI InWords), .int (nI InCliffs), .int (nI InMen), .int (nI InStates), .int (nI InOns), .int InWind, .int InDraw, .int (nI Iwords), .int (nI Icliffs), .int (nI Imen), .int (nI Istates), .int Ions, .int IwindTold, .int InHasWind, .int InHasDraw, .ref Mnow, .ref Mcry, .ref Msnow, .ref Mecho, .int (nI IcryMany), .int IcallPlace, .int IcallVoice, .int Iwind, .int Ichance, .int (nI u.2.2.2), .ref Mwere, .int (nI Iacts), .int (nI Iundone), .ref Mlies, .int (nI Ilain), .ref Mspots, .ref Msteps, .ref MfromState, .ref MbyWord, .ref Mqueue, .ref MsoundCliff, .ref MsoundLong, .ref MsoundCame, .ref MsoundTold, .ref MsoundUntold, .int (nI Isounds), .int Itime, .ref Mstands, .int IstandMany, .ref Mtally, .ref MhasBox, .ref Mboxes], wI (cy 1) Mstep 960 (Gstep), wI (cy 1) Marg 960 (Garg), wI (cy 1) Mmany 3 (Gmany), wI (cy 1) Mvalues 64 (u.1), wI (cy 1) Masks 7 (u.2.1), wI (cy 3) MhasForm 3 (GhasForm), wI (cy 1) McliffAt 4 (GcliffAt), wI (cy 1) Msnow 4 (Gsnow), wI (cy 1) Mloud 8 (Gloud), wI (cy 1) Mcry 10 (Gcry), wI (cy 1) Mecho 20 (u.2.2.1)]) := by
  refine XMv.start (by decide) (Nat.le_of_ble_eq_true rfl) ?_
  intro p e s m below meth c args A ls Q hat hQ
  obtain ⟨hx, hb, hr, hml, hown, hg, hlocks, hin, hK, hA, hP, hD, hS, hE, hl⟩ := hat
  have hown : s.vm.findClass RX12 = some m.cls := hown
  have hl : lv_has ls 2 [(0, .ref m0), (1, .int (nI j))] := hl
  refine lv_aload_n hx hb dX12_sendFrom_0 rfl (lv_at hl 0 rfl) ?_
  refine lv_iconst (v := 0) hx hb dX12_sendFrom_1 (by decide) ?_
  refine va_put (D := D) (ci := 12) (v := .int 0) (ty := .int) (C := RX12) (T := TX12) (N := 89) hx hb hg i_X12 tyX12 tyX12_ok nmX12 hown hK hP hD hS 0 rfl rfl 66 (by decide) (hg _ m_1479) (fun _ h9 => h9) rfl (by decide +kernel) rfl rfl (Nat.le_of_ble_eq_true rfl) dX12_sendFrom_2 (fun H locs hP9 hD9 hS9 => ?_)
  clear hP hD hS
  refine reW [wO m0 12 [.ref Mtape, .int (nI Itaped), .int (nI Ifault), .int IfaultPlace, .int (nI Iat), .int (nI Isize), .int Isort, .int Iplace, .int Inumber, .long Iword, .ref MnName, .ref MnStep, .ref MnArg, .ref MnMany, .ref Mstep, .ref Marg, .ref Mmany, .ref Mopen, .ref Mvalues, .ref MnHasForm, .ref MhasForm, .int (nI Iform), .int (nI Iopens), .int (nI InUnits), .int Iunits, .int (nI IownUnits), .int (nI Ideep), .ref Masks, .ref MnLoud, .ref MnCliffAt, .ref MnSnow, .ref MnManAt, .ref MnVoice, .ref MnOn, .ref Mloud, .ref McliffAt, .ref MsnowTold, .ref MmanAt, .ref Mvoice, .ref Mon, .ref MnYes, .ref Myes, .int (nI InWords), .int (nI InCliffs), .int (nI InMen), .int (nI InStates), .int (nI InOns), .int InWind, .int InDraw, .int (nI Iwords), .int (nI Icliffs), .int (nI Imen), .int (nI Istates), .int Ions, .int IwindTold, .int InHasWind, .int InHasDraw, .ref Mnow, .ref Mcry, .ref Msnow, .ref Mecho, .int (nI IcryMany), .int IcallPlace, .int IcallVoice, .int Iwind, .int Ichance, .int 0, .ref Mwere, .int (nI Iacts), .int (nI Iundone), .ref Mlies, .int (nI Ilain), .ref Mspots, .ref Msteps, .ref MfromState, .ref MbyWord, .ref Mqueue, .ref MsoundCliff, .ref MsoundLong, .ref MsoundCame, .ref MsoundTold, .ref MsoundUntold, .int (nI Isounds), .int Itime, .ref Mstands, .int IstandMany, .ref Mtally, .ref MhasBox, .ref Mboxes], wI (cy 1) Mstep 960 (Gstep), wI (cy 1) Marg 960 (Garg), wI (cy 1) Mmany 3 (Gmany), wI (cy 1) Mvalues 64 (Gvalues), wI (cy 1) Masks 7 (Gasks), wI (cy 3) MhasForm 3 (GhasForm), wI (cy 1) McliffAt 4 (GcliffAt), wI (cy 1) Msnow 4 (Gsnow), wI (cy 1) Mloud 8 (Gloud), wI (cy 1) Mcry 10 (Gcry), wI (cy 1) Mecho 20 (Gecho)] hP9 hD9 hS9 (fun hP hD hS => ?_)
  clear hP9 hD9 hS9
  refine lv_aload_n hx hb dX12_sendFrom_5 rfl (lv_at hl 0 rfl) ?_
  refine lv_iload_n hx hb dX12_sendFrom_6 rfl (lv_at hl 1 rfl) ?_
  refine x_callVv (q := (RX12, TX12, 89)) (ci := 12) (q0 := 0) (wr := []) (rest := []) ⟨hx, hb, hml, hown, hg, hl.1⟩ k_X12_488 (r_addEcho l D cy m0 Mtape MnName MnStep MnArg MnMany Mstep Marg Mmany Mopen Mvalues MnHasForm MhasForm Masks MnLoud MnCliffAt MnSnow MnManAt MnVoice MnOn Mloud McliffAt MsnowTold MmanAt Mvoice Mon MnYes Myes Mnow Mcry Msnow Mecho Mwere Mlies Mspots Msteps MfromState MbyWord Mqueue MsoundCliff MsoundLong MsoundCame MsoundTold MsoundUntold Mstands Mtally MhasBox Mboxes Itaped Ifault IfaultPlace Iat Isize Isort Iplace Inumber Iword Gstep Garg Gmany Gvalues GhasForm Iform Iopens InUnits Iunits IownUnits Ideep Gasks Gloud GcliffAt InWords InCliffs InMen InStates InOns InWind InDraw Iwords Icliffs Imen Istates Ions IwindTold InHasWind InHasDraw Gcry Gsnow Gecho IcryMany IcallPlace IcallVoice Iwind Ichance 0 Iacts Iundone Ilain Isounds Itime IstandMany am AH j (by first | assumption | omega) (by first | assumption | omega) (by first | assumption | omega) (by first | assumption | omega) (by first | assumption | omega) (by first | assumption | omega) (by first | assumption | omega) (by first | assumption | omega) (by first | assumption | omega) (by first | assumption | omega) (by first | assumption | omega) (by first | assumption | omega) (by first | assumption | omega) (by first | assumption | omega) (by first | assumption | omega) (by first | assumption | omega) (by first | assumption | omega) (by first | assumption | omega) (by first | assumption | omega) (by first | assumption | omega) (by first | assumption | omega) (by first | assumption | omega) (by first | assumption | omega) (gfm) (gcry) (gech) (gal2) (by first | assumption | omega) (by first | assumption | omega)) E0_blind hK hP hD hS hA [0, 1, 2, 3, 4, 5, 6, 7, 8, 9, 10, 11] [] ⟨rfl, rfl, by decide +kernel, by decide +kernel, by decide +kernel⟩ rfl rfl (fun _ _ _ => trivial) dX12_sendFrom_7 rfl rfl (Nat.le_of_ble_eq_true rfl) ⟨Nat.le_of_ble_eq_true rfl, Nat.le_of_ble_eq_true rfl⟩ ⟨Nat.le_of_ble_eq_true rfl, Nat.le_of_ble_eq_true rfl⟩ (fun zu1 H locs hw1 hP9 hD9 hS9 => ?_)
  clear hP hD hS
  obtain ⟨Gvalues2_2, Gasks2_3, Gecho2_4, IechoMany2_5⟩ := zu1
  refine reW [wO m0 12 [.ref Mtape, .int (nI Itaped), .int (nI Ifault), .int IfaultPlace, .int (nI Iat), .int (nI Isize), .int Isort, .int Iplace, .int Inumber, .long Iword, .ref MnName, .ref MnStep, .ref MnArg, .ref MnMany, .ref Mstep, .ref Marg, .ref Mmany, .ref Mopen, .ref Mvalues, .ref MnHasForm, .ref MhasForm, .int (nI Iform), .int (nI Iopens), .int (nI InUnits), .int Iunits, .int (nI IownUnits), .int (nI Ideep), .ref Masks, .ref MnLoud, .ref MnCliffAt, .ref MnSnow, .ref MnManAt, .ref MnVoice, .ref MnOn, .ref Mloud, .ref McliffAt, .ref MsnowTold, .ref MmanAt, .ref Mvoice, .ref Mon, .ref MnYes, .ref Myes, .int (nI InWords), .int (nI InCliffs), .int (nI InMen), .int (nI InStates), .int (nI InOns), .int InWind, .int InDraw, .int (nI Iwords), .int (nI Icliffs), .int (nI Imen), .int (nI Istates), .int Ions, .int IwindTold, .int InHasWind, .int InHasDraw, .ref Mnow, .ref Mcry, .ref Msnow, .ref Mecho, .int (nI IcryMany), .int IcallPlace, .int IcallVoice, .int Iwind, .int Ichance, .int (nI IechoMany2_5), .ref Mwere, .int (nI Iacts), .int (nI Iundone), .ref Mlies, .int (nI Ilain), .ref Mspots, .ref Msteps, .ref MfromState, .ref MbyWord, .ref Mqueue, .ref MsoundCliff, .ref MsoundLong, .ref MsoundCame, .ref MsoundTold, .ref MsoundUntold, .int (nI Isounds), .int Itime, .ref Mstands, .int IstandMany, .ref Mtally, .ref MhasBox, .ref Mboxes], wI (cy 1) Mstep 960 (Gstep), wI (cy 1) Marg 960 (Garg), wI (cy 1) Mmany 3 (Gmany), wI (cy 1) Mvalues 64 (Gvalues2_2), wI (cy 1) Masks 7 (Gasks2_3), wI (cy 3) MhasForm 3 (GhasForm), wI (cy 1) McliffAt 4 (GcliffAt), wI (cy 1) Msnow 4 (Gsnow), wI (cy 1) Mloud 8 (Gloud), wI (cy 1) Mcry 10 (Gcry), wI (cy 1) Mecho 20 (Gecho2_4)] hP9 hD9 hS9 (fun hP hD hS => ?_)
  clear hP9 hD9 hS9
  refine W.widen (k := 0) (n := 0) (Nat.le_of_ble_eq_true rfl) (Nat.le_of_ble_eq_true rfl) ?_
  change (IechoMany2_5 ≤ 20) ∧ (rng Gecho2_4 20 7) ∧ (IechoMany2_5 ≤ 0 + IcryMany) ∧ (exC Gecho 0 Gecho2_4 IechoMany2_5 (ecS (vlM GhasForm Gstep Garg am 0 3) (vlM GhasForm Gstep Garg am 1 0) (vlM GhasForm Gstep Garg am 2 0) Gloud (ofR IcallPlace (GcliffAt j)) Iwind (Gsnow j) IcallVoice Ichance Gcry IcryMany)) at hw1
  obtain ⟨f_6, f_7, f_8, f_9⟩ := hw1
  exact x_vret hQ hx hb hr hlocks hK hP hD hS dX12_sendFrom_10 (Gvalues2_2, Gasks2_3, Gecho2_4, IechoMany2_5) (⟨(show IechoMany2_5 ≤ 20 from by first | assumption | omega), f_7, (show IechoMany2_5 ≤ IcryMany from by first | assumption | omega), (show exC Gecho 0 Gecho2_4 IechoMany2_5 (ecS (vlM GhasForm Gstep Garg am 0 3) (vlM GhasForm Gstep Garg am 1 0) (vlM GhasForm Gstep Garg am 2 0) Gloud (ofR IcallPlace (GcliffAt j)) Iwind (Gsnow j) IcallVoice Ichance Gcry IcryMany) from f_9)⟩) [0, 1, 2, 3, 4, 5, 6, 7, 8, 9, 10, 11] (by decide +kernel) rfl (Nat.le_of_ble_eq_true rfl) (Nat.le_of_ble_eq_true rfl)
theorem gdX12_leadsTo_0 : decode cX12_leadsTo 0 = .ok (.aload_n 0, 1) ∧ decode cX12_leadsTo 1 = .ok (.getfield 88, 3) ∧ decode cX12_leadsTo 4 = .ok (.bipush 8, 2) ∧ decode cX12_leadsTo 6 = .ok (.iload_n 1, 1) ∧ decode cX12_leadsTo 7 = .ok (.imul, 1) ∧ decode cX12_leadsTo 8 = .ok (.iload_n 2, 1) ∧ decode cX12_leadsTo 9 = .ok (.iadd, 1) ∧ decode cX12_leadsTo 10 = .ok (.iaload, 1) ∧ decode cX12_leadsTo 11 = .ok (.iconst (-1), 1) ∧ decode cX12_leadsTo 12 = .ok (.if_icmp .ne 7, 3) ∧ decode cX12_leadsTo 19 = .ok (.aload_n 0, 1) ∧ decode cX12_leadsTo 20 = .ok (.getfield 88, 3) := by decide +kernel
theorem dX12_leadsTo_0 : decode cX12_leadsTo 0 = .ok (.aload_n 0, 1) := gdX12_leadsTo_0.1
theorem dX12_leadsTo_1 : decode cX12_leadsTo 1 = .ok (.getfield 88, 3) := gdX12_leadsTo_0.2.1
theorem dX12_leadsTo_4 : decode cX12_leadsTo 4 = .ok (.bipush 8, 2) := gdX12_leadsTo_0.2.2.1
theorem dX12_leadsTo_6 : decode cX12_leadsTo 6 = .ok (.iload_n 1, 1) := gdX12_leadsTo_0.2.2.2.1
theorem dX12_leadsTo_7 : decode cX12_leadsTo 7 = .ok (.imul, 1) := gdX12_leadsTo_0.2.2.2.2.1
theorem dX12_leadsTo_8 : decode cX12_leadsTo 8 = .ok (.iload_n 2, 1) := gdX12_leadsTo_0.2.2.2.2.2.1
theorem dX12_leadsTo_9 : decode cX12_leadsTo 9 = .ok (.iadd, 1) := gdX12_leadsTo_0.2.2.2.2.2.2.1
theorem dX12_leadsTo_10 : decode cX12_leadsTo 10 = .ok (.iaload, 1) := gdX12_leadsTo_0.2.2.2.2.2.2.2.1
theorem dX12_leadsTo_11 : decode cX12_leadsTo 11 = .ok (.iconst (-1), 1) := gdX12_leadsTo_0.2.2.2.2.2.2.2.2.1
theorem dX12_leadsTo_12 : decode cX12_leadsTo 12 = .ok (.if_icmp .ne 7, 3) := gdX12_leadsTo_0.2.2.2.2.2.2.2.2.2.1
theorem dX12_leadsTo_19 : decode cX12_leadsTo 19 = .ok (.aload_n 0, 1) := gdX12_leadsTo_0.2.2.2.2.2.2.2.2.2.2.1
theorem dX12_leadsTo_20 : decode cX12_leadsTo 20 = .ok (.getfield 88, 3) := gdX12_leadsTo_0.2.2.2.2.2.2.2.2.2.2.2
theorem gdX12_leadsTo_23 : decode cX12_leadsTo 23 = .ok (.bipush 8, 2) ∧ decode cX12_leadsTo 25 = .ok (.iload_n 1, 1) ∧ decode cX12_leadsTo 26 = .ok (.imul, 1) ∧ decode cX12_leadsTo 27 = .ok (.iload_n 2, 1) ∧ decode cX12_leadsTo 28 = .ok (.iadd, 1) ∧ decode cX12_leadsTo 29 = .ok (.iaload, 1) ∧ decode cX12_leadsTo 30 = .ok (.ireturn, 1) ∧ decode cX12_leadsTo 15 = .ok (.iload_n 1, 1) ∧ decode cX12_leadsTo 16 = .ok (.goto 14, 3) := by decide +kernel
theorem dX12_leadsTo_23 : decode cX12_leadsTo 23 = .ok (.bipush 8, 2) := gdX12_leadsTo_23.1
theorem dX12_leadsTo_25 : decode cX12_leadsTo 25 = .ok (.iload_n 1, 1) := gdX12_leadsTo_23.2.1
theorem dX12_leadsTo_26 : decode cX12_leadsTo 26 = .ok (.imul, 1) := gdX12_leadsTo_23.2.2.1
theorem dX12_leadsTo_27 : decode cX12_leadsTo 27 = .ok (.iload_n 2, 1) := gdX12_leadsTo_23.2.2.2.1
theorem dX12_leadsTo_28 : decode cX12_leadsTo 28 = .ok (.iadd, 1) := gdX12_leadsTo_23.2.2.2.2.1
theorem dX12_leadsTo_29 : decode cX12_leadsTo 29 = .ok (.iaload, 1) := gdX12_leadsTo_23.2.2.2.2.2.1
theorem dX12_leadsTo_30 : decode cX12_leadsTo 30 = .ok (.ireturn, 1) := gdX12_leadsTo_23.2.2.2.2.2.2.1
theorem dX12_leadsTo_15 : decode cX12_leadsTo 15 = .ok (.iload_n 1, 1) := gdX12_leadsTo_23.2.2.2.2.2.2.2.1
theorem dX12_leadsTo_16 : decode cX12_leadsTo 16 = .ok (.goto 14, 3) := gdX12_leadsTo_23.2.2.2.2.2.2.2.2
set_option maxHeartbeats 1000000 in
set_option maxRecDepth 100000 in
theorem r_leadsTo (l : Launch) (D : va_G) (cy : Nat → ClassId) (m0 : Nat) (Mtape : Nat) (MnName : Nat) (MnStep : Nat) (MnArg : Nat) (MnMany : Nat) (Mstep : Nat) (Marg : Nat) (Mmany : Nat) (Mopen : Nat) (Mvalues : Nat) (MnHasForm : Nat) (MhasForm : Nat) (Masks : Nat) (MnLoud : Nat) (MnCliffAt : Nat) (MnSnow : Nat) (MnManAt : Nat) (MnVoice : Nat) (MnOn : Nat) (Mloud : Nat) (McliffAt : Nat) (MsnowTold : Nat) (MmanAt : Nat) (Mvoice : Nat) (Mon : Nat) (MnYes : Nat) (Myes : Nat) (Mnow : Nat) (Mcry : Nat) (Msnow : Nat) (Mecho : Nat) (Mwere : Nat) (Mlies : Nat) (Mspots : Nat) (Msteps : Nat) (MfromState : Nat) (MbyWord : Nat) (Mqueue : Nat) (MsoundCliff : Nat) (MsoundLong : Nat) (MsoundCame : Nat) (MsoundTold : Nat) (MsoundUntold : Nat) (Mstands : Nat) (Mtally : Nat) (MhasBox : Nat) (Mboxes : Nat) (Itaped : Nat) (Ifault : Nat) (IfaultPlace : Int32) (Iat : Nat) (Isize : Nat) (Isort : Int32) (Iplace : Int32) (Inumber : Int32) (Iword : Int64) (Iform : Nat) (Iopens : Nat) (InUnits : Nat) (Iunits : Int32) (IownUnits : Nat) (Ideep : Nat) (Gon : Nat → Int32) (InWords : Nat) (InCliffs : Nat) (InMen : Nat) (InStates : Nat) (InOns : Nat) (InWind : Int32) (InDraw : Int32) (Iwords : Nat) (Icliffs : Nat) (Imen : Nat) (Istates : Nat) (Ions : Int32) (IwindTold : Int32) (InHasWind : Int32) (InHasDraw : Int32) (IcryMany : Nat) (IcallPlace : Int32) (IcallVoice : Int32) (Iwind : Int32) (Ichance : Int32) (IechoMany : Nat) (Iacts : Nat) (Iundone : Nat) (Ilain : Nat) (Isounds : Nat) (Itime : Int32) (IstandMany : Int32) (sx : Nat) (wx : Nat) (gtp : Itaped ≤ 1600) (gat : Iat ≤ Isize) (gsz : Isize ≤ 1600) (gfl : Ifault ≤ 5) (gfo : Iform ≤ 2) (gnw : InWords ≤ 8) (gnc : InCliffs ≤ 4) (gnm : InMen ≤ 4) (gns : InStates ≤ 6) (gw : Iwords ≤ 8) (gc9 : Icliffs ≤ 4) (gm : Imen ≤ 4) (gs : Istates ≤ 6) (gcm : IcryMany ≤ 10) (gem : IechoMany ≤ 20) (gau : Iacts + Iundone ≤ 40) (gla : Ilain ≤ 20) (gso : Isounds ≤ 30) (gop : Iopens ≤ 40) (gde : Ideep ≤ 8) (gou : IownUnits ≤ 31) (gnu : InUnits ≤ 61) (gno : InOns ≤ 30) (gon : nxT Gon) (hsx : sx ≤ 5) (hwx : wx ≤ 7) : XMi l D (tyL cy) E0 yX12_leadsTo cX12_leadsTo 3 (some .int) (rmk 0 0 0) [.ref m0, .int (nI sx), .int (nI wx)] [wO m0 12 [.ref Mtape, .int (nI Itaped), .int (nI Ifault), .int IfaultPlace, .int (nI Iat), .int (nI Isize), .int Isort, .int Iplace, .int Inumber, .long Iword, .ref MnName, .ref MnStep, .ref MnArg, .ref MnMany, .ref Mstep, .ref Marg, .ref Mmany, .ref Mopen, .ref Mvalues, .ref MnHasForm, .ref MhasForm, .int (nI Iform), .int (nI Iopens), .int (nI InUnits), .int Iunits, .int (nI IownUnits), .int (nI Ideep), .ref Masks, .ref MnLoud, .ref MnCliffAt, .ref MnSnow, .ref MnManAt, .ref MnVoice, .ref MnOn, .ref Mloud, .ref McliffAt, .ref MsnowTold, .ref MmanAt, .ref Mvoice, .ref Mon, .ref MnYes, .ref Myes, .int (nI InWords), .int (nI InCliffs), .int (nI InMen), .int (nI InStates), .int (nI InOns), .int InWind, .int InDraw, .int (nI Iwords), .int (nI Icliffs), .int (nI Imen), .int (nI Istates), .int Ions, .int IwindTold, .int InHasWind, .int InHasDraw, .ref Mnow, .ref Mcry, .ref Msnow, .ref Mecho, .int (nI IcryMany), .int IcallPlace, .int IcallVoice, .int Iwind, .int Ichance, .int (nI IechoMany), .ref Mwere, .int (nI Iacts), .int (nI Iundone), .ref Mlies, .int (nI Ilain), .ref Mspots, .ref Msteps, .ref MfromState, .ref MbyWord, .ref Mqueue, .ref MsoundCliff, .ref MsoundLong, .ref MsoundCame, .ref MsoundTold, .ref MsoundUntold, .int (nI Isounds), .int Itime, .ref Mstands, .int IstandMany, .ref Mtally, .ref MhasBox, .ref Mboxes], wI (cy 1) Mon 48 (Gon)] (fun (r : Int32) (k : Nat) => (r = nI k) ∧ (k ≤ 5) ∧ (nI k = nxR Gon sx wx)) (fun (k : Nat) => [wO m0 12 [.ref Mtape, .int (nI Itaped), .int (nI Ifault), .int IfaultPlace, .int (nI Iat), .int (nI Isize), .int Isort, .int Iplace, .int Inumber, .long Iword, .ref MnName, .ref MnStep, .ref MnArg, .ref MnMany, .ref Mstep, .ref Marg, .ref Mmany, .ref Mopen, .ref Mvalues, .ref MnHasForm, .ref MhasForm, .int (nI Iform), .int (nI Iopens), .int (nI InUnits), .int Iunits, .int (nI IownUnits), .int (nI Ideep), .ref Masks, .ref MnLoud, .ref MnCliffAt, .ref MnSnow, .ref MnManAt, .ref MnVoice, .ref MnOn, .ref Mloud, .ref McliffAt, .ref MsnowTold, .ref MmanAt, .ref Mvoice, .ref Mon, .ref MnYes, .ref Myes, .int (nI InWords), .int (nI InCliffs), .int (nI InMen), .int (nI InStates), .int (nI InOns), .int InWind, .int InDraw, .int (nI Iwords), .int (nI Icliffs), .int (nI Imen), .int (nI Istates), .int Ions, .int IwindTold, .int InHasWind, .int InHasDraw, .ref Mnow, .ref Mcry, .ref Msnow, .ref Mecho, .int (nI IcryMany), .int IcallPlace, .int IcallVoice, .int Iwind, .int Ichance, .int (nI IechoMany), .ref Mwere, .int (nI Iacts), .int (nI Iundone), .ref Mlies, .int (nI Ilain), .ref Mspots, .ref Msteps, .ref MfromState, .ref MbyWord, .ref Mqueue, .ref MsoundCliff, .ref MsoundLong, .ref MsoundCame, .ref MsoundTold, .ref MsoundUntold, .int (nI Isounds), .int Itime, .ref Mstands, .int IstandMany, .ref Mtally, .ref MhasBox, .ref Mboxes], wI (cy 1) Mon 48 (Gon)]) := by
  refine XMi.start (by decide) (Nat.le_of_ble_eq_true rfl) ?_
  intro p e s m below meth c args A ls Q hat hQ
  obtain ⟨hx, hb, hr, hml, hown, hg, hlocks, hin, hK, hA, hP, hD, hS, hE, hl⟩ := hat
  have hown : s.vm.findClass RX12 = some m.cls := hown
  have hl : lv_has ls 3 [(0, .ref m0), (1, .int (nI sx)), (2, .int (nI wx))] := hl
  refine lv_aload_n hx hb dX12_leadsTo_0 rfl (lv_at hl 0 rfl) ?_
  refine va_get (D := D) (ci := 12) (v := .ref Mon) (C := RX12) (T := TX12) (N := 89) hx hb hg i_X12 hown hK hP 0 rfl rfl 39 (by decide) (hg _ m_1452) (fun _ h9 => h9) rfl dX12_leadsTo_1 ?_
  refine lv_bipush (v := 8) hx hb dX12_leadsTo_4 (by decide) ?_
  refine lv_iload_n hx hb dX12_leadsTo_6 rfl (lv_at hl 1 rfl) ?_
  refine lv_imul hx hb dX12_leadsTo_7 ?_
  refine lv_topi (fun y_1 hy_1 => ?_)
  obtain rfl : y_1 = nI (8 * sx) := hy_1.trans (pk_mul 8 sx)
  refine lv_iload_n hx hb dX12_leadsTo_8 rfl (lv_at hl 2 rfl) ?_
  refine lv_iadd hx hb dX12_leadsTo_9 ?_
  refine lv_topi (fun y_2 hy_2 => ?_)
  obtain rfl : y_2 = nI ((8 * sx) + wx) := hy_2.trans (nI_add ((8 * sx)) wx)
  refine va_iald hx hb hK hP 1 1 rfl rfl (vp_in_nI (by omega) (by decide)) dX12_leadsTo_10 ?_
  refine lv_topi (fun x_3 ex_3 => ?_)
  have hnx_4 := nxT_at gon (T := ((8 * sx) + wx)) (by omega) ex_3
  refine lv_iconst (v := -1) hx hb dX12_leadsTo_11 (by decide) ?_
  refine lv_icmp_ne (tgt := 19) hx hb dX12_leadsTo_12 (by decide) (fun c_12 => ?_) (fun c_12 => ?_)
  · refine lv_aload_n hx hb dX12_leadsTo_19 rfl (lv_at hl 0 rfl) ?_
    refine va_get (D := D) (ci := 12) (v := .ref Mon) (C := RX12) (T := TX12) (N := 89) hx hb hg i_X12 hown hK hP 0 rfl rfl 39 (by decide) (hg _ m_1452) (fun _ h9 => h9) rfl dX12_leadsTo_20 ?_
    refine lv_bipush (v := 8) hx hb dX12_leadsTo_23 (by decide) ?_
    refine lv_iload_n hx hb dX12_leadsTo_25 rfl (lv_at hl 1 rfl) ?_
    refine lv_imul hx hb dX12_leadsTo_26 ?_
    refine lv_topi (fun y_5 hy_5 => ?_)
    obtain rfl : y_5 = nI (8 * sx) := hy_5.trans (pk_mul 8 sx)
    refine lv_iload_n hx hb dX12_leadsTo_27 rfl (lv_at hl 2 rfl) ?_
    refine lv_iadd hx hb dX12_leadsTo_28 ?_
    refine lv_topi (fun y_6 hy_6 => ?_)
    obtain rfl : y_6 = nI ((8 * sx) + wx) := hy_6.trans (nI_add ((8 * sx)) wx)
    refine va_iald hx hb hK hP 1 1 rfl rfl (vp_in_nI (by omega) (by decide)) dX12_leadsTo_29 ?_
    refine lv_topi (fun x_7 ex_7 => ?_)
    have hnx_8 := nxT_at gon (T := ((8 * sx) + wx)) (by omega) ex_7
    obtain ⟨j_9, hj_9, ej_9⟩ := hnx_8.resolve_left (fun h9 => c_12 (by rw [ex_3, ← ex_7]; exact h9))
    subst ej_9
    exact x_iret hQ hx hb hr hlocks hK hP hD hS dX12_leadsTo_30 j_9 (⟨rfl, (show j_9 ≤ 5 from by first | assumption | omega), (show nI j_9 = nxR Gon sx wx from nxR_no (by omega) (by omega) ex_3 c_12 ex_7)⟩) [0, 1] (by decide +kernel) rfl (Nat.le_of_ble_eq_true rfl) (Nat.le_of_ble_eq_true rfl)
  · refine lv_iload_n hx hb dX12_leadsTo_15 rfl (lv_at hl 1 rfl) ?_
    refine lv_goto (tgt := 30) hx hb dX12_leadsTo_16 (by decide) ?_
    exact x_iret hQ hx hb hr hlocks hK hP hD hS dX12_leadsTo_30 sx (⟨rfl, (show sx ≤ 5 from by first | assumption | omega), (show nI sx = nxR Gon sx wx from nxR_is (by omega) (by omega) ex_3 (by first | exact c_12 | exact Decidable.not_not.mp c_12))⟩) [0, 1] (by decide +kernel) rfl (Nat.le_of_ble_eq_true rfl) (Nat.le_of_ble_eq_true rfl)
theorem gdX12_isYes_0 : decode cX12_isYes 0 = .ok (.iconst 0, 1) ∧ decode cX12_isYes 1 = .ok (.istore_n 1, 1) ∧ decode cX12_isYes 2 = .ok (.iconst 0, 1) ∧ decode cX12_isYes 3 = .ok (.istore_n 2, 1) ∧ decode cX12_isYes 4 = .ok (.iload_n 2, 1) ∧ decode cX12_isYes 5 = .ok (.aload_n 0, 1) ∧ decode cX12_isYes 6 = .ok (.getfield 477, 3) ∧ decode cX12_isYes 9 = .ok (.if_icmp .ge 32, 3) ∧ decode cX12_isYes 41 = .ok (.aload_n 0, 1) ∧ decode cX12_isYes 42 = .ok (.getfield 412, 3) ∧ decode cX12_isYes 45 = .ok (.ifCond .le 16, 3) ∧ decode cX12_isYes 61 = .ok (.iconst 0, 1) := by decide +kernel
theorem dX12_isYes_0 : decode cX12_isYes 0 = .ok (.iconst 0, 1) := gdX12_isYes_0.1
theorem dX12_isYes_1 : decode cX12_isYes 1 = .ok (.istore_n 1, 1) := gdX12_isYes_0.2.1
theorem dX12_isYes_2 : decode cX12_isYes 2 = .ok (.iconst 0, 1) := gdX12_isYes_0.2.2.1
theorem dX12_isYes_3 : decode cX12_isYes 3 = .ok (.istore_n 2, 1) := gdX12_isYes_0.2.2.2.1
theorem dX12_isYes_4 : decode cX12_isYes 4 = .ok (.iload_n 2, 1) := gdX12_isYes_0.2.2.2.2.1
theorem dX12_isYes_5 : decode cX12_isYes 5 = .ok (.aload_n 0, 1) := gdX12_isYes_0.2.2.2.2.2.1
theorem dX12_isYes_6 : decode cX12_isYes 6 = .ok (.getfield 477, 3) := gdX12_isYes_0.2.2.2.2.2.2.1
theorem dX12_isYes_9 : decode cX12_isYes 9 = .ok (.if_icmp .ge 32, 3) := gdX12_isYes_0.2.2.2.2.2.2.2.1
theorem dX12_isYes_41 : decode cX12_isYes 41 = .ok (.aload_n 0, 1) := gdX12_isYes_0.2.2.2.2.2.2.2.2.1
theorem dX12_isYes_42 : decode cX12_isYes 42 = .ok (.getfield 412, 3) := gdX12_isYes_0.2.2.2.2.2.2.2.2.2.1
theorem dX12_isYes_45 : decode cX12_isYes 45 = .ok (.ifCond .le 16, 3) := gdX12_isYes_0.2.2.2.2.2.2.2.2.2.2.1
theorem dX12_isYes_61 : decode cX12_isYes 61 = .ok (.iconst 0, 1) := gdX12_isYes_0.2.2.2.2.2.2.2.2.2.2.2
theorem gdX12_isYes_62 : decode cX12_isYes 62 = .ok (.ireturn, 1) ∧ decode cX12_isYes 48 = .ok (.aload_n 0, 1) ∧ decode cX12_isYes 49 = .ok (.getfield 94, 3) ∧ decode cX12_isYes 52 = .ok (.iload_n 1, 1) ∧ decode cX12_isYes 53 = .ok (.baload, 1) ∧ decode cX12_isYes 54 = .ok (.ifCond .eq 7, 3) ∧ decode cX12_isYes 57 = .ok (.iconst 1, 1) ∧ decode cX12_isYes 58 = .ok (.goto 4, 3) ∧ decode cX12_isYes 12 = .ok (.aload_n 0, 1) ∧ decode cX12_isYes 13 = .ok (.getfield 412, 3) ∧ decode cX12_isYes 16 = .ok (.ifCond .le 17, 3) ∧ decode cX12_isYes 33 = .ok (.iconst 0, 1) := by decide +kernel
theorem dX12_isYes_62 : decode cX12_isYes 62 = .ok (.ireturn, 1) := gdX12_isYes_62.1
theorem dX12_isYes_48 : decode cX12_isYes 48 = .ok (.aload_n 0, 1) := gdX12_isYes_62.2.1
theorem dX12_isYes_49 : decode cX12_isYes 49 = .ok (.getfield 94, 3) := gdX12_isYes_62.2.2.1
theorem dX12_isYes_52 : decode cX12_isYes 52 = .ok (.iload_n 1, 1) := gdX12_isYes_62.2.2.2.1
theorem dX12_isYes_53 : decode cX12_isYes 53 = .ok (.baload, 1) := gdX12_isYes_62.2.2.2.2.1
theorem dX12_isYes_54 : decode cX12_isYes 54 = .ok (.ifCond .eq 7, 3) := gdX12_isYes_62.2.2.2.2.2.1
theorem dX12_isYes_57 : decode cX12_isYes 57 = .ok (.iconst 1, 1) := gdX12_isYes_62.2.2.2.2.2.2.1
theorem dX12_isYes_58 : decode cX12_isYes 58 = .ok (.goto 4, 3) := gdX12_isYes_62.2.2.2.2.2.2.2.1
theorem dX12_isYes_12 : decode cX12_isYes 12 = .ok (.aload_n 0, 1) := gdX12_isYes_62.2.2.2.2.2.2.2.2.1
theorem dX12_isYes_13 : decode cX12_isYes 13 = .ok (.getfield 412, 3) := gdX12_isYes_62.2.2.2.2.2.2.2.2.2.1
theorem dX12_isYes_16 : decode cX12_isYes 16 = .ok (.ifCond .le 17, 3) := gdX12_isYes_62.2.2.2.2.2.2.2.2.2.2.1
theorem dX12_isYes_33 : decode cX12_isYes 33 = .ok (.iconst 0, 1) := gdX12_isYes_62.2.2.2.2.2.2.2.2.2.2.2
theorem gdX12_isYes_34 : decode cX12_isYes 34 = .ok (.istore_n 1, 1) ∧ decode cX12_isYes 35 = .ok (.iinc 2 1, 3) ∧ decode cX12_isYes 38 = .ok (.goto (-34), 3) ∧ decode cX12_isYes 19 = .ok (.aload_n 0, 1) ∧ decode cX12_isYes 20 = .ok (.iload_n 1, 1) ∧ decode cX12_isYes 21 = .ok (.aload_n 0, 1) ∧ decode cX12_isYes 22 = .ok (.getfield 106, 3) ∧ decode cX12_isYes 25 = .ok (.iload_n 2, 1) ∧ decode cX12_isYes 26 = .ok (.iaload, 1) ∧ decode cX12_isYes 27 = .ok (.invokevirtual 491, 3) := by decide +kernel
theorem dX12_isYes_34 : decode cX12_isYes 34 = .ok (.istore_n 1, 1) := gdX12_isYes_34.1
theorem dX12_isYes_35 : decode cX12_isYes 35 = .ok (.iinc 2 1, 3) := gdX12_isYes_34.2.1
theorem dX12_isYes_38 : decode cX12_isYes 38 = .ok (.goto (-34), 3) := gdX12_isYes_34.2.2.1
theorem dX12_isYes_19 : decode cX12_isYes 19 = .ok (.aload_n 0, 1) := gdX12_isYes_34.2.2.2.1
theorem dX12_isYes_20 : decode cX12_isYes 20 = .ok (.iload_n 1, 1) := gdX12_isYes_34.2.2.2.2.1
theorem dX12_isYes_21 : decode cX12_isYes 21 = .ok (.aload_n 0, 1) := gdX12_isYes_34.2.2.2.2.2.1
theorem dX12_isYes_22 : decode cX12_isYes 22 = .ok (.getfield 106, 3) := gdX12_isYes_34.2.2.2.2.2.2.1
theorem dX12_isYes_25 : decode cX12_isYes 25 = .ok (.iload_n 2, 1) := gdX12_isYes_34.2.2.2.2.2.2.2.1
theorem dX12_isYes_26 : decode cX12_isYes 26 = .ok (.iaload, 1) := gdX12_isYes_34.2.2.2.2.2.2.2.2.1
theorem dX12_isYes_27 : decode cX12_isYes 27 = .ok (.invokevirtual 491, 3) := gdX12_isYes_34.2.2.2.2.2.2.2.2.2
theorem k_X12_491 : xV RX12 RX12 491 yX12_leadsTo cX12_leadsTo 3 (some .int) 2 := ⟨⟨m_1897, m_1899, m_100, m_146, m_1900⟩, rfl, by decide, by decide, by decide +kernel⟩
theorem dX12_isYes_30 : decode cX12_isYes 30 = .ok (.goto 4, 3) := by decide +kernel
set_option maxHeartbeats 1000000 in
set_option maxRecDepth 100000 in
theorem r_isYes (l : Launch) (D : va_G) (cy : Nat → ClassId) (m0 : Nat) (Mtape : Nat) (MnName : Nat) (MnStep : Nat) (MnArg : Nat) (MnMany : Nat) (Mstep : Nat) (Marg : Nat) (Mmany : Nat) (Mopen : Nat) (Mvalues : Nat) (MnHasForm : Nat) (MhasForm : Nat) (Masks : Nat) (MnLoud : Nat) (MnCliffAt : Nat) (MnSnow : Nat) (MnManAt : Nat) (MnVoice : Nat) (MnOn : Nat) (Mloud : Nat) (McliffAt : Nat) (MsnowTold : Nat) (MmanAt : Nat) (Mvoice : Nat) (Mon : Nat) (MnYes : Nat) (Myes : Nat) (Mnow : Nat) (Mcry : Nat) (Msnow : Nat) (Mecho : Nat) (Mwere : Nat) (Mlies : Nat) (Mspots : Nat) (Msteps : Nat) (MfromState : Nat) (MbyWord : Nat) (Mqueue : Nat) (MsoundCliff : Nat) (MsoundLong : Nat) (MsoundCame : Nat) (MsoundTold : Nat) (MsoundUntold : Nat) (Mstands : Nat) (Mtally : Nat) (MhasBox : Nat) (Mboxes : Nat) (Itaped : Nat) (Ifault : Nat) (IfaultPlace : Int32) (Iat : Nat) (Isize : Nat) (Isort : Int32) (Iplace : Int32) (Inumber : Int32) (Iword : Int64) (Iform : Nat) (Iopens : Nat) (InUnits : Nat) (Iunits : Int32) (IownUnits : Nat) (Ideep : Nat) (Gon : Nat → Int32) (Gyes : Nat → Int32) (InWords : Nat) (InCliffs : Nat) (InMen : Nat) (InStates : Nat) (InOns : Nat) (InWind : Int32) (InDraw : Int32) (Iwords : Nat) (Icliffs : Nat) (Imen : Nat) (Istates : Nat) (Ions : Int32) (IwindTold : Int32) (InHasWind : Int32) (InHasDraw : Int32) (Gecho : Nat → Int32) (IcryMany : Nat) (IcallPlace : Int32) (IcallVoice : Int32) (Iwind : Int32) (Ichance : Int32) (IechoMany : Nat) (Iacts : Nat) (Iundone : Nat) (Ilain : Nat) (Isounds : Nat) (Itime : Int32) (IstandMany : Int32) (gtp : Itaped ≤ 1600) (gat : Iat ≤ Isize) (gsz : Isize ≤ 1600) (gfl : Ifault ≤ 5) (gfo : Iform ≤ 2) (gnw : InWords ≤ 8) (gnc : InCliffs ≤ 4) (gnm : InMen ≤ 4) (gns : InStates ≤ 6) (gw : Iwords ≤ 8) (gc9 : Icliffs ≤ 4) (gm : Imen ≤ 4) (gs : Istates ≤ 6) (gcm : IcryMany ≤ 10) (gem : IechoMany ≤ 20) (gau : Iacts + Iundone ≤ 40) (gla : Ilain ≤ 20) (gso : Isounds ≤ 30) (gop : Iopens ≤ 40) (gde : Ideep ≤ 8) (gou : IownUnits ≤ 31) (gnu : InUnits ≤ 61) (gno : InOns ≤ 30) (gech : rng Gecho 20 7) (gon : nxT Gon) : XMi l D (tyL cy) E0 yX12_isYes cX12_isYes 3 (some .boolean) (rmk 1 0 0) [.ref m0] [wO m0 12 [.ref Mtape, .int (nI Itaped), .int (nI Ifault), .int IfaultPlace, .int (nI Iat), .int (nI Isize), .int Isort, .int Iplace, .int Inumber, .long Iword, .ref MnName, .ref MnStep, .ref MnArg, .ref MnMany, .ref Mstep, .ref Marg, .ref Mmany, .ref Mopen, .ref Mvalues, .ref MnHasForm, .ref MhasForm, .int (nI Iform), .int (nI Iopens), .int (nI InUnits), .int Iunits, .int (nI IownUnits), .int (nI Ideep), .ref Masks, .ref MnLoud, .ref MnCliffAt, .ref MnSnow, .ref MnManAt, .ref MnVoice, .ref MnOn, .ref Mloud, .ref McliffAt, .ref MsnowTold, .ref MmanAt, .ref Mvoice, .ref Mon, .ref MnYes, .ref Myes, .int (nI InWords), .int (nI InCliffs), .int (nI InMen), .int (nI InStates), .int (nI InOns), .int InWind, .int InDraw, .int (nI Iwords), .int (nI Icliffs), .int (nI Imen), .int (nI Istates), .int Ions, .int IwindTold, .int InHasWind, .int InHasDraw, .ref Mnow, .ref Mcry, .ref Msnow, .ref Mecho, .int (nI IcryMany), .int IcallPlace, .int IcallVoice, .int Iwind, .int Ichance, .int (nI IechoMany), .ref Mwere, .int (nI Iacts), .int (nI Iundone), .ref Mlies, .int (nI Ilain), .ref Mspots, .ref Msteps, .ref MfromState, .ref MbyWord, .ref Mqueue, .ref MsoundCliff, .ref MsoundLong, .ref MsoundCame, .ref MsoundTold, .ref MsoundUntold, .int (nI Isounds), .int Itime, .ref Mstands, .int IstandMany, .ref Mtally, .ref MhasBox, .ref Mboxes], wI (cy 1) Mon 48 (Gon), wI (cy 1) Mecho 20 (Gecho), wI (cy 3) Myes 6 (Gyes)] (fun (r : Int32) (_ : Unit) => (r = 0 ∨ r = 1) ∧ (bR r (yeB Gon Gyes Gecho Istates IechoMany))) (fun (_ : Unit) => [wO m0 12 [.ref Mtape, .int (nI Itaped), .int (nI Ifault), .int IfaultPlace, .int (nI Iat), .int (nI Isize), .int Isort, .int Iplace, .int Inumber, .long Iword, .ref MnName, .ref MnStep, .ref MnArg, .ref MnMany, .ref Mstep, .ref Marg, .ref Mmany, .ref Mopen, .ref Mvalues, .ref MnHasForm, .ref MhasForm, .int (nI Iform), .int (nI Iopens), .int (nI InUnits), .int Iunits, .int (nI IownUnits), .int (nI Ideep), .ref Masks, .ref MnLoud, .ref MnCliffAt, .ref MnSnow, .ref MnManAt, .ref MnVoice, .ref MnOn, .ref Mloud, .ref McliffAt, .ref MsnowTold, .ref MmanAt, .ref Mvoice, .ref Mon, .ref MnYes, .ref Myes, .int (nI InWords), .int (nI InCliffs), .int (nI InMen), .int (nI InStates), .int (nI InOns), .int InWind, .int InDraw, .int (nI Iwords), .int (nI Icliffs), .int (nI Imen), .int (nI Istates), .int Ions, .int IwindTold, .int InHasWind, .int InHasDraw, .ref Mnow, .ref Mcry, .ref Msnow, .ref Mecho, .int (nI IcryMany), .int IcallPlace, .int IcallVoice, .int Iwind, .int Ichance, .int (nI IechoMany), .ref Mwere, .int (nI Iacts), .int (nI Iundone), .ref Mlies, .int (nI Ilain), .ref Mspots, .ref Msteps, .ref MfromState, .ref MbyWord, .ref Mqueue, .ref MsoundCliff, .ref MsoundLong, .ref MsoundCame, .ref MsoundTold, .ref MsoundUntold, .int (nI Isounds), .int Itime, .ref Mstands, .int IstandMany, .ref Mtally, .ref MhasBox, .ref Mboxes], wI (cy 1) Mon 48 (Gon), wI (cy 1) Mecho 20 (Gecho), wI (cy 3) Myes 6 (Gyes)]) := by
  refine XMi.start (by decide) (Nat.le_of_ble_eq_true rfl) ?_
  intro p e s m below meth c args A ls Q hat hQ
  obtain ⟨hx, hb, hr, hml, hown, hg, hlocks, hin, hK, hA, hP, hD, hS, hE, hl⟩ := hat
  have hown : s.vm.findClass RX12 = some m.cls := hown
  have hl : lv_has ls 3 [(0, .ref m0)] := hl
  refine lv_iconst (v := 0) hx hb dX12_isYes_0 (by decide) ?_
  refine lv_istore_n (lv' := [(1, .int 0), (0, .ref m0)]) hx hb dX12_isYes_1 rfl hl (by decide) rfl (fun ls hl => ?_)
  refine lv_iconst (v := 0) hx hb dX12_isYes_2 (by decide) ?_
  refine lv_istore_n (lv' := [(2, .int 0), (1, .int 0), (0, .ref m0)]) hx hb dX12_isYes_3 rfl hl (by decide) rfl (fun ls hl => ?_)
  have loop1 : ∀ (zn : Nat) (sx1 : Nat) (k1 : Nat), (k1 ≤ IechoMany) → (sx1 ≤ 5) → (sx1 = if 0 < Istates then stB Gon Gecho k1 else 0) → IechoMany - k1 + 1 ≤ zn → ∀ (H : Heap) (locs : List Loc), va_P D vwCl [wO m0 12 [.ref Mtape, .int (nI Itaped), .int (nI Ifault), .int IfaultPlace, .int (nI Iat), .int (nI Isize), .int Isort, .int Iplace, .int Inumber, .long Iword, .ref MnName, .ref MnStep, .ref MnArg, .ref MnMany, .ref Mstep, .ref Marg, .ref Mmany, .ref Mopen, .ref Mvalues, .ref MnHasForm, .ref MhasForm, .int (nI Iform), .int (nI Iopens), .int (nI InUnits), .int Iunits, .int (nI IownUnits), .int (nI Ideep), .ref Masks, .ref MnLoud, .ref MnCliffAt, .ref MnSnow, .ref MnManAt, .ref MnVoice, .ref MnOn, .ref Mloud, .ref McliffAt, .ref MsnowTold, .ref MmanAt, .ref Mvoice, .ref Mon, .ref MnYes, .ref Myes, .int (nI InWords), .int (nI InCliffs), .int (nI InMen), .int (nI InStates), .int (nI InOns), .int InWind, .int InDraw, .int (nI Iwords), .int (nI Icliffs), .int (nI Imen), .int (nI Istates), .int Ions, .int IwindTold, .int InHasWind, .int InHasDraw, .ref Mnow, .ref Mcry, .ref Msnow, .ref Mecho, .int (nI IcryMany), .int IcallPlace, .int IcallVoice, .int Iwind, .int Ichance, .int (nI IechoMany), .ref Mwere, .int (nI Iacts), .int (nI Iundone), .ref Mlies, .int (nI Ilain), .ref Mspots, .ref Msteps, .ref MfromState, .ref MbyWord, .ref Mqueue, .ref MsoundCliff, .ref MsoundLong, .ref MsoundCame, .ref MsoundTold, .ref MsoundUntold, .int (nI Isounds), .int Itime, .ref Mstands, .int IstandMany, .ref Mtally, .ref MhasBox, .ref Mboxes], wI (cy 1) Mon 48 (Gon), wI (cy 1) Mecho 20 (Gecho), wI (cy 3) Myes 6 (Gyes)] H → va_D A [wO m0 12 [.ref Mtape, .int (nI Itaped), .int (nI Ifault), .int IfaultPlace, .int (nI Iat), .int (nI Isize), .int Isort, .int Iplace, .int Inumber, .long Iword, .ref MnName, .ref MnStep, .ref MnArg, .ref MnMany, .ref Mstep, .ref Marg, .ref Mmany, .ref Mopen, .ref Mvalues, .ref MnHasForm, .ref MhasForm, .int (nI Iform), .int (nI Iopens), .int (nI InUnits), .int Iunits, .int (nI IownUnits), .int (nI Ideep), .ref Masks, .ref MnLoud, .ref MnCliffAt, .ref MnSnow, .ref MnManAt, .ref MnVoice, .ref MnOn, .ref Mloud, .ref McliffAt, .ref MsnowTold, .ref MmanAt, .ref Mvoice, .ref Mon, .ref MnYes, .ref Myes, .int (nI InWords), .int (nI InCliffs), .int (nI InMen), .int (nI InStates), .int (nI InOns), .int InWind, .int InDraw, .int (nI Iwords), .int (nI Icliffs), .int (nI Imen), .int (nI Istates), .int Ions, .int IwindTold, .int InHasWind, .int InHasDraw, .ref Mnow, .ref Mcry, .ref Msnow, .ref Mecho, .int (nI IcryMany), .int IcallPlace, .int IcallVoice, .int Iwind, .int Ichance, .int (nI IechoMany), .ref Mwere, .int (nI Iacts), .int (nI Iundone), .ref Mlies, .int (nI Ilain), .ref Mspots, .ref Msteps, .ref MfromState, .ref MbyWord, .ref Mqueue, .ref MsoundCliff, .ref MsoundLong, .ref MsoundCame, .ref MsoundTold, .ref MsoundUntold, .int (nI Isounds), .int Itime, .ref Mstands, .int IstandMany, .ref Mtally, .ref MhasBox, .ref Mboxes], wI (cy 1) Mon 48 (Gon), wI (cy 1) Mecho 20 (Gecho), wI (cy 3) Myes 6 (Gyes)] → va_S A s.heap H locs → ∀ ls : Array Slot, lv_has ls 3 [(2, .int (nI k1)), (1, .int (nI sx1)), (0, .ref m0)] → W p l e (rmk 1 0 0) s m args below meth c H locs 0 0 Q (F0 m 4 ls []) := by
    try clear hP hD hS
    intro zn
    induction zn with
    | zero => intro sx1 k1 _ _ _ hz; exact absurd hz (by omega)
    | succ zn ih1 =>
      intro sx1 k1 hf0_1 hf1_1 hf2_1 hmu1 H locs hP hD hS ls hl
      refine lv_iload_n hx hb dX12_isYes_4 rfl (lv_at hl 0 rfl) ?_
      refine lv_aload_n hx hb dX12_isYes_5 rfl (lv_at hl 2 rfl) ?_
      refine va_get (D := D) (ci := 12) (v := .int (nI IechoMany)) (C := RX12) (T := TX12) (N := 89) hx hb hg i_X12 hown hK hP 0 rfl rfl 66 (by decide) (hg _ m_1479) (fun _ h9 => h9) rfl dX12_isYes_6 ?_
      refine lv_icmp_ge (tgt := 41) hx hb dX12_isYes_9 (by decide) (fun c_2 => ?_) (fun c_2 => ?_)
      · have q_3 : IechoMany ≤ k1 := q_le (a := IechoMany) (b := k1) rfl rfl (by omega) (by omega) c_2
        refine lv_aload_n hx hb dX12_isYes_41 rfl (lv_at hl 2 rfl) ?_
        refine va_get (D := D) (ci := 12) (v := .int (nI Istates)) (C := RX12) (T := TX12) (N := 89) hx hb hg i_X12 hown hK hP 0 rfl rfl 52 (by decide) (hg _ m_1465) (fun _ h9 => h9) rfl dX12_isYes_42 ?_
        refine lv_if_le (tgt := 61) hx hb dX12_isYes_45 (by decide) (fun c_4 => ?_) (fun c_4 => ?_)
        · have q_5 : Istates ≤ 0 := q_le (a := Istates) (b := 0) rfl rfl (by omega) (by omega) c_4
          refine lv_iconst (v := 0) hx hb dX12_isYes_61 (by decide) ?_
          exact x_zret hQ hx hb hr hlocks hK hP hD hS rfl dX12_isYes_62 () (⟨(Or.inl rfl), (show bR (0 : Int32) (yeB Gon Gyes Gecho Istates IechoMany) from bR_0 (yeB_0 (by omega)))⟩) [0, 1, 2, 3] (by decide +kernel) rfl (Nat.le_of_ble_eq_true rfl) (Nat.le_of_ble_eq_true rfl)
        · have q_5 : 0 < Istates := q_nle (a := Istates) (b := 0) rfl rfl (by omega) (by omega) c_4
          refine lv_aload_n hx hb dX12_isYes_48 rfl (lv_at hl 2 rfl) ?_
          refine va_get (D := D) (ci := 12) (v := .ref Myes) (C := RX12) (T := TX12) (N := 89) hx hb hg i_X12 hown hK hP 0 rfl rfl 41 (by decide) (hg _ m_1454) (fun _ h9 => h9) rfl dX12_isYes_49 ?_
          refine lv_iload_n hx hb dX12_isYes_52 rfl (lv_at hl 1 rfl) ?_
          refine va_zald hx hb hK hP 3 3 rfl rfl (vp_in_nI (by omega) (by decide)) dX12_isYes_53 ?_
          refine lv_topi (fun x_6 ex_6 => ?_)
          refine lv_if_eq (tgt := 61) hx hb dX12_isYes_54 (by decide) (fun c_54 => ?_) (fun c_54 => ?_)
          · refine lv_iconst (v := 0) hx hb dX12_isYes_61 (by decide) ?_
            exact x_zret hQ hx hb hr hlocks hK hP hD hS rfl dX12_isYes_62 () (⟨(Or.inl rfl), (show bR (0 : Int32) (yeB Gon Gyes Gecho Istates IechoMany) from bR_0 (yeB_f (by omega) (by have h8 := hf2_1; rw [show k1 = IechoMany by omega, if_pos (by omega)] at h8; exact h8) (by omega) ex_6 c_54))⟩) [0, 1, 2, 3] (by decide +kernel) rfl (Nat.le_of_ble_eq_true rfl) (Nat.le_of_ble_eq_true rfl)
          · refine lv_iconst (v := 1) hx hb dX12_isYes_57 (by decide) ?_
            refine lv_goto (tgt := 62) hx hb dX12_isYes_58 (by decide) ?_
            exact x_zret hQ hx hb hr hlocks hK hP hD hS rfl dX12_isYes_62 () (⟨(Or.inr rfl), (show bR (1 : Int32) (yeB Gon Gyes Gecho Istates IechoMany) from bR_1 (yeB_t (by omega) (by have h8 := hf2_1; rw [show k1 = IechoMany by omega, if_pos (by omega)] at h8; exact h8) (by omega) ex_6 c_54))⟩) [0, 1, 2, 3] (by decide +kernel) rfl (Nat.le_of_ble_eq_true rfl) (Nat.le_of_ble_eq_true rfl)
      · have q_3 : k1 < IechoMany := q_nle (a := IechoMany) (b := k1) rfl rfl (by omega) (by omega) c_2
        refine lv_aload_n hx hb dX12_isYes_12 rfl (lv_at hl 2 rfl) ?_
        refine va_get (D := D) (ci := 12) (v := .int (nI Istates)) (C := RX12) (T := TX12) (N := 89) hx hb hg i_X12 hown hK hP 0 rfl rfl 52 (by decide) (hg _ m_1465) (fun _ h9 => h9) rfl dX12_isYes_13 ?_
        refine lv_if_le (tgt := 33) hx hb dX12_isYes_16 (by decide) (fun c_7 => ?_) (fun c_7 => ?_)
        · have q_8 : Istates ≤ 0 := q_le (a := Istates) (b := 0) rfl rfl (by omega) (by omega) c_7
          refine lv_iconst (v := 0) hx hb dX12_isYes_33 (by decide) ?_
          refine lv_istore_n (lv' := [(1, .int 0), (2, .int (nI k1)), (0, .ref m0)]) hx hb dX12_isYes_34 rfl hl (by decide) rfl (fun ls hl => ?_)
          refine lv_iinc (v := nI (k1 + 1)) (lv' := [(2, .int (nI (k1 + 1))), (1, .int 0), (0, .ref m0)]) hx hb dX12_isYes_35 hl (k := 1) rfl (nI_add k1 1) (by decide) rfl (fun ls hl => ?_)
          refine lv_goto (tgt := 4) hx hb dX12_isYes_38 (by decide) ?_
          exact ih1  0 ((k1 + 1)) (by first | assumption | omega) (by first | assumption | omega) ((if_neg (by omega)).symm) (by omega) _ _ (hP.sub [0, 1, 2, 3] rfl) (hD.sub [0, 1, 2, 3] (by decide +kernel) rfl) hS ls (lv_sub hl [0, 1, 2] rfl)
        · have q_8 : 0 < Istates := q_nle (a := Istates) (b := 0) rfl rfl (by omega) (by omega) c_7
          refine lv_aload_n hx hb dX12_isYes_19 rfl (lv_at hl 2 rfl) ?_
          refine lv_iload_n hx hb dX12_isYes_20 rfl (lv_at hl 1 rfl) ?_
          refine lv_aload_n hx hb dX12_isYes_21 rfl (lv_at hl 2 rfl) ?_
          refine va_get (D := D) (ci := 12) (v := .ref Mecho) (C := RX12) (T := TX12) (N := 89) hx hb hg i_X12 hown hK hP 0 rfl rfl 60 (by decide) (hg _ m_1473) (fun _ h9 => h9) rfl dX12_isYes_22 ?_
          refine lv_iload_n hx hb dX12_isYes_25 rfl (lv_at hl 0 rfl) ?_
          refine va_iald hx hb hK hP 2 1 rfl rfl (vp_in_nI (by omega) (by decide)) dX12_isYes_26 ?_
          obtain ⟨j_9, hj_9, ej_9⟩ := rng_at gech (i := k1) (by omega) (by decide)
          refine lv_topi (fun y_10 hy_10 => ?_)
          obtain rfl : y_10 = nI j_9 := hy_10.trans ej_9
          refine x_callVi (q := (RX12, TX12, 89)) (ci := 12) (q0 := 0) (wr := [wI (cy 1) Mecho 20 (Gecho), wI (cy 3) Myes 6 (Gyes)]) (rest := []) ⟨hx, hb, hml, hown, hg, hl.1⟩ k_X12_491 (r_leadsTo l D cy m0 Mtape MnName MnStep MnArg MnMany Mstep Marg Mmany Mopen Mvalues MnHasForm MhasForm Masks MnLoud MnCliffAt MnSnow MnManAt MnVoice MnOn Mloud McliffAt MsnowTold MmanAt Mvoice Mon MnYes Myes Mnow Mcry Msnow Mecho Mwere Mlies Mspots Msteps MfromState MbyWord Mqueue MsoundCliff MsoundLong MsoundCame MsoundTold MsoundUntold Mstands Mtally MhasBox Mboxes Itaped Ifault IfaultPlace Iat Isize Isort Iplace Inumber Iword Iform Iopens InUnits Iunits IownUnits Ideep Gon InWords InCliffs InMen InStates InOns InWind InDraw Iwords Icliffs Imen Istates Ions IwindTold InHasWind InHasDraw IcryMany IcallPlace IcallVoice Iwind Ichance IechoMany Iacts Iundone Ilain Isounds Itime IstandMany sx1 j_9 (by first | assumption | omega) (by first | assumption | omega) (by first | assumption | omega) (by first | assumption | omega) (by first | assumption | omega) (by first | assumption | omega) (by first | assumption | omega) (by first | assumption | omega) (by first | assumption | omega) (by first | assumption | omega) (by first | assumption | omega) (by first | assumption | omega) (by first | assumption | omega) (by first | assumption | omega) (by first | assumption | omega) (by first | assumption | omega) (by first | assumption | omega) (by first | assumption | omega) (by first | assumption | omega) (by first | assumption | omega) (by first | assumption | omega) (by first | assumption | omega) (by first | assumption | omega) (gon) (by first | assumption | omega) (by first | assumption | omega)) E0_blind hK hP hD hS hA [0, 1] [2, 3] ⟨rfl, rfl, by decide +kernel, by decide +kernel, by decide +kernel⟩ rfl rfl (fun _ _ _ => trivial) dX12_isYes_27 rfl rfl (Nat.le_of_ble_eq_true rfl) ⟨Nat.le_of_ble_eq_true rfl, Nat.le_of_ble_eq_true rfl⟩ ⟨Nat.le_of_ble_eq_true rfl, Nat.le_of_ble_eq_true rfl⟩ (fun zr11 zu11 H locs hw11 hP9 hD9 hS9 => ?_)
          clear hP hD hS
          obtain ⟨k_12, rfl⟩ : ∃ z, z = zu11 := ⟨_, rfl⟩
          refine reW [wI (cy 1) Mecho 20 (Gecho), wI (cy 3) Myes 6 (Gyes), wO m0 12 [.ref Mtape, .int (nI Itaped), .int (nI Ifault), .int IfaultPlace, .int (nI Iat), .int (nI Isize), .int Isort, .int Iplace, .int Inumber, .long Iword, .ref MnName, .ref MnStep, .ref MnArg, .ref MnMany, .ref Mstep, .ref Marg, .ref Mmany, .ref Mopen, .ref Mvalues, .ref MnHasForm, .ref MhasForm, .int (nI Iform), .int (nI Iopens), .int (nI InUnits), .int Iunits, .int (nI IownUnits), .int (nI Ideep), .ref Masks, .ref MnLoud, .ref MnCliffAt, .ref MnSnow, .ref MnManAt, .ref MnVoice, .ref MnOn, .ref Mloud, .ref McliffAt, .ref MsnowTold, .ref MmanAt, .ref Mvoice, .ref Mon, .ref MnYes, .ref Myes, .int (nI InWords), .int (nI InCliffs), .int (nI InMen), .int (nI InStates), .int (nI InOns), .int InWind, .int InDraw, .int (nI Iwords), .int (nI Icliffs), .int (nI Imen), .int (nI Istates), .int Ions, .int IwindTold, .int InHasWind, .int InHasDraw, .ref Mnow, .ref Mcry, .ref Msnow, .ref Mecho, .int (nI IcryMany), .int IcallPlace, .int IcallVoice, .int Iwind, .int Ichance, .int (nI IechoMany), .ref Mwere, .int (nI Iacts), .int (nI Iundone), .ref Mlies, .int (nI Ilain), .ref Mspots, .ref Msteps, .ref MfromState, .ref MbyWord, .ref Mqueue, .ref MsoundCliff, .ref MsoundLong, .ref MsoundCame, .ref MsoundTold, .ref MsoundUntold, .int (nI Isounds), .int Itime, .ref Mstands, .int IstandMany, .ref Mtally, .ref MhasBox, .ref Mboxes], wI (cy 1) Mon 48 (Gon)] hP9 hD9 hS9 (fun hP hD hS => ?_)
          clear hP9 hD9 hS9
          refine W.widen (k := 0) (n := 0) (Nat.le_of_ble_eq_true rfl) (Nat.le_of_ble_eq_true rfl) ?_
          change (zr11 = nI k_12) ∧ (k_12 ≤ 5) ∧ (nI k_12 = nxR Gon sx1 j_9) at hw11
          obtain ⟨f_13, f_14, f_15⟩ := hw11
          subst f_13
          refine lv_goto (tgt := 34) hx hb dX12_isYes_30 (by decide) ?_
          refine lv_istore_n (lv' := [(1, .int (nI k_12)), (2, .int (nI k1)), (0, .ref m0)]) hx hb dX12_isYes_34 rfl hl (by decide) rfl (fun ls hl => ?_)
          refine lv_iinc (v := nI (k1 + 1)) (lv' := [(2, .int (nI (k1 + 1))), (1, .int (nI k_12)), (0, .ref m0)]) hx hb dX12_isYes_35 hl (k := 1) rfl (nI_add k1 1) (by decide) rfl (fun ls hl => ?_)
          refine lv_goto (tgt := 4) hx hb dX12_isYes_38 (by decide) ?_
          exact ih1  k_12 ((k1 + 1)) (by first | assumption | omega) (by first | assumption | omega) ((by rw [if_pos (by omega)]; exact stB_go (by omega) (hf2_1.trans (if_pos (by omega))) ej_9 (by omega) f_15 (by omega))) (by omega) _ _ (hP.sub [2, 3, 0, 1] rfl) (hD.sub [2, 3, 0, 1] (by decide +kernel) rfl) hS ls (lv_sub hl [0, 1, 2] rfl)
  exact loop1 _ 0 0 (by first | assumption | omega) (by first | assumption | omega) ((by split <;> rfl)) (Nat.le_refl _) _ _ (hP.sub [0, 1, 2, 3] rfl) (hD.sub [0, 1, 2, 3] (by decide +kernel) rfl) hS ls (lv_sub hl [0, 1, 2] rfl)
theorem gdX12_bindsAtHand_0 : decode cX12_bindsAtHand 0 = .ok (.iconst (-1), 1) ∧ decode cX12_bindsAtHand 1 = .ok (.istore_n 1, 1) ∧ decode cX12_bindsAtHand 2 = .ok (.iconst 0, 1) ∧ decode cX12_bindsAtHand 3 = .ok (.istore_n 2, 1) ∧ decode cX12_bindsAtHand 4 = .ok (.iload_n 2, 1) ∧ decode cX12_bindsAtHand 5 = .ok (.aload_n 0, 1) ∧ decode cX12_bindsAtHand 6 = .ok (.getfield 406, 3) ∧ decode cX12_bindsAtHand 9 = .ok (.if_icmp .ge 40, 3) ∧ decode cX12_bindsAtHand 49 = .ok (.iload_n 1, 1) ∧ decode cX12_bindsAtHand 50 = .ok (.ireturn, 1) ∧ decode cX12_bindsAtHand 12 = .ok (.aload_n 0, 1) ∧ decode cX12_bindsAtHand 13 = .ok (.iload_n 2, 1) := by decide +kernel
theorem dX12_bindsAtHand_0 : decode cX12_bindsAtHand 0 = .ok (.iconst (-1), 1) := gdX12_bindsAtHand_0.1
theorem dX12_bindsAtHand_1 : decode cX12_bindsAtHand 1 = .ok (.istore_n 1, 1) := gdX12_bindsAtHand_0.2.1
theorem dX12_bindsAtHand_2 : decode cX12_bindsAtHand 2 = .ok (.iconst 0, 1) := gdX12_bindsAtHand_0.2.2.1
theorem dX12_bindsAtHand_3 : decode cX12_bindsAtHand 3 = .ok (.istore_n 2, 1) := gdX12_bindsAtHand_0.2.2.2.1
theorem dX12_bindsAtHand_4 : decode cX12_bindsAtHand 4 = .ok (.iload_n 2, 1) := gdX12_bindsAtHand_0.2.2.2.2.1
theorem dX12_bindsAtHand_5 : decode cX12_bindsAtHand 5 = .ok (.aload_n 0, 1) := gdX12_bindsAtHand_0.2.2.2.2.2.1
theorem dX12_bindsAtHand_6 : decode cX12_bindsAtHand 6 = .ok (.getfield 406, 3) := gdX12_bindsAtHand_0.2.2.2.2.2.2.1
theorem dX12_bindsAtHand_9 : decode cX12_bindsAtHand 9 = .ok (.if_icmp .ge 40, 3) := gdX12_bindsAtHand_0.2.2.2.2.2.2.2.1
theorem dX12_bindsAtHand_49 : decode cX12_bindsAtHand 49 = .ok (.iload_n 1, 1) := gdX12_bindsAtHand_0.2.2.2.2.2.2.2.2.1
theorem dX12_bindsAtHand_50 : decode cX12_bindsAtHand 50 = .ok (.ireturn, 1) := gdX12_bindsAtHand_0.2.2.2.2.2.2.2.2.2.1
theorem dX12_bindsAtHand_12 : decode cX12_bindsAtHand 12 = .ok (.aload_n 0, 1) := gdX12_bindsAtHand_0.2.2.2.2.2.2.2.2.2.2.1
theorem dX12_bindsAtHand_13 : decode cX12_bindsAtHand 13 = .ok (.iload_n 2, 1) := gdX12_bindsAtHand_0.2.2.2.2.2.2.2.2.2.2.2
theorem dX12_bindsAtHand_14 : decode cX12_bindsAtHand 14 = .ok (.invokevirtual 494, 3) := by decide +kernel
theorem k_X12_494 : xV RX12 RX12 494 yX12_sendFrom cX12_sendFrom 2 none 1 := ⟨⟨m_1948, m_1950, m_108, m_146, m_1951⟩, rfl, by decide, by decide, by decide +kernel⟩
theorem gdX12_bindsAtHand_17 : decode cX12_bindsAtHand 17 = .ok (.aload_n 0, 1) ∧ decode cX12_bindsAtHand 18 = .ok (.getfield 477, 3) ∧ decode cX12_bindsAtHand 21 = .ok (.ifCond .le 22, 3) ∧ decode cX12_bindsAtHand 43 = .ok (.iinc 2 1, 3) ∧ decode cX12_bindsAtHand 46 = .ok (.goto (-42), 3) ∧ decode cX12_bindsAtHand 24 = .ok (.iload_n 1, 1) ∧ decode cX12_bindsAtHand 25 = .ok (.ifCond .lt 16, 3) ∧ decode cX12_bindsAtHand 41 = .ok (.iload_n 2, 1) ∧ decode cX12_bindsAtHand 42 = .ok (.istore_n 1, 1) ∧ decode cX12_bindsAtHand 28 = .ok (.aload_n 0, 1) ∧ decode cX12_bindsAtHand 29 = .ok (.iload_n 2, 1) ∧ decode cX12_bindsAtHand 30 = .ok (.invokevirtual 474, 3) := by decide +kernel
theorem dX12_bindsAtHand_17 : decode cX12_bindsAtHand 17 = .ok (.aload_n 0, 1) := gdX12_bindsAtHand_17.1
theorem dX12_bindsAtHand_18 : decode cX12_bindsAtHand 18 = .ok (.getfield 477, 3) := gdX12_bindsAtHand_17.2.1
theorem dX12_bindsAtHand_21 : decode cX12_bindsAtHand 21 = .ok (.ifCond .le 22, 3) := gdX12_bindsAtHand_17.2.2.1
theorem dX12_bindsAtHand_43 : decode cX12_bindsAtHand 43 = .ok (.iinc 2 1, 3) := gdX12_bindsAtHand_17.2.2.2.1
theorem dX12_bindsAtHand_46 : decode cX12_bindsAtHand 46 = .ok (.goto (-42), 3) := gdX12_bindsAtHand_17.2.2.2.2.1
theorem dX12_bindsAtHand_24 : decode cX12_bindsAtHand 24 = .ok (.iload_n 1, 1) := gdX12_bindsAtHand_17.2.2.2.2.2.1
theorem dX12_bindsAtHand_25 : decode cX12_bindsAtHand 25 = .ok (.ifCond .lt 16, 3) := gdX12_bindsAtHand_17.2.2.2.2.2.2.1
theorem dX12_bindsAtHand_41 : decode cX12_bindsAtHand 41 = .ok (.iload_n 2, 1) := gdX12_bindsAtHand_17.2.2.2.2.2.2.2.1
theorem dX12_bindsAtHand_42 : decode cX12_bindsAtHand 42 = .ok (.istore_n 1, 1) := gdX12_bindsAtHand_17.2.2.2.2.2.2.2.2.1
theorem dX12_bindsAtHand_28 : decode cX12_bindsAtHand 28 = .ok (.aload_n 0, 1) := gdX12_bindsAtHand_17.2.2.2.2.2.2.2.2.2.1
theorem dX12_bindsAtHand_29 : decode cX12_bindsAtHand 29 = .ok (.iload_n 2, 1) := gdX12_bindsAtHand_17.2.2.2.2.2.2.2.2.2.2.1
theorem dX12_bindsAtHand_30 : decode cX12_bindsAtHand 30 = .ok (.invokevirtual 474, 3) := gdX12_bindsAtHand_17.2.2.2.2.2.2.2.2.2.2.2
theorem gdX12_bindsAtHand_33 : decode cX12_bindsAtHand 33 = .ok (.aload_n 0, 1) ∧ decode cX12_bindsAtHand 34 = .ok (.iload_n 1, 1) ∧ decode cX12_bindsAtHand 35 = .ok (.invokevirtual 474, 3) ∧ decode cX12_bindsAtHand 38 = .ok (.if_icmp .ge 5, 3) := by decide +kernel
theorem dX12_bindsAtHand_33 : decode cX12_bindsAtHand 33 = .ok (.aload_n 0, 1) := gdX12_bindsAtHand_33.1
theorem dX12_bindsAtHand_34 : decode cX12_bindsAtHand 34 = .ok (.iload_n 1, 1) := gdX12_bindsAtHand_33.2.1
theorem dX12_bindsAtHand_35 : decode cX12_bindsAtHand 35 = .ok (.invokevirtual 474, 3) := gdX12_bindsAtHand_33.2.2.1
theorem dX12_bindsAtHand_38 : decode cX12_bindsAtHand 38 = .ok (.if_icmp .ge 5, 3) := gdX12_bindsAtHand_33.2.2.2
set_option maxHeartbeats 1000000 in
set_option maxRecDepth 100000 in
theorem r_bindsAtHand (l : Launch) (D : va_G) (cy : Nat → ClassId) (m0 : Nat) (Mtape : Nat) (MnName : Nat) (MnStep : Nat) (MnArg : Nat) (MnMany : Nat) (Mstep : Nat) (Marg : Nat) (Mmany : Nat) (Mopen : Nat) (Mvalues : Nat) (MnHasForm : Nat) (MhasForm : Nat) (Masks : Nat) (MnLoud : Nat) (MnCliffAt : Nat) (MnSnow : Nat) (MnManAt : Nat) (MnVoice : Nat) (MnOn : Nat) (Mloud : Nat) (McliffAt : Nat) (MsnowTold : Nat) (MmanAt : Nat) (Mvoice : Nat) (Mon : Nat) (MnYes : Nat) (Myes : Nat) (Mnow : Nat) (Mcry : Nat) (Msnow : Nat) (Mecho : Nat) (Mwere : Nat) (Mlies : Nat) (Mspots : Nat) (Msteps : Nat) (MfromState : Nat) (MbyWord : Nat) (Mqueue : Nat) (MsoundCliff : Nat) (MsoundLong : Nat) (MsoundCame : Nat) (MsoundTold : Nat) (MsoundUntold : Nat) (Mstands : Nat) (Mtally : Nat) (MhasBox : Nat) (Mboxes : Nat) (Itaped : Nat) (Ifault : Nat) (IfaultPlace : Int32) (Iat : Nat) (Isize : Nat) (Isort : Int32) (Iplace : Int32) (Inumber : Int32) (Iword : Int64) (Gstep : Nat → Int32) (Garg : Nat → Int32) (Gmany : Nat → Int32) (Gvalues : Nat → Int32) (GhasForm : Nat → Int32) (Iform : Nat) (Iopens : Nat) (InUnits : Nat) (Iunits : Int32) (IownUnits : Nat) (Ideep : Nat) (Gasks : Nat → Int32) (Gloud : Nat → Int32) (GcliffAt : Nat → Int32) (InWords : Nat) (InCliffs : Nat) (InMen : Nat) (InStates : Nat) (InOns : Nat) (InWind : Int32) (InDraw : Int32) (Iwords : Nat) (Icliffs : Nat) (Imen : Nat) (Istates : Nat) (Ions : Int32) (IwindTold : Int32) (InHasWind : Int32) (InHasDraw : Int32) (Gcry : Nat → Int32) (Gsnow : Nat → Int32) (Gecho : Nat → Int32) (IcryMany : Nat) (IcallPlace : Int32) (IcallVoice : Int32) (Iwind : Int32) (Ichance : Int32) (IechoMany : Nat) (Iacts : Nat) (Iundone : Nat) (Ilain : Nat) (Isounds : Nat) (Itime : Int32) (IstandMany : Int32) (am : Nat → Nat) (AH : Nat → Nat → Nat) (gtp : Itaped ≤ 1600) (gat : Iat ≤ Isize) (gsz : Isize ≤ 1600) (gfl : Ifault ≤ 5) (gfo : Iform ≤ 2) (gnw : InWords ≤ 8) (gnc : InCliffs ≤ 4) (gnm : InMen ≤ 4) (gns : InStates ≤ 6) (gw : Iwords ≤ 8) (gc9 : Icliffs ≤ 4) (gm : Imen ≤ 4) (gs : Istates ≤ 6) (gcm : IcryMany ≤ 10) (gem : IechoMany ≤ 20) (gau : Iacts + Iundone ≤ 40) (gla : Ilain ≤ 20) (gso : Isounds ≤ 30) (gop : Iopens ≤ 40) (gde : Ideep ≤ 8) (gou : IownUnits ≤ 31) (gnu : InUnits ≤ 61) (gno : InOns ≤ 30) (gfm : ∀ k9 : Nat, k9 < 3 → ¬ GhasForm k9 = 0 → 1 ≤ am k9) (gcry : rng Gcry 10 7) (gech : rng Gecho 20 7) (gal2 : allR Gstep Garg Gmany am AH) : XMi l D (tyL cy) E0 yX12_bindsAtHand cX12_bindsAtHand 3 (some .int) (rmk 6 0 0) [.ref m0] [wO m0 12 [.ref Mtape, .int (nI Itaped), .int (nI Ifault), .int IfaultPlace, .int (nI Iat), .int (nI Isize), .int Isort, .int Iplace, .int Inumber, .long Iword, .ref MnName, .ref MnStep, .ref MnArg, .ref MnMany, .ref Mstep, .ref Marg, .ref Mmany, .ref Mopen, .ref Mvalues, .ref MnHasForm, .ref MhasForm, .int (nI Iform), .int (nI Iopens), .int (nI InUnits), .int Iunits, .int (nI IownUnits), .int (nI Ideep), .ref Masks, .ref MnLoud, .ref MnCliffAt, .ref MnSnow, .ref MnManAt, .ref MnVoice, .ref MnOn, .ref Mloud, .ref McliffAt, .ref MsnowTold, .ref MmanAt, .ref Mvoice, .ref Mon, .ref MnYes, .ref Myes, .int (nI InWords), .int (nI InCliffs), .int (nI InMen), .int (nI InStates), .int (nI InOns), .int InWind, .int InDraw, .int (nI Iwords), .int (nI Icliffs), .int (nI Imen), .int (nI Istates), .int Ions, .int IwindTold, .int InHasWind, .int InHasDraw, .ref Mnow, .ref Mcry, .ref Msnow, .ref Mecho, .int (nI IcryMany), .int IcallPlace, .int IcallVoice, .int Iwind, .int Ichance, .int (nI IechoMany), .ref Mwere, .int (nI Iacts), .int (nI Iundone), .ref Mlies, .int (nI Ilain), .ref Mspots, .ref Msteps, .ref MfromState, .ref MbyWord, .ref Mqueue, .ref MsoundCliff, .ref MsoundLong, .ref MsoundCame, .ref MsoundTold, .ref MsoundUntold, .int (nI Isounds), .int Itime, .ref Mstands, .int IstandMany, .ref Mtally, .ref MhasBox, .ref Mboxes], wI (cy 1) Mstep 960 (Gstep), wI (cy 1) Marg 960 (Garg), wI (cy 1) Mmany 3 (Gmany), wI (cy 1) Mvalues 64 (Gvalues), wI (cy 1) Masks 7 (Gasks), wI (cy 3) MhasForm 3 (GhasForm), wI (cy 1) McliffAt 4 (GcliffAt), wI (cy 1) Msnow 4 (Gsnow), wI (cy 1) Mloud 8 (Gloud), wI (cy 1) Mcry 10 (Gcry), wI (cy 1) Mecho 20 (Gecho)] (fun (r : Int32) (u : (Nat → Int32) × (Nat → Int32) × (Nat → Int32) × Nat) => (u.2.2.2 ≤ 20) ∧ (rng u.2.2.1 20 7) ∧ (r = -1 ∨ ∃ j9 : Nat, j9 < Icliffs ∧ r = nI j9) ∧ (r = bdS (fun c9 => ecS (vlM GhasForm Gstep Garg am 0 3) (vlM GhasForm Gstep Garg am 1 0) (vlM GhasForm Gstep Garg am 2 0) Gloud (ofR IcallPlace (GcliffAt c9)) Iwind (Gsnow c9) IcallVoice Ichance Gcry IcryMany) (fun c9 => ofR IcallPlace (GcliffAt c9)) Icliffs)) (fun (u : (Nat → Int32) × (Nat → Int32) × (Nat → Int32) × Nat) => [wO m0 12 [.ref Mtape, .int (nI Itaped), .int (nI Ifault), .int IfaultPlace, .int (nI Iat), .int (nI Isize), .int Isort, .int Iplace, .int Inumber, .long Iword, .ref MnName, .ref MnStep, .ref MnArg, .ref MnMany, .ref Mstep, .ref Marg, .ref Mmany, .ref Mopen, .ref Mvalues, .ref MnHasForm, .ref MhasForm, .int (nI Iform), .int (nI Iopens), .int (nI InUnits), .int Iunits, .int (nI IownUnits), .int (nI Ideep), .ref Masks, .ref MnLoud, .ref MnCliffAt, .ref MnSnow, .ref MnManAt, .ref MnVoice, .ref MnOn, .ref Mloud, .ref McliffAt, .ref MsnowTold, .ref MmanAt, .ref Mvoice, .ref Mon, .ref MnYes, .ref Myes, .int (nI InWords), .int (nI InCliffs), .int (nI InMen), .int (nI InStates), .int (nI InOns), .int InWind, .int InDraw, .int (nI Iwords), .int (nI Icliffs), .int (nI Imen), .int (nI Istates), .int Ions, .int IwindTold, .int InHasWind, .int InHasDraw, .ref Mnow, .ref Mcry, .ref Msnow, .ref Mecho, .int (nI IcryMany), .int IcallPlace, .int IcallVoice, .int Iwind, .int Ichance, .int (nI u.2.2.2), .ref Mwere, .int (nI Iacts), .int (nI Iundone), .ref Mlies, .int (nI Ilain), .ref Mspots, .ref Msteps, .ref MfromState, .ref MbyWord, .ref Mqueue, .ref MsoundCliff, .ref MsoundLong, .ref MsoundCame, .ref MsoundTold, .ref MsoundUntold, .int (nI Isounds), .int Itime, .ref Mstands, .int IstandMany, .ref Mtally, .ref MhasBox, .ref Mboxes], wI (cy 1) Mstep 960 (Gstep), wI (cy 1) Marg 960 (Garg), wI (cy 1) Mmany 3 (Gmany), wI (cy 1) Mvalues 64 (u.1), wI (cy 1) Masks 7 (u.2.1), wI (cy 3) MhasForm 3 (GhasForm), wI (cy 1) McliffAt 4 (GcliffAt), wI (cy 1) Msnow 4 (Gsnow), wI (cy 1) Mloud 8 (Gloud), wI (cy 1) Mcry 10 (Gcry), wI (cy 1) Mecho 20 (u.2.2.1)]) := by
  refine XMi.start (by decide) (Nat.le_of_ble_eq_true rfl) ?_
  intro p e s m below meth c args A ls Q hat hQ
  obtain ⟨hx, hb, hr, hml, hown, hg, hlocks, hin, hK, hA, hP, hD, hS, hE, hl⟩ := hat
  have hown : s.vm.findClass RX12 = some m.cls := hown
  have hl : lv_has ls 3 [(0, .ref m0)] := hl
  refine lv_iconst (v := -1) hx hb dX12_bindsAtHand_0 (by decide) ?_
  refine lv_istore_n (lv' := [(1, .int (-1)), (0, .ref m0)]) hx hb dX12_bindsAtHand_1 rfl hl (by decide) rfl (fun ls hl => ?_)
  refine lv_iconst (v := 0) hx hb dX12_bindsAtHand_2 (by decide) ?_
  refine lv_istore_n (lv' := [(2, .int 0), (1, .int (-1)), (0, .ref m0)]) hx hb dX12_bindsAtHand_3 rfl hl (by decide) rfl (fun ls hl => ?_)
  have loop1 : ∀ (zn : Nat) (be1 : Int32) (k1 : Nat) (eq1 : Nat) (fa3_1 : Nat → Int32) (fa4_1 : Nat → Int32) (fa5_1 : Nat → Int32), (rng fa3_1 20 7) → (k1 ≤ Icliffs) → (be1 = -1 ∨ ∃ j9 : Nat, j9 < Icliffs ∧ be1 = nI j9) → (eq1 ≤ 20) → (be1 = bdS (fun c9 => ecS (vlM GhasForm Gstep Garg am 0 3) (vlM GhasForm Gstep Garg am 1 0) (vlM GhasForm Gstep Garg am 2 0) Gloud (ofR IcallPlace (GcliffAt c9)) Iwind (Gsnow c9) IcallVoice Ichance Gcry IcryMany) (fun c9 => ofR IcallPlace (GcliffAt c9)) k1) → Icliffs - k1 + 1 ≤ zn → ∀ (H : Heap) (locs : List Loc), va_P D vwCl [wO m0 12 [.ref Mtape, .int (nI Itaped), .int (nI Ifault), .int IfaultPlace, .int (nI Iat), .int (nI Isize), .int Isort, .int Iplace, .int Inumber, .long Iword, .ref MnName, .ref MnStep, .ref MnArg, .ref MnMany, .ref Mstep, .ref Marg, .ref Mmany, .ref Mopen, .ref Mvalues, .ref MnHasForm, .ref MhasForm, .int (nI Iform), .int (nI Iopens), .int (nI InUnits), .int Iunits, .int (nI IownUnits), .int (nI Ideep), .ref Masks, .ref MnLoud, .ref MnCliffAt, .ref MnSnow, .ref MnManAt, .ref MnVoice, .ref MnOn, .ref Mloud, .ref McliffAt, .ref MsnowTold, .ref MmanAt, .ref Mvoice, .ref Mon, .ref MnYes, .ref Myes, .int (nI InWords), .int (nI InCliffs), .int (nI InMen), .int (nI InStates), .int (nI InOns), .int InWind, .int InDraw, .int (nI Iwords), .int (nI Icliffs), .int (nI Imen), .int (nI Istates), .int Ions, .int IwindTold, .int InHasWind, .int InHasDraw, .ref Mnow, .ref Mcry, .ref Msnow, .ref Mecho, .int (nI IcryMany), .int IcallPlace, .int IcallVoice, .int Iwind, .int Ichance, .int (nI eq1), .ref Mwere, .int (nI Iacts), .int (nI Iundone), .ref Mlies, .int (nI Ilain), .ref Mspots, .ref Msteps, .ref MfromState, .ref MbyWord, .ref Mqueue, .ref MsoundCliff, .ref MsoundLong, .ref MsoundCame, .ref MsoundTold, .ref MsoundUntold, .int (nI Isounds), .int Itime, .ref Mstands, .int IstandMany, .ref Mtally, .ref MhasBox, .ref Mboxes], wI (cy 1) Mstep 960 (Gstep), wI (cy 1) Marg 960 (Garg), wI (cy 1) Mmany 3 (Gmany), wI (cy 1) Mvalues 64 (fa5_1), wI (cy 1) Masks 7 (fa4_1), wI (cy 3) MhasForm 3 (GhasForm), wI (cy 1) McliffAt 4 (GcliffAt), wI (cy 1) Msnow 4 (Gsnow), wI (cy 1) Mloud 8 (Gloud), wI (cy 1) Mcry 10 (Gcry), wI (cy 1) Mecho 20 (fa3_1)] H → va_D A [wO m0 12 [.ref Mtape, .int (nI Itaped), .int (nI Ifault), .int IfaultPlace, .int (nI Iat), .int (nI Isize), .int Isort, .int Iplace, .int Inumber, .long Iword, .ref MnName, .ref MnStep, .ref MnArg, .ref MnMany, .ref Mstep, .ref Marg, .ref Mmany, .ref Mopen, .ref Mvalues, .ref MnHasForm, .ref MhasForm, .int (nI Iform), .int (nI Iopens), .int (nI InUnits), .int Iunits, .int (nI IownUnits), .int (nI Ideep), .ref Masks, .ref MnLoud, .ref MnCliffAt, .ref MnSnow, .ref MnManAt, .ref MnVoice, .ref MnOn, .ref Mloud, .ref McliffAt, .ref MsnowTold, .ref MmanAt, .ref Mvoice, .ref Mon, .ref MnYes, .ref Myes, .int (nI InWords), .int (nI InCliffs), .int (nI InMen), .int (nI InStates), .int (nI InOns), .int InWind, .int InDraw, .int (nI Iwords), .int (nI Icliffs), .int (nI Imen), .int (nI Istates), .int Ions, .int IwindTold, .int InHasWind, .int InHasDraw, .ref Mnow, .ref Mcry, .ref Msnow, .ref Mecho, .int (nI IcryMany), .int IcallPlace, .int IcallVoice, .int Iwind, .int Ichance, .int (nI eq1), .ref Mwere, .int (nI Iacts), .int (nI Iundone), .ref Mlies, .int (nI Ilain), .ref Mspots, .ref Msteps, .ref MfromState, .ref MbyWord, .ref Mqueue, .ref MsoundCliff, .ref MsoundLong, .ref MsoundCame, .ref MsoundTold, .ref MsoundUntold, .int (nI Isounds), .int Itime, .ref Mstands, .int IstandMany, .ref Mtally, .ref MhasBox, .ref Mboxes], wI (cy 1) Mstep 960 (Gstep), wI (cy 1) Marg 960 (Garg), wI (cy 1) Mmany 3 (Gmany), wI (cy 1) Mvalues 64 (fa5_1), wI (cy 1) Masks 7 (fa4_1), wI (cy 3) MhasForm 3 (GhasForm), wI (cy 1) McliffAt 4 (GcliffAt), wI (cy 1) Msnow 4 (Gsnow), wI (cy 1) Mloud 8 (Gloud), wI (cy 1) Mcry 10 (Gcry), wI (cy 1) Mecho 20 (fa3_1)] → va_S A s.heap H locs → ∀ ls : Array Slot, lv_has ls 3 [(2, .int (nI k1)), (1, .int be1), (0, .ref m0)] → W p l e (rmk 6 0 0) s m args below meth c H locs 0 0 Q (F0 m 4 ls []) := by
    try clear hP hD hS
    intro zn
    induction zn with
    | zero => intro be1 k1 eq1 fa3_1 fa4_1 fa5_1 _ _ _ _ _ hz; exact absurd hz (by omega)
    | succ zn ih1 =>
      intro be1 k1 eq1 fa3_1 fa4_1 fa5_1 ha4_1 hf0_1 hf1_1 hf2_1 hf3_1 hmu1 H locs hP hD hS ls hl
      refine lv_iload_n hx hb dX12_bindsAtHand_4 rfl (lv_at hl 0 rfl) ?_
      refine lv_aload_n hx hb dX12_bindsAtHand_5 rfl (lv_at hl 2 rfl) ?_
      refine va_get (D := D) (ci := 12) (v := .int (nI Icliffs)) (C := RX12) (T := TX12) (N := 89) hx hb hg i_X12 hown hK hP 0 rfl rfl 50 (by decide) (hg _ m_1463) (fun _ h9 => h9) rfl dX12_bindsAtHand_6 ?_
      refine lv_icmp_ge (tgt := 49) hx hb dX12_bindsAtHand_9 (by decide) (fun c_2 => ?_) (fun c_2 => ?_)
      · have q_3 : Icliffs ≤ k1 := q_le (a := Icliffs) (b := k1) rfl rfl (by omega) (by omega) c_2
        refine lv_iload_n hx hb dX12_bindsAtHand_49 rfl (lv_at hl 1 rfl) ?_
        exact x_iret hQ hx hb hr hlocks hK hP hD hS dX12_bindsAtHand_50 (fa5_1, fa4_1, fa3_1, eq1) (⟨(show eq1 ≤ 20 from by first | assumption | omega), ha4_1, (show (be1 : Int32) = -1 ∨ ∃ j9 : Nat, j9 < Icliffs ∧ (be1 : Int32) = nI j9 from hf1_1), (show (be1 : Int32) = bdS (fun c9 => ecS (vlM GhasForm Gstep Garg am 0 3) (vlM GhasForm Gstep Garg am 1 0) (vlM GhasForm Gstep Garg am 2 0) Gloud (ofR IcallPlace (GcliffAt c9)) Iwind (Gsnow c9) IcallVoice Ichance Gcry IcryMany) (fun c9 => ofR IcallPlace (GcliffAt c9)) Icliffs from (by have h8 := hf3_1; rw [show k1 = Icliffs by omega] at h8; exact h8))⟩) [0, 1, 2, 3, 4, 5, 6, 7, 8, 9, 10, 11] (by decide +kernel) rfl (Nat.le_of_ble_eq_true rfl) (Nat.le_of_ble_eq_true rfl)
      · have q_3 : k1 < Icliffs := q_nle (a := Icliffs) (b := k1) rfl rfl (by omega) (by omega) c_2
        refine lv_aload_n hx hb dX12_bindsAtHand_12 rfl (lv_at hl 2 rfl) ?_
        refine lv_iload_n hx hb dX12_bindsAtHand_13 rfl (lv_at hl 0 rfl) ?_
        refine x_callVv (q := (RX12, TX12, 89)) (ci := 12) (q0 := 0) (wr := []) (rest := []) ⟨hx, hb, hml, hown, hg, hl.1⟩ k_X12_494 (r_sendFrom l D cy m0 Mtape MnName MnStep MnArg MnMany Mstep Marg Mmany Mopen Mvalues MnHasForm MhasForm Masks MnLoud MnCliffAt MnSnow MnManAt MnVoice MnOn Mloud McliffAt MsnowTold MmanAt Mvoice Mon MnYes Myes Mnow Mcry Msnow Mecho Mwere Mlies Mspots Msteps MfromState MbyWord Mqueue MsoundCliff MsoundLong MsoundCame MsoundTold MsoundUntold Mstands Mtally MhasBox Mboxes Itaped Ifault IfaultPlace Iat Isize Isort Iplace Inumber Iword Gstep Garg Gmany fa5_1 GhasForm Iform Iopens InUnits Iunits IownUnits Ideep fa4_1 Gloud GcliffAt InWords InCliffs InMen InStates InOns InWind InDraw Iwords Icliffs Imen Istates Ions IwindTold InHasWind InHasDraw Gcry Gsnow fa3_1 IcryMany IcallPlace IcallVoice Iwind Ichance eq1 Iacts Iundone Ilain Isounds Itime IstandMany am AH k1 (by first | assumption | omega) (by first | assumption | omega) (by first | assumption | omega) (by first | assumption | omega) (by first | assumption | omega) (by first | assumption | omega) (by first | assumption | omega) (by first | assumption | omega) (by first | assumption | omega) (by first | assumption | omega) (by first | assumption | omega) (by first | assumption | omega) (by first | assumption | omega) (by first | assumption | omega) (by first | assumption | omega) (by first | assumption | omega) (by first | assumption | omega) (by first | assumption | omega) (by first | assumption | omega) (by first | assumption | omega) (by first | assumption | omega) (by first | assumption | omega) (by first | assumption | omega) (gfm) (gcry) (ha4_1) (gal2) (by first | assumption | omega)) E0_blind hK hP hD hS hA [0, 1, 2, 3, 4, 5, 6, 7, 8, 9, 10, 11] [] ⟨rfl, rfl, by decide +kernel, by decide +kernel, by decide +kernel⟩ rfl rfl (fun _ _ _ => trivial) dX12_bindsAtHand_14 rfl rfl (Nat.le_of_ble_eq_true rfl) ⟨Nat.le_of_ble_eq_true rfl, Nat.le_of_ble_eq_true rfl⟩ ⟨Nat.le_of_ble_eq_true rfl, Nat.le_of_ble_eq_true rfl⟩ (fun zu4 H locs hw4 hP9 hD9 hS9 => ?_)
        clear hP hD hS
        obtain ⟨Gvalues2_5, Gasks2_6, Gecho2_7, IechoMany2_8⟩ := zu4
        refine reW [wO m0 12 [.ref Mtape, .int (nI Itaped), .int (nI Ifault), .int IfaultPlace, .int (nI Iat), .int (nI Isize), .int Isort, .int Iplace, .int Inumber, .long Iword, .ref MnName, .ref MnStep, .ref MnArg, .ref MnMany, .ref Mstep, .ref Marg, .ref Mmany, .ref Mopen, .ref Mvalues, .ref MnHasForm, .ref MhasForm, .int (nI Iform), .int (nI Iopens), .int (nI InUnits), .int Iunits, .int (nI IownUnits), .int (nI Ideep), .ref Masks, .ref MnLoud, .ref MnCliffAt, .ref MnSnow, .ref MnManAt, .ref MnVoice, .ref MnOn, .ref Mloud, .ref McliffAt, .ref MsnowTold, .ref MmanAt, .ref Mvoice, .ref Mon, .ref MnYes, .ref Myes, .int (nI InWords), .int (nI InCliffs), .int (nI InMen), .int (nI InStates), .int (nI InOns), .int InWind, .int InDraw, .int (nI Iwords), .int (nI Icliffs), .int (nI Imen), .int (nI Istates), .int Ions, .int IwindTold, .int InHasWind, .int InHasDraw, .ref Mnow, .ref Mcry, .ref Msnow, .ref Mecho, .int (nI IcryMany), .int IcallPlace, .int IcallVoice, .int Iwind, .int Ichance, .int (nI IechoMany2_8), .ref Mwere, .int (nI Iacts), .int (nI Iundone), .ref Mlies, .int (nI Ilain), .ref Mspots, .ref Msteps, .ref MfromState, .ref MbyWord, .ref Mqueue, .ref MsoundCliff, .ref MsoundLong, .ref MsoundCame, .ref MsoundTold, .ref MsoundUntold, .int (nI Isounds), .int Itime, .ref Mstands, .int IstandMany, .ref Mtally, .ref MhasBox, .ref Mboxes], wI (cy 1) Mstep 960 (Gstep), wI (cy 1) Marg 960 (Garg), wI (cy 1) Mmany 3 (Gmany), wI (cy 1) Mvalues 64 (Gvalues2_5), wI (cy 1) Masks 7 (Gasks2_6), wI (cy 3) MhasForm 3 (GhasForm), wI (cy 1) McliffAt 4 (GcliffAt), wI (cy 1) Msnow 4 (Gsnow), wI (cy 1) Mloud 8 (Gloud), wI (cy 1) Mcry 10 (Gcry), wI (cy 1) Mecho 20 (Gecho2_7)] hP9 hD9 hS9 (fun hP hD hS => ?_)
        clear hP9 hD9 hS9
        refine W.widen (k := 0) (n := 0) (Nat.le_of_ble_eq_true rfl) (Nat.le_of_ble_eq_true rfl) ?_
        change (IechoMany2_8 ≤ 20) ∧ (rng Gecho2_7 20 7) ∧ (IechoMany2_8 ≤ IcryMany) ∧ (exC fa3_1 0 Gecho2_7 IechoMany2_8 (ecS (vlM GhasForm Gstep Garg am 0 3) (vlM GhasForm Gstep Garg am 1 0) (vlM GhasForm Gstep Garg am 2 0) Gloud (ofR IcallPlace (GcliffAt k1)) Iwind (Gsnow k1) IcallVoice Ichance Gcry IcryMany)) at hw4
        obtain ⟨f_9, f_10, f_11, f_12⟩ := hw4
        refine lv_aload_n hx hb dX12_bindsAtHand_17 rfl (lv_at hl 2 rfl) ?_
        refine va_get (D := D) (ci := 12) (v := .int (nI IechoMany2_8)) (C := RX12) (T := TX12) (N := 89) hx hb hg i_X12 hown hK hP 0 rfl rfl 66 (by decide) (hg _ m_1479) (fun _ h9 => h9) rfl dX12_bindsAtHand_18 ?_
        refine lv_if_le (tgt := 43) hx hb dX12_bindsAtHand_21 (by decide) (fun c_13 => ?_) (fun c_13 => ?_)
        · have q_14 : IechoMany2_8 ≤ 0 := q_le (a := IechoMany2_8) (b := 0) rfl rfl (by omega) (by omega) c_13
          refine lv_iinc (v := nI (k1 + 1)) (lv' := [(2, .int (nI (k1 + 1))), (1, .int be1), (0, .ref m0)]) hx hb dX12_bindsAtHand_43 hl (k := 0) rfl (nI_add k1 1) (by decide) rfl (fun ls hl => ?_)
          refine lv_goto (tgt := 4) hx hb dX12_bindsAtHand_46 (by decide) ?_
          exact ih1  be1 ((k1 + 1)) IechoMany2_8 Gecho2_7 Gasks2_6 Gvalues2_5 f_10 (by first | assumption | omega) (hf1_1) (by first | assumption | omega) (bd_none (E := (fun c9 => ecS (vlM GhasForm Gstep Garg am 0 3) (vlM GhasForm Gstep Garg am 1 0) (vlM GhasForm Gstep Garg am 2 0) Gloud (ofR IcallPlace (GcliffAt c9)) Iwind (Gsnow c9) IcallVoice Ichance Gcry IcryMany)) (far := (fun c9 => ofR IcallPlace (GcliffAt c9))) (c := k1) hf3_1 (exC_nil f_12 (by omega))) (by omega) _ _ (hP.sub [0, 1, 2, 3, 4, 5, 6, 7, 8, 9, 10, 11] rfl) (hD.sub [0, 1, 2, 3, 4, 5, 6, 7, 8, 9, 10, 11] (by decide +kernel) rfl) hS ls (lv_sub hl [0, 1, 2] rfl)
        · have q_14 : 0 < IechoMany2_8 := q_nle (a := IechoMany2_8) (b := 0) rfl rfl (by omega) (by omega) c_13
          refine lv_iload_n hx hb dX12_bindsAtHand_24 rfl (lv_at hl 1 rfl) ?_
          refine lv_if_lt (tgt := 41) hx hb dX12_bindsAtHand_25 (by decide) (fun c_25 => ?_) (fun c_25 => ?_)
          · refine lv_iload_n hx hb dX12_bindsAtHand_41 rfl (lv_at hl 0 rfl) ?_
            refine lv_istore_n (lv' := [(1, .int (nI k1)), (2, .int (nI k1)), (0, .ref m0)]) hx hb dX12_bindsAtHand_42 rfl hl (by decide) rfl (fun ls hl => ?_)
            refine lv_iinc (v := nI (k1 + 1)) (lv' := [(2, .int (nI (k1 + 1))), (1, .int (nI k1)), (0, .ref m0)]) hx hb dX12_bindsAtHand_43 hl (k := 1) rfl (nI_add k1 1) (by decide) rfl (fun ls hl => ?_)
            refine lv_goto (tgt := 4) hx hb dX12_bindsAtHand_46 (by decide) ?_
            exact ih1  (nI k1) ((k1 + 1)) IechoMany2_8 Gecho2_7 Gasks2_6 Gvalues2_5 f_10 (by first | assumption | omega) (Or.inr ⟨k1, by omega, rfl⟩) (by first | assumption | omega) (bd_b0 (E := (fun c9 => ecS (vlM GhasForm Gstep Garg am 0 3) (vlM GhasForm Gstep Garg am 1 0) (vlM GhasForm Gstep Garg am 2 0) Gloud (ofR IcallPlace (GcliffAt c9)) Iwind (Gsnow c9) IcallVoice Ichance Gcry IcryMany)) (far := (fun c9 => ofR IcallPlace (GcliffAt c9))) (c := k1) hf3_1 (hf1_1.resolve_right (fun ⟨j9, h8, e9⟩ => nI_pos (n := j9) (by omega) (e9 ▸ c_25))) (exC_cons f_12 (by omega))) (by omega) _ _ (hP.sub [0, 1, 2, 3, 4, 5, 6, 7, 8, 9, 10, 11] rfl) (hD.sub [0, 1, 2, 3, 4, 5, 6, 7, 8, 9, 10, 11] (by decide +kernel) rfl) hS ls (lv_sub hl [0, 1, 2] rfl)
          · obtain ⟨j_15, hj_15, ej_15⟩ := hf1_1.resolve_left (fun h9 => c_25 (by rw [h9]; decide))
            subst ej_15
            refine lv_aload_n hx hb dX12_bindsAtHand_28 rfl (lv_at hl 2 rfl) ?_
            refine lv_iload_n hx hb dX12_bindsAtHand_29 rfl (lv_at hl 0 rfl) ?_
            refine x_callVi (q := (RX12, TX12, 89)) (ci := 12) (q0 := 0) (wr := [wI (cy 1) Mstep 960 (Gstep), wI (cy 1) Marg 960 (Garg), wI (cy 1) Mmany 3 (Gmany), wI (cy 1) Mvalues 64 (Gvalues2_5), wI (cy 1) Masks 7 (Gasks2_6), wI (cy 3) MhasForm 3 (GhasForm), wI (cy 1) Msnow 4 (Gsnow), wI (cy 1) Mloud 8 (Gloud), wI (cy 1) Mcry 10 (Gcry), wI (cy 1) Mecho 20 (Gecho2_7)]) (rest := []) ⟨hx, hb, hml, hown, hg, hl.1⟩ k_X12_474 (r_farOf l D cy m0 Mtape MnName MnStep MnArg MnMany Mstep Marg Mmany Mopen Mvalues MnHasForm MhasForm Masks MnLoud MnCliffAt MnSnow MnManAt MnVoice MnOn Mloud McliffAt MsnowTold MmanAt Mvoice Mon MnYes Myes Mnow Mcry Msnow Mecho Mwere Mlies Mspots Msteps MfromState MbyWord Mqueue MsoundCliff MsoundLong MsoundCame MsoundTold MsoundUntold Mstands Mtally MhasBox Mboxes Itaped Ifault IfaultPlace Iat Isize Isort Iplace Inumber Iword Iform Iopens InUnits Iunits IownUnits Ideep GcliffAt InWords InCliffs InMen InStates InOns InWind InDraw Iwords Icliffs Imen Istates Ions IwindTold InHasWind InHasDraw IcryMany IcallPlace IcallVoice Iwind Ichance IechoMany2_8 Iacts Iundone Ilain Isounds Itime IstandMany k1 (by first | assumption | omega) (by first | assumption | omega) (by first | assumption | omega) (by first | assumption | omega) (by first | assumption | omega) (by first | assumption | omega) (by first | assumption | omega) (by first | assumption | omega) (by first | assumption | omega) (by first | assumption | omega) (by first | assumption | omega) (by first | assumption | omega) (by first | assumption | omega) (by first | assumption | omega) (by first | assumption | omega) (by first | assumption | omega) (by first | assumption | omega) (by first | assumption | omega) (by first | assumption | omega) (by first | assumption | omega) (by first | assumption | omega) (by first | assumption | omega) (by first | assumption | omega) (by first | assumption | omega)) E0_blind hK hP hD hS hA [0, 7] [1, 2, 3, 4, 5, 6, 8, 9, 10, 11] ⟨rfl, rfl, by decide +kernel, by decide +kernel, by decide +kernel⟩ rfl rfl (fun _ _ _ => trivial) dX12_bindsAtHand_30 rfl rfl (Nat.le_of_ble_eq_true rfl) ⟨Nat.le_of_ble_eq_true rfl, Nat.le_of_ble_eq_true rfl⟩ ⟨Nat.le_of_ble_eq_true rfl, Nat.le_of_ble_eq_true rfl⟩ (fun zr16 zu16 H locs hw16 hP9 hD9 hS9 => ?_)
            clear hP hD hS
            refine reW [wI (cy 1) Mstep 960 (Gstep), wI (cy 1) Marg 960 (Garg), wI (cy 1) Mmany 3 (Gmany), wI (cy 1) Mvalues 64 (Gvalues2_5), wI (cy 1) Masks 7 (Gasks2_6), wI (cy 3) MhasForm 3 (GhasForm), wI (cy 1) Msnow 4 (Gsnow), wI (cy 1) Mloud 8 (Gloud), wI (cy 1) Mcry 10 (Gcry), wI (cy 1) Mecho 20 (Gecho2_7), wO m0 12 [.ref Mtape, .int (nI Itaped), .int (nI Ifault), .int IfaultPlace, .int (nI Iat), .int (nI Isize), .int Isort, .int Iplace, .int Inumber, .long Iword, .ref MnName, .ref MnStep, .ref MnArg, .ref MnMany, .ref Mstep, .ref Marg, .ref Mmany, .ref Mopen, .ref Mvalues, .ref MnHasForm, .ref MhasForm, .int (nI Iform), .int (nI Iopens), .int (nI InUnits), .int Iunits, .int (nI IownUnits), .int (nI Ideep), .ref Masks, .ref MnLoud, .ref MnCliffAt, .ref MnSnow, .ref MnManAt, .ref MnVoice, .ref MnOn, .ref Mloud, .ref McliffAt, .ref MsnowTold, .ref MmanAt, .ref Mvoice, .ref Mon, .ref MnYes, .ref Myes, .int (nI InWords), .int (nI InCliffs), .int (nI InMen), .int (nI InStates), .int (nI InOns), .int InWind, .int InDraw, .int (nI Iwords), .int (nI Icliffs), .int (nI Imen), .int (nI Istates), .int Ions, .int IwindTold, .int InHasWind, .int InHasDraw, .ref Mnow, .ref Mcry, .ref Msnow, .ref Mecho, .int (nI IcryMany), .int IcallPlace, .int IcallVoice, .int Iwind, .int Ichance, .int (nI IechoMany2_8), .ref Mwere, .int (nI Iacts), .int (nI Iundone), .ref Mlies, .int (nI Ilain), .ref Mspots, .ref Msteps, .ref MfromState, .ref MbyWord, .ref Mqueue, .ref MsoundCliff, .ref MsoundLong, .ref MsoundCame, .ref MsoundTold, .ref MsoundUntold, .int (nI Isounds), .int Itime, .ref Mstands, .int IstandMany, .ref Mtally, .ref MhasBox, .ref Mboxes], wI (cy 1) McliffAt 4 (GcliffAt)] hP9 hD9 hS9 (fun hP hD hS => ?_)
            clear hP9 hD9 hS9
            refine W.widen (k := 0) (n := 0) (Nat.le_of_ble_eq_true rfl) (Nat.le_of_ble_eq_true rfl) ?_
            change (zr16 = ofR IcallPlace (GcliffAt k1)) at hw16
            have f_17 := hw16
            refine lv_aload_n hx hb dX12_bindsAtHand_33 rfl (lv_at hl 2 rfl) ?_
            refine lv_iload_n hx hb dX12_bindsAtHand_34 rfl (lv_at hl 1 rfl) ?_
            refine x_callVi (q := (RX12, TX12, 89)) (ci := 12) (q0 := 0) (wr := [wI (cy 1) Mstep 960 (Gstep), wI (cy 1) Marg 960 (Garg), wI (cy 1) Mmany 3 (Gmany), wI (cy 1) Mvalues 64 (Gvalues2_5), wI (cy 1) Masks 7 (Gasks2_6), wI (cy 3) MhasForm 3 (GhasForm), wI (cy 1) Msnow 4 (Gsnow), wI (cy 1) Mloud 8 (Gloud), wI (cy 1) Mcry 10 (Gcry), wI (cy 1) Mecho 20 (Gecho2_7)]) (rest := [.int zr16]) ⟨hx, hb, hml, hown, hg, hl.1⟩ k_X12_474 (r_farOf l D cy m0 Mtape MnName MnStep MnArg MnMany Mstep Marg Mmany Mopen Mvalues MnHasForm MhasForm Masks MnLoud MnCliffAt MnSnow MnManAt MnVoice MnOn Mloud McliffAt MsnowTold MmanAt Mvoice Mon MnYes Myes Mnow Mcry Msnow Mecho Mwere Mlies Mspots Msteps MfromState MbyWord Mqueue MsoundCliff MsoundLong MsoundCame MsoundTold MsoundUntold Mstands Mtally MhasBox Mboxes Itaped Ifault IfaultPlace Iat Isize Isort Iplace Inumber Iword Iform Iopens InUnits Iunits IownUnits Ideep GcliffAt InWords InCliffs InMen InStates InOns InWind InDraw Iwords Icliffs Imen Istates Ions IwindTold InHasWind InHasDraw IcryMany IcallPlace IcallVoice Iwind Ichance IechoMany2_8 Iacts Iundone Ilain Isounds Itime IstandMany j_15 (by first | assumption | omega) (by first | assumption | omega) (by first | assumption | omega) (by first | assumption | omega) (by first | assumption | omega) (by first | assumption | omega) (by first | assumption | omega) (by first | assumption | omega) (by first | assumption | omega) (by first | assumption | omega) (by first | assumption | omega) (by first | assumption | omega) (by first | assumption | omega) (by first | assumption | omega) (by first | assumption | omega) (by first | assumption | omega) (by first | assumption | omega) (by first | assumption | omega) (by first | assumption | omega) (by first | assumption | omega) (by first | assumption | omega) (by first | assumption | omega) (by first | assumption | omega) (by first | assumption | omega)) E0_blind hK hP hD hS hA [10, 11] [0, 1, 2, 3, 4, 5, 6, 7, 8, 9] ⟨rfl, rfl, by decide +kernel, by decide +kernel, by decide +kernel⟩ rfl rfl (fun _ _ _ => trivial) dX12_bindsAtHand_35 rfl rfl (Nat.le_of_ble_eq_true rfl) ⟨Nat.le_of_ble_eq_true rfl, Nat.le_of_ble_eq_true rfl⟩ ⟨Nat.le_of_ble_eq_true rfl, Nat.le_of_ble_eq_true rfl⟩ (fun zr18 zu18 H locs hw18 hP9 hD9 hS9 => ?_)
            clear hP hD hS
            refine reW [wI (cy 1) Mstep 960 (Gstep), wI (cy 1) Marg 960 (Garg), wI (cy 1) Mmany 3 (Gmany), wI (cy 1) Mvalues 64 (Gvalues2_5), wI (cy 1) Masks 7 (Gasks2_6), wI (cy 3) MhasForm 3 (GhasForm), wI (cy 1) Msnow 4 (Gsnow), wI (cy 1) Mloud 8 (Gloud), wI (cy 1) Mcry 10 (Gcry), wI (cy 1) Mecho 20 (Gecho2_7), wO m0 12 [.ref Mtape, .int (nI Itaped), .int (nI Ifault), .int IfaultPlace, .int (nI Iat), .int (nI Isize), .int Isort, .int Iplace, .int Inumber, .long Iword, .ref MnName, .ref MnStep, .ref MnArg, .ref MnMany, .ref Mstep, .ref Marg, .ref Mmany, .ref Mopen, .ref Mvalues, .ref MnHasForm, .ref MhasForm, .int (nI Iform), .int (nI Iopens), .int (nI InUnits), .int Iunits, .int (nI IownUnits), .int (nI Ideep), .ref Masks, .ref MnLoud, .ref MnCliffAt, .ref MnSnow, .ref MnManAt, .ref MnVoice, .ref MnOn, .ref Mloud, .ref McliffAt, .ref MsnowTold, .ref MmanAt, .ref Mvoice, .ref Mon, .ref MnYes, .ref Myes, .int (nI InWords), .int (nI InCliffs), .int (nI InMen), .int (nI InStates), .int (nI InOns), .int InWind, .int InDraw, .int (nI Iwords), .int (nI Icliffs), .int (nI Imen), .int (nI Istates), .int Ions, .int IwindTold, .int InHasWind, .int InHasDraw, .ref Mnow, .ref Mcry, .ref Msnow, .ref Mecho, .int (nI IcryMany), .int IcallPlace, .int IcallVoice, .int Iwind, .int Ichance, .int (nI IechoMany2_8), .ref Mwere, .int (nI Iacts), .int (nI Iundone), .ref Mlies, .int (nI Ilain), .ref Mspots, .ref Msteps, .ref MfromState, .ref MbyWord, .ref Mqueue, .ref MsoundCliff, .ref MsoundLong, .ref MsoundCame, .ref MsoundTold, .ref MsoundUntold, .int (nI Isounds), .int Itime, .ref Mstands, .int IstandMany, .ref Mtally, .ref MhasBox, .ref Mboxes], wI (cy 1) McliffAt 4 (GcliffAt)] hP9 hD9 hS9 (fun hP hD hS => ?_)
            clear hP9 hD9 hS9
            refine W.widen (k := 0) (n := 0) (Nat.le_of_ble_eq_true rfl) (Nat.le_of_ble_eq_true rfl) ?_
            change (zr18 = ofR IcallPlace (GcliffAt j_15)) at hw18
            have f_19 := hw18
            refine lv_icmp_ge (tgt := 43) hx hb dX12_bindsAtHand_38 (by decide) (fun c_38 => ?_) (fun c_38 => ?_)
            · refine lv_iinc (v := nI (k1 + 1)) (lv' := [(2, .int (nI (k1 + 1))), (1, .int (nI j_15)), (0, .ref m0)]) hx hb dX12_bindsAtHand_43 hl (k := 0) rfl (nI_add k1 1) (by decide) rfl (fun ls hl => ?_)
              refine lv_goto (tgt := 4) hx hb dX12_bindsAtHand_46 (by decide) ?_
              exact ih1  (nI j_15) ((k1 + 1)) IechoMany2_8 Gecho2_7 Gasks2_6 Gvalues2_5 f_10 (by first | assumption | omega) (Or.inr ⟨j_15, by omega, rfl⟩) (by first | assumption | omega) (bd_skip (E := (fun c9 => ecS (vlM GhasForm Gstep Garg am 0 3) (vlM GhasForm Gstep Garg am 1 0) (vlM GhasForm Gstep Garg am 2 0) Gloud (ofR IcallPlace (GcliffAt c9)) Iwind (Gsnow c9) IcallVoice Ichance Gcry IcryMany)) (far := (fun c9 => ofR IcallPlace (GcliffAt c9))) (c := k1) hf3_1 (by omega) (by have h8 := c_38; rw [f_17, f_19] at h8; exact h8)) (by omega) _ _ (hP.sub [10, 0, 1, 2, 3, 4, 5, 11, 6, 7, 8, 9] rfl) (hD.sub [10, 0, 1, 2, 3, 4, 5, 11, 6, 7, 8, 9] (by decide +kernel) rfl) hS ls (lv_sub hl [0, 1, 2] rfl)
            · refine lv_iload_n hx hb dX12_bindsAtHand_41 rfl (lv_at hl 0 rfl) ?_
              refine lv_istore_n (lv' := [(1, .int (nI k1)), (2, .int (nI k1)), (0, .ref m0)]) hx hb dX12_bindsAtHand_42 rfl hl (by decide) rfl (fun ls hl => ?_)
              refine lv_iinc (v := nI (k1 + 1)) (lv' := [(2, .int (nI (k1 + 1))), (1, .int (nI k1)), (0, .ref m0)]) hx hb dX12_bindsAtHand_43 hl (k := 1) rfl (nI_add k1 1) (by decide) rfl (fun ls hl => ?_)
              refine lv_goto (tgt := 4) hx hb dX12_bindsAtHand_46 (by decide) ?_
              exact ih1  (nI k1) ((k1 + 1)) IechoMany2_8 Gecho2_7 Gasks2_6 Gvalues2_5 f_10 (by first | assumption | omega) (Or.inr ⟨k1, by omega, rfl⟩) (by first | assumption | omega) (bd_b1 (E := (fun c9 => ecS (vlM GhasForm Gstep Garg am 0 3) (vlM GhasForm Gstep Garg am 1 0) (vlM GhasForm Gstep Garg am 2 0) Gloud (ofR IcallPlace (GcliffAt c9)) Iwind (Gsnow c9) IcallVoice Ichance Gcry IcryMany)) (far := (fun c9 => ofR IcallPlace (GcliffAt c9))) (c := k1) hf3_1 (by omega) (by have h8 := c_38; rw [f_17, f_19] at h8; exact h8) (exC_cons f_12 (by omega))) (by omega) _ _ (hP.sub [10, 0, 1, 2, 3, 4, 5, 11, 6, 7, 8, 9] rfl) (hD.sub [10, 0, 1, 2, 3, 4, 5, 11, 6, 7, 8, 9] (by decide +kernel) rfl) hS ls (lv_sub hl [0, 1, 2] rfl)
  exact loop1 _ (-1) 0 IechoMany Gecho Gasks Gvalues gech (by first | assumption | omega) (Or.inl rfl) (by first | assumption | omega) (rfl) (Nat.le_refl _) _ _ (hP.sub [0, 1, 2, 3, 4, 5, 6, 7, 8, 9, 10, 11] rfl) (hD.sub [0, 1, 2, 3, 4, 5, 6, 7, 8, 9, 10, 11] (by decide +kernel) rfl) hS ls (lv_sub hl [0, 1, 2] rfl)
theorem dX12_verdict_0 : decode cX12_verdict 0 = .ok (.aload_n 0, 1) := by decide +kernel
theorem dX12_verdict_1 : decode cX12_verdict 1 = .ok (.invokevirtual 497, 3) := by decide +kernel
theorem k_X12_497 : xV RX12 RX12 497 yX12_bindsAtHand cX12_bindsAtHand 3 (some .int) 0 := ⟨⟨m_1944, m_1946, m_107, m_146, m_1947⟩, rfl, by decide, by decide, by decide +kernel⟩
theorem gdX12_verdict_4 : decode cX12_verdict 4 = .ok (.istore_n 1, 1) ∧ decode cX12_verdict 5 = .ok (.iload_n 1, 1) ∧ decode cX12_verdict 6 = .ok (.ifCond .ge 5, 3) ∧ decode cX12_verdict 11 = .ok (.aload_n 0, 1) ∧ decode cX12_verdict 12 = .ok (.iload_n 1, 1) ∧ decode cX12_verdict 13 = .ok (.invokevirtual 494, 3) ∧ decode cX12_verdict 16 = .ok (.iconst 1, 1) ∧ decode cX12_verdict 17 = .ok (.aload_n 0, 1) ∧ decode cX12_verdict 18 = .ok (.invokevirtual 500, 3) := by decide +kernel
theorem dX12_verdict_4 : decode cX12_verdict 4 = .ok (.istore_n 1, 1) := gdX12_verdict_4.1
theorem dX12_verdict_5 : decode cX12_verdict 5 = .ok (.iload_n 1, 1) := gdX12_verdict_4.2.1
theorem dX12_verdict_6 : decode cX12_verdict 6 = .ok (.ifCond .ge 5, 3) := gdX12_verdict_4.2.2.1
theorem dX12_verdict_11 : decode cX12_verdict 11 = .ok (.aload_n 0, 1) := gdX12_verdict_4.2.2.2.1
theorem dX12_verdict_12 : decode cX12_verdict 12 = .ok (.iload_n 1, 1) := gdX12_verdict_4.2.2.2.2.1
theorem dX12_verdict_13 : decode cX12_verdict 13 = .ok (.invokevirtual 494, 3) := gdX12_verdict_4.2.2.2.2.2.1
theorem dX12_verdict_16 : decode cX12_verdict 16 = .ok (.iconst 1, 1) := gdX12_verdict_4.2.2.2.2.2.2.1
theorem dX12_verdict_17 : decode cX12_verdict 17 = .ok (.aload_n 0, 1) := gdX12_verdict_4.2.2.2.2.2.2.2.1
theorem dX12_verdict_18 : decode cX12_verdict 18 = .ok (.invokevirtual 500, 3) := gdX12_verdict_4.2.2.2.2.2.2.2.2
theorem k_X12_500 : xV RX12 RX12 500 yX12_isYes cX12_isYes 3 (some .boolean) 0 := ⟨⟨m_1985, m_1987, m_115, m_146, m_1988⟩, rfl, by decide, by decide, by decide +kernel⟩
theorem gdX12_verdict_21 : decode cX12_verdict 21 = .ok (.invokestatic 333, 3) ∧ decode cX12_verdict 24 = .ok (.iadd, 1) ∧ decode cX12_verdict 25 = .ok (.ireturn, 1) ∧ decode cX12_verdict 9 = .ok (.iconst 0, 1) ∧ decode cX12_verdict 10 = .ok (.ireturn, 1) := by decide +kernel
theorem dX12_verdict_21 : decode cX12_verdict 21 = .ok (.invokestatic 333, 3) := gdX12_verdict_21.1
theorem dX12_verdict_24 : decode cX12_verdict 24 = .ok (.iadd, 1) := gdX12_verdict_21.2.1
theorem dX12_verdict_25 : decode cX12_verdict 25 = .ok (.ireturn, 1) := gdX12_verdict_21.2.2.1
theorem dX12_verdict_9 : decode cX12_verdict 9 = .ok (.iconst 0, 1) := gdX12_verdict_21.2.2.2.1
theorem dX12_verdict_10 : decode cX12_verdict 10 = .ok (.ireturn, 1) := gdX12_verdict_21.2.2.2.2
set_option maxHeartbeats 1000000 in
set_option maxRecDepth 100000 in
theorem r_verdict (l : Launch) (D : va_G) (cy : Nat → ClassId) (m0 : Nat) (Mtape : Nat) (MnName : Nat) (MnStep : Nat) (MnArg : Nat) (MnMany : Nat) (Mstep : Nat) (Marg : Nat) (Mmany : Nat) (Mopen : Nat) (Mvalues : Nat) (MnHasForm : Nat) (MhasForm : Nat) (Masks : Nat) (MnLoud : Nat) (MnCliffAt : Nat) (MnSnow : Nat) (MnManAt : Nat) (MnVoice : Nat) (MnOn : Nat) (Mloud : Nat) (McliffAt : Nat) (MsnowTold : Nat) (MmanAt : Nat) (Mvoice : Nat) (Mon : Nat) (MnYes : Nat) (Myes : Nat) (Mnow : Nat) (Mcry : Nat) (Msnow : Nat) (Mecho : Nat) (Mwere : Nat) (Mlies : Nat) (Mspots : Nat) (Msteps : Nat) (MfromState : Nat) (MbyWord : Nat) (Mqueue : Nat) (MsoundCliff : Nat) (MsoundLong : Nat) (MsoundCame : Nat) (MsoundTold : Nat) (MsoundUntold : Nat) (Mstands : Nat) (Mtally : Nat) (MhasBox : Nat) (Mboxes : Nat) (Itaped : Nat) (Ifault : Nat) (IfaultPlace : Int32) (Iat : Nat) (Isize : Nat) (Isort : Int32) (Iplace : Int32) (Inumber : Int32) (Iword : Int64) (Gstep : Nat → Int32) (Garg : Nat → Int32) (Gmany : Nat → Int32) (Gvalues : Nat → Int32) (GhasForm : Nat → Int32) (Iform : Nat) (Iopens : Nat) (InUnits : Nat) (Iunits : Int32) (IownUnits : Nat) (Ideep : Nat) (Gasks : Nat → Int32) (Gloud : Nat → Int32) (GcliffAt : Nat → Int32) (Gon : Nat → Int32) (Gyes : Nat → Int32) (InWords : Nat) (InCliffs : Nat) (InMen : Nat) (InStates : Nat) (InOns : Nat) (InWind : Int32) (InDraw : Int32) (Iwords : Nat) (Icliffs : Nat) (Imen : Nat) (Istates : Nat) (Ions : Int32) (IwindTold : Int32) (InHasWind : Int32) (InHasDraw : Int32) (Gcry : Nat → Int32) (Gsnow : Nat → Int32) (Gecho : Nat → Int32) (IcryMany : Nat) (IcallPlace : Int32) (IcallVoice : Int32) (Iwind : Int32) (Ichance : Int32) (IechoMany : Nat) (Iacts : Nat) (Iundone : Nat) (Ilain : Nat) (Isounds : Nat) (Itime : Int32) (IstandMany : Int32) (am : Nat → Nat) (AH : Nat → Nat → Nat) (gtp : Itaped ≤ 1600) (gat : Iat ≤ Isize) (gsz : Isize ≤ 1600) (gfl : Ifault ≤ 5) (gfo : Iform ≤ 2) (gnw : InWords ≤ 8) (gnc : InCliffs ≤ 4) (gnm : InMen ≤ 4) (gns : InStates ≤ 6) (gw : Iwords ≤ 8) (gc9 : Icliffs ≤ 4) (gm : Imen ≤ 4) (gs : Istates ≤ 6) (gcm : IcryMany ≤ 10) (gem : IechoMany ≤ 20) (gau : Iacts + Iundone ≤ 40) (gla : Ilain ≤ 20) (gso : Isounds ≤ 30) (gop : Iopens ≤ 40) (gde : Ideep ≤ 8) (gou : IownUnits ≤ 31) (gnu : InUnits ≤ 61) (gno : InOns ≤ 30) (gfm : ∀ k9 : Nat, k9 < 3 → ¬ GhasForm k9 = 0 → 1 ≤ am k9) (gcry : rng Gcry 10 7) (gech : rng Gecho 20 7) (gon : nxT Gon) (gal2 : allR Gstep Garg Gmany am AH) : XMi l D (tyL cy) E0 yX12_verdict cX12_verdict 2 (some .int) (rmk 7 0 0) [.ref m0] [wO m0 12 [.ref Mtape, .int (nI Itaped), .int (nI Ifault), .int IfaultPlace, .int (nI Iat), .int (nI Isize), .int Isort, .int Iplace, .int Inumber, .long Iword, .ref MnName, .ref MnStep, .ref MnArg, .ref MnMany, .ref Mstep, .ref Marg, .ref Mmany, .ref Mopen, .ref Mvalues, .ref MnHasForm, .ref MhasForm, .int (nI Iform), .int (nI Iopens), .int (nI InUnits), .int Iunits, .int (nI IownUnits), .int (nI Ideep), .ref Masks, .ref MnLoud, .ref MnCliffAt, .ref MnSnow, .ref MnManAt, .ref MnVoice, .ref MnOn, .ref Mloud, .ref McliffAt, .ref MsnowTold, .ref MmanAt, .ref Mvoice, .ref Mon, .ref MnYes, .ref Myes, .int (nI InWords), .int (nI InCliffs), .int (nI InMen), .int (nI InStates), .int (nI InOns), .int InWind, .int InDraw, .int (nI Iwords), .int (nI Icliffs), .int (nI Imen), .int (nI Istates), .int Ions, .int IwindTold, .int InHasWind, .int InHasDraw, .ref Mnow, .ref Mcry, .ref Msnow, .ref Mecho, .int (nI IcryMany), .int IcallPlace, .int IcallVoice, .int Iwind, .int Ichance, .int (nI IechoMany), .ref Mwere, .int (nI Iacts), .int (nI Iundone), .ref Mlies, .int (nI Ilain), .ref Mspots, .ref Msteps, .ref MfromState, .ref MbyWord, .ref Mqueue, .ref MsoundCliff, .ref MsoundLong, .ref MsoundCame, .ref MsoundTold, .ref MsoundUntold, .int (nI Isounds), .int Itime, .ref Mstands, .int IstandMany, .ref Mtally, .ref MhasBox, .ref Mboxes], wI (cy 1) Mstep 960 (Gstep), wI (cy 1) Marg 960 (Garg), wI (cy 1) Mmany 3 (Gmany), wI (cy 1) Mvalues 64 (Gvalues), wI (cy 1) Masks 7 (Gasks), wI (cy 3) MhasForm 3 (GhasForm), wI (cy 1) McliffAt 4 (GcliffAt), wI (cy 1) Msnow 4 (Gsnow), wI (cy 1) Mloud 8 (Gloud), wI (cy 1) Mcry 10 (Gcry), wI (cy 1) Mecho 20 (Gecho), wI (cy 1) Mon 48 (Gon), wI (cy 3) Myes 6 (Gyes)] (fun (r : Int32) (u : (Nat → Int32) × (Nat → Int32) × (Nat → Int32) × Nat × Nat) => (r = nI u.2.2.2.2) ∧ (u.2.2.2.1 ≤ 20) ∧ (rng u.2.2.1 20 7) ∧ (u.2.2.2.2 ≤ 2) ∧ (u.2.2.2.2 = vdS (fun c9 => ecS (vlM GhasForm Gstep Garg am 0 3) (vlM GhasForm Gstep Garg am 1 0) (vlM GhasForm Gstep Garg am 2 0) Gloud (ofR IcallPlace (GcliffAt c9)) Iwind (Gsnow c9) IcallVoice Ichance Gcry IcryMany) (fun c9 => ofR IcallPlace (GcliffAt c9)) (yeM Gon Gyes Istates) Icliffs)) (fun (u : (Nat → Int32) × (Nat → Int32) × (Nat → Int32) × Nat × Nat) => [wO m0 12 [.ref Mtape, .int (nI Itaped), .int (nI Ifault), .int IfaultPlace, .int (nI Iat), .int (nI Isize), .int Isort, .int Iplace, .int Inumber, .long Iword, .ref MnName, .ref MnStep, .ref MnArg, .ref MnMany, .ref Mstep, .ref Marg, .ref Mmany, .ref Mopen, .ref Mvalues, .ref MnHasForm, .ref MhasForm, .int (nI Iform), .int (nI Iopens), .int (nI InUnits), .int Iunits, .int (nI IownUnits), .int (nI Ideep), .ref Masks, .ref MnLoud, .ref MnCliffAt, .ref MnSnow, .ref MnManAt, .ref MnVoice, .ref MnOn, .ref Mloud, .ref McliffAt, .ref MsnowTold, .ref MmanAt, .ref Mvoice, .ref Mon, .ref MnYes, .ref Myes, .int (nI InWords), .int (nI InCliffs), .int (nI InMen), .int (nI InStates), .int (nI InOns), .int InWind, .int InDraw, .int (nI Iwords), .int (nI Icliffs), .int (nI Imen), .int (nI Istates), .int Ions, .int IwindTold, .int InHasWind, .int InHasDraw, .ref Mnow, .ref Mcry, .ref Msnow, .ref Mecho, .int (nI IcryMany), .int IcallPlace, .int IcallVoice, .int Iwind, .int Ichance, .int (nI u.2.2.2.1), .ref Mwere, .int (nI Iacts), .int (nI Iundone), .ref Mlies, .int (nI Ilain), .ref Mspots, .ref Msteps, .ref MfromState, .ref MbyWord, .ref Mqueue, .ref MsoundCliff, .ref MsoundLong, .ref MsoundCame, .ref MsoundTold, .ref MsoundUntold, .int (nI Isounds), .int Itime, .ref Mstands, .int IstandMany, .ref Mtally, .ref MhasBox, .ref Mboxes], wI (cy 1) Mstep 960 (Gstep), wI (cy 1) Marg 960 (Garg), wI (cy 1) Mmany 3 (Gmany), wI (cy 1) Mvalues 64 (u.1), wI (cy 1) Masks 7 (u.2.1), wI (cy 3) MhasForm 3 (GhasForm), wI (cy 1) McliffAt 4 (GcliffAt), wI (cy 1) Msnow 4 (Gsnow), wI (cy 1) Mloud 8 (Gloud), wI (cy 1) Mcry 10 (Gcry), wI (cy 1) Mecho 20 (u.2.2.1), wI (cy 1) Mon 48 (Gon), wI (cy 3) Myes 6 (Gyes)]) := by
  refine XMi.start (by decide) (Nat.le_of_ble_eq_true rfl) ?_
  intro p e s m below meth c args A ls Q hat hQ
  obtain ⟨hx, hb, hr, hml, hown, hg, hlocks, hin, hK, hA, hP, hD, hS, hE, hl⟩ := hat
  have hown : s.vm.findClass RX12 = some m.cls := hown
  have hl : lv_has ls 2 [(0, .ref m0)] := hl
  refine lv_aload_n hx hb dX12_verdict_0 rfl (lv_at hl 0 rfl) ?_
  refine x_callVi (q := (RX12, TX12, 89)) (ci := 12) (q0 := 0) (wr := [wI (cy 1) Mon 48 (Gon), wI (cy 3) Myes 6 (Gyes)]) (rest := []) ⟨hx, hb, hml, hown, hg, hl.1⟩ k_X12_497 (r_bindsAtHand l D cy m0 Mtape MnName MnStep MnArg MnMany Mstep Marg Mmany Mopen Mvalues MnHasForm MhasForm Masks MnLoud MnCliffAt MnSnow MnManAt MnVoice MnOn Mloud McliffAt MsnowTold MmanAt Mvoice Mon MnYes Myes Mnow Mcry Msnow Mecho Mwere Mlies Mspots Msteps MfromState MbyWord Mqueue MsoundCliff MsoundLong MsoundCame MsoundTold MsoundUntold Mstands Mtally MhasBox Mboxes Itaped Ifault IfaultPlace Iat Isize Isort Iplace Inumber Iword Gstep Garg Gmany Gvalues GhasForm Iform Iopens InUnits Iunits IownUnits Ideep Gasks Gloud GcliffAt InWords InCliffs InMen InStates InOns InWind InDraw Iwords Icliffs Imen Istates Ions IwindTold InHasWind InHasDraw Gcry Gsnow Gecho IcryMany IcallPlace IcallVoice Iwind Ichance IechoMany Iacts Iundone Ilain Isounds Itime IstandMany am AH (by first | assumption | omega) (by first | assumption | omega) (by first | assumption | omega) (by first | assumption | omega) (by first | assumption | omega) (by first | assumption | omega) (by first | assumption | omega) (by first | assumption | omega) (by first | assumption | omega) (by first | assumption | omega) (by first | assumption | omega) (by first | assumption | omega) (by first | assumption | omega) (by first | assumption | omega) (by first | assumption | omega) (by first | assumption | omega) (by first | assumption | omega) (by first | assumption | omega) (by first | assumption | omega) (by first | assumption | omega) (by first | assumption | omega) (by first | assumption | omega) (by first | assumption | omega) (gfm) (gcry) (gech) (gal2)) E0_blind hK hP hD hS hA [0, 1, 2, 3, 4, 5, 6, 7, 8, 9, 10, 11] [12, 13] ⟨rfl, rfl, by decide +kernel, by decide +kernel, by decide +kernel⟩ rfl rfl (fun _ _ _ => trivial) dX12_verdict_1 rfl rfl (Nat.le_of_ble_eq_true rfl) ⟨Nat.le_of_ble_eq_true rfl, Nat.le_of_ble_eq_true rfl⟩ ⟨Nat.le_of_ble_eq_true rfl, Nat.le_of_ble_eq_true rfl⟩ (fun zr1 zu1 H locs hw1 hP9 hD9 hS9 => ?_)
  clear hP hD hS
  obtain ⟨Gvalues2_2, Gasks2_3, Gecho2_4, IechoMany2_5⟩ := zu1
  refine reW [wI (cy 1) Mon 48 (Gon), wI (cy 3) Myes 6 (Gyes), wO m0 12 [.ref Mtape, .int (nI Itaped), .int (nI Ifault), .int IfaultPlace, .int (nI Iat), .int (nI Isize), .int Isort, .int Iplace, .int Inumber, .long Iword, .ref MnName, .ref MnStep, .ref MnArg, .ref MnMany, .ref Mstep, .ref Marg, .ref Mmany, .ref Mopen, .ref Mvalues, .ref MnHasForm, .ref MhasForm, .int (nI Iform), .int (nI Iopens), .int (nI InUnits), .int Iunits, .int (nI IownUnits), .int (nI Ideep), .ref Masks, .ref MnLoud, .ref MnCliffAt, .ref MnSnow, .ref MnManAt, .ref MnVoice, .ref MnOn, .ref Mloud, .ref McliffAt, .ref MsnowTold, .ref MmanAt, .ref Mvoice, .ref Mon, .ref MnYes, .ref Myes, .int (nI InWords), .int (nI InCliffs), .int (nI InMen), .int (nI InStates), .int (nI InOns), .int InWind, .int InDraw, .int (nI Iwords), .int (nI Icliffs), .int (nI Imen), .int (nI Istates), .int Ions, .int IwindTold, .int InHasWind, .int InHasDraw, .ref Mnow, .ref Mcry, .ref Msnow, .ref Mecho, .int (nI IcryMany), .int IcallPlace, .int IcallVoice, .int Iwind, .int Ichance, .int (nI IechoMany2_5), .ref Mwere, .int (nI Iacts), .int (nI Iundone), .ref Mlies, .int (nI Ilain), .ref Mspots, .ref Msteps, .ref MfromState, .ref MbyWord, .ref Mqueue, .ref MsoundCliff, .ref MsoundLong, .ref MsoundCame, .ref MsoundTold, .ref MsoundUntold, .int (nI Isounds), .int Itime, .ref Mstands, .int IstandMany, .ref Mtally, .ref MhasBox, .ref Mboxes], wI (cy 1) Mstep 960 (Gstep), wI (cy 1) Marg 960 (Garg), wI (cy 1) Mmany 3 (Gmany), wI (cy 1) Mvalues 64 (Gvalues2_2), wI (cy 1) Masks 7 (Gasks2_3), wI (cy 3) MhasForm 3 (GhasForm), wI (cy 1) McliffAt 4 (GcliffAt), wI (cy 1) Msnow 4 (Gsnow), wI (cy 1) Mloud 8 (Gloud), wI (cy 1) Mcry 10 (Gcry), wI (cy 1) Mecho 20 (Gecho2_4)] hP9 hD9 hS9 (fun hP hD hS => ?_)
  clear hP9 hD9 hS9
  refine W.widen (k := 0) (n := 0) (Nat.le_of_ble_eq_true rfl) (Nat.le_of_ble_eq_true rfl) ?_
  change (IechoMany2_5 ≤ 20) ∧ (rng Gecho2_4 20 7) ∧ (zr1 = -1 ∨ ∃ j9 : Nat, j9 < Icliffs ∧ zr1 = nI j9) ∧ (zr1 = bdS (fun c9 => ecS (vlM GhasForm Gstep Garg am 0 3) (vlM GhasForm Gstep Garg am 1 0) (vlM GhasForm Gstep Garg am 2 0) Gloud (ofR IcallPlace (GcliffAt c9)) Iwind (Gsnow c9) IcallVoice Ichance Gcry IcryMany) (fun c9 => ofR IcallPlace (GcliffAt c9)) Icliffs) at hw1
  obtain ⟨f_6, f_7, f_8, f_9⟩ := hw1
  refine lv_istore_n (lv' := [(1, .int zr1), (0, .ref m0)]) hx hb dX12_verdict_4 rfl hl (by decide) rfl (fun ls hl => ?_)
  refine lv_iload_n hx hb dX12_verdict_5 rfl (lv_at hl 0 rfl) ?_
  refine lv_if_ge (tgt := 11) hx hb dX12_verdict_6 (by decide) (fun c_6 => ?_) (fun c_6 => ?_)
  · obtain ⟨j_10, hj_10, ej_10⟩ := f_8.resolve_left (fun h9 => absurd c_6 (by rw [h9]; decide))
    subst ej_10
    refine lv_aload_n hx hb dX12_verdict_11 rfl (lv_at hl 1 rfl) ?_
    refine lv_iload_n hx hb dX12_verdict_12 rfl (lv_at hl 0 rfl) ?_
    refine x_callVv (q := (RX12, TX12, 89)) (ci := 12) (q0 := 0) (wr := [wI (cy 1) Mon 48 (Gon), wI (cy 3) Myes 6 (Gyes)]) (rest := []) ⟨hx, hb, hml, hown, hg, hl.1⟩ k_X12_494 (r_sendFrom l D cy m0 Mtape MnName MnStep MnArg MnMany Mstep Marg Mmany Mopen Mvalues MnHasForm MhasForm Masks MnLoud MnCliffAt MnSnow MnManAt MnVoice MnOn Mloud McliffAt MsnowTold MmanAt Mvoice Mon MnYes Myes Mnow Mcry Msnow Mecho Mwere Mlies Mspots Msteps MfromState MbyWord Mqueue MsoundCliff MsoundLong MsoundCame MsoundTold MsoundUntold Mstands Mtally MhasBox Mboxes Itaped Ifault IfaultPlace Iat Isize Isort Iplace Inumber Iword Gstep Garg Gmany Gvalues2_2 GhasForm Iform Iopens InUnits Iunits IownUnits Ideep Gasks2_3 Gloud GcliffAt InWords InCliffs InMen InStates InOns InWind InDraw Iwords Icliffs Imen Istates Ions IwindTold InHasWind InHasDraw Gcry Gsnow Gecho2_4 IcryMany IcallPlace IcallVoice Iwind Ichance IechoMany2_5 Iacts Iundone Ilain Isounds Itime IstandMany am AH j_10 (by first | assumption | omega) (by first | assumption | omega) (by first | assumption | omega) (by first | assumption | omega) (by first | assumption | omega) (by first | assumption | omega) (by first | assumption | omega) (by first | assumption | omega) (by first | assumption | omega) (by first | assumption | omega) (by first | assumption | omega) (by first | assumption | omega) (by first | assumption | omega) (by first | assumption | omega) (by first | assumption | omega) (by first | assumption | omega) (by first | assumption | omega) (by first | assumption | omega) (by first | assumption | omega) (by first | assumption | omega) (by first | assumption | omega) (by first | assumption | omega) (by first | assumption | omega) (gfm) (gcry) (f_7) (gal2) (by first | assumption | omega)) E0_blind hK hP hD hS hA [2, 3, 4, 5, 6, 7, 8, 9, 10, 11, 12, 13] [0, 1] ⟨rfl, rfl, by decide +kernel, by decide +kernel, by decide +kernel⟩ rfl rfl (fun _ _ _ => trivial) dX12_verdict_13 rfl rfl (Nat.le_of_ble_eq_true rfl) ⟨Nat.le_of_ble_eq_true rfl, Nat.le_of_ble_eq_true rfl⟩ ⟨Nat.le_of_ble_eq_true rfl, Nat.le_of_ble_eq_true rfl⟩ (fun zu11 H locs hw11 hP9 hD9 hS9 => ?_)
    clear hP hD hS
    obtain ⟨Gvalues2_12, Gasks2_13, Gecho2_14, IechoMany2_15⟩ := zu11
    refine reW [wI (cy 1) Mon 48 (Gon), wI (cy 3) Myes 6 (Gyes), wO m0 12 [.ref Mtape, .int (nI Itaped), .int (nI Ifault), .int IfaultPlace, .int (nI Iat), .int (nI Isize), .int Isort, .int Iplace, .int Inumber, .long Iword, .ref MnName, .ref MnStep, .ref MnArg, .ref MnMany, .ref Mstep, .ref Marg, .ref Mmany, .ref Mopen, .ref Mvalues, .ref MnHasForm, .ref MhasForm, .int (nI Iform), .int (nI Iopens), .int (nI InUnits), .int Iunits, .int (nI IownUnits), .int (nI Ideep), .ref Masks, .ref MnLoud, .ref MnCliffAt, .ref MnSnow, .ref MnManAt, .ref MnVoice, .ref MnOn, .ref Mloud, .ref McliffAt, .ref MsnowTold, .ref MmanAt, .ref Mvoice, .ref Mon, .ref MnYes, .ref Myes, .int (nI InWords), .int (nI InCliffs), .int (nI InMen), .int (nI InStates), .int (nI InOns), .int InWind, .int InDraw, .int (nI Iwords), .int (nI Icliffs), .int (nI Imen), .int (nI Istates), .int Ions, .int IwindTold, .int InHasWind, .int InHasDraw, .ref Mnow, .ref Mcry, .ref Msnow, .ref Mecho, .int (nI IcryMany), .int IcallPlace, .int IcallVoice, .int Iwind, .int Ichance, .int (nI IechoMany2_15), .ref Mwere, .int (nI Iacts), .int (nI Iundone), .ref Mlies, .int (nI Ilain), .ref Mspots, .ref Msteps, .ref MfromState, .ref MbyWord, .ref Mqueue, .ref MsoundCliff, .ref MsoundLong, .ref MsoundCame, .ref MsoundTold, .ref MsoundUntold, .int (nI Isounds), .int Itime, .ref Mstands, .int IstandMany, .ref Mtally, .ref MhasBox, .ref Mboxes], wI (cy 1) Mstep 960 (Gstep), wI (cy 1) Marg 960 (Garg), wI (cy 1) Mmany 3 (Gmany), wI (cy 1) Mvalues 64 (Gvalues2_12), wI (cy 1) Masks 7 (Gasks2_13), wI (cy 3) MhasForm 3 (GhasForm), wI (cy 1) McliffAt 4 (GcliffAt), wI (cy 1) Msnow 4 (Gsnow), wI (cy 1) Mloud 8 (Gloud), wI (cy 1) Mcry 10 (Gcry), wI (cy 1) Mecho 20 (Gecho2_14)] hP9 hD9 hS9 (fun hP hD hS => ?_)
    clear hP9 hD9 hS9
    refine W.widen (k := 0) (n := 0) (Nat.le_of_ble_eq_true rfl) (Nat.le_of_ble_eq_true rfl) ?_
    change (IechoMany2_15 ≤ 20) ∧ (rng Gecho2_14 20 7) ∧ (IechoMany2_15 ≤ IcryMany) ∧ (exC Gecho2_4 0 Gecho2_14 IechoMany2_15 (ecS (vlM GhasForm Gstep Garg am 0 3) (vlM GhasForm Gstep Garg am 1 0) (vlM GhasForm Gstep Garg am 2 0) Gloud (ofR IcallPlace (GcliffAt j_10)) Iwind (Gsnow j_10) IcallVoice Ichance Gcry IcryMany)) at hw11
    obtain ⟨f_16, f_17, f_18, f_19⟩ := hw11
    refine lv_iconst (v := 1) hx hb dX12_verdict_16 (by decide) ?_
    refine lv_aload_n hx hb dX12_verdict_17 rfl (lv_at hl 1 rfl) ?_
    refine x_callVi (q := (RX12, TX12, 89)) (ci := 12) (q0 := 0) (wr := [wI (cy 1) Mstep 960 (Gstep), wI (cy 1) Marg 960 (Garg), wI (cy 1) Mmany 3 (Gmany), wI (cy 1) Mvalues 64 (Gvalues2_12), wI (cy 1) Masks 7 (Gasks2_13), wI (cy 3) MhasForm 3 (GhasForm), wI (cy 1) McliffAt 4 (GcliffAt), wI (cy 1) Msnow 4 (Gsnow), wI (cy 1) Mloud 8 (Gloud), wI (cy 1) Mcry 10 (Gcry)]) (rest := [.int 1]) ⟨hx, hb, hml, hown, hg, hl.1⟩ k_X12_500 (r_isYes l D cy m0 Mtape MnName MnStep MnArg MnMany Mstep Marg Mmany Mopen Mvalues MnHasForm MhasForm Masks MnLoud MnCliffAt MnSnow MnManAt MnVoice MnOn Mloud McliffAt MsnowTold MmanAt Mvoice Mon MnYes Myes Mnow Mcry Msnow Mecho Mwere Mlies Mspots Msteps MfromState MbyWord Mqueue MsoundCliff MsoundLong MsoundCame MsoundTold MsoundUntold Mstands Mtally MhasBox Mboxes Itaped Ifault IfaultPlace Iat Isize Isort Iplace Inumber Iword Iform Iopens InUnits Iunits IownUnits Ideep Gon Gyes InWords InCliffs InMen InStates InOns InWind InDraw Iwords Icliffs Imen Istates Ions IwindTold InHasWind InHasDraw Gecho2_14 IcryMany IcallPlace IcallVoice Iwind Ichance IechoMany2_15 Iacts Iundone Ilain Isounds Itime IstandMany (by first | assumption | omega) (by first | assumption | omega) (by first | assumption | omega) (by first | assumption | omega) (by first | assumption | omega) (by first | assumption | omega) (by first | assumption | omega) (by first | assumption | omega) (by first | assumption | omega) (by first | assumption | omega) (by first | assumption | omega) (by first | assumption | omega) (by first | assumption | omega) (by first | assumption | omega) (by first | assumption | omega) (by first | assumption | omega) (by first | assumption | omega) (by first | assumption | omega) (by first | assumption | omega) (by first | assumption | omega) (by first | assumption | omega) (by first | assumption | omega) (by first | assumption | omega) (f_17) (gon)) E0_blind hK hP hD hS hA [2, 0, 13, 1] [3, 4, 5, 6, 7, 8, 9, 10, 11, 12] ⟨rfl, rfl, by decide +kernel, by decide +kernel, by decide +kernel⟩ rfl rfl (fun _ _ _ => trivial) dX12_verdict_18 rfl rfl (Nat.le_of_ble_eq_true rfl) ⟨Nat.le_of_ble_eq_true rfl, Nat.le_of_ble_eq_true rfl⟩ ⟨Nat.le_of_ble_eq_true rfl, Nat.le_of_ble_eq_true rfl⟩ (fun zr20 zu20 H locs hw20 hP9 hD9 hS9 => ?_)
    clear hP hD hS
    refine reW [wI (cy 1) Mstep 960 (Gstep), wI (cy 1) Marg 960 (Garg), wI (cy 1) Mmany 3 (Gmany), wI (cy 1) Mvalues 64 (Gvalues2_12), wI (cy 1) Masks 7 (Gasks2_13), wI (cy 3) MhasForm 3 (GhasForm), wI (cy 1) McliffAt 4 (GcliffAt), wI (cy 1) Msnow 4 (Gsnow), wI (cy 1) Mloud 8 (Gloud), wI (cy 1) Mcry 10 (Gcry), wO m0 12 [.ref Mtape, .int (nI Itaped), .int (nI Ifault), .int IfaultPlace, .int (nI Iat), .int (nI Isize), .int Isort, .int Iplace, .int Inumber, .long Iword, .ref MnName, .ref MnStep, .ref MnArg, .ref MnMany, .ref Mstep, .ref Marg, .ref Mmany, .ref Mopen, .ref Mvalues, .ref MnHasForm, .ref MhasForm, .int (nI Iform), .int (nI Iopens), .int (nI InUnits), .int Iunits, .int (nI IownUnits), .int (nI Ideep), .ref Masks, .ref MnLoud, .ref MnCliffAt, .ref MnSnow, .ref MnManAt, .ref MnVoice, .ref MnOn, .ref Mloud, .ref McliffAt, .ref MsnowTold, .ref MmanAt, .ref Mvoice, .ref Mon, .ref MnYes, .ref Myes, .int (nI InWords), .int (nI InCliffs), .int (nI InMen), .int (nI InStates), .int (nI InOns), .int InWind, .int InDraw, .int (nI Iwords), .int (nI Icliffs), .int (nI Imen), .int (nI Istates), .int Ions, .int IwindTold, .int InHasWind, .int InHasDraw, .ref Mnow, .ref Mcry, .ref Msnow, .ref Mecho, .int (nI IcryMany), .int IcallPlace, .int IcallVoice, .int Iwind, .int Ichance, .int (nI IechoMany2_15), .ref Mwere, .int (nI Iacts), .int (nI Iundone), .ref Mlies, .int (nI Ilain), .ref Mspots, .ref Msteps, .ref MfromState, .ref MbyWord, .ref Mqueue, .ref MsoundCliff, .ref MsoundLong, .ref MsoundCame, .ref MsoundTold, .ref MsoundUntold, .int (nI Isounds), .int Itime, .ref Mstands, .int IstandMany, .ref Mtally, .ref MhasBox, .ref Mboxes], wI (cy 1) Mon 48 (Gon), wI (cy 1) Mecho 20 (Gecho2_14), wI (cy 3) Myes 6 (Gyes)] hP9 hD9 hS9 (fun hP hD hS => ?_)
    clear hP9 hD9 hS9
    refine W.widen (k := 0) (n := 0) (Nat.le_of_ble_eq_true rfl) (Nat.le_of_ble_eq_true rfl) ?_
    change (zr20 = 0 ∨ zr20 = 1) ∧ (bR zr20 (yeB Gon Gyes Gecho2_14 Istates IechoMany2_15)) at hw20
    obtain ⟨f_21, f_22⟩ := hw20
    refine x_callSi (wr := [wI (cy 1) Mstep 960 (Gstep), wI (cy 1) Marg 960 (Garg), wI (cy 1) Mmany 3 (Gmany), wI (cy 1) Mvalues 64 (Gvalues2_12), wI (cy 1) Masks 7 (Gasks2_13), wI (cy 3) MhasForm 3 (GhasForm), wI (cy 1) McliffAt 4 (GcliffAt), wI (cy 1) Msnow 4 (Gsnow), wI (cy 1) Mloud 8 (Gloud), wI (cy 1) Mcry 10 (Gcry), wO m0 12 [.ref Mtape, .int (nI Itaped), .int (nI Ifault), .int IfaultPlace, .int (nI Iat), .int (nI Isize), .int Isort, .int Iplace, .int Inumber, .long Iword, .ref MnName, .ref MnStep, .ref MnArg, .ref MnMany, .ref Mstep, .ref Marg, .ref Mmany, .ref Mopen, .ref Mvalues, .ref MnHasForm, .ref MhasForm, .int (nI Iform), .int (nI Iopens), .int (nI InUnits), .int Iunits, .int (nI IownUnits), .int (nI Ideep), .ref Masks, .ref MnLoud, .ref MnCliffAt, .ref MnSnow, .ref MnManAt, .ref MnVoice, .ref MnOn, .ref Mloud, .ref McliffAt, .ref MsnowTold, .ref MmanAt, .ref Mvoice, .ref Mon, .ref MnYes, .ref Myes, .int (nI InWords), .int (nI InCliffs), .int (nI InMen), .int (nI InStates), .int (nI InOns), .int InWind, .int InDraw, .int (nI Iwords), .int (nI Icliffs), .int (nI Imen), .int (nI Istates), .int Ions, .int IwindTold, .int InHasWind, .int InHasDraw, .ref Mnow, .ref Mcry, .ref Msnow, .ref Mecho, .int (nI IcryMany), .int IcallPlace, .int IcallVoice, .int Iwind, .int Ichance, .int (nI IechoMany2_15), .ref Mwere, .int (nI Iacts), .int (nI Iundone), .ref Mlies, .int (nI Ilain), .ref Mspots, .ref Msteps, .ref MfromState, .ref MbyWord, .ref Mqueue, .ref MsoundCliff, .ref MsoundLong, .ref MsoundCame, .ref MsoundTold, .ref MsoundUntold, .int (nI Isounds), .int Itime, .ref Mstands, .int IstandMany, .ref Mtally, .ref MhasBox, .ref Mboxes], wI (cy 1) Mon 48 (Gon), wI (cy 1) Mecho 20 (Gecho2_14), wI (cy 3) Myes 6 (Gyes)]) (rest := [.int 1]) ⟨hx, hb, hml, hown, hg, hl.1⟩ k_X12_333 (r_truth l D cy zr20) E0_blind hK hP hD hS hA [] [0, 1, 2, 3, 4, 5, 6, 7, 8, 9, 10, 11, 12, 13] ⟨rfl, rfl, by decide +kernel, by decide +kernel, by decide +kernel⟩ (fun _ _ _ => trivial) dX12_verdict_21 rfl rfl (Nat.le_of_ble_eq_true rfl) ⟨Nat.le_of_ble_eq_true rfl, Nat.le_of_ble_eq_true rfl⟩ ⟨Nat.le_of_ble_eq_true rfl, Nat.le_of_ble_eq_true rfl⟩ (fun zr23 zu23 H locs hw23 hP9 hD9 hS9 => ?_)
    clear hP hD hS
    obtain ⟨k_24, rfl⟩ : ∃ z, z = zu23 := ⟨_, rfl⟩
    refine reW [wI (cy 1) Mstep 960 (Gstep), wI (cy 1) Marg 960 (Garg), wI (cy 1) Mmany 3 (Gmany), wI (cy 1) Mvalues 64 (Gvalues2_12), wI (cy 1) Masks 7 (Gasks2_13), wI (cy 3) MhasForm 3 (GhasForm), wI (cy 1) McliffAt 4 (GcliffAt), wI (cy 1) Msnow 4 (Gsnow), wI (cy 1) Mloud 8 (Gloud), wI (cy 1) Mcry 10 (Gcry), wO m0 12 [.ref Mtape, .int (nI Itaped), .int (nI Ifault), .int IfaultPlace, .int (nI Iat), .int (nI Isize), .int Isort, .int Iplace, .int Inumber, .long Iword, .ref MnName, .ref MnStep, .ref MnArg, .ref MnMany, .ref Mstep, .ref Marg, .ref Mmany, .ref Mopen, .ref Mvalues, .ref MnHasForm, .ref MhasForm, .int (nI Iform), .int (nI Iopens), .int (nI InUnits), .int Iunits, .int (nI IownUnits), .int (nI Ideep), .ref Masks, .ref MnLoud, .ref MnCliffAt, .ref MnSnow, .ref MnManAt, .ref MnVoice, .ref MnOn, .ref Mloud, .ref McliffAt, .ref MsnowTold, .ref MmanAt, .ref Mvoice, .ref Mon, .ref MnYes, .ref Myes, .int (nI InWords), .int (nI InCliffs), .int (nI InMen), .int (nI InStates), .int (nI InOns), .int InWind, .int InDraw, .int (nI Iwords), .int (nI Icliffs), .int (nI Imen), .int (nI Istates), .int Ions, .int IwindTold, .int InHasWind, .int InHasDraw, .ref Mnow, .ref Mcry, .ref Msnow, .ref Mecho, .int (nI IcryMany), .int IcallPlace, .int IcallVoice, .int Iwind, .int Ichance, .int (nI IechoMany2_15), .ref Mwere, .int (nI Iacts), .int (nI Iundone), .ref Mlies, .int (nI Ilain), .ref Mspots, .ref Msteps, .ref MfromState, .ref MbyWord, .ref Mqueue, .ref MsoundCliff, .ref MsoundLong, .ref MsoundCame, .ref MsoundTold, .ref MsoundUntold, .int (nI Isounds), .int Itime, .ref Mstands, .int IstandMany, .ref Mtally, .ref MhasBox, .ref Mboxes], wI (cy 1) Mon 48 (Gon), wI (cy 1) Mecho 20 (Gecho2_14), wI (cy 3) Myes 6 (Gyes)] hP9 hD9 hS9 (fun hP hD hS => ?_)
    clear hP9 hD9 hS9
    refine W.widen (k := 0) (n := 0) (Nat.le_of_ble_eq_true rfl) (Nat.le_of_ble_eq_true rfl) ?_
    change (zr23 = nI k_24) ∧ (k_24 ≤ 1) ∧ (k_24 = tvF zr20) at hw23
    obtain ⟨f_25, f_26, f_27⟩ := hw23
    subst f_25
    refine lv_iadd hx hb dX12_verdict_24 ?_
    refine lv_topi (fun y_28 hy_28 => ?_)
    obtain rfl : y_28 = nI (1 + k_24) := hy_28.trans (nI_add 1 k_24)
    exact x_iret hQ hx hb hr hlocks hK hP hD hS dX12_verdict_25 (Gvalues2_12, Gasks2_13, Gecho2_14, IechoMany2_15, (1 + k_24)) (⟨rfl, (show IechoMany2_15 ≤ 20 from by first | assumption | omega), f_17, (show ((1 + k_24)) ≤ 2 from by first | assumption | omega), (show ((1 + k_24)) = vdS (fun c9 => ecS (vlM GhasForm Gstep Garg am 0 3) (vlM GhasForm Gstep Garg am 1 0) (vlM GhasForm Gstep Garg am 2 0) Gloud (ofR IcallPlace (GcliffAt c9)) Iwind (Gsnow c9) IcallVoice Ichance Gcry IcryMany) (fun c9 => ofR IcallPlace (GcliffAt c9)) (yeM Gon Gyes Istates) Icliffs from vd_of (E := (fun c9 => ecS (vlM GhasForm Gstep Garg am 0 3) (vlM GhasForm Gstep Garg am 1 0) (vlM GhasForm Gstep Garg am 2 0) Gloud (ofR IcallPlace (GcliffAt c9)) Iwind (Gsnow c9) IcallVoice Ichance Gcry IcryMany)) (far := (fun c9 => ofR IcallPlace (GcliffAt c9))) (Y := (yeM Gon Gyes Istates)) f_9 (by omega) (yeB_ex f_19 f_22) f_27)⟩) [10, 0, 1, 2, 3, 4, 5, 6, 7, 8, 9, 12, 11, 13] (by decide +kernel) rfl (Nat.le_of_ble_eq_true rfl) (Nat.le_of_ble_eq_true rfl)
  · refine lv_iconst (v := 0) hx hb dX12_verdict_9 (by decide) ?_
    exact x_iret hQ hx hb hr hlocks hK hP hD hS dX12_verdict_10 (Gvalues2_2, Gasks2_3, Gecho2_4, IechoMany2_5, 0) (⟨rfl, (show IechoMany2_5 ≤ 20 from by first | assumption | omega), f_7, (show 0 ≤ 2 from by first | assumption | omega), (show 0 = vdS (fun c9 => ecS (vlM GhasForm Gstep Garg am 0 3) (vlM GhasForm Gstep Garg am 1 0) (vlM GhasForm Gstep Garg am 2 0) Gloud (ofR IcallPlace (GcliffAt c9)) Iwind (Gsnow c9) IcallVoice Ichance Gcry IcryMany) (fun c9 => ofR IcallPlace (GcliffAt c9)) (yeM Gon Gyes Istates) Icliffs from vd_z (E := (fun c9 => ecS (vlM GhasForm Gstep Garg am 0 3) (vlM GhasForm Gstep Garg am 1 0) (vlM GhasForm Gstep Garg am 2 0) Gloud (ofR IcallPlace (GcliffAt c9)) Iwind (Gsnow c9) IcallVoice Ichance Gcry IcryMany)) (far := (fun c9 => ofR IcallPlace (GcliffAt c9))) (Y := (yeM Gon Gyes Istates)) f_9 (f_8.resolve_right (fun ⟨j9, h8, e9⟩ => nI_pos (n := j9) (by omega) (e9 ▸ nle_lt c_6))))⟩) [2, 3, 4, 5, 6, 7, 8, 9, 10, 11, 12, 13, 0, 1] (by decide +kernel) rfl (Nat.le_of_ble_eq_true rfl) (Nat.le_of_ble_eq_true rfl)
