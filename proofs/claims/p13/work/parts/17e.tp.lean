/-! a text's signed and unsigned bytes tell the same -/
section TPS
variable {f g : Nat → Int32} {n : Nat}
theorem stt_tp (h : tpR f g n) : stt f n = stt g n := by
  funext a
  have : ∀ k a, skp f n k a = skp g n k a := by
    intro k
    induction k with
    | zero => intro a; rfl
    | succ k ih =>
      intro a
      show (if _ then _ else _) = (if _ then _ else _)
      by_cases h1 : a < n ∧ isBl (f a)
      · rw [if_pos h1, if_pos ⟨h1.1, (byR_iff (h a h1.1)).2.2.mp h1.2⟩, ih]
      · rw [if_neg h1, if_neg (fun h2 => h1 ⟨h2.1, (byR_iff (h a h2.1)).2.2.mpr h2.2⟩)]
  exact this _ _
theorem wen_tp (h : tpR f g n) : wen f n = wen g n := by
  funext a
  have : ∀ k a, ren 97 122 f n k a = ren 97 122 g n k a := by
    intro k
    induction k with
    | zero => intro a; rfl
    | succ k ih =>
      intro a
      show (if _ then _ else _) = (if _ then _ else _)
      by_cases h1 : a < n ∧ isLt (f a)
      · rw [if_pos h1, if_pos ⟨h1.1, (byR_iff (h a h1.1)).1.mp h1.2⟩, ih]
      · rw [if_neg h1, if_neg (fun h2 => h1 ⟨h2.1, (byR_iff (h a h2.1)).1.mpr h2.2⟩)]
  exact this _ _
theorem den_tp (h : tpR f g n) : den f n = den g n := by
  funext a
  have : ∀ k a, ren 48 57 f n k a = ren 48 57 g n k a := by
    intro k
    induction k with
    | zero => intro a; rfl
    | succ k ih =>
      intro a
      show (if _ then _ else _) = (if _ then _ else _)
      by_cases h1 : a < n ∧ isDg (f a)
      · rw [if_pos h1, if_pos ⟨h1.1, (byR_iff (h a h1.1)).2.1.mp h1.2⟩, ih]
      · rw [if_neg h1, if_neg (fun h2 => h1 ⟨h2.1, (byR_iff (h a h2.1)).2.1.mpr h2.2⟩)]
  exact this _ _
theorem c27_cong {s m : Nat} (h : ∀ i, i < m → f (s + i) = g (s + i)) : c27 f s m = c27 g s m := by
  induction m with
  | zero => rfl
  | succ m ih =>
    show c27 f s m * 27 + _ = c27 g s m * 27 + _
    rw [ih (fun i hi => h i (by omega)), h m (by omega)]
theorem dec_cong {s m : Nat} (h : ∀ i, i < m → f (s + i) = g (s + i)) : dec10 f s m = dec10 g s m := by
  induction m with
  | zero => rfl
  | succ m ih =>
    show dec10 f s m * 10 + _ = dec10 g s m * 10 + _
    rw [ih (fun i hi => h i (by omega)), h m (by omega)]
theorem run_in {lo hi : Int32} {k s i : Nat} (h2 : i < ren lo hi f n k s) (h1 : s ≤ i) : i < n := by
  induction k generalizing s with
  | zero => exact absurd h2 (by show ¬ i < s; omega)
  | succ k ih =>
    have h3 : i < (if s < n ∧ (¬ f s < lo ∧ ¬ hi < f s) then ren lo hi f n k (s + 1) else s) := h2
    split at h3
    · next h9 =>
      by_cases e : i = s
      · rw [e]; exact h9.1
      · exact ih h3 (by omega)
    · omega
theorem c27_tp (h : tpR f g n) (s : Nat) : c27 f s (wen f n s - s) = c27 g s (wen f n s - s) :=
  c27_cong (fun i hi => byR_eq (h (s + i) (run_in (show s + i < ren 97 122 f n (n - s) s by have : wen f n s = ren 97 122 f n (n - s) s := rfl; omega) (by omega))) (Or.inl (ren_all _ _ _ _ _ _ _ (by omega) (show s + i < wen f n s by omega))))
theorem dec_tp (h : tpR f g n) (s : Nat) : dec10 f s (den f n s - s) = dec10 g s (den f n s - s) :=
  dec_cong (fun i hi => byR_eq (h (s + i) (run_in (show s + i < ren 48 57 f n (n - s) s by have : den f n s = ren 48 57 f n (n - s) s := rfl; omega) (by omega))) (Or.inr (ren_all _ _ _ _ _ _ _ (by omega) (show s + i < den f n s by omega))))
theorem byU_tp {x y : Int32} (h : byR x y) : byU x = byU y := by
  have e : ∀ z : Int32, z.toInt = if 2 * z.toBitVec.toNat < 2 ^ 32 then (z.toBitVec.toNat : Int) else (z.toBitVec.toNat : Int) - 2 ^ 32 := fun z => BitVec.toInt_eq_toNat_cond z.toBitVec
  unfold byU
  rw [pk_and x (m := 255) 8 (by decide), pk_and y (m := 255) 8 (by decide)]
  have hx := e x
  have hy := e y
  have bx := x.toBitVec.isLt
  have by' := y.toBitVec.isLt
  unfold byR at h
  have h9 : x.toBitVec.toNat % 2 ^ 8 = y.toBitVec.toNat % 2 ^ 8 := by
    split at hx <;> split at hy <;> omega
  rw [h9]
theorem kndS_tp (h : tpR f g n) (s : Nat) : kndS f n s = kndS g n s := by
  unfold kndS
  by_cases h1 : n ≤ s
  · rw [if_pos h1, if_pos h1]
  · have hb := h s (by omega)
    have hi := byR_iff hb
    rw [if_neg h1, if_neg h1]
    by_cases h2 : isLt (f s)
    · rw [if_pos h2, if_pos (hi.1.mp h2), ← wen_tp h, c27_tp h]
    · rw [if_neg h2, if_neg (fun h9 => h2 (hi.1.mpr h9))]
      by_cases h3 : isDg (f s)
      · rw [if_pos h3, if_pos (hi.2.1.mp h3), ← den_tp h]
        by_cases h4 : 4 < den f n s - s ∨ (den f n s < n ∧ isLt (f (den f n s)))
        · rw [if_pos h4, if_pos (h4.imp id (fun h9 => ⟨h9.1, (byR_iff (h _ h9.1)).1.mp h9.2⟩))]
        · rw [if_neg h4, if_neg (fun h8 => h4 (h8.imp id (fun h9 => ⟨h9.1, (byR_iff (h _ h9.1)).1.mpr h9.2⟩)))]
      · rw [if_neg h3, if_neg (fun h9 => h3 (hi.2.1.mpr h9)), byU_tp hb]
theorem finS_tp (h : tpR f g n) (s : Nat) : finS f n s = finS g n s := by
  unfold finS
  by_cases h1 : n ≤ s
  · rw [if_pos h1, if_pos h1]
  · have hi := byR_iff (h s (by omega))
    rw [if_neg h1, if_neg h1, wen_tp h, den_tp h]
    by_cases h2 : isLt (f s)
    · rw [if_pos h2, if_pos (hi.1.mp h2)]
    · rw [if_neg h2, if_neg (fun h9 => h2 (hi.1.mpr h9))]
      by_cases h3 : isDg (f s)
      · rw [if_pos h3, if_pos (hi.2.1.mp h3)]
      · rw [if_neg h3, if_neg (fun h9 => h3 (hi.2.1.mpr h9))]
theorem knd_tp (h : tpR f g n) : knd f n = knd g n := by
  funext a; unfold knd; rw [stt_tp h, kndS_tp h]
theorem fin_tp (h : tpR f g n) : fin f n = fin g n := by
  funext a; unfold fin; rw [stt_tp h, finS_tp h]
theorem nam_tp (h : tpR f g n) : nam f n = nam g n := by
  funext a; unfold nam; rw [c27_tp h, wen_tp h, stt_tp h]
theorem num_tp (h : tpR f g n) : num f n = num g n := by
  funext a; unfold num; rw [dec_tp h, den_tp h, stt_tp h]
theorem takS_tp (h : tpR f g n) : takS f n = takS g n := by funext k a; unfold takS; rw [knd_tp h, fin_tp h]
theorem numS_tp (h : tpR f g n) : numS f n = numS g n := by funext k a; unfold numS; rw [knd_tp h, fin_tp h, num_tp h]
theorem optS_tp (h : tpR f g n) : optS f n = optS g n := by funext k a; unfold optS; rw [knd_tp h, fin_tp h, numS_tp h]
theorem fnd_tp (h : tpR f g n) : fnd f n = fnd g n := by
  funext np c a
  have : ∀ j k, fdF f n np a j k = fdF g n np a j k := by
    intro j
    induction j with
    | zero => intro k; rfl
    | succ j ih => intro k; show (if _ then _ else _) = (if _ then _ else _); rw [nam_tp h, ih]
  exact this _ _
theorem newS_tp (h : tpR f g n) : newS f n = newS g n := by funext m c np a; unfold newS; rw [knd_tp h, fin_tp h, fnd_tp h]
theorem knoS_tp (h : tpR f g n) : knoS f n = knoS g n := by funext c np a; unfold knoS; rw [knd_tp h, fnd_tp h]
theorem worS_tp (h : tpR f g n) : worS f n = worS g n := by funext c np a; unfold worS; rw [newS_tp h, optS_tp h, takS_tp h]
theorem plaS_tp (h : tpR f g n) : plaS f n = plaS g n := by funext c np k a; unfold plaS; rw [newS_tp h, optS_tp h, takS_tp h, numS_tp h]
theorem staS_tp (h : tpR f g n) : staS f n = staS g n := by funext c np a; unfold staS; rw [newS_tp h, takS_tp h, knd_tp h, fin_tp h]
theorem onnS_tp (h : tpR f g n) : onnS f n = onnS g n := by funext o c np d nq on a; unfold onnS; rw [knoS_tp h, takS_tp h, fin_tp h]
theorem wndS_tp (h : tpR f g n) : wndS f n = wndS g n := by funext t m a; unfold wndS; rw [numS_tp h, takS_tp h, fin_tp h]
theorem frmR_tp (h : tpR f g n) : frmR f n = frmR g n := by funext t u a r; unfold frmR; rw [knd_tp h, fin_tp h]
theorem linR_tp (h : tpR f g n) : linR f n = linR g n := by
  funext s r
  have e1 : tlW f n = tlW g n := by funext s x; unfold tlW; rw [fin_tp h]
  have e2 : stP f n = stP g n := by funext k v w s x; unfold stP; rw [fin_tp h]
  have e3 : stS f n = stS g n := by funext s x; unfold stS; rw [fin_tp h]
  unfold linR
  rw [knd_tp h, worS_tp h, plaS_tp h, staS_tp h, onnS_tp h, wndS_tp h, frmR_tp h, e1, e2, e3]
theorem PR_tp (h : tpR f g n) {s : AS} {r : ER AS} (hp : PR f n s r) : PR g n s r := by
  have : ∀ k s r, prs f n k s r = prs g n k s r := by
    intro k
    induction k with
    | zero => intro s r; rfl
    | succ k ih =>
      intro s r
      show ((_ ∧ _) ∨ (_ ∧ _)) = ((_ ∧ _) ∨ (_ ∧ _))
      rw [knd_tp h, linR_tp h]
      simp only [ih]
  obtain ⟨k, hk⟩ := hp
  exact ⟨k, by rw [← this]; exact hk⟩
end TPS
/-- four bytes more, on both sides -/
theorem s8_u8 (x k : Int32) : byR (s8 x k) (u8 x k) := by
  unfold s8 u8
  generalize x >>> k = y
  have e : ∀ z : Int32, z.toInt = if 2 * z.toBitVec.toNat < 2 ^ 32 then (z.toBitVec.toNat : Int) else (z.toBitVec.toNat : Int) - 2 ^ 32 := fun z => BitVec.toInt_eq_toNat_cond z.toBitVec
  rw [pk_and y (m := 255) 8 (by decide)]
  have h1 : (y.toInt8.toInt32).toInt = (y.toInt).bmod 256 := by
    rw [Int8.toInt_toInt32, Int32.toInt_toInt8]
  have h2 : (nI (y.toBitVec.toNat % 2 ^ 8)).toInt = ((y.toBitVec.toNat % 2 ^ 8 : Nat) : Int) := nI_toInt (by omega)
  have h3 := Int.bmod_emod (x := y.toInt) (m := 256)
  have h4 := Int.le_bmod (x := y.toInt) (m := 256) (by decide)
  have h5 := Int.bmod_lt (x := y.toInt) (m := 256) (by decide)
  have h6 := e y
  unfold byR
  rw [h1, h2]
  generalize (y.toInt).bmod 256 = r at *
  split at h6 <;> omega
theorem ap_tp {f g : Nat → Int32} {n : Nat} (h : tpR f g n) (x : Int32) : tpR (apC f n x) (apR g n x) (n + 1 + 1 + 1 + 1) := by
  intro i hi
  unfold apC apR
  by_cases e3 : i = n + 1 + 1 + 1
  · rw [e3, pk_us, pk_us]; exact s8_u8 x 0
  · rw [pk_un e3, pk_un e3]
    by_cases e2 : i = n + 1 + 1
    · rw [e2, pk_us, pk_us]; exact s8_u8 x 8
    · rw [pk_un e2, pk_un e2]
      by_cases e1 : i = n + 1
      · rw [e1, pk_us, pk_us]; exact s8_u8 x 16
      · rw [pk_un e1, pk_un e1]
        by_cases e0 : i = n
        · rw [e0, pk_us, pk_us]; exact s8_u8 x 24
        · rw [pk_un e0, pk_un e0]; exact h i (by omega)
def feC (f : Nat → Int32) (n : Nat) (a b c d e : Int32) : Nat → Int32 := apC (apC (apC (apC (apC f n a) (n + 1 + 1 + 1 + 1) b) (n + 1 + 1 + 1 + 1 + 1 + 1 + 1 + 1) c) (n + 1 + 1 + 1 + 1 + 1 + 1 + 1 + 1 + 1 + 1 + 1 + 1) d) (n + 1 + 1 + 1 + 1 + 1 + 1 + 1 + 1 + 1 + 1 + 1 + 1 + 1 + 1 + 1 + 1) e
