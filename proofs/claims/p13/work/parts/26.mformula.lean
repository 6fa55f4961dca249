def mL26 : List (Option Cond) := [some (Cond.selects RX12 yX12_add yX12_add), some (Cond.fieldLink RX12 21 "CliffJudgesModel" "nStep" "[I"), some (Cond.fieldLink RX12 24 "CliffJudgesModel" "nArg" "[I"), some (Cond.fieldLink RX12 27 "CliffJudgesModel" "nMany" "[I"), some (Cond.fieldLink RX12 39 "CliffJudgesModel" "open" "[I"), some (Cond.fieldLink RX12 280 "CliffJudgesModel" "form" "I"), some (Cond.fieldLink RX12 283 "CliffJudgesModel" "opens" "I"), some (Cond.fieldLink RX12 296 "CliffJudgesModel" "nUnits" "I"), some (Cond.fieldLink RX12 299 "CliffJudgesModel" "ownUnits" "I"), some (Cond.fieldLink RX12 293 "CliffJudgesModel" "deep" "I"), some (Cond.methodLink RX12 286 yX12_tight), some (Cond.static yX12_tight), some (Cond.code yX12_tight cX12_tight 1 (some .int)), some (Cond.methodLink RX12 289 yX12_add), some (Cond.instanceMethod yX12_add), some (Cond.code yX12_add cX12_add 3 none)]
set_option maxRecDepth 100000 in
theorem mP26 : pick [91, 1333, 1, 1, 4, 4, 1, 1, 2, 1, 384, 1, 1, 17, 2, 1] lw_tbl = mL26 := rfl
set_option maxRecDepth 100000 in
theorem mG26 : mL26.all (fun o => o.all goodWord) = true := rfl
theorem m_91 : (Cond.selects RX12 yX12_add yX12_add) ∈ gT := gp mP26 mG26 0 rfl
theorem m_1424 : (Cond.fieldLink RX12 21 "CliffJudgesModel" "nStep" "[I") ∈ gT := gp mP26 mG26 1 rfl
theorem m_1425 : (Cond.fieldLink RX12 24 "CliffJudgesModel" "nArg" "[I") ∈ gT := gp mP26 mG26 2 rfl
theorem m_1426 : (Cond.fieldLink RX12 27 "CliffJudgesModel" "nMany" "[I") ∈ gT := gp mP26 mG26 3 rfl
theorem m_1430 : (Cond.fieldLink RX12 39 "CliffJudgesModel" "open" "[I") ∈ gT := gp mP26 mG26 4 rfl
theorem m_1434 : (Cond.fieldLink RX12 280 "CliffJudgesModel" "form" "I") ∈ gT := gp mP26 mG26 5 rfl
theorem m_1435 : (Cond.fieldLink RX12 283 "CliffJudgesModel" "opens" "I") ∈ gT := gp mP26 mG26 6 rfl
theorem m_1436 : (Cond.fieldLink RX12 296 "CliffJudgesModel" "nUnits" "I") ∈ gT := gp mP26 mG26 7 rfl
theorem m_1438 : (Cond.fieldLink RX12 299 "CliffJudgesModel" "ownUnits" "I") ∈ gT := gp mP26 mG26 8 rfl
theorem m_1439 : (Cond.fieldLink RX12 293 "CliffJudgesModel" "deep" "I") ∈ gT := gp mP26 mG26 9 rfl
theorem m_1823 : (Cond.methodLink RX12 286 yX12_tight) ∈ gT := gp mP26 mG26 10 rfl
theorem m_1824 : (Cond.static yX12_tight) ∈ gT := gp mP26 mG26 11 rfl
theorem m_1825 : (Cond.code yX12_tight cX12_tight 1 (some .int)) ∈ gT := gp mP26 mG26 12 rfl
theorem m_1842 : (Cond.methodLink RX12 289 yX12_add) ∈ gT := gp mP26 mG26 13 rfl
theorem m_1844 : (Cond.instanceMethod yX12_add) ∈ gT := gp mP26 mG26 14 rfl
theorem m_1845 : (Cond.code yX12_add cX12_add 3 none) ∈ gT := gp mP26 mG26 15 rfl
/-- how many brackets and NOTs stand open -/
def cntD (f : Nat → Int32) : Nat → Nat
  | 0 => 0
  | k + 1 => cntD f k + (if f k = 20 ∨ f k = 21 then 1 else 0)
theorem cntD_1 {f : Nat → Int32} {k : Nat} (h : f k = 20 ∨ f k = 21) : cntD f (k + 1) = cntD f k + 1 := by
  show _ + (if _ then _ else _) = _
  rw [if_pos h]
theorem cntD_0 {f : Nat → Int32} {k : Nat} (h1 : ¬ f k = 20) (h2 : ¬ f k = 21) : cntD f (k + 1) = cntD f k := by
  show _ + (if _ then _ else _) = _
  rw [if_neg (fun h => h.elim h1 h2)]
  rfl
theorem cntD_le (f : Nat → Int32) (k : Nat) : cntD f k ≤ k := by
  induction k with
  | zero => exact Nat.le_refl 0
  | succ k ih =>
    show _ + (if _ then _ else _) ≤ _
    split <;> omega
theorem cntD_upd {f : Nat → Int32} {k n : Nat} {x : Int32} (h : n ≤ k) : cntD (upd f k x) n = cntD f n := by
  induction n with
  | zero => rfl
  | succ n ih =>
    show _ + (if _ then _ else _) = _ + (if _ then _ else _)
    rw [ih (by omega), pk_un (by omega)]
theorem cntD_put {f : Nat → Int32} {o d : Nat} {x : Int32} (ho : o < 2 ^ 31) (h : cntD f o = d) (hx : x = 20 ∨ x = 21) : cntD (upd f (nI o).toNatClampNeg x) (o + 1) = d + 1 := by
  rw [nI_clamp ho, cntD_1 (by rw [pk_us]; exact hx), cntD_upd (Nat.le_refl _), h]
theorem cntD_put0 {f : Nat → Int32} {o d : Nat} {x : Int32} (ho : o < 2 ^ 31) (h : cntD f o = d) (h1 : ¬ x = 20) (h2 : ¬ x = 21) : cntD (upd f (nI o).toNatClampNeg x) (o + 1) = d := by
  rw [nI_clamp ho, cntD_0 (by rw [pk_us]; exact h1) (by rw [pk_us]; exact h2), cntD_upd (Nat.le_refl _), h]
theorem top_eq {f : Nat → Int32} {o : Nat} {x v : Int32} (ho : o < 2 ^ 31) (ex : x = f (nI o).toNatClampNeg) (h : x = v) : f o = v := by
  rw [nI_clamp ho] at ex; exact ex.symm.trans h
theorem top_ne {f : Nat → Int32} {o : Nat} {x v : Int32} (ho : o < 2 ^ 31) (ex : x = f (nI o).toNatClampNeg) (h : ¬ x = v) : ¬ f o = v := by
  rw [nI_clamp ho] at ex; exact fun h9 => h (ex.trans h9)
theorem bk_step {f : Nat → Int32} {o k : Nat} (h : k < o) (h2 : ¬ f (o - 1) = 20) (ek : f k = 20) : k < o - 1 := by
  rcases Nat.lt_or_ge k (o - 1) with h9 | h9
  · exact h9
  · exact absurd ek (by rw [show k = o - 1 by omega]; exact h2)
theorem cnt_dec {f : Nat → Int32} {o : Nat} (ho : 1 ≤ o) (h : f (o - 1) = 20 ∨ f (o - 1) = 21) : cntD f o = cntD f (o - 1) + 1 := by
  have := cntD_1 h
  rwa [Nat.sub_add_cancel ho] at this
theorem cnt_same {f : Nat → Int32} {o : Nat} (ho : 1 ≤ o) (h1 : ¬ f (o - 1) = 20) (h2 : ¬ f (o - 1) = 21) : cntD f o = cntD f (o - 1) := by
  have := cntD_0 h1 h2
  rwa [Nat.sub_add_cancel ho] at this
/-- a row of steps that can be worked: h k values stand before step k -/
def rpn (st ar : Nat → Int32) (b m : Nat) (h : Nat → Nat) : Prop := h 0 = 0 ∧ ∀ k, k < m → h k ≤ 60 ∧ ((st (b + k) = 0 ∧ h (k + 1) = h k + 1) ∨ (st (b + k) = 1 ∧ h (k + 1) = h k + 1 ∧ ∃ j : Nat, j ≤ 6 ∧ ar (b + k) = nI j) ∨ (st (b + k) = 2 ∧ h (k + 1) = h k ∧ 1 ≤ h k) ∨ (st (b + k) = 3 ∧ h (k + 1) + 1 = h k ∧ 2 ≤ h k))
def allR (st ar mn : Nat → Int32) (mm : Nat → Nat) (H : Nat → Nat → Nat) : Prop := ∀ f, f < 3 → mn f = nI (mm f) ∧ mm f ≤ 310 ∧ rpn st ar (320 * f) (mm f) (H f)
theorem allR_at {st ar mn : Nat → Int32} {mm : Nat → Nat} {H : Nat → Nat → Nat} {f : Nat} {x : Int32} (h : allR st ar mn mm H) (hf : f ≤ 2) (ex : x = mn (nI f).toNatClampNeg) : x = nI (mm f) := by
  rw [nI_clamp (by omega)] at ex; exact ex.trans (h f (by omega)).1
theorem allR_le {st ar mn : Nat → Int32} {mm : Nat → Nat} {H : Nat → Nat → Nat} {f : Nat} (h : allR st ar mn mm H) (hf : f ≤ 2) : mm f ≤ 310 := (h f (by omega)).2.1
theorem allR_reset {st ar mn : Nat → Int32} {mm : Nat → Nat} {H : Nat → Nat → Nat} {f : Nat} {z : Int32} (h : allR st ar mn mm H) (hf : f ≤ 2) (hz : z = nI f) : ∃ (mm' : Nat → Nat) (H' : Nat → Nat → Nat), allR st ar (upd mn z.toNatClampNeg 0) mm' H' ∧ mm' f = 0 ∧ H' f (mm' f) = 0 := by
  refine ⟨fun g => if g = f then 0 else mm g, fun g k => if g = f then 0 else H g k, ?_, if_pos rfl, if_pos rfl⟩
  rw [hz, nI_clamp (by omega)]
  intro g hg
  by_cases e : g = f
  · subst e
    refine ⟨?_, ?_, ?_, ?_⟩
    · dsimp only; rw [pk_us, if_pos rfl]; rfl
    · dsimp only; rw [if_pos rfl]; omega
    · dsimp only; rw [if_pos rfl]
    · intro k hk; dsimp only at hk; rw [if_pos rfl] at hk; omega
  · obtain ⟨h1, h2, h3⟩ := h g hg
    refine ⟨?_, ?_, ?_⟩
    · dsimp only; rw [pk_un e, if_neg e]; exact h1
    · dsimp only; rw [if_neg e]; exact h2
    · simp only [if_neg e]; exact h3
theorem allR_add {st ar mn : Nat → Int32} {mm : Nat → Nat} {H : Nat → Nat → Nat} {f : Nat} {sx v : Int32} {hn : Nat} (h : allR st ar mn mm H) (hf : f ≤ 2) (hm : mm f < 310) (hh : H f (mm f) ≤ 60) (hc : (sx = 0 ∧ hn = H f (mm f) + 1) ∨ (sx = 1 ∧ hn = H f (mm f) + 1 ∧ ∃ j : Nat, j ≤ 6 ∧ v = nI j) ∨ (sx = 2 ∧ hn = H f (mm f) ∧ 1 ≤ H f (mm f)) ∨ (sx = 3 ∧ hn + 1 = H f (mm f) ∧ 2 ≤ H f (mm f))) : ∃ (mm' : Nat → Nat) (H' : Nat → Nat → Nat), allR (upd st (nI (320 * f + mm f)).toNatClampNeg sx) (upd ar (nI (320 * f + mm f)).toNatClampNeg v) (upd mn (nI f).toNatClampNeg (nI (mm f + 1))) mm' H' ∧ mm' f = mm f + 1 ∧ H' f (mm' f) = hn := by
  refine ⟨fun g => if g = f then mm f + 1 else mm g, fun g k => if g = f ∧ k = mm f + 1 then hn else H g k, ?_, if_pos rfl, ?_⟩
  · rw [nI_clamp (n := 320 * f + mm f) (by omega), nI_clamp (n := f) (by omega)]
    intro g hg
    by_cases e : g = f
    · subst e
      obtain ⟨h1, h2, h3, h4⟩ := h g hg
      refine ⟨by dsimp only; rw [pk_us, if_pos rfl], by dsimp only; rw [if_pos rfl]; omega, ?_, ?_⟩
      · dsimp only; rw [if_neg (by omega)]; exact h3
      · intro k hk
        dsimp only at hk ⊢
        rw [if_pos rfl] at hk
        by_cases ek : k = mm g
        · subst ek
          rw [if_neg (fun h => by omega), if_pos ⟨rfl, rfl⟩, pk_us, pk_us]
          exact ⟨hh, hc⟩
        · have h9 := h4 k (by omega)
          rw [if_neg (fun h => by omega), if_neg (fun h => by omega), pk_un (by omega), pk_un (by omega)]
          exact h9
    · obtain ⟨h1, h2, h3, h4⟩ := h g hg
      refine ⟨by dsimp only; rw [pk_un e, if_neg e]; exact h1, by dsimp only; rw [if_neg e]; exact h2, ?_, ?_⟩
      · dsimp only; rw [if_neg (fun h => e h.1)]; exact h3
      · intro k hk
        dsimp only at hk ⊢
        rw [if_neg e] at hk
        rw [if_neg (fun h => e h.1), if_neg (fun h => e h.1), pk_un (by omega), pk_un (by omega)]
        exact h4 k hk
  · show (if f = f ∧ (if f = f then mm f + 1 else mm f) = mm f + 1 then hn else _) = hn
    rw [if_pos rfl, if_pos ⟨rfl, rfl⟩]

theorem gdX12_add_0 : decode cX12_add 0 = .ok (.aload_n 0, 1) ∧ decode cX12_add 1 = .ok (.getfield 21, 3) ∧ decode cX12_add 4 = .ok (.sipush 320, 3) ∧ decode cX12_add 7 = .ok (.aload_n 0, 1) ∧ decode cX12_add 8 = .ok (.getfield 280, 3) ∧ decode cX12_add 11 = .ok (.imul, 1) ∧ decode cX12_add 12 = .ok (.aload_n 0, 1) ∧ decode cX12_add 13 = .ok (.getfield 27, 3) ∧ decode cX12_add 16 = .ok (.aload_n 0, 1) ∧ decode cX12_add 17 = .ok (.getfield 280, 3) ∧ decode cX12_add 20 = .ok (.iaload, 1) ∧ decode cX12_add 21 = .ok (.iadd, 1) := by decide +kernel
theorem dX12_add_0 : decode cX12_add 0 = .ok (.aload_n 0, 1) := gdX12_add_0.1
theorem dX12_add_1 : decode cX12_add 1 = .ok (.getfield 21, 3) := gdX12_add_0.2.1
theorem dX12_add_4 : decode cX12_add 4 = .ok (.sipush 320, 3) := gdX12_add_0.2.2.1
theorem dX12_add_7 : decode cX12_add 7 = .ok (.aload_n 0, 1) := gdX12_add_0.2.2.2.1
theorem dX12_add_8 : decode cX12_add 8 = .ok (.getfield 280, 3) := gdX12_add_0.2.2.2.2.1
theorem dX12_add_11 : decode cX12_add 11 = .ok (.imul, 1) := gdX12_add_0.2.2.2.2.2.1
theorem dX12_add_12 : decode cX12_add 12 = .ok (.aload_n 0, 1) := gdX12_add_0.2.2.2.2.2.2.1
theorem dX12_add_13 : decode cX12_add 13 = .ok (.getfield 27, 3) := gdX12_add_0.2.2.2.2.2.2.2.1
theorem dX12_add_16 : decode cX12_add 16 = .ok (.aload_n 0, 1) := gdX12_add_0.2.2.2.2.2.2.2.2.1
theorem dX12_add_17 : decode cX12_add 17 = .ok (.getfield 280, 3) := gdX12_add_0.2.2.2.2.2.2.2.2.2.1
theorem dX12_add_20 : decode cX12_add 20 = .ok (.iaload, 1) := gdX12_add_0.2.2.2.2.2.2.2.2.2.2.1
theorem dX12_add_21 : decode cX12_add 21 = .ok (.iadd, 1) := gdX12_add_0.2.2.2.2.2.2.2.2.2.2.2
theorem gdX12_add_22 : decode cX12_add 22 = .ok (.iload_n 1, 1) ∧ decode cX12_add 23 = .ok (.iastore, 1) ∧ decode cX12_add 24 = .ok (.aload_n 0, 1) ∧ decode cX12_add 25 = .ok (.getfield 24, 3) ∧ decode cX12_add 28 = .ok (.sipush 320, 3) ∧ decode cX12_add 31 = .ok (.aload_n 0, 1) ∧ decode cX12_add 32 = .ok (.getfield 280, 3) ∧ decode cX12_add 35 = .ok (.imul, 1) ∧ decode cX12_add 36 = .ok (.aload_n 0, 1) ∧ decode cX12_add 37 = .ok (.getfield 27, 3) ∧ decode cX12_add 40 = .ok (.aload_n 0, 1) ∧ decode cX12_add 41 = .ok (.getfield 280, 3) := by decide +kernel
theorem dX12_add_22 : decode cX12_add 22 = .ok (.iload_n 1, 1) := gdX12_add_22.1
theorem dX12_add_23 : decode cX12_add 23 = .ok (.iastore, 1) := gdX12_add_22.2.1
theorem dX12_add_24 : decode cX12_add 24 = .ok (.aload_n 0, 1) := gdX12_add_22.2.2.1
theorem dX12_add_25 : decode cX12_add 25 = .ok (.getfield 24, 3) := gdX12_add_22.2.2.2.1
theorem dX12_add_28 : decode cX12_add 28 = .ok (.sipush 320, 3) := gdX12_add_22.2.2.2.2.1
theorem dX12_add_31 : decode cX12_add 31 = .ok (.aload_n 0, 1) := gdX12_add_22.2.2.2.2.2.1
theorem dX12_add_32 : decode cX12_add 32 = .ok (.getfield 280, 3) := gdX12_add_22.2.2.2.2.2.2.1
theorem dX12_add_35 : decode cX12_add 35 = .ok (.imul, 1) := gdX12_add_22.2.2.2.2.2.2.2.1
theorem dX12_add_36 : decode cX12_add 36 = .ok (.aload_n 0, 1) := gdX12_add_22.2.2.2.2.2.2.2.2.1
theorem dX12_add_37 : decode cX12_add 37 = .ok (.getfield 27, 3) := gdX12_add_22.2.2.2.2.2.2.2.2.2.1
theorem dX12_add_40 : decode cX12_add 40 = .ok (.aload_n 0, 1) := gdX12_add_22.2.2.2.2.2.2.2.2.2.2.1
theorem dX12_add_41 : decode cX12_add 41 = .ok (.getfield 280, 3) := gdX12_add_22.2.2.2.2.2.2.2.2.2.2.2
theorem gdX12_add_44 : decode cX12_add 44 = .ok (.iaload, 1) ∧ decode cX12_add 45 = .ok (.iadd, 1) ∧ decode cX12_add 46 = .ok (.iload_n 2, 1) ∧ decode cX12_add 47 = .ok (.iastore, 1) ∧ decode cX12_add 48 = .ok (.aload_n 0, 1) ∧ decode cX12_add 49 = .ok (.getfield 27, 3) ∧ decode cX12_add 52 = .ok (.aload_n 0, 1) ∧ decode cX12_add 53 = .ok (.getfield 280, 3) ∧ decode cX12_add 56 = .ok (.dup2, 1) ∧ decode cX12_add 57 = .ok (.iaload, 1) ∧ decode cX12_add 58 = .ok (.iconst 1, 1) ∧ decode cX12_add 59 = .ok (.iadd, 1) := by decide +kernel
theorem dX12_add_44 : decode cX12_add 44 = .ok (.iaload, 1) := gdX12_add_44.1
theorem dX12_add_45 : decode cX12_add 45 = .ok (.iadd, 1) := gdX12_add_44.2.1
theorem dX12_add_46 : decode cX12_add 46 = .ok (.iload_n 2, 1) := gdX12_add_44.2.2.1
theorem dX12_add_47 : decode cX12_add 47 = .ok (.iastore, 1) := gdX12_add_44.2.2.2.1
theorem dX12_add_48 : decode cX12_add 48 = .ok (.aload_n 0, 1) := gdX12_add_44.2.2.2.2.1
theorem dX12_add_49 : decode cX12_add 49 = .ok (.getfield 27, 3) := gdX12_add_44.2.2.2.2.2.1
theorem dX12_add_52 : decode cX12_add 52 = .ok (.aload_n 0, 1) := gdX12_add_44.2.2.2.2.2.2.1
theorem dX12_add_53 : decode cX12_add 53 = .ok (.getfield 280, 3) := gdX12_add_44.2.2.2.2.2.2.2.1
theorem dX12_add_56 : decode cX12_add 56 = .ok (.dup2, 1) := gdX12_add_44.2.2.2.2.2.2.2.2.1
theorem dX12_add_57 : decode cX12_add 57 = .ok (.iaload, 1) := gdX12_add_44.2.2.2.2.2.2.2.2.2.1
theorem dX12_add_58 : decode cX12_add 58 = .ok (.iconst 1, 1) := gdX12_add_44.2.2.2.2.2.2.2.2.2.2.1
theorem dX12_add_59 : decode cX12_add 59 = .ok (.iadd, 1) := gdX12_add_44.2.2.2.2.2.2.2.2.2.2.2
theorem dX12_add_60 : decode cX12_add 60 = .ok (.iastore, 1) := by decide +kernel
theorem dX12_add_61 : decode cX12_add 61 = .ok (.return_, 1) := by decide +kernel
set_option maxHeartbeats 1000000 in
set_option maxRecDepth 100000 in
theorem r_add0 (l : Launch) (D : va_G) (cy : Nat → ClassId) (m0 : Nat) (Mtape : Nat) (MnName : Nat) (MnStep : Nat) (MnArg : Nat) (MnMany : Nat) (Mstep : Nat) (Marg : Nat) (Mmany : Nat) (Mopen : Nat) (Mvalues : Nat) (MnHasForm : Nat) (MhasForm : Nat) (Masks : Nat) (MnLoud : Nat) (MnCliffAt : Nat) (MnSnow : Nat) (MnManAt : Nat) (MnVoice : Nat) (MnOn : Nat) (Mloud : Nat) (McliffAt : Nat) (MsnowTold : Nat) (MmanAt : Nat) (Mvoice : Nat) (Mon : Nat) (MnYes : Nat) (Myes : Nat) (Mnow : Nat) (Mcry : Nat) (Msnow : Nat) (Mecho : Nat) (Mwere : Nat) (Mlies : Nat) (Mspots : Nat) (Msteps : Nat) (MfromState : Nat) (MbyWord : Nat) (Mqueue : Nat) (MsoundCliff : Nat) (MsoundLong : Nat) (MsoundCame : Nat) (MsoundTold : Nat) (MsoundUntold : Nat) (Mstands : Nat) (Mtally : Nat) (MhasBox : Nat) (Mboxes : Nat) (Itaped : Nat) (Ifault : Nat) (IfaultPlace : Int32) (Iat : Nat) (Isize : Nat) (Isort : Int32) (Iplace : Int32) (Inumber : Int32) (Iword : Int64) (GnStep : Nat → Int32) (GnArg : Nat → Int32) (GnMany : Nat → Int32) (Iform : Nat) (Iopens : Nat) (InUnits : Nat) (Iunits : Int32) (IownUnits : Nat) (Ideep : Nat) (InWords : Nat) (InCliffs : Nat) (InMen : Nat) (InStates : Nat) (InOns : Nat) (InWind : Int32) (InDraw : Int32) (Iwords : Nat) (Icliffs : Nat) (Imen : Nat) (Istates : Nat) (Ions : Int32) (IwindTold : Int32) (InHasWind : Int32) (InHasDraw : Int32) (IcryMany : Nat) (IcallPlace : Int32) (IcallVoice : Int32) (Iwind : Int32) (Ichance : Int32) (IechoMany : Nat) (Iacts : Nat) (Iundone : Nat) (Ilain : Nat) (Isounds : Nat) (Itime : Int32) (IstandMany : Int32) (mm : Nat → Nat) (HH : Nat → Nat → Nat) (va : Int32) (gtp : Itaped ≤ 1600) (gat : Iat ≤ Isize) (gsz : Isize ≤ 1600) (gfl : Ifault ≤ 5) (gfo : Iform ≤ 2) (gnw : InWords ≤ 8) (gnc : InCliffs ≤ 4) (gnm : InMen ≤ 4) (gns : InStates ≤ 6) (gw : Iwords ≤ 8) (gc9 : Icliffs ≤ 4) (gm : Imen ≤ 4) (gs : Istates ≤ 6) (gcm : IcryMany ≤ 10) (gem : IechoMany ≤ 20) (gau : Iacts + Iundone ≤ 40) (gla : Ilain ≤ 20) (gso : Isounds ≤ 30) (gop : Iopens ≤ 40) (gde : Ideep ≤ 8) (gou : IownUnits ≤ 31) (gnu : InUnits ≤ 61) (gno : InOns ≤ 30) (gall : allR GnStep GnArg GnMany mm HH) (hml9 : mm Iform < 310) (hco : HH Iform (mm Iform) ≤ 60) : XMv l D (tyL cy) E0 yX12_add cX12_add 3 none (rmk 0 0 0) [.ref m0, .int 0, .int va] [wO m0 12 [.ref Mtape, .int (nI Itaped), .int (nI Ifault), .int IfaultPlace, .int (nI Iat), .int (nI Isize), .int Isort, .int Iplace, .int Inumber, .long Iword, .ref MnName, .ref MnStep, .ref MnArg, .ref MnMany, .ref Mstep, .ref Marg, .ref Mmany, .ref Mopen, .ref Mvalues, .ref MnHasForm, .ref MhasForm, .int (nI Iform), .int (nI Iopens), .int (nI InUnits), .int Iunits, .int (nI IownUnits), .int (nI Ideep), .ref Masks, .ref MnLoud, .ref MnCliffAt, .ref MnSnow, .ref MnManAt, .ref MnVoice, .ref MnOn, .ref Mloud, .ref McliffAt, .ref MsnowTold, .ref MmanAt, .ref Mvoice, .ref Mon, .ref MnYes, .ref Myes, .int (nI InWords), .int (nI InCliffs), .int (nI InMen), .int (nI InStates), .int (nI InOns), .int InWind, .int InDraw, .int (nI Iwords), .int (nI Icliffs), .int (nI Imen), .int (nI Istates), .int Ions, .int IwindTold, .int InHasWind, .int InHasDraw, .ref Mnow, .ref Mcry, .ref Msnow, .ref Mecho, .int (nI IcryMany), .int IcallPlace, .int IcallVoice, .int Iwind, .int Ichance, .int (nI IechoMany), .ref Mwere, .int (nI Iacts), .int (nI Iundone), .ref Mlies, .int (nI Ilain), .ref Mspots, .ref Msteps, .ref MfromState, .ref MbyWord, .ref Mqueue, .ref MsoundCliff, .ref MsoundLong, .ref MsoundCame, .ref MsoundTold, .ref MsoundUntold, .int (nI Isounds), .int Itime, .ref Mstands, .int IstandMany, .ref Mtally, .ref MhasBox, .ref Mboxes], wI (cy 1) MnStep 960 (GnStep), wI (cy 1) MnArg 960 (GnArg), wI (cy 1) MnMany 3 (GnMany)] (fun (u : (Nat → Int32) × (Nat → Int32) × (Nat → Int32) × (Nat → Nat) × (Nat → Nat → Nat)) => (allR u.1 u.2.1 u.2.2.1 u.2.2.2.1 u.2.2.2.2) ∧ (u.2.2.2.1 Iform = mm Iform + 1) ∧ (u.2.2.2.2 Iform (u.2.2.2.1 Iform) = HH Iform (mm Iform) + 1)) (fun (u : (Nat → Int32) × (Nat → Int32) × (Nat → Int32) × (Nat → Nat) × (Nat → Nat → Nat)) => [wO m0 12 [.ref Mtape, .int (nI Itaped), .int (nI Ifault), .int IfaultPlace, .int (nI Iat), .int (nI Isize), .int Isort, .int Iplace, .int Inumber, .long Iword, .ref MnName, .ref MnStep, .ref MnArg, .ref MnMany, .ref Mstep, .ref Marg, .ref Mmany, .ref Mopen, .ref Mvalues, .ref MnHasForm, .ref MhasForm, .int (nI Iform), .int (nI Iopens), .int (nI InUnits), .int Iunits, .int (nI IownUnits), .int (nI Ideep), .ref Masks, .ref MnLoud, .ref MnCliffAt, .ref MnSnow, .ref MnManAt, .ref MnVoice, .ref MnOn, .ref Mloud, .ref McliffAt, .ref MsnowTold, .ref MmanAt, .ref Mvoice, .ref Mon, .ref MnYes, .ref Myes, .int (nI InWords), .int (nI InCliffs), .int (nI InMen), .int (nI InStates), .int (nI InOns), .int InWind, .int InDraw, .int (nI Iwords), .int (nI Icliffs), .int (nI Imen), .int (nI Istates), .int Ions, .int IwindTold, .int InHasWind, .int InHasDraw, .ref Mnow, .ref Mcry, .ref Msnow, .ref Mecho, .int (nI IcryMany), .int IcallPlace, .int IcallVoice, .int Iwind, .int Ichance, .int (nI IechoMany), .ref Mwere, .int (nI Iacts), .int (nI Iundone), .ref Mlies, .int (nI Ilain), .ref Mspots, .ref Msteps, .ref MfromState, .ref MbyWord, .ref Mqueue, .ref MsoundCliff, .ref MsoundLong, .ref MsoundCame, .ref MsoundTold, .ref MsoundUntold, .int (nI Isounds), .int Itime, .ref Mstands, .int IstandMany, .ref Mtally, .ref MhasBox, .ref Mboxes], wI (cy 1) MnStep 960 (u.1), wI (cy 1) MnArg 960 (u.2.1), wI (cy 1) MnMany 3 (u.2.2.1)]) := by
  refine XMv.start (by decide) (Nat.le_of_ble_eq_true rfl) ?_
  intro p e s m below meth c args A ls Q hat hQ
  obtain ⟨hx, hb, hr, hml, hown, hg, hlocks, hin, hK, hA, hP, hD, hS, hE, hl⟩ := hat
  have hown : s.vm.findClass RX12 = some m.cls := hown
  have hl : lv_has ls 3 [(0, .ref m0), (1, .int 0), (2, .int va)] := hl
  refine lv_aload_n hx hb dX12_add_0 rfl (lv_at hl 0 rfl) ?_
  refine va_get (D := D) (ci := 12) (v := .ref MnStep) (C := RX12) (T := TX12) (N := 89) hx hb hg i_X12 hown hK hP 0 rfl rfl 11 (by decide) (hg _ m_1424) (fun _ h9 => h9) rfl dX12_add_1 ?_
  refine lv_sipush (v := 320) hx hb dX12_add_4 (by decide) ?_
  refine lv_aload_n hx hb dX12_add_7 rfl (lv_at hl 0 rfl) ?_
  refine va_get (D := D) (ci := 12) (v := .int (nI Iform)) (C := RX12) (T := TX12) (N := 89) hx hb hg i_X12 hown hK hP 0 rfl rfl 21 (by decide) (hg _ m_1434) (fun _ h9 => h9) rfl dX12_add_8 ?_
  refine lv_imul hx hb dX12_add_11 ?_
  refine lv_topi (fun y_1 hy_1 => ?_)
  obtain rfl : y_1 = nI (320 * Iform) := hy_1.trans (pk_mul 320 Iform)
  refine lv_aload_n hx hb dX12_add_12 rfl (lv_at hl 0 rfl) ?_
  refine va_get (D := D) (ci := 12) (v := .ref MnMany) (C := RX12) (T := TX12) (N := 89) hx hb hg i_X12 hown hK hP 0 rfl rfl 13 (by decide) (hg _ m_1426) (fun _ h9 => h9) rfl dX12_add_13 ?_
  refine lv_aload_n hx hb dX12_add_16 rfl (lv_at hl 0 rfl) ?_
  refine va_get (D := D) (ci := 12) (v := .int (nI Iform)) (C := RX12) (T := TX12) (N := 89) hx hb hg i_X12 hown hK hP 0 rfl rfl 21 (by decide) (hg _ m_1434) (fun _ h9 => h9) rfl dX12_add_17 ?_
  refine va_iald hx hb hK hP 3 1 rfl rfl (vp_in_nI (by omega) (by decide)) dX12_add_20 ?_
  refine lv_topi (fun x_2 ex_2 => ?_)
  obtain rfl : x_2 = nI (mm Iform) := allR_at gall gfo ex_2
  refine lv_iadd hx hb dX12_add_21 ?_
  refine lv_topi (fun y_3 hy_3 => ?_)
  obtain rfl : y_3 = nI ((320 * Iform) + (mm Iform)) := hy_3.trans (nI_add ((320 * Iform)) ((mm Iform)))
  refine lv_iload_n hx hb dX12_add_22 rfl (lv_at hl 1 rfl) ?_
  refine va_iast hx hb hK hP hD hS 1 1 rfl rfl (vp_in_nI (by omega) (by decide)) dX12_add_23 (fun H locs hP9 hD9 hS9 => ?_)
  clear hP hD hS
  obtain ⟨g_4, eg_4⟩ : ∃ y, upd GnStep (nI ((320 * Iform) + (mm Iform)) : Int32).toNatClampNeg 0 = y := ⟨_, rfl⟩
  rw [eg_4] at hP9 hD9
  refine reW [wO m0 12 [.ref Mtape, .int (nI Itaped), .int (nI Ifault), .int IfaultPlace, .int (nI Iat), .int (nI Isize), .int Isort, .int Iplace, .int Inumber, .long Iword, .ref MnName, .ref MnStep, .ref MnArg, .ref MnMany, .ref Mstep, .ref Marg, .ref Mmany, .ref Mopen, .ref Mvalues, .ref MnHasForm, .ref MhasForm, .int (nI Iform), .int (nI Iopens), .int (nI InUnits), .int Iunits, .int (nI IownUnits), .int (nI Ideep), .ref Masks, .ref MnLoud, .ref MnCliffAt, .ref MnSnow, .ref MnManAt, .ref MnVoice, .ref MnOn, .ref Mloud, .ref McliffAt, .ref MsnowTold, .ref MmanAt, .ref Mvoice, .ref Mon, .ref MnYes, .ref Myes, .int (nI InWords), .int (nI InCliffs), .int (nI InMen), .int (nI InStates), .int (nI InOns), .int InWind, .int InDraw, .int (nI Iwords), .int (nI Icliffs), .int (nI Imen), .int (nI Istates), .int Ions, .int IwindTold, .int InHasWind, .int InHasDraw, .ref Mnow, .ref Mcry, .ref Msnow, .ref Mecho, .int (nI IcryMany), .int IcallPlace, .int IcallVoice, .int Iwind, .int Ichance, .int (nI IechoMany), .ref Mwere, .int (nI Iacts), .int (nI Iundone), .ref Mlies, .int (nI Ilain), .ref Mspots, .ref Msteps, .ref MfromState, .ref MbyWord, .ref Mqueue, .ref MsoundCliff, .ref MsoundLong, .ref MsoundCame, .ref MsoundTold, .ref MsoundUntold, .int (nI Isounds), .int Itime, .ref Mstands, .int IstandMany, .ref Mtally, .ref MhasBox, .ref Mboxes], wI (cy 1) MnStep 960 (g_4), wI (cy 1) MnArg 960 (GnArg), wI (cy 1) MnMany 3 (GnMany)] hP9 hD9 hS9 (fun hP hD hS => ?_)
  clear hP9 hD9 hS9
  refine lv_aload_n hx hb dX12_add_24 rfl (lv_at hl 0 rfl) ?_
  refine va_get (D := D) (ci := 12) (v := .ref MnArg) (C := RX12) (T := TX12) (N := 89) hx hb hg i_X12 hown hK hP 0 rfl rfl 12 (by decide) (hg _ m_1425) (fun _ h9 => h9) rfl dX12_add_25 ?_
  refine lv_sipush (v := 320) hx hb dX12_add_28 (by decide) ?_
  refine lv_aload_n hx hb dX12_add_31 rfl (lv_at hl 0 rfl) ?_
  refine va_get (D := D) (ci := 12) (v := .int (nI Iform)) (C := RX12) (T := TX12) (N := 89) hx hb hg i_X12 hown hK hP 0 rfl rfl 21 (by decide) (hg _ m_1434) (fun _ h9 => h9) rfl dX12_add_32 ?_
  refine lv_imul hx hb dX12_add_35 ?_
  refine lv_topi (fun y_5 hy_5 => ?_)
  obtain rfl : y_5 = nI (320 * Iform) := hy_5.trans (pk_mul 320 Iform)
  refine lv_aload_n hx hb dX12_add_36 rfl (lv_at hl 0 rfl) ?_
  refine va_get (D := D) (ci := 12) (v := .ref MnMany) (C := RX12) (T := TX12) (N := 89) hx hb hg i_X12 hown hK hP 0 rfl rfl 13 (by decide) (hg _ m_1426) (fun _ h9 => h9) rfl dX12_add_37 ?_
  refine lv_aload_n hx hb dX12_add_40 rfl (lv_at hl 0 rfl) ?_
  refine va_get (D := D) (ci := 12) (v := .int (nI Iform)) (C := RX12) (T := TX12) (N := 89) hx hb hg i_X12 hown hK hP 0 rfl rfl 21 (by decide) (hg _ m_1434) (fun _ h9 => h9) rfl dX12_add_41 ?_
  refine va_iald hx hb hK hP 3 1 rfl rfl (vp_in_nI (by omega) (by decide)) dX12_add_44 ?_
  refine lv_topi (fun x_6 ex_6 => ?_)
  obtain rfl : x_6 = nI (mm Iform) := allR_at gall gfo ex_6
  refine lv_iadd hx hb dX12_add_45 ?_
  refine lv_topi (fun y_7 hy_7 => ?_)
  obtain rfl : y_7 = nI ((320 * Iform) + (mm Iform)) := hy_7.trans (nI_add ((320 * Iform)) ((mm Iform)))
  refine lv_iload_n hx hb dX12_add_46 rfl (lv_at hl 2 rfl) ?_
  refine va_iast hx hb hK hP hD hS 2 1 rfl rfl (vp_in_nI (by omega) (by decide)) dX12_add_47 (fun H locs hP9 hD9 hS9 => ?_)
  clear hP hD hS
  obtain ⟨g_8, eg_8⟩ : ∃ y, upd GnArg (nI ((320 * Iform) + (mm Iform)) : Int32).toNatClampNeg va = y := ⟨_, rfl⟩
  rw [eg_8] at hP9 hD9
  refine reW [wO m0 12 [.ref Mtape, .int (nI Itaped), .int (nI Ifault), .int IfaultPlace, .int (nI Iat), .int (nI Isize), .int Isort, .int Iplace, .int Inumber, .long Iword, .ref MnName, .ref MnStep, .ref MnArg, .ref MnMany, .ref Mstep, .ref Marg, .ref Mmany, .ref Mopen, .ref Mvalues, .ref MnHasForm, .ref MhasForm, .int (nI Iform), .int (nI Iopens), .int (nI InUnits), .int Iunits, .int (nI IownUnits), .int (nI Ideep), .ref Masks, .ref MnLoud, .ref MnCliffAt, .ref MnSnow, .ref MnManAt, .ref MnVoice, .ref MnOn, .ref Mloud, .ref McliffAt, .ref MsnowTold, .ref MmanAt, .ref Mvoice, .ref Mon, .ref MnYes, .ref Myes, .int (nI InWords), .int (nI InCliffs), .int (nI InMen), .int (nI InStates), .int (nI InOns), .int InWind, .int InDraw, .int (nI Iwords), .int (nI Icliffs), .int (nI Imen), .int (nI Istates), .int Ions, .int IwindTold, .int InHasWind, .int InHasDraw, .ref Mnow, .ref Mcry, .ref Msnow, .ref Mecho, .int (nI IcryMany), .int IcallPlace, .int IcallVoice, .int Iwind, .int Ichance, .int (nI IechoMany), .ref Mwere, .int (nI Iacts), .int (nI Iundone), .ref Mlies, .int (nI Ilain), .ref Mspots, .ref Msteps, .ref MfromState, .ref MbyWord, .ref Mqueue, .ref MsoundCliff, .ref MsoundLong, .ref MsoundCame, .ref MsoundTold, .ref MsoundUntold, .int (nI Isounds), .int Itime, .ref Mstands, .int IstandMany, .ref Mtally, .ref MhasBox, .ref Mboxes], wI (cy 1) MnStep 960 (g_4), wI (cy 1) MnArg 960 (g_8), wI (cy 1) MnMany 3 (GnMany)] hP9 hD9 hS9 (fun hP hD hS => ?_)
  clear hP9 hD9 hS9
  refine lv_aload_n hx hb dX12_add_48 rfl (lv_at hl 0 rfl) ?_
  refine va_get (D := D) (ci := 12) (v := .ref MnMany) (C := RX12) (T := TX12) (N := 89) hx hb hg i_X12 hown hK hP 0 rfl rfl 13 (by decide) (hg _ m_1426) (fun _ h9 => h9) rfl dX12_add_49 ?_
  refine lv_aload_n hx hb dX12_add_52 rfl (lv_at hl 0 rfl) ?_
  refine va_get (D := D) (ci := 12) (v := .int (nI Iform)) (C := RX12) (T := TX12) (N := 89) hx hb hg i_X12 hown hK hP 0 rfl rfl 21 (by decide) (hg _ m_1434) (fun _ h9 => h9) rfl dX12_add_53 ?_
  refine lv_dup2_11 hx hb dX12_add_56 rfl rfl ?_
  refine va_iald hx hb hK hP 3 1 rfl rfl (vp_in_nI (by omega) (by decide)) dX12_add_57 ?_
  refine lv_topi (fun x_9 ex_9 => ?_)
  obtain rfl : x_9 = nI (mm Iform) := allR_at gall gfo ex_9
  refine lv_iconst (v := 1) hx hb dX12_add_58 (by decide) ?_
  refine lv_iadd hx hb dX12_add_59 ?_
  refine lv_topi (fun y_10 hy_10 => ?_)
  obtain rfl : y_10 = nI ((mm Iform) + 1) := hy_10.trans (nI_add ((mm Iform)) 1)
  refine va_iast hx hb hK hP hD hS 3 1 rfl rfl (vp_in_nI (by omega) (by decide)) dX12_add_60 (fun H locs hP9 hD9 hS9 => ?_)
  clear hP hD hS
  obtain ⟨g_11, eg_11⟩ : ∃ y, upd GnMany (nI Iform : Int32).toNatClampNeg (nI ((mm Iform) + 1)) = y := ⟨_, rfl⟩
  rw [eg_11] at hP9 hD9
  refine reW [wO m0 12 [.ref Mtape, .int (nI Itaped), .int (nI Ifault), .int IfaultPlace, .int (nI Iat), .int (nI Isize), .int Isort, .int Iplace, .int Inumber, .long Iword, .ref MnName, .ref MnStep, .ref MnArg, .ref MnMany, .ref Mstep, .ref Marg, .ref Mmany, .ref Mopen, .ref Mvalues, .ref MnHasForm, .ref MhasForm, .int (nI Iform), .int (nI Iopens), .int (nI InUnits), .int Iunits, .int (nI IownUnits), .int (nI Ideep), .ref Masks, .ref MnLoud, .ref MnCliffAt, .ref MnSnow, .ref MnManAt, .ref MnVoice, .ref MnOn, .ref Mloud, .ref McliffAt, .ref MsnowTold, .ref MmanAt, .ref Mvoice, .ref Mon, .ref MnYes, .ref Myes, .int (nI InWords), .int (nI InCliffs), .int (nI InMen), .int (nI InStates), .int (nI InOns), .int InWind, .int InDraw, .int (nI Iwords), .int (nI Icliffs), .int (nI Imen), .int (nI Istates), .int Ions, .int IwindTold, .int InHasWind, .int InHasDraw, .ref Mnow, .ref Mcry, .ref Msnow, .ref Mecho, .int (nI IcryMany), .int IcallPlace, .int IcallVoice, .int Iwind, .int Ichance, .int (nI IechoMany), .ref Mwere, .int (nI Iacts), .int (nI Iundone), .ref Mlies, .int (nI Ilain), .ref Mspots, .ref Msteps, .ref MfromState, .ref MbyWord, .ref Mqueue, .ref MsoundCliff, .ref MsoundLong, .ref MsoundCame, .ref MsoundTold, .ref MsoundUntold, .int (nI Isounds), .int Itime, .ref Mstands, .int IstandMany, .ref Mtally, .ref MhasBox, .ref Mboxes], wI (cy 1) MnStep 960 (g_4), wI (cy 1) MnArg 960 (g_8), wI (cy 1) MnMany 3 (g_11)] hP9 hD9 hS9 (fun hP hD hS => ?_)
  clear hP9 hD9 hS9
  obtain ⟨mm9, HH9, hall9, hmm9, hHH9⟩ := allR_add (sx := 0) (v := va) (hn := HH Iform (mm Iform) + 1) gall gfo hml9 hco (Or.inl ⟨rfl, rfl⟩)
  rw [eg_4, eg_8, eg_11] at hall9
  exact x_vret hQ hx hb hr hlocks hK hP hD hS dX12_add_61 (g_4, g_8, g_11, mm9, HH9) (⟨(show allR g_4 g_8 g_11 mm9 HH9 from hall9), (show mm9 Iform = mm Iform + 1 from hmm9), (show HH9 Iform (mm9 Iform) = HH Iform (mm Iform) + 1 from hHH9)⟩) [0, 1, 2, 3] (by decide +kernel) rfl (Nat.le_of_ble_eq_true rfl) (Nat.le_of_ble_eq_true rfl)
set_option maxHeartbeats 1000000 in
set_option maxRecDepth 100000 in
theorem r_add1 (l : Launch) (D : va_G) (cy : Nat → ClassId) (m0 : Nat) (Mtape : Nat) (MnName : Nat) (MnStep : Nat) (MnArg : Nat) (MnMany : Nat) (Mstep : Nat) (Marg : Nat) (Mmany : Nat) (Mopen : Nat) (Mvalues : Nat) (MnHasForm : Nat) (MhasForm : Nat) (Masks : Nat) (MnLoud : Nat) (MnCliffAt : Nat) (MnSnow : Nat) (MnManAt : Nat) (MnVoice : Nat) (MnOn : Nat) (Mloud : Nat) (McliffAt : Nat) (MsnowTold : Nat) (MmanAt : Nat) (Mvoice : Nat) (Mon : Nat) (MnYes : Nat) (Myes : Nat) (Mnow : Nat) (Mcry : Nat) (Msnow : Nat) (Mecho : Nat) (Mwere : Nat) (Mlies : Nat) (Mspots : Nat) (Msteps : Nat) (MfromState : Nat) (MbyWord : Nat) (Mqueue : Nat) (MsoundCliff : Nat) (MsoundLong : Nat) (MsoundCame : Nat) (MsoundTold : Nat) (MsoundUntold : Nat) (Mstands : Nat) (Mtally : Nat) (MhasBox : Nat) (Mboxes : Nat) (Itaped : Nat) (Ifault : Nat) (IfaultPlace : Int32) (Iat : Nat) (Isize : Nat) (Isort : Int32) (Iplace : Int32) (Inumber : Int32) (Iword : Int64) (GnStep : Nat → Int32) (GnArg : Nat → Int32) (GnMany : Nat → Int32) (Iform : Nat) (Iopens : Nat) (InUnits : Nat) (Iunits : Int32) (IownUnits : Nat) (Ideep : Nat) (InWords : Nat) (InCliffs : Nat) (InMen : Nat) (InStates : Nat) (InOns : Nat) (InWind : Int32) (InDraw : Int32) (Iwords : Nat) (Icliffs : Nat) (Imen : Nat) (Istates : Nat) (Ions : Int32) (IwindTold : Int32) (InHasWind : Int32) (InHasDraw : Int32) (IcryMany : Nat) (IcallPlace : Int32) (IcallVoice : Int32) (Iwind : Int32) (Ichance : Int32) (IechoMany : Nat) (Iacts : Nat) (Iundone : Nat) (Ilain : Nat) (Isounds : Nat) (Itime : Int32) (IstandMany : Int32) (mm : Nat → Nat) (HH : Nat → Nat → Nat) (va : Int32) (gtp : Itaped ≤ 1600) (gat : Iat ≤ Isize) (gsz : Isize ≤ 1600) (gfl : Ifault ≤ 5) (gfo : Iform ≤ 2) (gnw : InWords ≤ 8) (gnc : InCliffs ≤ 4) (gnm : InMen ≤ 4) (gns : InStates ≤ 6) (gw : Iwords ≤ 8) (gc9 : Icliffs ≤ 4) (gm : Imen ≤ 4) (gs : Istates ≤ 6) (gcm : IcryMany ≤ 10) (gem : IechoMany ≤ 20) (gau : Iacts + Iundone ≤ 40) (gla : Ilain ≤ 20) (gso : Isounds ≤ 30) (gop : Iopens ≤ 40) (gde : Ideep ≤ 8) (gou : IownUnits ≤ 31) (gnu : InUnits ≤ 61) (gno : InOns ≤ 30) (gall : allR GnStep GnArg GnMany mm HH) (hml9 : mm Iform < 310) (hco : HH Iform (mm Iform) ≤ 60) (hva : ∃ j9 : Nat, j9 ≤ 6 ∧ va = nI j9) : XMv l D (tyL cy) E0 yX12_add cX12_add 3 none (rmk 0 0 0) [.ref m0, .int 1, .int va] [wO m0 12 [.ref Mtape, .int (nI Itaped), .int (nI Ifault), .int IfaultPlace, .int (nI Iat), .int (nI Isize), .int Isort, .int Iplace, .int Inumber, .long Iword, .ref MnName, .ref MnStep, .ref MnArg, .ref MnMany, .ref Mstep, .ref Marg, .ref Mmany, .ref Mopen, .ref Mvalues, .ref MnHasForm, .ref MhasForm, .int (nI Iform), .int (nI Iopens), .int (nI InUnits), .int Iunits, .int (nI IownUnits), .int (nI Ideep), .ref Masks, .ref MnLoud, .ref MnCliffAt, .ref MnSnow, .ref MnManAt, .ref MnVoice, .ref MnOn, .ref Mloud, .ref McliffAt, .ref MsnowTold, .ref MmanAt, .ref Mvoice, .ref Mon, .ref MnYes, .ref Myes, .int (nI InWords), .int (nI InCliffs), .int (nI InMen), .int (nI InStates), .int (nI InOns), .int InWind, .int InDraw, .int (nI Iwords), .int (nI Icliffs), .int (nI Imen), .int (nI Istates), .int Ions, .int IwindTold, .int InHasWind, .int InHasDraw, .ref Mnow, .ref Mcry, .ref Msnow, .ref Mecho, .int (nI IcryMany), .int IcallPlace, .int IcallVoice, .int Iwind, .int Ichance, .int (nI IechoMany), .ref Mwere, .int (nI Iacts), .int (nI Iundone), .ref Mlies, .int (nI Ilain), .ref Mspots, .ref Msteps, .ref MfromState, .ref MbyWord, .ref Mqueue, .ref MsoundCliff, .ref MsoundLong, .ref MsoundCame, .ref MsoundTold, .ref MsoundUntold, .int (nI Isounds), .int Itime, .ref Mstands, .int IstandMany, .ref Mtally, .ref MhasBox, .ref Mboxes], wI (cy 1) MnStep 960 (GnStep), wI (cy 1) MnArg 960 (GnArg), wI (cy 1) MnMany 3 (GnMany)] (fun (u : (Nat → Int32) × (Nat → Int32) × (Nat → Int32) × (Nat → Nat) × (Nat → Nat → Nat)) => (allR u.1 u.2.1 u.2.2.1 u.2.2.2.1 u.2.2.2.2) ∧ (u.2.2.2.1 Iform = mm Iform + 1) ∧ (u.2.2.2.2 Iform (u.2.2.2.1 Iform) = HH Iform (mm Iform) + 1)) (fun (u : (Nat → Int32) × (Nat → Int32) × (Nat → Int32) × (Nat → Nat) × (Nat → Nat → Nat)) => [wO m0 12 [.ref Mtape, .int (nI Itaped), .int (nI Ifault), .int IfaultPlace, .int (nI Iat), .int (nI Isize), .int Isort, .int Iplace, .int Inumber, .long Iword, .ref MnName, .ref MnStep, .ref MnArg, .ref MnMany, .ref Mstep, .ref Marg, .ref Mmany, .ref Mopen, .ref Mvalues, .ref MnHasForm, .ref MhasForm, .int (nI Iform), .int (nI Iopens), .int (nI InUnits), .int Iunits, .int (nI IownUnits), .int (nI Ideep), .ref Masks, .ref MnLoud, .ref MnCliffAt, .ref MnSnow, .ref MnManAt, .ref MnVoice, .ref MnOn, .ref Mloud, .ref McliffAt, .ref MsnowTold, .ref MmanAt, .ref Mvoice, .ref Mon, .ref MnYes, .ref Myes, .int (nI InWords), .int (nI InCliffs), .int (nI InMen), .int (nI InStates), .int (nI InOns), .int InWind, .int InDraw, .int (nI Iwords), .int (nI Icliffs), .int (nI Imen), .int (nI Istates), .int Ions, .int IwindTold, .int InHasWind, .int InHasDraw, .ref Mnow, .ref Mcry, .ref Msnow, .ref Mecho, .int (nI IcryMany), .int IcallPlace, .int IcallVoice, .int Iwind, .int Ichance, .int (nI IechoMany), .ref Mwere, .int (nI Iacts), .int (nI Iundone), .ref Mlies, .int (nI Ilain), .ref Mspots, .ref Msteps, .ref MfromState, .ref MbyWord, .ref Mqueue, .ref MsoundCliff, .ref MsoundLong, .ref MsoundCame, .ref MsoundTold, .ref MsoundUntold, .int (nI Isounds), .int Itime, .ref Mstands, .int IstandMany, .ref Mtally, .ref MhasBox, .ref Mboxes], wI (cy 1) MnStep 960 (u.1), wI (cy 1) MnArg 960 (u.2.1), wI (cy 1) MnMany 3 (u.2.2.1)]) := by
  refine XMv.start (by decide) (Nat.le_of_ble_eq_true rfl) ?_
  intro p e s m below meth c args A ls Q hat hQ
  obtain ⟨hx, hb, hr, hml, hown, hg, hlocks, hin, hK, hA, hP, hD, hS, hE, hl⟩ := hat
  have hown : s.vm.findClass RX12 = some m.cls := hown
  have hl : lv_has ls 3 [(0, .ref m0), (1, .int 1), (2, .int va)] := hl
  refine lv_aload_n hx hb dX12_add_0 rfl (lv_at hl 0 rfl) ?_
  refine va_get (D := D) (ci := 12) (v := .ref MnStep) (C := RX12) (T := TX12) (N := 89) hx hb hg i_X12 hown hK hP 0 rfl rfl 11 (by decide) (hg _ m_1424) (fun _ h9 => h9) rfl dX12_add_1 ?_
  refine lv_sipush (v := 320) hx hb dX12_add_4 (by decide) ?_
  refine lv_aload_n hx hb dX12_add_7 rfl (lv_at hl 0 rfl) ?_
  refine va_get (D := D) (ci := 12) (v := .int (nI Iform)) (C := RX12) (T := TX12) (N := 89) hx hb hg i_X12 hown hK hP 0 rfl rfl 21 (by decide) (hg _ m_1434) (fun _ h9 => h9) rfl dX12_add_8 ?_
  refine lv_imul hx hb dX12_add_11 ?_
  refine lv_topi (fun y_1 hy_1 => ?_)
  obtain rfl : y_1 = nI (320 * Iform) := hy_1.trans (pk_mul 320 Iform)
  refine lv_aload_n hx hb dX12_add_12 rfl (lv_at hl 0 rfl) ?_
  refine va_get (D := D) (ci := 12) (v := .ref MnMany) (C := RX12) (T := TX12) (N := 89) hx hb hg i_X12 hown hK hP 0 rfl rfl 13 (by decide) (hg _ m_1426) (fun _ h9 => h9) rfl dX12_add_13 ?_
  refine lv_aload_n hx hb dX12_add_16 rfl (lv_at hl 0 rfl) ?_
  refine va_get (D := D) (ci := 12) (v := .int (nI Iform)) (C := RX12) (T := TX12) (N := 89) hx hb hg i_X12 hown hK hP 0 rfl rfl 21 (by decide) (hg _ m_1434) (fun _ h9 => h9) rfl dX12_add_17 ?_
  refine va_iald hx hb hK hP 3 1 rfl rfl (vp_in_nI (by omega) (by decide)) dX12_add_20 ?_
  refine lv_topi (fun x_2 ex_2 => ?_)
  obtain rfl : x_2 = nI (mm Iform) := allR_at gall gfo ex_2
  refine lv_iadd hx hb dX12_add_21 ?_
  refine lv_topi (fun y_3 hy_3 => ?_)
  obtain rfl : y_3 = nI ((320 * Iform) + (mm Iform)) := hy_3.trans (nI_add ((320 * Iform)) ((mm Iform)))
  refine lv_iload_n hx hb dX12_add_22 rfl (lv_at hl 1 rfl) ?_
  refine va_iast hx hb hK hP hD hS 1 1 rfl rfl (vp_in_nI (by omega) (by decide)) dX12_add_23 (fun H locs hP9 hD9 hS9 => ?_)
  clear hP hD hS
  obtain ⟨g_4, eg_4⟩ : ∃ y, upd GnStep (nI ((320 * Iform) + (mm Iform)) : Int32).toNatClampNeg 1 = y := ⟨_, rfl⟩
  rw [eg_4] at hP9 hD9
  refine reW [wO m0 12 [.ref Mtape, .int (nI Itaped), .int (nI Ifault), .int IfaultPlace, .int (nI Iat), .int (nI Isize), .int Isort, .int Iplace, .int Inumber, .long Iword, .ref MnName, .ref MnStep, .ref MnArg, .ref MnMany, .ref Mstep, .ref Marg, .ref Mmany, .ref Mopen, .ref Mvalues, .ref MnHasForm, .ref MhasForm, .int (nI Iform), .int (nI Iopens), .int (nI InUnits), .int Iunits, .int (nI IownUnits), .int (nI Ideep), .ref Masks, .ref MnLoud, .ref MnCliffAt, .ref MnSnow, .ref MnManAt, .ref MnVoice, .ref MnOn, .ref Mloud, .ref McliffAt, .ref MsnowTold, .ref MmanAt, .ref Mvoice, .ref Mon, .ref MnYes, .ref Myes, .int (nI InWords), .int (nI InCliffs), .int (nI InMen), .int (nI InStates), .int (nI InOns), .int InWind, .int InDraw, .int (nI Iwords), .int (nI Icliffs), .int (nI Imen), .int (nI Istates), .int Ions, .int IwindTold, .int InHasWind, .int InHasDraw, .ref Mnow, .ref Mcry, .ref Msnow, .ref Mecho, .int (nI IcryMany), .int IcallPlace, .int IcallVoice, .int Iwind, .int Ichance, .int (nI IechoMany), .ref Mwere, .int (nI Iacts), .int (nI Iundone), .ref Mlies, .int (nI Ilain), .ref Mspots, .ref Msteps, .ref MfromState, .ref MbyWord, .ref Mqueue, .ref MsoundCliff, .ref MsoundLong, .ref MsoundCame, .ref MsoundTold, .ref MsoundUntold, .int (nI Isounds), .int Itime, .ref Mstands, .int IstandMany, .ref Mtally, .ref MhasBox, .ref Mboxes], wI (cy 1) MnStep 960 (g_4), wI (cy 1) MnArg 960 (GnArg), wI (cy 1) MnMany 3 (GnMany)] hP9 hD9 hS9 (fun hP hD hS => ?_)
  clear hP9 hD9 hS9
  refine lv_aload_n hx hb dX12_add_24 rfl (lv_at hl 0 rfl) ?_
  refine va_get (D := D) (ci := 12) (v := .ref MnArg) (C := RX12) (T := TX12) (N := 89) hx hb hg i_X12 hown hK hP 0 rfl rfl 12 (by decide) (hg _ m_1425) (fun _ h9 => h9) rfl dX12_add_25 ?_
  refine lv_sipush (v := 320) hx hb dX12_add_28 (by decide) ?_
  refine lv_aload_n hx hb dX12_add_31 rfl (lv_at hl 0 rfl) ?_
  refine va_get (D := D) (ci := 12) (v := .int (nI Iform)) (C := RX12) (T := TX12) (N := 89) hx hb hg i_X12 hown hK hP 0 rfl rfl 21 (by decide) (hg _ m_1434) (fun _ h9 => h9) rfl dX12_add_32 ?_
  refine lv_imul hx hb dX12_add_35 ?_
  refine lv_topi (fun y_5 hy_5 => ?_)
  obtain rfl : y_5 = nI (320 * Iform) := hy_5.trans (pk_mul 320 Iform)
  refine lv_aload_n hx hb dX12_add_36 rfl (lv_at hl 0 rfl) ?_
  refine va_get (D := D) (ci := 12) (v := .ref MnMany) (C := RX12) (T := TX12) (N := 89) hx hb hg i_X12 hown hK hP 0 rfl rfl 13 (by decide) (hg _ m_1426) (fun _ h9 => h9) rfl dX12_add_37 ?_
  refine lv_aload_n hx hb dX12_add_40 rfl (lv_at hl 0 rfl) ?_
  refine va_get (D := D) (ci := 12) (v := .int (nI Iform)) (C := RX12) (T := TX12) (N := 89) hx hb hg i_X12 hown hK hP 0 rfl rfl 21 (by decide) (hg _ m_1434) (fun _ h9 => h9) rfl dX12_add_41 ?_
  refine va_iald hx hb hK hP 3 1 rfl rfl (vp_in_nI (by omega) (by decide)) dX12_add_44 ?_
  refine lv_topi (fun x_6 ex_6 => ?_)
  obtain rfl : x_6 = nI (mm Iform) := allR_at gall gfo ex_6
  refine lv_iadd hx hb dX12_add_45 ?_
  refine lv_topi (fun y_7 hy_7 => ?_)
  obtain rfl : y_7 = nI ((320 * Iform) + (mm Iform)) := hy_7.trans (nI_add ((320 * Iform)) ((mm Iform)))
  refine lv_iload_n hx hb dX12_add_46 rfl (lv_at hl 2 rfl) ?_
  refine va_iast hx hb hK hP hD hS 2 1 rfl rfl (vp_in_nI (by omega) (by decide)) dX12_add_47 (fun H locs hP9 hD9 hS9 => ?_)
  clear hP hD hS
  obtain ⟨g_8, eg_8⟩ : ∃ y, upd GnArg (nI ((320 * Iform) + (mm Iform)) : Int32).toNatClampNeg va = y := ⟨_, rfl⟩
  rw [eg_8] at hP9 hD9
  refine reW [wO m0 12 [.ref Mtape, .int (nI Itaped), .int (nI Ifault), .int IfaultPlace, .int (nI Iat), .int (nI Isize), .int Isort, .int Iplace, .int Inumber, .long Iword, .ref MnName, .ref MnStep, .ref MnArg, .ref MnMany, .ref Mstep, .ref Marg, .ref Mmany, .ref Mopen, .ref Mvalues, .ref MnHasForm, .ref MhasForm, .int (nI Iform), .int (nI Iopens), .int (nI InUnits), .int Iunits, .int (nI IownUnits), .int (nI Ideep), .ref Masks, .ref MnLoud, .ref MnCliffAt, .ref MnSnow, .ref MnManAt, .ref MnVoice, .ref MnOn, .ref Mloud, .ref McliffAt, .ref MsnowTold, .ref MmanAt, .ref Mvoice, .ref Mon, .ref MnYes, .ref Myes, .int (nI InWords), .int (nI InCliffs), .int (nI InMen), .int (nI InStates), .int (nI InOns), .int InWind, .int InDraw, .int (nI Iwords), .int (nI Icliffs), .int (nI Imen), .int (nI Istates), .int Ions, .int IwindTold, .int InHasWind, .int InHasDraw, .ref Mnow, .ref Mcry, .ref Msnow, .ref Mecho, .int (nI IcryMany), .int IcallPlace, .int IcallVoice, .int Iwind, .int Ichance, .int (nI IechoMany), .ref Mwere, .int (nI Iacts), .int (nI Iundone), .ref Mlies, .int (nI Ilain), .ref Mspots, .ref Msteps, .ref MfromState, .ref MbyWord, .ref Mqueue, .ref MsoundCliff, .ref MsoundLong, .ref MsoundCame, .ref MsoundTold, .ref MsoundUntold, .int (nI Isounds), .int Itime, .ref Mstands, .int IstandMany, .ref Mtally, .ref MhasBox, .ref Mboxes], wI (cy 1) MnStep 960 (g_4), wI (cy 1) MnArg 960 (g_8), wI (cy 1) MnMany 3 (GnMany)] hP9 hD9 hS9 (fun hP hD hS => ?_)
  clear hP9 hD9 hS9
  refine lv_aload_n hx hb dX12_add_48 rfl (lv_at hl 0 rfl) ?_
  refine va_get (D := D) (ci := 12) (v := .ref MnMany) (C := RX12) (T := TX12) (N := 89) hx hb hg i_X12 hown hK hP 0 rfl rfl 13 (by decide) (hg _ m_1426) (fun _ h9 => h9) rfl dX12_add_49 ?_
  refine lv_aload_n hx hb dX12_add_52 rfl (lv_at hl 0 rfl) ?_
  refine va_get (D := D) (ci := 12) (v := .int (nI Iform)) (C := RX12) (T := TX12) (N := 89) hx hb hg i_X12 hown hK hP 0 rfl rfl 21 (by decide) (hg _ m_1434) (fun _ h9 => h9) rfl dX12_add_53 ?_
  refine lv_dup2_11 hx hb dX12_add_56 rfl rfl ?_
  refine va_iald hx hb hK hP 3 1 rfl rfl (vp_in_nI (by omega) (by decide)) dX12_add_57 ?_
  refine lv_topi (fun x_9 ex_9 => ?_)
  obtain rfl : x_9 = nI (mm Iform) := allR_at gall gfo ex_9
  refine lv_iconst (v := 1) hx hb dX12_add_58 (by decide) ?_
  refine lv_iadd hx hb dX12_add_59 ?_
  refine lv_topi (fun y_10 hy_10 => ?_)
  obtain rfl : y_10 = nI ((mm Iform) + 1) := hy_10.trans (nI_add ((mm Iform)) 1)
  refine va_iast hx hb hK hP hD hS 3 1 rfl rfl (vp_in_nI (by omega) (by decide)) dX12_add_60 (fun H locs hP9 hD9 hS9 => ?_)
  clear hP hD hS
  obtain ⟨g_11, eg_11⟩ : ∃ y, upd GnMany (nI Iform : Int32).toNatClampNeg (nI ((mm Iform) + 1)) = y := ⟨_, rfl⟩
  rw [eg_11] at hP9 hD9
  refine reW [wO m0 12 [.ref Mtape, .int (nI Itaped), .int (nI Ifault), .int IfaultPlace, .int (nI Iat), .int (nI Isize), .int Isort, .int Iplace, .int Inumber, .long Iword, .ref MnName, .ref MnStep, .ref MnArg, .ref MnMany, .ref Mstep, .ref Marg, .ref Mmany, .ref Mopen, .ref Mvalues, .ref MnHasForm, .ref MhasForm, .int (nI Iform), .int (nI Iopens), .int (nI InUnits), .int Iunits, .int (nI IownUnits), .int (nI Ideep), .ref Masks, .ref MnLoud, .ref MnCliffAt, .ref MnSnow, .ref MnManAt, .ref MnVoice, .ref MnOn, .ref Mloud, .ref McliffAt, .ref MsnowTold, .ref MmanAt, .ref Mvoice, .ref Mon, .ref MnYes, .ref Myes, .int (nI InWords), .int (nI InCliffs), .int (nI InMen), .int (nI InStates), .int (nI InOns), .int InWind, .int InDraw, .int (nI Iwords), .int (nI Icliffs), .int (nI Imen), .int (nI Istates), .int Ions, .int IwindTold, .int InHasWind, .int InHasDraw, .ref Mnow, .ref Mcry, .ref Msnow, .ref Mecho, .int (nI IcryMany), .int IcallPlace, .int IcallVoice, .int Iwind, .int Ichance, .int (nI IechoMany), .ref Mwere, .int (nI Iacts), .int (nI Iundone), .ref Mlies, .int (nI Ilain), .ref Mspots, .ref Msteps, .ref MfromState, .ref MbyWord, .ref Mqueue, .ref MsoundCliff, .ref MsoundLong, .ref MsoundCame, .ref MsoundTold, .ref MsoundUntold, .int (nI Isounds), .int Itime, .ref Mstands, .int IstandMany, .ref Mtally, .ref MhasBox, .ref Mboxes], wI (cy 1) MnStep 960 (g_4), wI (cy 1) MnArg 960 (g_8), wI (cy 1) MnMany 3 (g_11)] hP9 hD9 hS9 (fun hP hD hS => ?_)
  clear hP9 hD9 hS9
  obtain ⟨mm9, HH9, hall9, hmm9, hHH9⟩ := allR_add (sx := 1) (v := va) (hn := HH Iform (mm Iform) + 1) gall gfo hml9 hco (Or.inr (Or.inl ⟨rfl, rfl, hva⟩))
  rw [eg_4, eg_8, eg_11] at hall9
  exact x_vret hQ hx hb hr hlocks hK hP hD hS dX12_add_61 (g_4, g_8, g_11, mm9, HH9) (⟨(show allR g_4 g_8 g_11 mm9 HH9 from hall9), (show mm9 Iform = mm Iform + 1 from hmm9), (show HH9 Iform (mm9 Iform) = HH Iform (mm Iform) + 1 from hHH9)⟩) [0, 1, 2, 3] (by decide +kernel) rfl (Nat.le_of_ble_eq_true rfl) (Nat.le_of_ble_eq_true rfl)
set_option maxHeartbeats 1000000 in
set_option maxRecDepth 100000 in
theorem r_add2 (l : Launch) (D : va_G) (cy : Nat → ClassId) (m0 : Nat) (Mtape : Nat) (MnName : Nat) (MnStep : Nat) (MnArg : Nat) (MnMany : Nat) (Mstep : Nat) (Marg : Nat) (Mmany : Nat) (Mopen : Nat) (Mvalues : Nat) (MnHasForm : Nat) (MhasForm : Nat) (Masks : Nat) (MnLoud : Nat) (MnCliffAt : Nat) (MnSnow : Nat) (MnManAt : Nat) (MnVoice : Nat) (MnOn : Nat) (Mloud : Nat) (McliffAt : Nat) (MsnowTold : Nat) (MmanAt : Nat) (Mvoice : Nat) (Mon : Nat) (MnYes : Nat) (Myes : Nat) (Mnow : Nat) (Mcry : Nat) (Msnow : Nat) (Mecho : Nat) (Mwere : Nat) (Mlies : Nat) (Mspots : Nat) (Msteps : Nat) (MfromState : Nat) (MbyWord : Nat) (Mqueue : Nat) (MsoundCliff : Nat) (MsoundLong : Nat) (MsoundCame : Nat) (MsoundTold : Nat) (MsoundUntold : Nat) (Mstands : Nat) (Mtally : Nat) (MhasBox : Nat) (Mboxes : Nat) (Itaped : Nat) (Ifault : Nat) (IfaultPlace : Int32) (Iat : Nat) (Isize : Nat) (Isort : Int32) (Iplace : Int32) (Inumber : Int32) (Iword : Int64) (GnStep : Nat → Int32) (GnArg : Nat → Int32) (GnMany : Nat → Int32) (Iform : Nat) (Iopens : Nat) (InUnits : Nat) (Iunits : Int32) (IownUnits : Nat) (Ideep : Nat) (InWords : Nat) (InCliffs : Nat) (InMen : Nat) (InStates : Nat) (InOns : Nat) (InWind : Int32) (InDraw : Int32) (Iwords : Nat) (Icliffs : Nat) (Imen : Nat) (Istates : Nat) (Ions : Int32) (IwindTold : Int32) (InHasWind : Int32) (InHasDraw : Int32) (IcryMany : Nat) (IcallPlace : Int32) (IcallVoice : Int32) (Iwind : Int32) (Ichance : Int32) (IechoMany : Nat) (Iacts : Nat) (Iundone : Nat) (Ilain : Nat) (Isounds : Nat) (Itime : Int32) (IstandMany : Int32) (mm : Nat → Nat) (HH : Nat → Nat → Nat) (va : Int32) (gtp : Itaped ≤ 1600) (gat : Iat ≤ Isize) (gsz : Isize ≤ 1600) (gfl : Ifault ≤ 5) (gfo : Iform ≤ 2) (gnw : InWords ≤ 8) (gnc : InCliffs ≤ 4) (gnm : InMen ≤ 4) (gns : InStates ≤ 6) (gw : Iwords ≤ 8) (gc9 : Icliffs ≤ 4) (gm : Imen ≤ 4) (gs : Istates ≤ 6) (gcm : IcryMany ≤ 10) (gem : IechoMany ≤ 20) (gau : Iacts + Iundone ≤ 40) (gla : Ilain ≤ 20) (gso : Isounds ≤ 30) (gop : Iopens ≤ 40) (gde : Ideep ≤ 8) (gou : IownUnits ≤ 31) (gnu : InUnits ≤ 61) (gno : InOns ≤ 30) (gall : allR GnStep GnArg GnMany mm HH) (hml9 : mm Iform < 310) (hco : 1 ≤ HH Iform (mm Iform) ∧ HH Iform (mm Iform) ≤ 60) : XMv l D (tyL cy) E0 yX12_add cX12_add 3 none (rmk 0 0 0) [.ref m0, .int 2, .int va] [wO m0 12 [.ref Mtape, .int (nI Itaped), .int (nI Ifault), .int IfaultPlace, .int (nI Iat), .int (nI Isize), .int Isort, .int Iplace, .int Inumber, .long Iword, .ref MnName, .ref MnStep, .ref MnArg, .ref MnMany, .ref Mstep, .ref Marg, .ref Mmany, .ref Mopen, .ref Mvalues, .ref MnHasForm, .ref MhasForm, .int (nI Iform), .int (nI Iopens), .int (nI InUnits), .int Iunits, .int (nI IownUnits), .int (nI Ideep), .ref Masks, .ref MnLoud, .ref MnCliffAt, .ref MnSnow, .ref MnManAt, .ref MnVoice, .ref MnOn, .ref Mloud, .ref McliffAt, .ref MsnowTold, .ref MmanAt, .ref Mvoice, .ref Mon, .ref MnYes, .ref Myes, .int (nI InWords), .int (nI InCliffs), .int (nI InMen), .int (nI InStates), .int (nI InOns), .int InWind, .int InDraw, .int (nI Iwords), .int (nI Icliffs), .int (nI Imen), .int (nI Istates), .int Ions, .int IwindTold, .int InHasWind, .int InHasDraw, .ref Mnow, .ref Mcry, .ref Msnow, .ref Mecho, .int (nI IcryMany), .int IcallPlace, .int IcallVoice, .int Iwind, .int Ichance, .int (nI IechoMany), .ref Mwere, .int (nI Iacts), .int (nI Iundone), .ref Mlies, .int (nI Ilain), .ref Mspots, .ref Msteps, .ref MfromState, .ref MbyWord, .ref Mqueue, .ref MsoundCliff, .ref MsoundLong, .ref MsoundCame, .ref MsoundTold, .ref MsoundUntold, .int (nI Isounds), .int Itime, .ref Mstands, .int IstandMany, .ref Mtally, .ref MhasBox, .ref Mboxes], wI (cy 1) MnStep 960 (GnStep), wI (cy 1) MnArg 960 (GnArg), wI (cy 1) MnMany 3 (GnMany)] (fun (u : (Nat → Int32) × (Nat → Int32) × (Nat → Int32) × (Nat → Nat) × (Nat → Nat → Nat)) => (allR u.1 u.2.1 u.2.2.1 u.2.2.2.1 u.2.2.2.2) ∧ (u.2.2.2.1 Iform = mm Iform + 1) ∧ (u.2.2.2.2 Iform (u.2.2.2.1 Iform) = HH Iform (mm Iform))) (fun (u : (Nat → Int32) × (Nat → Int32) × (Nat → Int32) × (Nat → Nat) × (Nat → Nat → Nat)) => [wO m0 12 [.ref Mtape, .int (nI Itaped), .int (nI Ifault), .int IfaultPlace, .int (nI Iat), .int (nI Isize), .int Isort, .int Iplace, .int Inumber, .long Iword, .ref MnName, .ref MnStep, .ref MnArg, .ref MnMany, .ref Mstep, .ref Marg, .ref Mmany, .ref Mopen, .ref Mvalues, .ref MnHasForm, .ref MhasForm, .int (nI Iform), .int (nI Iopens), .int (nI InUnits), .int Iunits, .int (nI IownUnits), .int (nI Ideep), .ref Masks, .ref MnLoud, .ref MnCliffAt, .ref MnSnow, .ref MnManAt, .ref MnVoice, .ref MnOn, .ref Mloud, .ref McliffAt, .ref MsnowTold, .ref MmanAt, .ref Mvoice, .ref Mon, .ref MnYes, .ref Myes, .int (nI InWords), .int (nI InCliffs), .int (nI InMen), .int (nI InStates), .int (nI InOns), .int InWind, .int InDraw, .int (nI Iwords), .int (nI Icliffs), .int (nI Imen), .int (nI Istates), .int Ions, .int IwindTold, .int InHasWind, .int InHasDraw, .ref Mnow, .ref Mcry, .ref Msnow, .ref Mecho, .int (nI IcryMany), .int IcallPlace, .int IcallVoice, .int Iwind, .int Ichance, .int (nI IechoMany), .ref Mwere, .int (nI Iacts), .int (nI Iundone), .ref Mlies, .int (nI Ilain), .ref Mspots, .ref Msteps, .ref MfromState, .ref MbyWord, .ref Mqueue, .ref MsoundCliff, .ref MsoundLong, .ref MsoundCame, .ref MsoundTold, .ref MsoundUntold, .int (nI Isounds), .int Itime, .ref Mstands, .int IstandMany, .ref Mtally, .ref MhasBox, .ref Mboxes], wI (cy 1) MnStep 960 (u.1), wI (cy 1) MnArg 960 (u.2.1), wI (cy 1) MnMany 3 (u.2.2.1)]) := by
  refine XMv.start (by decide) (Nat.le_of_ble_eq_true rfl) ?_
  intro p e s m below meth c args A ls Q hat hQ
  obtain ⟨hx, hb, hr, hml, hown, hg, hlocks, hin, hK, hA, hP, hD, hS, hE, hl⟩ := hat
  have hown : s.vm.findClass RX12 = some m.cls := hown
  have hl : lv_has ls 3 [(0, .ref m0), (1, .int 2), (2, .int va)] := hl
  refine lv_aload_n hx hb dX12_add_0 rfl (lv_at hl 0 rfl) ?_
  refine va_get (D := D) (ci := 12) (v := .ref MnStep) (C := RX12) (T := TX12) (N := 89) hx hb hg i_X12 hown hK hP 0 rfl rfl 11 (by decide) (hg _ m_1424) (fun _ h9 => h9) rfl dX12_add_1 ?_
  refine lv_sipush (v := 320) hx hb dX12_add_4 (by decide) ?_
  refine lv_aload_n hx hb dX12_add_7 rfl (lv_at hl 0 rfl) ?_
  refine va_get (D := D) (ci := 12) (v := .int (nI Iform)) (C := RX12) (T := TX12) (N := 89) hx hb hg i_X12 hown hK hP 0 rfl rfl 21 (by decide) (hg _ m_1434) (fun _ h9 => h9) rfl dX12_add_8 ?_
  refine lv_imul hx hb dX12_add_11 ?_
  refine lv_topi (fun y_1 hy_1 => ?_)
  obtain rfl : y_1 = nI (320 * Iform) := hy_1.trans (pk_mul 320 Iform)
  refine lv_aload_n hx hb dX12_add_12 rfl (lv_at hl 0 rfl) ?_
  refine va_get (D := D) (ci := 12) (v := .ref MnMany) (C := RX12) (T := TX12) (N := 89) hx hb hg i_X12 hown hK hP 0 rfl rfl 13 (by decide) (hg _ m_1426) (fun _ h9 => h9) rfl dX12_add_13 ?_
  refine lv_aload_n hx hb dX12_add_16 rfl (lv_at hl 0 rfl) ?_
  refine va_get (D := D) (ci := 12) (v := .int (nI Iform)) (C := RX12) (T := TX12) (N := 89) hx hb hg i_X12 hown hK hP 0 rfl rfl 21 (by decide) (hg _ m_1434) (fun _ h9 => h9) rfl dX12_add_17 ?_
  refine va_iald hx hb hK hP 3 1 rfl rfl (vp_in_nI (by omega) (by decide)) dX12_add_20 ?_
  refine lv_topi (fun x_2 ex_2 => ?_)
  obtain rfl : x_2 = nI (mm Iform) := allR_at gall gfo ex_2
  refine lv_iadd hx hb dX12_add_21 ?_
  refine lv_topi (fun y_3 hy_3 => ?_)
  obtain rfl : y_3 = nI ((320 * Iform) + (mm Iform)) := hy_3.trans (nI_add ((320 * Iform)) ((mm Iform)))
  refine lv_iload_n hx hb dX12_add_22 rfl (lv_at hl 1 rfl) ?_
  refine va_iast hx hb hK hP hD hS 1 1 rfl rfl (vp_in_nI (by omega) (by decide)) dX12_add_23 (fun H locs hP9 hD9 hS9 => ?_)
  clear hP hD hS
  obtain ⟨g_4, eg_4⟩ : ∃ y, upd GnStep (nI ((320 * Iform) + (mm Iform)) : Int32).toNatClampNeg 2 = y := ⟨_, rfl⟩
  rw [eg_4] at hP9 hD9
  refine reW [wO m0 12 [.ref Mtape, .int (nI Itaped), .int (nI Ifault), .int IfaultPlace, .int (nI Iat), .int (nI Isize), .int Isort, .int Iplace, .int Inumber, .long Iword, .ref MnName, .ref MnStep, .ref MnArg, .ref MnMany, .ref Mstep, .ref Marg, .ref Mmany, .ref Mopen, .ref Mvalues, .ref MnHasForm, .ref MhasForm, .int (nI Iform), .int (nI Iopens), .int (nI InUnits), .int Iunits, .int (nI IownUnits), .int (nI Ideep), .ref Masks, .ref MnLoud, .ref MnCliffAt, .ref MnSnow, .ref MnManAt, .ref MnVoice, .ref MnOn, .ref Mloud, .ref McliffAt, .ref MsnowTold, .ref MmanAt, .ref Mvoice, .ref Mon, .ref MnYes, .ref Myes, .int (nI InWords), .int (nI InCliffs), .int (nI InMen), .int (nI InStates), .int (nI InOns), .int InWind, .int InDraw, .int (nI Iwords), .int (nI Icliffs), .int (nI Imen), .int (nI Istates), .int Ions, .int IwindTold, .int InHasWind, .int InHasDraw, .ref Mnow, .ref Mcry, .ref Msnow, .ref Mecho, .int (nI IcryMany), .int IcallPlace, .int IcallVoice, .int Iwind, .int Ichance, .int (nI IechoMany), .ref Mwere, .int (nI Iacts), .int (nI Iundone), .ref Mlies, .int (nI Ilain), .ref Mspots, .ref Msteps, .ref MfromState, .ref MbyWord, .ref Mqueue, .ref MsoundCliff, .ref MsoundLong, .ref MsoundCame, .ref MsoundTold, .ref MsoundUntold, .int (nI Isounds), .int Itime, .ref Mstands, .int IstandMany, .ref Mtally, .ref MhasBox, .ref Mboxes], wI (cy 1) MnStep 960 (g_4), wI (cy 1) MnArg 960 (GnArg), wI (cy 1) MnMany 3 (GnMany)] hP9 hD9 hS9 (fun hP hD hS => ?_)
  clear hP9 hD9 hS9
  refine lv_aload_n hx hb dX12_add_24 rfl (lv_at hl 0 rfl) ?_
  refine va_get (D := D) (ci := 12) (v := .ref MnArg) (C := RX12) (T := TX12) (N := 89) hx hb hg i_X12 hown hK hP 0 rfl rfl 12 (by decide) (hg _ m_1425) (fun _ h9 => h9) rfl dX12_add_25 ?_
  refine lv_sipush (v := 320) hx hb dX12_add_28 (by decide) ?_
  refine lv_aload_n hx hb dX12_add_31 rfl (lv_at hl 0 rfl) ?_
  refine va_get (D := D) (ci := 12) (v := .int (nI Iform)) (C := RX12) (T := TX12) (N := 89) hx hb hg i_X12 hown hK hP 0 rfl rfl 21 (by decide) (hg _ m_1434) (fun _ h9 => h9) rfl dX12_add_32 ?_
  refine lv_imul hx hb dX12_add_35 ?_
  refine lv_topi (fun y_5 hy_5 => ?_)
  obtain rfl : y_5 = nI (320 * Iform) := hy_5.trans (pk_mul 320 Iform)
  refine lv_aload_n hx hb dX12_add_36 rfl (lv_at hl 0 rfl) ?_
  refine va_get (D := D) (ci := 12) (v := .ref MnMany) (C := RX12) (T := TX12) (N := 89) hx hb hg i_X12 hown hK hP 0 rfl rfl 13 (by decide) (hg _ m_1426) (fun _ h9 => h9) rfl dX12_add_37 ?_
  refine lv_aload_n hx hb dX12_add_40 rfl (lv_at hl 0 rfl) ?_
  refine va_get (D := D) (ci := 12) (v := .int (nI Iform)) (C := RX12) (T := TX12) (N := 89) hx hb hg i_X12 hown hK hP 0 rfl rfl 21 (by decide) (hg _ m_1434) (fun _ h9 => h9) rfl dX12_add_41 ?_
  refine va_iald hx hb hK hP 3 1 rfl rfl (vp_in_nI (by omega) (by decide)) dX12_add_44 ?_
  refine lv_topi (fun x_6 ex_6 => ?_)
  obtain rfl : x_6 = nI (mm Iform) := allR_at gall gfo ex_6
  refine lv_iadd hx hb dX12_add_45 ?_
  refine lv_topi (fun y_7 hy_7 => ?_)
  obtain rfl : y_7 = nI ((320 * Iform) + (mm Iform)) := hy_7.trans (nI_add ((320 * Iform)) ((mm Iform)))
  refine lv_iload_n hx hb dX12_add_46 rfl (lv_at hl 2 rfl) ?_
  refine va_iast hx hb hK hP hD hS 2 1 rfl rfl (vp_in_nI (by omega) (by decide)) dX12_add_47 (fun H locs hP9 hD9 hS9 => ?_)
  clear hP hD hS
  obtain ⟨g_8, eg_8⟩ : ∃ y, upd GnArg (nI ((320 * Iform) + (mm Iform)) : Int32).toNatClampNeg va = y := ⟨_, rfl⟩
  rw [eg_8] at hP9 hD9
  refine reW [wO m0 12 [.ref Mtape, .int (nI Itaped), .int (nI Ifault), .int IfaultPlace, .int (nI Iat), .int (nI Isize), .int Isort, .int Iplace, .int Inumber, .long Iword, .ref MnName, .ref MnStep, .ref MnArg, .ref MnMany, .ref Mstep, .ref Marg, .ref Mmany, .ref Mopen, .ref Mvalues, .ref MnHasForm, .ref MhasForm, .int (nI Iform), .int (nI Iopens), .int (nI InUnits), .int Iunits, .int (nI IownUnits), .int (nI Ideep), .ref Masks, .ref MnLoud, .ref MnCliffAt, .ref MnSnow, .ref MnManAt, .ref MnVoice, .ref MnOn, .ref Mloud, .ref McliffAt, .ref MsnowTold, .ref MmanAt, .ref Mvoice, .ref Mon, .ref MnYes, .ref Myes, .int (nI InWords), .int (nI InCliffs), .int (nI InMen), .int (nI InStates), .int (nI InOns), .int InWind, .int InDraw, .int (nI Iwords), .int (nI Icliffs), .int (nI Imen), .int (nI Istates), .int Ions, .int IwindTold, .int InHasWind, .int InHasDraw, .ref Mnow, .ref Mcry, .ref Msnow, .ref Mecho, .int (nI IcryMany), .int IcallPlace, .int IcallVoice, .int Iwind, .int Ichance, .int (nI IechoMany), .ref Mwere, .int (nI Iacts), .int (nI Iundone), .ref Mlies, .int (nI Ilain), .ref Mspots, .ref Msteps, .ref MfromState, .ref MbyWord, .ref Mqueue, .ref MsoundCliff, .ref MsoundLong, .ref MsoundCame, .ref MsoundTold, .ref MsoundUntold, .int (nI Isounds), .int Itime, .ref Mstands, .int IstandMany, .ref Mtally, .ref MhasBox, .ref Mboxes], wI (cy 1) MnStep 960 (g_4), wI (cy 1) MnArg 960 (g_8), wI (cy 1) MnMany 3 (GnMany)] hP9 hD9 hS9 (fun hP hD hS => ?_)
  clear hP9 hD9 hS9
  refine lv_aload_n hx hb dX12_add_48 rfl (lv_at hl 0 rfl) ?_
  refine va_get (D := D) (ci := 12) (v := .ref MnMany) (C := RX12) (T := TX12) (N := 89) hx hb hg i_X12 hown hK hP 0 rfl rfl 13 (by decide) (hg _ m_1426) (fun _ h9 => h9) rfl dX12_add_49 ?_
  refine lv_aload_n hx hb dX12_add_52 rfl (lv_at hl 0 rfl) ?_
  refine va_get (D := D) (ci := 12) (v := .int (nI Iform)) (C := RX12) (T := TX12) (N := 89) hx hb hg i_X12 hown hK hP 0 rfl rfl 21 (by decide) (hg _ m_1434) (fun _ h9 => h9) rfl dX12_add_53 ?_
  refine lv_dup2_11 hx hb dX12_add_56 rfl rfl ?_
  refine va_iald hx hb hK hP 3 1 rfl rfl (vp_in_nI (by omega) (by decide)) dX12_add_57 ?_
  refine lv_topi (fun x_9 ex_9 => ?_)
  obtain rfl : x_9 = nI (mm Iform) := allR_at gall gfo ex_9
  refine lv_iconst (v := 1) hx hb dX12_add_58 (by decide) ?_
  refine lv_iadd hx hb dX12_add_59 ?_
  refine lv_topi (fun y_10 hy_10 => ?_)
  obtain rfl : y_10 = nI ((mm Iform) + 1) := hy_10.trans (nI_add ((mm Iform)) 1)
  refine va_iast hx hb hK hP hD hS 3 1 rfl rfl (vp_in_nI (by omega) (by decide)) dX12_add_60 (fun H locs hP9 hD9 hS9 => ?_)
  clear hP hD hS
  obtain ⟨g_11, eg_11⟩ : ∃ y, upd GnMany (nI Iform : Int32).toNatClampNeg (nI ((mm Iform) + 1)) = y := ⟨_, rfl⟩
  rw [eg_11] at hP9 hD9
  refine reW [wO m0 12 [.ref Mtape, .int (nI Itaped), .int (nI Ifault), .int IfaultPlace, .int (nI Iat), .int (nI Isize), .int Isort, .int Iplace, .int Inumber, .long Iword, .ref MnName, .ref MnStep, .ref MnArg, .ref MnMany, .ref Mstep, .ref Marg, .ref Mmany, .ref Mopen, .ref Mvalues, .ref MnHasForm, .ref MhasForm, .int (nI Iform), .int (nI Iopens), .int (nI InUnits), .int Iunits, .int (nI IownUnits), .int (nI Ideep), .ref Masks, .ref MnLoud, .ref MnCliffAt, .ref MnSnow, .ref MnManAt, .ref MnVoice, .ref MnOn, .ref Mloud, .ref McliffAt, .ref MsnowTold, .ref MmanAt, .ref Mvoice, .ref Mon, .ref MnYes, .ref Myes, .int (nI InWords), .int (nI InCliffs), .int (nI InMen), .int (nI InStates), .int (nI InOns), .int InWind, .int InDraw, .int (nI Iwords), .int (nI Icliffs), .int (nI Imen), .int (nI Istates), .int Ions, .int IwindTold, .int InHasWind, .int InHasDraw, .ref Mnow, .ref Mcry, .ref Msnow, .ref Mecho, .int (nI IcryMany), .int IcallPlace, .int IcallVoice, .int Iwind, .int Ichance, .int (nI IechoMany), .ref Mwere, .int (nI Iacts), .int (nI Iundone), .ref Mlies, .int (nI Ilain), .ref Mspots, .ref Msteps, .ref MfromState, .ref MbyWord, .ref Mqueue, .ref MsoundCliff, .ref MsoundLong, .ref MsoundCame, .ref MsoundTold, .ref MsoundUntold, .int (nI Isounds), .int Itime, .ref Mstands, .int IstandMany, .ref Mtally, .ref MhasBox, .ref Mboxes], wI (cy 1) MnStep 960 (g_4), wI (cy 1) MnArg 960 (g_8), wI (cy 1) MnMany 3 (g_11)] hP9 hD9 hS9 (fun hP hD hS => ?_)
  clear hP9 hD9 hS9
  obtain ⟨mm9, HH9, hall9, hmm9, hHH9⟩ := allR_add (sx := 2) (v := va) (hn := HH Iform (mm Iform)) gall gfo hml9 hco.2 (Or.inr (Or.inr (Or.inl ⟨rfl, rfl, hco.1⟩)))
  rw [eg_4, eg_8, eg_11] at hall9
  exact x_vret hQ hx hb hr hlocks hK hP hD hS dX12_add_61 (g_4, g_8, g_11, mm9, HH9) (⟨(show allR g_4 g_8 g_11 mm9 HH9 from hall9), (show mm9 Iform = mm Iform + 1 from hmm9), (show HH9 Iform (mm9 Iform) = HH Iform (mm Iform) from hHH9)⟩) [0, 1, 2, 3] (by decide +kernel) rfl (Nat.le_of_ble_eq_true rfl) (Nat.le_of_ble_eq_true rfl)
set_option maxHeartbeats 1000000 in
set_option maxRecDepth 100000 in
theorem r_add3 (l : Launch) (D : va_G) (cy : Nat → ClassId) (m0 : Nat) (Mtape : Nat) (MnName : Nat) (MnStep : Nat) (MnArg : Nat) (MnMany : Nat) (Mstep : Nat) (Marg : Nat) (Mmany : Nat) (Mopen : Nat) (Mvalues : Nat) (MnHasForm : Nat) (MhasForm : Nat) (Masks : Nat) (MnLoud : Nat) (MnCliffAt : Nat) (MnSnow : Nat) (MnManAt : Nat) (MnVoice : Nat) (MnOn : Nat) (Mloud : Nat) (McliffAt : Nat) (MsnowTold : Nat) (MmanAt : Nat) (Mvoice : Nat) (Mon : Nat) (MnYes : Nat) (Myes : Nat) (Mnow : Nat) (Mcry : Nat) (Msnow : Nat) (Mecho : Nat) (Mwere : Nat) (Mlies : Nat) (Mspots : Nat) (Msteps : Nat) (MfromState : Nat) (MbyWord : Nat) (Mqueue : Nat) (MsoundCliff : Nat) (MsoundLong : Nat) (MsoundCame : Nat) (MsoundTold : Nat) (MsoundUntold : Nat) (Mstands : Nat) (Mtally : Nat) (MhasBox : Nat) (Mboxes : Nat) (Itaped : Nat) (Ifault : Nat) (IfaultPlace : Int32) (Iat : Nat) (Isize : Nat) (Isort : Int32) (Iplace : Int32) (Inumber : Int32) (Iword : Int64) (GnStep : Nat → Int32) (GnArg : Nat → Int32) (GnMany : Nat → Int32) (Iform : Nat) (Iopens : Nat) (InUnits : Nat) (Iunits : Int32) (IownUnits : Nat) (Ideep : Nat) (InWords : Nat) (InCliffs : Nat) (InMen : Nat) (InStates : Nat) (InOns : Nat) (InWind : Int32) (InDraw : Int32) (Iwords : Nat) (Icliffs : Nat) (Imen : Nat) (Istates : Nat) (Ions : Int32) (IwindTold : Int32) (InHasWind : Int32) (InHasDraw : Int32) (IcryMany : Nat) (IcallPlace : Int32) (IcallVoice : Int32) (Iwind : Int32) (Ichance : Int32) (IechoMany : Nat) (Iacts : Nat) (Iundone : Nat) (Ilain : Nat) (Isounds : Nat) (Itime : Int32) (IstandMany : Int32) (mm : Nat → Nat) (HH : Nat → Nat → Nat) (va : Int32) (gtp : Itaped ≤ 1600) (gat : Iat ≤ Isize) (gsz : Isize ≤ 1600) (gfl : Ifault ≤ 5) (gfo : Iform ≤ 2) (gnw : InWords ≤ 8) (gnc : InCliffs ≤ 4) (gnm : InMen ≤ 4) (gns : InStates ≤ 6) (gw : Iwords ≤ 8) (gc9 : Icliffs ≤ 4) (gm : Imen ≤ 4) (gs : Istates ≤ 6) (gcm : IcryMany ≤ 10) (gem : IechoMany ≤ 20) (gau : Iacts + Iundone ≤ 40) (gla : Ilain ≤ 20) (gso : Isounds ≤ 30) (gop : Iopens ≤ 40) (gde : Ideep ≤ 8) (gou : IownUnits ≤ 31) (gnu : InUnits ≤ 61) (gno : InOns ≤ 30) (gall : allR GnStep GnArg GnMany mm HH) (hml9 : mm Iform < 310) (hco : 2 ≤ HH Iform (mm Iform) ∧ HH Iform (mm Iform) ≤ 60) : XMv l D (tyL cy) E0 yX12_add cX12_add 3 none (rmk 0 0 0) [.ref m0, .int 3, .int va] [wO m0 12 [.ref Mtape, .int (nI Itaped), .int (nI Ifault), .int IfaultPlace, .int (nI Iat), .int (nI Isize), .int Isort, .int Iplace, .int Inumber, .long Iword, .ref MnName, .ref MnStep, .ref MnArg, .ref MnMany, .ref Mstep, .ref Marg, .ref Mmany, .ref Mopen, .ref Mvalues, .ref MnHasForm, .ref MhasForm, .int (nI Iform), .int (nI Iopens), .int (nI InUnits), .int Iunits, .int (nI IownUnits), .int (nI Ideep), .ref Masks, .ref MnLoud, .ref MnCliffAt, .ref MnSnow, .ref MnManAt, .ref MnVoice, .ref MnOn, .ref Mloud, .ref McliffAt, .ref MsnowTold, .ref MmanAt, .ref Mvoice, .ref Mon, .ref MnYes, .ref Myes, .int (nI InWords), .int (nI InCliffs), .int (nI InMen), .int (nI InStates), .int (nI InOns), .int InWind, .int InDraw, .int (nI Iwords), .int (nI Icliffs), .int (nI Imen), .int (nI Istates), .int Ions, .int IwindTold, .int InHasWind, .int InHasDraw, .ref Mnow, .ref Mcry, .ref Msnow, .ref Mecho, .int (nI IcryMany), .int IcallPlace, .int IcallVoice, .int Iwind, .int Ichance, .int (nI IechoMany), .ref Mwere, .int (nI Iacts), .int (nI Iundone), .ref Mlies, .int (nI Ilain), .ref Mspots, .ref Msteps, .ref MfromState, .ref MbyWord, .ref Mqueue, .ref MsoundCliff, .ref MsoundLong, .ref MsoundCame, .ref MsoundTold, .ref MsoundUntold, .int (nI Isounds), .int Itime, .ref Mstands, .int IstandMany, .ref Mtally, .ref MhasBox, .ref Mboxes], wI (cy 1) MnStep 960 (GnStep), wI (cy 1) MnArg 960 (GnArg), wI (cy 1) MnMany 3 (GnMany)] (fun (u : (Nat → Int32) × (Nat → Int32) × (Nat → Int32) × (Nat → Nat) × (Nat → Nat → Nat)) => (allR u.1 u.2.1 u.2.2.1 u.2.2.2.1 u.2.2.2.2) ∧ (u.2.2.2.1 Iform = mm Iform + 1) ∧ (u.2.2.2.2 Iform (u.2.2.2.1 Iform) = HH Iform (mm Iform) - 1)) (fun (u : (Nat → Int32) × (Nat → Int32) × (Nat → Int32) × (Nat → Nat) × (Nat → Nat → Nat)) => [wO m0 12 [.ref Mtape, .int (nI Itaped), .int (nI Ifault), .int IfaultPlace, .int (nI Iat), .int (nI Isize), .int Isort, .int Iplace, .int Inumber, .long Iword, .ref MnName, .ref MnStep, .ref MnArg, .ref MnMany, .ref Mstep, .ref Marg, .ref Mmany, .ref Mopen, .ref Mvalues, .ref MnHasForm, .ref MhasForm, .int (nI Iform), .int (nI Iopens), .int (nI InUnits), .int Iunits, .int (nI IownUnits), .int (nI Ideep), .ref Masks, .ref MnLoud, .ref MnCliffAt, .ref MnSnow, .ref MnManAt, .ref MnVoice, .ref MnOn, .ref Mloud, .ref McliffAt, .ref MsnowTold, .ref MmanAt, .ref Mvoice, .ref Mon, .ref MnYes, .ref Myes, .int (nI InWords), .int (nI InCliffs), .int (nI InMen), .int (nI InStates), .int (nI InOns), .int InWind, .int InDraw, .int (nI Iwords), .int (nI Icliffs), .int (nI Imen), .int (nI Istates), .int Ions, .int IwindTold, .int InHasWind, .int InHasDraw, .ref Mnow, .ref Mcry, .ref Msnow, .ref Mecho, .int (nI IcryMany), .int IcallPlace, .int IcallVoice, .int Iwind, .int Ichance, .int (nI IechoMany), .ref Mwere, .int (nI Iacts), .int (nI Iundone), .ref Mlies, .int (nI Ilain), .ref Mspots, .ref Msteps, .ref MfromState, .ref MbyWord, .ref Mqueue, .ref MsoundCliff, .ref MsoundLong, .ref MsoundCame, .ref MsoundTold, .ref MsoundUntold, .int (nI Isounds), .int Itime, .ref Mstands, .int IstandMany, .ref Mtally, .ref MhasBox, .ref Mboxes], wI (cy 1) MnStep 960 (u.1), wI (cy 1) MnArg 960 (u.2.1), wI (cy 1) MnMany 3 (u.2.2.1)]) := by
  refine XMv.start (by decide) (Nat.le_of_ble_eq_true rfl) ?_
  intro p e s m below meth c args A ls Q hat hQ
  obtain ⟨hx, hb, hr, hml, hown, hg, hlocks, hin, hK, hA, hP, hD, hS, hE, hl⟩ := hat
  have hown : s.vm.findClass RX12 = some m.cls := hown
  have hl : lv_has ls 3 [(0, .ref m0), (1, .int 3), (2, .int va)] := hl
  refine lv_aload_n hx hb dX12_add_0 rfl (lv_at hl 0 rfl) ?_
  refine va_get (D := D) (ci := 12) (v := .ref MnStep) (C := RX12) (T := TX12) (N := 89) hx hb hg i_X12 hown hK hP 0 rfl rfl 11 (by decide) (hg _ m_1424) (fun _ h9 => h9) rfl dX12_add_1 ?_
  refine lv_sipush (v := 320) hx hb dX12_add_4 (by decide) ?_
  refine lv_aload_n hx hb dX12_add_7 rfl (lv_at hl 0 rfl) ?_
  refine va_get (D := D) (ci := 12) (v := .int (nI Iform)) (C := RX12) (T := TX12) (N := 89) hx hb hg i_X12 hown hK hP 0 rfl rfl 21 (by decide) (hg _ m_1434) (fun _ h9 => h9) rfl dX12_add_8 ?_
  refine lv_imul hx hb dX12_add_11 ?_
  refine lv_topi (fun y_1 hy_1 => ?_)
  obtain rfl : y_1 = nI (320 * Iform) := hy_1.trans (pk_mul 320 Iform)
  refine lv_aload_n hx hb dX12_add_12 rfl (lv_at hl 0 rfl) ?_
  refine va_get (D := D) (ci := 12) (v := .ref MnMany) (C := RX12) (T := TX12) (N := 89) hx hb hg i_X12 hown hK hP 0 rfl rfl 13 (by decide) (hg _ m_1426) (fun _ h9 => h9) rfl dX12_add_13 ?_
  refine lv_aload_n hx hb dX12_add_16 rfl (lv_at hl 0 rfl) ?_
  refine va_get (D := D) (ci := 12) (v := .int (nI Iform)) (C := RX12) (T := TX12) (N := 89) hx hb hg i_X12 hown hK hP 0 rfl rfl 21 (by decide) (hg _ m_1434) (fun _ h9 => h9) rfl dX12_add_17 ?_
  refine va_iald hx hb hK hP 3 1 rfl rfl (vp_in_nI (by omega) (by decide)) dX12_add_20 ?_
  refine lv_topi (fun x_2 ex_2 => ?_)
  obtain rfl : x_2 = nI (mm Iform) := allR_at gall gfo ex_2
  refine lv_iadd hx hb dX12_add_21 ?_
  refine lv_topi (fun y_3 hy_3 => ?_)
  obtain rfl : y_3 = nI ((320 * Iform) + (mm Iform)) := hy_3.trans (nI_add ((320 * Iform)) ((mm Iform)))
  refine lv_iload_n hx hb dX12_add_22 rfl (lv_at hl 1 rfl) ?_
  refine va_iast hx hb hK hP hD hS 1 1 rfl rfl (vp_in_nI (by omega) (by decide)) dX12_add_23 (fun H locs hP9 hD9 hS9 => ?_)
  clear hP hD hS
  obtain ⟨g_4, eg_4⟩ : ∃ y, upd GnStep (nI ((320 * Iform) + (mm Iform)) : Int32).toNatClampNeg 3 = y := ⟨_, rfl⟩
  rw [eg_4] at hP9 hD9
  refine reW [wO m0 12 [.ref Mtape, .int (nI Itaped), .int (nI Ifault), .int IfaultPlace, .int (nI Iat), .int (nI Isize), .int Isort, .int Iplace, .int Inumber, .long Iword, .ref MnName, .ref MnStep, .ref MnArg, .ref MnMany, .ref Mstep, .ref Marg, .ref Mmany, .ref Mopen, .ref Mvalues, .ref MnHasForm, .ref MhasForm, .int (nI Iform), .int (nI Iopens), .int (nI InUnits), .int Iunits, .int (nI IownUnits), .int (nI Ideep), .ref Masks, .ref MnLoud, .ref MnCliffAt, .ref MnSnow, .ref MnManAt, .ref MnVoice, .ref MnOn, .ref Mloud, .ref McliffAt, .ref MsnowTold, .ref MmanAt, .ref Mvoice, .ref Mon, .ref MnYes, .ref Myes, .int (nI InWords), .int (nI InCliffs), .int (nI InMen), .int (nI InStates), .int (nI InOns), .int InWind, .int InDraw, .int (nI Iwords), .int (nI Icliffs), .int (nI Imen), .int (nI Istates), .int Ions, .int IwindTold, .int InHasWind, .int InHasDraw, .ref Mnow, .ref Mcry, .ref Msnow, .ref Mecho, .int (nI IcryMany), .int IcallPlace, .int IcallVoice, .int Iwind, .int Ichance, .int (nI IechoMany), .ref Mwere, .int (nI Iacts), .int (nI Iundone), .ref Mlies, .int (nI Ilain), .ref Mspots, .ref Msteps, .ref MfromState, .ref MbyWord, .ref Mqueue, .ref MsoundCliff, .ref MsoundLong, .ref MsoundCame, .ref MsoundTold, .ref MsoundUntold, .int (nI Isounds), .int Itime, .ref Mstands, .int IstandMany, .ref Mtally, .ref MhasBox, .ref Mboxes], wI (cy 1) MnStep 960 (g_4), wI (cy 1) MnArg 960 (GnArg), wI (cy 1) MnMany 3 (GnMany)] hP9 hD9 hS9 (fun hP hD hS => ?_)
  clear hP9 hD9 hS9
  refine lv_aload_n hx hb dX12_add_24 rfl (lv_at hl 0 rfl) ?_
  refine va_get (D := D) (ci := 12) (v := .ref MnArg) (C := RX12) (T := TX12) (N := 89) hx hb hg i_X12 hown hK hP 0 rfl rfl 12 (by decide) (hg _ m_1425) (fun _ h9 => h9) rfl dX12_add_25 ?_
  refine lv_sipush (v := 320) hx hb dX12_add_28 (by decide) ?_
  refine lv_aload_n hx hb dX12_add_31 rfl (lv_at hl 0 rfl) ?_
  refine va_get (D := D) (ci := 12) (v := .int (nI Iform)) (C := RX12) (T := TX12) (N := 89) hx hb hg i_X12 hown hK hP 0 rfl rfl 21 (by decide) (hg _ m_1434) (fun _ h9 => h9) rfl dX12_add_32 ?_
  refine lv_imul hx hb dX12_add_35 ?_
  refine lv_topi (fun y_5 hy_5 => ?_)
  obtain rfl : y_5 = nI (320 * Iform) := hy_5.trans (pk_mul 320 Iform)
  refine lv_aload_n hx hb dX12_add_36 rfl (lv_at hl 0 rfl) ?_
  refine va_get (D := D) (ci := 12) (v := .ref MnMany) (C := RX12) (T := TX12) (N := 89) hx hb hg i_X12 hown hK hP 0 rfl rfl 13 (by decide) (hg _ m_1426) (fun _ h9 => h9) rfl dX12_add_37 ?_
  refine lv_aload_n hx hb dX12_add_40 rfl (lv_at hl 0 rfl) ?_
  refine va_get (D := D) (ci := 12) (v := .int (nI Iform)) (C := RX12) (T := TX12) (N := 89) hx hb hg i_X12 hown hK hP 0 rfl rfl 21 (by decide) (hg _ m_1434) (fun _ h9 => h9) rfl dX12_add_41 ?_
  refine va_iald hx hb hK hP 3 1 rfl rfl (vp_in_nI (by omega) (by decide)) dX12_add_44 ?_
  refine lv_topi (fun x_6 ex_6 => ?_)
  obtain rfl : x_6 = nI (mm Iform) := allR_at gall gfo ex_6
  refine lv_iadd hx hb dX12_add_45 ?_
  refine lv_topi (fun y_7 hy_7 => ?_)
  obtain rfl : y_7 = nI ((320 * Iform) + (mm Iform)) := hy_7.trans (nI_add ((320 * Iform)) ((mm Iform)))
  refine lv_iload_n hx hb dX12_add_46 rfl (lv_at hl 2 rfl) ?_
  refine va_iast hx hb hK hP hD hS 2 1 rfl rfl (vp_in_nI (by omega) (by decide)) dX12_add_47 (fun H locs hP9 hD9 hS9 => ?_)
  clear hP hD hS
  obtain ⟨g_8, eg_8⟩ : ∃ y, upd GnArg (nI ((320 * Iform) + (mm Iform)) : Int32).toNatClampNeg va = y := ⟨_, rfl⟩
  rw [eg_8] at hP9 hD9
  refine reW [wO m0 12 [.ref Mtape, .int (nI Itaped), .int (nI Ifault), .int IfaultPlace, .int (nI Iat), .int (nI Isize), .int Isort, .int Iplace, .int Inumber, .long Iword, .ref MnName, .ref MnStep, .ref MnArg, .ref MnMany, .ref Mstep, .ref Marg, .ref Mmany, .ref Mopen, .ref Mvalues, .ref MnHasForm, .ref MhasForm, .int (nI Iform), .int (nI Iopens), .int (nI InUnits), .int Iunits, .int (nI IownUnits), .int (nI Ideep), .ref Masks, .ref MnLoud, .ref MnCliffAt, .ref MnSnow, .ref MnManAt, .ref MnVoice, .ref MnOn, .ref Mloud, .ref McliffAt, .ref MsnowTold, .ref MmanAt, .ref Mvoice, .ref Mon, .ref MnYes, .ref Myes, .int (nI InWords), .int (nI InCliffs), .int (nI InMen), .int (nI InStates), .int (nI InOns), .int InWind, .int InDraw, .int (nI Iwords), .int (nI Icliffs), .int (nI Imen), .int (nI Istates), .int Ions, .int IwindTold, .int InHasWind, .int InHasDraw, .ref Mnow, .ref Mcry, .ref Msnow, .ref Mecho, .int (nI IcryMany), .int IcallPlace, .int IcallVoice, .int Iwind, .int Ichance, .int (nI IechoMany), .ref Mwere, .int (nI Iacts), .int (nI Iundone), .ref Mlies, .int (nI Ilain), .ref Mspots, .ref Msteps, .ref MfromState, .ref MbyWord, .ref Mqueue, .ref MsoundCliff, .ref MsoundLong, .ref MsoundCame, .ref MsoundTold, .ref MsoundUntold, .int (nI Isounds), .int Itime, .ref Mstands, .int IstandMany, .ref Mtally, .ref MhasBox, .ref Mboxes], wI (cy 1) MnStep 960 (g_4), wI (cy 1) MnArg 960 (g_8), wI (cy 1) MnMany 3 (GnMany)] hP9 hD9 hS9 (fun hP hD hS => ?_)
  clear hP9 hD9 hS9
  refine lv_aload_n hx hb dX12_add_48 rfl (lv_at hl 0 rfl) ?_
  refine va_get (D := D) (ci := 12) (v := .ref MnMany) (C := RX12) (T := TX12) (N := 89) hx hb hg i_X12 hown hK hP 0 rfl rfl 13 (by decide) (hg _ m_1426) (fun _ h9 => h9) rfl dX12_add_49 ?_
  refine lv_aload_n hx hb dX12_add_52 rfl (lv_at hl 0 rfl) ?_
  refine va_get (D := D) (ci := 12) (v := .int (nI Iform)) (C := RX12) (T := TX12) (N := 89) hx hb hg i_X12 hown hK hP 0 rfl rfl 21 (by decide) (hg _ m_1434) (fun _ h9 => h9) rfl dX12_add_53 ?_
  refine lv_dup2_11 hx hb dX12_add_56 rfl rfl ?_
  refine va_iald hx hb hK hP 3 1 rfl rfl (vp_in_nI (by omega) (by decide)) dX12_add_57 ?_
  refine lv_topi (fun x_9 ex_9 => ?_)
  obtain rfl : x_9 = nI (mm Iform) := allR_at gall gfo ex_9
  refine lv_iconst (v := 1) hx hb dX12_add_58 (by decide) ?_
  refine lv_iadd hx hb dX12_add_59 ?_
  refine lv_topi (fun y_10 hy_10 => ?_)
  obtain rfl : y_10 = nI ((mm Iform) + 1) := hy_10.trans (nI_add ((mm Iform)) 1)
  refine va_iast hx hb hK hP hD hS 3 1 rfl rfl (vp_in_nI (by omega) (by decide)) dX12_add_60 (fun H locs hP9 hD9 hS9 => ?_)
  clear hP hD hS
  obtain ⟨g_11, eg_11⟩ : ∃ y, upd GnMany (nI Iform : Int32).toNatClampNeg (nI ((mm Iform) + 1)) = y := ⟨_, rfl⟩
  rw [eg_11] at hP9 hD9
  refine reW [wO m0 12 [.ref Mtape, .int (nI Itaped), .int (nI Ifault), .int IfaultPlace, .int (nI Iat), .int (nI Isize), .int Isort, .int Iplace, .int Inumber, .long Iword, .ref MnName, .ref MnStep, .ref MnArg, .ref MnMany, .ref Mstep, .ref Marg, .ref Mmany, .ref Mopen, .ref Mvalues, .ref MnHasForm, .ref MhasForm, .int (nI Iform), .int (nI Iopens), .int (nI InUnits), .int Iunits, .int (nI IownUnits), .int (nI Ideep), .ref Masks, .ref MnLoud, .ref MnCliffAt, .ref MnSnow, .ref MnManAt, .ref MnVoice, .ref MnOn, .ref Mloud, .ref McliffAt, .ref MsnowTold, .ref MmanAt, .ref Mvoice, .ref Mon, .ref MnYes, .ref Myes, .int (nI InWords), .int (nI InCliffs), .int (nI InMen), .int (nI InStates), .int (nI InOns), .int InWind, .int InDraw, .int (nI Iwords), .int (nI Icliffs), .int (nI Imen), .int (nI Istates), .int Ions, .int IwindTold, .int InHasWind, .int InHasDraw, .ref Mnow, .ref Mcry, .ref Msnow, .ref Mecho, .int (nI IcryMany), .int IcallPlace, .int IcallVoice, .int Iwind, .int Ichance, .int (nI IechoMany), .ref Mwere, .int (nI Iacts), .int (nI Iundone), .ref Mlies, .int (nI Ilain), .ref Mspots, .ref Msteps, .ref MfromState, .ref MbyWord, .ref Mqueue, .ref MsoundCliff, .ref MsoundLong, .ref MsoundCame, .ref MsoundTold, .ref MsoundUntold, .int (nI Isounds), .int Itime, .ref Mstands, .int IstandMany, .ref Mtally, .ref MhasBox, .ref Mboxes], wI (cy 1) MnStep 960 (g_4), wI (cy 1) MnArg 960 (g_8), wI (cy 1) MnMany 3 (g_11)] hP9 hD9 hS9 (fun hP hD hS => ?_)
  clear hP9 hD9 hS9
  obtain ⟨mm9, HH9, hall9, hmm9, hHH9⟩ := allR_add (sx := 3) (v := va) (hn := HH Iform (mm Iform) - 1) gall gfo hml9 hco.2 (Or.inr (Or.inr (Or.inr ⟨rfl, by omega, hco.1⟩)))
  rw [eg_4, eg_8, eg_11] at hall9
  exact x_vret hQ hx hb hr hlocks hK hP hD hS dX12_add_61 (g_4, g_8, g_11, mm9, HH9) (⟨(show allR g_4 g_8 g_11 mm9 HH9 from hall9), (show mm9 Iform = mm Iform + 1 from hmm9), (show HH9 Iform (mm9 Iform) = HH Iform (mm Iform) - 1 from hHH9)⟩) [0, 1, 2, 3] (by decide +kernel) rfl (Nat.le_of_ble_eq_true rfl) (Nat.le_of_ble_eq_true rfl)
/-- the signs that wait, the last one first -/
def stk (f : Nat → Int32) : Nat → List Int32
  | 0 => []
  | k + 1 => f k :: stk f k
theorem stk_upd {f : Nat → Int32} {i k : Nat} {x : Int32} (h : k ≤ i) : stk (upd f i x) k = stk f k := by
  induction k with
  | zero => rfl
  | succ k ih => show upd f i x k :: _ = f k :: _; rw [pk_un (by omega), ih (by omega)]
theorem stk_put {f g : Nat → Int32} {o : Nat} {x : Int32} (ho : o < 2 ^ 31) (e : upd f (nI o).toNatClampNeg x = g) : stk g (o + 1) = x :: stk f o := by
  rw [nI_clamp ho] at e
  subst e
  show upd f o x o :: _ = _
  rw [pk_us, stk_upd (Nat.le_refl _)]
theorem stk_s {f : Nat → Int32} {o : Nat} (ho : 1 ≤ o) : stk f o = f (o - 1) :: stk f (o - 1) := by
  cases o with
  | zero => omega
  | succ o => rfl
theorem dpt_stk (f : Nat → Int32) (k : Nat) : dpt (stk f k) = cntD f k := by
  induction k with
  | zero => rfl
  | succ k ih => show dpt (stk f k) + _ = cntD f k + _; rw [ih]
theorem clo_0 {f : Nat → Int32} {t o : Nat} (h : o ≤ 0) : clo t (stk f o) = stk f o := by
  rw [show o = 0 by omega]; rfl
theorem clo_20 {f : Nat → Int32} {t o : Nat} (ho : 1 ≤ o) (h : f (o - 1) = 20) : clo t (stk f o) = stk f o := by
  rw [stk_s ho]
  show (if _ then _ else _) = _
  rw [if_neg (fun h9 => h9.1 h)]
theorem clo_lt {f : Nat → Int32} {t o : Nat} (ho : 1 ≤ o) (h : tgt (f (o - 1)) < t) : clo t (stk f o) = stk f o := by
  rw [stk_s ho]
  show (if _ then _ else _) = _
  rw [if_neg (fun h9 => by omega)]
theorem clo_go {f : Nat → Int32} {t o : Nat} (ho : 1 ≤ o) (h1 : ¬ f (o - 1) = 20) (h2 : t ≤ tgt (f (o - 1))) : clo t (stk f (o - 1)) = clo t (stk f o) := by
  rw [stk_s ho]
  show _ = (if _ then _ else _)
  rw [if_pos ⟨h1, h2⟩]
theorem tgt_top {f : Nat → Int32} {o k : Nat} {x : Int32} (ho : o < 2 ^ 31) (ex : x = f (nI o).toNatClampNeg) (hk : k = tgt x) : tgt (f o) = k := by
  rw [nI_clamp ho] at ex; rw [← ex, hk]
theorem tgt_6 {x : Int32} (h : ¬ x = 21 ∧ ¬ x = 38 ∧ ¬ x = 43 ∧ ¬ x = 45 ∧ ¬ x = 60 ∧ ¬ x = 61 ∧ ¬ x = 62 ∧ ¬ x = 124) : 6 = tgt x := by
  obtain ⟨h1, h2, h3, h4, h5, h6, h7, h8⟩ := h
  unfold tgt
  rw [if_neg h8, if_neg h2, if_neg h1, if_neg (fun h9 => h9.elim h5 (fun h9 => h9.elim h7 h6)), if_neg (fun h9 => h9.elim h3 h4)]
theorem hrl_0 {f : Nat → Int32} {o : Nat} (h : o = 0) : hrl (stk f o) = false := by rw [h]; rfl
theorem hrl_20 {f : Nat → Int32} {o : Nat} (ho : 1 ≤ o) (h : f (o - 1) = 20) : hrl (stk f o) = false := by
  rw [stk_s ho]
  show (if _ then _ else if _ then _ else _) = _
  rw [if_pos h]
theorem hrl_go {f : Nat → Int32} {o : Nat} (ho : 1 ≤ o) (h1 : ¬ f (o - 1) = 20) (h2 : 4 < tgt (f (o - 1))) : hrl (stk f (o - 1)) = hrl (stk f o) := by
  rw [stk_s ho]
  show _ = (if _ then _ else if _ then _ else _)
  rw [if_neg h1, if_pos h2]
theorem hrl_y {f : Nat → Int32} {o : Nat} (ho : 1 ≤ o) (h1 : ¬ f (o - 1) = 20) (h2 : tgt (f (o - 1)) = 4) : hrl (stk f o) = true := by
  rw [stk_s ho]
  show (if _ then _ else if _ then _ else _) = _
  rw [if_neg h1, if_neg (by omega)]
  exact decide_eq_true h2
theorem hrl_n {f : Nat → Int32} {o : Nat} (ho : 1 ≤ o) (h1 : ¬ f (o - 1) = 20) (h2 : tgt (f (o - 1)) < 4) : hrl (stk f o) = false := by
  rw [stk_s ho]
  show (if _ then _ else if _ then _ else _) = _
  rw [if_neg h1, if_neg (by omega)]
  exact decide_eq_false (by omega)
theorem low_0 {f : Nat → Int32} {o t : Nat} (h : o = 0) : low t (stk f o) = true := by rw [h]; rfl
theorem low_1 {f : Nat → Int32} {o t : Nat} (ho : 1 ≤ o) (h : f (o - 1) = 20 ∨ tgt (f (o - 1)) < t) : low t (stk f o) = true := by
  rw [stk_s ho]
  exact decide_eq_true h
theorem low_n {f : Nat → Int32} {o t : Nat} (ho : 1 ≤ o) (h1 : ¬ f (o - 1) = 20) (h : t ≤ tgt (f (o - 1))) : ¬ low t (stk f o) = true := by
  rw [stk_s ho]
  intro h9
  exact (of_decide_eq_true h9 : _ ∨ _).elim h1 (fun h8 => by omega)
theorem hbk_y {f : Nat → Int32} {k : Nat} (h : f k = 20) : hbk (stk f (k + 1)) = true := by
  show (if _ then _ else _) = _
  rw [if_pos h]
theorem hbk_u {f : Nat → Int32} {k : Nat} (h : hbk (stk f k) = true) : hbk (stk f (k + 1)) = true := by
  show (if _ then _ else _) = _
  split
  · rfl
  · exact h
theorem hbk_n {f : Nat → Int32} {k : Nat} (h : hbk (stk f k) = false) (h2 : ¬ f k = 20) : hbk (stk f (k + 1)) = false := by
  show (if _ then _ else _) = _
  rw [if_neg h2]; exact h
theorem hbk_ex {f : Nat → Int32} {k : Nat} (h : hbk (stk f k) = true) : ∃ k9 : Nat, k9 < k ∧ f k9 = 20 := by
  induction k with
  | zero => exact absurd (show false = true from h) (by decide)
  | succ k ih =>
    by_cases e : f k = 20
    · exact ⟨k, by omega, e⟩
    · have h2 : hbk (stk f k) = true := by
        have h3 : (if f k = 20 then true else hbk (stk f k)) = true := h
        rwa [if_neg e] at h3
      obtain ⟨k9, h4, h5⟩ := ih h2
      exact ⟨k9, by omega, h5⟩
/-- closed up to the bracket -/
theorem clo_tail {f : Nat → Int32} {o : Nat} {st : List Int32} (ho : 1 ≤ o) (h : stk f o = clo 0 st) : stk f (o - 1) = (clo 0 st).tail := by
  rw [← h, stk_s ho]; rfl
theorem gdX12_tight_0 : decode cX12_tight 0 = .ok (.iload_n 0, 1) ∧ decode cX12_tight 1 = .ok (.lookupswitch 85 #[(21, 79), (38, 77), (43, 83), (45, 83), (60, 81), (61, 81), (62, 81), (124, 75)], 75) ∧ decode cX12_tight 80 = .ok (.iconst 3, 1) ∧ decode cX12_tight 81 = .ok (.ireturn, 1) ∧ decode cX12_tight 78 = .ok (.iconst 2, 1) ∧ decode cX12_tight 79 = .ok (.ireturn, 1) ∧ decode cX12_tight 84 = .ok (.iconst 5, 1) ∧ decode cX12_tight 85 = .ok (.ireturn, 1) ∧ decode cX12_tight 82 = .ok (.iconst 4, 1) ∧ decode cX12_tight 83 = .ok (.ireturn, 1) ∧ decode cX12_tight 76 = .ok (.iconst 1, 1) ∧ decode cX12_tight 77 = .ok (.ireturn, 1) := by decide +kernel
theorem dX12_tight_0 : decode cX12_tight 0 = .ok (.iload_n 0, 1) := gdX12_tight_0.1
theorem dX12_tight_1 : decode cX12_tight 1 = .ok (.lookupswitch 85 #[(21, 79), (38, 77), (43, 83), (45, 83), (60, 81), (61, 81), (62, 81), (124, 75)], 75) := gdX12_tight_0.2.1
theorem dX12_tight_80 : decode cX12_tight 80 = .ok (.iconst 3, 1) := gdX12_tight_0.2.2.1
theorem dX12_tight_81 : decode cX12_tight 81 = .ok (.ireturn, 1) := gdX12_tight_0.2.2.2.1
theorem dX12_tight_78 : decode cX12_tight 78 = .ok (.iconst 2, 1) := gdX12_tight_0.2.2.2.2.1
theorem dX12_tight_79 : decode cX12_tight 79 = .ok (.ireturn, 1) := gdX12_tight_0.2.2.2.2.2.1
theorem dX12_tight_84 : decode cX12_tight 84 = .ok (.iconst 5, 1) := gdX12_tight_0.2.2.2.2.2.2.1
theorem dX12_tight_85 : decode cX12_tight 85 = .ok (.ireturn, 1) := gdX12_tight_0.2.2.2.2.2.2.2.1
theorem dX12_tight_82 : decode cX12_tight 82 = .ok (.iconst 4, 1) := gdX12_tight_0.2.2.2.2.2.2.2.2.1
theorem dX12_tight_83 : decode cX12_tight 83 = .ok (.ireturn, 1) := gdX12_tight_0.2.2.2.2.2.2.2.2.2.1
theorem dX12_tight_76 : decode cX12_tight 76 = .ok (.iconst 1, 1) := gdX12_tight_0.2.2.2.2.2.2.2.2.2.2.1
theorem dX12_tight_77 : decode cX12_tight 77 = .ok (.ireturn, 1) := gdX12_tight_0.2.2.2.2.2.2.2.2.2.2.2
theorem dX12_tight_86 : decode cX12_tight 86 = .ok (.bipush 6, 2) := by decide +kernel
theorem dX12_tight_88 : decode cX12_tight 88 = .ok (.ireturn, 1) := by decide +kernel
set_option maxHeartbeats 1000000 in
set_option maxRecDepth 100000 in
theorem r_tight (l : Launch) (D : va_G) (cy : Nat → ClassId) (ix : Int32)  : XMi l D (tyL cy) E0 yX12_tight cX12_tight 1 (some .int) (rmk 0 0 0) [.int ix] [] (fun (r : Int32) (k : Nat) => (r = nI k) ∧ (1 ≤ k ∧ k ≤ 6) ∧ (k = tgt ix)) (fun (k : Nat) => []) := by
  refine XMi.start (by decide) (Nat.le_of_ble_eq_true rfl) ?_
  intro p e s m below meth c args A ls Q hat hQ
  obtain ⟨hx, hb, hr, hml, hown, hg, hlocks, hin, hK, hA, hP, hD, hS, hE, hl⟩ := hat
  have hown : s.vm.findClass RX12 = some m.cls := hown
  have hl : lv_has ls 1 [(0, .int ix)] := hl
  refine lv_iload_n hx hb dX12_tight_0 rfl (lv_at hl 0 rfl) ?_
  rcases (show ix = 21 ∨ ix = 38 ∨ ix = 43 ∨ ix = 45 ∨ ix = 60 ∨ ix = 61 ∨ ix = 62 ∨ ix = 124 ∨ (¬ ix = 21 ∧ ¬ ix = 38 ∧ ¬ ix = 43 ∧ ¬ ix = 45 ∧ ¬ ix = 60 ∧ ¬ ix = 61 ∧ ¬ ix = 62 ∧ ¬ ix = 124) from by by_cases h0 : ix = 21; exact Or.inl h0; by_cases h1 : ix = 38; exact Or.inr (Or.inl h1); by_cases h2 : ix = 43; exact Or.inr (Or.inr (Or.inl h2)); by_cases h3 : ix = 45; exact Or.inr (Or.inr (Or.inr (Or.inl h3))); by_cases h4 : ix = 60; exact Or.inr (Or.inr (Or.inr (Or.inr (Or.inl h4)))); by_cases h5 : ix = 61; exact Or.inr (Or.inr (Or.inr (Or.inr (Or.inr (Or.inl h5))))); by_cases h6 : ix = 62; exact Or.inr (Or.inr (Or.inr (Or.inr (Or.inr (Or.inr (Or.inl h6)))))); by_cases h7 : ix = 124; exact Or.inr (Or.inr (Or.inr (Or.inr (Or.inr (Or.inr (Or.inr (Or.inl h7))))))); exact Or.inr (Or.inr (Or.inr (Or.inr (Or.inr (Or.inr (Or.inr (Or.inr (⟨h0, h1, h2, h3, h4, h5, h6, h7⟩))))))))) with rfl | rfl | rfl | rfl | rfl | rfl | rfl | rfl | hs
  · refine lv_lookup (off := 79) (tgt := 80) hx hb dX12_tight_1 (by decide) (by decide) (by decide) ?_
    refine lv_iconst (v := 3) hx hb dX12_tight_80 (by decide) ?_
    exact x_iret hQ hx hb hr hlocks hK hP hD hS dX12_tight_81 3 (⟨rfl, (show 1 ≤ 3 ∧ 3 ≤ 6 from by omega), by decide⟩) [] (by decide +kernel) rfl (Nat.le_of_ble_eq_true rfl) (Nat.le_of_ble_eq_true rfl)
  · refine lv_lookup (off := 77) (tgt := 78) hx hb dX12_tight_1 (by decide) (by decide) (by decide) ?_
    refine lv_iconst (v := 2) hx hb dX12_tight_78 (by decide) ?_
    exact x_iret hQ hx hb hr hlocks hK hP hD hS dX12_tight_79 2 (⟨rfl, (show 1 ≤ 2 ∧ 2 ≤ 6 from by omega), by decide⟩) [] (by decide +kernel) rfl (Nat.le_of_ble_eq_true rfl) (Nat.le_of_ble_eq_true rfl)
  · refine lv_lookup (off := 83) (tgt := 84) hx hb dX12_tight_1 (by decide) (by decide) (by decide) ?_
    refine lv_iconst (v := 5) hx hb dX12_tight_84 (by decide) ?_
    exact x_iret hQ hx hb hr hlocks hK hP hD hS dX12_tight_85 5 (⟨rfl, (show 1 ≤ 5 ∧ 5 ≤ 6 from by omega), by decide⟩) [] (by decide +kernel) rfl (Nat.le_of_ble_eq_true rfl) (Nat.le_of_ble_eq_true rfl)
  · refine lv_lookup (off := 83) (tgt := 84) hx hb dX12_tight_1 (by decide) (by decide) (by decide) ?_
    refine lv_iconst (v := 5) hx hb dX12_tight_84 (by decide) ?_
    exact x_iret hQ hx hb hr hlocks hK hP hD hS dX12_tight_85 5 (⟨rfl, (show 1 ≤ 5 ∧ 5 ≤ 6 from by omega), by decide⟩) [] (by decide +kernel) rfl (Nat.le_of_ble_eq_true rfl) (Nat.le_of_ble_eq_true rfl)
  · refine lv_lookup (off := 81) (tgt := 82) hx hb dX12_tight_1 (by decide) (by decide) (by decide) ?_
    refine lv_iconst (v := 4) hx hb dX12_tight_82 (by decide) ?_
    exact x_iret hQ hx hb hr hlocks hK hP hD hS dX12_tight_83 4 (⟨rfl, (show 1 ≤ 4 ∧ 4 ≤ 6 from by omega), by decide⟩) [] (by decide +kernel) rfl (Nat.le_of_ble_eq_true rfl) (Nat.le_of_ble_eq_true rfl)
  · refine lv_lookup (off := 81) (tgt := 82) hx hb dX12_tight_1 (by decide) (by decide) (by decide) ?_
    refine lv_iconst (v := 4) hx hb dX12_tight_82 (by decide) ?_
    exact x_iret hQ hx hb hr hlocks hK hP hD hS dX12_tight_83 4 (⟨rfl, (show 1 ≤ 4 ∧ 4 ≤ 6 from by omega), by decide⟩) [] (by decide +kernel) rfl (Nat.le_of_ble_eq_true rfl) (Nat.le_of_ble_eq_true rfl)
  · refine lv_lookup (off := 81) (tgt := 82) hx hb dX12_tight_1 (by decide) (by decide) (by decide) ?_
    refine lv_iconst (v := 4) hx hb dX12_tight_82 (by decide) ?_
    exact x_iret hQ hx hb hr hlocks hK hP hD hS dX12_tight_83 4 (⟨rfl, (show 1 ≤ 4 ∧ 4 ≤ 6 from by omega), by decide⟩) [] (by decide +kernel) rfl (Nat.le_of_ble_eq_true rfl) (Nat.le_of_ble_eq_true rfl)
  · refine lv_lookup (off := 75) (tgt := 76) hx hb dX12_tight_1 (by decide) (by decide) (by decide) ?_
    refine lv_iconst (v := 1) hx hb dX12_tight_76 (by decide) ?_
    exact x_iret hQ hx hb hr hlocks hK hP hD hS dX12_tight_77 1 (⟨rfl, (show 1 ≤ 1 ∧ 1 ≤ 6 from by omega), by decide⟩) [] (by decide +kernel) rfl (Nat.le_of_ble_eq_true rfl) (Nat.le_of_ble_eq_true rfl)
  · have hs0 : ¬ (21 : Int) = (ix : Int32).toInt := fun h => hs.1 ((fa_eq _ _).mpr h.symm)
    have hs1 : ¬ (38 : Int) = (ix : Int32).toInt := fun h => hs.2.1 ((fa_eq _ _).mpr h.symm)
    have hs2 : ¬ (43 : Int) = (ix : Int32).toInt := fun h => hs.2.2.1 ((fa_eq _ _).mpr h.symm)
    have hs3 : ¬ (45 : Int) = (ix : Int32).toInt := fun h => hs.2.2.2.1 ((fa_eq _ _).mpr h.symm)
    have hs4 : ¬ (60 : Int) = (ix : Int32).toInt := fun h => hs.2.2.2.2.1 ((fa_eq _ _).mpr h.symm)
    have hs5 : ¬ (61 : Int) = (ix : Int32).toInt := fun h => hs.2.2.2.2.2.1 ((fa_eq _ _).mpr h.symm)
    have hs6 : ¬ (62 : Int) = (ix : Int32).toInt := fun h => hs.2.2.2.2.2.2.1 ((fa_eq _ _).mpr h.symm)
    have hs7 : ¬ (124 : Int) = (ix : Int32).toInt := fun h => hs.2.2.2.2.2.2.2 ((fa_eq _ _).mpr h.symm)
    refine lv_lookup (off := 85) (tgt := 86) hx hb dX12_tight_1 (by decide) (by simp [Op.lookupswitch.offset, hs0, hs1, hs2, hs3, hs4, hs5, hs6, hs7]) (by decide) ?_
    refine lv_bipush (v := 6) hx hb dX12_tight_86 (by decide) ?_
    exact x_iret hQ hx hb hr hlocks hK hP hD hS dX12_tight_88 6 (⟨rfl, (show 1 ≤ 6 ∧ 6 ≤ 6 from by omega), tgt_6 hs⟩) [] (by decide +kernel) rfl (Nat.le_of_ble_eq_true rfl) (Nat.le_of_ble_eq_true rfl)
theorem gdX12_close_0 : decode cX12_close 0 = .ok (.aload_n 0, 1) ∧ decode cX12_close 1 = .ok (.getfield 283, 3) ∧ decode cX12_close 4 = .ok (.ifCond .le 97, 3) ∧ decode cX12_close 101 = .ok (.return_, 1) ∧ decode cX12_close 7 = .ok (.aload_n 0, 1) ∧ decode cX12_close 8 = .ok (.getfield 39, 3) ∧ decode cX12_close 11 = .ok (.aload_n 0, 1) ∧ decode cX12_close 12 = .ok (.getfield 283, 3) ∧ decode cX12_close 15 = .ok (.iconst 1, 1) ∧ decode cX12_close 16 = .ok (.isub, 1) ∧ decode cX12_close 17 = .ok (.iaload, 1) ∧ decode cX12_close 18 = .ok (.bipush 20, 2) := by decide +kernel
theorem dX12_close_0 : decode cX12_close 0 = .ok (.aload_n 0, 1) := gdX12_close_0.1
theorem dX12_close_1 : decode cX12_close 1 = .ok (.getfield 283, 3) := gdX12_close_0.2.1
theorem dX12_close_4 : decode cX12_close 4 = .ok (.ifCond .le 97, 3) := gdX12_close_0.2.2.1
theorem dX12_close_101 : decode cX12_close 101 = .ok (.return_, 1) := gdX12_close_0.2.2.2.1
theorem dX12_close_7 : decode cX12_close 7 = .ok (.aload_n 0, 1) := gdX12_close_0.2.2.2.2.1
theorem dX12_close_8 : decode cX12_close 8 = .ok (.getfield 39, 3) := gdX12_close_0.2.2.2.2.2.1
theorem dX12_close_11 : decode cX12_close 11 = .ok (.aload_n 0, 1) := gdX12_close_0.2.2.2.2.2.2.1
theorem dX12_close_12 : decode cX12_close 12 = .ok (.getfield 283, 3) := gdX12_close_0.2.2.2.2.2.2.2.1
theorem dX12_close_15 : decode cX12_close 15 = .ok (.iconst 1, 1) := gdX12_close_0.2.2.2.2.2.2.2.2.1
theorem dX12_close_16 : decode cX12_close 16 = .ok (.isub, 1) := gdX12_close_0.2.2.2.2.2.2.2.2.2.1
theorem dX12_close_17 : decode cX12_close 17 = .ok (.iaload, 1) := gdX12_close_0.2.2.2.2.2.2.2.2.2.2.1
theorem dX12_close_18 : decode cX12_close 18 = .ok (.bipush 20, 2) := gdX12_close_0.2.2.2.2.2.2.2.2.2.2.2
theorem gdX12_close_20 : decode cX12_close 20 = .ok (.if_icmp .eq 81, 3) ∧ decode cX12_close 23 = .ok (.aload_n 0, 1) ∧ decode cX12_close 24 = .ok (.getfield 39, 3) ∧ decode cX12_close 27 = .ok (.aload_n 0, 1) ∧ decode cX12_close 28 = .ok (.getfield 283, 3) ∧ decode cX12_close 31 = .ok (.iconst 1, 1) ∧ decode cX12_close 32 = .ok (.isub, 1) ∧ decode cX12_close 33 = .ok (.iaload, 1) ∧ decode cX12_close 34 = .ok (.invokestatic 286, 3) := by decide +kernel
theorem dX12_close_20 : decode cX12_close 20 = .ok (.if_icmp .eq 81, 3) := gdX12_close_20.1
theorem dX12_close_23 : decode cX12_close 23 = .ok (.aload_n 0, 1) := gdX12_close_20.2.1
theorem dX12_close_24 : decode cX12_close 24 = .ok (.getfield 39, 3) := gdX12_close_20.2.2.1
theorem dX12_close_27 : decode cX12_close 27 = .ok (.aload_n 0, 1) := gdX12_close_20.2.2.2.1
theorem dX12_close_28 : decode cX12_close 28 = .ok (.getfield 283, 3) := gdX12_close_20.2.2.2.2.1
theorem dX12_close_31 : decode cX12_close 31 = .ok (.iconst 1, 1) := gdX12_close_20.2.2.2.2.2.1
theorem dX12_close_32 : decode cX12_close 32 = .ok (.isub, 1) := gdX12_close_20.2.2.2.2.2.2.1
theorem dX12_close_33 : decode cX12_close 33 = .ok (.iaload, 1) := gdX12_close_20.2.2.2.2.2.2.2.1
theorem dX12_close_34 : decode cX12_close 34 = .ok (.invokestatic 286, 3) := gdX12_close_20.2.2.2.2.2.2.2.2
theorem k_X12_286 : xS RX12 286 yX12_tight cX12_tight 1 (some .int) 1 := ⟨⟨m_1823, m_1824, m_146, m_1825⟩, by decide, by decide, by decide +kernel⟩
theorem gdX12_close_37 : decode cX12_close 37 = .ok (.iload_n 1, 1) ∧ decode cX12_close 38 = .ok (.if_icmp .lt 63, 3) ∧ decode cX12_close 41 = .ok (.aload_n 0, 1) ∧ decode cX12_close 42 = .ok (.dup, 1) ∧ decode cX12_close 43 = .ok (.getfield 283, 3) ∧ decode cX12_close 46 = .ok (.iconst 1, 1) ∧ decode cX12_close 47 = .ok (.isub, 1) ∧ decode cX12_close 48 = .ok (.putfield 283, 3) ∧ decode cX12_close 51 = .ok (.aload_n 0, 1) ∧ decode cX12_close 52 = .ok (.getfield 39, 3) ∧ decode cX12_close 55 = .ok (.aload_n 0, 1) ∧ decode cX12_close 56 = .ok (.getfield 283, 3) := by decide +kernel
theorem dX12_close_37 : decode cX12_close 37 = .ok (.iload_n 1, 1) := gdX12_close_37.1
theorem dX12_close_38 : decode cX12_close 38 = .ok (.if_icmp .lt 63, 3) := gdX12_close_37.2.1
theorem dX12_close_41 : decode cX12_close 41 = .ok (.aload_n 0, 1) := gdX12_close_37.2.2.1
theorem dX12_close_42 : decode cX12_close 42 = .ok (.dup, 1) := gdX12_close_37.2.2.2.1
theorem dX12_close_43 : decode cX12_close 43 = .ok (.getfield 283, 3) := gdX12_close_37.2.2.2.2.1
theorem dX12_close_46 : decode cX12_close 46 = .ok (.iconst 1, 1) := gdX12_close_37.2.2.2.2.2.1
theorem dX12_close_47 : decode cX12_close 47 = .ok (.isub, 1) := gdX12_close_37.2.2.2.2.2.2.1
theorem dX12_close_48 : decode cX12_close 48 = .ok (.putfield 283, 3) := gdX12_close_37.2.2.2.2.2.2.2.1
theorem dX12_close_51 : decode cX12_close 51 = .ok (.aload_n 0, 1) := gdX12_close_37.2.2.2.2.2.2.2.2.1
theorem dX12_close_52 : decode cX12_close 52 = .ok (.getfield 39, 3) := gdX12_close_37.2.2.2.2.2.2.2.2.2.1
theorem dX12_close_55 : decode cX12_close 55 = .ok (.aload_n 0, 1) := gdX12_close_37.2.2.2.2.2.2.2.2.2.2.1
theorem dX12_close_56 : decode cX12_close 56 = .ok (.getfield 283, 3) := gdX12_close_37.2.2.2.2.2.2.2.2.2.2.2
theorem gdX12_close_59 : decode cX12_close 59 = .ok (.iaload, 1) ∧ decode cX12_close 60 = .ok (.bipush 21, 2) ∧ decode cX12_close 62 = .ok (.if_icmp .ne 22, 3) ∧ decode cX12_close 84 = .ok (.aload_n 0, 1) ∧ decode cX12_close 85 = .ok (.iconst 3, 1) ∧ decode cX12_close 86 = .ok (.aload_n 0, 1) ∧ decode cX12_close 87 = .ok (.getfield 39, 3) ∧ decode cX12_close 90 = .ok (.aload_n 0, 1) ∧ decode cX12_close 91 = .ok (.getfield 283, 3) ∧ decode cX12_close 94 = .ok (.iaload, 1) ∧ decode cX12_close 95 = .ok (.invokevirtual 289, 3) := by decide +kernel
theorem dX12_close_59 : decode cX12_close 59 = .ok (.iaload, 1) := gdX12_close_59.1
theorem dX12_close_60 : decode cX12_close 60 = .ok (.bipush 21, 2) := gdX12_close_59.2.1
theorem dX12_close_62 : decode cX12_close 62 = .ok (.if_icmp .ne 22, 3) := gdX12_close_59.2.2.1
theorem dX12_close_84 : decode cX12_close 84 = .ok (.aload_n 0, 1) := gdX12_close_59.2.2.2.1
theorem dX12_close_85 : decode cX12_close 85 = .ok (.iconst 3, 1) := gdX12_close_59.2.2.2.2.1
theorem dX12_close_86 : decode cX12_close 86 = .ok (.aload_n 0, 1) := gdX12_close_59.2.2.2.2.2.1
theorem dX12_close_87 : decode cX12_close 87 = .ok (.getfield 39, 3) := gdX12_close_59.2.2.2.2.2.2.1
theorem dX12_close_90 : decode cX12_close 90 = .ok (.aload_n 0, 1) := gdX12_close_59.2.2.2.2.2.2.2.1
theorem dX12_close_91 : decode cX12_close 91 = .ok (.getfield 283, 3) := gdX12_close_59.2.2.2.2.2.2.2.2.1
theorem dX12_close_94 : decode cX12_close 94 = .ok (.iaload, 1) := gdX12_close_59.2.2.2.2.2.2.2.2.2.1
theorem dX12_close_95 : decode cX12_close 95 = .ok (.invokevirtual 289, 3) := gdX12_close_59.2.2.2.2.2.2.2.2.2.2
theorem k_X12_289 : xV RX12 RX12 289 yX12_add cX12_add 3 none 2 := ⟨⟨m_1842, m_1844, m_91, m_146, m_1845⟩, rfl, by decide, by decide, by decide +kernel⟩
theorem gdX12_close_98 : decode cX12_close 98 = .ok (.goto (-98), 3) ∧ decode cX12_close 65 = .ok (.aload_n 0, 1) ∧ decode cX12_close 66 = .ok (.iconst 2, 1) ∧ decode cX12_close 67 = .ok (.iconst 0, 1) ∧ decode cX12_close 68 = .ok (.invokevirtual 289, 3) ∧ decode cX12_close 71 = .ok (.aload_n 0, 1) ∧ decode cX12_close 72 = .ok (.dup, 1) ∧ decode cX12_close 73 = .ok (.getfield 293, 3) ∧ decode cX12_close 76 = .ok (.iconst 1, 1) ∧ decode cX12_close 77 = .ok (.isub, 1) ∧ decode cX12_close 78 = .ok (.putfield 293, 3) ∧ decode cX12_close 81 = .ok (.goto (-81), 3) := by decide +kernel
theorem dX12_close_98 : decode cX12_close 98 = .ok (.goto (-98), 3) := gdX12_close_98.1
theorem dX12_close_65 : decode cX12_close 65 = .ok (.aload_n 0, 1) := gdX12_close_98.2.1
theorem dX12_close_66 : decode cX12_close 66 = .ok (.iconst 2, 1) := gdX12_close_98.2.2.1
theorem dX12_close_67 : decode cX12_close 67 = .ok (.iconst 0, 1) := gdX12_close_98.2.2.2.1
theorem dX12_close_68 : decode cX12_close 68 = .ok (.invokevirtual 289, 3) := gdX12_close_98.2.2.2.2.1
theorem dX12_close_71 : decode cX12_close 71 = .ok (.aload_n 0, 1) := gdX12_close_98.2.2.2.2.2.1
theorem dX12_close_72 : decode cX12_close 72 = .ok (.dup, 1) := gdX12_close_98.2.2.2.2.2.2.1
theorem dX12_close_73 : decode cX12_close 73 = .ok (.getfield 293, 3) := gdX12_close_98.2.2.2.2.2.2.2.1
theorem dX12_close_76 : decode cX12_close 76 = .ok (.iconst 1, 1) := gdX12_close_98.2.2.2.2.2.2.2.2.1
theorem dX12_close_77 : decode cX12_close 77 = .ok (.isub, 1) := gdX12_close_98.2.2.2.2.2.2.2.2.2.1
theorem dX12_close_78 : decode cX12_close 78 = .ok (.putfield 293, 3) := gdX12_close_98.2.2.2.2.2.2.2.2.2.2.1
theorem dX12_close_81 : decode cX12_close 81 = .ok (.goto (-81), 3) := gdX12_close_98.2.2.2.2.2.2.2.2.2.2.2
set_option maxHeartbeats 1000000 in
set_option maxRecDepth 100000 in
theorem r_close (l : Launch) (D : va_G) (cy : Nat → ClassId) (m0 : Nat) (Mtape : Nat) (MnName : Nat) (MnStep : Nat) (MnArg : Nat) (MnMany : Nat) (Mstep : Nat) (Marg : Nat) (Mmany : Nat) (Mopen : Nat) (Mvalues : Nat) (MnHasForm : Nat) (MhasForm : Nat) (Masks : Nat) (MnLoud : Nat) (MnCliffAt : Nat) (MnSnow : Nat) (MnManAt : Nat) (MnVoice : Nat) (MnOn : Nat) (Mloud : Nat) (McliffAt : Nat) (MsnowTold : Nat) (MmanAt : Nat) (Mvoice : Nat) (Mon : Nat) (MnYes : Nat) (Myes : Nat) (Mnow : Nat) (Mcry : Nat) (Msnow : Nat) (Mecho : Nat) (Mwere : Nat) (Mlies : Nat) (Mspots : Nat) (Msteps : Nat) (MfromState : Nat) (MbyWord : Nat) (Mqueue : Nat) (MsoundCliff : Nat) (MsoundLong : Nat) (MsoundCame : Nat) (MsoundTold : Nat) (MsoundUntold : Nat) (Mstands : Nat) (Mtally : Nat) (MhasBox : Nat) (Mboxes : Nat) (Itaped : Nat) (Ifault : Nat) (IfaultPlace : Int32) (Iat : Nat) (Isize : Nat) (Isort : Int32) (Iplace : Int32) (Inumber : Int32) (Iword : Int64) (GnStep : Nat → Int32) (GnArg : Nat → Int32) (GnMany : Nat → Int32) (Gopen : Nat → Int32) (Iform : Nat) (Iopens : Nat) (InUnits : Nat) (Iunits : Int32) (IownUnits : Nat) (Ideep : Nat) (InWords : Nat) (InCliffs : Nat) (InMen : Nat) (InStates : Nat) (InOns : Nat) (InWind : Int32) (InDraw : Int32) (Iwords : Nat) (Icliffs : Nat) (Imen : Nat) (Istates : Nat) (Ions : Int32) (IwindTold : Int32) (InHasWind : Int32) (InHasDraw : Int32) (IcryMany : Nat) (IcallPlace : Int32) (IcallVoice : Int32) (Iwind : Int32) (Ichance : Int32) (IechoMany : Nat) (Iacts : Nat) (Iundone : Nat) (Ilain : Nat) (Isounds : Nat) (Itime : Int32) (IstandMany : Int32) (mm : Nat → Nat) (HH : Nat → Nat → Nat) (le : Nat) (gtp : Itaped ≤ 1600) (gat : Iat ≤ Isize) (gsz : Isize ≤ 1600) (gfl : Ifault ≤ 5) (gfo : Iform ≤ 2) (gnw : InWords ≤ 8) (gnc : InCliffs ≤ 4) (gnm : InMen ≤ 4) (gns : InStates ≤ 6) (gw : Iwords ≤ 8) (gc9 : Icliffs ≤ 4) (gm : Imen ≤ 4) (gs : Istates ≤ 6) (gcm : IcryMany ≤ 10) (gem : IechoMany ≤ 20) (gau : Iacts + Iundone ≤ 40) (gla : Ilain ≤ 20) (gso : Isounds ≤ 30) (gop : Iopens ≤ 40) (gde : Ideep ≤ 8) (gou : IownUnits ≤ 31) (gnu : InUnits ≤ 61) (gno : InOns ≤ 30) (gall : allR GnStep GnArg GnMany mm HH) (hcd : cntD Gopen Iopens = Ideep) (hob : Iopens ≤ Ideep + IownUnits) (hht : HH Iform (mm Iform) + Ideep = Iopens + 1) (hphi : mm Iform + Iopens ≤ 300) (hle : le ≤ 9) : XMv l D (tyL cy) E0 yX12_close cX12_close 2 none (rmk 1 0 0) [.ref m0, .int (nI le)] [wO m0 12 [.ref Mtape, .int (nI Itaped), .int (nI Ifault), .int IfaultPlace, .int (nI Iat), .int (nI Isize), .int Isort, .int Iplace, .int Inumber, .long Iword, .ref MnName, .ref MnStep, .ref MnArg, .ref MnMany, .ref Mstep, .ref Marg, .ref Mmany, .ref Mopen, .ref Mvalues, .ref MnHasForm, .ref MhasForm, .int (nI Iform), .int (nI Iopens), .int (nI InUnits), .int Iunits, .int (nI IownUnits), .int (nI Ideep), .ref Masks, .ref MnLoud, .ref MnCliffAt, .ref MnSnow, .ref MnManAt, .ref MnVoice, .ref MnOn, .ref Mloud, .ref McliffAt, .ref MsnowTold, .ref MmanAt, .ref Mvoice, .ref Mon, .ref MnYes, .ref Myes, .int (nI InWords), .int (nI InCliffs), .int (nI InMen), .int (nI InStates), .int (nI InOns), .int InWind, .int InDraw, .int (nI Iwords), .int (nI Icliffs), .int (nI Imen), .int (nI Istates), .int Ions, .int IwindTold, .int InHasWind, .int InHasDraw, .ref Mnow, .ref Mcry, .ref Msnow, .ref Mecho, .int (nI IcryMany), .int IcallPlace, .int IcallVoice, .int Iwind, .int Ichance, .int (nI IechoMany), .ref Mwere, .int (nI Iacts), .int (nI Iundone), .ref Mlies, .int (nI Ilain), .ref Mspots, .ref Msteps, .ref MfromState, .ref MbyWord, .ref Mqueue, .ref MsoundCliff, .ref MsoundLong, .ref MsoundCame, .ref MsoundTold, .ref MsoundUntold, .int (nI Isounds), .int Itime, .ref Mstands, .int IstandMany, .ref Mtally, .ref MhasBox, .ref Mboxes], wI (cy 1) Mopen 160 (Gopen), wI (cy 1) MnStep 960 (GnStep), wI (cy 1) MnArg 960 (GnArg), wI (cy 1) MnMany 3 (GnMany)] (fun (u : (Nat → Int32) × (Nat → Int32) × (Nat → Int32) × Nat × Nat × (Nat → Nat) × (Nat → Nat → Nat)) => (u.2.2.2.1 ≤ 40) ∧ (u.2.2.2.2.1 ≤ 8) ∧ (allR u.1 u.2.1 u.2.2.1 u.2.2.2.2.2.1 u.2.2.2.2.2.2) ∧ (u.2.2.2.1 + Ideep ≤ Iopens + u.2.2.2.2.1) ∧ (u.2.2.2.2.2.2 Iform (u.2.2.2.2.2.1 Iform) + u.2.2.2.2.1 = u.2.2.2.1 + 1) ∧ (u.2.2.2.2.2.1 Iform + u.2.2.2.1 ≤ mm Iform + Iopens) ∧ (u.2.2.2.1 ≤ Iopens) ∧ (u.2.2.2.2.1 ≤ Ideep) ∧ (le = 0 → u.2.2.2.1 = 0 ∨ Gopen (u.2.2.2.1 - 1) = 20) ∧ (∀ k9 : Nat, k9 < Iopens → Gopen k9 = 20 → k9 < u.2.2.2.1) ∧ (cntD Gopen u.2.2.2.1 = u.2.2.2.2.1) ∧ (u.2.2.2.1 ≤ u.2.2.2.2.1 + IownUnits) ∧ (stk Gopen u.2.2.2.1 = clo le (stk Gopen Iopens))) (fun (u : (Nat → Int32) × (Nat → Int32) × (Nat → Int32) × Nat × Nat × (Nat → Nat) × (Nat → Nat → Nat)) => [wO m0 12 [.ref Mtape, .int (nI Itaped), .int (nI Ifault), .int IfaultPlace, .int (nI Iat), .int (nI Isize), .int Isort, .int Iplace, .int Inumber, .long Iword, .ref MnName, .ref MnStep, .ref MnArg, .ref MnMany, .ref Mstep, .ref Marg, .ref Mmany, .ref Mopen, .ref Mvalues, .ref MnHasForm, .ref MhasForm, .int (nI Iform), .int (nI u.2.2.2.1), .int (nI InUnits), .int Iunits, .int (nI IownUnits), .int (nI u.2.2.2.2.1), .ref Masks, .ref MnLoud, .ref MnCliffAt, .ref MnSnow, .ref MnManAt, .ref MnVoice, .ref MnOn, .ref Mloud, .ref McliffAt, .ref MsnowTold, .ref MmanAt, .ref Mvoice, .ref Mon, .ref MnYes, .ref Myes, .int (nI InWords), .int (nI InCliffs), .int (nI InMen), .int (nI InStates), .int (nI InOns), .int InWind, .int InDraw, .int (nI Iwords), .int (nI Icliffs), .int (nI Imen), .int (nI Istates), .int Ions, .int IwindTold, .int InHasWind, .int InHasDraw, .ref Mnow, .ref Mcry, .ref Msnow, .ref Mecho, .int (nI IcryMany), .int IcallPlace, .int IcallVoice, .int Iwind, .int Ichance, .int (nI IechoMany), .ref Mwere, .int (nI Iacts), .int (nI Iundone), .ref Mlies, .int (nI Ilain), .ref Mspots, .ref Msteps, .ref MfromState, .ref MbyWord, .ref Mqueue, .ref MsoundCliff, .ref MsoundLong, .ref MsoundCame, .ref MsoundTold, .ref MsoundUntold, .int (nI Isounds), .int Itime, .ref Mstands, .int IstandMany, .ref Mtally, .ref MhasBox, .ref Mboxes], wI (cy 1) Mopen 160 (Gopen), wI (cy 1) MnStep 960 (u.1), wI (cy 1) MnArg 960 (u.2.1), wI (cy 1) MnMany 3 (u.2.2.1)]) := by
  refine XMv.start (by decide) (Nat.le_of_ble_eq_true rfl) ?_
  intro p e s m below meth c args A ls Q hat hQ
  obtain ⟨hx, hb, hr, hml, hown, hg, hlocks, hin, hK, hA, hP, hD, hS, hE, hl⟩ := hat
  have hown : s.vm.findClass RX12 = some m.cls := hown
  have hl : lv_has ls 2 [(0, .ref m0), (1, .int (nI le))] := hl
  have loop1 : ∀ (zn : Nat) (oq1 : Nat) (dq1 : Nat) (mg1 : Nat → Nat) (Hg1 : Nat → Nat → Nat) (fa4_1 : Nat → Int32) (fa5_1 : Nat → Int32) (fa6_1 : Nat → Int32), (cntD Gopen oq1 = dq1) → (oq1 ≤ dq1 + IownUnits) → (Hg1 Iform (mg1 Iform) + dq1 = oq1 + 1) → (mg1 Iform + oq1 ≤ mm Iform + Iopens) → (oq1 ≤ Iopens ∧ dq1 ≤ Ideep ∧ oq1 + Ideep ≤ Iopens + dq1) → (allR fa4_1 fa5_1 fa6_1 mg1 Hg1) → (∀ k9 : Nat, k9 < Iopens → Gopen k9 = 20 → k9 < oq1) → (clo le (stk Gopen oq1) = clo le (stk Gopen Iopens)) → oq1 + 1 ≤ zn → ∀ (H : Heap) (locs : List Loc), va_P D vwCl [wO m0 12 [.ref Mtape, .int (nI Itaped), .int (nI Ifault), .int IfaultPlace, .int (nI Iat), .int (nI Isize), .int Isort, .int Iplace, .int Inumber, .long Iword, .ref MnName, .ref MnStep, .ref MnArg, .ref MnMany, .ref Mstep, .ref Marg, .ref Mmany, .ref Mopen, .ref Mvalues, .ref MnHasForm, .ref MhasForm, .int (nI Iform), .int (nI oq1), .int (nI InUnits), .int Iunits, .int (nI IownUnits), .int (nI dq1), .ref Masks, .ref MnLoud, .ref MnCliffAt, .ref MnSnow, .ref MnManAt, .ref MnVoice, .ref MnOn, .ref Mloud, .ref McliffAt, .ref MsnowTold, .ref MmanAt, .ref Mvoice, .ref Mon, .ref MnYes, .ref Myes, .int (nI InWords), .int (nI InCliffs), .int (nI InMen), .int (nI InStates), .int (nI InOns), .int InWind, .int InDraw, .int (nI Iwords), .int (nI Icliffs), .int (nI Imen), .int (nI Istates), .int Ions, .int IwindTold, .int InHasWind, .int InHasDraw, .ref Mnow, .ref Mcry, .ref Msnow, .ref Mecho, .int (nI IcryMany), .int IcallPlace, .int IcallVoice, .int Iwind, .int Ichance, .int (nI IechoMany), .ref Mwere, .int (nI Iacts), .int (nI Iundone), .ref Mlies, .int (nI Ilain), .ref Mspots, .ref Msteps, .ref MfromState, .ref MbyWord, .ref Mqueue, .ref MsoundCliff, .ref MsoundLong, .ref MsoundCame, .ref MsoundTold, .ref MsoundUntold, .int (nI Isounds), .int Itime, .ref Mstands, .int IstandMany, .ref Mtally, .ref MhasBox, .ref Mboxes], wI (cy 1) Mopen 160 (Gopen), wI (cy 1) MnStep 960 (fa4_1), wI (cy 1) MnArg 960 (fa5_1), wI (cy 1) MnMany 3 (fa6_1)] H → va_D A [wO m0 12 [.ref Mtape, .int (nI Itaped), .int (nI Ifault), .int IfaultPlace, .int (nI Iat), .int (nI Isize), .int Isort, .int Iplace, .int Inumber, .long Iword, .ref MnName, .ref MnStep, .ref MnArg, .ref MnMany, .ref Mstep, .ref Marg, .ref Mmany, .ref Mopen, .ref Mvalues, .ref MnHasForm, .ref MhasForm, .int (nI Iform), .int (nI oq1), .int (nI InUnits), .int Iunits, .int (nI IownUnits), .int (nI dq1), .ref Masks, .ref MnLoud, .ref MnCliffAt, .ref MnSnow, .ref MnManAt, .ref MnVoice, .ref MnOn, .ref Mloud, .ref McliffAt, .ref MsnowTold, .ref MmanAt, .ref Mvoice, .ref Mon, .ref MnYes, .ref Myes, .int (nI InWords), .int (nI InCliffs), .int (nI InMen), .int (nI InStates), .int (nI InOns), .int InWind, .int InDraw, .int (nI Iwords), .int (nI Icliffs), .int (nI Imen), .int (nI Istates), .int Ions, .int IwindTold, .int InHasWind, .int InHasDraw, .ref Mnow, .ref Mcry, .ref Msnow, .ref Mecho, .int (nI IcryMany), .int IcallPlace, .int IcallVoice, .int Iwind, .int Ichance, .int (nI IechoMany), .ref Mwere, .int (nI Iacts), .int (nI Iundone), .ref Mlies, .int (nI Ilain), .ref Mspots, .ref Msteps, .ref MfromState, .ref MbyWord, .ref Mqueue, .ref MsoundCliff, .ref MsoundLong, .ref MsoundCame, .ref MsoundTold, .ref MsoundUntold, .int (nI Isounds), .int Itime, .ref Mstands, .int IstandMany, .ref Mtally, .ref MhasBox, .ref Mboxes], wI (cy 1) Mopen 160 (Gopen), wI (cy 1) MnStep 960 (fa4_1), wI (cy 1) MnArg 960 (fa5_1), wI (cy 1) MnMany 3 (fa6_1)] → va_S A s.heap H locs → ∀ ls : Array Slot, lv_has ls 2 [(0, .ref m0), (1, .int (nI le))] → W p l e (rmk 1 0 0) s m args below meth c H locs 0 0 Q (F0 m 0 ls []) := by
    try clear hP hD hS
    intro zn
    induction zn with
    | zero => intro oq1 dq1 mg1 Hg1 fa4_1 fa5_1 fa6_1 _ _ _ _ _ _ _ _ hz; exact absurd hz (by omega)
    | succ zn ih1 =>
      intro oq1 dq1 mg1 Hg1 fa4_1 fa5_1 fa6_1 hf0_1 hf1_1 hf2_1 hf3_1 hf4_1 hf5_1 hf6_1 hf7_1 hmu1 H locs hP hD hS ls hl
      refine lv_aload_n hx hb dX12_close_0 rfl (lv_at hl 0 rfl) ?_
      refine va_get (D := D) (ci := 12) (v := .int (nI oq1)) (C := RX12) (T := TX12) (N := 89) hx hb hg i_X12 hown hK hP 0 rfl rfl 22 (by decide) (hg _ m_1435) (fun _ h9 => h9) rfl dX12_close_1 ?_
      refine lv_if_le (tgt := 101) hx hb dX12_close_4 (by decide) (fun c_2 => ?_) (fun c_2 => ?_)
      · have q_3 : oq1 ≤ 0 := q_le (a := oq1) (b := 0) rfl rfl (by omega) (by omega) c_2
        exact x_vret hQ hx hb hr hlocks hK hP hD hS dX12_close_101 (fa4_1, fa5_1, fa6_1, oq1, dq1, mg1, Hg1) (⟨(show oq1 ≤ 40 from by omega), (show dq1 ≤ 8 from by omega), (show allR fa4_1 fa5_1 fa6_1 mg1 Hg1 from hf5_1), (show oq1 + Ideep ≤ Iopens + dq1 from by omega), (show Hg1 Iform (mg1 Iform) + dq1 = oq1 + 1 from by omega), (show mg1 Iform + oq1 ≤ mm Iform + Iopens from by omega), (show oq1 ≤ Iopens from by omega), (show dq1 ≤ Ideep from by omega), (show le = 0 → oq1 = 0 ∨ Gopen (oq1 - 1) = 20 from fun _ => Or.inl (by omega)), (show ∀ k9 : Nat, k9 < Iopens → Gopen k9 = 20 → k9 < oq1 from hf6_1), (show cntD Gopen oq1 = dq1 from hf0_1), (show oq1 ≤ dq1 + IownUnits from by omega), (show stk Gopen oq1 = clo le (stk Gopen Iopens) from (clo_0 (by omega)).symm.trans hf7_1)⟩) [0, 1, 2, 3, 4] (by decide +kernel) rfl (Nat.le_of_ble_eq_true rfl) (Nat.le_of_ble_eq_true rfl)
      · have q_3 : 0 < oq1 := q_nle (a := oq1) (b := 0) rfl rfl (by omega) (by omega) c_2
        refine lv_aload_n hx hb dX12_close_7 rfl (lv_at hl 0 rfl) ?_
        refine va_get (D := D) (ci := 12) (v := .ref Mopen) (C := RX12) (T := TX12) (N := 89) hx hb hg i_X12 hown hK hP 0 rfl rfl 17 (by decide) (hg _ m_1430) (fun _ h9 => h9) rfl dX12_close_8 ?_
        refine lv_aload_n hx hb dX12_close_11 rfl (lv_at hl 0 rfl) ?_
        refine va_get (D := D) (ci := 12) (v := .int (nI oq1)) (C := RX12) (T := TX12) (N := 89) hx hb hg i_X12 hown hK hP 0 rfl rfl 22 (by decide) (hg _ m_1435) (fun _ h9 => h9) rfl dX12_close_12 ?_
        refine lv_iconst (v := 1) hx hb dX12_close_15 (by decide) ?_
        refine lv_isub hx hb dX12_close_16 ?_
        refine lv_topi (fun y_4 hy_4 => ?_)
        obtain rfl : y_4 = nI (oq1 - 1) := hy_4.trans (pk_sub (a := oq1) (b := 1) (by omega))
        refine va_iald hx hb hK hP 1 1 rfl rfl (vp_in_nI (by omega) (by decide)) dX12_close_17 ?_
        refine lv_topi (fun x_5 ex_5 => ?_)
        refine lv_bipush (v := 20) hx hb dX12_close_18 (by decide) ?_
        refine lv_icmp_eq (tgt := 101) hx hb dX12_close_20 (by decide) (fun c_20 => ?_) (fun c_20 => ?_)
        · exact x_vret hQ hx hb hr hlocks hK hP hD hS dX12_close_101 (fa4_1, fa5_1, fa6_1, oq1, dq1, mg1, Hg1) (⟨(show oq1 ≤ 40 from by omega), (show dq1 ≤ 8 from by omega), (show allR fa4_1 fa5_1 fa6_1 mg1 Hg1 from hf5_1), (show oq1 + Ideep ≤ Iopens + dq1 from by omega), (show Hg1 Iform (mg1 Iform) + dq1 = oq1 + 1 from by omega), (show mg1 Iform + oq1 ≤ mm Iform + Iopens from by omega), (show oq1 ≤ Iopens from by omega), (show dq1 ≤ Ideep from by omega), (show le = 0 → oq1 = 0 ∨ Gopen (oq1 - 1) = 20 from fun _ => Or.inr (top_eq (by omega) ex_5 c_20)), (show ∀ k9 : Nat, k9 < Iopens → Gopen k9 = 20 → k9 < oq1 from hf6_1), (show cntD Gopen oq1 = dq1 from hf0_1), (show oq1 ≤ dq1 + IownUnits from by omega), (show stk Gopen oq1 = clo le (stk Gopen Iopens) from (clo_20 (by omega) (top_eq (by omega) ex_5 c_20)).symm.trans hf7_1)⟩) [0, 1, 2, 3, 4] (by decide +kernel) rfl (Nat.le_of_ble_eq_true rfl) (Nat.le_of_ble_eq_true rfl)
        · refine lv_aload_n hx hb dX12_close_23 rfl (lv_at hl 0 rfl) ?_
          refine va_get (D := D) (ci := 12) (v := .ref Mopen) (C := RX12) (T := TX12) (N := 89) hx hb hg i_X12 hown hK hP 0 rfl rfl 17 (by decide) (hg _ m_1430) (fun _ h9 => h9) rfl dX12_close_24 ?_
          refine lv_aload_n hx hb dX12_close_27 rfl (lv_at hl 0 rfl) ?_
          refine va_get (D := D) (ci := 12) (v := .int (nI oq1)) (C := RX12) (T := TX12) (N := 89) hx hb hg i_X12 hown hK hP 0 rfl rfl 22 (by decide) (hg _ m_1435) (fun _ h9 => h9) rfl dX12_close_28 ?_
          refine lv_iconst (v := 1) hx hb dX12_close_31 (by decide) ?_
          refine lv_isub hx hb dX12_close_32 ?_
          refine lv_topi (fun y_6 hy_6 => ?_)
          obtain rfl : y_6 = nI (oq1 - 1) := hy_6.trans (pk_sub (a := oq1) (b := 1) (by omega))
          refine va_iald hx hb hK hP 1 1 rfl rfl (vp_in_nI (by omega) (by decide)) dX12_close_33 ?_
          refine lv_topi (fun x_7 ex_7 => ?_)
          refine x_callSi (wr := [wO m0 12 [.ref Mtape, .int (nI Itaped), .int (nI Ifault), .int IfaultPlace, .int (nI Iat), .int (nI Isize), .int Isort, .int Iplace, .int Inumber, .long Iword, .ref MnName, .ref MnStep, .ref MnArg, .ref MnMany, .ref Mstep, .ref Marg, .ref Mmany, .ref Mopen, .ref Mvalues, .ref MnHasForm, .ref MhasForm, .int (nI Iform), .int (nI oq1), .int (nI InUnits), .int Iunits, .int (nI IownUnits), .int (nI dq1), .ref Masks, .ref MnLoud, .ref MnCliffAt, .ref MnSnow, .ref MnManAt, .ref MnVoice, .ref MnOn, .ref Mloud, .ref McliffAt, .ref MsnowTold, .ref MmanAt, .ref Mvoice, .ref Mon, .ref MnYes, .ref Myes, .int (nI InWords), .int (nI InCliffs), .int (nI InMen), .int (nI InStates), .int (nI InOns), .int InWind, .int InDraw, .int (nI Iwords), .int (nI Icliffs), .int (nI Imen), .int (nI Istates), .int Ions, .int IwindTold, .int InHasWind, .int InHasDraw, .ref Mnow, .ref Mcry, .ref Msnow, .ref Mecho, .int (nI IcryMany), .int IcallPlace, .int IcallVoice, .int Iwind, .int Ichance, .int (nI IechoMany), .ref Mwere, .int (nI Iacts), .int (nI Iundone), .ref Mlies, .int (nI Ilain), .ref Mspots, .ref Msteps, .ref MfromState, .ref MbyWord, .ref Mqueue, .ref MsoundCliff, .ref MsoundLong, .ref MsoundCame, .ref MsoundTold, .ref MsoundUntold, .int (nI Isounds), .int Itime, .ref Mstands, .int IstandMany, .ref Mtally, .ref MhasBox, .ref Mboxes], wI (cy 1) Mopen 160 (Gopen), wI (cy 1) MnStep 960 (fa4_1), wI (cy 1) MnArg 960 (fa5_1), wI (cy 1) MnMany 3 (fa6_1)]) (rest := []) ⟨hx, hb, hml, hown, hg, hl.1⟩ k_X12_286 (r_tight l D cy x_7) E0_blind hK hP hD hS hA [] [0, 1, 2, 3, 4] ⟨rfl, rfl, by decide +kernel, by decide +kernel, by decide +kernel⟩ (fun _ _ _ => trivial) dX12_close_34 rfl rfl (Nat.le_of_ble_eq_true rfl) ⟨Nat.le_of_ble_eq_true rfl, Nat.le_of_ble_eq_true rfl⟩ ⟨Nat.le_of_ble_eq_true rfl, Nat.le_of_ble_eq_true rfl⟩ (fun zr8 zu8 H locs hw8 hP9 hD9 hS9 => ?_)
          clear hP hD hS
          obtain ⟨k_9, rfl⟩ : ∃ z, z = zu8 := ⟨_, rfl⟩
          refine reW [wO m0 12 [.ref Mtape, .int (nI Itaped), .int (nI Ifault), .int IfaultPlace, .int (nI Iat), .int (nI Isize), .int Isort, .int Iplace, .int Inumber, .long Iword, .ref MnName, .ref MnStep, .ref MnArg, .ref MnMany, .ref Mstep, .ref Marg, .ref Mmany, .ref Mopen, .ref Mvalues, .ref MnHasForm, .ref MhasForm, .int (nI Iform), .int (nI oq1), .int (nI InUnits), .int Iunits, .int (nI IownUnits), .int (nI dq1), .ref Masks, .ref MnLoud, .ref MnCliffAt, .ref MnSnow, .ref MnManAt, .ref MnVoice, .ref MnOn, .ref Mloud, .ref McliffAt, .ref MsnowTold, .ref MmanAt, .ref Mvoice, .ref Mon, .ref MnYes, .ref Myes, .int (nI InWords), .int (nI InCliffs), .int (nI InMen), .int (nI InStates), .int (nI InOns), .int InWind, .int InDraw, .int (nI Iwords), .int (nI Icliffs), .int (nI Imen), .int (nI Istates), .int Ions, .int IwindTold, .int InHasWind, .int InHasDraw, .ref Mnow, .ref Mcry, .ref Msnow, .ref Mecho, .int (nI IcryMany), .int IcallPlace, .int IcallVoice, .int Iwind, .int Ichance, .int (nI IechoMany), .ref Mwere, .int (nI Iacts), .int (nI Iundone), .ref Mlies, .int (nI Ilain), .ref Mspots, .ref Msteps, .ref MfromState, .ref MbyWord, .ref Mqueue, .ref MsoundCliff, .ref MsoundLong, .ref MsoundCame, .ref MsoundTold, .ref MsoundUntold, .int (nI Isounds), .int Itime, .ref Mstands, .int IstandMany, .ref Mtally, .ref MhasBox, .ref Mboxes], wI (cy 1) Mopen 160 (Gopen), wI (cy 1) MnStep 960 (fa4_1), wI (cy 1) MnArg 960 (fa5_1), wI (cy 1) MnMany 3 (fa6_1)] hP9 hD9 hS9 (fun hP hD hS => ?_)
          clear hP9 hD9 hS9
          refine W.widen (k := 0) (n := 0) (Nat.le_of_ble_eq_true rfl) (Nat.le_of_ble_eq_true rfl) ?_
          replace hw8 : (zr8 = nI k_9) ∧ (1 ≤ k_9 ∧ k_9 ≤ 6) ∧ (k_9 = tgt x_7) := hw8
          obtain ⟨f_10, f_11, f_12⟩ := hw8
          subst f_10
          refine lv_iload_n hx hb dX12_close_37 rfl (lv_at hl 1 rfl) ?_
          refine lv_icmp_lt (tgt := 101) hx hb dX12_close_38 (by decide) (fun c_13 => ?_) (fun c_13 => ?_)
          · have q_14 : k_9 < le := q_lt (a := k_9) (b := le) rfl rfl (by omega) (by omega) c_13
            exact x_vret hQ hx hb hr hlocks hK hP hD hS dX12_close_101 (fa4_1, fa5_1, fa6_1, oq1, dq1, mg1, Hg1) (⟨(show oq1 ≤ 40 from by omega), (show dq1 ≤ 8 from by omega), (show allR fa4_1 fa5_1 fa6_1 mg1 Hg1 from hf5_1), (show oq1 + Ideep ≤ Iopens + dq1 from by omega), (show Hg1 Iform (mg1 Iform) + dq1 = oq1 + 1 from by omega), (show mg1 Iform + oq1 ≤ mm Iform + Iopens from by omega), (show oq1 ≤ Iopens from by omega), (show dq1 ≤ Ideep from by omega), (show le = 0 → oq1 = 0 ∨ Gopen (oq1 - 1) = 20 from fun h9 => absurd h9 (by omega)), (show ∀ k9 : Nat, k9 < Iopens → Gopen k9 = 20 → k9 < oq1 from hf6_1), (show cntD Gopen oq1 = dq1 from hf0_1), (show oq1 ≤ dq1 + IownUnits from by omega), (show stk Gopen oq1 = clo le (stk Gopen Iopens) from (clo_lt (by omega) (by rw [tgt_top (by omega) ex_7 f_12]; omega)).symm.trans hf7_1)⟩) [0, 1, 2, 3, 4] (by decide +kernel) rfl (Nat.le_of_ble_eq_true rfl) (Nat.le_of_ble_eq_true rfl)
          · have q_14 : le ≤ k_9 := q_nlt (a := k_9) (b := le) rfl rfl (by omega) (by omega) c_13
            refine lv_aload_n hx hb dX12_close_41 rfl (lv_at hl 0 rfl) ?_
            refine lv_dup hx hb dX12_close_42 rfl ?_
            refine va_get (D := D) (ci := 12) (v := .int (nI oq1)) (C := RX12) (T := TX12) (N := 89) hx hb hg i_X12 hown hK hP 0 rfl rfl 22 (by decide) (hg _ m_1435) (fun _ h9 => h9) rfl dX12_close_43 ?_
            refine lv_iconst (v := 1) hx hb dX12_close_46 (by decide) ?_
            refine lv_isub hx hb dX12_close_47 ?_
            refine lv_topi (fun y_15 hy_15 => ?_)
            obtain rfl : y_15 = nI (oq1 - 1) := hy_15.trans (pk_sub (a := oq1) (b := 1) (by omega))
            refine va_put (D := D) (ci := 12) (v := .int (nI (oq1 - 1))) (ty := .int) (C := RX12) (T := TX12) (N := 89) hx hb hg i_X12 tyX12 tyX12_ok nmX12 hown hK hP hD hS 0 rfl rfl 22 (by decide) (hg _ m_1435) (fun _ h9 => h9) rfl (by decide +kernel) rfl rfl (Nat.le_of_ble_eq_true rfl) dX12_close_48 (fun H locs hP9 hD9 hS9 => ?_)
            clear hP hD hS
            refine reW [wO m0 12 [.ref Mtape, .int (nI Itaped), .int (nI Ifault), .int IfaultPlace, .int (nI Iat), .int (nI Isize), .int Isort, .int Iplace, .int Inumber, .long Iword, .ref MnName, .ref MnStep, .ref MnArg, .ref MnMany, .ref Mstep, .ref Marg, .ref Mmany, .ref Mopen, .ref Mvalues, .ref MnHasForm, .ref MhasForm, .int (nI Iform), .int (nI (oq1 - 1)), .int (nI InUnits), .int Iunits, .int (nI IownUnits), .int (nI dq1), .ref Masks, .ref MnLoud, .ref MnCliffAt, .ref MnSnow, .ref MnManAt, .ref MnVoice, .ref MnOn, .ref Mloud, .ref McliffAt, .ref MsnowTold, .ref MmanAt, .ref Mvoice, .ref Mon, .ref MnYes, .ref Myes, .int (nI InWords), .int (nI InCliffs), .int (nI InMen), .int (nI InStates), .int (nI InOns), .int InWind, .int InDraw, .int (nI Iwords), .int (nI Icliffs), .int (nI Imen), .int (nI Istates), .int Ions, .int IwindTold, .int InHasWind, .int InHasDraw, .ref Mnow, .ref Mcry, .ref Msnow, .ref Mecho, .int (nI IcryMany), .int IcallPlace, .int IcallVoice, .int Iwind, .int Ichance, .int (nI IechoMany), .ref Mwere, .int (nI Iacts), .int (nI Iundone), .ref Mlies, .int (nI Ilain), .ref Mspots, .ref Msteps, .ref MfromState, .ref MbyWord, .ref Mqueue, .ref MsoundCliff, .ref MsoundLong, .ref MsoundCame, .ref MsoundTold, .ref MsoundUntold, .int (nI Isounds), .int Itime, .ref Mstands, .int IstandMany, .ref Mtally, .ref MhasBox, .ref Mboxes], wI (cy 1) Mopen 160 (Gopen), wI (cy 1) MnStep 960 (fa4_1), wI (cy 1) MnArg 960 (fa5_1), wI (cy 1) MnMany 3 (fa6_1)] hP9 hD9 hS9 (fun hP hD hS => ?_)
            clear hP9 hD9 hS9
            refine lv_aload_n hx hb dX12_close_51 rfl (lv_at hl 0 rfl) ?_
            refine va_get (D := D) (ci := 12) (v := .ref Mopen) (C := RX12) (T := TX12) (N := 89) hx hb hg i_X12 hown hK hP 0 rfl rfl 17 (by decide) (hg _ m_1430) (fun _ h9 => h9) rfl dX12_close_52 ?_
            refine lv_aload_n hx hb dX12_close_55 rfl (lv_at hl 0 rfl) ?_
            refine va_get (D := D) (ci := 12) (v := .int (nI (oq1 - 1))) (C := RX12) (T := TX12) (N := 89) hx hb hg i_X12 hown hK hP 0 rfl rfl 22 (by decide) (hg _ m_1435) (fun _ h9 => h9) rfl dX12_close_56 ?_
            refine va_iald hx hb hK hP 1 1 rfl rfl (vp_in_nI (by omega) (by decide)) dX12_close_59 ?_
            refine lv_topi (fun x_16 ex_16 => ?_)
            refine lv_bipush (v := 21) hx hb dX12_close_60 (by decide) ?_
            refine lv_icmp_ne (tgt := 84) hx hb dX12_close_62 (by decide) (fun c_62 => ?_) (fun c_62 => ?_)
            · have ht20 := top_ne (by omega) ex_5 c_20
              have hcl := cntD_le Gopen (oq1 - 1)
              have hcs := cnt_same (by omega) ht20 (top_ne (by omega) ex_16 c_62)
              refine lv_aload_n hx hb dX12_close_84 rfl (lv_at hl 0 rfl) ?_
              refine lv_iconst (v := 3) hx hb dX12_close_85 (by decide) ?_
              refine lv_aload_n hx hb dX12_close_86 rfl (lv_at hl 0 rfl) ?_
              refine va_get (D := D) (ci := 12) (v := .ref Mopen) (C := RX12) (T := TX12) (N := 89) hx hb hg i_X12 hown hK hP 0 rfl rfl 17 (by decide) (hg _ m_1430) (fun _ h9 => h9) rfl dX12_close_87 ?_
              refine lv_aload_n hx hb dX12_close_90 rfl (lv_at hl 0 rfl) ?_
              refine va_get (D := D) (ci := 12) (v := .int (nI (oq1 - 1))) (C := RX12) (T := TX12) (N := 89) hx hb hg i_X12 hown hK hP 0 rfl rfl 22 (by decide) (hg _ m_1435) (fun _ h9 => h9) rfl dX12_close_91 ?_
              refine va_iald hx hb hK hP 1 1 rfl rfl (vp_in_nI (by omega) (by decide)) dX12_close_94 ?_
              refine lv_topi (fun x_17 ex_17 => ?_)
              refine x_callVv (q := (RX12, TX12, 89)) (ci := 12) (q0 := 0) (wr := [wI (cy 1) Mopen 160 (Gopen)]) (rest := []) ⟨hx, hb, hml, hown, hg, hl.1⟩ k_X12_289 (r_add3 l D cy m0 Mtape MnName MnStep MnArg MnMany Mstep Marg Mmany Mopen Mvalues MnHasForm MhasForm Masks MnLoud MnCliffAt MnSnow MnManAt MnVoice MnOn Mloud McliffAt MsnowTold MmanAt Mvoice Mon MnYes Myes Mnow Mcry Msnow Mecho Mwere Mlies Mspots Msteps MfromState MbyWord Mqueue MsoundCliff MsoundLong MsoundCame MsoundTold MsoundUntold Mstands Mtally MhasBox Mboxes Itaped Ifault IfaultPlace Iat Isize Isort Iplace Inumber Iword fa4_1 fa5_1 fa6_1 Iform ((oq1 - 1)) InUnits Iunits IownUnits dq1 InWords InCliffs InMen InStates InOns InWind InDraw Iwords Icliffs Imen Istates Ions IwindTold InHasWind InHasDraw IcryMany IcallPlace IcallVoice Iwind Ichance IechoMany Iacts Iundone Ilain Isounds Itime IstandMany mg1 Hg1 x_17 (by omega) (by omega) (by omega) (by omega) (by omega) (by omega) (by omega) (by omega) (by omega) (by omega) (by omega) (by omega) (by omega) (by omega) (by omega) (by omega) (by omega) (by omega) (by omega) (by omega) (by omega) (by omega) (by omega) (hf5_1) (by omega) (by omega)) E0_blind hK hP hD hS hA [0, 2, 3, 4] [1] ⟨rfl, rfl, by decide +kernel, by decide +kernel, by decide +kernel⟩ rfl rfl (fun _ _ _ => trivial) dX12_close_95 rfl rfl (Nat.le_of_ble_eq_true rfl) ⟨Nat.le_of_ble_eq_true rfl, Nat.le_of_ble_eq_true rfl⟩ ⟨Nat.le_of_ble_eq_true rfl, Nat.le_of_ble_eq_true rfl⟩ (fun zu18 H locs hw18 hP9 hD9 hS9 => ?_)
              clear hP hD hS
              obtain ⟨GnStep2_19, GnArg2_20, GnMany2_21, mm2_22, HH2_23⟩ := zu18
              refine reW [wI (cy 1) Mopen 160 (Gopen), wO m0 12 [.ref Mtape, .int (nI Itaped), .int (nI Ifault), .int IfaultPlace, .int (nI Iat), .int (nI Isize), .int Isort, .int Iplace, .int Inumber, .long Iword, .ref MnName, .ref MnStep, .ref MnArg, .ref MnMany, .ref Mstep, .ref Marg, .ref Mmany, .ref Mopen, .ref Mvalues, .ref MnHasForm, .ref MhasForm, .int (nI Iform), .int (nI ((oq1 - 1))), .int (nI InUnits), .int Iunits, .int (nI IownUnits), .int (nI dq1), .ref Masks, .ref MnLoud, .ref MnCliffAt, .ref MnSnow, .ref MnManAt, .ref MnVoice, .ref MnOn, .ref Mloud, .ref McliffAt, .ref MsnowTold, .ref MmanAt, .ref Mvoice, .ref Mon, .ref MnYes, .ref Myes, .int (nI InWords), .int (nI InCliffs), .int (nI InMen), .int (nI InStates), .int (nI InOns), .int InWind, .int InDraw, .int (nI Iwords), .int (nI Icliffs), .int (nI Imen), .int (nI Istates), .int Ions, .int IwindTold, .int InHasWind, .int InHasDraw, .ref Mnow, .ref Mcry, .ref Msnow, .ref Mecho, .int (nI IcryMany), .int IcallPlace, .int IcallVoice, .int Iwind, .int Ichance, .int (nI IechoMany), .ref Mwere, .int (nI Iacts), .int (nI Iundone), .ref Mlies, .int (nI Ilain), .ref Mspots, .ref Msteps, .ref MfromState, .ref MbyWord, .ref Mqueue, .ref MsoundCliff, .ref MsoundLong, .ref MsoundCame, .ref MsoundTold, .ref MsoundUntold, .int (nI Isounds), .int Itime, .ref Mstands, .int IstandMany, .ref Mtally, .ref MhasBox, .ref Mboxes], wI (cy 1) MnStep 960 (GnStep2_19), wI (cy 1) MnArg 960 (GnArg2_20), wI (cy 1) MnMany 3 (GnMany2_21)] hP9 hD9 hS9 (fun hP hD hS => ?_)
              clear hP9 hD9 hS9
              refine W.widen (k := 0) (n := 0) (Nat.le_of_ble_eq_true rfl) (Nat.le_of_ble_eq_true rfl) ?_
              replace hw18 : (allR GnStep2_19 GnArg2_20 GnMany2_21 mm2_22 HH2_23) ∧ (mm2_22 Iform = mg1 Iform + 1) ∧ (HH2_23 Iform (mm2_22 Iform) = Hg1 Iform (mg1 Iform) - 1) := hw18
              obtain ⟨f_24, f_25, f_26⟩ := hw18
              refine lv_goto (tgt := 0) hx hb dX12_close_98 (by decide) ?_
              exact ih1  (((oq1 - 1))) dq1 mm2_22 HH2_23 GnStep2_19 GnArg2_20 GnMany2_21 (by omega) (by omega) (by omega) (by omega) (by omega) (f_24) (fun k9 h9 e9 => bk_step (hf6_1 k9 h9 e9) ht20 e9) ((clo_go (by omega) ht20 (by rw [tgt_top (by omega) ex_7 f_12]; omega)).trans hf7_1) (by omega) _ _ (hP.sub [1, 0, 2, 3, 4] rfl) (hD.sub [1, 0, 2, 3, 4] (by decide +kernel) rfl) hS ls (lv_sub hl [0, 1] rfl)
            · have ht20 := top_ne (by omega) ex_5 c_20
              have hcl := cntD_le Gopen (oq1 - 1)
              have hcs := cnt_dec (by omega) (Or.inr (top_eq (by omega) ex_16 c_62))
              refine lv_aload_n hx hb dX12_close_65 rfl (lv_at hl 0 rfl) ?_
              refine lv_iconst (v := 2) hx hb dX12_close_66 (by decide) ?_
              refine lv_iconst (v := 0) hx hb dX12_close_67 (by decide) ?_
              refine x_callVv (q := (RX12, TX12, 89)) (ci := 12) (q0 := 0) (wr := [wI (cy 1) Mopen 160 (Gopen)]) (rest := []) ⟨hx, hb, hml, hown, hg, hl.1⟩ k_X12_289 (r_add2 l D cy m0 Mtape MnName MnStep MnArg MnMany Mstep Marg Mmany Mopen Mvalues MnHasForm MhasForm Masks MnLoud MnCliffAt MnSnow MnManAt MnVoice MnOn Mloud McliffAt MsnowTold MmanAt Mvoice Mon MnYes Myes Mnow Mcry Msnow Mecho Mwere Mlies Mspots Msteps MfromState MbyWord Mqueue MsoundCliff MsoundLong MsoundCame MsoundTold MsoundUntold Mstands Mtally MhasBox Mboxes Itaped Ifault IfaultPlace Iat Isize Isort Iplace Inumber Iword fa4_1 fa5_1 fa6_1 Iform ((oq1 - 1)) InUnits Iunits IownUnits dq1 InWords InCliffs InMen InStates InOns InWind InDraw Iwords Icliffs Imen Istates Ions IwindTold InHasWind InHasDraw IcryMany IcallPlace IcallVoice Iwind Ichance IechoMany Iacts Iundone Ilain Isounds Itime IstandMany mg1 Hg1 0 (by omega) (by omega) (by omega) (by omega) (by omega) (by omega) (by omega) (by omega) (by omega) (by omega) (by omega) (by omega) (by omega) (by omega) (by omega) (by omega) (by omega) (by omega) (by omega) (by omega) (by omega) (by omega) (by omega) (hf5_1) (by omega) (by omega)) E0_blind hK hP hD hS hA [0, 2, 3, 4] [1] ⟨rfl, rfl, by decide +kernel, by decide +kernel, by decide +kernel⟩ rfl rfl (fun _ _ _ => trivial) dX12_close_68 rfl rfl (Nat.le_of_ble_eq_true rfl) ⟨Nat.le_of_ble_eq_true rfl, Nat.le_of_ble_eq_true rfl⟩ ⟨Nat.le_of_ble_eq_true rfl, Nat.le_of_ble_eq_true rfl⟩ (fun zu27 H locs hw27 hP9 hD9 hS9 => ?_)
              clear hP hD hS
              obtain ⟨GnStep2_28, GnArg2_29, GnMany2_30, mm2_31, HH2_32⟩ := zu27
              refine reW [wI (cy 1) Mopen 160 (Gopen), wO m0 12 [.ref Mtape, .int (nI Itaped), .int (nI Ifault), .int IfaultPlace, .int (nI Iat), .int (nI Isize), .int Isort, .int Iplace, .int Inumber, .long Iword, .ref MnName, .ref MnStep, .ref MnArg, .ref MnMany, .ref Mstep, .ref Marg, .ref Mmany, .ref Mopen, .ref Mvalues, .ref MnHasForm, .ref MhasForm, .int (nI Iform), .int (nI ((oq1 - 1))), .int (nI InUnits), .int Iunits, .int (nI IownUnits), .int (nI dq1), .ref Masks, .ref MnLoud, .ref MnCliffAt, .ref MnSnow, .ref MnManAt, .ref MnVoice, .ref MnOn, .ref Mloud, .ref McliffAt, .ref MsnowTold, .ref MmanAt, .ref Mvoice, .ref Mon, .ref MnYes, .ref Myes, .int (nI InWords), .int (nI InCliffs), .int (nI InMen), .int (nI InStates), .int (nI InOns), .int InWind, .int InDraw, .int (nI Iwords), .int (nI Icliffs), .int (nI Imen), .int (nI Istates), .int Ions, .int IwindTold, .int InHasWind, .int InHasDraw, .ref Mnow, .ref Mcry, .ref Msnow, .ref Mecho, .int (nI IcryMany), .int IcallPlace, .int IcallVoice, .int Iwind, .int Ichance, .int (nI IechoMany), .ref Mwere, .int (nI Iacts), .int (nI Iundone), .ref Mlies, .int (nI Ilain), .ref Mspots, .ref Msteps, .ref MfromState, .ref MbyWord, .ref Mqueue, .ref MsoundCliff, .ref MsoundLong, .ref MsoundCame, .ref MsoundTold, .ref MsoundUntold, .int (nI Isounds), .int Itime, .ref Mstands, .int IstandMany, .ref Mtally, .ref MhasBox, .ref Mboxes], wI (cy 1) MnStep 960 (GnStep2_28), wI (cy 1) MnArg 960 (GnArg2_29), wI (cy 1) MnMany 3 (GnMany2_30)] hP9 hD9 hS9 (fun hP hD hS => ?_)
              clear hP9 hD9 hS9
              refine W.widen (k := 0) (n := 0) (Nat.le_of_ble_eq_true rfl) (Nat.le_of_ble_eq_true rfl) ?_
              replace hw27 : (allR GnStep2_28 GnArg2_29 GnMany2_30 mm2_31 HH2_32) ∧ (mm2_31 Iform = mg1 Iform + 1) ∧ (HH2_32 Iform (mm2_31 Iform) = Hg1 Iform (mg1 Iform)) := hw27
              obtain ⟨f_33, f_34, f_35⟩ := hw27
              refine lv_aload_n hx hb dX12_close_71 rfl (lv_at hl 0 rfl) ?_
              refine lv_dup hx hb dX12_close_72 rfl ?_
              refine va_get (D := D) (ci := 12) (v := .int (nI dq1)) (C := RX12) (T := TX12) (N := 89) hx hb hg i_X12 hown hK hP 1 rfl rfl 26 (by decide) (hg _ m_1439) (fun _ h9 => h9) rfl dX12_close_73 ?_
              refine lv_iconst (v := 1) hx hb dX12_close_76 (by decide) ?_
              refine lv_isub hx hb dX12_close_77 ?_
              refine lv_topi (fun y_36 hy_36 => ?_)
              obtain rfl : y_36 = nI (dq1 - 1) := hy_36.trans (pk_sub (a := dq1) (b := 1) (by omega))
              refine va_put (D := D) (ci := 12) (v := .int (nI (dq1 - 1))) (ty := .int) (C := RX12) (T := TX12) (N := 89) hx hb hg i_X12 tyX12 tyX12_ok nmX12 hown hK hP hD hS 1 rfl rfl 26 (by decide) (hg _ m_1439) (fun _ h9 => h9) rfl (by decide +kernel) rfl rfl (Nat.le_of_ble_eq_true rfl) dX12_close_78 (fun H locs hP9 hD9 hS9 => ?_)
              clear hP hD hS
              refine reW [wI (cy 1) Mopen 160 (Gopen), wO m0 12 [.ref Mtape, .int (nI Itaped), .int (nI Ifault), .int IfaultPlace, .int (nI Iat), .int (nI Isize), .int Isort, .int Iplace, .int Inumber, .long Iword, .ref MnName, .ref MnStep, .ref MnArg, .ref MnMany, .ref Mstep, .ref Marg, .ref Mmany, .ref Mopen, .ref Mvalues, .ref MnHasForm, .ref MhasForm, .int (nI Iform), .int (nI ((oq1 - 1))), .int (nI InUnits), .int Iunits, .int (nI IownUnits), .int (nI (dq1 - 1)), .ref Masks, .ref MnLoud, .ref MnCliffAt, .ref MnSnow, .ref MnManAt, .ref MnVoice, .ref MnOn, .ref Mloud, .ref McliffAt, .ref MsnowTold, .ref MmanAt, .ref Mvoice, .ref Mon, .ref MnYes, .ref Myes, .int (nI InWords), .int (nI InCliffs), .int (nI InMen), .int (nI InStates), .int (nI InOns), .int InWind, .int InDraw, .int (nI Iwords), .int (nI Icliffs), .int (nI Imen), .int (nI Istates), .int Ions, .int IwindTold, .int InHasWind, .int InHasDraw, .ref Mnow, .ref Mcry, .ref Msnow, .ref Mecho, .int (nI IcryMany), .int IcallPlace, .int IcallVoice, .int Iwind, .int Ichance, .int (nI IechoMany), .ref Mwere, .int (nI Iacts), .int (nI Iundone), .ref Mlies, .int (nI Ilain), .ref Mspots, .ref Msteps, .ref MfromState, .ref MbyWord, .ref Mqueue, .ref MsoundCliff, .ref MsoundLong, .ref MsoundCame, .ref MsoundTold, .ref MsoundUntold, .int (nI Isounds), .int Itime, .ref Mstands, .int IstandMany, .ref Mtally, .ref MhasBox, .ref Mboxes], wI (cy 1) MnStep 960 (GnStep2_28), wI (cy 1) MnArg 960 (GnArg2_29), wI (cy 1) MnMany 3 (GnMany2_30)] hP9 hD9 hS9 (fun hP hD hS => ?_)
              clear hP9 hD9 hS9
              refine lv_goto (tgt := 0) hx hb dX12_close_81 (by decide) ?_
              exact ih1  (((oq1 - 1))) ((dq1 - 1)) mm2_31 HH2_32 GnStep2_28 GnArg2_29 GnMany2_30 (by omega) (by omega) (by omega) (by omega) (by omega) (f_33) (fun k9 h9 e9 => bk_step (hf6_1 k9 h9 e9) ht20 e9) ((clo_go (by omega) ht20 (by rw [tgt_top (by omega) ex_7 f_12]; omega)).trans hf7_1) (by omega) _ _ (hP.sub [1, 0, 2, 3, 4] rfl) (hD.sub [1, 0, 2, 3, 4] (by decide +kernel) rfl) hS ls (lv_sub hl [0, 1] rfl)
  exact loop1 _ Iopens Ideep mm HH GnStep GnArg GnMany (by omega) (by omega) (by omega) (by omega) (by omega) (gall) (fun k9 h9 _ => h9) (rfl) (Nat.le_refl _) _ _ (hP.sub [0, 1, 2, 3, 4] rfl) (hD.sub [0, 1, 2, 3, 4] (by decide +kernel) rfl) hS ls (lv_sub hl [0, 1] rfl)
theorem x0_of {iv : Int32} {x : Nat} (h : iv = nI x - 1) (h8 : iv < 0) (hx : x ≤ 40) : x = 0 := by
  rcases Nat.eq_zero_or_pos x with h9 | h9
  · exact h9
  · have e : nI x - 1 = nI (x - 1) := by have h7 := nI_pred (x - 1); rwa [Nat.sub_add_cancel h9] at h7
    exact absurd (show nI (x - 1) < 0 by rw [← e, ← h]; exact h8) (nI_pos (by omega))
theorem gdX12_hasRelation_0 : decode cX12_hasRelation 0 = .ok (.aload_n 0, 1) ∧ decode cX12_hasRelation 1 = .ok (.getfield 283, 3) ∧ decode cX12_hasRelation 4 = .ok (.iconst 1, 1) ∧ decode cX12_hasRelation 5 = .ok (.isub, 1) ∧ decode cX12_hasRelation 6 = .ok (.istore_n 1, 1) ∧ decode cX12_hasRelation 7 = .ok (.iload_n 1, 1) ∧ decode cX12_hasRelation 8 = .ok (.ifCond .lt 33, 3) ∧ decode cX12_hasRelation 41 = .ok (.iload_n 1, 1) ∧ decode cX12_hasRelation 42 = .ok (.ifCond .lt 31, 3) ∧ decode cX12_hasRelation 73 = .ok (.iconst 0, 1) ∧ decode cX12_hasRelation 74 = .ok (.ireturn, 1) ∧ decode cX12_hasRelation 11 = .ok (.aload_n 0, 1) := by decide +kernel
theorem dX12_hasRelation_0 : decode cX12_hasRelation 0 = .ok (.aload_n 0, 1) := gdX12_hasRelation_0.1
theorem dX12_hasRelation_1 : decode cX12_hasRelation 1 = .ok (.getfield 283, 3) := gdX12_hasRelation_0.2.1
theorem dX12_hasRelation_4 : decode cX12_hasRelation 4 = .ok (.iconst 1, 1) := gdX12_hasRelation_0.2.2.1
theorem dX12_hasRelation_5 : decode cX12_hasRelation 5 = .ok (.isub, 1) := gdX12_hasRelation_0.2.2.2.1
theorem dX12_hasRelation_6 : decode cX12_hasRelation 6 = .ok (.istore_n 1, 1) := gdX12_hasRelation_0.2.2.2.2.1
theorem dX12_hasRelation_7 : decode cX12_hasRelation 7 = .ok (.iload_n 1, 1) := gdX12_hasRelation_0.2.2.2.2.2.1
theorem dX12_hasRelation_8 : decode cX12_hasRelation 8 = .ok (.ifCond .lt 33, 3) := gdX12_hasRelation_0.2.2.2.2.2.2.1
theorem dX12_hasRelation_41 : decode cX12_hasRelation 41 = .ok (.iload_n 1, 1) := gdX12_hasRelation_0.2.2.2.2.2.2.2.1
theorem dX12_hasRelation_42 : decode cX12_hasRelation 42 = .ok (.ifCond .lt 31, 3) := gdX12_hasRelation_0.2.2.2.2.2.2.2.2.1
theorem dX12_hasRelation_73 : decode cX12_hasRelation 73 = .ok (.iconst 0, 1) := gdX12_hasRelation_0.2.2.2.2.2.2.2.2.2.1
theorem dX12_hasRelation_74 : decode cX12_hasRelation 74 = .ok (.ireturn, 1) := gdX12_hasRelation_0.2.2.2.2.2.2.2.2.2.2.1
theorem dX12_hasRelation_11 : decode cX12_hasRelation 11 = .ok (.aload_n 0, 1) := gdX12_hasRelation_0.2.2.2.2.2.2.2.2.2.2.2
theorem gdX12_hasRelation_12 : decode cX12_hasRelation 12 = .ok (.getfield 39, 3) ∧ decode cX12_hasRelation 15 = .ok (.iload_n 1, 1) ∧ decode cX12_hasRelation 16 = .ok (.iaload, 1) ∧ decode cX12_hasRelation 17 = .ok (.bipush 20, 2) ∧ decode cX12_hasRelation 19 = .ok (.if_icmp .eq 22, 3) ∧ decode cX12_hasRelation 45 = .ok (.aload_n 0, 1) ∧ decode cX12_hasRelation 46 = .ok (.getfield 39, 3) ∧ decode cX12_hasRelation 49 = .ok (.iload_n 1, 1) ∧ decode cX12_hasRelation 50 = .ok (.iaload, 1) ∧ decode cX12_hasRelation 51 = .ok (.bipush 20, 2) ∧ decode cX12_hasRelation 53 = .ok (.if_icmp .eq 20, 3) ∧ decode cX12_hasRelation 22 = .ok (.aload_n 0, 1) := by decide +kernel
theorem dX12_hasRelation_12 : decode cX12_hasRelation 12 = .ok (.getfield 39, 3) := gdX12_hasRelation_12.1
theorem dX12_hasRelation_15 : decode cX12_hasRelation 15 = .ok (.iload_n 1, 1) := gdX12_hasRelation_12.2.1
theorem dX12_hasRelation_16 : decode cX12_hasRelation 16 = .ok (.iaload, 1) := gdX12_hasRelation_12.2.2.1
theorem dX12_hasRelation_17 : decode cX12_hasRelation 17 = .ok (.bipush 20, 2) := gdX12_hasRelation_12.2.2.2.1
theorem dX12_hasRelation_19 : decode cX12_hasRelation 19 = .ok (.if_icmp .eq 22, 3) := gdX12_hasRelation_12.2.2.2.2.1
theorem dX12_hasRelation_45 : decode cX12_hasRelation 45 = .ok (.aload_n 0, 1) := gdX12_hasRelation_12.2.2.2.2.2.1
theorem dX12_hasRelation_46 : decode cX12_hasRelation 46 = .ok (.getfield 39, 3) := gdX12_hasRelation_12.2.2.2.2.2.2.1
theorem dX12_hasRelation_49 : decode cX12_hasRelation 49 = .ok (.iload_n 1, 1) := gdX12_hasRelation_12.2.2.2.2.2.2.2.1
theorem dX12_hasRelation_50 : decode cX12_hasRelation 50 = .ok (.iaload, 1) := gdX12_hasRelation_12.2.2.2.2.2.2.2.2.1
theorem dX12_hasRelation_51 : decode cX12_hasRelation 51 = .ok (.bipush 20, 2) := gdX12_hasRelation_12.2.2.2.2.2.2.2.2.2.1
theorem dX12_hasRelation_53 : decode cX12_hasRelation 53 = .ok (.if_icmp .eq 20, 3) := gdX12_hasRelation_12.2.2.2.2.2.2.2.2.2.2.1
theorem dX12_hasRelation_22 : decode cX12_hasRelation 22 = .ok (.aload_n 0, 1) := gdX12_hasRelation_12.2.2.2.2.2.2.2.2.2.2.2
theorem gdX12_hasRelation_23 : decode cX12_hasRelation 23 = .ok (.getfield 39, 3) ∧ decode cX12_hasRelation 26 = .ok (.iload_n 1, 1) ∧ decode cX12_hasRelation 27 = .ok (.iaload, 1) ∧ decode cX12_hasRelation 28 = .ok (.invokestatic 286, 3) ∧ decode cX12_hasRelation 31 = .ok (.iconst 4, 1) ∧ decode cX12_hasRelation 32 = .ok (.if_icmp .le 9, 3) ∧ decode cX12_hasRelation 56 = .ok (.aload_n 0, 1) ∧ decode cX12_hasRelation 57 = .ok (.getfield 39, 3) ∧ decode cX12_hasRelation 60 = .ok (.iload_n 1, 1) ∧ decode cX12_hasRelation 61 = .ok (.iaload, 1) ∧ decode cX12_hasRelation 62 = .ok (.invokestatic 286, 3) ∧ decode cX12_hasRelation 65 = .ok (.iconst 4, 1) := by decide +kernel
theorem dX12_hasRelation_23 : decode cX12_hasRelation 23 = .ok (.getfield 39, 3) := gdX12_hasRelation_23.1
theorem dX12_hasRelation_26 : decode cX12_hasRelation 26 = .ok (.iload_n 1, 1) := gdX12_hasRelation_23.2.1
theorem dX12_hasRelation_27 : decode cX12_hasRelation 27 = .ok (.iaload, 1) := gdX12_hasRelation_23.2.2.1
theorem dX12_hasRelation_28 : decode cX12_hasRelation 28 = .ok (.invokestatic 286, 3) := gdX12_hasRelation_23.2.2.2.1
theorem dX12_hasRelation_31 : decode cX12_hasRelation 31 = .ok (.iconst 4, 1) := gdX12_hasRelation_23.2.2.2.2.1
theorem dX12_hasRelation_32 : decode cX12_hasRelation 32 = .ok (.if_icmp .le 9, 3) := gdX12_hasRelation_23.2.2.2.2.2.1
theorem dX12_hasRelation_56 : decode cX12_hasRelation 56 = .ok (.aload_n 0, 1) := gdX12_hasRelation_23.2.2.2.2.2.2.1
theorem dX12_hasRelation_57 : decode cX12_hasRelation 57 = .ok (.getfield 39, 3) := gdX12_hasRelation_23.2.2.2.2.2.2.2.1
theorem dX12_hasRelation_60 : decode cX12_hasRelation 60 = .ok (.iload_n 1, 1) := gdX12_hasRelation_23.2.2.2.2.2.2.2.2.1
theorem dX12_hasRelation_61 : decode cX12_hasRelation 61 = .ok (.iaload, 1) := gdX12_hasRelation_23.2.2.2.2.2.2.2.2.2.1
theorem dX12_hasRelation_62 : decode cX12_hasRelation 62 = .ok (.invokestatic 286, 3) := gdX12_hasRelation_23.2.2.2.2.2.2.2.2.2.2.1
theorem dX12_hasRelation_65 : decode cX12_hasRelation 65 = .ok (.iconst 4, 1) := gdX12_hasRelation_23.2.2.2.2.2.2.2.2.2.2.2
theorem gdX12_hasRelation_66 : decode cX12_hasRelation 66 = .ok (.if_icmp .ne 7, 3) ∧ decode cX12_hasRelation 69 = .ok (.iconst 1, 1) ∧ decode cX12_hasRelation 70 = .ok (.goto 4, 3) ∧ decode cX12_hasRelation 35 = .ok (.iinc 1 (-1), 3) ∧ decode cX12_hasRelation 38 = .ok (.goto (-31), 3) := by decide +kernel
theorem dX12_hasRelation_66 : decode cX12_hasRelation 66 = .ok (.if_icmp .ne 7, 3) := gdX12_hasRelation_66.1
theorem dX12_hasRelation_69 : decode cX12_hasRelation 69 = .ok (.iconst 1, 1) := gdX12_hasRelation_66.2.1
theorem dX12_hasRelation_70 : decode cX12_hasRelation 70 = .ok (.goto 4, 3) := gdX12_hasRelation_66.2.2.1
theorem dX12_hasRelation_35 : decode cX12_hasRelation 35 = .ok (.iinc 1 (-1), 3) := gdX12_hasRelation_66.2.2.2.1
theorem dX12_hasRelation_38 : decode cX12_hasRelation 38 = .ok (.goto (-31), 3) := gdX12_hasRelation_66.2.2.2.2
set_option maxHeartbeats 1000000 in
set_option maxRecDepth 100000 in
theorem r_hasRelation (l : Launch) (D : va_G) (cy : Nat → ClassId) (m0 : Nat) (Mtape : Nat) (MnName : Nat) (MnStep : Nat) (MnArg : Nat) (MnMany : Nat) (Mstep : Nat) (Marg : Nat) (Mmany : Nat) (Mopen : Nat) (Mvalues : Nat) (MnHasForm : Nat) (MhasForm : Nat) (Masks : Nat) (MnLoud : Nat) (MnCliffAt : Nat) (MnSnow : Nat) (MnManAt : Nat) (MnVoice : Nat) (MnOn : Nat) (Mloud : Nat) (McliffAt : Nat) (MsnowTold : Nat) (MmanAt : Nat) (Mvoice : Nat) (Mon : Nat) (MnYes : Nat) (Myes : Nat) (Mnow : Nat) (Mcry : Nat) (Msnow : Nat) (Mecho : Nat) (Mwere : Nat) (Mlies : Nat) (Mspots : Nat) (Msteps : Nat) (MfromState : Nat) (MbyWord : Nat) (Mqueue : Nat) (MsoundCliff : Nat) (MsoundLong : Nat) (MsoundCame : Nat) (MsoundTold : Nat) (MsoundUntold : Nat) (Mstands : Nat) (Mtally : Nat) (MhasBox : Nat) (Mboxes : Nat) (Itaped : Nat) (Ifault : Nat) (IfaultPlace : Int32) (Iat : Nat) (Isize : Nat) (Isort : Int32) (Iplace : Int32) (Inumber : Int32) (Iword : Int64) (Gopen : Nat → Int32) (Iform : Nat) (Iopens : Nat) (InUnits : Nat) (Iunits : Int32) (IownUnits : Nat) (Ideep : Nat) (InWords : Nat) (InCliffs : Nat) (InMen : Nat) (InStates : Nat) (InOns : Nat) (InWind : Int32) (InDraw : Int32) (Iwords : Nat) (Icliffs : Nat) (Imen : Nat) (Istates : Nat) (Ions : Int32) (IwindTold : Int32) (InHasWind : Int32) (InHasDraw : Int32) (IcryMany : Nat) (IcallPlace : Int32) (IcallVoice : Int32) (Iwind : Int32) (Ichance : Int32) (IechoMany : Nat) (Iacts : Nat) (Iundone : Nat) (Ilain : Nat) (Isounds : Nat) (Itime : Int32) (IstandMany : Int32) (gtp : Itaped ≤ 1600) (gat : Iat ≤ Isize) (gsz : Isize ≤ 1600) (gfl : Ifault ≤ 5) (gfo : Iform ≤ 2) (gnw : InWords ≤ 8) (gnc : InCliffs ≤ 4) (gnm : InMen ≤ 4) (gns : InStates ≤ 6) (gw : Iwords ≤ 8) (gc9 : Icliffs ≤ 4) (gm : Imen ≤ 4) (gs : Istates ≤ 6) (gcm : IcryMany ≤ 10) (gem : IechoMany ≤ 20) (gau : Iacts + Iundone ≤ 40) (gla : Ilain ≤ 20) (gso : Isounds ≤ 30) (gop : Iopens ≤ 40) (gde : Ideep ≤ 8) (gou : IownUnits ≤ 31) (gnu : InUnits ≤ 61) (gno : InOns ≤ 30) (hcd : cntD Gopen Iopens = Ideep) : XMi l D (tyL cy) E0 yX12_hasRelation cX12_hasRelation 2 (some .boolean) (rmk 1 0 0) [.ref m0] [wO m0 12 [.ref Mtape, .int (nI Itaped), .int (nI Ifault), .int IfaultPlace, .int (nI Iat), .int (nI Isize), .int Isort, .int Iplace, .int Inumber, .long Iword, .ref MnName, .ref MnStep, .ref MnArg, .ref MnMany, .ref Mstep, .ref Marg, .ref Mmany, .ref Mopen, .ref Mvalues, .ref MnHasForm, .ref MhasForm, .int (nI Iform), .int (nI Iopens), .int (nI InUnits), .int Iunits, .int (nI IownUnits), .int (nI Ideep), .ref Masks, .ref MnLoud, .ref MnCliffAt, .ref MnSnow, .ref MnManAt, .ref MnVoice, .ref MnOn, .ref Mloud, .ref McliffAt, .ref MsnowTold, .ref MmanAt, .ref Mvoice, .ref Mon, .ref MnYes, .ref Myes, .int (nI InWords), .int (nI InCliffs), .int (nI InMen), .int (nI InStates), .int (nI InOns), .int InWind, .int InDraw, .int (nI Iwords), .int (nI Icliffs), .int (nI Imen), .int (nI Istates), .int Ions, .int IwindTold, .int InHasWind, .int InHasDraw, .ref Mnow, .ref Mcry, .ref Msnow, .ref Mecho, .int (nI IcryMany), .int IcallPlace, .int IcallVoice, .int Iwind, .int Ichance, .int (nI IechoMany), .ref Mwere, .int (nI Iacts), .int (nI Iundone), .ref Mlies, .int (nI Ilain), .ref Mspots, .ref Msteps, .ref MfromState, .ref MbyWord, .ref Mqueue, .ref MsoundCliff, .ref MsoundLong, .ref MsoundCame, .ref MsoundTold, .ref MsoundUntold, .int (nI Isounds), .int Itime, .ref Mstands, .int IstandMany, .ref Mtally, .ref MhasBox, .ref Mboxes], wI (cy 1) Mopen 160 (Gopen)] (fun (r : Int32) (_ : Unit) => ((r = 1 ∧ (hrl (stk Gopen Iopens) = true)) ∨ (r = 0 ∧ (hrl (stk Gopen Iopens) = false)))) (fun (_ : Unit) => [wO m0 12 [.ref Mtape, .int (nI Itaped), .int (nI Ifault), .int IfaultPlace, .int (nI Iat), .int (nI Isize), .int Isort, .int Iplace, .int Inumber, .long Iword, .ref MnName, .ref MnStep, .ref MnArg, .ref MnMany, .ref Mstep, .ref Marg, .ref Mmany, .ref Mopen, .ref Mvalues, .ref MnHasForm, .ref MhasForm, .int (nI Iform), .int (nI Iopens), .int (nI InUnits), .int Iunits, .int (nI IownUnits), .int (nI Ideep), .ref Masks, .ref MnLoud, .ref MnCliffAt, .ref MnSnow, .ref MnManAt, .ref MnVoice, .ref MnOn, .ref Mloud, .ref McliffAt, .ref MsnowTold, .ref MmanAt, .ref Mvoice, .ref Mon, .ref MnYes, .ref Myes, .int (nI InWords), .int (nI InCliffs), .int (nI InMen), .int (nI InStates), .int (nI InOns), .int InWind, .int InDraw, .int (nI Iwords), .int (nI Icliffs), .int (nI Imen), .int (nI Istates), .int Ions, .int IwindTold, .int InHasWind, .int InHasDraw, .ref Mnow, .ref Mcry, .ref Msnow, .ref Mecho, .int (nI IcryMany), .int IcallPlace, .int IcallVoice, .int Iwind, .int Ichance, .int (nI IechoMany), .ref Mwere, .int (nI Iacts), .int (nI Iundone), .ref Mlies, .int (nI Ilain), .ref Mspots, .ref Msteps, .ref MfromState, .ref MbyWord, .ref Mqueue, .ref MsoundCliff, .ref MsoundLong, .ref MsoundCame, .ref MsoundTold, .ref MsoundUntold, .int (nI Isounds), .int Itime, .ref Mstands, .int IstandMany, .ref Mtally, .ref MhasBox, .ref Mboxes], wI (cy 1) Mopen 160 (Gopen)]) := by
  refine XMi.start (by decide) (Nat.le_of_ble_eq_true rfl) ?_
  intro p e s m below meth c args A ls Q hat hQ
  obtain ⟨hx, hb, hr, hml, hown, hg, hlocks, hin, hK, hA, hP, hD, hS, hE, hl⟩ := hat
  have hown : s.vm.findClass RX12 = some m.cls := hown
  have hl : lv_has ls 2 [(0, .ref m0)] := hl
  refine lv_aload_n hx hb dX12_hasRelation_0 rfl (lv_at hl 0 rfl) ?_
  refine va_get (D := D) (ci := 12) (v := .int (nI Iopens)) (C := RX12) (T := TX12) (N := 89) hx hb hg i_X12 hown hK hP 0 rfl rfl 22 (by decide) (hg _ m_1435) (fun _ h9 => h9) rfl dX12_hasRelation_1 ?_
  refine lv_iconst (v := 1) hx hb dX12_hasRelation_4 (by decide) ?_
  refine lv_isub hx hb dX12_hasRelation_5 ?_
  refine lv_topi (fun x_1 ex_1 => ?_)
  refine lv_istore_n (lv' := [(1, .int x_1), (0, .ref m0)]) hx hb dX12_hasRelation_6 rfl hl (by decide) rfl (fun ls hl => ?_)
  have loop2 : ∀ (zn : Nat) (iv2 : Int32) (x2 : Nat), (iv2 = nI x2 - 1) → (x2 ≤ Iopens) → (hrl (stk Gopen x2) = hrl (stk Gopen Iopens)) → x2 + 1 ≤ zn → ∀ (H : Heap) (locs : List Loc), va_P D vwCl [wO m0 12 [.ref Mtape, .int (nI Itaped), .int (nI Ifault), .int IfaultPlace, .int (nI Iat), .int (nI Isize), .int Isort, .int Iplace, .int Inumber, .long Iword, .ref MnName, .ref MnStep, .ref MnArg, .ref MnMany, .ref Mstep, .ref Marg, .ref Mmany, .ref Mopen, .ref Mvalues, .ref MnHasForm, .ref MhasForm, .int (nI Iform), .int (nI Iopens), .int (nI InUnits), .int Iunits, .int (nI IownUnits), .int (nI Ideep), .ref Masks, .ref MnLoud, .ref MnCliffAt, .ref MnSnow, .ref MnManAt, .ref MnVoice, .ref MnOn, .ref Mloud, .ref McliffAt, .ref MsnowTold, .ref MmanAt, .ref Mvoice, .ref Mon, .ref MnYes, .ref Myes, .int (nI InWords), .int (nI InCliffs), .int (nI InMen), .int (nI InStates), .int (nI InOns), .int InWind, .int InDraw, .int (nI Iwords), .int (nI Icliffs), .int (nI Imen), .int (nI Istates), .int Ions, .int IwindTold, .int InHasWind, .int InHasDraw, .ref Mnow, .ref Mcry, .ref Msnow, .ref Mecho, .int (nI IcryMany), .int IcallPlace, .int IcallVoice, .int Iwind, .int Ichance, .int (nI IechoMany), .ref Mwere, .int (nI Iacts), .int (nI Iundone), .ref Mlies, .int (nI Ilain), .ref Mspots, .ref Msteps, .ref MfromState, .ref MbyWord, .ref Mqueue, .ref MsoundCliff, .ref MsoundLong, .ref MsoundCame, .ref MsoundTold, .ref MsoundUntold, .int (nI Isounds), .int Itime, .ref Mstands, .int IstandMany, .ref Mtally, .ref MhasBox, .ref Mboxes], wI (cy 1) Mopen 160 (Gopen)] H → va_D A [wO m0 12 [.ref Mtape, .int (nI Itaped), .int (nI Ifault), .int IfaultPlace, .int (nI Iat), .int (nI Isize), .int Isort, .int Iplace, .int Inumber, .long Iword, .ref MnName, .ref MnStep, .ref MnArg, .ref MnMany, .ref Mstep, .ref Marg, .ref Mmany, .ref Mopen, .ref Mvalues, .ref MnHasForm, .ref MhasForm, .int (nI Iform), .int (nI Iopens), .int (nI InUnits), .int Iunits, .int (nI IownUnits), .int (nI Ideep), .ref Masks, .ref MnLoud, .ref MnCliffAt, .ref MnSnow, .ref MnManAt, .ref MnVoice, .ref MnOn, .ref Mloud, .ref McliffAt, .ref MsnowTold, .ref MmanAt, .ref Mvoice, .ref Mon, .ref MnYes, .ref Myes, .int (nI InWords), .int (nI InCliffs), .int (nI InMen), .int (nI InStates), .int (nI InOns), .int InWind, .int InDraw, .int (nI Iwords), .int (nI Icliffs), .int (nI Imen), .int (nI Istates), .int Ions, .int IwindTold, .int InHasWind, .int InHasDraw, .ref Mnow, .ref Mcry, .ref Msnow, .ref Mecho, .int (nI IcryMany), .int IcallPlace, .int IcallVoice, .int Iwind, .int Ichance, .int (nI IechoMany), .ref Mwere, .int (nI Iacts), .int (nI Iundone), .ref Mlies, .int (nI Ilain), .ref Mspots, .ref Msteps, .ref MfromState, .ref MbyWord, .ref Mqueue, .ref MsoundCliff, .ref MsoundLong, .ref MsoundCame, .ref MsoundTold, .ref MsoundUntold, .int (nI Isounds), .int Itime, .ref Mstands, .int IstandMany, .ref Mtally, .ref MhasBox, .ref Mboxes], wI (cy 1) Mopen 160 (Gopen)] → va_S A s.heap H locs → ∀ ls : Array Slot, lv_has ls 2 [(1, .int iv2), (0, .ref m0)] → W p l e (rmk 1 0 0) s m args below meth c H locs 0 0 Q (F0 m 7 ls []) := by
    try clear hP hD hS
    intro zn
    induction zn with
    | zero => intro iv2 x2 _ _ _ hz; exact absurd hz (by omega)
    | succ zn ih2 =>
      intro iv2 x2 hf0_2 hf1_2 hf2_2 hmu2 H locs hP hD hS ls hl
      refine lv_iload_n hx hb dX12_hasRelation_7 rfl (lv_at hl 0 rfl) ?_
      refine lv_if_lt (tgt := 41) hx hb dX12_hasRelation_8 (by decide) (fun c_8 => ?_) (fun c_8 => ?_)
      · refine lv_iload_n hx hb dX12_hasRelation_41 rfl (lv_at hl 0 rfl) ?_
        refine lv_if_lt (tgt := 73) hx hb dX12_hasRelation_42 (by decide) (fun _ => ?_) (fun h => absurd c_8 h)
        refine lv_iconst (v := 0) hx hb dX12_hasRelation_73 (by decide) ?_
        exact x_zret hQ hx hb hr hlocks hK hP hD hS rfl dX12_hasRelation_74 () ((show ((0 : Int32) = 1 ∧ (hrl (stk Gopen Iopens) = true)) ∨ ((0 : Int32) = 0 ∧ (hrl (stk Gopen Iopens) = false)) from Or.inr (⟨rfl, (hf2_2.symm.trans (hrl_0 (x0_of hf0_2 c_8 (by omega))))⟩))) [0, 1] (by decide +kernel) rfl (Nat.le_of_ble_eq_true rfl) (Nat.le_of_ble_eq_true rfl)
      · have hx1 : 1 ≤ x2 := by rcases Nat.eq_zero_or_pos x2 with h | h; exact absurd (by rw [hf0_2, h]; decide) c_8; exact h
        have hiv : iv2 = nI (x2 - 1) := by rw [hf0_2]; have h8 := nI_pred (x2 - 1); rwa [Nat.sub_add_cancel hx1] at h8
        subst hiv
        refine lv_aload_n hx hb dX12_hasRelation_11 rfl (lv_at hl 1 rfl) ?_
        refine va_get (D := D) (ci := 12) (v := .ref Mopen) (C := RX12) (T := TX12) (N := 89) hx hb hg i_X12 hown hK hP 0 rfl rfl 17 (by decide) (hg _ m_1430) (fun _ h9 => h9) rfl dX12_hasRelation_12 ?_
        refine lv_iload_n hx hb dX12_hasRelation_15 rfl (lv_at hl 0 rfl) ?_
        refine va_iald hx hb hK hP 1 1 rfl rfl (vp_in_nI (by omega) (by decide)) dX12_hasRelation_16 ?_
        refine lv_topi (fun x_3 ex_3 => ?_)
        refine lv_bipush (v := 20) hx hb dX12_hasRelation_17 (by decide) ?_
        refine lv_icmp_eq (tgt := 41) hx hb dX12_hasRelation_19 (by decide) (fun c_19 => ?_) (fun c_19 => ?_)
        · refine lv_iload_n hx hb dX12_hasRelation_41 rfl (lv_at hl 0 rfl) ?_
          refine lv_if_lt (tgt := 73) hx hb dX12_hasRelation_42 (by decide) (fun c_42 => ?_) (fun c_42 => ?_)
          · refine lv_iconst (v := 0) hx hb dX12_hasRelation_73 (by decide) ?_
            exact x_zret hQ hx hb hr hlocks hK hP hD hS rfl dX12_hasRelation_74 () ((show ((0 : Int32) = 1 ∧ (hrl (stk Gopen Iopens) = true)) ∨ ((0 : Int32) = 0 ∧ (hrl (stk Gopen Iopens) = false)) from Or.inr (⟨rfl, (absurd c_42 (nI_pos (by omega)))⟩))) [0, 1] (by decide +kernel) rfl (Nat.le_of_ble_eq_true rfl) (Nat.le_of_ble_eq_true rfl)
          · refine lv_aload_n hx hb dX12_hasRelation_45 rfl (lv_at hl 1 rfl) ?_
            refine va_get (D := D) (ci := 12) (v := .ref Mopen) (C := RX12) (T := TX12) (N := 89) hx hb hg i_X12 hown hK hP 0 rfl rfl 17 (by decide) (hg _ m_1430) (fun _ h9 => h9) rfl dX12_hasRelation_46 ?_
            refine lv_iload_n hx hb dX12_hasRelation_49 rfl (lv_at hl 0 rfl) ?_
            refine va_iald hx hb hK hP 1 1 rfl rfl (vp_in_nI (by omega) (by decide)) dX12_hasRelation_50 ?_
            refine lv_topi (fun x_4 ex_4 => ?_)
            refine lv_bipush (v := 20) hx hb dX12_hasRelation_51 (by decide) ?_
            refine lv_icmp_eq (tgt := 73) hx hb dX12_hasRelation_53 (by decide) (fun _ => ?_) (fun h => absurd (ex_4.trans (ex_3.symm.trans c_19)) h)
            refine lv_iconst (v := 0) hx hb dX12_hasRelation_73 (by decide) ?_
            exact x_zret hQ hx hb hr hlocks hK hP hD hS rfl dX12_hasRelation_74 () ((show ((0 : Int32) = 1 ∧ (hrl (stk Gopen Iopens) = true)) ∨ ((0 : Int32) = 0 ∧ (hrl (stk Gopen Iopens) = false)) from Or.inr (⟨rfl, (hf2_2.symm.trans (hrl_20 (by omega) (top_eq (by omega) ex_3 c_19)))⟩))) [0, 1] (by decide +kernel) rfl (Nat.le_of_ble_eq_true rfl) (Nat.le_of_ble_eq_true rfl)
        · refine lv_aload_n hx hb dX12_hasRelation_22 rfl (lv_at hl 1 rfl) ?_
          refine va_get (D := D) (ci := 12) (v := .ref Mopen) (C := RX12) (T := TX12) (N := 89) hx hb hg i_X12 hown hK hP 0 rfl rfl 17 (by decide) (hg _ m_1430) (fun _ h9 => h9) rfl dX12_hasRelation_23 ?_
          refine lv_iload_n hx hb dX12_hasRelation_26 rfl (lv_at hl 0 rfl) ?_
          refine va_iald hx hb hK hP 1 1 rfl rfl (vp_in_nI (by omega) (by decide)) dX12_hasRelation_27 ?_
          refine lv_topi (fun x_5 ex_5 => ?_)
          refine x_callSi (wr := [wO m0 12 [.ref Mtape, .int (nI Itaped), .int (nI Ifault), .int IfaultPlace, .int (nI Iat), .int (nI Isize), .int Isort, .int Iplace, .int Inumber, .long Iword, .ref MnName, .ref MnStep, .ref MnArg, .ref MnMany, .ref Mstep, .ref Marg, .ref Mmany, .ref Mopen, .ref Mvalues, .ref MnHasForm, .ref MhasForm, .int (nI Iform), .int (nI Iopens), .int (nI InUnits), .int Iunits, .int (nI IownUnits), .int (nI Ideep), .ref Masks, .ref MnLoud, .ref MnCliffAt, .ref MnSnow, .ref MnManAt, .ref MnVoice, .ref MnOn, .ref Mloud, .ref McliffAt, .ref MsnowTold, .ref MmanAt, .ref Mvoice, .ref Mon, .ref MnYes, .ref Myes, .int (nI InWords), .int (nI InCliffs), .int (nI InMen), .int (nI InStates), .int (nI InOns), .int InWind, .int InDraw, .int (nI Iwords), .int (nI Icliffs), .int (nI Imen), .int (nI Istates), .int Ions, .int IwindTold, .int InHasWind, .int InHasDraw, .ref Mnow, .ref Mcry, .ref Msnow, .ref Mecho, .int (nI IcryMany), .int IcallPlace, .int IcallVoice, .int Iwind, .int Ichance, .int (nI IechoMany), .ref Mwere, .int (nI Iacts), .int (nI Iundone), .ref Mlies, .int (nI Ilain), .ref Mspots, .ref Msteps, .ref MfromState, .ref MbyWord, .ref Mqueue, .ref MsoundCliff, .ref MsoundLong, .ref MsoundCame, .ref MsoundTold, .ref MsoundUntold, .int (nI Isounds), .int Itime, .ref Mstands, .int IstandMany, .ref Mtally, .ref MhasBox, .ref Mboxes], wI (cy 1) Mopen 160 (Gopen)]) (rest := []) ⟨hx, hb, hml, hown, hg, hl.1⟩ k_X12_286 (r_tight l D cy x_5) E0_blind hK hP hD hS hA [] [0, 1] ⟨rfl, rfl, by decide +kernel, by decide +kernel, by decide +kernel⟩ (fun _ _ _ => trivial) dX12_hasRelation_28 rfl rfl (Nat.le_of_ble_eq_true rfl) ⟨Nat.le_of_ble_eq_true rfl, Nat.le_of_ble_eq_true rfl⟩ ⟨Nat.le_of_ble_eq_true rfl, Nat.le_of_ble_eq_true rfl⟩ (fun zr6 zu6 H locs hw6 hP9 hD9 hS9 => ?_)
          clear hP hD hS
          obtain ⟨k_7, rfl⟩ : ∃ z, z = zu6 := ⟨_, rfl⟩
          refine reW [wO m0 12 [.ref Mtape, .int (nI Itaped), .int (nI Ifault), .int IfaultPlace, .int (nI Iat), .int (nI Isize), .int Isort, .int Iplace, .int Inumber, .long Iword, .ref MnName, .ref MnStep, .ref MnArg, .ref MnMany, .ref Mstep, .ref Marg, .ref Mmany, .ref Mopen, .ref Mvalues, .ref MnHasForm, .ref MhasForm, .int (nI Iform), .int (nI Iopens), .int (nI InUnits), .int Iunits, .int (nI IownUnits), .int (nI Ideep), .ref Masks, .ref MnLoud, .ref MnCliffAt, .ref MnSnow, .ref MnManAt, .ref MnVoice, .ref MnOn, .ref Mloud, .ref McliffAt, .ref MsnowTold, .ref MmanAt, .ref Mvoice, .ref Mon, .ref MnYes, .ref Myes, .int (nI InWords), .int (nI InCliffs), .int (nI InMen), .int (nI InStates), .int (nI InOns), .int InWind, .int InDraw, .int (nI Iwords), .int (nI Icliffs), .int (nI Imen), .int (nI Istates), .int Ions, .int IwindTold, .int InHasWind, .int InHasDraw, .ref Mnow, .ref Mcry, .ref Msnow, .ref Mecho, .int (nI IcryMany), .int IcallPlace, .int IcallVoice, .int Iwind, .int Ichance, .int (nI IechoMany), .ref Mwere, .int (nI Iacts), .int (nI Iundone), .ref Mlies, .int (nI Ilain), .ref Mspots, .ref Msteps, .ref MfromState, .ref MbyWord, .ref Mqueue, .ref MsoundCliff, .ref MsoundLong, .ref MsoundCame, .ref MsoundTold, .ref MsoundUntold, .int (nI Isounds), .int Itime, .ref Mstands, .int IstandMany, .ref Mtally, .ref MhasBox, .ref Mboxes], wI (cy 1) Mopen 160 (Gopen)] hP9 hD9 hS9 (fun hP hD hS => ?_)
          clear hP9 hD9 hS9
          refine W.widen (k := 0) (n := 0) (Nat.le_of_ble_eq_true rfl) (Nat.le_of_ble_eq_true rfl) ?_
          replace hw6 : (zr6 = nI k_7) ∧ (1 ≤ k_7 ∧ k_7 ≤ 6) ∧ (k_7 = tgt x_5) := hw6
          obtain ⟨f_8, f_9, f_10⟩ := hw6
          subst f_8
          refine lv_iconst (v := 4) hx hb dX12_hasRelation_31 (by decide) ?_
          refine lv_icmp_le (tgt := 41) hx hb dX12_hasRelation_32 (by decide) (fun c_11 => ?_) (fun c_11 => ?_)
          · have q_12 : k_7 ≤ 4 := q_le (a := k_7) (b := 4) rfl rfl (by omega) (by omega) c_11
            refine lv_iload_n hx hb dX12_hasRelation_41 rfl (lv_at hl 0 rfl) ?_
            refine lv_if_lt (tgt := 73) hx hb dX12_hasRelation_42 (by decide) (fun c_42 => ?_) (fun c_42 => ?_)
            · refine lv_iconst (v := 0) hx hb dX12_hasRelation_73 (by decide) ?_
              exact x_zret hQ hx hb hr hlocks hK hP hD hS rfl dX12_hasRelation_74 () ((show ((0 : Int32) = 1 ∧ (hrl (stk Gopen Iopens) = true)) ∨ ((0 : Int32) = 0 ∧ (hrl (stk Gopen Iopens) = false)) from Or.inr (⟨rfl, (absurd c_42 (nI_pos (by omega)))⟩))) [0, 1] (by decide +kernel) rfl (Nat.le_of_ble_eq_true rfl) (Nat.le_of_ble_eq_true rfl)
            · refine lv_aload_n hx hb dX12_hasRelation_45 rfl (lv_at hl 1 rfl) ?_
              refine va_get (D := D) (ci := 12) (v := .ref Mopen) (C := RX12) (T := TX12) (N := 89) hx hb hg i_X12 hown hK hP 0 rfl rfl 17 (by decide) (hg _ m_1430) (fun _ h9 => h9) rfl dX12_hasRelation_46 ?_
              refine lv_iload_n hx hb dX12_hasRelation_49 rfl (lv_at hl 0 rfl) ?_
              refine va_iald hx hb hK hP 1 1 rfl rfl (vp_in_nI (by omega) (by decide)) dX12_hasRelation_50 ?_
              refine lv_topi (fun x_13 ex_13 => ?_)
              refine lv_bipush (v := 20) hx hb dX12_hasRelation_51 (by decide) ?_
              refine lv_icmp_eq (tgt := 73) hx hb dX12_hasRelation_53 (by decide) (fun h => absurd h (fun h9 => c_19 (ex_3.trans (ex_13.symm.trans h9)))) (fun _ => ?_)
              refine lv_aload_n hx hb dX12_hasRelation_56 rfl (lv_at hl 1 rfl) ?_
              refine va_get (D := D) (ci := 12) (v := .ref Mopen) (C := RX12) (T := TX12) (N := 89) hx hb hg i_X12 hown hK hP 0 rfl rfl 17 (by decide) (hg _ m_1430) (fun _ h9 => h9) rfl dX12_hasRelation_57 ?_
              refine lv_iload_n hx hb dX12_hasRelation_60 rfl (lv_at hl 0 rfl) ?_
              refine va_iald hx hb hK hP 1 1 rfl rfl (vp_in_nI (by omega) (by decide)) dX12_hasRelation_61 ?_
              refine lv_topi (fun x_14 ex_14 => ?_)
              refine x_callSi (wr := [wO m0 12 [.ref Mtape, .int (nI Itaped), .int (nI Ifault), .int IfaultPlace, .int (nI Iat), .int (nI Isize), .int Isort, .int Iplace, .int Inumber, .long Iword, .ref MnName, .ref MnStep, .ref MnArg, .ref MnMany, .ref Mstep, .ref Marg, .ref Mmany, .ref Mopen, .ref Mvalues, .ref MnHasForm, .ref MhasForm, .int (nI Iform), .int (nI Iopens), .int (nI InUnits), .int Iunits, .int (nI IownUnits), .int (nI Ideep), .ref Masks, .ref MnLoud, .ref MnCliffAt, .ref MnSnow, .ref MnManAt, .ref MnVoice, .ref MnOn, .ref Mloud, .ref McliffAt, .ref MsnowTold, .ref MmanAt, .ref Mvoice, .ref Mon, .ref MnYes, .ref Myes, .int (nI InWords), .int (nI InCliffs), .int (nI InMen), .int (nI InStates), .int (nI InOns), .int InWind, .int InDraw, .int (nI Iwords), .int (nI Icliffs), .int (nI Imen), .int (nI Istates), .int Ions, .int IwindTold, .int InHasWind, .int InHasDraw, .ref Mnow, .ref Mcry, .ref Msnow, .ref Mecho, .int (nI IcryMany), .int IcallPlace, .int IcallVoice, .int Iwind, .int Ichance, .int (nI IechoMany), .ref Mwere, .int (nI Iacts), .int (nI Iundone), .ref Mlies, .int (nI Ilain), .ref Mspots, .ref Msteps, .ref MfromState, .ref MbyWord, .ref Mqueue, .ref MsoundCliff, .ref MsoundLong, .ref MsoundCame, .ref MsoundTold, .ref MsoundUntold, .int (nI Isounds), .int Itime, .ref Mstands, .int IstandMany, .ref Mtally, .ref MhasBox, .ref Mboxes], wI (cy 1) Mopen 160 (Gopen)]) (rest := []) ⟨hx, hb, hml, hown, hg, hl.1⟩ k_X12_286 (r_tight l D cy x_14) E0_blind hK hP hD hS hA [] [0, 1] ⟨rfl, rfl, by decide +kernel, by decide +kernel, by decide +kernel⟩ (fun _ _ _ => trivial) dX12_hasRelation_62 rfl rfl (Nat.le_of_ble_eq_true rfl) ⟨Nat.le_of_ble_eq_true rfl, Nat.le_of_ble_eq_true rfl⟩ ⟨Nat.le_of_ble_eq_true rfl, Nat.le_of_ble_eq_true rfl⟩ (fun zr15 zu15 H locs hw15 hP9 hD9 hS9 => ?_)
              clear hP hD hS
              obtain ⟨k_16, rfl⟩ : ∃ z, z = zu15 := ⟨_, rfl⟩
              refine reW [wO m0 12 [.ref Mtape, .int (nI Itaped), .int (nI Ifault), .int IfaultPlace, .int (nI Iat), .int (nI Isize), .int Isort, .int Iplace, .int Inumber, .long Iword, .ref MnName, .ref MnStep, .ref MnArg, .ref MnMany, .ref Mstep, .ref Marg, .ref Mmany, .ref Mopen, .ref Mvalues, .ref MnHasForm, .ref MhasForm, .int (nI Iform), .int (nI Iopens), .int (nI InUnits), .int Iunits, .int (nI IownUnits), .int (nI Ideep), .ref Masks, .ref MnLoud, .ref MnCliffAt, .ref MnSnow, .ref MnManAt, .ref MnVoice, .ref MnOn, .ref Mloud, .ref McliffAt, .ref MsnowTold, .ref MmanAt, .ref Mvoice, .ref Mon, .ref MnYes, .ref Myes, .int (nI InWords), .int (nI InCliffs), .int (nI InMen), .int (nI InStates), .int (nI InOns), .int InWind, .int InDraw, .int (nI Iwords), .int (nI Icliffs), .int (nI Imen), .int (nI Istates), .int Ions, .int IwindTold, .int InHasWind, .int InHasDraw, .ref Mnow, .ref Mcry, .ref Msnow, .ref Mecho, .int (nI IcryMany), .int IcallPlace, .int IcallVoice, .int Iwind, .int Ichance, .int (nI IechoMany), .ref Mwere, .int (nI Iacts), .int (nI Iundone), .ref Mlies, .int (nI Ilain), .ref Mspots, .ref Msteps, .ref MfromState, .ref MbyWord, .ref Mqueue, .ref MsoundCliff, .ref MsoundLong, .ref MsoundCame, .ref MsoundTold, .ref MsoundUntold, .int (nI Isounds), .int Itime, .ref Mstands, .int IstandMany, .ref Mtally, .ref MhasBox, .ref Mboxes], wI (cy 1) Mopen 160 (Gopen)] hP9 hD9 hS9 (fun hP hD hS => ?_)
              clear hP9 hD9 hS9
              refine W.widen (k := 0) (n := 0) (Nat.le_of_ble_eq_true rfl) (Nat.le_of_ble_eq_true rfl) ?_
              replace hw15 : (zr15 = nI k_16) ∧ (1 ≤ k_16 ∧ k_16 ≤ 6) ∧ (k_16 = tgt x_14) := hw15
              obtain ⟨f_17, f_18, f_19⟩ := hw15
              subst f_17
              refine lv_iconst (v := 4) hx hb dX12_hasRelation_65 (by decide) ?_
              refine lv_icmp_ne (tgt := 73) hx hb dX12_hasRelation_66 (by decide) (fun c_20 => ?_) (fun c_20 => ?_)
              · have q_21 : ¬ k_16 = 4 := q_ne (a := k_16) (b := 4) rfl rfl (by omega) (by omega) c_20
                refine lv_iconst (v := 0) hx hb dX12_hasRelation_73 (by decide) ?_
                exact x_zret hQ hx hb hr hlocks hK hP hD hS rfl dX12_hasRelation_74 () ((show ((0 : Int32) = 1 ∧ (hrl (stk Gopen Iopens) = true)) ∨ ((0 : Int32) = 0 ∧ (hrl (stk Gopen Iopens) = false)) from Or.inr (⟨rfl, (hf2_2.symm.trans (hrl_n (by omega) (top_ne (by omega) ex_3 c_19) (by have h7 := tgt_top (by omega) ex_14 f_19; have h8 := tgt_top (by omega) ex_5 f_10; omega)))⟩))) [0, 1] (by decide +kernel) rfl (Nat.le_of_ble_eq_true rfl) (Nat.le_of_ble_eq_true rfl)
              · have q_21 : k_16 = 4 := q_eq (a := k_16) (b := 4) rfl rfl (by omega) (by omega) c_20
                refine lv_iconst (v := 1) hx hb dX12_hasRelation_69 (by decide) ?_
                refine lv_goto (tgt := 74) hx hb dX12_hasRelation_70 (by decide) ?_
                exact x_zret hQ hx hb hr hlocks hK hP hD hS rfl dX12_hasRelation_74 () ((show ((1 : Int32) = 1 ∧ (hrl (stk Gopen Iopens) = true)) ∨ ((1 : Int32) = 0 ∧ (hrl (stk Gopen Iopens) = false)) from Or.inl ⟨rfl, (hf2_2.symm.trans (hrl_y (by omega) (top_ne (by omega) ex_3 c_19) (by rw [tgt_top (by omega) ex_14 f_19]; omega)))⟩)) [0, 1] (by decide +kernel) rfl (Nat.le_of_ble_eq_true rfl) (Nat.le_of_ble_eq_true rfl)
          · have q_12 : 4 < k_7 := q_nle (a := k_7) (b := 4) rfl rfl (by omega) (by omega) c_11
            obtain ⟨x_22, ex_22⟩ : ∃ y : Int32, nI (x2 - 1) + Int32.ofInt (-1) = y := ⟨_, rfl⟩
            refine lv_iinc (v := x_22) (lv' := [(1, .int x_22), (0, .ref m0)]) hx hb dX12_hasRelation_35 hl (k := 0) rfl ex_22 (by decide) rfl (fun ls hl => ?_)
            refine lv_goto (tgt := 7) hx hb dX12_hasRelation_38 (by decide) ?_
            exact ih2  x_22 (x2 - 1) (ex_22.symm.trans (addm1 _)) (by omega) ((hrl_go (by omega) (top_ne (by omega) ex_3 c_19) (by rw [tgt_top (by omega) ex_5 f_10]; omega)).trans hf2_2) (by omega) _ _ (hP.sub [0, 1] rfl) (hD.sub [0, 1] (by decide +kernel) rfl) hS ls (lv_sub hl [0, 1] rfl)
  exact loop2 _ x_1 Iopens (ex_1) (by omega) (rfl) (Nat.le_refl _) _ _ (hP.sub [0, 1] rfl) (hD.sub [0, 1] (by decide +kernel) rfl) hS ls (lv_sub hl [0, 1] rfl)
theorem gdX12_mayNot_0 : decode cX12_mayNot 0 = .ok (.aload_n 0, 1) ∧ decode cX12_mayNot 1 = .ok (.getfield 283, 3) ∧ decode cX12_mayNot 4 = .ok (.ifCond .eq 37, 3) ∧ decode cX12_mayNot 41 = .ok (.iconst 1, 1) ∧ decode cX12_mayNot 42 = .ok (.goto 4, 3) ∧ decode cX12_mayNot 46 = .ok (.ireturn, 1) ∧ decode cX12_mayNot 7 = .ok (.aload_n 0, 1) ∧ decode cX12_mayNot 8 = .ok (.getfield 39, 3) ∧ decode cX12_mayNot 11 = .ok (.aload_n 0, 1) ∧ decode cX12_mayNot 12 = .ok (.getfield 283, 3) ∧ decode cX12_mayNot 15 = .ok (.iconst 1, 1) ∧ decode cX12_mayNot 16 = .ok (.isub, 1) := by decide +kernel
theorem dX12_mayNot_0 : decode cX12_mayNot 0 = .ok (.aload_n 0, 1) := gdX12_mayNot_0.1
theorem dX12_mayNot_1 : decode cX12_mayNot 1 = .ok (.getfield 283, 3) := gdX12_mayNot_0.2.1
theorem dX12_mayNot_4 : decode cX12_mayNot 4 = .ok (.ifCond .eq 37, 3) := gdX12_mayNot_0.2.2.1
theorem dX12_mayNot_41 : decode cX12_mayNot 41 = .ok (.iconst 1, 1) := gdX12_mayNot_0.2.2.2.1
theorem dX12_mayNot_42 : decode cX12_mayNot 42 = .ok (.goto 4, 3) := gdX12_mayNot_0.2.2.2.2.1
theorem dX12_mayNot_46 : decode cX12_mayNot 46 = .ok (.ireturn, 1) := gdX12_mayNot_0.2.2.2.2.2.1
theorem dX12_mayNot_7 : decode cX12_mayNot 7 = .ok (.aload_n 0, 1) := gdX12_mayNot_0.2.2.2.2.2.2.1
theorem dX12_mayNot_8 : decode cX12_mayNot 8 = .ok (.getfield 39, 3) := gdX12_mayNot_0.2.2.2.2.2.2.2.1
theorem dX12_mayNot_11 : decode cX12_mayNot 11 = .ok (.aload_n 0, 1) := gdX12_mayNot_0.2.2.2.2.2.2.2.2.1
theorem dX12_mayNot_12 : decode cX12_mayNot 12 = .ok (.getfield 283, 3) := gdX12_mayNot_0.2.2.2.2.2.2.2.2.2.1
theorem dX12_mayNot_15 : decode cX12_mayNot 15 = .ok (.iconst 1, 1) := gdX12_mayNot_0.2.2.2.2.2.2.2.2.2.2.1
theorem dX12_mayNot_16 : decode cX12_mayNot 16 = .ok (.isub, 1) := gdX12_mayNot_0.2.2.2.2.2.2.2.2.2.2.2
theorem gdX12_mayNot_17 : decode cX12_mayNot 17 = .ok (.iaload, 1) ∧ decode cX12_mayNot 18 = .ok (.bipush 20, 2) ∧ decode cX12_mayNot 20 = .ok (.if_icmp .eq 21, 3) ∧ decode cX12_mayNot 23 = .ok (.aload_n 0, 1) ∧ decode cX12_mayNot 24 = .ok (.getfield 39, 3) ∧ decode cX12_mayNot 27 = .ok (.aload_n 0, 1) ∧ decode cX12_mayNot 28 = .ok (.getfield 283, 3) ∧ decode cX12_mayNot 31 = .ok (.iconst 1, 1) ∧ decode cX12_mayNot 32 = .ok (.isub, 1) ∧ decode cX12_mayNot 33 = .ok (.iaload, 1) ∧ decode cX12_mayNot 34 = .ok (.invokestatic 286, 3) ∧ decode cX12_mayNot 37 = .ok (.iconst 4, 1) := by decide +kernel
theorem dX12_mayNot_17 : decode cX12_mayNot 17 = .ok (.iaload, 1) := gdX12_mayNot_17.1
theorem dX12_mayNot_18 : decode cX12_mayNot 18 = .ok (.bipush 20, 2) := gdX12_mayNot_17.2.1
theorem dX12_mayNot_20 : decode cX12_mayNot 20 = .ok (.if_icmp .eq 21, 3) := gdX12_mayNot_17.2.2.1
theorem dX12_mayNot_23 : decode cX12_mayNot 23 = .ok (.aload_n 0, 1) := gdX12_mayNot_17.2.2.2.1
theorem dX12_mayNot_24 : decode cX12_mayNot 24 = .ok (.getfield 39, 3) := gdX12_mayNot_17.2.2.2.2.1
theorem dX12_mayNot_27 : decode cX12_mayNot 27 = .ok (.aload_n 0, 1) := gdX12_mayNot_17.2.2.2.2.2.1
theorem dX12_mayNot_28 : decode cX12_mayNot 28 = .ok (.getfield 283, 3) := gdX12_mayNot_17.2.2.2.2.2.2.1
theorem dX12_mayNot_31 : decode cX12_mayNot 31 = .ok (.iconst 1, 1) := gdX12_mayNot_17.2.2.2.2.2.2.2.1
theorem dX12_mayNot_32 : decode cX12_mayNot 32 = .ok (.isub, 1) := gdX12_mayNot_17.2.2.2.2.2.2.2.2.1
theorem dX12_mayNot_33 : decode cX12_mayNot 33 = .ok (.iaload, 1) := gdX12_mayNot_17.2.2.2.2.2.2.2.2.2.1
theorem dX12_mayNot_34 : decode cX12_mayNot 34 = .ok (.invokestatic 286, 3) := gdX12_mayNot_17.2.2.2.2.2.2.2.2.2.2.1
theorem dX12_mayNot_37 : decode cX12_mayNot 37 = .ok (.iconst 4, 1) := gdX12_mayNot_17.2.2.2.2.2.2.2.2.2.2.2
theorem dX12_mayNot_38 : decode cX12_mayNot 38 = .ok (.if_icmp .ge 7, 3) := by decide +kernel
theorem dX12_mayNot_45 : decode cX12_mayNot 45 = .ok (.iconst 0, 1) := by decide +kernel
set_option maxHeartbeats 1000000 in
set_option maxRecDepth 100000 in
theorem r_mayNot (l : Launch) (D : va_G) (cy : Nat → ClassId) (m0 : Nat) (Mtape : Nat) (MnName : Nat) (MnStep : Nat) (MnArg : Nat) (MnMany : Nat) (Mstep : Nat) (Marg : Nat) (Mmany : Nat) (Mopen : Nat) (Mvalues : Nat) (MnHasForm : Nat) (MhasForm : Nat) (Masks : Nat) (MnLoud : Nat) (MnCliffAt : Nat) (MnSnow : Nat) (MnManAt : Nat) (MnVoice : Nat) (MnOn : Nat) (Mloud : Nat) (McliffAt : Nat) (MsnowTold : Nat) (MmanAt : Nat) (Mvoice : Nat) (Mon : Nat) (MnYes : Nat) (Myes : Nat) (Mnow : Nat) (Mcry : Nat) (Msnow : Nat) (Mecho : Nat) (Mwere : Nat) (Mlies : Nat) (Mspots : Nat) (Msteps : Nat) (MfromState : Nat) (MbyWord : Nat) (Mqueue : Nat) (MsoundCliff : Nat) (MsoundLong : Nat) (MsoundCame : Nat) (MsoundTold : Nat) (MsoundUntold : Nat) (Mstands : Nat) (Mtally : Nat) (MhasBox : Nat) (Mboxes : Nat) (Itaped : Nat) (Ifault : Nat) (IfaultPlace : Int32) (Iat : Nat) (Isize : Nat) (Isort : Int32) (Iplace : Int32) (Inumber : Int32) (Iword : Int64) (Gopen : Nat → Int32) (Iform : Nat) (Iopens : Nat) (InUnits : Nat) (Iunits : Int32) (IownUnits : Nat) (Ideep : Nat) (InWords : Nat) (InCliffs : Nat) (InMen : Nat) (InStates : Nat) (InOns : Nat) (InWind : Int32) (InDraw : Int32) (Iwords : Nat) (Icliffs : Nat) (Imen : Nat) (Istates : Nat) (Ions : Int32) (IwindTold : Int32) (InHasWind : Int32) (InHasDraw : Int32) (IcryMany : Nat) (IcallPlace : Int32) (IcallVoice : Int32) (Iwind : Int32) (Ichance : Int32) (IechoMany : Nat) (Iacts : Nat) (Iundone : Nat) (Ilain : Nat) (Isounds : Nat) (Itime : Int32) (IstandMany : Int32) (gtp : Itaped ≤ 1600) (gat : Iat ≤ Isize) (gsz : Isize ≤ 1600) (gfl : Ifault ≤ 5) (gfo : Iform ≤ 2) (gnw : InWords ≤ 8) (gnc : InCliffs ≤ 4) (gnm : InMen ≤ 4) (gns : InStates ≤ 6) (gw : Iwords ≤ 8) (gc9 : Icliffs ≤ 4) (gm : Imen ≤ 4) (gs : Istates ≤ 6) (gcm : IcryMany ≤ 10) (gem : IechoMany ≤ 20) (gau : Iacts + Iundone ≤ 40) (gla : Ilain ≤ 20) (gso : Isounds ≤ 30) (gop : Iopens ≤ 40) (gde : Ideep ≤ 8) (gou : IownUnits ≤ 31) (gnu : InUnits ≤ 61) (gno : InOns ≤ 30) (hcd : cntD Gopen Iopens = Ideep) : XMi l D (tyL cy) E0 yX12_mayNot cX12_mayNot 1 (some .boolean) (rmk 1 0 0) [.ref m0] [wO m0 12 [.ref Mtape, .int (nI Itaped), .int (nI Ifault), .int IfaultPlace, .int (nI Iat), .int (nI Isize), .int Isort, .int Iplace, .int Inumber, .long Iword, .ref MnName, .ref MnStep, .ref MnArg, .ref MnMany, .ref Mstep, .ref Marg, .ref Mmany, .ref Mopen, .ref Mvalues, .ref MnHasForm, .ref MhasForm, .int (nI Iform), .int (nI Iopens), .int (nI InUnits), .int Iunits, .int (nI IownUnits), .int (nI Ideep), .ref Masks, .ref MnLoud, .ref MnCliffAt, .ref MnSnow, .ref MnManAt, .ref MnVoice, .ref MnOn, .ref Mloud, .ref McliffAt, .ref MsnowTold, .ref MmanAt, .ref Mvoice, .ref Mon, .ref MnYes, .ref Myes, .int (nI InWords), .int (nI InCliffs), .int (nI InMen), .int (nI InStates), .int (nI InOns), .int InWind, .int InDraw, .int (nI Iwords), .int (nI Icliffs), .int (nI Imen), .int (nI Istates), .int Ions, .int IwindTold, .int InHasWind, .int InHasDraw, .ref Mnow, .ref Mcry, .ref Msnow, .ref Mecho, .int (nI IcryMany), .int IcallPlace, .int IcallVoice, .int Iwind, .int Ichance, .int (nI IechoMany), .ref Mwere, .int (nI Iacts), .int (nI Iundone), .ref Mlies, .int (nI Ilain), .ref Mspots, .ref Msteps, .ref MfromState, .ref MbyWord, .ref Mqueue, .ref MsoundCliff, .ref MsoundLong, .ref MsoundCame, .ref MsoundTold, .ref MsoundUntold, .int (nI Isounds), .int Itime, .ref Mstands, .int IstandMany, .ref Mtally, .ref MhasBox, .ref Mboxes], wI (cy 1) Mopen 160 (Gopen)] (fun (r : Int32) (_ : Unit) => ((r = 1 ∧ (low 4 (stk Gopen Iopens) = true)) ∨ (r = 0 ∧ (¬ low 4 (stk Gopen Iopens) = true)))) (fun (_ : Unit) => [wO m0 12 [.ref Mtape, .int (nI Itaped), .int (nI Ifault), .int IfaultPlace, .int (nI Iat), .int (nI Isize), .int Isort, .int Iplace, .int Inumber, .long Iword, .ref MnName, .ref MnStep, .ref MnArg, .ref MnMany, .ref Mstep, .ref Marg, .ref Mmany, .ref Mopen, .ref Mvalues, .ref MnHasForm, .ref MhasForm, .int (nI Iform), .int (nI Iopens), .int (nI InUnits), .int Iunits, .int (nI IownUnits), .int (nI Ideep), .ref Masks, .ref MnLoud, .ref MnCliffAt, .ref MnSnow, .ref MnManAt, .ref MnVoice, .ref MnOn, .ref Mloud, .ref McliffAt, .ref MsnowTold, .ref MmanAt, .ref Mvoice, .ref Mon, .ref MnYes, .ref Myes, .int (nI InWords), .int (nI InCliffs), .int (nI InMen), .int (nI InStates), .int (nI InOns), .int InWind, .int InDraw, .int (nI Iwords), .int (nI Icliffs), .int (nI Imen), .int (nI Istates), .int Ions, .int IwindTold, .int InHasWind, .int InHasDraw, .ref Mnow, .ref Mcry, .ref Msnow, .ref Mecho, .int (nI IcryMany), .int IcallPlace, .int IcallVoice, .int Iwind, .int Ichance, .int (nI IechoMany), .ref Mwere, .int (nI Iacts), .int (nI Iundone), .ref Mlies, .int (nI Ilain), .ref Mspots, .ref Msteps, .ref MfromState, .ref MbyWord, .ref Mqueue, .ref MsoundCliff, .ref MsoundLong, .ref MsoundCame, .ref MsoundTold, .ref MsoundUntold, .int (nI Isounds), .int Itime, .ref Mstands, .int IstandMany, .ref Mtally, .ref MhasBox, .ref Mboxes], wI (cy 1) Mopen 160 (Gopen)]) := by
  refine XMi.start (by decide) (Nat.le_of_ble_eq_true rfl) ?_
  intro p e s m below meth c args A ls Q hat hQ
  obtain ⟨hx, hb, hr, hml, hown, hg, hlocks, hin, hK, hA, hP, hD, hS, hE, hl⟩ := hat
  have hown : s.vm.findClass RX12 = some m.cls := hown
  have hl : lv_has ls 1 [(0, .ref m0)] := hl
  refine lv_aload_n hx hb dX12_mayNot_0 rfl (lv_at hl 0 rfl) ?_
  refine va_get (D := D) (ci := 12) (v := .int (nI Iopens)) (C := RX12) (T := TX12) (N := 89) hx hb hg i_X12 hown hK hP 0 rfl rfl 22 (by decide) (hg _ m_1435) (fun _ h9 => h9) rfl dX12_mayNot_1 ?_
  refine lv_if_eq (tgt := 41) hx hb dX12_mayNot_4 (by decide) (fun c_1 => ?_) (fun c_1 => ?_)
  · have q_2 : Iopens = 0 := q_eq (a := Iopens) (b := 0) rfl rfl (by omega) (by omega) c_1
    refine lv_iconst (v := 1) hx hb dX12_mayNot_41 (by decide) ?_
    refine lv_goto (tgt := 46) hx hb dX12_mayNot_42 (by decide) ?_
    exact x_zret hQ hx hb hr hlocks hK hP hD hS rfl dX12_mayNot_46 () ((show ((1 : Int32) = 1 ∧ (low 4 (stk Gopen Iopens) = true)) ∨ ((1 : Int32) = 0 ∧ (¬ low 4 (stk Gopen Iopens) = true)) from Or.inl ⟨rfl, (low_0 (by omega))⟩)) [0, 1] (by decide +kernel) rfl (Nat.le_of_ble_eq_true rfl) (Nat.le_of_ble_eq_true rfl)
  · have q_2 : ¬ Iopens = 0 := q_ne (a := Iopens) (b := 0) rfl rfl (by omega) (by omega) c_1
    refine lv_aload_n hx hb dX12_mayNot_7 rfl (lv_at hl 0 rfl) ?_
    refine va_get (D := D) (ci := 12) (v := .ref Mopen) (C := RX12) (T := TX12) (N := 89) hx hb hg i_X12 hown hK hP 0 rfl rfl 17 (by decide) (hg _ m_1430) (fun _ h9 => h9) rfl dX12_mayNot_8 ?_
    refine lv_aload_n hx hb dX12_mayNot_11 rfl (lv_at hl 0 rfl) ?_
    refine va_get (D := D) (ci := 12) (v := .int (nI Iopens)) (C := RX12) (T := TX12) (N := 89) hx hb hg i_X12 hown hK hP 0 rfl rfl 22 (by decide) (hg _ m_1435) (fun _ h9 => h9) rfl dX12_mayNot_12 ?_
    refine lv_iconst (v := 1) hx hb dX12_mayNot_15 (by decide) ?_
    refine lv_isub hx hb dX12_mayNot_16 ?_
    refine lv_topi (fun y_3 hy_3 => ?_)
    obtain rfl : y_3 = nI (Iopens - 1) := hy_3.trans (pk_sub (a := Iopens) (b := 1) (by omega))
    refine va_iald hx hb hK hP 1 1 rfl rfl (vp_in_nI (by omega) (by decide)) dX12_mayNot_17 ?_
    refine lv_topi (fun x_4 ex_4 => ?_)
    refine lv_bipush (v := 20) hx hb dX12_mayNot_18 (by decide) ?_
    refine lv_icmp_eq (tgt := 41) hx hb dX12_mayNot_20 (by decide) (fun c_20 => ?_) (fun c_20 => ?_)
    · refine lv_iconst (v := 1) hx hb dX12_mayNot_41 (by decide) ?_
      refine lv_goto (tgt := 46) hx hb dX12_mayNot_42 (by decide) ?_
      exact x_zret hQ hx hb hr hlocks hK hP hD hS rfl dX12_mayNot_46 () ((show ((1 : Int32) = 1 ∧ (low 4 (stk Gopen Iopens) = true)) ∨ ((1 : Int32) = 0 ∧ (¬ low 4 (stk Gopen Iopens) = true)) from Or.inl ⟨rfl, (low_1 (by omega) (Or.inl (top_eq (by omega) ex_4 c_20)))⟩)) [0, 1] (by decide +kernel) rfl (Nat.le_of_ble_eq_true rfl) (Nat.le_of_ble_eq_true rfl)
    · refine lv_aload_n hx hb dX12_mayNot_23 rfl (lv_at hl 0 rfl) ?_
      refine va_get (D := D) (ci := 12) (v := .ref Mopen) (C := RX12) (T := TX12) (N := 89) hx hb hg i_X12 hown hK hP 0 rfl rfl 17 (by decide) (hg _ m_1430) (fun _ h9 => h9) rfl dX12_mayNot_24 ?_
      refine lv_aload_n hx hb dX12_mayNot_27 rfl (lv_at hl 0 rfl) ?_
      refine va_get (D := D) (ci := 12) (v := .int (nI Iopens)) (C := RX12) (T := TX12) (N := 89) hx hb hg i_X12 hown hK hP 0 rfl rfl 22 (by decide) (hg _ m_1435) (fun _ h9 => h9) rfl dX12_mayNot_28 ?_
      refine lv_iconst (v := 1) hx hb dX12_mayNot_31 (by decide) ?_
      refine lv_isub hx hb dX12_mayNot_32 ?_
      refine lv_topi (fun y_5 hy_5 => ?_)
      obtain rfl : y_5 = nI (Iopens - 1) := hy_5.trans (pk_sub (a := Iopens) (b := 1) (by omega))
      refine va_iald hx hb hK hP 1 1 rfl rfl (vp_in_nI (by omega) (by decide)) dX12_mayNot_33 ?_
      refine lv_topi (fun x_6 ex_6 => ?_)
      refine x_callSi (wr := [wO m0 12 [.ref Mtape, .int (nI Itaped), .int (nI Ifault), .int IfaultPlace, .int (nI Iat), .int (nI Isize), .int Isort, .int Iplace, .int Inumber, .long Iword, .ref MnName, .ref MnStep, .ref MnArg, .ref MnMany, .ref Mstep, .ref Marg, .ref Mmany, .ref Mopen, .ref Mvalues, .ref MnHasForm, .ref MhasForm, .int (nI Iform), .int (nI Iopens), .int (nI InUnits), .int Iunits, .int (nI IownUnits), .int (nI Ideep), .ref Masks, .ref MnLoud, .ref MnCliffAt, .ref MnSnow, .ref MnManAt, .ref MnVoice, .ref MnOn, .ref Mloud, .ref McliffAt, .ref MsnowTold, .ref MmanAt, .ref Mvoice, .ref Mon, .ref MnYes, .ref Myes, .int (nI InWords), .int (nI InCliffs), .int (nI InMen), .int (nI InStates), .int (nI InOns), .int InWind, .int InDraw, .int (nI Iwords), .int (nI Icliffs), .int (nI Imen), .int (nI Istates), .int Ions, .int IwindTold, .int InHasWind, .int InHasDraw, .ref Mnow, .ref Mcry, .ref Msnow, .ref Mecho, .int (nI IcryMany), .int IcallPlace, .int IcallVoice, .int Iwind, .int Ichance, .int (nI IechoMany), .ref Mwere, .int (nI Iacts), .int (nI Iundone), .ref Mlies, .int (nI Ilain), .ref Mspots, .ref Msteps, .ref MfromState, .ref MbyWord, .ref Mqueue, .ref MsoundCliff, .ref MsoundLong, .ref MsoundCame, .ref MsoundTold, .ref MsoundUntold, .int (nI Isounds), .int Itime, .ref Mstands, .int IstandMany, .ref Mtally, .ref MhasBox, .ref Mboxes], wI (cy 1) Mopen 160 (Gopen)]) (rest := []) ⟨hx, hb, hml, hown, hg, hl.1⟩ k_X12_286 (r_tight l D cy x_6) E0_blind hK hP hD hS hA [] [0, 1] ⟨rfl, rfl, by decide +kernel, by decide +kernel, by decide +kernel⟩ (fun _ _ _ => trivial) dX12_mayNot_34 rfl rfl (Nat.le_of_ble_eq_true rfl) ⟨Nat.le_of_ble_eq_true rfl, Nat.le_of_ble_eq_true rfl⟩ ⟨Nat.le_of_ble_eq_true rfl, Nat.le_of_ble_eq_true rfl⟩ (fun zr7 zu7 H locs hw7 hP9 hD9 hS9 => ?_)
      clear hP hD hS
      obtain ⟨k_8, rfl⟩ : ∃ z, z = zu7 := ⟨_, rfl⟩
      refine reW [wO m0 12 [.ref Mtape, .int (nI Itaped), .int (nI Ifault), .int IfaultPlace, .int (nI Iat), .int (nI Isize), .int Isort, .int Iplace, .int Inumber, .long Iword, .ref MnName, .ref MnStep, .ref MnArg, .ref MnMany, .ref Mstep, .ref Marg, .ref Mmany, .ref Mopen, .ref Mvalues, .ref MnHasForm, .ref MhasForm, .int (nI Iform), .int (nI Iopens), .int (nI InUnits), .int Iunits, .int (nI IownUnits), .int (nI Ideep), .ref Masks, .ref MnLoud, .ref MnCliffAt, .ref MnSnow, .ref MnManAt, .ref MnVoice, .ref MnOn, .ref Mloud, .ref McliffAt, .ref MsnowTold, .ref MmanAt, .ref Mvoice, .ref Mon, .ref MnYes, .ref Myes, .int (nI InWords), .int (nI InCliffs), .int (nI InMen), .int (nI InStates), .int (nI InOns), .int InWind, .int InDraw, .int (nI Iwords), .int (nI Icliffs), .int (nI Imen), .int (nI Istates), .int Ions, .int IwindTold, .int InHasWind, .int InHasDraw, .ref Mnow, .ref Mcry, .ref Msnow, .ref Mecho, .int (nI IcryMany), .int IcallPlace, .int IcallVoice, .int Iwind, .int Ichance, .int (nI IechoMany), .ref Mwere, .int (nI Iacts), .int (nI Iundone), .ref Mlies, .int (nI Ilain), .ref Mspots, .ref Msteps, .ref MfromState, .ref MbyWord, .ref Mqueue, .ref MsoundCliff, .ref MsoundLong, .ref MsoundCame, .ref MsoundTold, .ref MsoundUntold, .int (nI Isounds), .int Itime, .ref Mstands, .int IstandMany, .ref Mtally, .ref MhasBox, .ref Mboxes], wI (cy 1) Mopen 160 (Gopen)] hP9 hD9 hS9 (fun hP hD hS => ?_)
      clear hP9 hD9 hS9
      refine W.widen (k := 0) (n := 0) (Nat.le_of_ble_eq_true rfl) (Nat.le_of_ble_eq_true rfl) ?_
      replace hw7 : (zr7 = nI k_8) ∧ (1 ≤ k_8 ∧ k_8 ≤ 6) ∧ (k_8 = tgt x_6) := hw7
      obtain ⟨f_9, f_10, f_11⟩ := hw7
      subst f_9
      refine lv_iconst (v := 4) hx hb dX12_mayNot_37 (by decide) ?_
      refine lv_icmp_ge (tgt := 45) hx hb dX12_mayNot_38 (by decide) (fun c_12 => ?_) (fun c_12 => ?_)
      · have q_13 : 4 ≤ k_8 := q_le (a := 4) (b := k_8) rfl rfl (by omega) (by omega) c_12
        refine lv_iconst (v := 0) hx hb dX12_mayNot_45 (by decide) ?_
        exact x_zret hQ hx hb hr hlocks hK hP hD hS rfl dX12_mayNot_46 () ((show ((0 : Int32) = 1 ∧ (low 4 (stk Gopen Iopens) = true)) ∨ ((0 : Int32) = 0 ∧ (¬ low 4 (stk Gopen Iopens) = true)) from Or.inr (⟨rfl, (low_n (by omega) (top_ne (by omega) ex_4 c_20) (by rw [tgt_top (by omega) ex_6 f_11]; omega))⟩))) [0, 1] (by decide +kernel) rfl (Nat.le_of_ble_eq_true rfl) (Nat.le_of_ble_eq_true rfl)
      · have q_13 : k_8 < 4 := q_nle (a := 4) (b := k_8) rfl rfl (by omega) (by omega) c_12
        refine lv_iconst (v := 1) hx hb dX12_mayNot_41 (by decide) ?_
        refine lv_goto (tgt := 46) hx hb dX12_mayNot_42 (by decide) ?_
        exact x_zret hQ hx hb hr hlocks hK hP hD hS rfl dX12_mayNot_46 () ((show ((1 : Int32) = 1 ∧ (low 4 (stk Gopen Iopens) = true)) ∨ ((1 : Int32) = 0 ∧ (¬ low 4 (stk Gopen Iopens) = true)) from Or.inl ⟨rfl, (low_1 (by omega) (Or.inr (by rw [tgt_top (by omega) ex_6 f_11]; omega)))⟩)) [0, 1] (by decide +kernel) rfl (Nat.le_of_ble_eq_true rfl) (Nat.le_of_ble_eq_true rfl)
theorem gdX12_hasBracket_0 : decode cX12_hasBracket 0 = .ok (.iconst 0, 1) ∧ decode cX12_hasBracket 1 = .ok (.istore_n 1, 1) ∧ decode cX12_hasBracket 2 = .ok (.iconst 0, 1) ∧ decode cX12_hasBracket 3 = .ok (.istore_n 2, 1) ∧ decode cX12_hasBracket 4 = .ok (.iload_n 2, 1) ∧ decode cX12_hasBracket 5 = .ok (.aload_n 0, 1) ∧ decode cX12_hasBracket 6 = .ok (.getfield 283, 3) ∧ decode cX12_hasBracket 9 = .ok (.if_icmp .ge 30, 3) ∧ decode cX12_hasBracket 39 = .ok (.iload_n 1, 1) ∧ decode cX12_hasBracket 40 = .ok (.ireturn, 1) ∧ decode cX12_hasBracket 12 = .ok (.iload_n 1, 1) ∧ decode cX12_hasBracket 13 = .ok (.ifCond .ne 14, 3) := by decide +kernel
theorem dX12_hasBracket_0 : decode cX12_hasBracket 0 = .ok (.iconst 0, 1) := gdX12_hasBracket_0.1
theorem dX12_hasBracket_1 : decode cX12_hasBracket 1 = .ok (.istore_n 1, 1) := gdX12_hasBracket_0.2.1
theorem dX12_hasBracket_2 : decode cX12_hasBracket 2 = .ok (.iconst 0, 1) := gdX12_hasBracket_0.2.2.1
theorem dX12_hasBracket_3 : decode cX12_hasBracket 3 = .ok (.istore_n 2, 1) := gdX12_hasBracket_0.2.2.2.1
theorem dX12_hasBracket_4 : decode cX12_hasBracket 4 = .ok (.iload_n 2, 1) := gdX12_hasBracket_0.2.2.2.2.1
theorem dX12_hasBracket_5 : decode cX12_hasBracket 5 = .ok (.aload_n 0, 1) := gdX12_hasBracket_0.2.2.2.2.2.1
theorem dX12_hasBracket_6 : decode cX12_hasBracket 6 = .ok (.getfield 283, 3) := gdX12_hasBracket_0.2.2.2.2.2.2.1
theorem dX12_hasBracket_9 : decode cX12_hasBracket 9 = .ok (.if_icmp .ge 30, 3) := gdX12_hasBracket_0.2.2.2.2.2.2.2.1
theorem dX12_hasBracket_39 : decode cX12_hasBracket 39 = .ok (.iload_n 1, 1) := gdX12_hasBracket_0.2.2.2.2.2.2.2.2.1
theorem dX12_hasBracket_40 : decode cX12_hasBracket 40 = .ok (.ireturn, 1) := gdX12_hasBracket_0.2.2.2.2.2.2.2.2.2.1
theorem dX12_hasBracket_12 : decode cX12_hasBracket 12 = .ok (.iload_n 1, 1) := gdX12_hasBracket_0.2.2.2.2.2.2.2.2.2.2.1
theorem dX12_hasBracket_13 : decode cX12_hasBracket 13 = .ok (.ifCond .ne 14, 3) := gdX12_hasBracket_0.2.2.2.2.2.2.2.2.2.2.2
theorem gdX12_hasBracket_27 : decode cX12_hasBracket 27 = .ok (.iconst 1, 1) ∧ decode cX12_hasBracket 28 = .ok (.goto 4, 3) ∧ decode cX12_hasBracket 32 = .ok (.istore_n 1, 1) ∧ decode cX12_hasBracket 33 = .ok (.iinc 2 1, 3) ∧ decode cX12_hasBracket 36 = .ok (.goto (-32), 3) ∧ decode cX12_hasBracket 16 = .ok (.aload_n 0, 1) ∧ decode cX12_hasBracket 17 = .ok (.getfield 39, 3) ∧ decode cX12_hasBracket 20 = .ok (.iload_n 2, 1) ∧ decode cX12_hasBracket 21 = .ok (.iaload, 1) ∧ decode cX12_hasBracket 22 = .ok (.bipush 20, 2) ∧ decode cX12_hasBracket 24 = .ok (.if_icmp .ne 7, 3) ∧ decode cX12_hasBracket 31 = .ok (.iconst 0, 1) := by decide +kernel
theorem dX12_hasBracket_27 : decode cX12_hasBracket 27 = .ok (.iconst 1, 1) := gdX12_hasBracket_27.1
theorem dX12_hasBracket_28 : decode cX12_hasBracket 28 = .ok (.goto 4, 3) := gdX12_hasBracket_27.2.1
theorem dX12_hasBracket_32 : decode cX12_hasBracket 32 = .ok (.istore_n 1, 1) := gdX12_hasBracket_27.2.2.1
theorem dX12_hasBracket_33 : decode cX12_hasBracket 33 = .ok (.iinc 2 1, 3) := gdX12_hasBracket_27.2.2.2.1
theorem dX12_hasBracket_36 : decode cX12_hasBracket 36 = .ok (.goto (-32), 3) := gdX12_hasBracket_27.2.2.2.2.1
theorem dX12_hasBracket_16 : decode cX12_hasBracket 16 = .ok (.aload_n 0, 1) := gdX12_hasBracket_27.2.2.2.2.2.1
theorem dX12_hasBracket_17 : decode cX12_hasBracket 17 = .ok (.getfield 39, 3) := gdX12_hasBracket_27.2.2.2.2.2.2.1
theorem dX12_hasBracket_20 : decode cX12_hasBracket 20 = .ok (.iload_n 2, 1) := gdX12_hasBracket_27.2.2.2.2.2.2.2.1
theorem dX12_hasBracket_21 : decode cX12_hasBracket 21 = .ok (.iaload, 1) := gdX12_hasBracket_27.2.2.2.2.2.2.2.2.1
theorem dX12_hasBracket_22 : decode cX12_hasBracket 22 = .ok (.bipush 20, 2) := gdX12_hasBracket_27.2.2.2.2.2.2.2.2.2.1
theorem dX12_hasBracket_24 : decode cX12_hasBracket 24 = .ok (.if_icmp .ne 7, 3) := gdX12_hasBracket_27.2.2.2.2.2.2.2.2.2.2.1
theorem dX12_hasBracket_31 : decode cX12_hasBracket 31 = .ok (.iconst 0, 1) := gdX12_hasBracket_27.2.2.2.2.2.2.2.2.2.2.2
set_option maxHeartbeats 1000000 in
set_option maxRecDepth 100000 in
theorem r_hasBracket (l : Launch) (D : va_G) (cy : Nat → ClassId) (m0 : Nat) (Mtape : Nat) (MnName : Nat) (MnStep : Nat) (MnArg : Nat) (MnMany : Nat) (Mstep : Nat) (Marg : Nat) (Mmany : Nat) (Mopen : Nat) (Mvalues : Nat) (MnHasForm : Nat) (MhasForm : Nat) (Masks : Nat) (MnLoud : Nat) (MnCliffAt : Nat) (MnSnow : Nat) (MnManAt : Nat) (MnVoice : Nat) (MnOn : Nat) (Mloud : Nat) (McliffAt : Nat) (MsnowTold : Nat) (MmanAt : Nat) (Mvoice : Nat) (Mon : Nat) (MnYes : Nat) (Myes : Nat) (Mnow : Nat) (Mcry : Nat) (Msnow : Nat) (Mecho : Nat) (Mwere : Nat) (Mlies : Nat) (Mspots : Nat) (Msteps : Nat) (MfromState : Nat) (MbyWord : Nat) (Mqueue : Nat) (MsoundCliff : Nat) (MsoundLong : Nat) (MsoundCame : Nat) (MsoundTold : Nat) (MsoundUntold : Nat) (Mstands : Nat) (Mtally : Nat) (MhasBox : Nat) (Mboxes : Nat) (Itaped : Nat) (Ifault : Nat) (IfaultPlace : Int32) (Iat : Nat) (Isize : Nat) (Isort : Int32) (Iplace : Int32) (Inumber : Int32) (Iword : Int64) (Gopen : Nat → Int32) (Iform : Nat) (Iopens : Nat) (InUnits : Nat) (Iunits : Int32) (IownUnits : Nat) (Ideep : Nat) (InWords : Nat) (InCliffs : Nat) (InMen : Nat) (InStates : Nat) (InOns : Nat) (InWind : Int32) (InDraw : Int32) (Iwords : Nat) (Icliffs : Nat) (Imen : Nat) (Istates : Nat) (Ions : Int32) (IwindTold : Int32) (InHasWind : Int32) (InHasDraw : Int32) (IcryMany : Nat) (IcallPlace : Int32) (IcallVoice : Int32) (Iwind : Int32) (Ichance : Int32) (IechoMany : Nat) (Iacts : Nat) (Iundone : Nat) (Ilain : Nat) (Isounds : Nat) (Itime : Int32) (IstandMany : Int32) (gtp : Itaped ≤ 1600) (gat : Iat ≤ Isize) (gsz : Isize ≤ 1600) (gfl : Ifault ≤ 5) (gfo : Iform ≤ 2) (gnw : InWords ≤ 8) (gnc : InCliffs ≤ 4) (gnm : InMen ≤ 4) (gns : InStates ≤ 6) (gw : Iwords ≤ 8) (gc9 : Icliffs ≤ 4) (gm : Imen ≤ 4) (gs : Istates ≤ 6) (gcm : IcryMany ≤ 10) (gem : IechoMany ≤ 20) (gau : Iacts + Iundone ≤ 40) (gla : Ilain ≤ 20) (gso : Isounds ≤ 30) (gop : Iopens ≤ 40) (gde : Ideep ≤ 8) (gou : IownUnits ≤ 31) (gnu : InUnits ≤ 61) (gno : InOns ≤ 30) (hcd : cntD Gopen Iopens = Ideep) : XMi l D (tyL cy) E0 yX12_hasBracket cX12_hasBracket 3 (some .boolean) (rmk 0 0 0) [.ref m0] [wO m0 12 [.ref Mtape, .int (nI Itaped), .int (nI Ifault), .int IfaultPlace, .int (nI Iat), .int (nI Isize), .int Isort, .int Iplace, .int Inumber, .long Iword, .ref MnName, .ref MnStep, .ref MnArg, .ref MnMany, .ref Mstep, .ref Marg, .ref Mmany, .ref Mopen, .ref Mvalues, .ref MnHasForm, .ref MhasForm, .int (nI Iform), .int (nI Iopens), .int (nI InUnits), .int Iunits, .int (nI IownUnits), .int (nI Ideep), .ref Masks, .ref MnLoud, .ref MnCliffAt, .ref MnSnow, .ref MnManAt, .ref MnVoice, .ref MnOn, .ref Mloud, .ref McliffAt, .ref MsnowTold, .ref MmanAt, .ref Mvoice, .ref Mon, .ref MnYes, .ref Myes, .int (nI InWords), .int (nI InCliffs), .int (nI InMen), .int (nI InStates), .int (nI InOns), .int InWind, .int InDraw, .int (nI Iwords), .int (nI Icliffs), .int (nI Imen), .int (nI Istates), .int Ions, .int IwindTold, .int InHasWind, .int InHasDraw, .ref Mnow, .ref Mcry, .ref Msnow, .ref Mecho, .int (nI IcryMany), .int IcallPlace, .int IcallVoice, .int Iwind, .int Ichance, .int (nI IechoMany), .ref Mwere, .int (nI Iacts), .int (nI Iundone), .ref Mlies, .int (nI Ilain), .ref Mspots, .ref Msteps, .ref MfromState, .ref MbyWord, .ref Mqueue, .ref MsoundCliff, .ref MsoundLong, .ref MsoundCame, .ref MsoundTold, .ref MsoundUntold, .int (nI Isounds), .int Itime, .ref Mstands, .int IstandMany, .ref Mtally, .ref MhasBox, .ref Mboxes], wI (cy 1) Mopen 160 (Gopen)] (fun (r : Int32) (_ : Unit) => ((r = 1 ∧ (hbk (stk Gopen Iopens) = true)) ∨ (r = 0 ∧ (hbk (stk Gopen Iopens) = false)))) (fun (_ : Unit) => [wO m0 12 [.ref Mtape, .int (nI Itaped), .int (nI Ifault), .int IfaultPlace, .int (nI Iat), .int (nI Isize), .int Isort, .int Iplace, .int Inumber, .long Iword, .ref MnName, .ref MnStep, .ref MnArg, .ref MnMany, .ref Mstep, .ref Marg, .ref Mmany, .ref Mopen, .ref Mvalues, .ref MnHasForm, .ref MhasForm, .int (nI Iform), .int (nI Iopens), .int (nI InUnits), .int Iunits, .int (nI IownUnits), .int (nI Ideep), .ref Masks, .ref MnLoud, .ref MnCliffAt, .ref MnSnow, .ref MnManAt, .ref MnVoice, .ref MnOn, .ref Mloud, .ref McliffAt, .ref MsnowTold, .ref MmanAt, .ref Mvoice, .ref Mon, .ref MnYes, .ref Myes, .int (nI InWords), .int (nI InCliffs), .int (nI InMen), .int (nI InStates), .int (nI InOns), .int InWind, .int InDraw, .int (nI Iwords), .int (nI Icliffs), .int (nI Imen), .int (nI Istates), .int Ions, .int IwindTold, .int InHasWind, .int InHasDraw, .ref Mnow, .ref Mcry, .ref Msnow, .ref Mecho, .int (nI IcryMany), .int IcallPlace, .int IcallVoice, .int Iwind, .int Ichance, .int (nI IechoMany), .ref Mwere, .int (nI Iacts), .int (nI Iundone), .ref Mlies, .int (nI Ilain), .ref Mspots, .ref Msteps, .ref MfromState, .ref MbyWord, .ref Mqueue, .ref MsoundCliff, .ref MsoundLong, .ref MsoundCame, .ref MsoundTold, .ref MsoundUntold, .int (nI Isounds), .int Itime, .ref Mstands, .int IstandMany, .ref Mtally, .ref MhasBox, .ref Mboxes], wI (cy 1) Mopen 160 (Gopen)]) := by
  refine XMi.start (by decide) (Nat.le_of_ble_eq_true rfl) ?_
  intro p e s m below meth c args A ls Q hat hQ
  obtain ⟨hx, hb, hr, hml, hown, hg, hlocks, hin, hK, hA, hP, hD, hS, hE, hl⟩ := hat
  have hown : s.vm.findClass RX12 = some m.cls := hown
  have hl : lv_has ls 3 [(0, .ref m0)] := hl
  refine lv_iconst (v := 0) hx hb dX12_hasBracket_0 (by decide) ?_
  refine lv_istore_n (lv' := [(1, .int 0), (0, .ref m0)]) hx hb dX12_hasBracket_1 rfl hl (by decide) rfl (fun ls hl => ?_)
  refine lv_iconst (v := 0) hx hb dX12_hasBracket_2 (by decide) ?_
  refine lv_istore_n (lv' := [(2, .int 0), (1, .int 0), (0, .ref m0)]) hx hb dX12_hasBracket_3 rfl hl (by decide) rfl (fun ls hl => ?_)
  have loop1 : ∀ (zn : Nat) (lb1_1 : Int32) (k1 : Nat), (k1 ≤ Iopens) → ((lb1_1 = 1 ∧ hbk (stk Gopen k1) = true) ∨ (lb1_1 = 0 ∧ hbk (stk Gopen k1) = false)) → Iopens - k1 + 1 ≤ zn → ∀ (H : Heap) (locs : List Loc), va_P D vwCl [wO m0 12 [.ref Mtape, .int (nI Itaped), .int (nI Ifault), .int IfaultPlace, .int (nI Iat), .int (nI Isize), .int Isort, .int Iplace, .int Inumber, .long Iword, .ref MnName, .ref MnStep, .ref MnArg, .ref MnMany, .ref Mstep, .ref Marg, .ref Mmany, .ref Mopen, .ref Mvalues, .ref MnHasForm, .ref MhasForm, .int (nI Iform), .int (nI Iopens), .int (nI InUnits), .int Iunits, .int (nI IownUnits), .int (nI Ideep), .ref Masks, .ref MnLoud, .ref MnCliffAt, .ref MnSnow, .ref MnManAt, .ref MnVoice, .ref MnOn, .ref Mloud, .ref McliffAt, .ref MsnowTold, .ref MmanAt, .ref Mvoice, .ref Mon, .ref MnYes, .ref Myes, .int (nI InWords), .int (nI InCliffs), .int (nI InMen), .int (nI InStates), .int (nI InOns), .int InWind, .int InDraw, .int (nI Iwords), .int (nI Icliffs), .int (nI Imen), .int (nI Istates), .int Ions, .int IwindTold, .int InHasWind, .int InHasDraw, .ref Mnow, .ref Mcry, .ref Msnow, .ref Mecho, .int (nI IcryMany), .int IcallPlace, .int IcallVoice, .int Iwind, .int Ichance, .int (nI IechoMany), .ref Mwere, .int (nI Iacts), .int (nI Iundone), .ref Mlies, .int (nI Ilain), .ref Mspots, .ref Msteps, .ref MfromState, .ref MbyWord, .ref Mqueue, .ref MsoundCliff, .ref MsoundLong, .ref MsoundCame, .ref MsoundTold, .ref MsoundUntold, .int (nI Isounds), .int Itime, .ref Mstands, .int IstandMany, .ref Mtally, .ref MhasBox, .ref Mboxes], wI (cy 1) Mopen 160 (Gopen)] H → va_D A [wO m0 12 [.ref Mtape, .int (nI Itaped), .int (nI Ifault), .int IfaultPlace, .int (nI Iat), .int (nI Isize), .int Isort, .int Iplace, .int Inumber, .long Iword, .ref MnName, .ref MnStep, .ref MnArg, .ref MnMany, .ref Mstep, .ref Marg, .ref Mmany, .ref Mopen, .ref Mvalues, .ref MnHasForm, .ref MhasForm, .int (nI Iform), .int (nI Iopens), .int (nI InUnits), .int Iunits, .int (nI IownUnits), .int (nI Ideep), .ref Masks, .ref MnLoud, .ref MnCliffAt, .ref MnSnow, .ref MnManAt, .ref MnVoice, .ref MnOn, .ref Mloud, .ref McliffAt, .ref MsnowTold, .ref MmanAt, .ref Mvoice, .ref Mon, .ref MnYes, .ref Myes, .int (nI InWords), .int (nI InCliffs), .int (nI InMen), .int (nI InStates), .int (nI InOns), .int InWind, .int InDraw, .int (nI Iwords), .int (nI Icliffs), .int (nI Imen), .int (nI Istates), .int Ions, .int IwindTold, .int InHasWind, .int InHasDraw, .ref Mnow, .ref Mcry, .ref Msnow, .ref Mecho, .int (nI IcryMany), .int IcallPlace, .int IcallVoice, .int Iwind, .int Ichance, .int (nI IechoMany), .ref Mwere, .int (nI Iacts), .int (nI Iundone), .ref Mlies, .int (nI Ilain), .ref Mspots, .ref Msteps, .ref MfromState, .ref MbyWord, .ref Mqueue, .ref MsoundCliff, .ref MsoundLong, .ref MsoundCame, .ref MsoundTold, .ref MsoundUntold, .int (nI Isounds), .int Itime, .ref Mstands, .int IstandMany, .ref Mtally, .ref MhasBox, .ref Mboxes], wI (cy 1) Mopen 160 (Gopen)] → va_S A s.heap H locs → ∀ ls : Array Slot, lv_has ls 3 [(2, .int (nI k1)), (1, .int lb1_1), (0, .ref m0)] → W p l e (rmk 0 0 0) s m args below meth c H locs 0 0 Q (F0 m 4 ls []) := by
    try clear hP hD hS
    intro zn
    induction zn with
    | zero => intro lb1_1 k1 _ _ hz; exact absurd hz (by omega)
    | succ zn ih1 =>
      intro lb1_1 k1 hf0_1 hf1_1 hmu1 H locs hP hD hS ls hl
      rcases hf1_1 with ⟨hlb, hb9⟩ | ⟨hlb, hb9⟩
      · subst hlb
        refine lv_iload_n hx hb dX12_hasBracket_4 rfl (lv_at hl 0 rfl) ?_
        refine lv_aload_n hx hb dX12_hasBracket_5 rfl (lv_at hl 2 rfl) ?_
        refine va_get (D := D) (ci := 12) (v := .int (nI Iopens)) (C := RX12) (T := TX12) (N := 89) hx hb hg i_X12 hown hK hP 0 rfl rfl 22 (by decide) (hg _ m_1435) (fun _ h9 => h9) rfl dX12_hasBracket_6 ?_
        refine lv_icmp_ge (tgt := 39) hx hb dX12_hasBracket_9 (by decide) (fun c_2 => ?_) (fun c_2 => ?_)
        · have q_3 : Iopens ≤ k1 := q_le (a := Iopens) (b := k1) rfl rfl (by omega) (by omega) c_2
          refine lv_iload_n hx hb dX12_hasBracket_39 rfl (lv_at hl 1 rfl) ?_
          exact x_zret hQ hx hb hr hlocks hK hP hD hS rfl dX12_hasBracket_40 () ((show ((1 : Int32) = 1 ∧ (hbk (stk Gopen Iopens) = true)) ∨ ((1 : Int32) = 0 ∧ (hbk (stk Gopen Iopens) = false)) from Or.inl ⟨rfl, (by have h9 := hb9; rwa [show k1 = Iopens by omega] at h9)⟩)) [0, 1] (by decide +kernel) rfl (Nat.le_of_ble_eq_true rfl) (Nat.le_of_ble_eq_true rfl)
        · have q_3 : k1 < Iopens := q_nle (a := Iopens) (b := k1) rfl rfl (by omega) (by omega) c_2
          refine lv_iload_n hx hb dX12_hasBracket_12 rfl (lv_at hl 1 rfl) ?_
          refine lv_if_ne (tgt := 27) hx hb dX12_hasBracket_13 (by decide) (fun _ => ?_) (fun h => absurd h (by decide))
          refine lv_iconst (v := 1) hx hb dX12_hasBracket_27 (by decide) ?_
          refine lv_goto (tgt := 32) hx hb dX12_hasBracket_28 (by decide) ?_
          refine lv_istore_n (lv' := [(1, .int 1), (2, .int (nI k1)), (0, .ref m0)]) hx hb dX12_hasBracket_32 rfl hl (by decide) rfl (fun ls hl => ?_)
          refine lv_iinc (v := nI (k1 + 1)) (lv' := [(2, .int (nI (k1 + 1))), (1, .int 1), (0, .ref m0)]) hx hb dX12_hasBracket_33 hl (k := 1) rfl (nI_add k1 1) (by decide) rfl (fun ls hl => ?_)
          refine lv_goto (tgt := 4) hx hb dX12_hasBracket_36 (by decide) ?_
          exact ih1  1 ((k1 + 1)) (by omega) (Or.inl ⟨rfl, hbk_u hb9⟩) (by omega) _ _ (hP.sub [0, 1] rfl) (hD.sub [0, 1] (by decide +kernel) rfl) hS ls (lv_sub hl [0, 1, 2] rfl)
      · subst hlb
        refine lv_iload_n hx hb dX12_hasBracket_4 rfl (lv_at hl 0 rfl) ?_
        refine lv_aload_n hx hb dX12_hasBracket_5 rfl (lv_at hl 2 rfl) ?_
        refine va_get (D := D) (ci := 12) (v := .int (nI Iopens)) (C := RX12) (T := TX12) (N := 89) hx hb hg i_X12 hown hK hP 0 rfl rfl 22 (by decide) (hg _ m_1435) (fun _ h9 => h9) rfl dX12_hasBracket_6 ?_
        refine lv_icmp_ge (tgt := 39) hx hb dX12_hasBracket_9 (by decide) (fun c_4 => ?_) (fun c_4 => ?_)
        · have q_5 : Iopens ≤ k1 := q_le (a := Iopens) (b := k1) rfl rfl (by omega) (by omega) c_4
          refine lv_iload_n hx hb dX12_hasBracket_39 rfl (lv_at hl 1 rfl) ?_
          exact x_zret hQ hx hb hr hlocks hK hP hD hS rfl dX12_hasBracket_40 () ((show ((0 : Int32) = 1 ∧ (hbk (stk Gopen Iopens) = true)) ∨ ((0 : Int32) = 0 ∧ (hbk (stk Gopen Iopens) = false)) from Or.inr (⟨rfl, (by have h9 := hb9; rwa [show k1 = Iopens by omega] at h9)⟩))) [0, 1] (by decide +kernel) rfl (Nat.le_of_ble_eq_true rfl) (Nat.le_of_ble_eq_true rfl)
        · have q_5 : k1 < Iopens := q_nle (a := Iopens) (b := k1) rfl rfl (by omega) (by omega) c_4
          refine lv_iload_n hx hb dX12_hasBracket_12 rfl (lv_at hl 1 rfl) ?_
          refine lv_if_ne (tgt := 27) hx hb dX12_hasBracket_13 (by decide) (fun h => absurd (by decide) h) (fun _ => ?_)
          refine lv_aload_n hx hb dX12_hasBracket_16 rfl (lv_at hl 2 rfl) ?_
          refine va_get (D := D) (ci := 12) (v := .ref Mopen) (C := RX12) (T := TX12) (N := 89) hx hb hg i_X12 hown hK hP 0 rfl rfl 17 (by decide) (hg _ m_1430) (fun _ h9 => h9) rfl dX12_hasBracket_17 ?_
          refine lv_iload_n hx hb dX12_hasBracket_20 rfl (lv_at hl 0 rfl) ?_
          refine va_iald hx hb hK hP 1 1 rfl rfl (vp_in_nI (by omega) (by decide)) dX12_hasBracket_21 ?_
          refine lv_topi (fun x_6 ex_6 => ?_)
          refine lv_bipush (v := 20) hx hb dX12_hasBracket_22 (by decide) ?_
          refine lv_icmp_ne (tgt := 31) hx hb dX12_hasBracket_24 (by decide) (fun c_24 => ?_) (fun c_24 => ?_)
          · refine lv_iconst (v := 0) hx hb dX12_hasBracket_31 (by decide) ?_
            refine lv_istore_n (lv' := [(1, .int 0), (2, .int (nI k1)), (0, .ref m0)]) hx hb dX12_hasBracket_32 rfl hl (by decide) rfl (fun ls hl => ?_)
            refine lv_iinc (v := nI (k1 + 1)) (lv' := [(2, .int (nI (k1 + 1))), (1, .int 0), (0, .ref m0)]) hx hb dX12_hasBracket_33 hl (k := 1) rfl (nI_add k1 1) (by decide) rfl (fun ls hl => ?_)
            refine lv_goto (tgt := 4) hx hb dX12_hasBracket_36 (by decide) ?_
            exact ih1  0 ((k1 + 1)) (by omega) (Or.inr ⟨rfl, hbk_n hb9 (top_ne (by omega) ex_6 c_24)⟩) (by omega) _ _ (hP.sub [0, 1] rfl) (hD.sub [0, 1] (by decide +kernel) rfl) hS ls (lv_sub hl [0, 1, 2] rfl)
          · refine lv_iconst (v := 1) hx hb dX12_hasBracket_27 (by decide) ?_
            refine lv_goto (tgt := 32) hx hb dX12_hasBracket_28 (by decide) ?_
            refine lv_istore_n (lv' := [(1, .int 1), (2, .int (nI k1)), (0, .ref m0)]) hx hb dX12_hasBracket_32 rfl hl (by decide) rfl (fun ls hl => ?_)
            refine lv_iinc (v := nI (k1 + 1)) (lv' := [(2, .int (nI (k1 + 1))), (1, .int 1), (0, .ref m0)]) hx hb dX12_hasBracket_33 hl (k := 1) rfl (nI_add k1 1) (by decide) rfl (fun ls hl => ?_)
            refine lv_goto (tgt := 4) hx hb dX12_hasBracket_36 (by decide) ?_
            exact ih1  1 ((k1 + 1)) (by omega) (Or.inl ⟨rfl, hbk_y (top_eq (by omega) ex_6 c_24)⟩) (by omega) _ _ (hP.sub [0, 1] rfl) (hD.sub [0, 1] (by decide +kernel) rfl) hS ls (lv_sub hl [0, 1, 2] rfl)
  exact loop1 _ 0 0 (by omega) (Or.inr ⟨rfl, rfl⟩) (Nat.le_refl _) _ _ (hP.sub [0, 1] rfl) (hD.sub [0, 1] (by decide +kernel) rfl) hS ls (lv_sub hl [0, 1, 2] rfl)
theorem ask_no {f : Nat → Int32} {n a at9 : Nat} {so pl nu : Int32} {wo : Int64} (h : tkR f n a at9 so pl nu wo) (hs : so = 1) (h17 : ¬ wo = owC 17) (h18 : ¬ wo = owC 18) (h19 : ¬ wo = owC 19) (h20 : ¬ wo = owC 20) (h21 : ¬ wo = owC 21) (h22 : ¬ wo = owC 22) (h23 : ¬ wo = owC 23) : ¬ 117 ≤ knd f n a := by
  intro h9
  have h8 := knd_le f n a
  have hw := h.2.2.2.1 hs
  rcases (show knd f n a = 100 + 17 ∨ knd f n a = 100 + 18 ∨ knd f n a = 100 + 19 ∨ knd f n a = 100 + 20 ∨ knd f n a = 100 + 21 ∨ knd f n a = 100 + 22 ∨ knd f n a = 100 + 23 by omega) with e | e | e | e | e | e | e
  · exact h17 (hw.trans ((own_wrd (by decide) (Or.inr (by omega))).mp e))
  · exact h18 (hw.trans ((own_wrd (by decide) (Or.inr (by omega))).mp e))
  · exact h19 (hw.trans ((own_wrd (by decide) (Or.inr (by omega))).mp e))
  · exact h20 (hw.trans ((own_wrd (by decide) (Or.inr (by omega))).mp e))
  · exact h21 (hw.trans ((own_wrd (by decide) (Or.inr (by omega))).mp e))
  · exact h22 (hw.trans ((own_wrd (by decide) (Or.inr (by omega))).mp e))
  · exact h23 (hw.trans ((own_wrd (by decide) (Or.inr (by omega))).mp e))
theorem gdX12_asked_0 : decode cX12_asked 0 = .ok (.aload_n 0, 1) ∧ decode cX12_asked 1 = .ok (.getfield 184, 3) ∧ decode cX12_asked 4 = .ok (.iconst 1, 1) ∧ decode cX12_asked 5 = .ok (.if_icmp .eq 5, 3) ∧ decode cX12_asked 10 = .ok (.aload_n 0, 1) ∧ decode cX12_asked 11 = .ok (.getfield 177, 3) ∧ decode cX12_asked 14 = .ok (.ldc2_w 232, 3) ∧ decode cX12_asked 17 = .ok (.lcmp, 1) ∧ decode cX12_asked 18 = .ok (.ifCond .ne 5, 3) ∧ decode cX12_asked 23 = .ok (.aload_n 0, 1) ∧ decode cX12_asked 24 = .ok (.getfield 177, 3) ∧ decode cX12_asked 27 = .ok (.ldc2_w 234, 3) := by decide +kernel
theorem dX12_asked_0 : decode cX12_asked 0 = .ok (.aload_n 0, 1) := gdX12_asked_0.1
theorem dX12_asked_1 : decode cX12_asked 1 = .ok (.getfield 184, 3) := gdX12_asked_0.2.1
theorem dX12_asked_4 : decode cX12_asked 4 = .ok (.iconst 1, 1) := gdX12_asked_0.2.2.1
theorem dX12_asked_5 : decode cX12_asked 5 = .ok (.if_icmp .eq 5, 3) := gdX12_asked_0.2.2.2.1
theorem dX12_asked_10 : decode cX12_asked 10 = .ok (.aload_n 0, 1) := gdX12_asked_0.2.2.2.2.1
theorem dX12_asked_11 : decode cX12_asked 11 = .ok (.getfield 177, 3) := gdX12_asked_0.2.2.2.2.2.1
theorem dX12_asked_14 : decode cX12_asked 14 = .ok (.ldc2_w 232, 3) := gdX12_asked_0.2.2.2.2.2.2.1
theorem dX12_asked_17 : decode cX12_asked 17 = .ok (.lcmp, 1) := gdX12_asked_0.2.2.2.2.2.2.2.1
theorem dX12_asked_18 : decode cX12_asked 18 = .ok (.ifCond .ne 5, 3) := gdX12_asked_0.2.2.2.2.2.2.2.2.1
theorem dX12_asked_23 : decode cX12_asked 23 = .ok (.aload_n 0, 1) := gdX12_asked_0.2.2.2.2.2.2.2.2.2.1
theorem dX12_asked_24 : decode cX12_asked 24 = .ok (.getfield 177, 3) := gdX12_asked_0.2.2.2.2.2.2.2.2.2.2.1
theorem dX12_asked_27 : decode cX12_asked 27 = .ok (.ldc2_w 234, 3) := gdX12_asked_0.2.2.2.2.2.2.2.2.2.2.2
theorem gdX12_asked_30 : decode cX12_asked 30 = .ok (.lcmp, 1) ∧ decode cX12_asked 31 = .ok (.ifCond .ne 5, 3) ∧ decode cX12_asked 36 = .ok (.aload_n 0, 1) ∧ decode cX12_asked 37 = .ok (.getfield 177, 3) ∧ decode cX12_asked 40 = .ok (.ldc2_w 208, 3) ∧ decode cX12_asked 43 = .ok (.lcmp, 1) ∧ decode cX12_asked 44 = .ok (.ifCond .ne 5, 3) ∧ decode cX12_asked 49 = .ok (.aload_n 0, 1) ∧ decode cX12_asked 50 = .ok (.getfield 177, 3) ∧ decode cX12_asked 53 = .ok (.ldc2_w 236, 3) ∧ decode cX12_asked 56 = .ok (.lcmp, 1) ∧ decode cX12_asked 57 = .ok (.ifCond .ne 5, 3) := by decide +kernel
theorem dX12_asked_30 : decode cX12_asked 30 = .ok (.lcmp, 1) := gdX12_asked_30.1
theorem dX12_asked_31 : decode cX12_asked 31 = .ok (.ifCond .ne 5, 3) := gdX12_asked_30.2.1
theorem dX12_asked_36 : decode cX12_asked 36 = .ok (.aload_n 0, 1) := gdX12_asked_30.2.2.1
theorem dX12_asked_37 : decode cX12_asked 37 = .ok (.getfield 177, 3) := gdX12_asked_30.2.2.2.1
theorem dX12_asked_40 : decode cX12_asked 40 = .ok (.ldc2_w 208, 3) := gdX12_asked_30.2.2.2.2.1
theorem dX12_asked_43 : decode cX12_asked 43 = .ok (.lcmp, 1) := gdX12_asked_30.2.2.2.2.2.1
theorem dX12_asked_44 : decode cX12_asked 44 = .ok (.ifCond .ne 5, 3) := gdX12_asked_30.2.2.2.2.2.2.1
theorem dX12_asked_49 : decode cX12_asked 49 = .ok (.aload_n 0, 1) := gdX12_asked_30.2.2.2.2.2.2.2.1
theorem dX12_asked_50 : decode cX12_asked 50 = .ok (.getfield 177, 3) := gdX12_asked_30.2.2.2.2.2.2.2.2.1
theorem dX12_asked_53 : decode cX12_asked 53 = .ok (.ldc2_w 236, 3) := gdX12_asked_30.2.2.2.2.2.2.2.2.2.1
theorem dX12_asked_56 : decode cX12_asked 56 = .ok (.lcmp, 1) := gdX12_asked_30.2.2.2.2.2.2.2.2.2.2.1
theorem dX12_asked_57 : decode cX12_asked 57 = .ok (.ifCond .ne 5, 3) := gdX12_asked_30.2.2.2.2.2.2.2.2.2.2.2
theorem gdX12_asked_62 : decode cX12_asked 62 = .ok (.aload_n 0, 1) ∧ decode cX12_asked 63 = .ok (.getfield 177, 3) ∧ decode cX12_asked 66 = .ok (.ldc2_w 202, 3) ∧ decode cX12_asked 69 = .ok (.lcmp, 1) ∧ decode cX12_asked 70 = .ok (.ifCond .ne 5, 3) ∧ decode cX12_asked 75 = .ok (.aload_n 0, 1) ∧ decode cX12_asked 76 = .ok (.getfield 177, 3) ∧ decode cX12_asked 79 = .ok (.ldc2_w 238, 3) ∧ decode cX12_asked 82 = .ok (.lcmp, 1) ∧ decode cX12_asked 83 = .ok (.ifCond .ne 5, 3) ∧ decode cX12_asked 88 = .ok (.aload_n 0, 1) ∧ decode cX12_asked 89 = .ok (.getfield 177, 3) := by decide +kernel
theorem dX12_asked_62 : decode cX12_asked 62 = .ok (.aload_n 0, 1) := gdX12_asked_62.1
theorem dX12_asked_63 : decode cX12_asked 63 = .ok (.getfield 177, 3) := gdX12_asked_62.2.1
theorem dX12_asked_66 : decode cX12_asked 66 = .ok (.ldc2_w 202, 3) := gdX12_asked_62.2.2.1
theorem dX12_asked_69 : decode cX12_asked 69 = .ok (.lcmp, 1) := gdX12_asked_62.2.2.2.1
theorem dX12_asked_70 : decode cX12_asked 70 = .ok (.ifCond .ne 5, 3) := gdX12_asked_62.2.2.2.2.1
theorem dX12_asked_75 : decode cX12_asked 75 = .ok (.aload_n 0, 1) := gdX12_asked_62.2.2.2.2.2.1
theorem dX12_asked_76 : decode cX12_asked 76 = .ok (.getfield 177, 3) := gdX12_asked_62.2.2.2.2.2.2.1
theorem dX12_asked_79 : decode cX12_asked 79 = .ok (.ldc2_w 238, 3) := gdX12_asked_62.2.2.2.2.2.2.2.1
theorem dX12_asked_82 : decode cX12_asked 82 = .ok (.lcmp, 1) := gdX12_asked_62.2.2.2.2.2.2.2.2.1
theorem dX12_asked_83 : decode cX12_asked 83 = .ok (.ifCond .ne 5, 3) := gdX12_asked_62.2.2.2.2.2.2.2.2.2.1
theorem dX12_asked_88 : decode cX12_asked 88 = .ok (.aload_n 0, 1) := gdX12_asked_62.2.2.2.2.2.2.2.2.2.2.1
theorem dX12_asked_89 : decode cX12_asked 89 = .ok (.getfield 177, 3) := gdX12_asked_62.2.2.2.2.2.2.2.2.2.2.2
theorem gdX12_asked_92 : decode cX12_asked 92 = .ok (.ldc2_w 240, 3) ∧ decode cX12_asked 95 = .ok (.lcmp, 1) ∧ decode cX12_asked 96 = .ok (.ifCond .ne 8, 3) ∧ decode cX12_asked 104 = .ok (.iconst (-1), 1) ∧ decode cX12_asked 105 = .ok (.ireturn, 1) ∧ decode cX12_asked 99 = .ok (.bipush 6, 2) ∧ decode cX12_asked 101 = .ok (.goto 4, 3) ∧ decode cX12_asked 86 = .ok (.iconst 5, 1) ∧ decode cX12_asked 87 = .ok (.ireturn, 1) ∧ decode cX12_asked 73 = .ok (.iconst 4, 1) ∧ decode cX12_asked 74 = .ok (.ireturn, 1) ∧ decode cX12_asked 60 = .ok (.iconst 3, 1) := by decide +kernel
theorem dX12_asked_92 : decode cX12_asked 92 = .ok (.ldc2_w 240, 3) := gdX12_asked_92.1
theorem dX12_asked_95 : decode cX12_asked 95 = .ok (.lcmp, 1) := gdX12_asked_92.2.1
theorem dX12_asked_96 : decode cX12_asked 96 = .ok (.ifCond .ne 8, 3) := gdX12_asked_92.2.2.1
theorem dX12_asked_104 : decode cX12_asked 104 = .ok (.iconst (-1), 1) := gdX12_asked_92.2.2.2.1
theorem dX12_asked_105 : decode cX12_asked 105 = .ok (.ireturn, 1) := gdX12_asked_92.2.2.2.2.1
theorem dX12_asked_99 : decode cX12_asked 99 = .ok (.bipush 6, 2) := gdX12_asked_92.2.2.2.2.2.1
theorem dX12_asked_101 : decode cX12_asked 101 = .ok (.goto 4, 3) := gdX12_asked_92.2.2.2.2.2.2.1
theorem dX12_asked_86 : decode cX12_asked 86 = .ok (.iconst 5, 1) := gdX12_asked_92.2.2.2.2.2.2.2.1
theorem dX12_asked_87 : decode cX12_asked 87 = .ok (.ireturn, 1) := gdX12_asked_92.2.2.2.2.2.2.2.2.1
theorem dX12_asked_73 : decode cX12_asked 73 = .ok (.iconst 4, 1) := gdX12_asked_92.2.2.2.2.2.2.2.2.2.1
theorem dX12_asked_74 : decode cX12_asked 74 = .ok (.ireturn, 1) := gdX12_asked_92.2.2.2.2.2.2.2.2.2.2.1
theorem dX12_asked_60 : decode cX12_asked 60 = .ok (.iconst 3, 1) := gdX12_asked_92.2.2.2.2.2.2.2.2.2.2.2
theorem gdX12_asked_61 : decode cX12_asked 61 = .ok (.ireturn, 1) ∧ decode cX12_asked 47 = .ok (.iconst 2, 1) ∧ decode cX12_asked 48 = .ok (.ireturn, 1) ∧ decode cX12_asked 34 = .ok (.iconst 1, 1) ∧ decode cX12_asked 35 = .ok (.ireturn, 1) ∧ decode cX12_asked 21 = .ok (.iconst 0, 1) ∧ decode cX12_asked 22 = .ok (.ireturn, 1) ∧ decode cX12_asked 8 = .ok (.iconst (-1), 1) ∧ decode cX12_asked 9 = .ok (.ireturn, 1) := by decide +kernel
theorem dX12_asked_61 : decode cX12_asked 61 = .ok (.ireturn, 1) := gdX12_asked_61.1
theorem dX12_asked_47 : decode cX12_asked 47 = .ok (.iconst 2, 1) := gdX12_asked_61.2.1
theorem dX12_asked_48 : decode cX12_asked 48 = .ok (.ireturn, 1) := gdX12_asked_61.2.2.1
theorem dX12_asked_34 : decode cX12_asked 34 = .ok (.iconst 1, 1) := gdX12_asked_61.2.2.2.1
theorem dX12_asked_35 : decode cX12_asked 35 = .ok (.ireturn, 1) := gdX12_asked_61.2.2.2.2.1
theorem dX12_asked_21 : decode cX12_asked 21 = .ok (.iconst 0, 1) := gdX12_asked_61.2.2.2.2.2.1
theorem dX12_asked_22 : decode cX12_asked 22 = .ok (.ireturn, 1) := gdX12_asked_61.2.2.2.2.2.2.1
theorem dX12_asked_8 : decode cX12_asked 8 = .ok (.iconst (-1), 1) := gdX12_asked_61.2.2.2.2.2.2.2.1
theorem dX12_asked_9 : decode cX12_asked 9 = .ok (.ireturn, 1) := gdX12_asked_61.2.2.2.2.2.2.2.2
set_option maxHeartbeats 1000000 in
set_option maxRecDepth 100000 in
theorem r_asked (l : Launch) (D : va_G) (cy : Nat → ClassId) (m0 : Nat) (Mtape : Nat) (MnName : Nat) (MnStep : Nat) (MnArg : Nat) (MnMany : Nat) (Mstep : Nat) (Marg : Nat) (Mmany : Nat) (Mopen : Nat) (Mvalues : Nat) (MnHasForm : Nat) (MhasForm : Nat) (Masks : Nat) (MnLoud : Nat) (MnCliffAt : Nat) (MnSnow : Nat) (MnManAt : Nat) (MnVoice : Nat) (MnOn : Nat) (Mloud : Nat) (McliffAt : Nat) (MsnowTold : Nat) (MmanAt : Nat) (Mvoice : Nat) (Mon : Nat) (MnYes : Nat) (Myes : Nat) (Mnow : Nat) (Mcry : Nat) (Msnow : Nat) (Mecho : Nat) (Mwere : Nat) (Mlies : Nat) (Mspots : Nat) (Msteps : Nat) (MfromState : Nat) (MbyWord : Nat) (Mqueue : Nat) (MsoundCliff : Nat) (MsoundLong : Nat) (MsoundCame : Nat) (MsoundTold : Nat) (MsoundUntold : Nat) (Mstands : Nat) (Mtally : Nat) (MhasBox : Nat) (Mboxes : Nat) (Itaped : Nat) (Ifault : Nat) (IfaultPlace : Int32) (Iat : Nat) (Isize : Nat) (Isort : Int32) (Iplace : Int32) (Inumber : Int32) (Iword : Int64) (Iform : Nat) (Iopens : Nat) (InUnits : Nat) (Iunits : Int32) (IownUnits : Nat) (Ideep : Nat) (InWords : Nat) (InCliffs : Nat) (InMen : Nat) (InStates : Nat) (InOns : Nat) (InWind : Int32) (InDraw : Int32) (Iwords : Nat) (Icliffs : Nat) (Imen : Nat) (Istates : Nat) (Ions : Int32) (IwindTold : Int32) (InHasWind : Int32) (InHasDraw : Int32) (IcryMany : Nat) (IcallPlace : Int32) (IcallVoice : Int32) (Iwind : Int32) (Ichance : Int32) (IechoMany : Nat) (Iacts : Nat) (Iundone : Nat) (Ilain : Nat) (Isounds : Nat) (Itime : Int32) (IstandMany : Int32) (ga : Nat) (Gtape : Nat → Int32) (gtp : Itaped ≤ 1600) (gat : Iat ≤ Isize) (gsz : Isize ≤ 1600) (gfl : Ifault ≤ 5) (gfo : Iform ≤ 2) (gnw : InWords ≤ 8) (gnc : InCliffs ≤ 4) (gnm : InMen ≤ 4) (gns : InStates ≤ 6) (gw : Iwords ≤ 8) (gc9 : Icliffs ≤ 4) (gm : Imen ≤ 4) (gs : Istates ≤ 6) (gcm : IcryMany ≤ 10) (gem : IechoMany ≤ 20) (gau : Iacts + Iundone ≤ 40) (gla : Ilain ≤ 20) (gso : Isounds ≤ 30) (gop : Iopens ≤ 40) (gde : Ideep ≤ 8) (gou : IownUnits ≤ 31) (gnu : InUnits ≤ 61) (gno : InOns ≤ 30) (hti : tkR Gtape Isize ga Iat Isort Iplace Inumber Iword) : XMi l D (tyL cy) E0 yX12_asked cX12_asked 1 (some .int) (rmk 0 0 0) [.ref m0] [wO m0 12 [.ref Mtape, .int (nI Itaped), .int (nI Ifault), .int IfaultPlace, .int (nI Iat), .int (nI Isize), .int Isort, .int Iplace, .int Inumber, .long Iword, .ref MnName, .ref MnStep, .ref MnArg, .ref MnMany, .ref Mstep, .ref Marg, .ref Mmany, .ref Mopen, .ref Mvalues, .ref MnHasForm, .ref MhasForm, .int (nI Iform), .int (nI Iopens), .int (nI InUnits), .int Iunits, .int (nI IownUnits), .int (nI Ideep), .ref Masks, .ref MnLoud, .ref MnCliffAt, .ref MnSnow, .ref MnManAt, .ref MnVoice, .ref MnOn, .ref Mloud, .ref McliffAt, .ref MsnowTold, .ref MmanAt, .ref Mvoice, .ref Mon, .ref MnYes, .ref Myes, .int (nI InWords), .int (nI InCliffs), .int (nI InMen), .int (nI InStates), .int (nI InOns), .int InWind, .int InDraw, .int (nI Iwords), .int (nI Icliffs), .int (nI Imen), .int (nI Istates), .int Ions, .int IwindTold, .int InHasWind, .int InHasDraw, .ref Mnow, .ref Mcry, .ref Msnow, .ref Mecho, .int (nI IcryMany), .int IcallPlace, .int IcallVoice, .int Iwind, .int Ichance, .int (nI IechoMany), .ref Mwere, .int (nI Iacts), .int (nI Iundone), .ref Mlies, .int (nI Ilain), .ref Mspots, .ref Msteps, .ref MfromState, .ref MbyWord, .ref Mqueue, .ref MsoundCliff, .ref MsoundLong, .ref MsoundCame, .ref MsoundTold, .ref MsoundUntold, .int (nI Isounds), .int Itime, .ref Mstands, .int IstandMany, .ref Mtally, .ref MhasBox, .ref Mboxes]] (fun (r : Int32) (jr : Nat) => ((r = nI jr ∧ (jr ≤ 6) ∧ (117 ≤ knd Gtape Isize ga)) ∨ (r = -1 ∧ (¬ 117 ≤ knd Gtape Isize ga)))) (fun (jr : Nat) => [wO m0 12 [.ref Mtape, .int (nI Itaped), .int (nI Ifault), .int IfaultPlace, .int (nI Iat), .int (nI Isize), .int Isort, .int Iplace, .int Inumber, .long Iword, .ref MnName, .ref MnStep, .ref MnArg, .ref MnMany, .ref Mstep, .ref Marg, .ref Mmany, .ref Mopen, .ref Mvalues, .ref MnHasForm, .ref MhasForm, .int (nI Iform), .int (nI Iopens), .int (nI InUnits), .int Iunits, .int (nI IownUnits), .int (nI Ideep), .ref Masks, .ref MnLoud, .ref MnCliffAt, .ref MnSnow, .ref MnManAt, .ref MnVoice, .ref MnOn, .ref Mloud, .ref McliffAt, .ref MsnowTold, .ref MmanAt, .ref Mvoice, .ref Mon, .ref MnYes, .ref Myes, .int (nI InWords), .int (nI InCliffs), .int (nI InMen), .int (nI InStates), .int (nI InOns), .int InWind, .int InDraw, .int (nI Iwords), .int (nI Icliffs), .int (nI Imen), .int (nI Istates), .int Ions, .int IwindTold, .int InHasWind, .int InHasDraw, .ref Mnow, .ref Mcry, .ref Msnow, .ref Mecho, .int (nI IcryMany), .int IcallPlace, .int IcallVoice, .int Iwind, .int Ichance, .int (nI IechoMany), .ref Mwere, .int (nI Iacts), .int (nI Iundone), .ref Mlies, .int (nI Ilain), .ref Mspots, .ref Msteps, .ref MfromState, .ref MbyWord, .ref Mqueue, .ref MsoundCliff, .ref MsoundLong, .ref MsoundCame, .ref MsoundTold, .ref MsoundUntold, .int (nI Isounds), .int Itime, .ref Mstands, .int IstandMany, .ref Mtally, .ref MhasBox, .ref Mboxes]]) := by
  refine XMi.start (by decide) (Nat.le_of_ble_eq_true rfl) ?_
  intro p e s m below meth c args A ls Q hat hQ
  obtain ⟨hx, hb, hr, hml, hown, hg, hlocks, hin, hK, hA, hP, hD, hS, hE, hl⟩ := hat
  have hown : s.vm.findClass RX12 = some m.cls := hown
  have hl : lv_has ls 1 [(0, .ref m0)] := hl
  refine lv_aload_n hx hb dX12_asked_0 rfl (lv_at hl 0 rfl) ?_
  refine va_get (D := D) (ci := 12) (v := .int Isort) (C := RX12) (T := TX12) (N := 89) hx hb hg i_X12 hown hK hP 0 rfl rfl 6 (by decide) (hg _ m_1419) (fun _ h9 => h9) rfl dX12_asked_1 ?_
  refine lv_iconst (v := 1) hx hb dX12_asked_4 (by decide) ?_
  refine lv_icmp_eq (tgt := 10) hx hb dX12_asked_5 (by decide) (fun c_5 => ?_) (fun c_5 => ?_)
  · refine lv_aload_n hx hb dX12_asked_10 rfl (lv_at hl 0 rfl) ?_
    refine va_get (D := D) (ci := 12) (v := .long Iword) (C := RX12) (T := TX12) (N := 89) hx hb hg i_X12 hown hK hP 0 rfl rfl 9 (by decide) (hg _ m_1422) (fun _ h9 => h9) rfl dX12_asked_11 ?_
    refine lv_ldc2 (v := 6709618) hx hb hown (hg _ m_1759) dX12_asked_14 ?_
    refine x_lcmp hx hb dX12_asked_17 (fun x_1 ex_1 => ?_)
    refine lv_if_ne (tgt := 23) hx hb dX12_asked_18 (by decide) (fun c_18 => ?_) (fun c_18 => ?_)
    · refine lv_aload_n hx hb dX12_asked_23 rfl (lv_at hl 0 rfl) ?_
      refine va_get (D := D) (ci := 12) (v := .long Iword) (C := RX12) (T := TX12) (N := 89) hx hb hg i_X12 hown hK hP 0 rfl rfl 9 (by decide) (hg _ m_1422) (fun _ h9 => h9) rfl dX12_asked_24 ?_
      refine lv_ldc2 (v := 422726039411) hx hb hown (hg _ m_1760) dX12_asked_27 ?_
      refine x_lcmp hx hb dX12_asked_30 (fun x_2 ex_2 => ?_)
      refine lv_if_ne (tgt := 36) hx hb dX12_asked_31 (by decide) (fun c_31 => ?_) (fun c_31 => ?_)
      · refine lv_aload_n hx hb dX12_asked_36 rfl (lv_at hl 0 rfl) ?_
        refine va_get (D := D) (ci := 12) (v := .long Iword) (C := RX12) (T := TX12) (N := 89) hx hb hg i_X12 hown hK hP 0 rfl rfl 9 (by decide) (hg _ m_1422) (fun _ h9 => h9) rfl dX12_asked_37 ?_
        refine lv_ldc2 (v := 1936617335) hx hb hown (hg _ m_1747) dX12_asked_40 ?_
        refine x_lcmp hx hb dX12_asked_43 (fun x_3 ex_3 => ?_)
        refine lv_if_ne (tgt := 49) hx hb dX12_asked_44 (by decide) (fun c_44 => ?_) (fun c_44 => ?_)
        · refine lv_aload_n hx hb dX12_asked_49 rfl (lv_at hl 0 rfl) ?_
          refine va_get (D := D) (ci := 12) (v := .long Iword) (C := RX12) (T := TX12) (N := 89) hx hb hg i_X12 hown hK hP 0 rfl rfl 9 (by decide) (hg _ m_1422) (fun _ h9 => h9) rfl dX12_asked_50 ?_
          refine lv_ldc2 (v := 1819242087) hx hb hown (hg _ m_1761) dX12_asked_53 ?_
          refine x_lcmp hx hb dX12_asked_56 (fun x_4 ex_4 => ?_)
          refine lv_if_ne (tgt := 62) hx hb dX12_asked_57 (by decide) (fun c_57 => ?_) (fun c_57 => ?_)
          · refine lv_aload_n hx hb dX12_asked_62 rfl (lv_at hl 0 rfl) ?_
            refine va_get (D := D) (ci := 12) (v := .long Iword) (C := RX12) (T := TX12) (N := 89) hx hb hg i_X12 hown hK hP 0 rfl rfl 9 (by decide) (hg _ m_1422) (fun _ h9 => h9) rfl dX12_asked_63 ?_
            refine lv_ldc2 (v := 1819243876) hx hb hown (hg _ m_1744) dX12_asked_66 ?_
            refine x_lcmp hx hb dX12_asked_69 (fun x_5 ex_5 => ?_)
            refine lv_if_ne (tgt := 75) hx hb dX12_asked_70 (by decide) (fun c_70 => ?_) (fun c_70 => ?_)
            · refine lv_aload_n hx hb dX12_asked_75 rfl (lv_at hl 0 rfl) ?_
              refine va_get (D := D) (ci := 12) (v := .long Iword) (C := RX12) (T := TX12) (N := 89) hx hb hg i_X12 hown hK hP 0 rfl rfl 9 (by decide) (hg _ m_1422) (fun _ h9 => h9) rfl dX12_asked_76 ?_
              refine lv_ldc2 (v := 108187682958948) hx hb hown (hg _ m_1762) dX12_asked_79 ?_
              refine x_lcmp hx hb dX12_asked_82 (fun x_6 ex_6 => ?_)
              refine lv_if_ne (tgt := 88) hx hb dX12_asked_83 (by decide) (fun c_83 => ?_) (fun c_83 => ?_)
              · refine lv_aload_n hx hb dX12_asked_88 rfl (lv_at hl 0 rfl) ?_
                refine va_get (D := D) (ci := 12) (v := .long Iword) (C := RX12) (T := TX12) (N := 89) hx hb hg i_X12 hown hK hP 0 rfl rfl 9 (by decide) (hg _ m_1422) (fun _ h9 => h9) rfl dX12_asked_89 ?_
                refine lv_ldc2 (v := 109299962372965) hx hb hown (hg _ m_1763) dX12_asked_92 ?_
                refine x_lcmp hx hb dX12_asked_95 (fun x_7 ex_7 => ?_)
                refine lv_if_ne (tgt := 104) hx hb dX12_asked_96 (by decide) (fun c_96 => ?_) (fun c_96 => ?_)
                · refine lv_iconst (v := -1) hx hb dX12_asked_104 (by decide) ?_
                  exact x_iret hQ hx hb hr hlocks hK hP hD hS dX12_asked_105 0 ((show ((-1 : Int32) = nI 0 ∧ (0 ≤ 6) ∧ (117 ≤ knd Gtape Isize ga)) ∨ ((-1 : Int32) = -1 ∧ (¬ 117 ≤ knd Gtape Isize ga)) from Or.inr (⟨rfl, (ask_no hti c_5 (ow_17 ▸ fun h9 => c_18 (ex_1.mpr h9)) (ow_18 ▸ fun h9 => c_31 (ex_2.mpr h9)) (ow_19 ▸ fun h9 => c_44 (ex_3.mpr h9)) (ow_20 ▸ fun h9 => c_57 (ex_4.mpr h9)) (ow_21 ▸ fun h9 => c_70 (ex_5.mpr h9)) (ow_22 ▸ fun h9 => c_83 (ex_6.mpr h9)) (ow_23 ▸ fun h9 => c_96 (ex_7.mpr h9)))⟩))) [0] (by decide +kernel) rfl (Nat.le_of_ble_eq_true rfl) (Nat.le_of_ble_eq_true rfl)
                · refine lv_bipush (v := 6) hx hb dX12_asked_99 (by decide) ?_
                  refine lv_goto (tgt := 105) hx hb dX12_asked_101 (by decide) ?_
                  exact x_iret hQ hx hb hr hlocks hK hP hD hS dX12_asked_105 6 ((show ((6 : Int32) = nI 6 ∧ (6 ≤ 6) ∧ (117 ≤ knd Gtape Isize ga)) ∨ ((6 : Int32) = -1 ∧ (¬ 117 ≤ knd Gtape Isize ga)) from Or.inl ⟨rfl, (by decide), (by have h9 := isw_1 hti (k := 23) (by decide) c_5 ow_23 ex_7 c_96; omega)⟩)) [0] (by decide +kernel) rfl (Nat.le_of_ble_eq_true rfl) (Nat.le_of_ble_eq_true rfl)
              · refine lv_iconst (v := 5) hx hb dX12_asked_86 (by decide) ?_
                exact x_iret hQ hx hb hr hlocks hK hP hD hS dX12_asked_87 5 ((show ((5 : Int32) = nI 5 ∧ (5 ≤ 6) ∧ (117 ≤ knd Gtape Isize ga)) ∨ ((5 : Int32) = -1 ∧ (¬ 117 ≤ knd Gtape Isize ga)) from Or.inl ⟨rfl, (by decide), (by have h9 := isw_1 hti (k := 22) (by decide) c_5 ow_22 ex_6 c_83; omega)⟩)) [0] (by decide +kernel) rfl (Nat.le_of_ble_eq_true rfl) (Nat.le_of_ble_eq_true rfl)
            · refine lv_iconst (v := 4) hx hb dX12_asked_73 (by decide) ?_
              exact x_iret hQ hx hb hr hlocks hK hP hD hS dX12_asked_74 4 ((show ((4 : Int32) = nI 4 ∧ (4 ≤ 6) ∧ (117 ≤ knd Gtape Isize ga)) ∨ ((4 : Int32) = -1 ∧ (¬ 117 ≤ knd Gtape Isize ga)) from Or.inl ⟨rfl, (by decide), (by have h9 := isw_1 hti (k := 21) (by decide) c_5 ow_21 ex_5 c_70; omega)⟩)) [0] (by decide +kernel) rfl (Nat.le_of_ble_eq_true rfl) (Nat.le_of_ble_eq_true rfl)
          · refine lv_iconst (v := 3) hx hb dX12_asked_60 (by decide) ?_
            exact x_iret hQ hx hb hr hlocks hK hP hD hS dX12_asked_61 3 ((show ((3 : Int32) = nI 3 ∧ (3 ≤ 6) ∧ (117 ≤ knd Gtape Isize ga)) ∨ ((3 : Int32) = -1 ∧ (¬ 117 ≤ knd Gtape Isize ga)) from Or.inl ⟨rfl, (by decide), (by have h9 := isw_1 hti (k := 20) (by decide) c_5 ow_20 ex_4 c_57; omega)⟩)) [0] (by decide +kernel) rfl (Nat.le_of_ble_eq_true rfl) (Nat.le_of_ble_eq_true rfl)
        · refine lv_iconst (v := 2) hx hb dX12_asked_47 (by decide) ?_
          exact x_iret hQ hx hb hr hlocks hK hP hD hS dX12_asked_48 2 ((show ((2 : Int32) = nI 2 ∧ (2 ≤ 6) ∧ (117 ≤ knd Gtape Isize ga)) ∨ ((2 : Int32) = -1 ∧ (¬ 117 ≤ knd Gtape Isize ga)) from Or.inl ⟨rfl, (by decide), (by have h9 := isw_1 hti (k := 19) (by decide) c_5 ow_19 ex_3 c_44; omega)⟩)) [0] (by decide +kernel) rfl (Nat.le_of_ble_eq_true rfl) (Nat.le_of_ble_eq_true rfl)
      · refine lv_iconst (v := 1) hx hb dX12_asked_34 (by decide) ?_
        exact x_iret hQ hx hb hr hlocks hK hP hD hS dX12_asked_35 1 ((show ((1 : Int32) = nI 1 ∧ (1 ≤ 6) ∧ (117 ≤ knd Gtape Isize ga)) ∨ ((1 : Int32) = -1 ∧ (¬ 117 ≤ knd Gtape Isize ga)) from Or.inl ⟨rfl, (by decide), (by have h9 := isw_1 hti (k := 18) (by decide) c_5 ow_18 ex_2 c_31; omega)⟩)) [0] (by decide +kernel) rfl (Nat.le_of_ble_eq_true rfl) (Nat.le_of_ble_eq_true rfl)
    · refine lv_iconst (v := 0) hx hb dX12_asked_21 (by decide) ?_
      exact x_iret hQ hx hb hr hlocks hK hP hD hS dX12_asked_22 0 ((show ((0 : Int32) = nI 0 ∧ (0 ≤ 6) ∧ (117 ≤ knd Gtape Isize ga)) ∨ ((0 : Int32) = -1 ∧ (¬ 117 ≤ knd Gtape Isize ga)) from Or.inl ⟨rfl, (by decide), (by have h9 := isw_1 hti (k := 17) (by decide) c_5 ow_17 ex_1 c_18; omega)⟩)) [0] (by decide +kernel) rfl (Nat.le_of_ble_eq_true rfl) (Nat.le_of_ble_eq_true rfl)
  · refine lv_iconst (v := -1) hx hb dX12_asked_8 (by decide) ?_
    exact x_iret hQ hx hb hr hlocks hK hP hD hS dX12_asked_9 0 ((show ((-1 : Int32) = nI 0 ∧ (0 ≤ 6) ∧ (117 ≤ knd Gtape Isize ga)) ∨ ((-1 : Int32) = -1 ∧ (¬ 117 ≤ knd Gtape Isize ga)) from Or.inr (⟨rfl, (fun h9 => c_5 ((so_word hti).mpr (Or.inr (by omega))))⟩))) [0] (by decide +kernel) rfl (Nat.le_of_ble_eq_true rfl) (Nat.le_of_ble_eq_true rfl)
theorem gdX12_isFull_0 : decode cX12_isFull 0 = .ok (.aload_n 0, 1) ∧ decode cX12_isFull 1 = .ok (.getfield 296, 3) ∧ decode cX12_isFull 4 = .ok (.bipush 60, 2) ∧ decode cX12_isFull 6 = .ok (.if_icmp .eq 12, 3) ∧ decode cX12_isFull 18 = .ok (.iconst 1, 1) ∧ decode cX12_isFull 19 = .ok (.goto 4, 3) ∧ decode cX12_isFull 23 = .ok (.ireturn, 1) ∧ decode cX12_isFull 9 = .ok (.aload_n 0, 1) ∧ decode cX12_isFull 10 = .ok (.getfield 299, 3) ∧ decode cX12_isFull 13 = .ok (.bipush 30, 2) ∧ decode cX12_isFull 15 = .ok (.if_icmp .ne 7, 3) ∧ decode cX12_isFull 22 = .ok (.iconst 0, 1) := by decide +kernel
theorem dX12_isFull_0 : decode cX12_isFull 0 = .ok (.aload_n 0, 1) := gdX12_isFull_0.1
theorem dX12_isFull_1 : decode cX12_isFull 1 = .ok (.getfield 296, 3) := gdX12_isFull_0.2.1
theorem dX12_isFull_4 : decode cX12_isFull 4 = .ok (.bipush 60, 2) := gdX12_isFull_0.2.2.1
theorem dX12_isFull_6 : decode cX12_isFull 6 = .ok (.if_icmp .eq 12, 3) := gdX12_isFull_0.2.2.2.1
theorem dX12_isFull_18 : decode cX12_isFull 18 = .ok (.iconst 1, 1) := gdX12_isFull_0.2.2.2.2.1
theorem dX12_isFull_19 : decode cX12_isFull 19 = .ok (.goto 4, 3) := gdX12_isFull_0.2.2.2.2.2.1
theorem dX12_isFull_23 : decode cX12_isFull 23 = .ok (.ireturn, 1) := gdX12_isFull_0.2.2.2.2.2.2.1
theorem dX12_isFull_9 : decode cX12_isFull 9 = .ok (.aload_n 0, 1) := gdX12_isFull_0.2.2.2.2.2.2.2.1
theorem dX12_isFull_10 : decode cX12_isFull 10 = .ok (.getfield 299, 3) := gdX12_isFull_0.2.2.2.2.2.2.2.2.1
theorem dX12_isFull_13 : decode cX12_isFull 13 = .ok (.bipush 30, 2) := gdX12_isFull_0.2.2.2.2.2.2.2.2.2.1
theorem dX12_isFull_15 : decode cX12_isFull 15 = .ok (.if_icmp .ne 7, 3) := gdX12_isFull_0.2.2.2.2.2.2.2.2.2.2.1
theorem dX12_isFull_22 : decode cX12_isFull 22 = .ok (.iconst 0, 1) := gdX12_isFull_0.2.2.2.2.2.2.2.2.2.2.2
set_option maxHeartbeats 1000000 in
set_option maxRecDepth 100000 in
theorem r_isFull (l : Launch) (D : va_G) (cy : Nat → ClassId) (m0 : Nat) (Mtape : Nat) (MnName : Nat) (MnStep : Nat) (MnArg : Nat) (MnMany : Nat) (Mstep : Nat) (Marg : Nat) (Mmany : Nat) (Mopen : Nat) (Mvalues : Nat) (MnHasForm : Nat) (MhasForm : Nat) (Masks : Nat) (MnLoud : Nat) (MnCliffAt : Nat) (MnSnow : Nat) (MnManAt : Nat) (MnVoice : Nat) (MnOn : Nat) (Mloud : Nat) (McliffAt : Nat) (MsnowTold : Nat) (MmanAt : Nat) (Mvoice : Nat) (Mon : Nat) (MnYes : Nat) (Myes : Nat) (Mnow : Nat) (Mcry : Nat) (Msnow : Nat) (Mecho : Nat) (Mwere : Nat) (Mlies : Nat) (Mspots : Nat) (Msteps : Nat) (MfromState : Nat) (MbyWord : Nat) (Mqueue : Nat) (MsoundCliff : Nat) (MsoundLong : Nat) (MsoundCame : Nat) (MsoundTold : Nat) (MsoundUntold : Nat) (Mstands : Nat) (Mtally : Nat) (MhasBox : Nat) (Mboxes : Nat) (Itaped : Nat) (Ifault : Nat) (IfaultPlace : Int32) (Iat : Nat) (Isize : Nat) (Isort : Int32) (Iplace : Int32) (Inumber : Int32) (Iword : Int64) (Iform : Nat) (Iopens : Nat) (InUnits : Nat) (Iunits : Int32) (IownUnits : Nat) (Ideep : Nat) (InWords : Nat) (InCliffs : Nat) (InMen : Nat) (InStates : Nat) (InOns : Nat) (InWind : Int32) (InDraw : Int32) (Iwords : Nat) (Icliffs : Nat) (Imen : Nat) (Istates : Nat) (Ions : Int32) (IwindTold : Int32) (InHasWind : Int32) (InHasDraw : Int32) (IcryMany : Nat) (IcallPlace : Int32) (IcallVoice : Int32) (Iwind : Int32) (Ichance : Int32) (IechoMany : Nat) (Iacts : Nat) (Iundone : Nat) (Ilain : Nat) (Isounds : Nat) (Itime : Int32) (IstandMany : Int32) (gtp : Itaped ≤ 1600) (gat : Iat ≤ Isize) (gsz : Isize ≤ 1600) (gfl : Ifault ≤ 5) (gfo : Iform ≤ 2) (gnw : InWords ≤ 8) (gnc : InCliffs ≤ 4) (gnm : InMen ≤ 4) (gns : InStates ≤ 6) (gw : Iwords ≤ 8) (gc9 : Icliffs ≤ 4) (gm : Imen ≤ 4) (gs : Istates ≤ 6) (gcm : IcryMany ≤ 10) (gem : IechoMany ≤ 20) (gau : Iacts + Iundone ≤ 40) (gla : Ilain ≤ 20) (gso : Isounds ≤ 30) (gop : Iopens ≤ 40) (gde : Ideep ≤ 8) (gou : IownUnits ≤ 31) (gnu : InUnits ≤ 61) (gno : InOns ≤ 30) : XMi l D (tyL cy) E0 yX12_isFull cX12_isFull 1 (some .boolean) (rmk 0 0 0) [.ref m0] [wO m0 12 [.ref Mtape, .int (nI Itaped), .int (nI Ifault), .int IfaultPlace, .int (nI Iat), .int (nI Isize), .int Isort, .int Iplace, .int Inumber, .long Iword, .ref MnName, .ref MnStep, .ref MnArg, .ref MnMany, .ref Mstep, .ref Marg, .ref Mmany, .ref Mopen, .ref Mvalues, .ref MnHasForm, .ref MhasForm, .int (nI Iform), .int (nI Iopens), .int (nI InUnits), .int Iunits, .int (nI IownUnits), .int (nI Ideep), .ref Masks, .ref MnLoud, .ref MnCliffAt, .ref MnSnow, .ref MnManAt, .ref MnVoice, .ref MnOn, .ref Mloud, .ref McliffAt, .ref MsnowTold, .ref MmanAt, .ref Mvoice, .ref Mon, .ref MnYes, .ref Myes, .int (nI InWords), .int (nI InCliffs), .int (nI InMen), .int (nI InStates), .int (nI InOns), .int InWind, .int InDraw, .int (nI Iwords), .int (nI Icliffs), .int (nI Imen), .int (nI Istates), .int Ions, .int IwindTold, .int InHasWind, .int InHasDraw, .ref Mnow, .ref Mcry, .ref Msnow, .ref Mecho, .int (nI IcryMany), .int IcallPlace, .int IcallVoice, .int Iwind, .int Ichance, .int (nI IechoMany), .ref Mwere, .int (nI Iacts), .int (nI Iundone), .ref Mlies, .int (nI Ilain), .ref Mspots, .ref Msteps, .ref MfromState, .ref MbyWord, .ref Mqueue, .ref MsoundCliff, .ref MsoundLong, .ref MsoundCame, .ref MsoundTold, .ref MsoundUntold, .int (nI Isounds), .int Itime, .ref Mstands, .int IstandMany, .ref Mtally, .ref MhasBox, .ref Mboxes]] (fun (r : Int32) (_ : Unit) => ((r = 1 ∧ (InUnits = 60 ∨ IownUnits = 30)) ∨ (r = 0 ∧ (¬ (InUnits = 60 ∨ IownUnits = 30))))) (fun (_ : Unit) => [wO m0 12 [.ref Mtape, .int (nI Itaped), .int (nI Ifault), .int IfaultPlace, .int (nI Iat), .int (nI Isize), .int Isort, .int Iplace, .int Inumber, .long Iword, .ref MnName, .ref MnStep, .ref MnArg, .ref MnMany, .ref Mstep, .ref Marg, .ref Mmany, .ref Mopen, .ref Mvalues, .ref MnHasForm, .ref MhasForm, .int (nI Iform), .int (nI Iopens), .int (nI InUnits), .int Iunits, .int (nI IownUnits), .int (nI Ideep), .ref Masks, .ref MnLoud, .ref MnCliffAt, .ref MnSnow, .ref MnManAt, .ref MnVoice, .ref MnOn, .ref Mloud, .ref McliffAt, .ref MsnowTold, .ref MmanAt, .ref Mvoice, .ref Mon, .ref MnYes, .ref Myes, .int (nI InWords), .int (nI InCliffs), .int (nI InMen), .int (nI InStates), .int (nI InOns), .int InWind, .int InDraw, .int (nI Iwords), .int (nI Icliffs), .int (nI Imen), .int (nI Istates), .int Ions, .int IwindTold, .int InHasWind, .int InHasDraw, .ref Mnow, .ref Mcry, .ref Msnow, .ref Mecho, .int (nI IcryMany), .int IcallPlace, .int IcallVoice, .int Iwind, .int Ichance, .int (nI IechoMany), .ref Mwere, .int (nI Iacts), .int (nI Iundone), .ref Mlies, .int (nI Ilain), .ref Mspots, .ref Msteps, .ref MfromState, .ref MbyWord, .ref Mqueue, .ref MsoundCliff, .ref MsoundLong, .ref MsoundCame, .ref MsoundTold, .ref MsoundUntold, .int (nI Isounds), .int Itime, .ref Mstands, .int IstandMany, .ref Mtally, .ref MhasBox, .ref Mboxes]]) := by
  refine XMi.start (by decide) (Nat.le_of_ble_eq_true rfl) ?_
  intro p e s m below meth c args A ls Q hat hQ
  obtain ⟨hx, hb, hr, hml, hown, hg, hlocks, hin, hK, hA, hP, hD, hS, hE, hl⟩ := hat
  have hown : s.vm.findClass RX12 = some m.cls := hown
  have hl : lv_has ls 1 [(0, .ref m0)] := hl
  refine lv_aload_n hx hb dX12_isFull_0 rfl (lv_at hl 0 rfl) ?_
  refine va_get (D := D) (ci := 12) (v := .int (nI InUnits)) (C := RX12) (T := TX12) (N := 89) hx hb hg i_X12 hown hK hP 0 rfl rfl 23 (by decide) (hg _ m_1436) (fun _ h9 => h9) rfl dX12_isFull_1 ?_
  refine lv_bipush (v := 60) hx hb dX12_isFull_4 (by decide) ?_
  refine lv_icmp_eq (tgt := 18) hx hb dX12_isFull_6 (by decide) (fun c_1 => ?_) (fun c_1 => ?_)
  · have q_2 : InUnits = 60 := q_eq (a := InUnits) (b := 60) rfl rfl (by omega) (by omega) c_1
    refine lv_iconst (v := 1) hx hb dX12_isFull_18 (by decide) ?_
    refine lv_goto (tgt := 23) hx hb dX12_isFull_19 (by decide) ?_
    exact x_zret hQ hx hb hr hlocks hK hP hD hS rfl dX12_isFull_23 () ((show ((1 : Int32) = 1 ∧ (InUnits = 60 ∨ IownUnits = 30)) ∨ ((1 : Int32) = 0 ∧ (¬ (InUnits = 60 ∨ IownUnits = 30))) from Or.inl ⟨rfl, (by omega)⟩)) [0] (by decide +kernel) rfl (Nat.le_of_ble_eq_true rfl) (Nat.le_of_ble_eq_true rfl)
  · have q_2 : ¬ InUnits = 60 := q_ne (a := InUnits) (b := 60) rfl rfl (by omega) (by omega) c_1
    refine lv_aload_n hx hb dX12_isFull_9 rfl (lv_at hl 0 rfl) ?_
    refine va_get (D := D) (ci := 12) (v := .int (nI IownUnits)) (C := RX12) (T := TX12) (N := 89) hx hb hg i_X12 hown hK hP 0 rfl rfl 25 (by decide) (hg _ m_1438) (fun _ h9 => h9) rfl dX12_isFull_10 ?_
    refine lv_bipush (v := 30) hx hb dX12_isFull_13 (by decide) ?_
    refine lv_icmp_ne (tgt := 22) hx hb dX12_isFull_15 (by decide) (fun c_3 => ?_) (fun c_3 => ?_)
    · have q_4 : ¬ IownUnits = 30 := q_ne (a := IownUnits) (b := 30) rfl rfl (by omega) (by omega) c_3
      refine lv_iconst (v := 0) hx hb dX12_isFull_22 (by decide) ?_
      exact x_zret hQ hx hb hr hlocks hK hP hD hS rfl dX12_isFull_23 () ((show ((0 : Int32) = 1 ∧ (InUnits = 60 ∨ IownUnits = 30)) ∨ ((0 : Int32) = 0 ∧ (¬ (InUnits = 60 ∨ IownUnits = 30))) from Or.inr (⟨rfl, (by omega)⟩))) [0] (by decide +kernel) rfl (Nat.le_of_ble_eq_true rfl) (Nat.le_of_ble_eq_true rfl)
    · have q_4 : IownUnits = 30 := q_eq (a := IownUnits) (b := 30) rfl rfl (by omega) (by omega) c_3
      refine lv_iconst (v := 1) hx hb dX12_isFull_18 (by decide) ?_
      refine lv_goto (tgt := 23) hx hb dX12_isFull_19 (by decide) ?_
      exact x_zret hQ hx hb hr hlocks hK hP hD hS rfl dX12_isFull_23 () ((show ((1 : Int32) = 1 ∧ (InUnits = 60 ∨ IownUnits = 30)) ∨ ((1 : Int32) = 0 ∧ (¬ (InUnits = 60 ∨ IownUnits = 30))) from Or.inl ⟨rfl, (by omega)⟩)) [0] (by decide +kernel) rfl (Nat.le_of_ble_eq_true rfl) (Nat.le_of_ble_eq_true rfl)
theorem gdX12_countUnit_0 : decode cX12_countUnit 0 = .ok (.aload_n 0, 1) ∧ decode cX12_countUnit 1 = .ok (.dup, 1) ∧ decode cX12_countUnit 2 = .ok (.getfield 296, 3) ∧ decode cX12_countUnit 5 = .ok (.iconst 1, 1) ∧ decode cX12_countUnit 6 = .ok (.iadd, 1) ∧ decode cX12_countUnit 7 = .ok (.putfield 296, 3) ∧ decode cX12_countUnit 10 = .ok (.aload_n 0, 1) ∧ decode cX12_countUnit 11 = .ok (.dup, 1) ∧ decode cX12_countUnit 12 = .ok (.getfield 299, 3) ∧ decode cX12_countUnit 15 = .ok (.iconst 1, 1) ∧ decode cX12_countUnit 16 = .ok (.iadd, 1) ∧ decode cX12_countUnit 17 = .ok (.putfield 299, 3) := by decide +kernel
theorem dX12_countUnit_0 : decode cX12_countUnit 0 = .ok (.aload_n 0, 1) := gdX12_countUnit_0.1
theorem dX12_countUnit_1 : decode cX12_countUnit 1 = .ok (.dup, 1) := gdX12_countUnit_0.2.1
theorem dX12_countUnit_2 : decode cX12_countUnit 2 = .ok (.getfield 296, 3) := gdX12_countUnit_0.2.2.1
theorem dX12_countUnit_5 : decode cX12_countUnit 5 = .ok (.iconst 1, 1) := gdX12_countUnit_0.2.2.2.1
theorem dX12_countUnit_6 : decode cX12_countUnit 6 = .ok (.iadd, 1) := gdX12_countUnit_0.2.2.2.2.1
theorem dX12_countUnit_7 : decode cX12_countUnit 7 = .ok (.putfield 296, 3) := gdX12_countUnit_0.2.2.2.2.2.1
theorem dX12_countUnit_10 : decode cX12_countUnit 10 = .ok (.aload_n 0, 1) := gdX12_countUnit_0.2.2.2.2.2.2.1
theorem dX12_countUnit_11 : decode cX12_countUnit 11 = .ok (.dup, 1) := gdX12_countUnit_0.2.2.2.2.2.2.2.1
theorem dX12_countUnit_12 : decode cX12_countUnit 12 = .ok (.getfield 299, 3) := gdX12_countUnit_0.2.2.2.2.2.2.2.2.1
theorem dX12_countUnit_15 : decode cX12_countUnit 15 = .ok (.iconst 1, 1) := gdX12_countUnit_0.2.2.2.2.2.2.2.2.2.1
theorem dX12_countUnit_16 : decode cX12_countUnit 16 = .ok (.iadd, 1) := gdX12_countUnit_0.2.2.2.2.2.2.2.2.2.2.1
theorem dX12_countUnit_17 : decode cX12_countUnit 17 = .ok (.putfield 299, 3) := gdX12_countUnit_0.2.2.2.2.2.2.2.2.2.2.2
theorem dX12_countUnit_20 : decode cX12_countUnit 20 = .ok (.return_, 1) := by decide +kernel
set_option maxHeartbeats 1000000 in
set_option maxRecDepth 100000 in
theorem r_countUnit (l : Launch) (D : va_G) (cy : Nat → ClassId) (m0 : Nat) (Mtape : Nat) (MnName : Nat) (MnStep : Nat) (MnArg : Nat) (MnMany : Nat) (Mstep : Nat) (Marg : Nat) (Mmany : Nat) (Mopen : Nat) (Mvalues : Nat) (MnHasForm : Nat) (MhasForm : Nat) (Masks : Nat) (MnLoud : Nat) (MnCliffAt : Nat) (MnSnow : Nat) (MnManAt : Nat) (MnVoice : Nat) (MnOn : Nat) (Mloud : Nat) (McliffAt : Nat) (MsnowTold : Nat) (MmanAt : Nat) (Mvoice : Nat) (Mon : Nat) (MnYes : Nat) (Myes : Nat) (Mnow : Nat) (Mcry : Nat) (Msnow : Nat) (Mecho : Nat) (Mwere : Nat) (Mlies : Nat) (Mspots : Nat) (Msteps : Nat) (MfromState : Nat) (MbyWord : Nat) (Mqueue : Nat) (MsoundCliff : Nat) (MsoundLong : Nat) (MsoundCame : Nat) (MsoundTold : Nat) (MsoundUntold : Nat) (Mstands : Nat) (Mtally : Nat) (MhasBox : Nat) (Mboxes : Nat) (Itaped : Nat) (Ifault : Nat) (IfaultPlace : Int32) (Iat : Nat) (Isize : Nat) (Isort : Int32) (Iplace : Int32) (Inumber : Int32) (Iword : Int64) (Iform : Nat) (Iopens : Nat) (InUnits : Nat) (Iunits : Int32) (IownUnits : Nat) (Ideep : Nat) (InWords : Nat) (InCliffs : Nat) (InMen : Nat) (InStates : Nat) (InOns : Nat) (InWind : Int32) (InDraw : Int32) (Iwords : Nat) (Icliffs : Nat) (Imen : Nat) (Istates : Nat) (Ions : Int32) (IwindTold : Int32) (InHasWind : Int32) (InHasDraw : Int32) (IcryMany : Nat) (IcallPlace : Int32) (IcallVoice : Int32) (Iwind : Int32) (Ichance : Int32) (IechoMany : Nat) (Iacts : Nat) (Iundone : Nat) (Ilain : Nat) (Isounds : Nat) (Itime : Int32) (IstandMany : Int32) (gtp : Itaped ≤ 1600) (gat : Iat ≤ Isize) (gsz : Isize ≤ 1600) (gfl : Ifault ≤ 5) (gfo : Iform ≤ 2) (gnw : InWords ≤ 8) (gnc : InCliffs ≤ 4) (gnm : InMen ≤ 4) (gns : InStates ≤ 6) (gw : Iwords ≤ 8) (gc9 : Icliffs ≤ 4) (gm : Imen ≤ 4) (gs : Istates ≤ 6) (gcm : IcryMany ≤ 10) (gem : IechoMany ≤ 20) (gau : Iacts + Iundone ≤ 40) (gla : Ilain ≤ 20) (gso : Isounds ≤ 30) (gop : Iopens ≤ 40) (gde : Ideep ≤ 8) (gou : IownUnits ≤ 31) (gnu : InUnits ≤ 61) (gno : InOns ≤ 30) (hw30 : IownUnits ≤ 30 ∧ InUnits ≤ 60) : XMv l D (tyL cy) E0 yX12_countUnit cX12_countUnit 1 none (rmk 0 0 0) [.ref m0] [wO m0 12 [.ref Mtape, .int (nI Itaped), .int (nI Ifault), .int IfaultPlace, .int (nI Iat), .int (nI Isize), .int Isort, .int Iplace, .int Inumber, .long Iword, .ref MnName, .ref MnStep, .ref MnArg, .ref MnMany, .ref Mstep, .ref Marg, .ref Mmany, .ref Mopen, .ref Mvalues, .ref MnHasForm, .ref MhasForm, .int (nI Iform), .int (nI Iopens), .int (nI InUnits), .int Iunits, .int (nI IownUnits), .int (nI Ideep), .ref Masks, .ref MnLoud, .ref MnCliffAt, .ref MnSnow, .ref MnManAt, .ref MnVoice, .ref MnOn, .ref Mloud, .ref McliffAt, .ref MsnowTold, .ref MmanAt, .ref Mvoice, .ref Mon, .ref MnYes, .ref Myes, .int (nI InWords), .int (nI InCliffs), .int (nI InMen), .int (nI InStates), .int (nI InOns), .int InWind, .int InDraw, .int (nI Iwords), .int (nI Icliffs), .int (nI Imen), .int (nI Istates), .int Ions, .int IwindTold, .int InHasWind, .int InHasDraw, .ref Mnow, .ref Mcry, .ref Msnow, .ref Mecho, .int (nI IcryMany), .int IcallPlace, .int IcallVoice, .int Iwind, .int Ichance, .int (nI IechoMany), .ref Mwere, .int (nI Iacts), .int (nI Iundone), .ref Mlies, .int (nI Ilain), .ref Mspots, .ref Msteps, .ref MfromState, .ref MbyWord, .ref Mqueue, .ref MsoundCliff, .ref MsoundLong, .ref MsoundCame, .ref MsoundTold, .ref MsoundUntold, .int (nI Isounds), .int Itime, .ref Mstands, .int IstandMany, .ref Mtally, .ref MhasBox, .ref Mboxes]] (fun (u : Nat × Nat) => (u.2 ≤ 31) ∧ (u.1 ≤ 61) ∧ (u.2 = IownUnits + 1) ∧ (u.1 = InUnits + 1)) (fun (u : Nat × Nat) => [wO m0 12 [.ref Mtape, .int (nI Itaped), .int (nI Ifault), .int IfaultPlace, .int (nI Iat), .int (nI Isize), .int Isort, .int Iplace, .int Inumber, .long Iword, .ref MnName, .ref MnStep, .ref MnArg, .ref MnMany, .ref Mstep, .ref Marg, .ref Mmany, .ref Mopen, .ref Mvalues, .ref MnHasForm, .ref MhasForm, .int (nI Iform), .int (nI Iopens), .int (nI u.1), .int Iunits, .int (nI u.2), .int (nI Ideep), .ref Masks, .ref MnLoud, .ref MnCliffAt, .ref MnSnow, .ref MnManAt, .ref MnVoice, .ref MnOn, .ref Mloud, .ref McliffAt, .ref MsnowTold, .ref MmanAt, .ref Mvoice, .ref Mon, .ref MnYes, .ref Myes, .int (nI InWords), .int (nI InCliffs), .int (nI InMen), .int (nI InStates), .int (nI InOns), .int InWind, .int InDraw, .int (nI Iwords), .int (nI Icliffs), .int (nI Imen), .int (nI Istates), .int Ions, .int IwindTold, .int InHasWind, .int InHasDraw, .ref Mnow, .ref Mcry, .ref Msnow, .ref Mecho, .int (nI IcryMany), .int IcallPlace, .int IcallVoice, .int Iwind, .int Ichance, .int (nI IechoMany), .ref Mwere, .int (nI Iacts), .int (nI Iundone), .ref Mlies, .int (nI Ilain), .ref Mspots, .ref Msteps, .ref MfromState, .ref MbyWord, .ref Mqueue, .ref MsoundCliff, .ref MsoundLong, .ref MsoundCame, .ref MsoundTold, .ref MsoundUntold, .int (nI Isounds), .int Itime, .ref Mstands, .int IstandMany, .ref Mtally, .ref MhasBox, .ref Mboxes]]) := by
  refine XMv.start (by decide) (Nat.le_of_ble_eq_true rfl) ?_
  intro p e s m below meth c args A ls Q hat hQ
  obtain ⟨hx, hb, hr, hml, hown, hg, hlocks, hin, hK, hA, hP, hD, hS, hE, hl⟩ := hat
  have hown : s.vm.findClass RX12 = some m.cls := hown
  have hl : lv_has ls 1 [(0, .ref m0)] := hl
  refine lv_aload_n hx hb dX12_countUnit_0 rfl (lv_at hl 0 rfl) ?_
  refine lv_dup hx hb dX12_countUnit_1 rfl ?_
  refine va_get (D := D) (ci := 12) (v := .int (nI InUnits)) (C := RX12) (T := TX12) (N := 89) hx hb hg i_X12 hown hK hP 0 rfl rfl 23 (by decide) (hg _ m_1436) (fun _ h9 => h9) rfl dX12_countUnit_2 ?_
  refine lv_iconst (v := 1) hx hb dX12_countUnit_5 (by decide) ?_
  refine lv_iadd hx hb dX12_countUnit_6 ?_
  refine lv_topi (fun y_1 hy_1 => ?_)
  obtain rfl : y_1 = nI (InUnits + 1) := hy_1.trans (nI_add InUnits 1)
  refine va_put (D := D) (ci := 12) (v := .int (nI (InUnits + 1))) (ty := .int) (C := RX12) (T := TX12) (N := 89) hx hb hg i_X12 tyX12 tyX12_ok nmX12 hown hK hP hD hS 0 rfl rfl 23 (by decide) (hg _ m_1436) (fun _ h9 => h9) rfl (by decide +kernel) rfl rfl (Nat.le_of_ble_eq_true rfl) dX12_countUnit_7 (fun H locs hP9 hD9 hS9 => ?_)
  clear hP hD hS
  refine reW [wO m0 12 [.ref Mtape, .int (nI Itaped), .int (nI Ifault), .int IfaultPlace, .int (nI Iat), .int (nI Isize), .int Isort, .int Iplace, .int Inumber, .long Iword, .ref MnName, .ref MnStep, .ref MnArg, .ref MnMany, .ref Mstep, .ref Marg, .ref Mmany, .ref Mopen, .ref Mvalues, .ref MnHasForm, .ref MhasForm, .int (nI Iform), .int (nI Iopens), .int (nI (InUnits + 1)), .int Iunits, .int (nI IownUnits), .int (nI Ideep), .ref Masks, .ref MnLoud, .ref MnCliffAt, .ref MnSnow, .ref MnManAt, .ref MnVoice, .ref MnOn, .ref Mloud, .ref McliffAt, .ref MsnowTold, .ref MmanAt, .ref Mvoice, .ref Mon, .ref MnYes, .ref Myes, .int (nI InWords), .int (nI InCliffs), .int (nI InMen), .int (nI InStates), .int (nI InOns), .int InWind, .int InDraw, .int (nI Iwords), .int (nI Icliffs), .int (nI Imen), .int (nI Istates), .int Ions, .int IwindTold, .int InHasWind, .int InHasDraw, .ref Mnow, .ref Mcry, .ref Msnow, .ref Mecho, .int (nI IcryMany), .int IcallPlace, .int IcallVoice, .int Iwind, .int Ichance, .int (nI IechoMany), .ref Mwere, .int (nI Iacts), .int (nI Iundone), .ref Mlies, .int (nI Ilain), .ref Mspots, .ref Msteps, .ref MfromState, .ref MbyWord, .ref Mqueue, .ref MsoundCliff, .ref MsoundLong, .ref MsoundCame, .ref MsoundTold, .ref MsoundUntold, .int (nI Isounds), .int Itime, .ref Mstands, .int IstandMany, .ref Mtally, .ref MhasBox, .ref Mboxes]] hP9 hD9 hS9 (fun hP hD hS => ?_)
  clear hP9 hD9 hS9
  refine lv_aload_n hx hb dX12_countUnit_10 rfl (lv_at hl 0 rfl) ?_
  refine lv_dup hx hb dX12_countUnit_11 rfl ?_
  refine va_get (D := D) (ci := 12) (v := .int (nI IownUnits)) (C := RX12) (T := TX12) (N := 89) hx hb hg i_X12 hown hK hP 0 rfl rfl 25 (by decide) (hg _ m_1438) (fun _ h9 => h9) rfl dX12_countUnit_12 ?_
  refine lv_iconst (v := 1) hx hb dX12_countUnit_15 (by decide) ?_
  refine lv_iadd hx hb dX12_countUnit_16 ?_
  refine lv_topi (fun y_2 hy_2 => ?_)
  obtain rfl : y_2 = nI (IownUnits + 1) := hy_2.trans (nI_add IownUnits 1)
  refine va_put (D := D) (ci := 12) (v := .int (nI (IownUnits + 1))) (ty := .int) (C := RX12) (T := TX12) (N := 89) hx hb hg i_X12 tyX12 tyX12_ok nmX12 hown hK hP hD hS 0 rfl rfl 25 (by decide) (hg _ m_1438) (fun _ h9 => h9) rfl (by decide +kernel) rfl rfl (Nat.le_of_ble_eq_true rfl) dX12_countUnit_17 (fun H locs hP9 hD9 hS9 => ?_)
  clear hP hD hS
  refine reW [wO m0 12 [.ref Mtape, .int (nI Itaped), .int (nI Ifault), .int IfaultPlace, .int (nI Iat), .int (nI Isize), .int Isort, .int Iplace, .int Inumber, .long Iword, .ref MnName, .ref MnStep, .ref MnArg, .ref MnMany, .ref Mstep, .ref Marg, .ref Mmany, .ref Mopen, .ref Mvalues, .ref MnHasForm, .ref MhasForm, .int (nI Iform), .int (nI Iopens), .int (nI (InUnits + 1)), .int Iunits, .int (nI (IownUnits + 1)), .int (nI Ideep), .ref Masks, .ref MnLoud, .ref MnCliffAt, .ref MnSnow, .ref MnManAt, .ref MnVoice, .ref MnOn, .ref Mloud, .ref McliffAt, .ref MsnowTold, .ref MmanAt, .ref Mvoice, .ref Mon, .ref MnYes, .ref Myes, .int (nI InWords), .int (nI InCliffs), .int (nI InMen), .int (nI InStates), .int (nI InOns), .int InWind, .int InDraw, .int (nI Iwords), .int (nI Icliffs), .int (nI Imen), .int (nI Istates), .int Ions, .int IwindTold, .int InHasWind, .int InHasDraw, .ref Mnow, .ref Mcry, .ref Msnow, .ref Mecho, .int (nI IcryMany), .int IcallPlace, .int IcallVoice, .int Iwind, .int Ichance, .int (nI IechoMany), .ref Mwere, .int (nI Iacts), .int (nI Iundone), .ref Mlies, .int (nI Ilain), .ref Mspots, .ref Msteps, .ref MfromState, .ref MbyWord, .ref Mqueue, .ref MsoundCliff, .ref MsoundLong, .ref MsoundCame, .ref MsoundTold, .ref MsoundUntold, .int (nI Isounds), .int Itime, .ref Mstands, .int IstandMany, .ref Mtally, .ref MhasBox, .ref Mboxes]] hP9 hD9 hS9 (fun hP hD hS => ?_)
  clear hP9 hD9 hS9
  exact x_vret hQ hx hb hr hlocks hK hP hD hS dX12_countUnit_20 ((InUnits + 1), (IownUnits + 1)) (⟨(show ((IownUnits + 1)) ≤ 31 from by omega), (show ((InUnits + 1)) ≤ 61 from by omega), (show ((IownUnits + 1)) = IownUnits + 1 from by omega), (show ((InUnits + 1)) = InUnits + 1 from by omega)⟩) [0] (by decide +kernel) rfl (Nat.le_of_ble_eq_true rfl) (Nat.le_of_ble_eq_true rfl)
theorem gdX12_openUp_0 : decode cX12_openUp 0 = .ok (.aload_n 0, 1) ∧ decode cX12_openUp 1 = .ok (.getfield 39, 3) ∧ decode cX12_openUp 4 = .ok (.aload_n 0, 1) ∧ decode cX12_openUp 5 = .ok (.getfield 283, 3) ∧ decode cX12_openUp 8 = .ok (.iload_n 1, 1) ∧ decode cX12_openUp 9 = .ok (.iastore, 1) ∧ decode cX12_openUp 10 = .ok (.aload_n 0, 1) ∧ decode cX12_openUp 11 = .ok (.dup, 1) ∧ decode cX12_openUp 12 = .ok (.getfield 283, 3) ∧ decode cX12_openUp 15 = .ok (.iconst 1, 1) ∧ decode cX12_openUp 16 = .ok (.iadd, 1) ∧ decode cX12_openUp 17 = .ok (.putfield 283, 3) := by decide +kernel
theorem dX12_openUp_0 : decode cX12_openUp 0 = .ok (.aload_n 0, 1) := gdX12_openUp_0.1
theorem dX12_openUp_1 : decode cX12_openUp 1 = .ok (.getfield 39, 3) := gdX12_openUp_0.2.1
theorem dX12_openUp_4 : decode cX12_openUp 4 = .ok (.aload_n 0, 1) := gdX12_openUp_0.2.2.1
theorem dX12_openUp_5 : decode cX12_openUp 5 = .ok (.getfield 283, 3) := gdX12_openUp_0.2.2.2.1
theorem dX12_openUp_8 : decode cX12_openUp 8 = .ok (.iload_n 1, 1) := gdX12_openUp_0.2.2.2.2.1
theorem dX12_openUp_9 : decode cX12_openUp 9 = .ok (.iastore, 1) := gdX12_openUp_0.2.2.2.2.2.1
theorem dX12_openUp_10 : decode cX12_openUp 10 = .ok (.aload_n 0, 1) := gdX12_openUp_0.2.2.2.2.2.2.1
theorem dX12_openUp_11 : decode cX12_openUp 11 = .ok (.dup, 1) := gdX12_openUp_0.2.2.2.2.2.2.2.1
theorem dX12_openUp_12 : decode cX12_openUp 12 = .ok (.getfield 283, 3) := gdX12_openUp_0.2.2.2.2.2.2.2.2.1
theorem dX12_openUp_15 : decode cX12_openUp 15 = .ok (.iconst 1, 1) := gdX12_openUp_0.2.2.2.2.2.2.2.2.2.1
theorem dX12_openUp_16 : decode cX12_openUp 16 = .ok (.iadd, 1) := gdX12_openUp_0.2.2.2.2.2.2.2.2.2.2.1
theorem dX12_openUp_17 : decode cX12_openUp 17 = .ok (.putfield 283, 3) := gdX12_openUp_0.2.2.2.2.2.2.2.2.2.2.2
theorem gdX12_openUp_20 : decode cX12_openUp 20 = .ok (.aload_n 0, 1) ∧ decode cX12_openUp 21 = .ok (.dup, 1) ∧ decode cX12_openUp 22 = .ok (.getfield 293, 3) ∧ decode cX12_openUp 25 = .ok (.iconst 1, 1) ∧ decode cX12_openUp 26 = .ok (.iadd, 1) ∧ decode cX12_openUp 27 = .ok (.putfield 293, 3) ∧ decode cX12_openUp 30 = .ok (.aload_n 0, 1) ∧ decode cX12_openUp 31 = .ok (.getfield 197, 3) ∧ decode cX12_openUp 34 = .ok (.ifCond .ne 7, 3) ∧ decode cX12_openUp 37 = .ok (.aload_n 0, 1) ∧ decode cX12_openUp 38 = .ok (.invokevirtual 259, 3) ∧ decode cX12_openUp 41 = .ok (.return_, 1) := by decide +kernel
theorem dX12_openUp_20 : decode cX12_openUp 20 = .ok (.aload_n 0, 1) := gdX12_openUp_20.1
theorem dX12_openUp_21 : decode cX12_openUp 21 = .ok (.dup, 1) := gdX12_openUp_20.2.1
theorem dX12_openUp_22 : decode cX12_openUp 22 = .ok (.getfield 293, 3) := gdX12_openUp_20.2.2.1
theorem dX12_openUp_25 : decode cX12_openUp 25 = .ok (.iconst 1, 1) := gdX12_openUp_20.2.2.2.1
theorem dX12_openUp_26 : decode cX12_openUp 26 = .ok (.iadd, 1) := gdX12_openUp_20.2.2.2.2.1
theorem dX12_openUp_27 : decode cX12_openUp 27 = .ok (.putfield 293, 3) := gdX12_openUp_20.2.2.2.2.2.1
theorem dX12_openUp_30 : decode cX12_openUp 30 = .ok (.aload_n 0, 1) := gdX12_openUp_20.2.2.2.2.2.2.1
theorem dX12_openUp_31 : decode cX12_openUp 31 = .ok (.getfield 197, 3) := gdX12_openUp_20.2.2.2.2.2.2.2.1
theorem dX12_openUp_34 : decode cX12_openUp 34 = .ok (.ifCond .ne 7, 3) := gdX12_openUp_20.2.2.2.2.2.2.2.2.1
theorem dX12_openUp_37 : decode cX12_openUp 37 = .ok (.aload_n 0, 1) := gdX12_openUp_20.2.2.2.2.2.2.2.2.2.1
theorem dX12_openUp_38 : decode cX12_openUp 38 = .ok (.invokevirtual 259, 3) := gdX12_openUp_20.2.2.2.2.2.2.2.2.2.2.1
theorem dX12_openUp_41 : decode cX12_openUp 41 = .ok (.return_, 1) := gdX12_openUp_20.2.2.2.2.2.2.2.2.2.2.2
set_option maxHeartbeats 1000000 in
set_option maxRecDepth 100000 in
theorem r_openUp (l : Launch) (D : va_G) (cy : Nat → ClassId) (m0 : Nat) (Mtape : Nat) (MnName : Nat) (MnStep : Nat) (MnArg : Nat) (MnMany : Nat) (Mstep : Nat) (Marg : Nat) (Mmany : Nat) (Mopen : Nat) (Mvalues : Nat) (MnHasForm : Nat) (MhasForm : Nat) (Masks : Nat) (MnLoud : Nat) (MnCliffAt : Nat) (MnSnow : Nat) (MnManAt : Nat) (MnVoice : Nat) (MnOn : Nat) (Mloud : Nat) (McliffAt : Nat) (MsnowTold : Nat) (MmanAt : Nat) (Mvoice : Nat) (Mon : Nat) (MnYes : Nat) (Myes : Nat) (Mnow : Nat) (Mcry : Nat) (Msnow : Nat) (Mecho : Nat) (Mwere : Nat) (Mlies : Nat) (Mspots : Nat) (Msteps : Nat) (MfromState : Nat) (MbyWord : Nat) (Mqueue : Nat) (MsoundCliff : Nat) (MsoundLong : Nat) (MsoundCame : Nat) (MsoundTold : Nat) (MsoundUntold : Nat) (Mstands : Nat) (Mtally : Nat) (MhasBox : Nat) (Mboxes : Nat) (Gtape : Nat → Int32) (Itaped : Nat) (Ifault : Nat) (IfaultPlace : Int32) (Iat : Nat) (Isize : Nat) (Isort : Int32) (Iplace : Int32) (Inumber : Int32) (Iword : Int64) (Gopen : Nat → Int32) (Iform : Nat) (Iopens : Nat) (InUnits : Nat) (Iunits : Int32) (IownUnits : Nat) (Ideep : Nat) (InWords : Nat) (InCliffs : Nat) (InMen : Nat) (InStates : Nat) (InOns : Nat) (InWind : Int32) (InDraw : Int32) (Iwords : Nat) (Icliffs : Nat) (Imen : Nat) (Istates : Nat) (Ions : Int32) (IwindTold : Int32) (InHasWind : Int32) (InHasDraw : Int32) (IcryMany : Nat) (IcallPlace : Int32) (IcallVoice : Int32) (Iwind : Int32) (Ichance : Int32) (IechoMany : Nat) (Iacts : Nat) (Iundone : Nat) (Ilain : Nat) (Isounds : Nat) (Itime : Int32) (IstandMany : Int32) (xo : Int32) (ga : Nat) (gtp : Itaped ≤ 1600) (gat : Iat ≤ Isize) (gsz : Isize ≤ 1600) (gfl : Ifault ≤ 5) (gfo : Iform ≤ 2) (gnw : InWords ≤ 8) (gnc : InCliffs ≤ 4) (gnm : InMen ≤ 4) (gns : InStates ≤ 6) (gw : Iwords ≤ 8) (gc9 : Icliffs ≤ 4) (gm : Imen ≤ 4) (gs : Istates ≤ 6) (gcm : IcryMany ≤ 10) (gem : IechoMany ≤ 20) (gau : Iacts + Iundone ≤ 40) (gla : Ilain ≤ 20) (gso : Isounds ≤ 30) (gop : Iopens ≤ 40) (gde : Ideep ≤ 8) (gou : IownUnits ≤ 31) (gnu : InUnits ≤ 61) (gno : InOns ≤ 30) (gby : byN Gtape) (hcd : cntD Gopen Iopens = Ideep) (hxo : xo = 20 ∨ xo = 21) (hop : Iopens ≤ 39) (hd7 : Ideep ≤ 7) (hf0 : Ifault = 0) (hk3 : ¬ knd Gtape Isize ga = 3) (hti : tkR Gtape Isize ga Iat Isort Iplace Inumber Iword) : XMv l D (tyL cy) E0 yX12_openUp cX12_openUp 2 none (rmk 2 0 0) [.ref m0, .int xo] [wO m0 12 [.ref Mtape, .int (nI Itaped), .int (nI Ifault), .int IfaultPlace, .int (nI Iat), .int (nI Isize), .int Isort, .int Iplace, .int Inumber, .long Iword, .ref MnName, .ref MnStep, .ref MnArg, .ref MnMany, .ref Mstep, .ref Marg, .ref Mmany, .ref Mopen, .ref Mvalues, .ref MnHasForm, .ref MhasForm, .int (nI Iform), .int (nI Iopens), .int (nI InUnits), .int Iunits, .int (nI IownUnits), .int (nI Ideep), .ref Masks, .ref MnLoud, .ref MnCliffAt, .ref MnSnow, .ref MnManAt, .ref MnVoice, .ref MnOn, .ref Mloud, .ref McliffAt, .ref MsnowTold, .ref MmanAt, .ref Mvoice, .ref Mon, .ref MnYes, .ref Myes, .int (nI InWords), .int (nI InCliffs), .int (nI InMen), .int (nI InStates), .int (nI InOns), .int InWind, .int InDraw, .int (nI Iwords), .int (nI Icliffs), .int (nI Imen), .int (nI Istates), .int Ions, .int IwindTold, .int InHasWind, .int InHasDraw, .ref Mnow, .ref Mcry, .ref Msnow, .ref Mecho, .int (nI IcryMany), .int IcallPlace, .int IcallVoice, .int Iwind, .int Ichance, .int (nI IechoMany), .ref Mwere, .int (nI Iacts), .int (nI Iundone), .ref Mlies, .int (nI Ilain), .ref Mspots, .ref Msteps, .ref MfromState, .ref MbyWord, .ref Mqueue, .ref MsoundCliff, .ref MsoundLong, .ref MsoundCame, .ref MsoundTold, .ref MsoundUntold, .int (nI Isounds), .int Itime, .ref Mstands, .int IstandMany, .ref Mtally, .ref MhasBox, .ref Mboxes], wI (cy 1) Mtape 1600 (Gtape), wI (cy 1) Mopen 160 (Gopen)] (fun (u : Nat × Int32 × Int32 × Int32 × Int64 × (Nat → Int32) × Nat × Nat) => (u.1 ≤ Isize) ∧ (u.2.2.2.2.2.2.1 ≤ 40) ∧ (u.2.2.2.2.2.2.2 ≤ 8) ∧ (Iat ≤ u.1) ∧ (u.2.2.2.2.2.2.1 = Iopens + 1) ∧ (u.2.2.2.2.2.2.2 = Ideep + 1) ∧ (cntD u.2.2.2.2.2.1 u.2.2.2.2.2.2.1 = u.2.2.2.2.2.2.2) ∧ (stk u.2.2.2.2.2.1 u.2.2.2.2.2.2.1 = xo :: stk Gopen Iopens) ∧ (tkR Gtape Isize (fin Gtape Isize ga) u.1 u.2.1 u.2.2.1 u.2.2.2.1 u.2.2.2.2.1)) (fun (u : Nat × Int32 × Int32 × Int32 × Int64 × (Nat → Int32) × Nat × Nat) => [wO m0 12 [.ref Mtape, .int (nI Itaped), .int (nI Ifault), .int IfaultPlace, .int (nI u.1), .int (nI Isize), .int u.2.1, .int u.2.2.1, .int u.2.2.2.1, .long u.2.2.2.2.1, .ref MnName, .ref MnStep, .ref MnArg, .ref MnMany, .ref Mstep, .ref Marg, .ref Mmany, .ref Mopen, .ref Mvalues, .ref MnHasForm, .ref MhasForm, .int (nI Iform), .int (nI u.2.2.2.2.2.2.1), .int (nI InUnits), .int Iunits, .int (nI IownUnits), .int (nI u.2.2.2.2.2.2.2), .ref Masks, .ref MnLoud, .ref MnCliffAt, .ref MnSnow, .ref MnManAt, .ref MnVoice, .ref MnOn, .ref Mloud, .ref McliffAt, .ref MsnowTold, .ref MmanAt, .ref Mvoice, .ref Mon, .ref MnYes, .ref Myes, .int (nI InWords), .int (nI InCliffs), .int (nI InMen), .int (nI InStates), .int (nI InOns), .int InWind, .int InDraw, .int (nI Iwords), .int (nI Icliffs), .int (nI Imen), .int (nI Istates), .int Ions, .int IwindTold, .int InHasWind, .int InHasDraw, .ref Mnow, .ref Mcry, .ref Msnow, .ref Mecho, .int (nI IcryMany), .int IcallPlace, .int IcallVoice, .int Iwind, .int Ichance, .int (nI IechoMany), .ref Mwere, .int (nI Iacts), .int (nI Iundone), .ref Mlies, .int (nI Ilain), .ref Mspots, .ref Msteps, .ref MfromState, .ref MbyWord, .ref Mqueue, .ref MsoundCliff, .ref MsoundLong, .ref MsoundCame, .ref MsoundTold, .ref MsoundUntold, .int (nI Isounds), .int Itime, .ref Mstands, .int IstandMany, .ref Mtally, .ref MhasBox, .ref Mboxes], wI (cy 1) Mtape 1600 (Gtape), wI (cy 1) Mopen 160 (u.2.2.2.2.2.1)]) := by
  refine XMv.start (by decide) (Nat.le_of_ble_eq_true rfl) ?_
  intro p e s m below meth c args A ls Q hat hQ
  obtain ⟨hx, hb, hr, hml, hown, hg, hlocks, hin, hK, hA, hP, hD, hS, hE, hl⟩ := hat
  have hown : s.vm.findClass RX12 = some m.cls := hown
  have hl : lv_has ls 2 [(0, .ref m0), (1, .int xo)] := hl
  refine lv_aload_n hx hb dX12_openUp_0 rfl (lv_at hl 0 rfl) ?_
  refine va_get (D := D) (ci := 12) (v := .ref Mopen) (C := RX12) (T := TX12) (N := 89) hx hb hg i_X12 hown hK hP 0 rfl rfl 17 (by decide) (hg _ m_1430) (fun _ h9 => h9) rfl dX12_openUp_1 ?_
  refine lv_aload_n hx hb dX12_openUp_4 rfl (lv_at hl 0 rfl) ?_
  refine va_get (D := D) (ci := 12) (v := .int (nI Iopens)) (C := RX12) (T := TX12) (N := 89) hx hb hg i_X12 hown hK hP 0 rfl rfl 22 (by decide) (hg _ m_1435) (fun _ h9 => h9) rfl dX12_openUp_5 ?_
  refine lv_iload_n hx hb dX12_openUp_8 rfl (lv_at hl 1 rfl) ?_
  refine va_iast hx hb hK hP hD hS 2 1 rfl rfl (vp_in_nI (by omega) (by decide)) dX12_openUp_9 (fun H locs hP9 hD9 hS9 => ?_)
  clear hP hD hS
  have hP := hP9
  have hD := hD9
  have hS := hS9
  clear hP9 hD9 hS9
  obtain ⟨g_1, eg_1⟩ : ∃ y, upd Gopen (nI Iopens : Int32).toNatClampNeg xo = y := ⟨_, rfl⟩
  rw [eg_1] at hP hD
  have hr_2 : cntD g_1 (Iopens + 1) = Ideep + 1 := eg_1 ▸ cntD_put (by omega) hcd hxo
  have hst_3 : stk g_1 (Iopens + 1) = xo :: stk Gopen Iopens := stk_put (by omega) eg_1
  replace hP : va_P D vwCl [wO m0 12 [.ref Mtape, .int (nI Itaped), .int (nI Ifault), .int IfaultPlace, .int (nI Iat), .int (nI Isize), .int Isort, .int Iplace, .int Inumber, .long Iword, .ref MnName, .ref MnStep, .ref MnArg, .ref MnMany, .ref Mstep, .ref Marg, .ref Mmany, .ref Mopen, .ref Mvalues, .ref MnHasForm, .ref MhasForm, .int (nI Iform), .int (nI Iopens), .int (nI InUnits), .int Iunits, .int (nI IownUnits), .int (nI Ideep), .ref Masks, .ref MnLoud, .ref MnCliffAt, .ref MnSnow, .ref MnManAt, .ref MnVoice, .ref MnOn, .ref Mloud, .ref McliffAt, .ref MsnowTold, .ref MmanAt, .ref Mvoice, .ref Mon, .ref MnYes, .ref Myes, .int (nI InWords), .int (nI InCliffs), .int (nI InMen), .int (nI InStates), .int (nI InOns), .int InWind, .int InDraw, .int (nI Iwords), .int (nI Icliffs), .int (nI Imen), .int (nI Istates), .int Ions, .int IwindTold, .int InHasWind, .int InHasDraw, .ref Mnow, .ref Mcry, .ref Msnow, .ref Mecho, .int (nI IcryMany), .int IcallPlace, .int IcallVoice, .int Iwind, .int Ichance, .int (nI IechoMany), .ref Mwere, .int (nI Iacts), .int (nI Iundone), .ref Mlies, .int (nI Ilain), .ref Mspots, .ref Msteps, .ref MfromState, .ref MbyWord, .ref Mqueue, .ref MsoundCliff, .ref MsoundLong, .ref MsoundCame, .ref MsoundTold, .ref MsoundUntold, .int (nI Isounds), .int Itime, .ref Mstands, .int IstandMany, .ref Mtally, .ref MhasBox, .ref Mboxes], wI (cy 1) Mtape 1600 (Gtape), wI (cy 1) Mopen 160 (g_1)] H := hP
  replace hD : va_D A [wO m0 12 [.ref Mtape, .int (nI Itaped), .int (nI Ifault), .int IfaultPlace, .int (nI Iat), .int (nI Isize), .int Isort, .int Iplace, .int Inumber, .long Iword, .ref MnName, .ref MnStep, .ref MnArg, .ref MnMany, .ref Mstep, .ref Marg, .ref Mmany, .ref Mopen, .ref Mvalues, .ref MnHasForm, .ref MhasForm, .int (nI Iform), .int (nI Iopens), .int (nI InUnits), .int Iunits, .int (nI IownUnits), .int (nI Ideep), .ref Masks, .ref MnLoud, .ref MnCliffAt, .ref MnSnow, .ref MnManAt, .ref MnVoice, .ref MnOn, .ref Mloud, .ref McliffAt, .ref MsnowTold, .ref MmanAt, .ref Mvoice, .ref Mon, .ref MnYes, .ref Myes, .int (nI InWords), .int (nI InCliffs), .int (nI InMen), .int (nI InStates), .int (nI InOns), .int InWind, .int InDraw, .int (nI Iwords), .int (nI Icliffs), .int (nI Imen), .int (nI Istates), .int Ions, .int IwindTold, .int InHasWind, .int InHasDraw, .ref Mnow, .ref Mcry, .ref Msnow, .ref Mecho, .int (nI IcryMany), .int IcallPlace, .int IcallVoice, .int Iwind, .int Ichance, .int (nI IechoMany), .ref Mwere, .int (nI Iacts), .int (nI Iundone), .ref Mlies, .int (nI Ilain), .ref Mspots, .ref Msteps, .ref MfromState, .ref MbyWord, .ref Mqueue, .ref MsoundCliff, .ref MsoundLong, .ref MsoundCame, .ref MsoundTold, .ref MsoundUntold, .int (nI Isounds), .int Itime, .ref Mstands, .int IstandMany, .ref Mtally, .ref MhasBox, .ref Mboxes], wI (cy 1) Mtape 1600 (Gtape), wI (cy 1) Mopen 160 (g_1)] := hD
  refine lv_aload_n hx hb dX12_openUp_10 rfl (lv_at hl 0 rfl) ?_
  refine lv_dup hx hb dX12_openUp_11 rfl ?_
  refine va_get (D := D) (ci := 12) (v := .int (nI Iopens)) (C := RX12) (T := TX12) (N := 89) hx hb hg i_X12 hown hK hP 0 rfl rfl 22 (by decide) (hg _ m_1435) (fun _ h9 => h9) rfl dX12_openUp_12 ?_
  refine lv_iconst (v := 1) hx hb dX12_openUp_15 (by decide) ?_
  refine lv_iadd hx hb dX12_openUp_16 ?_
  refine lv_topi (fun y_4 hy_4 => ?_)
  obtain rfl : y_4 = nI (Iopens + 1) := hy_4.trans (nI_add Iopens 1)
  refine va_put (D := D) (ci := 12) (v := .int (nI (Iopens + 1))) (ty := .int) (C := RX12) (T := TX12) (N := 89) hx hb hg i_X12 tyX12 tyX12_ok nmX12 hown hK hP hD hS 0 rfl rfl 22 (by decide) (hg _ m_1435) (fun _ h9 => h9) rfl (by decide +kernel) rfl rfl (Nat.le_of_ble_eq_true rfl) dX12_openUp_17 (fun H locs hP9 hD9 hS9 => ?_)
  clear hP hD hS
  refine reW [wO m0 12 [.ref Mtape, .int (nI Itaped), .int (nI Ifault), .int IfaultPlace, .int (nI Iat), .int (nI Isize), .int Isort, .int Iplace, .int Inumber, .long Iword, .ref MnName, .ref MnStep, .ref MnArg, .ref MnMany, .ref Mstep, .ref Marg, .ref Mmany, .ref Mopen, .ref Mvalues, .ref MnHasForm, .ref MhasForm, .int (nI Iform), .int (nI (Iopens + 1)), .int (nI InUnits), .int Iunits, .int (nI IownUnits), .int (nI Ideep), .ref Masks, .ref MnLoud, .ref MnCliffAt, .ref MnSnow, .ref MnManAt, .ref MnVoice, .ref MnOn, .ref Mloud, .ref McliffAt, .ref MsnowTold, .ref MmanAt, .ref Mvoice, .ref Mon, .ref MnYes, .ref Myes, .int (nI InWords), .int (nI InCliffs), .int (nI InMen), .int (nI InStates), .int (nI InOns), .int InWind, .int InDraw, .int (nI Iwords), .int (nI Icliffs), .int (nI Imen), .int (nI Istates), .int Ions, .int IwindTold, .int InHasWind, .int InHasDraw, .ref Mnow, .ref Mcry, .ref Msnow, .ref Mecho, .int (nI IcryMany), .int IcallPlace, .int IcallVoice, .int Iwind, .int Ichance, .int (nI IechoMany), .ref Mwere, .int (nI Iacts), .int (nI Iundone), .ref Mlies, .int (nI Ilain), .ref Mspots, .ref Msteps, .ref MfromState, .ref MbyWord, .ref Mqueue, .ref MsoundCliff, .ref MsoundLong, .ref MsoundCame, .ref MsoundTold, .ref MsoundUntold, .int (nI Isounds), .int Itime, .ref Mstands, .int IstandMany, .ref Mtally, .ref MhasBox, .ref Mboxes], wI (cy 1) Mtape 1600 (Gtape), wI (cy 1) Mopen 160 (g_1)] hP9 hD9 hS9 (fun hP hD hS => ?_)
  clear hP9 hD9 hS9
  refine lv_aload_n hx hb dX12_openUp_20 rfl (lv_at hl 0 rfl) ?_
  refine lv_dup hx hb dX12_openUp_21 rfl ?_
  refine va_get (D := D) (ci := 12) (v := .int (nI Ideep)) (C := RX12) (T := TX12) (N := 89) hx hb hg i_X12 hown hK hP 0 rfl rfl 26 (by decide) (hg _ m_1439) (fun _ h9 => h9) rfl dX12_openUp_22 ?_
  refine lv_iconst (v := 1) hx hb dX12_openUp_25 (by decide) ?_
  refine lv_iadd hx hb dX12_openUp_26 ?_
  refine lv_topi (fun y_5 hy_5 => ?_)
  obtain rfl : y_5 = nI (Ideep + 1) := hy_5.trans (nI_add Ideep 1)
  refine va_put (D := D) (ci := 12) (v := .int (nI (Ideep + 1))) (ty := .int) (C := RX12) (T := TX12) (N := 89) hx hb hg i_X12 tyX12 tyX12_ok nmX12 hown hK hP hD hS 0 rfl rfl 26 (by decide) (hg _ m_1439) (fun _ h9 => h9) rfl (by decide +kernel) rfl rfl (Nat.le_of_ble_eq_true rfl) dX12_openUp_27 (fun H locs hP9 hD9 hS9 => ?_)
  clear hP hD hS
  refine reW [wO m0 12 [.ref Mtape, .int (nI Itaped), .int (nI Ifault), .int IfaultPlace, .int (nI Iat), .int (nI Isize), .int Isort, .int Iplace, .int Inumber, .long Iword, .ref MnName, .ref MnStep, .ref MnArg, .ref MnMany, .ref Mstep, .ref Marg, .ref Mmany, .ref Mopen, .ref Mvalues, .ref MnHasForm, .ref MhasForm, .int (nI Iform), .int (nI (Iopens + 1)), .int (nI InUnits), .int Iunits, .int (nI IownUnits), .int (nI (Ideep + 1)), .ref Masks, .ref MnLoud, .ref MnCliffAt, .ref MnSnow, .ref MnManAt, .ref MnVoice, .ref MnOn, .ref Mloud, .ref McliffAt, .ref MsnowTold, .ref MmanAt, .ref Mvoice, .ref Mon, .ref MnYes, .ref Myes, .int (nI InWords), .int (nI InCliffs), .int (nI InMen), .int (nI InStates), .int (nI InOns), .int InWind, .int InDraw, .int (nI Iwords), .int (nI Icliffs), .int (nI Imen), .int (nI Istates), .int Ions, .int IwindTold, .int InHasWind, .int InHasDraw, .ref Mnow, .ref Mcry, .ref Msnow, .ref Mecho, .int (nI IcryMany), .int IcallPlace, .int IcallVoice, .int Iwind, .int Ichance, .int (nI IechoMany), .ref Mwere, .int (nI Iacts), .int (nI Iundone), .ref Mlies, .int (nI Ilain), .ref Mspots, .ref Msteps, .ref MfromState, .ref MbyWord, .ref Mqueue, .ref MsoundCliff, .ref MsoundLong, .ref MsoundCame, .ref MsoundTold, .ref MsoundUntold, .int (nI Isounds), .int Itime, .ref Mstands, .int IstandMany, .ref Mtally, .ref MhasBox, .ref Mboxes], wI (cy 1) Mtape 1600 (Gtape), wI (cy 1) Mopen 160 (g_1)] hP9 hD9 hS9 (fun hP hD hS => ?_)
  clear hP9 hD9 hS9
  refine lv_aload_n hx hb dX12_openUp_30 rfl (lv_at hl 0 rfl) ?_
  refine va_get (D := D) (ci := 12) (v := .int (nI Ifault)) (C := RX12) (T := TX12) (N := 89) hx hb hg i_X12 hown hK hP 0 rfl rfl 2 (by decide) (hg _ m_1415) (fun _ h9 => h9) rfl dX12_openUp_31 ?_
  refine lv_if_ne (tgt := 41) hx hb dX12_openUp_34 (by decide) (fun c_6 => ?_) (fun c_6 => ?_)
  · have q_7 : ¬ Ifault = 0 := q_ne (a := Ifault) (b := 0) rfl rfl (by omega) (by omega) c_6
    exact absurd q_7 (by omega)
  · have q_7 : Ifault = 0 := q_eq (a := Ifault) (b := 0) rfl rfl (by omega) (by omega) c_6
    refine lv_aload_n hx hb dX12_openUp_37 rfl (lv_at hl 0 rfl) ?_
    refine x_callVv (q := (RX12, TX12, 89)) (ci := 12) (q0 := 0) (wr := [wI (cy 1) Mopen 160 (g_1)]) (rest := []) ⟨hx, hb, hml, hown, hg, hl.1⟩ k_X12_259 (r_token l D cy m0 Mtape MnName MnStep MnArg MnMany Mstep Marg Mmany Mopen Mvalues MnHasForm MhasForm Masks MnLoud MnCliffAt MnSnow MnManAt MnVoice MnOn Mloud McliffAt MsnowTold MmanAt Mvoice Mon MnYes Myes Mnow Mcry Msnow Mecho Mwere Mlies Mspots Msteps MfromState MbyWord Mqueue MsoundCliff MsoundLong MsoundCame MsoundTold MsoundUntold Mstands Mtally MhasBox Mboxes Gtape Itaped Ifault IfaultPlace Iat Isize Isort Iplace Inumber Iword Iform ((Iopens + 1)) InUnits Iunits IownUnits ((Ideep + 1)) InWords InCliffs InMen InStates InOns InWind InDraw Iwords Icliffs Imen Istates Ions IwindTold InHasWind InHasDraw IcryMany IcallPlace IcallVoice Iwind Ichance IechoMany Iacts Iundone Ilain Isounds Itime IstandMany (fin Gtape Isize ga) (by omega) (by omega) (by omega) (by omega) (by omega) (by omega) (by omega) (by omega) (by omega) (by omega) (by omega) (by omega) (by omega) (by omega) (by omega) (by omega) (by omega) (by omega) (by omega) (by omega) (by omega) (by omega) (by omega) (gby) (hti.2.2.1 (by omega))) E0_blind hK hP hD hS hA [0, 1] [2] ⟨rfl, rfl, by decide +kernel, by decide +kernel, by decide +kernel⟩ rfl rfl (fun _ _ _ => trivial) dX12_openUp_38 rfl rfl (Nat.le_of_ble_eq_true rfl) ⟨Nat.le_of_ble_eq_true rfl, Nat.le_of_ble_eq_true rfl⟩ ⟨Nat.le_of_ble_eq_true rfl, Nat.le_of_ble_eq_true rfl⟩ (fun zu8 H locs hw8 hP9 hD9 hS9 => ?_)
    clear hP hD hS
    obtain ⟨Iat2_9, Isort2_10, Iplace2_11, Inumber2_12, Iword2_13⟩ := zu8
    refine reW [wI (cy 1) Mopen 160 (g_1), wO m0 12 [.ref Mtape, .int (nI Itaped), .int (nI Ifault), .int IfaultPlace, .int (nI Iat2_9), .int (nI Isize), .int Isort2_10, .int Iplace2_11, .int Inumber2_12, .long Iword2_13, .ref MnName, .ref MnStep, .ref MnArg, .ref MnMany, .ref Mstep, .ref Marg, .ref Mmany, .ref Mopen, .ref Mvalues, .ref MnHasForm, .ref MhasForm, .int (nI Iform), .int (nI ((Iopens + 1))), .int (nI InUnits), .int Iunits, .int (nI IownUnits), .int (nI ((Ideep + 1))), .ref Masks, .ref MnLoud, .ref MnCliffAt, .ref MnSnow, .ref MnManAt, .ref MnVoice, .ref MnOn, .ref Mloud, .ref McliffAt, .ref MsnowTold, .ref MmanAt, .ref Mvoice, .ref Mon, .ref MnYes, .ref Myes, .int (nI InWords), .int (nI InCliffs), .int (nI InMen), .int (nI InStates), .int (nI InOns), .int InWind, .int InDraw, .int (nI Iwords), .int (nI Icliffs), .int (nI Imen), .int (nI Istates), .int Ions, .int IwindTold, .int InHasWind, .int InHasDraw, .ref Mnow, .ref Mcry, .ref Msnow, .ref Mecho, .int (nI IcryMany), .int IcallPlace, .int IcallVoice, .int Iwind, .int Ichance, .int (nI IechoMany), .ref Mwere, .int (nI Iacts), .int (nI Iundone), .ref Mlies, .int (nI Ilain), .ref Mspots, .ref Msteps, .ref MfromState, .ref MbyWord, .ref Mqueue, .ref MsoundCliff, .ref MsoundLong, .ref MsoundCame, .ref MsoundTold, .ref MsoundUntold, .int (nI Isounds), .int Itime, .ref Mstands, .int IstandMany, .ref Mtally, .ref MhasBox, .ref Mboxes], wI (cy 1) Mtape 1600 (Gtape)] hP9 hD9 hS9 (fun hP hD hS => ?_)
    clear hP9 hD9 hS9
    refine W.widen (k := 0) (n := 0) (Nat.le_of_ble_eq_true rfl) (Nat.le_of_ble_eq_true rfl) ?_
    replace hw8 : (Iat2_9 ≤ Isize) ∧ (Iat ≤ Iat2_9) ∧ (tkR Gtape Isize (fin Gtape Isize ga) Iat2_9 Isort2_10 Iplace2_11 Inumber2_12 Iword2_13) := hw8
    obtain ⟨f_14, f_15, f_16⟩ := hw8
    exact x_vret hQ hx hb hr hlocks hK hP hD hS dX12_openUp_41 (Iat2_9, Isort2_10, Iplace2_11, Inumber2_12, Iword2_13, g_1, ((Iopens + 1)), ((Ideep + 1))) (⟨(show Iat2_9 ≤ Isize from by omega), (show (((Iopens + 1))) ≤ 40 from by omega), (show (((Ideep + 1))) ≤ 8 from by omega), (show Iat ≤ Iat2_9 from by omega), (show (((Iopens + 1))) = Iopens + 1 from by omega), (show (((Ideep + 1))) = Ideep + 1 from by omega), hr_2, (show stk g_1 (((Iopens + 1))) = xo :: stk Gopen Iopens from hst_3), (show tkR Gtape Isize (fin Gtape Isize ga) Iat2_9 Isort2_10 Iplace2_11 Inumber2_12 Iword2_13 from f_16)⟩) [1, 2, 0] (by decide +kernel) rfl (Nat.le_of_ble_eq_true rfl) (Nat.le_of_ble_eq_true rfl)
set_option maxHeartbeats 1000000 in
set_option maxRecDepth 100000 in
theorem r_openUp_e (l : Launch) (D : va_G) (cy : Nat → ClassId) (m0 : Nat) (Mtape : Nat) (MnName : Nat) (MnStep : Nat) (MnArg : Nat) (MnMany : Nat) (Mstep : Nat) (Marg : Nat) (Mmany : Nat) (Mopen : Nat) (Mvalues : Nat) (MnHasForm : Nat) (MhasForm : Nat) (Masks : Nat) (MnLoud : Nat) (MnCliffAt : Nat) (MnSnow : Nat) (MnManAt : Nat) (MnVoice : Nat) (MnOn : Nat) (Mloud : Nat) (McliffAt : Nat) (MsnowTold : Nat) (MmanAt : Nat) (Mvoice : Nat) (Mon : Nat) (MnYes : Nat) (Myes : Nat) (Mnow : Nat) (Mcry : Nat) (Msnow : Nat) (Mecho : Nat) (Mwere : Nat) (Mlies : Nat) (Mspots : Nat) (Msteps : Nat) (MfromState : Nat) (MbyWord : Nat) (Mqueue : Nat) (MsoundCliff : Nat) (MsoundLong : Nat) (MsoundCame : Nat) (MsoundTold : Nat) (MsoundUntold : Nat) (Mstands : Nat) (Mtally : Nat) (MhasBox : Nat) (Mboxes : Nat) (Itaped : Nat) (Ifault : Nat) (IfaultPlace : Int32) (Iat : Nat) (Isize : Nat) (Isort : Int32) (Iplace : Int32) (Inumber : Int32) (Iword : Int64) (Gopen : Nat → Int32) (Iform : Nat) (Iopens : Nat) (InUnits : Nat) (Iunits : Int32) (IownUnits : Nat) (Ideep : Nat) (InWords : Nat) (InCliffs : Nat) (InMen : Nat) (InStates : Nat) (InOns : Nat) (InWind : Int32) (InDraw : Int32) (Iwords : Nat) (Icliffs : Nat) (Imen : Nat) (Istates : Nat) (Ions : Int32) (IwindTold : Int32) (InHasWind : Int32) (InHasDraw : Int32) (IcryMany : Nat) (IcallPlace : Int32) (IcallVoice : Int32) (Iwind : Int32) (Ichance : Int32) (IechoMany : Nat) (Iacts : Nat) (Iundone : Nat) (Ilain : Nat) (Isounds : Nat) (Itime : Int32) (IstandMany : Int32) (xo : Int32) (gtp : Itaped ≤ 1600) (gat : Iat ≤ Isize) (gsz : Isize ≤ 1600) (gfl : Ifault ≤ 5) (gfo : Iform ≤ 2) (gnw : InWords ≤ 8) (gnc : InCliffs ≤ 4) (gnm : InMen ≤ 4) (gns : InStates ≤ 6) (gw : Iwords ≤ 8) (gc9 : Icliffs ≤ 4) (gm : Imen ≤ 4) (gs : Istates ≤ 6) (gcm : IcryMany ≤ 10) (gem : IechoMany ≤ 20) (gau : Iacts + Iundone ≤ 40) (gla : Ilain ≤ 20) (gso : Isounds ≤ 30) (gop : Iopens ≤ 40) (gde : Ideep ≤ 8) (gou : IownUnits ≤ 31) (gnu : InUnits ≤ 61) (gno : InOns ≤ 30) (hcd : cntD Gopen Iopens = Ideep) (hxo : xo = 20 ∨ xo = 21) (hop : Iopens ≤ 39) (hd7 : Ideep ≤ 7) (hfe : 1 ≤ Ifault) : XMv l D (tyL cy) E0 yX12_openUp cX12_openUp 2 none (rmk 0 0 0) [.ref m0, .int xo] [wO m0 12 [.ref Mtape, .int (nI Itaped), .int (nI Ifault), .int IfaultPlace, .int (nI Iat), .int (nI Isize), .int Isort, .int Iplace, .int Inumber, .long Iword, .ref MnName, .ref MnStep, .ref MnArg, .ref MnMany, .ref Mstep, .ref Marg, .ref Mmany, .ref Mopen, .ref Mvalues, .ref MnHasForm, .ref MhasForm, .int (nI Iform), .int (nI Iopens), .int (nI InUnits), .int Iunits, .int (nI IownUnits), .int (nI Ideep), .ref Masks, .ref MnLoud, .ref MnCliffAt, .ref MnSnow, .ref MnManAt, .ref MnVoice, .ref MnOn, .ref Mloud, .ref McliffAt, .ref MsnowTold, .ref MmanAt, .ref Mvoice, .ref Mon, .ref MnYes, .ref Myes, .int (nI InWords), .int (nI InCliffs), .int (nI InMen), .int (nI InStates), .int (nI InOns), .int InWind, .int InDraw, .int (nI Iwords), .int (nI Icliffs), .int (nI Imen), .int (nI Istates), .int Ions, .int IwindTold, .int InHasWind, .int InHasDraw, .ref Mnow, .ref Mcry, .ref Msnow, .ref Mecho, .int (nI IcryMany), .int IcallPlace, .int IcallVoice, .int Iwind, .int Ichance, .int (nI IechoMany), .ref Mwere, .int (nI Iacts), .int (nI Iundone), .ref Mlies, .int (nI Ilain), .ref Mspots, .ref Msteps, .ref MfromState, .ref MbyWord, .ref Mqueue, .ref MsoundCliff, .ref MsoundLong, .ref MsoundCame, .ref MsoundTold, .ref MsoundUntold, .int (nI Isounds), .int Itime, .ref Mstands, .int IstandMany, .ref Mtally, .ref MhasBox, .ref Mboxes], wI (cy 1) Mopen 160 (Gopen)] (fun (u : (Nat → Int32) × Nat × Nat) => (u.2.1 ≤ 40) ∧ (u.2.2 ≤ 8) ∧ (u.2.1 = Iopens + 1) ∧ (u.2.2 = Ideep + 1) ∧ (cntD u.1 u.2.1 = u.2.2) ∧ (stk u.1 u.2.1 = xo :: stk Gopen Iopens)) (fun (u : (Nat → Int32) × Nat × Nat) => [wO m0 12 [.ref Mtape, .int (nI Itaped), .int (nI Ifault), .int IfaultPlace, .int (nI Iat), .int (nI Isize), .int Isort, .int Iplace, .int Inumber, .long Iword, .ref MnName, .ref MnStep, .ref MnArg, .ref MnMany, .ref Mstep, .ref Marg, .ref Mmany, .ref Mopen, .ref Mvalues, .ref MnHasForm, .ref MhasForm, .int (nI Iform), .int (nI u.2.1), .int (nI InUnits), .int Iunits, .int (nI IownUnits), .int (nI u.2.2), .ref Masks, .ref MnLoud, .ref MnCliffAt, .ref MnSnow, .ref MnManAt, .ref MnVoice, .ref MnOn, .ref Mloud, .ref McliffAt, .ref MsnowTold, .ref MmanAt, .ref Mvoice, .ref Mon, .ref MnYes, .ref Myes, .int (nI InWords), .int (nI InCliffs), .int (nI InMen), .int (nI InStates), .int (nI InOns), .int InWind, .int InDraw, .int (nI Iwords), .int (nI Icliffs), .int (nI Imen), .int (nI Istates), .int Ions, .int IwindTold, .int InHasWind, .int InHasDraw, .ref Mnow, .ref Mcry, .ref Msnow, .ref Mecho, .int (nI IcryMany), .int IcallPlace, .int IcallVoice, .int Iwind, .int Ichance, .int (nI IechoMany), .ref Mwere, .int (nI Iacts), .int (nI Iundone), .ref Mlies, .int (nI Ilain), .ref Mspots, .ref Msteps, .ref MfromState, .ref MbyWord, .ref Mqueue, .ref MsoundCliff, .ref MsoundLong, .ref MsoundCame, .ref MsoundTold, .ref MsoundUntold, .int (nI Isounds), .int Itime, .ref Mstands, .int IstandMany, .ref Mtally, .ref MhasBox, .ref Mboxes], wI (cy 1) Mopen 160 (u.1)]) := by
  refine XMv.start (by decide) (Nat.le_of_ble_eq_true rfl) ?_
  intro p e s m below meth c args A ls Q hat hQ
  obtain ⟨hx, hb, hr, hml, hown, hg, hlocks, hin, hK, hA, hP, hD, hS, hE, hl⟩ := hat
  have hown : s.vm.findClass RX12 = some m.cls := hown
  have hl : lv_has ls 2 [(0, .ref m0), (1, .int xo)] := hl
  refine lv_aload_n hx hb dX12_openUp_0 rfl (lv_at hl 0 rfl) ?_
  refine va_get (D := D) (ci := 12) (v := .ref Mopen) (C := RX12) (T := TX12) (N := 89) hx hb hg i_X12 hown hK hP 0 rfl rfl 17 (by decide) (hg _ m_1430) (fun _ h9 => h9) rfl dX12_openUp_1 ?_
  refine lv_aload_n hx hb dX12_openUp_4 rfl (lv_at hl 0 rfl) ?_
  refine va_get (D := D) (ci := 12) (v := .int (nI Iopens)) (C := RX12) (T := TX12) (N := 89) hx hb hg i_X12 hown hK hP 0 rfl rfl 22 (by decide) (hg _ m_1435) (fun _ h9 => h9) rfl dX12_openUp_5 ?_
  refine lv_iload_n hx hb dX12_openUp_8 rfl (lv_at hl 1 rfl) ?_
  refine va_iast hx hb hK hP hD hS 1 1 rfl rfl (vp_in_nI (by omega) (by decide)) dX12_openUp_9 (fun H locs hP9 hD9 hS9 => ?_)
  clear hP hD hS
  have hP := hP9
  have hD := hD9
  have hS := hS9
  clear hP9 hD9 hS9
  obtain ⟨g_1, eg_1⟩ : ∃ y, upd Gopen (nI Iopens : Int32).toNatClampNeg xo = y := ⟨_, rfl⟩
  rw [eg_1] at hP hD
  have hr_2 : cntD g_1 (Iopens + 1) = Ideep + 1 := eg_1 ▸ cntD_put (by omega) hcd hxo
  have hst_3 : stk g_1 (Iopens + 1) = xo :: stk Gopen Iopens := stk_put (by omega) eg_1
  replace hP : va_P D vwCl [wO m0 12 [.ref Mtape, .int (nI Itaped), .int (nI Ifault), .int IfaultPlace, .int (nI Iat), .int (nI Isize), .int Isort, .int Iplace, .int Inumber, .long Iword, .ref MnName, .ref MnStep, .ref MnArg, .ref MnMany, .ref Mstep, .ref Marg, .ref Mmany, .ref Mopen, .ref Mvalues, .ref MnHasForm, .ref MhasForm, .int (nI Iform), .int (nI Iopens), .int (nI InUnits), .int Iunits, .int (nI IownUnits), .int (nI Ideep), .ref Masks, .ref MnLoud, .ref MnCliffAt, .ref MnSnow, .ref MnManAt, .ref MnVoice, .ref MnOn, .ref Mloud, .ref McliffAt, .ref MsnowTold, .ref MmanAt, .ref Mvoice, .ref Mon, .ref MnYes, .ref Myes, .int (nI InWords), .int (nI InCliffs), .int (nI InMen), .int (nI InStates), .int (nI InOns), .int InWind, .int InDraw, .int (nI Iwords), .int (nI Icliffs), .int (nI Imen), .int (nI Istates), .int Ions, .int IwindTold, .int InHasWind, .int InHasDraw, .ref Mnow, .ref Mcry, .ref Msnow, .ref Mecho, .int (nI IcryMany), .int IcallPlace, .int IcallVoice, .int Iwind, .int Ichance, .int (nI IechoMany), .ref Mwere, .int (nI Iacts), .int (nI Iundone), .ref Mlies, .int (nI Ilain), .ref Mspots, .ref Msteps, .ref MfromState, .ref MbyWord, .ref Mqueue, .ref MsoundCliff, .ref MsoundLong, .ref MsoundCame, .ref MsoundTold, .ref MsoundUntold, .int (nI Isounds), .int Itime, .ref Mstands, .int IstandMany, .ref Mtally, .ref MhasBox, .ref Mboxes], wI (cy 1) Mopen 160 (g_1)] H := hP
  replace hD : va_D A [wO m0 12 [.ref Mtape, .int (nI Itaped), .int (nI Ifault), .int IfaultPlace, .int (nI Iat), .int (nI Isize), .int Isort, .int Iplace, .int Inumber, .long Iword, .ref MnName, .ref MnStep, .ref MnArg, .ref MnMany, .ref Mstep, .ref Marg, .ref Mmany, .ref Mopen, .ref Mvalues, .ref MnHasForm, .ref MhasForm, .int (nI Iform), .int (nI Iopens), .int (nI InUnits), .int Iunits, .int (nI IownUnits), .int (nI Ideep), .ref Masks, .ref MnLoud, .ref MnCliffAt, .ref MnSnow, .ref MnManAt, .ref MnVoice, .ref MnOn, .ref Mloud, .ref McliffAt, .ref MsnowTold, .ref MmanAt, .ref Mvoice, .ref Mon, .ref MnYes, .ref Myes, .int (nI InWords), .int (nI InCliffs), .int (nI InMen), .int (nI InStates), .int (nI InOns), .int InWind, .int InDraw, .int (nI Iwords), .int (nI Icliffs), .int (nI Imen), .int (nI Istates), .int Ions, .int IwindTold, .int InHasWind, .int InHasDraw, .ref Mnow, .ref Mcry, .ref Msnow, .ref Mecho, .int (nI IcryMany), .int IcallPlace, .int IcallVoice, .int Iwind, .int Ichance, .int (nI IechoMany), .ref Mwere, .int (nI Iacts), .int (nI Iundone), .ref Mlies, .int (nI Ilain), .ref Mspots, .ref Msteps, .ref MfromState, .ref MbyWord, .ref Mqueue, .ref MsoundCliff, .ref MsoundLong, .ref MsoundCame, .ref MsoundTold, .ref MsoundUntold, .int (nI Isounds), .int Itime, .ref Mstands, .int IstandMany, .ref Mtally, .ref MhasBox, .ref Mboxes], wI (cy 1) Mopen 160 (g_1)] := hD
  refine lv_aload_n hx hb dX12_openUp_10 rfl (lv_at hl 0 rfl) ?_
  refine lv_dup hx hb dX12_openUp_11 rfl ?_
  refine va_get (D := D) (ci := 12) (v := .int (nI Iopens)) (C := RX12) (T := TX12) (N := 89) hx hb hg i_X12 hown hK hP 0 rfl rfl 22 (by decide) (hg _ m_1435) (fun _ h9 => h9) rfl dX12_openUp_12 ?_
  refine lv_iconst (v := 1) hx hb dX12_openUp_15 (by decide) ?_
  refine lv_iadd hx hb dX12_openUp_16 ?_
  refine lv_topi (fun y_4 hy_4 => ?_)
  obtain rfl : y_4 = nI (Iopens + 1) := hy_4.trans (nI_add Iopens 1)
  refine va_put (D := D) (ci := 12) (v := .int (nI (Iopens + 1))) (ty := .int) (C := RX12) (T := TX12) (N := 89) hx hb hg i_X12 tyX12 tyX12_ok nmX12 hown hK hP hD hS 0 rfl rfl 22 (by decide) (hg _ m_1435) (fun _ h9 => h9) rfl (by decide +kernel) rfl rfl (Nat.le_of_ble_eq_true rfl) dX12_openUp_17 (fun H locs hP9 hD9 hS9 => ?_)
  clear hP hD hS
  refine reW [wO m0 12 [.ref Mtape, .int (nI Itaped), .int (nI Ifault), .int IfaultPlace, .int (nI Iat), .int (nI Isize), .int Isort, .int Iplace, .int Inumber, .long Iword, .ref MnName, .ref MnStep, .ref MnArg, .ref MnMany, .ref Mstep, .ref Marg, .ref Mmany, .ref Mopen, .ref Mvalues, .ref MnHasForm, .ref MhasForm, .int (nI Iform), .int (nI (Iopens + 1)), .int (nI InUnits), .int Iunits, .int (nI IownUnits), .int (nI Ideep), .ref Masks, .ref MnLoud, .ref MnCliffAt, .ref MnSnow, .ref MnManAt, .ref MnVoice, .ref MnOn, .ref Mloud, .ref McliffAt, .ref MsnowTold, .ref MmanAt, .ref Mvoice, .ref Mon, .ref MnYes, .ref Myes, .int (nI InWords), .int (nI InCliffs), .int (nI InMen), .int (nI InStates), .int (nI InOns), .int InWind, .int InDraw, .int (nI Iwords), .int (nI Icliffs), .int (nI Imen), .int (nI Istates), .int Ions, .int IwindTold, .int InHasWind, .int InHasDraw, .ref Mnow, .ref Mcry, .ref Msnow, .ref Mecho, .int (nI IcryMany), .int IcallPlace, .int IcallVoice, .int Iwind, .int Ichance, .int (nI IechoMany), .ref Mwere, .int (nI Iacts), .int (nI Iundone), .ref Mlies, .int (nI Ilain), .ref Mspots, .ref Msteps, .ref MfromState, .ref MbyWord, .ref Mqueue, .ref MsoundCliff, .ref MsoundLong, .ref MsoundCame, .ref MsoundTold, .ref MsoundUntold, .int (nI Isounds), .int Itime, .ref Mstands, .int IstandMany, .ref Mtally, .ref MhasBox, .ref Mboxes], wI (cy 1) Mopen 160 (g_1)] hP9 hD9 hS9 (fun hP hD hS => ?_)
  clear hP9 hD9 hS9
  refine lv_aload_n hx hb dX12_openUp_20 rfl (lv_at hl 0 rfl) ?_
  refine lv_dup hx hb dX12_openUp_21 rfl ?_
  refine va_get (D := D) (ci := 12) (v := .int (nI Ideep)) (C := RX12) (T := TX12) (N := 89) hx hb hg i_X12 hown hK hP 0 rfl rfl 26 (by decide) (hg _ m_1439) (fun _ h9 => h9) rfl dX12_openUp_22 ?_
  refine lv_iconst (v := 1) hx hb dX12_openUp_25 (by decide) ?_
  refine lv_iadd hx hb dX12_openUp_26 ?_
  refine lv_topi (fun y_5 hy_5 => ?_)
  obtain rfl : y_5 = nI (Ideep + 1) := hy_5.trans (nI_add Ideep 1)
  refine va_put (D := D) (ci := 12) (v := .int (nI (Ideep + 1))) (ty := .int) (C := RX12) (T := TX12) (N := 89) hx hb hg i_X12 tyX12 tyX12_ok nmX12 hown hK hP hD hS 0 rfl rfl 26 (by decide) (hg _ m_1439) (fun _ h9 => h9) rfl (by decide +kernel) rfl rfl (Nat.le_of_ble_eq_true rfl) dX12_openUp_27 (fun H locs hP9 hD9 hS9 => ?_)
  clear hP hD hS
  refine reW [wO m0 12 [.ref Mtape, .int (nI Itaped), .int (nI Ifault), .int IfaultPlace, .int (nI Iat), .int (nI Isize), .int Isort, .int Iplace, .int Inumber, .long Iword, .ref MnName, .ref MnStep, .ref MnArg, .ref MnMany, .ref Mstep, .ref Marg, .ref Mmany, .ref Mopen, .ref Mvalues, .ref MnHasForm, .ref MhasForm, .int (nI Iform), .int (nI (Iopens + 1)), .int (nI InUnits), .int Iunits, .int (nI IownUnits), .int (nI (Ideep + 1)), .ref Masks, .ref MnLoud, .ref MnCliffAt, .ref MnSnow, .ref MnManAt, .ref MnVoice, .ref MnOn, .ref Mloud, .ref McliffAt, .ref MsnowTold, .ref MmanAt, .ref Mvoice, .ref Mon, .ref MnYes, .ref Myes, .int (nI InWords), .int (nI InCliffs), .int (nI InMen), .int (nI InStates), .int (nI InOns), .int InWind, .int InDraw, .int (nI Iwords), .int (nI Icliffs), .int (nI Imen), .int (nI Istates), .int Ions, .int IwindTold, .int InHasWind, .int InHasDraw, .ref Mnow, .ref Mcry, .ref Msnow, .ref Mecho, .int (nI IcryMany), .int IcallPlace, .int IcallVoice, .int Iwind, .int Ichance, .int (nI IechoMany), .ref Mwere, .int (nI Iacts), .int (nI Iundone), .ref Mlies, .int (nI Ilain), .ref Mspots, .ref Msteps, .ref MfromState, .ref MbyWord, .ref Mqueue, .ref MsoundCliff, .ref MsoundLong, .ref MsoundCame, .ref MsoundTold, .ref MsoundUntold, .int (nI Isounds), .int Itime, .ref Mstands, .int IstandMany, .ref Mtally, .ref MhasBox, .ref Mboxes], wI (cy 1) Mopen 160 (g_1)] hP9 hD9 hS9 (fun hP hD hS => ?_)
  clear hP9 hD9 hS9
  refine lv_aload_n hx hb dX12_openUp_30 rfl (lv_at hl 0 rfl) ?_
  refine va_get (D := D) (ci := 12) (v := .int (nI Ifault)) (C := RX12) (T := TX12) (N := 89) hx hb hg i_X12 hown hK hP 0 rfl rfl 2 (by decide) (hg _ m_1415) (fun _ h9 => h9) rfl dX12_openUp_31 ?_
  refine lv_if_ne (tgt := 41) hx hb dX12_openUp_34 (by decide) (fun c_6 => ?_) (fun c_6 => ?_)
  · have q_7 : ¬ Ifault = 0 := q_ne (a := Ifault) (b := 0) rfl rfl (by omega) (by omega) c_6
    exact x_vret hQ hx hb hr hlocks hK hP hD hS dX12_openUp_41 (g_1, (Iopens + 1), (Ideep + 1)) (⟨(show ((Iopens + 1)) ≤ 40 from by omega), (show ((Ideep + 1)) ≤ 8 from by omega), (show ((Iopens + 1)) = Iopens + 1 from by omega), (show ((Ideep + 1)) = Ideep + 1 from by omega), hr_2, (show stk g_1 ((Iopens + 1)) = xo :: stk Gopen Iopens from hst_3)⟩) [0, 1] (by decide +kernel) rfl (Nat.le_of_ble_eq_true rfl) (Nat.le_of_ble_eq_true rfl)
  · have q_7 : Ifault = 0 := q_eq (a := Ifault) (b := 0) rfl rfl (by omega) (by omega) c_6
    exact absurd q_7 (by omega)
theorem sg_r {f : Nat → Int32} {n a at9 k : Nat} {so pl nu : Int32} {wo : Int64} (h : tkR f n a at9 so pl nu wo) (hs : so = nI k) (hk : k = 60 ∨ k = 62 ∨ k = 61 ∨ k = 43 ∨ k = 45 ∨ k = 42 ∨ k = 47 ∨ k = 37) : so = sgM (knd f n a) := by
  rw [(so_eq h (by omega) (by omega)).mp hs, hs]
  rcases hk with h | h | h | h | h | h | h | h <;> subst h <;> rfl
theorem sg_0 {f : Nat → Int32} {n a at9 : Nat} {so pl nu : Int32} {wo : Int64} (h : tkR f n a at9 so pl nu wo) (h1 : ¬ knd f n a = 100 + 15) (h2 : ¬ knd f n a = 100 + 14) (e1 : ¬ so = 60) (e2 : ¬ so = 62) (e3 : ¬ so = 61) (e4 : ¬ so = 43) (e5 : ¬ so = 45) (e6 : ¬ so = 42) (e7 : ¬ so = 47) (e8 : ¬ so = 37) : (0 : Int32) = sgM (knd f n a) := by
  rcases sgM_cases (knd f n a) with h9 | h9 | h9 | h9 | h9 | h9
  · exact h9.symm
  · omega
  · omega
  · rcases h9.1 with q | q | q
    · exact absurd ((so_eq h (k := 60) (by decide) (by decide)).mpr q) e1
    · exact absurd ((so_eq h (k := 62) (by decide) (by decide)).mpr q) e2
    · exact absurd ((so_eq h (k := 61) (by decide) (by decide)).mpr q) e3
  · rcases h9.1 with q | q
    · exact absurd ((so_eq h (k := 43) (by decide) (by decide)).mpr q) e4
    · exact absurd ((so_eq h (k := 45) (by decide) (by decide)).mpr q) e5
  · rcases h9.1 with q | q | q
    · exact absurd ((so_eq h (k := 42) (by decide) (by decide)).mpr q) e6
    · exact absurd ((so_eq h (k := 47) (by decide) (by decide)).mpr q) e7
    · exact absurd ((so_eq h (k := 37) (by decide) (by decide)).mpr q) e8
theorem gdX12_sign_0 : decode cX12_sign 0 = .ok (.aload_n 0, 1) ∧ decode cX12_sign 1 = .ok (.ldc2_w 242, 3) ∧ decode cX12_sign 4 = .ok (.invokevirtual 252, 3) ∧ decode cX12_sign 7 = .ok (.ifCond .eq 6, 3) ∧ decode cX12_sign 10 = .ok (.bipush 38, 2) ∧ decode cX12_sign 12 = .ok (.ireturn, 1) ∧ decode cX12_sign 13 = .ok (.aload_n 0, 1) ∧ decode cX12_sign 14 = .ok (.ldc2_w 244, 3) ∧ decode cX12_sign 17 = .ok (.invokevirtual 252, 3) ∧ decode cX12_sign 20 = .ok (.ifCond .eq 6, 3) ∧ decode cX12_sign 23 = .ok (.bipush 124, 2) ∧ decode cX12_sign 25 = .ok (.ireturn, 1) := by decide +kernel
theorem dX12_sign_0 : decode cX12_sign 0 = .ok (.aload_n 0, 1) := gdX12_sign_0.1
theorem dX12_sign_1 : decode cX12_sign 1 = .ok (.ldc2_w 242, 3) := gdX12_sign_0.2.1
theorem dX12_sign_4 : decode cX12_sign 4 = .ok (.invokevirtual 252, 3) := gdX12_sign_0.2.2.1
theorem dX12_sign_7 : decode cX12_sign 7 = .ok (.ifCond .eq 6, 3) := gdX12_sign_0.2.2.2.1
theorem dX12_sign_10 : decode cX12_sign 10 = .ok (.bipush 38, 2) := gdX12_sign_0.2.2.2.2.1
theorem dX12_sign_12 : decode cX12_sign 12 = .ok (.ireturn, 1) := gdX12_sign_0.2.2.2.2.2.1
theorem dX12_sign_13 : decode cX12_sign 13 = .ok (.aload_n 0, 1) := gdX12_sign_0.2.2.2.2.2.2.1
theorem dX12_sign_14 : decode cX12_sign 14 = .ok (.ldc2_w 244, 3) := gdX12_sign_0.2.2.2.2.2.2.2.1
theorem dX12_sign_17 : decode cX12_sign 17 = .ok (.invokevirtual 252, 3) := gdX12_sign_0.2.2.2.2.2.2.2.2.1
theorem dX12_sign_20 : decode cX12_sign 20 = .ok (.ifCond .eq 6, 3) := gdX12_sign_0.2.2.2.2.2.2.2.2.2.1
theorem dX12_sign_23 : decode cX12_sign 23 = .ok (.bipush 124, 2) := gdX12_sign_0.2.2.2.2.2.2.2.2.2.2.1
theorem dX12_sign_25 : decode cX12_sign 25 = .ok (.ireturn, 1) := gdX12_sign_0.2.2.2.2.2.2.2.2.2.2.2
theorem gdX12_sign_26 : decode cX12_sign 26 = .ok (.aload_n 0, 1) ∧ decode cX12_sign 27 = .ok (.getfield 184, 3) ∧ decode cX12_sign 30 = .ok (.bipush 60, 2) ∧ decode cX12_sign 32 = .ok (.if_icmp .eq 66, 3) ∧ decode cX12_sign 98 = .ok (.aload_n 0, 1) ∧ decode cX12_sign 99 = .ok (.getfield 184, 3) ∧ decode cX12_sign 102 = .ok (.goto 4, 3) ∧ decode cX12_sign 106 = .ok (.ireturn, 1) ∧ decode cX12_sign 35 = .ok (.aload_n 0, 1) ∧ decode cX12_sign 36 = .ok (.getfield 184, 3) ∧ decode cX12_sign 39 = .ok (.bipush 62, 2) ∧ decode cX12_sign 41 = .ok (.if_icmp .eq 57, 3) := by decide +kernel
theorem dX12_sign_26 : decode cX12_sign 26 = .ok (.aload_n 0, 1) := gdX12_sign_26.1
theorem dX12_sign_27 : decode cX12_sign 27 = .ok (.getfield 184, 3) := gdX12_sign_26.2.1
theorem dX12_sign_30 : decode cX12_sign 30 = .ok (.bipush 60, 2) := gdX12_sign_26.2.2.1
theorem dX12_sign_32 : decode cX12_sign 32 = .ok (.if_icmp .eq 66, 3) := gdX12_sign_26.2.2.2.1
theorem dX12_sign_98 : decode cX12_sign 98 = .ok (.aload_n 0, 1) := gdX12_sign_26.2.2.2.2.1
theorem dX12_sign_99 : decode cX12_sign 99 = .ok (.getfield 184, 3) := gdX12_sign_26.2.2.2.2.2.1
theorem dX12_sign_102 : decode cX12_sign 102 = .ok (.goto 4, 3) := gdX12_sign_26.2.2.2.2.2.2.1
theorem dX12_sign_106 : decode cX12_sign 106 = .ok (.ireturn, 1) := gdX12_sign_26.2.2.2.2.2.2.2.1
theorem dX12_sign_35 : decode cX12_sign 35 = .ok (.aload_n 0, 1) := gdX12_sign_26.2.2.2.2.2.2.2.2.1
theorem dX12_sign_36 : decode cX12_sign 36 = .ok (.getfield 184, 3) := gdX12_sign_26.2.2.2.2.2.2.2.2.2.1
theorem dX12_sign_39 : decode cX12_sign 39 = .ok (.bipush 62, 2) := gdX12_sign_26.2.2.2.2.2.2.2.2.2.2.1
theorem dX12_sign_41 : decode cX12_sign 41 = .ok (.if_icmp .eq 57, 3) := gdX12_sign_26.2.2.2.2.2.2.2.2.2.2.2
theorem gdX12_sign_44 : decode cX12_sign 44 = .ok (.aload_n 0, 1) ∧ decode cX12_sign 45 = .ok (.getfield 184, 3) ∧ decode cX12_sign 48 = .ok (.bipush 61, 2) ∧ decode cX12_sign 50 = .ok (.if_icmp .eq 48, 3) ∧ decode cX12_sign 53 = .ok (.aload_n 0, 1) ∧ decode cX12_sign 54 = .ok (.getfield 184, 3) ∧ decode cX12_sign 57 = .ok (.bipush 43, 2) ∧ decode cX12_sign 59 = .ok (.if_icmp .eq 39, 3) ∧ decode cX12_sign 62 = .ok (.aload_n 0, 1) ∧ decode cX12_sign 63 = .ok (.getfield 184, 3) ∧ decode cX12_sign 66 = .ok (.bipush 45, 2) ∧ decode cX12_sign 68 = .ok (.if_icmp .eq 30, 3) := by decide +kernel
theorem dX12_sign_44 : decode cX12_sign 44 = .ok (.aload_n 0, 1) := gdX12_sign_44.1
theorem dX12_sign_45 : decode cX12_sign 45 = .ok (.getfield 184, 3) := gdX12_sign_44.2.1
theorem dX12_sign_48 : decode cX12_sign 48 = .ok (.bipush 61, 2) := gdX12_sign_44.2.2.1
theorem dX12_sign_50 : decode cX12_sign 50 = .ok (.if_icmp .eq 48, 3) := gdX12_sign_44.2.2.2.1
theorem dX12_sign_53 : decode cX12_sign 53 = .ok (.aload_n 0, 1) := gdX12_sign_44.2.2.2.2.1
theorem dX12_sign_54 : decode cX12_sign 54 = .ok (.getfield 184, 3) := gdX12_sign_44.2.2.2.2.2.1
theorem dX12_sign_57 : decode cX12_sign 57 = .ok (.bipush 43, 2) := gdX12_sign_44.2.2.2.2.2.2.1
theorem dX12_sign_59 : decode cX12_sign 59 = .ok (.if_icmp .eq 39, 3) := gdX12_sign_44.2.2.2.2.2.2.2.1
theorem dX12_sign_62 : decode cX12_sign 62 = .ok (.aload_n 0, 1) := gdX12_sign_44.2.2.2.2.2.2.2.2.1
theorem dX12_sign_63 : decode cX12_sign 63 = .ok (.getfield 184, 3) := gdX12_sign_44.2.2.2.2.2.2.2.2.2.1
theorem dX12_sign_66 : decode cX12_sign 66 = .ok (.bipush 45, 2) := gdX12_sign_44.2.2.2.2.2.2.2.2.2.2.1
theorem dX12_sign_68 : decode cX12_sign 68 = .ok (.if_icmp .eq 30, 3) := gdX12_sign_44.2.2.2.2.2.2.2.2.2.2.2
theorem gdX12_sign_71 : decode cX12_sign 71 = .ok (.aload_n 0, 1) ∧ decode cX12_sign 72 = .ok (.getfield 184, 3) ∧ decode cX12_sign 75 = .ok (.bipush 42, 2) ∧ decode cX12_sign 77 = .ok (.if_icmp .eq 21, 3) ∧ decode cX12_sign 80 = .ok (.aload_n 0, 1) ∧ decode cX12_sign 81 = .ok (.getfield 184, 3) ∧ decode cX12_sign 84 = .ok (.bipush 47, 2) ∧ decode cX12_sign 86 = .ok (.if_icmp .eq 12, 3) ∧ decode cX12_sign 89 = .ok (.aload_n 0, 1) ∧ decode cX12_sign 90 = .ok (.getfield 184, 3) ∧ decode cX12_sign 93 = .ok (.bipush 37, 2) ∧ decode cX12_sign 95 = .ok (.if_icmp .ne 10, 3) := by decide +kernel
theorem dX12_sign_71 : decode cX12_sign 71 = .ok (.aload_n 0, 1) := gdX12_sign_71.1
theorem dX12_sign_72 : decode cX12_sign 72 = .ok (.getfield 184, 3) := gdX12_sign_71.2.1
theorem dX12_sign_75 : decode cX12_sign 75 = .ok (.bipush 42, 2) := gdX12_sign_71.2.2.1
theorem dX12_sign_77 : decode cX12_sign 77 = .ok (.if_icmp .eq 21, 3) := gdX12_sign_71.2.2.2.1
theorem dX12_sign_80 : decode cX12_sign 80 = .ok (.aload_n 0, 1) := gdX12_sign_71.2.2.2.2.1
theorem dX12_sign_81 : decode cX12_sign 81 = .ok (.getfield 184, 3) := gdX12_sign_71.2.2.2.2.2.1
theorem dX12_sign_84 : decode cX12_sign 84 = .ok (.bipush 47, 2) := gdX12_sign_71.2.2.2.2.2.2.1
theorem dX12_sign_86 : decode cX12_sign 86 = .ok (.if_icmp .eq 12, 3) := gdX12_sign_71.2.2.2.2.2.2.2.1
theorem dX12_sign_89 : decode cX12_sign 89 = .ok (.aload_n 0, 1) := gdX12_sign_71.2.2.2.2.2.2.2.2.1
theorem dX12_sign_90 : decode cX12_sign 90 = .ok (.getfield 184, 3) := gdX12_sign_71.2.2.2.2.2.2.2.2.2.1
theorem dX12_sign_93 : decode cX12_sign 93 = .ok (.bipush 37, 2) := gdX12_sign_71.2.2.2.2.2.2.2.2.2.2.1
theorem dX12_sign_95 : decode cX12_sign 95 = .ok (.if_icmp .ne 10, 3) := gdX12_sign_71.2.2.2.2.2.2.2.2.2.2.2
theorem dX12_sign_105 : decode cX12_sign 105 = .ok (.iconst 0, 1) := by decide +kernel
set_option maxHeartbeats 1000000 in
set_option maxRecDepth 100000 in
theorem r_sign (l : Launch) (D : va_G) (cy : Nat → ClassId) (m0 : Nat) (Mtape : Nat) (MnName : Nat) (MnStep : Nat) (MnArg : Nat) (MnMany : Nat) (Mstep : Nat) (Marg : Nat) (Mmany : Nat) (Mopen : Nat) (Mvalues : Nat) (MnHasForm : Nat) (MhasForm : Nat) (Masks : Nat) (MnLoud : Nat) (MnCliffAt : Nat) (MnSnow : Nat) (MnManAt : Nat) (MnVoice : Nat) (MnOn : Nat) (Mloud : Nat) (McliffAt : Nat) (MsnowTold : Nat) (MmanAt : Nat) (Mvoice : Nat) (Mon : Nat) (MnYes : Nat) (Myes : Nat) (Mnow : Nat) (Mcry : Nat) (Msnow : Nat) (Mecho : Nat) (Mwere : Nat) (Mlies : Nat) (Mspots : Nat) (Msteps : Nat) (MfromState : Nat) (MbyWord : Nat) (Mqueue : Nat) (MsoundCliff : Nat) (MsoundLong : Nat) (MsoundCame : Nat) (MsoundTold : Nat) (MsoundUntold : Nat) (Mstands : Nat) (Mtally : Nat) (MhasBox : Nat) (Mboxes : Nat) (Itaped : Nat) (Ifault : Nat) (IfaultPlace : Int32) (Iat : Nat) (Isize : Nat) (Isort : Int32) (Iplace : Int32) (Inumber : Int32) (Iword : Int64) (Iform : Nat) (Iopens : Nat) (InUnits : Nat) (Iunits : Int32) (IownUnits : Nat) (Ideep : Nat) (InWords : Nat) (InCliffs : Nat) (InMen : Nat) (InStates : Nat) (InOns : Nat) (InWind : Int32) (InDraw : Int32) (Iwords : Nat) (Icliffs : Nat) (Imen : Nat) (Istates : Nat) (Ions : Int32) (IwindTold : Int32) (InHasWind : Int32) (InHasDraw : Int32) (IcryMany : Nat) (IcallPlace : Int32) (IcallVoice : Int32) (Iwind : Int32) (Ichance : Int32) (IechoMany : Nat) (Iacts : Nat) (Iundone : Nat) (Ilain : Nat) (Isounds : Nat) (Itime : Int32) (IstandMany : Int32) (ga : Nat) (Gtape : Nat → Int32) (gtp : Itaped ≤ 1600) (gat : Iat ≤ Isize) (gsz : Isize ≤ 1600) (gfl : Ifault ≤ 5) (gfo : Iform ≤ 2) (gnw : InWords ≤ 8) (gnc : InCliffs ≤ 4) (gnm : InMen ≤ 4) (gns : InStates ≤ 6) (gw : Iwords ≤ 8) (gc9 : Icliffs ≤ 4) (gm : Imen ≤ 4) (gs : Istates ≤ 6) (gcm : IcryMany ≤ 10) (gem : IechoMany ≤ 20) (gau : Iacts + Iundone ≤ 40) (gla : Ilain ≤ 20) (gso : Isounds ≤ 30) (gop : Iopens ≤ 40) (gde : Ideep ≤ 8) (gou : IownUnits ≤ 31) (gnu : InUnits ≤ 61) (gno : InOns ≤ 30) (hti : tkR Gtape Isize ga Iat Isort Iplace Inumber Iword) : XMi l D (tyL cy) E0 yX12_sign cX12_sign 1 (some .int) (rmk 1 0 0) [.ref m0] [wO m0 12 [.ref Mtape, .int (nI Itaped), .int (nI Ifault), .int IfaultPlace, .int (nI Iat), .int (nI Isize), .int Isort, .int Iplace, .int Inumber, .long Iword, .ref MnName, .ref MnStep, .ref MnArg, .ref MnMany, .ref Mstep, .ref Marg, .ref Mmany, .ref Mopen, .ref Mvalues, .ref MnHasForm, .ref MhasForm, .int (nI Iform), .int (nI Iopens), .int (nI InUnits), .int Iunits, .int (nI IownUnits), .int (nI Ideep), .ref Masks, .ref MnLoud, .ref MnCliffAt, .ref MnSnow, .ref MnManAt, .ref MnVoice, .ref MnOn, .ref Mloud, .ref McliffAt, .ref MsnowTold, .ref MmanAt, .ref Mvoice, .ref Mon, .ref MnYes, .ref Myes, .int (nI InWords), .int (nI InCliffs), .int (nI InMen), .int (nI InStates), .int (nI InOns), .int InWind, .int InDraw, .int (nI Iwords), .int (nI Icliffs), .int (nI Imen), .int (nI Istates), .int Ions, .int IwindTold, .int InHasWind, .int InHasDraw, .ref Mnow, .ref Mcry, .ref Msnow, .ref Mecho, .int (nI IcryMany), .int IcallPlace, .int IcallVoice, .int Iwind, .int Ichance, .int (nI IechoMany), .ref Mwere, .int (nI Iacts), .int (nI Iundone), .ref Mlies, .int (nI Ilain), .ref Mspots, .ref Msteps, .ref MfromState, .ref MbyWord, .ref Mqueue, .ref MsoundCliff, .ref MsoundLong, .ref MsoundCame, .ref MsoundTold, .ref MsoundUntold, .int (nI Isounds), .int Itime, .ref Mstands, .int IstandMany, .ref Mtally, .ref MhasBox, .ref Mboxes]] (fun (r : Int32) (_ : Unit) => (r = sgM (knd Gtape Isize ga))) (fun (_ : Unit) => [wO m0 12 [.ref Mtape, .int (nI Itaped), .int (nI Ifault), .int IfaultPlace, .int (nI Iat), .int (nI Isize), .int Isort, .int Iplace, .int Inumber, .long Iword, .ref MnName, .ref MnStep, .ref MnArg, .ref MnMany, .ref Mstep, .ref Marg, .ref Mmany, .ref Mopen, .ref Mvalues, .ref MnHasForm, .ref MhasForm, .int (nI Iform), .int (nI Iopens), .int (nI InUnits), .int Iunits, .int (nI IownUnits), .int (nI Ideep), .ref Masks, .ref MnLoud, .ref MnCliffAt, .ref MnSnow, .ref MnManAt, .ref MnVoice, .ref MnOn, .ref Mloud, .ref McliffAt, .ref MsnowTold, .ref MmanAt, .ref Mvoice, .ref Mon, .ref MnYes, .ref Myes, .int (nI InWords), .int (nI InCliffs), .int (nI InMen), .int (nI InStates), .int (nI InOns), .int InWind, .int InDraw, .int (nI Iwords), .int (nI Icliffs), .int (nI Imen), .int (nI Istates), .int Ions, .int IwindTold, .int InHasWind, .int InHasDraw, .ref Mnow, .ref Mcry, .ref Msnow, .ref Mecho, .int (nI IcryMany), .int IcallPlace, .int IcallVoice, .int Iwind, .int Ichance, .int (nI IechoMany), .ref Mwere, .int (nI Iacts), .int (nI Iundone), .ref Mlies, .int (nI Ilain), .ref Mspots, .ref Msteps, .ref MfromState, .ref MbyWord, .ref Mqueue, .ref MsoundCliff, .ref MsoundLong, .ref MsoundCame, .ref MsoundTold, .ref MsoundUntold, .int (nI Isounds), .int Itime, .ref Mstands, .int IstandMany, .ref Mtally, .ref MhasBox, .ref Mboxes]]) := by
  refine XMi.start (by decide) (Nat.le_of_ble_eq_true rfl) ?_
  intro p e s m below meth c args A ls Q hat hQ
  obtain ⟨hx, hb, hr, hml, hown, hg, hlocks, hin, hK, hA, hP, hD, hS, hE, hl⟩ := hat
  have hown : s.vm.findClass RX12 = some m.cls := hown
  have hl : lv_has ls 1 [(0, .ref m0)] := hl
  refine lv_aload_n hx hb dX12_sign_0 rfl (lv_at hl 0 rfl) ?_
  refine lv_ldc2 (v := 6385252) hx hb hown (hg _ m_1764) dX12_sign_1 ?_
  refine x_callVi (q := (RX12, TX12, 89)) (ci := 12) (q0 := 0) (wr := []) (rest := []) ⟨hx, hb, hml, hown, hg, hl.1⟩ k_X12_252 (r_isWord l D cy m0 Mtape MnName MnStep MnArg MnMany Mstep Marg Mmany Mopen Mvalues MnHasForm MhasForm Masks MnLoud MnCliffAt MnSnow MnManAt MnVoice MnOn Mloud McliffAt MsnowTold MmanAt Mvoice Mon MnYes Myes Mnow Mcry Msnow Mecho Mwere Mlies Mspots Msteps MfromState MbyWord Mqueue MsoundCliff MsoundLong MsoundCame MsoundTold MsoundUntold Mstands Mtally MhasBox Mboxes Itaped Ifault IfaultPlace Iat Isize Isort Iplace Inumber Iword Iform Iopens InUnits Iunits IownUnits Ideep InWords InCliffs InMen InStates InOns InWind InDraw Iwords Icliffs Imen Istates Ions IwindTold InHasWind InHasDraw IcryMany IcallPlace IcallVoice Iwind Ichance IechoMany Iacts Iundone Ilain Isounds Itime IstandMany 6385252 15 ga Gtape (by omega) (by omega) (by omega) (by omega) (by omega) (by omega) (by omega) (by omega) (by omega) (by omega) (by omega) (by omega) (by omega) (by omega) (by omega) (by omega) (by omega) (by omega) (by omega) (by omega) (by omega) (by omega) (by omega) (by omega) (ow_15) (hti)) E0_blind hK hP hD hS hA [0] [] ⟨rfl, rfl, by decide +kernel, by decide +kernel, by decide +kernel⟩ rfl rfl (fun _ _ _ => trivial) dX12_sign_4 rfl rfl (Nat.le_of_ble_eq_true rfl) ⟨Nat.le_of_ble_eq_true rfl, Nat.le_of_ble_eq_true rfl⟩ ⟨Nat.le_of_ble_eq_true rfl, Nat.le_of_ble_eq_true rfl⟩ (fun zr1 zu1 H locs hw1 hP9 hD9 hS9 => ?_)
  clear hP hD hS
  refine reW [wO m0 12 [.ref Mtape, .int (nI Itaped), .int (nI Ifault), .int IfaultPlace, .int (nI Iat), .int (nI Isize), .int Isort, .int Iplace, .int Inumber, .long Iword, .ref MnName, .ref MnStep, .ref MnArg, .ref MnMany, .ref Mstep, .ref Marg, .ref Mmany, .ref Mopen, .ref Mvalues, .ref MnHasForm, .ref MhasForm, .int (nI Iform), .int (nI Iopens), .int (nI InUnits), .int Iunits, .int (nI IownUnits), .int (nI Ideep), .ref Masks, .ref MnLoud, .ref MnCliffAt, .ref MnSnow, .ref MnManAt, .ref MnVoice, .ref MnOn, .ref Mloud, .ref McliffAt, .ref MsnowTold, .ref MmanAt, .ref Mvoice, .ref Mon, .ref MnYes, .ref Myes, .int (nI InWords), .int (nI InCliffs), .int (nI InMen), .int (nI InStates), .int (nI InOns), .int InWind, .int InDraw, .int (nI Iwords), .int (nI Icliffs), .int (nI Imen), .int (nI Istates), .int Ions, .int IwindTold, .int InHasWind, .int InHasDraw, .ref Mnow, .ref Mcry, .ref Msnow, .ref Mecho, .int (nI IcryMany), .int IcallPlace, .int IcallVoice, .int Iwind, .int Ichance, .int (nI IechoMany), .ref Mwere, .int (nI Iacts), .int (nI Iundone), .ref Mlies, .int (nI Ilain), .ref Mspots, .ref Msteps, .ref MfromState, .ref MbyWord, .ref Mqueue, .ref MsoundCliff, .ref MsoundLong, .ref MsoundCame, .ref MsoundTold, .ref MsoundUntold, .int (nI Isounds), .int Itime, .ref Mstands, .int IstandMany, .ref Mtally, .ref MhasBox, .ref Mboxes]] hP9 hD9 hS9 (fun hP hD hS => ?_)
  clear hP9 hD9 hS9
  refine W.widen (k := 0) (n := 0) (Nat.le_of_ble_eq_true rfl) (Nat.le_of_ble_eq_true rfl) ?_
  replace hw1 : ((zr1 = 1 ∧ (knd Gtape Isize ga = 100 + 15)) ∨ (zr1 = 0 ∧ (¬ knd Gtape Isize ga = 100 + 15))) := hw1
  have f_2 := hw1
  rcases f_2 with ⟨hz_4, a_3⟩ | ⟨hz_6, a_5⟩
  · subst hz_4
    refine lv_if_eq (tgt := 13) hx hb dX12_sign_7 (by decide) (fun h => absurd h (by decide)) (fun _ => ?_)
    refine lv_bipush (v := 38) hx hb dX12_sign_10 (by decide) ?_
    exact x_iret hQ hx hb hr hlocks hK hP hD hS dX12_sign_12 () ((show (38 : Int32) = sgM (knd Gtape Isize ga) from (show (38 : Int32) = sgM (knd Gtape Isize ga) from by rw [a_3]; rfl))) [0] (by decide +kernel) rfl (Nat.le_of_ble_eq_true rfl) (Nat.le_of_ble_eq_true rfl)
  · subst hz_6
    refine lv_if_eq (tgt := 13) hx hb dX12_sign_7 (by decide) (fun _ => ?_) (fun h => absurd (by decide) h)
    refine lv_aload_n hx hb dX12_sign_13 rfl (lv_at hl 0 rfl) ?_
    refine lv_ldc2 (v := 28530) hx hb hown (hg _ m_1765) dX12_sign_14 ?_
    refine x_callVi (q := (RX12, TX12, 89)) (ci := 12) (q0 := 0) (wr := []) (rest := []) ⟨hx, hb, hml, hown, hg, hl.1⟩ k_X12_252 (r_isWord l D cy m0 Mtape MnName MnStep MnArg MnMany Mstep Marg Mmany Mopen Mvalues MnHasForm MhasForm Masks MnLoud MnCliffAt MnSnow MnManAt MnVoice MnOn Mloud McliffAt MsnowTold MmanAt Mvoice Mon MnYes Myes Mnow Mcry Msnow Mecho Mwere Mlies Mspots Msteps MfromState MbyWord Mqueue MsoundCliff MsoundLong MsoundCame MsoundTold MsoundUntold Mstands Mtally MhasBox Mboxes Itaped Ifault IfaultPlace Iat Isize Isort Iplace Inumber Iword Iform Iopens InUnits Iunits IownUnits Ideep InWords InCliffs InMen InStates InOns InWind InDraw Iwords Icliffs Imen Istates Ions IwindTold InHasWind InHasDraw IcryMany IcallPlace IcallVoice Iwind Ichance IechoMany Iacts Iundone Ilain Isounds Itime IstandMany 28530 14 ga Gtape (by omega) (by omega) (by omega) (by omega) (by omega) (by omega) (by omega) (by omega) (by omega) (by omega) (by omega) (by omega) (by omega) (by omega) (by omega) (by omega) (by omega) (by omega) (by omega) (by omega) (by omega) (by omega) (by omega) (by omega) (ow_14) (hti)) E0_blind hK hP hD hS hA [0] [] ⟨rfl, rfl, by decide +kernel, by decide +kernel, by decide +kernel⟩ rfl rfl (fun _ _ _ => trivial) dX12_sign_17 rfl rfl (Nat.le_of_ble_eq_true rfl) ⟨Nat.le_of_ble_eq_true rfl, Nat.le_of_ble_eq_true rfl⟩ ⟨Nat.le_of_ble_eq_true rfl, Nat.le_of_ble_eq_true rfl⟩ (fun zr7 zu7 H locs hw7 hP9 hD9 hS9 => ?_)
    clear hP hD hS
    refine reW [wO m0 12 [.ref Mtape, .int (nI Itaped), .int (nI Ifault), .int IfaultPlace, .int (nI Iat), .int (nI Isize), .int Isort, .int Iplace, .int Inumber, .long Iword, .ref MnName, .ref MnStep, .ref MnArg, .ref MnMany, .ref Mstep, .ref Marg, .ref Mmany, .ref Mopen, .ref Mvalues, .ref MnHasForm, .ref MhasForm, .int (nI Iform), .int (nI Iopens), .int (nI InUnits), .int Iunits, .int (nI IownUnits), .int (nI Ideep), .ref Masks, .ref MnLoud, .ref MnCliffAt, .ref MnSnow, .ref MnManAt, .ref MnVoice, .ref MnOn, .ref Mloud, .ref McliffAt, .ref MsnowTold, .ref MmanAt, .ref Mvoice, .ref Mon, .ref MnYes, .ref Myes, .int (nI InWords), .int (nI InCliffs), .int (nI InMen), .int (nI InStates), .int (nI InOns), .int InWind, .int InDraw, .int (nI Iwords), .int (nI Icliffs), .int (nI Imen), .int (nI Istates), .int Ions, .int IwindTold, .int InHasWind, .int InHasDraw, .ref Mnow, .ref Mcry, .ref Msnow, .ref Mecho, .int (nI IcryMany), .int IcallPlace, .int IcallVoice, .int Iwind, .int Ichance, .int (nI IechoMany), .ref Mwere, .int (nI Iacts), .int (nI Iundone), .ref Mlies, .int (nI Ilain), .ref Mspots, .ref Msteps, .ref MfromState, .ref MbyWord, .ref Mqueue, .ref MsoundCliff, .ref MsoundLong, .ref MsoundCame, .ref MsoundTold, .ref MsoundUntold, .int (nI Isounds), .int Itime, .ref Mstands, .int IstandMany, .ref Mtally, .ref MhasBox, .ref Mboxes]] hP9 hD9 hS9 (fun hP hD hS => ?_)
    clear hP9 hD9 hS9
    refine W.widen (k := 0) (n := 0) (Nat.le_of_ble_eq_true rfl) (Nat.le_of_ble_eq_true rfl) ?_
    replace hw7 : ((zr7 = 1 ∧ (knd Gtape Isize ga = 100 + 14)) ∨ (zr7 = 0 ∧ (¬ knd Gtape Isize ga = 100 + 14))) := hw7
    have f_8 := hw7
    rcases f_8 with ⟨hz_10, a_9⟩ | ⟨hz_12, a_11⟩
    · subst hz_10
      refine lv_if_eq (tgt := 26) hx hb dX12_sign_20 (by decide) (fun h => absurd h (by decide)) (fun _ => ?_)
      refine lv_bipush (v := 124) hx hb dX12_sign_23 (by decide) ?_
      exact x_iret hQ hx hb hr hlocks hK hP hD hS dX12_sign_25 () ((show (124 : Int32) = sgM (knd Gtape Isize ga) from (show (124 : Int32) = sgM (knd Gtape Isize ga) from by rw [a_9]; rfl))) [0] (by decide +kernel) rfl (Nat.le_of_ble_eq_true rfl) (Nat.le_of_ble_eq_true rfl)
    · subst hz_12
      refine lv_if_eq (tgt := 26) hx hb dX12_sign_20 (by decide) (fun _ => ?_) (fun h => absurd (by decide) h)
      refine lv_aload_n hx hb dX12_sign_26 rfl (lv_at hl 0 rfl) ?_
      refine va_get (D := D) (ci := 12) (v := .int Isort) (C := RX12) (T := TX12) (N := 89) hx hb hg i_X12 hown hK hP 0 rfl rfl 6 (by decide) (hg _ m_1419) (fun _ h9 => h9) rfl dX12_sign_27 ?_
      refine lv_bipush (v := 60) hx hb dX12_sign_30 (by decide) ?_
      refine lv_icmp_eq (tgt := 98) hx hb dX12_sign_32 (by decide) (fun c_32 => ?_) (fun c_32 => ?_)
      · refine lv_aload_n hx hb dX12_sign_98 rfl (lv_at hl 0 rfl) ?_
        refine va_get (D := D) (ci := 12) (v := .int Isort) (C := RX12) (T := TX12) (N := 89) hx hb hg i_X12 hown hK hP 0 rfl rfl 6 (by decide) (hg _ m_1419) (fun _ h9 => h9) rfl dX12_sign_99 ?_
        refine lv_goto (tgt := 106) hx hb dX12_sign_102 (by decide) ?_
        exact x_iret hQ hx hb hr hlocks hK hP hD hS dX12_sign_106 () ((show (Isort : Int32) = sgM (knd Gtape Isize ga) from sg_r hti (k := 60) c_32 (by decide))) [0] (by decide +kernel) rfl (Nat.le_of_ble_eq_true rfl) (Nat.le_of_ble_eq_true rfl)
      · refine lv_aload_n hx hb dX12_sign_35 rfl (lv_at hl 0 rfl) ?_
        refine va_get (D := D) (ci := 12) (v := .int Isort) (C := RX12) (T := TX12) (N := 89) hx hb hg i_X12 hown hK hP 0 rfl rfl 6 (by decide) (hg _ m_1419) (fun _ h9 => h9) rfl dX12_sign_36 ?_
        refine lv_bipush (v := 62) hx hb dX12_sign_39 (by decide) ?_
        refine lv_icmp_eq (tgt := 98) hx hb dX12_sign_41 (by decide) (fun c_41 => ?_) (fun c_41 => ?_)
        · refine lv_aload_n hx hb dX12_sign_98 rfl (lv_at hl 0 rfl) ?_
          refine va_get (D := D) (ci := 12) (v := .int Isort) (C := RX12) (T := TX12) (N := 89) hx hb hg i_X12 hown hK hP 0 rfl rfl 6 (by decide) (hg _ m_1419) (fun _ h9 => h9) rfl dX12_sign_99 ?_
          refine lv_goto (tgt := 106) hx hb dX12_sign_102 (by decide) ?_
          exact x_iret hQ hx hb hr hlocks hK hP hD hS dX12_sign_106 () ((show (Isort : Int32) = sgM (knd Gtape Isize ga) from sg_r hti (k := 62) c_41 (by decide))) [0] (by decide +kernel) rfl (Nat.le_of_ble_eq_true rfl) (Nat.le_of_ble_eq_true rfl)
        · refine lv_aload_n hx hb dX12_sign_44 rfl (lv_at hl 0 rfl) ?_
          refine va_get (D := D) (ci := 12) (v := .int Isort) (C := RX12) (T := TX12) (N := 89) hx hb hg i_X12 hown hK hP 0 rfl rfl 6 (by decide) (hg _ m_1419) (fun _ h9 => h9) rfl dX12_sign_45 ?_
          refine lv_bipush (v := 61) hx hb dX12_sign_48 (by decide) ?_
          refine lv_icmp_eq (tgt := 98) hx hb dX12_sign_50 (by decide) (fun c_50 => ?_) (fun c_50 => ?_)
          · refine lv_aload_n hx hb dX12_sign_98 rfl (lv_at hl 0 rfl) ?_
            refine va_get (D := D) (ci := 12) (v := .int Isort) (C := RX12) (T := TX12) (N := 89) hx hb hg i_X12 hown hK hP 0 rfl rfl 6 (by decide) (hg _ m_1419) (fun _ h9 => h9) rfl dX12_sign_99 ?_
            refine lv_goto (tgt := 106) hx hb dX12_sign_102 (by decide) ?_
            exact x_iret hQ hx hb hr hlocks hK hP hD hS dX12_sign_106 () ((show (Isort : Int32) = sgM (knd Gtape Isize ga) from sg_r hti (k := 61) c_50 (by decide))) [0] (by decide +kernel) rfl (Nat.le_of_ble_eq_true rfl) (Nat.le_of_ble_eq_true rfl)
          · refine lv_aload_n hx hb dX12_sign_53 rfl (lv_at hl 0 rfl) ?_
            refine va_get (D := D) (ci := 12) (v := .int Isort) (C := RX12) (T := TX12) (N := 89) hx hb hg i_X12 hown hK hP 0 rfl rfl 6 (by decide) (hg _ m_1419) (fun _ h9 => h9) rfl dX12_sign_54 ?_
            refine lv_bipush (v := 43) hx hb dX12_sign_57 (by decide) ?_
            refine lv_icmp_eq (tgt := 98) hx hb dX12_sign_59 (by decide) (fun c_59 => ?_) (fun c_59 => ?_)
            · refine lv_aload_n hx hb dX12_sign_98 rfl (lv_at hl 0 rfl) ?_
              refine va_get (D := D) (ci := 12) (v := .int Isort) (C := RX12) (T := TX12) (N := 89) hx hb hg i_X12 hown hK hP 0 rfl rfl 6 (by decide) (hg _ m_1419) (fun _ h9 => h9) rfl dX12_sign_99 ?_
              refine lv_goto (tgt := 106) hx hb dX12_sign_102 (by decide) ?_
              exact x_iret hQ hx hb hr hlocks hK hP hD hS dX12_sign_106 () ((show (Isort : Int32) = sgM (knd Gtape Isize ga) from sg_r hti (k := 43) c_59 (by decide))) [0] (by decide +kernel) rfl (Nat.le_of_ble_eq_true rfl) (Nat.le_of_ble_eq_true rfl)
            · refine lv_aload_n hx hb dX12_sign_62 rfl (lv_at hl 0 rfl) ?_
              refine va_get (D := D) (ci := 12) (v := .int Isort) (C := RX12) (T := TX12) (N := 89) hx hb hg i_X12 hown hK hP 0 rfl rfl 6 (by decide) (hg _ m_1419) (fun _ h9 => h9) rfl dX12_sign_63 ?_
              refine lv_bipush (v := 45) hx hb dX12_sign_66 (by decide) ?_
              refine lv_icmp_eq (tgt := 98) hx hb dX12_sign_68 (by decide) (fun c_68 => ?_) (fun c_68 => ?_)
              · refine lv_aload_n hx hb dX12_sign_98 rfl (lv_at hl 0 rfl) ?_
                refine va_get (D := D) (ci := 12) (v := .int Isort) (C := RX12) (T := TX12) (N := 89) hx hb hg i_X12 hown hK hP 0 rfl rfl 6 (by decide) (hg _ m_1419) (fun _ h9 => h9) rfl dX12_sign_99 ?_
                refine lv_goto (tgt := 106) hx hb dX12_sign_102 (by decide) ?_
                exact x_iret hQ hx hb hr hlocks hK hP hD hS dX12_sign_106 () ((show (Isort : Int32) = sgM (knd Gtape Isize ga) from sg_r hti (k := 45) c_68 (by decide))) [0] (by decide +kernel) rfl (Nat.le_of_ble_eq_true rfl) (Nat.le_of_ble_eq_true rfl)
              · refine lv_aload_n hx hb dX12_sign_71 rfl (lv_at hl 0 rfl) ?_
                refine va_get (D := D) (ci := 12) (v := .int Isort) (C := RX12) (T := TX12) (N := 89) hx hb hg i_X12 hown hK hP 0 rfl rfl 6 (by decide) (hg _ m_1419) (fun _ h9 => h9) rfl dX12_sign_72 ?_
                refine lv_bipush (v := 42) hx hb dX12_sign_75 (by decide) ?_
                refine lv_icmp_eq (tgt := 98) hx hb dX12_sign_77 (by decide) (fun c_77 => ?_) (fun c_77 => ?_)
                · refine lv_aload_n hx hb dX12_sign_98 rfl (lv_at hl 0 rfl) ?_
                  refine va_get (D := D) (ci := 12) (v := .int Isort) (C := RX12) (T := TX12) (N := 89) hx hb hg i_X12 hown hK hP 0 rfl rfl 6 (by decide) (hg _ m_1419) (fun _ h9 => h9) rfl dX12_sign_99 ?_
                  refine lv_goto (tgt := 106) hx hb dX12_sign_102 (by decide) ?_
                  exact x_iret hQ hx hb hr hlocks hK hP hD hS dX12_sign_106 () ((show (Isort : Int32) = sgM (knd Gtape Isize ga) from sg_r hti (k := 42) c_77 (by decide))) [0] (by decide +kernel) rfl (Nat.le_of_ble_eq_true rfl) (Nat.le_of_ble_eq_true rfl)
                · refine lv_aload_n hx hb dX12_sign_80 rfl (lv_at hl 0 rfl) ?_
                  refine va_get (D := D) (ci := 12) (v := .int Isort) (C := RX12) (T := TX12) (N := 89) hx hb hg i_X12 hown hK hP 0 rfl rfl 6 (by decide) (hg _ m_1419) (fun _ h9 => h9) rfl dX12_sign_81 ?_
                  refine lv_bipush (v := 47) hx hb dX12_sign_84 (by decide) ?_
                  refine lv_icmp_eq (tgt := 98) hx hb dX12_sign_86 (by decide) (fun c_86 => ?_) (fun c_86 => ?_)
                  · refine lv_aload_n hx hb dX12_sign_98 rfl (lv_at hl 0 rfl) ?_
                    refine va_get (D := D) (ci := 12) (v := .int Isort) (C := RX12) (T := TX12) (N := 89) hx hb hg i_X12 hown hK hP 0 rfl rfl 6 (by decide) (hg _ m_1419) (fun _ h9 => h9) rfl dX12_sign_99 ?_
                    refine lv_goto (tgt := 106) hx hb dX12_sign_102 (by decide) ?_
                    exact x_iret hQ hx hb hr hlocks hK hP hD hS dX12_sign_106 () ((show (Isort : Int32) = sgM (knd Gtape Isize ga) from sg_r hti (k := 47) c_86 (by decide))) [0] (by decide +kernel) rfl (Nat.le_of_ble_eq_true rfl) (Nat.le_of_ble_eq_true rfl)
                  · refine lv_aload_n hx hb dX12_sign_89 rfl (lv_at hl 0 rfl) ?_
                    refine va_get (D := D) (ci := 12) (v := .int Isort) (C := RX12) (T := TX12) (N := 89) hx hb hg i_X12 hown hK hP 0 rfl rfl 6 (by decide) (hg _ m_1419) (fun _ h9 => h9) rfl dX12_sign_90 ?_
                    refine lv_bipush (v := 37) hx hb dX12_sign_93 (by decide) ?_
                    refine lv_icmp_ne (tgt := 105) hx hb dX12_sign_95 (by decide) (fun c_95 => ?_) (fun c_95 => ?_)
                    · refine lv_iconst (v := 0) hx hb dX12_sign_105 (by decide) ?_
                      exact x_iret hQ hx hb hr hlocks hK hP hD hS dX12_sign_106 () ((show (0 : Int32) = sgM (knd Gtape Isize ga) from sg_0 hti a_5 a_11 c_32 c_41 c_50 c_59 c_68 c_77 c_86 c_95)) [0] (by decide +kernel) rfl (Nat.le_of_ble_eq_true rfl) (Nat.le_of_ble_eq_true rfl)
                    · refine lv_aload_n hx hb dX12_sign_98 rfl (lv_at hl 0 rfl) ?_
                      refine va_get (D := D) (ci := 12) (v := .int Isort) (C := RX12) (T := TX12) (N := 89) hx hb hg i_X12 hown hK hP 0 rfl rfl 6 (by decide) (hg _ m_1419) (fun _ h9 => h9) rfl dX12_sign_99 ?_
                      refine lv_goto (tgt := 106) hx hb dX12_sign_102 (by decide) ?_
                      exact x_iret hQ hx hb hr hlocks hK hP hD hS dX12_sign_106 () ((show (Isort : Int32) = sgM (knd Gtape Isize ga) from sg_r hti (k := 37) c_95 (by decide))) [0] (by decide +kernel) rfl (Nat.le_of_ble_eq_true rfl) (Nat.le_of_ble_eq_true rfl)
