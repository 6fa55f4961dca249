/-- the bytes of the constant text of the keys -/
def kB : List Int32 := [119, 111, 114, 100, 32, 99, 108, 105, 102, 102, 32, 109, 97, 110, 32, 115, 116, 97, 116, 101, 32, 111, 110, 32, 98, 97, 99, 107, 32, 108, 111, 115, 116, 32, 116, 117, 114, 110, 32, 119, 105, 110, 100, 32, 100, 114, 97, 119, 32, 97, 116, 32, 118, 111, 105, 99, 101, 32, 121, 101, 115, 32, 116, 111, 32, 111, 114, 32, 97, 110, 100, 32, 110, 111, 116, 32, 102, 97, 114, 32, 98, 108, 111, 119, 115, 32, 115, 110, 111, 119, 32, 108, 111, 110, 103, 32, 108, 111, 117, 100, 32, 98, 101, 104, 105, 110, 100, 32, 99, 104, 97, 110, 99, 101, 32]
def kTx : String := "word cliff man state on back lost turn wind draw at voice yes to or and not far blows snow long loud behind chance "
def kS : List Int32 := [59, 40, 41, 60, 62, 61, 43, 45, 42, 47, 37]
def kSx : String := ";()<>=+-*/%"
def xAOA (t : FieldType) (U : State) : Prop := (Cond.arrayOver (.array t)).before #[] U = true
theorem xAOA.moved {t : FieldType} {u U : State} (hvm : u.vm.Alike U.vm) (h : xAOA t u) : xAOA t U := by
  obtain ⟨comp, c, k, h1, h2, h3, h4, h5⟩ := arrayOverA_spec h
  obtain ⟨k', hk', he⟩ := hvm.2.2 _ _ h3
  have hi : (U.vm.classes.findIdx? fun (x : Class) => match x.kind with | .array component _ => component == comp | _ => false) = some c := by
    have a1 := va_idx_bare U.vm comp
    have a2 := va_idx_bare u.vm comp
    have h9 := a2.trans h2
    first | rw [hvm.bare_eq] at h9 | rw [← hvm.bare_eq] at h9
    exact a1.symm.trans h9
  have hkind : k'.kind = .array comp (.array t) := by rw [he]; exact h4
  have f1 : U.vm.findClass (FieldType.array t).toString = some comp := by rw [hvm.findClass]; exact h1
  have f2 : U.vm.findClass ("[" ++ (FieldType.array t).toString) = some c := by rw [hvm.findClass]; exact h5
  unfold xAOA Cond.before Cond.holds
  simp only [Cond.value]
  rw [f1, Option.bind_some]
  refine (congrArg (fun o : Option Nat => (o.bind (fun c => (U.vm.classes[c]?).map fun (k : Class) => match k.kind with | .array _ ty => decide (ty = FieldType.array t) && decide (U.vm.findClass ("[" ++ (FieldType.array t).toString) = some c) | _ => false) == some true)) hi).trans ?_
  simp [hk', hkind, f2]
/-- what is needed beside the world: links between nest mates, arrays over classes, the constant texts, statics of the JDK -/
def EV (adK adV : Nat → Nat) (A : Nat → Prop) (U : State) : Prop :=
  va_Nw (.methodLinkNest RX4 38 yX3_init RX11) U ∧ va_Nw (.methodLinkNest RX0 21 yX2_init RX11) U ∧ va_Nw (.methodLinkNest RX11 37 yX5_init RX11) U ∧ va_Nw (.methodLinkNest RX11 44 yX8_init RX11) U ∧ va_Nw (.methodLinkNest RX11 74 yX7_init RX11) U ∧ xAOA .long U ∧ va_AO RX2 U ∧ vk_R RX9 19 kTx (adK 0) U ∧ vk_S 2 [115, 11] [kB, kS] adK adV A U U.heap ∧ va_Z "java/lang/String" "COMPACT_STRINGS" "Z" (.int 1) A U U.heap ∧ va_Zq "jdk/internal/util/Preconditions" "SIOOBE_FORMATTER" "Ljava/util/function/BiFunction;" A U U.heap ∧ vk_R RX9 69 kSx (adK 1) U
theorem EV_blind {adK adV : Nat → Nat} : xBlind (EV adK adV) := by
  intro A U g mk a h
  obtain ⟨e1, e2, e3, e4, e5, e6, e7, e8, e9, e10, e11, e12⟩ := h
  have hv : U.vm.Alike (U.calling g mk a).vm := Vm.Alike.refl U.vm
  exact ⟨va_Nw.same rfl (u := U) rfl e1, va_Nw.same rfl (u := U) rfl e2, va_Nw.same rfl (u := U) rfl e3, va_Nw.same rfl (u := U) rfl e4, va_Nw.same rfl (u := U) rfl e5, xAOA.moved hv e6, va_AO.moved hv e7, vk_R.same (u := U) rfl e8, vk_S.moved hv e9, va_Z.moved hv e10, va_Zq.moved hv e11, vk_R.same (u := U) rfl e12⟩
theorem EV_pass {adK adV : Nat → Nat} {A A' : Nat → Prop} {s U : State} {H : Heap} {locs : List Loc} (hE : EV adK adV A s) (hS : va_S A s.heap H locs) (hsub : ∀ q, A' q → A q) (hU : U.heap = H) (hW : s.WarmedH U.vm) : EV adK adV A' U := by
  obtain ⟨e1, e2, e3, e4, e5, e6, e7, e8, e9, e10, e11, e12⟩ := hE
  have hv := hW.alike
  refine ⟨va_Nw.warmM hW e1, va_Nw.warmM hW e2, va_Nw.warmM hW e3, va_Nw.warmM hW e4, va_Nw.warmM hW e5, xAOA.moved hv e6, va_AO.moved hv e7, vk_R.warm hW e8, ?_, ?_, ?_, vk_R.warm hW e12⟩
  · rw [hU]; exact ((e9.kept hS.2.1).narrow hsub).moved hv
  · rw [hU]; exact ((e10.kept hS.2.1).narrow hsub).moved hv
  · rw [hU]; exact ((e11.kept hS.2.1).narrow hsub).moved hv
theorem va_D.many {A : Nat → Prop} {ws L : va_W} {h : Nat} (hD : va_D A ws) (hlt : ∀ (k : Nat) (q : Nat × va_E), ws[k]? = some q → q.1 < h) (hL : ∀ (k : Nat) (q : Nat × va_E), L[k]? = some q → q.1 = h + k) (hA : ∀ q : Nat, h ≤ q → A q) : va_D A (ws ++ L) := by
  have key : ∀ (k : Nat) (q : Nat × va_E), (ws ++ L)[k]? = some q → (ws[k]? = some q ∧ q.1 < h) ∨ (ws.length ≤ k ∧ q.1 = h + (k - ws.length)) := by
    intro k q hk
    by_cases hl : k < ws.length
    · rw [List.getElem?_append_left hl] at hk
      exact Or.inl ⟨hk, hlt k q hk⟩
    · rw [List.getElem?_append_right (by omega)] at hk
      exact Or.inr ⟨by omega, hL _ q hk⟩
  refine ⟨fun i j p q hi hj e => ?_, fun k q hk => ?_⟩
  · rcases key i p hi with ⟨h1, h2⟩ | ⟨h1, h2⟩
    · rcases key j q hj with ⟨h3, h4⟩ | ⟨h3, h4⟩
      · exact hD.1 i j p q h1 h3 e
      · omega
    · rcases key j q hj with ⟨h3, h4⟩ | ⟨h3, h4⟩
      · omega
      · omega
  · rcases key k q hk with ⟨h1, h2⟩ | ⟨h1, h2⟩
    · exact hD.2 k q h1
    · exact hA _ (by omega)
section XMN
variable {p : Program} {l : Launch} {e : Env} {R : Room} {s : State} {m : MethodId} {args : Array Value} {below : List Frame} {meth : Method} {c : Code} {H : Heap} {locs : List Loc} {cells slots : Nat} {Q : State → Prop}
variable {cc : ByteArray} {pc : Nat} {ls : Array Slot} {D : va_G} {A : Nat → Prop} {ws : va_W} {H0 : Heap} {tys : List (ClassId × FieldType)} {rest : List Value}
/-- aaload of an array of rows of longs -/
theorem x_aald (hexec : p.tables.exec = Jvm.exec) (hb : c.code = cc) (hK : va_K D vwCl tys s) (hP : va_P D vwCl ws H) (q0 t0 : Nat) {a : Nat} {cA : ClassId} {n : Nat} {f : Nat → Option Nat} (ha : ws[q0]? = some (a, .inl (cA, n, .inr (.inr (.inr (.inr f)))))) (ht : tys[t0]? = some (cA, .array .long)) {i : Int32} (hin : vp_in i n) {v : Nat} (hv : f i.toNatClampNeg = some v) (hdg : decode cc pc = .ok (.aaload, 1))
    (kk : W p l e R s m args below meth c H locs cells slots Q (F0 m (pc + 1) ls (.ref v :: rest))) : W p l e R s m args below meth c H locs cells slots Q (F0 m pc ls (.int i :: .ref a :: rest)) := by
  have hlt : i.toNatClampNeg < n := Nat.not_le.mp fun q => hin (Or.inr q)
  exact W.aald (v := .ref v) (ty := .array .long) hexec hb (hP q0 _ ha) ((hK.2 t0 _ ht).1 n (fun j => va_rf (f j))) rfl (fun q => by cases q) (by show ¬ (i < 0 ∨ (arrV _ _ _).slots.size ≤ _); rw [arrV_size]; exact hin) (by show (arrV _ _ _).slots[_]? = _; rw [arrV_read _ _ hlt, hv]; rfl) rfl rfl hdg kk
theorem outer4 (cA : ClassId) (h : Nat) : Jvm.Free.Multi.outerC cA 4 h 4 = vp_cell cA (4, .inr (.inr (.inr (.inr (eF (h + 1) (h + 2) (h + 3) (h + 4)))))) := rfl
theorem inner8 (cB : ClassId) : Jvm.Free.Multi.innerC cB 8 (.long 0) = vp_cell cB (8, .inr (.inl (fun _ => 0))) := rfl
/-- new long[4][8] -/
theorem x_mna {own : String} {index : Nat} (hexec : p.tables.exec = Jvm.exec) (hb : c.code = cc) (hown : s.vm.findClass own = some m.cls) (hclink : (Cond.classLink own index ("[" ++ (FieldType.array .long).toString)).before args s = true) (hover : xAOA .long s) (harr : (Cond.arrayClass .long).before args s = true)
    (hK : va_K D vwCl tys s) (t5 t2 : Nat) {c5 c2 : ClassId} (ht5 : tys[t5]? = some (c5, .array .long)) (ht2 : tys[t2]? = some (c2, .long)) (hP : va_P D vwCl ws H) (hD : va_D A ws) (hS : va_S A H0 H locs) (hA : ∀ q, H0.size ≤ q → A q)
    (hcells : cells + 5 ≤ R.cells) (hslots : slots + 36 ≤ R.slots) (hdg : decode cc pc = .ok (.multianewarray index 2, 4))
    (kk : ∀ (q q0 q1 q2 q3 : Nat) (H1 : Heap), va_P D vwCl (ws ++ [(q, .inl (c5, 4, .inr (.inr (.inr (.inr (eF q0 q1 q2 q3)))))), (q0, .inl (c2, 8, .inr (.inl (fun _ => 0)))), (q1, .inl (c2, 8, .inr (.inl (fun _ => 0)))), (q2, .inl (c2, 8, .inr (.inl (fun _ => 0)))), (q3, .inl (c2, 8, .inr (.inl (fun _ => 0))))]) H1 → va_D A (ws ++ [(q, .inl (c5, 4, .inr (.inr (.inr (.inr (eF q0 q1 q2 q3)))))), (q0, .inl (c2, 8, .inr (.inl (fun _ => 0)))), (q1, .inl (c2, 8, .inr (.inl (fun _ => 0)))), (q2, .inl (c2, 8, .inr (.inl (fun _ => 0)))), (q3, .inl (c2, 8, .inr (.inl (fun _ => 0))))]) → va_S A H0 H1 locs → W p l e R s m args below meth c H1 locs (cells + 5) (slots + 36) Q (F0 m (pc + 4) ls (.ref q :: rest))) : W p l e R s m args below meth c H locs cells slots Q (F0 m pc ls (.int 8 :: .int 4 :: rest)) := by
  intro T hT Xs
  obtain ⟨vm₁, cA, comp, -, fA, fC, hO, -, X', step⟩ := Xs.multianewarray2F hexec hown hclink hover harr (g := F0 m pc ls (.int 8 :: .int 4 :: rest)) rfl (by rw [hb]; exact hdg) rfl (by decide) (by decide) (by decide) (by decide) (by decide) rfl rfl hcells hslots
  have eA : c5 = cA := Option.some.inj (((hK.2 t5 _ ht5).2 : s.vm.findClass _ = some c5).symm.trans fA)
  have eB : c2 = comp := Option.some.inj (((hK.2 t2 _ ht2).2 : s.vm.findClass _ = some c2).symm.trans fC)
  subst eA
  subst eB
  have n4 : (4 : Int32).toNatClampNeg = 4 := by decide
  have n8 : (8 : Int32).toNatClampNeg = 8 := by decide
  rw [n4, n8] at X' step
  have hTh : (T.setVm vm₁).heap = H := hT
  obtain ⟨f1, f2, -, -⟩ := Jvm.Free.Multi.fill_facts (T.setVm vm₁) c5 c2 4 8 (defaultValue .long) 4
  have hold : ∀ x : Nat, x < H.size → (Jvm.Free.Multi.fill (T.setVm vm₁) c5 c2 4 8 (defaultValue .long) 4).heap[x]? = H[x]? := fun x hx => by
    have := Jvm.Free.Multi.fill_old (T.setVm vm₁) c5 c2 4 8 (defaultValue .long) (a := x) (by rw [hTh]; exact hx) 4
    rw [hTh] at this
    exact this
  have hinn : ∀ j : Nat, j < 4 → (Jvm.Free.Multi.fill (T.setVm vm₁) c5 c2 4 8 (defaultValue .long) 4).heap[H.size + 1 + j]? = some (vp_cell c2 (8, .inr (.inl (fun _ => 0)))) := fun j hj => by
    have := Jvm.Free.Multi.fill_inner (T.setVm vm₁) c5 c2 4 8 (defaultValue .long) 4 j hj
    rw [hTh] at this
    exact this
  generalize hF : Jvm.Free.Multi.fill (T.setVm vm₁) c5 c2 4 8 (defaultValue .long) 4 = F at X' step f1 f2 hold hinn
  rw [hTh] at f1 f2
  have hP0 : va_P D vwCl ws F.heap := hP.kept (fun k9 x hx => hold x.1 ((hP k9 x hx).lt))
  have hPN : va_P D vwCl [(H.size, .inl (c5, 4, .inr (.inr (.inr (.inr (eF (H.size + 1) (H.size + 2) (H.size + 3) (H.size + 4))))))), (H.size + 1, .inl (c2, 8, .inr (.inl (fun _ => 0)))), (H.size + 2, .inl (c2, 8, .inr (.inl (fun _ => 0)))), (H.size + 3, .inl (c2, 8, .inr (.inl (fun _ => 0)))), (H.size + 4, .inl (c2, 8, .inr (.inl (fun _ => 0))))] F.heap := by
    intro k q hk
    match k, hk with
    | 0, hk => cases hk; exact f2
    | 1, hk => cases hk; exact hinn 0 (by decide)
    | 2, hk => cases hk; exact hinn 1 (by decide)
    | 3, hk => cases hk; exact hinn 2 (by decide)
    | 4, hk => cases hk; exact hinn 3 (by decide)
    | k + 5, hk => simp at hk
  have hDN : va_D A (ws ++ [(H.size, .inl (c5, 4, .inr (.inr (.inr (.inr (eF (H.size + 1) (H.size + 2) (H.size + 3) (H.size + 4))))))), (H.size + 1, .inl (c2, 8, .inr (.inl (fun _ => 0)))), (H.size + 2, .inl (c2, 8, .inr (.inl (fun _ => 0)))), (H.size + 3, .inl (c2, 8, .inr (.inl (fun _ => 0)))), (H.size + 4, .inl (c2, 8, .inr (.inl (fun _ => 0))))]) := by
    refine va_D.many (h := H.size) hD (fun k q hk => (hP k q hk).lt) (fun k q hk => ?_) (fun q hq => hA q (Nat.le_trans hS.1 hq))
    match k, hk with
    | 0, hk => cases hk; rfl
    | 1, hk => cases hk; rfl
    | 2, hk => cases hk; rfl
    | 3, hk => cases hk; rfl
    | 4, hk => cases hk; rfl
    | k + 5, hk => simp at hk
  obtain ⟨t, a1, b1⟩ := kk _ _ _ _ _ F.heap (hP0.app hPN) hDN ⟨by rw [f1]; have := hS.1; omega, fun x h1 h2 => (hold x (Nat.lt_of_lt_of_le h1 hS.1)).trans (hS.2.1 x h1 h2), hS.2.2⟩ F rfl X'
  refine ⟨t, step t ?_, b1⟩
  have e : T.heap.size = H.size := by rw [hT]
  rw [e]
  exact a1
/-- new C[n], an array of objects whose class of arrays is known -/
theorem x_newq {own C : String} {index : Nat} (hexec : p.tables.exec = Jvm.exec) (hb : c.code = cc) (hown : s.vm.findClass own = some m.cls) (hclink : (Cond.classLink own index C).before args s = true) (hover : va_AO C s) (hK : va_K D vwCl tys s) (t4 : Nat) {c4 : ClassId} (ht4 : tys[t4]? = some (c4, .object C)) (hP : va_P D vwCl ws H) (hD : va_D A ws) (hS : va_S A H0 H locs) (hA : ∀ q, H0.size ≤ q → A q)
    {n : Int32} {N' : Nat} (hn : ¬ n < 0) (hN : n.toNatClampNeg = N') (hbytes : N' * 4 ≤ 536870912) (hcells : cells + 1 ≤ R.cells) (hslots : slots + N' ≤ R.slots) (hdg : decode cc pc = .ok (.anewarray index, 3))
    (kk : ∀ (q : Nat) (H1 : Heap), va_P D vwCl (ws ++ [(q, .inl (c4, N', .inr (.inr (.inr (.inr (fun _ => none))))))]) H1 → va_D A (ws ++ [(q, .inl (c4, N', .inr (.inr (.inr (.inr (fun _ => none))))))]) → va_S A H0 H1 locs →
      W p l e R s m args below meth c H1 locs (cells + 1) (slots + N') Q (F0 m (pc + 3) ls (.ref q :: rest))) : W p l e R s m args below meth c H locs cells slots Q (F0 m pc ls (.int n :: rest)) := by
  refine va_newq hexec hb hown hclink hover hK hP hD hS hA hn hN hbytes hcells hslots hdg (fun q cA H1 hK1 hP1 hD1 hS1 => ?_)
  have h1 := (hK.2 t4 _ ht4).2
  have h2 := (hK1.2 tys.length (cA, .object C) (by rw [List.getElem?_append_right (Nat.le_refl _), Nat.sub_self]; rfl)).2
  obtain ⟨kA, comp, -, -, -, g1⟩ := h1
  obtain ⟨kB, comb, -, -, -, g2⟩ := h2
  have e : c4 = cA := Option.some.inj (g1.symm.trans g2)
  subst e
  exact kk q H1 hP1 hD1 hS1
theorem x_lcmp (hexec : p.tables.exec = Jvm.exec) (hb : c.code = cc) {x y : Int64} (hdg : decode cc pc = .ok (.lcmp, 1))
    (k : ∀ v : Int32, (v = 0 ↔ x = y) → W p l e R s m args below meth c H locs cells slots Q (F0 m (pc + 1) ls (.int v :: rest))) : W p l e R s m args below meth c H locs cells slots Q (F0 m pc ls (.long y :: .long x :: rest)) := by
  intro T hT X
  by_cases h0 : x = y
  · subst h0
    obtain ⟨t, a, b⟩ := k 0 ⟨fun _ => rfl, fun _ => rfl⟩ T hT X
    refine ⟨t, ?_, b⟩
    jvm_step X.here [X.here.top, hexec, hb, hdg]
    exact a
  · by_cases h1 : y < x
    · obtain ⟨t, a, b⟩ := k 1 ⟨fun h => absurd h (by decide), fun h => absurd h h0⟩ T hT X
      refine ⟨t, ?_, b⟩
      jvm_step X.here [X.here.top, hexec, hb, hdg, h1]
      exact a
    · obtain ⟨t, a, b⟩ := k (-1) ⟨fun h => absurd h (by decide), fun h => absurd h h0⟩ T hT X
      refine ⟨t, ?_, b⟩
      jvm_step X.here [X.here.top, hexec, hb, hdg, h1, h0]
      exact a
end XMN
theorem xrc {args : Array Value} {s : State} {t : FieldType} (h : (Cond.arrayClass t).before args s = true) (ho : ∀ C, t ≠ .object C) : ∃ c : ClassId, ArrOfT s c t ∧ va_RA s c t := by
  obtain ⟨c, k, comp, h1, h2, h3⟩ := Cond.arrayClass_spec h
  refine ⟨c, fun N z => ⟨(fun q hq => by cases hq), k, h2, comp, h3⟩, ?_⟩
  cases t <;> first | exact h1 | exact absurd rfl (ho _)
theorem upd_zL (k : Nat) : vp_updL (fun _ => (0 : Int64)) k 0 = fun _ => 0 := by
  funext j
  unfold vp_updL
  split <;> rfl
theorem fits_ci {i : Int32} {n : Nat} (h : vp_in i n) (hn : n < 2 ^ 31) : ¬ i < 0 ∧ i < nI n := by
  obtain ⟨j, hj, e⟩ := vp_in_of h hn
  rw [e]
  exact ⟨nI_pos (by omega), nI_lt hj hn⟩
