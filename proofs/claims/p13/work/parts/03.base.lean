/-! the words that stay, of the tables; a method's words are its own code and these -/
def gT : List Cond := lw_tbl.filter goodWord
theorem gm {w : Cond} (i : Nat) (h : lw_tbl[i]? = some w) (hg : goodWord w = true) : w ∈ gT := List.mem_filter.mpr ⟨List.mem_of_getElem? h, hg⟩
theorem gin {ws : List Cond} (ps : List Nat) (h : ws = ps.filterMap (fun i => lw_tbl[i]?)) (hg : ws.all goodWord = true) : ∀ w ∈ ws, w ∈ gT := by
  intro w hw
  have h1 := List.all_eq_true.mp hg w hw
  rw [h] at hw
  obtain ⟨i, -, hi⟩ := List.mem_filterMap.mp hw
  exact gm i hi h1
theorem gGood {c : Cond} {ws : List Cond} (hc : c ∈ gT) (hw : ∀ w ∈ ws, w ∈ gT) (d : Cond) : GoodIn (d :: gT) (ws ++ (c :: gT)) := by
  intro w h
  have hm : w ∈ gT := by
    rcases List.mem_append.mp h with h | h
    · exact hw w h
    · rcases List.mem_cons.mp h with h | h
      · rw [h]; exact hc
      · exact h
  exact ⟨List.mem_cons_of_mem _ hm, good_of_word (List.mem_filter.mp hm).2⟩
theorem gGood2 {c : Cond} {ws : List Cond} (hc : c ∈ gT) (hw : ∀ w ∈ ws, w ∈ gT) : GoodIn gT (ws ++ (c :: gT)) := by
  intro w h
  have hm : w ∈ gT := by
    rcases List.mem_append.mp h with h | h
    · exact hw w h
    · rcases List.mem_cons.mp h with h | h
      · rw [h]; exact hc
      · exact h
  exact ⟨hm, good_of_word (List.mem_filter.mp hm).2⟩
/-- what a contract begins with: the world wc, the array classes tys, and what E says of the rest -/
def xPre (D : va_G) (tys : List (ClassId × FieldType)) (E : (Nat → Prop) → State → Prop) (sz : Nat) (wc : va_W) (U : State) : Prop :=
  U.heap.size = sz ∧ va_P D vwCl wc U.heap ∧ va_K D vwCl tys U ∧ va_D (fun _ => True) wc ∧ E (va_A wc sz) U
def xB (D : va_G) (tys : List (ClassId × FieldType)) (A : Nat → Prop) (w1 : va_W) (t : State) : Prop :=
  va_P D vwCl w1 t.heap ∧ va_K D vwCl tys t ∧ va_D A w1
/-- E doesn't look at frames -/
def xBlind (E : (Nat → Prop) → State → Prop) : Prop := ∀ (A : Nat → Prop) (U : State) (g : JFrame) (mk : MethodId) (a : Array Value), E A U → E A (U.calling g mk a)
def E0 : (Nat → Prop) → State → Prop := fun _ _ => True
theorem E0_blind : xBlind E0 := fun _ _ _ _ _ _ => trivial
/-- contracts: an int (or a truth value), and nothing -/
def XMi (l : Launch) (D : va_G) (tys : List (ClassId × FieldType)) (E : (Nat → Prop) → State → Prop) (y : MethodName) (bytes : ByteArray) (maxL : Nat) (ret : Option FieldType) (rm : Room) (av : List Value) (wc : va_W) {S : Type} (post : Int32 → S → Prop) (w1 : S → va_W) : Prop :=
  ∀ sz : Nat, Met l y (Cond.code y bytes maxL ret :: gT) rm (va_Pc av (xPre D tys E sz wc)) (va_Qi post (fun u t => xB D tys (va_A wc sz) (w1 u) t) (va_A wc sz)) rm.cells rm.slots (va_A wc sz)
def XMv (l : Launch) (D : va_G) (tys : List (ClassId × FieldType)) (E : (Nat → Prop) → State → Prop) (y : MethodName) (bytes : ByteArray) (maxL : Nat) (ret : Option FieldType) (rm : Room) (av : List Value) (wc : va_W) {S : Type} (post : S → Prop) (w1 : S → va_W) : Prop :=
  ∀ sz : Nat, Met l y (Cond.code y bytes maxL ret :: gT) rm (va_Pc av (xPre D tys E sz wc)) (va_Qv post (fun u t => xB D tys (va_A wc sz) (w1 u) t) (va_A wc sz)) rm.cells rm.slots (va_A wc sz)
/-- what holds at a method's first instruction -/
def xAt (D : va_G) (tys : List (ClassId × FieldType)) (E : (Nat → Prop) → State → Prop) (y : MethodName) (bytes : ByteArray) (maxL : Nat) (ret : Option FieldType) (av : List Value) (wc : va_W) (p : Program) (s : State) (m : MethodId) (meth : Method) (c : Code) (args : Array Value) (A : Nat → Prop) (ls : Array Slot) : Prop :=
  p.tables.exec = Jvm.exec ∧ c.code = bytes ∧ meth.sig.returnType = ret ∧ c.maxLocals = maxL ∧ s.vm.findClass y.cls = some m.cls ∧ (∀ w ∈ gT, w.before args s = true) ∧ meth.locks = false ∧ meth.name = y.name ∧ va_K D vwCl tys s ∧ (∀ q, s.heap.size ≤ q → A q) ∧ va_P D vwCl wc s.heap ∧ va_D A wc ∧ va_S A s.heap s.heap [] ∧ E A s ∧ lv_has ls maxL (lv_args 0 av)
theorem XMi.start {l : Launch} {D : va_G} {tys : List (ClassId × FieldType)} {E : (Nat → Prop) → State → Prop} {y : MethodName} {bytes : ByteArray} {maxL : Nat} {ret : Option FieldType} {rm : Room} {av : List Value} {wc : va_W} {S : Type} {post : Int32 → S → Prop} {w1 : S → va_W}
    (hpl : plainName y.cls = true) (hlen : (lg_sl av).length ≤ maxL)
    (body : ∀ p e s m below meth c args A ls Q, xAt D tys E y bytes maxL ret av wc p s m meth c args A ls → Q = MQ below (va_Qi post (fun u t => xB D tys A (w1 u) t) A) args s rm.cells rm.slots A →
      W p l e rm s m args below meth c s.heap [] 0 0 Q (F0 m 0 ls [])) : XMi l D tys E y bytes maxL ret rm av wc post w1 := by
  intro sz
  refine Met.ofW (cc := bytes) (maxL := maxL) (ret := ret) hpl rfl ?_
  intro p e s m args below meth c s₁ B hml hv
  obtain ⟨rfl, hsz, hP, hK, hD0, hE⟩ := hv
  have hts := atoms_spec (ws := Cond.code y bytes maxL ret :: gT) B.pre
  subst hsz
  have hD := hD0.self (sz := s.heap.size)
  generalize hAe : va_A wc s.heap.size = A at hD hE ⊢
  have hA : ∀ q : Nat, s.heap.size ≤ q → A q := fun q h => by rw [← hAe]; exact Or.inr h
  have hl := lv_entry av (n := maxL) hlen
  rw [lg_entry_eq]
  generalize (lg_sl av ++ List.replicate (maxL - (lg_sl av).length) Slot.unset).toArray = ls at hl ⊢
  exact body p e s m below meth c av.toArray A ls _ ⟨B.exec, B.bytes, B.returns, hml, findClass_of_methodNamed B.named, fun w h => hts w (List.mem_cons_of_mem _ h), B.notSynchronized, (name_of_methodNamed B.named B.method).1, hK, hA, hP, hD, va_S.rf, hE, hl⟩ rfl
theorem XMv.start {l : Launch} {D : va_G} {tys : List (ClassId × FieldType)} {E : (Nat → Prop) → State → Prop} {y : MethodName} {bytes : ByteArray} {maxL : Nat} {ret : Option FieldType} {rm : Room} {av : List Value} {wc : va_W} {S : Type} {post : S → Prop} {w1 : S → va_W}
    (hpl : plainName y.cls = true) (hlen : (lg_sl av).length ≤ maxL)
    (body : ∀ p e s m below meth c args A ls Q, xAt D tys E y bytes maxL ret av wc p s m meth c args A ls → Q = MQ below (va_Qv post (fun u t => xB D tys A (w1 u) t) A) args s rm.cells rm.slots A →
      W p l e rm s m args below meth c s.heap [] 0 0 Q (F0 m 0 ls [])) : XMv l D tys E y bytes maxL ret rm av wc post w1 := by
  intro sz
  refine Met.ofW (cc := bytes) (maxL := maxL) (ret := ret) hpl rfl ?_
  intro p e s m args below meth c s₁ B hml hv
  obtain ⟨rfl, hsz, hP, hK, hD0, hE⟩ := hv
  have hts := atoms_spec (ws := Cond.code y bytes maxL ret :: gT) B.pre
  subst hsz
  have hD := hD0.self (sz := s.heap.size)
  generalize hAe : va_A wc s.heap.size = A at hD hE ⊢
  have hA : ∀ q : Nat, s.heap.size ≤ q → A q := fun q h => by rw [← hAe]; exact Or.inr h
  have hl := lv_entry av (n := maxL) hlen
  rw [lg_entry_eq]
  generalize (lg_sl av ++ List.replicate (maxL - (lg_sl av).length) Slot.unset).toArray = ls at hl ⊢
  exact body p e s m below meth c av.toArray A ls _ ⟨B.exec, B.bytes, B.returns, hml, findClass_of_methodNamed B.named, fun w h => hts w (List.mem_cons_of_mem _ h), B.notSynchronized, (name_of_methodNamed B.named B.method).1, hK, hA, hP, hD, va_S.rf, hE, hl⟩ rfl
section XR
variable {p : Program} {l : Launch} {e : Env} {R : Room} {s : State} {m : MethodId} {args : Array Value} {below : List Frame} {meth : Method} {c : Code} {H : Heap} {locs : List Loc} {cells slots : Nat} {Q : State → Prop}
variable {cc : ByteArray} {pc : Nat} {ls : Array Slot} {D : va_G} {A : Nat → Prop} {tys : List (ClassId × FieldType)} {ws : va_W} {mc ms : Nat}
/-- the ends -/
theorem x_iret {S : Type} {post : Int32 → S → Prop} {w1 : S → va_W} {v : Int32} (hQ : Q = MQ below (va_Qi post (fun u t => xB D tys A (w1 u) t) A) args s mc ms A) (hx : p.tables.exec = Jvm.exec) (hb : c.code = cc) (hr : meth.sig.returnType = some .int) (hlocks : meth.locks = false) (hK : va_K D vwCl tys s) (hP : va_P D vwCl ws H) (hD : va_D A ws) (hS : va_S A s.heap H locs)
    (hdg : decode cc pc = .ok (.ireturn, 1)) (u : S) (hpost : post v u) (is : List Nat) (hn : va_nd is = true) (hw : is.map (fun i => ws[i]?) = (w1 u).map some) (hc : cells ≤ mc) (hs : slots ≤ ms) :
    W p l e R s m args below meth c H locs cells slots Q (F0 m pc ls [.int v]) := by
  subst hQ
  refine W.widen hc hs ?_
  have hP1 : va_P D vwCl (w1 u) H := hP.sub is (by
    have := congrArg (fun l => l.filterMap id) hw
    simpa [List.filterMap_map] using this)
  have hD1 : va_D A (w1 u) := hD.sub is hn hw
  exact W.iret (v := v) hx hb hr (fun t ht hW => ⟨⟨v, u, rfl, hpost, by rw [ht]; exact hP1, va_K.moved hW.alike hK, hD1⟩, hS.F ht⟩) hS.2.2 hdg hlocks
theorem x_zret {S : Type} {post : Int32 → S → Prop} {w1 : S → va_W} {v : Int32} {ty : FieldType} (hQ : Q = MQ below (va_Qi post (fun u t => xB D tys A (w1 u) t) A) args s mc ms A) (hx : p.tables.exec = Jvm.exec) (hb : c.code = cc) (hr : meth.sig.returnType = some ty) (hlocks : meth.locks = false) (hK : va_K D vwCl tys s) (hP : va_P D vwCl ws H) (hD : va_D A ws) (hS : va_S A s.heap H locs)
    (hnr : narrow ty (.int v) = .int v) (hdg : decode cc pc = .ok (.ireturn, 1)) (u : S) (hpost : post v u) (is : List Nat) (hn : va_nd is = true) (hw : is.map (fun i => ws[i]?) = (w1 u).map some) (hc : cells ≤ mc) (hs : slots ≤ ms) :
    W p l e R s m args below meth c H locs cells slots Q (F0 m pc ls [.int v]) := by
  subst hQ
  refine W.widen hc hs ?_
  have hP1 : va_P D vwCl (w1 u) H := hP.sub is (by
    have := congrArg (fun l => l.filterMap id) hw
    simpa [List.filterMap_map] using this)
  have hD1 : va_D A (w1 u) := hD.sub is hn hw
  exact W.zret (v := v) hx hb hr hnr (fun t ht hW => ⟨⟨v, u, rfl, hpost, by rw [ht]; exact hP1, va_K.moved hW.alike hK, hD1⟩, hS.F ht⟩) hS.2.2 hdg hlocks
theorem x_vret {S : Type} {post : S → Prop} {w1 : S → va_W} (hQ : Q = MQ below (va_Qv post (fun u t => xB D tys A (w1 u) t) A) args s mc ms A) (hx : p.tables.exec = Jvm.exec) (hb : c.code = cc) (hr : meth.sig.returnType = none) (hlocks : meth.locks = false) (hK : va_K D vwCl tys s) (hP : va_P D vwCl ws H) (hD : va_D A ws) (hS : va_S A s.heap H locs)
    (hdg : decode cc pc = .ok (.return_, 1)) (u : S) (hpost : post u) (is : List Nat) (hn : va_nd is = true) (hw : is.map (fun i => ws[i]?) = (w1 u).map some) (hc : cells ≤ mc) (hs : slots ≤ ms) :
    W p l e R s m args below meth c H locs cells slots Q (F0 m pc ls []) := by
  subst hQ
  refine W.widen hc hs ?_
  have hP1 : va_P D vwCl (w1 u) H := hP.sub is (by
    have := congrArg (fun l => l.filterMap id) hw
    simpa [List.filterMap_map] using this)
  have hD1 : va_D A (w1 u) := hD.sub is hn hw
  exact W.vret hx hb hr (fun t ht hW => ⟨⟨u, rfl, hpost, by rw [ht]; exact hP1, va_K.moved hW.alike hK, hD1⟩, hS.F ht⟩) hS.2.2 hdg hlocks
end XR
/-- what a call needs of the tables -/
def xV (own C : String) (index : Nat) (y : MethodName) (bytes : ByteArray) (maxL : Nat) (ret : Option FieldType) (n : Nat) : Prop :=
  (Cond.methodLink own index y ∈ gT ∧ Cond.instanceMethod y ∈ gT ∧ Cond.selects C y y ∈ gT ∧ Cond.initialized C ∈ gT ∧ Cond.code y bytes maxL ret ∈ gT) ∧ y.cls = C ∧ y.cls ≠ "java/lang/invoke/MethodHandle" ∧ y.cls ≠ "java/lang/invoke/VarHandle" ∧ (parseMethodDescriptor y.desc).map (fun d => d.parameters.length) = some n
def xS (own : String) (index : Nat) (y : MethodName) (bytes : ByteArray) (maxL : Nat) (ret : Option FieldType) (n : Nat) : Prop :=
  (Cond.methodLink own index y ∈ gT ∧ Cond.static y ∈ gT ∧ Cond.initialized y.cls ∈ gT ∧ Cond.code y bytes maxL ret ∈ gT) ∧ y.cls ≠ "java/lang/invoke/MethodHandle" ∧ y.cls ≠ "java/lang/invoke/VarHandle" ∧ (parseMethodDescriptor y.desc).map (fun d => d.parameters.length) = some n
def xI (own : String) (index : Nat) (y : MethodName) (bytes : ByteArray) (maxL : Nat) (n : Nat) : Prop :=
  (Cond.methodLink own index y ∈ gT ∧ Cond.instanceMethod y ∈ gT ∧ Cond.initialized y.cls ∈ gT ∧ Cond.code y bytes maxL none ∈ gT) ∧ y.name = "<init>" ∧ y.cls ≠ "java/lang/invoke/MethodHandle" ∧ y.cls ≠ "java/lang/invoke/VarHandle" ∧ (parseMethodDescriptor y.desc).map (fun d => d.parameters.length) = some n
def xN (y : MethodName) (bytes : ByteArray) (maxL : Nat) (n : Nat) : Prop :=
  (Cond.instanceMethod y ∈ gT ∧ Cond.initialized y.cls ∈ gT ∧ Cond.code y bytes maxL none ∈ gT) ∧ y.name = "<init>" ∧ y.cls ≠ "java/lang/invoke/MethodHandle" ∧ y.cls ≠ "java/lang/invoke/VarHandle" ∧ (parseMethodDescriptor y.desc).map (fun d => d.parameters.length) = some n
theorem all4 {a b c d : Cond} (ha : a ∈ gT) (hb : b ∈ gT) (hc : c ∈ gT) (hd : d ∈ gT) : ∀ w ∈ [a, b, c, d], w ∈ gT := by
  intro w h
  simp only [List.mem_cons, List.not_mem_nil, or_false] at h
  rcases h with rfl | rfl | rfl | rfl <;> assumption
theorem all3 {a b c : Cond} (ha : a ∈ gT) (hb : b ∈ gT) (hc : c ∈ gT) : ∀ w ∈ [a, b, c], w ∈ gT := by
  intro w h
  simp only [List.mem_cons, List.not_mem_nil, or_false] at h
  rcases h with rfl | rfl | rfl <;> assumption
theorem xPre_blind {D : va_G} {tys : List (ClassId × FieldType)} {E : (Nat → Prop) → State → Prop} (hE : xBlind E) {sz : Nat} {wc : va_W} {av : List Value} : FrameBlind (va_Pc av (xPre D tys E sz wc)) := by
  intro a U g mk q
  obtain ⟨q0, q1, qP, qK, qD, qE⟩ := q
  exact ⟨q0, q1, qP, va_K.moved (u := U) (U := U.calling g mk a) (Vm.Alike.refl U.vm) qK, qD, hE _ U g mk a qE⟩
section XC
variable {p : Program} {l : Launch} {e : Env} {R : Room} {s : State} {m : MethodId} {args : Array Value} {below : List Frame} {meth : Method} {c : Code} {H : Heap} {locs : List Loc} {cells slots : Nat} {Q : State → Prop}
variable {cc : ByteArray} {pc : Nat} {ls : Array Slot} {D : va_G} {A : Nat → Prop} {tys : List (ClassId × FieldType)} {ws wc wr : va_W} {H0 : Heap} {E : (Nat → Prop) → State → Prop}
variable {own C : String} {index maxL n nL : Nat} {y : MethodName} {bytes : ByteArray} {ret : Option FieldType} {rm : Room} {av rest st : List Value} {b : Nat} {S : Type} {w1 : S → va_W}
/-- what a call needs of the caller's world: the callee's cells at the places isC, the rest at isR -/
def xCut (ws wc wr : va_W) (isC isR : List Nat) : Prop := isC.map (fun i => ws[i]?) = wc.map some ∧ isR.map (fun i => ws[i]?) = wr.map some ∧ va_nd isC = true ∧ va_nd isR = true ∧ ∀ i ∈ isR, i ∉ isC
theorem xCut_P {isC isR : List Nat} (h : xCut ws wc wr isC isR) (hP : va_P D vwCl ws H) : va_P D vwCl wc H := hP.sub isC (by
  have := congrArg (fun l => l.filterMap id) h.1
  simpa [List.filterMap_map] using this)
theorem x_join {isC isR : List Nat} {H1 : Heap} {w : va_W} {t : State} (h : xCut ws wc wr isC isR) (hP : va_P D vwCl ws H) (hD : va_D A ws) (hS : va_S A H0 H locs) (hA : ∀ q, H0.size ≤ q → A q) (ht : t.heap = H1) (hB : xB D tys (va_A wc H.size) w t) (hk : ∀ q : Nat, q < H.size → ¬ va_A wc H.size q → H1[q]? = H[q]?) : va_P D vwCl (wr ++ w) H1 ∧ va_D A (wr ++ w) := by
  have hF := va_free (wc := wc) hD hS hA isC h.1
  exact va_join hP hD isC isR h.1 h.2.1 h.2.2.2.1 h.2.2.2.2 hk hF (by rw [← ht]; exact hB.1) hB.2.2
/-- the facts of a frame that calls -/
def xFix (p : Program) (s : State) (m : MethodId) (c : Code) (args : Array Value) (cc : ByteArray) (nL : Nat) (own : String) (ls : Array Slot) : Prop := p.tables.exec = Jvm.exec ∧ c.code = cc ∧ c.maxLocals = nL ∧ s.vm.findClass own = some m.cls ∧ (∀ w ∈ gT, w.before args s = true) ∧ ls.size = nL
theorem x_callVi {post : Int32 → S → Prop} {ci q0 : Nat} {fs : List Value} {q : vw_C} (S0 : xFix p s m c args cc nL own ls) (kx : xV own q.1 index y bytes maxL ret n)
    (hM : XMi l D tys E y bytes maxL ret rm (.ref b :: av) wc post w1) (hbl : xBlind E)
    (hK : va_K D vwCl tys s) (hP : va_P D vwCl ws H) (hD : va_D A ws) (hS : va_S A H0 H locs) (hA : ∀ q, H0.size ≤ q → A q) (isC isR : List Nat) (hcut : xCut ws wc wr isC isR) (hc : vwCl[ci]? = some q) (hq : wc[q0]? = some (b, .inr (ci, fs)))
    (hE : ∀ U : State, U.heap = H → s.WarmedH U.vm → E (va_A wc H.size) U) (hdg : decode cc pc = .ok (.invokevirtual index, 3)) (hst : st = av.reverse ++ .ref b :: rest) (hn : av.length = n) (hroom : (rest.map fun v => v.category).sum ≤ 8)
    (hR : rm.frames + 1 ≤ R.frames ∧ 8 + (maxL + 11) + rm.locals ≤ R.locals) (hf : cells + rm.cells ≤ R.cells ∧ slots + rm.slots ≤ R.slots)
    (kk : ∀ (r : Int32) (u : S) (H1 : Heap) (locs1 : List Loc), post r u → va_P D vwCl (wr ++ w1 u) H1 → va_D A (wr ++ w1 u) → va_S A H0 H1 locs1 → W p l e R s m args below meth c H1 locs1 (cells + rm.cells) (slots + rm.slots) Q (F0 m (pc + 3) ls (.int r :: rest))) :
    W p l e R s m args below meth c H locs cells slots Q (F0 m pc ls st) := by
  obtain ⟨hx, hb, hml, hown, hg, hls⟩ := S0
  obtain ⟨⟨m1, m2, m3, m4, m5⟩, hd⟩ := kx
  have hF := va_free (wc := wc) hD hS hA isC hcut.1
  have hPc := xCut_P hcut hP
  have hDc := hD.sub isC hcut.2.2.1 hcut.1
  exact va_calli (va_runV (As := av) (rest := rest) (Ts := gT) ⟨hx, hb, hml, hown, hg⟩ (hM H.size) (cwV n hg (gGood2 m5 (all4 m1 m2 m3 m4)) rfl rfl rfl hd hR) ⟨xPre_blind hbl, va_recv hK hPc hc hq, fun U hU hW => ⟨rfl, by rw [hU], by rw [hU]; exact hPc, va_K.moved hW.alike hK, hDc.weaken (fun _ _ _ _ => trivial), hE U hU hW⟩⟩ rfl hn hls hst (lv_room hroom) hdg hf) hS (fun q _ h => hF q h) hF (fun r u t H1 locs1 ht hvm hw hB hz1 hk1 hS1 => by
    obtain ⟨hP1, hD1⟩ := x_join hcut hP hD hS hA ht hB hk1
    exact kk r u H1 locs1 hw hP1 hD1 hS1)
theorem x_callVv {post : S → Prop} {ci q0 : Nat} {fs : List Value} {q : vw_C} (S0 : xFix p s m c args cc nL own ls) (kx : xV own q.1 index y bytes maxL ret n)
    (hM : XMv l D tys E y bytes maxL ret rm (.ref b :: av) wc post w1) (hbl : xBlind E)
    (hK : va_K D vwCl tys s) (hP : va_P D vwCl ws H) (hD : va_D A ws) (hS : va_S A H0 H locs) (hA : ∀ q, H0.size ≤ q → A q) (isC isR : List Nat) (hcut : xCut ws wc wr isC isR) (hc : vwCl[ci]? = some q) (hq : wc[q0]? = some (b, .inr (ci, fs)))
    (hE : ∀ U : State, U.heap = H → s.WarmedH U.vm → E (va_A wc H.size) U) (hdg : decode cc pc = .ok (.invokevirtual index, 3)) (hst : st = av.reverse ++ .ref b :: rest) (hn : av.length = n) (hroom : (rest.map fun v => v.category).sum ≤ 8)
    (hR : rm.frames + 1 ≤ R.frames ∧ 8 + (maxL + 11) + rm.locals ≤ R.locals) (hf : cells + rm.cells ≤ R.cells ∧ slots + rm.slots ≤ R.slots)
    (kk : ∀ (u : S) (H1 : Heap) (locs1 : List Loc), post u → va_P D vwCl (wr ++ w1 u) H1 → va_D A (wr ++ w1 u) → va_S A H0 H1 locs1 → W p l e R s m args below meth c H1 locs1 (cells + rm.cells) (slots + rm.slots) Q (F0 m (pc + 3) ls rest)) :
    W p l e R s m args below meth c H locs cells slots Q (F0 m pc ls st) := by
  obtain ⟨hx, hb, hml, hown, hg, hls⟩ := S0
  obtain ⟨⟨m1, m2, m3, m4, m5⟩, hd⟩ := kx
  have hF := va_free (wc := wc) hD hS hA isC hcut.1
  have hPc := xCut_P hcut hP
  have hDc := hD.sub isC hcut.2.2.1 hcut.1
  exact va_callv (va_runV (As := av) (rest := rest) (Ts := gT) ⟨hx, hb, hml, hown, hg⟩ (hM H.size) (cwV n hg (gGood2 m5 (all4 m1 m2 m3 m4)) rfl rfl rfl hd hR) ⟨xPre_blind hbl, va_recv hK hPc hc hq, fun U hU hW => ⟨rfl, by rw [hU], by rw [hU]; exact hPc, va_K.moved hW.alike hK, hDc.weaken (fun _ _ _ _ => trivial), hE U hU hW⟩⟩ rfl hn hls hst (lv_room hroom) hdg hf) hS (fun q _ h => hF q h) hF (fun u t H1 locs1 ht hvm hw hB hz1 hk1 hS1 => by
    obtain ⟨hP1, hD1⟩ := x_join hcut hP hD hS hA ht hB hk1
    exact kk u H1 locs1 hw hP1 hD1 hS1)
/-- a virtual call whose receiver isn't in the world (a text) -/
theorem x_callOi {post : Int32 → S → Prop} (S0 : xFix p s m c args cc nL own ls) (kx : xV own C index y bytes maxL ret n)
    (hM : XMi l D tys E y bytes maxL ret rm (.ref b :: av) [] post w1) (hbl : xBlind E)
    (hK : va_K D vwCl tys s) (hP : va_P D vwCl ws H) (hD : va_D A ws) (hS : va_S A H0 H locs) (hA : ∀ q, H0.size ≤ q → A q) (isR : List Nat) (hcut : xCut ws [] wr [] isR) (hrc : ∃ cell : Cell, H[b]? = some cell ∧ cell.vm.isStatics = false ∧ s.vm.findClass C = some cell.cls)
    (hE : ∀ U : State, U.heap = H → s.WarmedH U.vm → E (va_A [] H.size) U) (hdg : decode cc pc = .ok (.invokevirtual index, 3)) (hst : st = av.reverse ++ .ref b :: rest) (hn : av.length = n) (hroom : (rest.map fun v => v.category).sum ≤ 8)
    (hR : rm.frames + 1 ≤ R.frames ∧ 8 + (maxL + 11) + rm.locals ≤ R.locals) (hf : cells + rm.cells ≤ R.cells ∧ slots + rm.slots ≤ R.slots)
    (kk : ∀ (r : Int32) (u : S) (H1 : Heap) (locs1 : List Loc), post r u → va_P D vwCl (wr ++ w1 u) H1 → va_D A (wr ++ w1 u) → va_S A H0 H1 locs1 → W p l e R s m args below meth c H1 locs1 (cells + rm.cells) (slots + rm.slots) Q (F0 m (pc + 3) ls (.int r :: rest))) :
    W p l e R s m args below meth c H locs cells slots Q (F0 m pc ls st) := by
  obtain ⟨hx, hb, hml, hown, hg, hls⟩ := S0
  obtain ⟨⟨m1, m2, m3, m4, m5⟩, hd⟩ := kx
  have hF := va_free (wc := []) hD hS hA [] hcut.1
  have hPc := xCut_P hcut hP
  have hDc := hD.sub [] hcut.2.2.1 hcut.1
  exact va_calli (va_runV (As := av) (rest := rest) (Ts := gT) ⟨hx, hb, hml, hown, hg⟩ (hM H.size) (cwV n hg (gGood2 m5 (all4 m1 m2 m3 m4)) rfl rfl rfl hd hR) ⟨xPre_blind hbl, hrc, fun U hU hW => ⟨rfl, by rw [hU], by rw [hU]; exact hPc, va_K.moved hW.alike hK, hDc.weaken (fun _ _ _ _ => trivial), hE U hU hW⟩⟩ rfl hn hls hst (lv_room hroom) hdg hf) hS (fun q _ h => hF q h) hF (fun r u t H1 locs1 ht hvm hw hB hz1 hk1 hS1 => by
    obtain ⟨hP1, hD1⟩ := x_join hcut hP hD hS hA ht hB hk1
    exact kk r u H1 locs1 hw hP1 hD1 hS1)
theorem x_callSi {post : Int32 → S → Prop} (S0 : xFix p s m c args cc nL own ls) (kx : xS own index y bytes maxL ret n)
    (hM : XMi l D tys E y bytes maxL ret rm av wc post w1) (hbl : xBlind E)
    (hK : va_K D vwCl tys s) (hP : va_P D vwCl ws H) (hD : va_D A ws) (hS : va_S A H0 H locs) (hA : ∀ q, H0.size ≤ q → A q) (isC isR : List Nat) (hcut : xCut ws wc wr isC isR)
    (hE : ∀ U : State, U.heap = H → s.WarmedH U.vm → E (va_A wc H.size) U) (hdg : decode cc pc = .ok (.invokestatic index, 3)) (hst : st = av.reverse ++ rest) (hn : av.length = n) (hroom : (rest.map fun v => v.category).sum ≤ 8)
    (hR : rm.frames + 1 ≤ R.frames ∧ 8 + (maxL + 11) + rm.locals ≤ R.locals) (hf : cells + rm.cells ≤ R.cells ∧ slots + rm.slots ≤ R.slots)
    (kk : ∀ (r : Int32) (u : S) (H1 : Heap) (locs1 : List Loc), post r u → va_P D vwCl (wr ++ w1 u) H1 → va_D A (wr ++ w1 u) → va_S A H0 H1 locs1 → W p l e R s m args below meth c H1 locs1 (cells + rm.cells) (slots + rm.slots) Q (F0 m (pc + 3) ls (.int r :: rest))) :
    W p l e R s m args below meth c H locs cells slots Q (F0 m pc ls st) := by
  obtain ⟨hx, hb, hml, hown, hg, hls⟩ := S0
  obtain ⟨⟨m1, m2, m3, m5⟩, hd⟩ := kx
  have hF := va_free (wc := wc) hD hS hA isC hcut.1
  have hPc := xCut_P hcut hP
  have hDc := hD.sub isC hcut.2.2.1 hcut.1
  exact va_calli (va_runS (As := av) (rest := rest) (Ts := gT) ⟨hx, hb, hml, hown, hg⟩ (hM H.size) (va_cwS n hg (gGood2 m5 (all3 m1 m2 m3)) rfl rfl rfl hd hR) ⟨xPre_blind hbl, fun U hU hW => ⟨rfl, by rw [hU], by rw [hU]; exact hPc, va_K.moved hW.alike hK, hDc.weaken (fun _ _ _ _ => trivial), hE U hU hW⟩⟩ rfl hn hls hst (lv_room hroom) hdg hf) hS (fun q _ h => hF q h) hF (fun r u t H1 locs1 ht hvm hw hB hz1 hk1 hS1 => by
    obtain ⟨hP1, hD1⟩ := x_join hcut hP hD hS hA ht hB hk1
    exact kk r u H1 locs1 hw hP1 hD1 hS1)
theorem x_callSv {post : S → Prop} (S0 : xFix p s m c args cc nL own ls) (kx : xS own index y bytes maxL ret n)
    (hM : XMv l D tys E y bytes maxL ret rm av wc post w1) (hbl : xBlind E)
    (hK : va_K D vwCl tys s) (hP : va_P D vwCl ws H) (hD : va_D A ws) (hS : va_S A H0 H locs) (hA : ∀ q, H0.size ≤ q → A q) (isC isR : List Nat) (hcut : xCut ws wc wr isC isR)
    (hE : ∀ U : State, U.heap = H → s.WarmedH U.vm → E (va_A wc H.size) U) (hdg : decode cc pc = .ok (.invokestatic index, 3)) (hst : st = av.reverse ++ rest) (hn : av.length = n) (hroom : (rest.map fun v => v.category).sum ≤ 8)
    (hR : rm.frames + 1 ≤ R.frames ∧ 8 + (maxL + 11) + rm.locals ≤ R.locals) (hf : cells + rm.cells ≤ R.cells ∧ slots + rm.slots ≤ R.slots)
    (kk : ∀ (u : S) (H1 : Heap) (locs1 : List Loc), post u → va_P D vwCl (wr ++ w1 u) H1 → va_D A (wr ++ w1 u) → va_S A H0 H1 locs1 → W p l e R s m args below meth c H1 locs1 (cells + rm.cells) (slots + rm.slots) Q (F0 m (pc + 3) ls rest)) :
    W p l e R s m args below meth c H locs cells slots Q (F0 m pc ls st) := by
  obtain ⟨hx, hb, hml, hown, hg, hls⟩ := S0
  obtain ⟨⟨m1, m2, m3, m5⟩, hd⟩ := kx
  have hF := va_free (wc := wc) hD hS hA isC hcut.1
  have hPc := xCut_P hcut hP
  have hDc := hD.sub isC hcut.2.2.1 hcut.1
  exact va_callv (va_runS (As := av) (rest := rest) (Ts := gT) ⟨hx, hb, hml, hown, hg⟩ (hM H.size) (va_cwS n hg (gGood2 m5 (all3 m1 m2 m3)) rfl rfl rfl hd hR) ⟨xPre_blind hbl, fun U hU hW => ⟨rfl, by rw [hU], by rw [hU]; exact hPc, va_K.moved hW.alike hK, hDc.weaken (fun _ _ _ _ => trivial), hE U hU hW⟩⟩ rfl hn hls hst (lv_room hroom) hdg hf) hS (fun q _ h => hF q h) hF (fun u t H1 locs1 ht hvm hw hB hz1 hk1 hS1 => by
    obtain ⟨hP1, hD1⟩ := x_join hcut hP hD hS hA ht hB hk1
    exact kk u H1 locs1 hw hP1 hD1 hS1)
theorem x_callI {post : S → Prop} (S0 : xFix p s m c args cc nL own ls) (kx : xI own index y bytes maxL n)
    (hM : XMv l D tys E y bytes maxL none rm (.ref b :: av) wc post w1) (hbl : xBlind E)
    (hK : va_K D vwCl tys s) (hP : va_P D vwCl ws H) (hD : va_D A ws) (hS : va_S A H0 H locs) (hA : ∀ q, H0.size ≤ q → A q) (isC isR : List Nat) (hcut : xCut ws wc wr isC isR)
    (hE : ∀ U : State, U.heap = H → s.WarmedH U.vm → E (va_A wc H.size) U) (hdg : decode cc pc = .ok (.invokespecial index, 3)) (hst : st = av.reverse ++ .ref b :: rest) (hn : av.length = n) (hroom : (rest.map fun v => v.category).sum ≤ 8)
    (hR : rm.frames + 1 ≤ R.frames ∧ 8 + (maxL + 11) + rm.locals ≤ R.locals) (hf : cells + rm.cells ≤ R.cells ∧ slots + rm.slots ≤ R.slots)
    (kk : ∀ (u : S) (H1 : Heap) (locs1 : List Loc), post u → va_P D vwCl (wr ++ w1 u) H1 → va_D A (wr ++ w1 u) → va_S A H0 H1 locs1 → W p l e R s m args below meth c H1 locs1 (cells + rm.cells) (slots + rm.slots) Q (F0 m (pc + 3) ls rest)) :
    W p l e R s m args below meth c H locs cells slots Q (F0 m pc ls st) := by
  obtain ⟨hx, hb, hml, hown, hg, hls⟩ := S0
  obtain ⟨⟨m1, m2, m3, m5⟩, hnm, hd⟩ := kx
  have hF := va_free (wc := wc) hD hS hA isC hcut.1
  have hPc := xCut_P hcut hP
  have hDc := hD.sub isC hcut.2.2.1 hcut.1
  exact va_callv (va_runI (As := av) (rest := rest) (Ts := gT) ⟨hx, hb, hml, hown, hg⟩ (hM H.size) (cwI n hg (gGood2 (ws := []) m5 (fun _ h => by cases h)) rfl rfl rfl (hg _ m3) (hg _ m1) (hg _ m2) hnm hd hR) ⟨xPre_blind hbl, fun U hU hW => ⟨rfl, by rw [hU], by rw [hU]; exact hPc, va_K.moved hW.alike hK, hDc.weaken (fun _ _ _ _ => trivial), hE U hU hW⟩⟩ rfl hn hls hst (lv_room hroom) hdg hf) hS (fun q _ h => hF q h) hF (fun u t H1 locs1 ht hvm hw hB hz1 hk1 hS1 => by
    obtain ⟨hP1, hD1⟩ := x_join hcut hP hD hS hA ht hB hk1
    exact kk u H1 locs1 hw hP1 hD1 hS1)
theorem x_callN {host : String} {post : S → Prop} (S0 : xFix p s m c args cc nL own ls) (hnw : va_Nw (.methodLinkNest own index y host) s) (kx : xN y bytes maxL n)
    (hM : XMv l D tys E y bytes maxL none rm (.ref b :: av) wc post w1) (hbl : xBlind E)
    (hK : va_K D vwCl tys s) (hP : va_P D vwCl ws H) (hD : va_D A ws) (hS : va_S A H0 H locs) (hA : ∀ q, H0.size ≤ q → A q) (isC isR : List Nat) (hcut : xCut ws wc wr isC isR)
    (hE : ∀ U : State, U.heap = H → s.WarmedH U.vm → E (va_A wc H.size) U) (hdg : decode cc pc = .ok (.invokespecial index, 3)) (hst : st = av.reverse ++ .ref b :: rest) (hn : av.length = n) (hroom : (rest.map fun v => v.category).sum ≤ 8)
    (hR : rm.frames + 1 ≤ R.frames ∧ 8 + (maxL + 11) + rm.locals ≤ R.locals) (hf : cells + rm.cells ≤ R.cells ∧ slots + rm.slots ≤ R.slots)
    (kk : ∀ (u : S) (H1 : Heap) (locs1 : List Loc), post u → va_P D vwCl (wr ++ w1 u) H1 → va_D A (wr ++ w1 u) → va_S A H0 H1 locs1 → W p l e R s m args below meth c H1 locs1 (cells + rm.cells) (slots + rm.slots) Q (F0 m (pc + 3) ls rest)) :
    W p l e R s m args below meth c H locs cells slots Q (F0 m pc ls st) := by
  obtain ⟨hx, hb, hml, hown, hg, hls⟩ := S0
  obtain ⟨⟨m2, m3, m5⟩, hnm, hd⟩ := kx
  have hF := va_free (wc := wc) hD hS hA isC hcut.1
  have hPc := xCut_P hcut hP
  have hDc := hD.sub isC hcut.2.2.1 hcut.1
  exact va_callv (va_runIN (As := av) (rest := rest) (Ts := gT) ⟨hx, hb, hml, hown, hg⟩ (hM H.size) ⟨va_cnB n hg (gGood2 (ws := []) m5 (fun _ h => by cases h)) rfl rfl rfl hnw (hg _ m3) hd hR, hnm, hg _ m2⟩ ⟨xPre_blind hbl, fun U hU hW => ⟨rfl, by rw [hU], by rw [hU]; exact hPc, va_K.moved hW.alike hK, hDc.weaken (fun _ _ _ _ => trivial), hE U hU hW⟩⟩ rfl hn hls hst (lv_room hroom) hdg hf) hS (fun q _ h => hF q h) hF (fun u t H1 locs1 ht hvm hw hB hz1 hk1 hS1 => by
    obtain ⟨hP1, hD1⟩ := x_join hcut hP hD hS hA ht hB hk1
    exact kk u H1 locs1 hw hP1 hD1 hS1)
/-- a new array of a kind whose class is known -/
theorem x_newa {atype : ArrayType} {ty : FieldType} {cy : ClassId} (hx : p.tables.exec = Jvm.exec) (hb : c.code = cc) (harr : (Cond.arrayClass (newarray.typeOf atype)).before args s = true) (hty : newarray.typeOf atype = ty) (hK : va_K D vwCl tys s) (t0 : Nat) (ht : tys[t0]? = some (cy, ty)) (hone : ∀ a b : ClassId, va_RA s a ty → va_RA s b ty → a = b) (hP : va_P D vwCl ws H) (hD : va_D A ws) (hS : va_S A H0 H locs) (hA : ∀ q, H0.size ≤ q → A q)
    {k : Int32} {N' : Nat} {a0 : vp_A} (ha : ∀ cA : ClassId, vp_cell cA a0 = arrV cA N' (fun _ => defaultValue ty)) (hn : ¬ k < 0) (hN : k.toNatClampNeg = N') (hbytes : N' * componentBytes ty ≤ 536870912) (hcells : cells + 1 ≤ R.cells) (hslots : slots + N' ≤ R.slots) (hdg : decode cc pc = .ok (.newarray atype, 2))
    (kk : ∀ (q : Nat) (H1 : Heap), va_P D vwCl (ws ++ [(q, .inl (cy, a0))]) H1 → va_D A (ws ++ [(q, .inl (cy, a0))]) → va_S A H0 H1 locs →
      W p l e R s m args below meth c H1 locs (cells + 1) (slots + N') Q (F0 m (pc + 2) ls (.ref q :: rest))) : W p l e R s m args below meth c H locs cells slots Q (F0 m pc ls (.int k :: rest)) := by
  refine va_newa hx hb harr hty hK hP hD hS hA ha hn hN hbytes hcells hslots hdg (fun q cA H1 hK1 hP1 hD1 hS1 => ?_)
  have h1 := (hK.2 t0 _ ht).2
  have h2 := (hK1.2 tys.length (cA, ty) (by rw [List.getElem?_append_right (Nat.le_refl _), Nat.sub_self]; rfl)).2
  have e : cy = cA := hone cy cA h1 h2
  subst e
  exact kk q H1 hP1 hD1 hS1
end XC
theorem one_int {s : State} (a b : ClassId) (h1 : va_RA s a .int) (h2 : va_RA s b .int) : a = b := Option.some.inj ((va_nm_int h1).symm.trans (va_nm_int h2))
theorem one_long {s : State} (a b : ClassId) (h1 : va_RA s a .long) (h2 : va_RA s b .long) : a = b := Option.some.inj ((va_nm_long h1).symm.trans (va_nm_long h2))
theorem one_byte {s : State} (a b : ClassId) (h1 : va_RA s a .byte) (h2 : va_RA s b .byte) : a = b := Option.some.inj ((va_nm_byte h1).symm.trans (va_nm_byte h2))
theorem one_bool {s : State} (a b : ClassId) (h1 : va_RA s a .boolean) (h2 : va_RA s b .boolean) : a = b := Option.some.inj ((va_nm_boolean h1).symm.trans (va_nm_boolean h2))
/-- a loop's counter at its test -/
theorem lp_end {i N : Nat} {y : Int32} (hy : y = nI N) (hi : i ≤ N) (hN : N < 2 ^ 31) (h : y ≤ nI i) : i = N := by
  rw [hy] at h
  have := (nI_leI hN (Nat.lt_of_le_of_lt hi hN)).mp h
  omega
theorem lp_go {i N : Nat} {y : Int32} (hy : y = nI N) (hi : i ≤ N) (hN : N < 2 ^ 31) (h : ¬ y ≤ nI i) : i < N := by
  rcases Nat.lt_or_ge i N with q | q
  · exact q
  · exact absurd (by rw [hy]; exact nI_le q (Nat.lt_of_le_of_lt hi hN)) h
theorem lp_inc (i : Nat) : nI i + Int32.ofInt 1 = nI (i + 1) := nI_1 i
abbrev rmk (d c s : Nat) : Room := { frames := d, cells := c, slots := s, locals := 60 * d }
/-- the array classes: bytes, ints, longs, truth values -/
abbrev tyL (cy : Nat → ClassId) : List (ClassId × FieldType) := [(cy 0, .byte), (cy 1, .int), (cy 2, .long), (cy 3, .boolean), (cy 4, .object RX2), (cy 5, .array .long)]
theorem fa_lt (a b : Int32) : a < b ↔ a.toInt < b.toInt := Int32.lt_iff_toInt_lt
theorem fa_le (a b : Int32) : a ≤ b ↔ a.toInt ≤ b.toInt := Int32.le_iff_toInt_le
theorem fa_eq (a b : Int32) : a = b ↔ a.toInt = b.toInt := ⟨fun h => by rw [h], fun h => Int32.toInt_inj.mp h⟩
