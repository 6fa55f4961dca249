/-! THE CLAIM OUT OF ONE WALK OF THE LAW'S BODY. Your part is whole_start (and what it stands on); all else here is the same for every law, but numbers. -/
def R_law : String := "CliffJudgesLaw"
def lw_P (b : Addr) (xs : List Int32) (args : Array Value) (s : State) : Prop := args = #[.ref b] ∧ s.IntsAt b xs ∧ xs.length ≤ 6 ∧ (Jvm.Cond.and given_1 narrow_1).before args s = true
def lw_Q (_ : Array Value) (s : State) (o : Outcome) (t : State) : Prop := o = .returned (some (.int 1)) ∧ Framed s o t [] 600000 7302250
def lw_Z (below : List Frame) (a : Array Value) (s : State) : State → Prop := fun t => ∃ o, t.status = .running ∧ Ended t below o ∧ lw_Q a s o t
/-- the law's own end, with 1 on the stack, nothing written that was there before, its room as the claim has it -/
theorem lw_ret {p : Program} {l : Launch} {e : Env} {s : State} {m : MethodId} {below : List Frame} {meth : Method} {c : Code} {b : Nat} (hx : p.tables.exec = Jvm.exec) (hb : c.code = code) (hr : meth.sig.returnType = ret) (hlocks : meth.locks = false) {pc : Nat} {H : Heap} {ls : Array Slot} (hdg : decode code pc = .ok (.ireturn, 1)) : W p l e room_1 s m #[Value.ref b] below meth c H [] 600000 7302250 (lw_Z below #[Value.ref b] s) (F0 m pc ls [.int 1]) := by
  intro T hT X
  obtain ⟨fs, hret, hrun, hended, hW, hframe⟩ := X.leave (v := some (.int 1)) (hlocks := hlocks) (fun h => by rw [hr] at h; cases h)
  have hmeth' : T.vm.method? m = some meth := X.method'
  refine ⟨T.setFrames fs, ?_, .returned (some (.int 1)), hrun, hended, rfl, ⟨_, rfl⟩, hW, hframe⟩
  jvm_step X.here [X.here.top, hx, hb, hdg, hmeth', hr, ret, narrow_b1]
  (try refine ⟨rfl, ?_⟩); (try refine ⟨rfl, ?_⟩)
  first | (intro acts; rw [hret _ acts rfl rfl rfl]) | rw [hret _ _ rfl rfl rfl]
  exact Steps.refl _
/-- what holds at the law's entry: the machine, the code, the tables' words (any of lw_tbl by 'hts w (by decide +kernel)'), the script of L ints xs at the cell b, what the Statement gives of the start (any of its parts by flat_of_before) -/
def lw_At (p : Program) (s : State) (m : MethodId) (meth : Method) (c : Code) (b L : Nat) (xs : Nat → Int32) : Prop :=
  p.tables.exec = Jvm.exec ∧ c.code = code ∧ meth.sig.returnType = ret ∧ c.maxLocals = 4 ∧ s.vm.findClass R_law = some m.cls ∧ (∀ w ∈ lw_tbl, w.before #[Value.ref b] s = true) ∧ va_X b L xs s s.heap ∧ b < s.heap.size ∧ meth.locks = false ∧ (Jvm.Cond.and given_1 narrow_1).before #[Value.ref b] s = true
/-- what holds at the law's switch -/
def lwC (p : Program) (s : State) (m : MethodId) (meth : Method) (c : Code) (b : Nat) (xs : Nat → Int32) (D : va_G) (cy : Nat → ClassId) (A : Nat → Prop) : Prop :=
  p.tables.exec = Jvm.exec ∧ c.code = code ∧ meth.sig.returnType = ret ∧ c.maxLocals = 4 ∧ s.vm.findClass RL = some m.cls ∧ (∀ w ∈ gT, w.before #[Value.ref b] s = true) ∧ meth.locks = false ∧ va_X b 6 xs s s.heap ∧ b < s.heap.size ∧ va_K D vwCl (tyL cy) s ∧ (∀ q, s.heap.size ≤ q → A q) ∧ (∀ q, A q → s.heap.size ≤ q) ∧ ¬ A b
theorem dL_law_1244 : decode cL_law 1244 = .ok (.iinc 3 6, 3) := by decide +kernel
theorem dL_law_1247 : decode cL_law 1247 = .ok (.goto (-1229), 3) := by decide +kernel
theorem dL_law_18 : decode cL_law 18 = .ok (.iload_n 3, 1) := by decide +kernel
theorem dL_law_19 : decode cL_law 19 = .ok (.aload_n 0, 1) := by decide +kernel
theorem dL_law_20 : decode cL_law 20 = .ok (.arraylength, 1) := by decide +kernel
theorem dL_law_21 : decode cL_law 21 = .ok (.bipush 6, 2) := by decide +kernel
theorem dL_law_23 : decode cL_law 23 = .ok (.isub, 1) := by decide +kernel
theorem dL_law_24 : decode cL_law 24 = .ok (.if_icmp .gt 1226, 3) := by decide +kernel
theorem dL_law_1250 : decode cL_law 1250 = .ok (.iconst 1, 1) := by decide +kernel
theorem dL_law_1251 : decode cL_law 1251 = .ok (.ireturn, 1) := by decide +kernel
set_option maxHeartbeats 400000 in
set_option maxRecDepth 100000 in
/-- behind the call: the loop ends, the answer is true -/
theorem law_tail {p : Program} {e : Env} {s : State} {m : MethodId} {below : List Frame} {meth : Method} {c : Code} (l : Launch) {D : va_G} {cy : Nat → ClassId} {A : Nat → Prop} {b : Nat} {xs : Nat → Int32} (C : lwC p s m meth c b xs D cy A) {H : Heap} {locs : List Loc} (hS : va_S A s.heap H locs) {ls : Array Slot} (hl : lv_has ls 4 [(3, .int 0), (0, .ref b)]) : W p l e room_1 s m #[Value.ref b] below meth c H locs 142 14416 (lw_Z below #[Value.ref b] s) (F0 m 1244 ls []) := by
  obtain ⟨hx, hb, hr, hml, hown, hg, hlocks, hX, hbl, hK, hA, hAr, hbA⟩ := C
  refine lv_iinc (v := 6) (lv' := [(3, .int 6), (0, .ref b)]) hx hb dL_law_1244 hl (k := 0) rfl (by decide) (by decide) rfl (fun ls hl => ?_)
  refine lv_goto (tgt := 18) hx hb dL_law_1247 (by decide) ?_
  refine lv_iload_n hx hb dL_law_18 rfl (lv_at hl 0 rfl) ?_
  refine lv_aload_n hx hb dL_law_19 rfl (lv_at hl 1 rfl) ?_
  refine va_slen hx hb hX hbl hbA hS dL_law_20 ?_
  refine lv_bipush (v := 6) hx hb dL_law_21 (by decide) ?_
  refine lv_isub hx hb dL_law_23 ?_
  refine lv_icmp_gt (tgt := 1250) hx hb dL_law_24 (by decide) (fun _ => ?_) (fun h => absurd (by decide) h)
  refine lv_iconst (v := 1) hx hb dL_law_1250 (by decide) ?_
  refine va_forget (fun q hq => hAr _ (hS.2.2 q hq)) ?_
  refine W.widen (k := 600000) (n := 7302250) (by decide) (by decide) ?_
  exact lw_ret hx hb hr hlocks dL_law_1251
theorem dL_law_200 : decode cL_law 200 = .ok (.aload_n 1, 1) := by decide +kernel
theorem dL_law_201 : decode cL_law 201 = .ok (.aload_n 0, 1) := by decide +kernel
theorem dL_law_202 : decode cL_law 202 = .ok (.iload_n 3, 1) := by decide +kernel
theorem dL_law_203 : decode cL_law 203 = .ok (.iconst 1, 1) := by decide +kernel
theorem dL_law_204 : decode cL_law 204 = .ok (.iadd, 1) := by decide +kernel
theorem dL_law_205 : decode cL_law 205 = .ok (.iaload, 1) := by decide +kernel
theorem dL_law_206 : decode cL_law 206 = .ok (.aload_n 0, 1) := by decide +kernel
theorem dL_law_207 : decode cL_law 207 = .ok (.iload_n 3, 1) := by decide +kernel
theorem dL_law_208 : decode cL_law 208 = .ok (.iconst 2, 1) := by decide +kernel
theorem dL_law_209 : decode cL_law 209 = .ok (.iadd, 1) := by decide +kernel
theorem dL_law_210 : decode cL_law 210 = .ok (.iaload, 1) := by decide +kernel
theorem dL_law_211 : decode cL_law 211 = .ok (.aload_n 0, 1) := by decide +kernel
theorem dL_law_212 : decode cL_law 212 = .ok (.iload_n 3, 1) := by decide +kernel
theorem dL_law_213 : decode cL_law 213 = .ok (.iconst 3, 1) := by decide +kernel
theorem dL_law_214 : decode cL_law 214 = .ok (.iadd, 1) := by decide +kernel
theorem dL_law_215 : decode cL_law 215 = .ok (.iaload, 1) := by decide +kernel
theorem dL_law_216 : decode cL_law 216 = .ok (.aload_n 0, 1) := by decide +kernel
theorem dL_law_217 : decode cL_law 217 = .ok (.iload_n 3, 1) := by decide +kernel
theorem dL_law_218 : decode cL_law 218 = .ok (.iconst 4, 1) := by decide +kernel
theorem dL_law_219 : decode cL_law 219 = .ok (.iadd, 1) := by decide +kernel
theorem dL_law_220 : decode cL_law 220 = .ok (.iaload, 1) := by decide +kernel
theorem dL_law_221 : decode cL_law 221 = .ok (.aload_n 0, 1) := by decide +kernel
theorem dL_law_222 : decode cL_law 222 = .ok (.iload_n 3, 1) := by decide +kernel
theorem dL_law_223 : decode cL_law 223 = .ok (.iconst 5, 1) := by decide +kernel
theorem dL_law_224 : decode cL_law 224 = .ok (.iadd, 1) := by decide +kernel
theorem dL_law_225 : decode cL_law 225 = .ok (.iaload, 1) := by decide +kernel
theorem dL_law_226 : decode cL_law 226 = .ok (.invokevirtual 13, 3) := by decide +kernel
theorem m_701 : (Cond.methodLink RL 13 yX11_feed) ∈ gT := gm 701 (by decide +kernel) (by decide +kernel)
theorem m_702 : (Cond.instanceMethod yX11_feed) ∈ gT := gm 702 (by decide +kernel) (by decide +kernel)
theorem m_703 : (Cond.selects RX11 yX11_feed yX11_feed) ∈ gT := gm 703 (by decide +kernel) (by decide +kernel)
theorem m_704 : (Cond.code yX11_feed cX11_feed 6 (some .int)) ∈ gT := gm 704 (by decide +kernel) (by decide +kernel)
theorem k_L_13 : xV RL RX11 13 yX11_feed cX11_feed 6 (some .int) 5 := ⟨⟨m_701, m_702, m_703, m_130, m_704⟩, rfl, by decide, by decide, by decide +kernel⟩
theorem dL_law_229 : decode cL_law 229 = .ok (.aload_n 2, 1) := by decide +kernel
theorem dL_law_230 : decode cL_law 230 = .ok (.aload_n 0, 1) := by decide +kernel
theorem dL_law_231 : decode cL_law 231 = .ok (.iload_n 3, 1) := by decide +kernel
theorem dL_law_232 : decode cL_law 232 = .ok (.iconst 1, 1) := by decide +kernel
theorem dL_law_233 : decode cL_law 233 = .ok (.iadd, 1) := by decide +kernel
theorem dL_law_234 : decode cL_law 234 = .ok (.iaload, 1) := by decide +kernel
theorem dL_law_235 : decode cL_law 235 = .ok (.aload_n 0, 1) := by decide +kernel
theorem dL_law_236 : decode cL_law 236 = .ok (.iload_n 3, 1) := by decide +kernel
theorem dL_law_237 : decode cL_law 237 = .ok (.iconst 2, 1) := by decide +kernel
theorem dL_law_238 : decode cL_law 238 = .ok (.iadd, 1) := by decide +kernel
theorem dL_law_239 : decode cL_law 239 = .ok (.iaload, 1) := by decide +kernel
theorem dL_law_240 : decode cL_law 240 = .ok (.aload_n 0, 1) := by decide +kernel
theorem dL_law_241 : decode cL_law 241 = .ok (.iload_n 3, 1) := by decide +kernel
theorem dL_law_242 : decode cL_law 242 = .ok (.iconst 3, 1) := by decide +kernel
theorem dL_law_243 : decode cL_law 243 = .ok (.iadd, 1) := by decide +kernel
theorem dL_law_244 : decode cL_law 244 = .ok (.iaload, 1) := by decide +kernel
theorem dL_law_245 : decode cL_law 245 = .ok (.aload_n 0, 1) := by decide +kernel
theorem dL_law_246 : decode cL_law 246 = .ok (.iload_n 3, 1) := by decide +kernel
theorem dL_law_247 : decode cL_law 247 = .ok (.iconst 4, 1) := by decide +kernel
theorem dL_law_248 : decode cL_law 248 = .ok (.iadd, 1) := by decide +kernel
theorem dL_law_249 : decode cL_law 249 = .ok (.iaload, 1) := by decide +kernel
theorem dL_law_250 : decode cL_law 250 = .ok (.aload_n 0, 1) := by decide +kernel
theorem dL_law_251 : decode cL_law 251 = .ok (.iload_n 3, 1) := by decide +kernel
theorem dL_law_252 : decode cL_law 252 = .ok (.iconst 5, 1) := by decide +kernel
theorem dL_law_253 : decode cL_law 253 = .ok (.iadd, 1) := by decide +kernel
theorem dL_law_254 : decode cL_law 254 = .ok (.iaload, 1) := by decide +kernel
theorem dL_law_255 : decode cL_law 255 = .ok (.invokevirtual 17, 3) := by decide +kernel
theorem m_1682 : (Cond.methodLink RL 17 yX12_feed) ∈ gT := gm 1682 (by decide +kernel) (by decide +kernel)
theorem m_1683 : (Cond.instanceMethod yX12_feed) ∈ gT := gm 1683 (by decide +kernel) (by decide +kernel)
theorem m_1684 : (Cond.selects RX12 yX12_feed yX12_feed) ∈ gT := gm 1684 (by decide +kernel) (by decide +kernel)
theorem m_1685 : (Cond.code yX12_feed cX12_feed 6 (some .int)) ∈ gT := gm 1685 (by decide +kernel) (by decide +kernel)
theorem k_L_17 : xV RL RX12 17 yX12_feed cX12_feed 6 (some .int) 5 := ⟨⟨m_1682, m_1683, m_1684, m_146, m_1685⟩, rfl, by decide, by decide, by decide +kernel⟩
theorem dL_law_258 : decode cL_law 258 = .ok (.if_icmp .eq 986, 3) := by decide +kernel
set_option maxHeartbeats 2000000 in
set_option maxRecDepth 100000 in
theorem lc_feed {p : Program} {e : Env} {s : State} {m : MethodId} {below : List Frame} {meth : Method} {c : Code} (l : Launch) {D : va_G} {cy : Nat → ClassId} {A : Nat → Prop} {b : Nat} {xs : Nat → Int32} (C : lwC p s m meth c b xs D cy A) (a0 : Nat) (ad : Nat → Nat) (vs : Nat → Value) (fx : Nat → Int32) (b0 : Nat) (bd : Nat → Nat) {H : Heap} {locs : List Loc} (hP : va_P D vwCl [(a0, .inr (11, [.ref (ad 0), .ref (ad 2), .ref (ad 3), .ref (ad 5), .ref (ad 11), .ref (ad 15), .ref (ad 17), .ref (ad 20), .ref (ad 21), .ref (ad 18), .ref (ad 22), .ref (ad 23), .ref (ad 24), .int 0])), (ad 0, .inr (9, [.ref (ad 1), .ref (ad 25), .int 0, .int 0, .int 0, .int 0, .long 0, .int 0])), (ad 1, .inl (cy 0, 1600, .inl (fun _ => 0))), (b0, .inr (12, [.ref (bd 0), .int 0, .int 0, .int (-1), .int 0, .int 0, .int 0, .int 0, .int 0, .long 0, .ref (bd 24), .ref (bd 25), .ref (bd 26), .ref (bd 27), .ref (bd 28), .ref (bd 29), .ref (bd 5), .ref (bd 30), .ref (bd 31), .ref (bd 3), .ref (bd 4), .int 0, .int 0, .int 0, .int 0, .int 0, .int 0, .ref (bd 32), .ref (bd 7), .ref (bd 9), .ref (bd 11), .ref (bd 13), .ref (bd 15), .ref (bd 19), .ref (bd 6), .ref (bd 8), .ref (bd 10), .ref (bd 12), .ref (bd 14), .ref (bd 18), .ref (bd 17), .ref (bd 16), .int 0, .int 0, .int 0, .int 0, .int 0, .int 0, .int 0, .int 0, .int 0, .int 0, .int 0, .int 0, .int 0, .int 0, .int 0, .ref (bd 1), .ref (bd 33), .ref (bd 21), .ref (bd 34), .int 0, .int 0, .int 0, .int 0, .int 0, .int 0, .ref (bd 2), .int 0, .int 0, .ref (bd 35), .int 0, .ref (bd 36), .ref (bd 37), .ref (bd 38), .ref (bd 39), .ref (bd 40), .ref (bd 41), .ref (bd 42), .ref (bd 43), .ref (bd 44), .ref (bd 45), .int 0, .int 0, .ref (bd 22), .int 0, .ref (bd 46), .ref (bd 20), .ref (bd 23)])), (bd 0, .inl (cy 1, 1600, .inl (fun _ => 0)))] H) (hD : va_D A [(a0, .inr (11, [.ref (ad 0), .ref (ad 2), .ref (ad 3), .ref (ad 5), .ref (ad 11), .ref (ad 15), .ref (ad 17), .ref (ad 20), .ref (ad 21), .ref (ad 18), .ref (ad 22), .ref (ad 23), .ref (ad 24), .int 0])), (ad 0, .inr (9, [.ref (ad 1), .ref (ad 25), .int 0, .int 0, .int 0, .int 0, .long 0, .int 0])), (ad 1, .inl (cy 0, 1600, .inl (fun _ => 0))), (b0, .inr (12, [.ref (bd 0), .int 0, .int 0, .int (-1), .int 0, .int 0, .int 0, .int 0, .int 0, .long 0, .ref (bd 24), .ref (bd 25), .ref (bd 26), .ref (bd 27), .ref (bd 28), .ref (bd 29), .ref (bd 5), .ref (bd 30), .ref (bd 31), .ref (bd 3), .ref (bd 4), .int 0, .int 0, .int 0, .int 0, .int 0, .int 0, .ref (bd 32), .ref (bd 7), .ref (bd 9), .ref (bd 11), .ref (bd 13), .ref (bd 15), .ref (bd 19), .ref (bd 6), .ref (bd 8), .ref (bd 10), .ref (bd 12), .ref (bd 14), .ref (bd 18), .ref (bd 17), .ref (bd 16), .int 0, .int 0, .int 0, .int 0, .int 0, .int 0, .int 0, .int 0, .int 0, .int 0, .int 0, .int 0, .int 0, .int 0, .int 0, .ref (bd 1), .ref (bd 33), .ref (bd 21), .ref (bd 34), .int 0, .int 0, .int 0, .int 0, .int 0, .int 0, .ref (bd 2), .int 0, .int 0, .ref (bd 35), .int 0, .ref (bd 36), .ref (bd 37), .ref (bd 38), .ref (bd 39), .ref (bd 40), .ref (bd 41), .ref (bd 42), .ref (bd 43), .ref (bd 44), .ref (bd 45), .int 0, .int 0, .ref (bd 22), .int 0, .ref (bd 46), .ref (bd 20), .ref (bd 23)])), (bd 0, .inl (cy 1, 1600, .inl (fun _ => 0)))]) (hS : va_S A s.heap H locs) {ls : Array Slot} (hl : lv_has ls 4 [(3, .int 0), (2, .ref b0), (1, .ref a0), (0, .ref b)]) : W p l e room_1 s m #[Value.ref b] below meth c H locs 142 14416 (lw_Z below #[Value.ref b] s) (F0 m 200 ls []) := by
  have C0 := C
  obtain ⟨hx, hb, hr, hml, hown, hg, hlocks, hX, hbl, hK, hA, hAr, hbA⟩ := C
  refine lv_aload_n hx hb dL_law_200 rfl (lv_at hl 2 rfl) ?_
  refine lv_aload_n hx hb dL_law_201 rfl (lv_at hl 3 rfl) ?_
  refine lv_iload_n hx hb dL_law_202 rfl (lv_at hl 0 rfl) ?_
  refine lv_iconst (v := 1) hx hb dL_law_203 (by decide) ?_
  refine lv_iadd hx hb dL_law_204 ?_
  refine lv_topi (fun y_1 hy_1 => ?_)
  obtain rfl : y_1 = 1 := hy_1.trans (by decide +kernel)
  refine va_sld hx hb hX hbl hbA hS (by unfold vp_in; decide) dL_law_205 ?_
  refine lv_aload_n hx hb dL_law_206 rfl (lv_at hl 3 rfl) ?_
  refine lv_iload_n hx hb dL_law_207 rfl (lv_at hl 0 rfl) ?_
  refine lv_iconst (v := 2) hx hb dL_law_208 (by decide) ?_
  refine lv_iadd hx hb dL_law_209 ?_
  refine lv_topi (fun y_2 hy_2 => ?_)
  obtain rfl : y_2 = 2 := hy_2.trans (by decide +kernel)
  refine va_sld hx hb hX hbl hbA hS (by unfold vp_in; decide) dL_law_210 ?_
  refine lv_aload_n hx hb dL_law_211 rfl (lv_at hl 3 rfl) ?_
  refine lv_iload_n hx hb dL_law_212 rfl (lv_at hl 0 rfl) ?_
  refine lv_iconst (v := 3) hx hb dL_law_213 (by decide) ?_
  refine lv_iadd hx hb dL_law_214 ?_
  refine lv_topi (fun y_3 hy_3 => ?_)
  obtain rfl : y_3 = 3 := hy_3.trans (by decide +kernel)
  refine va_sld hx hb hX hbl hbA hS (by unfold vp_in; decide) dL_law_215 ?_
  refine lv_aload_n hx hb dL_law_216 rfl (lv_at hl 3 rfl) ?_
  refine lv_iload_n hx hb dL_law_217 rfl (lv_at hl 0 rfl) ?_
  refine lv_iconst (v := 4) hx hb dL_law_218 (by decide) ?_
  refine lv_iadd hx hb dL_law_219 ?_
  refine lv_topi (fun y_4 hy_4 => ?_)
  obtain rfl : y_4 = 4 := hy_4.trans (by decide +kernel)
  refine va_sld hx hb hX hbl hbA hS (by unfold vp_in; decide) dL_law_220 ?_
  refine lv_aload_n hx hb dL_law_221 rfl (lv_at hl 3 rfl) ?_
  refine lv_iload_n hx hb dL_law_222 rfl (lv_at hl 0 rfl) ?_
  refine lv_iconst (v := 5) hx hb dL_law_223 (by decide) ?_
  refine lv_iadd hx hb dL_law_224 ?_
  refine lv_topi (fun y_5 hy_5 => ?_)
  obtain rfl : y_5 = 5 := hy_5.trans (by decide +kernel)
  refine va_sld hx hb hX hbl hbA hS (by unfold vp_in; decide) dL_law_225 ?_
  refine x_callVi (q := (RX11, TX11, 14)) (ci := 11) (q0 := 0) (wr := [(b0, .inr (12, [.ref (bd 0), .int 0, .int 0, .int (-1), .int 0, .int 0, .int 0, .int 0, .int 0, .long 0, .ref (bd 24), .ref (bd 25), .ref (bd 26), .ref (bd 27), .ref (bd 28), .ref (bd 29), .ref (bd 5), .ref (bd 30), .ref (bd 31), .ref (bd 3), .ref (bd 4), .int 0, .int 0, .int 0, .int 0, .int 0, .int 0, .ref (bd 32), .ref (bd 7), .ref (bd 9), .ref (bd 11), .ref (bd 13), .ref (bd 15), .ref (bd 19), .ref (bd 6), .ref (bd 8), .ref (bd 10), .ref (bd 12), .ref (bd 14), .ref (bd 18), .ref (bd 17), .ref (bd 16), .int 0, .int 0, .int 0, .int 0, .int 0, .int 0, .int 0, .int 0, .int 0, .int 0, .int 0, .int 0, .int 0, .int 0, .int 0, .ref (bd 1), .ref (bd 33), .ref (bd 21), .ref (bd 34), .int 0, .int 0, .int 0, .int 0, .int 0, .int 0, .ref (bd 2), .int 0, .int 0, .ref (bd 35), .int 0, .ref (bd 36), .ref (bd 37), .ref (bd 38), .ref (bd 39), .ref (bd 40), .ref (bd 41), .ref (bd 42), .ref (bd 43), .ref (bd 44), .ref (bd 45), .int 0, .int 0, .ref (bd 22), .int 0, .ref (bd 46), .ref (bd 20), .ref (bd 23)])), (bd 0, .inl (cy 1, 1600, .inl (fun _ => 0)))]) (rest := []) ⟨hx, hb, hml, hown, hg, hl.1⟩ k_L_13 (t_feed l D cy a0 ((.ref (ad 2))) ((.ref (ad 3))) ((.ref (ad 5))) ((.ref (ad 11))) ((.ref (ad 15))) ((.ref (ad 17))) ((.ref (ad 20))) ((.ref (ad 21))) ((.ref (ad 18))) ((.ref (ad 22))) ((.ref (ad 23))) ((.ref (ad 24))) ((.int 0)) (ad 0) (ad 1) ((.ref (ad 25))) ((.int 0)) ((.int 0)) ((.int 0)) ((.long 0)) ((.int 0)) (fun _ => 0) (xs (1 : Int32).toNatClampNeg) (xs (2 : Int32).toNatClampNeg) (xs (3 : Int32).toNatClampNeg) (xs (4 : Int32).toNatClampNeg) (xs (5 : Int32).toNatClampNeg)) E0_blind hK hP hD hS hA [0, 1, 2] [3, 4] ⟨rfl, rfl, by decide, by decide, by decide⟩ rfl rfl (fun _ _ _ => trivial) dL_law_226 rfl rfl (Nat.le_of_ble_eq_true rfl) ⟨Nat.le_of_ble_eq_true rfl, Nat.le_of_ble_eq_true rfl⟩ ⟨Nat.le_of_ble_eq_true rfl, Nat.le_of_ble_eq_true rfl⟩ (fun r6 u6 H locs hw6 hP hD hS => ?_)
  have hP : va_P D vwCl [(b0, .inr (12, [.ref (bd 0), .int 0, .int 0, .int (-1), .int 0, .int 0, .int 0, .int 0, .int 0, .long 0, .ref (bd 24), .ref (bd 25), .ref (bd 26), .ref (bd 27), .ref (bd 28), .ref (bd 29), .ref (bd 5), .ref (bd 30), .ref (bd 31), .ref (bd 3), .ref (bd 4), .int 0, .int 0, .int 0, .int 0, .int 0, .int 0, .ref (bd 32), .ref (bd 7), .ref (bd 9), .ref (bd 11), .ref (bd 13), .ref (bd 15), .ref (bd 19), .ref (bd 6), .ref (bd 8), .ref (bd 10), .ref (bd 12), .ref (bd 14), .ref (bd 18), .ref (bd 17), .ref (bd 16), .int 0, .int 0, .int 0, .int 0, .int 0, .int 0, .int 0, .int 0, .int 0, .int 0, .int 0, .int 0, .int 0, .int 0, .int 0, .ref (bd 1), .ref (bd 33), .ref (bd 21), .ref (bd 34), .int 0, .int 0, .int 0, .int 0, .int 0, .int 0, .ref (bd 2), .int 0, .int 0, .ref (bd 35), .int 0, .ref (bd 36), .ref (bd 37), .ref (bd 38), .ref (bd 39), .ref (bd 40), .ref (bd 41), .ref (bd 42), .ref (bd 43), .ref (bd 44), .ref (bd 45), .int 0, .int 0, .ref (bd 22), .int 0, .ref (bd 46), .ref (bd 20), .ref (bd 23)])), (bd 0, .inl (cy 1, 1600, .inl (fun _ => 0)))] H := hP
  have hD : va_D A [(b0, .inr (12, [.ref (bd 0), .int 0, .int 0, .int (-1), .int 0, .int 0, .int 0, .int 0, .int 0, .long 0, .ref (bd 24), .ref (bd 25), .ref (bd 26), .ref (bd 27), .ref (bd 28), .ref (bd 29), .ref (bd 5), .ref (bd 30), .ref (bd 31), .ref (bd 3), .ref (bd 4), .int 0, .int 0, .int 0, .int 0, .int 0, .int 0, .ref (bd 32), .ref (bd 7), .ref (bd 9), .ref (bd 11), .ref (bd 13), .ref (bd 15), .ref (bd 19), .ref (bd 6), .ref (bd 8), .ref (bd 10), .ref (bd 12), .ref (bd 14), .ref (bd 18), .ref (bd 17), .ref (bd 16), .int 0, .int 0, .int 0, .int 0, .int 0, .int 0, .int 0, .int 0, .int 0, .int 0, .int 0, .int 0, .int 0, .int 0, .int 0, .ref (bd 1), .ref (bd 33), .ref (bd 21), .ref (bd 34), .int 0, .int 0, .int 0, .int 0, .int 0, .int 0, .ref (bd 2), .int 0, .int 0, .ref (bd 35), .int 0, .ref (bd 36), .ref (bd 37), .ref (bd 38), .ref (bd 39), .ref (bd 40), .ref (bd 41), .ref (bd 42), .ref (bd 43), .ref (bd 44), .ref (bd 45), .int 0, .int 0, .ref (bd 22), .int 0, .ref (bd 46), .ref (bd 20), .ref (bd 23)])), (bd 0, .inl (cy 1, 1600, .inl (fun _ => 0)))] := hD
  refine W.widen (k := 142) (n := 14416) (Nat.le_of_ble_eq_true rfl) (Nat.le_of_ble_eq_true rfl) ?_
  have hw6 : r6 = 20 := hw6
  refine lv_aload_n hx hb dL_law_229 rfl (lv_at hl 1 rfl) ?_
  refine lv_aload_n hx hb dL_law_230 rfl (lv_at hl 3 rfl) ?_
  refine lv_iload_n hx hb dL_law_231 rfl (lv_at hl 0 rfl) ?_
  refine lv_iconst (v := 1) hx hb dL_law_232 (by decide) ?_
  refine lv_iadd hx hb dL_law_233 ?_
  refine lv_topi (fun y_7 hy_7 => ?_)
  obtain rfl : y_7 = 1 := hy_7.trans (by decide +kernel)
  refine va_sld hx hb hX hbl hbA hS (by unfold vp_in; decide) dL_law_234 ?_
  refine lv_aload_n hx hb dL_law_235 rfl (lv_at hl 3 rfl) ?_
  refine lv_iload_n hx hb dL_law_236 rfl (lv_at hl 0 rfl) ?_
  refine lv_iconst (v := 2) hx hb dL_law_237 (by decide) ?_
  refine lv_iadd hx hb dL_law_238 ?_
  refine lv_topi (fun y_8 hy_8 => ?_)
  obtain rfl : y_8 = 2 := hy_8.trans (by decide +kernel)
  refine va_sld hx hb hX hbl hbA hS (by unfold vp_in; decide) dL_law_239 ?_
  refine lv_aload_n hx hb dL_law_240 rfl (lv_at hl 3 rfl) ?_
  refine lv_iload_n hx hb dL_law_241 rfl (lv_at hl 0 rfl) ?_
  refine lv_iconst (v := 3) hx hb dL_law_242 (by decide) ?_
  refine lv_iadd hx hb dL_law_243 ?_
  refine lv_topi (fun y_9 hy_9 => ?_)
  obtain rfl : y_9 = 3 := hy_9.trans (by decide +kernel)
  refine va_sld hx hb hX hbl hbA hS (by unfold vp_in; decide) dL_law_244 ?_
  refine lv_aload_n hx hb dL_law_245 rfl (lv_at hl 3 rfl) ?_
  refine lv_iload_n hx hb dL_law_246 rfl (lv_at hl 0 rfl) ?_
  refine lv_iconst (v := 4) hx hb dL_law_247 (by decide) ?_
  refine lv_iadd hx hb dL_law_248 ?_
  refine lv_topi (fun y_10 hy_10 => ?_)
  obtain rfl : y_10 = 4 := hy_10.trans (by decide +kernel)
  refine va_sld hx hb hX hbl hbA hS (by unfold vp_in; decide) dL_law_249 ?_
  refine lv_aload_n hx hb dL_law_250 rfl (lv_at hl 3 rfl) ?_
  refine lv_iload_n hx hb dL_law_251 rfl (lv_at hl 0 rfl) ?_
  refine lv_iconst (v := 5) hx hb dL_law_252 (by decide) ?_
  refine lv_iadd hx hb dL_law_253 ?_
  refine lv_topi (fun y_11 hy_11 => ?_)
  obtain rfl : y_11 = 5 := hy_11.trans (by decide +kernel)
  refine va_sld hx hb hX hbl hbA hS (by unfold vp_in; decide) dL_law_254 ?_
  refine x_callVi (q := (RX12, TX12, 89)) (ci := 12) (q0 := 0) (wr := []) (rest := [.int r6]) ⟨hx, hb, hml, hown, hg, hl.1⟩ k_L_17 (m_feed l D cy b0 ((.int 0)) ((.int (-1))) ((.int 0)) ((.int 0)) ((.int 0)) ((.int 0)) ((.int 0)) ((.long 0)) ((.ref (bd 24))) ((.ref (bd 25))) ((.ref (bd 26))) ((.ref (bd 27))) ((.ref (bd 28))) ((.ref (bd 29))) ((.ref (bd 5))) ((.ref (bd 30))) ((.ref (bd 31))) ((.ref (bd 3))) ((.ref (bd 4))) ((.int 0)) ((.int 0)) ((.int 0)) ((.int 0)) ((.int 0)) ((.int 0)) ((.ref (bd 32))) ((.ref (bd 7))) ((.ref (bd 9))) ((.ref (bd 11))) ((.ref (bd 13))) ((.ref (bd 15))) ((.ref (bd 19))) ((.ref (bd 6))) ((.ref (bd 8))) ((.ref (bd 10))) ((.ref (bd 12))) ((.ref (bd 14))) ((.ref (bd 18))) ((.ref (bd 17))) ((.ref (bd 16))) ((.int 0)) ((.int 0)) ((.int 0)) ((.int 0)) ((.int 0)) ((.int 0)) ((.int 0)) ((.int 0)) ((.int 0)) ((.int 0)) ((.int 0)) ((.int 0)) ((.int 0)) ((.int 0)) ((.int 0)) ((.ref (bd 1))) ((.ref (bd 33))) ((.ref (bd 21))) ((.ref (bd 34))) ((.int 0)) ((.int 0)) ((.int 0)) ((.int 0)) ((.int 0)) ((.int 0)) ((.ref (bd 2))) ((.int 0)) ((.int 0)) ((.ref (bd 35))) ((.int 0)) ((.ref (bd 36))) ((.ref (bd 37))) ((.ref (bd 38))) ((.ref (bd 39))) ((.ref (bd 40))) ((.ref (bd 41))) ((.ref (bd 42))) ((.ref (bd 43))) ((.ref (bd 44))) ((.ref (bd 45))) ((.int 0)) ((.int 0)) ((.ref (bd 22))) ((.int 0)) ((.ref (bd 46))) ((.ref (bd 20))) ((.ref (bd 23))) (bd 0) (fun _ => 0) (xs (1 : Int32).toNatClampNeg) (xs (2 : Int32).toNatClampNeg) (xs (3 : Int32).toNatClampNeg) (xs (4 : Int32).toNatClampNeg) (xs (5 : Int32).toNatClampNeg)) E0_blind hK hP hD hS hA [0, 1] [] ⟨rfl, rfl, by decide, by decide, by decide⟩ rfl rfl (fun _ _ _ => trivial) dL_law_255 rfl rfl (Nat.le_of_ble_eq_true rfl) ⟨Nat.le_of_ble_eq_true rfl, Nat.le_of_ble_eq_true rfl⟩ ⟨Nat.le_of_ble_eq_true rfl, Nat.le_of_ble_eq_true rfl⟩ (fun r12 u12 H locs hw12 hP hD hS => ?_)
  have hP : va_P D vwCl [] H := hP
  have hD : va_D A [] := hD
  refine W.widen (k := 142) (n := 14416) (Nat.le_of_ble_eq_true rfl) (Nat.le_of_ble_eq_true rfl) ?_
  have hw12 : r12 = 20 := hw12
  refine lv_icmp_eq (tgt := 1244) hx hb dL_law_258 (by decide) (fun _ => ?_) (fun h => absurd (hw6.trans hw12.symm) h)
  exact law_tail l C0 hS (lv_sub hl [0, 3] rfl)
theorem dL_law_263 : decode cL_law 263 = .ok (.aload_n 1, 1) := by decide +kernel
theorem dL_law_264 : decode cL_law 264 = .ok (.aload_n 0, 1) := by decide +kernel
theorem dL_law_265 : decode cL_law 265 = .ok (.iload_n 3, 1) := by decide +kernel
theorem dL_law_266 : decode cL_law 266 = .ok (.iconst 1, 1) := by decide +kernel
theorem dL_law_267 : decode cL_law 267 = .ok (.iadd, 1) := by decide +kernel
theorem dL_law_268 : decode cL_law 268 = .ok (.iaload, 1) := by decide +kernel
theorem dL_law_269 : decode cL_law 269 = .ok (.invokevirtual 18, 3) := by decide +kernel
theorem m_709 : (Cond.methodLink RL 18 yX11_end) ∈ gT := gm 709 (by decide +kernel) (by decide +kernel)
theorem m_710 : (Cond.instanceMethod yX11_end) ∈ gT := gm 710 (by decide +kernel) (by decide +kernel)
theorem m_711 : (Cond.selects RX11 yX11_end yX11_end) ∈ gT := gm 711 (by decide +kernel) (by decide +kernel)
theorem m_712 : (Cond.code yX11_end cX11_end 2 (some .int)) ∈ gT := gm 712 (by decide +kernel) (by decide +kernel)
theorem k_L_18 : xV RL RX11 18 yX11_end cX11_end 2 (some .int) 1 := ⟨⟨m_709, m_710, m_711, m_130, m_712⟩, rfl, by decide, by decide, by decide +kernel⟩
theorem dL_law_272 : decode cL_law 272 = .ok (.aload_n 2, 1) := by decide +kernel
theorem dL_law_273 : decode cL_law 273 = .ok (.aload_n 0, 1) := by decide +kernel
theorem dL_law_274 : decode cL_law 274 = .ok (.iload_n 3, 1) := by decide +kernel
theorem dL_law_275 : decode cL_law 275 = .ok (.iconst 1, 1) := by decide +kernel
theorem dL_law_276 : decode cL_law 276 = .ok (.iadd, 1) := by decide +kernel
theorem dL_law_277 : decode cL_law 277 = .ok (.iaload, 1) := by decide +kernel
theorem dL_law_278 : decode cL_law 278 = .ok (.invokevirtual 22, 3) := by decide +kernel
theorem m_1690 : (Cond.methodLink RL 22 yX12_end) ∈ gT := gm 1690 (by decide +kernel) (by decide +kernel)
theorem m_1691 : (Cond.instanceMethod yX12_end) ∈ gT := gm 1691 (by decide +kernel) (by decide +kernel)
theorem m_1692 : (Cond.selects RX12 yX12_end yX12_end) ∈ gT := gm 1692 (by decide +kernel) (by decide +kernel)
theorem m_1693 : (Cond.code yX12_end cX12_end 2 (some .int)) ∈ gT := gm 1693 (by decide +kernel) (by decide +kernel)
theorem k_L_22 : xV RL RX12 22 yX12_end cX12_end 2 (some .int) 1 := ⟨⟨m_1690, m_1691, m_1692, m_146, m_1693⟩, rfl, by decide, by decide, by decide +kernel⟩
theorem dL_law_281 : decode cL_law 281 = .ok (.if_icmp .eq 963, 3) := by decide +kernel
set_option maxHeartbeats 2000000 in
set_option maxRecDepth 100000 in
theorem lc_end {p : Program} {e : Env} {s : State} {m : MethodId} {below : List Frame} {meth : Method} {c : Code} (l : Launch) {D : va_G} {cy : Nat → ClassId} {A : Nat → Prop} {b : Nat} {xs : Nat → Int32} (C : lwC p s m meth c b xs D cy A) (a0 : Nat) (ad : Nat → Nat) (vs : Nat → Value) (fx : Nat → Int32) (b0 : Nat) (bd : Nat → Nat) {H : Heap} {locs : List Loc} (hP : va_P D vwCl [(a0, .inr (11, [.ref (ad 0), .ref (ad 2), .ref (ad 3), .ref (ad 5), .ref (ad 11), .ref (ad 15), .ref (ad 17), .ref (ad 20), .ref (ad 21), .ref (ad 18), .ref (ad 22), .ref (ad 23), .ref (ad 24), .int 0])), (ad 0, .inr (9, [.ref (ad 1), .ref (ad 25), .int 0, .int 0, .int 0, .int 0, .long 0, .int 0])), (b0, .inr (12, [.ref (bd 0), .int 0, .int 0, .int (-1), .int 0, .int 0, .int 0, .int 0, .int 0, .long 0, .ref (bd 24), .ref (bd 25), .ref (bd 26), .ref (bd 27), .ref (bd 28), .ref (bd 29), .ref (bd 5), .ref (bd 30), .ref (bd 31), .ref (bd 3), .ref (bd 4), .int 0, .int 0, .int 0, .int 0, .int 0, .int 0, .ref (bd 32), .ref (bd 7), .ref (bd 9), .ref (bd 11), .ref (bd 13), .ref (bd 15), .ref (bd 19), .ref (bd 6), .ref (bd 8), .ref (bd 10), .ref (bd 12), .ref (bd 14), .ref (bd 18), .ref (bd 17), .ref (bd 16), .int 0, .int 0, .int 0, .int 0, .int 0, .int 0, .int 0, .int 0, .int 0, .int 0, .int 0, .int 0, .int 0, .int 0, .int 0, .ref (bd 1), .ref (bd 33), .ref (bd 21), .ref (bd 34), .int 0, .int 0, .int 0, .int 0, .int 0, .int 0, .ref (bd 2), .int 0, .int 0, .ref (bd 35), .int 0, .ref (bd 36), .ref (bd 37), .ref (bd 38), .ref (bd 39), .ref (bd 40), .ref (bd 41), .ref (bd 42), .ref (bd 43), .ref (bd 44), .ref (bd 45), .int 0, .int 0, .ref (bd 22), .int 0, .ref (bd 46), .ref (bd 20), .ref (bd 23)]))] H) (hD : va_D A [(a0, .inr (11, [.ref (ad 0), .ref (ad 2), .ref (ad 3), .ref (ad 5), .ref (ad 11), .ref (ad 15), .ref (ad 17), .ref (ad 20), .ref (ad 21), .ref (ad 18), .ref (ad 22), .ref (ad 23), .ref (ad 24), .int 0])), (ad 0, .inr (9, [.ref (ad 1), .ref (ad 25), .int 0, .int 0, .int 0, .int 0, .long 0, .int 0])), (b0, .inr (12, [.ref (bd 0), .int 0, .int 0, .int (-1), .int 0, .int 0, .int 0, .int 0, .int 0, .long 0, .ref (bd 24), .ref (bd 25), .ref (bd 26), .ref (bd 27), .ref (bd 28), .ref (bd 29), .ref (bd 5), .ref (bd 30), .ref (bd 31), .ref (bd 3), .ref (bd 4), .int 0, .int 0, .int 0, .int 0, .int 0, .int 0, .ref (bd 32), .ref (bd 7), .ref (bd 9), .ref (bd 11), .ref (bd 13), .ref (bd 15), .ref (bd 19), .ref (bd 6), .ref (bd 8), .ref (bd 10), .ref (bd 12), .ref (bd 14), .ref (bd 18), .ref (bd 17), .ref (bd 16), .int 0, .int 0, .int 0, .int 0, .int 0, .int 0, .int 0, .int 0, .int 0, .int 0, .int 0, .int 0, .int 0, .int 0, .int 0, .ref (bd 1), .ref (bd 33), .ref (bd 21), .ref (bd 34), .int 0, .int 0, .int 0, .int 0, .int 0, .int 0, .ref (bd 2), .int 0, .int 0, .ref (bd 35), .int 0, .ref (bd 36), .ref (bd 37), .ref (bd 38), .ref (bd 39), .ref (bd 40), .ref (bd 41), .ref (bd 42), .ref (bd 43), .ref (bd 44), .ref (bd 45), .int 0, .int 0, .ref (bd 22), .int 0, .ref (bd 46), .ref (bd 20), .ref (bd 23)]))]) (hS : va_S A s.heap H locs) {ls : Array Slot} (hl : lv_has ls 4 [(3, .int 0), (2, .ref b0), (1, .ref a0), (0, .ref b)]) : W p l e room_1 s m #[Value.ref b] below meth c H locs 142 14416 (lw_Z below #[Value.ref b] s) (F0 m 263 ls []) := by
  have C0 := C
  obtain ⟨hx, hb, hr, hml, hown, hg, hlocks, hX, hbl, hK, hA, hAr, hbA⟩ := C
  refine lv_aload_n hx hb dL_law_263 rfl (lv_at hl 2 rfl) ?_
  refine lv_aload_n hx hb dL_law_264 rfl (lv_at hl 3 rfl) ?_
  refine lv_iload_n hx hb dL_law_265 rfl (lv_at hl 0 rfl) ?_
  refine lv_iconst (v := 1) hx hb dL_law_266 (by decide) ?_
  refine lv_iadd hx hb dL_law_267 ?_
  refine lv_topi (fun y_1 hy_1 => ?_)
  obtain rfl : y_1 = 1 := hy_1.trans (by decide +kernel)
  refine va_sld hx hb hX hbl hbA hS (by unfold vp_in; decide) dL_law_268 ?_
  refine x_callVi (q := (RX11, TX11, 14)) (ci := 11) (q0 := 0) (wr := [(b0, .inr (12, [.ref (bd 0), .int 0, .int 0, .int (-1), .int 0, .int 0, .int 0, .int 0, .int 0, .long 0, .ref (bd 24), .ref (bd 25), .ref (bd 26), .ref (bd 27), .ref (bd 28), .ref (bd 29), .ref (bd 5), .ref (bd 30), .ref (bd 31), .ref (bd 3), .ref (bd 4), .int 0, .int 0, .int 0, .int 0, .int 0, .int 0, .ref (bd 32), .ref (bd 7), .ref (bd 9), .ref (bd 11), .ref (bd 13), .ref (bd 15), .ref (bd 19), .ref (bd 6), .ref (bd 8), .ref (bd 10), .ref (bd 12), .ref (bd 14), .ref (bd 18), .ref (bd 17), .ref (bd 16), .int 0, .int 0, .int 0, .int 0, .int 0, .int 0, .int 0, .int 0, .int 0, .int 0, .int 0, .int 0, .int 0, .int 0, .int 0, .ref (bd 1), .ref (bd 33), .ref (bd 21), .ref (bd 34), .int 0, .int 0, .int 0, .int 0, .int 0, .int 0, .ref (bd 2), .int 0, .int 0, .ref (bd 35), .int 0, .ref (bd 36), .ref (bd 37), .ref (bd 38), .ref (bd 39), .ref (bd 40), .ref (bd 41), .ref (bd 42), .ref (bd 43), .ref (bd 44), .ref (bd 45), .int 0, .int 0, .ref (bd 22), .int 0, .ref (bd 46), .ref (bd 20), .ref (bd 23)]))]) (rest := []) ⟨hx, hb, hml, hown, hg, hl.1⟩ k_L_18 (t_end l D cy a0 ((.ref (ad 2))) ((.ref (ad 3))) ((.ref (ad 5))) ((.ref (ad 11))) ((.ref (ad 15))) ((.ref (ad 17))) ((.ref (ad 20))) ((.ref (ad 21))) ((.ref (ad 18))) ((.ref (ad 22))) ((.ref (ad 23))) ((.ref (ad 24))) ((.int 0)) (ad 0) ((.ref (ad 1))) ((.ref (ad 25))) ((.int 0)) ((.int 0)) ((.int 0)) ((.long 0)) ((.int 0)) (xs (1 : Int32).toNatClampNeg)) E0_blind hK hP hD hS hA [0, 1] [2] ⟨rfl, rfl, by decide, by decide, by decide⟩ rfl rfl (fun _ _ _ => trivial) dL_law_269 rfl rfl (Nat.le_of_ble_eq_true rfl) ⟨Nat.le_of_ble_eq_true rfl, Nat.le_of_ble_eq_true rfl⟩ ⟨Nat.le_of_ble_eq_true rfl, Nat.le_of_ble_eq_true rfl⟩ (fun r2 u2 H locs hw2 hP hD hS => ?_)
  have hP : va_P D vwCl [(b0, .inr (12, [.ref (bd 0), .int 0, .int 0, .int (-1), .int 0, .int 0, .int 0, .int 0, .int 0, .long 0, .ref (bd 24), .ref (bd 25), .ref (bd 26), .ref (bd 27), .ref (bd 28), .ref (bd 29), .ref (bd 5), .ref (bd 30), .ref (bd 31), .ref (bd 3), .ref (bd 4), .int 0, .int 0, .int 0, .int 0, .int 0, .int 0, .ref (bd 32), .ref (bd 7), .ref (bd 9), .ref (bd 11), .ref (bd 13), .ref (bd 15), .ref (bd 19), .ref (bd 6), .ref (bd 8), .ref (bd 10), .ref (bd 12), .ref (bd 14), .ref (bd 18), .ref (bd 17), .ref (bd 16), .int 0, .int 0, .int 0, .int 0, .int 0, .int 0, .int 0, .int 0, .int 0, .int 0, .int 0, .int 0, .int 0, .int 0, .int 0, .ref (bd 1), .ref (bd 33), .ref (bd 21), .ref (bd 34), .int 0, .int 0, .int 0, .int 0, .int 0, .int 0, .ref (bd 2), .int 0, .int 0, .ref (bd 35), .int 0, .ref (bd 36), .ref (bd 37), .ref (bd 38), .ref (bd 39), .ref (bd 40), .ref (bd 41), .ref (bd 42), .ref (bd 43), .ref (bd 44), .ref (bd 45), .int 0, .int 0, .ref (bd 22), .int 0, .ref (bd 46), .ref (bd 20), .ref (bd 23)]))] H := hP
  have hD : va_D A [(b0, .inr (12, [.ref (bd 0), .int 0, .int 0, .int (-1), .int 0, .int 0, .int 0, .int 0, .int 0, .long 0, .ref (bd 24), .ref (bd 25), .ref (bd 26), .ref (bd 27), .ref (bd 28), .ref (bd 29), .ref (bd 5), .ref (bd 30), .ref (bd 31), .ref (bd 3), .ref (bd 4), .int 0, .int 0, .int 0, .int 0, .int 0, .int 0, .ref (bd 32), .ref (bd 7), .ref (bd 9), .ref (bd 11), .ref (bd 13), .ref (bd 15), .ref (bd 19), .ref (bd 6), .ref (bd 8), .ref (bd 10), .ref (bd 12), .ref (bd 14), .ref (bd 18), .ref (bd 17), .ref (bd 16), .int 0, .int 0, .int 0, .int 0, .int 0, .int 0, .int 0, .int 0, .int 0, .int 0, .int 0, .int 0, .int 0, .int 0, .int 0, .ref (bd 1), .ref (bd 33), .ref (bd 21), .ref (bd 34), .int 0, .int 0, .int 0, .int 0, .int 0, .int 0, .ref (bd 2), .int 0, .int 0, .ref (bd 35), .int 0, .ref (bd 36), .ref (bd 37), .ref (bd 38), .ref (bd 39), .ref (bd 40), .ref (bd 41), .ref (bd 42), .ref (bd 43), .ref (bd 44), .ref (bd 45), .int 0, .int 0, .ref (bd 22), .int 0, .ref (bd 46), .ref (bd 20), .ref (bd 23)]))] := hD
  refine W.widen (k := 142) (n := 14416) (Nat.le_of_ble_eq_true rfl) (Nat.le_of_ble_eq_true rfl) ?_
  have hw2 : r2 = if (xs (1 : Int32).toNatClampNeg).toInt = 0 then 0 else -1 := hw2
  refine lv_aload_n hx hb dL_law_272 rfl (lv_at hl 1 rfl) ?_
  refine lv_aload_n hx hb dL_law_273 rfl (lv_at hl 3 rfl) ?_
  refine lv_iload_n hx hb dL_law_274 rfl (lv_at hl 0 rfl) ?_
  refine lv_iconst (v := 1) hx hb dL_law_275 (by decide) ?_
  refine lv_iadd hx hb dL_law_276 ?_
  refine lv_topi (fun y_3 hy_3 => ?_)
  obtain rfl : y_3 = 1 := hy_3.trans (by decide +kernel)
  refine va_sld hx hb hX hbl hbA hS (by unfold vp_in; decide) dL_law_277 ?_
  refine x_callVi (q := (RX12, TX12, 89)) (ci := 12) (q0 := 0) (wr := []) (rest := [.int r2]) ⟨hx, hb, hml, hown, hg, hl.1⟩ k_L_22 (m_end l D cy b0 ((.ref (bd 0))) ((.int 0)) ((.int (-1))) ((.int 0)) ((.int 0)) ((.int 0)) ((.int 0)) ((.int 0)) ((.long 0)) ((.ref (bd 24))) ((.ref (bd 25))) ((.ref (bd 26))) ((.ref (bd 27))) ((.ref (bd 28))) ((.ref (bd 29))) ((.ref (bd 5))) ((.ref (bd 30))) ((.ref (bd 31))) ((.ref (bd 3))) ((.ref (bd 4))) ((.int 0)) ((.int 0)) ((.int 0)) ((.int 0)) ((.int 0)) ((.int 0)) ((.ref (bd 32))) ((.ref (bd 7))) ((.ref (bd 9))) ((.ref (bd 11))) ((.ref (bd 13))) ((.ref (bd 15))) ((.ref (bd 19))) ((.ref (bd 6))) ((.ref (bd 8))) ((.ref (bd 10))) ((.ref (bd 12))) ((.ref (bd 14))) ((.ref (bd 18))) ((.ref (bd 17))) ((.ref (bd 16))) ((.int 0)) ((.int 0)) ((.int 0)) ((.int 0)) ((.int 0)) ((.int 0)) ((.int 0)) ((.int 0)) ((.int 0)) ((.int 0)) ((.int 0)) ((.int 0)) ((.int 0)) ((.int 0)) ((.int 0)) ((.ref (bd 1))) ((.ref (bd 33))) ((.ref (bd 21))) ((.ref (bd 34))) ((.int 0)) ((.int 0)) ((.int 0)) ((.int 0)) ((.int 0)) ((.int 0)) ((.ref (bd 2))) ((.int 0)) ((.int 0)) ((.ref (bd 35))) ((.int 0)) ((.ref (bd 36))) ((.ref (bd 37))) ((.ref (bd 38))) ((.ref (bd 39))) ((.ref (bd 40))) ((.ref (bd 41))) ((.ref (bd 42))) ((.ref (bd 43))) ((.ref (bd 44))) ((.ref (bd 45))) ((.int 0)) ((.int 0)) ((.ref (bd 22))) ((.int 0)) ((.ref (bd 46))) ((.ref (bd 20))) ((.ref (bd 23))) (xs (1 : Int32).toNatClampNeg)) E0_blind hK hP hD hS hA [0] [] ⟨rfl, rfl, by decide, by decide, by decide⟩ rfl rfl (fun _ _ _ => trivial) dL_law_278 rfl rfl (Nat.le_of_ble_eq_true rfl) ⟨Nat.le_of_ble_eq_true rfl, Nat.le_of_ble_eq_true rfl⟩ ⟨Nat.le_of_ble_eq_true rfl, Nat.le_of_ble_eq_true rfl⟩ (fun r4 u4 H locs hw4 hP hD hS => ?_)
  have hP : va_P D vwCl [] H := hP
  have hD : va_D A [] := hD
  refine W.widen (k := 142) (n := 14416) (Nat.le_of_ble_eq_true rfl) (Nat.le_of_ble_eq_true rfl) ?_
  have hw4 : r4 = if (xs (1 : Int32).toNatClampNeg).toInt = 0 then 0 else -1 := hw4
  refine lv_icmp_eq (tgt := 1244) hx hb dL_law_281 (by decide) (fun _ => ?_) (fun h => absurd (hw2.trans hw4.symm) h)
  exact law_tail l C0 hS (lv_sub hl [0, 3] rfl)
theorem dL_law_286 : decode cL_law 286 = .ok (.aload_n 1, 1) := by decide +kernel
theorem dL_law_287 : decode cL_law 287 = .ok (.invokevirtual 23, 3) := by decide +kernel
theorem m_713 : (Cond.methodLink RL 23 yX11_hills) ∈ gT := gm 713 (by decide +kernel) (by decide +kernel)
theorem m_714 : (Cond.instanceMethod yX11_hills) ∈ gT := gm 714 (by decide +kernel) (by decide +kernel)
theorem m_715 : (Cond.selects RX11 yX11_hills yX11_hills) ∈ gT := gm 715 (by decide +kernel) (by decide +kernel)
theorem m_716 : (Cond.code yX11_hills cX11_hills 3 (some .int)) ∈ gT := gm 716 (by decide +kernel) (by decide +kernel)
theorem k_L_23 : xV RL RX11 23 yX11_hills cX11_hills 3 (some .int) 0 := ⟨⟨m_713, m_714, m_715, m_130, m_716⟩, rfl, by decide, by decide, by decide +kernel⟩
theorem dL_law_290 : decode cL_law 290 = .ok (.aload_n 2, 1) := by decide +kernel
theorem dL_law_291 : decode cL_law 291 = .ok (.invokevirtual 27, 3) := by decide +kernel
theorem m_1694 : (Cond.methodLink RL 27 yX12_hills) ∈ gT := gm 1694 (by decide +kernel) (by decide +kernel)
theorem m_1695 : (Cond.instanceMethod yX12_hills) ∈ gT := gm 1695 (by decide +kernel) (by decide +kernel)
theorem m_1696 : (Cond.selects RX12 yX12_hills yX12_hills) ∈ gT := gm 1696 (by decide +kernel) (by decide +kernel)
theorem m_1697 : (Cond.code yX12_hills cX12_hills 3 (some .int)) ∈ gT := gm 1697 (by decide +kernel) (by decide +kernel)
theorem k_L_27 : xV RL RX12 27 yX12_hills cX12_hills 3 (some .int) 0 := ⟨⟨m_1694, m_1695, m_1696, m_146, m_1697⟩, rfl, by decide, by decide, by decide +kernel⟩
theorem dL_law_294 : decode cL_law 294 = .ok (.if_icmp .eq 950, 3) := by decide +kernel
set_option maxHeartbeats 2000000 in
set_option maxRecDepth 100000 in
theorem lc_hills {p : Program} {e : Env} {s : State} {m : MethodId} {below : List Frame} {meth : Method} {c : Code} (l : Launch) {D : va_G} {cy : Nat → ClassId} {A : Nat → Prop} {b : Nat} {xs : Nat → Int32} (C : lwC p s m meth c b xs D cy A) (a0 : Nat) (ad : Nat → Nat) (vs : Nat → Value) (fx : Nat → Int32) (b0 : Nat) (bd : Nat → Nat) {H : Heap} {locs : List Loc} (hP : va_P D vwCl [(a0, .inr (11, [.ref (ad 0), .ref (ad 2), .ref (ad 3), .ref (ad 5), .ref (ad 11), .ref (ad 15), .ref (ad 17), .ref (ad 20), .ref (ad 21), .ref (ad 18), .ref (ad 22), .ref (ad 23), .ref (ad 24), .int 0])), (ad 0, .inr (9, [.ref (ad 1), .ref (ad 25), .int 0, .int 0, .int 0, .int 0, .long 0, .int 0])), (ad 2, .inr (10, [.ref (ad 0), .ref (ad 26), .null, .null, .int 0, .int 0, .int 0, .int 0, .int 0, .int (-1)])), (ad 5, .inr (4, [.ref (ad 6), vs 6, vs 7, vs 8, vs 9, vs 10, .ref (ad 7), vs 11, .ref (ad 8), .ref (ad 9), .ref (ad 10), .int 0, .int 0, .int 0, .int 0, .int 0])), (ad 6, .inl (cy 1, 4, .inl (fun _ => 0))), (ad 7, .inl (cy 1, 48, .inl (fx))), (ad 8, .inr (3, [vs 12, vs 13, .int 0, .int 0])), (ad 9, .inr (3, [vs 14, vs 15, .int 0, .int 0])), (ad 10, .inr (3, [vs 16, vs 17, .int 0, .int 0])), (ad 11, .inr (5, [.ref (ad 12), .ref (ad 13), .ref (ad 14), .int 0, .int 0, .int 0, .int 0])), (ad 12, .inl (cy 1, 41, .inl (fun _ => 0))), (ad 13, .inl (cy 1, 1681, .inl (fun _ => 0))), (ad 15, .inr (8, [vs 18, vs 19, vs 20, vs 21, vs 22, .ref (ad 16), vs 23, vs 24, .int 0, .int 0, .int 0, .int 0, .int 0])), (b0, .inr (12, [.ref (bd 0), .int 0, .int 0, .int (-1), .int 0, .int 0, .int 0, .int 0, .int 0, .long 0, .ref (bd 24), .ref (bd 25), .ref (bd 26), .ref (bd 27), .ref (bd 28), .ref (bd 29), .ref (bd 5), .ref (bd 30), .ref (bd 31), .ref (bd 3), .ref (bd 4), .int 0, .int 0, .int 0, .int 0, .int 0, .int 0, .ref (bd 32), .ref (bd 7), .ref (bd 9), .ref (bd 11), .ref (bd 13), .ref (bd 15), .ref (bd 19), .ref (bd 6), .ref (bd 8), .ref (bd 10), .ref (bd 12), .ref (bd 14), .ref (bd 18), .ref (bd 17), .ref (bd 16), .int 0, .int 0, .int 0, .int 0, .int 0, .int 0, .int 0, .int 0, .int 0, .int 0, .int 0, .int 0, .int 0, .int 0, .int 0, .ref (bd 1), .ref (bd 33), .ref (bd 21), .ref (bd 34), .int 0, .int 0, .int 0, .int 0, .int 0, .int 0, .ref (bd 2), .int 0, .int 0, .ref (bd 35), .int 0, .ref (bd 36), .ref (bd 37), .ref (bd 38), .ref (bd 39), .ref (bd 40), .ref (bd 41), .ref (bd 42), .ref (bd 43), .ref (bd 44), .ref (bd 45), .int 0, .int 0, .ref (bd 22), .int 0, .ref (bd 46), .ref (bd 20), .ref (bd 23)])), (bd 1, .inl (cy 1, 42, .inl (fun _ => 0))), (bd 3, .inl (cy 3, 3, .inl (fun _ => 0))), (bd 4, .inl (cy 3, 3, .inl (fun _ => 0))), (bd 5, .inl (cy 1, 3, .inl (fun _ => 0))), (bd 6, .inl (cy 1, 8, .inl (fun _ => 0))), (bd 7, .inl (cy 1, 8, .inl (fun _ => 0))), (bd 8, .inl (cy 1, 4, .inl (fun _ => 0))), (bd 9, .inl (cy 1, 4, .inl (fun _ => 0))), (bd 10, .inl (cy 1, 4, .inl (fun _ => 0))), (bd 11, .inl (cy 1, 4, .inl (fun _ => 0))), (bd 12, .inl (cy 1, 4, .inl (fun _ => 0))), (bd 13, .inl (cy 1, 4, .inl (fun _ => 0))), (bd 14, .inl (cy 1, 4, .inl (fun _ => 0))), (bd 15, .inl (cy 1, 4, .inl (fun _ => 0))), (bd 16, .inl (cy 3, 6, .inl (fun _ => 0))), (bd 17, .inl (cy 3, 6, .inl (fun _ => 0))), (bd 18, .inl (cy 1, 48, .inl (fun _ => 0))), (bd 19, .inl (cy 1, 48, .inl (fun _ => 0))), (bd 20, .inl (cy 3, 3, .inl (fun _ => 0)))] H) (hD : va_D A [(a0, .inr (11, [.ref (ad 0), .ref (ad 2), .ref (ad 3), .ref (ad 5), .ref (ad 11), .ref (ad 15), .ref (ad 17), .ref (ad 20), .ref (ad 21), .ref (ad 18), .ref (ad 22), .ref (ad 23), .ref (ad 24), .int 0])), (ad 0, .inr (9, [.ref (ad 1), .ref (ad 25), .int 0, .int 0, .int 0, .int 0, .long 0, .int 0])), (ad 2, .inr (10, [.ref (ad 0), .ref (ad 26), .null, .null, .int 0, .int 0, .int 0, .int 0, .int 0, .int (-1)])), (ad 5, .inr (4, [.ref (ad 6), vs 6, vs 7, vs 8, vs 9, vs 10, .ref (ad 7), vs 11, .ref (ad 8), .ref (ad 9), .ref (ad 10), .int 0, .int 0, .int 0, .int 0, .int 0])), (ad 6, .inl (cy 1, 4, .inl (fun _ => 0))), (ad 7, .inl (cy 1, 48, .inl (fx))), (ad 8, .inr (3, [vs 12, vs 13, .int 0, .int 0])), (ad 9, .inr (3, [vs 14, vs 15, .int 0, .int 0])), (ad 10, .inr (3, [vs 16, vs 17, .int 0, .int 0])), (ad 11, .inr (5, [.ref (ad 12), .ref (ad 13), .ref (ad 14), .int 0, .int 0, .int 0, .int 0])), (ad 12, .inl (cy 1, 41, .inl (fun _ => 0))), (ad 13, .inl (cy 1, 1681, .inl (fun _ => 0))), (ad 15, .inr (8, [vs 18, vs 19, vs 20, vs 21, vs 22, .ref (ad 16), vs 23, vs 24, .int 0, .int 0, .int 0, .int 0, .int 0])), (b0, .inr (12, [.ref (bd 0), .int 0, .int 0, .int (-1), .int 0, .int 0, .int 0, .int 0, .int 0, .long 0, .ref (bd 24), .ref (bd 25), .ref (bd 26), .ref (bd 27), .ref (bd 28), .ref (bd 29), .ref (bd 5), .ref (bd 30), .ref (bd 31), .ref (bd 3), .ref (bd 4), .int 0, .int 0, .int 0, .int 0, .int 0, .int 0, .ref (bd 32), .ref (bd 7), .ref (bd 9), .ref (bd 11), .ref (bd 13), .ref (bd 15), .ref (bd 19), .ref (bd 6), .ref (bd 8), .ref (bd 10), .ref (bd 12), .ref (bd 14), .ref (bd 18), .ref (bd 17), .ref (bd 16), .int 0, .int 0, .int 0, .int 0, .int 0, .int 0, .int 0, .int 0, .int 0, .int 0, .int 0, .int 0, .int 0, .int 0, .int 0, .ref (bd 1), .ref (bd 33), .ref (bd 21), .ref (bd 34), .int 0, .int 0, .int 0, .int 0, .int 0, .int 0, .ref (bd 2), .int 0, .int 0, .ref (bd 35), .int 0, .ref (bd 36), .ref (bd 37), .ref (bd 38), .ref (bd 39), .ref (bd 40), .ref (bd 41), .ref (bd 42), .ref (bd 43), .ref (bd 44), .ref (bd 45), .int 0, .int 0, .ref (bd 22), .int 0, .ref (bd 46), .ref (bd 20), .ref (bd 23)])), (bd 1, .inl (cy 1, 42, .inl (fun _ => 0))), (bd 3, .inl (cy 3, 3, .inl (fun _ => 0))), (bd 4, .inl (cy 3, 3, .inl (fun _ => 0))), (bd 5, .inl (cy 1, 3, .inl (fun _ => 0))), (bd 6, .inl (cy 1, 8, .inl (fun _ => 0))), (bd 7, .inl (cy 1, 8, .inl (fun _ => 0))), (bd 8, .inl (cy 1, 4, .inl (fun _ => 0))), (bd 9, .inl (cy 1, 4, .inl (fun _ => 0))), (bd 10, .inl (cy 1, 4, .inl (fun _ => 0))), (bd 11, .inl (cy 1, 4, .inl (fun _ => 0))), (bd 12, .inl (cy 1, 4, .inl (fun _ => 0))), (bd 13, .inl (cy 1, 4, .inl (fun _ => 0))), (bd 14, .inl (cy 1, 4, .inl (fun _ => 0))), (bd 15, .inl (cy 1, 4, .inl (fun _ => 0))), (bd 16, .inl (cy 3, 6, .inl (fun _ => 0))), (bd 17, .inl (cy 3, 6, .inl (fun _ => 0))), (bd 18, .inl (cy 1, 48, .inl (fun _ => 0))), (bd 19, .inl (cy 1, 48, .inl (fun _ => 0))), (bd 20, .inl (cy 3, 3, .inl (fun _ => 0)))]) (hS : va_S A s.heap H locs) {ls : Array Slot} (hl : lv_has ls 4 [(3, .int 0), (2, .ref b0), (1, .ref a0), (0, .ref b)]) : W p l e room_1 s m #[Value.ref b] below meth c H locs 142 14416 (lw_Z below #[Value.ref b] s) (F0 m 286 ls []) := by
  have C0 := C
  obtain ⟨hx, hb, hr, hml, hown, hg, hlocks, hX, hbl, hK, hA, hAr, hbA⟩ := C
  refine lv_aload_n hx hb dL_law_286 rfl (lv_at hl 2 rfl) ?_
  refine x_callVi (q := (RX11, TX11, 14)) (ci := 11) (q0 := 0) (wr := [(b0, .inr (12, [.ref (bd 0), .int 0, .int 0, .int (-1), .int 0, .int 0, .int 0, .int 0, .int 0, .long 0, .ref (bd 24), .ref (bd 25), .ref (bd 26), .ref (bd 27), .ref (bd 28), .ref (bd 29), .ref (bd 5), .ref (bd 30), .ref (bd 31), .ref (bd 3), .ref (bd 4), .int 0, .int 0, .int 0, .int 0, .int 0, .int 0, .ref (bd 32), .ref (bd 7), .ref (bd 9), .ref (bd 11), .ref (bd 13), .ref (bd 15), .ref (bd 19), .ref (bd 6), .ref (bd 8), .ref (bd 10), .ref (bd 12), .ref (bd 14), .ref (bd 18), .ref (bd 17), .ref (bd 16), .int 0, .int 0, .int 0, .int 0, .int 0, .int 0, .int 0, .int 0, .int 0, .int 0, .int 0, .int 0, .int 0, .int 0, .int 0, .ref (bd 1), .ref (bd 33), .ref (bd 21), .ref (bd 34), .int 0, .int 0, .int 0, .int 0, .int 0, .int 0, .ref (bd 2), .int 0, .int 0, .ref (bd 35), .int 0, .ref (bd 36), .ref (bd 37), .ref (bd 38), .ref (bd 39), .ref (bd 40), .ref (bd 41), .ref (bd 42), .ref (bd 43), .ref (bd 44), .ref (bd 45), .int 0, .int 0, .ref (bd 22), .int 0, .ref (bd 46), .ref (bd 20), .ref (bd 23)])), (bd 1, .inl (cy 1, 42, .inl (fun _ => 0))), (bd 3, .inl (cy 3, 3, .inl (fun _ => 0))), (bd 4, .inl (cy 3, 3, .inl (fun _ => 0))), (bd 5, .inl (cy 1, 3, .inl (fun _ => 0))), (bd 6, .inl (cy 1, 8, .inl (fun _ => 0))), (bd 7, .inl (cy 1, 8, .inl (fun _ => 0))), (bd 8, .inl (cy 1, 4, .inl (fun _ => 0))), (bd 9, .inl (cy 1, 4, .inl (fun _ => 0))), (bd 10, .inl (cy 1, 4, .inl (fun _ => 0))), (bd 11, .inl (cy 1, 4, .inl (fun _ => 0))), (bd 12, .inl (cy 1, 4, .inl (fun _ => 0))), (bd 13, .inl (cy 1, 4, .inl (fun _ => 0))), (bd 14, .inl (cy 1, 4, .inl (fun _ => 0))), (bd 15, .inl (cy 1, 4, .inl (fun _ => 0))), (bd 16, .inl (cy 3, 6, .inl (fun _ => 0))), (bd 17, .inl (cy 3, 6, .inl (fun _ => 0))), (bd 18, .inl (cy 1, 48, .inl (fun _ => 0))), (bd 19, .inl (cy 1, 48, .inl (fun _ => 0))), (bd 20, .inl (cy 3, 3, .inl (fun _ => 0)))]) (rest := []) ⟨hx, hb, hml, hown, hg, hl.1⟩ k_L_23 (t_hills l D cy a0 ((.ref (ad 17))) ((.ref (ad 20))) ((.ref (ad 21))) ((.ref (ad 18))) ((.ref (ad 22))) ((.ref (ad 23))) ((.ref (ad 24))) ((.int 0)) (ad 3) (ad 2) ((.ref (ad 26))) .null .null ((.int 0)) ((.int 0)) ((.int 0)) ((.int 0)) ((.int 0)) ((.int (-1))) (ad 0) ((.ref (ad 1))) ((.ref (ad 25))) ((.long 0)) ((.int 0)) ((.int 0)) ((.int 0)) ((.int 0)) (ad 5) (ad 6) (ad 7) (ad 8) (ad 9) (ad 10) (vs 6) (vs 7) (vs 8) (vs 9) (vs 10) (vs 11) ((.int 0)) ((.int 0)) ((.int 0)) ((.int 0)) ((.int 0)) (vs 12) (vs 13) ((.int 0)) ((.int 0)) (vs 14) (vs 15) ((.int 0)) ((.int 0)) (vs 16) (vs 17) ((.int 0)) ((.int 0)) fx (ad 11) (ad 12) (ad 13) (ad 14) ((.int 0)) ((.int 0)) ((.int 0)) ((.int 0)) (fun _ => 0) (ad 15) (vs 18) (vs 19) (vs 20) (vs 21) (vs 22) ((.ref (ad 16))) (vs 23) (vs 24) ((.int 0)) ((.int 0)) ((.int 0)) ((.int 0)) ((.int 0))) E0_blind hK hP hD hS hA [0, 2, 1, 3, 4, 5, 6, 7, 8, 9, 10, 11, 12] [13, 14, 15, 16, 17, 18, 19, 20, 21, 22, 23, 24, 25, 26, 27, 28, 29, 30, 31, 32] ⟨rfl, rfl, by decide, by decide, by decide⟩ rfl rfl (fun _ _ _ => trivial) dL_law_287 rfl rfl (Nat.le_of_ble_eq_true rfl) ⟨Nat.le_of_ble_eq_true rfl, Nat.le_of_ble_eq_true rfl⟩ ⟨Nat.le_of_ble_eq_true rfl, Nat.le_of_ble_eq_true rfl⟩ (fun r1 u1 H locs hw1 hP hD hS => ?_)
  have hP : va_P D vwCl [(b0, .inr (12, [.ref (bd 0), .int 0, .int 0, .int (-1), .int 0, .int 0, .int 0, .int 0, .int 0, .long 0, .ref (bd 24), .ref (bd 25), .ref (bd 26), .ref (bd 27), .ref (bd 28), .ref (bd 29), .ref (bd 5), .ref (bd 30), .ref (bd 31), .ref (bd 3), .ref (bd 4), .int 0, .int 0, .int 0, .int 0, .int 0, .int 0, .ref (bd 32), .ref (bd 7), .ref (bd 9), .ref (bd 11), .ref (bd 13), .ref (bd 15), .ref (bd 19), .ref (bd 6), .ref (bd 8), .ref (bd 10), .ref (bd 12), .ref (bd 14), .ref (bd 18), .ref (bd 17), .ref (bd 16), .int 0, .int 0, .int 0, .int 0, .int 0, .int 0, .int 0, .int 0, .int 0, .int 0, .int 0, .int 0, .int 0, .int 0, .int 0, .ref (bd 1), .ref (bd 33), .ref (bd 21), .ref (bd 34), .int 0, .int 0, .int 0, .int 0, .int 0, .int 0, .ref (bd 2), .int 0, .int 0, .ref (bd 35), .int 0, .ref (bd 36), .ref (bd 37), .ref (bd 38), .ref (bd 39), .ref (bd 40), .ref (bd 41), .ref (bd 42), .ref (bd 43), .ref (bd 44), .ref (bd 45), .int 0, .int 0, .ref (bd 22), .int 0, .ref (bd 46), .ref (bd 20), .ref (bd 23)])), (bd 1, .inl (cy 1, 42, .inl (fun _ => 0))), (bd 3, .inl (cy 3, 3, .inl (fun _ => 0))), (bd 4, .inl (cy 3, 3, .inl (fun _ => 0))), (bd 5, .inl (cy 1, 3, .inl (fun _ => 0))), (bd 6, .inl (cy 1, 8, .inl (fun _ => 0))), (bd 7, .inl (cy 1, 8, .inl (fun _ => 0))), (bd 8, .inl (cy 1, 4, .inl (fun _ => 0))), (bd 9, .inl (cy 1, 4, .inl (fun _ => 0))), (bd 10, .inl (cy 1, 4, .inl (fun _ => 0))), (bd 11, .inl (cy 1, 4, .inl (fun _ => 0))), (bd 12, .inl (cy 1, 4, .inl (fun _ => 0))), (bd 13, .inl (cy 1, 4, .inl (fun _ => 0))), (bd 14, .inl (cy 1, 4, .inl (fun _ => 0))), (bd 15, .inl (cy 1, 4, .inl (fun _ => 0))), (bd 16, .inl (cy 3, 6, .inl (fun _ => 0))), (bd 17, .inl (cy 3, 6, .inl (fun _ => 0))), (bd 18, .inl (cy 1, 48, .inl (fun _ => 0))), (bd 19, .inl (cy 1, 48, .inl (fun _ => 0))), (bd 20, .inl (cy 3, 3, .inl (fun _ => 0)))] H := hP
  have hD : va_D A [(b0, .inr (12, [.ref (bd 0), .int 0, .int 0, .int (-1), .int 0, .int 0, .int 0, .int 0, .int 0, .long 0, .ref (bd 24), .ref (bd 25), .ref (bd 26), .ref (bd 27), .ref (bd 28), .ref (bd 29), .ref (bd 5), .ref (bd 30), .ref (bd 31), .ref (bd 3), .ref (bd 4), .int 0, .int 0, .int 0, .int 0, .int 0, .int 0, .ref (bd 32), .ref (bd 7), .ref (bd 9), .ref (bd 11), .ref (bd 13), .ref (bd 15), .ref (bd 19), .ref (bd 6), .ref (bd 8), .ref (bd 10), .ref (bd 12), .ref (bd 14), .ref (bd 18), .ref (bd 17), .ref (bd 16), .int 0, .int 0, .int 0, .int 0, .int 0, .int 0, .int 0, .int 0, .int 0, .int 0, .int 0, .int 0, .int 0, .int 0, .int 0, .ref (bd 1), .ref (bd 33), .ref (bd 21), .ref (bd 34), .int 0, .int 0, .int 0, .int 0, .int 0, .int 0, .ref (bd 2), .int 0, .int 0, .ref (bd 35), .int 0, .ref (bd 36), .ref (bd 37), .ref (bd 38), .ref (bd 39), .ref (bd 40), .ref (bd 41), .ref (bd 42), .ref (bd 43), .ref (bd 44), .ref (bd 45), .int 0, .int 0, .ref (bd 22), .int 0, .ref (bd 46), .ref (bd 20), .ref (bd 23)])), (bd 1, .inl (cy 1, 42, .inl (fun _ => 0))), (bd 3, .inl (cy 3, 3, .inl (fun _ => 0))), (bd 4, .inl (cy 3, 3, .inl (fun _ => 0))), (bd 5, .inl (cy 1, 3, .inl (fun _ => 0))), (bd 6, .inl (cy 1, 8, .inl (fun _ => 0))), (bd 7, .inl (cy 1, 8, .inl (fun _ => 0))), (bd 8, .inl (cy 1, 4, .inl (fun _ => 0))), (bd 9, .inl (cy 1, 4, .inl (fun _ => 0))), (bd 10, .inl (cy 1, 4, .inl (fun _ => 0))), (bd 11, .inl (cy 1, 4, .inl (fun _ => 0))), (bd 12, .inl (cy 1, 4, .inl (fun _ => 0))), (bd 13, .inl (cy 1, 4, .inl (fun _ => 0))), (bd 14, .inl (cy 1, 4, .inl (fun _ => 0))), (bd 15, .inl (cy 1, 4, .inl (fun _ => 0))), (bd 16, .inl (cy 3, 6, .inl (fun _ => 0))), (bd 17, .inl (cy 3, 6, .inl (fun _ => 0))), (bd 18, .inl (cy 1, 48, .inl (fun _ => 0))), (bd 19, .inl (cy 1, 48, .inl (fun _ => 0))), (bd 20, .inl (cy 3, 3, .inl (fun _ => 0)))] := hD
  refine W.widen (k := 142) (n := 14416) (Nat.le_of_ble_eq_true rfl) (Nat.le_of_ble_eq_true rfl) ?_
  have hw1 : r1 = 0 := hw1
  refine lv_aload_n hx hb dL_law_290 rfl (lv_at hl 1 rfl) ?_
  refine x_callVi (q := (RX12, TX12, 89)) (ci := 12) (q0 := 0) (wr := []) (rest := [.int r1]) ⟨hx, hb, hml, hown, hg, hl.1⟩ k_L_27 (m_hills l D cy b0 ((.ref (bd 0))) ((.ref (bd 24))) ((.ref (bd 25))) ((.ref (bd 26))) ((.ref (bd 27))) ((.ref (bd 28))) ((.ref (bd 29))) ((.ref (bd 30))) ((.ref (bd 31))) ((.int 0)) ((.int 0)) ((.int 0)) ((.int 0)) ((.ref (bd 32))) ((.ref (bd 33))) ((.ref (bd 21))) ((.ref (bd 34))) ((.int 0)) ((.int 0)) ((.int 0)) ((.int 0)) ((.int 0)) ((.int 0)) ((.ref (bd 2))) ((.ref (bd 35))) ((.ref (bd 36))) ((.ref (bd 37))) ((.ref (bd 38))) ((.ref (bd 39))) ((.ref (bd 40))) ((.ref (bd 41))) ((.ref (bd 42))) ((.ref (bd 43))) ((.ref (bd 44))) ((.ref (bd 45))) ((.int 0)) ((.ref (bd 22))) ((.int 0)) ((.ref (bd 46))) ((.ref (bd 23))) (bd 3) (bd 4) (bd 5) (bd 6) (bd 7) (bd 8) (bd 9) (bd 10) (bd 11) (bd 12) (bd 13) (bd 14) (bd 15) (bd 16) (bd 17) (bd 18) (bd 19) (bd 1) (bd 20) (fun _ => 0) (fun _ => 0) (fun _ => 0) (fun _ => 0) (fun _ => 0) (fun _ => 0) (fun _ => 0) (fun _ => 0) (fun _ => 0) (fun _ => 0) (fun _ => 0) (fun _ => 0) (fun _ => 0) (fun _ => 0)) E0_blind hK hP hD hS hA [0, 2, 3, 4, 5, 6, 7, 8, 9, 10, 11, 12, 13, 14, 15, 16, 17, 18, 1, 19] [] ⟨rfl, rfl, by decide, by decide, by decide⟩ rfl rfl (fun _ _ _ => trivial) dL_law_291 rfl rfl (Nat.le_of_ble_eq_true rfl) ⟨Nat.le_of_ble_eq_true rfl, Nat.le_of_ble_eq_true rfl⟩ ⟨Nat.le_of_ble_eq_true rfl, Nat.le_of_ble_eq_true rfl⟩ (fun r2 u2 H locs hw2 hP hD hS => ?_)
  have hP : va_P D vwCl [] H := hP
  have hD : va_D A [] := hD
  refine W.widen (k := 142) (n := 14416) (Nat.le_of_ble_eq_true rfl) (Nat.le_of_ble_eq_true rfl) ?_
  have hw2 : r2 = 0 := hw2
  refine lv_icmp_eq (tgt := 1244) hx hb dL_law_294 (by decide) (fun _ => ?_) (fun h => absurd (hw1.trans hw2.symm) h)
  exact law_tail l C0 hS (lv_sub hl [0, 3] rfl)
theorem dL_law_299 : decode cL_law 299 = .ok (.aload_n 1, 1) := by decide +kernel
theorem dL_law_300 : decode cL_law 300 = .ok (.aload_n 0, 1) := by decide +kernel
theorem dL_law_301 : decode cL_law 301 = .ok (.iload_n 3, 1) := by decide +kernel
theorem dL_law_302 : decode cL_law 302 = .ok (.iconst 1, 1) := by decide +kernel
theorem dL_law_303 : decode cL_law 303 = .ok (.iadd, 1) := by decide +kernel
theorem dL_law_304 : decode cL_law 304 = .ok (.iaload, 1) := by decide +kernel
theorem dL_law_305 : decode cL_law 305 = .ok (.invokevirtual 28, 3) := by decide +kernel
theorem m_941 : (Cond.methodLink RL 28 yX11_fault) ∈ gT := gm 941 (by decide +kernel) (by decide +kernel)
theorem m_942 : (Cond.instanceMethod yX11_fault) ∈ gT := gm 942 (by decide +kernel) (by decide +kernel)
theorem m_943 : (Cond.selects RX11 yX11_fault yX11_fault) ∈ gT := gm 943 (by decide +kernel) (by decide +kernel)
theorem m_944 : (Cond.code yX11_fault cX11_fault 2 (some .int)) ∈ gT := gm 944 (by decide +kernel) (by decide +kernel)
theorem k_L_28 : xV RL RX11 28 yX11_fault cX11_fault 2 (some .int) 1 := ⟨⟨m_941, m_942, m_943, m_130, m_944⟩, rfl, by decide, by decide, by decide +kernel⟩
theorem dL_law_308 : decode cL_law 308 = .ok (.aload_n 2, 1) := by decide +kernel
theorem dL_law_309 : decode cL_law 309 = .ok (.aload_n 0, 1) := by decide +kernel
theorem dL_law_310 : decode cL_law 310 = .ok (.iload_n 3, 1) := by decide +kernel
theorem dL_law_311 : decode cL_law 311 = .ok (.iconst 1, 1) := by decide +kernel
theorem dL_law_312 : decode cL_law 312 = .ok (.iadd, 1) := by decide +kernel
theorem dL_law_313 : decode cL_law 313 = .ok (.iaload, 1) := by decide +kernel
theorem dL_law_314 : decode cL_law 314 = .ok (.invokevirtual 31, 3) := by decide +kernel
theorem m_1862 : (Cond.methodLink RL 31 yX12_fault) ∈ gT := gm 1862 (by decide +kernel) (by decide +kernel)
theorem m_1863 : (Cond.instanceMethod yX12_fault) ∈ gT := gm 1863 (by decide +kernel) (by decide +kernel)
theorem m_1864 : (Cond.selects RX12 yX12_fault yX12_fault) ∈ gT := gm 1864 (by decide +kernel) (by decide +kernel)
theorem m_1865 : (Cond.code yX12_fault cX12_fault 2 (some .int)) ∈ gT := gm 1865 (by decide +kernel) (by decide +kernel)
theorem k_L_31 : xV RL RX12 31 yX12_fault cX12_fault 2 (some .int) 1 := ⟨⟨m_1862, m_1863, m_1864, m_146, m_1865⟩, rfl, by decide, by decide, by decide +kernel⟩
theorem dL_law_317 : decode cL_law 317 = .ok (.if_icmp .eq 927, 3) := by decide +kernel
set_option maxHeartbeats 2000000 in
set_option maxRecDepth 100000 in
theorem lc_fault {p : Program} {e : Env} {s : State} {m : MethodId} {below : List Frame} {meth : Method} {c : Code} (l : Launch) {D : va_G} {cy : Nat → ClassId} {A : Nat → Prop} {b : Nat} {xs : Nat → Int32} (C : lwC p s m meth c b xs D cy A) (a0 : Nat) (ad : Nat → Nat) (vs : Nat → Value) (fx : Nat → Int32) (b0 : Nat) (bd : Nat → Nat) {H : Heap} {locs : List Loc} (hP : va_P D vwCl [(a0, .inr (11, [.ref (ad 0), .ref (ad 2), .ref (ad 3), .ref (ad 5), .ref (ad 11), .ref (ad 15), .ref (ad 17), .ref (ad 20), .ref (ad 21), .ref (ad 18), .ref (ad 22), .ref (ad 23), .ref (ad 24), .int 0])), (ad 2, .inr (10, [.ref (ad 0), .ref (ad 26), .null, .null, .int 0, .int 0, .int 0, .int 0, .int 0, .int (-1)])), (b0, .inr (12, [.ref (bd 0), .int 0, .int 0, .int (-1), .int 0, .int 0, .int 0, .int 0, .int 0, .long 0, .ref (bd 24), .ref (bd 25), .ref (bd 26), .ref (bd 27), .ref (bd 28), .ref (bd 29), .ref (bd 5), .ref (bd 30), .ref (bd 31), .ref (bd 3), .ref (bd 4), .int 0, .int 0, .int 0, .int 0, .int 0, .int 0, .ref (bd 32), .ref (bd 7), .ref (bd 9), .ref (bd 11), .ref (bd 13), .ref (bd 15), .ref (bd 19), .ref (bd 6), .ref (bd 8), .ref (bd 10), .ref (bd 12), .ref (bd 14), .ref (bd 18), .ref (bd 17), .ref (bd 16), .int 0, .int 0, .int 0, .int 0, .int 0, .int 0, .int 0, .int 0, .int 0, .int 0, .int 0, .int 0, .int 0, .int 0, .int 0, .ref (bd 1), .ref (bd 33), .ref (bd 21), .ref (bd 34), .int 0, .int 0, .int 0, .int 0, .int 0, .int 0, .ref (bd 2), .int 0, .int 0, .ref (bd 35), .int 0, .ref (bd 36), .ref (bd 37), .ref (bd 38), .ref (bd 39), .ref (bd 40), .ref (bd 41), .ref (bd 42), .ref (bd 43), .ref (bd 44), .ref (bd 45), .int 0, .int 0, .ref (bd 22), .int 0, .ref (bd 46), .ref (bd 20), .ref (bd 23)]))] H) (hD : va_D A [(a0, .inr (11, [.ref (ad 0), .ref (ad 2), .ref (ad 3), .ref (ad 5), .ref (ad 11), .ref (ad 15), .ref (ad 17), .ref (ad 20), .ref (ad 21), .ref (ad 18), .ref (ad 22), .ref (ad 23), .ref (ad 24), .int 0])), (ad 2, .inr (10, [.ref (ad 0), .ref (ad 26), .null, .null, .int 0, .int 0, .int 0, .int 0, .int 0, .int (-1)])), (b0, .inr (12, [.ref (bd 0), .int 0, .int 0, .int (-1), .int 0, .int 0, .int 0, .int 0, .int 0, .long 0, .ref (bd 24), .ref (bd 25), .ref (bd 26), .ref (bd 27), .ref (bd 28), .ref (bd 29), .ref (bd 5), .ref (bd 30), .ref (bd 31), .ref (bd 3), .ref (bd 4), .int 0, .int 0, .int 0, .int 0, .int 0, .int 0, .ref (bd 32), .ref (bd 7), .ref (bd 9), .ref (bd 11), .ref (bd 13), .ref (bd 15), .ref (bd 19), .ref (bd 6), .ref (bd 8), .ref (bd 10), .ref (bd 12), .ref (bd 14), .ref (bd 18), .ref (bd 17), .ref (bd 16), .int 0, .int 0, .int 0, .int 0, .int 0, .int 0, .int 0, .int 0, .int 0, .int 0, .int 0, .int 0, .int 0, .int 0, .int 0, .ref (bd 1), .ref (bd 33), .ref (bd 21), .ref (bd 34), .int 0, .int 0, .int 0, .int 0, .int 0, .int 0, .ref (bd 2), .int 0, .int 0, .ref (bd 35), .int 0, .ref (bd 36), .ref (bd 37), .ref (bd 38), .ref (bd 39), .ref (bd 40), .ref (bd 41), .ref (bd 42), .ref (bd 43), .ref (bd 44), .ref (bd 45), .int 0, .int 0, .ref (bd 22), .int 0, .ref (bd 46), .ref (bd 20), .ref (bd 23)]))]) (hS : va_S A s.heap H locs) {ls : Array Slot} (hl : lv_has ls 4 [(3, .int 0), (2, .ref b0), (1, .ref a0), (0, .ref b)]) : W p l e room_1 s m #[Value.ref b] below meth c H locs 142 14416 (lw_Z below #[Value.ref b] s) (F0 m 299 ls []) := by
  have C0 := C
  obtain ⟨hx, hb, hr, hml, hown, hg, hlocks, hX, hbl, hK, hA, hAr, hbA⟩ := C
  refine lv_aload_n hx hb dL_law_299 rfl (lv_at hl 2 rfl) ?_
  refine lv_aload_n hx hb dL_law_300 rfl (lv_at hl 3 rfl) ?_
  refine lv_iload_n hx hb dL_law_301 rfl (lv_at hl 0 rfl) ?_
  refine lv_iconst (v := 1) hx hb dL_law_302 (by decide) ?_
  refine lv_iadd hx hb dL_law_303 ?_
  refine lv_topi (fun y_1 hy_1 => ?_)
  obtain rfl : y_1 = 1 := hy_1.trans (by decide +kernel)
  refine va_sld hx hb hX hbl hbA hS (by unfold vp_in; decide) dL_law_304 ?_
  refine x_callVi (q := (RX11, TX11, 14)) (ci := 11) (q0 := 0) (wr := [(b0, .inr (12, [.ref (bd 0), .int 0, .int 0, .int (-1), .int 0, .int 0, .int 0, .int 0, .int 0, .long 0, .ref (bd 24), .ref (bd 25), .ref (bd 26), .ref (bd 27), .ref (bd 28), .ref (bd 29), .ref (bd 5), .ref (bd 30), .ref (bd 31), .ref (bd 3), .ref (bd 4), .int 0, .int 0, .int 0, .int 0, .int 0, .int 0, .ref (bd 32), .ref (bd 7), .ref (bd 9), .ref (bd 11), .ref (bd 13), .ref (bd 15), .ref (bd 19), .ref (bd 6), .ref (bd 8), .ref (bd 10), .ref (bd 12), .ref (bd 14), .ref (bd 18), .ref (bd 17), .ref (bd 16), .int 0, .int 0, .int 0, .int 0, .int 0, .int 0, .int 0, .int 0, .int 0, .int 0, .int 0, .int 0, .int 0, .int 0, .int 0, .ref (bd 1), .ref (bd 33), .ref (bd 21), .ref (bd 34), .int 0, .int 0, .int 0, .int 0, .int 0, .int 0, .ref (bd 2), .int 0, .int 0, .ref (bd 35), .int 0, .ref (bd 36), .ref (bd 37), .ref (bd 38), .ref (bd 39), .ref (bd 40), .ref (bd 41), .ref (bd 42), .ref (bd 43), .ref (bd 44), .ref (bd 45), .int 0, .int 0, .ref (bd 22), .int 0, .ref (bd 46), .ref (bd 20), .ref (bd 23)]))]) (rest := []) ⟨hx, hb, hml, hown, hg, hl.1⟩ k_L_28 (t_fault l D cy a0 ((.ref (ad 0))) ((.ref (ad 3))) ((.ref (ad 5))) ((.ref (ad 11))) ((.ref (ad 15))) ((.ref (ad 17))) ((.ref (ad 20))) ((.ref (ad 21))) ((.ref (ad 18))) ((.ref (ad 22))) ((.ref (ad 23))) ((.ref (ad 24))) ((.int 0)) (ad 2) ((.ref (ad 0))) ((.ref (ad 26))) .null .null ((.int 0)) ((.int 0)) ((.int 0)) ((.int 0)) (xs (1 : Int32).toNatClampNeg)) E0_blind hK hP hD hS hA [0, 1] [2] ⟨rfl, rfl, by decide, by decide, by decide⟩ rfl rfl (fun _ _ _ => trivial) dL_law_305 rfl rfl (Nat.le_of_ble_eq_true rfl) ⟨Nat.le_of_ble_eq_true rfl, Nat.le_of_ble_eq_true rfl⟩ ⟨Nat.le_of_ble_eq_true rfl, Nat.le_of_ble_eq_true rfl⟩ (fun r2 u2 H locs hw2 hP hD hS => ?_)
  have hP : va_P D vwCl [(b0, .inr (12, [.ref (bd 0), .int 0, .int 0, .int (-1), .int 0, .int 0, .int 0, .int 0, .int 0, .long 0, .ref (bd 24), .ref (bd 25), .ref (bd 26), .ref (bd 27), .ref (bd 28), .ref (bd 29), .ref (bd 5), .ref (bd 30), .ref (bd 31), .ref (bd 3), .ref (bd 4), .int 0, .int 0, .int 0, .int 0, .int 0, .int 0, .ref (bd 32), .ref (bd 7), .ref (bd 9), .ref (bd 11), .ref (bd 13), .ref (bd 15), .ref (bd 19), .ref (bd 6), .ref (bd 8), .ref (bd 10), .ref (bd 12), .ref (bd 14), .ref (bd 18), .ref (bd 17), .ref (bd 16), .int 0, .int 0, .int 0, .int 0, .int 0, .int 0, .int 0, .int 0, .int 0, .int 0, .int 0, .int 0, .int 0, .int 0, .int 0, .ref (bd 1), .ref (bd 33), .ref (bd 21), .ref (bd 34), .int 0, .int 0, .int 0, .int 0, .int 0, .int 0, .ref (bd 2), .int 0, .int 0, .ref (bd 35), .int 0, .ref (bd 36), .ref (bd 37), .ref (bd 38), .ref (bd 39), .ref (bd 40), .ref (bd 41), .ref (bd 42), .ref (bd 43), .ref (bd 44), .ref (bd 45), .int 0, .int 0, .ref (bd 22), .int 0, .ref (bd 46), .ref (bd 20), .ref (bd 23)]))] H := hP
  have hD : va_D A [(b0, .inr (12, [.ref (bd 0), .int 0, .int 0, .int (-1), .int 0, .int 0, .int 0, .int 0, .int 0, .long 0, .ref (bd 24), .ref (bd 25), .ref (bd 26), .ref (bd 27), .ref (bd 28), .ref (bd 29), .ref (bd 5), .ref (bd 30), .ref (bd 31), .ref (bd 3), .ref (bd 4), .int 0, .int 0, .int 0, .int 0, .int 0, .int 0, .ref (bd 32), .ref (bd 7), .ref (bd 9), .ref (bd 11), .ref (bd 13), .ref (bd 15), .ref (bd 19), .ref (bd 6), .ref (bd 8), .ref (bd 10), .ref (bd 12), .ref (bd 14), .ref (bd 18), .ref (bd 17), .ref (bd 16), .int 0, .int 0, .int 0, .int 0, .int 0, .int 0, .int 0, .int 0, .int 0, .int 0, .int 0, .int 0, .int 0, .int 0, .int 0, .ref (bd 1), .ref (bd 33), .ref (bd 21), .ref (bd 34), .int 0, .int 0, .int 0, .int 0, .int 0, .int 0, .ref (bd 2), .int 0, .int 0, .ref (bd 35), .int 0, .ref (bd 36), .ref (bd 37), .ref (bd 38), .ref (bd 39), .ref (bd 40), .ref (bd 41), .ref (bd 42), .ref (bd 43), .ref (bd 44), .ref (bd 45), .int 0, .int 0, .ref (bd 22), .int 0, .ref (bd 46), .ref (bd 20), .ref (bd 23)]))] := hD
  refine W.widen (k := 142) (n := 14416) (Nat.le_of_ble_eq_true rfl) (Nat.le_of_ble_eq_true rfl) ?_
  have hw2 : r2 = if (xs (1 : Int32).toNatClampNeg).toInt = 0 then 0 else -1 := hw2
  refine lv_aload_n hx hb dL_law_308 rfl (lv_at hl 1 rfl) ?_
  refine lv_aload_n hx hb dL_law_309 rfl (lv_at hl 3 rfl) ?_
  refine lv_iload_n hx hb dL_law_310 rfl (lv_at hl 0 rfl) ?_
  refine lv_iconst (v := 1) hx hb dL_law_311 (by decide) ?_
  refine lv_iadd hx hb dL_law_312 ?_
  refine lv_topi (fun y_3 hy_3 => ?_)
  obtain rfl : y_3 = 1 := hy_3.trans (by decide +kernel)
  refine va_sld hx hb hX hbl hbA hS (by unfold vp_in; decide) dL_law_313 ?_
  refine x_callVi (q := (RX12, TX12, 89)) (ci := 12) (q0 := 0) (wr := []) (rest := [.int r2]) ⟨hx, hb, hml, hown, hg, hl.1⟩ k_L_31 (m_fault l D cy b0 ((.ref (bd 0))) ((.int 0)) ((.int 0)) ((.int 0)) ((.int 0)) ((.int 0)) ((.int 0)) ((.long 0)) ((.ref (bd 24))) ((.ref (bd 25))) ((.ref (bd 26))) ((.ref (bd 27))) ((.ref (bd 28))) ((.ref (bd 29))) ((.ref (bd 5))) ((.ref (bd 30))) ((.ref (bd 31))) ((.ref (bd 3))) ((.ref (bd 4))) ((.int 0)) ((.int 0)) ((.int 0)) ((.int 0)) ((.int 0)) ((.int 0)) ((.ref (bd 32))) ((.ref (bd 7))) ((.ref (bd 9))) ((.ref (bd 11))) ((.ref (bd 13))) ((.ref (bd 15))) ((.ref (bd 19))) ((.ref (bd 6))) ((.ref (bd 8))) ((.ref (bd 10))) ((.ref (bd 12))) ((.ref (bd 14))) ((.ref (bd 18))) ((.ref (bd 17))) ((.ref (bd 16))) ((.int 0)) ((.int 0)) ((.int 0)) ((.int 0)) ((.int 0)) ((.int 0)) ((.int 0)) ((.int 0)) ((.int 0)) ((.int 0)) ((.int 0)) ((.int 0)) ((.int 0)) ((.int 0)) ((.int 0)) ((.ref (bd 1))) ((.ref (bd 33))) ((.ref (bd 21))) ((.ref (bd 34))) ((.int 0)) ((.int 0)) ((.int 0)) ((.int 0)) ((.int 0)) ((.int 0)) ((.ref (bd 2))) ((.int 0)) ((.int 0)) ((.ref (bd 35))) ((.int 0)) ((.ref (bd 36))) ((.ref (bd 37))) ((.ref (bd 38))) ((.ref (bd 39))) ((.ref (bd 40))) ((.ref (bd 41))) ((.ref (bd 42))) ((.ref (bd 43))) ((.ref (bd 44))) ((.ref (bd 45))) ((.int 0)) ((.int 0)) ((.ref (bd 22))) ((.int 0)) ((.ref (bd 46))) ((.ref (bd 20))) ((.ref (bd 23))) (xs (1 : Int32).toNatClampNeg)) E0_blind hK hP hD hS hA [0] [] ⟨rfl, rfl, by decide, by decide, by decide⟩ rfl rfl (fun _ _ _ => trivial) dL_law_314 rfl rfl (Nat.le_of_ble_eq_true rfl) ⟨Nat.le_of_ble_eq_true rfl, Nat.le_of_ble_eq_true rfl⟩ ⟨Nat.le_of_ble_eq_true rfl, Nat.le_of_ble_eq_true rfl⟩ (fun r4 u4 H locs hw4 hP hD hS => ?_)
  have hP : va_P D vwCl [] H := hP
  have hD : va_D A [] := hD
  refine W.widen (k := 142) (n := 14416) (Nat.le_of_ble_eq_true rfl) (Nat.le_of_ble_eq_true rfl) ?_
  have hw4 : r4 = if (xs (1 : Int32).toNatClampNeg).toInt = 0 then 0 else -1 := hw4
  refine lv_icmp_eq (tgt := 1244) hx hb dL_law_317 (by decide) (fun _ => ?_) (fun h => absurd (hw2.trans hw4.symm) h)
  exact law_tail l C0 hS (lv_sub hl [0, 3] rfl)
theorem dL_law_322 : decode cL_law 322 = .ok (.aload_n 1, 1) := by decide +kernel
theorem dL_law_323 : decode cL_law 323 = .ok (.aload_n 0, 1) := by decide +kernel
theorem dL_law_324 : decode cL_law 324 = .ok (.iload_n 3, 1) := by decide +kernel
theorem dL_law_325 : decode cL_law 325 = .ok (.iconst 1, 1) := by decide +kernel
theorem dL_law_326 : decode cL_law 326 = .ok (.iadd, 1) := by decide +kernel
theorem dL_law_327 : decode cL_law 327 = .ok (.iaload, 1) := by decide +kernel
theorem dL_law_328 : decode cL_law 328 = .ok (.aload_n 0, 1) := by decide +kernel
theorem dL_law_329 : decode cL_law 329 = .ok (.iload_n 3, 1) := by decide +kernel
theorem dL_law_330 : decode cL_law 330 = .ok (.iconst 2, 1) := by decide +kernel
theorem dL_law_331 : decode cL_law 331 = .ok (.iadd, 1) := by decide +kernel
theorem dL_law_332 : decode cL_law 332 = .ok (.iaload, 1) := by decide +kernel
theorem dL_law_333 : decode cL_law 333 = .ok (.invokevirtual 32, 3) := by decide +kernel
theorem m_945 : (Cond.methodLink RL 32 yX11_cliff) ∈ gT := gm 945 (by decide +kernel) (by decide +kernel)
theorem m_946 : (Cond.instanceMethod yX11_cliff) ∈ gT := gm 946 (by decide +kernel) (by decide +kernel)
theorem m_947 : (Cond.selects RX11 yX11_cliff yX11_cliff) ∈ gT := gm 947 (by decide +kernel) (by decide +kernel)
theorem m_948 : (Cond.code yX11_cliff cX11_cliff 3 (some .int)) ∈ gT := gm 948 (by decide +kernel) (by decide +kernel)
theorem k_L_32 : xV RL RX11 32 yX11_cliff cX11_cliff 3 (some .int) 2 := ⟨⟨m_945, m_946, m_947, m_130, m_948⟩, rfl, by decide, by decide, by decide +kernel⟩
theorem dL_law_336 : decode cL_law 336 = .ok (.aload_n 2, 1) := by decide +kernel
theorem dL_law_337 : decode cL_law 337 = .ok (.aload_n 0, 1) := by decide +kernel
theorem dL_law_338 : decode cL_law 338 = .ok (.iload_n 3, 1) := by decide +kernel
theorem dL_law_339 : decode cL_law 339 = .ok (.iconst 1, 1) := by decide +kernel
theorem dL_law_340 : decode cL_law 340 = .ok (.iadd, 1) := by decide +kernel
theorem dL_law_341 : decode cL_law 341 = .ok (.iaload, 1) := by decide +kernel
theorem dL_law_342 : decode cL_law 342 = .ok (.aload_n 0, 1) := by decide +kernel
theorem dL_law_343 : decode cL_law 343 = .ok (.iload_n 3, 1) := by decide +kernel
theorem dL_law_344 : decode cL_law 344 = .ok (.iconst 2, 1) := by decide +kernel
theorem dL_law_345 : decode cL_law 345 = .ok (.iadd, 1) := by decide +kernel
theorem dL_law_346 : decode cL_law 346 = .ok (.iaload, 1) := by decide +kernel
theorem dL_law_347 : decode cL_law 347 = .ok (.invokevirtual 36, 3) := by decide +kernel
theorem m_1866 : (Cond.methodLink RL 36 yX12_cliff) ∈ gT := gm 1866 (by decide +kernel) (by decide +kernel)
theorem m_1867 : (Cond.instanceMethod yX12_cliff) ∈ gT := gm 1867 (by decide +kernel) (by decide +kernel)
theorem m_1868 : (Cond.selects RX12 yX12_cliff yX12_cliff) ∈ gT := gm 1868 (by decide +kernel) (by decide +kernel)
theorem m_1869 : (Cond.code yX12_cliff cX12_cliff 3 (some .int)) ∈ gT := gm 1869 (by decide +kernel) (by decide +kernel)
theorem k_L_36 : xV RL RX12 36 yX12_cliff cX12_cliff 3 (some .int) 2 := ⟨⟨m_1866, m_1867, m_1868, m_146, m_1869⟩, rfl, by decide, by decide, by decide +kernel⟩
theorem dL_law_350 : decode cL_law 350 = .ok (.if_icmp .eq 894, 3) := by decide +kernel
set_option maxHeartbeats 2000000 in
set_option maxRecDepth 100000 in
theorem lc_cliff {p : Program} {e : Env} {s : State} {m : MethodId} {below : List Frame} {meth : Method} {c : Code} (l : Launch) {D : va_G} {cy : Nat → ClassId} {A : Nat → Prop} {b : Nat} {xs : Nat → Int32} (C : lwC p s m meth c b xs D cy A) (a0 : Nat) (ad : Nat → Nat) (vs : Nat → Value) (fx : Nat → Int32) (b0 : Nat) (bd : Nat → Nat) {H : Heap} {locs : List Loc} (hP : va_P D vwCl [(a0, .inr (11, [.ref (ad 0), .ref (ad 2), .ref (ad 3), .ref (ad 5), .ref (ad 11), .ref (ad 15), .ref (ad 17), .ref (ad 20), .ref (ad 21), .ref (ad 18), .ref (ad 22), .ref (ad 23), .ref (ad 24), .int 0])), (ad 3, .inr (4, [.ref (ad 4), vs 0, vs 1, vs 2, vs 3, vs 4, .ref (ad 27), vs 5, .ref (ad 28), .ref (ad 29), .ref (ad 30), .int 0, .int 0, .int 0, .int 0, .int 0])), (ad 4, .inl (cy 1, 4, .inl (fun _ => 0))), (b0, .inr (12, [.ref (bd 0), .int 0, .int 0, .int (-1), .int 0, .int 0, .int 0, .int 0, .int 0, .long 0, .ref (bd 24), .ref (bd 25), .ref (bd 26), .ref (bd 27), .ref (bd 28), .ref (bd 29), .ref (bd 5), .ref (bd 30), .ref (bd 31), .ref (bd 3), .ref (bd 4), .int 0, .int 0, .int 0, .int 0, .int 0, .int 0, .ref (bd 32), .ref (bd 7), .ref (bd 9), .ref (bd 11), .ref (bd 13), .ref (bd 15), .ref (bd 19), .ref (bd 6), .ref (bd 8), .ref (bd 10), .ref (bd 12), .ref (bd 14), .ref (bd 18), .ref (bd 17), .ref (bd 16), .int 0, .int 0, .int 0, .int 0, .int 0, .int 0, .int 0, .int 0, .int 0, .int 0, .int 0, .int 0, .int 0, .int 0, .int 0, .ref (bd 1), .ref (bd 33), .ref (bd 21), .ref (bd 34), .int 0, .int 0, .int 0, .int 0, .int 0, .int 0, .ref (bd 2), .int 0, .int 0, .ref (bd 35), .int 0, .ref (bd 36), .ref (bd 37), .ref (bd 38), .ref (bd 39), .ref (bd 40), .ref (bd 41), .ref (bd 42), .ref (bd 43), .ref (bd 44), .ref (bd 45), .int 0, .int 0, .ref (bd 22), .int 0, .ref (bd 46), .ref (bd 20), .ref (bd 23)]))] H) (hD : va_D A [(a0, .inr (11, [.ref (ad 0), .ref (ad 2), .ref (ad 3), .ref (ad 5), .ref (ad 11), .ref (ad 15), .ref (ad 17), .ref (ad 20), .ref (ad 21), .ref (ad 18), .ref (ad 22), .ref (ad 23), .ref (ad 24), .int 0])), (ad 3, .inr (4, [.ref (ad 4), vs 0, vs 1, vs 2, vs 3, vs 4, .ref (ad 27), vs 5, .ref (ad 28), .ref (ad 29), .ref (ad 30), .int 0, .int 0, .int 0, .int 0, .int 0])), (ad 4, .inl (cy 1, 4, .inl (fun _ => 0))), (b0, .inr (12, [.ref (bd 0), .int 0, .int 0, .int (-1), .int 0, .int 0, .int 0, .int 0, .int 0, .long 0, .ref (bd 24), .ref (bd 25), .ref (bd 26), .ref (bd 27), .ref (bd 28), .ref (bd 29), .ref (bd 5), .ref (bd 30), .ref (bd 31), .ref (bd 3), .ref (bd 4), .int 0, .int 0, .int 0, .int 0, .int 0, .int 0, .ref (bd 32), .ref (bd 7), .ref (bd 9), .ref (bd 11), .ref (bd 13), .ref (bd 15), .ref (bd 19), .ref (bd 6), .ref (bd 8), .ref (bd 10), .ref (bd 12), .ref (bd 14), .ref (bd 18), .ref (bd 17), .ref (bd 16), .int 0, .int 0, .int 0, .int 0, .int 0, .int 0, .int 0, .int 0, .int 0, .int 0, .int 0, .int 0, .int 0, .int 0, .int 0, .ref (bd 1), .ref (bd 33), .ref (bd 21), .ref (bd 34), .int 0, .int 0, .int 0, .int 0, .int 0, .int 0, .ref (bd 2), .int 0, .int 0, .ref (bd 35), .int 0, .ref (bd 36), .ref (bd 37), .ref (bd 38), .ref (bd 39), .ref (bd 40), .ref (bd 41), .ref (bd 42), .ref (bd 43), .ref (bd 44), .ref (bd 45), .int 0, .int 0, .ref (bd 22), .int 0, .ref (bd 46), .ref (bd 20), .ref (bd 23)]))]) (hS : va_S A s.heap H locs) {ls : Array Slot} (hl : lv_has ls 4 [(3, .int 0), (2, .ref b0), (1, .ref a0), (0, .ref b)]) : W p l e room_1 s m #[Value.ref b] below meth c H locs 142 14416 (lw_Z below #[Value.ref b] s) (F0 m 322 ls []) := by
  have C0 := C
  obtain ⟨hx, hb, hr, hml, hown, hg, hlocks, hX, hbl, hK, hA, hAr, hbA⟩ := C
  refine lv_aload_n hx hb dL_law_322 rfl (lv_at hl 2 rfl) ?_
  refine lv_aload_n hx hb dL_law_323 rfl (lv_at hl 3 rfl) ?_
  refine lv_iload_n hx hb dL_law_324 rfl (lv_at hl 0 rfl) ?_
  refine lv_iconst (v := 1) hx hb dL_law_325 (by decide) ?_
  refine lv_iadd hx hb dL_law_326 ?_
  refine lv_topi (fun y_1 hy_1 => ?_)
  obtain rfl : y_1 = 1 := hy_1.trans (by decide +kernel)
  refine va_sld hx hb hX hbl hbA hS (by unfold vp_in; decide) dL_law_327 ?_
  refine lv_aload_n hx hb dL_law_328 rfl (lv_at hl 3 rfl) ?_
  refine lv_iload_n hx hb dL_law_329 rfl (lv_at hl 0 rfl) ?_
  refine lv_iconst (v := 2) hx hb dL_law_330 (by decide) ?_
  refine lv_iadd hx hb dL_law_331 ?_
  refine lv_topi (fun y_2 hy_2 => ?_)
  obtain rfl : y_2 = 2 := hy_2.trans (by decide +kernel)
  refine va_sld hx hb hX hbl hbA hS (by unfold vp_in; decide) dL_law_332 ?_
  refine x_callVi (q := (RX11, TX11, 14)) (ci := 11) (q0 := 0) (wr := [(b0, .inr (12, [.ref (bd 0), .int 0, .int 0, .int (-1), .int 0, .int 0, .int 0, .int 0, .int 0, .long 0, .ref (bd 24), .ref (bd 25), .ref (bd 26), .ref (bd 27), .ref (bd 28), .ref (bd 29), .ref (bd 5), .ref (bd 30), .ref (bd 31), .ref (bd 3), .ref (bd 4), .int 0, .int 0, .int 0, .int 0, .int 0, .int 0, .ref (bd 32), .ref (bd 7), .ref (bd 9), .ref (bd 11), .ref (bd 13), .ref (bd 15), .ref (bd 19), .ref (bd 6), .ref (bd 8), .ref (bd 10), .ref (bd 12), .ref (bd 14), .ref (bd 18), .ref (bd 17), .ref (bd 16), .int 0, .int 0, .int 0, .int 0, .int 0, .int 0, .int 0, .int 0, .int 0, .int 0, .int 0, .int 0, .int 0, .int 0, .int 0, .ref (bd 1), .ref (bd 33), .ref (bd 21), .ref (bd 34), .int 0, .int 0, .int 0, .int 0, .int 0, .int 0, .ref (bd 2), .int 0, .int 0, .ref (bd 35), .int 0, .ref (bd 36), .ref (bd 37), .ref (bd 38), .ref (bd 39), .ref (bd 40), .ref (bd 41), .ref (bd 42), .ref (bd 43), .ref (bd 44), .ref (bd 45), .int 0, .int 0, .ref (bd 22), .int 0, .ref (bd 46), .ref (bd 20), .ref (bd 23)]))]) (rest := []) ⟨hx, hb, hml, hown, hg, hl.1⟩ k_L_32 (t_cliff l D cy a0 ((.ref (ad 0))) ((.ref (ad 2))) ((.ref (ad 5))) ((.ref (ad 11))) ((.ref (ad 15))) ((.ref (ad 17))) ((.ref (ad 20))) ((.ref (ad 21))) ((.ref (ad 18))) ((.ref (ad 22))) ((.ref (ad 23))) ((.ref (ad 24))) ((.int 0)) (ad 3) (ad 4) (vs 0) (vs 1) (vs 2) (vs 3) (vs 4) ((.ref (ad 27))) (vs 5) ((.ref (ad 28))) ((.ref (ad 29))) ((.ref (ad 30))) ((.int 0)) ((.int 0)) ((.int 0)) ((.int 0)) ((.int 0)) (xs (1 : Int32).toNatClampNeg) (xs (2 : Int32).toNatClampNeg)) E0_blind hK hP hD hS hA [0, 1, 2] [3] ⟨rfl, rfl, by decide, by decide, by decide⟩ rfl rfl (fun _ _ _ => trivial) dL_law_333 rfl rfl (Nat.le_of_ble_eq_true rfl) ⟨Nat.le_of_ble_eq_true rfl, Nat.le_of_ble_eq_true rfl⟩ ⟨Nat.le_of_ble_eq_true rfl, Nat.le_of_ble_eq_true rfl⟩ (fun r3 u3 H locs hw3 hP hD hS => ?_)
  have hP : va_P D vwCl [(b0, .inr (12, [.ref (bd 0), .int 0, .int 0, .int (-1), .int 0, .int 0, .int 0, .int 0, .int 0, .long 0, .ref (bd 24), .ref (bd 25), .ref (bd 26), .ref (bd 27), .ref (bd 28), .ref (bd 29), .ref (bd 5), .ref (bd 30), .ref (bd 31), .ref (bd 3), .ref (bd 4), .int 0, .int 0, .int 0, .int 0, .int 0, .int 0, .ref (bd 32), .ref (bd 7), .ref (bd 9), .ref (bd 11), .ref (bd 13), .ref (bd 15), .ref (bd 19), .ref (bd 6), .ref (bd 8), .ref (bd 10), .ref (bd 12), .ref (bd 14), .ref (bd 18), .ref (bd 17), .ref (bd 16), .int 0, .int 0, .int 0, .int 0, .int 0, .int 0, .int 0, .int 0, .int 0, .int 0, .int 0, .int 0, .int 0, .int 0, .int 0, .ref (bd 1), .ref (bd 33), .ref (bd 21), .ref (bd 34), .int 0, .int 0, .int 0, .int 0, .int 0, .int 0, .ref (bd 2), .int 0, .int 0, .ref (bd 35), .int 0, .ref (bd 36), .ref (bd 37), .ref (bd 38), .ref (bd 39), .ref (bd 40), .ref (bd 41), .ref (bd 42), .ref (bd 43), .ref (bd 44), .ref (bd 45), .int 0, .int 0, .ref (bd 22), .int 0, .ref (bd 46), .ref (bd 20), .ref (bd 23)]))] H := hP
  have hD : va_D A [(b0, .inr (12, [.ref (bd 0), .int 0, .int 0, .int (-1), .int 0, .int 0, .int 0, .int 0, .int 0, .long 0, .ref (bd 24), .ref (bd 25), .ref (bd 26), .ref (bd 27), .ref (bd 28), .ref (bd 29), .ref (bd 5), .ref (bd 30), .ref (bd 31), .ref (bd 3), .ref (bd 4), .int 0, .int 0, .int 0, .int 0, .int 0, .int 0, .ref (bd 32), .ref (bd 7), .ref (bd 9), .ref (bd 11), .ref (bd 13), .ref (bd 15), .ref (bd 19), .ref (bd 6), .ref (bd 8), .ref (bd 10), .ref (bd 12), .ref (bd 14), .ref (bd 18), .ref (bd 17), .ref (bd 16), .int 0, .int 0, .int 0, .int 0, .int 0, .int 0, .int 0, .int 0, .int 0, .int 0, .int 0, .int 0, .int 0, .int 0, .int 0, .ref (bd 1), .ref (bd 33), .ref (bd 21), .ref (bd 34), .int 0, .int 0, .int 0, .int 0, .int 0, .int 0, .ref (bd 2), .int 0, .int 0, .ref (bd 35), .int 0, .ref (bd 36), .ref (bd 37), .ref (bd 38), .ref (bd 39), .ref (bd 40), .ref (bd 41), .ref (bd 42), .ref (bd 43), .ref (bd 44), .ref (bd 45), .int 0, .int 0, .ref (bd 22), .int 0, .ref (bd 46), .ref (bd 20), .ref (bd 23)]))] := hD
  refine W.widen (k := 142) (n := 14416) (Nat.le_of_ble_eq_true rfl) (Nat.le_of_ble_eq_true rfl) ?_
  have hw3 : r3 = -1 := hw3
  refine lv_aload_n hx hb dL_law_336 rfl (lv_at hl 1 rfl) ?_
  refine lv_aload_n hx hb dL_law_337 rfl (lv_at hl 3 rfl) ?_
  refine lv_iload_n hx hb dL_law_338 rfl (lv_at hl 0 rfl) ?_
  refine lv_iconst (v := 1) hx hb dL_law_339 (by decide) ?_
  refine lv_iadd hx hb dL_law_340 ?_
  refine lv_topi (fun y_4 hy_4 => ?_)
  obtain rfl : y_4 = 1 := hy_4.trans (by decide +kernel)
  refine va_sld hx hb hX hbl hbA hS (by unfold vp_in; decide) dL_law_341 ?_
  refine lv_aload_n hx hb dL_law_342 rfl (lv_at hl 3 rfl) ?_
  refine lv_iload_n hx hb dL_law_343 rfl (lv_at hl 0 rfl) ?_
  refine lv_iconst (v := 2) hx hb dL_law_344 (by decide) ?_
  refine lv_iadd hx hb dL_law_345 ?_
  refine lv_topi (fun y_5 hy_5 => ?_)
  obtain rfl : y_5 = 2 := hy_5.trans (by decide +kernel)
  refine va_sld hx hb hX hbl hbA hS (by unfold vp_in; decide) dL_law_346 ?_
  refine x_callVi (q := (RX12, TX12, 89)) (ci := 12) (q0 := 0) (wr := []) (rest := [.int r3]) ⟨hx, hb, hml, hown, hg, hl.1⟩ k_L_36 (m_cliff l D cy b0 ((.ref (bd 0))) ((.int 0)) ((.int 0)) ((.int (-1))) ((.int 0)) ((.int 0)) ((.int 0)) ((.int 0)) ((.int 0)) ((.long 0)) ((.ref (bd 24))) ((.ref (bd 25))) ((.ref (bd 26))) ((.ref (bd 27))) ((.ref (bd 28))) ((.ref (bd 29))) ((.ref (bd 5))) ((.ref (bd 30))) ((.ref (bd 31))) ((.ref (bd 3))) ((.ref (bd 4))) ((.int 0)) ((.int 0)) ((.int 0)) ((.int 0)) ((.int 0)) ((.int 0)) ((.ref (bd 32))) ((.ref (bd 7))) ((.ref (bd 9))) ((.ref (bd 11))) ((.ref (bd 13))) ((.ref (bd 15))) ((.ref (bd 19))) ((.ref (bd 6))) ((.ref (bd 8))) ((.ref (bd 10))) ((.ref (bd 12))) ((.ref (bd 14))) ((.ref (bd 18))) ((.ref (bd 17))) ((.ref (bd 16))) ((.int 0)) ((.int 0)) ((.int 0)) ((.int 0)) ((.int 0)) ((.int 0)) ((.int 0)) ((.int 0)) ((.int 0)) ((.int 0)) ((.int 0)) ((.ref (bd 1))) ((.ref (bd 33))) ((.ref (bd 21))) ((.ref (bd 34))) ((.int 0)) ((.int 0)) ((.int 0)) ((.int 0)) ((.int 0)) ((.int 0)) ((.ref (bd 2))) ((.int 0)) ((.int 0)) ((.ref (bd 35))) ((.int 0)) ((.ref (bd 36))) ((.ref (bd 37))) ((.ref (bd 38))) ((.ref (bd 39))) ((.ref (bd 40))) ((.ref (bd 41))) ((.ref (bd 42))) ((.ref (bd 43))) ((.ref (bd 44))) ((.ref (bd 45))) ((.int 0)) ((.int 0)) ((.ref (bd 22))) ((.int 0)) ((.ref (bd 46))) ((.ref (bd 20))) ((.ref (bd 23))) (xs (1 : Int32).toNatClampNeg) (xs (2 : Int32).toNatClampNeg)) E0_blind hK hP hD hS hA [0] [] ⟨rfl, rfl, by decide, by decide, by decide⟩ rfl rfl (fun _ _ _ => trivial) dL_law_347 rfl rfl (Nat.le_of_ble_eq_true rfl) ⟨Nat.le_of_ble_eq_true rfl, Nat.le_of_ble_eq_true rfl⟩ ⟨Nat.le_of_ble_eq_true rfl, Nat.le_of_ble_eq_true rfl⟩ (fun r6 u6 H locs hw6 hP hD hS => ?_)
  have hP : va_P D vwCl [] H := hP
  have hD : va_D A [] := hD
  refine W.widen (k := 142) (n := 14416) (Nat.le_of_ble_eq_true rfl) (Nat.le_of_ble_eq_true rfl) ?_
  have hw6 : r6 = -1 := hw6
  refine lv_icmp_eq (tgt := 1244) hx hb dL_law_350 (by decide) (fun _ => ?_) (fun h => absurd (hw3.trans hw6.symm) h)
  exact law_tail l C0 hS (lv_sub hl [0, 3] rfl)
theorem dL_law_355 : decode cL_law 355 = .ok (.aload_n 1, 1) := by decide +kernel
theorem dL_law_356 : decode cL_law 356 = .ok (.aload_n 0, 1) := by decide +kernel
theorem dL_law_357 : decode cL_law 357 = .ok (.iload_n 3, 1) := by decide +kernel
theorem dL_law_358 : decode cL_law 358 = .ok (.iconst 1, 1) := by decide +kernel
theorem dL_law_359 : decode cL_law 359 = .ok (.iadd, 1) := by decide +kernel
theorem dL_law_360 : decode cL_law 360 = .ok (.iaload, 1) := by decide +kernel
theorem dL_law_361 : decode cL_law 361 = .ok (.aload_n 0, 1) := by decide +kernel
theorem dL_law_362 : decode cL_law 362 = .ok (.iload_n 3, 1) := by decide +kernel
theorem dL_law_363 : decode cL_law 363 = .ok (.iconst 2, 1) := by decide +kernel
theorem dL_law_364 : decode cL_law 364 = .ok (.iadd, 1) := by decide +kernel
theorem dL_law_365 : decode cL_law 365 = .ok (.iaload, 1) := by decide +kernel
theorem dL_law_366 : decode cL_law 366 = .ok (.invokevirtual 37, 3) := by decide +kernel
theorem m_953 : (Cond.methodLink RL 37 yX11_man) ∈ gT := gm 953 (by decide +kernel) (by decide +kernel)
theorem m_954 : (Cond.instanceMethod yX11_man) ∈ gT := gm 954 (by decide +kernel) (by decide +kernel)
theorem m_955 : (Cond.selects RX11 yX11_man yX11_man) ∈ gT := gm 955 (by decide +kernel) (by decide +kernel)
theorem m_956 : (Cond.code yX11_man cX11_man 3 (some .int)) ∈ gT := gm 956 (by decide +kernel) (by decide +kernel)
theorem k_L_37 : xV RL RX11 37 yX11_man cX11_man 3 (some .int) 2 := ⟨⟨m_953, m_954, m_955, m_130, m_956⟩, rfl, by decide, by decide, by decide +kernel⟩
theorem dL_law_369 : decode cL_law 369 = .ok (.aload_n 2, 1) := by decide +kernel
theorem dL_law_370 : decode cL_law 370 = .ok (.aload_n 0, 1) := by decide +kernel
theorem dL_law_371 : decode cL_law 371 = .ok (.iload_n 3, 1) := by decide +kernel
theorem dL_law_372 : decode cL_law 372 = .ok (.iconst 1, 1) := by decide +kernel
theorem dL_law_373 : decode cL_law 373 = .ok (.iadd, 1) := by decide +kernel
theorem dL_law_374 : decode cL_law 374 = .ok (.iaload, 1) := by decide +kernel
theorem dL_law_375 : decode cL_law 375 = .ok (.aload_n 0, 1) := by decide +kernel
theorem dL_law_376 : decode cL_law 376 = .ok (.iload_n 3, 1) := by decide +kernel
theorem dL_law_377 : decode cL_law 377 = .ok (.iconst 2, 1) := by decide +kernel
theorem dL_law_378 : decode cL_law 378 = .ok (.iadd, 1) := by decide +kernel
theorem dL_law_379 : decode cL_law 379 = .ok (.iaload, 1) := by decide +kernel
theorem dL_law_380 : decode cL_law 380 = .ok (.invokevirtual 40, 3) := by decide +kernel
theorem m_1877 : (Cond.methodLink RL 40 yX12_man) ∈ gT := gm 1877 (by decide +kernel) (by decide +kernel)
theorem m_1878 : (Cond.instanceMethod yX12_man) ∈ gT := gm 1878 (by decide +kernel) (by decide +kernel)
theorem m_1879 : (Cond.selects RX12 yX12_man yX12_man) ∈ gT := gm 1879 (by decide +kernel) (by decide +kernel)
theorem m_1880 : (Cond.code yX12_man cX12_man 3 (some .int)) ∈ gT := gm 1880 (by decide +kernel) (by decide +kernel)
theorem k_L_40 : xV RL RX12 40 yX12_man cX12_man 3 (some .int) 2 := ⟨⟨m_1877, m_1878, m_1879, m_146, m_1880⟩, rfl, by decide, by decide, by decide +kernel⟩
theorem dL_law_383 : decode cL_law 383 = .ok (.if_icmp .eq 861, 3) := by decide +kernel
set_option maxHeartbeats 2000000 in
set_option maxRecDepth 100000 in
theorem lc_man {p : Program} {e : Env} {s : State} {m : MethodId} {below : List Frame} {meth : Method} {c : Code} (l : Launch) {D : va_G} {cy : Nat → ClassId} {A : Nat → Prop} {b : Nat} {xs : Nat → Int32} (C : lwC p s m meth c b xs D cy A) (a0 : Nat) (ad : Nat → Nat) (vs : Nat → Value) (fx : Nat → Int32) (b0 : Nat) (bd : Nat → Nat) {H : Heap} {locs : List Loc} (hP : va_P D vwCl [(a0, .inr (11, [.ref (ad 0), .ref (ad 2), .ref (ad 3), .ref (ad 5), .ref (ad 11), .ref (ad 15), .ref (ad 17), .ref (ad 20), .ref (ad 21), .ref (ad 18), .ref (ad 22), .ref (ad 23), .ref (ad 24), .int 0])), (ad 3, .inr (4, [.ref (ad 4), vs 0, vs 1, vs 2, vs 3, vs 4, .ref (ad 27), vs 5, .ref (ad 28), .ref (ad 29), .ref (ad 30), .int 0, .int 0, .int 0, .int 0, .int 0])), (ad 4, .inl (cy 1, 4, .inl (fun _ => 0))), (b0, .inr (12, [.ref (bd 0), .int 0, .int 0, .int (-1), .int 0, .int 0, .int 0, .int 0, .int 0, .long 0, .ref (bd 24), .ref (bd 25), .ref (bd 26), .ref (bd 27), .ref (bd 28), .ref (bd 29), .ref (bd 5), .ref (bd 30), .ref (bd 31), .ref (bd 3), .ref (bd 4), .int 0, .int 0, .int 0, .int 0, .int 0, .int 0, .ref (bd 32), .ref (bd 7), .ref (bd 9), .ref (bd 11), .ref (bd 13), .ref (bd 15), .ref (bd 19), .ref (bd 6), .ref (bd 8), .ref (bd 10), .ref (bd 12), .ref (bd 14), .ref (bd 18), .ref (bd 17), .ref (bd 16), .int 0, .int 0, .int 0, .int 0, .int 0, .int 0, .int 0, .int 0, .int 0, .int 0, .int 0, .int 0, .int 0, .int 0, .int 0, .ref (bd 1), .ref (bd 33), .ref (bd 21), .ref (bd 34), .int 0, .int 0, .int 0, .int 0, .int 0, .int 0, .ref (bd 2), .int 0, .int 0, .ref (bd 35), .int 0, .ref (bd 36), .ref (bd 37), .ref (bd 38), .ref (bd 39), .ref (bd 40), .ref (bd 41), .ref (bd 42), .ref (bd 43), .ref (bd 44), .ref (bd 45), .int 0, .int 0, .ref (bd 22), .int 0, .ref (bd 46), .ref (bd 20), .ref (bd 23)]))] H) (hD : va_D A [(a0, .inr (11, [.ref (ad 0), .ref (ad 2), .ref (ad 3), .ref (ad 5), .ref (ad 11), .ref (ad 15), .ref (ad 17), .ref (ad 20), .ref (ad 21), .ref (ad 18), .ref (ad 22), .ref (ad 23), .ref (ad 24), .int 0])), (ad 3, .inr (4, [.ref (ad 4), vs 0, vs 1, vs 2, vs 3, vs 4, .ref (ad 27), vs 5, .ref (ad 28), .ref (ad 29), .ref (ad 30), .int 0, .int 0, .int 0, .int 0, .int 0])), (ad 4, .inl (cy 1, 4, .inl (fun _ => 0))), (b0, .inr (12, [.ref (bd 0), .int 0, .int 0, .int (-1), .int 0, .int 0, .int 0, .int 0, .int 0, .long 0, .ref (bd 24), .ref (bd 25), .ref (bd 26), .ref (bd 27), .ref (bd 28), .ref (bd 29), .ref (bd 5), .ref (bd 30), .ref (bd 31), .ref (bd 3), .ref (bd 4), .int 0, .int 0, .int 0, .int 0, .int 0, .int 0, .ref (bd 32), .ref (bd 7), .ref (bd 9), .ref (bd 11), .ref (bd 13), .ref (bd 15), .ref (bd 19), .ref (bd 6), .ref (bd 8), .ref (bd 10), .ref (bd 12), .ref (bd 14), .ref (bd 18), .ref (bd 17), .ref (bd 16), .int 0, .int 0, .int 0, .int 0, .int 0, .int 0, .int 0, .int 0, .int 0, .int 0, .int 0, .int 0, .int 0, .int 0, .int 0, .ref (bd 1), .ref (bd 33), .ref (bd 21), .ref (bd 34), .int 0, .int 0, .int 0, .int 0, .int 0, .int 0, .ref (bd 2), .int 0, .int 0, .ref (bd 35), .int 0, .ref (bd 36), .ref (bd 37), .ref (bd 38), .ref (bd 39), .ref (bd 40), .ref (bd 41), .ref (bd 42), .ref (bd 43), .ref (bd 44), .ref (bd 45), .int 0, .int 0, .ref (bd 22), .int 0, .ref (bd 46), .ref (bd 20), .ref (bd 23)]))]) (hS : va_S A s.heap H locs) {ls : Array Slot} (hl : lv_has ls 4 [(3, .int 0), (2, .ref b0), (1, .ref a0), (0, .ref b)]) : W p l e room_1 s m #[Value.ref b] below meth c H locs 142 14416 (lw_Z below #[Value.ref b] s) (F0 m 355 ls []) := by
  have C0 := C
  obtain ⟨hx, hb, hr, hml, hown, hg, hlocks, hX, hbl, hK, hA, hAr, hbA⟩ := C
  refine lv_aload_n hx hb dL_law_355 rfl (lv_at hl 2 rfl) ?_
  refine lv_aload_n hx hb dL_law_356 rfl (lv_at hl 3 rfl) ?_
  refine lv_iload_n hx hb dL_law_357 rfl (lv_at hl 0 rfl) ?_
  refine lv_iconst (v := 1) hx hb dL_law_358 (by decide) ?_
  refine lv_iadd hx hb dL_law_359 ?_
  refine lv_topi (fun y_1 hy_1 => ?_)
  obtain rfl : y_1 = 1 := hy_1.trans (by decide +kernel)
  refine va_sld hx hb hX hbl hbA hS (by unfold vp_in; decide) dL_law_360 ?_
  refine lv_aload_n hx hb dL_law_361 rfl (lv_at hl 3 rfl) ?_
  refine lv_iload_n hx hb dL_law_362 rfl (lv_at hl 0 rfl) ?_
  refine lv_iconst (v := 2) hx hb dL_law_363 (by decide) ?_
  refine lv_iadd hx hb dL_law_364 ?_
  refine lv_topi (fun y_2 hy_2 => ?_)
  obtain rfl : y_2 = 2 := hy_2.trans (by decide +kernel)
  refine va_sld hx hb hX hbl hbA hS (by unfold vp_in; decide) dL_law_365 ?_
  refine x_callVi (q := (RX11, TX11, 14)) (ci := 11) (q0 := 0) (wr := [(b0, .inr (12, [.ref (bd 0), .int 0, .int 0, .int (-1), .int 0, .int 0, .int 0, .int 0, .int 0, .long 0, .ref (bd 24), .ref (bd 25), .ref (bd 26), .ref (bd 27), .ref (bd 28), .ref (bd 29), .ref (bd 5), .ref (bd 30), .ref (bd 31), .ref (bd 3), .ref (bd 4), .int 0, .int 0, .int 0, .int 0, .int 0, .int 0, .ref (bd 32), .ref (bd 7), .ref (bd 9), .ref (bd 11), .ref (bd 13), .ref (bd 15), .ref (bd 19), .ref (bd 6), .ref (bd 8), .ref (bd 10), .ref (bd 12), .ref (bd 14), .ref (bd 18), .ref (bd 17), .ref (bd 16), .int 0, .int 0, .int 0, .int 0, .int 0, .int 0, .int 0, .int 0, .int 0, .int 0, .int 0, .int 0, .int 0, .int 0, .int 0, .ref (bd 1), .ref (bd 33), .ref (bd 21), .ref (bd 34), .int 0, .int 0, .int 0, .int 0, .int 0, .int 0, .ref (bd 2), .int 0, .int 0, .ref (bd 35), .int 0, .ref (bd 36), .ref (bd 37), .ref (bd 38), .ref (bd 39), .ref (bd 40), .ref (bd 41), .ref (bd 42), .ref (bd 43), .ref (bd 44), .ref (bd 45), .int 0, .int 0, .ref (bd 22), .int 0, .ref (bd 46), .ref (bd 20), .ref (bd 23)]))]) (rest := []) ⟨hx, hb, hml, hown, hg, hl.1⟩ k_L_37 (t_man l D cy a0 ((.ref (ad 0))) ((.ref (ad 2))) ((.ref (ad 5))) ((.ref (ad 11))) ((.ref (ad 15))) ((.ref (ad 17))) ((.ref (ad 20))) ((.ref (ad 21))) ((.ref (ad 18))) ((.ref (ad 22))) ((.ref (ad 23))) ((.ref (ad 24))) ((.int 0)) (ad 3) (ad 4) (vs 0) (vs 1) (vs 2) (vs 3) (vs 4) ((.ref (ad 27))) (vs 5) ((.ref (ad 28))) ((.ref (ad 29))) ((.ref (ad 30))) ((.int 0)) ((.int 0)) ((.int 0)) ((.int 0)) ((.int 0)) (xs (1 : Int32).toNatClampNeg) (xs (2 : Int32).toNatClampNeg)) E0_blind hK hP hD hS hA [0, 1, 2] [3] ⟨rfl, rfl, by decide, by decide, by decide⟩ rfl rfl (fun _ _ _ => trivial) dL_law_366 rfl rfl (Nat.le_of_ble_eq_true rfl) ⟨Nat.le_of_ble_eq_true rfl, Nat.le_of_ble_eq_true rfl⟩ ⟨Nat.le_of_ble_eq_true rfl, Nat.le_of_ble_eq_true rfl⟩ (fun r3 u3 H locs hw3 hP hD hS => ?_)
  have hP : va_P D vwCl [(b0, .inr (12, [.ref (bd 0), .int 0, .int 0, .int (-1), .int 0, .int 0, .int 0, .int 0, .int 0, .long 0, .ref (bd 24), .ref (bd 25), .ref (bd 26), .ref (bd 27), .ref (bd 28), .ref (bd 29), .ref (bd 5), .ref (bd 30), .ref (bd 31), .ref (bd 3), .ref (bd 4), .int 0, .int 0, .int 0, .int 0, .int 0, .int 0, .ref (bd 32), .ref (bd 7), .ref (bd 9), .ref (bd 11), .ref (bd 13), .ref (bd 15), .ref (bd 19), .ref (bd 6), .ref (bd 8), .ref (bd 10), .ref (bd 12), .ref (bd 14), .ref (bd 18), .ref (bd 17), .ref (bd 16), .int 0, .int 0, .int 0, .int 0, .int 0, .int 0, .int 0, .int 0, .int 0, .int 0, .int 0, .int 0, .int 0, .int 0, .int 0, .ref (bd 1), .ref (bd 33), .ref (bd 21), .ref (bd 34), .int 0, .int 0, .int 0, .int 0, .int 0, .int 0, .ref (bd 2), .int 0, .int 0, .ref (bd 35), .int 0, .ref (bd 36), .ref (bd 37), .ref (bd 38), .ref (bd 39), .ref (bd 40), .ref (bd 41), .ref (bd 42), .ref (bd 43), .ref (bd 44), .ref (bd 45), .int 0, .int 0, .ref (bd 22), .int 0, .ref (bd 46), .ref (bd 20), .ref (bd 23)]))] H := hP
  have hD : va_D A [(b0, .inr (12, [.ref (bd 0), .int 0, .int 0, .int (-1), .int 0, .int 0, .int 0, .int 0, .int 0, .long 0, .ref (bd 24), .ref (bd 25), .ref (bd 26), .ref (bd 27), .ref (bd 28), .ref (bd 29), .ref (bd 5), .ref (bd 30), .ref (bd 31), .ref (bd 3), .ref (bd 4), .int 0, .int 0, .int 0, .int 0, .int 0, .int 0, .ref (bd 32), .ref (bd 7), .ref (bd 9), .ref (bd 11), .ref (bd 13), .ref (bd 15), .ref (bd 19), .ref (bd 6), .ref (bd 8), .ref (bd 10), .ref (bd 12), .ref (bd 14), .ref (bd 18), .ref (bd 17), .ref (bd 16), .int 0, .int 0, .int 0, .int 0, .int 0, .int 0, .int 0, .int 0, .int 0, .int 0, .int 0, .int 0, .int 0, .int 0, .int 0, .ref (bd 1), .ref (bd 33), .ref (bd 21), .ref (bd 34), .int 0, .int 0, .int 0, .int 0, .int 0, .int 0, .ref (bd 2), .int 0, .int 0, .ref (bd 35), .int 0, .ref (bd 36), .ref (bd 37), .ref (bd 38), .ref (bd 39), .ref (bd 40), .ref (bd 41), .ref (bd 42), .ref (bd 43), .ref (bd 44), .ref (bd 45), .int 0, .int 0, .ref (bd 22), .int 0, .ref (bd 46), .ref (bd 20), .ref (bd 23)]))] := hD
  refine W.widen (k := 142) (n := 14416) (Nat.le_of_ble_eq_true rfl) (Nat.le_of_ble_eq_true rfl) ?_
  have hw3 : r3 = -1 := hw3
  refine lv_aload_n hx hb dL_law_369 rfl (lv_at hl 1 rfl) ?_
  refine lv_aload_n hx hb dL_law_370 rfl (lv_at hl 3 rfl) ?_
  refine lv_iload_n hx hb dL_law_371 rfl (lv_at hl 0 rfl) ?_
  refine lv_iconst (v := 1) hx hb dL_law_372 (by decide) ?_
  refine lv_iadd hx hb dL_law_373 ?_
  refine lv_topi (fun y_4 hy_4 => ?_)
  obtain rfl : y_4 = 1 := hy_4.trans (by decide +kernel)
  refine va_sld hx hb hX hbl hbA hS (by unfold vp_in; decide) dL_law_374 ?_
  refine lv_aload_n hx hb dL_law_375 rfl (lv_at hl 3 rfl) ?_
  refine lv_iload_n hx hb dL_law_376 rfl (lv_at hl 0 rfl) ?_
  refine lv_iconst (v := 2) hx hb dL_law_377 (by decide) ?_
  refine lv_iadd hx hb dL_law_378 ?_
  refine lv_topi (fun y_5 hy_5 => ?_)
  obtain rfl : y_5 = 2 := hy_5.trans (by decide +kernel)
  refine va_sld hx hb hX hbl hbA hS (by unfold vp_in; decide) dL_law_379 ?_
  refine x_callVi (q := (RX12, TX12, 89)) (ci := 12) (q0 := 0) (wr := []) (rest := [.int r3]) ⟨hx, hb, hml, hown, hg, hl.1⟩ k_L_40 (m_man l D cy b0 ((.ref (bd 0))) ((.int 0)) ((.int 0)) ((.int (-1))) ((.int 0)) ((.int 0)) ((.int 0)) ((.int 0)) ((.int 0)) ((.long 0)) ((.ref (bd 24))) ((.ref (bd 25))) ((.ref (bd 26))) ((.ref (bd 27))) ((.ref (bd 28))) ((.ref (bd 29))) ((.ref (bd 5))) ((.ref (bd 30))) ((.ref (bd 31))) ((.ref (bd 3))) ((.ref (bd 4))) ((.int 0)) ((.int 0)) ((.int 0)) ((.int 0)) ((.int 0)) ((.int 0)) ((.ref (bd 32))) ((.ref (bd 7))) ((.ref (bd 9))) ((.ref (bd 11))) ((.ref (bd 13))) ((.ref (bd 15))) ((.ref (bd 19))) ((.ref (bd 6))) ((.ref (bd 8))) ((.ref (bd 10))) ((.ref (bd 12))) ((.ref (bd 14))) ((.ref (bd 18))) ((.ref (bd 17))) ((.ref (bd 16))) ((.int 0)) ((.int 0)) ((.int 0)) ((.int 0)) ((.int 0)) ((.int 0)) ((.int 0)) ((.int 0)) ((.int 0)) ((.int 0)) ((.int 0)) ((.ref (bd 1))) ((.ref (bd 33))) ((.ref (bd 21))) ((.ref (bd 34))) ((.int 0)) ((.int 0)) ((.int 0)) ((.int 0)) ((.int 0)) ((.int 0)) ((.ref (bd 2))) ((.int 0)) ((.int 0)) ((.ref (bd 35))) ((.int 0)) ((.ref (bd 36))) ((.ref (bd 37))) ((.ref (bd 38))) ((.ref (bd 39))) ((.ref (bd 40))) ((.ref (bd 41))) ((.ref (bd 42))) ((.ref (bd 43))) ((.ref (bd 44))) ((.ref (bd 45))) ((.int 0)) ((.int 0)) ((.ref (bd 22))) ((.int 0)) ((.ref (bd 46))) ((.ref (bd 20))) ((.ref (bd 23))) (xs (1 : Int32).toNatClampNeg) (xs (2 : Int32).toNatClampNeg)) E0_blind hK hP hD hS hA [0] [] ⟨rfl, rfl, by decide, by decide, by decide⟩ rfl rfl (fun _ _ _ => trivial) dL_law_380 rfl rfl (Nat.le_of_ble_eq_true rfl) ⟨Nat.le_of_ble_eq_true rfl, Nat.le_of_ble_eq_true rfl⟩ ⟨Nat.le_of_ble_eq_true rfl, Nat.le_of_ble_eq_true rfl⟩ (fun r6 u6 H locs hw6 hP hD hS => ?_)
  have hP : va_P D vwCl [] H := hP
  have hD : va_D A [] := hD
  refine W.widen (k := 142) (n := 14416) (Nat.le_of_ble_eq_true rfl) (Nat.le_of_ble_eq_true rfl) ?_
  have hw6 : r6 = -1 := hw6
  refine lv_icmp_eq (tgt := 1244) hx hb dL_law_383 (by decide) (fun _ => ?_) (fun h => absurd (hw3.trans hw6.symm) h)
  exact law_tail l C0 hS (lv_sub hl [0, 3] rfl)
theorem dL_law_388 : decode cL_law 388 = .ok (.aload_n 1, 1) := by decide +kernel
theorem dL_law_389 : decode cL_law 389 = .ok (.aload_n 0, 1) := by decide +kernel
theorem dL_law_390 : decode cL_law 390 = .ok (.iload_n 3, 1) := by decide +kernel
theorem dL_law_391 : decode cL_law 391 = .ok (.iconst 1, 1) := by decide +kernel
theorem dL_law_392 : decode cL_law 392 = .ok (.iadd, 1) := by decide +kernel
theorem dL_law_393 : decode cL_law 393 = .ok (.iaload, 1) := by decide +kernel
theorem dL_law_394 : decode cL_law 394 = .ok (.aload_n 0, 1) := by decide +kernel
theorem dL_law_395 : decode cL_law 395 = .ok (.iload_n 3, 1) := by decide +kernel
theorem dL_law_396 : decode cL_law 396 = .ok (.iconst 2, 1) := by decide +kernel
theorem dL_law_397 : decode cL_law 397 = .ok (.iadd, 1) := by decide +kernel
theorem dL_law_398 : decode cL_law 398 = .ok (.iaload, 1) := by decide +kernel
theorem dL_law_399 : decode cL_law 399 = .ok (.invokevirtual 41, 3) := by decide +kernel
theorem m_961 : (Cond.methodLink RL 41 yX11_leads) ∈ gT := gm 961 (by decide +kernel) (by decide +kernel)
theorem m_962 : (Cond.instanceMethod yX11_leads) ∈ gT := gm 962 (by decide +kernel) (by decide +kernel)
theorem m_963 : (Cond.selects RX11 yX11_leads yX11_leads) ∈ gT := gm 963 (by decide +kernel) (by decide +kernel)
theorem m_964 : (Cond.code yX11_leads cX11_leads 3 (some .int)) ∈ gT := gm 964 (by decide +kernel) (by decide +kernel)
theorem k_L_41 : xV RL RX11 41 yX11_leads cX11_leads 3 (some .int) 2 := ⟨⟨m_961, m_962, m_963, m_130, m_964⟩, rfl, by decide, by decide, by decide +kernel⟩
theorem dL_law_402 : decode cL_law 402 = .ok (.aload_n 2, 1) := by decide +kernel
theorem dL_law_403 : decode cL_law 403 = .ok (.aload_n 0, 1) := by decide +kernel
theorem dL_law_404 : decode cL_law 404 = .ok (.iload_n 3, 1) := by decide +kernel
theorem dL_law_405 : decode cL_law 405 = .ok (.iconst 1, 1) := by decide +kernel
theorem dL_law_406 : decode cL_law 406 = .ok (.iadd, 1) := by decide +kernel
theorem dL_law_407 : decode cL_law 407 = .ok (.iaload, 1) := by decide +kernel
theorem dL_law_408 : decode cL_law 408 = .ok (.aload_n 0, 1) := by decide +kernel
theorem dL_law_409 : decode cL_law 409 = .ok (.iload_n 3, 1) := by decide +kernel
theorem dL_law_410 : decode cL_law 410 = .ok (.iconst 2, 1) := by decide +kernel
theorem dL_law_411 : decode cL_law 411 = .ok (.iadd, 1) := by decide +kernel
theorem dL_law_412 : decode cL_law 412 = .ok (.iaload, 1) := by decide +kernel
theorem dL_law_413 : decode cL_law 413 = .ok (.invokevirtual 44, 3) := by decide +kernel
theorem m_1885 : (Cond.methodLink RL 44 yX12_leads) ∈ gT := gm 1885 (by decide +kernel) (by decide +kernel)
theorem m_1886 : (Cond.instanceMethod yX12_leads) ∈ gT := gm 1886 (by decide +kernel) (by decide +kernel)
theorem m_1887 : (Cond.selects RX12 yX12_leads yX12_leads) ∈ gT := gm 1887 (by decide +kernel) (by decide +kernel)
theorem m_1888 : (Cond.code yX12_leads cX12_leads 3 (some .int)) ∈ gT := gm 1888 (by decide +kernel) (by decide +kernel)
theorem k_L_44 : xV RL RX12 44 yX12_leads cX12_leads 3 (some .int) 2 := ⟨⟨m_1885, m_1886, m_1887, m_146, m_1888⟩, rfl, by decide, by decide, by decide +kernel⟩
theorem dL_law_416 : decode cL_law 416 = .ok (.if_icmp .eq 828, 3) := by decide +kernel
set_option maxHeartbeats 2000000 in
set_option maxRecDepth 100000 in
theorem lc_leads {p : Program} {e : Env} {s : State} {m : MethodId} {below : List Frame} {meth : Method} {c : Code} (l : Launch) {D : va_G} {cy : Nat → ClassId} {A : Nat → Prop} {b : Nat} {xs : Nat → Int32} (C : lwC p s m meth c b xs D cy A) (a0 : Nat) (ad : Nat → Nat) (vs : Nat → Value) (fx : Nat → Int32) (b0 : Nat) (bd : Nat → Nat) {H : Heap} {locs : List Loc} (hP : va_P D vwCl [(a0, .inr (11, [.ref (ad 0), .ref (ad 2), .ref (ad 3), .ref (ad 5), .ref (ad 11), .ref (ad 15), .ref (ad 17), .ref (ad 20), .ref (ad 21), .ref (ad 18), .ref (ad 22), .ref (ad 23), .ref (ad 24), .int 0])), (ad 3, .inr (4, [.ref (ad 4), vs 0, vs 1, vs 2, vs 3, vs 4, .ref (ad 27), vs 5, .ref (ad 28), .ref (ad 29), .ref (ad 30), .int 0, .int 0, .int 0, .int 0, .int 0])), (ad 4, .inl (cy 1, 4, .inl (fun _ => 0))), (b0, .inr (12, [.ref (bd 0), .int 0, .int 0, .int (-1), .int 0, .int 0, .int 0, .int 0, .int 0, .long 0, .ref (bd 24), .ref (bd 25), .ref (bd 26), .ref (bd 27), .ref (bd 28), .ref (bd 29), .ref (bd 5), .ref (bd 30), .ref (bd 31), .ref (bd 3), .ref (bd 4), .int 0, .int 0, .int 0, .int 0, .int 0, .int 0, .ref (bd 32), .ref (bd 7), .ref (bd 9), .ref (bd 11), .ref (bd 13), .ref (bd 15), .ref (bd 19), .ref (bd 6), .ref (bd 8), .ref (bd 10), .ref (bd 12), .ref (bd 14), .ref (bd 18), .ref (bd 17), .ref (bd 16), .int 0, .int 0, .int 0, .int 0, .int 0, .int 0, .int 0, .int 0, .int 0, .int 0, .int 0, .int 0, .int 0, .int 0, .int 0, .ref (bd 1), .ref (bd 33), .ref (bd 21), .ref (bd 34), .int 0, .int 0, .int 0, .int 0, .int 0, .int 0, .ref (bd 2), .int 0, .int 0, .ref (bd 35), .int 0, .ref (bd 36), .ref (bd 37), .ref (bd 38), .ref (bd 39), .ref (bd 40), .ref (bd 41), .ref (bd 42), .ref (bd 43), .ref (bd 44), .ref (bd 45), .int 0, .int 0, .ref (bd 22), .int 0, .ref (bd 46), .ref (bd 20), .ref (bd 23)]))] H) (hD : va_D A [(a0, .inr (11, [.ref (ad 0), .ref (ad 2), .ref (ad 3), .ref (ad 5), .ref (ad 11), .ref (ad 15), .ref (ad 17), .ref (ad 20), .ref (ad 21), .ref (ad 18), .ref (ad 22), .ref (ad 23), .ref (ad 24), .int 0])), (ad 3, .inr (4, [.ref (ad 4), vs 0, vs 1, vs 2, vs 3, vs 4, .ref (ad 27), vs 5, .ref (ad 28), .ref (ad 29), .ref (ad 30), .int 0, .int 0, .int 0, .int 0, .int 0])), (ad 4, .inl (cy 1, 4, .inl (fun _ => 0))), (b0, .inr (12, [.ref (bd 0), .int 0, .int 0, .int (-1), .int 0, .int 0, .int 0, .int 0, .int 0, .long 0, .ref (bd 24), .ref (bd 25), .ref (bd 26), .ref (bd 27), .ref (bd 28), .ref (bd 29), .ref (bd 5), .ref (bd 30), .ref (bd 31), .ref (bd 3), .ref (bd 4), .int 0, .int 0, .int 0, .int 0, .int 0, .int 0, .ref (bd 32), .ref (bd 7), .ref (bd 9), .ref (bd 11), .ref (bd 13), .ref (bd 15), .ref (bd 19), .ref (bd 6), .ref (bd 8), .ref (bd 10), .ref (bd 12), .ref (bd 14), .ref (bd 18), .ref (bd 17), .ref (bd 16), .int 0, .int 0, .int 0, .int 0, .int 0, .int 0, .int 0, .int 0, .int 0, .int 0, .int 0, .int 0, .int 0, .int 0, .int 0, .ref (bd 1), .ref (bd 33), .ref (bd 21), .ref (bd 34), .int 0, .int 0, .int 0, .int 0, .int 0, .int 0, .ref (bd 2), .int 0, .int 0, .ref (bd 35), .int 0, .ref (bd 36), .ref (bd 37), .ref (bd 38), .ref (bd 39), .ref (bd 40), .ref (bd 41), .ref (bd 42), .ref (bd 43), .ref (bd 44), .ref (bd 45), .int 0, .int 0, .ref (bd 22), .int 0, .ref (bd 46), .ref (bd 20), .ref (bd 23)]))]) (hS : va_S A s.heap H locs) {ls : Array Slot} (hl : lv_has ls 4 [(3, .int 0), (2, .ref b0), (1, .ref a0), (0, .ref b)]) : W p l e room_1 s m #[Value.ref b] below meth c H locs 142 14416 (lw_Z below #[Value.ref b] s) (F0 m 388 ls []) := by
  have C0 := C
  obtain ⟨hx, hb, hr, hml, hown, hg, hlocks, hX, hbl, hK, hA, hAr, hbA⟩ := C
  refine lv_aload_n hx hb dL_law_388 rfl (lv_at hl 2 rfl) ?_
  refine lv_aload_n hx hb dL_law_389 rfl (lv_at hl 3 rfl) ?_
  refine lv_iload_n hx hb dL_law_390 rfl (lv_at hl 0 rfl) ?_
  refine lv_iconst (v := 1) hx hb dL_law_391 (by decide) ?_
  refine lv_iadd hx hb dL_law_392 ?_
  refine lv_topi (fun y_1 hy_1 => ?_)
  obtain rfl : y_1 = 1 := hy_1.trans (by decide +kernel)
  refine va_sld hx hb hX hbl hbA hS (by unfold vp_in; decide) dL_law_393 ?_
  refine lv_aload_n hx hb dL_law_394 rfl (lv_at hl 3 rfl) ?_
  refine lv_iload_n hx hb dL_law_395 rfl (lv_at hl 0 rfl) ?_
  refine lv_iconst (v := 2) hx hb dL_law_396 (by decide) ?_
  refine lv_iadd hx hb dL_law_397 ?_
  refine lv_topi (fun y_2 hy_2 => ?_)
  obtain rfl : y_2 = 2 := hy_2.trans (by decide +kernel)
  refine va_sld hx hb hX hbl hbA hS (by unfold vp_in; decide) dL_law_398 ?_
  refine x_callVi (q := (RX11, TX11, 14)) (ci := 11) (q0 := 0) (wr := [(b0, .inr (12, [.ref (bd 0), .int 0, .int 0, .int (-1), .int 0, .int 0, .int 0, .int 0, .int 0, .long 0, .ref (bd 24), .ref (bd 25), .ref (bd 26), .ref (bd 27), .ref (bd 28), .ref (bd 29), .ref (bd 5), .ref (bd 30), .ref (bd 31), .ref (bd 3), .ref (bd 4), .int 0, .int 0, .int 0, .int 0, .int 0, .int 0, .ref (bd 32), .ref (bd 7), .ref (bd 9), .ref (bd 11), .ref (bd 13), .ref (bd 15), .ref (bd 19), .ref (bd 6), .ref (bd 8), .ref (bd 10), .ref (bd 12), .ref (bd 14), .ref (bd 18), .ref (bd 17), .ref (bd 16), .int 0, .int 0, .int 0, .int 0, .int 0, .int 0, .int 0, .int 0, .int 0, .int 0, .int 0, .int 0, .int 0, .int 0, .int 0, .ref (bd 1), .ref (bd 33), .ref (bd 21), .ref (bd 34), .int 0, .int 0, .int 0, .int 0, .int 0, .int 0, .ref (bd 2), .int 0, .int 0, .ref (bd 35), .int 0, .ref (bd 36), .ref (bd 37), .ref (bd 38), .ref (bd 39), .ref (bd 40), .ref (bd 41), .ref (bd 42), .ref (bd 43), .ref (bd 44), .ref (bd 45), .int 0, .int 0, .ref (bd 22), .int 0, .ref (bd 46), .ref (bd 20), .ref (bd 23)]))]) (rest := []) ⟨hx, hb, hml, hown, hg, hl.1⟩ k_L_41 (t_leads l D cy a0 ((.ref (ad 0))) ((.ref (ad 2))) ((.ref (ad 5))) ((.ref (ad 11))) ((.ref (ad 15))) ((.ref (ad 17))) ((.ref (ad 20))) ((.ref (ad 21))) ((.ref (ad 18))) ((.ref (ad 22))) ((.ref (ad 23))) ((.ref (ad 24))) ((.int 0)) (ad 3) (ad 4) (vs 0) (vs 1) (vs 2) (vs 3) (vs 4) ((.ref (ad 27))) (vs 5) ((.ref (ad 28))) ((.ref (ad 29))) ((.ref (ad 30))) ((.int 0)) ((.int 0)) ((.int 0)) ((.int 0)) ((.int 0)) (xs (1 : Int32).toNatClampNeg) (xs (2 : Int32).toNatClampNeg)) E0_blind hK hP hD hS hA [0, 1, 2] [3] ⟨rfl, rfl, by decide, by decide, by decide⟩ rfl rfl (fun _ _ _ => trivial) dL_law_399 rfl rfl (Nat.le_of_ble_eq_true rfl) ⟨Nat.le_of_ble_eq_true rfl, Nat.le_of_ble_eq_true rfl⟩ ⟨Nat.le_of_ble_eq_true rfl, Nat.le_of_ble_eq_true rfl⟩ (fun r3 u3 H locs hw3 hP hD hS => ?_)
  have hP : va_P D vwCl [(b0, .inr (12, [.ref (bd 0), .int 0, .int 0, .int (-1), .int 0, .int 0, .int 0, .int 0, .int 0, .long 0, .ref (bd 24), .ref (bd 25), .ref (bd 26), .ref (bd 27), .ref (bd 28), .ref (bd 29), .ref (bd 5), .ref (bd 30), .ref (bd 31), .ref (bd 3), .ref (bd 4), .int 0, .int 0, .int 0, .int 0, .int 0, .int 0, .ref (bd 32), .ref (bd 7), .ref (bd 9), .ref (bd 11), .ref (bd 13), .ref (bd 15), .ref (bd 19), .ref (bd 6), .ref (bd 8), .ref (bd 10), .ref (bd 12), .ref (bd 14), .ref (bd 18), .ref (bd 17), .ref (bd 16), .int 0, .int 0, .int 0, .int 0, .int 0, .int 0, .int 0, .int 0, .int 0, .int 0, .int 0, .int 0, .int 0, .int 0, .int 0, .ref (bd 1), .ref (bd 33), .ref (bd 21), .ref (bd 34), .int 0, .int 0, .int 0, .int 0, .int 0, .int 0, .ref (bd 2), .int 0, .int 0, .ref (bd 35), .int 0, .ref (bd 36), .ref (bd 37), .ref (bd 38), .ref (bd 39), .ref (bd 40), .ref (bd 41), .ref (bd 42), .ref (bd 43), .ref (bd 44), .ref (bd 45), .int 0, .int 0, .ref (bd 22), .int 0, .ref (bd 46), .ref (bd 20), .ref (bd 23)]))] H := hP
  have hD : va_D A [(b0, .inr (12, [.ref (bd 0), .int 0, .int 0, .int (-1), .int 0, .int 0, .int 0, .int 0, .int 0, .long 0, .ref (bd 24), .ref (bd 25), .ref (bd 26), .ref (bd 27), .ref (bd 28), .ref (bd 29), .ref (bd 5), .ref (bd 30), .ref (bd 31), .ref (bd 3), .ref (bd 4), .int 0, .int 0, .int 0, .int 0, .int 0, .int 0, .ref (bd 32), .ref (bd 7), .ref (bd 9), .ref (bd 11), .ref (bd 13), .ref (bd 15), .ref (bd 19), .ref (bd 6), .ref (bd 8), .ref (bd 10), .ref (bd 12), .ref (bd 14), .ref (bd 18), .ref (bd 17), .ref (bd 16), .int 0, .int 0, .int 0, .int 0, .int 0, .int 0, .int 0, .int 0, .int 0, .int 0, .int 0, .int 0, .int 0, .int 0, .int 0, .ref (bd 1), .ref (bd 33), .ref (bd 21), .ref (bd 34), .int 0, .int 0, .int 0, .int 0, .int 0, .int 0, .ref (bd 2), .int 0, .int 0, .ref (bd 35), .int 0, .ref (bd 36), .ref (bd 37), .ref (bd 38), .ref (bd 39), .ref (bd 40), .ref (bd 41), .ref (bd 42), .ref (bd 43), .ref (bd 44), .ref (bd 45), .int 0, .int 0, .ref (bd 22), .int 0, .ref (bd 46), .ref (bd 20), .ref (bd 23)]))] := hD
  refine W.widen (k := 142) (n := 14416) (Nat.le_of_ble_eq_true rfl) (Nat.le_of_ble_eq_true rfl) ?_
  have hw3 : r3 = -1 := hw3
  refine lv_aload_n hx hb dL_law_402 rfl (lv_at hl 1 rfl) ?_
  refine lv_aload_n hx hb dL_law_403 rfl (lv_at hl 3 rfl) ?_
  refine lv_iload_n hx hb dL_law_404 rfl (lv_at hl 0 rfl) ?_
  refine lv_iconst (v := 1) hx hb dL_law_405 (by decide) ?_
  refine lv_iadd hx hb dL_law_406 ?_
  refine lv_topi (fun y_4 hy_4 => ?_)
  obtain rfl : y_4 = 1 := hy_4.trans (by decide +kernel)
  refine va_sld hx hb hX hbl hbA hS (by unfold vp_in; decide) dL_law_407 ?_
  refine lv_aload_n hx hb dL_law_408 rfl (lv_at hl 3 rfl) ?_
  refine lv_iload_n hx hb dL_law_409 rfl (lv_at hl 0 rfl) ?_
  refine lv_iconst (v := 2) hx hb dL_law_410 (by decide) ?_
  refine lv_iadd hx hb dL_law_411 ?_
  refine lv_topi (fun y_5 hy_5 => ?_)
  obtain rfl : y_5 = 2 := hy_5.trans (by decide +kernel)
  refine va_sld hx hb hX hbl hbA hS (by unfold vp_in; decide) dL_law_412 ?_
  refine x_callVi (q := (RX12, TX12, 89)) (ci := 12) (q0 := 0) (wr := []) (rest := [.int r3]) ⟨hx, hb, hml, hown, hg, hl.1⟩ k_L_44 (m_leads l D cy b0 ((.ref (bd 0))) ((.int 0)) ((.int 0)) ((.int (-1))) ((.int 0)) ((.int 0)) ((.int 0)) ((.int 0)) ((.int 0)) ((.long 0)) ((.ref (bd 24))) ((.ref (bd 25))) ((.ref (bd 26))) ((.ref (bd 27))) ((.ref (bd 28))) ((.ref (bd 29))) ((.ref (bd 5))) ((.ref (bd 30))) ((.ref (bd 31))) ((.ref (bd 3))) ((.ref (bd 4))) ((.int 0)) ((.int 0)) ((.int 0)) ((.int 0)) ((.int 0)) ((.int 0)) ((.ref (bd 32))) ((.ref (bd 7))) ((.ref (bd 9))) ((.ref (bd 11))) ((.ref (bd 13))) ((.ref (bd 15))) ((.ref (bd 19))) ((.ref (bd 6))) ((.ref (bd 8))) ((.ref (bd 10))) ((.ref (bd 12))) ((.ref (bd 14))) ((.ref (bd 18))) ((.ref (bd 17))) ((.ref (bd 16))) ((.int 0)) ((.int 0)) ((.int 0)) ((.int 0)) ((.int 0)) ((.int 0)) ((.int 0)) ((.int 0)) ((.int 0)) ((.int 0)) ((.int 0)) ((.ref (bd 1))) ((.ref (bd 33))) ((.ref (bd 21))) ((.ref (bd 34))) ((.int 0)) ((.int 0)) ((.int 0)) ((.int 0)) ((.int 0)) ((.int 0)) ((.ref (bd 2))) ((.int 0)) ((.int 0)) ((.ref (bd 35))) ((.int 0)) ((.ref (bd 36))) ((.ref (bd 37))) ((.ref (bd 38))) ((.ref (bd 39))) ((.ref (bd 40))) ((.ref (bd 41))) ((.ref (bd 42))) ((.ref (bd 43))) ((.ref (bd 44))) ((.ref (bd 45))) ((.int 0)) ((.int 0)) ((.ref (bd 22))) ((.int 0)) ((.ref (bd 46))) ((.ref (bd 20))) ((.ref (bd 23))) (xs (1 : Int32).toNatClampNeg) (xs (2 : Int32).toNatClampNeg)) E0_blind hK hP hD hS hA [0] [] ⟨rfl, rfl, by decide, by decide, by decide⟩ rfl rfl (fun _ _ _ => trivial) dL_law_413 rfl rfl (Nat.le_of_ble_eq_true rfl) ⟨Nat.le_of_ble_eq_true rfl, Nat.le_of_ble_eq_true rfl⟩ ⟨Nat.le_of_ble_eq_true rfl, Nat.le_of_ble_eq_true rfl⟩ (fun r6 u6 H locs hw6 hP hD hS => ?_)
  have hP : va_P D vwCl [] H := hP
  have hD : va_D A [] := hD
  refine W.widen (k := 142) (n := 14416) (Nat.le_of_ble_eq_true rfl) (Nat.le_of_ble_eq_true rfl) ?_
  have hw6 : r6 = -1 := hw6
  refine lv_icmp_eq (tgt := 1244) hx hb dL_law_416 (by decide) (fun _ => ?_) (fun h => absurd (hw3.trans hw6.symm) h)
  exact law_tail l C0 hS (lv_sub hl [0, 3] rfl)
theorem dL_law_421 : decode cL_law 421 = .ok (.aload_n 1, 1) := by decide +kernel
theorem dL_law_422 : decode cL_law 422 = .ok (.aload_n 0, 1) := by decide +kernel
theorem dL_law_423 : decode cL_law 423 = .ok (.iload_n 3, 1) := by decide +kernel
theorem dL_law_424 : decode cL_law 424 = .ok (.iconst 1, 1) := by decide +kernel
theorem dL_law_425 : decode cL_law 425 = .ok (.iadd, 1) := by decide +kernel
theorem dL_law_426 : decode cL_law 426 = .ok (.iaload, 1) := by decide +kernel
theorem dL_law_427 : decode cL_law 427 = .ok (.aload_n 0, 1) := by decide +kernel
theorem dL_law_428 : decode cL_law 428 = .ok (.iload_n 3, 1) := by decide +kernel
theorem dL_law_429 : decode cL_law 429 = .ok (.iconst 2, 1) := by decide +kernel
theorem dL_law_430 : decode cL_law 430 = .ok (.iadd, 1) := by decide +kernel
theorem dL_law_431 : decode cL_law 431 = .ok (.iaload, 1) := by decide +kernel
theorem dL_law_432 : decode cL_law 432 = .ok (.invokevirtual 45, 3) := by decide +kernel
theorem m_965 : (Cond.methodLink RL 45 yX11_say) ∈ gT := gm 965 (by decide +kernel) (by decide +kernel)
theorem m_966 : (Cond.instanceMethod yX11_say) ∈ gT := gm 966 (by decide +kernel) (by decide +kernel)
theorem m_967 : (Cond.selects RX11 yX11_say yX11_say) ∈ gT := gm 967 (by decide +kernel) (by decide +kernel)
theorem m_968 : (Cond.code yX11_say cX11_say 3 (some .int)) ∈ gT := gm 968 (by decide +kernel) (by decide +kernel)
theorem k_L_45 : xV RL RX11 45 yX11_say cX11_say 3 (some .int) 2 := ⟨⟨m_965, m_966, m_967, m_130, m_968⟩, rfl, by decide, by decide, by decide +kernel⟩
theorem dL_law_435 : decode cL_law 435 = .ok (.aload_n 2, 1) := by decide +kernel
theorem dL_law_436 : decode cL_law 436 = .ok (.aload_n 0, 1) := by decide +kernel
theorem dL_law_437 : decode cL_law 437 = .ok (.iload_n 3, 1) := by decide +kernel
theorem dL_law_438 : decode cL_law 438 = .ok (.iconst 1, 1) := by decide +kernel
theorem dL_law_439 : decode cL_law 439 = .ok (.iadd, 1) := by decide +kernel
theorem dL_law_440 : decode cL_law 440 = .ok (.iaload, 1) := by decide +kernel
theorem dL_law_441 : decode cL_law 441 = .ok (.aload_n 0, 1) := by decide +kernel
theorem dL_law_442 : decode cL_law 442 = .ok (.iload_n 3, 1) := by decide +kernel
theorem dL_law_443 : decode cL_law 443 = .ok (.iconst 2, 1) := by decide +kernel
theorem dL_law_444 : decode cL_law 444 = .ok (.iadd, 1) := by decide +kernel
theorem dL_law_445 : decode cL_law 445 = .ok (.iaload, 1) := by decide +kernel
theorem dL_law_446 : decode cL_law 446 = .ok (.invokevirtual 48, 3) := by decide +kernel
theorem m_1901 : (Cond.methodLink RL 48 yX12_say) ∈ gT := gm 1901 (by decide +kernel) (by decide +kernel)
theorem m_1902 : (Cond.instanceMethod yX12_say) ∈ gT := gm 1902 (by decide +kernel) (by decide +kernel)
theorem m_1903 : (Cond.selects RX12 yX12_say yX12_say) ∈ gT := gm 1903 (by decide +kernel) (by decide +kernel)
theorem m_1904 : (Cond.code yX12_say cX12_say 3 (some .int)) ∈ gT := gm 1904 (by decide +kernel) (by decide +kernel)
theorem k_L_48 : xV RL RX12 48 yX12_say cX12_say 3 (some .int) 2 := ⟨⟨m_1901, m_1902, m_1903, m_146, m_1904⟩, rfl, by decide, by decide, by decide +kernel⟩
theorem dL_law_449 : decode cL_law 449 = .ok (.if_icmp .eq 795, 3) := by decide +kernel
set_option maxHeartbeats 2000000 in
set_option maxRecDepth 100000 in
theorem lc_say {p : Program} {e : Env} {s : State} {m : MethodId} {below : List Frame} {meth : Method} {c : Code} (l : Launch) {D : va_G} {cy : Nat → ClassId} {A : Nat → Prop} {b : Nat} {xs : Nat → Int32} (C : lwC p s m meth c b xs D cy A) (a0 : Nat) (ad : Nat → Nat) (vs : Nat → Value) (fx : Nat → Int32) (b0 : Nat) (bd : Nat → Nat) {H : Heap} {locs : List Loc} (hP : va_P D vwCl [(a0, .inr (11, [.ref (ad 0), .ref (ad 2), .ref (ad 3), .ref (ad 5), .ref (ad 11), .ref (ad 15), .ref (ad 17), .ref (ad 20), .ref (ad 21), .ref (ad 18), .ref (ad 22), .ref (ad 23), .ref (ad 24), .int 0])), (ad 3, .inr (4, [.ref (ad 4), vs 0, vs 1, vs 2, vs 3, vs 4, .ref (ad 27), vs 5, .ref (ad 28), .ref (ad 29), .ref (ad 30), .int 0, .int 0, .int 0, .int 0, .int 0])), (ad 4, .inl (cy 1, 4, .inl (fun _ => 0))), (b0, .inr (12, [.ref (bd 0), .int 0, .int 0, .int (-1), .int 0, .int 0, .int 0, .int 0, .int 0, .long 0, .ref (bd 24), .ref (bd 25), .ref (bd 26), .ref (bd 27), .ref (bd 28), .ref (bd 29), .ref (bd 5), .ref (bd 30), .ref (bd 31), .ref (bd 3), .ref (bd 4), .int 0, .int 0, .int 0, .int 0, .int 0, .int 0, .ref (bd 32), .ref (bd 7), .ref (bd 9), .ref (bd 11), .ref (bd 13), .ref (bd 15), .ref (bd 19), .ref (bd 6), .ref (bd 8), .ref (bd 10), .ref (bd 12), .ref (bd 14), .ref (bd 18), .ref (bd 17), .ref (bd 16), .int 0, .int 0, .int 0, .int 0, .int 0, .int 0, .int 0, .int 0, .int 0, .int 0, .int 0, .int 0, .int 0, .int 0, .int 0, .ref (bd 1), .ref (bd 33), .ref (bd 21), .ref (bd 34), .int 0, .int 0, .int 0, .int 0, .int 0, .int 0, .ref (bd 2), .int 0, .int 0, .ref (bd 35), .int 0, .ref (bd 36), .ref (bd 37), .ref (bd 38), .ref (bd 39), .ref (bd 40), .ref (bd 41), .ref (bd 42), .ref (bd 43), .ref (bd 44), .ref (bd 45), .int 0, .int 0, .ref (bd 22), .int 0, .ref (bd 46), .ref (bd 20), .ref (bd 23)]))] H) (hD : va_D A [(a0, .inr (11, [.ref (ad 0), .ref (ad 2), .ref (ad 3), .ref (ad 5), .ref (ad 11), .ref (ad 15), .ref (ad 17), .ref (ad 20), .ref (ad 21), .ref (ad 18), .ref (ad 22), .ref (ad 23), .ref (ad 24), .int 0])), (ad 3, .inr (4, [.ref (ad 4), vs 0, vs 1, vs 2, vs 3, vs 4, .ref (ad 27), vs 5, .ref (ad 28), .ref (ad 29), .ref (ad 30), .int 0, .int 0, .int 0, .int 0, .int 0])), (ad 4, .inl (cy 1, 4, .inl (fun _ => 0))), (b0, .inr (12, [.ref (bd 0), .int 0, .int 0, .int (-1), .int 0, .int 0, .int 0, .int 0, .int 0, .long 0, .ref (bd 24), .ref (bd 25), .ref (bd 26), .ref (bd 27), .ref (bd 28), .ref (bd 29), .ref (bd 5), .ref (bd 30), .ref (bd 31), .ref (bd 3), .ref (bd 4), .int 0, .int 0, .int 0, .int 0, .int 0, .int 0, .ref (bd 32), .ref (bd 7), .ref (bd 9), .ref (bd 11), .ref (bd 13), .ref (bd 15), .ref (bd 19), .ref (bd 6), .ref (bd 8), .ref (bd 10), .ref (bd 12), .ref (bd 14), .ref (bd 18), .ref (bd 17), .ref (bd 16), .int 0, .int 0, .int 0, .int 0, .int 0, .int 0, .int 0, .int 0, .int 0, .int 0, .int 0, .int 0, .int 0, .int 0, .int 0, .ref (bd 1), .ref (bd 33), .ref (bd 21), .ref (bd 34), .int 0, .int 0, .int 0, .int 0, .int 0, .int 0, .ref (bd 2), .int 0, .int 0, .ref (bd 35), .int 0, .ref (bd 36), .ref (bd 37), .ref (bd 38), .ref (bd 39), .ref (bd 40), .ref (bd 41), .ref (bd 42), .ref (bd 43), .ref (bd 44), .ref (bd 45), .int 0, .int 0, .ref (bd 22), .int 0, .ref (bd 46), .ref (bd 20), .ref (bd 23)]))]) (hS : va_S A s.heap H locs) {ls : Array Slot} (hl : lv_has ls 4 [(3, .int 0), (2, .ref b0), (1, .ref a0), (0, .ref b)]) : W p l e room_1 s m #[Value.ref b] below meth c H locs 142 14416 (lw_Z below #[Value.ref b] s) (F0 m 421 ls []) := by
  have C0 := C
  obtain ⟨hx, hb, hr, hml, hown, hg, hlocks, hX, hbl, hK, hA, hAr, hbA⟩ := C
  refine lv_aload_n hx hb dL_law_421 rfl (lv_at hl 2 rfl) ?_
  refine lv_aload_n hx hb dL_law_422 rfl (lv_at hl 3 rfl) ?_
  refine lv_iload_n hx hb dL_law_423 rfl (lv_at hl 0 rfl) ?_
  refine lv_iconst (v := 1) hx hb dL_law_424 (by decide) ?_
  refine lv_iadd hx hb dL_law_425 ?_
  refine lv_topi (fun y_1 hy_1 => ?_)
  obtain rfl : y_1 = 1 := hy_1.trans (by decide +kernel)
  refine va_sld hx hb hX hbl hbA hS (by unfold vp_in; decide) dL_law_426 ?_
  refine lv_aload_n hx hb dL_law_427 rfl (lv_at hl 3 rfl) ?_
  refine lv_iload_n hx hb dL_law_428 rfl (lv_at hl 0 rfl) ?_
  refine lv_iconst (v := 2) hx hb dL_law_429 (by decide) ?_
  refine lv_iadd hx hb dL_law_430 ?_
  refine lv_topi (fun y_2 hy_2 => ?_)
  obtain rfl : y_2 = 2 := hy_2.trans (by decide +kernel)
  refine va_sld hx hb hX hbl hbA hS (by unfold vp_in; decide) dL_law_431 ?_
  refine x_callVi (q := (RX11, TX11, 14)) (ci := 11) (q0 := 0) (wr := [(b0, .inr (12, [.ref (bd 0), .int 0, .int 0, .int (-1), .int 0, .int 0, .int 0, .int 0, .int 0, .long 0, .ref (bd 24), .ref (bd 25), .ref (bd 26), .ref (bd 27), .ref (bd 28), .ref (bd 29), .ref (bd 5), .ref (bd 30), .ref (bd 31), .ref (bd 3), .ref (bd 4), .int 0, .int 0, .int 0, .int 0, .int 0, .int 0, .ref (bd 32), .ref (bd 7), .ref (bd 9), .ref (bd 11), .ref (bd 13), .ref (bd 15), .ref (bd 19), .ref (bd 6), .ref (bd 8), .ref (bd 10), .ref (bd 12), .ref (bd 14), .ref (bd 18), .ref (bd 17), .ref (bd 16), .int 0, .int 0, .int 0, .int 0, .int 0, .int 0, .int 0, .int 0, .int 0, .int 0, .int 0, .int 0, .int 0, .int 0, .int 0, .ref (bd 1), .ref (bd 33), .ref (bd 21), .ref (bd 34), .int 0, .int 0, .int 0, .int 0, .int 0, .int 0, .ref (bd 2), .int 0, .int 0, .ref (bd 35), .int 0, .ref (bd 36), .ref (bd 37), .ref (bd 38), .ref (bd 39), .ref (bd 40), .ref (bd 41), .ref (bd 42), .ref (bd 43), .ref (bd 44), .ref (bd 45), .int 0, .int 0, .ref (bd 22), .int 0, .ref (bd 46), .ref (bd 20), .ref (bd 23)]))]) (rest := []) ⟨hx, hb, hml, hown, hg, hl.1⟩ k_L_45 (t_say l D cy a0 ((.ref (ad 0))) ((.ref (ad 2))) ((.ref (ad 5))) ((.ref (ad 11))) ((.ref (ad 15))) ((.ref (ad 17))) ((.ref (ad 20))) ((.ref (ad 21))) ((.ref (ad 18))) ((.ref (ad 22))) ((.ref (ad 23))) ((.ref (ad 24))) ((.int 0)) (ad 3) (ad 4) (vs 0) (vs 1) (vs 2) (vs 3) (vs 4) ((.ref (ad 27))) (vs 5) ((.ref (ad 28))) ((.ref (ad 29))) ((.ref (ad 30))) ((.int 0)) ((.int 0)) ((.int 0)) ((.int 0)) ((.int 0)) (xs (1 : Int32).toNatClampNeg) (xs (2 : Int32).toNatClampNeg)) E0_blind hK hP hD hS hA [0, 1, 2] [3] ⟨rfl, rfl, by decide, by decide, by decide⟩ rfl rfl (fun _ _ _ => trivial) dL_law_432 rfl rfl (Nat.le_of_ble_eq_true rfl) ⟨Nat.le_of_ble_eq_true rfl, Nat.le_of_ble_eq_true rfl⟩ ⟨Nat.le_of_ble_eq_true rfl, Nat.le_of_ble_eq_true rfl⟩ (fun r3 u3 H locs hw3 hP hD hS => ?_)
  have hP : va_P D vwCl [(b0, .inr (12, [.ref (bd 0), .int 0, .int 0, .int (-1), .int 0, .int 0, .int 0, .int 0, .int 0, .long 0, .ref (bd 24), .ref (bd 25), .ref (bd 26), .ref (bd 27), .ref (bd 28), .ref (bd 29), .ref (bd 5), .ref (bd 30), .ref (bd 31), .ref (bd 3), .ref (bd 4), .int 0, .int 0, .int 0, .int 0, .int 0, .int 0, .ref (bd 32), .ref (bd 7), .ref (bd 9), .ref (bd 11), .ref (bd 13), .ref (bd 15), .ref (bd 19), .ref (bd 6), .ref (bd 8), .ref (bd 10), .ref (bd 12), .ref (bd 14), .ref (bd 18), .ref (bd 17), .ref (bd 16), .int 0, .int 0, .int 0, .int 0, .int 0, .int 0, .int 0, .int 0, .int 0, .int 0, .int 0, .int 0, .int 0, .int 0, .int 0, .ref (bd 1), .ref (bd 33), .ref (bd 21), .ref (bd 34), .int 0, .int 0, .int 0, .int 0, .int 0, .int 0, .ref (bd 2), .int 0, .int 0, .ref (bd 35), .int 0, .ref (bd 36), .ref (bd 37), .ref (bd 38), .ref (bd 39), .ref (bd 40), .ref (bd 41), .ref (bd 42), .ref (bd 43), .ref (bd 44), .ref (bd 45), .int 0, .int 0, .ref (bd 22), .int 0, .ref (bd 46), .ref (bd 20), .ref (bd 23)]))] H := hP
  have hD : va_D A [(b0, .inr (12, [.ref (bd 0), .int 0, .int 0, .int (-1), .int 0, .int 0, .int 0, .int 0, .int 0, .long 0, .ref (bd 24), .ref (bd 25), .ref (bd 26), .ref (bd 27), .ref (bd 28), .ref (bd 29), .ref (bd 5), .ref (bd 30), .ref (bd 31), .ref (bd 3), .ref (bd 4), .int 0, .int 0, .int 0, .int 0, .int 0, .int 0, .ref (bd 32), .ref (bd 7), .ref (bd 9), .ref (bd 11), .ref (bd 13), .ref (bd 15), .ref (bd 19), .ref (bd 6), .ref (bd 8), .ref (bd 10), .ref (bd 12), .ref (bd 14), .ref (bd 18), .ref (bd 17), .ref (bd 16), .int 0, .int 0, .int 0, .int 0, .int 0, .int 0, .int 0, .int 0, .int 0, .int 0, .int 0, .int 0, .int 0, .int 0, .int 0, .ref (bd 1), .ref (bd 33), .ref (bd 21), .ref (bd 34), .int 0, .int 0, .int 0, .int 0, .int 0, .int 0, .ref (bd 2), .int 0, .int 0, .ref (bd 35), .int 0, .ref (bd 36), .ref (bd 37), .ref (bd 38), .ref (bd 39), .ref (bd 40), .ref (bd 41), .ref (bd 42), .ref (bd 43), .ref (bd 44), .ref (bd 45), .int 0, .int 0, .ref (bd 22), .int 0, .ref (bd 46), .ref (bd 20), .ref (bd 23)]))] := hD
  refine W.widen (k := 142) (n := 14416) (Nat.le_of_ble_eq_true rfl) (Nat.le_of_ble_eq_true rfl) ?_
  have hw3 : r3 = -1 := hw3
  refine lv_aload_n hx hb dL_law_435 rfl (lv_at hl 1 rfl) ?_
  refine lv_aload_n hx hb dL_law_436 rfl (lv_at hl 3 rfl) ?_
  refine lv_iload_n hx hb dL_law_437 rfl (lv_at hl 0 rfl) ?_
  refine lv_iconst (v := 1) hx hb dL_law_438 (by decide) ?_
  refine lv_iadd hx hb dL_law_439 ?_
  refine lv_topi (fun y_4 hy_4 => ?_)
  obtain rfl : y_4 = 1 := hy_4.trans (by decide +kernel)
  refine va_sld hx hb hX hbl hbA hS (by unfold vp_in; decide) dL_law_440 ?_
  refine lv_aload_n hx hb dL_law_441 rfl (lv_at hl 3 rfl) ?_
  refine lv_iload_n hx hb dL_law_442 rfl (lv_at hl 0 rfl) ?_
  refine lv_iconst (v := 2) hx hb dL_law_443 (by decide) ?_
  refine lv_iadd hx hb dL_law_444 ?_
  refine lv_topi (fun y_5 hy_5 => ?_)
  obtain rfl : y_5 = 2 := hy_5.trans (by decide +kernel)
  refine va_sld hx hb hX hbl hbA hS (by unfold vp_in; decide) dL_law_445 ?_
  refine x_callVi (q := (RX12, TX12, 89)) (ci := 12) (q0 := 0) (wr := []) (rest := [.int r3]) ⟨hx, hb, hml, hown, hg, hl.1⟩ k_L_48 (m_say l D cy b0 ((.ref (bd 0))) ((.int 0)) ((.int 0)) ((.int (-1))) ((.int 0)) ((.int 0)) ((.int 0)) ((.int 0)) ((.int 0)) ((.long 0)) ((.ref (bd 24))) ((.ref (bd 25))) ((.ref (bd 26))) ((.ref (bd 27))) ((.ref (bd 28))) ((.ref (bd 29))) ((.ref (bd 5))) ((.ref (bd 30))) ((.ref (bd 31))) ((.ref (bd 3))) ((.ref (bd 4))) ((.int 0)) ((.int 0)) ((.int 0)) ((.int 0)) ((.int 0)) ((.int 0)) ((.ref (bd 32))) ((.ref (bd 7))) ((.ref (bd 9))) ((.ref (bd 11))) ((.ref (bd 13))) ((.ref (bd 15))) ((.ref (bd 19))) ((.ref (bd 6))) ((.ref (bd 8))) ((.ref (bd 10))) ((.ref (bd 12))) ((.ref (bd 14))) ((.ref (bd 18))) ((.ref (bd 17))) ((.ref (bd 16))) ((.int 0)) ((.int 0)) ((.int 0)) ((.int 0)) ((.int 0)) ((.int 0)) ((.int 0)) ((.int 0)) ((.int 0)) ((.int 0)) ((.int 0)) ((.ref (bd 1))) ((.ref (bd 33))) ((.ref (bd 21))) ((.ref (bd 34))) ((.int 0)) ((.int 0)) ((.int 0)) ((.int 0)) ((.int 0)) ((.int 0)) ((.ref (bd 2))) ((.int 0)) ((.int 0)) ((.ref (bd 35))) ((.int 0)) ((.ref (bd 36))) ((.ref (bd 37))) ((.ref (bd 38))) ((.ref (bd 39))) ((.ref (bd 40))) ((.ref (bd 41))) ((.ref (bd 42))) ((.ref (bd 43))) ((.ref (bd 44))) ((.ref (bd 45))) ((.int 0)) ((.int 0)) ((.ref (bd 22))) ((.int 0)) ((.ref (bd 46))) ((.ref (bd 20))) ((.ref (bd 23))) (xs (1 : Int32).toNatClampNeg) (xs (2 : Int32).toNatClampNeg)) E0_blind hK hP hD hS hA [0] [] ⟨rfl, rfl, by decide, by decide, by decide⟩ rfl rfl (fun _ _ _ => trivial) dL_law_446 rfl rfl (Nat.le_of_ble_eq_true rfl) ⟨Nat.le_of_ble_eq_true rfl, Nat.le_of_ble_eq_true rfl⟩ ⟨Nat.le_of_ble_eq_true rfl, Nat.le_of_ble_eq_true rfl⟩ (fun r6 u6 H locs hw6 hP hD hS => ?_)
  have hP : va_P D vwCl [] H := hP
  have hD : va_D A [] := hD
  refine W.widen (k := 142) (n := 14416) (Nat.le_of_ble_eq_true rfl) (Nat.le_of_ble_eq_true rfl) ?_
  have hw6 : r6 = -1 := hw6
  refine lv_icmp_eq (tgt := 1244) hx hb dL_law_449 (by decide) (fun _ => ?_) (fun h => absurd (hw3.trans hw6.symm) h)
  exact law_tail l C0 hS (lv_sub hl [0, 3] rfl)
theorem dL_law_454 : decode cL_law 454 = .ok (.aload_n 1, 1) := by decide +kernel
theorem dL_law_455 : decode cL_law 455 = .ok (.aload_n 0, 1) := by decide +kernel
theorem dL_law_456 : decode cL_law 456 = .ok (.iload_n 3, 1) := by decide +kernel
theorem dL_law_457 : decode cL_law 457 = .ok (.iconst 1, 1) := by decide +kernel
theorem dL_law_458 : decode cL_law 458 = .ok (.iadd, 1) := by decide +kernel
theorem dL_law_459 : decode cL_law 459 = .ok (.iaload, 1) := by decide +kernel
theorem dL_law_460 : decode cL_law 460 = .ok (.invokevirtual 49, 3) := by decide +kernel
theorem m_985 : (Cond.methodLink RL 49 yX11_unsay) ∈ gT := gm 985 (by decide +kernel) (by decide +kernel)
theorem m_986 : (Cond.instanceMethod yX11_unsay) ∈ gT := gm 986 (by decide +kernel) (by decide +kernel)
theorem m_987 : (Cond.selects RX11 yX11_unsay yX11_unsay) ∈ gT := gm 987 (by decide +kernel) (by decide +kernel)
theorem m_988 : (Cond.code yX11_unsay cX11_unsay 2 (some .int)) ∈ gT := gm 988 (by decide +kernel) (by decide +kernel)
theorem k_L_49 : xV RL RX11 49 yX11_unsay cX11_unsay 2 (some .int) 1 := ⟨⟨m_985, m_986, m_987, m_130, m_988⟩, rfl, by decide, by decide, by decide +kernel⟩
theorem dL_law_463 : decode cL_law 463 = .ok (.aload_n 2, 1) := by decide +kernel
theorem dL_law_464 : decode cL_law 464 = .ok (.aload_n 0, 1) := by decide +kernel
theorem dL_law_465 : decode cL_law 465 = .ok (.iload_n 3, 1) := by decide +kernel
theorem dL_law_466 : decode cL_law 466 = .ok (.iconst 1, 1) := by decide +kernel
theorem dL_law_467 : decode cL_law 467 = .ok (.iadd, 1) := by decide +kernel
theorem dL_law_468 : decode cL_law 468 = .ok (.iaload, 1) := by decide +kernel
theorem dL_law_469 : decode cL_law 469 = .ok (.invokevirtual 52, 3) := by decide +kernel
theorem m_1912 : (Cond.methodLink RL 52 yX12_unsay) ∈ gT := gm 1912 (by decide +kernel) (by decide +kernel)
theorem m_1913 : (Cond.instanceMethod yX12_unsay) ∈ gT := gm 1913 (by decide +kernel) (by decide +kernel)
theorem m_1914 : (Cond.selects RX12 yX12_unsay yX12_unsay) ∈ gT := gm 1914 (by decide +kernel) (by decide +kernel)
theorem m_1915 : (Cond.code yX12_unsay cX12_unsay 2 (some .int)) ∈ gT := gm 1915 (by decide +kernel) (by decide +kernel)
theorem k_L_52 : xV RL RX12 52 yX12_unsay cX12_unsay 2 (some .int) 1 := ⟨⟨m_1912, m_1913, m_1914, m_146, m_1915⟩, rfl, by decide, by decide, by decide +kernel⟩
theorem dL_law_472 : decode cL_law 472 = .ok (.if_icmp .eq 772, 3) := by decide +kernel
set_option maxHeartbeats 2000000 in
set_option maxRecDepth 100000 in
theorem lc_unsay {p : Program} {e : Env} {s : State} {m : MethodId} {below : List Frame} {meth : Method} {c : Code} (l : Launch) {D : va_G} {cy : Nat → ClassId} {A : Nat → Prop} {b : Nat} {xs : Nat → Int32} (C : lwC p s m meth c b xs D cy A) (a0 : Nat) (ad : Nat → Nat) (vs : Nat → Value) (fx : Nat → Int32) (b0 : Nat) (bd : Nat → Nat) {H : Heap} {locs : List Loc} (hP : va_P D vwCl [(a0, .inr (11, [.ref (ad 0), .ref (ad 2), .ref (ad 3), .ref (ad 5), .ref (ad 11), .ref (ad 15), .ref (ad 17), .ref (ad 20), .ref (ad 21), .ref (ad 18), .ref (ad 22), .ref (ad 23), .ref (ad 24), .int 0])), (ad 11, .inr (5, [.ref (ad 12), .ref (ad 13), .ref (ad 14), .int 0, .int 0, .int 0, .int 0])), (ad 12, .inl (cy 1, 41, .inl (fun _ => 0))), (b0, .inr (12, [.ref (bd 0), .int 0, .int 0, .int (-1), .int 0, .int 0, .int 0, .int 0, .int 0, .long 0, .ref (bd 24), .ref (bd 25), .ref (bd 26), .ref (bd 27), .ref (bd 28), .ref (bd 29), .ref (bd 5), .ref (bd 30), .ref (bd 31), .ref (bd 3), .ref (bd 4), .int 0, .int 0, .int 0, .int 0, .int 0, .int 0, .ref (bd 32), .ref (bd 7), .ref (bd 9), .ref (bd 11), .ref (bd 13), .ref (bd 15), .ref (bd 19), .ref (bd 6), .ref (bd 8), .ref (bd 10), .ref (bd 12), .ref (bd 14), .ref (bd 18), .ref (bd 17), .ref (bd 16), .int 0, .int 0, .int 0, .int 0, .int 0, .int 0, .int 0, .int 0, .int 0, .int 0, .int 0, .int 0, .int 0, .int 0, .int 0, .ref (bd 1), .ref (bd 33), .ref (bd 21), .ref (bd 34), .int 0, .int 0, .int 0, .int 0, .int 0, .int 0, .ref (bd 2), .int 0, .int 0, .ref (bd 35), .int 0, .ref (bd 36), .ref (bd 37), .ref (bd 38), .ref (bd 39), .ref (bd 40), .ref (bd 41), .ref (bd 42), .ref (bd 43), .ref (bd 44), .ref (bd 45), .int 0, .int 0, .ref (bd 22), .int 0, .ref (bd 46), .ref (bd 20), .ref (bd 23)])), (bd 1, .inl (cy 1, 42, .inl (fun _ => 0)))] H) (hD : va_D A [(a0, .inr (11, [.ref (ad 0), .ref (ad 2), .ref (ad 3), .ref (ad 5), .ref (ad 11), .ref (ad 15), .ref (ad 17), .ref (ad 20), .ref (ad 21), .ref (ad 18), .ref (ad 22), .ref (ad 23), .ref (ad 24), .int 0])), (ad 11, .inr (5, [.ref (ad 12), .ref (ad 13), .ref (ad 14), .int 0, .int 0, .int 0, .int 0])), (ad 12, .inl (cy 1, 41, .inl (fun _ => 0))), (b0, .inr (12, [.ref (bd 0), .int 0, .int 0, .int (-1), .int 0, .int 0, .int 0, .int 0, .int 0, .long 0, .ref (bd 24), .ref (bd 25), .ref (bd 26), .ref (bd 27), .ref (bd 28), .ref (bd 29), .ref (bd 5), .ref (bd 30), .ref (bd 31), .ref (bd 3), .ref (bd 4), .int 0, .int 0, .int 0, .int 0, .int 0, .int 0, .ref (bd 32), .ref (bd 7), .ref (bd 9), .ref (bd 11), .ref (bd 13), .ref (bd 15), .ref (bd 19), .ref (bd 6), .ref (bd 8), .ref (bd 10), .ref (bd 12), .ref (bd 14), .ref (bd 18), .ref (bd 17), .ref (bd 16), .int 0, .int 0, .int 0, .int 0, .int 0, .int 0, .int 0, .int 0, .int 0, .int 0, .int 0, .int 0, .int 0, .int 0, .int 0, .ref (bd 1), .ref (bd 33), .ref (bd 21), .ref (bd 34), .int 0, .int 0, .int 0, .int 0, .int 0, .int 0, .ref (bd 2), .int 0, .int 0, .ref (bd 35), .int 0, .ref (bd 36), .ref (bd 37), .ref (bd 38), .ref (bd 39), .ref (bd 40), .ref (bd 41), .ref (bd 42), .ref (bd 43), .ref (bd 44), .ref (bd 45), .int 0, .int 0, .ref (bd 22), .int 0, .ref (bd 46), .ref (bd 20), .ref (bd 23)])), (bd 1, .inl (cy 1, 42, .inl (fun _ => 0)))]) (hS : va_S A s.heap H locs) {ls : Array Slot} (hl : lv_has ls 4 [(3, .int 0), (2, .ref b0), (1, .ref a0), (0, .ref b)]) : W p l e room_1 s m #[Value.ref b] below meth c H locs 142 14416 (lw_Z below #[Value.ref b] s) (F0 m 454 ls []) := by
  have C0 := C
  obtain ⟨hx, hb, hr, hml, hown, hg, hlocks, hX, hbl, hK, hA, hAr, hbA⟩ := C
  refine lv_aload_n hx hb dL_law_454 rfl (lv_at hl 2 rfl) ?_
  refine lv_aload_n hx hb dL_law_455 rfl (lv_at hl 3 rfl) ?_
  refine lv_iload_n hx hb dL_law_456 rfl (lv_at hl 0 rfl) ?_
  refine lv_iconst (v := 1) hx hb dL_law_457 (by decide) ?_
  refine lv_iadd hx hb dL_law_458 ?_
  refine lv_topi (fun y_1 hy_1 => ?_)
  obtain rfl : y_1 = 1 := hy_1.trans (by decide +kernel)
  refine va_sld hx hb hX hbl hbA hS (by unfold vp_in; decide) dL_law_459 ?_
  refine x_callVi (q := (RX11, TX11, 14)) (ci := 11) (q0 := 0) (wr := [(b0, .inr (12, [.ref (bd 0), .int 0, .int 0, .int (-1), .int 0, .int 0, .int 0, .int 0, .int 0, .long 0, .ref (bd 24), .ref (bd 25), .ref (bd 26), .ref (bd 27), .ref (bd 28), .ref (bd 29), .ref (bd 5), .ref (bd 30), .ref (bd 31), .ref (bd 3), .ref (bd 4), .int 0, .int 0, .int 0, .int 0, .int 0, .int 0, .ref (bd 32), .ref (bd 7), .ref (bd 9), .ref (bd 11), .ref (bd 13), .ref (bd 15), .ref (bd 19), .ref (bd 6), .ref (bd 8), .ref (bd 10), .ref (bd 12), .ref (bd 14), .ref (bd 18), .ref (bd 17), .ref (bd 16), .int 0, .int 0, .int 0, .int 0, .int 0, .int 0, .int 0, .int 0, .int 0, .int 0, .int 0, .int 0, .int 0, .int 0, .int 0, .ref (bd 1), .ref (bd 33), .ref (bd 21), .ref (bd 34), .int 0, .int 0, .int 0, .int 0, .int 0, .int 0, .ref (bd 2), .int 0, .int 0, .ref (bd 35), .int 0, .ref (bd 36), .ref (bd 37), .ref (bd 38), .ref (bd 39), .ref (bd 40), .ref (bd 41), .ref (bd 42), .ref (bd 43), .ref (bd 44), .ref (bd 45), .int 0, .int 0, .ref (bd 22), .int 0, .ref (bd 46), .ref (bd 20), .ref (bd 23)])), (bd 1, .inl (cy 1, 42, .inl (fun _ => 0)))]) (rest := []) ⟨hx, hb, hml, hown, hg, hl.1⟩ k_L_49 (t_unsay l D cy a0 ((.ref (ad 0))) ((.ref (ad 2))) ((.ref (ad 3))) ((.ref (ad 5))) ((.ref (ad 15))) ((.ref (ad 17))) ((.ref (ad 20))) ((.ref (ad 21))) ((.ref (ad 18))) ((.ref (ad 22))) ((.ref (ad 23))) ((.ref (ad 24))) ((.int 0)) (ad 11) (ad 12) (ad 13) (ad 14) ((.int 0)) ((.int 0)) ((.int 0)) ((.int 0)) (xs (1 : Int32).toNatClampNeg)) E0_blind hK hP hD hS hA [0, 1, 2] [3, 4] ⟨rfl, rfl, by decide, by decide, by decide⟩ rfl rfl (fun _ _ _ => trivial) dL_law_460 rfl rfl (Nat.le_of_ble_eq_true rfl) ⟨Nat.le_of_ble_eq_true rfl, Nat.le_of_ble_eq_true rfl⟩ ⟨Nat.le_of_ble_eq_true rfl, Nat.le_of_ble_eq_true rfl⟩ (fun r2 u2 H locs hw2 hP hD hS => ?_)
  have hP : va_P D vwCl [(b0, .inr (12, [.ref (bd 0), .int 0, .int 0, .int (-1), .int 0, .int 0, .int 0, .int 0, .int 0, .long 0, .ref (bd 24), .ref (bd 25), .ref (bd 26), .ref (bd 27), .ref (bd 28), .ref (bd 29), .ref (bd 5), .ref (bd 30), .ref (bd 31), .ref (bd 3), .ref (bd 4), .int 0, .int 0, .int 0, .int 0, .int 0, .int 0, .ref (bd 32), .ref (bd 7), .ref (bd 9), .ref (bd 11), .ref (bd 13), .ref (bd 15), .ref (bd 19), .ref (bd 6), .ref (bd 8), .ref (bd 10), .ref (bd 12), .ref (bd 14), .ref (bd 18), .ref (bd 17), .ref (bd 16), .int 0, .int 0, .int 0, .int 0, .int 0, .int 0, .int 0, .int 0, .int 0, .int 0, .int 0, .int 0, .int 0, .int 0, .int 0, .ref (bd 1), .ref (bd 33), .ref (bd 21), .ref (bd 34), .int 0, .int 0, .int 0, .int 0, .int 0, .int 0, .ref (bd 2), .int 0, .int 0, .ref (bd 35), .int 0, .ref (bd 36), .ref (bd 37), .ref (bd 38), .ref (bd 39), .ref (bd 40), .ref (bd 41), .ref (bd 42), .ref (bd 43), .ref (bd 44), .ref (bd 45), .int 0, .int 0, .ref (bd 22), .int 0, .ref (bd 46), .ref (bd 20), .ref (bd 23)])), (bd 1, .inl (cy 1, 42, .inl (fun _ => 0)))] H := hP
  have hD : va_D A [(b0, .inr (12, [.ref (bd 0), .int 0, .int 0, .int (-1), .int 0, .int 0, .int 0, .int 0, .int 0, .long 0, .ref (bd 24), .ref (bd 25), .ref (bd 26), .ref (bd 27), .ref (bd 28), .ref (bd 29), .ref (bd 5), .ref (bd 30), .ref (bd 31), .ref (bd 3), .ref (bd 4), .int 0, .int 0, .int 0, .int 0, .int 0, .int 0, .ref (bd 32), .ref (bd 7), .ref (bd 9), .ref (bd 11), .ref (bd 13), .ref (bd 15), .ref (bd 19), .ref (bd 6), .ref (bd 8), .ref (bd 10), .ref (bd 12), .ref (bd 14), .ref (bd 18), .ref (bd 17), .ref (bd 16), .int 0, .int 0, .int 0, .int 0, .int 0, .int 0, .int 0, .int 0, .int 0, .int 0, .int 0, .int 0, .int 0, .int 0, .int 0, .ref (bd 1), .ref (bd 33), .ref (bd 21), .ref (bd 34), .int 0, .int 0, .int 0, .int 0, .int 0, .int 0, .ref (bd 2), .int 0, .int 0, .ref (bd 35), .int 0, .ref (bd 36), .ref (bd 37), .ref (bd 38), .ref (bd 39), .ref (bd 40), .ref (bd 41), .ref (bd 42), .ref (bd 43), .ref (bd 44), .ref (bd 45), .int 0, .int 0, .ref (bd 22), .int 0, .ref (bd 46), .ref (bd 20), .ref (bd 23)])), (bd 1, .inl (cy 1, 42, .inl (fun _ => 0)))] := hD
  refine W.widen (k := 142) (n := 14416) (Nat.le_of_ble_eq_true rfl) (Nat.le_of_ble_eq_true rfl) ?_
  have hw2 : r2 = -1 := hw2
  refine lv_aload_n hx hb dL_law_463 rfl (lv_at hl 1 rfl) ?_
  refine lv_aload_n hx hb dL_law_464 rfl (lv_at hl 3 rfl) ?_
  refine lv_iload_n hx hb dL_law_465 rfl (lv_at hl 0 rfl) ?_
  refine lv_iconst (v := 1) hx hb dL_law_466 (by decide) ?_
  refine lv_iadd hx hb dL_law_467 ?_
  refine lv_topi (fun y_3 hy_3 => ?_)
  obtain rfl : y_3 = 1 := hy_3.trans (by decide +kernel)
  refine va_sld hx hb hX hbl hbA hS (by unfold vp_in; decide) dL_law_468 ?_
  refine x_callVi (q := (RX12, TX12, 89)) (ci := 12) (q0 := 0) (wr := []) (rest := [.int r2]) ⟨hx, hb, hml, hown, hg, hl.1⟩ k_L_52 (m_unsay l D cy b0 ((.ref (bd 0))) ((.int 0)) ((.int 0)) ((.int (-1))) ((.int 0)) ((.int 0)) ((.int 0)) ((.int 0)) ((.int 0)) ((.long 0)) ((.ref (bd 24))) ((.ref (bd 25))) ((.ref (bd 26))) ((.ref (bd 27))) ((.ref (bd 28))) ((.ref (bd 29))) ((.ref (bd 5))) ((.ref (bd 30))) ((.ref (bd 31))) ((.ref (bd 3))) ((.ref (bd 4))) ((.int 0)) ((.int 0)) ((.int 0)) ((.int 0)) ((.int 0)) ((.int 0)) ((.ref (bd 32))) ((.ref (bd 7))) ((.ref (bd 9))) ((.ref (bd 11))) ((.ref (bd 13))) ((.ref (bd 15))) ((.ref (bd 19))) ((.ref (bd 6))) ((.ref (bd 8))) ((.ref (bd 10))) ((.ref (bd 12))) ((.ref (bd 14))) ((.ref (bd 18))) ((.ref (bd 17))) ((.ref (bd 16))) ((.int 0)) ((.int 0)) ((.int 0)) ((.int 0)) ((.int 0)) ((.int 0)) ((.int 0)) ((.int 0)) ((.int 0)) ((.int 0)) ((.int 0)) ((.int 0)) ((.int 0)) ((.int 0)) ((.int 0)) ((.ref (bd 33))) ((.ref (bd 21))) ((.ref (bd 34))) ((.int 0)) ((.int 0)) ((.int 0)) ((.int 0)) ((.int 0)) ((.int 0)) ((.ref (bd 2))) ((.int 0)) ((.int 0)) ((.ref (bd 35))) ((.int 0)) ((.ref (bd 36))) ((.ref (bd 37))) ((.ref (bd 38))) ((.ref (bd 39))) ((.ref (bd 40))) ((.ref (bd 41))) ((.ref (bd 42))) ((.ref (bd 43))) ((.ref (bd 44))) ((.ref (bd 45))) ((.int 0)) ((.int 0)) ((.ref (bd 22))) ((.int 0)) ((.ref (bd 46))) ((.ref (bd 20))) ((.ref (bd 23))) (bd 1) (xs (1 : Int32).toNatClampNeg)) E0_blind hK hP hD hS hA [0, 1] [] ⟨rfl, rfl, by decide, by decide, by decide⟩ rfl rfl (fun _ _ _ => trivial) dL_law_469 rfl rfl (Nat.le_of_ble_eq_true rfl) ⟨Nat.le_of_ble_eq_true rfl, Nat.le_of_ble_eq_true rfl⟩ ⟨Nat.le_of_ble_eq_true rfl, Nat.le_of_ble_eq_true rfl⟩ (fun r4 u4 H locs hw4 hP hD hS => ?_)
  have hP : va_P D vwCl [] H := hP
  have hD : va_D A [] := hD
  refine W.widen (k := 142) (n := 14416) (Nat.le_of_ble_eq_true rfl) (Nat.le_of_ble_eq_true rfl) ?_
  have hw4 : r4 = -1 := hw4
  refine lv_icmp_eq (tgt := 1244) hx hb dL_law_472 (by decide) (fun _ => ?_) (fun h => absurd (hw2.trans hw4.symm) h)
  exact law_tail l C0 hS (lv_sub hl [0, 3] rfl)
theorem dL_law_477 : decode cL_law 477 = .ok (.aload_n 1, 1) := by decide +kernel
theorem dL_law_478 : decode cL_law 478 = .ok (.aload_n 0, 1) := by decide +kernel
theorem dL_law_479 : decode cL_law 479 = .ok (.iload_n 3, 1) := by decide +kernel
theorem dL_law_480 : decode cL_law 480 = .ok (.iconst 1, 1) := by decide +kernel
theorem dL_law_481 : decode cL_law 481 = .ok (.iadd, 1) := by decide +kernel
theorem dL_law_482 : decode cL_law 482 = .ok (.iaload, 1) := by decide +kernel
theorem dL_law_483 : decode cL_law 483 = .ok (.aload_n 0, 1) := by decide +kernel
theorem dL_law_484 : decode cL_law 484 = .ok (.iload_n 3, 1) := by decide +kernel
theorem dL_law_485 : decode cL_law 485 = .ok (.iconst 2, 1) := by decide +kernel
theorem dL_law_486 : decode cL_law 486 = .ok (.iadd, 1) := by decide +kernel
theorem dL_law_487 : decode cL_law 487 = .ok (.iaload, 1) := by decide +kernel
theorem dL_law_488 : decode cL_law 488 = .ok (.invokevirtual 53, 3) := by decide +kernel
theorem m_993 : (Cond.methodLink RL 53 yX11_said) ∈ gT := gm 993 (by decide +kernel) (by decide +kernel)
theorem m_994 : (Cond.instanceMethod yX11_said) ∈ gT := gm 994 (by decide +kernel) (by decide +kernel)
theorem m_995 : (Cond.selects RX11 yX11_said yX11_said) ∈ gT := gm 995 (by decide +kernel) (by decide +kernel)
theorem m_996 : (Cond.code yX11_said cX11_said 3 (some .int)) ∈ gT := gm 996 (by decide +kernel) (by decide +kernel)
theorem k_L_53 : xV RL RX11 53 yX11_said cX11_said 3 (some .int) 2 := ⟨⟨m_993, m_994, m_995, m_130, m_996⟩, rfl, by decide, by decide, by decide +kernel⟩
theorem dL_law_491 : decode cL_law 491 = .ok (.aload_n 2, 1) := by decide +kernel
theorem dL_law_492 : decode cL_law 492 = .ok (.aload_n 0, 1) := by decide +kernel
theorem dL_law_493 : decode cL_law 493 = .ok (.iload_n 3, 1) := by decide +kernel
theorem dL_law_494 : decode cL_law 494 = .ok (.iconst 1, 1) := by decide +kernel
theorem dL_law_495 : decode cL_law 495 = .ok (.iadd, 1) := by decide +kernel
theorem dL_law_496 : decode cL_law 496 = .ok (.iaload, 1) := by decide +kernel
theorem dL_law_497 : decode cL_law 497 = .ok (.aload_n 0, 1) := by decide +kernel
theorem dL_law_498 : decode cL_law 498 = .ok (.iload_n 3, 1) := by decide +kernel
theorem dL_law_499 : decode cL_law 499 = .ok (.iconst 2, 1) := by decide +kernel
theorem dL_law_500 : decode cL_law 500 = .ok (.iadd, 1) := by decide +kernel
theorem dL_law_501 : decode cL_law 501 = .ok (.iaload, 1) := by decide +kernel
theorem dL_law_502 : decode cL_law 502 = .ok (.invokevirtual 56, 3) := by decide +kernel
theorem m_1916 : (Cond.methodLink RL 56 yX12_said) ∈ gT := gm 1916 (by decide +kernel) (by decide +kernel)
theorem m_1917 : (Cond.instanceMethod yX12_said) ∈ gT := gm 1917 (by decide +kernel) (by decide +kernel)
theorem m_1918 : (Cond.selects RX12 yX12_said yX12_said) ∈ gT := gm 1918 (by decide +kernel) (by decide +kernel)
theorem m_1919 : (Cond.code yX12_said cX12_said 3 (some .int)) ∈ gT := gm 1919 (by decide +kernel) (by decide +kernel)
theorem k_L_56 : xV RL RX12 56 yX12_said cX12_said 3 (some .int) 2 := ⟨⟨m_1916, m_1917, m_1918, m_146, m_1919⟩, rfl, by decide, by decide, by decide +kernel⟩
theorem dL_law_505 : decode cL_law 505 = .ok (.if_icmp .eq 739, 3) := by decide +kernel
set_option maxHeartbeats 2000000 in
set_option maxRecDepth 100000 in
theorem lc_said {p : Program} {e : Env} {s : State} {m : MethodId} {below : List Frame} {meth : Method} {c : Code} (l : Launch) {D : va_G} {cy : Nat → ClassId} {A : Nat → Prop} {b : Nat} {xs : Nat → Int32} (C : lwC p s m meth c b xs D cy A) (a0 : Nat) (ad : Nat → Nat) (vs : Nat → Value) (fx : Nat → Int32) (b0 : Nat) (bd : Nat → Nat) {H : Heap} {locs : List Loc} (hP : va_P D vwCl [(a0, .inr (11, [.ref (ad 0), .ref (ad 2), .ref (ad 3), .ref (ad 5), .ref (ad 11), .ref (ad 15), .ref (ad 17), .ref (ad 20), .ref (ad 21), .ref (ad 18), .ref (ad 22), .ref (ad 23), .ref (ad 24), .int 0])), (ad 11, .inr (5, [.ref (ad 12), .ref (ad 13), .ref (ad 14), .int 0, .int 0, .int 0, .int 0])), (ad 12, .inl (cy 1, 41, .inl (fun _ => 0))), (b0, .inr (12, [.ref (bd 0), .int 0, .int 0, .int (-1), .int 0, .int 0, .int 0, .int 0, .int 0, .long 0, .ref (bd 24), .ref (bd 25), .ref (bd 26), .ref (bd 27), .ref (bd 28), .ref (bd 29), .ref (bd 5), .ref (bd 30), .ref (bd 31), .ref (bd 3), .ref (bd 4), .int 0, .int 0, .int 0, .int 0, .int 0, .int 0, .ref (bd 32), .ref (bd 7), .ref (bd 9), .ref (bd 11), .ref (bd 13), .ref (bd 15), .ref (bd 19), .ref (bd 6), .ref (bd 8), .ref (bd 10), .ref (bd 12), .ref (bd 14), .ref (bd 18), .ref (bd 17), .ref (bd 16), .int 0, .int 0, .int 0, .int 0, .int 0, .int 0, .int 0, .int 0, .int 0, .int 0, .int 0, .int 0, .int 0, .int 0, .int 0, .ref (bd 1), .ref (bd 33), .ref (bd 21), .ref (bd 34), .int 0, .int 0, .int 0, .int 0, .int 0, .int 0, .ref (bd 2), .int 0, .int 0, .ref (bd 35), .int 0, .ref (bd 36), .ref (bd 37), .ref (bd 38), .ref (bd 39), .ref (bd 40), .ref (bd 41), .ref (bd 42), .ref (bd 43), .ref (bd 44), .ref (bd 45), .int 0, .int 0, .ref (bd 22), .int 0, .ref (bd 46), .ref (bd 20), .ref (bd 23)])), (bd 1, .inl (cy 1, 42, .inl (fun _ => 0)))] H) (hD : va_D A [(a0, .inr (11, [.ref (ad 0), .ref (ad 2), .ref (ad 3), .ref (ad 5), .ref (ad 11), .ref (ad 15), .ref (ad 17), .ref (ad 20), .ref (ad 21), .ref (ad 18), .ref (ad 22), .ref (ad 23), .ref (ad 24), .int 0])), (ad 11, .inr (5, [.ref (ad 12), .ref (ad 13), .ref (ad 14), .int 0, .int 0, .int 0, .int 0])), (ad 12, .inl (cy 1, 41, .inl (fun _ => 0))), (b0, .inr (12, [.ref (bd 0), .int 0, .int 0, .int (-1), .int 0, .int 0, .int 0, .int 0, .int 0, .long 0, .ref (bd 24), .ref (bd 25), .ref (bd 26), .ref (bd 27), .ref (bd 28), .ref (bd 29), .ref (bd 5), .ref (bd 30), .ref (bd 31), .ref (bd 3), .ref (bd 4), .int 0, .int 0, .int 0, .int 0, .int 0, .int 0, .ref (bd 32), .ref (bd 7), .ref (bd 9), .ref (bd 11), .ref (bd 13), .ref (bd 15), .ref (bd 19), .ref (bd 6), .ref (bd 8), .ref (bd 10), .ref (bd 12), .ref (bd 14), .ref (bd 18), .ref (bd 17), .ref (bd 16), .int 0, .int 0, .int 0, .int 0, .int 0, .int 0, .int 0, .int 0, .int 0, .int 0, .int 0, .int 0, .int 0, .int 0, .int 0, .ref (bd 1), .ref (bd 33), .ref (bd 21), .ref (bd 34), .int 0, .int 0, .int 0, .int 0, .int 0, .int 0, .ref (bd 2), .int 0, .int 0, .ref (bd 35), .int 0, .ref (bd 36), .ref (bd 37), .ref (bd 38), .ref (bd 39), .ref (bd 40), .ref (bd 41), .ref (bd 42), .ref (bd 43), .ref (bd 44), .ref (bd 45), .int 0, .int 0, .ref (bd 22), .int 0, .ref (bd 46), .ref (bd 20), .ref (bd 23)])), (bd 1, .inl (cy 1, 42, .inl (fun _ => 0)))]) (hS : va_S A s.heap H locs) {ls : Array Slot} (hl : lv_has ls 4 [(3, .int 0), (2, .ref b0), (1, .ref a0), (0, .ref b)]) : W p l e room_1 s m #[Value.ref b] below meth c H locs 142 14416 (lw_Z below #[Value.ref b] s) (F0 m 477 ls []) := by
  have C0 := C
  obtain ⟨hx, hb, hr, hml, hown, hg, hlocks, hX, hbl, hK, hA, hAr, hbA⟩ := C
  refine lv_aload_n hx hb dL_law_477 rfl (lv_at hl 2 rfl) ?_
  refine lv_aload_n hx hb dL_law_478 rfl (lv_at hl 3 rfl) ?_
  refine lv_iload_n hx hb dL_law_479 rfl (lv_at hl 0 rfl) ?_
  refine lv_iconst (v := 1) hx hb dL_law_480 (by decide) ?_
  refine lv_iadd hx hb dL_law_481 ?_
  refine lv_topi (fun y_1 hy_1 => ?_)
  obtain rfl : y_1 = 1 := hy_1.trans (by decide +kernel)
  refine va_sld hx hb hX hbl hbA hS (by unfold vp_in; decide) dL_law_482 ?_
  refine lv_aload_n hx hb dL_law_483 rfl (lv_at hl 3 rfl) ?_
  refine lv_iload_n hx hb dL_law_484 rfl (lv_at hl 0 rfl) ?_
  refine lv_iconst (v := 2) hx hb dL_law_485 (by decide) ?_
  refine lv_iadd hx hb dL_law_486 ?_
  refine lv_topi (fun y_2 hy_2 => ?_)
  obtain rfl : y_2 = 2 := hy_2.trans (by decide +kernel)
  refine va_sld hx hb hX hbl hbA hS (by unfold vp_in; decide) dL_law_487 ?_
  refine x_callVi (q := (RX11, TX11, 14)) (ci := 11) (q0 := 0) (wr := [(b0, .inr (12, [.ref (bd 0), .int 0, .int 0, .int (-1), .int 0, .int 0, .int 0, .int 0, .int 0, .long 0, .ref (bd 24), .ref (bd 25), .ref (bd 26), .ref (bd 27), .ref (bd 28), .ref (bd 29), .ref (bd 5), .ref (bd 30), .ref (bd 31), .ref (bd 3), .ref (bd 4), .int 0, .int 0, .int 0, .int 0, .int 0, .int 0, .ref (bd 32), .ref (bd 7), .ref (bd 9), .ref (bd 11), .ref (bd 13), .ref (bd 15), .ref (bd 19), .ref (bd 6), .ref (bd 8), .ref (bd 10), .ref (bd 12), .ref (bd 14), .ref (bd 18), .ref (bd 17), .ref (bd 16), .int 0, .int 0, .int 0, .int 0, .int 0, .int 0, .int 0, .int 0, .int 0, .int 0, .int 0, .int 0, .int 0, .int 0, .int 0, .ref (bd 1), .ref (bd 33), .ref (bd 21), .ref (bd 34), .int 0, .int 0, .int 0, .int 0, .int 0, .int 0, .ref (bd 2), .int 0, .int 0, .ref (bd 35), .int 0, .ref (bd 36), .ref (bd 37), .ref (bd 38), .ref (bd 39), .ref (bd 40), .ref (bd 41), .ref (bd 42), .ref (bd 43), .ref (bd 44), .ref (bd 45), .int 0, .int 0, .ref (bd 22), .int 0, .ref (bd 46), .ref (bd 20), .ref (bd 23)])), (bd 1, .inl (cy 1, 42, .inl (fun _ => 0)))]) (rest := []) ⟨hx, hb, hml, hown, hg, hl.1⟩ k_L_53 (t_said l D cy a0 ((.ref (ad 0))) ((.ref (ad 2))) ((.ref (ad 3))) ((.ref (ad 5))) ((.ref (ad 15))) ((.ref (ad 17))) ((.ref (ad 20))) ((.ref (ad 21))) ((.ref (ad 18))) ((.ref (ad 22))) ((.ref (ad 23))) ((.ref (ad 24))) ((.int 0)) (ad 11) (ad 12) (ad 13) (ad 14) ((.int 0)) ((.int 0)) ((.int 0)) ((.int 0)) (xs (1 : Int32).toNatClampNeg) (xs (2 : Int32).toNatClampNeg)) E0_blind hK hP hD hS hA [0, 1, 2] [3, 4] ⟨rfl, rfl, by decide, by decide, by decide⟩ rfl rfl (fun _ _ _ => trivial) dL_law_488 rfl rfl (Nat.le_of_ble_eq_true rfl) ⟨Nat.le_of_ble_eq_true rfl, Nat.le_of_ble_eq_true rfl⟩ ⟨Nat.le_of_ble_eq_true rfl, Nat.le_of_ble_eq_true rfl⟩ (fun r3 u3 H locs hw3 hP hD hS => ?_)
  have hP : va_P D vwCl [(b0, .inr (12, [.ref (bd 0), .int 0, .int 0, .int (-1), .int 0, .int 0, .int 0, .int 0, .int 0, .long 0, .ref (bd 24), .ref (bd 25), .ref (bd 26), .ref (bd 27), .ref (bd 28), .ref (bd 29), .ref (bd 5), .ref (bd 30), .ref (bd 31), .ref (bd 3), .ref (bd 4), .int 0, .int 0, .int 0, .int 0, .int 0, .int 0, .ref (bd 32), .ref (bd 7), .ref (bd 9), .ref (bd 11), .ref (bd 13), .ref (bd 15), .ref (bd 19), .ref (bd 6), .ref (bd 8), .ref (bd 10), .ref (bd 12), .ref (bd 14), .ref (bd 18), .ref (bd 17), .ref (bd 16), .int 0, .int 0, .int 0, .int 0, .int 0, .int 0, .int 0, .int 0, .int 0, .int 0, .int 0, .int 0, .int 0, .int 0, .int 0, .ref (bd 1), .ref (bd 33), .ref (bd 21), .ref (bd 34), .int 0, .int 0, .int 0, .int 0, .int 0, .int 0, .ref (bd 2), .int 0, .int 0, .ref (bd 35), .int 0, .ref (bd 36), .ref (bd 37), .ref (bd 38), .ref (bd 39), .ref (bd 40), .ref (bd 41), .ref (bd 42), .ref (bd 43), .ref (bd 44), .ref (bd 45), .int 0, .int 0, .ref (bd 22), .int 0, .ref (bd 46), .ref (bd 20), .ref (bd 23)])), (bd 1, .inl (cy 1, 42, .inl (fun _ => 0)))] H := hP
  have hD : va_D A [(b0, .inr (12, [.ref (bd 0), .int 0, .int 0, .int (-1), .int 0, .int 0, .int 0, .int 0, .int 0, .long 0, .ref (bd 24), .ref (bd 25), .ref (bd 26), .ref (bd 27), .ref (bd 28), .ref (bd 29), .ref (bd 5), .ref (bd 30), .ref (bd 31), .ref (bd 3), .ref (bd 4), .int 0, .int 0, .int 0, .int 0, .int 0, .int 0, .ref (bd 32), .ref (bd 7), .ref (bd 9), .ref (bd 11), .ref (bd 13), .ref (bd 15), .ref (bd 19), .ref (bd 6), .ref (bd 8), .ref (bd 10), .ref (bd 12), .ref (bd 14), .ref (bd 18), .ref (bd 17), .ref (bd 16), .int 0, .int 0, .int 0, .int 0, .int 0, .int 0, .int 0, .int 0, .int 0, .int 0, .int 0, .int 0, .int 0, .int 0, .int 0, .ref (bd 1), .ref (bd 33), .ref (bd 21), .ref (bd 34), .int 0, .int 0, .int 0, .int 0, .int 0, .int 0, .ref (bd 2), .int 0, .int 0, .ref (bd 35), .int 0, .ref (bd 36), .ref (bd 37), .ref (bd 38), .ref (bd 39), .ref (bd 40), .ref (bd 41), .ref (bd 42), .ref (bd 43), .ref (bd 44), .ref (bd 45), .int 0, .int 0, .ref (bd 22), .int 0, .ref (bd 46), .ref (bd 20), .ref (bd 23)])), (bd 1, .inl (cy 1, 42, .inl (fun _ => 0)))] := hD
  refine W.widen (k := 142) (n := 14416) (Nat.le_of_ble_eq_true rfl) (Nat.le_of_ble_eq_true rfl) ?_
  have hw3 : r3 = -1 := hw3
  refine lv_aload_n hx hb dL_law_491 rfl (lv_at hl 1 rfl) ?_
  refine lv_aload_n hx hb dL_law_492 rfl (lv_at hl 3 rfl) ?_
  refine lv_iload_n hx hb dL_law_493 rfl (lv_at hl 0 rfl) ?_
  refine lv_iconst (v := 1) hx hb dL_law_494 (by decide) ?_
  refine lv_iadd hx hb dL_law_495 ?_
  refine lv_topi (fun y_4 hy_4 => ?_)
  obtain rfl : y_4 = 1 := hy_4.trans (by decide +kernel)
  refine va_sld hx hb hX hbl hbA hS (by unfold vp_in; decide) dL_law_496 ?_
  refine lv_aload_n hx hb dL_law_497 rfl (lv_at hl 3 rfl) ?_
  refine lv_iload_n hx hb dL_law_498 rfl (lv_at hl 0 rfl) ?_
  refine lv_iconst (v := 2) hx hb dL_law_499 (by decide) ?_
  refine lv_iadd hx hb dL_law_500 ?_
  refine lv_topi (fun y_5 hy_5 => ?_)
  obtain rfl : y_5 = 2 := hy_5.trans (by decide +kernel)
  refine va_sld hx hb hX hbl hbA hS (by unfold vp_in; decide) dL_law_501 ?_
  refine x_callVi (q := (RX12, TX12, 89)) (ci := 12) (q0 := 0) (wr := []) (rest := [.int r3]) ⟨hx, hb, hml, hown, hg, hl.1⟩ k_L_56 (m_said l D cy b0 ((.ref (bd 0))) ((.int 0)) ((.int 0)) ((.int (-1))) ((.int 0)) ((.int 0)) ((.int 0)) ((.int 0)) ((.int 0)) ((.long 0)) ((.ref (bd 24))) ((.ref (bd 25))) ((.ref (bd 26))) ((.ref (bd 27))) ((.ref (bd 28))) ((.ref (bd 29))) ((.ref (bd 5))) ((.ref (bd 30))) ((.ref (bd 31))) ((.ref (bd 3))) ((.ref (bd 4))) ((.int 0)) ((.int 0)) ((.int 0)) ((.int 0)) ((.int 0)) ((.int 0)) ((.ref (bd 32))) ((.ref (bd 7))) ((.ref (bd 9))) ((.ref (bd 11))) ((.ref (bd 13))) ((.ref (bd 15))) ((.ref (bd 19))) ((.ref (bd 6))) ((.ref (bd 8))) ((.ref (bd 10))) ((.ref (bd 12))) ((.ref (bd 14))) ((.ref (bd 18))) ((.ref (bd 17))) ((.ref (bd 16))) ((.int 0)) ((.int 0)) ((.int 0)) ((.int 0)) ((.int 0)) ((.int 0)) ((.int 0)) ((.int 0)) ((.int 0)) ((.int 0)) ((.int 0)) ((.int 0)) ((.int 0)) ((.int 0)) ((.int 0)) ((.ref (bd 33))) ((.ref (bd 21))) ((.ref (bd 34))) ((.int 0)) ((.int 0)) ((.int 0)) ((.int 0)) ((.int 0)) ((.int 0)) ((.ref (bd 2))) ((.int 0)) ((.int 0)) ((.ref (bd 35))) ((.int 0)) ((.ref (bd 36))) ((.ref (bd 37))) ((.ref (bd 38))) ((.ref (bd 39))) ((.ref (bd 40))) ((.ref (bd 41))) ((.ref (bd 42))) ((.ref (bd 43))) ((.ref (bd 44))) ((.ref (bd 45))) ((.int 0)) ((.int 0)) ((.ref (bd 22))) ((.int 0)) ((.ref (bd 46))) ((.ref (bd 20))) ((.ref (bd 23))) (bd 1) (xs (1 : Int32).toNatClampNeg) (xs (2 : Int32).toNatClampNeg)) E0_blind hK hP hD hS hA [0, 1] [] ⟨rfl, rfl, by decide, by decide, by decide⟩ rfl rfl (fun _ _ _ => trivial) dL_law_502 rfl rfl (Nat.le_of_ble_eq_true rfl) ⟨Nat.le_of_ble_eq_true rfl, Nat.le_of_ble_eq_true rfl⟩ ⟨Nat.le_of_ble_eq_true rfl, Nat.le_of_ble_eq_true rfl⟩ (fun r6 u6 H locs hw6 hP hD hS => ?_)
  have hP : va_P D vwCl [] H := hP
  have hD : va_D A [] := hD
  refine W.widen (k := 142) (n := 14416) (Nat.le_of_ble_eq_true rfl) (Nat.le_of_ble_eq_true rfl) ?_
  have hw6 : r6 = -1 := hw6
  refine lv_icmp_eq (tgt := 1244) hx hb dL_law_505 (by decide) (fun _ => ?_) (fun h => absurd (hw3.trans hw6.symm) h)
  exact law_tail l C0 hS (lv_sub hl [0, 3] rfl)
