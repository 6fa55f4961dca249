theorem va_A_up {ws wc : va_W} {isC : List Nat} {sz : Nat} (h : isC.map (fun i => ws[i]?) = wc.map some) : ∀ q, va_A wc sz q → va_A ws sz q := by
  intro q hq
  rcases hq with ⟨k, e, hk⟩ | hq
  · have h1 : (isC.map (fun i => ws[i]?))[k]? = some (some (q, e)) := by rw [h, List.getElem?_map, hk]; rfl
    rw [List.getElem?_map] at h1
    cases hi : isC[k]? with
    | none => rw [hi] at h1; cases h1
    | some i => rw [hi] at h1; exact Or.inl ⟨i, e, Option.some.inj h1⟩
  · exact Or.inr hq
theorem pm_filter {ws w : va_W} {pm : List Nat} (h : pm.map (fun i => ws[i]?) = w.map some) : pm.filterMap (fun i => ws[i]?) = w := by
  have := congrArg (fun l => l.filterMap id) h
  simpa [List.filterMap_map] using this
/-- a contract over some of an object's cells is one over all of them -/
theorem XMi.frame {l : Launch} {D : va_G} {tys : List (ClassId × FieldType)} {E E2 : (Nat → Prop) → State → Prop} {y : MethodName} {bytes : ByteArray} {maxL : Nat} {ret : Option FieldType} {rm : Room} {av : List Value} {wc ws wr : va_W} {S S2 : Type} {post : Int32 → S → Prop} {w1 : S → va_W} {post2 : Int32 → S2 → Prop} {w2 : S2 → va_W} (f : S → S2) (isC isR pm : List Nat)
    (hM : XMi l D tys E y bytes maxL ret rm av wc post w1) (hcut : xCut ws wc wr isC isR) (hE : ∀ (A A' : Nat → Prop) (U : State), (∀ q, A' q → A q) → E2 A U → E A' U) (hpost : ∀ r u, post r u → post2 r (f u)) (hn : va_nd pm = true) (hw : ∀ u, pm.map (fun i => (wr ++ w1 u)[i]?) = (w2 (f u)).map some) : XMi l D tys E2 y bytes maxL ret rm av ws post2 w2 := by
  intro sz
  have hAA := va_A_up (sz := sz) hcut.1
  refine Met.mono (hM sz) ?_ ?_ hAA
  · intro a s h
    obtain ⟨ha, h1, hP, hK, hD, hEE⟩ := h
    exact ⟨ha, h1, xCut_P hcut hP, hK, hD.sub isC hcut.2.2.1 hcut.1, hE _ _ s hAA hEE⟩
  · intro a s o t hp hq
    obtain ⟨ha, h1, hP, hK, hD, hEE⟩ := hp
    obtain ⟨⟨r, u, ho, hpo, hB⟩, hF⟩ := hq
    subst h1
    obtain ⟨hP1, hD1⟩ := va_join (A0 := va_A ws s.heap.size) hP hD.self isC isR hcut.1 hcut.2.1 hcut.2.2.2.1 hcut.2.2.2.2 hF.2 hAA hB.1 hB.2.2
    exact ⟨⟨r, f u, ho, hpost r u hpo, hP1.sub pm (pm_filter (hw u)), hB.2.1, hD1.sub pm hn (hw u)⟩, hF.1, fun q h2 h3 => hF.2 q h2 (fun h4 => h3 (hAA q h4))⟩
theorem EV_narrow {adK adV : Nat → Nat} (A A' : Nat → Prop) (U : State) (hsub : ∀ q, A' q → A q) (h : EV adK adV A U) : EV adK adV A' U := by
  obtain ⟨e1, e2, e3, e4, e5, e6, e7, e8, e9, e10, e11, e12⟩ := h
  exact ⟨e1, e2, e3, e4, e5, e6, e7, e8, e9.narrow hsub, e10.narrow hsub, e11.narrow hsub, e12⟩
structure XS where
  t0 : Nat
  t1 : Nat
  t2 : Nat
  d0 : Nat
  d1 : Nat
  d2 : Nat
  d3 : Nat
  d4 : Nat
  d5 : Nat
  h0 : Nat
  h1 : Nat
  h2 : Nat
  h3 : Nat
  h4 : Nat
  h5 : Nat
  h6 : Nat
  h7 : Nat
  h8 : Nat
  h9 : Nat
  h10 : Nat
  h11 : Nat
  h9a : Nat
  h9b : Nat
  h10a : Nat
  h10b : Nat
  h11a : Nat
  h11b : Nat
  o0 : Nat
  o1 : Nat
  o2 : Nat
  o3 : Nat
  o4 : Nat
  o5 : Nat
  o6 : Nat
  o7 : Nat
  o8 : Nat
  o9 : Nat
  o10 : Nat
  o11 : Nat
  o9a : Nat
  o9b : Nat
  o10a : Nat
  o10b : Nat
  o11a : Nat
  o11b : Nat
  n0 : Nat
  n1 : Nat
  n2 : Nat
  n3 : Nat
  u0 : Nat
  u1 : Nat
  u2 : Nat
  u3 : Nat
  u4 : Nat
  u5 : Nat
  u6 : Nat
  u7 : Nat
  u8 : Nat
  k0 : Nat
  er : Nat
  ro : Nat
  ea : Nat → Nat
  eg : Nat → Nat
  ef : Nat → Nat
  q0 : Nat
  q1 : Nat
  q2 : Nat
  q3 : Nat
  q4 : Nat
  p0 : Nat
  p1 : Nat
  p2 : Nat
  p3 : Nat
  p4 : Nat
  s0 : Nat
  s1 : Nat
  s2 : Nat
  b0 : Nat
  b1 : Nat
  b2 : Nat
  z0 : Nat
  z1 : Nat
  z2 : Nat
  ly : Nat
  tn : Nat
  ta : Nat
  ts : Nat
  tk : Nat
  tm : Int64
  tr : Int32
  fby : Nat → Int32
  fky : Nat → Int64
  yh : Value
  yf : Value
  uh : Int32
  wt : Int32
  dt : Int32
  vv : Int32
  tq : Int32
  pq : Int32
  fd0 : Nat → Int64
  fd1 : Nat → Int64
  fd2 : Nat → Int64
  fd3 : Nat → Int64
  ys : Int32
  hon : Int32
  hwi : Int32
  hdr : Int32
  hu : Int32
  fc : Nat → Int32
  c0 : Nat
  c1 : Nat
  c2 : Nat
  c3 : Nat
  flo : Nat → Int32
  fp : Nat → Int32
  fcs : Nat → Int32
  fmp : Nat → Int32
  fmv : Nat → Int32
  fx : Nat → Int32
  fl : Nat → Int32
  nb : Nat
  tb : Int32
  fcb : Nat → Int32
  fsb : Nat → Int32
  nl : Nat
  tl : Int32
  fcl : Nat → Int32
  fsl : Nat → Int32
  nt : Nat
  tt : Int32
  fct : Nat → Int32
  fst : Nat → Int32
  ov0 : Value
  ov1 : Value
  ov2 : Value
  ov3 : Value
  ov4 : Value
  ofc : Nat → Int32
  oflo : Nat → Int32
  ofp : Nat → Int32
  ofcs : Nat → Int32
  ofmp : Nat → Int32
  ofmv : Nat → Int32
  ofx : Nat → Int32
  ofl : Nat → Int32
  oy2b : Value
  oy3b : Value
  ofcb : Nat → Int32
  ofsb : Nat → Int32
  oy2l : Value
  oy3l : Value
  ofcl : Nat → Int32
  ofsl : Nat → Int32
  oy2t : Value
  oy3t : Value
  ofct : Nat → Int32
  ofst : Nat → Int32
  fu : Int32
  cu : Nat
  un : Nat
  re : Nat
  fn : Nat → Int32
  frw : Nat → Int32
  fb : Nat → Int32
  uc : Nat
  ut : Int32
  lc : Nat
  qu : Int32
  ml : Int32
  fu1 : Nat → Int32
  fu2 : Nat → Int32
  fu3 : Nat → Int32
  fu4 : Nat → Int32
  fu5 : Nat → Int32
  fu6 : Nat → Int32
  fu7 : Nat → Int32
  fu8 : Nat → Int32
  bo : Int32
  fr : Nat → Int32
  et : Nat → Int32
  el : Nat → Nat
  ei : Nat → Nat
  gc : Nat → Nat → Int32
  xc : Nat → Nat → Int32
  qh : Value
  ql : Nat
  qo : Int32
  fy : Nat → Int32
  fph : Nat → Int32
  fwa : Nat → Int32
  fwy : Nat → Int32
  rh1 : Value
  rh2 : Value
  ch : Nat
  ffd : Nat → Int32
  fpc : Nat → Int32
  fne : Nat → Int32
  fqi : Nat → Int32
  sl : Nat
  spl : Int32
  svo : Int32
  swi : Int32
  sch : Int32
  fw : Nat → Int32
  fsn : Nat → Int32
  bl : Nat
  bpl : Int32
  bvo : Int32
  bwi : Int32
  bch : Int32
  fbw : Nat → Int32
  fbn : Nat → Int32
  zl : Nat
  zpl : Int32
  zvo : Int32
  zwi : Int32
  zch : Int32
  fzw : Nat → Int32
  fzn : Nat → Int32
  yc : Nat
  fyl : Nat → Int32
structure MS where
  Mtape : Nat
  MnName : Nat
  MnStep : Nat
  MnArg : Nat
  MnMany : Nat
  Mstep : Nat
  Marg : Nat
  Mmany : Nat
  Mopen : Nat
  Mvalues : Nat
  MnHasForm : Nat
  MhasForm : Nat
  Masks : Nat
  MnLoud : Nat
  MnCliffAt : Nat
  MnSnow : Nat
  MnManAt : Nat
  MnVoice : Nat
  MnOn : Nat
  Mloud : Nat
  McliffAt : Nat
  MsnowTold : Nat
  MmanAt : Nat
  Mvoice : Nat
  Mon : Nat
  MnYes : Nat
  Myes : Nat
  Mnow : Nat
  Mcry : Nat
  Msnow : Nat
  Mecho : Nat
  Mwere : Nat
  Mlies : Nat
  Mspots : Nat
  Msteps : Nat
  MfromState : Nat
  MbyWord : Nat
  Mqueue : Nat
  MsoundCliff : Nat
  MsoundLong : Nat
  MsoundCame : Nat
  MsoundTold : Nat
  MsoundUntold : Nat
  Mstands : Nat
  Mtally : Nat
  MhasBox : Nat
  Mboxes : Nat
  Gtape : Nat → Int32
  Itaped : Nat
  Ifault : Nat
  IfaultPlace : Int32
  Iat : Nat
  Isize : Nat
  Isort : Int32
  Iplace : Int32
  Inumber : Int32
  Iword : Int64
  GnName : Nat → Int64
  GnStep : Nat → Int32
  GnArg : Nat → Int32
  GnMany : Nat → Int32
  Gstep : Nat → Int32
  Garg : Nat → Int32
  Gmany : Nat → Int32
  Gopen : Nat → Int32
  Gvalues : Nat → Int32
  GnHasForm : Nat → Int32
  GhasForm : Nat → Int32
  Iform : Nat
  Iopens : Nat
  InUnits : Int32
  Iunits : Int32
  IownUnits : Nat
  Ideep : Nat
  Gasks : Nat → Int32
  GnLoud : Nat → Int32
  GnCliffAt : Nat → Int32
  GnSnow : Nat → Int32
  GnManAt : Nat → Int32
  GnVoice : Nat → Int32
  GnOn : Nat → Int32
  Gloud : Nat → Int32
  GcliffAt : Nat → Int32
  GsnowTold : Nat → Int32
  GmanAt : Nat → Int32
  Gvoice : Nat → Int32
  Gon : Nat → Int32
  GnYes : Nat → Int32
  Gyes : Nat → Int32
  InWords : Nat
  InCliffs : Nat
  InMen : Nat
  InStates : Nat
  InOns : Int32
  InWind : Int32
  InDraw : Int32
  Iwords : Nat
  Icliffs : Nat
  Imen : Nat
  Istates : Nat
  Ions : Int32
  IwindTold : Int32
  InHasWind : Int32
  InHasDraw : Int32
  Gnow : Nat → Int32
  Gcry : Nat → Int32
  Gsnow : Nat → Int32
  Gecho : Nat → Int32
  IcryMany : Nat
  IcallPlace : Int32
  IcallVoice : Int32
  Iwind : Int32
  Ichance : Int32
  IechoMany : Nat
  Gwere : Nat → Int32
  Iacts : Nat
  Iundone : Nat
  Glies : Nat → Int32
  Ilain : Nat
  Gspots : Nat → Int32
  Gsteps : Nat → Int32
  GfromState : Nat → Int32
  GbyWord : Nat → Int32
  Gqueue : Nat → Int32
  GsoundCliff : Nat → Int32
  GsoundLong : Nat → Int32
  GsoundCame : Nat → Int32
  GsoundTold : Nat → Int32
  GsoundUntold : Nat → Int32
  Isounds : Nat
  Itime : Int32
  Gstands : Nat → Int32
  IstandMany : Int32
  Gtally : Nat → Int32
  GhasBox : Nat → Int32
  Gboxes : Nat → Int32
  mm : Nat → Nat
  HH : Nat → Nat → Nat
  am : Nat → Nat
  AH : Nat → Nat → Nat
def IX (cy : Nat → ClassId) (x0 : Nat) (u : XS) : va_W := [(x0, .inr (11, [.ref u.t0, .ref u.d0, .ref u.h0, .ref u.o0, .ref u.n0, .ref u.u0, .ref u.k0, .ref u.q0, .ref u.p0, .ref u.s0, .ref u.b0, .ref u.z0, .ref u.ly, .int (nI u.yc)])), (u.t0, .inr (9, [.ref u.t1, .ref u.t2, .int (nI u.tn), .int (nI u.ta), .int (nI u.ts), .int (nI u.tk), .long u.tm, .int u.tr])), (u.t1, .inl (cy 0, 1600, .inl (u.fby))), (u.t2, .inl (cy 2, 24, .inr (.inl (u.fky)))), (u.d0, .inr (10, [.ref u.t0, .ref u.d1, u.yh, u.yf, .int u.uh, .int u.wt, .int u.dt, .int u.vv, .int u.tq, .int u.pq])), (u.d1, .inl (cy 5, 4, .inr (.inr (.inr (.inr (eF u.d2 u.d3 u.d4 u.d5)))))), (u.d2, .inl (cy 2, 8, .inr (.inl (u.fd0)))), (u.d3, .inl (cy 2, 8, .inr (.inl (u.fd1)))), (u.d4, .inl (cy 2, 8, .inr (.inl (u.fd2)))), (u.d5, .inl (cy 2, 8, .inr (.inl (u.fd3)))), (u.h0, .inr (4, [.ref u.h1, .ref u.h2, .ref u.h3, .ref u.h4, .ref u.h5, .ref u.h6, .ref u.h7, .ref u.h8, .ref u.h9, .ref u.h10, .ref u.h11, .int u.ys, .int u.hon, .int u.hwi, .int u.hdr, .int u.hu])), (u.h1, .inl (cy 1, 4, .inl (u.fc))), (u.h2, .inl (cy 1, 8, .inl (u.flo))), (u.h3, .inl (cy 1, 4, .inl (u.fp))), (u.h4, .inl (cy 1, 4, .inl (u.fcs))), (u.h5, .inl (cy 1, 4, .inl (u.fmp))), (u.h6, .inl (cy 1, 4, .inl (u.fmv))), (u.h7, .inl (cy 1, 48, .inl (u.fx))), (u.h8, .inl (cy 1, 6, .inl (u.fl))), (u.h9, .inr (3, [.ref u.h9a, .ref u.h9b, .int (nI u.nb), .int u.tb])), (u.h9a, .inl (cy 1, 280, .inl (u.fcb))), (u.h9b, .inl (cy 1, 31, .inl (u.fsb))), (u.h10, .inr (3, [.ref u.h10a, .ref u.h10b, .int (nI u.nl), .int u.tl])), (u.h10a, .inl (cy 1, 280, .inl (u.fcl))), (u.h10b, .inl (cy 1, 31, .inl (u.fsl))), (u.h11, .inr (3, [.ref u.h11a, .ref u.h11b, .int (nI u.nt), .int u.tt])), (u.h11a, .inl (cy 1, 280, .inl (u.fct))), (u.h11b, .inl (cy 1, 31, .inl (u.fst))), (u.o0, .inr (4, [.ref u.o1, .ref u.o2, .ref u.o3, .ref u.o4, .ref u.o5, .ref u.o6, .ref u.o7, .ref u.o8, .ref u.o9, .ref u.o10, .ref u.o11, u.ov0, u.ov1, u.ov2, u.ov3, u.ov4])), (u.o1, .inl (cy 1, 4, .inl (u.ofc))), (u.o2, .inl (cy 1, 8, .inl (u.oflo))), (u.o3, .inl (cy 1, 4, .inl (u.ofp))), (u.o4, .inl (cy 1, 4, .inl (u.ofcs))), (u.o5, .inl (cy 1, 4, .inl (u.ofmp))), (u.o6, .inl (cy 1, 4, .inl (u.ofmv))), (u.o7, .inl (cy 1, 48, .inl (u.ofx))), (u.o8, .inl (cy 1, 6, .inl (u.ofl))), (u.o9, .inr (3, [.ref u.o9a, .ref u.o9b, u.oy2b, u.oy3b])), (u.o9a, .inl (cy 1, 280, .inl (u.ofcb))), (u.o9b, .inl (cy 1, 31, .inl (u.ofsb))), (u.o10, .inr (3, [.ref u.o10a, .ref u.o10b, u.oy2l, u.oy3l])), (u.o10a, .inl (cy 1, 280, .inl (u.ofcl))), (u.o10b, .inl (cy 1, 31, .inl (u.ofsl))), (u.o11, .inr (3, [.ref u.o11a, .ref u.o11b, u.oy2t, u.oy3t])), (u.o11a, .inl (cy 1, 280, .inl (u.ofct))), (u.o11b, .inl (cy 1, 31, .inl (u.ofst))), (u.n0, .inr (5, [.ref u.n1, .ref u.n2, .ref u.n3, .int u.fu, .int (nI u.cu), .int (nI u.un), .int (nI u.re)])), (u.n1, .inl (cy 1, 41, .inl (u.fn))), (u.n2, .inl (cy 1, 1681, .inl (u.frw))), (u.n3, .inl (cy 1, 123, .inl (u.fb))), (u.u0, .inr (8, [.ref u.u1, .ref u.u2, .ref u.u3, .ref u.u4, .ref u.u5, .ref u.u6, .ref u.u7, .ref u.u8, .int (nI u.uc), .int u.ut, .int (nI u.lc), .int u.qu, .int u.ml])), (u.u1, .inl (cy 1, 30, .inl (u.fu1))), (u.u2, .inl (cy 1, 30, .inl (u.fu2))), (u.u3, .inl (cy 1, 30, .inl (u.fu3))), (u.u4, .inl (cy 1, 30, .inl (u.fu4))), (u.u5, .inl (cy 1, 30, .inl (u.fu5))), (u.u6, .inl (cy 1, 100, .inl (u.fu6))), (u.u7, .inl (cy 1, 11, .inl (u.fu7))), (u.u8, .inl (cy 1, 7, .inl (u.fu8))), (u.k0, .inr (0, [.ref u.er, .ref u.ro, .int u.bo])), (u.er, .inl (cy 4, 4, .inr (.inr (.inr (.inr (eF (u.ea 0) (u.ea 1) (u.ea 2) (u.ea 3))))))), (u.ro, .inl (cy 1, 20, .inl (u.fr))), (u.ea 0, .inr (2, [.ref (u.eg 0), .ref (u.ef 0), .int (u.et 0), .int (nI (u.el 0)), .int (nI (u.ei 0))])), (u.eg 0, .inl (cy 1, 10, .inl (u.gc 0))), (u.ef 0, .inl (cy 1, 7, .inl (u.xc 0))), (u.ea 1, .inr (2, [.ref (u.eg 1), .ref (u.ef 1), .int (u.et 1), .int (nI (u.el 1)), .int (nI (u.ei 1))])), (u.eg 1, .inl (cy 1, 10, .inl (u.gc 1))), (u.ef 1, .inl (cy 1, 7, .inl (u.xc 1))), (u.ea 2, .inr (2, [.ref (u.eg 2), .ref (u.ef 2), .int (u.et 2), .int (nI (u.el 2)), .int (nI (u.ei 2))])), (u.eg 2, .inl (cy 1, 10, .inl (u.gc 2))), (u.ef 2, .inl (cy 1, 7, .inl (u.xc 2))), (u.ea 3, .inr (2, [.ref (u.eg 3), .ref (u.ef 3), .int (u.et 3), .int (nI (u.el 3)), .int (nI (u.ei 3))])), (u.eg 3, .inl (cy 1, 10, .inl (u.gc 3))), (u.ef 3, .inl (cy 1, 7, .inl (u.xc 3))), (u.q0, .inr (1, [.ref u.q1, .ref u.er, .ref u.q2, .ref u.q3, .ref u.q4, u.qh, .int (nI u.ql), .int u.qo])), (u.q1, .inl (cy 1, 5, .inl (u.fy))), (u.q2, .inl (cy 1, 24, .inl (u.fph))), (u.q3, .inl (cy 1, 10, .inl (u.fwa))), (u.q4, .inl (cy 1, 66, .inl (u.fwy))), (u.p0, .inr (6, [.ref u.p1, .ref u.er, .ref u.ro, .ref u.p2, .ref u.p3, .ref u.p4, u.rh1, u.rh2, .int (nI u.ch)])), (u.p1, .inl (cy 1, 3, .inl (u.ffd))), (u.p2, .inl (cy 1, 3, .inl (u.fpc))), (u.p3, .inl (cy 1, 4, .inl (u.fne))), (u.p4, .inl (cy 1, 40, .inl (u.fqi))), (u.s0, .inr (7, [.ref u.s1, .ref u.s2, .int (nI u.sl), .int u.spl, .int u.svo, .int u.swi, .int u.sch])), (u.s1, .inl (cy 1, 10, .inl (u.fw))), (u.s2, .inl (cy 1, 4, .inl (u.fsn))), (u.b0, .inr (7, [.ref u.b1, .ref u.b2, .int (nI u.bl), .int u.bpl, .int u.bvo, .int u.bwi, .int u.bch])), (u.b1, .inl (cy 1, 10, .inl (u.fbw))), (u.b2, .inl (cy 1, 4, .inl (u.fbn))), (u.z0, .inr (7, [.ref u.z1, .ref u.z2, .int (nI u.zl), .int u.zpl, .int u.zvo, .int u.zwi, .int u.zch])), (u.z1, .inl (cy 1, 10, .inl (u.fzw))), (u.z2, .inl (cy 1, 4, .inl (u.fzn))), (u.ly, .inl (cy 1, 10, .inl (u.fyl)))]
def IM (cy : Nat → ClassId) (m0 : Nat) (v : MS) : va_W := [(m0, .inr (12, [.ref v.Mtape, .int (nI v.Itaped), .int (nI v.Ifault), .int v.IfaultPlace, .int (nI v.Iat), .int (nI v.Isize), .int v.Isort, .int v.Iplace, .int v.Inumber, .long v.Iword, .ref v.MnName, .ref v.MnStep, .ref v.MnArg, .ref v.MnMany, .ref v.Mstep, .ref v.Marg, .ref v.Mmany, .ref v.Mopen, .ref v.Mvalues, .ref v.MnHasForm, .ref v.MhasForm, .int (nI v.Iform), .int (nI v.Iopens), .int v.InUnits, .int v.Iunits, .int (nI v.IownUnits), .int (nI v.Ideep), .ref v.Masks, .ref v.MnLoud, .ref v.MnCliffAt, .ref v.MnSnow, .ref v.MnManAt, .ref v.MnVoice, .ref v.MnOn, .ref v.Mloud, .ref v.McliffAt, .ref v.MsnowTold, .ref v.MmanAt, .ref v.Mvoice, .ref v.Mon, .ref v.MnYes, .ref v.Myes, .int (nI v.InWords), .int (nI v.InCliffs), .int (nI v.InMen), .int (nI v.InStates), .int v.InOns, .int v.InWind, .int v.InDraw, .int (nI v.Iwords), .int (nI v.Icliffs), .int (nI v.Imen), .int (nI v.Istates), .int v.Ions, .int v.IwindTold, .int v.InHasWind, .int v.InHasDraw, .ref v.Mnow, .ref v.Mcry, .ref v.Msnow, .ref v.Mecho, .int (nI v.IcryMany), .int v.IcallPlace, .int v.IcallVoice, .int v.Iwind, .int v.Ichance, .int (nI v.IechoMany), .ref v.Mwere, .int (nI v.Iacts), .int (nI v.Iundone), .ref v.Mlies, .int (nI v.Ilain), .ref v.Mspots, .ref v.Msteps, .ref v.MfromState, .ref v.MbyWord, .ref v.Mqueue, .ref v.MsoundCliff, .ref v.MsoundLong, .ref v.MsoundCame, .ref v.MsoundTold, .ref v.MsoundUntold, .int (nI v.Isounds), .int v.Itime, .ref v.Mstands, .int v.IstandMany, .ref v.Mtally, .ref v.MhasBox, .ref v.Mboxes])), (v.Mtape, .inl (cy 1, 1600, .inl (v.Gtape))), (v.MnName, .inl (cy 2, 24, .inr (.inl (v.GnName)))), (v.MnStep, .inl (cy 1, 960, .inl (v.GnStep))), (v.MnArg, .inl (cy 1, 960, .inl (v.GnArg))), (v.MnMany, .inl (cy 1, 3, .inl (v.GnMany))), (v.Mstep, .inl (cy 1, 960, .inl (v.Gstep))), (v.Marg, .inl (cy 1, 960, .inl (v.Garg))), (v.Mmany, .inl (cy 1, 3, .inl (v.Gmany))), (v.Mopen, .inl (cy 1, 160, .inl (v.Gopen))), (v.Mvalues, .inl (cy 1, 64, .inl (v.Gvalues))), (v.MnHasForm, .inl (cy 3, 3, .inl (v.GnHasForm))), (v.MhasForm, .inl (cy 3, 3, .inl (v.GhasForm))), (v.Masks, .inl (cy 1, 7, .inl (v.Gasks))), (v.MnLoud, .inl (cy 1, 8, .inl (v.GnLoud))), (v.MnCliffAt, .inl (cy 1, 4, .inl (v.GnCliffAt))), (v.MnSnow, .inl (cy 1, 4, .inl (v.GnSnow))), (v.MnManAt, .inl (cy 1, 4, .inl (v.GnManAt))), (v.MnVoice, .inl (cy 1, 4, .inl (v.GnVoice))), (v.MnOn, .inl (cy 1, 48, .inl (v.GnOn))), (v.Mloud, .inl (cy 1, 8, .inl (v.Gloud))), (v.McliffAt, .inl (cy 1, 4, .inl (v.GcliffAt))), (v.MsnowTold, .inl (cy 1, 4, .inl (v.GsnowTold))), (v.MmanAt, .inl (cy 1, 4, .inl (v.GmanAt))), (v.Mvoice, .inl (cy 1, 4, .inl (v.Gvoice))), (v.Mon, .inl (cy 1, 48, .inl (v.Gon))), (v.MnYes, .inl (cy 3, 6, .inl (v.GnYes))), (v.Myes, .inl (cy 3, 6, .inl (v.Gyes))), (v.Mnow, .inl (cy 1, 42, .inl (v.Gnow))), (v.Mcry, .inl (cy 1, 10, .inl (v.Gcry))), (v.Msnow, .inl (cy 1, 4, .inl (v.Gsnow))), (v.Mecho, .inl (cy 1, 20, .inl (v.Gecho))), (v.Mwere, .inl (cy 1, 1680, .inl (v.Gwere))), (v.Mlies, .inl (cy 1, 20, .inl (v.Glies))), (v.Mspots, .inl (cy 1, 3, .inl (v.Gspots))), (v.Msteps, .inl (cy 1, 6, .inl (v.Gsteps))), (v.MfromState, .inl (cy 1, 6, .inl (v.GfromState))), (v.MbyWord, .inl (cy 1, 6, .inl (v.GbyWord))), (v.Mqueue, .inl (cy 1, 6, .inl (v.Gqueue))), (v.MsoundCliff, .inl (cy 1, 30, .inl (v.GsoundCliff))), (v.MsoundLong, .inl (cy 1, 30, .inl (v.GsoundLong))), (v.MsoundCame, .inl (cy 1, 30, .inl (v.GsoundCame))), (v.MsoundTold, .inl (cy 1, 30, .inl (v.GsoundTold))), (v.MsoundUntold, .inl (cy 1, 30, .inl (v.GsoundUntold))), (v.Mstands, .inl (cy 3, 100, .inl (v.Gstands))), (v.Mtally, .inl (cy 1, 11, .inl (v.Gtally))), (v.MhasBox, .inl (cy 3, 3, .inl (v.GhasBox))), (v.Mboxes, .inl (cy 1, 126, .inl (v.Gboxes)))]
structure okX (u : XS) : Prop where
  htn : u.tn ≤ 1600
  hcn : cntOK u.fc u.c0 u.c1 u.c2 u.c3
  hc0 : u.c0 ≤ 8
  hc1 : u.c1 ≤ 4
  hc2 : u.c2 ≤ 4
  hc3 : u.c3 ≤ 6
  hnx : rng u.fx 48 5
  hnb : u.nb ≤ 280
  hcb : cOK u.fcb u.nb
  hnt : u.nt ≤ 280
  hct : cOK u.fct u.nt
  hnl : u.nl ≤ 280
  hcl : cOK u.fcl u.nl
  hcu : u.cu ≤ 40
  hur : u.un + u.re ≤ 40
  hno : mRows u.fn 1
  hro : mRows u.frw 41
  hbx : mRows u.fb 3
  huc : u.uc ≤ 30
  hlc : u.lc ≤ 100
  hu1 : rng u.fu1 30 3
  hu2 : rng u.fu2 30 10
  hel : ∀ i9, i9 < 4 → u.el i9 ≤ 10
  hrw : rng u.fr 20 7
  hph : pRow u.fph
  hpc : rng u.fpc 3 9
  hch : u.ch ≤ 3
  hsl : u.sl ≤ 10
  hsw : rng u.fw 10 7
  hbl : u.bl ≤ 10
  hbw : rng u.fbw 10 7
  hzl : u.zl ≤ 10
  hzw : rng u.fzw 10 7
  hyc : u.yc ≤ 10
structure okM (v : MS) : Prop where
  gtp : v.Itaped ≤ 1600
  gat : v.Iat ≤ v.Isize
  gsz : v.Isize ≤ 1600
  gfl : v.Ifault ≤ 5
  gfo : v.Iform ≤ 2
  gnw : v.InWords ≤ 8
  gnc : v.InCliffs ≤ 4
  gnm : v.InMen ≤ 4
  gns : v.InStates ≤ 6
  gw : v.Iwords ≤ 8
  gc9 : v.Icliffs ≤ 4
  gm : v.Imen ≤ 4
  gs : v.Istates ≤ 6
  gcm : v.IcryMany ≤ 10
  gem : v.IechoMany ≤ 20
  gau : v.Iacts + v.Iundone ≤ 40
  gla : v.Ilain ≤ 20
  gso : v.Isounds ≤ 30
  gop : v.Iopens ≤ 40
  gde : v.Ideep ≤ 8
  gou : v.IownUnits ≤ 31
  gcry : rng v.Gcry 10 7
  gech : rng v.Gecho 20 7
  gsc : rng v.GsoundCliff 30 3
  gsl : rng v.GsoundLong 30 10
  gnow : wRows v.Gnow 1
  gwer : wRows v.Gwere 40
  gbox : wRows v.Gboxes 3
  gon : nxT v.Gon
  gnon : nxT v.GnOn
  gque : rng v.Gqueue 6 5
  gfst : rng v.GfromState 6 5
  gall : allR v.GnStep v.GnArg v.GnMany v.mm v.HH
  gal2 : allR v.Gstep v.Garg v.Gmany v.am v.AH
