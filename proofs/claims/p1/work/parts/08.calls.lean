/-! ===== calls of contracts, exceptions that pass, throws ===== -/
section GLE
def gx_Q (Qc : Array Value → State → Outcome → State → Prop) (XC : String → State → State → Prop) (mc ms : Nat) (free : Addr → Prop) : Array Value → State → Outcome → State → Prop := fun a st o t => (Qc a st o t ∧ ∃ L, FrameEnd st o t L 0 0 ∧ ∀ q ∈ L, free q.base) ∨ ∃ q, o = .threw q ∧ vx_T XC st q t mc ms free
section Back
variable {l : Launch} {R : Room} {p : Program} {e : Env} {below : List Frame} {s : State} {sargs : Array Value} {y : MethodName} {len W9 : Nat}
/-- vx_back with two prices: a return costs nothing, a throw one cell (the printed row's proof, its first case with 0 for the price) -/
theorem g_back {ws : List Cond} {rm : Room} {Pc : Array Value → State → Prop} {Qc : Array Value → State → Outcome → State → Prop} {XC : String → State → State → Prop} {mc ms : Nat} {free : Addr → Prop} {bytes : ByteArray} {maxL : Nat} {ret : Option FieldType}
    (hM : MetFree l y (headSpec ws rm) Pc (fun _ _ _ _ _ => True) (gx_Q Qc XC mc ms free)) (hblind : FrameBlind Pc) (hrc : rm.cells = mc) (hrs : rm.slots = ms)
    (hframes : rm.frames + 1 ≤ R.frames) (hlocals : W9 + (maxL + 11) + rm.locals ≤ R.locals)
    (hws : ∀ w ∈ ws, ∀ a' U, s.WarmedH U.vm → w.before a' U = true) (hcode : Cond.code y bytes maxL ret ∈ ws) (hinit : ∀ a' U, s.WarmedH U.vm → (Cond.initialized y.cls).before a' U = true) :
    vx_Back l R p e below s sargs y len W9 (PreOf R mc ms Pc) (PostOf Qc 0 0 free) (vx_Post XC mc ms free) := by
  intro m meth c A g ig mk a X hg hsize hdg hW hn hp
  have h1 : (headSpec ws rm).pre.before a A.U = true := atoms_intro fun w hw => hws w hw _ _ X.warmed
  have h2 : (Cond.code y bytes maxL ret).before a A.U = true := hws _ hcode _ _ X.warmed
  have h3 : (Cond.initialized y.cls).before a A.U = true := hinit _ _ X.warmed
  have h4 : A.cells + (headSpec ws rm).room.cells ≤ R.cells := by rw [show (headSpec ws rm).room.cells = mc from hrc]; exact hp.1
  have h5 : A.slots + (headSpec ws rm).room.slots ≤ R.slots := by rw [show (headSpec ws rm).room.slots = ms from hrs]; exact hp.2.1
  have hPc : Pc a (A.U.calling g mk a) := hblind _ _ _ _ hp.2.2
  obtain ⟨U, Ls, c0, s0⟩ := A
  dsimp only [Pt.U, Pt.locs, Pt.cells, Pt.slots] at h1 h2 h3 h4 h5 X hn hPc ⊢
  obtain ⟨methY, cY, hmY, hcY, -, hlY, -, -, -, -⟩ := Cond.code_spec hn h2
  obtain ⟨kY, hkY, -⟩ := className_of_methodNamed hn
  have hinitY : kY.init = .initialized := Cond.initialized_spec (findClass_of_methodNamed hn) hkY h3
  have h : At U g.method c below := by rw [hg]; exact X.here
  have hlocals9 : W9 + (maxL + 11) + (headSpec ws rm).room.locals ≤ R.locals := hlocals
  have happ : (headSpec ws rm).appliesLoose y e.platform (U.calling g mk a) = true :=
    Spec.appliesLoose_calling (g := g) h hdg hn hkY hinitY
      (X.room_calling (g := g) (R' := (headSpec ws rm).room) hsize hmY hcY hframes (by rw [hlY]; omega) h4 h5) h1
  obtain ⟨mid, hmid⟩ := h.above
  have hfr : (U.setTop g).frames = (.java g :: mid) ++ below := by rw [State.frames_setTop' g h.top, hmid]; rfl
  obtain ⟨o, s₂, hsteps, -, hend, hq⟩ := Steps.callFree hM p X.admits X.cas X.clock (acts := []) hfr happ hPc trivial
  have hq' : gx_Q Qc XC mc ms free a (U.calling g mk a) o s₂ := hq
  rw [State.frames_setTop' g h.top] at hend
  obtain ⟨g₀, hg0⟩ := Option.isSome_iff_exists.mp h.top
  obtain ⟨r, hr⟩ := State.topJava?_eq_some.mp hg0
  have hr' : (({ U with heap := s₂.heap, slotsUsed := s₂.slotsUsed } : State).setVm s₂.vm).frames = .java g₀ :: r := hr
  rcases hq' with ⟨hqc, L, hfe, hL⟩ | ⟨q, rfl, E, ce, L, hx, hce, hcv, hcl, hW₂, hsm, hL⟩
  · obtain ⟨⟨v, rfl⟩, hW₂, e2, q2, q3, q4, q5, q6⟩ := id hfe
    have e3 : s₂ = ({ (U.calling g mk a).setFrames s₂.frames with heap := s₂.heap, slotsUsed := s₂.slotsUsed } : State).setVm s₂.vm := by
      have : s₂ = ({ s₂ with vm := (U.calling g mk a).vm } : State).setVm s₂.vm := rfl
      rw [e2] at this
      exact this
    obtain ⟨c₂, i₂, len₂, hc₂, hd₂, hf₂⟩ := hend
    have hW' : U.WarmedH s₂.vm := hW₂
    have hcc : c₂ = c := by
      have h1 : s₂.code? g.method = U.code? g.method := by
        rw [State.code?_eq, State.code?_eq, hW'.alike.method?]
      exact Option.some.inj (hc₂.symm.trans (h1.trans h.code))
    subst hcc
    have hlen : len₂ = len := by rw [hdg] at hd₂; cases hd₂; rfl
    subst hlen
    have hs₂ : s₂ = (({ U with heap := s₂.heap, slotsUsed := s₂.slotsUsed } : State).setVm s₂.vm).setTop { g with pc := g.pc + len₂, stack := v.toList ++ g.stack } := by
      refine e3.trans ?_
      rw [hf₂, State.calling_eq h.top, State.setFrames_setFrames, State.setTop_of_frames _ hr', hr]
      rfl
    have hsame : U.sameButNew ({ U with heap := s₂.heap, slotsUsed := s₂.slotsUsed } : State) L 0 0 := by
      refine ⟨?_, q2, q3, q4, q5, q6⟩
      obtain ⟨t, ht, -⟩ := State.frames_cons hr
      show ({ U with heap := s₂.heap, slotsUsed := s₂.slotsUsed } : State) = { U.setFrames U.frames with heap := s₂.heap, slotsUsed := s₂.slotsUsed }
      rw [State.setFrames_self ht]
    subst hg
    refine Or.inl ⟨v, ⟨(({ U with heap := s₂.heap, slotsUsed := s₂.slotsUsed } : State).setVm s₂.vm), Ls ++ L, c0 + 0, s0 + 0⟩,
      ⟨X.admits, X.cas, X.clock, X.frames, X.room, X.hears, X.method, X.code, (X.here.setHeapUsed s₂.heap s₂.slotsUsed).setVm hW'.alike, X.tail, State.WarmedH.trans X.warmed hW', X.limits, X.bytes, X.same.trans (hsame.setVm s.vm)⟩,
      ⟨g, mk, s₂, L, rfl, rfl, hqc, rfl, hL, rfl, rfl⟩, ?_⟩
    show Steps p.tables e below _ ((({ U with heap := s₂.heap, slotsUsed := s₂.slotsUsed } : State).setVm s₂.vm).setTop { g with pc := g.pc + len₂, stack := v.toList ++ g.stack })
    rw [← hs₂]
    exact hsteps
  · obtain ⟨e2, q2, q3, q4, q5, q6⟩ := id hsm
    have e3 : s₂ = ({ (U.calling g mk a).setFrames s₂.frames with heap := s₂.heap, slotsUsed := s₂.slotsUsed } : State).setVm s₂.vm := by
      have : s₂ = ({ s₂ with vm := (U.calling g mk a).vm } : State).setVm s₂.vm := rfl
      rw [e2] at this
      exact this
    have hf₂ : s₂.frames = .throwing q :: .java g :: U.frames.tail := hend
    have hW' : U.WarmedH s₂.vm := hW₂
    have hs₂ : s₂ = ((({ U with heap := s₂.heap, slotsUsed := s₂.slotsUsed } : State).setVm s₂.vm).setTop g).pushFrame (.throwing q) := by
      refine e3.trans ?_
      rw [hf₂, State.calling_eq h.top, State.setFrames_setFrames, State.pushFrame, State.frames_setTop _ hr', State.setTop_of_frames _ hr', State.setFrames_setFrames, hr]
      rfl
    have hsame : U.sameButNew ({ U with heap := s₂.heap, slotsUsed := s₂.slotsUsed } : State) L mc ms := by
      refine ⟨?_, q2, q3, q4, q5, q6⟩
      obtain ⟨t, ht, -⟩ := State.frames_cons hr
      show ({ U with heap := s₂.heap, slotsUsed := s₂.slotsUsed } : State) = { U.setFrames U.frames with heap := s₂.heap, slotsUsed := s₂.slotsUsed }
      rw [State.setFrames_self ht]
    subst hg
    refine Or.inr ⟨q, ⟨(({ U with heap := s₂.heap, slotsUsed := s₂.slotsUsed } : State).setVm s₂.vm), Ls ++ L, c0 + mc, s0 + ms⟩,
      ⟨X.admits, X.cas, X.clock, X.frames, X.room, X.hears, X.method, X.code, (X.here.setHeapUsed s₂.heap s₂.slotsUsed).setVm hW'.alike, X.tail, State.WarmedH.trans X.warmed hW', X.limits, X.bytes, X.same.trans (hsame.setVm s.vm)⟩,
      ⟨g, mk, s₂, L, E, ce, rfl, rfl, hx, hce, hcv, hcl, rfl, hL, rfl, rfl⟩, ?_⟩
    show Steps p.tables e below _ (((({ U with heap := s₂.heap, slotsUsed := s₂.slotsUsed } : State).setVm s₂.vm).setTop g).pushFrame (.throwing q))
    rw [← hs₂]
    exact hsteps
end Back
theorem gPre.blind {E : gE} {as : List Value} {f : Nat → va_E} {sz : Nat} : FrameBlind (gPre E as f sz) := by
  intro a U g mk h
  obtain ⟨h1, h2, h3, h4, h5⟩ := h
  exact ⟨h1, h2, h3, h4, h5.moved (U := U.calling g mk a) (State.WarmedH.refl U) (fun _ _ _ => rfl) (fun _ h => h)⟩
/-- the words of a call: its link, the callee's code, its class -/
def Cw (own : String) (idx : Nat) (y : MethodName) (cc : ByteArray) (nL : Nat) (ret : Option FieldType) (np : Nat) : Prop :=
  Cond.methodLink own idx y ∈ TB ∧ Cond.code y cc nL ret ∈ TB ∧ Cond.initialized y.cls ∈ TB ∧ (y.cls ≠ "java/lang/invoke/MethodHandle" ∧ y.cls ≠ "java/lang/invoke/VarHandle") ∧ (parseMethodDescriptor y.desc).map (fun d => d.parameters.length) = some np ∧ nL ≤ 45
section Calls
variable {E : gE} {K : gM} {cc : ByteArray} {Q : gQ} {f : Nat → va_E} {pc : Nat} {lv : List (Nat × Value)}
/-- behind a callee's return or throw -/
theorem g_behind {p : Program} {e : Env} {s : State} {m : MethodId} {args : Array Value} {below : List Frame} {meth : Method} {c : Code} {H : Heap} {locs : List Loc} {ls : Array Slot} {st rest : List Value} {Q' : gQ} {a9 : Array Value} {T : State}
    (C : Cx E K cc p s m args meth c) (h100 : K.1 ≤ 100) (hD : va_D K.2.2.2.2.2 (wl (gN E) (gAd E) f)) (hS : va_S K.2.2.2.2.2 s.heap H locs) (hl : lv_has ls K.2.2.1 lv) (hT : T.heap = H)
    (kn : ∀ v g, Q'.1 v g → G E K cc (gO E K Q) (pc + 3) lv (v.toList ++ rest) g) (ke : ∀ X g, Q'.2 X g → Q.2 X g)
    (hr : (∃ (v : Option Value) (vm₁ : Vm) (B : Pt), s.WarmedH vm₁ ∧ Stand p E.1 e (gR K.1) s m args below meth c B.U B.locs B.cells B.slots ∧ PostOf (gQn E (va_A (wl (gN E) (gAd E) f) H.size) Q') 0 0 (va_A (wl (gN E) (gAd E) f) H.size) ⟨T.setVm vm₁, locs, 0, 0⟩ a9 v B ∧
        ∀ target, Steps p.tables e below (B.U.setTop { (F0 m pc ls st) with pc := (F0 m pc ls st).pc + 3, stack := v.toList ++ rest }) target → Steps p.tables e below (T.setTop (F0 m pc ls st)) target) ∨
      (∃ (q : Addr) (vm₁ : Vm) (B : Pt), s.WarmedH vm₁ ∧ Stand p E.1 e (gR K.1) s m args below meth c B.U B.locs B.cells B.slots ∧ vx_Post (gQx E (va_A (wl (gN E) (gAd E) f) H.size) Q') 1 6 (va_A (wl (gN E) (gAd E) f) H.size) ⟨T.setVm vm₁, locs, 0, 0⟩ a9 q B ∧
        Steps p.tables e below (T.setTop (F0 m pc ls st)) ((B.U.setTop { (F0 m pc ls st) with stack := rest }).pushFrame (.throwing q)))) :
    ∃ t, Steps p.tables e below (T.setTop (F0 m pc ls st)) t ∧ gZ E K Q below args s t := by
  obtain ⟨hx, hb, hml, hrt, hown, hts, hlocks, hno, hsz, hA, hnm, hgs⟩ := id C
  have hAA : ∀ q, va_A (wl (gN E) (gAd E) f) H.size q → K.2.2.2.2.2 q := by
    intro q hq
    rcases hq with ⟨k, e9, hk⟩ | hq
    · exact hD.2 k _ hk
    · exact hA q (Nat.le_trans (by rw [← hsz]; exact hS.1) hq)
  rcases hr with ⟨v, vm₁, ⟨U', l2, c2, s2⟩, hW₁, X', ⟨g', mk, t, L, e1, e2, ⟨v9, g, hv, hq, hP9, hF9⟩, h1, hL, h2, h3⟩, st1⟩ | ⟨q, vm₁, ⟨U', l2, c2, s2⟩, hW₁, X', ⟨g', mk, t, L, X9, ce, e1, e2, ⟨g, hq, hP9, hF9⟩, hce, hcv, hcl, h1, hL, h2, h3⟩, st1⟩
  · dsimp only [Pt.U, Pt.locs, Pt.cells, Pt.slots] at X' e1 e2 h1 h2 h3 st1
    subst h1; subst h2; subst h3
    cases hv
    obtain ⟨k1, k2, k3⟩ := vx_keep (H := H) (st₀ := (T.setVm vm₁).calling g' mk a9) hT e1 hS (fun q _ h => hAA q h) hAA hL hF9
    obtain ⟨t2, a1, b1⟩ := kn v g hq p e s m args below meth c C U'.heap (locs ++ L) ls (by rw [e1]; exact hP9) (wl_D hD) k3 hl U' rfl X'
    exact ⟨t2, st1 t2 a1, b1⟩
  · dsimp only [Pt.U, Pt.locs, Pt.cells, Pt.slots] at X' e1 e2 h1 h2 h3 st1 hcl
    subst h1; subst h2; subst h3
    obtain ⟨k1, k2, k3⟩ := vx_keep (H := H) (st₀ := (T.setVm vm₁).calling g' mk a9) hT e1 hS (fun q _ h => hAA q h) hAA hL hF9
    have hout := vx_out (p := p) (l := E.1) (e := e) (R := gR K.1) (s := s) (m := m) (args := args) (below := below) (meth := meth) (c := c) (H := U'.heap) (locs := locs ++ L) (cells := 0 + 1) (slots := 0 + 6) (free := K.2.2.2.2.2) (ls := ls) (rest := rest) (Qc := fun _ _ _ _ => False) (XC := gQx E K.2.2.2.2.2 Q) (pc := pc) (E := X9) (ce := ce) (q := q) (mc := 1) (ms := 6)
      (fun x hx => (hno.1 h100 x hx).elim) hlocks (by rw [e1]; exact hce) hcv (vx_cls hW₁ hcl) (fun t9 ht9 _ => ⟨g, ke _ g hq, by rw [ht9, e1]; exact hP9, k3.F ht9⟩) k3.2.2 (Nat.le_refl _) (Nat.le_refl _)
    obtain ⟨t2, a1, o, b1, b2, b3⟩ := hout U' rfl X'
    rcases b3 with ⟨hf, -⟩ | b3
    · exact hf.elim
    · exact ⟨t2, st1.trans a1, o, b1, b2, Or.inr b3⟩
theorem g_pre {p : Program} {s : State} {m : MethodId} {args : Array Value} {meth : Method} {c : Code} {H : Heap} {locs : List Loc} {as : List Value} (C : Cx E K cc p s m args meth c) (hP : va_P E.2.1 gCl (wl (gN E) (gAd E) f) H) (hD : va_D K.2.2.2.2.2 (wl (gN E) (gAd E) f)) (hS : va_S K.2.2.2.2.2 s.heap H locs) {U : State} (hU : U.heap = H) (hW : s.WarmedH U.vm) : gPre E as f H.size as.toArray U := by
  obtain ⟨hx, hb, hml, hrt, hown, hts, hlocks, hno, hsz, hA, hnm, hgs⟩ := id C
  refine ⟨rfl, by rw [hU], by rw [hU]; exact hP, hD.weaken (fun _ _ _ _ => trivial), ?_⟩
  rw [hU]
  refine hgs.moved hW hS.2.1 ?_
  intro q hq
  rcases hq with ⟨k, e9, hk⟩ | hq
  · exact hD.2 k _ hk
  · exact hA q (Nat.le_trans (by rw [← hsz]; exact hS.1) hq)
/-- invokevirtual of a contract (private ones too) -/
theorem G.callV {h' : Nat} {y : MethodName} {cc' : ByteArray} {nL' : Nat} {ret' : Option FieldType} {Q' : gQ} {idx : Nat} (k : Nat) (As rest : List Value) {st : List Value} {ci : Nat} {C' : String} {T' : u_T} {N' : Nat} {ty' : Nat → FieldType} {fs : List Value}
    (hM : Ct E h' y cc' nL' ret' (.ref (gAd E k) :: As) f Q') (hcl : Cls ci C' T' N' ty') (hk : k < gN E) (he : f k = .inr (ci, fs)) (hw : Cw K.2.1.cls idx y cc' nL' ret' As.length) (hin : Cond.instanceMethod y ∈ TB) (hsel : Cond.selects C' y y ∈ TB) (hh : h' + 1 ≤ K.1)
    (hst : st = As.reverse ++ .ref (gAd E k) :: rest) (hcat : (rest.map fun v => v.category).sum ≤ 8) (d : decode cc pc = .ok (.invokevirtual idx, 3))
    (kn : ∀ v g, Q'.1 v g → G E K cc (gO E K Q) (pc + 3) lv (v.toList ++ rest) g) (ke : ∀ X g, Q'.2 X g → Q.2 X g) (h100 : K.1 ≤ 100 := by exact Nat.le_of_ble_eq_true rfl) : G E K cc (gO E K Q) pc lv st f := by
  subst hst
  intro p e s m args below meth c C H locs ls hP hD hS hl
  obtain ⟨hx, hb, hml, hrt, hown, hts, hlocks, hno, hsz, hA, hnm, hgs⟩ := id C
  obtain ⟨w1, w2, w3, w4, w5, w6⟩ := hw
  intro T hT X
  obtain ⟨cell, g1, g2, g3⟩ := va_recv (D := E.2.1) (cl := gCl) (tys := gT E.2.2.1) (q0 := k) (ci := ci) hgs.1 hP hcl.1 (wl_at hk he)
  have hB := g_back (R := gR K.1) (p := p) (e := e) (below := below) (s := s) (sargs := args) (len := 3) (W9 := 8) (bytes := cc') (maxL := nL') (ret := ret') (hM H.size) gPre.blind rfl rfl hh (by show 8 + (nL' + 11) + 64 * h' ≤ 64 * K.1; omega)
    (fun w hw a' U hW => by
      rcases List.mem_cons.mp hw with rfl | hw
      · exact tb_at hts hW _ w2
      · exact tb_at hts hW _ hw) List.mem_cons_self (fun a' U hW => tb_at hts hW _ w3)
  have hlen : ∀ sig, parseMethodDescriptor y.desc = some sig → As.length = sig.parameters.length := fun sig h => by
    rw [h] at w5
    exact (Option.some.inj w5).symm
  have hr := vx_callV X hx (C := C') (bytes := cc') (maxL := nL') (ret := ret') hown (hts _ w1) (hts _ hin) (hts _ hsel) (hts _ w2) w4 hB (by rw [hT]; exact g1) g2 g3 (g := F0 m pc ls (As.reverse ++ .ref (gAd E k) :: rest)) rfl (by show ls.size = _; rw [hl.1, hml]) (argsL := As) (rest := rest) hlen rfl (lv_room hcat) (by rw [hb]; exact d)
    (fun vm₁ hW₁ => ⟨Nat.le_refl _, Nat.le_refl _, g_pre C hP hD hS hT hW₁⟩)
  exact g_behind C h100 hD hS hl hT kn ke hr
/-- invokestatic of a contract -/
theorem G.callS {h' : Nat} {y : MethodName} {cc' : ByteArray} {nL' : Nat} {ret' : Option FieldType} {Q' : gQ} {idx : Nat} (As rest : List Value) {st : List Value}
    (hM : Ct E h' y cc' nL' ret' As f Q') (hw : Cw K.2.1.cls idx y cc' nL' ret' As.length) (hsta : Cond.static y ∈ TB) (hh : h' + 1 ≤ K.1)
    (hst : st = As.reverse ++ rest) (hcat : (rest.map fun v => v.category).sum ≤ 8) (d : decode cc pc = .ok (.invokestatic idx, 3))
    (kn : ∀ v g, Q'.1 v g → G E K cc (gO E K Q) (pc + 3) lv (v.toList ++ rest) g) (ke : ∀ X g, Q'.2 X g → Q.2 X g) (h100 : K.1 ≤ 100 := by exact Nat.le_of_ble_eq_true rfl) : G E K cc (gO E K Q) pc lv st f := by
  subst hst
  intro p e s m args below meth c C H locs ls hP hD hS hl
  obtain ⟨hx, hb, hml, hrt, hown, hts, hlocks, hno, hsz, hA, hnm, hgs⟩ := id C
  obtain ⟨w1, w2, w3, w4, w5, w6⟩ := hw
  intro T hT X
  have hB := g_back (R := gR K.1) (p := p) (e := e) (below := below) (s := s) (sargs := args) (len := 3) (W9 := 8) (bytes := cc') (maxL := nL') (ret := ret') (hM H.size) gPre.blind rfl rfl hh (by show 8 + (nL' + 11) + 64 * h' ≤ 64 * K.1; omega)
    (fun w hw a' U hW => by
      rcases List.mem_cons.mp hw with rfl | hw
      · exact tb_at hts hW _ w2
      · exact tb_at hts hW _ hw) List.mem_cons_self (fun a' U hW => tb_at hts hW _ w3)
  have hlen : ∀ sig, parseMethodDescriptor y.desc = some sig → As.length = sig.parameters.length := fun sig h => by
    rw [h] at w5
    exact (Option.some.inj w5).symm
  have hr := vx_callS X hx (bytes := cc') (maxL := nL') (ret := ret') hown (hts _ w1) (hts _ hsta) (hts _ w3) (hts _ w2) w4 hB (g := F0 m pc ls (As.reverse ++ rest)) rfl (by show ls.size = _; rw [hl.1, hml]) (argsL := As) (rest := rest) hlen rfl (lv_room hcat) (by rw [hb]; exact d)
    (fun vm₁ hW₁ => ⟨Nat.le_refl _, Nat.le_refl _, g_pre C hP hD hS hT hW₁⟩)
  exact g_behind C h100 hD hS hl hT kn ke hr
/-- throw new X("text") -/
theorem G.thr {st : List Value} {cls text : String} {names : List String} {ik is ic : Nat} (hcls : Bundle.fit cls = true) (hnames : ∀ n ∈ names, Bundle.fit n = true)
    (hk : Cond.classLink K.2.1.cls ik cls ∈ TB) (hini : Cond.initialized cls ∈ TB) {own : String} (ho : K.2.1.cls = own) (hstr : (own, is, text) ∈ gStr) (hxc : cls ∈ gExc) (hat : ∀ w ∈ vx_atS K.2.1.cls ic cls names, w ∈ TB ∨ w = .castable cls cls ∨ w ∈ gDcl.map Cond.declares)
    (d0 : decode cc pc = .ok (.new ik, 3)) (d3 : decode cc (pc + 3) = .ok (.dup, 1)) (d4 : decode cc (pc + 4) = .ok (.ldc is, 2)) (d6 : decode cc (pc + 6) = .ok (.invokespecial ic, 3)) (d9 : decode cc (pc + 9) = .ok (.athrow, 1))
    (hf : names.length + 3 < K.1) (hcat : (st.map fun v => v.category).sum + (13 * (names.length + 1) + 43) ≤ 64 * K.1) (hq : Q.2 cls f) (h100 : K.1 ≤ 100 := by exact Nat.le_of_ble_eq_true rfl) : G E K cc (gO E K Q) pc lv st f := by
  intro p e s m args below meth c C H locs ls hP hD hS hl
  obtain ⟨hx, hb, hml, hrt, hown, hts, hlocks, hno, hsz, hA, hnm, hgs⟩ := id C
  subst ho
  obtain ⟨sa, hsa⟩ := hgs.2.2.2.1 _ hstr
  have good : ∀ w ∈ TB, vx_ot w = true := fun w hw => by
    have := (List.mem_filter.mp hw).2
    simp [vx_ot, this]
  have hw := vx_throwS (p := p) (l := E.1) (e := e) (R := gR K.1) (s := s) (m := m) (args := args) (below := below) (meth := meth) (c := c) (H := H) (locs := locs) (cells := 0) (slots := 0) (free := K.2.2.2.2.2) (ls := ls) (rest := st) (Qc := fun _ _ _ _ => False) (XC := gQx E K.2.2.2.2.2 Q) (mc := 1) (ms := 6)
    hx hb hgs.2.2.2.2.1 hown hcls hnames (hts _ hk) (hts _ hini) hsa (fun w hw => (hat w hw).elim (hts w) (fun h9 => h9.elim (fun h9 => by rw [h9]; exact va_Nw.use rfl (hgs.2.2.2.2.2.2.2.1 _ hxc)) (fun h9 => by
      obtain ⟨x, hx9, rfl⟩ := List.mem_map.mp h9
      exact va_Nw.use rfl (hgs.2.2.2.2.2.2.2.2.2 _ hx9))))
    (fun w hw => by
      rcases List.mem_cons.mp hw with rfl | hw
      · exact good _ hk
      · rcases List.mem_cons.mp hw with rfl | hw
        · exact good _ hini
        · exact (hat w hw).elim (good _) (fun h9 => h9.elim (fun h9 => by rw [h9]; rfl) (fun h9 => by
          obtain ⟨x, hx9, rfl⟩ := List.mem_map.mp h9
          rfl)))
    hgs.2.1 hgs.2.2.1 hS (by rw [hl.1, hml]) d0 d3 d4 d6 d9 (fun x hx => (hno.1 h100 x hx).elim) hf hcat (Nat.le_refl _) (Nat.le_refl _) hlocks
    (fun t hvm hz hk9 => ⟨f, hq, hP.kept (fun k q hq => hk9 q.1 ((hP k q hq).lt)), ⟨Nat.le_trans hS.1 hz, fun q h1 h2 => (hk9 q (Nat.lt_of_lt_of_le h1 hS.1)).trans (hS.2.1 q h1 h2)⟩⟩) hS.2.2 (Nat.le_refl _) (Nat.le_refl _)
  intro T hT X
  obtain ⟨t2, a1, o, b1, b2, b3⟩ := hw T hT X
  rcases b3 with ⟨hf9, -⟩ | b3
  · exact hf9.elim
  · exact ⟨t2, a1, o, b1, b2, Or.inr b3⟩
end Calls
end GLE
