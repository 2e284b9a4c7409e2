/-! ===== helpers with exception tables; calls inside the law ===== -/
section GLU
/-- the contract of a method with a table of its own that always returns, at the price of one exception -/
def Ch (E : gE) (h : Nat) (y : MethodName) (cc : ByteArray) (nL : Nat) (ret : Option FieldType) (hh : List (Nat × Nat × Nat × Nat)) (as : List Value) (f : Nat → va_E) (Q : Option Value → (Nat → va_E) → Prop) : Prop :=
  ∀ sz, Met E.1 y (.codeWith y cc nL ret hh :: TB) (gR h) (gPre E as f sz) (gQn E (va_A (wl (gN E) (gAd E) f) sz) (Q, fun _ _ => False)) 1 6 (va_A (wl (gN E) (gAd E) f) sz)
abbrev gOh (E : gE) (K : gM) (cu su : Nat) (Q : Option Value → (Nat → va_E) → Prop) : gU := (gR K.1, cu, su, fun below args s => MQ below (gQn E K.2.2.2.2.2 (Q, fun _ _ => False)) args s 1 6 K.2.2.2.2.2)
theorem Ch.of {E : gE} {h : Nat} {y : MethodName} {cc : ByteArray} {nL : Nat} {ret : Option FieldType} {hh : List (Nat × Nat × Nat × Nat)} {as : List Value} {f : Nat → va_E} {Q : Option Value → (Nat → va_E) → Prop} (hy : plainName y.cls = true) (h100 : 100 < h) (hl : (lg_sl as).length ≤ nL)
    (b : ∀ sz, G E (h, y, nL, ret, sz, va_A (wl (gN E) (gAd E) f) sz) cc (gOh E (h, y, nL, ret, sz, va_A (wl (gN E) (gAd E) f) sz) 0 0 Q) 0 (lv_args 0 as) [] f) : Ch E h y cc nL ret hh as f Q := by
  intro sz
  refine MetFree.of_bodyS (code := cc) (maxLocals := nL) (ret := ret) hy ?_ ?_
  · intro args s m h hn
    obtain ⟨m9, meth, c, hn9, h1, h2, h3, h4, -, h5, h6, -⟩ := Cond.codeWith_spec (atoms_spec (ws := .codeWith y cc nL ret hh :: TB) h _ List.mem_cons_self)
    cases hn.symm.trans hn9
    exact ⟨meth, c, h1, h2, h3, h4, h5, h6⟩
  · intro p e s m args below meth c s₁ B hml hP _
    obtain ⟨rfl, hsz, hP, hD, hS⟩ := hP
    have hts : ∀ w ∈ (Cond.codeWith y cc nL ret hh :: TB), w.before as.toArray s = true := atoms_spec B.pre
    have hh0 : s₁.heap = s.heap := by rw [B.state]; rfl
    have hx : Cx E (h, y, nL, ret, sz, va_A (wl (gN E) (gAd E) f) sz) cc p s m as.toArray meth c :=
      ⟨B.exec, B.bytes, hml, B.returns, findClass_of_methodNamed B.named, fun w hw => hts w (List.mem_cons_of_mem _ hw), B.notSynchronized, ⟨fun h9 => absurd h9 (Nat.not_le.mpr h100), fun cc9 nL9 ret9 hh9 hw => vx_table (x := y) B (hts _ (List.mem_cons_of_mem _ hw))⟩, hsz, fun q hq => Or.inr hq, (name_of_methodNamed B.named B.method).1, hS⟩
    have hw := b sz p e s m as.toArray below meth c hx s.heap [] _ hP (hD.weaken (fun k q hk _ => Or.inl ⟨k, q.2, hk⟩)) va_S.rf (lv_entry as hl)
    rw [← lg_entry_eq] at hw
    obtain ⟨t, a1, o, b1, b2, b3⟩ := hw s₁ hh0 (Stand.of_body B)
    exact ⟨t, o, a1, b1, b2, b3⟩
theorem G.iretH {E : gE} {K : gM} {cc : ByteArray} {Q : Option Value → (Nat → va_E) → Prop} {f : Nat → va_E} {pc : Nat} {lv : List (Nat × Value)} {cu su : Nat} {v : Int32} {ty : FieldType} (hr : K.2.2.2.1 = some ty) (hn : narrow ty (.int v) = .int v) (hq : Q (some (.int v)) f) (hc : cu ≤ 1) (hs : su ≤ 6) (d : decode cc pc = .ok (.ireturn, 1)) : G E K cc (gOh E K cu su Q) pc lv [.int v] f := by
  intro p e s m args below meth c C H locs ls hP hD hS hl
  obtain ⟨hx, hb, -, hrt, -, -, hlocks, -⟩ := id C
  refine W.widen (k := 1) (n := 6) hc hs ?_
  exact W.zret (free := K.2.2.2.2.2) hx hb (hrt.trans hr) hn (fun t ht _ => ⟨_, f, rfl, hq, by rw [ht]; exact hP, hS.F ht⟩) hS.2.2 d hlocks
/-- where an exception of class X goes: the row x of the table, past rows that name others -/
def gHx (own : String) (hh : List (Nat × Nat × Nat × Nat)) (pc : Nat) (X : String) (tgt : Nat) : Prop :=
  X ∈ gExc ∧ ∃ (pre : List ExceptionTableEntry) (x : ExceptionTableEntry) (suf : List ExceptionTableEntry), tableOf hh = pre ++ x :: suf ∧ (∀ z ∈ pre, z.catchType ≠ 0 ∧ ∃ nm ∈ gExc, X ≠ nm ∧ Cond.classLink own z.catchType nm ∈ TB) ∧ covers x pc = true ∧ x.catchType ≠ 0 ∧ Cond.classLink own x.catchType X ∈ TB ∧ x.handlerPc = tgt
/-- invokevirtual in a helper: what it throws is caught here -/
theorem G.callVC {E : gE} {K : gM} {cc : ByteArray} {Q : Option Value → (Nat → va_E) → Prop} {f : Nat → va_E} {pc : Nat} {lv : List (Nat × Value)} {h' : Nat} {y : MethodName} {cc' : ByteArray} {nL' : Nat} {ret' : Option FieldType} {Q' : gQ} {idx : Nat} (k : Nat) (As rest : List Value) {st : List Value} {ci : Nat} {C' : String} {T' : u_T} {N' : Nat} {ty' : Nat → FieldType} {fs : List Value} {cc0 : ByteArray} {nL0 : Nat} {ret0 : Option FieldType} {hh : List (Nat × Nat × Nat × Nat)}
    (hM : Ct E h' y cc' nL' ret' (.ref (gAd E k) :: As) f Q') (hcl : Cls ci C' T' N' ty') (hk : k < gN E) (he : f k = .inr (ci, fs)) (hw : Cw K.2.1.cls idx y cc' nL' ret' As.length) (hin : Cond.instanceMethod y ∈ TB) (hsel : Cond.selects C' y y ∈ TB) (hh1 : h' + 1 ≤ K.1)
    (hst : st = As.reverse ++ .ref (gAd E k) :: rest) (hcat : (rest.map fun v => v.category).sum ≤ 8) (d : decode cc pc = .ok (.invokevirtual idx, 3)) (htb : Cond.codeWith K.2.1 cc0 nL0 ret0 hh ∈ TB)
    (kn : ∀ v g, Q'.1 v g → G E K cc (gOh E K 0 0 Q) (pc + 3) lv (v.toList ++ rest) g) (kx : ∀ X g, Q'.2 X g → ∃ tgt, gHx K.2.1.cls hh pc X tgt ∧ ∀ q, G E K cc (gOh E K 1 6 Q) tgt lv [.ref q] g) : G E K cc (gOh E K 0 0 Q) pc lv st f := by
  subst hst
  intro p e s m args below meth c C H locs ls hP hD hS hl
  obtain ⟨hx, hb, hml, hrt, hown, hts, hlocks, hno, hsz, hA, hnm, hgs⟩ := id C
  obtain ⟨w1, w2, w3, w4, w5, w6⟩ := hw
  intro T hT X
  obtain ⟨cell, g1, g2, g3⟩ := va_recv (D := E.2.1) (cl := gCl) (tys := gT E.2.2.1) (q0 := k) (ci := ci) hgs.1 hP hcl.1 (wl_at hk he)
  have hB := g_back (R := gR K.1) (p := p) (e := e) (below := below) (s := s) (sargs := args) (len := 3) (W9 := 8) (bytes := cc') (maxL := nL') (ret := ret') (hM H.size) gPre.blind rfl rfl hh1 (by show 8 + (nL' + 11) + 64 * h' ≤ 64 * K.1; omega)
    (fun w hw a' U hW => by
      rcases List.mem_cons.mp hw with rfl | hw
      · exact tb_at hts hW _ w2
      · exact tb_at hts hW _ hw) List.mem_cons_self (fun a' U hW => tb_at hts hW _ w3)
  have hlen : ∀ sig, parseMethodDescriptor y.desc = some sig → As.length = sig.parameters.length := fun sig h => by
    rw [h] at w5
    exact (Option.some.inj w5).symm
  have hr := vx_callV X hx (C := C') (bytes := cc') (maxL := nL') (ret := ret') hown (hts _ w1) (hts _ hin) (hts _ hsel) (hts _ w2) w4 hB (by rw [hT]; exact g1) g2 g3 (g := F0 m pc ls (As.reverse ++ .ref (gAd E k) :: rest)) rfl (by show ls.size = _; rw [hl.1, hml]) (argsL := As) (rest := rest) hlen rfl (lv_room hcat) (by rw [hb]; exact d)
    (fun vm₁ hW₁ => ⟨Nat.le_refl _, Nat.le_refl _, g_pre C hP hD hS hT hW₁⟩)
  have hAA : ∀ q, va_A (wl (gN E) (gAd E) f) H.size q → K.2.2.2.2.2 q := by
    intro q hq
    rcases hq with ⟨k, e9, hk⟩ | hq
    · exact hD.2 k _ hk
    · exact hA q (Nat.le_trans (by rw [← hsz]; exact hS.1) hq)
  rcases hr with ⟨v, vm₁, ⟨U', l2, c2, s2⟩, hW₁, X', ⟨g', mk, t, L, e1, e2, ⟨v9, g, hv, hq, hP9, hF9⟩, h1, hL, h2, h3⟩, st1⟩ | ⟨q, vm₁, ⟨U', l2, c2, s2⟩, hW₁, X', ⟨g', mk, t, L, X9, ce, e1, e2, ⟨g, hq, hP9, hF9⟩, hce, hcv, hcl, h1, hL, h2, h3⟩, st1⟩
  · dsimp only [Pt.U, Pt.locs, Pt.cells, Pt.slots] at X' e1 e2 h1 h2 h3 st1
    subst h1; subst h2; subst h3
    cases hv
    obtain ⟨k1, k2, k3⟩ := vx_keep (H := H) (st₀ := (T.setVm vm₁).calling g' mk _) hT e1 hS (fun q _ h => hAA q h) hAA hL hF9
    obtain ⟨t2, a1, b1⟩ := kn v g hq p e s m args below meth c C U'.heap (locs ++ L) ls (by rw [e1]; exact hP9) (wl_D hD) k3 hl U' rfl X'
    exact ⟨t2, st1 t2 a1, b1⟩
  · dsimp only [Pt.U, Pt.locs, Pt.cells, Pt.slots] at X' e1 e2 h1 h2 h3 st1 hcl
    subst h1; subst h2; subst h3
    obtain ⟨k1, k2, k3⟩ := vx_keep (H := H) (st₀ := (T.setVm vm₁).calling g' mk _) hT e1 hS (fun q _ h => hAA q h) hAA hL hF9
    obtain ⟨tgt, ⟨hXm, pre, x, suf, hsp, hps, hcv1, hct, hlk, htg⟩, kk⟩ := kx X9 g hq
    subst htg
    have hout := vx_catch (p := p) (l := E.1) (e := e) (R := gR K.1) (s := s) (m := m) (args := args) (below := below) (meth := meth) (c := c) (H := U'.heap) (locs := locs ++ L) (cells := 0 + 1) (slots := 0 + 6) (ls := ls) (rest := rest) (pc := pc) (E := X9) (ce := ce) (q := q) (Q := MQ below (gQn E K.2.2.2.2.2 (Q, fun _ _ => False)) args s 1 6 K.2.2.2.2.2)
      hown pre x suf ((hno.2 _ _ _ _ htb).trans hsp) (fun z hz => by
        obtain ⟨hz0, nm, hnm9, hne, hzl⟩ := hps z hz
        exact Or.inr ⟨hz0, nm, hts _ hzl, hgs.2.2.2.2.2.2.2.2.1 _ hXm _ hnm9 hne⟩) hcv1 hct (hts _ hlk) (va_Nw.use rfl (hgs.2.2.2.2.2.2.2.1 _ hXm)) (by rw [e1]; exact hce) hcv (vx_cls hW₁ hcl)
      (kk q p e s m args below meth c C U'.heap (locs ++ L) ls (by rw [e1]; exact hP9) (wl_D hD) k3 hl)
    obtain ⟨t2, a1, b1⟩ := hout U' rfl X'
    exact ⟨t2, st1.trans a1, b1⟩
/-- invokevirtual, anywhere, of a contract that doesn't throw -/
theorem G.callVr {E : gE} {K : gM} {cc : ByteArray} {Q : gU} {f : Nat → va_E} {pc : Nat} {lv : List (Nat × Value)} {h' : Nat} {y : MethodName} {cc' : ByteArray} {nL' : Nat} {ret' : Option FieldType} {Q' : gQ} {idx : Nat} (k : Nat) (As rest : List Value) {st : List Value} {ci : Nat} {C' : String} {T' : u_T} {N' : Nat} {ty' : Nat → FieldType} {fs : List Value}
    (hM : Ct E h' y cc' nL' ret' (.ref (gAd E k) :: As) f Q') (hcl : Cls ci C' T' N' ty') (hk : k < gN E) (he : f k = .inr (ci, fs)) (hw : Cw K.2.1.cls idx y cc' nL' ret' As.length) (hin : Cond.instanceMethod y ∈ TB) (hsel : Cond.selects C' y y ∈ TB) (hfr : h' + 1 ≤ Q.1.frames) (hlo : 64 * (h' + 1) ≤ Q.1.locals) (hc : Q.2.1 + 1 ≤ Q.1.cells) (hs : Q.2.2.1 + 6 ≤ Q.1.slots)
    (hst : st = As.reverse ++ .ref (gAd E k) :: rest) (hcat : (rest.map fun v => v.category).sum ≤ 8) (d : decode cc pc = .ok (.invokevirtual idx, 3))
    (kn : ∀ v g, Q'.1 v g → G E K cc Q (pc + 3) lv (v.toList ++ rest) g) (kx : ∀ X g, Q'.2 X g → False) : G E K cc Q pc lv st f := by
  subst hst
  intro p e s m args below meth c C H locs ls hP hD hS hl
  obtain ⟨hx, hb, hml, hrt, hown, hts, hlocks, hno, hsz, hA, hnm, hgs⟩ := id C
  obtain ⟨w1, w2, w3, w4, w5, w6⟩ := hw
  intro T hT X
  obtain ⟨cell, g1, g2, g3⟩ := va_recv (D := E.2.1) (cl := gCl) (tys := gT E.2.2.1) (q0 := k) (ci := ci) hgs.1 hP hcl.1 (wl_at hk he)
  have hB := g_back (R := Q.1) (p := p) (e := e) (below := below) (s := s) (sargs := args) (len := 3) (W9 := 8) (bytes := cc') (maxL := nL') (ret := ret') (hM H.size) gPre.blind rfl rfl hfr (by show 8 + (nL' + 11) + 64 * h' ≤ Q.1.locals; omega)
    (fun w hw a' U hW => by
      rcases List.mem_cons.mp hw with rfl | hw
      · exact tb_at hts hW _ w2
      · exact tb_at hts hW _ hw) List.mem_cons_self (fun a' U hW => tb_at hts hW _ w3)
  have hlen : ∀ sig, parseMethodDescriptor y.desc = some sig → As.length = sig.parameters.length := fun sig h => by
    rw [h] at w5
    exact (Option.some.inj w5).symm
  have hr := vx_callV X hx (C := C') (bytes := cc') (maxL := nL') (ret := ret') hown (hts _ w1) (hts _ hin) (hts _ hsel) (hts _ w2) w4 hB (by rw [hT]; exact g1) g2 g3 (g := F0 m pc ls (As.reverse ++ .ref (gAd E k) :: rest)) rfl (by show ls.size = _; rw [hl.1, hml]) (argsL := As) (rest := rest) hlen rfl (lv_room hcat) (by rw [hb]; exact d)
    (fun vm₁ hW₁ => ⟨hc, hs, g_pre C hP hD hS hT hW₁⟩)
  have hAA : ∀ q, va_A (wl (gN E) (gAd E) f) H.size q → K.2.2.2.2.2 q := by
    intro q hq
    rcases hq with ⟨k, e9, hk⟩ | hq
    · exact hD.2 k _ hk
    · exact hA q (Nat.le_trans (by rw [← hsz]; exact hS.1) hq)
  rcases hr with ⟨v, vm₁, ⟨U', l2, c2, s2⟩, hW₁, X', ⟨g', mk, t, L, e1, e2, ⟨v9, g, hv, hq, hP9, hF9⟩, h1, hL, h2, h3⟩, st1⟩ | ⟨q, vm₁, ⟨U', l2, c2, s2⟩, hW₁, X', ⟨g', mk, t, L, X9, ce, e1, e2, ⟨g, hq, hP9, hF9⟩, hce, hcv, hcl, h1, hL, h2, h3⟩, st1⟩
  · dsimp only [Pt.U, Pt.locs, Pt.cells, Pt.slots] at X' e1 e2 h1 h2 h3 st1
    subst h1; subst h2; subst h3
    cases hv
    obtain ⟨k1, k2, k3⟩ := vx_keep (H := H) (st₀ := (T.setVm vm₁).calling g' mk _) hT e1 hS (fun q _ h => hAA q h) hAA hL hF9
    obtain ⟨t2, a1, b1⟩ := kn v g hq p e s m args below meth c C U'.heap (locs ++ L) ls (by rw [e1]; exact hP9) (wl_D hD) k3 hl U' rfl X'
    exact ⟨t2, st1 t2 a1, b1⟩
  · exact (kx _ _ hq).elim
/-- the words of a helper's call -/
def CwH (own : String) (idx : Nat) (y : MethodName) (cc : ByteArray) (nL : Nat) (ret : Option FieldType) (hh : List (Nat × Nat × Nat × Nat)) (np : Nat) : Prop :=
  Cond.methodLink own idx y ∈ TB ∧ Cond.codeWith y cc nL ret hh ∈ TB ∧ Cond.initialized y.cls ∈ TB ∧ (y.cls ≠ "java/lang/invoke/MethodHandle" ∧ y.cls ≠ "java/lang/invoke/VarHandle") ∧ (parseMethodDescriptor y.desc).map (fun d => d.parameters.length) = some np ∧ nL ≤ 45 ∧ Cond.static y ∈ TB
/-- the call of a helper -/
theorem G.callH {E : gE} {K : gM} {cc : ByteArray} {Q : gU} {f : Nat → va_E} {pc : Nat} {lv : List (Nat × Value)} {h' : Nat} {y : MethodName} {cc' : ByteArray} {nL' : Nat} {ret' : Option FieldType} {hh : List (Nat × Nat × Nat × Nat)} {Q' : Option Value → (Nat → va_E) → Prop} {idx : Nat} (As rest : List Value) {st : List Value}
    (hM : Ch E h' y cc' nL' ret' hh As f Q') (hw : CwH K.2.1.cls idx y cc' nL' ret' hh As.length) (hfr : h' + 1 ≤ Q.1.frames) (hlo : 64 * (h' + 1) ≤ Q.1.locals) (hc : Q.2.1 + 1 ≤ Q.1.cells) (hs : Q.2.2.1 + 6 ≤ Q.1.slots)
    (hst : st = As.reverse ++ rest) (hcat : (rest.map fun v => v.category).sum ≤ 8) (d : decode cc pc = .ok (.invokestatic idx, 3))
    (kn : ∀ v g, Q' v g → G E K cc (gV Q 1 6) (pc + 3) lv (v.toList ++ rest) g) : G E K cc Q pc lv st f := by
  subst hst
  intro p e s m args below meth c C H locs ls hP hD hS hl
  obtain ⟨hx, hb, hml, hrt, hown, hts, hlocks, hno, hsz, hA, hnm, hgs⟩ := id C
  obtain ⟨w1, w2, w3, w4, w5, w6, w7⟩ := hw
  have hr := vx_runSW (p := p) (l := E.1) (e := e) (R := Q.1) (s := s) (m := m) (args := args) (below := below) (meth := meth) (c := c) (H := H) (locs := locs) (cells := Q.2.1) (slots := Q.2.2.1) (Ts := TB) (cc := cc) (nL := K.2.2.1) (own := K.2.1.cls) (n := As.length) (g := F0 m pc ls (As.reverse ++ rest)) (As := As) (rest := rest)
    ⟨hx, hb, hml, hown, hts⟩ (hM H.size) ⟨⟨rfl, rfl, hfr, by show 8 + (nL' + 11) + 64 * h' ≤ Q.1.locals; omega, fun w hw a' U hW => by
      rcases List.mem_cons.mp hw with rfl | hw
      · exact tb_at hts hW _ w2
      · exact tb_at hts hW _ hw, List.mem_cons_self⟩, hts _ w2, hts _ w3, w4, fun sig h => by
      rw [h] at w5
      exact (Option.some.inj w5).symm, hts _ w1, hts _ w7⟩ ⟨gPre.blind, fun U hU hW => g_pre C hP hD hS hU hW⟩ rfl rfl hl.1 rfl (lv_room hcat) d ⟨hc, hs⟩
  have hAA : ∀ q, va_A (wl (gN E) (gAd E) f) H.size q → K.2.2.2.2.2 q := by
    intro q hq
    rcases hq with ⟨k, e9, hk⟩ | hq
    · exact hD.2 k _ hk
    · exact hA q (Nat.le_trans (by rw [← hsz]; exact hS.1) hq)
  intro T hT X
  obtain ⟨v, st₀, t, T', L, h0, X', hL, e1, e2, ⟨v9, g, hv, hq, hP9, hF9⟩, go⟩ := hr T hT X
  cases hv
  obtain ⟨k1, k2, k3⟩ := vx_keep (H := H) h0 e1 hS (fun q _ h => hAA q h) hAA hL hF9
  obtain ⟨t2, a1, b1⟩ := kn v g hq p e s m args below meth c C T'.heap (locs ++ L) ls (by rw [e1]; exact hP9) (wl_D hD) k3 hl T' rfl X'
  exact ⟨t2, go t2 a1, b1⟩
end GLU
