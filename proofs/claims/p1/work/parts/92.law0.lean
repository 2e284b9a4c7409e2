def R_law : String := "LedgerFilesLaw"
def lw_P (b : Addr) (xs : List Int32) (args : Array Value) (s : State) : Prop := args = #[.ref b] ∧ s.IntsAt b xs ∧ xs.length ≤ 9 ∧ (Jvm.Cond.and given_1 narrow_1).before args s = true
def lw_Q (_ : Array Value) (s : State) (o : Outcome) (t : State) : Prop := o = .returned (some (.int 1)) ∧ Framed s o t [] 600002 7302198
def lw_Z (below : List Frame) (a : Array Value) (s : State) : State → Prop := fun t => ∃ o, t.status = .running ∧ Ended t below o ∧ lw_Q a s o t
/-- the law's own end, with 1 on the stack, nothing written that was there before, its room as the claim has it -/
theorem lw_ret {p : Program} {l : Launch} {e : Env} {s : State} {m : MethodId} {below : List Frame} {meth : Method} {c : Code} {b : Nat} (hx : p.tables.exec = Jvm.exec) (hb : c.code = code) (hr : meth.sig.returnType = ret) (hlocks : meth.locks = false) {pc : Nat} {H : Heap} {ls : Array Slot} (hdg : decode code pc = .ok (.ireturn, 1)) : W p l e room_1 s m #[Value.ref b] below meth c H [] 600002 7302198 (lw_Z below #[Value.ref b] s) (F0 m pc ls [.int 1]) := by
  intro T hT X
  obtain ⟨fs, hret, hrun, hended, hW, hframe⟩ := X.leave (v := some (.int 1)) (hlocks := hlocks) (fun h => by rw [hr] at h; cases h)
  have hmeth' : T.vm.method? m = some meth := X.method'
  refine ⟨T.setFrames fs, ?_, .returned (some (.int 1)), hrun, hended, rfl, ⟨_, rfl⟩, hW, hframe⟩
  jvm_step X.here [X.here.top, hx, hb, hdg, hmeth', hr, ret, narrow_b1]
  (try refine ⟨rfl, ?_⟩); (try refine ⟨rfl, ?_⟩)
  first | (intro acts; rw [hret _ acts rfl rfl rfl]) | rw [hret _ _ rfl rfl rfl]
  exact Steps.refl _
/-- what holds at the law's entry: the machine, the code, the tables' words (any of lw_tbl by 'hts w (by decide +kernel)'), the script of L ints xs at the cell b, what the Statement gives of the start (any of its parts by flat_of_before) -/
def lw_At (p : Program) (s : State) (m : MethodId) (meth : Method) (c : Code) (b L : Nat) (xs : Nat → Int32) : Prop :=
  p.tables.exec = Jvm.exec ∧ c.code = code ∧ meth.sig.returnType = ret ∧ c.maxLocals = 8 ∧ s.vm.findClass R_law = some m.cls ∧ (∀ w ∈ lw_tbl, w.before #[Value.ref b] s = true) ∧ va_X b L xs s s.heap ∧ b < s.heap.size ∧ meth.locks = false ∧ (Jvm.Cond.and given_1 narrow_1).before #[Value.ref b] s = true
section GLW
/-- a body's end under a guard: what is owed only where the start is as it says -/
abbrev gGd (Q : gU) (Z : Array Value → State → Prop) : gU := (Q.1, Q.2.1, Q.2.2.1, fun below args s t => Z args s → Q.2.2.2 below args s t)
/-- the script lies there, and it is old -/
def Sc (b L : Nat) (xs : Nat → Int32) (s : State) : Prop := va_X b L xs s s.heap ∧ b < s.heap.size
theorem gGd_no {p : Program} {l : Launch} {e : Env} {R : Room} {s : State} {m : MethodId} {args : Array Value} {below : List Frame} {meth : Method} {c : Code} {H : Heap} {locs : List Loc} {cells slots : Nat} {g : JFrame} {Z : Prop} {P : State → Prop} (h : ¬ Z) : W p l e R s m args below meth c H locs cells slots (fun t => Z → P t) g :=
  fun T _ _ => ⟨_, Steps.refl _, fun z => absurd z h⟩
/-- a word of the script -/
theorem G.sld {E : gE} {K : gM} {cc : ByteArray} {Q : gU} {Z : Array Value → State → Prop} {f : Nat → va_E} {pc : Nat} {lv : List (Nat × Value)} {st : List Value} {b L : Nat} {xs : Nat → Int32} (hZ : ∀ a s, Z a s → Sc b L xs s) (hA : b < K.2.2.2.2.1 → ¬ K.2.2.2.2.2 b) (j : Nat) (hj : j < L) (hL : L < 2 ^ 31) (d : decode cc pc = .ok (.iaload, 1)) (kk : G E K cc (gGd Q Z) (pc + 1) lv (.int (xs j) :: st) f) : G E K cc (gGd Q Z) pc lv (.int (nI j) :: .ref b :: st) f := by
  intro p e s m args below meth c C H locs ls hP hD hS hl
  obtain ⟨hx, hb, hml, hrt, hown, hts, hlocks, hno, hsz, hA', hnm, hgs⟩ := id C
  by_cases hz : Z args s
  · obtain ⟨hX, hbl⟩ := hZ _ _ hz
    refine va_sld hx hb hX hbl (hA (by rw [← hsz]; exact hbl)) hS (vp_in_nI hj hL) d ?_
    have k := kk p e s m args below meth c C H locs ls hP hD hS hl
    rw [nI_clamp (by omega)]
    exact k
  · exact gGd_no hz
theorem G.slen {E : gE} {K : gM} {cc : ByteArray} {Q : gU} {Z : Array Value → State → Prop} {f : Nat → va_E} {pc : Nat} {lv : List (Nat × Value)} {st : List Value} {b L : Nat} {xs : Nat → Int32} (hZ : ∀ a s, Z a s → Sc b L xs s) (hA : b < K.2.2.2.2.1 → ¬ K.2.2.2.2.2 b) (d : decode cc pc = .ok (.arraylength, 1)) (kk : G E K cc (gGd Q Z) (pc + 1) lv (.int (nI L) :: st) f) : G E K cc (gGd Q Z) pc lv (.ref b :: st) f := by
  intro p e s m args below meth c C H locs ls hP hD hS hl
  obtain ⟨hx, hb, hml, hrt, hown, hts, hlocks, hno, hsz, hA', hnm, hgs⟩ := id C
  by_cases hz : Z args s
  · obtain ⟨hX, hbl⟩ := hZ _ _ hz
    exact va_slen hx hb hX hbl (hA (by rw [← hsz]; exact hbl)) hS d (kk p e s m args below meth c C H locs ls hP hD hS hl)
  · exact gGd_no hz
/-- the contract of a method that reads the script -/
def CtZ (Z : State → Prop) (E : gE) (h : Nat) (y : MethodName) (cc : ByteArray) (nL : Nat) (ret : Option FieldType) (as : List Value) (f : Nat → va_E) (Q : gQ) : Prop :=
  ∀ sz, MetFree E.1 y (headSpec (.code y cc nL ret :: TB) (gR h)) (fun a U => gPre E as f sz a U ∧ Z U) (fun _ _ _ _ _ => True) (gPost E (va_A (wl E.2.2.2.1 E.2.2.2.2 f) sz) Q)
theorem CtZ.of {Z : State → Prop} {E : gE} {h : Nat} {y : MethodName} {cc : ByteArray} {nL : Nat} {ret : Option FieldType} {as : List Value} {f : Nat → va_E} {Q : gQ} (hy : plainName y.cls = true) (hl : (lg_sl as).length ≤ nL)
    (b : ∀ sz, G E (h, y, nL, ret, sz, va_A (wl E.2.2.2.1 E.2.2.2.2 f) sz) cc (gGd (gO E (h, y, nL, ret, sz, va_A (wl E.2.2.2.1 E.2.2.2.2 f) sz) Q) (fun _ s => Z s)) 0 (lv_args 0 as) [] f) : CtZ Z E h y cc nL ret as f Q := by
  intro sz
  refine MetFree.of_bodyS (code := cc) (maxLocals := nL) (ret := ret) hy ?_ ?_
  · intro args s m h hn
    obtain ⟨meth, c, h1, h2, h3, h4, h5, h6, -, -⟩ := Cond.code_spec hn (atoms_spec (ws := .code y cc nL ret :: TB) h _ List.mem_cons_self)
    exact ⟨meth, c, h1, h2, h3, h4, h5, h6⟩
  · intro p e s m args below meth c s₁ B hml hP _
    obtain ⟨⟨rfl, hsz, hP, hD, hS⟩, hz⟩ := hP
    have hts : ∀ w ∈ (Cond.code y cc nL ret :: TB), w.before as.toArray s = true := atoms_spec B.pre
    have hh0 : s₁.heap = s.heap := by rw [B.state]; rfl
    have ht : ∀ x ∈ c.exceptionTable.toList, False := by
      obtain ⟨meth9, c9, h1, h2, -, -, -, -, h7, -⟩ := Cond.code_spec B.named (hts _ List.mem_cons_self)
      cases Option.some.inj (h1.symm.trans B.method)
      cases Option.some.inj (h2.symm.trans (Stand.of_body B).code)
      intro x hx
      rw [Array.isEmpty_iff.mp h7] at hx
      cases hx
    have hx : Cx E (h, y, nL, ret, sz, va_A (wl E.2.2.2.1 E.2.2.2.2 f) sz) cc p s m as.toArray meth c :=
      ⟨B.exec, B.bytes, hml, B.returns, findClass_of_methodNamed B.named, fun w hw => hts w (List.mem_cons_of_mem _ hw), B.notSynchronized, ⟨fun _ => ht, fun cc9 nL9 ret9 hh hw => vx_table (x := y) B (hts _ (List.mem_cons_of_mem _ hw))⟩, hsz, fun q hq => Or.inr hq, (name_of_methodNamed B.named B.method).1, hS⟩
    have hw := b sz p e s m as.toArray below meth c hx s.heap [] _ hP (hD.weaken (fun k q hk _ => Or.inl ⟨k, q.2, hk⟩)) va_S.rf (lv_entry as hl)
    rw [← lg_entry_eq] at hw
    obtain ⟨t, a1, h9⟩ := hw s₁ hh0 (Stand.of_body B)
    obtain ⟨o, b1, b2, b3⟩ := h9 hz
    exact ⟨t, o, a1, b1, b2, b3⟩
theorem G.iretZ {E : gE} {K : gM} {cc : ByteArray} {Q : gQ} {Z : Array Value → State → Prop} {f : Nat → va_E} {pc : Nat} {lv : List (Nat × Value)} {v : Int32} {ty : FieldType} (hr : K.2.2.2.1 = some ty) (hn : narrow ty (.int v) = .int v) (hq : Q.1 (some (.int v)) f) (d : decode cc pc = .ok (.ireturn, 1)) : G E K cc (gGd (gO E K Q) Z) pc lv [.int v] f := by
  intro p e s m args below meth c C H locs ls hP hD hS hl T hT X
  obtain ⟨t, h1, h2⟩ := G.iret (E := E) (K := K) (cc := cc) (Q := Q) (f := f) (pc := pc) (lv := lv) (v := v) hr hn hq d p e s m args below meth c C H locs ls hP hD hS hl T hT X
  exact ⟨t, h1, fun _ => h2⟩
/-- the call of such a method, anywhere, if it doesn't throw -/
theorem G.callSZ {Z : State → Prop} {E : gE} {K : gM} {cc : ByteArray} {Q : gU} {Y : Array Value → State → Prop} {f : Nat → va_E} {pc : Nat} {lv : List (Nat × Value)} {h' : Nat} {y : MethodName} {cc' : ByteArray} {nL' : Nat} {ret' : Option FieldType} {Q' : gQ} {idx : Nat} (As rest : List Value) {st : List Value}
    (hZb : FrameBlind (fun _ U => Z U)) (hYZ : ∀ a s, Y a s → ∀ U : State, s.WarmedH U.vm → (∀ H locs, U.heap = H → va_S K.2.2.2.2.2 s.heap H locs → s.heap.size = K.2.2.2.2.1 → Z U))
    (hM0 : (∀ k, k < gN E → K.2.2.2.2.2 (gAd E k)) → ∀ a s, Y a s → s.heap.size = K.2.2.2.2.1 → CtZ Z E h' y cc' nL' ret' As f Q') (hw : Cw K.2.1.cls idx y cc' nL' ret' As.length) (hsta : Cond.static y ∈ TB) (hfr : h' + 1 ≤ Q.1.frames) (hlo : 64 * (h' + 1) ≤ Q.1.locals) (hc : Q.2.1 + 1 ≤ Q.1.cells) (hs : Q.2.2.1 + 6 ≤ Q.1.slots)
    (hst : st = As.reverse ++ rest) (hcat : (rest.map fun v => v.category).sum ≤ 8) (d : decode cc pc = .ok (.invokestatic idx, 3))
    (kn : ∀ v g, Q'.1 v g → G E K cc (gGd Q Y) (pc + 3) lv (v.toList ++ rest) g) (kx : ∀ X g, Q'.2 X g → False) : G E K cc (gGd Q Y) pc lv st f := by
  subst hst
  intro p e s m args below meth c C H locs ls hP hD hS hl
  by_cases hy : Y args s
  · obtain ⟨hx, hb, hml, hrt, hown, hts, hlocks, hno, hsz, hA, hnm, hgs⟩ := id C
    obtain ⟨w1, w2, w3, w4, w5, w6⟩ := hw
    have hM := hM0 (fun k hk => hD.2 k _ (wl_get hk)) _ _ hy hsz
    intro T hT X
    have hbl : FrameBlind (fun a U => gPre E As f H.size a U ∧ Z U) := fun a U g mk h => ⟨gPre.blind a U g mk h.1, hZb a U g mk h.2⟩
    have hB := g_back (R := Q.1) (p := p) (e := e) (below := below) (s := s) (sargs := args) (len := 3) (W9 := 8) (bytes := cc') (maxL := nL') (ret := ret') (hM H.size) hbl rfl rfl hfr (by show 8 + (nL' + 11) + 64 * h' ≤ Q.1.locals; omega)
      (fun w hw a' U hW => by
        rcases List.mem_cons.mp hw with rfl | hw
        · exact tb_at hts hW _ w2
        · exact tb_at hts hW _ hw) List.mem_cons_self (fun a' U hW => tb_at hts hW _ w3)
    have hlen : ∀ sig, parseMethodDescriptor y.desc = some sig → As.length = sig.parameters.length := fun sig h => by
      rw [h] at w5
      exact (Option.some.inj w5).symm
    have hr := vx_callS X hx (bytes := cc') (maxL := nL') (ret := ret') hown (hts _ w1) (hts _ hsta) (hts _ w3) (hts _ w2) w4 hB (g := F0 m pc ls (As.reverse ++ rest)) rfl (by show ls.size = _; rw [hl.1, hml]) (argsL := As) (rest := rest) hlen rfl (lv_room hcat) (by rw [hb]; exact d)
      (fun vm₁ hW₁ => ⟨hc, hs, g_pre C hP hD hS hT hW₁, hYZ _ _ hy _ hW₁ H locs hT hS hsz⟩)
    have hAA : ∀ q, va_A (wl (gN E) (gAd E) f) H.size q → K.2.2.2.2.2 q := by
      intro q hq
      rcases hq with ⟨k, e9, hk⟩ | hq
      · exact hD.2 k _ hk
      · exact hA q (Nat.le_trans (by rw [← hsz]; exact hS.1) hq)
    rcases hr with ⟨v, vm₁, ⟨U', l2, c2, s2⟩, hW₁, X', ⟨g', mk, t, L, e1, e2, ⟨v9, g, hv, hq, hP9, hF9⟩, h1, hL, h2, h3⟩, st1⟩ | ⟨q, vm₁, ⟨U', l2, c2, s2⟩, hW₁, X', ⟨g', mk, t, L, X9, ce, e1, e2, ⟨g, hq, hP9, hF9⟩, hce, hcv, hcl, h1, hL, h2, h3⟩, st1⟩
    · dsimp only [Pt.U, Pt.locs, Pt.cells, Pt.slots] at X' e1 e2 h1 h2 h3 st1
      subst h1; subst h2; subst h3
      cases hv
      obtain ⟨k1, k2, k3⟩ := vx_keep (H := H) (st₀ := (T.setVm vm₁).calling g' mk _) hT e1 hS (fun q _ h => hAA q h) hAA hL hF9
      obtain ⟨t2, a1, b1⟩ := kn v g hq p e s m args below meth c C U'.heap (locs ++ L) ls (by rw [e1]; exact hP9) (wl_D hD) k3 hl U' rfl X'
      exact ⟨t2, st1 t2 a1, b1⟩
    · exact (kx _ _ hq).elim
  · exact gGd_no hy
/-- the world with its keys in another order, or with fewer -/
theorem G.perm {E : gE} {K : gM} {cc : ByteArray} {Q : gU} {f : Nat → va_E} {pc : Nat} {lv : List (Nat × Value)} {st : List Value} (n : Nat) (π : Nat → Nat) (hπ : ∀ k, k < n → π k < gN E) (hi : ∀ i j, i < n → j < n → π i = π j → i = j)
    (kk : G (E.1, E.2.1, E.2.2.1, n, fun k => gAd E (π k)) K cc Q pc lv st (fun k => f (π k))) : G E K cc Q pc lv st f := by
  intro p e s m args below meth c C H locs ls hP hD hS hl
  refine kk p e s m args below meth c C H locs ls ?_ ?_ hS hl
  · intro k q hk
    obtain ⟨h1, e1⟩ := wl_lt hk
    subst e1
    exact hP (π k) _ (wl_get (hπ k h1))
  · refine ⟨fun i j p q hi' hj' hpq => ?_, fun k q hk => ?_⟩
    · obtain ⟨h1, e1⟩ := wl_lt hi'
      obtain ⟨h2, e2⟩ := wl_lt hj'
      subst e1
      subst e2
      exact hi i j h1 h2 (hD.1 (π i) (π j) _ _ (wl_get (hπ i h1)) (wl_get (hπ j h2)) hpq)
    · obtain ⟨h1, e1⟩ := wl_lt hk
      subst e1
      exact (hD.2 (π k) _ (wl_get (hπ k h1)) : K.2.2.2.2.2 (gAd E (π k)))
/-- the law's end: what its start was, is told by the guard -/
abbrev lwY (b L : Nat) (xs : Nat → Int32) : Array Value → State → Prop := fun args s => args = #[Value.ref b] ∧ Sc b L xs s
abbrev gL (b L : Nat) (xs : Nat → Int32) (cu su : Nat) : gU := gGd (room_1, cu, su, fun below args s => lw_Z below args s) (lwY b L xs)
/-- what the law may write: what is new -/
abbrev lwK (h sz : Nat) : gM := (h, x, 8, ret, sz, fun q => sz ≤ q)
theorem lwK_A {h sz b : Nat} : b < (lwK h sz).2.2.2.2.1 → ¬ (lwK h sz).2.2.2.2.2 b := fun q => Nat.not_le.mpr q
theorem lwY_S {b L : Nat} {xs : Nat → Int32} : ∀ a s, lwY b L xs a s → Sc b L xs s := fun _ _ h => h.2
theorem Sc_blind {b L : Nat} {xs : Nat → Int32} : FrameBlind (fun _ U => Sc b L xs U) := fun a U g mk h => ⟨va_X.moved (u := U) (U := U.calling g mk a) (Vm.Alike.refl U.vm) h.1, h.2⟩
theorem Sc_moved {b L : Nat} {xs : Nat → Int32} {h sz : Nat} : ∀ a s, lwY b L xs a s → ∀ U : State, s.WarmedH U.vm → (∀ H locs, U.heap = H → va_S (lwK h sz).2.2.2.2.2 s.heap H locs → s.heap.size = (lwK h sz).2.2.2.2.1 → Sc b L xs U) := by
  intro a s hy U hW H locs hU hS hsz
  obtain ⟨-, hX, hb⟩ := hy
  have hA : ¬ (lwK h sz).2.2.2.2.2 b := lwK_A (by rw [← hsz]; exact hb)
  refine ⟨?_, ?_⟩
  · rw [hU]
    exact va_X.moved hW.alike (va_X.kept hX (hS.2.1 b hb hA))
  · rw [hU]
    exact Nat.lt_of_lt_of_le hb hS.1
theorem G.lwret {E : gE} {h sz b L cu su pc : Nat} {xs : Nat → Int32} {f : Nat → va_E} {lv : List (Nat × Value)} (hc : cu ≤ room_1.cells) (hs : su ≤ room_1.slots) (d : decode code pc = .ok (.ireturn, 1)) : G E (lwK h sz) code (gL b L xs cu su) pc lv [.int 1] f := by
  intro p e s m args below meth c C H locs ls hP hD hS hl
  obtain ⟨hx, hb, hml, hrt, hown, hts, hlocks, hno, hsz, hA, hnm, hgs⟩ := id C
  by_cases hz : lwY b L xs args s
  · obtain ⟨rfl, hz⟩ := id hz
    refine va_forget (fun q hq => by have := hS.2.2 q hq; exact hsz ▸ this) ?_
    refine W.widen hc hs ?_
    intro T hT X
    obtain ⟨t, h1, h2⟩ := lw_ret (p := p) (l := E.1) (e := e) (s := s) (m := m) (below := below) (meth := meth) (c := c) (b := b) hx hb hrt hlocks d T hT X
    exact ⟨t, h1, fun _ => h2⟩
  · exact gGd_no hz
end GLW
