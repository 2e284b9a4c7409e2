/-! ===== worlds that grow: rows of bytes, constructors ===== -/
section GLH
theorem wl_rows {n : Nat} {ad : Nat → Nat} {f : Nat → va_E} (q : Nat) (e e2 : va_E) (N : Nat) (r : Nat → Nat) : (wl n ad f ++ [(q, e)]) ++ (List.range N).map (fun i => (r i, e2)) = wl (n + 1 + N) (fun k => if k < n then ad k else if k = n then q else r (k - n - 1)) (fun k => if k < n then f k else if k = n then e else e2) := by
  unfold wl
  rw [List.range_add, List.range_succ, List.map_append, List.map_append]
  congr 1
  · congr 1
    · apply List.map_congr_left
      intro k hk
      have h := List.mem_range.mp hk
      simp only [if_pos h]
    · simp
  · rw [List.map_map]
    apply List.map_congr_left
    intro k hk
    have h1 : ¬ n + 1 + k < n := by omega
    have h2 : ¬ n + 1 + k = n := by omega
    have h3 : n + 1 + k - n - 1 = k := by omega
    simp only [Function.comp, if_neg h1, if_neg h2, h3]
/-- one key for the outer array, N keys for its rows -/
abbrev gY (E : gE) (q : Nat) (N : Nat) (r : Nat → Nat) : gE := (E.1, E.2.1, E.2.2.1, E.2.2.2.1 + 1 + N, fun k => if k < E.2.2.2.1 then E.2.2.2.2 k else if k = E.2.2.2.1 then q else r (k - E.2.2.2.1 - 1))
theorem G.multi {E : gE} {K : gM} {cc : ByteArray} {Q : gU} {f : Nat → va_E} {pc : Nat} {lv : List (Nat × Value)} {st : List Value} {n k : Int32} {N' K' : Nat} {idx : Nat} (hw : Cond.classLink K.2.1.cls idx "[[B" ∈ TB) (hw2 : Cond.arrayClass .byte ∈ TB) (hn : ¬ n < 0) (hk : ¬ k < 0) (hN : n.toNatClampNeg = N') (hM : k.toNatClampNeg = K') (hb1 : N' ≤ 60000000) (hb2 : K' ≤ 60000000) (hc : Q.2.1 + (1 + N') ≤ Q.1.cells) (hs : Q.2.2.1 + (N' + N' * K') ≤ Q.1.slots) (d : decode cc pc = .ok (.multianewarray idx 2, 4))
    (kk : ∀ (q : Nat) (r : Nat → Nat), G (gY E q N' r) K cc (Q.1, Q.2.1 + 1 + N', Q.2.2.1 + N' + N' * K', Q.2.2.2) (pc + 4) lv (.ref q :: st) (fun k => if k < gN E then f k else if k = gN E then oR (gDA E) N' (fun i => if i < N' then some (r i) else none) else oB (gDA E) K' (fun _ => 0))) : G E K cc Q pc lv (.int k :: .int n :: st) f := by
  intro p e s m args below meth c C H locs ls hP hD hS hl
  obtain ⟨hx, hb, hml, hrt, hown, hts, hlocks, hno, hsz, hA, hnm, hgs⟩ := id C
  have hK := hgs.1
  have hcy : s.vm.findClass (FieldType.array .byte).toString = some (E.2.2.1 0) := (hK.2 0 (E.2.2.1 0, .byte) rfl).2
  refine va_mna (D := E.2.1) (cl := gCl) (tys := gT E.2.2.1) (X := wl (gN E) (gAd E) f) (L := []) (f := f) (ty := .byte) (cy := E.2.2.1 0) (z := (K', .inl (fun _ => 0))) hx hb hown (hts _ hw) hgs.2.2.2.2.2.1 (hts _ hw2) hcy hK (by rw [show va_pl [] f = [] from rfl, List.append_nil]; exact hP) (by rw [show va_pl [] f = [] from rfl, List.append_nil]; exact hD) hS (fun q hq => hA q (by rw [← hsz]; exact hq)) hn hk hN hM (by omega) (by show K' * _ ≤ 536870912; simp only [componentBytes]; omega) (by omega) rfl rfl hc hs (fun c9 => arrV_new c9 K' (defaultValue .byte)) d ?_
  intro q r cA H1 hr1 hr2 hK1 hP1 hD1 hS1
  have h1 : s.vm.findClass _ = some cA := (hK1.2 5 (cA, .array .byte) rfl).2
  have h2 : s.vm.findClass _ = some (E.2.2.1 4) := (hK.2 4 (E.2.2.1 4, .array .byte) rfl).2
  cases Option.some.inj (h1.symm.trans h2)
  have hrows : va_pl ([] ++ (List.range N').map r) (vr_up f ((List.range N').map r) (.inl (E.2.2.1 0, K', .inl (fun _ => 0)))) = (List.range N').map (fun i => (r i, (.inl (E.2.2.1 0, K', .inl (fun _ => 0)) : va_E))) := by
    unfold va_pl
    rw [List.nil_append, List.map_map]
    apply List.map_congr_left
    intro i hi
    show (r i, vr_up f _ _ (r i)) = _
    rw [vr_up_in (List.mem_map.mpr ⟨i, hi, rfl⟩)]
  rw [hrows, wl_rows] at hP1 hD1
  exact kk q r p e s m args below meth c C H1 locs ls hP1 hD1 hS1 hl
/-- a constructor's room -/
abbrev gRm (h mc ms : Nat) : Room := { frames := h, cells := mc, slots := ms, locals := 64 * h }
abbrev gQM : Type := Nat → (Nat → Nat) → (Nat → va_E) → Prop
def gQm (E : gE) (sz : Nat) (A : Nat → Prop) (Q : gQM) : Array Value → State → Outcome → State → Prop := fun _ st o t => o = .returned none ∧ ∃ (n : Nat) (ad : Nat → Nat) (f : Nat → va_E), Q n ad f ∧ gN E ≤ n ∧ (∀ k, k < gN E → ad k = gAd E k) ∧ (∀ k, gN E ≤ k → k < n → sz ≤ ad k) ∧ va_P E.2.1 gCl (wl n ad f) t.heap ∧ va_D (fun _ => True) (wl n ad f) ∧ va_F A st t
/-- THE CONTRACT of a constructor: it makes at most mc cells of ms slots -/
def Cm (E : gE) (h mc ms : Nat) (y : MethodName) (cc : ByteArray) (nL : Nat) (as : List Value) (f : Nat → va_E) (Q : gQM) : Prop :=
  ∀ sz, Met E.1 y (.code y cc nL none :: TB) (gRm h mc ms) (gPre E as f sz) (gQm E sz (va_A (wl (gN E) (gAd E) f) sz) Q) mc ms (va_A (wl (gN E) (gAd E) f) sz)
abbrev gOm (E : gE) (K : gM) (mc ms cu su : Nat) (Q : gQM) : gU := (gRm K.1 mc ms, cu, su, fun below args s => MQ below (gQm E K.2.2.2.2.1 K.2.2.2.2.2 Q) args s mc ms K.2.2.2.2.2)
theorem Cm.of {E : gE} {h mc ms : Nat} {y : MethodName} {cc : ByteArray} {nL : Nat} {as : List Value} {f : Nat → va_E} {Q : gQM} (hy : plainName y.cls = true) (hl : (lg_sl as).length ≤ nL)
    (b : ∀ sz, G E (h, y, nL, none, sz, va_A (wl (gN E) (gAd E) f) sz) cc (gOm E (h, y, nL, none, sz, va_A (wl (gN E) (gAd E) f) sz) mc ms 0 0 Q) 0 (lv_args 0 as) [] f) : Cm E h mc ms y cc nL as f Q := by
  intro sz
  refine MetFree.of_bodyS (code := cc) (maxLocals := nL) (ret := none) hy ?_ ?_
  · intro args s m h hn
    obtain ⟨meth, c, h1, h2, h3, h4, h5, h6, -, -⟩ := Cond.code_spec hn (atoms_spec (ws := .code y cc nL none :: TB) h _ List.mem_cons_self)
    exact ⟨meth, c, h1, h2, h3, h4, h5, h6⟩
  · intro p e s m args below meth c s₁ B hml hP _
    obtain ⟨rfl, hsz, hP, hD, hS⟩ := hP
    have hts : ∀ w ∈ (Cond.code y cc nL none :: TB), w.before as.toArray s = true := atoms_spec B.pre
    have hh0 : s₁.heap = s.heap := by rw [B.state]; rfl
    have ht : ∀ x ∈ c.exceptionTable.toList, False := by
      obtain ⟨meth9, c9, h1, h2, -, -, -, -, h7, -⟩ := Cond.code_spec B.named (hts _ List.mem_cons_self)
      cases Option.some.inj (h1.symm.trans B.method)
      cases Option.some.inj (h2.symm.trans (Stand.of_body B).code)
      intro x hx
      rw [Array.isEmpty_iff.mp h7] at hx
      cases hx
    have hx : Cx E (h, y, nL, none, sz, va_A (wl (gN E) (gAd E) f) sz) cc p s m as.toArray meth c :=
      ⟨B.exec, B.bytes, hml, B.returns, findClass_of_methodNamed B.named, fun w hw => hts w (List.mem_cons_of_mem _ hw), B.notSynchronized, ⟨fun _ => ht, fun cc9 nL9 ret9 hh hw => vx_table (x := y) B (hts _ (List.mem_cons_of_mem _ hw))⟩, hsz, fun q hq => Or.inr hq, (name_of_methodNamed B.named B.method).1, hS⟩
    have hw := b sz p e s m as.toArray below meth c hx s.heap [] _ hP (hD.weaken (fun k q hk _ => Or.inl ⟨k, q.2, hk⟩)) va_S.rf (lv_entry as hl)
    rw [← lg_entry_eq] at hw
    obtain ⟨t, a1, o, b1, b2, b3⟩ := hw s₁ hh0 (Stand.of_body B)
    exact ⟨t, o, a1, b1, b2, b3⟩
/-- a constructor's end; E' is the world that it has made of E -/
theorem G.vretM {E E' : gE} {K : gM} {cc : ByteArray} {Q : gQM} {f : Nat → va_E} {pc : Nat} {lv : List (Nat × Value)} {mc ms cu su : Nat} (hl1 : E'.1 = E.1) (hD1 : E'.2.1 = E.2.1) (hr : K.2.2.2.1 = none) (hn : gN E ≤ gN E') (hkeep : ∀ k, k < gN E → gAd E' k = gAd E k) (hq : Q (gN E') (gAd E') f) (hc : cu ≤ mc) (hs : su ≤ ms)
    (hnew : ∀ k, gN E ≤ k → k < gN E' → K.2.2.2.2.1 ≤ gAd E' k) (d : decode cc pc = .ok (.return_, 1)) : G E' K cc (gOm E K mc ms cu su Q) pc lv [] f := by
  intro p e s m args below meth c C H locs ls hP hD hS hl
  obtain ⟨hx, hb, hml, hrt, hown, hts, hlocks, hno, hsz, hA, hnm, hgs⟩ := id C
  rw [hl1]
  rw [hD1] at hP
  refine W.widen (k := mc) (n := ms) hc hs ?_
  exact W.vret (free := K.2.2.2.2.2) hx hb (hrt.trans hr) (fun t ht _ => ⟨rfl, gN E', gAd E', f, hq, hn, hkeep, hnew, by rw [ht]; exact hP, hD.weaken (fun _ _ _ _ => trivial), hS.F ht⟩) hS.2.2 d hlocks
/-- behind a constructor -/
theorem g_made {E : gE} {K : gM} {cc : ByteArray} {Q : gU} {Q' : gQM} {f : Nat → va_E} {pc : Nat} {lv : List (Nat × Value)} {st rest : List Value} {mc ms : Nat} {p : Program} {e : Env} {s : State} {m : MethodId} {args : Array Value} {below : List Frame} {meth : Method} {c : Code} {H : Heap} {locs : List Loc} {ls : Array Slot} {a9 : Array Value}
    (C : Cx E K cc p s m args meth c) (hD : va_D K.2.2.2.2.2 (wl (gN E) (gAd E) f)) (hS : va_S K.2.2.2.2.2 s.heap H locs) (hl : lv_has ls K.2.2.1 lv)
    (hr : va_Run p E.1 e Q.1 s m args below meth c H locs Q.2.1 Q.2.2.1 mc ms (F0 m pc ls st) rest (gQm E H.size (va_A (wl (gN E) (gAd E) f) H.size) Q' a9) (va_A (wl (gN E) (gAd E) f) H.size))
    (kn : ∀ n ad g, Q' n ad g → gN E ≤ n → (∀ k, k < gN E → ad k = gAd E k) → (∀ k, gN E ≤ k → k < n → K.2.2.2.2.1 ≤ ad k) → G (E.1, E.2.1, E.2.2.1, n, ad) K cc (Q.1, Q.2.1 + mc, Q.2.2.1 + ms, Q.2.2.2) (pc + 3) lv rest g) :
    W p E.1 e Q.1 s m args below meth c H locs Q.2.1 Q.2.2.1 (Q.2.2.2 below args s) (F0 m pc ls st) := by
  obtain ⟨hx, hb, hml, hrt, hown, hts, hlocks, hno, hsz, hA, hnm, hgs⟩ := id C
  have hAA : ∀ q, va_A (wl (gN E) (gAd E) f) H.size q → K.2.2.2.2.2 q := by
    intro q hq
    rcases hq with ⟨k, e9, hk⟩ | hq
    · exact hD.2 k _ hk
    · exact hA q (Nat.le_trans (by rw [← hsz]; exact hS.1) hq)
  intro T hT X
  obtain ⟨v, st₀, t, T', L, h0, X', hL, e1, e2, ⟨hv, n, ad, g, hq, hn, hkeep, hnew, hP9, hD9, hF9⟩, go⟩ := hr T hT X
  cases hv
  obtain ⟨k1, k2, k3⟩ := vx_keep (H := H) h0 e1 hS (fun q _ h => hAA q h) hAA hL hF9
  have hnew' : ∀ k, gN E ≤ k → k < n → K.2.2.2.2.1 ≤ ad k := fun k h1 h2 => Nat.le_trans (by rw [← hsz]; exact hS.1) (hnew k h1 h2)
  have hD1 : va_D K.2.2.2.2.2 (wl n ad g) := ⟨hD9.1, fun k q hk => by
    obtain ⟨h1, e3⟩ := wl_lt hk
    subst e3
    by_cases h2 : k < gN E
    · show K.2.2.2.2.2 (ad k)
      rw [hkeep k h2]
      exact hD.2 k _ (wl_get h2)
    · exact hA _ (hnew' k (by omega) h1)⟩
  obtain ⟨t2, a1, b1⟩ := kn n ad g hq hn hkeep hnew' p e s m args below meth c C T'.heap (locs ++ L) ls (by rw [e1]; exact hP9) hD1 k3 hl T' rfl X'
  exact ⟨t2, go t2 a1, b1⟩
/-- invokespecial of a constructor -/
theorem G.callI {E : gE} {K : gM} {cc : ByteArray} {Q : gU} {f : Nat → va_E} {pc : Nat} {lv : List (Nat × Value)} {h' mc ms : Nat} {y : MethodName} {cc' : ByteArray} {nL' : Nat} {Q' : gQM} {idx : Nat} (a : Nat) (As rest : List Value) {st : List Value}
    (hM : Cm E h' mc ms y cc' nL' (.ref a :: As) f Q') (hw : Cw K.2.1.cls idx y cc' nL' none As.length) (hin : Cond.instanceMethod y ∈ TB) (hi : y.name = "<init>") (hh : h' + 1 ≤ Q.1.frames) (hlo : 64 * (h' + 1) ≤ Q.1.locals)
    (hc : Q.2.1 + mc ≤ Q.1.cells) (hs : Q.2.2.1 + ms ≤ Q.1.slots) (hst : st = As.reverse ++ .ref a :: rest) (hcat : (rest.map fun v => v.category).sum ≤ 8) (d : decode cc pc = .ok (.invokespecial idx, 3))
    (kn : ∀ n ad g, Q' n ad g → gN E ≤ n → (∀ k, k < gN E → ad k = gAd E k) → (∀ k, gN E ≤ k → k < n → K.2.2.2.2.1 ≤ ad k) → G (E.1, E.2.1, E.2.2.1, n, ad) K cc (Q.1, Q.2.1 + mc, Q.2.2.1 + ms, Q.2.2.2) (pc + 3) lv rest g) : G E K cc Q pc lv st f := by
  subst hst
  intro p e s m args below meth c C H locs ls hP hD hS hl
  obtain ⟨hx, hb, hml, hrt, hown, hts, hlocks, hno, hsz, hA, hnm, hgs⟩ := id C
  obtain ⟨w1, w2, w3, w4, w5, w6⟩ := hw
  refine g_made C hD hS hl (va_runI (Ts := TB) (cc := cc) (nL := K.2.2.1) (own := K.2.1.cls) (bytes := cc') (maxL := nL') (n := As.length) ⟨hx, hb, hml, hown, hts⟩ (hM H.size) ⟨⟨rfl, rfl, hh, ?_, ?_, List.mem_cons_self, hts _ w2, hts _ w3, w4, ?_, hts _ w1⟩, hi, hts _ hin⟩ ⟨gPre.blind, fun U hU hW => g_pre C hP hD hS hU hW⟩ rfl rfl hl.1 rfl (lv_room hcat) d ⟨hc, hs⟩) kn
  · show 8 + (nL' + 11) + 64 * h' ≤ Q.1.locals
    omega
  · intro w hw a' U hW
    rcases List.mem_cons.mp hw with rfl | hw
    · exact tb_at hts hW _ w2
    · exact tb_at hts hW _ hw
  · intro sig h
    rw [h] at w5
    exact (Option.some.inj w5).symm
/-- .. of a nest mate's private one -/
theorem G.callIN {E : gE} {K : gM} {cc : ByteArray} {Q : gU} {f : Nat → va_E} {pc : Nat} {lv : List (Nat × Value)} {h' mc ms : Nat} {y : MethodName} {cc' : ByteArray} {nL' : Nat} {Q' : gQM} {idx : Nat} {host : String} (a : Nat) (As rest : List Value) {st : List Value}
    (hM : Cm E h' mc ms y cc' nL' (.ref a :: As) f Q') (hn : (K.2.1.cls, idx, y, host) ∈ gNst) (w2 : Cond.code y cc' nL' none ∈ TB) (w3 : Cond.initialized y.cls ∈ TB) (w4 : y.cls ≠ "java/lang/invoke/MethodHandle" ∧ y.cls ≠ "java/lang/invoke/VarHandle") (w5 : (parseMethodDescriptor y.desc).map (fun d => d.parameters.length) = some As.length) (w6 : nL' ≤ 45) (hin : Cond.instanceMethod y ∈ TB) (hi : y.name = "<init>") (hh : h' + 1 ≤ Q.1.frames) (hlo : 64 * (h' + 1) ≤ Q.1.locals)
    (hc : Q.2.1 + mc ≤ Q.1.cells) (hs : Q.2.2.1 + ms ≤ Q.1.slots) (hst : st = As.reverse ++ .ref a :: rest) (hcat : (rest.map fun v => v.category).sum ≤ 8) (d : decode cc pc = .ok (.invokespecial idx, 3))
    (kn : ∀ n ad g, Q' n ad g → gN E ≤ n → (∀ k, k < gN E → ad k = gAd E k) → (∀ k, gN E ≤ k → k < n → K.2.2.2.2.1 ≤ ad k) → G (E.1, E.2.1, E.2.2.1, n, ad) K cc (Q.1, Q.2.1 + mc, Q.2.2.1 + ms, Q.2.2.2) (pc + 3) lv rest g) : G E K cc Q pc lv st f := by
  subst hst
  intro p e s m args below meth c C H locs ls hP hD hS hl
  obtain ⟨hx, hb, hml, hrt, hown, hts, hlocks, hno, hsz, hA, hnm, hgs⟩ := id C
  refine g_made C hD hS hl (va_runIN (Ts := TB) (cc := cc) (nL := K.2.2.1) (own := K.2.1.cls) (host := host) (bytes := cc') (maxL := nL') (n := As.length) ⟨hx, hb, hml, hown, hts⟩ (hM H.size) ⟨⟨⟨rfl, rfl, hh, ?_, ?_, List.mem_cons_self⟩, hts _ w2, hts _ w3, w4, ?_, va_Nw.use rfl (hgs.2.2.2.2.2.2.1 _ hn)⟩, hi, hts _ hin⟩ ⟨gPre.blind, fun U hU hW => g_pre C hP hD hS hU hW⟩ rfl rfl hl.1 rfl (lv_room hcat) d ⟨hc, hs⟩) kn
  · show 8 + (nL' + 11) + 64 * h' ≤ Q.1.locals
    omega
  · intro w hw a' U hW
    rcases List.mem_cons.mp hw with rfl | hw
    · exact tb_at hts hW _ w2
    · exact tb_at hts hW _ hw
  · intro sig h
    rw [h] at w5
    exact (Option.some.inj w5).symm
end GLH
