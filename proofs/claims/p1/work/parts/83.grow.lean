/-! ===== worlds that grow, seen from outside: the old cells stay, the new one is known ===== -/
section GLG
/-- two addresses are one (not seen by the arithmetic) -/
def aeq (a b : Nat) : Prop := a = b
theorem aeq.eq {a b : Nat} (h : aeq a b) : a = b := h
theorem vn_n {α : Type} {f : Nat → α} {n : Nat} {e : α} : ∀ k, k < n → va_up f n e k = f k := fun k h => if_neg (by omega)
theorem vn_e {α : Type} {f : Nat → α} {n : Nat} {e : α} : va_up f n e n = e := if_pos rfl
theorem G.nuB {E : gE} {K : gM} {cc : ByteArray} {R : Room} {cu su : Nat} {Z : List Frame → Array Value → State → State → Prop} {f : Nat → va_E} {pc : Nat} {lv : List (Nat × Value)} {st : List Value} {n : Int32} {N' : Nat} (hw : Cond.arrayClass .byte ∈ TB) (hn : ¬ n < 0) (hN : n.toNatClampNeg = N') (hbig : N' ≤ 60000000) (hc : cu + 1 ≤ R.cells) (hs : su + N' ≤ R.slots) (d : decode cc pc = .ok (.newarray .byte, 2)) (kk : ∀ ad' f', (∀ k, k < gN E → ad' k = gAd E k) → (∀ k, k < gN E → f' k = f k) → f' (gN E) = oB (gDA E) N' (fun _ => 0) → G (E.1, E.2.1, E.2.2.1, gN E + 1, ad') K cc (R, cu + 1, su + N', Z) (pc + 2) lv (.ref (ad' (gN E)) :: st) f') : G E K cc (R, cu, su, Z) pc lv (.int n :: st) f := by
  refine G.newB hw hn hN hbig hc hs d (fun a => ?_)
  have h := kk (va_up (gAd E) (gN E) a) (va_up f (gN E) (oB (gDA E) N' (fun _ => 0))) vn_n vn_n vn_e
  rw [vn_e] at h
  exact h
theorem G.nuI {E : gE} {K : gM} {cc : ByteArray} {R : Room} {cu su : Nat} {Z : List Frame → Array Value → State → State → Prop} {f : Nat → va_E} {pc : Nat} {lv : List (Nat × Value)} {st : List Value} {n : Int32} {N' : Nat} (hw : Cond.arrayClass .int ∈ TB) (hn : ¬ n < 0) (hN : n.toNatClampNeg = N') (hbig : N' ≤ 60000000) (hc : cu + 1 ≤ R.cells) (hs : su + N' ≤ R.slots) (d : decode cc pc = .ok (.newarray .int, 2)) (kk : ∀ ad' f', (∀ k, k < gN E → ad' k = gAd E k) → (∀ k, k < gN E → f' k = f k) → f' (gN E) = oI (gDA E) N' (fun _ => 0) → G (E.1, E.2.1, E.2.2.1, gN E + 1, ad') K cc (R, cu + 1, su + N', Z) (pc + 2) lv (.ref (ad' (gN E)) :: st) f') : G E K cc (R, cu, su, Z) pc lv (.int n :: st) f := by
  refine G.newI hw hn hN hbig hc hs d (fun a => ?_)
  have h := kk (va_up (gAd E) (gN E) a) (va_up f (gN E) (oI (gDA E) N' (fun _ => 0))) vn_n vn_n vn_e
  rw [vn_e] at h
  exact h
theorem G.nuZ {E : gE} {K : gM} {cc : ByteArray} {R : Room} {cu su : Nat} {Z : List Frame → Array Value → State → State → Prop} {f : Nat → va_E} {pc : Nat} {lv : List (Nat × Value)} {st : List Value} {n : Int32} {N' : Nat} (hw : Cond.arrayClass .boolean ∈ TB) (hn : ¬ n < 0) (hN : n.toNatClampNeg = N') (hbig : N' ≤ 60000000) (hc : cu + 1 ≤ R.cells) (hs : su + N' ≤ R.slots) (d : decode cc pc = .ok (.newarray .boolean, 2)) (kk : ∀ ad' f', (∀ k, k < gN E → ad' k = gAd E k) → (∀ k, k < gN E → f' k = f k) → f' (gN E) = oZ (gDA E) N' (fun _ => 0) → G (E.1, E.2.1, E.2.2.1, gN E + 1, ad') K cc (R, cu + 1, su + N', Z) (pc + 2) lv (.ref (ad' (gN E)) :: st) f') : G E K cc (R, cu, su, Z) pc lv (.int n :: st) f := by
  refine G.newZ hw hn hN hbig hc hs d (fun a => ?_)
  have h := kk (va_up (gAd E) (gN E) a) (va_up f (gN E) (oZ (gDA E) N' (fun _ => 0))) vn_n vn_n vn_e
  rw [vn_e] at h
  exact h
theorem G.nuJ {E : gE} {K : gM} {cc : ByteArray} {R : Room} {cu su : Nat} {Z : List Frame → Array Value → State → State → Prop} {f : Nat → va_E} {pc : Nat} {lv : List (Nat × Value)} {st : List Value} {n : Int32} {N' : Nat} (hw : Cond.arrayClass .long ∈ TB) (hn : ¬ n < 0) (hN : n.toNatClampNeg = N') (hbig : N' ≤ 60000000) (hc : cu + 1 ≤ R.cells) (hs : su + N' ≤ R.slots) (d : decode cc pc = .ok (.newarray .long, 2)) (kk : ∀ ad' f', (∀ k, k < gN E → ad' k = gAd E k) → (∀ k, k < gN E → f' k = f k) → f' (gN E) = oJ (gDA E) N' (fun _ => 0) → G (E.1, E.2.1, E.2.2.1, gN E + 1, ad') K cc (R, cu + 1, su + N', Z) (pc + 2) lv (.ref (ad' (gN E)) :: st) f') : G E K cc (R, cu, su, Z) pc lv (.int n :: st) f := by
  refine G.newJ hw hn hN hbig hc hs d (fun a => ?_)
  have h := kk (va_up (gAd E) (gN E) a) (va_up f (gN E) (oJ (gDA E) N' (fun _ => 0))) vn_n vn_n vn_e
  rw [vn_e] at h
  exact h
theorem G.nuO {E : gE} {K : gM} {cc : ByteArray} {R : Room} {cu su : Nat} {Z : List Frame → Array Value → State → State → Prop} {f : Nat → va_E} {pc : Nat} {lv : List (Nat × Value)} {st : List Value} {ci : Nat} {C : String} {T : u_T} {N : Nat} {ty : Nat → FieldType} (hcl : Cls ci C T N ty) {idx : Nat} (fs : List Value) (hfs : ∀ j, j < N → defaultValue (ty j) = vp_V fs j) (hw : Cond.classLink K.2.1.cls idx C ∈ TB) (hinst : Cond.instantiable C N ∈ TB) (hini : Cond.initialized C ∈ TB) (hc : cu + 1 ≤ R.cells) (hs : su + N ≤ R.slots) (d : decode cc pc = .ok (.new idx, 3)) (kk : ∀ ad' f', (∀ k, k < gN E → ad' k = gAd E k) → (∀ k, k < gN E → f' k = f k) → f' (gN E) = .inr (ci, fs) → G (E.1, E.2.1, E.2.2.1, gN E + 1, ad') K cc (R, cu + 1, su + N, Z) (pc + 3) lv (.ref (ad' (gN E)) :: st) f') : G E K cc (R, cu, su, Z) pc lv st f := by
  refine G.new hcl hfs hw hinst hini hc hs d (fun a => ?_)
  have h := kk (va_up (gAd E) (gN E) a) (va_up f (gN E) (.inr (ci, fs))) vn_n vn_n vn_e
  rw [vn_e] at h
  exact h
/-- N rows from key b on -/
def rwB (ad : Nat → Nat) (b N : Nat) : Nat → Option Nat := fun i => if i < N then some (ad (b + i)) else none
theorem rwB_e {ad ad' : Nat → Nat} {b N n : Nat} (h : ∀ k, k < n → ad' k = ad k) (hb : b + N ≤ n) : rwB ad' b N = rwB ad b N := by
  funext i
  unfold rwB
  split
  · rw [h (b + i) (by omega)]
  · rfl
theorem G.nuM {E : gE} {K : gM} {cc : ByteArray} {R : Room} {cu su : Nat} {Z : List Frame → Array Value → State → State → Prop} {f : Nat → va_E} {pc : Nat} {lv : List (Nat × Value)} {st : List Value} {n k : Int32} {N' K' : Nat} {idx : Nat} (hw : Cond.classLink K.2.1.cls idx "[[B" ∈ TB) (hw2 : Cond.arrayClass .byte ∈ TB) (hn : ¬ n < 0) (hk : ¬ k < 0) (hN : n.toNatClampNeg = N') (hM : k.toNatClampNeg = K') (hb1 : N' ≤ 60000000) (hb2 : K' ≤ 60000000) (hc : cu + (1 + N') ≤ R.cells) (hs : su + (N' + N' * K') ≤ R.slots) (d : decode cc pc = .ok (.multianewarray idx 2, 4))
    (kk : ∀ ad' f', (∀ k, k < gN E → ad' k = gAd E k) → (∀ k, k < gN E → f' k = f k) → f' (gN E) = oR (gDA E) N' (rwB ad' (gN E + 1) N') → (∀ i, i < N' → f' (gN E + 1 + i) = oB (gDA E) K' (fun _ => 0)) → G (E.1, E.2.1, E.2.2.1, gN E + 1 + N', ad') K cc (R, cu + 1 + N', su + N' + N' * K', Z) (pc + 4) lv (.ref (ad' (gN E)) :: st) f') : G E K cc (R, cu, su, Z) pc lv (.int k :: .int n :: st) f := by
  refine G.multi hw hw2 hn hk hN hM hb1 hb2 hc hs d (fun q r => ?_)
  have h := kk (fun k => if k < gN E then gAd E k else if k = gN E then q else r (k - gN E - 1)) (fun k => if k < gN E then f k else if k = gN E then oR (gDA E) N' (fun i => if i < N' then some (r i) else none) else oB (gDA E) K' (fun _ => 0)) (fun k hk => if_pos hk) (fun k hk => if_pos hk) ?_ ?_
  · have e : (if gN E < gN E then gAd E (gN E) else if gN E = gN E then q else r (gN E - gN E - 1)) = q := by rw [if_neg (Nat.lt_irrefl _), if_pos rfl]
    try dsimp only at h
    rw [e] at h
    exact h
  · try dsimp only
    rw [if_neg (Nat.lt_irrefl _), if_pos rfl]
    have e : (fun i => if i < N' then some (r i) else none) = rwB (fun k => if k < gN E then gAd E k else if k = gN E then q else r (k - gN E - 1)) (gN E + 1) N' := by
      funext i
      unfold rwB
      split
      · try dsimp only
        rw [if_neg (by omega), if_neg (by omega), show gN E + 1 + i - gN E - 1 = i by omega]
      · rfl
    rw [e]
  · intro i hi
    try dsimp only
    rw [if_neg (by omega), if_neg (by omega)]
/-- a constructor's end: what it made is new -/
theorem G.vretG {E : gE} {n' : Nat} {ad' : Nat → Nat} {f0 : Nat → va_E} {h : Nat} {y : MethodName} {nL sz : Nat} {cc : ByteArray} {Q : gQM} {f : Nat → va_E} {pc : Nat} {lv : List (Nat × Value)} {mc ms cu su : Nat} (hn : gN E ≤ n') (hkeep : ∀ k, k < gN E → ad' k = gAd E k) (hq : Q n' ad' f) (hc : cu ≤ mc) (hs : su ≤ ms)
    (d : decode cc pc = .ok (.return_, 1)) : G (E.1, E.2.1, E.2.2.1, n', ad') (h, y, nL, none, sz, va_A (wl (gN E) (gAd E) f0) sz) cc (gOm E (h, y, nL, none, sz, va_A (wl (gN E) (gAd E) f0) sz) mc ms cu su Q) pc lv [] f := by
  intro p e s m args below meth c C H locs ls hP hD hS hl
  refine G.vretM (E := E) (E' := (E.1, E.2.1, E.2.2.1, n', ad')) rfl rfl rfl hn hkeep hq hc hs (fun k h1 h2 => ?_) d p e s m args below meth c C H locs ls hP hD hS hl
  have hA : va_A (wl (gN E) (gAd E) f0) sz (ad' k) := hD.2 k (ad' k, f k) (wl_get h2)
  rcases hA with ⟨j, e9, hj⟩ | hA
  · obtain ⟨j1, j2⟩ := wl_lt hj
    have e1 : ad' j = ad' k := (hkeep j j1).trans (congrArg Prod.fst j2).symm
    have e2 : j = k := hD.1 j k (ad' j, f j) (ad' k, f k) (wl_get (Nat.lt_of_lt_of_le j1 hn)) (wl_get h2) e1
    have h1 : gN E ≤ k := h1
    omega
  · exact hA
theorem G.cut {E : gE} {K : gM} {cc : ByteArray} {Q : gU} {f : Nat → va_E} {pc pc1 : Nat} {lv lv1 : List (Nat × Value)} {st st1 : List Value} (k : G E K cc Q pc1 lv1 st1 f) (h : G E K cc Q pc1 lv1 st1 f → G E K cc Q pc lv st f) : G E K cc Q pc lv st f := h k
/-- invokestatic, anywhere, of a contract that doesn't throw -/
theorem G.callSr {E : gE} {K : gM} {cc : ByteArray} {Q : gU} {f : Nat → va_E} {pc : Nat} {lv : List (Nat × Value)} {h' : Nat} {y : MethodName} {cc' : ByteArray} {nL' : Nat} {ret' : Option FieldType} {Q' : gQ} {idx : Nat} (As rest : List Value) {st : List Value}
    (hM : Ct E h' y cc' nL' ret' As f Q') (hw : Cw K.2.1.cls idx y cc' nL' ret' As.length) (hsta : Cond.static y ∈ TB) (hfr : h' + 1 ≤ Q.1.frames) (hlo : 64 * (h' + 1) ≤ Q.1.locals) (hc : Q.2.1 + 1 ≤ Q.1.cells) (hs : Q.2.2.1 + 6 ≤ Q.1.slots)
    (hst : st = As.reverse ++ rest) (hcat : (rest.map fun v => v.category).sum ≤ 8) (d : decode cc pc = .ok (.invokestatic idx, 3))
    (kn : ∀ v g, Q'.1 v g → G E K cc Q (pc + 3) lv (v.toList ++ rest) g) (kx : ∀ X g, Q'.2 X g → False) : G E K cc Q pc lv st f := by
  subst hst
  intro p e s m args below meth c C H locs ls hP hD hS hl
  obtain ⟨hx, hb, hml, hrt, hown, hts, hlocks, hno, hsz, hA, hnm, hgs⟩ := id C
  obtain ⟨w1, w2, w3, w4, w5, w6⟩ := hw
  intro T hT X
  have hB := g_back (R := Q.1) (p := p) (e := e) (below := below) (s := s) (sargs := args) (len := 3) (W9 := 8) (bytes := cc') (maxL := nL') (ret := ret') (hM H.size) gPre.blind rfl rfl hfr (by show 8 + (nL' + 11) + 64 * h' ≤ Q.1.locals; omega)
    (fun w hw a' U hW => by
      rcases List.mem_cons.mp hw with rfl | hw
      · exact tb_at hts hW _ w2
      · exact tb_at hts hW _ hw) List.mem_cons_self (fun a' U hW => tb_at hts hW _ w3)
  have hlen : ∀ sig, parseMethodDescriptor y.desc = some sig → As.length = sig.parameters.length := fun sig h => by
    rw [h] at w5
    exact (Option.some.inj w5).symm
  have hr := vx_callS X hx (bytes := cc') (maxL := nL') (ret := ret') hown (hts _ w1) (hts _ hsta) (hts _ w3) (hts _ w2) w4 hB (g := F0 m pc ls (As.reverse ++ rest)) rfl (by show ls.size = _; rw [hl.1, hml]) (argsL := As) (rest := rest) hlen rfl (lv_room hcat) (by rw [hb]; exact d)
    (fun vm₁ hW₁ => ⟨hc, hs, g_pre C hP hD hS hT hW₁⟩)
  have hAA : ∀ q, va_A (wl (gN E) (gAd E) f) H.size q → K.2.2.2.2.2 q := by
    intro q hq
    rcases hq with ⟨k, e9, hk⟩ | hq
    · exact hD.2 k _ hk
    · exact hA q (Nat.le_trans (by rw [← hsz]; exact hS.1) hq)
  rcases hr with ⟨v, vm₁, ⟨U', l2, c2, s2⟩, hW₁, X', ⟨g', mk, t, L, e1, e2, ⟨v9, g, hv, hq, hP9, hF9⟩, h1, hL, h2, h3⟩, st1⟩ | ⟨q, vm₁, ⟨U', l2, c2, s2⟩, hW₁, X', ⟨g', mk, t, L, X9, ce, e1, e2, ⟨g, hq, hP9, hF9⟩, hce, hcv, hcl, h1, hL, h2, h3⟩, st1⟩
  · dsimp only [Pt.U, Pt.locs, Pt.cells, Pt.slots] at X' e1 e2 h1 h2 h3 st1
    subst h1; subst h2; subst h3
    cases hv
    obtain ⟨k1, k2, k3⟩ := vx_keep (H := H) (st₀ := (T.setVm vm₁).calling g' mk _) hT e1 hS (fun q _ h => hAA q h) hAA hL hF9
    obtain ⟨t2, a1, b1⟩ := kn v g hq p e s m args below meth c C U'.heap (locs ++ L) ls (by rw [e1]; exact hP9) (wl_D hD) k3 hl U' rfl X'
    exact ⟨t2, st1 t2 a1, b1⟩
  · exact (kx _ _ hq).elim
/-- keys anew: n' of them, key k is what key σ k was -/
theorem wl_ren {n n' : Nat} {ad : Nat → Nat} {f : Nat → va_E} {σ : Nat → Nat} (hσ : ∀ k, k < n' → σ k < n) {k : Nat} {q : Nat × va_E} (h : (wl n' (fun k => ad (σ k)) (fun k => f (σ k)))[k]? = some q) : k < n' ∧ (wl n ad f)[σ k]? = some q := by
  obtain ⟨h1, h2⟩ := wl_lt h
  subst h2
  exact ⟨h1, wl_get (hσ k h1)⟩
theorem G.ren {E : gE} {K : gM} {cc : ByteArray} {Q : gU} {f : Nat → va_E} {pc : Nat} {lv : List (Nat × Value)} {st : List Value} (n' : Nat) (σ : Nat → Nat) (hσ : ∀ k, k < n' → σ k < gN E) (hi : ∀ j k, j < n' → k < n' → σ j = σ k → j = k) (h : G (E.1, E.2.1, E.2.2.1, n', fun k => gAd E (σ k)) K cc Q pc lv st (fun k => f (σ k))) : G E K cc Q pc lv st f := by
  intro p e s m args below meth c C H locs ls hP hD hS hl
  refine h p e s m args below meth c C H locs ls ?_ ?_ hS hl
  · exact fun k q hk => hP _ q (wl_ren (f := f) hσ hk).2
  · refine ⟨fun i j a b ha hb hab => ?_, fun k q hk => ?_⟩
    · obtain ⟨a1, a2⟩ := wl_ren (f := f) hσ ha
      obtain ⟨b1, b2⟩ := wl_ren (f := f) hσ hb
      exact hi i j a1 b1 (hD.1 _ _ _ _ a2 b2 hab)
    · exact hD.2 _ _ (wl_ren (f := f) hσ hk).2
/-- calls of constructors, the room's count by numbers -/
theorem G.cI {E : gE} {K : gM} {cc : ByteArray} {R : Room} {cu su : Nat} {Z : List Frame → Array Value → State → State → Prop} {f : Nat → va_E} {pc : Nat} {lv : List (Nat × Value)} {h' mc ms : Nat} {y : MethodName} {cc' : ByteArray} {nL' : Nat} {Q' : gQM} {idx : Nat} (a : Nat) (As rest : List Value) {st : List Value}
    (hM : Cm E h' mc ms y cc' nL' (.ref a :: As) f Q') (hw : Cw K.2.1.cls idx y cc' nL' none As.length) (hin : Cond.instanceMethod y ∈ TB) (hi : y.name = "<init>") (hh : h' + 1 ≤ R.frames) (hlo : 64 * (h' + 1) ≤ R.locals)
    (hc : cu + mc ≤ R.cells) (hs : su + ms ≤ R.slots) (hst : st = As.reverse ++ .ref a :: rest) (hcat : (rest.map fun v => v.category).sum ≤ 8) (d : decode cc pc = .ok (.invokespecial idx, 3))
    (kn : ∀ n ad g, Q' n ad g → gN E ≤ n → (∀ k, k < gN E → ad k = gAd E k) → (∀ k, gN E ≤ k → k < n → K.2.2.2.2.1 ≤ ad k) → G (E.1, E.2.1, E.2.2.1, n, ad) K cc (R, cu + mc, su + ms, Z) (pc + 3) lv rest g) : G E K cc (R, cu, su, Z) pc lv st f :=
  G.callI a As rest hM hw hin hi hh hlo hc hs hst hcat d kn
theorem G.cIN {E : gE} {K : gM} {cc : ByteArray} {R : Room} {cu su : Nat} {Z : List Frame → Array Value → State → State → Prop} {f : Nat → va_E} {pc : Nat} {lv : List (Nat × Value)} {h' mc ms : Nat} {y : MethodName} {cc' : ByteArray} {nL' : Nat} {Q' : gQM} {idx : Nat} {host : String} (a : Nat) (As rest : List Value) {st : List Value}
    (hM : Cm E h' mc ms y cc' nL' (.ref a :: As) f Q') (hn : (K.2.1.cls, idx, y, host) ∈ gNst) (w2 : Cond.code y cc' nL' none ∈ TB) (w3 : Cond.initialized y.cls ∈ TB) (w4 : y.cls ≠ "java/lang/invoke/MethodHandle" ∧ y.cls ≠ "java/lang/invoke/VarHandle") (w5 : (parseMethodDescriptor y.desc).map (fun d => d.parameters.length) = some As.length) (w6 : nL' ≤ 45) (hin : Cond.instanceMethod y ∈ TB) (hi : y.name = "<init>") (hh : h' + 1 ≤ R.frames) (hlo : 64 * (h' + 1) ≤ R.locals)
    (hc : cu + mc ≤ R.cells) (hs : su + ms ≤ R.slots) (hst : st = As.reverse ++ .ref a :: rest) (hcat : (rest.map fun v => v.category).sum ≤ 8) (d : decode cc pc = .ok (.invokespecial idx, 3))
    (kn : ∀ n ad g, Q' n ad g → gN E ≤ n → (∀ k, k < gN E → ad k = gAd E k) → (∀ k, gN E ≤ k → k < n → K.2.2.2.2.1 ≤ ad k) → G (E.1, E.2.1, E.2.2.1, n, ad) K cc (R, cu + mc, su + ms, Z) (pc + 3) lv rest g) : G E K cc (R, cu, su, Z) pc lv st f :=
  G.callIN a As rest hM hn w2 w3 w4 w5 w6 hin hi hh hlo hc hs hst hcat d kn
theorem G.mkB {l : Launch} {D : va_G} {dA : Nat → ClassId} {n0 : Nat} {ad0 : Nat → Nat} {K : gM} {cc : ByteArray} {R : Room} {cu su : Nat} {Z : List Frame → Array Value → State → State → Prop} {f : Nat → va_E} {pc : Nat} {lv : List (Nat × Value)} {st : List Value} {n : Int32} {N' : Nat} (n1 : Nat) (e1 : n0 + 1 = n1) (hw : Cond.arrayClass .byte ∈ TB) (hn : ¬ n < 0) (hN : n.toNatClampNeg = N') (hbig : N' ≤ 60000000) (hc : cu + 1 ≤ R.cells) (hs : su + N' ≤ R.slots) (d : decode cc pc = .ok (.newarray .byte, 2)) (kk : ∀ ad' f', (∀ k, k < n0 → ad' k = ad0 k) → (∀ k, k < n0 → f' k = f k) → f' n0 = oB dA N' (fun _ => 0) → G (l, D, dA, n1, ad') K cc (R, cu + 1, su + N', Z) (pc + 2) lv (.ref (ad' n0) :: st) f') : G (l, D, dA, n0, ad0) K cc (R, cu, su, Z) pc lv (.int n :: st) f := by
  subst e1
  exact G.nuB (E := (l, D, dA, n0, ad0)) hw hn hN hbig hc hs d kk
theorem G.mkI {l : Launch} {D : va_G} {dA : Nat → ClassId} {n0 : Nat} {ad0 : Nat → Nat} {K : gM} {cc : ByteArray} {R : Room} {cu su : Nat} {Z : List Frame → Array Value → State → State → Prop} {f : Nat → va_E} {pc : Nat} {lv : List (Nat × Value)} {st : List Value} {n : Int32} {N' : Nat} (n1 : Nat) (e1 : n0 + 1 = n1) (hw : Cond.arrayClass .int ∈ TB) (hn : ¬ n < 0) (hN : n.toNatClampNeg = N') (hbig : N' ≤ 60000000) (hc : cu + 1 ≤ R.cells) (hs : su + N' ≤ R.slots) (d : decode cc pc = .ok (.newarray .int, 2)) (kk : ∀ ad' f', (∀ k, k < n0 → ad' k = ad0 k) → (∀ k, k < n0 → f' k = f k) → f' n0 = oI dA N' (fun _ => 0) → G (l, D, dA, n1, ad') K cc (R, cu + 1, su + N', Z) (pc + 2) lv (.ref (ad' n0) :: st) f') : G (l, D, dA, n0, ad0) K cc (R, cu, su, Z) pc lv (.int n :: st) f := by
  subst e1
  exact G.nuI (E := (l, D, dA, n0, ad0)) hw hn hN hbig hc hs d kk
theorem G.mkZ {l : Launch} {D : va_G} {dA : Nat → ClassId} {n0 : Nat} {ad0 : Nat → Nat} {K : gM} {cc : ByteArray} {R : Room} {cu su : Nat} {Z : List Frame → Array Value → State → State → Prop} {f : Nat → va_E} {pc : Nat} {lv : List (Nat × Value)} {st : List Value} {n : Int32} {N' : Nat} (n1 : Nat) (e1 : n0 + 1 = n1) (hw : Cond.arrayClass .boolean ∈ TB) (hn : ¬ n < 0) (hN : n.toNatClampNeg = N') (hbig : N' ≤ 60000000) (hc : cu + 1 ≤ R.cells) (hs : su + N' ≤ R.slots) (d : decode cc pc = .ok (.newarray .boolean, 2)) (kk : ∀ ad' f', (∀ k, k < n0 → ad' k = ad0 k) → (∀ k, k < n0 → f' k = f k) → f' n0 = oZ dA N' (fun _ => 0) → G (l, D, dA, n1, ad') K cc (R, cu + 1, su + N', Z) (pc + 2) lv (.ref (ad' n0) :: st) f') : G (l, D, dA, n0, ad0) K cc (R, cu, su, Z) pc lv (.int n :: st) f := by
  subst e1
  exact G.nuZ (E := (l, D, dA, n0, ad0)) hw hn hN hbig hc hs d kk
theorem G.mkJ {l : Launch} {D : va_G} {dA : Nat → ClassId} {n0 : Nat} {ad0 : Nat → Nat} {K : gM} {cc : ByteArray} {R : Room} {cu su : Nat} {Z : List Frame → Array Value → State → State → Prop} {f : Nat → va_E} {pc : Nat} {lv : List (Nat × Value)} {st : List Value} {n : Int32} {N' : Nat} (n1 : Nat) (e1 : n0 + 1 = n1) (hw : Cond.arrayClass .long ∈ TB) (hn : ¬ n < 0) (hN : n.toNatClampNeg = N') (hbig : N' ≤ 60000000) (hc : cu + 1 ≤ R.cells) (hs : su + N' ≤ R.slots) (d : decode cc pc = .ok (.newarray .long, 2)) (kk : ∀ ad' f', (∀ k, k < n0 → ad' k = ad0 k) → (∀ k, k < n0 → f' k = f k) → f' n0 = oJ dA N' (fun _ => 0) → G (l, D, dA, n1, ad') K cc (R, cu + 1, su + N', Z) (pc + 2) lv (.ref (ad' n0) :: st) f') : G (l, D, dA, n0, ad0) K cc (R, cu, su, Z) pc lv (.int n :: st) f := by
  subst e1
  exact G.nuJ (E := (l, D, dA, n0, ad0)) hw hn hN hbig hc hs d kk
theorem G.mkO {l : Launch} {D : va_G} {dA : Nat → ClassId} {n0 : Nat} {ad0 : Nat → Nat} {K : gM} {cc : ByteArray} {R : Room} {cu su : Nat} {Z : List Frame → Array Value → State → State → Prop} {f : Nat → va_E} {pc : Nat} {lv : List (Nat × Value)} {st : List Value} {ci : Nat} {C : String} {T : u_T} {N : Nat} {ty : Nat → FieldType} (n1 : Nat) (e1 : n0 + 1 = n1) (hcl : Cls ci C T N ty) {idx : Nat} (fs : List Value) (hfs : ∀ j, j < N → defaultValue (ty j) = vp_V fs j) (hw : Cond.classLink K.2.1.cls idx C ∈ TB) (hinst : Cond.instantiable C N ∈ TB) (hini : Cond.initialized C ∈ TB) (hc : cu + 1 ≤ R.cells) (hs : su + N ≤ R.slots) (d : decode cc pc = .ok (.new idx, 3)) (kk : ∀ ad' f', (∀ k, k < n0 → ad' k = ad0 k) → (∀ k, k < n0 → f' k = f k) → f' n0 = .inr (ci, fs) → G (l, D, dA, n1, ad') K cc (R, cu + 1, su + N, Z) (pc + 3) lv (.ref (ad' n0) :: st) f') : G (l, D, dA, n0, ad0) K cc (R, cu, su, Z) pc lv st f := by
  subst e1
  exact G.nuO (E := (l, D, dA, n0, ad0)) hcl fs hfs hw hinst hini hc hs d kk
theorem G.mkM {l : Launch} {D : va_G} {dA : Nat → ClassId} {n0 : Nat} {ad0 : Nat → Nat} {K : gM} {cc : ByteArray} {R : Room} {cu su : Nat} {Z : List Frame → Array Value → State → State → Prop} {f : Nat → va_E} {pc : Nat} {lv : List (Nat × Value)} {st : List Value} {n k : Int32} {N' K' : Nat} {idx : Nat} (n1 b1 : Nat) (e1 : n0 + 1 + N' = n1) (e2 : n0 + 1 = b1) (hw : Cond.classLink K.2.1.cls idx "[[B" ∈ TB) (hw2 : Cond.arrayClass .byte ∈ TB) (hn : ¬ n < 0) (hk : ¬ k < 0) (hN : n.toNatClampNeg = N') (hM : k.toNatClampNeg = K') (hb1 : N' ≤ 60000000) (hb2 : K' ≤ 60000000) (hc : cu + (1 + N') ≤ R.cells) (hs : su + (N' + N' * K') ≤ R.slots) (d : decode cc pc = .ok (.multianewarray idx 2, 4))
    (kk : ∀ ad' f', (∀ k, k < n0 → ad' k = ad0 k) → (∀ k, k < n0 → f' k = f k) → f' n0 = oR dA N' (rwB ad' b1 N') → (∀ i, i < N' → f' (b1 + i) = oB dA K' (fun _ => 0)) → G (l, D, dA, n1, ad') K cc (R, cu + 1 + N', su + N' + N' * K', Z) (pc + 4) lv (.ref (ad' n0) :: st) f') : G (l, D, dA, n0, ad0) K cc (R, cu, su, Z) pc lv (.int k :: .int n :: st) f := by
  subst e1
  subst e2
  exact G.nuM (E := (l, D, dA, n0, ad0)) hw hw2 hn hk hN hM hb1 hb2 hc hs d kk
theorem G.kI {l : Launch} {D : va_G} {dA : Nat → ClassId} {n0 : Nat} {ad0 : Nat → Nat} {K : gM} {cc : ByteArray} {R : Room} {cu su : Nat} {Z : List Frame → Array Value → State → State → Prop} {f : Nat → va_E} {pc : Nat} {lv : List (Nat × Value)} {h' mc ms : Nat} {y : MethodName} {cc' : ByteArray} {nL' : Nat} {Q' : gQM} {idx : Nat} (n1 : Nat) (a : Nat) (As rest : List Value) {st : List Value}
    (hM : Cm (l, D, dA, n0, ad0) h' mc ms y cc' nL' (.ref a :: As) f Q') (e1 : ∀ n ad g, Q' n ad g → n = n1) (hw : Cw K.2.1.cls idx y cc' nL' none As.length) (hin : Cond.instanceMethod y ∈ TB) (hi : y.name = "<init>") (hh : h' + 1 ≤ R.frames) (hlo : 64 * (h' + 1) ≤ R.locals)
    (hc : cu + mc ≤ R.cells) (hs : su + ms ≤ R.slots) (hst : st = As.reverse ++ .ref a :: rest) (hcat : (rest.map fun v => v.category).sum ≤ 8) (d : decode cc pc = .ok (.invokespecial idx, 3)) (kn : ∀ ad g, Q' n1 ad g → (∀ k, k < n0 → ad k = ad0 k) → G (l, D, dA, n1, ad) K cc (R, cu + mc, su + ms, Z) (pc + 3) lv rest g) : G (l, D, dA, n0, ad0) K cc (R, cu, su, Z) pc lv st f :=
  G.callI (E := (l, D, dA, n0, ad0)) a As rest hM hw hin hi hh hlo hc hs hst hcat d (fun n ad g hq _ hA _ => by
    cases e1 n ad g hq
    exact kn ad g hq hA)
theorem G.kIN {l : Launch} {D : va_G} {dA : Nat → ClassId} {n0 : Nat} {ad0 : Nat → Nat} {K : gM} {cc : ByteArray} {R : Room} {cu su : Nat} {Z : List Frame → Array Value → State → State → Prop} {f : Nat → va_E} {pc : Nat} {lv : List (Nat × Value)} {h' mc ms : Nat} {y : MethodName} {cc' : ByteArray} {nL' : Nat} {Q' : gQM} {idx : Nat} {host : String} (n1 : Nat) (a : Nat) (As rest : List Value) {st : List Value}
    (hM : Cm (l, D, dA, n0, ad0) h' mc ms y cc' nL' (.ref a :: As) f Q') (e1 : ∀ n ad g, Q' n ad g → n = n1) (hn : (K.2.1.cls, idx, y, host) ∈ gNst) (w2 : Cond.code y cc' nL' none ∈ TB) (w3 : Cond.initialized y.cls ∈ TB) (w4 : y.cls ≠ "java/lang/invoke/MethodHandle" ∧ y.cls ≠ "java/lang/invoke/VarHandle") (w5 : (parseMethodDescriptor y.desc).map (fun d => d.parameters.length) = some As.length) (w6 : nL' ≤ 45) (hin : Cond.instanceMethod y ∈ TB) (hi : y.name = "<init>") (hh : h' + 1 ≤ R.frames) (hlo : 64 * (h' + 1) ≤ R.locals)
    (hc : cu + mc ≤ R.cells) (hs : su + ms ≤ R.slots) (hst : st = As.reverse ++ .ref a :: rest) (hcat : (rest.map fun v => v.category).sum ≤ 8) (d : decode cc pc = .ok (.invokespecial idx, 3)) (kn : ∀ ad g, Q' n1 ad g → (∀ k, k < n0 → ad k = ad0 k) → G (l, D, dA, n1, ad) K cc (R, cu + mc, su + ms, Z) (pc + 3) lv rest g) : G (l, D, dA, n0, ad0) K cc (R, cu, su, Z) pc lv st f :=
  G.callIN (E := (l, D, dA, n0, ad0)) a As rest hM hn w2 w3 w4 w5 w6 hin hi hh hlo hc hs hst hcat d (fun n ad g hq _ hA _ => by
    cases e1 n ad g hq
    exact kn ad g hq hA)
end GLG
