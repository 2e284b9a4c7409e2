/-! ===== not mounted, or the power off: what is refused ===== -/
section PXT
variable {E : gE} {f g : Nat → va_E} {N B gr u : Nat} {C C2 : CfT} {A : MS} {D D2 : CfT} {R R9 : RfT} {Inv : (Nat → va_E) → Prop} {o : Nat → Int64} {fd : Nat}
/-- the power is on, nothing is mounted -/
def Wn (E : gE) (N B gr u : Nat) (f : Nat → va_E) : Prop := ∃ (C : CfT) (A : MS) (D : CfT) (R : RfT) (o : Nat → Int64), CfV E f N B gr C ∧ Dq D C ∧ AU N B gr A C ∧ RW E f R ∧ f 93 = oJ (gDA E) 1 o ∧ Und N B gr u A D R
/-- either of both -/
def Px (N B gr u : Nat) (C : CfT) (A : MS) (D : CfT) (R : RfT) : Prop := (AU N B gr A C ∧ Und N B gr u A D R) ∨ (AX N B gr A C ∧ Offd N B gr u A D R)
def Wy (E : gE) (N B gr u : Nat) (f : Nat → va_E) : Prop := ∃ (C : CfT) (A : MS) (D : CfT) (R : RfT) (o : Nat → Int64), CfV E f N B gr C ∧ Dq D C ∧ RW E f R ∧ f 93 = oJ (gDA E) 1 o ∧ Px N B gr u C A D R
theorem Wn.y (h : Wn E N B gr u f) : Wy E N B gr u f := by
  obtain ⟨C, A, D, R, o, w1, w2, w3, w4, w5, w6⟩ := h
  exact ⟨C, A, D, R, o, w1, w2, w4, w5, Or.inl ⟨w3, w6⟩⟩
theorem Wo.y (h : Wo E N B gr u f) : Wy E N B gr u f := by
  obtain ⟨C, A, D, R, o, w1, w2, w3, w4, w5, w6⟩ := h
  exact ⟨C, A, D, R, o, w1, w2, w4, w5, Or.inr ⟨w3, w6⟩⟩
theorem Wy.c (h : Wy E N B gr u f) : Wn E N B gr u f ∨ Wo E N B gr u f := by
  obtain ⟨C, A, D, R, o, w1, w2, w4, w5, ⟨p1, p2⟩ | ⟨p1, p2⟩⟩ := h
  · exact Or.inl ⟨C, A, D, R, o, w1, w2, p1, w4, w5, p2⟩
  · exact Or.inr ⟨C, A, D, R, o, w1, w2, p1, w4, w5, p2⟩
theorem AU.s1 {v : Int32} (h : AU N B gr A C) : AU N B gr A (sS C 1 v) := h
theorem AX.s1 {v : Int32} (h : AX N B gr A C) : AX N B gr A (sS C 1 v) := h
theorem Px.tape (h : Px N B gr u C A D R) : Px N B gr u (sS C 1 0) A (sS D 1 0) (setS R 5 0) := h.imp (fun p => ⟨p.1.s1, p.2.tape⟩) (fun p => ⟨p.1.s1, p.2.tape⟩)
theorem Px.nm (hN : N ≤ 1024) (h : Px N B gr u C A D R) : ∃ R', e_notMounted R = some (1, R') ∧ rS R' 0 = 1 ∧ Px N B gr u C A D R' := by
  rcases h with ⟨p1, p2⟩ | ⟨p1, p2⟩
  · obtain ⟨R', e, e0, q⟩ := p2.nm hN
    exact ⟨R', e, e0, Or.inl ⟨p1, q⟩⟩
  · obtain ⟨R', e, e0, q⟩ := p2.nm hN
    exact ⟨R', e, e0, Or.inr ⟨p1, q⟩⟩
theorem Dq.s1 (h : Dq D C) : cS C 1 = cS D 1 := h.1 1 (Or.inl (by decide))
theorem Dq.s2 (h : Dq D C) : cS C 2 = cS D 2 := h.1 2 (Or.inl (by decide))
theorem HwR.dv {on : Int32} {hw : Hw} (h : CfV E f N B gr C) (c : HwR N B on hw C) : DkV E f N (dkOf C) on (cS C 209) (cS C 210) (cS C 211) ∧ dOk N (dkOf C) := by
  obtain ⟨c1, c2, c3⟩ := c
  have q := (h.db c1).1
  rw [c3] at q
  exact ⟨q, c2.2.2.1⟩
theorem Px.cl (px : Px N B gr u C A D R) (h : CfV E f N B gr C) (w2 : Dq D C) : ∃ fd d on le wr ss, fd ≤ 1024 ∧ cS C 1 = nI fd ∧ DkV E f N d on le wr ss ∧ dOk N d ∧ ¬ (¬ cS C 2 = 0 ∧ ¬ on = 0) := by
  rcases px with ⟨p1, p2⟩ | ⟨p1, p2⟩
  · obtain ⟨⟨tp, tl, -, a2, -, a4, -⟩, h2, -⟩ := p2
    obtain ⟨q1, q2⟩ := p1.1.dv h
    exact ⟨tl, _, _, _, _, _, a4, w2.s1.trans a2, q1, q2, fun z => z.1 (w2.s2.trans h2)⟩
  · obtain ⟨⟨tp, tl, -, a2, -, a4, -⟩, -⟩ := p2
    obtain ⟨q1, q2⟩ := p1.1.dv h
    exact ⟨tl, _, _, _, _, _, a4, w2.s1.trans a2, q1, q2, fun z => z.2 rfl⟩
theorem CfV.mn (h : CfV E f N B gr C) (hc : cS C 1 = nI fd) : MnV E f (cA C 1) fd (cS C 2) := ⟨by rw [h.q0, hc], h.q1⟩
theorem CfV.mnT (h : CfV E f N B gr C) (hm : MnV E g (cA C 1) fd (cS C 2)) (hf : Fr MnK f g) : CfV E g N B gr (sS C 1 (nI fd)) := (h.s1 (nI fd)).of (fun k hk => by
  by_cases c : k = 0
  · rw [c, hm.1]
    unfold va_up
    rw [if_pos rfl]
  · rw [show va_up f 0 _ k = f k from if_neg c]
    by_cases c1 : k = 1
    · rw [c1, hm.2, h.q1]
    · exact hf k (fun z => by unfold MnK at z; omega))
theorem CfV.mnS (h : CfV E f N B gr C) (hc : cS C 1 = nI fd) (hm : MnV E g (cA C 1) fd (cS C 2)) (hf : Fr MnK f g) : CfV E g N B gr C := h.of (fun k hk => by
  by_cases c : k = 0
  · rw [c, hm.1, h.q0, hc]
  · by_cases c1 : k = 1
    · rw [c1, hm.2, h.q1]
    · exact hf k (fun z => by unfold MnK at z; omega))
theorem mn_rf {k : Nat} (h : RfK k) : ¬ MnK k := fun q => by
  have := h.1
  unfold MnK at q
  omega
section
variable {h1 h2 : Nat} {y ym : MethodName} {cc ccm : ByteArray} {nL nLm : Nat} {as : List Value} {xs : List String} {fd2 : Nat}
theorem ise_I {rf : Option (Int32 × RfT)} {r0 : Int32} (w1 : CfV E f N B gr C) (w4 : RW E f R) (w5 : f 93 = oJ (gDA E) 1 o)
    (kc : Ct E h1 y cc nL (some .int) (.ref (gAd E 0) :: as) f (fun _ _ => False, fun X g => X = xI ∧ MnV E g (cA C 1) fd2 (cS C 2) ∧ Fr MnK f g))
    (kr : ∀ g, RW E g R → ∀ r R9, rf = some (r, R9) → Ct E h2 ym ccm nLm (some .int) (.ref (gAd E 56) :: as) g (fun v g' => v = (fun r => some (.int r)) r ∧ RW E g' R9 ∧ Fr RfK g g', fun _ _ => False))
    (h1b : h1 ≤ 110) (h2b : h2 ≤ 110) (e : rf = some (r0, R9)) (e0 : rS R9 0 = 1) (cf : ∀ g, MnV E g (cA C 1) fd2 (cS C 2) → Fr MnK f g → CfV E g N B gr C2) (dq : Dq D2 C2) (p9 : Px N B gr u C2 A D2 R9) (hx : xs[0]? = some xI) (iY : ∀ g, Wy E N B gr u g → Inv g) : CsI E f y cc nL ym ccm nLm as xs Inv := by
  refine ⟨h1, _, kc, h1b, ⟨_, w1.1⟩, fun v g q => q.elim, fun X g q => ⟨0, by rw [q.1]; exact hx, ?_⟩⟩
  obtain ⟨-, q2, q3⟩ := q
  have w' : RW E g R := w4.cg (fun k hk => q3 k (mn_rf hk))
  refine ⟨h2, _, kr g w' _ _ e, h2b, w'.o, fun _ _ q => q, fun v2 w2 q => ?_⟩
  obtain ⟨p1, p2, p3⟩ := q
  obtain ⟨R2, p4, p5⟩ := p2.rf
  exact ⟨r0, R2, p1, p4, p5.trans e0, fun z => absurd z (by decide), iY _ ⟨C2, A, D2, R9, o, (cf g q2 q3).of (fun k hk => p3 k (rf_cf hk)), dq, p2, (p3 93 rf_93).trans ((q3 93 (by unfold MnK; decide)).trans w5), p9⟩⟩
theorem ise_B {rf : Option (Int32 × RfT)} {r0 : Int32} (w1 : CfV E f N B gr C) (w4 : RW E f R) (w5 : f 93 = oJ (gDA E) 1 o)
    (kc : Ct E h1 y cc nL (some .boolean) (.ref (gAd E 0) :: as) f (fun _ _ => False, fun X g => X = xI ∧ MnV E g (cA C 1) fd2 (cS C 2) ∧ Fr MnK f g))
    (kr : ∀ g, RW E g R → ∀ r R9, rf = some (r, R9) → Ct E h2 ym ccm nLm (some .boolean) (.ref (gAd E 56) :: as) g (fun v g' => v = (fun r => some (.int r)) r ∧ RW E g' R9 ∧ Fr RfK g g', fun _ _ => False))
    (h1b : h1 ≤ 110) (h2b : h2 ≤ 110) (e : rf = some (r0, R9)) (e0 : rS R9 0 = 1) (cf : ∀ g, MnV E g (cA C 1) fd2 (cS C 2) → Fr MnK f g → CfV E g N B gr C2) (dq : Dq D2 C2) (p9 : Px N B gr u C2 A D2 R9) (hx : xs[0]? = some xI) (iY : ∀ g, Wy E N B gr u g → Inv g) : CsB E f y cc nL ym ccm nLm as xs Inv := by
  refine ⟨h1, _, kc, h1b, ⟨_, w1.1⟩, fun v g q => q.elim, fun X g q => ⟨0, by rw [q.1]; exact hx, ?_⟩⟩
  obtain ⟨-, q2, q3⟩ := q
  have w' : RW E g R := w4.cg (fun k hk => q3 k (mn_rf hk))
  refine ⟨h2, _, kr g w' _ _ e, h2b, w'.o, fun _ _ q => q, fun v2 w2 q => ?_⟩
  obtain ⟨p1, p2, p3⟩ := q
  obtain ⟨R2, p4, p5⟩ := p2.rf
  exact ⟨r0, R2, p1, p4, p5.trans e0, fun z => absurd z (by decide), iY _ ⟨C2, A, D2, R9, o, (cf g q2 q3).of (fun k hk => p3 k (rf_cf hk)), dq, p2, (p3 93 rf_93).trans ((q3 93 (by unfold MnK; decide)).trans w5), p9⟩⟩
theorem ise_J {rf : Option (Int64 × RfT)} {r0 : Int64} (w1 : CfV E f N B gr C) (w4 : RW E f R) (w5 : f 93 = oJ (gDA E) 1 o)
    (kc : Ct E h1 y cc nL (some .long) (.ref (gAd E 0) :: as) f (fun _ _ => False, fun X g => X = xI ∧ MnV E g (cA C 1) fd2 (cS C 2) ∧ Fr MnK f g))
    (kr : ∀ g, RW E g R → ∀ r R9, rf = some (r, R9) → Ct E h2 ym ccm nLm (some .long) (.ref (gAd E 56) :: as) g (fun v g' => v = (fun r => some (.long r)) r ∧ RW E g' R9 ∧ Fr RfK g g', fun _ _ => False))
    (h1b : h1 ≤ 110) (h2b : h2 ≤ 110) (e : rf = some (r0, R9)) (e0 : rS R9 0 = 1) (cf : ∀ g, MnV E g (cA C 1) fd2 (cS C 2) → Fr MnK f g → CfV E g N B gr C2) (dq : Dq D2 C2) (p9 : Px N B gr u C2 A D2 R9) (hx : xs[0]? = some xI) (iY : ∀ g, Wy E N B gr u g → Inv g) : CsJ E f y cc nL ym ccm nLm as xs Inv := by
  refine ⟨h1, _, kc, h1b, ⟨_, w1.1⟩, fun v g q => q.elim, fun X g q => ⟨0, by rw [q.1]; exact hx, ?_⟩⟩
  obtain ⟨-, q2, q3⟩ := q
  have w' : RW E g R := w4.cg (fun k hk => q3 k (mn_rf hk))
  refine ⟨h2, _, kr g w' _ _ e, h2b, w'.o, fun _ _ q => q, fun v2 w2 q => ?_⟩
  obtain ⟨p1, p2, p3⟩ := q
  obtain ⟨R2, p4, p5⟩ := p2.rf
  exact ⟨r0, R2, p1, p4, p5.trans e0, fun z => absurd z (by decide), iY _ ⟨C2, A, D2, R9, o, (cf g q2 q3).of (fun k hk => p3 k (rf_cf hk)), dq, p2, (p3 93 rf_93).trans ((q3 93 (by unfold MnK; decide)).trans w5), p9⟩⟩
theorem ise_V {rf : Option RfT} (w1 : CfV E f N B gr C) (w4 : RW E f R) (w5 : f 93 = oJ (gDA E) 1 o)
    (kc : Ct E h1 y cc nL none (.ref (gAd E 0) :: as) f (fun _ _ => False, fun X g => X = xI ∧ MnV E g (cA C 1) fd2 (cS C 2) ∧ Fr MnK f g))
    (kr : ∀ g, RW E g R → ∀ R9, rf = some R9 → Ct E h2 ym ccm nLm none (.ref (gAd E 56) :: as) g (fun v g' => v = none ∧ RW E g' R9 ∧ Fr RfK g g', fun _ _ => False))
    (h1b : h1 ≤ 110) (h2b : h2 ≤ 110) (e : rf = some R9) (e0 : rS R9 0 = 1) (cf : ∀ g, MnV E g (cA C 1) fd2 (cS C 2) → Fr MnK f g → CfV E g N B gr C2) (dq : Dq D2 C2) (p9 : Px N B gr u C2 A D2 R9) (hx : xs[0]? = some xI) (iY : ∀ g, Wy E N B gr u g → Inv g) : CsV E f y cc nL ym ccm nLm as xs Inv := by
  refine ⟨h1, _, kc, h1b, ⟨_, w1.1⟩, fun v g q => q.elim, fun X g q => ⟨0, by rw [q.1]; exact hx, ?_⟩⟩
  obtain ⟨-, q2, q3⟩ := q
  have w' : RW E g R := w4.cg (fun k hk => q3 k (mn_rf hk))
  refine ⟨h2, _, kr g w' _ e, h2b, w'.o, fun _ _ q => q, fun v2 w2 q => ?_⟩
  obtain ⟨p1, p2, p3⟩ := q
  obtain ⟨R2, p4, p5⟩ := p2.rf
  exact ⟨R2, p1, p4, p5.trans e0, iY _ ⟨C2, A, D2, R9, o, (cf g q2 q3).of (fun k hk => p3 k (rf_cf hk)), dq, p2, (p3 93 rf_93).trans ((q3 93 (by unfold MnK; decide)).trans w5), p9⟩⟩
end
theorem n_unmount (hz : CfZ E N B gr) (hE : 94 ≤ gN E) (hw : Wy E N B gr u f) (iY : ∀ g, Wy E N B gr u g → Inv g) : CsV E f yX11_unmount cX11_unmount 1 yX12_unmount cX12_unmount 2 [] [xI, xU] Inv := by
  obtain ⟨C, A, D, R, o, w1, w2, w4, w5, px⟩ := hw
  obtain ⟨z1, z2, z3, z4, z5, z6, z7⟩ := id hz
  obtain ⟨fd, d, on, le, wr, ss, c1, c2, c3, c4, c5⟩ := px.cl w1 w2
  obtain ⟨R9, e1, e0, p9⟩ := px.nm z2
  have ee : e_unmount R = some R9 := by rw [e_unmount, bnd2_o e1, if_neg (show ¬ (1 : Int32) = 0 by decide)]
  exact ise_V w1 w4 w5 (u_X11_unmount E f (cA C 1) fd (cS C 2) (by omega) (w1.mn c2) c1 N d on le wr ss (by omega) z2 c3 c4 c5) (fun g w R9 e => k_X12_unmount E g hE R w R9 e) (by decide) (by decide) ee e0 (fun g hm hf => w1.mnS c2 hm hf) w2 p9 rfl iY
theorem n_make {a0 : Int32} (hz : CfZ E N B gr) (hE : 94 ≤ gN E) (hw : Wy E N B gr u f) (iY : ∀ g, Wy E N B gr u g → Inv g) : CsI E f yX11_make cX11_make 6 yX12_make cX12_make 8 [.int a0] [xI, xU] Inv := by
  obtain ⟨C, A, D, R, o, w1, w2, w4, w5, px⟩ := hw
  obtain ⟨z1, z2, z3, z4, z5, z6, z7⟩ := id hz
  obtain ⟨fd, d, on, le, wr, ss, c1, c2, c3, c4, c5⟩ := px.cl w1 w2
  obtain ⟨R9, e1, e0, p9⟩ := px.tape.nm z2
  have ee : e_make R a0 = some (0, R9) := by rw [e_make, bnd2_o (show e_useTape R = some (rS R 5, setS R 5 0) from rfl), bnd2_o e1, if_neg (show ¬ (1 : Int32) = 0 by decide)]
  exact ise_I w1 w4 w5 (u_X11_make E f (cA C 1) fd (cS C 2) (by omega) (w1.mn c2) c1 N d on le wr ss (by omega) z2 c3 c4 c5 a0) (fun g w r R9 e => k_X12_make E g hE R w a0 r R9 e) (by decide) (by decide) ee e0 (fun g hm hf => w1.mnT hm hf) w2.ss p9 rfl iY
theorem n_remove (hz : CfZ E N B gr) (hE : 94 ≤ gN E) (hw : Wy E N B gr u f) (iY : ∀ g, Wy E N B gr u g → Inv g) : CsI E f yX11_remove cX11_remove 4 yX12_remove cX12_remove 6 [] [xI, xU] Inv := by
  obtain ⟨C, A, D, R, o, w1, w2, w4, w5, px⟩ := hw
  obtain ⟨z1, z2, z3, z4, z5, z6, z7⟩ := id hz
  obtain ⟨fd, d, on, le, wr, ss, c1, c2, c3, c4, c5⟩ := px.cl w1 w2
  obtain ⟨R9, e1, e0, p9⟩ := px.tape.nm z2
  have ee : e_remove R = some (0, R9) := by rw [e_remove, bnd2_o (show e_useTape R = some (rS R 5, setS R 5 0) from rfl), bnd2_o e1, if_neg (show ¬ (1 : Int32) = 0 by decide)]
  exact ise_I w1 w4 w5 (u_X11_remove E f (cA C 1) fd (cS C 2) (by omega) (w1.mn c2) c1 N d on le wr ss (by omega) z2 c3 c4 c5) (fun g w r R9 e => k_X12_remove E g hE R w r R9 e) (by decide) (by decide) ee e0 (fun g hm hf => w1.mnT hm hf) w2.ss p9 rfl iY
theorem n_rename (hz : CfZ E N B gr) (hE : 94 ≤ gN E) (hw : Wy E N B gr u f) (iY : ∀ g, Wy E N B gr u g → Inv g) : CsI E f yX11_rename cX11_rename 9 yX12_rename cX12_rename 10 [] [xI, xU] Inv := by
  obtain ⟨C, A, D, R, o, w1, w2, w4, w5, px⟩ := hw
  obtain ⟨z1, z2, z3, z4, z5, z6, z7⟩ := id hz
  obtain ⟨fd, d, on, le, wr, ss, c1, c2, c3, c4, c5⟩ := px.cl w1 w2
  obtain ⟨R9, e1, e0, p9⟩ := px.tape.nm z2
  have ee : e_rename R = some (0, R9) := by rw [e_rename, bnd2_o (show e_useTape R = some (rS R 5, setS R 5 0) from rfl), bnd2_o e1, if_neg (show ¬ (1 : Int32) = 0 by decide)]
  exact ise_I w1 w4 w5 (u_X11_rename E f (cA C 1) fd (cS C 2) (by omega) (w1.mn c2) c1 N d on le wr ss (by omega) z2 c3 c4 c5) (fun g w r R9 e => k_X12_rename E g hE R w r R9 e) (by decide) (by decide) ee e0 (fun g hm hf => w1.mnT hm hf) w2.ss p9 rfl iY
theorem n_link (hz : CfZ E N B gr) (hE : 94 ≤ gN E) (hw : Wy E N B gr u f) (iY : ∀ g, Wy E N B gr u g → Inv g) : CsI E f yX11_link cX11_link 5 yX12_link cX12_link 6 [] [xI, xU] Inv := by
  obtain ⟨C, A, D, R, o, w1, w2, w4, w5, px⟩ := hw
  obtain ⟨z1, z2, z3, z4, z5, z6, z7⟩ := id hz
  obtain ⟨fd, d, on, le, wr, ss, c1, c2, c3, c4, c5⟩ := px.cl w1 w2
  obtain ⟨R9, e1, e0, p9⟩ := px.tape.nm z2
  have ee : e_link R = some (0, R9) := by rw [e_link, bnd2_o (show e_useTape R = some (rS R 5, setS R 5 0) from rfl), bnd2_o e1, if_neg (show ¬ (1 : Int32) = 0 by decide)]
  exact ise_I w1 w4 w5 (u_X11_link E f (cA C 1) fd (cS C 2) (by omega) (w1.mn c2) c1 N d on le wr ss (by omega) z2 c3 c4 c5) (fun g w r R9 e => k_X12_link E g hE R w r R9 e) (by decide) (by decide) ee e0 (fun g hm hf => w1.mnT hm hf) w2.ss p9 rfl iY
theorem n_clear (hz : CfZ E N B gr) (hE : 94 ≤ gN E) (hw : Wy E N B gr u f) (iY : ∀ g, Wy E N B gr u g → Inv g) : CsI E f yX11_clear cX11_clear 8 yX12_clear cX12_clear 7 [] [xI, xU] Inv := by
  obtain ⟨C, A, D, R, o, w1, w2, w4, w5, px⟩ := hw
  obtain ⟨z1, z2, z3, z4, z5, z6, z7⟩ := id hz
  obtain ⟨fd, d, on, le, wr, ss, c1, c2, c3, c4, c5⟩ := px.cl w1 w2
  obtain ⟨R9, e1, e0, p9⟩ := px.tape.nm z2
  have ee : e_clear R = some (0, R9) := by rw [e_clear, bnd2_o (show e_useTape R = some (rS R 5, setS R 5 0) from rfl), bnd2_o e1, if_neg (show ¬ (1 : Int32) = 0 by decide)]
  exact ise_I w1 w4 w5 (u_X11_clear E f (cA C 1) fd (cS C 2) (by omega) (w1.mn c2) c1 N d on le wr ss (by omega) z2 c3 c4 c5) (fun g w r R9 e => k_X12_clear E g hE R w r R9 e) (by decide) (by decide) ee e0 (fun g hm hf => w1.mnT hm hf) w2.ss p9 rfl iY
theorem n_copy (hz : CfZ E N B gr) (hE : 94 ≤ gN E) (hw : Wy E N B gr u f) (iY : ∀ g, Wy E N B gr u g → Inv g) : CsI E f yX11_copy cX11_copy 6 yX12_copy cX12_copy 8 [] [xI, xU] Inv := by
  obtain ⟨C, A, D, R, o, w1, w2, w4, w5, px⟩ := hw
  obtain ⟨z1, z2, z3, z4, z5, z6, z7⟩ := id hz
  obtain ⟨fd, d, on, le, wr, ss, c1, c2, c3, c4, c5⟩ := px.cl w1 w2
  obtain ⟨R9, e1, e0, p9⟩ := px.tape.nm z2
  have ee : e_copy R = some (0, R9) := by rw [e_copy, bnd2_o (show e_useTape R = some (rS R 5, setS R 5 0) from rfl), bnd2_o e1, if_neg (show ¬ (1 : Int32) = 0 by decide)]
  exact ise_I w1 w4 w5 (u_X11_copy E f (cA C 1) fd (cS C 2) (by omega) (w1.mn c2) c1 N d on le wr ss (by omega) z2 c3 c4 c5) (fun g w r R9 e => k_X12_copy E g hE R w r R9 e) (by decide) (by decide) ee e0 (fun g hm hf => w1.mnT hm hf) w2.ss p9 rfl iY
theorem n_find (hz : CfZ E N B gr) (hE : 94 ≤ gN E) (hw : Wy E N B gr u f) (iY : ∀ g, Wy E N B gr u g → Inv g) : CsI E f yX11_find cX11_find 2 yX12_find cX12_find 3 [] [xI] Inv := by
  obtain ⟨C, A, D, R, o, w1, w2, w4, w5, px⟩ := hw
  obtain ⟨z1, z2, z3, z4, z5, z6, z7⟩ := id hz
  obtain ⟨fd, d, on, le, wr, ss, c1, c2, c3, c4, c5⟩ := px.cl w1 w2
  obtain ⟨R9, e1, e0, p9⟩ := px.tape.nm z2
  have ee : e_find R = some (0, R9) := by rw [e_find, bnd2_o (show e_useTape R = some (rS R 5, setS R 5 0) from rfl), bnd2_o e1, if_neg (show ¬ (1 : Int32) = 0 by decide)]
  exact ise_I w1 w4 w5 (u_X11_find E f (cA C 1) fd (cS C 2) (by omega) (w1.mn c2) c1 N d on le wr ss (by omega) z2 c3 c4 c5) (fun g w r R9 e => k_X12_find E g hE R w r R9 e) (by decide) (by decide) ee e0 (fun g hm hf => w1.mnT hm hf) w2.ss p9 rfl iY
theorem n_write {a0 : Int32} {a1 : Int32} (hz : CfZ E N B gr) (hE : 94 ≤ gN E) (hw : Wy E N B gr u f) (iY : ∀ g, Wy E N B gr u g → Inv g) : CsI E f yX11_write cX11_write 5 yX12_write cX12_write 5 [.int a0, .int a1] [xI, xU] Inv := by
  obtain ⟨C, A, D, R, o, w1, w2, w4, w5, px⟩ := hw
  obtain ⟨z1, z2, z3, z4, z5, z6, z7⟩ := id hz
  obtain ⟨fd, d, on, le, wr, ss, c1, c2, c3, c4, c5⟩ := px.cl w1 w2
  obtain ⟨R9, e1, e0, p9⟩ := px.tape.nm z2
  have ee : e_write R a0 a1 = some (0, R9) := by rw [e_write, bnd2_o (show e_useTape R = some (rS R 5, setS R 5 0) from rfl), bnd2_o e1, if_neg (show ¬ (1 : Int32) = 0 by decide)]
  exact ise_I w1 w4 w5 (u_X11_write E f (cA C 1) fd (cS C 2) (by omega) (w1.mn c2) c1 N d on le wr ss (by omega) z2 c3 c4 c5 a0 a1) (fun g w r R9 e => k_X12_write E g hE R w a0 a1 r R9 e) (by decide) (by decide) ee e0 (fun g hm hf => w1.mnT hm hf) w2.ss p9 rfl iY
theorem n_fill {a0 : Int32} {a1 : Int32} {a2 : Int32} {a3 : Int32} (hz : CfZ E N B gr) (hE : 94 ≤ gN E) (hw : Wy E N B gr u f) (iY : ∀ g, Wy E N B gr u g → Inv g) : CsI E f yX11_fill cX11_fill 7 yX12_fill cX12_fill 6 [.int a0, .int a1, .int a2, .int a3] [xI, xU, xA] Inv := by
  obtain ⟨C, A, D, R, o, w1, w2, w4, w5, px⟩ := hw
  obtain ⟨z1, z2, z3, z4, z5, z6, z7⟩ := id hz
  obtain ⟨fd, d, on, le, wr, ss, c1, c2, c3, c4, c5⟩ := px.cl w1 w2
  obtain ⟨R9, e1, e0, p9⟩ := px.nm z2
  have ee : e_fill R a0 a1 a2 a3 = some (0, R9) := by rw [e_fill, bnd2_o e1, if_neg (show ¬ (1 : Int32) = 0 by decide)]
  exact ise_I w1 w4 w5 (u_X11_fill E f (cA C 1) fd (cS C 2) (by omega) (w1.mn c2) c1 N d on le wr ss (by omega) z2 c3 c4 c5 a0 a1 a2 a3) (fun g w r R9 e => k_X12_fill E g hE R w a0 a1 a2 a3 r R9 e) (by decide) (by decide) ee e0 (fun g hm hf => w1.mnS c2 hm hf) w2 p9 rfl iY
theorem n_truncate {a0 : Int32} {a1 : Int32} (hz : CfZ E N B gr) (hE : 94 ≤ gN E) (hw : Wy E N B gr u f) (iY : ∀ g, Wy E N B gr u g → Inv g) : CsI E f yX11_truncate cX11_truncate 5 yX12_truncate cX12_truncate 4 [.int a0, .int a1] [xI, xU] Inv := by
  obtain ⟨C, A, D, R, o, w1, w2, w4, w5, px⟩ := hw
  obtain ⟨z1, z2, z3, z4, z5, z6, z7⟩ := id hz
  obtain ⟨fd, d, on, le, wr, ss, c1, c2, c3, c4, c5⟩ := px.cl w1 w2
  obtain ⟨R9, e1, e0, p9⟩ := px.nm z2
  have ee : e_truncate R a0 a1 = some (0, R9) := by rw [e_truncate, bnd2_o e1, if_neg (show ¬ (1 : Int32) = 0 by decide)]
  exact ise_I w1 w4 w5 (u_X11_truncate E f (cA C 1) fd (cS C 2) (by omega) (w1.mn c2) c1 N d on le wr ss (by omega) z2 c3 c4 c5 a0 a1) (fun g w r R9 e => k_X12_truncate E g hE R w a0 a1 r R9 e) (by decide) (by decide) ee e0 (fun g hm hf => w1.mnS c2 hm hf) w2 p9 rfl iY
theorem n_mark {a0 : Int32} {a1 : Int32} (hz : CfZ E N B gr) (hE : 94 ≤ gN E) (hw : Wy E N B gr u f) (iY : ∀ g, Wy E N B gr u g → Inv g) : CsI E f yX11_mark cX11_mark 3 yX12_mark cX12_mark 3 [.int a0, .int a1] [xI, xU] Inv := by
  obtain ⟨C, A, D, R, o, w1, w2, w4, w5, px⟩ := hw
  obtain ⟨z1, z2, z3, z4, z5, z6, z7⟩ := id hz
  obtain ⟨fd, d, on, le, wr, ss, c1, c2, c3, c4, c5⟩ := px.cl w1 w2
  obtain ⟨R9, e1, e0, p9⟩ := px.nm z2
  have ee : e_mark R a0 a1 = some (0, R9) := by rw [e_mark, bnd2_o e1, if_neg (show ¬ (1 : Int32) = 0 by decide)]
  exact ise_I w1 w4 w5 (u_X11_mark E f (cA C 1) fd (cS C 2) (by omega) (w1.mn c2) c1 N d on le wr ss (by omega) z2 c3 c4 c5 a0 a1) (fun g w r R9 e => k_X12_mark E g hE R w a0 a1 r R9 e) (by decide) (by decide) ee e0 (fun g hm hf => w1.mnS c2 hm hf) w2 p9 rfl iY
theorem n_punch {a0 : Int32} {a1 : Int32} {a2 : Int32} (hz : CfZ E N B gr) (hE : 94 ≤ gN E) (hw : Wy E N B gr u f) (iY : ∀ g, Wy E N B gr u g → Inv g) : CsI E f yX11_punch cX11_punch 11 yX12_punch cX12_punch 12 [.int a0, .int a1, .int a2] [xI, xU] Inv := by
  obtain ⟨C, A, D, R, o, w1, w2, w4, w5, px⟩ := hw
  obtain ⟨z1, z2, z3, z4, z5, z6, z7⟩ := id hz
  obtain ⟨fd, d, on, le, wr, ss, c1, c2, c3, c4, c5⟩ := px.cl w1 w2
  obtain ⟨R9, e1, e0, p9⟩ := px.nm z2
  have ee : e_punch R a0 a1 a2 = some (0, R9) := by rw [e_punch, bnd2_o e1, if_neg (show ¬ (1 : Int32) = 0 by decide)]
  exact ise_I w1 w4 w5 (u_X11_punch E f (cA C 1) fd (cS C 2) (by omega) (w1.mn c2) c1 N d on le wr ss (by omega) z2 c3 c4 c5 a0 a1 a2) (fun g w r R9 e => k_X12_punch E g hE R w a0 a1 a2 r R9 e) (by decide) (by decide) ee e0 (fun g hm hf => w1.mnS c2 hm hf) w2 p9 rfl iY
theorem n_hold {a0 : Int32} (hz : CfZ E N B gr) (hE : 94 ≤ gN E) (hw : Wy E N B gr u f) (iY : ∀ g, Wy E N B gr u g → Inv g) : CsI E f yX11_hold cX11_hold 2 yX12_hold cX12_hold 2 [.int a0] [xI] Inv := by
  obtain ⟨C, A, D, R, o, w1, w2, w4, w5, px⟩ := hw
  obtain ⟨z1, z2, z3, z4, z5, z6, z7⟩ := id hz
  obtain ⟨fd, d, on, le, wr, ss, c1, c2, c3, c4, c5⟩ := px.cl w1 w2
  obtain ⟨R9, e1, e0, p9⟩ := px.nm z2
  have ee : e_hold R a0 = some (0, R9) := by rw [e_hold, bnd2_o e1, if_neg (show ¬ (1 : Int32) = 0 by decide)]
  exact ise_I w1 w4 w5 (u_X11_hold E f (cA C 1) fd (cS C 2) (by omega) (w1.mn c2) c1 N d on le wr ss (by omega) z2 c3 c4 c5 a0) (fun g w r R9 e => k_X12_hold E g hE R w a0 r R9 e) (by decide) (by decide) ee e0 (fun g hm hf => w1.mnS c2 hm hf) w2 p9 rfl iY
theorem n_release {a0 : Int32} (hz : CfZ E N B gr) (hE : 94 ≤ gN E) (hw : Wy E N B gr u f) (iY : ∀ g, Wy E N B gr u g → Inv g) : CsI E f yX11_release cX11_release 3 yX12_release cX12_release 2 [.int a0] [xI, xU] Inv := by
  obtain ⟨C, A, D, R, o, w1, w2, w4, w5, px⟩ := hw
  obtain ⟨z1, z2, z3, z4, z5, z6, z7⟩ := id hz
  obtain ⟨fd, d, on, le, wr, ss, c1, c2, c3, c4, c5⟩ := px.cl w1 w2
  obtain ⟨R9, e1, e0, p9⟩ := px.nm z2
  have ee : e_release R a0 = some (0, R9) := by rw [e_release, bnd2_o e1, if_neg (show ¬ (1 : Int32) = 0 by decide)]
  exact ise_I w1 w4 w5 (u_X11_release E f (cA C 1) fd (cS C 2) (by omega) (w1.mn c2) c1 N d on le wr ss (by omega) z2 c3 c4 c5 a0) (fun g w r R9 e => k_X12_release E g hE R w a0 r R9 e) (by decide) (by decide) ee e0 (fun g hm hf => w1.mnS c2 hm hf) w2 p9 rfl iY
theorem n_read {a0 : Int32} {a1 : Int32} (hz : CfZ E N B gr) (hE : 94 ≤ gN E) (hw : Wy E N B gr u f) (iY : ∀ g, Wy E N B gr u g → Inv g) : CsI E f yX11_read cX11_read 3 yX12_read cX12_read 4 [.int a0, .int a1] [xI] Inv := by
  obtain ⟨C, A, D, R, o, w1, w2, w4, w5, px⟩ := hw
  obtain ⟨z1, z2, z3, z4, z5, z6, z7⟩ := id hz
  obtain ⟨fd, d, on, le, wr, ss, c1, c2, c3, c4, c5⟩ := px.cl w1 w2
  obtain ⟨R9, e1, e0, p9⟩ := px.nm z2
  have ee : e_read R a0 a1 = some (0, R9) := by rw [e_read, bnd2_o e1, if_neg (show ¬ (1 : Int32) = 0 by decide), e_read_29, if_pos e0]
  exact ise_I w1 w4 w5 (u_X11_read E f (cA C 1) fd (cS C 2) (by omega) (w1.mn c2) c1 N d on le wr ss (by omega) z2 c3 c4 c5 a0 a1) (fun g w r R9 e => k_X12_read E g hE R w a0 a1 r R9 e) (by decide) (by decide) ee e0 (fun g hm hf => w1.mnS c2 hm hf) w2 p9 rfl iY
theorem n_about {a0 : Int32} {a1 : Int32} (hz : CfZ E N B gr) (hE : 94 ≤ gN E) (hw : Wy E N B gr u f) (iY : ∀ g, Wy E N B gr u g → Inv g) : CsI E f yX11_about cX11_about 4 yX12_about cX12_about 4 [.int a0, .int a1] [xI, xA] Inv := by
  obtain ⟨C, A, D, R, o, w1, w2, w4, w5, px⟩ := hw
  obtain ⟨z1, z2, z3, z4, z5, z6, z7⟩ := id hz
  obtain ⟨fd, d, on, le, wr, ss, c1, c2, c3, c4, c5⟩ := px.cl w1 w2
  obtain ⟨R9, e1, e0, p9⟩ := px.nm z2
  have ee : e_about R a0 a1 = some (0, R9) := by rw [e_about, bnd2_o e1, if_neg (show ¬ (1 : Int32) = 0 by decide)]
  exact ise_I w1 w4 w5 (u_X11_about E f (cA C 1) fd (cS C 2) (by omega) (w1.mn c2) c1 N d on le wr ss (by omega) z2 c3 c4 c5 a0 a1) (fun g w r R9 e => k_X12_about E g hE R w a0 a1 r R9 e) (by decide) (by decide) ee e0 (fun g hm hf => w1.mnS c2 hm hf) w2 p9 rfl iY
theorem n_where {a0 : Int32} {a1 : Int32} (hz : CfZ E N B gr) (hE : 94 ≤ gN E) (hw : Wy E N B gr u f) (iY : ∀ g, Wy E N B gr u g → Inv g) : CsI E f yX11_where cX11_where 3 yX12_where cX12_where 3 [.int a0, .int a1] [xI, xA] Inv := by
  obtain ⟨C, A, D, R, o, w1, w2, w4, w5, px⟩ := hw
  obtain ⟨z1, z2, z3, z4, z5, z6, z7⟩ := id hz
  obtain ⟨fd, d, on, le, wr, ss, c1, c2, c3, c4, c5⟩ := px.cl w1 w2
  obtain ⟨R9, e1, e0, p9⟩ := px.nm z2
  have ee : e_where R a0 a1 = some (0, R9) := by rw [e_where, bnd2_o e1, if_neg (show ¬ (1 : Int32) = 0 by decide)]
  exact ise_I w1 w4 w5 (u_X11_where E f (cA C 1) fd (cS C 2) (by omega) (w1.mn c2) c1 N d on le wr ss (by omega) z2 c3 c4 c5 a0 a1) (fun g w r R9 e => k_X12_where E g hE R w a0 a1 r R9 e) (by decide) (by decide) ee e0 (fun g hm hf => w1.mnS c2 hm hf) w2 p9 rfl iY
theorem n_entry {a0 : Int32} {a1 : Int32} (hz : CfZ E N B gr) (hE : 94 ≤ gN E) (hw : Wy E N B gr u f) (iY : ∀ g, Wy E N B gr u g → Inv g) : CsI E f yX11_entry cX11_entry 4 yX12_entry cX12_entry 4 [.int a0, .int a1] [xI, xN] Inv := by
  obtain ⟨C, A, D, R, o, w1, w2, w4, w5, px⟩ := hw
  obtain ⟨z1, z2, z3, z4, z5, z6, z7⟩ := id hz
  obtain ⟨fd, d, on, le, wr, ss, c1, c2, c3, c4, c5⟩ := px.cl w1 w2
  obtain ⟨R9, e1, e0, p9⟩ := px.nm z2
  have ee : e_entry R a0 a1 = some (0, R9) := by rw [e_entry, bnd2_o e1, if_neg (show ¬ (1 : Int32) = 0 by decide)]
  exact ise_I w1 w4 w5 (u_X11_entry E f (cA C 1) fd (cS C 2) (by omega) (w1.mn c2) c1 N d on le wr ss (by omega) z2 c3 c4 c5 a0 a1) (fun g w r R9 e => k_X12_entry E g hE R w a0 a1 r R9 e) (by decide) (by decide) ee e0 (fun g hm hf => w1.mnS c2 hm hf) w2 p9 rfl iY
theorem n_letter {a0 : Int32} {a1 : Int32} {a2 : Int32} (hz : CfZ E N B gr) (hE : 94 ≤ gN E) (hw : Wy E N B gr u f) (iY : ∀ g, Wy E N B gr u g → Inv g) : CsI E f yX11_letter cX11_letter 5 yX12_letter cX12_letter 5 [.int a0, .int a1, .int a2] [xI, xN] Inv := by
  obtain ⟨C, A, D, R, o, w1, w2, w4, w5, px⟩ := hw
  obtain ⟨z1, z2, z3, z4, z5, z6, z7⟩ := id hz
  obtain ⟨fd, d, on, le, wr, ss, c1, c2, c3, c4, c5⟩ := px.cl w1 w2
  obtain ⟨R9, e1, e0, p9⟩ := px.nm z2
  have ee : e_letter R a0 a1 a2 = some (0, R9) := by rw [e_letter, bnd2_o e1, if_neg (show ¬ (1 : Int32) = 0 by decide)]
  exact ise_I w1 w4 w5 (u_X11_letter E f (cA C 1) fd (cS C 2) (by omega) (w1.mn c2) c1 N d on le wr ss (by omega) z2 c3 c4 c5 a0 a1 a2) (fun g w r R9 e => k_X12_letter E g hE R w a0 a1 a2 r R9 e) (by decide) (by decide) ee e0 (fun g hm hf => w1.mnS c2 hm hf) w2 p9 rfl iY
theorem n_open {a0 : Int32} (hz : CfZ E N B gr) (hE : 94 ≤ gN E) (hw : Wy E N B gr u f) (iY : ∀ g, Wy E N B gr u g → Inv g) : CsI E f yX11_open cX11_open 9 yX12_open cX12_open 9 [.int a0] [xI, xU, xA] Inv := by
  obtain ⟨C, A, D, R, o, w1, w2, w4, w5, px⟩ := hw
  obtain ⟨z1, z2, z3, z4, z5, z6, z7⟩ := id hz
  obtain ⟨fd, d, on, le, wr, ss, c1, c2, c3, c4, c5⟩ := px.cl w1 w2
  obtain ⟨R9, e1, e0, p9⟩ := px.tape.nm z2
  have ee : e_open R a0 = some (0, R9) := by
    rw [e_open, bnd2_o (show e_useTape R = some (rS R 5, setS R 5 0) from rfl)]
    have q : ∀ x, e_open_40 (setS R 5 0) a0 (rS R 5) x = some (0, R9) := fun x => by rw [e_open_40, bnd2_o e1, if_neg (show ¬ (1 : Int32) = 0 by decide)]
    simp only [e_open_38, e_open_34, q, ite_self]
  exact ise_I w1 w4 w5 (u_X11_open E f (cA C 1) fd (cS C 2) (by omega) (w1.mn c2) c1 N d on le wr ss (by omega) z2 c3 c4 c5 a0) (fun g w r R9 e => k_X12_open E g hE R w a0 r R9 e) (by decide) (by decide) ee e0 (fun g hm hf => w1.mnT hm hf) w2.ss p9 rfl iY
theorem n_close {a0 : Int32} (hz : CfZ E N B gr) (hE : 94 ≤ gN E) (hw : Wy E N B gr u f) (iY : ∀ g, Wy E N B gr u g → Inv g) : CsI E f yX11_close cX11_close 3 yX12_close cX12_close 3 [.int a0] [xI, xU] Inv := by
  obtain ⟨C, A, D, R, o, w1, w2, w4, w5, px⟩ := hw
  obtain ⟨z1, z2, z3, z4, z5, z6, z7⟩ := id hz
  obtain ⟨fd, d, on, le, wr, ss, c1, c2, c3, c4, c5⟩ := px.cl w1 w2
  obtain ⟨R9, e1, e0, p9⟩ := px.nm z2
  have ee : e_close R a0 = some (0, R9) := by rw [e_close, bnd2_o e1, if_neg (show ¬ (1 : Int32) = 0 by decide)]
  exact ise_I w1 w4 w5 (u_X11_close E f (cA C 1) fd (cS C 2) (by omega) (w1.mn c2) c1 N d on le wr ss (by omega) z2 c3 c4 c5 a0) (fun g w r R9 e => k_X12_close E g hE R w a0 r R9 e) (by decide) (by decide) ee e0 (fun g hm hf => w1.mnS c2 hm hf) w2 p9 rfl iY
theorem n_put {a0 : Int32} (hz : CfZ E N B gr) (hE : 94 ≤ gN E) (hw : Wy E N B gr u f) (iY : ∀ g, Wy E N B gr u g → Inv g) : CsI E f yX11_put cX11_put 6 yX12_put cX12_put 5 [.int a0] [xI, xU] Inv := by
  obtain ⟨C, A, D, R, o, w1, w2, w4, w5, px⟩ := hw
  obtain ⟨z1, z2, z3, z4, z5, z6, z7⟩ := id hz
  obtain ⟨fd, d, on, le, wr, ss, c1, c2, c3, c4, c5⟩ := px.cl w1 w2
  obtain ⟨R9, e1, e0, p9⟩ := px.tape.nm z2
  have ee : e_put R a0 = some (0, R9) := by rw [e_put, bnd2_o (show e_useTape R = some (rS R 5, setS R 5 0) from rfl), bnd2_o e1, if_neg (show ¬ (1 : Int32) = 0 by decide)]
  exact ise_I w1 w4 w5 (u_X11_put E f (cA C 1) fd (cS C 2) (by omega) (w1.mn c2) c1 N d on le wr ss (by omega) z2 c3 c4 c5 a0) (fun g w r R9 e => k_X12_put E g hE R w a0 r R9 e) (by decide) (by decide) ee e0 (fun g hm hf => w1.mnT hm hf) w2.ss p9 rfl iY
theorem n_get {a0 : Int32} (hz : CfZ E N B gr) (hE : 94 ≤ gN E) (hw : Wy E N B gr u f) (iY : ∀ g, Wy E N B gr u g → Inv g) : CsI E f yX11_get cX11_get 3 yX12_get cX12_get 4 [.int a0] [xI] Inv := by
  obtain ⟨C, A, D, R, o, w1, w2, w4, w5, px⟩ := hw
  obtain ⟨z1, z2, z3, z4, z5, z6, z7⟩ := id hz
  obtain ⟨fd, d, on, le, wr, ss, c1, c2, c3, c4, c5⟩ := px.cl w1 w2
  obtain ⟨R9, e1, e0, p9⟩ := px.nm z2
  have ee : e_get R a0 = some (0, R9) := by rw [e_get, bnd2_o e1, if_neg (show ¬ (1 : Int32) = 0 by decide)]
  exact ise_I w1 w4 w5 (u_X11_get E f (cA C 1) fd (cS C 2) (by omega) (w1.mn c2) c1 N d on le wr ss (by omega) z2 c3 c4 c5 a0) (fun g w r R9 e => k_X12_get E g hE R w a0 r R9 e) (by decide) (by decide) ee e0 (fun g hm hf => w1.mnS c2 hm hf) w2 p9 rfl iY
theorem n_seek {a0 : Int32} {a1 : Int32} (hz : CfZ E N B gr) (hE : 94 ≤ gN E) (hw : Wy E N B gr u f) (iY : ∀ g, Wy E N B gr u g → Inv g) : CsI E f yX11_seek cX11_seek 4 yX12_seek cX12_seek 4 [.int a0, .int a1] [xI] Inv := by
  obtain ⟨C, A, D, R, o, w1, w2, w4, w5, px⟩ := hw
  obtain ⟨z1, z2, z3, z4, z5, z6, z7⟩ := id hz
  obtain ⟨fd, d, on, le, wr, ss, c1, c2, c3, c4, c5⟩ := px.cl w1 w2
  obtain ⟨R9, e1, e0, p9⟩ := px.nm z2
  have ee : e_seek R a0 a1 = some (0, R9) := by rw [e_seek, bnd2_o e1, if_neg (show ¬ (1 : Int32) = 0 by decide)]
  exact ise_I w1 w4 w5 (u_X11_seek E f (cA C 1) fd (cS C 2) (by omega) (w1.mn c2) c1 N d on le wr ss (by omega) z2 c3 c4 c5 a0 a1) (fun g w r R9 e => k_X12_seek E g hE R w a0 a1 r R9 e) (by decide) (by decide) ee e0 (fun g hm hf => w1.mnS c2 hm hf) w2 p9 rfl iY
theorem n_look {a0 : Int32} {a1 : Int32} (hz : CfZ E N B gr) (hE : 94 ≤ gN E) (hw : Wy E N B gr u f) (iY : ∀ g, Wy E N B gr u g → Inv g) : CsI E f yX11_look cX11_look 3 yX12_look cX12_look 3 [.int a0, .int a1] [xI, xA] Inv := by
  obtain ⟨C, A, D, R, o, w1, w2, w4, w5, px⟩ := hw
  obtain ⟨z1, z2, z3, z4, z5, z6, z7⟩ := id hz
  obtain ⟨fd, d, on, le, wr, ss, c1, c2, c3, c4, c5⟩ := px.cl w1 w2
  obtain ⟨R9, e1, e0, p9⟩ := px.nm z2
  have ee : e_look R a0 a1 = some (0, R9) := by rw [e_look, bnd2_o e1, if_neg (show ¬ (1 : Int32) = 0 by decide)]
  exact ise_I w1 w4 w5 (u_X11_look E f (cA C 1) fd (cS C 2) (by omega) (w1.mn c2) c1 N d on le wr ss (by omega) z2 c3 c4 c5 a0 a1) (fun g w r R9 e => k_X12_look E g hE R w a0 a1 r R9 e) (by decide) (by decide) ee e0 (fun g hm hf => w1.mnS c2 hm hf) w2 p9 rfl iY
theorem n_begin (hz : CfZ E N B gr) (hE : 94 ≤ gN E) (hw : Wy E N B gr u f) (iY : ∀ g, Wy E N B gr u g → Inv g) : CsB E f yX11_begin cX11_begin 1 yX12_begin cX12_begin 1 [] [xI] Inv := by
  obtain ⟨C, A, D, R, o, w1, w2, w4, w5, px⟩ := hw
  obtain ⟨z1, z2, z3, z4, z5, z6, z7⟩ := id hz
  obtain ⟨fd, d, on, le, wr, ss, c1, c2, c3, c4, c5⟩ := px.cl w1 w2
  obtain ⟨R9, e1, e0, p9⟩ := px.nm z2
  have ee : e_begin R = some (0, R9) := by rw [e_begin, bnd2_o e1, if_neg (show ¬ (1 : Int32) = 0 by decide)]
  exact ise_B w1 w4 w5 (u_X11_begin E f (cA C 1) fd (cS C 2) (by omega) (w1.mn c2) c1 N d on le wr ss (by omega) z2 c3 c4 c5) (fun g w r R9 e => k_X12_begin E g hE R w r R9 e) (by decide) (by decide) ee e0 (fun g hm hf => w1.mnS c2 hm hf) w2 p9 rfl iY
theorem n_end (hz : CfZ E N B gr) (hE : 94 ≤ gN E) (hw : Wy E N B gr u f) (iY : ∀ g, Wy E N B gr u g → Inv g) : CsI E f yX11_end cX11_end 2 yX12_end cX12_end 2 [] [xI, xU] Inv := by
  obtain ⟨C, A, D, R, o, w1, w2, w4, w5, px⟩ := hw
  obtain ⟨z1, z2, z3, z4, z5, z6, z7⟩ := id hz
  obtain ⟨fd, d, on, le, wr, ss, c1, c2, c3, c4, c5⟩ := px.cl w1 w2
  obtain ⟨R9, e1, e0, p9⟩ := px.nm z2
  have ee : e_end R = some (0, R9) := by rw [e_end, bnd2_o e1, if_neg (show ¬ (1 : Int32) = 0 by decide)]
  exact ise_I w1 w4 w5 (u_X11_end E f (cA C 1) fd (cS C 2) (by omega) (w1.mn c2) c1 N d on le wr ss (by omega) z2 c3 c4 c5) (fun g w r R9 e => k_X12_end E g hE R w r R9 e) (by decide) (by decide) ee e0 (fun g hm hf => w1.mnS c2 hm hf) w2 p9 rfl iY
theorem n_undo (hz : CfZ E N B gr) (hE : 94 ≤ gN E) (hw : Wy E N B gr u f) (iY : ∀ g, Wy E N B gr u g → Inv g) : CsI E f yX11_undo cX11_undo 1 yX12_undo cX12_undo 1 [] [xI, xU] Inv := by
  obtain ⟨C, A, D, R, o, w1, w2, w4, w5, px⟩ := hw
  obtain ⟨z1, z2, z3, z4, z5, z6, z7⟩ := id hz
  obtain ⟨fd, d, on, le, wr, ss, c1, c2, c3, c4, c5⟩ := px.cl w1 w2
  obtain ⟨R9, e1, e0, p9⟩ := px.nm z2
  have ee : e_undo R = some (0, R9) := by rw [e_undo, bnd2_o e1, if_neg (show ¬ (1 : Int32) = 0 by decide)]
  exact ise_I w1 w4 w5 (u_X11_undo E f (cA C 1) fd (cS C 2) (by omega) (w1.mn c2) c1 N d on le wr ss (by omega) z2 c3 c4 c5) (fun g w r R9 e => k_X12_undo E g hE R w r R9 e) (by decide) (by decide) ee e0 (fun g hm hf => w1.mnS c2 hm hf) w2 p9 rfl iY
theorem n_flush (hz : CfZ E N B gr) (hE : 94 ≤ gN E) (hw : Wy E N B gr u f) (iY : ∀ g, Wy E N B gr u g → Inv g) : CsI E f yX11_flush cX11_flush 1 yX12_flush cX12_flush 1 [] [xI, xU] Inv := by
  obtain ⟨C, A, D, R, o, w1, w2, w4, w5, px⟩ := hw
  obtain ⟨z1, z2, z3, z4, z5, z6, z7⟩ := id hz
  obtain ⟨fd, d, on, le, wr, ss, c1, c2, c3, c4, c5⟩ := px.cl w1 w2
  obtain ⟨R9, e1, e0, p9⟩ := px.nm z2
  have ee : e_flush R = some (0, R9) := by rw [e_flush, bnd2_o e1, if_neg (show ¬ (1 : Int32) = 0 by decide)]
  exact ise_I w1 w4 w5 (u_X11_flush E f (cA C 1) fd (cS C 2) (by omega) (w1.mn c2) c1 N d on le wr ss (by omega) z2 c3 c4 c5) (fun g w r R9 e => k_X12_flush E g hE R w r R9 e) (by decide) (by decide) ee e0 (fun g hm hf => w1.mnS c2 hm hf) w2 p9 rfl iY
theorem n_sync {a0 : Int32} (hz : CfZ E N B gr) (hE : 94 ≤ gN E) (hw : Wy E N B gr u f) (iY : ∀ g, Wy E N B gr u g → Inv g) : CsI E f yX11_sync cX11_sync 6 yX12_sync cX12_sync 7 [.int a0] [xI, xU] Inv := by
  obtain ⟨C, A, D, R, o, w1, w2, w4, w5, px⟩ := hw
  obtain ⟨z1, z2, z3, z4, z5, z6, z7⟩ := id hz
  obtain ⟨fd, d, on, le, wr, ss, c1, c2, c3, c4, c5⟩ := px.cl w1 w2
  obtain ⟨R9, e1, e0, p9⟩ := px.nm z2
  have ee : e_sync R a0 = some (0, R9) := by rw [e_sync, bnd2_o e1, if_neg (show ¬ (1 : Int32) = 0 by decide)]
  exact ise_I w1 w4 w5 (u_X11_sync E f (cA C 1) fd (cS C 2) (by omega) (w1.mn c2) c1 N d on le wr ss (by omega) z2 c3 c4 c5 a0) (fun g w r R9 e => k_X12_sync E g hE R w a0 r R9 e) (by decide) (by decide) ee e0 (fun g hm hf => w1.mnS c2 hm hf) w2 p9 rfl iY
theorem n_apply (hz : CfZ E N B gr) (hE : 94 ≤ gN E) (hw : Wy E N B gr u f) (iY : ∀ g, Wy E N B gr u g → Inv g) : CsI E f yX11_apply cX11_apply 2 yX12_apply cX12_apply 2 [] [xI, xU] Inv := by
  obtain ⟨C, A, D, R, o, w1, w2, w4, w5, px⟩ := hw
  obtain ⟨z1, z2, z3, z4, z5, z6, z7⟩ := id hz
  obtain ⟨fd, d, on, le, wr, ss, c1, c2, c3, c4, c5⟩ := px.cl w1 w2
  obtain ⟨R9, e1, e0, p9⟩ := px.nm z2
  have ee : e_apply R = some (0, R9) := by rw [e_apply, bnd2_o e1, if_neg (show ¬ (1 : Int32) = 0 by decide)]
  exact ise_I w1 w4 w5 (u_X11_apply E f (cA C 1) fd (cS C 2) (by omega) (w1.mn c2) c1 N d on le wr ss (by omega) z2 c3 c4 c5) (fun g w r R9 e => k_X12_apply E g hE R w r R9 e) (by decide) (by decide) ee e0 (fun g hm hf => w1.mnS c2 hm hf) w2 p9 rfl iY
theorem n_seen {a0 : Int32} {a1 : Int32} (hz : CfZ E N B gr) (hE : 94 ≤ gN E) (hw : Wy E N B gr u f) (iY : ∀ g, Wy E N B gr u g → Inv g) : CsI E f yX11_seen cX11_seen 3 yX12_seen cX12_seen 3 [.int a0, .int a1] [xI, xN] Inv := by
  obtain ⟨C, A, D, R, o, w1, w2, w4, w5, px⟩ := hw
  obtain ⟨z1, z2, z3, z4, z5, z6, z7⟩ := id hz
  obtain ⟨fd, d, on, le, wr, ss, c1, c2, c3, c4, c5⟩ := px.cl w1 w2
  obtain ⟨R9, e1, e0, p9⟩ := px.nm z2
  have ee : e_seen R a0 a1 = some (0, R9) := by rw [e_seen, bnd2_o e1, if_neg (show ¬ (1 : Int32) = 0 by decide)]
  exact ise_I w1 w4 w5 (u_X11_seen E f (cA C 1) fd (cS C 2) (by omega) (w1.mn c2) c1 N d on le wr ss (by omega) z2 c3 c4 c5 a0 a1) (fun g w r R9 e => k_X12_seen E g hE R w a0 a1 r R9 e) (by decide) (by decide) ee e0 (fun g hm hf => w1.mnS c2 hm hf) w2 p9 rfl iY
theorem n_tree {a0 : Int32} (hz : CfZ E N B gr) (hE : 94 ≤ gN E) (hw : Wy E N B gr u f) (iY : ∀ g, Wy E N B gr u g → Inv g) : CsJ E f yX11_tree cX11_tree 10 yX12_tree cX12_tree 2 [.int a0] [xI] Inv := by
  obtain ⟨C, A, D, R, o, w1, w2, w4, w5, px⟩ := hw
  obtain ⟨z1, z2, z3, z4, z5, z6, z7⟩ := id hz
  obtain ⟨fd, d, on, le, wr, ss, c1, c2, c3, c4, c5⟩ := px.cl w1 w2
  obtain ⟨R9, e1, e0, p9⟩ := px.nm z2
  have ee : e_tree R a0 = some (0, R9) := by rw [e_tree, bnd2_o e1, if_neg (show ¬ (1 : Int32) = 0 by decide)]
  exact ise_J w1 w4 w5 (u_X11_tree E f (cA C 1) fd (cS C 2) (by omega) (w1.mn c2) c1 N d on le wr ss (by omega) z2 c3 c4 c5 a0) (fun g w r R9 e => k_X12_tree E g hE R w a0 r R9 e) (by decide) (by decide) ee e0 (fun g hm hf => w1.mnS c2 hm hf) w2 p9 rfl iY
theorem n_check (hz : CfZ E N B gr) (hE : 94 ≤ gN E) (hw : Wy E N B gr u f) (iY : ∀ g, Wy E N B gr u g → Inv g) : CsI E f yX11_check cX11_check 1 yX12_check cX12_check 2 [] [xI] Inv := by
  obtain ⟨C, A, D, R, o, w1, w2, w4, w5, px⟩ := hw
  obtain ⟨z1, z2, z3, z4, z5, z6, z7⟩ := id hz
  obtain ⟨fd, d, on, le, wr, ss, c1, c2, c3, c4, c5⟩ := px.cl w1 w2
  obtain ⟨R9, e1, e0, p9⟩ := px.nm z2
  have ee : e_check R = some (0, R9) := by rw [e_check, bnd2_o e1]
  exact ise_I w1 w4 w5 (u_X11_check E f (cA C 1) fd (cS C 2) (by omega) (w1.mn c2) c1 N d on le wr ss (by omega) z2 c3 c4 c5) (fun g w r R9 e => k_X12_check E g hE R w r R9 e) (by decide) (by decide) ee e0 (fun g hm hf => w1.mnS c2 hm hf) w2 p9 rfl iY
end PXT
