/-! ===== from the pure calls to the law's cases ===== -/
section PXR
variable {E : gE} {f g : Nat → va_E} {N B gr u : Nat}
theorem RW.cg {R : RfT} (h : RW E f R) (hg : ∀ k, RfK k → g k = f k) : RW E g R := by
  obtain ⟨a, s, h⟩ := h
  exact ⟨a, s, h.of hg⟩
theorem RW.o {R : RfT} (h : RW E f R) : ∃ fs, f 56 = .inr (12, fs) := by
  obtain ⟨a, s, h⟩ := h
  exact ⟨_, h.1⟩
theorem RW.rf {R : RfT} (h : RW E f R) : ∃ R', RfV E f R' ∧ rS R' 0 = rS R 0 := by
  obtain ⟨a, s, h⟩ := h
  exact ⟨_, h, rfl⟩
/-- mounted -/
def Wm (E : gE) (N B gr u : Nat) (f : Nat → va_E) : Prop := ∃ (C : CfT) (A : MS) (D : CfT) (R : RfT) (o : Nat → Int64), CfV E f N B gr C ∧ Dq D C ∧ AR N B gr A C ∧ RW E f R ∧ f 93 = oJ (gDA E) 1 o ∧ Mtd N B gr u A D R
/-- the power is off -/
def Wo (E : gE) (N B gr u : Nat) (f : Nat → va_E) : Prop := ∃ (C : CfT) (A : MS) (D : CfT) (R : RfT) (o : Nat → Int64), CfV E f N B gr C ∧ Dq D C ∧ AX N B gr A C ∧ RW E f R ∧ f 93 = oJ (gDA E) 1 o ∧ Offd N B gr u A D R
theorem cf_93 : ¬ CfK 93 := by
  unfold CfK
  decide
theorem cf_rf {k : Nat} (h : RfK k) : ¬ CfK k := by
  unfold RfK at h
  unfold CfK
  omega
theorem rf_cf {k : Nat} (h : CfK k) : ¬ RfK k := fun q => cf_rf q h
theorem rf_93 : ¬ RfK 93 := by
  unfold RfK
  decide
theorem up93 {k : Nat} {e : va_E} (h : k ≠ 93) : va_up f 93 e k = f k := by
  unfold va_up
  exact if_neg h
/-- the reference's turn -/
def RT (E : gE) (h2 : Nat) (ym : MethodName) (ccm : ByteArray) (nLm : Nat) (ret : Option FieldType) (as : List Value) {α : Type} (rv : α → Option Value) (g : Nat → va_E) (k : Int32) (x : Option α) (Inv : (Nat → va_E) → Prop) : Prop := ∃ (Q : gQ), Ct E h2 ym ccm nLm ret (.ref (gAd E 56) :: as) g Q ∧ (∃ fs, g 56 = .inr (12, fs)) ∧ (∀ X w, Q.2 X w → False) ∧ ∀ v w, Q.1 v w → ∃ (r : α) (R : RfT), v = rv r ∧ RfV E w R ∧ rS R 0 = k ∧ (k = 0 → x = some r ∧ w 93 = g 93) ∧ Inv w
theorem cs_core {α : Type} {rv : α → Option Value} {R : RfT} {cl : Option (FR α)} {rf : Option (α × RfT)} {h1 h2 : Nat} {y ym : MethodName} {cc ccm : ByteArray} {nL nLm : Nat} {ret : Option FieldType} {as : List Value} {xs : List String} {c0 k0 : Nat} {Inv : (Nat → va_E) → Prop} {o : Nat → Int64}
    (w : RW E f R) (h93 : f 93 = oJ (gDA E) 1 o)
    (kc : ∀ r, cl = some r → Ct E h1 y cc nL ret (.ref (gAd E 0) :: as) f (FQ E N B gr f rv r))
    (kr : ∀ g, RW E g R → ∀ r R9, rf = some (r, R9) → Ct E h2 ym ccm nLm ret (.ref (gAd E 56) :: as) g (fun v g' => v = rv r ∧ RW E g' R9 ∧ Fr RfK g g', fun _ _ => False))
    (hr : ∀ ex : Nat → Int32, ex c0 = nI (k0 + 1) → Ret N B gr u ex cl rf) (hc : c0 ≠ 0) (hx : xs[k0]? = some (exN c0)) (hk : k0 < 9)
    (hU : xs[1]? = some (exN 0) ∨ ∀ A' D', cl ≠ some (.inr (0, A', D'))) (iM : ∀ g, Wm E N B gr u g → Inv g) (iO : ∀ g, Wo E N B gr u g → Inv g) :
    ∃ Q : gQ, Ct E h1 y cc nL ret (.ref (gAd E 0) :: as) f Q ∧ (∀ v g, Q.1 v g → ∃ (x : α), v = rv x ∧ g 93 = oJ (gDA E) 1 o ∧ ∀ o', RT E h2 ym ccm nLm ret as rv (va_up g 93 (oJ (gDA E) 1 o')) 0 (some x) Inv) ∧ ∀ X g, Q.2 X g → xk xs X (fun k => RT E h2 ym ccm nLm ret as rv g k none Inv) := by
  rcases hr (fun c => if c = c0 then nI (k0 + 1) else 77) (if_pos rfl) with ⟨x, A', D', R', e1, e2, e3, e4⟩ | ⟨A', D', R', v, e1, e2, e3, e4⟩ | ⟨c, A', D', R', v, e1, e2, e3, e4, e5⟩
  · refine ⟨_, kc _ e1, fun v g q => ?_, fun X g q => q.elim⟩
    obtain ⟨q1, C', q2, q3, q4, q5⟩ := q
    refine ⟨x, q1, (q5 93 cf_93).trans h93, fun o' => ?_⟩
    have w' : RW E (va_up g 93 (oJ (gDA E) 1 o')) R := w.cg (fun k hk2 => (up93 (fun q => rf_93 (q ▸ hk2))).trans (q5 k (cf_rf hk2)))
    refine ⟨_, kr _ w' _ _ e2, w'.o, fun _ _ q => q, fun v2 w2 q => ?_⟩
    obtain ⟨p1, p2, p3⟩ := q
    obtain ⟨R2, p4, p5⟩ := p2.rf
    have e93 := p3 93 rf_93
    refine ⟨x, R2, p1, p4, p5.trans e3, fun _ => ⟨rfl, e93⟩, iM _ ⟨C', A', D', R', o', q2.of (fun k hk2 => (p3 k (rf_cf hk2)).trans (up93 (fun q => cf_93 (q ▸ hk2)))), q3, q4, p2, e93.trans (by unfold va_up; exact if_pos rfl), e4⟩⟩
  · refine ⟨_, kc _ e1, fun v g q => q.elim, fun X g q => ?_⟩
    obtain ⟨q1, C', q2, q3, q4, q5⟩ := q
    rcases hU with hU | hU
    · refine ⟨1, by rw [hU, q1], ?_⟩
      have w' : RW E g R := w.cg (fun k hk2 => q5 k (cf_rf hk2))
      refine ⟨_, kr _ w' _ _ e2, w'.o, fun _ _ q => q, fun v2 w2 q => ?_⟩
      obtain ⟨p1, p2, p3⟩ := q
      obtain ⟨R2, p4, p5⟩ := p2.rf
      refine ⟨v, R2, p1, p4, p5.trans e3, fun z => absurd z (by decide), iO _ ⟨C', A', D', R', o, q2.of (fun k hk2 => p3 k (rf_cf hk2)), q3, q4, p2, (p3 93 rf_93).trans ((q5 93 cf_93).trans h93), e4⟩⟩
    · exact absurd e1 (hU _ _)
  · have ec : c = c0 := by
      by_cases z : c = c0
      · exact z
      · exfalso
        rcases hr (fun c => if c = c0 then nI (k0 + 1) else 78) (if_pos rfl) with ⟨x, A2, D2, R2, d1, d2, d3, d4⟩ | ⟨A2, D2, R2, v2, d1, d2, d3, d4⟩ | ⟨c2, A2, D2, R2, v2, d1, d2, d3, d4, d5⟩
        · rw [e1] at d1
          cases d1
        · rw [e1] at d1
          injection d1 with d1
          injection d1 with d1
          injection d1 with d1
          exact e2 d1
        · rw [e1] at d1
          injection d1 with d1
          injection d1 with d1
          injection d1 with d1
          rw [e3] at d3
          injection d3 with d3
          injection d3 with _ d3
          rw [← d3, e4, ← d1] at d4
          rw [show (fun c => if c = c0 then nI (k0 + 1) else (77 : Int32)) c = 77 from if_neg z, show (fun c => if c = c0 then nI (k0 + 1) else (78 : Int32)) c = 78 from if_neg z] at d4
          exact absurd d4 (by decide)
    refine ⟨_, kc _ e1, fun v g q => q.elim, fun X g q => ?_⟩
    obtain ⟨c1, rfl⟩ : ∃ c1, c = c1 + 1 := ⟨c - 1, by omega⟩
    obtain ⟨q1, C', q2, q3, q4, q5⟩ := q
    refine ⟨k0, by rw [hx, q1, ec], ?_⟩
    have w' : RW E g R := w.cg (fun k hk2 => q5 k (cf_rf hk2))
    refine ⟨_, kr _ w' _ _ e3, w'.o, fun _ _ q => q, fun v2 w2 q => ?_⟩
    obtain ⟨p1, p2, p3⟩ := q
    obtain ⟨R2, p4, p5⟩ := p2.rf
    refine ⟨v, R2, p1, p4, p5.trans (e4.trans (if_pos ec)), fun z => ?_, iM _ ⟨C', A', D', R', o, q2.of (fun k hk2 => p3 k (rf_cf hk2)), q3, q4, p2, (p3 93 rf_93).trans ((q5 93 cf_93).trans h93), e5⟩⟩
    exact absurd z (nI_ne0 (by omega) (by omega))
theorem Ret.upR {α : Type} {u' : Nat} {ex : Nat → Int32} {cl : Option (FR α)} {rf : Option (α × RfT)} (h : Ret N B gr u ex cl rf) (hu : u ≤ u') : Ret N B gr u' ex cl rf := by
  rcases h with ⟨x, A', D', R', e1, e2, e3, ⟨g, m, V, tk, hd, hi, tp, tl, e4, eL⟩⟩ | ⟨A', D', R', v, e1, e2, e3, e4⟩ | ⟨c, A', D', R', v, e1, e2, e3, e4, ⟨g, m, V, tk, hd, hi, tp, tl, e5, eL⟩⟩
  · exact Or.inl ⟨x, A', D', R', e1, e2, e3, e4.mtd hu⟩
  · exact Or.inr (Or.inl ⟨A', D', R', v, e1, e2, e3, e4.up hu⟩)
  · exact Or.inr (Or.inr ⟨c, A', D', R', v, e1, e2, e3, e4, e5.mtd hu⟩)
theorem RetR.no0 {α : Type} {ex : Nat → Int32} {cl : Option (FR α)} {rf : Option (α × RfT)} (h : RetR N B gr u ex cl rf) : ∀ A' D', cl ≠ some (.inr (0, A', D')) := by
  intro A2 D2 e
  rcases h with ⟨x, A', D', R', e1, -⟩ | ⟨c, A', D', R', v, e1, e2, -⟩
  · rw [e] at e1
    cases e1
  · rw [e] at e1
    injection e1 with e1
    injection e1 with e1
    injection e1 with e1
    exact e2 e1.symm
section
variable {C : CfT} {A : MS} {D : CfT} {R : RfT} {h1 h2 : Nat} {y ym : MethodName} {cc ccm : ByteArray} {nL nLm : Nat} {as : List Value} {xs : List String} {c0 k0 : Nat} {Inv : (Nat → va_E) → Prop} {o : Nat → Int64}
theorem cs_I {cl : Option (FR Int32)} {rf : Option (Int32 × RfT)} (h : CfV E f N B gr C) (w : RW E f R) (h93 : f 93 = oJ (gDA E) 1 o)
    (kc : ∀ r, cl = some r → Ct E h1 y cc nL (some .int) (.ref (gAd E 0) :: as) f (FQ E N B gr f (fun r => some (.int r)) r))
    (kr : ∀ g, RW E g R → ∀ r R9, rf = some (r, R9) → Ct E h2 ym ccm nLm (some .int) (.ref (gAd E 56) :: as) g (fun v g' => v = some (.int r) ∧ RW E g' R9 ∧ Fr RfK g g', fun _ _ => False))
    (h1b : h1 ≤ 110) (h2b : h2 ≤ 110) (hr : ∀ ex : Nat → Int32, ex c0 = nI (k0 + 1) → Ret N B gr u ex cl rf) (hc : c0 ≠ 0) (hx : xs[k0]? = some (exN c0)) (hk : k0 < 9)
    (hU : xs[1]? = some (exN 0) ∨ ∀ A' D', cl ≠ some (.inr (0, A', D'))) (iM : ∀ g, Wm E N B gr u g → Inv g) (iO : ∀ g, Wo E N B gr u g → Inv g) : CsI E f y cc nL ym ccm nLm as xs Inv := by
  obtain ⟨Q, q1, q2, q3⟩ := cs_core (Inv := Inv) w h93 kc kr hr hc hx hk hU iM iO
  refine ⟨h1, Q, q1, h1b, ⟨_, h.1⟩, fun v g q => ?_, fun X g q => ?_⟩
  · obtain ⟨x, p1, p2, p3⟩ := q2 v g q
    obtain ⟨Q2, t1, t2, t3, t4⟩ := p3 (vp_updL o 0 x.toInt64)
    refine ⟨x, o, p1, p2, h2, Q2, t1, h2b, t2, t3, fun v2 w2 q => ?_⟩
    obtain ⟨r, R2, s1, s2, s3, s4, s5⟩ := t4 v2 w2 q
    obtain ⟨s6, s7⟩ := s4 rfl
    injection s6 with s6
    refine ⟨r, R2, s1, s2, s3, fun _ => ⟨_, s7.trans (by unfold va_up; exact if_pos rfl), ?_⟩, s5⟩
    rw [← s6]
    unfold vp_updL
    exact if_pos rfl
  · obtain ⟨k, p1, Q2, t1, t2, t3, t4⟩ := q3 X g q
    refine ⟨k, p1, h2, Q2, t1, h2b, t2, t3, fun v2 w2 q => ?_⟩
    obtain ⟨r, R2, s1, s2, s3, s4, s5⟩ := t4 v2 w2 q
    exact ⟨r, R2, s1, s2, s3, fun z => absurd (s4 z).1 (by intro z; cases z), s5⟩
theorem cs_B {cl : Option (FR Int32)} {rf : Option (Int32 × RfT)} (h : CfV E f N B gr C) (w : RW E f R) (h93 : f 93 = oJ (gDA E) 1 o)
    (kc : ∀ r, cl = some r → Ct E h1 y cc nL (some .boolean) (.ref (gAd E 0) :: as) f (FQ E N B gr f (fun r => some (.int r)) r))
    (kr : ∀ g, RW E g R → ∀ r R9, rf = some (r, R9) → Ct E h2 ym ccm nLm (some .boolean) (.ref (gAd E 56) :: as) g (fun v g' => v = some (.int r) ∧ RW E g' R9 ∧ Fr RfK g g', fun _ _ => False))
    (h1b : h1 ≤ 110) (h2b : h2 ≤ 110) (hr : ∀ ex : Nat → Int32, ex c0 = nI (k0 + 1) → Ret N B gr u ex cl rf) (hc : c0 ≠ 0) (hx : xs[k0]? = some (exN c0)) (hk : k0 < 9)
    (hU : xs[1]? = some (exN 0) ∨ ∀ A' D', cl ≠ some (.inr (0, A', D'))) (iM : ∀ g, Wm E N B gr u g → Inv g) (iO : ∀ g, Wo E N B gr u g → Inv g) : CsB E f y cc nL ym ccm nLm as xs Inv := by
  obtain ⟨Q, q1, q2, q3⟩ := cs_core (Inv := Inv) w h93 kc kr hr hc hx hk hU iM iO
  refine ⟨h1, Q, q1, h1b, ⟨_, h.1⟩, fun v g q => ?_, fun X g q => ?_⟩
  · obtain ⟨x, p1, p2, p3⟩ := q2 v g q
    obtain ⟨Q2, t1, t2, t3, t4⟩ := p3 (vp_updL o 0 (if x = 0 then 0 else 1))
    refine ⟨x, o, p1, p2, h2, Q2, t1, h2b, t2, t3, fun v2 w2 q => ?_⟩
    obtain ⟨r, R2, s1, s2, s3, s4, s5⟩ := t4 v2 w2 q
    obtain ⟨s6, s7⟩ := s4 rfl
    injection s6 with s6
    refine ⟨r, R2, s1, s2, s3, fun _ => ⟨_, s7.trans (by unfold va_up; exact if_pos rfl), ?_⟩, s5⟩
    rw [← s6]
    unfold vp_updL
    exact if_pos rfl
  · obtain ⟨k, p1, Q2, t1, t2, t3, t4⟩ := q3 X g q
    refine ⟨k, p1, h2, Q2, t1, h2b, t2, t3, fun v2 w2 q => ?_⟩
    obtain ⟨r, R2, s1, s2, s3, s4, s5⟩ := t4 v2 w2 q
    exact ⟨r, R2, s1, s2, s3, fun z => absurd (s4 z).1 (by intro z; cases z), s5⟩
theorem cs_J {cl : Option (FR Int64)} {rf : Option (Int64 × RfT)} (h : CfV E f N B gr C) (w : RW E f R) (h93 : f 93 = oJ (gDA E) 1 o)
    (kc : ∀ r, cl = some r → Ct E h1 y cc nL (some .long) (.ref (gAd E 0) :: as) f (FQ E N B gr f (fun r => some (.long r)) r))
    (kr : ∀ g, RW E g R → ∀ r R9, rf = some (r, R9) → Ct E h2 ym ccm nLm (some .long) (.ref (gAd E 56) :: as) g (fun v g' => v = some (.long r) ∧ RW E g' R9 ∧ Fr RfK g g', fun _ _ => False))
    (h1b : h1 ≤ 110) (h2b : h2 ≤ 110) (hr : ∀ ex : Nat → Int32, ex c0 = nI (k0 + 1) → Ret N B gr u ex cl rf) (hc : c0 ≠ 0) (hx : xs[k0]? = some (exN c0)) (hk : k0 < 9)
    (hU : xs[1]? = some (exN 0) ∨ ∀ A' D', cl ≠ some (.inr (0, A', D'))) (iM : ∀ g, Wm E N B gr u g → Inv g) (iO : ∀ g, Wo E N B gr u g → Inv g) : CsJ E f y cc nL ym ccm nLm as xs Inv := by
  obtain ⟨Q, q1, q2, q3⟩ := cs_core (Inv := Inv) w h93 kc kr hr hc hx hk hU iM iO
  refine ⟨h1, Q, q1, h1b, ⟨_, h.1⟩, fun v g q => ?_, fun X g q => ?_⟩
  · obtain ⟨x, p1, p2, p3⟩ := q2 v g q
    obtain ⟨Q2, t1, t2, t3, t4⟩ := p3 (vp_updL o 0 x)
    refine ⟨x, o, p1, p2, h2, Q2, t1, h2b, t2, t3, fun v2 w2 q => ?_⟩
    obtain ⟨r, R2, s1, s2, s3, s4, s5⟩ := t4 v2 w2 q
    obtain ⟨s6, s7⟩ := s4 rfl
    injection s6 with s6
    refine ⟨r, R2, s1, s2, s3, fun _ => ⟨_, s7.trans (by unfold va_up; exact if_pos rfl), ?_⟩, s5⟩
    rw [← s6]
    unfold vp_updL
    exact if_pos rfl
  · obtain ⟨k, p1, Q2, t1, t2, t3, t4⟩ := q3 X g q
    refine ⟨k, p1, h2, Q2, t1, h2b, t2, t3, fun v2 w2 q => ?_⟩
    obtain ⟨r, R2, s1, s2, s3, s4, s5⟩ := t4 v2 w2 q
    exact ⟨r, R2, s1, s2, s3, fun z => absurd (s4 z).1 (by intro z; cases z), s5⟩
end
end PXR
