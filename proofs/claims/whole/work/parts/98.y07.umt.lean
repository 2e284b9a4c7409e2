/-! ===== unmount ===== -/
section PXX7
variable {E : gE} {f g : Nat → va_E} {N B gr u : Nat} {A : MS} {C : CfT} {Inv : (Nat → va_E) → Prop}
theorem AR.au (a : AR N B gr A C) : AU N B gr A C := by
  obtain ⟨a1, a2, a3, a4, a5, a6, a7, a8, a9⟩ := a
  exact ⟨a1, a2, a3.2.2.2.2.2, a6, a7, a8, a9⟩
theorem m_unmount (hz : CfZ E N B gr) (hE : 94 ≤ gN E) (hu : u + 400000 < 2 ^ 31) (hw : Wm E N B gr u f) (iN : ∀ g, Wn E N B gr (u + 200000) g → Inv g) (iO : ∀ g, Wo E N B gr (u + 200000) g → Inv g) : CsV E f yX11_unmount cX11_unmount 1 yX12_unmount cX12_unmount 2 [] [xI, xU] Inv := by
  obtain ⟨C, A, D, R, o, w1, w2, w3, w4, w5, ⟨g, m, V, tk, hd, hi, tp, tl, im, hL⟩⟩ := hw
  obtain ⟨z1, z2, z3, z4, z5, z6, z7⟩ := id hz
  rcases (r_unmount (by omega) z2 z5 z6 (by omega) im).up (u' := u + 200000) (by omega) with ⟨A', D', R', e1, e2, e3, e4⟩ | ⟨A', D', R', e1, e2, e3, e4⟩
  · refine ⟨13, _, k_X11_unmount E f N B gr C D A hz w1 w2 w3 _ e1, by decide, ⟨_, w1.1⟩, fun v g q => ?_, fun X g q => q.elim⟩
    obtain ⟨q1, C', q2, q3, q4, q5⟩ := q
    have w' : RW E g R := w4.cg (fun k hk => q5 k (cf_rf hk))
    refine ⟨q1, 13, _, k_X12_unmount E g hE R w' R' e2, by decide, w'.o, fun _ _ q => q, fun v2 w2' q => ?_⟩
    obtain ⟨p1, p2, p3⟩ := q
    obtain ⟨R2, p4, p5⟩ := p2.rf
    exact ⟨R2, p1, p4, p5.trans e3, iN _ ⟨C', A', D', R', o, q2.of (fun k hk => p3 k (rf_cf hk)), q3, q4.au, p2, (p3 93 rf_93).trans ((q5 93 cf_93).trans w5), e4⟩⟩
  · refine ⟨13, _, k_X11_unmount E f N B gr C D A hz w1 w2 w3 _ e1, by decide, ⟨_, w1.1⟩, fun v g q => q.elim, fun X g q => ?_⟩
    obtain ⟨q1, C', q2, q3, q4, q5⟩ := q
    refine ⟨1, by rw [q1]; rfl, ?_⟩
    have w' : RW E g R := w4.cg (fun k hk => q5 k (cf_rf hk))
    refine ⟨13, _, k_X12_unmount E g hE R w' R' e2, by decide, w'.o, fun _ _ q => q, fun v2 w2' q => ?_⟩
    obtain ⟨p1, p2, p3⟩ := q
    obtain ⟨R2, p4, p5⟩ := p2.rf
    exact ⟨R2, p1, p4, p5.trans e3, iO _ ⟨C', A', D', R', o, q2.of (fun k hk => p3 k (rf_cf hk)), q3, q4, p2, (p3 93 rf_93).trans ((q5 93 cf_93).trans w5), e4⟩⟩
end PXX7
