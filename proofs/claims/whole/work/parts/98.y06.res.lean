/-! ===== restart ===== -/
section PXX6
variable {E : gE} {f g : Nat → va_E} {N B gr u : Nat} {Inv : (Nat → va_E) → Prop}
theorem o_restart {a : Int64} (hz : CfZ E N B gr) (hE : 94 ≤ gN E) (hu : u < 2 ^ 31) (hw : Wo E N B gr u f) (iN : ∀ g, Wn E N B gr u g → Inv g) : CsI E f yX11_restart cX11_restart 3 yX12_restart cX12_restart 12 [.long a] [xI] Inv := by
  obtain ⟨C, A, D, R, o, w1, w2, w3, w4, w5, w6⟩ := hw
  obtain ⟨z1, z2, z3, z4, z5, z6, z7⟩ := id hz
  obtain ⟨r, C9, R9, A9, e1, e2, e3, e4, e5, e6⟩ := r_restart (x := a) z2 z3 z4 hu w3 w6 w2
  refine ⟨3, _, kq_X11_restart E f N B gr C hz w1 a r C9 e1, by decide, ⟨_, w1.1⟩, fun v g q => ?_, fun X g q => q.elim⟩
  obtain ⟨q1, q2, q3⟩ := q
  refine ⟨r, o, q1, (q3 93 cf_93).trans w5, ?_⟩
  have w' : RW E (va_up g 93 (oJ (gDA E) 1 (vp_updL o 0 r.toInt64))) R := w4.cg (fun k hk => (up93 (fun q => rf_93 (q ▸ hk))).trans (q3 k (cf_rf hk)))
  refine ⟨2, _, k_X12_restart E _ hE R w' a r R9 e2, by decide, w'.o, fun _ _ q => q, fun v2 w2' q => ?_⟩
  obtain ⟨p1, p2, p3⟩ := q
  obtain ⟨R2, p4, p5⟩ := p2.rf
  have e93 := p3 93 rf_93
  refine ⟨r, R2, p1, p4, p5.trans e3, fun _ => ⟨_, e93.trans (by unfold va_up; exact if_pos rfl), ?_⟩, iN _ ⟨C9, A9, _, R9, _, q2.of (fun k hk => (p3 k (rf_cf hk)).trans (up93 (fun q => cf_93 (q ▸ hk)))), e5, e4, p2, e93.trans (by unfold va_up; exact if_pos rfl), e6⟩⟩
  unfold vp_updL
  exact if_pos rfl
end PXX6
