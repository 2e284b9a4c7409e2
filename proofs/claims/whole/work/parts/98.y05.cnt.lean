/-! ===== power, crash; count where nothing is mounted ===== -/
section PXW5
variable {E : gE} {f g : Nat → va_E} {N B gr u : Nat} {C C2 : CfT} {A : MS} {D D2 : CfT} {R R2 R9 : RfT} {Inv : (Nat → va_E) → Prop} {o : Nat → Int64} {fd : Nat}
theorem Pz.on (h : Pz N B gr u C A D R) : (cS C 208 = 1 ∧ rS R 11 = 1 ∧ WkO N R ∧ ((AR N B gr A C ∧ Mtd N B gr u A D R) ∨ (AU N B gr A C ∧ Und N B gr u A D R))) ∨ (cS C 208 = 0 ∧ rS R 11 = 0) := by
  rcases h with ⟨p1, p2⟩ | ⟨p1, p2⟩ | ⟨p1, p2⟩
  · refine Or.inl ⟨p1.1.2.2, ?_, ?_, Or.inl ⟨p1, p2⟩⟩
    · obtain ⟨g, m, V, tk, hd, hi, tp, tl, im, hL⟩ := p2
      exact im.1.2.1.1.1.on1
    · obtain ⟨g, m, V, tk, hd, hi, tp, tl, im, hL⟩ := p2
      exact im.1.2.1.1.2.2.2.2.1
  · exact Or.inl ⟨p1.1.2.2, p2.2.2.1.1.on1, p2.2.2.1.2.1, Or.inr ⟨p1, p2⟩⟩
  · exact Or.inr ⟨p1.1.2.2, p2.n.2.1.1.1⟩
theorem z_power {a : Int32} (hz : CfZ E N B gr) (hE : 94 ≤ gN E) (hw : Wz E N B gr u f) (iZ : ∀ g, Wz E N B gr u g → Inv g) : CsV E f yX11_power cX11_power 2 yX12_power cX12_power 2 [.int a] [xI, xA] Inv := by
  obtain ⟨C, A, D, R, o, w1, w2, w4, w5, pz⟩ := hw
  obtain ⟨z1, z2, z3, z4, z5, z6, z7⟩ := id hz
  obtain ⟨R2, r2, f2⟩ := w4.rv
  have p2 := pz.fr f2
  obtain ⟨tp, tl, ⟨t1, t2, t3⟩, t4, t5, t6, t7⟩ := p2.of
  have c2 : cS C 1 = nI tl := w2.s1.trans t4
  obtain ⟨on, hw, d0, d1, d2, d3⟩ := p2.dv w1
  refine ⟨7, _, c_X11_power E f (cA C 1) tl (cS C 2) (by omega) (w1.mn c2) t6 N (dkOf C) on _ _ _ (by omega) z2 d2 d3 a, by decide, ⟨_, w1.1⟩, fun v g q => ?_, fun X g q => ?_⟩
  · obtain ⟨q1, q2, q3, q4, q5⟩ := q
    have wg := cf_dk w1 d1.1 q4 q5
    rw [sS_id d1.2.2] at wg
    have rg : RfV E g R2 := r2.of (fun k hk => q5 k (dk_rf hk))
    refine ⟨q1, 2, _, c_X12_power E g R2 hE rg a, by decide, ⟨_, rg.o⟩, fun _ _ q => q, fun v3 w3 q => ?_⟩
    rcases p2.on with ⟨o1, o2, o3, o4⟩ | ⟨o1, o2⟩
    · rcases q with ⟨s1, s2, -⟩ | ⟨s1, s2, s3, -⟩ | ⟨s1, s2, s3, s4, s5⟩
      · exact absurd s2 (on1 o2)
      · exact absurd s3 q3
      · have p3 := p2.fr (R2 := setS (setS R2 0 0) 0 0) ((Fn.s (by decide)).tr (Fn.s (by decide)))
        refine ⟨_, s1, s4, rfl, iZ _ (Wz.mk (A := (hwP A.1 a, A.2)) (wg.of (fun k hk => s5 k (rf_cf hk))) (w2.s (by decide)) s4 ((s5 93 rf_93).trans ((q5 93 dk_93).trans w5)) ?_)⟩
        rcases p3.on with ⟨-, -, -, ⟨p1, p2⟩ | ⟨p1, p2⟩⟩ | ⟨x1, -⟩
        · exact Or.inl ⟨p1.pow, p2.pow (by omega) z2⟩
        · exact Or.inr (Or.inl ⟨p1.pow, p2.pow⟩)
        · rw [o1] at x1
          exact absurd x1 (by decide)
    · rw [d1.2.2] at o1
      exact absurd o1 q2
  · rcases q with ⟨q1, q2, q3⟩ | ⟨q1, q2, q3, q4⟩
    · subst q2
      refine ⟨0, by rw [q1]; rfl, 2, _, c_X12_power E f R2 hE r2 a, by decide, ⟨_, r2.o⟩, fun _ _ q => q, fun v3 w3 q => ?_⟩
      have e11 : rS R2 11 = 0 := by
        rcases p2.on with ⟨o1, o2, o3, o4⟩ | ⟨o1, o2⟩
        · rw [d1.2.2, q3] at o1
          exact absurd o1 (by decide)
        · exact o2
      rcases q with ⟨s1, s2, s3, s4⟩ | ⟨s1, s2, -⟩ | ⟨s1, s2, -⟩
      · exact ⟨_, s1, s3, rfl, iZ _ (Wz.mk (w1.of (fun k hk => s4 k (rf_cf hk))) w2 s3 ((s4 93 rf_93).trans w5) (p2.fr (Fn.s (by decide))))⟩
      · exact absurd e11 s2
      · exact absurd e11 s2
    · subst q2
      refine ⟨1, by rw [q1]; rfl, 2, _, c_X12_power E f R2 hE r2 a, by decide, ⟨_, r2.o⟩, fun _ _ q => q, fun v3 w3 q => ?_⟩
      have e11 : ¬ rS R2 11 = 0 := by
        rcases p2.on with ⟨o1, o2, o3, o4⟩ | ⟨o1, o2⟩
        · exact on1 o2
        · rw [d1.2.2] at o1
          exact absurd o1 q3
      rcases q with ⟨s1, s2, -⟩ | ⟨s1, s2, s3, s4, s5⟩ | ⟨s1, s2, s3, -⟩
      · exact absurd s2 e11
      · exact ⟨_, s1, s4, rfl, iZ _ (Wz.mk (w1.of (fun k hk => s5 k (rf_cf hk))) w2 s4 ((s5 93 rf_93).trans w5) (p2.fr ((Fn.s (by decide)).tr (Fn.s (by decide)))))⟩
      · exact absurd q4 s3
theorem z_crash (hz : CfZ E N B gr) (hE : 94 ≤ gN E) (hw : Wz E N B gr u f) (iZ : ∀ g, Wz E N B gr u g → Inv g) : CsV E f yX11_crash cX11_crash 1 yX12_crash cX12_crash 1 [] [xI] Inv := by
  obtain ⟨C, A, D, R, o, w1, w2, w4, w5, pz⟩ := hw
  obtain ⟨z1, z2, z3, z4, z5, z6, z7⟩ := id hz
  obtain ⟨R2, r2, f2⟩ := w4.rv
  have p2 := pz.fr f2
  obtain ⟨tp, tl, ⟨t1, t2, t3⟩, t4, t5, t6, t7⟩ := p2.of
  have c2 : cS C 1 = nI tl := w2.s1.trans t4
  obtain ⟨on, hw, d0, d1, d2, d3⟩ := p2.dv w1
  have wk : ∃ n, n ≤ 1024 ∧ rS R2 33 = nI n ∧ n = nK R2 ∧ ∀ k, k < n → ∃ t, t < 1024 ∧ rA R2 30 k = nI t := by
    have q : WkO N R2 := by
      rcases p2 with ⟨p1, p2⟩ | ⟨p1, p2⟩ | ⟨p1, p2⟩
      · obtain ⟨g, m, V, tk, hd, hi, tp, tl, im, hL⟩ := p2
        exact im.1.2.1.1.2.2.2.2.1
      · exact p2.2.2.1.2.1
      · exact p2.n.2.1.wk
    obtain ⟨n, n1, n2, n3, -⟩ := q
    refine ⟨n, n1, n2, ?_, fun k hk => ?_⟩
    · unfold nK
      rw [n2, nI_clamp (by omega)]
    · obtain ⟨t, h1, h2, -⟩ := n3 k hk
      exact ⟨t, by omega, h2⟩
  obtain ⟨n, n1, n2, n3, n4⟩ := wk
  refine ⟨7, _, c_X11_crash E f (cA C 1) tl (cS C 2) (by omega) (w1.mn c2) t6 N (dkOf C) on _ _ _ (by omega) z2 d2 d3, by decide, ⟨_, w1.1⟩, fun v g q => ?_, fun X g q => ?_⟩
  · obtain ⟨q1, q2, q4, q5⟩ := q
    have wg := cf_dk w1 d1.1 q4 q5
    have rg : RfV E g R2 := r2.of (fun k hk => q5 k (dk_rf hk))
    refine ⟨q1, 3, _, c_X12_crash E g R2 n n1 n2 n4 hE rg, by decide, ⟨_, rg.o⟩, fun _ _ q => q, fun v3 w3 q => ?_⟩
    rcases p2.on with ⟨o1, o2, o3, o4⟩ | ⟨o1, o2⟩
    · rcases q with ⟨s1, s2, -⟩ | ⟨s1, s2, s4, s5⟩
      · exact absurd s2 (on1 o2)
      · rw [n3] at s4
        refine ⟨_, s1, s4, rfl, iZ _ (Wz.mk (A := A) (wg.of (fun k hk => s5 k (rf_cf hk))) ((w2.s (by decide)).s (by decide)) s4 ((s5 93 rf_93).trans ((q5 93 dk_93).trans w5)) (Or.inr (Or.inr ?_)))⟩
        rcases o4 with ⟨p1, p2⟩ | ⟨p1, p2⟩
        · exact ⟨p1.dark, p2.crash (by omega) z2⟩
        · exact ⟨p1.dark, p2.crash z2⟩
    · rw [d1.2.2] at o1
      exact absurd o1 q2
  · obtain ⟨q1, q2, q3⟩ := q
    subst q2
    refine ⟨0, by rw [q1]; rfl, 3, _, c_X12_crash E f R2 n n1 n2 n4 hE r2, by decide, ⟨_, r2.o⟩, fun _ _ q => q, fun v3 w3 q => ?_⟩
    have e11 : rS R2 11 = 0 := by
      rcases p2.on with ⟨o1, o2, o3, o4⟩ | ⟨o1, o2⟩
      · rw [d1.2.2, q3] at o1
        exact absurd o1 (by decide)
      · exact o2
    rcases q with ⟨s1, s2, s3, s4⟩ | ⟨s1, s2, -⟩
    · exact ⟨_, s1, s3, rfl, iZ _ (Wz.mk (w1.of (fun k hk => s4 k (rf_cf hk))) w2 s3 ((s4 93 rf_93).trans w5) (p2.fr (Fn.s (by decide))))⟩
    · exact absurd e11 s2
theorem cnt_eq {on he wr ss le pu x : Int32} {bh : Nat} (e6 : (if on = 0 then 0 else nI bh) = rS R 18) (e7 : he = rS R 10) (e8 : wr = rS R 13) (e9 : ss = rS R 14) (e10 : le = rS R 12) (e11 : pu = rS R 20) (e12 : nI fd = rS R 5) (e14 : on = rS R 11) : cntU on he wr ss le pu bh fd x = rCnt R x := by
  unfold cntU rCnt
  rw [e6, e7, e8, e9, e10, e11, e12, e14]
theorem Px.cnt {x : Int32} (px : Px N B gr u C A D R) (w2 : Dq D C) (hc : cS C 1 = nI fd) : cntU (cS C 208) (nI (dkOf C).2.2.2.2.2.2) (cS C 210) (cS C 211) (cS C 209) (bfOf C).2.2.2.2.2.2 (bfOf C).2.2.2.2.2.1 fd x = rCnt R x ∧ rS R 21 = 0 := by
  have he : ∀ {on : Int32} {hw : Hw}, HwR N B on hw C → nI (dkOf C).2.2.2.2.2.2 = cS C 207 ∧ nI (bfOf C).2.2.2.2.2.1 = cS C 806 := fun c => ⟨(nI_cl c.1.2.1).symm, (nI_cl c.1.2.2.2).symm⟩
  rcases px with ⟨p1, p2⟩ | ⟨p1, p2⟩
  · obtain ⟨x1, x2⟩ := he p1.1
    obtain ⟨y1, y2, y3, y4, y5, y6⟩ := p1.1.num
    obtain ⟨r1, r2, r3, r4, r5, r6⟩ := p2.2.2.1.1.cnt
    obtain ⟨tp, tl, -, a2, a3, -⟩ := p2.1
    refine ⟨cnt_eq ?_ (by rw [x1, y6, r2]) (by rw [y2, r3]) (by rw [y3, r4]) (by rw [y1, r5]) (by rw [show (bfOf C).2.2.2.2.2.2 = cS C 807 from rfl, y4, r6]) ?_ (by rw [p1.1.2.2, p2.2.2.1.1.on1]), p2.2.2.1.2.2.2.2.2.1⟩
    · rw [p1.1.2.2, if_neg (by decide), x2, y5, r1]
    · rw [← hc, w2.s1, a2, a3]
  · obtain ⟨x1, x2⟩ := he p1.1
    obtain ⟨y1, y2, y3, y4, y5, y6⟩ := p1.1.num
    obtain ⟨h1, ⟨g1, ⟨wf, w, b1, b2, b3, b4, b5, b6, b7, b8, b9⟩, -⟩, -, -⟩ := p2.n
    obtain ⟨tp, tl, -, a2, a3, -⟩ := h1
    refine ⟨cnt_eq ?_ (by rw [x1, y6, show (hFl A.1).1 = A.1.1 from rfl, b1.len, b2.2.2.1]) (by rw [y2]; exact b4.symm) (by rw [y3]; exact b5.symm) (by rw [y1]; exact b7.symm) (by rw [show (bfOf C).2.2.2.2.2.2 = cS C 807 from rfl, y4]; exact b8.symm) ?_ (by rw [p1.1.2.2, b6]), g1.2.1⟩
    · rw [p1.1.2.2, if_pos rfl, g1.2.2.1]
    · rw [← hc, w2.s1, a2, a3]
theorem n_count {a : Int32} (hz : CfZ E N B gr) (hE : 94 ≤ gN E) (hw : Wy E N B gr u f) (iZ : ∀ g, Wz E N B gr u g → Inv g) : CsI E f yX11_count cX11_count 2 yX12_count cX12_count 2 [.int a] [xA] Inv := by
  obtain ⟨C, A, D, R, o, w1, w2, w4, w5, px⟩ := hw
  obtain ⟨z1, z2, z3, z4, z5, z6, z7⟩ := id hz
  obtain ⟨R2, r2, f2⟩ := w4.rv
  have p2 : Px N B gr u C A D R2 := px.imp (fun p => ⟨p.1, p.2.fr f2⟩) (fun p => ⟨p.1, p.2.fr f2⟩)
  have pz : Pz N B gr u C A D R2 := Or.inr p2
  obtain ⟨tp, tl, ⟨t1, t2, t3⟩, t4, t5, t6, t7⟩ := pz.of
  have c2 : cS C 1 = nI tl := w2.s1.trans t4
  obtain ⟨on, hw, d0, d1, d2, d3⟩ := pz.dv w1
  have hun : ¬ (¬ cS C 2 = 0 ∧ ¬ on = 0) := by
    rcases p2 with ⟨q1, q2⟩ | ⟨q1, q2⟩
    · exact fun z => z.1 (w2.s2.trans q2.2.1)
    · exact fun z => z.2 (by rw [← d1.2.2]; exact q1.1.2.2)
  obtain ⟨ev, h21⟩ := p2.cnt (x := a) w2 c2
  rw [d1.2.2] at ev
  by_cases hx : a < 0 ∨ 17 < a
  · refine ⟨7, _, v_X11_count E f (cA C 1) tl (cS C 2) (by omega) (w1.mn c2) t6 N (dkOf C) on _ _ _ (by omega) z2 d2 d3 a hx, by decide, ⟨_, w1.1⟩, fun v g q => q.elim, fun X g q => ?_⟩
    obtain ⟨q1, q2⟩ := q
    subst q2
    refine ⟨0, by rw [q1]; rfl, 2, _, u_X12_count E f R2 hE r2 h21 a, by decide, ⟨_, r2.o⟩, fun _ _ q => q, fun v3 w3 q => ?_⟩
    rcases q with ⟨s1, s2, s3, s4⟩ | ⟨s1, s1', -⟩
    · exact ⟨0, _, s2, s3, rfl, fun z => absurd z (by decide), iZ _ (Wz.mk (w1.of (fun k hk => s4 k (rf_cf hk))) w2 s3 ((s4 93 rf_93).trans w5) (pz.fr (Fn.s (by decide))))⟩
    · exfalso
      rcases hx with q3 | q3
      · exact s1 q3
      · exact Int32.lt_irrefl (Int32.lt_of_lt_of_le q3 s1')
  refine ⟨7, _, u_X11_count E f (cA C 1) tl (cS C 2) (by omega) (w1.mn c2) t6 N (dkOf C) on _ _ _ (by omega) z2 d2 d3 B (bfOf C) (w1.db d1.1).2 hun a, by decide, ⟨_, w1.1⟩, fun v g q => ?_, fun X g q => ?_⟩
  · obtain ⟨q1, q2⟩ := q
    subst q2
    refine ⟨_, o, q1, w5, ?_⟩
    have rg : ∀ z, RfV E (va_up f 93 (oJ (gDA E) 1 z)) R2 := fun z => r2.of (fun k hk => up93 (fun q => rf_93 (q ▸ hk)))
    refine ⟨2, _, u_X12_count E _ R2 hE (rg _) h21 a, by decide, ⟨_, (rg _).o⟩, fun _ _ q => q, fun v3 w3 q => ?_⟩
    rcases q with ⟨s1, s2, s3, s4⟩ | ⟨s1, s1', s2, s3, s4⟩
    · exact absurd s1 hx
    · have e93 := (s4 93 rf_93)
      refine ⟨_, _, s2, s3, rfl, fun _ => ⟨_, e93.trans (by unfold va_up; exact if_pos rfl), ?_⟩, iZ _ (Wz.mk (w1.of (fun k hk => (s4 k (rf_cf hk)).trans (up93 (fun q => cf_93 (q ▸ hk))))) w2 s3 (e93.trans (by unfold va_up; exact if_pos rfl)) (pz.fr (Fn.s (by decide))))⟩
      rw [ev]
      unfold vp_updL
      exact if_pos rfl
  · exact absurd q.2.2 hx
end PXW5
