/-! ===== calls that any state takes ===== -/
section PXU
variable {E : gE} {f g : Nat → va_E} {N B gr u : Nat} {C C2 : CfT} {A : MS} {D D2 : CfT} {R R2 R9 : RfT} {Inv : (Nat → va_E) → Prop} {o : Nat → Int64} {fd : Nat}
def Pz (N B gr u : Nat) (C : CfT) (A : MS) (D : CfT) (R : RfT) : Prop := (AR N B gr A C ∧ Mtd N B gr u A D R) ∨ Px N B gr u C A D R
def Wz (E : gE) (N B gr u : Nat) (f : Nat → va_E) : Prop := ∃ (C : CfT) (A : MS) (D : CfT) (R : RfT) (o : Nat → Int64), CfV E f N B gr C ∧ Dq D C ∧ RW E f R ∧ f 93 = oJ (gDA E) 1 o ∧ Pz N B gr u C A D R
theorem Wm.z (h : Wm E N B gr u f) : Wz E N B gr u f := by
  obtain ⟨C, A, D, R, o, w1, w2, w3, w4, w5, w6⟩ := h
  exact ⟨C, A, D, R, o, w1, w2, w4, w5, Or.inl ⟨w3, w6⟩⟩
theorem Wy.z (h : Wy E N B gr u f) : Wz E N B gr u f := by
  obtain ⟨C, A, D, R, o, w1, w2, w4, w5, w6⟩ := h
  exact ⟨C, A, D, R, o, w1, w2, w4, w5, Or.inr w6⟩
theorem RW.rv (w : RW E f R) : ∃ R2, RfV E f R2 ∧ Fn [0, 42] [43] R R2 := by
  obtain ⟨a, s, h⟩ := w
  exact ⟨_, h, ⟨fun j hj => pk_un (fun e => hj (by rw [e]; decide)), fun _ _ => rfl, rfl⟩, rfl, rfl⟩
theorem RW.mk (h : RfV E f R) : RW E f R := ⟨rS R 42, rSr R, by
  rw [setS_id rfl]
  exact h⟩
theorem Pz.fr (h : Pz N B gr u C A D R) (q : Fn [0, 42] [43] R R2) : Pz N B gr u C A D R2 := by
  rcases h with ⟨p1, p2⟩ | ⟨p1, p2⟩ | ⟨p1, p2⟩
  · exact Or.inl ⟨p1, p2.fr q⟩
  · exact Or.inr (Or.inl ⟨p1, p2.fr q⟩)
  · exact Or.inr (Or.inr ⟨p1, p2.fr q⟩)
theorem AR.s1 {x : Nat → Int32} {v : Int32} (h : AR N B gr A C) : AR N B gr A (sS (sA C 1 x) 1 v) := h
theorem AU.t1 {x : Nat → Int32} {v : Int32} (h : AU N B gr A C) : AU N B gr A (sS (sA C 1 x) 1 v) := h
theorem AX.t1 {x : Nat → Int32} {v : Int32} (h : AX N B gr A C) : AX N B gr A (sS (sA C 1 x) 1 v) := h
theorem Pz.tpe {x y tp' : Nat → Int32} {v : Nat} (h : Pz N B gr u C A D R) (t : TpR (sS (sA D 1 x) 1 (nI v)) (setS (setA (setS R 0 0) 4 y) 5 (nI v)) tp') (hv : v ≤ 1024) : Pz N B gr u (sS (sA C 1 x) 1 (nI v)) A (sS (sA D 1 x) 1 (nI v)) (setS (setA (setS R 0 0) 4 y) 5 (nI v)) := by
  rcases h with ⟨p1, p2⟩ | ⟨p1, p2⟩ | ⟨p1, p2⟩
  · exact Or.inl ⟨p1.s1, p2.tpe t hv⟩
  · exact Or.inr (Or.inl ⟨p1.t1, p2.tpe t hv⟩)
  · exact Or.inr (Or.inr ⟨p1.t1, p2.tpe t hv⟩)
theorem Pz.of (h : Pz N B gr u C A D R) : OffT D R := by
  rcases h with ⟨p1, p2⟩ | ⟨p1, p2⟩ | ⟨p1, p2⟩
  · exact p2.of
  · exact p2.1
  · exact p2.1
theorem Pz.hx (h : Pz N B gr u C A D R) : Hx N A.1 R := by
  rcases h with ⟨p1, p2⟩ | ⟨p1, p2⟩ | ⟨p1, p2⟩
  · exact p2.hx
  · exact p2.hx
  · exact p2.hx
theorem Pz.dv (h : Pz N B gr u C A D R) (w : CfV E f N B gr C) : ∃ on hw, hw.1 = A.1.1 ∧ HwR N B on hw C ∧ DkV E f N (dkOf C) on (cS C 209) (cS C 210) (cS C 211) ∧ dOk N (dkOf C) := by
  rcases h with ⟨p1, p2⟩ | ⟨p1, p2⟩ | ⟨p1, p2⟩
  · exact ⟨1, A.1, rfl, p1.1, p1.1.dv w⟩
  · exact ⟨1, A.1, rfl, p1.1, p1.1.dv w⟩
  · exact ⟨0, hFl A.1, rfl, p1.1, p1.1.dv w⟩
theorem Wz.mk (w1 : CfV E f N B gr C) (w2 : Dq D C) (r : RfV E f R) (w5 : f 93 = oJ (gDA E) 1 o) (p : Pz N B gr u C A D R) : Wz E N B gr u f := ⟨C, A, D, R, o, w1, w2, RW.mk r, w5, p⟩
theorem CfV.mnF {x : Nat → Int32} (h : CfV E f N B gr C) (hm : MnV E g x fd (cS C 2)) (hf : Fr MnK f g) : CfV E g N B gr (sS (sA C 1 x) 1 (nI fd)) := ((h.p1 x).s1 (nI fd)).of (fun k hk => by
  by_cases c : k = 0
  · rw [c, hm.1]
    unfold va_up
    rw [if_pos rfl]
  · rw [show va_up (va_up f 1 (oB (gDA E) 1024 x)) 0 _ k = va_up f 1 (oB (gDA E) 1024 x) k from if_neg c]
    by_cases c1 : k = 1
    · rw [c1, hm.2]
      unfold va_up
      rw [if_pos rfl]
    · rw [show va_up f 1 (oB (gDA E) 1024 x) k = f k from if_neg c1]
      exact hf k (fun z => by unfold MnK at z; omega))
theorem mn_93 : ¬ MnK 93 := by
  unfold MnK
  decide
theorem z_feed {a b c d e : Int32} (hz : CfZ E N B gr) (hE : 94 ≤ gN E) (hw : Wz E N B gr u f) (iZ : ∀ g, Wz E N B gr u g → Inv g) : CsF E f yX11_feed cX11_feed 6 yX12_feed cX12_feed 8 [.int a, .int b, .int c, .int d, .int e] Inv := by
  obtain ⟨C, A, D, R, o, w1, w2, w4, w5, pz⟩ := hw
  obtain ⟨z1, z2, z3, z4, z5, z6, z7⟩ := id hz
  obtain ⟨R2, r2, f2⟩ := w4.rv
  have p2 := pz.fr f2
  obtain ⟨tp, tl, ⟨t1, t2, t3⟩, t4, t5, t6, t7⟩ := p2.of
  have c2 : cS C 1 = nI tl := w2.s1.trans t4
  refine ⟨2, _, c_X11_feed E f (cA C 1) tl (cS C 2) (by omega) (w1.mn c2) t6 a b c d e, by decide, ⟨_, w1.1⟩, fun _ _ q => q, fun v g q => ?_⟩
  rcases q with ⟨q1, q2, q3⟩ | ⟨q1, q2, q3, q4⟩
  · subst q3
    refine ⟨-1, q2, 1, _, c_X12_feed E f R2 tl t5 t6 hE r2 a b c d e, by decide, ⟨_, r2.o⟩, fun _ _ q => q, fun v3 w3 q => ?_⟩
    rcases q with ⟨s1, s2, s3, s4⟩ | ⟨s1, -⟩
    · exact ⟨s2, iZ _ (Wz.mk (w1.of (fun k hk => s4 k (rf_cf hk))) w2 s3 ((s4 93 rf_93).trans w5) (p2.fr (Fn.s (by decide))))⟩
    · omega
  · have rg : RfV E g R2 := r2.of (fun k hk => q4 k (mn_rf hk))
    have wg := w1.mnF q3 q4
    refine ⟨nI (tl + 20), q2, 1, _, c_X12_feed E g R2 tl t5 t6 hE rg a b c d e, by decide, ⟨_, rg.o⟩, fun _ _ q => q, fun v3 w3 q => ?_⟩
    rcases q with ⟨s1, -⟩ | ⟨s1, s2, s3, s4⟩
    · omega
    · have eD : cA C 1 = tp := funext (fun j => (congrFun (w2.2 1 (Or.inl (by decide))) j).trans (t2 j))
      refine ⟨s2, iZ _ (Wz.mk (wg.of (fun k hk => s4 k (rf_cf hk))) (w2.aa.ss) s3 ((s4 93 rf_93).trans ((q4 93 mn_93).trans w5)) (p2.tpe (tp' := fd5 tp tl a b c d e) ⟨fd5_byt t1, fun j => ?_, fun j hj => ?_⟩ q1))⟩
      · rw [eD]
        rfl
      · show fdT (rA R2 4) tl a b c d e 20 j = _
        rw [fdT_c t3 20 j hj, fdT_5]
theorem z_back {a : Int32} (hz : CfZ E N B gr) (hE : 94 ≤ gN E) (hw : Wz E N B gr u f) (iZ : ∀ g, Wz E N B gr u g → Inv g) : CsF E f yX11_back cX11_back 2 yX12_back cX12_back 2 [.int a] Inv := by
  obtain ⟨C, A, D, R, o, w1, w2, w4, w5, pz⟩ := hw
  obtain ⟨z1, z2, z3, z4, z5, z6, z7⟩ := id hz
  obtain ⟨R2, r2, f2⟩ := w4.rv
  have p2 := pz.fr f2
  obtain ⟨tp, tl, ⟨t1, t2, t3⟩, t4, t5, t6, t7⟩ := p2.of
  have c2 : cS C 1 = nI tl := w2.s1.trans t4
  refine ⟨1, _, c_X11_back E f (cA C 1) tl (cS C 2) (by omega) (w1.mn c2) t6 a, by decide, ⟨_, w1.1⟩, fun _ _ q => q, fun v g q => ?_⟩
  rcases q with ⟨q1, q2, q3⟩ | ⟨t, q1, q2, q3, q4, q5⟩
  · subst q3
    refine ⟨-1, q2, 1, _, c_X12_back E f R2 hE r2 tl t5 t6 a, by decide, ⟨_, r2.o⟩, fun _ _ q => q, fun v3 w3 q => ?_⟩
    rcases q with ⟨s1, s2, s3, s4⟩ | ⟨t, s1, s2, -⟩
    · exact ⟨s2, iZ _ (Wz.mk (w1.of (fun k hk => s4 k (rf_cf hk))) w2 s3 ((s4 93 rf_93).trans w5) (p2.fr (Fn.s (by decide))))⟩
    · exfalso
      rw [s2] at q1
      rcases q1 with q1 | q1
      · exact nI_nn (by omega) q1
      · exact nI_nlt s1 (by omega) q1
  · have rg : RfV E g R2 := r2.of (fun k hk => q5 k (mn_rf hk))
    have wg := w1.mnT q4 q5
    refine ⟨nI (tl - t), q3, 1, _, c_X12_back E g R2 hE rg tl t5 t6 a, by decide, ⟨_, rg.o⟩, fun _ _ q => q, fun v3 w3 q => ?_⟩
    rcases q with ⟨s1, -⟩ | ⟨t', s1, s2, s3, s4, s5⟩
    · exfalso
      rw [q2] at s1
      rcases s1 with s1 | s1
      · exact nI_nn (by omega) s1
      · exact nI_nlt q1 (by omega) s1
    · have et : t' = t := nI_inj (by omega) (by omega) (s2.symm.trans q2)
      subst et
      have eA : setA (setS R2 0 0) 4 (rA R2 4) = setS R2 0 0 := setA_id
      have eC : sA C 1 (cA C 1) = C := sA_id
      have eD : sA D 1 (cA D 1) = D := sA_id
      have eCD : cA C 1 = cA D 1 := w2.2 1 (Or.inl (by decide))
      have pp := p2.tpe (x := cA D 1) (y := rA R2 4) (v := tl - t') (tp' := tp) ⟨t1, t2, t3⟩ (by omega)
      rw [eA, eD, ← eCD, eC] at pp
      exact ⟨s3, iZ _ (Wz.mk (wg.of (fun k hk => s5 k (rf_cf hk))) w2.ss s4 ((s5 93 rf_93).trans ((q5 93 mn_93).trans w5)) pp)⟩
theorem nr_ati {x y : Nat → Int32} {i : Nat} (h : nr x = nr y) (hi : i < 128) : x i = y i := by
  have q := congrFun h i
  unfold nr at q
  rw [if_pos hi, if_pos hi] at q
  exact q
theorem z_byteAt {a b : Int32} (hz : CfZ E N B gr) (hE : 94 ≤ gN E) (hw : Wz E N B gr u f) (iZ : ∀ g, Wz E N B gr u g → Inv g) : CsI E f yX11_byteAt cX11_byteAt 3 yX12_byteAt cX12_byteAt 3 [.int a, .int b] [xN] Inv := by
  obtain ⟨C, A, D, R, o, w1, w2, w4, w5, pz⟩ := hw
  obtain ⟨z1, z2, z3, z4, z5, z6, z7⟩ := id hz
  obtain ⟨R2, r2, f2⟩ := w4.rv
  have p2 := pz.fr f2
  obtain ⟨tp, tl, ⟨t1, t2, t3⟩, t4, t5, t6, t7⟩ := p2.of
  have c2 : cS C 1 = nI tl := w2.s1.trans t4
  obtain ⟨on, hw, d0, d1, d2, d3⟩ := p2.dv w1
  obtain ⟨wf, w, x1, x2, x3, x4, x5, x6⟩ := p2.hx
  refine ⟨7, _, c_X11_byteAt E f (cA C 1) tl (cS C 2) (by omega) (w1.mn c2) t6 N (dkOf C) on _ _ _ (by omega) z2 d2 d3 a b, by decide, ⟨_, w1.1⟩, fun v g q => ?_, fun X g q => ?_⟩
  · obtain ⟨t, i, q1, q2, q3, q4, q5, q6⟩ := q
    subst q5
    refine ⟨_, o, q6, w5, ?_⟩
    have rg : RfV E (va_up f 93 (oJ (gDA E) 1 (vp_updL o 0 (dRead (dkOf C) t i &&& 255).toInt64))) R2 := r2.of (fun k hk => up93 (fun q => rf_93 (q ▸ hk)))
    refine ⟨3, _, c_X12_byteAt E _ R2 N x6 z2 (fun t ht => x5 t (by omega)) x3 x4 hE rg a b, by decide, ⟨_, rg.o⟩, fun _ _ q => q, fun v3 w3 q => ?_⟩
    rcases q with ⟨s1, -⟩ | ⟨t', i', s1, s2, s3, s4, s5, s6, s7⟩
    · exfalso
      refine s1 ⟨?_, ?_, ?_, ?_⟩
      · rw [q3]
        exact nI_nn (by omega)
      · rw [q3]
        exact nI_lt q1 (by omega)
      · rw [q4]
        exact nI_nn (by omega)
      · rw [q4]
        exact nI_lt (b := 128) q2 (by decide)
    · have et : t' = t := nI_inj (by omega) (by omega) (s3.symm.trans q3)
      have ei : i' = i := nI_inj (by omega) (by omega) (s4.symm.trans q4)
      subst et
      subst ei
      have e9 : rRd (setS R2 0 0) t' = rRd R2 t' := rfl
      have ev : dRead (dkOf C) t' i' = rRd (setS R2 0 0) t' i' := nr_ati (by
        rw [d1.rd z2 q1, d0, e9, x1.read z2 q1]) q2
      have e93 := (s7 93 rf_93)
      refine ⟨_, _, s5, s6, rfl, fun _ => ⟨_, e93.trans (by unfold va_up; exact if_pos rfl), ?_⟩, iZ _ (Wz.mk (w1.of (fun k hk => (s7 k (rf_cf hk)).trans (up93 (fun q => cf_93 (q ▸ hk))))) w2 s6 (e93.trans (by unfold va_up; exact if_pos rfl)) (p2.fr ((Fn.s (by decide)).tr (Fn.a (by decide)))))⟩
      rw [ev]
      unfold vp_updL
      exact if_pos rfl
  · obtain ⟨q1, q2, q3⟩ := q
    subst q2
    refine ⟨0, by rw [q1]; rfl, 3, _, c_X12_byteAt E f R2 N x6 z2 (fun t ht => x5 t (by omega)) x3 x4 hE r2 a b, by decide, ⟨_, r2.o⟩, fun _ _ q => q, fun v3 w3 q => ?_⟩
    rcases q with ⟨s1, s2, s3, s4⟩ | ⟨t, i, s1, s2, s3, s4, -⟩
    · exact ⟨0, _, s2, s3, rfl, fun z => absurd z (by decide), iZ _ (Wz.mk (w1.of (fun k hk => s4 k (rf_cf hk))) w2 s3 ((s4 93 rf_93).trans w5) (p2.fr (Fn.s (by decide))))⟩
    · exfalso
      refine q3 ⟨?_, ?_, ?_, ?_⟩
      · rw [s3]
        exact nI_nn (by omega)
      · rw [s3]
        exact nI_lt s1 (by omega)
      · rw [s4]
        exact nI_nn (by omega)
      · rw [s4]
        exact nI_lt (b := 128) s2 (by decide)
theorem z_waiting {a : Int32} (hz : CfZ E N B gr) (hE : 94 ≤ gN E) (hw : Wz E N B gr u f) (iZ : ∀ g, Wz E N B gr u g → Inv g) : CsI E f yX11_waiting cX11_waiting 2 yX12_waiting cX12_waiting 2 [.int a] [xN] Inv := by
  obtain ⟨C, A, D, R, o, w1, w2, w4, w5, pz⟩ := hw
  obtain ⟨z1, z2, z3, z4, z5, z6, z7⟩ := id hz
  obtain ⟨R2, r2, f2⟩ := w4.rv
  have p2 := pz.fr f2
  obtain ⟨tp, tl, ⟨t1, t2, t3⟩, t4, t5, t6, t7⟩ := p2.of
  have c2 : cS C 1 = nI tl := w2.s1.trans t4
  obtain ⟨on, hw, d0, d1, d2, d3⟩ := p2.dv w1
  obtain ⟨wf, w, x1, x2, x3, x4, x5, x6⟩ := p2.hx
  refine ⟨7, _, c_X11_waiting E f (cA C 1) tl (cS C 2) (by omega) (w1.mn c2) t6 N (dkOf C) on _ _ _ (by omega) z2 d2 d3 a, by decide, ⟨_, w1.1⟩, fun v g q => ?_, fun X g q => ?_⟩
  · obtain ⟨t, q1, q2, q3, q4⟩ := q
    subst q3
    refine ⟨_, o, q4, w5, ?_⟩
    have rg : RfV E (va_up f 93 (oJ (gDA E) 1 (vp_updL o 0 ((dkOf C).1 t).toInt64))) R2 := r2.of (fun k hk => up93 (fun q => rf_93 (q ▸ hk)))
    refine ⟨3, _, c_X12_waiting E _ R2 wf w x2.1 x2.2.1 x2.2.2.1 x2.2.2.2 N x6 z2 hE rg a, by decide, ⟨_, rg.o⟩, fun _ _ q => q, fun v3 w3 q => ?_⟩
    rcases q with ⟨s1, -⟩ | ⟨t', s1, s3, s5, s6, s7⟩
    · exfalso
      refine s1 ⟨?_, ?_, by decide, by decide⟩
      · rw [q2]
        exact nI_nn (by omega)
      · rw [q2]
        exact nI_lt q1 (by omega)
    · have et : t' = t := nI_inj (by omega) (by omega) (s3.symm.trans q2)
      subst et
      have ev : (dkOf C).1 t' = nI (rWo (rA R2 7) wf t' w) := by
        have e1 : (dkOf C).1 t' = nI (wCnt hw.1.2 t') := d1.2.1.1.2 t' q1
        obtain ⟨y1, y2, y3, y4, y5, y6⟩ := x1
        rw [e1, d0, y4, rWo_cnt (by omega) w (fun i hi => by
          obtain ⟨v, v1, v2⟩ := y5 i hi
          exact ⟨v, by omega, v2⟩)]
      have e93 := (s7 93 rf_93)
      refine ⟨_, _, s5, s6, rfl, fun _ => ⟨_, e93.trans (by unfold va_up; exact if_pos rfl), ?_⟩, iZ _ (Wz.mk (w1.of (fun k hk => (s7 k (rf_cf hk)).trans (up93 (fun q => cf_93 (q ▸ hk))))) w2 s6 (e93.trans (by unfold va_up; exact if_pos rfl)) (p2.fr (Fn.s (by decide))))⟩
      rw [ev]
      unfold vp_updL
      exact if_pos rfl
  · obtain ⟨q1, q2, q3⟩ := q
    subst q2
    refine ⟨0, by rw [q1]; rfl, 3, _, c_X12_waiting E f R2 wf w x2.1 x2.2.1 x2.2.2.1 x2.2.2.2 N x6 z2 hE r2 a, by decide, ⟨_, r2.o⟩, fun _ _ q => q, fun v3 w3 q => ?_⟩
    rcases q with ⟨s1, s2, s3, s4⟩ | ⟨t, s1, s3, -⟩
    · exact ⟨0, _, s2, s3, rfl, fun z => absurd z (by decide), iZ _ (Wz.mk (w1.of (fun k hk => s4 k (rf_cf hk))) w2 s3 ((s4 93 rf_93).trans w5) (p2.fr (Fn.s (by decide))))⟩
    · exfalso
      refine q3 ⟨?_, ?_, by decide, by decide⟩
      · rw [s3]
        exact nI_nn (by omega)
      · rw [s3]
        exact nI_lt s1 (by omega)
end PXU
