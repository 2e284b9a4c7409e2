/-! ===== format ===== -/
section PXX12
variable {E : gE} {f g : Nat → va_E} {N B gr u : Nat} {A : MS} {C C' D : CfT} {R : RfT} {Inv : (Nat → va_E) → Prop}
theorem Sx.dq (h : Sx C C') (d : Dq D C) : Dq D C' := by
  refine ⟨fun j hj => (h.1 j ?_).trans (d.1 j hj), fun k hk => (h.2.1 k ?_ ?_).trans (d.2 k hk)⟩
  · rcases hj with q | rfl
    · intro z
      exact q (by rcases List.mem_cons.mp z with e | e; · rw [e]; decide
                  · rw [List.mem_singleton.mp e]; decide)
    · decide
  · rcases hk with q | rfl
    · intro z
      exact q (by rcases List.mem_cons.mp z with e | e; · rw [e]; decide
                  · rw [List.mem_singleton.mp e]; decide)
    · decide
  · rcases hk with q | rfl
    · rintro rfl
      exact q (by decide)
    · decide
theorem Sx.au {hw : Hw} (h : Sx C C') (a : AU N B gr A C) (hh : HwR N B 1 hw C') (ho : HOk N B hw) (h15 : Byt (cA C' 15)) : AU N B gr (hw, A.2) C' := by
  obtain ⟨a1, a2, a3, a4, a5, a6, a7⟩ := a
  refine ⟨hh, ho, h15, fun r hr => ?_, a5.sm (h.1 1711 (by decide)) (h.1 1712 (by decide)) (h.2.1 23 (by decide) (by decide)) (h.2.1 24 (by decide) (by decide)), a6.sm (h.2.1 27 (by decide) (by decide)) (h.2.1 28 (by decide) (by decide)) (fun b => congrFun (h.2.2 2 (by decide)) b), (h.1 2511 (by decide)).trans a7⟩
  rw [show cR C' 4 r = cR C 4 r from congrFun (h.2.2 4 (by decide)) r]
  exact a4 r hr
theorem Sx.ax {hw : Hw} (h : Sx C C') (a : AU N B gr A C) (hh : HwR N B 0 (hFl hw) C') (h15 : Byt (cA C' 15)) : AX N B gr (hw, A.2) C' := by
  obtain ⟨a1, a2, a3, a4, a5, a6, a7⟩ := a
  refine ⟨hh, h15, fun r hr => ?_, a5.sm (h.1 1711 (by decide)) (h.1 1712 (by decide)) (h.2.1 23 (by decide) (by decide)) (h.2.1 24 (by decide) (by decide)), a6.sm (h.2.1 27 (by decide) (by decide)) (h.2.1 28 (by decide) (by decide)) (fun b => congrFun (h.2.2 2 (by decide)) b), (h.1 2511 (by decide)).trans a7⟩
  rw [show cR C' 4 r = cR C 4 r from congrFun (h.2.2 4 (by decide)) r]
  exact a4 r hr
/-- the reference formats: what comes of it -/
theorem fm_core {r : Bool × Hw} {X : RfT} {v : Int32} {u' : Nat} (hk : (r.1 = true ∧ RH N B r.2 X ∧ WkO N X ∧ Fq [0, 9, 10, 12, 13, 14, 18, 20, 22] [6, 7, 8, 15, 17, 39, 40, 44] R X) ∨ (r.1 = false ∧ Dd N R r.2 X)) (x3 : r.1 = true → Quiet N r.2) (sf : SfT N u' (r.2, A.2) D) (w : Und N B gr u A D R) : (r.1 = true → rS X 11 ≠ 0 ∧ Und N B gr u' (r.2, A.2) D (setS X 0 v)) ∧ (r.1 = false → rS X 11 = 0 ∧ Offd N B gr u' (r.2, A.2) D (setS X 0 v)) := by
  obtain ⟨t1, t2, ⟨r1, r2, r3, r4, r5, r6, r7⟩, t4, ⟨t5, t7⟩, t6⟩ := w
  rcases hk with ⟨b1, b2, b3, b4⟩ | ⟨b1, b2⟩
  · refine ⟨fun _ => ⟨b2.on, ?_⟩, fun z => by rw [b1] at z; cases z⟩
    have f5 : Fn [0] [] X (setS X 0 v) := Fn.s (by decide)
    have hq : RQu N (setS X 0 v) [] := (r3.fq b4 (by decide) (by decide) (by decide) (by decide) (by decide)).fq f5.1 (by decide) (by decide) (by decide) (by decide) (by decide)
    have o4 : OffT D (setS X 0 v) := (t1.dt Dt.rf b4 (by decide) (by decide)).fr f5 (by decide) (by decide)
    refine ⟨o4, t2, ⟨b2.fn f5 (by decide) (by decide), b3.fq f5.1 (by decide) (by decide) (by decide) (by decide) (by decide), hq, ?_, ?_, ?_, ?_⟩, x3 b1, sf⟩
    · rw [f5.1.1 1 (by decide), b4.1 1 (by decide)]
      exact r4
    · rw [f5.1.1 3 (by decide), b4.1 3 (by decide)]
      exact r5
    · rw [f5.1.1 21 (by decide), b4.1 21 (by decide)]
      exact r6
    · rw [f5.1.1 34 (by decide), b4.1 34 (by decide)]
      exact r7
  · refine ⟨fun z => absurd (b1.symm.trans z) (by decide), fun _ => ⟨b2.1.1, ?_⟩⟩
    obtain ⟨wf, w, d⟩ := r1.db
    have b9 : Dd N R r.2 (setS X 0 v) := Dd.thr b2
    exact ⟨t1.dead Dt.rf b9, ⟨R, b9, r4, d.2.2.2.2.1.1, r5⟩, sf⟩
theorem fmL_l : (fmL N).length = 24 := by
  unfold fmL
  rw [List.length_append, List.length_append, List.length_append, fmP_l]
  rfl
theorem rFmt_e : rFmt R N = setS (fmZ R N) 0 (if rS (fmZ R N) 11 = 0 then 2 else 0) := by rw [rFmt]
theorem fm_ref (hN1 : 61 ≤ N) (hN : N ≤ 1024) (hu : u + 400000 < 2 ^ 31) (ho : HOk N B A.1) (w : Und N B gr u A D R) : ((hRn N B (true, A.1) (fmL N)).1 = true → rS (fmZ R N) 11 ≠ 0 ∧ Und N B gr (u + 200000) ((hRn N B (true, A.1) (fmL N)).2, A.2) D (rFmt R N)) ∧ ((hRn N B (true, A.1) (fmL N)).1 = false → rS (fmZ R N) 11 = 0 ∧ Offd N B gr (u + 200000) ((hRn N B (true, A.1) (fmL N)).2, A.2) D (rFmt R N)) := by
  have w0 := w
  obtain ⟨t1, t2, ⟨r1, r2, r3, r4, r5, r6, r7⟩, t4, ⟨t5, t7⟩, t6⟩ := w
  have hk := FmR.fmZ hN hN1 (show hSp A.1 + 100 < 2 ^ 31 by omega) r1 r2 r4
  obtain ⟨x1, x2, x3⟩ := fm_all hN1 hN ho t5
  have hs : hSp (hRn N B (true, A.1) (fmL N)).2 ≤ hSp A.1 + (fmL N).length := hRn_sp (fmL N) (true, A.1)
  rw [fmL_l] at hs
  rw [rFmt_e]
  unfold FmR at hk
  generalize hRn N B (true, A.1) (fmL N) = r at hk x1 x2 x3 hs ⊢
  generalize fmZ R N = X at hk ⊢
  exact fm_core hk x3 ⟨⟨x2, show hSp r.2 ≤ _ by omega⟩, t6⟩ w0
theorem n_format (hz : CfZ E N B gr) (hE : 94 ≤ gN E) (hu : u + 400000 < 2 ^ 31) (hw : Wn E N B gr u f) (iN : ∀ g, Wn E N B gr (u + 200000) g → Inv g) (iO : ∀ g, Wo E N B gr (u + 200000) g → Inv g) : CsI E f yX11_format cX11_format 3 yX12_format cX12_format 2 [] [xI, xU] Inv := by
  obtain ⟨C, A, D, R, o, w1, w2, w3, w4, w5, w6⟩ := hw
  obtain ⟨z1, z2, z3, z4, z5, z6, z7⟩ := id hz
  obtain ⟨⟨tp, tl, -, t4, t5, t6, -⟩, t2, -, -, ⟨-, t7⟩, -⟩ := id w6
  have c1 : cS C 1 = nI tl := w2.s1.trans t4
  have c2 : cS C 2 = 0 := (w2.1 2 (Or.inl (by decide))).trans t2
  refine ⟨10, _, r_fmt E f tl C A.1 hz w1 w3.1 w3.2.2.1 (by omega) c1 t6 c2, by decide, ⟨_, w1.1⟩, fun v g q => ?_, fun X g q => ?_⟩
  · obtain ⟨q1, sc, q2, C', q3, q4, q5, -, -, q8, q9⟩ := q
    refine ⟨nI (N - 61), o, q1, (q9 93 cf_93).trans w5, ?_⟩
    have w' : RW E (va_up g 93 (oJ (gDA E) 1 (vp_updL o 0 (nI (N - 61)).toInt64))) R := w4.cg (fun k hk => (up93 (fun q => rf_93 (q ▸ hk))).trans (q9 k (cf_rf hk)))
    obtain ⟨R3, r3, fn⟩ := w'.rv
    have w7 := w6.fr fn
    obtain ⟨p1, p2⟩ := (fm_ref (by omega) z2 hu w3.2.1 w7).1 q2
    obtain ⟨-, -, ⟨rh, wk, -, n1, -, n21, -⟩, -⟩ := id w7
    refine ⟨7, _, c_X12_format E _ R3 B (rh.ok wk z2) hE r3 N n1 z2, by decide, w'.o, fun _ _ q => q, fun v2 w2' q => ?_⟩
    obtain ⟨q, s3⟩ := q
    rcases q with ⟨s1, -⟩ | ⟨-, s1, s2⟩
    · exact absurd s1 (fun z => z.elim (fun z => z n21) rh.on)
    · rw [if_neg p1, show (61 : Int32) = nI 61 from rfl, pk_sub (by omega)] at s1
      have e93 := s3 93 rf_93
      refine ⟨nI (N - 61), rFmt R3 N, s1, s2, ?_, fun _ => ⟨_, e93.trans (by unfold va_up; exact if_pos rfl), ?_⟩, iN _ ⟨C', _, D, rFmt R3 N, _, q3.of (fun k hk => (s3 k (rf_cf hk)).trans (up93 (fun q => cf_93 (q ▸ hk)))), q8.dq w2, q8.au w3 q4 (fm_all (by omega) z2 w3.2.1 w6.2.2.2.2.1.1).1 q5, RW.mk s2, e93.trans (by unfold va_up; exact if_pos rfl), p2⟩⟩
      · rw [rFmt_e, rS_0, if_neg p1]
      · unfold vp_updL
        exact if_pos rfl
  · obtain ⟨q1, q2, C', q3, q4, q5, q8, q9⟩ := q
    refine ⟨1, by rw [q1]; rfl, ?_⟩
    have w' : RW E g R := w4.cg (fun k hk => q9 k (cf_rf hk))
    obtain ⟨R3, r3, fn⟩ := w'.rv
    have w7 := w6.fr fn
    obtain ⟨p1, p2⟩ := (fm_ref (by omega) z2 hu w3.2.1 w7).2 q2
    obtain ⟨-, -, ⟨rh, wk, -, n1, -, n21, -⟩, -⟩ := id w7
    refine ⟨7, _, c_X12_format E _ R3 B (rh.ok wk z2) hE r3 N n1 z2, by decide, w'.o, fun _ _ q => q, fun v2 w2' q => ?_⟩
    obtain ⟨q, s3⟩ := q
    rcases q with ⟨s1, -⟩ | ⟨-, s1, s2⟩
    · exact absurd s1 (fun z => z.elim (fun z => z n21) rh.on)
    · rw [if_pos p1] at s1
      refine ⟨0, rFmt R3 N, s1, s2, ?_, fun z => absurd z (by decide), iO _ ⟨C', _, D, rFmt R3 N, o, q3.of (fun k hk => s3 k (rf_cf hk)), q8.dq w2, q8.ax w3 q4 q5, RW.mk s2, (s3 93 rf_93).trans ((q9 93 cf_93).trans w5), p2⟩⟩
      rw [rFmt_e, rS_0, if_pos p1]
      rfl
end PXX12
