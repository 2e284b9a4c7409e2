/-! ===== mount, and no file system is there ===== -/
section PXX13
set_option maxRecDepth 100000 in
set_option maxHeartbeats 4000000 in
theorem c_mountBad2 (E : gE) (f : Nat → va_E) (tp : Nat → Int32) (fd : Nat) (mo : Int32) (N B : Nat) (on : Int32) (s : DbS) (q0 : Nat) (tc : Nat) (gp : Int32) (sc : Nat → Int32) (hE1 : 350 + 2 * N + B ≤ gN E) (hN : N ≤ 1024) (hN2 : 128 ≤ N) (hm : MnV E f tp fd mo) (hfd : fd ≤ 1024) (hs : DBV E f N B on s) (ho : dbOk N B q0 s) (hsc : f 31 = oB (gDA E) 128 sc) (hv : VwO E f tc gp) (hbad : mo = 0 → ¬ on = 0 → smV (hRow N sc) (dRead s.1 0) 0 0 128 = 0) : Ct E 7 yX11_mount cX11_mount 2 (some .int) [.ref (gAd E (0))] f (fun v g => False, fun X g => (X = "java/lang/IllegalStateException" ∧ f = g ∧ ¬ (mo = 0 ∧ ¬ on = 0)) ∨ (X = "java/lang/IllegalArgumentException" ∧ (mo = 0 ∧ ¬ on = 0) ∧ g 31 = oB (gDA E) 128 (hRow N sc) ∧ Fr ScK f g)) := by
  obtain ⟨m0, m1⟩ := id hm
  refine Ct.of (by decide) (Nat.le_of_ble_eq_true rfl) (fun sz => ?_)
  refine G.eql [(0, .ref (gAd E (0)))] rfl ?_
  refine G.go tv_X11_mount 1 1 [(0, .ref (gAd E (0)))] [.ref (gAd E (0))] rfl ?_
  refine G.callV (0) [] [] (c_X11_needUnmounted E f tp fd mo (by omega) hm hfd N s.1 on s.2.2.1 s.2.2.2.1 s.2.2.2.2 (by omega) hN hs.dk ho.d) cls_X11 (by omega) (m0) cw_X11_156 w_644 w_1 (Nat.le_of_ble_eq_true rfl) rfl (Nat.le_of_ble_eq_true rfl) (tbd tv_X11_mount rfl) (fun v1 f1 q1 => ?_) (fun X g h => Or.inl ⟨h.1, h.2.1, h.2.2⟩)
  obtain ⟨rfl, rfl, hm0, hon⟩ := q1
  refine G.eqs [] rfl ?_
  refine G.go tv_X11_mount 2 6 [(0, .ref (gAd E (0)))] [.ref (gAd E (0)), .ref (gAd E (0))] rfl ?_
  refine G.getf cls_X11 (0) 7 (by omega) (m0) (by decide) rfl (tbd tv_X11_mount rfl) w_570 ?_
  refine G.getf cls_X10 (25) 10 (by omega) (hv) (by decide) rfl (tbd tv_X11_mount rfl) w_421 ?_
  refine G.callV (0) [.ref (gAd E (31))] [] (c_X11_headRow E _ tp fd mo (by omega) N s.1 on s.2.2.1 s.2.2.2.1 s.2.2.2.2 hN m0 hs.dk.o sc hsc) cls_X11 (by omega) (m0) cw_X11_181 w_811 w_11 (Nat.le_of_ble_eq_true rfl) rfl (Nat.le_of_ble_eq_true rfl) (tbd tv_X11_mount rfl) (fun v2 f2 q2 => ?_) (fun _ _ h => h.elim)
  obtain ⟨rfl, hu2, hf2⟩ := q2
  refine G.eqs [] rfl ?_
  have hs9 : DBV E f2 N B on s := hs.of (fun k hk => hf2 k (ScK_LDB (Or.inl hk)))
  refine G.go tv_X11_mount 1 16 [(0, .ref (gAd E (0)))] [.ref (gAd E (0))] rfl ?_
  refine G.getf cls_X11 (0) 7 (by omega) ((hf2 0 (by show ¬ _ = _; decide)).trans m0) (by decide) rfl (tbd tv_X11_mount rfl) w_570 ?_
  refine G.getf cls_X10 (25) 10 (by omega) ((hf2 25 (by show ¬ _ = _; decide)).trans hv) (by decide) rfl (tbd tv_X11_mount rfl) w_421 ?_
  refine G.go tv_X11_mount 1 23 [(0, .ref (gAd E (0)))] [.ref (gAd E (0)), .ref (gAd E (31))] rfl ?_
  refine G.getf cls_X11 (0) 3 (by omega) ((hf2 0 (by show ¬ _ = _; decide)).trans m0) (by decide) rfl (tbd tv_X11_mount rfl) w_566 ?_
  refine G.go tv_X11_mount 1 27 [(0, .ref (gAd E (0)))] [.int ((0 : Int32)), .ref (gAd E (2)), .ref (gAd E (31))] rfl ?_
  refine G.eqs [.int (nI 0), .ref (gAd E (2)), .ref (gAd E (31))] rfl ?_
  refine G.callV (2) [.int (nI 0)] [.ref (gAd E (31))] (c_row E _ N s.1 on s.2.2.1 s.2.2.2.1 s.2.2.2.2 (by omega) hN hs9.dk ho.d 0 (by omega)) cls_X2 (by omega) (hs9.dk.o) cw_X11_193 w_801 w_802 (Nat.le_of_ble_eq_true rfl) rfl (Nat.le_of_ble_eq_true rfl) (tbd tv_X11_mount rfl) (fun v3 f3 q3 => ?_) (fun _ _ h => h.elim)
  obtain ⟨kk, rfl, rfl, hkk, hkd, hke⟩ := q3
  refine G.eqs [.ref (gAd E (kk)), .ref (gAd E (31))] rfl ?_
  refine G.callS [.ref (gAd E (31)), .ref (gAd E (kk))] [] (c_X2_same E _ 31 kk (hRow N sc) (dRead s.1 0) (by omega) hkk hu2 hke) cw_X11_197 w_826 (Nat.le_of_ble_eq_true rfl) rfl (Nat.le_of_ble_eq_true rfl) (tbd tv_X11_mount rfl) (fun v4 f4 q4 => ?_) (fun _ _ h => h.elim)
  obtain ⟨rfl, rfl⟩ := q4
  refine G.eqs [.int (smV (hRow N sc) (dRead s.1 0) 0 0 128)] rfl ?_
  refine G.eqs [.int (0 : Int32)] (by rw [hbad hm0 hon]) ?_
  refine G.if_ne 46 (tbd tv_X11_mount rfl) (by decide) (fun c33 => absurd (by decide) c33) (fun c33 => ?_)
  exact G.thr (cls := "java/lang/IllegalArgumentException") (text := "no file system") (names := ["java/lang/RuntimeException", "java/lang/Exception"]) (by decide +kernel) (by decide +kernel) w_828 w_168 (own := "LedgerFiles") rfl (by decide +kernel) (by decide +kernel) at_X11_205 (tbd tv_X11_mount rfl) (tbd tv_X11_mount rfl) (tbd tv_X11_mount rfl) (tbd tv_X11_mount rfl) (tbd tv_X11_mount rfl) (Nat.le_of_ble_eq_true rfl) (Nat.le_of_ble_eq_true rfl) (Or.inr ⟨rfl, ⟨hm0, hon⟩, hu2, hf2⟩)

variable {E : gE} {f g : Nat → va_E} {N B gr u : Nat} {A : MS} {C C' D : CfT} {R : RfT} {Inv : (Nat → va_E) → Prop}
theorem nr_ne {x y : Nat → Int32} (h : nr x ≠ nr y) : ∃ i, i < 128 ∧ ¬ x i = y i := Classical.byContradiction (fun z => h (nr_eq (fun i hi => Classical.byContradiction (fun q => z ⟨i, hi, q⟩))))
theorem sm_ne {x y : Nat → Int32} (h : nr x ≠ nr y) : smV x y 0 0 128 = 0 := by
  obtain ⟨i, hi, q⟩ := nr_ne h
  exact smV_at (i := i) (by rw [Nat.zero_add]; exact q) 128 hi
theorem hRow_n {x : Nat → Int32} : nr (hRow N x) = mH00 N := by
  unfold mH00 hRow
  exact (((((Eb_z (g := x)).four).two).up1).up1 : Eb 128 _ _).row
theorem Und.a44 {x : Nat → Int32} (h : Und N B gr u A D R) (hx : Byt x) : Und N B gr u A D (setA R 44 x) := by
  obtain ⟨t1, t2, ⟨r1, r2, r3, r4, r5, r6, r7⟩, t4⟩ := h
  have f4 : Fq [] [44] R (setA R 44 x) := Fq.a (by decide)
  exact ⟨t1.dt Dt.rf f4 (by decide) (by decide), t2, ⟨r1.a44 hx, r2.fq f4 (by decide) (by decide) (by decide) (by decide) (by decide), r3.fq f4 (by decide) (by decide) (by decide) (by decide) (by decide), r4, r5, r6, r7⟩, t4⟩
theorem n_mountBad (hz : CfZ E N B gr) (hE : 94 ≤ gN E) (hu : u < 2 ^ 31) (w1 : CfV E f N B gr C) (w2 : Dq D C) (w3 : AU N B gr A C) (w4 : RW E f R) {o : Nat → Int64} (w5 : f 93 = oJ (gDA E) 1 o) (w6 : Und N B gr u A D R) (hbad : hSee A.1 0 ≠ mH00 N) (iN : ∀ g, Wn E N B gr u g → Inv g) : CsI E f yX11_mount cX11_mount 2 yX12_mount cX12_mount 6 [] [xI, xU, xA] Inv := by
  obtain ⟨z1, z2, z3, z4, z5, z6, z7⟩ := id hz
  obtain ⟨⟨tp, tl, -, t4, t5, t6, -⟩, t2, -, qu, ⟨-, t7⟩, ⟨⟨tn, tc, ti1, ti2, -⟩, -⟩⟩ := id w6
  have c1 : cS C 1 = nI tl := w2.s1.trans t4
  have c2 : cS C 2 = 0 := (w2.1 2 (Or.inl (by decide))).trans t2
  have c8 : cS C 2508 = nI tn := (w2.1 2508 (Or.inr rfl)).trans ti2
  have mn := w1.mn c1
  rw [c2] at mn
  have hdb := w1.db w3.1.1
  rw [w3.1.2.2] at hdb
  have hv : VwO E f tn (cS C 2511) := by
    show f 25 = _
    rw [w1.q25, c8]
  have e0 : nr (dRead (dkOf C) 0) = hSee A.1 0 := w3.1.qrd z2 qu (by omega)
  have hc : smV (hRow N (cA C 31)) (dRead (dkOf C) 0) 0 0 128 = 0 := sm_ne (by rw [hRow_n, e0]; exact fun z => hbad z.symm)
  refine ⟨7, _, c_mountBad2 E f (cA C 1) tl 0 N B 1 (dbOf C) 0 tn (cS C 2511) (cA C 31) (by omega) z2 (by omega) mn t6 hdb (w3.1.2.1.ok (by unfold hSp at t7; omega)) w1.q31 hv (fun _ _ => hc), by decide, ⟨_, w1.1⟩, fun v g q => q.elim, fun X g q => ?_⟩
  rcases q with ⟨-, -, q⟩ | ⟨q1, -, q2, q3⟩
  · exact absurd ⟨rfl, by decide⟩ q
  refine ⟨2, by rw [q1]; rfl, ?_⟩
  have hcf : CfV E g N B gr (sA C 31 (hRow N (cA C 31))) := (w1.p31 (hRow N (cA C 31))).of (fun k hk => by
    by_cases c : k = 31
    · rw [c, up_e]
      exact q2
    · rw [up_n c rfl]
      exact q3 k c)
  have q9 : Fr CfK f g := fun k hk => q3 k (fun e => hk (by rw [show k = 31 from e]; exact Or.inl (by decide)))
  have w' : RW E g R := w4.cg (fun k hk => q9 k (cf_rf hk))
  obtain ⟨R3, r3, fn⟩ := w'.rv
  have w7 := w6.fr fn
  obtain ⟨-, -, ⟨rh, wk, -, n1, -, n21, -⟩, -⟩ := id w7
  have rh0 : RH N B A.1 (setS R3 0 0) := rh.s (by decide)
  have bh : Byt (rHdO (setS R3 0 0)) := stV_b (stV_b (stV_b (stV_b (Byt_flt rh0.b44 rfl) _) _) _) _
  have rh1 : RH N B A.1 (rHd (setS R3 0 0)) := rh0.a44 bh
  have er : nr (rRd (rHd (setS R3 0 0)) 0) = hSee A.1 0 := by
    obtain ⟨wf, w, d, -⟩ := rh1
    rw [d.read z2 (by omega), hSee_n (qu.2 0 (by omega))]
  have hd : smV (rRd (rHd (setS R3 0 0)) 0) (rHdO (setS R3 0 0)) 0 0 128 = 0 := sm_ne (by rw [er, rHd_m (show rS (setS R3 0 0) 1 = nI N from n1)]; exact hbad)
  refine ⟨3, _, c_X12_mountBad E _ R3 B (rh.ok wk z2) hE r3 (fun _ _ => hd), by decide, w'.o, fun _ _ q => q, fun v2 w2' q => ?_⟩
  obtain ⟨q, s3⟩ := q
  rcases q with ⟨s1, -⟩ | ⟨-, s1, s2⟩
  · exact absurd s1 (fun z => z.elim (fun z => z n21) rh.on)
  have w8 : Und N B gr u A D (rHd (setS R3 0 0)) := (w7.fr (Fn.s (by decide))).a44 bh
  have w9 : Und N B gr u A D (setS (setA (rHd (setS R3 0 0)) 43 (rRd (rHd (setS R3 0 0)) 0)) 0 3) := (w8.fr (Fn.a (by decide))).fr (Fn.s (by decide))
  refine ⟨0, _, s1, s2, rS_0, fun z => absurd z (by decide), iN _ ⟨sA C 31 (hRow N (cA C 31)), A, D, _, o, hcf.of (fun k hk => s3 k (rf_cf hk)), Sx.rf.row.dq w2, Sx.rf.row.au w3 (w3.1.sm (Sm.a (L := [3]) (by decide)) (by decide)) w3.2.1 w3.2.2.1, RW.mk s2, (s3 93 rf_93).trans ((q9 93 cf_93).trans w5), w9⟩⟩
end PXX13
