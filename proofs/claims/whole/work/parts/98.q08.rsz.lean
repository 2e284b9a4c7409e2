/-! ===== pure: resize ===== -/
section PYH
variable {N B gr r u : Nat} {V V' W : Nat → Rw} {m m' : M5} {tk tk' : Nat → Bool} {A A' : MS} {D D' D2 : CfT} {R R' : RfT} {ow : Nat → Int} {s0 : S3} {l : List Nat} {b i k s : Nat} {X : Nat → Prop}
/-- the state behind a new size -/
def Rsz (V W : Nat → Rw) (i s : Nat) : Prop := (∀ j, ir j → f1 W j 0 = f1 V j 0 ∧ f1 W j 1 = f1 V j 1 ∧ szM W j = if j = i then s else szM V j) ∧ (∀ d x, ir d → f1 V d 0 = 2 → x < szM V d / 16 → sln W d x = sln V d x) ∧ (∀ q, q < 4168 → q < bfM s → pv W i (px q) = pv V i (px q)) ∧ ∀ q, q < 4168 → q < bfM s → pv V i (px q) ≠ 0 → W (pv V i (px q)) = V (pv V i (px q))
theorem rsz_fld (hN1 : 61 ≤ N) (hi : ir i) (hk : f1 V i 0 = 1) (hw : WFs N V ow) (hs : s ≤ 400000) (hz : ∀ q, bfM s ≤ q → q < 4168 → pv V i (px q) = 0) : Rsz V (fldV V i 4 4 (nI s)) i s := by
  have hh := ir_home hi
  have hpv : ∀ j x, ir j → x < 4234 → pv (fldV V i 4 4 (nI s)) j x = pv V j x := fun j x hj hx => pv_fld hi.2 hi.1 hj.1 (by decide) (fun y hy _ => (hw.1.2.1 j y hj (by omega)).imp id (fun z => z.1)) x hx
  obtain ⟨f1, f2, f3, -⟩ := fld_s4 (V := V) hi (show s < 2 ^ 31 by omega)
  obtain ⟨w1, w2, w3, w4⟩ := hw.fc hi (fld_c (a := 4) (n := 4) (v := nI s) hi (by decide) (by decide)) (by rw [hk]; decide) (by rw [f3 i hi, if_pos rfl]; exact hs) (fun q q1 q2 => hz q (by rw [f3 i hi, if_pos rfl] at q1; exact q1) q2) (fun z => by rw [hk] at z; cases z)
  refine ⟨fun j hj => ⟨(f2 j hj).1, (f2 j hj).2, f3 j hj⟩, w3, fun q q1 _ => hpv i _ hi (px_lt q1), fun q q1 _ h0 => ?_⟩
  have := (hw.1.2.1 i _ hi (px_lt q1)).resolve_left h0
  exact fld_x (by omega)
theorem w_rsz (hN1 : 61 ≤ N) (hN : N ≤ 1024) (h : WK N B gr r s0 l A D R m V tk ow) (hi : ir i) (hk1 : f1 V i 0 = 1) (hs : s ≤ 400000) : ∃ A' D' R1 R' m' W tk' l2, d_X7_resize N A D (nI i) (nI s) = some (A', D') ∧ e_setField R (nI i) 4 4 (nI s) = some R1 ∧ (szM V i ≤ s → R' = R1) ∧ (s < szM V i → e_freeFrom R1 (nI i) (nI (bfM s)) = some R') ∧ l2.length ≤ 7 ∧ WK N B gr r s0 (l2 ++ l) A' D' R' m' W tk' ow ∧ gA A' = gA A ∧ Dt D D' ∧ Fn [33] [30, 31, 32, 35, 36, 43] R R' ∧ Rsz V W i s := by
  have hh := ir_home hi
  have hz := h.2.1.pz hi
  have hz1 := hz.1
  have bf : ∀ x y, x ≤ y → bfM x ≤ bfM y := fun x y hxy => by
    unfold bfM
    omega
  obtain ⟨s1, -⟩ := j_size (D2 := D) hN1 hN h.1 hi
  rw [d_X7_resize, bnd_o s1, bnd_o (d_bF (by omega))]
  by_cases c : s < szM V i
  · obtain ⟨A1, D1, n, A2, D2, A', D', R1, R', m', V', tk', a1, a2, a3, a4, a5, a6, a7, a8, a9, a10, a11, a12, a13, a14⟩ := w_shrink hN1 hN h hi hk1 c
    rw [if_neg (nI_ge c (by omega)), bnd_o (d_bF (by omega)), bnd3_o a1, bnd2_o a2, if_neg (fun z => by have := nI_inj (by omega) (by omega) z; omega), bnd2_o a3]
    have hk2 : f1 V' i 0 = 1 := by rw [(a11 i hi).1]; exact hk1
    have hw' : WFs N V' ow := (h.2.1.cut hN1 hN hi hk1 cX_cl a7).1
    obtain ⟨r1, r2, r3, r4⟩ := rsz_fld hN1 hi hk2 hw' hs a14
    have hpv : ∀ q, q < 4168 → q < bfM s → pv V' i (px q) = pv V i (px q) := fun q q1 q2 => by
      rw [a7.pvs h.2.1.1 hN1 hi cX_cl hi _ (px_lt q1), if_neg (fun z => by have := (cX_px q1).mp z.2; omega)]
    refine ⟨A', D', R1, R', m', _, tk', _, rfl, a4, fun z => by omega, fun _ => a5, ?_, by rw [← List.append_assoc] at a6; exact a6, a8, a9, a10, fun j hj => ⟨(r1 j hj).1.trans (a11 j hj).1, (r1 j hj).2.1.trans (a11 j hj).2.1, ?_⟩, fun d x hd hk hx => ?_, fun q q1 q2 => (r3 q q1 q2).trans (hpv q q1 q2), fun q q1 q2 h0 => ?_⟩
    · show 7 ≤ 7
      decide
    · rw [(r1 j hj).2.2, (a11 j hj).2.2]
    · rw [r2 d x hd (by rw [(a11 d hd).1]; exact hk) (by rw [(a11 d hd).2.2]; exact hx)]
      exact a12 d x hd hk hx
    · have e := r4 q q1 q2 (by rw [hpv q q1 q2]; exact h0)
      rw [hpv q q1 q2] at e
      rw [e]
      refine a7.blk h.2.1.1 hN1 hi hi (px_lt q1) h0 (fun z => ?_)
      rcases z.2 with z | z
      · have := (cX_px q1).mp z
        omega
      · exact px_tb z
  · rw [if_pos (nI_le (by omega) (by omega))]
    have hpz : ∀ q, bfM s ≤ q → q < 4168 → pv V i (px q) = 0 := fun q q1 q2 => hz.2 q (Nat.le_trans (bf _ _ (by omega)) q1) q2
    by_cases e : s = szM V i
    · obtain ⟨R1, c1, c2, c3⟩ := y_setField (a := 4) (n := 4) (v := nI s) hN1 hN h.1.2 hi.1 hi.2 (by decide) (by decide)
      have c1 : e_setField R (nI i) 4 4 (nI s) = some R1 := c1
      have c2 : RY N B gr R1 m (fldV V i 4 4 (nI s)) tk := c2
      have y1 : RY N B gr R1 m V tk := c2.ag hN1 (fun c d1 d2 => by
        by_cases ch : c = homeM i
        · rw [ch, e]
          exact fld_same hi (h.1.nr _ (by omega) (by omega)) (h.1.byt _ (by omega) (by omega)) (by omega)
        · exact fld_x ch)
      rw [if_pos (show nI s = nI (szM V i) by rw [e])]
      refine ⟨A, D, R1, R1, m, V, tk, [], rfl, c1, fun _ => rfl, fun z => absurd z c, by decide, ⟨⟨h.1.1, y1⟩, h.2.1, h.2.2.1, ⟨h.2.2.2.1.1, ww_field (a := 4) (n := 4) hN1 hN h.1.2.1 hi.1 hi.2 (by decide) (by decide) c1 h.2.2.2.1.2 (OkP.lo hh.2)⟩, h.2.2.2.2⟩, rfl, Dt.rf, c3.wk (by decide) (by decide), fun j hj => ⟨rfl, rfl, ?_⟩, fun _ _ _ _ _ => rfl, fun _ _ _ => rfl, fun _ _ _ _ => rfl⟩
      by_cases cj : j = i
      · rw [if_pos cj, cj, e]
      · rw [if_neg cj]
    · obtain ⟨A', D', R', a1, a2, a3, a4, a5, a6⟩ := w_size hN1 hN h hi hk1 hs hpz
      rw [if_neg (fun z => e (nI_inj (by omega) (by omega) z)), bnd2_o a1]
      exact ⟨A', D', R', R', m, _, tk, [homeM i], rfl, a2, fun _ => rfl, fun z => absurd z c, by show 1 ≤ 7; decide, a3, a4, a5, a6.wk (by decide) (by decide), rsz_fld hN1 hi hk1 h.2.1 hs hpz⟩
end PYH
