/-! ===== pure: the blocks are there, the size is told ===== -/
section PYU
variable {N B gr r u : Nat} {V V1 V2 W : Nat → Rw} {m m1 m2 m' : M5} {tk tk1 tk2 tk' : Nat → Bool} {A A1 A2 A' : MS} {D D1 D2 D' : CfT} {R R1 R2 R' : RfT} {i p k a to s : Nat} {ow : Nat → Int} {s0 : S3} {l : List Nat}
def hvL (V : Nat → Rw) (i a to : Nat) : List Nat := [43, homeM i, pv V i 8, pv V i 9, pv V i (74 + (a - 72) / 64), pv V i (74 + (to - 72) / 64)]
theorem yB_hvL {b : Nat} (h17 : to - a < 17) (hto : to < 4168) (h : yB i false (yR a to) V b) : b ∈ hvL V i a to := by
  obtain ⟨-, x, x1, ⟨q, q1, q2, q3⟩, x3, x4⟩ := h
  have x3 : tbx x := x3.resolve_right (by decide)
  unfold hvL
  rcases q3 with z | ⟨z1, z⟩ | ⟨z1, z⟩
  · rw [z] at x3
    exact absurd x3 px_tb
  · have e : hx (px q) = 8 ∨ hx (px q) = 74 + (q - 72) / 64 := by
      by_cases c : q < 72
      · have e1 : px q = q + 2 := by
          unfold px
          rw [if_neg (by omega), if_pos c]
        rw [e1]
        unfold hx
        rw [if_pos (by omega)]
        exact Or.inl rfl
      · have e1 : px q = q + 66 := by
          unfold px
          rw [if_neg (by omega), if_neg c]
        rw [e1]
        unfold hx
        rw [if_neg (by omega), if_neg (by omega)]
        exact Or.inr (by omega)
    rcases e with e | e
    · rw [← x4, z, e]
      simp
    · have ee : (q - 72) / 64 = (a - 72) / 64 ∨ (q - 72) / 64 = (to - 72) / 64 := by omega
      rcases ee with ee | ee
      · rw [← x4, z, e, ee]
        simp
      · rw [← x4, z, e, ee]
        simp
  · rw [← x4, z]
    simp
theorem w_hvC {rr : Nat} (hN1 : 61 ≤ N) (h : WK N B gr rr s0 l A D R m V tk ow) (hv : HvR N B gr r i (yR a to) A D R m V tk A1 D1 R1 m1 V1 tk1) (hi : ir i) (hk : f1 V i 0 = 1) (hto : to < 4168) (h17 : to - a < 17) (hs : s ≤ 400000) (hz : ∀ q, bfM s ≤ q → q < 4168 → pv V1 i (px q) = 0) : WS N B r s0 (hvL V1 i a to ++ l) A1 R1 m1 (fldV V1 i 4 4 (nI s)) tk1 ow ∧ (∀ j, ir j → f1 (fldV V1 i 4 4 (nI s)) j 0 = f1 V j 0 ∧ f1 (fldV V1 i 4 4 (nI s)) j 1 = f1 V j 1 ∧ szM (fldV V1 i 4 4 (nI s)) j = if j = i then s else szM V j) ∧ (∀ j x, ir j → x < 4234 → pv (fldV V1 i 4 4 (nI s)) j x = pv V1 j x) ∧ (∀ d s2, ir d → f1 V d 0 = 2 → s2 < szM V d / 16 → sln (fldV V1 i 4 4 (nI s)) d s2 = sln V d s2) := by
  obtain ⟨⟨a1x, a1w, a1b⟩, a2, a3, a4, a5, a6, a7, a8, a9⟩ := hv
  have hh := ir_home hi
  obtain ⟨g1, g2, g3, g4, g5⟩ := h.2.1.growF hi hk a2 a1w hs hz rfl
  have st1 : St N B m V tk m1 V1 tk1 := St.grow hi (fun z => by rw [hk] at z; cases z) a2 a8 a7
  have st2 : St N B m1 V1 tk1 m1 (fldV V1 i 4 4 (nI s)) tk1 := St.same (fun j x hj hx => g3 j x hj hx) (fun j hj => Or.inl (by
    rw [(g2 j hj).1]
    exact (a2.2.1 j 0 hj (by decide)).symm))
  have w := a9 (OkP m1 (fldV V1 i 4 4 (nI s))) (OkP.lo (by decide)) (OkP.lo hh.2) (fun x x1 x2 x3 => Or.inr (Or.inl ⟨x3, i, x, hi, x1, g3 i x hi x1, Or.inl (x2.resolve_right (by decide))⟩)) (fun b hb => (h.2.2.2.1.1 b hb).st (st1.tr st2)) (h.2.2.2.1.2.wk (fun _ z => z.st (st1.tr st2)))
  refine ⟨⟨g1, a1b.v (fld_x (by omega)), w, h.2.2.2.2.1.tr (st1.tr st2), fun b u1 u2 hc => ?_⟩, g2, g3, g4⟩
  have key : Chg m V tk b ∨ b ∈ hvL V1 i a to := by
    by_cases c43 : b = 43
    · exact Or.inr (by rw [c43]; exact List.mem_cons_self ..)
    · by_cases ch : b = homeM i
      · exact Or.inr (by rw [ch]; exact List.mem_cons_of_mem _ (List.mem_cons_self ..))
      · have hbef := (a7.mr.bef hN1 h.2.2.1.1).2 b u1 u2
        rcases hc with hc | hc
        · rcases a8.2.2.2 b hc with z | z
          · exact Or.inl (Or.inl z)
          · exact Or.inr (yB_hvL h17 hto z)
        · rw [fld_x ch, hbef] at hc
          rcases a8.2.2.1 b (by omega) with z | z | z
          · rw [z] at hc
            exact Or.inl (Or.inr hc)
          · exact absurd z ch
          · exact Or.inr (yB_hvL h17 hto z)
  rcases key with z | z
  · exact (h.2.2.2.2.2 b u1 u2 z).imp id (fun q => List.mem_append_right _ q)
  · exact Or.inr (List.mem_append_left _ z)
/-- the size as the reference tells it -/
noncomputable def fV (i s : Nat) (gw : Bool) (X : Nat → Rw) : Nat → Rw := if gw = true then fldV X i 4 4 (nI s) else X
theorem fV_u {gw : Bool} {b : Nat} {x : Rw} {X : Nat → Rw} (hb : b ≠ homeM i) : fV i s gw (vU X b x) = vU (fV i s gw X) b x := by
  unfold fV
  cases gw with
  | false => rfl
  | true =>
    rw [if_pos rfl, if_pos rfl]
    unfold fldV
    rw [vU_n (Ne.symm hb)]
    funext c
    by_cases c1 : c = b
    · subst c1
      rw [vU_n hb, vU_s, vU_s]
    · rw [vU_n (b := b) c1]
      by_cases c2 : c = homeM i
      · rw [c2, vU_s, vU_s]
      · rw [vU_n c2, vU_n c2, vU_n c1]
theorem fV_x {gw : Bool} {c : Nat} {X : Nat → Rw} (hc : c ≠ homeM i) : fV i s gw X c = X c := by
  unfold fV
  cases gw with
  | false => rfl
  | true =>
    rw [if_pos rfl]
    exact fld_x hc
theorem fld_id (hi : ir i) (hn : nr (V (homeM i)) = V (homeM i)) (hb : Byt (V (homeM i))) (hs : szM V i < 2 ^ 31) : fldV V i 4 4 (nI (szM V i)) = V := by
  funext c
  by_cases cc : c = homeM i
  · rw [cc]
    exact fld_same hi hn hb hs
  · exact fld_x cc
/-- behind the blocks: the reference tells the size -/
theorem w_hv {rr e : Nat} (hN1 : 61 ≤ N) (hN : N ≤ 1024) (h : WK N B gr rr s0 l A D R m V tk ow) (hv : HvR N B gr r i (yR a to) A D R m V tk A1 D1 R1 m1 V1 tk1) (hi : ir i) (hk : f1 V i 0 = 1) (h17 : to - a < 17) (he : e ≤ 400000) (hto : to = (e - 1) / 128) (he1 : 1 ≤ e) (hae : a ≤ to) : ∃ gw R2, (gw = true → ¬ e ≤ szM V i) ∧ (gw = false → e ≤ szM V i) ∧ d_X7_size N (vA A1) D1 (nI i) = some (nI (szM V i)) ∧ e_size R1 (nI i) = some (nI (szM V i)) ∧ (gw = true → e_setField R1 (nI i) 4 4 (nI e) = some R2) ∧ (gw = false → R2 = R1) ∧ Fn [33] [30, 31, 32, 36, 43] R1 R2 ∧ RY N B gr R2 m1 (fV i e gw V1) tk1 ∧ WS N B r s0 (hvL V1 i a to ++ l) A1 R2 m1 (fV i e gw V1) tk1 ow ∧ (∀ j, ir j → f1 (fV i e gw V1) j 0 = f1 V j 0 ∧ f1 (fV i e gw V1) j 1 = f1 V j 1 ∧ szM (fV i e gw V1) j = if j = i then max (szM V i) e else szM V j) ∧ (∀ j x, ir j → x < 4234 → pv (fV i e gw V1) j x = pv V1 j x) ∧ (∀ d s2, ir d → f1 V d 0 = 2 → s2 < szM V d / 16 → sln (fV i e gw V1) d s2 = sln V d s2) := by
  have hto4 : to < 4168 := by omega
  obtain ⟨hz1, hz2⟩ := h.2.1.pz hi
  have hj := hv.1.1
  have esz : szM V1 i = szM V i := hv.2.1.sz hi
  have hh := ir_home hi
  have zz : ∀ s, max (szM V i) e ≤ s → ∀ q, bfM s ≤ q → q < 4168 → pv V1 i (px q) = 0 := fun s hs q q1 q2 => by
    have z0 := hz2 q (by unfold bfM at q1 ⊢; omega) q2
    rw [hv.2.1.1 i (px q) hi (px_lt q2) (Or.inr (Or.inr (fun ⟨q', w1, w2, w3⟩ => by
      have := pY_px (by omega) w3
      unfold bfM at q1
      omega)))]
    exact z0
  obtain ⟨s1, s2⟩ := j_size (D2 := D1) hN1 hN hj hi
  rw [esz] at s1 s2
  by_cases c : e ≤ szM V i
  · obtain ⟨w1, w2, w3, w4⟩ := w_hvC (s := szM V i) hN1 h hv hi hk hto4 h17 hz1 (zz _ (by omega))
    have ef : fldV V1 i 4 4 (nI (szM V i)) = V1 := by
      have := fld_id (V := V1) hi (hj.nr _ (by omega) (by omega)) (hj.byt _ (by omega) (by omega)) (by omega)
      rw [esz] at this
      exact this
    rw [ef] at w1 w2 w3 w4
    refine ⟨false, R1, (fun z => by cases z), fun _ => c, s1, s2, (fun z => by cases z), fun _ => rfl, Fn.rf, hj.2, w1, fun j hj2 => ?_, w3, w4⟩
    rw [show max (szM V i) e = szM V i by omega]
    exact w2 j hj2
  · obtain ⟨w1, w2, w3, w4⟩ := w_hvC (s := e) hN1 h hv hi hk hto4 h17 he (zz _ (by omega))
    obtain ⟨R2, c1, c2, c3⟩ := y_setField (a := 4) (n := 4) (v := nI e) hN1 hN hj.2 hi.1 hi.2 (by decide) (by decide)
    have c1 : e_setField R1 (nI i) 4 4 (nI e) = some R2 := c1
    refine ⟨true, R2, fun _ => c, (fun z => by cases z), s1, s2, fun _ => c1, (fun z => by cases z), c3, c2, ⟨w1.1, w1.2.1, ⟨w1.2.2.1.1, ?_⟩, w1.2.2.2⟩, fun j hj2 => ?_, w3, w4⟩
    · exact ww_field (a := 4) (n := 4) hN1 hN hj.2.1 hi.1 hi.2 (by decide) (by decide) c1 w1.2.2.1.2 (OkP.lo hh.2)
    · rw [show max (szM V i) e = e by omega]
      exact w2 j hj2
end PYU
