/-! ===== pure: a file becomes shorter ===== -/
section PYF
variable {N B gr r u : Nat} {V V' W : Nat → Rw} {m m' : M5} {tk tk' : Nat → Bool} {A A' : MS} {D D' D2 : CfT} {R R' : RfT} {ow : Nat → Int} {s0 : S3} {l : List Nat} {b i k s : Nat} {X : Nat → Prop}
theorem zr_wB {y : Rw} {Z : Nat → Prop} {a n : Nat} {v : Int32} (hd : ∀ o, Z o → o < a ∨ a + n ≤ o) : nr (wB (zr y Z) a v n) = zr (nr (wB y a v n)) Z := by
  funext o
  by_cases c : Z o
  · rw [zr_t c]
    unfold nr
    split
    · rw [wB_out n (hd o c), zr_t c]
    · rfl
  · rw [zr_f c]
    unfold nr
    split
    · by_cases co : o < a ∨ a + n ≤ o
      · rw [wB_out n co, wB_out n co, zr_f c]
      · rw [show o = a + (o - a) by omega, wB_in n (by omega), wB_in n (by omega)]
    · rfl
/-- the size is set, and then it is cut: or the other way -/
theorem ZS.fld (h : ZS N m V tk (FSx V i X) (ZSx V i X) m' V' tk') (hw : PW N V) (hN1 : 61 ≤ N) (hi : ir i) {v : Int32} : ZS N m (fldV V i 4 4 v) tk (FSx (fldV V i 4 4 v) i X) (ZSx (fldV V i 4 4 v) i X) m' (fldV V' i 4 4 v) tk' := by
  have hh := ir_home hi
  have hpv : ∀ x, x < 4234 → pv (fldV V i 4 4 v) i x = pv V i x := pv_fld hi.2 hi.1 hi.1 (by decide) (fun y hy _ => (hw.2.1 i y hi (by omega)).imp id (fun z => z.1))
  have hph : ∀ x, x < 4234 → ph (fldV V i 4 4 v) i x = ph V i x := fun x hx => by
    by_cases c : x < 10
    · rw [ph_0 c, ph_0 c]
    · rw [ph_hx (by omega) hx, ph_hx (by omega) hx]
      exact hpv _ (by have := hx_lt hx; omega)
  have eF : FSx (fldV V i 4 4 v) i X = FSx V i X := by
    funext b
    apply propext
    constructor
    · rintro ⟨h0, x, x1, x2, x3⟩
      exact ⟨h0, x, x1, x2, by rw [← hpv x x1]; exact x3⟩
    · rintro ⟨h0, x, x1, x2, x3⟩
      exact ⟨h0, x, x1, x2, by rw [hpv x x1]; exact x3⟩
  have eZ : ZSx (fldV V i 4 4 v) i X = ZSx V i X := by
    funext c o
    apply propext
    constructor
    · rintro ⟨x, x1, x2, x3, x4, x5⟩
      exact ⟨x, x1, x2, by rw [← hpv x x1]; exact x3, by rw [← hph x x1]; exact x4, x5⟩
    · rintro ⟨x, x1, x2, x3, x4, x5⟩
      exact ⟨x, x1, x2, by rw [hpv x x1]; exact x3, by rw [hph x x1]; exact x4, x5⟩
  rw [eF, eZ]
  obtain ⟨a1, a2, a3, a4, a5, a6⟩ := h
  have n43 : (43 : Nat) ≠ homeM i := by omega
  refine ⟨a1, a2, fun c c1 c2 => ?_, by rw [fld_x n43]; exact a4, by rw [fld_x n43]; exact a5, fun b hb => by rw [fld_x n43, fld_x n43]; exact a6 b hb⟩
  obtain ⟨q1, q2⟩ := a3 c c1 c2
  by_cases ch : c = homeM i
  · subst ch
    have nF : ¬ FSx V i X (homeM i) := fun ⟨h0, x, x1, x2, x3⟩ => by
      have := (hw.2.1 i x hi x1).resolve_left (by rw [x3]; exact h0)
      rw [x3] at this
      omega
    refine ⟨fun z => absurd z nF, fun _ => ?_⟩
    show vU V' (homeM i) (nr (wB (V' (homeM i)) (startM i + 4) v 4)) (homeM i) = zr (vU V (homeM i) (nr (wB (V (homeM i)) (startM i + 4) v 4)) (homeM i)) _
    rw [vU_s, vU_s, q2 nF]
    refine zr_wB (fun o ⟨x, x1, x2, x3, x4, x5, x6⟩ => ?_)
    have hx10 : x < 10 := Classical.byContradiction (fun z => by
      rw [ph_hx (by omega) x1] at x4
      have h0 : pv V i (hx x) ≠ 0 := by rw [x4]; omega
      have := (hw.2.1 i (hx x) hi (by have := hx_lt x1; omega)).resolve_left h0
      rw [x4] at this
      omega)
    unfold po at x5 x6
    by_cases c8 : x < 8
    · rw [if_pos c8] at x5 x6
      omega
    · rw [if_neg c8] at x5 x6
      by_cases e8 : x = 8
      · rw [if_pos e8] at x5 x6
        omega
      · rw [if_neg e8, if_pos (show x = 9 by omega)] at x5 x6
        omega
  · rw [fld_x ch, fld_x ch]
    exact ⟨q1, q2⟩
/-- the rows that a cut leaves changed -/
def ctL (V : Nat → Rw) (i k : Nat) : List Nat := [43, 44, homeM i, pv V i 8, pv V i 9, pv V i (74 + (k - 72) / 64)]
theorem w_cutF (hN1 : 61 ≤ N) (hN : N ≤ 1024) (h : WK N B gr r s0 l A D R m V tk ow) (hi : ir i) (hk1 : f1 V i 0 = 1) (hk : k < 4168) : ∃ A1 D1 n A' D' R' m' V' tk', d_X7_cutBlocks N A D (nI i) (nI k) (nI (bfM (szM V i))) (nI k) = some (nI n, A1, D1) ∧ d_X7_cutTables N A1 D1 (nI i) (nI k) = some (A', D') ∧ e_freeFrom R (nI i) (nI k) = some R' ∧ WK N B gr r s0 (ctL V i k ++ l) A' D' R' m' V' tk' ow ∧ ZS N m V tk (FSx V i (cX k)) (ZSx V i (cX k)) m' V' tk' ∧ gA A' = gA A ∧ Dt D D' ∧ Fn [33] [30, 31, 32, 35, 36, 43] R R' ∧ (∀ j, ir j → f1 V' j 0 = f1 V j 0 ∧ f1 V' j 1 = f1 V j 1 ∧ szM V' j = szM V j) ∧ (∀ d s, ir d → f1 V d 0 = 2 → s < szM V d / 16 → sln V' d s = sln V d s) ∧ (∀ q, k ≤ q → q < 4168 → pv V' i (px q) = 0) := by
  have hh := ir_home hi
  have hz := h.2.1.pz hi
  have hbf : bfM (szM V i) < 2 ^ 30 := by
    have := hz.1
    unfold bfM
    omega
  have C : CutH N V i := ⟨hN1, hN, hi.1, hi.2, h.2.1.1.1, h.1.nr, h.2.1.1.pj hi⟩
  obtain ⟨A1, D1, n, A', D', R', m', V', tk', a1, a2, a3, a4, a5, a6, a7, a8, a9⟩ := j_cut (k := k) (e0 := bfM (szM V i)) C h.1 hz (by omega) (Nat.le_refl _) hbf
  obtain ⟨g1, g2, g3, g4⟩ := h.2.1.cut hN1 hN hi hk1 cX_cl a5
  have st := St.cut (B := B) hN1 h.2.1.1 h.1.1.2.2.2.2.2.2 hi cX_cl a5
  refine ⟨A1, D1, n, A', D', R', m', V', tk', a1, a2, a3, ?_, a5, a6, a7, a8, g2, g3, fun q q1 q2 => ?_⟩
  · refine h.chg hN1 a4 g1 (h.2.2.1.cut hN1 hN h.2.1.1 hi h.1.1 a5) st (fun o1 o2 => ?_) (fun b u1 u2 hc => ?_)
    · obtain ⟨w1, w2⟩ := a9 (OkP m' V') o1 o2
      exact ⟨w1.wk (fun b hb => gP_ok hN1 h.2.1.1 hi st hb), w2.wk (fun b hb => gP_ok hN1 h.2.1.1 hi st hb)⟩
    · by_cases c1 : b = 43
      · exact Or.inr (by rw [c1]; simp [ctL])
      · rcases Chg.cut a5 (by omega) u2 hc with q | ⟨q1, x, x1, x2, x3, x4⟩
        · exact Or.inl q
        · refine Or.inr ?_
          by_cases cx : x < 10
          · rw [ph_0 cx] at x4
            rw [← x4]
            simp [ctL]
          · by_cases cx1 : x < 74
            · rw [ph_1 (by omega) cx1] at x4
              rw [← x4]
              simp [ctL]
            · by_cases cx2 : x < 138
              · rw [ph_2 (by omega) cx2] at x4
                rw [← x4]
                simp [ctL]
              · rw [ph_3 (by omega) x1] at x4
                have k3 := (cX_3 (k := k) (show 138 ≤ x by omega)).mp x2
                have e : (x - 138) / 64 = (k - 72) / 64 := by
                  refine Classical.byContradiction (fun z => q1 ⟨by omega, 74 + (x - 138) / 64, by omega, (cX_2 (by omega) (by omega)).mpr (by omega), x4⟩)
                rw [e] at x4
                rw [← x4]
                simp [ctL]
  · rw [a5.pvs h.2.1.1 hN1 hi cX_cl hi _ (px_lt q2), if_pos ⟨rfl, (cX_px q2).mpr q1⟩]
end PYF
