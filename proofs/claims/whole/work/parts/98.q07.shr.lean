/-! ===== pure: the size of a file ===== -/
section PYG
variable {N B gr r u : Nat} {V V' W : Nat → Rw} {m m' : M5} {tk tk' : Nat → Bool} {A A' : MS} {D D' D2 : CfT} {R R' : RfT} {ow : Nat → Int} {s0 : S3} {l : List Nat} {b i k s : Nat} {X : Nat → Prop}
theorem byt_255 {x y : Int32} (hx : fits .byte (.int x) = true) (hy : fits .byte (.int y) = true) (h : x &&& 255 = y &&& 255) : x = y := by
  have key : ∀ z : Int32, (z &&& 255).toInt8 = z.toInt8 := fun z => by
    rw [Int32.toInt8_and]
    show z.toInt8 &&& (-1) = _
    exact Int8.and_neg_one
  rw [← byt_8 hx, ← byt_8 hy, ← key x, ← key y, h]
theorem ub_inj {y z : Rw} (hy : Byt y) (hz : Byt z) {o : Nat} (h : ub y o = ub z o) : y o = z o := by
  have e := ub_and y o
  have e2 := ub_and z o
  rw [h, ← e2] at e
  exact byt_255 (hy o) (hz o) e
theorem fld_same (hi : ir i) (hn : nr (V (homeM i)) = V (homeM i)) (hb : Byt (V (homeM i))) (hs : szM V i < 2 ^ 31) : fldV V i 4 4 (nI (szM V i)) (homeM i) = V (homeM i) := by
  have hst := startM_le i
  show vU V (homeM i) (nr (wB (V (homeM i)) (startM i + 4) (nI (szM V i)) 4)) (homeM i) = V (homeM i)
  rw [vU_s]
  have e4 := n4_i (y := V (homeM i)) (p := startM i + 4) (v := szM V i) (by omega) hs
  have e4 : n4 (nr (wB (V (homeM i)) (startM i + 4) (nI (szM V i)) 4)) (startM i + 4) = n4 (V (homeM i)) (startM i + 4) := e4
  have hbz : Byt (nr (wB (V (homeM i)) (startM i + 4) (nI (szM V i)) 4)) := byt_nr (hb.wB 4)
  have u := fun o => ub_lt (nr (wB (V (homeM i)) (startM i + 4) (nI (szM V i)) 4)) o
  have w := fun o => ub_lt (V (homeM i)) o
  have u0 := u (startM i + 4)
  have u1 := u (startM i + 4 + 1)
  have u2 := u (startM i + 4 + 2)
  have u3 := u (startM i + 4 + 2 + 1)
  have w0 := w (startM i + 4)
  have w1 := w (startM i + 4 + 1)
  have w2 := w (startM i + 4 + 2)
  have w3 := w (startM i + 4 + 2 + 1)
  funext o
  by_cases c : o < 128
  · by_cases co : o < startM i + 4 ∨ startM i + 4 + 4 ≤ o
    · show nr (wB (V (homeM i)) (startM i + 4) (nI (szM V i)) 4) o = _
      unfold nr
      rw [if_pos c, wB_out 4 co]
    · refine ub_inj hbz hb ?_
      unfold n4 n2 at e4
      have ho : o = startM i + 4 ∨ o = startM i + 4 + 1 ∨ o = startM i + 4 + 2 ∨ o = startM i + 4 + 2 + 1 := by omega
      rcases ho with rfl | rfl | rfl | rfl
      · omega
      · omega
      · omega
      · omega
  · rw [← hn]
    unfold nr
    rw [if_neg c, if_neg c]
theorem w_shrink (hN1 : 61 ≤ N) (hN : N ≤ 1024) (h : WK N B gr r s0 l A D R m V tk ow) (hi : ir i) (hk1 : f1 V i 0 = 1) (hs : s < szM V i) : ∃ A1 D1 n A2 D2 A' D' R1 R' m' V' tk', d_X7_cutBlocks N A D (nI i) (nI (bfM s)) (nI (bfM (szM V i))) (nI (bfM s)) = some (nI n, A1, D1) ∧ d_X7_cutTables N A1 D1 (nI i) (nI (bfM s)) = some (A2, D2) ∧ d_X7_setSize N A2 D2 (nI i) (nI s) = some (A', D') ∧ e_setField R (nI i) 4 4 (nI s) = some R1 ∧ e_freeFrom R1 (nI i) (nI (bfM s)) = some R' ∧ WK N B gr r s0 ([homeM i] ++ (ctL V i (bfM s) ++ l)) A' D' R' m' (fldV V' i 4 4 (nI s)) tk' ow ∧ ZS N m V tk (FSx V i (cX (bfM s))) (ZSx V i (cX (bfM s))) m' V' tk' ∧ gA A' = gA A ∧ Dt D D' ∧ Fn [33] [30, 31, 32, 35, 36, 43] R R' ∧ (∀ j, ir j → f1 V' j 0 = f1 V j 0 ∧ f1 V' j 1 = f1 V j 1 ∧ szM V' j = szM V j) ∧ (∀ d s, ir d → f1 V d 0 = 2 → s < szM V d / 16 → sln V' d s = sln V d s) ∧ PW N V' ∧ (∀ q, bfM s ≤ q → q < 4168 → pv V' i (px q) = 0) := by
  have hh := ir_home hi
  have hz := h.2.1.pz hi
  have hz1 := hz.1
  have hb4 : bfM s < 4168 := by
    unfold bfM
    omega
  obtain ⟨A1, D1, n, A2, D2, R2, m', V', tk', a1, a2, a3, a4, a5, a6, a7, a8, a9, a10, a11⟩ := w_cutF (k := bfM s) hN1 hN h hi hk1 hb4
  obtain ⟨A', D', R3, b1, b2, b3, b4, b5, b6⟩ := w_size (s := s) hN1 hN a4 hi (by rw [(a9 i hi).1]; exact hk1) (by omega) a11
  obtain ⟨R1, c1, c2, c3⟩ := y_setField (a := 4) (n := 4) (v := nI s) hN1 hN h.1.2 hi.1 hi.2 (by decide) (by decide)
  have c1 : e_setField R (nI i) 4 4 (nI s) = some R1 := c1
  have c2 : RY N B gr R1 m (fldV V i 4 4 (nI s)) tk := c2
  have hpv : ∀ j x, ir j → x < 4234 → pv (fldV V i 4 4 (nI s)) j x = pv V j x := fun j x hj hx => pv_fld hi.2 hi.1 hj.1 (by decide) (fun y hy _ => (h.2.1.1.2.1 j y hj (by omega)).imp id (fun z => z.1)) x hx
  have pw1 : PW N (fldV V i 4 4 (nI s)) := h.2.1.1.cg hpv (fld_x (by omega))
  have C1 : CutH N (fldV V i 4 4 (nI s)) i := ⟨hN1, hN, hi.1, hi.2, pw1.1, fun c d1 d2 => by
    rw [← (c2.1.2 c d1 d2).1]
    exact rSee_nr, pw1.pj hi⟩
  have zf := a5.fld (v := nI s) h.2.1.1 hN1 hi
  have st : St N B m V tk m' (fldV V' i 4 4 (nI s)) tk' := (St.cut (B := B) hN1 h.2.1.1 h.1.1.2.2.2.2.2.2 hi cX_cl a5).tr (St.same (fun j x hj hx => pv_fld hi.2 hi.1 hj.1 (by decide) (fun y hy _ => ((a5.pw h.2.1.1 hN1 hN hi cX_cl).2.1 j y hj (by omega)).imp id (fun z => z.1)) x hx) (fun j hj => Or.inl (fld_f1 hi.1 hj.1 (by decide) (by decide) (Or.inr (Or.inl (by decide))))))
  have ag : ∀ y : Rw, ∀ c, 43 ≤ c → c < N → fldV V i 4 4 (nI s) c = vU (fldV V i 4 4 (nI s)) 0 y c := fun y c h1 _ => (vU_n (by omega)).symm
  have o1 : OwR R (OkP m' (fldV V' i 4 4 (nI s))) := h.2.2.2.1.2.wk (fun _ z => z.st st)
  have o2 : OwR R1 (OkP m' (fldV V' i 4 4 (nI s))) := ww_field (a := 4) (n := 4) hN1 hN h.1.2.1 hi.1 hi.2 (by decide) (by decide) c1 o1 (OkP.lo hh.2)
  have o3 : OwR R1 (GH (vU (fldV V i 4 4 (nI s)) 0 (gI (OkP m' (fldV V' i 4 4 (nI s))))) i) := o2.wk (fun b hb => GH_g.mpr (Or.inl hb))
  obtain ⟨R', m2, V2, tk2, d1, ⟨d2, d2w⟩, d3, d4⟩ := y_freeFrom (k := bfM s) (CutH_g C1) (by omega) (c2.ag hN1 (ag _)) o3
  rw [FSx_g, ZSx_g] at d3
  have d3 := ZS_g d3
  obtain ⟨u1, u2, u3⟩ := d3.uq zf (fun _ => Iff.rfl) (fun _ _ _ _ _ _ => Iff.rfl) (fun c q1 q2 => C1.2.2.2.2.2.1 c (by omega) q2)
  subst u1
  subst u2
  have y2 : RY N B gr R' m2 (fldV V' i 4 4 (nI s)) tk2 := d2.ag hN1 u3
  have hpv2 : ∀ x, x < 4234 → ph (fldV V i 4 4 (nI s)) i x = ph V i x := fun x hx => by
    by_cases c : x < 10
    · rw [ph_0 c, ph_0 c]
    · rw [ph_hx (by omega) hx, ph_hx (by omega) hx]
      exact hpv i _ hi (by have := hx_lt hx; omega)
  have o4 : OwR R' (OkP m2 (fldV V' i 4 4 (nI s))) := d2w.wk (fun b hb => gP_ok hN1 h.2.1.1 hi st (by
    rcases GH_g.mp hb with q | q | ⟨x, x1, x2, x3⟩
    · exact Or.inl q
    · exact Or.inr (Or.inl q)
    · exact Or.inr (Or.inr ⟨x, x1, by rw [← hpv2 x x1]; exact x2, x3⟩)))
  exact ⟨A1, D1, n, A2, D2, A', D', R1, R', m2, V', tk2, a1, a2, b1, c1, d1, ⟨⟨b3.1.1, y2⟩, b3.2.1, b3.2.2.1, ⟨b3.2.2.2.1.1, o4⟩, b3.2.2.2.2⟩, a5, b4.trans a6, a7.tr b5, (c3.wk (by decide) (by decide)).tr d4, a9, a10, a5.pw h.2.1.1 hN1 hN hi cX_cl, a11⟩
end PYG
