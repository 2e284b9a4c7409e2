/-! ===== pure: inodes go, inside a call ===== -/
section PXD
variable {N B gr r : Nat} {V V' W : Nat → Rw} {m m' : M5} {tk tk' : Nat → Bool} {i k : Nat} {ow : Nat → Int} {s0 : S3} {l : List Nat} {A : MS} {D : CfT} {R : RfT} {X : Nat → Prop}
theorem fb_cut {F : Nat → Prop} {y z : Rw} {rs : Nat → Nat} (h : ∀ b, b < N → (F b → btM y b = 1 ∧ rs b ≠ 2 ∧ btM z b = 0) ∧ (¬ F b → btM z b = btM y b)) : ∀ n, n ≤ N → rsC (rF F rs) 2 n + fbM y n = rsC rs 2 n + fbM z n
  | 0, _ => rfl
  | n + 1, hn => by
    have ih := fb_cut h n (by omega)
    show rsC (rF F rs) 2 n + (if rF F rs n = 2 then 1 else 0) + (fbM y n + (1 - btM y n)) = rsC rs 2 n + (if rs n = 2 then 1 else 0) + (fbM z n + (1 - btM z n))
    by_cases c : F n
    · obtain ⟨q1, q2, q3⟩ := (h n (by omega)).1 c
      rw [if_pos (rF_t c), q1, if_neg q2, q3]
      omega
    · have q := (h n (by omega)).2 c
      have e : rF F rs n = rs n := if_neg c
      rw [e, q]
      omega
theorem Bud.cut (h : Bud N B r m V) (hN1 : 61 ≤ N) (hN : N ≤ 1024) (hw : PW N V) (hi : ir i) (hcx : CX N A D m V tk) (hz : ZS N m V tk (FSx V i X) (ZSx V i X) m' V' tk') : Bud N B r m' V' := by
  obtain ⟨h1, h2, h3, h4, h5, h6⟩ := h
  have hF : ∀ b, FSx V i X b → 61 ≤ b ∧ b < N ∧ btM (V 43) b = 1 := fun b ⟨b0, x, x1, x2, x3⟩ => by
    have q := (hw.pto hi x x1).resolve_left (by rw [x3]; exact b0)
    rw [x3] at q
    exact q
  have q := fb_cut (N := N) (F := FSx V i X) (y := V 43) (z := V' 43) (rs := m.2.2.2.2) (fun b hb => ⟨fun z => ⟨(hF b z).2.2, by
    have := hcx.2.2.2.2.2.2 b hb (hF b z).2.2
    omega, (hz.2.2.2.2.2 b (by omega)).1 z⟩, fun z => (hz.2.2.2.2.2 b (by omega)).2 z⟩) N (Nat.le_refl _)
  rw [hz.1]
  refine ⟨h1, h2, h3, fun b hb => ?_, ?_, fun b hb => ?_⟩
  · show rF (FSx V i X) m.2.2.2.2 b < 3
    unfold rF
    split
    · decide
    · exact h4 b hb
  · show rsC (rF (FSx V i X) m.2.2.2.2) 2 N + r ≤ fbM (V' 43) N
    omega
  · show rF (FSx V i X) m.2.2.2.2 b = 0
    have e : rF (FSx V i X) m.2.2.2.2 b = m.2.2.2.2 b := if_neg (fun z => by have := (hF b z).2.1; omega)
    rw [e]
    exact h6 b hb
/-- what a cut changes -/
theorem Chg.cut (hz : ZS N m V tk (FSx V i X) (ZSx V i X) m' V' tk') {b : Nat} (h1 : 44 ≤ b) (h2 : b < N) (hc : Chg m' V' tk' b) : Chg m V tk b ∨ (¬ FSx V i X b ∧ ∃ x, x < 4234 ∧ X x ∧ pv V i x ≠ 0 ∧ ph V i x = b) := by
  have hbf : befM m' b = befM m b := by
    rw [hz.1]
    rfl
  by_cases c : FSx V i X b
  · rcases hc with z | z
    · rw [hz.2.1, tF_t c] at z
      cases z
    · rw [hbf] at z
      exact absurd ((hz.2.2.1 b h1 h2).1 c) z
  · by_cases e : ∃ x, x < 4234 ∧ X x ∧ pv V i x ≠ 0 ∧ ph V i x = b
    · exact Or.inr ⟨c, e⟩
    · refine Or.inl (hc.imp (fun z => ?_) (fun z => ?_))
      · rw [hz.2.1, tF_f c] at z
        exact z
      · rw [hbf] at z
        have q := (hz.2.2.1 b h1 h2).2 c
        have q2 : zr (V b) (ZSx V i X b) = V b := by
          funext o
          exact zr_f (fun ⟨x, x1, x2, x3, x4, x5⟩ => e ⟨x, x1, x2, x3, x4⟩)
        rw [q, q2] at z
        exact z
theorem gP_ok (hN1 : 61 ≤ N) (hw : PW N V) (hi : ir i) (s : St N B m V tk m' W tk') {b : Nat} (h : gP (OkP m' W) V i b) : OkP m' W b := by
  have hh := ir_home hi
  rcases h with h | h | ⟨x, x1, x2, x3⟩
  · exact h
  · exact OkP.lo (by omega)
  · by_cases c : x < 10
    · rw [ph_0 c] at x2
      exact OkP.lo (by omega)
    · rw [ph_hx (by omega) x1] at x2
      have hl := hx_lt x1
      exact OkP.st (Or.inr (Or.inl ⟨x3, i, hx x, hi, by omega, x2, Or.inl (hx_tbx x1)⟩)) s
/-- an inode without names goes -/
theorem w_goes (hN1 : 61 ≤ N) (hN : N ≤ 1024) (h : WK N B gr r s0 l A D R m V tk ow) (hi : ir i) (hi1 : i ≠ 1) (hn : nmC V i 65 = 0) (hs : f1 V i 0 = 2 → ∀ s, s < szM V i / 16 → sln V i s = 0) : ∃ A' D' R' m' W tk', d_X7_goes N A D (nI i) = some (A', D') ∧ e_removeInode R (nI i) = some R' ∧ WK N B gr r s0 ([43, 44, homeM i] ++ l) A' D' R' m' W tk' (fun j => if j = i then 0 else ow j) ∧ gA A' = gA A ∧ Dt D D' ∧ Fn [33] [30, 31, 32, 35, 36, 43] R R' ∧ (∀ j, ir j → j ≠ i → f1 W j 0 = f1 V j 0 ∧ f1 W j 1 = f1 V j 1 ∧ szM W j = szM V j ∧ ∀ x, x < 4234 → pv W j x = pv V j x) ∧ (∀ d s, ir d → d ≠ i → f1 V d 0 = 2 → s < szM V d / 16 → sln W d s = sln V d s) ∧ (∀ j, ir j → nmC W j 65 = nmC V j 65) ∧ f1 W i 0 = 0 ∧ f1 W i 1 = 0 := by
  have hh := ir_home hi
  have C : CutH N V i := ⟨hN1, hN, hi.1, hi.2, h.2.1.1.1, h.1.nr, h.2.1.1.pj hi⟩
  obtain ⟨A', D', R', m', V', tk', a1, a2, a3, a4, a5, a6, a7, a8⟩ := j_goes C h.1 (h.2.1.pz hi)
  obtain ⟨g1, g2, g3, g4, g5, g6, g7⟩ := h.2.1.gone hN1 hN hi hi1 a4 hn hs
  have st := St.gone (B := B) hN1 hN h.2.1 h.1.1.2.2.2.2.2.2 hi hi1 a4 hn hs
  refine ⟨A', D', R', m', rmV V' i, tk', a1, a2, ?_, a5, a6, a7, g2, g3, g4, g5, g6⟩
  refine h.chg hN1 a3 g1 ((h.2.2.1.cut hN1 hN h.2.1.1 hi h.1.1 a4).v (rm_x (by omega) (by decide))) st (fun o1 o2 => ?_) (fun b u1 u2 hc => ?_)
  · obtain ⟨w1, w2⟩ := a8 (OkP m' (rmV V' i)) (OkP.lo (by decide)) o1 o2
    exact ⟨w1.wk (fun b hb => gP_ok hN1 h.2.1.1 hi st hb), w2.wk (fun b hb => gP_ok hN1 h.2.1.1 hi st hb)⟩
  · by_cases c1 : b = 43
    · exact Or.inr (by rw [c1]; simp)
    · by_cases c2 : b = 44
      · exact Or.inr (by rw [c2]; simp)
      · by_cases c3 : b = homeM i
        · exact Or.inr (by rw [c3]; simp)
        · have hc : Chg m' V' tk' b := hc.imp id (fun z => by rw [rm_x c3 c2] at z; exact z)
          rcases Chg.cut a4 (by omega) u2 hc with q | ⟨q1, x, x1, x2, x3, x4⟩
          · exact Or.inl q
          · refine absurd ?_ q1
            by_cases cx : x < 10
            · rw [ph_0 cx] at x4
              exact absurd x4.symm c3
            · rw [ph_hx (by omega) x1] at x4
              have hl := hx_lt x1
              exact ⟨by omega, hx x, by omega, cX_all, x4⟩
theorem lk_c {v : Nat} (hi : ir i) (h : WFs N V ow) (hk : f1 V i 0 ≠ 0) (hv : v < 256) : (∀ j, ir j → f1 (fldV V i 1 1 (nI v)) j 0 = f1 V j 0 ∧ (f1 (fldV V i 1 1 (nI v)) j 1 = if j = i then v else f1 V j 1) ∧ szM (fldV V i 1 1 (nI v)) j = szM V j ∧ ∀ x, x < 4234 → pv (fldV V i 1 1 (nI v)) j x = pv V j x) ∧ (∀ d s, ir d → f1 V d 0 = 2 → s < szM V d / 16 → sln (fldV V i 1 1 (nI v)) d s = sln V d s) ∧ ∀ j, ir j → nmC (fldV V i 1 1 (nI v)) j 65 = nmC V j 65 := by
  have esz : szM (fldV V i 1 1 (nI v)) i = szM V i := fld_sz hi (by decide) (Or.inl (by decide))
  have hpz := h.pz hi
  obtain ⟨w1, w2, w3, w4⟩ := h.fc hi (fld_c (a := 1) (n := 1) (v := nI v) hi (by decide) (by decide)) hk (by rw [esz]; exact hpz.1) (fun q q1 q2 => hpz.2 q (by rw [esz] at q1; exact q1) q2) (fun _ => esz)
  refine ⟨fun j hj => ⟨(w2 j hj).1, ?_, ?_, (w2 j hj).2.1⟩, w3, w4⟩
  · by_cases c : j = i
    · rw [if_pos c, c]
      exact (h.links hi hk hv).2
    · rw [if_neg c]
      exact ((w2 j hj).2.2 c).1
  · by_cases c : j = i
    · rw [c]
      exact esz
    · exact ((w2 j hj).2.2 c).2
/-- an inode loses a name that was wiped -/
theorem w_lose {hd hi' : Nat → Nat} (hN1 : 61 ≤ N) (hN : N ≤ 1024) (h : WK N B gr r s0 l A D R m V tk ow) (hi : ir i) (hi1 : i ≠ 1) (hk : f1 V i 0 ≠ 0) (hr : HRel D R hd hi') (ho : ow i = 1) (hs : f1 V i 0 = 2 → ∀ s, s < szM V i / 16 → sln V i s = 0) : ∃ A' D' R' m' W tk', d_X7_loseName N A D (nI i) = some (A', D') ∧ e_lose R (nI i) = some R' ∧ WK N B gr r s0 ([43, 44, homeM i, homeM i] ++ l) A' D' R' m' W tk' (fun j => if j = i then 0 else ow j) ∧ gA A' = gA A ∧ Dt D D' ∧ Fn [33] [30, 31, 32, 35, 36, 43] R R' ∧ (∀ j, ir j → j ≠ i → f1 W j 0 = f1 V j 0 ∧ f1 W j 1 = f1 V j 1 ∧ szM W j = szM V j ∧ ∀ x, x < 4234 → pv W j x = pv V j x) ∧ (∀ d s, ir d → d ≠ i → f1 V d 0 = 2 → s < szM V d / 16 → sln W d s = sln V d s) ∧ (∀ j, ir j → nmC W j 65 = nmC V j 65) ∧ ((f1 W i 0 = f1 V i 0 ∧ f1 W i 1 = f1 V i 1 - 1 ∧ szM W i = szM V i ∧ (∀ s, f1 V i 0 = 2 → s < szM V i / 16 → sln W i s = sln V i s) ∧ ¬ (f1 V i 1 = 1 ∧ tmM hd hi' i = 0)) ∨ (f1 W i 0 = 0 ∧ f1 W i 1 = 0 ∧ tmM hd hi' i = 0)) := by
  have hh := ir_home hi
  have e8 := h.2.1.2.2.2.2.2.2.2 i hi
  rw [ho, if_neg hi1] at e8
  have hlt := f1_lt V i 1
  have hl : 1 ≤ f1 V i 1 := by omega
  have C : CutH N V i := ⟨hN1, hN, hi.1, hi.2, h.2.1.1.1, h.1.nr, h.2.1.1.pj hi⟩
  obtain ⟨A', D', R', a1, a2, a3, a4, a5, a6, a7⟩ := j_lose C h.1 (h.2.1.pz hi) hr hl
  obtain ⟨c1, c2, c3⟩ := lk_c (v := f1 V i 1 - 1) hi h.2.1 hk (by omega)
  have hpv : ∀ j x, ir j → x < 4234 → pv (fldV V i 1 1 (nI (f1 V i 1 - 1))) j x = pv V j x := fun j x hj hx => (c1 j hj).2.2.2 x hx
  have st1 : St N B m V tk m (fldV V i 1 1 (nI (f1 V i 1 - 1))) tk := St.same hpv (fun j hj => Or.inl (c1 j hj).1)
  have wf1 := (h.2.1.links (v := f1 V i 1 - 1) hi hk (by omega)).1
  have mem4 : ∀ b, b = 43 ∨ b = 44 ∨ b = homeM i → b ∈ [43, 44, homeM i, homeM i] := fun b z => by
    rcases z with z | z | z
    · rw [z]; simp
    · rw [z]; simp
    · rw [z]; simp
  rcases a7 with ⟨q1, q2⟩ | ⟨q1, m', V', tk', q2, q3⟩
  · refine ⟨A', D', R', m, _, tk, a1, a2, h.chg hN1 q2 (WFs.owe wf1 (fun j hj => ?_)) (h.2.2.1.v (fld_x (by omega))) st1 (fun o1 o2 => ?_) (fun b u1 u2 hc => ?_), a3, a4, a5, fun j hj hne => ?_, fun d s hd _ hk2 hs2 => c2 d s hd hk2 hs2, c3, Or.inl ?_⟩
    · by_cases c : j = i
      · rw [if_pos c, if_pos c, c, ho]
        omega
      · rw [if_neg c, if_neg c]
        omega
    · obtain ⟨w1, w2⟩ := a6 (OkP m (fldV V i 1 1 (nI (f1 V i 1 - 1)))) (OkP.lo (by decide)) o1 o2
      exact ⟨w1.wk (fun b hb => gP_ok hN1 h.2.1.1 hi st1 hb), w2.wk (fun b hb => gP_ok hN1 h.2.1.1 hi st1 hb)⟩
    · by_cases c : b = homeM i
      · exact Or.inr (mem4 b (Or.inr (Or.inr c)))
      · refine Or.inl (hc.imp id (fun z => ?_))
        rw [fld_x c] at z
        exact z
    · have := (c1 j hj)
      exact ⟨this.1, by rw [this.2.1, if_neg hne], this.2.2.1, this.2.2.2⟩
    · have := (c1 i hi)
      exact ⟨this.1, by rw [this.2.1, if_pos rfl], this.2.2.1, fun s hk2 hs2 => c2 i s hi hk2 hs2, q1⟩
  · have n0 : nmC (fldV V i 1 1 (nI (f1 V i 1 - 1))) i 65 = 0 := by
      rw [c3 i hi]
      omega
    have hs' : f1 (fldV V i 1 1 (nI (f1 V i 1 - 1))) i 0 = 2 → ∀ s, s < szM (fldV V i 1 1 (nI (f1 V i 1 - 1))) i / 16 → sln (fldV V i 1 1 (nI (f1 V i 1 - 1))) i s = 0 := fun z s hs2 => by
      rw [(c1 i hi).1] at z
      rw [(c1 i hi).2.2.1] at hs2
      rw [c2 i s hi z hs2]
      exact hs z s hs2
    obtain ⟨g1, g2, g3, g4, g5, g6, g7⟩ := wf1.gone hN1 hN hi hi1 q3 n0 hs'
    have e43 : fldV V i 1 1 (nI (f1 V i 1 - 1)) 43 = V 43 := fld_x (by omega)
    have st2 := St.gone (B := B) hN1 hN wf1 (by rw [e43]; exact h.1.1.2.2.2.2.2.2) hi hi1 q3 n0 hs'
    have hcx : CX N A D m V tk := h.1.1
    have bud1 : Bud N B r m (fldV V i 1 1 (nI (f1 V i 1 - 1))) := h.2.2.1.v (fld_x (by omega))
    obtain ⟨A1, D1, R1, j1, j2, j3, j4, j5, j6⟩ := j_setLinks (i := i) (v := nI (f1 V i 1 - 1)) hN1 hN h.1 hi.1 hi.2
    refine ⟨A', D', R', m', rmV V' i, tk', a1, a2, h.chg hN1 q2 (WFs.owe g1 (fun j hj => ?_)) ((bud1.cut hN1 hN wf1.1 hi j3.1 q3).v (rm_x (by omega) (by decide))) (st1.tr st2) (fun o1 o2 => ?_) (fun b u1 u2 hc => ?_), a3, a4, a5, fun j hj hne => ?_, fun d s hd hne hk2 hs2 => ?_, fun j hj => ?_, Or.inr ⟨g5, g6, q1.2⟩⟩
    · by_cases c : j = i
      · rw [if_pos c, if_pos c]
      · rw [if_neg c, if_neg c, if_neg c]
        omega
    · obtain ⟨w1, w2⟩ := a6 (OkP m' (rmV V' i)) (OkP.lo (by decide)) o1 o2
      exact ⟨w1.wk (fun b hb => gP_ok hN1 h.2.1.1 hi (st1.tr st2) hb), w2.wk (fun b hb => gP_ok hN1 h.2.1.1 hi (st1.tr st2) hb)⟩
    · by_cases e1 : b = 43
      · exact Or.inr (mem4 b (Or.inl e1))
      · by_cases e2 : b = 44
        · exact Or.inr (mem4 b (Or.inr (Or.inl e2)))
        · by_cases e3 : b = homeM i
          · exact Or.inr (mem4 b (Or.inr (Or.inr e3)))
          · have hc : Chg m' V' tk' b := hc.imp id (fun z => by rw [rm_x e3 e2] at z; exact z)
            rcases Chg.cut q3 (by omega) u2 hc with q | ⟨q1, x, x1, x2, x3, x4⟩
            · refine Or.inl (q.imp id (fun z => ?_))
              rw [fld_x e3] at z
              exact z
            · refine absurd ?_ q1
              by_cases cx : x < 10
              · rw [ph_0 cx] at x4
                exact absurd x4.symm e3
              · rw [ph_hx (by omega) x1] at x4
                have hl := hx_lt x1
                exact ⟨by omega, hx x, by omega, cX_all, x4⟩
    · have e := c1 j hj
      obtain ⟨k1, k2, k3, k4⟩ := g2 j hj hne
      exact ⟨by rw [k1]; exact e.1, by rw [k2, e.2.1, if_neg hne], by rw [k3]; exact e.2.2.1, fun x hx => by rw [k4 x hx]; exact e.2.2.2 x hx⟩
    · rw [g3 d s hd hne (by rw [(c1 d hd).1]; exact hk2) (by rw [(c1 d hd).2.2.1]; exact hs2)]
      exact c2 d s hd hk2 hs2
    · rw [g4 j hj]
      exact c3 j hj
end PXD
