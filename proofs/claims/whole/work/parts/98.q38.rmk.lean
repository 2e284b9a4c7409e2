/-! ===== pure: a name goes, inside a call ===== -/
section PZL
variable {N B gr r u : Nat} {V W : Nat → Rw} {m : M5} {tk : Nat → Bool} {i d s : Nat} {ow : Nat → Int} {s0 : S3} {l l0 : List Nat} {A : MS} {D : CfT} {R : RfT} {hd hi : Nat → Nat}
theorem w_loseR {hd hi' : Nat → Nat} (hN1 : 61 ≤ N) (hN : N ≤ 1024) (h : WK N B gr r s0 l A D R m V tk ow) (hi : ir i) (hi1 : i ≠ 1) (hk : f1 V i 0 ≠ 0) (hr : HRel D R hd hi') (ho : ow i = 1) (hs : f1 V i 0 = 2 → ∀ s, s < szM V i / 16 → sln V i s = 0) : ∃ A' D' R' m' W tk', d_X7_loseName N A D (nI i) = some (A', D') ∧ e_lose R (nI i) = some R' ∧ WK N B gr r s0 ([43, 44, homeM i, homeM i] ++ l) A' D' R' m' W tk' (fun j => if j = i then 0 else ow j) ∧ gA A' = gA A ∧ Dt D D' ∧ Fn [33] [30, 31, 32, 35, 36, 43] R R' ∧ (∀ j, ir j → j ≠ i → f1 W j 0 = f1 V j 0 ∧ f1 W j 1 = f1 V j 1 ∧ szM W j = szM V j ∧ ∀ x, x < 4234 → pv W j x = pv V j x) ∧ (∀ d s, ir d → d ≠ i → f1 V d 0 = 2 → s < szM V d / 16 → sln W d s = sln V d s) ∧ (∀ j, ir j → nmC W j 65 = nmC V j 65) ∧ ((f1 W i 0 = f1 V i 0 ∧ f1 W i 1 = f1 V i 1 - 1 ∧ szM W i = szM V i ∧ (∀ s, f1 V i 0 = 2 → s < szM V i / 16 → sln W i s = sln V i s) ∧ ¬ (f1 V i 1 = 1 ∧ tmM hd hi' i = 0)) ∨ (f1 W i 0 = 0 ∧ f1 W i 1 = 0 ∧ tmM hd hi' i = 0)) ∧ (∀ d x, ir d → d ≠ i → x < 4234 → pv V d x ≠ 0 → W (pv V d x) = V (pv V d x)) := by
  have hh := ir_home hi
  have e8 := h.2.1.2.2.2.2.2.2.2 i hi
  rw [ho, if_neg hi1] at e8
  have hlt := f1_lt V i 1
  have hl : 1 ≤ f1 V i 1 := by omega
  have C : CutH N V i := ⟨hN1, hN, hi.1, hi.2, h.2.1.1.1, h.1.nr, h.2.1.1.pj hi⟩
  obtain ⟨A', D', R', a1, a2, a3, a4, a5, a6, a7⟩ := j_lose C h.1 (h.2.1.pz hi) hr hl
  obtain ⟨c1, c2, c3⟩ := lk_c (v := f1 V i 1 - 1) hi h.2.1 hk (by omega)
  have hpv : ∀ j x, ir j → x < 4234 → pv (fldV V i 1 1 (nI (f1 V i 1 - 1))) j x = pv V j x := fun j x hj hx => (c1 j hj).2.2.2 x hx
  have st1 : St N B m V tk m (fldV V i 1 1 (nI (f1 V i 1 - 1))) tk := St.same hpv (fun j hj => Or.inl (c1 j hj).1)
  have wf1 := (h.2.1.links (v := f1 V i 1 - 1) hi hk (by omega)).1
  have mem4 : ∀ b, b = 43 ∨ b = 44 ∨ b = homeM i → b ∈ [43, 44, homeM i, homeM i] := fun b z => by
    rcases z with z | z | z
    · rw [z]; simp
    · rw [z]; simp
    · rw [z]; simp
  rcases a7 with ⟨q1, q2⟩ | ⟨q1, m', V', tk', q2, q3⟩
  · refine ⟨A', D', R', m, _, tk, a1, a2, h.chg hN1 q2 (WFs.owe wf1 (fun j hj => ?_)) (h.2.2.1.v (fld_x (by omega))) st1 (fun o1 o2 => ?_) (fun b u1 u2 hc => ?_), a3, a4, a5, fun j hj hne => ?_, fun d s hd _ hk2 hs2 => c2 d s hd hk2 hs2, c3, Or.inl ?_, fun d x hd _ hx h0 => fld_x (fun z => by have := (h.2.1.1.2.1 d x hd hx).resolve_left h0; omega)⟩
    · by_cases c : j = i
      · rw [if_pos c, if_pos c, c, ho]
        omega
      · rw [if_neg c, if_neg c]
        omega
    · obtain ⟨w1, w2⟩ := a6 (OkP m (fldV V i 1 1 (nI (f1 V i 1 - 1)))) (OkP.lo (by decide)) o1 o2
      exact ⟨w1.wk (fun b hb => gP_ok hN1 h.2.1.1 hi st1 hb), w2.wk (fun b hb => gP_ok hN1 h.2.1.1 hi st1 hb)⟩
    · by_cases c : b = homeM i
      · exact Or.inr (mem4 b (Or.inr (Or.inr c)))
      · refine Or.inl (hc.imp id (fun z => ?_))
        rw [fld_x c] at z
        exact z
    · have := (c1 j hj)
      exact ⟨this.1, by rw [this.2.1, if_neg hne], this.2.2.1, this.2.2.2⟩
    · have := (c1 i hi)
      exact ⟨this.1, by rw [this.2.1, if_pos rfl], this.2.2.1, fun s hk2 hs2 => c2 i s hi hk2 hs2, q1⟩
  · have n0 : nmC (fldV V i 1 1 (nI (f1 V i 1 - 1))) i 65 = 0 := by
      rw [c3 i hi]
      omega
    have hs' : f1 (fldV V i 1 1 (nI (f1 V i 1 - 1))) i 0 = 2 → ∀ s, s < szM (fldV V i 1 1 (nI (f1 V i 1 - 1))) i / 16 → sln (fldV V i 1 1 (nI (f1 V i 1 - 1))) i s = 0 := fun z s hs2 => by
      rw [(c1 i hi).1] at z
      rw [(c1 i hi).2.2.1] at hs2
      rw [c2 i s hi z hs2]
      exact hs z s hs2
    obtain ⟨g1, g2, g3, g4, g5, g6, g7⟩ := wf1.gone hN1 hN hi hi1 q3 n0 hs'
    have e43 : fldV V i 1 1 (nI (f1 V i 1 - 1)) 43 = V 43 := fld_x (by omega)
    have st2 := St.gone (B := B) hN1 hN wf1 (by rw [e43]; exact h.1.1.2.2.2.2.2.2) hi hi1 q3 n0 hs'
    have hcx : CX N A D m V tk := h.1.1
    have bud1 : Bud N B r m (fldV V i 1 1 (nI (f1 V i 1 - 1))) := h.2.2.1.v (fld_x (by omega))
    obtain ⟨A1, D1, R1, j1, j2, j3, j4, j5, j6⟩ := j_setLinks (i := i) (v := nI (f1 V i 1 - 1)) hN1 hN h.1 hi.1 hi.2
    refine ⟨A', D', R', m', rmV V' i, tk', a1, a2, h.chg hN1 q2 (WFs.owe g1 (fun j hj => ?_)) ((bud1.cut hN1 hN wf1.1 hi j3.1 q3).v (rm_x (by omega) (by decide))) (st1.tr st2) (fun o1 o2 => ?_) (fun b u1 u2 hc => ?_), a3, a4, a5, fun j hj hne => ?_, fun d s hd hne hk2 hs2 => ?_, fun j hj => ?_, Or.inr ⟨g5, g6, q1.2⟩, fun d x hd hne hx h0 => ?_⟩
    · by_cases c : j = i
      · rw [if_pos c, if_pos c]
      · rw [if_neg c, if_neg c, if_neg c]
        omega
    · obtain ⟨w1, w2⟩ := a6 (OkP m' (rmV V' i)) (OkP.lo (by decide)) o1 o2
      exact ⟨w1.wk (fun b hb => gP_ok hN1 h.2.1.1 hi (st1.tr st2) hb), w2.wk (fun b hb => gP_ok hN1 h.2.1.1 hi (st1.tr st2) hb)⟩
    · by_cases e1 : b = 43
      · exact Or.inr (mem4 b (Or.inl e1))
      · by_cases e2 : b = 44
        · exact Or.inr (mem4 b (Or.inr (Or.inl e2)))
        · by_cases e3 : b = homeM i
          · exact Or.inr (mem4 b (Or.inr (Or.inr e3)))
          · have hc : Chg m' V' tk' b := hc.imp id (fun z => by rw [rm_x e3 e2] at z; exact z)
            rcases Chg.cut q3 (by omega) u2 hc with q | ⟨q1, x, x1, x2, x3, x4⟩
            · refine Or.inl (q.imp id (fun z => ?_))
              rw [fld_x e3] at z
              exact z
            · refine absurd ?_ q1
              by_cases cx : x < 10
              · rw [ph_0 cx] at x4
                exact absurd x4.symm e3
              · rw [ph_hx (by omega) x1] at x4
                have hl := hx_lt x1
                exact ⟨by omega, hx x, by omega, cX_all, x4⟩
    · have e := c1 j hj
      obtain ⟨k1, k2, k3, k4⟩ := g2 j hj hne
      exact ⟨by rw [k1]; exact e.1, by rw [k2, e.2.1, if_neg hne], by rw [k3]; exact e.2.2.1, fun x hx => by rw [k4 x hx]; exact e.2.2.2 x hx⟩
    · rw [g3 d s hd hne (by rw [(c1 d hd).1]; exact hk2) (by rw [(c1 d hd).2.2.1]; exact hs2)]
      exact c2 d s hd hk2 hs2
    · rw [g4 j hj]
      exact c3 j hj
    · have hb := (h.2.1.1.2.1 d x hd hx).resolve_left h0
      have apart : ∀ y, y < 4234 → pv (fldV V i 1 1 (nI (f1 V i 1 - 1))) i y ≠ pv V d x := fun y hy z => by
        rw [(c1 i hi).2.2.2 y hy] at z
        exact hne (h.2.1.1.2.2.1 d x i y hd hx hi hy h0 z.symm).1
      have nF : ¬ FSx (fldV V i 1 1 (nI (f1 V i 1 - 1))) i (cX 0) (pv V d x) := fun ⟨_, y, y1, _, y3⟩ => apart y y1 y3
      rw [rm_x (by omega) (by omega), (q3.2.2.1 _ (by omega) hb.2).2 nF, fld_x (by omega)]
      funext o
      refine zr_f (fun ⟨y, y1, _, y3, y4, _⟩ => ?_)
      by_cases cx : y < 10
      · rw [ph_0 cx] at y4
        omega
      · rw [ph_hx (by omega) y1] at y4
        exact apart _ (by have := hx_lt y1; omega) y4
theorem w_rmK {t : Nat} (hN1 : 61 ≤ N) (hN : N ≤ 1024) (h : WK N B gr r s0 l0 A D R m V tk (fun _ => 0)) (hV : WF N V) (hR : HRel D R hd hi) (hH : HdW V hd hi) (hdd : Fnd V d) (hk : f1 V d 0 = 2) (hs : s < szM V d / 16) (hst : sln V d s = t) (ht0 : t ≠ 0) (hem : f1 V t 0 = 2 → ∀ s, s < szM V t / 16 → sln V t s = 0) : ∃ A1 D1 R1 A' D' R' m' W tk' l, d_X4_wipe N A D (nI d) (nI s) = some (A1, D1) ∧ e_clearSlot R (nI d) (nI s) = some R1 ∧ d_X7_loseName N A1 D1 (nI t) = some (A', D') ∧ e_lose R1 (nI t) = some R' ∧ WK N B gr r s0 l A' D' R' m' W tk' (fun _ => 0) ∧ gA A' = gA A ∧ Dt D D' ∧ Fn [33] [30, 31, 32, 35, 36, 43] R R' ∧ WF N W ∧ (HdW W hd hi ∧ (LH V hd hi → LH W hd hi)) ∧ t ≠ d ∧ ir t ∧ (∀ j, ir j → j ≠ t → f1 W j 0 = f1 V j 0 ∧ f1 W j 1 = f1 V j 1 ∧ szM W j = szM V j ∧ ∀ x, x < 4234 → pv W j x = pv V j x) ∧ (∀ d' s', ir d' → d' ≠ t → f1 V d' 0 = 2 → s' < szM V d' / 16 → ¬ (d' = d ∧ s' = s) → sln W d' s' = sln V d' s') ∧ sln W d s = 0 ∧ (∀ d' x, ir d' → d' ≠ t → d' ≠ d → x < 4234 → pv V d' x ≠ 0 → W (pv V d' x) = V (pv V d' x)) ∧ ¬ (f1 W t 0 = 2 ∧ 1 ≤ f1 W t 1) := by
  obtain ⟨A1, D1, R1, a1, a2, a3, a4, a5, a6⟩ := w_wipe hN1 hN h hdd.1 hk hs
  have hdb := hV.dblk hdd.1 hk hs
  have hm8 : s % 8 < 8 := Nat.mod_lt _ (by decide)
  have hfn : Fnd V t := by rw [← hst]; exact hV.fnd hdd.1 hk hs (by rw [hst]; exact ht0)
  have ht1 : t ≠ 1 := by rw [← hst]; exact hV.n1 hdd.1 hk hs
  obtain ⟨-, w2, w3, w4⟩ := hV.s.slot (W := wipV V (pv V d (px (s / 8))) (16 * (s % 8))) hN1 hdd.1 hk hs zr_row (Or.inl ⟨wip_n2, fun o o1 o2 => by
    unfold wipV
    rw [vU_s]
    exact zr_t ⟨by omega, by omega⟩⟩)
  generalize hW1 : wipV V (pv V d (px (s / 8))) (16 * (s % 8)) = W1 at a3 w2 w3 w4
  have htd : t ≠ d := fun z => by
    have q := hem (by rw [z]; exact hk) s (by rw [z]; exact hs)
    rw [z, hst] at q
    exact ht0 q
  have hk1 : f1 W1 t 0 = f1 V t 0 := (w2 t hfn.1).1
  have hr1 : HRel D1 R1 hd hi := hR.fr a5 a6.1 (by decide) (by decide) (by decide) (by decide)
  obtain ⟨A', D', R', m', W, tk', b1, b2, b3, b4, b5, b6, b7, b8, -, b10, b11⟩ := w_loseR (hd := hd) (hi' := hi) hN1 hN a3 hfn.1 ht1 (by rw [hk1]; exact hfn.2.1) hr1 (by show (0 : Int) + (if sln V d s = t then 1 else 0) - (if 0 = t then 1 else 0) = 1; rw [if_pos hst, if_neg (fun z => ht0 z.symm)]; rfl) (fun q s' hs' => by
    rw [hk1] at q
    rw [(w2 t hfn.1).2.2.1] at hs'
    rw [w3 t s' hfn.1 q hs' (fun z => htd z.1)]
    exact hem q s' hs')
  have e1 : (fun j => if j = t then 0 else (0 : Int) + (if sln V d s = j then 1 else 0) - (if 0 = j then 1 else 0)) = (fun j => if j = t then 0 else 0 + (if t = j then 1 else 0) - (if 0 = j then 1 else 0)) := by rw [hst]
  have b3' : WK N B gr r s0 ([43, 44, homeM t, homeM t] ++ ([pv V d (px (s / 8))] ++ l0)) A' D' R' m' W tk' (fun j => if j = t then 0 else 0 + (if t = j then 1 else 0) - (if 0 = j then 1 else 0)) := by
    rw [← e1]; exact b3
  have ow0 : ∀ j, ir j → (if j = t then 0 else (0 : Int) + (if t = j then 1 else 0) - (if 0 = j then 1 else 0)) = 0 := fun j hj => by
    by_cases c : j = t
    · rw [if_pos c]
    · rw [if_neg c, if_neg (fun z => c z.symm), if_neg (fun z => by have := hj.1; omega)]
      rfl
  have b3z : WK N B gr r s0 ([43, 44, homeM t, homeM t] ++ ([pv V d (px (s / 8))] ++ l0)) A' D' R' m' W tk' (fun _ => 0) := ⟨b3'.1, WFs.owe b3'.2.1 (fun j hj => ow0 j hj), b3'.2.2⟩
  have kk : ∀ j, ir j → j ≠ t → f1 W j 0 = f1 V j 0 ∧ f1 W j 1 = f1 V j 1 ∧ szM W j = szM V j := fun j hj hne => ⟨(b7 j hj hne).1.trans (w2 j hj).1, (b7 j hj hne).2.1.trans (w2 j hj).2.1, (b7 j hj hne).2.2.1.trans (w2 j hj).2.2.1⟩
  have i1 : ir 1 := ⟨Nat.le_refl _, by decide⟩
  refine ⟨A1, D1, R1, A', D', R', m', W, tk', _, a1, a2, b1, b2, b3z, b4.trans a4, a5.tr b5, (a6.wk (by decide) (by decide)).tr b6, ?_, ⟨?_, fun hL j hj h0 l0 => ?_⟩, htd, hfn.1, fun j hj hne => ⟨(kk j hj hne).1, (kk j hj hne).2.1, (kk j hj hne).2.2, fun x hx => by rw [(b7 j hj hne).2.2.2 x hx]; exact (w2 j hj).2.2.2 x hx⟩, fun d' s' hd' hne kd' hs' hns => ?_, ?_, fun d' x hd' hne hnd hx h0 => ?_, fun ⟨k3, k4⟩ => ?_⟩
  · refine b3'.2.1.wf2 (fun j hj => ?_) (fun j hj kj hne => ?_) ?_ (fun e s' he ke le hs' => ?_)
    · show (if j = t then 0 else (0 : Int) + (if t = j then 1 else 0) - (if 0 = j then 1 else 0)) = 0
      by_cases c : j = t
      · rw [if_pos c]
      · rw [if_neg c, if_neg (fun z => c z.symm), if_neg (fun z => by have := hj.1; omega)]
        rfl
    · by_cases c : j = t
      · rw [c] at kj ⊢
        rcases b10 with ⟨q1, q2, -⟩ | ⟨q1, -⟩
        · rw [q2, (w2 t hfn.1).2.1]
          rw [q1, hk1] at kj
          have := hV.2.2.2.2.2.2.2.2.1 t hfn.1 kj ht1
          omega
        · rw [q1] at kj
          exact absurd kj (by decide)
      · rw [(kk j hj c).1] at kj
        rw [(kk j hj c).2.1]
        exact hV.2.2.2.2.2.2.2.2.1 j hj kj hne
    · rw [(kk 1 i1 (fun z => ht1 z.symm)).2.1]
      exact hV.l1
    · by_cases c : e = t
      · rw [c] at ke hs' ⊢
        rcases b10 with ⟨q1, -, q3, q4, -⟩ | ⟨q1, -⟩
        · rw [q1] at ke
          rw [q3] at hs'
          rw [q4 s' ke hs']
          rw [hk1] at ke
          rw [(w2 t hfn.1).2.2.1] at hs'
          rw [w3 t s' hfn.1 ke hs' (fun z => htd z.1)]
          exact hem ke s' hs'
        · rw [q1] at ke
          exact absurd ke (by decide)
      · rw [(kk e he c).1] at ke
        rw [(kk e he c).2.1] at le
        rw [(kk e he c).2.2] at hs'
        have hed : e ≠ d := fun z => by
          have := hdd.2.2
          rw [z] at le
          omega
        rw [b8 e s' he c (by rw [(w2 e he).1]; exact ke) (by rw [(w2 e he).2.2.1]; exact hs'), w3 e s' he ke hs' (fun z => hed z.1)]
        exact hV.2.2.2.2.2.2.2.2.2.2 e s' he ke le hs'
  · obtain ⟨q1, q2, q3⟩ := hH
    refine ⟨q1, fun j hj h0 => ?_, fun x hx h0 => ⟨(q3 x hx h0).1, ?_⟩⟩
    · by_cases c : j = t
      · rcases b10 with ⟨p1, -⟩ | ⟨-, -, p3⟩
        · rw [c, p1, hk1]
          exact hfn.2.1
        · unfold tmM at p3
          rw [c] at h0
          omega
      · rw [(kk j hj c).1]
        exact q2 j hj h0
    · have q4 := q3 x hx h0
      by_cases c : hi x = t
      · rcases b10 with ⟨p1, -⟩ | ⟨-, -, p3⟩
        · rw [c, p1, hk1, ← c]
          exact q4.2
        · unfold tmM at p3
          exact absurd c (rsC_0 (f := hi) (v := t) 32 (by omega) hx)
      · rw [(kk _ q4.1 c).1]
        exact q4.2
  · by_cases c : j = t
    · rw [c] at h0 l0 ⊢
      rcases b10 with ⟨-, p2, -, -, p5⟩ | ⟨p1, -⟩
      · rw [p2] at l0
        rw [(w2 t hfn.1).2.1] at l0 p5
        have := hfn.2.2
        exact fun z => p5 ⟨by omega, z⟩
      · exact absurd p1 h0
    · rw [(kk j hj c).1] at h0
      rw [(kk j hj c).2.1] at l0
      exact hL j hj h0 l0
  · rw [b8 d' s' hd' hne (by rw [(w2 d' hd').1]; exact kd') (by rw [(w2 d' hd').2.2.1]; exact hs'), w3 d' s' hd' kd' hs' hns]
  · rw [b8 d s hdd.1 (fun z => htd z.symm) (by rw [(w2 d hdd.1).1]; exact hk) (by rw [(w2 d hdd.1).2.2.1]; exact hs)]
    unfold sln
    rw [(w2 d hdd.1).2.2.2 _ (px_lt hdb.1), ← hW1]
    exact wip_n2
  · have e1 : pv W1 d' x = pv V d' x := (w2 d' hd').2.2.2 x hx
    have q := b11 d' x hd' hne hx (by rw [e1]; exact h0)
    rw [e1] at q
    rw [q, ← hW1]
    unfold wipV
    exact vU_n (fun z => hnd (hV.1.2.2.1 d' x d (px (s / 8)) hd' hx hdd.1 (px_lt hdb.1) h0 z).1)
  · rcases b10 with ⟨q1, q2, -⟩ | ⟨q1, -⟩
    · have le1 := hV.2.2.2.2.2.2.2.2.1 t hfn.1 (by rw [← hk1, ← q1]; exact k3) ht1
      rw [q2, (w2 t hfn.1).2.1] at k4
      omega
    · rw [q1] at k3
      exact absurd k3 (by decide)
end PZL
