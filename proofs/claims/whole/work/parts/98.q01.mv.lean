/-! ===== pure: a name moves ===== -/
section PYA
variable {N B gr r u : Nat} {V W : Nat → Rw} {m m' : M5} {tk : Nat → Bool} {A A' : MS} {D D' D2 : CfT} {R R' : RfT} {g : Bool} {hd hi : Nat → Nat} {tp : Nat → Int32} {tl : Nat} {ex : Nat → Int32} {i d p s s2 t : Nat}
theorem wip_slo {b a : Nat} : SlO V (wipV V b a b) a := Or.inl ⟨wip_n2, fun o o1 o2 => by
  show vU V _ _ _ o = 0
  rw [vU_s]
  exact zr_t ⟨by omega, by omega⟩⟩
/-- a free slot: no block is wanted -/
theorem wtM_free {ow : Nat → Int} (h : WFs N V ow) (hN1 : 61 ≤ N) (hd : ir d) (hk : f1 V d 0 = 2) (hs : s < szM V d / 16) (h0 : sln V d s = 0) : wtM V d = 0 := by
  have hz := (h.pz hd).1
  unfold wtM
  rcases fr_o (h.db hd hk) (szM V d / 16) 0 (by omega) with ⟨-, q⟩ | ⟨x, -, x2, -, q⟩
  · exact absurd h0 (q s (by omega) hs)
  · rw [q, if_neg (nI_m1 (by omega))]
theorem w_mv {k : Nat} {st ln : Nat → Nat} (hN1 : 61 ≤ N) (hN : N ≤ 1024) (hu : u + 4200 < 2 ^ 31) (h : IM N B gr u g A D R m V tk hd hi tp tl) (ot : OwT A R m V) (hp : Fnd V p) (hpk : f1 V p 0 = 2) (hs : s < szM V p / 16) (hst : sln V p s = t) (ht0 : t ≠ 0) (hdd : Fnd V d) (hk : f1 V d 0 = 2) (hrm : d = p ∨ wtM V d ≤ rmM N m V) (hTp : TpR D R tp) (hC : PthC50 D k st ln) (hNm : NmS tp k st ln) (hk1 : 1 ≤ k) : ∃ A1 D1 R1, d_X4_wipe N A D (nI p) (nI s) = some (A1, D1) ∧ e_clearSlot R (nI p) (nI s) = some R1 ∧ Fn [33] [30, 31, 32, 36, 43] R R1 ∧ ((∃ A' D' R' m' W tk' r l ow, d_X4_addName_50 N B gr A1 D1 (nI d) (nI t) = some (.inl ((), A', D')) ∧ e_addName R1 (nI d) (nI (st (k - 1))) (nI (ln (k - 1))) (nI t) = some R' ∧ l.length ≤ 8 ∧ WK N B gr r (m, V, tk) l A' D' R' m' W tk' ow ∧ gA A' = gA A ∧ Dt D D' ∧ Fq hS hT R R' ∧ WF N W ∧ HdW W hd hi ∧ (LH V hd hi → LH W hd hi)) ∨ (∃ A' D' R', d_X4_addName_50 N B gr A1 D1 (nI d) (nI t) = some (.inr (0, A', D')) ∧ e_addName R1 (nI d) (nI (st (k - 1))) (nI (ln (k - 1))) (nI t) = some R' ∧ Dd N R A'.1 R' ∧ Dt D D' ∧ FlT N B m A' D')) := by
  obtain ⟨A1, D1, R1, c1, c2, c5, c6, c7, c8⟩ := w_wipe hN1 hN (h.wk hN1 hu ot) hp.1 hpk hs
  have hfn : Fnd V t := by rw [← hst]; exact h.2.1.fnd hp.1 hpk hs (by rw [hst]; exact ht0)
  obtain ⟨w1, w2, w3, w4⟩ := h.2.1.s.slot (W := wipV V (pv V p (px (s / 8))) (16 * (s % 8))) hN1 hp.1 hpk hs zr_row wip_slo
  rw [wip_n2] at w4
  generalize hV1 : wipV V (pv V p (px (s / 8))) (16 * (s % 8)) = V1 at c5 w1 w2 w3 w4
  have hd2 : f1 V1 d 0 = 2 := by rw [(w2 d hdd.1).1]; exact hk
  have ht2 : f1 V1 t 0 ≠ 0 := by rw [(w2 t hfn.1).1]; exact hfn.2.1
  have ewt : wtM V1 d ≤ rmM N m V := by
    by_cases c : d = p
    · rw [wtM_free c5.2.1 hN1 hdd.1 hd2 (s := s) (by rw [(w2 d hdd.1).2.2.1, c]; exact hs) (by rw [c]; exact w4)]
      exact Nat.zero_le _
    · rw [wtM_cg h.2.1.s c5.2.1 hN1 hdd.1 hk hd2 (w2 d hdd.1).2.2.1 (fun s' hs' => w3 d s' hdd.1 hk hs' (fun z => c z.1)) (w2 d hdd.1).2.2.2]
      exact hrm.resolve_left c
  have hTp1 : TpR D1 R1 tp := ⟨hTp.1, fun j => by rw [show cA D1 1 = cA D 1 from c7.2 1 (by decide)]; exact hTp.2.1 j, fun j hj => by rw [c8.1.2.1 4 (by decide)]; exact hTp.2.2 j hj⟩
  have hC1 : PthC50 D1 k st ln := ⟨(c7.1 5002 (by decide)).trans hC.1, hC.2.1, fun j hj => by
    rw [show cA D1 51 = cA D 51 from c7.2 51 (by decide), show cA D1 52 = cA D 52 from c7.2 52 (by decide)]
    exact hC.2.2 j hj⟩
  refine ⟨A1, D1, R1, c1, c2, c8, ?_⟩
  rcases w_add50 (r := rmM N m V - wtM V1 d) hN1 hN hdd.1 hd2 (c5.wkn (by omega)) hfn.1 ht2 hTp1 hC1 hNm hk1 with ⟨A', D', R', m', W, tk', l, a1, a2, a3, a4, a5, a6, a7, a8, a9, a10⟩ | ⟨A', D', R', a1, a2, a3, a4, a5⟩
  · have ek : ∀ j, ir j → f1 W j 0 = f1 V j 0 := fun j hj => (a8 j hj).1.trans (w2 j hj).1
    have el : ∀ j, ir j → f1 W j 1 = f1 V j 1 := fun j hj => (a8 j hj).2.trans (w2 j hj).2.1
    have i1 : ir 1 := ⟨Nat.le_refl _, by decide⟩
    refine Or.inl ⟨A', D', R', m', W, tk', _, _, _, a1, a2, ?_, a4, a5.trans c6, c7.tr a6, (c8.1.wk (by decide) (by decide)).tr a7, ?_, h.2.2.2.2.2.2.1.keep ek, fun hL => hL.keep (fun j hj => ⟨ek j hj, el j hj⟩)⟩
    · rw [List.length_append]
      show l.length + 1 ≤ 8
      omega
    · refine a4.2.1.wf2 (fun j hj => ?_) (fun j hj kj hne => ?_) ?_ (fun e s' he ke le hs' => ?_)
      · show (0 : Int) + (if sln V p s = j then 1 else 0) - (if 0 = j then 1 else 0) - (if t = j then 1 else 0) = 0
        have := hj.1
        rw [hst, if_neg (show ¬ 0 = j by omega)]
        omega
      · rw [ek j hj] at kj
        rw [el j hj]
        exact h.2.1.2.2.2.2.2.2.2.2.1 j hj kj hne
      · rw [el 1 i1]
        exact h.2.1.l1
      · rw [ek e he] at ke
        rw [el e he] at le
        have hed : e ≠ d := fun z => by
          have := hdd.2.2
          rw [← z] at this
          omega
        have hep : e ≠ p := fun z => by
          have := hp.2.2
          rw [← z] at this
          omega
        rw [(a9 e he hed).1, (w2 e he).2.2.1] at hs'
        rw [a10 e s' he hed (by rw [(w2 e he).1]; exact ke) (by rw [(w2 e he).2.2.1]; exact hs'), w3 e s' he ke hs' (fun z => hep z.1)]
        exact h.2.1.2.2.2.2.2.2.2.2.2.2 e s' he ke le hs'
  · exact Or.inr ⟨A', D', R', a1, a2, a3.fq c8.1 (by decide) (by decide), c7.tr a4, a5⟩
theorem pt_slo (h : SlO V (V (pv V d (px (s / 8)))) (16 * (s % 8))) (hs0 : sln V d s ≠ 0) (ht : ir t) (htk : f1 V t 0 ≠ 0) : SlO V (ptV V (pv V d (px (s / 8))) (16 * (s % 8)) (nI t) (pv V d (px (s / 8)))) (16 * (s % 8)) := by
  have hm8 : s % 8 < 8 := Nat.mod_lt _ (by decide)
  have ht1 := ht.1
  have ht2 := ht.2
  have en := pt_n2 (V := V) (b := pv V d (px (s / 8))) (a := 16 * (s % 8)) (t := t) (by omega) (by omega)
  have hin : ∀ o, 16 * (s % 8) + 2 ≤ o → o < 128 → ptV V (pv V d (px (s / 8))) (16 * (s % 8)) (nI t) (pv V d (px (s / 8))) o = V (pv V d (px (s / 8))) o := fun o o1 o2 => by
    show vU V _ _ _ o = _
    rw [vU_s]
    show nr (wB _ _ _ 2) o = _
    unfold nr
    rw [if_pos o2]
    exact wB_out 2 (by omega)
  rcases h with z | ⟨z1, z2, z3, ln, z4, z5, z6⟩
  · exact absurd z.1 hs0
  · refine Or.inr ⟨by rw [en]; omega, by rw [en]; exact ht2, by rw [en]; exact htk, ln, ?_, ?_, fun o o1 o2 => ?_⟩
    · rw [hin _ (by omega) (by omega)]
      exact z4
    · obtain ⟨y1, y2, y3, y4⟩ := z5
      refine ⟨y1, y2, fun k hk => ?_, fun q => ?_⟩
      · rw [hin _ (by omega) (by omega)]
        exact y3 k hk
      · obtain ⟨k, k1, k2⟩ := y4 q
        exact ⟨k, k1, by rw [hin _ (by omega) (by omega)]; exact k2⟩
    · rw [hin _ (by omega) (by omega)]
      exact z6 o o1 o2
/-- a name moves over another -/
theorem w_over {o : Nat} (hN1 : 61 ≤ N) (hN : N ≤ 1024) (hu : u + 4200 < 2 ^ 31) (h : IM N B gr u g A D R m V tk hd hi tp tl) (ot : OwT A R m V) (hp : Fnd V p) (hpk : f1 V p 0 = 2) (hs : s < szM V p / 16) (hst : sln V p s = t) (ht0 : t ≠ 0) (hdd : Fnd V d) (hk : f1 V d 0 = 2) (hs2 : s2 < szM V d / 16) (hst2 : sln V d s2 = o) (ho0 : o ≠ 0) (hot : o ≠ t) (hem : f1 V o 0 = 2 → ∀ s, s < szM V o / 16 → sln V o s = 0) : ∃ A1 D1 R1 A2 D2 R2 A' D' R' m' W tk' l ow, d_X4_point N A D (nI d) (nI s2) (nI t) = some (A1, D1) ∧ e_setNumber R (nI (pv V d (px (s2 / 8)))) (nI (16 * (s2 % 8))) 2 (nI t) = some R1 ∧ d_X4_wipe N A1 D1 (nI p) (nI s) = some (A2, D2) ∧ e_clearSlot R1 (nI p) (nI s) = some R2 ∧ d_X7_loseName N A2 D2 (nI o) = some (A', D') ∧ e_lose R2 (nI o) = some R' ∧ l.length ≤ 8 ∧ WK N B gr (rmM N m V) (m, V, tk) l A' D' R' m' W tk' ow ∧ gA A' = gA A ∧ Dt D D' ∧ Fn [33] [30, 31, 32, 35, 36, 43] R R' ∧ WF N W ∧ HdW W hd hi ∧ (LH V hd hi → LH W hd hi) := by
  have hfn : Fnd V t := by rw [← hst]; exact h.2.1.fnd hp.1 hpk hs (by rw [hst]; exact ht0)
  have hfo : Fnd V o := by rw [← hst2]; exact h.2.1.fnd hdd.1 hk hs2 (by rw [hst2]; exact ho0)
  have ho1 : o ≠ 1 := by rw [← hst2]; exact h.2.1.n1 hdd.1 hk hs2
  obtain ⟨A1, D1, R1, a1, a2, a3, a4, a5, a6⟩ := w_point hN1 hN (h.wk hN1 hu ot) hdd.1 hk hs2 hfn.1 hfn.2.1 (by rw [hst2]; exact ho0)
  have hm8 : s2 % 8 < 8 := Nat.mod_lt _ (by decide)
  have ht64 := hfn.1.2
  have n2t : n2 (ptV V (pv V d (px (s2 / 8))) (16 * (s2 % 8)) (nI t) (pv V d (px (s2 / 8)))) (16 * (s2 % 8)) = t := pt_n2 (by omega) (by omega)
  have slo : SlO V (ptV V (pv V d (px (s2 / 8))) (16 * (s2 % 8)) (nI t) (pv V d (px (s2 / 8)))) (16 * (s2 % 8)) := pt_slo (h.2.1.2.2.2.2.2.1 d s2 hdd.1 hk hs2) (by rw [hst2]; exact ho0) hfn.1 hfn.2.1
  obtain ⟨-, w2, w3, w4⟩ := h.2.1.s.slot hN1 hdd.1 hk hs2 pt_row slo
  rw [n2t] at w4
  generalize hV1 : ptV V (pv V d (px (s2 / 8))) (16 * (s2 % 8)) (nI t) = V1 at a3 w2 w3 w4
  have hps : ¬ (p = d ∧ s = s2) := fun z => by
    rw [z.1, z.2, hst2] at hst
    exact hot hst
  have e1 : sln V1 p s = t := by rw [w3 p s hp.1 hpk hs hps]; exact hst
  have hpk1 : f1 V1 p 0 = 2 := by rw [(w2 p hp.1).1]; exact hpk
  have hs1 : s < szM V1 p / 16 := by rw [(w2 p hp.1).2.2.1]; exact hs
  obtain ⟨A2, D2, R2, b1, b2, b3, b4, b5, b6⟩ := w_wipe hN1 hN a3 hp.1 hpk1 hs1
  obtain ⟨-, v2, v3, v4⟩ := a3.2.1.slot (W := wipV V1 (pv V1 p (px (s / 8))) (16 * (s % 8))) hN1 hp.1 hpk1 hs1 zr_row wip_slo
  generalize hV2 : wipV V1 (pv V1 p (px (s / 8))) (16 * (s % 8)) = V2 at b3 v2 v3 v4
  rw [← hV2, wip_n2] at v4
  rw [hV2] at v4
  have k2 : ∀ j, ir j → f1 V2 j 0 = f1 V j 0 ∧ f1 V2 j 1 = f1 V j 1 ∧ szM V2 j = szM V j := fun j hj => ⟨(v2 j hj).1.trans (w2 j hj).1, (v2 j hj).2.1.trans (w2 j hj).2.1, (v2 j hj).2.2.1.trans (w2 j hj).2.2.1⟩
  have z2 : ∀ e x, ir e → f1 V e 0 = 2 → x < szM V e / 16 → e ≠ d → sln V e x = 0 → sln V2 e x = 0 := fun e x he ke hx hed h0 => by
    by_cases c : e = p ∧ x = s
    · rw [c.1, c.2]
      exact v4
    · rw [v3 e x he (by rw [(w2 e he).1]; exact ke) (by rw [(w2 e he).2.2.1]; exact hx) c, w3 e x he ke hx (fun z => hed z.1)]
      exact h0
  have hod : f1 V o 0 = 2 → o ≠ d := fun q z => by
    have y := hem q s2 (by rw [z]; exact hs2)
    rw [z, hst2] at y
    exact ho0 y
  have hr2 : HRel D2 R2 hd hi := (h.2.2.2.2.2.1.fr a5 a6.1 (by decide) (by decide) (by decide) (by decide)).fr b5 b6.1 (by decide) (by decide) (by decide) (by decide)
  obtain ⟨A', D', R', m', W, tk', c1, c2, c3, c4, c5, c6, c7, c8, -, c10⟩ := w_lose (hd := hd) (hi' := hi) hN1 hN b3 hfo.1 ho1 (by rw [(k2 o hfo.1).1]; exact hfo.2.1) hr2 (by
    show (0 : Int) + (if sln V d s2 = o then 1 else 0) - (if t = o then 1 else 0) + (if sln V1 p s = o then 1 else 0) - (if 0 = o then 1 else 0) = 1
    rw [if_pos hst2, e1, if_neg (fun z => hot z.symm), if_neg (fun z => ho0 z.symm)]
    rfl) (fun q x hx => by
    rw [(k2 o hfo.1).1] at q
    rw [(k2 o hfo.1).2.2] at hx
    exact z2 o x hfo.1 q hx (hod q) (hem q x hx))
  have kk : ∀ j, ir j → j ≠ o → f1 W j 0 = f1 V j 0 ∧ f1 W j 1 = f1 V j 1 ∧ szM W j = szM V j := fun j hj hne => ⟨(c7 j hj hne).1.trans (k2 j hj).1, (c7 j hj hne).2.1.trans (k2 j hj).2.1, (c7 j hj hne).2.2.1.trans (k2 j hj).2.2⟩
  have i1 : ir 1 := ⟨Nat.le_refl _, by decide⟩
  refine ⟨A1, D1, R1, A2, D2, R2, A', D', R', m', W, tk', _, _, a1, a2, b1, b2, c1, c2, by show 6 ≤ 8; decide, c3, c4.trans (b4.trans a4), (a5.tr b5).tr c5, ((a6.wk (by decide) (by decide)).tr (b6.wk (by decide) (by decide))).tr c6, ?_, ?_, fun hL j hj h0 l0 => ?_⟩
  · refine c3.2.1.wf2 (fun j hj => ?_) (fun j hj kj hne => ?_) ?_ (fun e s' he ke le hs' => ?_)
    · show (if j = o then 0 else (0 : Int) + (if sln V d s2 = j then 1 else 0) - (if t = j then 1 else 0) + (if sln V1 p s = j then 1 else 0) - (if 0 = j then 1 else 0)) = 0
      by_cases c : j = o
      · rw [if_pos c]
      · have := hj.1
        rw [if_neg c, hst2, e1, if_neg (fun z => c z.symm), if_neg (show ¬ 0 = j by omega)]
        omega
    · by_cases c : j = o
      · rw [c] at kj ⊢
        rcases c10 with ⟨q1, q2, -⟩ | ⟨q1, -⟩
        · rw [q2, (k2 o hfo.1).2.1]
          rw [q1, (k2 o hfo.1).1] at kj
          have := h.2.1.2.2.2.2.2.2.2.2.1 o hfo.1 kj ho1
          omega
        · rw [q1] at kj
          exact absurd kj (by decide)
      · rw [(kk j hj c).1] at kj
        rw [(kk j hj c).2.1]
        exact h.2.1.2.2.2.2.2.2.2.2.1 j hj kj hne
    · rw [(kk 1 i1 (fun z => ho1 z.symm)).2.1]
      exact h.2.1.l1
    · by_cases c : e = o
      · rw [c] at ke hs' ⊢
        rcases c10 with ⟨q1, -, q3, q4, -⟩ | ⟨q1, -⟩
        · rw [q1] at ke
          rw [q3] at hs'
          rw [q4 s' ke hs']
          rw [(k2 o hfo.1).1] at ke
          rw [(k2 o hfo.1).2.2] at hs'
          exact z2 o s' hfo.1 ke hs' (hod ke) (hem ke s' hs')
        · rw [q1] at ke
          exact absurd ke (by decide)
      · rw [(kk e he c).1] at ke
        rw [(kk e he c).2.1] at le
        rw [(kk e he c).2.2] at hs'
        have hed : e ≠ d := fun z => by
          have := hdd.2.2
          rw [z] at le
          omega
        rw [c8 e s' he c (by rw [(k2 e he).1]; exact ke) (by rw [(k2 e he).2.2]; exact hs')]
        exact z2 e s' he ke hs' hed (h.2.1.2.2.2.2.2.2.2.2.2.2 e s' he ke le hs')
  · obtain ⟨q1, q2, q3⟩ := h.2.2.2.2.2.2.1
    refine ⟨q1, fun j hj h0 => ?_, fun x hx h0 => ⟨(q3 x hx h0).1, ?_⟩⟩
    · by_cases c : j = o
      · rcases c10 with ⟨p1, -⟩ | ⟨-, -, p3⟩
        · rw [c, p1, (k2 o hfo.1).1]
          exact hfo.2.1
        · unfold tmM at p3
          rw [c] at h0
          omega
      · rw [(kk j hj c).1]
        exact q2 j hj h0
    · have q4 := q3 x hx h0
      by_cases c : hi x = o
      · rcases c10 with ⟨p1, -⟩ | ⟨-, -, p3⟩
        · rw [c, p1, (k2 o hfo.1).1, ← c]
          exact q4.2
        · unfold tmM at p3
          exact absurd c (rsC_0 (f := hi) (v := o) 32 (by omega) hx)
      · rw [(kk _ q4.1 c).1]
        exact q4.2
  · by_cases c : j = o
    · rw [c] at h0 l0 ⊢
      rcases c10 with ⟨-, p2, -, -, p5⟩ | ⟨p1, -⟩
      · rw [p2] at l0
        rw [(k2 o hfo.1).2.1] at l0 p5
        have := hfo.2.2
        exact fun z => p5 ⟨by omega, z⟩
      · exact absurd p1 h0
    · rw [(kk j hj c).1] at h0
      rw [(kk j hj c).2.1] at l0
      exact hL j hj h0 l0
end PYA
