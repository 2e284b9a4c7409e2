/-! ===== pure: copy, a new file of the same size ===== -/
section PZG
variable {N B gr r u : Nat} {V V' W : Nat → Rw} {m m' : M5} {tk tk' : Nat → Bool} {A A' : MS} {D D' D2 : CfT} {R R' : RfT} {d i p q k a e t s tt : Nat} {ow : Nat → Int} {s0 : S3} {l : List Nat} {g : Bool} {hd hi : Nat → Nat} {tp : Nat → Int32} {tl : Nat} {mk : Int32}
theorem WKg.told [h0 : IRt tt] (hN1 : 61 ≤ N) (hN : N ≤ 1024) (h : WKg tt (nI s) mk N B gr r s0 l A D R m V tk ow) (hk : f1 V tt 0 = 1) (hs : s ≤ 400000) (hz : ∀ q, bfM s ≤ q → q < 4168 → pv V tt (px q) = 0) (hl : homeM tt ∈ l) : ∃ A1 D1 A2 D2, d_X7_setSize N A D (nI tt) (nI s) = some (A1, D1) ∧ CX N A1 D1 m (fldV V tt 4 4 (nI s)) tk ∧ d_X7_setMark N A1 D1 (nI tt) mk = some (A2, D2) ∧ WK N B gr r s0 l A2 D2 R m (fS tt (nI s) mk V) tk ow ∧ gA A2 = gA A ∧ Dt D D2 ∧ (∀ j, ir j → f1 (fS tt (nI s) mk V) j 0 = f1 V j 0 ∧ f1 (fS tt (nI s) mk V) j 1 = f1 V j 1 ∧ szM (fS tt (nI s) mk V) j = if j = tt then s else szM V j) ∧ (∀ j x, ir j → x < 4234 → pv (fS tt (nI s) mk V) j x = pv V j x) ∧ (∀ d s2, ir d → f1 V d 0 = 2 → s2 < szM V d / 16 → sln (fS tt (nI s) mk V) d s2 = sln V d s2) := by
  have ht := h0.h
  have hh := ir_home ht
  obtain ⟨A1, D1, a1, a2, a3, a4⟩ := c_setSize (v := nI s) hN1 hN h.1.1 ht.1 ht.2
  obtain ⟨A2, D2, b1, b2, b3, b4⟩ := c_setMark (v := mk) hN1 hN a2 ht.1 ht.2
  have hpv : ∀ j x, ir j → x < 4234 → pv (fS tt (nI s) mk V) j x = pv V j x := fun j x hj hx => fS_pv h.2.1.1 hj x hx
  have esz : szM (fS tt (nI s) mk V) tt = s := by
    have e1 : szM (fS tt (nI s) mk V) tt = szM (fldV V tt 4 4 (nI s)) tt := fld_sz ht (by decide) (Or.inr (by decide))
    rw [e1, (fld_s4 (V := V) ht (show s < 2 ^ 31 by omega)).2.2.1 tt ht, if_pos rfl]
  have ef : ∀ j a, ir j → a < 4 → f1 (fS tt (nI s) mk V) j a = f1 V j a := fun j a hj ha => fS_f1 hj (by omega) (Or.inr (Or.inl ha))
  obtain ⟨w1, w2, w3, w4⟩ := h.2.1.fc ht (fS_c (ss := nI s) (mk := mk)) (by rw [hk]; decide) (by rw [esz]; exact hs) (fun q q1 q2 => hz q (by rw [esz] at q1; exact q1) q2) (fun z => by rw [hk] at z; cases z)
  have w1 : WFs N (fS tt (nI s) mk V) ow := WFs.owe w1 (fun j _ => by
    rw [ef tt 1 ht (by decide)]
    split <;> omega)
  have st : St N B m V tk m (fS tt (nI s) mk V) tk := St.same hpv (fun j hj => Or.inl (ef j 0 hj (by decide)))
  refine ⟨A1, D1, A2, D2, a1, a2, b1, ⟨⟨b2, h.1.2⟩, w1, h.2.2.1.v fS_43, ⟨ow_mark ht.1 ht.2 b1 (ow_size ht.1 ht.2 a1 (h.2.2.2.1.1.wk (fun _ z => z.st st)) (OkP.lo hh.2)) (OkP.lo hh.2), h.2.2.2.1.2.wk (fun _ z => z.st st)⟩, h.2.2.2.2.1.tr st, fun b u1 u2 hc => ?_⟩, b3.trans a3, a4.tr b4, fun j hj => ⟨ef j 0 hj (by decide), ef j 1 hj (by decide), ?_⟩, hpv, w3⟩
  · by_cases c : b = homeM tt
    · exact Or.inr (by rw [c]; exact hl)
    · refine h.2.2.2.2.2 b u1 u2 (hc.imp id (fun z => ?_))
      rw [fS_x c] at z
      exact z
  · by_cases c : j = tt
    · rw [if_pos c, c]
      exact esz
    · rw [if_neg c]
      exact fS_sz hj c
theorem no_pv (h : WFs N V ow) (ht : ir t) (hk0 : f1 V t 0 = 0) : ∀ x, x < 4234 → pv V t x = 0 := fun x hx => by
  have z10 : ∀ y, y < 10 → pv V t y = 0 := fun y hy => by
    rw [pv_10 hy]
    have q := h.2.2.1 t ht hk0
    unfold n2
    rw [q _ (by omega), show startM t + (12 + 2 * y) + 1 = startM t + (12 + 2 * y + 1) by omega, q _ (by omega)]
  have z138 : ∀ y, y < 138 → pv V t y = 0 := fun y hy => by
    by_cases c : y < 10
    · exact z10 y c
    · rw [pv_at (by omega), ph_hx (by omega) (by omega), if_pos (z10 _ (hx_lo hy))]
  by_cases c : x < 138
  · exact z138 x c
  · rw [pv_at hx, ph_hx (by omega) hx, if_pos (z138 _ (hx_lt hx))]
theorem cr_f4 (ht : ir t) (hi : ir i) (hne : i ≠ t) : f4 (crV V t 1) i 8 = f4 V i 8 := by
  unfold crV
  rw [fld_f4 ht.1 hi.1 (by decide) (by decide) (Or.inl hne), fld_f4 ht.1 hi.1 (by decide) (by decide) (Or.inl hne)]
  have := ir_home hi
  unfold f4
  rw [vU_n (by omega)]
theorem w_cpN {rr : Nat} {st ln : Nat → Nat} (hN1 : 61 ≤ N) (hN : N ≤ 1024) (hu : u + 4200 < 2 ^ 31) (h : IM N B gr u g A D R m V tk hd hi tp tl) (ot : OwT A R m V) (hir : ir i) (hki : f1 V i 0 = 1) (hdd : ir d) (hk : f1 V d 0 = 2) (hdl : f1 V d 1 ≠ 0) (ht : ir t) (htk : f1 V t 0 = 0) (hl : d_X7_lowestFree N (vA A) D = some (nI t)) (hrm : wtM V d + rr ≤ rmM N m V) (hTp : TpR D R tp) (hC : PthC50 D k st ln) (hNm : NmS tp k st ln) (hk1 : 1 ≤ k) : ∃ A1 D1 R1 R2 R3 R4 R5, d_X7_create N A D 1 = some (nI t, A1, D1) ∧ e_setField R (nI t) 0 1 1 = some R1 ∧ e_setField R1 (nI t) 1 1 1 = some R2 ∧ e_size R2 (nI i) = some (nI (szM V i)) ∧ e_setField R2 (nI t) 4 4 (nI (szM V i)) = some R3 ∧ e_field R3 (nI i) 8 4 = some (nI (f4 V i 8)) ∧ e_setField R3 (nI t) 8 4 (nI (f4 V i 8)) = some R4 ∧ e_setBit R4 44 (nI t - 1) 1 = some R5 ∧ Fn [33] [30, 31, 32, 36, 43] R R5 ∧ ((∃ A2 D2 A3 D3 A4 D4 R6 m' W tk' l, d_X4_addName_50 N B gr A1 D1 (nI d) (nI t) = some (.inl ((), A2, D2)) ∧ e_addName R5 (nI d) (nI (st (k - 1))) (nI (ln (k - 1))) (nI t) = some R6 ∧ d_X7_size N (vA A2) D2 (nI i) = some (nI (szM V i)) ∧ d_X7_setSize N A2 D2 (nI t) (nI (szM V i)) = some (A3, D3) ∧ d_X7_markOf N (vA A3) D3 (nI i) = some (nI (f4 V i 8)) ∧ d_X7_setMark N A3 D3 (nI t) (nI (f4 V i 8)) = some (A4, D4) ∧ l.length ≤ 8 ∧ (43 ∈ l ∨ l.length ≤ 3) ∧ homeM t ∈ l ∧ WK N B gr rr (m, V, tk) l A4 D4 R6 m' W tk' (fun _ => 0) ∧ gA A4 = gA A ∧ Dt D D4 ∧ Fq hS hT R R6 ∧ WF N W ∧ (HdW W hd hi ∧ (LH V hd hi → LH W hd hi)) ∧ f1 W t 0 = 1 ∧ szM W t = szM V i ∧ szM W i = szM V i ∧ (∀ x, x < 4234 → pv W t x = 0) ∧ (∀ x, x < 4234 → pv W i x = pv V i x) ∧ f1 W i 0 = 1) ∨ (∃ A' D' R', d_X4_addName_50 N B gr A1 D1 (nI d) (nI t) = some (.inr (0, A', D')) ∧ e_addName R5 (nI d) (nI (st (k - 1))) (nI (ln (k - 1))) (nI t) = some R' ∧ Dd N R A'.1 R' ∧ Dt D D' ∧ FlT N B m A' D')) := by
  have hh := ir_home ht
  have ht1 := ht.1
  have ht2 := ht.2
  haveI h0 : IRt t := ⟨⟨ht⟩⟩
  obtain ⟨A1, D1, Ra, Rb, Rc, c1, -, -, -, c5, c6, c7, -⟩ := w_create (t := t) (kd := 1) hN1 hN (h.wk hN1 hu ot) ht htk (Or.inl rfl) hl
  have htd : t ≠ d := fun z => by rw [z] at htk; omega
  have hit : i ≠ t := fun z => by rw [z] at hki; omega
  have hid : i ≠ d := fun z => by rw [z] at hki; omega
  have hsz := (h.2.1.pz hir).1
  obtain ⟨w1, w2, w3, w4⟩ := h.2.1.s.cr hN1 ht htk (kd := 1) (Or.inl rfl)
  -- the reference
  obtain ⟨R1, b1, y1, f1'⟩ := y_setField (a := 0) (n := 1) (v := nI 1) hN1 hN h.1.2 ht1 ht2 (by decide) (by decide)
  obtain ⟨R2, b2, y2, f2'⟩ := y_setField (a := 1) (n := 1) (v := nI 1) hN1 hN y1 ht1 ht2 (by decide) (by decide)
  obtain ⟨R3, b3, y3, f3'⟩ := y_setField (a := 4) (n := 4) (v := nI (szM V i)) hN1 hN y2 ht1 ht2 (by decide) (by decide)
  obtain ⟨R4, b4, y4, f4'⟩ := y_setField (a := 8) (n := 4) (v := nI (f4 V i 8)) hN1 hN y3 ht1 ht2 (by decide) (by decide)
  obtain ⟨R5, b5, y5, f5'⟩ := y_bit44 (c := t - 1) (on := true) hN1 hN y4 (by omega)
  have b1 : e_setField R (nI t) 0 1 1 = some R1 := b1
  have b2 : e_setField R1 (nI t) 1 1 1 = some R2 := b2
  have b3 : e_setField R2 (nI t) 4 4 (nI (szM V i)) = some R3 := b3
  have b4 : e_setField R3 (nI t) 8 4 (nI (f4 V i 8)) = some R4 := b4
  have es : nI t - 1 = nI (t - 1) := by
    show nI t - nI 1 = _
    rw [pk_sub ht1]
  have b5 : e_setBit R4 44 (nI t - 1) 1 = some R5 := by rw [es]; exact b5
  have y2 : RY N B gr R2 m (fldV (fldV V t 0 1 (nI 1)) t 1 1 (nI 1)) tk := y2
  have y3 : RY N B gr R3 m (fldV (fldV (fldV V t 0 1 (nI 1)) t 1 1 (nI 1)) t 4 4 (nI (szM V i))) tk := y3
  have h44 : (44 : Nat) ≠ homeM t := by omega
  have y5 : RY N B gr R5 m (fS t (nI (szM V i)) (nI (f4 V i 8)) (crV V t 1)) tk := by
    have e : fS t (nI (szM V i)) (nI (f4 V i 8)) (crV V t 1) = vU (fS t (nI (szM V i)) (nI (f4 V i 8)) (fldV (fldV V t 0 1 (nI 1)) t 1 1 (nI 1))) 44 (bsW (fS t (nI (szM V i)) (nI (f4 V i 8)) (fldV (fldV V t 0 1 (nI 1)) t 1 1 (nI 1)) 44) (t - 1) true) := by
      unfold crV
      rw [fld_u h44, fld_u h44, fS_u h44, fS_x h44, fld_x h44, fld_x h44]
    rw [e]
    exact y5
  have hb2 : btO N (fldV (fldV V t 0 1 (nI 1)) t 1 1 (nI 1) 43) := y2.2.2
  have es2 : e_size R2 (nI i) = some (nI (szM V i)) := by
    rw [z_size y2.1.1.lk hir.1 hir.2, show f4 (rSee R2 true) i 4 = szM (fldV (fldV V t 0 1 (nI 1)) t 1 1 (nI 1)) i from sz_ag hN1 y2.agu hb2 hir]
    have e1 : szM (fldV (fldV V t 0 1 (nI 1)) t 1 1 (nI 1)) i = szM (fldV V t 0 1 (nI 1)) i := fld_f4 ht1 hir.1 (by decide) (by decide) (Or.inl hit)
    have e2 : szM (fldV V t 0 1 (nI 1)) i = szM V i := fld_f4 ht1 hir.1 (by decide) (by decide) (Or.inl hit)
    rw [e1, e2]
  have em3 : e_field R3 (nI i) 8 4 = some (nI (f4 V i 8)) := by
    have q := z_f4 (a := 8) y3.1.1.lk hir.1 hir.2 (by decide)
    rw [(f1_ag (a := 8) hN1 y3.agu y3.2.2 hir.2).2.2, fld_f4 ht1 hir.1 (by decide) (by decide) (Or.inl hit), fld_f4 ht1 hir.1 (by decide) (by decide) (Or.inl hit), fld_f4 ht1 hir.1 (by decide) (by decide) (Or.inl hit)] at q
    exact q
  have fA : Fn [33] [30, 31, 32, 36, 43] R R5 := ((((f1'.tr f2').tr f3').tr f4').tr f5')
  have c5w := c5.2
  have oR : OwR R5 (OkP m (crV V t 1)) := by
    have st : St N B m V tk m (crV V t 1) tk := c5w.2.2.2.1
    have o0 : OwR R (OkP m (crV V t 1)) := ot.2.wk (fun _ z => z.st st)
    have b5' : e_setBit R4 44 (nI (t - 1)) (bI true) = some R5 := by rw [es] at b5; exact b5
    exact ww_bit (b := 44) (c := t - 1) (on := true) hN y4.1 (by decide) (by omega) (by omega) b5' (ww_field (a := 8) (n := 4) hN1 hN y3.1 ht1 ht2 (by decide) (by decide) b4 (ww_field (a := 4) (n := 4) hN1 hN y2.1 ht1 ht2 (by decide) (by decide) b3 (ww_field (a := 1) (n := 1) hN1 hN y1.1 ht1 ht2 (by decide) (by decide) b2 (ww_field (a := 0) (n := 1) hN1 hN h.1.2.1 ht1 ht2 (by decide) (by decide) b1 o0 (OkP.lo hh.2)) (OkP.lo hh.2)) (OkP.lo hh.2)) (OkP.lo hh.2)) (OkP.lo (by decide))
  have hd2 : f1 (crV V t 1) d 0 = 2 := by rw [(w2 d hdd).1, if_neg (fun z => htd z.symm)]; exact hk
  have ht2' : f1 (crV V t 1) t 0 ≠ 0 := by rw [(w2 t ht).1, if_pos rfl]; decide
  have ewt : wtM (crV V t 1) d = wtM V d := wtM_cg h.2.1.s w1 hN1 hdd hk hd2 (w2 d hdd).2.2.1 (fun s hs => cr_sln h.2.1.s hN1 ht htk (Or.inl rfl) hdd hk hs) (w2 d hdd).2.2.2
  have wg : WKg t (nI (szM V i)) (nI (f4 V i 8)) N B gr (rr + wtM (crV V t 1) d) (m, V, tk) ([44, homeM t] ++ []) A1 D1 R5 m (crV V t 1) tk (fun j => 0 + if j = t then 1 else 0) := ⟨⟨c5.1.1, y5⟩, c5w.1, c5w.2.1.wkn (by rw [ewt]; omega), ⟨c5w.2.2.1.1, oR⟩, c5w.2.2.2⟩
  have hTp1 : TpR D1 R5 tp := ⟨hTp.1, fun j => by rw [show cA D1 1 = cA D 1 from c7.2 1 (by decide)]; exact hTp.2.1 j, fun j hj => by rw [fA.1.2.1 4 (by decide)]; exact hTp.2.2 j hj⟩
  have hC1 : PthC50 D1 k st ln := ⟨(c7.1 5002 (by decide)).trans hC.1, hC.2.1, fun j hj => by
    rw [show cA D1 51 = cA D 51 from c7.2 51 (by decide), show cA D1 52 = cA D 52 from c7.2 52 (by decide)]
    exact hC.2.2 j hj⟩
  refine ⟨A1, D1, R1, R2, R3, R4, R5, c1, b1, b2, es2, b3, em3, b4, b5, fA, ?_⟩
  rcases w_add50g (fun z => htd z.symm) hN1 hN hdd hd2 wg ht ht2' hTp1 hC1 hNm hk1 with ⟨A2, D2, R6, m', W, tk', l2, a1, a2, a3, a4, a5, a6, a7, a8, a9, a10, a11⟩ | ⟨A', D', R', a1, a2, a3, a4, a5⟩
  · have ek : ∀ j, ir j → f1 W j 0 = if j = t then 1 else f1 V j 0 := fun j hj => (a8 j hj).1.trans (w2 j hj).1
    have el : ∀ j, ir j → f1 W j 1 = if j = t then 1 else f1 V j 1 := fun j hj => (a8 j hj).2.trans (w2 j hj).2.1
    have i1 : ir 1 := ⟨Nat.le_refl _, by decide⟩
    have h1t : (1 : Nat) ≠ t := fun z => by
      rw [← z, h.2.1.2.2.2.2.2.2.1] at htk
      exact absurd htk (by decide)
    have e0 : (fun i => (0 + if i = t then (1 : Int) else 0) - (if t = i then 1 else 0)) = fun _ => (0 : Int) := by
      funext j
      by_cases c : j = t
      · rw [if_pos c, if_pos c.symm]; rfl
      · rw [if_neg c, if_neg (fun z => c z.symm)]; rfl
    rw [e0] at a4
    have pvt : ∀ x, x < 4234 → pv W t x = 0 := fun x hx => by
      rw [(a9 t ht htd).2 x hx, (w2 t ht).2.2.2 x hx]
      exact no_pv h.2.1.s ht htk x hx
    have hlm : homeM t ∈ l2 ++ ([44, homeM t] ++ []) := List.mem_append_right _ (by simp)
    obtain ⟨A3, D3, A4, D4, t1, t2, t3, t4, t5, t6, t7, t8, t9⟩ := a4.told hN1 hN (by rw [ek t ht, if_pos rfl]) hsz (fun q q1 q2 => pvt _ (px_lt q2)) hlm
    have szi : szM W i = szM V i := by rw [(a9 i hir hid).1]; exact (w2 i hir).2.2.1
    have f4i : f4 W i 8 = f4 V i 8 := by rw [a11 i hir, cr_f4 ht hir hit]
    have kW : ∀ j, ir j → f1 (fS t (nI (szM V i)) (nI (f4 V i 8)) W) j 0 = if j = t then 1 else f1 V j 0 := fun j hj => (t7 j hj).1.trans (ek j hj)
    refine Or.inl ⟨A2, D2, A3, D3, A4, D4, R6, m', _, tk', _, a1, a2, ?_, t1, ?_, t3, ?_, ?_, hlm, t4, t5.trans (a5.trans c6), c7.tr (a6.tr t6), (fA.1.wk (by decide) (by decide)).tr a7, ?_, ?_, by rw [kW t ht, if_pos rfl], by rw [(t7 t ht).2.2, if_pos rfl], by rw [(t7 i hir).2.2, if_neg hit, szi], fun x hx => by rw [t8 t x ht hx]; exact pvt x hx, fun x hx => by rw [t8 i x hir hx, (a9 i hir hid).2 x hx, (w2 i hir).2.2.2 x hx], by rw [kW i hir, if_neg hit]; exact hki⟩
    · rw [c_size hN1 hN a4.1.1 a4.2.1.1.1 hir, szi]
    · have hb43 : btO N (fldV W t 4 4 (nI (szM V i)) 43) := by rw [fld_x (by omega)]; exact a4.2.1.1.1
      rw [d_mark hir.1 hir.2 hN1 hN, (f1_ag (a := 8) hN1 t2.agu hb43 hir.2).2.2, fld_f4 ht1 hir.1 (by decide) (by decide) (Or.inl hit), f4i]
    · rw [List.length_append]
      show l2.length + 2 ≤ 8
      have := a3.1
      omega
    · rcases a3.2 with z | z
      · exact Or.inl (List.mem_append_left _ z)
      · refine Or.inr ?_
        rw [List.length_append]
        show l2.length + 2 ≤ 3
        omega
    · refine t4.2.1.wf2 (fun _ _ => rfl) (fun j hj kj hne => ?_) ?_ (fun e s he ke le hs => ?_)
      · rw [(t7 j hj).2.1, el j hj]
        by_cases c : j = t
        · rw [if_pos c]; decide
        · rw [if_neg c]
          rw [kW j hj, if_neg c] at kj
          exact h.2.1.2.2.2.2.2.2.2.2.1 j hj kj hne
      · rw [(t7 1 i1).2.1, el 1 i1, if_neg h1t]
        exact h.2.1.l1
      · rw [(t7 e he).2.1, el e he] at le
        rw [kW e he] at ke
        by_cases c : e = t
        · rw [if_pos c] at le
          exact absurd le (by decide)
        · rw [if_neg c] at le ke
          have hed : e ≠ d := fun z => hdl (by rw [← z]; exact le)
          rw [(t7 e he).2.2, if_neg c, (a9 e he hed).1, (w2 e he).2.2.1] at hs
          have kc : f1 (crV V t 1) e 0 = 2 := by rw [(w2 e he).1, if_neg c]; exact ke
          rw [t9 e s he (by rw [ek e he, if_neg c]; exact ke) (by rw [(a9 e he hed).1, (w2 e he).2.2.1]; exact hs), a10 e s he hed kc (by rw [(w2 e he).2.2.1]; exact hs), cr_sln h.2.1.s hN1 ht htk (Or.inl rfl) he ke hs]
          exact h.2.1.2.2.2.2.2.2.2.2.2.2 e s he ke le hs
    · refine ⟨?_, fun hL j hj h0 l0 => ?_⟩
      rotate_left
      · rw [kW j hj] at h0
        rw [(t7 j hj).2.1, el j hj] at l0
        by_cases c : j = t
        · rw [if_pos c] at l0
          exact absurd l0 (by decide)
        · rw [if_neg c] at h0 l0
          exact hL j hj h0 l0
      obtain ⟨q1, q2, q3⟩ := h.2.2.2.2.2.2.1
      refine ⟨q1, fun j hj h0 => ?_, fun x hx h0 => ⟨(q3 x hx h0).1, ?_⟩⟩
      · rw [kW j hj]
        by_cases c : j = t
        · rw [if_pos c]; decide
        · rw [if_neg c]; exact q2 j hj h0
      · have q4 := q3 x hx h0
        rw [kW _ q4.1, if_neg (fun z => by rw [z, htk] at q4; exact absurd q4.2 (by decide))]
        exact q4.2
  · exact Or.inr ⟨A', D', R', a1, a2, a3.fq fA.1 (by decide) (by decide), c7.tr a4, a5⟩
end PZG
