/-! ===== pure: steps inside a call ===== -/
section PWZ
variable {N B gr r : Nat} {V : Nat → Rw} {m : M5} {tk : Nat → Bool} {i : Nat} {ow : Nat → Int} {s0 : S3} {l : List Nat} {A : MS} {D : CfT} {R : RfT}
theorem OkP.lo {b : Nat} (h : b < 61) : OkP m V b := Or.inl h
theorem w_links {v : Nat} (hN1 : 61 ≤ N) (hN : N ≤ 1024) (h : WK N B gr r s0 l A D R m V tk ow) (hi : ir i) (hk : f1 V i 0 ≠ 0) (hv : v < 256) : ∃ A' D' R', d_X7_setLinks N A D (nI i) (nI v) = some (A', D') ∧ e_setField R (nI i) 1 1 (nI v) = some R' ∧ WK N B gr r s0 ([homeM i] ++ l) A' D' R' m (fldV V i 1 1 (nI v)) tk (fun j => ow j + if j = i then (v : Int) - (f1 V i 1 : Int) else 0) ∧ gA A' = gA A ∧ Dt D D' ∧ Fn [33] [30, 31, 32, 36, 43] R R' := by
  have hh := ir_home hi
  obtain ⟨A', D', R', a1, a2, a3, a4, a5, a6⟩ := j_setLinks (i := i) (v := nI v) hN1 hN h.1 hi.1 hi.2
  refine ⟨A', D', R', a1, a2, ?_, a4, a5, a6⟩
  have hpv : ∀ j x, ir j → x < 4234 → pv (fldV V i 1 1 (nI v)) j x = pv V j x := fun j x hj hx => pv_fld hi.2 hi.1 hj.1 (by decide) (fun y hy _ => (h.2.1.1.2.1 j y hj (by omega)).imp id (fun z => z.1)) x hx
  exact h.chg hN1 a3 (h.2.1.links hi hk hv).1 (h.2.2.1.v (fld_x (by omega))) (St.same hpv (fun j hj => Or.inl (fld_f1 hi.1 hj.1 (by decide) (by decide) (Or.inr (Or.inl (by decide)))))) (fun o1 o2 => ⟨ow_links hi.1 hi.2 a1 o1 (OkP.lo hh.2), ww_field (a := 1) (n := 1) hN1 hN h.1.2.1 hi.1 hi.2 (by decide) (by decide) a2 o2 (OkP.lo hh.2)⟩) (Chg.one (fun c _ hc => fld_x hc))
theorem w_mark {v : Int32} (hN1 : 61 ≤ N) (hN : N ≤ 1024) (h : WK N B gr r s0 l A D R m V tk ow) (hi : ir i) (hk : f1 V i 0 ≠ 0) : ∃ A' D' R', d_X7_setMark N A D (nI i) v = some (A', D') ∧ e_setField R (nI i) 8 4 v = some R' ∧ WK N B gr r s0 ([homeM i] ++ l) A' D' R' m (fldV V i 8 4 v) tk ow ∧ gA A' = gA A ∧ Dt D D' ∧ Fn [33] [30, 31, 32, 36, 43] R R' := by
  have hh := ir_home hi
  obtain ⟨A', D', R', a1, a2, a3, a4, a5, a6⟩ := j_setMark (i := i) (v := v) hN1 hN h.1 hi.1 hi.2
  refine ⟨A', D', R', a1, a2, ?_, a4, a5, a6⟩
  have hpv : ∀ j x, ir j → x < 4234 → pv (fldV V i 8 4 v) j x = pv V j x := fun j x hj hx => pv_fld hi.2 hi.1 hj.1 (by decide) (fun y hy _ => (h.2.1.1.2.1 j y hj (by omega)).imp id (fun z => z.1)) x hx
  have esz : szM (fldV V i 8 4 v) i = szM V i := fld_sz hi (by decide) (Or.inr (by decide))
  have hpz := h.2.1.pz hi
  obtain ⟨w1, w2, w3, w4⟩ := h.2.1.fc hi (fld_c (a := 8) (n := 4) (v := v) hi (by decide) (by decide)) hk (by rw [esz]; exact hpz.1) (fun q q1 q2 => hpz.2 q (by rw [esz] at q1; exact q1) q2) (fun _ => esz)
  have el : f1 (fldV V i 8 4 v) i 1 = f1 V i 1 := fld_f1 hi.1 hi.1 (by decide) (by decide) (Or.inr (Or.inl (by decide)))
  have w1 : WFs N (fldV V i 8 4 v) ow := WFs.owe w1 (fun j _ => by
    rw [el]
    split <;> omega)
  exact h.chg hN1 a3 w1 (h.2.2.1.v (fld_x (by omega))) (St.same hpv (fun j hj => Or.inl (fld_f1 hi.1 hj.1 (by decide) (by decide) (Or.inr (Or.inl (by decide)))))) (fun o1 o2 => ⟨ow_mark hi.1 hi.2 a1 o1 (OkP.lo hh.2), ww_field (a := 8) (n := 4) hN1 hN h.1.2.1 hi.1 hi.2 (by decide) (by decide) a2 o2 (OkP.lo hh.2)⟩) (Chg.one (fun c _ hc => fld_x hc))
/-- a file's size is set, where no block lies beyond it -/
theorem w_size {s : Nat} (hN1 : 61 ≤ N) (hN : N ≤ 1024) (h : WK N B gr r s0 l A D R m V tk ow) (hi : ir i) (hk : f1 V i 0 = 1) (hs : s ≤ 400000) (hz : ∀ q, bfM s ≤ q → q < 4168 → pv V i (px q) = 0) : ∃ A' D' R', d_X7_setSize N A D (nI i) (nI s) = some (A', D') ∧ e_setField R (nI i) 4 4 (nI s) = some R' ∧ WK N B gr r s0 ([homeM i] ++ l) A' D' R' m (fldV V i 4 4 (nI s)) tk ow ∧ gA A' = gA A ∧ Dt D D' ∧ Fn [33] [30, 31, 32, 36, 43] R R' := by
  have hh := ir_home hi
  obtain ⟨A', D', R', a1, a2, a3, a4, a5, a6⟩ := j_setSize (i := i) (v := nI s) hN1 hN h.1 hi.1 hi.2
  refine ⟨A', D', R', a1, a2, ?_, a4, a5, a6⟩
  have hpv : ∀ j x, ir j → x < 4234 → pv (fldV V i 4 4 (nI s)) j x = pv V j x := fun j x hj hx => pv_fld hi.2 hi.1 hj.1 (by decide) (fun y hy _ => (h.2.1.1.2.1 j y hj (by omega)).imp id (fun z => z.1)) x hx
  have esz : szM (fldV V i 4 4 (nI s)) i = s := by
    rw [(fld_s4 (V := V) hi (show s < 2 ^ 31 by omega)).2.2.1 i hi, if_pos rfl]
  obtain ⟨w1, w2, w3, w4⟩ := h.2.1.fc hi (fld_c (a := 4) (n := 4) (v := nI s) hi (by decide) (by decide)) (by rw [hk]; decide) (by rw [esz]; exact hs) (fun q q1 q2 => hz q (by rw [esz] at q1; exact q1) q2) (fun z => by rw [hk] at z; cases z)
  have el : f1 (fldV V i 4 4 (nI s)) i 1 = f1 V i 1 := fld_f1 hi.1 hi.1 (by decide) (by decide) (Or.inr (Or.inl (by decide)))
  have w1 : WFs N (fldV V i 4 4 (nI s)) ow := WFs.owe w1 (fun j _ => by
    rw [el]
    split <;> omega)
  exact h.chg hN1 a3 w1 (h.2.2.1.v (fld_x (by omega))) (St.same hpv (fun j hj => Or.inl (fld_f1 hi.1 hj.1 (by decide) (by decide) (Or.inr (Or.inl (by decide)))))) (fun o1 o2 => ⟨ow_size hi.1 hi.2 a1 o1 (OkP.lo hh.2), ww_field (a := 4) (n := 4) hN1 hN h.1.2.1 hi.1 hi.2 (by decide) (by decide) a2 o2 (OkP.lo hh.2)⟩) (Chg.one (fun c _ hc => fld_x hc))
theorem w_create {t kd : Nat} (hN1 : 61 ≤ N) (hN : N ≤ 1024) (h : WK N B gr r s0 l A D R m V tk ow) (ht : ir t) (hk0 : f1 V t 0 = 0) (hkd : kd = 1 ∨ kd = 2) (hl : d_X7_lowestFree N (vA A) D = some (nI t)) : ∃ A' D' R1 R2 R', d_X7_create N A D (nI kd) = some (nI t, A', D') ∧ e_setField R (nI t) 0 1 (nI kd) = some R1 ∧ e_setField R1 (nI t) 1 1 1 = some R2 ∧ e_setBit R2 44 (nI t - 1) 1 = some R' ∧ WK N B gr r s0 ([44, homeM t] ++ l) A' D' R' m (crV V t kd) tk (fun j => ow j + if j = t then 1 else 0) ∧ gA A' = gA A ∧ Dt D D' ∧ Fn [33] [30, 31, 32, 36, 43] R R' := by
  have hh := ir_home ht
  have ht1 := ht.1
  have ht2 := ht.2
  obtain ⟨A', D', a1, a2, a3, a4⟩ := c_create (kd := kd) hN1 hN h.1.1 ht hl
  obtain ⟨R1, b1, b1y, b1f⟩ := y_setField (a := 0) (n := 1) (v := nI kd) hN1 hN h.1.2 ht.1 ht.2 (by decide) (by decide)
  obtain ⟨R2, b2, b2y, b2f⟩ := y_setField (a := 1) (n := 1) (v := nI 1) hN1 hN b1y ht.1 ht.2 (by decide) (by decide)
  obtain ⟨R3, b3, -, -⟩ := y_bit44 (c := t - 1) (on := true) hN1 hN b2y (by omega)
  obtain ⟨R1', R2', R3', c1, c2, c3, c4, c5⟩ := y_create (kd := kd) hN1 hN h.1.2 ht
  have b1 : e_setField R (nI t) 0 1 (nI kd) = some R1 := b1
  have b2 : e_setField R1 (nI t) 1 1 1 = some R2 := b2
  have es : nI t - 1 = nI (t - 1) := by
    show nI t - nI 1 = _
    rw [pk_sub ht1]
  have e1 := Option.some.inj (c1.symm.trans b1)
  rw [e1] at c2
  have e2 := Option.some.inj (c2.symm.trans b2)
  rw [e2] at c3
  have b3' : e_setBit R2 44 (nI t - 1) 1 = some R3 := by rw [es]; exact b3
  have e3 := Option.some.inj (c3.symm.trans b3')
  rw [e3] at c3 c4 c5
  obtain ⟨w1, w2, w3, w4⟩ := h.2.1.cr hN1 ht hk0 hkd
  have pz : ∀ x, x < 4234 → pv V t x = 0 := fun x hx => by
    have z10 : ∀ y, y < 10 → pv V t y = 0 := fun y hy => by
      rw [pv_10 hy]
      have q := h.2.1.2.2.1 t ht hk0
      unfold n2
      rw [q _ (by omega), show startM t + (12 + 2 * y) + 1 = startM t + (12 + 2 * y + 1) by omega, q _ (by omega)]
    have z138 : ∀ y, y < 138 → pv V t y = 0 := fun y hy => by
      by_cases c : y < 10
      · exact z10 y c
      · rw [pv_at (by omega), ph_hx (by omega) (by omega), if_pos (z10 _ (hx_lo hy))]
    by_cases c : x < 138
    · exact z138 x c
    · rw [pv_at hx, ph_hx (by omega) hx, if_pos (z138 _ (hx_lt hx))]
  refine ⟨A', D', R1, R2, R3, a1, b1, b2, c3, ?_, a3, a4, c5⟩
  refine h.chg hN1 ⟨a2, c4⟩ w1 (h.2.2.1.v ?_) (St.same (fun j x hj hx => (w2 j hj).2.2.2 x hx) (fun j hj => ?_)) (fun o1 o2 => ⟨ow_create ht1 ht2 a1 o1 (OkP.lo (by decide)) (OkP.lo hh.2), ?_⟩) (fun b u1 u2 hc => ?_)
  · unfold crV
    rw [fld_x (by omega), fld_x (by omega), vU_n (by decide)]
  · by_cases c : j = t
    · exact Or.inr (by rw [c]; exact pz)
    · refine Or.inl ?_
      rw [(w2 j hj).1, if_neg c]
  · exact ww_bit (b := 44) (c := t - 1) (on := true) hN b2y.1 (by decide) (by omega) (by omega) b3 (ww_field (a := 1) (n := 1) hN1 hN b1y.1 ht1 ht2 (by decide) (by decide) b2 (ww_field (a := 0) (n := 1) hN1 hN h.1.2.1 ht1 ht2 (by decide) (by decide) b1 o2 (OkP.lo hh.2)) (OkP.lo hh.2)) (OkP.lo (by decide))
  · by_cases q1 : b = 44
    · exact Or.inr (by rw [q1]; exact List.mem_cons_self ..)
    · by_cases q2 : b = homeM t
      · exact Or.inr (by rw [q2]; exact List.mem_cons_of_mem _ (List.mem_cons_self ..))
      · refine Or.inl (hc.imp id (fun z => ?_))
        have e : crV V t kd b = V b := by
          unfold crV
          rw [fld_x q2, fld_x q2, vU_n q1]
        rw [← e]
        exact z
end PWZ
