/-! ===== the reference puts and settles as the model does ===== -/
section MDF
theorem rWrt_sl {R : RfT} {wf w b t q : Nat} : rS (rWrt R wf w b t q) 12 = sLe (rS R 12) ∧ rS (rWrt R wf w b t q) 13 = rS R 13 + 1 := by
  unfold rWrt
  split
  · unfold rPush rPop
    generalize decide (rA R 40 b = nI wf) = z
    cases z <;> exact ⟨rfl, rfl⟩
  · exact ⟨rfl, rfl⟩
theorem RDk.same {N : Nat} {D : Dk0} {R R' : RfT} {wf w : Nat} (h : RDk N D R wf w) (h40 : rA R' 40 = rA R 40) (h7 : rA R' 7 = rA R 7) (h6 : rA R' 6 = rA R 6) (h8 : rA R' 8 = rA R 8) : RDk N D R' wf w := by
  unfold RDk
  rw [h40, h7, h6, h8]
  exact h
theorem RDk.lv {N : Nat} {D : Dk0} {R : RfT} {wf w hd k b b2 : Nat} (h : RDk N D R wf w) : RDk N D (rLv R hd k b b2) wf w := h.same (rLv_A (by decide) (by decide) (by decide)) (rLv_A (by decide) (by decide) (by decide)) (rLv_A (by decide) (by decide) (by decide)) (rLv_A (by decide) (by decide) (by decide))
/-- the held value m, of block u, is written and leaves (and v is told, where it was pushed out) -/
theorem RH.out {N B : Nat} {D : Dk0} {bf : Nat → Option (Nat × Rw)} {hd sp : Nat} {pu le wr ss : Int32} {R : RfT} {m u : Nat} (hN : N ≤ 1024) (h : RH N B (D, (bf, hd, sp, pu), le, wr, ss) R) (hm : m < hd) (hu : u < N) (hmu : rA R 15 m = nI u) (v : Int32) :
    RH N B (aWr D u (bVal bf u), (bSet bf u none, hd - 1, sp, v), sLe le, wr + 1, ss) (rLe (setS (rWr R m) 20 v) m) := by
  obtain ⟨wf, w, h1, h2, h3, h4, h5, h6, h7, h8, h9⟩ := h
  have h2 : RBf N (bf, hd, sp, pu) R := h2
  have h3 : rDb R wf w B hd := h3
  have hh : hd ≤ 64 := by
    obtain ⟨-, -, -, -, ⟨-, -, e3, -, e5⟩, -, -⟩ := id h3
    omega
  obtain ⟨b, hb1, hb⟩ := h3.2.1 wf h3.1.2.1
  have hval : bVal bf u = nr (fl (rA R 17) m) := by
    rcases h2.2.2.1 u hu with ⟨q1, q2⟩ | ⟨k, q, q1, q2, q3, q4, q5⟩
    · obtain ⟨u', hu', e1, e2⟩ := h2.2.2.2 m hm
      have q1 : rA R 39 u = -1 := q1
      rw [hmu] at e1
      rw [nI_inj (by omega) (by omega) e1, e2] at q1
      exact absurd q1 (nI_m1 (by have hm2 : m < hd := hm; omega))
    · obtain ⟨u', hu', e1, e2⟩ := h2.2.2.2 m hm
      have q2 : rA R 39 u = nI k := q2
      have q1 : k < hd := q1
      rw [hmu] at e1
      rw [nI_inj (by omega) (by omega) e1, e2] at q2
      have ek : m = k := nI_inj (by omega) (by omega) q2
      unfold bVal
      rw [show bf u = some (q, nr (fl (rA R 17) k)) from q5, ek]
  have hbN : w = 256 → b < N ∧ rA R 7 wf = nI b := fun e => by
    obtain ⟨t, ht, e2⟩ := h1.2.2.2.2.1 0 (by omega)
    have : wf < 256 := h3.1.2.1
    rw [show (wf + 0) % 256 = wf by omega] at e2
    have e2 : rA R 7 wf = nI t := e2
    rw [hb] at e2
    exact ⟨by rw [nI_inj (by omega) (by omega) e2]; exact ht, hb⟩
  have ew : rWr R m = rWrt R wf w b u m := (rWr_eq h3 hb hb1 hmu (by omega)).symm
  have d1 : RDk N (aWr D u (nr (fl (rA R 17) m))) (rWrt R wf w b u m) (if w = 256 then (wf + 1) % 256 else wf) (if w = 256 then 256 else w + 1) := RDk.write h1 hN hbN hu
  have d2 : rDb (rWrt R wf w b u m) (if w = 256 then (wf + 1) % 256 else wf) (if w = 256 then 256 else w + 1) B hd := rWrt_ok h3 (by omega)
  have d3 : RBf N (bf, hd, sp, pu) (rWrt R wf w b u m) := h2.wrt
  obtain ⟨b2, hb2, e21, e22⟩ := h2.2.2.2 (hd - 1) (by show hd - 1 < hd; omega)
  have e15 : rA (rWrt R wf w b u m) 15 = rA R 15 := rWrt_A (by decide) (by decide) (by decide) (by decide)
  have m1 : rA (setS (rWrt R wf w b u m) 20 v) 15 m = nI u := by
    show rA (rWrt R wf w b u m) 15 m = nI u
    rw [e15]
    exact hmu
  have m2 : rA (setS (rWrt R wf w b u m) 20 v) 15 (hd - 1) = nI b2 := by
    show rA (rWrt R wf w b u m) 15 (hd - 1) = nI b2
    rw [e15]
    exact e21
  have d4 := rDb_20 (v := v) d2
  have el : rLe (setS (rWrt R wf w b u m) 20 v) m = rLv (setS (rWrt R wf w b u m) 20 v) hd m u b2 := (rLe_eq d4 m1 (by omega) m2 (by omega)).symm
  rw [ew, el, hval]
  obtain ⟨f1, f2⟩ := rWrt_sl (R := R) (wf := wf) (w := w) (b := b) (t := u) (q := m)
  have k12 : rS (rLv (setS (rWrt R wf w b u m) 20 v) hd m u b2) 12 = sLe (rS R 12) := (rLv_S (by decide)).trans f1
  have k13 : rS (rLv (setS (rWrt R wf w b u m) 20 v) hd m u b2) 13 = rS R 13 + 1 := (rLv_S (by decide)).trans f2
  have k14 : rS (rLv (setS (rWrt R wf w b u m) 20 v) hd m u b2) 14 = rS R 14 := (rLv_S (by decide)).trans (rWrt_S (by decide) (by decide) (by decide) (by decide))
  have k11 : rS (rLv (setS (rWrt R wf w b u m) 20 v) hd m u b2) 11 = rS R 11 := (rLv_S (by decide)).trans (rWrt_S (by decide) (by decide) (by decide) (by decide))
  have d5 : RBf N (bf, hd, sp, v) (setS (rWrt R wf w b u m) 20 v) := ⟨d3.1, rfl, d3.2.2.1, d3.2.2.2⟩
  refine ⟨_, _, RDk.lv (R := setS (rWrt R wf w b u m) 20 v) d1, RBf.lv hN hh d5 hm m1 hu m2 hb2, rLv_ok d4 hm m1 (by omega) m2 (by omega), BsOk.less (N := N) h4, h5, ?_, ?_, ?_, ?_⟩
  · rw [k12, h6]
  · rw [k13, h7]
  · rw [k14, h8]
  · rw [k11]
    exact h9
/-- out of a state with the power on: the power has failed -/
def RF (N : Nat) (o : Hw) (R : RfT) : Prop := ∃ wf w, RDk N o.1 R wf w ∧ (rS R 9 = nI wf ∧ wf < 256 ∧ rS R 10 = nI w ∧ w ≤ 256) ∧ (∀ k, k < 256 → ∃ t, t < 1024 ∧ rA R 7 k = nI t) ∧ rS R 13 = o.2.2.2.1 ∧ rS R 14 = o.2.2.2.2 ∧ rS R 11 = 0 ∧ rS R 12 = -1 ∧ rS R 20 = o.2.1.2.2.2 ∧ rWh R = lI o.2.1.2.2.1
theorem RH.fails {N B : Nat} {h : Hw} {R : RfT} (n : Nat) (hr : RH N B h R) : RF N h (rFl R n) := by
  obtain ⟨wf, w, h1, h2, h3, h4, h5, h6, h7, h8, h9⟩ := hr
  exact ⟨wf, w, h1.same rfl rfl rfl rfl, h3.1, h3.2.1, h7, h8, rfl, rfl, h2.2.1, h2.1⟩
theorem RH.pl {N B t j a : Nat} {x : Rw} {h : Hw} {R : RfT} (hN : N ≤ 1024) (hr : RH N B h R) (ht : t < N) (hsp : h.2.1.2.2.1 + 1 < 2 ^ 31) (hj : Byt (rA R j)) (j39 : j ≠ 39) (j15 : j ≠ 15) (j17 : j ≠ 17) (j6 : j ≠ 6) (j7 : j ≠ 7) (j8 : j ≠ 8) (j40 : j ≠ 40) (hx : nr (fun i => rA R j (a + i)) = x) :
    ((aPl N B t x h).1 = true ∧ RH N B (aPl N B t x h).2 (rHand R j a t)) ∨ ((aPl N B t x h).1 = false ∧ (aPl N B t x h).2 = h ∧ rHand R j a t = rFl R (nK R)) := by
  obtain ⟨D, ⟨bf, hd, sp, pu⟩, le, wr, ss⟩ := h
  have hr0 := hr
  obtain ⟨wf, w, h1, h2, h3, h4, h5, h6, h7, h8, h9⟩ := hr
  have h2 : RBf N (bf, hd, sp, pu) R := h2
  have h3 : rDb R wf w B hd := h3
  have h6 : rS R 12 = le := h6
  obtain ⟨-, -, -, -, ⟨g1, g2, g3, g4, g5⟩, -, -⟩ := id h3
  have hB : (rS R 2).toNatClampNeg = B := by rw [g1]; exact nI_clamp (by omega)
  have hH : nH R = hd := h3.n.2.2
  have hnone : rA R 39 t = -1 ↔ bf t = none := by
    rcases h2.2.2.1 t ht with ⟨q1, q2⟩ | ⟨k, q, q1, q2, q3, q4, q5⟩
    · exact ⟨fun _ => q2, fun _ => q1⟩
    · have q1 : k < hd := q1
      exact ⟨fun z => absurd (q2.symm.trans z) (nI_m1 (by omega)), fun z => by rw [show bf t = some (q, nr (fl (rA R 17) k)) from q5] at z; cases z⟩
  unfold rHand
  rw [if_neg (on1 h9), hH, hB]
  by_cases c1 : bf t = none
  · rw [if_pos (hnone.mpr c1)]
    by_cases c2 : hd = B
    · rw [if_pos c2]
      by_cases c3 : le = 0
      · right
        have ea : aPl N B t x (D, (bf, hd, sp, pu), le, wr, ss) = (false, D, (bf, hd, sp, pu), le, wr, ss) := by
          show (if bf t = none then _ else _) = _
          rw [if_pos c1, if_pos c2, if_pos c3]
        rw [ea, if_neg (fun z => z.2 (h6.trans c3))]
        exact ⟨rfl, rfl, rfl⟩
      · left
        rw [if_pos ⟨on1 h9, by rw [h6]; exact c3⟩]
        have hol := rOld_le (rLW R) (hd - 1)
        generalize ho : rOld (rLW R) (hd - 1) = o at *
        have hoh : o < hd := by omega
        obtain ⟨u, hu, e1, e2⟩ := h2.2.2.2 o hoh
        have hbu : ∃ q, bf u = some (q, nr (fl (rA R 17) o)) ∧ rLW R o = lI q := by
          rcases h2.2.2.1 u hu with ⟨q1, q2⟩ | ⟨k, q, q1, q2, q3, q4, q5⟩
          · exact absurd (e2.symm.trans q1) (nI_m1 (by omega))
          · have q1 : k < hd := q1
            have ek : k = o := nI_inj (by omega) (by omega) (q2.symm.trans e2)
            subst ek
            exact ⟨q, q5, q4⟩
        obtain ⟨q0, hq0, hl0⟩ := hbu
        have h5 : sp < 2 ^ 31 := h5
        have hq0s : q0 < sp := h4.1 u q0 _ hu hq0
        have hm : BMin N bf u := ⟨hu, q0, _, hq0, fun v r y hv hy => by
          rcases h2.2.2.1 v hv with ⟨p1, p2⟩ | ⟨k, q, p1, p2, p3, p4, p5⟩
          · rw [show bf v = none from p2] at hy; cases hy
          · have p1 : k < hd := p1
            have p5 : bf v = some (q, nr (fl (rA R 17) k)) := p5
            rw [p5] at hy
            cases hy
            have hrs : r < sp := h4.1 v r _ hv p5
            have := rOld_min (rLW R) (hd - 1) k (by omega)
            rw [ho, hl0, p4] at this
            exact Nat.le_of_not_lt (fun z => this ((lI_lt (by omega) (by omega)).mpr z))⟩
        have hout : bOut N bf = u := bOut_eq (b := (bf, hd, sp, pu)) h4 hm
        have ea : aPl N B t x (D, (bf, hd, sp, pu), le, wr, ss) = (true, aWr D u (bVal bf u), (bSet (bSet bf u none) t (some (sp, x)), hd, sp + 1, pu + 1), sLe le, wr + 1, ss) := by
          show (if bf t = none then _ else _) = _
          rw [if_pos c1, if_pos c2, if_neg c3, hout]
        rw [ea]
        refine ⟨rfl, ?_⟩
        have e20 : rS R 20 + 1 = pu + 1 := by rw [show rS R 20 = pu from h2.2.1]
        rw [e20]
        have hX := RH.out hN hr0 hoh hu e1 (pu + 1)
        have hjX : rA (rLe (setS (rWr R o) 20 (pu + 1)) o) j = rA R j := (rLv_A j39 j15 j17).trans (rWrt_A j6 j7 j8 j40)
        generalize rLe (setS (rWr R o) 20 (pu + 1)) o = X at hX hjX ⊢
        obtain ⟨wf', w', x1, x2, x3, x4, x5, x6, x7, x8, x9⟩ := hX
        have x2 : RBf N (bSet bf u none, hd - 1, sp, pu + 1) X := x2
        have x3 : rDb X wf' w' B (hd - 1) := x3
        have hjx : Byt (rA X j) := by rw [hjX]; exact hj
        have r1 := rHn_new (t := t) (j := j) (a := a) x3 (by omega) (by omega) hjx
        have hne : t ≠ u := by
          rintro rfl
          rw [c1] at hq0
          cases hq0
        have r2 : RBf N (bSet (bSet bf u none) t (some (sp, x)), hd, sp + 1, pu + 1) (rHn (setS X 18 (nI (hd - 1 + 1))) (hd - 1) t j a) := by
          refine RBf.hn (R := setS X 18 (nI (hd - 1 + 1))) hN (by omega) (show RBf N (bSet bf u none, hd - 1, sp, pu + 1) (setS X 18 (nI (hd - 1 + 1))) from ⟨x2.1, x2.2.1, x2.2.2.1, x2.2.2.2⟩) ht (Or.inl ⟨rfl, by omega, by rw [bSet_n hne]; exact c1⟩) ?_
          show nr (fun i => rA X j (a + i)) = x
          rw [hjX]
          exact hx
        rw [show hd - 1 + 1 = hd by omega] at r1 r2 ⊢
        exact ⟨wf', w', x1.same rfl rfl rfl rfl, r2, r1, BsOk.new (BsOk.less (hd' := hd) (pu' := pu) h4), hsp, x6, x7, x8, x9⟩
    · rw [if_neg c2]
      left
      have ea : aPl N B t x (D, (bf, hd, sp, pu), le, wr, ss) = (true, D, (bSet bf t (some (sp, x)), hd + 1, sp + 1, pu), le, wr, ss) := by
        show (if bf t = none then _ else _) = _
        rw [if_pos c1, if_neg c2]
      rw [ea]
      refine ⟨rfl, wf, w, h1.same rfl rfl rfl rfl, ?_, rHn_new h3 (by omega) (by omega) hj, BsOk.new h4, hsp, h6, h7, h8, h9⟩
      exact RBf.hn (R := setS R 18 (nI (hd + 1))) hN (by omega) (show RBf N (bf, hd, sp, pu) (setS R 18 (nI (hd + 1))) from ⟨h2.1, h2.2.1, h2.2.2.1, h2.2.2.2⟩) ht (Or.inl ⟨rfl, rfl, c1⟩) hx
  · rw [if_neg (fun z => c1 (hnone.mp z))]
    left
    have ea : aPl N B t x (D, (bf, hd, sp, pu), le, wr, ss) = (true, D, (bSet bf t (some (sp, x)), hd, sp + 1, pu), le, wr, ss) := by
      show (if bf t = none then _ else _) = _
      rw [if_neg c1]
    rw [ea]
    rcases h2.2.2.1 t ht with ⟨q1, q2⟩ | ⟨k, q, q1, q2, q3, q4, q5⟩
    · exact absurd q2 c1
    · have q1 : k < hd := q1
      have ek : (rA R 39 t).toNatClampNeg = k := by rw [show rA R 39 t = nI k from q2]; exact nI_clamp (by omega)
      rw [ek]
      refine ⟨rfl, wf, w, h1.same rfl rfl rfl rfl, ?_, rHn_old h3 q1 q3 (by omega) hj, BsOk.new h4, hsp, h6, h7, h8, h9⟩
      exact RBf.hn hN (by omega) h2 ht (Or.inr ⟨q1, rfl, q2⟩) hx
end MDF
