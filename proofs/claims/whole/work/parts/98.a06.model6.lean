/-! ===== the reference settles as the model does ===== -/
section MDG
theorem rLow_min (A : Nat → Int32) : ∀ i, i < 2 ^ 31 → 0 < i → ∃ m, m < i ∧ rLow A i = nI m ∧ ∀ k, k < i → A m ≤ A k
  | 0, _, h => absurd h (by omega)
  | i + 1, hi, _ => by
    unfold rLow
    by_cases z : i = 0
    · subst z
      rw [if_pos (Or.inl (show rLow A 0 = -1 from rfl))]
      exact ⟨0, by omega, rfl, fun k hk => by rw [show k = 0 by omega]; exact Int32.le_refl _⟩
    · obtain ⟨m, hm, e, h⟩ := rLow_min A i (by omega) (by omega)
      rw [e, nI_clamp (by omega)]
      by_cases c : A i < A m
      · rw [if_pos (Or.inr c)]
        refine ⟨i, by omega, rfl, fun k hk => ?_⟩
        by_cases ek : k = i
        · rw [ek]; exact Int32.le_refl _
        · exact Int32.le_trans (Int32.le_of_lt c) (h k (by omega))
      · rw [if_neg (fun q => q.elim (fun q => nI_m1 (by omega) q) c)]
        refine ⟨m, by omega, rfl, fun k hk => ?_⟩
        by_cases ek : k = i
        · rw [ek]; exact Int32.not_lt.mp c
        · exact h k (by omega)
theorem RH.run {N B : Nat} (hN : N ≤ 1024) : ∀ (k t : Nat) (D : Dk0) (b0 : Bf0) (le wr ss : Int32) (R : RfT), t + k = N → RH N B (D, b0, le, wr, ss) R → (∀ u, u < t → b0.1 u = none) →
    ((aRun k t (D, b0, le, wr, ss)).1 = true ∧ RH N B (aRun k t (D, b0, le, wr, ss)).2 (rSeL b0.2.1 R) ∧ (∀ u, u < N → (aRun k t (D, b0, le, wr, ss)).2.2.1.1 u = none)) ∨
    ((aRun k t (D, b0, le, wr, ss)).1 = false ∧ ∃ X n, rSeL b0.2.1 R = rFl X n ∧ RH N B (aRun k t (D, b0, le, wr, ss)).2 X)
  | 0, t, D, b0, le, wr, ss, R, e, hr, hz => by
    left
    have hd0 : b0.2.1 = 0 := by
      obtain ⟨wf, w, h1, h2, -⟩ := id hr
      have h2 : RBf N b0 R := h2
      refine Classical.byContradiction fun z => ?_
      obtain ⟨u, hu, e1, e2⟩ := h2.2.2.2 0 (by omega)
      rcases h2.2.2.1 u hu with ⟨q1, -⟩ | ⟨k, q, q1, q2, q3, q4, q5⟩
      · exact nI_m1 (n := 0) (by decide) (e2.symm.trans q1)
      · rw [hz u (by omega)] at q5
        cases q5
    rw [hd0]
    exact ⟨rfl, hr, fun u hu => hz u (by omega)⟩
  | k + 1, t, D, (bf, hd, sp, pu), le, wr, ss, R, e, hr, hz => by
    have hz : ∀ u, u < t → bf u = none := hz
    by_cases c1 : bf t = none
    · have ea : aRun (k + 1) t (D, (bf, hd, sp, pu), le, wr, ss) = aRun k (t + 1) (D, (bf, hd, sp, pu), le, wr, ss) := if_pos c1
      rw [ea]
      refine RH.run hN k (t + 1) D (bf, hd, sp, pu) le wr ss R (by omega) hr (fun u hu => ?_)
      by_cases eu : u = t
      · rw [eu]; exact c1
      · exact hz u (by omega)
    · obtain ⟨wf, w, h1, h2, h3, h4, h5, h6, h7, h8, h9⟩ := id hr
      have h2 : RBf N (bf, hd, sp, pu) R := h2
      have h3 : rDb R wf w B hd := h3
      have h6 : rS R 12 = le := h6
      obtain ⟨-, -, -, -, ⟨g1, g2, g3, g4, g5⟩, -, -⟩ := id h3
      obtain ⟨k0, q0, p1, p2, p3, p4, p5⟩ : ∃ k q, k < hd ∧ rA R 39 t = nI k ∧ rA R 15 k = nI t ∧ rLW R k = lI q ∧ bf t = some (q, nr (fl (rA R 17) k)) := by
        rcases h2.2.2.1 t (by omega) with ⟨q1, q2⟩ | q
        · exact absurd q2 c1
        · exact q
      obtain ⟨hd', rfl⟩ : ∃ m, hd = m + 1 := ⟨hd - 1, by omega⟩
      have hH : nH R = hd' + 1 := h3.n.2.2
      by_cases c2 : le = 0
      · right
        have ea : aRun (k + 1) t (D, (bf, hd' + 1, sp, pu), le, wr, ss) = (false, D, (bf, hd' + 1, sp, pu), le, wr, ss) := (if_neg c1).trans (if_pos c2)
        have es : rSeL (hd' + 1) R = rFl R (nK R) := (if_neg (on1 h9)).trans (if_neg (fun z => z.2 (h6.trans c2)))
        rw [ea]
        exact ⟨rfl, R, nK R, es, hr⟩
      · obtain ⟨m, hm, em, hmin⟩ := rLow_min (rA R 15) (hd' + 1) (by omega) (by omega)
        obtain ⟨u, hu, e1, e2⟩ := h2.2.2.2 m hm
        have eu : u = t := by
          have a1 := hmin k0 p1
          rw [e1, p3] at a1
          have a1 := (nI_leI (by omega) (by omega)).mp a1
          by_cases z : u < t
          · rcases h2.2.2.1 u hu with ⟨q1, -⟩ | ⟨k, q, q1, q2, q3, q4, q5⟩
            · exact absurd (e2.symm.trans q1) (nI_m1 (by omega))
            · exact absurd (q5.symm.trans (hz u z)) (fun w => nomatch w)
          · omega
        subst eu
        have ea : aRun (k + 1) u (D, (bf, hd' + 1, sp, pu), le, wr, ss) = aRun k (u + 1) (aWr D u (bVal bf u), (bSet bf u none, hd' + 1 - 1, sp, pu), sLe le, wr + 1, ss) := (if_neg c1).trans (if_neg c2)
        have es : rSeL (hd' + 1) R = rSeL hd' (rLe (rWr R m) m) := by
          refine ((if_neg (on1 h9)).trans (if_pos ⟨on1 h9, by rw [h6]; exact c2⟩)).trans ?_
          rw [hH, em, nI_clamp (by omega)]
        have hX := RH.out hN hr hm hu e1 pu
        have e20 : setS (rWr R m) 20 pu = rWr R m := by
          have e9 : rS (rWr R m) 20 = pu := (rWrt_S (by decide) (by decide) (by decide) (by decide)).trans h2.2.1
          show (upd (rWr R m).1 20 pu, (rWr R m).2) = rWr R m
          rw [upd_id e9]
        rw [e20] at hX
        rw [ea, es]
        refine RH.run hN k (u + 1) _ (bSet bf u none, hd' + 1 - 1, sp, pu) (sLe le) (wr + 1) ss _ (by omega) hX (fun v hv => ?_)
        show bSet bf u none v = none
        by_cases ev : v = u
        · rw [ev]; exact bSet_e
        · rw [bSet_n ev]; exact hz v (by omega)
theorem rDb_syn {R : RfT} {wf w B hd : Nat} (h : rDb R wf w B hd) : rDb (rSyn R wf w) wf 0 B hd := rSyn_ok h
theorem RH.se {N B : Nat} {h : Hw} {R : RfT} (hN : N ≤ 1024) (hr : RH N B h R) :
    ((aSe N h).1 = true ∧ RH N B (aSe N h).2 (rSett R) ∧ ∀ u, u < N → (aSe N h).2.2.1.1 u = none) ∨ ((aSe N h).1 = false ∧ ∃ X n, rSett R = rFl X n ∧ RH N B (aSe N h).2 X) := by
  obtain ⟨D, b0, le, wr, ss⟩ := h
  have hH : nH R = b0.2.1 := by
    obtain ⟨wf, w, -, -, h3, -⟩ := hr
    exact h3.n.2.2
  unfold aSe rSett
  rw [hH]
  rcases RH.run hN N 0 D b0 le wr ss R (by omega) hr (fun u hu => absurd hu (by omega)) with ⟨a1, a2, a3⟩ | ⟨a1, X, n, a2, a3⟩
  · rw [if_pos a1]
    generalize hA : aRun N 0 (D, b0, le, wr, ss) = A at a1 a2 a3 ⊢
    obtain ⟨A1, AD, Ab, Ale, Awr, Ass⟩ := A
    generalize rSeL b0.2.1 R = X at a2 ⊢
    obtain ⟨wf, w, h1, h2, h3, h4, h5, h6, h7, h8, h9⟩ := id a2
    have h6 : rS X 12 = Ale := h6
    obtain ⟨n1, n2, n3⟩ := h3.n
    by_cases c : Ale = 0
    · right
      have ea : aSn (AD, Ab, Ale, Awr, Ass) = (false, AD, Ab, Ale, Awr, Ass) := if_pos c
      have hno : rNo X (nK X) = rFl X (nK X) := if_neg (on1 h9)
      rw [if_neg (fun z => z.2 (h6.trans c)), hno, ea]
      exact ⟨rfl, X, nK X, rfl, a2⟩
    · left
      have ea : aSn (AD, Ab, Ale, Awr, Ass) = (true, aSy AD, Ab, sLe Ale, Awr, Ass + 1) := if_neg c
      rw [if_pos ⟨on1 h9, by rw [h6]; exact c⟩, ea, n1, n2]
      refine ⟨rfl, ⟨wf, 0, RDk.sync h1 hN (fun i hi => ?_), ⟨h2.1, h2.2.1, h2.2.2.1, h2.2.2.2⟩, rDb_syn h3, h4, h5, ?_, h7, ?_, h9⟩, a3⟩
      · obtain ⟨t, ht, e⟩ := h3.2.1 i hi
        exact ⟨t, by omega, e⟩
      · show (if 0 < rS X 12 then rS X 12 - 1 else rS X 12) = sLe Ale
        rw [h6]
        rfl
      · show rS X 14 + 1 = Ass + 1
        rw [show rS X 14 = Ass from h8]
  · right
    rw [if_neg (by rw [a1]; decide), a2]
    have hc : ¬ rCan (rFl X n) := fun z => z.1 rfl
    have hno : rNo (rFl X n) (nK (rFl X n)) = rFl X n := if_pos rfl
    rw [if_neg hc, hno]
    exact ⟨a1, X, n, rfl, a3⟩
end MDG
