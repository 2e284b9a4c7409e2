/-! ===== mount: the class forgets what it knew ===== -/
section PXX14
variable {N B gr : Nat}
theorem sA_n {C : CfT} {k j : Nat} {x : Nat → Int32} (h : j ≠ k) : cA (sA C k x) j = cA C j := if_neg h
theorem sA_e {C : CfT} {k : Nat} {x : Nat → Int32} : cA (sA C k x) k = x := if_pos rfl
theorem up_0 {g : Nat → Int32} {t b : Nat} : upd g t 0 b = g b ∨ upd g t 0 b = 0 := by
  by_cases c : b = t
  · rw [c]
    exact Or.inr pk_us
  · exact Or.inl (pk_un c)
theorem m_dis {n : Nat} {tc : Nat → Nat} (hN : N ≤ 1024) (hn : n ≤ N) : ∀ (d k fu : Nat) (C : CfT), k + d = n → d < fu → cS C 2508 = nI n → (∀ i, i < n → tc i < N ∧ cA C 29 i = nI (tc i)) → ∃ C', q_X10_disown_2 N B gr fu C (nI k) = some C' ∧ C'.1 = upd C.1 2508 0 ∧ (∀ j, j ≠ 27 → j ≠ 28 → cA C' j = cA C j) ∧ C'.2.2 = C.2.2 ∧ ∀ b, (cA C' 27 b = cA C 27 b ∨ cA C' 27 b = 0) ∧ (cA C' 28 b = cA C 28 b ∨ cA C' 28 b = 0) ∧ ∀ i, k ≤ i → i < n → tc i = b → cA C' 27 b = 0 ∧ cA C' 28 b = 0 := by
  intro d
  induction d with
  | zero =>
    intro k fu C e hf h8 ht
    obtain ⟨fu, rfl⟩ : ∃ x, fu = x + 1 := ⟨fu - 1, by omega⟩
    have e : k = n := e
    refine ⟨sS C 2508 0, ?_, rfl, fun _ _ _ => rfl, rfl, fun b => ⟨Or.inl rfl, Or.inl rfl, fun i h1 h2 => by omega⟩⟩
    rw [q_X10_disown_2, h8, if_pos (by rw [e]; exact nI_le (Nat.le_refl _) (by omega))]
    rfl
  | succ d ih =>
    intro k fu C e hf h8 ht
    obtain ⟨fu, rfl⟩ : ∃ x, fu = x + 1 := ⟨fu - 1, by omega⟩
    obtain ⟨t1, t2⟩ := ht k (by omega)
    obtain ⟨C', c1, c2, c3, c4, c5⟩ := ih (k + 1) fu (sA (sA C 27 (upd (cA C 27) (tc k) 0)) 28 (upd (cA C 28) (tc k) 0)) (by omega) (by omega) h8 ht
    refine ⟨C', ?_, c2, fun j h1 h2 => (c3 j h1 h2).trans ((sA_n h2).trans (sA_n h1)), c4, fun b => ?_⟩
    · rw [q_X10_disown_2, h8, if_neg (nI_ge (by omega) (by omega)), ld_n (by omega) (by omega), t2, stA_n t1 (by omega), show cA (sA C 27 (upd (cA C 27) (tc k) (vp_nar .boolean ((0 : Int32))))) 29 = cA C 29 from sA_n (by decide), ld_n (by omega) (by omega), t2, stA_n t1 (by omega), nI_1, show cA (sA C 27 (upd (cA C 27) (tc k) (vp_nar .boolean ((0 : Int32))))) 28 = cA C 28 from sA_n (by decide)]
      exact c1
    · obtain ⟨p1, p2, p3⟩ := c5 b
      have e27 : cA (sA (sA C 27 (upd (cA C 27) (tc k) 0)) 28 (upd (cA C 28) (tc k) 0)) 27 = upd (cA C 27) (tc k) 0 := (sA_n (by decide)).trans sA_e
      have e28 : cA (sA (sA C 27 (upd (cA C 27) (tc k) 0)) 28 (upd (cA C 28) (tc k) 0)) 28 = upd (cA C 28) (tc k) 0 := sA_e
      rw [e27] at p1
      rw [e28] at p2
      refine ⟨?_, ?_, fun i h1 h2 h3 => ?_⟩
      · rcases p1 with q | q
        · rw [q]
          exact up_0
        · exact Or.inr q
      · rcases p2 with q | q
        · rw [q]
          exact up_0
        · exact Or.inr q
      · by_cases c : i = k
        · rw [c] at h3
          rw [h3, pk_us] at p1 p2
          exact ⟨p1.elim id id, p2.elim id id⟩
        · exact p3 i (by omega) h2 h3
theorem m_wkn {m : Nat} (hN : N ≤ 1024) (hm : m ≤ N) : ∀ (d k fu : Nat) (C : CfT), k + d = m → d < fu → cS C 1711 = nI m → (∀ i, i < m → ∃ b, b < N ∧ cA C 24 i = nI b) → ∃ C', q_X9_wakeForNone_5 N B gr fu C (nI k) = some C' ∧ C'.1 = upd C.1 1711 (cS C 1712) ∧ (∀ j, j ≠ 23 → cA C' j = cA C j) ∧ C'.2.2 = C.2.2 ∧ ∀ b, b < N → (cA C' 23 b = cA C 23 b ∨ cA C' 23 b = 0) ∧ ∀ i, k ≤ i → i < m → cA C 24 i = nI b → cA C' 23 b = 0 := by
  intro d
  induction d with
  | zero =>
    intro k fu C e hf h8 ht
    obtain ⟨fu, rfl⟩ : ∃ x, fu = x + 1 := ⟨fu - 1, by omega⟩
    have e : k = m := e
    refine ⟨sS C 1711 (cS C 1712), ?_, rfl, fun _ _ => rfl, rfl, fun b _ => ⟨Or.inl rfl, fun i h1 h2 => by omega⟩⟩
    rw [q_X9_wakeForNone_5, h8, if_pos (by rw [e]; exact nI_le (Nat.le_refl _) (by omega))]
    rfl
  | succ d ih =>
    intro k fu C e hf h8 ht
    obtain ⟨fu, rfl⟩ : ∃ x, fu = x + 1 := ⟨fu - 1, by omega⟩
    obtain ⟨t, t1, t2⟩ := ht k (by omega)
    obtain ⟨C', c1, c2, c3, c4, c5⟩ := ih (k + 1) fu (sA C 23 (upd (cA C 23) t 0)) (by omega) (by omega) h8 ht
    refine ⟨C', ?_, c2, fun j h1 => (c3 j h1).trans (sA_n h1), c4, fun b hb => ?_⟩
    · rw [q_X9_wakeForNone_5, h8, if_neg (nI_ge (by omega) (by omega)), ld_n (by omega) (by omega), t2, stA_n t1 (by omega), nI_1]
      exact c1
    · obtain ⟨p1, p3⟩ := c5 b hb
      have e23 : cA (sA C 23 (upd (cA C 23) t 0)) 23 = upd (cA C 23) t 0 := sA_e
      rw [e23] at p1
      refine ⟨?_, fun i h1 h2 h3 => ?_⟩
      · rcases p1 with q | q
        · rw [q]
          exact up_0
        · exact Or.inr q
      · by_cases c : i = k
        · rw [c, t2] at h3
          have : t = b := nI_inj (by omega) (by omega) h3
          rw [this, pk_us] at p1
          exact p1.elim id id
        · exact p3 i (by omega) h2 h3
/-- all of the view, the queue and who rests is forgotten -/
theorem m_reset {rs : Nat → Nat} {A : MS} {C D : CfT} (hN : N ≤ 1024) (hr : RsR N C rs) (hv : VwW N C (oA A) (kA A)) (ht : TJ N A D) (hd : Dq D C) : ∃ C', q_X10_reset N B gr C = some C' ∧ (∀ j, j ∉ [2508, 1711, 1712, 1707, 1708, 2511] → cS C' j = cS C j) ∧ (∀ j, j ∈ [2508, 1711, 1712, 1707, 1708, 2511] → cS C' j = 0) ∧ (∀ j, j ∉ [27, 28, 23, 20] → cA C' j = cA C j) ∧ C'.2.2 = C.2.2 ∧ ∀ b, b < N → cA C' 27 b = 0 ∧ cA C' 28 b = 0 ∧ cA C' 23 b = 0 ∧ cA C' 20 b = -1 := by
  obtain ⟨⟨n, tc, n1, n2, n3, n4, n5⟩, ko⟩ := ht
  obtain ⟨q, m, r1, r2, r3, r4, r5, r6, r7⟩ := hr
  have h8 : cS C 2508 = nI n := (hd.1 2508 (Or.inr rfl)).trans n2
  have h29 : cA C 29 = cA D 29 := hd.2 29 (Or.inr rfl)
  obtain ⟨C1, a1, a2, a3, a4, a5⟩ := m_dis (B := B) (gr := gr) (tc := tc) hN n1 n 0 fuL C (by omega) (by rw [fuL_4]; omega) h8 (fun i hi => ⟨(n3 i hi).1, by rw [h29]; exact (n3 i hi).2.2.1⟩)
  have s1 : ∀ j, j ≠ 2508 → cS C1 j = cS C j := fun j hj => by
    show C1.1 j = C.1 j
    rw [a2, pk_un hj]
  obtain ⟨C2, b1, b2, b3, b4, b5⟩ := m_wkn (B := B) (gr := gr) (m := m) hN r2 (m - q) q fuL C1 (by omega) (by rw [fuL_4]; omega) ((s1 1711 (by decide)).trans r4) (fun i hi => by
    obtain ⟨b, x1, x2, -⟩ := r5 i hi
    exact ⟨b, x1, by rw [a3 24 (by decide) (by decide)]; exact x2⟩)
  have s2 : ∀ j, j ≠ 1711 → cS C2 j = cS C1 j := fun j hj => by
    show C2.1 j = C1.1 j
    rw [b2, pk_un hj]
  have e2 : cS C2 1711 = nI q := by
    show C2.1 1711 = _
    rw [b2, pk_us, s1 1712 (by decide)]
    exact r3
  generalize hC3 : sS (sS (sS (sA C2 20 (flt (cA C2 20) 0 N (-1))) 1707 0) 1708 0) 1712 0 = C3
  have s3 : ∀ j, j ∉ [1707, 1708, 1712] → cS C3 j = cS C2 j := fun j hj => by
    rw [← hC3]
    show upd (upd (upd C2.1 1707 0) 1708 0) 1712 0 j = _
    rw [pk_un (fun z => hj (by rw [z]; decide)), pk_un (fun z => hj (by rw [z]; decide)), pk_un (fun z => hj (by rw [z]; decide))]
  have z3 : ∀ j, j ∈ [1707, 1708, 1712] → cS C3 j = 0 := fun j hj => by
    rw [← hC3]
    have : j = 1707 ∨ j = 1708 ∨ j = 1712 := by simpa using hj
    rcases this with rfl | rfl | rfl
    · rfl
    · rfl
    · rfl
  have A3 : ∀ j, j ≠ 20 → cA C3 j = cA C2 j := fun j hj => by
    rw [← hC3]
    exact sA_n hj
  have A30 : cA C3 20 = flt (cA C2 20) 0 N (-1) := by
    rw [← hC3]
    exact sA_e
  have R3 : C3.2.2 = C2.2.2 := by
    rw [← hC3]
  obtain ⟨C4, d1, d2, d3, d4, d5⟩ := m_wkn (B := B) (gr := gr) (m := q) hN (by omega) q 0 fuL C3 (by omega) (by rw [fuL_4]; omega) ((s3 1711 (by decide)).trans e2) (fun i hi => by
    obtain ⟨b, x1, x2, -⟩ := r5 i (by omega)
    exact ⟨b, x1, by rw [A3 24 (by decide), b3 24 (by decide), a3 24 (by decide) (by decide)]; exact x2⟩)
  have s4 : ∀ j, j ≠ 1711 → cS C4 j = cS C3 j := fun j hj => by
    show C4.1 j = C3.1 j
    rw [d2, pk_un hj]
  have e4 : cS C4 1711 = 0 := by
    show C4.1 1711 = _
    rw [d2, pk_us]
    exact z3 1712 (by decide)
  refine ⟨sS C4 2511 0, ?_, fun j hj => ?_, fun j hj => ?_, fun j hj => ?_, ?_, fun b hb => ?_⟩
  · have w1 : q_X10_disown N B gr C = some C1 := a1
    have w2 : q_X9_wakeForNone N B gr C1 = some C2 := by
      rw [q_X9_wakeForNone, s1 1712 (by decide), r3]
      exact b1
    have w3 : q_X9_wakeForNone N B gr C3 = some C4 := by
      rw [q_X9_wakeForNone, z3 1712 (by decide)]
      exact d1
    rw [q_X10_reset, q_X10_discard, bnd_o w1, bnd_o w2, bnd_sm, q_X9_forget, flD, ptS, ptS, ptS, hC3, bnd_o w3, bnd_sm, ptS]
  · have : j ≠ 2508 ∧ j ≠ 1711 ∧ j ≠ 1712 ∧ j ≠ 1707 ∧ j ≠ 1708 ∧ j ≠ 2511 := by simpa using hj
    obtain ⟨j1, j2, j3, j4, j5, j6⟩ := this
    show upd C4.1 2511 0 j = _
    rw [pk_un j6]
    show cS C4 j = _
    rw [s4 j j2, s3 j (by simp [j3, j4, j5]), s2 j j2, s1 j j1]
  · have : j = 2508 ∨ j = 1711 ∨ j = 1712 ∨ j = 1707 ∨ j = 1708 ∨ j = 2511 := by simpa using hj
    rcases this with rfl | rfl | rfl | rfl | rfl | rfl
    · show cS C4 2508 = 0
      rw [s4 _ (by decide), s3 _ (by decide), s2 _ (by decide)]
      show C1.1 2508 = 0
      rw [a2, pk_us]
    · exact e4
    · show cS C4 1712 = 0
      rw [s4 _ (by decide)]
      exact z3 _ (by decide)
    · show cS C4 1707 = 0
      rw [s4 _ (by decide)]
      exact z3 _ (by decide)
    · show cS C4 1708 = 0
      rw [s4 _ (by decide)]
      exact z3 _ (by decide)
    · rfl
  · have : j ≠ 27 ∧ j ≠ 28 ∧ j ≠ 23 ∧ j ≠ 20 := by simpa using hj
    obtain ⟨j1, j2, j3, j4⟩ := this
    show cA C4 j = _
    rw [d3 j j3, A3 j j4, b3 j j3, a3 j j1 j2]
  · show C4.2.2 = _
    rw [d4, R3, b4, a4]
  · obtain ⟨p1, p2, p3⟩ := a5 b
    obtain ⟨v1, v2, v3⟩ := hv b hb
    have t27 : cA C4 27 b = cA C1 27 b := by rw [d3 27 (by decide), A3 27 (by decide), b3 27 (by decide)]
    have t28 : cA C4 28 b = cA C1 28 b := by rw [d3 28 (by decide), A3 28 (by decide), b3 28 (by decide)]
    have ow : oA A b ≠ none → cA C1 27 b = 0 ∧ cA C1 28 b = 0 := fun z => by
      obtain ⟨i, i1, i2⟩ := n5 b z
      exact p3 i (Nat.zero_le _) i1 i2
    refine ⟨?_, ?_, ?_, ?_⟩
    · show cA C4 27 b = 0
      rw [t27]
      by_cases z : oA A b = none
      · rcases v3 with v3 | v3
        · exact p1.elim (fun q => q.trans v3.1) id
        · rw [z] at v3
          cases v3.2
      · exact (ow z).1
    · show cA C4 28 b = 0
      rw [t28]
      by_cases z : kA A b = true
      · exact (ow (ko b z)).2
      · rw [if_neg z] at v2
        exact p2.elim (fun q => q.trans v2) id
    · show cA C4 23 b = 0
      obtain ⟨g1, g2⟩ := d5 b hb
      obtain ⟨k1, k2⟩ := b5 b hb
      rw [A3 23 (by decide)] at g1
      rcases r7 b hb with ⟨-, x⟩ | ⟨-, i, x1, x2⟩
      · have : cA C2 23 b = 0 := k1.elim (fun y => y.trans (by rw [a3 23 (by decide) (by decide)]; exact x)) id
        exact g1.elim (fun y => y.trans this) id
      · by_cases c : i < q
        · exact g2 i (Nat.zero_le _) c (by rw [A3 24 (by decide), b3 24 (by decide), a3 24 (by decide) (by decide)]; exact x2)
        · have : cA C2 23 b = 0 := k2 i (by omega) x1 (by rw [a3 24 (by decide) (by decide)]; exact x2)
          exact g1.elim (fun y => y.trans this) id
    · show cA C4 20 b = -1
      rw [d3 20 (by decide), A30]
      exact flt_at (Nat.zero_le _) hb
end PXX14
