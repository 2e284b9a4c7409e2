section CRU
theorem RsR.que {N q m : Nat} {C : CfT} {rs : Nat → Nat} (hN : N ≤ 1024) (h : RsR N C rs) (hq : cS C 1712 = nI q) (hm : cS C 1711 = nI m) (hq2 : q < 2 ^ 31) (hm2 : m < 2 ^ 31) : RsR N (sS (sS (sA (sA C 23 (wkR (cA C 23) (cA C 24) 0 q)) 24 (va_cpy (cA C 24) (cA C 24) q 0 (m - q))) 1711 ((nI m) - (nI q))) 1712 ((0 : Int32))) (fun b => if rs b = 1 then 0 else rs b) := by
  obtain ⟨q', m', h1, h2, h3, h4, h5, h6, h7⟩ := h
  have e : m = m' := nI_inj hm2 (by omega) (hm.symm.trans h4)
  have e' : q = q' := nI_inj hq2 (by omega) (hq.symm.trans h3)
  subst e
  subst e'
  have cp : ∀ i, i < m - q → va_cpy (cA C 24) (cA C 24) q 0 (m - q) i = cA C 24 (q + i) := fun i hi => by
    rw [pk_cpy_in (Nat.zero_le _) (by omega)]
    rfl
  refine ⟨0, m - q, Nat.zero_le _, by omega, rfl, pk_sub h1, fun i hi => ?_, fun i j hi hj e => ?_, fun b hb => ?_⟩
  · obtain ⟨b, b1, b2, b3⟩ := h5 (q + i) (by omega)
    rw [if_neg (by omega)] at b3
    refine ⟨b, b1, (cp i hi).trans b2, ?_⟩
    show (if rs b = 1 then 0 else rs b) = _
    rw [b3, if_neg (by omega)]
    rfl
  · have e : va_cpy (cA C 24) (cA C 24) q 0 (m - q) i = va_cpy (cA C 24) (cA C 24) q 0 (m - q) j := e
    rw [cp i hi, cp j hj] at e
    have := h6 (q + i) (q + j) (by omega) (by omega) e
    omega
  · show ((if rs b = 1 then 0 else rs b) = 0 ∧ wkR (cA C 23) (cA C 24) 0 q b = 0) ∨ (wkR (cA C 23) (cA C 24) 0 q b = 1 ∧ ∃ i, i < m - q ∧ va_cpy (cA C 24) (cA C 24) q 0 (m - q) i = nI b)
    by_cases c : ∃ i, i < q ∧ (cA C 24 (0 + i)).toNatClampNeg = b
    · rw [wkR_in _ c]
      obtain ⟨i, i1, i2⟩ := c
      rw [Nat.zero_add] at i2
      obtain ⟨d, d1, d2, d3⟩ := h5 i (by omega)
      rw [d2, nI_clamp (by omega)] at i2
      rw [if_pos i1, i2] at d3
      exact Or.inl ⟨if_pos d3, rfl⟩
    · rw [wkR_out _ (fun i hi z => c ⟨i, hi, z⟩)]
      rcases h7 b hb with ⟨z1, z2⟩ | ⟨z1, i, z2, z3⟩
      · exact Or.inl ⟨by rw [z1]; rfl, z2⟩
      · by_cases ci : i < q
        · exact absurd ⟨i, ci, by rw [Nat.zero_add, z3, nI_clamp (by omega)]⟩ c
        · exact Or.inr ⟨z1, i - q, by omega, by rw [cp _ (by omega), show q + (i - q) = i by omega]; exact z3⟩
theorem RsR.sm {N : Nat} {C C' : CfT} {rs : Nat → Nat} (h : RsR N C rs) (e1 : cS C' 1711 = cS C 1711) (e2 : cS C' 1712 = cS C 1712) (e3 : cA C' 23 = cA C 23) (e4 : cA C' 24 = cA C 24) : RsR N C' rs := by
  unfold RsR
  rw [e1, e2, e3, e4]
  exact h
theorem RsR.smq {N : Nat} {C C' : CfT} {rs : Nat → Nat} (h : RsR N C rs) (hs : SmQ C C') : RsR N C' rs := h.sm (hs.1 1711 (by decide) (by decide)) (hs.1 1712 (by decide) (by decide)) (hs.2.1 23 (by decide) (by decide)) (hs.2.1 24 (by decide) (by decide))
end CRU
