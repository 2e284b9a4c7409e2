/-! ===== to rest and to wake ===== -/
section CRT
theorem wkR_out {rs rg : Nat → Int32} {p b : Nat} : ∀ k, (∀ i, i < k → ¬ (rg (p + i)).toNatClampNeg = b) → wkR rs rg p k b = rs b
  | 0, _ => rfl
  | k + 1, h => by
    have h1 := h k (by omega)
    refine (pk_un (fun e => h1 e.symm)).trans (wkR_out k (fun i hi => h i (by omega)))
theorem wkR_in {rs rg : Nat → Int32} {p b : Nat} : ∀ k, (∃ i, i < k ∧ (rg (p + i)).toNatClampNeg = b) → wkR rs rg p k b = 0
  | 0, h => by
    obtain ⟨i, hi, _⟩ := h
    omega
  | k + 1, h => by
    by_cases c : (rg (p + k)).toNatClampNeg = b
    · rw [← c]
      exact pk_us
    · obtain ⟨i, hi, e⟩ := h
      have hne : i ≠ k := fun z => c (by rw [← z]; exact e)
      exact (pk_un (fun e => c e.symm)).trans (wkR_in k ⟨i, by omega, e⟩)
theorem RsR.rest {N t m : Nat} {C : CfT} {rs : Nat → Nat} (hN : N ≤ 1024) (h : RsR N C rs) (hm : cS C 1711 = nI m) (hmN : m < N) (ht : t < N) (h0 : rs t = 0) : RsR N (sS (sA (sA C 23 (upd (cA C 23) t (vp_nar .boolean ((1 : Int32))))) 24 (upd (cA C 24) m (nI t))) 1711 ((nI m) + ((1 : Int32)))) (fun b => if b = t then 2 else rs b) := by
  obtain ⟨q, m', h1, h2, h3, h4, h5, h6, h7⟩ := h
  have e : m = m' := nI_inj (by omega) (by omega) (hm.symm.trans h4)
  subst e
  have hne : ∀ i, i < m → ¬ cA C 24 i = nI t := fun i hi z => by
    obtain ⟨b, b1, b2, b3⟩ := h5 i hi
    have : b = t := nI_inj (by omega) (by omega) (b2.symm.trans z)
    rw [this, h0] at b3
    split at b3 <;> omega
  have up : ∀ i, i < m → upd (cA C 24) m (nI t) i = cA C 24 i := fun i hi => pk_un (by omega)
  refine ⟨q, m + 1, by omega, by omega, h3, nI_1 m, fun i hi => ?_, fun i j hi hj e => ?_, fun b hb => ?_⟩
  · show ∃ b, b < N ∧ upd (cA C 24) m (nI t) i = nI b ∧ (if b = t then 2 else rs b) = _
    by_cases c : i = m
    · exact ⟨t, ht, by rw [c, pk_us], by rw [if_pos rfl, if_neg (by omega)]⟩
    · obtain ⟨b, b1, b2, b3⟩ := h5 i (by omega)
      have hbt : b ≠ t := fun z => hne i (by omega) (by rw [b2, z])
      exact ⟨b, b1, by rw [up i (by omega)]; exact b2, by rw [if_neg hbt]; exact b3⟩
  · have e : upd (cA C 24) m (nI t) i = upd (cA C 24) m (nI t) j := e
    by_cases c : i = m
    · by_cases c2 : j = m
      · omega
      · rw [c, pk_us, up j (by omega)] at e
        exact absurd e.symm (hne j (by omega))
    · by_cases c2 : j = m
      · rw [c2, pk_us, up i (by omega)] at e
        exact absurd e (hne i (by omega))
      · rw [up i (by omega), up j (by omega)] at e
        exact h6 i j (by omega) (by omega) e
  · show ((if b = t then 2 else rs b) = 0 ∧ upd (cA C 23) t (vp_nar .boolean ((1 : Int32))) b = 0) ∨ (upd (cA C 23) t (vp_nar .boolean ((1 : Int32))) b = 1 ∧ ∃ i, i < m + 1 ∧ upd (cA C 24) m (nI t) i = nI b)
    by_cases c : b = t
    · rw [c, pk_us]
      exact Or.inr ⟨rfl, m, by omega, pk_us⟩
    · rw [if_neg c, pk_un c]
      rcases h7 b hb with z | ⟨z1, i, z2, z3⟩
      · exact Or.inl z
      · exact Or.inr ⟨z1, i, by omega, by rw [up i z2]; exact z3⟩
theorem RsR.chg {N m : Nat} {C C' : CfT} {rs : Nat → Nat} (h : RsR N C rs) (hN : N ≤ 1024) (hm : cS C 1711 = nI m) (hm2 : m < 2 ^ 31) (e1 : cS C' 1711 = cS C 1711) (e2 : cS C' 1712 = nI m) (e3 : cA C' 23 = cA C 23) (e4 : cA C' 24 = cA C 24) : RsR N C' (fun b => if rs b = 2 then 1 else rs b) := by
  obtain ⟨q, m', h1, h2, h3, h4, h5, h6, h7⟩ := h
  have e : m = m' := nI_inj hm2 (by omega) (hm.symm.trans h4)
  subst e
  refine ⟨m, m, Nat.le_refl _, h2, e2, e1.trans h4, fun i hi => ?_, fun i j hi hj e => ?_, fun b hb => ?_⟩
  · obtain ⟨b, b1, b2, b3⟩ := h5 i hi
    refine ⟨b, b1, by rw [e4]; exact b2, ?_⟩
    rw [if_pos hi]
    show (if rs b = 2 then 1 else rs b) = 1
    by_cases c : i < q
    · rw [if_pos c] at b3
      rw [b3]
      rfl
    · rw [if_neg c] at b3
      rw [if_pos b3]
  · rw [e4] at e
    exact h6 i j hi hj e
  · rw [e3, e4]
    rcases h7 b hb with ⟨z1, z2⟩ | z
    · exact Or.inl ⟨by show (if rs b = 2 then 1 else rs b) = 0; rw [z1]; rfl, z2⟩
    · exact Or.inr z
theorem RsR.none {N q m : Nat} {C : CfT} {rs : Nat → Nat} (hN : N ≤ 1024) (h : RsR N C rs) (hq : cS C 1712 = nI q) (hm : cS C 1711 = nI m) (hq2 : q < 2 ^ 31) (hm2 : m < 2 ^ 31) : RsR N (sS (sA C 23 (wkR (cA C 23) (cA C 24) q (m - q))) 1711 (nI q)) (fun b => if rs b = 2 then 0 else rs b) := by
  obtain ⟨q', m', h1, h2, h3, h4, h5, h6, h7⟩ := h
  have e : m = m' := nI_inj hm2 (by omega) (hm.symm.trans h4)
  have e' : q = q' := nI_inj hq2 (by omega) (hq.symm.trans h3)
  subst e
  subst e'
  refine ⟨q, q, Nat.le_refl _, by omega, h3, rfl, fun i hi => ?_, fun i j hi hj e => h6 i j (by omega) (by omega) e, fun b hb => ?_⟩
  · obtain ⟨b, b1, b2, b3⟩ := h5 i (by omega)
    rw [if_pos hi] at b3
    exact ⟨b, b1, b2, by show (if rs b = 2 then 0 else rs b) = _; rw [b3, if_pos hi]; rfl⟩
  · show ((if rs b = 2 then 0 else rs b) = 0 ∧ wkR (cA C 23) (cA C 24) q (m - q) b = 0) ∨ (wkR (cA C 23) (cA C 24) q (m - q) b = 1 ∧ ∃ i, i < q ∧ cA C 24 i = nI b)
    by_cases c : ∃ i, i < m - q ∧ (cA C 24 (q + i)).toNatClampNeg = b
    · rw [wkR_in _ c]
      obtain ⟨i, i1, i2⟩ := c
      obtain ⟨d, d1, d2, d3⟩ := h5 (q + i) (by omega)
      rw [d2, nI_clamp (by omega)] at i2
      rw [if_neg (by omega), i2] at d3
      exact Or.inl ⟨if_pos d3, rfl⟩
    · rw [wkR_out _ (fun i hi z => c ⟨i, hi, z⟩)]
      rcases h7 b hb with ⟨z1, z2⟩ | ⟨z1, i, z2, z3⟩
      · exact Or.inl ⟨by rw [z1]; rfl, z2⟩
      · by_cases ci : i < q
        · exact Or.inr ⟨z1, i, ci, z3⟩
        · exact absurd ⟨i - q, by omega, by rw [show q + (i - q) = i by omega, z3, nI_clamp (by omega)]⟩ c
end CRT
