/-! ===== the blocks that rest ===== -/
section CRS
theorem pigeon : ∀ (n m : Nat) (f : Nat → Nat), (∀ i, i < m → f i < n) → (∀ i j, i < m → j < m → f i = f j → i = j) → m ≤ n
  | 0, m, f, h, _ => by
    cases m with
    | zero => exact Nat.le_refl _
    | succ m => exact absurd (h 0 (by omega)) (Nat.not_lt_zero _)
  | n + 1, m, f, h, hi => by
    by_cases c : ∃ i0, i0 < m ∧ f i0 = n
    · obtain ⟨i0, h0, e0⟩ := c
      have := pigeon n (m - 1) (fun i => f (if i < i0 then i else i + 1)) (fun i hm => by
        have hlt : (if i < i0 then i else i + 1) < m := by split <;> omega
        have h1 := h _ hlt
        have h2 : f (if i < i0 then i else i + 1) ≠ n := fun e => by
          have := hi _ i0 hlt h0 (e.trans e0.symm)
          by_cases c : i < i0
          · rw [if_pos c] at this
            omega
          · rw [if_neg c] at this
            omega
        show f (if i < i0 then i else i + 1) < n
        omega) (fun i j h1 h2 e => by
        have a1 : (if i < i0 then i else i + 1) < m := by split <;> omega
        have a2 : (if j < i0 then j else j + 1) < m := by split <;> omega
        have := hi _ _ a1 a2 e
        by_cases c1 : i < i0
        · rw [if_pos c1] at this
          by_cases c2 : j < i0
          · rw [if_pos c2] at this
            exact this
          · rw [if_neg c2] at this
            omega
        · rw [if_neg c1] at this
          by_cases c2 : j < i0
          · rw [if_pos c2] at this
            omega
          · rw [if_neg c2] at this
            omega)
      omega
    · have := pigeon n m f (fun i hm => by
        have h1 := h i hm
        have h2 : f i ≠ n := fun e => c ⟨i, hm, e⟩
        omega) hi
      omega
/-- who rests: 1 for the queue, 2 for the call or the group -/
def RsR (N : Nat) (C : CfT) (rs : Nat → Nat) : Prop := ∃ q m, q ≤ m ∧ m ≤ N ∧ cS C 1712 = nI q ∧ cS C 1711 = nI m ∧ (∀ i, i < m → ∃ b, b < N ∧ cA C 24 i = nI b ∧ rs b = (if i < q then 1 else 2)) ∧ (∀ i j, i < m → j < m → cA C 24 i = cA C 24 j → i = j) ∧ ∀ b, b < N → (rs b = 0 ∧ cA C 23 b = 0) ∨ (cA C 23 b = 1 ∧ ∃ i, i < m ∧ cA C 24 i = nI b)
theorem RsR.add {N t m : Nat} {C : CfT} {rs : Nat → Nat} (hN : N ≤ 1024) (h : RsR N C rs) (hm : cS C 1711 = nI m) (hm2 : m < 2 ^ 31) (ht : t < N) (h0 : rs t = 0) : m < N := by
  obtain ⟨q, m', h1, h2, h3, h4, h5, h6, h7⟩ := h
  have e : m = m' := nI_inj hm2 (by omega) (hm.symm.trans h4)
  subst e
  have := pigeon N (m + 1) (fun i => if i < m then (cA C 24 i).toNatClampNeg else t) (fun i hi => by
    show (if i < m then (cA C 24 i).toNatClampNeg else t) < N
    by_cases c : i < m
    · rw [if_pos c]
      obtain ⟨b, b1, b2, b3⟩ := h5 i c
      rw [b2, nI_clamp (by omega)]
      exact b1
    · rw [if_neg c]
      exact ht) (fun i j hi hj e => by
    have e : (if i < m then (cA C 24 i).toNatClampNeg else t) = (if j < m then (cA C 24 j).toNatClampNeg else t) := e
    have key : ∀ k, k < m → (cA C 24 k).toNatClampNeg ≠ t := fun k hk z => by
      obtain ⟨b, b1, b2, b3⟩ := h5 k hk
      rw [b2, nI_clamp (by omega)] at z
      rw [z, h0] at b3
      split at b3 <;> omega
    by_cases c1 : i < m
    · rw [if_pos c1] at e
      by_cases c2 : j < m
      · rw [if_pos c2] at e
        obtain ⟨b, b1, b2, b3⟩ := h5 i c1
        obtain ⟨d, d1, d2, d3⟩ := h5 j c2
        rw [b2, d2, nI_clamp (by omega), nI_clamp (by omega)] at e
        exact h6 i j c1 c2 (by rw [b2, d2, e])
      · rw [if_neg c2] at e
        exact absurd e (key i c1)
    · rw [if_neg c1] at e
      by_cases c2 : j < m
      · rw [if_pos c2] at e
        exact absurd e.symm (key j c2)
      · omega)
  omega
end CRS
