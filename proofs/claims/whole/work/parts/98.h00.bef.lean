/-- what is seen of block b ahead of the call or the group -/
def befV (hw : Hw) (L : List En) (qs : List QC) (b : Nat) : Rw := oSee (qVal qs b) (oSee (lVal L b) (hSee hw b))
/-- where such a row may lie -/
def BeK (N B gr : Nat) (k : Nat) : Prop := (94 ≤ k ∧ k < 350 + N) ∨ (350 + 2 * N ≤ k ∧ k < 350 + 2 * N + B + gr * 40)
theorem HwR.sl {N B : Nat} {on : Int32} {h : Hw} {C : CfT} (c : HwR N B on h C) {b : Nat} (hb : b < N) : (cA C 10 b = -1 ∧ h.2.1.1 b = none) ∨ ∃ s, s < B ∧ cA C 10 b = nI s ∧ hSee h b = nr (cR C 3 s) := by
  obtain ⟨c1, c2, c3⟩ := c
  obtain ⟨cd, cb, r⟩ := c2
  obtain ⟨b1, b2, b3, b4⟩ := cb
  rcases b4 b hb with z | ⟨s, q, z1, z2, z3, z4, z5⟩
  · exact Or.inl z
  · exact Or.inr ⟨s, z1, z2, hSee_s z5⟩
theorem HwR.la {N B : Nat} {on : Int32} {h : Hw} {C : CfT} (c : HwR N B on h C) (hN : N ≤ 1024) {b : Nat} (hb : b < N) : (cA C 6 b = -1 ∧ aRd h.1 b = nr (cR C 1 b)) ∨ ∃ s, s < 256 ∧ cA C 6 b = nI s ∧ aRd h.1 b = nr (cR C 0 s) := by
  have e := c.rd hN hb
  obtain ⟨c1, c2, c3⟩ := c
  obtain ⟨cd, cb, dk, r⟩ := c2
  rcases dk.2.2.2.2.2 b hb with z | ⟨s, z1, z2⟩
  · refine Or.inl ⟨z, ?_⟩
    rw [← e]
    show nr (if cA C 6 b = -1 then cR C 1 b else cR C 0 (cA C 6 b).toNatClampNeg) = _
    rw [if_pos z]
  · refine Or.inr ⟨s, z1, z2, ?_⟩
    rw [← e]
    have z2 : cA C 6 b = nI s := z2
    show nr (if cA C 6 b = -1 then cR C 1 b else cR C 0 (cA C 6 b).toNatClampNeg) = _
    rw [if_neg (by rw [z2]; exact nI_m1 (by omega)), z2, nI_clamp (by omega)]
theorem HwR.by {N B : Nat} {on : Int32} {h : Hw} {C : CfT} (c : HwR N B on h C) : (∀ s, Byt (cR C 3 s)) ∧ (∀ s, Byt (cR C 1 s)) ∧ ∀ s, Byt (cR C 0 s) := by
  obtain ⟨c1, c2, c3⟩ := c
  obtain ⟨cd, cb, dk, bk, r⟩ := c2
  exact ⟨bk.2.2.2.2.2.2.1, dk.2.2.2.1, dk.2.2.2.2.1⟩
