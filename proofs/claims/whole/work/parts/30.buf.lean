/-! ===== the buffer as a value: slot of a block, block of a slot, stamps, rows, stamp, held, pushed out ===== -/
section GLK
abbrev BfT : Type := (Nat → Int32) × (Nat → Int32) × (Nat → Int32) × (Nat → Nat → Int32) × Nat × Nat × Int32
def BfK (N B k : Nat) : Prop := (8 ≤ k ∧ k ≤ 12) ∨ (350 + 2 * N ≤ k ∧ k < 350 + 2 * N + B)
def BfV (E : gE) (f : Nat → va_E) (N B : Nat) : BfT → Prop := fun (so, bo, st, ro, sp, hd, pu) =>
  f 8 = .inr (0, [.ref (gAd E 2), .ref (gAd E 9), .ref (gAd E 10), .ref (gAd E 11), .ref (gAd E 12), .int (nI sp), .int (nI hd), .int pu]) ∧ f 9 = oR (gDA E) B (rwA E (350 + 2 * N) B) ∧ f 10 = oI (gDA E) N so ∧ f 11 = oI (gDA E) B bo ∧ f 12 = oI (gDA E) B st ∧ Rws E f (350 + 2 * N) B ro
theorem BfV.of {E : gE} {f g : Nat → va_E} {N B : Nat} {b : BfT} (h : BfV E f N B b) (hg : ∀ k, BfK N B k → g k = f k) : BfV E g N B b := by
  obtain ⟨so, bo, st, ro, sp, hd, pu⟩ := b
  obtain ⟨h1, h2, h3, h4, h5, h6⟩ := h
  exact ⟨(hg 8 (Or.inl ⟨by decide, by decide⟩)).trans h1, (hg 9 (Or.inl ⟨by decide, by decide⟩)).trans h2, (hg 10 (Or.inl ⟨by decide, by decide⟩)).trans h3, (hg 11 (Or.inl ⟨by decide, by decide⟩)).trans h4, (hg 12 (Or.inl ⟨by decide, by decide⟩)).trans h5, h6.of (fun k a b => hg k (Or.inr ⟨by omega, by omega⟩))⟩
theorem DkK_BfK {N B k : Nat} (h : DkK N k) : ¬ BfK N B k := by
  unfold DkK BfK at *
  omega
/-- the slot with the least stamp, of those up to j -/
def bLeast (st : Nat → Int32) : Nat → Nat
  | 0 => 0
  | j + 1 => if st (j + 1) < st (bLeast st j) then j + 1 else bLeast st j
theorem bLeast_le (st : Nat → Int32) : ∀ j, bLeast st j ≤ j
  | 0 => Nat.le_refl 0
  | j + 1 => by
    unfold bLeast
    split
    · exact Nat.le_refl _
    · exact Nat.le_succ_of_le (bLeast_le st j)
/-- the lowest block above b that is held, of the slots below j; -1 if there is none -/
def bNext (bo st : Nat → Int32) (b : Int32) : Nat → Int32
  | 0 => -1
  | j + 1 => if 0 < st j ∧ b < bo j ∧ (bNext bo st b j = -1 ∨ bo j < bNext bo st b j) then bo j else bNext bo st b j
/-- the value's order -/
def bOk (N B : Nat) : BfT → Prop := fun (so, bo, st, ro, sp, hd, _) => 1 ≤ B ∧ B ≤ 64 ∧ hd ≤ B ∧ sp < 2 ^ 31 ∧ (∀ s, s < B → ∃ t, t < N ∧ bo s = nI t ∧ (0 < st s → so t = nI s)) ∧ (∀ t, t < N → so t = -1 ∨ ∃ s, s < B ∧ so t = nI s ∧ 0 < st s ∧ bo s = nI t) ∧ Byts ro ∧ ∀ s, s < B → 0 ≤ st s
def bDrop : BfT → Nat → BfT := fun (so, bo, st, ro, sp, hd, pu) s => (upd so (bo s).toNatClampNeg (-1), bo, upd st s 0, ro, sp, hd - 1, pu)
end GLK
