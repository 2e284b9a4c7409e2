/-! ===== the class's own object: the tape, how much of it is fed, whether it is mounted ===== -/
section GLO
def MnV (E : gE) (f : Nat → va_E) (tp : Nat → Int32) (fd : Nat) (mo : Int32) : Prop :=
  f 0 = .inr (11, [.ref (gAd E 1), .int (nI fd), .int mo, .ref (gAd E 2), .ref (gAd E 8), .ref (gAd E 13), .ref (gAd E 17), .ref (gAd E 25), .ref (gAd E 37), .ref (gAd E 32), .ref (gAd E 40), .ref (gAd E 41), .ref (gAd E 44), .ref (gAd E 47), .ref (gAd E 50), .ref (gAd E 53), .ref (gAd E 54), .ref (gAd E 55)]) ∧ f 1 = oB (gDA E) 1024 tp
def MnK (k : Nat) : Prop := k ≤ 1
theorem MnV.of {E : gE} {f g : Nat → va_E} {tp : Nat → Int32} {fd : Nat} {mo : Int32} (h : MnV E f tp fd mo) (hg : ∀ k, MnK k → g k = f k) : MnV E g tp fd mo := ⟨(hg 0 (Nat.zero_le 1)).trans h.1, (hg 1 (Nat.le_refl 1)).trans h.2⟩
theorem MnK_LDB {N B k : Nat} (h : MnK k) : ¬ LDB N B k := by
  unfold MnK LDB DBK DkK BfK LgK at *
  omega
theorem DkK_MnK {N k : Nat} (h : DkK N k) : ¬ MnK k := by
  unfold DkK MnK at *
  omega
/-- four bytes more, the highest first -/
def fdI (tp : Nat → Int32) (fd : Nat) (v : Int32) : Nat → Int32 := upd (upd (upd (upd tp fd (vp_nar .byte (v >>> ((24 : Int32) &&& 31)).toInt8.toInt32)) (fd + 1) (vp_nar .byte (v >>> ((16 : Int32) &&& 31)).toInt8.toInt32)) (fd + 2) (vp_nar .byte (v >>> ((8 : Int32) &&& 31)).toInt8.toInt32)) (fd + 3) (vp_nar .byte (v >>> ((0 : Int32) &&& 31)).toInt8.toInt32)
def fd5 (tp : Nat → Int32) (fd : Nat) (a b c d e : Int32) : Nat → Int32 := fdI (fdI (fdI (fdI (fdI tp fd a) (fd + 4) b) (fd + 8) c) (fd + 12) d) (fd + 16) e
end GLO
