/-! ===== pure: the numbers of inodes, as the reference reads them ===== -/
section PUD
variable {R : RfT}
/-- all places of the reference are in order -/
def lkA (R : RfT) : Prop := ∀ b, b < 1024 → lkO R b
theorem z_inodeBlock {i : Nat} (h : 1 ≤ i) (hi : i < 2 ^ 31) : e_inodeBlock R (nI i) = some (nI (homeM i)) := by
  unfold e_inodeBlock homeM
  rw [show ((1 : Int32)) = nI 1 from rfl, show ((4 : Int32)) = nI 4 from rfl, show ((45 : Int32)) = nI 45 from rfl, pk_sub h, pk_div (by omega) (by decide) (by decide), nI_add]
theorem z_field {i a n : Nat} (hl : lkA R) (h1 : 1 ≤ i) (h2 : i ≤ 64) (hn : n = 1 ∨ n = 2 ∨ n = 4) (ha : a + n ≤ 32) : e_field R (nI i) (nI a) (nI n) = some (nI (numM n (rSee R true (homeM i)) (startM i + a))) := by
  have hh := homeM_lt h2
  have hs := startM_le i
  rw [e_field, bnd_o (z_inodeBlock h1 (by omega)), show ((1 : Int32)) = nI 1 from rfl, show ((4 : Int32)) = nI 4 from rfl, show ((32 : Int32)) = nI 32 from rfl, pk_sub h1, pk_rem (by omega) (by decide) (by decide), pk_mul, nI_add, show 32 * ((i - 1) % 4) + a = startM i + a by unfold startM; omega, bnd_o (z_seen (by omega) (hl _ (by omega)) hn (by omega))]
theorem z_f1 {i a : Nat} (hl : lkA R) (h1 : 1 ≤ i) (h2 : i ≤ 64) (ha : a + 1 ≤ 32) : e_field R (nI i) (nI a) 1 = some (nI (f1 (rSee R true) i a)) := z_field (n := 1) hl h1 h2 (Or.inl rfl) ha
theorem z_f2 {i a : Nat} (hl : lkA R) (h1 : 1 ≤ i) (h2 : i ≤ 64) (ha : a + 2 ≤ 32) : e_field R (nI i) (nI a) 2 = some (nI (f2 (rSee R true) i a)) := z_field (n := 2) hl h1 h2 (Or.inr (Or.inl rfl)) ha
theorem z_f4 {i a : Nat} (hl : lkA R) (h1 : 1 ≤ i) (h2 : i ≤ 64) (ha : a + 4 ≤ 32) : e_field R (nI i) (nI a) 4 = some (nI (f4 (rSee R true) i a)) := z_field (n := 4) hl h1 h2 (Or.inr (Or.inr rfl)) ha
theorem z_kind {i : Nat} (hl : lkA R) (h1 : 1 ≤ i) (h2 : i ≤ 64) : e_kind R (nI i) = some (nI (f1 (rSee R true) i 0)) := by
  rw [e_kind, if_neg (show ¬ nI i < (1 : Int32) from nI_nlt (a := i) (b := 1) h1 (by omega)), if_pos (show nI i ≤ (64 : Int32) from nI_le (a := i) (b := 64) h2 (by decide)), bnd_o (m := e_field R (nI i) 0 1) (z_f1 (a := 0) hl h1 h2 (by decide))]
theorem z_kind0 {x : Int32} (h : x < 1 ∨ ¬ x ≤ 64) : e_kind R x = some 0 := by
  rw [e_kind]
  by_cases c : x < 1
  · rw [if_pos c]
  · rw [if_neg c, if_neg (h.resolve_left c)]
theorem z_size {i : Nat} (hl : lkA R) (h1 : 1 ≤ i) (h2 : i ≤ 64) : e_size R (nI i) = some (nI (f4 (rSee R true) i 4)) := by
  rw [e_size, bnd_o (m := e_field R (nI i) 4 4) (z_f4 (a := 4) hl h1 h2 (by decide))]
end PUD
