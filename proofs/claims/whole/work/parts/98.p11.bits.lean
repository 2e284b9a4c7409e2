/-! ===== pure: bits ===== -/
section PUL
variable {N : Nat} {V : Nat → Rw} {D : CfT} {R : RfT}
theorem toI_n (x : Int32) : x.toInt = (x.toBitVec.toNat : Int) ∨ x.toInt = (x.toBitVec.toNat : Int) - 4294967296 := by
  have e : x.toInt = x.toBitVec.toInt := rfl
  rw [e, BitVec.toInt_eq_toNat_cond]
  split
  · exact Or.inl rfl
  · exact Or.inr rfl
theorem bit_s {x : Int32} {s : Nat} (hs : s < 8) : (x >>> nI s) &&& 1 = nI (x.toBitVec.toNat % 256 / 2 ^ s % 2) := by
  rw [pk_and (x >>> nI s) 1 (by decide)]
  congr 1
  have h1 : (x >>> nI s).toInt = x.toInt >>> s := pk_shr x (nI s) s (by
    have : s = 0 ∨ s = 1 ∨ s = 2 ∨ s = 3 ∨ s = 4 ∨ s = 5 ∨ s = 6 ∨ s = 7 := by omega
    rcases this with rfl | rfl | rfl | rfl | rfl | rfl | rfl | rfl <;> decide)
  rw [Int.shiftRight_eq_div_pow] at h1
  have h2 := toI_n x
  have h3 := toI_n (x >>> nI s)
  generalize (x >>> nI s).toBitVec.toNat = b at h3 ⊢
  generalize (x >>> nI s).toInt = B at h1 h3
  generalize x.toBitVec.toNat = a at h2 ⊢
  generalize x.toInt = A at h1 h2
  have : s = 0 ∨ s = 1 ∨ s = 2 ∨ s = 3 ∨ s = 4 ∨ s = 5 ∨ s = 6 ∨ s = 7 := by omega
  rcases this with rfl | rfl | rfl | rfl | rfl | rfl | rfl | rfl
  · have h1 : B = A / 1 := h1
    show b % 2 = a % 256 / 1 % 2
    omega
  · have h1 : B = A / 2 := h1
    show b % 2 = a % 256 / 2 % 2
    omega
  · have h1 : B = A / 4 := h1
    show b % 2 = a % 256 / 4 % 2
    omega
  · have h1 : B = A / 8 := h1
    show b % 2 = a % 256 / 8 % 2
    omega
  · have h1 : B = A / 16 := h1
    show b % 2 = a % 256 / 16 % 2
    omega
  · have h1 : B = A / 32 := h1
    show b % 2 = a % 256 / 32 % 2
    omega
  · have h1 : B = A / 64 := h1
    show b % 2 = a % 256 / 64 % 2
    omega
  · have h1 : B = A / 128 := h1
    show b % 2 = a % 256 / 128 % 2
    omega
/-- a bit of a row -/
def btM (y : Rw) (b : Nat) : Nat := ub y (b / 8) / 2 ^ (b % 8) % 2
theorem bt_lt (y : Rw) (b : Nat) : btM y b < 2 := Nat.mod_lt _ (by decide)
theorem bit_at {y : Rw} {b : Nat} : (y (b / 8) >>> ((nI (b % 8)) &&& 31)) &&& 1 = nI (btM y b) := by
  have hm := Nat.mod_lt b (show 8 > 0 by decide)
  have e : (nI (b % 8)) &&& 31 = nI (b % 8) := by
    rw [pk_andN (by omega) 5 (by decide)]
    congr 1
    omega
  rw [e]
  exact bit_s hm
theorem d_isUsed {b : Nat} (hb : b < 1024) (hN : 61 ≤ N) (hN2 : N ≤ 1024) : d_X10_isUsed N V D (nI b) = some (nI (btM (V 43) b)) := by
  have hm := bt_lt (V 43) b
  rw [d_X10_isUsed, show (43 : Int32) = nI 43 from rfl, see_n (by omega) hN2, show (8 : Int32) = nI 8 from rfl, pk_div (by omega) (by decide) (by decide), ld_n (by omega) (by decide), pk_mul, pk_sub (Nat.div_mul_le_self _ _), show b - b / 8 * 8 = b % 8 by omega, bit_at]
  by_cases c : btM (V 43) b = 0
  · rw [c, if_pos (show nI 0 = (0 : Int32) from nI_0)]
    rfl
  · have e1 : btM (V 43) b = 1 := by omega
    rw [e1, if_neg (show ¬ nI 1 = (0 : Int32) by decide)]
    rfl
/-- the first free block from b on that does not rest -/
def loM (V : Nat → Rw) (rs : Nat → Nat) : Nat → Nat → Int32
  | 0, _ => -1
  | k + 1, b => if btM (V 43) b = 0 ∧ rs b = 0 then nI b else loM V rs k (b + 1)
/-- zero bits of a byte -/
def zbM (u : Nat) : Nat → Nat
  | 0 => 0
  | k + 1 => zbM u k + (1 - u / 2 ^ k % 2)
end PUL
