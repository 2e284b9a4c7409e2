/-! ===== pure: numbers in rows ===== -/
section PUA
theorem ld_n {α : Type} {g : Nat → Int32} {n t : Nat} {k : Int32 → Option α} (h : t < n) (hn : n < 2 ^ 31) : ld g n (nI t) k = k (g t) := by
  unfold ld
  rw [if_neg (nI_in h hn), nI_clamp (by omega)]
theorem see_n {α : Type} {N : Nat} {V : Nat → Rw} {b : Nat} {k : Rw → Option α} (h : b < N) (hN : N ≤ 1024) : seeB N V (nI b) k = k (V b) := by
  unfold seeB
  rw [if_neg (nI_in h (by omega)), nI_clamp (by omega)]
theorem bnd_o {α β : Type} {m : Option β} {v : β} {k : β → Option α} (h : m = some v) : bnd m k = k v := by
  rw [h]
  rfl
theorem bnd2_o {α β γ : Type} {m : Option (β × γ)} {v : β} {w : γ} {k : β → γ → Option α} (h : m = some (v, w)) : bnd2 m k = k v w := by
  rw [h]
  rfl
theorem bnd3_o {α β γ δ : Type} {m : Option (β × γ × δ)} {v : β} {w : γ} {x : δ} {k : β → γ → δ → Option α} (h : m = some (v, w, x)) : bnd3 m k = k v w x := by
  rw [h]
  rfl
/-- a byte of a row, from 0 on -/
def ub (y : Rw) (i : Nat) : Nat := (y i).toBitVec.toNat % 256
theorem ub_and (y : Rw) (i : Nat) : y i &&& 255 = nI (ub y i) := pk_and _ 8 (by decide)
theorem ub_lt (y : Rw) (i : Nat) : ub y i < 256 := Nat.mod_lt _ (by decide)
def n2 (y : Rw) (i : Nat) : Nat := ub y i + 256 * ub y (i + 1)
def n4 (y : Rw) (i : Nat) : Nat := n2 y i + 65536 * n2 y (i + 2)
theorem n2_lt (y : Rw) (i : Nat) : n2 y i < 65536 := by
  have h1 := ub_lt y i
  have h2 := ub_lt y (i + 1)
  unfold n2
  omega
theorem n4_lt (y : Rw) (i : Nat) : n4 y i < 2 ^ 32 := by
  have h1 := n2_lt y i
  have h2 := n2_lt y (i + 2)
  unfold n4
  omega
theorem or_sh {a b k : Nat} (ha : a < 2 ^ k) (hb : a + 2 ^ k * b < 2 ^ 32) : nI a ||| nI (b * 2 ^ k) = nI (a + 2 ^ k * b) := by
  apply Int32.toBitVec_inj.mp
  apply BitVec.eq_of_toNat_eq
  rw [Int32.toBitVec_or, BitVec.toNat_or, pk_tn (by omega), pk_tn (by rw [Nat.mul_comm]; omega), pk_tn hb, Nat.mul_comm b, Nat.or_comm, ← Nat.two_pow_add_eq_or_of_lt ha, Nat.add_comm]
theorem sh_or {a b k : Nat} (ha : a < 2 ^ k) (hb : a + 2 ^ k * b < 2 ^ 32) : nI (b * 2 ^ k) ||| nI a = nI (a + 2 ^ k * b) := by
  rw [Int32.or_comm]
  exact or_sh ha hb
theorem d_two {N : Nat} {V : Nat → Rw} {D : CfT} {y : Rw} {n t : Nat} (h : t + 1 < n) (hn : n < 2 ^ 31) : d_X2_two N V D y n (nI t) = some (nI (n2 y t)) := by
  have h1 := ub_lt y t
  have h2 := ub_lt y (t + 1)
  unfold d_X2_two
  rw [if_neg (nI_nn (by omega)), nI_1, if_pos (nI_lt (by omega) hn), ld_n (by omega) hn, ld_n h hn, ub_and, ub_and, pk_shlN _ 8 (by decide) (by omega), or_sh (by omega) (by omega)]
  rfl
theorem d_four {N : Nat} {V : Nat → Rw} {D : CfT} {y : Rw} {n t : Nat} (h : t + 3 < n) (hn : n < 2 ^ 31) : d_X2_four N V D y n (nI t) = some (nI (n4 y t)) := by
  have h1 := n2_lt y t
  have h2 := n2_lt y (t + 2)
  unfold d_X2_four
  rw [bnd_o (d_two (by omega) hn), show ((2 : Int32)) = nI 2 from rfl, nI_add, bnd_o (d_two (by omega) hn), pk_shlN _ 16 (by decide) (by omega), or_sh (by omega) (by omega)]
  rfl
/-- where an inode stands -/
def homeM (i : Nat) : Nat := 45 + (i - 1) / 4
def startM (i : Nat) : Nat := (i - 1) % 4 * 32
theorem homeM_lt {i : Nat} (h : i ≤ 64) : homeM i < 61 := by
  unfold homeM
  omega
theorem startM_le (i : Nat) : startM i ≤ 96 := by
  unfold startM
  omega
theorem d_home {N : Nat} {V : Nat → Rw} {D : CfT} {i : Nat} (h : 1 ≤ i) (hi : i < 2 ^ 31) : d_X7_home N V D (nI i) = some (nI (homeM i)) := by
  unfold d_X7_home homeM
  rw [show ((1 : Int32)) = nI 1 from rfl, show ((4 : Int32)) = nI 4 from rfl, show ((45 : Int32)) = nI 45 from rfl, pk_sub h, pk_div (by omega) (by decide) (by decide), nI_add]
theorem d_start {N : Nat} {V : Nat → Rw} {D : CfT} {i : Nat} (h : 1 ≤ i) (hi : i < 2 ^ 31) : d_X7_start N V D (nI i) = some (nI (startM i)) := by
  unfold d_X7_start startM
  rw [show ((1 : Int32)) = nI 1 from rfl, show ((4 : Int32)) = nI 4 from rfl, show ((32 : Int32)) = nI 32 from rfl, pk_sub h, pk_rem (by omega) (by decide) (by decide), pk_mul]
/-- the numbers of an inode -/
def f1 (V : Nat → Rw) (i a : Nat) : Nat := ub (V (homeM i)) (startM i + a)
def f2 (V : Nat → Rw) (i a : Nat) : Nat := n2 (V (homeM i)) (startM i + a)
def f4 (V : Nat → Rw) (i a : Nat) : Nat := n4 (V (homeM i)) (startM i + a)
variable {N : Nat} {V : Nat → Rw} {D : CfT}
theorem d_kind {i : Nat} (h1 : 1 ≤ i) (h2 : i ≤ 64) (hN : 61 ≤ N) (hN2 : N ≤ 1024) : d_X7_kind N V D (nI i) = some (nI (f1 V i 0)) := by
  have hs := startM_le i
  unfold d_X7_kind
  rw [if_neg (show ¬ nI i < (1 : Int32) from nI_nlt (a := i) (b := 1) h1 (by omega)), if_pos (show nI i ≤ (64 : Int32) from nI_le (a := i) (b := 64) h2 (by decide)), bnd_o (d_home h1 (by omega)), see_n (by have := homeM_lt h2; omega) hN2, bnd_o (d_start h1 (by omega)), ld_n (by omega) (by decide), ub_and]
  rfl
theorem d_kind0 {x : Int32} (h : x < 1 ∨ ¬ x ≤ 64) : d_X7_kind N V D x = some 0 := by
  unfold d_X7_kind
  by_cases c : x < 1
  · rw [if_pos c]
  · rw [if_neg c, if_neg (h.resolve_left c)]
theorem d_links {i : Nat} (h1 : 1 ≤ i) (h2 : i ≤ 64) (hN : 61 ≤ N) (hN2 : N ≤ 1024) : d_X7_links N V D (nI i) = some (nI (f1 V i 1)) := by
  have hs := startM_le i
  unfold d_X7_links
  rw [if_neg (show ¬ nI i < (1 : Int32) from nI_nlt (a := i) (b := 1) h1 (by omega)), if_pos (show nI i ≤ (64 : Int32) from nI_le (a := i) (b := 64) h2 (by decide)), bnd_o (d_home h1 (by omega)), see_n (by have := homeM_lt h2; omega) hN2, bnd_o (d_start h1 (by omega)), nI_1, ld_n (by omega) (by decide), ub_and]
  rfl
theorem d_size {i : Nat} (h1 : 1 ≤ i) (h2 : i ≤ 64) (hN : 61 ≤ N) (hN2 : N ≤ 1024) : d_X7_size N V D (nI i) = some (nI (f4 V i 4)) := by
  have hs := startM_le i
  unfold d_X7_size
  rw [bnd_o (d_home h1 (by omega)), see_n (by have := homeM_lt h2; omega) hN2, bnd_o (d_start h1 (by omega)), show ((4 : Int32)) = nI 4 from rfl, nI_add, bnd_o (d_four (by omega) (by decide))]
  rfl
theorem d_mark {i : Nat} (h1 : 1 ≤ i) (h2 : i ≤ 64) (hN : 61 ≤ N) (hN2 : N ≤ 1024) : d_X7_markOf N V D (nI i) = some (nI (f4 V i 8)) := by
  have hs := startM_le i
  unfold d_X7_markOf
  rw [bnd_o (d_home h1 (by omega)), see_n (by have := homeM_lt h2; omega) hN2, bnd_o (d_start h1 (by omega)), show ((8 : Int32)) = nI 8 from rfl, nI_add, bnd_o (d_four (by omega) (by decide))]
  rfl
theorem d_first {i : Nat} (h1 : 1 ≤ i) (h2 : i ≤ 64) (hN : 61 ≤ N) (hN2 : N ≤ 1024) : d_X7_firstTable N V D (nI i) = some (nI (f2 V i 28)) := by
  have hs := startM_le i
  unfold d_X7_firstTable
  rw [bnd_o (d_home h1 (by omega)), see_n (by have := homeM_lt h2; omega) hN2, bnd_o (d_start h1 (by omega)), show ((28 : Int32)) = nI 28 from rfl, nI_add, bnd_o (d_two (by omega) (by decide))]
  rfl
theorem d_second {i : Nat} (h1 : 1 ≤ i) (h2 : i ≤ 64) (hN : 61 ≤ N) (hN2 : N ≤ 1024) : d_X7_secondTable N V D (nI i) = some (nI (f2 V i 30)) := by
  have hs := startM_le i
  unfold d_X7_secondTable
  rw [bnd_o (d_home h1 (by omega)), see_n (by have := homeM_lt h2; omega) hN2, bnd_o (d_start h1 (by omega)), show ((30 : Int32)) = nI 30 from rfl, nI_add, bnd_o (d_two (by omega) (by decide))]
  rfl
end PUA
