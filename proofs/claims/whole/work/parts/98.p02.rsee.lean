/-! ===== pure: what the reference sees ===== -/
section PUC
/-- the number of bytes from k down to 0 behind x -/
def nmB (g : Nat → Int32) (t : Nat) : Nat → Int32 → Int32
  | 0, x => (x <<< ((8 : Int32) &&& 31)) ||| (g t &&& 255)
  | k + 1, x => nmB g t k ((x <<< ((8 : Int32) &&& 31)) ||| (g (t + (k + 1)) &&& 255))
theorem nmB_0 {g : Nat → Int32} {t a : Nat} {y : Rw} (hy : ∀ i, i < 128 → y i = g (t + i)) (ha : a < 128) {x : Nat} (hx : ub y a + 256 * x < 2 ^ 32) : (nI x <<< ((8 : Int32) &&& 31)) ||| (g (t + a) &&& 255) = nI (ub y a + 256 * x) := by
  have h1 := ub_lt y a
  rw [← hy a ha, ub_and, pk_shlN _ 8 (by decide) (by omega), sh_or (by omega) (by omega)]
theorem nmB_n1 {g : Nat → Int32} {t a : Nat} {y : Rw} (hy : ∀ i, i < 128 → y i = g (t + i)) (ha : a < 128) : nmB g (t + a) 0 0 = nI (ub y a) := by
  have h1 := ub_lt y a
  have e := nmB_0 (x := 0) hy ha (by omega)
  exact e
theorem nmB_n2 {g : Nat → Int32} {t a : Nat} {y : Rw} (hy : ∀ i, i < 128 → y i = g (t + i)) (ha : a + 1 < 128) : nmB g (t + a) 1 0 = nI (n2 y a) := by
  have h1 := ub_lt y a
  have h2 := ub_lt y (a + 1)
  show ((((0 : Int32) <<< ((8 : Int32) &&& 31)) ||| (g (t + a + (0 + 1)) &&& 255)) <<< ((8 : Int32) &&& 31)) ||| (g (t + a) &&& 255) = _
  have e := nmB_0 (a := a + 1) (x := 0) hy ha (by omega)
  rw [show t + a + (0 + 1) = t + (a + 1) by omega, show (0 : Int32) = nI 0 from rfl, e, nmB_0 hy (by omega) (by omega)]
  congr 1
theorem nmB_n4 {g : Nat → Int32} {t a : Nat} {y : Rw} (hy : ∀ i, i < 128 → y i = g (t + i)) (ha : a + 3 < 128) : nmB g (t + a) 3 0 = nI (n4 y a) := by
  have h1 := ub_lt y a
  have h2 := ub_lt y (a + 1)
  have h3 := ub_lt y (a + 2)
  have h4 := ub_lt y (a + 3)
  show ((((((((0 : Int32) <<< ((8 : Int32) &&& 31)) ||| (g (t + a + (2 + 1)) &&& 255)) <<< ((8 : Int32) &&& 31)) ||| (g (t + a + (1 + 1)) &&& 255)) <<< ((8 : Int32) &&& 31)) ||| (g (t + a + (0 + 1)) &&& 255)) <<< ((8 : Int32) &&& 31)) ||| (g (t + a) &&& 255) = _
  have e := nmB_0 (a := a + 3) (x := 0) hy ha (by omega)
  rw [show t + a + (2 + 1) = t + (a + 3) by omega, show t + a + (1 + 1) = t + (a + 2) by omega, show t + a + (0 + 1) = t + (a + 1) by omega, show (0 : Int32) = nI 0 from rfl, e, nmB_0 hy (by omega) (by omega), nmB_0 hy (by omega) (by omega), nmB_0 hy (by omega) (by omega)]
  congr 1
  unfold n4 n2
  rw [show a + 2 + 1 = a + 3 from rfl]
  omega
def numM (n : Nat) (y : Rw) (a : Nat) : Nat := if n = 1 then ub y a else if n = 2 then n2 y a else n4 y a
theorem nm_o {α : Type} {x : Int32} {k : Int32 → Option α} : nm x k = k x := rfl
theorem nmB_z {g : Nat → Int32} {t : Nat} {x : Int32} : nmB g t 0 x = (x <<< ((8 : Int32) &&& 31)) ||| (g t &&& 255) := rfl
theorem nmB_s {g : Nat → Int32} {t k : Nat} {x : Int32} : nmB g t (k + 1) x = nmB g t k ((x <<< ((8 : Int32) &&& 31)) ||| (g (t + (k + 1)) &&& 255)) := rfl
theorem fu0 : fuL = 3999998 + 0 + 2 := rfl
theorem fu1 : fuL = 3999997 + 1 + 2 := rfl
theorem fu3 : fuL = 3999995 + 3 + 2 := rfl
theorem i1_1 : nI 1 - (1 : Int32) = nI 0 := pk_sub (a := 1) (b := 1) (by decide)
theorem i2_1 : nI 2 - (1 : Int32) = nI 1 := pk_sub (a := 2) (b := 1) (by decide)
theorem i4_1 : nI 4 - (1 : Int32) = nI 3 := pk_sub (a := 4) (b := 1) (by decide)
theorem e_num71_l {R : RfT} {t : Nat} (k : Nat) : ∀ (m : Nat) (x : Int32), t + k < 131072 → e_number_71_7 R (m + k + 2) (nI t) x (nI k) = some (nmB (rA R 32) t k x) := by
  have hM : 131072 < 2 ^ 31 := by decide
  have hZ : ¬ nI 0 < 0 := nI_nn (by decide)
  have hY : nI 0 + (-1 : Int32) < 0 := by decide
  induction k with
  | zero =>
    intro m x h
    rw [show m + 0 + 2 = m + 1 + 1 from rfl, e_number_71_7, if_neg hZ, nI_add, ld_n h hM, nm_o, e_number_71_7, if_pos hY, nmB_z, Nat.add_zero]
  | succ k ih =>
    intro m x h
    have hk : k + 1 < 2 ^ 31 := by omega
    have hk2 : t + k < 131072 := by omega
    rw [show m + (k + 1) + 2 = m + k + 2 + 1 by omega, e_number_71_7, if_neg (nI_nn hk), nI_add, ld_n h hM, nm_o, pk_m1, ih m _ hk2, nmB_s]
theorem e_num71 {R : RfT} {t a n : Nat} {y : Rw} (hy : ∀ i, i < 128 → y i = rA R 32 (t + i)) (hn : n = 1 ∨ n = 2 ∨ n = 4) (ha : a + n ≤ 128) (ht : t + 128 ≤ 131072) : e_number_71 R (nI t + nI a) (nI n) = some (nI (numM n y a)) := by
  unfold e_number_71
  rw [nI_add]
  rcases hn with rfl | rfl | rfl
  · have q := e_num71_l (R := R) (t := t + a) 0 3999998 0 (by omega)
    rw [nmB_n1 hy (by omega)] at q
    rw [fu0, i1_1]
    exact q
  · have q := e_num71_l (R := R) (t := t + a) 1 3999997 0 (by omega)
    rw [nmB_n2 hy (by omega)] at q
    rw [fu1, i2_1]
    exact q
  · have q := e_num71_l (R := R) (t := t + a) 3 3999995 0 (by omega)
    rw [nmB_n4 hy (by omega)] at q
    rw [fu3, i4_1]
    exact q
theorem e_num68_l {R : RfT} {t : Nat} (k : Nat) : ∀ (m : Nat) (x : Int32), t + k < 131072 → e_number_68_7 R (m + k + 2) (nI t) x (nI k) = some (nmB (rA R 28) t k x) := by
  have hM : 131072 < 2 ^ 31 := by decide
  have hZ : ¬ nI 0 < 0 := nI_nn (by decide)
  have hY : nI 0 + (-1 : Int32) < 0 := by decide
  induction k with
  | zero =>
    intro m x h
    rw [show m + 0 + 2 = m + 1 + 1 from rfl, e_number_68_7, if_neg hZ, nI_add, ld_n h hM, nm_o, e_number_68_7, if_pos hY, nmB_z, Nat.add_zero]
  | succ k ih =>
    intro m x h
    have hk : k + 1 < 2 ^ 31 := by omega
    have hk2 : t + k < 131072 := by omega
    rw [show m + (k + 1) + 2 = m + k + 2 + 1 by omega, e_number_68_7, if_neg (nI_nn hk), nI_add, ld_n h hM, nm_o, pk_m1, ih m _ hk2, nmB_s]
theorem e_num68 {R : RfT} {t a n : Nat} {y : Rw} (hy : ∀ i, i < 128 → y i = rA R 28 (t + i)) (hn : n = 1 ∨ n = 2 ∨ n = 4) (ha : a + n ≤ 128) (ht : t + 128 ≤ 131072) : e_number_68 R (nI t + nI a) (nI n) = some (nI (numM n y a)) := by
  unfold e_number_68
  rw [nI_add]
  rcases hn with rfl | rfl | rfl
  · have q := e_num68_l (R := R) (t := t + a) 0 3999998 0 (by omega)
    rw [nmB_n1 hy (by omega)] at q
    rw [fu0, i1_1]
    exact q
  · have q := e_num68_l (R := R) (t := t + a) 1 3999997 0 (by omega)
    rw [nmB_n2 hy (by omega)] at q
    rw [fu1, i2_1]
    exact q
  · have q := e_num68_l (R := R) (t := t + a) 3 3999995 0 (by omega)
    rw [nmB_n4 hy (by omega)] at q
    rw [fu3, i4_1]
    exact q
theorem e_num65_l {R : RfT} {t : Nat} (k : Nat) : ∀ (m : Nat) (x : Int32), t + k < 5120 → e_number_65_7 R (m + k + 2) (nI t) x (nI k) = some (nmB (rA R 24) t k x) := by
  have hM : 5120 < 2 ^ 31 := by decide
  have hZ : ¬ nI 0 < 0 := nI_nn (by decide)
  have hY : nI 0 + (-1 : Int32) < 0 := by decide
  induction k with
  | zero =>
    intro m x h
    rw [show m + 0 + 2 = m + 1 + 1 from rfl, e_number_65_7, if_neg hZ, nI_add, ld_n h hM, nm_o, e_number_65_7, if_pos hY, nmB_z, Nat.add_zero]
  | succ k ih =>
    intro m x h
    have hk : k + 1 < 2 ^ 31 := by omega
    have hk2 : t + k < 5120 := by omega
    rw [show m + (k + 1) + 2 = m + k + 2 + 1 by omega, e_number_65_7, if_neg (nI_nn hk), nI_add, ld_n h hM, nm_o, pk_m1, ih m _ hk2, nmB_s]
theorem e_num65 {R : RfT} {t a n : Nat} {y : Rw} (hy : ∀ i, i < 128 → y i = rA R 24 (t + i)) (hn : n = 1 ∨ n = 2 ∨ n = 4) (ha : a + n ≤ 128) (ht : t + 128 ≤ 5120) : e_number_65 R (nI t + nI a) (nI n) = some (nI (numM n y a)) := by
  unfold e_number_65
  rw [nI_add]
  rcases hn with rfl | rfl | rfl
  · have q := e_num65_l (R := R) (t := t + a) 0 3999998 0 (by omega)
    rw [nmB_n1 hy (by omega)] at q
    rw [fu0, i1_1]
    exact q
  · have q := e_num65_l (R := R) (t := t + a) 1 3999997 0 (by omega)
    rw [nmB_n2 hy (by omega)] at q
    rw [fu1, i2_1]
    exact q
  · have q := e_num65_l (R := R) (t := t + a) 3 3999995 0 (by omega)
    rw [nmB_n4 hy (by omega)] at q
    rw [fu3, i4_1]
    exact q
theorem e_num63_l {R : RfT} {t : Nat} (k : Nat) : ∀ (m : Nat) (x : Int32), t + k < 8192 → e_number_63_7 R (m + k + 2) (nI t) x (nI k) = some (nmB (rA R 17) t k x) := by
  have hM : 8192 < 2 ^ 31 := by decide
  have hZ : ¬ nI 0 < 0 := nI_nn (by decide)
  have hY : nI 0 + (-1 : Int32) < 0 := by decide
  induction k with
  | zero =>
    intro m x h
    rw [show m + 0 + 2 = m + 1 + 1 from rfl, e_number_63_7, if_neg hZ, nI_add, ld_n h hM, nm_o, e_number_63_7, if_pos hY, nmB_z, Nat.add_zero]
  | succ k ih =>
    intro m x h
    have hk : k + 1 < 2 ^ 31 := by omega
    have hk2 : t + k < 8192 := by omega
    rw [show m + (k + 1) + 2 = m + k + 2 + 1 by omega, e_number_63_7, if_neg (nI_nn hk), nI_add, ld_n h hM, nm_o, pk_m1, ih m _ hk2, nmB_s]
theorem e_num63 {R : RfT} {t a n : Nat} {y : Rw} (hy : ∀ i, i < 128 → y i = rA R 17 (t + i)) (hn : n = 1 ∨ n = 2 ∨ n = 4) (ha : a + n ≤ 128) (ht : t + 128 ≤ 8192) : e_number_63 R (nI t + nI a) (nI n) = some (nI (numM n y a)) := by
  unfold e_number_63
  rw [nI_add]
  rcases hn with rfl | rfl | rfl
  · have q := e_num63_l (R := R) (t := t + a) 0 3999998 0 (by omega)
    rw [nmB_n1 hy (by omega)] at q
    rw [fu0, i1_1]
    exact q
  · have q := e_num63_l (R := R) (t := t + a) 1 3999997 0 (by omega)
    rw [nmB_n2 hy (by omega)] at q
    rw [fu1, i2_1]
    exact q
  · have q := e_num63_l (R := R) (t := t + a) 3 3999995 0 (by omega)
    rw [nmB_n4 hy (by omega)] at q
    rw [fu3, i4_1]
    exact q
theorem e_num60_l {R : RfT} {t : Nat} (k : Nat) : ∀ (m : Nat) (x : Int32), t + k < 32768 → e_number_60_7 R (m + k + 2) (nI t) x (nI k) = some (nmB (rA R 8) t k x) := by
  have hM : 32768 < 2 ^ 31 := by decide
  have hZ : ¬ nI 0 < 0 := nI_nn (by decide)
  have hY : nI 0 + (-1 : Int32) < 0 := by decide
  induction k with
  | zero =>
    intro m x h
    rw [show m + 0 + 2 = m + 1 + 1 from rfl, e_number_60_7, if_neg hZ, nI_add, ld_n h hM, nm_o, e_number_60_7, if_pos hY, nmB_z, Nat.add_zero]
  | succ k ih =>
    intro m x h
    have hk : k + 1 < 2 ^ 31 := by omega
    have hk2 : t + k < 32768 := by omega
    rw [show m + (k + 1) + 2 = m + k + 2 + 1 by omega, e_number_60_7, if_neg (nI_nn hk), nI_add, ld_n h hM, nm_o, pk_m1, ih m _ hk2, nmB_s]
theorem e_num60 {R : RfT} {t a n : Nat} {y : Rw} (hy : ∀ i, i < 128 → y i = rA R 8 (t + i)) (hn : n = 1 ∨ n = 2 ∨ n = 4) (ha : a + n ≤ 128) (ht : t + 128 ≤ 32768) : e_number_60 R (nI t + nI a) (nI n) = some (nI (numM n y a)) := by
  unfold e_number_60
  rw [nI_add]
  rcases hn with rfl | rfl | rfl
  · have q := e_num60_l (R := R) (t := t + a) 0 3999998 0 (by omega)
    rw [nmB_n1 hy (by omega)] at q
    rw [fu0, i1_1]
    exact q
  · have q := e_num60_l (R := R) (t := t + a) 1 3999997 0 (by omega)
    rw [nmB_n2 hy (by omega)] at q
    rw [fu1, i2_1]
    exact q
  · have q := e_num60_l (R := R) (t := t + a) 3 3999995 0 (by omega)
    rw [nmB_n4 hy (by omega)] at q
    rw [fu3, i4_1]
    exact q
theorem e_num58_l {R : RfT} {t : Nat} (k : Nat) : ∀ (m : Nat) (x : Int32), t + k < 131072 → e_number_58_7 R (m + k + 2) (nI t) x (nI k) = some (nmB (rA R 6) t k x) := by
  have hM : 131072 < 2 ^ 31 := by decide
  have hZ : ¬ nI 0 < 0 := nI_nn (by decide)
  have hY : nI 0 + (-1 : Int32) < 0 := by decide
  induction k with
  | zero =>
    intro m x h
    rw [show m + 0 + 2 = m + 1 + 1 from rfl, e_number_58_7, if_neg hZ, nI_add, ld_n h hM, nm_o, e_number_58_7, if_pos hY, nmB_z, Nat.add_zero]
  | succ k ih =>
    intro m x h
    have hk : k + 1 < 2 ^ 31 := by omega
    have hk2 : t + k < 131072 := by omega
    rw [show m + (k + 1) + 2 = m + k + 2 + 1 by omega, e_number_58_7, if_neg (nI_nn hk), nI_add, ld_n h hM, nm_o, pk_m1, ih m _ hk2, nmB_s]
theorem e_num58 {R : RfT} {t a n : Nat} {y : Rw} (hy : ∀ i, i < 128 → y i = rA R 6 (t + i)) (hn : n = 1 ∨ n = 2 ∨ n = 4) (ha : a + n ≤ 128) (ht : t + 128 ≤ 131072) : e_number_58 R (nI t + nI a) (nI n) = some (nI (numM n y a)) := by
  unfold e_number_58
  rw [nI_add]
  rcases hn with rfl | rfl | rfl
  · have q := e_num58_l (R := R) (t := t + a) 0 3999998 0 (by omega)
    rw [nmB_n1 hy (by omega)] at q
    rw [fu0, i1_1]
    exact q
  · have q := e_num58_l (R := R) (t := t + a) 1 3999997 0 (by omega)
    rw [nmB_n2 hy (by omega)] at q
    rw [fu1, i2_1]
    exact q
  · have q := e_num58_l (R := R) (t := t + a) 3 3999995 0 (by omega)
    rw [nmB_n4 hy (by omega)] at q
    rw [fu3, i4_1]
    exact q
/-- the row that the reference sees -/
def rSee (R : RfT) (own : Bool) (b : Nat) : Rw := if own = true ∧ ¬ rA R 36 b = -1 then nr (fun i => rA R 32 (128 * (rA R 36 b).toNatClampNeg + i)) else if ¬ rA R 37 b = -1 then nr (fun i => rA R 28 (128 * (rA R 37 b).toNatClampNeg + i)) else if ¬ rA R 38 b = -1 then nr (fun i => rA R 24 (128 * (rA R 38 b).toNatClampNeg + i)) else if ¬ rA R 39 b = -1 then nr (fun i => rA R 17 (128 * (rA R 39 b).toNatClampNeg + i)) else if ¬ rA R 40 b = -1 then nr (fun i => rA R 8 (128 * (rA R 40 b).toNatClampNeg + i)) else nr (fun i => rA R 6 (128 * b + i))
/-- its places are in order -/
def lkO (R : RfT) (b : Nat) : Prop := (rA R 36 b = -1 ∨ ∃ t, t < 1024 ∧ rA R 36 b = nI t) ∧ (rA R 37 b = -1 ∨ ∃ t, t < 1024 ∧ rA R 37 b = nI t) ∧ (rA R 38 b = -1 ∨ ∃ t, t < 40 ∧ rA R 38 b = nI t) ∧ (rA R 39 b = -1 ∨ ∃ t, t < 64 ∧ rA R 39 b = nI t) ∧ (rA R 40 b = -1 ∨ ∃ t, t < 256 ∧ rA R 40 b = nI t)
theorem nr_i {g : Nat → Int32} {t : Nat} : ∀ i, i < 128 → nr (fun i => g (t + i)) i = g (t + i) := fun i hi => if_pos hi
theorem at_n {x : Int32} {M : Nat} (h : x = -1 ∨ ∃ t, t < M ∧ x = nI t) (hM : M < 2 ^ 31) (h2 : ¬ x = -1) : x.toNatClampNeg < M ∧ x = nI x.toNatClampNeg := by
  rcases h with h | ⟨t, ht, rfl⟩
  · exact absurd h h2
  · rw [nI_clamp (by omega)]
    exact ⟨ht, rfl⟩
theorem z_seen {R : RfT} {b a n : Nat} (hb : b < 1024) (hl : lkO R b) (hn : n = 1 ∨ n = 2 ∨ n = 4) (ha : a + n ≤ 128) : e_seenNumber R (nI b) (nI a) (nI n) = some (nI (numM n (rSee R true b) a)) := by
  obtain ⟨l36, l37, l38, l39, l40⟩ := hl
  have b1 : (1024 : Nat) < 2 ^ 31 := by decide
  have n10 : ¬ (1 : Int32) = 0 := by decide
  rw [e_seenNumber, e_lookUp, rSee, if_neg n10]
  rw [ld_n hb b1]
  by_cases c36 : rA R 36 b = -1
  rotate_left
  · rw [if_neg c36, ld_n hb b1, if_pos ⟨rfl, c36⟩]
    obtain ⟨hx, ex⟩ := at_n l36 (by decide) c36
    rw [bnd2_o (v := 71) (w := nI (128 * (rA R 36 b).toNatClampNeg)) (by rw [← pk_mul, ← ex]; rfl)]
    rw [if_pos rfl, bnd_o (e_num71 (y := nr (fun i => rA R 32 (128 * (rA R 36 b).toNatClampNeg + i))) nr_i hn ha (by omega))]
  rw [if_pos c36, e_lookUp_39, if_neg (fun z => z.2 c36)]
  rw [ld_n hb b1]
  by_cases c37 : rA R 37 b = -1
  rotate_left
  · rw [if_neg c37, ld_n hb b1, if_pos c37]
    obtain ⟨hx, ex⟩ := at_n l37 (by decide) c37
    rw [bnd2_o (v := 68) (w := nI (128 * (rA R 37 b).toNatClampNeg)) (by rw [← pk_mul, ← ex]; rfl)]
    rw [if_neg (show ¬ 68 = 71 by decide)]
    rw [if_pos rfl, bnd_o (e_num68 (y := nr (fun i => rA R 28 (128 * (rA R 37 b).toNatClampNeg + i))) nr_i hn ha (by omega))]
  rw [if_pos c37, if_neg (fun z => z c37)]
  rw [ld_n hb b1]
  by_cases c38 : rA R 38 b = -1
  rotate_left
  · rw [if_neg c38, ld_n hb b1, if_pos c38]
    obtain ⟨hx, ex⟩ := at_n l38 (by decide) c38
    rw [bnd2_o (v := 65) (w := nI (128 * (rA R 38 b).toNatClampNeg)) (by rw [← pk_mul, ← ex]; rfl)]
    rw [if_neg (show ¬ 65 = 71 by decide)]
    rw [if_neg (show ¬ 65 = 68 by decide)]
    rw [if_pos rfl, bnd_o (e_num65 (y := nr (fun i => rA R 24 (128 * (rA R 38 b).toNatClampNeg + i))) nr_i hn ha (by omega))]
  rw [if_pos c38, if_neg (fun z => z c38)]
  rw [ld_n hb b1]
  by_cases c39 : rA R 39 b = -1
  rotate_left
  · rw [if_neg c39, ld_n hb b1, if_pos c39]
    obtain ⟨hx, ex⟩ := at_n l39 (by decide) c39
    rw [bnd2_o (v := 63) (w := nI (128 * (rA R 39 b).toNatClampNeg)) (by rw [← pk_mul, ← ex]; rfl)]
    rw [if_neg (show ¬ 63 = 71 by decide)]
    rw [if_neg (show ¬ 63 = 68 by decide)]
    rw [if_neg (show ¬ 63 = 65 by decide)]
    rw [if_pos rfl, bnd_o (e_num63 (y := nr (fun i => rA R 17 (128 * (rA R 39 b).toNatClampNeg + i))) nr_i hn ha (by omega))]
  rw [if_pos c39, if_neg (fun z => z c39)]
  rw [ld_n hb b1]
  by_cases c40 : rA R 40 b = -1
  rotate_left
  · rw [if_neg c40, ld_n hb b1, if_pos c40]
    obtain ⟨hx, ex⟩ := at_n l40 (by decide) c40
    rw [bnd2_o (v := 60) (w := nI (128 * (rA R 40 b).toNatClampNeg)) (by rw [← pk_mul, ← ex]; rfl)]
    rw [if_neg (show ¬ 60 = 71 by decide)]
    rw [if_neg (show ¬ 60 = 68 by decide)]
    rw [if_neg (show ¬ 60 = 65 by decide)]
    rw [if_neg (show ¬ 60 = 63 by decide)]
    rw [if_pos rfl, bnd_o (e_num60 (y := nr (fun i => rA R 8 (128 * (rA R 40 b).toNatClampNeg + i))) nr_i hn ha (by omega))]
  rw [if_pos c40, if_neg (fun z => z c40)]
  rw [bnd2_o (v := 58) (w := nI (128 * b)) (by rw [← pk_mul]; rfl)]
  rw [if_neg (show ¬ 58 = 71 by decide)]
  rw [if_neg (show ¬ 58 = 68 by decide)]
  rw [if_neg (show ¬ 58 = 65 by decide)]
  rw [if_neg (show ¬ 58 = 63 by decide)]
  rw [if_neg (show ¬ 58 = 60 by decide)]
  rw [if_pos rfl, bnd_o (e_num58 (y := nr (fun i => rA R 6 (128 * b + i))) nr_i hn ha (by omega))]
end PUC
