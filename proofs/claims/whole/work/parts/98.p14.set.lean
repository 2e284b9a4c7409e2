/-! ===== pure: numbers into rows ===== -/
section PUQ
def bK (v : Int32) (k : Nat) : Int32 := (((v : Int32).toUInt32 >>> ((nI (8 * k) : Int32).toUInt32 &&& Int32.toUInt32 31)).toInt32 : Int32).toInt8.toInt32
theorem i8_c {a b : Int32} (h : a.toBitVec.toNat % 256 = b.toBitVec.toNat % 256) : a.toInt8.toInt32 = b.toInt8.toInt32 := by
  congr 1
  apply Int8.toBitVec_inj.mp
  apply BitVec.eq_of_toNat_eq
  rw [Int32.toBitVec_toInt8, Int32.toBitVec_toInt8, BitVec.signExtend_eq_setWidth_of_le _ (by decide), BitVec.signExtend_eq_setWidth_of_le _ (by decide), BitVec.toNat_setWidth, BitVec.toNat_setWidth]
  exact h
theorem sh_n {v s : Int32} {k : Nat} (hs : (s.toBitVec.smod 32).toNat = k) : (v >>> s).toBitVec.toNat = v.toBitVec.toNat / 2 ^ k ∨ ((v >>> s).toBitVec.toNat : Int) = ((v.toBitVec.toNat : Int) - 4294967296) / 2 ^ k + 4294967296 := by
  have h1 := pk_shr v s k hs
  rw [Int.shiftRight_eq_div_pow] at h1
  have e1 : v.toInt = v.toBitVec.toInt := rfl
  have e2 : (v >>> s).toInt = (v >>> s).toBitVec.toInt := rfl
  rw [e1, e2, BitVec.toInt_eq_toNat_cond, BitVec.toInt_eq_toNat_cond] at h1
  have l1 := v.toBitVec.isLt
  have l2 := (v >>> s).toBitVec.isLt
  generalize (v >>> s).toBitVec.toNat = b at *
  generalize v.toBitVec.toNat = a at *
  have hp : (0 : Int) < 2 ^ k := Int.pow_pos (by decide)
  have hpn : 0 < 2 ^ k := Nat.two_pow_pos k
  by_cases c : 2 * a < 2 ^ 32
  · rw [if_pos c] at h1
    left
    have h3 : ((a : Int) / ((2 ^ k : Nat) : Int)) = ((a / 2 ^ k : Nat) : Int) := (Int.natCast_ediv _ _).symm
    rw [h3] at h1
    generalize a / 2 ^ k = q at *
    split at h1 <;> omega
  · rw [if_neg c] at h1
    right
    have h2 : ((a : Int) - ((2 ^ 32 : Nat) : Int)) / ((2 ^ k : Nat) : Int) < 0 := Int.ediv_neg_of_neg_of_pos (by omega) (by omega)
    have h3 : ((2 ^ k : Nat) : Int) = 2 ^ k := by simp
    have h4 : ((2 ^ 32 : Nat) : Int) = 4294967296 := by decide
    rw [h4] at h1 h2
    rw [h3] at h1 h2
    generalize ((a : Int) - 4294967296) / 2 ^ k = q at *
    split at h1 <;> omega
theorem bK_0 (v : Int32) : bK v 0 = v.toInt8.toInt32 := by
  refine i8_c ?_
  rw [pk_ushr v (nI 0) 0 (by decide)]
  show v.toBitVec.toNat / 1 % 256 = _
  omega
theorem bK_1 (v : Int32) : bK v 1 = (v >>> ((8 : Int32) &&& 31)).toInt8.toInt32 := by
  refine i8_c ?_
  rw [pk_ushr v (nI 8) 8 (by decide)]
  have h := sh_n (v := v) (s := (8 : Int32) &&& 31) (k := 8) (by decide)
  show v.toBitVec.toNat / 256 % 256 = _
  have e : (2 : Nat) ^ 8 = 256 := rfl
  have e2 : (2 : Int) ^ 8 = 256 := rfl
  rw [e, e2] at h
  omega
theorem bK_2 (v : Int32) : bK v 2 = (v >>> ((16 : Int32) &&& 31)).toInt8.toInt32 := by
  refine i8_c ?_
  rw [pk_ushr v (nI 16) 16 (by decide)]
  have h := sh_n (v := v) (s := (16 : Int32) &&& 31) (k := 16) (by decide)
  show v.toBitVec.toNat / 65536 % 256 = _
  have e : (2 : Nat) ^ 16 = 65536 := rfl
  have e2 : (2 : Int) ^ 16 = 65536 := rfl
  rw [e, e2] at h
  omega
theorem bK_3 (v : Int32) : bK v 3 = ((v >>> ((16 : Int32) &&& 31)) >>> ((8 : Int32) &&& 31)).toInt8.toInt32 := by
  refine i8_c ?_
  rw [pk_ushr v (nI 24) 24 (by decide)]
  have h := sh_n (v := v) (s := (16 : Int32) &&& 31) (k := 16) (by decide)
  have h2 := sh_n (v := v >>> ((16 : Int32) &&& 31)) (s := (8 : Int32) &&& 31) (k := 8) (by decide)
  have l := v.toBitVec.isLt
  show v.toBitVec.toNat / 16777216 % 256 = _
  have e : (2 : Nat) ^ 16 = 65536 := rfl
  have e2 : (2 : Int) ^ 16 = 65536 := rfl
  have e3 : (2 : Nat) ^ 8 = 256 := rfl
  have e4 : (2 : Int) ^ 8 = 256 := rfl
  rw [e, e2] at h
  rw [e3, e4] at h2
  omega

/-- k bytes of a number -/
def wB (g : Nat → Int32) (p : Nat) (v : Int32) : Nat → Nat → Int32
  | 0 => g
  | k + 1 => upd (wB g p v k) (p + k) (vp_nar .byte (bK v k))
theorem wB_2 {g : Nat → Int32} {p : Nat} {v : Int32} : wB g p v 2 = s_two g p v := by
  show upd (upd g (p + 0) (vp_nar .byte (bK v 0))) (p + 1) (vp_nar .byte (bK v 1)) = _
  rw [bK_0, bK_1]
  rfl
theorem wB_4 {g : Nat → Int32} {p : Nat} {v : Int32} : wB g p v 4 = s_four g p v := by
  show upd (upd (upd (upd g (p + 0) (vp_nar .byte (bK v 0))) (p + 1) (vp_nar .byte (bK v 1))) (p + 2) (vp_nar .byte (bK v 2))) (p + 3) (vp_nar .byte (bK v 3)) = _
  rw [bK_0, bK_1, bK_2, bK_3]
  rfl
theorem wB_1 {g : Nat → Int32} {p : Nat} {v : Int32} : wB g p v 1 = upd g p (vp_nar .byte v.toInt8.toInt32) := by
  show upd g (p + 0) (vp_nar .byte (bK v 0)) = _
  rw [bK_0]
  rfl
theorem mul8 {k : Nat} : (8 : Int32) * nI k = nI (8 * k) := pk_mul 8 k
theorem wB_s {g : Nat → Int32} {p k : Nat} {v : Int32} : upd (wB g p v k) (p + k) (vp_nar .byte ((((v : Int32).toUInt32 >>> ((nI (8 * k) : Int32).toUInt32 &&& Int32.toUInt32 31)).toInt32 : Int32).toInt8.toInt32)) = wB g p v (k + 1) := rfl
theorem z_set71_l {R : RfT} {p n : Nat} {v : Int32} (hn : n ≤ 4) (hp : p + n ≤ 131072) : ∀ (m k : Nat), k ≤ n → n - k < m → e_set_71_3 m (setA R 32 (wB (rA R 32) p v k)) (nI p) (nI n) v (nI k) = some (setA R 32 (wB (rA R 32) p v n)) := by
  have hM : 131072 < 2 ^ 31 := by decide
  intro m
  induction m with
  | zero => intro k _ h; exact absurd h (Nat.not_lt_zero _)
  | succ m ih =>
    intro k hk hm
    rw [e_set_71_3]
    by_cases c : k = n
    · rw [c, if_pos (nI_le (Nat.le_refl _) (by omega))]
    · have h2 : p + k < 131072 := by omega
      rw [if_neg (nI_ge (by omega) (by omega)), nI_add, st_n h2 hM, rA_e, mul8, wB_s, setA_A, nI_1, ih (k + 1) (by omega) (by omega)]
theorem z_set71 {R : RfT} {p n : Nat} {v : Int32} (hn : n ≤ 4) (hp : p + n ≤ 131072) : e_set_71 R (nI p) (nI n) v = some (setA R 32 (wB (rA R 32) p v n)) := by
  have q := z_set71_l (R := R) (p := p) (n := n) (v := v) hn hp fuL 0 (Nat.zero_le _) (by rw [fuL_4]; omega)
  rw [show wB (rA R 32) p v 0 = rA R 32 from rfl, setA_id] at q
  rw [e_set_71]
  exact q
theorem z_set79_l {R : RfT} {p n : Nat} {v : Int32} (hn : n ≤ 4) (hp : p + n ≤ 128) : ∀ (m k : Nat), k ≤ n → n - k < m → e_set_79_3 m (setA R 44 (wB (rA R 44) p v k)) (nI p) (nI n) v (nI k) = some (setA R 44 (wB (rA R 44) p v n)) := by
  have hM : 128 < 2 ^ 31 := by decide
  intro m
  induction m with
  | zero => intro k _ h; exact absurd h (Nat.not_lt_zero _)
  | succ m ih =>
    intro k hk hm
    rw [e_set_79_3]
    by_cases c : k = n
    · rw [c, if_pos (nI_le (Nat.le_refl _) (by omega))]
    · have h2 : p + k < 128 := by omega
      rw [if_neg (nI_ge (by omega) (by omega)), nI_add, st_n h2 hM, rA_e, mul8, wB_s, setA_A, nI_1, ih (k + 1) (by omega) (by omega)]
theorem z_set79 {R : RfT} {p n : Nat} {v : Int32} (hn : n ≤ 4) (hp : p + n ≤ 128) : e_set_79 R (nI p) (nI n) v = some (setA R 44 (wB (rA R 44) p v n)) := by
  have q := z_set79_l (R := R) (p := p) (n := n) (v := v) hn hp fuL 0 (Nat.zero_le _) (by rw [fuL_4]; omega)
  rw [show wB (rA R 44) p v 0 = rA R 44 from rfl, setA_id] at q
  rw [e_set_79]
  exact q
end PUQ
