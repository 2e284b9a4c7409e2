/-! ===== pure: the reference moves rows, fills rows ===== -/
section PUP
variable {R : RfT}
theorem z_cp78_71_l {p q : Nat} (hb : Byt (rA R 43)) (hp : p + 128 ≤ 128) (hq : q + 128 ≤ 131072) : ∀ (m k : Nat), k ≤ 128 → 128 - k < m → e_move_78_71_3 m (setA R 32 (va_cpy (rA R 43) (rA R 32) p q k)) (nI p) (nI q) (nI k) = some (setA R 32 (va_cpy (rA R 43) (rA R 32) p q 128)) := by
  have hM : 128 < 2 ^ 31 := by decide
  have hM2 : 131072 < 2 ^ 31 := by decide
  intro m
  induction m with
  | zero => intro k _ h; exact absurd h (Nat.not_lt_zero _)
  | succ m ih =>
    intro k hk hm
    rw [e_move_78_71_3]
    by_cases c : k = 128
    · rw [c, if_pos (show (128 : Int32) ≤ nI 128 from nI_le (a := 128) (b := 128) (by decide) (by decide))]
    · have h1 : p + k < 128 := by omega
      have h2 : q + k < 131072 := by omega
      rw [if_neg (show ¬ (128 : Int32) ≤ nI k from nI_ge (a := k) (b := 128) (by omega) (by decide)), nI_add, ld_n h1 hM, nI_add, st_n h2 hM2, rA_n (show 43 ≠ 32 by decide), rA_e, nar8 (hb _), cpy_s, setA_A, nI_1, ih (k + 1) (by omega) (by omega)]
theorem z_cp78_71 {p q : Nat} (hb : Byt (rA R 43)) (hp : p + 128 ≤ 128) (hq : q + 128 ≤ 131072) : e_move_78_71 R (nI p) (nI q) = some (setA R 32 (va_cpy (rA R 43) (rA R 32) p q 128)) := by
  have q := z_cp78_71_l (R := R) (p := p) (q := q) hb hp hq fuL 0 (Nat.zero_le _) (by rw [fuL_4]; omega)
  rw [cpy_0, setA_id] at q
  rw [e_move_78_71]
  exact q
theorem z_cp68_81_l {p q : Nat} (hb : Byt (rA R 28)) (hp : p + 128 ≤ 131072) (hq : q + 128 ≤ 5120) : ∀ (m k : Nat), k ≤ 128 → 128 - k < m → e_move_68_81_3 m (setA R 46 (va_cpy (rA R 28) (rA R 46) p q k)) (nI p) (nI q) (nI k) = some (setA R 46 (va_cpy (rA R 28) (rA R 46) p q 128)) := by
  have hM : 131072 < 2 ^ 31 := by decide
  have hM2 : 5120 < 2 ^ 31 := by decide
  intro m
  induction m with
  | zero => intro k _ h; exact absurd h (Nat.not_lt_zero _)
  | succ m ih =>
    intro k hk hm
    rw [e_move_68_81_3]
    by_cases c : k = 128
    · rw [c, if_pos (show (128 : Int32) ≤ nI 128 from nI_le (a := 128) (b := 128) (by decide) (by decide))]
    · have h1 : p + k < 131072 := by omega
      have h2 : q + k < 5120 := by omega
      rw [if_neg (show ¬ (128 : Int32) ≤ nI k from nI_ge (a := k) (b := 128) (by omega) (by decide)), nI_add, ld_n h1 hM, nI_add, st_n h2 hM2, rA_n (show 28 ≠ 46 by decide), rA_e, nar8 (hb _), cpy_s, setA_A, nI_1, ih (k + 1) (by omega) (by omega)]
theorem z_cp68_81 {p q : Nat} (hb : Byt (rA R 28)) (hp : p + 128 ≤ 131072) (hq : q + 128 ≤ 5120) : e_move_68_81 R (nI p) (nI q) = some (setA R 46 (va_cpy (rA R 28) (rA R 46) p q 128)) := by
  have q := z_cp68_81_l (R := R) (p := p) (q := q) hb hp hq fuL 0 (Nat.zero_le _) (by rw [fuL_4]; omega)
  rw [cpy_0, setA_id] at q
  rw [e_move_68_81]
  exact q
theorem z_cp81_65_l {p q : Nat} (hb : Byt (rA R 46)) (hp : p + 128 ≤ 5120) (hq : q + 128 ≤ 5120) : ∀ (m k : Nat), k ≤ 128 → 128 - k < m → e_move_81_65_3 m (setA R 24 (va_cpy (rA R 46) (rA R 24) p q k)) (nI p) (nI q) (nI k) = some (setA R 24 (va_cpy (rA R 46) (rA R 24) p q 128)) := by
  have hM : 5120 < 2 ^ 31 := by decide
  have hM2 : 5120 < 2 ^ 31 := by decide
  intro m
  induction m with
  | zero => intro k _ h; exact absurd h (Nat.not_lt_zero _)
  | succ m ih =>
    intro k hk hm
    rw [e_move_81_65_3]
    by_cases c : k = 128
    · rw [c, if_pos (show (128 : Int32) ≤ nI 128 from nI_le (a := 128) (b := 128) (by decide) (by decide))]
    · have h1 : p + k < 5120 := by omega
      have h2 : q + k < 5120 := by omega
      rw [if_neg (show ¬ (128 : Int32) ≤ nI k from nI_ge (a := k) (b := 128) (by omega) (by decide)), nI_add, ld_n h1 hM, nI_add, st_n h2 hM2, rA_n (show 46 ≠ 24 by decide), rA_e, nar8 (hb _), cpy_s, setA_A, nI_1, ih (k + 1) (by omega) (by omega)]
theorem z_cp81_65 {p q : Nat} (hb : Byt (rA R 46)) (hp : p + 128 ≤ 5120) (hq : q + 128 ≤ 5120) : e_move_81_65 R (nI p) (nI q) = some (setA R 24 (va_cpy (rA R 46) (rA R 24) p q 128)) := by
  have q := z_cp81_65_l (R := R) (p := p) (q := q) hb hp hq fuL 0 (Nat.zero_le _) (by rw [fuL_4]; omega)
  rw [cpy_0, setA_id] at q
  rw [e_move_81_65]
  exact q
theorem z_cp71_68_l {p q : Nat} (hb : Byt (rA R 32)) (hp : p + 128 ≤ 131072) (hq : q + 128 ≤ 131072) : ∀ (m k : Nat), k ≤ 128 → 128 - k < m → e_move_71_68_3 m (setA R 28 (va_cpy (rA R 32) (rA R 28) p q k)) (nI p) (nI q) (nI k) = some (setA R 28 (va_cpy (rA R 32) (rA R 28) p q 128)) := by
  have hM : 131072 < 2 ^ 31 := by decide
  have hM2 : 131072 < 2 ^ 31 := by decide
  intro m
  induction m with
  | zero => intro k _ h; exact absurd h (Nat.not_lt_zero _)
  | succ m ih =>
    intro k hk hm
    rw [e_move_71_68_3]
    by_cases c : k = 128
    · rw [c, if_pos (show (128 : Int32) ≤ nI 128 from nI_le (a := 128) (b := 128) (by decide) (by decide))]
    · have h1 : p + k < 131072 := by omega
      have h2 : q + k < 131072 := by omega
      rw [if_neg (show ¬ (128 : Int32) ≤ nI k from nI_ge (a := k) (b := 128) (by omega) (by decide)), nI_add, ld_n h1 hM, nI_add, st_n h2 hM2, rA_n (show 32 ≠ 28 by decide), rA_e, nar8 (hb _), cpy_s, setA_A, nI_1, ih (k + 1) (by omega) (by omega)]
theorem z_cp71_68 {p q : Nat} (hb : Byt (rA R 32)) (hp : p + 128 ≤ 131072) (hq : q + 128 ≤ 131072) : e_move_71_68 R (nI p) (nI q) = some (setA R 28 (va_cpy (rA R 32) (rA R 28) p q 128)) := by
  have q := z_cp71_68_l (R := R) (p := p) (q := q) hb hp hq fuL 0 (Nat.zero_le _) (by rw [fuL_4]; omega)
  rw [cpy_0, setA_id] at q
  rw [e_move_71_68]
  exact q
theorem z_cp79_82_l {p q : Nat} (hb : Byt (rA R 44)) (hp : p + 128 ≤ 128) (hq : q + 128 ≤ 128) : ∀ (m k : Nat), k ≤ 128 → 128 - k < m → e_move_79_82_3 m (setA R 48 (va_cpy (rA R 44) (rA R 48) p q k)) (nI p) (nI q) (nI k) = some (setA R 48 (va_cpy (rA R 44) (rA R 48) p q 128)) := by
  have hM : 128 < 2 ^ 31 := by decide
  have hM2 : 128 < 2 ^ 31 := by decide
  intro m
  induction m with
  | zero => intro k _ h; exact absurd h (Nat.not_lt_zero _)
  | succ m ih =>
    intro k hk hm
    rw [e_move_79_82_3]
    by_cases c : k = 128
    · rw [c, if_pos (show (128 : Int32) ≤ nI 128 from nI_le (a := 128) (b := 128) (by decide) (by decide))]
    · have h1 : p + k < 128 := by omega
      have h2 : q + k < 128 := by omega
      rw [if_neg (show ¬ (128 : Int32) ≤ nI k from nI_ge (a := k) (b := 128) (by omega) (by decide)), nI_add, ld_n h1 hM, nI_add, st_n h2 hM2, rA_n (show 44 ≠ 48 by decide), rA_e, nar8 (hb _), cpy_s, setA_A, nI_1, ih (k + 1) (by omega) (by omega)]
theorem z_cp79_82 {p q : Nat} (hb : Byt (rA R 44)) (hp : p + 128 ≤ 128) (hq : q + 128 ≤ 128) : e_move_79_82 R (nI p) (nI q) = some (setA R 48 (va_cpy (rA R 44) (rA R 48) p q 128)) := by
  have q := z_cp79_82_l (R := R) (p := p) (q := q) hb hp hq fuL 0 (Nat.zero_le _) (by rw [fuL_4]; omega)
  rw [cpy_0, setA_id] at q
  rw [e_move_79_82]
  exact q
theorem z_cp82_79_l {p q : Nat} (hb : Byt (rA R 48)) (hp : p + 128 ≤ 128) (hq : q + 128 ≤ 128) : ∀ (m k : Nat), k ≤ 128 → 128 - k < m → e_move_82_79_3 m (setA R 44 (va_cpy (rA R 48) (rA R 44) p q k)) (nI p) (nI q) (nI k) = some (setA R 44 (va_cpy (rA R 48) (rA R 44) p q 128)) := by
  have hM : 128 < 2 ^ 31 := by decide
  have hM2 : 128 < 2 ^ 31 := by decide
  intro m
  induction m with
  | zero => intro k _ h; exact absurd h (Nat.not_lt_zero _)
  | succ m ih =>
    intro k hk hm
    rw [e_move_82_79_3]
    by_cases c : k = 128
    · rw [c, if_pos (show (128 : Int32) ≤ nI 128 from nI_le (a := 128) (b := 128) (by decide) (by decide))]
    · have h1 : p + k < 128 := by omega
      have h2 : q + k < 128 := by omega
      rw [if_neg (show ¬ (128 : Int32) ≤ nI k from nI_ge (a := k) (b := 128) (by omega) (by decide)), nI_add, ld_n h1 hM, nI_add, st_n h2 hM2, rA_n (show 48 ≠ 44 by decide), rA_e, nar8 (hb _), cpy_s, setA_A, nI_1, ih (k + 1) (by omega) (by omega)]
theorem z_cp82_79 {p q : Nat} (hb : Byt (rA R 48)) (hp : p + 128 ≤ 128) (hq : q + 128 ≤ 128) : e_move_82_79 R (nI p) (nI q) = some (setA R 44 (va_cpy (rA R 48) (rA R 44) p q 128)) := by
  have q := z_cp82_79_l (R := R) (p := p) (q := q) hb hp hq fuL 0 (Nat.zero_le _) (by rw [fuL_4]; omega)
  rw [cpy_0, setA_id] at q
  rw [e_move_82_79]
  exact q
theorem z_cp71_71_l {p q : Nat} (hb : Byt (rA R 32)) (hp : p + 128 ≤ 131072) (hq : q + 128 ≤ 131072) (hd : p + 128 ≤ q ∨ q + 128 ≤ p) : ∀ (m k : Nat), k ≤ 128 → 128 - k < m → e_move_71_71_3 m (setA R 32 (va_cpy (rA R 32) (rA R 32) p q k)) (nI p) (nI q) (nI k) = some (setA R 32 (va_cpy (rA R 32) (rA R 32) p q 128)) := by
  have hM : 131072 < 2 ^ 31 := by decide
  intro m
  induction m with
  | zero => intro k _ h; exact absurd h (Nat.not_lt_zero _)
  | succ m ih =>
    intro k hk hm
    rw [e_move_71_71_3]
    by_cases c : k = 128
    · rw [c, if_pos (show (128 : Int32) ≤ nI 128 from nI_le (a := 128) (b := 128) (by decide) (by decide))]
    · have h1 : p + k < 131072 := by omega
      have h2 : q + k < 131072 := by omega
      have e : va_cpy (rA R 32) (rA R 32) p q k (p + k) = rA R 32 (p + k) := pk_cpy_out (by omega)
      rw [if_neg (show ¬ (128 : Int32) ≤ nI k from nI_ge (a := k) (b := 128) (by omega) (by decide)), nI_add, ld_n h1 hM, nI_add, st_n h2 hM, rA_e, e, nar8 (hb _), cpy_s, setA_A, nI_1, ih (k + 1) (by omega) (by omega)]
theorem z_cp71_71 {p q : Nat} (hb : Byt (rA R 32)) (hp : p + 128 ≤ 131072) (hq : q + 128 ≤ 131072) (hd : p + 128 ≤ q ∨ q + 128 ≤ p) : e_move_71_71 R (nI p) (nI q) = some (setA R 32 (va_cpy (rA R 32) (rA R 32) p q 128)) := by
  have q := z_cp71_71_l (R := R) (p := p) (q := q) hb hp hq hd fuL 0 (Nat.zero_le _) (by rw [fuL_4]; omega)
  rw [cpy_0, setA_id] at q
  rw [e_move_71_71]
  exact q
theorem z_nowhere_75_l : ∀ (m k : Nat), k ≤ 1024 → 1024 - k < m → e_nowhere_75_2 m (setA R 38 (flt (rA R 38) 0 k (-1))) (nI k) = some (setA R 38 (flt (rA R 38) 0 1024 (-1))) := by
  intro m
  induction m with
  | zero => intro k _ h; exact absurd h (Nat.not_lt_zero _)
  | succ m ih =>
    intro k hk hm
    rw [e_nowhere_75_2]
    by_cases c : k = 1024
    · rw [c, if_pos (show (1024 : Int32) ≤ nI 1024 from nI_le (a := 1024) (b := 1024) (by decide) (by decide))]
    · rw [if_neg (show ¬ (1024 : Int32) ≤ nI k from nI_ge (a := k) (b := 1024) (by omega) (by decide)), st_n (by omega) (by decide), rA_e, flt_s (Nat.zero_le _), setA_A, nI_1, ih (k + 1) (by omega) (by omega)]
theorem z_nowhere_75 : e_nowhere_75 R = some (setA R 38 (flt (rA R 38) 0 1024 (-1))) := by
  have q := z_nowhere_75_l (R := R) fuL 0 (Nat.zero_le _) (by rw [fuL_4]; omega)
  rw [flt_0, setA_id] at q
  rw [e_nowhere_75]
  exact q
theorem z_nowhere_74_l : ∀ (m k : Nat), k ≤ 1024 → 1024 - k < m → e_nowhere_74_2 m (setA R 37 (flt (rA R 37) 0 k (-1))) (nI k) = some (setA R 37 (flt (rA R 37) 0 1024 (-1))) := by
  intro m
  induction m with
  | zero => intro k _ h; exact absurd h (Nat.not_lt_zero _)
  | succ m ih =>
    intro k hk hm
    rw [e_nowhere_74_2]
    by_cases c : k = 1024
    · rw [c, if_pos (show (1024 : Int32) ≤ nI 1024 from nI_le (a := 1024) (b := 1024) (by decide) (by decide))]
    · rw [if_neg (show ¬ (1024 : Int32) ≤ nI k from nI_ge (a := k) (b := 1024) (by omega) (by decide)), st_n (by omega) (by decide), rA_e, flt_s (Nat.zero_le _), setA_A, nI_1, ih (k + 1) (by omega) (by omega)]
theorem z_nowhere_74 : e_nowhere_74 R = some (setA R 37 (flt (rA R 37) 0 1024 (-1))) := by
  have q := z_nowhere_74_l (R := R) fuL 0 (Nat.zero_le _) (by rw [fuL_4]; omega)
  rw [flt_0, setA_id] at q
  rw [e_nowhere_74]
  exact q
theorem nar0 : vp_nar .byte (0 : Int32) = 0 := by decide
theorem z_empty_l : ∀ (m k : Nat), k ≤ 128 → 128 - k < m → e_empty_2 m (setA R 44 (flt (rA R 44) 0 k 0)) (nI k) = some (setA R 44 (flt (rA R 44) 0 128 0)) := by
  intro m
  induction m with
  | zero => intro k _ h; exact absurd h (Nat.not_lt_zero _)
  | succ m ih =>
    intro k hk hm
    rw [e_empty_2]
    by_cases c : k = 128
    · rw [c, if_pos (show (128 : Int32) ≤ nI 128 from nI_le (a := 128) (b := 128) (by decide) (by decide))]
    · rw [if_neg (show ¬ (128 : Int32) ≤ nI k from nI_ge (a := k) (b := 128) (by omega) (by decide)), st_n (by omega) (by decide), nar0, rA_e, flt_s (Nat.zero_le _), setA_A, nI_1, ih (k + 1) (by omega) (by omega)]
theorem z_empty : e_empty R = some (setA R 44 (flt (rA R 44) 0 128 0)) := by
  have q := z_empty_l (R := R) fuL 0 (Nat.zero_le _) (by rw [fuL_4]; omega)
  rw [flt_0, setA_id] at q
  rw [e_empty]
  exact q
end PUP
