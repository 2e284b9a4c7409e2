/-! ===== pure: the reference takes a row out ===== -/
section PUJ
variable {R : RfT}
theorem st_n {α : Type} {R : RfT} {j n k : Nat} {x : Int32} {K : RfT → Option α} (h : k < n) (hn : n < 2 ^ 31) : stR R j n (nI k) x K = K (setA R j (upd (rA R j) k x)) := by
  unfold stR
  rw [if_neg (nI_in h hn), nI_clamp (by omega)]
theorem rA_n {R : RfT} {i j : Nat} {x : Nat → Int32} (h : i ≠ j) : rA (setA R j x) i = rA R i := if_neg h
theorem rA_e {R : RfT} {j : Nat} {x : Nat → Int32} : rA (setA R j x) j = x := if_pos rfl
/-- k bytes of a row are there -/
def mvA (s d : Nat → Int32) (t k : Nat) : Nat → Int32 := fun i => if i < k then s (t + i) else d i
theorem mvA_s {s d : Nat → Int32} {t k : Nat} : upd (mvA s d t k) k (s (t + k)) = mvA s d t (k + 1) := by
  funext i
  unfold mvA
  by_cases e : i = k
  · rw [e, pk_us, if_pos (by omega)]
  · rw [pk_un e]
    by_cases c : i < k
    · rw [if_pos c, if_pos (by omega)]
    · rw [if_neg c, if_neg (by omega)]
theorem mvA_0 {s d : Nat → Int32} {t : Nat} : mvA s d t 0 = d := by
  funext i
  exact if_neg (Nat.not_lt_zero i)
theorem z_mv71_l {t : Nat} (hb : Byt (rA R 32)) (ht : t + 128 ≤ 131072) : ∀ (m k : Nat), k ≤ 128 → 128 - k < m → e_move_71_78_3 m (setA R 43 (mvA (rA R 32) (rA R 43) t k)) (nI t) (nI 0) (nI k) = some (setA R 43 (mvA (rA R 32) (rA R 43) t 128)) := by
  have hM : 131072 < 2 ^ 31 := by decide
  intro m
  induction m with
  | zero => intro k _ h; exact absurd h (Nat.not_lt_zero _)
  | succ m ih =>
    intro k hk hm
    rw [e_move_71_78_3]
    by_cases c : k = 128
    · rw [c, if_pos (show (128 : Int32) ≤ nI 128 from nI_le (a := 128) (b := 128) (by decide) (by decide))]
    · have hk2 : t + k < 131072 := by omega
      rw [if_neg (show ¬ (128 : Int32) ≤ nI k from nI_ge (a := k) (b := 128) (by omega) (by decide)), nI_add, ld_n hk2 hM, nI_add, Nat.zero_add, st_n (by omega) (by decide), rA_n (show 32 ≠ 43 by decide), rA_e, nar8 (hb _), mvA_s, setA_A, nI_1, ih (k + 1) (by omega) (by omega)]
theorem z_mv71 {t : Nat} (hb : Byt (rA R 32)) (ht : t + 128 ≤ 131072) : e_move_71_78 R (nI t) 0 = some (setA R 43 (mvA (rA R 32) (rA R 43) t 128)) := by
  have q := z_mv71_l (R := R) (t := t) hb ht fuL 0 (Nat.zero_le _) (by rw [fuL_4]; omega)
  rw [mvA_0, setA_id] at q
  rw [e_move_71_78]
  exact q
theorem z_mv68_l {t : Nat} (hb : Byt (rA R 28)) (ht : t + 128 ≤ 131072) : ∀ (m k : Nat), k ≤ 128 → 128 - k < m → e_move_68_78_3 m (setA R 43 (mvA (rA R 28) (rA R 43) t k)) (nI t) (nI 0) (nI k) = some (setA R 43 (mvA (rA R 28) (rA R 43) t 128)) := by
  have hM : 131072 < 2 ^ 31 := by decide
  intro m
  induction m with
  | zero => intro k _ h; exact absurd h (Nat.not_lt_zero _)
  | succ m ih =>
    intro k hk hm
    rw [e_move_68_78_3]
    by_cases c : k = 128
    · rw [c, if_pos (show (128 : Int32) ≤ nI 128 from nI_le (a := 128) (b := 128) (by decide) (by decide))]
    · have hk2 : t + k < 131072 := by omega
      rw [if_neg (show ¬ (128 : Int32) ≤ nI k from nI_ge (a := k) (b := 128) (by omega) (by decide)), nI_add, ld_n hk2 hM, nI_add, Nat.zero_add, st_n (by omega) (by decide), rA_n (show 28 ≠ 43 by decide), rA_e, nar8 (hb _), mvA_s, setA_A, nI_1, ih (k + 1) (by omega) (by omega)]
theorem z_mv68 {t : Nat} (hb : Byt (rA R 28)) (ht : t + 128 ≤ 131072) : e_move_68_78 R (nI t) 0 = some (setA R 43 (mvA (rA R 28) (rA R 43) t 128)) := by
  have q := z_mv68_l (R := R) (t := t) hb ht fuL 0 (Nat.zero_le _) (by rw [fuL_4]; omega)
  rw [mvA_0, setA_id] at q
  rw [e_move_68_78]
  exact q
theorem z_mv65_l {t : Nat} (hb : Byt (rA R 24)) (ht : t + 128 ≤ 5120) : ∀ (m k : Nat), k ≤ 128 → 128 - k < m → e_move_65_78_3 m (setA R 43 (mvA (rA R 24) (rA R 43) t k)) (nI t) (nI 0) (nI k) = some (setA R 43 (mvA (rA R 24) (rA R 43) t 128)) := by
  have hM : 5120 < 2 ^ 31 := by decide
  intro m
  induction m with
  | zero => intro k _ h; exact absurd h (Nat.not_lt_zero _)
  | succ m ih =>
    intro k hk hm
    rw [e_move_65_78_3]
    by_cases c : k = 128
    · rw [c, if_pos (show (128 : Int32) ≤ nI 128 from nI_le (a := 128) (b := 128) (by decide) (by decide))]
    · have hk2 : t + k < 5120 := by omega
      rw [if_neg (show ¬ (128 : Int32) ≤ nI k from nI_ge (a := k) (b := 128) (by omega) (by decide)), nI_add, ld_n hk2 hM, nI_add, Nat.zero_add, st_n (by omega) (by decide), rA_n (show 24 ≠ 43 by decide), rA_e, nar8 (hb _), mvA_s, setA_A, nI_1, ih (k + 1) (by omega) (by omega)]
theorem z_mv65 {t : Nat} (hb : Byt (rA R 24)) (ht : t + 128 ≤ 5120) : e_move_65_78 R (nI t) 0 = some (setA R 43 (mvA (rA R 24) (rA R 43) t 128)) := by
  have q := z_mv65_l (R := R) (t := t) hb ht fuL 0 (Nat.zero_le _) (by rw [fuL_4]; omega)
  rw [mvA_0, setA_id] at q
  rw [e_move_65_78]
  exact q
theorem z_mv63_l {t : Nat} (hb : Byt (rA R 17)) (ht : t + 128 ≤ 8192) : ∀ (m k : Nat), k ≤ 128 → 128 - k < m → e_move_63_78_3 m (setA R 43 (mvA (rA R 17) (rA R 43) t k)) (nI t) (nI 0) (nI k) = some (setA R 43 (mvA (rA R 17) (rA R 43) t 128)) := by
  have hM : 8192 < 2 ^ 31 := by decide
  intro m
  induction m with
  | zero => intro k _ h; exact absurd h (Nat.not_lt_zero _)
  | succ m ih =>
    intro k hk hm
    rw [e_move_63_78_3]
    by_cases c : k = 128
    · rw [c, if_pos (show (128 : Int32) ≤ nI 128 from nI_le (a := 128) (b := 128) (by decide) (by decide))]
    · have hk2 : t + k < 8192 := by omega
      rw [if_neg (show ¬ (128 : Int32) ≤ nI k from nI_ge (a := k) (b := 128) (by omega) (by decide)), nI_add, ld_n hk2 hM, nI_add, Nat.zero_add, st_n (by omega) (by decide), rA_n (show 17 ≠ 43 by decide), rA_e, nar8 (hb _), mvA_s, setA_A, nI_1, ih (k + 1) (by omega) (by omega)]
theorem z_mv63 {t : Nat} (hb : Byt (rA R 17)) (ht : t + 128 ≤ 8192) : e_move_63_78 R (nI t) 0 = some (setA R 43 (mvA (rA R 17) (rA R 43) t 128)) := by
  have q := z_mv63_l (R := R) (t := t) hb ht fuL 0 (Nat.zero_le _) (by rw [fuL_4]; omega)
  rw [mvA_0, setA_id] at q
  rw [e_move_63_78]
  exact q
theorem z_mv60_l {t : Nat} (hb : Byt (rA R 8)) (ht : t + 128 ≤ 32768) : ∀ (m k : Nat), k ≤ 128 → 128 - k < m → e_move_60_78_3 m (setA R 43 (mvA (rA R 8) (rA R 43) t k)) (nI t) (nI 0) (nI k) = some (setA R 43 (mvA (rA R 8) (rA R 43) t 128)) := by
  have hM : 32768 < 2 ^ 31 := by decide
  intro m
  induction m with
  | zero => intro k _ h; exact absurd h (Nat.not_lt_zero _)
  | succ m ih =>
    intro k hk hm
    rw [e_move_60_78_3]
    by_cases c : k = 128
    · rw [c, if_pos (show (128 : Int32) ≤ nI 128 from nI_le (a := 128) (b := 128) (by decide) (by decide))]
    · have hk2 : t + k < 32768 := by omega
      rw [if_neg (show ¬ (128 : Int32) ≤ nI k from nI_ge (a := k) (b := 128) (by omega) (by decide)), nI_add, ld_n hk2 hM, nI_add, Nat.zero_add, st_n (by omega) (by decide), rA_n (show 8 ≠ 43 by decide), rA_e, nar8 (hb _), mvA_s, setA_A, nI_1, ih (k + 1) (by omega) (by omega)]
theorem z_mv60 {t : Nat} (hb : Byt (rA R 8)) (ht : t + 128 ≤ 32768) : e_move_60_78 R (nI t) 0 = some (setA R 43 (mvA (rA R 8) (rA R 43) t 128)) := by
  have q := z_mv60_l (R := R) (t := t) hb ht fuL 0 (Nat.zero_le _) (by rw [fuL_4]; omega)
  rw [mvA_0, setA_id] at q
  rw [e_move_60_78]
  exact q
theorem z_mv58_l {t : Nat} (hb : Byt (rA R 6)) (ht : t + 128 ≤ 131072) : ∀ (m k : Nat), k ≤ 128 → 128 - k < m → e_move_58_78_3 m (setA R 43 (mvA (rA R 6) (rA R 43) t k)) (nI t) (nI 0) (nI k) = some (setA R 43 (mvA (rA R 6) (rA R 43) t 128)) := by
  have hM : 131072 < 2 ^ 31 := by decide
  intro m
  induction m with
  | zero => intro k _ h; exact absurd h (Nat.not_lt_zero _)
  | succ m ih =>
    intro k hk hm
    rw [e_move_58_78_3]
    by_cases c : k = 128
    · rw [c, if_pos (show (128 : Int32) ≤ nI 128 from nI_le (a := 128) (b := 128) (by decide) (by decide))]
    · have hk2 : t + k < 131072 := by omega
      rw [if_neg (show ¬ (128 : Int32) ≤ nI k from nI_ge (a := k) (b := 128) (by omega) (by decide)), nI_add, ld_n hk2 hM, nI_add, Nat.zero_add, st_n (by omega) (by decide), rA_n (show 6 ≠ 43 by decide), rA_e, nar8 (hb _), mvA_s, setA_A, nI_1, ih (k + 1) (by omega) (by omega)]
theorem z_mv58 {t : Nat} (hb : Byt (rA R 6)) (ht : t + 128 ≤ 131072) : e_move_58_78 R (nI t) 0 = some (setA R 43 (mvA (rA R 6) (rA R 43) t 128)) := by
  have q := z_mv58_l (R := R) (t := t) hb ht fuL 0 (Nat.zero_le _) (by rw [fuL_4]; omega)
  rw [mvA_0, setA_id] at q
  rw [e_move_58_78]
  exact q
/-- all rows of the reference are bytes -/
def rBy (R : RfT) : Prop := Byt (rA R 32) ∧ Byt (rA R 28) ∧ Byt (rA R 24) ∧ Byt (rA R 17) ∧ Byt (rA R 8) ∧ Byt (rA R 6)
theorem mv_row {s d : Nat → Int32} {t : Nat} : ∀ i, i < 128 → mvA s d t 128 i = nr (fun i => s (t + i)) i := fun i hi => (if_pos hi).trans (if_pos hi).symm
theorem z_see {b : Nat} {ow : Bool} (hb : b < 1024) (hl : lkO R b) (hy : rBy R) : ∃ g, e_see R (nI b) (bI ow) = some (setA R 43 g) ∧ ∀ i, i < 128 → g i = rSee R ow b i := by
  obtain ⟨l36, l37, l38, l39, l40⟩ := hl
  obtain ⟨y32, y28, y24, y17, y8, y6⟩ := hy
  have b1 : (1024 : Nat) < 2 ^ 31 := by decide
  have main : (¬ (ow = true ∧ ¬ rA R 36 b = -1)) → ∃ g, bnd2 (e_lookUp_39 R (nI b)) (fun k42 v42 => if k42 = 71 then bnd (e_move_71_78 R v42 ((0 : Int32))) (fun R43 => some R43) else if k42 = 68 then bnd (e_move_68_78 R v42 ((0 : Int32))) (fun R46 => some R46) else if k42 = 65 then bnd (e_move_65_78 R v42 ((0 : Int32))) (fun R49 => some R49) else if k42 = 63 then bnd (e_move_63_78 R v42 ((0 : Int32))) (fun R52 => some R52) else if k42 = 60 then bnd (e_move_60_78 R v42 ((0 : Int32))) (fun R55 => some R55) else if k42 = 58 then bnd (e_move_58_78 R v42 ((0 : Int32))) (fun R58 => some R58) else none) = some (setA R 43 g) ∧ ∀ i, i < 128 → g i = rSee R ow b i := by
    intro hno
    rw [rSee, if_neg hno, e_lookUp_39]
    rw [ld_n hb b1]
    by_cases c37 : rA R 37 b = -1
    rotate_left
    · rw [if_neg c37, ld_n hb b1, if_pos c37]
      obtain ⟨hx, ex⟩ := at_n l37 (by decide) c37
      rw [bnd2_o (v := 68) (w := nI (128 * (rA R 37 b).toNatClampNeg)) (by rw [← pk_mul, ← ex]; rfl)]
      rw [if_neg (show ¬ 68 = 71 by decide)]
      rw [if_pos rfl, bnd_o (z_mv68 y28 (by omega))]
      exact ⟨_, rfl, mv_row⟩
    rw [if_pos c37, if_neg (fun z => z c37)]
    rw [ld_n hb b1]
    by_cases c38 : rA R 38 b = -1
    rotate_left
    · rw [if_neg c38, ld_n hb b1, if_pos c38]
      obtain ⟨hx, ex⟩ := at_n l38 (by decide) c38
      rw [bnd2_o (v := 65) (w := nI (128 * (rA R 38 b).toNatClampNeg)) (by rw [← pk_mul, ← ex]; rfl)]
      rw [if_neg (show ¬ 65 = 71 by decide)]
      rw [if_neg (show ¬ 65 = 68 by decide)]
      rw [if_pos rfl, bnd_o (z_mv65 y24 (by omega))]
      exact ⟨_, rfl, mv_row⟩
    rw [if_pos c38, if_neg (fun z => z c38)]
    rw [ld_n hb b1]
    by_cases c39 : rA R 39 b = -1
    rotate_left
    · rw [if_neg c39, ld_n hb b1, if_pos c39]
      obtain ⟨hx, ex⟩ := at_n l39 (by decide) c39
      rw [bnd2_o (v := 63) (w := nI (128 * (rA R 39 b).toNatClampNeg)) (by rw [← pk_mul, ← ex]; rfl)]
      rw [if_neg (show ¬ 63 = 71 by decide)]
      rw [if_neg (show ¬ 63 = 68 by decide)]
      rw [if_neg (show ¬ 63 = 65 by decide)]
      rw [if_pos rfl, bnd_o (z_mv63 y17 (by omega))]
      exact ⟨_, rfl, mv_row⟩
    rw [if_pos c39, if_neg (fun z => z c39)]
    rw [ld_n hb b1]
    by_cases c40 : rA R 40 b = -1
    rotate_left
    · rw [if_neg c40, ld_n hb b1, if_pos c40]
      obtain ⟨hx, ex⟩ := at_n l40 (by decide) c40
      rw [bnd2_o (v := 60) (w := nI (128 * (rA R 40 b).toNatClampNeg)) (by rw [← pk_mul, ← ex]; rfl)]
      rw [if_neg (show ¬ 60 = 71 by decide)]
      rw [if_neg (show ¬ 60 = 68 by decide)]
      rw [if_neg (show ¬ 60 = 65 by decide)]
      rw [if_neg (show ¬ 60 = 63 by decide)]
      rw [if_pos rfl, bnd_o (z_mv60 y8 (by omega))]
      exact ⟨_, rfl, mv_row⟩
    rw [if_pos c40, if_neg (fun z => z c40)]
    rw [bnd2_o (v := 58) (w := nI (128 * b)) (by rw [← pk_mul]; rfl)]
    rw [if_neg (show ¬ 58 = 71 by decide)]
    rw [if_neg (show ¬ 58 = 68 by decide)]
    rw [if_neg (show ¬ 58 = 65 by decide)]
    rw [if_neg (show ¬ 58 = 63 by decide)]
    rw [if_neg (show ¬ 58 = 60 by decide)]
    rw [if_pos rfl, bnd_o (z_mv58 y6 (by omega))]
    exact ⟨_, rfl, mv_row⟩
  rw [e_see, e_lookUp]
  cases ow with
  | false =>
    rw [if_pos (show bI false = 0 from rfl)]
    exact main (fun z => by cases z.1)
  | true =>
    rw [if_neg (show ¬ bI true = 0 from fun z => absurd (bI_0.mp z) (by decide)), ld_n hb b1]
    by_cases c36 : rA R 36 b = -1
    · rw [if_pos c36]
      exact main (fun z => z.2 c36)
    · rw [if_neg c36, ld_n hb b1, rSee, if_pos ⟨rfl, c36⟩]
      obtain ⟨hx, ex⟩ := at_n l36 (by decide) c36
      rw [bnd2_o (v := 71) (w := nI (128 * (rA R 36 b).toNatClampNeg)) (by rw [← pk_mul, ← ex]; rfl)]
      rw [if_pos rfl, bnd_o (z_mv71 y32 (by omega))]
      exact ⟨_, rfl, mv_row⟩
end PUJ
