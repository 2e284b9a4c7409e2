/-! ===== pure: restart ===== -/
section PZU
variable {N B gr u : Nat} {C : CfT} {R : RfT} {D : Dk0}
theorem z_cp60_58_l {p q : Nat} (hb : Byt (rA R 8)) (hp : p + 128 ≤ 32768) (hq : q + 128 ≤ 131072) : ∀ (m k : Nat), k ≤ 128 → 128 - k < m → e_move_60_58_3 m (setA R 6 (va_cpy (rA R 8) (rA R 6) p q k)) (nI p) (nI q) (nI k) = some (setA R 6 (va_cpy (rA R 8) (rA R 6) p q 128)) := by
  have hM : 32768 < 2 ^ 31 := by decide
  have hM2 : 131072 < 2 ^ 31 := by decide
  intro m
  induction m with
  | zero => intro k _ h; exact absurd h (Nat.not_lt_zero _)
  | succ m ih =>
    intro k hk hm
    rw [e_move_60_58_3]
    by_cases c : k = 128
    · rw [c, if_pos (show (128 : Int32) ≤ nI 128 from nI_le (a := 128) (b := 128) (by decide) (by decide))]
    · have h1 : p + k < 32768 := by omega
      have h2 : q + k < 131072 := by omega
      rw [if_neg (show ¬ (128 : Int32) ≤ nI k from nI_ge (a := k) (b := 128) (by omega) (by decide)), nI_add, ld_n h1 hM, nI_add, st_n h2 hM2, rA_n (show 8 ≠ 6 by decide), rA_e, nar8 (hb _), cpy_s, setA_A, nI_1, ih (k + 1) (by omega) (by omega)]
theorem z_cp60_58 {p q : Nat} (hb : Byt (rA R 8)) (hp : p + 128 ≤ 32768) (hq : q + 128 ≤ 131072) : e_move_60_58 R (nI p) (nI q) = some (setA R 6 (va_cpy (rA R 8) (rA R 6) p q 128)) := by
  have q := z_cp60_58_l (R := R) (p := p) (q := q) hb hp hq fuL 0 (Nat.zero_le _) (by rw [fuL_4]; omega)
  rw [cpy_0, setA_id] at q
  rw [e_move_60_58]
  exact q
/-- the value that is kept, by the entries of a ring: from the i-th on, d more -/
def fiR (bo : Nat → Int32) (a b kk : Nat) : Nat → Nat → Option Nat
  | 0, _ => none
  | d + 1, i => if bo ((a + i) % 256) = nI b ∧ rWo bo a b i + 1 = kk then some i else fiR bo a b kk d (i + 1)
theorem rWo_mono {bo : Nat → Int32} {a b : Nat} : ∀ {i}, rWo bo a b i ≤ rWo bo a b (i + 1) := fun {i} => by
  by_cases c : bo ((a + i) % 256) = nI b
  · rw [rWo_y c]
    omega
  · rw [rWo_n c]
    exact Nat.le_refl _
theorem fiR_none {bo : Nat → Int32} {a b kk : Nat} : ∀ (d i : Nat), kk ≤ rWo bo a b i → fiR bo a b kk d i = none
  | 0, _, _ => rfl
  | d + 1, i, h => by
    show (if _ then _ else _) = none
    rw [if_neg (fun z => by omega)]
    exact fiR_none d (i + 1) (Nat.le_trans h rWo_mono)
theorem mod256 {a i : Nat} (ha : a < 256) (hi : i < 512) : (nI a + nI i) - (nI a + nI i) / (256 : Int32) * (256 : Int32) = nI ((a + i) % 256) := by
  rw [nI_add, show (256 : Int32) = nI 256 from rfl, pk_div (by omega) (by decide) (by decide), pk_mul, pk_sub (Nat.div_mul_le_self _ _), n_rem]
theorem clamp_lt (k : Int32) : k.toNatClampNeg < 2 ^ 31 := by
  have := Int32.toInt_lt k
  unfold Int32.toNatClampNeg
  omega
/-- the class keeps a value -/
noncomputable def kvC (C : CfT) (a b : Nat) : Option Nat → CfT
  | none => C
  | some j => sR C 1 b (va_cpy (cR C 0 ((a + j) % 256)) (cR C 1 b) 0 0 128)
theorem kv_l {a w b kk : Nat} (hN : N ≤ 1024) (hb : b < N) (ha : a < 256) (hw : w ≤ 256) (e6 : cS C 206 = nI a) (e7 : cS C 207 = nI w) (hv : ∀ s, Byt (cR C 0 s)) (hkk : kk < 2 ^ 31) : ∀ (d i n : Nat), i + d = w → d < n → rWo (cA C 7) a b i < kk → q_X2_keepValue_5 N B gr n C (nI b) (nI kk) (nI (rWo (cA C 7) a b i)) (nI i) = some (kvC C a b (fiR (cA C 7) a b kk d i)) := by
  intro d
  induction d with
  | zero =>
    intro i n hi hn hlt
    obtain ⟨n, rfl⟩ : ∃ k, n = k + 1 := ⟨n - 1, by omega⟩
    rw [q_X2_keepValue_5, e7, if_pos (nI_le (by omega) (by omega))]
    rfl
  | succ d ih =>
    intro i n hi hn hlt
    obtain ⟨n, rfl⟩ : ∃ k, n = k + 1 := ⟨n - 1, by omega⟩
    have hle := rWo_le (cA C 7) a b i
    have hm : (a + i) % 256 < 256 := Nat.mod_lt _ (by decide)
    rw [q_X2_keepValue_5, e7, if_neg (nI_ge (by omega) (by omega)), if_neg (nI_ge hlt hkk), e6, mod256 ha (by omega), nm_o, ld_n hm (by decide)]
    show _ = some (kvC C a b (if cA C 7 ((a + i) % 256) = nI b ∧ rWo (cA C 7) a b i + 1 = kk then some i else fiR (cA C 7) a b kk d (i + 1)))
    by_cases c : cA C 7 ((a + i) % 256) = nI b
    · rw [if_pos c, nI_1]
      by_cases c2 : rWo (cA C 7) a b i + 1 = kk
      · rw [if_pos (by rw [c2]), if_pos ⟨c, c2⟩, ixB, if_neg (nI_in hm (by decide)), nI_clamp (by omega), ixB, if_neg (nI_in hb (by omega)), nI_clamp (by omega), cpR, gd_t (hv _)]
        obtain ⟨n, rfl⟩ : ∃ k, n = k + 1 := ⟨n - 1, by omega⟩
        rw [q_X2_keepValue_5, if_pos (show nI kk ≤ nI (rWo (cA C 7) a b i + 1) by rw [c2]; exact nI_le (Nat.le_refl _) hkk)]
        split <;> rfl
      · rw [if_neg (fun z => c2 (nI_inj (by omega) (by omega) z)), if_neg (fun z => c2 z.2), ← rWo_y c, nI_1]
        exact ih (i + 1) n (by omega) (by omega) (by rw [rWo_y c]; omega)
    · rw [if_neg c, if_neg (fun z => c z.1), ← rWo_n c, nI_1]
      exact ih (i + 1) n (by omega) (by omega) (by rw [rWo_n c]; exact hlt)
theorem kv_c {a w b : Nat} {k : Int32} (hN : N ≤ 1024) (hb : b < N) (ha : a < 256) (hw : w ≤ 256) (e6 : cS C 206 = nI a) (e7 : cS C 207 = nI w) (hv : ∀ s, Byt (cR C 0 s)) : q_X2_keepValue N B gr C (nI b) k = some (kvC C a b (if 0 < k then fiR (cA C 7) a b k.toNatClampNeg w 0 else none)) := by
  rw [q_X2_keepValue]
  by_cases c : 0 < k
  · have ek : k = nI k.toNatClampNeg := nI_cl (fun z => Int32.lt_irrefl (Int32.lt_trans c z))
    have hk : k.toNatClampNeg < 2 ^ 31 := clamp_lt k
    have h0 : 0 < k.toNatClampNeg := by
      refine Nat.pos_of_ne_zero (fun z => ?_)
      rw [z] at ek
      rw [ek] at c
      exact absurd c (by decide)
    have q := kv_l (B := B) (gr := gr) (kk := k.toNatClampNeg) hN hb ha hw e6 e7 hv hk w 0 fuL (by omega) (by rw [fuL_4]; omega) h0
    rw [if_pos c]
    rw [← ek] at q
    exact q
  · rw [if_neg c, show fuL = 3999999 + 1 from rfl, q_X2_keepValue_5, if_pos (show k ≤ 0 from Int32.not_lt.mp c)]
    split <;> rfl
/-- the reference keeps a value -/
def kvR (R : RfT) (a b : Nat) : Option Nat → RfT
  | none => R
  | some j => setA R 6 (va_cpy (rA R 8) (rA R 6) (128 * ((a + j) % 256)) (128 * b) 128)
theorem kvR_f {a b : Nat} {o : Option Nat} : Fn [] [6] R (kvR R a b o) := by
  cases o with
  | none => exact Fn.rf
  | some j => exact Fn.a (by decide)
theorem kr_l {sf : RfT → Int64 → Int32 → Int32 → Option (Int32 × RfT)} {x3 : Int64} {x5 : Int32} {a w b kk : Nat} (hb : b < 1024) (ha : a < 256) (hw : w ≤ 256) (hkk : kk < 2 ^ 31) : ∀ (d i n : Nat) (R : RfT), rS R 9 = nI a → rS R 10 = nI w → Byt (rA R 8) → i + d = w → d < n → e_restart_76 sf n R x3 x5 (nI b) (nI kk) (nI (rWo (rA R 7) a b i)) (nI i) = sf (kvR R a b (fiR (rA R 7) a b kk d i)) x3 x5 (nI (b + 1)) := by
  intro d
  induction d with
  | zero =>
    intro i n R e9 e10 hv hi hn
    obtain ⟨n, rfl⟩ : ∃ k, n = k + 1 := ⟨n - 1, by omega⟩
    rw [e_restart_76, e10, if_pos (nI_le (by omega) (by omega)), nI_1]
    rfl
  | succ d ih =>
    intro i n R e9 e10 hv hi hn
    obtain ⟨n, rfl⟩ : ∃ k, n = k + 1 := ⟨n - 1, by omega⟩
    have hle := rWo_le (rA R 7) a b i
    have hm : (a + i) % 256 < 256 := Nat.mod_lt _ (by decide)
    rw [e_restart_76, e10, if_neg (nI_ge (by omega) (by omega)), e9, mod256 ha (by omega), nm_o, ld_n hm (by decide)]
    show _ = sf (kvR R a b (if rA R 7 ((a + i) % 256) = nI b ∧ rWo (rA R 7) a b i + 1 = kk then some i else fiR (rA R 7) a b kk d (i + 1))) x3 x5 (nI (b + 1))
    by_cases c : rA R 7 ((a + i) % 256) = nI b
    · rw [if_pos c, ld_n hm (by decide), if_pos c, nI_1]
      by_cases c2 : rWo (rA R 7) a b i + 1 = kk
      · have m1 := z_cp60_58 (R := R) (p := 128 * ((a + i) % 256)) (q := 128 * b) hv (by omega) (by omega)
        rw [if_pos (by rw [c2]), if_pos ⟨c, c2⟩, show (128 : Int32) = nI 128 from rfl, pk_mul, pk_mul, bnd_o m1]
        have q := ih (i + 1) n (setA R 6 (va_cpy (rA R 8) (rA R 6) (128 * ((a + i) % 256)) (128 * b) 128)) e9 e10 hv (by omega) (by omega)
        rw [show rA (setA R 6 (va_cpy (rA R 8) (rA R 6) (128 * ((a + i) % 256)) (128 * b) 128)) 7 = rA R 7 from rfl, fiR_none d (i + 1) (by rw [rWo_y c]; omega), rWo_y c] at q
        rw [nI_1]
        exact q
      · rw [if_neg (fun z => c2 (nI_inj (by omega) (by omega) z)), if_neg (fun z => c2 z.2), ← rWo_y c, nI_1]
        exact ih (i + 1) n R e9 e10 hv (by omega) (by omega)
    · rw [if_neg c, ld_n hm (by decide), if_neg c, if_neg (fun z => c z.1), ← rWo_n c, nI_1]
      exact ih (i + 1) n R e9 e10 hv (by omega) (by omega)
theorem kr_0 {sf : RfT → Int64 → Int32 → Int32 → Option (Int32 × RfT)} {x3 : Int64} {x5 k : Int32} {a w b : Nat} (hb : b < 1024) (ha : a < 256) (hw : w ≤ 256) (hk : ¬ 0 < k) (e9 : rS R 9 = nI a) (e10 : rS R 10 = nI w) : ∀ (d i n : Nat), i + d = w → d < n → e_restart_76 sf n R x3 x5 (nI b) k (nI (rWo (rA R 7) a b i)) (nI i) = sf R x3 x5 (nI (b + 1)) := by
  intro d
  induction d with
  | zero =>
    intro i n hi hn
    obtain ⟨n, rfl⟩ : ∃ k, n = k + 1 := ⟨n - 1, by omega⟩
    rw [e_restart_76, e10, if_pos (nI_le (by omega) (by omega)), nI_1]
  | succ d ih =>
    intro i n hi hn
    obtain ⟨n, rfl⟩ : ∃ k, n = k + 1 := ⟨n - 1, by omega⟩
    have hle := rWo_le (rA R 7) a b i
    have hm : (a + i) % 256 < 256 := Nat.mod_lt _ (by decide)
    rw [e_restart_76, e10, if_neg (nI_ge (by omega) (by omega)), e9, mod256 ha (by omega), nm_o, ld_n hm (by decide)]
    by_cases c : rA R 7 ((a + i) % 256) = nI b
    · rw [if_pos c, ld_n hm (by decide), if_pos c, nI_1, if_neg (fun z => hk (by
        rw [← z]
        exact nI_lt (a := 0) (by omega) (by omega))), ← rWo_y c, nI_1]
      exact ih (i + 1) n (by omega) (by omega)
    · rw [if_neg c, ld_n hm (by decide), if_neg c, ← rWo_n c, nI_1]
      exact ih (i + 1) n (by omega) (by omega)
theorem kr_c {sf : RfT → Int64 → Int32 → Int32 → Option (Int32 × RfT)} {x3 : Int64} {x5 k : Int32} {a w b : Nat} (hb : b < 1024) (ha : a < 256) (hw : w ≤ 256) (e9 : rS R 9 = nI a) (e10 : rS R 10 = nI w) (hv : Byt (rA R 8)) : e_restart_76 sf fuL R x3 x5 (nI b) k 0 0 = sf (kvR R a b (if 0 < k then fiR (rA R 7) a b k.toNatClampNeg w 0 else none)) x3 x5 (nI (b + 1)) := by
  by_cases c : 0 < k
  · have ek : k = nI k.toNatClampNeg := nI_cl (fun z => Int32.lt_irrefl (Int32.lt_trans c z))
    have q := kr_l (sf := sf) (x3 := x3) (x5 := x5) (kk := k.toNatClampNeg) hb ha hw (clamp_lt k) w 0 fuL R e9 e10 hv (by omega) (by rw [fuL_4]; omega)
    rw [if_pos c]
    rw [← ek] at q
    exact q
  · rw [if_neg c]
    exact kr_0 hb ha hw c e9 e10 w 0 fuL (by omega) (by rw [fuL_4]; omega)
/-- how many wait -/
theorem z_wo {a w b : Nat} (ha : a < 256) (hw : w ≤ 256) (e9 : rS R 9 = nI a) (e10 : rS R 10 = nI w) : ∀ (d i n : Nat), i + d = w → d < n → e_waitsOf_4 R n (nI b) (nI (rWo (rA R 7) a b i)) (nI i) = some (nI (rWo (rA R 7) a b w)) := by
  intro d
  induction d with
  | zero =>
    intro i n hi hn
    obtain ⟨n, rfl⟩ : ∃ k, n = k + 1 := ⟨n - 1, by omega⟩
    rw [e_waitsOf_4, e10, if_pos (nI_le (by omega) (by omega)), show i = w by omega]
  | succ d ih =>
    intro i n hi hn
    obtain ⟨n, rfl⟩ : ∃ k, n = k + 1 := ⟨n - 1, by omega⟩
    have hm : (a + i) % 256 < 256 := Nat.mod_lt _ (by decide)
    rw [e_waitsOf_4, e10, if_neg (nI_ge (by omega) (by omega)), e9, mod256 ha (by omega), ld_n hm (by decide)]
    by_cases c : rA R 7 ((a + i) % 256) = nI b
    · rw [if_pos c, nI_1, ← rWo_y c, nI_1]
      exact ih (i + 1) n (by omega) (by omega)
    · rw [if_neg c, ← rWo_n c, nI_1]
      exact ih (i + 1) n (by omega) (by omega)
end PZU
