/-! ===== pure: the places of inodes ===== -/
section PUB
variable {N : Nat} {V : Nat → Rw} {D : CfT}
def levM (p : Nat) : Nat := if p < 8 then 1 else if p < 72 then 2 else 3
def offM (p l : Nat) : Nat := if p < 8 then 12 + 2 * p else if p < 72 then (if l = 0 then 28 else 2 * (p - 8)) else if l = 0 then 30 else if l = 1 then 2 * ((p - 72) / 64) else 2 * ((p - 72) % 64)
theorem fuL_4 : fuL = 3999996 + 4 := rfl
theorem d_levels {p : Nat} (hp : p < 2 ^ 31) : d_X7_levels N V D (nI p) = some (nI (levM p)) := by
  unfold d_X7_levels levM
  by_cases c : p < 8
  · rw [if_neg (show ¬ (8 : Int32) ≤ nI p from nI_ge (a := p) (b := 8) c (by decide)), if_pos c]
    rfl
  · rw [if_pos (show (8 : Int32) ≤ nI p from nI_le (a := 8) (b := p) (by omega) hp), if_neg c]
    by_cases c2 : p < 72
    · rw [if_neg (show ¬ (72 : Int32) ≤ nI p from nI_ge (a := p) (b := 72) c2 (by decide)), if_pos c2]
      rfl
    · rw [if_pos (show (72 : Int32) ≤ nI p from nI_le (a := 72) (b := p) (by omega) hp), if_neg c2]
      rfl
theorem d_offset {p l : Nat} (hp : p < 2 ^ 30) (hl : l < 2 ^ 31) : d_X7_offset N V D (nI p) (nI l) = some (nI (offM p l)) := by
  unfold d_X7_offset offM
  by_cases c : p < 8
  · rw [if_neg (show ¬ (8 : Int32) ≤ nI p from nI_ge (a := p) (b := 8) c (by decide)), if_pos c, show (12 : Int32) = nI 12 from rfl, show (2 : Int32) = nI 2 from rfl, pk_mul, nI_add]
  · rw [if_pos (show (8 : Int32) ≤ nI p from nI_le (a := 8) (b := p) (by omega) (by omega)), if_neg c]
    by_cases c2 : p < 72
    · rw [if_neg (show ¬ (72 : Int32) ≤ nI p from nI_ge (a := p) (b := 72) c2 (by decide)), if_pos c2]
      by_cases c3 : l = 0
      · rw [if_pos c3, if_pos (by rw [c3]; rfl)]
        rfl
      · rw [if_neg c3, if_neg (nI_ne0 (by omega) hl), show (8 : Int32) = nI 8 from rfl, show (2 : Int32) = nI 2 from rfl, pk_sub (by omega), pk_mul]
    · rw [if_pos (show (72 : Int32) ≤ nI p from nI_le (a := 72) (b := p) (by omega) (by omega)), if_neg c2]
      by_cases c3 : l = 0
      · rw [if_pos c3, if_pos (by rw [c3]; rfl)]
        rfl
      · rw [if_neg c3, if_neg (nI_ne0 (by omega) hl)]
        by_cases c4 : l = 1
        · rw [if_pos c4, if_pos (by rw [c4]; rfl), show (72 : Int32) = nI 72 from rfl, show (64 : Int32) = nI 64 from rfl, show (2 : Int32) = nI 2 from rfl, pk_sub (by omega), pk_div (by omega) (by decide) (by decide), pk_mul]
        · rw [if_neg c4, if_neg (show ¬ nI l = (1 : Int32) from fun z => c4 ((nI_eq (a := l) (b := 1) hl (by decide)).mp z)), show (72 : Int32) = nI 72 from rfl, show (64 : Int32) = nI 64 from rfl, show (2 : Int32) = nI 2 from rfl, pk_sub (by omega), pk_rem (by omega) (by decide) (by decide), pk_mul]
theorem offM_lt {p l : Nat} (hp : p < 4168) : offM p l < 127 := by
  unfold offM
  split
  · omega
  · split
    · split <;> omega
    · split
      · omega
      · split
        · omega
        · have := Nat.mod_lt (p - 72) (show 64 > 0 by decide)
          omega
theorem offM_0 {p : Nat} (hp : p < 4168) : offM p 0 ≤ 30 := by
  unfold offM
  split
  · omega
  · split
    · rw [if_pos rfl]
      omega
    · rw [if_pos rfl]
      omega
/-- the number that a place's way leads to after so many levels -/
def rcM (V : Nat → Rw) (i p : Nat) : Nat → Nat
  | 0 => homeM i
  | k + 1 => if rcM V i p k = 0 then 0 else n2 (V (rcM V i p k)) (offM p k + if k = 0 then startM i else 0)
theorem homeM_ne (i : Nat) : ¬ homeM i = 0 := by
  unfold homeM
  omega
theorem rcM_lt {i p : Nat} (hi : i ≤ 64) : ∀ k, rcM V i p k < 65536
  | 0 => by
    have := homeM_lt hi
    show homeM i < 65536
    omega
  | k + 1 => by
    show (if rcM V i p k = 0 then 0 else n2 (V (rcM V i p k)) (offM p k + if k = 0 then startM i else 0)) < 65536
    split
    · decide
    · exact n2_lt _ _
theorem d_reach_l {i p K : Nat} (hi : i ≤ 64) (hp : p < 4168) (hN : N ≤ 1024) (hK : K ≤ 3) (ho : ∀ k, k < K → rcM V i p k < N) : ∀ (m k : Nat), k ≤ K → K - k < m → d_X7_reach_29 N V D m (nI p) (nI (rcM V i p k)) (nI (offM p k + if k = 0 then startM i else 0)) (nI K) (nI k) = some (nI (rcM V i p K))
  | 0, k, _, h => absurd h (Nat.not_lt_zero _)
  | m + 1, k, hk, hm => by
    unfold d_X7_reach_29
    by_cases c : k = K
    · rw [c, if_pos (nI_le (Nat.le_refl _) (by omega))]
    · rw [if_neg (nI_ge (by omega) (by omega))]
      have hb := rcM_lt (V := V) (p := p) hi k
      by_cases c2 : rcM V i p k = 0
      · rw [if_pos (by rw [c2]; rfl)]
        have e : ∀ j, k ≤ j → rcM V i p j = 0 := by
          intro j hj
          induction j with
          | zero => have e0 := Nat.le_zero.mp hj; subst e0; exact c2
          | succ j ih =>
            by_cases z : k = j + 1
            · rw [← z]
              exact c2
            · show (if rcM V i p j = 0 then 0 else _) = 0
              rw [if_pos (ih (by omega))]
        rw [c2, e K hk]
      · have hoff := offM_lt (l := k) hp
        have h0 := offM_0 hp
        have hs := startM_le i
        have hat : (offM p k + if k = 0 then startM i else 0) + 1 < 128 := by
          split
          · next e => rw [e]; omega
          · omega
        rw [if_neg (nI_ne0 (by omega) (by omega)), see_n (ho k (by omega)) hN, bnd_o (d_two hat (by decide)), nI_1, bnd_o (d_offset (by omega) (by omega))]
        have e1 : rcM V i p (k + 1) = n2 (V (rcM V i p k)) (offM p k + if k = 0 then startM i else 0) := if_neg c2
        have ih := d_reach_l hi hp hN hK ho m (k + 1) (by omega) (by omega)
        rw [if_neg (by omega), Nat.add_zero, e1] at ih
        exact ih
/-- reach: above so many levels -/
theorem d_reach {i p a : Nat} (h1 : 1 ≤ i) (hi : i ≤ 64) (hp : p < 4168) (hN : N ≤ 1024) (ha : a ≤ levM p) (ho : ∀ k, k < levM p - a → rcM V i p k < N) : d_X7_reach N V D (nI i) (nI p) (nI a) = some (nI (rcM V i p (levM p - a))) := by
  have hl : levM p ≤ 3 := by
    unfold levM
    split
    · omega
    · split <;> omega
  unfold d_X7_reach
  rw [bnd_o (d_home h1 (by omega)), bnd_o (d_start h1 (by omega)), show (0 : Int32) = nI 0 from rfl, bnd_o (d_offset (by omega) (by decide)), bnd_o (d_levels (by omega)), pk_sub ha, nI_add, Nat.add_comm (startM i)]
  exact d_reach_l (K := levM p - a) hi hp hN (by omega) ho fuL 0 (Nat.zero_le _) (by rw [fuL_4]; omega)
/-- the block of a place -/
def blM (V : Nat → Rw) (i p : Nat) : Nat := rcM V i p (levM p)
/-- the block that has its number -/
def hdM (V : Nat → Rw) (i p : Nat) : Nat := rcM V i p (levM p - 1)
end PUB
