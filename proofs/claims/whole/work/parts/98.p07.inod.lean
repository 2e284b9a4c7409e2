/-! ===== pure: free and lost inodes, handles ===== -/
section PUH
variable {N : Nat} {V : Nat → Rw} {D : CfT} {R : RfT}
/-- the first free inode from i on, -1 (or e) if there is none -/
def fiM (V : Nat → Rw) (e : Int32) : Nat → Nat → Int32
  | 0, _ => e
  | k + 1, i => if f1 V i 0 = 0 then nI i else fiM V e k (i + 1)
theorem f1_lt (V : Nat → Rw) (i a : Nat) : f1 V i a < 256 := ub_lt _ _
theorem fiM_s {V : Nat → Rw} {e : Int32} {i : Nat} (h : i ≤ 64) : fiM V e (65 - i) i = if f1 V i 0 = 0 then nI i else fiM V e (65 - (i + 1)) (i + 1) := by
  rw [show 65 - i = 65 - (i + 1) + 1 by omega]
  rfl
theorem d_low_l (hN : 61 ≤ N) (hN2 : N ≤ 1024) : ∀ (m i : Nat), 1 ≤ i → i ≤ 65 → 65 - i < m → d_X7_lowestFree_2 N V D m (nI i) = some (fiM V (-1) (65 - i) i) := by
  intro m
  induction m with
  | zero => intro i _ _ h; exact absurd h (Nat.not_lt_zero _)
  | succ m ih =>
    intro i h1 h2 hm
    rw [d_X7_lowestFree_2]
    by_cases c : i = 65
    · rw [c, if_pos (show (64 : Int32) < nI 65 from nI_lt (a := 64) (b := 65) (by decide) (by decide))]
      rfl
    · have hb := f1_lt V i 0
      rw [if_neg (show ¬ (64 : Int32) < nI i from nI_nlt (a := 64) (b := i) (by omega) (by decide)), bnd_o (d_kind h1 (by omega) hN hN2), nI_1, ih (i + 1) (by omega) (by omega) (by omega), fiM_s (i := i) (by omega)]
      by_cases c2 : f1 V i 0 = 0
      · rw [if_pos c2, if_pos (by rw [c2]; exact nI_0)]
      · rw [if_neg c2, if_neg (nI_ne0 (by omega) (by omega))]
theorem d_lowestFree (hN : 61 ≤ N) (hN2 : N ≤ 1024) : d_X7_lowestFree N V D = some (fiM V (-1) 64 1) := by
  rw [d_X7_lowestFree]
  exact d_low_l hN hN2 fuL 1 (by decide) (by decide) (by rw [fuL_4]; omega)
theorem z_free_i (hl : lkA R) : ∀ (m i : Nat), 1 ≤ i → i ≤ 65 → 65 - i < m → e_freeInode_2 R m (nI i) = some (fiM (rSee R true) 0 (65 - i) i) := by
  intro m
  induction m with
  | zero => intro i _ _ h; exact absurd h (Nat.not_lt_zero _)
  | succ m ih =>
    intro i h1 h2 hm
    rw [e_freeInode_2]
    by_cases c : i = 65
    · rw [c, if_pos (show (64 : Int32) < nI 65 from nI_lt (a := 64) (b := 65) (by decide) (by decide))]
      rfl
    · have hb := f1_lt (rSee R true) i 0
      rw [if_neg (show ¬ (64 : Int32) < nI i from nI_nlt (a := 64) (b := i) (by omega) (by decide)), bnd_o (z_kind hl h1 (by omega)), nI_1, ih (i + 1) (by omega) (by omega) (by omega), fiM_s (i := i) (by omega)]
      by_cases c2 : f1 (rSee R true) i 0 = 0
      · rw [if_pos c2, if_pos (by rw [c2]; exact nI_0)]
      · rw [if_neg c2, if_neg (nI_ne0 (by omega) (by omega))]
theorem z_freeInode (hl : lkA R) : e_freeInode R = some (fiM (rSee R true) 0 64 1) := by
  rw [e_freeInode]
  exact z_free_i hl fuL 1 (by decide) (by decide) (by rw [fuL_4]; omega)
/-- how many of the first handles are on an inode -/
def hoM (g : Nat → Int32) (x : Int32) : Nat → Nat
  | 0 => 0
  | k + 1 => hoM g x k + if g k = x then 1 else 0
theorem d_ho_l {x : Int32} : ∀ (m k : Nat), k ≤ 32 → 32 - k < m → d_X5_handlesOn_4 N V D m x (nI (hoM (cA D 34) x k)) (nI k) = some (nI (hoM (cA D 34) x 32)) := by
  intro m
  induction m with
  | zero => intro k _ h; exact absurd h (Nat.not_lt_zero _)
  | succ m ih =>
    intro k h1 hm
    rw [d_X5_handlesOn_4]
    by_cases c : k = 32
    · rw [c, if_pos (show (32 : Int32) ≤ nI 32 from nI_le (a := 32) (b := 32) (by decide) (by decide))]
    · rw [if_neg (show ¬ (32 : Int32) ≤ nI k from nI_ge (a := k) (b := 32) (by omega) (by decide)), ld_n (by omega) (by decide), nI_1, nI_1]
      have q := ih (k + 1) (by omega) (by omega)
      have e : hoM (cA D 34) x (k + 1) = hoM (cA D 34) x k + if cA D 34 k = x then 1 else 0 := rfl
      rw [e] at q
      by_cases c2 : cA D 34 k = x
      · rw [if_pos c2] at q ⊢
        exact q
      · rw [if_neg c2] at q ⊢
        exact q
theorem d_handlesOn {x : Int32} : d_X5_handlesOn N V D x = some (nI (hoM (cA D 34) x 32)) := by
  rw [d_X5_handlesOn]
  exact d_ho_l fuL 0 (Nat.zero_le _) (by rw [fuL_4]; omega)
theorem z_ho_l {x : Int32} : ∀ (m k : Nat), k ≤ 32 → 32 - k < m → e_handlesOn_4 R m x (nI (hoM (rA R 53) x k)) (nI k) = some (nI (hoM (rA R 53) x 32)) := by
  intro m
  induction m with
  | zero => intro k _ h; exact absurd h (Nat.not_lt_zero _)
  | succ m ih =>
    intro k h1 hm
    rw [e_handlesOn_4]
    by_cases c : k = 32
    · rw [c, if_pos (show (32 : Int32) ≤ nI 32 from nI_le (a := 32) (b := 32) (by decide) (by decide))]
    · rw [if_neg (show ¬ (32 : Int32) ≤ nI k from nI_ge (a := k) (b := 32) (by omega) (by decide)), ld_n (by omega) (by decide), nI_1, nI_1]
      have q := ih (k + 1) (by omega) (by omega)
      have e : hoM (rA R 53) x (k + 1) = hoM (rA R 53) x k + if rA R 53 k = x then 1 else 0 := rfl
      rw [e] at q
      by_cases c2 : rA R 53 k = x
      · rw [if_pos c2] at q ⊢
        exact q
      · rw [if_neg c2] at q ⊢
        exact q
theorem z_handlesOn {x : Int32} : e_handlesOn R x = some (nI (hoM (rA R 53) x 32)) := by
  rw [e_handlesOn]
  exact z_ho_l fuL 0 (Nat.zero_le _) (by rw [fuL_4]; omega)
theorem hoM_c {g h : Nat → Int32} {x : Int32} (e : ∀ k, k < 32 → g k = h k) : ∀ k, k ≤ 32 → hoM g x k = hoM h x k
  | 0, _ => rfl
  | k + 1, hk => by
    show hoM g x k + (if g k = x then 1 else 0) = hoM h x k + if h k = x then 1 else 0
    rw [hoM_c e k (by omega), e k (by omega)]
end PUH
