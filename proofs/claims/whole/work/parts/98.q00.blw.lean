/-! ===== pure: a path below another ===== -/
section PXZ
variable {N B gr r u : Nat} {V W : Nat → Rw} {A A' : MS} {D D' D2 : CfT} {R R' : RfT} {tp : Nat → Int32} {k k2 : Nat} {st ln st2 ln2 : Nat → Nat}
theorem blw0 {n : Nat} {x : Int32} : e_isBelow_16 R (n + 1) 0 x = some 0 := by
  rw [e_isBelow_16]
  split
  · rfl
  · rfl
theorem blw_55 {i : Nat} {s15 : Int32 → Option Int32} {s16 : Int32 → Int32 → Option Int32} (hi : i < k) (hi2 : i < k2) (ht : TpR D R tp) (hC : PthC47 D k st ln) (hP : PthR R 0 k st ln) (hS : NmS tp k st ln) (hC2 : PthC50 D k2 st2 ln2) (hP2 : PthR R 16 k2 st2 ln2) (hS2 : NmS tp k2 st2 ln2) (he : ln2 i = ln i) : ∀ (m1 m2 x : Nat), x ≤ ln i → ln i - x < m1 → ln i - x + 1 < m2 → (d_X8_isBelow_50_43 N W D s15 m1 (nI i) (nI x) = s15 (nI (i + 1)) ∧ e_isBelow_55 R s16 m2 1 (nI i) (nI x) = s16 1 (nI (i + 1))) ∨ (d_X8_isBelow_50_43 N W D s15 m1 (nI i) (nI x) = some 0 ∧ e_isBelow_55 R s16 m2 1 (nI i) (nI x) = s16 0 (nI (i + 1))) := by
  obtain ⟨a1, a2⟩ := hC.2.2 i hi
  obtain ⟨b1, b2⟩ := hC2.2.2 i hi2
  obtain ⟨p1, p2⟩ := hP i hi
  obtain ⟨q1, q2⟩ := hP2 i hi2
  obtain ⟨n1, n2⟩ := hS i hi
  obtain ⟨o1, o2⟩ := hS2 i hi2
  have hk := hC.2.1
  have hk2 := hC2.2.1
  have hl := n1.2.1
  rw [Nat.zero_add] at p1 p2
  intro m1
  induction m1 with
  | zero => intro m2 x _ h; exact absurd h (Nat.not_lt_zero _)
  | succ m1 ih =>
    intro m2 x hx h1 h2
    obtain ⟨m2, rfl⟩ : ∃ y, m2 = y + 1 := ⟨m2 - 1, by omega⟩
    rw [d_X8_isBelow_50_43, e_isBelow_55, ld_n (show i < 16 by omega) (by decide), b2, he, ld_n (show i < 32 by omega) (by decide), p2]
    by_cases c : ln i ≤ x
    · have z : nI (ln i) ≤ nI x := nI_le c (by omega)
      rw [if_pos z, if_pos z, nI_1]
      exact Or.inl ⟨rfl, rfl⟩
    · have z : ¬ nI (ln i) ≤ nI x := nI_ge (by omega) (by omega)
      rw [if_neg z, if_neg z, i10, ld_n (g := cA D 51) (show i < 16 by omega) (by decide), b1, nI_add, ld_n (g := cA D 1) (show st2 i + x < 1024 by omega) (by decide), ld_n (g := cA D 48) (show i < 16 by omega) (by decide), a1, nI_add, ld_n (g := cA D 1) (show st i + x < 1024 by omega) (by decide), ht.2.1, ht.2.1, ld_n (g := rA R 50) (show i < 32 by omega) (by decide), p1, nI_add, ld_n (g := rA R 4) (show st i + x < 1024 by omega) (by decide), show (16 : Int32) + nI i = nI (16 + i) from nI_add 16 i, ld_n (g := rA R 50) (show 16 + i < 32 by omega) (by decide), q1, nI_add, ld_n (g := rA R 4) (show st2 i + x < 1024 by omega) (by decide), ht.2.2 _ (show st i + x < 1024 by omega), ht.2.2 _ (show st2 i + x < 1024 by omega), nI_1]
      by_cases e : tp (st2 i + x) = tp (st i + x)
      · rw [if_pos e, if_pos e.symm]
        exact ih m2 (x + 1) (by omega) (by omega) (by omega)
      · obtain ⟨m3, rfl⟩ : ∃ y, m2 = y + 1 := ⟨m2 - 1, by omega⟩
        rw [if_neg e, if_neg (fun z => e z.symm), e_isBelow_55, ld_n (g := rA R 51) (show i < 32 by omega) (by decide), p2, i00, nI_1]
        refine Or.inr ⟨rfl, ?_⟩
        split <;> rfl
theorem blw_l (ht : TpR D R tp) (hC : PthC47 D k st ln) (hP : PthR R 0 k st ln) (hS : NmS tp k st ln) (hC2 : PthC50 D k2 st2 ln2) (hP2 : PthR R 16 k2 st2 ln2) (hS2 : NmS tp k2 st2 ln2) (h56 : rS R 56 = nI k) (hlt : k < k2) : ∀ (f1 f2 i : Nat), i ≤ k → k - i < f1 → k - i < f2 → ∃ b : Bool, d_X8_isBelow_50_15 N W D f1 (nI i) = some (bI b) ∧ e_isBelow_16 R f2 1 (nI i) = some (bI b) := by
  have hk := hC.2.1
  have hk2 := hC2.2.1
  intro f1
  induction f1 with
  | zero => intro f2 i _ h; exact absurd h (Nat.not_lt_zero _)
  | succ f1 ih =>
    intro f2 i hi h1 h2
    obtain ⟨f2, rfl⟩ : ∃ y, f2 = y + 1 := ⟨f2 - 1, by omega⟩
    rw [d_X8_isBelow_50_15, e_isBelow_16, hC.1, h56]
    by_cases c : i = k
    · have z : nI k ≤ nI i := nI_le (by omega) (by omega)
      rw [if_pos z, if_pos z]
      exact ⟨true, rfl, rfl⟩
    · have z : ¬ nI k ≤ nI i := nI_ge (by omega) (by omega)
      obtain ⟨a1, a2⟩ := hC.2.2 i (by omega)
      obtain ⟨b1, b2⟩ := hC2.2.2 i (by omega)
      obtain ⟨p1, p2⟩ := hP i (by omega)
      obtain ⟨q1, q2⟩ := hP2 i (by omega)
      obtain ⟨n1, n2⟩ := hS i (by omega)
      obtain ⟨o1, o2⟩ := hS2 i (by omega)
      have hl := n1.2.1
      have hl2 := o1.2.1
      rw [Nat.zero_add] at p1 p2
      obtain ⟨f3, rfl⟩ : ∃ y, f2 = y + 1 := ⟨f2 - 1, by omega⟩
      rw [if_neg z, if_neg z, i10, ld_n (g := cA D 52) (show i < 16 by omega) (by decide), b2, ld_n (g := cA D 49) (show i < 16 by omega) (by decide), a2, ld_n (g := rA R 51) (show i < 32 by omega) (by decide), p2, show (16 : Int32) + nI i = nI (16 + i) from nI_add 16 i, ld_n (g := rA R 51) (show 16 + i < 32 by omega) (by decide), q2]
      by_cases e : ln2 i = ln i
      · rw [if_pos (show nI (ln2 i) = nI (ln i) by rw [e]), if_pos (show nI (ln i) = nI (ln2 i) by rw [e])]
        rcases blw_55 (N := N) (W := W) (s15 := d_X8_isBelow_50_15 N W D f1) (s16 := e_isBelow_16 R (f3 + 1)) (show i < k by omega) (show i < k2 by omega) ht hC hP hS hC2 hP2 hS2 e fuL fuL 0 (Nat.zero_le _) (by rw [fuL_4]; omega) (by rw [fuL_4]; omega) with ⟨w1, w2⟩ | ⟨w1, w2⟩
        · rw [show (0 : Int32) = nI 0 from rfl, w1, w2]
          exact ih (f3 + 1) (i + 1) (by omega) (by omega) (by omega)
        · rw [show (0 : Int32) = nI 0 from rfl, w1, w2, blw0]
          exact ⟨false, rfl, rfl⟩
      · rw [if_neg (fun y => e (nI_inj (by omega) (by omega) y)), if_neg (fun y => e (nI_inj (by omega) (by omega) y).symm), show fuL = 3999999 + 1 from fuL_4, e_isBelow_55, ld_n (g := rA R 51) (show i < 32 by omega) (by decide), p2, i00, blw0]
        refine ⟨false, rfl, ?_⟩
        split <;> rfl
theorem j_below (ht : TpR D R tp) (hC : PthC47 D k st ln) (hP : PthR R 0 k st ln) (hS : NmS tp k st ln) (hC2 : PthC50 D k2 st2 ln2) (hP2 : PthR R 16 k2 st2 ln2) (hS2 : NmS tp k2 st2 ln2) (h56 : rS R 56 = nI k) : ∃ b : Bool, d_X8_isBelow_50 N W D = some (bI b) ∧ e_isBelow R (nI k2) = some (bI b) := by
  have hk := hC.2.1
  have hk2 := hC2.2.1
  rw [d_X8_isBelow_50, e_isBelow, hC.1, hC2.1, h56]
  by_cases c : k < k2
  · rw [if_pos (nI_lt c (by omega)), if_neg (nI_ge c (by omega))]
    exact blw_l ht hC hP hS hC2 hP2 hS2 h56 c fuL fuL 0 (Nat.zero_le _) (by rw [fuL_4]; omega) (by rw [fuL_4]; omega)
  · rw [if_neg (nI_nlt (by omega) (by omega)), if_pos (nI_le (by omega) (by omega)), show fuL = 3999999 + 1 from fuL_4, blw0]
    exact ⟨false, rfl, rfl⟩
end PXZ
