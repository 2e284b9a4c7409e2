/-! ===== pure: the reference finds a name ===== -/
section PUK
variable {R : RfT}
theorem e_num78_l {t : Nat} (k : Nat) : ∀ (m : Nat) (x : Int32), t + k < 128 → e_number_78_7 R (m + k + 2) (nI t) x (nI k) = some (nmB (rA R 43) t k x) := by
  have hM : 128 < 2 ^ 31 := by decide
  have hZ : ¬ nI 0 < 0 := nI_nn (by decide)
  have hY : nI 0 + (-1 : Int32) < 0 := by decide
  induction k with
  | zero =>
    intro m x h
    rw [show m + 0 + 2 = m + 1 + 1 from rfl, e_number_78_7, if_neg hZ, nI_add, ld_n h hM, nm_o, e_number_78_7, if_pos hY, nmB_z, Nat.add_zero]
  | succ k ih =>
    intro m x h
    have hk : k + 1 < 2 ^ 31 := by omega
    have hk2 : t + k < 128 := by omega
    rw [show m + (k + 1) + 2 = m + k + 2 + 1 by omega, e_number_78_7, if_neg (nI_nn hk), nI_add, ld_n h hM, nm_o, pk_m1, ih m _ hk2, nmB_s]
theorem z_row2 {a : Nat} (ha : a + 2 ≤ 128) : e_number_78 R (nI a) 2 = some (nI (n2 (rA R 43) a)) := by
  have q := e_num78_l (R := R) (t := a) 1 3999997 0 (by omega)
  have e := nmB_n2 (g := rA R 43) (t := 0) (a := a) (y := rA R 43) (fun i _ => by rw [Nat.zero_add]) (by omega)
  rw [Nat.zero_add] at e
  rw [e] at q
  rw [e_number_78, fu1]
  exact q
theorem alE_c {y y2 tp tp2 : Nat → Int32} {a st M T : Nat} (h : ∀ i, i < M → y i = y2 i) (ht : ∀ i, i < T → tp i = tp2 i) : ∀ (m k : Nat), a + k + m ≤ M → st + k + m ≤ T → alE y tp a st m k = alE y2 tp2 a st m k
  | 0, _, _, _ => rfl
  | m + 1, k, h1, h2 => by
    show (if y (a + k) = tp (st + k) then alE y tp a st m (k + 1) else false) = if y2 (a + k) = tp2 (st + k) then alE y2 tp2 a st m (k + 1) else false
    rw [h (a + k) (by omega), ht (st + k) (by omega), alE_c h ht m (k + 1) (by omega) (by omega)]
theorem ub_c {y y2 : Nat → Int32} {i : Nat} (h : y i = y2 i) : ub y i = ub y2 i := by
  unfold ub
  rw [h]
theorem n2_c {y y2 : Nat → Int32} {i : Nat} (h : y i = y2 i) (h2 : y (i + 1) = y2 (i + 1)) : n2 y i = n2 y2 i := by
  unfold n2
  rw [ub_c h, ub_c h2]
theorem nmE_c {y y2 tp tp2 : Nat → Int32} {a st ln T : Nat} (h : ∀ i, i < 128 → y i = y2 i) (ht : ∀ i, i < T → tp i = tp2 i) (ha : a + 3 + ln ≤ 128) (hst : st + ln ≤ T) : nmE y tp a st ln = nmE y2 tp2 a st ln := by
  unfold nmE
  rw [n2_c (h a (by omega)) (h (a + 1) (by omega)), h (a + 2) (by omega), alE_c h ht ln 0 (by omega) (by omega)]
theorem rSee_43 {g : Nat → Int32} {ow : Bool} {b : Nat} : rSee (setA R 43 g) ow b = rSee R ow b := rfl
theorem lkA_43 {g : Nat → Int32} (h : lkA R) : lkA (setA R 43 g) := h
theorem rBy_43 {g : Nat → Int32} (h : rBy R) : rBy (setA R 43 g) := h
/-- the bytes of a name -/
theorem z_cmp {self : RfT → Int32 → Int32 → Int32 → Int32 → Int32 → Option (Int32 × RfT)} {x1 x4 : Int32} {s a st ln : Nat} (ha : a + 16 ≤ 128) (hl : ln ≤ 13) (ht : st + ln ≤ 1024) : ∀ (m k : Nat), k ≤ ln → ln - k + 1 < m → e_slotOf_81 self m R x1 (nI st) (nI ln) x4 (nI s) (nI a) 1 (nI k) = if alE (rA R 43) (rA R 4) (a + 3) st (ln - k) k = true then some (nI s, R) else self R x1 (nI st) (nI ln) x4 (nI (s + 1)) := by
  intro m
  induction m with
  | zero => intro k _ h; exact absurd h (Nat.not_lt_zero _)
  | succ m ih =>
    intro k hk hm
    have n10 : ¬ (1 : Int32) = 0 := by decide
    rw [e_slotOf_81]
    by_cases c : k = ln
    · rw [c, if_pos (nI_le (Nat.le_refl _) (by omega)), if_neg n10, Nat.sub_self]
      exact (if_pos rfl).symm
    · rw [if_neg (nI_ge (by omega) (by omega)), if_neg n10, show (3 : Int32) = nI 3 from rfl, nI_add, nI_add, ld_n (by omega) (by decide), nI_add, ld_n (by omega) (by decide), show ln - k = ln - (k + 1) + 1 by omega]
      show _ = if (if rA R 43 (a + 3 + k) = rA R 4 (st + k) then alE (rA R 43) (rA R 4) (a + 3) st (ln - (k + 1)) (k + 1) else false) = true then some (nI s, R) else self R x1 (nI st) (nI ln) x4 (nI (s + 1))
      by_cases c2 : rA R 43 (a + 3 + k) = rA R 4 (st + k)
      · rw [if_pos c2, if_pos c2, nI_1]
        exact ih (k + 1) (by omega) (by omega)
      · rw [if_neg c2, if_neg c2, if_neg (show ¬ false = true by decide)]
        obtain ⟨m2, rfl⟩ : ∃ m2, m = m2 + 1 := ⟨m - 1, by omega⟩
        rw [e_slotOf_81, nI_1, nI_1]
        by_cases c3 : nI ln ≤ nI (k + 1)
        · rw [if_pos c3, if_pos rfl]
        · rw [if_neg c3, if_pos rfl, if_pos rfl]
theorem z_cmp0 {self : RfT → Int32 → Int32 → Int32 → Int32 → Int32 → Option (Int32 × RfT)} {x1 x2 x3 x4 x6 x8 : Int32} {s : Nat} {m : Nat} : e_slotOf_81 self (m + 1) R x1 x2 x3 x4 (nI s) x6 0 x8 = self R x1 x2 x3 x4 (nI (s + 1)) := by
  rw [e_slotOf_81, nI_1]
  by_cases c3 : x3 ≤ x8
  · rw [if_pos c3, if_pos rfl]
  · rw [if_neg c3, if_pos rfl, if_pos rfl]
theorem fu_s : fuL = 3999999 + 1 := rfl
theorem z_slot_l {d n st ln : Nat} (hl : lkA R) (hy : rBy R) (h1 : 1 ≤ d) (h2 : d ≤ 64) (hn : n < 2 ^ 30) (ho : ∀ s, s < n → pOk 1024 (rSee R true) d (s / 8)) (hln : ln ≤ 13) (ht : st + ln ≤ 1024) : ∀ (m s : Nat) (g : Nat → Int32), s ≤ n → n - s < m → ∃ g2, e_slotOf_13 m (setA R 43 g) (nI d) (nI st) (nI ln) (nI n) (nI s) = some (sfM (rSee R true) (rA R 4) d st ln (n - s) s, setA R 43 g2) := by
  intro m
  induction m with
  | zero => intro s _ _ h; exact absurd h (Nat.not_lt_zero _)
  | succ m ih =>
    intro s g hs hm
    rw [e_slotOf_13]
    by_cases c : s = n
    · rw [c, if_pos (nI_le (Nat.le_refl _) (by omega)), Nat.sub_self]
      exact ⟨g, rfl⟩
    · have hm8 := Nat.mod_lt s (show 8 > 0 by decide)
      have hp := ho s (by omega)
      have er : ((16 : Int32)) * ((nI s) - (nI s) / ((8 : Int32)) * ((8 : Int32))) = nI (16 * (s % 8)) := by
        rw [show (nI s) - (nI s) / ((8 : Int32)) * ((8 : Int32)) = nI (s % 8) from pk_rem (a := s) (d := 8) (by omega) (by decide) (by decide)]
        exact pk_mul 16 (s % 8)
      have ed : (nI s) / ((8 : Int32)) = nI (s / 8) := pk_div (a := s) (d := 8) (by omega) (by decide) (by decide)
      obtain ⟨g3, e3, r3⟩ := z_see (R := setA R 43 g) (ow := true) hp.2.2 (lkA_43 hl _ hp.2.2) (rBy_43 hy)
      rw [setA_A] at e3
      have e3 : e_see (setA R 43 g) (nI (blM (rSee R true) d (s / 8))) 1 = some (setA R 43 g3) := e3
      rw [if_neg (nI_ge (by omega) (by omega)), sfM_s (s := s) (by omega), er, ed, bnd_o (z_blockOf (R := setA R 43 g) (lkA_43 hl) h1 h2 hp.1 hp.2.1), bnd_o (m := e_see (setA R 43 g) (nI (blM (rSee (setA R 43 g) true) d (s / 8))) 1) e3, nm_o, bnd_o (z_row2 (R := setA R 43 g3) (a := 16 * (s % 8)) (by omega)), show (2 : Int32) = nI 2 from rfl, nI_add, ld_n (by omega) (by decide)]
      have hrow : ∀ i, i < 128 → rA (setA R 43 g3) 43 i = rSee R true (blM (rSee R true) d (s / 8)) i := fun i hi => (congrFun rA_e i).trans (r3 i hi)
      have hnm := nmE_c (a := 16 * (s % 8)) (st := st) (ln := ln) (T := 1024) (tp := rA R 4) (tp2 := rA R 4) hrow (fun _ _ => rfl) (by omega) ht
      obtain ⟨g4, e4⟩ := ih (s + 1) g3 (by omega) (by omega)
      have hb := n2_lt (rA (setA R 43 g3) 43) (16 * (s % 8))
      rw [← hnm]
      unfold nmE
      by_cases c0 : n2 (rA (setA R 43 g3) 43) (16 * (s % 8)) = 0
      · rw [if_pos (by rw [c0]; exact nI_0), if_pos c0, if_neg (show ¬ false = true by decide), fu_s, z_cmp0]
        exact ⟨g4, e4⟩
      · rw [if_neg (nI_ne0 (by omega) (by omega)), if_neg c0]
        by_cases c1 : rA (setA R 43 g3) 43 (16 * (s % 8) + 2) = nI ln
        · have zc : e_slotOf_81 (e_slotOf_13 m) fuL (setA R 43 g3) (nI d) (nI st) (nI ln) (nI n) (nI s) (nI (16 * (s % 8))) 1 0 = _ := z_cmp (R := setA R 43 g3) (self := e_slotOf_13 m) (x1 := nI d) (x4 := nI n) (s := s) (a := 16 * (s % 8)) (st := st) (ln := ln) (by omega) hln ht fuL 0 (Nat.zero_le _) (by rw [fuL_4]; omega)
          rw [if_pos c1, if_pos c1, zc, Nat.sub_zero]
          by_cases c2 : alE (rA (setA R 43 g3) 43) (rA (setA R 43 g3) 4) (16 * (s % 8) + 3) st ln 0 = true
          · rw [if_pos c2, if_pos (show alE (rA (setA R 43 g3) 43) (rA R 4) (16 * (s % 8) + 3) st ln 0 = true from c2)]
            exact ⟨g3, rfl⟩
          · rw [if_neg c2, if_neg (show ¬ alE (rA (setA R 43 g3) 43) (rA R 4) (16 * (s % 8) + 3) st ln 0 = true from c2)]
            exact ⟨g4, e4⟩
        · rw [if_neg c1, if_neg c1, if_neg (show ¬ false = true by decide), fu_s, z_cmp0]
          exact ⟨g4, e4⟩
theorem z_slotOf {d st ln : Nat} (hl : lkA R) (hy : rBy R) (h1 : 1 ≤ d) (h2 : d ≤ 64) (hs : szM (rSee R true) d < 2 ^ 30) (ho : ∀ s, s < szM (rSee R true) d / 16 → pOk 1024 (rSee R true) d (s / 8)) (hf : szM (rSee R true) d / 16 < fuL) (hln : ln ≤ 13) (ht : st + ln ≤ 1024) : ∃ g, e_slotOf R (nI d) (nI st) (nI ln) = some (sfM (rSee R true) (rA R 4) d st ln (szM (rSee R true) d / 16) 0, setA R 43 g) := by
  rw [e_slotOf, bnd_o (z_size hl h1 h2), show (16 : Int32) = nI 16 from rfl, pk_div (show f4 (rSee R true) d 4 < 2 ^ 31 from Nat.lt_trans hs (by decide)) (by decide) (by decide)]
  obtain ⟨g, e⟩ := z_slot_l (n := szM (rSee R true) d / 16) hl hy h1 h2 (by omega) ho hln ht fuL 0 (rA R 43) (Nat.zero_le _) (by omega)
  rw [setA_id] at e
  exact ⟨g, e⟩
end PUK
