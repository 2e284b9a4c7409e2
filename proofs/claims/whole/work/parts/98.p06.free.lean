/-! ===== pure: the first free slot ===== -/
section PUG
variable {N : Nat} {V : Nat → Rw} {D : CfT} {R : RfT}
/-- the first free slot from s on, k far; -1 if there is none -/
def frM (V : Nat → Rw) (d : Nat) : Nat → Nat → Int32
  | 0, _ => -1
  | k + 1, s => if slM V d s = 0 then nI s else frM V d k (s + 1)
theorem frM_s {V : Nat → Rw} {d n s : Nat} (h : s < n) : frM V d (n - s) s = if slM V d s = 0 then nI s else frM V d (n - (s + 1)) (s + 1) := by
  rw [show n - s = n - (s + 1) + 1 by omega]
  rfl
theorem d_free_l {d n : Nat} (h1 : 1 ≤ d) (h2 : d ≤ 64) (hN2 : N ≤ 1024) (hn : n < 2 ^ 30) (ho : ∀ s, s < n → pOk N V d (s / 8)) : ∀ (m s : Nat) (g : Nat → Int32) (w : Nat), (s % 8 ≠ 0 → g = V (blM V d (s / 8)) ∧ w = 128) → s ≤ n → n - s < m → d_X4_freeSlot_14 N V D m (nI d) (nI n) g w (nI s) = some (frM V d (n - s) s) := by
  intro m
  induction m with
  | zero => intro s _ _ _ _ h; exact absurd h (Nat.not_lt_zero _)
  | succ m ih =>
    intro s g w hg hs hm
    rw [d_X4_freeSlot_14]
    by_cases c : s = n
    · rw [c, if_pos (nI_le (Nat.le_refl _) (by omega)), Nat.sub_self]
      rfl
    · have hl := slM_lt V d s
      have hm8 := Nat.mod_lt s (show 8 > 0 by decide)
      have hp := ho s (by omega)
      rw [if_neg (nI_ge (by omega) (by omega)), frM_s (by omega)]
      have er : (nI s) - (nI s) / ((8 : Int32)) * ((8 : Int32)) = nI (s % 8) := pk_rem (a := s) (d := 8) (by omega) (by decide) (by decide)
      have ed : (nI s) / ((8 : Int32)) = nI (s / 8) := pk_div (a := s) (d := 8) (by omega) (by decide) (by decide)
      rw [er]
      have q : ∀ g2 w2, ((s + 1) % 8 ≠ 0 → g2 = V (blM V d ((s + 1) / 8)) ∧ w2 = 128) → d_X4_freeSlot_14 N V D m (nI d) (nI n) g2 w2 (nI (s + 1)) = some (frM V d (n - (s + 1)) (s + 1)) := fun g2 w2 h => ih (s + 1) g2 w2 h (by omega) (by omega)
      have same : (s + 1) % 8 ≠ 0 → (s + 1) / 8 = s / 8 := fun z => by omega
      by_cases c8 : s % 8 = 0
      · rw [if_pos (by rw [c8]; exact nI_0), ed, bnd_o (d_blk h1 h2 hN2 hp), see_n hp.2.2 hN2, bnd_o (d_startOf (by omega)), bnd_o (d_two (by omega) (by decide)), show n2 (V (blM V d (s / 8))) (16 * (s % 8)) = slM V d s from rfl, nI_1, q _ _ (fun z => ⟨by rw [same z], rfl⟩)]
        by_cases c2 : slM V d s = 0
        · rw [if_pos c2, if_pos (show nI (slM V d s) = (0 : Int32) by rw [c2]; exact nI_0)]
        · rw [if_neg c2, if_neg (nI_ne0 (n := slM V d s) (by omega) (by omega))]
      · obtain ⟨rfl, rfl⟩ := hg c8
        rw [if_neg (nI_ne0 (by omega) (by omega)), bnd_o (d_startOf (by omega)), bnd_o (d_two (by omega) (by decide)), show n2 (V (blM V d (s / 8))) (16 * (s % 8)) = slM V d s from rfl, nI_1, q _ _ (fun z => ⟨by rw [same z], rfl⟩)]
        by_cases c2 : slM V d s = 0
        · rw [if_pos c2, if_pos (show nI (slM V d s) = (0 : Int32) by rw [c2]; exact nI_0)]
        · rw [if_neg c2, if_neg (nI_ne0 (n := slM V d s) (by omega) (by omega))]
theorem d_freeSlot {d : Nat} (h1 : 1 ≤ d) (h2 : d ≤ 64) (hN : 61 ≤ N) (hN2 : N ≤ 1024) (hs : szM V d < 2 ^ 30) (ho : ∀ s, s < szM V d / 16 → pOk N V d (s / 8)) (hf : szM V d / 16 < fuL) : d_X4_freeSlot N V D (nI d) = some (frM V d (szM V d / 16) 0) := by
  rw [d_X4_freeSlot, bnd_o (d_slots h1 h2 hN hN2 (by omega))]
  exact d_free_l (n := szM V d / 16) h1 h2 hN2 (by omega) ho fuL 0 _ _ (fun z => absurd rfl z) (Nat.zero_le _) (by omega)
theorem z_free_l {d n : Nat} (hl : lkA R) (h1 : 1 ≤ d) (h2 : d ≤ 64) (hn : n < 2 ^ 30) (ho : ∀ s, s < n → pOk 1024 (rSee R true) d (s / 8)) : ∀ (m s : Nat), s ≤ n → n - s < m → e_freeSlot_11 R m (nI d) (nI n) (nI s) = some (frM (rSee R true) d (n - s) s) := by
  intro m
  induction m with
  | zero => intro s _ h; exact absurd h (Nat.not_lt_zero _)
  | succ m ih =>
    intro s hs hm
    rw [e_freeSlot_11]
    by_cases c : s = n
    · rw [c, if_pos (nI_le (Nat.le_refl _) (by omega)), Nat.sub_self]
      rfl
    · have hb := slM_lt (rSee R true) d s
      rw [if_neg (nI_ge (by omega) (by omega)), bnd_o (z_slot2 hl h1 h2 (by omega) (ho s (by omega))), nI_1, ih (s + 1) (by omega) (by omega), frM_s (s := s) (by omega)]
      by_cases c2 : slM (rSee R true) d s = 0
      · rw [if_pos c2, if_pos (by rw [c2]; exact nI_0)]
      · rw [if_neg c2, if_neg (nI_ne0 (by omega) (by omega))]
theorem z_freeSlot {d : Nat} (hl : lkA R) (h1 : 1 ≤ d) (h2 : d ≤ 64) (hs : szM (rSee R true) d < 2 ^ 30) (ho : ∀ s, s < szM (rSee R true) d / 16 → pOk 1024 (rSee R true) d (s / 8)) (hf : szM (rSee R true) d / 16 < fuL) : e_freeSlot R (nI d) = some (frM (rSee R true) d (szM (rSee R true) d / 16) 0) := by
  rw [e_freeSlot, bnd_o (z_size hl h1 h2), show (16 : Int32) = nI 16 from rfl, pk_div (show f4 (rSee R true) d 4 < 2 ^ 31 from Nat.lt_trans hs (by decide)) (by decide) (by decide)]
  exact z_free_l (n := szM (rSee R true) d / 16) hl h1 h2 (by omega) ho fuL 0 (Nat.zero_le _) (by omega)
end PUG
