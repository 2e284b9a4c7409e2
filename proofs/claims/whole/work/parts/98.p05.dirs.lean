/-! ===== pure: slots of directories ===== -/
section PUF
variable {N : Nat} {V : Nat → Rw} {D : CfT} {R : RfT}
/-- a place whose way is in order -/
def pOk (N : Nat) (V : Nat → Rw) (i p : Nat) : Prop := p < 4168 ∧ (∀ k, k < levM p → rcM V i p k < N) ∧ blM V i p < N
/-- a number of a slot -/
def slM (V : Nat → Rw) (d s : Nat) : Nat := n2 (V (blM V d (s / 8))) (16 * (s % 8))
def szM (V : Nat → Rw) (d : Nat) : Nat := f4 V d 4
theorem d_blk {i p : Nat} (h1 : 1 ≤ i) (h2 : i ≤ 64) (hN2 : N ≤ 1024) (ho : pOk N V i p) : d_X7_reach N V D (nI i) (nI p) 0 = some (nI (blM V i p)) := by
  have q := d_reach (D := D) (a := 0) h1 h2 ho.1 hN2 (Nat.zero_le _) (fun k hk => ho.2.1 k (by omega))
  exact q
theorem d_startOf {s : Nat} (hs : s < 2 ^ 31) : d_X4_startOf N V D (nI s) = some (nI (16 * (s % 8))) := by
  unfold d_X4_startOf
  rw [show (8 : Int32) = nI 8 from rfl, show (16 : Int32) = nI 16 from rfl, pk_rem hs (by decide) (by decide), pk_mul, Nat.mul_comm]
theorem d_rowOf {d s : Nat} (h1 : 1 ≤ d) (h2 : d ≤ 64) (hN2 : N ≤ 1024) (hs : s < 2 ^ 31) (ho : pOk N V d (s / 8)) : d_X4_rowOf N V D (nI d) (nI s) = some (V (blM V d (s / 8))) := by
  unfold d_X4_rowOf
  rw [show (8 : Int32) = nI 8 from rfl, pk_div hs (by decide) (by decide), bnd_o (d_blk h1 h2 hN2 ho), see_n ho.2.2 hN2]
theorem d_inodeAt {d s : Nat} (h1 : 1 ≤ d) (h2 : d ≤ 64) (hN2 : N ≤ 1024) (hs : s < 2 ^ 31) (ho : pOk N V d (s / 8)) : d_X4_inodeAt N V D (nI d) (nI s) = some (nI (slM V d s)) := by
  have hm := Nat.mod_lt s (show 8 > 0 by decide)
  unfold d_X4_inodeAt
  rw [bnd_o (d_rowOf h1 h2 hN2 hs ho), bnd_o (d_startOf hs), bnd_o (d_two (by omega) (by decide))]
  rfl
theorem d_slots {d : Nat} (h1 : 1 ≤ d) (h2 : d ≤ 64) (hN : 61 ≤ N) (hN2 : N ≤ 1024) (hs : szM V d < 2 ^ 31) : d_X4_slots N V D (nI d) = some (nI (szM V d / 16)) := by
  unfold d_X4_slots
  rw [bnd_o (d_size h1 h2 hN hN2), show (16 : Int32) = nI 16 from rfl]
  exact congrArg some (pk_div hs (by decide) (by decide))
/-- how many of the first slots have names -/
def cnM (V : Nat → Rw) (d : Nat) : Nat → Nat
  | 0 => 0
  | s + 1 => cnM V d s + if slM V d s = 0 then 0 else 1
theorem slM_lt (V : Nat → Rw) (d s : Nat) : slM V d s < 65536 := n2_lt _ _
theorem cnM_le (V : Nat → Rw) (d : Nat) : ∀ s, cnM V d s ≤ s
  | 0 => Nat.le_refl _
  | s + 1 => by
    have := cnM_le V d s
    show cnM V d s + (if slM V d s = 0 then 0 else 1) ≤ s + 1
    split <;> omega
theorem d_names_l {d n : Nat} (h1 : 1 ≤ d) (h2 : d ≤ 64) (hN2 : N ≤ 1024) (hn : n < 2 ^ 30) (ho : ∀ s, s < n → pOk N V d (s / 8)) : ∀ (m s : Nat), s ≤ n → n - s < m → d_X4_names_27 N V D m (nI d) (nI (cnM V d s)) (nI n) (nI s) = some (nI (cnM V d n)) := by
  intro m
  induction m with
  | zero => intro s _ h; exact absurd h (Nat.not_lt_zero _)
  | succ m ih =>
    intro s hs hm
    rw [d_X4_names_27]
    by_cases c : s = n
    · rw [c, if_pos (nI_le (Nat.le_refl _) (by omega))]
    · have hl := slM_lt V d s
      rw [if_neg (nI_ge (by omega) (by omega)), bnd_o (d_inodeAt h1 h2 hN2 (by omega) (ho s (by omega))), nI_1, nI_1]
      have e1 : cnM V d (s + 1) = cnM V d s + if slM V d s = 0 then 0 else 1 := rfl
      have q := ih (s + 1) (by omega) (by omega)
      rw [e1] at q
      by_cases c2 : slM V d s = 0
      · rw [if_pos c2, Nat.add_zero] at q
        rw [if_pos (by rw [c2]; exact nI_0)]
        exact q
      · rw [if_neg c2] at q
        rw [if_neg (nI_ne0 (by omega) (by omega))]
        exact q
theorem d_names {d : Nat} (h1 : 1 ≤ d) (h2 : d ≤ 64) (hN : 61 ≤ N) (hN2 : N ≤ 1024) (hk : f1 V d 0 = 2) (hs : szM V d < 2 ^ 30) (ho : ∀ s, s < szM V d / 16 → pOk N V d (s / 8)) (hf : szM V d / 16 < fuL) : d_X4_names N V D (nI d) = some (nI (cnM V d (szM V d / 16))) := by
  rw [d_X4_names, bnd_o (d_kind h1 h2 hN hN2), hk, if_pos (show nI 2 = (2 : Int32) from rfl), bnd_o (d_slots h1 h2 hN hN2 (by omega))]
  exact d_names_l (n := szM V d / 16) h1 h2 hN2 (by omega) ho fuL 0 (Nat.zero_le _) (by omega)
theorem z_slotNumber {d s a n : Nat} (hl : lkA R) (h1 : 1 ≤ d) (h2 : d ≤ 64) (hs : s < 2 ^ 31) (hn : n = 1 ∨ n = 2 ∨ n = 4) (ha : a + n ≤ 16) (ho : pOk 1024 (rSee R true) d (s / 8)) : e_slotNumber R (nI d) (nI s) (nI a) (nI n) = some (nI (numM n (rSee R true (blM (rSee R true) d (s / 8))) (16 * (s % 8) + a))) := by
  have hm := Nat.mod_lt s (show 8 > 0 by decide)
  rw [e_slotNumber, show (8 : Int32) = nI 8 from rfl, show (16 : Int32) = nI 16 from rfl, pk_div hs (by decide) (by decide), bnd_o (z_blockOf hl h1 h2 ho.1 ho.2.1), pk_mul, pk_sub (Nat.div_mul_le_self _ _), pk_mul, nI_add, show 16 * (s - s / 8 * 8) + a = 16 * (s % 8) + a by omega, bnd_o (z_seen ho.2.2 (hl _ ho.2.2) hn (by omega))]
theorem z_slot2 {d s : Nat} (hl : lkA R) (h1 : 1 ≤ d) (h2 : d ≤ 64) (hs : s < 2 ^ 31) (ho : pOk 1024 (rSee R true) d (s / 8)) : e_slotNumber R (nI d) (nI s) 0 2 = some (nI (slM (rSee R true) d s)) := z_slotNumber (a := 0) (n := 2) hl h1 h2 hs (Or.inr (Or.inl rfl)) (by decide) ho
theorem z_names_l {d n : Nat} (hl : lkA R) (h1 : 1 ≤ d) (h2 : d ≤ 64) (hn : n < 2 ^ 30) (ho : ∀ s, s < n → pOk 1024 (rSee R true) d (s / 8)) : ∀ (m s : Nat), s ≤ n → n - s < m → e_names_14 R m (nI d) (nI n) (nI (cnM (rSee R true) d s)) (nI s) = some (nI (cnM (rSee R true) d n)) := by
  intro m
  induction m with
  | zero => intro s _ h; exact absurd h (Nat.not_lt_zero _)
  | succ m ih =>
    intro s hs hm
    rw [e_names_14]
    by_cases c : s = n
    · rw [c, if_pos (nI_le (Nat.le_refl _) (by omega))]
    · have hb := slM_lt (rSee R true) d s
      rw [if_neg (nI_ge (by omega) (by omega)), bnd_o (z_slot2 hl h1 h2 (by omega) (ho s (by omega))), nI_1, nI_1]
      have e1 : cnM (rSee R true) d (s + 1) = cnM (rSee R true) d s + if slM (rSee R true) d s = 0 then 0 else 1 := rfl
      have q := ih (s + 1) (by omega) (by omega)
      rw [e1] at q
      by_cases c2 : slM (rSee R true) d s = 0
      · rw [if_pos c2, Nat.add_zero] at q
        rw [if_pos (by rw [c2]; exact nI_0)]
        exact q
      · rw [if_neg c2] at q
        rw [if_neg (nI_ne0 (by omega) (by omega))]
        exact q
theorem z_names {d : Nat} (hl : lkA R) (h1 : 1 ≤ d) (h2 : d ≤ 64) (hs : szM (rSee R true) d < 2 ^ 30) (ho : ∀ s, s < szM (rSee R true) d / 16 → pOk 1024 (rSee R true) d (s / 8)) (hf : szM (rSee R true) d / 16 < fuL) : e_names R (nI d) = some (nI (cnM (rSee R true) d (szM (rSee R true) d / 16))) := by
  rw [e_names, bnd_o (z_size hl h1 h2), show (16 : Int32) = nI 16 from rfl, pk_div (show f4 (rSee R true) d 4 < 2 ^ 31 from Nat.lt_trans hs (by decide)) (by decide) (by decide)]
  exact z_names_l (n := szM (rSee R true) d / 16) hl h1 h2 (by omega) ho fuL 0 (Nat.zero_le _) (by omega)
end PUF
