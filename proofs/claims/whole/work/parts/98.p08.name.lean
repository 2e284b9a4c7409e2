/-! ===== pure: names ===== -/
section PUI
variable {N : Nat} {V : Nat → Rw} {D : CfT} {R : RfT}
/-- m bytes from k on are alike -/
def alE (y tp : Nat → Int32) (a st : Nat) : Nat → Nat → Bool
  | 0, _ => true
  | m + 1, k => if y (a + k) = tp (st + k) then alE y tp a st m (k + 1) else false
/-- whether a slot has this name -/
def nmE (y tp : Nat → Int32) (a st ln : Nat) : Bool := if n2 y a = 0 then false else if y (a + 2) = nI ln then alE y tp (a + 3) st ln 0 else false
def bI (b : Bool) : Int32 := if b then 1 else 0
theorem bI_0 {b : Bool} : bI b = 0 ↔ b = false := by
  cases b
  · exact ⟨fun _ => rfl, fun _ => rfl⟩
  · exact ⟨fun z => absurd (show (1 : Int32) = 0 from z) (by decide), fun z => by cases z⟩
/-- the first slot from s on, k far, with the name; -1 if there is none -/
def sfM (V : Nat → Rw) (tp : Nat → Int32) (d st ln : Nat) : Nat → Nat → Int32
  | 0, _ => -1
  | k + 1, s => if nmE (V (blM V d (s / 8))) tp (16 * (s % 8)) st ln = true then nI s else sfM V tp d st ln k (s + 1)
theorem sfM_s {V : Nat → Rw} {tp : Nat → Int32} {d st ln n s : Nat} (h : s < n) : sfM V tp d st ln (n - s) s = if nmE (V (blM V d (s / 8))) tp (16 * (s % 8)) st ln = true then nI s else sfM V tp d st ln (n - (s + 1)) (s + 1) := by
  rw [show n - s = n - (s + 1) + 1 by omega]
  rfl
theorem d_named47_l {y : Rw} {a j st ln : Nat} (ha : a + 16 ≤ 128) (hj : j < 16) (hst : cA D 48 j = nI st) (hln : cA D 49 j = nI ln) (hl : ln ≤ 13) (ht : st + ln ≤ 1024) : ∀ (m k : Nat), k ≤ ln → ln - k < m → d_X4_isNamed_47_28 N V D m y 128 (nI a) (nI j) (nI k) = some (bI (alE y (cA D 1) (a + 3) st (ln - k) k)) := by
  intro m
  induction m with
  | zero => intro k _ h; exact absurd h (Nat.not_lt_zero _)
  | succ m ih =>
    intro k hk hm
    rw [d_X4_isNamed_47_28, ld_n hj (by decide), hln]
    by_cases c : k = ln
    · rw [c, if_pos (nI_le (Nat.le_refl _) (by omega)), Nat.sub_self]
      rfl
    · rw [if_neg (nI_ge (by omega) (by omega)), show (3 : Int32) = nI 3 from rfl, nI_add, nI_add, ld_n (by omega) (by decide), ld_n hj (by decide), hst, nI_add, ld_n (by omega) (by decide), nI_1, ih (k + 1) (by omega) (by omega), show ln - k = ln - (k + 1) + 1 by omega]
      show _ = some (bI (if y (a + 3 + k) = cA D 1 (st + k) then alE y (cA D 1) (a + 3) st (ln - (k + 1)) (k + 1) else false))
      by_cases c2 : y (a + 3 + k) = cA D 1 (st + k)
      · rw [if_pos c2, if_pos c2]
      · rw [if_neg c2, if_neg c2]
        rfl
theorem d_named47 {y : Rw} {a j st ln : Nat} (ha : a + 16 ≤ 128) (hj : j < 16) (hst : cA D 48 j = nI st) (hln : cA D 49 j = nI ln) (hl : ln ≤ 13) (ht : st + ln ≤ 1024) : d_X4_isNamed_47 N V D y 128 (nI a) (nI j) = some (bI (nmE y (cA D 1) a st ln)) := by
  have hb := n2_lt y a
  rw [d_X4_isNamed_47, bnd_o (d_two (by omega) (by decide)), show (2 : Int32) = nI 2 from rfl, nI_add, ld_n (by omega) (by decide), ld_n hj (by decide), hln]
  unfold nmE
  by_cases c : n2 y a = 0
  · rw [if_pos (by rw [c]; exact nI_0), if_pos c]
    rfl
  · rw [if_neg (nI_ne0 (by omega) (by omega)), if_neg c]
    by_cases c2 : y (a + 2) = nI ln
    · rw [if_pos c2, if_pos c2]
      exact d_named47_l ha hj hst hln hl ht fuL 0 (Nat.zero_le _) (by rw [fuL_4]; omega)
    · rw [if_neg c2, if_neg c2]
      rfl
theorem d_slot47_l {d n j st ln : Nat} (h1 : 1 ≤ d) (h2 : d ≤ 64) (hN2 : N ≤ 1024) (hn : n < 2 ^ 30) (ho : ∀ s, s < n → pOk N V d (s / 8)) (hj : j < 16) (hst : cA D 48 j = nI st) (hln : cA D 49 j = nI ln) (hl : ln ≤ 13) (ht : st + ln ≤ 1024) : ∀ (m s : Nat) (g : Nat → Int32) (w : Nat), (s % 8 ≠ 0 → g = V (blM V d (s / 8)) ∧ w = 128) → s ≤ n → n - s < m → d_X4_slotOf_47_16 N V D m (nI d) (nI j) (nI n) g w (nI s) = some (sfM V (cA D 1) d st ln (n - s) s) := by
  intro m
  induction m with
  | zero => intro s _ _ _ _ h; exact absurd h (Nat.not_lt_zero _)
  | succ m ih =>
    intro s g w hg hs hm
    rw [d_X4_slotOf_47_16]
    by_cases c : s = n
    · rw [c, if_pos (nI_le (Nat.le_refl _) (by omega)), Nat.sub_self]
      rfl
    · have hm8 := Nat.mod_lt s (show 8 > 0 by decide)
      have hp := ho s (by omega)
      rw [if_neg (nI_ge (by omega) (by omega)), sfM_s (s := s) (by omega)]
      have er : (nI s) - (nI s) / ((8 : Int32)) * ((8 : Int32)) = nI (s % 8) := pk_rem (a := s) (d := 8) (by omega) (by decide) (by decide)
      have ed : (nI s) / ((8 : Int32)) = nI (s / 8) := pk_div (a := s) (d := 8) (by omega) (by decide) (by decide)
      rw [er]
      have q : ∀ g2 w2, ((s + 1) % 8 ≠ 0 → g2 = V (blM V d ((s + 1) / 8)) ∧ w2 = 128) → d_X4_slotOf_47_16 N V D m (nI d) (nI j) (nI n) g2 w2 (nI (s + 1)) = some (sfM V (cA D 1) d st ln (n - (s + 1)) (s + 1)) := fun g2 w2 h => ih (s + 1) g2 w2 h (by omega) (by omega)
      have same : (s + 1) % 8 ≠ 0 → (s + 1) / 8 = s / 8 := fun z => by omega
      have fin : (if bI (nmE (V (blM V d (s / 8))) (cA D 1) (16 * (s % 8)) st ln) = 0 then some (sfM V (cA D 1) d st ln (n - (s + 1)) (s + 1)) else some (nI s)) = some (if nmE (V (blM V d (s / 8))) (cA D 1) (16 * (s % 8)) st ln = true then nI s else sfM V (cA D 1) d st ln (n - (s + 1)) (s + 1)) := by
        cases hx : nmE (V (blM V d (s / 8))) (cA D 1) (16 * (s % 8)) st ln with
        | false => rw [if_pos (show bI false = 0 from rfl), if_neg (by decide)]
        | true => rw [if_neg (show ¬ bI true = 0 from fun z => absurd (bI_0.mp z) (by decide)), if_pos rfl]
      by_cases c8 : s % 8 = 0
      · rw [if_pos (by rw [c8]; exact nI_0), ed, bnd_o (d_blk h1 h2 hN2 hp), see_n hp.2.2 hN2, bnd_o (d_startOf (by omega)), bnd_o (d_named47 (by omega) hj hst hln hl ht), nI_1, q _ _ (fun z => ⟨by rw [same z], rfl⟩), fin]
      · obtain ⟨rfl, rfl⟩ := hg c8
        rw [if_neg (nI_ne0 (by omega) (by omega)), bnd_o (d_startOf (by omega)), bnd_o (d_named47 (by omega) hj hst hln hl ht), nI_1, q _ _ (fun z => ⟨by rw [same z], rfl⟩), fin]
theorem d_slotOf47 {d j st ln : Nat} (h1 : 1 ≤ d) (h2 : d ≤ 64) (hN : 61 ≤ N) (hN2 : N ≤ 1024) (hs : szM V d < 2 ^ 30) (ho : ∀ s, s < szM V d / 16 → pOk N V d (s / 8)) (hf : szM V d / 16 < fuL) (hj : j < 16) (hst : cA D 48 j = nI st) (hln : cA D 49 j = nI ln) (hl : ln ≤ 13) (ht : st + ln ≤ 1024) : d_X4_slotOf_47 N V D (nI d) (nI j) = some (sfM V (cA D 1) d st ln (szM V d / 16) 0) := by
  rw [d_X4_slotOf_47, bnd_o (d_slots h1 h2 hN hN2 (by omega))]
  exact d_slot47_l (n := szM V d / 16) h1 h2 hN2 (by omega) ho hj hst hln hl ht fuL 0 _ _ (fun z => absurd rfl z) (Nat.zero_le _) (by omega)
theorem d_named50_l {y : Rw} {a j st ln : Nat} (ha : a + 16 ≤ 128) (hj : j < 16) (hst : cA D 51 j = nI st) (hln : cA D 52 j = nI ln) (hl : ln ≤ 13) (ht : st + ln ≤ 1024) : ∀ (m k : Nat), k ≤ ln → ln - k < m → d_X4_isNamed_50_28 N V D m y 128 (nI a) (nI j) (nI k) = some (bI (alE y (cA D 1) (a + 3) st (ln - k) k)) := by
  intro m
  induction m with
  | zero => intro k _ h; exact absurd h (Nat.not_lt_zero _)
  | succ m ih =>
    intro k hk hm
    rw [d_X4_isNamed_50_28, ld_n hj (by decide), hln]
    by_cases c : k = ln
    · rw [c, if_pos (nI_le (Nat.le_refl _) (by omega)), Nat.sub_self]
      rfl
    · rw [if_neg (nI_ge (by omega) (by omega)), show (3 : Int32) = nI 3 from rfl, nI_add, nI_add, ld_n (by omega) (by decide), ld_n hj (by decide), hst, nI_add, ld_n (by omega) (by decide), nI_1, ih (k + 1) (by omega) (by omega), show ln - k = ln - (k + 1) + 1 by omega]
      show _ = some (bI (if y (a + 3 + k) = cA D 1 (st + k) then alE y (cA D 1) (a + 3) st (ln - (k + 1)) (k + 1) else false))
      by_cases c2 : y (a + 3 + k) = cA D 1 (st + k)
      · rw [if_pos c2, if_pos c2]
      · rw [if_neg c2, if_neg c2]
        rfl
theorem d_named50 {y : Rw} {a j st ln : Nat} (ha : a + 16 ≤ 128) (hj : j < 16) (hst : cA D 51 j = nI st) (hln : cA D 52 j = nI ln) (hl : ln ≤ 13) (ht : st + ln ≤ 1024) : d_X4_isNamed_50 N V D y 128 (nI a) (nI j) = some (bI (nmE y (cA D 1) a st ln)) := by
  have hb := n2_lt y a
  rw [d_X4_isNamed_50, bnd_o (d_two (by omega) (by decide)), show (2 : Int32) = nI 2 from rfl, nI_add, ld_n (by omega) (by decide), ld_n hj (by decide), hln]
  unfold nmE
  by_cases c : n2 y a = 0
  · rw [if_pos (by rw [c]; exact nI_0), if_pos c]
    rfl
  · rw [if_neg (nI_ne0 (by omega) (by omega)), if_neg c]
    by_cases c2 : y (a + 2) = nI ln
    · rw [if_pos c2, if_pos c2]
      exact d_named50_l ha hj hst hln hl ht fuL 0 (Nat.zero_le _) (by rw [fuL_4]; omega)
    · rw [if_neg c2, if_neg c2]
      rfl
theorem d_slot50_l {d n j st ln : Nat} (h1 : 1 ≤ d) (h2 : d ≤ 64) (hN2 : N ≤ 1024) (hn : n < 2 ^ 30) (ho : ∀ s, s < n → pOk N V d (s / 8)) (hj : j < 16) (hst : cA D 51 j = nI st) (hln : cA D 52 j = nI ln) (hl : ln ≤ 13) (ht : st + ln ≤ 1024) : ∀ (m s : Nat) (g : Nat → Int32) (w : Nat), (s % 8 ≠ 0 → g = V (blM V d (s / 8)) ∧ w = 128) → s ≤ n → n - s < m → d_X4_slotOf_50_16 N V D m (nI d) (nI j) (nI n) g w (nI s) = some (sfM V (cA D 1) d st ln (n - s) s) := by
  intro m
  induction m with
  | zero => intro s _ _ _ _ h; exact absurd h (Nat.not_lt_zero _)
  | succ m ih =>
    intro s g w hg hs hm
    rw [d_X4_slotOf_50_16]
    by_cases c : s = n
    · rw [c, if_pos (nI_le (Nat.le_refl _) (by omega)), Nat.sub_self]
      rfl
    · have hm8 := Nat.mod_lt s (show 8 > 0 by decide)
      have hp := ho s (by omega)
      rw [if_neg (nI_ge (by omega) (by omega)), sfM_s (s := s) (by omega)]
      have er : (nI s) - (nI s) / ((8 : Int32)) * ((8 : Int32)) = nI (s % 8) := pk_rem (a := s) (d := 8) (by omega) (by decide) (by decide)
      have ed : (nI s) / ((8 : Int32)) = nI (s / 8) := pk_div (a := s) (d := 8) (by omega) (by decide) (by decide)
      rw [er]
      have q : ∀ g2 w2, ((s + 1) % 8 ≠ 0 → g2 = V (blM V d ((s + 1) / 8)) ∧ w2 = 128) → d_X4_slotOf_50_16 N V D m (nI d) (nI j) (nI n) g2 w2 (nI (s + 1)) = some (sfM V (cA D 1) d st ln (n - (s + 1)) (s + 1)) := fun g2 w2 h => ih (s + 1) g2 w2 h (by omega) (by omega)
      have same : (s + 1) % 8 ≠ 0 → (s + 1) / 8 = s / 8 := fun z => by omega
      have fin : (if bI (nmE (V (blM V d (s / 8))) (cA D 1) (16 * (s % 8)) st ln) = 0 then some (sfM V (cA D 1) d st ln (n - (s + 1)) (s + 1)) else some (nI s)) = some (if nmE (V (blM V d (s / 8))) (cA D 1) (16 * (s % 8)) st ln = true then nI s else sfM V (cA D 1) d st ln (n - (s + 1)) (s + 1)) := by
        cases hx : nmE (V (blM V d (s / 8))) (cA D 1) (16 * (s % 8)) st ln with
        | false => rw [if_pos (show bI false = 0 from rfl), if_neg (by decide)]
        | true => rw [if_neg (show ¬ bI true = 0 from fun z => absurd (bI_0.mp z) (by decide)), if_pos rfl]
      by_cases c8 : s % 8 = 0
      · rw [if_pos (by rw [c8]; exact nI_0), ed, bnd_o (d_blk h1 h2 hN2 hp), see_n hp.2.2 hN2, bnd_o (d_startOf (by omega)), bnd_o (d_named50 (by omega) hj hst hln hl ht), nI_1, q _ _ (fun z => ⟨by rw [same z], rfl⟩), fin]
      · obtain ⟨rfl, rfl⟩ := hg c8
        rw [if_neg (nI_ne0 (by omega) (by omega)), bnd_o (d_startOf (by omega)), bnd_o (d_named50 (by omega) hj hst hln hl ht), nI_1, q _ _ (fun z => ⟨by rw [same z], rfl⟩), fin]
theorem d_slotOf50 {d j st ln : Nat} (h1 : 1 ≤ d) (h2 : d ≤ 64) (hN : 61 ≤ N) (hN2 : N ≤ 1024) (hs : szM V d < 2 ^ 30) (ho : ∀ s, s < szM V d / 16 → pOk N V d (s / 8)) (hf : szM V d / 16 < fuL) (hj : j < 16) (hst : cA D 51 j = nI st) (hln : cA D 52 j = nI ln) (hl : ln ≤ 13) (ht : st + ln ≤ 1024) : d_X4_slotOf_50 N V D (nI d) (nI j) = some (sfM V (cA D 1) d st ln (szM V d / 16) 0) := by
  rw [d_X4_slotOf_50, bnd_o (d_slots h1 h2 hN hN2 (by omega))]
  exact d_slot50_l (n := szM V d / 16) h1 h2 hN2 (by omega) ho hj hst hln hl ht fuL 0 _ _ (fun z => absurd rfl z) (Nat.zero_le _) (by omega)
end PUI
