/-! ===== pure: the numbers that an inode has, and where they stand ===== -/
section PVN
variable {N : Nat} {V W : Nat → Rw}
/-- number x of inode i: 0..7 direct, 8 and 9 the tables, then what the first tells, what the second tells, what its tables tell -/
def pvA (V : Nat → Rw) (i x : Nat) : Nat := if x < 8 then f2 V i (12 + 2 * x) else if x = 8 then f2 V i 28 else f2 V i 30
def pvT (V : Nat → Rw) (t l : Nat) : Nat := if t = 0 then 0 else n2 (V t) (2 * l)
def pv (V : Nat → Rw) (i x : Nat) : Nat := if x < 10 then pvA V i x else if x < 74 then pvT V (pvA V i 8) (x - 10) else if x < 138 then pvT V (pvA V i 9) (x - 74) else pvT V (pvT V (pvA V i 9) ((x - 138) / 64)) ((x - 138) % 64)
/-- the block that has number x -/
def ph (V : Nat → Rw) (i x : Nat) : Nat := if x < 10 then homeM i else if x < 74 then pvA V i 8 else if x < 138 then pvA V i 9 else pvT V (pvA V i 9) ((x - 138) / 64)
/-- where in it -/
def po (i x : Nat) : Nat := if x < 8 then startM i + 12 + 2 * x else if x = 8 then startM i + 28 else if x = 9 then startM i + 30 else if x < 74 then 2 * (x - 10) else if x < 138 then 2 * (x - 74) else 2 * ((x - 138) % 64)
/-- the number of a place -/
def px (p : Nat) : Nat := if p < 8 then p else if p < 72 then p + 2 else p + 66
theorem px_lt {p : Nat} (h : p < 4168) : px p < 4234 := by
  unfold px
  split
  · omega
  · split
    · omega
    · omega
theorem pv_0 {i x : Nat} (h : x < 10) : pv V i x = pvA V i x := if_pos h
theorem pv_1 {i x : Nat} (h1 : 10 ≤ x) (h2 : x < 74) : pv V i x = pvT V (pv V i 8) (x - 10) := by
  unfold pv
  rw [if_neg (by omega), if_pos h2, if_pos (by decide)]
theorem pv_2 {i x : Nat} (h1 : 74 ≤ x) (h2 : x < 138) : pv V i x = pvT V (pv V i 9) (x - 74) := by
  unfold pv
  rw [if_neg (by omega), if_neg (by omega), if_pos h2, if_pos (by decide)]
theorem pv_3 {i x : Nat} (h1 : 138 ≤ x) (h2 : x < 4234) : pv V i x = pvT V (pv V i (74 + (x - 138) / 64)) ((x - 138) % 64) := by
  rw [pv_2 (x := 74 + (x - 138) / 64) (by omega) (by omega)]
  unfold pv
  rw [if_neg (by omega), if_neg (by omega), if_neg (by omega), if_pos (by decide), Nat.add_sub_cancel_left]
theorem ph_0 {i x : Nat} (h : x < 10) : ph V i x = homeM i := if_pos h
theorem ph_1 {i x : Nat} (h1 : 10 ≤ x) (h2 : x < 74) : ph V i x = pv V i 8 := by
  unfold ph
  rw [if_neg (by omega), if_pos h2]
  rfl
theorem ph_2 {i x : Nat} (h1 : 74 ≤ x) (h2 : x < 138) : ph V i x = pv V i 9 := by
  unfold ph
  rw [if_neg (by omega), if_neg (by omega), if_pos h2]
  rfl
theorem ph_3 {i x : Nat} (h1 : 138 ≤ x) (h2 : x < 4234) : ph V i x = pv V i (74 + (x - 138) / 64) := by
  rw [pv_2 (x := 74 + (x - 138) / 64) (by omega) (by omega)]
  unfold ph
  rw [if_neg (by omega), if_neg (by omega), if_neg (by omega), Nat.add_sub_cancel_left]
  rfl
theorem po_lt {i x : Nat} (h : x < 4234) : po i x + 2 ≤ 128 := by
  have := startM_le i
  unfold po
  repeat' split
  all_goals omega
/-- a number is 0 where its block is wanting, else it stands there -/
theorem pv_at {i x : Nat} (hx : x < 4234) : pv V i x = if ph V i x = 0 then 0 else n2 (V (ph V i x)) (po i x) := by
  by_cases c0 : x < 10
  · rw [ph_0 c0, if_neg (homeM_ne i), pv_0 c0]
    unfold pvA po f2
    by_cases c1 : x < 8
    · rw [if_pos c1, if_pos c1, Nat.add_assoc]
    · rw [if_neg c1, if_neg c1]
      by_cases c2 : x = 8
      · rw [if_pos c2, if_pos c2]
      · rw [if_neg c2, if_neg c2, if_pos (by omega)]
  · by_cases c1 : x < 74
    · rw [pv_1 (by omega) c1, ph_1 (by omega) c1]
      unfold pvT po
      rw [if_neg (show ¬ x < 8 by omega), if_neg (show ¬ x = 8 by omega), if_neg (show ¬ x = 9 by omega), if_pos c1]
    · by_cases c2 : x < 138
      · rw [pv_2 (by omega) c2, ph_2 (by omega) c2]
        unfold pvT po
        rw [if_neg (show ¬ x < 8 by omega), if_neg (show ¬ x = 8 by omega), if_neg (show ¬ x = 9 by omega), if_neg c1, if_pos c2]
      · rw [pv_3 (by omega) hx, ph_3 (by omega) hx]
        unfold pvT po
        rw [if_neg (show ¬ x < 8 by omega), if_neg (show ¬ x = 8 by omega), if_neg (show ¬ x = 9 by omega), if_neg c1, if_neg c2]
theorem rc_1 {i p : Nat} : rcM V i p 1 = if p < 8 then pv V i p else if p < 72 then pv V i 8 else pv V i 9 := by
  rw [rcM_1]
  by_cases c1 : p < 8
  · rw [if_pos c1, pv_0 (by omega)]
    unfold offM pvA
    rw [if_pos c1, if_pos c1]
  · rw [if_neg c1]
    by_cases c2 : p < 72
    · rw [if_pos c2, (off_a c1 c2).1]
      rfl
    · rw [if_neg c2, (off_b c2).1]
      rfl
theorem rc_2 {i p : Nat} (h8 : ¬ p < 8) (hp : p < 4168) : rcM V i p 2 = if p < 72 then pv V i (p + 2) else pv V i (74 + (p - 72) / 64) := by
  have e := rcM_s (V := V) (i := i) (p := p) (k := 0)
  have e : rcM V i p 2 = if rcM V i p 1 = 0 then 0 else n2 (V (rcM V i p 1)) (offM p 1) := e
  rw [e, rc_1, if_neg h8]
  by_cases c2 : p < 72
  · rw [if_pos c2, if_pos c2, pv_1 (x := p + 2) (by omega) (by omega), (off_a h8 c2).2, show p + 2 - 10 = p - 8 by omega]
    rfl
  · rw [if_neg c2, if_neg c2, pv_2 (x := 74 + (p - 72) / 64) (by omega) (by omega), (off_b c2).2.1, Nat.add_sub_cancel_left]
    rfl
theorem rc_3 {i p : Nat} (h8 : ¬ p < 72) (hp : p < 4168) : rcM V i p 3 = pv V i (p + 66) := by
  have e := rcM_s (V := V) (i := i) (p := p) (k := 1)
  have e : rcM V i p 3 = if rcM V i p 2 = 0 then 0 else n2 (V (rcM V i p 2)) (offM p 2) := e
  rw [e, rc_2 (by omega) hp, if_neg h8, pv_3 (x := p + 66) (by omega) (by omega), (off_b h8).2.2, show p + 66 - 138 = p - 72 by omega]
  rfl
theorem bl_pv {i p : Nat} (hp : p < 4168) : blM V i p = pv V i (px p) := by
  unfold blM px
  by_cases c1 : p < 8
  · rw [lev_1 c1, rc_1, if_pos c1, if_pos c1]
  · rw [if_neg c1]
    by_cases c2 : p < 72
    · rw [lev_2 c1 c2, rc_2 c1 hp, if_pos c2, if_pos c2]
    · rw [lev_3 c2, rc_3 c2 hp, if_neg c2]
theorem hd_ph {i p : Nat} (hp : p < 4168) : hdM V i p = ph V i (px p) := by
  unfold hdM px
  by_cases c1 : p < 8
  · rw [lev_1 c1, if_pos c1, ph_0 (by omega)]
    rfl
  · rw [if_neg c1]
    by_cases c2 : p < 72
    · rw [lev_2 c1 c2, if_pos c2, ph_1 (by omega) (by omega)]
      show rcM V i p 1 = _
      rw [rc_1, if_neg c1, if_pos c2]
    · rw [lev_3 c2, if_neg c2, ph_3 (by omega) (by omega)]
      show rcM V i p 2 = _
      rw [rc_2 c1 hp, if_neg c2, show p + 66 - 138 = p - 72 by omega]
/-- every step to a place is 0, the inode's block, or one of its numbers -/
theorem rc_in {i p k : Nat} (hp : p < 4168) (hk : k ≤ levM p) : rcM V i p k = homeM i ∨ ∃ x, x < 4234 ∧ rcM V i p k = pv V i x := by
  have hl : levM p ≤ 3 := by
    unfold levM
    split
    · decide
    · split
      · decide
      · decide
  have hk3 : k = 0 ∨ k = 1 ∨ k = 2 ∨ k = 3 := by omega
  rcases hk3 with rfl | rfl | rfl | rfl
  · exact Or.inl rfl
  · rw [rc_1]
    by_cases c1 : p < 8
    · exact Or.inr ⟨p, by omega, by rw [if_pos c1]⟩
    · by_cases c2 : p < 72
      · exact Or.inr ⟨8, by omega, by rw [if_neg c1, if_pos c2]⟩
      · exact Or.inr ⟨9, by omega, by rw [if_neg c1, if_neg c2]⟩
  · have c1 : ¬ p < 8 := fun z => by
      rw [lev_1 z] at hk
      omega
    rw [rc_2 c1 hp]
    by_cases c2 : p < 72
    · exact Or.inr ⟨p + 2, by omega, by rw [if_pos c2]⟩
    · exact Or.inr ⟨74 + (p - 72) / 64, by omega, by rw [if_neg c2]⟩
  · have c2 : ¬ p < 72 := fun z => by
      by_cases c1 : p < 8
      · rw [lev_1 c1] at hk
        omega
      · rw [lev_2 c1 z] at hk
        omega
    exact Or.inr ⟨p + 66, by omega, rc_3 c2 hp⟩
/-- W is V where V's blocks are used -/
def AgU (N : Nat) (V W : Nat → Rw) : Prop := ∀ b, 43 ≤ b → b < N → btM (V 43) b = 1 → W b = V b
/-- numbers lead to used blocks -/
def PtO (N : Nat) (V : Nat → Rw) (i : Nat) : Prop := ∀ x, x < 4234 → pv V i x = 0 ∨ (61 ≤ pv V i x ∧ pv V i x < N ∧ btM (V 43) (pv V i x) = 1)
theorem f1_ag {i a : Nat} (hN : 61 ≤ N) (h : AgU N V W) (hb : btO N (V 43)) (h2 : i ≤ 64) : f1 W i a = f1 V i a ∧ f2 W i a = f2 V i a ∧ f4 W i a = f4 V i a := by
  have hh := homeM_lt h2
  have h45 : 45 ≤ homeM i := by
    unfold homeM
    omega
  have e := h (homeM i) (by omega) (by omega) (hb.1 _ hh)
  unfold f1 f2 f4
  rw [e]
  exact ⟨rfl, rfl, rfl⟩
theorem pv_ag {i : Nat} (hN : 61 ≤ N) (h : AgU N V W) (hb : btO N (V 43)) (h2 : i ≤ 64) (hp : ∀ x, x < 138 → pv V i x = 0 ∨ (61 ≤ pv V i x ∧ pv V i x < N ∧ btM (V 43) (pv V i x) = 1)) : ∀ x, x < 4234 → pv W i x = pv V i x := by
  have h0 : ∀ x, x < 10 → pv W i x = pv V i x := fun x hx => by
    rw [pv_0 hx, pv_0 hx]
    unfold pvA
    rw [(f1_ag (a := 12 + 2 * x) hN h hb h2).2.1, (f1_ag (a := 28) hN h hb h2).2.1, (f1_ag (a := 30) hN h hb h2).2.1]
  have ht : ∀ t l, (t = 0 ∨ (61 ≤ t ∧ t < N ∧ btM (V 43) t = 1)) → pvT W t l = pvT V t l := fun t l q => by
    unfold pvT
    rcases q with q | ⟨q1, q2, q3⟩
    · rw [if_pos q, if_pos q]
    · rw [if_neg (by omega), if_neg (by omega), h t (by omega) q2 q3]
  have h1 : ∀ x, x < 138 → pv W i x = pv V i x := fun x hx => by
    by_cases c0 : x < 10
    · exact h0 x c0
    · by_cases c1 : x < 74
      · rw [pv_1 (by omega) c1, pv_1 (by omega) c1, h0 8 (by decide), ht _ _ (hp 8 (by decide))]
      · rw [pv_2 (by omega) hx, pv_2 (by omega) hx, h0 9 (by decide), ht _ _ (hp 9 (by decide))]
  intro x hx
  by_cases c : x < 138
  · exact h1 x c
  · rw [pv_3 (by omega) hx, pv_3 (by omega) hx, h1 _ (by omega), ht _ _ (hp _ (by omega))]
theorem rc_ag {i p k : Nat} (hN : 61 ≤ N) (h : AgU N V W) (hb : btO N (V 43)) (h2 : i ≤ 64) (ho : ∀ x, x < 138 → pv V i x = 0 ∨ (61 ≤ pv V i x ∧ pv V i x < N ∧ btM (V 43) (pv V i x) = 1)) (hp : p < 4168) (hk : k ≤ levM p) : rcM W i p k = rcM V i p k := by
  have hpv := pv_ag hN h hb h2 ho
  have hl : levM p ≤ 3 := by
    unfold levM
    split
    · decide
    · split
      · decide
      · decide
  have hk3 : k = 0 ∨ k = 1 ∨ k = 2 ∨ k = 3 := by omega
  rcases hk3 with rfl | rfl | rfl | rfl
  · rfl
  · rw [rc_1, rc_1]
    by_cases c1 : p < 8
    · rw [if_pos c1, if_pos c1, hpv _ (by omega)]
    · rw [if_neg c1, if_neg c1, hpv 8 (by decide), hpv 9 (by decide)]
  · have c1 : ¬ p < 8 := fun z => by
      rw [lev_1 z] at hk
      omega
    rw [rc_2 c1 hp, rc_2 c1 hp]
    by_cases c2 : p < 72
    · rw [if_pos c2, if_pos c2, hpv _ (by omega)]
    · rw [if_neg c2, if_neg c2, hpv _ (by omega)]
  · have c2 : ¬ p < 72 := fun z => by
      by_cases c1 : p < 8
      · rw [lev_1 c1] at hk
        omega
      · rw [lev_2 c1 z] at hk
        omega
    rw [rc_3 c2 hp, rc_3 c2 hp, hpv _ (by omega)]
theorem PtO.pok {i p : Nat} (hN : 61 ≤ N) (h : PtO N V i) (h2 : i ≤ 64) (hp : p < 4168) : pOk N V i p := by
  have hh := homeM_lt h2
  have key : ∀ k, k ≤ levM p → rcM V i p k < N := fun k hk => by
    rcases rc_in (V := V) (i := i) hp hk with e | ⟨x, hx, e⟩
    · rw [e]
      omega
    · rw [e]
      rcases h x hx with z | z
      · omega
      · omega
  exact ⟨hp, fun k hk => key k (by omega), key _ (Nat.le_refl _)⟩
end PVN
