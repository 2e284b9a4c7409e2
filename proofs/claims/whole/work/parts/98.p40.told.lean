/-! ===== pure: the reference cuts an inode ===== -/
section PVQ
variable {N B gr : Nat} {V : Nat → Rw} {i : Nat} {m : M5} {tk : Nat → Bool} {X : Nat → Prop}
/-- an inode whose numbers are in order -/
def CutH (N : Nat) (V : Nat → Rw) (i : Nat) : Prop := 61 ≤ N ∧ N ≤ 1024 ∧ 1 ≤ i ∧ i ≤ 64 ∧ btO N (V 43) ∧ (∀ c, 43 ≤ c → c < N → nr (V c) = V c) ∧ PJ N V i
/-- own rows: those that V's row 0 (which nobody sees) tells, and what a cut wants -/
def GH (V : Nat → Rw) (i b : Nat) : Prop := V 0 b ≠ 0 ∨ b = 43 ∨ ∃ x, x < 4234 ∧ ph V i x = b ∧ b ≠ 0
def YZ (N B gr : Nat) (R : RfT) (m : M5) (V : Nat → Rw) (tk : Nat → Bool) (i : Nat) (X S : Nat → Prop) : Prop := ∃ m' V' tk', (RY N B gr R m' V' tk' ∧ OwR R (GH V i)) ∧ ZI N m V tk i X S m' V' tk'
theorem YZ.skip {R : RfT} {S : Nat → Prop} (h : YZ N B gr R m V tk i X S) {x : Nat} (hX : X x) (h0 : pv V i x = 0) : YZ N B gr R m V tk i X (fun y => S y ∨ y = x) := by
  obtain ⟨m', V', tk', h1, h2⟩ := h
  exact ⟨m', V', tk', h1, h2.skip hX h0⟩
theorem YZ.eq {R : RfT} {S S2 : Nat → Prop} (h : YZ N B gr R m V tk i X S) (e : ∀ x, x < 4234 → pv V i x ≠ 0 → (S x ↔ S2 x)) (hX : ∀ x, S2 x → X x) : YZ N B gr R m V tk i X S2 := by
  obtain ⟨m', V', tk', h1, h2⟩ := h
  exact ⟨m', V', tk', h1, h2.eq e hX⟩
/-- what is told is seen -/
theorem YZ.at {R : RfT} {S : Nat → Prop} (C : CutH N V i) (h : YZ N B gr R m V tk i X S) {x : Nat} (hx4 : x < 4234) (hS : ¬ S x) (hh : 10 ≤ x → ¬ S (hx x)) (h0 : ph V i x ≠ 0) : e_seenNumber R (nI (ph V i x)) (nI (po i x)) 2 = some (nI (pv V i x)) ∧ 44 ≤ ph V i x ∧ ph V i x < N := by
  obtain ⟨c1, c2, c3, c4, c5, c6, c7⟩ := C
  obtain ⟨m', V', tk', h1, h2⟩ := h
  obtain ⟨t1, t2, t3, t4, t5⟩ := h2.at c1 c2 c4 c5 c7 hx4 hS hh h0
  have q := z_s2 (R := R) (b := ph V i x) (a := po i x) (by omega) h1.1.1.1.lk (po_lt hx4)
  rw [(h1.1.1.2 _ (by omega) t2).1, t5] at q
  exact ⟨q, t1, t2⟩
theorem YZ.cut {R : RfT} {S : Nat → Prop} (C : CutH N V i) (h : YZ N B gr R m V tk i X S) {x : Nat} (hx4 : x < 4234) (hX : X x) (h0 : pv V i x ≠ 0) (hf : FSx V i X (ph V i x)) : ∃ R', e_free R (nI (pv V i x)) = some R' ∧ YZ N B gr R' m V tk i X (fun y => S y ∨ y = x) ∧ Fn [33] [30, 31, 32, 35, 36, 43] R R' := by
  obtain ⟨c1, c2, c3, c4, c5, c6, c7⟩ := C
  obtain ⟨m', V', tk', h1, h2⟩ := h
  have hp := (c7.1 x hx4).resolve_left h0
  obtain ⟨R', e, y, f⟩ := y_free c1 c2 h1.1 hp.2.1 hp.1
  exact ⟨R', e, ⟨_, _, _, ⟨y, ww_free c1 c2 h1.1.1 hp.2.1 hp.1 e h1.2 (Or.inr (Or.inl rfl))⟩, h2.cut c2 c7 hx4 hX h0 hf⟩, f⟩
theorem YZ.cutZ {R : RfT} {S : Nat → Prop} (C : CutH N V i) (h : YZ N B gr R m V tk i X S) {x : Nat} (hx4 : x < 4234) (hX : X x) (hS : ¬ S x) (hh : 10 ≤ x → ¬ S (hx x)) (h0 : pv V i x ≠ 0) : ∃ R' R2, e_free R (nI (pv V i x)) = some R' ∧ e_setNumber R' (nI (ph V i x)) (nI (po i x)) 2 0 = some R2 ∧ YZ N B gr R2 m V tk i X (fun y => S y ∨ y = x) ∧ Fn [33] [30, 31, 32, 35, 36, 43] R R2 := by
  obtain ⟨c1, c2, c3, c4, c5, c6, c7⟩ := C
  obtain ⟨m', V', tk', h1, h2⟩ := h
  have hp := (c7.1 x hx4).resolve_left h0
  have hp0 : ph V i x ≠ 0 := fun z => h0 (by rw [pv_at hx4, if_pos z])
  obtain ⟨t1, t2, t3, t4, t5⟩ := h2.at c1 c2 c4 c5 c7 hx4 hS hh hp0
  obtain ⟨R', e, y, f⟩ := y_free c1 c2 h1.1 hp.2.1 hp.1
  have hw1 := ww_free c1 c2 h1.1.1 hp.2.1 hp.1 e h1.2 (Or.inr (Or.inl rfl))
  have hne : ph V i x ≠ pv V i x := fun z => by
    by_cases c : x < 10
    · rw [ph_0 c] at z
      have := homeM_lt c4
      omega
    · rw [ph_hx (by omega) hx4] at z
      have hl := hx_lt hx4
      have e := c7.2 x (hx x) hx4 (by omega) h0 z.symm
      exact hx_ne (by omega) e.symm
  have hu : btM (frV m' V' (pv V i x) 43) (ph V i x) = 1 := by
    rw [show frV m' V' (pv V i x) 43 = bsW (V' 43) (pv V i x) false from (vU_n (by omega)).trans vU_s, bt_bs (by omega) (by omega), if_neg hne]
    exact t4
  obtain ⟨R2, e2, y2, f2⟩ := y_set (p := po i x) (n := 2) (v := 0) c2 y t1 t2 hu (by decide) (po_lt hx4)
  exact ⟨R', R2, e, e2, ⟨_, _, _, ⟨y2, ww_set (n := 2) c2 y.1 (show 43 ≤ ph V i x by omega) t2 (by decide) (po_lt hx4) e2 hw1 (Or.inr (Or.inr ⟨x, hx4, rfl, hp0⟩))⟩, h2.cutZ c1 c2 c4 c5 c6 c7 hx4 hX hS hh h0 rfl⟩, f.tr (f2.wk (by decide) (by decide))⟩
/-- the rest of a table is cut -/
theorem y_told {bx t h0 : Nat} {fg : Bool} (C : CutH N V i) (hb : ∀ l, l < 64 → bx + l < 4234 ∧ 10 ≤ bx + l ∧ ph V i (bx + l) = t ∧ po i (bx + l) = 2 * l ∧ hx (bx + l) = h0 ∧ h0 ≠ bx + l) (ht : t ≠ 0) (hfg : fg = false → FSx V i X t) : ∀ (n l : Nat) (R : RfT) (S : Nat → Prop), l ≤ 64 → 64 - l < n → (∀ l', l ≤ l' → l' < 64 → X (bx + l')) → YZ N B gr R m V tk i X S → ¬ S h0 → (∀ l', l ≤ l' → l' < 64 → ¬ S (bx + l')) → ∃ R', e_freeTold_3 n R (nI t) (bI fg) (nI l) = some R' ∧ YZ N B gr R' m V tk i X (fun x => S x ∨ ∃ l', l ≤ l' ∧ l' < 64 ∧ x = bx + l') ∧ Fn [33] [30, 31, 32, 35, 36, 43] R R' := by
  intro n
  induction n with
  | zero => intro l _ _ _ h; exact absurd h (Nat.not_lt_zero _)
  | succ n ih =>
    intro l R S hl hn hX hy hh hS
    rw [e_freeTold_3]
    by_cases c : l = 64
    · rw [c, if_pos (show (64 : Int32) ≤ nI 64 from nI_le (a := 64) (b := 64) (by decide) (by decide))]
      refine ⟨R, rfl, hy.eq (fun x _ _ => ⟨Or.inl, fun z => z.elim id (fun ⟨l', l1, l2, _⟩ => by omega)⟩) (fun x z => z.elim ?_ (fun ⟨l', l1, l2, _⟩ => by omega)), Fn.rf⟩
      obtain ⟨m', V', tk', -, h2⟩ := hy
      exact h2.1 x
    · obtain ⟨b1, b2, b3, b4, b5, b6⟩ := hb l (by omega)
      have hXl := hX l (Nat.le_refl _) (by omega)
      have hSl := hS l (Nat.le_refl _) (by omega)
      obtain ⟨s1, s2, s3⟩ := hy.at C b1 hSl (fun _ => by rw [b5]; exact hh) (by rw [b3]; exact ht)
      rw [b3, b4] at s1
      rw [if_neg (show ¬ (64 : Int32) ≤ nI l from nI_ge (a := l) (b := 64) (by omega) (by decide)), show (2 : Int32) * nI l = nI (2 * l) from pk_mul 2 l, bnd_o s1, nI_1]
      have fin : ∀ R1 : RfT, YZ N B gr R1 m V tk i X (fun y => S y ∨ y = bx + l) → Fn [33] [30, 31, 32, 35, 36, 43] R R1 → ∃ R', e_freeTold_3 n R1 (nI t) (bI fg) (nI (l + 1)) = some R' ∧ YZ N B gr R' m V tk i X (fun x => S x ∨ ∃ l', l ≤ l' ∧ l' < 64 ∧ x = bx + l') ∧ Fn [33] [30, 31, 32, 35, 36, 43] R R' := fun R1 hy1 f1 => by
        obtain ⟨R', r1, r2, r3⟩ := ih (l + 1) R1 _ (by omega) (by omega) (fun l' h1 h2 => hX l' (by omega) h2) hy1 (fun z => z.elim hh b6) (fun l' h1 h2 z => z.elim (hS l' (by omega) h2) (fun y => by omega))
        refine ⟨R', r1, r2.eq (fun x _ _ => ⟨fun z => ?_, fun z => ?_⟩) (fun x z => ?_), f1.tr r3⟩
        · rcases z with (z | z) | ⟨l', l1, l2, l3⟩
          · exact Or.inl z
          · exact Or.inr ⟨l, Nat.le_refl _, by omega, z⟩
          · exact Or.inr ⟨l', by omega, l2, l3⟩
        · rcases z with z | ⟨l', l1, l2, l3⟩
          · exact Or.inl (Or.inl z)
          · by_cases cl : l' = l
            · exact Or.inl (Or.inr (by rw [l3, cl]))
            · exact Or.inr ⟨l', by omega, l2, l3⟩
        · rcases z with z | ⟨l', l1, l2, l3⟩
          · obtain ⟨m', V', tk', -, h2⟩ := hy
            exact h2.1 x z
          · rw [l3]
            exact hX l' l1 l2
      by_cases c0 : pv V i (bx + l) = 0
      · rw [if_pos (by rw [c0]; rfl)]
        exact fin R (hy.skip hXl c0) Fn.rf
      · have hlt : pv V i (bx + l) < N := ((C.2.2.2.2.2.2.1 _ b1).resolve_left c0).2.1
        have hN := C.2.1
        rw [if_neg (nI_ne0 (by omega) (by omega))]
        cases fg with
        | false =>
          obtain ⟨R1, e1, y1, f1⟩ := hy.cut C b1 hXl c0 (by rw [b3]; exact hfg rfl)
          rw [bnd_o e1, if_pos (show bI false = 0 from rfl)]
          exact fin R1 y1 f1
        | true =>
          obtain ⟨R1, R2, e1, e2, y1, f1⟩ := hy.cutZ C b1 hXl hSl (fun _ => by rw [b5]; exact hh) c0
          rw [b3, b4] at e2
          rw [bnd_o e1, if_neg (show ¬ bI true = 0 by decide), bnd_o e2]
          exact fin R2 y1 f1
/-- the numbers that go when the places below k stay -/
def cX (k x : Nat) : Prop := if x < 8 then k ≤ x else if x = 8 then k ≤ 8 else if x = 9 then k ≤ 72 else if x < 74 then k ≤ x - 2 else if x < 138 then k ≤ 72 + 64 * (x - 74) else k ≤ x - 66
theorem cX_0 {k x : Nat} (h : x < 8) : cX k x ↔ k ≤ x := by
  unfold cX
  rw [if_pos h]
theorem cX_8 {k : Nat} : cX k 8 ↔ k ≤ 8 := by
  unfold cX
  rw [if_neg (by decide), if_pos rfl]
theorem cX_9 {k : Nat} : cX k 9 ↔ k ≤ 72 := by
  unfold cX
  rw [if_neg (by decide), if_neg (by decide), if_pos rfl]
theorem cX_1 {k x : Nat} (h1 : 10 ≤ x) (h2 : x < 74) : cX k x ↔ k ≤ x - 2 := by
  unfold cX
  rw [if_neg (by omega), if_neg (by omega), if_neg (by omega), if_pos h2]
theorem cX_2 {k x : Nat} (h1 : 74 ≤ x) (h2 : x < 138) : cX k x ↔ k ≤ 72 + 64 * (x - 74) := by
  unfold cX
  rw [if_neg (by omega), if_neg (by omega), if_neg (by omega), if_neg (by omega), if_pos h2]
theorem cX_3 {k x : Nat} (h1 : 138 ≤ x) : cX k x ↔ k ≤ x - 66 := by
  unfold cX
  rw [if_neg (by omega), if_neg (by omega), if_neg (by omega), if_neg (by omega), if_neg (by omega)]
theorem po_10 {l : Nat} (h : l < 64) : po i (10 + l) = 2 * l := by
  unfold po
  rw [if_neg (by omega), if_neg (by omega), if_neg (by omega), if_pos (by omega), Nat.add_sub_cancel_left]
theorem po_74 {l : Nat} (h : l < 64) : po i (74 + l) = 2 * l := by
  unfold po
  rw [if_neg (by omega), if_neg (by omega), if_neg (by omega), if_neg (by omega), if_pos (by omega), Nat.add_sub_cancel_left]
theorem po_138 {j l : Nat} (h : l < 64) : po i (138 + 64 * j + l) = 2 * l := by
  unfold po
  rw [if_neg (by omega), if_neg (by omega), if_neg (by omega), if_neg (by omega), if_neg (by omega)]
  omega
theorem hx_10 {l : Nat} (h : l < 64) : hx (10 + l) = 8 := if_pos (by omega)
theorem hx_74 {l : Nat} (h : l < 64) : hx (74 + l) = 9 := (if_neg (by omega)).trans (if_pos (by omega))
theorem hx_138 {j l : Nat} (h : l < 64) : hx (138 + 64 * j + l) = 74 + j := by
  unfold hx
  rw [if_neg (by omega), if_neg (by omega)]
  omega
end PVQ
