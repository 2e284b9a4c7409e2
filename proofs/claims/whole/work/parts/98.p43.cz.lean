/-! ===== pure: the class cuts blocks ===== -/
section PVT
variable {N B gr : Nat} {V : Nat → Rw} {i : Nat} {m : M5} {tk : Nat → Bool} {X : Nat → Prop}
def bfM (s : Nat) : Nat := (s + 127) / 128
def lbM (p : Nat) : Nat := if p < 8 then 7 else p - (p - 8) % 64 + 63
def tsM (p k : Nat) : Bool := decide (p < 8 ∨ ¬ k ≤ p - (p - 8) % 64)
theorem d_bF {W : Nat → Rw} {D : CfT} {s : Nat} (hs : s < 2 ^ 30) : d_X7_blocksFor N W D (nI s) = some (nI (bfM s)) := by
  rw [d_X7_blocksFor, show (128 : Int32) = nI 128 from rfl, nI_add, i1_sub (by omega), pk_div (by omega) (by decide) (by decide)]
  unfold bfM
  rw [show s + 128 - 1 = s + 127 by omega]
theorem d_lB {W : Nat → Rw} {D : CfT} {p : Nat} (hp : p < 2 ^ 30) : d_X7_lastBeside N W D (nI p) = some (nI (lbM p)) := by
  rw [d_X7_lastBeside]
  unfold lbM
  by_cases c : p < 8
  · rw [if_neg (show ¬ (8 : Int32) ≤ nI p from nI_ge (b := 8) c (by decide)), if_pos c]
    rfl
  · rw [if_pos (show (8 : Int32) ≤ nI p from nI_le (a := 8) (by omega) (by omega)), if_neg c, show (8 : Int32) = nI 8 from rfl, show (64 : Int32) = nI 64 from rfl, pk_sub (by omega), pk_div (by omega) (by decide) (by decide), pk_mul, pk_sub (by omega), n_rem, pk_sub (by omega), nI_add, i1_sub (by omega)]
    congr 2
theorem d_tS {W : Nat → Rw} {D : CfT} {p k : Nat} (hp : p < 2 ^ 30) (hk : k < 2 ^ 30) : d_X7_tableStays N W D (nI p) (nI k) = some (bI (tsM p k)) := by
  rw [d_X7_tableStays]
  unfold tsM
  by_cases c : p < 8
  · rw [if_pos (show nI p < (8 : Int32) from nI_lt (b := 8) c (by decide)), decide_eq_true (show p < 8 ∨ ¬ k ≤ p - (p - 8) % 64 from Or.inl c)]
    rfl
  · rw [if_neg (show ¬ nI p < (8 : Int32) from fun z => absurd (nI_le (a := 8) (b := p) (by omega) (by omega)) (Int32.not_le.mpr z)), show (8 : Int32) = nI 8 from rfl, show (64 : Int32) = nI 64 from rfl, pk_sub (by omega), pk_div (by omega) (by decide) (by decide), pk_mul, pk_sub (by omega), n_rem, pk_sub (by omega)]
    by_cases c2 : k ≤ p - (p - 8) % 64
    · rw [if_pos (nI_le c2 (by omega)), decide_eq_false (show ¬ (p < 8 ∨ ¬ k ≤ p - (p - 8) % 64) by omega)]
      rfl
    · rw [if_neg (nI_ge (by omega) (by omega)), decide_eq_true (show p < 8 ∨ ¬ k ≤ p - (p - 8) % 64 from Or.inr c2)]
      rfl
theorem d_sp {W : Nat → Rw} {D : CfT} {p : Nat} (h1 : 1 ≤ i) (h2 : i ≤ 64) (hp : p < 4168) : d_X7_spot N W D (nI i) (nI p) = some (nI (po i (px p))) := by
  have hl : 1 ≤ levM p ∧ levM p ≤ 3 := by
    unfold levM
    split
    · exact ⟨by decide, by decide⟩
    · split
      · exact ⟨by decide, by decide⟩
      · exact ⟨by decide, by decide⟩
  rw [d_X7_spot, bnd_o (d_levels (by omega)), i1_sub (by omega), bnd_o (d_offset (by omega) (by omega))]
  unfold po px
  by_cases c : p < 8
  · rw [if_neg (show ¬ (8 : Int32) ≤ nI p from nI_ge (b := 8) c (by decide)), bnd_o (d_start h1 (by omega)), nI_add, if_pos c, if_pos c, lev_1 c]
    unfold offM
    rw [if_pos c]
    congr 2
    omega
  · rw [if_pos (show (8 : Int32) ≤ nI p from nI_le (a := 8) (by omega) (by omega)), if_neg c, show (0 : Int32) = nI 0 from rfl, nI_add, Nat.add_zero]
    by_cases c2 : p < 72
    · rw [if_pos c2, lev_2 c c2, (off_a c c2).2, if_neg (show ¬ p + 2 < 8 by omega), if_neg (show ¬ p + 2 = 8 by omega), if_neg (show ¬ p + 2 = 9 by omega), if_pos (show p + 2 < 74 by omega)]
      congr 2
    · rw [if_neg c2, lev_3 c2, (off_b c2).2.2, if_neg (show ¬ p + 66 < 8 by omega), if_neg (show ¬ p + 66 = 8 by omega), if_neg (show ¬ p + 66 = 9 by omega), if_neg (show ¬ p + 66 < 74 by omega), if_neg (show ¬ p + 66 < 138 by omega)]
      congr 2
def CZ (N : Nat) (A : MS) (D : CfT) (m : M5) (V : Nat → Rw) (tk : Nat → Bool) (i : Nat) (X S : Nat → Prop) : Prop := ∃ m' V' tk', (CX N A D m' V' tk' ∧ OwS A (GH V i)) ∧ ZI N m V tk i X S m' V' tk'
theorem CZ.skip {A : MS} {D : CfT} {S : Nat → Prop} (h : CZ N A D m V tk i X S) {x : Nat} (hX : X x) (h0 : pv V i x = 0) : CZ N A D m V tk i X (fun y => S y ∨ y = x) := by
  obtain ⟨m', V', tk', h1, h2⟩ := h
  exact ⟨m', V', tk', h1, h2.skip hX h0⟩
theorem CZ.eq {A : MS} {D : CfT} {S S2 : Nat → Prop} (h : CZ N A D m V tk i X S) (e : ∀ x, x < 4234 → pv V i x ≠ 0 → (S x ↔ S2 x)) (hX : ∀ x, S2 x → X x) : CZ N A D m V tk i X S2 := by
  obtain ⟨m', V', tk', h1, h2⟩ := h
  exact ⟨m', V', tk', h1, h2.eq e hX⟩
theorem CZ.at {A : MS} {D : CfT} {S : Nat → Prop} (C : CutH N V i) (h : CZ N A D m V tk i X S) {x : Nat} (hx4 : x < 4234) (hS : ¬ S x) (hh : 10 ≤ x → ¬ S (hx x)) (h0 : ph V i x ≠ 0) : n2 (vA A (ph V i x)) (po i x) = pv V i x ∧ 44 ≤ ph V i x ∧ ph V i x < N := by
  obtain ⟨c1, c2, c3, c4, c5, c6, c7⟩ := C
  obtain ⟨m', V', tk', h1, h2⟩ := h
  obtain ⟨t1, t2, t3, t4, t5⟩ := h2.at c1 c2 c4 c5 c7 hx4 hS hh h0
  rw [h1.1.see (by omega) t2 t4]
  exact ⟨t5, t1, t2⟩
theorem CZ.used {A : MS} {D : CfT} {S : Nat → Prop} (C : CutH N V i) (h : CZ N A D m V tk i X S) {x : Nat} (hx4 : x < 4234) (hS : ¬ S x) (h0 : pv V i x ≠ 0) : ∃ m' V' tk', (CX N A D m' V' tk' ∧ OwS A (GH V i)) ∧ ZI N m V tk i X S m' V' tk' ∧ btM (V' 43) (pv V i x) = 1 := by
  obtain ⟨c1, c2, c3, c4, c5, c6, c7⟩ := C
  obtain ⟨m', V', tk', h1, h2⟩ := h
  refine ⟨m', V', tk', h1, h2, ?_⟩
  obtain ⟨-, Z, ⟨a1, a2, a3, a4, a5, a6⟩, -⟩ := h2
  have hp := (c7.1 x hx4).resolve_left h0
  rw [(a6 _ (by omega)).2 (fun ⟨_, y, y1, y2, y3⟩ => hS (by
    have := c7.2 x y hx4 y1 h0 y3.symm
    rw [this]
    exact y2))]
  exact hp.2.2
theorem CZ.cut {A : MS} {D : CfT} {S : Nat → Prop} (C : CutH N V i) (h : CZ N A D m V tk i X S) {x : Nat} (hx4 : x < 4234) (hX : X x) (hS : ¬ S x) (h0 : pv V i x ≠ 0) (hf : FSx V i X (ph V i x)) : ∃ A' D', d_X10_loosen N A D (nI (pv V i x)) = some (A', D') ∧ CZ N A' D' m V tk i X (fun y => S y ∨ y = x) ∧ gA A' = gA A ∧ Dt D D' := by
  obtain ⟨m', V', tk', h1, h2, hu⟩ := h.used C hx4 hS h0
  obtain ⟨c1, c2, c3, c4, c5, c6, c7⟩ := C
  have hp := (c7.1 x hx4).resolve_left h0
  obtain ⟨A', D', e, y, g, t⟩ := c_loosen c2 h1.1 hp.1 hp.2.1 hu
  exact ⟨A', D', e, ⟨_, _, _, ⟨y, ow_loosen e h1.2 (Or.inr (Or.inl rfl))⟩, h2.cut c2 c7 hx4 hX h0 hf⟩, g, t⟩
theorem CZ.cutZ {A : MS} {D : CfT} {S : Nat → Prop} (C : CutH N V i) (h : CZ N A D m V tk i X S) {x : Nat} (hx4 : x < 4234) (hX : X x) (hS : ¬ S x) (hh : 10 ≤ x → ¬ S (hx x)) (h0 : pv V i x ≠ 0) : ∃ A1 D1 A2 D2 A3, d_X10_loosen N A D (nI (pv V i x)) = some (A1, D1) ∧ owB N A1 D1 (nI (ph V i x)) = some (A2, D2) ∧ s2O N A2 (ph V i x) (nI (po i x)) 0 = some A3 ∧ CZ N A3 D2 m V tk i X (fun y => S y ∨ y = x) ∧ gA A3 = gA A ∧ Dt D D2 := by
  obtain ⟨m', V', tk', h1, h2, hu⟩ := h.used C hx4 hS h0
  obtain ⟨c1, c2, c3, c4, c5, c6, c7⟩ := C
  have hp := (c7.1 x hx4).resolve_left h0
  have hp0 : ph V i x ≠ 0 := fun z => h0 (by rw [pv_at hx4, if_pos z])
  obtain ⟨t1, t2, t3, t4, t5⟩ := h2.at c1 c2 c4 c5 c7 hx4 hS hh hp0
  obtain ⟨A1, D1, e, y, g, t⟩ := c_loosen c2 h1.1 hp.1 hp.2.1 hu
  have hne : ph V i x ≠ pv V i x := fun z => by
    by_cases c : x < 10
    · rw [ph_0 c] at z
      have := homeM_lt c4
      omega
    · rw [ph_hx (by omega) hx4] at z
      have hl := hx_lt hx4
      have e := c7.2 x (hx x) hx4 (by omega) h0 z.symm
      exact hx_ne (by omega) e.symm
  have hu2 : btM (frV m' V' (pv V i x) 43) (ph V i x) = 1 := by
    rw [show frV m' V' (pv V i x) 43 = bsW (V' 43) (pv V i x) false from (vU_n (by omega)).trans vU_s, bt_bs (by omega) (by omega), if_neg hne]
    exact t4
  obtain ⟨A2, D2, e2, y2, o2, g2, d2⟩ := c_own c2 y (show 43 ≤ ph V i x by omega) t2 hu2
  have e3 := c_w2 (N := N) (p := po i x) (v := 0) t2 o2 (po_lt hx4)
  have y3 := c_put (y := nr (wB (frV m' V' (pv V i x) (ph V i x)) (po i x) 0 2)) y2 t1 hu2 o2
  exact ⟨A1, D1, A2, D2, _, e, e2, e3, ⟨_, _, _, ⟨y3, ow_rw e3 (ow_own e2 (ow_loosen e h1.2 (Or.inr (Or.inl rfl))) (by rw [nI_clamp (by omega)]; exact Or.inr (Or.inr ⟨x, hx4, rfl, hp0⟩)))⟩, h2.cutZ c1 c2 c4 c5 c6 c7 hx4 hX hS hh h0 rfl⟩, g2.trans g, t.tr d2⟩
theorem px_inj {p q : Nat} (h : px p = px q) : p = q := by
  unfold px at h
  by_cases a : p < 8
  · rw [if_pos a] at h
    by_cases b : q < 8
    · rw [if_pos b] at h
      exact h
    · rw [if_neg b] at h
      by_cases c : q < 72
      · rw [if_pos c] at h
        omega
      · rw [if_neg c] at h
        omega
  · rw [if_neg a] at h
    by_cases a2 : p < 72
    · rw [if_pos a2] at h
      by_cases b : q < 8
      · rw [if_pos b] at h
        omega
      · rw [if_neg b] at h
        by_cases c : q < 72
        · rw [if_pos c] at h
          omega
        · rw [if_neg c] at h
          omega
    · rw [if_neg a2] at h
      by_cases b : q < 8
      · rw [if_pos b] at h
        omega
      · rw [if_neg b] at h
        by_cases c : q < 72
        · rw [if_pos c] at h
          omega
        · rw [if_neg c] at h
          omega
/-- a number of a table is not a place's -/
def tbx (x : Nat) : Prop := x = 8 ∨ x = 9 ∨ (74 ≤ x ∧ x < 138)
theorem px_tb {p : Nat} : ¬ tbx (px p) := fun z => by
  unfold tbx px at z
  by_cases a : p < 8
  · rw [if_pos a] at z
    omega
  · rw [if_neg a] at z
    by_cases b : p < 72
    · rw [if_pos b] at z
      omega
    · rw [if_neg b] at z
      omega
theorem hx_px {p : Nat} (h : 10 ≤ px p) (h2 : px p < 4234) : tbx (hx (px p)) := by
  unfold hx tbx
  by_cases a : px p < 74
  · rw [if_pos a]
    exact Or.inl rfl
  · rw [if_neg a]
    by_cases b : px p < 138
    · rw [if_pos b]
      exact Or.inr (Or.inl rfl)
    · rw [if_neg b]
      omega
theorem CZ.reach {A : MS} {D D2 : CfT} {S : Nat → Prop} (C : CutH N V i) (h : CZ N A D m V tk i X S) (hS : ∀ x, tbx x → ¬ S x) {p : Nat} (hp : p < 4168) : d_X7_reach N (vA A) D2 (nI i) (nI p) 1 = some (nI (ph V i (px p))) := by
  obtain ⟨c1, c2, c3, c4, c5, c6, c7⟩ := id C
  have hh := homeM_lt c4
  have r0 : ∀ W : Nat → Rw, rcM W i p 0 = homeM i := fun W => rfl
  have r1 : ¬ p < 8 → rcM (vA A) i p 1 = rcM V i p 1 := fun c => by
    rw [rcM_1, rc_1, if_neg c]
    unfold f2
    by_cases c2 : p < 72
    · rw [if_pos c2, (off_a c c2).1]
      exact (h.at C (show 8 < 4234 by decide) (hS 8 (Or.inl rfl)) (fun z => by omega) (homeM_ne i)).1
    · rw [if_neg c2, (off_b c2).1]
      exact (h.at C (show 9 < 4234 by decide) (hS 9 (Or.inr (Or.inl rfl))) (fun z => by omega) (homeM_ne i)).1
  have r2 : ¬ p < 72 → rcM (vA A) i p 2 = rcM V i p 2 := fun c => by
    have e := rcM_s (V := vA A) (i := i) (p := p) (k := 0)
    have e : rcM (vA A) i p 2 = if rcM (vA A) i p 1 = 0 then 0 else n2 (vA A (rcM (vA A) i p 1)) (offM p 1) := e
    rw [e, r1 (by omega), rc_1, if_neg (show ¬ p < 8 by omega), if_neg c, rc_2 (by omega) hp, if_neg c]
    have hj : (p - 72) / 64 < 64 := by omega
    have hph : ph V i (74 + (p - 72) / 64) = pv V i 9 := ph_2 (by omega) (by omega)
    by_cases c0 : pv V i 9 = 0
    · rw [if_pos c0, pv_2 (by omega) (by omega), c0]
      exact (if_pos rfl).symm
    · rw [if_neg c0]
      have q := (h.at C (show 74 + (p - 72) / 64 < 4234 by omega) (hS _ (Or.inr (Or.inr ⟨by omega, by omega⟩))) (fun _ => by rw [hx_74 hj]; exact hS 9 (Or.inr (Or.inl rfl))) (by rw [hph]; exact c0)).1
      rw [hph, po_74 hj] at q
      rw [(off_b c).2.1]
      exact q
  have hpok := c7.1.pok c1 c4 hp
  rw [← hd_ph hp]
  unfold hdM
  by_cases c : p < 8
  · refine Eq.trans (d_reach (N := N) (V := vA A) (D := D2) (a := 1) c3 c4 hp c2 (by rw [lev_1 c]; decide) (fun k hk => by rw [lev_1 c] at hk; omega)) ?_
    rw [lev_1 c]
    rfl
  · by_cases c72 : p < 72
    · refine Eq.trans (d_reach (N := N) (V := vA A) (D := D2) (a := 1) c3 c4 hp c2 (by rw [lev_2 c c72]; decide) (fun k hk => by
        rw [lev_2 c c72] at hk
        rw [show k = 0 by omega]
        show homeM i < N
        omega)) ?_
      rw [lev_2 c c72]
      show some (nI (rcM (vA A) i p 1)) = _
      rw [r1 c]
    · refine Eq.trans (d_reach (N := N) (V := vA A) (D := D2) (a := 1) c3 c4 hp c2 (by rw [lev_3 c72]; decide) (fun k hk => by
        rw [lev_3 c72] at hk
        by_cases ck : k = 0
        · rw [ck]
          show homeM i < N
          omega
        · rw [show k = 1 by omega, r1 c]
          exact hpok.2.1 1 (by rw [lev_3 c72]; decide))) ?_
      rw [lev_3 c72]
      show some (nI (rcM (vA A) i p 2)) = _
      rw [r2 c72]
/-- how many places from a on are no holes -/
def ncM (V : Nat → Rw) (i a : Nat) : Nat → Nat
  | 0 => 0
  | p + 1 => ncM V i a p + if a ≤ p ∧ pv V i (px p) ≠ 0 then 1 else 0
theorem ncM_le {a : Nat} : ∀ p, ncM V i a p ≤ p
  | 0 => Nat.le_refl _
  | p + 1 => by
    have := ncM_le (a := a) p
    show ncM V i a p + (if a ≤ p ∧ pv V i (px p) ≠ 0 then 1 else 0) ≤ p + 1
    split <;> omega
theorem ncM_skip {a p : Nat} : ∀ q, p ≤ q → (∀ x, p ≤ x → x < q → pv V i (px x) = 0) → ncM V i a q = ncM V i a p
  | 0, h, _ => by rw [Nat.le_zero.mp h]
  | q + 1, h, hz => by
    by_cases c : p = q + 1
    · rw [c]
    · show ncM V i a q + (if a ≤ q ∧ pv V i (px q) ≠ 0 then 1 else 0) = _
      rw [ncM_skip q (by omega) (fun x h1 h2 => hz x h1 (by omega)), if_neg (fun z => z.2 (hz q (by omega) (by omega)))]
      rfl
theorem lb_0 {p q : Nat} (hp : p < 4168) (h : ph V i (px p) = 0) (h1 : p ≤ q) (h2 : q ≤ lbM p) : q < 4168 ∧ pv V i (px q) = 0 := by
  have h8 : ¬ p < 8 := fun z => by
    unfold px at h
    rw [if_pos z, ph_0 (by omega)] at h
    exact homeM_ne i h
  unfold lbM at h2
  rw [if_neg h8] at h2
  have hq : q < 4168 := by omega
  refine ⟨hq, ?_⟩
  rw [pv_at (px_lt hq)]
  have e : ph V i (px q) = ph V i (px p) := by
    unfold px
    rw [if_neg h8, if_neg (show ¬ q < 8 by omega)]
    by_cases c : p < 72
    · rw [if_pos c, if_pos (show q < 72 by omega), ph_1 (by omega) (by omega), ph_1 (by omega) (by omega)]
    · rw [if_neg c, if_neg (show ¬ q < 72 by omega), ph_3 (by omega) (by omega), ph_3 (by omega) (by omega)]
      have : (q + 66 - 138) / 64 = (p + 66 - 138) / 64 := by omega
      rw [this]
  rw [e, if_pos h]
end PVT
