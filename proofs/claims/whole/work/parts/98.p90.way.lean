/-! ===== pure: where a path leads ===== -/
section PXQ
variable {N B gr : Nat} {V : Nat → Rw} {m : M5} {tk : Nat → Bool}
/-- the first n names lead to i -/
def Way (V : Nat → Rw) (tp : Nat → Int32) (st ln : Nat → Nat) : Nat → Nat → Prop
  | 0, i => i = 1
  | n + 1, i => ∃ d s, Way V tp st ln n d ∧ ir d ∧ f1 V d 0 = 2 ∧ s < szM V d / 16 ∧ sfM V tp d (st n) (ln n) (szM V d / 16) 0 = nI s ∧ sln V d s = i ∧ i ≠ 0
theorem Way.inj {tp : Nat → Int32} {st ln : Nat → Nat} (hw : WF N V) : ∀ {n i j : Nat}, Way V tp st ln n i → Way V tp st ln n j → i = j := by
  intro n
  induction n with
  | zero => intro i j a b; exact a.trans b.symm
  | succ n ih =>
    intro i j ⟨d, s, a1, a2, a3, a4, a5, a6, a7⟩ ⟨e, t, b1, b2, b3, b4, b5, b6, b7⟩
    have q := ih a1 b1
    subst q
    rw [a5] at b5
    have hz := hw.dsz a2
    have q := nI_inj (by omega) (by omega) b5
    rw [← a6, ← b6, q]
theorem Way.lo {tp : Nat → Int32} {st ln : Nat → Nat} : ∀ {n j t : Nat}, j ≤ n → Way V tp st ln n t → ∃ i, Way V tp st ln j i := by
  intro n
  induction n with
  | zero => intro j t hj h; rw [Nat.le_zero.mp hj]; exact ⟨t, h⟩
  | succ n ih =>
    intro j t hj h
    by_cases c : j = n + 1
    · rw [c]; exact ⟨t, h⟩
    · obtain ⟨d, s, h1, -⟩ := h
      exact ih (by omega) h1
theorem Way.stuck (hw : WF N V) {tp : Nat → Int32} {st ln : Nat → Nat} {j i n t : Nat} (h : Way V tp st ln j i) (hs : ∀ s, ¬ (s < szM V i / 16 ∧ sfM V tp i (st j) (ln j) (szM V i / 16) 0 = nI s)) (hj : j < n) (hn : Way V tp st ln n t) : False := by
  obtain ⟨t', d, s, h1, h2, h3, h4, h5, h6, h7⟩ := Way.lo (show j + 1 ≤ n by omega) hn
  have q := Way.inj hw h h1
  subst q
  exact hs s ⟨h4, h5⟩
theorem Way.stuck2 (hw : WF N V) {tp : Nat → Int32} {st ln : Nat → Nat} {j i n t : Nat} (h : Way V tp st ln j i) (hs : f1 V i 0 ≠ 2) (hj : j < n) (hn : Way V tp st ln n t) : False := by
  obtain ⟨t', d, s, h1, h2, h3, h4, h5, h6, h7⟩ := Way.lo (show j + 1 ≤ n by omega) hn
  have q := Way.inj hw h h1
  subst q
  exact hs h3
/-- where one stands, one came by directories -/
theorem Way.dir (hw : WF N V) {tp : Nat → Int32} {st ln : Nat → Nat} {j i n t : Nat} (h : Way V tp st ln j i) (hj : j < n) (hn : Way V tp st ln n t) : f1 V i 0 = 2 ∧ ∃ s, s < szM V i / 16 ∧ sfM V tp i (st j) (ln j) (szM V i / 16) 0 = nI s := by
  obtain ⟨t', d, s, h1, h2, h3, h4, h5, h6, h7⟩ := Way.lo (show j + 1 ≤ n by omega) hn
  have q := Way.inj hw h h1
  subst q
  exact ⟨h3, s, h4, h5⟩
theorem j_way47_l {A : MS} {D D2 : CfT} {R : RfT} {tp : Nat → Int32} {k n : Nat} {st ln : Nat → Nat} (hN1 : 61 ≤ N) (hN : N ≤ 1024) (h : JX N B gr A D R m V tk) (hw : WF N V) (ht : TpR D2 R tp) (hC : PthC47 D2 k st ln) (hP : PthR R 0 k st ln) (hS : NmS tp k st ln) (hn : n ≤ k) : ∀ (f1m f2m j i : Nat) (g : Nat → Int32), j ≤ n → n - j < f1m → n - j < f2m → Fnd V i → Way V tp st ln j i → ∃ v g', e_walk_5 f2m (setA R 43 g) (nI 0) (nI n) (nI i) (nI j) = some (v, setA R 43 g') ∧ ((v = -1 ∧ d_X4_walk_47_5 N (vA A) D2 f1m (nI n) (nI i) (nI j) = some (-1) ∧ (∀ t, ¬ Way V tp st ln n t) ∧ ∃ x y, x < n ∧ Way V tp st ln x y ∧ f1 V y 0 = 2 ∧ ∀ s, ¬ (s < szM V y / 16 ∧ sfM V tp y (st x) (ln x) (szM V y / 16) 0 = nI s)) ∨ (v = -3 ∧ d_X4_walk_47_5 N (vA A) D2 f1m (nI n) (nI i) (nI j) = some (-3) ∧ (∀ t, ¬ Way V tp st ln n t) ∧ ∃ x y, x < n ∧ Way V tp st ln x y ∧ f1 V y 0 ≠ 2) ∨ ∃ t, Fnd V t ∧ Way V tp st ln n t ∧ v = nI t ∧ d_X4_walk_47_5 N (vA A) D2 f1m (nI n) (nI i) (nI j) = some (if n = k ∨ f1 V t 0 = 2 then nI t else -3)) := by
  intro f1m
  induction f1m with
  | zero => intro f2m j i g _ hf; exact absurd hf (Nat.not_lt_zero _)
  | succ f1m ih =>
    intro f2m j i g hj hf1 hf2 hi hwy
    obtain ⟨f2, rfl⟩ : ∃ f2, f2m = f2 + 1 := ⟨f2m - 1, by omega⟩
    have hg : JX N B gr A D (setA R 43 g) m V tk := h.a43
    have hk16 := hC.2.1
    obtain ⟨k1, k2⟩ := j_kind (D2 := D2) hN1 hN hg hi.1
    have hf1lt := f1_lt V i 0
    rw [d_X4_walk_47_5, e_walk_5]
    by_cases c : j = n
    · rw [c, if_pos (nI_le (Nat.le_refl _) (by omega)), if_pos (nI_le (Nat.le_refl _) (by omega))]
      rw [c] at hwy
      refine ⟨_, g, rfl, Or.inr (Or.inr ⟨i, hi, hwy, rfl, ?_⟩)⟩
      rw [hC.1]
      by_cases ck : n = k
      · rw [if_pos (nI_le (by omega) (by omega)), if_pos (Or.inl ck)]
      · rw [if_neg (nI_ge (by omega) (by omega)), bnd_o k1]
        by_cases c2 : f1 V i 0 = 2
        · rw [if_pos (by rw [c2]; rfl), if_pos (Or.inr c2)]
        · rw [if_neg (show ¬ nI (f1 V i 0) = (2 : Int32) from fun z => c2 (nI_inj (b := 2) (by omega) (by decide) z)), if_neg (fun z => z.elim ck c2)]
    · rw [if_neg (nI_ge (by omega) (by omega)), if_neg (nI_ge (by omega) (by omega)), bnd_o k1, bnd_o k2]
      by_cases c2 : f1 V i 0 = 2
      · have e2 : nI (f1 V i 0) = (2 : Int32) := by
          rw [c2]
          rfl
        obtain ⟨g2, s1, s2⟩ := j_slotOf47 (D2 := D2) (R := setA R 43 g) hN1 hN hg hw hi.1 c2 ht hC hP hS (show j < k by omega)
        obtain ⟨p1, p2⟩ := hP j (by omega)
        have r50 : rA (setA R 43 g) 50 = rA R 50 := rfl
        have r51 : rA (setA R 43 g) 51 = rA R 51 := rfl
        rw [if_pos e2, if_pos e2, bnd_o s1, nI_add, ld_n (show 0 + j < 32 by omega) (by decide), r50, p1, ld_n (show 0 + j < 32 by omega) (by decide), r51, p2, bnd2_o s2, setA_A]
        have hdz := hw.dsz hi.1
        rcases sfM_o (tp := tp) (st := st j) (ln := ln j) hw.1 hN1 hi.1 (show szM V i / 16 < 2 ^ 31 by omega) (hw.db hi.1 c2) (szM V i / 16) 0 (by omega) with q | ⟨t, t1, t2, t3, t4⟩
        · rw [q, if_pos rfl, if_pos rfl]
          have nos : ∀ s, ¬ (s < szM V i / 16 ∧ sfM V tp i (st j) (ln j) (szM V i / 16) 0 = nI s) := fun s hs => by
            rw [q] at hs
            have := hs.1
            exact nI_m1 (by omega) hs.2.symm
          exact ⟨-1, g2, rfl, Or.inl ⟨rfl, rfl, fun t z => Way.stuck hw hwy nos (by omega) z, j, i, by omega, hwy, c2, nos⟩⟩
        · have hfn := hw.fnd hi.1 c2 t2 t4
          rw [t3, if_neg (nI_m1 (by omega)), if_neg (nI_m1 (by omega)), bnd_o (c_sl2 hN1 hN h.1 hw hi.1 c2 t2), bnd_o (z_sl2 hN1 hN (h.a43 (g := g2)).2 hw hi.1 c2 t2), nI_1]
          exact ih f2 (j + 1) (sln V i t) g2 (by omega) (by omega) (by omega) hfn ⟨i, t, hwy, hi.1, c2, t2, t3, rfl, t4⟩
      · have e2 : ¬ nI (f1 V i 0) = (2 : Int32) := fun z => c2 (nI_inj (b := 2) (by omega) (by decide) z)
        rw [if_neg e2, if_neg e2]
        exact ⟨-3, g, rfl, Or.inr (Or.inl ⟨rfl, rfl, fun t z => Way.stuck2 hw hwy c2 (by omega) z, j, i, by omega, hwy, c2⟩)⟩
theorem j_way47 {A : MS} {D D2 : CfT} {R : RfT} {tp : Nat → Int32} {k n : Nat} {st ln : Nat → Nat} (hN1 : 61 ≤ N) (hN : N ≤ 1024) (h : JX N B gr A D R m V tk) (hw : WF N V) (ht : TpR D2 R tp) (hC : PthC47 D2 k st ln) (hP : PthR R 0 k st ln) (hS : NmS tp k st ln) (hn : n ≤ k) : ∃ v g', e_walk R (nI 0) (nI n) = some (v, setA R 43 g') ∧ ((v = -1 ∧ d_X4_walk_47 N (vA A) D2 (nI n) = some (-1) ∧ (∀ t, ¬ Way V tp st ln n t) ∧ ∃ x y, x < n ∧ Way V tp st ln x y ∧ f1 V y 0 = 2 ∧ ∀ s, ¬ (s < szM V y / 16 ∧ sfM V tp y (st x) (ln x) (szM V y / 16) 0 = nI s)) ∨ (v = -3 ∧ d_X4_walk_47 N (vA A) D2 (nI n) = some (-3) ∧ (∀ t, ¬ Way V tp st ln n t) ∧ ∃ x y, x < n ∧ Way V tp st ln x y ∧ f1 V y 0 ≠ 2) ∨ ∃ t, Fnd V t ∧ Way V tp st ln n t ∧ v = nI t ∧ d_X4_walk_47 N (vA A) D2 (nI n) = some (if n = k ∨ f1 V t 0 = 2 then nI t else -3)) := by
  have hk16 := hC.2.1
  have q := j_way47_l (D2 := D2) hN1 hN h hw ht hC hP hS hn fuL fuL 0 1 (rA R 43) (Nat.zero_le _) (by rw [fuL_4]; omega) (by rw [fuL_4]; omega) hw.root rfl
  rw [setA_id] at q
  exact q
/-- the directory of the last name -/
theorem j_up47 {A : MS} {D D2 : CfT} {R : RfT} {tp : Nat → Int32} {k t : Nat} {st ln : Nat → Nat} (hN1 : 61 ≤ N) (hN : N ≤ 1024) (h : JX N B gr A D R m V tk) (hw : WF N V) (ht : TpR D2 R tp) (hC : PthC47 D2 k st ln) (hP : PthR R 0 k st ln) (hS : NmS tp k st ln) (hk1 : 1 ≤ k) (hwy : Way V tp st ln k t) : ∃ d s g1 g2, Fnd V d ∧ f1 V d 0 = 2 ∧ s < szM V d / 16 ∧ sln V d s = t ∧ t ≠ 0 ∧ e_walk R (nI 0) (nI (k - 1)) = some (nI d, setA R 43 g1) ∧ d_X4_walk_47 N (vA A) D2 (nI (k - 1)) = some (nI d) ∧ d_X4_slotOf_47 N (vA A) D2 (nI d) (nI (k - 1)) = some (nI s) ∧ e_slotOf (setA R 43 g1) (nI d) (nI (st (k - 1))) (nI (ln (k - 1))) = some (nI s, setA R 43 g2) ∧ Way V tp st ln (k - 1) d := by
  obtain ⟨k, rfl⟩ : ∃ x, k = x + 1 := ⟨k - 1, by omega⟩
  obtain ⟨d, s, w1, w2, w3, w4, w5, w6, w7⟩ := hwy
  rw [Nat.add_sub_cancel]
  obtain ⟨v, g1, e1, e2⟩ := j_way47 (D2 := D2) (n := k) hN1 hN h hw ht hC hP hS (by omega)
  rcases e2 with ⟨-, -, q, -⟩ | ⟨-, -, q, -⟩ | ⟨t', q1, q2, q3, q4⟩
  · exact absurd w1 (q d)
  · exact absurd w1 (q d)
  · have e : t' = d := Way.inj hw q2 w1
    rw [e] at q1 q3 q4
    rw [if_pos (Or.inr w3)] at q4
    obtain ⟨g2, s1, s2⟩ := j_slotOf47 (D2 := D2) (R := setA R 43 g1) (j := k) hN1 hN h.a43 hw w2 w3 ht hC hP hS (by omega)
    rw [w5, setA_A] at s2
    rw [w5] at s1
    exact ⟨d, s, g1, g2, q1, w3, w4, w6, w7, by rw [e1, q3], q4, s1, s2, w1⟩
theorem j_way50_l {A : MS} {D D2 : CfT} {R : RfT} {tp : Nat → Int32} {k n : Nat} {st ln : Nat → Nat} (hN1 : 61 ≤ N) (hN : N ≤ 1024) (h : JX N B gr A D R m V tk) (hw : WF N V) (ht : TpR D2 R tp) (hC : PthC50 D2 k st ln) (hP : PthR R 16 k st ln) (hS : NmS tp k st ln) (hn : n ≤ k) : ∀ (f1m f2m j i : Nat) (g : Nat → Int32), j ≤ n → n - j < f1m → n - j < f2m → Fnd V i → Way V tp st ln j i → ∃ v g', e_walk_5 f2m (setA R 43 g) (nI 16) (nI n) (nI i) (nI j) = some (v, setA R 43 g') ∧ ((v = -1 ∧ d_X4_walk_50_5 N (vA A) D2 f1m (nI n) (nI i) (nI j) = some (-1) ∧ (∀ t, ¬ Way V tp st ln n t) ∧ ∃ x y, x < n ∧ Way V tp st ln x y ∧ f1 V y 0 = 2 ∧ ∀ s, ¬ (s < szM V y / 16 ∧ sfM V tp y (st x) (ln x) (szM V y / 16) 0 = nI s)) ∨ (v = -3 ∧ d_X4_walk_50_5 N (vA A) D2 f1m (nI n) (nI i) (nI j) = some (-3) ∧ (∀ t, ¬ Way V tp st ln n t) ∧ ∃ x y, x < n ∧ Way V tp st ln x y ∧ f1 V y 0 ≠ 2) ∨ ∃ t, Fnd V t ∧ Way V tp st ln n t ∧ v = nI t ∧ d_X4_walk_50_5 N (vA A) D2 f1m (nI n) (nI i) (nI j) = some (if n = k ∨ f1 V t 0 = 2 then nI t else -3)) := by
  intro f1m
  induction f1m with
  | zero => intro f2m j i g _ hf; exact absurd hf (Nat.not_lt_zero _)
  | succ f1m ih =>
    intro f2m j i g hj hf1 hf2 hi hwy
    obtain ⟨f2, rfl⟩ : ∃ f2, f2m = f2 + 1 := ⟨f2m - 1, by omega⟩
    have hg : JX N B gr A D (setA R 43 g) m V tk := h.a43
    have hk16 := hC.2.1
    obtain ⟨k1, k2⟩ := j_kind (D2 := D2) hN1 hN hg hi.1
    have hf1lt := f1_lt V i 0
    rw [d_X4_walk_50_5, e_walk_5]
    by_cases c : j = n
    · rw [c, if_pos (nI_le (Nat.le_refl _) (by omega)), if_pos (nI_le (Nat.le_refl _) (by omega))]
      rw [c] at hwy
      refine ⟨_, g, rfl, Or.inr (Or.inr ⟨i, hi, hwy, rfl, ?_⟩)⟩
      rw [hC.1]
      by_cases ck : n = k
      · rw [if_pos (nI_le (by omega) (by omega)), if_pos (Or.inl ck)]
      · rw [if_neg (nI_ge (by omega) (by omega)), bnd_o k1]
        by_cases c2 : f1 V i 0 = 2
        · rw [if_pos (by rw [c2]; rfl), if_pos (Or.inr c2)]
        · rw [if_neg (show ¬ nI (f1 V i 0) = (2 : Int32) from fun z => c2 (nI_inj (b := 2) (by omega) (by decide) z)), if_neg (fun z => z.elim ck c2)]
    · rw [if_neg (nI_ge (by omega) (by omega)), if_neg (nI_ge (by omega) (by omega)), bnd_o k1, bnd_o k2]
      by_cases c2 : f1 V i 0 = 2
      · have e2 : nI (f1 V i 0) = (2 : Int32) := by
          rw [c2]
          rfl
        obtain ⟨g2, s1, s2⟩ := j_slotOf50 (D2 := D2) (R := setA R 43 g) hN1 hN hg hw hi.1 c2 ht hC hP hS (show j < k by omega)
        obtain ⟨p1, p2⟩ := hP j (by omega)
        have r50 : rA (setA R 43 g) 50 = rA R 50 := rfl
        have r51 : rA (setA R 43 g) 51 = rA R 51 := rfl
        rw [if_pos e2, if_pos e2, bnd_o s1, nI_add, ld_n (show 16 + j < 32 by omega) (by decide), r50, p1, ld_n (show 16 + j < 32 by omega) (by decide), r51, p2, bnd2_o s2, setA_A]
        have hdz := hw.dsz hi.1
        rcases sfM_o (tp := tp) (st := st j) (ln := ln j) hw.1 hN1 hi.1 (show szM V i / 16 < 2 ^ 31 by omega) (hw.db hi.1 c2) (szM V i / 16) 0 (by omega) with q | ⟨t, t1, t2, t3, t4⟩
        · rw [q, if_pos rfl, if_pos rfl]
          have nos : ∀ s, ¬ (s < szM V i / 16 ∧ sfM V tp i (st j) (ln j) (szM V i / 16) 0 = nI s) := fun s hs => by
            rw [q] at hs
            have := hs.1
            exact nI_m1 (by omega) hs.2.symm
          exact ⟨-1, g2, rfl, Or.inl ⟨rfl, rfl, fun t z => Way.stuck hw hwy nos (by omega) z, j, i, by omega, hwy, c2, nos⟩⟩
        · have hfn := hw.fnd hi.1 c2 t2 t4
          rw [t3, if_neg (nI_m1 (by omega)), if_neg (nI_m1 (by omega)), bnd_o (c_sl2 hN1 hN h.1 hw hi.1 c2 t2), bnd_o (z_sl2 hN1 hN (h.a43 (g := g2)).2 hw hi.1 c2 t2), nI_1]
          exact ih f2 (j + 1) (sln V i t) g2 (by omega) (by omega) (by omega) hfn ⟨i, t, hwy, hi.1, c2, t2, t3, rfl, t4⟩
      · have e2 : ¬ nI (f1 V i 0) = (2 : Int32) := fun z => c2 (nI_inj (b := 2) (by omega) (by decide) z)
        rw [if_neg e2, if_neg e2]
        exact ⟨-3, g, rfl, Or.inr (Or.inl ⟨rfl, rfl, fun t z => Way.stuck2 hw hwy c2 (by omega) z, j, i, by omega, hwy, c2⟩)⟩
theorem j_way50 {A : MS} {D D2 : CfT} {R : RfT} {tp : Nat → Int32} {k n : Nat} {st ln : Nat → Nat} (hN1 : 61 ≤ N) (hN : N ≤ 1024) (h : JX N B gr A D R m V tk) (hw : WF N V) (ht : TpR D2 R tp) (hC : PthC50 D2 k st ln) (hP : PthR R 16 k st ln) (hS : NmS tp k st ln) (hn : n ≤ k) : ∃ v g', e_walk R (nI 16) (nI n) = some (v, setA R 43 g') ∧ ((v = -1 ∧ d_X4_walk_50 N (vA A) D2 (nI n) = some (-1) ∧ (∀ t, ¬ Way V tp st ln n t) ∧ ∃ x y, x < n ∧ Way V tp st ln x y ∧ f1 V y 0 = 2 ∧ ∀ s, ¬ (s < szM V y / 16 ∧ sfM V tp y (st x) (ln x) (szM V y / 16) 0 = nI s)) ∨ (v = -3 ∧ d_X4_walk_50 N (vA A) D2 (nI n) = some (-3) ∧ (∀ t, ¬ Way V tp st ln n t) ∧ ∃ x y, x < n ∧ Way V tp st ln x y ∧ f1 V y 0 ≠ 2) ∨ ∃ t, Fnd V t ∧ Way V tp st ln n t ∧ v = nI t ∧ d_X4_walk_50 N (vA A) D2 (nI n) = some (if n = k ∨ f1 V t 0 = 2 then nI t else -3)) := by
  have hk16 := hC.2.1
  have q := j_way50_l (D2 := D2) hN1 hN h hw ht hC hP hS hn fuL fuL 0 1 (rA R 43) (Nat.zero_le _) (by rw [fuL_4]; omega) (by rw [fuL_4]; omega) hw.root rfl
  rw [setA_id] at q
  exact q
/-- the directory of the last name -/
theorem j_up50 {A : MS} {D D2 : CfT} {R : RfT} {tp : Nat → Int32} {k t : Nat} {st ln : Nat → Nat} (hN1 : 61 ≤ N) (hN : N ≤ 1024) (h : JX N B gr A D R m V tk) (hw : WF N V) (ht : TpR D2 R tp) (hC : PthC50 D2 k st ln) (hP : PthR R 16 k st ln) (hS : NmS tp k st ln) (hk1 : 1 ≤ k) (hwy : Way V tp st ln k t) : ∃ d s g1 g2, Fnd V d ∧ f1 V d 0 = 2 ∧ s < szM V d / 16 ∧ sln V d s = t ∧ t ≠ 0 ∧ e_walk R (nI 16) (nI (k - 1)) = some (nI d, setA R 43 g1) ∧ d_X4_walk_50 N (vA A) D2 (nI (k - 1)) = some (nI d) ∧ d_X4_slotOf_50 N (vA A) D2 (nI d) (nI (k - 1)) = some (nI s) ∧ e_slotOf (setA R 43 g1) (nI d) (nI (st (k - 1))) (nI (ln (k - 1))) = some (nI s, setA R 43 g2) ∧ Way V tp st ln (k - 1) d := by
  obtain ⟨k, rfl⟩ : ∃ x, k = x + 1 := ⟨k - 1, by omega⟩
  obtain ⟨d, s, w1, w2, w3, w4, w5, w6, w7⟩ := hwy
  rw [Nat.add_sub_cancel]
  obtain ⟨v, g1, e1, e2⟩ := j_way50 (D2 := D2) (n := k) hN1 hN h hw ht hC hP hS (by omega)
  rcases e2 with ⟨-, -, q, -⟩ | ⟨-, -, q, -⟩ | ⟨t', q1, q2, q3, q4⟩
  · exact absurd w1 (q d)
  · exact absurd w1 (q d)
  · have e : t' = d := Way.inj hw q2 w1
    rw [e] at q1 q3 q4
    rw [if_pos (Or.inr w3)] at q4
    obtain ⟨g2, s1, s2⟩ := j_slotOf50 (D2 := D2) (R := setA R 43 g1) (j := k) hN1 hN h.a43 hw w2 w3 ht hC hP hS (by omega)
    rw [w5, setA_A] at s2
    rw [w5] at s1
    exact ⟨d, s, g1, g2, q1, w3, w4, w6, w7, by rw [e1, q3], q4, s1, s2, w1⟩
end PXQ
