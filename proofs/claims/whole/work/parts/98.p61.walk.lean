/-! ===== pure: both walk alike ===== -/
section PWL
variable {N B gr : Nat} {V : Nat → Rw} {m : M5} {tk : Nat → Bool}
theorem nmD_pos {i d s : Nat} (h : sln V d s = i) : ∀ n, s < n → 1 ≤ nmD V i d n
  | 0, hn => absurd hn (Nat.not_lt_zero _)
  | n + 1, hn => by
    show 1 ≤ nmD V i d n + (if sln V d n = i then 1 else 0)
    by_cases c : s = n
    · rw [← c, if_pos h]
      omega
    · have := nmD_pos h n (by omega)
      omega
theorem nmC_pos {i d s : Nat} (hk : f1 V d 0 = 2) (hd : 1 ≤ d) (hs : s < szM V d / 16) (h : sln V d s = i) : ∀ n, d < n → 1 ≤ nmC V i n
  | 0, hn => absurd hn (Nat.not_lt_zero _)
  | n + 1, hn => by
    show 1 ≤ nmC V i n + (if 1 ≤ n ∧ f1 V n 0 = 2 then nmD V i n (szM V n / 16) else 0)
    by_cases c : d = n
    · rw [← c, if_pos ⟨hd, hk⟩]
      have := nmD_pos h (szM V d / 16) hs
      omega
    · have := nmC_pos hk hd hs h n (by omega)
      omega
/-- an inode that is found -/
def Fnd (V : Nat → Rw) (i : Nat) : Prop := ir i ∧ f1 V i 0 ≠ 0 ∧ 1 ≤ f1 V i 1
theorem WF.root (h : WF N V) : Fnd V 1 := ⟨⟨Nat.le_refl _, by decide⟩, by rw [h.2.2.2.2.2.2.1]; decide, by
  have := h.2.2.2.2.2.2.2.1 1 ⟨Nat.le_refl _, by decide⟩
  rw [if_pos rfl] at this
  omega⟩
theorem WF.fnd {d s : Nat} (h : WF N V) (hd : ir d) (hk : f1 V d 0 = 2) (hs : s < szM V d / 16) (h0 : sln V d s ≠ 0) : Fnd V (sln V d s) := by
  obtain ⟨q1, q2⟩ := (h.slot hd hk hs).resolve_left h0
  refine ⟨q1, q2, ?_⟩
  have p := nmC_pos hk hd.1 hs rfl 65 (by have := hd.2; omega)
  have := h.2.2.2.2.2.2.2.1 (sln V d s) q1
  omega
theorem JX.a43 {A : MS} {D : CfT} {R : RfT} {g : Nat → Int32} (h : JX N B gr A D R m V tk) : JX N B gr A D (setA R 43 g) m V tk := ⟨h.1, h.2.a43⟩
theorem z_sl2 {R : RfT} {d s : Nat} (hN1 : 61 ≤ N) (hN : N ≤ 1024) (h : RY N B gr R m V tk) (hw : WF N V) (hd : ir d) (hk : f1 V d 0 = 2) (hs : s < szM V d / 16) : e_slotNumber R (nI d) (nI s) 0 2 = some (nI (sln V d s)) := by
  have hb := hw.dblk hd hk hs
  have ag := sl_ag hw.1 hN1 h.agu hd hb.1 hb.2.1
  rw [z_slot2 h.1.1.lk hd.1 hd.2 (by omega) (pok_1024 hN (pok_ag hw.1 hN1 h.agu hd hb.1))]
  unfold slM
  rw [ag.2]
  rfl
theorem c_sl2 {A : MS} {D D2 : CfT} {d s : Nat} (hN1 : 61 ≤ N) (hN : N ≤ 1024) (h : CX N A D m V tk) (hw : WF N V) (hd : ir d) (hk : f1 V d 0 = 2) (hs : s < szM V d / 16) : d_X4_inodeAt N (vA A) D2 (nI d) (nI s) = some (nI (sln V d s)) := by
  have hb := hw.dblk hd hk hs
  have ag := sl_ag hw.1 hN1 h.agu hd hb.1 hb.2.1
  rw [d_inodeAt hd.1 hd.2 hN (by omega) (pok_ag hw.1 hN1 h.agu hd hb.1)]
  unfold slM
  rw [ag.2]
  rfl
theorem j_walk47_l {A : MS} {D D2 : CfT} {R : RfT} {tp : Nat → Int32} {k n : Nat} {st ln : Nat → Nat} (hN1 : 61 ≤ N) (hN : N ≤ 1024) (h : JX N B gr A D R m V tk) (hw : WF N V) (ht : TpR D2 R tp) (hC : PthC47 D2 k st ln) (hP : PthR R 0 k st ln) (hS : NmS tp k st ln) (hn : n ≤ k) : ∀ (f1m f2m j i : Nat) (g : Nat → Int32), j ≤ n → n - j < f1m → n - j < f2m → Fnd V i → ∃ v g', e_walk_5 f2m (setA R 43 g) (nI 0) (nI n) (nI i) (nI j) = some (v, setA R 43 g') ∧ ((v = -1 ∧ d_X4_walk_47_5 N (vA A) D2 f1m (nI n) (nI i) (nI j) = some (-1)) ∨ (v = -3 ∧ d_X4_walk_47_5 N (vA A) D2 f1m (nI n) (nI i) (nI j) = some (-3)) ∨ ∃ t, Fnd V t ∧ v = nI t ∧ d_X4_walk_47_5 N (vA A) D2 f1m (nI n) (nI i) (nI j) = some (if n = k ∨ f1 V t 0 = 2 then nI t else -3)) := by
  intro f1m
  induction f1m with
  | zero => intro f2m j i g _ hf; exact absurd hf (Nat.not_lt_zero _)
  | succ f1m ih =>
    intro f2m j i g hj hf1 hf2 hi
    obtain ⟨f2, rfl⟩ : ∃ f2, f2m = f2 + 1 := ⟨f2m - 1, by omega⟩
    have hg : JX N B gr A D (setA R 43 g) m V tk := h.a43
    have hk16 := hC.2.1
    obtain ⟨k1, k2⟩ := j_kind (D2 := D2) hN1 hN hg hi.1
    have hf1lt := f1_lt V i 0
    rw [d_X4_walk_47_5, e_walk_5]
    by_cases c : j = n
    · rw [c, if_pos (nI_le (Nat.le_refl _) (by omega)), if_pos (nI_le (Nat.le_refl _) (by omega))]
      refine ⟨_, g, rfl, Or.inr (Or.inr ⟨i, hi, rfl, ?_⟩)⟩
      rw [hC.1]
      by_cases ck : n = k
      · rw [if_pos (nI_le (by omega) (by omega)), if_pos (Or.inl ck)]
      · rw [if_neg (nI_ge (by omega) (by omega)), bnd_o k1]
        by_cases c2 : f1 V i 0 = 2
        · rw [if_pos (by rw [c2]; rfl), if_pos (Or.inr c2)]
        · rw [if_neg (show ¬ nI (f1 V i 0) = (2 : Int32) from fun z => c2 (nI_inj (b := 2) (by omega) (by decide) z)), if_neg (fun z => z.elim ck c2)]
    · rw [if_neg (nI_ge (by omega) (by omega)), if_neg (nI_ge (by omega) (by omega)), bnd_o k1, bnd_o k2]
      by_cases c2 : f1 V i 0 = 2
      · have e2 : nI (f1 V i 0) = (2 : Int32) := by
          rw [c2]
          rfl
        obtain ⟨g2, s1, s2⟩ := j_slotOf47 (D2 := D2) (R := setA R 43 g) hN1 hN hg hw hi.1 c2 ht hC hP hS (show j < k by omega)
        obtain ⟨p1, p2⟩ := hP j (by omega)
        have r50 : rA (setA R 43 g) 50 = rA R 50 := rfl
        have r51 : rA (setA R 43 g) 51 = rA R 51 := rfl
        rw [if_pos e2, if_pos e2, bnd_o s1, nI_add, ld_n (show 0 + j < 32 by omega) (by decide), r50, p1, ld_n (show 0 + j < 32 by omega) (by decide), r51, p2, bnd2_o s2, setA_A]
        have hdz := hw.dsz hi.1
        rcases sfM_o (tp := tp) (st := st j) (ln := ln j) hw.1 hN1 hi.1 (show szM V i / 16 < 2 ^ 31 by omega) (hw.db hi.1 c2) (szM V i / 16) 0 (by omega) with q | ⟨t, t1, t2, t3, t4⟩
        · rw [q, if_pos rfl, if_pos rfl]
          exact ⟨-1, g2, rfl, Or.inl ⟨rfl, rfl⟩⟩
        · have hfn := hw.fnd hi.1 c2 t2 t4
          rw [t3, if_neg (nI_m1 (by omega)), if_neg (nI_m1 (by omega)), bnd_o (c_sl2 hN1 hN h.1 hw hi.1 c2 t2), bnd_o (z_sl2 hN1 hN (h.a43 (g := g2)).2 hw hi.1 c2 t2), nI_1]
          exact ih f2 (j + 1) (sln V i t) g2 (by omega) (by omega) (by omega) hfn
      · have e2 : ¬ nI (f1 V i 0) = (2 : Int32) := fun z => c2 (nI_inj (b := 2) (by omega) (by decide) z)
        rw [if_neg e2, if_neg e2]
        exact ⟨-3, g, rfl, Or.inr (Or.inl ⟨rfl, rfl⟩)⟩
theorem j_walk47 {A : MS} {D D2 : CfT} {R : RfT} {tp : Nat → Int32} {k n : Nat} {st ln : Nat → Nat} (hN1 : 61 ≤ N) (hN : N ≤ 1024) (h : JX N B gr A D R m V tk) (hw : WF N V) (ht : TpR D2 R tp) (hC : PthC47 D2 k st ln) (hP : PthR R 0 k st ln) (hS : NmS tp k st ln) (hn : n ≤ k) : ∃ v g', e_walk R (nI 0) (nI n) = some (v, setA R 43 g') ∧ ((v = -1 ∧ d_X4_walk_47 N (vA A) D2 (nI n) = some (-1)) ∨ (v = -3 ∧ d_X4_walk_47 N (vA A) D2 (nI n) = some (-3)) ∨ ∃ t, Fnd V t ∧ v = nI t ∧ d_X4_walk_47 N (vA A) D2 (nI n) = some (if n = k ∨ f1 V t 0 = 2 then nI t else -3)) := by
  have hk16 := hC.2.1
  have q := j_walk47_l (D2 := D2) hN1 hN h hw ht hC hP hS hn fuL fuL 0 1 (rA R 43) (Nat.zero_le _) (by rw [fuL_4]; omega) (by rw [fuL_4]; omega) hw.root
  rw [setA_id] at q
  exact q
theorem j_ahead47 {A : MS} {D D2 : CfT} {R : RfT} {tp : Nat → Int32} {k n : Nat} {st ln : Nat → Nat} (hN1 : 61 ≤ N) (hN : N ≤ 1024) (h : JX N B gr A D R m V tk) (hw : WF N V) (ht : TpR D2 R tp) (hC : PthC47 D2 k st ln) (hP : PthR R 0 k st ln) (hS : NmS tp k st ln) (hn : n < k) : ∃ v g', e_walkAhead R (nI 0) (nI n) = some (v, setA R 43 g') ∧ d_X4_walk_47 N (vA A) D2 (nI n) = some v ∧ (v = -1 ∨ v = -3 ∨ ∃ t, Fnd V t ∧ f1 V t 0 = 2 ∧ v = nI t) := by
  obtain ⟨v, g, e, o⟩ := j_walk47 (D2 := D2) hN1 hN h hw ht hC hP hS (show n ≤ k by omega)
  rw [e_walkAhead, bnd2_o e]
  rcases o with ⟨o1, o2⟩ | ⟨o1, o2⟩ | ⟨t, o1, o2, o3⟩
  · rw [o1, if_pos (show (-1 : Int32) ≤ 0 by decide)]
    exact ⟨-1, g, rfl, o2, Or.inl rfl⟩
  · rw [o1, if_pos (show (-3 : Int32) ≤ 0 by decide)]
    exact ⟨-3, g, rfl, o2, Or.inr (Or.inl rfl)⟩
  · obtain ⟨r1, r2⟩ := o1.1
    have hf := f1_lt V t 0
    rw [o2, if_neg (show ¬ nI t ≤ 0 from nI_ge (a := 0) (by omega) (by omega)), bnd_o (j_kind (D2 := D2) hN1 hN (h.a43 (g := g)) o1.1).2]
    by_cases c2 : f1 V t 0 = 2
    · rw [if_pos (show nI (f1 V t 0) = (2 : Int32) by rw [c2]; rfl)]
      rw [if_pos (Or.inr c2)] at o3
      exact ⟨_, g, rfl, o3, Or.inr (Or.inr ⟨t, o1, c2, rfl⟩)⟩
    · rw [if_neg (show ¬ nI (f1 V t 0) = (2 : Int32) from fun z => c2 (nI_inj (b := 2) (by omega) (by decide) z))]
      rw [if_neg (fun z => z.elim (fun y => by omega) c2)] at o3
      exact ⟨_, g, rfl, o3, Or.inr (Or.inl rfl)⟩
theorem j_walk50_l {A : MS} {D D2 : CfT} {R : RfT} {tp : Nat → Int32} {k n : Nat} {st ln : Nat → Nat} (hN1 : 61 ≤ N) (hN : N ≤ 1024) (h : JX N B gr A D R m V tk) (hw : WF N V) (ht : TpR D2 R tp) (hC : PthC50 D2 k st ln) (hP : PthR R 16 k st ln) (hS : NmS tp k st ln) (hn : n ≤ k) : ∀ (f1m f2m j i : Nat) (g : Nat → Int32), j ≤ n → n - j < f1m → n - j < f2m → Fnd V i → ∃ v g', e_walk_5 f2m (setA R 43 g) (nI 16) (nI n) (nI i) (nI j) = some (v, setA R 43 g') ∧ ((v = -1 ∧ d_X4_walk_50_5 N (vA A) D2 f1m (nI n) (nI i) (nI j) = some (-1)) ∨ (v = -3 ∧ d_X4_walk_50_5 N (vA A) D2 f1m (nI n) (nI i) (nI j) = some (-3)) ∨ ∃ t, Fnd V t ∧ v = nI t ∧ d_X4_walk_50_5 N (vA A) D2 f1m (nI n) (nI i) (nI j) = some (if n = k ∨ f1 V t 0 = 2 then nI t else -3)) := by
  intro f1m
  induction f1m with
  | zero => intro f2m j i g _ hf; exact absurd hf (Nat.not_lt_zero _)
  | succ f1m ih =>
    intro f2m j i g hj hf1 hf2 hi
    obtain ⟨f2, rfl⟩ : ∃ f2, f2m = f2 + 1 := ⟨f2m - 1, by omega⟩
    have hg : JX N B gr A D (setA R 43 g) m V tk := h.a43
    have hk16 := hC.2.1
    obtain ⟨k1, k2⟩ := j_kind (D2 := D2) hN1 hN hg hi.1
    have hf1lt := f1_lt V i 0
    rw [d_X4_walk_50_5, e_walk_5]
    by_cases c : j = n
    · rw [c, if_pos (nI_le (Nat.le_refl _) (by omega)), if_pos (nI_le (Nat.le_refl _) (by omega))]
      refine ⟨_, g, rfl, Or.inr (Or.inr ⟨i, hi, rfl, ?_⟩)⟩
      rw [hC.1]
      by_cases ck : n = k
      · rw [if_pos (nI_le (by omega) (by omega)), if_pos (Or.inl ck)]
      · rw [if_neg (nI_ge (by omega) (by omega)), bnd_o k1]
        by_cases c2 : f1 V i 0 = 2
        · rw [if_pos (by rw [c2]; rfl), if_pos (Or.inr c2)]
        · rw [if_neg (show ¬ nI (f1 V i 0) = (2 : Int32) from fun z => c2 (nI_inj (b := 2) (by omega) (by decide) z)), if_neg (fun z => z.elim ck c2)]
    · rw [if_neg (nI_ge (by omega) (by omega)), if_neg (nI_ge (by omega) (by omega)), bnd_o k1, bnd_o k2]
      by_cases c2 : f1 V i 0 = 2
      · have e2 : nI (f1 V i 0) = (2 : Int32) := by
          rw [c2]
          rfl
        obtain ⟨g2, s1, s2⟩ := j_slotOf50 (D2 := D2) (R := setA R 43 g) hN1 hN hg hw hi.1 c2 ht hC hP hS (show j < k by omega)
        obtain ⟨p1, p2⟩ := hP j (by omega)
        have r50 : rA (setA R 43 g) 50 = rA R 50 := rfl
        have r51 : rA (setA R 43 g) 51 = rA R 51 := rfl
        rw [if_pos e2, if_pos e2, bnd_o s1, nI_add, ld_n (show 16 + j < 32 by omega) (by decide), r50, p1, ld_n (show 16 + j < 32 by omega) (by decide), r51, p2, bnd2_o s2, setA_A]
        have hdz := hw.dsz hi.1
        rcases sfM_o (tp := tp) (st := st j) (ln := ln j) hw.1 hN1 hi.1 (show szM V i / 16 < 2 ^ 31 by omega) (hw.db hi.1 c2) (szM V i / 16) 0 (by omega) with q | ⟨t, t1, t2, t3, t4⟩
        · rw [q, if_pos rfl, if_pos rfl]
          exact ⟨-1, g2, rfl, Or.inl ⟨rfl, rfl⟩⟩
        · have hfn := hw.fnd hi.1 c2 t2 t4
          rw [t3, if_neg (nI_m1 (by omega)), if_neg (nI_m1 (by omega)), bnd_o (c_sl2 hN1 hN h.1 hw hi.1 c2 t2), bnd_o (z_sl2 hN1 hN (h.a43 (g := g2)).2 hw hi.1 c2 t2), nI_1]
          exact ih f2 (j + 1) (sln V i t) g2 (by omega) (by omega) (by omega) hfn
      · have e2 : ¬ nI (f1 V i 0) = (2 : Int32) := fun z => c2 (nI_inj (b := 2) (by omega) (by decide) z)
        rw [if_neg e2, if_neg e2]
        exact ⟨-3, g, rfl, Or.inr (Or.inl ⟨rfl, rfl⟩)⟩
theorem j_walk50 {A : MS} {D D2 : CfT} {R : RfT} {tp : Nat → Int32} {k n : Nat} {st ln : Nat → Nat} (hN1 : 61 ≤ N) (hN : N ≤ 1024) (h : JX N B gr A D R m V tk) (hw : WF N V) (ht : TpR D2 R tp) (hC : PthC50 D2 k st ln) (hP : PthR R 16 k st ln) (hS : NmS tp k st ln) (hn : n ≤ k) : ∃ v g', e_walk R (nI 16) (nI n) = some (v, setA R 43 g') ∧ ((v = -1 ∧ d_X4_walk_50 N (vA A) D2 (nI n) = some (-1)) ∨ (v = -3 ∧ d_X4_walk_50 N (vA A) D2 (nI n) = some (-3)) ∨ ∃ t, Fnd V t ∧ v = nI t ∧ d_X4_walk_50 N (vA A) D2 (nI n) = some (if n = k ∨ f1 V t 0 = 2 then nI t else -3)) := by
  have hk16 := hC.2.1
  have q := j_walk50_l (D2 := D2) hN1 hN h hw ht hC hP hS hn fuL fuL 0 1 (rA R 43) (Nat.zero_le _) (by rw [fuL_4]; omega) (by rw [fuL_4]; omega) hw.root
  rw [setA_id] at q
  exact q
theorem j_ahead50 {A : MS} {D D2 : CfT} {R : RfT} {tp : Nat → Int32} {k n : Nat} {st ln : Nat → Nat} (hN1 : 61 ≤ N) (hN : N ≤ 1024) (h : JX N B gr A D R m V tk) (hw : WF N V) (ht : TpR D2 R tp) (hC : PthC50 D2 k st ln) (hP : PthR R 16 k st ln) (hS : NmS tp k st ln) (hn : n < k) : ∃ v g', e_walkAhead R (nI 16) (nI n) = some (v, setA R 43 g') ∧ d_X4_walk_50 N (vA A) D2 (nI n) = some v ∧ (v = -1 ∨ v = -3 ∨ ∃ t, Fnd V t ∧ f1 V t 0 = 2 ∧ v = nI t) := by
  obtain ⟨v, g, e, o⟩ := j_walk50 (D2 := D2) hN1 hN h hw ht hC hP hS (show n ≤ k by omega)
  rw [e_walkAhead, bnd2_o e]
  rcases o with ⟨o1, o2⟩ | ⟨o1, o2⟩ | ⟨t, o1, o2, o3⟩
  · rw [o1, if_pos (show (-1 : Int32) ≤ 0 by decide)]
    exact ⟨-1, g, rfl, o2, Or.inl rfl⟩
  · rw [o1, if_pos (show (-3 : Int32) ≤ 0 by decide)]
    exact ⟨-3, g, rfl, o2, Or.inr (Or.inl rfl)⟩
  · obtain ⟨r1, r2⟩ := o1.1
    have hf := f1_lt V t 0
    rw [o2, if_neg (show ¬ nI t ≤ 0 from nI_ge (a := 0) (by omega) (by omega)), bnd_o (j_kind (D2 := D2) hN1 hN (h.a43 (g := g)) o1.1).2]
    by_cases c2 : f1 V t 0 = 2
    · rw [if_pos (show nI (f1 V t 0) = (2 : Int32) by rw [c2]; rfl)]
      rw [if_pos (Or.inr c2)] at o3
      exact ⟨_, g, rfl, o3, Or.inr (Or.inr ⟨t, o1, c2, rfl⟩)⟩
    · rw [if_neg (show ¬ nI (f1 V t 0) = (2 : Int32) from fun z => c2 (nI_inj (b := 2) (by omega) (by decide) z))]
      rw [if_neg (fun z => z.elim (fun y => by omega) c2)] at o3
      exact ⟨_, g, rfl, o3, Or.inr (Or.inl rfl)⟩
end PWL
