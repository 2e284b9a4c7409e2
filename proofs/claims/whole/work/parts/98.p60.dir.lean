/-! ===== pure: both read directories alike ===== -/
section PWK
variable {N B gr : Nat} {V : Nat → Rw} {m : M5} {tk : Nat → Bool}
theorem sz_ag {W : Nat → Rw} {d : Nat} (hN1 : 61 ≤ N) (h : AgU N V W) (hb : btO N (V 43)) (hd : ir d) : szM W d = szM V d := (f1_ag (a := 4) hN1 h hb hd.2).2.2
/-- any number as an inode -/
theorem i_rng (x : Int32) : (∃ i, ir i ∧ x = nI i) ∨ (x < 1 ∨ ¬ x ≤ 64) := by
  by_cases c : x < 1
  · exact Or.inr (Or.inl c)
  · by_cases c2 : x ≤ 64
    · have h1 : (1 : Int32) ≤ x := i_nlt c
      have h0 : ¬ x < 0 := fun z => absurd (Int32.le_trans (show (0 : Int32) ≤ 1 by decide) h1) (i_ltn z)
      have q1 : (1 : Int32).toInt ≤ x.toInt := Int32.le_iff_toInt_le.mp h1
      have q2 : x.toInt ≤ (64 : Int32).toInt := Int32.le_iff_toInt_le.mp c2
      have q1 : (1 : Int) ≤ x.toInt := q1
      have q2 : x.toInt ≤ (64 : Int) := q2
      have e : x.toNatClampNeg = x.toInt.toNat := rfl
      refine Or.inl ⟨x.toNatClampNeg, ?_, nI_cl h0⟩
      rw [e]
      unfold ir
      omega
    · exact Or.inr (Or.inr c2)
theorem j_kind {A : MS} {D D2 : CfT} {R : RfT} (hN1 : 61 ≤ N) (hN : N ≤ 1024) (h : JX N B gr A D R m V tk) {i : Nat} (hi : ir i) : d_X7_kind N (vA A) D2 (nI i) = some (nI (f1 V i 0)) ∧ e_kind R (nI i) = some (nI (f1 V i 0)) := by
  rw [d_kind hi.1 hi.2 hN1 hN, z_kind h.2.1.1.lk hi.1 hi.2, (f1_ag (a := 0) hN1 h.1.agu h.2.2.2 hi.2).1, (f1_ag (a := 0) hN1 h.2.agu h.2.2.2 hi.2).1]
  exact ⟨rfl, rfl⟩
theorem j_kind0 {A : MS} {D2 : CfT} {R : RfT} {x : Int32} (hx : x < 1 ∨ ¬ x ≤ 64) : d_X7_kind N (vA A) D2 x = some 0 ∧ e_kind R x = some 0 := ⟨d_kind0 hx, z_kind0 hx⟩
theorem j_size {A : MS} {D D2 : CfT} {R : RfT} (hN1 : 61 ≤ N) (hN : N ≤ 1024) (h : JX N B gr A D R m V tk) {i : Nat} (hi : ir i) : d_X7_size N (vA A) D2 (nI i) = some (nI (szM V i)) ∧ e_size R (nI i) = some (nI (szM V i)) := by
  rw [d_size hi.1 hi.2 hN1 hN, z_size h.2.1.1.lk hi.1 hi.2]
  rw [show f4 (vA A) i 4 = szM V i from sz_ag hN1 h.1.agu h.2.2.2 hi, show f4 (rSee R true) i 4 = szM V i from sz_ag hN1 h.2.agu h.2.2.2 hi]
  exact ⟨rfl, rfl⟩
theorem WF.rd {W : Nat → Rw} {d : Nat} (hN1 : 61 ≤ N) (h : WF N V) (ag : AgU N V W) (hd : ir d) (hk : f1 V d 0 = 2) : szM W d = szM V d ∧ szM V d < 2 ^ 30 ∧ szM V d / 16 < fuL ∧ ∀ s, s < szM V d / 16 → pOk N W d (s / 8) := by
  have h1 := h.dsz hd
  refine ⟨sz_ag hN1 ag h.1.1 hd, by omega, by rw [fuL_4]; omega, fun s hs => pok_ag h.1 hN1 ag hd (h.dblk hd hk hs).1⟩
theorem frM_cg {W : Nat → Rw} {d n : Nat} (h : PW N V) (hN1 : 61 ≤ N) (ag : AgU N V W) (hd : ir d) (hb : ∀ s, s < n → s / 8 < 4168 ∧ pv V d (px (s / 8)) ≠ 0) : ∀ (k s : Nat), s + k ≤ n → frM W d k s = frM V d k s
  | 0, s, _ => rfl
  | k + 1, s, hk => by
    have hv := sl_ag (s := s) h hN1 (show AgU N V V from fun _ _ _ _ => rfl) hd (hb s (by omega)).1 (hb s (by omega)).2
    have hw := sl_ag h hN1 ag hd (hb s (by omega)).1 (hb s (by omega)).2
    show (if slM W d s = 0 then nI s else frM W d k (s + 1)) = (if slM V d s = 0 then nI s else frM V d k (s + 1))
    unfold slM
    rw [hw.2, hv.2, frM_cg h hN1 ag hd hb k (s + 1) (by omega)]
theorem cnM_cg {W : Nat → Rw} {d n : Nat} (h : PW N V) (hN1 : 61 ≤ N) (ag : AgU N V W) (hd : ir d) (hb : ∀ s, s < n → s / 8 < 4168 ∧ pv V d (px (s / 8)) ≠ 0) : ∀ k, k ≤ n → cnM W d k = cnM V d k
  | 0, _ => rfl
  | k + 1, hk => by
    have hv := sl_ag (s := k) h hN1 (show AgU N V V from fun _ _ _ _ => rfl) hd (hb k (by omega)).1 (hb k (by omega)).2
    have hw := sl_ag (s := k) h hN1 ag hd (hb k (by omega)).1 (hb k (by omega)).2
    unfold cnM
    unfold slM
    rw [hw.2, hv.2, cnM_cg h hN1 ag hd hb k (by omega)]
theorem WF.db {d : Nat} (h : WF N V) (hd : ir d) (hk : f1 V d 0 = 2) : ∀ s, s < szM V d / 16 → s / 8 < 4168 ∧ pv V d (px (s / 8)) ≠ 0 := fun s hs => ⟨(h.dblk hd hk hs).1, (h.dblk hd hk hs).2.1⟩
theorem j_freeSlot {A : MS} {D D2 : CfT} {R : RfT} (hN1 : 61 ≤ N) (hN : N ≤ 1024) (h : JX N B gr A D R m V tk) (hw : WF N V) {d : Nat} (hd : ir d) (hk : f1 V d 0 = 2) : d_X4_freeSlot N (vA A) D2 (nI d) = some (frM V d (szM V d / 16) 0) ∧ e_freeSlot R (nI d) = some (frM V d (szM V d / 16) 0) := by
  obtain ⟨a1, a2, a3, a4⟩ := hw.rd hN1 h.1.agu hd hk
  obtain ⟨b1, b2, b3, b4⟩ := hw.rd hN1 h.2.agu hd hk
  refine ⟨?_, ?_⟩
  · rw [d_freeSlot hd.1 hd.2 hN1 hN (by rw [a1]; exact a2) (by rw [a1]; exact a4) (by rw [a1]; exact a3), a1, frM_cg hw.1 hN1 h.1.agu hd (hw.db hd hk) _ 0 (by omega)]
  · rw [z_freeSlot h.2.1.1.lk hd.1 hd.2 (by rw [b1]; exact b2) (by rw [b1]; exact fun s hs => pok_1024 hN (b4 s hs)) (by rw [b1]; exact b3), b1, frM_cg hw.1 hN1 h.2.agu hd (hw.db hd hk) _ 0 (by omega)]
theorem j_names {A : MS} {D D2 : CfT} {R : RfT} (hN1 : 61 ≤ N) (hN : N ≤ 1024) (h : JX N B gr A D R m V tk) (hw : WF N V) {d : Nat} (hd : ir d) (hk : f1 V d 0 = 2) : d_X4_names N (vA A) D2 (nI d) = some (nI (cnM V d (szM V d / 16))) ∧ e_names R (nI d) = some (nI (cnM V d (szM V d / 16))) := by
  obtain ⟨a1, a2, a3, a4⟩ := hw.rd hN1 h.1.agu hd hk
  obtain ⟨b1, b2, b3, b4⟩ := hw.rd hN1 h.2.agu hd hk
  refine ⟨?_, ?_⟩
  · rw [d_names hd.1 hd.2 hN1 hN (by rw [(f1_ag (a := 0) hN1 h.1.agu h.2.2.2 hd.2).1]; exact hk) (by rw [a1]; exact a2) (by rw [a1]; exact a4) (by rw [a1]; exact a3), a1, cnM_cg hw.1 hN1 h.1.agu hd (hw.db hd hk) _ (Nat.le_refl _)]
  · rw [z_names h.2.1.1.lk hd.1 hd.2 (by rw [b1]; exact b2) (by rw [b1]; exact fun s hs => pok_1024 hN (b4 s hs)) (by rw [b1]; exact b3), b1, cnM_cg hw.1 hN1 h.2.agu hd (hw.db hd hk) _ (Nat.le_refl _)]
/-- tapes alike -/
def TpR (D : CfT) (R : RfT) (tp : Nat → Int32) : Prop := Byt tp ∧ (∀ j, cA D 1 j = tp j) ∧ ∀ j, j < 1024 → rA R 4 j = tp j
theorem j_slotOf47 {A : MS} {D D2 : CfT} {R : RfT} {tp : Nat → Int32} {k j : Nat} {st ln : Nat → Nat} (hN1 : 61 ≤ N) (hN : N ≤ 1024) (h : JX N B gr A D R m V tk) (hw : WF N V) {d : Nat} (hd : ir d) (hk : f1 V d 0 = 2) (ht : TpR D2 R tp) (hC : PthC47 D2 k st ln) (hP : PthR R 0 k st ln) (hS : NmS tp k st ln) (hj : j < k) : ∃ g, d_X4_slotOf_47 N (vA A) D2 (nI d) (nI j) = some (sfM V tp d (st j) (ln j) (szM V d / 16) 0) ∧ e_slotOf R (nI d) (nI (st j)) (nI (ln j)) = some (sfM V tp d (st j) (ln j) (szM V d / 16) 0, setA R 43 g) := by
  obtain ⟨a1, a2, a3, a4⟩ := hw.rd hN1 h.1.agu hd hk
  obtain ⟨b1, b2, b3, b4⟩ := hw.rd hN1 h.2.agu hd hk
  obtain ⟨c1, c2, c3⟩ := hC
  obtain ⟨s1, s2⟩ := hS j hj
  obtain ⟨g, e⟩ := z_slotOf (st := st j) (ln := ln j) h.2.1.1.lk h.2.1.1.by hd.1 hd.2 (by rw [b1]; exact b2) (by rw [b1]; exact fun s hs => pok_1024 hN (b4 s hs)) (by rw [b1]; exact b3) s1.2.1 s2
  refine ⟨g, ?_, ?_⟩
  · rw [d_slotOf47 hd.1 hd.2 hN1 hN (by rw [a1]; exact a2) (by rw [a1]; exact a4) (by rw [a1]; exact a3) (show j < 16 by omega) (c3 j hj).1 (c3 j hj).2 s1.2.1 s2, a1, sfM_cg hw.1 hN1 h.1.agu hd (hw.db hd hk) (fun x _ => ht.2.1 x) s1.2.1 s2 _ 0 (by omega)]
  · rw [e, b1, sfM_cg hw.1 hN1 h.2.agu hd (hw.db hd hk) (fun x hx => ht.2.2 x hx) s1.2.1 s2 _ 0 (by omega)]
theorem j_slotOf50 {A : MS} {D D2 : CfT} {R : RfT} {tp : Nat → Int32} {k j : Nat} {st ln : Nat → Nat} (hN1 : 61 ≤ N) (hN : N ≤ 1024) (h : JX N B gr A D R m V tk) (hw : WF N V) {d : Nat} (hd : ir d) (hk : f1 V d 0 = 2) (ht : TpR D2 R tp) (hC : PthC50 D2 k st ln) (hP : PthR R 16 k st ln) (hS : NmS tp k st ln) (hj : j < k) : ∃ g, d_X4_slotOf_50 N (vA A) D2 (nI d) (nI j) = some (sfM V tp d (st j) (ln j) (szM V d / 16) 0) ∧ e_slotOf R (nI d) (nI (st j)) (nI (ln j)) = some (sfM V tp d (st j) (ln j) (szM V d / 16) 0, setA R 43 g) := by
  obtain ⟨a1, a2, a3, a4⟩ := hw.rd hN1 h.1.agu hd hk
  obtain ⟨b1, b2, b3, b4⟩ := hw.rd hN1 h.2.agu hd hk
  obtain ⟨c1, c2, c3⟩ := hC
  obtain ⟨s1, s2⟩ := hS j hj
  obtain ⟨g, e⟩ := z_slotOf (st := st j) (ln := ln j) h.2.1.1.lk h.2.1.1.by hd.1 hd.2 (by rw [b1]; exact b2) (by rw [b1]; exact fun s hs => pok_1024 hN (b4 s hs)) (by rw [b1]; exact b3) s1.2.1 s2
  refine ⟨g, ?_, ?_⟩
  · rw [d_slotOf50 hd.1 hd.2 hN1 hN (by rw [a1]; exact a2) (by rw [a1]; exact a4) (by rw [a1]; exact a3) (show j < 16 by omega) (c3 j hj).1 (c3 j hj).2 s1.2.1 s2, a1, sfM_cg hw.1 hN1 h.1.agu hd (hw.db hd hk) (fun x _ => ht.2.1 x) s1.2.1 s2 _ 0 (by omega)]
  · rw [e, b1, sfM_cg hw.1 hN1 h.2.agu hd (hw.db hd hk) (fun x hx => ht.2.2 x hx) s1.2.1 s2 _ 0 (by omega)]
end PWK
