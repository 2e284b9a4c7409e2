/-! ===== pure: stamps, where the power fails ===== -/
section PXHs
variable {N B gr r u : Nat} {V W : Nat → Rw} {m m' : M5} {tk : Nat → Bool}
theorem mStep_sp (hN1 : 61 ≤ N) {bt L : List En} {tu : Int32} {hw : Hw} (ho : HOk N B hw) (hd : LgD hw L) (hL : L.length ≤ 40) (hb : bt.length ≤ 40) : hSp (mStep N B bt (hw, L, tu)).2.1 ≤ hSp hw + 100 := by
  by_cases c : 40 < L.length + bt.length
  · obtain ⟨q1, q2, q3, q4⟩ := aApl_all (B := B) (tu := tu) hN1 ho hd
    cases ha : (aApl N B L tu hw).1 with
    | false =>
      rw [mStep_a1 c ha]
      show hSp (aApl N B L tu hw).2 ≤ _
      omega
    | true =>
      rw [mStep_a2 c ha]
      obtain ⟨m1, m2, -⟩ := mApp_all (B := B) hN1 (L := (lApl L tu).1) (bt := bt) (tu := (lApl L tu).2) q1 (by omega)
      show hSp (mApp N B (lApl L tu).1 (lApl L tu).2 bt (aApl N B L tu hw).2).2 ≤ _
      omega
  · rw [mStep_b c]
    obtain ⟨m1, m2, -⟩ := mApp_all (B := B) hN1 (L := L) (bt := bt) (tu := tu) ho (by omega)
    show hSp (mApp N B L tu bt hw).2 ≤ _
    omega
theorem mFl_sp (hN1 : 61 ≤ N) : ∀ (k : Nat) (qs : List QC) (s : mSt), (∀ q ∈ qs, ∀ b x, q b = some x → 43 ≤ b) → HOk N B s.1 → LgD s.1 s.2.1 → s.2.1.length ≤ 40 → hSp (mFl N B k qs s).2.1 ≤ hSp s.1 + 100 * k
  | 0, qs, s, _, _, _, _ => Nat.le_refl _
  | k + 1, [], s, _, _, _, _ => Nat.le_add_right _ _
  | k + 1, q :: qs, s, h43, ho, hd, hL => by
    have e : mFl N B (k + 1) (q :: qs) s = if (mStep N B (qFill N (q :: qs) []).1 s).1 = true then mFl N B k (qFill N (q :: qs) []).2 (mStep N B (qFill N (q :: qs) []).1 s).2 else mStep N B (qFill N (q :: qs) []).1 s := rfl
    rw [e]
    have b40 := (qFill_40 (N := N) (q :: qs) [] (by decide) (fun p hp => by cases hp)).1
    have b43 := qFill_43 (N := N) (q :: qs) [] (fun p hp => by cases hp) h43
    have sp := mStep_sp (tu := s.2.2) hN1 ho hd hL b40
    have sp : hSp (mStep N B (qFill N (q :: qs) []).1 s).2.1 ≤ hSp s.1 + 100 := sp
    by_cases c : (mStep N B (qFill N (q :: qs) []).1 s).1 = true
    · rw [if_pos c]
      have all := mFl_all (N := N) (B := B) hN1 1 (q :: qs) s.1 s.2.1 s.2.2 h43 ho hd hL (by
        show (mFl N B (0 + 1) (q :: qs) s).1 = true
        have e1 : mFl N B (0 + 1) (q :: qs) s = if (mStep N B (qFill N (q :: qs) []).1 s).1 = true then mFl N B 0 (qFill N (q :: qs) []).2 (mStep N B (qFill N (q :: qs) []).1 s).2 else mStep N B (qFill N (q :: qs) []).1 s := rfl
        rw [e1, if_pos c]
        rfl)
      have e2 : mFl N B 1 (q :: qs) (s.1, s.2.1, s.2.2) = (true, (mStep N B (qFill N (q :: qs) []).1 s).2) := by
        show (if (mStep N B (qFill N (q :: qs) []).1 s).1 = true then mFl N B 0 (qFill N (q :: qs) []).2 (mStep N B (qFill N (q :: qs) []).1 s).2 else mStep N B (qFill N (q :: qs) []).1 s) = _
        rw [if_pos c]
        rfl
      rw [e2] at all
      obtain ⟨a1, a2, a3, -⟩ := all
      have ih := mFl_sp hN1 k (qFill N (q :: qs) []).2 (mStep N B (qFill N (q :: qs) []).1 s).2 (fun y hy => h43 y (qFill_mem _ _ y hy)) a1 a2 a3
      omega
    · rw [if_neg c]
      omega
theorem flO2_sp (hN1 : 61 ≤ N) (hm : MOk N B m) : hSp (flO2 N B m).2.1 ≤ Phi m := mFl_sp hN1 m.2.2.2.1.length m.2.2.2.1 (m.1, m.2.1, m.2.2.1) hm.2.2.2.1 hm.1 hm.2.1 hm.2.2.1
theorem Fld.sp {o : Hw} (hN1 : 61 ≤ N) (f : Fld N B m o) (hm : MOk N B m) : hSp o ≤ Phi m := by
  obtain ⟨y, y1, y2, y3⟩ := f
  obtain ⟨z1, z2⟩ := y1 (fun x => MOk N B x ∧ Phi x ≤ Phi m) ⟨hm, Nat.le_refl _⟩ (fun x ⟨h1, h2⟩ ht => ⟨flM_ok hN1 h1 ht, by
    have q := flM_sp hN1 h1 ht
    unfold Phi at h2 ⊢
    show hSp (flM N B x).1 + 100 * 0 ≤ _
    omega⟩)
  rw [y3]
  exact Nat.le_trans (flO2_sp hN1 z1) z2
theorem FlT.sfe {A : MS} {D : CfT} (hN1 : 61 ≤ N) (f : FlT N B m A D) (g : GM N m) (hm : MOk N B m) (hl : lgN N m.2.1) (hu : Phi m ≤ u) : SfT N u A D := ⟨⟨f.1.safe hN1 g hm hl, Nat.le_trans (f.1.sp hN1 hm) hu⟩, f.2⟩
theorem SfT.up {u' : Nat} {A : MS} {D : CfT} (g : SfT N u A D) (hu : u ≤ u') : SfT N u' A D := ⟨⟨g.1.1, Nat.le_trans g.1.2 hu⟩, g.2⟩
end PXHs
