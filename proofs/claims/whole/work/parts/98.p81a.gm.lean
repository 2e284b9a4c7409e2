/-! ===== pure: what a crash leaves, kept by flushes and commits ===== -/
section PXG
variable {N B gr r u : Nat} {V W : Nat → Rw} {m m' : M5} {tk : Nat → Bool}
theorem pv_dep (hw : PW N V) (hN1 : 61 ≤ N) (h : ∀ b, 43 ≤ b → b < N → W b = V b) {j : Nat} (hj : ir j) : ∀ x, x < 4234 → pv W j x = pv V j x := pv_eq (fun y hy h0 => by
  obtain ⟨q1, q2, q3⟩ := hw.at hN1 hj hy h0
  rw [h _ (by omega) q2])
theorem isT_dep (hw : PW N V) (hN1 : 61 ≤ N) (h : ∀ b, 43 ≤ b → b < N → W b = V b) {b : Nat} : isT W b ↔ isT V b := isT_cg (fun j x hj hx => pv_dep hw hN1 h hj x hx) (fun j hj => Or.inl (by
  have := ir_home hj
  unfold f1
  rw [h _ (by omega) (by omega)]))
theorem WF.rows (hw : WF N V) (hN1 : 61 ≤ N) (h : ∀ b, 43 ≤ b → b < N → W b = V b) : WF N W := hw.dep hN1 (fun b b1 b2 => h b b1 (by omega)) (fun b ⟨h0, j, x, j1, j2, j3, j4⟩ => by
  have q := (hw.1.2.1 j x j1 j2).resolve_left (by rw [j3]; exact h0)
  rw [j3] at q
  exact h b (by omega) q.2)
theorem isT_used (hw : PW N V) {b : Nat} (h : isT V b) : 61 ≤ b ∧ b < N ∧ btM (V 43) b = 1 := by
  obtain ⟨h0, j, x, j1, j2, j3, j4⟩ := h
  have q := (hw.pto j1 x j2).resolve_left (by rw [j3]; exact h0)
  rw [j3] at q
  exact q
theorem Wj_all : Wj m m.2.2.2.1.length = befM m := by
  funext b
  unfold Wj befM
  rw [List.take_length]
theorem GM.bef (h : GM N m) : WF N (befM m) := by
  have q := h.2.2.2.1 _ (Nat.le_refl _)
  rw [Wj_all] at q
  exact q
theorem GM.rs {rs : Nat → Nat} (h : GM N m) : GM N (mRs m rs) := h
/-- settled behind a step -/
def Qt (N : Nat) (s : mSt) : Prop := Quiet N s.1 ∧ hSee s.1 1 = mHd s.2.1 s.2.2 ∧ hSee s.1 2 = mNm s.2.1
theorem lVal_0 {L : List En} {hw : Hw} (h : LgD hw L) {b : Nat} (hb : b < 43) : lVal L b = none := lVal_none.mpr (fun p hp e => by
  obtain ⟨k, k1, k2⟩ := mem_lAt hp
  have := (h k k1).2.2
  rw [k2] at this
  omega)
theorem mAp2_qt (hN1 : 61 ≤ N) {bt : List En} {s : mSt} (ho : HOk N B s.1) (hl : s.2.1.length + bt.length ≤ 40) (ht : (mAp2 N B bt s).1 = true) : Qt N (mAp2 N B bt s).2 ∧ hSee (mAp2 N B bt s).2.1 0 = hSee s.1 0 := by
  obtain ⟨-, -, q⟩ := mApp_all (tu := s.2.2) hN1 ho hl
  obtain ⟨q1, q2⟩ := q ht
  refine ⟨⟨q1, ?_, ?_⟩, ?_⟩
  · have z := q2 1 (by omega)
    rw [if_pos rfl] at z
    exact z
  · have z := q2 2 (by omega)
    rw [if_neg (by decide), if_pos rfl] at z
    exact z
  · have z := q2 0 (by omega)
    rw [if_neg (by decide), if_neg (by decide), if_neg (by omega)] at z
    exact z
theorem mStep_qt (hN1 : 61 ≤ N) {bt : List En} {s : mSt} (ho : HOk N B s.1) (hd : LgD s.1 s.2.1) (hL : s.2.1.length ≤ 40) (hb : bt.length ≤ 40) (ht : (mStep N B bt s).1 = true) : Qt N (mStep N B bt s).2 ∧ hSee (mStep N B bt s).2.1 0 = hSee s.1 0 := by
  unfold mStep at ht ⊢
  by_cases c : 40 < s.2.1.length + bt.length
  · rw [if_pos c] at ht ⊢
    by_cases ca : (aApl N B s.2.1 s.2.2 s.1).1 = true
    · rw [if_pos ca] at ht ⊢
      obtain ⟨a1, a2, a3, a4⟩ := aApl_all (tu := s.2.2) hN1 ho hd
      obtain ⟨q1, q2⟩ := mAp2_qt (s := ((aApl N B s.2.1 s.2.2 s.1).2, lApl s.2.1 s.2.2)) hN1 a1 (by show (lApl s.2.1 s.2.2).1.length + bt.length ≤ 40; omega) ht
      refine ⟨q1, q2.trans ?_⟩
      show hSee (aApl N B s.2.1 s.2.2 s.1).2 0 = _
      unfold aApl at ca ⊢
      by_cases c0 : s.2.1.length = 0
      · rw [if_pos c0]
      · rw [if_neg c0] at ca ⊢
        have z := ((mAply_all (tu := s.2.2) (L := s.2.1) hN1 ho).2.2 ca).2 0 (by omega)
        rw [if_neg (by decide), lVal_0 hd (by decide)] at z
        exact z
    · rw [if_neg ca] at ht
      cases ht
  · rw [if_neg c] at ht ⊢
    exact mAp2_qt hN1 ho (by omega) ht
theorem qFill_mem : ∀ (qs : List QC) (bt : List En), ∀ x ∈ (qFill N qs bt).2, x ∈ qs
  | [], bt, x, hx => hx
  | q :: qs, bt, x, hx => by
    by_cases c : (bJoin N bt q).length ≤ 40
    · rw [qFill_t c] at hx
      exact List.mem_cons_of_mem _ (qFill_mem qs _ x hx)
    · rw [qFill_f c] at hx
      exact hx
theorem mFl_qt (hN1 : 61 ≤ N) : ∀ (k : Nat) (qs : List QC) (s : mSt), (∀ q ∈ qs, ∀ b x, q b = some x → 43 ≤ b) → HOk N B s.1 → LgD s.1 s.2.1 → s.2.1.length ≤ 40 → (mFl N B k qs s).1 = true → ((qs.length = 0 ∨ k = 0) ∧ (mFl N B k qs s).2 = s ∨ Qt N (mFl N B k qs s).2) ∧ hSee (mFl N B k qs s).2.1 0 = hSee s.1 0
  | 0, qs, s, _, _, _, _, _ => ⟨Or.inl ⟨Or.inr rfl, rfl⟩, rfl⟩
  | k + 1, [], s, _, _, _, _, _ => ⟨Or.inl ⟨Or.inl rfl, rfl⟩, rfl⟩
  | k + 1, q :: qs, s, h43, ho, hd, hL, ht => by
    have e : mFl N B (k + 1) (q :: qs) s = if (mStep N B (qFill N (q :: qs) []).1 s).1 = true then mFl N B k (qFill N (q :: qs) []).2 (mStep N B (qFill N (q :: qs) []).1 s).2 else mStep N B (qFill N (q :: qs) []).1 s := rfl
    rw [e] at ht ⊢
    by_cases c : (mStep N B (qFill N (q :: qs) []).1 s).1 = true
    · rw [if_pos c] at ht ⊢
      have b40 := (qFill_40 (N := N) (q :: qs) [] (by decide) (fun p hp => by cases hp)).1
      have b43 := qFill_43 (N := N) (q :: qs) [] (fun p hp => by cases hp) h43
      obtain ⟨w1, w2⟩ := mStep_qt hN1 ho hd hL b40 c
      have all := mFl_all (N := N) (B := B) hN1 1 (q :: qs) s.1 s.2.1 s.2.2 h43 ho hd hL (by
        show (mFl N B (0 + 1) (q :: qs) s).1 = true
        have e1 : mFl N B (0 + 1) (q :: qs) s = if (mStep N B (qFill N (q :: qs) []).1 s).1 = true then mFl N B 0 (qFill N (q :: qs) []).2 (mStep N B (qFill N (q :: qs) []).1 s).2 else mStep N B (qFill N (q :: qs) []).1 s := rfl
        rw [e1, if_pos c]
        rfl)
      have e2 : mFl N B 1 (q :: qs) (s.1, s.2.1, s.2.2) = (true, (mStep N B (qFill N (q :: qs) []).1 s).2) := by
        show (if (mStep N B (qFill N (q :: qs) []).1 s).1 = true then mFl N B 0 (qFill N (q :: qs) []).2 (mStep N B (qFill N (q :: qs) []).1 s).2 else mStep N B (qFill N (q :: qs) []).1 s) = _
        rw [if_pos c]
        rfl
      rw [e2] at all
      have h43' : ∀ q' ∈ (qFill N (q :: qs) []).2, ∀ b x, q' b = some x → 43 ≤ b := fun q' hq' => h43 q' (qFill_mem _ _ q' hq')
      obtain ⟨v1, v2⟩ := mFl_qt hN1 k _ _ h43' all.1 all.2.1 all.2.2.1 ht
      refine ⟨Or.inr ?_, v2.trans w2⟩
      rcases v1 with z | z
      · rw [z.2]
        exact w1
      · exact z
    · rw [if_neg c] at ht
      exact absurd ht c
theorem GM.flush (hN1 : 61 ≤ N) (h : GM N m) (hm : MOk N B m) (ht : (flO2 N B m).1 = true) : GM N (flM N B m) := by
  obtain ⟨g1, g2, g3, g4, g5⟩ := id h
  have hb := fun {u : Nat} (h1 : 43 ≤ u) (h2 : u < N) => flM_bef hN1 hm ht h1 h2
  obtain ⟨q1, q2⟩ := mFl_qt (N := N) (B := B) hN1 m.2.2.2.1.length m.2.2.2.1 (m.1, m.2.1, m.2.2.1) hm.2.2.2.1 hm.1 hm.2.1 hm.2.2.1 ht
  have ew : ∀ b, 43 ≤ b → b < N → Wj (flM N B m) 0 b = befM m b := fun b b1 b2 => by
    have e : Wj (flM N B m) 0 b = befM (flM N B m) b := rfl
    rw [e]
    exact hb b1 b2
  have wf : WF N (Wj (flM N B m) 0) := h.bef.rows hN1 ew
  have j0 : ∀ j, j ≤ (flM N B m).2.2.2.1.length → Wj (flM N B m) j = Wj (flM N B m) 0 := fun j hj => by
    have : j = 0 := Nat.le_zero.mp hj
    rw [this]
  have e1 : (flM N B m).1 = (flO2 N B m).2.1 := rfl
  have e2 : (flM N B m).2.1 = (flO2 N B m).2.2.1 := rfl
  have e3 : (flM N B m).2.2.1 = (flO2 N B m).2.2.2 := rfl
  rcases q1 with ⟨qn, q⟩ | q
  · have q : (flO2 N B m).2 = (m.1, m.2.1, m.2.2.1) := q
    refine ⟨by rw [e1, q]; exact g1, by rw [e1, e2, e3, q]; exact g2, by rw [e1, e2, q]; exact g3, fun j hj => by rw [j0 j hj]; exact wf, fun j hj b b1 b2 b3 => ?_⟩
    rw [j0 j hj] at b3
    have n0 : m.2.2.2.1 = [] := List.eq_nil_of_length_eq_zero (qn.elim id id)
    have b4 : b < 61 ∨ isT (Wj m 0) b := by
      refine b3.imp id (fun z => ?_)
      have ej : ∀ c, 43 ≤ c → c < N → Wj (flM N B m) 0 c = Wj m 0 c := fun c c1 c2 => by
        rw [ew c c1 c2]
        show befV m.1 m.2.1 m.2.2.2.1 c = befV m.1 m.2.1 (m.2.2.2.1.take 0) c
        rw [n0]
        rfl
      exact (isT_dep (g4 0 (Nat.zero_le _)).1 hN1 ej).mp z
    have z := g5 0 (Nat.zero_le _) b b1 b2 b4
    rcases z with z | z | z
    · exact absurd rfl z
    · exact Or.inr (Or.inl (by rw [e2, q]; exact z))
    · exact Or.inr (Or.inr (by rw [e1, q]; exact z))
  · have q : Qt N (flO2 N B m).2 := q
    have see0 : hSee (flO2 N B m).2.1 0 = mH00 N := by
      have z : hSee (flO2 N B m).2.1 0 = hSee m.1 0 := q2
      rw [z]
      exact g1 _ hPs_see
    refine ⟨fun y hy => ?_, fun y hy => ?_, fun y hy k hk => ?_, fun j hj => by rw [j0 j hj]; exact wf, fun j hj b b1 b2 b3 => Or.inr (Or.inr (fun y hy => q.1.ps b2 hy))⟩
    · rw [← see0]
      exact q.1.ps (by omega) hy
    · rw [q.1.ps (by omega) hy]
      exact q.2.1
    · rw [q.1.ps (show 2 < N by omega) hy]
      show hSee (flO2 N B m).2.1 2 k = _
      rw [q.2.2]
      rfl
end PXG
