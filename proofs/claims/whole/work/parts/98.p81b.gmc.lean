/-! ===== pure: a commit, and what a crash leaves ===== -/
section PXH
variable {N B gr r u : Nat} {V W : Nat → Rw} {m m' : M5} {tk tk' : Nat → Bool}
theorem Mr.gm (hN1 : 61 ≤ N) (h : Mr N B m m') (hm : MOk N B m) (hg : GM N m) : GM N m' := (h.2 (fun x => MOk N B x ∧ GM N x) ⟨hm, hg⟩ (fun x ⟨h1, h2⟩ ht => ⟨flM_ok hN1 h1 ht, h2.flush hN1 h1 ht⟩) (fun x rs ⟨h1, h2⟩ => ⟨h1, h2.rs⟩)).2
theorem RsK.gj (h : RsK m m') (hg : GJ m) : GJ m' := by
  rcases h with ⟨rs, e, hr⟩ | ⟨h1, h2⟩
  · refine ⟨?_, fun b hb => ?_⟩
    rotate_left
    · rw [e] at hb ⊢
      show rs b ≠ 1
      have q := hg.2 b hb
      rcases hr b with z | z
      · rw [z]
        exact q
      · omega
    intro j hj b hb
    rw [e] at hj hb ⊢
    rcases hg.1 j hj b hb with q | q
    · exact Or.inl q
    · refine Or.inr ?_
      show rs b = 1
      rcases hr b with z | z
      · rw [z]
        exact q
      · omega
  · refine ⟨?_, fun b _ => h2 b⟩
    intro j hj b hb
    refine Or.inl ?_
    have e : Wj m' j = befM m' := by
      funext c
      unfold Wj befM
      rw [h1]
      cases j with
      | zero => rfl
      | succ j => rfl
    rw [← e]
    exact hb
theorem RsK.len (h : RsK m m') : m'.2.2.2.1.length ≤ m.2.2.2.1.length := by
  rcases h with ⟨rs, e, hr⟩ | ⟨h1, h2⟩
  · rw [e]
    exact Nat.le_refl _
  · rw [h1]
    exact Nat.zero_le _
theorem Wj_app {q : QC} {j : Nat} {rs : Nat → Nat} (hj : j ≤ m.2.2.2.1.length) : Wj (m.1, m.2.1, m.2.2.1, m.2.2.2.1 ++ [q], rs) j = Wj m j := by
  funext b
  show befV m.1 m.2.1 ((m.2.2.2.1 ++ [q]).take j) b = befV m.1 m.2.1 (m.2.2.2.1.take j) b
  rw [List.take_append_of_le_length hj]
theorem GM.cq (hN1 : 61 ≤ N) (h : GM N m) (hV : WF N V) (hs : ∀ b, isT V b → tk b = true ∨ isT (befM m) b) : GM N (cmQ N m V tk) := by
  have hb := fun {b : Nat} (h1 : 43 ≤ b) (h2 : b < N) => cmQ_bef (N := N) (m := m) (V := V) (tk := tk) h1 h2
  unfold cmQ at hb ⊢
  by_cases c : rsC (isS (chQ N m V tk)) 1 N = 0
  · rw [if_pos c]
    exact h.rs
  · rw [if_neg c] at hb ⊢
    obtain ⟨g1, g2, g3, g4, g5⟩ := id h
    have elen : (m.2.2.2.1 ++ [chQ N m V tk]).length = m.2.2.2.1.length + 1 := by
      rw [List.length_append]
      rfl
    have last : ∀ j, j ≤ (m.2.2.2.1 ++ [chQ N m V tk]).length → ¬ j ≤ m.2.2.2.1.length → j = (m.2.2.2.1 ++ [chQ N m V tk]).length := fun j j1 j2 => by omega
    have el : Wj (m.1, m.2.1, m.2.2.1, m.2.2.2.1 ++ [chQ N m V tk], r21 m.2.2.2.2) (m.2.2.2.1 ++ [chQ N m V tk]).length = befM (m.1, m.2.1, m.2.2.1, m.2.2.2.1 ++ [chQ N m V tk], r21 m.2.2.2.2) := Wj_all (m := (m.1, m.2.1, m.2.2.1, m.2.2.2.1 ++ [chQ N m V tk], r21 m.2.2.2.2))
    refine ⟨g1, g2, g3, fun j hj => ?_, fun j hj b b1 b2 b3 => ?_⟩
    · by_cases c2 : j ≤ m.2.2.2.1.length
      · rw [Wj_app c2]
        exact g4 j c2
      · rw [last j hj c2, el]
        exact hV.rows hN1 (fun b b1 b2 => hb b1 b2)
    · by_cases c2 : j ≤ m.2.2.2.1.length
      · rw [Wj_app c2] at b3
        have z := g5 j c2 b b1 b2 b3
        show qVal ((m.2.2.2.1 ++ [chQ N m V tk]).take j) b ≠ none ∨ _
        rw [List.take_append_of_le_length c2]
        exact z
      · rw [last j hj c2, el] at b3
        show qVal ((m.2.2.2.1 ++ [chQ N m V tk]).take j) b ≠ none ∨ _
        rw [last j hj c2, List.take_length, qVal_app]
        cases ec : chQ N m V tk b with
        | some x => exact Or.inl (fun z => by cases z)
        | none =>
          have b4 : b < 61 ∨ isT (Wj m m.2.2.2.1.length) b := by
            refine b3.imp id (fun z => ?_)
            rw [Wj_all]
            rcases hs b ((isT_dep hV.1 hN1 (fun b b1 b2 => hb b1 b2)).mp z) with q | q
            · rw [chQ_s b1 b2 (Or.inl q)] at ec
              cases ec
            · exact q
          have z := g5 _ (Nat.le_refl _) b b1 b2 b4
          rw [List.take_length] at z
          exact z
theorem GJ.cq (hN1 : 61 ≤ N) (h : GJ m) (hV : WF N V) (hB : WF N (befM m)) (hs : ∀ b, isT (befM m) b → isT V b ∨ m.2.2.2.2 b = 2) (hu : ∀ b, btM (V 43) b = 1 → m.2.2.2.2 b = 0) : GJ (cmQ N m V tk) := by
  have hb := fun {b : Nat} (h1 : 43 ≤ b) (h2 : b < N) => cmQ_bef (N := N) (m := m) (V := V) (tk := tk) h1 h2
  unfold cmQ at hb ⊢
  by_cases c : rsC (isS (chQ N m V tk)) 1 N = 0
  · rw [if_pos c] at hb ⊢
    refine ⟨?_, fun b hbb => ?_⟩
    rotate_left
    · show (if m.2.2.2.2 b = 2 then 0 else m.2.2.2.2 b) ≠ 1
      have q := h.2 b hbb
      split
      · decide
      · exact q
    intro j hj b hjb
    rcases h.1 j hj b hjb with q | q
    · exact Or.inl q
    · refine Or.inr ?_
      show (if m.2.2.2.2 b = 2 then 0 else m.2.2.2.2 b) = 1
      rw [q]
      rfl
  · rw [if_neg c] at hb ⊢
    refine ⟨?_, fun b hbb => ?_⟩
    rotate_left
    · rw [hb (Nat.le_refl 43) (by omega)] at hbb
      show (if m.2.2.2.2 b = 2 then 1 else m.2.2.2.2 b) ≠ 1
      rw [hu b hbb]
      decide
    intro j hj b hjb
    have elen : (m.2.2.2.1 ++ [chQ N m V tk]).length = m.2.2.2.1.length + 1 := by
      rw [List.length_append]
      rfl
    have iv : isT V b → isT (befM (m.1, m.2.1, m.2.2.1, m.2.2.2.1 ++ [chQ N m V tk], r21 m.2.2.2.2)) b := fun z => (isT_dep hV.1 hN1 (fun b b1 b2 => hb b1 b2)).mpr z
    by_cases c2 : j ≤ m.2.2.2.1.length
    · rw [Wj_app c2] at hjb
      have r1 : m.2.2.2.2 b = 1 ∨ m.2.2.2.2 b = 2 → r21 m.2.2.2.2 b = 1 := fun z => by
        show (if m.2.2.2.2 b = 2 then 1 else m.2.2.2.2 b) = 1
        rcases z with z | z
        · rw [z]
          rfl
        · rw [if_pos z]
      rcases h.1 j c2 b hjb with q | q
      · rcases hs b q with w | w
        · exact Or.inl (iv w)
        · exact Or.inr (r1 (Or.inr w))
      · exact Or.inr (r1 (Or.inl q))
    · have : j = (m.2.2.2.1 ++ [chQ N m V tk]).length := by
        have hj : j ≤ (m.2.2.2.1 ++ [chQ N m V tk]).length := hj
        omega
      have el : Wj (m.1, m.2.1, m.2.2.1, m.2.2.2.1 ++ [chQ N m V tk], r21 m.2.2.2.2) (m.2.2.2.1 ++ [chQ N m V tk]).length = befM (m.1, m.2.1, m.2.2.1, m.2.2.2.1 ++ [chQ N m V tk], r21 m.2.2.2.2) := Wj_all (m := (m.1, m.2.1, m.2.2.1, m.2.2.2.1 ++ [chQ N m V tk], r21 m.2.2.2.2))
      rw [this, el] at hjb
      exact Or.inl hjb
/-- the state behind a commit -/
theorem MB.cm (hN1 : 61 ≤ N) (hgr : 1 ≤ gr) (hgr2 : gr ≤ 16) (hm : MOk N B m) (hph : Phi m ≤ u) (hlen : m.2.2.2.1.length < gr) (hr : ∀ b, b < N → m.2.2.2.2 b < 3) (hz : RZ N m) (hg : GM N m) (hj : GJ m) (hV : WF N V) (h1 : ∀ b, isT V b → tk b = true ∨ isT (befM m) b) (h2 : ∀ b, isT (befM m) b → isT V b ∨ m.2.2.2.2 b = 2) (hu : ∀ b, btM (V 43) b = 1 → m.2.2.2.2 b = 0) (hch : rsC (isS (chQ N m V tk)) 1 N ≤ 40) (hnd : ¬ cmD N B gr m V tk) : MB N B gr (u + 100) (cmM N B gr m V tk) ∧ (∀ b, 43 ≤ b → b < N → befM (cmM N B gr m V tk) b = V b) ∧ ∀ b, (cmM N B gr m V tk).2.2.2.2 b ≠ 2 := by
  have hmq := hm.cq (V := V) (tk := tk) hch
  have gq := hg.cq (tk := tk) hN1 hV h1
  have jq := hj.cq (N := N) (tk := tk) hN1 hV hg.bef h2 hu
  have hb := fun {b : Nat} (h1 : 43 ≤ b) (h2 : b < N) => cmQ_bef (N := N) (m := m) (V := V) (tk := tk) h1 h2
  have c20 : ∀ b, r20 m.2.2.2.2 b ≠ 2 := fun b => by
    show (if m.2.2.2.2 b = 2 then 0 else m.2.2.2.2 b) ≠ 2
    split
    · decide
    · assumption
  have c21 : ∀ b, r21 m.2.2.2.2 b ≠ 2 := fun b => by
    show (if m.2.2.2.2 b = 2 then 1 else m.2.2.2.2 b) ≠ 2
    split
    · decide
    · assumption
  have l20 : ∀ b, b < N → r20 m.2.2.2.2 b < 3 := fun b hb => by
    show (if m.2.2.2.2 b = 2 then 0 else m.2.2.2.2 b) < 3
    have := hr b hb
    split <;> omega
  have l21 : ∀ b, b < N → r21 m.2.2.2.2 b < 3 := fun b hb => by
    show (if m.2.2.2.2 b = 2 then 1 else m.2.2.2.2 b) < 3
    have := hr b hb
    split <;> omega
  have z20 : ∀ b, N ≤ b → r20 m.2.2.2.2 b = 0 := fun b hb => by
    show (if m.2.2.2.2 b = 2 then 0 else m.2.2.2.2 b) = 0
    rw [hz b hb]
    rfl
  have z21 : ∀ b, N ≤ b → r21 m.2.2.2.2 b = 0 := fun b hb => by
    show (if m.2.2.2.2 b = 2 then 1 else m.2.2.2.2 b) = 0
    rw [hz b hb]
    rfl
  unfold cmD at hnd
  unfold cmM
  unfold cmQ at hmq gq jq hb hnd ⊢
  unfold Phi at hph
  by_cases c : rsC (isS (chQ N m V tk)) 1 N = 0
  · rw [if_pos c] at hmq gq jq hb ⊢
    rw [if_pos c]
    exact ⟨⟨hmq, by unfold Phi; show hSp m.1 + 100 * m.2.2.2.1.length ≤ _; omega, hlen, hgr2, l20, z20, gq, jq⟩, fun b b1 b2 => hb b1 b2, c20⟩
  · rw [if_neg c] at hmq gq jq hb hnd ⊢
    rw [if_neg c]
    have elen : (m.2.2.2.1 ++ [chQ N m V tk]).length = m.2.2.2.1.length + 1 := by
      rw [List.length_append]
      rfl
    by_cases cl : (m.2.2.2.1 ++ [chQ N m V tk]).length = gr
    · have cl' : (m.1, m.2.1, m.2.2.1, m.2.2.2.1 ++ [chQ N m V tk], r21 m.2.2.2.2).2.2.2.1.length = gr := cl
      rw [if_pos cl']
      have ht : (flO2 N B (m.1, m.2.1, m.2.2.1, m.2.2.2.1 ++ [chQ N m V tk], r21 m.2.2.2.2)).1 = true := by
        cases e : (flO2 N B (m.1, m.2.1, m.2.2.1, m.2.2.2.1 ++ [chQ N m V tk], r21 m.2.2.2.2)).1 with
        | true => rfl
        | false => exact absurd ⟨c, cl', e⟩ hnd
      have sp := flM_sp hN1 hmq ht
      refine ⟨⟨flM_ok hN1 hmq ht, ?_, ?_, hgr2, fun b hb2 => ?_, fun b hb2 => ?_, gq.flush hN1 hmq ht, ?_⟩, fun b b1 b2 => by rw [flM_bef hN1 hmq ht b1 b2]; exact hb b1 b2, fun b => ?_⟩
      · unfold Phi
        show hSp (flM N B _).1 + 100 * 0 ≤ _
        have sp : hSp (flM N B (m.1, m.2.1, m.2.2.1, m.2.2.2.1 ++ [chQ N m V tk], r21 m.2.2.2.2)).1 ≤ hSp m.1 + 100 * (m.2.2.2.1 ++ [chQ N m V tk]).length := sp
        omega
      · show 0 < gr
        omega
      · show (if r21 m.2.2.2.2 b = 1 then 0 else r21 m.2.2.2.2 b) < 3
        have := l21 b hb2
        split <;> omega
      · show (if r21 m.2.2.2.2 b = 1 then 0 else r21 m.2.2.2.2 b) = 0
        rw [z21 b hb2]
        rfl
      · refine RsK.gj (m := (m.1, m.2.1, m.2.2.1, m.2.2.2.1 ++ [chQ N m V tk], r21 m.2.2.2.2)) (Or.inr ⟨rfl, fun b => ?_⟩) jq
        show (if r21 m.2.2.2.2 b = 1 then 0 else r21 m.2.2.2.2 b) ≠ 1
        split
        · decide
        · assumption
      · show (if r21 m.2.2.2.2 b = 1 then 0 else r21 m.2.2.2.2 b) ≠ 2
        have := c21 b
        split
        · decide
        · assumption
    · have cl' : ¬ (m.1, m.2.1, m.2.2.1, m.2.2.2.1 ++ [chQ N m V tk], r21 m.2.2.2.2).2.2.2.1.length = gr := cl
      rw [if_neg cl']
      refine ⟨⟨hmq, ?_, ?_, hgr2, l21, z21, gq, jq⟩, fun b b1 b2 => hb b1 b2, c21⟩
      · unfold Phi
        show hSp m.1 + 100 * (m.2.2.2.1 ++ [chQ N m V tk]).length ≤ _
        omega
      · show (m.2.2.2.1 ++ [chQ N m V tk]).length < gr
        omega
end PXH
