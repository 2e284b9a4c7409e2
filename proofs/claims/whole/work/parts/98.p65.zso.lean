/-! ===== pure: what a cut leaves ===== -/
section PWP
variable {N B gr : Nat} {V V' W : Nat → Rw} {ow : Nat → Int} {i : Nat} {m m' : M5} {tk tk' : Nat → Bool} {X : Nat → Prop}
def clX (X : Nat → Prop) : Prop := ∀ y, 10 ≤ y → y < 4234 → X (hx y) → X y
theorem cX_cl {k : Nat} : clX (cX k) := fun y h1 h2 h => by
  unfold hx at h
  by_cases a : y < 74
  · rw [if_pos a] at h
    have := cX_8.mp h
    exact (cX_1 h1 a).mpr (by omega)
  · rw [if_neg a] at h
    by_cases b : y < 138
    · rw [if_pos b] at h
      have := cX_9.mp h
      exact (cX_2 (by omega) b).mpr (by omega)
    · rw [if_neg b] at h
      have := (cX_2 (by omega) (by omega)).mp h
      exact (cX_3 (by omega)).mpr (by omega)
/-- what stands where, behind a cut -/
theorem ZS.row (h : ZS N m V tk (FSx V i X) (ZSx V i X) m' V' tk') (hw : PW N V) (hi : ir i) {c : Nat} (c1 : 44 ≤ c) (c2 : c < N) (hF : ¬ FSx V i X c) {o : Nat} (ho : ¬ ∃ x, x < 4234 ∧ X x ∧ pv V i x ≠ 0 ∧ ph V i x = c ∧ po i x ≤ o ∧ o < po i x + 2) : V' c o = V c o := by
  rw [(h.2.2.1 c c1 c2).2 hF]
  exact zr_f ho
theorem ZS.num (h : ZS N m V tk (FSx V i X) (ZSx V i X) m' V' tk') (hw : PW N V) (hN1 : 61 ≤ N) (hi : ir i) {j y : Nat} (hj : ir j) (hy : y < 4234) (h0 : ph V j y ≠ 0) (hF : ¬ FSx V i X (ph V j y)) : n2 (V' (ph V j y)) (po j y) = @ite _ (j = i ∧ X y) (Classical.propDecidable _) 0 (pv V j y) := by
  obtain ⟨c1, c2, c3⟩ := hw.at hN1 hj hy h0
  have hv := pv_at (V := V) (i := j) hy
  rw [if_neg h0] at hv
  by_cases c : (j = i ∧ X y) ∧ pv V j y ≠ 0
  · obtain ⟨⟨e, hx⟩, hne⟩ := c
    rw [if_pos ⟨e, hx⟩]
    subst e
    have hz : ∀ o, po j y ≤ o → o < po j y + 2 → V' (ph V j y) o = 0 := fun o o1 o2 => by
      rw [(h.2.2.1 _ (by omega) c2).2 hF]
      exact zr_t ⟨y, hy, hx, hne, rfl, o1, o2⟩
    unfold n2 ub
    rw [hz _ (Nat.le_refl _) (by omega), hz _ (by omega) (by omega)]
    rfl
  · have hsame : n2 (V' (ph V j y)) (po j y) = pv V j y := by
      rw [hv]
      have hz : ∀ o, po j y ≤ o → o < po j y + 2 → V' (ph V j y) o = V (ph V j y) o := fun o o1 o2 => h.row hw hi (by omega) c2 hF (fun ⟨x, x1, x2, x3, x4, x5⟩ => c (by
        have q := hw.ap hi x1 hj hy x4 (by rw [x4]; exact h0) x5 ⟨o1, o2⟩
        rw [q.1, q.2] at x3
        rw [q.2] at x2
        exact ⟨⟨q.1.symm, x2⟩, x3⟩))
      exact n2_c (hz _ (Nat.le_refl _) (by omega)) (hz _ (by omega) (by omega))
    rw [hsame]
    by_cases c4 : j = i ∧ X y
    · rw [if_pos c4]
      exact Classical.byContradiction (fun z => c ⟨c4, z⟩)
    · rw [if_neg c4]
theorem ZS.pvs (h : ZS N m V tk (FSx V i X) (ZSx V i X) m' V' tk') (hw : PW N V) (hN1 : 61 ≤ N) (hi : ir i) (hcl : clX X) {j : Nat} (hj : ir j) : ∀ y, y < 4234 → pv V' j y = @ite _ (j = i ∧ X y) (Classical.propDecidable _) 0 (pv V j y) := by
  have hFh : ∀ y, y < 10 → ¬ FSx V i X (ph V j y) := fun y hy ⟨_, x, x1, x2, x3⟩ => by
    rw [ph_0 hy] at x3
    have := ir_home hj
    rcases hw.2.1 i x hi x1 with q | q
    · omega
    · omega
  have e10 : ∀ y, y < 10 → pv V' j y = @ite _ (j = i ∧ X y) (Classical.propDecidable _) 0 (pv V j y) := fun y hy => by
    have q := h.num hw hN1 hi hj (show y < 4234 by omega) (by rw [ph_0 hy]; exact homeM_ne j) (hFh y hy)
    rw [pv_at (V := V') (by omega), ph_0 hy, if_neg (homeM_ne j)]
    rw [ph_0 hy] at q
    exact q
  have step : ∀ y, 10 ≤ y → y < 4234 → (pv V' j (hx y) = @ite _ (j = i ∧ X (hx y)) (Classical.propDecidable _) 0 (pv V j (hx y))) → pv V' j y = @ite _ (j = i ∧ X y) (Classical.propDecidable _) 0 (pv V j y) := fun y h1 h2 he => by
    rw [pv_at (V := V') h2, ph_hx (V := V') h1 h2, he]
    by_cases c : j = i ∧ X (hx y)
    · rw [if_pos c, if_pos rfl, if_pos ⟨c.1, hcl y h1 h2 c.2⟩]
    · rw [if_neg c]
      by_cases c0 : pv V j (hx y) = 0
      · rw [if_pos c0]
        have : pv V j y = 0 := by rw [pv_at h2, ph_hx h1 h2, if_pos c0]
        rw [this]
        split
        · rfl
        · rfl
      · rw [if_neg c0]
        have hl := hx_lt h2
        have hF : ¬ FSx V i X (ph V j y) := fun ⟨_, x, x1, x2, x3⟩ => by
          rw [ph_hx h1 h2] at x3
          have q := hw.2.2.1 i x j (hx y) hi x1 hj (by omega) (by rw [x3]; exact c0) x3
          rw [q.2] at x2
          exact c ⟨q.1.symm, x2⟩
        have q := h.num hw hN1 hi hj h2 (by rw [ph_hx h1 h2]; exact c0) hF
        rw [ph_hx h1 h2] at q
        exact q
  have e138 : ∀ y, y < 138 → pv V' j y = @ite _ (j = i ∧ X y) (Classical.propDecidable _) 0 (pv V j y) := fun y hy => by
    by_cases c : y < 10
    · exact e10 y c
    · exact step y (by omega) (by omega) (e10 _ (hx_lo hy))
  intro y hy
  by_cases c : y < 10
  · exact e10 y c
  · exact step y (by omega) hy (e138 _ (hx_lt hy))
theorem ZS.pw (h : ZS N m V tk (FSx V i X) (ZSx V i X) m' V' tk') (hw : PW N V) (hN1 : 61 ≤ N) (hN : N ≤ 1024) (hi : ir i) (hcl : clX X) : PW N V' := by
  have ep := fun {j y : Nat} (hj : ir j) (hy : y < 4234) => h.pvs hw hN1 hi hcl hj y hy
  obtain ⟨-, -, -, -, -, hbt⟩ := id h
  have hFr : ∀ b, FSx V i X b → 61 ≤ b ∧ b < N := fun b ⟨b0, x, x1, x2, x3⟩ => by
    rcases hw.2.1 i x hi x1 with q | q
    · omega
    · omega
  refine ⟨⟨fun b hb => ?_, fun b hb hb2 => ?_⟩, fun j y hj hy => ?_, fun j y j2 y2 hj hy hj2 hy2 h0 he => ?_, fun b b1 b2 => ?_⟩
  · rw [(hbt b (by omega)).2 (fun z => by have := hFr b z; omega)]
    exact hw.1.1 b hb
  · rw [(hbt b hb2).2 (fun z => by have := hFr b z; omega)]
    exact hw.1.2 b hb hb2
  · rw [ep hj hy]
    split
    · exact Or.inl rfl
    · exact hw.2.1 j y hj hy
  · rw [ep hj hy] at h0 he
    rw [ep hj2 hy2] at he
    by_cases c : j = i ∧ X y
    · rw [if_pos c] at h0
      exact absurd rfl h0
    · rw [if_neg c] at h0 he
      by_cases c2 : j2 = i ∧ X y2
      · rw [if_pos c2] at he
        exact absurd he h0
      · rw [if_neg c2] at he
        exact hw.2.2.1 j y j2 y2 hj hy hj2 hy2 h0 he
  · by_cases cF : FSx V i X b
    · rw [(hbt b (by omega)).1 cF]
      refine ⟨(fun z => by cases z), fun ⟨j, y, j1, j2, j3⟩ => ?_⟩
      rw [ep j1 j2] at j3
      by_cases c : j = i ∧ X y
      · rw [if_pos c] at j3
        omega
      · rw [if_neg c] at j3
        obtain ⟨b0, x, x1, x2, x3⟩ := cF
        have q := hw.2.2.1 j y i x j1 j2 hi x1 (by omega) (by rw [j3, x3])
        rw [← q.2] at x2
        exact absurd ⟨q.1, x2⟩ c
    · rw [(hbt b (by omega)).2 cF, hw.2.2.2 b b1 b2]
      refine ⟨fun ⟨j, y, j1, j2, j3⟩ => ⟨j, y, j1, j2, ?_⟩, fun ⟨j, y, j1, j2, j3⟩ => ⟨j, y, j1, j2, ?_⟩⟩
      · rw [ep j1 j2, if_neg (fun c => cF ⟨by omega, y, j2, c.2, by rw [← c.1]; exact j3⟩)]
        exact j3
      · rw [ep j1 j2] at j3
        by_cases c : j = i ∧ X y
        · rw [if_pos c] at j3
          omega
        · rw [if_neg c] at j3
          exact j3
/-- bytes that are no numbers stay -/
theorem ZS.ino (h : ZS N m V tk (FSx V i X) (ZSx V i X) m' V' tk') (hw : PW N V) (hN1 : 61 ≤ N) (hi : ir i) {j a : Nat} (hj : ir j) (ha : a < 32) (hja : j ≠ i ∨ a < 12) : V' (homeM j) (startM j + a) = V (homeM j) (startM j + a) := by
  obtain ⟨q1, q2⟩ := ir_home hj
  refine h.row hw hi (by omega) (by omega) ?_ ?_
  · rintro ⟨_, x, x1, x2, x3⟩
    rcases hw.2.1 i x hi x1 with q | q
    · omega
    · omega
  · rintro ⟨x, x1, x2, x3, x4, x5⟩
    by_cases c : x < 10
    · rw [ph_0 c] at x4
      have hpo : startM i + 12 ≤ po i x ∧ po i x ≤ startM i + 30 := by
        unfold po
        split
        · omega
        · split
          · omega
          · split
            · omega
            · omega
      by_cases e : j = i
      · rw [e] at x5
        rcases hja with q | q
        · exact q e
        · omega
      · rcases ino_ap hi.1 hj.1 (fun z => e z.symm) with q | q
        · exact q x4
        · omega
    · rw [ph_hx (by omega) x1] at x4
      have hl := hx_lt x1
      rcases hw.2.1 i (hx x) hi (by omega) with q | q
      · omega
      · omega
theorem ZS.x44 (h : ZS N m V tk (FSx V i X) (ZSx V i X) m' V' tk') (hw : PW N V) (hN1 : 61 ≤ N) (hi : ir i) : V' 44 = V 44 := by
  funext o
  refine h.row hw hi (Nat.le_refl _) (by omega) (fun ⟨_, x, x1, x2, x3⟩ => ?_) (fun ⟨x, x1, x2, x3, x4, x5⟩ => ?_)
  · rcases hw.2.1 i x hi x1 with q | q
    · omega
    · omega
  · obtain ⟨c1, c2, c3⟩ := hw.at hN1 hi x1 (by rw [x4]; decide)
    omega
/-- other blocks stay -/
theorem ZS.blk (h : ZS N m V tk (FSx V i X) (ZSx V i X) m' V' tk') (hw : PW N V) (hN1 : 61 ≤ N) (hi : ir i) {j y : Nat} (hj : ir j) (hy : y < 4234) (h0 : pv V j y ≠ 0) (hne : ¬ (j = i ∧ (X y ∨ tbx y))) : V' (pv V j y) = V (pv V j y) := by
  funext o
  have hr := (hw.2.1 j y hj hy).resolve_left h0
  refine h.row hw hi (by omega) hr.2 (fun ⟨_, x, x1, x2, x3⟩ => ?_) (fun ⟨x, x1, x2, x3, x4, x5⟩ => ?_)
  · have q := hw.2.2.1 i x j y hi x1 hj hy (by rw [x3]; exact h0) x3
    rw [q.2] at x2
    exact hne ⟨q.1.symm, Or.inl x2⟩
  · by_cases c : x < 10
    · rw [ph_0 c] at x4
      have := ir_home hi
      omega
    · rw [ph_hx (by omega) x1] at x4
      have hl := hx_lt x1
      have q := hw.2.2.1 i (hx x) j y hi (by omega) hj hy (by rw [x4]; exact h0) x4
      refine hne ⟨q.1.symm, Or.inr ?_⟩
      rw [← q.2]
      exact hx_tb x1
end PWP
