/-! ===== pure: the order with links that are owed; a slot changes ===== -/
section PWN
variable {N B gr : Nat} {V W : Nat → Rw} {ow : Nat → Int}
/-- in order, but that inode i has ow i links more than names -/
def WFs (N : Nat) (V : Nat → Rw) (ow : Nat → Int) : Prop := PW N V ∧ (∀ i, ir i → f1 V i 0 ≤ 2 ∧ PzE V i) ∧ (∀ i, ir i → f1 V i 0 = 0 → ∀ a, a < 32 → ub (V (homeM i)) (startM i + a) = 0) ∧ (∀ k, k < 1024 → btM (V 44) k = if k < 64 ∧ f1 V (k + 1) 0 ≠ 0 then 1 else 0) ∧ (∀ d, ir d → f1 V d 0 = 2 → szM V d % 128 = 0 ∧ ∀ q, q < szM V d / 128 → pv V d (px q) ≠ 0) ∧ (∀ d s, ir d → f1 V d 0 = 2 → s < szM V d / 16 → SlO V (V (pv V d (px (s / 8)))) (16 * (s % 8))) ∧ f1 V 1 0 = 2 ∧ ∀ i, ir i → (f1 V i 1 : Int) = (nmC V i 65 : Int) + (if i = 1 then 1 else 0) + ow i
theorem WF.s (h : WF N V) : WFs N V (fun _ => 0) := by
  obtain ⟨a1, a2, a3, a4, a5, a6, a7, a8, a9, a10, a11⟩ := h
  refine ⟨a1, a2, a3, a4, a5, a6, a7, fun i hi => ?_⟩
  rw [a8 i hi]
  show _ = _ + (0 : Int)
  by_cases c : i = 1
  · rw [if_pos c, if_pos c]
    omega
  · rw [if_neg c, if_neg c]
    omega
theorem WFs.wf (h : WFs N V ow) (ho : ∀ i, ir i → ow i = 0) (h9 : ∀ i, ir i → f1 V i 0 = 2 → i ≠ 1 → f1 V i 1 ≤ 1) (h10 : nmC V 1 65 = 0) (h11 : ∀ d s, ir d → f1 V d 0 = 2 → f1 V d 1 = 0 → s < szM V d / 16 → sln V d s = 0) : WF N V := by
  obtain ⟨a1, a2, a3, a4, a5, a6, a7, a8⟩ := h
  refine ⟨a1, a2, a3, a4, a5, a6, a7, fun i hi => ?_, h9, h10, h11⟩
  have := a8 i hi
  rw [ho i hi] at this
  by_cases c : i = 1
  · rw [if_pos c] at this ⊢
    omega
  · rw [if_neg c] at this ⊢
    omega
theorem WFs.dblk {d s : Nat} (h : WFs N V ow) (hd : ir d) (hk : f1 V d 0 = 2) (hs : s < szM V d / 16) : s / 8 < 4168 ∧ pv V d (px (s / 8)) ≠ 0 ∧ s < 2 ^ 30 := by
  have h1 := (h.2.1 d hd).2.1
  obtain ⟨h2, h3⟩ := h.2.2.2.2.1 d hd hk
  exact ⟨by omega, h3 _ (by omega), by omega⟩
/-- only bytes a..a+15 of row b changed -/
def RowC (V W : Nat → Rw) (b a : Nat) : Prop := (∀ c, c ≠ b → W c = V c) ∧ ∀ o, o < 128 → (o < a ∨ a + 16 ≤ o) → W b o = V b o
theorem RowC.n2 {b a o : Nat} (h : RowC V W b a) (ho : o + 2 ≤ 128) (hd : o + 2 ≤ a ∨ a + 16 ≤ o) : n2 (W b) o = n2 (V b) o := n2_c (h.2 o (by omega) (by omega)) (h.2 (o + 1) (by omega) (by omega))
/-- a slot of a directory: what stays -/
theorem RowC.fr {d s : Nat} (h : RowC V W (pv V d (px (s / 8))) (16 * (s % 8))) (hw : PW N V) (hN1 : 61 ≤ N) (hd : ir d) (hs : s / 8 < 4168) (h0 : pv V d (px (s / 8)) ≠ 0) : (∀ c, c < 61 → W c = V c) ∧ (∀ i, ir i → ∀ x, x < 4234 → pv W i x = pv V i x) ∧ ∀ d' s', ir d' → s' / 8 < 4168 → pv V d' (px (s' / 8)) ≠ 0 → ¬ (d' = d ∧ s' = s) → ∀ o, 16 * (s' % 8) ≤ o → o < 16 * (s' % 8) + 16 → W (pv V d' (px (s' / 8))) o = V (pv V d' (px (s' / 8))) o := by
  have hr := (hw.2.1 d (px (s / 8)) hd (px_lt hs)).resolve_left h0
  refine ⟨fun c hc => h.1 c (by omega), fun i hi => pv_eq (fun y hy hp0 => ?_), fun d' s' hd' hs' hp0 hne o o1 o2 => ?_⟩
  · rw [h.1 _ (fun e => ?_)]
    by_cases c : y < 10
    · rw [ph_0 c] at e
      have := ir_home hi
      omega
    · rw [ph_hx (by omega) hy] at e hp0
      have q := hw.2.2.1 i (hx y) d (px (s / 8)) hi (by have := hx_lt hy; omega) hd (px_lt hs) hp0 e
      have := hx_tb hy
      rw [q.2] at this
      exact px_tb this
  · by_cases e : pv V d' (px (s' / 8)) = pv V d (px (s / 8))
    · have q := hw.2.2.1 d' (px (s' / 8)) d (px (s / 8)) hd' (px_lt hs') hd (px_lt hs) hp0 e
      have qs := px_inj q.2
      rw [e]
      refine h.2 o (by omega) ?_
      by_cases c : s' % 8 = s % 8
      · exact absurd ⟨q.1, by omega⟩ hne
      · omega
    · rw [h.1 _ e]
/-- a slot gets another inode, or none -/
theorem WFs.slot {d s : Nat} (h : WFs N V ow) (hN1 : 61 ≤ N) (hd : ir d) (hk : f1 V d 0 = 2) (hs : s < szM V d / 16) (hr : RowC V W (pv V d (px (s / 8))) (16 * (s % 8))) (hsl : SlO V (W (pv V d (px (s / 8)))) (16 * (s % 8))) : WFs N W (fun i => ow i + (if sln V d s = i then 1 else 0) - (if n2 (W (pv V d (px (s / 8)))) (16 * (s % 8)) = i then 1 else 0)) ∧ (∀ i, ir i → f1 W i 0 = f1 V i 0 ∧ f1 W i 1 = f1 V i 1 ∧ szM W i = szM V i ∧ ∀ x, x < 4234 → pv W i x = pv V i x) ∧ (∀ d' s', ir d' → f1 V d' 0 = 2 → s' < szM V d' / 16 → ¬ (d' = d ∧ s' = s) → sln W d' s' = sln V d' s') ∧ sln W d s = n2 (W (pv V d (px (s / 8)))) (16 * (s % 8)) := by
  obtain ⟨a1, a2, a3, a4, a5, a6, a7, a8⟩ := id h
  obtain ⟨b1, b2, b3⟩ := h.dblk hd hk hs
  obtain ⟨r1, r2, r3⟩ := hr.fr a1 hN1 hd b1 b2
  have eh : ∀ i, ir i → W (homeM i) = V (homeM i) := fun i hi => r1 _ (ir_home hi).2
  have ef : ∀ i a, ir i → f1 W i a = f1 V i a := fun i a hi => by
    unfold f1
    rw [eh i hi]
  have es : ∀ i, ir i → szM W i = szM V i := fun i hi => by
    unfold szM f4
    rw [eh i hi]
  have e43 := r1 43 (by decide)
  have e44 := r1 44 (by decide)
  have eblk : ∀ d' s', ir d' → f1 V d' 0 = 2 → s' < szM V d' / 16 → pv W d' (px (s' / 8)) = pv V d' (px (s' / 8)) := fun d' s' hd' hk' hs' => r2 d' hd' _ (px_lt (h.dblk hd' hk' hs').1)
  have esl : ∀ d' s', ir d' → f1 V d' 0 = 2 → s' < szM V d' / 16 → ¬ (d' = d ∧ s' = s) → sln W d' s' = sln V d' s' := fun d' s' hd' hk' hs' hne => by
    obtain ⟨q1, q2, q3⟩ := h.dblk hd' hk' hs'
    unfold sln
    rw [eblk d' s' hd' hk' hs']
    exact n2_c (r3 d' s' hd' q1 q2 hne _ (Nat.le_refl _) (by omega)) (r3 d' s' hd' q1 q2 hne _ (by omega) (by omega))
  have esd : sln W d s = n2 (W (pv V d (px (s / 8)))) (16 * (s % 8)) := by
    unfold sln
    rw [eblk d s hd hk hs]
  have ec : ∀ i, ir i → nmC W i 65 + (if sln V d s = i then 1 else 0) = nmC V i 65 + (if n2 (W (pv V d (px (s / 8)))) (16 * (s % 8)) = i then 1 else 0) := fun i hi => by
    refine nmC_up (e := d) 65 (by have := hd.2; omega) (fun d' hd' hne => ?_) ?_
    · unfold ctM
      by_cases h1 : 1 ≤ d'
      · have hir : ir d' := ⟨h1, by omega⟩
        rw [ef d' 0 hir, es d' hir]
        by_cases c : 1 ≤ d' ∧ f1 V d' 0 = 2
        · rw [if_pos c, if_pos c]
          exact nmD_cg _ (fun s' hs' => esl d' s' hir c.2 hs' (fun z => hne z.1))
        · rw [if_neg c, if_neg c]
      · rw [if_neg (fun z => h1 z.1), if_neg (fun z => h1 z.1)]
    · unfold ctM
      rw [ef d 0 hd, es d hd, if_pos (show 1 ≤ d ∧ f1 V d 0 = 2 from ⟨hd.1, hk⟩), if_pos (show 1 ≤ d ∧ f1 V d 0 = 2 from ⟨hd.1, hk⟩)]
      refine nmD_up (e := s) _ hs (fun s' hs' hne => esl d s' hd hk hs' (fun z => hne z.2)) ?_
      rw [esd]
      omega
  refine ⟨⟨⟨by rw [e43]; exact a1.1, fun i x hi hx => by rw [r2 i hi x hx]; exact a1.2.1 i x hi hx, fun i x j y hi hx hj hy h0 he => ?_, fun b b1 b2 => ?_⟩, fun i hi => ?_, fun i hi h0 a ha => ?_, fun k hk => ?_, fun d' hd' hk' => ?_, fun d' s' hd' hk' hs' => ?_, by rw [ef 1 0 ⟨Nat.le_refl _, by decide⟩]; exact a7, fun i hi => ?_⟩, fun i hi => ⟨ef i 0 hi, ef i 1 hi, es i hi, r2 i hi⟩, esl, esd⟩
  · rw [r2 i hi x hx] at h0 he
    rw [r2 j hj y hy] at he
    exact a1.2.2.1 i x j y hi hx hj hy h0 he
  · rw [e43, a1.2.2.2 b b1 b2]
    exact ⟨fun ⟨i, x, i1, i2, i3⟩ => ⟨i, x, i1, i2, by rw [r2 i i1 x i2]; exact i3⟩, fun ⟨i, x, i1, i2, i3⟩ => ⟨i, x, i1, i2, by rw [← r2 i i1 x i2]; exact i3⟩⟩
  · rw [ef i 0 hi]
    refine ⟨(a2 i hi).1, ?_⟩
    obtain ⟨p1, p2⟩ := (a2 i hi).2
    refine ⟨by rw [es i hi]; exact p1, fun q q1 q2 => ?_⟩
    rw [es i hi] at q1
    rw [r2 i hi _ (px_lt q2)]
    exact p2 q q1 q2
  · rw [ef i 0 hi] at h0
    rw [eh i hi]
    exact a3 i hi h0 a ha
  · rw [e44, a4 k hk]
    by_cases c : k < 64
    · rw [ef (k + 1) 0 ⟨by omega, by omega⟩]
    · rw [if_neg (fun z => c z.1), if_neg (fun z => c z.1)]
  · rw [ef d' 0 hd'] at hk'
    rw [es d' hd']
    obtain ⟨p1, p2⟩ := a5 d' hd' hk'
    refine ⟨p1, fun q hq => ?_⟩
    have hdz := (a2 d' hd').2.1
    rw [r2 d' hd' _ (px_lt (by omega))]
    exact p2 q hq
  · rw [ef d' 0 hd'] at hk'
    rw [es d' hd'] at hs'
    rw [eblk d' s' hd' hk' hs']
    have conv : ∀ y a, SlO V y a → SlO W y a := fun y a q => by
      rcases q with q | ⟨q1, q2, q3, q4⟩
      · exact Or.inl q
      · exact Or.inr ⟨q1, q2, by rw [ef _ 0 ⟨by omega, q2⟩]; exact q3, q4⟩
    by_cases c : d' = d ∧ s' = s
    · rw [c.1, c.2]
      exact conv _ _ hsl
    · obtain ⟨q1, q2, q3⟩ := h.dblk hd' hk' hs'
      have hb := r3 d' s' hd' q1 q2 c
      have en : n2 (W (pv V d' (px (s' / 8)))) (16 * (s' % 8)) = n2 (V (pv V d' (px (s' / 8)))) (16 * (s' % 8)) := n2_c (hb _ (Nat.le_refl _) (by omega)) (hb _ (by omega) (by omega))
      refine conv _ _ ?_
      rcases a6 d' s' hd' hk' hs' with z | ⟨z1, z2, z3, ln, z4, z5, z6⟩
      · exact Or.inl ⟨by rw [en]; exact z.1, fun o o1 o2 => by rw [hb o (by omega) o2]; exact z.2 o o1 o2⟩
      · have hl := z5.2.1
        refine Or.inr ⟨by rw [en]; exact z1, by rw [en]; exact z2, by rw [en]; exact z3, ln, by rw [hb _ (by omega) (by omega)]; exact z4, ⟨z5.1, z5.2.1, fun k hk => by rw [hb _ (by omega) (by omega)]; exact z5.2.2.1 k hk, fun q => ?_⟩, fun o o1 o2 => by rw [hb o (by omega) o2]; exact z6 o o1 o2⟩
        obtain ⟨k, k1, k2⟩ := z5.2.2.2 q
        exact ⟨k, k1, by rw [hb _ (by omega) (by omega)]; exact k2⟩
  · have e1 := a8 i hi
    have e2 := ec i hi
    rw [ef i 1 hi, e1]
    show _ = (nmC W i 65 : Int) + (if i = 1 then 1 else 0) + (ow i + (if sln V d s = i then 1 else 0) - (if n2 (W (pv V d (px (s / 8)))) (16 * (s % 8)) = i then 1 else 0))
    by_cases q1 : sln V d s = i
    · rw [if_pos q1] at e2 ⊢
      by_cases q2 : n2 (W (pv V d (px (s / 8)))) (16 * (s % 8)) = i
      · rw [if_pos q2] at e2 ⊢
        omega
      · rw [if_neg q2] at e2 ⊢
        omega
    · rw [if_neg q1] at e2 ⊢
      by_cases q2 : n2 (W (pv V d (px (s / 8)))) (16 * (s % 8)) = i
      · rw [if_pos q2] at e2 ⊢
        omega
      · rw [if_neg q2] at e2 ⊢
        omega
end PWN
