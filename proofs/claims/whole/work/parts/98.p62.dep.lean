/-! ===== pure: what the order of the file system hangs on ===== -/
section PWM
variable {N B gr : Nat} {V W : Nat → Rw}
/-- a table, or a block of a directory -/
def isT (V : Nat → Rw) (b : Nat) : Prop := b ≠ 0 ∧ ∃ i x, ir i ∧ x < 4234 ∧ pv V i x = b ∧ (tbx x ∨ f1 V i 0 = 2)
theorem hx_tb {x : Nat} (h : x < 4234) : tbx (hx x) := by
  unfold hx tbx
  by_cases a : x < 74
  · rw [if_pos a]
    exact Or.inl rfl
  · rw [if_neg a]
    by_cases b : x < 138
    · rw [if_pos b]
      exact Or.inr (Or.inl rfl)
    · rw [if_neg b]
      exact Or.inr (Or.inr ⟨by omega, by omega⟩)
theorem nmD_cg {i d : Nat} : ∀ n, (∀ s, s < n → sln W d s = sln V d s) → nmD W i d n = nmD V i d n
  | 0, _ => rfl
  | n + 1, h => by
    show nmD W i d n + (if sln W d n = i then 1 else 0) = nmD V i d n + (if sln V d n = i then 1 else 0)
    rw [nmD_cg n (fun s hs => h s (by omega)), h n (by omega)]
/-- what directory d tells of i -/
def ctM (V : Nat → Rw) (i d : Nat) : Nat := if 1 ≤ d ∧ f1 V d 0 = 2 then nmD V i d (szM V d / 16) else 0
theorem nmC_cg {i : Nat} : ∀ n, (∀ d, d < n → ctM W i d = ctM V i d) → nmC W i n = nmC V i n
  | 0, _ => rfl
  | n + 1, h => by
    show nmC W i n + ctM W i n = nmC V i n + ctM V i n
    rw [nmC_cg n (fun d hd => h d (by omega)), h n (by omega)]
theorem nmC_up {i e a b : Nat} : ∀ n, e < n → (∀ d, d < n → d ≠ e → ctM W i d = ctM V i d) → ctM W i e + a = ctM V i e + b → nmC W i n + a = nmC V i n + b
  | 0, he, _, _ => absurd he (Nat.not_lt_zero _)
  | n + 1, he, h, hc => by
    show nmC W i n + ctM W i n + a = nmC V i n + ctM V i n + b
    by_cases c : e = n
    · subst c
      rw [nmC_cg e (fun d hd => h d (by omega) (by omega))]
      omega
    · have := nmC_up n (by omega) (fun d hd hne => h d (by omega) hne) hc
      rw [h n (by omega) (fun z => c z.symm)]
      omega
theorem nmD_up {i d e a b : Nat} : ∀ n, e < n → (∀ s, s < n → s ≠ e → sln W d s = sln V d s) → (if sln W d e = i then 1 else 0) + a = (if sln V d e = i then 1 else 0) + b → nmD W i d n + a = nmD V i d n + b
  | 0, he, _, _ => absurd he (Nat.not_lt_zero _)
  | n + 1, he, h, hc => by
    show nmD W i d n + (if sln W d n = i then 1 else 0) + a = nmD V i d n + (if sln V d n = i then 1 else 0) + b
    by_cases c : e = n
    · subst c
      rw [nmD_cg e (fun s hs => h s (by omega) (by omega))]
      omega
    · have := nmD_up n (by omega) (fun s hs hne => h s (by omega) hne) hc
      rw [h n (by omega) (fun z => c z.symm)]
      omega
theorem nmD_ge {i d n : Nat} (hi : 1 ≤ i) : ∀ k, (∀ s, n ≤ s → s < n + k → sln V d s = 0) → nmD V i d (n + k) = nmD V i d n
  | 0, _ => rfl
  | k + 1, h => by
    show nmD V i d (n + k) + (if sln V d (n + k) = i then 1 else 0) = _
    rw [nmD_ge hi k (fun s h1 h2 => h s h1 (by omega)), h (n + k) (by omega) (by omega), if_neg (by omega)]
    rfl
theorem nmD_0 {i d n : Nat} (hi : 1 ≤ i) (h : ∀ s, s < n → sln V d s = 0) : nmD V i d n = 0 := by
  have := nmD_ge (V := V) (d := d) (n := 0) hi n (fun s _ h2 => h s (by omega))
  rw [Nat.zero_add] at this
  exact this
/-- only tables, directories and the blocks below 61 count -/
theorem WF.dep (h : WF N V) (hN1 : 61 ≤ N) (h1 : ∀ b, 43 ≤ b → b < 61 → W b = V b) (h2 : ∀ b, isT V b → W b = V b) : WF N W := by
  have e43 := h1 43 (by decide) (by decide)
  have e44 := h1 44 (by decide) (by decide)
  have eh : ∀ i, ir i → W (homeM i) = V (homeM i) := fun i hi => h1 _ (by have := ir_home hi; omega) (ir_home hi).2
  have ef : ∀ i a, ir i → f1 W i a = f1 V i a := fun i a hi => by
    unfold f1
    rw [eh i hi]
  have es : ∀ i, ir i → szM W i = szM V i := fun i hi => by
    unfold szM f4
    rw [eh i hi]
  have ep : ∀ i, ir i → ∀ x, x < 4234 → pv W i x = pv V i x := fun i hi => pv_eq (fun y hy h0 => by
    by_cases c : y < 10
    · rw [ph_0 c, eh i hi]
    · rw [ph_hx (by omega) hy] at h0 ⊢
      rw [h2 _ ⟨h0, i, hx y, hi, by have := hx_lt hy; omega, rfl, Or.inl (hx_tb hy)⟩])
  have ed : ∀ d s, ir d → f1 V d 0 = 2 → s < szM V d / 16 → W (pv W d (px (s / 8))) = V (pv V d (px (s / 8))) := fun d s hd hk hs => by
    obtain ⟨q1, q2, q3⟩ := h.dblk hd hk hs
    rw [ep d hd _ (px_lt q1)]
    exact h2 _ ⟨q2, d, px (s / 8), hd, px_lt q1, rfl, Or.inr hk⟩
  have esl : ∀ d s, ir d → f1 V d 0 = 2 → s < szM V d / 16 → sln W d s = sln V d s := fun d s hd hk hs => by
    unfold sln
    rw [ed d s hd hk hs]
  have ec : ∀ i, nmC W i 65 = nmC V i 65 := fun i => nmC_cg 65 (fun d hd => by
    unfold ctM
    by_cases hd1 : 1 ≤ d
    · have hir : ir d := ⟨hd1, by omega⟩
      rw [ef d 0 hir, es d hir]
      by_cases c : 1 ≤ d ∧ f1 V d 0 = 2
      · rw [if_pos c, if_pos c]
        exact nmD_cg _ (fun s hs => esl d s hir c.2 hs)
      · rw [if_neg c, if_neg c]
    · rw [if_neg (fun z => hd1 z.1), if_neg (fun z => hd1 z.1)])
  obtain ⟨a1, a2, a3, a4, a5, a6, a7, a8, a9, a10, a11⟩ := id h
  refine ⟨⟨by rw [e43]; exact a1.1, fun i x hi hx => by rw [ep i hi x hx]; exact a1.2.1 i x hi hx, fun i x j y hi hx hj hy h0 he => ?_, fun b b1 b2 => ?_⟩, fun i hi => ?_, fun i hi h0 a ha => ?_, fun k hk => ?_, fun d hd hk => ?_, fun d s hd hk hs => ?_, by rw [ef 1 0 ⟨Nat.le_refl _, by decide⟩]; exact a7, fun i hi => by rw [ef i 1 hi, ec i]; exact a8 i hi, fun i hi hk hne => ?_, by rw [ec]; exact a10, fun d s hd hk hl hs => ?_⟩
  · rw [ep i hi x hx] at h0 he
    rw [ep j hj y hy] at he
    exact a1.2.2.1 i x j y hi hx hj hy h0 he
  · rw [e43, a1.2.2.2 b b1 b2]
    exact ⟨fun ⟨i, x, i1, i2, i3⟩ => ⟨i, x, i1, i2, by rw [ep i i1 x i2]; exact i3⟩, fun ⟨i, x, i1, i2, i3⟩ => ⟨i, x, i1, i2, by rw [← ep i i1 x i2]; exact i3⟩⟩
  · rw [ef i 0 hi]
    refine ⟨(a2 i hi).1, ?_⟩
    obtain ⟨p1, p2⟩ := (a2 i hi).2
    refine ⟨by rw [es i hi]; exact p1, fun q q1 q2 => ?_⟩
    rw [es i hi] at q1
    rw [ep i hi _ (px_lt q2)]
    exact p2 q q1 q2
  · rw [ef i 0 hi] at h0
    rw [eh i hi]
    exact a3 i hi h0 a ha
  · rw [e44, a4 k hk]
    by_cases c : k < 64
    · rw [ef (k + 1) 0 ⟨by omega, by omega⟩]
    · rw [if_neg (fun z => c z.1), if_neg (fun z => c z.1)]
  · rw [ef d 0 hd] at hk
    rw [es d hd]
    obtain ⟨p1, p2⟩ := a5 d hd hk
    refine ⟨p1, fun q hq => ?_⟩
    have hdz := (a2 d hd).2.1
    rw [ep d hd _ (px_lt (by omega))]
    exact p2 q hq
  · rw [ef d 0 hd] at hk
    rw [es d hd] at hs
    rw [ed d s hd hk hs]
    rcases a6 d s hd hk hs with q | ⟨q1, q2, q3, q4⟩
    · exact Or.inl q
    · exact Or.inr ⟨q1, q2, by rw [ef _ 0 ⟨by omega, q2⟩]; exact q3, q4⟩
  · rw [ef i 0 hi] at hk
    rw [ef i 1 hi]
    exact a9 i hi hk hne
  · rw [ef d 0 hd] at hk
    rw [ef d 1 hd] at hl
    rw [es d hd] at hs
    rw [esl d s hd hk hs]
    exact a11 d s hd hk hl hs
end PWM
