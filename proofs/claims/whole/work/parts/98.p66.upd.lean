/-! ===== pure: one inode changes ===== -/
section PWQ
variable {N B gr : Nat} {V W : Nat → Rw} {ow : Nat → Int} {i : Nat}
theorem n2_b {y z : Rw} {o : Nat} (h : n2 y o = n2 z o) : ub y o = ub z o ∧ ub y (o + 1) = ub z (o + 1) := by
  unfold n2 at h
  have h1 : ub y o < 256 := Nat.mod_lt _ (by decide)
  have h2 : ub z o < 256 := Nat.mod_lt _ (by decide)
  omega
theorem pv_10 {j x : Nat} (hx : x < 10) : pv V j x = n2 (V (homeM j)) (startM j + (12 + 2 * x)) := by
  rw [pv_at (by omega), ph_0 hx, if_neg (homeM_ne j)]
  congr 1
  unfold po
  split
  · omega
  · split
    · omega
    · rw [if_pos (by omega)]
      omega
/-- the bytes of an inode behind its first 12 are its numbers -/
theorem ino_pv {j : Nat} (h1 : ∀ a, a < 12 → ub (W (homeM j)) (startM j + a) = ub (V (homeM j)) (startM j + a)) (h2 : ∀ x, x < 10 → pv W j x = pv V j x) : ∀ a, a < 32 → ub (W (homeM j)) (startM j + a) = ub (V (homeM j)) (startM j + a) := fun a ha => by
  by_cases c : a < 12
  · exact h1 a c
  · have e := h2 ((a - 12) / 2) (by omega)
    rw [pv_10 (by omega), pv_10 (by omega)] at e
    obtain ⟨q1, q2⟩ := n2_b e
    by_cases p : a % 2 = 0
    · have : 12 + 2 * ((a - 12) / 2) = a := by omega
      rw [this] at q1
      exact q1
    · have : startM j + (12 + 2 * ((a - 12) / 2)) + 1 = startM j + a := by omega
      rw [this] at q2
      exact q2
/-- inode i changes, what it has and what its slots tell, names stay -/
theorem WFs.upd (h : WFs N V ow) (hi : ir i) (hp : PW N W)
    (hb : ∀ j, ir j → j ≠ i → ∀ a, a < 12 → ub (W (homeM j)) (startM j + a) = ub (V (homeM j)) (startM j + a))
    (hv : ∀ j, ir j → j ≠ i → ∀ x, x < 4234 → pv W j x = pv V j x)
    (hd : ∀ d q, ir d → d ≠ i → f1 V d 0 = 2 → q < 4168 → pv V d (px q) ≠ 0 → W (pv V d (px q)) = V (pv V d (px q)))
    (h44 : ∀ k, k < 1024 → btM (W 44) k = if k < 64 ∧ f1 W (k + 1) 0 ≠ 0 then 1 else 0)
    (k1 : f1 W i 0 ≤ 2) (k2 : PzE W i) (k3 : f1 W i 0 = 0 → ∀ a, a < 32 → ub (W (homeM i)) (startM i + a) = 0)
    (k4 : f1 W i 0 = 2 → szM W i % 128 = 0 ∧ ∀ q, q < szM W i / 128 → pv W i (px q) ≠ 0)
    (k5 : f1 W i 0 = 2 → ∀ s, s < szM W i / 16 → SlO V (W (pv W i (px (s / 8)))) (16 * (s % 8)))
    (k6 : i = 1 → f1 W 1 0 = 2)
    (k7 : f1 W i 0 ≠ 0 ∨ nmC V i 65 = 0) (k8 : ∀ j, ir j → ctM W j i = ctM V j i) :
    WFs N W (fun j => ow j + if j = i then (f1 W i 1 : Int) - (f1 V i 1 : Int) else 0) ∧ (∀ j, ir j → j ≠ i → f1 W j 0 = f1 V j 0 ∧ f1 W j 1 = f1 V j 1 ∧ szM W j = szM V j) ∧ (∀ d s, ir d → d ≠ i → f1 V d 0 = 2 → s < szM V d / 16 → sln W d s = sln V d s) ∧ ∀ j, ir j → nmC W j 65 = nmC V j 65 := by
  obtain ⟨a1, a2, a3, a4, a5, a6, a7, a8⟩ := id h
  have ek : ∀ j, ir j → j ≠ i → f1 W j 0 = f1 V j 0 := fun j hj hne => hb j hj hne 0 (by decide)
  have el : ∀ j, ir j → j ≠ i → f1 W j 1 = f1 V j 1 := fun j hj hne => hb j hj hne 1 (by decide)
  have es : ∀ j, ir j → j ≠ i → szM W j = szM V j := fun j hj hne => sz_c (fun b b1 b2 => hb j hj hne b (by omega))
  have eb : ∀ d s, ir d → d ≠ i → f1 V d 0 = 2 → s < szM V d / 16 → W (pv W d (px (s / 8))) = V (pv V d (px (s / 8))) := fun d s hd' hne hk2 hs => by
    obtain ⟨q1, q2, q3⟩ := h.dblk hd' hk2 hs
    rw [hv d hd' hne _ (px_lt q1)]
    exact hd d _ hd' hne hk2 q1 q2
  have esl : ∀ d s, ir d → d ≠ i → f1 V d 0 = 2 → s < szM V d / 16 → sln W d s = sln V d s := fun d s hd' hne hk2 hs => by
    unfold sln
    rw [eb d s hd' hne hk2 hs]
  have ec : ∀ j, ir j → nmC W j 65 = nmC V j 65 := fun j hj => nmC_cg 65 (fun d hd' => by
    by_cases ci : d = i
    · rw [ci]
      exact k8 j hj
    · unfold ctM
      by_cases h1 : 1 ≤ d
      · have hir : ir d := ⟨h1, by omega⟩
        rw [ek d hir ci]
        by_cases c : 1 ≤ d ∧ f1 V d 0 = 2
        · rw [if_pos c, if_pos c, es d hir ci]
          exact nmD_cg _ (fun s hs => esl d s hir ci c.2 hs)
        · rw [if_neg c, if_neg c]
      · rw [if_neg (fun z => h1 z.1), if_neg (fun z => h1 z.1)])
  have kt : ∀ t d s, ir t → f1 V t 0 ≠ 0 → ir d → f1 V d 0 = 2 → s < szM V d / 16 → sln V d s = t → f1 W t 0 ≠ 0 := fun t d s ht hk hd' hk2 hs e => by
    by_cases c : t = i
    · rcases k7 with q | q
      · rw [c]; exact q
      · have := nmC_pos hk2 hd'.1 hs e 65 (by have := hd'.2; omega)
        rw [c] at this
        omega
    · rw [ek t ht c]
      exact hk
  refine ⟨⟨hp, fun j hj => ?_, fun j hj h0 a ha => ?_, h44, fun d hd' hk2 => ?_, fun d s hd' hk2 hs => ?_, ?_, fun j hj => ?_⟩, fun j hj hne => ⟨ek j hj hne, el j hj hne, es j hj hne⟩, esl, ec⟩
  · by_cases c : j = i
    · rw [c]
      exact ⟨k1, k2⟩
    · rw [ek j hj c]
      refine ⟨(a2 j hj).1, ?_⟩
      obtain ⟨p1, p2⟩ := (a2 j hj).2
      refine ⟨by rw [es j hj c]; exact p1, fun q q1 q2 => ?_⟩
      rw [es j hj c] at q1
      rw [hv j hj c _ (px_lt q2)]
      exact p2 q q1 q2
  · by_cases c : j = i
    · rw [c] at h0 ⊢
      exact k3 h0 a ha
    · rw [ek j hj c] at h0
      rw [ino_pv (hb j hj c) (fun x hx => hv j hj c x (by omega)) a ha]
      exact a3 j hj h0 a ha
  · by_cases c : d = i
    · rw [c] at hk2 ⊢
      exact k4 hk2
    · rw [ek d hd' c] at hk2
      rw [es d hd' c]
      obtain ⟨p1, p2⟩ := a5 d hd' hk2
      refine ⟨p1, fun q hq => ?_⟩
      have hdz := (a2 d hd').2.1
      rw [hv d hd' c _ (px_lt (by omega))]
      exact p2 q hq
  · have conv : ∀ y a, SlO V y a → (n2 y a ≠ 0 → f1 W (n2 y a) 0 ≠ 0) → SlO W y a := fun y a q hq => by
      rcases q with q | ⟨q1, q2, q3, q4⟩
      · exact Or.inl q
      · exact Or.inr ⟨q1, q2, hq q1, q4⟩
    by_cases c : d = i
    · rw [c] at hk2 hs ⊢
      have hso := k5 hk2 s hs
      refine conv _ _ hso (fun hne => ?_)
      rcases hso with q | ⟨q1, q2, q3, q4⟩
      · exact absurd q.1 hne
      · by_cases ct : n2 (W (pv W i (px (s / 8)))) (16 * (s % 8)) = i
        · rw [ct, hk2]; decide
        · rw [ek _ ⟨by omega, q2⟩ ct]; exact q3
    · rw [ek d hd' c] at hk2
      rw [es d hd' c] at hs
      rw [eb d s hd' c hk2 hs]
      have hso := a6 d s hd' hk2 hs
      refine conv _ _ hso (fun hne => ?_)
      rcases hso with q | ⟨q1, q2, q3, q4⟩
      · exact absurd q.1 hne
      · exact kt _ d s ⟨by omega, q2⟩ q3 hd' hk2 hs rfl
  · by_cases c : (1 : Nat) = i
    · exact k6 c.symm
    · rw [ek 1 ⟨Nat.le_refl _, by decide⟩ c]
      exact a7
  · have e1 := a8 j hj
    rw [ec j hj]
    show (f1 W j 1 : Int) = (nmC V j 65 : Int) + (if j = 1 then 1 else 0) + (ow j + if j = i then (f1 W i 1 : Int) - (f1 V i 1 : Int) else 0)
    by_cases c : j = i
    · rw [if_pos c, c]
      rw [c] at e1
      omega
    · rw [if_neg c, el j hj c]
      omega
end PWQ
