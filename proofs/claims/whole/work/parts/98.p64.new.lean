/-! ===== pure: fields change, an inode is made ===== -/
section PWO
variable {N B gr : Nat} {V W : Nat → Rw} {ow : Nat → Int} {i : Nat}
theorem sz_c {j : Nat} (h : ∀ b, 4 ≤ b → b < 8 → ub (W (homeM j)) (startM j + b) = ub (V (homeM j)) (startM j + b)) : szM W j = szM V j := by
  have h4 : ub (W (homeM j)) (startM j + 4) = ub (V (homeM j)) (startM j + 4) := h 4 (by decide) (by decide)
  have h5 : ub (W (homeM j)) (startM j + 4 + 1) = ub (V (homeM j)) (startM j + 4 + 1) := h 5 (by decide) (by decide)
  have h6 : ub (W (homeM j)) (startM j + 4 + 2) = ub (V (homeM j)) (startM j + 4 + 2) := h 6 (by decide) (by decide)
  have h7 : ub (W (homeM j)) (startM j + 4 + 2 + 1) = ub (V (homeM j)) (startM j + 4 + 2 + 1) := h 7 (by decide) (by decide)
  unfold szM f4 n4 n2
  rw [h4, h5, h6, h7]
/-- only bytes 1..11 of inode i changed -/
def FldC (V W : Nat → Rw) (i : Nat) : Prop := (∀ c, c ≠ homeM i → W c = V c) ∧ ∀ j b, ir j → b < 32 → (j ≠ i ∨ b = 0 ∨ 12 ≤ b) → ub (W (homeM j)) (startM j + b) = ub (V (homeM j)) (startM j + b)
theorem FldC.pv (h : FldC V W i) (hi : ir i) (hw : PW N V) {j : Nat} (hj : ir j) : ∀ x, x < 4234 → pv W j x = pv V j x := pv_eq (fun y hy h0 => by
  by_cases c : y < 10
  · rw [ph_0 c]
    have p1 : ∃ b, po j y = startM j + b ∧ 12 ≤ b ∧ b + 2 ≤ 32 := by
      unfold po
      by_cases a1 : y < 8
      · exact ⟨12 + 2 * y, by rw [if_pos a1, Nat.add_assoc], by omega, by omega⟩
      · rw [if_neg a1]
        by_cases a2 : y = 8
        · exact ⟨28, by rw [if_pos a2], by omega, by omega⟩
        · exact ⟨30, by rw [if_neg a2, if_pos (by omega)], by omega, by omega⟩
    obtain ⟨b, b1, b2, b3⟩ := p1
    rw [b1]
    unfold n2
    rw [h.2 j b hj (by omega) (Or.inr (Or.inr b2)), Nat.add_assoc, h.2 j (b + 1) hj (by omega) (Or.inr (Or.inr (by omega)))]
  · rw [ph_hx (by omega) hy] at h0 ⊢
    have hl := hx_lt hy
    rcases hw.2.1 j (hx y) hj (by omega) with q | q
    · exact absurd q h0
    · rw [h.1 _ (by have := ir_home hi; omega)])
theorem WFs.fc (h : WFs N V ow) (hi : ir i) (hc : FldC V W i) (hk : f1 V i 0 ≠ 0) (hz1 : szM W i ≤ 400000) (hz2 : ∀ q, bfM (szM W i) ≤ q → q < 4168 → pv V i (px q) = 0) (hsd : f1 V i 0 = 2 → szM W i = szM V i) : WFs N W (fun j => ow j + if j = i then (f1 W i 1 : Int) - (f1 V i 1 : Int) else 0) ∧ (∀ j, ir j → f1 W j 0 = f1 V j 0 ∧ (∀ x, x < 4234 → pv W j x = pv V j x) ∧ (j ≠ i → f1 W j 1 = f1 V j 1 ∧ szM W j = szM V j)) ∧ (∀ d s, ir d → f1 V d 0 = 2 → s < szM V d / 16 → sln W d s = sln V d s) ∧ ∀ j, ir j → nmC W j 65 = nmC V j 65 := by
  obtain ⟨a1, a2, a3, a4, a5, a6, a7, a8⟩ := id h
  have ep : ∀ j, ir j → ∀ x, x < 4234 → pv W j x = pv V j x := fun j hj => hc.pv hi a1 hj
  have hh := ir_home hi
  have e43 : W 43 = V 43 := hc.1 43 (by omega)
  have e44 : W 44 = V 44 := hc.1 44 (by omega)
  have ek : ∀ j, ir j → f1 W j 0 = f1 V j 0 := fun j hj => hc.2 j 0 hj (by decide) (Or.inr (Or.inl rfl))
  have el : ∀ j, ir j → j ≠ i → f1 W j 1 = f1 V j 1 := fun j hj hne => hc.2 j 1 hj (by decide) (Or.inl hne)
  have es : ∀ j, ir j → j ≠ i → szM W j = szM V j := fun j hj hne => sz_c (fun b b1 b2 => hc.2 j b hj (by omega) (Or.inl hne))
  have esd : ∀ d, ir d → f1 V d 0 = 2 → szM W d = szM V d := fun d hd hk2 => by
    by_cases c : d = i
    · rw [c] at hk2 ⊢
      exact hsd hk2
    · exact es d hd c
  have eb : ∀ d s, ir d → f1 V d 0 = 2 → s < szM V d / 16 → W (pv W d (px (s / 8))) = V (pv V d (px (s / 8))) := fun d s hd hk2 hs => by
    obtain ⟨q1, q2, q3⟩ := h.dblk hd hk2 hs
    rw [ep d hd _ (px_lt q1)]
    have := (a1.2.1 d _ hd (px_lt q1)).resolve_left q2
    exact hc.1 _ (by omega)
  have esl : ∀ d s, ir d → f1 V d 0 = 2 → s < szM V d / 16 → sln W d s = sln V d s := fun d s hd hk2 hs => by
    unfold sln
    rw [eb d s hd hk2 hs]
  have ec : ∀ j, nmC W j 65 = nmC V j 65 := fun j => nmC_cg 65 (fun d hd => by
    unfold ctM
    by_cases h1 : 1 ≤ d
    · have hir : ir d := ⟨h1, by omega⟩
      rw [ek d hir]
      by_cases c : 1 ≤ d ∧ f1 V d 0 = 2
      · rw [if_pos c, if_pos c, esd d hir c.2]
        exact nmD_cg _ (fun s hs => esl d s hir c.2 hs)
      · rw [if_neg c, if_neg c]
    · rw [if_neg (fun z => h1 z.1), if_neg (fun z => h1 z.1)])
  refine ⟨⟨⟨by rw [e43]; exact a1.1, fun j x hj hx => by rw [ep j hj x hx]; exact a1.2.1 j x hj hx, fun j x j2 y hj hx hj2 hy h0 he => ?_, fun b b1 b2 => ?_⟩, fun j hj => ?_, fun j hj h0 a ha => ?_, fun k hk => ?_, fun d hd hk2 => ?_, fun d s hd hk2 hs => ?_, by rw [ek 1 ⟨Nat.le_refl _, by decide⟩]; exact a7, fun j hj => ?_⟩, fun j hj => ⟨ek j hj, ep j hj, fun hne => ⟨el j hj hne, es j hj hne⟩⟩, esl, fun j _ => ec j⟩
  · rw [ep j hj x hx] at h0 he
    rw [ep j2 hj2 y hy] at he
    exact a1.2.2.1 j x j2 y hj hx hj2 hy h0 he
  · rw [e43, a1.2.2.2 b b1 b2]
    exact ⟨fun ⟨j, x, i1, i2, i3⟩ => ⟨j, x, i1, i2, by rw [ep j i1 x i2]; exact i3⟩, fun ⟨j, x, i1, i2, i3⟩ => ⟨j, x, i1, i2, by rw [← ep j i1 x i2]; exact i3⟩⟩
  · rw [ek j hj]
    refine ⟨(a2 j hj).1, ?_⟩
    by_cases c : j = i
    · rw [c]
      exact ⟨hz1, fun q q1 q2 => by rw [ep i hi _ (px_lt q2)]; exact hz2 q q1 q2⟩
    · obtain ⟨p1, p2⟩ := (a2 j hj).2
      refine ⟨by rw [es j hj c]; exact p1, fun q q1 q2 => ?_⟩
      rw [es j hj c] at q1
      rw [ep j hj _ (px_lt q2)]
      exact p2 q q1 q2
  · rw [ek j hj] at h0
    have hne : j ≠ i := fun e => hk (by rw [← e]; exact h0)
    rw [hc.2 j a hj ha (Or.inl hne)]
    exact a3 j hj h0 a ha
  · rw [e44, a4 k hk]
    by_cases c : k < 64
    · rw [ek (k + 1) ⟨by omega, by omega⟩]
    · rw [if_neg (fun z => c z.1), if_neg (fun z => c z.1)]
  · rw [ek d hd] at hk2
    rw [esd d hd hk2]
    obtain ⟨p1, p2⟩ := a5 d hd hk2
    refine ⟨p1, fun q hq => ?_⟩
    have hdz := (a2 d hd).2.1
    rw [ep d hd _ (px_lt (by omega))]
    exact p2 q hq
  · rw [ek d hd] at hk2
    rw [esd d hd hk2] at hs
    rw [eb d s hd hk2 hs]
    rcases a6 d s hd hk2 hs with q | ⟨q1, q2, q3, q4⟩
    · exact Or.inl q
    · exact Or.inr ⟨q1, q2, by rw [ek _ ⟨by omega, q2⟩]; exact q3, q4⟩
  · have e1 := a8 j hj
    rw [ec j]
    show (f1 W j 1 : Int) = (nmC V j 65 : Int) + (if j = 1 then 1 else 0) + (ow j + if j = i then (f1 W i 1 : Int) - (f1 V i 1 : Int) else 0)
    by_cases c : j = i
    · rw [if_pos c, c]
      rw [c] at e1
      omega
    · rw [if_neg c, el j hj c]
      omega
theorem fld_c {a n : Nat} {v : Int32} (hi : ir i) (ha1 : 1 ≤ a) (ha : a + n ≤ 12) : FldC V (fldV V i a n v) i := ⟨fun c hc => fld_x hc, fun j b hj hb q => fld_ub hi.1 hj.1 (by omega) hb (by omega)⟩
theorem fld_sz {a n : Nat} {v : Int32} (hi : ir i) (ha : a + n ≤ 12) (h : a + n ≤ 4 ∨ 8 ≤ a) : szM (fldV V i a n v) i = szM V i := fld_f4 hi.1 hi.1 (by omega) (by decide) (by omega)
/-- links are set -/
theorem WFs.links {v : Nat} (h : WFs N V ow) (hi : ir i) (hk : f1 V i 0 ≠ 0) (hv : v < 256) : WFs N (fldV V i 1 1 (nI v)) (fun j => ow j + if j = i then (v : Int) - (f1 V i 1 : Int) else 0) ∧ f1 (fldV V i 1 1 (nI v)) i 1 = v := by
  have hs := startM_le i
  have e1 : f1 (fldV V i 1 1 (nI v)) i 1 = v := by
    show ub (vU V (homeM i) _ (homeM i)) (startM i + 1) = _
    rw [vU_s]
    exact ub_i1 (by omega) hv
  have esz : szM (fldV V i 1 1 (nI v)) i = szM V i := fld_sz hi (by decide) (Or.inl (by decide))
  obtain ⟨q, -⟩ := h.fc hi (fld_c (v := nI v) hi (Nat.le_refl 1) (by decide)) hk (by rw [esz]; exact (h.2.1 i hi).2.1) (by rw [esz]; exact (h.2.1 i hi).2.2) (fun _ => esz)
  rw [e1] at q
  exact ⟨q, e1⟩
/-- a number that no slot tells -/
theorem nmC_no {t : Nat} (h : WFs N V ow) (ht : ir t) (hk : f1 V t 0 = 0) : nmC V t 65 = 0 := by
  have : ∀ n, n ≤ 65 → nmC V t n = 0 := fun n => by
    induction n with
    | zero => intro _; rfl
    | succ n ih =>
      intro hn
      show nmC V t n + ctM V t n = 0
      rw [ih (by omega)]
      unfold ctM
      by_cases c : 1 ≤ n ∧ f1 V n 0 = 2
      · rw [if_pos c]
        have hz : ∀ k, k ≤ szM V n / 16 → nmD V t n k = 0 := fun k => by
          induction k with
          | zero => intro _; rfl
          | succ k ih2 =>
            intro hk2
            show nmD V t n k + (if sln V n k = t then 1 else 0) = 0
            rw [ih2 (by omega), if_neg (fun e => ?_)]
            rcases h.2.2.2.2.2.1 n k ⟨c.1, by omega⟩ c.2 (by omega) with q | q
            · have q1 : sln V n k = 0 := q.1
              have := ht.1
              omega
            · have q3 : f1 V (sln V n k) 0 ≠ 0 := q.2.2.1
              rw [e] at q3
              exact q3 hk
        rw [hz _ (Nat.le_refl _)]
      · rw [if_neg c]
  exact this 65 (Nat.le_refl _)
/-- inode i is made -/
theorem WFs.new {kd : Nat} (h : WFs N V ow) (hN1 : 61 ≤ N) (hi : ir i) (hk0 : f1 V i 0 = 0) (hkd : kd = 1 ∨ kd = 2) (hc : ∀ c, c ≠ homeM i → c ≠ 44 → W c = V c) (hb : ∀ j b, ir j → b < 32 → ub (W (homeM j)) (startM j + b) = if j = i ∧ b = 0 then kd else if j = i ∧ b = 1 then 1 else ub (V (homeM j)) (startM j + b)) (h44 : W 44 = bsW (V 44) (i - 1) true) : WFs N W (fun j => ow j + if j = i then 1 else 0) ∧ (∀ j, ir j → (f1 W j 0 = if j = i then kd else f1 V j 0) ∧ (f1 W j 1 = if j = i then 1 else f1 V j 1) ∧ szM W j = szM V j ∧ ∀ x, x < 4234 → pv W j x = pv V j x) ∧ (∀ d s, ir d → f1 V d 0 = 2 → s < szM V d / 16 → W (pv W d (px (s / 8))) = V (pv V d (px (s / 8)))) ∧ szM V i = 0 := by
  obtain ⟨a1, a2, a3, a4, a5, a6, a7, a8⟩ := id h
  have hh := ir_home hi
  have hz := a3 i hi hk0
  have sz0 : szM V i = 0 := by
    unfold szM f4 n4 n2
    rw [hz 4 (by decide), Nat.add_assoc, Nat.add_assoc, hz 5 (by decide), hz 6 (by decide), Nat.add_assoc, hz 7 (by decide)]
  have i1 : i ≠ 1 := fun e => by
    rw [e, a7] at hk0
    cases hk0
  have fc : FldC (fun c => if c = homeM i then W c else V c) (fun c => if c = homeM i then W c else V c) i := ⟨fun _ _ => rfl, fun _ _ _ _ _ => rfl⟩
  have ep : ∀ j, ir j → ∀ x, x < 4234 → pv W j x = pv V j x := fun j hj => pv_eq (fun y hy h0 => by
    by_cases c : y < 10
    · rw [ph_0 c]
      have p1 : ∃ b, po j y = startM j + b ∧ 12 ≤ b ∧ b + 2 ≤ 32 := by
        unfold po
        by_cases a1 : y < 8
        · exact ⟨12 + 2 * y, by rw [if_pos a1, Nat.add_assoc], by omega, by omega⟩
        · rw [if_neg a1]
          by_cases a2 : y = 8
          · exact ⟨28, by rw [if_pos a2], by omega, by omega⟩
          · exact ⟨30, by rw [if_neg a2, if_pos (by omega)], by omega, by omega⟩
      obtain ⟨b, b1, b2, b3⟩ := p1
      rw [b1]
      unfold n2
      rw [hb j b hj (by omega), if_neg (fun z => by omega), if_neg (fun z => by omega), Nat.add_assoc, hb j (b + 1) hj (by omega), if_neg (fun z => by omega), if_neg (fun z => by omega)]
    · rw [ph_hx (by omega) hy] at h0 ⊢
      have hl := hx_lt hy
      rcases a1.2.1 j (hx y) hj (by omega) with q | q
      · exact absurd q h0
      · rw [hc _ (by omega) (by omega)])
  have e43 : W 43 = V 43 := hc 43 (by omega) (by decide)
  have ek : ∀ j, ir j → f1 W j 0 = if j = i then kd else f1 V j 0 := fun j hj => by
    have q := hb j 0 hj (by decide)
    rw [Nat.add_zero] at q
    unfold f1
    rw [Nat.add_zero, q]
    by_cases c : j = i
    · rw [if_pos ⟨c, rfl⟩, if_pos c]
    · rw [if_neg (fun z => c z.1), if_neg (fun z => c z.1), if_neg c]
  have el : ∀ j, ir j → f1 W j 1 = if j = i then 1 else f1 V j 1 := fun j hj => by
    unfold f1
    rw [hb j 1 hj (by decide), if_neg (fun z => by omega)]
    by_cases c : j = i
    · rw [if_pos ⟨c, rfl⟩, if_pos c]
    · rw [if_neg (fun z => c z.1), if_neg c]
  have es : ∀ j, ir j → szM W j = szM V j := fun j hj => sz_c (fun b b1 b2 => by
    rw [hb j b hj (by omega), if_neg (fun z => by omega), if_neg (fun z => by omega)])
  have eb : ∀ d s, ir d → f1 V d 0 = 2 → s < szM V d / 16 → W (pv W d (px (s / 8))) = V (pv V d (px (s / 8))) := fun d s hd hk2 hs => by
    obtain ⟨q1, q2, q3⟩ := h.dblk hd hk2 hs
    rw [ep d hd _ (px_lt q1)]
    have := (a1.2.1 d _ hd (px_lt q1)).resolve_left q2
    exact hc _ (by omega) (by omega)
  have esl : ∀ d s, ir d → f1 V d 0 = 2 → s < szM V d / 16 → sln W d s = sln V d s := fun d s hd hk2 hs => by
    unfold sln
    rw [eb d s hd hk2 hs]
  have ec : ∀ j, nmC W j 65 = nmC V j 65 := fun j => nmC_cg 65 (fun d hd => by
    unfold ctM
    by_cases h1 : 1 ≤ d
    · have hir : ir d := ⟨h1, by omega⟩
      rw [ek d hir, es d hir]
      by_cases ci : d = i
      · rw [if_pos ci, ci, sz0, hk0, if_neg (show ¬ (1 ≤ i ∧ 0 = 2) by omega)]
        by_cases ck : 1 ≤ i ∧ kd = 2
        · rw [if_pos ck]
          rfl
        · rw [if_neg ck]
      · rw [if_neg ci]
        by_cases c : 1 ≤ d ∧ f1 V d 0 = 2
        · rw [if_pos c, if_pos c]
          exact nmD_cg _ (fun s hs => esl d s hir c.2 hs)
        · rw [if_neg c, if_neg c]
    · rw [if_neg (fun z => h1 z.1), if_neg (fun z => h1 z.1)])
  refine ⟨⟨⟨by rw [e43]; exact a1.1, fun j x hj hx => by rw [ep j hj x hx]; exact a1.2.1 j x hj hx, fun j x j2 y hj hx hj2 hy h0 he => ?_, fun b b1 b2 => ?_⟩, fun j hj => ?_, fun j hj h0 a ha => ?_, fun k hk => ?_, fun d hd hk2 => ?_, fun d s hd hk2 hs => ?_, ?_, fun j hj => ?_⟩, fun j hj => ⟨ek j hj, el j hj, es j hj, ep j hj⟩, eb, sz0⟩
  · rw [ep j hj x hx] at h0 he
    rw [ep j2 hj2 y hy] at he
    exact a1.2.2.1 j x j2 y hj hx hj2 hy h0 he
  · rw [e43, a1.2.2.2 b b1 b2]
    exact ⟨fun ⟨j, x, i1, i2, i3⟩ => ⟨j, x, i1, i2, by rw [ep j i1 x i2]; exact i3⟩, fun ⟨j, x, i1, i2, i3⟩ => ⟨j, x, i1, i2, by rw [← ep j i1 x i2]; exact i3⟩⟩
  · rw [ek j hj]
    obtain ⟨p1, p2⟩ := (a2 j hj).2
    refine ⟨?_, by rw [es j hj]; exact p1, fun q q1 q2 => ?_⟩
    · by_cases c : j = i
      · rw [if_pos c]
        omega
      · rw [if_neg c]
        exact (a2 j hj).1
    · rw [es j hj] at q1
      rw [ep j hj _ (px_lt q2)]
      exact p2 q q1 q2
  · rw [ek j hj] at h0
    by_cases c : j = i
    · rw [if_pos c] at h0
      omega
    · rw [if_neg c] at h0
      rw [hb j a hj ha, if_neg (fun z => c z.1), if_neg (fun z => c z.1)]
      exact a3 j hj h0 a ha
  · have hi2 := hi.2
    have hi1 := hi.1
    rw [h44, bt_bs (by omega) hk, a4 k hk]
    by_cases c : k = i - 1
    · have hq : k < 64 ∧ f1 W (k + 1) 0 ≠ 0 := ⟨by omega, by rw [c, show i - 1 + 1 = i by omega, ek i hi, if_pos rfl]; omega⟩
      rw [if_pos c, if_pos hq]
      rfl
    · rw [if_neg c]
      by_cases c64 : k < 64
      · rw [ek (k + 1) ⟨by omega, by omega⟩, if_neg (show ¬ k + 1 = i by omega)]
      · rw [if_neg (fun z => c64 z.1), if_neg (fun z => c64 z.1)]
  · rw [ek d hd] at hk2
    rw [es d hd]
    by_cases c : d = i
    · rw [c, sz0]
      exact ⟨rfl, fun q hq => by omega⟩
    · rw [if_neg c] at hk2
      obtain ⟨p1, p2⟩ := a5 d hd hk2
      refine ⟨p1, fun q hq => ?_⟩
      have hdz := (a2 d hd).2.1
      rw [ep d hd _ (px_lt (by omega))]
      exact p2 q hq
  · rw [ek d hd] at hk2
    rw [es d hd] at hs
    by_cases c : d = i
    · rw [c, sz0] at hs
      omega
    · rw [if_neg c] at hk2
      rw [eb d s hd hk2 hs]
      rcases a6 d s hd hk2 hs with q | ⟨q1, q2, q3, q4⟩
      · exact Or.inl q
      · refine Or.inr ⟨q1, q2, ?_, q4⟩
        rw [ek _ ⟨by omega, q2⟩]
        by_cases ct : n2 (V (pv V d (px (s / 8)))) (16 * (s % 8)) = i
        · rw [if_pos ct]
          omega
        · rw [if_neg ct]
          exact q3
  · rw [ek 1 ⟨Nat.le_refl _, by decide⟩, if_neg (fun e => i1 e.symm)]
    exact a7
  · have e1 := a8 j hj
    rw [ec j, el j hj]
    show (((if j = i then 1 else f1 V j 1 : Nat)) : Int) = (nmC V j 65 : Int) + (if j = 1 then 1 else 0) + (ow j + if j = i then 1 else 0)
    by_cases c : j = i
    · rw [if_pos c, if_pos c, c, if_neg i1]
      rw [c, if_neg i1] at e1
      have l0 : f1 V i 1 = 0 := hz 1 (by decide)
      rw [l0] at e1
      omega
    · rw [if_neg c, if_neg c]
      omega
end PWO
