/-! ===== more steps as functions ===== -/
section DCG
/-- how many blocks rest so -/
def rsC (rs : Nat → Nat) (v : Nat) : Nat → Nat
  | 0 => 0
  | n + 1 => rsC rs v n + if rs n = v then 1 else 0
theorem rsC_is {rs : Nat → Nat} {v : Nat} : ∀ (N k : Nat) (g : Nat → Nat), (∀ i, i < k → g i < N ∧ rs (g i) = v) → (∀ i j, i < k → j < k → g i = g j → i = j) → (∀ b, b < N → rs b = v → ∃ i, i < k ∧ g i = b) → rsC rs v N = k
  | 0, k, g, h, _, _ => by
    cases k with
    | zero => rfl
    | succ k => exact absurd (h 0 (by omega)).1 (Nat.not_lt_zero _)
  | N + 1, k, g, h, hi, hs => by
    show rsC rs v N + (if rs N = v then 1 else 0) = k
    by_cases c : rs N = v
    · obtain ⟨i0, h0, e0⟩ := hs N (by omega) c
      have lt : ∀ i, i < k - 1 → (if i < i0 then i else i + 1) < k := fun i hm => by split <;> omega
      have ne : ∀ i, i < k - 1 → (if i < i0 then i else i + 1) ≠ i0 := fun i hm => by split <;> omega
      have e := rsC_is (rs := rs) (v := v) N (k - 1) (fun i => g (if i < i0 then i else i + 1)) (fun i hm => by
        obtain ⟨q1, q2⟩ := h _ (lt i hm)
        have q3 : g (if i < i0 then i else i + 1) ≠ N := fun z => ne i hm (hi _ _ (lt i hm) h0 (z.trans e0.symm))
        exact ⟨by show g (if i < i0 then i else i + 1) < N; omega, q2⟩) (fun i j h1 h2 z => by
        have z := hi _ _ (lt i h1) (lt j h2) z
        by_cases c1 : i < i0
        · rw [if_pos c1] at z
          by_cases c2 : j < i0
          · rw [if_pos c2] at z
            exact z
          · rw [if_neg c2] at z
            omega
        · rw [if_neg c1] at z
          by_cases c2 : j < i0
          · rw [if_pos c2] at z
            omega
          · rw [if_neg c2] at z
            omega) (fun b hb q => by
        obtain ⟨i, q1, q2⟩ := hs b (by omega) q
        have q3 : i ≠ i0 := fun z => by rw [z, e0] at q2; omega
        by_cases c1 : i < i0
        · exact ⟨i, by omega, by show g (if i < i0 then i else i + 1) = b; rw [if_pos c1]; exact q2⟩
        · exact ⟨i - 1, by omega, by show g (if i - 1 < i0 then i - 1 else i - 1 + 1) = b; rw [if_neg (by omega), show i - 1 + 1 = i by omega]; exact q2⟩)
      rw [if_pos c, e]
      omega
    · rw [if_neg c]
      exact rsC_is (rs := rs) (v := v) N k g (fun i hm => by
        obtain ⟨q1, q2⟩ := h i hm
        have q3 : g i ≠ N := fun z => c (by rw [← z]; exact q2)
        exact ⟨by omega, q2⟩) hi (fun b hb q => hs b (by omega) q)
theorem RsR.cnt {N : Nat} {C : CfT} {rs : Nat → Nat} (hN : N ≤ 1024) (h : RsR N C rs) : cS C 1711 - cS C 1712 = nI (rsC rs 2 N) := by
  obtain ⟨q, m, h1, h2, h3, h4, h5, h6, h7⟩ := h
  have e : rsC rs 2 N = m - q := rsC_is N (m - q) (fun i => (cA C 24 (q + i)).toNatClampNeg) (fun i hi => by
    obtain ⟨b, b1, b2, b3⟩ := h5 (q + i) (by omega)
    show (cA C 24 (q + i)).toNatClampNeg < N ∧ rs (cA C 24 (q + i)).toNatClampNeg = 2
    rw [b2, nI_clamp (by omega)]
    rw [if_neg (by omega)] at b3
    exact ⟨b1, b3⟩) (fun i j hi hj e => by
    have e : (cA C 24 (q + i)).toNatClampNeg = (cA C 24 (q + j)).toNatClampNeg := e
    obtain ⟨b, b1, b2, b3⟩ := h5 (q + i) (by omega)
    obtain ⟨d, d1, d2, d3⟩ := h5 (q + j) (by omega)
    rw [b2, d2, nI_clamp (by omega), nI_clamp (by omega)] at e
    have := h6 (q + i) (q + j) (by omega) (by omega) (by rw [b2, d2, e])
    omega) (fun b hb hv => by
    rcases h7 b hb with ⟨q1, q2⟩ | ⟨q1, i, hi, q2⟩
    · rw [hv] at q1
      omega
    · obtain ⟨d, d1, d2, d3⟩ := h5 i hi
      have ed : d = b := nI_inj (by omega) (by omega) (d2.symm.trans q2)
      rw [ed, hv] at d3
      have hq : ¬ i < q := fun z => by rw [if_pos z] at d3; omega
      refine ⟨i - q, by omega, ?_⟩
      show (cA C 24 (q + (i - q))).toNatClampNeg = b
      rw [show q + (i - q) = i by omega, q2, nI_clamp (by omega)])
  rw [e, h3, h4]
  have e2 : nI m = nI (m - q) + nI q := by rw [nI_add, show m - q + q = m by omega]
  rw [e2, Int32.add_sub_cancel]
def d_X9_restingForNone (N : Nat) (V : Nat → Rw) (rs : Nat → Nat) (D : CfT) : Option Int32 := some (nI (rsC rs 2 N))
theorem k_X9_restingForNone (E : gE) (f : Nat → va_E) (N B gr : Nat) (C D : CfT) (A : MS) (hz : CfZ E N B gr) (h : CfV E f N B gr C) (hD : Dq D C) (hA : AR N B gr A C) (r : Int32) (hr : d_X9_restingForNone N (vA A) A.2.2.2.2.1 D = some r) : Ct E 1 yX9_restingForNone cX9_restingForNone 1 (some .int) [.ref (gAd E (17))] f (fun v g => v = some (.int r) ∧ CfV E g N B gr C ∧ Fr CfK f g, fun _ _ => False) := by
  obtain ⟨z1, z2, z3, z4, z5, z6, z7⟩ := id hz
  cases hr
  refine (c_X9_restingForNone E f N B gr C hz h).mono (fun v g q => ?_) (fun _ _ q => q)
  rw [hA.2.2.2.2.2.2.1.cnt z2] at q
  exact q
def d_X9_wakeForNone (N : Nat) (A : MS) (D : CfT) : Option (MS × CfT) := some (aRs A (fun b => if A.2.2.2.2.1 b = 2 then 0 else A.2.2.2.2.1 b), D)
theorem k_X9_wakeForNone (E : gE) (f : Nat → va_E) (N B gr : Nat) (C D : CfT) (A : MS) (hz : CfZ E N B gr) (h : CfV E f N B gr C) (hD : Dq D C) (hA : AR N B gr A C) (A9 : MS) (D9 : CfT) (hr : d_X9_wakeForNone N A D = some (A9, D9)) : Ct E 1 yX9_wakeForNone cX9_wakeForNone 2 none [.ref (gAd E (17))] f (fun v g => v = none ∧ SN E N B gr f A9 D9 g, fun _ _ => False) := by
  obtain ⟨z1, z2, z3, z4, z5, z6, z7⟩ := id hz
  cases hr
  obtain ⟨h1, h2, h3, h4, ⟨en, h5⟩, h6, h7, h8, h9⟩ := id hA
  obtain ⟨q, m, q1, q2, q3, q4, q5, q6, q7⟩ := id h7
  refine (c_X9_wakeForNone E f N B gr C hz h q m q3 q4 q1 q2 (fun i hi => by obtain ⟨b, b1, b2, _⟩ := q5 i hi; exact ⟨b, b1, b2⟩)).mono (fun v g q => ?_) (fun _ _ q => q)
  obtain ⟨e, hc, fr⟩ := q
  have hs : Sm [2] C (sS (sA C 23 (wkR (cA C 23) (cA C 24) q (m - q))) 1711 (nI q)) := (Sm.a (by decide)).tr (Sm.s (by decide))
  exact ⟨e, _, hc, hD.sm hs (by decide), ⟨h1.sm hs (by decide), h2, h3.sm hs (by decide), h4, ⟨en, h5.sm rfl rfl rfl rfl rfl rfl⟩, h6, h7.none z2 q3 q4 (by omega) (by omega), h8.sm (hs.2.1 27 (by decide)) (hs.2.1 28 (by decide)) (fun _ => rfl), (hs.1 2511 (by decide)).trans h9⟩, fr⟩
/-- a row of files is put for a block -/
noncomputable def fPl (N B gr : Nat) (A : MS) (D : CfT) (i : Int32) : Option (FR Unit) := gd (¬ i < 0 ∧ i.toNatClampNeg < N ∧ 43 ≤ i.toNatClampNeg ∧ Byt (cA D 42) ∧ hSp A.1 + 1 < 2 ^ 31) (
    if (aPl N B i.toNatClampNeg (nr (cA D 42)) A.1).1 = true then some (.inl ((), ((aPl N B i.toNatClampNeg (nr (cA D 42)) A.1).2, A.2), D))
    else some (.inr (0, ((aPl N B i.toNatClampNeg (nr (cA D 42)) A.1).2, A.2), D)))
theorem k_X0_place (E : gE) (f : Nat → va_E) (N B gr : Nat) (C D : CfT) (A : MS) (hz : CfZ E N B gr) (h : CfV E f N B gr C) (hD : Dq D C) (hA : AR N B gr A C) (i : Int32) (r : FR Unit) (hr : fPl N B gr A D i = some r) : Ct E 8 yX0_place cX0_place 4 none [.ref (gAd E (8)), .int i, .ref (gAd E (42))] f (FQ E N B gr f (fun _ => none) r) := by
  obtain ⟨z1, z2, z3, z4, z5, z6, z7⟩ := id hz
  obtain ⟨⟨i0, hb, i43, hby, hsp⟩, hr⟩ := gd_s hr
  obtain ⟨h1, h2, h3, h4, ⟨en, h5⟩, h6, h7, h8, h9⟩ := id hA
  rw [show (Value.int i) = .int (nI i.toNatClampNeg) from congrArg _ (nI_cl i0)]
  generalize i.toNatClampNeg = t at hb i43 hr
  have e42 : cA C 42 = cA D 42 := hD.2 42 (by decide)
  have q := r_plY E f N B gr C hz h A.1 h1 hsp t 42 (cA C 42) (nr (cA D 42)) (by rw [e42]) hb (by omega) h.q42 (by rw [e42]; exact hby) (by unfold DBK DkK BfK; omega)
  split at hr
  · next ho =>
    cases hr
    refine q.mono (fun v g q => ?_) (fun X g q => absurd (ho.symm.trans q.2.1) (by decide))
    obtain ⟨e, -, ⟨C1, c1, c2, c4⟩, fr⟩ := q
    have c5 := c4.wk (L' := [0, 1]) (by decide)
    exact FQ.ok e ⟨C1, c1, hD.sm c5 (by decide), hA.hl c5 c2 (aPl_ok h2 hb) (h3.sm c4 (by decide)) (h4.pl h2 h3.2.1 i43 ho), fr⟩
  · next ho =>
    cases hr
    refine q.mono (fun v g q => absurd q.2.1 ho) (fun X g q => ?_)
    obtain ⟨e, -, ⟨C1, c1, c2, c4⟩, fr⟩ := q
    have e15 : cA C1 15 = cA C 15 := c4.2.1 15 (by decide)
    have c5 := (c4.wk (L' := [0, 1]) (by decide)).q
    exact FQ.no e ⟨C1, c1, hD.q c5, hA.dk c5 c2 (by rw [e15]; exact h3.2.2.2.2.2), fr⟩
/-- whether the queue, or the log, tells a block: -1 where it does not -/
def qTo (N : Nat) (A : MS) (i : Int32) : Option Int32 := if i < 0 ∨ N ≤ i.toNatClampNeg then none else some (if (qVal A.2.2.2.1 i.toNatClampNeg).isSome then 0 else -1)
def lTo (N : Nat) (A : MS) (i : Int32) : Option Int32 := if i < 0 ∨ N ≤ i.toNatClampNeg then none else some (if (lVal A.2.1 i.toNatClampNeg).isSome then 0 else -1)
theorem AR.q20 {N B gr : Nat} {A : MS} {C : CfT} {i v : Int32} (hz : N ≤ 1024 ∧ gr ≤ 16) (h : AR N B gr A C) (hr : qTo N A i = some v) : vp_in i N ∧ (cA C 20 i.toNatClampNeg = -1 ↔ v = -1) := by
  unfold qTo at hr
  split at hr
  · cases hr
  · next hi =>
    cases hr
    obtain ⟨hb, -⟩ := vp_nI hi
    refine ⟨hi, ?_⟩
    obtain ⟨en, hq⟩ := h.2.2.2.2.1
    rcases hq.2.2.2.2.2 _ hb with ⟨e1, e2⟩ | ⟨r, hr, e1, e2⟩
    · rw [e1, e2]
      exact ⟨fun _ => rfl, fun _ => rfl⟩
    · rw [e1, e2]
      have := hq.lg (i := A.2.2.2.1.length) (Nat.le_refl _)
      exact ⟨fun z => absurd z (nI_m1 (by omega)), fun z => absurd (show (0 : Int32) = -1 from z) (by decide)⟩
theorem AR.q16 {N B gr : Nat} {A : MS} {C : CfT} {i v : Int32} (h : AR N B gr A C) (hr : lTo N A i = some v) : vp_in i N ∧ (cA C 16 i.toNatClampNeg = -1 ↔ v = -1) := by
  unfold lTo at hr
  split at hr
  · cases hr
  · next hi =>
    cases hr
    obtain ⟨hb, -⟩ := vp_nI hi
    refine ⟨hi, ?_⟩
    have hl := h.2.2.1
    have := hl.2.1
    rcases (hl.2.2.2.2.1 _ hb).val with ⟨e1, e2⟩ | ⟨k, hk, e1, e2⟩
    · rw [e1, e2]
      exact ⟨fun _ => rfl, fun _ => rfl⟩
    · rw [e1, e2]
      exact ⟨fun z => absurd z (nI_m1 (by omega)), fun z => absurd (show (0 : Int32) = -1 from z) (by decide)⟩
end DCG
