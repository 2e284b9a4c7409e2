/-- hardware, log, turn -/
abbrev mSt : Type := Hw × List En × Int32
def mAp2 (N B : Nat) (bt : List En) (s : mSt) : Bool × mSt := ((mApp N B s.2.1 s.2.2 bt s.1).1, (mApp N B s.2.1 s.2.2 bt s.1).2, s.2.1 ++ bt, s.2.2 + 1)
/-- one batch goes into the log, that may have to be applied first -/
def mStep (N B : Nat) (bt : List En) (s : mSt) : Bool × mSt :=
  if 40 < s.2.1.length + bt.length then
    (if (aApl N B s.2.1 s.2.2 s.1).1 = true then mAp2 N B bt ((aApl N B s.2.1 s.2.2 s.1).2, lApl s.2.1 s.2.2) else (false, (aApl N B s.2.1 s.2.2 s.1).2, s.2))
  else mAp2 N B bt s
def mFl (N B : Nat) : Nat → List QC → mSt → Bool × mSt
  | 0, _, s => (true, s)
  | _ + 1, [], s => (true, s)
  | k + 1, q :: qs, s => if (mStep N B (qFill N (q :: qs) []).1 s).1 = true then mFl N B k (qFill N (q :: qs) []).2 (mStep N B (qFill N (q :: qs) []).1 s).2 else mStep N B (qFill N (q :: qs) []).1 s
/-- nothing changed but hardware, log and batch -/
def SmQ (C C' : CfT) : Prop := (∀ j, md (j / 100) ∉ [0, 1] → j ≠ 1705 → C'.1 j = C.1 j) ∧ (∀ k, md k ∉ [0, 1] → k ≠ 21 → C'.2.1 k = C.2.1 k) ∧ ∀ m, rmd m ∉ [0, 1] → C'.2.2 m = C.2.2 m
theorem SmQ.rf {C : CfT} : SmQ C C := ⟨fun _ _ _ => rfl, fun _ _ _ => rfl, fun _ _ => rfl⟩
theorem SmQ.tr {C C' C2 : CfT} (h : SmQ C C') (h2 : SmQ C' C2) : SmQ C C2 := ⟨fun j q p => (h2.1 j q p).trans (h.1 j q p), fun j q p => (h2.2.1 j q p).trans (h.2.1 j q p), fun j q => (h2.2.2 j q).trans (h.2.2 j q)⟩
theorem Sm.q {C C' : CfT} (h : Sm [0, 1] C C') : SmQ C C' := ⟨fun j q _ => h.1 j q, fun j q _ => h.2.1 j q, h.2.2⟩
theorem SmB.q {C C' : CfT} (h : SmB C C') : SmQ C C' := ⟨fun j _ p => h.1 j p, fun j _ p => h.2.1 j p, fun m _ => congrFun h.2.2 m⟩
theorem QeR.smq {N gr : Nat} {C C' : CfT} {qs : List QC} {en : Nat → Nat} (h : QeR N gr C qs en) (hs : SmQ C C') : QeR N gr C' qs en := by
  obtain ⟨s1, s2, s3⟩ := hs
  have e22 : cA C' 22 = cA C 22 := s2 22 (by decide) (by decide)
  have e20 : cA C' 20 = cA C 20 := s2 20 (by decide) (by decide)
  have e19 : cA C' 19 = cA C 19 := s2 19 (by decide) (by decide)
  have e4 : ∀ r, cR C' 4 r = cR C 4 r := fun r => congrFun (s3 4 (by decide)) r
  have eb : ∀ r, qBk C' r = qBk C r := fun r => by unfold qBk; rw [e19]
  obtain ⟨h1, h2, h3, h4, h5, h6⟩ := h
  refine ⟨h1, (s1 1708 (by decide) (by decide)).trans h2, h3, (s1 1707 (by decide) (by decide)).trans h4, fun i hi => ?_, fun b hb => ?_⟩
  · obtain ⟨q1, q2, q3, q4, q5, q6⟩ := h5 i hi
    refine ⟨by rw [e22]; exact q1, q2, q3, fun r hr1 hr2 => ?_, fun b x hb => ?_, fun r s a1 a2 a3 a4 e => ?_⟩
    · rw [eb, e19, e4]
      exact q4 r hr1 hr2
    · obtain ⟨r, hr⟩ := q5 b x hb
      exact ⟨r, by rw [eb]; exact hr⟩
    · rw [eb, eb] at e
      exact q6 r s a1 a2 a3 a4 e
  · rcases h6 b hb with ⟨q1, q2⟩ | ⟨r, q1, q2, q3⟩
    · exact Or.inl ⟨by rw [e20]; exact q1, q2⟩
    · exact Or.inr ⟨r, q1, by rw [e20]; exact q2, by rw [e4]; exact q3⟩
theorem qFill_len {N : Nat} : ∀ (qs : List QC) (bt : List En), (qFill N qs bt).2.length ≤ qs.length
  | [], _ => Nat.le_refl _
  | q :: qs, bt => by
    show (if (bJoin N bt q).length ≤ 40 then qFill N qs (bJoin N bt q) else (bt, q :: qs)).2.length ≤ qs.length + 1
    split
    · exact Nat.le_succ_of_le (qFill_len qs _)
    · exact Nat.le_refl _
theorem qFill_40 {N : Nat} : ∀ (qs : List QC) (bt : List En), bt.length ≤ 40 → (∀ p ∈ bt, p.1 < N) → (qFill N qs bt).1.length ≤ 40 ∧ ∀ p ∈ (qFill N qs bt).1, p.1 < N
  | [], bt, h, h2 => ⟨h, h2⟩
  | q :: qs, bt, h, h2 => by
    by_cases c : (bJoin N bt q).length ≤ 40
    · rw [qFill_t c]
      exact qFill_40 qs _ c bJoin_lt
    · rw [qFill_f c]
      exact ⟨h, h2⟩
theorem bJoin_43 {N : Nat} {bt : List En} {q : QC} (hb : ∀ p ∈ bt, 43 ≤ p.1) (hq : ∀ b x, q b = some x → 43 ≤ b) : ∀ p ∈ bJoin N bt q, 43 ≤ p.1 := fun p hp => by
  obtain ⟨k, hk, e⟩ := mem_lAt hp
  have hv := lVal_is (L := bJoin N bt q) hk
  rw [e] at hv
  have e2 : lVal (bJoin N bt q) p.1 = _ := bList_val (v := qOv q bt) (b := p.1) N
  rw [e2, if_pos (bJoin_lt p hp)] at hv
  unfold qOv at hv
  cases c : q p.1 with
  | some x => exact hq _ x c
  | none =>
    rw [c] at hv
    obtain ⟨k2, hk2, e3⟩ := lVal_some hv
    have := hb _ (lAt_mem hk2)
    omega
theorem qFill_43 {N : Nat} : ∀ (qs : List QC) (bt : List En), (∀ p ∈ bt, 43 ≤ p.1) → (∀ q ∈ qs, ∀ b x, q b = some x → 43 ≤ b) → ∀ p ∈ (qFill N qs bt).1, 43 ≤ p.1
  | [], bt, h, _ => h
  | q :: qs, bt, h, h2 => by
    by_cases c : (bJoin N bt q).length ≤ 40
    · rw [qFill_t c]
      exact qFill_43 qs _ (bJoin_43 h (h2 q List.mem_cons_self)) (fun p hp => h2 p (List.mem_cons_of_mem _ hp))
    · rw [qFill_f c]
      exact h
theorem QeR.q43 {N gr : Nat} {C : CfT} {qs : List QC} {en : Nat → Nat} (h : QeR N gr C qs en) : ∀ q ∈ qs, ∀ b x, q b = some x → 43 ≤ b := fun q hq b x hb => by
  obtain ⟨i, hi, e⟩ := List.getElem_of_mem hq
  have e2 : qAt qs i = q := by
    unfold qAt
    rw [List.getD_eq_getElem?_getD, List.getElem?_eq_getElem hi]
    exact e
  obtain ⟨_, _, _, c1, c2, c3⟩ := h.2.2.2.2.1 i hi
  rw [e2] at c1 c2
  obtain ⟨r, r1, r2, r3⟩ := c2 b x hb
  rw [← r3]
  exact (c1 r r1 r2).2.1
theorem QeR.one {N gr : Nat} {C : CfT} {qs : List QC} {en : Nat → Nat} (h : QeR N gr C qs en) {i : Nat} (hi : i < qs.length) : (bJoin N [] (qAt qs i)).length ≤ 40 := by
  obtain ⟨c22, c2, c3, hch⟩ := h.2.2.2.2.1 i hi
  rw [← btF_all hch c2 Srt.nil (fun p hp => absurd hp List.not_mem_nil), (btF_len hch Srt.nil (en (i + 1) - en i) (by omega)).1]
  have := nwC_le (bt := []) (blk := qBk C) (a := en i) (en (i + 1) - en i)
  show 0 + _ ≤ 40
  omega
