/-! ===== what appending and applying make of the model's hardware ===== -/
section MLB
def oSee (v : Option Rw) (y : Rw) : Rw := match v with
  | some x => x
  | none => y
theorem mHome_all {N B : Nat} {L : List En} : ∀ (k t : Nat) (h : Hw), t + k ≤ N → HOk N B h → HOk N B (mHome N B L k t h).2 ∧ hSp (mHome N B L k t h).2 + lNum L t ≤ hSp h + lNum L (t + k) ∧ ((mHome N B L k t h).1 = true → ∀ u, hSee (mHome N B L k t h).2 u = if t ≤ u ∧ u < t + k then oSee (lVal L u) (hSee h u) else hSee h u)
  | 0, t, h, _, ho => ⟨ho, Nat.le_refl _, fun _ u => by rw [if_neg (by omega)]; rfl⟩
  | k + 1, t, h, hk, ho => by
    cases e : lVal L t with
    | none =>
      rw [mHome_n e]
      obtain ⟨a1, a2, a3⟩ := mHome_all k (t + 1) h (by omega) ho
      have e1 : lNum L (t + 1) = lNum L t := by
        show lNum L t + (if (lVal L t).isSome then 1 else 0) = _
        rw [e]
        rfl
      rw [e1, show t + 1 + k = t + (k + 1) by omega] at a2
      refine ⟨a1, a2, fun z u => ?_⟩
      rw [a3 z u]
      by_cases c : t + 1 ≤ u ∧ u < t + 1 + k
      · rw [if_pos c, if_pos (by omega)]
      · rw [if_neg c]
        by_cases c2 : u = t
        · rw [if_pos (by omega), c2, e]
          rfl
        · rw [if_neg (by omega)]
    | some x =>
      rw [mHome_s e]
      have ok1 := aPl_ok (x := x) ho (show t < N by omega)
      have sp1 : hSp (aPl N B t x h).2 ≤ hSp h + 1 := aPl_sp (N := N) (B := B) (t := t) (x := x) (h := h)
      have e1 : lNum L (t + 1) = lNum L t + 1 := by
        show lNum L t + (if (lVal L t).isSome then 1 else 0) = _
        rw [e]
        rfl
      have hm := lNum_mono (L := L) (a := t + 1) (t + (k + 1)) (by omega)
      cases c : (aPl N B t x h).1 with
      | false =>
        rw [hB_f c]
        exact ⟨ok1, by omega, fun z => by rw [c] at z; cases z⟩
      | true =>
        rw [hB_t c]
        obtain ⟨a1, a2, a3⟩ := mHome_all k (t + 1) (aPl N B t x h).2 (by omega) ok1
        rw [show t + 1 + k = t + (k + 1) by omega] at a2
        refine ⟨a1, by omega, fun z u => ?_⟩
        rw [a3 z u, aPl_see ho c]
        by_cases c1 : t + 1 ≤ u ∧ u < t + 1 + k
        · rw [if_pos c1, if_neg (show ¬ u = t by omega), if_pos (show t ≤ u ∧ u < t + (k + 1) by omega)]
        · rw [if_neg c1]
          by_cases c2 : u = t
          · rw [if_pos c2, if_pos (by omega), c2, e]
            rfl
          · rw [if_neg c2, if_neg (by omega)]
theorem mAply_all {N B : Nat} (hN : 61 ≤ N) {L : List En} {tu : Int32} {h : Hw} (ho : HOk N B h) : HOk N B (mAply N B L tu h).2 ∧ hSp (mAply N B L tu h).2 ≤ hSp h + L.length + 1 ∧ ((mAply N B L tu h).1 = true → Quiet N (mAply N B L tu h).2 ∧ ∀ u, u < N → hSee (mAply N B L tu h).2 u = if u = 1 then mHd [] (tu + 1) else oSee (lVal L u) (hSee h u)) := by
  obtain ⟨a1, a2, a3⟩ := mHome_all (L := L) N 0 h (by omega) ho
  have hn := lNum_le L N
  have a2 : hSp (mHome N B L N 0 h).2 ≤ hSp h + L.length := by
    rw [Nat.zero_add] at a2
    have : lNum L 0 = 0 := rfl
    omega
  cases c1 : (mHome N B L N 0 h).1 with
  | false =>
    rw [mAply_1 c1]
    exact ⟨a1, by omega, fun z => by rw [c1] at z; cases z⟩
  | true =>
    have e1 : mHome N B L N 0 h = (true, (mHome N B L N 0 h).2) := by rw [← c1]
    rw [mAply_2 e1]
    have a3 := a3 c1
    generalize (mHome N B L N 0 h).2 = h1 at a1 a2 a3
    obtain ⟨s1, s2, s3, s4, s5⟩ := aSe_all (N := N) (B := B) h1
    have k1 := s3 a1
    cases c2 : (aSe N h1).1 with
    | false =>
      rw [hB_f c2, hB_f c2]
      exact ⟨k1, by omega, fun z => by rw [c2] at z; cases z⟩
    | true =>
      rw [hB_t c2]
      generalize (aSe N h1).2 = h2 at s1 s2 s4 k1
      have k2 := aPl_ok (x := mHd [] (tu + 1)) k1 (show 1 < N by omega)
      have p2 : hSp (aPl N B 1 (mHd [] (tu + 1)) h2).2 ≤ hSp h2 + 1 := aPl_sp (N := N) (B := B) (t := 1) (x := mHd [] (tu + 1)) (h := h2)
      cases c3 : (aPl N B 1 (mHd [] (tu + 1)) h2).1 with
      | false =>
        rw [hB_f c3]
        exact ⟨k2, by omega, fun z => by rw [c3] at z; cases z⟩
      | true =>
        rw [hB_t c3]
        have p3 := fun u => aPl_see (u := u) k1 c3
        generalize (aPl N B 1 (mHd [] (tu + 1)) h2).2 = h3 at k2 p2 p3
        obtain ⟨r1, r2, r3, r4, r5⟩ := aSe_all (N := N) (B := B) h3
        refine ⟨r3 k2, by omega, fun z => ⟨r5 z, fun u hu => ?_⟩⟩
        rw [r1 u, p3 u]
        by_cases c : u = 1
        · rw [if_pos c, if_pos c]
        · rw [if_neg c, if_neg c, s1 u, a3 u, if_pos (by omega)]
theorem mApp_all {N B : Nat} (hN : 61 ≤ N) {L bt : List En} {tu : Int32} {h : Hw} (ho : HOk N B h) (hl : L.length + bt.length ≤ 40) : HOk N B (mApp N B L tu bt h).2 ∧ hSp (mApp N B L tu bt h).2 ≤ hSp h + bt.length + 2 ∧ ((mApp N B L tu bt h).1 = true → Quiet N (mApp N B L tu bt h).2 ∧ ∀ u, u < N → hSee (mApp N B L tu bt h).2 u = if u = 1 then mHd (L ++ bt) (tu + 1) else if u = 2 then mNm (L ++ bt) else if 3 + L.length ≤ u ∧ u < 3 + L.length + bt.length then (lAt bt (u - 3 - L.length)).2 else hSee h u) := by
  obtain ⟨a1, a2, a3⟩ := mVals_all (N := N) (B := B) hN bt L.length h hl ho
  cases c1 : (mVals N B L.length bt h).1 with
  | false =>
    rw [mApp_1 c1]
    exact ⟨a1, by omega, fun z => by rw [c1] at z; cases z⟩
  | true =>
    have e1 : mVals N B L.length bt h = (true, (mVals N B L.length bt h).2) := by rw [← c1]
    have a3 := a3 c1
    generalize (mVals N B L.length bt h).2 = h1 at a1 a2 a3 e1
    have k0 := aPl_ok (x := mNm (L ++ bt)) a1 (show 2 < N by omega)
    have p0 : hSp (aPl N B 2 (mNm (L ++ bt)) h1).2 ≤ hSp h1 + 1 := aPl_sp (N := N) (B := B) (t := 2) (x := mNm (L ++ bt)) (h := h1)
    cases c0 : (aPl N B 2 (mNm (L ++ bt)) h1).1 with
    | false =>
      rw [mApp_2 e1 c0]
      exact ⟨k0, by omega, fun z => by rw [c0] at z; cases z⟩
    | true =>
      rw [mApp_3 e1 c0]
      have q0 := fun u => aPl_see (u := u) a1 c0
      generalize (aPl N B 2 (mNm (L ++ bt)) h1).2 = h0 at k0 p0 q0
      obtain ⟨s1, s2, s3, s4, s5⟩ := aSe_all (N := N) (B := B) h0
      have k1 := s3 k0
      cases c2 : (aSe N h0).1 with
      | false =>
        rw [hB_f c2, hB_f c2]
        exact ⟨k1, by omega, fun z => by rw [c2] at z; cases z⟩
      | true =>
        rw [hB_t c2]
        generalize (aSe N h0).2 = h2 at s1 s2 s4 k1
        have k2 := aPl_ok (x := mHd (L ++ bt) (tu + 1)) k1 (show 1 < N by omega)
        have p2 : hSp (aPl N B 1 (mHd (L ++ bt) (tu + 1)) h2).2 ≤ hSp h2 + 1 := aPl_sp (N := N) (B := B) (t := 1) (x := mHd (L ++ bt) (tu + 1)) (h := h2)
        cases c3 : (aPl N B 1 (mHd (L ++ bt) (tu + 1)) h2).1 with
        | false =>
          rw [hB_f c3]
          exact ⟨k2, by omega, fun z => by rw [c3] at z; cases z⟩
        | true =>
          rw [hB_t c3]
          have p3 := fun u => aPl_see (u := u) k1 c3
          generalize (aPl N B 1 (mHd (L ++ bt) (tu + 1)) h2).2 = h3 at k2 p2 p3
          obtain ⟨r1, r2, r3, r4, r5⟩ := aSe_all (N := N) (B := B) h3
          refine ⟨r3 k2, by omega, fun z => ⟨r5 z, fun u hu => ?_⟩⟩
          rw [r1 u, p3 u]
          by_cases c : u = 1
          · rw [if_pos c, if_pos c]
          · rw [if_neg c, if_neg c, s1 u, q0 u, a3 u]
theorem mApp_ld {N B : Nat} (hN : 61 ≤ N) {L bt : List En} {tu : Int32} {h : Hw} (ho : HOk N B h) (hl : L.length + bt.length ≤ 40) (hd : LgD h L) (hb : ∀ p ∈ bt, 43 ≤ p.1) (ht : (mApp N B L tu bt h).1 = true) : LgD (mApp N B L tu bt h).2 (L ++ bt) := fun k hk => by
  obtain ⟨q1, q2⟩ := (mApp_all hN (tu := tu) ho hl).2.2 ht
  rw [List.length_append] at hk
  refine ⟨q1.free (by omega), ?_, ?_⟩
  · rw [q2 (3 + k) (by omega), if_neg (by omega), if_neg (by omega)]
    by_cases c : k < L.length
    · rw [if_neg (by omega), lAt_app c]
      exact (hd k c).2.1
    · rw [if_pos (by omega), show 3 + k - 3 - L.length = k - L.length by omega]
      have e := lAt_end (L := L) (M := bt) (k := k - L.length)
      rw [show L.length + (k - L.length) = k by omega] at e
      rw [e]
  · by_cases c : k < L.length
    · rw [lAt_app c]
      exact (hd k c).2.2
    · have e := lAt_end (L := L) (M := bt) (k := k - L.length)
      rw [show L.length + (k - L.length) = k by omega] at e
      rw [e]
      exact hb _ (lAt_mem (by omega))
theorem aApl_all {N B : Nat} (hN : 61 ≤ N) {L : List En} {tu : Int32} {h : Hw} (ho : HOk N B h) (hd : LgD h L) : HOk N B (aApl N B L tu h).2 ∧ hSp (aApl N B L tu h).2 ≤ hSp h + L.length + 1 ∧ LgD (aApl N B L tu h).2 (lApl L tu).1 ∧ (lApl L tu).1.length = 0 := by
  unfold aApl lApl
  by_cases c : L.length = 0
  · rw [if_pos c, if_pos c]
    exact ⟨ho, (by show hSp h ≤ _; omega), hd, c⟩
  · rw [if_neg c, if_neg c]
    obtain ⟨a1, a2, a3⟩ := mAply_all hN (L := L) (tu := tu) ho
    exact ⟨a1, a2, fun k hk => absurd hk (Nat.not_lt_zero k), rfl⟩
end MLB
