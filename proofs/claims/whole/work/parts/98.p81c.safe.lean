/-! ===== pure: the power fails in a flush or an apply: what a crash leaves is in order ===== -/
section PXH
variable {N B : Nat} {V W W' : Nat → Rw} {m m' : M5} {L bt : List En} {tu : Int32} {h h' : Hw} {t : Nat} {x : Rw}
/-- with the head of log L, whatever else the crash leaves is in order -/
def GS (N : Nat) (h : Hw) (L : List En) (W : Nat → Rw) : Prop := (∀ y, hPs h 0 y → y = mH00 N) ∧ L.length ≤ 40 ∧ (∀ p ∈ L, 43 ≤ p.1 ∧ p.1 < N) ∧ (∀ y, hPs h 2 y → ∀ k, k < 2 * L.length → y k = mNm L k) ∧ (∀ k, k < L.length → ∀ y, hPs h (3 + k) y → y = (lAt L k).2) ∧ WF N W ∧ ∀ b, 43 ≤ b → b < N → (b < 61 ∨ isT W b) → ∀ y, hPs h b y → oSee (lVal L b) y = W b
theorem GS.sub (g : GS N h L W) (s : ∀ t y, hPs h' t y → hPs h t y) : GS N h' L W := ⟨fun y hy => g.1 y (s 0 y hy), g.2.1, g.2.2.1, fun y hy => g.2.2.2.1 y (s 2 y hy), fun k hk y hy => g.2.2.2.2.1 k hk y (s _ y hy), g.2.2.2.2.2.1, fun b b1 b2 b3 y hy => g.2.2.2.2.2.2 b b1 b2 b3 y (s b y hy)⟩
theorem GS.pl (g : GS N h L W) (ho : HOk N B h) (c0 : t ≠ 0) (c2 : t = 2 → ∀ k, k < 2 * L.length → x k = mNm L k) (c3 : ∀ k, k < L.length → t ≠ 3 + k) (c4 : 43 ≤ t → t < N → (t < 61 ∨ isT W t) → lVal L t ≠ none) : GS N (aPl N B t x h).2 L W := by
  obtain ⟨g1, g2, g3, g4, g5, g6, g7⟩ := g
  refine ⟨fun y hy => ?_, g2, g3, fun y hy k hk => ?_, fun k hk y hy => ?_, g6, fun b b1 b2 b3 y hy => ?_⟩
  · rcases aPl_ps ho hy with q | q
    · exact g1 y q
    · exact absurd q.1.symm c0
  · rcases aPl_ps ho hy with q | q
    · exact g4 y q k hk
    · rw [q.2]
      exact c2 q.1.symm k hk
  · rcases aPl_ps ho hy with q | q
    · exact g5 k hk y q
    · exact absurd q.1.symm (c3 k hk)
  · rcases aPl_ps ho hy with q | q
    · exact g7 b b1 b2 b3 y q
    · rw [q.1] at b1 b2 b3
      rw [q.1]
      have z := g7 t b1 b2 b3 _ hPs_see
      have hn := c4 b1 b2 b3
      cases e : lVal L t with
      | none => exact absurd e hn
      | some v =>
        rw [e] at z
        exact z
theorem GS.img (g : GS N h L W) (hN1 : 61 ≤ N) {img : Nat → Rw} (hi : ∀ t, t < N → hPs h t (img t)) (h1 : img 1 = mHd L tu) : Img N img := by
  obtain ⟨g1, g2, g3, g4, g5, g6, g7⟩ := g
  refine Or.inr ⟨L, tu, ⟨g2, g3, h1, fun k hk => g4 _ (hi 2 (by omega)) k hk, fun k hk => g5 k hk _ (hi _ (by omega))⟩, g6.dep hN1 (fun b b1 b2 => g7 b b1 (by omega) (Or.inl b2) _ (hi b (by omega))) (fun b hb => ?_)⟩
  have q := isT_used g6.1 hb
  exact g7 b (by omega) q.2.1 (Or.inr hb) _ (hi b q.2.1)
theorem GS.safe (hN1 : 61 ≤ N) (hh : ∀ y, hPs h 1 y → ∃ L tu W, y = mHd L tu ∧ GS N h L W) : Safe N h := fun img hi => by
  obtain ⟨L, tu, W, e, g⟩ := hh _ (hi 1 (by omega))
  exact g.img hN1 hi e
theorem Safe.sub (g : Safe N h) (s : ∀ t y, hPs h' t y → hPs h t y) : Safe N h' := fun img hi => g img (fun t ht => s t _ (hi t ht))
def H1 (h : Hw) (L : List En) (tu : Int32) : Prop := ∀ y, hPs h 1 y → y = mHd L tu
theorem H1.pl (g : H1 h L tu) (ho : HOk N B h) (ht : t ≠ 1) : H1 (aPl N B t x h).2 L tu := fun y hy => by
  rcases aPl_ps ho hy with q | q
  · exact g y q
  · exact absurd q.1.symm ht
theorem GS.s1 (g : GS N h L W) (hN1 : 61 ≤ N) (k : H1 h L tu) : Safe N h := GS.safe hN1 (fun y hy => ⟨L, tu, W, k y hy, g⟩)
theorem mVals_gs (hN1 : 61 ≤ N) : ∀ (bt : List En) (e : Nat) (h : Hw), L.length ≤ e → e + bt.length ≤ 40 → HOk N B h → GS N h L W → H1 h L tu → GS N (mVals N B e bt h).2 L W ∧ H1 (mVals N B e bt h).2 L tu
  | [], e, h, _, _, _, g, k => ⟨g, k⟩
  | p :: l, e, h, he, hl, ho, g, k => by
    have hl : e + (l.length + 1) ≤ 40 := hl
    have g1 := g.pl (t := 3 + e) (x := p.2) ho (by omega) (fun z => by omega) (fun k hk => by omega) (fun z => by omega)
    have k1 := k.pl (t := 3 + e) (x := p.2) ho (by omega)
    cases c : (aPl N B (3 + e) p.2 h).1 with
    | false =>
      have q : mVals N B e (p :: l) h = aPl N B (3 + e) p.2 h := hB_f c
      rw [q]
      exact ⟨g1, k1⟩
    | true =>
      have q : mVals N B e (p :: l) h = mVals N B (e + 1) l (aPl N B (3 + e) p.2 h).2 := hB_t c
      rw [q]
      exact mVals_gs hN1 l (e + 1) _ (by omega) (by omega) (aPl_ok ho (by omega)) g1 k1
/-- the names of a longer log begin alike -/
theorem mNm_pre (hl : L.length + bt.length ≤ 40) : ∀ k, k < 2 * L.length → mNm (L ++ bt) k = mNm L k := fun k hk => by
  unfold mNm nr
  rw [if_pos (by omega), if_pos (by omega), List.length_append]
  have hj : k / 2 < L.length := by omega
  obtain ⟨a1, a2⟩ := nmR_at (bl := fun k => nI (lAt (L ++ bt) k).1) (g := fun _ => 0) (L.length + bt.length) (k / 2) (by omega)
  obtain ⟨b1, b2⟩ := nmR_at (bl := fun k => nI (lAt L k).1) (g := fun _ => 0) L.length (k / 2) hj
  have e : (lAt (L ++ bt) (k / 2)).1 = (lAt L (k / 2)).1 := by rw [lAt_app hj]
  by_cases c : k % 2 = 0
  · rw [show k = 2 * (k / 2) by omega, a1, b1]
    show vp_nar .byte (nI (lAt (L ++ bt) (k / 2)).1).toInt8.toInt32 = vp_nar .byte (nI (lAt L (k / 2)).1).toInt8.toInt32
    rw [e]
  · rw [show k = 2 * (k / 2) + 1 by omega, a2, b2]
    show vp_nar .byte ((nI (lAt (L ++ bt) (k / 2)).1) >>> ((8 : Int32) &&& 31)).toInt8.toInt32 = vp_nar .byte ((nI (lAt L (k / 2)).1) >>> ((8 : Int32) &&& 31)).toInt8.toInt32
    rw [e]
/-- the head is put: the old log, or the new one -/
theorem head_safe (hN1 : 61 ≤ N) (ho : HOk N B h) (q : (aSe N h).1 = true) (g : GS N (aSe N h).2 L W) (k : H1 (aSe N h).2 L tu) {L' : List En} {tu' : Int32} (g' : GS N (aSe N h).2 L' W') : Safe N (hB (hB (aSe N h) (aPl N B 1 (mHd L' tu'))) (aSe N)).2 := by
  have ho3 := (aSe_all (B := B) (N := N) h).2.2.1 ho
  have pl : ∀ {M : List En} {Z : Nat → Rw}, GS N (aSe N h).2 M Z → GS N (aPl N B 1 (mHd L' tu') (aSe N h).2).2 M Z := fun {M Z} z => z.pl ho3 (by decide) (fun y => by cases y) (fun k _ => by omega) (fun y => by omega)
  have s4 : Safe N (aPl N B 1 (mHd L' tu') (aSe N h).2).2 := GS.safe hN1 (fun y hy => by
    rcases aPl_ps ho3 hy with z | z
    · exact ⟨L, tu, W, k y z, pl g⟩
    · exact ⟨L', tu', W', z.2, pl g'⟩)
  rw [hB_t q]
  cases c : (aPl N B 1 (mHd L' tu') (aSe N h).2).1 with
  | false =>
    rw [hB_f c]
    exact s4
  | true =>
    rw [hB_t c]
    exact s4.sub (aSe_all (B := B) _).2.1
theorem mApp_safe (hN1 : 61 ≤ N) (ho : HOk N B h) (g : GS N h L W) (k : H1 h L tu) (hl : L.length + bt.length ≤ 40) (hb : ∀ p ∈ bt, 43 ≤ p.1 ∧ p.1 < N) (hw : WF N W') (he : ∀ b, 43 ≤ b → b < N → oSee (lVal (L ++ bt) b) (hSee h b) = W' b) : Safe N (mApp N B L tu bt h).2 := by
  obtain ⟨a1, -, a3⟩ := mVals_all (B := B) hN1 bt L.length h hl ho
  obtain ⟨v1, v2⟩ := mVals_gs (B := B) (tu := tu) hN1 bt L.length h (Nat.le_refl _) hl ho g k
  cases c1 : (mVals N B L.length bt h).1 with
  | false =>
    rw [mApp_1 c1]
    exact v1.s1 hN1 v2
  | true =>
    have e1 : mVals N B L.length bt h = (true, (mVals N B L.length bt h).2) := by rw [← c1]
    have a3 := a3 c1
    generalize (mVals N B L.length bt h).2 = h1 at a1 a3 v1 v2 e1
    have g2 := v1.pl (t := 2) (x := mNm (L ++ bt)) a1 (by decide) (fun _ => mNm_pre hl) (fun k _ => by omega) (fun z => by omega)
    have k2 := v2.pl (t := 2) (x := mNm (L ++ bt)) a1 (by decide)
    have o2 := aPl_ok (x := mNm (L ++ bt)) a1 (show 2 < N by omega)
    cases c2 : (aPl N B 2 (mNm (L ++ bt)) h1).1 with
    | false =>
      rw [mApp_2 e1 c2]
      exact g2.s1 hN1 k2
    | true =>
      have s2 := fun u => aPl_see (u := u) a1 c2
      rw [mApp_3 e1 c2]
      generalize (aPl N B 2 (mNm (L ++ bt)) h1).2 = h2 at g2 k2 o2 s2
      obtain ⟨z1, z2, z3, -, z5⟩ := aSe_all (N := N) (B := B) h2
      have g3 := g2.sub z2
      have k3 : H1 (aSe N h2).2 L tu := fun y hy => k2 y (z2 1 y hy)
      cases c3 : (aSe N h2).1 with
      | false =>
        rw [hB_f (o := aSe N h2) c3, hB_f c3]
        exact g3.s1 hN1 k3
      | true =>
        have qt : Quiet N (aSe N h2).2 := z5 c3
        have see : ∀ u, hSee (aSe N h2).2 u = if u = 2 then mNm (L ++ bt) else if 3 + L.length ≤ u ∧ u < 3 + L.length + bt.length then (lAt bt (u - 3 - L.length)).2 else hSee h u := fun u => by rw [z1 u, s2 u, a3 u]
        refine head_safe (W := W) (W' := W') hN1 o2 c3 g3 k3 ⟨g3.1, by rw [List.length_append]; exact hl, fun p hp => ?_, fun y hy k hk => ?_, fun k hk y hy => ?_, hw, fun b b1 b2 b3 y hy => ?_⟩
        · rcases List.mem_append.mp hp with q | q
          · exact g.2.2.1 p q
          · exact hb p q
        · rw [qt.ps (by omega) hy, see 2, if_pos rfl]
        · rw [List.length_append] at hk
          rw [qt.ps (by omega) hy, see, if_neg (by omega)]
          by_cases ck : k < L.length
          · rw [if_neg (by omega), lAt_app ck]
            exact g.2.2.2.2.1 k ck _ hPs_see
          · rw [if_pos (by omega), show k = L.length + (k - L.length) by omega, lAt_end]
            congr 2
            omega
        · rw [qt.ps b2 hy, see, if_neg (by omega), if_neg (by omega)]
          exact he b b1 b2
theorem mHome_gs (hN1 : 61 ≤ N) (hLb : ∀ p ∈ L, 43 ≤ p.1 ∧ p.1 < N) (hL : L.length ≤ 40) : ∀ (k b : Nat) (h : Hw), b + k ≤ N → HOk N B h → GS N h L W → H1 h L tu → GS N (mHome N B L k b h).2 L W ∧ H1 (mHome N B L k b h).2 L tu
  | 0, b, h, _, _, g, q => ⟨g, q⟩
  | k + 1, b, h, hbk, ho, g, q => by
    cases e : lVal L b with
    | none =>
      have z : mHome N B L (k + 1) b h = mHome N B L k (b + 1) h := by
        show (match lVal L b with | some x => hB (aPl N B b x h) (mHome N B L k (b + 1)) | none => mHome N B L k (b + 1) h) = _
        rw [e]
      rw [z]
      exact mHome_gs hN1 hLb hL k (b + 1) h (by omega) ho g q
    | some x =>
      have z : mHome N B L (k + 1) b h = hB (aPl N B b x h) (mHome N B L k (b + 1)) := by
        show (match lVal L b with | some x => hB (aPl N B b x h) (mHome N B L k (b + 1)) | none => mHome N B L k (b + 1) h) = _
        rw [e]
      have hb43 := (hLb _ (lVal_mem e)).1
      have g1 := g.pl (t := b) (x := x) ho (by omega) (fun y => by omega) (fun k hk => by omega) (fun _ _ _ y => by rw [e] at y; cases y)
      have q1 := q.pl (t := b) (x := x) ho (by omega)
      rw [z]
      cases c : (aPl N B b x h).1 with
      | false =>
        rw [hB_f c]
        exact ⟨g1, q1⟩
      | true =>
        rw [hB_t c]
        exact mHome_gs hN1 hLb hL k (b + 1) _ (by omega) (aPl_ok ho (by omega)) g1 q1
theorem mAply_safe (hN1 : 61 ≤ N) (ho : HOk N B h) (g : GS N h L W) (k : H1 h L tu) : Safe N (mAply N B L tu h).2 := by
  obtain ⟨a1, -, a3⟩ := mHome_all (L := L) (B := B) N 0 h (by omega) ho
  obtain ⟨v1, v2⟩ := mHome_gs (B := B) (tu := tu) hN1 g.2.2.1 g.2.1 N 0 h (by omega) ho g k
  cases c1 : (mHome N B L N 0 h).1 with
  | false =>
    rw [mAply_1 c1]
    exact v1.s1 hN1 v2
  | true =>
    have e1 : mHome N B L N 0 h = (true, (mHome N B L N 0 h).2) := by rw [← c1]
    have a3 := a3 c1
    rw [mAply_2 e1]
    generalize (mHome N B L N 0 h).2 = h1 at a1 a3 v1 v2
    obtain ⟨z1, z2, z3, -, z5⟩ := aSe_all (N := N) (B := B) h1
    have g3 := v1.sub z2
    have k3 : H1 (aSe N h1).2 L tu := fun y hy => v2 y (z2 1 y hy)
    cases c3 : (aSe N h1).1 with
    | false =>
      rw [hB_f (o := aSe N h1) c3, hB_f c3]
      exact g3.s1 hN1 k3
    | true =>
      have qt : Quiet N (aSe N h1).2 := z5 c3
      refine head_safe (W := W) (W' := W) (L' := []) hN1 a1 c3 g3 k3 ⟨g3.1, by decide, fun p hp => by (cases hp), fun y hy k hk => absurd hk (by show ¬ k < 0; omega), fun k hk => absurd hk (by show ¬ k < 0; omega), g.2.2.2.2.2.1, fun b b1 b2 b3 y hy => ?_⟩
      rw [qt.ps b2 hy, z1 b, a3 b, if_pos (by omega)]
      exact g.2.2.2.2.2.2 b b1 b2 b3 _ hPs_see
theorem aApl_safe (hN1 : 61 ≤ N) (ho : HOk N B h) (g : GS N h L W) (k : H1 h L tu) : Safe N (aApl N B L tu h).2 := by
  unfold aApl
  by_cases c : L.length = 0
  · rw [if_pos c]
    exact g.s1 hN1 k
  · rw [if_neg c]
    exact mAply_safe hN1 ho g k
theorem hFree.ps {u : Nat} (f : hFree h u) {y : Rw} (hy : hPs h u y) : y = hSee h u := by
  rcases hy with (q | q) | ⟨z, q⟩
  · rw [q]
    exact f.see
  · exact absurd rfl (f.2 _ q)
  · rw [f.1] at q
    cases q
def lgN (N : Nat) (L : List En) : Prop := ∀ p ∈ L, p.1 < N
theorem GM.gs (g : GM N m) (hm : MOk N B m) (hb : lgN N m.2.1) : GS N m.1 m.2.1 (Wj m 0) ∧ H1 m.1 m.2.1 m.2.2.1 := by
  obtain ⟨g1, g2, g3, g4, g5⟩ := g
  refine ⟨⟨g1, hm.2.2.1, fun p hp => ⟨?_, hb p hp⟩, g3, fun k hk y hy => ?_, g4 0 (Nat.zero_le _), fun b b1 b2 b3 y hy => ?_⟩, g2⟩
  · obtain ⟨k, k1, k2⟩ := mem_lAt hp
    rw [← k2]
    exact (hm.2.1 k k1).2.2
  · rw [(hm.2.1 k hk).1.ps hy]
    exact (hm.2.1 k hk).2.1
  · show oSee (lVal m.2.1 b) y = oSee (lVal m.2.1 b) (hSee m.1 b)
    rcases g5 0 (Nat.zero_le _) b b1 b2 b3 with z | z | z
    · exact absurd rfl z
    · cases e : lVal m.2.1 b with
      | none => exact absurd e z
      | some v => rfl
    · rw [z y hy]
theorem qFill_tk : ∀ (qs : List QC) (bt : List En), ∃ j, j ≤ qs.length ∧ (qFill N qs bt).2 = qs.drop j ∧ ∀ i u, u < N → jv ((qs.drop j).take i) (qFill N qs bt).1 u = jv (qs.take (j + i)) bt u
  | [], bt => ⟨0, Nat.le_refl _, rfl, fun i u _ => by
    show jv (([] : List QC).take i) bt u = jv (([] : List QC).take (0 + i)) bt u
    rw [List.take_nil, List.take_nil]⟩
  | q :: qs, bt => by
    by_cases c : (bJoin N bt q).length ≤ 40
    · obtain ⟨j, j1, j2, j3⟩ := qFill_tk qs (bJoin N bt q)
      refine ⟨j + 1, by show j + 1 ≤ qs.length + 1; omega, by rw [qFill_t c]; exact j2, fun i u hu => ?_⟩
      rw [qFill_t c]
      show jv ((qs.drop j).take i) _ u = _
      rw [j3 i u hu, show j + 1 + i = (j + i) + 1 by omega]
      show jv (qs.take (j + i)) (bJoin N bt q) u = jv (q :: qs.take (j + i)) bt u
      unfold jv
      show _ = match (match qVal (qs.take (j + i)) u with | some x => some x | none => q u) with | some x => some x | none => lVal bt u
      cases e : qVal (qs.take (j + i)) u with
      | some x => rfl
      | none =>
        show lVal (bJoin N bt q) u = match q u with | some x => some x | none => lVal bt u
        unfold bJoin
        rw [bList_val, if_pos hu]
        rfl
    · refine ⟨0, Nat.zero_le _, by rw [qFill_f c]; rfl, fun i u _ => ?_⟩
      rw [qFill_f c, Nat.zero_add]
      rfl
theorem jv_0 {qs : List QC} {u : Nat} {z : Rw} : oSee (jv qs [] u) z = oSee (qVal qs u) z := by
  unfold jv
  cases qVal qs u with
  | some x => rfl
  | none => rfl
theorem jv_o {qs : List QC} {bt : List En} {u : Nat} {z : Rw} : oSee (jv qs bt u) z = oSee (qVal qs u) (oSee (lVal bt u) z) := oS_o
theorem mAp2_safe (hN1 : 61 ≤ N) {s : mSt} (ho : HOk N B s.1) (g : GS N s.1 s.2.1 W) (k : H1 s.1 s.2.1 s.2.2) (hl : s.2.1.length + bt.length ≤ 40) (hb : ∀ p ∈ bt, 43 ≤ p.1 ∧ p.1 < N) (hw : WF N W') (he : ∀ b, 43 ≤ b → b < N → oSee (lVal bt b) (oSee (lVal s.2.1 b) (hSee s.1 b)) = W' b) : Safe N (mAp2 N B bt s).2.1 := mApp_safe hN1 ho g k hl hb hw (fun b b1 b2 => by
  rw [← he b b1 b2, lVal_cat, oS_o])
theorem mStep_safe (hN1 : 61 ≤ N) {s : mSt} (ho : HOk N B s.1) (hd : LgD s.1 s.2.1) (g : GS N s.1 s.2.1 W) (k : H1 s.1 s.2.1 s.2.2) (hl : bt.length ≤ 40) (hb : ∀ p ∈ bt, 43 ≤ p.1 ∧ p.1 < N) (hw : WF N W') (he : ∀ b, 43 ≤ b → b < N → oSee (lVal bt b) (oSee (lVal s.2.1 b) (hSee s.1 b)) = W' b) : Safe N (mStep N B bt s).2.1 := by
  obtain ⟨hw0, L, tu⟩ := s
  have ho : HOk N B hw0 := ho
  have hd : LgD hw0 L := hd
  by_cases c : 40 < L.length + bt.length
  · cases ca : (aApl N B L tu hw0).1 with
    | false =>
      rw [mStep_a1 c ca]
      exact aApl_safe hN1 ho g k
    | true =>
      rw [mStep_a2 c ca]
      obtain ⟨a1, a2, a3, a4⟩ := aApl_all (tu := tu) hN1 ho hd
      have see := fun {b : Nat} (b1 : 43 ≤ b) (b2 : b < N) => aApl_see (tu := tu) hN1 ho ca b1 b2
      refine mAp2_safe (W := W) hN1 a1 ?_ ?_ (by show (lApl L tu).1.length + bt.length ≤ 40; omega) hb hw (fun b b1 b2 => by
        show oSee (lVal bt b) (oSee (lVal (lApl L tu).1 b) (hSee (aApl N B L tu hw0).2 b)) = W' b
        rw [see b1 b2]
        exact he b b1 b2)
      · show GS N (aApl N B L tu hw0).2 (lApl L tu).1 W
        unfold aApl at ca ⊢
        unfold lApl
        by_cases c0 : L.length = 0
        · rw [if_pos c0, if_pos c0]
          exact g
        · rw [if_neg c0] at ca ⊢
          rw [if_neg c0]
          obtain ⟨q1, q2⟩ := (mAply_all (tu := tu) (L := L) hN1 ho).2.2 ca
          refine ⟨fun y hy => ?_, by show 0 ≤ 40; omega, fun p hp => by (cases hp), fun y hy k hk => absurd hk (by show ¬ k < 0; omega), fun k hk => absurd hk (by show ¬ k < 0; omega), g.2.2.2.2.2.1, fun b b1 b2 b3 y hy => ?_⟩
          · rw [q1.ps (by omega) hy, q2 0 (by omega), if_neg (by decide), lVal_0 hd (by decide)]
            exact g.1 _ hPs_see
          · rw [q1.ps b2 hy, q2 b b2, if_neg (by omega)]
            exact g.2.2.2.2.2.2 b b1 b2 b3 _ hPs_see
      · show H1 (aApl N B L tu hw0).2 (lApl L tu).1 (lApl L tu).2
        unfold aApl at ca ⊢
        unfold lApl
        by_cases c0 : L.length = 0
        · rw [if_pos c0, if_pos c0]
          exact k
        · rw [if_neg c0] at ca ⊢
          rw [if_neg c0]
          obtain ⟨q1, q2⟩ := (mAply_all (tu := tu) (L := L) hN1 ho).2.2 ca
          intro y hy
          rw [q1.ps (by omega) hy, q2 1 (by omega), if_pos rfl]
  · rw [mStep_b c]
    exact mAp2_safe hN1 ho g k (by show L.length + bt.length ≤ 40; omega) hb hw he
theorem mStep_lN {s : mSt} (hL : lgN N s.2.1) (hb : ∀ p ∈ bt, p.1 < N) : lgN N (mStep N B bt s).2.2.1 := by
  obtain ⟨hw0, L, tu⟩ := s
  have cat : ∀ M : List En, lgN N M → lgN N (M ++ bt) := fun M hM p hp => (List.mem_append.mp hp).elim (hM p) (hb p)
  by_cases c : 40 < L.length + bt.length
  · cases ca : (aApl N B L tu hw0).1 with
    | false =>
      rw [mStep_a1 c ca]
      exact hL
    | true =>
      rw [mStep_a2 c ca]
      refine cat _ ?_
      show lgN N (lApl L tu).1
      unfold lApl
      split
      · exact hL
      · exact fun p hp => by cases hp
  · rw [mStep_b c]
    exact cat _ hL
theorem mStep_len (hN1 : 61 ≤ N) {hw0 : Hw} (ho : HOk N B hw0) (hd : LgD hw0 L) (hb : bt.length ≤ 40) (ht : (mStep N B bt (hw0, L, tu)).1 = true) : (mStep N B bt (hw0, L, tu)).2.2.1.length ≤ 40 := by
  by_cases c : 40 < L.length + bt.length
  · cases ca : (aApl N B L tu hw0).1 with
    | false =>
      rw [mStep_a1 c ca] at ht
      cases ht
    | true =>
      rw [mStep_a2 c ca]
      have a4 := (aApl_all (tu := tu) hN1 ho hd).2.2.2
      show ((lApl L tu).1 ++ bt).length ≤ 40
      rw [List.length_append]
      omega
  · rw [mStep_b c]
    show (L ++ bt).length ≤ 40
    rw [List.length_append]
    omega
theorem mFl_safe (hN1 : 61 ≤ N) : ∀ (k : Nat) (qs : List QC) (s : mSt) (rs : Nat → Nat), MOk N B (s.1, s.2.1, s.2.2, qs, rs) → lgN N s.2.1 → GM N (s.1, s.2.1, s.2.2, qs, rs) → Safe N (mFl N B k qs s).2.1 ∧ lgN N (mFl N B k qs s).2.2.1
  | 0, qs, s, rs, hm, hl, g => by
    obtain ⟨g1, g2⟩ := g.gs hm hl
    exact ⟨g1.s1 hN1 g2, hl⟩
  | k + 1, [], s, rs, hm, hl, g => by
    obtain ⟨g1, g2⟩ := g.gs hm hl
    exact ⟨g1.s1 hN1 g2, hl⟩
  | k + 1, q :: qs, s, rs, hm, hl, g => by
    obtain ⟨g1, g2⟩ := g.gs hm hl
    obtain ⟨j, j1, j2, j3⟩ := qFill_tk (N := N) (q :: qs) []
    obtain ⟨b40, bN⟩ := qFill_40 (N := N) (q :: qs) [] (by decide) (fun p hp => by cases hp)
    have b43 := qFill_43 (N := N) (q :: qs) [] (fun p hp => by cases hp) hm.2.2.2.1
    have e : mFl N B (k + 1) (q :: qs) s = if (mStep N B (qFill N (q :: qs) []).1 s).1 = true then mFl N B k (qFill N (q :: qs) []).2 (mStep N B (qFill N (q :: qs) []).1 s).2 else mStep N B (qFill N (q :: qs) []).1 s := rfl
    have hj : ∀ b, b < N → ∀ z, oSee (lVal (qFill N (q :: qs) []).1 b) z = oSee (qVal ((q :: qs).take j) b) z := fun b hb z => by
      have := j3 0 b hb
      rw [Nat.add_zero, List.take_zero] at this
      rw [← jv_0 (qs := (q :: qs).take j), ← this]
      rfl
    have st := mStep_safe (W := Wj (s.1, s.2.1, s.2.2, q :: qs, rs) 0) (W' := Wj (s.1, s.2.1, s.2.2, q :: qs, rs) j) hN1 hm.1 hm.2.1 g1 g2 b40 (fun p hp => ⟨b43 p hp, bN p hp⟩) (g.2.2.2.1 j j1) (fun b b1 b2 => hj b b2 _)
    have sl := mStep_lN (B := B) (s := s) hl bN
    rw [e]
    by_cases c : (mStep N B (qFill N (q :: qs) []).1 s).1 = true
    · rw [if_pos c]
      obtain ⟨w1, w2⟩ := mStep_qt hN1 hm.1 hm.2.1 hm.2.2.1 b40 c
      obtain ⟨hw0, L, tu⟩ := s
      obtain ⟨al1, al2, al3⟩ := mStep_all (tu := tu) hN1 hm.1 hm.2.1 hm.2.2.1 b40 b43 c
      have see := fun {b : Nat} (b1 : 43 ≤ b) (b2 : b < N) => mStep_see (tu := tu) hN1 hm.1 hm.2.1 hm.2.2.1 b40 c b1 b2
      have hw2 : ∀ i b, 43 ≤ b → b < N → Wj ((mStep N B (qFill N (q :: qs) []).1 (hw0, L, tu)).2.1, (mStep N B (qFill N (q :: qs) []).1 (hw0, L, tu)).2.2.1, (mStep N B (qFill N (q :: qs) []).1 (hw0, L, tu)).2.2.2, (qFill N (q :: qs) []).2, rs) i b = Wj (hw0, L, tu, q :: qs, rs) (j + i) b := fun i b b1 b2 => by
        show oSee (qVal ((qFill N (q :: qs) []).2.take i) b) (oSee (lVal (mStep N B (qFill N (q :: qs) []).1 (hw0, L, tu)).2.2.1 b) (hSee (mStep N B (qFill N (q :: qs) []).1 (hw0, L, tu)).2.1 b)) = oSee (qVal ((q :: qs).take (j + i)) b) (oSee (lVal L b) (hSee hw0 b))
        rw [see b1 b2, j2, ← jv_o, j3 i b b2, jv_0]
      refine mFl_safe hN1 k _ _ rs ⟨al1, al2, ?_, fun q' hq' => hm.2.2.2.1 q' (qFill_mem _ _ q' hq'), fun q' hq' => hm.2.2.2.2 q' (qFill_mem _ _ q' hq')⟩ sl ⟨fun y hy => ?_, fun y hy => ?_, fun y hy k hk => ?_, fun i hi => ?_, fun i hi b b1 b2 b3 => Or.inr (Or.inr (fun y hy => w1.1.ps b2 hy))⟩
      · exact mStep_len hN1 hm.1 hm.2.1 b40 c
      · rw [w1.1.ps (by omega) hy]
        show hSee (mStep N B (qFill N (q :: qs) []).1 (hw0, L, tu)).2.1 0 = mH00 N
        rw [w2]
        exact g.1 _ hPs_see
      · rw [w1.1.ps (by omega) hy]
        exact w1.2.1
      · rw [w1.1.ps (show 2 < N by omega) hy]
        show hSee (mStep N B (qFill N (q :: qs) []).1 (hw0, L, tu)).2.1 2 k = _
        rw [w1.2.2]
      · have hi : i ≤ (qFill N (q :: qs) []).2.length := hi
        rw [j2, List.length_drop] at hi
        exact (g.2.2.2.1 (j + i) (by show j + i ≤ (q :: qs).length; omega)).rows hN1 (hw2 i)
    · rw [if_neg c]
      exact ⟨st, sl⟩
theorem GM.safe (hN1 : 61 ≤ N) (g : GM N m) (hm : MOk N B m) (hl : lgN N m.2.1) : Safe N m.1 := by
  obtain ⟨g1, g2⟩ := g.gs hm hl
  exact g1.s1 hN1 g2
theorem GM.dead (hN1 : 61 ≤ N) (g : GM N m) (hm : MOk N B m) (hl : lgN N m.2.1) : Safe N (flO2 N B m).2.1 := (mFl_safe (B := B) hN1 m.2.2.2.1.length m.2.2.2.1 (m.1, m.2.1, m.2.2.1) m.2.2.2.2 hm hl g).1
theorem GM.flN (hN1 : 61 ≤ N) (g : GM N m) (hm : MOk N B m) (hl : lgN N m.2.1) : lgN N (flM N B m).2.1 := (mFl_safe (B := B) hN1 m.2.2.2.1.length m.2.2.2.1 (m.1, m.2.1, m.2.2.1) m.2.2.2.2 hm hl g).2
theorem Fld.safe {o : Hw} (hN1 : 61 ≤ N) (f : Fld N B m o) (g : GM N m) (hm : MOk N B m) (hl : lgN N m.2.1) : Safe N o := by
  obtain ⟨y, y1, y2, y3⟩ := f
  obtain ⟨z1, z2, z3⟩ := y1 (fun x => GM N x ∧ MOk N B x ∧ lgN N x.2.1) ⟨g, hm, hl⟩ (fun x ⟨h1, h2, h3⟩ ht => ⟨h1.flush hN1 h2 ht, flM_ok hN1 h2 ht, h1.flN hN1 h2 h3⟩)
  rw [y3]
  exact z1.dead hN1 z2 z3
theorem GM.apd (hN1 : 61 ≤ N) (g : GM N m) (hm : MOk N B m) (hl : lgN N m.2.1) : Safe N (aApl N B m.2.1 m.2.2.1 m.1).2 := by
  obtain ⟨g1, g2⟩ := g.gs hm hl
  exact aApl_safe hN1 hm.1 g1 g2
theorem RLg.lgn {R : RfT} (h : RLg N R L tu) : lgN N L := fun p hp => by
  obtain ⟨k, k1, k2⟩ := mem_lAt hp
  rw [← k2]
  exact (h.2.2.2.1 k k1).2.1
end PXH
