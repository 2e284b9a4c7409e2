/-! ===== the class settles as the model does ===== -/
section MDD
theorem bNx (bo st : Nat → Int32) (x : Int32) : ∀ j, (∀ s, s < j → 0 < st s → ¬ bo s = -1) → (bNext bo st x j = -1 ∧ ∀ s, s < j → 0 < st s → ¬ x < bo s) ∨ ∃ s, s < j ∧ 0 < st s ∧ x < bo s ∧ bNext bo st x j = bo s ∧ ∀ s', s' < j → 0 < st s' → x < bo s' → bo s ≤ bo s'
  | 0, _ => Or.inl ⟨rfl, fun s hs => absurd hs (by omega)⟩
  | j + 1, h => by
    have ih := bNx bo st x j (fun s hs => h s (by omega))
    unfold bNext
    by_cases c : 0 < st j ∧ x < bo j ∧ (bNext bo st x j = -1 ∨ bo j < bNext bo st x j)
    · rw [if_pos c]
      refine Or.inr ⟨j, by omega, c.1, c.2.1, rfl, fun s' hs hp hx => ?_⟩
      by_cases e : s' = j
      · rw [e]; exact Int32.le_refl _
      · rcases ih with ⟨h1, h2⟩ | ⟨s, h1, h2, h3, h4, h5⟩
        · exact absurd hx (h2 s' (by omega) hp)
        · have := h5 s' (by omega) hp hx
          rcases c.2.2 with c3 | c3
          · rw [h4] at c3
            exact absurd c3 (h s (by omega) h2)
          · rw [h4] at c3
            exact Int32.le_trans (Int32.le_of_lt c3) this
    · rw [if_neg c]
      rcases ih with ⟨h1, h2⟩ | ⟨s, h1, h2, h3, h4, h5⟩
      · refine Or.inl ⟨h1, fun s hs hp hx => ?_⟩
        by_cases e : s = j
        · rw [e] at hp hx
          exact c ⟨hp, hx, Or.inl h1⟩
        · exact h2 s (by omega) hp hx
      · refine Or.inr ⟨s, by omega, h2, h3, h4, fun s' hs hp hx => ?_⟩
        by_cases e : s' = j
        · rw [e] at hp hx ⊢
          exact Int32.not_lt.mp (fun z => c ⟨hp, hx, Or.inr (by rw [h4]; exact z)⟩)
        · exact h5 s' (by omega) hp hx
/-- x is the next block of the buffer from t on, -1 if there is none -/
def NxOk (N : Nat) (bf : Nat → Option (Nat × Rw)) (t : Nat) (x : Int32) : Prop := (x = -1 ∧ ∀ u, t ≤ u → u < N → bf u = none) ∨ ∃ u, t ≤ u ∧ u < N ∧ x = nI u ∧ bf u ≠ none ∧ ∀ v, t ≤ v → v < u → bf v = none
theorem CBf.st {N B : Nat} {b0 : Bf0} {so bo st : Nat → Int32} {ro : Nat → Nat → Int32} {sp hd : Nat} {pu : Int32} (hN : N ≤ 1024) (bs : BsOk N b0) (bk : bOk N B (so, bo, st, ro, sp, hd, pu)) (c : CBf N B b0 (so, bo, st, ro, sp, hd, pu)) {u s q : Nat} (hu : u < N) (h : st s = nI (q + 1)) (h5 : b0.1 u = some (q, nr (ro s))) : 0 < st s := by
  have h1 := bs.1 u q _ hu h5
  rw [c.2.1] at h1
  have h2 : sp < 2 ^ 31 := bk.2.2.2.1
  rw [h]
  exact nI_pos1 (by omega)
/-- what bNext finds from (nI t) on is the next block from t + 1 on; from -1 on that from 0 on -/
theorem CBf.nx {N B : Nat} {b0 : Bf0} {so bo st : Nat → Int32} {ro : Nat → Nat → Int32} {sp hd : Nat} {pu : Int32} (hN : N ≤ 1024) (bs : BsOk N b0) (bk : bOk N B (so, bo, st, ro, sp, hd, pu)) (c : CBf N B b0 (so, bo, st, ro, sp, hd, pu)) (x : Int32) (t : Nat) (hx : ∀ u, u < N → (x < nI u ↔ t ≤ u)) : NxOk N b0.1 t (bNext bo st x B) := by
  have hbo : ∀ s, s < B → ∃ u, u < N ∧ bo s = nI u ∧ (0 < st s → so u = nI s) := bk.2.2.2.2.1
  have hb : ∀ u, u < N → Bl B so bo st ro b0.1 u := c.2.2.2
  have hB : B ≤ 64 := bk.2.1
  rcases bNx bo st x B (fun s hs _ => by obtain ⟨u, hu, e, -⟩ := hbo s hs; rw [e]; exact nI_m1 (by omega)) with ⟨h1, h2⟩ | ⟨s, h1, h2, h3, h4, h5⟩
  · refine Or.inl ⟨h1, fun u hu1 hu => ?_⟩
    rcases hb u hu with ⟨q1, q2⟩ | ⟨s, q, q1, q2, q3, q4, q5⟩
    · exact q2
    · exact absurd (by rw [q4]; exact (hx u hu).mpr hu1) (h2 s q1 (c.st hN bs bk hu q3 q5))
  · obtain ⟨u, hu, e, hso⟩ := hbo s h1
    refine Or.inr ⟨u, (hx u hu).mp (by rw [← e]; exact h3), hu, by rw [h4, e], ?_, fun v hv1 hv2 => ?_⟩
    · rcases hb u hu with ⟨q1, q2⟩ | ⟨s', q, q1, q2, q3, q4, q5⟩
      · exact absurd ((hso h2).symm.trans q1) (nI_m1 (by omega))
      · rw [q5]
        exact fun z => nomatch z
    · rcases hb v (by omega) with ⟨q1, q2⟩ | ⟨s', q, q1, q2, q3, q4, q5⟩
      · exact q2
      · have := h5 s' q1 (c.st hN bs bk (by omega) q3 q5) (by rw [q4]; exact (hx v (by omega)).mpr hv1)
        rw [e, q4] at this
        exact absurd ((nI_leI (by omega) (by omega)).mp this) (by omega)
theorem CBf.drop {N B : Nat} {bf : Nat → Option (Nat × Rw)} {hd sp : Nat} {pu : Int32} {b : BfT} {t s : Nat} (hN : N ≤ 1024) (hB : B ≤ 64) (c : CBf N B (bf, hd, sp, pu) b) (ht : t < N) (hbo : b.2.1 s = nI t) : CBf N B (bSet bf t none, hd - 1, sp, pu) (bDrop b s) := by
  obtain ⟨so, bo, st, ro, sp', hd', pu'⟩ := b
  obtain ⟨e1, e2, e3, h⟩ := c
  have hbo : bo s = nI t := hbo
  refine ⟨by show hd - 1 = hd' - 1; rw [show hd = hd' from e1], e2, e3, ?_⟩
  show ∀ u, u < N → Bl B (upd so (bo s).toNatClampNeg (-1)) bo (upd st s 0) ro (bSet bf t none) u
  rw [hbo, nI_clamp (by omega)]
  exact Bl.drop hN hB h ht hbo
/-- blocks below where the run begins stay as they are -/
theorem aRun_low : ∀ (k t : Nat) (h : Hw), (aRun k t h).1 = true → ∀ {u : Nat}, u < t → h.2.1.1 u = none → (aRun k t h).2.2.1.1 u = none
  | 0, t, h, _, u, hu, e => e
  | k + 1, t, (D, (bf, hd, sp, pu), le, wr, ss), hr, u, hu, e => by
    have e : bf u = none := e
    by_cases c1 : bf t = none
    · have ea : aRun (k + 1) t (D, (bf, hd, sp, pu), le, wr, ss) = aRun k (t + 1) (D, (bf, hd, sp, pu), le, wr, ss) := if_pos c1
      rw [ea] at hr ⊢
      exact aRun_low k (t + 1) _ hr (by omega) e
    · by_cases c2 : le = 0
      · have ea : aRun (k + 1) t (D, (bf, hd, sp, pu), le, wr, ss) = (false, D, (bf, hd, sp, pu), le, wr, ss) := (if_neg c1).trans (if_pos c2)
        rw [ea] at hr
        exact absurd hr (show ¬ false = true by decide)
      · have ea : aRun (k + 1) t (D, (bf, hd, sp, pu), le, wr, ss) = aRun k (t + 1) (aWr D t (bVal bf t), (bSet bf t none, hd - 1, sp, pu), sLe le, wr + 1, ss) := (if_neg c1).trans (if_neg c2)
        rw [ea] at hr ⊢
        refine aRun_low k (t + 1) _ hr (by omega) ?_
        show bSet bf t none u = none
        by_cases z : u = t
        · rw [z]; exact bSet_e
        · rw [bSet_n z]; exact e
theorem CH.run {N B : Nat} (hN : N ≤ 1024) : ∀ (k t n : Nat) (x : Int32) (D : Dk0) (b0 : Bf0) (d : DkT) (b : BfT) (le wr ss : Int32), t + k = N → CH N B (D, b0, le, wr, ss) (d, b, le, wr, ss) → n = b.2.2.2.2.2.1 → NxOk N b0.1 t x →
    (aRun k t (D, b0, le, wr, ss)).1 = (seRun B n x d b le wr).1 ∧ CH N B (aRun k t (D, b0, le, wr, ss)).2 ((seRun B n x d b le wr).2.1, (seRun B n x d b le wr).2.2.1, (seRun B n x d b le wr).2.2.2.1, (seRun B n x d b le wr).2.2.2.2, ss) ∧ ((aRun k t (D, b0, le, wr, ss)).1 = true → ∀ u, t ≤ u → u < N → (aRun k t (D, b0, le, wr, ss)).2.2.1.1 u = none)
  | 0, t, n, x, D, b0, d, b, le, wr, ss, e, c, hn, hx => by
    have ex : x = -1 := by
      rcases hx with ⟨h, -⟩ | ⟨u, h1, h2, -⟩
      · exact h
      · exact absurd h2 (by omega)
    have es : seRun B n x d b le wr = (true, d, b, le, wr) := by
      cases n with
      | zero => rfl
      | succ n => exact if_pos ex
    rw [es]
    exact ⟨rfl, c, fun _ u h1 h2 => absurd h1 (by omega)⟩
  | k + 1, t, n, x, D, b0, d, b, le, wr, ss, e, c, hn, hx => by
    obtain ⟨bf, hd, sp, pu⟩ := b0
    by_cases c1 : bf t = none
    · have ea : aRun (k + 1) t (D, (bf, hd, sp, pu), le, wr, ss) = aRun k (t + 1) (D, (bf, hd, sp, pu), le, wr, ss) := if_pos c1
      rw [ea]
      have hx' : NxOk N bf (t + 1) x := by
        rcases hx with ⟨h1, h2⟩ | ⟨u, h1, h2, h3, h4, h5⟩
        · exact Or.inl ⟨h1, fun u hu hu2 => h2 u (by omega) hu2⟩
        · have hne : u ≠ t := by
            rintro rfl
            exact h4 c1
          exact Or.inr ⟨u, by omega, h2, h3, h4, fun v h6 h7 => h5 v (by omega) h7⟩
      obtain ⟨r1, r2, r3⟩ := CH.run hN k (t + 1) n x D (bf, hd, sp, pu) d b le wr ss (by omega) c hn hx'
      refine ⟨r1, r2, fun ht u h1 h2 => ?_⟩
      by_cases eu : u = t
      · rw [eu]
        exact aRun_low k (t + 1) _ ht (by omega) c1
      · exact r3 ht u (by omega) h2
    · obtain ⟨cd, cb, dk, bk, bs, -, -, -⟩ := id c
      have cb0 := cb
      obtain ⟨so, bo, st, ro, sp', hd', pu'⟩ := b
      have hB : B ≤ 64 := bk.2.1
      have hb : ∀ u, u < N → Bl B so bo st ro bf u := cb.2.2.2
      rcases hb t (by omega) with ⟨q1, q2⟩ | ⟨s, q, q1, q2, q3, q4, q5⟩
      · exact absurd q2 c1
      · have hpos : 0 < st s := cb.st hN bs bk (by omega) q3 q5
        have ex : x = nI t := by
          rcases hx with ⟨h1, h2⟩ | ⟨u, h1, h2, h3, h4, h5⟩
          · exact absurd (h2 t (Nat.le_refl _) (by omega)) c1
          · by_cases eu : u = t
            · rw [← eu]; exact h3
            · exact absurd (h5 t (Nat.le_refl _) (by omega)) c1
        have hv : bVal bf t = nr (ro s) := by
          unfold bVal
          rw [q5]
        have hcnt : 1 ≤ hd' := by
          have e3 : hd' = bCnt st B := bk.2.2.1
          rw [e3]
          exact bCnt_pos st s hpos B q1
        have hn : n = hd' := hn
        obtain ⟨m, rfl⟩ : ∃ m, n = m + 1 := ⟨n - 1, by omega⟩
        have hxt : x.toNatClampNeg = t := by rw [ex]; exact nI_clamp (by omega)
        have hst : (so x.toNatClampNeg).toNatClampNeg = s := by rw [hxt, q2]; exact nI_clamp (by omega)
        by_cases c2 : le = 0
        · have ea : aRun (k + 1) t (D, (bf, hd, sp, pu), le, wr, ss) = (false, D, (bf, hd, sp, pu), le, wr, ss) := (if_neg c1).trans (if_pos c2)
          have es : seRun B (m + 1) x d (so, bo, st, ro, sp', hd', pu') le wr = (false, d, (so, bo, st, ro, sp', hd', pu'), le, wr) := (if_neg (by rw [ex]; exact nI_m1 (by omega))).trans (if_pos c2)
          rw [ea, es]
          exact ⟨rfl, c, fun z => absurd z (show ¬ false = true by decide)⟩
        · have ea : aRun (k + 1) t (D, (bf, hd, sp, pu), le, wr, ss) = aRun k (t + 1) (aWr D t (nr (ro s)), (bSet bf t none, hd - 1, sp, pu), sLe le, wr + 1, ss) := by
            refine ((if_neg c1).trans (if_neg c2)).trans ?_
            rw [hv]
          have es : seRun B (m + 1) x d (so, bo, st, ro, sp', hd', pu') le wr = seRun B m (bNext (bDrop (so, bo, st, ro, sp', hd', pu') s).2.1 (bDrop (so, bo, st, ro, sp', hd', pu') s).2.2.1 x B) (dWrite d t (ro s)) (bDrop (so, bo, st, ro, sp', hd', pu') s) (sLe le) (wr + 1) := by
            refine ((if_neg (by rw [ex]; exact nI_m1 (by omega))).trans (if_neg c2)).trans ?_
            show seRun B m (bNext (bDrop (so, bo, st, ro, sp', hd', pu') (so x.toNatClampNeg).toNatClampNeg).2.1 (bDrop (so, bo, st, ro, sp', hd', pu') (so x.toNatClampNeg).toNatClampNeg).2.2.1 x B) (dWrite d x.toNatClampNeg (ro (so x.toNatClampNeg).toNatClampNeg)) (bDrop (so, bo, st, ro, sp', hd', pu') (so x.toNatClampNeg).toNatClampNeg) (if 0 < le then le - 1 else le) (wr + 1) = _
            rw [hst, hxt]
            rfl
          have bk2 := bDrop_ok hN bk q1 hpos
          have cb2 := CBf.drop hN hB cb0 (t := t) (s := s) (by omega) q4
          have bs2 : BsOk N (bSet bf t none, hd - 1, sp, pu) := BsOk.less bs
          rw [ea, es]
          have hnx : NxOk N (bSet bf t none) (t + 1) (bNext (bDrop (so, bo, st, ro, sp', hd', pu') s).2.1 (bDrop (so, bo, st, ro, sp', hd', pu') s).2.2.1 x B) := CBf.nx hN bs2 bk2 cb2 x (t + 1) (fun u hu => by rw [ex]; exact (nI_ltI (by omega) (by omega)).trans (by omega))
          obtain ⟨r1, r2, r3⟩ := CH.run hN k (t + 1) m _ (aWr D t (nr (ro s))) (bSet bf t none, hd - 1, sp, pu) (dWrite d t (ro s)) (bDrop (so, bo, st, ro, sp', hd', pu') s) (sLe le) (wr + 1) ss (by omega) ⟨cd.write hN (by omega), cb2, dWrite_ok hN dk (by omega) (bk.2.2.2.2.2.2.1 s), bk2, bs2, rfl, rfl, rfl⟩ (by show m = hd' - 1; omega) hnx
          refine ⟨r1, r2, fun ht u h1 h2 => ?_⟩
          by_cases eu : u = t
          · rw [eu]
            exact aRun_low k (t + 1) _ ht (by omega) bSet_e
          · exact r3 ht u (by omega) h2
theorem CH.se {N B : Nat} {h : Hw} {s : DbS} (hN : N ≤ 1024) (c : CH N B h s) : (aSe N h).1 = (oSe B s).1 ∧ CH N B (aSe N h).2 (oSe B s).2 ∧ ((aSe N h).1 = true → ∀ u, u < N → (aSe N h).2.2.1.1 u = none) := by
  obtain ⟨D, b0, le0, wr0, ss0⟩ := h
  obtain ⟨d, b, le, wr, ss⟩ := s
  obtain ⟨cd, cb, dk, bk, bs, rfl, rfl, rfl⟩ := id c
  have hnx : NxOk N b0.1 0 (bNext b.2.1 b.2.2.1 (-1) B) := by
    obtain ⟨so, bo, st, ro, sp, hd, pu⟩ := b
    refine CBf.nx hN bs bk cb (-1) 0 (fun u hu => ⟨fun _ => Nat.zero_le _, fun _ => ?_⟩)
    exact Int32.lt_of_lt_of_le (by decide) (nI_le (Nat.zero_le u) (by omega))
  obtain ⟨r1, r2, r3⟩ := CH.run (B := B) hN N 0 b.2.2.2.2.2.1 (bNext b.2.1 b.2.2.1 (-1) B) D b0 d b le0 wr0 ss0 (by omega) ⟨cd, cb, dk, bk, bs, rfl, rfl, rfl⟩ rfl hnx
  have es : seRun B b.2.2.2.2.2.1 (bNext b.2.1 b.2.2.1 (-1) B) d b le0 wr0 = seAll B d b le0 wr0 := rfl
  rw [es] at r1 r2
  unfold aSe
  by_cases c1 : (aRun N 0 (D, b0, le0, wr0, ss0)).1 = true
  · rw [if_pos c1]
    have c1' := r1.symm.trans c1
    generalize ha : aRun N 0 (D, b0, le0, wr0, ss0) = A at *
    obtain ⟨A1, A2, A3, A4, A5, A6⟩ := A
    obtain ⟨x1, x2, x3, x4, x5, rfl, rfl, rfl⟩ := r2
    have x1 : CDk N A2 (seAll B d b le0 wr0).2.1 := x1
    by_cases c2 : (seAll B d b le0 wr0).2.2.2.1 = 0
    · have ea : aSn (A2, A3, (seAll B d b le0 wr0).2.2.2.1, (seAll B d b le0 wr0).2.2.2.2, A6) = (false, A2, A3, (seAll B d b le0 wr0).2.2.2.1, (seAll B d b le0 wr0).2.2.2.2, A6) := if_pos c2
      have eo : oSe B (d, b, le0, wr0, A6) = (false, (seAll B d b le0 wr0).2.1, (seAll B d b le0 wr0).2.2.1, (seAll B d b le0 wr0).2.2.2.1, (seAll B d b le0 wr0).2.2.2.2, A6) := if_neg (fun z => z.2 c2)
      rw [ea, eo]
      exact ⟨rfl, ⟨x1, x2, x3, x4, x5, rfl, rfl, rfl⟩, fun z => absurd z (show ¬ false = true by decide)⟩
    · have ea : aSn (A2, A3, (seAll B d b le0 wr0).2.2.2.1, (seAll B d b le0 wr0).2.2.2.2, A6) = (true, aSy A2, A3, sLe (seAll B d b le0 wr0).2.2.2.1, (seAll B d b le0 wr0).2.2.2.2, A6 + 1) := if_neg c2
      have eo : oSe B (d, b, le0, wr0, A6) = (true, dSync (seAll B d b le0 wr0).2.1, (seAll B d b le0 wr0).2.2.1, sLe (seAll B d b le0 wr0).2.2.2.1, (seAll B d b le0 wr0).2.2.2.2, A6 + 1) := if_pos ⟨c1', c2⟩
      rw [ea, eo]
      exact ⟨rfl, ⟨x1.sync hN, x2, dIter_ok hN _ x3, x4, x5, rfl, rfl, rfl⟩, fun _ u hu => r3 c1 u (Nat.zero_le _) hu⟩
  · rw [if_neg c1]
    have c1' : ¬ (seAll B d b le0 wr0).1 = true := fun z => c1 (r1.trans z)
    have eo : oSe B (d, b, le0, wr0, ss0) = (false, (seAll B d b le0 wr0).2.1, (seAll B d b le0 wr0).2.2.1, (seAll B d b le0 wr0).2.2.2.1, (seAll B d b le0 wr0).2.2.2.2, ss0) := if_neg (fun z => c1' z.1)
    rw [eo]
    refine ⟨?_, r2, fun z => absurd z c1⟩
    cases h9 : (aRun N 0 (D, b0, le0, wr0, ss0)).1 with
    | true => exact absurd h9 c1
    | false => rfl
end MDD
