/-! ===== format leaves a disk in order, whenever the power fails ===== -/
section PZS2
variable {N B : Nat} {h h0 : Hw} {r : Bool × Hw} {W : Nat → Rw}
theorem z_head : nr z0 ≠ mH00 N := by
  intro e
  have q := congrFun e 7
  unfold mH00 hRow at q
  rw [nr_at (by decide), nr_at (by decide), pk_us] at q
  exact absurd q (by decide)
def Zr (h : Hw) : Prop := ∀ y, hPs h 0 y → y = nr z0
theorem Zr.safe (hN : 61 ≤ N) (z : Zr h) : Safe N h := fun img hi => Or.inl (by
  rw [z _ (hi 0 (by omega))]
  exact z_head)
def FmS (N B : Nat) (r : Bool × Hw) (W : Nat → Rw) : Prop := HOk N B r.2 ∧ Safe N r.2 ∧ (r.1 = true → Zr r.2 ∧ ∀ u, hSee r.2 u = W u)
theorem FmS.pl (hN : 61 ≤ N) (s : FmS N B r W) {t : Nat} {x : Rw} (ht : t < N) (t0 : t ≠ 0) : FmS N B (hB r (aPl N B t x)) (fun u => if u = t then x else W u) := by
  obtain ⟨s1, s2, s3⟩ := s
  by_cases c : r.1 = true
  · obtain ⟨z, w⟩ := s3 c
    rw [hB_t c]
    have z2 : Zr (aPl N B t x r.2).2 := fun y hy => by
      rcases aPl_ps s1 hy with q | q
      · exact z y q
      · exact absurd q.1.symm t0
    exact ⟨aPl_ok s1 ht, z2.safe hN, fun c2 => ⟨z2, fun u => by rw [aPl_see s1 c2, w u]⟩⟩
  · have c : r.1 = false := by cases q : r.1 <;> simp_all
    rw [hB_f c]
    exact ⟨s1, s2, fun z => by rw [c] at z; cases z⟩
theorem FmS.se (s : FmS N B r W) : FmS N B (hB r (aSe N)) W ∧ ((hB r (aSe N)).1 = true → Quiet N (hB r (aSe N)).2) := by
  obtain ⟨s1, s2, s3⟩ := s
  by_cases c : r.1 = true
  · obtain ⟨z, w⟩ := s3 c
    obtain ⟨x1, x2, x3, x4, x5⟩ := aSe_all (N := N) (B := B) r.2
    rw [hB_t c]
    exact ⟨⟨x3 s1, s2.sub x2, fun c2 => ⟨fun y hy => z y (x2 0 y hy), fun u => by rw [x1, w u]⟩⟩, fun c2 => ⟨(x5 c2).1, (x5 c2).2⟩⟩
  · have c : r.1 = false := by cases q : r.1 <;> simp_all
    rw [hB_f c]
    exact ⟨⟨s1, s2, fun z => by rw [c] at z; cases z⟩, fun z => by rw [c] at z; cases z⟩
def fmW (N : Nat) (W : Nat → Rw) : Nat → Nat → Rw
  | 0 => fun u => if u = 1 then mHd [] 0 else W u
  | j + 1 => fun u => if u = 43 + j then nr (fRow N (43 + j) z0) else fmW N W j u
theorem fmW_1 : ∀ j, fmW N W j 1 = mHd [] 0
  | 0 => rfl
  | j + 1 => by
    show (if 1 = 43 + j then nr (fRow N (43 + j) z0) else fmW N W j 1) = _
    rw [if_neg (by omega)]
    exact fmW_1 j
theorem fmW_t : ∀ j i, i < j → fmW N W j (43 + i) = nr (fRow N (43 + i) z0)
  | 0, i, h => absurd h (Nat.not_lt_zero _)
  | j + 1, i, h => by
    show (if 43 + i = 43 + j then nr (fRow N (43 + j) z0) else fmW N W j (43 + i)) = _
    by_cases c : i = j
    · rw [if_pos (by omega), c]
    · rw [if_neg (by omega)]
      exact fmW_t j i (by omega)
theorem fm_first (hN : 61 ≤ N) (ho : HOk N B h0) (sf : Safe N h0) : ∃ W, FmS N B (hRn N B (true, h0) [some (0, nr z0), none]) W := by
  have e : hRn N B (true, h0) [some (0, nr z0), none] = hB (aPl N B 0 (nr z0) h0) (aSe N) := rfl
  rw [e]
  have s1 : Safe N (aPl N B 0 (nr z0) h0).2 := fun img hi => by
    by_cases c : img 0 = mH00 N
    · refine sf img (fun t ht => ?_)
      rcases aPl_ps ho (hi t ht) with q | ⟨q1, q2⟩
      · exact q
      · rw [q1, c] at q2
        exact absurd q2.symm z_head
    · exact Or.inl c
  have o1 : HOk N B (aPl N B 0 (nr z0) h0).2 := aPl_ok ho (by omega)
  by_cases c : (aPl N B 0 (nr z0) h0).1 = true
  · obtain ⟨x1, x2, x3, x4, x5⟩ := aSe_all (N := N) (B := B) (aPl N B 0 (nr z0) h0).2
    rw [hB_t c]
    refine ⟨hSee (aSe N (aPl N B 0 (nr z0) h0).2).2, x3 o1, s1.sub x2, fun c2 => ⟨fun y hy => ?_, fun _ => rfl⟩⟩
    have q : Quiet N (aSe N (aPl N B 0 (nr z0) h0).2).2 := ⟨(x5 c2).1, (x5 c2).2⟩
    rw [q.ps (by omega) hy, x1, aPl_see ho c, if_pos rfl]
  · have c : (aPl N B 0 (nr z0) h0).1 = false := by cases q : (aPl N B 0 (nr z0) h0).1 <;> simp_all
    rw [hB_f c]
    exact ⟨fun _ => zR, o1, s1, fun z => by rw [c] at z; cases z⟩
theorem fm_loop (hN : 61 ≤ N) (s : FmS N B (hRn N B (true, h0) [some (0, nr z0), none]) W) : ∀ j, j ≤ 18 → FmS N B (hRn N B (true, h0) (fmP N j)) (fmW N W j)
  | 0, _ => s.pl hN (t := 1) (x := mHd [] 0) (by omega) (by decide)
  | j + 1, hj => by
    show FmS N B (hRn N B (true, h0) (fmP N j ++ [some (43 + j, nr (fRow N (43 + j) z0))])) _
    rw [hRn_s]
    exact (fm_loop hN s j (by omega)).pl hN (by omega) (by omega)
theorem fm_all (hN : 61 ≤ N) (hN2 : N ≤ 1024) (ho : HOk N B h0) (sf : Safe N h0) : HOk N B (hRn N B (true, h0) (fmL N)).2 ∧ Safe N (hRn N B (true, h0) (fmL N)).2 ∧ ((hRn N B (true, h0) (fmL N)).1 = true → Quiet N (hRn N B (true, h0) (fmL N)).2) := by
  obtain ⟨W, s⟩ := fm_first hN ho sf
  have a1 := fm_loop hN s 18 (Nat.le_refl _)
  have w1 : fmW N W 18 1 = mHd [] 0 := fmW_1 18
  have w2 : Frs N (fmW N W 18) := fun t h1 h2 => by
    have q := fmW_t (N := N) (W := W) 18 (t - 43) (by omega)
    rw [show 43 + (t - 43) = t by omega] at q
    exact q
  generalize fmW N W 18 = W2 at a1 w1 w2
  obtain ⟨a2, q2⟩ := a1.se
  unfold fmL
  rw [hRn_s, hRn_s, hRn_s]
  show HOk N B (hB (hB (hB (hRn N B (true, h0) (fmP N 18)) (aSe N)) (aPl N B 0 (mH00 N))) (aSe N)).2 ∧ Safe N (hB (hB (hB (hRn N B (true, h0) (fmP N 18)) (aSe N)) (aPl N B 0 (mH00 N))) (aSe N)).2 ∧ ((hB (hB (hB (hRn N B (true, h0) (fmP N 18)) (aSe N)) (aPl N B 0 (mH00 N))) (aSe N)).1 = true → Quiet N (hB (hB (hB (hRn N B (true, h0) (fmP N 18)) (aSe N)) (aPl N B 0 (mH00 N))) (aSe N)).2)
  generalize hB (hRn N B (true, h0) (fmP N 18)) (aSe N) = r2 at a2 q2 ⊢
  obtain ⟨s1, s2, s3⟩ := a2
  by_cases c : r2.1 = true
  · obtain ⟨z, w⟩ := s3 c
    have qu := q2 c
    rw [hB_t c]
    have o3 : HOk N B (aPl N B 0 (mH00 N) r2.2).2 := aPl_ok s1 (by omega)
    have sf3 : Safe N (aPl N B 0 (mH00 N) r2.2).2 := fun img hi => by
      by_cases c0 : img 0 = mH00 N
      · have ei : ∀ t, 1 ≤ t → t < N → img t = W2 t := fun t t1 t2 => by
          rcases aPl_ps s1 (hi t t2) with q | ⟨q1, q2⟩
          · rw [qu.ps t2 q, w t]
          · omega
        refine Or.inr ⟨[], 0, ⟨Nat.zero_le _, fun p hp => absurd hp List.not_mem_nil, ?_, fun k hk => absurd hk (Nat.not_lt_zero _), fun k hk => absurd hk (Nat.not_lt_zero _)⟩, ?_⟩
        · rw [ei 1 (Nat.le_refl _) (by omega)]
          exact w1
        · refine Frs.wf hN hN2 (fun t h1 h2 => ?_)
          show img t = _
          rw [ei t (by omega) (by omega)]
          exact w2 t h1 h2
      · exact Or.inl c0
    by_cases c3 : (aPl N B 0 (mH00 N) r2.2).1 = true
    · rw [hB_t c3]
      obtain ⟨x1, x2, x3, x4, x5⟩ := aSe_all (N := N) (B := B) (aPl N B 0 (mH00 N) r2.2).2
      exact ⟨x3 o3, sf3.sub x2, fun c2 => ⟨(x5 c2).1, (x5 c2).2⟩⟩
    · have c3 : (aPl N B 0 (mH00 N) r2.2).1 = false := by cases q : (aPl N B 0 (mH00 N) r2.2).1 <;> simp_all
      rw [hB_f c3]
      exact ⟨o3, sf3, fun z => by rw [c3] at z; cases z⟩
  · have c : r2.1 = false := by cases q : r2.1 <;> simp_all
    rw [hB_f c, hB_f c]
    exact ⟨s1, s2, fun z => by rw [c] at z; cases z⟩
end PZS2
