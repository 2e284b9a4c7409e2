/-! ===== to settle, in the model ===== -/
section MHB
def hSp (h : Hw) : Nat := h.2.1.2.2.1
theorem aRun_1 {k t : Nat} {D : Dk0} {bf : Nat → Option (Nat × Rw)} {hd sp : Nat} {pu le wr ss : Int32} (e : bf t = none) : aRun (k + 1) t (D, (bf, hd, sp, pu), le, wr, ss) = aRun k (t + 1) (D, (bf, hd, sp, pu), le, wr, ss) := if_pos e
theorem aRun_2 {k t : Nat} {D : Dk0} {bf : Nat → Option (Nat × Rw)} {hd sp : Nat} {pu le wr ss : Int32} (e : ¬ bf t = none) (el : le = 0) : aRun (k + 1) t (D, (bf, hd, sp, pu), le, wr, ss) = (false, D, (bf, hd, sp, pu), le, wr, ss) := (if_neg e).trans (if_pos el)
theorem aRun_3 {k t : Nat} {D : Dk0} {bf : Nat → Option (Nat × Rw)} {hd sp : Nat} {pu le wr ss : Int32} (e : ¬ bf t = none) (el : ¬ le = 0) : aRun (k + 1) t (D, (bf, hd, sp, pu), le, wr, ss) = aRun k (t + 1) (aWr D t (bVal bf t), (bSet bf t none, hd - 1, sp, pu), sLe le, wr + 1, ss) := (if_neg e).trans (if_neg el)
/-- one block is written out of the buffer -/
theorem hOne {N B : Nat} {D : Dk0} {bf : Nat → Option (Nat × Rw)} {hd sp t : Nat} {pu le wr ss : Int32} (le' wr' ss' : Int32) (e : ¬ bf t = none) : (∀ u, hSee (aWr D t (bVal bf t), (bSet bf t none, hd - 1, sp, pu), le', wr', ss') u = hSee (D, (bf, hd, sp, pu), le, wr, ss) u) ∧ (∀ u y, hPs (aWr D t (bVal bf t), (bSet bf t none, hd - 1, sp, pu), le', wr', ss') u y → hPs (D, (bf, hd, sp, pu), le, wr, ss) u y) ∧ (t < N → HOk N B (D, (bf, hd, sp, pu), le, wr, ss) → HOk N B (aWr D t (bVal bf t), (bSet bf t none, hd - 1, sp, pu), le', wr', ss')) := by
  obtain ⟨q, hq⟩ : ∃ q, bf t = some (q, bVal bf t) := by
    unfold bVal
    cases z : bf t with
    | none => exact absurd z e
    | some p => exact ⟨p.1, rfl⟩
  refine ⟨fun u => ?_, fun u y hp => ?_, fun ht ho => ?_⟩
  · by_cases c : u = t
    · rw [hSee_n (by show bSet bf t none u = none; rw [c, bSet_e]), hSee_s (h := (D, (bf, hd, sp, pu), le, wr, ss)) (show bf u = some (q, bVal bf t) by rw [c]; exact hq)]
      show aRd (aWr D t _) u = _
      rw [aRd_wr, if_pos c.symm]
    · unfold hSee
      show (match bSet bf t none u with | some (_, x) => x | none => aRd (aWr D t (bVal bf t)) u) = (match bf u with | some (_, x) => x | none => aRd D u)
      rw [bSet_n c, aRd_wr, if_neg (fun z => c z.symm)]
  · rcases hp with z | ⟨r, z⟩
    · rcases dPs_wr z with z | ⟨z1, z2⟩
      · exact Or.inl z
      · exact Or.inr ⟨q, by show bf u = _; rw [z1, z2]; exact hq⟩
    · have z : bSet bf t none u = some (r, y) := z
      by_cases c : u = t
      · rw [c, bSet_e] at z
        cases z
      · rw [bSet_n c] at z
        exact Or.inr ⟨r, z⟩
  · obtain ⟨h1, h2, h3, h4⟩ := ho
    have h2 : hd = bNum bf N := h2
    have h3 : hd ≤ B := h3
    have e1 := bNum_set (b := bf) (v := none) N ht
    rw [hq] at e1
    have e1 : bNum (bSet bf t none) N + 1 = bNum bf N + 0 := e1
    exact ⟨BsOk.less h1, by show hd - 1 = bNum (bSet bf t none) N; omega, by show hd - 1 ≤ B; omega, h4⟩
theorem aRun_all {N B : Nat} : ∀ (k t : Nat) (h : Hw), t + k ≤ N → (∀ u, hSee (aRun k t h).2 u = hSee h u) ∧ (∀ u y, hPs (aRun k t h).2 u y → hPs h u y) ∧ (HOk N B h → HOk N B (aRun k t h).2) ∧ hSp (aRun k t h).2 = hSp h ∧ ((aRun k t h).1 = true → ∀ u, t ≤ u → u < t + k → (aRun k t h).2.2.1.1 u = none)
  | 0, t, h, _ => ⟨fun _ => rfl, fun _ _ z => z, fun z => z, rfl, fun _ u h1 h2 => absurd h2 (by omega)⟩
  | k + 1, t, (D, (bf, hd, sp, pu), le, wr, ss), hk => by
    by_cases e : bf t = none
    · rw [aRun_1 e]
      obtain ⟨a1, a2, a3, a4, a5⟩ := aRun_all (N := N) (B := B) k (t + 1) (D, (bf, hd, sp, pu), le, wr, ss) (by omega)
      refine ⟨a1, a2, a3, a4, fun z u h1 h2 => ?_⟩
      by_cases c : u = t
      · exact aRun_low k (t + 1) _ z (by omega) (by show bf u = none; rw [c]; exact e)
      · exact a5 z u (by omega) (by omega)
    · by_cases el : le = 0
      · rw [aRun_2 e el]
        exact ⟨fun _ => rfl, fun _ _ z => z, fun z => z, rfl, fun z => by cases z⟩
      · rw [aRun_3 e el]
        obtain ⟨a1, a2, a3, a4, a5⟩ := aRun_all (N := N) (B := B) k (t + 1) (aWr D t (bVal bf t), (bSet bf t none, hd - 1, sp, pu), sLe le, wr + 1, ss) (by omega)
        obtain ⟨b1, b2, b3⟩ := hOne (N := N) (B := B) (D := D) (bf := bf) (hd := hd) (sp := sp) (t := t) (pu := pu) (le := le) (wr := wr) (ss := ss) (sLe le) (wr + 1) ss e
        refine ⟨fun u => (a1 u).trans (b1 u), fun u y z => b2 u y (a2 u y z), fun z => a3 (b3 (by omega) z), a4, fun z u h1 h2 => ?_⟩
        by_cases c : u = t
        · exact aRun_low k (t + 1) _ z (by omega) (by show bSet bf t none u = none; rw [c, bSet_e])
        · exact a5 z u (by omega) (by omega)
theorem aSn_all {h : Hw} : (∀ u, hSee (aSn h).2 u = hSee h u) ∧ (∀ u y, hPs (aSn h).2 u y → hPs h u y) ∧ (aSn h).2.2.1 = h.2.1 ∧ ((aSn h).1 = true → (aSn h).2.1.2 = []) := by
  obtain ⟨D, b, le, wr, ss⟩ := h
  by_cases e : le = 0
  · have q : aSn (D, b, le, wr, ss) = (false, D, b, le, wr, ss) := if_pos e
    rw [q]
    exact ⟨fun _ => rfl, fun _ _ z => z, rfl, fun z => by cases z⟩
  · have q : aSn (D, b, le, wr, ss) = (true, aSy D, b, sLe le, wr, ss + 1) := if_neg e
    rw [q]
    refine ⟨fun u => ?_, fun u y z => ?_, rfl, fun _ => rfl⟩
    · unfold hSee
      show (match b.1 u with | some (_, x) => x | none => aRd (aSy D) u) = (match b.1 u with | some (_, x) => x | none => aRd D u)
      have : aRd (aSy D) u = aRd D u := wSy_at u D.2 D.1
      rw [this]
    · rcases z with z | z
      · rcases z with z | z
        · have z : y = wSy D.2 D.1 u := z
          rw [wSy_at] at z
          rw [z]
          exact Or.inl dPs_rd
        · exact absurd z List.not_mem_nil
      · exact Or.inr z
/-- all that is to be said of settling -/
theorem aSe_all {N B : Nat} (h : Hw) : (∀ u, hSee (aSe N h).2 u = hSee h u) ∧ (∀ u y, hPs (aSe N h).2 u y → hPs h u y) ∧ (HOk N B h → HOk N B (aSe N h).2) ∧ hSp (aSe N h).2 = hSp h ∧ ((aSe N h).1 = true → (aSe N h).2.1.2 = [] ∧ ∀ u, u < N → (aSe N h).2.2.1.1 u = none) := by
  obtain ⟨a1, a2, a3, a4, a5⟩ := aRun_all (N := N) (B := B) N 0 h (by omega)
  unfold aSe
  by_cases e : (aRun N 0 h).1 = true
  · rw [if_pos e]
    obtain ⟨b1, b2, b3, b4⟩ := aSn_all (h := (aRun N 0 h).2)
    refine ⟨fun u => (b1 u).trans (a1 u), fun u y z => a2 u y (b2 u y z), fun z => ?_, ?_, fun z => ⟨b4 z, fun u hu => ?_⟩⟩
    · have := a3 z
      unfold HOk at this ⊢
      rw [b3]
      exact this
    · unfold hSp at a4 ⊢
      rw [b3]
      exact a4
    · rw [b3]
      exact a5 e u (by omega) (by omega)
  · rw [if_neg e]
    exact ⟨a1, a2, a3, a4, fun z => absurd z e⟩
/-- nothing waits, nothing is held: what is seen is what is synced, and a crash leaves nothing else -/
def Quiet (N : Nat) (h : Hw) : Prop := h.1.2 = [] ∧ ∀ u, u < N → h.2.1.1 u = none
theorem Quiet.see {N : Nat} {h : Hw} (q : Quiet N h) {u : Nat} (hu : u < N) : h.1.1 u = hSee h u := by
  rw [hSee_n (q.2 u hu)]
  unfold aRd
  rw [q.1]
  rfl
theorem Quiet.ps {N : Nat} {h : Hw} (q : Quiet N h) {u : Nat} (hu : u < N) {y : Rw} (hp : hPs h u y) : y = hSee h u := by
  rw [← q.see hu]
  rcases hp with z | ⟨r, z⟩
  · rcases z with z | z
    · exact z
    · rw [q.1] at z
      exact absurd z List.not_mem_nil
  · rw [q.2 u hu] at z
    cases z
end MHB
