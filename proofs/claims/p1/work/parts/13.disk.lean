/-! ===== the disk as a value: waits, latest, whose, synced, values, first, held ===== -/
section GLJ
abbrev DkT : Type := (Nat → Int32) × (Nat → Int32) × (Nat → Int32) × (Nat → Nat → Int32) × (Nat → Nat → Int32) × Nat × Nat
/-- the first value that waits becomes what is synced of its block -/
def dKeep : DkT → DkT := fun (w, la, bo, sy, va, a, n) =>
  let t := (bo a).toNatClampNeg
  (upd w t (w t - 1), (if w t - 1 = 0 then upd la t (-1) else la), bo, va_up sy t (va_cpy (va a) (sy t) 0 0 128), va, (a + 1) % 256, n - 1)
/-- one value more waits -/
def dPut : DkT → Nat → (Nat → Int32) → DkT := fun (w, la, bo, sy, va, a, n) t x =>
  let k := (a + n) % 256
  (upd w t (w t + 1), upd la t (nI k), upd bo k (nI t), sy, va_up va k (va_cpy x (va k) 0 0 128), a, n + 1)
def dWrite (d : DkT) (t : Nat) (x : Nat → Int32) : DkT := dPut (if d.2.2.2.2.2.2 = 256 then dKeep d else d) t x
def dIter : Nat → DkT → DkT
  | 0, d => d
  | k + 1, d => dIter k (dKeep d)
def dSync (d : DkT) : DkT := dIter d.2.2.2.2.2.2 d
/-- the value's order -/
def dOk (N : Nat) : DkT → Prop := fun (_, la, bo, sy, va, a, n) => a < 256 ∧ n ≤ 256 ∧ (∀ j, j < 256 → ∃ t, t < N ∧ bo j = nI t) ∧ Byts sy ∧ Byts va ∧ ∀ j, j < N → la j = -1 ∨ ∃ t, t < 256 ∧ la j = nI t
def DkV (E : gE) (f : Nat → va_E) (N : Nat) : DkT → Int32 → Int32 → Int32 → Int32 → Prop := fun (w, la, bo, sy, va, a, n) on le wr ss => Dk E f N w la bo sy va (nI a) (nI n) on le wr ss
theorem DkV.of {E : gE} {f g : Nat → va_E} {N : Nat} {d : DkT} {on le wr ss : Int32} (h : DkV E f N d on le wr ss) (hg : ∀ k, DkK N k → g k = f k) : DkV E g N d on le wr ss := by
  obtain ⟨w, la, bo, sy, va, a, n⟩ := d
  exact Dk.of h hg
theorem dKeep_ok {N : Nat} (hN : N ≤ 1024) {d : DkT} (h : dOk N d) : dOk N (dKeep d) := by
  obtain ⟨w, la, bo, sy, va, a, n⟩ := d
  obtain ⟨h1, h2, h3, h4, h5, h6⟩ := h
  refine ⟨Nat.mod_lt _ (by decide), by omega, h3, h4.put ((h5 a).cpy (h4 _)), h5, fun j hj => ?_⟩
  show (if w _ - 1 = 0 then upd la _ (-1) else la) j = -1 ∨ _
  split
  · by_cases e : j = (bo a).toNatClampNeg
    · left
      rw [e]
      exact pk_us
    · rw [pk_un e]
      exact h6 j hj
  · exact h6 j hj
theorem dPut_ok {N : Nat} (hN : N ≤ 1024) {d : DkT} {t : Nat} {x : Nat → Int32} (h : dOk N d) (ht : t < N) (hx : Byt x) (hn : d.2.2.2.2.2.2 < 256) : dOk N (dPut d t x) := by
  obtain ⟨w, la, bo, sy, va, a, n⟩ := d
  obtain ⟨h1, h2, h3, h4, h5, h6⟩ := h
  have hn : n < 256 := hn
  refine ⟨h1, by omega, fun j hj => ?_, h4, h5.put (hx.cpy (h5 _)), fun j hj => ?_⟩
  · by_cases e : j = (a + n) % 256
    · exact ⟨t, ht, by rw [e]; exact pk_us⟩
    · obtain ⟨u, hu, hb⟩ := h3 j hj
      exact ⟨u, hu, by rw [pk_un e]; exact hb⟩
  · by_cases e : j = t
    · right
      exact ⟨(a + n) % 256, Nat.mod_lt _ (by decide), by rw [e]; exact pk_us⟩
    · show upd la t _ j = -1 ∨ _
      rw [pk_un e]
      exact h6 j hj
theorem dWrite_ok {N : Nat} (hN : N ≤ 1024) {d : DkT} {t : Nat} {x : Nat → Int32} (h : dOk N d) (ht : t < N) (hx : Byt x) : dOk N (dWrite d t x) := by
  unfold dWrite
  split
  · next e =>
    refine dPut_ok hN (dKeep_ok hN h) ht hx ?_
    obtain ⟨w, la, bo, sy, va, a, n⟩ := d
    have e : n = 256 := e
    show n - 1 < 256
    omega
  · next e =>
    refine dPut_ok hN h ht hx ?_
    obtain ⟨w, la, bo, sy, va, a, n⟩ := d
    have e : ¬ n = 256 := e
    have := h.2.1
    show n < 256
    omega
theorem dIter_ok {N : Nat} (hN : N ≤ 1024) : ∀ (k : Nat) {d : DkT}, dOk N d → dOk N (dIter k d)
  | 0, _, h => h
  | k + 1, _, h => dIter_ok hN k (dKeep_ok hN h)
end GLJ
