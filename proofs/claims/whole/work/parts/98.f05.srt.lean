/-! ===== lists that rise by block ===== -/
section MSA
/-- strictly rising -/
def Srt (L : List En) : Prop := ∀ i j, i < j → j < L.length → (lAt L i).1 < (lAt L j).1
theorem lAt_0 {p : En} {L : List En} : lAt (p :: L) 0 = p := rfl
theorem lAt_s {p : En} {L : List En} {k : Nat} : lAt (p :: L) (k + 1) = lAt L k := rfl
theorem Srt.tail {p : En} {L : List En} (h : Srt (p :: L)) : Srt L := fun i j hi hj => h (i + 1) (j + 1) (by omega) (by show j + 1 < L.length + 1; omega)
theorem Srt.head {p : En} {L : List En} (h : Srt (p :: L)) {q : En} (hq : q ∈ L) : p.1 < q.1 := by
  obtain ⟨k, hk, e⟩ := mem_lAt hq
  have := h 0 (k + 1) (by omega) (by show k + 1 < L.length + 1; omega)
  rw [lAt_0, lAt_s, e] at this
  exact this
theorem Srt.cons {p : En} {L : List En} (h : Srt L) (hp : ∀ q ∈ L, p.1 < q.1) : Srt (p :: L) := fun i j hi hj => by
  have hj : j < L.length + 1 := hj
  cases j with
  | zero => omega
  | succ j =>
    cases i with
    | zero => exact hp _ (lAt_mem (by omega))
    | succ i => exact h i j (by omega) (by omega)
theorem Srt.nil : Srt [] := fun _ _ _ hj => absurd hj (Nat.not_lt_zero _)
theorem lVal_cons {p : En} {L : List En} {b : Nat} (h : lVal L b = none) : lVal (p :: L) b = if p.1 = b then some p.2 else none := by
  show (match lVal L b with | some x => some x | none => if p.1 = b then some p.2 else none) = _
  rw [h]
theorem lVal_cons_n {p : En} {L : List En} {b : Nat} (h : p.1 ≠ b) : lVal (p :: L) b = lVal L b := by
  show (match lVal L b with | some x => some x | none => if p.1 = b then some p.2 else none) = _
  cases lVal L b with
  | none => exact if_neg h
  | some x => rfl
theorem Srt.val0 {p : En} {L : List En} (h : Srt (p :: L)) : lVal (p :: L) p.1 = some p.2 := by
  rw [lVal_cons (lVal_none.mpr (fun q hq => by have := h.head hq; omega)), if_pos rfl]
theorem Srt.low {L : List En} {p : En} (h : Srt (p :: L)) {b : Nat} (hb : b < p.1) : lVal (p :: L) b = none := lVal_none.mpr (fun q hq => by
  rcases List.mem_cons.mp hq with rfl | hq
  · omega
  · have := h.head hq
    omega)
/-- a rising list is known by its values -/
theorem Srt.ext : ∀ {L M : List En}, Srt L → Srt M → (∀ b, lVal L b = lVal M b) → L = M
  | [], [], _, _, _ => rfl
  | [], q :: M, _, hM, h => by
    have := h q.1
    rw [hM.val0] at this
    cases this
  | p :: L, [], hL, _, h => by
    have := h p.1
    rw [hL.val0] at this
    cases this
  | p :: L, q :: M, hL, hM, h => by
    have hpq : p.1 = q.1 := by
      rcases Nat.lt_trichotomy p.1 q.1 with c | c | c
      · have := h p.1
        rw [hL.val0, hM.low c] at this
        cases this
      · exact c
      · have := h q.1
        rw [hM.val0, hL.low c] at this
        cases this
    have hv : p.2 = q.2 := by
      have := h p.1
      rw [hL.val0, hpq, hM.val0] at this
      injection this
    have ht : L = M := Srt.ext hL.tail hM.tail (fun b => by
      by_cases c : p.1 = b
      · have e1 : lVal L b = none := lVal_none.mpr (fun r hr => by have := hL.head hr; omega)
        have e2 : lVal M b = none := lVal_none.mpr (fun r hr => by have := hM.head hr; omega)
        rw [e1, e2]
      · have := h b
        rw [lVal_cons_n c, lVal_cons_n (by omega)] at this
        exact this)
    rw [ht]
    congr 1
    obtain ⟨p1, p2⟩ := p
    obtain ⟨q1, q2⟩ := q
    have hpq : p1 = q1 := hpq
    have hv : p2 = q2 := hv
    rw [hpq, hv]
/-- one value is put into a rising list -/
def lIns (e : En) : List En → List En
  | [] => [e]
  | p :: L => if p.1 < e.1 then p :: lIns e L else if p.1 = e.1 then e :: L else e :: p :: L
theorem lIns_mem {e q : En} : ∀ {L : List En}, q ∈ lIns e L → q = e ∨ q ∈ L
  | [], h => Or.inl (List.mem_singleton.mp h)
  | p :: L, h => by
    have h : q ∈ (if p.1 < e.1 then p :: lIns e L else if p.1 = e.1 then e :: L else e :: p :: L) := h
    by_cases c : p.1 < e.1
    · rw [if_pos c] at h
      rcases List.mem_cons.mp h with h | h
      · exact Or.inr (by rw [h]; exact List.mem_cons_self)
      · rcases lIns_mem h with h | h
        · exact Or.inl h
        · exact Or.inr (List.mem_cons_of_mem _ h)
    · rw [if_neg c] at h
      by_cases c2 : p.1 = e.1
      · rw [if_pos c2] at h
        rcases List.mem_cons.mp h with h | h
        · exact Or.inl h
        · exact Or.inr (List.mem_cons_of_mem _ h)
      · rw [if_neg c2] at h
        rcases List.mem_cons.mp h with h | h
        · exact Or.inl h
        · exact Or.inr h
theorem lIns_srt {e : En} : ∀ {L : List En}, Srt L → Srt (lIns e L)
  | [], _ => Srt.nil.cons (fun q hq => absurd hq List.not_mem_nil)
  | p :: L, h => by
    show Srt (if p.1 < e.1 then p :: lIns e L else if p.1 = e.1 then e :: L else e :: p :: L)
    by_cases c : p.1 < e.1
    · rw [if_pos c]
      refine (lIns_srt h.tail).cons (fun q hq => ?_)
      rcases lIns_mem hq with rfl | hq
      · exact c
      · exact h.head hq
    · rw [if_neg c]
      by_cases c2 : p.1 = e.1
      · rw [if_pos c2]
        exact h.tail.cons (fun q hq => by have := h.head hq; omega)
      · rw [if_neg c2]
        refine h.cons (fun q hq => ?_)
        rcases List.mem_cons.mp hq with rfl | hq
        · omega
        · have := h.head hq
          omega
theorem lIns_val {e : En} {b : Nat} : ∀ {L : List En}, Srt L → lVal (lIns e L) b = if e.1 = b then some e.2 else lVal L b
  | [], _ => rfl
  | p :: L, h => by
    show lVal (if p.1 < e.1 then p :: lIns e L else if p.1 = e.1 then e :: L else e :: p :: L) b = _
    by_cases c : p.1 < e.1
    · rw [if_pos c]
      by_cases c3 : p.1 = b
      · have s2 : Srt (p :: lIns e L) := (lIns_srt h.tail).cons (fun q hq => by
          rcases lIns_mem hq with rfl | hq
          · exact c
          · exact h.head hq)
        have := s2.val0
        rw [c3] at this
        rw [this, if_neg (by omega), ← c3, h.val0]
      · rw [lVal_cons_n c3, lIns_val h.tail, lVal_cons_n c3]
    · rw [if_neg c]
      by_cases c2 : p.1 = e.1
      · rw [if_pos c2]
        by_cases c3 : e.1 = b
        · have s2 : Srt (e :: L) := h.tail.cons (fun q hq => by have := h.head hq; omega)
          have := s2.val0
          rw [c3] at this
          rw [this, if_pos c3]
        · rw [lVal_cons_n c3, if_neg c3, lVal_cons_n (by omega)]
      · rw [if_neg c2]
        by_cases c3 : e.1 = b
        · have s2 : Srt (e :: p :: L) := h.cons (fun q hq => by
            rcases List.mem_cons.mp hq with rfl | hq
            · omega
            · have := h.head hq
              omega)
          have := s2.val0
          rw [c3] at this
          rw [this, if_pos c3]
        · rw [lVal_cons_n c3, if_neg c3]
/-- where block b stands in a rising list, or would come -/
def lPos (b : Nat) : List En → Nat
  | [] => 0
  | p :: L => if p.1 < b then lPos b L + 1 else 0
theorem lPos_le {b : Nat} : ∀ {L : List En}, lPos b L ≤ L.length
  | [] => Nat.le_refl _
  | p :: L => by
    have := lPos_le (b := b) (L := L)
    show (if p.1 < b then lPos b L + 1 else 0) ≤ L.length + 1
    split <;> omega
theorem lPos_in {b : Nat} : ∀ {L : List En} {i : Nat}, i < lPos b L → (lAt L i).1 < b
  | [], i, h => absurd h (Nat.not_lt_zero i)
  | p :: L, i, h => by
    have h : i < (if p.1 < b then lPos b L + 1 else 0) := h
    by_cases c : p.1 < b
    · rw [if_pos c] at h
      cases i with
      | zero => exact c
      | succ i => exact lPos_in (L := L) (by omega)
    · rw [if_neg c] at h
      omega
theorem lPos_at {b : Nat} : ∀ {L : List En}, lPos b L < L.length → ¬ (lAt L (lPos b L)).1 < b
  | [], h => absurd h (Nat.not_lt_zero _)
  | p :: L, h => by
    have h : (if p.1 < b then lPos b L + 1 else 0) < L.length + 1 := h
    show ¬ (lAt (p :: L) (if p.1 < b then lPos b L + 1 else 0)).1 < b
    by_cases c : p.1 < b
    · rw [if_pos c] at h ⊢
      exact lPos_at (L := L) (by omega)
    · rw [if_neg c]
      exact c
theorem lPos_val {b : Nat} {L : List En} (h : Srt L) : (lVal L b ≠ none) ↔ (lPos b L < L.length ∧ (lAt L (lPos b L)).1 = b) := by
  constructor
  · intro z
    obtain ⟨k, hk, e⟩ := lVal_some z
    have h1 : ¬ k < lPos b L := fun q => by have := lPos_in q; omega
    have h2 : lPos b L < L.length := by omega
    have h3 := lPos_at h2
    by_cases c : k = lPos b L
    · exact ⟨h2, by rw [← c]; exact e⟩
    · have := h (lPos b L) k (by omega) hk
      omega
  · intro z
    have := lVal_is z.1
    rw [z.2] at this
    exact this
/-- .. as one list: what is ahead, the entry, what is behind -/
theorem lIns_eq {e : En} : ∀ {L : List En}, Srt L → lIns e L = L.take (lPos e.1 L) ++ e :: L.drop (lPos e.1 L + (if lVal L e.1 = none then 0 else 1))
  | [], _ => rfl
  | p :: L, h => by
    show (if p.1 < e.1 then p :: lIns e L else if p.1 = e.1 then e :: L else e :: p :: L) = (p :: L).take (if p.1 < e.1 then lPos e.1 L + 1 else 0) ++ e :: (p :: L).drop ((if p.1 < e.1 then lPos e.1 L + 1 else 0) + _)
    by_cases c : p.1 < e.1
    · rw [if_pos c, if_pos c, lIns_eq h.tail, lVal_cons_n (by omega)]
      rw [show lPos e.1 L + 1 + (if lVal L e.1 = none then 0 else 1) = (lPos e.1 L + (if lVal L e.1 = none then 0 else 1)) + 1 by omega]
      rfl
    · rw [if_neg c, if_neg c]
      by_cases c2 : p.1 = e.1
      · rw [if_pos c2, ← c2, h.val0]
        rfl
      · rw [if_neg c2, h.low (by omega)]
        rfl
end MSA
