/-! ===== the buffer as a value: slot of a block, block of a slot, stamps, rows, stamp, held, pushed out ===== -/
section GLK
abbrev BfT : Type := (Nat → Int32) × (Nat → Int32) × (Nat → Int32) × (Nat → Nat → Int32) × Nat × Nat × Int32
def BfK (N B k : Nat) : Prop := (8 ≤ k ∧ k ≤ 12) ∨ (350 + 2 * N ≤ k ∧ k < 350 + 2 * N + B)
def BfV (E : gE) (f : Nat → va_E) (N B : Nat) : BfT → Prop := fun (so, bo, st, ro, sp, hd, pu) =>
  f 8 = .inr (0, [.ref (gAd E 2), .ref (gAd E 9), .ref (gAd E 10), .ref (gAd E 11), .ref (gAd E 12), .int (nI sp), .int (nI hd), .int pu]) ∧ f 9 = oR (gDA E) B (rwA E (350 + 2 * N) B) ∧ f 10 = oI (gDA E) N so ∧ f 11 = oI (gDA E) B bo ∧ f 12 = oI (gDA E) B st ∧ Rws E f (350 + 2 * N) B ro
theorem BfV.of {E : gE} {f g : Nat → va_E} {N B : Nat} {b : BfT} (h : BfV E f N B b) (hg : ∀ k, BfK N B k → g k = f k) : BfV E g N B b := by
  obtain ⟨so, bo, st, ro, sp, hd, pu⟩ := b
  obtain ⟨h1, h2, h3, h4, h5, h6⟩ := h
  exact ⟨(hg 8 (Or.inl ⟨by decide, by decide⟩)).trans h1, (hg 9 (Or.inl ⟨by decide, by decide⟩)).trans h2, (hg 10 (Or.inl ⟨by decide, by decide⟩)).trans h3, (hg 11 (Or.inl ⟨by decide, by decide⟩)).trans h4, (hg 12 (Or.inl ⟨by decide, by decide⟩)).trans h5, h6.of (fun k a b => hg k (Or.inr ⟨by omega, by omega⟩))⟩
theorem DkK_BfK {N B k : Nat} (h : DkK N k) : ¬ BfK N B k := by
  unfold DkK BfK at *
  omega
/-- the slot with the least stamp, of those up to j -/
def bLeast (st : Nat → Int32) : Nat → Nat
  | 0 => 0
  | j + 1 => if st (j + 1) < st (bLeast st j) then j + 1 else bLeast st j
theorem bLeast_le (st : Nat → Int32) : ∀ j, bLeast st j ≤ j
  | 0 => Nat.le_refl 0
  | j + 1 => by
    unfold bLeast
    split
    · exact Nat.le_refl _
    · exact Nat.le_succ_of_le (bLeast_le st j)
/-- the lowest block above b that is held, of the slots below j; -1 if there is none -/
def bNext (bo st : Nat → Int32) (b : Int32) : Nat → Int32
  | 0 => -1
  | j + 1 => if 0 < st j ∧ b < bo j ∧ (bNext bo st b j = -1 ∨ bo j < bNext bo st b j) then bo j else bNext bo st b j
/-- how many slots below j are held -/
def bCnt (st : Nat → Int32) : Nat → Nat
  | 0 => 0
  | j + 1 => bCnt st j + (if 0 < st j then 1 else 0)
theorem bCnt_le (st : Nat → Int32) : ∀ j, bCnt st j ≤ j
  | 0 => Nat.le_refl 0
  | j + 1 => by
    have := bCnt_le st j
    unfold bCnt
    split <;> omega
theorem bCnt_out (st : Nat → Int32) (s : Nat) (v : Int32) : ∀ j, j ≤ s → bCnt (upd st s v) j = bCnt st j
  | 0, _ => rfl
  | j + 1, h => by
    unfold bCnt
    rw [bCnt_out st s v j (by omega), pk_un (by omega)]
theorem bCnt_upd (st : Nat → Int32) (s : Nat) (v : Int32) : ∀ j, s < j → bCnt (upd st s v) j + (if 0 < st s then 1 else 0) = bCnt st j + (if 0 < v then 1 else 0)
  | 0, h => absurd h (Nat.not_lt_zero s)
  | j + 1, h => by
    unfold bCnt
    by_cases e : s = j
    · subst e
      rw [bCnt_out st s v s (Nat.le_refl s), pk_us]
      omega
    · have ih := bCnt_upd st s v j (by omega)
      rw [pk_un (fun q => e q.symm)]
      omega
theorem bCnt_pos (st : Nat → Int32) (s : Nat) (h : 0 < st s) : ∀ j, s < j → 1 ≤ bCnt st j
  | 0, q => absurd q (Nat.not_lt_zero s)
  | j + 1, q => by
    unfold bCnt
    by_cases e : s = j
    · subst e
      rw [if_pos h]
      omega
    · have := bCnt_pos st s h j (by omega)
      omega
/-- the value's order -/
def bOk (N B : Nat) : BfT → Prop := fun (so, bo, st, ro, sp, hd, _) => 1 ≤ B ∧ B ≤ 64 ∧ hd = bCnt st B ∧ sp < 2 ^ 31 ∧ (∀ s, s < B → ∃ t, t < N ∧ bo s = nI t ∧ (0 < st s → so t = nI s)) ∧ (∀ t, t < N → so t = -1 ∨ ∃ s, s < B ∧ so t = nI s ∧ 0 < st s ∧ bo s = nI t) ∧ Byts ro ∧ ∀ s, s < B → 0 ≤ st s
def bDrop : BfT → Nat → BfT := fun (so, bo, st, ro, sp, hd, pu) s => (upd so (bo s).toNatClampNeg (-1), bo, upd st s 0, ro, sp, hd - 1, pu)
/-- a slot that has its block: the value comes there, with the next stamp -/
def bTail : BfT → Nat → (Nat → Int32) → BfT := fun (so, bo, st, ro, sp, hd, pu) s x => (so, bo, upd st s (nI (sp + 1)), va_up ro s (va_cpy x (ro s) 0 0 128), sp + 1, hd, pu)
/-- a block has a slot -/
def bSeat : BfT → Nat → Nat → BfT := fun (so, bo, st, ro, sp, hd, pu) t s => (upd so t (nI s), upd bo s (nI t), st, ro, sp, hd + 1, pu)
def bPush : BfT → BfT := fun (so, bo, st, ro, sp, hd, pu) => (so, bo, st, ro, sp, hd, pu + 1)
/-- the slot for a block that has none -/
def bSlot (B : Nat) (b : BfT) : Nat := bLeast b.2.2.1 (B - 1)
/-- whether a value is pushed out for it -/
def bEv (B : Nat) (b : BfT) (t : Nat) : Prop := b.1 t = -1 ∧ 0 < b.2.2.1 (bSlot B b)
def bPlace (B : Nat) (b : BfT) (t : Nat) (x : Nat → Int32) : BfT :=
  if b.1 t = -1 then (if 0 < b.2.2.1 (bSlot B b) then bTail (bSeat (bPush (bDrop b (bSlot B b))) t (bSlot B b)) (bSlot B b) x else bTail (bSeat b t (bSlot B b)) (bSlot B b) x) else bTail b (b.1 t).toNatClampNeg x
theorem bSlot_lt {N B : Nat} {b : BfT} (h : bOk N B b) : bSlot B b < B := by
  obtain ⟨so, bo, st, ro, sp, hd, pu⟩ := b
  have h1 := bLeast_le st (B - 1)
  have h2 : 1 ≤ B := h.1
  show bLeast st (B - 1) < B
  omega
theorem nI_pos1 {n : Nat} (h : n + 1 < 2 ^ 31) : 0 < nI (n + 1) := nI_lt (a := 0) (by omega) h
theorem nI_m1 {n : Nat} (h : n < 2 ^ 31) : ¬ nI n = -1 := by
  intro q
  have h1 := nI_pos' h
  rw [q] at h1
  exact absurd h1 (by decide)
theorem bPlace_ok {N B : Nat} (hN : N ≤ 1024) {b : BfT} {t : Nat} {x : Nat → Int32} (h : bOk N B b) (ht : t < N) (hx : Byt x) (hsp : b.2.2.2.2.1 + 1 < 2 ^ 31) : bOk N B (bPlace B b t x) := by
  have hs := bSlot_lt h
  obtain ⟨so, bo, st, ro, sp, hd, pu⟩ := b
  generalize hse : bSlot B (so, bo, st, ro, sp, hd, pu) = s at hs
  obtain ⟨o1, o2, o3, o4, o5, o6, o7, o8⟩ := h
  have hsp : sp + 1 < 2 ^ 31 := hsp
  have p1 := nI_pos1 hsp
  unfold bPlace
  rw [hse]
  have seat : ∀ (so1 st1 : Nat → Int32) (hd1 : Nat) (pu1 : Int32), hd1 = bCnt st1 B → (∀ t', t' ≠ t → so1 t' = so t' ∨ (so1 t' = -1 ∧ so t' = nI s)) → (∀ s', s' ≠ s → st1 s' = st s') → ¬ 0 < st1 s → (0 < st s → ∀ t', t' < N → so t' = nI s → so1 t' = -1) → so t = -1 → 0 ≤ st1 s → bOk N B (bTail (bSeat (so1, bo, st1, ro, sp, hd1, pu1) t s) s x) := by
    intro so1 st1 hd1 pu1 hc hso hst hz hgone hm h0
    refine ⟨o1, o2, ?_, hsp, fun s' hs' => ?_, fun t' ht' => ?_, o7.put (hx.cpy (o7 s)), fun s' hs' => ?_⟩
    · show hd1 + 1 = bCnt (upd st1 s (nI (sp + 1))) B
      have q := bCnt_upd st1 s (nI (sp + 1)) B hs
      rw [if_neg hz, if_pos p1] at q
      omega
    · by_cases e : s' = s
      · subst e
        exact ⟨t, ht, pk_us, fun _ => pk_us⟩
      · obtain ⟨t', ht', hb', hq⟩ := o5 s' hs'
        refine ⟨t', ht', by show upd bo s (nI t) s' = _; rw [pk_un e]; exact hb', fun hpos => ?_⟩
        have hpos : 0 < upd st1 s (nI (sp + 1)) s' := hpos
        rw [pk_un e, hst s' e] at hpos
        have hq := hq hpos
        have hne : t' ≠ t := by
          intro q
          rw [q, hm] at hq
          exact nI_m1 (by omega) hq.symm
        show upd so1 t (nI s) t' = nI s'
        rw [pk_un hne]
        rcases hso t' hne with q | ⟨-, q⟩
        · rw [q]; exact hq
        · exact absurd ((nI_eq (by omega) (by omega)).mp (hq.symm.trans q)) e
    · by_cases e : t' = t
      · subst e
        exact Or.inr ⟨s, hs, pk_us, by show 0 < upd st1 s (nI (sp + 1)) s; rw [pk_us]; exact p1, pk_us⟩
      · show upd so1 t (nI s) t' = -1 ∨ _
        rw [pk_un e]
        rcases hso t' e with q | ⟨q, -⟩
        · rcases o6 t' ht' with z | ⟨s', hs', z1, z2, z3⟩
          · exact Or.inl (by rw [q]; exact z)
          · by_cases e2 : s' = s
            · subst e2
              exact Or.inl (hgone z2 t' ht' z1)
            · exact Or.inr ⟨s', hs', by rw [q]; exact z1, by show 0 < upd st1 s (nI (sp + 1)) s'; rw [pk_un e2, hst s' e2]; exact z2, by show upd bo s (nI t) s' = _; rw [pk_un e2]; exact z3⟩
        · exact Or.inl q
    · show 0 ≤ upd st1 s (nI (sp + 1)) s'
      by_cases e : s' = s
      · rw [e, pk_us]
        exact Int32.le_of_lt p1
      · rw [pk_un e, hst s' e]
        exact o8 s' hs'
  split
  · next hm =>
    have hm : so t = -1 := hm
    split
    · next hpos =>
      have hpos : 0 < st s := hpos
      obtain ⟨t0, ht0, hb0, hq0⟩ := o5 s hs
      have hq0 := hq0 hpos
      have hbc : (bo s).toNatClampNeg = t0 := by rw [hb0]; exact nI_clamp (by omega)
      show bOk N B (bTail (bSeat (upd so (bo s).toNatClampNeg (-1), bo, upd st s 0, ro, sp, hd - 1, pu + 1) t s) s x)
      rw [hbc]
      refine seat (upd so t0 (-1)) (upd st s 0) (hd - 1) (pu + 1) ?_ (fun t' hne => ?_) (fun s' hne => pk_un hne) (by rw [pk_us]; decide) (fun _ t' hlt ht' => ?_) hm (by rw [pk_us]; decide)
      · have q := bCnt_upd st s 0 B hs
        rw [if_pos hpos, if_neg (by decide)] at q
        have o3 : hd = bCnt st B := o3
        omega
      · by_cases e : t' = t0
        · subst e
          exact Or.inr ⟨pk_us, hq0⟩
        · exact Or.inl (pk_un e)
      · by_cases e : t' = t0
        · subst e
          exact pk_us
        · rw [pk_un e]
          exfalso
          rcases o6 t' hlt with z | ⟨s', hs', z1, z2, z3⟩
          · rw [z] at ht'
            exact nI_m1 (by omega) ht'.symm
          · have e2 : s' = s := (nI_eq (by omega) (by omega)).mp (z1.symm.trans ht')
            subst e2
            exact e ((nI_eq (by omega) (by omega)).mp (z3.symm.trans hb0))
    · next hpos =>
      have hpos : ¬ 0 < st s := hpos
      exact seat so st hd pu o3 (fun t' _ => Or.inl rfl) (fun s' _ => rfl) hpos (fun q => absurd q hpos) hm (o8 s hs)
  · next hm =>
    have hm : ¬ so t = -1 := hm
    obtain ⟨s', hs', z1, z2, z3⟩ := (o6 t ht).resolve_left hm
    have hbc : (so t).toNatClampNeg = s' := by rw [z1]; exact nI_clamp (by omega)
    show bOk N B (bTail (so, bo, st, ro, sp, hd, pu) (so t).toNatClampNeg x)
    rw [hbc]
    refine ⟨o1, o2, ?_, hsp, fun s2 hs2 => ?_, fun t2 ht2 => ?_, o7.put (hx.cpy (o7 s')), fun s2 hs2 => ?_⟩
    · show hd = bCnt (upd st s' (nI (sp + 1))) B
      have q := bCnt_upd st s' (nI (sp + 1)) B hs'
      rw [if_pos z2, if_pos p1] at q
      have o3 : hd = bCnt st B := o3
      omega
    · obtain ⟨t2, ht2, hb2, hq2⟩ := o5 s2 hs2
      refine ⟨t2, ht2, hb2, fun hpos => ?_⟩
      by_cases e : s2 = s'
      · subst e
        exact hq2 z2
      · have hpos : 0 < upd st s' (nI (sp + 1)) s2 := hpos
        rw [pk_un e] at hpos
        exact hq2 hpos
    · rcases o6 t2 ht2 with z | ⟨s2, hs2, y1, y2, y3⟩
      · exact Or.inl z
      · refine Or.inr ⟨s2, hs2, y1, ?_, y3⟩
        show 0 < upd st s' (nI (sp + 1)) s2
        by_cases e : s2 = s'
        · rw [e, pk_us]; exact p1
        · rw [pk_un e]; exact y2
    · show 0 ≤ upd st s' (nI (sp + 1)) s2
      by_cases e : s2 = s'
      · rw [e, pk_us]; exact Int32.le_of_lt p1
      · rw [pk_un e]; exact o8 s2 hs2
end GLK
