/-! ===== the reference's disk; the buffer of the model ===== -/
section MDB
/-- the reference's disk and what it stands for -/
def RDk (N : Nat) (D : Dk0) (R : RfT) (wf w : Nat) : Prop := RG N D (rA R 40) (rA R 7) (fl (rA R 6)) (fl (rA R 8)) wf w
theorem RDk.push {N : Nat} {D : Dk0} {R : RfT} {wf w t q : Nat} (h : RDk N D R wf w) (hN : N ≤ 1024) (hw : w < 256) (ht : t < N) : RDk N (D.1, D.2 ++ [(t, nr (fl (rA R 17) q))]) (rPush R wf w t q) wf (w + 1) :=
  RG.put h hN hw ht (va' := fl (va_cpy (rA R 17) (rA R 8) (128 * q) (128 * ((wf + w) % 256)) 128)) fl_in (fun k hk => fl_out hk)
theorem RDk.pop {N : Nat} {D : Dk0} {R : RfT} {wf w b : Nat} (h : RDk N D R wf w) (hN : N ≤ 1024) (hw : 1 ≤ w) (hb : b < N) (hbo : rA R 7 wf = nI b) : RDk N (aKp D) (rPop R wf b (decide (rA R 40 b = nI wf))) ((wf + 1) % 256) (w - 1) := by
  by_cases e : rA R 40 b = nI wf
  · rw [decide_eq_true e]
    exact RG.keep h hN hw hb hbo (la' := upd (rA R 40) b (-1)) (sy' := fl (va_cpy (rA R 8) (rA R 6) (128 * wf) (128 * b) 128)) fl_in (fun k _ hk => fl_out hk) (by rw [if_pos e]; exact pk_us) (fun k _ hk => pk_un hk)
  · rw [decide_eq_false e]
    exact RG.keep h hN hw hb hbo (la' := rA R 40) (sy' := fl (va_cpy (rA R 8) (rA R 6) (128 * wf) (128 * b) 128)) fl_in (fun k _ hk => fl_out hk) (by rw [if_neg e]) (fun k _ hk => rfl)
theorem RDk.len {N : Nat} {D : Dk0} {R : RfT} {wf w : Nat} (h : RDk N D R wf w) : D.2.length = w := by
  rw [h.2.2.2.1, rgL_len]
theorem RDk.write {N : Nat} {D : Dk0} {R : RfT} {wf w b t q : Nat} (h : RDk N D R wf w) (hN : N ≤ 1024) (hb : w = 256 → b < N ∧ rA R 7 wf = nI b) (ht : t < N) : RDk N (aWr D t (nr (fl (rA R 17) q))) (rWrt R wf w b t q) (if w = 256 then (wf + 1) % 256 else wf) (if w = 256 then 256 else w + 1) := by
  unfold aWr rWrt
  rw [h.len]
  have hle : w ≤ 256 := h.2.1
  by_cases e : w = 256
  · obtain ⟨hb1, hb2⟩ := hb e
    rw [if_pos e, if_pos e, if_pos e, if_pos e]
    have h1 : RDk N (aKp D) (rPop (setS (rSt R) 13 (rS R 13 + 1)) wf b (decide (rA R 40 b = nI wf))) ((wf + 1) % 256) (w - 1) := RDk.pop (R := setS (rSt R) 13 (rS R 13 + 1)) h hN (by omega) hb1 hb2
    rw [show w - 1 = 255 by omega] at h1
    have h2 := RDk.push (q := q) h1 hN (by decide) ht
    have e17 : rA (rPop (setS (rSt R) 13 (rS R 13 + 1)) wf b (decide (rA R 40 b = nI wf))) 17 = rA R 17 := by
      generalize decide (rA R 40 b = nI wf) = z
      cases z <;> rfl
    rw [e17] at h2
    exact h2
  · rw [if_neg e, if_neg e, if_neg e, if_neg e]
    exact RDk.push (R := setS (rSt R) 13 (rS R 13 + 1)) h hN (by omega) ht
theorem sy6_at {A8 A7 A6 : Nat → Int32} {wf t : Nat} (hb : ∀ i, i < 256 → ∃ u, u < 2 ^ 31 ∧ A7 i = nI u) : ∀ i, nr (fl (sy6 A8 A7 A6 wf i) t) = wRd (rgL A7 (fl A8) wf i) t (nr (fl A6 t))
  | 0 => rfl
  | i + 1 => by
    obtain ⟨u, hu, e⟩ := hb ((wf + i) % 256) (Nat.mod_lt _ (by decide))
    rw [rgL_succ, wRd_app]
    show nr (fl (va_cpy A8 (sy6 A8 A7 A6 wf i) (128 * ((wf + i) % 256)) (128 * (A7 ((wf + i) % 256)).toNatClampNeg) 128) t) = _
    by_cases q : (A7 ((wf + i) % 256)).toNatClampNeg = t
    · rw [if_pos q, q]
      exact fl_in
    · rw [if_neg q, fl_out (fun z => q z.symm)]
      exact sy6_at hb i
theorem sy40_at {A7 A40 : Nat → Int32} {wf t : Nat} : ∀ i, (∃ j, j < i ∧ (A7 ((wf + j) % 256)).toNatClampNeg = t) → sy40 A7 A40 wf i t = -1
  | 0, h => by
    obtain ⟨j, hj, -⟩ := h
    exact absurd hj (by omega)
  | i + 1, h => by
    show upd (sy40 A7 A40 wf i) (A7 ((wf + i) % 256)).toNatClampNeg (-1) t = -1
    by_cases q : t = (A7 ((wf + i) % 256)).toNatClampNeg
    · rw [q]
      exact pk_us
    · rw [pk_un q]
      obtain ⟨j, hj, e⟩ := h
      exact sy40_at i ⟨j, by
        by_cases z : j = i
        · subst z
          exact absurd e.symm q
        · omega, e⟩
theorem sy40_no {A7 A40 : Nat → Int32} {wf t : Nat} : ∀ i, A40 t = -1 → sy40 A7 A40 wf i t = -1
  | 0, h => h
  | i + 1, h => by
    show upd (sy40 A7 A40 wf i) (A7 ((wf + i) % 256)).toNatClampNeg (-1) t = -1
    by_cases q : t = (A7 ((wf + i) % 256)).toNatClampNeg
    · rw [q]
      exact pk_us
    · rw [pk_un q]
      exact sy40_no i h
theorem RDk.sync {N : Nat} {D : Dk0} {R : RfT} {wf w : Nat} (h : RDk N D R wf w) (hN : N ≤ 1024) (hb : ∀ i, i < 256 → ∃ u, u < 2 ^ 31 ∧ rA R 7 i = nI u) : RDk N (aSy D) (rSyn R wf w) wf 0 := by
  obtain ⟨h1, h2, h3, h4, h5, h6⟩ := h
  refine ⟨h1, by omega, ?_, rfl, fun i hi => absurd hi (by omega), ?_⟩
  · intro t ht
    show wSy D.2 D.1 t = nr (fl (sy6 (rA R 8) (rA R 7) (rA R 6) wf w) t)
    rw [wSy_at, sy6_at hb, h3 t ht, h4]
  · intro t ht
    refine Or.inl ⟨?_, fun i hi => absurd hi (by omega)⟩
    show sy40 (rA R 7) (rA R 40) wf w t = -1
    rcases h6 t ht with ⟨e, -⟩ | ⟨i, hi, -, e, -⟩
    · exact sy40_no w e
    · exact sy40_at w ⟨i, hi, by rw [e]; exact nI_clamp (by omega)⟩
theorem RDk.read {N : Nat} {D : Dk0} {R : RfT} {wf w : Nat} (h : RDk N D R wf w) (hN : N ≤ 1024) {t : Nat} (ht : t < N) : nr (rRd R t) = aRd D t := by
  rw [RG.read h hN ht]
  unfold rRd
  split
  · exact nr_eq (fun i hi => by
      rw [pk_cpy_in (Nat.zero_le _) (by omega)]
      unfold fl
      congr 1)
  · exact nr_eq (fun i hi => by
      rw [pk_cpy_in (Nat.zero_le _) (by omega)]
      unfold fl
      congr 1)
/-- the buffer: of each block the stamp and the value that it has there; how many there are; the next stamp; how many were pushed out -/
abbrev Bf0 : Type := (Nat → Option (Nat × Rw)) × Nat × Nat × Int32
/-- the hardware: disk, buffer, steps left, writes, syncs -/
abbrev Hw : Type := Dk0 × Bf0 × Int32 × Int32 × Int32
def bSet (b : Nat → Option (Nat × Rw)) (t : Nat) (v : Option (Nat × Rw)) : Nat → Option (Nat × Rw) := fun u => if u = t then v else b u
theorem bSet_e {b : Nat → Option (Nat × Rw)} {t : Nat} {v : Option (Nat × Rw)} : bSet b t v t = v := if_pos rfl
theorem bSet_n {b : Nat → Option (Nat × Rw)} {t u : Nat} {v : Option (Nat × Rw)} (h : u ≠ t) : bSet b t v u = b u := if_neg h
/-- stamps are apart, and below the next one -/
def BsOk (N : Nat) (b : Bf0) : Prop := (∀ t q x, t < N → b.1 t = some (q, x) → q < b.2.2.1) ∧ ∀ t u q x y, t < N → u < N → b.1 t = some (q, x) → b.1 u = some (q, y) → t = u
/-- t has the least stamp -/
def BMin (N : Nat) (b : Nat → Option (Nat × Rw)) (t : Nat) : Prop := t < N ∧ ∃ q x, b t = some (q, x) ∧ ∀ u r y, u < N → b u = some (r, y) → q ≤ r
/-- the block that was put longest ago -/
def bMn (b : Nat → Option (Nat × Rw)) : Nat → Option (Nat × Nat)
  | 0 => none
  | n + 1 => match b n, bMn b n with
    | none, m => m
    | some (q, _), none => some (q, n)
    | some (q, _), some (r, m) => if q < r then some (q, n) else some (r, m)
theorem bMn_spec (b : Nat → Option (Nat × Rw)) : ∀ n, match bMn b n with
    | none => ∀ u, u < n → b u = none
    | some (q, t) => t < n ∧ (∃ x, b t = some (q, x)) ∧ ∀ u r y, u < n → b u = some (r, y) → q ≤ r
  | 0 => fun u hu => absurd hu (by omega)
  | n + 1 => by
    have ih := bMn_spec b n
    unfold bMn
    cases hb : b n with
    | none =>
      cases hm : bMn b n with
      | none =>
        rw [hm] at ih
        intro u hu
        by_cases e : u = n
        · rw [e]; exact hb
        · exact ih u (by omega)
      | some m =>
        obtain ⟨q, t⟩ := m
        rw [hm] at ih
        obtain ⟨h1, h2, h3⟩ := ih
        refine ⟨by omega, h2, fun u r y hu hy => ?_⟩
        by_cases e : u = n
        · rw [e, hb] at hy; cases hy
        · exact h3 u r y (by omega) hy
    | some p =>
      obtain ⟨q, x⟩ := p
      cases hm : bMn b n with
      | none =>
        rw [hm] at ih
        refine ⟨by omega, ⟨x, hb⟩, fun u r y hu hy => ?_⟩
        by_cases e : u = n
        · rw [e, hb] at hy; cases hy; exact Nat.le_refl _
        · rw [ih u (by omega)] at hy; cases hy
      | some m =>
        obtain ⟨r, t⟩ := m
        rw [hm] at ih
        obtain ⟨h1, ⟨z, h2⟩, h3⟩ := ih
        by_cases c : q < r
        · simp only [if_pos c]
          refine ⟨by omega, ⟨x, hb⟩, fun u s y hu hy => ?_⟩
          by_cases e : u = n
          · rw [e, hb] at hy; cases hy; exact Nat.le_refl _
          · have := h3 u s y (by omega) hy
            omega
        · simp only [if_neg c]
          refine ⟨by omega, ⟨z, h2⟩, fun u s y hu hy => ?_⟩
          by_cases e : u = n
          · rw [e, hb] at hy; cases hy; omega
          · exact h3 u s y (by omega) hy
/-- the block that goes, 0 if there is none -/
def bOut (N : Nat) (b : Nat → Option (Nat × Rw)) : Nat := match bMn b N with
  | none => 0
  | some (_, t) => t
theorem bOut_eq {N : Nat} {b : Bf0} (h : BsOk N b) {t : Nat} (m : BMin N b.1 t) : bOut N b.1 = t := by
  have s := bMn_spec b.1 N
  obtain ⟨ht, q, x, hx, hm⟩ := m
  unfold bOut
  cases e : bMn b.1 N with
  | none =>
    rw [e] at s
    rw [s t ht] at hx
    cases hx
  | some p =>
    obtain ⟨r, u⟩ := p
    rw [e] at s
    obtain ⟨h1, ⟨z, h2⟩, h3⟩ := s
    have a1 := h3 t q x ht hx
    have a2 := hm u r z h1 h2
    have e2 : q = r := by omega
    subst e2
    exact h.2 u t q z x h1 ht h2 hx
/-- the value of a block there -/
def bVal (b : Nat → Option (Nat × Rw)) (t : Nat) : Rw := match b t with
  | none => fun _ => 0
  | some (_, x) => x
/-- a step less -/
def sLe (le : Int32) : Int32 := if 0 < le then le - 1 else le
/-- a value is put for a block; false: the power failed -/
def aPl (N M t : Nat) (x : Rw) : Hw → Bool × Hw := fun (D, (bf, hd, sp, pu), le, wr, ss) =>
  if bf t = none then
    if hd = M then
      if le = 0 then (false, D, (bf, hd, sp, pu), le, wr, ss)
      else (true, aWr D (bOut N bf) (bVal bf (bOut N bf)), (bSet (bSet bf (bOut N bf) none) t (some (sp, x)), hd, sp + 1, pu + 1), sLe le, wr + 1, ss)
    else (true, D, (bSet bf t (some (sp, x)), hd + 1, sp + 1, pu), le, wr, ss)
  else (true, D, (bSet bf t (some (sp, x)), hd, sp + 1, pu), le, wr, ss)
/-- what is in the buffer from block t on is written, k blocks far -/
def aRun : Nat → Nat → Hw → Bool × Hw
  | 0, _, h => (true, h)
  | k + 1, t, (D, (bf, hd, sp, pu), le, wr, ss) =>
    if bf t = none then aRun k (t + 1) (D, (bf, hd, sp, pu), le, wr, ss)
    else if le = 0 then (false, D, (bf, hd, sp, pu), le, wr, ss)
    else aRun k (t + 1) (aWr D t (bVal bf t), (bSet bf t none, hd - 1, sp, pu), sLe le, wr + 1, ss)
/-- to sync -/
def aSn : Hw → Bool × Hw := fun (D, b, le, wr, ss) => if le = 0 then (false, D, b, le, wr, ss) else (true, aSy D, b, sLe le, wr, ss + 1)
/-- to settle -/
def aSe (N : Nat) (h : Hw) : Bool × Hw := if (aRun N 0 h).1 = true then aSn (aRun N 0 h).2 else aRun N 0 h
end MDB
