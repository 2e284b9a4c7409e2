/-! ===== the class's world: keys, rows, the disk's picture ===== -/
section GLI
/-- rows from key b on -/
def rwA (E : gE) (b n : Nat) : Nat → Option Nat := fun i => if i < n then some (gAd E (b + i)) else none
theorem rwA_at {E : gE} {b n t : Nat} (h : t < n) : rwA E b n t = some (gAd E (b + t)) := if_pos h
def Rws (E : gE) (f : Nat → va_E) (b n : Nat) (r : Nat → Nat → Int32) : Prop := ∀ j, j < n → f (b + j) = oB (gDA E) 128 (r j)
theorem Rws.keep {E : gE} {f : Nat → va_E} {b n k : Nat} {r : Nat → Nat → Int32} {e : va_E} (h : Rws E f b n r) (hk : k < b ∨ b + n ≤ k) : Rws E (va_up f k e) b n r := fun j hj => up_n (by omega) (h j hj)
theorem Rws.put {E : gE} {f : Nat → va_E} {b n t : Nat} {r : Nat → Nat → Int32} (x : Nat → Int32) (h : Rws E f b n r) : Rws E (va_up f (b + t) (oB (gDA E) 128 x)) b n (va_up r t x) := by
  intro j hj
  by_cases e : j = t
  · subst e
    show va_up f (b + j) _ (b + j) = oB (gDA E) 128 (if j = j then x else r j)
    rw [if_pos rfl]
    exact up_e
  · show va_up f (b + t) _ (b + j) = oB (gDA E) 128 (if j = t then x else r j)
    rw [if_neg e]
    exact up_n (by omega) (h j hj)
theorem Rws.of {E : gE} {f g : Nat → va_E} {b n : Nat} {r : Nat → Nat → Int32} (h : Rws E f b n r) (hg : ∀ k, b ≤ k → k < b + n → g k = f k) : Rws E g b n r := fun j hj => (hg (b + j) (by omega) (by omega)).trans (h j hj)
/-- all of these bytes -/
def Byt (x : Nat → Int32) : Prop := ∀ i, fits .byte (.int (x i)) = true
def Byts (r : Nat → Nat → Int32) : Prop := ∀ j, Byt (r j)
theorem Byts.put {r : Nat → Nat → Int32} {t : Nat} {x : Nat → Int32} (h : Byts r) (hx : Byt x) : Byts (va_up r t x) := by
  intro j
  show Byt (if j = t then x else r j)
  split
  · exact hx
  · exact h j
theorem Byt.cpy {x y : Nat → Int32} {a b n : Nat} (hx : Byt x) (hy : Byt y) : Byt (va_cpy x y a b n) := by
  intro i
  unfold va_cpy
  split
  · exact hx _
  · exact hy _
theorem Byt.row {x y : Nat → Int32} : va_cpy x y 0 0 128 = fun i => if i < 128 then x i else y i := by
  funext i
  unfold va_cpy
  by_cases h : i < 128
  · rw [if_pos ⟨Nat.zero_le _, by omega⟩, if_pos h]
    congr 1
    omega
  · rw [if_neg (by omega), if_neg h]
/-- keys: the values' rows from 94 on, the synced ones from 350 on -/
def DkK (N k : Nat) : Prop := (2 ≤ k ∧ k ≤ 7) ∨ (94 ≤ k ∧ k < 350 + N)
/-- nothing but such keys has changed -/
def Fr (P : Nat → Prop) (f g : Nat → va_E) : Prop := ∀ k, ¬ P k → g k = f k
theorem Fr.rf {P : Nat → Prop} {f : Nat → va_E} : Fr P f f := fun _ _ => rfl
theorem Fr.up {P : Nat → Prop} {f g : Nat → va_E} {k : Nat} {e : va_E} (h : Fr P f g) (hk : P k) : Fr P f (va_up g k e) := fun j hj => (if_neg (fun q => hj (by rw [q]; exact hk))).trans (h j hj)
theorem Fr.tr {P P' : Nat → Prop} {f g h : Nat → va_E} (h1 : Fr P f g) (h2 : Fr P' g h) (hp : ∀ k, P' k → P k) : Fr P f h := fun k hk => (h2 k (fun q => hk (hp k q))).trans (h1 k hk)
theorem Fr.wk {P P' : Nat → Prop} {f g : Nat → va_E} (h1 : Fr P f g) (hp : ∀ k, P k → P' k) : Fr P' f g := fun k hk => h1 k (fun q => hk (hp k q))
/-- the disk: its blocks; how many wait of each, what is synced, the values that wait (a ring of 256 from fi on, he of them), the latest of each block, whose value each is; power, steps left, writes, syncs -/
def Dk (E : gE) (f : Nat → va_E) (N : Nat) (w la bo : Nat → Int32) (sy va : Nat → Nat → Int32) (fi he on le wr ss : Int32) : Prop :=
  f 2 = .inr (2, [.int (nI N), .ref (gAd E 3), .ref (gAd E 4), .ref (gAd E 5), .ref (gAd E 6), .ref (gAd E 7), .int fi, .int he, .int on, .int le, .int wr, .int ss]) ∧ f 3 = oI (gDA E) N w ∧ f 4 = oR (gDA E) N (rwA E 350 N) ∧ f 5 = oR (gDA E) 256 (rwA E 94 256) ∧ f 6 = oI (gDA E) N la ∧ f 7 = oI (gDA E) 256 bo ∧ Rws E f 94 256 va ∧ Rws E f 350 N sy
theorem Dk.of {E : gE} {f g : Nat → va_E} {N : Nat} {w la bo : Nat → Int32} {sy va : Nat → Nat → Int32} {fi he on le wr ss : Int32} (h : Dk E f N w la bo sy va fi he on le wr ss) (hg : ∀ k, DkK N k → g k = f k) : Dk E g N w la bo sy va fi he on le wr ss :=
  ⟨(hg 2 (Or.inl ⟨by decide, by decide⟩)).trans h.1, (hg 3 (Or.inl ⟨by decide, by decide⟩)).trans h.2.1, (hg 4 (Or.inl ⟨by decide, by decide⟩)).trans h.2.2.1, (hg 5 (Or.inl ⟨by decide, by decide⟩)).trans h.2.2.2.1, (hg 6 (Or.inl ⟨by decide, by decide⟩)).trans h.2.2.2.2.1, (hg 7 (Or.inl ⟨by decide, by decide⟩)).trans h.2.2.2.2.2.1, h.2.2.2.2.2.2.1.of (fun k h1 h2 => hg k (Or.inr ⟨by omega, by omega⟩)), h.2.2.2.2.2.2.2.of (fun k h1 h2 => hg k (Or.inr ⟨by omega, by omega⟩))⟩
end GLI
