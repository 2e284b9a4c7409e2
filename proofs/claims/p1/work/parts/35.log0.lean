/-! ===== the log as a value: block of an entry, scratch, entry of a block, entries, turn ===== -/
section GLN
/-- a contract that says less -/
theorem Ct.mono {E : gE} {h : Nat} {y : MethodName} {cc : ByteArray} {nL : Nat} {ret : Option FieldType} {as : List Value} {f : Nat → va_E} {Q Q' : gQ} (hc : Ct E h y cc nL ret as f Q) (h1 : ∀ v g, Q.1 v g → Q'.1 v g) (h2 : ∀ X g, Q.2 X g → Q'.2 X g) : Ct E h y cc nL ret as f Q' := by
  intro sz p e ha hcas hk s m args below hf happ hP hK
  obtain ⟨t, o, a1, a2, a3, a4⟩ := hc sz p e ha hcas hk s m args below hf happ hP hK
  refine ⟨t, o, a1, a2, a3, ?_⟩
  rcases a4 with ⟨⟨v, g, b1, b2, b3, b4⟩, b5⟩ | ⟨q, b1, X, ce, L, ⟨g, c1, c2, c3⟩, c4⟩
  · exact Or.inl ⟨⟨v, g, b1, h1 v g b2, b3, b4⟩, b5⟩
  · exact Or.inr ⟨q, b1, X, ce, L, ⟨g, h2 X g c1, c2, c3⟩, c4⟩
/-- what the disk reads of a block -/
def dRead (d : DkT) (t : Nat) : Nat → Int32 := if d.2.1 t = -1 then d.2.2.2.1 t else d.2.2.2.2.1 (d.2.1 t).toNatClampNeg
theorem dRead_byt {N : Nat} {d : DkT} (h : dOk N d) (t : Nat) : Byt (dRead d t) := by
  obtain ⟨w, la, bo, sy, va, a, n⟩ := d
  obtain ⟨h1, h2, h3, h4, h5, h6⟩ := h
  unfold dRead
  split
  · exact h4 t
  · exact h5 _
theorem c_row (E : gE) (f : Nat → va_E) (N : Nat) (d : DkT) (on le wr ss : Int32) (hE : 350 + N ≤ gN E) (hN : N ≤ 1024) (hd : DkV E f N d on le wr ss) (ho : dOk N d) (t : Nat) (ht : t < N) : Ct E 1 yX2_row cX2_row 2 (some (.array .byte)) [.ref (gAd E 2), .int (nI t)] f (fun v g => ∃ k, f = g ∧ v = some (.ref (gAd E k)) ∧ k < gN E ∧ DkK N k ∧ f k = oB (gDA E) 128 (dRead d t), fun _ _ => False) := by
  refine (c_X2_row E f N d on le wr ss hE hN hd ho t ht).mono (fun v g h => ?_) (fun _ _ h => h)
  obtain ⟨w, la, bo, sy, va, a, n⟩ := d
  obtain ⟨h2, h3, h4, h5, h6, h7, hv, hs⟩ := id hd
  obtain ⟨e, h⟩ := h
  rcases h with ⟨h8, h9⟩ | ⟨u, hu, h8, h9⟩
  · refine ⟨350 + t, e, h9, by omega, Or.inr ⟨by omega, by omega⟩, ?_⟩
    unfold dRead
    rw [if_pos h8]
    exact hs t ht
  · refine ⟨94 + u, e, h9, by omega, Or.inr ⟨by omega, by omega⟩, ?_⟩
    unfold dRead
    have h8 : la t = nI u := h8
    rw [if_neg (by show ¬ la t = -1; rw [h8]; exact nI_m1 (by omega))]
    show _ = oB (gDA E) 128 (va (la t).toNatClampNeg)
    rw [h8, nI_clamp (by omega)]
    exact hv u hu
theorem Byt.s_two {g : Nat → Int32} {t : Nat} {v : Int32} (h : Byt g) : Byt (s_two g t v) := by
  intro i
  show fits .byte (.int (upd (upd g t _) (t + 1) _ i)) = true
  by_cases e : i = t + 1
  · rw [e, pk_us, pk_vb]
    exact pk_fb _
  · rw [pk_un e]
    by_cases e2 : i = t
    · rw [e2, pk_us, pk_vb]
      exact pk_fb _
    · rw [pk_un e2]
      exact h i
theorem Byt.s_four {g : Nat → Int32} {t : Nat} {v : Int32} (h : Byt g) : Byt (s_four g t v) := (h.s_two).s_two
/-- the sum goes on over m bytes -/
def mixV (h : Int32) (g : Nat → Int32) : Nat → Int32
  | 0 => h
  | j + 1 => mixV h g j * 31 + (g j &&& 255)
/-- .. over the values of k entries -/
def sumV (d : DkT) (h : Int32) : Nat → Int32
  | 0 => h
  | k + 1 => mixV (sumV d h k) (dRead d (3 + k)) 128
/-- the log's SUM: head, numbers, values -/
def lgSum (d : DkT) (hd : Nat → Int32) (m : Nat) : Int32 := sumV d (mixV (mixV 7 hd 6) (dRead d 2) (2 * m)) m
abbrev LgT : Type := (Nat → Int32) × (Nat → Int32) × (Nat → Int32) × Nat × Int32
def LgK (k : Nat) : Prop := 13 ≤ k ∧ k ≤ 16
def LgV (E : gE) (f : Nat → va_E) (N : Nat) : LgT → Prop := fun (bl, sc, en, nt, tu) =>
  f 13 = .inr (6, [.ref (gAd E 2), .ref (gAd E 8), .ref (gAd E 14), .ref (gAd E 15), .ref (gAd E 16), .int (nI nt), .int tu]) ∧ f 14 = oI (gDA E) 40 bl ∧ f 15 = oB (gDA E) 128 sc ∧ f 16 = oI (gDA E) N en
theorem LgV.of {E : gE} {f g : Nat → va_E} {N : Nat} {l : LgT} (h : LgV E f N l) (hg : ∀ k, LgK k → g k = f k) : LgV E g N l := by
  obtain ⟨bl, sc, en, nt, tu⟩ := l
  obtain ⟨h1, h2, h3, h4⟩ := h
  exact ⟨(hg 13 ⟨by decide, by decide⟩).trans h1, (hg 14 ⟨by decide, by decide⟩).trans h2, (hg 15 ⟨by decide, by decide⟩).trans h3, (hg 16 ⟨by decide, by decide⟩).trans h4⟩
theorem LgK_DBK {N B k : Nat} (h : LgK k) : ¬ DBK N B k := by
  unfold LgK DBK DkK BfK at *
  omega
/-- the value's order -/
def lOk (N : Nat) : LgT → Prop := fun (bl, sc, en, nt, _) => nt ≤ 40 ∧ (∀ j, j < nt → ∃ t, t < N ∧ bl j = nI t ∧ ∃ j', j' < nt ∧ en t = nI j') ∧ Byt sc ∧ ∀ t, t < N → en t = -1 ∨ ∃ j, j < nt ∧ en t = nI j ∧ bl j = nI t
/-- no entries any more -/
def lClr (N : Nat) : LgT → LgT := fun (bl, sc, en, _, tu) => (bl, sc, flt en 0 N (-1), 0, tu)
/-- one entry more -/
def lNote : LgT → Nat → LgT := fun (bl, sc, en, nt, tu) t => (upd bl nt (nI t), sc, upd en t (nI nt), nt + 1, tu)
/-- block 1 as the log tells it -/
def hdRow (d : DkT) (nt : Nat) (tu : Int32) (sc : Nat → Int32) : Nat → Int32 :=
  let s := s_four (s_two (flt sc 0 128 0) 0 (nI nt)) 2 tu
  s_four s 6 (lgSum d s nt)
def lHead (d : DkT) : LgT → LgT := fun (bl, sc, en, nt, tu) => (bl, hdRow d nt tu sc, en, nt, tu)
def lTurn (t : Int32) : LgT → LgT := fun (bl, sc, en, nt, _) => (bl, sc, en, nt, t)
theorem lClr_ok {N : Nat} {l : LgT} (h : lOk N l) : lOk N (lClr N l) := by
  obtain ⟨bl, sc, en, nt, tu⟩ := l
  refine ⟨by omega, fun j hj => absurd hj (Nat.not_lt_zero j), h.2.2.1, fun t ht => Or.inl ?_⟩
  show flt en 0 N (-1) t = -1
  unfold flt
  rw [if_pos ⟨Nat.zero_le t, ht⟩]
theorem hdRow_byt {d : DkT} {nt : Nat} {tu : Int32} {sc : Nat → Int32} (h : Byt sc) : Byt (hdRow d nt tu sc) := (((Byt_flt h rfl).s_two).s_four).s_four
theorem lHead_ok {N : Nat} {d : DkT} {l : LgT} (h : lOk N l) : lOk N (lHead d l) := by
  obtain ⟨bl, sc, en, nt, tu⟩ := l
  exact ⟨h.1, h.2.1, hdRow_byt h.2.2.1, h.2.2.2⟩
theorem lTurn_ok {N : Nat} {t : Int32} {l : LgT} (h : lOk N l) : lOk N (lTurn t l) := by
  obtain ⟨bl, sc, en, nt, tu⟩ := l
  exact h
end GLN
