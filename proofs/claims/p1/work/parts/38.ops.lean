/-! ===== disk and buffer together: what is put, what settles, and where the power fails ===== -/
section GLP
abbrev DbS : Type := DkT × BfT × Int32 × Int32 × Int32
abbrev oM : Type := DbS → Bool × DbS
/-- a value is put into the buffer -/
def oPl (B t : Nat) (x : Nat → Int32) : oM := fun (d, b, le, wr, ss) => if (b.1 t = -1 ∧ 0 < b.2.2.1 (bSlot B b)) ∧ le = 0 then (false, d, b, le, wr, ss) else (true, plD B b d t, bPlace B b t x, plL B b t le, plW B b t wr, ss)
/-- to settle -/
def oSe (B : Nat) : oM := fun (d, b, le, wr, ss) =>
  let r := seAll B d b le wr
  if r.1 = true ∧ ¬ r.2.2.2.1 = 0 then (true, dSync r.2.1, r.2.2.1, (if 0 < r.2.2.2.1 then r.2.2.2.1 - 1 else r.2.2.2.1), r.2.2.2.2, ss + 1) else (false, r.2.1, r.2.2.1, r.2.2.2.1, r.2.2.2.2, ss)
/-- one behind the other -/
def oThen (m k : oM) : oM := fun s => if (m s).1 = true then k (m s).2 else m s
def oOk : oM := fun s => (true, s)
def DBV (E : gE) (f : Nat → va_E) (N B : Nat) (on : Int32) : DbS → Prop := fun (d, b, le, wr, ss) => DkV E f N d on le wr ss ∧ BfV E f N B b
/-- the power has failed -/
def DBX (E : gE) (f : Nat → va_E) (N B : Nat) : DbS → Prop := fun (d, b, _, wr, ss) => DkV E f N d 0 (-1) wr ss ∧ BfV E f N B b
theorem DBV.of {E : gE} {f g : Nat → va_E} {N B : Nat} {on : Int32} {s : DbS} (h : DBV E f N B on s) (hg : ∀ k, DBK N B k → g k = f k) : DBV E g N B on s := by
  obtain ⟨d, b, le, wr, ss⟩ := s
  exact ⟨h.1.of (fun k hk => hg k (Or.inl hk)), h.2.of (fun k hk => hg k (Or.inr hk))⟩
theorem DBX.of {E : gE} {f g : Nat → va_E} {N B : Nat} {s : DbS} (h : DBX E f N B s) (hg : ∀ k, DBK N B k → g k = f k) : DBX E g N B s := by
  obtain ⟨d, b, le, wr, ss⟩ := s
  exact ⟨h.1.of (fun k hk => hg k (Or.inl hk)), h.2.of (fun k hk => hg k (Or.inr hk))⟩
/-- the order, with stamps for m values more -/
def dbOk (N B m : Nat) : DbS → Prop := fun (d, b, _, _, _) => dOk N d ∧ bOk N B b ∧ b.2.2.2.2.1 + m < 2 ^ 31
theorem dbOk.less {N B m m' : Nat} {s : DbS} (h : dbOk N B m s) (hm : m' ≤ m) : dbOk N B m' s := by
  obtain ⟨d, b, le, wr, ss⟩ := s
  obtain ⟨h1, h2, h3⟩ := h
  exact ⟨h1, h2, by omega⟩
theorem plD_ok {N B : Nat} (hN : N ≤ 1024) {d : DkT} {b : BfT} {t : Nat} (hd : dOk N d) (hb : bOk N B b) : dOk N (plD B b d t) := by
  unfold plD
  split
  · have hs := bSlot_lt hb
    obtain ⟨so, bo, st, ro, sp, hd', pu⟩ := b
    generalize bSlot B (so, bo, st, ro, sp, hd', pu) = s at hs
    obtain ⟨o1, o2, o3, o4, o5, o6, o7, o8⟩ := hb
    obtain ⟨t0, ht0, hb0, -⟩ := o5 s hs
    have e : (bo s).toNatClampNeg = t0 := by rw [hb0]; exact nI_clamp (by omega)
    show dOk N (dWrite d (bo s).toNatClampNeg (ro s))
    rw [e]
    exact dWrite_ok hN hd ht0 (o7 s)
  · exact hd
theorem bPlace_sp {B : Nat} {b : BfT} {t : Nat} {x : Nat → Int32} : (bPlace B b t x).2.2.2.2.1 = b.2.2.2.2.1 + 1 := by
  obtain ⟨so, bo, st, ro, sp, hd, pu⟩ := b
  unfold bPlace
  split
  · split <;> rfl
  · rfl
theorem seRun_sp {B : Nat} : ∀ (n : Nat) (x : Int32) (d : DkT) (b : BfT) (le wr : Int32), (seRun B n x d b le wr).2.2.1.2.2.2.2.1 = b.2.2.2.2.1
  | 0, _, _, _, _, _ => rfl
  | n + 1, x, d, b, le, wr => by
    unfold seRun
    split
    · rfl
    · split
      · rfl
      · obtain ⟨so, bo, st, ro, sp, hd, pu⟩ := b
        simp only
        rw [seRun_sp n]
        rfl
theorem oPl_ok {N B m t : Nat} (hN : N ≤ 1024) {x : Nat → Int32} {s : DbS} (h : dbOk N B (m + 1) s) (ht : t < N) (hx : Byt x) : dbOk N B m (oPl B t x s).2 := by
  obtain ⟨d, b, le, wr, ss⟩ := s
  obtain ⟨h1, h2, h3⟩ := h
  unfold oPl
  simp only
  split
  · exact ⟨h1, h2, by omega⟩
  · exact ⟨plD_ok hN h1 h2, bPlace_ok hN h2 ht hx (by omega), by rw [bPlace_sp]; omega⟩
theorem oSe_ok {N B m : Nat} (hN : N ≤ 1024) {s : DbS} (h : dbOk N B m s) : dbOk N B m (oSe B s).2 := by
  obtain ⟨d, b, le, wr, ss⟩ := s
  obtain ⟨h1, h2, h3⟩ := h
  have hh : bHas B b (bNext b.2.1 b.2.2.1 (-1) B) := bNext_spec b.2.1 b.2.2.1 (-1) B
  have q := seRun_ok hN b.2.2.2.2.2.1 (bNext b.2.1 b.2.2.1 (-1) B) d b le wr h1 h2 hh
  have e := seRun_sp (B := B) b.2.2.2.2.2.1 (bNext b.2.1 b.2.2.1 (-1) B) d b le wr
  unfold oSe seAll
  simp only
  split
  · exact ⟨dIter_ok hN _ q.1, q.2, by rw [e]; exact h3⟩
  · exact ⟨q.1, q.2, by rw [e]; exact h3⟩
theorem c_pl (E : gE) (f : Nat → va_E) (N B : Nat) (s : DbS) (on : Int32) (hE : 350 + 2 * N + B ≤ gN E) (hN : N ≤ 1024) (hs : DBV E f N B on s) (m : Nat) (ho : dbOk N B m s) (t kv : Nat) (x : Nat → Int32) (ht : t < N) (hkv : kv < gN E) (hx : f kv = oB (gDA E) 128 x) (hxb : Byt x) (hk : ¬ DBK N B kv) : Ct E 8 yX0_place cX0_place 4 none [.ref (gAd E 8), .int (nI t), .ref (gAd E kv)] f (fun v g => v = none ∧ (oPl B t x s).1 = true ∧ DBV E g N B on (oPl B t x s).2 ∧ Fr (DBK N B) f g, fun X g => X = "java/lang/UnsupportedOperationException" ∧ (oPl B t x s).1 = false ∧ DBX E g N B (oPl B t x s).2 ∧ Fr (DBK N B) f g) := by
  obtain ⟨d, b, le, wr, ss⟩ := s
  refine (c_X0_place E f N B b hE hN hs.2 ho.2.1 d on le wr ss hs.1 ho.1 t kv x ht hkv hx hxb (fun q => hk (Or.inr q)) (fun q => hk (Or.inl q))).mono (fun v g h => ?_) (fun X g h => ?_)
  · obtain ⟨h1, h2, h3, h4, h5⟩ := h
    have e : oPl B t x (d, b, le, wr, ss) = (true, plD B b d t, bPlace B b t x, plL B b t le, plW B b t wr, ss) := if_neg (fun q => h2 q.1 q.2)
    rw [e]
    exact ⟨h1, rfl, ⟨h3, h4⟩, h5⟩
  · obtain ⟨h1, h2, h3, h4, h5, h6⟩ := h
    have e : oPl B t x (d, b, le, wr, ss) = (false, d, b, le, wr, ss) := if_pos ⟨h3, h2⟩
    rw [e]
    exact ⟨h1, rfl, ⟨h4, h5⟩, h6⟩
theorem c_se (E : gE) (f : Nat → va_E) (N B : Nat) (s : DbS) (on : Int32) (hE : 350 + 2 * N + B ≤ gN E) (hN : N ≤ 1024) (hs : DBV E f N B on s) (m : Nat) (ho : dbOk N B m s) : Ct E 8 yX0_settle cX0_settle 3 none [.ref (gAd E 8)] f (fun v g => v = none ∧ (oSe B s).1 = true ∧ DBV E g N B on (oSe B s).2 ∧ Fr (DBK N B) f g, fun X g => X = "java/lang/UnsupportedOperationException" ∧ (oSe B s).1 = false ∧ DBX E g N B (oSe B s).2 ∧ Fr (DBK N B) f g) := by
  obtain ⟨d, b, le, wr, ss⟩ := s
  refine (c_X0_settle E f N B b hE hN hs.2 ho.2.1 d on le wr ss hs.1 ho.1).mono (fun v g h => ?_) (fun X g h => ?_)
  · obtain ⟨h1, h2, h3, h4, h5, h6⟩ := h
    have e : oSe B (d, b, le, wr, ss) = (true, dSync (seAll B d b le wr).2.1, (seAll B d b le wr).2.2.1, (if 0 < (seAll B d b le wr).2.2.2.1 then (seAll B d b le wr).2.2.2.1 - 1 else (seAll B d b le wr).2.2.2.1), (seAll B d b le wr).2.2.2.2, ss + 1) := if_pos ⟨h2, h3⟩
    rw [e]
    exact ⟨h1, rfl, ⟨h4, h5⟩, h6⟩
  · obtain ⟨h1, h2, h3, h4, h5⟩ := h
    have e : oSe B (d, b, le, wr, ss) = (false, (seAll B d b le wr).2.1, (seAll B d b le wr).2.2.1, (seAll B d b le wr).2.2.2.1, (seAll B d b le wr).2.2.2.2, ss) := if_neg (fun q => h2.elim (fun z => by rw [z] at q; exact absurd q.1 (by decide)) q.2)
    rw [e]
    exact ⟨h1, rfl, ⟨h3, h4⟩, h5⟩
theorem c_sa (E : gE) (f : Nat → va_E) (N B : Nat) (l : LgT) (s : DbS) (on : Int32) (hE : 350 + 2 * N + B ≤ gN E) (hN : N ≤ 1024) (hN2 : 61 ≤ N) (hl : LgV E f N l) (hlo : lOk N l) (hs : DBV E f N B on s) (m : Nat) (ho : dbOk N B m s) : Ct E 9 yX6_startAnew cX6_startAnew 1 none [.ref (gAd E 13)] f (fun v g => v = none ∧ (oPl B 1 (hdRow s.1 0 0 l.2.1) s).1 = true ∧ DBV E g N B on (oPl B 1 (hdRow s.1 0 0 l.2.1) s).2 ∧ LgV E g N (lHead s.1 (lTurn 0 (lClr N l))) ∧ Fr (LDB N B) f g, fun X g => X = "java/lang/UnsupportedOperationException" ∧ (oPl B 1 (hdRow s.1 0 0 l.2.1) s).1 = false ∧ DBX E g N B (oPl B 1 (hdRow s.1 0 0 l.2.1) s).2 ∧ LgV E g N (lHead s.1 (lTurn 0 (lClr N l))) ∧ Fr (LDB N B) f g) := by
  obtain ⟨d, b, le, wr, ss⟩ := s
  refine (c_X6_startAnew E f N l (by omega) hN hl hlo d on le wr ss hs.1 ho.1 hN2 B b hE hs.2 ho.2.1).mono (fun v g h => ?_) (fun X g h => ?_)
  · obtain ⟨h1, h2, h3, h4, h5, h6⟩ := h
    have e : oPl B 1 (hdRow d 0 0 l.2.1) (d, b, le, wr, ss) = (true, plD B b d 1, bPlace B b 1 (hdRow d 0 0 l.2.1), plL B b 1 le, plW B b 1 wr, ss) := if_neg (fun q => h2 q.1 q.2)
    show v = none ∧ (oPl B 1 (hdRow d 0 0 l.2.1) (d, b, le, wr, ss)).1 = true ∧ DBV E g N B on (oPl B 1 (hdRow d 0 0 l.2.1) (d, b, le, wr, ss)).2 ∧ LgV E g N (lHead d (lTurn 0 (lClr N l))) ∧ Fr (LDB N B) f g
    rw [e]
    exact ⟨h1, rfl, ⟨h3, h4⟩, h5, h6⟩
  · obtain ⟨h1, h2, h3, h4, h5, h6, h7⟩ := h
    have e : oPl B 1 (hdRow d 0 0 l.2.1) (d, b, le, wr, ss) = (false, d, b, le, wr, ss) := if_pos ⟨h3, h2⟩
    show X = "java/lang/UnsupportedOperationException" ∧ (oPl B 1 (hdRow d 0 0 l.2.1) (d, b, le, wr, ss)).1 = false ∧ DBX E g N B (oPl B 1 (hdRow d 0 0 l.2.1) (d, b, le, wr, ss)).2 ∧ LgV E g N (lHead d (lTurn 0 (lClr N l))) ∧ Fr (LDB N B) f g
    rw [e]
    exact ⟨h1, rfl, ⟨h4, h5⟩, h6, h7⟩
end GLP
