/-! ===== own rows ===== -/
section DCO
def aOw (A : MS) (ow : QC) : MS := (A.1, A.2.1, A.2.2.1, A.2.2.2.1, A.2.2.2.2.1, ow, A.2.2.2.2.2.2)
def aSet (A : MS) (t : Nat) (y : Rw) : MS := aOw A (fun b => if b = t then some y else A.2.2.2.2.2.1 b)
/-- own(i) -/
def owB (N : Nat) (A : MS) (D : CfT) (i : Int32) : Option (MS × CfT) := if i < 0 ∨ N ≤ i.toNatClampNeg then none else match A.2.2.2.2.2.1 i.toNatClampNeg with
  | some _ => some (A, D)
  | none => if cS D 2508 < 0 ∨ N ≤ (cS D 2508).toNatClampNeg then none else some (aSet A i.toNatClampNeg (vA A i.toNatClampNeg), sS (sA D 29 (upd (cA D 29) (cS D 2508).toNatClampNeg i)) 2508 (cS D 2508 + 1))
/-- an own row becomes another one -/
def rwO (N : Nat) (A : MS) (t : Nat) (F : Rw → Option Rw) : Option MS := if N ≤ t then none else match A.2.2.2.2.2.1 t with
  | none => none
  | some g => match F g with
    | none => none
    | some y => some (aSet A t (nr y))
theorem rwO_s {N : Nat} {A A' : MS} {t : Nat} {F : Rw → Option Rw} (h : rwO N A t F = some A') : t < N ∧ ∃ g y, A.2.2.2.2.2.1 t = some g ∧ F g = some y ∧ A' = aSet A t (nr y) := by
  unfold rwO at h
  split at h
  · cases h
  · next q =>
    split at h
    · cases h
    · next g hg =>
      split at h
      · cases h
      · next y hy =>
        cases h
        exact ⟨by omega, g, y, hg, hy, rfl⟩
def stO (N : Nat) (A : MS) (t : Nat) (i x : Int32) : Option MS := rwO N A t (fun g => if i < 0 ∨ 128 ≤ i.toNatClampNeg then none else some (upd g i.toNatClampNeg x))
def s2O (N : Nat) (A : MS) (t : Nat) (i v : Int32) : Option MS := rwO N A t (fun g => if i < 0 ∨ 127 ≤ i.toNatClampNeg then none else some (s_two g i.toNatClampNeg v))
def s4O (N : Nat) (A : MS) (t : Nat) (i v : Int32) : Option MS := rwO N A t (fun g => if i < 0 ∨ 125 ≤ i.toNatClampNeg then none else some (s_four g i.toNatClampNeg v))
def flO (N : Nat) (A : MS) (t : Nat) (x : Int32) : Option MS := rwO N A t (fun g => some (flt g 0 128 (vp_nar .byte x)))
def frO (N : Nat) (A : MS) (t : Nat) (a z x : Int32) : Option MS := rwO N A t (fun g => if a < 0 ∨ z < 0 ∨ z.toNatClampNeg < a.toNatClampNeg ∨ 128 < z.toNatClampNeg then none else some (flt g a.toNatClampNeg z.toNatClampNeg (vp_nar .byte x)))
def ldO (N : Nat) (A : MS) (t : Nat) (i : Int32) : Option Int32 := if N ≤ t then none else match A.2.2.2.2.2.1 t with
  | none => none
  | some g => if i < 0 ∨ 128 ≤ i.toNatClampNeg then none else some (g i.toNatClampNeg)
theorem ldO_s {N : Nat} {A : MS} {t : Nat} {i v : Int32} (h : ldO N A t i = some v) : t < N ∧ vp_in i 128 ∧ ∃ g, A.2.2.2.2.2.1 t = some g ∧ g i.toNatClampNeg = v := by
  unfold ldO at h
  split at h
  · cases h
  · next q =>
    split at h
    · cases h
    · next g hg =>
      split at h
      · cases h
      · next z => exact ⟨by omega, z, g, hg, Option.some.inj h⟩
theorem AR.row {N B gr : Nat} {A : MS} {C : CfT} {t : Nat} {x : Nat → Int32} {g : Rw} (h : AR N B gr A C) (ht : t < N) (hg : A.2.2.2.2.2.1 t = some g) (hx : Byt x) : AR N B gr (aSet A t (nr x)) (sR C 2 t x) := by
  obtain ⟨h1, h2, h3, h4, ⟨en, h5⟩, h6, h7, h8, h9⟩ := h
  have hs : Sm [3] C (sR C 2 t x) := Sm.r (by decide)
  refine ⟨h1.sm hs (by decide), h2, h3.sm hs (by decide), h4, ⟨en, h5.smL hs (by decide)⟩, fun r hr => ?_, h7, ?_, h9⟩
  · have e : cR (sR C 2 t x) 4 r = cR C 4 r := congrFun (hs.2.2 4 (by decide)) r
    rw [e]
    exact h6 r hr
  · intro b hb
    obtain ⟨o2, ot, o⟩ := h8 b hb
    by_cases e : b = t
    · subst e
      rw [sR_e]
      refine ⟨hx, ot, ?_⟩
      rcases o with ⟨a1, a2⟩ | ⟨a1, a2⟩
      · rw [hg] at a2
        cases a2
      · exact Or.inr ⟨a1, if_pos rfl⟩
    · rw [sR_n e]
      have ee : (aSet A t (nr x)).2.2.2.2.2.1 b = A.2.2.2.2.2.1 b := if_neg e
      rw [ee]
      exact ⟨o2, ot, o⟩
variable {E : gE} {f : Nat → va_E} {N B gr : Nat} {C D : CfT} {A : MS}
theorem SN.own {f0 : Nat → va_E} {t : Nat} {x : Nat → Int32} {g : Rw} (hz : CfZ E N B gr) (h : CfV E f N B gr C) (hD : Dq D C) (hA : AR N B gr A C) (hf : Fr CfK f0 f) (ht : t < N) (hg : A.2.2.2.2.2.1 t = some g) (hx : Byt x) : SN E N B gr f0 (aSet A t (nr x)) D (va_up f (350 + N + t) (oB (gDA E) 128 x)) := ⟨sR C 2 t x, h.w2 t ht x, hD.r, hA.row ht hg hx, Fr.c hf (Or.inr (by omega))⟩
theorem AR.ow {t : Nat} {g : Rw} (h : AR N B gr A C) (ht : t < N) (hg : A.2.2.2.2.2.1 t = some g) : Byt (cR C 2 t) ∧ nr (cR C 2 t) = g := by
  obtain ⟨o2, -, o⟩ := h.2.2.2.2.2.2.2.1 t ht
  refine ⟨o2, ?_⟩
  rcases o with ⟨a1, a2⟩ | ⟨a1, a2⟩
  · rw [hg] at a2
    cases a2
  · exact Option.some.inj (a2.symm.trans hg)
theorem nr_upd {g : Nat → Int32} {i : Nat} {v : Int32} : nr (upd g i v) = nr (upd (nr g) i v) := by
  funext j
  unfold nr
  by_cases c : j < 128
  · rw [if_pos c, if_pos c]
    by_cases e : j = i
    · rw [e, pk_us, pk_us]
    · rw [pk_un e, pk_un e, if_pos c]
  · rw [if_neg c, if_neg c]
theorem nr_s_two {g : Nat → Int32} {i : Nat} {v : Int32} : nr (s_two g i v) = nr (s_two (nr g) i v) := by
  unfold s_two
  rw [nr_upd, nr_upd (g := g), ← nr_upd]
theorem nr_s_four {g : Nat → Int32} {i : Nat} {v : Int32} : nr (s_four g i v) = nr (s_four (nr g) i v) := by
  unfold s_four
  rw [nr_s_two, nr_s_two (g := g), ← nr_s_two]
theorem nr_flt {g : Nat → Int32} {a z : Nat} {v : Int32} : nr (flt g a z v) = nr (flt (nr g) a z v) := by
  funext j
  unfold nr flt
  by_cases c : j < 128
  · rw [if_pos c, if_pos c]
    split
    · rfl
    · exact (if_pos c).symm
  · rw [if_neg c, if_neg c]
theorem G.owld {K : gM} {cc : ByteArray} {Q : gU} {pc : Nat} {lv : List (Nat × Value)} {st : List Value} {t : Nat} {i v : Int32} (hz : CfZ E N B gr) (h : CfV E f N B gr C) (hA : AR N B gr A C) (hr : ldO N A t i = some v) (d : decode cc pc = .ok (.baload, 1)) (kk : G E K cc Q (pc + 1) lv (.int v :: st) f) : G E K cc Q pc lv (.int i :: .ref (gAd E (350 + N + t)) :: st) f := by
  obtain ⟨z1, z2, z3, z4, z5, z6, z7⟩ := id hz
  obtain ⟨ht, hi, g, hg, e⟩ := ldO_s hr
  obtain ⟨-, e2⟩ := hA.ow ht hg
  exact G.baldP (350 + N + t) (by omega) (h.r2 t ht) (fun j hj => (if_pos hj).symm.trans (congrFun e2 j)) hi e d kk
theorem G.owst {K : gM} {cc : ByteArray} {Q : gU} {pc : Nat} {lv : List (Nat × Value)} {st : List Value} {f0 : Nat → va_E} {t : Nat} {i x : Int32} {A' : MS} (hz : CfZ E N B gr) (h : CfV E f N B gr C) (hD : Dq D C) (hA : AR N B gr A C) (hf : Fr CfK f0 f) (hr : stO N A t i (vp_nar .byte x) = some A') (d : decode cc pc = .ok (.bastore, 1)) (kk : ∀ u, SN E N B gr f0 A' D u → G E K cc Q (pc + 1) lv st u) : G E K cc Q pc lv (.int x :: .int i :: .ref (gAd E (350 + N + t)) :: st) f := by
  obtain ⟨z1, z2, z3, z4, z5, z6, z7⟩ := id hz
  obtain ⟨ht, g, y, hg, hy, rfl⟩ := rwO_s hr
  obtain ⟨e1, e2⟩ := hA.ow ht hg
  split at hy
  · cases hy
  · next hi =>
    cases hy
    refine G.bast (350 + N + t) (by omega) (h.r2 t ht) hi d (kk _ ?_)
    have q := SN.own (f0 := f0) hz h hD hA hf ht hg (x := upd (cR C 2 t) i.toNatClampNeg (vp_nar .byte x)) e1.upd8
    rw [nr_upd, e2] at q
    exact q
theorem fit_nar (x : Int32) : fits .byte (.int (vp_nar .byte x)) = true := (Byt.upd8 (g := fun _ => 0) (k := 0) (x := x) (fun _ => rfl)) 0 |> fun q => by rw [pk_us] at q; exact q
theorem k_s2O (E : gE) (f : Nat → va_E) (N B gr : Nat) (C D : CfT) (A : MS) (hz : CfZ E N B gr) (h : CfV E f N B gr C) (hD : Dq D C) (hA : AR N B gr A C) (t : Nat) (i v : Int32) (A' : MS) (hr : s2O N A t i v = some A') : Ct E 1 yX2_setTwo cX2_setTwo 3 none [.ref (gAd E (350 + N + t)), .int i, .int v] f (fun w g => w = none ∧ SN E N B gr f A' D g, fun _ _ => False) := by
  obtain ⟨z1, z2, z3, z4, z5, z6, z7⟩ := id hz
  obtain ⟨ht, g, y, hg, hy, rfl⟩ := rwO_s hr
  obtain ⟨e1, e2⟩ := hA.ow ht hg
  split at hy
  · cases hy
  · next hi =>
    cases hy
    have i1 : ¬ i < 0 := fun q => hi (Or.inl q)
    have i2 : ¬ 127 ≤ i.toNatClampNeg := fun q => hi (Or.inr q)
    have q := c_X2_setTwo E f (350 + N + t) i.toNatClampNeg 128 _ (by omega) (h.r2 t ht) (by omega) (by decide) v
    rw [← nI_cl i1] at q
    refine q.mono (fun w g q => ?_) (fun _ _ q => q)
    obtain ⟨rfl, rfl⟩ := q
    have q := SN.own (f0 := f) hz h hD hA Fr.rf ht hg (x := s_two (cR C 2 t) i.toNatClampNeg v) e1.s_two
    rw [nr_s_two, e2] at q
    exact ⟨rfl, q⟩
theorem k_s4O (E : gE) (f : Nat → va_E) (N B gr : Nat) (C D : CfT) (A : MS) (hz : CfZ E N B gr) (h : CfV E f N B gr C) (hD : Dq D C) (hA : AR N B gr A C) (t : Nat) (i v : Int32) (A' : MS) (hr : s4O N A t i v = some A') : Ct E 2 yX2_setFour cX2_setFour 3 none [.ref (gAd E (350 + N + t)), .int i, .int v] f (fun w g => w = none ∧ SN E N B gr f A' D g, fun _ _ => False) := by
  obtain ⟨z1, z2, z3, z4, z5, z6, z7⟩ := id hz
  obtain ⟨ht, g, y, hg, hy, rfl⟩ := rwO_s hr
  obtain ⟨e1, e2⟩ := hA.ow ht hg
  split at hy
  · cases hy
  · next hi =>
    cases hy
    have i1 : ¬ i < 0 := fun q => hi (Or.inl q)
    have i2 : ¬ 125 ≤ i.toNatClampNeg := fun q => hi (Or.inr q)
    have q := c_X2_setFour E f (350 + N + t) i.toNatClampNeg 128 _ (by omega) (h.r2 t ht) (by omega) (by decide) v
    rw [← nI_cl i1] at q
    refine q.mono (fun w g q => ?_) (fun _ _ q => q)
    obtain ⟨rfl, rfl⟩ := q
    have q := SN.own (f0 := f) hz h hD hA Fr.rf ht hg (x := s_four (cR C 2 t) i.toNatClampNeg v) e1.s_four
    rw [nr_s_four, e2] at q
    exact ⟨rfl, q⟩
theorem k_flO (E : gE) (f : Nat → va_E) (N B gr : Nat) (C D : CfT) (A : MS) (hz : CfZ E N B gr) (h : CfV E f N B gr C) (hD : Dq D C) (hA : AR N B gr A C) (t : Nat) (x : Int32) (A' : MS) (hr : flO N A t x = some A') : Ct E 1 yJ7_fill_031fb cJ7_fill_031fb 4 none [.ref (gAd E (350 + N + t)), .int x] f (fun w g => w = none ∧ SN E N B gr f A' D g, fun _ _ => False) := by
  obtain ⟨z1, z2, z3, z4, z5, z6, z7⟩ := id hz
  obtain ⟨ht, g, y, hg, hy, rfl⟩ := rwO_s hr
  obtain ⟨e1, e2⟩ := hA.ow ht hg
  cases hy
  refine (c_J7_fill_031fb E f (350 + N + t) 128 _ x (by omega) (h.r2 t ht) (by decide)).mono (fun w g q => ?_) (fun _ _ q => q)
  obtain ⟨rfl, rfl⟩ := q
  have q := SN.own (f0 := f) hz h hD hA Fr.rf ht hg (x := flt (cR C 2 t) 0 128 (vp_nar .byte x)) (Byt_flt e1 (fit_nar x))
  rw [nr_flt, e2] at q
  exact ⟨rfl, q⟩
theorem k_frO (E : gE) (f : Nat → va_E) (N B gr : Nat) (C D : CfT) (A : MS) (hz : CfZ E N B gr) (h : CfV E f N B gr C) (hD : Dq D C) (hA : AR N B gr A C) (t : Nat) (a z x : Int32) (A' : MS) (hr : frO N A t a z x = some A') : Ct E 2 yJ7_fill_eb02e cJ7_fill_eb02e 5 none [.ref (gAd E (350 + N + t)), .int a, .int z, .int x] f (fun w g => w = none ∧ SN E N B gr f A' D g, fun _ _ => False) := by
  obtain ⟨z1, z2, z3, z4, z5, z6, z7⟩ := id hz
  obtain ⟨ht, g, y, hg, hy, rfl⟩ := rwO_s hr
  obtain ⟨e1, e2⟩ := hA.ow ht hg
  split at hy
  · cases hy
  · next hi =>
    cases hy
    have i1 : ¬ a < 0 := fun q => hi (Or.inl q)
    have i2 : ¬ z < 0 := fun q => hi (Or.inr (Or.inl q))
    have i3 : ¬ z.toNatClampNeg < a.toNatClampNeg := fun q => hi (Or.inr (Or.inr (Or.inl q)))
    have i4 : ¬ 128 < z.toNatClampNeg := fun q => hi (Or.inr (Or.inr (Or.inr q)))
    have q := c_J7_fill_eb02e E f (350 + N + t) 128 a.toNatClampNeg z.toNatClampNeg _ x (by omega) (h.r2 t ht) (by decide) (by omega) (by omega)
    rw [← nI_cl i1, ← nI_cl i2] at q
    refine q.mono (fun w g q => ?_) (fun _ _ q => q)
    obtain ⟨rfl, rfl⟩ := q
    have q := SN.own (f0 := f) hz h hD hA Fr.rf ht hg (x := flt (cR C 2 t) a.toNatClampNeg z.toNatClampNeg (vp_nar .byte x)) (Byt_flt e1 (fit_nar x))
    rw [nr_flt, e2] at q
    exact ⟨rfl, q⟩
def aTk (A : MS) (tk : Nat → Bool) : MS := (A.1, A.2.1, A.2.2.1, A.2.2.2.1, A.2.2.2.2.1, A.2.2.2.2.2.1, tk, A.2.2.2.2.2.2.2)
/-- a block is taken as a table, or no more -/
def tkO (N : Nat) (A : MS) (i : Int32) (v : Bool) : Option MS := if i < 0 ∨ N ≤ i.toNatClampNeg then none else some (aTk A (fun b => if b = i.toNatClampNeg then v else A.2.2.2.2.2.2.1 b))
theorem AR.vw {ow : QC} {tk : Nat → Bool} {C' : CfT} (h : AR N B gr A C) (hs : Sm [3] C C') (h11 : cS C' 2511 = cS C 2511) (hv : VwW N C' ow tk) : AR N B gr (aTk (aOw A ow) tk) C' := by
  obtain ⟨h1, h2, h3, h4, ⟨en, h5⟩, h6, h7, h8, h9⟩ := h
  refine ⟨h1.sm hs (by decide), h2, h3.sm hs (by decide), h4, ⟨en, h5.smL hs (by decide)⟩, fun r hr => ?_, h7.sm (hs.1 1711 (by decide)) (hs.1 1712 (by decide)) (hs.2.1 23 (by decide)) (hs.2.1 24 (by decide)), hv, h11.trans h9⟩
  have e : cR C' 4 r = cR C 4 r := congrFun (hs.2.2 4 (by decide)) r
  rw [e]
  exact h6 r hr
theorem G.tkst {K : gM} {cc : ByteArray} {Q : gU} {pc : Nat} {lv : List (Nat × Value)} {st : List Value} {f0 : Nat → va_E} {i : Int32} {v : Bool} {A' : MS} (hz : CfZ E N B gr) (h : CfV E f N B gr C) (hD : Dq D C) (hA : AR N B gr A C) (hf : Fr CfK f0 f) (hr : tkO N A i v = some A') (d : decode cc pc = .ok (.bastore, 1)) (kk : ∀ u, SN E N B gr f0 A' D u → G E K cc Q (pc + 1) lv st u) : G E K cc Q pc lv (.int (if v then 1 else 0) :: .int i :: .ref (gAd E 28) :: st) f := by
  obtain ⟨z1, z2, z3, z4, z5, z6, z7⟩ := id hz
  unfold tkO at hr
  split at hr
  · cases hr
  · next i1 =>
    cases hr
    have hn : vp_nar .boolean (if v then 1 else 0) = (if v then 1 else 0 : Int32) := by cases v <;> rfl
    refine G.zast 28 (by omega) h.q28 i1 d (kk _ ⟨sA C 28 _, h.p28 _, hD.a (by decide), hA.vw (ow := A.2.2.2.2.2.1) (Sm.a (by decide)) rfl (fun b hb => ?_), Fr.c hf (Or.inl (by decide))⟩)
    obtain ⟨o2, ot, o⟩ := hA.2.2.2.2.2.2.2.1 b hb
    refine ⟨o2, ?_, o⟩
    show (upd (cA C 28) i.toNatClampNeg (vp_nar .boolean (if v then 1 else 0))) b = if (if b = i.toNatClampNeg then v else A.2.2.2.2.2.2.1 b) then 1 else 0
    rw [hn]
    by_cases e : b = i.toNatClampNeg
    · rw [e, pk_us, if_pos rfl]
    · rw [pk_un e, if_neg e]
      exact ot
/-- a row is no more owned -/
def unO (N : Nat) (A : MS) (i : Int32) : Option MS := if i < 0 ∨ N ≤ i.toNatClampNeg then none else some (aOw A (fun b => if b = i.toNatClampNeg then none else A.2.2.2.2.2.1 b))
theorem G.unst {K : gM} {cc : ByteArray} {Q : gU} {pc : Nat} {lv : List (Nat × Value)} {st : List Value} {f0 : Nat → va_E} {i : Int32} {A' : MS} (hz : CfZ E N B gr) (h : CfV E f N B gr C) (hD : Dq D C) (hA : AR N B gr A C) (hf : Fr CfK f0 f) (hr : unO N A i = some A') (d : decode cc pc = .ok (.bastore, 1)) (kk : ∀ u, SN E N B gr f0 A' D u → G E K cc Q (pc + 1) lv st u) : G E K cc Q pc lv (.int (0 : Int32) :: .int i :: .ref (gAd E 27) :: st) f := by
  obtain ⟨z1, z2, z3, z4, z5, z6, z7⟩ := id hz
  unfold unO at hr
  split at hr
  · cases hr
  · next i1 =>
    cases hr
    refine G.zast 27 (by omega) h.q27 i1 d (kk _ ⟨sA C 27 _, h.p27 _, hD.a (by decide), hA.vw (ow := fun b => if b = i.toNatClampNeg then none else A.2.2.2.2.2.1 b) (tk := A.2.2.2.2.2.2.1) (Sm.a (by decide)) rfl (fun b hb => ?_), Fr.c hf (Or.inl (by decide))⟩)
    obtain ⟨o2, ot, o⟩ := hA.2.2.2.2.2.2.2.1 b hb
    refine ⟨o2, ot, ?_⟩
    show ((upd (cA C 27) i.toNatClampNeg (vp_nar .boolean (0 : Int32))) b = 0 ∧ (if b = i.toNatClampNeg then none else A.2.2.2.2.2.1 b) = none) ∨ ((upd (cA C 27) i.toNatClampNeg (vp_nar .boolean (0 : Int32))) b = 1 ∧ (if b = i.toNatClampNeg then none else A.2.2.2.2.2.1 b) = some (nr (cR C 2 b)))
    by_cases e : b = i.toNatClampNeg
    · rw [e, pk_us, if_pos rfl]
      exact Or.inl ⟨rfl, rfl⟩
    · rw [pk_un e, if_neg e]
      exact o
def tkA (tk : Nat → Bool) (b : Nat) : Int32 := if tk b then 1 else 0
theorem AR.r28 (h : AR N B gr A C) : ∀ t, t < N → cA C 28 t = tkA A.2.2.2.2.2.2.1 t := fun t ht => (h.2.2.2.2.2.2.2.1 t ht).2.1
def aRs (A : MS) (rs : Nat → Nat) : MS := (A.1, A.2.1, A.2.2.1, A.2.2.2.1, rs, A.2.2.2.2.2)
/-- a block rests -/
def arO (N : Nat) (A : MS) (i : Int32) : Option MS := if i < 0 ∨ N ≤ i.toNatClampNeg ∨ ¬ A.2.2.2.2.1 i.toNatClampNeg = 0 then none else some (aRs A (fun b => if b = i.toNatClampNeg then 2 else A.2.2.2.2.1 b))
theorem k_arO (E : gE) (f : Nat → va_E) (N B gr : Nat) (C D : CfT) (A : MS) (hz : CfZ E N B gr) (h : CfV E f N B gr C) (hD : Dq D C) (hA : AR N B gr A C) (i : Int32) (A' : MS) (hr : arO N A i = some A') : Ct E 1 yX9_addRest cX9_addRest 2 none [.ref (gAd E (17)), .int i] f (fun v g => v = none ∧ SN E N B gr f A' D g, fun _ _ => False) := by
  obtain ⟨z1, z2, z3, z4, z5, z6, z7⟩ := id hz
  unfold arO at hr
  split at hr
  · cases hr
  · next hi =>
    cases hr
    have i1 : vp_in i N := fun q => hi (q.elim Or.inl (fun q => Or.inr (Or.inl q)))
    have i0 : A.2.2.2.2.1 i.toNatClampNeg = 0 := Classical.byContradiction fun q => hi (Or.inr (Or.inr q))
    obtain ⟨ht, e⟩ := vp_nI i1
    rw [show (Value.int i) = .int (nI i.toNatClampNeg) from congrArg _ e]
    generalize i.toNatClampNeg = t at ht i0
    obtain ⟨h1, h2, h3, h4, ⟨en, h5⟩, h6, h7, h8, h9⟩ := id hA
    obtain ⟨q, m, q1, q2, q3, q4, q5, q6, q7⟩ := id h7
    have hm := h7.add z2 q4 (by omega) ht i0
    have h23 : cA C 23 t = 0 := by
      rw [hA.r23 z2 t ht]
      unfold rsA
      rw [i0]
      rfl
    refine (c_X9_addRest E f N B gr C hz h t m ht q4 hm h23).mono (fun v g q => ?_) (fun _ _ q => q)
    obtain ⟨rfl, hc, fr⟩ := q
    have hs : Sm [2] C (sS (sA (sA C 23 (upd (cA C 23) t (vp_nar .boolean ((1 : Int32))))) 24 (upd (cA C 24) m (nI t))) 1711 ((nI m) + ((1 : Int32)))) := ((Sm.a (by decide) : Sm [2] C (sA C 23 (upd (cA C 23) t (vp_nar .boolean ((1 : Int32)))))).tr (Sm.a (by decide))).tr (Sm.s (by decide))
    exact ⟨rfl, _, hc, hD.sm hs (by decide), ⟨h1.sm hs (by decide), h2, h3.sm hs (by decide), h4, ⟨en, h5.sm rfl rfl rfl rfl rfl rfl⟩, h6, h7.rest z2 q4 hm ht i0, h8.sm (hs.2.1 27 (by decide)) (hs.2.1 28 (by decide)) (fun _ => rfl), (hs.1 2511 (by decide)).trans h9⟩, fr⟩
end DCO
