/-! ===== the class's buffer and what it stands for ===== -/
section MDC
theorem upd_id {g : Nat → Int32} {k : Nat} {v : Int32} (h : g k = v) : upd g k v = g := by
  funext i
  by_cases e : i = k
  · rw [e, pk_us, h]
  · rw [pk_un e]
theorem bLeast_min (st : Nat → Int32) : ∀ j i, i ≤ j → st (bLeast st j) ≤ st i
  | 0, i, h => by
    have e : i = 0 := by omega
    rw [e]
    exact Int32.le_refl _
  | j + 1, i, h => by
    unfold bLeast
    by_cases c : st (j + 1) < st (bLeast st j)
    · rw [if_pos c]
      by_cases e : i = j + 1
      · rw [e]; exact Int32.le_refl _
      · exact Int32.le_trans (Int32.le_of_lt c) (bLeast_min st j i (by omega))
    · rw [if_neg c]
      by_cases e : i = j + 1
      · rw [e]; exact Int32.not_lt.mp c
      · exact bLeast_min st j i (by omega)
theorem bCnt_all (st : Nat → Int32) : ∀ j, (∀ s, s < j → 0 < st s) → bCnt st j = j
  | 0, _ => rfl
  | j + 1, h => by
    unfold bCnt
    rw [bCnt_all st j (fun s hs => h s (by omega)), if_pos (h j (by omega))]
theorem bCnt_lt (st : Nat → Int32) (s : Nat) (h : ¬ 0 < st s) : ∀ j, s < j → bCnt st j < j
  | 0, hs => absurd hs (by omega)
  | j + 1, hs => by
    unfold bCnt
    by_cases e : s = j
    · subst e
      rw [if_neg h]
      have := bCnt_le st s
      omega
    · have := bCnt_lt st s h j (by omega)
      split <;> omega
theorem bCnt_zero (st : Nat → Int32) : ∀ j, (∀ s, s < j → ¬ 0 < st s) → bCnt st j = 0
  | 0, _ => rfl
  | j + 1, h => by
    unfold bCnt
    rw [bCnt_zero st j (fun s hs => h s (by omega)), if_neg (h j (by omega))]
/-- block u in the class's buffer and in the model's -/
def Bl (B : Nat) (so bo st : Nat → Int32) (ro : Nat → Nat → Int32) (bf : Nat → Option (Nat × Rw)) (u : Nat) : Prop := (so u = -1 ∧ bf u = none) ∨ ∃ s q, s < B ∧ so u = nI s ∧ st s = nI (q + 1) ∧ bo s = nI u ∧ bf u = some (q, nr (ro s))
def CBf (N B : Nat) (b0 : Bf0) : BfT → Prop := fun (so, bo, st, ro, sp, hd, pu) => b0.2.1 = hd ∧ b0.2.2.1 = sp ∧ b0.2.2.2 = pu ∧ ∀ u, u < N → Bl B so bo st ro b0.1 u
theorem Bl.seat {N B : Nat} {so bo st : Nat → Int32} {ro : Nat → Nat → Int32} {bf : Nat → Option (Nat × Rw)} {t s0 sp : Nat} {x : Nat → Int32} (hN : N ≤ 1024) (hB : B ≤ 64) (h : ∀ u, u < N → u ≠ t → Bl B so bo st ro bf u) (hs : s0 < B) (hfree : ∀ u, u < N → u ≠ t → ¬ so u = nI s0) :
    ∀ u, u < N → Bl B (upd so t (nI s0)) (upd bo s0 (nI t)) (upd st s0 (nI (sp + 1))) (va_up ro s0 (va_cpy x (ro s0) 0 0 128)) (bSet bf t (some (sp, nr x))) u := by
  intro u hu
  by_cases e : u = t
  · subst e
    refine Or.inr ⟨s0, sp, hs, pk_us, pk_us, pk_us, ?_⟩
    rw [bSet_e]
    show _ = some (sp, nr (if s0 = s0 then va_cpy x (ro s0) 0 0 128 else ro s0))
    rw [if_pos rfl, nr_cpy]
  · rcases h u hu e with ⟨h1, h2⟩ | ⟨s, q, h1, h2, h3, h4, h5⟩
    · exact Or.inl ⟨by rw [pk_un e]; exact h1, by rw [bSet_n e]; exact h2⟩
    · have hne : s ≠ s0 := fun z => hfree u hu e (by rw [← z]; exact h2)
      refine Or.inr ⟨s, q, h1, by rw [pk_un e]; exact h2, by rw [pk_un hne]; exact h3, by rw [pk_un hne]; exact h4, ?_⟩
      rw [bSet_n e]
      show bf u = some (q, nr (if s = s0 then _ else ro s))
      rw [if_neg hne]
      exact h5
theorem Bl.drop {N B : Nat} {so bo st : Nat → Int32} {ro : Nat → Nat → Int32} {bf : Nat → Option (Nat × Rw)} {t0 s0 : Nat} (hN : N ≤ 1024) (hB : B ≤ 64) (h : ∀ u, u < N → Bl B so bo st ro bf u) (ht : t0 < N) (hbo : bo s0 = nI t0) :
    ∀ u, u < N → Bl B (upd so t0 (-1)) bo (upd st s0 0) ro (bSet bf t0 none) u := by
  intro u hu
  by_cases e : u = t0
  · rw [e]
    exact Or.inl ⟨pk_us, bSet_e⟩
  · rcases h u hu with ⟨h1, h2⟩ | ⟨s, q, h1, h2, h3, h4, h5⟩
    · exact Or.inl ⟨by rw [pk_un e]; exact h1, by rw [bSet_n e]; exact h2⟩
    · have hne : s ≠ s0 := by
        rintro rfl
        rw [hbo] at h4
        exact e (nI_inj (by omega) (by omega) h4).symm
      exact Or.inr ⟨s, q, h1, by rw [pk_un e]; exact h2, by rw [pk_un hne]; exact h3, h4, by rw [bSet_n e]; exact h5⟩
theorem BsOk.new {N t : Nat} {bf : Nat → Option (Nat × Rw)} {hd hd' sp : Nat} {pu pu' : Int32} {x : Rw} (h : BsOk N (bf, hd, sp, pu)) : BsOk N (bSet bf t (some (sp, x)), hd', sp + 1, pu') := by
  obtain ⟨h1, h2⟩ := h
  have h1 : ∀ t q x, t < N → bf t = some (q, x) → q < sp := h1
  have h2 : ∀ t u q x y, t < N → u < N → bf t = some (q, x) → bf u = some (q, y) → t = u := h2
  refine ⟨?_, ?_⟩
  · intro u q y hu e
    show q < sp + 1
    have e : bSet bf t (some (sp, x)) u = some (q, y) := e
    by_cases z : u = t
    · rw [z, bSet_e] at e
      cases e
      omega
    · rw [bSet_n z] at e
      have := h1 u q y hu e
      omega
  · intro u v q y z hu hv e1 e2
    have e1 : bSet bf t (some (sp, x)) u = some (q, y) := e1
    have e2 : bSet bf t (some (sp, x)) v = some (q, z) := e2
    by_cases a : u = t
    · by_cases b : v = t
      · rw [a, b]
      · rw [a, bSet_e] at e1
        rw [bSet_n b] at e2
        cases e1
        exact absurd (h1 v sp z hv e2) (by omega)
    · rw [bSet_n a] at e1
      by_cases b : v = t
      · rw [b, bSet_e] at e2
        cases e2
        exact absurd (h1 u sp y hu e1) (by omega)
      · rw [bSet_n b] at e2
        exact h2 u v q y z hu hv e1 e2
theorem BsOk.less {N t : Nat} {bf : Nat → Option (Nat × Rw)} {hd hd' sp : Nat} {pu pu' : Int32} (h : BsOk N (bf, hd, sp, pu)) : BsOk N (bSet bf t none, hd', sp, pu') := by
  obtain ⟨h1, h2⟩ := h
  have k : ∀ u q y, bSet bf t none u = some (q, y) → bf u = some (q, y) := by
    intro u q y e
    by_cases z : u = t
    · rw [z, bSet_e] at e
      cases e
    · rw [bSet_n z] at e
      exact e
  exact ⟨fun u q y hu e => h1 u q y hu (k u q y e), fun u v q y z hu hv e1 e2 => h2 u v q y z hu hv (k u q y e1) (k v q z e2)⟩
/-- class and model, hardware: the class's own order too -/
def CH (N B : Nat) : Hw → DbS → Prop := fun (D, b0, le0, wr0, ss0) (d, b, le, wr, ss) => CDk N D d ∧ CBf N B b0 b ∧ dOk N d ∧ bOk N B b ∧ BsOk N b0 ∧ le0 = le ∧ wr0 = wr ∧ ss0 = ss
theorem CH.pl {N B t : Nat} {x : Nat → Int32} {h : Hw} {s : DbS} (hN : N ≤ 1024) (c : CH N B h s) (ht : t < N) (hx : Byt x) (hsp : s.2.1.2.2.2.2.1 + 1 < 2 ^ 31) : (aPl N B t (nr x) h).1 = (oPl B t x s).1 ∧ CH N B (aPl N B t (nr x) h).2 (oPl B t x s).2 := by
  obtain ⟨D, ⟨bf, hd0, sp0, pu0⟩, le0, wr0, ss0⟩ := h
  obtain ⟨d, b, le, wr, ss⟩ := s
  obtain ⟨cd, cb, dk, bk, bs, rfl, rfl, rfl⟩ := c
  have hpo := bPlace_ok (x := x) hN bk ht hx hsp
  have hsl := bSlot_lt bk
  obtain ⟨so, bo, st, ro, sp, hd, pu⟩ := b
  obtain ⟨e1, e2, e3, hb⟩ := cb
  have e1 : hd0 = hd := e1
  have e2 : sp0 = sp := e2
  have e3 : pu0 = pu := e3
  subst e1
  subst e2
  subst e3
  have hb : ∀ u, u < N → Bl B so bo st ro bf u := hb
  obtain ⟨b1, b2, b3, b4, b5, b6, b7, b8⟩ := id bk
  have hsl : bLeast st (B - 1) < B := hsl
  have hmin : ∀ s, s < B → st (bLeast st (B - 1)) ≤ st s := fun s hs => bLeast_min st (B - 1) s (by omega)
  obtain ⟨t0, ht0, hbo0, hso0⟩ := b5 (bLeast st (B - 1)) hsl
  have hcl : (bo (bLeast st (B - 1))).toNatClampNeg = t0 := by rw [hbo0]; exact nI_clamp (by omega)
  have hfull : 0 < st (bLeast st (B - 1)) ↔ hd0 = B := by
    constructor
    · intro q
      rw [b3]
      exact bCnt_all st B (fun s hs => Int32.lt_of_lt_of_le q (hmin s hs))
    · intro q
      rw [b3] at q
      exact Classical.byContradiction fun z => absurd (bCnt_lt st _ z B hsl) (by omega)
  have hnone : so t = -1 ↔ bf t = none := by
    rcases hb t ht with ⟨q1, q2⟩ | ⟨s, q, q1, q2, q3, q4, q5⟩
    · exact ⟨fun _ => q2, fun _ => q1⟩
    · exact ⟨fun z => absurd (q2.symm.trans z) (nI_m1 (by omega)), fun z => by rw [q5] at z; cases z⟩
  by_cases c1 : bf t = none
  · have c1' := hnone.mpr c1
    by_cases c2 : hd0 = B
    · have c2' := hfull.mpr c2
      by_cases c3 : le0 = 0
      · -- the power fails
        have ea : aPl N B t (nr x) (D, (bf, hd0, sp0, pu0), le0, wr0, ss0) = (false, D, (bf, hd0, sp0, pu0), le0, wr0, ss0) := by
          show (if bf t = none then _ else _) = _
          rw [if_pos c1, if_pos c2, if_pos c3]
        have eo : oPl B t x (d, (so, bo, st, ro, sp0, hd0, pu0), le0, wr0, ss0) = (false, d, (so, bo, st, ro, sp0, hd0, pu0), le0, wr0, ss0) := if_pos ⟨⟨c1', c2'⟩, c3⟩
        rw [ea, eo]
        exact ⟨rfl, cd, ⟨rfl, rfl, rfl, hb⟩, dk, bk, bs, rfl, rfl, rfl⟩
      · have hso := hso0 c2'
        have hbt0 : ∃ q0, st (bLeast st (B - 1)) = nI (q0 + 1) ∧ bf t0 = some (q0, nr (ro (bLeast st (B - 1)))) := by
          rcases hb t0 ht0 with ⟨q1, q2⟩ | ⟨s, q, q1, q2, q3, q4, q5⟩
          · exact absurd (hso.symm.trans q1) (nI_m1 (by omega))
          · have es : s = bLeast st (B - 1) := nI_inj (by omega) (by omega) (q2.symm.trans hso)
            subst es
            exact ⟨q, q3, q5⟩
        obtain ⟨q0, hq0, hbf0⟩ := hbt0
        have hlt0 : q0 < sp0 := bs.1 t0 q0 _ ht0 hbf0
        have hm : BMin N bf t0 := ⟨ht0, q0, _, hbf0, fun u r y hu hy => by
          rcases hb u hu with ⟨q1, q2⟩ | ⟨s, q, q1, q2, q3, q4, q5⟩
          · rw [q2] at hy; cases hy
          · rw [q5] at hy
            cases hy
            have hr : r < sp0 := bs.1 u r _ hu q5
            have := hmin s q1
            rw [hq0, q3] at this
            have := (nI_leI (by have : sp0 < 2 ^ 31 := b4; omega) (by have : sp0 < 2 ^ 31 := b4; omega)).mp this
            omega⟩
        have ho : bOut N bf = t0 := bOut_eq (b := (bf, hd0, sp0, pu0)) bs hm
        have hv : bVal bf t0 = nr (ro (bLeast st (B - 1))) := by
          unfold bVal
          rw [hbf0]
        have hne : t0 ≠ t := by
          rintro rfl
          rw [c1] at hbf0
          cases hbf0
        have ea : aPl N B t (nr x) (D, (bf, hd0, sp0, pu0), le0, wr0, ss0) = (true, aWr D t0 (nr (ro (bLeast st (B - 1)))), (bSet (bSet bf t0 none) t (some (sp0, nr x)), hd0, sp0 + 1, pu0 + 1), sLe le0, wr0 + 1, ss0) := by
          show (if bf t = none then _ else _) = _
          rw [if_pos c1, if_pos c2, if_neg c3, ho, hv]
        have eo : oPl B t x (d, (so, bo, st, ro, sp0, hd0, pu0), le0, wr0, ss0) = (true, dWrite d t0 (ro (bLeast st (B - 1))), bPlace B (so, bo, st, ro, sp0, hd0, pu0) t x, sLe le0, wr0 + 1, ss0) := by
          have e := (if_neg (fun z => c3 z.2) : oPl B t x (d, (so, bo, st, ro, sp0, hd0, pu0), le0, wr0, ss0) = (true, plD B (so, bo, st, ro, sp0, hd0, pu0) d t, bPlace B (so, bo, st, ro, sp0, hd0, pu0) t x, plL B (so, bo, st, ro, sp0, hd0, pu0) t le0, plW B (so, bo, st, ro, sp0, hd0, pu0) t wr0, ss0))
          refine e.trans ?_
          have p1 : plD B (so, bo, st, ro, sp0, hd0, pu0) d t = dWrite d t0 (ro (bLeast st (B - 1))) := by
            refine (if_pos ⟨c1', c2'⟩).trans ?_
            show dWrite d (bo (bLeast st (B - 1))).toNatClampNeg _ = _
            rw [hcl]
            rfl
          have p2 : plL B (so, bo, st, ro, sp0, hd0, pu0) t le0 = sLe le0 := if_pos ⟨c1', c2'⟩
          have p3 : plW B (so, bo, st, ro, sp0, hd0, pu0) t wr0 = wr0 + 1 := if_pos ⟨c1', c2'⟩
          rw [p1, p2, p3]
        have ep : bPlace B (so, bo, st, ro, sp0, hd0, pu0) t x = (upd (upd so t0 (-1)) t (nI (bLeast st (B - 1))), upd bo (bLeast st (B - 1)) (nI t), upd (upd st (bLeast st (B - 1)) 0) (bLeast st (B - 1)) (nI (sp0 + 1)), va_up ro (bLeast st (B - 1)) (va_cpy x (ro (bLeast st (B - 1))) 0 0 128), sp0 + 1, hd0 - 1 + 1, pu0 + 1) := by
          refine (if_pos c1').trans ((if_pos c2').trans ?_)
          show (upd (upd so (bo (bLeast st (B - 1))).toNatClampNeg (-1)) t _, _, _, _, _, _, _) = _
          rw [hcl]
          rfl
        rw [ea, eo]
        refine ⟨rfl, cd.write hN ht0, ?_, dWrite_ok hN dk ht0 (b7 _), hpo, BsOk.new (BsOk.less (hd' := hd0) (pu' := pu0) bs), rfl, rfl, rfl⟩
        rw [ep]
        refine ⟨by show hd0 = hd0 - 1 + 1; omega, rfl, rfl, ?_⟩
        refine Bl.seat hN b2 (fun u hu _ => Bl.drop hN b2 hb ht0 hbo0 u hu) hsl (fun u hu hne2 z => ?_)
        by_cases e : u = t0
        · rw [e, pk_us] at z
          exact nI_m1 (by omega) z.symm
        · rw [pk_un e] at z
          rcases hb u hu with ⟨q1, q2⟩ | ⟨s, q, q1, q2, q3, q4, q5⟩
          · exact nI_m1 (by omega) (z.symm.trans q1)
          · have es : s = bLeast st (B - 1) := nI_inj (by omega) (by omega) (q2.symm.trans z)
            subst es
            rw [hbo0] at q4
            exact e (nI_inj (by omega) (by omega) q4).symm
    · -- a free slot
      have c2' : ¬ 0 < st (bLeast st (B - 1)) := fun z => c2 (hfull.mp z)
      have ea : aPl N B t (nr x) (D, (bf, hd0, sp0, pu0), le0, wr0, ss0) = (true, D, (bSet bf t (some (sp0, nr x)), hd0 + 1, sp0 + 1, pu0), le0, wr0, ss0) := by
        show (if bf t = none then _ else _) = _
        rw [if_pos c1, if_neg c2]
      have eo : oPl B t x (d, (so, bo, st, ro, sp0, hd0, pu0), le0, wr0, ss0) = (true, d, bPlace B (so, bo, st, ro, sp0, hd0, pu0) t x, le0, wr0, ss0) := by
        have e := (if_neg (fun z => c2' z.1.2) : oPl B t x (d, (so, bo, st, ro, sp0, hd0, pu0), le0, wr0, ss0) = (true, plD B (so, bo, st, ro, sp0, hd0, pu0) d t, bPlace B (so, bo, st, ro, sp0, hd0, pu0) t x, plL B (so, bo, st, ro, sp0, hd0, pu0) t le0, plW B (so, bo, st, ro, sp0, hd0, pu0) t wr0, ss0))
        refine e.trans ?_
        have p1 : plD B (so, bo, st, ro, sp0, hd0, pu0) d t = d := if_neg (fun z => c2' z.2)
        have p2 : plL B (so, bo, st, ro, sp0, hd0, pu0) t le0 = le0 := if_neg (fun z => c2' z.2)
        have p3 : plW B (so, bo, st, ro, sp0, hd0, pu0) t wr0 = wr0 := if_neg (fun z => c2' z.2)
        rw [p1, p2, p3]
      have ep : bPlace B (so, bo, st, ro, sp0, hd0, pu0) t x = (upd so t (nI (bLeast st (B - 1))), upd bo (bLeast st (B - 1)) (nI t), upd st (bLeast st (B - 1)) (nI (sp0 + 1)), va_up ro (bLeast st (B - 1)) (va_cpy x (ro (bLeast st (B - 1))) 0 0 128), sp0 + 1, hd0 + 1, pu0) := (if_pos c1').trans (if_neg c2')
      rw [ea, eo]
      refine ⟨rfl, cd, ?_, dk, hpo, BsOk.new bs, rfl, rfl, rfl⟩
      rw [ep]
      refine ⟨rfl, rfl, rfl, ?_⟩
      refine Bl.seat hN b2 (fun u hu _ => hb u hu) hsl (fun u hu hne2 z => ?_)
      rcases hb u hu with ⟨q1, q2⟩ | ⟨s, q, q1, q2, q3, q4, q5⟩
      · exact nI_m1 (by omega) (z.symm.trans q1)
      · have es : s = bLeast st (B - 1) := nI_inj (by omega) (by omega) (q2.symm.trans z)
        subst es
        have hq : q < sp0 := bs.1 u q _ hu q5
        exact c2' (by rw [q3]; exact nI_pos1 (by have : sp0 < 2 ^ 31 := b4; omega))
  · -- it is there already
    have c1' : ¬ so t = -1 := fun z => c1 (hnone.mp z)
    have ea : aPl N B t (nr x) (D, (bf, hd0, sp0, pu0), le0, wr0, ss0) = (true, D, (bSet bf t (some (sp0, nr x)), hd0, sp0 + 1, pu0), le0, wr0, ss0) := by
      show (if bf t = none then _ else _) = _
      rw [if_neg c1]
    have eo : oPl B t x (d, (so, bo, st, ro, sp0, hd0, pu0), le0, wr0, ss0) = (true, d, bPlace B (so, bo, st, ro, sp0, hd0, pu0) t x, le0, wr0, ss0) := by
      have e := (if_neg (fun z => c1' z.1.1) : oPl B t x (d, (so, bo, st, ro, sp0, hd0, pu0), le0, wr0, ss0) = (true, plD B (so, bo, st, ro, sp0, hd0, pu0) d t, bPlace B (so, bo, st, ro, sp0, hd0, pu0) t x, plL B (so, bo, st, ro, sp0, hd0, pu0) t le0, plW B (so, bo, st, ro, sp0, hd0, pu0) t wr0, ss0))
      refine e.trans ?_
      have p1 : plD B (so, bo, st, ro, sp0, hd0, pu0) d t = d := if_neg (fun z => c1' z.1)
      have p2 : plL B (so, bo, st, ro, sp0, hd0, pu0) t le0 = le0 := if_neg (fun z => c1' z.1)
      have p3 : plW B (so, bo, st, ro, sp0, hd0, pu0) t wr0 = wr0 := if_neg (fun z => c1' z.1)
      rw [p1, p2, p3]
    rcases hb t ht with ⟨q1, q2⟩ | ⟨s, q, q1, q2, q3, q4, q5⟩
    · exact absurd q1 c1'
    · have ep : bPlace B (so, bo, st, ro, sp0, hd0, pu0) t x = (so, bo, upd st s (nI (sp0 + 1)), va_up ro s (va_cpy x (ro s) 0 0 128), sp0 + 1, hd0, pu0) := by
        refine (if_neg c1').trans ?_
        show bTail (so, bo, st, ro, sp0, hd0, pu0) (so t).toNatClampNeg x = _
        rw [q2, nI_clamp (by omega)]
        rfl
      rw [ea, eo]
      refine ⟨rfl, cd, ?_, dk, hpo, BsOk.new bs, rfl, rfl, rfl⟩
      rw [ep]
      refine ⟨rfl, rfl, rfl, ?_⟩
      have hs := Bl.seat (x := x) (sp := sp0) hN b2 (fun u hu (_ : u ≠ t) => hb u hu) q1 (fun u hu hne2 z => by
        rcases hb u hu with ⟨r1, r2⟩ | ⟨s', r, r1, r2, r3, r4, r5⟩
        · exact nI_m1 (by omega) (z.symm.trans r1)
        · have es : s' = s := nI_inj (by omega) (by omega) (r2.symm.trans z)
          subst es
          rw [q4] at r4
          exact hne2 (nI_inj (by omega) (by omega) r4).symm)
      rw [upd_id q2, upd_id q4] at hs
      exact hs
end MDC
