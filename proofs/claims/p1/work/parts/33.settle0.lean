/-! ===== settling, as a value ===== -/
section GLM
theorem bNext_spec (bo st : Nat → Int32) (x : Int32) : ∀ j, bNext bo st x j = -1 ∨ ∃ s, s < j ∧ 0 < st s ∧ bNext bo st x j = bo s
  | 0 => Or.inl rfl
  | j + 1 => by
    unfold bNext
    split
    · next h => exact Or.inr ⟨j, Nat.lt_succ_self j, h.1, rfl⟩
    · rcases bNext_spec bo st x j with h | ⟨s, h1, h2, h3⟩
      · exact Or.inl h
      · exact Or.inr ⟨s, Nat.lt_succ_of_lt h1, h2, h3⟩
theorem bDrop_ok {N B : Nat} (hN : N ≤ 1024) {b : BfT} {s : Nat} (h : bOk N B b) (hs : s < B) (hp : 0 < b.2.2.1 s) : bOk N B (bDrop b s) := by
  obtain ⟨so, bo, st, ro, sp, hd, pu⟩ := b
  obtain ⟨o1, o2, o3, o4, o5, o6, o7, o8⟩ := h
  have hp : 0 < st s := hp
  obtain ⟨t, ht, hb, hq⟩ := o5 s hs
  have hq := hq hp
  have hbc : (bo s).toNatClampNeg = t := by rw [hb]; exact nI_clamp (by omega)
  show bOk N B (upd so (bo s).toNatClampNeg (-1), bo, upd st s 0, ro, sp, hd - 1, pu)
  rw [hbc]
  refine ⟨o1, o2, ?_, o4, fun s' hs' => ?_, fun t' ht' => ?_, o7, fun s' hs' => ?_⟩
  · have q := bCnt_upd st s 0 B hs
    rw [if_pos hp, if_neg (by decide)] at q
    have o3 : hd = bCnt st B := o3
    show hd - 1 = bCnt (upd st s 0) B
    omega
  · obtain ⟨t', ht', hb', hq'⟩ := o5 s' hs'
    refine ⟨t', ht', hb', fun hpos => ?_⟩
    have hpos : 0 < upd st s 0 s' := hpos
    by_cases e : s' = s
    · rw [e, pk_us] at hpos
      exact absurd hpos (by decide)
    · rw [pk_un e] at hpos
      have hq' := hq' hpos
      have hne : t' ≠ t := by
        intro z
        rw [z, hq] at hq'
        exact e ((nI_eq (by omega) (by omega)).mp hq'.symm)
      show upd so t (-1) t' = nI s'
      rw [pk_un hne]
      exact hq'
  · by_cases e : t' = t
    · left
      rw [e]
      exact pk_us
    · show upd so t (-1) t' = -1 ∨ _
      rw [pk_un e]
      rcases o6 t' ht' with z | ⟨s', hs', z1, z2, z3⟩
      · exact Or.inl z
      · have e2 : s' ≠ s := by
          intro q
          rw [q, hb] at z3
          exact e ((nI_eq (by omega) (by omega)).mp z3.symm)
        exact Or.inr ⟨s', hs', z1, by show 0 < upd st s 0 s'; rw [pk_un e2]; exact z2, z3⟩
  · show 0 ≤ upd st s 0 s'
    by_cases e : s' = s
    · rw [e, pk_us]
      decide
    · rw [pk_un e]
      exact o8 s' hs'
/-- all that are held are written, by rising numbers; false: the power failed -/
def seRun (B : Nat) : Nat → Int32 → DkT → BfT → Int32 → Int32 → Bool × DkT × BfT × Int32 × Int32
  | 0, _, d, b, le, wr => (true, d, b, le, wr)
  | n + 1, x, d, b, le, wr => if x = -1 then (true, d, b, le, wr) else if le = 0 then (false, d, b, le, wr) else
      let s := (b.1 x.toNatClampNeg).toNatClampNeg
      seRun B n (bNext (bDrop b s).2.1 (bDrop b s).2.2.1 x B) (dWrite d x.toNatClampNeg (b.2.2.2.1 s)) (bDrop b s) (if 0 < le then le - 1 else le) (wr + 1)
/-- a settle: the run, then the sync -/
def seAll (B : Nat) (d : DkT) (b : BfT) (le wr : Int32) : Bool × DkT × BfT × Int32 × Int32 := seRun B b.2.2.2.2.2.1 (bNext b.2.1 b.2.2.1 (-1) B) d b le wr
/-- the block that comes next is held, or there is none -/
def bHas (B : Nat) (b : BfT) (x : Int32) : Prop := x = -1 ∨ ∃ s, s < B ∧ 0 < b.2.2.1 s ∧ x = b.2.1 s
theorem seRun_ok {N B : Nat} (hN : N ≤ 1024) : ∀ (n : Nat) (x : Int32) (d : DkT) (b : BfT) (le wr : Int32), dOk N d → bOk N B b → bHas B b x → dOk N (seRun B n x d b le wr).2.1 ∧ bOk N B (seRun B n x d b le wr).2.2.1
  | 0, x, d, b, le, wr, hd, hb, _ => ⟨hd, hb⟩
  | n + 1, x, d, b, le, wr, hd, hb, hx => by
    unfold seRun
    split
    · exact ⟨hd, hb⟩
    · next hm =>
      split
      · exact ⟨hd, hb⟩
      · obtain ⟨so, bo, st, ro, sp, h, pu⟩ := b
        obtain ⟨s, hs, hp, hxb⟩ := hx.resolve_left hm
        have hp : 0 < st s := hp
        have hxb : x = bo s := hxb
        obtain ⟨o1, o2, o3, o4, o5, o6, o7, o8⟩ := id hb
        obtain ⟨t, ht, hbt, hq⟩ := o5 s hs
        have e1 : x.toNatClampNeg = t := by rw [hxb, hbt]; exact nI_clamp (by omega)
        have e2 : ((so, bo, st, ro, sp, h, pu) : BfT).1 x.toNatClampNeg = nI s := by rw [e1]; exact hq hp
        have e3 : (((so, bo, st, ro, sp, h, pu) : BfT).1 x.toNatClampNeg).toNatClampNeg = s := by rw [e2]; exact nI_clamp (by omega)
        have e4 : (so t).toNatClampNeg = s := by rw [hq hp]; exact nI_clamp (by omega)
        simp only [e1, e4]
        refine seRun_ok hN n _ _ _ _ _ (dWrite_ok hN hd ht (o7 s)) (bDrop_ok hN hb hs hp) ?_
        rcases bNext_spec (bDrop (so, bo, st, ro, sp, h, pu) s).2.1 (bDrop (so, bo, st, ro, sp, h, pu) s).2.2.1 x B with z | ⟨s2, z1, z2, z3⟩
        · exact Or.inl z
        · exact Or.inr ⟨s2, z1, z2, z3⟩
end GLM
