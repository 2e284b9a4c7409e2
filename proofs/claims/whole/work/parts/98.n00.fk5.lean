/-! ===== settle; what count tells ===== -/
section DCK
theorem HwR.num {N B : Nat} {on : Int32} {h : Hw} {C : CfT} (c : HwR N B on h C) : cS C 209 = h.2.2.1 ∧ cS C 210 = h.2.2.2.1 ∧ cS C 211 = h.2.2.2.2 ∧ cS C 807 = h.2.1.2.2.2 ∧ cS C 806 = nI h.2.1.2.1 ∧ cS C 207 = nI h.1.2.length := by
  obtain ⟨⟨n1, n2, n3, n4⟩, c2, -⟩ := c
  obtain ⟨D, ⟨bf, hd, sp, pu⟩, le, wr, ss⟩ := h
  obtain ⟨cd, ⟨c3, c4, c5, c6⟩, dk, bk, bs, q1, q2, q3⟩ := c2
  have e := cd.len
  refine ⟨q1.symm, q2.symm, q3.symm, c5.symm, ?_, ?_⟩
  · show cS C 806 = nI hd
    rw [show hd = (cS C 806).toNatClampNeg from c3]
    exact nI_cl (by assumption)
  · show cS C 207 = nI D.2.length
    rw [show D.2.length = (cS C 207).toNatClampNeg from e]
    exact nI_cl (by assumption)
theorem LgD.se {N B : Nat} {hw : Hw} {L : List En} (h : LgD hw L) (hN : 43 ≤ N) (h40 : L.length ≤ 40) (hp : (aSe N hw).1 = true) : LgD (aSe N hw).2 L := fun k hk => by
  obtain ⟨h1, h2, h3⟩ := h k hk
  obtain ⟨a1, -, -, -, a5⟩ := aSe_all (N := N) (B := B) hw
  exact ⟨Quiet.free (a5 hp) (by omega), (a1 _).trans h2, h3⟩
def fSe (N B gr : Nat) (A : MS) (D : CfT) : Option (FR Unit) := if (aSe N A.1).1 = true then some (.inl ((), ((aSe N A.1).2, A.2), D)) else some (.inr (0, ((aSe N A.1).2, A.2), D))
theorem k_X0_settle (E : gE) (f : Nat → va_E) (N B gr : Nat) (C D : CfT) (A : MS) (hz : CfZ E N B gr) (h : CfV E f N B gr C) (hD : Dq D C) (hA : AR N B gr A C) (r : FR Unit) (hr : fSe N B gr A D = some r) : Ct E 8 yX0_settle cX0_settle 3 none [.ref (gAd E (8))] f (FQ E N B gr f (fun _ => none) r) := by
  obtain ⟨z1, z2, z3, z4, z5, z6, z7⟩ := id hz
  obtain ⟨h1, h2, h3, h4, ⟨en, h5⟩, h6, h7, h8, h9⟩ := id hA
  have q := r_se E f N B gr C hz h A.1 h1
  obtain ⟨a1, a2, a3, a4, a5⟩ := aSe_all (N := N) (B := B) A.1
  unfold fSe at hr
  split at hr
  · next ho =>
    cases hr
    refine q.mono (fun v g q => ?_) (fun X g q => absurd (ho.symm.trans q.2.1) (by decide))
    obtain ⟨e, -, ⟨C1, c1, c2, c4⟩, fr⟩ := q
    have c5 := c4.wk (L' := [0, 1]) (by decide)
    exact FQ.ok e ⟨C1, c1, hD.sm c5 (by decide), hA.hl c5 c2 (a3 h2) (h3.sm c4 (by decide)) (h4.se (B := B) (by omega) h3.2.1 ho), fr⟩
  · next ho =>
    cases hr
    refine q.mono (fun v g q => absurd q.2.1 ho) (fun X g q => ?_)
    obtain ⟨e, -, ⟨C1, c1, c2, c4⟩, fr⟩ := q
    have e15 : cA C1 15 = cA C 15 := c4.2.1 15 (by decide)
    have c5 := (c4.wk (L' := [0, 1]) (by decide)).q
    exact FQ.no e ⟨C1, c1, hD.q c5, hA.dk c5 c2 (by rw [e15]; exact h3.2.2.2.2.2), fr⟩
end DCK
