/-! ===== disk and buffer of the class, out of its one value and back into it ===== -/
section CFD
def dkOf (C : CfT) : DkT := (cA C 3, cA C 6, cA C 7, cR C 1, cR C 0, (cS C 206).toNatClampNeg, (cS C 207).toNatClampNeg)
def bfOf (C : CfT) : BfT := (cA C 10, cA C 11, cA C 12, cR C 3, (cS C 805).toNatClampNeg, (cS C 806).toNatClampNeg, cS C 807)
def dbOf (C : CfT) : DbS := (dkOf C, bfOf C, cS C 209, cS C 210, cS C 211)
/-- its numbers that are no numbers below 0 -/
def dbN (C : CfT) : Prop := ¬ cS C 206 < 0 ∧ ¬ cS C 207 < 0 ∧ ¬ cS C 805 < 0 ∧ ¬ cS C 806 < 0
def cDb (C : CfT) (on : Int32) : DbS → CfT := fun ((w, la, bo, sy, va, a, n), (so, bb, st, ro, sp, hd, pu), le, wr, ss) =>
  (fun j => if j = 206 then nI a else if j = 207 then nI n else if j = 208 then on else if j = 209 then le else if j = 210 then wr else if j = 211 then ss else if j = 805 then nI sp else if j = 806 then nI hd else if j = 807 then pu else C.1 j,
   fun k => if k = 3 then w else if k = 6 then la else if k = 7 then bo else if k = 10 then so else if k = 11 then bb else if k = 12 then st else C.2.1 k,
   fun m => if m = 0 then va else if m = 1 then sy else if m = 3 then ro else C.2.2 m)
theorem nI_cl {x : Int32} (h : ¬ x < 0) : x = nI x.toNatClampNeg := by
  obtain ⟨t, ht, e⟩ := nI_of h
  rw [e, nI_clamp ht]
variable {E : gE} {f g : Nat → va_E} {N B gr : Nat} {C : CfT}
theorem CfV.db (h : CfV E f N B gr C) (hn : dbN C) : DBV E f N B (cS C 208) (dbOf C) := by
  obtain ⟨n1, n2, n3, n4⟩ := hn
  refine ⟨⟨?_, h.q3, h.q4, h.q5, h.q6, h.q7, h.r0, h.r1⟩, ⟨?_, h.q9, h.q10, h.q11, h.q12, h.r3⟩⟩
  · have q := h.q2
    rw [nI_cl n1, nI_cl n2] at q
    exact q
  · have q := h.q8
    rw [nI_cl n3, nI_cl n4] at q
    exact q
theorem CfV.ofDb (h : CfV E f N B gr C) {on : Int32} {s : DbS} (hs : DBV E g N B on s) (hf : Fr (DBK N B) f g) : CfV E g N B gr (cDb C on s) := by
  obtain ⟨⟨w, la, bo, sy, va, a, n⟩, ⟨so, bb, st, ro, sp, hd, pu⟩, le, wr, ss⟩ := s
  obtain ⟨⟨d2, d3, d4, d5, d6, d7, hv, hw⟩, ⟨e8, e9, e10, e11, e12, hb⟩⟩ := hs
  exact ⟨(hf 0 (fun q => by unfold DBK DkK BfK at q; omega)).trans h.q0, (hf 1 (fun q => by unfold DBK DkK BfK at q; omega)).trans h.q1, (hf 53 (fun q => by unfold DBK DkK BfK at q; omega)).trans h.q53, (hf 54 (fun q => by unfold DBK DkK BfK at q; omega)).trans h.q54, (hf 55 (fun q => by unfold DBK DkK BfK at q; omega)).trans h.q55, (hf 47 (fun q => by unfold DBK DkK BfK at q; omega)).trans h.q47, (hf 48 (fun q => by unfold DBK DkK BfK at q; omega)).trans h.q48, (hf 49 (fun q => by unfold DBK DkK BfK at q; omega)).trans h.q49, (hf 50 (fun q => by unfold DBK DkK BfK at q; omega)).trans h.q50, (hf 51 (fun q => by unfold DBK DkK BfK at q; omega)).trans h.q51, (hf 52 (fun q => by unfold DBK DkK BfK at q; omega)).trans h.q52, d2, d6, d5, hv, d7, d3, d4, hw, e8, e10, e9, hb, e11, e12, (hf 13 (fun q => by unfold DBK DkK BfK at q; omega)).trans h.q13, (hf 16 (fun q => by unfold DBK DkK BfK at q; omega)).trans h.q16, (hf 14 (fun q => by unfold DBK DkK BfK at q; omega)).trans h.q14, (hf 15 (fun q => by unfold DBK DkK BfK at q; omega)).trans h.q15, (hf 17 (fun q => by unfold DBK DkK BfK at q; omega)).trans h.q17, (hf 20 (fun q => by unfold DBK DkK BfK at q; omega)).trans h.q20, (hf 21 (fun q => by unfold DBK DkK BfK at q; omega)).trans h.q21, (hf 18 (fun q => by unfold DBK DkK BfK at q; omega)).trans h.q18, fun i hi => (hf _ (fun q => by unfold DBK DkK BfK at q; omega)).trans (h.r4 i hi), (hf 19 (fun q => by unfold DBK DkK BfK at q; omega)).trans h.q19, (hf 22 (fun q => by unfold DBK DkK BfK at q; omega)).trans h.q22, (hf 23 (fun q => by unfold DBK DkK BfK at q; omega)).trans h.q23, (hf 24 (fun q => by unfold DBK DkK BfK at q; omega)).trans h.q24, (hf 25 (fun q => by unfold DBK DkK BfK at q; omega)).trans h.q25, (hf 30 (fun q => by unfold DBK DkK BfK at q; omega)).trans h.q30, (hf 31 (fun q => by unfold DBK DkK BfK at q; omega)).trans h.q31, (hf 26 (fun q => by unfold DBK DkK BfK at q; omega)).trans h.q26, fun i hi => (hf _ (fun q => by unfold DBK DkK BfK at q; omega)).trans (h.r2 i hi), (hf 27 (fun q => by unfold DBK DkK BfK at q; omega)).trans h.q27, (hf 28 (fun q => by unfold DBK DkK BfK at q; omega)).trans h.q28, (hf 29 (fun q => by unfold DBK DkK BfK at q; omega)).trans h.q29, (hf 32 (fun q => by unfold DBK DkK BfK at q; omega)).trans h.q32, (hf 33 (fun q => by unfold DBK DkK BfK at q; omega)).trans h.q33, (hf 34 (fun q => by unfold DBK DkK BfK at q; omega)).trans h.q34, (hf 35 (fun q => by unfold DBK DkK BfK at q; omega)).trans h.q35, (hf 36 (fun q => by unfold DBK DkK BfK at q; omega)).trans h.q36, (hf 37 (fun q => by unfold DBK DkK BfK at q; omega)).trans h.q37, (hf 38 (fun q => by unfold DBK DkK BfK at q; omega)).trans h.q38, (hf 39 (fun q => by unfold DBK DkK BfK at q; omega)).trans h.q39, (hf 40 (fun q => by unfold DBK DkK BfK at q; omega)).trans h.q40, (hf 41 (fun q => by unfold DBK DkK BfK at q; omega)).trans h.q41, (hf 42 (fun q => by unfold DBK DkK BfK at q; omega)).trans h.q42, (hf 43 (fun q => by unfold DBK DkK BfK at q; omega)).trans h.q43, (hf 44 (fun q => by unfold DBK DkK BfK at q; omega)).trans h.q44, (hf 46 (fun q => by unfold DBK DkK BfK at q; omega)).trans h.q46, (hf 45 (fun q => by unfold DBK DkK BfK at q; omega)).trans h.q45⟩
theorem CfV.ofDx (h : CfV E f N B gr C) {s : DbS} (hs : DBX E g N B s) (hf : Fr (DBK N B) f g) : CfV E g N B gr (cDb C 0 (s.1, s.2.1, -1, s.2.2.2.1, s.2.2.2.2)) := by
  obtain ⟨d, b, le, wr, ss⟩ := s
  exact h.ofDb (s := (d, b, -1, wr, ss)) hs hf
theorem DBK_C {k : Nat} (h : DBK N B k) : CfK k := by
  unfold DBK DkK BfK at h
  unfold CfK
  omega
theorem dbOf_cDb {on : Int32} {s : DbS} (ha : s.1.2.2.2.2.2.1 < 2 ^ 31) (hn : s.1.2.2.2.2.2.2 < 2 ^ 31) (hp : s.2.1.2.2.2.2.1 < 2 ^ 31) (hd : s.2.1.2.2.2.2.2.1 < 2 ^ 31) : dbOf (cDb C on s) = s := by
  obtain ⟨⟨w, la, bo, sy, va, a, n⟩, ⟨so, bb, st, ro, sp, hd0, pu⟩, le, wr, ss⟩ := s
  show ((w, la, bo, sy, va, (nI a).toNatClampNeg, (nI n).toNatClampNeg), (so, bb, st, ro, (nI sp).toNatClampNeg, (nI hd0).toNatClampNeg, pu), le, wr, ss) = _
  rw [nI_clamp ha, nI_clamp hn, nI_clamp hp, nI_clamp hd]
theorem dbN_cDb {on : Int32} {s : DbS} (ha : s.1.2.2.2.2.2.1 < 2 ^ 31) (hn : s.1.2.2.2.2.2.2 < 2 ^ 31) (hp : s.2.1.2.2.2.2.1 < 2 ^ 31) (hd : s.2.1.2.2.2.2.2.1 < 2 ^ 31) : dbN (cDb C on s) := by
  obtain ⟨⟨w, la, bo, sy, va, a, n⟩, ⟨so, bb, st, ro, sp, hd0, pu⟩, le, wr, ss⟩ := s
  exact ⟨nI_nn ha, nI_nn hn, nI_nn hp, nI_nn hd⟩
/-- a value that lies at any key beside disk and buffer is put -/
theorem k_pl (E : gE) (f : Nat → va_E) (N B gr : Nat) (C : CfT) (hz : CfZ E N B gr) (h : CfV E f N B gr C) (hn : dbN C) (m : Nat) (ho : dbOk N B m (dbOf C)) (t kv : Nat) (x : Nat → Int32) (ht : t < N) (hk : kv < gN E) (hv : f kv = oB (gDA E) 128 x) (hx : Byt x) (hkv : ¬ DBK N B kv) : Ct E 8 yX0_place cX0_place 4 none [.ref (gAd E (8)), .int (nI t), .ref (gAd E (kv))] f (fun v g => v = none ∧ (oPl B t x (dbOf C)).1 = true ∧ CfV E g N B gr (cDb C (cS C 208) (oPl B t x (dbOf C)).2) ∧ Fr CfK f g, fun X g => X = "java/lang/UnsupportedOperationException" ∧ (oPl B t x (dbOf C)).1 = false ∧ CfV E g N B gr (cDb C 0 ((oPl B t x (dbOf C)).2.1, (oPl B t x (dbOf C)).2.2.1, -1, (oPl B t x (dbOf C)).2.2.2.2.1, (oPl B t x (dbOf C)).2.2.2.2.2)) ∧ Fr CfK f g) := by
  obtain ⟨z1, z2, z3, z4, z5, z6, z7⟩ := id hz
  refine (c_pl E f N B (dbOf C) (cS C 208) (by omega) z2 (h.db hn) m ho t kv x ht hk hv hx hkv).mono (fun v g q => ?_) (fun X g q => ?_)
  · obtain ⟨q1, q2, q3, q4⟩ := q
    exact ⟨q1, q2, h.ofDb q3 q4, q4.wk (fun _ z => DBK_C z)⟩
  · obtain ⟨q1, q2, q3, q4⟩ := q
    exact ⟨q1, q2, h.ofDx q3 q4, q4.wk (fun _ z => DBK_C z)⟩
theorem k_se (E : gE) (f : Nat → va_E) (N B gr : Nat) (C : CfT) (hz : CfZ E N B gr) (h : CfV E f N B gr C) (hn : dbN C) (m : Nat) (ho : dbOk N B m (dbOf C)) : Ct E 8 yX0_settle cX0_settle 3 none [.ref (gAd E (8))] f (fun v g => v = none ∧ (oSe B (dbOf C)).1 = true ∧ CfV E g N B gr (cDb C (cS C 208) (oSe B (dbOf C)).2) ∧ Fr CfK f g, fun X g => X = "java/lang/UnsupportedOperationException" ∧ (oSe B (dbOf C)).1 = false ∧ CfV E g N B gr (cDb C 0 ((oSe B (dbOf C)).2.1, (oSe B (dbOf C)).2.2.1, -1, (oSe B (dbOf C)).2.2.2.2.1, (oSe B (dbOf C)).2.2.2.2.2)) ∧ Fr CfK f g) := by
  obtain ⟨z1, z2, z3, z4, z5, z6, z7⟩ := id hz
  refine (c_se E f N B (dbOf C) (cS C 208) (by omega) z2 (h.db hn) m ho).mono (fun v g q => ?_) (fun X g q => ?_)
  · obtain ⟨q1, q2, q3, q4⟩ := q
    exact ⟨q1, q2, h.ofDb q3 q4, q4.wk (fun _ z => DBK_C z)⟩
  · obtain ⟨q1, q2, q3, q4⟩ := q
    exact ⟨q1, q2, h.ofDx q3 q4, q4.wk (fun _ z => DBK_C z)⟩
end CFD
