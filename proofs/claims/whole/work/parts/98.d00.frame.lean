/-! ===== the class's one value by modules; its hardware stands for the model's ===== -/
section CFG
/-- the module of a key: 0 disk and buffer, 1 log, 2 queue, 3 view, 4 holders, 5 nodes, 6 files, 7 checker, 8 paths, 9 the rest -/
def md : Nat → Nat := fun k => if k < 13 ∧ 2 ≤ k then 0 else if 13 ≤ k ∧ k < 17 then 1 else if 17 ≤ k ∧ k < 25 then 2 else if 25 ≤ k ∧ k < 32 then 3 else if 32 ≤ k ∧ k < 37 then 4 else if 37 ≤ k ∧ k < 40 then 5 else if 40 ≤ k ∧ k < 44 then 6 else if 44 ≤ k ∧ k < 47 then 7 else if 47 ≤ k ∧ k < 53 then 8 else 9
def rmd : Nat → Nat := fun m => if m = 2 then 3 else if m = 4 then 2 else 0
/-- nothing changed but in the modules of L -/
def Sm (L : List Nat) (C C' : CfT) : Prop := (∀ j, md (j / 100) ∉ L → C'.1 j = C.1 j) ∧ (∀ k, md k ∉ L → C'.2.1 k = C.2.1 k) ∧ ∀ m, rmd m ∉ L → C'.2.2 m = C.2.2 m
theorem Sm.rf {L : List Nat} {C : CfT} : Sm L C C := ⟨fun _ _ => rfl, fun _ _ => rfl, fun _ _ => rfl⟩
theorem Sm.wk {L L' : List Nat} {C C' : CfT} (h : Sm L C C') (hl : ∀ m, m ∈ L → m ∈ L') : Sm L' C C' := ⟨fun j q => h.1 j (fun z => q (hl _ z)), fun j q => h.2.1 j (fun z => q (hl _ z)), fun j q => h.2.2 j (fun z => q (hl _ z))⟩
theorem Sm.tr {L : List Nat} {C C' C2 : CfT} (h : Sm L C C') (h2 : Sm L C' C2) : Sm L C C2 := ⟨fun j q => (h2.1 j q).trans (h.1 j q), fun j q => (h2.2.1 j q).trans (h.2.1 j q), fun j q => (h2.2.2 j q).trans (h.2.2 j q)⟩
theorem Sm.s {L : List Nat} {C : CfT} {j : Nat} {v : Int32} (h : md (j / 100) ∈ L) : Sm L C (sS C j v) := ⟨fun i q => pk_un (fun e => q (by rw [e]; exact h)), fun _ _ => rfl, fun _ _ => rfl⟩
theorem Sm.a {L : List Nat} {C : CfT} {k : Nat} {v : Nat → Int32} (h : md k ∈ L) : Sm L C (sA C k v) := ⟨fun _ _ => rfl, fun i q => if_neg (fun e => q (by rw [e]; exact h)), fun _ _ => rfl⟩
theorem Sm.r {L : List Nat} {C : CfT} {m j : Nat} {v : Nat → Int32} (h : rmd m ∈ L) : Sm L C (sR C m j v) := ⟨fun _ _ => rfl, fun _ _ => rfl, fun i q => if_neg (fun e => q (by rw [e]; exact h))⟩
theorem Sm.db {C : CfT} {on : Int32} {s : DbS} : Sm [0] C (cDb C on s) := by
  obtain ⟨⟨w, la, bo, sy, va, a, n⟩, ⟨so, bb, st, ro, sp, hd, pu⟩, le, wr, ss⟩ := s
  refine ⟨fun j q => ?_, fun k q => ?_, fun m q => ?_⟩
  · have z : ∀ i, md (i / 100) = 0 → ¬ j = i := fun i hi e => q (by rw [e, hi]; exact List.mem_cons_self)
    show (if j = 206 then nI a else if j = 207 then nI n else if j = 208 then on else if j = 209 then le else if j = 210 then wr else if j = 211 then ss else if j = 805 then nI sp else if j = 806 then nI hd else if j = 807 then pu else C.1 j) = C.1 j
    rw [if_neg (z 206 (by decide)), if_neg (z 207 (by decide)), if_neg (z 208 (by decide)), if_neg (z 209 (by decide)), if_neg (z 210 (by decide)), if_neg (z 211 (by decide)), if_neg (z 805 (by decide)), if_neg (z 806 (by decide)), if_neg (z 807 (by decide))]
  · have z : ∀ i, md i = 0 → ¬ k = i := fun i hi e => q (by rw [e, hi]; exact List.mem_cons_self)
    show (if k = 3 then w else if k = 6 then la else if k = 7 then bo else if k = 10 then so else if k = 11 then bb else if k = 12 then st else C.2.1 k) = C.2.1 k
    rw [if_neg (z 3 (by decide)), if_neg (z 6 (by decide)), if_neg (z 7 (by decide)), if_neg (z 10 (by decide)), if_neg (z 11 (by decide)), if_neg (z 12 (by decide))]
  · have z : ∀ i, rmd i = 0 → ¬ m = i := fun i hi e => q (by rw [e, hi]; exact List.mem_cons_self)
    show (if m = 0 then va else if m = 1 then sy else if m = 3 then ro else C.2.2 m) = C.2.2 m
    rw [if_neg (z 0 (by decide)), if_neg (z 1 (by decide)), if_neg (z 3 (by decide))]
/-- the class's hardware: on (1) or without power (0) -/
def HwR (N B : Nat) (on : Int32) (h : Hw) (C : CfT) : Prop := dbN C ∧ CH N B h (dbOf C) ∧ cS C 208 = on
def hFl (h : Hw) : Hw := (h.1, h.2.1, -1, h.2.2.2.1, h.2.2.2.2)
theorem CH.rg {N B : Nat} {h : Hw} {s : DbS} (c : CH N B h s) : s.1.2.2.2.2.2.1 < 2 ^ 31 ∧ s.1.2.2.2.2.2.2 < 2 ^ 31 ∧ s.2.1.2.2.2.2.1 < 2 ^ 31 ∧ s.2.1.2.2.2.2.2.1 < 2 ^ 31 := by
  obtain ⟨D, ⟨bf, hd0, sp0, pu0⟩, le0, wr0, ss0⟩ := h
  obtain ⟨⟨w, la, bo, sy, va, a, n⟩, ⟨so, bb, st, ro, sp, hd, pu⟩, le, wr, ss⟩ := s
  obtain ⟨cd, cb, dk, bk, bs, q⟩ := c
  obtain ⟨d1, d2, d3⟩ := dk
  obtain ⟨b1, b2, b3, b4, b5⟩ := bk
  have := bCnt_le st B
  refine ⟨?_, ?_, b4, ?_⟩
  · show a < 2 ^ 31
    omega
  · show n < 2 ^ 31
    omega
  · show hd < 2 ^ 31
    omega
theorem CH.ok {N B m : Nat} {h : Hw} {s : DbS} (c : CH N B h s) (hm : h.2.1.2.2.1 + m < 2 ^ 31) : dbOk N B m s := by
  obtain ⟨D, ⟨bf, hd0, sp0, pu0⟩, le0, wr0, ss0⟩ := h
  obtain ⟨⟨w, la, bo, sy, va, a, n⟩, ⟨so, bb, st, ro, sp, hd, pu⟩, le, wr, ss⟩ := s
  obtain ⟨cd, ⟨c1, c2, c3⟩, dk, bk, bs, q⟩ := c
  refine ⟨dk, bk, ?_⟩
  have e : sp0 = sp := c2
  show sp + m < 2 ^ 31
  rw [← e]
  exact hm
theorem CH.dark {N B : Nat} {h : Hw} {s : DbS} (c : CH N B h s) : CH N B (hFl h) (s.1, s.2.1, -1, s.2.2.2.1, s.2.2.2.2) := by
  obtain ⟨D, ⟨bf, hd0, sp0, pu0⟩, le0, wr0, ss0⟩ := h
  obtain ⟨d, b, le, wr, ss⟩ := s
  obtain ⟨cd, cb, dk, bk, bs, q1, q2, q3⟩ := c
  exact ⟨cd, cb, dk, bk, bs, rfl, q2, q3⟩
theorem HwR.of {N B : Nat} {on : Int32} {h : Hw} {s : DbS} {C : CfT} (c : CH N B h s) : HwR N B on h (cDb C on s) := by
  obtain ⟨r1, r2, r3, r4⟩ := c.rg
  refine ⟨dbN_cDb r1 r2 r3 r4, ?_, ?_⟩
  · rw [dbOf_cDb r1 r2 r3 r4]
    exact c
  · obtain ⟨⟨w, la, bo, sy, va, a, n⟩, ⟨so, bb, st, ro, sp, hd, pu⟩, le, wr, ss⟩ := s
    rfl
theorem HwR.sm {N B : Nat} {on : Int32} {h : Hw} {C C' : CfT} {L : List Nat} (c : HwR N B on h C) (hs : Sm L C C') (hL : 0 ∉ L) : HwR N B on h C' := by
  obtain ⟨c1, c2, c3⟩ := c
  obtain ⟨s1, s2, s3⟩ := hs
  have e : dbOf C' = dbOf C := by
    unfold dbOf dkOf bfOf cA cR cS
    rw [s2 3 hL, s2 6 hL, s2 7 hL, s3 1 hL, s3 0 hL, s1 206 hL, s1 207 hL, s2 10 hL, s2 11 hL, s2 12 hL, s3 3 hL, s1 805 hL, s1 806 hL, s1 807 hL, s1 209 hL, s1 210 hL, s1 211 hL]
  refine ⟨?_, by rw [e]; exact c2, (s1 208 hL).trans c3⟩
  obtain ⟨n1, n2, n3, n4⟩ := c1
  exact ⟨by rw [show cS C' 206 = cS C 206 from s1 206 hL]; exact n1, by rw [show cS C' 207 = cS C 207 from s1 207 hL]; exact n2, by rw [show cS C' 805 = cS C 805 from s1 805 hL]; exact n3, by rw [show cS C' 806 = cS C 806 from s1 806 hL]; exact n4⟩
/-- the world of the class in which `R` holds of its value -/
def Kp (E : gE) (N B gr : Nat) (R : CfT → Prop) (g : Nat → va_E) : Prop := ∃ C, CfV E g N B gr C ∧ R C
/-- an outcome by the model: it went on, or the power failed -/
def Rs (E : gE) (N B gr : Nat) (f : Nat → va_E) (o : Bool × Hw) (R : CfT → Prop) : gQ := (fun v g => v = none ∧ o.1 = true ∧ (∃ C', CfV E g N B gr C' ∧ HwR N B 1 o.2 C' ∧ R C') ∧ Fr CfK f g, fun X g => X = "java/lang/UnsupportedOperationException" ∧ o.1 = false ∧ (∃ C', CfV E g N B gr C' ∧ HwR N B 0 (hFl o.2) C' ∧ R C') ∧ Fr CfK f g)
theorem r_pl (E : gE) (f : Nat → va_E) (N B gr : Nat) (C : CfT) (hz : CfZ E N B gr) (h : CfV E f N B gr C) (hw : Hw) (hh : HwR N B 1 hw C) (hm : hw.2.1.2.2.1 + 1 < 2 ^ 31) (t kv : Nat) (x : Nat → Int32) (ht : t < N) (hk : kv < gN E) (hv : f kv = oB (gDA E) 128 x) (hx : Byt x) (hkv : ¬ DBK N B kv) : Ct E 8 yX0_place cX0_place 4 none [.ref (gAd E (8)), .int (nI t), .ref (gAd E (kv))] f (Rs E N B gr f (aPl N B t (nr x) hw) (Sm [0] C)) := by
  obtain ⟨z1, z2, z3, z4, z5, z6, z7⟩ := id hz
  obtain ⟨h1, h2, h3⟩ := hh
  have hsp : (dbOf C).2.1.2.2.2.2.1 + 1 < 2 ^ 31 := (h2.ok hm).2.2
  obtain ⟨p1, p2⟩ := CH.pl z2 h2 ht hx hsp
  refine (k_pl E f N B gr C hz h h1 1 (h2.ok hm) t kv x ht hk hv hx hkv).mono (fun v g q => ?_) (fun X g q => ?_)
  · obtain ⟨q1, q2, q3, q4⟩ := q
    rw [h3] at q3
    exact ⟨q1, p1.trans q2, ⟨_, q3, HwR.of p2, Sm.db⟩, q4⟩
  · obtain ⟨q1, q2, q3, q4⟩ := q
    exact ⟨q1, p1.trans q2, ⟨_, q3, HwR.of p2.dark, Sm.db⟩, q4⟩
theorem r_se (E : gE) (f : Nat → va_E) (N B gr : Nat) (C : CfT) (hz : CfZ E N B gr) (h : CfV E f N B gr C) (hw : Hw) (hh : HwR N B 1 hw C) : Ct E 8 yX0_settle cX0_settle 3 none [.ref (gAd E (8))] f (Rs E N B gr f (aSe N hw) (fun C' => Sm [0] C C')) := by
  obtain ⟨z1, z2, z3, z4, z5, z6, z7⟩ := id hz
  obtain ⟨h1, h2, h3⟩ := hh
  obtain ⟨p1, p2, p3⟩ := CH.se z2 h2
  refine (k_se E f N B gr C hz h h1 0 (h2.ok (by have := h2.rg.2.2.1; obtain ⟨D, ⟨bf, hd0, sp0, pu0⟩, le0, wr0, ss0⟩ := hw; have e : sp0 = (dbOf C).2.1.2.2.2.2.1 := h2.2.1.2.1; show sp0 + 0 < 2 ^ 31; rw [e]; exact this))).mono (fun v g q => ?_) (fun X g q => ?_)
  · obtain ⟨q1, q2, q3, q4⟩ := q
    rw [h3] at q3
    exact ⟨q1, p1.trans q2, ⟨_, q3, HwR.of p2, Sm.db⟩, q4⟩
  · obtain ⟨q1, q2, q3, q4⟩ := q
    exact ⟨q1, p1.trans q2, ⟨_, q3, HwR.of p2.dark, Sm.db⟩, q4⟩
/-- nothing of block u waits: its value lies in what is synced -/
theorem CDk.la {N : Nat} {D : Dk0} {d : DkT} {u : Nat} (hN : N ≤ 1024) (h : CDk N D d) (hu : u < N) (hn : ∀ p ∈ D.2, p.1 ≠ u) : d.2.1 u = -1 := by
  obtain ⟨w, la, bo, sy, va, a, n⟩ := d
  have hb := h.1.bb hN
  obtain ⟨h1, h2, h3, h4, h5, h6⟩ := h.1
  rcases h6 u hu with ⟨e, _⟩ | ⟨i, hi, e, hbi, _⟩
  · exact e
  · refine absurd (show (u, nr (va ((a + i) % 256))) ∈ D.2 from ?_) (fun z => hn _ z rfl)
    rw [h4]
    unfold rgL
    exact List.mem_map.mpr ⟨i, List.mem_range.mpr hi, by rw [hbi, nI_clamp (by omega)]⟩
theorem r_plS (E : gE) (f : Nat → va_E) (N B gr : Nat) (C : CfT) (hz : CfZ E N B gr) (h : CfV E f N B gr C) (hw : Hw) (hh : HwR N B 1 hw C) (hm : hw.2.1.2.2.1 + 2 < 2 ^ 31) (t u : Nat) (ht : t < N) (hu : u < N) (hn : ∀ p ∈ hw.1.2, p.1 ≠ u) : Ct E 8 yX0_place cX0_place 4 none [.ref (gAd E (8)), .int (nI t), .ref (gAd E (350 + u))] f (Rs E N B gr f (aPl N B t (hw.1.1 u) hw) (Sm [0] C)) := by
  obtain ⟨z1, z2, z3, z4, z5, z6, z7⟩ := id hz
  obtain ⟨h1, h2, h3⟩ := hh
  have hsp : (dbOf C).2.1.2.2.2.2.1 + 1 < 2 ^ 31 := by have : (dbOf C).2.1.2.2.2.2.1 + 2 < 2 ^ 31 := (h2.ok hm).2.2; omega
  have hD : CDk N hw.1 (dkOf C) := h2.1
  have hdo : dOk N (dkOf C) := h2.2.2.1
  have hx : Byt (cR C 1 u) := hdo.2.2.2.1 u
  have hy : hw.1.1 u = nr (cR C 1 u) := hD.1.2.2.1 u hu
  rw [hy]
  obtain ⟨p1, p2⟩ := CH.pl (x := cR C 1 u) z2 h2 ht hx hsp
  refine (k_plS E f N B gr C hz h h1 1 (h2.ok hm) t u ht hu (hD.la z2 hu hn) hx hD).mono (fun v g q => ?_) (fun X g q => ?_)
  · obtain ⟨q1, q2, q3, q4⟩ := q
    rw [h3] at q3
    exact ⟨q1, p1.trans q2, ⟨_, q3, HwR.of p2, Sm.db⟩, q4⟩
  · obtain ⟨q1, q2, q3, q4⟩ := q
    exact ⟨q1, p1.trans q2, ⟨_, q3, HwR.of p2.dark, Sm.db⟩, q4⟩
end CFG
