/-! ===== sync: single blocks are written ===== -/
section DCL
variable {E : gE} {f : Nat → va_E} {N B gr : Nat} {C : CfT}
/-- a block is written (it stays in the buffer yet) -/
def aWb (t : Nat) (y : Rw) (h : Hw) : Bool × Hw := if h.2.2.1 = 0 then (false, h) else (true, aWr h.1 t y, h.2.1, sLe h.2.2.1, h.2.2.2.1 + 1, h.2.2.2.2)
/-- a block leaves the buffer -/
def aDr (t : Nat) (h : Hw) : Hw := (h.1, (bSet h.2.1.1 t none, h.2.1.2.1 - 1, h.2.1.2.2.1, h.2.1.2.2.2), h.2.2)
theorem r_wb (E : gE) (f : Nat → va_E) (N B gr : Nat) (C : CfT) (hz : CfZ E N B gr) (h : CfV E f N B gr C) (hw : Hw) (hh : HwR N B 1 hw C) (t s : Nat) (ht : t < N) (hs : s < B) (y : Rw) (hy : nr (cR C 3 s) = y) : Ct E 7 yX2_writeBlock cX2_writeBlock 4 none [.ref (gAd E (2)), .int (nI t), .ref (gAd E (350 + 2 * N + (s)))] f (Rs E N B gr f (aWb t y hw) (fun C' => Sm [0] C C' ∧ cA C' 10 = cA C 10)) := by
  obtain ⟨z1, z2, z3, z4, z5, z6, z7⟩ := id hz
  obtain ⟨hn, hc, hon⟩ := hh
  obtain ⟨v1, v2⟩ := h.db hn
  obtain ⟨D, b0, le, wr, ss⟩ := hw
  obtain ⟨cd, cb, dk, bk, bs, q1, q2, q3⟩ := id hc
  have hby : Byt (cR C 3 s) := bk.2.2.2.2.2.2.1 s
  subst hy
  rw [hon] at v1
  have q1 : le = cS C 209 := q1
  have q2 : wr = cS C 210 := q2
  have q3 : ss = cS C 211 := q3
  refine (c_X2_writeBlock E f N (dkOf C) 1 _ _ _ (by omega) z2 v1 dk t (350 + 2 * N + s) (cR C 3 s) ht (by omega) (h.r3 s hs) hby (by unfold DkK; omega)).mono (fun v g q => ?_) (fun X g q => ?_)
  · obtain ⟨e1, e2, e3, e4⟩ := q
    have e2 : ¬ le = 0 := by rw [q1]; exact e2
    have eo : aWb t (nr (cR C 3 s)) (D, b0, le, wr, ss) = (true, aWr D t (nr (cR C 3 s)), b0, sLe le, wr + 1, ss) := if_neg e2
    rw [eo]
    have fr : Fr (DBK N B) f g := e4.wk (fun _ z => Or.inl z)
    have cc : CH N B (aWr D t (nr (cR C 3 s)), b0, sLe le, wr + 1, ss) (dWrite (dkOf C) t (cR C 3 s), bfOf C, sLe (cS C 209), cS C 210 + 1, cS C 211) := ⟨cd.write z2 ht, cb, dWrite_ok z2 dk ht hby, bk, bs, by rw [q1], by rw [q2], q3⟩
    have c1 := h.ofDb (s := (dWrite (dkOf C) t (cR C 3 s), bfOf C, sLe (cS C 209), cS C 210 + 1, cS C 211)) (on := 1) ⟨e3, v2.of (fun k hk => e4 k (fun z => by unfold DkK at z; unfold BfK at hk; omega))⟩ fr
    exact ⟨e1, rfl, ⟨_, c1, HwR.of cc, Sm.db, rfl⟩, fr.wk (fun _ z => DBK_C z)⟩
  · obtain ⟨e1, e2, e3, e4⟩ := q
    have e2 : le = 0 := by rw [q1]; exact e2
    have eo : aWb t (nr (cR C 3 s)) (D, b0, le, wr, ss) = (false, D, b0, le, wr, ss) := if_pos e2
    rw [eo]
    have fr : Fr (DBK N B) f g := e4.wk (fun _ z => Or.inl z)
    have cc : CH N B (hFl (D, b0, le, wr, ss)) (dkOf C, bfOf C, -1, cS C 210, cS C 211) := hc.dark
    have c1 := h.ofDb (s := (dkOf C, bfOf C, -1, cS C 210, cS C 211)) (on := 0) ⟨e3, v2.of (fun k hk => e4 k (fun z => by unfold DkK at z; unfold BfK at hk; omega))⟩ fr
    exact ⟨e1, rfl, ⟨_, c1, HwR.of cc, Sm.db, rfl⟩, fr.wk (fun _ z => DBK_C z)⟩
theorem r_drop (E : gE) (f : Nat → va_E) (N B gr : Nat) (C : CfT) (hz : CfZ E N B gr) (h : CfV E f N B gr C) (hw : Hw) (hh : HwR N B 1 hw C) (t s : Nat) (ht : t < N) (hs : s < B) (h10 : cA C 10 t = nI s) : Ct E 1 yX0_drop cX0_drop 2 none [.ref (gAd E (8)), .int (nI s)] f (fun v g => v = none ∧ (∃ C', CfV E g N B gr C' ∧ HwR N B 1 (aDr t hw) C' ∧ Sm [0] C C') ∧ Fr CfK f g, fun _ _ => False) := by
  obtain ⟨z1, z2, z3, z4, z5, z6, z7⟩ := id hz
  obtain ⟨hn, hc, hon⟩ := hh
  obtain ⟨v1, v2⟩ := h.db hn
  obtain ⟨D, ⟨bf, hd, sp, pu⟩, le, wr, ss⟩ := hw
  obtain ⟨cd, cb, dk, bk, bs, q1, q2, q3⟩ := id hc
  have cb0 := cb
  have hb : ∀ u, u < N → Bl B (cA C 10) (cA C 11) (cA C 12) (cR C 3) bf u := cb.2.2.2
  rcases hb t ht with ⟨x1, x2⟩ | ⟨s', q, x1, x2, x3, x4, x5⟩
  · exact absurd (h10.symm.trans x1) (nI_m1 (by omega))
  · have es : s' = s := nI_inj (by omega) (by omega) (x2.symm.trans h10)
    subst es
    have hpos : 0 < cA C 12 s' := cb.st z2 bs bk ht x3 x5
    have hcnt : 1 ≤ (cS C 806).toNatClampNeg := by
      have e3 : (cS C 806).toNatClampNeg = bCnt (cA C 12) B := bk.2.2.1
      rw [e3]
      exact bCnt_pos _ s' hpos B hs
    have bk2 := bDrop_ok z2 bk hs hpos
    have cb2 := CBf.drop z2 z4 cb0 (t := t) (s := s') ht x4
    have bs2 : BsOk N (bSet bf t none, hd - 1, sp, pu) := BsOk.less bs
    refine (c_X0_drop E f N B (bfOf C) (by omega) z2 v2 bk s' hs hcnt).mono (fun v g q => ?_) (fun _ _ q => q)
    obtain ⟨e1, e2, e3⟩ := q
    have fr : Fr (DBK N B) f g := e3.wk (fun _ z => Or.inr z)
    rw [hon] at v1
    have c1 := h.ofDb (s := (dkOf C, bDrop (bfOf C) s', cS C 209, cS C 210, cS C 211)) (on := 1) ⟨v1.of (fun k hk => e3 k (fun z => by unfold BfK at z; unfold DkK at hk; omega)), e2⟩ fr
    have cc : CH N B (D, (bSet bf t none, hd - 1, sp, pu), le, wr, ss) (dkOf C, bDrop (bfOf C) s', cS C 209, cS C 210, cS C 211) := ⟨cd, cb2, dk, bk2, bs2, q1, q2, q3⟩
    exact ⟨e1, ⟨_, c1, HwR.of cc, Sm.db⟩, fr.wk (fun _ z => DBK_C z)⟩
end DCL
def tb_X0_writeOut : List (Nat × Instr × Nat) := [(0, .aload_n 0, 1), (1, .getfield 33, 3), (4, .iload_n 1, 1), (5, .iaload, 1), (6, .iconst (-1), 1), (7, .if_icmp .eq 32, 3), (10, .aload_n 0, 1), (11, .getfield 9, 3), (14, .iload_n 1, 1), (15, .aload_n 0, 1), (16, .getfield 17, 3), (19, .aload_n 0, 1), (20, .getfield 33, 3), (23, .iload_n 1, 1), (24, .iaload, 1), (25, .aaload, 1), (26, .invokevirtual 46, 3), (29, .aload_n 0, 1), (30, .aload_n 0, 1), (31, .getfield 33, 3), (34, .iload_n 1, 1), (35, .iaload, 1), (36, .invokevirtual 50, 3), (39, .return_, 1)]
theorem tv_X0_writeOut : Tv cX0_writeOut tb_X0_writeOut := by
  unfold Tv
  decide +kernel
set_option maxRecDepth 100000 in
set_option maxHeartbeats 4000000 in
theorem k_wo0 (E : gE) (f : Nat → va_E) (N B gr : Nat) (C : CfT) (hz : CfZ E N B gr) (h : CfV E f N B gr C) (b : Nat) (hb : b < N) (o10 : cA C 10 b = -1) : Ct E 8 yX0_writeOut cX0_writeOut 2 none [.ref (gAd E (8)), .int (nI b)] f (fun v g => v = none ∧ CfV E g N B gr (C) ∧ Fr CfK f g, fun _ _ => False) := by
  obtain ⟨z1, z2, z3, z4, z5, z6, z7⟩ := id hz
  refine Ct.of (by decide) (Nat.le_of_ble_eq_true rfl) (fun sz => ?_)
  refine G.eql [(0, .ref (gAd E (8))), (1, .int (nI b))] rfl ?_
  refine G.go tv_X0_writeOut 1 1 [(0, .ref (gAd E (8))), (1, .int (nI b))] [.ref (gAd E (8))] rfl ?_
  refine G.getf cls_X0 (8) 2 (by omega) (h.q8) (by decide) rfl (tbd tv_X0_writeOut rfl) w_286 ?_
  refine G.go tv_X0_writeOut 1 5 [(0, .ref (gAd E (8))), (1, .int (nI b))] [.int (nI b), .ref (gAd E (10))] rfl ?_
  refine G.ialdN (10) (b) (by omega) (h.q10) (hb) (by omega) (tbd tv_X0_writeOut rfl) ?_
  refine G.go tv_X0_writeOut 1 7 [(0, .ref (gAd E (8))), (1, .int (nI b))] [.int ((-1 : Int32)), .int ((cA C 10) (b))] rfl ?_
  refine G.cmp_eq 39 (tbd tv_X0_writeOut rfl) (by decide) (fun c7 => ?_) (fun c7 => absurd (o10) c7)
  exact G.vret rfl (⟨rfl, h, Fr.rf⟩) (tbd tv_X0_writeOut rfl)
set_option maxRecDepth 100000 in
set_option maxHeartbeats 4000000 in
theorem k_wo1 (E : gE) (f : Nat → va_E) (N B gr : Nat) (C : CfT) (hz : CfZ E N B gr) (h : CfV E f N B gr C) (hw : Hw) (hh : HwR N B 1 hw C) (b s : Nat) (hb : b < N) (hs : s < B) (o10 : cA C 10 b = nI s) (y : Rw) (hy : nr (cR C 3 s) = y) : Ct E 8 yX0_writeOut cX0_writeOut 2 none [.ref (gAd E (8)), .int (nI b)] f (fun v g => v = none ∧ (aWb b y hw).1 = true ∧ (∃ C', CfV E g N B gr C' ∧ HwR N B 1 (aDr b (aWb b y hw).2) C' ∧ Sm [0] C C') ∧ Fr CfK f g, fun X g => X = "java/lang/UnsupportedOperationException" ∧ (aWb b y hw).1 = false ∧ (∃ C', CfV E g N B gr C' ∧ HwR N B 0 (hFl (aWb b y hw).2) C' ∧ Sm [0] C C') ∧ Fr CfK f g) := by
  obtain ⟨z1, z2, z3, z4, z5, z6, z7⟩ := id hz
  refine Ct.of (by decide) (Nat.le_of_ble_eq_true rfl) (fun sz => ?_)
  refine G.eql [(0, .ref (gAd E (8))), (1, .int (nI b))] rfl ?_
  refine G.go tv_X0_writeOut 1 1 [(0, .ref (gAd E (8))), (1, .int (nI b))] [.ref (gAd E (8))] rfl ?_
  refine G.getf cls_X0 (8) 2 (by omega) (h.q8) (by decide) rfl (tbd tv_X0_writeOut rfl) w_286 ?_
  refine G.go tv_X0_writeOut 1 5 [(0, .ref (gAd E (8))), (1, .int (nI b))] [.int (nI b), .ref (gAd E (10))] rfl ?_
  refine G.ialdN (10) (b) (by omega) (h.q10) (hb) (by omega) (tbd tv_X0_writeOut rfl) ?_
  refine G.go tv_X0_writeOut 1 7 [(0, .ref (gAd E (8))), (1, .int (nI b))] [.int ((-1 : Int32)), .int ((cA C 10) (b))] rfl ?_
  refine G.cmp_eq 39 (tbd tv_X0_writeOut rfl) (by decide) (fun c7 => absurd c7 (by rw [o10]; exact nI_m1 (by omega))) (fun c7 => ?_)
  refine G.go tv_X0_writeOut 1 11 [(0, .ref (gAd E (8))), (1, .int (nI b))] [.ref (gAd E (8))] rfl ?_
  refine G.getf cls_X0 (8) 0 (by omega) (h.q8) (by decide) rfl (tbd tv_X0_writeOut rfl) w_283 ?_
  refine G.go tv_X0_writeOut 2 16 [(0, .ref (gAd E (8))), (1, .int (nI b))] [.ref (gAd E (8)), .int (nI b), .ref (gAd E (2))] rfl ?_
  refine G.getf cls_X0 (8) 1 (by omega) (h.q8) (by decide) rfl (tbd tv_X0_writeOut rfl) w_284 ?_
  refine G.go tv_X0_writeOut 1 20 [(0, .ref (gAd E (8))), (1, .int (nI b))] [.ref (gAd E (8)), .ref (gAd E (9)), .int (nI b), .ref (gAd E (2))] rfl ?_
  refine G.getf cls_X0 (8) 2 (by omega) (h.q8) (by decide) rfl (tbd tv_X0_writeOut rfl) w_286 ?_
  refine G.go tv_X0_writeOut 1 24 [(0, .ref (gAd E (8))), (1, .int (nI b))] [.int (nI b), .ref (gAd E (10)), .ref (gAd E (9)), .int (nI b), .ref (gAd E (2))] rfl ?_
  refine G.ialdN (10) (b) (by omega) (h.q10) (hb) (by omega) (tbd tv_X0_writeOut rfl) ?_
  refine G.eqs [.int (nI (s)), .ref (gAd E (9)), .int (nI b), .ref (gAd E (2))] (by rw [o10]) ?_
  refine G.aaldN (9) (s) (by omega) (h.q9) (hs) (by omega) (tbd tv_X0_writeOut rfl) ?_
  refine G.eqs [.ref (gAd E (350 + 2 * N + (s))), .int (nI b), .ref (gAd E (2))] (by rw [rwA_at (hs)]; rfl) ?_
  refine G.callV (2) [.int (nI b), .ref (gAd E (350 + 2 * N + (s)))] [] (r_wb E _ N B gr C hz h hw hh b s hb hs y hy) cls_X2 (by omega) (h.q2) cw_X0_46 w_726 w_727 (Nat.le_of_ble_eq_true rfl) rfl (Nat.le_of_ble_eq_true rfl) (tbd tv_X0_writeOut rfl) (fun v1 f1 q1 => ?_) (fun X g q => ⟨q.1, q.2.1, ⟨_, q.2.2.1.choose_spec.1, q.2.2.1.choose_spec.2.1, q.2.2.1.choose_spec.2.2.1⟩, (Fr.rf.tr q.2.2.2 (fun _ h => h))⟩)
  obtain ⟨rfl, ht1, ⟨C1, hc1, hh1, hs1⟩, fa1⟩ := q1
  refine G.eqs [] rfl ?_
  have h10a : cA C1 10 b = nI s := by rw [hs1.2]; exact o10
  refine G.go tv_X0_writeOut 2 31 [(0, .ref (gAd E (8))), (1, .int (nI b))] [.ref (gAd E (8)), .ref (gAd E (8))] rfl ?_
  refine G.getf cls_X0 (8) 2 (by omega) (hc1.q8) (by decide) rfl (tbd tv_X0_writeOut rfl) w_286 ?_
  refine G.go tv_X0_writeOut 1 35 [(0, .ref (gAd E (8))), (1, .int (nI b))] [.int (nI b), .ref (gAd E (10)), .ref (gAd E (8))] rfl ?_
  refine G.ialdN (10) (b) (by omega) (hc1.q10) (hb) (by omega) (tbd tv_X0_writeOut rfl) ?_
  refine G.eqs [.int ((cA C1 10) (b)), .ref (gAd E (8))] rfl ?_
  refine G.eqs [.int (nI s), .ref (gAd E (8))] (by rw [h10a]) ?_
  refine G.callV (8) [.int (nI s)] [] (r_drop E _ N B gr C1 hz hc1 (aWb b y hw).2 hh1 b s hb hs h10a) cls_X0 (by omega) (hc1.q8) cw_X0_50 w_758 w_6 (Nat.le_of_ble_eq_true rfl) rfl (Nat.le_of_ble_eq_true rfl) (tbd tv_X0_writeOut rfl) (fun v2 f2 q2 => ?_) (fun _ _ h => h.elim)
  obtain ⟨rfl, ⟨Cd2, hd2, hhd2, hsd2⟩, fd2⟩ := q2
  refine G.eqs [] rfl ?_
  exact G.vret rfl ⟨rfl, ht1, ⟨_, hd2, hhd2, hs1.1.tr hsd2⟩, (fa1.tr fd2 (fun _ h => h))⟩ (tbd tv_X0_writeOut rfl)
section DCM
/-- a single block of the buffer is written: as aRun does for one -/
theorem aRunS {t : Nat} {h : Hw} : aRun 1 t h = if h.2.1.1 t = none then (true, h) else if (aWb t (bVal h.2.1.1 t) h).1 = true then (true, aDr t (aWb t (bVal h.2.1.1 t) h).2) else (false, h) := by
  obtain ⟨D, ⟨bf, hd, sp, pu⟩, le, wr, ss⟩ := h
  show (if bf t = none then (true, D, (bf, hd, sp, pu), le, wr, ss) else if le = 0 then (false, D, (bf, hd, sp, pu), le, wr, ss) else (true, aWr D t (bVal bf t), (bSet bf t none, hd - 1, sp, pu), sLe le, wr + 1, ss)) = _
  by_cases c : bf t = none
  · rw [if_pos c, if_pos c]
  · rw [if_neg c, if_neg c]
    unfold aWb
    by_cases c2 : le = 0
    · rw [if_pos c2]
      show _ = if (if le = 0 then (false, D, (bf, hd, sp, pu), le, wr, ss) else (true, aWr D t (bVal bf t), (bf, hd, sp, pu), sLe le, wr + 1, ss)).1 = true then _ else _
      rw [if_pos c2]
      rfl
    · rw [if_neg c2]
      show _ = if (if le = 0 then (false, D, (bf, hd, sp, pu), le, wr, ss) else (true, aWr D t (bVal bf t), (bf, hd, sp, pu), sLe le, wr + 1, ss)).1 = true then (true, aDr t (if le = 0 then (false, D, (bf, hd, sp, pu), le, wr, ss) else (true, aWr D t (bVal bf t), (bf, hd, sp, pu), sLe le, wr + 1, ss)).2) else _
      rw [if_neg c2]
      rfl
theorem hFree.run1 {t u : Nat} {h : Hw} (f : hFree h u) : hFree (aRun 1 t h).2 u := by
  rw [aRunS]
  split
  · exact f
  · next c =>
    have hne : t ≠ u := fun e => c (by rw [e]; exact f.1)
    split
    · next c2 =>
      unfold aWb at c2 ⊢
      split at c2
      · cases c2
      · next c3 =>
        rw [if_neg c3]
        refine ⟨?_, hFree.wr f.2 hne⟩
        show bSet h.2.1.1 t none u = none
        unfold bSet
        split
        · rfl
        · exact f.1
    · exact f
theorem LgD.run1 {N B t : Nat} {hw : Hw} {L : List En} (ht : t < N) (h : LgD hw L) : LgD (aRun 1 t hw).2 L := fun k hk => by
  obtain ⟨h1, h2, h3⟩ := h k hk
  exact ⟨h1.run1, ((aRun_all (N := N) (B := B) 1 t hw (by omega)).1 _).trans h2, h3⟩
/-- writeOut -/
def fWo (N B gr : Nat) (A : MS) (D : CfT) (i : Int32) : Option (FR Unit) := if i < 0 ∨ N ≤ i.toNatClampNeg then none else if (aRun 1 i.toNatClampNeg A.1).1 = true then some (.inl ((), ((aRun 1 i.toNatClampNeg A.1).2, A.2), D)) else some (.inr (0, ((aRun 1 i.toNatClampNeg A.1).2, A.2), D))
theorem k_X0_writeOut (E : gE) (f : Nat → va_E) (N B gr : Nat) (C D : CfT) (A : MS) (hz : CfZ E N B gr) (h : CfV E f N B gr C) (hD : Dq D C) (hA : AR N B gr A C) (i : Int32) (r : FR Unit) (hr : fWo N B gr A D i = some r) : Ct E 8 yX0_writeOut cX0_writeOut 2 none [.ref (gAd E (8)), .int i] f (FQ E N B gr f (fun _ => none) r) := by
  obtain ⟨z1, z2, z3, z4, z5, z6, z7⟩ := id hz
  obtain ⟨h1, h2, h3, h4, ⟨en, h5⟩, h6, h7, h8, h9⟩ := id hA
  unfold fWo at hr
  split at hr
  · cases hr
  · next hi =>
    obtain ⟨hb, e⟩ := vp_nI hi
    rw [show (Value.int i) = .int (nI i.toNatClampNeg) from congrArg _ e]
    clear e hi
    generalize i.toNatClampNeg = t at hb hr
    obtain ⟨a1, a2, a3, a4, a5⟩ := aRun_all (N := N) (B := B) 1 t A.1 (by omega)
    have hl4 := LgD.run1 (N := N) (B := B) hb h4
    rcases h1.sl hb with ⟨o10, on⟩ | ⟨s, hs, o10, ov⟩
    · have er : aRun 1 t A.1 = (true, A.1) := by rw [aRunS, if_pos on]
      rw [er] at hr
      cases hr
      refine (k_wo0 E f N B gr C hz h t hb o10).mono (fun v g q => ?_) (fun _ _ q => q.elim)
      exact FQ.ok q.1 ⟨C, q.2.1, hD, hA, q.2.2⟩
    · have on : A.1.2.1.1 t ≠ none := fun z => by
        obtain ⟨⟨-, c2, -⟩, -⟩ := And.intro h1 trivial
        have hbl : Bl B (cA C 10) (cA C 11) (cA C 12) (cR C 3) A.1.2.1.1 t := c2.2.1.2.2.2 t hb
        rcases hbl with ⟨x1, -⟩ | ⟨s', q, x1, x2, x3, x4, x5⟩
        · exact absurd (o10.symm.trans x1) (nI_m1 (by omega))
        · rw [z] at x5
          cases x5
      have ev : nr (cR C 3 s) = bVal A.1.2.1.1 t := by
        rw [← ov]
        unfold hSee bVal
        split
        · next e1 =>
          rw [e1]
        · next e1 => exact absurd e1 on
      have q := k_wo1 E f N B gr C hz h A.1 h1 t s hb hs o10 _ ev
      rw [aRunS, if_neg on] at hr hl4 a3
      by_cases ho : (aWb t (bVal A.1.2.1.1 t) A.1).1 = true
      · rw [if_pos ho] at hr hl4 a3
        have hr := (ite_t rfl hr)
        cases hr
        refine q.mono (fun v g q => ?_) (fun X g q => absurd (ho.symm.trans q.2.1) (by decide))
        obtain ⟨e, -, ⟨C1, c1, c2, c4⟩, fr⟩ := q
        have c5 := c4.wk (L' := [0, 1]) (by decide)
        exact FQ.ok e ⟨C1, c1, hD.sm c5 (by decide), hA.hl c5 c2 (a3 h2) (h3.sm c4 (by decide)) hl4, fr⟩
      · rw [if_neg ho] at hr
        have hr := (ite_f (show ¬ false = true by decide) hr)
        cases hr
        refine q.mono (fun v g q => absurd q.2.1 ho) (fun X g q => ?_)
        obtain ⟨e, -, ⟨C1, c1, c2, c4⟩, fr⟩ := q
        have e15 : cA C1 15 = cA C 15 := c4.2.1 15 (by decide)
        have c5 := (c4.wk (L' := [0, 1]) (by decide)).q
        have eo : (aWb t (bVal A.1.2.1.1 t) A.1).2 = A.1 := by
          unfold aWb at ho ⊢
          split at ho
          · next c => rw [if_pos c]
          · exact absurd rfl ho
        rw [eo] at c2
        exact FQ.no e ⟨C1, c1, hD.q c5, hA.dk c5 c2 (by rw [e15]; exact h3.2.2.2.2.2), fr⟩
end DCM
