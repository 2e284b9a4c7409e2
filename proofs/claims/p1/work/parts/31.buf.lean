def tb_X0_leastStamped : List (Nat × Instr × Nat) := [(0, .iconst 0, 1), (1, .istore_n 1, 1), (2, .iconst 1, 1), (3, .istore_n 2, 1), (4, .iload_n 2, 1), (5, .aload_n 0, 1), (6, .getfield 17, 3), (9, .arraylength, 1), (10, .if_icmp .ge 26, 3), (13, .aload_n 0, 1), (14, .getfield 24, 3), (17, .iload_n 2, 1), (18, .iaload, 1), (19, .aload_n 0, 1), (20, .getfield 24, 3), (23, .iload_n 1, 1), (24, .iaload, 1), (25, .if_icmp .ge 5, 3), (28, .iload_n 2, 1), (29, .istore_n 1, 1), (30, .iinc 2 1, 3), (33, .goto (-29), 3), (36, .iload_n 1, 1), (37, .ireturn, 1)]
theorem tv_X0_leastStamped : Tv cX0_leastStamped tb_X0_leastStamped := by
  unfold Tv
  decide +kernel
theorem w_284 : Cond.fieldLink "LedgerFiles$Buffer" 17 "LedgerFiles$Buffer" "rows" "[[B" ∈ TB := tp_1 138 (by decide +kernel) rfl
theorem w_289 : Cond.fieldLink "LedgerFiles$Buffer" 24 "LedgerFiles$Buffer" "stamps" "[I" ∈ TB := tp_1 143 (by decide +kernel) rfl
set_option maxRecDepth 100000 in
set_option maxHeartbeats 4000000 in
theorem ls_loop (E : gE) (f : Nat → va_E) (sz : Nat) (A : Nat → Prop) (Q : gQ) (N B : Nat) (b : BfT) (hE : 350 + 2 * N + B ≤ gN E) (hN : N ≤ 1024) (hb : BfV E f N B b) (ho : bOk N B b) (hq : Q.1 (some (.int (nI (bLeast b.2.2.1 (B - 1))))) f) : ∀ (m j : Nat), j + 1 + m = B → G E (1, yX0_leastStamped, 3, (some .int), sz, A) cX0_leastStamped (gO E (1, yX0_leastStamped, 3, (some .int), sz, A) Q) 4 [(0, .ref (gAd E 8)), (1, .int (nI (bLeast b.2.2.1 j))), (2, .int (nI (j + 1)))] [] f := by
  obtain ⟨so, bo, st, ro, sp, hd, pu⟩ := b
  obtain ⟨b8, b9, b10, b11, b12, br⟩ := id hb
  obtain ⟨o1, o2, o3, o4, o5, o6, o7, o8⟩ := id ho
  intro m
  induction m with
  | zero =>
    intro j e
    have e : j + 1 = B := e
    have hq : Q.1 (some (.int (nI (bLeast st j)))) f := by have e2 : B - 1 = j := by omega
                                                           rw [e2] at hq; exact hq
    have e : B = j + 1 := e.symm
    refine G.go tv_X0_leastStamped 2 6 [(0, .ref (gAd E (8))), (1, .int (nI (bLeast st j))), (2, .int (nI (j + 1)))] [.ref (gAd E (8)), .int (nI (j + 1))] rfl ?_
    refine G.getf cls_X0 (8) 1 (by omega) (b8) (by decide) rfl (tbd tv_X0_leastStamped rfl) w_284 ?_
    refine G.alen (9) 4 (by omega) (b9) rfl rfl (tbd tv_X0_leastStamped rfl) ?_
    refine G.cmp_ge 36 (tbd tv_X0_leastStamped rfl) (by decide) (fun c10 => ?_) (fun c10 => absurd (by rw [e]; exact nI_le (Nat.le_refl _) (by omega)) c10)
    refine G.go tv_X0_leastStamped 1 37 [(0, .ref (gAd E (8))), (1, .int (nI (bLeast st j))), (2, .int (nI (j + 1)))] [.int (nI (bLeast st j))] rfl ?_
    exact G.iret rfl rfl (hq) (tbd tv_X0_leastStamped rfl)
  | succ m ih =>
    intro j e
    have hl := bLeast_le st j
    have ih : ∀ j, j + 1 + m = B → j + 1 ≤ B → G E (1, yX0_leastStamped, 3, (some .int), sz, A) cX0_leastStamped (gO E (1, yX0_leastStamped, 3, (some .int), sz, A) Q) 4 [(0, .ref (gAd E 8)), (1, .int (nI (bLeast st j))), (2, .int (nI (j + 1)))] [] f := fun j h _ => ih j h
    refine G.go tv_X0_leastStamped 2 6 [(0, .ref (gAd E (8))), (1, .int (nI (bLeast st j))), (2, .int (nI (j + 1)))] [.ref (gAd E (8)), .int (nI (j + 1))] rfl ?_
    refine G.getf cls_X0 (8) 1 (by omega) (b8) (by decide) rfl (tbd tv_X0_leastStamped rfl) w_284 ?_
    refine G.alen (9) 4 (by omega) (b9) rfl rfl (tbd tv_X0_leastStamped rfl) ?_
    refine G.cmp_ge 36 (tbd tv_X0_leastStamped rfl) (by decide) (fun c10 => absurd c10 (nI_ge (by omega) (by omega))) (fun c10 => ?_)
    refine G.go tv_X0_leastStamped 1 14 [(0, .ref (gAd E (8))), (1, .int (nI (bLeast st j))), (2, .int (nI (j + 1)))] [.ref (gAd E (8))] rfl ?_
    refine G.getf cls_X0 (8) 4 (by omega) (b8) (by decide) rfl (tbd tv_X0_leastStamped rfl) w_289 ?_
    refine G.go tv_X0_leastStamped 1 18 [(0, .ref (gAd E (8))), (1, .int (nI (bLeast st j))), (2, .int (nI (j + 1)))] [.int (nI (j + 1)), .ref (gAd E (12))] rfl ?_
    refine G.ialdN (12) (j + 1) (by omega) (b12) (by omega) (by omega) (tbd tv_X0_leastStamped rfl) ?_
    refine G.go tv_X0_leastStamped 1 20 [(0, .ref (gAd E (8))), (1, .int (nI (bLeast st j))), (2, .int (nI (j + 1)))] [.ref (gAd E (8)), .int ((st) (j + 1))] rfl ?_
    refine G.getf cls_X0 (8) 4 (by omega) (b8) (by decide) rfl (tbd tv_X0_leastStamped rfl) w_289 ?_
    refine G.go tv_X0_leastStamped 1 24 [(0, .ref (gAd E (8))), (1, .int (nI (bLeast st j))), (2, .int (nI (j + 1)))] [.int (nI (bLeast st j)), .ref (gAd E (12)), .int ((st) (j + 1))] rfl ?_
    refine G.ialdN (12) (bLeast st j) (by omega) (b12) (by omega) (by omega) (tbd tv_X0_leastStamped rfl) ?_
    refine G.cmp_ge 30 (tbd tv_X0_leastStamped rfl) (by decide) (fun c25 => ?_) (fun c25 => ?_)
    · skip
      refine G.go tv_X0_leastStamped 2 4 [(0, .ref (gAd E (8))), (1, .int (nI (bLeast st j))), (2, .int (nI (j + 1) + (1 : Int32)))] [] rfl ?_
      refine G.eql [(0, .ref (gAd E 8)), (1, .int (nI (bLeast st (j + 1)))), (2, .int (nI (j + 1 + 1)))] (by rw [show nI (j + 1) + (1 : Int32) = nI (j + 1 + 1) from nI_1 _, show bLeast st (j + 1) = bLeast st j from if_neg (Int32.not_lt.mpr c25)]) ?_
      exact ih (j + 1) (by omega) (by omega)
    · skip
      refine G.go tv_X0_leastStamped 4 4 [(0, .ref (gAd E (8))), (1, .int (nI (j + 1))), (2, .int (nI (j + 1) + (1 : Int32)))] [] rfl ?_
      refine G.eql [(0, .ref (gAd E 8)), (1, .int (nI (bLeast st (j + 1)))), (2, .int (nI (j + 1 + 1)))] (by rw [show nI (j + 1) + (1 : Int32) = nI (j + 1 + 1) from nI_1 _, show bLeast st (j + 1) = j + 1 from if_pos (Int32.not_le.mp c25)]) ?_
      exact ih (j + 1) (by omega) (by omega)
set_option maxRecDepth 100000 in
set_option maxHeartbeats 4000000 in
theorem c_X0_leastStamped (E : gE) (f : Nat → va_E) (N B : Nat) (b : BfT) (hE : 350 + 2 * N + B ≤ gN E) (hN : N ≤ 1024) (hb : BfV E f N B b) (ho : bOk N B b) : Ct E 1 yX0_leastStamped cX0_leastStamped 3 (some .int) [.ref (gAd E (8))] f (fun v g => f = g ∧ v = some (.int (nI (bLeast b.2.2.1 (B - 1)))), fun _ _ => False) := by
  obtain ⟨so, bo, st, ro, sp, hd, pu⟩ := b
  obtain ⟨b8, b9, b10, b11, b12, br⟩ := id hb
  obtain ⟨o1, o2, o3, o4, o5, o6, o7, o8⟩ := id ho
  refine Ct.of (by decide) (Nat.le_of_ble_eq_true rfl) (fun sz => ?_)
  refine G.eql [(0, .ref (gAd E (8)))] rfl ?_
  refine G.go tv_X0_leastStamped 4 4 [(0, .ref (gAd E (8))), (1, .int ((0 : Int32))), (2, .int ((1 : Int32)))] [] rfl ?_
  refine ls_loop E f _ _ _ N B (so, bo, st, ro, sp, hd, pu) hE hN hb ho ?_ (B - 1) 0 (by omega)
  exact ⟨rfl, rfl⟩
def tb_X0_drop : List (Nat × Instr × Nat) := [(0, .aload_n 0, 1), (1, .getfield 33, 3), (4, .aload_n 0, 1), (5, .getfield 20, 3), (8, .iload_n 1, 1), (9, .iaload, 1), (10, .iconst (-1), 1), (11, .iastore, 1), (12, .aload_n 0, 1), (13, .getfield 24, 3), (16, .iload_n 1, 1), (17, .iconst 0, 1), (18, .iastore, 1), (19, .aload_n 0, 1), (20, .dup, 1), (21, .getfield 57, 3), (24, .iconst 1, 1), (25, .isub, 1), (26, .putfield 57, 3), (29, .return_, 1)]
theorem tv_X0_drop : Tv cX0_drop tb_X0_drop := by
  unfold Tv
  decide +kernel
theorem w_286 : Cond.fieldLink "LedgerFiles$Buffer" 33 "LedgerFiles$Buffer" "slotOf" "[I" ∈ TB := tp_1 140 (by decide +kernel) rfl
theorem w_288 : Cond.fieldLink "LedgerFiles$Buffer" 20 "LedgerFiles$Buffer" "blockOf" "[I" ∈ TB := tp_1 142 (by decide +kernel) rfl
theorem w_291 : Cond.fieldLink "LedgerFiles$Buffer" 57 "LedgerFiles$Buffer" "held" "I" ∈ TB := tp_1 145 (by decide +kernel) rfl
set_option maxRecDepth 100000 in
set_option maxHeartbeats 4000000 in
theorem c_X0_drop (E : gE) (f : Nat → va_E) (N B : Nat) (b : BfT) (hE : 350 + 2 * N + B ≤ gN E) (hN : N ≤ 1024) (hb : BfV E f N B b) (ho : bOk N B b) (s : Nat) (hs : s < B) (h1 : 1 ≤ b.2.2.2.2.2.1) : Ct E 1 yX0_drop cX0_drop 2 none [.ref (gAd E (8)), .int (nI s)] f (fun v g => v = none ∧ BfV E g N B (bDrop b s) ∧ Fr (BfK N B) f g, fun _ _ => False) := by
  obtain ⟨so, bo, st, ro, sp, hd, pu⟩ := b
  obtain ⟨b8, b9, b10, b11, b12, br⟩ := id hb
  obtain ⟨o1, o2, o3, o4, o5, o6, o7, o8⟩ := id ho
  have h1 : 1 ≤ hd := h1
  obtain ⟨t, ht, hbt, -⟩ := o5 s hs
  have hbc : (bo s).toNatClampNeg = t := by rw [hbt]; exact nI_clamp (by omega)
  refine Ct.of (by decide) (Nat.le_of_ble_eq_true rfl) (fun sz => ?_)
  refine G.eql [(0, .ref (gAd E (8))), (1, .int (nI s))] rfl ?_
  refine G.go tv_X0_drop 1 1 [(0, .ref (gAd E (8))), (1, .int (nI s))] [.ref (gAd E (8))] rfl ?_
  refine G.getf cls_X0 (8) 2 (by omega) (b8) (by decide) rfl (tbd tv_X0_drop rfl) w_286 ?_
  refine G.go tv_X0_drop 1 5 [(0, .ref (gAd E (8))), (1, .int (nI s))] [.ref (gAd E (8)), .ref (gAd E (10))] rfl ?_
  refine G.getf cls_X0 (8) 3 (by omega) (b8) (by decide) rfl (tbd tv_X0_drop rfl) w_288 ?_
  refine G.go tv_X0_drop 1 9 [(0, .ref (gAd E (8))), (1, .int (nI s))] [.int (nI s), .ref (gAd E (11)), .ref (gAd E (10))] rfl ?_
  refine G.ialdN (11) (s) (by omega) (b11) (hs) (by omega) (tbd tv_X0_drop rfl) ?_
  refine G.eqs [.int (nI t), .ref (gAd E (10))] (by rw [hbt]) ?_
  refine G.go tv_X0_drop 1 11 [(0, .ref (gAd E (8))), (1, .int (nI s))] [.int ((-1 : Int32)), .int (nI t), .ref (gAd E (10))] rfl ?_
  refine G.iastN (10) (t) (by omega) (b10) (ht) (by omega) (tbd tv_X0_drop rfl) ?_
  refine G.go tv_X0_drop 1 13 [(0, .ref (gAd E (8))), (1, .int (nI s))] [.ref (gAd E (8))] rfl ?_
  refine G.getf cls_X0 (8) 4 (by omega) (up_n (by decide) (b8)) (by decide) rfl (tbd tv_X0_drop rfl) w_289 ?_
  refine G.go tv_X0_drop 2 18 [(0, .ref (gAd E (8))), (1, .int (nI s))] [.int ((0 : Int32)), .int (nI s), .ref (gAd E (12))] rfl ?_
  refine G.iastN (12) (s) (by omega) (up_n (by decide) (b12)) (hs) (by omega) (tbd tv_X0_drop rfl) ?_
  refine G.go tv_X0_drop 2 21 [(0, .ref (gAd E (8))), (1, .int (nI s))] [.ref (gAd E (8)), .ref (gAd E (8))] rfl ?_
  refine G.getf cls_X0 (8) 6 (by omega) (up_n (by decide) (up_n (by decide) (b8))) (by decide) rfl (tbd tv_X0_drop rfl) w_291 ?_
  refine G.go tv_X0_drop 2 26 [(0, .ref (gAd E (8))), (1, .int (nI s))] [.int ((nI hd) - ((1 : Int32))), .ref (gAd E (8))] rfl ?_
  refine G.eqs [.int (nI (hd - 1)), .ref (gAd E (8))] (by rw [show (1 : Int32) = nI 1 from rfl, pk_sub h1]) ?_
  refine G.putfS cls_X0 (8) 6 [.ref (gAd E (2)), .ref (gAd E (9)), .ref (gAd E (10)), .ref (gAd E (11)), .ref (gAd E (12)), .int (nI sp), .int (nI (hd - 1)), .int (pu)] (by omega) (up_n (by decide) (up_n (by decide) (b8))) rfl (by decide) rfl rfl rfl (Nat.le_of_ble_eq_true rfl) (tbd tv_X0_drop rfl) w_291 ?_
  refine G.vret rfl ⟨rfl, ?_, Fr.up (Fr.up (Fr.up (Fr.rf) (Or.inl ⟨by decide, by decide⟩)) (Or.inl ⟨by decide, by decide⟩)) (Or.inl ⟨by decide, by decide⟩)⟩ (tbd tv_X0_drop rfl)
  show BfV E _ N B (upd so (bo s).toNatClampNeg (-1), bo, upd st s 0, ro, sp, hd - 1, pu)
  rw [hbc]
  exact ⟨up_e, up_n (by decide) (up_n (by decide) (up_n (by decide) (b9))), up_n (by decide) (up_n (by decide) (up_e)), up_n (by decide) (up_n (by decide) (up_n (by decide) (b11))), up_n (by decide) (up_e), Rws.keep (Rws.keep (Rws.keep (br) (by omega)) (by omega)) (by omega)⟩
def tb_X0_nextAbove : List (Nat × Instr × Nat) := [(0, .iconst (-1), 1), (1, .istore_n 2, 1), (2, .iconst 0, 1), (3, .istore_n 3, 1), (4, .iload_n 3, 1), (5, .aload_n 0, 1), (6, .getfield 17, 3), (9, .arraylength, 1), (10, .if_icmp .ge 50, 3), (13, .aload_n 0, 1), (14, .getfield 24, 3), (17, .iload_n 3, 1), (18, .iaload, 1), (19, .ifCond .le 35, 3), (22, .aload_n 0, 1), (23, .getfield 20, 3), (26, .iload_n 3, 1), (27, .iaload, 1), (28, .iload_n 1, 1), (29, .if_icmp .le 25, 3), (32, .iload_n 2, 1), (33, .iconst (-1), 1), (34, .if_icmp .eq 13, 3), (37, .aload_n 0, 1), (38, .getfield 20, 3), (41, .iload_n 3, 1), (42, .iaload, 1), (43, .iload_n 2, 1), (44, .if_icmp .ge 10, 3), (47, .aload_n 0, 1), (48, .getfield 20, 3), (51, .iload_n 3, 1), (52, .iaload, 1), (53, .istore_n 2, 1), (54, .iinc 3 1, 3), (57, .goto (-53), 3), (60, .iload_n 2, 1), (61, .ireturn, 1)]
theorem tv_X0_nextAbove : Tv cX0_nextAbove tb_X0_nextAbove := by
  unfold Tv
  decide +kernel
set_option maxRecDepth 100000 in
set_option maxHeartbeats 4000000 in
theorem na_loop (E : gE) (f : Nat → va_E) (sz : Nat) (A : Nat → Prop) (Q : gQ) (N B : Nat) (b : BfT) (hE : 350 + 2 * N + B ≤ gN E) (hN : N ≤ 1024) (hb : BfV E f N B b) (ho : bOk N B b) (x : Int32) (hq : Q.1 (some (.int (bNext b.2.1 b.2.2.1 x B))) f) : ∀ (m j : Nat), j + m = B → G E (1, yX0_nextAbove, 4, (some .int), sz, A) cX0_nextAbove (gO E (1, yX0_nextAbove, 4, (some .int), sz, A) Q) 4 [(0, .ref (gAd E 8)), (1, .int x), (2, .int (bNext b.2.1 b.2.2.1 x j)), (3, .int (nI j))] [] f := by
  obtain ⟨so, bo, st, ro, sp, hd, pu⟩ := b
  obtain ⟨b8, b9, b10, b11, b12, br⟩ := id hb
  obtain ⟨o1, o2, o3, o4, o5, o6, o7, o8⟩ := id ho
  intro m
  induction m with
  | zero =>
    intro j e
    have e : B = j := e.symm
    have hq : Q.1 (some (.int (bNext bo st x j))) f := e ▸ hq
    refine G.go tv_X0_nextAbove 2 6 [(0, .ref (gAd E (8))), (1, .int (x)), (2, .int (bNext bo st x j)), (3, .int (nI (j)))] [.ref (gAd E (8)), .int (nI (j))] rfl ?_
    refine G.getf cls_X0 (8) 1 (by omega) (b8) (by decide) rfl (tbd tv_X0_nextAbove rfl) w_284 ?_
    refine G.alen (9) 4 (by omega) (b9) rfl rfl (tbd tv_X0_nextAbove rfl) ?_
    refine G.cmp_ge 60 (tbd tv_X0_nextAbove rfl) (by decide) (fun c10 => ?_) (fun c10 => absurd (by rw [e]; exact nI_le (Nat.le_refl _) (by omega)) c10)
    refine G.go tv_X0_nextAbove 1 61 [(0, .ref (gAd E (8))), (1, .int (x)), (2, .int (bNext bo st x j)), (3, .int (nI (j)))] [.int (bNext bo st x j)] rfl ?_
    exact G.iret rfl rfl (hq) (tbd tv_X0_nextAbove rfl)
  | succ m ih =>
    intro j e
    have ih : ∀ j, j + m = B → G E (1, yX0_nextAbove, 4, (some .int), sz, A) cX0_nextAbove (gO E (1, yX0_nextAbove, 4, (some .int), sz, A) Q) 4 [(0, .ref (gAd E 8)), (1, .int x), (2, .int (bNext bo st x j)), (3, .int (nI j))] [] f := ih
    refine G.go tv_X0_nextAbove 2 6 [(0, .ref (gAd E (8))), (1, .int (x)), (2, .int (bNext bo st x j)), (3, .int (nI (j)))] [.ref (gAd E (8)), .int (nI (j))] rfl ?_
    refine G.getf cls_X0 (8) 1 (by omega) (b8) (by decide) rfl (tbd tv_X0_nextAbove rfl) w_284 ?_
    refine G.alen (9) 4 (by omega) (b9) rfl rfl (tbd tv_X0_nextAbove rfl) ?_
    refine G.cmp_ge 60 (tbd tv_X0_nextAbove rfl) (by decide) (fun c10 => absurd c10 (nI_ge (by omega) (by omega))) (fun c10 => ?_)
    refine G.go tv_X0_nextAbove 1 14 [(0, .ref (gAd E (8))), (1, .int (x)), (2, .int (bNext bo st x j)), (3, .int (nI (j)))] [.ref (gAd E (8))] rfl ?_
    refine G.getf cls_X0 (8) 4 (by omega) (b8) (by decide) rfl (tbd tv_X0_nextAbove rfl) w_289 ?_
    refine G.go tv_X0_nextAbove 1 18 [(0, .ref (gAd E (8))), (1, .int (x)), (2, .int (bNext bo st x j)), (3, .int (nI (j)))] [.int (nI (j)), .ref (gAd E (12))] rfl ?_
    refine G.ialdN (12) (j) (by omega) (b12) (by omega) (by omega) (tbd tv_X0_nextAbove rfl) ?_
    refine G.if_le 54 (tbd tv_X0_nextAbove rfl) (by decide) (fun c19 => ?_) (fun c19 => ?_)
    · skip
      refine G.go tv_X0_nextAbove 2 4 [(0, .ref (gAd E (8))), (1, .int (x)), (2, .int (bNext bo st x j)), (3, .int (nI (j) + (1 : Int32)))] [] rfl ?_
      refine G.eql [(0, .ref (gAd E 8)), (1, .int x), (2, .int (bNext bo st x (j + 1))), (3, .int (nI (j + 1)))] (by rw [show nI j + (1 : Int32) = nI (j + 1) from nI_1 _, show bNext bo st x (j + 1) = bNext bo st x j from if_neg (by rintro ⟨h1, -, -⟩; exact Int32.not_lt.mpr c19 h1)]) ?_
      exact ih (j + 1) (by omega)
    · skip
      refine G.go tv_X0_nextAbove 1 23 [(0, .ref (gAd E (8))), (1, .int (x)), (2, .int (bNext bo st x j)), (3, .int (nI (j)))] [.ref (gAd E (8))] rfl ?_
      refine G.getf cls_X0 (8) 3 (by omega) (b8) (by decide) rfl (tbd tv_X0_nextAbove rfl) w_288 ?_
      refine G.go tv_X0_nextAbove 1 27 [(0, .ref (gAd E (8))), (1, .int (x)), (2, .int (bNext bo st x j)), (3, .int (nI (j)))] [.int (nI (j)), .ref (gAd E (11))] rfl ?_
      refine G.ialdN (11) (j) (by omega) (b11) (by omega) (by omega) (tbd tv_X0_nextAbove rfl) ?_
      refine G.go tv_X0_nextAbove 1 29 [(0, .ref (gAd E (8))), (1, .int (x)), (2, .int (bNext bo st x j)), (3, .int (nI (j)))] [.int (x), .int ((bo) (j))] rfl ?_
      refine G.cmp_le 54 (tbd tv_X0_nextAbove rfl) (by decide) (fun c29 => ?_) (fun c29 => ?_)
      · skip
        refine G.go tv_X0_nextAbove 2 4 [(0, .ref (gAd E (8))), (1, .int (x)), (2, .int (bNext bo st x j)), (3, .int (nI (j) + (1 : Int32)))] [] rfl ?_
        refine G.eql [(0, .ref (gAd E 8)), (1, .int x), (2, .int (bNext bo st x (j + 1))), (3, .int (nI (j + 1)))] (by rw [show nI j + (1 : Int32) = nI (j + 1) from nI_1 _, show bNext bo st x (j + 1) = bNext bo st x j from if_neg (by rintro ⟨-, h2, -⟩; exact Int32.not_lt.mpr c29 h2)]) ?_
        exact ih (j + 1) (by omega)
      · skip
        refine G.go tv_X0_nextAbove 2 34 [(0, .ref (gAd E (8))), (1, .int (x)), (2, .int (bNext bo st x j)), (3, .int (nI (j)))] [.int ((-1 : Int32)), .int (bNext bo st x j)] rfl ?_
        refine G.cmp_eq 47 (tbd tv_X0_nextAbove rfl) (by decide) (fun c34 => ?_) (fun c34 => ?_)
        · skip
          refine G.go tv_X0_nextAbove 1 48 [(0, .ref (gAd E (8))), (1, .int (x)), (2, .int (bNext bo st x j)), (3, .int (nI (j)))] [.ref (gAd E (8))] rfl ?_
          refine G.getf cls_X0 (8) 3 (by omega) (b8) (by decide) rfl (tbd tv_X0_nextAbove rfl) w_288 ?_
          refine G.go tv_X0_nextAbove 1 52 [(0, .ref (gAd E (8))), (1, .int (x)), (2, .int (bNext bo st x j)), (3, .int (nI (j)))] [.int (nI (j)), .ref (gAd E (11))] rfl ?_
          refine G.ialdN (11) (j) (by omega) (b11) (by omega) (by omega) (tbd tv_X0_nextAbove rfl) ?_
          refine G.go tv_X0_nextAbove 3 4 [(0, .ref (gAd E (8))), (1, .int (x)), (2, .int ((bo) (j))), (3, .int (nI (j) + (1 : Int32)))] [] rfl ?_
          refine G.eql [(0, .ref (gAd E 8)), (1, .int x), (2, .int (bNext bo st x (j + 1))), (3, .int (nI (j + 1)))] (by rw [show nI j + (1 : Int32) = nI (j + 1) from nI_1 _, show bNext bo st x (j + 1) = bo j from if_pos ⟨Int32.not_le.mp c19, Int32.not_le.mp c29, Or.inl c34⟩]) ?_
          exact ih (j + 1) (by omega)
        · skip
          refine G.go tv_X0_nextAbove 1 38 [(0, .ref (gAd E (8))), (1, .int (x)), (2, .int (bNext bo st x j)), (3, .int (nI (j)))] [.ref (gAd E (8))] rfl ?_
          refine G.getf cls_X0 (8) 3 (by omega) (b8) (by decide) rfl (tbd tv_X0_nextAbove rfl) w_288 ?_
          refine G.go tv_X0_nextAbove 1 42 [(0, .ref (gAd E (8))), (1, .int (x)), (2, .int (bNext bo st x j)), (3, .int (nI (j)))] [.int (nI (j)), .ref (gAd E (11))] rfl ?_
          refine G.ialdN (11) (j) (by omega) (b11) (by omega) (by omega) (tbd tv_X0_nextAbove rfl) ?_
          refine G.go tv_X0_nextAbove 1 44 [(0, .ref (gAd E (8))), (1, .int (x)), (2, .int (bNext bo st x j)), (3, .int (nI (j)))] [.int (bNext bo st x j), .int ((bo) (j))] rfl ?_
          refine G.cmp_ge 54 (tbd tv_X0_nextAbove rfl) (by decide) (fun c44 => ?_) (fun c44 => ?_)
          · skip
            refine G.go tv_X0_nextAbove 2 4 [(0, .ref (gAd E (8))), (1, .int (x)), (2, .int (bNext bo st x j)), (3, .int (nI (j) + (1 : Int32)))] [] rfl ?_
            refine G.eql [(0, .ref (gAd E 8)), (1, .int x), (2, .int (bNext bo st x (j + 1))), (3, .int (nI (j + 1)))] (by rw [show nI j + (1 : Int32) = nI (j + 1) from nI_1 _, show bNext bo st x (j + 1) = bNext bo st x j from if_neg (by rintro ⟨-, -, h3⟩; exact h3.elim c34 (Int32.not_lt.mpr c44))]) ?_
            exact ih (j + 1) (by omega)
          · skip
            refine G.go tv_X0_nextAbove 1 48 [(0, .ref (gAd E (8))), (1, .int (x)), (2, .int (bNext bo st x j)), (3, .int (nI (j)))] [.ref (gAd E (8))] rfl ?_
            refine G.getf cls_X0 (8) 3 (by omega) (b8) (by decide) rfl (tbd tv_X0_nextAbove rfl) w_288 ?_
            refine G.go tv_X0_nextAbove 1 52 [(0, .ref (gAd E (8))), (1, .int (x)), (2, .int (bNext bo st x j)), (3, .int (nI (j)))] [.int (nI (j)), .ref (gAd E (11))] rfl ?_
            refine G.ialdN (11) (j) (by omega) (b11) (by omega) (by omega) (tbd tv_X0_nextAbove rfl) ?_
            refine G.go tv_X0_nextAbove 3 4 [(0, .ref (gAd E (8))), (1, .int (x)), (2, .int ((bo) (j))), (3, .int (nI (j) + (1 : Int32)))] [] rfl ?_
            refine G.eql [(0, .ref (gAd E 8)), (1, .int x), (2, .int (bNext bo st x (j + 1))), (3, .int (nI (j + 1)))] (by rw [show nI j + (1 : Int32) = nI (j + 1) from nI_1 _, show bNext bo st x (j + 1) = bo j from if_pos ⟨Int32.not_le.mp c19, Int32.not_le.mp c29, Or.inr (Int32.not_le.mp c44)⟩]) ?_
            exact ih (j + 1) (by omega)
set_option maxRecDepth 100000 in
set_option maxHeartbeats 4000000 in
theorem c_X0_nextAbove (E : gE) (f : Nat → va_E) (N B : Nat) (b : BfT) (hE : 350 + 2 * N + B ≤ gN E) (hN : N ≤ 1024) (hb : BfV E f N B b) (ho : bOk N B b) (x : Int32) : Ct E 1 yX0_nextAbove cX0_nextAbove 4 (some .int) [.ref (gAd E (8)), .int (x)] f (fun v g => f = g ∧ v = some (.int (bNext b.2.1 b.2.2.1 x B)), fun _ _ => False) := by
  obtain ⟨so, bo, st, ro, sp, hd, pu⟩ := b
  obtain ⟨b8, b9, b10, b11, b12, br⟩ := id hb
  obtain ⟨o1, o2, o3, o4, o5, o6, o7, o8⟩ := id ho
  refine Ct.of (by decide) (Nat.le_of_ble_eq_true rfl) (fun sz => ?_)
  refine G.eql [(0, .ref (gAd E (8))), (1, .int (x))] rfl ?_
  refine G.go tv_X0_nextAbove 4 4 [(0, .ref (gAd E (8))), (1, .int (x)), (2, .int ((-1 : Int32))), (3, .int ((0 : Int32)))] [] rfl ?_
  refine na_loop E f _ _ _ N B (so, bo, st, ro, sp, hd, pu) hE hN hb ho x ?_ B 0 (by omega)
  exact ⟨rfl, rfl⟩
