def tb_X2_syncAll : List (Nat × Instr × Nat) := [(0, .aload_n 0, 1), (1, .invokevirtual 61, 3), (4, .aload_n 0, 1), (5, .getfield 64, 3), (8, .istore_n 1, 1), (9, .iload_n 1, 1), (10, .ifCond .le 13, 3), (13, .aload_n 0, 1), (14, .invokevirtual 67, 3), (17, .iinc 1 (-1), 3), (20, .goto (-11), 3), (23, .aload_n 0, 1), (24, .dup, 1), (25, .getfield 82, 3), (28, .iconst 1, 1), (29, .iadd, 1), (30, .putfield 82, 3), (33, .return_, 1)]
theorem tv_X2_syncAll : Tv cX2_syncAll tb_X2_syncAll := by
  unfold Tv
  decide +kernel
theorem w_248 : Cond.fieldLink "LedgerFiles$Disk" 82 "LedgerFiles$Disk" "syncs" "I" ∈ TB := tp_1 102 (by decide +kernel) rfl
set_option maxRecDepth 100000 in
set_option maxHeartbeats 4000000 in
/-- the loop of syncAll: m values wait still -/
theorem sa_loop (E : gE) (sz : Nat) (A : Nat → Prop) (Q : gQ) (N : Nat) (on le wr ss : Int32) (hE : 350 + N ≤ gN E) (hN : N ≤ 1024) : ∀ (m : Nat) (f : Nat → va_E) (d : DkT), DkV E f N d on le wr ss → dOk N d → d.2.2.2.2.2.2 = m → (∀ g, DkV E g N (dIter m d) on le wr (ss + 1) → Fr (DkK N) f g → Q.1 none g) → G E (7, yX2_syncAll, 2, none, sz, A) cX2_syncAll (gO E (7, yX2_syncAll, 2, none, sz, A) Q) 9 [(0, .ref (gAd E 2)), (1, .int (nI m))] [] f := by
  intro m
  induction m with
  | zero =>
    intro f d hd ho e hq
    obtain ⟨w, la, bo, sy, va, a, n⟩ := d
    have e : n = 0 := e
    subst e
    obtain ⟨h2, h3, h4, h5, h6, h7, hv, hs⟩ := id hd
    obtain ⟨o1, o2, o3, o4, o5, o6⟩ := id ho
    refine G.go tv_X2_syncAll 1 10 [(0, .ref (gAd E (2))), (1, .int (nI 0))] [.int (nI 0)] rfl ?_
    refine G.if_le 23 (tbd tv_X2_syncAll rfl) (by decide) (fun c10 => ?_) (fun c10 => absurd (by decide) c10)
    refine G.go tv_X2_syncAll 2 25 [(0, .ref (gAd E (2))), (1, .int (nI 0))] [.ref (gAd E (2)), .ref (gAd E (2))] rfl ?_
    refine G.getf cls_X2 (2) 11 (by omega) (h2) (by decide) rfl (tbd tv_X2_syncAll rfl) w_248 ?_
    refine G.go tv_X2_syncAll 2 30 [(0, .ref (gAd E (2))), (1, .int (nI 0))] [.int ((ss) + ((1 : Int32))), .ref (gAd E (2))] rfl ?_
    refine G.putfS cls_X2 (2) 11 [.int (nI N), .ref (gAd E (3)), .ref (gAd E (4)), .ref (gAd E (5)), .ref (gAd E (6)), .ref (gAd E (7)), .int (nI a), .int (nI 0), .int (on), .int (le), .int (wr), .int ((ss) + ((1 : Int32)))] (by omega) (h2) rfl (by decide) rfl rfl rfl (Nat.le_of_ble_eq_true rfl) (tbd tv_X2_syncAll rfl) w_248 ?_
    exact G.vret rfl (hq _ ⟨up_e, up_n (by decide) (h3), up_n (by decide) (h4), up_n (by decide) (h5), up_n (by decide) (h6), up_n (by decide) (h7), Rws.keep (hv) (by omega), Rws.keep (hs) (by omega)⟩ (Fr.up (Fr.rf) (Or.inl ⟨by decide, by decide⟩))) (tbd tv_X2_syncAll rfl)
  | succ m ih =>
    intro f d hd ho e hq
    obtain ⟨w, la, bo, sy, va, a, n⟩ := d
    have e : n = m + 1 := e
    subst e
    obtain ⟨h2, h3, h4, h5, h6, h7, hv, hs⟩ := id hd
    obtain ⟨o1, o2, o3, o4, o5, o6⟩ := id ho
    refine G.go tv_X2_syncAll 1 10 [(0, .ref (gAd E (2))), (1, .int (nI (m + 1)))] [.int (nI (m + 1))] rfl ?_
    refine G.if_le 23 (tbd tv_X2_syncAll rfl) (by decide) (fun c10 => absurd c10 (nI_nle (Nat.succ_pos m) (by omega))) (fun c10 => ?_)
    refine G.go tv_X2_syncAll 1 14 [(0, .ref (gAd E (2))), (1, .int (nI (m + 1)))] [.ref (gAd E (2))] rfl ?_
    refine G.callV (2) [] [] (c_X2_keepOldest E f N (w, la, bo, sy, va, a, m + 1) on le wr ss hE hN hd ho (Nat.succ_le_succ (Nat.zero_le m))) cls_X2 (by omega) (h2) cw_X2_67 w_751 w_5 (Nat.le_of_ble_eq_true rfl) rfl (Nat.le_of_ble_eq_true rfl) (tbd tv_X2_syncAll rfl) (fun v1 f1 q1 => ?_) (fun _ _ h => h.elim)
    obtain ⟨rfl, hd1, hf1⟩ := q1
    refine G.eqs [] rfl ?_
    refine G.go tv_X2_syncAll 2 9 [(0, .ref (gAd E (2))), (1, .int (nI (m + 1) + (-1 : Int32)))] [] rfl ?_
    refine G.eql [(0, .ref (gAd E 2)), (1, .int (nI m))] (by rw [show nI (m + 1) + (-1 : Int32) = nI m from pk_m1 m]) ?_
    exact ih f1 (dKeep (w, la, bo, sy, va, a, m + 1)) hd1 (dKeep_ok hN ho) rfl (fun g h1 h2 => hq g h1 (hf1.tr h2 (fun _ h => h)))
set_option maxRecDepth 100000 in
set_option maxHeartbeats 4000000 in
/-- all that waits is synced -/
theorem c_X2_syncAll (E : gE) (f : Nat → va_E) (N : Nat) (d : DkT) (on le wr ss : Int32) (hE : 350 + N ≤ gN E) (hN : N ≤ 1024) (hd : DkV E f N d on le wr ss) (ho : dOk N d) : Ct E 7 yX2_syncAll cX2_syncAll 2 none [.ref (gAd E (2))] f (fun v g => v = none ∧ ¬ le = 0 ∧ DkV E g N (dSync d) on (if 0 < le then le - 1 else le) wr (ss + 1) ∧ Fr (DkK N) f g, fun X g => X = "java/lang/UnsupportedOperationException" ∧ le = 0 ∧ DkV E g N d 0 (-1) wr ss ∧ Fr (DkK N) f g) := by
  obtain ⟨w, la, bo, sy, va, a, n⟩ := d
  obtain ⟨h2, h3, h4, h5, h6, h7, hv, hs⟩ := id hd
  obtain ⟨o1, o2, o3, o4, o5, o6⟩ := id ho
  refine Ct.of (by decide) (Nat.le_of_ble_eq_true rfl) (fun sz => ?_)
  refine G.eql [(0, .ref (gAd E (2)))] rfl ?_
  refine G.go tv_X2_syncAll 1 1 [(0, .ref (gAd E (2)))] [.ref (gAd E (2))] rfl ?_
  refine G.callV (2) [] [] (c_X2_step E f N w la bo sy va (nI a) (nI n) on le wr ss hE hN hd) cls_X2 (by omega) (h2) cw_X2_61 w_731 w_4 (Nat.le_of_ble_eq_true rfl) rfl (Nat.le_of_ble_eq_true rfl) (tbd tv_X2_syncAll rfl) (fun v1 f1 q1 => ?_) (fun X g h => h)
  obtain ⟨rfl, hle, hd1, hf1⟩ := q1
  refine G.eqs [] rfl ?_
  obtain ⟨g2, g3, g4, g5, g6, g7, gv, gs⟩ := id hd1
  refine G.go tv_X2_syncAll 1 5 [(0, .ref (gAd E (2)))] [.ref (gAd E (2))] rfl ?_
  refine G.getf cls_X2 (2) 7 (by omega) (g2) (by decide) rfl (tbd tv_X2_syncAll rfl) w_240 ?_
  refine G.go tv_X2_syncAll 1 9 [(0, .ref (gAd E (2))), (1, .int (nI n))] [] rfl ?_
  exact sa_loop E _ _ _ N on (if 0 < le then le - 1 else le) wr ss hE hN n f1 (w, la, bo, sy, va, a, n) hd1 ho rfl (fun g h1 h2 => ⟨rfl, hle, h1, hf1.tr h2 (fun _ h => h)⟩)
