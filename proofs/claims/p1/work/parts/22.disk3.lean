def tb_X2_row : List (Nat × Instr × Nat) := [(0, .aload_n 0, 1), (1, .getfield 37, 3), (4, .iload_n 1, 1), (5, .iaload, 1), (6, .iconst (-1), 1), (7, .if_icmp .ne 12, 3), (10, .aload_n 0, 1), (11, .getfield 34, 3), (14, .iload_n 1, 1), (15, .aaload, 1), (16, .goto 14, 3), (19, .aload_n 0, 1), (20, .getfield 13, 3), (23, .aload_n 0, 1), (24, .getfield 37, 3), (27, .iload_n 1, 1), (28, .iaload, 1), (29, .aaload, 1), (30, .areturn, 1)]
theorem tv_X2_row : Tv cX2_row tb_X2_row := by
  unfold Tv
  decide +kernel
theorem w_236 : Cond.fieldLink "LedgerFiles$Disk" 37 "LedgerFiles$Disk" "latest" "[I" ∈ TB := tp_1 90 (by decide +kernel) rfl
theorem w_234 : Cond.fieldLink "LedgerFiles$Disk" 13 "LedgerFiles$Disk" "values" "[[B" ∈ TB := tp_1 88 (by decide +kernel) rfl
theorem w_232 : Cond.fieldLink "LedgerFiles$Disk" 34 "LedgerFiles$Disk" "synced" "[[B" ∈ TB := tp_1 86 (by decide +kernel) rfl
set_option maxRecDepth 100000 in
set_option maxHeartbeats 4000000 in
/-- what the disk reads of a block: its row by key -/
theorem c_X2_row (E : gE) (f : Nat → va_E) (N : Nat) (d : DkT) (on le wr ss : Int32) (hE : 350 + N ≤ gN E) (hN : N ≤ 1024) (hd : DkV E f N d on le wr ss) (ho : dOk N d) (t : Nat) (ht : t < N) : Ct E 1 yX2_row cX2_row 2 (some (.array .byte)) [.ref (gAd E 2), .int (nI t)] f (fun v g => f = g ∧ ((d.2.1 t = -1 ∧ v = some (.ref (gAd E (350 + t)))) ∨ ∃ u, u < 256 ∧ d.2.1 t = nI u ∧ v = some (.ref (gAd E (94 + u)))), fun _ _ => False) := by
  obtain ⟨w, la, bo, sy, va, a, n⟩ := d
  obtain ⟨h2, h3, h4, h5, h6, h7, hv, hs⟩ := id hd
  obtain ⟨o1, o2, o3, o4, o5, o6⟩ := id ho
  refine Ct.of (by decide) (Nat.le_of_ble_eq_true rfl) (fun sz => ?_)
  refine G.eql [(0, .ref (gAd E (2))), (1, .int (nI t))] rfl ?_
  refine G.go tv_X2_row 1 1 [(0, .ref (gAd E (2))), (1, .int (nI t))] [.ref (gAd E (2))] rfl ?_
  refine G.getf cls_X2 (2) 4 (by omega) (h2) (by decide) rfl (tbd tv_X2_row rfl) w_236 ?_
  refine G.go tv_X2_row 1 5 [(0, .ref (gAd E (2))), (1, .int (nI t))] [.int (nI t), .ref (gAd E (6))] rfl ?_
  refine G.ialdN (6) (t) (by omega) (h6) (by omega) (by omega) (tbd tv_X2_row rfl) ?_
  refine G.go tv_X2_row 1 7 [(0, .ref (gAd E (2))), (1, .int (nI t))] [.int ((-1 : Int32)), .int ((la) (t))] rfl ?_
  refine G.cmp_ne 19 (tbd tv_X2_row rfl) (by decide) (fun c7 => ?_) (fun c7 => ?_)
  · obtain ⟨u, hu, e⟩ := (o6 t ht).resolve_left c7
    refine G.go tv_X2_row 1 20 [(0, .ref (gAd E (2))), (1, .int (nI t))] [.ref (gAd E (2))] rfl ?_
    refine G.getf cls_X2 (2) 3 (by omega) (h2) (by decide) rfl (tbd tv_X2_row rfl) w_234 ?_
    refine G.go tv_X2_row 1 24 [(0, .ref (gAd E (2))), (1, .int (nI t))] [.ref (gAd E (2)), .ref (gAd E (5))] rfl ?_
    refine G.getf cls_X2 (2) 4 (by omega) (h2) (by decide) rfl (tbd tv_X2_row rfl) w_236 ?_
    refine G.go tv_X2_row 1 28 [(0, .ref (gAd E (2))), (1, .int (nI t))] [.int (nI t), .ref (gAd E (6)), .ref (gAd E (5))] rfl ?_
    refine G.ialdN (6) (t) (by omega) (h6) (by omega) (by omega) (tbd tv_X2_row rfl) ?_
    refine G.eqs [.int (nI u), .ref (gAd E (5))] (by rw [e]) ?_
    refine G.aaldN (5) (u) (by omega) (h5) (by omega) (by omega) (tbd tv_X2_row rfl) ?_
    refine G.eqs [.ref (gAd E (94 + u))] (by rw [rwA_at (by omega)]; rfl) ?_
    exact G.aret rfl (⟨rfl, Or.inr ⟨u, hu, e, rfl⟩⟩) (tbd tv_X2_row rfl)
  · skip
    refine G.go tv_X2_row 1 11 [(0, .ref (gAd E (2))), (1, .int (nI t))] [.ref (gAd E (2))] rfl ?_
    refine G.getf cls_X2 (2) 2 (by omega) (h2) (by decide) rfl (tbd tv_X2_row rfl) w_232 ?_
    refine G.go tv_X2_row 1 15 [(0, .ref (gAd E (2))), (1, .int (nI t))] [.int (nI t), .ref (gAd E (4))] rfl ?_
    refine G.aaldN (4) (t) (by omega) (h4) (by omega) (by omega) (tbd tv_X2_row rfl) ?_
    refine G.eqs [.ref (gAd E (350 + t))] (by rw [rwA_at (by omega)]; rfl) ?_
    refine G.go tv_X2_row 1 30 [(0, .ref (gAd E (2))), (1, .int (nI t))] [.ref (gAd E (350 + t))] rfl ?_
    exact G.aret rfl (⟨rfl, Or.inl ⟨c7, rfl⟩⟩) (tbd tv_X2_row rfl)
def tb_X2_keepOldest : List (Nat × Instr × Nat) := [(0, .aload_n 0, 1), (1, .getfield 16, 3), (4, .aload_n 0, 1), (5, .getfield 70, 3), (8, .iaload, 1), (9, .istore_n 1, 1), (10, .aload_n 0, 1), (11, .getfield 13, 3), (14, .aload_n 0, 1), (15, .getfield 70, 3), (18, .aaload, 1), (19, .iconst 0, 1), (20, .aload_n 0, 1), (21, .getfield 34, 3), (24, .iload_n 1, 1), (25, .aaload, 1), (26, .iconst 0, 1), (27, .sipush 128, 3), (30, .invokestatic 73, 3), (33, .aload_n 0, 1), (34, .getfield 31, 3), (37, .iload_n 1, 1), (38, .dup2, 1), (39, .iaload, 1), (40, .iconst 1, 1), (41, .isub, 1), (42, .iastore, 1), (43, .aload_n 0, 1), (44, .getfield 31, 3), (47, .iload_n 1, 1), (48, .iaload, 1), (49, .ifCond .ne 10, 3), (52, .aload_n 0, 1), (53, .getfield 37, 3), (56, .iload_n 1, 1), (57, .iconst (-1), 1), (58, .iastore, 1), (59, .aload_n 0, 1), (60, .aload_n 0, 1), (61, .getfield 70, 3), (64, .iconst 1, 1), (65, .iadd, 1), (66, .sipush 256, 3), (69, .irem, 1), (70, .putfield 70, 3), (73, .aload_n 0, 1), (74, .dup, 1), (75, .getfield 64, 3), (78, .iconst 1, 1), (79, .isub, 1), (80, .putfield 64, 3), (83, .return_, 1)]
theorem tv_X2_keepOldest : Tv cX2_keepOldest tb_X2_keepOldest := by
  unfold Tv
  decide +kernel
theorem w_238 : Cond.fieldLink "LedgerFiles$Disk" 16 "LedgerFiles$Disk" "blockOf" "[I" ∈ TB := tp_1 92 (by decide +kernel) rfl
theorem w_239 : Cond.fieldLink "LedgerFiles$Disk" 70 "LedgerFiles$Disk" "first" "I" ∈ TB := tp_1 93 (by decide +kernel) rfl
theorem w_753 : Cond.methodLink "LedgerFiles$Disk" 73 ⟨"java/lang/System", "arraycopy", "(Ljava/lang/Object;ILjava/lang/Object;II)V"⟩ ∈ TB := tp_3 127 (by decide +kernel) rfl
theorem w_755 : Cond.native ⟨"java/lang/System", "arraycopy", "(Ljava/lang/Object;ILjava/lang/Object;II)V"⟩ ∈ TB := tp_3 129 (by decide +kernel) rfl
theorem w_754 : Cond.static ⟨"java/lang/System", "arraycopy", "(Ljava/lang/Object;ILjava/lang/Object;II)V"⟩ ∈ TB := tp_3 128 (by decide +kernel) rfl
theorem w_167 : Cond.initialized "java/lang/System" ∈ TB := tp_1 21 (by decide +kernel) rfl
theorem w_230 : Cond.fieldLink "LedgerFiles$Disk" 31 "LedgerFiles$Disk" "waits" "[I" ∈ TB := tp_1 84 (by decide +kernel) rfl
theorem w_240 : Cond.fieldLink "LedgerFiles$Disk" 64 "LedgerFiles$Disk" "held" "I" ∈ TB := tp_1 94 (by decide +kernel) rfl
set_option maxRecDepth 100000 in
set_option maxHeartbeats 4000000 in
/-- the first value that waits is synced -/
theorem c_X2_keepOldest (E : gE) (f : Nat → va_E) (N : Nat) (d : DkT) (on le wr ss : Int32) (hE : 350 + N ≤ gN E) (hN : N ≤ 1024) (hd : DkV E f N d on le wr ss) (ho : dOk N d) (hn1 : 1 ≤ d.2.2.2.2.2.2) : Ct E 1 yX2_keepOldest cX2_keepOldest 2 none [.ref (gAd E 2)] f (fun v g => v = none ∧ DkV E g N (dKeep d) on le wr ss ∧ Fr (DkK N) f g, fun _ _ => False) := by
  obtain ⟨w, la, bo, sy, va, a, n⟩ := d
  obtain ⟨h2, h3, h4, h5, h6, h7, hv, hs⟩ := id hd
  obtain ⟨o1, o2, o3, o4, o5, o6⟩ := id ho
  have hn : 1 ≤ n := hn1
  obtain ⟨t, ht, hb⟩ := o3 a o1
  have hbc : (bo a).toNatClampNeg = t := by rw [hb]; exact nI_clamp (by omega)
  refine Ct.of (by decide) (Nat.le_of_ble_eq_true rfl) (fun sz => ?_)
  refine G.eql [(0, .ref (gAd E (2)))] rfl ?_
  refine G.go tv_X2_keepOldest 1 1 [(0, .ref (gAd E (2)))] [.ref (gAd E (2))] rfl ?_
  refine G.getf cls_X2 (2) 5 (by omega) (h2) (by decide) rfl (tbd tv_X2_keepOldest rfl) w_238 ?_
  refine G.go tv_X2_keepOldest 1 5 [(0, .ref (gAd E (2)))] [.ref (gAd E (2)), .ref (gAd E (7))] rfl ?_
  refine G.getf cls_X2 (2) 6 (by omega) (h2) (by decide) rfl (tbd tv_X2_keepOldest rfl) w_239 ?_
  refine G.ialdN (7) (a) (by omega) (h7) (by omega) (by omega) (tbd tv_X2_keepOldest rfl) ?_
  refine G.eqs [.int (nI t)] (by rw [hb]) ?_
  refine G.go tv_X2_keepOldest 2 11 [(0, .ref (gAd E (2))), (1, .int (nI t))] [.ref (gAd E (2))] rfl ?_
  refine G.getf cls_X2 (2) 3 (by omega) (h2) (by decide) rfl (tbd tv_X2_keepOldest rfl) w_234 ?_
  refine G.go tv_X2_keepOldest 1 15 [(0, .ref (gAd E (2))), (1, .int (nI t))] [.ref (gAd E (2)), .ref (gAd E (5))] rfl ?_
  refine G.getf cls_X2 (2) 6 (by omega) (h2) (by decide) rfl (tbd tv_X2_keepOldest rfl) w_239 ?_
  refine G.aaldN (5) (a) (by omega) (h5) (by omega) (by omega) (tbd tv_X2_keepOldest rfl) ?_
  refine G.eqs [.ref (gAd E (94 + a))] (by rw [rwA_at (by omega)]; rfl) ?_
  refine G.go tv_X2_keepOldest 2 21 [(0, .ref (gAd E (2))), (1, .int (nI t))] [.ref (gAd E (2)), .int ((0 : Int32)), .ref (gAd E (94 + a))] rfl ?_
  refine G.getf cls_X2 (2) 2 (by omega) (h2) (by decide) rfl (tbd tv_X2_keepOldest rfl) w_232 ?_
  refine G.go tv_X2_keepOldest 1 25 [(0, .ref (gAd E (2))), (1, .int (nI t))] [.int (nI t), .ref (gAd E (4)), .int ((0 : Int32)), .ref (gAd E (94 + a))] rfl ?_
  refine G.aaldN (4) (t) (by omega) (h4) (by omega) (by omega) (tbd tv_X2_keepOldest rfl) ?_
  refine G.eqs [.ref (gAd E (350 + t)), .int ((0 : Int32)), .ref (gAd E (94 + a))] (by rw [rwA_at (by omega)]; rfl) ?_
  refine G.go tv_X2_keepOldest 2 30 [(0, .ref (gAd E (2))), (1, .int (nI t))] [.int ((128 : Int32)), .int ((0 : Int32)), .ref (gAd E (350 + t)), .int ((0 : Int32)), .ref (gAd E (94 + a))] rfl ?_
  refine G.copyB (94 + a) (350 + t) (by omega) (hv a (by omega)) (by omega) (hs t (by omega)) w_753 w_755 w_754 w_167 (by decide) (by decide) (by decide) (by decide) (by decide) (fun i _ => o5 a _) (Nat.le_of_ble_eq_true rfl) (Nat.le_of_ble_eq_true rfl) (tbd tv_X2_keepOldest rfl) ?_
  refine G.go tv_X2_keepOldest 1 34 [(0, .ref (gAd E (2))), (1, .int (nI t))] [.ref (gAd E (2))] rfl ?_
  refine G.getf cls_X2 (2) 1 (by omega) (up_n (by omega) (h2)) (by decide) rfl (tbd tv_X2_keepOldest rfl) w_230 ?_
  refine G.go tv_X2_keepOldest 2 39 [(0, .ref (gAd E (2))), (1, .int (nI t))] [.int (nI t), .ref (gAd E (3)), .int (nI t), .ref (gAd E (3))] rfl ?_
  refine G.ialdN (3) (t) (by omega) (up_n (by omega) (h3)) (by omega) (by omega) (tbd tv_X2_keepOldest rfl) ?_
  refine G.go tv_X2_keepOldest 2 42 [(0, .ref (gAd E (2))), (1, .int (nI t))] [.int (((w) (t)) - ((1 : Int32))), .int (nI t), .ref (gAd E (3))] rfl ?_
  refine G.iastN (3) (t) (by omega) (up_n (by omega) (h3)) (by omega) (by omega) (tbd tv_X2_keepOldest rfl) ?_
  refine G.go tv_X2_keepOldest 1 44 [(0, .ref (gAd E (2))), (1, .int (nI t))] [.ref (gAd E (2))] rfl ?_
  refine G.getf cls_X2 (2) 1 (by omega) (up_n (by decide) (up_n (by omega) (h2))) (by decide) rfl (tbd tv_X2_keepOldest rfl) w_230 ?_
  refine G.go tv_X2_keepOldest 1 48 [(0, .ref (gAd E (2))), (1, .int (nI t))] [.int (nI t), .ref (gAd E (3))] rfl ?_
  refine G.ialdN (3) (t) (by omega) (up_e) (by omega) (by omega) (tbd tv_X2_keepOldest rfl) ?_
  refine G.eqs [.int ((w t) - (1 : Int32))] (by rw [pk_us]) ?_
  refine G.if_ne 59 (tbd tv_X2_keepOldest rfl) (by decide) (fun c49 => ?_) (fun c49 => ?_)
  · skip
    refine G.go tv_X2_keepOldest 2 61 [(0, .ref (gAd E (2))), (1, .int (nI t))] [.ref (gAd E (2)), .ref (gAd E (2))] rfl ?_
    refine G.getf cls_X2 (2) 6 (by omega) (up_n (by decide) (up_n (by omega) (h2))) (by decide) rfl (tbd tv_X2_keepOldest rfl) w_239 ?_
    refine G.go tv_X2_keepOldest 3 69 [(0, .ref (gAd E (2))), (1, .int (nI t))] [.int ((256 : Int32)), .int ((nI a) + ((1 : Int32))), .ref (gAd E (2))] rfl ?_
    refine G.irem (by decide) (tbd tv_X2_keepOldest rfl) ?_
    refine G.eqs [.int (nI ((a + 1) % 256)), .ref (gAd E (2))] (by rw [nI_1, show (256 : Int32) = nI 256 from rfl, pk_rem (by omega) (by omega) (by omega)]) ?_
    refine G.putfS cls_X2 (2) 6 [.int (nI N), .ref (gAd E (3)), .ref (gAd E (4)), .ref (gAd E (5)), .ref (gAd E (6)), .ref (gAd E (7)), .int (nI ((a + 1) % 256)), .int (nI n), .int (on), .int (le), .int (wr), .int (ss)] (by omega) (up_n (by decide) (up_n (by omega) (h2))) rfl (by decide) rfl rfl rfl (Nat.le_of_ble_eq_true rfl) (tbd tv_X2_keepOldest rfl) w_239 ?_
    refine G.go tv_X2_keepOldest 2 75 [(0, .ref (gAd E (2))), (1, .int (nI t))] [.ref (gAd E (2)), .ref (gAd E (2))] rfl ?_
    refine G.getf cls_X2 (2) 7 (by omega) (up_e) (by decide) rfl (tbd tv_X2_keepOldest rfl) w_240 ?_
    refine G.go tv_X2_keepOldest 2 80 [(0, .ref (gAd E (2))), (1, .int (nI t))] [.int ((nI n) - ((1 : Int32))), .ref (gAd E (2))] rfl ?_
    refine G.eqs [.int (nI (n - 1)), .ref (gAd E (2))] (by rw [show (1 : Int32) = nI 1 from rfl, pk_sub hn]) ?_
    refine G.putfS cls_X2 (2) 7 [.int (nI N), .ref (gAd E (3)), .ref (gAd E (4)), .ref (gAd E (5)), .ref (gAd E (6)), .ref (gAd E (7)), .int (nI ((a + 1) % 256)), .int (nI (n - 1)), .int (on), .int (le), .int (wr), .int (ss)] (by omega) (up_e) rfl (by decide) rfl rfl rfl (Nat.le_of_ble_eq_true rfl) (tbd tv_X2_keepOldest rfl) w_240 ?_
    refine G.vret rfl ?_ (tbd tv_X2_keepOldest rfl)
    refine ⟨rfl, ?_, Fr.up (Fr.up (Fr.up (Fr.up (Fr.rf) (Or.inr ⟨by omega, by omega⟩)) (Or.inl ⟨by decide, by decide⟩)) (Or.inl ⟨by decide, by decide⟩)) (Or.inl ⟨by decide, by decide⟩)⟩
    show Dk E _ N (upd w (bo a).toNatClampNeg (w (bo a).toNatClampNeg - 1)) (if w (bo a).toNatClampNeg - 1 = 0 then upd la (bo a).toNatClampNeg (-1) else la) bo (va_up sy (bo a).toNatClampNeg (va_cpy (va a) (sy (bo a).toNatClampNeg) 0 0 128)) va (nI ((a + 1) % 256)) (nI (n - 1)) on le wr ss
    rw [hbc, if_neg c49]
    exact ⟨up_e, up_n (by decide) (up_n (by decide) (up_e)), up_n (by decide) (up_n (by decide) (up_n (by decide) (up_n (by omega) (h4)))), up_n (by decide) (up_n (by decide) (up_n (by decide) (up_n (by omega) (h5)))), up_n (by decide) (up_n (by decide) (up_n (by decide) (up_n (by omega) (h6)))), up_n (by decide) (up_n (by decide) (up_n (by decide) (up_n (by omega) (h7)))), Rws.keep (Rws.keep (Rws.keep (Rws.keep (hv) (by omega)) (by omega)) (by omega)) (by omega), Rws.keep (Rws.keep (Rws.keep (Rws.put _ (hs)) (by omega)) (by omega)) (by omega)⟩
  · skip
    refine G.go tv_X2_keepOldest 1 53 [(0, .ref (gAd E (2))), (1, .int (nI t))] [.ref (gAd E (2))] rfl ?_
    refine G.getf cls_X2 (2) 4 (by omega) (up_n (by decide) (up_n (by omega) (h2))) (by decide) rfl (tbd tv_X2_keepOldest rfl) w_236 ?_
    refine G.go tv_X2_keepOldest 2 58 [(0, .ref (gAd E (2))), (1, .int (nI t))] [.int ((-1 : Int32)), .int (nI t), .ref (gAd E (6))] rfl ?_
    refine G.iastN (6) (t) (by omega) (up_n (by decide) (up_n (by omega) (h6))) (by omega) (by omega) (tbd tv_X2_keepOldest rfl) ?_
    refine G.go tv_X2_keepOldest 2 61 [(0, .ref (gAd E (2))), (1, .int (nI t))] [.ref (gAd E (2)), .ref (gAd E (2))] rfl ?_
    refine G.getf cls_X2 (2) 6 (by omega) (up_n (by decide) (up_n (by decide) (up_n (by omega) (h2)))) (by decide) rfl (tbd tv_X2_keepOldest rfl) w_239 ?_
    refine G.go tv_X2_keepOldest 3 69 [(0, .ref (gAd E (2))), (1, .int (nI t))] [.int ((256 : Int32)), .int ((nI a) + ((1 : Int32))), .ref (gAd E (2))] rfl ?_
    refine G.irem (by decide) (tbd tv_X2_keepOldest rfl) ?_
    refine G.eqs [.int (nI ((a + 1) % 256)), .ref (gAd E (2))] (by rw [nI_1, show (256 : Int32) = nI 256 from rfl, pk_rem (by omega) (by omega) (by omega)]) ?_
    refine G.putfS cls_X2 (2) 6 [.int (nI N), .ref (gAd E (3)), .ref (gAd E (4)), .ref (gAd E (5)), .ref (gAd E (6)), .ref (gAd E (7)), .int (nI ((a + 1) % 256)), .int (nI n), .int (on), .int (le), .int (wr), .int (ss)] (by omega) (up_n (by decide) (up_n (by decide) (up_n (by omega) (h2)))) rfl (by decide) rfl rfl rfl (Nat.le_of_ble_eq_true rfl) (tbd tv_X2_keepOldest rfl) w_239 ?_
    refine G.go tv_X2_keepOldest 2 75 [(0, .ref (gAd E (2))), (1, .int (nI t))] [.ref (gAd E (2)), .ref (gAd E (2))] rfl ?_
    refine G.getf cls_X2 (2) 7 (by omega) (up_e) (by decide) rfl (tbd tv_X2_keepOldest rfl) w_240 ?_
    refine G.go tv_X2_keepOldest 2 80 [(0, .ref (gAd E (2))), (1, .int (nI t))] [.int ((nI n) - ((1 : Int32))), .ref (gAd E (2))] rfl ?_
    refine G.eqs [.int (nI (n - 1)), .ref (gAd E (2))] (by rw [show (1 : Int32) = nI 1 from rfl, pk_sub hn]) ?_
    refine G.putfS cls_X2 (2) 7 [.int (nI N), .ref (gAd E (3)), .ref (gAd E (4)), .ref (gAd E (5)), .ref (gAd E (6)), .ref (gAd E (7)), .int (nI ((a + 1) % 256)), .int (nI (n - 1)), .int (on), .int (le), .int (wr), .int (ss)] (by omega) (up_e) rfl (by decide) rfl rfl rfl (Nat.le_of_ble_eq_true rfl) (tbd tv_X2_keepOldest rfl) w_240 ?_
    refine G.vret rfl ?_ (tbd tv_X2_keepOldest rfl)
    refine ⟨rfl, ?_, Fr.up (Fr.up (Fr.up (Fr.up (Fr.up (Fr.rf) (Or.inr ⟨by omega, by omega⟩)) (Or.inl ⟨by decide, by decide⟩)) (Or.inl ⟨by decide, by decide⟩)) (Or.inl ⟨by decide, by decide⟩)) (Or.inl ⟨by decide, by decide⟩)⟩
    show Dk E _ N (upd w (bo a).toNatClampNeg (w (bo a).toNatClampNeg - 1)) (if w (bo a).toNatClampNeg - 1 = 0 then upd la (bo a).toNatClampNeg (-1) else la) bo (va_up sy (bo a).toNatClampNeg (va_cpy (va a) (sy (bo a).toNatClampNeg) 0 0 128)) va (nI ((a + 1) % 256)) (nI (n - 1)) on le wr ss
    rw [hbc, if_pos c49]
    exact ⟨up_e, up_n (by decide) (up_n (by decide) (up_n (by decide) (up_e))), up_n (by decide) (up_n (by decide) (up_n (by decide) (up_n (by decide) (up_n (by omega) (h4))))), up_n (by decide) (up_n (by decide) (up_n (by decide) (up_n (by decide) (up_n (by omega) (h5))))), up_n (by decide) (up_n (by decide) (up_e)), up_n (by decide) (up_n (by decide) (up_n (by decide) (up_n (by decide) (up_n (by omega) (h7))))), Rws.keep (Rws.keep (Rws.keep (Rws.keep (Rws.keep (hv) (by omega)) (by omega)) (by omega)) (by omega)) (by omega), Rws.keep (Rws.keep (Rws.keep (Rws.keep (Rws.put _ (hs)) (by omega)) (by omega)) (by omega)) (by omega)⟩
