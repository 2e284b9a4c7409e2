def tb_X2_writeBlock : List (Nat × Instr × Nat) := [(0, .aload_n 0, 1), (1, .invokevirtual 61, 3), (4, .aload_n 0, 1), (5, .getfield 64, 3), (8, .sipush 256, 3), (11, .if_icmp .ne 7, 3), (14, .aload_n 0, 1), (15, .invokevirtual 67, 3), (18, .aload_n 0, 1), (19, .getfield 70, 3), (22, .aload_n 0, 1), (23, .getfield 64, 3), (26, .iadd, 1), (27, .sipush 256, 3), (30, .irem, 1), (31, .istore_n 3, 1), (32, .aload_n 2, 1), (33, .iconst 0, 1), (34, .aload_n 0, 1), (35, .getfield 13, 3), (38, .iload_n 3, 1), (39, .aaload, 1), (40, .iconst 0, 1), (41, .sipush 128, 3), (44, .invokestatic 73, 3), (47, .aload_n 0, 1), (48, .getfield 16, 3), (51, .iload_n 3, 1), (52, .iload_n 1, 1), (53, .iastore, 1), (54, .aload_n 0, 1), (55, .getfield 37, 3), (58, .iload_n 1, 1), (59, .iload_n 3, 1), (60, .iastore, 1), (61, .aload_n 0, 1), (62, .getfield 31, 3), (65, .iload_n 1, 1), (66, .dup2, 1), (67, .iaload, 1), (68, .iconst 1, 1), (69, .iadd, 1), (70, .iastore, 1), (71, .aload_n 0, 1), (72, .dup, 1), (73, .getfield 64, 3), (76, .iconst 1, 1), (77, .iadd, 1), (78, .putfield 64, 3), (81, .aload_n 0, 1), (82, .dup, 1), (83, .getfield 79, 3), (86, .iconst 1, 1), (87, .iadd, 1), (88, .putfield 79, 3), (91, .return_, 1)]
theorem tv_X2_writeBlock : Tv cX2_writeBlock tb_X2_writeBlock := by
  unfold Tv
  decide +kernel
theorem w_246 : Cond.fieldLink "LedgerFiles$Disk" 79 "LedgerFiles$Disk" "writes" "I" ∈ TB := tp_1 100 (by decide +kernel) rfl
set_option maxRecDepth 100000 in
set_option maxHeartbeats 4000000 in
theorem wb_tail (E : gE) (f : Nat → va_E) (sz : Nat) (A : Nat → Prop) (Q : gQ) (N : Nat) (d : DkT) (on le wr ss : Int32) (hE : 350 + N ≤ gN E) (hN : N ≤ 1024) (hd : DkV E f N d on le wr ss) (ho : dOk N d) (hn1 : d.2.2.2.2.2.2 < 256) (t kv : Nat) (x : Nat → Int32) (ht : t < N) (hkv : kv < gN E) (hx : f kv = oB (gDA E) 128 x) (hxb : Byt x) (hkd : ¬ DkK N kv) (hq : ∀ g, DkV E g N (dPut d t x) on le (wr + 1) ss → Fr (DkK N) f g → Q.1 none g) : G E (7, yX2_writeBlock, 4, none, sz, A) cX2_writeBlock (gO E (7, yX2_writeBlock, 4, none, sz, A) Q) 18 [(0, .ref (gAd E (2))), (1, .int (nI t)), (2, .ref (gAd E (kv)))] [] f := by
  obtain ⟨w, la, bo, sy, va, a, n⟩ := d
  obtain ⟨h2, h3, h4, h5, h6, h7, hv, hs⟩ := id hd
  obtain ⟨o1, o2, o3, o4, o5, o6⟩ := id ho
  have hn : n < 256 := hn1
  have hk2 : (a + n) % 256 < 256 := Nat.mod_lt _ (by decide)
  refine G.go tv_X2_writeBlock 1 19 [(0, .ref (gAd E (2))), (1, .int (nI t)), (2, .ref (gAd E (kv)))] [.ref (gAd E (2))] rfl ?_
  refine G.getf cls_X2 (2) 6 (by omega) (h2) (by decide) rfl (tbd tv_X2_writeBlock rfl) w_239 ?_
  refine G.go tv_X2_writeBlock 1 23 [(0, .ref (gAd E (2))), (1, .int (nI t)), (2, .ref (gAd E (kv)))] [.ref (gAd E (2)), .int (nI a)] rfl ?_
  refine G.getf cls_X2 (2) 7 (by omega) (h2) (by decide) rfl (tbd tv_X2_writeBlock rfl) w_240 ?_
  refine G.go tv_X2_writeBlock 2 30 [(0, .ref (gAd E (2))), (1, .int (nI t)), (2, .ref (gAd E (kv)))] [.int ((256 : Int32)), .int ((nI a) + (nI n))] rfl ?_
  refine G.irem (by decide) (tbd tv_X2_writeBlock rfl) ?_
  refine G.eqs [.int (nI ((a + n) % 256))] (by rw [nI_add, show (256 : Int32) = nI 256 from rfl, pk_rem (by omega) (by omega) (by omega)]) ?_
  refine G.go tv_X2_writeBlock 4 35 [(0, .ref (gAd E (2))), (1, .int (nI t)), (2, .ref (gAd E (kv))), (3, .int (nI ((a + n) % 256)))] [.ref (gAd E (2)), .int ((0 : Int32)), .ref (gAd E (kv))] rfl ?_
  refine G.getf cls_X2 (2) 3 (by omega) (h2) (by decide) rfl (tbd tv_X2_writeBlock rfl) w_234 ?_
  refine G.go tv_X2_writeBlock 1 39 [(0, .ref (gAd E (2))), (1, .int (nI t)), (2, .ref (gAd E (kv))), (3, .int (nI ((a + n) % 256)))] [.int (nI ((a + n) % 256)), .ref (gAd E (5)), .int ((0 : Int32)), .ref (gAd E (kv))] rfl ?_
  refine G.aaldN (5) ((a + n) % 256) (by omega) (h5) (hk2) (by omega) (tbd tv_X2_writeBlock rfl) ?_
  refine G.eqs [.ref (gAd E (94 + ((a + n) % 256))), .int ((0 : Int32)), .ref (gAd E (kv))] (by rw [rwA_at hk2]; rfl) ?_
  refine G.go tv_X2_writeBlock 2 44 [(0, .ref (gAd E (2))), (1, .int (nI t)), (2, .ref (gAd E (kv))), (3, .int (nI ((a + n) % 256)))] [.int ((128 : Int32)), .int ((0 : Int32)), .ref (gAd E (94 + ((a + n) % 256))), .int ((0 : Int32)), .ref (gAd E (kv))] rfl ?_
  refine G.copyB (kv) (94 + ((a + n) % 256)) hkv (hx) (by omega) (hv ((a + n) % 256) hk2) w_753 w_755 w_754 w_167 (by decide) (by decide) (by decide) (by decide) (by decide) (fun i _ => hxb _) (Nat.le_of_ble_eq_true rfl) (Nat.le_of_ble_eq_true rfl) (tbd tv_X2_writeBlock rfl) ?_
  refine G.go tv_X2_writeBlock 1 48 [(0, .ref (gAd E (2))), (1, .int (nI t)), (2, .ref (gAd E (kv))), (3, .int (nI ((a + n) % 256)))] [.ref (gAd E (2))] rfl ?_
  refine G.getf cls_X2 (2) 5 (by omega) (up_n (by omega) (h2)) (by decide) rfl (tbd tv_X2_writeBlock rfl) w_238 ?_
  refine G.go tv_X2_writeBlock 2 53 [(0, .ref (gAd E (2))), (1, .int (nI t)), (2, .ref (gAd E (kv))), (3, .int (nI ((a + n) % 256)))] [.int (nI t), .int (nI ((a + n) % 256)), .ref (gAd E (7))] rfl ?_
  refine G.iastN (7) ((a + n) % 256) (by omega) (up_n (by omega) (h7)) (hk2) (by omega) (tbd tv_X2_writeBlock rfl) ?_
  refine G.go tv_X2_writeBlock 1 55 [(0, .ref (gAd E (2))), (1, .int (nI t)), (2, .ref (gAd E (kv))), (3, .int (nI ((a + n) % 256)))] [.ref (gAd E (2))] rfl ?_
  refine G.getf cls_X2 (2) 4 (by omega) (up_n (by decide) (up_n (by omega) (h2))) (by decide) rfl (tbd tv_X2_writeBlock rfl) w_236 ?_
  refine G.go tv_X2_writeBlock 2 60 [(0, .ref (gAd E (2))), (1, .int (nI t)), (2, .ref (gAd E (kv))), (3, .int (nI ((a + n) % 256)))] [.int (nI ((a + n) % 256)), .int (nI t), .ref (gAd E (6))] rfl ?_
  refine G.iastN (6) (t) (by omega) (up_n (by decide) (up_n (by omega) (h6))) (ht) (by omega) (tbd tv_X2_writeBlock rfl) ?_
  refine G.go tv_X2_writeBlock 1 62 [(0, .ref (gAd E (2))), (1, .int (nI t)), (2, .ref (gAd E (kv))), (3, .int (nI ((a + n) % 256)))] [.ref (gAd E (2))] rfl ?_
  refine G.getf cls_X2 (2) 1 (by omega) (up_n (by decide) (up_n (by decide) (up_n (by omega) (h2)))) (by decide) rfl (tbd tv_X2_writeBlock rfl) w_230 ?_
  refine G.go tv_X2_writeBlock 2 67 [(0, .ref (gAd E (2))), (1, .int (nI t)), (2, .ref (gAd E (kv))), (3, .int (nI ((a + n) % 256)))] [.int (nI t), .ref (gAd E (3)), .int (nI t), .ref (gAd E (3))] rfl ?_
  refine G.ialdN (3) (t) (by omega) (up_n (by decide) (up_n (by decide) (up_n (by omega) (h3)))) (ht) (by omega) (tbd tv_X2_writeBlock rfl) ?_
  refine G.go tv_X2_writeBlock 2 70 [(0, .ref (gAd E (2))), (1, .int (nI t)), (2, .ref (gAd E (kv))), (3, .int (nI ((a + n) % 256)))] [.int (((w) (t)) + ((1 : Int32))), .int (nI t), .ref (gAd E (3))] rfl ?_
  refine G.iastN (3) (t) (by omega) (up_n (by decide) (up_n (by decide) (up_n (by omega) (h3)))) (ht) (by omega) (tbd tv_X2_writeBlock rfl) ?_
  refine G.go tv_X2_writeBlock 2 73 [(0, .ref (gAd E (2))), (1, .int (nI t)), (2, .ref (gAd E (kv))), (3, .int (nI ((a + n) % 256)))] [.ref (gAd E (2)), .ref (gAd E (2))] rfl ?_
  refine G.getf cls_X2 (2) 7 (by omega) (up_n (by decide) (up_n (by decide) (up_n (by decide) (up_n (by omega) (h2))))) (by decide) rfl (tbd tv_X2_writeBlock rfl) w_240 ?_
  refine G.go tv_X2_writeBlock 2 78 [(0, .ref (gAd E (2))), (1, .int (nI t)), (2, .ref (gAd E (kv))), (3, .int (nI ((a + n) % 256)))] [.int ((nI n) + ((1 : Int32))), .ref (gAd E (2))] rfl ?_
  refine G.eqs [.int (nI (n + 1)), .ref (gAd E (2))] (by rw [nI_1]) ?_
  refine G.putfS cls_X2 (2) 7 [.int (nI N), .ref (gAd E (3)), .ref (gAd E (4)), .ref (gAd E (5)), .ref (gAd E (6)), .ref (gAd E (7)), .int (nI a), .int (nI (n + 1)), .int (on), .int (le), .int (wr), .int (ss)] (by omega) (up_n (by decide) (up_n (by decide) (up_n (by decide) (up_n (by omega) (h2))))) rfl (by decide) rfl rfl rfl (Nat.le_of_ble_eq_true rfl) (tbd tv_X2_writeBlock rfl) w_240 ?_
  refine G.go tv_X2_writeBlock 2 83 [(0, .ref (gAd E (2))), (1, .int (nI t)), (2, .ref (gAd E (kv))), (3, .int (nI ((a + n) % 256)))] [.ref (gAd E (2)), .ref (gAd E (2))] rfl ?_
  refine G.getf cls_X2 (2) 10 (by omega) (up_e) (by decide) rfl (tbd tv_X2_writeBlock rfl) w_246 ?_
  refine G.go tv_X2_writeBlock 2 88 [(0, .ref (gAd E (2))), (1, .int (nI t)), (2, .ref (gAd E (kv))), (3, .int (nI ((a + n) % 256)))] [.int ((wr) + ((1 : Int32))), .ref (gAd E (2))] rfl ?_
  refine G.putfS cls_X2 (2) 10 [.int (nI N), .ref (gAd E (3)), .ref (gAd E (4)), .ref (gAd E (5)), .ref (gAd E (6)), .ref (gAd E (7)), .int (nI a), .int (nI (n + 1)), .int (on), .int (le), .int ((wr) + ((1 : Int32))), .int (ss)] (by omega) (up_e) rfl (by decide) rfl rfl rfl (Nat.le_of_ble_eq_true rfl) (tbd tv_X2_writeBlock rfl) w_246 ?_
  refine G.vret rfl (hq _ ?_ (Fr.up (Fr.up (Fr.up (Fr.up (Fr.up (Fr.up (Fr.rf) (Or.inr ⟨by omega, by omega⟩)) (Or.inl ⟨by decide, by decide⟩)) (Or.inl ⟨by decide, by decide⟩)) (Or.inl ⟨by decide, by decide⟩)) (Or.inl ⟨by decide, by decide⟩)) (Or.inl ⟨by decide, by decide⟩))) (tbd tv_X2_writeBlock rfl)
  show Dk E _ N (upd w t (w t + 1)) (upd la t (nI ((a + n) % 256))) (upd bo ((a + n) % 256) (nI t)) sy (va_up va ((a + n) % 256) (va_cpy x (va ((a + n) % 256)) 0 0 128)) (nI a) (nI (n + 1)) on le (wr + 1) ss
  exact ⟨up_e, up_n (by decide) (up_n (by decide) (up_e)), up_n (by decide) (up_n (by decide) (up_n (by decide) (up_n (by decide) (up_n (by decide) (up_n (by omega) (h4)))))), up_n (by decide) (up_n (by decide) (up_n (by decide) (up_n (by decide) (up_n (by decide) (up_n (by omega) (h5)))))), up_n (by decide) (up_n (by decide) (up_n (by decide) (up_e))), up_n (by decide) (up_n (by decide) (up_n (by decide) (up_n (by decide) (up_e)))), Rws.keep (Rws.keep (Rws.keep (Rws.keep (Rws.keep (Rws.put _ (hv)) (by omega)) (by omega)) (by omega)) (by omega)) (by omega), Rws.keep (Rws.keep (Rws.keep (Rws.keep (Rws.keep (Rws.keep (hs) (by omega)) (by omega)) (by omega)) (by omega)) (by omega)) (by omega)⟩
theorem w_729 : Cond.methodLink "LedgerFiles$Disk" 61 yX2_step ∈ TB := tp_3 103 (by decide +kernel) rfl
theorem w_732 : Cond.code yX2_step prog_4_method_9_code 1 none ∈ TB := tp_3 106 rfl rfl
theorem cw_X2_61 : Cw RX2 61 yX2_step cX2_step 1 none 0 := ⟨w_729, w_732, w_149, by decide +kernel, by decide +kernel, by decide⟩
theorem w_731 : Cond.instanceMethod yX2_step ∈ TB := tp_3 105 (by decide +kernel) rfl
theorem w_4 : Cond.selects "LedgerFiles$Disk" yX2_step yX2_step ∈ TB := tp_0 4 (by decide +kernel) rfl
theorem w_749 : Cond.methodLink "LedgerFiles$Disk" 67 yX2_keepOldest ∈ TB := tp_3 123 (by decide +kernel) rfl
theorem w_752 : Cond.code yX2_keepOldest prog_4_method_11_code 2 none ∈ TB := tp_3 126 rfl rfl
theorem cw_X2_67 : Cw RX2 67 yX2_keepOldest cX2_keepOldest 2 none 0 := ⟨w_749, w_752, w_149, by decide +kernel, by decide +kernel, by decide⟩
theorem w_751 : Cond.instanceMethod yX2_keepOldest ∈ TB := tp_3 125 (by decide +kernel) rfl
theorem w_5 : Cond.selects "LedgerFiles$Disk" yX2_keepOldest yX2_keepOldest ∈ TB := tp_0 5 (by decide +kernel) rfl
set_option maxRecDepth 100000 in
set_option maxHeartbeats 4000000 in
/-- one value more waits -/
theorem c_X2_writeBlock (E : gE) (f : Nat → va_E) (N : Nat) (d : DkT) (on le wr ss : Int32) (hE : 350 + N ≤ gN E) (hN : N ≤ 1024) (hd : DkV E f N d on le wr ss) (ho : dOk N d) (t kv : Nat) (x : Nat → Int32) (ht : t < N) (hkv : kv < gN E) (hx : f kv = oB (gDA E) 128 x) (hxb : Byt x) (hkd : ¬ DkK N kv) : Ct E 7 yX2_writeBlock cX2_writeBlock 4 none [.ref (gAd E (2)), .int (nI t), .ref (gAd E (kv))] f (fun v g => v = none ∧ ¬ le = 0 ∧ DkV E g N (dWrite d t x) on (if 0 < le then le - 1 else le) (wr + 1) ss ∧ Fr (DkK N) f g, fun X g => X = "java/lang/UnsupportedOperationException" ∧ le = 0 ∧ DkV E g N d 0 (-1) wr ss ∧ Fr (DkK N) f g) := by
  obtain ⟨w, la, bo, sy, va, a, n⟩ := d
  obtain ⟨h2, h3, h4, h5, h6, h7, hv, hs⟩ := id hd
  obtain ⟨o1, o2, o3, o4, o5, o6⟩ := id ho
  refine Ct.of (by decide) (Nat.le_of_ble_eq_true rfl) (fun sz => ?_)
  refine G.eql [(0, .ref (gAd E (2))), (1, .int (nI t)), (2, .ref (gAd E (kv)))] rfl ?_
  refine G.go tv_X2_writeBlock 1 1 [(0, .ref (gAd E (2))), (1, .int (nI t)), (2, .ref (gAd E (kv)))] [.ref (gAd E (2))] rfl ?_
  refine G.callV (2) [] [] (c_X2_step E f N w la bo sy va (nI a) (nI n) on le wr ss hE hN hd) cls_X2 (by omega) (h2) cw_X2_61 w_731 w_4 (Nat.le_of_ble_eq_true rfl) rfl (Nat.le_of_ble_eq_true rfl) (tbd tv_X2_writeBlock rfl) (fun v1 f1 q1 => ?_) (fun X g h => h)
  obtain ⟨rfl, hle, hd1, hf1⟩ := q1
  refine G.eqs [] rfl ?_
  obtain ⟨h21, h31, h41, h51, h61, h71, hv1, hs1⟩ := id hd1
  refine G.go tv_X2_writeBlock 1 5 [(0, .ref (gAd E (2))), (1, .int (nI t)), (2, .ref (gAd E (kv)))] [.ref (gAd E (2))] rfl ?_
  refine G.getf cls_X2 (2) 7 (by omega) (h21) (by decide) rfl (tbd tv_X2_writeBlock rfl) w_240 ?_
  refine G.go tv_X2_writeBlock 1 11 [(0, .ref (gAd E (2))), (1, .int (nI t)), (2, .ref (gAd E (kv)))] [.int ((256 : Int32)), .int (nI n)] rfl ?_
  refine G.cmp_ne 18 (tbd tv_X2_writeBlock rfl) (by decide) (fun c11 => ?_) (fun c11 => ?_)
  · skip
    exact wb_tail E f1 _ _ _ N (w, la, bo, sy, va, a, n) on (if 0 < le then le - 1 else le) wr ss hE hN hd1 ho (by show n < 256; have : ¬ n = 256 := fun q => c11 (by rw [q]; rfl); omega) t kv x ht hkv ((hf1 kv hkd).trans hx) hxb hkd (fun g h1 h2 => ⟨rfl, hle, by unfold dWrite; rw [if_neg (fun q : n = 256 => c11 (by rw [q]; rfl))]; exact h1, hf1.tr h2 (fun _ h => h)⟩)
  · skip
    refine G.go tv_X2_writeBlock 1 15 [(0, .ref (gAd E (2))), (1, .int (nI t)), (2, .ref (gAd E (kv)))] [.ref (gAd E (2))] rfl ?_
    have hn6 : n = 256 := (nI_eq (by omega) (by omega)).mp c11
    refine G.callV (2) [] [] (c_X2_keepOldest E f1 N (w, la, bo, sy, va, a, n) on (if 0 < le then le - 1 else le) wr ss hE hN hd1 ho (by show 1 ≤ n; omega)) cls_X2 (by omega) (h21) cw_X2_67 w_751 w_5 (Nat.le_of_ble_eq_true rfl) rfl (Nat.le_of_ble_eq_true rfl) (tbd tv_X2_writeBlock rfl) (fun v2 f2 q2 => ?_) (fun _ _ h => h.elim)
    obtain ⟨rfl, hd2, hf2⟩ := q2
    refine G.eqs [] rfl ?_
    exact wb_tail E f2 _ _ _ N (dKeep (w, la, bo, sy, va, a, n)) on (if 0 < le then le - 1 else le) wr ss hE hN hd2 (dKeep_ok hN ho) (by show n - 1 < 256; omega) t kv x ht hkv ((hf2 kv hkd).trans ((hf1 kv hkd).trans hx)) hxb hkd (fun g h1 h2 => ⟨rfl, hle, by unfold dWrite; rw [if_pos hn6]; exact h1, (hf1.tr hf2 (fun _ h => h)).tr h2 (fun _ h => h)⟩)
