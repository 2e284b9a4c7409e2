def tb_X0_settle : List (Nat × Instr × Nat) := [(0, .aload_n 0, 1), (1, .iconst (-1), 1), (2, .invokevirtual 69, 3), (5, .istore_n 1, 1), (6, .aload_n 0, 1), (7, .getfield 57, 3), (10, .istore_n 2, 1), (11, .iload_n 2, 1), (12, .ifCond .le 49, 3), (15, .iload_n 1, 1), (16, .iconst (-1), 1), (17, .if_icmp .eq 44, 3), (20, .aload_n 0, 1), (21, .getfield 9, 3), (24, .iload_n 1, 1), (25, .aload_n 0, 1), (26, .getfield 17, 3), (29, .aload_n 0, 1), (30, .getfield 33, 3), (33, .iload_n 1, 1), (34, .iaload, 1), (35, .aaload, 1), (36, .invokevirtual 46, 3), (39, .aload_n 0, 1), (40, .aload_n 0, 1), (41, .getfield 33, 3), (44, .iload_n 1, 1), (45, .iaload, 1), (46, .invokevirtual 50, 3), (49, .aload_n 0, 1), (50, .iload_n 1, 1), (51, .invokevirtual 69, 3), (54, .istore_n 1, 1), (55, .iinc 2 (-1), 3), (58, .goto (-47), 3), (61, .aload_n 0, 1), (62, .getfield 9, 3), (65, .invokevirtual 73, 3), (68, .return_, 1)]
theorem tv_X0_settle : Tv cX0_settle tb_X0_settle := by
  unfold Tv
  decide +kernel
theorem w_769 : Cond.methodLink "LedgerFiles$Buffer" 73 yX2_syncAll ∈ TB := tp_3 143 (by decide +kernel) rfl
theorem w_772 : Cond.code yX2_syncAll prog_4_method_12_code 2 none ∈ TB := tp_3 146 rfl rfl
theorem cw_X0_73 : Cw RX0 73 yX2_syncAll cX2_syncAll 2 none 0 := ⟨w_769, w_772, w_149, by decide +kernel, by decide +kernel, by decide⟩
theorem w_770 : Cond.instanceMethod yX2_syncAll ∈ TB := tp_3 144 (by decide +kernel) rfl
theorem w_771 : Cond.selects "LedgerFiles$Disk" yX2_syncAll yX2_syncAll ∈ TB := tp_3 145 (by decide +kernel) rfl
set_option maxRecDepth 100000 in
set_option maxHeartbeats 4000000 in
theorem se_end (E : gE) (f : Nat → va_E) (sz : Nat) (A : Nat → Prop) (Q : gQ) (N B : Nat) (b : BfT) (hE : 350 + 2 * N + B ≤ gN E) (hN : N ≤ 1024) (hb : BfV E f N B b) (ho : bOk N B b) (d : DkT) (on le wr ss : Int32) (hdv : DkV E f N d on le wr ss) (hdo : dOk N d) (x n : Int32) (hq : ∀ g, ¬ le = 0 → DkV E g N (dSync d) on (if 0 < le then le - 1 else le) wr (ss + 1) → BfV E g N B b → Fr (DBK N B) f g → Q.1 none g) (hx : ∀ g, le = 0 → DkV E g N d 0 (-1) wr ss → BfV E g N B b → Fr (DBK N B) f g → Q.2 "java/lang/UnsupportedOperationException" g) : G E (8, yX0_settle, 3, none, sz, A) cX0_settle (gO E (8, yX0_settle, 3, none, sz, A) Q) 61 [(0, .ref (gAd E (8))), (1, .int (x)), (2, .int (n))] [] f := by
  have hdv2 : f 2 = .inr (2, [.int (nI N), .ref (gAd E 3), .ref (gAd E 4), .ref (gAd E 5), .ref (gAd E 6), .ref (gAd E 7), .int (nI d.2.2.2.2.2.1), .int (nI d.2.2.2.2.2.2), .int on, .int le, .int wr, .int ss]) := by obtain ⟨dw, dla, dbo, dsy, dva, da, dn⟩ := d; exact hdv.1
  obtain ⟨so, bo, st, ro, sp, hd, pu⟩ := b
  obtain ⟨b8, b9, b10, b11, b12, br⟩ := id hb
  obtain ⟨o1, o2, o3, o4, o5, o6, o7, o8⟩ := id ho
  refine G.go tv_X0_settle 1 62 [(0, .ref (gAd E (8))), (1, .int (x)), (2, .int (n))] [.ref (gAd E (8))] rfl ?_
  refine G.getf cls_X0 (8) 0 (by omega) (b8) (by decide) rfl (tbd tv_X0_settle rfl) w_283 ?_
  refine G.callV (2) [] [] (c_X2_syncAll E f N d on le wr ss (by omega) hN hdv hdo) cls_X2 (by omega) (hdv2) cw_X0_73 w_770 w_771 (Nat.le_of_ble_eq_true rfl) rfl (Nat.le_of_ble_eq_true rfl) (tbd tv_X0_settle rfl) (fun v1 f1 q1 => ?_) (fun X g h => h.1 ▸ hx g h.2.1 h.2.2.1 (hb.of (fun k hk => h.2.2.2 k (fun q => DkK_BfK q hk))) (h.2.2.2.wk (fun _ h => Or.inl h)))
  obtain ⟨rfl, hle, hd1, hf1⟩ := q1
  refine G.eqs [] rfl ?_
  exact G.vret rfl (hq _ hle hd1 (hb.of (fun k hk => hf1 k (fun q => DkK_BfK q hk))) (hf1.wk (fun _ h => Or.inl h))) (tbd tv_X0_settle rfl)
theorem w_765 : Cond.methodLink "LedgerFiles$Buffer" 69 yX0_nextAbove ∈ TB := tp_3 139 (by decide +kernel) rfl
theorem w_768 : Cond.code yX0_nextAbove prog_2_method_5_code 4 (some .int) ∈ TB := tp_3 142 rfl rfl
theorem cw_X0_69 : Cw RX0 69 yX0_nextAbove cX0_nextAbove 4 (some .int) 1 := ⟨w_765, w_768, w_152, by decide +kernel, by decide +kernel, by decide⟩
theorem w_766 : Cond.instanceMethod yX0_nextAbove ∈ TB := tp_3 140 (by decide +kernel) rfl
theorem w_767 : Cond.selects "LedgerFiles$Buffer" yX0_nextAbove yX0_nextAbove ∈ TB := tp_3 141 (by decide +kernel) rfl
set_option maxRecDepth 100000 in
set_option maxHeartbeats 4000000 in
theorem se_loop (E : gE) (sz : Nat) (A : Nat → Prop) (Q : gQ) (N B : Nat) (hE : 350 + 2 * N + B ≤ gN E) (hN : N ≤ 1024) (on ss : Int32) : ∀ (n : Nat) (x : Int32) (f : Nat → va_E) (d : DkT) (b : BfT) (le wr : Int32), BfV E f N B b → bOk N B b → DkV E f N d on le wr ss → dOk N d → bHas B b x → (∀ g, (seRun B n x d b le wr).1 = true → ¬ (seRun B n x d b le wr).2.2.2.1 = 0 → DkV E g N (dSync (seRun B n x d b le wr).2.1) on (if 0 < (seRun B n x d b le wr).2.2.2.1 then (seRun B n x d b le wr).2.2.2.1 - 1 else (seRun B n x d b le wr).2.2.2.1) (seRun B n x d b le wr).2.2.2.2 (ss + 1) → BfV E g N B (seRun B n x d b le wr).2.2.1 → Fr (DBK N B) f g → Q.1 none g) → (∀ g, ((seRun B n x d b le wr).1 = false ∨ (seRun B n x d b le wr).2.2.2.1 = 0) → DkV E g N (seRun B n x d b le wr).2.1 0 (-1) (seRun B n x d b le wr).2.2.2.2 ss → BfV E g N B (seRun B n x d b le wr).2.2.1 → Fr (DBK N B) f g → Q.2 "java/lang/UnsupportedOperationException" g) → (n ≤ 64) → G E (8, yX0_settle, 3, none, sz, A) cX0_settle (gO E (8, yX0_settle, 3, none, sz, A) Q) 11 [(0, .ref (gAd E (8))), (1, .int (x)), (2, .int (nI n))] [] f := by
  intro n
  induction n with
  | zero =>
    intro x f d b le wr hb ho hdv hdo hhas hq hx hn
    have hdv2 : f 2 = .inr (2, [.int (nI N), .ref (gAd E 3), .ref (gAd E 4), .ref (gAd E 5), .ref (gAd E 6), .ref (gAd E 7), .int (nI d.2.2.2.2.2.1), .int (nI d.2.2.2.2.2.2), .int on, .int le, .int wr, .int ss]) := by obtain ⟨dw, dla, dbo, dsy, dva, da, dn⟩ := d; exact hdv.1
    obtain ⟨so, bo, st, ro, sp, hd, pu⟩ := b
    obtain ⟨b8, b9, b10, b11, b12, br⟩ := id hb
    obtain ⟨o1, o2, o3, o4, o5, o6, o7, o8⟩ := id ho
    refine G.go tv_X0_settle 1 12 [(0, .ref (gAd E (8))), (1, .int (x)), (2, .int (nI 0))] [.int (nI 0)] rfl ?_
    refine G.if_le 61 (tbd tv_X0_settle rfl) (by decide) (fun c12 => ?_) (fun c12 => absurd (by decide) c12)
    exact se_end E f _ _ _ N B (so, bo, st, ro, sp, hd, pu) hE hN hb ho d on le wr ss hdv hdo x _ (fun g q1 q2 q3 q4 => hq g rfl q1 q2 q3 q4) (fun g q1 q2 q3 q4 => hx g (Or.inr q1) q2 q3 q4)
  | succ n ih =>
    intro x f d b le wr hb ho hdv hdo hhas hq hx hn
    have hdv2 : f 2 = .inr (2, [.int (nI N), .ref (gAd E 3), .ref (gAd E 4), .ref (gAd E 5), .ref (gAd E 6), .ref (gAd E 7), .int (nI d.2.2.2.2.2.1), .int (nI d.2.2.2.2.2.2), .int on, .int le, .int wr, .int ss]) := by obtain ⟨dw, dla, dbo, dsy, dva, da, dn⟩ := d; exact hdv.1
    obtain ⟨so, bo, st, ro, sp, hd, pu⟩ := b
    obtain ⟨b8, b9, b10, b11, b12, br⟩ := id hb
    obtain ⟨o1, o2, o3, o4, o5, o6, o7, o8⟩ := id ho
    have run_e : x = -1 → seRun B (n + 1) x d (so, bo, st, ro, sp, hd, pu) le wr = (true, d, (so, bo, st, ro, sp, hd, pu), le, wr) := fun z => by
      unfold seRun
      rw [if_pos z]
    have ih := fun x f d b le wr h1 h2 h3 h4 h5 h6 h7 => ih x f d b le wr h1 h2 h3 h4 h5 h6 h7 (by omega)
    refine G.go tv_X0_settle 1 12 [(0, .ref (gAd E (8))), (1, .int (x)), (2, .int (nI (n + 1)))] [.int (nI (n + 1))] rfl ?_
    refine G.if_le 61 (tbd tv_X0_settle rfl) (by decide) (fun c12 => absurd c12 (nI_nle (Nat.succ_pos n) (by omega))) (fun c12 => ?_)
    refine G.go tv_X0_settle 2 17 [(0, .ref (gAd E (8))), (1, .int (x)), (2, .int (nI (n + 1)))] [.int ((-1 : Int32)), .int (x)] rfl ?_
    refine G.cmp_eq 61 (tbd tv_X0_settle rfl) (by decide) (fun c17 => ?_) (fun c17 => ?_)
    · have hm1 : x = -1 := c17
      exact se_end E f _ _ _ N B (so, bo, st, ro, sp, hd, pu) hE hN hb ho d on le wr ss hdv hdo x _ (fun g q1 q2 q3 q4 => hq g (by rw [run_e hm1]) (by rw [run_e hm1]; exact q1) (by rw [run_e hm1]; exact q2) (by rw [run_e hm1]; exact q3) q4) (fun g q1 q2 q3 q4 => hx g (Or.inr (by rw [run_e hm1]; exact q1)) (by rw [run_e hm1]; exact q2) (by rw [run_e hm1]; exact q3) q4)
    · obtain ⟨s, hs, hp, hxb⟩ := hhas.resolve_left c17
      have hp : 0 < st s := hp
      have hxb : x = bo s := hxb
      obtain ⟨t, ht, hbt, hq0⟩ := o5 s hs
      have hq0 := hq0 hp
      have hxt : x = nI t := hxb.trans hbt
      subst hxt
      have e1 : (nI t).toNatClampNeg = t := nI_clamp (by omega)
      have e3 : (so (nI t).toNatClampNeg).toNatClampNeg = s := by rw [e1, hq0]; exact nI_clamp (by omega)
      have e4 : (so t).toNatClampNeg = s := by rw [hq0]; exact nI_clamp (by omega)
      have run_f : le = 0 → seRun B (n + 1) (nI t) d (so, bo, st, ro, sp, hd, pu) le wr = (false, d, (so, bo, st, ro, sp, hd, pu), le, wr) := fun z => by
        unfold seRun
        rw [if_neg c17, if_pos z]
      have run_s : ¬ le = 0 → seRun B (n + 1) (nI t) d (so, bo, st, ro, sp, hd, pu) le wr = seRun B n (bNext bo (upd st s 0) (nI t) B) (dWrite d t (ro s)) (bDrop (so, bo, st, ro, sp, hd, pu) s) (if 0 < le then le - 1 else le) (wr + 1) := fun z => by
        rw [seRun, if_neg c17, if_neg z]
        simp only [e1, e4]
        rfl
      refine G.go tv_X0_settle 1 21 [(0, .ref (gAd E (8))), (1, .int (nI t)), (2, .int (nI (n + 1)))] [.ref (gAd E (8))] rfl ?_
      refine G.getf cls_X0 (8) 0 (by omega) (b8) (by decide) rfl (tbd tv_X0_settle rfl) w_283 ?_
      refine G.go tv_X0_settle 2 26 [(0, .ref (gAd E (8))), (1, .int (nI t)), (2, .int (nI (n + 1)))] [.ref (gAd E (8)), .int (nI t), .ref (gAd E (2))] rfl ?_
      refine G.getf cls_X0 (8) 1 (by omega) (b8) (by decide) rfl (tbd tv_X0_settle rfl) w_284 ?_
      refine G.go tv_X0_settle 1 30 [(0, .ref (gAd E (8))), (1, .int (nI t)), (2, .int (nI (n + 1)))] [.ref (gAd E (8)), .ref (gAd E (9)), .int (nI t), .ref (gAd E (2))] rfl ?_
      refine G.getf cls_X0 (8) 2 (by omega) (b8) (by decide) rfl (tbd tv_X0_settle rfl) w_286 ?_
      refine G.go tv_X0_settle 1 34 [(0, .ref (gAd E (8))), (1, .int (nI t)), (2, .int (nI (n + 1)))] [.int (nI t), .ref (gAd E (10)), .ref (gAd E (9)), .int (nI t), .ref (gAd E (2))] rfl ?_
      refine G.ialdN (10) (t) (by omega) (b10) (ht) (by omega) (tbd tv_X0_settle rfl) ?_
      refine G.eqs [.int (nI s), .ref (gAd E (9)), .int (nI t), .ref (gAd E (2))] (by rw [hq0]) ?_
      refine G.aaldN (9) (s) (by omega) (b9) (hs) (by omega) (tbd tv_X0_settle rfl) ?_
      refine G.eqs [.ref (gAd E (350 + 2 * N + s)), .int (nI t), .ref (gAd E (2))] (by rw [rwA_at hs]; rfl) ?_
      refine G.callV (2) [.int (nI t), .ref (gAd E (350 + 2 * N + s))] [] (c_X2_writeBlock E f N d on le wr ss (by omega) hN hdv hdo t (350 + 2 * N + s) (ro s) ht (by omega) (br s hs) (o7 s) (by unfold DkK; omega)) cls_X2 (by omega) (hdv2) cw_X0_46 w_726 w_727 (Nat.le_of_ble_eq_true rfl) rfl (Nat.le_of_ble_eq_true rfl) (tbd tv_X0_settle rfl) (fun v1 f1 q1 => ?_) (fun X g h => h.1 ▸ hx g (Or.inl (by rw [run_f h.2.1])) (by rw [run_f h.2.1]; exact h.2.2.1) (by rw [run_f h.2.1]; exact hb.of (fun k hk => h.2.2.2 k (fun q => DkK_BfK q hk))) (h.2.2.2.wk (fun _ h => Or.inl h)))
      obtain ⟨rfl, hle, hd1, hf1⟩ := q1
      refine G.eqs [] rfl ?_
      have hb1 : BfV E f1 N B (so, bo, st, ro, sp, hd, pu) := hb.of (fun k hk => hf1 k (fun q => DkK_BfK q hk))
      obtain ⟨g8, g9, g10, g11, g12, gr⟩ := id hb1
      refine G.go tv_X0_settle 2 41 [(0, .ref (gAd E (8))), (1, .int (nI t)), (2, .int (nI (n + 1)))] [.ref (gAd E (8)), .ref (gAd E (8))] rfl ?_
      refine G.getf cls_X0 (8) 2 (by omega) (g8) (by decide) rfl (tbd tv_X0_settle rfl) w_286 ?_
      refine G.go tv_X0_settle 1 45 [(0, .ref (gAd E (8))), (1, .int (nI t)), (2, .int (nI (n + 1)))] [.int (nI t), .ref (gAd E (10)), .ref (gAd E (8))] rfl ?_
      refine G.ialdN (10) (t) (by omega) (g10) (ht) (by omega) (tbd tv_X0_settle rfl) ?_
      refine G.eqs [.int (nI s), .ref (gAd E (8))] (by rw [hq0]) ?_
      refine G.callV (8) [.int (nI s)] [] (c_X0_drop E f1 N B (so, bo, st, ro, sp, hd, pu) hE hN hb1 ho s hs (by show 1 ≤ hd; rw [o3]; exact bCnt_pos st s hp B hs)) cls_X0 (by omega) (g8) cw_X0_50 w_758 w_6 (Nat.le_of_ble_eq_true rfl) rfl (Nat.le_of_ble_eq_true rfl) (tbd tv_X0_settle rfl) (fun v2 f2 q2 => ?_) (fun _ _ h => h.elim)
      obtain ⟨rfl, hb2, hf2⟩ := q2
      refine G.eqs [] rfl ?_
      obtain ⟨k8, k9, k10, k11, k12, kr⟩ := id hb2
      have ho2 : bOk N B (bDrop (so, bo, st, ro, sp, hd, pu) s) := bDrop_ok hN ho hs hp
      refine G.go tv_X0_settle 2 51 [(0, .ref (gAd E (8))), (1, .int (nI t)), (2, .int (nI (n + 1)))] [.int (nI t), .ref (gAd E (8))] rfl ?_
      refine G.callV (8) [.int (nI t)] [] (c_X0_nextAbove E f2 N B (bDrop (so, bo, st, ro, sp, hd, pu) s) hE hN hb2 ho2 (nI t)) cls_X0 (by omega) (k8) cw_X0_69 w_766 w_767 (Nat.le_of_ble_eq_true rfl) rfl (Nat.le_of_ble_eq_true rfl) (tbd tv_X0_settle rfl) (fun v3 f3 q3 => ?_) (fun _ _ h => h.elim)
      obtain ⟨rfl, rfl⟩ := q3
      refine G.eqs [.int (bNext bo (upd st s 0) (nI t) B)] rfl ?_
      refine G.go tv_X0_settle 3 11 [(0, .ref (gAd E (8))), (1, .int (bNext bo (upd st s 0) (nI t) B)), (2, .int (nI (n + 1) + (-1 : Int32)))] [] rfl ?_
      have hfr : Fr (DBK N B) f f2 := (hf1.wk (fun _ h => Or.inl h)).tr hf2 (fun _ h => Or.inr h)
      refine G.eql [(0, .ref (gAd E (8))), (1, .int (bNext bo (upd st s 0) (nI t) B)), (2, .int (nI n))] (by rw [show nI (n + 1) + (-1 : Int32) = nI n from pk_m1 n]) ?_
      refine ih (bNext bo (upd st s 0) (nI t) B) f2 (dWrite d t (ro s)) (bDrop (so, bo, st, ro, sp, hd, pu) s) (if 0 < le then le - 1 else le) (wr + 1) hb2 ho2 (hd1.of (fun k hk => hf2 k (DkK_BfK hk))) (dWrite_ok hN hdo ht (o7 s)) ?_ (fun g q1 q2 q3 q4 q5 => hq g (by rw [run_s hle]; exact q1) (by rw [run_s hle]; exact q2) (by rw [run_s hle]; exact q3) (by rw [run_s hle]; exact q4) (hfr.tr q5 (fun _ h => h))) (fun g q1 q2 q3 q4 => hx g (by rw [run_s hle]; exact q1) (by rw [run_s hle]; exact q2) (by rw [run_s hle]; exact q3) (hfr.tr q4 (fun _ h => h)))
      exact bNext_spec bo (upd st s 0) (nI t) B
set_option maxRecDepth 100000 in
set_option maxHeartbeats 4000000 in
/-- all that the buffer holds is written, by rising numbers; then the disk syncs -/
theorem c_X0_settle (E : gE) (f : Nat → va_E) (N B : Nat) (b : BfT) (hE : 350 + 2 * N + B ≤ gN E) (hN : N ≤ 1024) (hb : BfV E f N B b) (ho : bOk N B b) (d : DkT) (on le wr ss : Int32) (hdv : DkV E f N d on le wr ss) (hdo : dOk N d) : Ct E 8 yX0_settle cX0_settle 3 none [.ref (gAd E (8))] f (fun v g => v = none ∧ (seAll B d b le wr).1 = true ∧ ¬ (seAll B d b le wr).2.2.2.1 = 0 ∧ DkV E g N (dSync (seAll B d b le wr).2.1) on (if 0 < (seAll B d b le wr).2.2.2.1 then (seAll B d b le wr).2.2.2.1 - 1 else (seAll B d b le wr).2.2.2.1) (seAll B d b le wr).2.2.2.2 (ss + 1) ∧ BfV E g N B (seAll B d b le wr).2.2.1 ∧ Fr (DBK N B) f g, fun X g => X = "java/lang/UnsupportedOperationException" ∧ ((seAll B d b le wr).1 = false ∨ (seAll B d b le wr).2.2.2.1 = 0) ∧ DkV E g N (seAll B d b le wr).2.1 0 (-1) (seAll B d b le wr).2.2.2.2 ss ∧ BfV E g N B (seAll B d b le wr).2.2.1 ∧ Fr (DBK N B) f g) := by
  have hdv2 : f 2 = .inr (2, [.int (nI N), .ref (gAd E 3), .ref (gAd E 4), .ref (gAd E 5), .ref (gAd E 6), .ref (gAd E 7), .int (nI d.2.2.2.2.2.1), .int (nI d.2.2.2.2.2.2), .int on, .int le, .int wr, .int ss]) := by obtain ⟨dw, dla, dbo, dsy, dva, da, dn⟩ := d; exact hdv.1
  obtain ⟨so, bo, st, ro, sp, hd, pu⟩ := b
  obtain ⟨b8, b9, b10, b11, b12, br⟩ := id hb
  obtain ⟨o1, o2, o3, o4, o5, o6, o7, o8⟩ := id ho
  refine Ct.of (by decide) (Nat.le_of_ble_eq_true rfl) (fun sz => ?_)
  refine G.eql [(0, .ref (gAd E (8)))] rfl ?_
  refine G.go tv_X0_settle 2 2 [(0, .ref (gAd E (8)))] [.int ((-1 : Int32)), .ref (gAd E (8))] rfl ?_
  refine G.callV (8) [.int ((-1 : Int32))] [] (c_X0_nextAbove E f N B (so, bo, st, ro, sp, hd, pu) hE hN hb ho (-1)) cls_X0 (by omega) (b8) cw_X0_69 w_766 w_767 (Nat.le_of_ble_eq_true rfl) rfl (Nat.le_of_ble_eq_true rfl) (tbd tv_X0_settle rfl) (fun v1 f1 q1 => ?_) (fun _ _ h => h.elim)
  obtain ⟨rfl, rfl⟩ := q1
  refine G.eqs [.int (bNext bo st (-1) B)] rfl ?_
  refine G.go tv_X0_settle 2 7 [(0, .ref (gAd E (8))), (1, .int (bNext bo st (-1) B))] [.ref (gAd E (8))] rfl ?_
  refine G.getf cls_X0 (8) 6 (by omega) (b8) (by decide) rfl (tbd tv_X0_settle rfl) w_291 ?_
  refine G.go tv_X0_settle 1 11 [(0, .ref (gAd E (8))), (1, .int (bNext bo st (-1) B)), (2, .int (nI hd))] [] rfl ?_
  refine se_loop E _ _ _ N B hE hN on ss hd (bNext bo st (-1) B) f d (so, bo, st, ro, sp, hd, pu) le wr hb ho hdv hdo (bNext_spec bo st (-1) B) (fun g q1 q2 q3 q4 q5 => ⟨rfl, q1, q2, q3, q4, q5⟩) (fun g q1 q2 q3 q4 => ⟨rfl, q1, q2, q3, q4⟩) (by have := bCnt_le st B; omega)
