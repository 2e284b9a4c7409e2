def tb_X1_ask : List (Nat × Instr × Nat) := [(0, .iload_n 1, 1), (1, .ifCond .ne 13, 3), (4, .aload_n 0, 1), (5, .dup, 1), (6, .getfield 30, 3), (9, .iconst 1, 1), (10, .iadd, 1), (11, .putfield 30, 3), (14, .return_, 1)]
theorem tv_X1_ask : Tv cX1_ask tb_X1_ask := by
  unfold Tv
  decide +kernel
theorem w_549 : Cond.fieldLink "LedgerFiles$Checker" 30 "LedgerFiles$Checker" "faults" "I" ∈ TB := tp_2 163 (by decide +kernel) rfl
def d_X1_ask (N : Nat) (V : Nat → Rw) (D : CfT) (a0 : Int32) : Option (CfT) := if a0 = 0 then ptS D 4405 ((cS D 4405) + ((1 : Int32))) (fun D1 => some D1) else some D
set_option maxRecDepth 100000 in
set_option maxHeartbeats 4000000 in
theorem k_X1_ask (E : gE) (f : Nat → va_E) (N B gr : Nat) (C D : CfT) (A : MS) (hz : CfZ E N B gr) (h : CfV E f N B gr C) (hD : Dq D C) (hA : AR N B gr A C) (a0 : Int32) (D9 : CfT) (hr : d_X1_ask N (vA A) D a0 = some D9) : Ct E 1 yX1_ask cX1_ask 2 none [.ref (gAd E (44)), .int (a0)] f (fun v g => v = none ∧ ST E N B gr f C A D9 g, fun _ _ => False) := by
  obtain ⟨z1, z2, z3, z4, z5, z6, z7⟩ := id hz
  refine Ct.of (by decide) (Nat.le_of_ble_eq_true rfl) (fun sz => ?_)
  refine G.eql [(0, .ref (gAd E (44))), (1, .int (a0))] rfl ?_
  unfold d_X1_ask at hr
  refine G.go tv_X1_ask 1 1 [(0, .ref (gAd E (44))), (1, .int (a0))] [.int (a0)] rfl ?_
  refine G.if_ne 14 (tbd tv_X1_ask rfl) (by decide) (fun c1 => ?_) (fun c1 => ?_)
  · replace hr := ite_f c1 hr
    cases hr
    exact G.vret rfl ⟨rfl, C, h, hD, hA, Rq.rf, Fr.rf⟩ (tbd tv_X1_ask rfl)
  · replace hr := ite_t c1 hr
    refine G.go tv_X1_ask 2 6 [(0, .ref (gAd E (44))), (1, .int (a0))] [.ref (gAd E (44)), .ref (gAd E (44))] rfl ?_
    refine G.getf cls_X1 (44) 5 (by omega) (h.q44) (by decide) rfl (tbd tv_X1_ask rfl) w_549 ?_
    refine G.eq1 (b := cS D 4405) (hD.1 4405 (by decide)) ?_
    refine G.go tv_X1_ask 2 11 [(0, .ref (gAd E (44))), (1, .int (a0))] [.int ((cS D 4405) + ((1 : Int32))), .ref (gAd E (44))] rfl ?_
    obtain ⟨D1, eD1, hr⟩ := ptS_s hr
    refine G.putfS cls_X1 (44) 5 [.ref (gAd E 25), .ref (gAd E 37), .ref (gAd E 32), .ref (gAd E 45), .ref (gAd E 46), .int ((cS D 4405) + ((1 : Int32)))] (by omega) (h.q44) rfl (by decide) rfl rfl rfl (Nat.le_of_ble_eq_true rfl) (tbd tv_X1_ask rfl) w_549 ?_
    refine G.gen (P := ST E N B gr f C A D1) ⟨sS C 4405 ((cS D 4405) + ((1 : Int32))), h.s4405 _, (by rw [eD1]; exact hD.ss), hA.sm (Sd.s (by decide) : Sd C (sS C 4405 ((cS D 4405) + ((1 : Int32))))), Rq.rf.tr ⟨rfl, rfl⟩, Fr.c Fr.rf (by first | exact Or.inl (by decide) | exact Or.inr (by omega))⟩ (fun u1 p1 => ?_)
    obtain ⟨C1, h1, hD1, hA1, hR1, k1⟩ := p1
    cases hr
    exact G.vret rfl ⟨rfl, C1, h1, hD1, hA1, hR1, k1⟩ (tbd tv_X1_ask rfl)
def tb_X1_own : List (Nat × Instr × Nat) := [(0, .iload_n 1, 1), (1, .bipush 61, 2), (3, .if_icmp .lt 12, 3), (6, .iload_n 1, 1), (7, .aload_n 0, 1), (8, .getfield 27, 3), (11, .arraylength, 1), (12, .if_icmp .lt 16, 3), (15, .aload_n 0, 1), (16, .dup, 1), (17, .getfield 30, 3), (20, .iconst 1, 1), (21, .iadd, 1), (22, .putfield 30, 3), (25, .goto 13, 3), (28, .aload_n 0, 1), (29, .getfield 27, 3), (32, .iload_n 1, 1), (33, .dup2, 1), (34, .iaload, 1), (35, .iconst 1, 1), (36, .iadd, 1), (37, .iastore, 1), (38, .return_, 1)]
theorem tv_X1_own : Tv cX1_own tb_X1_own := by
  unfold Tv
  decide +kernel
def d_X1_own (N : Nat) (V : Nat → Rw) (D : CfT) (a0 : Int32) : Option (CfT) := if a0 < ((61 : Int32)) then ptS D 4405 ((cS D 4405) + ((1 : Int32))) (fun D2 => some D2) else if a0 < (nI (N)) then ld (cA D 45) N a0 (fun v3 => stA D 45 N a0 ((v3) + ((1 : Int32))) (fun D4 => some D4)) else ptS D 4405 ((cS D 4405) + ((1 : Int32))) (fun D5 => some D5)
set_option maxRecDepth 100000 in
set_option maxHeartbeats 4000000 in
theorem k_X1_own (E : gE) (f : Nat → va_E) (N B gr : Nat) (C D : CfT) (A : MS) (hz : CfZ E N B gr) (h : CfV E f N B gr C) (hD : Dq D C) (hA : AR N B gr A C) (a0 : Int32) (D9 : CfT) (hr : d_X1_own N (vA A) D a0 = some D9) : Ct E 1 yX1_own cX1_own 2 none [.ref (gAd E (44)), .int (a0)] f (fun v g => v = none ∧ ST E N B gr f C A D9 g, fun _ _ => False) := by
  obtain ⟨z1, z2, z3, z4, z5, z6, z7⟩ := id hz
  refine Ct.of (by decide) (Nat.le_of_ble_eq_true rfl) (fun sz => ?_)
  refine G.eql [(0, .ref (gAd E (44))), (1, .int (a0))] rfl ?_
  unfold d_X1_own at hr
  refine G.go tv_X1_own 2 3 [(0, .ref (gAd E (44))), (1, .int (a0))] [.int ((61 : Int32)), .int (a0)] rfl ?_
  refine G.cmp_lt 15 (tbd tv_X1_own rfl) (by decide) (fun c3 => ?_) (fun c3 => ?_)
  · replace hr := ite_t c3 hr
    refine G.go tv_X1_own 2 17 [(0, .ref (gAd E (44))), (1, .int (a0))] [.ref (gAd E (44)), .ref (gAd E (44))] rfl ?_
    refine G.getf cls_X1 (44) 5 (by omega) (h.q44) (by decide) rfl (tbd tv_X1_own rfl) w_549 ?_
    refine G.eq1 (b := cS D 4405) (hD.1 4405 (by decide)) ?_
    refine G.go tv_X1_own 2 22 [(0, .ref (gAd E (44))), (1, .int (a0))] [.int ((cS D 4405) + ((1 : Int32))), .ref (gAd E (44))] rfl ?_
    obtain ⟨D2, eD2, hr⟩ := ptS_s hr
    refine G.putfS cls_X1 (44) 5 [.ref (gAd E 25), .ref (gAd E 37), .ref (gAd E 32), .ref (gAd E 45), .ref (gAd E 46), .int ((cS D 4405) + ((1 : Int32)))] (by omega) (h.q44) rfl (by decide) rfl rfl rfl (Nat.le_of_ble_eq_true rfl) (tbd tv_X1_own rfl) w_549 ?_
    refine G.gen (P := ST E N B gr f C A D2) ⟨sS C 4405 ((cS D 4405) + ((1 : Int32))), h.s4405 _, (by rw [eD2]; exact hD.ss), hA.sm (Sd.s (by decide) : Sd C (sS C 4405 ((cS D 4405) + ((1 : Int32))))), Rq.rf.tr ⟨rfl, rfl⟩, Fr.c Fr.rf (by first | exact Or.inl (by decide) | exact Or.inr (by omega))⟩ (fun u2 p2 => ?_)
    obtain ⟨C2, h2, hD2, hA2, hR2, k2⟩ := p2
    refine G.go tv_X1_own 1 38 [(0, .ref (gAd E (44))), (1, .int (a0))] [] rfl ?_
    cases hr
    exact G.vret rfl ⟨rfl, C2, h2, hD2, hA2, hR2, k2⟩ (tbd tv_X1_own rfl)
  · replace hr := ite_f c3 hr
    refine G.go tv_X1_own 2 8 [(0, .ref (gAd E (44))), (1, .int (a0))] [.ref (gAd E (44)), .int (a0)] rfl ?_
    refine G.getf cls_X1 (44) 3 (by omega) (h.q44) (by decide) rfl (tbd tv_X1_own rfl) w_547 ?_
    refine G.alen (45) 1 (by omega) (h.q45) rfl rfl (tbd tv_X1_own rfl) ?_
    refine G.eqs [.int (nI (N)), .int (a0)] rfl ?_
    refine G.cmp_lt 28 (tbd tv_X1_own rfl) (by decide) (fun c12 => ?_) (fun c12 => ?_)
    · replace hr := ite_t c12 hr
      refine G.go tv_X1_own 1 29 [(0, .ref (gAd E (44))), (1, .int (a0))] [.ref (gAd E (44))] rfl ?_
      refine G.getf cls_X1 (44) 3 (by omega) (h.q44) (by decide) rfl (tbd tv_X1_own rfl) w_547 ?_
      refine G.go tv_X1_own 2 34 [(0, .ref (gAd E (44))), (1, .int (a0))] [.int (a0), .ref (gAd E (45)), .int (a0), .ref (gAd E (45))] rfl ?_
      obtain ⟨v3, b3, e3, hr⟩ := ld_s hr
      refine G.ialdE (45) (by omega) ((h.q45).trans (congrArg (oI (gDA E) (N)) (hD.2 45 (by decide)))) b3 e3 (tbd tv_X1_own rfl) ?_
      refine G.go tv_X1_own 2 37 [(0, .ref (gAd E (44))), (1, .int (a0))] [.int ((v3) + ((1 : Int32))), .int (a0), .ref (gAd E (45))] rfl ?_
      obtain ⟨D4, b4, eD4, hr⟩ := stA_s hr
      refine G.iast (45) (by omega) (h.q45) b4 (tbd tv_X1_own rfl) ?_
      refine G.gen (P := ST E N B gr f C A D4) ⟨sA C 45 (upd (cA C 45) a0.toNatClampNeg ((v3) + ((1 : Int32)))), h.p45 _, (by rw [eD4]; exact hD.au (by decide)), hA.sm (Sd.a (by decide) : Sd C (sA C 45 (upd (cA C 45) a0.toNatClampNeg ((v3) + ((1 : Int32)))))), Rq.rf.tr ⟨rfl, rfl⟩, Fr.c Fr.rf (by first | exact Or.inl (by decide) | exact Or.inr (by omega))⟩ (fun u4 p4 => ?_)
      obtain ⟨C4, h4, hD4, hA4, hR4, k4⟩ := p4
      cases hr
      exact G.vret rfl ⟨rfl, C4, h4, hD4, hA4, hR4, k4⟩ (tbd tv_X1_own rfl)
    · replace hr := ite_f c12 hr
      refine G.go tv_X1_own 2 17 [(0, .ref (gAd E (44))), (1, .int (a0))] [.ref (gAd E (44)), .ref (gAd E (44))] rfl ?_
      refine G.getf cls_X1 (44) 5 (by omega) (h.q44) (by decide) rfl (tbd tv_X1_own rfl) w_549 ?_
      refine G.eq1 (b := cS D 4405) (hD.1 4405 (by decide)) ?_
      refine G.go tv_X1_own 2 22 [(0, .ref (gAd E (44))), (1, .int (a0))] [.int ((cS D 4405) + ((1 : Int32))), .ref (gAd E (44))] rfl ?_
      obtain ⟨D5, eD5, hr⟩ := ptS_s hr
      refine G.putfS cls_X1 (44) 5 [.ref (gAd E 25), .ref (gAd E 37), .ref (gAd E 32), .ref (gAd E 45), .ref (gAd E 46), .int ((cS D 4405) + ((1 : Int32)))] (by omega) (h.q44) rfl (by decide) rfl rfl rfl (Nat.le_of_ble_eq_true rfl) (tbd tv_X1_own rfl) w_549 ?_
      refine G.gen (P := ST E N B gr f C A D5) ⟨sS C 4405 ((cS D 4405) + ((1 : Int32))), h.s4405 _, (by rw [eD5]; exact hD.ss), hA.sm (Sd.s (by decide) : Sd C (sS C 4405 ((cS D 4405) + ((1 : Int32))))), Rq.rf.tr ⟨rfl, rfl⟩, Fr.c Fr.rf (by first | exact Or.inl (by decide) | exact Or.inr (by omega))⟩ (fun u5 p5 => ?_)
      obtain ⟨C5, h5, hD5, hA5, hR5, k5⟩ := p5
      refine G.go tv_X1_own 1 38 [(0, .ref (gAd E (44))), (1, .int (a0))] [] rfl ?_
      cases hr
      exact G.vret rfl ⟨rfl, C5, h5, hD5, hA5, hR5, k5⟩ (tbd tv_X1_own rfl)
def tb_X1_lookAtFree : List (Nat × Instr × Nat) := [(0, .aload_n 0, 1), (1, .aload_n 0, 1), (2, .getfield 19, 3), (5, .iload_n 1, 1), (6, .invokevirtual 95, 3), (9, .ifCond .ne 29, 3), (12, .aload_n 0, 1), (13, .getfield 19, 3), (16, .iload_n 1, 1), (17, .invokevirtual 66, 3), (20, .ifCond .ne 18, 3), (23, .aload_n 0, 1), (24, .getfield 19, 3), (27, .iload_n 1, 1), (28, .invokevirtual 98, 3), (31, .ifCond .ne 7, 3), (34, .iconst 1, 1), (35, .goto 4, 3), (38, .iconst 0, 1), (39, .invokevirtual 49, 3), (42, .aload_n 0, 1), (43, .aload_n 0, 1), (44, .getfield 19, 3), (47, .iload_n 1, 1), (48, .invokevirtual 101, 3), (51, .ifCond .ne 18, 3), (54, .aload_n 0, 1), (55, .getfield 19, 3), (58, .iload_n 1, 1), (59, .invokevirtual 104, 3), (62, .ifCond .ne 7, 3), (65, .iconst 1, 1), (66, .goto 4, 3), (69, .iconst 0, 1), (70, .invokevirtual 49, 3), (73, .iconst 0, 1), (74, .istore_n 2, 1), (75, .iload_n 2, 1), (76, .bipush 8, 2), (78, .if_icmp .ge 31, 3), (81, .aload_n 0, 1), (82, .aload_n 0, 1), (83, .getfield 19, 3), (86, .iload_n 1, 1), (87, .iload_n 2, 1), (88, .iconst 0, 1), (89, .invokevirtual 107, 3), (92, .ifCond .ne 7, 3), (95, .iconst 1, 1), (96, .goto 4, 3), (99, .iconst 0, 1), (100, .invokevirtual 49, 3), (103, .iinc 2 1, 3), (106, .goto (-31), 3), (109, .return_, 1)]
theorem tv_X1_lookAtFree : Tv cX1_lookAtFree tb_X1_lookAtFree := by
  unfold Tv
  decide +kernel
theorem w_1992 : Cond.methodLink "LedgerFiles$Checker" 95 yX7_links ∈ TB := tp_8 166 (by decide +kernel) rfl
theorem cw_X1_95 : Cw RX1 95 yX7_links cX7_links 2 (some .int) 1 := ⟨w_1992, w_927, w_157, by decide +kernel, by decide +kernel, by decide⟩
theorem w_1980 : Cond.methodLink "LedgerFiles$Checker" 49 yX1_ask ∈ TB := tp_8 154 (by decide +kernel) rfl
theorem w_1983 : Cond.code yX1_ask prog_3_method_2_code 2 none ∈ TB := tp_8 157 rfl rfl
theorem cw_X1_49 : Cw RX1 49 yX1_ask cX1_ask 2 none 1 := ⟨w_1980, w_1983, w_160, by decide +kernel, by decide +kernel, by decide⟩
theorem w_1982 : Cond.instanceMethod yX1_ask ∈ TB := tp_8 156 (by decide +kernel) rfl
theorem w_44 : Cond.selects "LedgerFiles$Checker" yX1_ask yX1_ask ∈ TB := tp_0 44 (by decide +kernel) rfl
theorem w_1993 : Cond.methodLink "LedgerFiles$Checker" 66 yX7_size ∈ TB := tp_8 167 (by decide +kernel) rfl
theorem cw_X1_66 : Cw RX1 66 yX7_size cX7_size 2 (some .int) 1 := ⟨w_1993, w_943, w_157, by decide +kernel, by decide +kernel, by decide⟩
theorem w_1994 : Cond.methodLink "LedgerFiles$Checker" 98 yX7_markOf ∈ TB := tp_8 168 (by decide +kernel) rfl
theorem w_1565 : Cond.code yX7_markOf prog_9_method_8_code 2 (some .int) ∈ TB := tp_6 219 rfl rfl
theorem cw_X1_98 : Cw RX1 98 yX7_markOf cX7_markOf 2 (some .int) 1 := ⟨w_1994, w_1565, w_157, by decide +kernel, by decide +kernel, by decide⟩
theorem w_1563 : Cond.instanceMethod yX7_markOf ∈ TB := tp_6 217 (by decide +kernel) rfl
theorem w_1564 : Cond.selects "LedgerFiles$Nodes" yX7_markOf yX7_markOf ∈ TB := tp_6 218 (by decide +kernel) rfl
theorem w_1995 : Cond.methodLink "LedgerFiles$Checker" 101 yX7_firstTable ∈ TB := tp_8 169 (by decide +kernel) rfl
theorem cw_X1_101 : Cw RX1 101 yX7_firstTable cX7_firstTable 2 (some .int) 1 := ⟨w_1995, w_995, w_157, by decide +kernel, by decide +kernel, by decide⟩
theorem w_1996 : Cond.methodLink "LedgerFiles$Checker" 104 yX7_secondTable ∈ TB := tp_8 170 (by decide +kernel) rfl
theorem cw_X1_104 : Cw RX1 104 yX7_secondTable cX7_secondTable 2 (some .int) 1 := ⟨w_1996, w_999, w_157, by decide +kernel, by decide +kernel, by decide⟩
theorem w_1997 : Cond.methodLink "LedgerFiles$Checker" 107 yX7_reach ∈ TB := tp_8 171 (by decide +kernel) rfl
theorem cw_X1_107 : Cw RX1 107 yX7_reach cX7_reach 8 (some .int) 3 := ⟨w_1997, w_956, w_157, by decide +kernel, by decide +kernel, by decide⟩
def d_X1_lookAtFree_75 (N : Nat) (V : Nat → Rw) : Nat → CfT → Int32 → Int32 → Option (CfT)
  | 0, _, _, _ => none
  | n + 1, D, x1, x2 => if ((8 : Int32)) ≤ x2 then some D else bnd (d_X7_reach N V D x1 x2 ((0 : Int32))) (fun v18 => if v18 = 0 then bnd (d_X1_ask N V D ((1 : Int32))) (fun D20 => d_X1_lookAtFree_75 N V n D20 x1 (x2 + (1 : Int32))) else bnd (d_X1_ask N V D ((0 : Int32))) (fun D19 => d_X1_lookAtFree_75 N V n D19 x1 (x2 + (1 : Int32))))
def d_X1_lookAtFree_42 (N : Nat) (V : Nat → Rw) (D : CfT) (x1 : Int32) : Option (CfT) := bnd (d_X7_firstTable N V D x1) (fun v13 => if v13 = 0 then bnd (d_X7_secondTable N V D x1) (fun v15 => if v15 = 0 then bnd (d_X1_ask N V D ((1 : Int32))) (fun D17 => d_X1_lookAtFree_75 N V fuL D17 x1 ((0 : Int32))) else bnd (d_X1_ask N V D ((0 : Int32))) (fun D16 => d_X1_lookAtFree_75 N V fuL D16 x1 ((0 : Int32)))) else bnd (d_X1_ask N V D ((0 : Int32))) (fun D14 => d_X1_lookAtFree_75 N V fuL D14 x1 ((0 : Int32))))
def d_X1_lookAtFree (N : Nat) (V : Nat → Rw) (D : CfT) (a0 : Int32) : Option (CfT) := bnd (d_X7_links N V D a0) (fun v6 => if v6 = 0 then bnd (d_X7_size N V D a0) (fun v8 => if v8 = 0 then bnd (d_X7_markOf N V D a0) (fun v10 => if v10 = 0 then bnd (d_X1_ask N V D ((1 : Int32))) (fun D12 => d_X1_lookAtFree_42 N V D12 a0) else bnd (d_X1_ask N V D ((0 : Int32))) (fun D11 => d_X1_lookAtFree_42 N V D11 a0)) else bnd (d_X1_ask N V D ((0 : Int32))) (fun D9 => d_X1_lookAtFree_42 N V D9 a0)) else bnd (d_X1_ask N V D ((0 : Int32))) (fun D7 => d_X1_lookAtFree_42 N V D7 a0))
set_option maxRecDepth 100000 in
set_option maxHeartbeats 4000000 in
theorem l_X1_lookAtFree_75 (E : gE) (f0 : Nat → va_E) (sz : Nat) (QA : Nat → Prop) (N B gr : Nat) (C0 : CfT) (A : MS) (hz : CfZ E N B gr) : ∀ (n : Nat), ∀ (D : CfT) (x1 : Int32) (x2 : Int32) (D9 : CfT) (hr : d_X1_lookAtFree_75 N (vA A) n D x1 x2 = some D9) (f : Nat → va_E) (C : CfT) (h : CfV E f N B gr C) (hD : Dq D C) (hA : AR N B gr A C) (hR : Rq C0 C) (hf : Fr CfK f0 f), G E (4, yX1_lookAtFree, 3, none, sz, QA) cX1_lookAtFree (gO E (4, yX1_lookAtFree, 3, none, sz, QA) (fun v g => v = none ∧ ST E N B gr f0 C0 A D9 g, fun _ _ => False)) 75 [(0, .ref (gAd E (44))), (1, .int (x1)), (2, .int (x2))] [] f := by
  obtain ⟨z1, z2, z3, z4, z5, z6, z7⟩ := id hz
  intro n
  induction n with
  | zero =>
    intro D x1 x2 D9 hr f C h hD hA hR hf
    cases hr
  | succ n ih =>
    intro D x1 x2 D9 hr f C h hD hA hR hf
    unfold d_X1_lookAtFree_75 at hr
    refine G.go tv_X1_lookAtFree 2 78 [(0, .ref (gAd E (44))), (1, .int (x1)), (2, .int (x2))] [.int ((8 : Int32)), .int (x2)] rfl ?_
    refine G.cmp_ge 109 (tbd tv_X1_lookAtFree rfl) (by decide) (fun c78 => ?_) (fun c78 => ?_)
    · replace hr := ite_t c78 hr
      cases hr
      exact G.vret rfl ⟨rfl, C, h, hD, hA, hR, hf⟩ (tbd tv_X1_lookAtFree rfl)
    · replace hr := ite_f c78 hr
      refine G.go tv_X1_lookAtFree 2 83 [(0, .ref (gAd E (44))), (1, .int (x1)), (2, .int (x2))] [.ref (gAd E (44)), .ref (gAd E (44))] rfl ?_
      refine G.getf cls_X1 (44) 1 (by omega) (h.q44) (by decide) rfl (tbd tv_X1_lookAtFree rfl) w_545 ?_
      refine G.go tv_X1_lookAtFree 3 89 [(0, .ref (gAd E (44))), (1, .int (x1)), (2, .int (x2))] [.int ((0 : Int32)), .int (x2), .int (x1), .ref (gAd E (37)), .ref (gAd E (44))] rfl ?_
      obtain ⟨v18, hv18, hr⟩ := bnd_s hr
      refine G.callV (37) [.int (x1), .int (x2), .int ((0 : Int32))] [.ref (gAd E (44))] (k_X7_reach E _ N B gr C D A hz h hD hA x1 x2 ((0 : Int32)) v18 hv18) cls_X7 (by omega) (h.q37) cw_X1_107 w_954 w_955 (Nat.le_of_ble_eq_true rfl) rfl (Nat.le_of_ble_eq_true rfl) (tbd tv_X1_lookAtFree rfl) (fun v18w f18 q18 => ?_) (fun _ _ h => h.elim)
      obtain ⟨rfl, ha18, fa18⟩ := q18
      refine G.eqs [.int (v18), .ref (gAd E (44))] rfl ?_
      refine G.if_ne 99 (tbd tv_X1_lookAtFree rfl) (by decide) (fun c92 => ?_) (fun c92 => ?_)
      · replace hr := ite_f c92 hr
        refine G.go tv_X1_lookAtFree 1 100 [(0, .ref (gAd E (44))), (1, .int (x1)), (2, .int (x2))] [.int ((0 : Int32)), .ref (gAd E (44))] rfl ?_
        obtain ⟨D19, hv19, hr⟩ := bnd_s hr
        refine G.callV (44) [.int ((0 : Int32))] [] (k_X1_ask E _ N B gr C D A hz ha18 hD hA ((0 : Int32)) D19 hv19) cls_X1 (by omega) (ha18.q44) cw_X1_49 w_1982 w_44 (Nat.le_of_ble_eq_true rfl) rfl (Nat.le_of_ble_eq_true rfl) (tbd tv_X1_lookAtFree rfl) (fun v19w f19 q19 => ?_) (fun _ _ h => h.elim)
        obtain ⟨rfl, C19, ha19, hD19, hA19, hR19, fa19⟩ := q19
        refine G.eqs [] rfl ?_
        refine G.go tv_X1_lookAtFree 2 75 [(0, .ref (gAd E (44))), (1, .int (x1)), (2, .int (x2 + (1 : Int32)))] [] rfl ?_
        refine G.less [(0, .ref (gAd E (44))), (1, .int (x1)), (2, .int (x2 + (1 : Int32)))] [0, 1, 2] rfl ?_
        exact ih _ _ _ _ hr _ _ ha19 hD19 hA19 (hR.tr hR19) ((hf.tr fa18 (fun _ h => h)).tr fa19 (fun _ h => h))
      · replace hr := ite_t c92 hr
        refine G.go tv_X1_lookAtFree 2 100 [(0, .ref (gAd E (44))), (1, .int (x1)), (2, .int (x2))] [.int ((1 : Int32)), .ref (gAd E (44))] rfl ?_
        obtain ⟨D20, hv20, hr⟩ := bnd_s hr
        refine G.callV (44) [.int ((1 : Int32))] [] (k_X1_ask E _ N B gr C D A hz ha18 hD hA ((1 : Int32)) D20 hv20) cls_X1 (by omega) (ha18.q44) cw_X1_49 w_1982 w_44 (Nat.le_of_ble_eq_true rfl) rfl (Nat.le_of_ble_eq_true rfl) (tbd tv_X1_lookAtFree rfl) (fun v20w f20 q20 => ?_) (fun _ _ h => h.elim)
        obtain ⟨rfl, C20, ha20, hD20, hA20, hR20, fa20⟩ := q20
        refine G.eqs [] rfl ?_
        refine G.go tv_X1_lookAtFree 2 75 [(0, .ref (gAd E (44))), (1, .int (x1)), (2, .int (x2 + (1 : Int32)))] [] rfl ?_
        refine G.less [(0, .ref (gAd E (44))), (1, .int (x1)), (2, .int (x2 + (1 : Int32)))] [0, 1, 2] rfl ?_
        exact ih _ _ _ _ hr _ _ ha20 hD20 hA20 (hR.tr hR20) ((hf.tr fa18 (fun _ h => h)).tr fa20 (fun _ h => h))
set_option maxRecDepth 100000 in
set_option maxHeartbeats 4000000 in
theorem l_X1_lookAtFree_42 (E : gE) (f0 : Nat → va_E) (sz : Nat) (QA : Nat → Prop) (N B gr : Nat) (C0 : CfT) (A : MS) (hz : CfZ E N B gr) : ∀ (D : CfT) (x1 : Int32) (D9 : CfT) (hr : d_X1_lookAtFree_42 N (vA A) D x1 = some D9) (f : Nat → va_E) (C : CfT) (h : CfV E f N B gr C) (hD : Dq D C) (hA : AR N B gr A C) (hR : Rq C0 C) (hf : Fr CfK f0 f), G E (4, yX1_lookAtFree, 3, none, sz, QA) cX1_lookAtFree (gO E (4, yX1_lookAtFree, 3, none, sz, QA) (fun v g => v = none ∧ ST E N B gr f0 C0 A D9 g, fun _ _ => False)) 42 [(0, .ref (gAd E (44))), (1, .int (x1))] [] f := by
  obtain ⟨z1, z2, z3, z4, z5, z6, z7⟩ := id hz
  intro D x1 D9 hr f C h hD hA hR hf
  unfold d_X1_lookAtFree_42 at hr
  refine G.go tv_X1_lookAtFree 2 44 [(0, .ref (gAd E (44))), (1, .int (x1))] [.ref (gAd E (44)), .ref (gAd E (44))] rfl ?_
  refine G.getf cls_X1 (44) 1 (by omega) (h.q44) (by decide) rfl (tbd tv_X1_lookAtFree rfl) w_545 ?_
  refine G.go tv_X1_lookAtFree 1 48 [(0, .ref (gAd E (44))), (1, .int (x1))] [.int (x1), .ref (gAd E (37)), .ref (gAd E (44))] rfl ?_
  obtain ⟨v13, hv13, hr⟩ := bnd_s hr
  refine G.callV (37) [.int (x1)] [.ref (gAd E (44))] (k_X7_firstTable E _ N B gr C D A hz h hD hA x1 v13 hv13) cls_X7 (by omega) (h.q37) cw_X1_101 w_993 w_994 (Nat.le_of_ble_eq_true rfl) rfl (Nat.le_of_ble_eq_true rfl) (tbd tv_X1_lookAtFree rfl) (fun v13w f13 q13 => ?_) (fun _ _ h => h.elim)
  obtain ⟨rfl, ha13, fa13⟩ := q13
  refine G.eqs [.int (v13), .ref (gAd E (44))] rfl ?_
  refine G.if_ne 69 (tbd tv_X1_lookAtFree rfl) (by decide) (fun c51 => ?_) (fun c51 => ?_)
  · replace hr := ite_f c51 hr
    refine G.go tv_X1_lookAtFree 1 70 [(0, .ref (gAd E (44))), (1, .int (x1))] [.int ((0 : Int32)), .ref (gAd E (44))] rfl ?_
    obtain ⟨D14, hv14, hr⟩ := bnd_s hr
    refine G.callV (44) [.int ((0 : Int32))] [] (k_X1_ask E _ N B gr C D A hz ha13 hD hA ((0 : Int32)) D14 hv14) cls_X1 (by omega) (ha13.q44) cw_X1_49 w_1982 w_44 (Nat.le_of_ble_eq_true rfl) rfl (Nat.le_of_ble_eq_true rfl) (tbd tv_X1_lookAtFree rfl) (fun v14w f14 q14 => ?_) (fun _ _ h => h.elim)
    obtain ⟨rfl, C14, ha14, hD14, hA14, hR14, fa14⟩ := q14
    refine G.eqs [] rfl ?_
    refine G.go tv_X1_lookAtFree 2 75 [(0, .ref (gAd E (44))), (1, .int (x1)), (2, .int ((0 : Int32)))] [] rfl ?_
    refine G.less [(0, .ref (gAd E (44))), (1, .int (x1)), (2, .int ((0 : Int32)))] [0, 1, 2] rfl ?_
    exact l_X1_lookAtFree_75 E f0 sz QA N B gr C0 A hz _ _ _ _ _ hr _ _ ha14 hD14 hA14 (hR.tr hR14) ((hf.tr fa13 (fun _ h => h)).tr fa14 (fun _ h => h))
  · replace hr := ite_t c51 hr
    refine G.go tv_X1_lookAtFree 1 55 [(0, .ref (gAd E (44))), (1, .int (x1))] [.ref (gAd E (44)), .ref (gAd E (44))] rfl ?_
    refine G.getf cls_X1 (44) 1 (by omega) (ha13.q44) (by decide) rfl (tbd tv_X1_lookAtFree rfl) w_545 ?_
    refine G.go tv_X1_lookAtFree 1 59 [(0, .ref (gAd E (44))), (1, .int (x1))] [.int (x1), .ref (gAd E (37)), .ref (gAd E (44))] rfl ?_
    obtain ⟨v15, hv15, hr⟩ := bnd_s hr
    refine G.callV (37) [.int (x1)] [.ref (gAd E (44))] (k_X7_secondTable E _ N B gr C D A hz ha13 hD hA x1 v15 hv15) cls_X7 (by omega) (ha13.q37) cw_X1_104 w_997 w_998 (Nat.le_of_ble_eq_true rfl) rfl (Nat.le_of_ble_eq_true rfl) (tbd tv_X1_lookAtFree rfl) (fun v15w f15 q15 => ?_) (fun _ _ h => h.elim)
    obtain ⟨rfl, ha15, fa15⟩ := q15
    refine G.eqs [.int (v15), .ref (gAd E (44))] rfl ?_
    refine G.if_ne 69 (tbd tv_X1_lookAtFree rfl) (by decide) (fun c62 => ?_) (fun c62 => ?_)
    · replace hr := ite_f c62 hr
      refine G.go tv_X1_lookAtFree 1 70 [(0, .ref (gAd E (44))), (1, .int (x1))] [.int ((0 : Int32)), .ref (gAd E (44))] rfl ?_
      obtain ⟨D16, hv16, hr⟩ := bnd_s hr
      refine G.callV (44) [.int ((0 : Int32))] [] (k_X1_ask E _ N B gr C D A hz ha15 hD hA ((0 : Int32)) D16 hv16) cls_X1 (by omega) (ha15.q44) cw_X1_49 w_1982 w_44 (Nat.le_of_ble_eq_true rfl) rfl (Nat.le_of_ble_eq_true rfl) (tbd tv_X1_lookAtFree rfl) (fun v16w f16 q16 => ?_) (fun _ _ h => h.elim)
      obtain ⟨rfl, C16, ha16, hD16, hA16, hR16, fa16⟩ := q16
      refine G.eqs [] rfl ?_
      refine G.go tv_X1_lookAtFree 2 75 [(0, .ref (gAd E (44))), (1, .int (x1)), (2, .int ((0 : Int32)))] [] rfl ?_
      refine G.less [(0, .ref (gAd E (44))), (1, .int (x1)), (2, .int ((0 : Int32)))] [0, 1, 2] rfl ?_
      exact l_X1_lookAtFree_75 E f0 sz QA N B gr C0 A hz _ _ _ _ _ hr _ _ ha16 hD16 hA16 (hR.tr hR16) (((hf.tr fa13 (fun _ h => h)).tr fa15 (fun _ h => h)).tr fa16 (fun _ h => h))
    · replace hr := ite_t c62 hr
      refine G.go tv_X1_lookAtFree 2 70 [(0, .ref (gAd E (44))), (1, .int (x1))] [.int ((1 : Int32)), .ref (gAd E (44))] rfl ?_
      obtain ⟨D17, hv17, hr⟩ := bnd_s hr
      refine G.callV (44) [.int ((1 : Int32))] [] (k_X1_ask E _ N B gr C D A hz ha15 hD hA ((1 : Int32)) D17 hv17) cls_X1 (by omega) (ha15.q44) cw_X1_49 w_1982 w_44 (Nat.le_of_ble_eq_true rfl) rfl (Nat.le_of_ble_eq_true rfl) (tbd tv_X1_lookAtFree rfl) (fun v17w f17 q17 => ?_) (fun _ _ h => h.elim)
      obtain ⟨rfl, C17, ha17, hD17, hA17, hR17, fa17⟩ := q17
      refine G.eqs [] rfl ?_
      refine G.go tv_X1_lookAtFree 2 75 [(0, .ref (gAd E (44))), (1, .int (x1)), (2, .int ((0 : Int32)))] [] rfl ?_
      refine G.less [(0, .ref (gAd E (44))), (1, .int (x1)), (2, .int ((0 : Int32)))] [0, 1, 2] rfl ?_
      exact l_X1_lookAtFree_75 E f0 sz QA N B gr C0 A hz _ _ _ _ _ hr _ _ ha17 hD17 hA17 (hR.tr hR17) (((hf.tr fa13 (fun _ h => h)).tr fa15 (fun _ h => h)).tr fa17 (fun _ h => h))
set_option maxRecDepth 100000 in
set_option maxHeartbeats 4000000 in
theorem k_X1_lookAtFree (E : gE) (f : Nat → va_E) (N B gr : Nat) (C D : CfT) (A : MS) (hz : CfZ E N B gr) (h : CfV E f N B gr C) (hD : Dq D C) (hA : AR N B gr A C) (a0 : Int32) (D9 : CfT) (hr : d_X1_lookAtFree N (vA A) D a0 = some D9) : Ct E 4 yX1_lookAtFree cX1_lookAtFree 3 none [.ref (gAd E (44)), .int (a0)] f (fun v g => v = none ∧ ST E N B gr f C A D9 g, fun _ _ => False) := by
  obtain ⟨z1, z2, z3, z4, z5, z6, z7⟩ := id hz
  refine Ct.of (by decide) (Nat.le_of_ble_eq_true rfl) (fun sz => ?_)
  refine G.eql [(0, .ref (gAd E (44))), (1, .int (a0))] rfl ?_
  unfold d_X1_lookAtFree at hr
  refine G.go tv_X1_lookAtFree 2 2 [(0, .ref (gAd E (44))), (1, .int (a0))] [.ref (gAd E (44)), .ref (gAd E (44))] rfl ?_
  refine G.getf cls_X1 (44) 1 (by omega) (h.q44) (by decide) rfl (tbd tv_X1_lookAtFree rfl) w_545 ?_
  refine G.go tv_X1_lookAtFree 1 6 [(0, .ref (gAd E (44))), (1, .int (a0))] [.int (a0), .ref (gAd E (37)), .ref (gAd E (44))] rfl ?_
  obtain ⟨v6, hv6, hr⟩ := bnd_s hr
  refine G.callV (37) [.int (a0)] [.ref (gAd E (44))] (k_X7_links E _ N B gr C D A hz h hD hA a0 v6 hv6) cls_X7 (by omega) (h.q37) cw_X1_95 w_925 w_926 (Nat.le_of_ble_eq_true rfl) rfl (Nat.le_of_ble_eq_true rfl) (tbd tv_X1_lookAtFree rfl) (fun v6w f6 q6 => ?_) (fun _ _ h => h.elim)
  obtain ⟨rfl, ha6, fa6⟩ := q6
  refine G.eqs [.int (v6), .ref (gAd E (44))] rfl ?_
  refine G.if_ne 38 (tbd tv_X1_lookAtFree rfl) (by decide) (fun c9 => ?_) (fun c9 => ?_)
  · replace hr := ite_f c9 hr
    refine G.go tv_X1_lookAtFree 1 39 [(0, .ref (gAd E (44))), (1, .int (a0))] [.int ((0 : Int32)), .ref (gAd E (44))] rfl ?_
    obtain ⟨D7, hv7, hr⟩ := bnd_s hr
    refine G.callV (44) [.int ((0 : Int32))] [] (k_X1_ask E _ N B gr C D A hz ha6 hD hA ((0 : Int32)) D7 hv7) cls_X1 (by omega) (ha6.q44) cw_X1_49 w_1982 w_44 (Nat.le_of_ble_eq_true rfl) rfl (Nat.le_of_ble_eq_true rfl) (tbd tv_X1_lookAtFree rfl) (fun v7w f7 q7 => ?_) (fun _ _ h => h.elim)
    obtain ⟨rfl, C7, ha7, hD7, hA7, hR7, fa7⟩ := q7
    refine G.eqs [] rfl ?_
    refine G.less [(0, .ref (gAd E (44))), (1, .int (a0))] [0, 1] rfl ?_
    exact l_X1_lookAtFree_42 E f sz _ N B gr C A hz _ _ _ hr _ _ ha7 hD7 hA7 (Rq.rf.tr hR7) ((Fr.rf.tr fa6 (fun _ h => h)).tr fa7 (fun _ h => h))
  · replace hr := ite_t c9 hr
    refine G.go tv_X1_lookAtFree 1 13 [(0, .ref (gAd E (44))), (1, .int (a0))] [.ref (gAd E (44)), .ref (gAd E (44))] rfl ?_
    refine G.getf cls_X1 (44) 1 (by omega) (ha6.q44) (by decide) rfl (tbd tv_X1_lookAtFree rfl) w_545 ?_
    refine G.go tv_X1_lookAtFree 1 17 [(0, .ref (gAd E (44))), (1, .int (a0))] [.int (a0), .ref (gAd E (37)), .ref (gAd E (44))] rfl ?_
    obtain ⟨v8, hv8, hr⟩ := bnd_s hr
    refine G.callV (37) [.int (a0)] [.ref (gAd E (44))] (k_X7_size E _ N B gr C D A hz ha6 hD hA a0 v8 hv8) cls_X7 (by omega) (ha6.q37) cw_X1_66 w_941 w_942 (Nat.le_of_ble_eq_true rfl) rfl (Nat.le_of_ble_eq_true rfl) (tbd tv_X1_lookAtFree rfl) (fun v8w f8 q8 => ?_) (fun _ _ h => h.elim)
    obtain ⟨rfl, ha8, fa8⟩ := q8
    refine G.eqs [.int (v8), .ref (gAd E (44))] rfl ?_
    refine G.if_ne 38 (tbd tv_X1_lookAtFree rfl) (by decide) (fun c20 => ?_) (fun c20 => ?_)
    · replace hr := ite_f c20 hr
      refine G.go tv_X1_lookAtFree 1 39 [(0, .ref (gAd E (44))), (1, .int (a0))] [.int ((0 : Int32)), .ref (gAd E (44))] rfl ?_
      obtain ⟨D9, hv9, hr⟩ := bnd_s hr
      refine G.callV (44) [.int ((0 : Int32))] [] (k_X1_ask E _ N B gr C D A hz ha8 hD hA ((0 : Int32)) D9 hv9) cls_X1 (by omega) (ha8.q44) cw_X1_49 w_1982 w_44 (Nat.le_of_ble_eq_true rfl) rfl (Nat.le_of_ble_eq_true rfl) (tbd tv_X1_lookAtFree rfl) (fun v9w f9 q9 => ?_) (fun _ _ h => h.elim)
      obtain ⟨rfl, C9, ha9, hD9, hA9, hR9, fa9⟩ := q9
      refine G.eqs [] rfl ?_
      refine G.less [(0, .ref (gAd E (44))), (1, .int (a0))] [0, 1] rfl ?_
      exact l_X1_lookAtFree_42 E f sz _ N B gr C A hz _ _ _ hr _ _ ha9 hD9 hA9 (Rq.rf.tr hR9) (((Fr.rf.tr fa6 (fun _ h => h)).tr fa8 (fun _ h => h)).tr fa9 (fun _ h => h))
    · replace hr := ite_t c20 hr
      refine G.go tv_X1_lookAtFree 1 24 [(0, .ref (gAd E (44))), (1, .int (a0))] [.ref (gAd E (44)), .ref (gAd E (44))] rfl ?_
      refine G.getf cls_X1 (44) 1 (by omega) (ha8.q44) (by decide) rfl (tbd tv_X1_lookAtFree rfl) w_545 ?_
      refine G.go tv_X1_lookAtFree 1 28 [(0, .ref (gAd E (44))), (1, .int (a0))] [.int (a0), .ref (gAd E (37)), .ref (gAd E (44))] rfl ?_
      obtain ⟨v10, hv10, hr⟩ := bnd_s hr
      refine G.callV (37) [.int (a0)] [.ref (gAd E (44))] (k_X7_markOf E _ N B gr C D A hz ha8 hD hA a0 v10 hv10) cls_X7 (by omega) (ha8.q37) cw_X1_98 w_1563 w_1564 (Nat.le_of_ble_eq_true rfl) rfl (Nat.le_of_ble_eq_true rfl) (tbd tv_X1_lookAtFree rfl) (fun v10w f10 q10 => ?_) (fun _ _ h => h.elim)
      obtain ⟨rfl, ha10, fa10⟩ := q10
      refine G.eqs [.int (v10), .ref (gAd E (44))] rfl ?_
      refine G.if_ne 38 (tbd tv_X1_lookAtFree rfl) (by decide) (fun c31 => ?_) (fun c31 => ?_)
      · replace hr := ite_f c31 hr
        refine G.go tv_X1_lookAtFree 1 39 [(0, .ref (gAd E (44))), (1, .int (a0))] [.int ((0 : Int32)), .ref (gAd E (44))] rfl ?_
        obtain ⟨D11, hv11, hr⟩ := bnd_s hr
        refine G.callV (44) [.int ((0 : Int32))] [] (k_X1_ask E _ N B gr C D A hz ha10 hD hA ((0 : Int32)) D11 hv11) cls_X1 (by omega) (ha10.q44) cw_X1_49 w_1982 w_44 (Nat.le_of_ble_eq_true rfl) rfl (Nat.le_of_ble_eq_true rfl) (tbd tv_X1_lookAtFree rfl) (fun v11w f11 q11 => ?_) (fun _ _ h => h.elim)
        obtain ⟨rfl, C11, ha11, hD11, hA11, hR11, fa11⟩ := q11
        refine G.eqs [] rfl ?_
        refine G.less [(0, .ref (gAd E (44))), (1, .int (a0))] [0, 1] rfl ?_
        exact l_X1_lookAtFree_42 E f sz _ N B gr C A hz _ _ _ hr _ _ ha11 hD11 hA11 (Rq.rf.tr hR11) ((((Fr.rf.tr fa6 (fun _ h => h)).tr fa8 (fun _ h => h)).tr fa10 (fun _ h => h)).tr fa11 (fun _ h => h))
      · replace hr := ite_t c31 hr
        refine G.go tv_X1_lookAtFree 2 39 [(0, .ref (gAd E (44))), (1, .int (a0))] [.int ((1 : Int32)), .ref (gAd E (44))] rfl ?_
        obtain ⟨D12, hv12, hr⟩ := bnd_s hr
        refine G.callV (44) [.int ((1 : Int32))] [] (k_X1_ask E _ N B gr C D A hz ha10 hD hA ((1 : Int32)) D12 hv12) cls_X1 (by omega) (ha10.q44) cw_X1_49 w_1982 w_44 (Nat.le_of_ble_eq_true rfl) rfl (Nat.le_of_ble_eq_true rfl) (tbd tv_X1_lookAtFree rfl) (fun v12w f12 q12 => ?_) (fun _ _ h => h.elim)
        obtain ⟨rfl, C12, ha12, hD12, hA12, hR12, fa12⟩ := q12
        refine G.eqs [] rfl ?_
        refine G.less [(0, .ref (gAd E (44))), (1, .int (a0))] [0, 1] rfl ?_
        exact l_X1_lookAtFree_42 E f sz _ N B gr C A hz _ _ _ hr _ _ ha12 hD12 hA12 (Rq.rf.tr hR12) ((((Fr.rf.tr fa6 (fun _ h => h)).tr fa8 (fun _ h => h)).tr fa10 (fun _ h => h)).tr fa12 (fun _ h => h))
def tb_X1_lookAtTables : List (Nat × Instr × Nat) := [(0, .aload_n 0, 1), (1, .getfield 19, 3), (4, .iload_n 1, 1), (5, .invokevirtual 101, 3), (8, .istore_n 2, 1), (9, .iload_n 2, 1), (10, .ifCond .eq 8, 3), (13, .aload_n 0, 1), (14, .iload_n 2, 1), (15, .invokevirtual 82, 3), (18, .aload_n 0, 1), (19, .getfield 19, 3), (22, .iload_n 1, 1), (23, .invokevirtual 104, 3), (26, .istore_n 3, 1), (27, .iload_n 3, 1), (28, .ifCond .ne 4, 3), (31, .return_, 1), (32, .aload_n 0, 1), (33, .iload_n 3, 1), (34, .invokevirtual 82, 3), (37, .iconst 0, 1), (38, .istore 4, 2), (40, .iload 4, 2), (42, .bipush 64, 2), (44, .if_icmp .ge 32, 3), (47, .aload_n 0, 1), (48, .getfield 19, 3), (51, .iload_n 3, 1), (52, .iload 4, 2), (54, .invokevirtual 111, 3), (57, .istore 5, 2), (59, .iload 5, 2), (61, .ifCond .eq 9, 3), (64, .aload_n 0, 1), (65, .iload 5, 2), (67, .invokevirtual 82, 3), (70, .iinc 4 1, 3), (73, .goto (-33), 3), (76, .return_, 1)]
theorem tv_X1_lookAtTables : Tv cX1_lookAtTables tb_X1_lookAtTables := by
  unfold Tv
  decide +kernel
theorem w_2003 : Cond.methodLink "LedgerFiles$Checker" 82 yX1_own ∈ TB := tp_8 177 (by decide +kernel) rfl
theorem w_2006 : Cond.code yX1_own prog_3_method_6_code 2 none ∈ TB := tp_8 180 rfl rfl
theorem cw_X1_82 : Cw RX1 82 yX1_own cX1_own 2 none 1 := ⟨w_2003, w_2006, w_160, by decide +kernel, by decide +kernel, by decide⟩
theorem w_2005 : Cond.instanceMethod yX1_own ∈ TB := tp_8 179 (by decide +kernel) rfl
theorem w_48 : Cond.selects "LedgerFiles$Checker" yX1_own yX1_own ∈ TB := tp_0 48 (by decide +kernel) rfl
theorem w_2007 : Cond.methodLink "LedgerFiles$Checker" 111 yX7_tableOfSecond ∈ TB := tp_8 181 (by decide +kernel) rfl
theorem cw_X1_111 : Cw RX1 111 yX7_tableOfSecond cX7_tableOfSecond 3 (some .int) 2 := ⟨w_2007, w_1003, w_157, by decide +kernel, by decide +kernel, by decide⟩
def d_X1_lookAtTables_40 (N : Nat) (V : Nat → Rw) : Nat → CfT → Int32 → Int32 → Option (CfT)
  | 0, _, _, _ => none
  | n + 1, D, x3, x4 => if ((64 : Int32)) ≤ x4 then some D else bnd (d_X7_tableOfSecond N V D x3 x4) (fun v27 => if v27 = 0 then d_X1_lookAtTables_40 N V n D x3 (x4 + (1 : Int32)) else bnd (d_X1_own N V D v27) (fun D28 => d_X1_lookAtTables_40 N V n D28 x3 (x4 + (1 : Int32))))
def d_X1_lookAtTables (N : Nat) (V : Nat → Rw) (D : CfT) (a0 : Int32) : Option (CfT) := bnd (d_X7_firstTable N V D a0) (fun v21 => if v21 = 0 then bnd (d_X7_secondTable N V D a0) (fun v22 => if v22 = 0 then some D else bnd (d_X1_own N V D v22) (fun D23 => d_X1_lookAtTables_40 N V fuL D23 v22 ((0 : Int32)))) else bnd (d_X1_own N V D v21) (fun D24 => bnd (d_X7_secondTable N V D24 a0) (fun v25 => if v25 = 0 then some D24 else bnd (d_X1_own N V D24 v25) (fun D26 => d_X1_lookAtTables_40 N V fuL D26 v25 ((0 : Int32))))))
set_option maxRecDepth 100000 in
set_option maxHeartbeats 4000000 in
theorem l_X1_lookAtTables_40 (E : gE) (f0 : Nat → va_E) (sz : Nat) (QA : Nat → Prop) (N B gr : Nat) (C0 : CfT) (A : MS) (hz : CfZ E N B gr) : ∀ (n : Nat), ∀ (D : CfT) (x3 : Int32) (x4 : Int32) (D9 : CfT) (hr : d_X1_lookAtTables_40 N (vA A) n D x3 x4 = some D9) (f : Nat → va_E) (C : CfT) (h : CfV E f N B gr C) (hD : Dq D C) (hA : AR N B gr A C) (hR : Rq C0 C) (hf : Fr CfK f0 f), G E (4, yX1_lookAtTables, 6, none, sz, QA) cX1_lookAtTables (gO E (4, yX1_lookAtTables, 6, none, sz, QA) (fun v g => v = none ∧ ST E N B gr f0 C0 A D9 g, fun _ _ => False)) 40 [(0, .ref (gAd E (44))), (3, .int (x3)), (4, .int (x4))] [] f := by
  obtain ⟨z1, z2, z3, z4, z5, z6, z7⟩ := id hz
  intro n
  induction n with
  | zero =>
    intro D x3 x4 D9 hr f C h hD hA hR hf
    cases hr
  | succ n ih =>
    intro D x3 x4 D9 hr f C h hD hA hR hf
    unfold d_X1_lookAtTables_40 at hr
    refine G.go tv_X1_lookAtTables 2 44 [(0, .ref (gAd E (44))), (3, .int (x3)), (4, .int (x4))] [.int ((64 : Int32)), .int (x4)] rfl ?_
    refine G.cmp_ge 76 (tbd tv_X1_lookAtTables rfl) (by decide) (fun c44 => ?_) (fun c44 => ?_)
    · replace hr := ite_t c44 hr
      cases hr
      exact G.vret rfl ⟨rfl, C, h, hD, hA, hR, hf⟩ (tbd tv_X1_lookAtTables rfl)
    · replace hr := ite_f c44 hr
      refine G.go tv_X1_lookAtTables 1 48 [(0, .ref (gAd E (44))), (3, .int (x3)), (4, .int (x4))] [.ref (gAd E (44))] rfl ?_
      refine G.getf cls_X1 (44) 1 (by omega) (h.q44) (by decide) rfl (tbd tv_X1_lookAtTables rfl) w_545 ?_
      refine G.go tv_X1_lookAtTables 2 54 [(0, .ref (gAd E (44))), (3, .int (x3)), (4, .int (x4))] [.int (x4), .int (x3), .ref (gAd E (37))] rfl ?_
      obtain ⟨v27, hv27, hr⟩ := bnd_s hr
      refine G.callV (37) [.int (x3), .int (x4)] [] (k_X7_tableOfSecond E _ N B gr C D A hz h hD hA x3 x4 v27 hv27) cls_X7 (by omega) (h.q37) cw_X1_111 w_1001 w_1002 (Nat.le_of_ble_eq_true rfl) rfl (Nat.le_of_ble_eq_true rfl) (tbd tv_X1_lookAtTables rfl) (fun v27w f27 q27 => ?_) (fun _ _ h => h.elim)
      obtain ⟨rfl, ha27, fa27⟩ := q27
      refine G.eqs [.int (v27)] rfl ?_
      refine G.go tv_X1_lookAtTables 2 61 [(0, .ref (gAd E (44))), (3, .int (x3)), (4, .int (x4)), (5, .int (v27))] [.int (v27)] rfl ?_
      refine G.if_eq 70 (tbd tv_X1_lookAtTables rfl) (by decide) (fun c61 => ?_) (fun c61 => ?_)
      · replace hr := ite_t c61 hr
        refine G.go tv_X1_lookAtTables 2 40 [(0, .ref (gAd E (44))), (3, .int (x3)), (4, .int (x4 + (1 : Int32))), (5, .int (v27))] [] rfl ?_
        refine G.less [(0, .ref (gAd E (44))), (3, .int (x3)), (4, .int (x4 + (1 : Int32)))] [0, 1, 2] rfl ?_
        exact ih _ _ _ _ hr _ _ ha27 hD hA hR (hf.tr fa27 (fun _ h => h))
      · replace hr := ite_f c61 hr
        refine G.go tv_X1_lookAtTables 2 67 [(0, .ref (gAd E (44))), (3, .int (x3)), (4, .int (x4)), (5, .int (v27))] [.int (v27), .ref (gAd E (44))] rfl ?_
        obtain ⟨D28, hv28, hr⟩ := bnd_s hr
        refine G.callV (44) [.int (v27)] [] (k_X1_own E _ N B gr C D A hz ha27 hD hA v27 D28 hv28) cls_X1 (by omega) (ha27.q44) cw_X1_82 w_2005 w_48 (Nat.le_of_ble_eq_true rfl) rfl (Nat.le_of_ble_eq_true rfl) (tbd tv_X1_lookAtTables rfl) (fun v28w f28 q28 => ?_) (fun _ _ h => h.elim)
        obtain ⟨rfl, C28, ha28, hD28, hA28, hR28, fa28⟩ := q28
        refine G.eqs [] rfl ?_
        refine G.go tv_X1_lookAtTables 2 40 [(0, .ref (gAd E (44))), (3, .int (x3)), (4, .int (x4 + (1 : Int32))), (5, .int (v27))] [] rfl ?_
        refine G.less [(0, .ref (gAd E (44))), (3, .int (x3)), (4, .int (x4 + (1 : Int32)))] [0, 1, 2] rfl ?_
        exact ih _ _ _ _ hr _ _ ha28 hD28 hA28 (hR.tr hR28) ((hf.tr fa27 (fun _ h => h)).tr fa28 (fun _ h => h))
set_option maxRecDepth 100000 in
set_option maxHeartbeats 4000000 in
theorem k_X1_lookAtTables (E : gE) (f : Nat → va_E) (N B gr : Nat) (C D : CfT) (A : MS) (hz : CfZ E N B gr) (h : CfV E f N B gr C) (hD : Dq D C) (hA : AR N B gr A C) (a0 : Int32) (D9 : CfT) (hr : d_X1_lookAtTables N (vA A) D a0 = some D9) : Ct E 4 yX1_lookAtTables cX1_lookAtTables 6 none [.ref (gAd E (44)), .int (a0)] f (fun v g => v = none ∧ ST E N B gr f C A D9 g, fun _ _ => False) := by
  obtain ⟨z1, z2, z3, z4, z5, z6, z7⟩ := id hz
  refine Ct.of (by decide) (Nat.le_of_ble_eq_true rfl) (fun sz => ?_)
  refine G.eql [(0, .ref (gAd E (44))), (1, .int (a0))] rfl ?_
  unfold d_X1_lookAtTables at hr
  refine G.go tv_X1_lookAtTables 1 1 [(0, .ref (gAd E (44))), (1, .int (a0))] [.ref (gAd E (44))] rfl ?_
  refine G.getf cls_X1 (44) 1 (by omega) (h.q44) (by decide) rfl (tbd tv_X1_lookAtTables rfl) w_545 ?_
  refine G.go tv_X1_lookAtTables 1 5 [(0, .ref (gAd E (44))), (1, .int (a0))] [.int (a0), .ref (gAd E (37))] rfl ?_
  obtain ⟨v21, hv21, hr⟩ := bnd_s hr
  refine G.callV (37) [.int (a0)] [] (k_X7_firstTable E _ N B gr C D A hz h hD hA a0 v21 hv21) cls_X7 (by omega) (h.q37) cw_X1_101 w_993 w_994 (Nat.le_of_ble_eq_true rfl) rfl (Nat.le_of_ble_eq_true rfl) (tbd tv_X1_lookAtTables rfl) (fun v21w f21 q21 => ?_) (fun _ _ h => h.elim)
  obtain ⟨rfl, ha21, fa21⟩ := q21
  refine G.eqs [.int (v21)] rfl ?_
  refine G.go tv_X1_lookAtTables 2 10 [(0, .ref (gAd E (44))), (1, .int (a0)), (2, .int (v21))] [.int (v21)] rfl ?_
  refine G.if_eq 18 (tbd tv_X1_lookAtTables rfl) (by decide) (fun c10 => ?_) (fun c10 => ?_)
  · replace hr := ite_t c10 hr
    refine G.go tv_X1_lookAtTables 1 19 [(0, .ref (gAd E (44))), (1, .int (a0)), (2, .int (v21))] [.ref (gAd E (44))] rfl ?_
    refine G.getf cls_X1 (44) 1 (by omega) (ha21.q44) (by decide) rfl (tbd tv_X1_lookAtTables rfl) w_545 ?_
    refine G.go tv_X1_lookAtTables 1 23 [(0, .ref (gAd E (44))), (1, .int (a0)), (2, .int (v21))] [.int (a0), .ref (gAd E (37))] rfl ?_
    obtain ⟨v22, hv22, hr⟩ := bnd_s hr
    refine G.callV (37) [.int (a0)] [] (k_X7_secondTable E _ N B gr C D A hz ha21 hD hA a0 v22 hv22) cls_X7 (by omega) (ha21.q37) cw_X1_104 w_997 w_998 (Nat.le_of_ble_eq_true rfl) rfl (Nat.le_of_ble_eq_true rfl) (tbd tv_X1_lookAtTables rfl) (fun v22w f22 q22 => ?_) (fun _ _ h => h.elim)
    obtain ⟨rfl, ha22, fa22⟩ := q22
    refine G.eqs [.int (v22)] rfl ?_
    refine G.go tv_X1_lookAtTables 2 28 [(0, .ref (gAd E (44))), (1, .int (a0)), (2, .int (v21)), (3, .int (v22))] [.int (v22)] rfl ?_
    refine G.if_ne 32 (tbd tv_X1_lookAtTables rfl) (by decide) (fun c28 => ?_) (fun c28 => ?_)
    · replace hr := ite_f c28 hr
      refine G.go tv_X1_lookAtTables 2 34 [(0, .ref (gAd E (44))), (1, .int (a0)), (2, .int (v21)), (3, .int (v22))] [.int (v22), .ref (gAd E (44))] rfl ?_
      obtain ⟨D23, hv23, hr⟩ := bnd_s hr
      refine G.callV (44) [.int (v22)] [] (k_X1_own E _ N B gr C D A hz ha22 hD hA v22 D23 hv23) cls_X1 (by omega) (ha22.q44) cw_X1_82 w_2005 w_48 (Nat.le_of_ble_eq_true rfl) rfl (Nat.le_of_ble_eq_true rfl) (tbd tv_X1_lookAtTables rfl) (fun v23w f23 q23 => ?_) (fun _ _ h => h.elim)
      obtain ⟨rfl, C23, ha23, hD23, hA23, hR23, fa23⟩ := q23
      refine G.eqs [] rfl ?_
      refine G.go tv_X1_lookAtTables 2 40 [(0, .ref (gAd E (44))), (1, .int (a0)), (2, .int (v21)), (3, .int (v22)), (4, .int ((0 : Int32)))] [] rfl ?_
      refine G.less [(0, .ref (gAd E (44))), (3, .int (v22)), (4, .int ((0 : Int32)))] [0, 3, 4] rfl ?_
      exact l_X1_lookAtTables_40 E f sz _ N B gr C A hz _ _ _ _ _ hr _ _ ha23 hD23 hA23 (Rq.rf.tr hR23) (((Fr.rf.tr fa21 (fun _ h => h)).tr fa22 (fun _ h => h)).tr fa23 (fun _ h => h))
    · replace hr := ite_t c28 hr
      cases hr
      exact G.vret rfl ⟨rfl, C, ha22, hD, hA, Rq.rf, ((Fr.rf.tr fa21 (fun _ h => h)).tr fa22 (fun _ h => h))⟩ (tbd tv_X1_lookAtTables rfl)
  · replace hr := ite_f c10 hr
    refine G.go tv_X1_lookAtTables 2 15 [(0, .ref (gAd E (44))), (1, .int (a0)), (2, .int (v21))] [.int (v21), .ref (gAd E (44))] rfl ?_
    obtain ⟨D24, hv24, hr⟩ := bnd_s hr
    refine G.callV (44) [.int (v21)] [] (k_X1_own E _ N B gr C D A hz ha21 hD hA v21 D24 hv24) cls_X1 (by omega) (ha21.q44) cw_X1_82 w_2005 w_48 (Nat.le_of_ble_eq_true rfl) rfl (Nat.le_of_ble_eq_true rfl) (tbd tv_X1_lookAtTables rfl) (fun v24w f24 q24 => ?_) (fun _ _ h => h.elim)
    obtain ⟨rfl, C24, ha24, hD24, hA24, hR24, fa24⟩ := q24
    refine G.eqs [] rfl ?_
    refine G.go tv_X1_lookAtTables 1 19 [(0, .ref (gAd E (44))), (1, .int (a0)), (2, .int (v21))] [.ref (gAd E (44))] rfl ?_
    refine G.getf cls_X1 (44) 1 (by omega) (ha24.q44) (by decide) rfl (tbd tv_X1_lookAtTables rfl) w_545 ?_
    refine G.go tv_X1_lookAtTables 1 23 [(0, .ref (gAd E (44))), (1, .int (a0)), (2, .int (v21))] [.int (a0), .ref (gAd E (37))] rfl ?_
    obtain ⟨v25, hv25, hr⟩ := bnd_s hr
    refine G.callV (37) [.int (a0)] [] (k_X7_secondTable E _ N B gr C24 D24 A hz ha24 hD24 hA24 a0 v25 hv25) cls_X7 (by omega) (ha24.q37) cw_X1_104 w_997 w_998 (Nat.le_of_ble_eq_true rfl) rfl (Nat.le_of_ble_eq_true rfl) (tbd tv_X1_lookAtTables rfl) (fun v25w f25 q25 => ?_) (fun _ _ h => h.elim)
    obtain ⟨rfl, ha25, fa25⟩ := q25
    refine G.eqs [.int (v25)] rfl ?_
    refine G.go tv_X1_lookAtTables 2 28 [(0, .ref (gAd E (44))), (1, .int (a0)), (2, .int (v21)), (3, .int (v25))] [.int (v25)] rfl ?_
    refine G.if_ne 32 (tbd tv_X1_lookAtTables rfl) (by decide) (fun c28 => ?_) (fun c28 => ?_)
    · replace hr := ite_f c28 hr
      refine G.go tv_X1_lookAtTables 2 34 [(0, .ref (gAd E (44))), (1, .int (a0)), (2, .int (v21)), (3, .int (v25))] [.int (v25), .ref (gAd E (44))] rfl ?_
      obtain ⟨D26, hv26, hr⟩ := bnd_s hr
      refine G.callV (44) [.int (v25)] [] (k_X1_own E _ N B gr C24 D24 A hz ha25 hD24 hA24 v25 D26 hv26) cls_X1 (by omega) (ha25.q44) cw_X1_82 w_2005 w_48 (Nat.le_of_ble_eq_true rfl) rfl (Nat.le_of_ble_eq_true rfl) (tbd tv_X1_lookAtTables rfl) (fun v26w f26 q26 => ?_) (fun _ _ h => h.elim)
      obtain ⟨rfl, C26, ha26, hD26, hA26, hR26, fa26⟩ := q26
      refine G.eqs [] rfl ?_
      refine G.go tv_X1_lookAtTables 2 40 [(0, .ref (gAd E (44))), (1, .int (a0)), (2, .int (v21)), (3, .int (v25)), (4, .int ((0 : Int32)))] [] rfl ?_
      refine G.less [(0, .ref (gAd E (44))), (3, .int (v25)), (4, .int ((0 : Int32)))] [0, 3, 4] rfl ?_
      exact l_X1_lookAtTables_40 E f sz _ N B gr C A hz _ _ _ _ _ hr _ _ ha26 hD26 hA26 ((Rq.rf.tr hR24).tr hR26) ((((Fr.rf.tr fa21 (fun _ h => h)).tr fa24 (fun _ h => h)).tr fa25 (fun _ h => h)).tr fa26 (fun _ h => h))
    · replace hr := ite_t c28 hr
      cases hr
      exact G.vret rfl ⟨rfl, C24, ha25, hD24, hA24, (Rq.rf.tr hR24), (((Fr.rf.tr fa21 (fun _ h => h)).tr fa24 (fun _ h => h)).tr fa25 (fun _ h => h))⟩ (tbd tv_X1_lookAtTables rfl)
def tb_X1_lookAtSlots : List (Nat × Instr × Nat) := [(0, .iconst 0, 1), (1, .istore_n 2, 1), (2, .iload_n 2, 1), (3, .bipush 16, 2), (5, .iadd, 1), (6, .sipush 128, 3), (9, .if_icmp .gt 148, 3), (12, .aload_n 1, 1), (13, .iload_n 2, 1), (14, .invokestatic 115, 3), (17, .istore_n 3, 1), (18, .iload_n 3, 1), (19, .ifCond .ne 7, 3), (22, .iconst 0, 1), (23, .goto 8, 3), (26, .aload_n 1, 1), (27, .iload_n 2, 1), (28, .iconst 2, 1), (29, .iadd, 1), (30, .baload, 1), (31, .istore 4, 2), (33, .aload_n 0, 1), (34, .iload_n 3, 1), (35, .ifCond .eq 15, 3), (38, .aload_n 1, 1), (39, .iload_n 2, 1), (40, .iconst 3, 1), (41, .iadd, 1), (42, .iload 4, 2), (44, .invokestatic 121, 3), (47, .ifCond .eq 7, 3), (50, .iconst 1, 1), (51, .goto 4, 3), (54, .iconst 0, 1), (55, .invokevirtual 49, 3), (58, .aload_n 0, 1), (59, .iload_n 3, 1), (60, .ifCond .eq 14, 3), (63, .aload_n 0, 1), (64, .getfield 19, 3), (67, .iload_n 3, 1), (68, .invokevirtual 43, 3), (71, .ifCond .eq 7, 3), (74, .iconst 1, 1), (75, .goto 4, 3), (78, .iconst 0, 1), (79, .invokevirtual 49, 3), (82, .iload_n 3, 1), (83, .ifCond .eq 19, 3), (86, .iload_n 3, 1), (87, .bipush 64, 2), (89, .if_icmp .gt 13, 3), (92, .aload_n 0, 1), (93, .getfield 9, 3), (96, .iload_n 3, 1), (97, .dup2, 1), (98, .iaload, 1), (99, .iconst 1, 1), (100, .iadd, 1), (101, .iastore, 1), (102, .iload_n 3, 1), (103, .ifCond .ne 7, 3), (106, .iconst 2, 1), (107, .goto 11, 3), (110, .iconst 3, 1), (111, .iconst 0, 1), (112, .iload 4, 2), (114, .invokestatic 127, 3), (117, .iadd, 1), (118, .istore 5, 2), (120, .iload 5, 2), (122, .bipush 16, 2), (124, .if_icmp .ge 27, 3), (127, .aload_n 0, 1), (128, .aload_n 1, 1), (129, .iload_n 2, 1), (130, .iload 5, 2), (132, .iadd, 1), (133, .baload, 1), (134, .ifCond .ne 7, 3), (137, .iconst 1, 1), (138, .goto 4, 3), (141, .iconst 0, 1), (142, .invokevirtual 49, 3), (145, .iinc 5 1, 3), (148, .goto (-28), 3), (151, .iinc 2 16, 3), (154, .goto (-152), 3), (157, .return_, 1)]
theorem tv_X1_lookAtSlots : Tv cX1_lookAtSlots tb_X1_lookAtSlots := by
  unfold Tv
  decide +kernel
theorem w_2014 : Cond.methodLink "LedgerFiles$Checker" 115 yX2_two ∈ TB := tp_8 188 (by decide +kernel) rfl
theorem cw_X1_115 : Cw RX1 115 yX2_two cX2_two 2 (some .int) 2 := ⟨w_2014, w_879, w_149, by decide +kernel, by decide +kernel, by decide⟩
theorem w_2015 : Cond.methodLink "LedgerFiles$Checker" 121 yX8_isName ∈ TB := tp_8 189 (by decide +kernel) rfl
theorem cw_X1_121 : Cw RX1 121 yX8_isName cX8_isName 5 (some .boolean) 3 := ⟨w_2015, w_1351, w_148, by decide +kernel, by decide +kernel, by decide⟩
theorem w_1979 : Cond.methodLink "LedgerFiles$Checker" 43 yX7_kind ∈ TB := tp_8 153 (by decide +kernel) rfl
theorem cw_X1_43 : Cw RX1 43 yX7_kind cX7_kind 2 (some .int) 1 := ⟨w_1979, w_905, w_157, by decide +kernel, by decide +kernel, by decide⟩
theorem w_2016 : Cond.methodLink "LedgerFiles$Checker" 127 yJ9_max_7cf53 ∈ TB := tp_8 190 (by decide +kernel) rfl
def d_X1_lookAtSlots_120 (N : Nat) (V : Nat → Rw) (self2 : CfT → (Nat → Int32) → Nat → Int32 → Option (CfT)) : Nat → CfT → (Nat → Int32) → Nat → Int32 → Int32 → Option (CfT)
  | 0, _, _, _, _, _ => none
  | n + 1, D, ga1, na1, x2, x5 => if ((16 : Int32)) ≤ x5 then self2 D ga1 na1 (x2 + (16 : Int32)) else ld ga1 na1 ((x2) + (x5)) (fun v42 => if v42 = 0 then bnd (d_X1_ask N V D ((1 : Int32))) (fun D44 => d_X1_lookAtSlots_120 N V self2 n D44 ga1 na1 x2 (x5 + (1 : Int32))) else bnd (d_X1_ask N V D ((0 : Int32))) (fun D43 => d_X1_lookAtSlots_120 N V self2 n D43 ga1 na1 x2 (x5 + (1 : Int32))))
def d_X1_lookAtSlots_102 (N : Nat) (V : Nat → Rw) (self2 : CfT → (Nat → Int32) → Nat → Int32 → Option (CfT)) (D : CfT) (ga1 : Nat → Int32) (na1 : Nat) (x2 : Int32) (x3 : Int32) (x4 : Int32) : Option (CfT) := if x3 = 0 then d_X1_lookAtSlots_120 N V self2 fuL D ga1 na1 x2 ((2 : Int32)) else nm (if ((0 : Int32)) < x4 then x4 else ((0 : Int32))) (fun v41 => d_X1_lookAtSlots_120 N V self2 fuL D ga1 na1 x2 (((3 : Int32)) + (v41)))
def d_X1_lookAtSlots_82 (N : Nat) (V : Nat → Rw) (self2 : CfT → (Nat → Int32) → Nat → Int32 → Option (CfT)) (D : CfT) (ga1 : Nat → Int32) (na1 : Nat) (x2 : Int32) (x3 : Int32) (x4 : Int32) : Option (CfT) := if x3 = 0 then d_X1_lookAtSlots_102 N V self2 D ga1 na1 x2 x3 x4 else if ((64 : Int32)) < x3 then d_X1_lookAtSlots_102 N V self2 D ga1 na1 x2 x3 x4 else ld (cA D 46) 65 x3 (fun v39 => stA D 46 65 x3 ((v39) + ((1 : Int32))) (fun D40 => d_X1_lookAtSlots_102 N V self2 D40 ga1 na1 x2 x3 x4))
def d_X1_lookAtSlots_58 (N : Nat) (V : Nat → Rw) (self2 : CfT → (Nat → Int32) → Nat → Int32 → Option (CfT)) (D : CfT) (ga1 : Nat → Int32) (na1 : Nat) (x2 : Int32) (x3 : Int32) (x4 : Int32) : Option (CfT) := if x3 = 0 then bnd (d_X1_ask N V D ((1 : Int32))) (fun D35 => d_X1_lookAtSlots_82 N V self2 D35 ga1 na1 x2 x3 x4) else bnd (d_X7_kind N V D x3) (fun v36 => if v36 = 0 then bnd (d_X1_ask N V D ((0 : Int32))) (fun D37 => d_X1_lookAtSlots_82 N V self2 D37 ga1 na1 x2 x3 x4) else bnd (d_X1_ask N V D ((1 : Int32))) (fun D38 => d_X1_lookAtSlots_82 N V self2 D38 ga1 na1 x2 x3 x4))
def d_X1_lookAtSlots_33 (N : Nat) (V : Nat → Rw) (self2 : CfT → (Nat → Int32) → Nat → Int32 → Option (CfT)) (D : CfT) (ga1 : Nat → Int32) (na1 : Nat) (x2 : Int32) (x3 : Int32) (x4 : Int32) : Option (CfT) := if x3 = 0 then bnd (d_X1_ask N V D ((1 : Int32))) (fun D31 => d_X1_lookAtSlots_58 N V self2 D31 ga1 na1 x2 x3 x4) else bnd (d_X8_isName N V D ga1 na1 ((x2) + ((3 : Int32))) x4) (fun v32 => if v32 = 0 then bnd (d_X1_ask N V D ((0 : Int32))) (fun D33 => d_X1_lookAtSlots_58 N V self2 D33 ga1 na1 x2 x3 x4) else bnd (d_X1_ask N V D ((1 : Int32))) (fun D34 => d_X1_lookAtSlots_58 N V self2 D34 ga1 na1 x2 x3 x4))
def d_X1_lookAtSlots_2 (N : Nat) (V : Nat → Rw) : Nat → CfT → (Nat → Int32) → Nat → Int32 → Option (CfT)
  | 0, _, _, _, _ => none
  | n + 1, D, ga1, na1, x2 => if ((128 : Int32)) < ((x2) + ((16 : Int32))) then some D else bnd (d_X2_two N V D ga1 na1 x2) (fun v29 => if v29 = 0 then d_X1_lookAtSlots_33 N V (d_X1_lookAtSlots_2 N V n) D ga1 na1 x2 v29 ((0 : Int32)) else ld ga1 na1 ((x2) + ((2 : Int32))) (fun v30 => d_X1_lookAtSlots_33 N V (d_X1_lookAtSlots_2 N V n) D ga1 na1 x2 v29 v30))
def d_X1_lookAtSlots (N : Nat) (V : Nat → Rw) (D : CfT) (ga0 : Nat → Int32) (na0 : Nat) : Option (CfT) := d_X1_lookAtSlots_2 N V fuL D ga0 na0 ((0 : Int32))
set_option maxRecDepth 100000 in
set_option maxHeartbeats 4000000 in
theorem l_X1_lookAtSlots_120 (E : gE) (f0 : Nat → va_E) (sz : Nat) (QA : Nat → Prop) (N B gr : Nat) (C0 : CfT) (A : MS) (hz : CfZ E N B gr) (self2 : CfT → (Nat → Int32) → Nat → Int32 → Option (CfT)) (hs2 : ∀ (D : CfT) (ga1 : Nat → Int32) (na1 : Nat) (x2 : Int32) (D9 : CfT) (hr : self2 D ga1 na1 x2 = some D9) (f : Nat → va_E) (C : CfT) (h : CfV E f N B gr C) (hD : Dq D C) (hA : AR N B gr A C) (hR : Rq C0 C) (hf : Fr CfK f0 f) (ka1 : Nat) (wa1 : ArK N B gr C ka1 na1 ga1), G E (4, yX1_lookAtSlots, 6, none, sz, QA) cX1_lookAtSlots (gO E (4, yX1_lookAtSlots, 6, none, sz, QA) (fun v g => v = none ∧ ST E N B gr f0 C0 A D9 g, fun _ _ => False)) 2 [(0, .ref (gAd E (44))), (1, .ref (gAd E (ka1))), (2, .int (x2))] [] f) : ∀ (n : Nat), ∀ (D : CfT) (ga1 : Nat → Int32) (na1 : Nat) (x2 : Int32) (x5 : Int32) (D9 : CfT) (hr : d_X1_lookAtSlots_120 N (vA A) self2 n D ga1 na1 x2 x5 = some D9) (f : Nat → va_E) (C : CfT) (h : CfV E f N B gr C) (hD : Dq D C) (hA : AR N B gr A C) (hR : Rq C0 C) (hf : Fr CfK f0 f) (ka1 : Nat) (wa1 : ArK N B gr C ka1 na1 ga1), G E (4, yX1_lookAtSlots, 6, none, sz, QA) cX1_lookAtSlots (gO E (4, yX1_lookAtSlots, 6, none, sz, QA) (fun v g => v = none ∧ ST E N B gr f0 C0 A D9 g, fun _ _ => False)) 120 [(0, .ref (gAd E (44))), (1, .ref (gAd E (ka1))), (2, .int (x2)), (5, .int (x5))] [] f := by
  obtain ⟨z1, z2, z3, z4, z5, z6, z7⟩ := id hz
  intro n
  induction n with
  | zero =>
    intro D ga1 na1 x2 x5 D9 hr f C h hD hA hR hf ka1 wa1
    cases hr
  | succ n ih =>
    intro D ga1 na1 x2 x5 D9 hr f C h hD hA hR hf ka1 wa1
    unfold d_X1_lookAtSlots_120 at hr
    refine G.go tv_X1_lookAtSlots 2 124 [(0, .ref (gAd E (44))), (1, .ref (gAd E (ka1))), (2, .int (x2)), (5, .int (x5))] [.int ((16 : Int32)), .int (x5)] rfl ?_
    refine G.cmp_ge 151 (tbd tv_X1_lookAtSlots rfl) (by decide) (fun c124 => ?_) (fun c124 => ?_)
    · replace hr := ite_t c124 hr
      refine G.go tv_X1_lookAtSlots 2 2 [(0, .ref (gAd E (44))), (1, .ref (gAd E (ka1))), (2, .int (x2 + (16 : Int32))), (5, .int (x5))] [] rfl ?_
      refine G.less [(0, .ref (gAd E (44))), (1, .ref (gAd E (ka1))), (2, .int (x2 + (16 : Int32)))] [0, 1, 2] rfl ?_
      exact hs2 _ _ _ _ _ hr _ _ h hD hA hR hf ka1 wa1
    · replace hr := ite_f c124 hr
      refine G.go tv_X1_lookAtSlots 5 133 [(0, .ref (gAd E (44))), (1, .ref (gAd E (ka1))), (2, .int (x2)), (5, .int (x5))] [.int ((x2) + (x5)), .ref (gAd E (ka1)), .ref (gAd E (44))] rfl ?_
      obtain ⟨v42, b42, e42, hr⟩ := ld_s hr
      refine G.arld hz h (wa1) b42 e42 (tbd tv_X1_lookAtSlots rfl) ?_
      refine G.if_ne 141 (tbd tv_X1_lookAtSlots rfl) (by decide) (fun c134 => ?_) (fun c134 => ?_)
      · replace hr := ite_f c134 hr
        refine G.go tv_X1_lookAtSlots 1 142 [(0, .ref (gAd E (44))), (1, .ref (gAd E (ka1))), (2, .int (x2)), (5, .int (x5))] [.int ((0 : Int32)), .ref (gAd E (44))] rfl ?_
        obtain ⟨D43, hv43, hr⟩ := bnd_s hr
        refine G.callV (44) [.int ((0 : Int32))] [] (k_X1_ask E _ N B gr C D A hz h hD hA ((0 : Int32)) D43 hv43) cls_X1 (by omega) (h.q44) cw_X1_49 w_1982 w_44 (Nat.le_of_ble_eq_true rfl) rfl (Nat.le_of_ble_eq_true rfl) (tbd tv_X1_lookAtSlots rfl) (fun v43w f43 q43 => ?_) (fun _ _ h => h.elim)
        obtain ⟨rfl, C43, ha43, hD43, hA43, hR43, fa43⟩ := q43
        refine G.eqs [] rfl ?_
        refine G.go tv_X1_lookAtSlots 2 120 [(0, .ref (gAd E (44))), (1, .ref (gAd E (ka1))), (2, .int (x2)), (5, .int (x5 + (1 : Int32)))] [] rfl ?_
        refine G.less [(0, .ref (gAd E (44))), (1, .ref (gAd E (ka1))), (2, .int (x2)), (5, .int (x5 + (1 : Int32)))] [0, 1, 2, 3] rfl ?_
        exact ih _ _ _ _ _ _ hr _ _ ha43 hD43 hA43 (hR.tr hR43) (hf.tr fa43 (fun _ h => h)) ka1 (wa1.q (hR.sym.tr (hR.tr hR43)))
      · replace hr := ite_t c134 hr
        refine G.go tv_X1_lookAtSlots 2 142 [(0, .ref (gAd E (44))), (1, .ref (gAd E (ka1))), (2, .int (x2)), (5, .int (x5))] [.int ((1 : Int32)), .ref (gAd E (44))] rfl ?_
        obtain ⟨D44, hv44, hr⟩ := bnd_s hr
        refine G.callV (44) [.int ((1 : Int32))] [] (k_X1_ask E _ N B gr C D A hz h hD hA ((1 : Int32)) D44 hv44) cls_X1 (by omega) (h.q44) cw_X1_49 w_1982 w_44 (Nat.le_of_ble_eq_true rfl) rfl (Nat.le_of_ble_eq_true rfl) (tbd tv_X1_lookAtSlots rfl) (fun v44w f44 q44 => ?_) (fun _ _ h => h.elim)
        obtain ⟨rfl, C44, ha44, hD44, hA44, hR44, fa44⟩ := q44
        refine G.eqs [] rfl ?_
        refine G.go tv_X1_lookAtSlots 2 120 [(0, .ref (gAd E (44))), (1, .ref (gAd E (ka1))), (2, .int (x2)), (5, .int (x5 + (1 : Int32)))] [] rfl ?_
        refine G.less [(0, .ref (gAd E (44))), (1, .ref (gAd E (ka1))), (2, .int (x2)), (5, .int (x5 + (1 : Int32)))] [0, 1, 2, 3] rfl ?_
        exact ih _ _ _ _ _ _ hr _ _ ha44 hD44 hA44 (hR.tr hR44) (hf.tr fa44 (fun _ h => h)) ka1 (wa1.q (hR.sym.tr (hR.tr hR44)))
set_option maxRecDepth 100000 in
set_option maxHeartbeats 4000000 in
theorem l_X1_lookAtSlots_102 (E : gE) (f0 : Nat → va_E) (sz : Nat) (QA : Nat → Prop) (N B gr : Nat) (C0 : CfT) (A : MS) (hz : CfZ E N B gr) (self2 : CfT → (Nat → Int32) → Nat → Int32 → Option (CfT)) (hs2 : ∀ (D : CfT) (ga1 : Nat → Int32) (na1 : Nat) (x2 : Int32) (D9 : CfT) (hr : self2 D ga1 na1 x2 = some D9) (f : Nat → va_E) (C : CfT) (h : CfV E f N B gr C) (hD : Dq D C) (hA : AR N B gr A C) (hR : Rq C0 C) (hf : Fr CfK f0 f) (ka1 : Nat) (wa1 : ArK N B gr C ka1 na1 ga1), G E (4, yX1_lookAtSlots, 6, none, sz, QA) cX1_lookAtSlots (gO E (4, yX1_lookAtSlots, 6, none, sz, QA) (fun v g => v = none ∧ ST E N B gr f0 C0 A D9 g, fun _ _ => False)) 2 [(0, .ref (gAd E (44))), (1, .ref (gAd E (ka1))), (2, .int (x2))] [] f) : ∀ (D : CfT) (ga1 : Nat → Int32) (na1 : Nat) (x2 : Int32) (x3 : Int32) (x4 : Int32) (D9 : CfT) (hr : d_X1_lookAtSlots_102 N (vA A) self2 D ga1 na1 x2 x3 x4 = some D9) (f : Nat → va_E) (C : CfT) (h : CfV E f N B gr C) (hD : Dq D C) (hA : AR N B gr A C) (hR : Rq C0 C) (hf : Fr CfK f0 f) (ka1 : Nat) (wa1 : ArK N B gr C ka1 na1 ga1), G E (4, yX1_lookAtSlots, 6, none, sz, QA) cX1_lookAtSlots (gO E (4, yX1_lookAtSlots, 6, none, sz, QA) (fun v g => v = none ∧ ST E N B gr f0 C0 A D9 g, fun _ _ => False)) 102 [(0, .ref (gAd E (44))), (1, .ref (gAd E (ka1))), (2, .int (x2)), (3, .int (x3)), (4, .int (x4))] [] f := by
  obtain ⟨z1, z2, z3, z4, z5, z6, z7⟩ := id hz
  intro D ga1 na1 x2 x3 x4 D9 hr f C h hD hA hR hf ka1 wa1
  unfold d_X1_lookAtSlots_102 at hr
  refine G.go tv_X1_lookAtSlots 1 103 [(0, .ref (gAd E (44))), (1, .ref (gAd E (ka1))), (2, .int (x2)), (3, .int (x3)), (4, .int (x4))] [.int (x3)] rfl ?_
  refine G.if_ne 110 (tbd tv_X1_lookAtSlots rfl) (by decide) (fun c103 => ?_) (fun c103 => ?_)
  · replace hr := ite_f c103 hr
    refine G.go tv_X1_lookAtSlots 3 114 [(0, .ref (gAd E (44))), (1, .ref (gAd E (ka1))), (2, .int (x2)), (3, .int (x3)), (4, .int (x4))] [.int (x4), .int ((0 : Int32)), .int ((3 : Int32))] rfl ?_
    refine G.mmax w_2016 w_211 w_150 w_212 (Nat.le_of_ble_eq_true rfl) (Nat.le_of_ble_eq_true rfl) (by show _ ≤ _; first | exact Nat.zero_le _ | exact Nat.le_of_ble_eq_true rfl) (by show _ ≤ _; first | exact Nat.zero_le _ | exact Nat.le_of_ble_eq_true rfl) (tbd tv_X1_lookAtSlots rfl) ?_
    obtain ⟨v41, e41, hr⟩ := nm_s hr
    refine G.eq1 (b := v41) e41 ?_
    refine G.go tv_X1_lookAtSlots 2 120 [(0, .ref (gAd E (44))), (1, .ref (gAd E (ka1))), (2, .int (x2)), (3, .int (x3)), (4, .int (x4)), (5, .int (((3 : Int32)) + (v41)))] [] rfl ?_
    refine G.less [(0, .ref (gAd E (44))), (1, .ref (gAd E (ka1))), (2, .int (x2)), (5, .int (((3 : Int32)) + (v41)))] [0, 1, 2, 5] rfl ?_
    exact l_X1_lookAtSlots_120 E f0 sz QA N B gr C0 A hz _ hs2 _ _ _ _ _ _ _ hr _ _ h hD hA hR hf ka1 wa1
  · replace hr := ite_t c103 hr
    refine G.go tv_X1_lookAtSlots 3 120 [(0, .ref (gAd E (44))), (1, .ref (gAd E (ka1))), (2, .int (x2)), (3, .int (x3)), (4, .int (x4)), (5, .int ((2 : Int32)))] [] rfl ?_
    refine G.less [(0, .ref (gAd E (44))), (1, .ref (gAd E (ka1))), (2, .int (x2)), (5, .int ((2 : Int32)))] [0, 1, 2, 5] rfl ?_
    exact l_X1_lookAtSlots_120 E f0 sz QA N B gr C0 A hz _ hs2 _ _ _ _ _ _ _ hr _ _ h hD hA hR hf ka1 wa1
set_option maxRecDepth 100000 in
set_option maxHeartbeats 4000000 in
theorem l_X1_lookAtSlots_82 (E : gE) (f0 : Nat → va_E) (sz : Nat) (QA : Nat → Prop) (N B gr : Nat) (C0 : CfT) (A : MS) (hz : CfZ E N B gr) (self2 : CfT → (Nat → Int32) → Nat → Int32 → Option (CfT)) (hs2 : ∀ (D : CfT) (ga1 : Nat → Int32) (na1 : Nat) (x2 : Int32) (D9 : CfT) (hr : self2 D ga1 na1 x2 = some D9) (f : Nat → va_E) (C : CfT) (h : CfV E f N B gr C) (hD : Dq D C) (hA : AR N B gr A C) (hR : Rq C0 C) (hf : Fr CfK f0 f) (ka1 : Nat) (wa1 : ArK N B gr C ka1 na1 ga1), G E (4, yX1_lookAtSlots, 6, none, sz, QA) cX1_lookAtSlots (gO E (4, yX1_lookAtSlots, 6, none, sz, QA) (fun v g => v = none ∧ ST E N B gr f0 C0 A D9 g, fun _ _ => False)) 2 [(0, .ref (gAd E (44))), (1, .ref (gAd E (ka1))), (2, .int (x2))] [] f) : ∀ (D : CfT) (ga1 : Nat → Int32) (na1 : Nat) (x2 : Int32) (x3 : Int32) (x4 : Int32) (D9 : CfT) (hr : d_X1_lookAtSlots_82 N (vA A) self2 D ga1 na1 x2 x3 x4 = some D9) (f : Nat → va_E) (C : CfT) (h : CfV E f N B gr C) (hD : Dq D C) (hA : AR N B gr A C) (hR : Rq C0 C) (hf : Fr CfK f0 f) (ka1 : Nat) (wa1 : ArK N B gr C ka1 na1 ga1), G E (4, yX1_lookAtSlots, 6, none, sz, QA) cX1_lookAtSlots (gO E (4, yX1_lookAtSlots, 6, none, sz, QA) (fun v g => v = none ∧ ST E N B gr f0 C0 A D9 g, fun _ _ => False)) 82 [(0, .ref (gAd E (44))), (1, .ref (gAd E (ka1))), (2, .int (x2)), (3, .int (x3)), (4, .int (x4))] [] f := by
  obtain ⟨z1, z2, z3, z4, z5, z6, z7⟩ := id hz
  intro D ga1 na1 x2 x3 x4 D9 hr f C h hD hA hR hf ka1 wa1
  unfold d_X1_lookAtSlots_82 at hr
  refine G.go tv_X1_lookAtSlots 1 83 [(0, .ref (gAd E (44))), (1, .ref (gAd E (ka1))), (2, .int (x2)), (3, .int (x3)), (4, .int (x4))] [.int (x3)] rfl ?_
  refine G.if_eq 102 (tbd tv_X1_lookAtSlots rfl) (by decide) (fun c83 => ?_) (fun c83 => ?_)
  · replace hr := ite_t c83 hr
    refine G.less [(0, .ref (gAd E (44))), (1, .ref (gAd E (ka1))), (2, .int (x2)), (3, .int (x3)), (4, .int (x4))] [0, 1, 2, 3, 4] rfl ?_
    exact l_X1_lookAtSlots_102 E f0 sz QA N B gr C0 A hz _ hs2 _ _ _ _ _ _ _ hr _ _ h hD hA hR hf ka1 wa1
  · replace hr := ite_f c83 hr
    refine G.go tv_X1_lookAtSlots 2 89 [(0, .ref (gAd E (44))), (1, .ref (gAd E (ka1))), (2, .int (x2)), (3, .int (x3)), (4, .int (x4))] [.int ((64 : Int32)), .int (x3)] rfl ?_
    refine G.cmp_gt 102 (tbd tv_X1_lookAtSlots rfl) (by decide) (fun c89 => ?_) (fun c89 => ?_)
    · replace hr := ite_t c89 hr
      refine G.less [(0, .ref (gAd E (44))), (1, .ref (gAd E (ka1))), (2, .int (x2)), (3, .int (x3)), (4, .int (x4))] [0, 1, 2, 3, 4] rfl ?_
      exact l_X1_lookAtSlots_102 E f0 sz QA N B gr C0 A hz _ hs2 _ _ _ _ _ _ _ hr _ _ h hD hA hR hf ka1 wa1
    · replace hr := ite_f c89 hr
      refine G.go tv_X1_lookAtSlots 1 93 [(0, .ref (gAd E (44))), (1, .ref (gAd E (ka1))), (2, .int (x2)), (3, .int (x3)), (4, .int (x4))] [.ref (gAd E (44))] rfl ?_
      refine G.getf cls_X1 (44) 4 (by omega) (h.q44) (by decide) rfl (tbd tv_X1_lookAtSlots rfl) w_548 ?_
      refine G.go tv_X1_lookAtSlots 2 98 [(0, .ref (gAd E (44))), (1, .ref (gAd E (ka1))), (2, .int (x2)), (3, .int (x3)), (4, .int (x4))] [.int (x3), .ref (gAd E (46)), .int (x3), .ref (gAd E (46))] rfl ?_
      obtain ⟨v39, b39, e39, hr⟩ := ld_s hr
      refine G.ialdE (46) (by omega) ((h.q46).trans (congrArg (oI (gDA E) (65)) (hD.2 46 (by decide)))) b39 e39 (tbd tv_X1_lookAtSlots rfl) ?_
      refine G.go tv_X1_lookAtSlots 2 101 [(0, .ref (gAd E (44))), (1, .ref (gAd E (ka1))), (2, .int (x2)), (3, .int (x3)), (4, .int (x4))] [.int ((v39) + ((1 : Int32))), .int (x3), .ref (gAd E (46))] rfl ?_
      obtain ⟨D40, b40, eD40, hr⟩ := stA_s hr
      refine G.iast (46) (by omega) (h.q46) b40 (tbd tv_X1_lookAtSlots rfl) ?_
      refine G.gen (P := ST E N B gr f0 C0 A D40) ⟨sA C 46 (upd (cA C 46) x3.toNatClampNeg ((v39) + ((1 : Int32)))), h.p46 _, (by rw [eD40]; exact hD.au (by decide)), hA.sm (Sd.a (by decide) : Sd C (sA C 46 (upd (cA C 46) x3.toNatClampNeg ((v39) + ((1 : Int32)))))), hR.tr ⟨rfl, rfl⟩, Fr.c hf (by first | exact Or.inl (by decide) | exact Or.inr (by omega))⟩ (fun u40 p40 => ?_)
      obtain ⟨C40, h40, hD40, hA40, hR40, k40⟩ := p40
      refine G.less [(0, .ref (gAd E (44))), (1, .ref (gAd E (ka1))), (2, .int (x2)), (3, .int (x3)), (4, .int (x4))] [0, 1, 2, 3, 4] rfl ?_
      exact l_X1_lookAtSlots_102 E f0 sz QA N B gr C0 A hz _ hs2 _ _ _ _ _ _ _ hr _ _ h40 hD40 hA40 hR40 k40 ka1 (wa1.q (hR.sym.tr hR40))
set_option maxRecDepth 100000 in
set_option maxHeartbeats 4000000 in
theorem l_X1_lookAtSlots_58 (E : gE) (f0 : Nat → va_E) (sz : Nat) (QA : Nat → Prop) (N B gr : Nat) (C0 : CfT) (A : MS) (hz : CfZ E N B gr) (self2 : CfT → (Nat → Int32) → Nat → Int32 → Option (CfT)) (hs2 : ∀ (D : CfT) (ga1 : Nat → Int32) (na1 : Nat) (x2 : Int32) (D9 : CfT) (hr : self2 D ga1 na1 x2 = some D9) (f : Nat → va_E) (C : CfT) (h : CfV E f N B gr C) (hD : Dq D C) (hA : AR N B gr A C) (hR : Rq C0 C) (hf : Fr CfK f0 f) (ka1 : Nat) (wa1 : ArK N B gr C ka1 na1 ga1), G E (4, yX1_lookAtSlots, 6, none, sz, QA) cX1_lookAtSlots (gO E (4, yX1_lookAtSlots, 6, none, sz, QA) (fun v g => v = none ∧ ST E N B gr f0 C0 A D9 g, fun _ _ => False)) 2 [(0, .ref (gAd E (44))), (1, .ref (gAd E (ka1))), (2, .int (x2))] [] f) : ∀ (D : CfT) (ga1 : Nat → Int32) (na1 : Nat) (x2 : Int32) (x3 : Int32) (x4 : Int32) (D9 : CfT) (hr : d_X1_lookAtSlots_58 N (vA A) self2 D ga1 na1 x2 x3 x4 = some D9) (f : Nat → va_E) (C : CfT) (h : CfV E f N B gr C) (hD : Dq D C) (hA : AR N B gr A C) (hR : Rq C0 C) (hf : Fr CfK f0 f) (ka1 : Nat) (wa1 : ArK N B gr C ka1 na1 ga1), G E (4, yX1_lookAtSlots, 6, none, sz, QA) cX1_lookAtSlots (gO E (4, yX1_lookAtSlots, 6, none, sz, QA) (fun v g => v = none ∧ ST E N B gr f0 C0 A D9 g, fun _ _ => False)) 58 [(0, .ref (gAd E (44))), (1, .ref (gAd E (ka1))), (2, .int (x2)), (3, .int (x3)), (4, .int (x4))] [] f := by
  obtain ⟨z1, z2, z3, z4, z5, z6, z7⟩ := id hz
  intro D ga1 na1 x2 x3 x4 D9 hr f C h hD hA hR hf ka1 wa1
  unfold d_X1_lookAtSlots_58 at hr
  refine G.go tv_X1_lookAtSlots 2 60 [(0, .ref (gAd E (44))), (1, .ref (gAd E (ka1))), (2, .int (x2)), (3, .int (x3)), (4, .int (x4))] [.int (x3), .ref (gAd E (44))] rfl ?_
  refine G.if_eq 74 (tbd tv_X1_lookAtSlots rfl) (by decide) (fun c60 => ?_) (fun c60 => ?_)
  · replace hr := ite_t c60 hr
    refine G.go tv_X1_lookAtSlots 2 79 [(0, .ref (gAd E (44))), (1, .ref (gAd E (ka1))), (2, .int (x2)), (3, .int (x3)), (4, .int (x4))] [.int ((1 : Int32)), .ref (gAd E (44))] rfl ?_
    obtain ⟨D35, hv35, hr⟩ := bnd_s hr
    refine G.callV (44) [.int ((1 : Int32))] [] (k_X1_ask E _ N B gr C D A hz h hD hA ((1 : Int32)) D35 hv35) cls_X1 (by omega) (h.q44) cw_X1_49 w_1982 w_44 (Nat.le_of_ble_eq_true rfl) rfl (Nat.le_of_ble_eq_true rfl) (tbd tv_X1_lookAtSlots rfl) (fun v35w f35 q35 => ?_) (fun _ _ h => h.elim)
    obtain ⟨rfl, C35, ha35, hD35, hA35, hR35, fa35⟩ := q35
    refine G.eqs [] rfl ?_
    refine G.less [(0, .ref (gAd E (44))), (1, .ref (gAd E (ka1))), (2, .int (x2)), (3, .int (x3)), (4, .int (x4))] [0, 1, 2, 3, 4] rfl ?_
    exact l_X1_lookAtSlots_82 E f0 sz QA N B gr C0 A hz _ hs2 _ _ _ _ _ _ _ hr _ _ ha35 hD35 hA35 (hR.tr hR35) (hf.tr fa35 (fun _ h => h)) ka1 (wa1.q (hR.sym.tr (hR.tr hR35)))
  · replace hr := ite_f c60 hr
    refine G.go tv_X1_lookAtSlots 1 64 [(0, .ref (gAd E (44))), (1, .ref (gAd E (ka1))), (2, .int (x2)), (3, .int (x3)), (4, .int (x4))] [.ref (gAd E (44)), .ref (gAd E (44))] rfl ?_
    refine G.getf cls_X1 (44) 1 (by omega) (h.q44) (by decide) rfl (tbd tv_X1_lookAtSlots rfl) w_545 ?_
    refine G.go tv_X1_lookAtSlots 1 68 [(0, .ref (gAd E (44))), (1, .ref (gAd E (ka1))), (2, .int (x2)), (3, .int (x3)), (4, .int (x4))] [.int (x3), .ref (gAd E (37)), .ref (gAd E (44))] rfl ?_
    obtain ⟨v36, hv36, hr⟩ := bnd_s hr
    refine G.callV (37) [.int (x3)] [.ref (gAd E (44))] (k_X7_kind E _ N B gr C D A hz h hD hA x3 v36 hv36) cls_X7 (by omega) (h.q37) cw_X1_43 w_903 w_904 (Nat.le_of_ble_eq_true rfl) rfl (Nat.le_of_ble_eq_true rfl) (tbd tv_X1_lookAtSlots rfl) (fun v36w f36 q36 => ?_) (fun _ _ h => h.elim)
    obtain ⟨rfl, ha36, fa36⟩ := q36
    refine G.eqs [.int (v36), .ref (gAd E (44))] rfl ?_
    refine G.if_eq 78 (tbd tv_X1_lookAtSlots rfl) (by decide) (fun c71 => ?_) (fun c71 => ?_)
    · replace hr := ite_t c71 hr
      refine G.go tv_X1_lookAtSlots 1 79 [(0, .ref (gAd E (44))), (1, .ref (gAd E (ka1))), (2, .int (x2)), (3, .int (x3)), (4, .int (x4))] [.int ((0 : Int32)), .ref (gAd E (44))] rfl ?_
      obtain ⟨D37, hv37, hr⟩ := bnd_s hr
      refine G.callV (44) [.int ((0 : Int32))] [] (k_X1_ask E _ N B gr C D A hz ha36 hD hA ((0 : Int32)) D37 hv37) cls_X1 (by omega) (ha36.q44) cw_X1_49 w_1982 w_44 (Nat.le_of_ble_eq_true rfl) rfl (Nat.le_of_ble_eq_true rfl) (tbd tv_X1_lookAtSlots rfl) (fun v37w f37 q37 => ?_) (fun _ _ h => h.elim)
      obtain ⟨rfl, C37, ha37, hD37, hA37, hR37, fa37⟩ := q37
      refine G.eqs [] rfl ?_
      refine G.less [(0, .ref (gAd E (44))), (1, .ref (gAd E (ka1))), (2, .int (x2)), (3, .int (x3)), (4, .int (x4))] [0, 1, 2, 3, 4] rfl ?_
      exact l_X1_lookAtSlots_82 E f0 sz QA N B gr C0 A hz _ hs2 _ _ _ _ _ _ _ hr _ _ ha37 hD37 hA37 (hR.tr hR37) ((hf.tr fa36 (fun _ h => h)).tr fa37 (fun _ h => h)) ka1 (wa1.q (hR.sym.tr (hR.tr hR37)))
    · replace hr := ite_f c71 hr
      refine G.go tv_X1_lookAtSlots 2 79 [(0, .ref (gAd E (44))), (1, .ref (gAd E (ka1))), (2, .int (x2)), (3, .int (x3)), (4, .int (x4))] [.int ((1 : Int32)), .ref (gAd E (44))] rfl ?_
      obtain ⟨D38, hv38, hr⟩ := bnd_s hr
      refine G.callV (44) [.int ((1 : Int32))] [] (k_X1_ask E _ N B gr C D A hz ha36 hD hA ((1 : Int32)) D38 hv38) cls_X1 (by omega) (ha36.q44) cw_X1_49 w_1982 w_44 (Nat.le_of_ble_eq_true rfl) rfl (Nat.le_of_ble_eq_true rfl) (tbd tv_X1_lookAtSlots rfl) (fun v38w f38 q38 => ?_) (fun _ _ h => h.elim)
      obtain ⟨rfl, C38, ha38, hD38, hA38, hR38, fa38⟩ := q38
      refine G.eqs [] rfl ?_
      refine G.less [(0, .ref (gAd E (44))), (1, .ref (gAd E (ka1))), (2, .int (x2)), (3, .int (x3)), (4, .int (x4))] [0, 1, 2, 3, 4] rfl ?_
      exact l_X1_lookAtSlots_82 E f0 sz QA N B gr C0 A hz _ hs2 _ _ _ _ _ _ _ hr _ _ ha38 hD38 hA38 (hR.tr hR38) ((hf.tr fa36 (fun _ h => h)).tr fa38 (fun _ h => h)) ka1 (wa1.q (hR.sym.tr (hR.tr hR38)))
set_option maxRecDepth 100000 in
set_option maxHeartbeats 4000000 in
theorem l_X1_lookAtSlots_33 (E : gE) (f0 : Nat → va_E) (sz : Nat) (QA : Nat → Prop) (N B gr : Nat) (C0 : CfT) (A : MS) (hz : CfZ E N B gr) (self2 : CfT → (Nat → Int32) → Nat → Int32 → Option (CfT)) (hs2 : ∀ (D : CfT) (ga1 : Nat → Int32) (na1 : Nat) (x2 : Int32) (D9 : CfT) (hr : self2 D ga1 na1 x2 = some D9) (f : Nat → va_E) (C : CfT) (h : CfV E f N B gr C) (hD : Dq D C) (hA : AR N B gr A C) (hR : Rq C0 C) (hf : Fr CfK f0 f) (ka1 : Nat) (wa1 : ArK N B gr C ka1 na1 ga1), G E (4, yX1_lookAtSlots, 6, none, sz, QA) cX1_lookAtSlots (gO E (4, yX1_lookAtSlots, 6, none, sz, QA) (fun v g => v = none ∧ ST E N B gr f0 C0 A D9 g, fun _ _ => False)) 2 [(0, .ref (gAd E (44))), (1, .ref (gAd E (ka1))), (2, .int (x2))] [] f) : ∀ (D : CfT) (ga1 : Nat → Int32) (na1 : Nat) (x2 : Int32) (x3 : Int32) (x4 : Int32) (D9 : CfT) (hr : d_X1_lookAtSlots_33 N (vA A) self2 D ga1 na1 x2 x3 x4 = some D9) (f : Nat → va_E) (C : CfT) (h : CfV E f N B gr C) (hD : Dq D C) (hA : AR N B gr A C) (hR : Rq C0 C) (hf : Fr CfK f0 f) (ka1 : Nat) (wa1 : ArK N B gr C ka1 na1 ga1), G E (4, yX1_lookAtSlots, 6, none, sz, QA) cX1_lookAtSlots (gO E (4, yX1_lookAtSlots, 6, none, sz, QA) (fun v g => v = none ∧ ST E N B gr f0 C0 A D9 g, fun _ _ => False)) 33 [(0, .ref (gAd E (44))), (1, .ref (gAd E (ka1))), (2, .int (x2)), (3, .int (x3)), (4, .int (x4))] [] f := by
  obtain ⟨z1, z2, z3, z4, z5, z6, z7⟩ := id hz
  intro D ga1 na1 x2 x3 x4 D9 hr f C h hD hA hR hf ka1 wa1
  unfold d_X1_lookAtSlots_33 at hr
  refine G.go tv_X1_lookAtSlots 2 35 [(0, .ref (gAd E (44))), (1, .ref (gAd E (ka1))), (2, .int (x2)), (3, .int (x3)), (4, .int (x4))] [.int (x3), .ref (gAd E (44))] rfl ?_
  refine G.if_eq 50 (tbd tv_X1_lookAtSlots rfl) (by decide) (fun c35 => ?_) (fun c35 => ?_)
  · replace hr := ite_t c35 hr
    refine G.go tv_X1_lookAtSlots 2 55 [(0, .ref (gAd E (44))), (1, .ref (gAd E (ka1))), (2, .int (x2)), (3, .int (x3)), (4, .int (x4))] [.int ((1 : Int32)), .ref (gAd E (44))] rfl ?_
    obtain ⟨D31, hv31, hr⟩ := bnd_s hr
    refine G.callV (44) [.int ((1 : Int32))] [] (k_X1_ask E _ N B gr C D A hz h hD hA ((1 : Int32)) D31 hv31) cls_X1 (by omega) (h.q44) cw_X1_49 w_1982 w_44 (Nat.le_of_ble_eq_true rfl) rfl (Nat.le_of_ble_eq_true rfl) (tbd tv_X1_lookAtSlots rfl) (fun v31w f31 q31 => ?_) (fun _ _ h => h.elim)
    obtain ⟨rfl, C31, ha31, hD31, hA31, hR31, fa31⟩ := q31
    refine G.eqs [] rfl ?_
    refine G.less [(0, .ref (gAd E (44))), (1, .ref (gAd E (ka1))), (2, .int (x2)), (3, .int (x3)), (4, .int (x4))] [0, 1, 2, 3, 4] rfl ?_
    exact l_X1_lookAtSlots_58 E f0 sz QA N B gr C0 A hz _ hs2 _ _ _ _ _ _ _ hr _ _ ha31 hD31 hA31 (hR.tr hR31) (hf.tr fa31 (fun _ h => h)) ka1 (wa1.q (hR.sym.tr (hR.tr hR31)))
  · replace hr := ite_f c35 hr
    refine G.go tv_X1_lookAtSlots 5 44 [(0, .ref (gAd E (44))), (1, .ref (gAd E (ka1))), (2, .int (x2)), (3, .int (x3)), (4, .int (x4))] [.int (x4), .int ((x2) + ((3 : Int32))), .ref (gAd E (ka1)), .ref (gAd E (44))] rfl ?_
    obtain ⟨v32, hv32, hr⟩ := bnd_s hr
    refine G.callS [.ref (gAd E (ka1)), .int ((x2) + ((3 : Int32))), .int (x4)] [.ref (gAd E (44))] (k_X8_isName E _ N B gr C D A hz h hD hA ka1 na1 ga1 (wa1) ((x2) + ((3 : Int32))) x4 v32 hv32) cw_X1_121 w_1350 (Nat.le_of_ble_eq_true rfl) rfl (Nat.le_of_ble_eq_true rfl) (tbd tv_X1_lookAtSlots rfl) (fun v32w f32 q32 => ?_) (fun _ _ h => h.elim)
    obtain ⟨rfl, ha32, fa32⟩ := q32
    refine G.eqs [.int (v32), .ref (gAd E (44))] rfl ?_
    refine G.if_eq 54 (tbd tv_X1_lookAtSlots rfl) (by decide) (fun c47 => ?_) (fun c47 => ?_)
    · replace hr := ite_t c47 hr
      refine G.go tv_X1_lookAtSlots 1 55 [(0, .ref (gAd E (44))), (1, .ref (gAd E (ka1))), (2, .int (x2)), (3, .int (x3)), (4, .int (x4))] [.int ((0 : Int32)), .ref (gAd E (44))] rfl ?_
      obtain ⟨D33, hv33, hr⟩ := bnd_s hr
      refine G.callV (44) [.int ((0 : Int32))] [] (k_X1_ask E _ N B gr C D A hz ha32 hD hA ((0 : Int32)) D33 hv33) cls_X1 (by omega) (ha32.q44) cw_X1_49 w_1982 w_44 (Nat.le_of_ble_eq_true rfl) rfl (Nat.le_of_ble_eq_true rfl) (tbd tv_X1_lookAtSlots rfl) (fun v33w f33 q33 => ?_) (fun _ _ h => h.elim)
      obtain ⟨rfl, C33, ha33, hD33, hA33, hR33, fa33⟩ := q33
      refine G.eqs [] rfl ?_
      refine G.less [(0, .ref (gAd E (44))), (1, .ref (gAd E (ka1))), (2, .int (x2)), (3, .int (x3)), (4, .int (x4))] [0, 1, 2, 3, 4] rfl ?_
      exact l_X1_lookAtSlots_58 E f0 sz QA N B gr C0 A hz _ hs2 _ _ _ _ _ _ _ hr _ _ ha33 hD33 hA33 (hR.tr hR33) ((hf.tr fa32 (fun _ h => h)).tr fa33 (fun _ h => h)) ka1 (wa1.q (hR.sym.tr (hR.tr hR33)))
    · replace hr := ite_f c47 hr
      refine G.go tv_X1_lookAtSlots 2 55 [(0, .ref (gAd E (44))), (1, .ref (gAd E (ka1))), (2, .int (x2)), (3, .int (x3)), (4, .int (x4))] [.int ((1 : Int32)), .ref (gAd E (44))] rfl ?_
      obtain ⟨D34, hv34, hr⟩ := bnd_s hr
      refine G.callV (44) [.int ((1 : Int32))] [] (k_X1_ask E _ N B gr C D A hz ha32 hD hA ((1 : Int32)) D34 hv34) cls_X1 (by omega) (ha32.q44) cw_X1_49 w_1982 w_44 (Nat.le_of_ble_eq_true rfl) rfl (Nat.le_of_ble_eq_true rfl) (tbd tv_X1_lookAtSlots rfl) (fun v34w f34 q34 => ?_) (fun _ _ h => h.elim)
      obtain ⟨rfl, C34, ha34, hD34, hA34, hR34, fa34⟩ := q34
      refine G.eqs [] rfl ?_
      refine G.less [(0, .ref (gAd E (44))), (1, .ref (gAd E (ka1))), (2, .int (x2)), (3, .int (x3)), (4, .int (x4))] [0, 1, 2, 3, 4] rfl ?_
      exact l_X1_lookAtSlots_58 E f0 sz QA N B gr C0 A hz _ hs2 _ _ _ _ _ _ _ hr _ _ ha34 hD34 hA34 (hR.tr hR34) ((hf.tr fa32 (fun _ h => h)).tr fa34 (fun _ h => h)) ka1 (wa1.q (hR.sym.tr (hR.tr hR34)))
set_option maxRecDepth 100000 in
set_option maxHeartbeats 4000000 in
theorem l_X1_lookAtSlots_2 (E : gE) (f0 : Nat → va_E) (sz : Nat) (QA : Nat → Prop) (N B gr : Nat) (C0 : CfT) (A : MS) (hz : CfZ E N B gr) : ∀ (n : Nat), ∀ (D : CfT) (ga1 : Nat → Int32) (na1 : Nat) (x2 : Int32) (D9 : CfT) (hr : d_X1_lookAtSlots_2 N (vA A) n D ga1 na1 x2 = some D9) (f : Nat → va_E) (C : CfT) (h : CfV E f N B gr C) (hD : Dq D C) (hA : AR N B gr A C) (hR : Rq C0 C) (hf : Fr CfK f0 f) (ka1 : Nat) (wa1 : ArK N B gr C ka1 na1 ga1), G E (4, yX1_lookAtSlots, 6, none, sz, QA) cX1_lookAtSlots (gO E (4, yX1_lookAtSlots, 6, none, sz, QA) (fun v g => v = none ∧ ST E N B gr f0 C0 A D9 g, fun _ _ => False)) 2 [(0, .ref (gAd E (44))), (1, .ref (gAd E (ka1))), (2, .int (x2))] [] f := by
  obtain ⟨z1, z2, z3, z4, z5, z6, z7⟩ := id hz
  intro n
  induction n with
  | zero =>
    intro D ga1 na1 x2 D9 hr f C h hD hA hR hf ka1 wa1
    cases hr
  | succ n ih =>
    intro D ga1 na1 x2 D9 hr f C h hD hA hR hf ka1 wa1
    unfold d_X1_lookAtSlots_2 at hr
    refine G.go tv_X1_lookAtSlots 4 9 [(0, .ref (gAd E (44))), (1, .ref (gAd E (ka1))), (2, .int (x2))] [.int ((128 : Int32)), .int ((x2) + ((16 : Int32)))] rfl ?_
    refine G.cmp_gt 157 (tbd tv_X1_lookAtSlots rfl) (by decide) (fun c9 => ?_) (fun c9 => ?_)
    · replace hr := ite_t c9 hr
      cases hr
      exact G.vret rfl ⟨rfl, C, h, hD, hA, hR, hf⟩ (tbd tv_X1_lookAtSlots rfl)
    · replace hr := ite_f c9 hr
      refine G.go tv_X1_lookAtSlots 2 14 [(0, .ref (gAd E (44))), (1, .ref (gAd E (ka1))), (2, .int (x2))] [.int (x2), .ref (gAd E (ka1))] rfl ?_
      obtain ⟨v29, hv29, hr⟩ := bnd_s hr
      refine G.callS [.ref (gAd E (ka1)), .int (x2)] [] (k_X2_two E _ N B gr C D A hz h hD hA ka1 na1 ga1 (wa1) x2 v29 hv29) cw_X1_115 w_878 (Nat.le_of_ble_eq_true rfl) rfl (Nat.le_of_ble_eq_true rfl) (tbd tv_X1_lookAtSlots rfl) (fun v29w f29 q29 => ?_) (fun _ _ h => h.elim)
      obtain ⟨rfl, ha29, fa29⟩ := q29
      refine G.eqs [.int (v29)] rfl ?_
      refine G.go tv_X1_lookAtSlots 2 19 [(0, .ref (gAd E (44))), (1, .ref (gAd E (ka1))), (2, .int (x2)), (3, .int (v29))] [.int (v29)] rfl ?_
      refine G.if_ne 26 (tbd tv_X1_lookAtSlots rfl) (by decide) (fun c19 => ?_) (fun c19 => ?_)
      · replace hr := ite_f c19 hr
        refine G.go tv_X1_lookAtSlots 4 30 [(0, .ref (gAd E (44))), (1, .ref (gAd E (ka1))), (2, .int (x2)), (3, .int (v29))] [.int ((x2) + ((2 : Int32))), .ref (gAd E (ka1))] rfl ?_
        obtain ⟨v30, b30, e30, hr⟩ := ld_s hr
        refine G.arld hz ha29 (wa1) b30 e30 (tbd tv_X1_lookAtSlots rfl) ?_
        refine G.go tv_X1_lookAtSlots 1 33 [(0, .ref (gAd E (44))), (1, .ref (gAd E (ka1))), (2, .int (x2)), (3, .int (v29)), (4, .int (v30))] [] rfl ?_
        refine G.less [(0, .ref (gAd E (44))), (1, .ref (gAd E (ka1))), (2, .int (x2)), (3, .int (v29)), (4, .int (v30))] [0, 1, 2, 3, 4] rfl ?_
        exact l_X1_lookAtSlots_33 E f0 sz QA N B gr C0 A hz _ ih _ _ _ _ _ _ _ hr _ _ ha29 hD hA hR (hf.tr fa29 (fun _ h => h)) ka1 wa1
      · replace hr := ite_t c19 hr
        refine G.go tv_X1_lookAtSlots 3 33 [(0, .ref (gAd E (44))), (1, .ref (gAd E (ka1))), (2, .int (x2)), (3, .int (v29)), (4, .int ((0 : Int32)))] [] rfl ?_
        refine G.less [(0, .ref (gAd E (44))), (1, .ref (gAd E (ka1))), (2, .int (x2)), (3, .int (v29)), (4, .int ((0 : Int32)))] [0, 1, 2, 3, 4] rfl ?_
        exact l_X1_lookAtSlots_33 E f0 sz QA N B gr C0 A hz _ ih _ _ _ _ _ _ _ hr _ _ ha29 hD hA hR (hf.tr fa29 (fun _ h => h)) ka1 wa1
set_option maxRecDepth 100000 in
set_option maxHeartbeats 4000000 in
theorem k_X1_lookAtSlots (E : gE) (f : Nat → va_E) (N B gr : Nat) (C D : CfT) (A : MS) (hz : CfZ E N B gr) (h : CfV E f N B gr C) (hD : Dq D C) (hA : AR N B gr A C) (ka0 na0 : Nat) (ga0 : Nat → Int32) (wa0 : ArK N B gr C ka0 na0 ga0) (D9 : CfT) (hr : d_X1_lookAtSlots N (vA A) D ga0 na0 = some D9) : Ct E 4 yX1_lookAtSlots cX1_lookAtSlots 6 none [.ref (gAd E (44)), .ref (gAd E (ka0))] f (fun v g => v = none ∧ ST E N B gr f C A D9 g, fun _ _ => False) := by
  obtain ⟨z1, z2, z3, z4, z5, z6, z7⟩ := id hz
  refine Ct.of (by decide) (Nat.le_of_ble_eq_true rfl) (fun sz => ?_)
  refine G.eql [(0, .ref (gAd E (44))), (1, .ref (gAd E (ka0)))] rfl ?_
  unfold d_X1_lookAtSlots at hr
  refine G.go tv_X1_lookAtSlots 2 2 [(0, .ref (gAd E (44))), (1, .ref (gAd E (ka0))), (2, .int ((0 : Int32)))] [] rfl ?_
  refine G.less [(0, .ref (gAd E (44))), (1, .ref (gAd E (ka0))), (2, .int ((0 : Int32)))] [0, 1, 2] rfl ?_
  exact l_X1_lookAtSlots_2 E f sz _ N B gr C A hz _ _ _ _ _ _ hr _ _ h hD hA Rq.rf Fr.rf ka0 wa0
def tb_X1_lookAtInode : List (Nat × Instr × Nat) := [(0, .aload_n 0, 1), (1, .getfield 19, 3), (4, .iload_n 1, 1), (5, .invokevirtual 43, 3), (8, .istore_n 2, 1), (9, .aload_n 0, 1), (10, .iload_n 2, 1), (11, .iconst 2, 1), (12, .if_icmp .gt 7, 3), (15, .iconst 1, 1), (16, .goto 4, 3), (19, .iconst 0, 1), (20, .invokevirtual 49, 3), (23, .iload_n 2, 1), (24, .ifCond .ne 9, 3), (27, .aload_n 0, 1), (28, .iload_n 1, 1), (29, .invokevirtual 63, 3), (32, .return_, 1), (33, .aload_n 0, 1), (34, .getfield 19, 3), (37, .iload_n 1, 1), (38, .invokevirtual 66, 3), (41, .istore_n 3, 1), (42, .iload_n 3, 1), (43, .ifCond .lt 9, 3), (46, .iload_n 3, 1), (47, .ldc 69, 2), (49, .if_icmp .le 14, 3), (52, .aload_n 0, 1), (53, .dup, 1), (54, .getfield 30, 3), (57, .iconst 1, 1), (58, .iadd, 1), (59, .putfield 30, 3), (62, .return_, 1), (63, .aload_n 0, 1), (64, .iload_n 1, 1), (65, .invokevirtual 70, 3), (68, .aload_n 0, 1), (69, .getfield 19, 3), (72, .iload_n 1, 1), (73, .invokevirtual 73, 3), (76, .iconst 0, 1), (77, .istore 4, 2), (79, .iload 4, 2), (81, .aload_n 0, 1), (82, .getfield 19, 3), (85, .getfield 76, 3), (88, .if_icmp .ge 23, 3), (91, .aload_n 0, 1), (92, .aload_n 0, 1), (93, .getfield 19, 3), (96, .getfield 79, 3), (99, .iload 4, 2), (101, .iaload, 1), (102, .invokevirtual 82, 3), (105, .iinc 4 1, 3), (108, .goto (-29), 3), (111, .iload_n 2, 1), (112, .iconst 2, 1), (113, .if_icmp .ne 77, 3), (116, .aload_n 0, 1), (117, .iload_n 3, 1), (118, .sipush 128, 3), (121, .irem, 1), (122, .ifCond .ne 22, 3), (125, .aload_n 0, 1), (126, .getfield 19, 3), (129, .getfield 76, 3), (132, .iload_n 3, 1), (133, .sipush 128, 3), (136, .idiv, 1), (137, .if_icmp .ne 7, 3), (140, .iconst 1, 1), (141, .goto 4, 3), (144, .iconst 0, 1), (145, .invokevirtual 49, 3), (148, .iconst 0, 1), (149, .istore 4, 2), (151, .iload 4, 2), (153, .aload_n 0, 1), (154, .getfield 19, 3), (157, .getfield 76, 3), (160, .if_icmp .ge 30, 3), (163, .aload_n 0, 1), (164, .aload_n 0, 1), (165, .getfield 15, 3), (168, .aload_n 0, 1), (169, .getfield 19, 3), (172, .getfield 79, 3), (175, .iload 4, 2), (177, .iaload, 1), (178, .invokevirtual 85, 3), (181, .invokevirtual 91, 3), (184, .iinc 4 1, 3), (187, .goto (-36), 3), (190, .return_, 1)]
theorem tv_X1_lookAtInode : Tv cX1_lookAtInode tb_X1_lookAtInode := by
  unfold Tv
  decide +kernel
theorem w_1998 : Cond.constant "LedgerFiles$Checker" 69 (400000 : Int32) ∈ TB := tp_8 172 (by decide +kernel) rfl
theorem w_1999 : Cond.methodLink "LedgerFiles$Checker" 70 yX1_lookAtTables ∈ TB := tp_8 173 (by decide +kernel) rfl
theorem w_2002 : Cond.code yX1_lookAtTables prog_3_method_7_code 6 none ∈ TB := tp_8 176 rfl rfl
theorem cw_X1_70 : Cw RX1 70 yX1_lookAtTables cX1_lookAtTables 6 none 1 := ⟨w_1999, w_2002, w_160, by decide +kernel, by decide +kernel, by decide⟩
theorem w_2001 : Cond.instanceMethod yX1_lookAtTables ∈ TB := tp_8 175 (by decide +kernel) rfl
theorem w_47 : Cond.selects "LedgerFiles$Checker" yX1_lookAtTables yX1_lookAtTables ∈ TB := tp_0 47 (by decide +kernel) rfl
theorem w_2008 : Cond.methodLink "LedgerFiles$Checker" 73 yX7_gather ∈ TB := tp_8 182 (by decide +kernel) rfl
theorem cw_X1_73 : Cw RX1 73 yX7_gather cX7_gather 6 none 1 := ⟨w_2008, w_1552, w_157, by decide +kernel, by decide +kernel, by decide⟩
theorem w_1988 : Cond.methodLink "LedgerFiles$Checker" 63 yX1_lookAtFree ∈ TB := tp_8 162 (by decide +kernel) rfl
theorem w_1991 : Cond.code yX1_lookAtFree prog_3_method_5_code 3 none ∈ TB := tp_8 165 rfl rfl
theorem cw_X1_63 : Cw RX1 63 yX1_lookAtFree cX1_lookAtFree 3 none 1 := ⟨w_1988, w_1991, w_160, by decide +kernel, by decide +kernel, by decide⟩
theorem w_1990 : Cond.instanceMethod yX1_lookAtFree ∈ TB := tp_8 164 (by decide +kernel) rfl
theorem w_46 : Cond.selects "LedgerFiles$Checker" yX1_lookAtFree yX1_lookAtFree ∈ TB := tp_0 46 (by decide +kernel) rfl
theorem w_486 : Cond.fieldLink "LedgerFiles$Checker" 76 "LedgerFiles$Nodes" "found" "I" ∈ TB := tp_2 100 (by decide +kernel) rfl
theorem w_484 : Cond.fieldLink "LedgerFiles$Checker" 79 "LedgerFiles$Nodes" "blocks" "[I" ∈ TB := tp_2 98 (by decide +kernel) rfl
theorem w_2009 : Cond.methodLink "LedgerFiles$Checker" 85 yX10_see ∈ TB := tp_8 183 (by decide +kernel) rfl
theorem cw_X1_85 : Cw RX1 85 yX10_see cX10_see 2 (some (.array .byte)) 1 := ⟨w_2009, w_912, w_155, by decide +kernel, by decide +kernel, by decide⟩
theorem w_2010 : Cond.methodLink "LedgerFiles$Checker" 91 yX1_lookAtSlots ∈ TB := tp_8 184 (by decide +kernel) rfl
theorem w_2013 : Cond.code yX1_lookAtSlots prog_3_method_8_code 6 none ∈ TB := tp_8 187 rfl rfl
theorem cw_X1_91 : Cw RX1 91 yX1_lookAtSlots cX1_lookAtSlots 6 none 1 := ⟨w_2010, w_2013, w_160, by decide +kernel, by decide +kernel, by decide⟩
theorem w_2012 : Cond.instanceMethod yX1_lookAtSlots ∈ TB := tp_8 186 (by decide +kernel) rfl
theorem w_49 : Cond.selects "LedgerFiles$Checker" yX1_lookAtSlots yX1_lookAtSlots ∈ TB := tp_0 49 (by decide +kernel) rfl
def d_X1_lookAtInode_151 (N : Nat) (V : Nat → Rw) : Nat → CfT → Int32 → Option (CfT)
  | 0, _, _ => none
  | n + 1, D, x4 => if (cS D 3705) ≤ x4 then some D else ld (cA D 39) 4168 x4 (fun v59 => seeB N V v59 (fun y61 => bnd (d_X1_lookAtSlots N V D y61 128) (fun D62 => d_X1_lookAtInode_151 N V n D62 (x4 + (1 : Int32)))))
def d_X1_lookAtInode_79 (N : Nat) (V : Nat → Rw) : Nat → CfT → Int32 → Int32 → Int32 → Option (CfT)
  | 0, _, _, _, _ => none
  | n + 1, D, x2, x3, x4 => if (cS D 3705) ≤ x4 then if x2 = ((2 : Int32)) then if ((x3) - (x3) / ((128 : Int32)) * ((128 : Int32))) = 0 then if (cS D 3705) = ((x3) / ((128 : Int32))) then bnd (d_X1_ask N V D ((1 : Int32))) (fun D56 => d_X1_lookAtInode_151 N V fuL D56 ((0 : Int32))) else bnd (d_X1_ask N V D ((0 : Int32))) (fun D55 => d_X1_lookAtInode_151 N V fuL D55 ((0 : Int32))) else bnd (d_X1_ask N V D ((0 : Int32))) (fun D54 => d_X1_lookAtInode_151 N V fuL D54 ((0 : Int32))) else some D else ld (cA D 39) 4168 x4 (fun v57 => bnd (d_X1_own N V D v57) (fun D58 => d_X1_lookAtInode_79 N V n D58 x2 x3 (x4 + (1 : Int32))))
def d_X1_lookAtInode_23 (N : Nat) (V : Nat → Rw) (D : CfT) (x1 : Int32) (x2 : Int32) : Option (CfT) := if x2 = 0 then bnd (d_X1_lookAtFree N V D x1) (fun D53 => some D53) else bnd (d_X7_size N V D x1) (fun v48 => if v48 < 0 then ptS D 4405 ((cS D 4405) + ((1 : Int32))) (fun D49 => some D49) else if v48 ≤ ((400000 : Int32)) then bnd (d_X1_lookAtTables N V D x1) (fun D50 => bnd (d_X7_gather N V D50 x1) (fun D51 => d_X1_lookAtInode_79 N V fuL D51 x2 v48 ((0 : Int32)))) else ptS D 4405 ((cS D 4405) + ((1 : Int32))) (fun D52 => some D52))
def d_X1_lookAtInode (N : Nat) (V : Nat → Rw) (D : CfT) (a0 : Int32) : Option (CfT) := bnd (d_X7_kind N V D a0) (fun v45 => if ((2 : Int32)) < v45 then bnd (d_X1_ask N V D ((0 : Int32))) (fun D46 => d_X1_lookAtInode_23 N V D46 a0 v45) else bnd (d_X1_ask N V D ((1 : Int32))) (fun D47 => d_X1_lookAtInode_23 N V D47 a0 v45))
set_option maxRecDepth 100000 in
set_option maxHeartbeats 4000000 in
theorem l_X1_lookAtInode_151 (E : gE) (f0 : Nat → va_E) (sz : Nat) (QA : Nat → Prop) (N B gr : Nat) (C0 : CfT) (A : MS) (hz : CfZ E N B gr) : ∀ (n : Nat), ∀ (D : CfT) (x4 : Int32) (D9 : CfT) (hr : d_X1_lookAtInode_151 N (vA A) n D x4 = some D9) (f : Nat → va_E) (C : CfT) (h : CfV E f N B gr C) (hD : Dq D C) (hA : AR N B gr A C) (hR : Rq C0 C) (hf : Fr CfK f0 f), G E (5, yX1_lookAtInode, 5, none, sz, QA) cX1_lookAtInode (gO E (5, yX1_lookAtInode, 5, none, sz, QA) (fun v g => v = none ∧ ST E N B gr f0 C0 A D9 g, fun _ _ => False)) 151 [(0, .ref (gAd E (44))), (4, .int (x4))] [] f := by
  obtain ⟨z1, z2, z3, z4, z5, z6, z7⟩ := id hz
  intro n
  induction n with
  | zero =>
    intro D x4 D9 hr f C h hD hA hR hf
    cases hr
  | succ n ih =>
    intro D x4 D9 hr f C h hD hA hR hf
    unfold d_X1_lookAtInode_151 at hr
    refine G.go tv_X1_lookAtInode 2 154 [(0, .ref (gAd E (44))), (4, .int (x4))] [.ref (gAd E (44)), .int (x4)] rfl ?_
    refine G.getf cls_X1 (44) 1 (by omega) (h.q44) (by decide) rfl (tbd tv_X1_lookAtInode rfl) w_545 ?_
    refine G.getf cls_X7 (37) 5 (by omega) (h.q37) (by decide) rfl (tbd tv_X1_lookAtInode rfl) w_486 ?_
    refine G.eq1 (b := cS D 3705) (hD.1 3705 (by decide)) ?_
    refine G.cmp_ge 190 (tbd tv_X1_lookAtInode rfl) (by decide) (fun c160 => ?_) (fun c160 => ?_)
    · replace hr := ite_t c160 hr
      cases hr
      exact G.vret rfl ⟨rfl, C, h, hD, hA, hR, hf⟩ (tbd tv_X1_lookAtInode rfl)
    · replace hr := ite_f c160 hr
      refine G.go tv_X1_lookAtInode 2 165 [(0, .ref (gAd E (44))), (4, .int (x4))] [.ref (gAd E (44)), .ref (gAd E (44))] rfl ?_
      refine G.getf cls_X1 (44) 0 (by omega) (h.q44) (by decide) rfl (tbd tv_X1_lookAtInode rfl) w_544 ?_
      refine G.go tv_X1_lookAtInode 1 169 [(0, .ref (gAd E (44))), (4, .int (x4))] [.ref (gAd E (44)), .ref (gAd E (25)), .ref (gAd E (44))] rfl ?_
      refine G.getf cls_X1 (44) 1 (by omega) (h.q44) (by decide) rfl (tbd tv_X1_lookAtInode rfl) w_545 ?_
      refine G.getf cls_X7 (37) 4 (by omega) (h.q37) (by decide) rfl (tbd tv_X1_lookAtInode rfl) w_484 ?_
      refine G.go tv_X1_lookAtInode 1 177 [(0, .ref (gAd E (44))), (4, .int (x4))] [.int (x4), .ref (gAd E (39)), .ref (gAd E (25)), .ref (gAd E (44))] rfl ?_
      obtain ⟨v59, b59, e59, hr⟩ := ld_s hr
      refine G.ialdE (39) (by omega) ((h.q39).trans (congrArg (oI (gDA E) (4168)) (hD.2 39 (by decide)))) b59 e59 (tbd tv_X1_lookAtInode rfl) ?_
      obtain ⟨y61, b61, e61, hr⟩ := seeB_s hr
      refine G.callV (25) [.int (v59)] [.ref (gAd E (44))] (k_see E _ N B gr C A hz h hA _ b61 _ e61) cls_X10 (by omega) (h.q25) cw_X1_85 w_910 w_911 (Nat.le_of_ble_eq_true rfl) rfl (Nat.le_of_ble_eq_true rfl) (tbd tv_X1_lookAtInode rfl) (fun v61w f61 q61 => ?_) (fun _ _ h => h.elim)
      obtain ⟨⟨k61, rfl, w61⟩, ha61, fa61⟩ := q61
      refine G.eqs [.ref (gAd E (k61)), .ref (gAd E (44))] rfl ?_
      obtain ⟨D62, hv62, hr⟩ := bnd_s hr
      refine G.callV (44) [.ref (gAd E (k61))] [] (k_X1_lookAtSlots E _ N B gr C D A hz ha61 hD hA k61 128 y61 (w61) D62 hv62) cls_X1 (by omega) (ha61.q44) cw_X1_91 w_2012 w_49 (Nat.le_of_ble_eq_true rfl) rfl (Nat.le_of_ble_eq_true rfl) (tbd tv_X1_lookAtInode rfl) (fun v62w f62 q62 => ?_) (fun _ _ h => h.elim)
      obtain ⟨rfl, C62, ha62, hD62, hA62, hR62, fa62⟩ := q62
      refine G.eqs [] rfl ?_
      refine G.go tv_X1_lookAtInode 2 151 [(0, .ref (gAd E (44))), (4, .int (x4 + (1 : Int32)))] [] rfl ?_
      refine G.less [(0, .ref (gAd E (44))), (4, .int (x4 + (1 : Int32)))] [0, 1] rfl ?_
      exact ih _ _ _ hr _ _ ha62 hD62 hA62 (hR.tr hR62) ((hf.tr fa61 (fun _ h => h)).tr fa62 (fun _ h => h))
set_option maxRecDepth 100000 in
set_option maxHeartbeats 4000000 in
theorem l_X1_lookAtInode_79 (E : gE) (f0 : Nat → va_E) (sz : Nat) (QA : Nat → Prop) (N B gr : Nat) (C0 : CfT) (A : MS) (hz : CfZ E N B gr) : ∀ (n : Nat), ∀ (D : CfT) (x2 : Int32) (x3 : Int32) (x4 : Int32) (D9 : CfT) (hr : d_X1_lookAtInode_79 N (vA A) n D x2 x3 x4 = some D9) (f : Nat → va_E) (C : CfT) (h : CfV E f N B gr C) (hD : Dq D C) (hA : AR N B gr A C) (hR : Rq C0 C) (hf : Fr CfK f0 f), G E (5, yX1_lookAtInode, 5, none, sz, QA) cX1_lookAtInode (gO E (5, yX1_lookAtInode, 5, none, sz, QA) (fun v g => v = none ∧ ST E N B gr f0 C0 A D9 g, fun _ _ => False)) 79 [(0, .ref (gAd E (44))), (2, .int (x2)), (3, .int (x3)), (4, .int (x4))] [] f := by
  obtain ⟨z1, z2, z3, z4, z5, z6, z7⟩ := id hz
  intro n
  induction n with
  | zero =>
    intro D x2 x3 x4 D9 hr f C h hD hA hR hf
    cases hr
  | succ n ih =>
    intro D x2 x3 x4 D9 hr f C h hD hA hR hf
    unfold d_X1_lookAtInode_79 at hr
    refine G.go tv_X1_lookAtInode 2 82 [(0, .ref (gAd E (44))), (2, .int (x2)), (3, .int (x3)), (4, .int (x4))] [.ref (gAd E (44)), .int (x4)] rfl ?_
    refine G.getf cls_X1 (44) 1 (by omega) (h.q44) (by decide) rfl (tbd tv_X1_lookAtInode rfl) w_545 ?_
    refine G.getf cls_X7 (37) 5 (by omega) (h.q37) (by decide) rfl (tbd tv_X1_lookAtInode rfl) w_486 ?_
    refine G.eq1 (b := cS D 3705) (hD.1 3705 (by decide)) ?_
    refine G.cmp_ge 111 (tbd tv_X1_lookAtInode rfl) (by decide) (fun c88 => ?_) (fun c88 => ?_)
    · replace hr := ite_t c88 hr
      refine G.go tv_X1_lookAtInode 2 113 [(0, .ref (gAd E (44))), (2, .int (x2)), (3, .int (x3)), (4, .int (x4))] [.int ((2 : Int32)), .int (x2)] rfl ?_
      refine G.cmp_ne 190 (tbd tv_X1_lookAtInode rfl) (by decide) (fun c113 => ?_) (fun c113 => ?_)
      · replace hr := ite_f c113 hr
        cases hr
        exact G.vret rfl ⟨rfl, C, h, hD, hA, hR, hf⟩ (tbd tv_X1_lookAtInode rfl)
      · replace hr := ite_t c113 hr
        refine G.go tv_X1_lookAtInode 3 121 [(0, .ref (gAd E (44))), (2, .int (x2)), (3, .int (x3)), (4, .int (x4))] [.int ((128 : Int32)), .int (x3), .ref (gAd E (44))] rfl ?_
        refine G.irem (by decide) (tbd tv_X1_lookAtInode rfl) ?_
        refine G.if_ne 144 (tbd tv_X1_lookAtInode rfl) (by decide) (fun c122 => ?_) (fun c122 => ?_)
        · replace hr := ite_f c122 hr
          refine G.go tv_X1_lookAtInode 1 145 [(0, .ref (gAd E (44))), (2, .int (x2)), (3, .int (x3)), (4, .int (x4))] [.int ((0 : Int32)), .ref (gAd E (44))] rfl ?_
          obtain ⟨D54, hv54, hr⟩ := bnd_s hr
          refine G.callV (44) [.int ((0 : Int32))] [] (k_X1_ask E _ N B gr C D A hz h hD hA ((0 : Int32)) D54 hv54) cls_X1 (by omega) (h.q44) cw_X1_49 w_1982 w_44 (Nat.le_of_ble_eq_true rfl) rfl (Nat.le_of_ble_eq_true rfl) (tbd tv_X1_lookAtInode rfl) (fun v54w f54 q54 => ?_) (fun _ _ h => h.elim)
          obtain ⟨rfl, C54, ha54, hD54, hA54, hR54, fa54⟩ := q54
          refine G.eqs [] rfl ?_
          refine G.go tv_X1_lookAtInode 2 151 [(0, .ref (gAd E (44))), (2, .int (x2)), (3, .int (x3)), (4, .int ((0 : Int32)))] [] rfl ?_
          refine G.less [(0, .ref (gAd E (44))), (4, .int ((0 : Int32)))] [0, 3] rfl ?_
          exact l_X1_lookAtInode_151 E f0 sz QA N B gr C0 A hz _ _ _ _ hr _ _ ha54 hD54 hA54 (hR.tr hR54) (hf.tr fa54 (fun _ h => h))
        · replace hr := ite_t c122 hr
          refine G.go tv_X1_lookAtInode 1 126 [(0, .ref (gAd E (44))), (2, .int (x2)), (3, .int (x3)), (4, .int (x4))] [.ref (gAd E (44)), .ref (gAd E (44))] rfl ?_
          refine G.getf cls_X1 (44) 1 (by omega) (h.q44) (by decide) rfl (tbd tv_X1_lookAtInode rfl) w_545 ?_
          refine G.getf cls_X7 (37) 5 (by omega) (h.q37) (by decide) rfl (tbd tv_X1_lookAtInode rfl) w_486 ?_
          refine G.eq1 (b := cS D 3705) (hD.1 3705 (by decide)) ?_
          refine G.go tv_X1_lookAtInode 2 136 [(0, .ref (gAd E (44))), (2, .int (x2)), (3, .int (x3)), (4, .int (x4))] [.int ((128 : Int32)), .int (x3), .int (cS D 3705), .ref (gAd E (44))] rfl ?_
          refine G.idiv (by decide) (tbd tv_X1_lookAtInode rfl) ?_
          refine G.cmp_ne 144 (tbd tv_X1_lookAtInode rfl) (by decide) (fun c137 => ?_) (fun c137 => ?_)
          · replace hr := ite_f c137 hr
            refine G.go tv_X1_lookAtInode 1 145 [(0, .ref (gAd E (44))), (2, .int (x2)), (3, .int (x3)), (4, .int (x4))] [.int ((0 : Int32)), .ref (gAd E (44))] rfl ?_
            obtain ⟨D55, hv55, hr⟩ := bnd_s hr
            refine G.callV (44) [.int ((0 : Int32))] [] (k_X1_ask E _ N B gr C D A hz h hD hA ((0 : Int32)) D55 hv55) cls_X1 (by omega) (h.q44) cw_X1_49 w_1982 w_44 (Nat.le_of_ble_eq_true rfl) rfl (Nat.le_of_ble_eq_true rfl) (tbd tv_X1_lookAtInode rfl) (fun v55w f55 q55 => ?_) (fun _ _ h => h.elim)
            obtain ⟨rfl, C55, ha55, hD55, hA55, hR55, fa55⟩ := q55
            refine G.eqs [] rfl ?_
            refine G.go tv_X1_lookAtInode 2 151 [(0, .ref (gAd E (44))), (2, .int (x2)), (3, .int (x3)), (4, .int ((0 : Int32)))] [] rfl ?_
            refine G.less [(0, .ref (gAd E (44))), (4, .int ((0 : Int32)))] [0, 3] rfl ?_
            exact l_X1_lookAtInode_151 E f0 sz QA N B gr C0 A hz _ _ _ _ hr _ _ ha55 hD55 hA55 (hR.tr hR55) (hf.tr fa55 (fun _ h => h))
          · replace hr := ite_t c137 hr
            refine G.go tv_X1_lookAtInode 2 145 [(0, .ref (gAd E (44))), (2, .int (x2)), (3, .int (x3)), (4, .int (x4))] [.int ((1 : Int32)), .ref (gAd E (44))] rfl ?_
            obtain ⟨D56, hv56, hr⟩ := bnd_s hr
            refine G.callV (44) [.int ((1 : Int32))] [] (k_X1_ask E _ N B gr C D A hz h hD hA ((1 : Int32)) D56 hv56) cls_X1 (by omega) (h.q44) cw_X1_49 w_1982 w_44 (Nat.le_of_ble_eq_true rfl) rfl (Nat.le_of_ble_eq_true rfl) (tbd tv_X1_lookAtInode rfl) (fun v56w f56 q56 => ?_) (fun _ _ h => h.elim)
            obtain ⟨rfl, C56, ha56, hD56, hA56, hR56, fa56⟩ := q56
            refine G.eqs [] rfl ?_
            refine G.go tv_X1_lookAtInode 2 151 [(0, .ref (gAd E (44))), (2, .int (x2)), (3, .int (x3)), (4, .int ((0 : Int32)))] [] rfl ?_
            refine G.less [(0, .ref (gAd E (44))), (4, .int ((0 : Int32)))] [0, 3] rfl ?_
            exact l_X1_lookAtInode_151 E f0 sz QA N B gr C0 A hz _ _ _ _ hr _ _ ha56 hD56 hA56 (hR.tr hR56) (hf.tr fa56 (fun _ h => h))
    · replace hr := ite_f c88 hr
      refine G.go tv_X1_lookAtInode 2 93 [(0, .ref (gAd E (44))), (2, .int (x2)), (3, .int (x3)), (4, .int (x4))] [.ref (gAd E (44)), .ref (gAd E (44))] rfl ?_
      refine G.getf cls_X1 (44) 1 (by omega) (h.q44) (by decide) rfl (tbd tv_X1_lookAtInode rfl) w_545 ?_
      refine G.getf cls_X7 (37) 4 (by omega) (h.q37) (by decide) rfl (tbd tv_X1_lookAtInode rfl) w_484 ?_
      refine G.go tv_X1_lookAtInode 1 101 [(0, .ref (gAd E (44))), (2, .int (x2)), (3, .int (x3)), (4, .int (x4))] [.int (x4), .ref (gAd E (39)), .ref (gAd E (44))] rfl ?_
      obtain ⟨v57, b57, e57, hr⟩ := ld_s hr
      refine G.ialdE (39) (by omega) ((h.q39).trans (congrArg (oI (gDA E) (4168)) (hD.2 39 (by decide)))) b57 e57 (tbd tv_X1_lookAtInode rfl) ?_
      obtain ⟨D58, hv58, hr⟩ := bnd_s hr
      refine G.callV (44) [.int (v57)] [] (k_X1_own E _ N B gr C D A hz h hD hA v57 D58 hv58) cls_X1 (by omega) (h.q44) cw_X1_82 w_2005 w_48 (Nat.le_of_ble_eq_true rfl) rfl (Nat.le_of_ble_eq_true rfl) (tbd tv_X1_lookAtInode rfl) (fun v58w f58 q58 => ?_) (fun _ _ h => h.elim)
      obtain ⟨rfl, C58, ha58, hD58, hA58, hR58, fa58⟩ := q58
      refine G.eqs [] rfl ?_
      refine G.go tv_X1_lookAtInode 2 79 [(0, .ref (gAd E (44))), (2, .int (x2)), (3, .int (x3)), (4, .int (x4 + (1 : Int32)))] [] rfl ?_
      refine G.less [(0, .ref (gAd E (44))), (2, .int (x2)), (3, .int (x3)), (4, .int (x4 + (1 : Int32)))] [0, 1, 2, 3] rfl ?_
      exact ih _ _ _ _ _ hr _ _ ha58 hD58 hA58 (hR.tr hR58) (hf.tr fa58 (fun _ h => h))
set_option maxRecDepth 100000 in
set_option maxHeartbeats 4000000 in
theorem l_X1_lookAtInode_23 (E : gE) (f0 : Nat → va_E) (sz : Nat) (QA : Nat → Prop) (N B gr : Nat) (C0 : CfT) (A : MS) (hz : CfZ E N B gr) : ∀ (D : CfT) (x1 : Int32) (x2 : Int32) (D9 : CfT) (hr : d_X1_lookAtInode_23 N (vA A) D x1 x2 = some D9) (f : Nat → va_E) (C : CfT) (h : CfV E f N B gr C) (hD : Dq D C) (hA : AR N B gr A C) (hR : Rq C0 C) (hf : Fr CfK f0 f), G E (5, yX1_lookAtInode, 5, none, sz, QA) cX1_lookAtInode (gO E (5, yX1_lookAtInode, 5, none, sz, QA) (fun v g => v = none ∧ ST E N B gr f0 C0 A D9 g, fun _ _ => False)) 23 [(0, .ref (gAd E (44))), (1, .int (x1)), (2, .int (x2))] [] f := by
  obtain ⟨z1, z2, z3, z4, z5, z6, z7⟩ := id hz
  intro D x1 x2 D9 hr f C h hD hA hR hf
  unfold d_X1_lookAtInode_23 at hr
  refine G.go tv_X1_lookAtInode 1 24 [(0, .ref (gAd E (44))), (1, .int (x1)), (2, .int (x2))] [.int (x2)] rfl ?_
  refine G.if_ne 33 (tbd tv_X1_lookAtInode rfl) (by decide) (fun c24 => ?_) (fun c24 => ?_)
  · replace hr := ite_f c24 hr
    refine G.go tv_X1_lookAtInode 1 34 [(0, .ref (gAd E (44))), (1, .int (x1)), (2, .int (x2))] [.ref (gAd E (44))] rfl ?_
    refine G.getf cls_X1 (44) 1 (by omega) (h.q44) (by decide) rfl (tbd tv_X1_lookAtInode rfl) w_545 ?_
    refine G.go tv_X1_lookAtInode 1 38 [(0, .ref (gAd E (44))), (1, .int (x1)), (2, .int (x2))] [.int (x1), .ref (gAd E (37))] rfl ?_
    obtain ⟨v48, hv48, hr⟩ := bnd_s hr
    refine G.callV (37) [.int (x1)] [] (k_X7_size E _ N B gr C D A hz h hD hA x1 v48 hv48) cls_X7 (by omega) (h.q37) cw_X1_66 w_941 w_942 (Nat.le_of_ble_eq_true rfl) rfl (Nat.le_of_ble_eq_true rfl) (tbd tv_X1_lookAtInode rfl) (fun v48w f48 q48 => ?_) (fun _ _ h => h.elim)
    obtain ⟨rfl, ha48, fa48⟩ := q48
    refine G.eqs [.int (v48)] rfl ?_
    refine G.go tv_X1_lookAtInode 2 43 [(0, .ref (gAd E (44))), (1, .int (x1)), (2, .int (x2)), (3, .int (v48))] [.int (v48)] rfl ?_
    refine G.if_lt 52 (tbd tv_X1_lookAtInode rfl) (by decide) (fun c43 => ?_) (fun c43 => ?_)
    · replace hr := ite_t c43 hr
      refine G.go tv_X1_lookAtInode 2 54 [(0, .ref (gAd E (44))), (1, .int (x1)), (2, .int (x2)), (3, .int (v48))] [.ref (gAd E (44)), .ref (gAd E (44))] rfl ?_
      refine G.getf cls_X1 (44) 5 (by omega) (ha48.q44) (by decide) rfl (tbd tv_X1_lookAtInode rfl) w_549 ?_
      refine G.eq1 (b := cS D 4405) (hD.1 4405 (by decide)) ?_
      refine G.go tv_X1_lookAtInode 2 59 [(0, .ref (gAd E (44))), (1, .int (x1)), (2, .int (x2)), (3, .int (v48))] [.int ((cS D 4405) + ((1 : Int32))), .ref (gAd E (44))] rfl ?_
      obtain ⟨D49, eD49, hr⟩ := ptS_s hr
      refine G.putfS cls_X1 (44) 5 [.ref (gAd E 25), .ref (gAd E 37), .ref (gAd E 32), .ref (gAd E 45), .ref (gAd E 46), .int ((cS D 4405) + ((1 : Int32)))] (by omega) (ha48.q44) rfl (by decide) rfl rfl rfl (Nat.le_of_ble_eq_true rfl) (tbd tv_X1_lookAtInode rfl) w_549 ?_
      refine G.gen (P := ST E N B gr f0 C0 A D49) ⟨sS C 4405 ((cS D 4405) + ((1 : Int32))), ha48.s4405 _, (by rw [eD49]; exact hD.ss), hA.sm (Sd.s (by decide) : Sd C (sS C 4405 ((cS D 4405) + ((1 : Int32))))), hR.tr ⟨rfl, rfl⟩, Fr.c (hf.tr fa48 (fun _ h => h)) (by first | exact Or.inl (by decide) | exact Or.inr (by omega))⟩ (fun u49 p49 => ?_)
      obtain ⟨C49, h49, hD49, hA49, hR49, k49⟩ := p49
      cases hr
      exact G.vret rfl ⟨rfl, C49, h49, hD49, hA49, hR49, k49⟩ (tbd tv_X1_lookAtInode rfl)
    · replace hr := ite_f c43 hr
      refine G.go tv_X1_lookAtInode 1 47 [(0, .ref (gAd E (44))), (1, .int (x1)), (2, .int (x2)), (3, .int (v48))] [.int (v48)] rfl ?_
      refine G.ldc (400000) (tbd tv_X1_lookAtInode rfl) w_1998 ?_
      refine G.cmp_le 63 (tbd tv_X1_lookAtInode rfl) (by decide) (fun c49 => ?_) (fun c49 => ?_)
      · replace hr := ite_t c49 hr
        refine G.go tv_X1_lookAtInode 2 65 [(0, .ref (gAd E (44))), (1, .int (x1)), (2, .int (x2)), (3, .int (v48))] [.int (x1), .ref (gAd E (44))] rfl ?_
        obtain ⟨D50, hv50, hr⟩ := bnd_s hr
        refine G.callV (44) [.int (x1)] [] (k_X1_lookAtTables E _ N B gr C D A hz ha48 hD hA x1 D50 hv50) cls_X1 (by omega) (ha48.q44) cw_X1_70 w_2001 w_47 (Nat.le_of_ble_eq_true rfl) rfl (Nat.le_of_ble_eq_true rfl) (tbd tv_X1_lookAtInode rfl) (fun v50w f50 q50 => ?_) (fun _ _ h => h.elim)
        obtain ⟨rfl, C50, ha50, hD50, hA50, hR50, fa50⟩ := q50
        refine G.eqs [] rfl ?_
        refine G.go tv_X1_lookAtInode 1 69 [(0, .ref (gAd E (44))), (1, .int (x1)), (2, .int (x2)), (3, .int (v48))] [.ref (gAd E (44))] rfl ?_
        refine G.getf cls_X1 (44) 1 (by omega) (ha50.q44) (by decide) rfl (tbd tv_X1_lookAtInode rfl) w_545 ?_
        refine G.go tv_X1_lookAtInode 1 73 [(0, .ref (gAd E (44))), (1, .int (x1)), (2, .int (x2)), (3, .int (v48))] [.int (x1), .ref (gAd E (37))] rfl ?_
        obtain ⟨D51, hv51, hr⟩ := bnd_s hr
        refine G.callV (37) [.int (x1)] [] (k_X7_gather E _ N B gr C50 D50 A hz ha50 hD50 hA50 x1 D51 hv51) cls_X7 (by omega) (ha50.q37) cw_X1_73 w_1550 w_1551 (Nat.le_of_ble_eq_true rfl) rfl (Nat.le_of_ble_eq_true rfl) (tbd tv_X1_lookAtInode rfl) (fun v51w f51 q51 => ?_) (fun _ _ h => h.elim)
        obtain ⟨rfl, C51, ha51, hD51, hA51, hR51, fa51⟩ := q51
        refine G.eqs [] rfl ?_
        refine G.go tv_X1_lookAtInode 2 79 [(0, .ref (gAd E (44))), (1, .int (x1)), (2, .int (x2)), (3, .int (v48)), (4, .int ((0 : Int32)))] [] rfl ?_
        refine G.less [(0, .ref (gAd E (44))), (2, .int (x2)), (3, .int (v48)), (4, .int ((0 : Int32)))] [0, 2, 3, 4] rfl ?_
        exact l_X1_lookAtInode_79 E f0 sz QA N B gr C0 A hz _ _ _ _ _ _ hr _ _ ha51 hD51 hA51 ((hR.tr hR50).tr hR51) (((hf.tr fa48 (fun _ h => h)).tr fa50 (fun _ h => h)).tr fa51 (fun _ h => h))
      · replace hr := ite_f c49 hr
        refine G.go tv_X1_lookAtInode 2 54 [(0, .ref (gAd E (44))), (1, .int (x1)), (2, .int (x2)), (3, .int (v48))] [.ref (gAd E (44)), .ref (gAd E (44))] rfl ?_
        refine G.getf cls_X1 (44) 5 (by omega) (ha48.q44) (by decide) rfl (tbd tv_X1_lookAtInode rfl) w_549 ?_
        refine G.eq1 (b := cS D 4405) (hD.1 4405 (by decide)) ?_
        refine G.go tv_X1_lookAtInode 2 59 [(0, .ref (gAd E (44))), (1, .int (x1)), (2, .int (x2)), (3, .int (v48))] [.int ((cS D 4405) + ((1 : Int32))), .ref (gAd E (44))] rfl ?_
        obtain ⟨D52, eD52, hr⟩ := ptS_s hr
        refine G.putfS cls_X1 (44) 5 [.ref (gAd E 25), .ref (gAd E 37), .ref (gAd E 32), .ref (gAd E 45), .ref (gAd E 46), .int ((cS D 4405) + ((1 : Int32)))] (by omega) (ha48.q44) rfl (by decide) rfl rfl rfl (Nat.le_of_ble_eq_true rfl) (tbd tv_X1_lookAtInode rfl) w_549 ?_
        refine G.gen (P := ST E N B gr f0 C0 A D52) ⟨sS C 4405 ((cS D 4405) + ((1 : Int32))), ha48.s4405 _, (by rw [eD52]; exact hD.ss), hA.sm (Sd.s (by decide) : Sd C (sS C 4405 ((cS D 4405) + ((1 : Int32))))), hR.tr ⟨rfl, rfl⟩, Fr.c (hf.tr fa48 (fun _ h => h)) (by first | exact Or.inl (by decide) | exact Or.inr (by omega))⟩ (fun u52 p52 => ?_)
        obtain ⟨C52, h52, hD52, hA52, hR52, k52⟩ := p52
        cases hr
        exact G.vret rfl ⟨rfl, C52, h52, hD52, hA52, hR52, k52⟩ (tbd tv_X1_lookAtInode rfl)
  · replace hr := ite_t c24 hr
    refine G.go tv_X1_lookAtInode 2 29 [(0, .ref (gAd E (44))), (1, .int (x1)), (2, .int (x2))] [.int (x1), .ref (gAd E (44))] rfl ?_
    obtain ⟨D53, hv53, hr⟩ := bnd_s hr
    refine G.callV (44) [.int (x1)] [] (k_X1_lookAtFree E _ N B gr C D A hz h hD hA x1 D53 hv53) cls_X1 (by omega) (h.q44) cw_X1_63 w_1990 w_46 (Nat.le_of_ble_eq_true rfl) rfl (Nat.le_of_ble_eq_true rfl) (tbd tv_X1_lookAtInode rfl) (fun v53w f53 q53 => ?_) (fun _ _ h => h.elim)
    obtain ⟨rfl, C53, ha53, hD53, hA53, hR53, fa53⟩ := q53
    refine G.eqs [] rfl ?_
    cases hr
    exact G.vret rfl ⟨rfl, C53, ha53, hD53, hA53, (hR.tr hR53), (hf.tr fa53 (fun _ h => h))⟩ (tbd tv_X1_lookAtInode rfl)
set_option maxRecDepth 100000 in
set_option maxHeartbeats 4000000 in
theorem k_X1_lookAtInode (E : gE) (f : Nat → va_E) (N B gr : Nat) (C D : CfT) (A : MS) (hz : CfZ E N B gr) (h : CfV E f N B gr C) (hD : Dq D C) (hA : AR N B gr A C) (a0 : Int32) (D9 : CfT) (hr : d_X1_lookAtInode N (vA A) D a0 = some D9) : Ct E 5 yX1_lookAtInode cX1_lookAtInode 5 none [.ref (gAd E (44)), .int (a0)] f (fun v g => v = none ∧ ST E N B gr f C A D9 g, fun _ _ => False) := by
  obtain ⟨z1, z2, z3, z4, z5, z6, z7⟩ := id hz
  refine Ct.of (by decide) (Nat.le_of_ble_eq_true rfl) (fun sz => ?_)
  refine G.eql [(0, .ref (gAd E (44))), (1, .int (a0))] rfl ?_
  unfold d_X1_lookAtInode at hr
  refine G.go tv_X1_lookAtInode 1 1 [(0, .ref (gAd E (44))), (1, .int (a0))] [.ref (gAd E (44))] rfl ?_
  refine G.getf cls_X1 (44) 1 (by omega) (h.q44) (by decide) rfl (tbd tv_X1_lookAtInode rfl) w_545 ?_
  refine G.go tv_X1_lookAtInode 1 5 [(0, .ref (gAd E (44))), (1, .int (a0))] [.int (a0), .ref (gAd E (37))] rfl ?_
  obtain ⟨v45, hv45, hr⟩ := bnd_s hr
  refine G.callV (37) [.int (a0)] [] (k_X7_kind E _ N B gr C D A hz h hD hA a0 v45 hv45) cls_X7 (by omega) (h.q37) cw_X1_43 w_903 w_904 (Nat.le_of_ble_eq_true rfl) rfl (Nat.le_of_ble_eq_true rfl) (tbd tv_X1_lookAtInode rfl) (fun v45w f45 q45 => ?_) (fun _ _ h => h.elim)
  obtain ⟨rfl, ha45, fa45⟩ := q45
  refine G.eqs [.int (v45)] rfl ?_
  refine G.go tv_X1_lookAtInode 4 12 [(0, .ref (gAd E (44))), (1, .int (a0)), (2, .int (v45))] [.int ((2 : Int32)), .int (v45), .ref (gAd E (44))] rfl ?_
  refine G.cmp_gt 19 (tbd tv_X1_lookAtInode rfl) (by decide) (fun c12 => ?_) (fun c12 => ?_)
  · replace hr := ite_t c12 hr
    refine G.go tv_X1_lookAtInode 1 20 [(0, .ref (gAd E (44))), (1, .int (a0)), (2, .int (v45))] [.int ((0 : Int32)), .ref (gAd E (44))] rfl ?_
    obtain ⟨D46, hv46, hr⟩ := bnd_s hr
    refine G.callV (44) [.int ((0 : Int32))] [] (k_X1_ask E _ N B gr C D A hz ha45 hD hA ((0 : Int32)) D46 hv46) cls_X1 (by omega) (ha45.q44) cw_X1_49 w_1982 w_44 (Nat.le_of_ble_eq_true rfl) rfl (Nat.le_of_ble_eq_true rfl) (tbd tv_X1_lookAtInode rfl) (fun v46w f46 q46 => ?_) (fun _ _ h => h.elim)
    obtain ⟨rfl, C46, ha46, hD46, hA46, hR46, fa46⟩ := q46
    refine G.eqs [] rfl ?_
    refine G.less [(0, .ref (gAd E (44))), (1, .int (a0)), (2, .int (v45))] [0, 1, 2] rfl ?_
    exact l_X1_lookAtInode_23 E f sz _ N B gr C A hz _ _ _ _ hr _ _ ha46 hD46 hA46 (Rq.rf.tr hR46) ((Fr.rf.tr fa45 (fun _ h => h)).tr fa46 (fun _ h => h))
  · replace hr := ite_f c12 hr
    refine G.go tv_X1_lookAtInode 2 20 [(0, .ref (gAd E (44))), (1, .int (a0)), (2, .int (v45))] [.int ((1 : Int32)), .ref (gAd E (44))] rfl ?_
    obtain ⟨D47, hv47, hr⟩ := bnd_s hr
    refine G.callV (44) [.int ((1 : Int32))] [] (k_X1_ask E _ N B gr C D A hz ha45 hD hA ((1 : Int32)) D47 hv47) cls_X1 (by omega) (ha45.q44) cw_X1_49 w_1982 w_44 (Nat.le_of_ble_eq_true rfl) rfl (Nat.le_of_ble_eq_true rfl) (tbd tv_X1_lookAtInode rfl) (fun v47w f47 q47 => ?_) (fun _ _ h => h.elim)
    obtain ⟨rfl, C47, ha47, hD47, hA47, hR47, fa47⟩ := q47
    refine G.eqs [] rfl ?_
    refine G.less [(0, .ref (gAd E (44))), (1, .int (a0)), (2, .int (v45))] [0, 1, 2] rfl ?_
    exact l_X1_lookAtInode_23 E f sz _ N B gr C A hz _ _ _ _ hr _ _ ha47 hD47 hA47 (Rq.rf.tr hR47) ((Fr.rf.tr fa45 (fun _ h => h)).tr fa47 (fun _ h => h))
def tb_X1_lookAtLinks : List (Nat × Instr × Nat) := [(0, .iconst 1, 1), (1, .istore_n 1, 1), (2, .iload_n 1, 1), (3, .bipush 64, 2), (5, .if_icmp .gt 66, 3), (8, .aload_n 0, 1), (9, .aload_n 0, 1), (10, .getfield 9, 3), (13, .iload_n 1, 1), (14, .iaload, 1), (15, .aload_n 0, 1), (16, .getfield 19, 3), (19, .iload_n 1, 1), (20, .invokevirtual 95, 3), (23, .if_icmp .ne 7, 3), (26, .iconst 1, 1), (27, .goto 4, 3), (30, .iconst 0, 1), (31, .invokevirtual 49, 3), (34, .aload_n 0, 1), (35, .aload_n 0, 1), (36, .getfield 19, 3), (39, .iload_n 1, 1), (40, .invokevirtual 132, 3), (43, .ifCond .eq 14, 3), (46, .aload_n 0, 1), (47, .getfield 23, 3), (50, .iload_n 1, 1), (51, .invokevirtual 136, 3), (54, .ifCond .le 7, 3), (57, .iconst 1, 1), (58, .goto 4, 3), (61, .iconst 0, 1), (62, .invokevirtual 49, 3), (65, .iinc 1 1, 3), (68, .goto (-66), 3), (71, .return_, 1)]
theorem tv_X1_lookAtLinks : Tv cX1_lookAtLinks tb_X1_lookAtLinks := by
  unfold Tv
  decide +kernel
theorem w_2021 : Cond.methodLink "LedgerFiles$Checker" 132 yX7_isLost ∈ TB := tp_8 195 (by decide +kernel) rfl
theorem cw_X1_132 : Cw RX1 132 yX7_isLost cX7_isLost 2 (some .boolean) 1 := ⟨w_2021, w_901, w_157, by decide +kernel, by decide +kernel, by decide⟩
theorem w_2022 : Cond.methodLink "LedgerFiles$Checker" 136 yX5_times ∈ TB := tp_8 196 (by decide +kernel) rfl
theorem w_931 : Cond.code yX5_times prog_7_method_5_code 2 (some .int) ∈ TB := tp_4 65 rfl rfl
theorem cw_X1_136 : Cw RX1 136 yX5_times cX5_times 2 (some .int) 1 := ⟨w_2022, w_931, w_156, by decide +kernel, by decide +kernel, by decide⟩
theorem w_929 : Cond.instanceMethod yX5_times ∈ TB := tp_4 63 (by decide +kernel) rfl
theorem w_930 : Cond.selects "LedgerFiles$Holders" yX5_times yX5_times ∈ TB := tp_4 64 (by decide +kernel) rfl
def d_X1_lookAtLinks_34 (N : Nat) (V : Nat → Rw) (self2 : CfT → Int32 → Option (CfT)) (D : CfT) (x1 : Int32) : Option (CfT) := bnd (d_X7_isLost N V D x1) (fun v67 => if v67 = 0 then bnd (d_X1_ask N V D ((1 : Int32))) (fun D68 => self2 D68 (x1 + (1 : Int32))) else bnd (d_X5_times N V D x1) (fun v69 => if v69 ≤ 0 then bnd (d_X1_ask N V D ((0 : Int32))) (fun D70 => self2 D70 (x1 + (1 : Int32))) else bnd (d_X1_ask N V D ((1 : Int32))) (fun D71 => self2 D71 (x1 + (1 : Int32)))))
def d_X1_lookAtLinks_2 (N : Nat) (V : Nat → Rw) : Nat → CfT → Int32 → Option (CfT)
  | 0, _, _ => none
  | n + 1, D, x1 => if ((64 : Int32)) < x1 then some D else ld (cA D 46) 65 x1 (fun v63 => bnd (d_X7_links N V D x1) (fun v64 => if v63 = v64 then bnd (d_X1_ask N V D ((1 : Int32))) (fun D66 => d_X1_lookAtLinks_34 N V (d_X1_lookAtLinks_2 N V n) D66 x1) else bnd (d_X1_ask N V D ((0 : Int32))) (fun D65 => d_X1_lookAtLinks_34 N V (d_X1_lookAtLinks_2 N V n) D65 x1)))
def d_X1_lookAtLinks (N : Nat) (V : Nat → Rw) (D : CfT) : Option (CfT) := d_X1_lookAtLinks_2 N V fuL D ((1 : Int32))
set_option maxRecDepth 100000 in
set_option maxHeartbeats 4000000 in
theorem l_X1_lookAtLinks_34 (E : gE) (f0 : Nat → va_E) (sz : Nat) (QA : Nat → Prop) (N B gr : Nat) (C0 : CfT) (A : MS) (hz : CfZ E N B gr) (self2 : CfT → Int32 → Option (CfT)) (hs2 : ∀ (D : CfT) (x1 : Int32) (D9 : CfT) (hr : self2 D x1 = some D9) (f : Nat → va_E) (C : CfT) (h : CfV E f N B gr C) (hD : Dq D C) (hA : AR N B gr A C) (hR : Rq C0 C) (hf : Fr CfK f0 f), G E (5, yX1_lookAtLinks, 2, none, sz, QA) cX1_lookAtLinks (gO E (5, yX1_lookAtLinks, 2, none, sz, QA) (fun v g => v = none ∧ ST E N B gr f0 C0 A D9 g, fun _ _ => False)) 2 [(0, .ref (gAd E (44))), (1, .int (x1))] [] f) : ∀ (D : CfT) (x1 : Int32) (D9 : CfT) (hr : d_X1_lookAtLinks_34 N (vA A) self2 D x1 = some D9) (f : Nat → va_E) (C : CfT) (h : CfV E f N B gr C) (hD : Dq D C) (hA : AR N B gr A C) (hR : Rq C0 C) (hf : Fr CfK f0 f), G E (5, yX1_lookAtLinks, 2, none, sz, QA) cX1_lookAtLinks (gO E (5, yX1_lookAtLinks, 2, none, sz, QA) (fun v g => v = none ∧ ST E N B gr f0 C0 A D9 g, fun _ _ => False)) 34 [(0, .ref (gAd E (44))), (1, .int (x1))] [] f := by
  obtain ⟨z1, z2, z3, z4, z5, z6, z7⟩ := id hz
  intro D x1 D9 hr f C h hD hA hR hf
  unfold d_X1_lookAtLinks_34 at hr
  refine G.go tv_X1_lookAtLinks 2 36 [(0, .ref (gAd E (44))), (1, .int (x1))] [.ref (gAd E (44)), .ref (gAd E (44))] rfl ?_
  refine G.getf cls_X1 (44) 1 (by omega) (h.q44) (by decide) rfl (tbd tv_X1_lookAtLinks rfl) w_545 ?_
  refine G.go tv_X1_lookAtLinks 1 40 [(0, .ref (gAd E (44))), (1, .int (x1))] [.int (x1), .ref (gAd E (37)), .ref (gAd E (44))] rfl ?_
  obtain ⟨v67, hv67, hr⟩ := bnd_s hr
  refine G.callV (37) [.int (x1)] [.ref (gAd E (44))] (k_X7_isLost E _ N B gr C D A hz h hD hA x1 v67 hv67) cls_X7 (by omega) (h.q37) cw_X1_132 w_899 w_900 (Nat.le_of_ble_eq_true rfl) rfl (Nat.le_of_ble_eq_true rfl) (tbd tv_X1_lookAtLinks rfl) (fun v67w f67 q67 => ?_) (fun _ _ h => h.elim)
  obtain ⟨rfl, ha67, fa67⟩ := q67
  refine G.eqs [.int (v67), .ref (gAd E (44))] rfl ?_
  refine G.if_eq 57 (tbd tv_X1_lookAtLinks rfl) (by decide) (fun c43 => ?_) (fun c43 => ?_)
  · replace hr := ite_t c43 hr
    refine G.go tv_X1_lookAtLinks 2 62 [(0, .ref (gAd E (44))), (1, .int (x1))] [.int ((1 : Int32)), .ref (gAd E (44))] rfl ?_
    obtain ⟨D68, hv68, hr⟩ := bnd_s hr
    refine G.callV (44) [.int ((1 : Int32))] [] (k_X1_ask E _ N B gr C D A hz ha67 hD hA ((1 : Int32)) D68 hv68) cls_X1 (by omega) (ha67.q44) cw_X1_49 w_1982 w_44 (Nat.le_of_ble_eq_true rfl) rfl (Nat.le_of_ble_eq_true rfl) (tbd tv_X1_lookAtLinks rfl) (fun v68w f68 q68 => ?_) (fun _ _ h => h.elim)
    obtain ⟨rfl, C68, ha68, hD68, hA68, hR68, fa68⟩ := q68
    refine G.eqs [] rfl ?_
    refine G.go tv_X1_lookAtLinks 2 2 [(0, .ref (gAd E (44))), (1, .int (x1 + (1 : Int32)))] [] rfl ?_
    refine G.less [(0, .ref (gAd E (44))), (1, .int (x1 + (1 : Int32)))] [0, 1] rfl ?_
    exact hs2 _ _ _ hr _ _ ha68 hD68 hA68 (hR.tr hR68) ((hf.tr fa67 (fun _ h => h)).tr fa68 (fun _ h => h))
  · replace hr := ite_f c43 hr
    refine G.go tv_X1_lookAtLinks 1 47 [(0, .ref (gAd E (44))), (1, .int (x1))] [.ref (gAd E (44)), .ref (gAd E (44))] rfl ?_
    refine G.getf cls_X1 (44) 2 (by omega) (ha67.q44) (by decide) rfl (tbd tv_X1_lookAtLinks rfl) w_546 ?_
    refine G.go tv_X1_lookAtLinks 1 51 [(0, .ref (gAd E (44))), (1, .int (x1))] [.int (x1), .ref (gAd E (32)), .ref (gAd E (44))] rfl ?_
    obtain ⟨v69, hv69, hr⟩ := bnd_s hr
    refine G.callV (32) [.int (x1)] [.ref (gAd E (44))] (k_X5_times E _ N B gr C D A hz ha67 hD hA x1 v69 hv69) cls_X5 (by omega) (ha67.q32) cw_X1_136 w_929 w_930 (Nat.le_of_ble_eq_true rfl) rfl (Nat.le_of_ble_eq_true rfl) (tbd tv_X1_lookAtLinks rfl) (fun v69w f69 q69 => ?_) (fun _ _ h => h.elim)
    obtain ⟨rfl, ha69, fa69⟩ := q69
    refine G.eqs [.int (v69), .ref (gAd E (44))] rfl ?_
    refine G.if_le 61 (tbd tv_X1_lookAtLinks rfl) (by decide) (fun c54 => ?_) (fun c54 => ?_)
    · replace hr := ite_t c54 hr
      refine G.go tv_X1_lookAtLinks 1 62 [(0, .ref (gAd E (44))), (1, .int (x1))] [.int ((0 : Int32)), .ref (gAd E (44))] rfl ?_
      obtain ⟨D70, hv70, hr⟩ := bnd_s hr
      refine G.callV (44) [.int ((0 : Int32))] [] (k_X1_ask E _ N B gr C D A hz ha69 hD hA ((0 : Int32)) D70 hv70) cls_X1 (by omega) (ha69.q44) cw_X1_49 w_1982 w_44 (Nat.le_of_ble_eq_true rfl) rfl (Nat.le_of_ble_eq_true rfl) (tbd tv_X1_lookAtLinks rfl) (fun v70w f70 q70 => ?_) (fun _ _ h => h.elim)
      obtain ⟨rfl, C70, ha70, hD70, hA70, hR70, fa70⟩ := q70
      refine G.eqs [] rfl ?_
      refine G.go tv_X1_lookAtLinks 2 2 [(0, .ref (gAd E (44))), (1, .int (x1 + (1 : Int32)))] [] rfl ?_
      refine G.less [(0, .ref (gAd E (44))), (1, .int (x1 + (1 : Int32)))] [0, 1] rfl ?_
      exact hs2 _ _ _ hr _ _ ha70 hD70 hA70 (hR.tr hR70) (((hf.tr fa67 (fun _ h => h)).tr fa69 (fun _ h => h)).tr fa70 (fun _ h => h))
    · replace hr := ite_f c54 hr
      refine G.go tv_X1_lookAtLinks 2 62 [(0, .ref (gAd E (44))), (1, .int (x1))] [.int ((1 : Int32)), .ref (gAd E (44))] rfl ?_
      obtain ⟨D71, hv71, hr⟩ := bnd_s hr
      refine G.callV (44) [.int ((1 : Int32))] [] (k_X1_ask E _ N B gr C D A hz ha69 hD hA ((1 : Int32)) D71 hv71) cls_X1 (by omega) (ha69.q44) cw_X1_49 w_1982 w_44 (Nat.le_of_ble_eq_true rfl) rfl (Nat.le_of_ble_eq_true rfl) (tbd tv_X1_lookAtLinks rfl) (fun v71w f71 q71 => ?_) (fun _ _ h => h.elim)
      obtain ⟨rfl, C71, ha71, hD71, hA71, hR71, fa71⟩ := q71
      refine G.eqs [] rfl ?_
      refine G.go tv_X1_lookAtLinks 2 2 [(0, .ref (gAd E (44))), (1, .int (x1 + (1 : Int32)))] [] rfl ?_
      refine G.less [(0, .ref (gAd E (44))), (1, .int (x1 + (1 : Int32)))] [0, 1] rfl ?_
      exact hs2 _ _ _ hr _ _ ha71 hD71 hA71 (hR.tr hR71) (((hf.tr fa67 (fun _ h => h)).tr fa69 (fun _ h => h)).tr fa71 (fun _ h => h))
set_option maxRecDepth 100000 in
set_option maxHeartbeats 4000000 in
theorem l_X1_lookAtLinks_2 (E : gE) (f0 : Nat → va_E) (sz : Nat) (QA : Nat → Prop) (N B gr : Nat) (C0 : CfT) (A : MS) (hz : CfZ E N B gr) : ∀ (n : Nat), ∀ (D : CfT) (x1 : Int32) (D9 : CfT) (hr : d_X1_lookAtLinks_2 N (vA A) n D x1 = some D9) (f : Nat → va_E) (C : CfT) (h : CfV E f N B gr C) (hD : Dq D C) (hA : AR N B gr A C) (hR : Rq C0 C) (hf : Fr CfK f0 f), G E (5, yX1_lookAtLinks, 2, none, sz, QA) cX1_lookAtLinks (gO E (5, yX1_lookAtLinks, 2, none, sz, QA) (fun v g => v = none ∧ ST E N B gr f0 C0 A D9 g, fun _ _ => False)) 2 [(0, .ref (gAd E (44))), (1, .int (x1))] [] f := by
  obtain ⟨z1, z2, z3, z4, z5, z6, z7⟩ := id hz
  intro n
  induction n with
  | zero =>
    intro D x1 D9 hr f C h hD hA hR hf
    cases hr
  | succ n ih =>
    intro D x1 D9 hr f C h hD hA hR hf
    unfold d_X1_lookAtLinks_2 at hr
    refine G.go tv_X1_lookAtLinks 2 5 [(0, .ref (gAd E (44))), (1, .int (x1))] [.int ((64 : Int32)), .int (x1)] rfl ?_
    refine G.cmp_gt 71 (tbd tv_X1_lookAtLinks rfl) (by decide) (fun c5 => ?_) (fun c5 => ?_)
    · replace hr := ite_t c5 hr
      cases hr
      exact G.vret rfl ⟨rfl, C, h, hD, hA, hR, hf⟩ (tbd tv_X1_lookAtLinks rfl)
    · replace hr := ite_f c5 hr
      refine G.go tv_X1_lookAtLinks 2 10 [(0, .ref (gAd E (44))), (1, .int (x1))] [.ref (gAd E (44)), .ref (gAd E (44))] rfl ?_
      refine G.getf cls_X1 (44) 4 (by omega) (h.q44) (by decide) rfl (tbd tv_X1_lookAtLinks rfl) w_548 ?_
      refine G.go tv_X1_lookAtLinks 1 14 [(0, .ref (gAd E (44))), (1, .int (x1))] [.int (x1), .ref (gAd E (46)), .ref (gAd E (44))] rfl ?_
      obtain ⟨v63, b63, e63, hr⟩ := ld_s hr
      refine G.ialdE (46) (by omega) ((h.q46).trans (congrArg (oI (gDA E) (65)) (hD.2 46 (by decide)))) b63 e63 (tbd tv_X1_lookAtLinks rfl) ?_
      refine G.go tv_X1_lookAtLinks 1 16 [(0, .ref (gAd E (44))), (1, .int (x1))] [.ref (gAd E (44)), .int (v63), .ref (gAd E (44))] rfl ?_
      refine G.getf cls_X1 (44) 1 (by omega) (h.q44) (by decide) rfl (tbd tv_X1_lookAtLinks rfl) w_545 ?_
      refine G.go tv_X1_lookAtLinks 1 20 [(0, .ref (gAd E (44))), (1, .int (x1))] [.int (x1), .ref (gAd E (37)), .int (v63), .ref (gAd E (44))] rfl ?_
      obtain ⟨v64, hv64, hr⟩ := bnd_s hr
      refine G.callV (37) [.int (x1)] [.int (v63), .ref (gAd E (44))] (k_X7_links E _ N B gr C D A hz h hD hA x1 v64 hv64) cls_X7 (by omega) (h.q37) cw_X1_95 w_925 w_926 (Nat.le_of_ble_eq_true rfl) rfl (Nat.le_of_ble_eq_true rfl) (tbd tv_X1_lookAtLinks rfl) (fun v64w f64 q64 => ?_) (fun _ _ h => h.elim)
      obtain ⟨rfl, ha64, fa64⟩ := q64
      refine G.eqs [.int (v64), .int (v63), .ref (gAd E (44))] rfl ?_
      refine G.cmp_ne 30 (tbd tv_X1_lookAtLinks rfl) (by decide) (fun c23 => ?_) (fun c23 => ?_)
      · replace hr := ite_f c23 hr
        refine G.go tv_X1_lookAtLinks 1 31 [(0, .ref (gAd E (44))), (1, .int (x1))] [.int ((0 : Int32)), .ref (gAd E (44))] rfl ?_
        obtain ⟨D65, hv65, hr⟩ := bnd_s hr
        refine G.callV (44) [.int ((0 : Int32))] [] (k_X1_ask E _ N B gr C D A hz ha64 hD hA ((0 : Int32)) D65 hv65) cls_X1 (by omega) (ha64.q44) cw_X1_49 w_1982 w_44 (Nat.le_of_ble_eq_true rfl) rfl (Nat.le_of_ble_eq_true rfl) (tbd tv_X1_lookAtLinks rfl) (fun v65w f65 q65 => ?_) (fun _ _ h => h.elim)
        obtain ⟨rfl, C65, ha65, hD65, hA65, hR65, fa65⟩ := q65
        refine G.eqs [] rfl ?_
        refine G.less [(0, .ref (gAd E (44))), (1, .int (x1))] [0, 1] rfl ?_
        exact l_X1_lookAtLinks_34 E f0 sz QA N B gr C0 A hz _ ih _ _ _ hr _ _ ha65 hD65 hA65 (hR.tr hR65) ((hf.tr fa64 (fun _ h => h)).tr fa65 (fun _ h => h))
      · replace hr := ite_t c23 hr
        refine G.go tv_X1_lookAtLinks 2 31 [(0, .ref (gAd E (44))), (1, .int (x1))] [.int ((1 : Int32)), .ref (gAd E (44))] rfl ?_
        obtain ⟨D66, hv66, hr⟩ := bnd_s hr
        refine G.callV (44) [.int ((1 : Int32))] [] (k_X1_ask E _ N B gr C D A hz ha64 hD hA ((1 : Int32)) D66 hv66) cls_X1 (by omega) (ha64.q44) cw_X1_49 w_1982 w_44 (Nat.le_of_ble_eq_true rfl) rfl (Nat.le_of_ble_eq_true rfl) (tbd tv_X1_lookAtLinks rfl) (fun v66w f66 q66 => ?_) (fun _ _ h => h.elim)
        obtain ⟨rfl, C66, ha66, hD66, hA66, hR66, fa66⟩ := q66
        refine G.eqs [] rfl ?_
        refine G.less [(0, .ref (gAd E (44))), (1, .int (x1))] [0, 1] rfl ?_
        exact l_X1_lookAtLinks_34 E f0 sz QA N B gr C0 A hz _ ih _ _ _ hr _ _ ha66 hD66 hA66 (hR.tr hR66) ((hf.tr fa64 (fun _ h => h)).tr fa66 (fun _ h => h))
set_option maxRecDepth 100000 in
set_option maxHeartbeats 4000000 in
theorem k_X1_lookAtLinks (E : gE) (f : Nat → va_E) (N B gr : Nat) (C D : CfT) (A : MS) (hz : CfZ E N B gr) (h : CfV E f N B gr C) (hD : Dq D C) (hA : AR N B gr A C) (D9 : CfT) (hr : d_X1_lookAtLinks N (vA A) D = some D9) : Ct E 5 yX1_lookAtLinks cX1_lookAtLinks 2 none [.ref (gAd E (44))] f (fun v g => v = none ∧ ST E N B gr f C A D9 g, fun _ _ => False) := by
  obtain ⟨z1, z2, z3, z4, z5, z6, z7⟩ := id hz
  refine Ct.of (by decide) (Nat.le_of_ble_eq_true rfl) (fun sz => ?_)
  refine G.eql [(0, .ref (gAd E (44)))] rfl ?_
  unfold d_X1_lookAtLinks at hr
  refine G.go tv_X1_lookAtLinks 2 2 [(0, .ref (gAd E (44))), (1, .int ((1 : Int32)))] [] rfl ?_
  refine G.less [(0, .ref (gAd E (44))), (1, .int ((1 : Int32)))] [0, 1] rfl ?_
  exact l_X1_lookAtLinks_2 E f sz _ N B gr C A hz _ _ _ _ hr _ _ h hD hA Rq.rf Fr.rf
def tb_X1_lookAtBits : List (Nat × Instr × Nat) := [(0, .aload_n 0, 1), (1, .getfield 15, 3), (4, .bipush 43, 2), (6, .invokevirtual 85, 3), (9, .astore_n 1, 1), (10, .iconst 0, 1), (11, .istore_n 2, 1), (12, .iload_n 2, 1), (13, .sipush 1024, 3), (16, .if_icmp .ge 73, 3), (19, .iload_n 2, 1), (20, .aload_n 0, 1), (21, .getfield 27, 3), (24, .arraylength, 1), (25, .if_icmp .ge 12, 3), (28, .aload_n 0, 1), (29, .getfield 27, 3), (32, .iload_n 2, 1), (33, .iaload, 1), (34, .goto 4, 3), (37, .iconst 1, 1), (38, .istore_n 3, 1), (39, .aload_n 0, 1), (40, .iload_n 3, 1), (41, .iconst 1, 1), (42, .if_icmp .gt 7, 3), (45, .iconst 1, 1), (46, .goto 4, 3), (49, .iconst 0, 1), (50, .invokevirtual 49, 3), (53, .aload_n 0, 1), (54, .aload_n 1, 1), (55, .iload_n 2, 1), (56, .bipush 8, 2), (58, .idiv, 1), (59, .baload, 1), (60, .iload_n 2, 1), (61, .bipush 8, 2), (63, .irem, 1), (64, .ishr, 1), (65, .iconst 1, 1), (66, .iand, 1), (67, .iload_n 3, 1), (68, .iconst 1, 1), (69, .invokestatic 141, 3), (72, .if_icmp .ne 7, 3), (75, .iconst 1, 1), (76, .goto 4, 3), (79, .iconst 0, 1), (80, .invokevirtual 49, 3), (83, .iinc 2 1, 3), (86, .goto (-74), 3), (89, .aload_n 0, 1), (90, .getfield 15, 3), (93, .bipush 44, 2), (95, .invokevirtual 85, 3), (98, .astore_n 2, 1), (99, .iconst 0, 1), (100, .istore_n 3, 1), (101, .iload_n 3, 1), (102, .sipush 1024, 3), (105, .if_icmp .ge 52, 3), (108, .aload_n 0, 1), (109, .aload_n 2, 1), (110, .iload_n 3, 1), (111, .bipush 8, 2), (113, .idiv, 1), (114, .baload, 1), (115, .iload_n 3, 1), (116, .bipush 8, 2), (118, .irem, 1), (119, .ishr, 1), (120, .iconst 1, 1), (121, .iand, 1), (122, .aload_n 0, 1), (123, .getfield 19, 3), (126, .iload_n 3, 1), (127, .iconst 1, 1), (128, .iadd, 1), (129, .invokevirtual 43, 3), (132, .ifCond .ne 7, 3), (135, .iconst 0, 1), (136, .goto 4, 3), (139, .iconst 1, 1), (140, .if_icmp .ne 7, 3), (143, .iconst 1, 1), (144, .goto 4, 3), (147, .iconst 0, 1), (148, .invokevirtual 49, 3), (151, .iinc 3 1, 3), (154, .goto (-53), 3), (157, .return_, 1)]
theorem tv_X1_lookAtBits : Tv cX1_lookAtBits tb_X1_lookAtBits := by
  unfold Tv
  decide +kernel
theorem w_2027 : Cond.methodLink "LedgerFiles$Checker" 141 yJ9_min_7cf53 ∈ TB := tp_8 201 (by decide +kernel) rfl
def d_X1_lookAtBits_101 (N : Nat) (V : Nat → Rw) : Nat → CfT → (Nat → Int32) → Nat → Int32 → Option (CfT)
  | 0, _, _, _, _ => none
  | n + 1, D, ga2, na2, x3 => if ((1024 : Int32)) ≤ x3 then some D else ld ga2 na2 ((x3) / ((8 : Int32))) (fun v77 => bnd (d_X7_kind N V D ((x3) + ((1 : Int32)))) (fun v78 => if v78 = 0 then if (((v77) >>> (((x3) - (x3) / ((8 : Int32)) * ((8 : Int32))) &&& 31)) &&& ((1 : Int32))) = ((0 : Int32)) then bnd (d_X1_ask N V D ((1 : Int32))) (fun D82 => d_X1_lookAtBits_101 N V n D82 ga2 na2 (x3 + (1 : Int32))) else bnd (d_X1_ask N V D ((0 : Int32))) (fun D81 => d_X1_lookAtBits_101 N V n D81 ga2 na2 (x3 + (1 : Int32))) else if (((v77) >>> (((x3) - (x3) / ((8 : Int32)) * ((8 : Int32))) &&& 31)) &&& ((1 : Int32))) = ((1 : Int32)) then bnd (d_X1_ask N V D ((1 : Int32))) (fun D80 => d_X1_lookAtBits_101 N V n D80 ga2 na2 (x3 + (1 : Int32))) else bnd (d_X1_ask N V D ((0 : Int32))) (fun D79 => d_X1_lookAtBits_101 N V n D79 ga2 na2 (x3 + (1 : Int32)))))
def d_X1_lookAtBits_53 (N : Nat) (V : Nat → Rw) (self12 : CfT → (Nat → Int32) → Nat → Int32 → Option (CfT)) (D : CfT) (ga1 : Nat → Int32) (na1 : Nat) (x2 : Int32) (x3 : Int32) : Option (CfT) := ld ga1 na1 ((x2) / ((8 : Int32))) (fun v85 => nm (if ((1 : Int32)) < x3 then ((1 : Int32)) else x3) (fun v86 => if (((v85) >>> (((x2) - (x2) / ((8 : Int32)) * ((8 : Int32))) &&& 31)) &&& ((1 : Int32))) = v86 then bnd (d_X1_ask N V D ((1 : Int32))) (fun D88 => self12 D88 ga1 na1 (x2 + (1 : Int32))) else bnd (d_X1_ask N V D ((0 : Int32))) (fun D87 => self12 D87 ga1 na1 (x2 + (1 : Int32)))))
def d_X1_lookAtBits_39 (N : Nat) (V : Nat → Rw) (self12 : CfT → (Nat → Int32) → Nat → Int32 → Option (CfT)) (D : CfT) (ga1 : Nat → Int32) (na1 : Nat) (x2 : Int32) (x3 : Int32) : Option (CfT) := if ((1 : Int32)) < x3 then bnd (d_X1_ask N V D ((0 : Int32))) (fun D83 => d_X1_lookAtBits_53 N V self12 D83 ga1 na1 x2 x3) else bnd (d_X1_ask N V D ((1 : Int32))) (fun D84 => d_X1_lookAtBits_53 N V self12 D84 ga1 na1 x2 x3)
def d_X1_lookAtBits_12 (N : Nat) (V : Nat → Rw) : Nat → CfT → (Nat → Int32) → Nat → Int32 → Option (CfT)
  | 0, _, _, _, _ => none
  | n + 1, D, ga1, na1, x2 => if ((1024 : Int32)) ≤ x2 then seeB N V ((44 : Int32)) (fun y75 => d_X1_lookAtBits_101 N V fuL D y75 128 ((0 : Int32))) else if (nI (N)) ≤ x2 then d_X1_lookAtBits_39 N V (d_X1_lookAtBits_12 N V n) D ga1 na1 x2 ((1 : Int32)) else ld (cA D 45) N x2 (fun v76 => d_X1_lookAtBits_39 N V (d_X1_lookAtBits_12 N V n) D ga1 na1 x2 v76)
def d_X1_lookAtBits (N : Nat) (V : Nat → Rw) (D : CfT) : Option (CfT) := seeB N V ((43 : Int32)) (fun y73 => d_X1_lookAtBits_12 N V fuL D y73 128 ((0 : Int32)))
set_option maxRecDepth 100000 in
set_option maxHeartbeats 4000000 in
theorem l_X1_lookAtBits_101 (E : gE) (f0 : Nat → va_E) (sz : Nat) (QA : Nat → Prop) (N B gr : Nat) (C0 : CfT) (A : MS) (hz : CfZ E N B gr) : ∀ (n : Nat), ∀ (D : CfT) (ga2 : Nat → Int32) (na2 : Nat) (x3 : Int32) (D9 : CfT) (hr : d_X1_lookAtBits_101 N (vA A) n D ga2 na2 x3 = some D9) (f : Nat → va_E) (C : CfT) (h : CfV E f N B gr C) (hD : Dq D C) (hA : AR N B gr A C) (hR : Rq C0 C) (hf : Fr CfK f0 f) (ka2 : Nat) (wa2 : ArK N B gr C ka2 na2 ga2), G E (4, yX1_lookAtBits, 4, none, sz, QA) cX1_lookAtBits (gO E (4, yX1_lookAtBits, 4, none, sz, QA) (fun v g => v = none ∧ ST E N B gr f0 C0 A D9 g, fun _ _ => False)) 101 [(0, .ref (gAd E (44))), (2, .ref (gAd E (ka2))), (3, .int (x3))] [] f := by
  obtain ⟨z1, z2, z3, z4, z5, z6, z7⟩ := id hz
  intro n
  induction n with
  | zero =>
    intro D ga2 na2 x3 D9 hr f C h hD hA hR hf ka2 wa2
    cases hr
  | succ n ih =>
    intro D ga2 na2 x3 D9 hr f C h hD hA hR hf ka2 wa2
    unfold d_X1_lookAtBits_101 at hr
    refine G.go tv_X1_lookAtBits 2 105 [(0, .ref (gAd E (44))), (2, .ref (gAd E (ka2))), (3, .int (x3))] [.int ((1024 : Int32)), .int (x3)] rfl ?_
    refine G.cmp_ge 157 (tbd tv_X1_lookAtBits rfl) (by decide) (fun c105 => ?_) (fun c105 => ?_)
    · replace hr := ite_t c105 hr
      cases hr
      exact G.vret rfl ⟨rfl, C, h, hD, hA, hR, hf⟩ (tbd tv_X1_lookAtBits rfl)
    · replace hr := ite_f c105 hr
      refine G.go tv_X1_lookAtBits 4 113 [(0, .ref (gAd E (44))), (2, .ref (gAd E (ka2))), (3, .int (x3))] [.int ((8 : Int32)), .int (x3), .ref (gAd E (ka2)), .ref (gAd E (44))] rfl ?_
      refine G.idiv (by decide) (tbd tv_X1_lookAtBits rfl) ?_
      obtain ⟨v77, b77, e77, hr⟩ := ld_s hr
      refine G.arld hz h (wa2) b77 e77 (tbd tv_X1_lookAtBits rfl) ?_
      refine G.go tv_X1_lookAtBits 2 118 [(0, .ref (gAd E (44))), (2, .ref (gAd E (ka2))), (3, .int (x3))] [.int ((8 : Int32)), .int (x3), .int (v77), .ref (gAd E (44))] rfl ?_
      refine G.irem (by decide) (tbd tv_X1_lookAtBits rfl) ?_
      refine G.go tv_X1_lookAtBits 4 123 [(0, .ref (gAd E (44))), (2, .ref (gAd E (ka2))), (3, .int (x3))] [.ref (gAd E (44)), .int (((v77) >>> (((x3) - (x3) / ((8 : Int32)) * ((8 : Int32))) &&& 31)) &&& ((1 : Int32))), .ref (gAd E (44))] rfl ?_
      refine G.getf cls_X1 (44) 1 (by omega) (h.q44) (by decide) rfl (tbd tv_X1_lookAtBits rfl) w_545 ?_
      refine G.go tv_X1_lookAtBits 3 129 [(0, .ref (gAd E (44))), (2, .ref (gAd E (ka2))), (3, .int (x3))] [.int ((x3) + ((1 : Int32))), .ref (gAd E (37)), .int (((v77) >>> (((x3) - (x3) / ((8 : Int32)) * ((8 : Int32))) &&& 31)) &&& ((1 : Int32))), .ref (gAd E (44))] rfl ?_
      obtain ⟨v78, hv78, hr⟩ := bnd_s hr
      refine G.callV (37) [.int ((x3) + ((1 : Int32)))] [.int (((v77) >>> (((x3) - (x3) / ((8 : Int32)) * ((8 : Int32))) &&& 31)) &&& ((1 : Int32))), .ref (gAd E (44))] (k_X7_kind E _ N B gr C D A hz h hD hA ((x3) + ((1 : Int32))) v78 hv78) cls_X7 (by omega) (h.q37) cw_X1_43 w_903 w_904 (Nat.le_of_ble_eq_true rfl) rfl (Nat.le_of_ble_eq_true rfl) (tbd tv_X1_lookAtBits rfl) (fun v78w f78 q78 => ?_) (fun _ _ h => h.elim)
      obtain ⟨rfl, ha78, fa78⟩ := q78
      refine G.eqs [.int (v78), .int (((v77) >>> (((x3) - (x3) / ((8 : Int32)) * ((8 : Int32))) &&& 31)) &&& ((1 : Int32))), .ref (gAd E (44))] rfl ?_
      refine G.if_ne 139 (tbd tv_X1_lookAtBits rfl) (by decide) (fun c132 => ?_) (fun c132 => ?_)
      · replace hr := ite_f c132 hr
        refine G.go tv_X1_lookAtBits 1 140 [(0, .ref (gAd E (44))), (2, .ref (gAd E (ka2))), (3, .int (x3))] [.int ((1 : Int32)), .int (((v77) >>> (((x3) - (x3) / ((8 : Int32)) * ((8 : Int32))) &&& 31)) &&& ((1 : Int32))), .ref (gAd E (44))] rfl ?_
        refine G.cmp_ne 147 (tbd tv_X1_lookAtBits rfl) (by decide) (fun c140 => ?_) (fun c140 => ?_)
        · replace hr := ite_f c140 hr
          refine G.go tv_X1_lookAtBits 1 148 [(0, .ref (gAd E (44))), (2, .ref (gAd E (ka2))), (3, .int (x3))] [.int ((0 : Int32)), .ref (gAd E (44))] rfl ?_
          obtain ⟨D79, hv79, hr⟩ := bnd_s hr
          refine G.callV (44) [.int ((0 : Int32))] [] (k_X1_ask E _ N B gr C D A hz ha78 hD hA ((0 : Int32)) D79 hv79) cls_X1 (by omega) (ha78.q44) cw_X1_49 w_1982 w_44 (Nat.le_of_ble_eq_true rfl) rfl (Nat.le_of_ble_eq_true rfl) (tbd tv_X1_lookAtBits rfl) (fun v79w f79 q79 => ?_) (fun _ _ h => h.elim)
          obtain ⟨rfl, C79, ha79, hD79, hA79, hR79, fa79⟩ := q79
          refine G.eqs [] rfl ?_
          refine G.go tv_X1_lookAtBits 2 101 [(0, .ref (gAd E (44))), (2, .ref (gAd E (ka2))), (3, .int (x3 + (1 : Int32)))] [] rfl ?_
          refine G.less [(0, .ref (gAd E (44))), (2, .ref (gAd E (ka2))), (3, .int (x3 + (1 : Int32)))] [0, 1, 2] rfl ?_
          exact ih _ _ _ _ _ hr _ _ ha79 hD79 hA79 (hR.tr hR79) ((hf.tr fa78 (fun _ h => h)).tr fa79 (fun _ h => h)) ka2 (wa2.q (hR.sym.tr (hR.tr hR79)))
        · replace hr := ite_t c140 hr
          refine G.go tv_X1_lookAtBits 2 148 [(0, .ref (gAd E (44))), (2, .ref (gAd E (ka2))), (3, .int (x3))] [.int ((1 : Int32)), .ref (gAd E (44))] rfl ?_
          obtain ⟨D80, hv80, hr⟩ := bnd_s hr
          refine G.callV (44) [.int ((1 : Int32))] [] (k_X1_ask E _ N B gr C D A hz ha78 hD hA ((1 : Int32)) D80 hv80) cls_X1 (by omega) (ha78.q44) cw_X1_49 w_1982 w_44 (Nat.le_of_ble_eq_true rfl) rfl (Nat.le_of_ble_eq_true rfl) (tbd tv_X1_lookAtBits rfl) (fun v80w f80 q80 => ?_) (fun _ _ h => h.elim)
          obtain ⟨rfl, C80, ha80, hD80, hA80, hR80, fa80⟩ := q80
          refine G.eqs [] rfl ?_
          refine G.go tv_X1_lookAtBits 2 101 [(0, .ref (gAd E (44))), (2, .ref (gAd E (ka2))), (3, .int (x3 + (1 : Int32)))] [] rfl ?_
          refine G.less [(0, .ref (gAd E (44))), (2, .ref (gAd E (ka2))), (3, .int (x3 + (1 : Int32)))] [0, 1, 2] rfl ?_
          exact ih _ _ _ _ _ hr _ _ ha80 hD80 hA80 (hR.tr hR80) ((hf.tr fa78 (fun _ h => h)).tr fa80 (fun _ h => h)) ka2 (wa2.q (hR.sym.tr (hR.tr hR80)))
      · replace hr := ite_t c132 hr
        refine G.go tv_X1_lookAtBits 2 140 [(0, .ref (gAd E (44))), (2, .ref (gAd E (ka2))), (3, .int (x3))] [.int ((0 : Int32)), .int (((v77) >>> (((x3) - (x3) / ((8 : Int32)) * ((8 : Int32))) &&& 31)) &&& ((1 : Int32))), .ref (gAd E (44))] rfl ?_
        refine G.cmp_ne 147 (tbd tv_X1_lookAtBits rfl) (by decide) (fun c140 => ?_) (fun c140 => ?_)
        · replace hr := ite_f c140 hr
          refine G.go tv_X1_lookAtBits 1 148 [(0, .ref (gAd E (44))), (2, .ref (gAd E (ka2))), (3, .int (x3))] [.int ((0 : Int32)), .ref (gAd E (44))] rfl ?_
          obtain ⟨D81, hv81, hr⟩ := bnd_s hr
          refine G.callV (44) [.int ((0 : Int32))] [] (k_X1_ask E _ N B gr C D A hz ha78 hD hA ((0 : Int32)) D81 hv81) cls_X1 (by omega) (ha78.q44) cw_X1_49 w_1982 w_44 (Nat.le_of_ble_eq_true rfl) rfl (Nat.le_of_ble_eq_true rfl) (tbd tv_X1_lookAtBits rfl) (fun v81w f81 q81 => ?_) (fun _ _ h => h.elim)
          obtain ⟨rfl, C81, ha81, hD81, hA81, hR81, fa81⟩ := q81
          refine G.eqs [] rfl ?_
          refine G.go tv_X1_lookAtBits 2 101 [(0, .ref (gAd E (44))), (2, .ref (gAd E (ka2))), (3, .int (x3 + (1 : Int32)))] [] rfl ?_
          refine G.less [(0, .ref (gAd E (44))), (2, .ref (gAd E (ka2))), (3, .int (x3 + (1 : Int32)))] [0, 1, 2] rfl ?_
          exact ih _ _ _ _ _ hr _ _ ha81 hD81 hA81 (hR.tr hR81) ((hf.tr fa78 (fun _ h => h)).tr fa81 (fun _ h => h)) ka2 (wa2.q (hR.sym.tr (hR.tr hR81)))
        · replace hr := ite_t c140 hr
          refine G.go tv_X1_lookAtBits 2 148 [(0, .ref (gAd E (44))), (2, .ref (gAd E (ka2))), (3, .int (x3))] [.int ((1 : Int32)), .ref (gAd E (44))] rfl ?_
          obtain ⟨D82, hv82, hr⟩ := bnd_s hr
          refine G.callV (44) [.int ((1 : Int32))] [] (k_X1_ask E _ N B gr C D A hz ha78 hD hA ((1 : Int32)) D82 hv82) cls_X1 (by omega) (ha78.q44) cw_X1_49 w_1982 w_44 (Nat.le_of_ble_eq_true rfl) rfl (Nat.le_of_ble_eq_true rfl) (tbd tv_X1_lookAtBits rfl) (fun v82w f82 q82 => ?_) (fun _ _ h => h.elim)
          obtain ⟨rfl, C82, ha82, hD82, hA82, hR82, fa82⟩ := q82
          refine G.eqs [] rfl ?_
          refine G.go tv_X1_lookAtBits 2 101 [(0, .ref (gAd E (44))), (2, .ref (gAd E (ka2))), (3, .int (x3 + (1 : Int32)))] [] rfl ?_
          refine G.less [(0, .ref (gAd E (44))), (2, .ref (gAd E (ka2))), (3, .int (x3 + (1 : Int32)))] [0, 1, 2] rfl ?_
          exact ih _ _ _ _ _ hr _ _ ha82 hD82 hA82 (hR.tr hR82) ((hf.tr fa78 (fun _ h => h)).tr fa82 (fun _ h => h)) ka2 (wa2.q (hR.sym.tr (hR.tr hR82)))
set_option maxRecDepth 100000 in
set_option maxHeartbeats 4000000 in
theorem l_X1_lookAtBits_53 (E : gE) (f0 : Nat → va_E) (sz : Nat) (QA : Nat → Prop) (N B gr : Nat) (C0 : CfT) (A : MS) (hz : CfZ E N B gr) (self12 : CfT → (Nat → Int32) → Nat → Int32 → Option (CfT)) (hs12 : ∀ (D : CfT) (ga1 : Nat → Int32) (na1 : Nat) (x2 : Int32) (D9 : CfT) (hr : self12 D ga1 na1 x2 = some D9) (f : Nat → va_E) (C : CfT) (h : CfV E f N B gr C) (hD : Dq D C) (hA : AR N B gr A C) (hR : Rq C0 C) (hf : Fr CfK f0 f) (ka1 : Nat) (wa1 : ArK N B gr C ka1 na1 ga1), G E (4, yX1_lookAtBits, 4, none, sz, QA) cX1_lookAtBits (gO E (4, yX1_lookAtBits, 4, none, sz, QA) (fun v g => v = none ∧ ST E N B gr f0 C0 A D9 g, fun _ _ => False)) 12 [(0, .ref (gAd E (44))), (1, .ref (gAd E (ka1))), (2, .int (x2))] [] f) : ∀ (D : CfT) (ga1 : Nat → Int32) (na1 : Nat) (x2 : Int32) (x3 : Int32) (D9 : CfT) (hr : d_X1_lookAtBits_53 N (vA A) self12 D ga1 na1 x2 x3 = some D9) (f : Nat → va_E) (C : CfT) (h : CfV E f N B gr C) (hD : Dq D C) (hA : AR N B gr A C) (hR : Rq C0 C) (hf : Fr CfK f0 f) (ka1 : Nat) (wa1 : ArK N B gr C ka1 na1 ga1), G E (4, yX1_lookAtBits, 4, none, sz, QA) cX1_lookAtBits (gO E (4, yX1_lookAtBits, 4, none, sz, QA) (fun v g => v = none ∧ ST E N B gr f0 C0 A D9 g, fun _ _ => False)) 53 [(0, .ref (gAd E (44))), (1, .ref (gAd E (ka1))), (2, .int (x2)), (3, .int (x3))] [] f := by
  obtain ⟨z1, z2, z3, z4, z5, z6, z7⟩ := id hz
  intro D ga1 na1 x2 x3 D9 hr f C h hD hA hR hf ka1 wa1
  unfold d_X1_lookAtBits_53 at hr
  refine G.go tv_X1_lookAtBits 4 58 [(0, .ref (gAd E (44))), (1, .ref (gAd E (ka1))), (2, .int (x2)), (3, .int (x3))] [.int ((8 : Int32)), .int (x2), .ref (gAd E (ka1)), .ref (gAd E (44))] rfl ?_
  refine G.idiv (by decide) (tbd tv_X1_lookAtBits rfl) ?_
  obtain ⟨v85, b85, e85, hr⟩ := ld_s hr
  refine G.arld hz h (wa1) b85 e85 (tbd tv_X1_lookAtBits rfl) ?_
  refine G.go tv_X1_lookAtBits 2 63 [(0, .ref (gAd E (44))), (1, .ref (gAd E (ka1))), (2, .int (x2)), (3, .int (x3))] [.int ((8 : Int32)), .int (x2), .int (v85), .ref (gAd E (44))] rfl ?_
  refine G.irem (by decide) (tbd tv_X1_lookAtBits rfl) ?_
  refine G.go tv_X1_lookAtBits 5 69 [(0, .ref (gAd E (44))), (1, .ref (gAd E (ka1))), (2, .int (x2)), (3, .int (x3))] [.int ((1 : Int32)), .int (x3), .int (((v85) >>> (((x2) - (x2) / ((8 : Int32)) * ((8 : Int32))) &&& 31)) &&& ((1 : Int32))), .ref (gAd E (44))] rfl ?_
  refine G.mmin w_2027 w_214 w_150 w_215 (Nat.le_of_ble_eq_true rfl) (Nat.le_of_ble_eq_true rfl) (by show _ ≤ _; first | exact Nat.zero_le _ | exact Nat.le_of_ble_eq_true rfl) (by show _ ≤ _; first | exact Nat.zero_le _ | exact Nat.le_of_ble_eq_true rfl) (tbd tv_X1_lookAtBits rfl) ?_
  obtain ⟨v86, e86, hr⟩ := nm_s hr
  refine G.eq1 (b := v86) e86 ?_
  refine G.cmp_ne 79 (tbd tv_X1_lookAtBits rfl) (by decide) (fun c72 => ?_) (fun c72 => ?_)
  · replace hr := ite_f c72 hr
    refine G.go tv_X1_lookAtBits 1 80 [(0, .ref (gAd E (44))), (1, .ref (gAd E (ka1))), (2, .int (x2)), (3, .int (x3))] [.int ((0 : Int32)), .ref (gAd E (44))] rfl ?_
    obtain ⟨D87, hv87, hr⟩ := bnd_s hr
    refine G.callV (44) [.int ((0 : Int32))] [] (k_X1_ask E _ N B gr C D A hz h hD hA ((0 : Int32)) D87 hv87) cls_X1 (by omega) (h.q44) cw_X1_49 w_1982 w_44 (Nat.le_of_ble_eq_true rfl) rfl (Nat.le_of_ble_eq_true rfl) (tbd tv_X1_lookAtBits rfl) (fun v87w f87 q87 => ?_) (fun _ _ h => h.elim)
    obtain ⟨rfl, C87, ha87, hD87, hA87, hR87, fa87⟩ := q87
    refine G.eqs [] rfl ?_
    refine G.go tv_X1_lookAtBits 2 12 [(0, .ref (gAd E (44))), (1, .ref (gAd E (ka1))), (2, .int (x2 + (1 : Int32))), (3, .int (x3))] [] rfl ?_
    refine G.less [(0, .ref (gAd E (44))), (1, .ref (gAd E (ka1))), (2, .int (x2 + (1 : Int32)))] [0, 1, 2] rfl ?_
    exact hs12 _ _ _ _ _ hr _ _ ha87 hD87 hA87 (hR.tr hR87) (hf.tr fa87 (fun _ h => h)) ka1 (wa1.q (hR.sym.tr (hR.tr hR87)))
  · replace hr := ite_t c72 hr
    refine G.go tv_X1_lookAtBits 2 80 [(0, .ref (gAd E (44))), (1, .ref (gAd E (ka1))), (2, .int (x2)), (3, .int (x3))] [.int ((1 : Int32)), .ref (gAd E (44))] rfl ?_
    obtain ⟨D88, hv88, hr⟩ := bnd_s hr
    refine G.callV (44) [.int ((1 : Int32))] [] (k_X1_ask E _ N B gr C D A hz h hD hA ((1 : Int32)) D88 hv88) cls_X1 (by omega) (h.q44) cw_X1_49 w_1982 w_44 (Nat.le_of_ble_eq_true rfl) rfl (Nat.le_of_ble_eq_true rfl) (tbd tv_X1_lookAtBits rfl) (fun v88w f88 q88 => ?_) (fun _ _ h => h.elim)
    obtain ⟨rfl, C88, ha88, hD88, hA88, hR88, fa88⟩ := q88
    refine G.eqs [] rfl ?_
    refine G.go tv_X1_lookAtBits 2 12 [(0, .ref (gAd E (44))), (1, .ref (gAd E (ka1))), (2, .int (x2 + (1 : Int32))), (3, .int (x3))] [] rfl ?_
    refine G.less [(0, .ref (gAd E (44))), (1, .ref (gAd E (ka1))), (2, .int (x2 + (1 : Int32)))] [0, 1, 2] rfl ?_
    exact hs12 _ _ _ _ _ hr _ _ ha88 hD88 hA88 (hR.tr hR88) (hf.tr fa88 (fun _ h => h)) ka1 (wa1.q (hR.sym.tr (hR.tr hR88)))
set_option maxRecDepth 100000 in
set_option maxHeartbeats 4000000 in
theorem l_X1_lookAtBits_39 (E : gE) (f0 : Nat → va_E) (sz : Nat) (QA : Nat → Prop) (N B gr : Nat) (C0 : CfT) (A : MS) (hz : CfZ E N B gr) (self12 : CfT → (Nat → Int32) → Nat → Int32 → Option (CfT)) (hs12 : ∀ (D : CfT) (ga1 : Nat → Int32) (na1 : Nat) (x2 : Int32) (D9 : CfT) (hr : self12 D ga1 na1 x2 = some D9) (f : Nat → va_E) (C : CfT) (h : CfV E f N B gr C) (hD : Dq D C) (hA : AR N B gr A C) (hR : Rq C0 C) (hf : Fr CfK f0 f) (ka1 : Nat) (wa1 : ArK N B gr C ka1 na1 ga1), G E (4, yX1_lookAtBits, 4, none, sz, QA) cX1_lookAtBits (gO E (4, yX1_lookAtBits, 4, none, sz, QA) (fun v g => v = none ∧ ST E N B gr f0 C0 A D9 g, fun _ _ => False)) 12 [(0, .ref (gAd E (44))), (1, .ref (gAd E (ka1))), (2, .int (x2))] [] f) : ∀ (D : CfT) (ga1 : Nat → Int32) (na1 : Nat) (x2 : Int32) (x3 : Int32) (D9 : CfT) (hr : d_X1_lookAtBits_39 N (vA A) self12 D ga1 na1 x2 x3 = some D9) (f : Nat → va_E) (C : CfT) (h : CfV E f N B gr C) (hD : Dq D C) (hA : AR N B gr A C) (hR : Rq C0 C) (hf : Fr CfK f0 f) (ka1 : Nat) (wa1 : ArK N B gr C ka1 na1 ga1), G E (4, yX1_lookAtBits, 4, none, sz, QA) cX1_lookAtBits (gO E (4, yX1_lookAtBits, 4, none, sz, QA) (fun v g => v = none ∧ ST E N B gr f0 C0 A D9 g, fun _ _ => False)) 39 [(0, .ref (gAd E (44))), (1, .ref (gAd E (ka1))), (2, .int (x2)), (3, .int (x3))] [] f := by
  obtain ⟨z1, z2, z3, z4, z5, z6, z7⟩ := id hz
  intro D ga1 na1 x2 x3 D9 hr f C h hD hA hR hf ka1 wa1
  unfold d_X1_lookAtBits_39 at hr
  refine G.go tv_X1_lookAtBits 3 42 [(0, .ref (gAd E (44))), (1, .ref (gAd E (ka1))), (2, .int (x2)), (3, .int (x3))] [.int ((1 : Int32)), .int (x3), .ref (gAd E (44))] rfl ?_
  refine G.cmp_gt 49 (tbd tv_X1_lookAtBits rfl) (by decide) (fun c42 => ?_) (fun c42 => ?_)
  · replace hr := ite_t c42 hr
    refine G.go tv_X1_lookAtBits 1 50 [(0, .ref (gAd E (44))), (1, .ref (gAd E (ka1))), (2, .int (x2)), (3, .int (x3))] [.int ((0 : Int32)), .ref (gAd E (44))] rfl ?_
    obtain ⟨D83, hv83, hr⟩ := bnd_s hr
    refine G.callV (44) [.int ((0 : Int32))] [] (k_X1_ask E _ N B gr C D A hz h hD hA ((0 : Int32)) D83 hv83) cls_X1 (by omega) (h.q44) cw_X1_49 w_1982 w_44 (Nat.le_of_ble_eq_true rfl) rfl (Nat.le_of_ble_eq_true rfl) (tbd tv_X1_lookAtBits rfl) (fun v83w f83 q83 => ?_) (fun _ _ h => h.elim)
    obtain ⟨rfl, C83, ha83, hD83, hA83, hR83, fa83⟩ := q83
    refine G.eqs [] rfl ?_
    refine G.less [(0, .ref (gAd E (44))), (1, .ref (gAd E (ka1))), (2, .int (x2)), (3, .int (x3))] [0, 1, 2, 3] rfl ?_
    exact l_X1_lookAtBits_53 E f0 sz QA N B gr C0 A hz _ hs12 _ _ _ _ _ _ hr _ _ ha83 hD83 hA83 (hR.tr hR83) (hf.tr fa83 (fun _ h => h)) ka1 (wa1.q (hR.sym.tr (hR.tr hR83)))
  · replace hr := ite_f c42 hr
    refine G.go tv_X1_lookAtBits 2 50 [(0, .ref (gAd E (44))), (1, .ref (gAd E (ka1))), (2, .int (x2)), (3, .int (x3))] [.int ((1 : Int32)), .ref (gAd E (44))] rfl ?_
    obtain ⟨D84, hv84, hr⟩ := bnd_s hr
    refine G.callV (44) [.int ((1 : Int32))] [] (k_X1_ask E _ N B gr C D A hz h hD hA ((1 : Int32)) D84 hv84) cls_X1 (by omega) (h.q44) cw_X1_49 w_1982 w_44 (Nat.le_of_ble_eq_true rfl) rfl (Nat.le_of_ble_eq_true rfl) (tbd tv_X1_lookAtBits rfl) (fun v84w f84 q84 => ?_) (fun _ _ h => h.elim)
    obtain ⟨rfl, C84, ha84, hD84, hA84, hR84, fa84⟩ := q84
    refine G.eqs [] rfl ?_
    refine G.less [(0, .ref (gAd E (44))), (1, .ref (gAd E (ka1))), (2, .int (x2)), (3, .int (x3))] [0, 1, 2, 3] rfl ?_
    exact l_X1_lookAtBits_53 E f0 sz QA N B gr C0 A hz _ hs12 _ _ _ _ _ _ hr _ _ ha84 hD84 hA84 (hR.tr hR84) (hf.tr fa84 (fun _ h => h)) ka1 (wa1.q (hR.sym.tr (hR.tr hR84)))
set_option maxRecDepth 100000 in
set_option maxHeartbeats 4000000 in
theorem l_X1_lookAtBits_12 (E : gE) (f0 : Nat → va_E) (sz : Nat) (QA : Nat → Prop) (N B gr : Nat) (C0 : CfT) (A : MS) (hz : CfZ E N B gr) : ∀ (n : Nat), ∀ (D : CfT) (ga1 : Nat → Int32) (na1 : Nat) (x2 : Int32) (D9 : CfT) (hr : d_X1_lookAtBits_12 N (vA A) n D ga1 na1 x2 = some D9) (f : Nat → va_E) (C : CfT) (h : CfV E f N B gr C) (hD : Dq D C) (hA : AR N B gr A C) (hR : Rq C0 C) (hf : Fr CfK f0 f) (ka1 : Nat) (wa1 : ArK N B gr C ka1 na1 ga1), G E (4, yX1_lookAtBits, 4, none, sz, QA) cX1_lookAtBits (gO E (4, yX1_lookAtBits, 4, none, sz, QA) (fun v g => v = none ∧ ST E N B gr f0 C0 A D9 g, fun _ _ => False)) 12 [(0, .ref (gAd E (44))), (1, .ref (gAd E (ka1))), (2, .int (x2))] [] f := by
  obtain ⟨z1, z2, z3, z4, z5, z6, z7⟩ := id hz
  intro n
  induction n with
  | zero =>
    intro D ga1 na1 x2 D9 hr f C h hD hA hR hf ka1 wa1
    cases hr
  | succ n ih =>
    intro D ga1 na1 x2 D9 hr f C h hD hA hR hf ka1 wa1
    unfold d_X1_lookAtBits_12 at hr
    refine G.go tv_X1_lookAtBits 2 16 [(0, .ref (gAd E (44))), (1, .ref (gAd E (ka1))), (2, .int (x2))] [.int ((1024 : Int32)), .int (x2)] rfl ?_
    refine G.cmp_ge 89 (tbd tv_X1_lookAtBits rfl) (by decide) (fun c16 => ?_) (fun c16 => ?_)
    · replace hr := ite_t c16 hr
      refine G.go tv_X1_lookAtBits 1 90 [(0, .ref (gAd E (44))), (1, .ref (gAd E (ka1))), (2, .int (x2))] [.ref (gAd E (44))] rfl ?_
      refine G.getf cls_X1 (44) 0 (by omega) (h.q44) (by decide) rfl (tbd tv_X1_lookAtBits rfl) w_544 ?_
      refine G.go tv_X1_lookAtBits 1 95 [(0, .ref (gAd E (44))), (1, .ref (gAd E (ka1))), (2, .int (x2))] [.int ((44 : Int32)), .ref (gAd E (25))] rfl ?_
      obtain ⟨y75, b75, e75, hr⟩ := seeB_s hr
      refine G.callV (25) [.int ((44 : Int32))] [] (k_see E _ N B gr C A hz h hA _ b75 _ e75) cls_X10 (by omega) (h.q25) cw_X1_85 w_910 w_911 (Nat.le_of_ble_eq_true rfl) rfl (Nat.le_of_ble_eq_true rfl) (tbd tv_X1_lookAtBits rfl) (fun v75w f75 q75 => ?_) (fun _ _ h => h.elim)
      obtain ⟨⟨k75, rfl, w75⟩, ha75, fa75⟩ := q75
      refine G.eqs [.ref (gAd E (k75))] rfl ?_
      refine G.go tv_X1_lookAtBits 3 101 [(0, .ref (gAd E (44))), (1, .ref (gAd E (ka1))), (2, .ref (gAd E (k75))), (3, .int ((0 : Int32)))] [] rfl ?_
      refine G.less [(0, .ref (gAd E (44))), (2, .ref (gAd E (k75))), (3, .int ((0 : Int32)))] [0, 2, 3] rfl ?_
      exact l_X1_lookAtBits_101 E f0 sz QA N B gr C0 A hz _ _ _ _ _ _ hr _ _ ha75 hD hA hR (hf.tr fa75 (fun _ h => h)) k75 w75
    · replace hr := ite_f c16 hr
      refine G.go tv_X1_lookAtBits 2 21 [(0, .ref (gAd E (44))), (1, .ref (gAd E (ka1))), (2, .int (x2))] [.ref (gAd E (44)), .int (x2)] rfl ?_
      refine G.getf cls_X1 (44) 3 (by omega) (h.q44) (by decide) rfl (tbd tv_X1_lookAtBits rfl) w_547 ?_
      refine G.alen (45) 1 (by omega) (h.q45) rfl rfl (tbd tv_X1_lookAtBits rfl) ?_
      refine G.eqs [.int (nI (N)), .int (x2)] rfl ?_
      refine G.cmp_ge 37 (tbd tv_X1_lookAtBits rfl) (by decide) (fun c25 => ?_) (fun c25 => ?_)
      · replace hr := ite_t c25 hr
        refine G.go tv_X1_lookAtBits 2 39 [(0, .ref (gAd E (44))), (1, .ref (gAd E (ka1))), (2, .int (x2)), (3, .int ((1 : Int32)))] [] rfl ?_
        refine G.less [(0, .ref (gAd E (44))), (1, .ref (gAd E (ka1))), (2, .int (x2)), (3, .int ((1 : Int32)))] [0, 1, 2, 3] rfl ?_
        exact l_X1_lookAtBits_39 E f0 sz QA N B gr C0 A hz _ ih _ _ _ _ _ _ hr _ _ h hD hA hR hf ka1 wa1
      · replace hr := ite_f c25 hr
        refine G.go tv_X1_lookAtBits 1 29 [(0, .ref (gAd E (44))), (1, .ref (gAd E (ka1))), (2, .int (x2))] [.ref (gAd E (44))] rfl ?_
        refine G.getf cls_X1 (44) 3 (by omega) (h.q44) (by decide) rfl (tbd tv_X1_lookAtBits rfl) w_547 ?_
        refine G.go tv_X1_lookAtBits 1 33 [(0, .ref (gAd E (44))), (1, .ref (gAd E (ka1))), (2, .int (x2))] [.int (x2), .ref (gAd E (45))] rfl ?_
        obtain ⟨v76, b76, e76, hr⟩ := ld_s hr
        refine G.ialdE (45) (by omega) ((h.q45).trans (congrArg (oI (gDA E) (N)) (hD.2 45 (by decide)))) b76 e76 (tbd tv_X1_lookAtBits rfl) ?_
        refine G.go tv_X1_lookAtBits 2 39 [(0, .ref (gAd E (44))), (1, .ref (gAd E (ka1))), (2, .int (x2)), (3, .int (v76))] [] rfl ?_
        refine G.less [(0, .ref (gAd E (44))), (1, .ref (gAd E (ka1))), (2, .int (x2)), (3, .int (v76))] [0, 1, 2, 3] rfl ?_
        exact l_X1_lookAtBits_39 E f0 sz QA N B gr C0 A hz _ ih _ _ _ _ _ _ hr _ _ h hD hA hR hf ka1 wa1
set_option maxRecDepth 100000 in
set_option maxHeartbeats 4000000 in
theorem k_X1_lookAtBits (E : gE) (f : Nat → va_E) (N B gr : Nat) (C D : CfT) (A : MS) (hz : CfZ E N B gr) (h : CfV E f N B gr C) (hD : Dq D C) (hA : AR N B gr A C) (D9 : CfT) (hr : d_X1_lookAtBits N (vA A) D = some D9) : Ct E 4 yX1_lookAtBits cX1_lookAtBits 4 none [.ref (gAd E (44))] f (fun v g => v = none ∧ ST E N B gr f C A D9 g, fun _ _ => False) := by
  obtain ⟨z1, z2, z3, z4, z5, z6, z7⟩ := id hz
  refine Ct.of (by decide) (Nat.le_of_ble_eq_true rfl) (fun sz => ?_)
  refine G.eql [(0, .ref (gAd E (44)))] rfl ?_
  unfold d_X1_lookAtBits at hr
  refine G.go tv_X1_lookAtBits 1 1 [(0, .ref (gAd E (44)))] [.ref (gAd E (44))] rfl ?_
  refine G.getf cls_X1 (44) 0 (by omega) (h.q44) (by decide) rfl (tbd tv_X1_lookAtBits rfl) w_544 ?_
  refine G.go tv_X1_lookAtBits 1 6 [(0, .ref (gAd E (44)))] [.int ((43 : Int32)), .ref (gAd E (25))] rfl ?_
  obtain ⟨y73, b73, e73, hr⟩ := seeB_s hr
  refine G.callV (25) [.int ((43 : Int32))] [] (k_see E _ N B gr C A hz h hA _ b73 _ e73) cls_X10 (by omega) (h.q25) cw_X1_85 w_910 w_911 (Nat.le_of_ble_eq_true rfl) rfl (Nat.le_of_ble_eq_true rfl) (tbd tv_X1_lookAtBits rfl) (fun v73w f73 q73 => ?_) (fun _ _ h => h.elim)
  obtain ⟨⟨k73, rfl, w73⟩, ha73, fa73⟩ := q73
  refine G.eqs [.ref (gAd E (k73))] rfl ?_
  refine G.go tv_X1_lookAtBits 3 12 [(0, .ref (gAd E (44))), (1, .ref (gAd E (k73))), (2, .int ((0 : Int32)))] [] rfl ?_
  refine G.less [(0, .ref (gAd E (44))), (1, .ref (gAd E (k73))), (2, .int ((0 : Int32)))] [0, 1, 2] rfl ?_
  exact l_X1_lookAtBits_12 E f sz _ N B gr C A hz _ _ _ _ _ _ hr _ _ ha73 hD hA Rq.rf (Fr.rf.tr fa73 (fun _ h => h)) k73 w73
