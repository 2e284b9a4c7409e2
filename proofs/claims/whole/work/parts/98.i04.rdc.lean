def tb_X4_slots : List (Nat × Instr × Nat) := [(0, .aload_n 0, 1), (1, .getfield 15, 3), (4, .iload_n 1, 1), (5, .invokevirtual 23, 3), (8, .bipush 16, 2), (10, .idiv, 1), (11, .ireturn, 1)]
theorem tv_X4_slots : Tv cX4_slots tb_X4_slots := by
  unfold Tv
  decide +kernel
theorem w_1368 : Cond.methodLink "LedgerFiles$Folders" 23 yX7_size ∈ TB := tp_6 22 (by decide +kernel) rfl
theorem cw_X4_23 : Cw RX4 23 yX7_size cX7_size 2 (some .int) 1 := ⟨w_1368, w_943, w_157, by decide +kernel, by decide +kernel, by decide⟩
def d_X4_slots (N : Nat) (V : Nat → Rw) (D : CfT) (a0 : Int32) : Option (Int32) := bnd (d_X7_size N V D a0) (fun v1 => some ((v1) / ((16 : Int32))))
set_option maxRecDepth 100000 in
set_option maxHeartbeats 4000000 in
theorem k_X4_slots (E : gE) (f : Nat → va_E) (N B gr : Nat) (C D : CfT) (A : MS) (hz : CfZ E N B gr) (h : CfV E f N B gr C) (hD : Dq D C) (hA : AR N B gr A C) (a0 : Int32) (r : Int32) (hr : d_X4_slots N (vA A) D a0 = some r) : Ct E 4 yX4_slots cX4_slots 2 (some .int) [.ref (gAd E (40)), .int (a0)] f (fun v g => v = some (.int r) ∧ CfV E g N B gr C ∧ Fr CfK f g, fun _ _ => False) := by
  obtain ⟨z1, z2, z3, z4, z5, z6, z7⟩ := id hz
  refine Ct.of (by decide) (Nat.le_of_ble_eq_true rfl) (fun sz => ?_)
  refine G.eql [(0, .ref (gAd E (40))), (1, .int (a0))] rfl ?_
  unfold d_X4_slots at hr
  refine G.go tv_X4_slots 1 1 [(0, .ref (gAd E (40))), (1, .int (a0))] [.ref (gAd E (40))] rfl ?_
  refine G.getf cls_X4 (40) 1 (by omega) (h.q40) (by decide) rfl (tbd tv_X4_slots rfl) w_510 ?_
  refine G.go tv_X4_slots 1 5 [(0, .ref (gAd E (40))), (1, .int (a0))] [.int (a0), .ref (gAd E (37))] rfl ?_
  obtain ⟨v1, hv1, hr⟩ := bnd_s hr
  refine G.callV (37) [.int (a0)] [] (k_X7_size E _ N B gr C D A hz h hD hA a0 v1 hv1) cls_X7 (by omega) (h.q37) cw_X4_23 w_941 w_942 (Nat.le_of_ble_eq_true rfl) rfl (Nat.le_of_ble_eq_true rfl) (tbd tv_X4_slots rfl) (fun v1w f1 q1 => ?_) (fun _ _ h => h.elim)
  obtain ⟨rfl, ha1, fa1⟩ := q1
  refine G.eqs [.int (v1)] rfl ?_
  refine G.go tv_X4_slots 1 10 [(0, .ref (gAd E (40))), (1, .int (a0))] [.int ((16 : Int32)), .int (v1)] rfl ?_
  refine G.idiv (by decide) (tbd tv_X4_slots rfl) ?_
  cases hr
  exact G.iret rfl rfl ⟨rfl, ha1, (Fr.rf.tr fa1 (fun _ h => h))⟩ (tbd tv_X4_slots rfl)
def tb_X4_rowOf : List (Nat × Instr × Nat) := [(0, .aload_n 0, 1), (1, .getfield 9, 3), (4, .aload_n 0, 1), (5, .getfield 15, 3), (8, .iload_n 1, 1), (9, .iload_n 2, 1), (10, .bipush 8, 2), (12, .idiv, 1), (13, .iconst 0, 1), (14, .invokevirtual 29, 3), (17, .invokevirtual 33, 3), (20, .areturn, 1)]
theorem tv_X4_rowOf : Tv cX4_rowOf tb_X4_rowOf := by
  unfold Tv
  decide +kernel
theorem w_1369 : Cond.methodLink "LedgerFiles$Folders" 29 yX7_reach ∈ TB := tp_6 23 (by decide +kernel) rfl
theorem cw_X4_29 : Cw RX4 29 yX7_reach cX7_reach 8 (some .int) 3 := ⟨w_1369, w_956, w_157, by decide +kernel, by decide +kernel, by decide⟩
theorem w_1370 : Cond.methodLink "LedgerFiles$Folders" 33 yX10_see ∈ TB := tp_6 24 (by decide +kernel) rfl
theorem cw_X4_33 : Cw RX4 33 yX10_see cX10_see 2 (some (.array .byte)) 1 := ⟨w_1370, w_912, w_155, by decide +kernel, by decide +kernel, by decide⟩
def d_X4_rowOf (N : Nat) (V : Nat → Rw) (D : CfT) (a0 : Int32) (a1 : Int32) : Option (Rw) := bnd (d_X7_reach N V D a0 ((a1) / ((8 : Int32))) ((0 : Int32))) (fun v2 => seeB N V v2 (fun y4 => some y4))
set_option maxRecDepth 100000 in
set_option maxHeartbeats 4000000 in
theorem k_X4_rowOf (E : gE) (f : Nat → va_E) (N B gr : Nat) (C D : CfT) (A : MS) (hz : CfZ E N B gr) (h : CfV E f N B gr C) (hD : Dq D C) (hA : AR N B gr A C) (a0 : Int32) (a1 : Int32) (r : Rw) (hr : d_X4_rowOf N (vA A) D a0 a1 = some r) : Ct E 4 yX4_rowOf cX4_rowOf 3 (some (.array .byte)) [.ref (gAd E (40)), .int (a0), .int (a1)] f (fun v g => (∃ k, v = some (.ref (gAd E k)) ∧ ArK N B gr C k 128 r) ∧ CfV E g N B gr C ∧ Fr CfK f g, fun _ _ => False) := by
  obtain ⟨z1, z2, z3, z4, z5, z6, z7⟩ := id hz
  refine Ct.of (by decide) (Nat.le_of_ble_eq_true rfl) (fun sz => ?_)
  refine G.eql [(0, .ref (gAd E (40))), (1, .int (a0)), (2, .int (a1))] rfl ?_
  unfold d_X4_rowOf at hr
  refine G.go tv_X4_rowOf 1 1 [(0, .ref (gAd E (40))), (1, .int (a0)), (2, .int (a1))] [.ref (gAd E (40))] rfl ?_
  refine G.getf cls_X4 (40) 0 (by omega) (h.q40) (by decide) rfl (tbd tv_X4_rowOf rfl) w_509 ?_
  refine G.go tv_X4_rowOf 1 5 [(0, .ref (gAd E (40))), (1, .int (a0)), (2, .int (a1))] [.ref (gAd E (40)), .ref (gAd E (25))] rfl ?_
  refine G.getf cls_X4 (40) 1 (by omega) (h.q40) (by decide) rfl (tbd tv_X4_rowOf rfl) w_510 ?_
  refine G.go tv_X4_rowOf 3 12 [(0, .ref (gAd E (40))), (1, .int (a0)), (2, .int (a1))] [.int ((8 : Int32)), .int (a1), .int (a0), .ref (gAd E (37)), .ref (gAd E (25))] rfl ?_
  refine G.idiv (by decide) (tbd tv_X4_rowOf rfl) ?_
  refine G.go tv_X4_rowOf 1 14 [(0, .ref (gAd E (40))), (1, .int (a0)), (2, .int (a1))] [.int ((0 : Int32)), .int ((a1) / ((8 : Int32))), .int (a0), .ref (gAd E (37)), .ref (gAd E (25))] rfl ?_
  obtain ⟨v2, hv2, hr⟩ := bnd_s hr
  refine G.callV (37) [.int (a0), .int ((a1) / ((8 : Int32))), .int ((0 : Int32))] [.ref (gAd E (25))] (k_X7_reach E _ N B gr C D A hz h hD hA a0 ((a1) / ((8 : Int32))) ((0 : Int32)) v2 hv2) cls_X7 (by omega) (h.q37) cw_X4_29 w_954 w_955 (Nat.le_of_ble_eq_true rfl) rfl (Nat.le_of_ble_eq_true rfl) (tbd tv_X4_rowOf rfl) (fun v2w f2 q2 => ?_) (fun _ _ h => h.elim)
  obtain ⟨rfl, ha2, fa2⟩ := q2
  refine G.eqs [.int (v2), .ref (gAd E (25))] rfl ?_
  obtain ⟨y4, b4, e4, hr⟩ := seeB_s hr
  refine G.callV (25) [.int (v2)] [] (k_see E _ N B gr C A hz ha2 hA _ b4 _ e4) cls_X10 (by omega) (ha2.q25) cw_X4_33 w_910 w_911 (Nat.le_of_ble_eq_true rfl) rfl (Nat.le_of_ble_eq_true rfl) (tbd tv_X4_rowOf rfl) (fun v4w f4 q4 => ?_) (fun _ _ h => h.elim)
  obtain ⟨⟨k4, rfl, w4⟩, ha4, fa4⟩ := q4
  refine G.eqs [.ref (gAd E (k4))] rfl ?_
  cases hr
  exact G.aret rfl ⟨⟨_, rfl, w4⟩, ha4, ((Fr.rf.tr fa2 (fun _ h => h)).tr fa4 (fun _ h => h))⟩ (tbd tv_X4_rowOf rfl)
def tb_X4_startOf : List (Nat × Instr × Nat) := [(0, .iload_n 0, 1), (1, .bipush 8, 2), (3, .irem, 1), (4, .bipush 16, 2), (6, .imul, 1), (7, .ireturn, 1)]
theorem tv_X4_startOf : Tv cX4_startOf tb_X4_startOf := by
  unfold Tv
  decide +kernel
def d_X4_startOf (N : Nat) (V : Nat → Rw) (D : CfT) (a0 : Int32) : Option (Int32) := some (((a0) - (a0) / ((8 : Int32)) * ((8 : Int32))) * ((16 : Int32)))
set_option maxRecDepth 100000 in
set_option maxHeartbeats 4000000 in
theorem k_X4_startOf (E : gE) (f : Nat → va_E) (N B gr : Nat) (C D : CfT) (A : MS) (hz : CfZ E N B gr) (h : CfV E f N B gr C) (hD : Dq D C) (hA : AR N B gr A C) (a0 : Int32) (r : Int32) (hr : d_X4_startOf N (vA A) D a0 = some r) : Ct E 1 yX4_startOf cX4_startOf 1 (some .int) [.int (a0)] f (fun v g => v = some (.int r) ∧ CfV E g N B gr C ∧ Fr CfK f g, fun _ _ => False) := by
  obtain ⟨z1, z2, z3, z4, z5, z6, z7⟩ := id hz
  refine Ct.of (by decide) (Nat.le_of_ble_eq_true rfl) (fun sz => ?_)
  refine G.eql [(0, .int (a0))] rfl ?_
  unfold d_X4_startOf at hr
  refine G.go tv_X4_startOf 2 3 [(0, .int (a0))] [.int ((8 : Int32)), .int (a0)] rfl ?_
  refine G.irem (by decide) (tbd tv_X4_startOf rfl) ?_
  refine G.go tv_X4_startOf 2 7 [(0, .int (a0))] [.int (((a0) - (a0) / ((8 : Int32)) * ((8 : Int32))) * ((16 : Int32)))] rfl ?_
  cases hr
  exact G.iret rfl rfl ⟨rfl, h, Fr.rf⟩ (tbd tv_X4_startOf rfl)
def tb_X4_inodeAt : List (Nat × Instr × Nat) := [(0, .aload_n 0, 1), (1, .iload_n 1, 1), (2, .iload_n 2, 1), (3, .invokevirtual 42, 3), (6, .iload_n 2, 1), (7, .invokestatic 46, 3), (10, .invokestatic 49, 3), (13, .ireturn, 1)]
theorem tv_X4_inodeAt : Tv cX4_inodeAt tb_X4_inodeAt := by
  unfold Tv
  decide +kernel
theorem w_1383 : Cond.methodLink "LedgerFiles$Folders" 42 yX4_rowOf ∈ TB := tp_6 37 (by decide +kernel) rfl
theorem w_1386 : Cond.code yX4_rowOf prog_6_method_3_code 3 (some (.array .byte)) ∈ TB := tp_6 40 rfl rfl
theorem cw_X4_42 : Cw RX4 42 yX4_rowOf cX4_rowOf 3 (some (.array .byte)) 2 := ⟨w_1383, w_1386, w_158, by decide +kernel, by decide +kernel, by decide⟩
theorem w_1385 : Cond.instanceMethod yX4_rowOf ∈ TB := tp_6 39 (by decide +kernel) rfl
theorem w_31 : Cond.selects "LedgerFiles$Folders" yX4_rowOf yX4_rowOf ∈ TB := tp_0 31 (by decide +kernel) rfl
theorem w_1371 : Cond.methodLink "LedgerFiles$Folders" 46 yX4_startOf ∈ TB := tp_6 25 (by decide +kernel) rfl
theorem w_1373 : Cond.code yX4_startOf prog_6_method_5_code 1 (some .int) ∈ TB := tp_6 27 rfl rfl
theorem cw_X4_46 : Cw RX4 46 yX4_startOf cX4_startOf 1 (some .int) 1 := ⟨w_1371, w_1373, w_158, by decide +kernel, by decide +kernel, by decide⟩
theorem w_1372 : Cond.static yX4_startOf ∈ TB := tp_6 26 (by decide +kernel) rfl
theorem w_1378 : Cond.methodLink "LedgerFiles$Folders" 49 yX2_two ∈ TB := tp_6 32 (by decide +kernel) rfl
theorem cw_X4_49 : Cw RX4 49 yX2_two cX2_two 2 (some .int) 2 := ⟨w_1378, w_879, w_149, by decide +kernel, by decide +kernel, by decide⟩
def d_X4_inodeAt (N : Nat) (V : Nat → Rw) (D : CfT) (a0 : Int32) (a1 : Int32) : Option (Int32) := bnd (d_X4_rowOf N V D a0 a1) (fun y5 => bnd (d_X4_startOf N V D a1) (fun v6 => bnd (d_X2_two N V D y5 128 v6) (fun v7 => some v7)))
set_option maxRecDepth 100000 in
set_option maxHeartbeats 4000000 in
theorem k_X4_inodeAt (E : gE) (f : Nat → va_E) (N B gr : Nat) (C D : CfT) (A : MS) (hz : CfZ E N B gr) (h : CfV E f N B gr C) (hD : Dq D C) (hA : AR N B gr A C) (a0 : Int32) (a1 : Int32) (r : Int32) (hr : d_X4_inodeAt N (vA A) D a0 a1 = some r) : Ct E 5 yX4_inodeAt cX4_inodeAt 3 (some .int) [.ref (gAd E (40)), .int (a0), .int (a1)] f (fun v g => v = some (.int r) ∧ CfV E g N B gr C ∧ Fr CfK f g, fun _ _ => False) := by
  obtain ⟨z1, z2, z3, z4, z5, z6, z7⟩ := id hz
  refine Ct.of (by decide) (Nat.le_of_ble_eq_true rfl) (fun sz => ?_)
  refine G.eql [(0, .ref (gAd E (40))), (1, .int (a0)), (2, .int (a1))] rfl ?_
  unfold d_X4_inodeAt at hr
  refine G.go tv_X4_inodeAt 3 3 [(0, .ref (gAd E (40))), (1, .int (a0)), (2, .int (a1))] [.int (a1), .int (a0), .ref (gAd E (40))] rfl ?_
  obtain ⟨y5, hv5, hr⟩ := bnd_s hr
  refine G.callV (40) [.int (a0), .int (a1)] [] (k_X4_rowOf E _ N B gr C D A hz h hD hA a0 a1 y5 hv5) cls_X4 (by omega) (h.q40) cw_X4_42 w_1385 w_31 (Nat.le_of_ble_eq_true rfl) rfl (Nat.le_of_ble_eq_true rfl) (tbd tv_X4_inodeAt rfl) (fun v5w f5 q5 => ?_) (fun _ _ h => h.elim)
  obtain ⟨⟨k5, rfl, w5⟩, ha5, fa5⟩ := q5
  refine G.eqs [.ref (gAd E (k5))] rfl ?_
  refine G.go tv_X4_inodeAt 1 7 [(0, .ref (gAd E (40))), (1, .int (a0)), (2, .int (a1))] [.int (a1), .ref (gAd E (k5))] rfl ?_
  obtain ⟨v6, hv6, hr⟩ := bnd_s hr
  refine G.callS [.int (a1)] [.ref (gAd E (k5))] (k_X4_startOf E _ N B gr C D A hz ha5 hD hA a1 v6 hv6) cw_X4_46 w_1372 (Nat.le_of_ble_eq_true rfl) rfl (Nat.le_of_ble_eq_true rfl) (tbd tv_X4_inodeAt rfl) (fun v6w f6 q6 => ?_) (fun _ _ h => h.elim)
  obtain ⟨rfl, ha6, fa6⟩ := q6
  refine G.eqs [.int (v6), .ref (gAd E (k5))] rfl ?_
  obtain ⟨v7, hv7, hr⟩ := bnd_s hr
  refine G.callS [.ref (gAd E (k5)), .int (v6)] [] (k_X2_two E _ N B gr C D A hz ha6 hD hA k5 128 y5 (w5) v6 v7 hv7) cw_X4_49 w_878 (Nat.le_of_ble_eq_true rfl) rfl (Nat.le_of_ble_eq_true rfl) (tbd tv_X4_inodeAt rfl) (fun v7w f7 q7 => ?_) (fun _ _ h => h.elim)
  obtain ⟨rfl, ha7, fa7⟩ := q7
  refine G.eqs [.int (v7)] rfl ?_
  cases hr
  exact G.iret rfl rfl ⟨rfl, ha7, (((Fr.rf.tr fa5 (fun _ h => h)).tr fa6 (fun _ h => h)).tr fa7 (fun _ h => h))⟩ (tbd tv_X4_inodeAt rfl)
def tb_X4_letterAt : List (Nat × Instr × Nat) := [(0, .aload_n 0, 1), (1, .iload_n 1, 1), (2, .iload_n 2, 1), (3, .invokevirtual 42, 3), (6, .astore 4, 2), (8, .iload_n 2, 1), (9, .invokestatic 46, 3), (12, .istore 5, 2), (14, .iload_n 3, 1), (15, .aload 4, 2), (17, .iload 5, 2), (19, .iconst 2, 1), (20, .iadd, 1), (21, .baload, 1), (22, .if_icmp .ge 25, 3), (25, .iload_n 3, 1), (26, .bipush 13, 2), (28, .if_icmp .ge 19, 3), (31, .aload 4, 2), (33, .iload 5, 2), (35, .iconst 3, 1), (36, .iadd, 1), (37, .iload_n 3, 1), (38, .iadd, 1), (39, .baload, 1), (40, .sipush 255, 3), (43, .iand, 1), (44, .goto 4, 3), (47, .iconst (-1), 1), (48, .ireturn, 1)]
theorem tv_X4_letterAt : Tv cX4_letterAt tb_X4_letterAt := by
  unfold Tv
  decide +kernel
def d_X4_letterAt (N : Nat) (V : Nat → Rw) (D : CfT) (a0 : Int32) (a1 : Int32) (a2 : Int32) : Option (Int32) := bnd (d_X4_rowOf N V D a0 a1) (fun y8 => bnd (d_X4_startOf N V D a1) (fun v9 => ld y8 128 ((v9) + ((2 : Int32))) (fun v10 => if v10 ≤ a2 then some ((-1 : Int32)) else if ((13 : Int32)) ≤ a2 then some ((-1 : Int32)) else ld y8 128 (((v9) + ((3 : Int32))) + (a2)) (fun v11 => some ((v11) &&& ((255 : Int32)))))))
set_option maxRecDepth 100000 in
set_option maxHeartbeats 4000000 in
theorem k_X4_letterAt (E : gE) (f : Nat → va_E) (N B gr : Nat) (C D : CfT) (A : MS) (hz : CfZ E N B gr) (h : CfV E f N B gr C) (hD : Dq D C) (hA : AR N B gr A C) (a0 : Int32) (a1 : Int32) (a2 : Int32) (r : Int32) (hr : d_X4_letterAt N (vA A) D a0 a1 a2 = some r) : Ct E 5 yX4_letterAt cX4_letterAt 6 (some .int) [.ref (gAd E (40)), .int (a0), .int (a1), .int (a2)] f (fun v g => v = some (.int r) ∧ CfV E g N B gr C ∧ Fr CfK f g, fun _ _ => False) := by
  obtain ⟨z1, z2, z3, z4, z5, z6, z7⟩ := id hz
  refine Ct.of (by decide) (Nat.le_of_ble_eq_true rfl) (fun sz => ?_)
  refine G.eql [(0, .ref (gAd E (40))), (1, .int (a0)), (2, .int (a1)), (3, .int (a2))] rfl ?_
  unfold d_X4_letterAt at hr
  refine G.go tv_X4_letterAt 3 3 [(0, .ref (gAd E (40))), (1, .int (a0)), (2, .int (a1)), (3, .int (a2))] [.int (a1), .int (a0), .ref (gAd E (40))] rfl ?_
  obtain ⟨y8, hv8, hr⟩ := bnd_s hr
  refine G.callV (40) [.int (a0), .int (a1)] [] (k_X4_rowOf E _ N B gr C D A hz h hD hA a0 a1 y8 hv8) cls_X4 (by omega) (h.q40) cw_X4_42 w_1385 w_31 (Nat.le_of_ble_eq_true rfl) rfl (Nat.le_of_ble_eq_true rfl) (tbd tv_X4_letterAt rfl) (fun v8w f8 q8 => ?_) (fun _ _ h => h.elim)
  obtain ⟨⟨k8, rfl, w8⟩, ha8, fa8⟩ := q8
  refine G.eqs [.ref (gAd E (k8))] rfl ?_
  refine G.go tv_X4_letterAt 2 9 [(0, .ref (gAd E (40))), (1, .int (a0)), (2, .int (a1)), (3, .int (a2)), (4, .ref (gAd E (k8)))] [.int (a1)] rfl ?_
  obtain ⟨v9, hv9, hr⟩ := bnd_s hr
  refine G.callS [.int (a1)] [] (k_X4_startOf E _ N B gr C D A hz ha8 hD hA a1 v9 hv9) cw_X4_46 w_1372 (Nat.le_of_ble_eq_true rfl) rfl (Nat.le_of_ble_eq_true rfl) (tbd tv_X4_letterAt rfl) (fun v9w f9 q9 => ?_) (fun _ _ h => h.elim)
  obtain ⟨rfl, ha9, fa9⟩ := q9
  refine G.eqs [.int (v9)] rfl ?_
  refine G.go tv_X4_letterAt 6 21 [(0, .ref (gAd E (40))), (1, .int (a0)), (2, .int (a1)), (3, .int (a2)), (4, .ref (gAd E (k8))), (5, .int (v9))] [.int ((v9) + ((2 : Int32))), .ref (gAd E (k8)), .int (a2)] rfl ?_
  obtain ⟨v10, b10, e10, hr⟩ := ld_s hr
  refine G.arld hz ha9 (w8) b10 e10 (tbd tv_X4_letterAt rfl) ?_
  refine G.cmp_ge 47 (tbd tv_X4_letterAt rfl) (by decide) (fun c22 => ?_) (fun c22 => ?_)
  · replace hr := ite_t c22 hr
    refine G.go tv_X4_letterAt 1 48 [(0, .ref (gAd E (40))), (1, .int (a0)), (2, .int (a1)), (3, .int (a2)), (4, .ref (gAd E (k8))), (5, .int (v9))] [.int ((-1 : Int32))] rfl ?_
    cases hr
    exact G.iret rfl rfl ⟨rfl, ha9, ((Fr.rf.tr fa8 (fun _ h => h)).tr fa9 (fun _ h => h))⟩ (tbd tv_X4_letterAt rfl)
  · replace hr := ite_f c22 hr
    refine G.go tv_X4_letterAt 2 28 [(0, .ref (gAd E (40))), (1, .int (a0)), (2, .int (a1)), (3, .int (a2)), (4, .ref (gAd E (k8))), (5, .int (v9))] [.int ((13 : Int32)), .int (a2)] rfl ?_
    refine G.cmp_ge 47 (tbd tv_X4_letterAt rfl) (by decide) (fun c28 => ?_) (fun c28 => ?_)
    · replace hr := ite_t c28 hr
      refine G.go tv_X4_letterAt 1 48 [(0, .ref (gAd E (40))), (1, .int (a0)), (2, .int (a1)), (3, .int (a2)), (4, .ref (gAd E (k8))), (5, .int (v9))] [.int ((-1 : Int32))] rfl ?_
      cases hr
      exact G.iret rfl rfl ⟨rfl, ha9, ((Fr.rf.tr fa8 (fun _ h => h)).tr fa9 (fun _ h => h))⟩ (tbd tv_X4_letterAt rfl)
    · replace hr := ite_f c28 hr
      refine G.go tv_X4_letterAt 6 39 [(0, .ref (gAd E (40))), (1, .int (a0)), (2, .int (a1)), (3, .int (a2)), (4, .ref (gAd E (k8))), (5, .int (v9))] [.int (((v9) + ((3 : Int32))) + (a2)), .ref (gAd E (k8))] rfl ?_
      obtain ⟨v11, b11, e11, hr⟩ := ld_s hr
      refine G.arld hz ha9 (w8) b11 e11 (tbd tv_X4_letterAt rfl) ?_
      refine G.go tv_X4_letterAt 3 48 [(0, .ref (gAd E (40))), (1, .int (a0)), (2, .int (a1)), (3, .int (a2)), (4, .ref (gAd E (k8))), (5, .int (v9))] [.int ((v11) &&& ((255 : Int32)))] rfl ?_
      cases hr
      exact G.iret rfl rfl ⟨rfl, ha9, ((Fr.rf.tr fa8 (fun _ h => h)).tr fa9 (fun _ h => h))⟩ (tbd tv_X4_letterAt rfl)
def tb_X4_hashName : List (Nat × Instr × Nat) := [(0, .aload_n 0, 1), (1, .iload_n 3, 1), (2, .iload 4, 2), (4, .invokevirtual 42, 3), (7, .astore 5, 2), (9, .iload 4, 2), (11, .invokestatic 46, 3), (14, .istore 6, 2), (16, .iconst 0, 1), (17, .istore 7, 2), (19, .iload 7, 2), (21, .aload 5, 2), (23, .iload 6, 2), (25, .iconst 2, 1), (26, .iadd, 1), (27, .baload, 1), (28, .if_icmp .ge 38, 3), (31, .iload 7, 2), (33, .bipush 13, 2), (35, .if_icmp .ge 31, 3), (38, .lload_n 1, 1), (39, .ldc2_w 57, 3), (42, .lmul, 1), (43, .aload 5, 2), (45, .iload 6, 2), (47, .iconst 3, 1), (48, .iadd, 1), (49, .iload 7, 2), (51, .iadd, 1), (52, .baload, 1), (53, .sipush 255, 3), (56, .iand, 1), (57, .i2l, 1), (58, .ladd, 1), (59, .lstore_n 1, 1), (60, .iinc 7 1, 3), (63, .goto (-44), 3), (66, .lload_n 1, 1), (67, .lreturn, 1)]
theorem tv_X4_hashName : Tv cX4_hashName tb_X4_hashName := by
  unfold Tv
  decide +kernel
theorem w_1954 : Cond.constantLong "LedgerFiles$Folders" 57 (31 : Int64) ∈ TB := tp_8 128 (by decide +kernel) rfl
def d_X4_hashName_19 (N : Nat) (V : Nat → Rw) (D : CfT) : Nat → Int64 → (Nat → Int32) → Nat → Int32 → Int32 → Option (Int64)
  | 0, _, _, _, _, _ => none
  | n + 1, x1, ga5, na5, x6, x7 => ld ga5 na5 ((x6) + ((2 : Int32))) (fun v14 => if v14 ≤ x7 then some x1 else if ((13 : Int32)) ≤ x7 then some x1 else ld ga5 na5 (((x6) + ((3 : Int32))) + (x7)) (fun v15 => d_X4_hashName_19 N V D n (((x1) * ((31 : Int64))) + (((v15) &&& ((255 : Int32)) : Int32).toInt64)) ga5 na5 x6 (x7 + (1 : Int32))))
def d_X4_hashName (N : Nat) (V : Nat → Rw) (D : CfT) (a0 : Int64) (a1 : Int32) (a2 : Int32) : Option (Int64) := bnd (d_X4_rowOf N V D a1 a2) (fun y12 => bnd (d_X4_startOf N V D a2) (fun v13 => d_X4_hashName_19 N V D fuL a0 y12 128 v13 ((0 : Int32))))
set_option maxRecDepth 100000 in
set_option maxHeartbeats 4000000 in
theorem l_X4_hashName_19 (E : gE) (f0 : Nat → va_E) (sz : Nat) (QA : Nat → Prop) (N B gr : Nat) (C D : CfT) (A : MS) (hz : CfZ E N B gr) (hD : Dq D C) (hA : AR N B gr A C) : ∀ (n : Nat), ∀ (x1 : Int64) (ga5 : Nat → Int32) (na5 : Nat) (x6 : Int32) (x7 : Int32) (r : Int64) (hr : d_X4_hashName_19 N (vA A) D n x1 ga5 na5 x6 x7 = some r) (f : Nat → va_E) (h : CfV E f N B gr C) (hf : Fr CfK f0 f) (ka5 : Nat) (wa5 : ArK N B gr C ka5 na5 ga5), G E (5, yX4_hashName, 8, (some .long), sz, QA) cX4_hashName (gO E (5, yX4_hashName, 8, (some .long), sz, QA) (fun v g => v = some (.long r) ∧ CfV E g N B gr C ∧ Fr CfK f0 g, fun _ _ => False)) 19 [(1, .long (x1)), (5, .ref (gAd E (ka5))), (6, .int (x6)), (7, .int (x7))] [] f := by
  obtain ⟨z1, z2, z3, z4, z5, z6, z7⟩ := id hz
  intro n
  induction n with
  | zero =>
    intro x1 ga5 na5 x6 x7 r hr f h hf ka5 wa5
    cases hr
  | succ n ih =>
    intro x1 ga5 na5 x6 x7 r hr f h hf ka5 wa5
    unfold d_X4_hashName_19 at hr
    refine G.go tv_X4_hashName 5 27 [(1, .long (x1)), (5, .ref (gAd E (ka5))), (6, .int (x6)), (7, .int (x7))] [.int ((x6) + ((2 : Int32))), .ref (gAd E (ka5)), .int (x7)] rfl ?_
    obtain ⟨v14, b14, e14, hr⟩ := ld_s hr
    refine G.arld hz h (wa5) b14 e14 (tbd tv_X4_hashName rfl) ?_
    refine G.cmp_ge 66 (tbd tv_X4_hashName rfl) (by decide) (fun c28 => ?_) (fun c28 => ?_)
    · replace hr := ite_t c28 hr
      refine G.go tv_X4_hashName 1 67 [(1, .long (x1)), (5, .ref (gAd E (ka5))), (6, .int (x6)), (7, .int (x7))] [.long (x1)] rfl ?_
      cases hr
      exact G.lret rfl ⟨rfl, h, hf⟩ (tbd tv_X4_hashName rfl)
    · replace hr := ite_f c28 hr
      refine G.go tv_X4_hashName 2 35 [(1, .long (x1)), (5, .ref (gAd E (ka5))), (6, .int (x6)), (7, .int (x7))] [.int ((13 : Int32)), .int (x7)] rfl ?_
      refine G.cmp_ge 66 (tbd tv_X4_hashName rfl) (by decide) (fun c35 => ?_) (fun c35 => ?_)
      · replace hr := ite_t c35 hr
        refine G.go tv_X4_hashName 1 67 [(1, .long (x1)), (5, .ref (gAd E (ka5))), (6, .int (x6)), (7, .int (x7))] [.long (x1)] rfl ?_
        cases hr
        exact G.lret rfl ⟨rfl, h, hf⟩ (tbd tv_X4_hashName rfl)
      · replace hr := ite_f c35 hr
        refine G.go tv_X4_hashName 1 39 [(1, .long (x1)), (5, .ref (gAd E (ka5))), (6, .int (x6)), (7, .int (x7))] [.long (x1)] rfl ?_
        refine G.ldc2 (31) (tbd tv_X4_hashName rfl) w_1954 ?_
        refine G.go tv_X4_hashName 7 52 [(1, .long (x1)), (5, .ref (gAd E (ka5))), (6, .int (x6)), (7, .int (x7))] [.int (((x6) + ((3 : Int32))) + (x7)), .ref (gAd E (ka5)), .long ((x1) * ((31 : Int64)))] rfl ?_
        obtain ⟨v15, b15, e15, hr⟩ := ld_s hr
        refine G.arld hz h (wa5) b15 e15 (tbd tv_X4_hashName rfl) ?_
        refine G.go tv_X4_hashName 7 19 [(1, .long (((x1) * ((31 : Int64))) + (((v15) &&& ((255 : Int32)) : Int32).toInt64))), (5, .ref (gAd E (ka5))), (6, .int (x6)), (7, .int (x7 + (1 : Int32)))] [] rfl ?_
        refine G.less [(1, .long (((x1) * ((31 : Int64))) + (((v15) &&& ((255 : Int32)) : Int32).toInt64))), (5, .ref (gAd E (ka5))), (6, .int (x6)), (7, .int (x7 + (1 : Int32)))] [0, 1, 2, 3] rfl ?_
        exact ih _ _ _ _ _ _ hr _ h hf ka5 wa5
set_option maxRecDepth 100000 in
set_option maxHeartbeats 4000000 in
theorem k_X4_hashName (E : gE) (f : Nat → va_E) (N B gr : Nat) (C D : CfT) (A : MS) (hz : CfZ E N B gr) (h : CfV E f N B gr C) (hD : Dq D C) (hA : AR N B gr A C) (a0 : Int64) (a1 : Int32) (a2 : Int32) (r : Int64) (hr : d_X4_hashName N (vA A) D a0 a1 a2 = some r) : Ct E 5 yX4_hashName cX4_hashName 8 (some .long) [.ref (gAd E (40)), .long (a0), .int (a1), .int (a2)] f (fun v g => v = some (.long r) ∧ CfV E g N B gr C ∧ Fr CfK f g, fun _ _ => False) := by
  obtain ⟨z1, z2, z3, z4, z5, z6, z7⟩ := id hz
  refine Ct.of (by decide) (Nat.le_of_ble_eq_true rfl) (fun sz => ?_)
  refine G.eql [(0, .ref (gAd E (40))), (1, .long (a0)), (3, .int (a1)), (4, .int (a2))] rfl ?_
  unfold d_X4_hashName at hr
  refine G.go tv_X4_hashName 3 4 [(0, .ref (gAd E (40))), (1, .long (a0)), (3, .int (a1)), (4, .int (a2))] [.int (a2), .int (a1), .ref (gAd E (40))] rfl ?_
  obtain ⟨y12, hv12, hr⟩ := bnd_s hr
  refine G.callV (40) [.int (a1), .int (a2)] [] (k_X4_rowOf E _ N B gr C D A hz h hD hA a1 a2 y12 hv12) cls_X4 (by omega) (h.q40) cw_X4_42 w_1385 w_31 (Nat.le_of_ble_eq_true rfl) rfl (Nat.le_of_ble_eq_true rfl) (tbd tv_X4_hashName rfl) (fun v12w f12 q12 => ?_) (fun _ _ h => h.elim)
  obtain ⟨⟨k12, rfl, w12⟩, ha12, fa12⟩ := q12
  refine G.eqs [.ref (gAd E (k12))] rfl ?_
  refine G.go tv_X4_hashName 2 11 [(0, .ref (gAd E (40))), (1, .long (a0)), (3, .int (a1)), (4, .int (a2)), (5, .ref (gAd E (k12)))] [.int (a2)] rfl ?_
  obtain ⟨v13, hv13, hr⟩ := bnd_s hr
  refine G.callS [.int (a2)] [] (k_X4_startOf E _ N B gr C D A hz ha12 hD hA a2 v13 hv13) cw_X4_46 w_1372 (Nat.le_of_ble_eq_true rfl) rfl (Nat.le_of_ble_eq_true rfl) (tbd tv_X4_hashName rfl) (fun v13w f13 q13 => ?_) (fun _ _ h => h.elim)
  obtain ⟨rfl, ha13, fa13⟩ := q13
  refine G.eqs [.int (v13)] rfl ?_
  refine G.go tv_X4_hashName 3 19 [(0, .ref (gAd E (40))), (1, .long (a0)), (3, .int (a1)), (4, .int (a2)), (5, .ref (gAd E (k12))), (6, .int (v13)), (7, .int ((0 : Int32)))] [] rfl ?_
  refine G.less [(1, .long (a0)), (5, .ref (gAd E (k12))), (6, .int (v13)), (7, .int ((0 : Int32)))] [1, 4, 5, 6] rfl ?_
  exact l_X4_hashName_19 E f sz _ N B gr C D A hz hD hA _ _ _ _ _ _ _ hr _ ha13 ((Fr.rf.tr fa12 (fun _ h => h)).tr fa13 (fun _ h => h)) k12 w12
def tb_X4_slotOfName : List (Nat × Instr × Nat) := [(0, .aload_n 0, 1), (1, .getfield 15, 3), (4, .iload_n 1, 1), (5, .invokevirtual 59, 3), (8, .iconst 2, 1), (9, .if_icmp .ne 7, 3), (12, .iload_n 2, 1), (13, .ifCond .ge 5, 3), (16, .iconst (-1), 1), (17, .ireturn, 1), (18, .iload_n 2, 1), (19, .istore_n 3, 1), (20, .aload_n 0, 1), (21, .iload_n 1, 1), (22, .invokevirtual 62, 3), (25, .istore 4, 2), (27, .iconst 0, 1), (28, .istore 5, 2), (30, .iload 5, 2), (32, .iload 4, 2), (34, .if_icmp .ge 29, 3), (37, .aload_n 0, 1), (38, .iload_n 1, 1), (39, .iload 5, 2), (41, .invokevirtual 65, 3), (44, .ifCond .eq 13, 3), (47, .iload_n 3, 1), (48, .ifCond .ne 6, 3), (51, .iload 5, 2), (53, .ireturn, 1), (54, .iinc 3 (-1), 3), (57, .iinc 5 1, 3), (60, .goto (-30), 3), (63, .iconst (-1), 1), (64, .ireturn, 1)]
theorem tv_X4_slotOfName : Tv cX4_slotOfName tb_X4_slotOfName := by
  unfold Tv
  decide +kernel
theorem w_1359 : Cond.methodLink "LedgerFiles$Folders" 59 yX7_kind ∈ TB := tp_6 13 (by decide +kernel) rfl
theorem cw_X4_59 : Cw RX4 59 yX7_kind cX7_kind 2 (some .int) 1 := ⟨w_1359, w_905, w_157, by decide +kernel, by decide +kernel, by decide⟩
theorem w_1364 : Cond.methodLink "LedgerFiles$Folders" 62 yX4_slots ∈ TB := tp_6 18 (by decide +kernel) rfl
theorem w_1367 : Cond.code yX4_slots prog_6_method_2_code 2 (some .int) ∈ TB := tp_6 21 rfl rfl
theorem cw_X4_62 : Cw RX4 62 yX4_slots cX4_slots 2 (some .int) 1 := ⟨w_1364, w_1367, w_158, by decide +kernel, by decide +kernel, by decide⟩
theorem w_1365 : Cond.instanceMethod yX4_slots ∈ TB := tp_6 19 (by decide +kernel) rfl
theorem w_1366 : Cond.selects "LedgerFiles$Folders" yX4_slots yX4_slots ∈ TB := tp_6 20 (by decide +kernel) rfl
theorem w_1379 : Cond.methodLink "LedgerFiles$Folders" 65 yX4_inodeAt ∈ TB := tp_6 33 (by decide +kernel) rfl
theorem w_1382 : Cond.code yX4_inodeAt prog_6_method_6_code 3 (some .int) ∈ TB := tp_6 36 rfl rfl
theorem cw_X4_65 : Cw RX4 65 yX4_inodeAt cX4_inodeAt 3 (some .int) 2 := ⟨w_1379, w_1382, w_158, by decide +kernel, by decide +kernel, by decide⟩
theorem w_1380 : Cond.instanceMethod yX4_inodeAt ∈ TB := tp_6 34 (by decide +kernel) rfl
theorem w_1381 : Cond.selects "LedgerFiles$Folders" yX4_inodeAt yX4_inodeAt ∈ TB := tp_6 35 (by decide +kernel) rfl
def d_X4_slotOfName_30 (N : Nat) (V : Nat → Rw) (D : CfT) : Nat → Int32 → Int32 → Int32 → Int32 → Option (Int32)
  | 0, _, _, _, _ => none
  | n + 1, x1, x3, x4, x5 => if x4 ≤ x5 then some ((-1 : Int32)) else bnd (d_X4_inodeAt N V D x1 x5) (fun v18 => if v18 = 0 then d_X4_slotOfName_30 N V D n x1 x3 x4 (x5 + (1 : Int32)) else if x3 = 0 then some x5 else d_X4_slotOfName_30 N V D n x1 (x3 + (-1 : Int32)) x4 (x5 + (1 : Int32)))
def d_X4_slotOfName (N : Nat) (V : Nat → Rw) (D : CfT) (a0 : Int32) (a1 : Int32) : Option (Int32) := bnd (d_X7_kind N V D a0) (fun v16 => if v16 = ((2 : Int32)) then if 0 ≤ a1 then bnd (d_X4_slots N V D a0) (fun v17 => d_X4_slotOfName_30 N V D fuL a0 a1 v17 ((0 : Int32))) else some ((-1 : Int32)) else some ((-1 : Int32)))
set_option maxRecDepth 100000 in
set_option maxHeartbeats 4000000 in
theorem l_X4_slotOfName_30 (E : gE) (f0 : Nat → va_E) (sz : Nat) (QA : Nat → Prop) (N B gr : Nat) (C D : CfT) (A : MS) (hz : CfZ E N B gr) (hD : Dq D C) (hA : AR N B gr A C) : ∀ (n : Nat), ∀ (x1 : Int32) (x3 : Int32) (x4 : Int32) (x5 : Int32) (r : Int32) (hr : d_X4_slotOfName_30 N (vA A) D n x1 x3 x4 x5 = some r) (f : Nat → va_E) (h : CfV E f N B gr C) (hf : Fr CfK f0 f), G E (6, yX4_slotOfName, 6, (some .int), sz, QA) cX4_slotOfName (gO E (6, yX4_slotOfName, 6, (some .int), sz, QA) (fun v g => v = some (.int r) ∧ CfV E g N B gr C ∧ Fr CfK f0 g, fun _ _ => False)) 30 [(0, .ref (gAd E (40))), (1, .int (x1)), (3, .int (x3)), (4, .int (x4)), (5, .int (x5))] [] f := by
  obtain ⟨z1, z2, z3, z4, z5, z6, z7⟩ := id hz
  intro n
  induction n with
  | zero =>
    intro x1 x3 x4 x5 r hr f h hf
    cases hr
  | succ n ih =>
    intro x1 x3 x4 x5 r hr f h hf
    unfold d_X4_slotOfName_30 at hr
    refine G.go tv_X4_slotOfName 2 34 [(0, .ref (gAd E (40))), (1, .int (x1)), (3, .int (x3)), (4, .int (x4)), (5, .int (x5))] [.int (x4), .int (x5)] rfl ?_
    refine G.cmp_ge 63 (tbd tv_X4_slotOfName rfl) (by decide) (fun c34 => ?_) (fun c34 => ?_)
    · replace hr := ite_t c34 hr
      refine G.go tv_X4_slotOfName 1 64 [(0, .ref (gAd E (40))), (1, .int (x1)), (3, .int (x3)), (4, .int (x4)), (5, .int (x5))] [.int ((-1 : Int32))] rfl ?_
      cases hr
      exact G.iret rfl rfl ⟨rfl, h, hf⟩ (tbd tv_X4_slotOfName rfl)
    · replace hr := ite_f c34 hr
      refine G.go tv_X4_slotOfName 3 41 [(0, .ref (gAd E (40))), (1, .int (x1)), (3, .int (x3)), (4, .int (x4)), (5, .int (x5))] [.int (x5), .int (x1), .ref (gAd E (40))] rfl ?_
      obtain ⟨v18, hv18, hr⟩ := bnd_s hr
      refine G.callV (40) [.int (x1), .int (x5)] [] (k_X4_inodeAt E _ N B gr C D A hz h hD hA x1 x5 v18 hv18) cls_X4 (by omega) (h.q40) cw_X4_65 w_1380 w_1381 (Nat.le_of_ble_eq_true rfl) rfl (Nat.le_of_ble_eq_true rfl) (tbd tv_X4_slotOfName rfl) (fun v18w f18 q18 => ?_) (fun _ _ h => h.elim)
      obtain ⟨rfl, ha18, fa18⟩ := q18
      refine G.eqs [.int (v18)] rfl ?_
      refine G.if_eq 57 (tbd tv_X4_slotOfName rfl) (by decide) (fun c44 => ?_) (fun c44 => ?_)
      · replace hr := ite_t c44 hr
        refine G.go tv_X4_slotOfName 2 30 [(0, .ref (gAd E (40))), (1, .int (x1)), (3, .int (x3)), (4, .int (x4)), (5, .int (x5 + (1 : Int32)))] [] rfl ?_
        refine G.less [(0, .ref (gAd E (40))), (1, .int (x1)), (3, .int (x3)), (4, .int (x4)), (5, .int (x5 + (1 : Int32)))] [0, 1, 2, 3, 4] rfl ?_
        exact ih _ _ _ _ _ hr _ ha18 (hf.tr fa18 (fun _ h => h))
      · replace hr := ite_f c44 hr
        refine G.go tv_X4_slotOfName 1 48 [(0, .ref (gAd E (40))), (1, .int (x1)), (3, .int (x3)), (4, .int (x4)), (5, .int (x5))] [.int (x3)] rfl ?_
        refine G.if_ne 54 (tbd tv_X4_slotOfName rfl) (by decide) (fun c48 => ?_) (fun c48 => ?_)
        · replace hr := ite_f c48 hr
          refine G.go tv_X4_slotOfName 3 30 [(0, .ref (gAd E (40))), (1, .int (x1)), (3, .int (x3 + (-1 : Int32))), (4, .int (x4)), (5, .int (x5 + (1 : Int32)))] [] rfl ?_
          refine G.less [(0, .ref (gAd E (40))), (1, .int (x1)), (3, .int (x3 + (-1 : Int32))), (4, .int (x4)), (5, .int (x5 + (1 : Int32)))] [0, 1, 2, 3, 4] rfl ?_
          exact ih _ _ _ _ _ hr _ ha18 (hf.tr fa18 (fun _ h => h))
        · replace hr := ite_t c48 hr
          refine G.go tv_X4_slotOfName 1 53 [(0, .ref (gAd E (40))), (1, .int (x1)), (3, .int (x3)), (4, .int (x4)), (5, .int (x5))] [.int (x5)] rfl ?_
          cases hr
          exact G.iret rfl rfl ⟨rfl, ha18, (hf.tr fa18 (fun _ h => h))⟩ (tbd tv_X4_slotOfName rfl)
set_option maxRecDepth 100000 in
set_option maxHeartbeats 4000000 in
theorem k_X4_slotOfName (E : gE) (f : Nat → va_E) (N B gr : Nat) (C D : CfT) (A : MS) (hz : CfZ E N B gr) (h : CfV E f N B gr C) (hD : Dq D C) (hA : AR N B gr A C) (a0 : Int32) (a1 : Int32) (r : Int32) (hr : d_X4_slotOfName N (vA A) D a0 a1 = some r) : Ct E 6 yX4_slotOfName cX4_slotOfName 6 (some .int) [.ref (gAd E (40)), .int (a0), .int (a1)] f (fun v g => v = some (.int r) ∧ CfV E g N B gr C ∧ Fr CfK f g, fun _ _ => False) := by
  obtain ⟨z1, z2, z3, z4, z5, z6, z7⟩ := id hz
  refine Ct.of (by decide) (Nat.le_of_ble_eq_true rfl) (fun sz => ?_)
  refine G.eql [(0, .ref (gAd E (40))), (1, .int (a0)), (2, .int (a1))] rfl ?_
  unfold d_X4_slotOfName at hr
  refine G.go tv_X4_slotOfName 1 1 [(0, .ref (gAd E (40))), (1, .int (a0)), (2, .int (a1))] [.ref (gAd E (40))] rfl ?_
  refine G.getf cls_X4 (40) 1 (by omega) (h.q40) (by decide) rfl (tbd tv_X4_slotOfName rfl) w_510 ?_
  refine G.go tv_X4_slotOfName 1 5 [(0, .ref (gAd E (40))), (1, .int (a0)), (2, .int (a1))] [.int (a0), .ref (gAd E (37))] rfl ?_
  obtain ⟨v16, hv16, hr⟩ := bnd_s hr
  refine G.callV (37) [.int (a0)] [] (k_X7_kind E _ N B gr C D A hz h hD hA a0 v16 hv16) cls_X7 (by omega) (h.q37) cw_X4_59 w_903 w_904 (Nat.le_of_ble_eq_true rfl) rfl (Nat.le_of_ble_eq_true rfl) (tbd tv_X4_slotOfName rfl) (fun v16w f16 q16 => ?_) (fun _ _ h => h.elim)
  obtain ⟨rfl, ha16, fa16⟩ := q16
  refine G.eqs [.int (v16)] rfl ?_
  refine G.go tv_X4_slotOfName 1 9 [(0, .ref (gAd E (40))), (1, .int (a0)), (2, .int (a1))] [.int ((2 : Int32)), .int (v16)] rfl ?_
  refine G.cmp_ne 16 (tbd tv_X4_slotOfName rfl) (by decide) (fun c9 => ?_) (fun c9 => ?_)
  · replace hr := ite_f c9 hr
    refine G.go tv_X4_slotOfName 1 17 [(0, .ref (gAd E (40))), (1, .int (a0)), (2, .int (a1))] [.int ((-1 : Int32))] rfl ?_
    cases hr
    exact G.iret rfl rfl ⟨rfl, ha16, (Fr.rf.tr fa16 (fun _ h => h))⟩ (tbd tv_X4_slotOfName rfl)
  · replace hr := ite_t c9 hr
    refine G.go tv_X4_slotOfName 1 13 [(0, .ref (gAd E (40))), (1, .int (a0)), (2, .int (a1))] [.int (a1)] rfl ?_
    refine G.if_ge 18 (tbd tv_X4_slotOfName rfl) (by decide) (fun c13 => ?_) (fun c13 => ?_)
    · replace hr := ite_t c13 hr
      refine G.go tv_X4_slotOfName 4 22 [(0, .ref (gAd E (40))), (1, .int (a0)), (2, .int (a1)), (3, .int (a1))] [.int (a0), .ref (gAd E (40))] rfl ?_
      obtain ⟨v17, hv17, hr⟩ := bnd_s hr
      refine G.callV (40) [.int (a0)] [] (k_X4_slots E _ N B gr C D A hz ha16 hD hA a0 v17 hv17) cls_X4 (by omega) (ha16.q40) cw_X4_62 w_1365 w_1366 (Nat.le_of_ble_eq_true rfl) rfl (Nat.le_of_ble_eq_true rfl) (tbd tv_X4_slotOfName rfl) (fun v17w f17 q17 => ?_) (fun _ _ h => h.elim)
      obtain ⟨rfl, ha17, fa17⟩ := q17
      refine G.eqs [.int (v17)] rfl ?_
      refine G.go tv_X4_slotOfName 3 30 [(0, .ref (gAd E (40))), (1, .int (a0)), (2, .int (a1)), (3, .int (a1)), (4, .int (v17)), (5, .int ((0 : Int32)))] [] rfl ?_
      refine G.less [(0, .ref (gAd E (40))), (1, .int (a0)), (3, .int (a1)), (4, .int (v17)), (5, .int ((0 : Int32)))] [0, 1, 3, 4, 5] rfl ?_
      exact l_X4_slotOfName_30 E f sz _ N B gr C D A hz hD hA _ _ _ _ _ _ hr _ ha17 ((Fr.rf.tr fa16 (fun _ h => h)).tr fa17 (fun _ h => h))
    · replace hr := ite_f c13 hr
      refine G.go tv_X4_slotOfName 1 17 [(0, .ref (gAd E (40))), (1, .int (a0)), (2, .int (a1))] [.int ((-1 : Int32))] rfl ?_
      cases hr
      exact G.iret rfl rfl ⟨rfl, ha16, (Fr.rf.tr fa16 (fun _ h => h))⟩ (tbd tv_X4_slotOfName rfl)
def tb_X4_names : List (Nat × Instr × Nat) := [(0, .iconst 0, 1), (1, .istore_n 2, 1), (2, .aload_n 0, 1), (3, .getfield 15, 3), (6, .iload_n 1, 1), (7, .invokevirtual 59, 3), (10, .iconst 2, 1), (11, .if_icmp .ne 11, 3), (14, .aload_n 0, 1), (15, .iload_n 1, 1), (16, .invokevirtual 62, 3), (19, .goto 4, 3), (22, .iconst 0, 1), (23, .istore_n 3, 1), (24, .iconst 0, 1), (25, .istore 4, 2), (27, .iload 4, 2), (29, .iload_n 3, 1), (30, .if_icmp .ge 22, 3), (33, .aload_n 0, 1), (34, .iload_n 1, 1), (35, .iload 4, 2), (37, .invokevirtual 65, 3), (40, .ifCond .eq 6, 3), (43, .iinc 2 1, 3), (46, .iinc 4 1, 3), (49, .goto (-22), 3), (52, .iload_n 2, 1), (53, .ireturn, 1)]
theorem tv_X4_names : Tv cX4_names tb_X4_names := by
  unfold Tv
  decide +kernel
def d_X4_names_27 (N : Nat) (V : Nat → Rw) (D : CfT) : Nat → Int32 → Int32 → Int32 → Int32 → Option (Int32)
  | 0, _, _, _, _ => none
  | n + 1, x1, x2, x3, x4 => if x3 ≤ x4 then some x2 else bnd (d_X4_inodeAt N V D x1 x4) (fun v21 => if v21 = 0 then d_X4_names_27 N V D n x1 x2 x3 (x4 + (1 : Int32)) else d_X4_names_27 N V D n x1 (x2 + (1 : Int32)) x3 (x4 + (1 : Int32)))
def d_X4_names (N : Nat) (V : Nat → Rw) (D : CfT) (a0 : Int32) : Option (Int32) := bnd (d_X7_kind N V D a0) (fun v19 => if v19 = ((2 : Int32)) then bnd (d_X4_slots N V D a0) (fun v20 => d_X4_names_27 N V D fuL a0 ((0 : Int32)) v20 ((0 : Int32))) else d_X4_names_27 N V D fuL a0 ((0 : Int32)) ((0 : Int32)) ((0 : Int32)))
set_option maxRecDepth 100000 in
set_option maxHeartbeats 4000000 in
theorem l_X4_names_27 (E : gE) (f0 : Nat → va_E) (sz : Nat) (QA : Nat → Prop) (N B gr : Nat) (C D : CfT) (A : MS) (hz : CfZ E N B gr) (hD : Dq D C) (hA : AR N B gr A C) : ∀ (n : Nat), ∀ (x1 : Int32) (x2 : Int32) (x3 : Int32) (x4 : Int32) (r : Int32) (hr : d_X4_names_27 N (vA A) D n x1 x2 x3 x4 = some r) (f : Nat → va_E) (h : CfV E f N B gr C) (hf : Fr CfK f0 f), G E (6, yX4_names, 5, (some .int), sz, QA) cX4_names (gO E (6, yX4_names, 5, (some .int), sz, QA) (fun v g => v = some (.int r) ∧ CfV E g N B gr C ∧ Fr CfK f0 g, fun _ _ => False)) 27 [(0, .ref (gAd E (40))), (1, .int (x1)), (2, .int (x2)), (3, .int (x3)), (4, .int (x4))] [] f := by
  obtain ⟨z1, z2, z3, z4, z5, z6, z7⟩ := id hz
  intro n
  induction n with
  | zero =>
    intro x1 x2 x3 x4 r hr f h hf
    cases hr
  | succ n ih =>
    intro x1 x2 x3 x4 r hr f h hf
    unfold d_X4_names_27 at hr
    refine G.go tv_X4_names 2 30 [(0, .ref (gAd E (40))), (1, .int (x1)), (2, .int (x2)), (3, .int (x3)), (4, .int (x4))] [.int (x3), .int (x4)] rfl ?_
    refine G.cmp_ge 52 (tbd tv_X4_names rfl) (by decide) (fun c30 => ?_) (fun c30 => ?_)
    · replace hr := ite_t c30 hr
      refine G.go tv_X4_names 1 53 [(0, .ref (gAd E (40))), (1, .int (x1)), (2, .int (x2)), (3, .int (x3)), (4, .int (x4))] [.int (x2)] rfl ?_
      cases hr
      exact G.iret rfl rfl ⟨rfl, h, hf⟩ (tbd tv_X4_names rfl)
    · replace hr := ite_f c30 hr
      refine G.go tv_X4_names 3 37 [(0, .ref (gAd E (40))), (1, .int (x1)), (2, .int (x2)), (3, .int (x3)), (4, .int (x4))] [.int (x4), .int (x1), .ref (gAd E (40))] rfl ?_
      obtain ⟨v21, hv21, hr⟩ := bnd_s hr
      refine G.callV (40) [.int (x1), .int (x4)] [] (k_X4_inodeAt E _ N B gr C D A hz h hD hA x1 x4 v21 hv21) cls_X4 (by omega) (h.q40) cw_X4_65 w_1380 w_1381 (Nat.le_of_ble_eq_true rfl) rfl (Nat.le_of_ble_eq_true rfl) (tbd tv_X4_names rfl) (fun v21w f21 q21 => ?_) (fun _ _ h => h.elim)
      obtain ⟨rfl, ha21, fa21⟩ := q21
      refine G.eqs [.int (v21)] rfl ?_
      refine G.if_eq 46 (tbd tv_X4_names rfl) (by decide) (fun c40 => ?_) (fun c40 => ?_)
      · replace hr := ite_t c40 hr
        refine G.go tv_X4_names 2 27 [(0, .ref (gAd E (40))), (1, .int (x1)), (2, .int (x2)), (3, .int (x3)), (4, .int (x4 + (1 : Int32)))] [] rfl ?_
        refine G.less [(0, .ref (gAd E (40))), (1, .int (x1)), (2, .int (x2)), (3, .int (x3)), (4, .int (x4 + (1 : Int32)))] [0, 1, 2, 3, 4] rfl ?_
        exact ih _ _ _ _ _ hr _ ha21 (hf.tr fa21 (fun _ h => h))
      · replace hr := ite_f c40 hr
        refine G.go tv_X4_names 3 27 [(0, .ref (gAd E (40))), (1, .int (x1)), (2, .int (x2 + (1 : Int32))), (3, .int (x3)), (4, .int (x4 + (1 : Int32)))] [] rfl ?_
        refine G.less [(0, .ref (gAd E (40))), (1, .int (x1)), (2, .int (x2 + (1 : Int32))), (3, .int (x3)), (4, .int (x4 + (1 : Int32)))] [0, 1, 2, 3, 4] rfl ?_
        exact ih _ _ _ _ _ hr _ ha21 (hf.tr fa21 (fun _ h => h))
set_option maxRecDepth 100000 in
set_option maxHeartbeats 4000000 in
theorem k_X4_names (E : gE) (f : Nat → va_E) (N B gr : Nat) (C D : CfT) (A : MS) (hz : CfZ E N B gr) (h : CfV E f N B gr C) (hD : Dq D C) (hA : AR N B gr A C) (a0 : Int32) (r : Int32) (hr : d_X4_names N (vA A) D a0 = some r) : Ct E 6 yX4_names cX4_names 5 (some .int) [.ref (gAd E (40)), .int (a0)] f (fun v g => v = some (.int r) ∧ CfV E g N B gr C ∧ Fr CfK f g, fun _ _ => False) := by
  obtain ⟨z1, z2, z3, z4, z5, z6, z7⟩ := id hz
  refine Ct.of (by decide) (Nat.le_of_ble_eq_true rfl) (fun sz => ?_)
  refine G.eql [(0, .ref (gAd E (40))), (1, .int (a0))] rfl ?_
  unfold d_X4_names at hr
  refine G.go tv_X4_names 3 3 [(0, .ref (gAd E (40))), (1, .int (a0)), (2, .int ((0 : Int32)))] [.ref (gAd E (40))] rfl ?_
  refine G.getf cls_X4 (40) 1 (by omega) (h.q40) (by decide) rfl (tbd tv_X4_names rfl) w_510 ?_
  refine G.go tv_X4_names 1 7 [(0, .ref (gAd E (40))), (1, .int (a0)), (2, .int ((0 : Int32)))] [.int (a0), .ref (gAd E (37))] rfl ?_
  obtain ⟨v19, hv19, hr⟩ := bnd_s hr
  refine G.callV (37) [.int (a0)] [] (k_X7_kind E _ N B gr C D A hz h hD hA a0 v19 hv19) cls_X7 (by omega) (h.q37) cw_X4_59 w_903 w_904 (Nat.le_of_ble_eq_true rfl) rfl (Nat.le_of_ble_eq_true rfl) (tbd tv_X4_names rfl) (fun v19w f19 q19 => ?_) (fun _ _ h => h.elim)
  obtain ⟨rfl, ha19, fa19⟩ := q19
  refine G.eqs [.int (v19)] rfl ?_
  refine G.go tv_X4_names 1 11 [(0, .ref (gAd E (40))), (1, .int (a0)), (2, .int ((0 : Int32)))] [.int ((2 : Int32)), .int (v19)] rfl ?_
  refine G.cmp_ne 22 (tbd tv_X4_names rfl) (by decide) (fun c11 => ?_) (fun c11 => ?_)
  · replace hr := ite_f c11 hr
    refine G.go tv_X4_names 4 27 [(0, .ref (gAd E (40))), (1, .int (a0)), (2, .int ((0 : Int32))), (3, .int ((0 : Int32))), (4, .int ((0 : Int32)))] [] rfl ?_
    refine G.less [(0, .ref (gAd E (40))), (1, .int (a0)), (2, .int ((0 : Int32))), (3, .int ((0 : Int32))), (4, .int ((0 : Int32)))] [0, 1, 2, 3, 4] rfl ?_
    exact l_X4_names_27 E f sz _ N B gr C D A hz hD hA _ _ _ _ _ _ hr _ ha19 (Fr.rf.tr fa19 (fun _ h => h))
  · replace hr := ite_t c11 hr
    refine G.go tv_X4_names 2 16 [(0, .ref (gAd E (40))), (1, .int (a0)), (2, .int ((0 : Int32)))] [.int (a0), .ref (gAd E (40))] rfl ?_
    obtain ⟨v20, hv20, hr⟩ := bnd_s hr
    refine G.callV (40) [.int (a0)] [] (k_X4_slots E _ N B gr C D A hz ha19 hD hA a0 v20 hv20) cls_X4 (by omega) (ha19.q40) cw_X4_62 w_1365 w_1366 (Nat.le_of_ble_eq_true rfl) rfl (Nat.le_of_ble_eq_true rfl) (tbd tv_X4_names rfl) (fun v20w f20 q20 => ?_) (fun _ _ h => h.elim)
    obtain ⟨rfl, ha20, fa20⟩ := q20
    refine G.eqs [.int (v20)] rfl ?_
    refine G.go tv_X4_names 4 27 [(0, .ref (gAd E (40))), (1, .int (a0)), (2, .int ((0 : Int32))), (3, .int (v20)), (4, .int ((0 : Int32)))] [] rfl ?_
    refine G.less [(0, .ref (gAd E (40))), (1, .int (a0)), (2, .int ((0 : Int32))), (3, .int (v20)), (4, .int ((0 : Int32)))] [0, 1, 2, 3, 4] rfl ?_
    exact l_X4_names_27 E f sz _ N B gr C D A hz hD hA _ _ _ _ _ _ hr _ ha20 ((Fr.rf.tr fa19 (fun _ h => h)).tr fa20 (fun _ h => h))
def tb_X4_freeSlot : List (Nat × Instr × Nat) := [(0, .aload_n 0, 1), (1, .iload_n 1, 1), (2, .invokevirtual 62, 3), (5, .istore_n 2, 1), (6, .aload_n 0, 1), (7, .getfield 19, 3), (10, .astore_n 3, 1), (11, .iconst 0, 1), (12, .istore 4, 2), (14, .iload 4, 2), (16, .iload_n 2, 1), (17, .if_icmp .ge 54, 3), (20, .iload 4, 2), (22, .bipush 8, 2), (24, .irem, 1), (25, .ifCond .ne 25, 3), (28, .aload_n 0, 1), (29, .getfield 9, 3), (32, .aload_n 0, 1), (33, .getfield 15, 3), (36, .iload_n 1, 1), (37, .iload 4, 2), (39, .bipush 8, 2), (41, .idiv, 1), (42, .iconst 0, 1), (43, .invokevirtual 29, 3), (46, .invokevirtual 33, 3), (49, .astore_n 3, 1), (50, .aload_n 3, 1), (51, .iload 4, 2), (53, .invokestatic 46, 3), (56, .invokestatic 49, 3), (59, .ifCond .ne 6, 3), (62, .iload 4, 2), (64, .ireturn, 1), (65, .iinc 4 1, 3), (68, .goto (-54), 3), (71, .iconst (-1), 1), (72, .ireturn, 1)]
theorem tv_X4_freeSlot : Tv cX4_freeSlot tb_X4_freeSlot := by
  unfold Tv
  decide +kernel
def d_X4_freeSlot_14 (N : Nat) (V : Nat → Rw) (D : CfT) : Nat → Int32 → Int32 → (Nat → Int32) → Nat → Int32 → Option (Int32)
  | 0, _, _, _, _, _ => none
  | n + 1, x1, x2, ga3, na3, x4 => if x2 ≤ x4 then some ((-1 : Int32)) else if ((x4) - (x4) / ((8 : Int32)) * ((8 : Int32))) = 0 then bnd (d_X7_reach N V D x1 ((x4) / ((8 : Int32))) ((0 : Int32))) (fun v25 => seeB N V v25 (fun y27 => bnd (d_X4_startOf N V D x4) (fun v28 => bnd (d_X2_two N V D y27 128 v28) (fun v29 => if v29 = 0 then some x4 else d_X4_freeSlot_14 N V D n x1 x2 y27 128 (x4 + (1 : Int32)))))) else bnd (d_X4_startOf N V D x4) (fun v23 => bnd (d_X2_two N V D ga3 na3 v23) (fun v24 => if v24 = 0 then some x4 else d_X4_freeSlot_14 N V D n x1 x2 ga3 na3 (x4 + (1 : Int32))))
def d_X4_freeSlot (N : Nat) (V : Nat → Rw) (D : CfT) (a0 : Int32) : Option (Int32) := bnd (d_X4_slots N V D a0) (fun v22 => d_X4_freeSlot_14 N V D fuL a0 v22 (cA D 1) 1024 ((0 : Int32)))
set_option maxRecDepth 100000 in
set_option maxHeartbeats 4000000 in
theorem l_X4_freeSlot_14 (E : gE) (f0 : Nat → va_E) (sz : Nat) (QA : Nat → Prop) (N B gr : Nat) (C D : CfT) (A : MS) (hz : CfZ E N B gr) (hD : Dq D C) (hA : AR N B gr A C) : ∀ (n : Nat), ∀ (x1 : Int32) (x2 : Int32) (ga3 : Nat → Int32) (na3 : Nat) (x4 : Int32) (r : Int32) (hr : d_X4_freeSlot_14 N (vA A) D n x1 x2 ga3 na3 x4 = some r) (f : Nat → va_E) (h : CfV E f N B gr C) (hf : Fr CfK f0 f) (ka3 : Nat) (wa3 : ArK N B gr C ka3 na3 ga3), G E (5, yX4_freeSlot, 5, (some .int), sz, QA) cX4_freeSlot (gO E (5, yX4_freeSlot, 5, (some .int), sz, QA) (fun v g => v = some (.int r) ∧ CfV E g N B gr C ∧ Fr CfK f0 g, fun _ _ => False)) 14 [(0, .ref (gAd E (40))), (1, .int (x1)), (2, .int (x2)), (3, .ref (gAd E (ka3))), (4, .int (x4))] [] f := by
  obtain ⟨z1, z2, z3, z4, z5, z6, z7⟩ := id hz
  intro n
  induction n with
  | zero =>
    intro x1 x2 ga3 na3 x4 r hr f h hf ka3 wa3
    cases hr
  | succ n ih =>
    intro x1 x2 ga3 na3 x4 r hr f h hf ka3 wa3
    unfold d_X4_freeSlot_14 at hr
    refine G.go tv_X4_freeSlot 2 17 [(0, .ref (gAd E (40))), (1, .int (x1)), (2, .int (x2)), (3, .ref (gAd E (ka3))), (4, .int (x4))] [.int (x2), .int (x4)] rfl ?_
    refine G.cmp_ge 71 (tbd tv_X4_freeSlot rfl) (by decide) (fun c17 => ?_) (fun c17 => ?_)
    · replace hr := ite_t c17 hr
      refine G.go tv_X4_freeSlot 1 72 [(0, .ref (gAd E (40))), (1, .int (x1)), (2, .int (x2)), (3, .ref (gAd E (ka3))), (4, .int (x4))] [.int ((-1 : Int32))] rfl ?_
      cases hr
      exact G.iret rfl rfl ⟨rfl, h, hf⟩ (tbd tv_X4_freeSlot rfl)
    · replace hr := ite_f c17 hr
      refine G.go tv_X4_freeSlot 2 24 [(0, .ref (gAd E (40))), (1, .int (x1)), (2, .int (x2)), (3, .ref (gAd E (ka3))), (4, .int (x4))] [.int ((8 : Int32)), .int (x4)] rfl ?_
      refine G.irem (by decide) (tbd tv_X4_freeSlot rfl) ?_
      refine G.if_ne 50 (tbd tv_X4_freeSlot rfl) (by decide) (fun c25 => ?_) (fun c25 => ?_)
      · replace hr := ite_f c25 hr
        refine G.go tv_X4_freeSlot 2 53 [(0, .ref (gAd E (40))), (1, .int (x1)), (2, .int (x2)), (3, .ref (gAd E (ka3))), (4, .int (x4))] [.int (x4), .ref (gAd E (ka3))] rfl ?_
        obtain ⟨v23, hv23, hr⟩ := bnd_s hr
        refine G.callS [.int (x4)] [.ref (gAd E (ka3))] (k_X4_startOf E _ N B gr C D A hz h hD hA x4 v23 hv23) cw_X4_46 w_1372 (Nat.le_of_ble_eq_true rfl) rfl (Nat.le_of_ble_eq_true rfl) (tbd tv_X4_freeSlot rfl) (fun v23w f23 q23 => ?_) (fun _ _ h => h.elim)
        obtain ⟨rfl, ha23, fa23⟩ := q23
        refine G.eqs [.int (v23), .ref (gAd E (ka3))] rfl ?_
        obtain ⟨v24, hv24, hr⟩ := bnd_s hr
        refine G.callS [.ref (gAd E (ka3)), .int (v23)] [] (k_X2_two E _ N B gr C D A hz ha23 hD hA ka3 na3 ga3 (wa3) v23 v24 hv24) cw_X4_49 w_878 (Nat.le_of_ble_eq_true rfl) rfl (Nat.le_of_ble_eq_true rfl) (tbd tv_X4_freeSlot rfl) (fun v24w f24 q24 => ?_) (fun _ _ h => h.elim)
        obtain ⟨rfl, ha24, fa24⟩ := q24
        refine G.eqs [.int (v24)] rfl ?_
        refine G.if_ne 65 (tbd tv_X4_freeSlot rfl) (by decide) (fun c59 => ?_) (fun c59 => ?_)
        · replace hr := ite_f c59 hr
          refine G.go tv_X4_freeSlot 2 14 [(0, .ref (gAd E (40))), (1, .int (x1)), (2, .int (x2)), (3, .ref (gAd E (ka3))), (4, .int (x4 + (1 : Int32)))] [] rfl ?_
          refine G.less [(0, .ref (gAd E (40))), (1, .int (x1)), (2, .int (x2)), (3, .ref (gAd E (ka3))), (4, .int (x4 + (1 : Int32)))] [0, 1, 2, 3, 4] rfl ?_
          exact ih _ _ _ _ _ _ hr _ ha24 ((hf.tr fa23 (fun _ h => h)).tr fa24 (fun _ h => h)) ka3 wa3
        · replace hr := ite_t c59 hr
          refine G.go tv_X4_freeSlot 1 64 [(0, .ref (gAd E (40))), (1, .int (x1)), (2, .int (x2)), (3, .ref (gAd E (ka3))), (4, .int (x4))] [.int (x4)] rfl ?_
          cases hr
          exact G.iret rfl rfl ⟨rfl, ha24, ((hf.tr fa23 (fun _ h => h)).tr fa24 (fun _ h => h))⟩ (tbd tv_X4_freeSlot rfl)
      · replace hr := ite_t c25 hr
        refine G.go tv_X4_freeSlot 1 29 [(0, .ref (gAd E (40))), (1, .int (x1)), (2, .int (x2)), (3, .ref (gAd E (ka3))), (4, .int (x4))] [.ref (gAd E (40))] rfl ?_
        refine G.getf cls_X4 (40) 0 (by omega) (h.q40) (by decide) rfl (tbd tv_X4_freeSlot rfl) w_509 ?_
        refine G.go tv_X4_freeSlot 1 33 [(0, .ref (gAd E (40))), (1, .int (x1)), (2, .int (x2)), (3, .ref (gAd E (ka3))), (4, .int (x4))] [.ref (gAd E (40)), .ref (gAd E (25))] rfl ?_
        refine G.getf cls_X4 (40) 1 (by omega) (h.q40) (by decide) rfl (tbd tv_X4_freeSlot rfl) w_510 ?_
        refine G.go tv_X4_freeSlot 3 41 [(0, .ref (gAd E (40))), (1, .int (x1)), (2, .int (x2)), (3, .ref (gAd E (ka3))), (4, .int (x4))] [.int ((8 : Int32)), .int (x4), .int (x1), .ref (gAd E (37)), .ref (gAd E (25))] rfl ?_
        refine G.idiv (by decide) (tbd tv_X4_freeSlot rfl) ?_
        refine G.go tv_X4_freeSlot 1 43 [(0, .ref (gAd E (40))), (1, .int (x1)), (2, .int (x2)), (3, .ref (gAd E (ka3))), (4, .int (x4))] [.int ((0 : Int32)), .int ((x4) / ((8 : Int32))), .int (x1), .ref (gAd E (37)), .ref (gAd E (25))] rfl ?_
        obtain ⟨v25, hv25, hr⟩ := bnd_s hr
        refine G.callV (37) [.int (x1), .int ((x4) / ((8 : Int32))), .int ((0 : Int32))] [.ref (gAd E (25))] (k_X7_reach E _ N B gr C D A hz h hD hA x1 ((x4) / ((8 : Int32))) ((0 : Int32)) v25 hv25) cls_X7 (by omega) (h.q37) cw_X4_29 w_954 w_955 (Nat.le_of_ble_eq_true rfl) rfl (Nat.le_of_ble_eq_true rfl) (tbd tv_X4_freeSlot rfl) (fun v25w f25 q25 => ?_) (fun _ _ h => h.elim)
        obtain ⟨rfl, ha25, fa25⟩ := q25
        refine G.eqs [.int (v25), .ref (gAd E (25))] rfl ?_
        obtain ⟨y27, b27, e27, hr⟩ := seeB_s hr
        refine G.callV (25) [.int (v25)] [] (k_see E _ N B gr C A hz ha25 hA _ b27 _ e27) cls_X10 (by omega) (ha25.q25) cw_X4_33 w_910 w_911 (Nat.le_of_ble_eq_true rfl) rfl (Nat.le_of_ble_eq_true rfl) (tbd tv_X4_freeSlot rfl) (fun v27w f27 q27 => ?_) (fun _ _ h => h.elim)
        obtain ⟨⟨k27, rfl, w27⟩, ha27, fa27⟩ := q27
        refine G.eqs [.ref (gAd E (k27))] rfl ?_
        refine G.go tv_X4_freeSlot 3 53 [(0, .ref (gAd E (40))), (1, .int (x1)), (2, .int (x2)), (3, .ref (gAd E (k27))), (4, .int (x4))] [.int (x4), .ref (gAd E (k27))] rfl ?_
        obtain ⟨v28, hv28, hr⟩ := bnd_s hr
        refine G.callS [.int (x4)] [.ref (gAd E (k27))] (k_X4_startOf E _ N B gr C D A hz ha27 hD hA x4 v28 hv28) cw_X4_46 w_1372 (Nat.le_of_ble_eq_true rfl) rfl (Nat.le_of_ble_eq_true rfl) (tbd tv_X4_freeSlot rfl) (fun v28w f28 q28 => ?_) (fun _ _ h => h.elim)
        obtain ⟨rfl, ha28, fa28⟩ := q28
        refine G.eqs [.int (v28), .ref (gAd E (k27))] rfl ?_
        obtain ⟨v29, hv29, hr⟩ := bnd_s hr
        refine G.callS [.ref (gAd E (k27)), .int (v28)] [] (k_X2_two E _ N B gr C D A hz ha28 hD hA k27 128 y27 (w27) v28 v29 hv29) cw_X4_49 w_878 (Nat.le_of_ble_eq_true rfl) rfl (Nat.le_of_ble_eq_true rfl) (tbd tv_X4_freeSlot rfl) (fun v29w f29 q29 => ?_) (fun _ _ h => h.elim)
        obtain ⟨rfl, ha29, fa29⟩ := q29
        refine G.eqs [.int (v29)] rfl ?_
        refine G.if_ne 65 (tbd tv_X4_freeSlot rfl) (by decide) (fun c59 => ?_) (fun c59 => ?_)
        · replace hr := ite_f c59 hr
          refine G.go tv_X4_freeSlot 2 14 [(0, .ref (gAd E (40))), (1, .int (x1)), (2, .int (x2)), (3, .ref (gAd E (k27))), (4, .int (x4 + (1 : Int32)))] [] rfl ?_
          refine G.less [(0, .ref (gAd E (40))), (1, .int (x1)), (2, .int (x2)), (3, .ref (gAd E (k27))), (4, .int (x4 + (1 : Int32)))] [0, 1, 2, 3, 4] rfl ?_
          exact ih _ _ _ _ _ _ hr _ ha29 ((((hf.tr fa25 (fun _ h => h)).tr fa27 (fun _ h => h)).tr fa28 (fun _ h => h)).tr fa29 (fun _ h => h)) k27 w27
        · replace hr := ite_t c59 hr
          refine G.go tv_X4_freeSlot 1 64 [(0, .ref (gAd E (40))), (1, .int (x1)), (2, .int (x2)), (3, .ref (gAd E (k27))), (4, .int (x4))] [.int (x4)] rfl ?_
          cases hr
          exact G.iret rfl rfl ⟨rfl, ha29, ((((hf.tr fa25 (fun _ h => h)).tr fa27 (fun _ h => h)).tr fa28 (fun _ h => h)).tr fa29 (fun _ h => h))⟩ (tbd tv_X4_freeSlot rfl)
set_option maxRecDepth 100000 in
set_option maxHeartbeats 4000000 in
theorem k_X4_freeSlot (E : gE) (f : Nat → va_E) (N B gr : Nat) (C D : CfT) (A : MS) (hz : CfZ E N B gr) (h : CfV E f N B gr C) (hD : Dq D C) (hA : AR N B gr A C) (a0 : Int32) (r : Int32) (hr : d_X4_freeSlot N (vA A) D a0 = some r) : Ct E 5 yX4_freeSlot cX4_freeSlot 5 (some .int) [.ref (gAd E (40)), .int (a0)] f (fun v g => v = some (.int r) ∧ CfV E g N B gr C ∧ Fr CfK f g, fun _ _ => False) := by
  obtain ⟨z1, z2, z3, z4, z5, z6, z7⟩ := id hz
  refine Ct.of (by decide) (Nat.le_of_ble_eq_true rfl) (fun sz => ?_)
  refine G.eql [(0, .ref (gAd E (40))), (1, .int (a0))] rfl ?_
  unfold d_X4_freeSlot at hr
  refine G.go tv_X4_freeSlot 2 2 [(0, .ref (gAd E (40))), (1, .int (a0))] [.int (a0), .ref (gAd E (40))] rfl ?_
  obtain ⟨v22, hv22, hr⟩ := bnd_s hr
  refine G.callV (40) [.int (a0)] [] (k_X4_slots E _ N B gr C D A hz h hD hA a0 v22 hv22) cls_X4 (by omega) (h.q40) cw_X4_62 w_1365 w_1366 (Nat.le_of_ble_eq_true rfl) rfl (Nat.le_of_ble_eq_true rfl) (tbd tv_X4_freeSlot rfl) (fun v22w f22 q22 => ?_) (fun _ _ h => h.elim)
  obtain ⟨rfl, ha22, fa22⟩ := q22
  refine G.eqs [.int (v22)] rfl ?_
  refine G.go tv_X4_freeSlot 2 7 [(0, .ref (gAd E (40))), (1, .int (a0)), (2, .int (v22))] [.ref (gAd E (40))] rfl ?_
  refine G.getf cls_X4 (40) 2 (by omega) (ha22.q40) (by decide) rfl (tbd tv_X4_freeSlot rfl) w_511 ?_
  refine G.go tv_X4_freeSlot 3 14 [(0, .ref (gAd E (40))), (1, .int (a0)), (2, .int (v22)), (3, .ref (gAd E (1))), (4, .int ((0 : Int32)))] [] rfl ?_
  refine G.less [(0, .ref (gAd E (40))), (1, .int (a0)), (2, .int (v22)), (3, .ref (gAd E (1))), (4, .int ((0 : Int32)))] [0, 1, 2, 3, 4] rfl ?_
  exact l_X4_freeSlot_14 E f sz _ N B gr C D A hz hD hA _ _ _ _ _ _ _ hr _ ha22 (Fr.rf.tr fa22 (fun _ h => h)) 1 ((ArK.tp hD))
def tb_X4_isNamed : List (Nat × Instr × Nat) := [(0, .aload_n 1, 1), (1, .iload_n 2, 1), (2, .invokestatic 49, 3), (5, .ifCond .eq 18, 3), (8, .aload_n 1, 1), (9, .iload_n 2, 1), (10, .iconst 2, 1), (11, .iadd, 1), (12, .baload, 1), (13, .aload_n 3, 1), (14, .getfield 69, 3), (17, .iload 4, 2), (19, .iaload, 1), (20, .if_icmp .eq 5, 3), (23, .iconst 0, 1), (24, .ireturn, 1), (25, .iconst 0, 1), (26, .istore 5, 2), (28, .iload 5, 2), (30, .aload_n 3, 1), (31, .getfield 69, 3), (34, .iload 4, 2), (36, .iaload, 1), (37, .if_icmp .ge 37, 3), (40, .aload_n 1, 1), (41, .iload_n 2, 1), (42, .iconst 3, 1), (43, .iadd, 1), (44, .iload 5, 2), (46, .iadd, 1), (47, .baload, 1), (48, .aload_n 0, 1), (49, .getfield 19, 3), (52, .aload_n 3, 1), (53, .getfield 73, 3), (56, .iload 4, 2), (58, .iaload, 1), (59, .iload 5, 2), (61, .iadd, 1), (62, .baload, 1), (63, .if_icmp .eq 5, 3), (66, .iconst 0, 1), (67, .ireturn, 1), (68, .iinc 5 1, 3), (71, .goto (-43), 3), (74, .iconst 1, 1), (75, .ireturn, 1)]
theorem tv_X4_isNamed : Tv cX4_isNamed tb_X4_isNamed := by
  unfold Tv
  decide +kernel
theorem w_195 : Cond.fieldLink "LedgerFiles$Folders" 69 "LedgerFiles$Path" "lengths" "[I" ∈ TB := tp_1 49 (by decide +kernel) rfl
theorem w_193 : Cond.fieldLink "LedgerFiles$Folders" 73 "LedgerFiles$Path" "starts" "[I" ∈ TB := tp_1 47 (by decide +kernel) rfl
def d_X4_isNamed_47_28 (N : Nat) (V : Nat → Rw) (D : CfT) : Nat → (Nat → Int32) → Nat → Int32 → Int32 → Int32 → Option (Int32)
  | 0, _, _, _, _, _ => none
  | n + 1, ga1, na1, x2, x4, x5 => ld (cA D 49) 16 x4 (fun v33 => if v33 ≤ x5 then some ((1 : Int32)) else ld ga1 na1 (((x2) + ((3 : Int32))) + (x5)) (fun v34 => ld (cA D 48) 16 x4 (fun v35 => ld (cA D 1) 1024 ((v35) + (x5)) (fun v36 => if v34 = v36 then d_X4_isNamed_47_28 N V D n ga1 na1 x2 x4 (x5 + (1 : Int32)) else some ((0 : Int32))))))
def d_X4_isNamed_47 (N : Nat) (V : Nat → Rw) (D : CfT) (ga0 : Nat → Int32) (na0 : Nat) (a1 : Int32) (a3 : Int32) : Option (Int32) := bnd (d_X2_two N V D ga0 na0 a1) (fun v30 => if v30 = 0 then some ((0 : Int32)) else ld ga0 na0 ((a1) + ((2 : Int32))) (fun v31 => ld (cA D 49) 16 a3 (fun v32 => if v31 = v32 then d_X4_isNamed_47_28 N V D fuL ga0 na0 a1 a3 ((0 : Int32)) else some ((0 : Int32)))))
set_option maxRecDepth 100000 in
set_option maxHeartbeats 4000000 in
theorem l_X4_isNamed_47_28 (E : gE) (f0 : Nat → va_E) (sz : Nat) (QA : Nat → Prop) (N B gr : Nat) (C D : CfT) (A : MS) (hz : CfZ E N B gr) (hD : Dq D C) (hA : AR N B gr A C) : ∀ (n : Nat), ∀ (ga1 : Nat → Int32) (na1 : Nat) (x2 : Int32) (x4 : Int32) (x5 : Int32) (r : Int32) (hr : d_X4_isNamed_47_28 N (vA A) D n ga1 na1 x2 x4 x5 = some r) (f : Nat → va_E) (h : CfV E f N B gr C) (hf : Fr CfK f0 f) (ka1 : Nat) (wa1 : ArK N B gr C ka1 na1 ga1), G E (2, yX4_isNamed, 6, (some .boolean), sz, QA) cX4_isNamed (gO E (2, yX4_isNamed, 6, (some .boolean), sz, QA) (fun v g => v = some (.int r) ∧ CfV E g N B gr C ∧ Fr CfK f0 g, fun _ _ => False)) 28 [(0, .ref (gAd E (40))), (1, .ref (gAd E (ka1))), (2, .int (x2)), (3, .ref (gAd E (47))), (4, .int (x4)), (5, .int (x5))] [] f := by
  obtain ⟨z1, z2, z3, z4, z5, z6, z7⟩ := id hz
  intro n
  induction n with
  | zero =>
    intro ga1 na1 x2 x4 x5 r hr f h hf ka1 wa1
    cases hr
  | succ n ih =>
    intro ga1 na1 x2 x4 x5 r hr f h hf ka1 wa1
    unfold d_X4_isNamed_47_28 at hr
    refine G.go tv_X4_isNamed 2 31 [(0, .ref (gAd E (40))), (1, .ref (gAd E (ka1))), (2, .int (x2)), (3, .ref (gAd E (47))), (4, .int (x4)), (5, .int (x5))] [.ref (gAd E (47)), .int (x5)] rfl ?_
    refine G.getf cls_X8 (47) 1 (by omega) (h.q47) (by decide) rfl (tbd tv_X4_isNamed rfl) w_195 ?_
    refine G.go tv_X4_isNamed 1 36 [(0, .ref (gAd E (40))), (1, .ref (gAd E (ka1))), (2, .int (x2)), (3, .ref (gAd E (47))), (4, .int (x4)), (5, .int (x5))] [.int (x4), .ref (gAd E (49)), .int (x5)] rfl ?_
    obtain ⟨v33, b33, e33, hr⟩ := ld_s hr
    refine G.ialdE (49) (by omega) ((h.q49).trans (congrArg (oI (gDA E) (16)) (hD.2 49 (by decide)))) b33 e33 (tbd tv_X4_isNamed rfl) ?_
    refine G.cmp_ge 74 (tbd tv_X4_isNamed rfl) (by decide) (fun c37 => ?_) (fun c37 => ?_)
    · replace hr := ite_t c37 hr
      refine G.go tv_X4_isNamed 1 75 [(0, .ref (gAd E (40))), (1, .ref (gAd E (ka1))), (2, .int (x2)), (3, .ref (gAd E (47))), (4, .int (x4)), (5, .int (x5))] [.int ((1 : Int32))] rfl ?_
      cases hr
      exact G.iret rfl rfl ⟨rfl, h, hf⟩ (tbd tv_X4_isNamed rfl)
    · replace hr := ite_f c37 hr
      refine G.go tv_X4_isNamed 6 47 [(0, .ref (gAd E (40))), (1, .ref (gAd E (ka1))), (2, .int (x2)), (3, .ref (gAd E (47))), (4, .int (x4)), (5, .int (x5))] [.int (((x2) + ((3 : Int32))) + (x5)), .ref (gAd E (ka1))] rfl ?_
      obtain ⟨v34, b34, e34, hr⟩ := ld_s hr
      refine G.arld hz h (wa1) b34 e34 (tbd tv_X4_isNamed rfl) ?_
      refine G.go tv_X4_isNamed 1 49 [(0, .ref (gAd E (40))), (1, .ref (gAd E (ka1))), (2, .int (x2)), (3, .ref (gAd E (47))), (4, .int (x4)), (5, .int (x5))] [.ref (gAd E (40)), .int (v34)] rfl ?_
      refine G.getf cls_X4 (40) 2 (by omega) (h.q40) (by decide) rfl (tbd tv_X4_isNamed rfl) w_511 ?_
      refine G.go tv_X4_isNamed 1 53 [(0, .ref (gAd E (40))), (1, .ref (gAd E (ka1))), (2, .int (x2)), (3, .ref (gAd E (47))), (4, .int (x4)), (5, .int (x5))] [.ref (gAd E (47)), .ref (gAd E (1)), .int (v34)] rfl ?_
      refine G.getf cls_X8 (47) 0 (by omega) (h.q47) (by decide) rfl (tbd tv_X4_isNamed rfl) w_193 ?_
      refine G.go tv_X4_isNamed 1 58 [(0, .ref (gAd E (40))), (1, .ref (gAd E (ka1))), (2, .int (x2)), (3, .ref (gAd E (47))), (4, .int (x4)), (5, .int (x5))] [.int (x4), .ref (gAd E (48)), .ref (gAd E (1)), .int (v34)] rfl ?_
      obtain ⟨v35, b35, e35, hr⟩ := ld_s hr
      refine G.ialdE (48) (by omega) ((h.q48).trans (congrArg (oI (gDA E) (16)) (hD.2 48 (by decide)))) b35 e35 (tbd tv_X4_isNamed rfl) ?_
      refine G.go tv_X4_isNamed 2 62 [(0, .ref (gAd E (40))), (1, .ref (gAd E (ka1))), (2, .int (x2)), (3, .ref (gAd E (47))), (4, .int (x4)), (5, .int (x5))] [.int ((v35) + (x5)), .ref (gAd E (1)), .int (v34)] rfl ?_
      obtain ⟨v36, b36, e36, hr⟩ := ld_s hr
      refine G.baldE (1) (by omega) ((h.q1).trans (congrArg (oB (gDA E) (1024)) (hD.2 1 (by decide)))) b36 e36 (tbd tv_X4_isNamed rfl) ?_
      refine G.cmp_eq 68 (tbd tv_X4_isNamed rfl) (by decide) (fun c63 => ?_) (fun c63 => ?_)
      · replace hr := ite_t c63 hr
        refine G.go tv_X4_isNamed 2 28 [(0, .ref (gAd E (40))), (1, .ref (gAd E (ka1))), (2, .int (x2)), (3, .ref (gAd E (47))), (4, .int (x4)), (5, .int (x5 + (1 : Int32)))] [] rfl ?_
        refine G.less [(0, .ref (gAd E (40))), (1, .ref (gAd E (ka1))), (2, .int (x2)), (3, .ref (gAd E (47))), (4, .int (x4)), (5, .int (x5 + (1 : Int32)))] [0, 1, 2, 3, 4, 5] rfl ?_
        exact ih _ _ _ _ _ _ hr _ h hf ka1 wa1
      · replace hr := ite_f c63 hr
        refine G.go tv_X4_isNamed 1 67 [(0, .ref (gAd E (40))), (1, .ref (gAd E (ka1))), (2, .int (x2)), (3, .ref (gAd E (47))), (4, .int (x4)), (5, .int (x5))] [.int ((0 : Int32))] rfl ?_
        cases hr
        exact G.iret rfl rfl ⟨rfl, h, hf⟩ (tbd tv_X4_isNamed rfl)
set_option maxRecDepth 100000 in
set_option maxHeartbeats 4000000 in
theorem k_X4_isNamed_47 (E : gE) (f : Nat → va_E) (N B gr : Nat) (C D : CfT) (A : MS) (hz : CfZ E N B gr) (h : CfV E f N B gr C) (hD : Dq D C) (hA : AR N B gr A C) (ka0 na0 : Nat) (ga0 : Nat → Int32) (wa0 : ArK N B gr C ka0 na0 ga0) (a1 : Int32) (a3 : Int32) (r : Int32) (hr : d_X4_isNamed_47 N (vA A) D ga0 na0 a1 a3 = some r) : Ct E 2 yX4_isNamed cX4_isNamed 6 (some .boolean) [.ref (gAd E (40)), .ref (gAd E (ka0)), .int (a1), .ref (gAd E (47)), .int (a3)] f (fun v g => v = some (.int r) ∧ CfV E g N B gr C ∧ Fr CfK f g, fun _ _ => False) := by
  obtain ⟨z1, z2, z3, z4, z5, z6, z7⟩ := id hz
  refine Ct.of (by decide) (Nat.le_of_ble_eq_true rfl) (fun sz => ?_)
  refine G.eql [(0, .ref (gAd E (40))), (1, .ref (gAd E (ka0))), (2, .int (a1)), (3, .ref (gAd E (47))), (4, .int (a3))] rfl ?_
  unfold d_X4_isNamed_47 at hr
  refine G.go tv_X4_isNamed 2 2 [(0, .ref (gAd E (40))), (1, .ref (gAd E (ka0))), (2, .int (a1)), (3, .ref (gAd E (47))), (4, .int (a3))] [.int (a1), .ref (gAd E (ka0))] rfl ?_
  obtain ⟨v30, hv30, hr⟩ := bnd_s hr
  refine G.callS [.ref (gAd E (ka0)), .int (a1)] [] (k_X2_two E _ N B gr C D A hz h hD hA ka0 na0 ga0 (wa0) a1 v30 hv30) cw_X4_49 w_878 (Nat.le_of_ble_eq_true rfl) rfl (Nat.le_of_ble_eq_true rfl) (tbd tv_X4_isNamed rfl) (fun v30w f30 q30 => ?_) (fun _ _ h => h.elim)
  obtain ⟨rfl, ha30, fa30⟩ := q30
  refine G.eqs [.int (v30)] rfl ?_
  refine G.if_eq 23 (tbd tv_X4_isNamed rfl) (by decide) (fun c5 => ?_) (fun c5 => ?_)
  · replace hr := ite_t c5 hr
    refine G.go tv_X4_isNamed 1 24 [(0, .ref (gAd E (40))), (1, .ref (gAd E (ka0))), (2, .int (a1)), (3, .ref (gAd E (47))), (4, .int (a3))] [.int ((0 : Int32))] rfl ?_
    cases hr
    exact G.iret rfl rfl ⟨rfl, ha30, (Fr.rf.tr fa30 (fun _ h => h))⟩ (tbd tv_X4_isNamed rfl)
  · replace hr := ite_f c5 hr
    refine G.go tv_X4_isNamed 4 12 [(0, .ref (gAd E (40))), (1, .ref (gAd E (ka0))), (2, .int (a1)), (3, .ref (gAd E (47))), (4, .int (a3))] [.int ((a1) + ((2 : Int32))), .ref (gAd E (ka0))] rfl ?_
    obtain ⟨v31, b31, e31, hr⟩ := ld_s hr
    refine G.arld hz ha30 (wa0) b31 e31 (tbd tv_X4_isNamed rfl) ?_
    refine G.go tv_X4_isNamed 1 14 [(0, .ref (gAd E (40))), (1, .ref (gAd E (ka0))), (2, .int (a1)), (3, .ref (gAd E (47))), (4, .int (a3))] [.ref (gAd E (47)), .int (v31)] rfl ?_
    refine G.getf cls_X8 (47) 1 (by omega) (ha30.q47) (by decide) rfl (tbd tv_X4_isNamed rfl) w_195 ?_
    refine G.go tv_X4_isNamed 1 19 [(0, .ref (gAd E (40))), (1, .ref (gAd E (ka0))), (2, .int (a1)), (3, .ref (gAd E (47))), (4, .int (a3))] [.int (a3), .ref (gAd E (49)), .int (v31)] rfl ?_
    obtain ⟨v32, b32, e32, hr⟩ := ld_s hr
    refine G.ialdE (49) (by omega) ((ha30.q49).trans (congrArg (oI (gDA E) (16)) (hD.2 49 (by decide)))) b32 e32 (tbd tv_X4_isNamed rfl) ?_
    refine G.cmp_eq 25 (tbd tv_X4_isNamed rfl) (by decide) (fun c20 => ?_) (fun c20 => ?_)
    · replace hr := ite_t c20 hr
      refine G.go tv_X4_isNamed 2 28 [(0, .ref (gAd E (40))), (1, .ref (gAd E (ka0))), (2, .int (a1)), (3, .ref (gAd E (47))), (4, .int (a3)), (5, .int ((0 : Int32)))] [] rfl ?_
      refine G.less [(0, .ref (gAd E (40))), (1, .ref (gAd E (ka0))), (2, .int (a1)), (3, .ref (gAd E (47))), (4, .int (a3)), (5, .int ((0 : Int32)))] [0, 1, 2, 3, 4, 5] rfl ?_
      exact l_X4_isNamed_47_28 E f sz _ N B gr C D A hz hD hA _ _ _ _ _ _ _ hr _ ha30 (Fr.rf.tr fa30 (fun _ h => h)) ka0 wa0
    · replace hr := ite_f c20 hr
      refine G.go tv_X4_isNamed 1 24 [(0, .ref (gAd E (40))), (1, .ref (gAd E (ka0))), (2, .int (a1)), (3, .ref (gAd E (47))), (4, .int (a3))] [.int ((0 : Int32))] rfl ?_
      cases hr
      exact G.iret rfl rfl ⟨rfl, ha30, (Fr.rf.tr fa30 (fun _ h => h))⟩ (tbd tv_X4_isNamed rfl)
def tb_X4_slotOf : List (Nat × Instr × Nat) := [(0, .aload_n 0, 1), (1, .iload_n 1, 1), (2, .invokevirtual 62, 3), (5, .istore 4, 2), (7, .aload_n 0, 1), (8, .getfield 19, 3), (11, .astore 5, 2), (13, .iconst 0, 1), (14, .istore 6, 2), (16, .iload 6, 2), (18, .iload 4, 2), (20, .if_icmp .ge 59, 3), (23, .iload 6, 2), (25, .bipush 8, 2), (27, .irem, 1), (28, .ifCond .ne 26, 3), (31, .aload_n 0, 1), (32, .getfield 9, 3), (35, .aload_n 0, 1), (36, .getfield 15, 3), (39, .iload_n 1, 1), (40, .iload 6, 2), (42, .bipush 8, 2), (44, .idiv, 1), (45, .iconst 0, 1), (46, .invokevirtual 29, 3), (49, .invokevirtual 33, 3), (52, .astore 5, 2), (54, .aload_n 0, 1), (55, .aload 5, 2), (57, .iload 6, 2), (59, .invokestatic 46, 3), (62, .aload_n 2, 1), (63, .iload_n 3, 1), (64, .invokevirtual 76, 3), (67, .ifCond .eq 6, 3), (70, .iload 6, 2), (72, .ireturn, 1), (73, .iinc 6 1, 3), (76, .goto (-60), 3), (79, .iconst (-1), 1), (80, .ireturn, 1)]
theorem tv_X4_slotOf : Tv cX4_slotOf tb_X4_slotOf := by
  unfold Tv
  decide +kernel
theorem w_1374 : Cond.methodLink "LedgerFiles$Folders" 76 yX4_isNamed ∈ TB := tp_6 28 (by decide +kernel) rfl
theorem w_1377 : Cond.code yX4_isNamed prog_6_method_12_code 6 (some .boolean) ∈ TB := tp_6 31 rfl rfl
theorem cw_X4_76 : Cw RX4 76 yX4_isNamed cX4_isNamed 6 (some .boolean) 4 := ⟨w_1374, w_1377, w_158, by decide +kernel, by decide +kernel, by decide⟩
theorem w_1376 : Cond.instanceMethod yX4_isNamed ∈ TB := tp_6 30 (by decide +kernel) rfl
theorem w_30 : Cond.selects "LedgerFiles$Folders" yX4_isNamed yX4_isNamed ∈ TB := tp_0 30 (by decide +kernel) rfl
def d_X4_slotOf_47_16 (N : Nat) (V : Nat → Rw) (D : CfT) : Nat → Int32 → Int32 → Int32 → (Nat → Int32) → Nat → Int32 → Option (Int32)
  | 0, _, _, _, _, _, _ => none
  | n + 1, x1, x3, x4, ga5, na5, x6 => if x4 ≤ x6 then some ((-1 : Int32)) else if ((x6) - (x6) / ((8 : Int32)) * ((8 : Int32))) = 0 then bnd (d_X7_reach N V D x1 ((x6) / ((8 : Int32))) ((0 : Int32))) (fun v40 => seeB N V v40 (fun y42 => bnd (d_X4_startOf N V D x6) (fun v43 => bnd (d_X4_isNamed_47 N V D y42 128 v43 x3) (fun v44 => if v44 = 0 then d_X4_slotOf_47_16 N V D n x1 x3 x4 y42 128 (x6 + (1 : Int32)) else some x6)))) else bnd (d_X4_startOf N V D x6) (fun v38 => bnd (d_X4_isNamed_47 N V D ga5 na5 v38 x3) (fun v39 => if v39 = 0 then d_X4_slotOf_47_16 N V D n x1 x3 x4 ga5 na5 (x6 + (1 : Int32)) else some x6))
def d_X4_slotOf_47 (N : Nat) (V : Nat → Rw) (D : CfT) (a0 : Int32) (a2 : Int32) : Option (Int32) := bnd (d_X4_slots N V D a0) (fun v37 => d_X4_slotOf_47_16 N V D fuL a0 a2 v37 (cA D 1) 1024 ((0 : Int32)))
set_option maxRecDepth 100000 in
set_option maxHeartbeats 4000000 in
theorem l_X4_slotOf_47_16 (E : gE) (f0 : Nat → va_E) (sz : Nat) (QA : Nat → Prop) (N B gr : Nat) (C D : CfT) (A : MS) (hz : CfZ E N B gr) (hD : Dq D C) (hA : AR N B gr A C) : ∀ (n : Nat), ∀ (x1 : Int32) (x3 : Int32) (x4 : Int32) (ga5 : Nat → Int32) (na5 : Nat) (x6 : Int32) (r : Int32) (hr : d_X4_slotOf_47_16 N (vA A) D n x1 x3 x4 ga5 na5 x6 = some r) (f : Nat → va_E) (h : CfV E f N B gr C) (hf : Fr CfK f0 f) (ka5 : Nat) (wa5 : ArK N B gr C ka5 na5 ga5), G E (5, yX4_slotOf, 7, (some .int), sz, QA) cX4_slotOf (gO E (5, yX4_slotOf, 7, (some .int), sz, QA) (fun v g => v = some (.int r) ∧ CfV E g N B gr C ∧ Fr CfK f0 g, fun _ _ => False)) 16 [(0, .ref (gAd E (40))), (1, .int (x1)), (2, .ref (gAd E (47))), (3, .int (x3)), (4, .int (x4)), (5, .ref (gAd E (ka5))), (6, .int (x6))] [] f := by
  obtain ⟨z1, z2, z3, z4, z5, z6, z7⟩ := id hz
  intro n
  induction n with
  | zero =>
    intro x1 x3 x4 ga5 na5 x6 r hr f h hf ka5 wa5
    cases hr
  | succ n ih =>
    intro x1 x3 x4 ga5 na5 x6 r hr f h hf ka5 wa5
    unfold d_X4_slotOf_47_16 at hr
    refine G.go tv_X4_slotOf 2 20 [(0, .ref (gAd E (40))), (1, .int (x1)), (2, .ref (gAd E (47))), (3, .int (x3)), (4, .int (x4)), (5, .ref (gAd E (ka5))), (6, .int (x6))] [.int (x4), .int (x6)] rfl ?_
    refine G.cmp_ge 79 (tbd tv_X4_slotOf rfl) (by decide) (fun c20 => ?_) (fun c20 => ?_)
    · replace hr := ite_t c20 hr
      refine G.go tv_X4_slotOf 1 80 [(0, .ref (gAd E (40))), (1, .int (x1)), (2, .ref (gAd E (47))), (3, .int (x3)), (4, .int (x4)), (5, .ref (gAd E (ka5))), (6, .int (x6))] [.int ((-1 : Int32))] rfl ?_
      cases hr
      exact G.iret rfl rfl ⟨rfl, h, hf⟩ (tbd tv_X4_slotOf rfl)
    · replace hr := ite_f c20 hr
      refine G.go tv_X4_slotOf 2 27 [(0, .ref (gAd E (40))), (1, .int (x1)), (2, .ref (gAd E (47))), (3, .int (x3)), (4, .int (x4)), (5, .ref (gAd E (ka5))), (6, .int (x6))] [.int ((8 : Int32)), .int (x6)] rfl ?_
      refine G.irem (by decide) (tbd tv_X4_slotOf rfl) ?_
      refine G.if_ne 54 (tbd tv_X4_slotOf rfl) (by decide) (fun c28 => ?_) (fun c28 => ?_)
      · replace hr := ite_f c28 hr
        refine G.go tv_X4_slotOf 3 59 [(0, .ref (gAd E (40))), (1, .int (x1)), (2, .ref (gAd E (47))), (3, .int (x3)), (4, .int (x4)), (5, .ref (gAd E (ka5))), (6, .int (x6))] [.int (x6), .ref (gAd E (ka5)), .ref (gAd E (40))] rfl ?_
        obtain ⟨v38, hv38, hr⟩ := bnd_s hr
        refine G.callS [.int (x6)] [.ref (gAd E (ka5)), .ref (gAd E (40))] (k_X4_startOf E _ N B gr C D A hz h hD hA x6 v38 hv38) cw_X4_46 w_1372 (Nat.le_of_ble_eq_true rfl) rfl (Nat.le_of_ble_eq_true rfl) (tbd tv_X4_slotOf rfl) (fun v38w f38 q38 => ?_) (fun _ _ h => h.elim)
        obtain ⟨rfl, ha38, fa38⟩ := q38
        refine G.eqs [.int (v38), .ref (gAd E (ka5)), .ref (gAd E (40))] rfl ?_
        refine G.go tv_X4_slotOf 2 64 [(0, .ref (gAd E (40))), (1, .int (x1)), (2, .ref (gAd E (47))), (3, .int (x3)), (4, .int (x4)), (5, .ref (gAd E (ka5))), (6, .int (x6))] [.int (x3), .ref (gAd E (47)), .int (v38), .ref (gAd E (ka5)), .ref (gAd E (40))] rfl ?_
        obtain ⟨v39, hv39, hr⟩ := bnd_s hr
        refine G.callV (40) [.ref (gAd E (ka5)), .int (v38), .ref (gAd E (47)), .int (x3)] [] (k_X4_isNamed_47 E _ N B gr C D A hz ha38 hD hA ka5 na5 ga5 (wa5) v38 x3 v39 hv39) cls_X4 (by omega) (ha38.q40) cw_X4_76 w_1376 w_30 (Nat.le_of_ble_eq_true rfl) rfl (Nat.le_of_ble_eq_true rfl) (tbd tv_X4_slotOf rfl) (fun v39w f39 q39 => ?_) (fun _ _ h => h.elim)
        obtain ⟨rfl, ha39, fa39⟩ := q39
        refine G.eqs [.int (v39)] rfl ?_
        refine G.if_eq 73 (tbd tv_X4_slotOf rfl) (by decide) (fun c67 => ?_) (fun c67 => ?_)
        · replace hr := ite_t c67 hr
          refine G.go tv_X4_slotOf 2 16 [(0, .ref (gAd E (40))), (1, .int (x1)), (2, .ref (gAd E (47))), (3, .int (x3)), (4, .int (x4)), (5, .ref (gAd E (ka5))), (6, .int (x6 + (1 : Int32)))] [] rfl ?_
          refine G.less [(0, .ref (gAd E (40))), (1, .int (x1)), (2, .ref (gAd E (47))), (3, .int (x3)), (4, .int (x4)), (5, .ref (gAd E (ka5))), (6, .int (x6 + (1 : Int32)))] [0, 1, 2, 3, 4, 5, 6] rfl ?_
          exact ih _ _ _ _ _ _ _ hr _ ha39 ((hf.tr fa38 (fun _ h => h)).tr fa39 (fun _ h => h)) ka5 wa5
        · replace hr := ite_f c67 hr
          refine G.go tv_X4_slotOf 1 72 [(0, .ref (gAd E (40))), (1, .int (x1)), (2, .ref (gAd E (47))), (3, .int (x3)), (4, .int (x4)), (5, .ref (gAd E (ka5))), (6, .int (x6))] [.int (x6)] rfl ?_
          cases hr
          exact G.iret rfl rfl ⟨rfl, ha39, ((hf.tr fa38 (fun _ h => h)).tr fa39 (fun _ h => h))⟩ (tbd tv_X4_slotOf rfl)
      · replace hr := ite_t c28 hr
        refine G.go tv_X4_slotOf 1 32 [(0, .ref (gAd E (40))), (1, .int (x1)), (2, .ref (gAd E (47))), (3, .int (x3)), (4, .int (x4)), (5, .ref (gAd E (ka5))), (6, .int (x6))] [.ref (gAd E (40))] rfl ?_
        refine G.getf cls_X4 (40) 0 (by omega) (h.q40) (by decide) rfl (tbd tv_X4_slotOf rfl) w_509 ?_
        refine G.go tv_X4_slotOf 1 36 [(0, .ref (gAd E (40))), (1, .int (x1)), (2, .ref (gAd E (47))), (3, .int (x3)), (4, .int (x4)), (5, .ref (gAd E (ka5))), (6, .int (x6))] [.ref (gAd E (40)), .ref (gAd E (25))] rfl ?_
        refine G.getf cls_X4 (40) 1 (by omega) (h.q40) (by decide) rfl (tbd tv_X4_slotOf rfl) w_510 ?_
        refine G.go tv_X4_slotOf 3 44 [(0, .ref (gAd E (40))), (1, .int (x1)), (2, .ref (gAd E (47))), (3, .int (x3)), (4, .int (x4)), (5, .ref (gAd E (ka5))), (6, .int (x6))] [.int ((8 : Int32)), .int (x6), .int (x1), .ref (gAd E (37)), .ref (gAd E (25))] rfl ?_
        refine G.idiv (by decide) (tbd tv_X4_slotOf rfl) ?_
        refine G.go tv_X4_slotOf 1 46 [(0, .ref (gAd E (40))), (1, .int (x1)), (2, .ref (gAd E (47))), (3, .int (x3)), (4, .int (x4)), (5, .ref (gAd E (ka5))), (6, .int (x6))] [.int ((0 : Int32)), .int ((x6) / ((8 : Int32))), .int (x1), .ref (gAd E (37)), .ref (gAd E (25))] rfl ?_
        obtain ⟨v40, hv40, hr⟩ := bnd_s hr
        refine G.callV (37) [.int (x1), .int ((x6) / ((8 : Int32))), .int ((0 : Int32))] [.ref (gAd E (25))] (k_X7_reach E _ N B gr C D A hz h hD hA x1 ((x6) / ((8 : Int32))) ((0 : Int32)) v40 hv40) cls_X7 (by omega) (h.q37) cw_X4_29 w_954 w_955 (Nat.le_of_ble_eq_true rfl) rfl (Nat.le_of_ble_eq_true rfl) (tbd tv_X4_slotOf rfl) (fun v40w f40 q40 => ?_) (fun _ _ h => h.elim)
        obtain ⟨rfl, ha40, fa40⟩ := q40
        refine G.eqs [.int (v40), .ref (gAd E (25))] rfl ?_
        obtain ⟨y42, b42, e42, hr⟩ := seeB_s hr
        refine G.callV (25) [.int (v40)] [] (k_see E _ N B gr C A hz ha40 hA _ b42 _ e42) cls_X10 (by omega) (ha40.q25) cw_X4_33 w_910 w_911 (Nat.le_of_ble_eq_true rfl) rfl (Nat.le_of_ble_eq_true rfl) (tbd tv_X4_slotOf rfl) (fun v42w f42 q42 => ?_) (fun _ _ h => h.elim)
        obtain ⟨⟨k42, rfl, w42⟩, ha42, fa42⟩ := q42
        refine G.eqs [.ref (gAd E (k42))] rfl ?_
        refine G.go tv_X4_slotOf 4 59 [(0, .ref (gAd E (40))), (1, .int (x1)), (2, .ref (gAd E (47))), (3, .int (x3)), (4, .int (x4)), (5, .ref (gAd E (k42))), (6, .int (x6))] [.int (x6), .ref (gAd E (k42)), .ref (gAd E (40))] rfl ?_
        obtain ⟨v43, hv43, hr⟩ := bnd_s hr
        refine G.callS [.int (x6)] [.ref (gAd E (k42)), .ref (gAd E (40))] (k_X4_startOf E _ N B gr C D A hz ha42 hD hA x6 v43 hv43) cw_X4_46 w_1372 (Nat.le_of_ble_eq_true rfl) rfl (Nat.le_of_ble_eq_true rfl) (tbd tv_X4_slotOf rfl) (fun v43w f43 q43 => ?_) (fun _ _ h => h.elim)
        obtain ⟨rfl, ha43, fa43⟩ := q43
        refine G.eqs [.int (v43), .ref (gAd E (k42)), .ref (gAd E (40))] rfl ?_
        refine G.go tv_X4_slotOf 2 64 [(0, .ref (gAd E (40))), (1, .int (x1)), (2, .ref (gAd E (47))), (3, .int (x3)), (4, .int (x4)), (5, .ref (gAd E (k42))), (6, .int (x6))] [.int (x3), .ref (gAd E (47)), .int (v43), .ref (gAd E (k42)), .ref (gAd E (40))] rfl ?_
        obtain ⟨v44, hv44, hr⟩ := bnd_s hr
        refine G.callV (40) [.ref (gAd E (k42)), .int (v43), .ref (gAd E (47)), .int (x3)] [] (k_X4_isNamed_47 E _ N B gr C D A hz ha43 hD hA k42 128 y42 (w42) v43 x3 v44 hv44) cls_X4 (by omega) (ha43.q40) cw_X4_76 w_1376 w_30 (Nat.le_of_ble_eq_true rfl) rfl (Nat.le_of_ble_eq_true rfl) (tbd tv_X4_slotOf rfl) (fun v44w f44 q44 => ?_) (fun _ _ h => h.elim)
        obtain ⟨rfl, ha44, fa44⟩ := q44
        refine G.eqs [.int (v44)] rfl ?_
        refine G.if_eq 73 (tbd tv_X4_slotOf rfl) (by decide) (fun c67 => ?_) (fun c67 => ?_)
        · replace hr := ite_t c67 hr
          refine G.go tv_X4_slotOf 2 16 [(0, .ref (gAd E (40))), (1, .int (x1)), (2, .ref (gAd E (47))), (3, .int (x3)), (4, .int (x4)), (5, .ref (gAd E (k42))), (6, .int (x6 + (1 : Int32)))] [] rfl ?_
          refine G.less [(0, .ref (gAd E (40))), (1, .int (x1)), (2, .ref (gAd E (47))), (3, .int (x3)), (4, .int (x4)), (5, .ref (gAd E (k42))), (6, .int (x6 + (1 : Int32)))] [0, 1, 2, 3, 4, 5, 6] rfl ?_
          exact ih _ _ _ _ _ _ _ hr _ ha44 ((((hf.tr fa40 (fun _ h => h)).tr fa42 (fun _ h => h)).tr fa43 (fun _ h => h)).tr fa44 (fun _ h => h)) k42 w42
        · replace hr := ite_f c67 hr
          refine G.go tv_X4_slotOf 1 72 [(0, .ref (gAd E (40))), (1, .int (x1)), (2, .ref (gAd E (47))), (3, .int (x3)), (4, .int (x4)), (5, .ref (gAd E (k42))), (6, .int (x6))] [.int (x6)] rfl ?_
          cases hr
          exact G.iret rfl rfl ⟨rfl, ha44, ((((hf.tr fa40 (fun _ h => h)).tr fa42 (fun _ h => h)).tr fa43 (fun _ h => h)).tr fa44 (fun _ h => h))⟩ (tbd tv_X4_slotOf rfl)
set_option maxRecDepth 100000 in
set_option maxHeartbeats 4000000 in
theorem k_X4_slotOf_47 (E : gE) (f : Nat → va_E) (N B gr : Nat) (C D : CfT) (A : MS) (hz : CfZ E N B gr) (h : CfV E f N B gr C) (hD : Dq D C) (hA : AR N B gr A C) (a0 : Int32) (a2 : Int32) (r : Int32) (hr : d_X4_slotOf_47 N (vA A) D a0 a2 = some r) : Ct E 5 yX4_slotOf cX4_slotOf 7 (some .int) [.ref (gAd E (40)), .int (a0), .ref (gAd E (47)), .int (a2)] f (fun v g => v = some (.int r) ∧ CfV E g N B gr C ∧ Fr CfK f g, fun _ _ => False) := by
  obtain ⟨z1, z2, z3, z4, z5, z6, z7⟩ := id hz
  refine Ct.of (by decide) (Nat.le_of_ble_eq_true rfl) (fun sz => ?_)
  refine G.eql [(0, .ref (gAd E (40))), (1, .int (a0)), (2, .ref (gAd E (47))), (3, .int (a2))] rfl ?_
  unfold d_X4_slotOf_47 at hr
  refine G.go tv_X4_slotOf 2 2 [(0, .ref (gAd E (40))), (1, .int (a0)), (2, .ref (gAd E (47))), (3, .int (a2))] [.int (a0), .ref (gAd E (40))] rfl ?_
  obtain ⟨v37, hv37, hr⟩ := bnd_s hr
  refine G.callV (40) [.int (a0)] [] (k_X4_slots E _ N B gr C D A hz h hD hA a0 v37 hv37) cls_X4 (by omega) (h.q40) cw_X4_62 w_1365 w_1366 (Nat.le_of_ble_eq_true rfl) rfl (Nat.le_of_ble_eq_true rfl) (tbd tv_X4_slotOf rfl) (fun v37w f37 q37 => ?_) (fun _ _ h => h.elim)
  obtain ⟨rfl, ha37, fa37⟩ := q37
  refine G.eqs [.int (v37)] rfl ?_
  refine G.go tv_X4_slotOf 2 8 [(0, .ref (gAd E (40))), (1, .int (a0)), (2, .ref (gAd E (47))), (3, .int (a2)), (4, .int (v37))] [.ref (gAd E (40))] rfl ?_
  refine G.getf cls_X4 (40) 2 (by omega) (ha37.q40) (by decide) rfl (tbd tv_X4_slotOf rfl) w_511 ?_
  refine G.go tv_X4_slotOf 3 16 [(0, .ref (gAd E (40))), (1, .int (a0)), (2, .ref (gAd E (47))), (3, .int (a2)), (4, .int (v37)), (5, .ref (gAd E (1))), (6, .int ((0 : Int32)))] [] rfl ?_
  refine G.less [(0, .ref (gAd E (40))), (1, .int (a0)), (2, .ref (gAd E (47))), (3, .int (a2)), (4, .int (v37)), (5, .ref (gAd E (1))), (6, .int ((0 : Int32)))] [0, 1, 2, 3, 4, 5, 6] rfl ?_
  exact l_X4_slotOf_47_16 E f sz _ N B gr C D A hz hD hA _ _ _ _ _ _ _ _ hr _ ha37 (Fr.rf.tr fa37 (fun _ h => h)) 1 ((ArK.tp hD))
def tb_X4_walk : List (Nat × Instr × Nat) := [(0, .iconst 1, 1), (1, .istore_n 3, 1), (2, .iconst 0, 1), (3, .istore 4, 2), (5, .iload 4, 2), (7, .iload_n 2, 1), (8, .if_icmp .ge 50, 3), (11, .aload_n 0, 1), (12, .getfield 15, 3), (15, .iload_n 3, 1), (16, .invokevirtual 59, 3), (19, .iconst 2, 1), (20, .if_icmp .eq 6, 3), (23, .bipush (-3), 2), (25, .ireturn, 1), (26, .aload_n 0, 1), (27, .iload_n 3, 1), (28, .aload_n 1, 1), (29, .iload 4, 2), (31, .invokevirtual 80, 3), (34, .istore 5, 2), (36, .iload 5, 2), (38, .iconst (-1), 1), (39, .if_icmp .ne 5, 3), (42, .iconst (-1), 1), (43, .ireturn, 1), (44, .aload_n 0, 1), (45, .iload_n 3, 1), (46, .iload 5, 2), (48, .invokevirtual 65, 3), (51, .istore_n 3, 1), (52, .iinc 4 1, 3), (55, .goto (-50), 3), (58, .iload_n 2, 1), (59, .aload_n 1, 1), (60, .getfield 84, 3), (63, .if_icmp .ge 20, 3), (66, .aload_n 0, 1), (67, .getfield 15, 3), (70, .iload_n 3, 1), (71, .invokevirtual 59, 3), (74, .iconst 2, 1), (75, .if_icmp .eq 8, 3), (78, .bipush (-3), 2), (80, .goto 4, 3), (83, .iload_n 3, 1), (84, .ireturn, 1)]
theorem tv_X4_walk : Tv cX4_walk tb_X4_walk := by
  unfold Tv
  decide +kernel
theorem w_197 : Cond.fieldLink "LedgerFiles$Folders" 84 "LedgerFiles$Path" "depth" "I" ∈ TB := tp_1 51 (by decide +kernel) rfl
theorem w_1360 : Cond.methodLink "LedgerFiles$Folders" 80 yX4_slotOf ∈ TB := tp_6 14 (by decide +kernel) rfl
theorem w_1363 : Cond.code yX4_slotOf prog_6_method_13_code 7 (some .int) ∈ TB := tp_6 17 rfl rfl
theorem cw_X4_80 : Cw RX4 80 yX4_slotOf cX4_slotOf 7 (some .int) 3 := ⟨w_1360, w_1363, w_158, by decide +kernel, by decide +kernel, by decide⟩
theorem w_1361 : Cond.instanceMethod yX4_slotOf ∈ TB := tp_6 15 (by decide +kernel) rfl
theorem w_1362 : Cond.selects "LedgerFiles$Folders" yX4_slotOf yX4_slotOf ∈ TB := tp_6 16 (by decide +kernel) rfl
def d_X4_walk_47_5 (N : Nat) (V : Nat → Rw) (D : CfT) : Nat → Int32 → Int32 → Int32 → Option (Int32)
  | 0, _, _, _ => none
  | n + 1, x2, x3, x4 => if x2 ≤ x4 then if (cS D 4702) ≤ x2 then some x3 else bnd (d_X7_kind N V D x3) (fun v45 => if v45 = ((2 : Int32)) then some x3 else some ((-3 : Int32))) else bnd (d_X7_kind N V D x3) (fun v46 => if v46 = ((2 : Int32)) then bnd (d_X4_slotOf_47 N V D x3 x4) (fun v47 => if v47 = ((-1 : Int32)) then some ((-1 : Int32)) else bnd (d_X4_inodeAt N V D x3 v47) (fun v48 => d_X4_walk_47_5 N V D n x2 v48 (x4 + (1 : Int32)))) else some ((-3 : Int32)))
def d_X4_walk_47 (N : Nat) (V : Nat → Rw) (D : CfT) (a1 : Int32) : Option (Int32) := d_X4_walk_47_5 N V D fuL a1 ((1 : Int32)) ((0 : Int32))
set_option maxRecDepth 100000 in
set_option maxHeartbeats 4000000 in
theorem l_X4_walk_47_5 (E : gE) (f0 : Nat → va_E) (sz : Nat) (QA : Nat → Prop) (N B gr : Nat) (C D : CfT) (A : MS) (hz : CfZ E N B gr) (hD : Dq D C) (hA : AR N B gr A C) : ∀ (n : Nat), ∀ (x2 : Int32) (x3 : Int32) (x4 : Int32) (r : Int32) (hr : d_X4_walk_47_5 N (vA A) D n x2 x3 x4 = some r) (f : Nat → va_E) (h : CfV E f N B gr C) (hf : Fr CfK f0 f), G E (6, yX4_walk, 6, (some .int), sz, QA) cX4_walk (gO E (6, yX4_walk, 6, (some .int), sz, QA) (fun v g => v = some (.int r) ∧ CfV E g N B gr C ∧ Fr CfK f0 g, fun _ _ => False)) 5 [(0, .ref (gAd E (40))), (1, .ref (gAd E (47))), (2, .int (x2)), (3, .int (x3)), (4, .int (x4))] [] f := by
  obtain ⟨z1, z2, z3, z4, z5, z6, z7⟩ := id hz
  intro n
  induction n with
  | zero =>
    intro x2 x3 x4 r hr f h hf
    cases hr
  | succ n ih =>
    intro x2 x3 x4 r hr f h hf
    unfold d_X4_walk_47_5 at hr
    refine G.go tv_X4_walk 2 8 [(0, .ref (gAd E (40))), (1, .ref (gAd E (47))), (2, .int (x2)), (3, .int (x3)), (4, .int (x4))] [.int (x2), .int (x4)] rfl ?_
    refine G.cmp_ge 58 (tbd tv_X4_walk rfl) (by decide) (fun c8 => ?_) (fun c8 => ?_)
    · replace hr := ite_t c8 hr
      refine G.go tv_X4_walk 2 60 [(0, .ref (gAd E (40))), (1, .ref (gAd E (47))), (2, .int (x2)), (3, .int (x3)), (4, .int (x4))] [.ref (gAd E (47)), .int (x2)] rfl ?_
      refine G.getf cls_X8 (47) 2 (by omega) (h.q47) (by decide) rfl (tbd tv_X4_walk rfl) w_197 ?_
      refine G.eq1 (b := cS D 4702) (hD.1 4702 (by decide)) ?_
      refine G.cmp_ge 83 (tbd tv_X4_walk rfl) (by decide) (fun c63 => ?_) (fun c63 => ?_)
      · replace hr := ite_t c63 hr
        refine G.go tv_X4_walk 1 84 [(0, .ref (gAd E (40))), (1, .ref (gAd E (47))), (2, .int (x2)), (3, .int (x3)), (4, .int (x4))] [.int (x3)] rfl ?_
        cases hr
        exact G.iret rfl rfl ⟨rfl, h, hf⟩ (tbd tv_X4_walk rfl)
      · replace hr := ite_f c63 hr
        refine G.go tv_X4_walk 1 67 [(0, .ref (gAd E (40))), (1, .ref (gAd E (47))), (2, .int (x2)), (3, .int (x3)), (4, .int (x4))] [.ref (gAd E (40))] rfl ?_
        refine G.getf cls_X4 (40) 1 (by omega) (h.q40) (by decide) rfl (tbd tv_X4_walk rfl) w_510 ?_
        refine G.go tv_X4_walk 1 71 [(0, .ref (gAd E (40))), (1, .ref (gAd E (47))), (2, .int (x2)), (3, .int (x3)), (4, .int (x4))] [.int (x3), .ref (gAd E (37))] rfl ?_
        obtain ⟨v45, hv45, hr⟩ := bnd_s hr
        refine G.callV (37) [.int (x3)] [] (k_X7_kind E _ N B gr C D A hz h hD hA x3 v45 hv45) cls_X7 (by omega) (h.q37) cw_X4_59 w_903 w_904 (Nat.le_of_ble_eq_true rfl) rfl (Nat.le_of_ble_eq_true rfl) (tbd tv_X4_walk rfl) (fun v45w f45 q45 => ?_) (fun _ _ h => h.elim)
        obtain ⟨rfl, ha45, fa45⟩ := q45
        refine G.eqs [.int (v45)] rfl ?_
        refine G.go tv_X4_walk 1 75 [(0, .ref (gAd E (40))), (1, .ref (gAd E (47))), (2, .int (x2)), (3, .int (x3)), (4, .int (x4))] [.int ((2 : Int32)), .int (v45)] rfl ?_
        refine G.cmp_eq 83 (tbd tv_X4_walk rfl) (by decide) (fun c75 => ?_) (fun c75 => ?_)
        · replace hr := ite_t c75 hr
          refine G.go tv_X4_walk 1 84 [(0, .ref (gAd E (40))), (1, .ref (gAd E (47))), (2, .int (x2)), (3, .int (x3)), (4, .int (x4))] [.int (x3)] rfl ?_
          cases hr
          exact G.iret rfl rfl ⟨rfl, ha45, (hf.tr fa45 (fun _ h => h))⟩ (tbd tv_X4_walk rfl)
        · replace hr := ite_f c75 hr
          refine G.go tv_X4_walk 2 84 [(0, .ref (gAd E (40))), (1, .ref (gAd E (47))), (2, .int (x2)), (3, .int (x3)), (4, .int (x4))] [.int ((-3 : Int32))] rfl ?_
          cases hr
          exact G.iret rfl rfl ⟨rfl, ha45, (hf.tr fa45 (fun _ h => h))⟩ (tbd tv_X4_walk rfl)
    · replace hr := ite_f c8 hr
      refine G.go tv_X4_walk 1 12 [(0, .ref (gAd E (40))), (1, .ref (gAd E (47))), (2, .int (x2)), (3, .int (x3)), (4, .int (x4))] [.ref (gAd E (40))] rfl ?_
      refine G.getf cls_X4 (40) 1 (by omega) (h.q40) (by decide) rfl (tbd tv_X4_walk rfl) w_510 ?_
      refine G.go tv_X4_walk 1 16 [(0, .ref (gAd E (40))), (1, .ref (gAd E (47))), (2, .int (x2)), (3, .int (x3)), (4, .int (x4))] [.int (x3), .ref (gAd E (37))] rfl ?_
      obtain ⟨v46, hv46, hr⟩ := bnd_s hr
      refine G.callV (37) [.int (x3)] [] (k_X7_kind E _ N B gr C D A hz h hD hA x3 v46 hv46) cls_X7 (by omega) (h.q37) cw_X4_59 w_903 w_904 (Nat.le_of_ble_eq_true rfl) rfl (Nat.le_of_ble_eq_true rfl) (tbd tv_X4_walk rfl) (fun v46w f46 q46 => ?_) (fun _ _ h => h.elim)
      obtain ⟨rfl, ha46, fa46⟩ := q46
      refine G.eqs [.int (v46)] rfl ?_
      refine G.go tv_X4_walk 1 20 [(0, .ref (gAd E (40))), (1, .ref (gAd E (47))), (2, .int (x2)), (3, .int (x3)), (4, .int (x4))] [.int ((2 : Int32)), .int (v46)] rfl ?_
      refine G.cmp_eq 26 (tbd tv_X4_walk rfl) (by decide) (fun c20 => ?_) (fun c20 => ?_)
      · replace hr := ite_t c20 hr
        refine G.go tv_X4_walk 4 31 [(0, .ref (gAd E (40))), (1, .ref (gAd E (47))), (2, .int (x2)), (3, .int (x3)), (4, .int (x4))] [.int (x4), .ref (gAd E (47)), .int (x3), .ref (gAd E (40))] rfl ?_
        obtain ⟨v47, hv47, hr⟩ := bnd_s hr
        refine G.callV (40) [.int (x3), .ref (gAd E (47)), .int (x4)] [] (k_X4_slotOf_47 E _ N B gr C D A hz ha46 hD hA x3 x4 v47 hv47) cls_X4 (by omega) (ha46.q40) cw_X4_80 w_1361 w_1362 (Nat.le_of_ble_eq_true rfl) rfl (Nat.le_of_ble_eq_true rfl) (tbd tv_X4_walk rfl) (fun v47w f47 q47 => ?_) (fun _ _ h => h.elim)
        obtain ⟨rfl, ha47, fa47⟩ := q47
        refine G.eqs [.int (v47)] rfl ?_
        refine G.go tv_X4_walk 3 39 [(0, .ref (gAd E (40))), (1, .ref (gAd E (47))), (2, .int (x2)), (3, .int (x3)), (4, .int (x4)), (5, .int (v47))] [.int ((-1 : Int32)), .int (v47)] rfl ?_
        refine G.cmp_ne 44 (tbd tv_X4_walk rfl) (by decide) (fun c39 => ?_) (fun c39 => ?_)
        · replace hr := ite_f c39 hr
          refine G.go tv_X4_walk 3 48 [(0, .ref (gAd E (40))), (1, .ref (gAd E (47))), (2, .int (x2)), (3, .int (x3)), (4, .int (x4)), (5, .int (v47))] [.int (v47), .int (x3), .ref (gAd E (40))] rfl ?_
          obtain ⟨v48, hv48, hr⟩ := bnd_s hr
          refine G.callV (40) [.int (x3), .int (v47)] [] (k_X4_inodeAt E _ N B gr C D A hz ha47 hD hA x3 v47 v48 hv48) cls_X4 (by omega) (ha47.q40) cw_X4_65 w_1380 w_1381 (Nat.le_of_ble_eq_true rfl) rfl (Nat.le_of_ble_eq_true rfl) (tbd tv_X4_walk rfl) (fun v48w f48 q48 => ?_) (fun _ _ h => h.elim)
          obtain ⟨rfl, ha48, fa48⟩ := q48
          refine G.eqs [.int (v48)] rfl ?_
          refine G.go tv_X4_walk 3 5 [(0, .ref (gAd E (40))), (1, .ref (gAd E (47))), (2, .int (x2)), (3, .int (v48)), (4, .int (x4 + (1 : Int32))), (5, .int (v47))] [] rfl ?_
          refine G.less [(0, .ref (gAd E (40))), (1, .ref (gAd E (47))), (2, .int (x2)), (3, .int (v48)), (4, .int (x4 + (1 : Int32)))] [0, 1, 2, 3, 4] rfl ?_
          exact ih _ _ _ _ hr _ ha48 (((hf.tr fa46 (fun _ h => h)).tr fa47 (fun _ h => h)).tr fa48 (fun _ h => h))
        · replace hr := ite_t c39 hr
          refine G.go tv_X4_walk 1 43 [(0, .ref (gAd E (40))), (1, .ref (gAd E (47))), (2, .int (x2)), (3, .int (x3)), (4, .int (x4)), (5, .int (v47))] [.int ((-1 : Int32))] rfl ?_
          cases hr
          exact G.iret rfl rfl ⟨rfl, ha47, ((hf.tr fa46 (fun _ h => h)).tr fa47 (fun _ h => h))⟩ (tbd tv_X4_walk rfl)
      · replace hr := ite_f c20 hr
        refine G.go tv_X4_walk 1 25 [(0, .ref (gAd E (40))), (1, .ref (gAd E (47))), (2, .int (x2)), (3, .int (x3)), (4, .int (x4))] [.int ((-3 : Int32))] rfl ?_
        cases hr
        exact G.iret rfl rfl ⟨rfl, ha46, (hf.tr fa46 (fun _ h => h))⟩ (tbd tv_X4_walk rfl)
set_option maxRecDepth 100000 in
set_option maxHeartbeats 4000000 in
theorem k_X4_walk_47 (E : gE) (f : Nat → va_E) (N B gr : Nat) (C D : CfT) (A : MS) (hz : CfZ E N B gr) (h : CfV E f N B gr C) (hD : Dq D C) (hA : AR N B gr A C) (a1 : Int32) (r : Int32) (hr : d_X4_walk_47 N (vA A) D a1 = some r) : Ct E 6 yX4_walk cX4_walk 6 (some .int) [.ref (gAd E (40)), .ref (gAd E (47)), .int (a1)] f (fun v g => v = some (.int r) ∧ CfV E g N B gr C ∧ Fr CfK f g, fun _ _ => False) := by
  obtain ⟨z1, z2, z3, z4, z5, z6, z7⟩ := id hz
  refine Ct.of (by decide) (Nat.le_of_ble_eq_true rfl) (fun sz => ?_)
  refine G.eql [(0, .ref (gAd E (40))), (1, .ref (gAd E (47))), (2, .int (a1))] rfl ?_
  unfold d_X4_walk_47 at hr
  refine G.go tv_X4_walk 4 5 [(0, .ref (gAd E (40))), (1, .ref (gAd E (47))), (2, .int (a1)), (3, .int ((1 : Int32))), (4, .int ((0 : Int32)))] [] rfl ?_
  refine G.less [(0, .ref (gAd E (40))), (1, .ref (gAd E (47))), (2, .int (a1)), (3, .int ((1 : Int32))), (4, .int ((0 : Int32)))] [0, 1, 2, 3, 4] rfl ?_
  exact l_X4_walk_47_5 E f sz _ N B gr C D A hz hD hA _ _ _ _ _ hr _ h Fr.rf
def d_X4_isNamed_50_28 (N : Nat) (V : Nat → Rw) (D : CfT) : Nat → (Nat → Int32) → Nat → Int32 → Int32 → Int32 → Option (Int32)
  | 0, _, _, _, _, _ => none
  | n + 1, ga1, na1, x2, x4, x5 => ld (cA D 52) 16 x4 (fun v52 => if v52 ≤ x5 then some ((1 : Int32)) else ld ga1 na1 (((x2) + ((3 : Int32))) + (x5)) (fun v53 => ld (cA D 51) 16 x4 (fun v54 => ld (cA D 1) 1024 ((v54) + (x5)) (fun v55 => if v53 = v55 then d_X4_isNamed_50_28 N V D n ga1 na1 x2 x4 (x5 + (1 : Int32)) else some ((0 : Int32))))))
def d_X4_isNamed_50 (N : Nat) (V : Nat → Rw) (D : CfT) (ga0 : Nat → Int32) (na0 : Nat) (a1 : Int32) (a3 : Int32) : Option (Int32) := bnd (d_X2_two N V D ga0 na0 a1) (fun v49 => if v49 = 0 then some ((0 : Int32)) else ld ga0 na0 ((a1) + ((2 : Int32))) (fun v50 => ld (cA D 52) 16 a3 (fun v51 => if v50 = v51 then d_X4_isNamed_50_28 N V D fuL ga0 na0 a1 a3 ((0 : Int32)) else some ((0 : Int32)))))
set_option maxRecDepth 100000 in
set_option maxHeartbeats 4000000 in
theorem l_X4_isNamed_50_28 (E : gE) (f0 : Nat → va_E) (sz : Nat) (QA : Nat → Prop) (N B gr : Nat) (C D : CfT) (A : MS) (hz : CfZ E N B gr) (hD : Dq D C) (hA : AR N B gr A C) : ∀ (n : Nat), ∀ (ga1 : Nat → Int32) (na1 : Nat) (x2 : Int32) (x4 : Int32) (x5 : Int32) (r : Int32) (hr : d_X4_isNamed_50_28 N (vA A) D n ga1 na1 x2 x4 x5 = some r) (f : Nat → va_E) (h : CfV E f N B gr C) (hf : Fr CfK f0 f) (ka1 : Nat) (wa1 : ArK N B gr C ka1 na1 ga1), G E (2, yX4_isNamed, 6, (some .boolean), sz, QA) cX4_isNamed (gO E (2, yX4_isNamed, 6, (some .boolean), sz, QA) (fun v g => v = some (.int r) ∧ CfV E g N B gr C ∧ Fr CfK f0 g, fun _ _ => False)) 28 [(0, .ref (gAd E (40))), (1, .ref (gAd E (ka1))), (2, .int (x2)), (3, .ref (gAd E (50))), (4, .int (x4)), (5, .int (x5))] [] f := by
  obtain ⟨z1, z2, z3, z4, z5, z6, z7⟩ := id hz
  intro n
  induction n with
  | zero =>
    intro ga1 na1 x2 x4 x5 r hr f h hf ka1 wa1
    cases hr
  | succ n ih =>
    intro ga1 na1 x2 x4 x5 r hr f h hf ka1 wa1
    unfold d_X4_isNamed_50_28 at hr
    refine G.go tv_X4_isNamed 2 31 [(0, .ref (gAd E (40))), (1, .ref (gAd E (ka1))), (2, .int (x2)), (3, .ref (gAd E (50))), (4, .int (x4)), (5, .int (x5))] [.ref (gAd E (50)), .int (x5)] rfl ?_
    refine G.getf cls_X8 (50) 1 (by omega) (h.q50) (by decide) rfl (tbd tv_X4_isNamed rfl) w_195 ?_
    refine G.go tv_X4_isNamed 1 36 [(0, .ref (gAd E (40))), (1, .ref (gAd E (ka1))), (2, .int (x2)), (3, .ref (gAd E (50))), (4, .int (x4)), (5, .int (x5))] [.int (x4), .ref (gAd E (52)), .int (x5)] rfl ?_
    obtain ⟨v52, b52, e52, hr⟩ := ld_s hr
    refine G.ialdE (52) (by omega) ((h.q52).trans (congrArg (oI (gDA E) (16)) (hD.2 52 (by decide)))) b52 e52 (tbd tv_X4_isNamed rfl) ?_
    refine G.cmp_ge 74 (tbd tv_X4_isNamed rfl) (by decide) (fun c37 => ?_) (fun c37 => ?_)
    · replace hr := ite_t c37 hr
      refine G.go tv_X4_isNamed 1 75 [(0, .ref (gAd E (40))), (1, .ref (gAd E (ka1))), (2, .int (x2)), (3, .ref (gAd E (50))), (4, .int (x4)), (5, .int (x5))] [.int ((1 : Int32))] rfl ?_
      cases hr
      exact G.iret rfl rfl ⟨rfl, h, hf⟩ (tbd tv_X4_isNamed rfl)
    · replace hr := ite_f c37 hr
      refine G.go tv_X4_isNamed 6 47 [(0, .ref (gAd E (40))), (1, .ref (gAd E (ka1))), (2, .int (x2)), (3, .ref (gAd E (50))), (4, .int (x4)), (5, .int (x5))] [.int (((x2) + ((3 : Int32))) + (x5)), .ref (gAd E (ka1))] rfl ?_
      obtain ⟨v53, b53, e53, hr⟩ := ld_s hr
      refine G.arld hz h (wa1) b53 e53 (tbd tv_X4_isNamed rfl) ?_
      refine G.go tv_X4_isNamed 1 49 [(0, .ref (gAd E (40))), (1, .ref (gAd E (ka1))), (2, .int (x2)), (3, .ref (gAd E (50))), (4, .int (x4)), (5, .int (x5))] [.ref (gAd E (40)), .int (v53)] rfl ?_
      refine G.getf cls_X4 (40) 2 (by omega) (h.q40) (by decide) rfl (tbd tv_X4_isNamed rfl) w_511 ?_
      refine G.go tv_X4_isNamed 1 53 [(0, .ref (gAd E (40))), (1, .ref (gAd E (ka1))), (2, .int (x2)), (3, .ref (gAd E (50))), (4, .int (x4)), (5, .int (x5))] [.ref (gAd E (50)), .ref (gAd E (1)), .int (v53)] rfl ?_
      refine G.getf cls_X8 (50) 0 (by omega) (h.q50) (by decide) rfl (tbd tv_X4_isNamed rfl) w_193 ?_
      refine G.go tv_X4_isNamed 1 58 [(0, .ref (gAd E (40))), (1, .ref (gAd E (ka1))), (2, .int (x2)), (3, .ref (gAd E (50))), (4, .int (x4)), (5, .int (x5))] [.int (x4), .ref (gAd E (51)), .ref (gAd E (1)), .int (v53)] rfl ?_
      obtain ⟨v54, b54, e54, hr⟩ := ld_s hr
      refine G.ialdE (51) (by omega) ((h.q51).trans (congrArg (oI (gDA E) (16)) (hD.2 51 (by decide)))) b54 e54 (tbd tv_X4_isNamed rfl) ?_
      refine G.go tv_X4_isNamed 2 62 [(0, .ref (gAd E (40))), (1, .ref (gAd E (ka1))), (2, .int (x2)), (3, .ref (gAd E (50))), (4, .int (x4)), (5, .int (x5))] [.int ((v54) + (x5)), .ref (gAd E (1)), .int (v53)] rfl ?_
      obtain ⟨v55, b55, e55, hr⟩ := ld_s hr
      refine G.baldE (1) (by omega) ((h.q1).trans (congrArg (oB (gDA E) (1024)) (hD.2 1 (by decide)))) b55 e55 (tbd tv_X4_isNamed rfl) ?_
      refine G.cmp_eq 68 (tbd tv_X4_isNamed rfl) (by decide) (fun c63 => ?_) (fun c63 => ?_)
      · replace hr := ite_t c63 hr
        refine G.go tv_X4_isNamed 2 28 [(0, .ref (gAd E (40))), (1, .ref (gAd E (ka1))), (2, .int (x2)), (3, .ref (gAd E (50))), (4, .int (x4)), (5, .int (x5 + (1 : Int32)))] [] rfl ?_
        refine G.less [(0, .ref (gAd E (40))), (1, .ref (gAd E (ka1))), (2, .int (x2)), (3, .ref (gAd E (50))), (4, .int (x4)), (5, .int (x5 + (1 : Int32)))] [0, 1, 2, 3, 4, 5] rfl ?_
        exact ih _ _ _ _ _ _ hr _ h hf ka1 wa1
      · replace hr := ite_f c63 hr
        refine G.go tv_X4_isNamed 1 67 [(0, .ref (gAd E (40))), (1, .ref (gAd E (ka1))), (2, .int (x2)), (3, .ref (gAd E (50))), (4, .int (x4)), (5, .int (x5))] [.int ((0 : Int32))] rfl ?_
        cases hr
        exact G.iret rfl rfl ⟨rfl, h, hf⟩ (tbd tv_X4_isNamed rfl)
set_option maxRecDepth 100000 in
set_option maxHeartbeats 4000000 in
theorem k_X4_isNamed_50 (E : gE) (f : Nat → va_E) (N B gr : Nat) (C D : CfT) (A : MS) (hz : CfZ E N B gr) (h : CfV E f N B gr C) (hD : Dq D C) (hA : AR N B gr A C) (ka0 na0 : Nat) (ga0 : Nat → Int32) (wa0 : ArK N B gr C ka0 na0 ga0) (a1 : Int32) (a3 : Int32) (r : Int32) (hr : d_X4_isNamed_50 N (vA A) D ga0 na0 a1 a3 = some r) : Ct E 2 yX4_isNamed cX4_isNamed 6 (some .boolean) [.ref (gAd E (40)), .ref (gAd E (ka0)), .int (a1), .ref (gAd E (50)), .int (a3)] f (fun v g => v = some (.int r) ∧ CfV E g N B gr C ∧ Fr CfK f g, fun _ _ => False) := by
  obtain ⟨z1, z2, z3, z4, z5, z6, z7⟩ := id hz
  refine Ct.of (by decide) (Nat.le_of_ble_eq_true rfl) (fun sz => ?_)
  refine G.eql [(0, .ref (gAd E (40))), (1, .ref (gAd E (ka0))), (2, .int (a1)), (3, .ref (gAd E (50))), (4, .int (a3))] rfl ?_
  unfold d_X4_isNamed_50 at hr
  refine G.go tv_X4_isNamed 2 2 [(0, .ref (gAd E (40))), (1, .ref (gAd E (ka0))), (2, .int (a1)), (3, .ref (gAd E (50))), (4, .int (a3))] [.int (a1), .ref (gAd E (ka0))] rfl ?_
  obtain ⟨v49, hv49, hr⟩ := bnd_s hr
  refine G.callS [.ref (gAd E (ka0)), .int (a1)] [] (k_X2_two E _ N B gr C D A hz h hD hA ka0 na0 ga0 (wa0) a1 v49 hv49) cw_X4_49 w_878 (Nat.le_of_ble_eq_true rfl) rfl (Nat.le_of_ble_eq_true rfl) (tbd tv_X4_isNamed rfl) (fun v49w f49 q49 => ?_) (fun _ _ h => h.elim)
  obtain ⟨rfl, ha49, fa49⟩ := q49
  refine G.eqs [.int (v49)] rfl ?_
  refine G.if_eq 23 (tbd tv_X4_isNamed rfl) (by decide) (fun c5 => ?_) (fun c5 => ?_)
  · replace hr := ite_t c5 hr
    refine G.go tv_X4_isNamed 1 24 [(0, .ref (gAd E (40))), (1, .ref (gAd E (ka0))), (2, .int (a1)), (3, .ref (gAd E (50))), (4, .int (a3))] [.int ((0 : Int32))] rfl ?_
    cases hr
    exact G.iret rfl rfl ⟨rfl, ha49, (Fr.rf.tr fa49 (fun _ h => h))⟩ (tbd tv_X4_isNamed rfl)
  · replace hr := ite_f c5 hr
    refine G.go tv_X4_isNamed 4 12 [(0, .ref (gAd E (40))), (1, .ref (gAd E (ka0))), (2, .int (a1)), (3, .ref (gAd E (50))), (4, .int (a3))] [.int ((a1) + ((2 : Int32))), .ref (gAd E (ka0))] rfl ?_
    obtain ⟨v50, b50, e50, hr⟩ := ld_s hr
    refine G.arld hz ha49 (wa0) b50 e50 (tbd tv_X4_isNamed rfl) ?_
    refine G.go tv_X4_isNamed 1 14 [(0, .ref (gAd E (40))), (1, .ref (gAd E (ka0))), (2, .int (a1)), (3, .ref (gAd E (50))), (4, .int (a3))] [.ref (gAd E (50)), .int (v50)] rfl ?_
    refine G.getf cls_X8 (50) 1 (by omega) (ha49.q50) (by decide) rfl (tbd tv_X4_isNamed rfl) w_195 ?_
    refine G.go tv_X4_isNamed 1 19 [(0, .ref (gAd E (40))), (1, .ref (gAd E (ka0))), (2, .int (a1)), (3, .ref (gAd E (50))), (4, .int (a3))] [.int (a3), .ref (gAd E (52)), .int (v50)] rfl ?_
    obtain ⟨v51, b51, e51, hr⟩ := ld_s hr
    refine G.ialdE (52) (by omega) ((ha49.q52).trans (congrArg (oI (gDA E) (16)) (hD.2 52 (by decide)))) b51 e51 (tbd tv_X4_isNamed rfl) ?_
    refine G.cmp_eq 25 (tbd tv_X4_isNamed rfl) (by decide) (fun c20 => ?_) (fun c20 => ?_)
    · replace hr := ite_t c20 hr
      refine G.go tv_X4_isNamed 2 28 [(0, .ref (gAd E (40))), (1, .ref (gAd E (ka0))), (2, .int (a1)), (3, .ref (gAd E (50))), (4, .int (a3)), (5, .int ((0 : Int32)))] [] rfl ?_
      refine G.less [(0, .ref (gAd E (40))), (1, .ref (gAd E (ka0))), (2, .int (a1)), (3, .ref (gAd E (50))), (4, .int (a3)), (5, .int ((0 : Int32)))] [0, 1, 2, 3, 4, 5] rfl ?_
      exact l_X4_isNamed_50_28 E f sz _ N B gr C D A hz hD hA _ _ _ _ _ _ _ hr _ ha49 (Fr.rf.tr fa49 (fun _ h => h)) ka0 wa0
    · replace hr := ite_f c20 hr
      refine G.go tv_X4_isNamed 1 24 [(0, .ref (gAd E (40))), (1, .ref (gAd E (ka0))), (2, .int (a1)), (3, .ref (gAd E (50))), (4, .int (a3))] [.int ((0 : Int32))] rfl ?_
      cases hr
      exact G.iret rfl rfl ⟨rfl, ha49, (Fr.rf.tr fa49 (fun _ h => h))⟩ (tbd tv_X4_isNamed rfl)
def d_X4_slotOf_50_16 (N : Nat) (V : Nat → Rw) (D : CfT) : Nat → Int32 → Int32 → Int32 → (Nat → Int32) → Nat → Int32 → Option (Int32)
  | 0, _, _, _, _, _, _ => none
  | n + 1, x1, x3, x4, ga5, na5, x6 => if x4 ≤ x6 then some ((-1 : Int32)) else if ((x6) - (x6) / ((8 : Int32)) * ((8 : Int32))) = 0 then bnd (d_X7_reach N V D x1 ((x6) / ((8 : Int32))) ((0 : Int32))) (fun v59 => seeB N V v59 (fun y61 => bnd (d_X4_startOf N V D x6) (fun v62 => bnd (d_X4_isNamed_50 N V D y61 128 v62 x3) (fun v63 => if v63 = 0 then d_X4_slotOf_50_16 N V D n x1 x3 x4 y61 128 (x6 + (1 : Int32)) else some x6)))) else bnd (d_X4_startOf N V D x6) (fun v57 => bnd (d_X4_isNamed_50 N V D ga5 na5 v57 x3) (fun v58 => if v58 = 0 then d_X4_slotOf_50_16 N V D n x1 x3 x4 ga5 na5 (x6 + (1 : Int32)) else some x6))
def d_X4_slotOf_50 (N : Nat) (V : Nat → Rw) (D : CfT) (a0 : Int32) (a2 : Int32) : Option (Int32) := bnd (d_X4_slots N V D a0) (fun v56 => d_X4_slotOf_50_16 N V D fuL a0 a2 v56 (cA D 1) 1024 ((0 : Int32)))
set_option maxRecDepth 100000 in
set_option maxHeartbeats 4000000 in
theorem l_X4_slotOf_50_16 (E : gE) (f0 : Nat → va_E) (sz : Nat) (QA : Nat → Prop) (N B gr : Nat) (C D : CfT) (A : MS) (hz : CfZ E N B gr) (hD : Dq D C) (hA : AR N B gr A C) : ∀ (n : Nat), ∀ (x1 : Int32) (x3 : Int32) (x4 : Int32) (ga5 : Nat → Int32) (na5 : Nat) (x6 : Int32) (r : Int32) (hr : d_X4_slotOf_50_16 N (vA A) D n x1 x3 x4 ga5 na5 x6 = some r) (f : Nat → va_E) (h : CfV E f N B gr C) (hf : Fr CfK f0 f) (ka5 : Nat) (wa5 : ArK N B gr C ka5 na5 ga5), G E (5, yX4_slotOf, 7, (some .int), sz, QA) cX4_slotOf (gO E (5, yX4_slotOf, 7, (some .int), sz, QA) (fun v g => v = some (.int r) ∧ CfV E g N B gr C ∧ Fr CfK f0 g, fun _ _ => False)) 16 [(0, .ref (gAd E (40))), (1, .int (x1)), (2, .ref (gAd E (50))), (3, .int (x3)), (4, .int (x4)), (5, .ref (gAd E (ka5))), (6, .int (x6))] [] f := by
  obtain ⟨z1, z2, z3, z4, z5, z6, z7⟩ := id hz
  intro n
  induction n with
  | zero =>
    intro x1 x3 x4 ga5 na5 x6 r hr f h hf ka5 wa5
    cases hr
  | succ n ih =>
    intro x1 x3 x4 ga5 na5 x6 r hr f h hf ka5 wa5
    unfold d_X4_slotOf_50_16 at hr
    refine G.go tv_X4_slotOf 2 20 [(0, .ref (gAd E (40))), (1, .int (x1)), (2, .ref (gAd E (50))), (3, .int (x3)), (4, .int (x4)), (5, .ref (gAd E (ka5))), (6, .int (x6))] [.int (x4), .int (x6)] rfl ?_
    refine G.cmp_ge 79 (tbd tv_X4_slotOf rfl) (by decide) (fun c20 => ?_) (fun c20 => ?_)
    · replace hr := ite_t c20 hr
      refine G.go tv_X4_slotOf 1 80 [(0, .ref (gAd E (40))), (1, .int (x1)), (2, .ref (gAd E (50))), (3, .int (x3)), (4, .int (x4)), (5, .ref (gAd E (ka5))), (6, .int (x6))] [.int ((-1 : Int32))] rfl ?_
      cases hr
      exact G.iret rfl rfl ⟨rfl, h, hf⟩ (tbd tv_X4_slotOf rfl)
    · replace hr := ite_f c20 hr
      refine G.go tv_X4_slotOf 2 27 [(0, .ref (gAd E (40))), (1, .int (x1)), (2, .ref (gAd E (50))), (3, .int (x3)), (4, .int (x4)), (5, .ref (gAd E (ka5))), (6, .int (x6))] [.int ((8 : Int32)), .int (x6)] rfl ?_
      refine G.irem (by decide) (tbd tv_X4_slotOf rfl) ?_
      refine G.if_ne 54 (tbd tv_X4_slotOf rfl) (by decide) (fun c28 => ?_) (fun c28 => ?_)
      · replace hr := ite_f c28 hr
        refine G.go tv_X4_slotOf 3 59 [(0, .ref (gAd E (40))), (1, .int (x1)), (2, .ref (gAd E (50))), (3, .int (x3)), (4, .int (x4)), (5, .ref (gAd E (ka5))), (6, .int (x6))] [.int (x6), .ref (gAd E (ka5)), .ref (gAd E (40))] rfl ?_
        obtain ⟨v57, hv57, hr⟩ := bnd_s hr
        refine G.callS [.int (x6)] [.ref (gAd E (ka5)), .ref (gAd E (40))] (k_X4_startOf E _ N B gr C D A hz h hD hA x6 v57 hv57) cw_X4_46 w_1372 (Nat.le_of_ble_eq_true rfl) rfl (Nat.le_of_ble_eq_true rfl) (tbd tv_X4_slotOf rfl) (fun v57w f57 q57 => ?_) (fun _ _ h => h.elim)
        obtain ⟨rfl, ha57, fa57⟩ := q57
        refine G.eqs [.int (v57), .ref (gAd E (ka5)), .ref (gAd E (40))] rfl ?_
        refine G.go tv_X4_slotOf 2 64 [(0, .ref (gAd E (40))), (1, .int (x1)), (2, .ref (gAd E (50))), (3, .int (x3)), (4, .int (x4)), (5, .ref (gAd E (ka5))), (6, .int (x6))] [.int (x3), .ref (gAd E (50)), .int (v57), .ref (gAd E (ka5)), .ref (gAd E (40))] rfl ?_
        obtain ⟨v58, hv58, hr⟩ := bnd_s hr
        refine G.callV (40) [.ref (gAd E (ka5)), .int (v57), .ref (gAd E (50)), .int (x3)] [] (k_X4_isNamed_50 E _ N B gr C D A hz ha57 hD hA ka5 na5 ga5 (wa5) v57 x3 v58 hv58) cls_X4 (by omega) (ha57.q40) cw_X4_76 w_1376 w_30 (Nat.le_of_ble_eq_true rfl) rfl (Nat.le_of_ble_eq_true rfl) (tbd tv_X4_slotOf rfl) (fun v58w f58 q58 => ?_) (fun _ _ h => h.elim)
        obtain ⟨rfl, ha58, fa58⟩ := q58
        refine G.eqs [.int (v58)] rfl ?_
        refine G.if_eq 73 (tbd tv_X4_slotOf rfl) (by decide) (fun c67 => ?_) (fun c67 => ?_)
        · replace hr := ite_t c67 hr
          refine G.go tv_X4_slotOf 2 16 [(0, .ref (gAd E (40))), (1, .int (x1)), (2, .ref (gAd E (50))), (3, .int (x3)), (4, .int (x4)), (5, .ref (gAd E (ka5))), (6, .int (x6 + (1 : Int32)))] [] rfl ?_
          refine G.less [(0, .ref (gAd E (40))), (1, .int (x1)), (2, .ref (gAd E (50))), (3, .int (x3)), (4, .int (x4)), (5, .ref (gAd E (ka5))), (6, .int (x6 + (1 : Int32)))] [0, 1, 2, 3, 4, 5, 6] rfl ?_
          exact ih _ _ _ _ _ _ _ hr _ ha58 ((hf.tr fa57 (fun _ h => h)).tr fa58 (fun _ h => h)) ka5 wa5
        · replace hr := ite_f c67 hr
          refine G.go tv_X4_slotOf 1 72 [(0, .ref (gAd E (40))), (1, .int (x1)), (2, .ref (gAd E (50))), (3, .int (x3)), (4, .int (x4)), (5, .ref (gAd E (ka5))), (6, .int (x6))] [.int (x6)] rfl ?_
          cases hr
          exact G.iret rfl rfl ⟨rfl, ha58, ((hf.tr fa57 (fun _ h => h)).tr fa58 (fun _ h => h))⟩ (tbd tv_X4_slotOf rfl)
      · replace hr := ite_t c28 hr
        refine G.go tv_X4_slotOf 1 32 [(0, .ref (gAd E (40))), (1, .int (x1)), (2, .ref (gAd E (50))), (3, .int (x3)), (4, .int (x4)), (5, .ref (gAd E (ka5))), (6, .int (x6))] [.ref (gAd E (40))] rfl ?_
        refine G.getf cls_X4 (40) 0 (by omega) (h.q40) (by decide) rfl (tbd tv_X4_slotOf rfl) w_509 ?_
        refine G.go tv_X4_slotOf 1 36 [(0, .ref (gAd E (40))), (1, .int (x1)), (2, .ref (gAd E (50))), (3, .int (x3)), (4, .int (x4)), (5, .ref (gAd E (ka5))), (6, .int (x6))] [.ref (gAd E (40)), .ref (gAd E (25))] rfl ?_
        refine G.getf cls_X4 (40) 1 (by omega) (h.q40) (by decide) rfl (tbd tv_X4_slotOf rfl) w_510 ?_
        refine G.go tv_X4_slotOf 3 44 [(0, .ref (gAd E (40))), (1, .int (x1)), (2, .ref (gAd E (50))), (3, .int (x3)), (4, .int (x4)), (5, .ref (gAd E (ka5))), (6, .int (x6))] [.int ((8 : Int32)), .int (x6), .int (x1), .ref (gAd E (37)), .ref (gAd E (25))] rfl ?_
        refine G.idiv (by decide) (tbd tv_X4_slotOf rfl) ?_
        refine G.go tv_X4_slotOf 1 46 [(0, .ref (gAd E (40))), (1, .int (x1)), (2, .ref (gAd E (50))), (3, .int (x3)), (4, .int (x4)), (5, .ref (gAd E (ka5))), (6, .int (x6))] [.int ((0 : Int32)), .int ((x6) / ((8 : Int32))), .int (x1), .ref (gAd E (37)), .ref (gAd E (25))] rfl ?_
        obtain ⟨v59, hv59, hr⟩ := bnd_s hr
        refine G.callV (37) [.int (x1), .int ((x6) / ((8 : Int32))), .int ((0 : Int32))] [.ref (gAd E (25))] (k_X7_reach E _ N B gr C D A hz h hD hA x1 ((x6) / ((8 : Int32))) ((0 : Int32)) v59 hv59) cls_X7 (by omega) (h.q37) cw_X4_29 w_954 w_955 (Nat.le_of_ble_eq_true rfl) rfl (Nat.le_of_ble_eq_true rfl) (tbd tv_X4_slotOf rfl) (fun v59w f59 q59 => ?_) (fun _ _ h => h.elim)
        obtain ⟨rfl, ha59, fa59⟩ := q59
        refine G.eqs [.int (v59), .ref (gAd E (25))] rfl ?_
        obtain ⟨y61, b61, e61, hr⟩ := seeB_s hr
        refine G.callV (25) [.int (v59)] [] (k_see E _ N B gr C A hz ha59 hA _ b61 _ e61) cls_X10 (by omega) (ha59.q25) cw_X4_33 w_910 w_911 (Nat.le_of_ble_eq_true rfl) rfl (Nat.le_of_ble_eq_true rfl) (tbd tv_X4_slotOf rfl) (fun v61w f61 q61 => ?_) (fun _ _ h => h.elim)
        obtain ⟨⟨k61, rfl, w61⟩, ha61, fa61⟩ := q61
        refine G.eqs [.ref (gAd E (k61))] rfl ?_
        refine G.go tv_X4_slotOf 4 59 [(0, .ref (gAd E (40))), (1, .int (x1)), (2, .ref (gAd E (50))), (3, .int (x3)), (4, .int (x4)), (5, .ref (gAd E (k61))), (6, .int (x6))] [.int (x6), .ref (gAd E (k61)), .ref (gAd E (40))] rfl ?_
        obtain ⟨v62, hv62, hr⟩ := bnd_s hr
        refine G.callS [.int (x6)] [.ref (gAd E (k61)), .ref (gAd E (40))] (k_X4_startOf E _ N B gr C D A hz ha61 hD hA x6 v62 hv62) cw_X4_46 w_1372 (Nat.le_of_ble_eq_true rfl) rfl (Nat.le_of_ble_eq_true rfl) (tbd tv_X4_slotOf rfl) (fun v62w f62 q62 => ?_) (fun _ _ h => h.elim)
        obtain ⟨rfl, ha62, fa62⟩ := q62
        refine G.eqs [.int (v62), .ref (gAd E (k61)), .ref (gAd E (40))] rfl ?_
        refine G.go tv_X4_slotOf 2 64 [(0, .ref (gAd E (40))), (1, .int (x1)), (2, .ref (gAd E (50))), (3, .int (x3)), (4, .int (x4)), (5, .ref (gAd E (k61))), (6, .int (x6))] [.int (x3), .ref (gAd E (50)), .int (v62), .ref (gAd E (k61)), .ref (gAd E (40))] rfl ?_
        obtain ⟨v63, hv63, hr⟩ := bnd_s hr
        refine G.callV (40) [.ref (gAd E (k61)), .int (v62), .ref (gAd E (50)), .int (x3)] [] (k_X4_isNamed_50 E _ N B gr C D A hz ha62 hD hA k61 128 y61 (w61) v62 x3 v63 hv63) cls_X4 (by omega) (ha62.q40) cw_X4_76 w_1376 w_30 (Nat.le_of_ble_eq_true rfl) rfl (Nat.le_of_ble_eq_true rfl) (tbd tv_X4_slotOf rfl) (fun v63w f63 q63 => ?_) (fun _ _ h => h.elim)
        obtain ⟨rfl, ha63, fa63⟩ := q63
        refine G.eqs [.int (v63)] rfl ?_
        refine G.if_eq 73 (tbd tv_X4_slotOf rfl) (by decide) (fun c67 => ?_) (fun c67 => ?_)
        · replace hr := ite_t c67 hr
          refine G.go tv_X4_slotOf 2 16 [(0, .ref (gAd E (40))), (1, .int (x1)), (2, .ref (gAd E (50))), (3, .int (x3)), (4, .int (x4)), (5, .ref (gAd E (k61))), (6, .int (x6 + (1 : Int32)))] [] rfl ?_
          refine G.less [(0, .ref (gAd E (40))), (1, .int (x1)), (2, .ref (gAd E (50))), (3, .int (x3)), (4, .int (x4)), (5, .ref (gAd E (k61))), (6, .int (x6 + (1 : Int32)))] [0, 1, 2, 3, 4, 5, 6] rfl ?_
          exact ih _ _ _ _ _ _ _ hr _ ha63 ((((hf.tr fa59 (fun _ h => h)).tr fa61 (fun _ h => h)).tr fa62 (fun _ h => h)).tr fa63 (fun _ h => h)) k61 w61
        · replace hr := ite_f c67 hr
          refine G.go tv_X4_slotOf 1 72 [(0, .ref (gAd E (40))), (1, .int (x1)), (2, .ref (gAd E (50))), (3, .int (x3)), (4, .int (x4)), (5, .ref (gAd E (k61))), (6, .int (x6))] [.int (x6)] rfl ?_
          cases hr
          exact G.iret rfl rfl ⟨rfl, ha63, ((((hf.tr fa59 (fun _ h => h)).tr fa61 (fun _ h => h)).tr fa62 (fun _ h => h)).tr fa63 (fun _ h => h))⟩ (tbd tv_X4_slotOf rfl)
set_option maxRecDepth 100000 in
set_option maxHeartbeats 4000000 in
theorem k_X4_slotOf_50 (E : gE) (f : Nat → va_E) (N B gr : Nat) (C D : CfT) (A : MS) (hz : CfZ E N B gr) (h : CfV E f N B gr C) (hD : Dq D C) (hA : AR N B gr A C) (a0 : Int32) (a2 : Int32) (r : Int32) (hr : d_X4_slotOf_50 N (vA A) D a0 a2 = some r) : Ct E 5 yX4_slotOf cX4_slotOf 7 (some .int) [.ref (gAd E (40)), .int (a0), .ref (gAd E (50)), .int (a2)] f (fun v g => v = some (.int r) ∧ CfV E g N B gr C ∧ Fr CfK f g, fun _ _ => False) := by
  obtain ⟨z1, z2, z3, z4, z5, z6, z7⟩ := id hz
  refine Ct.of (by decide) (Nat.le_of_ble_eq_true rfl) (fun sz => ?_)
  refine G.eql [(0, .ref (gAd E (40))), (1, .int (a0)), (2, .ref (gAd E (50))), (3, .int (a2))] rfl ?_
  unfold d_X4_slotOf_50 at hr
  refine G.go tv_X4_slotOf 2 2 [(0, .ref (gAd E (40))), (1, .int (a0)), (2, .ref (gAd E (50))), (3, .int (a2))] [.int (a0), .ref (gAd E (40))] rfl ?_
  obtain ⟨v56, hv56, hr⟩ := bnd_s hr
  refine G.callV (40) [.int (a0)] [] (k_X4_slots E _ N B gr C D A hz h hD hA a0 v56 hv56) cls_X4 (by omega) (h.q40) cw_X4_62 w_1365 w_1366 (Nat.le_of_ble_eq_true rfl) rfl (Nat.le_of_ble_eq_true rfl) (tbd tv_X4_slotOf rfl) (fun v56w f56 q56 => ?_) (fun _ _ h => h.elim)
  obtain ⟨rfl, ha56, fa56⟩ := q56
  refine G.eqs [.int (v56)] rfl ?_
  refine G.go tv_X4_slotOf 2 8 [(0, .ref (gAd E (40))), (1, .int (a0)), (2, .ref (gAd E (50))), (3, .int (a2)), (4, .int (v56))] [.ref (gAd E (40))] rfl ?_
  refine G.getf cls_X4 (40) 2 (by omega) (ha56.q40) (by decide) rfl (tbd tv_X4_slotOf rfl) w_511 ?_
  refine G.go tv_X4_slotOf 3 16 [(0, .ref (gAd E (40))), (1, .int (a0)), (2, .ref (gAd E (50))), (3, .int (a2)), (4, .int (v56)), (5, .ref (gAd E (1))), (6, .int ((0 : Int32)))] [] rfl ?_
  refine G.less [(0, .ref (gAd E (40))), (1, .int (a0)), (2, .ref (gAd E (50))), (3, .int (a2)), (4, .int (v56)), (5, .ref (gAd E (1))), (6, .int ((0 : Int32)))] [0, 1, 2, 3, 4, 5, 6] rfl ?_
  exact l_X4_slotOf_50_16 E f sz _ N B gr C D A hz hD hA _ _ _ _ _ _ _ _ hr _ ha56 (Fr.rf.tr fa56 (fun _ h => h)) 1 ((ArK.tp hD))
def d_X4_walk_50_5 (N : Nat) (V : Nat → Rw) (D : CfT) : Nat → Int32 → Int32 → Int32 → Option (Int32)
  | 0, _, _, _ => none
  | n + 1, x2, x3, x4 => if x2 ≤ x4 then if (cS D 5002) ≤ x2 then some x3 else bnd (d_X7_kind N V D x3) (fun v64 => if v64 = ((2 : Int32)) then some x3 else some ((-3 : Int32))) else bnd (d_X7_kind N V D x3) (fun v65 => if v65 = ((2 : Int32)) then bnd (d_X4_slotOf_50 N V D x3 x4) (fun v66 => if v66 = ((-1 : Int32)) then some ((-1 : Int32)) else bnd (d_X4_inodeAt N V D x3 v66) (fun v67 => d_X4_walk_50_5 N V D n x2 v67 (x4 + (1 : Int32)))) else some ((-3 : Int32)))
def d_X4_walk_50 (N : Nat) (V : Nat → Rw) (D : CfT) (a1 : Int32) : Option (Int32) := d_X4_walk_50_5 N V D fuL a1 ((1 : Int32)) ((0 : Int32))
set_option maxRecDepth 100000 in
set_option maxHeartbeats 4000000 in
theorem l_X4_walk_50_5 (E : gE) (f0 : Nat → va_E) (sz : Nat) (QA : Nat → Prop) (N B gr : Nat) (C D : CfT) (A : MS) (hz : CfZ E N B gr) (hD : Dq D C) (hA : AR N B gr A C) : ∀ (n : Nat), ∀ (x2 : Int32) (x3 : Int32) (x4 : Int32) (r : Int32) (hr : d_X4_walk_50_5 N (vA A) D n x2 x3 x4 = some r) (f : Nat → va_E) (h : CfV E f N B gr C) (hf : Fr CfK f0 f), G E (6, yX4_walk, 6, (some .int), sz, QA) cX4_walk (gO E (6, yX4_walk, 6, (some .int), sz, QA) (fun v g => v = some (.int r) ∧ CfV E g N B gr C ∧ Fr CfK f0 g, fun _ _ => False)) 5 [(0, .ref (gAd E (40))), (1, .ref (gAd E (50))), (2, .int (x2)), (3, .int (x3)), (4, .int (x4))] [] f := by
  obtain ⟨z1, z2, z3, z4, z5, z6, z7⟩ := id hz
  intro n
  induction n with
  | zero =>
    intro x2 x3 x4 r hr f h hf
    cases hr
  | succ n ih =>
    intro x2 x3 x4 r hr f h hf
    unfold d_X4_walk_50_5 at hr
    refine G.go tv_X4_walk 2 8 [(0, .ref (gAd E (40))), (1, .ref (gAd E (50))), (2, .int (x2)), (3, .int (x3)), (4, .int (x4))] [.int (x2), .int (x4)] rfl ?_
    refine G.cmp_ge 58 (tbd tv_X4_walk rfl) (by decide) (fun c8 => ?_) (fun c8 => ?_)
    · replace hr := ite_t c8 hr
      refine G.go tv_X4_walk 2 60 [(0, .ref (gAd E (40))), (1, .ref (gAd E (50))), (2, .int (x2)), (3, .int (x3)), (4, .int (x4))] [.ref (gAd E (50)), .int (x2)] rfl ?_
      refine G.getf cls_X8 (50) 2 (by omega) (h.q50) (by decide) rfl (tbd tv_X4_walk rfl) w_197 ?_
      refine G.eq1 (b := cS D 5002) (hD.1 5002 (by decide)) ?_
      refine G.cmp_ge 83 (tbd tv_X4_walk rfl) (by decide) (fun c63 => ?_) (fun c63 => ?_)
      · replace hr := ite_t c63 hr
        refine G.go tv_X4_walk 1 84 [(0, .ref (gAd E (40))), (1, .ref (gAd E (50))), (2, .int (x2)), (3, .int (x3)), (4, .int (x4))] [.int (x3)] rfl ?_
        cases hr
        exact G.iret rfl rfl ⟨rfl, h, hf⟩ (tbd tv_X4_walk rfl)
      · replace hr := ite_f c63 hr
        refine G.go tv_X4_walk 1 67 [(0, .ref (gAd E (40))), (1, .ref (gAd E (50))), (2, .int (x2)), (3, .int (x3)), (4, .int (x4))] [.ref (gAd E (40))] rfl ?_
        refine G.getf cls_X4 (40) 1 (by omega) (h.q40) (by decide) rfl (tbd tv_X4_walk rfl) w_510 ?_
        refine G.go tv_X4_walk 1 71 [(0, .ref (gAd E (40))), (1, .ref (gAd E (50))), (2, .int (x2)), (3, .int (x3)), (4, .int (x4))] [.int (x3), .ref (gAd E (37))] rfl ?_
        obtain ⟨v64, hv64, hr⟩ := bnd_s hr
        refine G.callV (37) [.int (x3)] [] (k_X7_kind E _ N B gr C D A hz h hD hA x3 v64 hv64) cls_X7 (by omega) (h.q37) cw_X4_59 w_903 w_904 (Nat.le_of_ble_eq_true rfl) rfl (Nat.le_of_ble_eq_true rfl) (tbd tv_X4_walk rfl) (fun v64w f64 q64 => ?_) (fun _ _ h => h.elim)
        obtain ⟨rfl, ha64, fa64⟩ := q64
        refine G.eqs [.int (v64)] rfl ?_
        refine G.go tv_X4_walk 1 75 [(0, .ref (gAd E (40))), (1, .ref (gAd E (50))), (2, .int (x2)), (3, .int (x3)), (4, .int (x4))] [.int ((2 : Int32)), .int (v64)] rfl ?_
        refine G.cmp_eq 83 (tbd tv_X4_walk rfl) (by decide) (fun c75 => ?_) (fun c75 => ?_)
        · replace hr := ite_t c75 hr
          refine G.go tv_X4_walk 1 84 [(0, .ref (gAd E (40))), (1, .ref (gAd E (50))), (2, .int (x2)), (3, .int (x3)), (4, .int (x4))] [.int (x3)] rfl ?_
          cases hr
          exact G.iret rfl rfl ⟨rfl, ha64, (hf.tr fa64 (fun _ h => h))⟩ (tbd tv_X4_walk rfl)
        · replace hr := ite_f c75 hr
          refine G.go tv_X4_walk 2 84 [(0, .ref (gAd E (40))), (1, .ref (gAd E (50))), (2, .int (x2)), (3, .int (x3)), (4, .int (x4))] [.int ((-3 : Int32))] rfl ?_
          cases hr
          exact G.iret rfl rfl ⟨rfl, ha64, (hf.tr fa64 (fun _ h => h))⟩ (tbd tv_X4_walk rfl)
    · replace hr := ite_f c8 hr
      refine G.go tv_X4_walk 1 12 [(0, .ref (gAd E (40))), (1, .ref (gAd E (50))), (2, .int (x2)), (3, .int (x3)), (4, .int (x4))] [.ref (gAd E (40))] rfl ?_
      refine G.getf cls_X4 (40) 1 (by omega) (h.q40) (by decide) rfl (tbd tv_X4_walk rfl) w_510 ?_
      refine G.go tv_X4_walk 1 16 [(0, .ref (gAd E (40))), (1, .ref (gAd E (50))), (2, .int (x2)), (3, .int (x3)), (4, .int (x4))] [.int (x3), .ref (gAd E (37))] rfl ?_
      obtain ⟨v65, hv65, hr⟩ := bnd_s hr
      refine G.callV (37) [.int (x3)] [] (k_X7_kind E _ N B gr C D A hz h hD hA x3 v65 hv65) cls_X7 (by omega) (h.q37) cw_X4_59 w_903 w_904 (Nat.le_of_ble_eq_true rfl) rfl (Nat.le_of_ble_eq_true rfl) (tbd tv_X4_walk rfl) (fun v65w f65 q65 => ?_) (fun _ _ h => h.elim)
      obtain ⟨rfl, ha65, fa65⟩ := q65
      refine G.eqs [.int (v65)] rfl ?_
      refine G.go tv_X4_walk 1 20 [(0, .ref (gAd E (40))), (1, .ref (gAd E (50))), (2, .int (x2)), (3, .int (x3)), (4, .int (x4))] [.int ((2 : Int32)), .int (v65)] rfl ?_
      refine G.cmp_eq 26 (tbd tv_X4_walk rfl) (by decide) (fun c20 => ?_) (fun c20 => ?_)
      · replace hr := ite_t c20 hr
        refine G.go tv_X4_walk 4 31 [(0, .ref (gAd E (40))), (1, .ref (gAd E (50))), (2, .int (x2)), (3, .int (x3)), (4, .int (x4))] [.int (x4), .ref (gAd E (50)), .int (x3), .ref (gAd E (40))] rfl ?_
        obtain ⟨v66, hv66, hr⟩ := bnd_s hr
        refine G.callV (40) [.int (x3), .ref (gAd E (50)), .int (x4)] [] (k_X4_slotOf_50 E _ N B gr C D A hz ha65 hD hA x3 x4 v66 hv66) cls_X4 (by omega) (ha65.q40) cw_X4_80 w_1361 w_1362 (Nat.le_of_ble_eq_true rfl) rfl (Nat.le_of_ble_eq_true rfl) (tbd tv_X4_walk rfl) (fun v66w f66 q66 => ?_) (fun _ _ h => h.elim)
        obtain ⟨rfl, ha66, fa66⟩ := q66
        refine G.eqs [.int (v66)] rfl ?_
        refine G.go tv_X4_walk 3 39 [(0, .ref (gAd E (40))), (1, .ref (gAd E (50))), (2, .int (x2)), (3, .int (x3)), (4, .int (x4)), (5, .int (v66))] [.int ((-1 : Int32)), .int (v66)] rfl ?_
        refine G.cmp_ne 44 (tbd tv_X4_walk rfl) (by decide) (fun c39 => ?_) (fun c39 => ?_)
        · replace hr := ite_f c39 hr
          refine G.go tv_X4_walk 3 48 [(0, .ref (gAd E (40))), (1, .ref (gAd E (50))), (2, .int (x2)), (3, .int (x3)), (4, .int (x4)), (5, .int (v66))] [.int (v66), .int (x3), .ref (gAd E (40))] rfl ?_
          obtain ⟨v67, hv67, hr⟩ := bnd_s hr
          refine G.callV (40) [.int (x3), .int (v66)] [] (k_X4_inodeAt E _ N B gr C D A hz ha66 hD hA x3 v66 v67 hv67) cls_X4 (by omega) (ha66.q40) cw_X4_65 w_1380 w_1381 (Nat.le_of_ble_eq_true rfl) rfl (Nat.le_of_ble_eq_true rfl) (tbd tv_X4_walk rfl) (fun v67w f67 q67 => ?_) (fun _ _ h => h.elim)
          obtain ⟨rfl, ha67, fa67⟩ := q67
          refine G.eqs [.int (v67)] rfl ?_
          refine G.go tv_X4_walk 3 5 [(0, .ref (gAd E (40))), (1, .ref (gAd E (50))), (2, .int (x2)), (3, .int (v67)), (4, .int (x4 + (1 : Int32))), (5, .int (v66))] [] rfl ?_
          refine G.less [(0, .ref (gAd E (40))), (1, .ref (gAd E (50))), (2, .int (x2)), (3, .int (v67)), (4, .int (x4 + (1 : Int32)))] [0, 1, 2, 3, 4] rfl ?_
          exact ih _ _ _ _ hr _ ha67 (((hf.tr fa65 (fun _ h => h)).tr fa66 (fun _ h => h)).tr fa67 (fun _ h => h))
        · replace hr := ite_t c39 hr
          refine G.go tv_X4_walk 1 43 [(0, .ref (gAd E (40))), (1, .ref (gAd E (50))), (2, .int (x2)), (3, .int (x3)), (4, .int (x4)), (5, .int (v66))] [.int ((-1 : Int32))] rfl ?_
          cases hr
          exact G.iret rfl rfl ⟨rfl, ha66, ((hf.tr fa65 (fun _ h => h)).tr fa66 (fun _ h => h))⟩ (tbd tv_X4_walk rfl)
      · replace hr := ite_f c20 hr
        refine G.go tv_X4_walk 1 25 [(0, .ref (gAd E (40))), (1, .ref (gAd E (50))), (2, .int (x2)), (3, .int (x3)), (4, .int (x4))] [.int ((-3 : Int32))] rfl ?_
        cases hr
        exact G.iret rfl rfl ⟨rfl, ha65, (hf.tr fa65 (fun _ h => h))⟩ (tbd tv_X4_walk rfl)
set_option maxRecDepth 100000 in
set_option maxHeartbeats 4000000 in
theorem k_X4_walk_50 (E : gE) (f : Nat → va_E) (N B gr : Nat) (C D : CfT) (A : MS) (hz : CfZ E N B gr) (h : CfV E f N B gr C) (hD : Dq D C) (hA : AR N B gr A C) (a1 : Int32) (r : Int32) (hr : d_X4_walk_50 N (vA A) D a1 = some r) : Ct E 6 yX4_walk cX4_walk 6 (some .int) [.ref (gAd E (40)), .ref (gAd E (50)), .int (a1)] f (fun v g => v = some (.int r) ∧ CfV E g N B gr C ∧ Fr CfK f g, fun _ _ => False) := by
  obtain ⟨z1, z2, z3, z4, z5, z6, z7⟩ := id hz
  refine Ct.of (by decide) (Nat.le_of_ble_eq_true rfl) (fun sz => ?_)
  refine G.eql [(0, .ref (gAd E (40))), (1, .ref (gAd E (50))), (2, .int (a1))] rfl ?_
  unfold d_X4_walk_50 at hr
  refine G.go tv_X4_walk 4 5 [(0, .ref (gAd E (40))), (1, .ref (gAd E (50))), (2, .int (a1)), (3, .int ((1 : Int32))), (4, .int ((0 : Int32)))] [] rfl ?_
  refine G.less [(0, .ref (gAd E (40))), (1, .ref (gAd E (50))), (2, .int (a1)), (3, .int ((1 : Int32))), (4, .int ((0 : Int32)))] [0, 1, 2, 3, 4] rfl ?_
  exact l_X4_walk_50_5 E f sz _ N B gr C D A hz hD hA _ _ _ _ _ hr _ h Fr.rf
def tb_X4_wants : List (Nat × Instr × Nat) := [(0, .aload_n 0, 1), (1, .iload_n 1, 1), (2, .invokevirtual 88, 3), (5, .iconst (-1), 1), (6, .if_icmp .eq 5, 3), (9, .iconst 0, 1), (10, .ireturn, 1), (11, .aload_n 0, 1), (12, .getfield 15, 3), (15, .iload_n 1, 1), (16, .aload_n 0, 1), (17, .getfield 15, 3), (20, .iload_n 1, 1), (21, .invokevirtual 23, 3), (24, .sipush 128, 3), (27, .idiv, 1), (28, .invokevirtual 91, 3), (31, .ireturn, 1)]
theorem tv_X4_wants : Tv cX4_wants tb_X4_wants := by
  unfold Tv
  decide +kernel
theorem w_1400 : Cond.methodLink "LedgerFiles$Folders" 88 yX4_freeSlot ∈ TB := tp_6 54 (by decide +kernel) rfl
theorem w_1403 : Cond.code yX4_freeSlot prog_6_method_11_code 5 (some .int) ∈ TB := tp_6 57 rfl rfl
theorem cw_X4_88 : Cw RX4 88 yX4_freeSlot cX4_freeSlot 5 (some .int) 1 := ⟨w_1400, w_1403, w_158, by decide +kernel, by decide +kernel, by decide⟩
theorem w_1402 : Cond.instanceMethod yX4_freeSlot ∈ TB := tp_6 56 (by decide +kernel) rfl
theorem w_33 : Cond.selects "LedgerFiles$Folders" yX4_freeSlot yX4_freeSlot ∈ TB := tp_0 33 (by decide +kernel) rfl
theorem w_1404 : Cond.methodLink "LedgerFiles$Folders" 91 yX7_missing ∈ TB := tp_6 58 (by decide +kernel) rfl
theorem cw_X4_91 : Cw RX4 91 yX7_missing cX7_missing 4 (some .int) 2 := ⟨w_1404, w_1407, w_157, by decide +kernel, by decide +kernel, by decide⟩
def d_X4_wants (N : Nat) (V : Nat → Rw) (D : CfT) (a0 : Int32) : Option (Int32) := bnd (d_X4_freeSlot N V D a0) (fun v68 => if v68 = ((-1 : Int32)) then bnd (d_X7_size N V D a0) (fun v69 => bnd (d_X7_missing N V D a0 ((v69) / ((128 : Int32)))) (fun v70 => some v70)) else some ((0 : Int32)))
set_option maxRecDepth 100000 in
set_option maxHeartbeats 4000000 in
theorem k_X4_wants (E : gE) (f : Nat → va_E) (N B gr : Nat) (C D : CfT) (A : MS) (hz : CfZ E N B gr) (h : CfV E f N B gr C) (hD : Dq D C) (hA : AR N B gr A C) (a0 : Int32) (r : Int32) (hr : d_X4_wants N (vA A) D a0 = some r) : Ct E 6 yX4_wants cX4_wants 2 (some .int) [.ref (gAd E (40)), .int (a0)] f (fun v g => v = some (.int r) ∧ CfV E g N B gr C ∧ Fr CfK f g, fun _ _ => False) := by
  obtain ⟨z1, z2, z3, z4, z5, z6, z7⟩ := id hz
  refine Ct.of (by decide) (Nat.le_of_ble_eq_true rfl) (fun sz => ?_)
  refine G.eql [(0, .ref (gAd E (40))), (1, .int (a0))] rfl ?_
  unfold d_X4_wants at hr
  refine G.go tv_X4_wants 2 2 [(0, .ref (gAd E (40))), (1, .int (a0))] [.int (a0), .ref (gAd E (40))] rfl ?_
  obtain ⟨v68, hv68, hr⟩ := bnd_s hr
  refine G.callV (40) [.int (a0)] [] (k_X4_freeSlot E _ N B gr C D A hz h hD hA a0 v68 hv68) cls_X4 (by omega) (h.q40) cw_X4_88 w_1402 w_33 (Nat.le_of_ble_eq_true rfl) rfl (Nat.le_of_ble_eq_true rfl) (tbd tv_X4_wants rfl) (fun v68w f68 q68 => ?_) (fun _ _ h => h.elim)
  obtain ⟨rfl, ha68, fa68⟩ := q68
  refine G.eqs [.int (v68)] rfl ?_
  refine G.go tv_X4_wants 1 6 [(0, .ref (gAd E (40))), (1, .int (a0))] [.int ((-1 : Int32)), .int (v68)] rfl ?_
  refine G.cmp_eq 11 (tbd tv_X4_wants rfl) (by decide) (fun c6 => ?_) (fun c6 => ?_)
  · replace hr := ite_t c6 hr
    refine G.go tv_X4_wants 1 12 [(0, .ref (gAd E (40))), (1, .int (a0))] [.ref (gAd E (40))] rfl ?_
    refine G.getf cls_X4 (40) 1 (by omega) (ha68.q40) (by decide) rfl (tbd tv_X4_wants rfl) w_510 ?_
    refine G.go tv_X4_wants 2 17 [(0, .ref (gAd E (40))), (1, .int (a0))] [.ref (gAd E (40)), .int (a0), .ref (gAd E (37))] rfl ?_
    refine G.getf cls_X4 (40) 1 (by omega) (ha68.q40) (by decide) rfl (tbd tv_X4_wants rfl) w_510 ?_
    refine G.go tv_X4_wants 1 21 [(0, .ref (gAd E (40))), (1, .int (a0))] [.int (a0), .ref (gAd E (37)), .int (a0), .ref (gAd E (37))] rfl ?_
    obtain ⟨v69, hv69, hr⟩ := bnd_s hr
    refine G.callV (37) [.int (a0)] [.int (a0), .ref (gAd E (37))] (k_X7_size E _ N B gr C D A hz ha68 hD hA a0 v69 hv69) cls_X7 (by omega) (ha68.q37) cw_X4_23 w_941 w_942 (Nat.le_of_ble_eq_true rfl) rfl (Nat.le_of_ble_eq_true rfl) (tbd tv_X4_wants rfl) (fun v69w f69 q69 => ?_) (fun _ _ h => h.elim)
    obtain ⟨rfl, ha69, fa69⟩ := q69
    refine G.eqs [.int (v69), .int (a0), .ref (gAd E (37))] rfl ?_
    refine G.go tv_X4_wants 1 27 [(0, .ref (gAd E (40))), (1, .int (a0))] [.int ((128 : Int32)), .int (v69), .int (a0), .ref (gAd E (37))] rfl ?_
    refine G.idiv (by decide) (tbd tv_X4_wants rfl) ?_
    obtain ⟨v70, hv70, hr⟩ := bnd_s hr
    refine G.callV (37) [.int (a0), .int ((v69) / ((128 : Int32)))] [] (k_X7_missing E _ N B gr C D A hz ha69 hD hA a0 ((v69) / ((128 : Int32))) v70 hv70) cls_X7 (by omega) (ha69.q37) cw_X4_91 w_1405 w_1406 (Nat.le_of_ble_eq_true rfl) rfl (Nat.le_of_ble_eq_true rfl) (tbd tv_X4_wants rfl) (fun v70w f70 q70 => ?_) (fun _ _ h => h.elim)
    obtain ⟨rfl, ha70, fa70⟩ := q70
    refine G.eqs [.int (v70)] rfl ?_
    cases hr
    exact G.iret rfl rfl ⟨rfl, ha70, (((Fr.rf.tr fa68 (fun _ h => h)).tr fa69 (fun _ h => h)).tr fa70 (fun _ h => h))⟩ (tbd tv_X4_wants rfl)
  · replace hr := ite_f c6 hr
    refine G.go tv_X4_wants 1 10 [(0, .ref (gAd E (40))), (1, .int (a0))] [.int ((0 : Int32))] rfl ?_
    cases hr
    exact G.iret rfl rfl ⟨rfl, ha68, (Fr.rf.tr fa68 (fun _ h => h))⟩ (tbd tv_X4_wants rfl)
def tb_X3_byteOf : List (Nat × Instr × Nat) := [(0, .iload_n 2, 1), (1, .ifCond .lt 15, 3), (4, .iload_n 2, 1), (5, .aload_n 0, 1), (6, .getfield 23, 3), (9, .iload_n 1, 1), (10, .invokevirtual 71, 3), (13, .if_icmp .lt 5, 3), (16, .iconst (-1), 1), (17, .ireturn, 1), (18, .aload_n 0, 1), (19, .getfield 23, 3), (22, .iload_n 1, 1), (23, .iload_n 2, 1), (24, .sipush 128, 3), (27, .idiv, 1), (28, .iconst 0, 1), (29, .invokevirtual 45, 3), (32, .istore_n 3, 1), (33, .iload_n 3, 1), (34, .ifCond .ne 7, 3), (37, .iconst 0, 1), (38, .goto 21, 3), (41, .aload_n 0, 1), (42, .getfield 19, 3), (45, .iload_n 3, 1), (46, .invokevirtual 88, 3), (49, .iload_n 2, 1), (50, .sipush 128, 3), (53, .irem, 1), (54, .baload, 1), (55, .sipush 255, 3), (58, .iand, 1), (59, .ireturn, 1)]
theorem tv_X3_byteOf : Tv cX3_byteOf tb_X3_byteOf := by
  unfold Tv
  decide +kernel
theorem w_1560 : Cond.methodLink "LedgerFiles$Files" 71 yX7_size ∈ TB := tp_6 214 (by decide +kernel) rfl
theorem cw_X3_71 : Cw RX3 71 yX7_size cX7_size 2 (some .int) 1 := ⟨w_1560, w_943, w_157, by decide +kernel, by decide +kernel, by decide⟩
theorem w_1580 : Cond.methodLink "LedgerFiles$Files" 45 yX7_reach ∈ TB := tp_6 234 (by decide +kernel) rfl
theorem cw_X3_45 : Cw RX3 45 yX7_reach cX7_reach 8 (some .int) 3 := ⟨w_1580, w_956, w_157, by decide +kernel, by decide +kernel, by decide⟩
theorem w_1576 : Cond.methodLink "LedgerFiles$Files" 88 yX10_see ∈ TB := tp_6 230 (by decide +kernel) rfl
theorem cw_X3_88 : Cw RX3 88 yX10_see cX10_see 2 (some (.array .byte)) 1 := ⟨w_1576, w_912, w_155, by decide +kernel, by decide +kernel, by decide⟩
def d_X3_byteOf (N : Nat) (V : Nat → Rw) (D : CfT) (a0 : Int32) (a1 : Int32) : Option (Int32) := if a1 < 0 then some ((-1 : Int32)) else bnd (d_X7_size N V D a0) (fun v71 => if a1 < v71 then bnd (d_X7_reach N V D a0 ((a1) / ((128 : Int32))) ((0 : Int32))) (fun v72 => if v72 = 0 then some ((0 : Int32)) else seeB N V v72 (fun y74 => ld y74 128 ((a1) - (a1) / ((128 : Int32)) * ((128 : Int32))) (fun v75 => some ((v75) &&& ((255 : Int32)))))) else some ((-1 : Int32)))
set_option maxRecDepth 100000 in
set_option maxHeartbeats 4000000 in
theorem k_X3_byteOf (E : gE) (f : Nat → va_E) (N B gr : Nat) (C D : CfT) (A : MS) (hz : CfZ E N B gr) (h : CfV E f N B gr C) (hD : Dq D C) (hA : AR N B gr A C) (a0 : Int32) (a1 : Int32) (r : Int32) (hr : d_X3_byteOf N (vA A) D a0 a1 = some r) : Ct E 4 yX3_byteOf cX3_byteOf 4 (some .int) [.ref (gAd E (41)), .int (a0), .int (a1)] f (fun v g => v = some (.int r) ∧ CfV E g N B gr C ∧ Fr CfK f g, fun _ _ => False) := by
  obtain ⟨z1, z2, z3, z4, z5, z6, z7⟩ := id hz
  refine Ct.of (by decide) (Nat.le_of_ble_eq_true rfl) (fun sz => ?_)
  refine G.eql [(0, .ref (gAd E (41))), (1, .int (a0)), (2, .int (a1))] rfl ?_
  unfold d_X3_byteOf at hr
  refine G.go tv_X3_byteOf 1 1 [(0, .ref (gAd E (41))), (1, .int (a0)), (2, .int (a1))] [.int (a1)] rfl ?_
  refine G.if_lt 16 (tbd tv_X3_byteOf rfl) (by decide) (fun c1 => ?_) (fun c1 => ?_)
  · replace hr := ite_t c1 hr
    refine G.go tv_X3_byteOf 1 17 [(0, .ref (gAd E (41))), (1, .int (a0)), (2, .int (a1))] [.int ((-1 : Int32))] rfl ?_
    cases hr
    exact G.iret rfl rfl ⟨rfl, h, Fr.rf⟩ (tbd tv_X3_byteOf rfl)
  · replace hr := ite_f c1 hr
    refine G.go tv_X3_byteOf 2 6 [(0, .ref (gAd E (41))), (1, .int (a0)), (2, .int (a1))] [.ref (gAd E (41)), .int (a1)] rfl ?_
    refine G.getf cls_X3 (41) 1 (by omega) (h.q41) (by decide) rfl (tbd tv_X3_byteOf rfl) w_526 ?_
    refine G.go tv_X3_byteOf 1 10 [(0, .ref (gAd E (41))), (1, .int (a0)), (2, .int (a1))] [.int (a0), .ref (gAd E (37)), .int (a1)] rfl ?_
    obtain ⟨v71, hv71, hr⟩ := bnd_s hr
    refine G.callV (37) [.int (a0)] [.int (a1)] (k_X7_size E _ N B gr C D A hz h hD hA a0 v71 hv71) cls_X7 (by omega) (h.q37) cw_X3_71 w_941 w_942 (Nat.le_of_ble_eq_true rfl) rfl (Nat.le_of_ble_eq_true rfl) (tbd tv_X3_byteOf rfl) (fun v71w f71 q71 => ?_) (fun _ _ h => h.elim)
    obtain ⟨rfl, ha71, fa71⟩ := q71
    refine G.eqs [.int (v71), .int (a1)] rfl ?_
    refine G.cmp_lt 18 (tbd tv_X3_byteOf rfl) (by decide) (fun c13 => ?_) (fun c13 => ?_)
    · replace hr := ite_t c13 hr
      refine G.go tv_X3_byteOf 1 19 [(0, .ref (gAd E (41))), (1, .int (a0)), (2, .int (a1))] [.ref (gAd E (41))] rfl ?_
      refine G.getf cls_X3 (41) 1 (by omega) (ha71.q41) (by decide) rfl (tbd tv_X3_byteOf rfl) w_526 ?_
      refine G.go tv_X3_byteOf 3 27 [(0, .ref (gAd E (41))), (1, .int (a0)), (2, .int (a1))] [.int ((128 : Int32)), .int (a1), .int (a0), .ref (gAd E (37))] rfl ?_
      refine G.idiv (by decide) (tbd tv_X3_byteOf rfl) ?_
      refine G.go tv_X3_byteOf 1 29 [(0, .ref (gAd E (41))), (1, .int (a0)), (2, .int (a1))] [.int ((0 : Int32)), .int ((a1) / ((128 : Int32))), .int (a0), .ref (gAd E (37))] rfl ?_
      obtain ⟨v72, hv72, hr⟩ := bnd_s hr
      refine G.callV (37) [.int (a0), .int ((a1) / ((128 : Int32))), .int ((0 : Int32))] [] (k_X7_reach E _ N B gr C D A hz ha71 hD hA a0 ((a1) / ((128 : Int32))) ((0 : Int32)) v72 hv72) cls_X7 (by omega) (ha71.q37) cw_X3_45 w_954 w_955 (Nat.le_of_ble_eq_true rfl) rfl (Nat.le_of_ble_eq_true rfl) (tbd tv_X3_byteOf rfl) (fun v72w f72 q72 => ?_) (fun _ _ h => h.elim)
      obtain ⟨rfl, ha72, fa72⟩ := q72
      refine G.eqs [.int (v72)] rfl ?_
      refine G.go tv_X3_byteOf 2 34 [(0, .ref (gAd E (41))), (1, .int (a0)), (2, .int (a1)), (3, .int (v72))] [.int (v72)] rfl ?_
      refine G.if_ne 41 (tbd tv_X3_byteOf rfl) (by decide) (fun c34 => ?_) (fun c34 => ?_)
      · replace hr := ite_f c34 hr
        refine G.go tv_X3_byteOf 1 42 [(0, .ref (gAd E (41))), (1, .int (a0)), (2, .int (a1)), (3, .int (v72))] [.ref (gAd E (41))] rfl ?_
        refine G.getf cls_X3 (41) 0 (by omega) (ha72.q41) (by decide) rfl (tbd tv_X3_byteOf rfl) w_525 ?_
        refine G.go tv_X3_byteOf 1 46 [(0, .ref (gAd E (41))), (1, .int (a0)), (2, .int (a1)), (3, .int (v72))] [.int (v72), .ref (gAd E (25))] rfl ?_
        obtain ⟨y74, b74, e74, hr⟩ := seeB_s hr
        refine G.callV (25) [.int (v72)] [] (k_see E _ N B gr C A hz ha72 hA _ b74 _ e74) cls_X10 (by omega) (ha72.q25) cw_X3_88 w_910 w_911 (Nat.le_of_ble_eq_true rfl) rfl (Nat.le_of_ble_eq_true rfl) (tbd tv_X3_byteOf rfl) (fun v74w f74 q74 => ?_) (fun _ _ h => h.elim)
        obtain ⟨⟨k74, rfl, w74⟩, ha74, fa74⟩ := q74
        refine G.eqs [.ref (gAd E (k74))] rfl ?_
        refine G.go tv_X3_byteOf 2 53 [(0, .ref (gAd E (41))), (1, .int (a0)), (2, .int (a1)), (3, .int (v72))] [.int ((128 : Int32)), .int (a1), .ref (gAd E (k74))] rfl ?_
        refine G.irem (by decide) (tbd tv_X3_byteOf rfl) ?_
        obtain ⟨v75, b75, e75, hr⟩ := ld_s hr
        refine G.arld hz ha74 (w74) b75 e75 (tbd tv_X3_byteOf rfl) ?_
        refine G.go tv_X3_byteOf 2 59 [(0, .ref (gAd E (41))), (1, .int (a0)), (2, .int (a1)), (3, .int (v72))] [.int ((v75) &&& ((255 : Int32)))] rfl ?_
        cases hr
        exact G.iret rfl rfl ⟨rfl, ha74, (((Fr.rf.tr fa71 (fun _ h => h)).tr fa72 (fun _ h => h)).tr fa74 (fun _ h => h))⟩ (tbd tv_X3_byteOf rfl)
      · replace hr := ite_t c34 hr
        refine G.go tv_X3_byteOf 2 59 [(0, .ref (gAd E (41))), (1, .int (a0)), (2, .int (a1)), (3, .int (v72))] [.int ((0 : Int32))] rfl ?_
        cases hr
        exact G.iret rfl rfl ⟨rfl, ha72, ((Fr.rf.tr fa71 (fun _ h => h)).tr fa72 (fun _ h => h))⟩ (tbd tv_X3_byteOf rfl)
    · replace hr := ite_f c13 hr
      refine G.go tv_X3_byteOf 1 17 [(0, .ref (gAd E (41))), (1, .int (a0)), (2, .int (a1))] [.int ((-1 : Int32))] rfl ?_
      cases hr
      exact G.iret rfl rfl ⟨rfl, ha71, (Fr.rf.tr fa71 (fun _ h => h))⟩ (tbd tv_X3_byteOf rfl)
def tb_X3_powerOf31 : List (Nat × Instr × Nat) := [(0, .lconst 1, 1), (1, .lstore_n 1, 1), (2, .ldc2_w 112, 3), (5, .lstore_n 3, 1), (6, .iload_n 0, 1), (7, .istore 5, 2), (9, .iload 5, 2), (11, .ifCond .le 27, 3), (14, .iload 5, 2), (16, .iconst 1, 1), (17, .iand, 1), (18, .ifCond .eq 7, 3), (21, .lload_n 1, 1), (22, .lload_n 3, 1), (23, .lmul, 1), (24, .lstore_n 1, 1), (25, .lload_n 3, 1), (26, .lload_n 3, 1), (27, .lmul, 1), (28, .lstore_n 3, 1), (29, .iload 5, 2), (31, .iconst 1, 1), (32, .ishr, 1), (33, .istore 5, 2), (35, .goto (-26), 3), (38, .lload_n 1, 1), (39, .lreturn, 1)]
theorem tv_X3_powerOf31 : Tv cX3_powerOf31 tb_X3_powerOf31 := by
  unfold Tv
  decide +kernel
theorem w_1963 : Cond.constantLong "LedgerFiles$Files" 112 (31 : Int64) ∈ TB := tp_8 137 (by decide +kernel) rfl
def d_X3_powerOf31_9 (N : Nat) (V : Nat → Rw) (D : CfT) : Nat → Int64 → Int64 → Int32 → Option (Int64)
  | 0, _, _, _ => none
  | n + 1, x1, x3, x5 => if x5 ≤ 0 then some x1 else if ((x5) &&& ((1 : Int32))) = 0 then d_X3_powerOf31_9 N V D n x1 ((x3) * (x3)) ((x5) >>> (((1 : Int32)) &&& 31)) else d_X3_powerOf31_9 N V D n ((x1) * (x3)) ((x3) * (x3)) ((x5) >>> (((1 : Int32)) &&& 31))
def d_X3_powerOf31 (N : Nat) (V : Nat → Rw) (D : CfT) (a0 : Int32) : Option (Int64) := d_X3_powerOf31_9 N V D fuL ((1 : Int64)) ((31 : Int64)) a0
set_option maxRecDepth 100000 in
set_option maxHeartbeats 4000000 in
theorem l_X3_powerOf31_9 (E : gE) (f0 : Nat → va_E) (sz : Nat) (QA : Nat → Prop) (N B gr : Nat) (C D : CfT) (A : MS) (hz : CfZ E N B gr) (hD : Dq D C) (hA : AR N B gr A C) : ∀ (n : Nat), ∀ (x1 : Int64) (x3 : Int64) (x5 : Int32) (r : Int64) (hr : d_X3_powerOf31_9 N (vA A) D n x1 x3 x5 = some r) (f : Nat → va_E) (h : CfV E f N B gr C) (hf : Fr CfK f0 f), G E (1, yX3_powerOf31, 6, (some .long), sz, QA) cX3_powerOf31 (gO E (1, yX3_powerOf31, 6, (some .long), sz, QA) (fun v g => v = some (.long r) ∧ CfV E g N B gr C ∧ Fr CfK f0 g, fun _ _ => False)) 9 [(1, .long (x1)), (3, .long (x3)), (5, .int (x5))] [] f := by
  obtain ⟨z1, z2, z3, z4, z5, z6, z7⟩ := id hz
  intro n
  induction n with
  | zero =>
    intro x1 x3 x5 r hr f h hf
    cases hr
  | succ n ih =>
    intro x1 x3 x5 r hr f h hf
    unfold d_X3_powerOf31_9 at hr
    refine G.go tv_X3_powerOf31 1 11 [(1, .long (x1)), (3, .long (x3)), (5, .int (x5))] [.int (x5)] rfl ?_
    refine G.if_le 38 (tbd tv_X3_powerOf31 rfl) (by decide) (fun c11 => ?_) (fun c11 => ?_)
    · replace hr := ite_t c11 hr
      refine G.go tv_X3_powerOf31 1 39 [(1, .long (x1)), (3, .long (x3)), (5, .int (x5))] [.long (x1)] rfl ?_
      cases hr
      exact G.lret rfl ⟨rfl, h, hf⟩ (tbd tv_X3_powerOf31 rfl)
    · replace hr := ite_f c11 hr
      refine G.go tv_X3_powerOf31 3 18 [(1, .long (x1)), (3, .long (x3)), (5, .int (x5))] [.int ((x5) &&& ((1 : Int32)))] rfl ?_
      refine G.if_eq 25 (tbd tv_X3_powerOf31 rfl) (by decide) (fun c18 => ?_) (fun c18 => ?_)
      · replace hr := ite_t c18 hr
        refine G.go tv_X3_powerOf31 9 9 [(1, .long (x1)), (3, .long ((x3) * (x3))), (5, .int ((x5) >>> (((1 : Int32)) &&& 31)))] [] rfl ?_
        refine G.less [(1, .long (x1)), (3, .long ((x3) * (x3))), (5, .int ((x5) >>> (((1 : Int32)) &&& 31)))] [0, 1, 2] rfl ?_
        exact ih _ _ _ _ hr _ h hf
      · replace hr := ite_f c18 hr
        refine G.go tv_X3_powerOf31 13 9 [(1, .long ((x1) * (x3))), (3, .long ((x3) * (x3))), (5, .int ((x5) >>> (((1 : Int32)) &&& 31)))] [] rfl ?_
        refine G.less [(1, .long ((x1) * (x3))), (3, .long ((x3) * (x3))), (5, .int ((x5) >>> (((1 : Int32)) &&& 31)))] [0, 1, 2] rfl ?_
        exact ih _ _ _ _ hr _ h hf
set_option maxRecDepth 100000 in
set_option maxHeartbeats 4000000 in
theorem k_X3_powerOf31 (E : gE) (f : Nat → va_E) (N B gr : Nat) (C D : CfT) (A : MS) (hz : CfZ E N B gr) (h : CfV E f N B gr C) (hD : Dq D C) (hA : AR N B gr A C) (a0 : Int32) (r : Int64) (hr : d_X3_powerOf31 N (vA A) D a0 = some r) : Ct E 1 yX3_powerOf31 cX3_powerOf31 6 (some .long) [.int (a0)] f (fun v g => v = some (.long r) ∧ CfV E g N B gr C ∧ Fr CfK f g, fun _ _ => False) := by
  obtain ⟨z1, z2, z3, z4, z5, z6, z7⟩ := id hz
  refine Ct.of (by decide) (Nat.le_of_ble_eq_true rfl) (fun sz => ?_)
  refine G.eql [(0, .int (a0))] rfl ?_
  unfold d_X3_powerOf31 at hr
  refine G.go tv_X3_powerOf31 2 2 [(0, .int (a0)), (1, .long ((1 : Int64)))] [] rfl ?_
  refine G.ldc2 (31) (tbd tv_X3_powerOf31 rfl) w_1963 ?_
  refine G.go tv_X3_powerOf31 3 9 [(0, .int (a0)), (1, .long ((1 : Int64))), (3, .long ((31 : Int64))), (5, .int (a0))] [] rfl ?_
  refine G.less [(1, .long ((1 : Int64))), (3, .long ((31 : Int64))), (5, .int (a0))] [1, 2, 3] rfl ?_
  exact l_X3_powerOf31_9 E f sz _ N B gr C D A hz hD hA _ _ _ _ _ hr _ h Fr.rf
def tb_X8_isNameByte : List (Nat × Instr × Nat) := [(0, .iload_n 0, 1), (1, .bipush 97, 2), (3, .if_icmp .lt 9, 3), (6, .iload_n 0, 1), (7, .bipush 122, 2), (9, .if_icmp .le 45, 3), (12, .iload_n 0, 1), (13, .bipush 65, 2), (15, .if_icmp .lt 9, 3), (18, .iload_n 0, 1), (19, .bipush 90, 2), (21, .if_icmp .le 33, 3), (24, .iload_n 0, 1), (25, .bipush 48, 2), (27, .if_icmp .lt 9, 3), (30, .iload_n 0, 1), (31, .bipush 57, 2), (33, .if_icmp .le 21, 3), (36, .iload_n 0, 1), (37, .bipush 46, 2), (39, .if_icmp .eq 15, 3), (42, .iload_n 0, 1), (43, .bipush 95, 2), (45, .if_icmp .eq 9, 3), (48, .iload_n 0, 1), (49, .bipush 45, 2), (51, .if_icmp .ne 7, 3), (54, .iconst 1, 1), (55, .goto 4, 3), (58, .iconst 0, 1), (59, .ireturn, 1)]
theorem tv_X8_isNameByte : Tv cX8_isNameByte tb_X8_isNameByte := by
  unfold Tv
  decide +kernel
def d_X8_isNameByte_54 (N : Nat) (V : Nat → Rw) (D : CfT) : Option (Int32) := some ((1 : Int32))
def d_X8_isNameByte_24 (N : Nat) (V : Nat → Rw) (D : CfT) (x0 : Int32) : Option (Int32) := if x0 < ((48 : Int32)) then if x0 = ((46 : Int32)) then d_X8_isNameByte_54 N V D else if x0 = ((95 : Int32)) then d_X8_isNameByte_54 N V D else if x0 = ((45 : Int32)) then d_X8_isNameByte_54 N V D else some ((0 : Int32)) else if x0 ≤ ((57 : Int32)) then d_X8_isNameByte_54 N V D else if x0 = ((46 : Int32)) then d_X8_isNameByte_54 N V D else if x0 = ((95 : Int32)) then d_X8_isNameByte_54 N V D else if x0 = ((45 : Int32)) then d_X8_isNameByte_54 N V D else some ((0 : Int32))
def d_X8_isNameByte_12 (N : Nat) (V : Nat → Rw) (D : CfT) (x0 : Int32) : Option (Int32) := if x0 < ((65 : Int32)) then d_X8_isNameByte_24 N V D x0 else if x0 ≤ ((90 : Int32)) then d_X8_isNameByte_54 N V D else d_X8_isNameByte_24 N V D x0
def d_X8_isNameByte (N : Nat) (V : Nat → Rw) (D : CfT) (a0 : Int32) : Option (Int32) := if a0 < ((97 : Int32)) then d_X8_isNameByte_12 N V D a0 else if a0 ≤ ((122 : Int32)) then d_X8_isNameByte_54 N V D else d_X8_isNameByte_12 N V D a0
set_option maxRecDepth 100000 in
set_option maxHeartbeats 4000000 in
theorem l_X8_isNameByte_54 (E : gE) (f0 : Nat → va_E) (sz : Nat) (QA : Nat → Prop) (N B gr : Nat) (C D : CfT) (A : MS) (hz : CfZ E N B gr) (hD : Dq D C) (hA : AR N B gr A C) : ∀ (r : Int32) (hr : d_X8_isNameByte_54 N (vA A) D = some r) (f : Nat → va_E) (h : CfV E f N B gr C) (hf : Fr CfK f0 f), G E (1, yX8_isNameByte, 1, (some .boolean), sz, QA) cX8_isNameByte (gO E (1, yX8_isNameByte, 1, (some .boolean), sz, QA) (fun v g => v = some (.int r) ∧ CfV E g N B gr C ∧ Fr CfK f0 g, fun _ _ => False)) 54 [] [] f := by
  obtain ⟨z1, z2, z3, z4, z5, z6, z7⟩ := id hz
  intro r hr f h hf
  unfold d_X8_isNameByte_54 at hr
  refine G.go tv_X8_isNameByte 2 59 [] [.int ((1 : Int32))] rfl ?_
  cases hr
  exact G.iret rfl rfl ⟨rfl, h, hf⟩ (tbd tv_X8_isNameByte rfl)
set_option maxRecDepth 100000 in
set_option maxHeartbeats 4000000 in
theorem l_X8_isNameByte_24 (E : gE) (f0 : Nat → va_E) (sz : Nat) (QA : Nat → Prop) (N B gr : Nat) (C D : CfT) (A : MS) (hz : CfZ E N B gr) (hD : Dq D C) (hA : AR N B gr A C) : ∀ (x0 : Int32) (r : Int32) (hr : d_X8_isNameByte_24 N (vA A) D x0 = some r) (f : Nat → va_E) (h : CfV E f N B gr C) (hf : Fr CfK f0 f), G E (1, yX8_isNameByte, 1, (some .boolean), sz, QA) cX8_isNameByte (gO E (1, yX8_isNameByte, 1, (some .boolean), sz, QA) (fun v g => v = some (.int r) ∧ CfV E g N B gr C ∧ Fr CfK f0 g, fun _ _ => False)) 24 [(0, .int (x0))] [] f := by
  obtain ⟨z1, z2, z3, z4, z5, z6, z7⟩ := id hz
  intro x0 r hr f h hf
  unfold d_X8_isNameByte_24 at hr
  refine G.go tv_X8_isNameByte 2 27 [(0, .int (x0))] [.int ((48 : Int32)), .int (x0)] rfl ?_
  refine G.cmp_lt 36 (tbd tv_X8_isNameByte rfl) (by decide) (fun c27 => ?_) (fun c27 => ?_)
  · replace hr := ite_t c27 hr
    refine G.go tv_X8_isNameByte 2 39 [(0, .int (x0))] [.int ((46 : Int32)), .int (x0)] rfl ?_
    refine G.cmp_eq 54 (tbd tv_X8_isNameByte rfl) (by decide) (fun c39 => ?_) (fun c39 => ?_)
    · replace hr := ite_t c39 hr
      refine G.less [] [] rfl ?_
      exact l_X8_isNameByte_54 E f0 sz QA N B gr C D A hz hD hA _ hr _ h hf
    · replace hr := ite_f c39 hr
      refine G.go tv_X8_isNameByte 2 45 [(0, .int (x0))] [.int ((95 : Int32)), .int (x0)] rfl ?_
      refine G.cmp_eq 54 (tbd tv_X8_isNameByte rfl) (by decide) (fun c45 => ?_) (fun c45 => ?_)
      · replace hr := ite_t c45 hr
        refine G.less [] [] rfl ?_
        exact l_X8_isNameByte_54 E f0 sz QA N B gr C D A hz hD hA _ hr _ h hf
      · replace hr := ite_f c45 hr
        refine G.go tv_X8_isNameByte 2 51 [(0, .int (x0))] [.int ((45 : Int32)), .int (x0)] rfl ?_
        refine G.cmp_ne 58 (tbd tv_X8_isNameByte rfl) (by decide) (fun c51 => ?_) (fun c51 => ?_)
        · replace hr := ite_f c51 hr
          refine G.go tv_X8_isNameByte 1 59 [(0, .int (x0))] [.int ((0 : Int32))] rfl ?_
          cases hr
          exact G.iret rfl rfl ⟨rfl, h, hf⟩ (tbd tv_X8_isNameByte rfl)
        · replace hr := ite_t c51 hr
          refine G.less [] [] rfl ?_
          exact l_X8_isNameByte_54 E f0 sz QA N B gr C D A hz hD hA _ hr _ h hf
  · replace hr := ite_f c27 hr
    refine G.go tv_X8_isNameByte 2 33 [(0, .int (x0))] [.int ((57 : Int32)), .int (x0)] rfl ?_
    refine G.cmp_le 54 (tbd tv_X8_isNameByte rfl) (by decide) (fun c33 => ?_) (fun c33 => ?_)
    · replace hr := ite_t c33 hr
      refine G.less [] [] rfl ?_
      exact l_X8_isNameByte_54 E f0 sz QA N B gr C D A hz hD hA _ hr _ h hf
    · replace hr := ite_f c33 hr
      refine G.go tv_X8_isNameByte 2 39 [(0, .int (x0))] [.int ((46 : Int32)), .int (x0)] rfl ?_
      refine G.cmp_eq 54 (tbd tv_X8_isNameByte rfl) (by decide) (fun c39 => ?_) (fun c39 => ?_)
      · replace hr := ite_t c39 hr
        refine G.less [] [] rfl ?_
        exact l_X8_isNameByte_54 E f0 sz QA N B gr C D A hz hD hA _ hr _ h hf
      · replace hr := ite_f c39 hr
        refine G.go tv_X8_isNameByte 2 45 [(0, .int (x0))] [.int ((95 : Int32)), .int (x0)] rfl ?_
        refine G.cmp_eq 54 (tbd tv_X8_isNameByte rfl) (by decide) (fun c45 => ?_) (fun c45 => ?_)
        · replace hr := ite_t c45 hr
          refine G.less [] [] rfl ?_
          exact l_X8_isNameByte_54 E f0 sz QA N B gr C D A hz hD hA _ hr _ h hf
        · replace hr := ite_f c45 hr
          refine G.go tv_X8_isNameByte 2 51 [(0, .int (x0))] [.int ((45 : Int32)), .int (x0)] rfl ?_
          refine G.cmp_ne 58 (tbd tv_X8_isNameByte rfl) (by decide) (fun c51 => ?_) (fun c51 => ?_)
          · replace hr := ite_f c51 hr
            refine G.go tv_X8_isNameByte 1 59 [(0, .int (x0))] [.int ((0 : Int32))] rfl ?_
            cases hr
            exact G.iret rfl rfl ⟨rfl, h, hf⟩ (tbd tv_X8_isNameByte rfl)
          · replace hr := ite_t c51 hr
            refine G.less [] [] rfl ?_
            exact l_X8_isNameByte_54 E f0 sz QA N B gr C D A hz hD hA _ hr _ h hf
set_option maxRecDepth 100000 in
set_option maxHeartbeats 4000000 in
theorem l_X8_isNameByte_12 (E : gE) (f0 : Nat → va_E) (sz : Nat) (QA : Nat → Prop) (N B gr : Nat) (C D : CfT) (A : MS) (hz : CfZ E N B gr) (hD : Dq D C) (hA : AR N B gr A C) : ∀ (x0 : Int32) (r : Int32) (hr : d_X8_isNameByte_12 N (vA A) D x0 = some r) (f : Nat → va_E) (h : CfV E f N B gr C) (hf : Fr CfK f0 f), G E (1, yX8_isNameByte, 1, (some .boolean), sz, QA) cX8_isNameByte (gO E (1, yX8_isNameByte, 1, (some .boolean), sz, QA) (fun v g => v = some (.int r) ∧ CfV E g N B gr C ∧ Fr CfK f0 g, fun _ _ => False)) 12 [(0, .int (x0))] [] f := by
  obtain ⟨z1, z2, z3, z4, z5, z6, z7⟩ := id hz
  intro x0 r hr f h hf
  unfold d_X8_isNameByte_12 at hr
  refine G.go tv_X8_isNameByte 2 15 [(0, .int (x0))] [.int ((65 : Int32)), .int (x0)] rfl ?_
  refine G.cmp_lt 24 (tbd tv_X8_isNameByte rfl) (by decide) (fun c15 => ?_) (fun c15 => ?_)
  · replace hr := ite_t c15 hr
    refine G.less [(0, .int (x0))] [0] rfl ?_
    exact l_X8_isNameByte_24 E f0 sz QA N B gr C D A hz hD hA _ _ hr _ h hf
  · replace hr := ite_f c15 hr
    refine G.go tv_X8_isNameByte 2 21 [(0, .int (x0))] [.int ((90 : Int32)), .int (x0)] rfl ?_
    refine G.cmp_le 54 (tbd tv_X8_isNameByte rfl) (by decide) (fun c21 => ?_) (fun c21 => ?_)
    · replace hr := ite_t c21 hr
      refine G.less [] [] rfl ?_
      exact l_X8_isNameByte_54 E f0 sz QA N B gr C D A hz hD hA _ hr _ h hf
    · replace hr := ite_f c21 hr
      refine G.less [(0, .int (x0))] [0] rfl ?_
      exact l_X8_isNameByte_24 E f0 sz QA N B gr C D A hz hD hA _ _ hr _ h hf
set_option maxRecDepth 100000 in
set_option maxHeartbeats 4000000 in
theorem k_X8_isNameByte (E : gE) (f : Nat → va_E) (N B gr : Nat) (C D : CfT) (A : MS) (hz : CfZ E N B gr) (h : CfV E f N B gr C) (hD : Dq D C) (hA : AR N B gr A C) (a0 : Int32) (r : Int32) (hr : d_X8_isNameByte N (vA A) D a0 = some r) : Ct E 1 yX8_isNameByte cX8_isNameByte 1 (some .boolean) [.int (a0)] f (fun v g => v = some (.int r) ∧ CfV E g N B gr C ∧ Fr CfK f g, fun _ _ => False) := by
  obtain ⟨z1, z2, z3, z4, z5, z6, z7⟩ := id hz
  refine Ct.of (by decide) (Nat.le_of_ble_eq_true rfl) (fun sz => ?_)
  refine G.eql [(0, .int (a0))] rfl ?_
  unfold d_X8_isNameByte at hr
  refine G.go tv_X8_isNameByte 2 3 [(0, .int (a0))] [.int ((97 : Int32)), .int (a0)] rfl ?_
  refine G.cmp_lt 12 (tbd tv_X8_isNameByte rfl) (by decide) (fun c3 => ?_) (fun c3 => ?_)
  · replace hr := ite_t c3 hr
    refine G.less [(0, .int (a0))] [0] rfl ?_
    exact l_X8_isNameByte_12 E f sz _ N B gr C D A hz hD hA _ _ hr _ h Fr.rf
  · replace hr := ite_f c3 hr
    refine G.go tv_X8_isNameByte 2 9 [(0, .int (a0))] [.int ((122 : Int32)), .int (a0)] rfl ?_
    refine G.cmp_le 54 (tbd tv_X8_isNameByte rfl) (by decide) (fun c9 => ?_) (fun c9 => ?_)
    · replace hr := ite_t c9 hr
      refine G.less [] [] rfl ?_
      exact l_X8_isNameByte_54 E f sz _ N B gr C D A hz hD hA _ hr _ h Fr.rf
    · replace hr := ite_f c9 hr
      refine G.less [(0, .int (a0))] [0] rfl ?_
      exact l_X8_isNameByte_12 E f sz _ N B gr C D A hz hD hA _ _ hr _ h Fr.rf
def tb_X8_isName : List (Nat × Instr × Nat) := [(0, .iload_n 2, 1), (1, .iconst 1, 1), (2, .if_icmp .lt 21, 3), (5, .iload_n 2, 1), (6, .bipush 13, 2), (8, .if_icmp .gt 15, 3), (11, .iload_n 1, 1), (12, .ifCond .lt 11, 3), (15, .iload_n 1, 1), (16, .iload_n 2, 1), (17, .iadd, 1), (18, .aload_n 0, 1), (19, .arraylength, 1), (20, .if_icmp .le 5, 3), (23, .iconst 0, 1), (24, .ireturn, 1), (25, .iconst 1, 1), (26, .istore_n 3, 1), (27, .iconst 0, 1), (28, .istore 4, 2), (30, .iload 4, 2), (32, .iload_n 2, 1), (33, .if_icmp .ge 44, 3), (36, .aload_n 0, 1), (37, .iload_n 1, 1), (38, .iload 4, 2), (40, .iadd, 1), (41, .baload, 1), (42, .invokestatic 16, 3), (45, .ifCond .ne 5, 3), (48, .iconst 0, 1), (49, .ireturn, 1), (50, .iload_n 3, 1), (51, .ifCond .eq 18, 3), (54, .aload_n 0, 1), (55, .iload_n 1, 1), (56, .iload 4, 2), (58, .iadd, 1), (59, .baload, 1), (60, .bipush 46, 2), (62, .if_icmp .ne 7, 3), (65, .iconst 1, 1), (66, .goto 4, 3), (69, .iconst 0, 1), (70, .istore_n 3, 1), (71, .iinc 4 1, 3), (74, .goto (-44), 3), (77, .iload_n 3, 1), (78, .ifCond .eq 8, 3), (81, .iload_n 2, 1), (82, .iconst 2, 1), (83, .if_icmp .le 7, 3), (86, .iconst 1, 1), (87, .goto 4, 3), (90, .iconst 0, 1), (91, .ireturn, 1)]
theorem tv_X8_isName : Tv cX8_isName tb_X8_isName := by
  unfold Tv
  decide +kernel
theorem w_1352 : Cond.methodLink "LedgerFiles$Path" 16 yX8_isNameByte ∈ TB := tp_6 6 (by decide +kernel) rfl
theorem w_1354 : Cond.code yX8_isNameByte prog_10_method_2_code 1 (some .boolean) ∈ TB := tp_6 8 rfl rfl
theorem cw_X8_16 : Cw RX8 16 yX8_isNameByte cX8_isNameByte 1 (some .boolean) 1 := ⟨w_1352, w_1354, w_148, by decide +kernel, by decide +kernel, by decide⟩
theorem w_1353 : Cond.static yX8_isNameByte ∈ TB := tp_6 7 (by decide +kernel) rfl
def d_X8_isName_30 (N : Nat) (V : Nat → Rw) (D : CfT) : Nat → (Nat → Int32) → Nat → Int32 → Int32 → Int32 → Int32 → Option (Int32)
  | 0, _, _, _, _, _, _ => none
  | n + 1, ga0, na0, x1, x2, x3, x4 => if x2 ≤ x4 then if x3 = 0 then some ((1 : Int32)) else if x2 ≤ ((2 : Int32)) then some ((0 : Int32)) else some ((1 : Int32)) else ld ga0 na0 ((x1) + (x4)) (fun v76 => bnd (d_X8_isNameByte N V D v76) (fun v77 => if v77 = 0 then some ((0 : Int32)) else if x3 = 0 then d_X8_isName_30 N V D n ga0 na0 x1 x2 ((0 : Int32)) (x4 + (1 : Int32)) else ld ga0 na0 ((x1) + (x4)) (fun v78 => if v78 = ((46 : Int32)) then d_X8_isName_30 N V D n ga0 na0 x1 x2 ((1 : Int32)) (x4 + (1 : Int32)) else d_X8_isName_30 N V D n ga0 na0 x1 x2 ((0 : Int32)) (x4 + (1 : Int32)))))
def d_X8_isName (N : Nat) (V : Nat → Rw) (D : CfT) (ga0 : Nat → Int32) (na0 : Nat) (a1 : Int32) (a2 : Int32) : Option (Int32) := if a2 < ((1 : Int32)) then some ((0 : Int32)) else if ((13 : Int32)) < a2 then some ((0 : Int32)) else if a1 < 0 then some ((0 : Int32)) else if ((a1) + (a2)) ≤ (nI na0) then d_X8_isName_30 N V D fuL ga0 na0 a1 a2 ((1 : Int32)) ((0 : Int32)) else some ((0 : Int32))
set_option maxRecDepth 100000 in
set_option maxHeartbeats 4000000 in
theorem l_X8_isName_30 (E : gE) (f0 : Nat → va_E) (sz : Nat) (QA : Nat → Prop) (N B gr : Nat) (C D : CfT) (A : MS) (hz : CfZ E N B gr) (hD : Dq D C) (hA : AR N B gr A C) : ∀ (n : Nat), ∀ (ga0 : Nat → Int32) (na0 : Nat) (x1 : Int32) (x2 : Int32) (x3 : Int32) (x4 : Int32) (r : Int32) (hr : d_X8_isName_30 N (vA A) D n ga0 na0 x1 x2 x3 x4 = some r) (f : Nat → va_E) (h : CfV E f N B gr C) (hf : Fr CfK f0 f) (ka0 : Nat) (wa0 : ArK N B gr C ka0 na0 ga0), G E (2, yX8_isName, 5, (some .boolean), sz, QA) cX8_isName (gO E (2, yX8_isName, 5, (some .boolean), sz, QA) (fun v g => v = some (.int r) ∧ CfV E g N B gr C ∧ Fr CfK f0 g, fun _ _ => False)) 30 [(0, .ref (gAd E (ka0))), (1, .int (x1)), (2, .int (x2)), (3, .int (x3)), (4, .int (x4))] [] f := by
  obtain ⟨z1, z2, z3, z4, z5, z6, z7⟩ := id hz
  intro n
  induction n with
  | zero =>
    intro ga0 na0 x1 x2 x3 x4 r hr f h hf ka0 wa0
    cases hr
  | succ n ih =>
    intro ga0 na0 x1 x2 x3 x4 r hr f h hf ka0 wa0
    unfold d_X8_isName_30 at hr
    refine G.go tv_X8_isName 2 33 [(0, .ref (gAd E (ka0))), (1, .int (x1)), (2, .int (x2)), (3, .int (x3)), (4, .int (x4))] [.int (x2), .int (x4)] rfl ?_
    refine G.cmp_ge 77 (tbd tv_X8_isName rfl) (by decide) (fun c33 => ?_) (fun c33 => ?_)
    · replace hr := ite_t c33 hr
      refine G.go tv_X8_isName 1 78 [(0, .ref (gAd E (ka0))), (1, .int (x1)), (2, .int (x2)), (3, .int (x3)), (4, .int (x4))] [.int (x3)] rfl ?_
      refine G.if_eq 86 (tbd tv_X8_isName rfl) (by decide) (fun c78 => ?_) (fun c78 => ?_)
      · replace hr := ite_t c78 hr
        refine G.go tv_X8_isName 2 91 [(0, .ref (gAd E (ka0))), (1, .int (x1)), (2, .int (x2)), (3, .int (x3)), (4, .int (x4))] [.int ((1 : Int32))] rfl ?_
        cases hr
        exact G.iret rfl rfl ⟨rfl, h, hf⟩ (tbd tv_X8_isName rfl)
      · replace hr := ite_f c78 hr
        refine G.go tv_X8_isName 2 83 [(0, .ref (gAd E (ka0))), (1, .int (x1)), (2, .int (x2)), (3, .int (x3)), (4, .int (x4))] [.int ((2 : Int32)), .int (x2)] rfl ?_
        refine G.cmp_le 90 (tbd tv_X8_isName rfl) (by decide) (fun c83 => ?_) (fun c83 => ?_)
        · replace hr := ite_t c83 hr
          refine G.go tv_X8_isName 1 91 [(0, .ref (gAd E (ka0))), (1, .int (x1)), (2, .int (x2)), (3, .int (x3)), (4, .int (x4))] [.int ((0 : Int32))] rfl ?_
          cases hr
          exact G.iret rfl rfl ⟨rfl, h, hf⟩ (tbd tv_X8_isName rfl)
        · replace hr := ite_f c83 hr
          refine G.go tv_X8_isName 2 91 [(0, .ref (gAd E (ka0))), (1, .int (x1)), (2, .int (x2)), (3, .int (x3)), (4, .int (x4))] [.int ((1 : Int32))] rfl ?_
          cases hr
          exact G.iret rfl rfl ⟨rfl, h, hf⟩ (tbd tv_X8_isName rfl)
    · replace hr := ite_f c33 hr
      refine G.go tv_X8_isName 4 41 [(0, .ref (gAd E (ka0))), (1, .int (x1)), (2, .int (x2)), (3, .int (x3)), (4, .int (x4))] [.int ((x1) + (x4)), .ref (gAd E (ka0))] rfl ?_
      obtain ⟨v76, b76, e76, hr⟩ := ld_s hr
      refine G.arld hz h (wa0) b76 e76 (tbd tv_X8_isName rfl) ?_
      obtain ⟨v77, hv77, hr⟩ := bnd_s hr
      refine G.callS [.int (v76)] [] (k_X8_isNameByte E _ N B gr C D A hz h hD hA v76 v77 hv77) cw_X8_16 w_1353 (Nat.le_of_ble_eq_true rfl) rfl (Nat.le_of_ble_eq_true rfl) (tbd tv_X8_isName rfl) (fun v77w f77 q77 => ?_) (fun _ _ h => h.elim)
      obtain ⟨rfl, ha77, fa77⟩ := q77
      refine G.eqs [.int (v77)] rfl ?_
      refine G.if_ne 50 (tbd tv_X8_isName rfl) (by decide) (fun c45 => ?_) (fun c45 => ?_)
      · replace hr := ite_f c45 hr
        refine G.go tv_X8_isName 1 51 [(0, .ref (gAd E (ka0))), (1, .int (x1)), (2, .int (x2)), (3, .int (x3)), (4, .int (x4))] [.int (x3)] rfl ?_
        refine G.if_eq 69 (tbd tv_X8_isName rfl) (by decide) (fun c51 => ?_) (fun c51 => ?_)
        · replace hr := ite_t c51 hr
          refine G.go tv_X8_isName 4 30 [(0, .ref (gAd E (ka0))), (1, .int (x1)), (2, .int (x2)), (3, .int ((0 : Int32))), (4, .int (x4 + (1 : Int32)))] [] rfl ?_
          refine G.less [(0, .ref (gAd E (ka0))), (1, .int (x1)), (2, .int (x2)), (3, .int ((0 : Int32))), (4, .int (x4 + (1 : Int32)))] [0, 1, 2, 3, 4] rfl ?_
          exact ih _ _ _ _ _ _ _ hr _ ha77 (hf.tr fa77 (fun _ h => h)) ka0 wa0
        · replace hr := ite_f c51 hr
          refine G.go tv_X8_isName 4 59 [(0, .ref (gAd E (ka0))), (1, .int (x1)), (2, .int (x2)), (3, .int (x3)), (4, .int (x4))] [.int ((x1) + (x4)), .ref (gAd E (ka0))] rfl ?_
          obtain ⟨v78, b78, e78, hr⟩ := ld_s hr
          refine G.arld hz ha77 (wa0) b78 e78 (tbd tv_X8_isName rfl) ?_
          refine G.go tv_X8_isName 1 62 [(0, .ref (gAd E (ka0))), (1, .int (x1)), (2, .int (x2)), (3, .int (x3)), (4, .int (x4))] [.int ((46 : Int32)), .int (v78)] rfl ?_
          refine G.cmp_ne 69 (tbd tv_X8_isName rfl) (by decide) (fun c62 => ?_) (fun c62 => ?_)
          · replace hr := ite_f c62 hr
            refine G.go tv_X8_isName 4 30 [(0, .ref (gAd E (ka0))), (1, .int (x1)), (2, .int (x2)), (3, .int ((0 : Int32))), (4, .int (x4 + (1 : Int32)))] [] rfl ?_
            refine G.less [(0, .ref (gAd E (ka0))), (1, .int (x1)), (2, .int (x2)), (3, .int ((0 : Int32))), (4, .int (x4 + (1 : Int32)))] [0, 1, 2, 3, 4] rfl ?_
            exact ih _ _ _ _ _ _ _ hr _ ha77 (hf.tr fa77 (fun _ h => h)) ka0 wa0
          · replace hr := ite_t c62 hr
            refine G.go tv_X8_isName 5 30 [(0, .ref (gAd E (ka0))), (1, .int (x1)), (2, .int (x2)), (3, .int ((1 : Int32))), (4, .int (x4 + (1 : Int32)))] [] rfl ?_
            refine G.less [(0, .ref (gAd E (ka0))), (1, .int (x1)), (2, .int (x2)), (3, .int ((1 : Int32))), (4, .int (x4 + (1 : Int32)))] [0, 1, 2, 3, 4] rfl ?_
            exact ih _ _ _ _ _ _ _ hr _ ha77 (hf.tr fa77 (fun _ h => h)) ka0 wa0
      · replace hr := ite_t c45 hr
        refine G.go tv_X8_isName 1 49 [(0, .ref (gAd E (ka0))), (1, .int (x1)), (2, .int (x2)), (3, .int (x3)), (4, .int (x4))] [.int ((0 : Int32))] rfl ?_
        cases hr
        exact G.iret rfl rfl ⟨rfl, ha77, (hf.tr fa77 (fun _ h => h))⟩ (tbd tv_X8_isName rfl)
set_option maxRecDepth 100000 in
set_option maxHeartbeats 4000000 in
theorem k_X8_isName (E : gE) (f : Nat → va_E) (N B gr : Nat) (C D : CfT) (A : MS) (hz : CfZ E N B gr) (h : CfV E f N B gr C) (hD : Dq D C) (hA : AR N B gr A C) (ka0 na0 : Nat) (ga0 : Nat → Int32) (wa0 : ArK N B gr C ka0 na0 ga0) (a1 : Int32) (a2 : Int32) (r : Int32) (hr : d_X8_isName N (vA A) D ga0 na0 a1 a2 = some r) : Ct E 2 yX8_isName cX8_isName 5 (some .boolean) [.ref (gAd E (ka0)), .int (a1), .int (a2)] f (fun v g => v = some (.int r) ∧ CfV E g N B gr C ∧ Fr CfK f g, fun _ _ => False) := by
  obtain ⟨z1, z2, z3, z4, z5, z6, z7⟩ := id hz
  refine Ct.of (by decide) (Nat.le_of_ble_eq_true rfl) (fun sz => ?_)
  refine G.eql [(0, .ref (gAd E (ka0))), (1, .int (a1)), (2, .int (a2))] rfl ?_
  unfold d_X8_isName at hr
  refine G.go tv_X8_isName 2 2 [(0, .ref (gAd E (ka0))), (1, .int (a1)), (2, .int (a2))] [.int ((1 : Int32)), .int (a2)] rfl ?_
  refine G.cmp_lt 23 (tbd tv_X8_isName rfl) (by decide) (fun c2 => ?_) (fun c2 => ?_)
  · replace hr := ite_t c2 hr
    refine G.go tv_X8_isName 1 24 [(0, .ref (gAd E (ka0))), (1, .int (a1)), (2, .int (a2))] [.int ((0 : Int32))] rfl ?_
    cases hr
    exact G.iret rfl rfl ⟨rfl, h, Fr.rf⟩ (tbd tv_X8_isName rfl)
  · replace hr := ite_f c2 hr
    refine G.go tv_X8_isName 2 8 [(0, .ref (gAd E (ka0))), (1, .int (a1)), (2, .int (a2))] [.int ((13 : Int32)), .int (a2)] rfl ?_
    refine G.cmp_gt 23 (tbd tv_X8_isName rfl) (by decide) (fun c8 => ?_) (fun c8 => ?_)
    · replace hr := ite_t c8 hr
      refine G.go tv_X8_isName 1 24 [(0, .ref (gAd E (ka0))), (1, .int (a1)), (2, .int (a2))] [.int ((0 : Int32))] rfl ?_
      cases hr
      exact G.iret rfl rfl ⟨rfl, h, Fr.rf⟩ (tbd tv_X8_isName rfl)
    · replace hr := ite_f c8 hr
      refine G.go tv_X8_isName 1 12 [(0, .ref (gAd E (ka0))), (1, .int (a1)), (2, .int (a2))] [.int (a1)] rfl ?_
      refine G.if_lt 23 (tbd tv_X8_isName rfl) (by decide) (fun c12 => ?_) (fun c12 => ?_)
      · replace hr := ite_t c12 hr
        refine G.go tv_X8_isName 1 24 [(0, .ref (gAd E (ka0))), (1, .int (a1)), (2, .int (a2))] [.int ((0 : Int32))] rfl ?_
        cases hr
        exact G.iret rfl rfl ⟨rfl, h, Fr.rf⟩ (tbd tv_X8_isName rfl)
      · replace hr := ite_f c12 hr
        refine G.go tv_X8_isName 4 19 [(0, .ref (gAd E (ka0))), (1, .int (a1)), (2, .int (a2))] [.ref (gAd E (ka0)), .int ((a1) + (a2))] rfl ?_
        refine G.arlen hz h (wa0) (tbd tv_X8_isName rfl) ?_
        refine G.cmp_le 25 (tbd tv_X8_isName rfl) (by decide) (fun c20 => ?_) (fun c20 => ?_)
        · replace hr := ite_t c20 hr
          refine G.go tv_X8_isName 4 30 [(0, .ref (gAd E (ka0))), (1, .int (a1)), (2, .int (a2)), (3, .int ((1 : Int32))), (4, .int ((0 : Int32)))] [] rfl ?_
          refine G.less [(0, .ref (gAd E (ka0))), (1, .int (a1)), (2, .int (a2)), (3, .int ((1 : Int32))), (4, .int ((0 : Int32)))] [0, 1, 2, 3, 4] rfl ?_
          exact l_X8_isName_30 E f sz _ N B gr C D A hz hD hA _ _ _ _ _ _ _ _ hr _ h Fr.rf ka0 wa0
        · replace hr := ite_f c20 hr
          refine G.go tv_X8_isName 1 24 [(0, .ref (gAd E (ka0))), (1, .int (a1)), (2, .int (a2))] [.int ((0 : Int32))] rfl ?_
          cases hr
          exact G.iret rfl rfl ⟨rfl, h, Fr.rf⟩ (tbd tv_X8_isName rfl)
def tb_X8_isBelow : List (Nat × Instr × Nat) := [(0, .aload_n 0, 1), (1, .getfield 20, 3), (4, .aload_n 1, 1), (5, .getfield 20, 3), (8, .if_icmp .gt 5, 3), (11, .iconst 0, 1), (12, .ireturn, 1), (13, .iconst 0, 1), (14, .istore_n 3, 1), (15, .iload_n 3, 1), (16, .aload_n 1, 1), (17, .getfield 20, 3), (20, .if_icmp .ge 73, 3), (23, .aload_n 0, 1), (24, .getfield 13, 3), (27, .iload_n 3, 1), (28, .iaload, 1), (29, .aload_n 1, 1), (30, .getfield 13, 3), (33, .iload_n 3, 1), (34, .iaload, 1), (35, .if_icmp .eq 5, 3), (38, .iconst 0, 1), (39, .ireturn, 1), (40, .iconst 0, 1), (41, .istore 4, 2), (43, .iload 4, 2), (45, .aload_n 0, 1), (46, .getfield 13, 3), (49, .iload_n 3, 1), (50, .iaload, 1), (51, .if_icmp .ge 36, 3), (54, .aload_n 2, 1), (55, .aload_n 0, 1), (56, .getfield 9, 3), (59, .iload_n 3, 1), (60, .iaload, 1), (61, .iload 4, 2), (63, .iadd, 1), (64, .baload, 1), (65, .aload_n 2, 1), (66, .aload_n 1, 1), (67, .getfield 9, 3), (70, .iload_n 3, 1), (71, .iaload, 1), (72, .iload 4, 2), (74, .iadd, 1), (75, .baload, 1), (76, .if_icmp .eq 5, 3), (79, .iconst 0, 1), (80, .ireturn, 1), (81, .iinc 4 1, 3), (84, .goto (-41), 3), (87, .iinc 3 1, 3), (90, .goto (-75), 3), (93, .iconst 1, 1), (94, .ireturn, 1)]
theorem tv_X8_isBelow : Tv cX8_isBelow tb_X8_isBelow := by
  unfold Tv
  decide +kernel
theorem w_196 : Cond.fieldLink "LedgerFiles$Path" 20 "LedgerFiles$Path" "depth" "I" ∈ TB := tp_1 50 (by decide +kernel) rfl
def d_X8_isBelow_50_43 (N : Nat) (V : Nat → Rw) (D : CfT) (self15 : Int32 → Option (Int32)) : Nat → Int32 → Int32 → Option (Int32)
  | 0, _, _ => none
  | n + 1, x3, x4 => ld (cA D 52) 16 x3 (fun v81 => if v81 ≤ x4 then self15 (x3 + (1 : Int32)) else ld (cA D 51) 16 x3 (fun v82 => ld (cA D 1) 1024 ((v82) + (x4)) (fun v83 => ld (cA D 48) 16 x3 (fun v84 => ld (cA D 1) 1024 ((v84) + (x4)) (fun v85 => if v83 = v85 then d_X8_isBelow_50_43 N V D self15 n x3 (x4 + (1 : Int32)) else some ((0 : Int32)))))))
def d_X8_isBelow_50_15 (N : Nat) (V : Nat → Rw) (D : CfT) : Nat → Int32 → Option (Int32)
  | 0, _ => none
  | n + 1, x3 => if (cS D 4702) ≤ x3 then some ((1 : Int32)) else ld (cA D 52) 16 x3 (fun v79 => ld (cA D 49) 16 x3 (fun v80 => if v79 = v80 then d_X8_isBelow_50_43 N V D (d_X8_isBelow_50_15 N V D n) fuL x3 ((0 : Int32)) else some ((0 : Int32))))
def d_X8_isBelow_50 (N : Nat) (V : Nat → Rw) (D : CfT) : Option (Int32) := if (cS D 4702) < (cS D 5002) then d_X8_isBelow_50_15 N V D fuL ((0 : Int32)) else some ((0 : Int32))
set_option maxRecDepth 100000 in
set_option maxHeartbeats 4000000 in
theorem l_X8_isBelow_50_43 (E : gE) (f0 : Nat → va_E) (sz : Nat) (QA : Nat → Prop) (N B gr : Nat) (C D : CfT) (A : MS) (hz : CfZ E N B gr) (hD : Dq D C) (hA : AR N B gr A C) (self15 : Int32 → Option (Int32)) (hs15 : ∀ (x3 : Int32) (r : Int32) (hr : self15 x3 = some r) (f : Nat → va_E) (h : CfV E f N B gr C) (hf : Fr CfK f0 f), G E (1, yX8_isBelow, 5, (some .boolean), sz, QA) cX8_isBelow (gO E (1, yX8_isBelow, 5, (some .boolean), sz, QA) (fun v g => v = some (.int r) ∧ CfV E g N B gr C ∧ Fr CfK f0 g, fun _ _ => False)) 15 [(0, .ref (gAd E (50))), (1, .ref (gAd E (47))), (2, .ref (gAd E (1))), (3, .int (x3))] [] f) : ∀ (n : Nat), ∀ (x3 : Int32) (x4 : Int32) (r : Int32) (hr : d_X8_isBelow_50_43 N (vA A) D self15 n x3 x4 = some r) (f : Nat → va_E) (h : CfV E f N B gr C) (hf : Fr CfK f0 f), G E (1, yX8_isBelow, 5, (some .boolean), sz, QA) cX8_isBelow (gO E (1, yX8_isBelow, 5, (some .boolean), sz, QA) (fun v g => v = some (.int r) ∧ CfV E g N B gr C ∧ Fr CfK f0 g, fun _ _ => False)) 43 [(0, .ref (gAd E (50))), (1, .ref (gAd E (47))), (2, .ref (gAd E (1))), (3, .int (x3)), (4, .int (x4))] [] f := by
  obtain ⟨z1, z2, z3, z4, z5, z6, z7⟩ := id hz
  intro n
  induction n with
  | zero =>
    intro x3 x4 r hr f h hf
    cases hr
  | succ n ih =>
    intro x3 x4 r hr f h hf
    unfold d_X8_isBelow_50_43 at hr
    refine G.go tv_X8_isBelow 2 46 [(0, .ref (gAd E (50))), (1, .ref (gAd E (47))), (2, .ref (gAd E (1))), (3, .int (x3)), (4, .int (x4))] [.ref (gAd E (50)), .int (x4)] rfl ?_
    refine G.getf cls_X8 (50) 1 (by omega) (h.q50) (by decide) rfl (tbd tv_X8_isBelow rfl) w_194 ?_
    refine G.go tv_X8_isBelow 1 50 [(0, .ref (gAd E (50))), (1, .ref (gAd E (47))), (2, .ref (gAd E (1))), (3, .int (x3)), (4, .int (x4))] [.int (x3), .ref (gAd E (52)), .int (x4)] rfl ?_
    obtain ⟨v81, b81, e81, hr⟩ := ld_s hr
    refine G.ialdE (52) (by omega) ((h.q52).trans (congrArg (oI (gDA E) (16)) (hD.2 52 (by decide)))) b81 e81 (tbd tv_X8_isBelow rfl) ?_
    refine G.cmp_ge 87 (tbd tv_X8_isBelow rfl) (by decide) (fun c51 => ?_) (fun c51 => ?_)
    · replace hr := ite_t c51 hr
      refine G.go tv_X8_isBelow 2 15 [(0, .ref (gAd E (50))), (1, .ref (gAd E (47))), (2, .ref (gAd E (1))), (3, .int (x3 + (1 : Int32))), (4, .int (x4))] [] rfl ?_
      refine G.less [(0, .ref (gAd E (50))), (1, .ref (gAd E (47))), (2, .ref (gAd E (1))), (3, .int (x3 + (1 : Int32)))] [0, 1, 2, 3] rfl ?_
      exact hs15 _ _ hr _ h hf
    · replace hr := ite_f c51 hr
      refine G.go tv_X8_isBelow 2 56 [(0, .ref (gAd E (50))), (1, .ref (gAd E (47))), (2, .ref (gAd E (1))), (3, .int (x3)), (4, .int (x4))] [.ref (gAd E (50)), .ref (gAd E (1))] rfl ?_
      refine G.getf cls_X8 (50) 0 (by omega) (h.q50) (by decide) rfl (tbd tv_X8_isBelow rfl) w_192 ?_
      refine G.go tv_X8_isBelow 1 60 [(0, .ref (gAd E (50))), (1, .ref (gAd E (47))), (2, .ref (gAd E (1))), (3, .int (x3)), (4, .int (x4))] [.int (x3), .ref (gAd E (51)), .ref (gAd E (1))] rfl ?_
      obtain ⟨v82, b82, e82, hr⟩ := ld_s hr
      refine G.ialdE (51) (by omega) ((h.q51).trans (congrArg (oI (gDA E) (16)) (hD.2 51 (by decide)))) b82 e82 (tbd tv_X8_isBelow rfl) ?_
      refine G.go tv_X8_isBelow 2 64 [(0, .ref (gAd E (50))), (1, .ref (gAd E (47))), (2, .ref (gAd E (1))), (3, .int (x3)), (4, .int (x4))] [.int ((v82) + (x4)), .ref (gAd E (1))] rfl ?_
      obtain ⟨v83, b83, e83, hr⟩ := ld_s hr
      refine G.baldE (1) (by omega) ((h.q1).trans (congrArg (oB (gDA E) (1024)) (hD.2 1 (by decide)))) b83 e83 (tbd tv_X8_isBelow rfl) ?_
      refine G.go tv_X8_isBelow 2 67 [(0, .ref (gAd E (50))), (1, .ref (gAd E (47))), (2, .ref (gAd E (1))), (3, .int (x3)), (4, .int (x4))] [.ref (gAd E (47)), .ref (gAd E (1)), .int (v83)] rfl ?_
      refine G.getf cls_X8 (47) 0 (by omega) (h.q47) (by decide) rfl (tbd tv_X8_isBelow rfl) w_192 ?_
      refine G.go tv_X8_isBelow 1 71 [(0, .ref (gAd E (50))), (1, .ref (gAd E (47))), (2, .ref (gAd E (1))), (3, .int (x3)), (4, .int (x4))] [.int (x3), .ref (gAd E (48)), .ref (gAd E (1)), .int (v83)] rfl ?_
      obtain ⟨v84, b84, e84, hr⟩ := ld_s hr
      refine G.ialdE (48) (by omega) ((h.q48).trans (congrArg (oI (gDA E) (16)) (hD.2 48 (by decide)))) b84 e84 (tbd tv_X8_isBelow rfl) ?_
      refine G.go tv_X8_isBelow 2 75 [(0, .ref (gAd E (50))), (1, .ref (gAd E (47))), (2, .ref (gAd E (1))), (3, .int (x3)), (4, .int (x4))] [.int ((v84) + (x4)), .ref (gAd E (1)), .int (v83)] rfl ?_
      obtain ⟨v85, b85, e85, hr⟩ := ld_s hr
      refine G.baldE (1) (by omega) ((h.q1).trans (congrArg (oB (gDA E) (1024)) (hD.2 1 (by decide)))) b85 e85 (tbd tv_X8_isBelow rfl) ?_
      refine G.cmp_eq 81 (tbd tv_X8_isBelow rfl) (by decide) (fun c76 => ?_) (fun c76 => ?_)
      · replace hr := ite_t c76 hr
        refine G.go tv_X8_isBelow 2 43 [(0, .ref (gAd E (50))), (1, .ref (gAd E (47))), (2, .ref (gAd E (1))), (3, .int (x3)), (4, .int (x4 + (1 : Int32)))] [] rfl ?_
        refine G.less [(0, .ref (gAd E (50))), (1, .ref (gAd E (47))), (2, .ref (gAd E (1))), (3, .int (x3)), (4, .int (x4 + (1 : Int32)))] [0, 1, 2, 3, 4] rfl ?_
        exact ih _ _ _ hr _ h hf
      · replace hr := ite_f c76 hr
        refine G.go tv_X8_isBelow 1 80 [(0, .ref (gAd E (50))), (1, .ref (gAd E (47))), (2, .ref (gAd E (1))), (3, .int (x3)), (4, .int (x4))] [.int ((0 : Int32))] rfl ?_
        cases hr
        exact G.iret rfl rfl ⟨rfl, h, hf⟩ (tbd tv_X8_isBelow rfl)
set_option maxRecDepth 100000 in
set_option maxHeartbeats 4000000 in
theorem l_X8_isBelow_50_15 (E : gE) (f0 : Nat → va_E) (sz : Nat) (QA : Nat → Prop) (N B gr : Nat) (C D : CfT) (A : MS) (hz : CfZ E N B gr) (hD : Dq D C) (hA : AR N B gr A C) : ∀ (n : Nat), ∀ (x3 : Int32) (r : Int32) (hr : d_X8_isBelow_50_15 N (vA A) D n x3 = some r) (f : Nat → va_E) (h : CfV E f N B gr C) (hf : Fr CfK f0 f), G E (1, yX8_isBelow, 5, (some .boolean), sz, QA) cX8_isBelow (gO E (1, yX8_isBelow, 5, (some .boolean), sz, QA) (fun v g => v = some (.int r) ∧ CfV E g N B gr C ∧ Fr CfK f0 g, fun _ _ => False)) 15 [(0, .ref (gAd E (50))), (1, .ref (gAd E (47))), (2, .ref (gAd E (1))), (3, .int (x3))] [] f := by
  obtain ⟨z1, z2, z3, z4, z5, z6, z7⟩ := id hz
  intro n
  induction n with
  | zero =>
    intro x3 r hr f h hf
    cases hr
  | succ n ih =>
    intro x3 r hr f h hf
    unfold d_X8_isBelow_50_15 at hr
    refine G.go tv_X8_isBelow 2 17 [(0, .ref (gAd E (50))), (1, .ref (gAd E (47))), (2, .ref (gAd E (1))), (3, .int (x3))] [.ref (gAd E (47)), .int (x3)] rfl ?_
    refine G.getf cls_X8 (47) 2 (by omega) (h.q47) (by decide) rfl (tbd tv_X8_isBelow rfl) w_196 ?_
    refine G.eq1 (b := cS D 4702) (hD.1 4702 (by decide)) ?_
    refine G.cmp_ge 93 (tbd tv_X8_isBelow rfl) (by decide) (fun c20 => ?_) (fun c20 => ?_)
    · replace hr := ite_t c20 hr
      refine G.go tv_X8_isBelow 1 94 [(0, .ref (gAd E (50))), (1, .ref (gAd E (47))), (2, .ref (gAd E (1))), (3, .int (x3))] [.int ((1 : Int32))] rfl ?_
      cases hr
      exact G.iret rfl rfl ⟨rfl, h, hf⟩ (tbd tv_X8_isBelow rfl)
    · replace hr := ite_f c20 hr
      refine G.go tv_X8_isBelow 1 24 [(0, .ref (gAd E (50))), (1, .ref (gAd E (47))), (2, .ref (gAd E (1))), (3, .int (x3))] [.ref (gAd E (50))] rfl ?_
      refine G.getf cls_X8 (50) 1 (by omega) (h.q50) (by decide) rfl (tbd tv_X8_isBelow rfl) w_194 ?_
      refine G.go tv_X8_isBelow 1 28 [(0, .ref (gAd E (50))), (1, .ref (gAd E (47))), (2, .ref (gAd E (1))), (3, .int (x3))] [.int (x3), .ref (gAd E (52))] rfl ?_
      obtain ⟨v79, b79, e79, hr⟩ := ld_s hr
      refine G.ialdE (52) (by omega) ((h.q52).trans (congrArg (oI (gDA E) (16)) (hD.2 52 (by decide)))) b79 e79 (tbd tv_X8_isBelow rfl) ?_
      refine G.go tv_X8_isBelow 1 30 [(0, .ref (gAd E (50))), (1, .ref (gAd E (47))), (2, .ref (gAd E (1))), (3, .int (x3))] [.ref (gAd E (47)), .int (v79)] rfl ?_
      refine G.getf cls_X8 (47) 1 (by omega) (h.q47) (by decide) rfl (tbd tv_X8_isBelow rfl) w_194 ?_
      refine G.go tv_X8_isBelow 1 34 [(0, .ref (gAd E (50))), (1, .ref (gAd E (47))), (2, .ref (gAd E (1))), (3, .int (x3))] [.int (x3), .ref (gAd E (49)), .int (v79)] rfl ?_
      obtain ⟨v80, b80, e80, hr⟩ := ld_s hr
      refine G.ialdE (49) (by omega) ((h.q49).trans (congrArg (oI (gDA E) (16)) (hD.2 49 (by decide)))) b80 e80 (tbd tv_X8_isBelow rfl) ?_
      refine G.cmp_eq 40 (tbd tv_X8_isBelow rfl) (by decide) (fun c35 => ?_) (fun c35 => ?_)
      · replace hr := ite_t c35 hr
        refine G.go tv_X8_isBelow 2 43 [(0, .ref (gAd E (50))), (1, .ref (gAd E (47))), (2, .ref (gAd E (1))), (3, .int (x3)), (4, .int ((0 : Int32)))] [] rfl ?_
        refine G.less [(0, .ref (gAd E (50))), (1, .ref (gAd E (47))), (2, .ref (gAd E (1))), (3, .int (x3)), (4, .int ((0 : Int32)))] [0, 1, 2, 3, 4] rfl ?_
        exact l_X8_isBelow_50_43 E f0 sz QA N B gr C D A hz hD hA _ ih _ _ _ _ hr _ h hf
      · replace hr := ite_f c35 hr
        refine G.go tv_X8_isBelow 1 39 [(0, .ref (gAd E (50))), (1, .ref (gAd E (47))), (2, .ref (gAd E (1))), (3, .int (x3))] [.int ((0 : Int32))] rfl ?_
        cases hr
        exact G.iret rfl rfl ⟨rfl, h, hf⟩ (tbd tv_X8_isBelow rfl)
set_option maxRecDepth 100000 in
set_option maxHeartbeats 4000000 in
theorem k_X8_isBelow_50 (E : gE) (f : Nat → va_E) (N B gr : Nat) (C D : CfT) (A : MS) (hz : CfZ E N B gr) (h : CfV E f N B gr C) (hD : Dq D C) (hA : AR N B gr A C) (r : Int32) (hr : d_X8_isBelow_50 N (vA A) D = some r) : Ct E 1 yX8_isBelow cX8_isBelow 5 (some .boolean) [.ref (gAd E (50)), .ref (gAd E (47)), .ref (gAd E (1))] f (fun v g => v = some (.int r) ∧ CfV E g N B gr C ∧ Fr CfK f g, fun _ _ => False) := by
  obtain ⟨z1, z2, z3, z4, z5, z6, z7⟩ := id hz
  refine Ct.of (by decide) (Nat.le_of_ble_eq_true rfl) (fun sz => ?_)
  refine G.eql [(0, .ref (gAd E (50))), (1, .ref (gAd E (47))), (2, .ref (gAd E (1)))] rfl ?_
  unfold d_X8_isBelow_50 at hr
  refine G.go tv_X8_isBelow 1 1 [(0, .ref (gAd E (50))), (1, .ref (gAd E (47))), (2, .ref (gAd E (1)))] [.ref (gAd E (50))] rfl ?_
  refine G.getf cls_X8 (50) 2 (by omega) (h.q50) (by decide) rfl (tbd tv_X8_isBelow rfl) w_196 ?_
  refine G.eq1 (b := cS D 5002) (hD.1 5002 (by decide)) ?_
  refine G.go tv_X8_isBelow 1 5 [(0, .ref (gAd E (50))), (1, .ref (gAd E (47))), (2, .ref (gAd E (1)))] [.ref (gAd E (47)), .int (cS D 5002)] rfl ?_
  refine G.getf cls_X8 (47) 2 (by omega) (h.q47) (by decide) rfl (tbd tv_X8_isBelow rfl) w_196 ?_
  refine G.eq1 (b := cS D 4702) (hD.1 4702 (by decide)) ?_
  refine G.cmp_gt 13 (tbd tv_X8_isBelow rfl) (by decide) (fun c8 => ?_) (fun c8 => ?_)
  · replace hr := ite_t c8 hr
    refine G.go tv_X8_isBelow 2 15 [(0, .ref (gAd E (50))), (1, .ref (gAd E (47))), (2, .ref (gAd E (1))), (3, .int ((0 : Int32)))] [] rfl ?_
    refine G.less [(0, .ref (gAd E (50))), (1, .ref (gAd E (47))), (2, .ref (gAd E (1))), (3, .int ((0 : Int32)))] [0, 1, 2, 3] rfl ?_
    exact l_X8_isBelow_50_15 E f sz _ N B gr C D A hz hD hA _ _ _ hr _ h Fr.rf
  · replace hr := ite_f c8 hr
    refine G.go tv_X8_isBelow 1 12 [(0, .ref (gAd E (50))), (1, .ref (gAd E (47))), (2, .ref (gAd E (1)))] [.int ((0 : Int32))] rfl ?_
    cases hr
    exact G.iret rfl rfl ⟨rfl, h, Fr.rf⟩ (tbd tv_X8_isBelow rfl)
