def tb_X10_before : List (Nat × Instr × Nat) := [(0, .aload_n 0, 1), (1, .getfield 30, 3), (4, .getfield 68, 3), (7, .iload_n 1, 1), (8, .iaload, 1), (9, .iconst (-1), 1), (10, .if_icmp .eq 21, 3), (13, .aload_n 0, 1), (14, .getfield 30, 3), (17, .getfield 71, 3), (20, .aload_n 0, 1), (21, .getfield 30, 3), (24, .getfield 68, 3), (27, .iload_n 1, 1), (28, .iaload, 1), (29, .aaload, 1), (30, .areturn, 1), (31, .iload_n 1, 1), (32, .istore_n 2, 1), (33, .aload_n 0, 1), (34, .getfield 26, 3), (37, .getfield 74, 3), (40, .iload_n 1, 1), (41, .iaload, 1), (42, .iconst (-1), 1), (43, .if_icmp .eq 18, 3), (46, .iconst 3, 1), (47, .aload_n 0, 1), (48, .getfield 26, 3), (51, .getfield 74, 3), (54, .iload_n 1, 1), (55, .iaload, 1), (56, .iadd, 1), (57, .istore_n 2, 1), (58, .goto 34, 3), (61, .aload_n 0, 1), (62, .getfield 22, 3), (65, .getfield 79, 3), (68, .iload_n 1, 1), (69, .iaload, 1), (70, .iconst (-1), 1), (71, .if_icmp .eq 21, 3), (74, .aload_n 0, 1), (75, .getfield 22, 3), (78, .getfield 84, 3), (81, .aload_n 0, 1), (82, .getfield 22, 3), (85, .getfield 79, 3), (88, .iload_n 1, 1), (89, .iaload, 1), (90, .aaload, 1), (91, .areturn, 1), (92, .aload_n 0, 1), (93, .getfield 18, 3), (96, .getfield 85, 3), (99, .iload_n 2, 1), (100, .iaload, 1), (101, .iconst (-1), 1), (102, .if_icmp .ne 15, 3), (105, .aload_n 0, 1), (106, .getfield 18, 3), (109, .getfield 88, 3), (112, .iload_n 2, 1), (113, .aaload, 1), (114, .goto 20, 3), (117, .aload_n 0, 1), (118, .getfield 18, 3), (121, .getfield 91, 3), (124, .aload_n 0, 1), (125, .getfield 18, 3), (128, .getfield 85, 3), (131, .iload_n 2, 1), (132, .iaload, 1), (133, .aaload, 1), (134, .areturn, 1)]
theorem tv_X10_before : Tv cX10_before tb_X10_before := by
  unfold Tv
  decide +kernel
theorem w_360 : Cond.fieldLink "LedgerFiles$View" 68 "LedgerFiles$Queue" "rowOf" "[I" ∈ TB := tp_1 214 (by decide +kernel) rfl
theorem w_355 : Cond.fieldLink "LedgerFiles$View" 71 "LedgerFiles$Queue" "rows" "[[B" ∈ TB := tp_1 209 (by decide +kernel) rfl
set_option maxRecDepth 100000 in
set_option maxHeartbeats 4000000 in
theorem k_befA (E : gE) (f : Nat → va_E) (N B gr : Nat) (C : CfT) (hz : CfZ E N B gr) (h : CfV E f N B gr C) (b : Nat) (hb : b < N) (r : Nat) (hr : r < gr * 40) (e20 : cA C 20 b = nI r) : Ct E 1 yX10_before cX10_before 3 (some (.array .byte)) [.ref (gAd E (25)), .int (nI b)] f (fun v g => v = some (.ref (gAd E (350 + 2 * N + B + (r)))) ∧ CfV E g N B gr (C) ∧ Fr CfK f g, fun _ _ => False) := by
  obtain ⟨z1, z2, z3, z4, z5, z6, z7⟩ := id hz
  refine Ct.of (by decide) (Nat.le_of_ble_eq_true rfl) (fun sz => ?_)
  refine G.eql [(0, .ref (gAd E (25))), (1, .int (nI b))] rfl ?_
  refine G.go tv_X10_before 1 1 [(0, .ref (gAd E (25))), (1, .int (nI b))] [.ref (gAd E (25))] rfl ?_
  refine G.getf cls_X10 (25) 3 (by omega) (h.q25) (by decide) rfl (tbd tv_X10_before rfl) w_413 ?_
  refine G.getf cls_X9 (17) 3 (by omega) (h.q17) (by decide) rfl (tbd tv_X10_before rfl) w_360 ?_
  refine G.go tv_X10_before 1 8 [(0, .ref (gAd E (25))), (1, .int (nI b))] [.int (nI b), .ref (gAd E (20))] rfl ?_
  refine G.ialdN (20) (b) (by omega) (h.q20) (hb) (by omega) (tbd tv_X10_before rfl) ?_
  refine G.go tv_X10_before 1 10 [(0, .ref (gAd E (25))), (1, .int (nI b))] [.int ((-1 : Int32)), .int ((cA C 20) (b))] rfl ?_
  refine G.cmp_eq 31 (tbd tv_X10_before rfl) (by decide) (fun c10 => absurd c10 (by rw [e20]; exact nI_m1 (by omega))) (fun c10 => ?_)
  refine G.go tv_X10_before 1 14 [(0, .ref (gAd E (25))), (1, .int (nI b))] [.ref (gAd E (25))] rfl ?_
  refine G.getf cls_X10 (25) 3 (by omega) (h.q25) (by decide) rfl (tbd tv_X10_before rfl) w_413 ?_
  refine G.getf cls_X9 (17) 1 (by omega) (h.q17) (by decide) rfl (tbd tv_X10_before rfl) w_355 ?_
  refine G.go tv_X10_before 1 21 [(0, .ref (gAd E (25))), (1, .int (nI b))] [.ref (gAd E (25)), .ref (gAd E (18))] rfl ?_
  refine G.getf cls_X10 (25) 3 (by omega) (h.q25) (by decide) rfl (tbd tv_X10_before rfl) w_413 ?_
  refine G.getf cls_X9 (17) 3 (by omega) (h.q17) (by decide) rfl (tbd tv_X10_before rfl) w_360 ?_
  refine G.go tv_X10_before 1 28 [(0, .ref (gAd E (25))), (1, .int (nI b))] [.int (nI b), .ref (gAd E (20)), .ref (gAd E (18))] rfl ?_
  refine G.ialdN (20) (b) (by omega) (h.q20) (hb) (by omega) (tbd tv_X10_before rfl) ?_
  refine G.eqs [.int (nI (r)), .ref (gAd E (18))] (by rw [e20]) ?_
  refine G.aaldN (18) (r) (by omega) (h.q18) (hr) (by omega) (tbd tv_X10_before rfl) ?_
  refine G.eqs [.ref (gAd E (350 + 2 * N + B + (r)))] (by rw [rwA_at (hr)]; rfl) ?_
  exact G.aret rfl (⟨rfl, h, Fr.rf⟩) (tbd tv_X10_before rfl)
theorem w_324 : Cond.fieldLink "LedgerFiles$View" 74 "LedgerFiles$Log" "entryOf" "[I" ∈ TB := tp_1 178 (by decide +kernel) rfl
theorem w_287 : Cond.fieldLink "LedgerFiles$View" 79 "LedgerFiles$Buffer" "slotOf" "[I" ∈ TB := tp_1 141 (by decide +kernel) rfl
theorem w_285 : Cond.fieldLink "LedgerFiles$View" 84 "LedgerFiles$Buffer" "rows" "[[B" ∈ TB := tp_1 139 (by decide +kernel) rfl
set_option maxRecDepth 100000 in
set_option maxHeartbeats 4000000 in
theorem k_befC (E : gE) (f : Nat → va_E) (N B gr : Nat) (C : CfT) (hz : CfZ E N B gr) (h : CfV E f N B gr C) (b : Nat) (hb : b < N) (e20 : cA C 20 b = -1) (e16 : cA C 16 b = -1) (s : Nat) (hs : s < B) (e10 : cA C 10 b = nI s) : Ct E 1 yX10_before cX10_before 3 (some (.array .byte)) [.ref (gAd E (25)), .int (nI b)] f (fun v g => v = some (.ref (gAd E (350 + 2 * N + (s)))) ∧ CfV E g N B gr (C) ∧ Fr CfK f g, fun _ _ => False) := by
  obtain ⟨z1, z2, z3, z4, z5, z6, z7⟩ := id hz
  refine Ct.of (by decide) (Nat.le_of_ble_eq_true rfl) (fun sz => ?_)
  refine G.eql [(0, .ref (gAd E (25))), (1, .int (nI b))] rfl ?_
  refine G.go tv_X10_before 1 1 [(0, .ref (gAd E (25))), (1, .int (nI b))] [.ref (gAd E (25))] rfl ?_
  refine G.getf cls_X10 (25) 3 (by omega) (h.q25) (by decide) rfl (tbd tv_X10_before rfl) w_413 ?_
  refine G.getf cls_X9 (17) 3 (by omega) (h.q17) (by decide) rfl (tbd tv_X10_before rfl) w_360 ?_
  refine G.go tv_X10_before 1 8 [(0, .ref (gAd E (25))), (1, .int (nI b))] [.int (nI b), .ref (gAd E (20))] rfl ?_
  refine G.ialdN (20) (b) (by omega) (h.q20) (hb) (by omega) (tbd tv_X10_before rfl) ?_
  refine G.go tv_X10_before 1 10 [(0, .ref (gAd E (25))), (1, .int (nI b))] [.int ((-1 : Int32)), .int ((cA C 20) (b))] rfl ?_
  refine G.cmp_eq 31 (tbd tv_X10_before rfl) (by decide) (fun c10 => ?_) (fun c10 => absurd (e20) c10)
  refine G.go tv_X10_before 3 34 [(0, .ref (gAd E (25))), (1, .int (nI b)), (2, .int (nI b))] [.ref (gAd E (25))] rfl ?_
  refine G.getf cls_X10 (25) 2 (by omega) (h.q25) (by decide) rfl (tbd tv_X10_before rfl) w_412 ?_
  refine G.getf cls_X6 (13) 4 (by omega) (h.q13) (by decide) rfl (tbd tv_X10_before rfl) w_324 ?_
  refine G.go tv_X10_before 1 41 [(0, .ref (gAd E (25))), (1, .int (nI b)), (2, .int (nI b))] [.int (nI b), .ref (gAd E (16))] rfl ?_
  refine G.ialdN (16) (b) (by omega) (h.q16) (hb) (by omega) (tbd tv_X10_before rfl) ?_
  refine G.go tv_X10_before 1 43 [(0, .ref (gAd E (25))), (1, .int (nI b)), (2, .int (nI b))] [.int ((-1 : Int32)), .int ((cA C 16) (b))] rfl ?_
  refine G.cmp_eq 61 (tbd tv_X10_before rfl) (by decide) (fun c43 => ?_) (fun c43 => absurd (e16) c43)
  refine G.go tv_X10_before 1 62 [(0, .ref (gAd E (25))), (1, .int (nI b)), (2, .int (nI b))] [.ref (gAd E (25))] rfl ?_
  refine G.getf cls_X10 (25) 1 (by omega) (h.q25) (by decide) rfl (tbd tv_X10_before rfl) w_411 ?_
  refine G.getf cls_X0 (8) 2 (by omega) (h.q8) (by decide) rfl (tbd tv_X10_before rfl) w_287 ?_
  refine G.go tv_X10_before 1 69 [(0, .ref (gAd E (25))), (1, .int (nI b)), (2, .int (nI b))] [.int (nI b), .ref (gAd E (10))] rfl ?_
  refine G.ialdN (10) (b) (by omega) (h.q10) (hb) (by omega) (tbd tv_X10_before rfl) ?_
  refine G.go tv_X10_before 1 71 [(0, .ref (gAd E (25))), (1, .int (nI b)), (2, .int (nI b))] [.int ((-1 : Int32)), .int ((cA C 10) (b))] rfl ?_
  refine G.cmp_eq 92 (tbd tv_X10_before rfl) (by decide) (fun c71 => absurd c71 (by rw [e10]; exact nI_m1 (by omega))) (fun c71 => ?_)
  refine G.go tv_X10_before 1 75 [(0, .ref (gAd E (25))), (1, .int (nI b)), (2, .int (nI b))] [.ref (gAd E (25))] rfl ?_
  refine G.getf cls_X10 (25) 1 (by omega) (h.q25) (by decide) rfl (tbd tv_X10_before rfl) w_411 ?_
  refine G.getf cls_X0 (8) 1 (by omega) (h.q8) (by decide) rfl (tbd tv_X10_before rfl) w_285 ?_
  refine G.go tv_X10_before 1 82 [(0, .ref (gAd E (25))), (1, .int (nI b)), (2, .int (nI b))] [.ref (gAd E (25)), .ref (gAd E (9))] rfl ?_
  refine G.getf cls_X10 (25) 1 (by omega) (h.q25) (by decide) rfl (tbd tv_X10_before rfl) w_411 ?_
  refine G.getf cls_X0 (8) 2 (by omega) (h.q8) (by decide) rfl (tbd tv_X10_before rfl) w_287 ?_
  refine G.go tv_X10_before 1 89 [(0, .ref (gAd E (25))), (1, .int (nI b)), (2, .int (nI b))] [.int (nI b), .ref (gAd E (10)), .ref (gAd E (9))] rfl ?_
  refine G.ialdN (10) (b) (by omega) (h.q10) (hb) (by omega) (tbd tv_X10_before rfl) ?_
  refine G.eqs [.int (nI (s)), .ref (gAd E (9))] (by rw [e10]) ?_
  refine G.aaldN (9) (s) (by omega) (h.q9) (hs) (by omega) (tbd tv_X10_before rfl) ?_
  refine G.eqs [.ref (gAd E (350 + 2 * N + (s)))] (by rw [rwA_at (hs)]; rfl) ?_
  exact G.aret rfl (⟨rfl, h, Fr.rf⟩) (tbd tv_X10_before rfl)
theorem w_237 : Cond.fieldLink "LedgerFiles$View" 85 "LedgerFiles$Disk" "latest" "[I" ∈ TB := tp_1 91 (by decide +kernel) rfl
theorem w_233 : Cond.fieldLink "LedgerFiles$View" 88 "LedgerFiles$Disk" "synced" "[[B" ∈ TB := tp_1 87 (by decide +kernel) rfl
set_option maxRecDepth 100000 in
set_option maxHeartbeats 4000000 in
theorem k_befD (E : gE) (f : Nat → va_E) (N B gr : Nat) (C : CfT) (hz : CfZ E N B gr) (h : CfV E f N B gr C) (b : Nat) (hb : b < N) (e20 : cA C 20 b = -1) (e16 : cA C 16 b = -1) (e10 : cA C 10 b = -1) (e6 : cA C 6 b = -1) : Ct E 1 yX10_before cX10_before 3 (some (.array .byte)) [.ref (gAd E (25)), .int (nI b)] f (fun v g => v = some (.ref (gAd E (350 + (b)))) ∧ CfV E g N B gr (C) ∧ Fr CfK f g, fun _ _ => False) := by
  obtain ⟨z1, z2, z3, z4, z5, z6, z7⟩ := id hz
  refine Ct.of (by decide) (Nat.le_of_ble_eq_true rfl) (fun sz => ?_)
  refine G.eql [(0, .ref (gAd E (25))), (1, .int (nI b))] rfl ?_
  refine G.go tv_X10_before 1 1 [(0, .ref (gAd E (25))), (1, .int (nI b))] [.ref (gAd E (25))] rfl ?_
  refine G.getf cls_X10 (25) 3 (by omega) (h.q25) (by decide) rfl (tbd tv_X10_before rfl) w_413 ?_
  refine G.getf cls_X9 (17) 3 (by omega) (h.q17) (by decide) rfl (tbd tv_X10_before rfl) w_360 ?_
  refine G.go tv_X10_before 1 8 [(0, .ref (gAd E (25))), (1, .int (nI b))] [.int (nI b), .ref (gAd E (20))] rfl ?_
  refine G.ialdN (20) (b) (by omega) (h.q20) (hb) (by omega) (tbd tv_X10_before rfl) ?_
  refine G.go tv_X10_before 1 10 [(0, .ref (gAd E (25))), (1, .int (nI b))] [.int ((-1 : Int32)), .int ((cA C 20) (b))] rfl ?_
  refine G.cmp_eq 31 (tbd tv_X10_before rfl) (by decide) (fun c10 => ?_) (fun c10 => absurd (e20) c10)
  refine G.go tv_X10_before 3 34 [(0, .ref (gAd E (25))), (1, .int (nI b)), (2, .int (nI b))] [.ref (gAd E (25))] rfl ?_
  refine G.getf cls_X10 (25) 2 (by omega) (h.q25) (by decide) rfl (tbd tv_X10_before rfl) w_412 ?_
  refine G.getf cls_X6 (13) 4 (by omega) (h.q13) (by decide) rfl (tbd tv_X10_before rfl) w_324 ?_
  refine G.go tv_X10_before 1 41 [(0, .ref (gAd E (25))), (1, .int (nI b)), (2, .int (nI b))] [.int (nI b), .ref (gAd E (16))] rfl ?_
  refine G.ialdN (16) (b) (by omega) (h.q16) (hb) (by omega) (tbd tv_X10_before rfl) ?_
  refine G.go tv_X10_before 1 43 [(0, .ref (gAd E (25))), (1, .int (nI b)), (2, .int (nI b))] [.int ((-1 : Int32)), .int ((cA C 16) (b))] rfl ?_
  refine G.cmp_eq 61 (tbd tv_X10_before rfl) (by decide) (fun c43 => ?_) (fun c43 => absurd (e16) c43)
  refine G.go tv_X10_before 1 62 [(0, .ref (gAd E (25))), (1, .int (nI b)), (2, .int (nI b))] [.ref (gAd E (25))] rfl ?_
  refine G.getf cls_X10 (25) 1 (by omega) (h.q25) (by decide) rfl (tbd tv_X10_before rfl) w_411 ?_
  refine G.getf cls_X0 (8) 2 (by omega) (h.q8) (by decide) rfl (tbd tv_X10_before rfl) w_287 ?_
  refine G.go tv_X10_before 1 69 [(0, .ref (gAd E (25))), (1, .int (nI b)), (2, .int (nI b))] [.int (nI b), .ref (gAd E (10))] rfl ?_
  refine G.ialdN (10) (b) (by omega) (h.q10) (hb) (by omega) (tbd tv_X10_before rfl) ?_
  refine G.go tv_X10_before 1 71 [(0, .ref (gAd E (25))), (1, .int (nI b)), (2, .int (nI b))] [.int ((-1 : Int32)), .int ((cA C 10) (b))] rfl ?_
  refine G.cmp_eq 92 (tbd tv_X10_before rfl) (by decide) (fun c71 => ?_) (fun c71 => absurd (e10) c71)
  refine G.go tv_X10_before 1 93 [(0, .ref (gAd E (25))), (1, .int (nI b)), (2, .int (nI b))] [.ref (gAd E (25))] rfl ?_
  refine G.getf cls_X10 (25) 0 (by omega) (h.q25) (by decide) rfl (tbd tv_X10_before rfl) w_410 ?_
  refine G.getf cls_X2 (2) 4 (by omega) (h.q2) (by decide) rfl (tbd tv_X10_before rfl) w_237 ?_
  refine G.go tv_X10_before 1 100 [(0, .ref (gAd E (25))), (1, .int (nI b)), (2, .int (nI b))] [.int (nI b), .ref (gAd E (6))] rfl ?_
  refine G.ialdN (6) (b) (by omega) (h.q6) (hb) (by omega) (tbd tv_X10_before rfl) ?_
  refine G.go tv_X10_before 1 102 [(0, .ref (gAd E (25))), (1, .int (nI b)), (2, .int (nI b))] [.int ((-1 : Int32)), .int ((cA C 6) (b))] rfl ?_
  refine G.cmp_ne 117 (tbd tv_X10_before rfl) (by decide) (fun c102 => absurd (e6) c102) (fun c102 => ?_)
  refine G.go tv_X10_before 1 106 [(0, .ref (gAd E (25))), (1, .int (nI b)), (2, .int (nI b))] [.ref (gAd E (25))] rfl ?_
  refine G.getf cls_X10 (25) 0 (by omega) (h.q25) (by decide) rfl (tbd tv_X10_before rfl) w_410 ?_
  refine G.getf cls_X2 (2) 2 (by omega) (h.q2) (by decide) rfl (tbd tv_X10_before rfl) w_233 ?_
  refine G.go tv_X10_before 1 113 [(0, .ref (gAd E (25))), (1, .int (nI b)), (2, .int (nI b))] [.int (nI b), .ref (gAd E (4))] rfl ?_
  refine G.aaldN (4) (b) (by omega) (h.q4) (hb) (by omega) (tbd tv_X10_before rfl) ?_
  refine G.eqs [.ref (gAd E (350 + (b)))] (by rw [rwA_at (hb)]; rfl) ?_
  refine G.go tv_X10_before 1 134 [(0, .ref (gAd E (25))), (1, .int (nI b)), (2, .int (nI b))] [.ref (gAd E (350 + (b)))] rfl ?_
  exact G.aret rfl (⟨rfl, h, Fr.rf⟩) (tbd tv_X10_before rfl)
theorem w_235 : Cond.fieldLink "LedgerFiles$View" 91 "LedgerFiles$Disk" "values" "[[B" ∈ TB := tp_1 89 (by decide +kernel) rfl
set_option maxRecDepth 100000 in
set_option maxHeartbeats 4000000 in
theorem k_befE (E : gE) (f : Nat → va_E) (N B gr : Nat) (C : CfT) (hz : CfZ E N B gr) (h : CfV E f N B gr C) (b : Nat) (hb : b < N) (e20 : cA C 20 b = -1) (e16 : cA C 16 b = -1) (e10 : cA C 10 b = -1) (s : Nat) (hs : s < 256) (e6 : cA C 6 b = nI s) : Ct E 1 yX10_before cX10_before 3 (some (.array .byte)) [.ref (gAd E (25)), .int (nI b)] f (fun v g => v = some (.ref (gAd E (94 + (s)))) ∧ CfV E g N B gr (C) ∧ Fr CfK f g, fun _ _ => False) := by
  obtain ⟨z1, z2, z3, z4, z5, z6, z7⟩ := id hz
  refine Ct.of (by decide) (Nat.le_of_ble_eq_true rfl) (fun sz => ?_)
  refine G.eql [(0, .ref (gAd E (25))), (1, .int (nI b))] rfl ?_
  refine G.go tv_X10_before 1 1 [(0, .ref (gAd E (25))), (1, .int (nI b))] [.ref (gAd E (25))] rfl ?_
  refine G.getf cls_X10 (25) 3 (by omega) (h.q25) (by decide) rfl (tbd tv_X10_before rfl) w_413 ?_
  refine G.getf cls_X9 (17) 3 (by omega) (h.q17) (by decide) rfl (tbd tv_X10_before rfl) w_360 ?_
  refine G.go tv_X10_before 1 8 [(0, .ref (gAd E (25))), (1, .int (nI b))] [.int (nI b), .ref (gAd E (20))] rfl ?_
  refine G.ialdN (20) (b) (by omega) (h.q20) (hb) (by omega) (tbd tv_X10_before rfl) ?_
  refine G.go tv_X10_before 1 10 [(0, .ref (gAd E (25))), (1, .int (nI b))] [.int ((-1 : Int32)), .int ((cA C 20) (b))] rfl ?_
  refine G.cmp_eq 31 (tbd tv_X10_before rfl) (by decide) (fun c10 => ?_) (fun c10 => absurd (e20) c10)
  refine G.go tv_X10_before 3 34 [(0, .ref (gAd E (25))), (1, .int (nI b)), (2, .int (nI b))] [.ref (gAd E (25))] rfl ?_
  refine G.getf cls_X10 (25) 2 (by omega) (h.q25) (by decide) rfl (tbd tv_X10_before rfl) w_412 ?_
  refine G.getf cls_X6 (13) 4 (by omega) (h.q13) (by decide) rfl (tbd tv_X10_before rfl) w_324 ?_
  refine G.go tv_X10_before 1 41 [(0, .ref (gAd E (25))), (1, .int (nI b)), (2, .int (nI b))] [.int (nI b), .ref (gAd E (16))] rfl ?_
  refine G.ialdN (16) (b) (by omega) (h.q16) (hb) (by omega) (tbd tv_X10_before rfl) ?_
  refine G.go tv_X10_before 1 43 [(0, .ref (gAd E (25))), (1, .int (nI b)), (2, .int (nI b))] [.int ((-1 : Int32)), .int ((cA C 16) (b))] rfl ?_
  refine G.cmp_eq 61 (tbd tv_X10_before rfl) (by decide) (fun c43 => ?_) (fun c43 => absurd (e16) c43)
  refine G.go tv_X10_before 1 62 [(0, .ref (gAd E (25))), (1, .int (nI b)), (2, .int (nI b))] [.ref (gAd E (25))] rfl ?_
  refine G.getf cls_X10 (25) 1 (by omega) (h.q25) (by decide) rfl (tbd tv_X10_before rfl) w_411 ?_
  refine G.getf cls_X0 (8) 2 (by omega) (h.q8) (by decide) rfl (tbd tv_X10_before rfl) w_287 ?_
  refine G.go tv_X10_before 1 69 [(0, .ref (gAd E (25))), (1, .int (nI b)), (2, .int (nI b))] [.int (nI b), .ref (gAd E (10))] rfl ?_
  refine G.ialdN (10) (b) (by omega) (h.q10) (hb) (by omega) (tbd tv_X10_before rfl) ?_
  refine G.go tv_X10_before 1 71 [(0, .ref (gAd E (25))), (1, .int (nI b)), (2, .int (nI b))] [.int ((-1 : Int32)), .int ((cA C 10) (b))] rfl ?_
  refine G.cmp_eq 92 (tbd tv_X10_before rfl) (by decide) (fun c71 => ?_) (fun c71 => absurd (e10) c71)
  refine G.go tv_X10_before 1 93 [(0, .ref (gAd E (25))), (1, .int (nI b)), (2, .int (nI b))] [.ref (gAd E (25))] rfl ?_
  refine G.getf cls_X10 (25) 0 (by omega) (h.q25) (by decide) rfl (tbd tv_X10_before rfl) w_410 ?_
  refine G.getf cls_X2 (2) 4 (by omega) (h.q2) (by decide) rfl (tbd tv_X10_before rfl) w_237 ?_
  refine G.go tv_X10_before 1 100 [(0, .ref (gAd E (25))), (1, .int (nI b)), (2, .int (nI b))] [.int (nI b), .ref (gAd E (6))] rfl ?_
  refine G.ialdN (6) (b) (by omega) (h.q6) (hb) (by omega) (tbd tv_X10_before rfl) ?_
  refine G.go tv_X10_before 1 102 [(0, .ref (gAd E (25))), (1, .int (nI b)), (2, .int (nI b))] [.int ((-1 : Int32)), .int ((cA C 6) (b))] rfl ?_
  refine G.cmp_ne 117 (tbd tv_X10_before rfl) (by decide) (fun c102 => ?_) (fun c102 => absurd c102 (by rw [e6]; exact nI_m1 (by omega)))
  refine G.go tv_X10_before 1 118 [(0, .ref (gAd E (25))), (1, .int (nI b)), (2, .int (nI b))] [.ref (gAd E (25))] rfl ?_
  refine G.getf cls_X10 (25) 0 (by omega) (h.q25) (by decide) rfl (tbd tv_X10_before rfl) w_410 ?_
  refine G.getf cls_X2 (2) 3 (by omega) (h.q2) (by decide) rfl (tbd tv_X10_before rfl) w_235 ?_
  refine G.go tv_X10_before 1 125 [(0, .ref (gAd E (25))), (1, .int (nI b)), (2, .int (nI b))] [.ref (gAd E (25)), .ref (gAd E (5))] rfl ?_
  refine G.getf cls_X10 (25) 0 (by omega) (h.q25) (by decide) rfl (tbd tv_X10_before rfl) w_410 ?_
  refine G.getf cls_X2 (2) 4 (by omega) (h.q2) (by decide) rfl (tbd tv_X10_before rfl) w_237 ?_
  refine G.go tv_X10_before 1 132 [(0, .ref (gAd E (25))), (1, .int (nI b)), (2, .int (nI b))] [.int (nI b), .ref (gAd E (6)), .ref (gAd E (5))] rfl ?_
  refine G.ialdN (6) (b) (by omega) (h.q6) (hb) (by omega) (tbd tv_X10_before rfl) ?_
  refine G.eqs [.int (nI (s)), .ref (gAd E (5))] (by rw [e6]) ?_
  refine G.aaldN (5) (s) (by omega) (h.q5) (hs) (by omega) (tbd tv_X10_before rfl) ?_
  refine G.eqs [.ref (gAd E (94 + (s)))] (by rw [rwA_at (hs)]; rfl) ?_
  exact G.aret rfl (⟨rfl, h, Fr.rf⟩) (tbd tv_X10_before rfl)
set_option maxRecDepth 100000 in
set_option maxHeartbeats 4000000 in
theorem k_befB (E : gE) (f : Nat → va_E) (N B gr : Nat) (C : CfT) (hz : CfZ E N B gr) (h : CfV E f N B gr C) (b : Nat) (hb : b < N) (e20 : cA C 20 b = -1) (k : Nat) (hk : k < 40) (e16 : cA C 16 b = nI k) (e6 : cA C 6 (3 + k) = -1) : Ct E 1 yX10_before cX10_before 3 (some (.array .byte)) [.ref (gAd E (25)), .int (nI b)] f (fun v g => v = some (.ref (gAd E (350 + (3 + k)))) ∧ CfV E g N B gr (C) ∧ Fr CfK f g, fun _ _ => False) := by
  obtain ⟨z1, z2, z3, z4, z5, z6, z7⟩ := id hz
  refine Ct.of (by decide) (Nat.le_of_ble_eq_true rfl) (fun sz => ?_)
  refine G.eql [(0, .ref (gAd E (25))), (1, .int (nI b))] rfl ?_
  refine G.go tv_X10_before 1 1 [(0, .ref (gAd E (25))), (1, .int (nI b))] [.ref (gAd E (25))] rfl ?_
  refine G.getf cls_X10 (25) 3 (by omega) (h.q25) (by decide) rfl (tbd tv_X10_before rfl) w_413 ?_
  refine G.getf cls_X9 (17) 3 (by omega) (h.q17) (by decide) rfl (tbd tv_X10_before rfl) w_360 ?_
  refine G.go tv_X10_before 1 8 [(0, .ref (gAd E (25))), (1, .int (nI b))] [.int (nI b), .ref (gAd E (20))] rfl ?_
  refine G.ialdN (20) (b) (by omega) (h.q20) (hb) (by omega) (tbd tv_X10_before rfl) ?_
  refine G.go tv_X10_before 1 10 [(0, .ref (gAd E (25))), (1, .int (nI b))] [.int ((-1 : Int32)), .int ((cA C 20) (b))] rfl ?_
  refine G.cmp_eq 31 (tbd tv_X10_before rfl) (by decide) (fun c10 => ?_) (fun c10 => absurd (e20) c10)
  refine G.go tv_X10_before 3 34 [(0, .ref (gAd E (25))), (1, .int (nI b)), (2, .int (nI b))] [.ref (gAd E (25))] rfl ?_
  refine G.getf cls_X10 (25) 2 (by omega) (h.q25) (by decide) rfl (tbd tv_X10_before rfl) w_412 ?_
  refine G.getf cls_X6 (13) 4 (by omega) (h.q13) (by decide) rfl (tbd tv_X10_before rfl) w_324 ?_
  refine G.go tv_X10_before 1 41 [(0, .ref (gAd E (25))), (1, .int (nI b)), (2, .int (nI b))] [.int (nI b), .ref (gAd E (16))] rfl ?_
  refine G.ialdN (16) (b) (by omega) (h.q16) (hb) (by omega) (tbd tv_X10_before rfl) ?_
  refine G.go tv_X10_before 1 43 [(0, .ref (gAd E (25))), (1, .int (nI b)), (2, .int (nI b))] [.int ((-1 : Int32)), .int ((cA C 16) (b))] rfl ?_
  refine G.cmp_eq 61 (tbd tv_X10_before rfl) (by decide) (fun c43 => absurd c43 (by rw [e16]; exact nI_m1 (by omega))) (fun c43 => ?_)
  refine G.go tv_X10_before 2 48 [(0, .ref (gAd E (25))), (1, .int (nI b)), (2, .int (nI b))] [.ref (gAd E (25)), .int ((3 : Int32))] rfl ?_
  refine G.getf cls_X10 (25) 2 (by omega) (h.q25) (by decide) rfl (tbd tv_X10_before rfl) w_412 ?_
  refine G.getf cls_X6 (13) 4 (by omega) (h.q13) (by decide) rfl (tbd tv_X10_before rfl) w_324 ?_
  refine G.go tv_X10_before 1 55 [(0, .ref (gAd E (25))), (1, .int (nI b)), (2, .int (nI b))] [.int (nI b), .ref (gAd E (16)), .int ((3 : Int32))] rfl ?_
  refine G.ialdN (16) (b) (by omega) (h.q16) (hb) (by omega) (tbd tv_X10_before rfl) ?_
  refine G.go tv_X10_before 4 93 [(0, .ref (gAd E (25))), (1, .int (nI b)), (2, .int (((3 : Int32)) + ((cA C 16) (b))))] [.ref (gAd E (25))] rfl ?_
  refine G.getf cls_X10 (25) 0 (by omega) (h.q25) (by decide) rfl (tbd tv_X10_before rfl) w_410 ?_
  refine G.getf cls_X2 (2) 4 (by omega) (h.q2) (by decide) rfl (tbd tv_X10_before rfl) w_237 ?_
  refine G.go tv_X10_before 1 100 [(0, .ref (gAd E (25))), (1, .int (nI b)), (2, .int (((3 : Int32)) + ((cA C 16) (b))))] [.int (((3 : Int32)) + ((cA C 16) (b))), .ref (gAd E (6))] rfl ?_
  refine G.eqs [.int (nI (3 + k)), .ref (gAd E (6))] (by rw [e16, show (3 : Int32) = nI 3 from rfl, nI_add]) ?_
  refine G.ialdN (6) (3 + k) (by omega) (h.q6) (by omega) (by omega) (tbd tv_X10_before rfl) ?_
  refine G.go tv_X10_before 1 102 [(0, .ref (gAd E (25))), (1, .int (nI b)), (2, .int (((3 : Int32)) + ((cA C 16) (b))))] [.int ((-1 : Int32)), .int ((cA C 6) (3 + k))] rfl ?_
  refine G.cmp_ne 117 (tbd tv_X10_before rfl) (by decide) (fun c102 => absurd (e6) c102) (fun c102 => ?_)
  refine G.go tv_X10_before 1 106 [(0, .ref (gAd E (25))), (1, .int (nI b)), (2, .int (((3 : Int32)) + ((cA C 16) (b))))] [.ref (gAd E (25))] rfl ?_
  refine G.getf cls_X10 (25) 0 (by omega) (h.q25) (by decide) rfl (tbd tv_X10_before rfl) w_410 ?_
  refine G.getf cls_X2 (2) 2 (by omega) (h.q2) (by decide) rfl (tbd tv_X10_before rfl) w_233 ?_
  refine G.go tv_X10_before 1 113 [(0, .ref (gAd E (25))), (1, .int (nI b)), (2, .int (((3 : Int32)) + ((cA C 16) (b))))] [.int (((3 : Int32)) + ((cA C 16) (b))), .ref (gAd E (4))] rfl ?_
  refine G.eqs [.int (nI (3 + k)), .ref (gAd E (4))] (by rw [e16, show (3 : Int32) = nI 3 from rfl, nI_add]) ?_
  refine G.aaldN (4) (3 + k) (by omega) (h.q4) (by omega) (by omega) (tbd tv_X10_before rfl) ?_
  refine G.eqs [.ref (gAd E (350 + (3 + k)))] (by rw [rwA_at (by omega)]; rfl) ?_
  refine G.go tv_X10_before 1 134 [(0, .ref (gAd E (25))), (1, .int (nI b)), (2, .int (((3 : Int32)) + ((cA C 16) (b))))] [.ref (gAd E (350 + (3 + k)))] rfl ?_
  exact G.aret rfl (⟨rfl, h, Fr.rf⟩) (tbd tv_X10_before rfl)
