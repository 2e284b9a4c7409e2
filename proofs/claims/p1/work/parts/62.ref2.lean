def tb_X12_unmount : List (Nat × Instr × Nat) := [(0, .aload_n 0, 1), (1, .invokevirtual 403, 3), (4, .ifCond .eq 4, 3), (7, .return_, 1), (8, .aload_n 0, 1), (9, .getfield 174, 3), (12, .ifCond .eq 7, 3), (15, .aload_n 0, 1), (16, .invokevirtual 406, 3), (19, .aload_n 0, 1), (20, .getfield 25, 3), (23, .ifCond .eq 11, 3), (26, .aload_n 0, 1), (27, .invokevirtual 409, 3), (30, .aload_n 0, 1), (31, .invokevirtual 382, 3), (34, .aload_n 0, 1), (35, .invokevirtual 288, 3), (38, .pop, 1), (39, .aload_n 0, 1), (40, .invokevirtual 268, 3), (43, .aload_n 0, 1), (44, .getfield 25, 3), (47, .ifCond .eq 7, 3), (50, .aload_n 0, 1), (51, .invokevirtual 255, 3), (54, .aload_n 0, 1), (55, .iconst 0, 1), (56, .putfield 156, 3), (59, .aload_n 0, 1), (60, .iconst 0, 1), (61, .invokevirtual 389, 3), (64, .istore_n 1, 1), (65, .return_, 1)]
theorem tv_X12_unmount : Tv cX12_unmount tb_X12_unmount := by
  unfold Tv
  decide +kernel
theorem w_2462 : Cond.methodLink "LedgerFilesModel" 403 yX12_notMounted ∈ TB := tp_10 156 (by decide +kernel) rfl
theorem w_2465 : Cond.code yX12_notMounted prog_14_method_76_code 2 (some .boolean) ∈ TB := tp_10 159 rfl rfl
theorem cw_X12_403 : Cw RX12 403 yX12_notMounted cX12_notMounted 2 (some .boolean) 0 := ⟨w_2462, w_2465, w_161, by decide +kernel, by decide +kernel, by decide⟩
theorem w_2464 : Cond.instanceMethod yX12_notMounted ∈ TB := tp_10 158 (by decide +kernel) rfl
theorem w_96 : Cond.selects "LedgerFilesModel" yX12_notMounted yX12_notMounted ∈ TB := tp_0 96 (by decide +kernel) rfl
set_option maxRecDepth 100000 in
set_option maxHeartbeats 4000000 in
theorem u_X12_unmount (E : gE) (f : Nat → va_E) (R : RfT) (n : Nat) (hn : n ≤ 1024) (hwn : rS R 33 = nI n) (hwb : ∀ k, k < n → ∃ t, t < 1024 ∧ rA R 30 k = nI t) (hm : rS R 21 = 0) (hE : 94 ≤ gN E) (r : RfV E f R) : Ct E 3 yX12_unmount cX12_unmount 2 none [.ref (gAd E (56))] f (fun v g => v = none ∧ RfV E g (rNm (R) n) ∧ Fr RfK f g, fun _ _ => False) := by
  refine Ct.of (by decide) (Nat.le_of_ble_eq_true rfl) (fun sz => ?_)
  refine G.eql [(0, .ref (gAd E (56)))] rfl ?_
  refine G.go tv_X12_unmount 1 1 [(0, .ref (gAd E (56)))] [.ref (gAd E (56))] rfl ?_
  refine G.callV (56) [] [] (c_X12_notMounted E _ (R) n hn hwn hwb hE r) cls_X12 (by omega) (r.o) cw_X12_403 w_2464 w_96 (Nat.le_of_ble_eq_true rfl) rfl (Nat.le_of_ble_eq_true rfl) (tbd tv_X12_unmount rfl) (fun v1 f1 q1 => ?_) (fun _ _ h => h.elim)
  obtain ⟨rfl, ra1, fa1⟩ := q1
  refine G.eqs [.int (if rS R 21 = 0 then 1 else 0)] rfl ?_
  refine G.eqs [.int ((1 : Int32))] (by rw [show rS R 21 = rS R 21 from rfl, if_pos hm]) ?_
  refine G.if_eq 8 (tbd tv_X12_unmount rfl) (by decide) (fun c4 => absurd c4 (by decide)) (fun c4 => ?_)
  exact G.vret rfl (⟨rfl, ra1, fa1⟩) (tbd tv_X12_unmount rfl)
def tb_X12_make : List (Nat × Instr × Nat) := [(0, .aload_n 0, 1), (1, .invokevirtual 418, 3), (4, .istore_n 2, 1), (5, .aload_n 0, 1), (6, .invokevirtual 403, 3), (9, .ifCond .eq 5, 3), (12, .iconst 0, 1), (13, .ireturn, 1), (14, .aload_n 0, 1), (15, .iconst 0, 1), (16, .iload_n 2, 1), (17, .iconst 0, 1), (18, .invokevirtual 421, 3), (21, .istore_n 3, 1), (22, .iload_n 3, 1), (23, .iconst (-1), 1), (24, .if_icmp .ne 6, 3), (27, .bipush (-6), 2), (29, .ireturn, 1), (30, .iload_n 3, 1), (31, .ifCond .ne 6, 3), (34, .bipush (-2), 2), (36, .ireturn, 1), (37, .aload_n 0, 1), (38, .iconst 0, 1), (39, .iload_n 3, 1), (40, .iconst 1, 1), (41, .isub, 1), (42, .invokevirtual 424, 3), (45, .istore 4, 2), (47, .iload 4, 2), (49, .ifCond .ge 6, 3), (52, .iload 4, 2), (54, .ireturn, 1), (55, .aload_n 0, 1), (56, .getfield 104, 3), (59, .iload_n 3, 1), (60, .iconst 1, 1), (61, .isub, 1), (62, .iaload, 1), (63, .istore 5, 2), (65, .aload_n 0, 1), (66, .getfield 107, 3), (69, .iload_n 3, 1), (70, .iconst 1, 1), (71, .isub, 1), (72, .iaload, 1), (73, .istore 6, 2), (75, .aload_n 0, 1), (76, .iload 4, 2), (78, .iload 5, 2), (80, .iload 6, 2), (82, .invokevirtual 361, 3), (85, .iconst (-1), 1), (86, .if_icmp .eq 6, 3), (89, .bipush (-2), 2), (91, .ireturn, 1), (92, .aload_n 0, 1), (93, .invokevirtual 427, 3), (96, .istore 7, 2), (98, .iload 7, 2), (100, .ifCond .ne 6, 3), (103, .bipush (-8), 2), (105, .ireturn, 1), (106, .aload_n 0, 1), (107, .iload 4, 2), (109, .invokevirtual 430, 3), (112, .ifCond .eq 6, 3), (115, .bipush (-7), 2), (117, .ireturn, 1), (118, .aload_n 0, 1), (119, .iload 7, 2), (121, .iconst 0, 1), (122, .iconst 1, 1), (123, .iload_n 1, 1), (124, .ifCond .eq 7, 3), (127, .iconst 2, 1), (128, .goto 4, 3), (131, .iconst 1, 1), (132, .invokevirtual 332, 3), (135, .aload_n 0, 1), (136, .iload 7, 2), (138, .iconst 1, 1), (139, .iconst 1, 1), (140, .iconst 1, 1), (141, .invokevirtual 332, 3), (144, .aload_n 0, 1), (145, .bipush 44, 2), (147, .iload 7, 2), (149, .iconst 1, 1), (150, .isub, 1), (151, .iconst 1, 1), (152, .invokevirtual 313, 3), (155, .aload_n 0, 1), (156, .iload 4, 2), (158, .iload 5, 2), (160, .iload 6, 2), (162, .iload 7, 2), (164, .invokevirtual 433, 3), (167, .aload_n 0, 1), (168, .iload 7, 2), (170, .invokevirtual 436, 3), (173, .ireturn, 1)]
theorem tv_X12_make : Tv cX12_make tb_X12_make := by
  unfold Tv
  decide +kernel
theorem w_2478 : Cond.methodLink "LedgerFilesModel" 418 yX12_useTape ∈ TB := tp_10 172 (by decide +kernel) rfl
theorem w_2481 : Cond.code yX12_useTape prog_14_method_84_code 2 (some .int) ∈ TB := tp_10 175 rfl rfl
theorem cw_X12_418 : Cw RX12 418 yX12_useTape cX12_useTape 2 (some .int) 0 := ⟨w_2478, w_2481, w_161, by decide +kernel, by decide +kernel, by decide⟩
theorem w_2480 : Cond.instanceMethod yX12_useTape ∈ TB := tp_10 174 (by decide +kernel) rfl
theorem w_99 : Cond.selects "LedgerFilesModel" yX12_useTape yX12_useTape ∈ TB := tp_0 99 (by decide +kernel) rfl
set_option maxRecDepth 100000 in
set_option maxHeartbeats 4000000 in
theorem u_X12_make (E : gE) (f : Nat → va_E) (R : RfT) (n : Nat) (hn : n ≤ 1024) (hwn : rS R 33 = nI n) (hwb : ∀ k, k < n → ∃ t, t < 1024 ∧ rA R 30 k = nI t) (hm : rS R 21 = 0) (hE : 94 ≤ gN E) (r : RfV E f R) (a0 : Int32) : Ct E 3 yX12_make cX12_make 8 (some .int) [.ref (gAd E (56)), .int (a0)] f (fun v g => v = some (.int 0) ∧ RfV E g (rNm (setS R 5 0) n) ∧ Fr RfK f g, fun _ _ => False) := by
  refine Ct.of (by decide) (Nat.le_of_ble_eq_true rfl) (fun sz => ?_)
  refine G.eql [(0, .ref (gAd E (56))), (1, .int (a0))] rfl ?_
  refine G.go tv_X12_make 1 1 [(0, .ref (gAd E (56))), (1, .int (a0))] [.ref (gAd E (56))] rfl ?_
  refine G.callV (56) [] [] (c_X12_useTape E _ (R) hE r) cls_X12 (by omega) (r.o) cw_X12_418 w_2480 w_99 (Nat.le_of_ble_eq_true rfl) rfl (Nat.le_of_ble_eq_true rfl) (tbd tv_X12_make rfl) (fun v1 f1 q1 => ?_) (fun _ _ h => h.elim)
  obtain ⟨rfl, ra1, fa1⟩ := q1
  refine G.eqs [.int (rS R 5)] rfl ?_
  refine G.go tv_X12_make 2 6 [(0, .ref (gAd E (56))), (1, .int (a0)), (2, .int (rS R 5))] [.ref (gAd E (56))] rfl ?_
  refine G.callV (56) [] [] (c_X12_notMounted E _ (setS (R) 5 0) n hn hwn hwb hE ra1) cls_X12 (by omega) (ra1.o) cw_X12_403 w_2464 w_96 (Nat.le_of_ble_eq_true rfl) rfl (Nat.le_of_ble_eq_true rfl) (tbd tv_X12_make rfl) (fun v2 f2 q2 => ?_) (fun _ _ h => h.elim)
  obtain ⟨rfl, ra2, fa2⟩ := q2
  refine G.eqs [.int (if rS (setS (R) 5 0) 21 = 0 then 1 else 0)] rfl ?_
  refine G.eqs [.int ((1 : Int32))] (by rw [show rS (setS (R) 5 0) 21 = rS R 21 from rfl, if_pos hm]) ?_
  refine G.if_eq 14 (tbd tv_X12_make rfl) (by decide) (fun c9 => absurd c9 (by decide)) (fun c9 => ?_)
  refine G.go tv_X12_make 1 13 [(0, .ref (gAd E (56))), (1, .int (a0)), (2, .int (rS R 5))] [.int ((0 : Int32))] rfl ?_
  exact G.iret rfl rfl (⟨rfl, ra2, (fa1).tr fa2 (fun _ h => h)⟩) (tbd tv_X12_make rfl)
def tb_X12_remove : List (Nat × Instr × Nat) := [(0, .aload_n 0, 1), (1, .invokevirtual 418, 3), (4, .istore_n 1, 1), (5, .aload_n 0, 1), (6, .invokevirtual 403, 3), (9, .ifCond .eq 5, 3), (12, .iconst 0, 1), (13, .ireturn, 1), (14, .aload_n 0, 1), (15, .iconst 0, 1), (16, .iload_n 1, 1), (17, .iconst 0, 1), (18, .invokevirtual 421, 3), (21, .istore_n 2, 1), (22, .iload_n 2, 1), (23, .iconst 1, 1), (24, .if_icmp .ge 16, 3), (27, .iload_n 2, 1), (28, .iconst (-1), 1), (29, .if_icmp .ne 8, 3), (32, .bipush (-6), 2), (34, .goto 5, 3), (37, .bipush (-9), 2), (39, .ireturn, 1), (40, .aload_n 0, 1), (41, .iconst 0, 1), (42, .iload_n 2, 1), (43, .invokevirtual 364, 3), (46, .istore_n 3, 1), (47, .iload_n 3, 1), (48, .ifCond .ge 5, 3), (51, .iload_n 3, 1), (52, .ireturn, 1), (53, .aload_n 0, 1), (54, .iload_n 3, 1), (55, .invokevirtual 326, 3), (58, .iconst 2, 1), (59, .if_icmp .ne 14, 3), (62, .aload_n 0, 1), (63, .iload_n 3, 1), (64, .invokevirtual 439, 3), (67, .ifCond .le 6, 3), (70, .bipush (-5), 2), (72, .ireturn, 1), (73, .aload_n 0, 1), (74, .iconst 0, 1), (75, .iload_n 2, 1), (76, .iconst 1, 1), (77, .isub, 1), (78, .invokevirtual 364, 3), (81, .istore 4, 2), (83, .aload_n 0, 1), (84, .iload 4, 2), (86, .aload_n 0, 1), (87, .getfield 104, 3), (90, .iload_n 2, 1), (91, .iconst 1, 1), (92, .isub, 1), (93, .iaload, 1), (94, .aload_n 0, 1), (95, .getfield 107, 3), (98, .iload_n 2, 1), (99, .iconst 1, 1), (100, .isub, 1), (101, .iaload, 1), (102, .invokevirtual 361, 3), (105, .istore 5, 2), (107, .aload_n 0, 1), (108, .iload 4, 2), (110, .iload 5, 2), (112, .invokevirtual 442, 3), (115, .aload_n 0, 1), (116, .iload_n 3, 1), (117, .invokevirtual 445, 3), (120, .aload_n 0, 1), (121, .iconst 0, 1), (122, .invokevirtual 436, 3), (125, .ireturn, 1)]
theorem tv_X12_remove : Tv cX12_remove tb_X12_remove := by
  unfold Tv
  decide +kernel
set_option maxRecDepth 100000 in
set_option maxHeartbeats 4000000 in
theorem u_X12_remove (E : gE) (f : Nat → va_E) (R : RfT) (n : Nat) (hn : n ≤ 1024) (hwn : rS R 33 = nI n) (hwb : ∀ k, k < n → ∃ t, t < 1024 ∧ rA R 30 k = nI t) (hm : rS R 21 = 0) (hE : 94 ≤ gN E) (r : RfV E f R) : Ct E 3 yX12_remove cX12_remove 6 (some .int) [.ref (gAd E (56))] f (fun v g => v = some (.int 0) ∧ RfV E g (rNm (setS R 5 0) n) ∧ Fr RfK f g, fun _ _ => False) := by
  refine Ct.of (by decide) (Nat.le_of_ble_eq_true rfl) (fun sz => ?_)
  refine G.eql [(0, .ref (gAd E (56)))] rfl ?_
  refine G.go tv_X12_remove 1 1 [(0, .ref (gAd E (56)))] [.ref (gAd E (56))] rfl ?_
  refine G.callV (56) [] [] (c_X12_useTape E _ (R) hE r) cls_X12 (by omega) (r.o) cw_X12_418 w_2480 w_99 (Nat.le_of_ble_eq_true rfl) rfl (Nat.le_of_ble_eq_true rfl) (tbd tv_X12_remove rfl) (fun v1 f1 q1 => ?_) (fun _ _ h => h.elim)
  obtain ⟨rfl, ra1, fa1⟩ := q1
  refine G.eqs [.int (rS R 5)] rfl ?_
  refine G.go tv_X12_remove 2 6 [(0, .ref (gAd E (56))), (1, .int (rS R 5))] [.ref (gAd E (56))] rfl ?_
  refine G.callV (56) [] [] (c_X12_notMounted E _ (setS (R) 5 0) n hn hwn hwb hE ra1) cls_X12 (by omega) (ra1.o) cw_X12_403 w_2464 w_96 (Nat.le_of_ble_eq_true rfl) rfl (Nat.le_of_ble_eq_true rfl) (tbd tv_X12_remove rfl) (fun v2 f2 q2 => ?_) (fun _ _ h => h.elim)
  obtain ⟨rfl, ra2, fa2⟩ := q2
  refine G.eqs [.int (if rS (setS (R) 5 0) 21 = 0 then 1 else 0)] rfl ?_
  refine G.eqs [.int ((1 : Int32))] (by rw [show rS (setS (R) 5 0) 21 = rS R 21 from rfl, if_pos hm]) ?_
  refine G.if_eq 14 (tbd tv_X12_remove rfl) (by decide) (fun c9 => absurd c9 (by decide)) (fun c9 => ?_)
  refine G.go tv_X12_remove 1 13 [(0, .ref (gAd E (56))), (1, .int (rS R 5))] [.int ((0 : Int32))] rfl ?_
  exact G.iret rfl rfl (⟨rfl, ra2, (fa1).tr fa2 (fun _ h => h)⟩) (tbd tv_X12_remove rfl)
def tb_X12_rename : List (Nat × Instr × Nat) := [(0, .aload_n 0, 1), (1, .invokevirtual 418, 3), (4, .istore_n 1, 1), (5, .aload_n 0, 1), (6, .invokevirtual 403, 3), (9, .ifCond .eq 5, 3), (12, .iconst 0, 1), (13, .ireturn, 1), (14, .aload_n 0, 1), (15, .iload_n 1, 1), (16, .invokevirtual 451, 3), (19, .istore_n 2, 1), (20, .iload_n 2, 1), (21, .iconst (-1), 1), (22, .if_icmp .ne 6, 3), (25, .bipush (-6), 2), (27, .ireturn, 1), (28, .aload_n 0, 1), (29, .iconst 0, 1), (30, .aload_n 0, 1), (31, .getfield 448, 3), (34, .invokevirtual 364, 3), (37, .istore_n 3, 1), (38, .iload_n 3, 1), (39, .ifCond .ge 5, 3), (42, .iload_n 3, 1), (43, .ireturn, 1), (44, .aload_n 0, 1), (45, .getfield 448, 3), (48, .ifCond .eq 15, 3), (51, .iload_n 2, 1), (52, .ifCond .eq 11, 3), (55, .aload_n 0, 1), (56, .iload_n 2, 1), (57, .invokevirtual 454, 3), (60, .ifCond .eq 6, 3), (63, .bipush (-9), 2), (65, .ireturn, 1), (66, .aload_n 0, 1), (67, .bipush 16, 2), (69, .iload_n 2, 1), (70, .iconst 1, 1), (71, .isub, 1), (72, .invokevirtual 424, 3), (75, .istore 4, 2), (77, .iload 4, 2), (79, .ifCond .ge 6, 3), (82, .iload 4, 2), (84, .ireturn, 1), (85, .aload_n 0, 1), (86, .iconst 0, 1), (87, .aload_n 0, 1), (88, .getfield 448, 3), (91, .iconst 1, 1), (92, .isub, 1), (93, .invokevirtual 364, 3), (96, .istore 5, 2), (98, .aload_n 0, 1), (99, .iload 5, 2), (101, .aload_n 0, 1), (102, .getfield 104, 3), (105, .aload_n 0, 1), (106, .getfield 448, 3), (109, .iconst 1, 1), (110, .isub, 1), (111, .iaload, 1), (112, .aload_n 0, 1), (113, .getfield 107, 3), (116, .aload_n 0, 1), (117, .getfield 448, 3), (120, .iconst 1, 1), (121, .isub, 1), (122, .iaload, 1), (123, .invokevirtual 361, 3), (126, .istore 6, 2), (128, .aload_n 0, 1), (129, .iload 4, 2), (131, .aload_n 0, 1), (132, .getfield 104, 3), (135, .bipush 15, 2), (137, .iload_n 2, 1), (138, .iadd, 1), (139, .iaload, 1), (140, .aload_n 0, 1), (141, .getfield 107, 3), (144, .bipush 15, 2), (146, .iload_n 2, 1), (147, .iadd, 1), (148, .iaload, 1), (149, .invokevirtual 361, 3), (152, .istore 7, 2), (154, .iload 7, 2), (156, .iconst (-1), 1), (157, .if_icmp .eq 134, 3), (160, .aload_n 0, 1), (161, .iload 4, 2), (163, .iload 7, 2), (165, .iconst 0, 1), (166, .iconst 2, 1), (167, .invokevirtual 347, 3), (170, .istore 8, 2), (172, .iload 8, 2), (174, .iload_n 3, 1), (175, .if_icmp .ne 5, 3), (178, .iconst 0, 1), (179, .ireturn, 1), (180, .aload_n 0, 1), (181, .iload_n 3, 1), (182, .invokevirtual 326, 3), (185, .iconst 2, 1), (186, .if_icmp .ne 7, 3), (189, .iconst 1, 1), (190, .goto 4, 3), (193, .iconst 0, 1), (194, .istore 9, 2), (196, .iload 9, 2), (198, .aload_n 0, 1), (199, .iload 8, 2), (201, .invokevirtual 326, 3), (204, .iconst 2, 1), (205, .if_icmp .ne 7, 3), (208, .iconst 1, 1), (209, .goto 4, 3), (212, .iconst 0, 1), (213, .if_icmp .eq 16, 3), (216, .iload 9, 2), (218, .ifCond .eq 8, 3), (221, .bipush (-3), 2), (223, .goto 5, 3), (226, .bipush (-4), 2), (228, .ireturn, 1), (229, .iload 9, 2), (231, .ifCond .eq 15, 3), (234, .aload_n 0, 1), (235, .iload 8, 2), (237, .invokevirtual 439, 3), (240, .ifCond .le 6, 3), (243, .bipush (-5), 2), (245, .ireturn, 1), (246, .aload_n 0, 1), (247, .aload_n 0, 1), (248, .iload 4, 2), (250, .iload 7, 2), (252, .bipush 8, 2), (254, .idiv, 1), (255, .invokevirtual 323, 3), (258, .bipush 16, 2), (260, .iload 7, 2), (262, .bipush 8, 2), (264, .irem, 1), (265, .imul, 1), (266, .iconst 2, 1), (267, .iload_n 3, 1), (268, .invokevirtual 299, 3), (271, .aload_n 0, 1), (272, .iload 5, 2), (274, .iload 6, 2), (276, .invokevirtual 442, 3), (279, .aload_n 0, 1), (280, .iload 8, 2), (282, .invokevirtual 445, 3), (285, .aload_n 0, 1), (286, .iconst 0, 1), (287, .invokevirtual 436, 3), (290, .ireturn, 1), (291, .iload 4, 2), (293, .iload 5, 2), (295, .if_icmp .eq 15, 3), (298, .aload_n 0, 1), (299, .iload 4, 2), (301, .invokevirtual 430, 3), (304, .ifCond .eq 6, 3), (307, .bipush (-7), 2), (309, .ireturn, 1), (310, .aload_n 0, 1), (311, .iload 5, 2), (313, .iload 6, 2), (315, .invokevirtual 442, 3), (318, .aload_n 0, 1), (319, .iload 4, 2), (321, .aload_n 0, 1), (322, .getfield 104, 3), (325, .bipush 15, 2), (327, .iload_n 2, 1), (328, .iadd, 1), (329, .iaload, 1), (330, .aload_n 0, 1), (331, .getfield 107, 3), (334, .bipush 15, 2), (336, .iload_n 2, 1), (337, .iadd, 1), (338, .iaload, 1), (339, .iload_n 3, 1), (340, .invokevirtual 433, 3), (343, .aload_n 0, 1), (344, .iconst 0, 1), (345, .invokevirtual 436, 3), (348, .ireturn, 1)]
theorem tv_X12_rename : Tv cX12_rename tb_X12_rename := by
  unfold Tv
  decide +kernel
set_option maxRecDepth 100000 in
set_option maxHeartbeats 4000000 in
theorem u_X12_rename (E : gE) (f : Nat → va_E) (R : RfT) (n : Nat) (hn : n ≤ 1024) (hwn : rS R 33 = nI n) (hwb : ∀ k, k < n → ∃ t, t < 1024 ∧ rA R 30 k = nI t) (hm : rS R 21 = 0) (hE : 94 ≤ gN E) (r : RfV E f R) : Ct E 3 yX12_rename cX12_rename 10 (some .int) [.ref (gAd E (56))] f (fun v g => v = some (.int 0) ∧ RfV E g (rNm (setS R 5 0) n) ∧ Fr RfK f g, fun _ _ => False) := by
  refine Ct.of (by decide) (Nat.le_of_ble_eq_true rfl) (fun sz => ?_)
  refine G.eql [(0, .ref (gAd E (56)))] rfl ?_
  refine G.go tv_X12_rename 1 1 [(0, .ref (gAd E (56)))] [.ref (gAd E (56))] rfl ?_
  refine G.callV (56) [] [] (c_X12_useTape E _ (R) hE r) cls_X12 (by omega) (r.o) cw_X12_418 w_2480 w_99 (Nat.le_of_ble_eq_true rfl) rfl (Nat.le_of_ble_eq_true rfl) (tbd tv_X12_rename rfl) (fun v1 f1 q1 => ?_) (fun _ _ h => h.elim)
  obtain ⟨rfl, ra1, fa1⟩ := q1
  refine G.eqs [.int (rS R 5)] rfl ?_
  refine G.go tv_X12_rename 2 6 [(0, .ref (gAd E (56))), (1, .int (rS R 5))] [.ref (gAd E (56))] rfl ?_
  refine G.callV (56) [] [] (c_X12_notMounted E _ (setS (R) 5 0) n hn hwn hwb hE ra1) cls_X12 (by omega) (ra1.o) cw_X12_403 w_2464 w_96 (Nat.le_of_ble_eq_true rfl) rfl (Nat.le_of_ble_eq_true rfl) (tbd tv_X12_rename rfl) (fun v2 f2 q2 => ?_) (fun _ _ h => h.elim)
  obtain ⟨rfl, ra2, fa2⟩ := q2
  refine G.eqs [.int (if rS (setS (R) 5 0) 21 = 0 then 1 else 0)] rfl ?_
  refine G.eqs [.int ((1 : Int32))] (by rw [show rS (setS (R) 5 0) 21 = rS R 21 from rfl, if_pos hm]) ?_
  refine G.if_eq 14 (tbd tv_X12_rename rfl) (by decide) (fun c9 => absurd c9 (by decide)) (fun c9 => ?_)
  refine G.go tv_X12_rename 1 13 [(0, .ref (gAd E (56))), (1, .int (rS R 5))] [.int ((0 : Int32))] rfl ?_
  exact G.iret rfl rfl (⟨rfl, ra2, (fa1).tr fa2 (fun _ h => h)⟩) (tbd tv_X12_rename rfl)
def tb_X12_link : List (Nat × Instr × Nat) := [(0, .aload_n 0, 1), (1, .invokevirtual 418, 3), (4, .istore_n 1, 1), (5, .aload_n 0, 1), (6, .invokevirtual 403, 3), (9, .ifCond .eq 5, 3), (12, .iconst 0, 1), (13, .ireturn, 1), (14, .aload_n 0, 1), (15, .iload_n 1, 1), (16, .invokevirtual 451, 3), (19, .istore_n 2, 1), (20, .iload_n 2, 1), (21, .iconst (-1), 1), (22, .if_icmp .ne 6, 3), (25, .bipush (-6), 2), (27, .ireturn, 1), (28, .aload_n 0, 1), (29, .iconst 0, 1), (30, .aload_n 0, 1), (31, .getfield 448, 3), (34, .invokevirtual 364, 3), (37, .istore_n 3, 1), (38, .iload_n 3, 1), (39, .ifCond .ge 5, 3), (42, .iload_n 3, 1), (43, .ireturn, 1), (44, .aload_n 0, 1), (45, .iload_n 3, 1), (46, .invokevirtual 326, 3), (49, .iconst 2, 1), (50, .if_icmp .ne 6, 3), (53, .bipush (-4), 2), (55, .ireturn, 1), (56, .iload_n 2, 1), (57, .ifCond .ne 6, 3), (60, .bipush (-9), 2), (62, .ireturn, 1), (63, .aload_n 0, 1), (64, .bipush 16, 2), (66, .iload_n 2, 1), (67, .iconst 1, 1), (68, .isub, 1), (69, .invokevirtual 424, 3), (72, .istore 4, 2), (74, .iload 4, 2), (76, .ifCond .ge 6, 3), (79, .iload 4, 2), (81, .ireturn, 1), (82, .aload_n 0, 1), (83, .iload 4, 2), (85, .aload_n 0, 1), (86, .getfield 104, 3), (89, .bipush 15, 2), (91, .iload_n 2, 1), (92, .iadd, 1), (93, .iaload, 1), (94, .aload_n 0, 1), (95, .getfield 107, 3), (98, .bipush 15, 2), (100, .iload_n 2, 1), (101, .iadd, 1), (102, .iaload, 1), (103, .invokevirtual 361, 3), (106, .iconst (-1), 1), (107, .if_icmp .eq 6, 3), (110, .bipush (-2), 2), (112, .ireturn, 1), (113, .aload_n 0, 1), (114, .iload_n 3, 1), (115, .iconst 1, 1), (116, .iconst 1, 1), (117, .invokevirtual 303, 3), (120, .istore 5, 2), (122, .iload 5, 2), (124, .sipush 255, 3), (127, .if_icmp .ne 6, 3), (130, .bipush (-9), 2), (132, .ireturn, 1), (133, .aload_n 0, 1), (134, .iload 4, 2), (136, .invokevirtual 430, 3), (139, .ifCond .eq 6, 3), (142, .bipush (-7), 2), (144, .ireturn, 1), (145, .aload_n 0, 1), (146, .iload_n 3, 1), (147, .iconst 1, 1), (148, .iconst 1, 1), (149, .iload 5, 2), (151, .iconst 1, 1), (152, .iadd, 1), (153, .invokevirtual 332, 3), (156, .aload_n 0, 1), (157, .iload 4, 2), (159, .aload_n 0, 1), (160, .getfield 104, 3), (163, .bipush 15, 2), (165, .iload_n 2, 1), (166, .iadd, 1), (167, .iaload, 1), (168, .aload_n 0, 1), (169, .getfield 107, 3), (172, .bipush 15, 2), (174, .iload_n 2, 1), (175, .iadd, 1), (176, .iaload, 1), (177, .iload_n 3, 1), (178, .invokevirtual 433, 3), (181, .aload_n 0, 1), (182, .iload 5, 2), (184, .iconst 1, 1), (185, .iadd, 1), (186, .invokevirtual 436, 3), (189, .ireturn, 1)]
theorem tv_X12_link : Tv cX12_link tb_X12_link := by
  unfold Tv
  decide +kernel
set_option maxRecDepth 100000 in
set_option maxHeartbeats 4000000 in
theorem u_X12_link (E : gE) (f : Nat → va_E) (R : RfT) (n : Nat) (hn : n ≤ 1024) (hwn : rS R 33 = nI n) (hwb : ∀ k, k < n → ∃ t, t < 1024 ∧ rA R 30 k = nI t) (hm : rS R 21 = 0) (hE : 94 ≤ gN E) (r : RfV E f R) : Ct E 3 yX12_link cX12_link 6 (some .int) [.ref (gAd E (56))] f (fun v g => v = some (.int 0) ∧ RfV E g (rNm (setS R 5 0) n) ∧ Fr RfK f g, fun _ _ => False) := by
  refine Ct.of (by decide) (Nat.le_of_ble_eq_true rfl) (fun sz => ?_)
  refine G.eql [(0, .ref (gAd E (56)))] rfl ?_
  refine G.go tv_X12_link 1 1 [(0, .ref (gAd E (56)))] [.ref (gAd E (56))] rfl ?_
  refine G.callV (56) [] [] (c_X12_useTape E _ (R) hE r) cls_X12 (by omega) (r.o) cw_X12_418 w_2480 w_99 (Nat.le_of_ble_eq_true rfl) rfl (Nat.le_of_ble_eq_true rfl) (tbd tv_X12_link rfl) (fun v1 f1 q1 => ?_) (fun _ _ h => h.elim)
  obtain ⟨rfl, ra1, fa1⟩ := q1
  refine G.eqs [.int (rS R 5)] rfl ?_
  refine G.go tv_X12_link 2 6 [(0, .ref (gAd E (56))), (1, .int (rS R 5))] [.ref (gAd E (56))] rfl ?_
  refine G.callV (56) [] [] (c_X12_notMounted E _ (setS (R) 5 0) n hn hwn hwb hE ra1) cls_X12 (by omega) (ra1.o) cw_X12_403 w_2464 w_96 (Nat.le_of_ble_eq_true rfl) rfl (Nat.le_of_ble_eq_true rfl) (tbd tv_X12_link rfl) (fun v2 f2 q2 => ?_) (fun _ _ h => h.elim)
  obtain ⟨rfl, ra2, fa2⟩ := q2
  refine G.eqs [.int (if rS (setS (R) 5 0) 21 = 0 then 1 else 0)] rfl ?_
  refine G.eqs [.int ((1 : Int32))] (by rw [show rS (setS (R) 5 0) 21 = rS R 21 from rfl, if_pos hm]) ?_
  refine G.if_eq 14 (tbd tv_X12_link rfl) (by decide) (fun c9 => absurd c9 (by decide)) (fun c9 => ?_)
  refine G.go tv_X12_link 1 13 [(0, .ref (gAd E (56))), (1, .int (rS R 5))] [.int ((0 : Int32))] rfl ?_
  exact G.iret rfl rfl (⟨rfl, ra2, (fa1).tr fa2 (fun _ h => h)⟩) (tbd tv_X12_link rfl)
def tb_X12_clear : List (Nat × Instr × Nat) := [(0, .aload_n 0, 1), (1, .invokevirtual 418, 3), (4, .istore_n 1, 1), (5, .aload_n 0, 1), (6, .invokevirtual 403, 3), (9, .ifCond .eq 5, 3), (12, .iconst 0, 1), (13, .ireturn, 1), (14, .aload_n 0, 1), (15, .iconst 0, 1), (16, .iload_n 1, 1), (17, .iconst 0, 1), (18, .invokevirtual 421, 3), (21, .istore_n 2, 1), (22, .iload_n 2, 1), (23, .iconst 1, 1), (24, .if_icmp .ge 16, 3), (27, .iload_n 2, 1), (28, .iconst (-1), 1), (29, .if_icmp .ne 8, 3), (32, .bipush (-6), 2), (34, .goto 5, 3), (37, .bipush (-9), 2), (39, .ireturn, 1), (40, .aload_n 0, 1), (41, .iconst 0, 1), (42, .iload_n 2, 1), (43, .invokevirtual 364, 3), (46, .istore_n 3, 1), (47, .iload_n 3, 1), (48, .ifCond .ge 5, 3), (51, .iload_n 3, 1), (52, .ireturn, 1), (53, .aload_n 0, 1), (54, .iload_n 3, 1), (55, .invokevirtual 326, 3), (58, .iconst 2, 1), (59, .if_icmp .ne 13, 3), (62, .aload_n 0, 1), (63, .iload_n 3, 1), (64, .invokevirtual 460, 3), (67, .iconst 1, 1), (68, .iadd, 1), (69, .goto 4, 3), (72, .iconst 1, 1), (73, .istore 4, 2), (75, .aload_n 0, 1), (76, .iconst 0, 1), (77, .iload_n 2, 1), (78, .iconst 1, 1), (79, .isub, 1), (80, .invokevirtual 364, 3), (83, .istore 5, 2), (85, .aload_n 0, 1), (86, .iload 5, 2), (88, .aload_n 0, 1), (89, .iload 5, 2), (91, .aload_n 0, 1), (92, .getfield 104, 3), (95, .iload_n 2, 1), (96, .iconst 1, 1), (97, .isub, 1), (98, .iaload, 1), (99, .aload_n 0, 1), (100, .getfield 107, 3), (103, .iload_n 2, 1), (104, .iconst 1, 1), (105, .isub, 1), (106, .iaload, 1), (107, .invokevirtual 361, 3), (110, .invokevirtual 442, 3), (113, .aload_n 0, 1), (114, .iload_n 3, 1), (115, .invokevirtual 445, 3), (118, .aload_n 0, 1), (119, .getfield 174, 3), (122, .ifCond .ne 65, 3), (125, .aload_n 0, 1), (126, .invokevirtual 463, 3), (129, .bipush 40, 2), (131, .if_icmp .le 56, 3), (134, .aload_n 0, 1), (135, .invokevirtual 168, 3), (138, .iconst 0, 1), (139, .istore 6, 2), (141, .iload 6, 2), (143, .sipush 1024, 3), (146, .if_icmp .ge 38, 3), (149, .aload_n 0, 1), (150, .getfield 68, 3), (153, .iload 6, 2), (155, .aload_n 0, 1), (156, .getfield 68, 3), (159, .iload 6, 2), (161, .baload, 1), (162, .iconst 2, 1), (163, .if_icmp .ne 7, 3), (166, .iconst 0, 1), (167, .goto 10, 3), (170, .aload_n 0, 1), (171, .getfield 68, 3), (174, .iload 6, 2), (176, .baload, 1), (177, .bastore, 1), (178, .iinc 6 1, 3), (181, .goto (-40), 3), (184, .bipush (-12), 2), (186, .ireturn, 1), (187, .aload_n 0, 1), (188, .iload 4, 2), (190, .invokevirtual 436, 3), (193, .ireturn, 1)]
theorem tv_X12_clear : Tv cX12_clear tb_X12_clear := by
  unfold Tv
  decide +kernel
set_option maxRecDepth 100000 in
set_option maxHeartbeats 4000000 in
theorem u_X12_clear (E : gE) (f : Nat → va_E) (R : RfT) (n : Nat) (hn : n ≤ 1024) (hwn : rS R 33 = nI n) (hwb : ∀ k, k < n → ∃ t, t < 1024 ∧ rA R 30 k = nI t) (hm : rS R 21 = 0) (hE : 94 ≤ gN E) (r : RfV E f R) : Ct E 3 yX12_clear cX12_clear 7 (some .int) [.ref (gAd E (56))] f (fun v g => v = some (.int 0) ∧ RfV E g (rNm (setS R 5 0) n) ∧ Fr RfK f g, fun _ _ => False) := by
  refine Ct.of (by decide) (Nat.le_of_ble_eq_true rfl) (fun sz => ?_)
  refine G.eql [(0, .ref (gAd E (56)))] rfl ?_
  refine G.go tv_X12_clear 1 1 [(0, .ref (gAd E (56)))] [.ref (gAd E (56))] rfl ?_
  refine G.callV (56) [] [] (c_X12_useTape E _ (R) hE r) cls_X12 (by omega) (r.o) cw_X12_418 w_2480 w_99 (Nat.le_of_ble_eq_true rfl) rfl (Nat.le_of_ble_eq_true rfl) (tbd tv_X12_clear rfl) (fun v1 f1 q1 => ?_) (fun _ _ h => h.elim)
  obtain ⟨rfl, ra1, fa1⟩ := q1
  refine G.eqs [.int (rS R 5)] rfl ?_
  refine G.go tv_X12_clear 2 6 [(0, .ref (gAd E (56))), (1, .int (rS R 5))] [.ref (gAd E (56))] rfl ?_
  refine G.callV (56) [] [] (c_X12_notMounted E _ (setS (R) 5 0) n hn hwn hwb hE ra1) cls_X12 (by omega) (ra1.o) cw_X12_403 w_2464 w_96 (Nat.le_of_ble_eq_true rfl) rfl (Nat.le_of_ble_eq_true rfl) (tbd tv_X12_clear rfl) (fun v2 f2 q2 => ?_) (fun _ _ h => h.elim)
  obtain ⟨rfl, ra2, fa2⟩ := q2
  refine G.eqs [.int (if rS (setS (R) 5 0) 21 = 0 then 1 else 0)] rfl ?_
  refine G.eqs [.int ((1 : Int32))] (by rw [show rS (setS (R) 5 0) 21 = rS R 21 from rfl, if_pos hm]) ?_
  refine G.if_eq 14 (tbd tv_X12_clear rfl) (by decide) (fun c9 => absurd c9 (by decide)) (fun c9 => ?_)
  refine G.go tv_X12_clear 1 13 [(0, .ref (gAd E (56))), (1, .int (rS R 5))] [.int ((0 : Int32))] rfl ?_
  exact G.iret rfl rfl (⟨rfl, ra2, (fa1).tr fa2 (fun _ h => h)⟩) (tbd tv_X12_clear rfl)
def tb_X12_copy : List (Nat × Instr × Nat) := [(0, .aload_n 0, 1), (1, .invokevirtual 418, 3), (4, .istore_n 1, 1), (5, .aload_n 0, 1), (6, .invokevirtual 403, 3), (9, .ifCond .eq 5, 3), (12, .iconst 0, 1), (13, .ireturn, 1), (14, .aload_n 0, 1), (15, .iload_n 1, 1), (16, .invokevirtual 451, 3), (19, .istore_n 2, 1), (20, .iload_n 2, 1), (21, .iconst (-1), 1), (22, .if_icmp .ne 6, 3), (25, .bipush (-6), 2), (27, .ireturn, 1), (28, .aload_n 0, 1), (29, .iconst 0, 1), (30, .aload_n 0, 1), (31, .getfield 448, 3), (34, .invokevirtual 364, 3), (37, .istore_n 3, 1), (38, .iload_n 3, 1), (39, .ifCond .ge 5, 3), (42, .iload_n 3, 1), (43, .ireturn, 1), (44, .aload_n 0, 1), (45, .iload_n 3, 1), (46, .invokevirtual 326, 3), (49, .iconst 2, 1), (50, .if_icmp .ne 6, 3), (53, .bipush (-4), 2), (55, .ireturn, 1), (56, .iload_n 2, 1), (57, .ifCond .ne 6, 3), (60, .bipush (-9), 2), (62, .ireturn, 1), (63, .aload_n 0, 1), (64, .bipush 16, 2), (66, .iload_n 2, 1), (67, .iconst 1, 1), (68, .isub, 1), (69, .invokevirtual 424, 3), (72, .istore 4, 2), (74, .iload 4, 2), (76, .ifCond .ge 6, 3), (79, .iload 4, 2), (81, .ireturn, 1), (82, .aload_n 0, 1), (83, .iload 4, 2), (85, .aload_n 0, 1), (86, .getfield 104, 3), (89, .bipush 15, 2), (91, .iload_n 2, 1), (92, .iadd, 1), (93, .iaload, 1), (94, .aload_n 0, 1), (95, .getfield 107, 3), (98, .bipush 15, 2), (100, .iload_n 2, 1), (101, .iadd, 1), (102, .iaload, 1), (103, .invokevirtual 361, 3), (106, .iconst (-1), 1), (107, .if_icmp .eq 6, 3), (110, .bipush (-2), 2), (112, .ireturn, 1), (113, .aload_n 0, 1), (114, .iload_n 3, 1), (115, .invokevirtual 466, 3), (118, .bipush 32, 2), (120, .if_icmp .le 6, 3), (123, .bipush (-12), 2), (125, .ireturn, 1), (126, .aload_n 0, 1), (127, .invokevirtual 427, 3), (130, .istore 5, 2), (132, .iload 5, 2), (134, .ifCond .ne 6, 3), (137, .bipush (-8), 2), (139, .ireturn, 1), (140, .aload_n 0, 1), (141, .iload 4, 2), (143, .invokevirtual 344, 3), (146, .sipush 128, 3), (149, .idiv, 1), (150, .istore 6, 2), (152, .aload_n 0, 1), (153, .iload 4, 2), (155, .invokevirtual 351, 3), (158, .iconst (-1), 1), (159, .if_icmp .ne 16, 3), (162, .aload_n 0, 1), (163, .iload 4, 2), (165, .iload 6, 2), (167, .iload 6, 2), (169, .invokevirtual 412, 3), (172, .goto 4, 3), (175, .iconst 0, 1), (176, .istore 7, 2), (178, .iload 7, 2), (180, .aload_n 0, 1), (181, .iload_n 3, 1), (182, .invokevirtual 469, 3), (185, .iadd, 1), (186, .aload_n 0, 1), (187, .invokevirtual 415, 3), (190, .if_icmp .le 6, 3), (193, .bipush (-7), 2), (195, .ireturn, 1), (196, .aload_n 0, 1), (197, .iload 5, 2), (199, .iconst 0, 1), (200, .iconst 1, 1), (201, .iconst 1, 1), (202, .invokevirtual 332, 3), (205, .aload_n 0, 1), (206, .iload 5, 2), (208, .iconst 1, 1), (209, .iconst 1, 1), (210, .iconst 1, 1), (211, .invokevirtual 332, 3), (214, .aload_n 0, 1), (215, .iload 5, 2), (217, .iconst 4, 1), (218, .iconst 4, 1), (219, .aload_n 0, 1), (220, .iload_n 3, 1), (221, .invokevirtual 344, 3), (224, .invokevirtual 332, 3), (227, .aload_n 0, 1), (228, .iload 5, 2), (230, .bipush 8, 2), (232, .iconst 4, 1), (233, .aload_n 0, 1), (234, .iload_n 3, 1), (235, .bipush 8, 2), (237, .iconst 4, 1), (238, .invokevirtual 303, 3), (241, .invokevirtual 332, 3), (244, .aload_n 0, 1), (245, .bipush 44, 2), (247, .iload 5, 2), (249, .iconst 1, 1), (250, .isub, 1), (251, .iconst 1, 1), (252, .invokevirtual 313, 3), (255, .aload_n 0, 1), (256, .iload 4, 2), (258, .aload_n 0, 1), (259, .getfield 104, 3), (262, .bipush 15, 2), (264, .iload_n 2, 1), (265, .iadd, 1), (266, .iaload, 1), (267, .aload_n 0, 1), (268, .getfield 107, 3), (271, .bipush 15, 2), (273, .iload_n 2, 1), (274, .iadd, 1), (275, .iaload, 1), (276, .iload 5, 2), (278, .invokevirtual 433, 3), (281, .aload_n 0, 1), (282, .iload_n 3, 1), (283, .iload 5, 2), (285, .invokevirtual 472, 3), (288, .aload_n 0, 1), (289, .iload 5, 2), (291, .invokevirtual 436, 3), (294, .ireturn, 1)]
theorem tv_X12_copy : Tv cX12_copy tb_X12_copy := by
  unfold Tv
  decide +kernel
set_option maxRecDepth 100000 in
set_option maxHeartbeats 4000000 in
theorem u_X12_copy (E : gE) (f : Nat → va_E) (R : RfT) (n : Nat) (hn : n ≤ 1024) (hwn : rS R 33 = nI n) (hwb : ∀ k, k < n → ∃ t, t < 1024 ∧ rA R 30 k = nI t) (hm : rS R 21 = 0) (hE : 94 ≤ gN E) (r : RfV E f R) : Ct E 3 yX12_copy cX12_copy 8 (some .int) [.ref (gAd E (56))] f (fun v g => v = some (.int 0) ∧ RfV E g (rNm (setS R 5 0) n) ∧ Fr RfK f g, fun _ _ => False) := by
  refine Ct.of (by decide) (Nat.le_of_ble_eq_true rfl) (fun sz => ?_)
  refine G.eql [(0, .ref (gAd E (56)))] rfl ?_
  refine G.go tv_X12_copy 1 1 [(0, .ref (gAd E (56)))] [.ref (gAd E (56))] rfl ?_
  refine G.callV (56) [] [] (c_X12_useTape E _ (R) hE r) cls_X12 (by omega) (r.o) cw_X12_418 w_2480 w_99 (Nat.le_of_ble_eq_true rfl) rfl (Nat.le_of_ble_eq_true rfl) (tbd tv_X12_copy rfl) (fun v1 f1 q1 => ?_) (fun _ _ h => h.elim)
  obtain ⟨rfl, ra1, fa1⟩ := q1
  refine G.eqs [.int (rS R 5)] rfl ?_
  refine G.go tv_X12_copy 2 6 [(0, .ref (gAd E (56))), (1, .int (rS R 5))] [.ref (gAd E (56))] rfl ?_
  refine G.callV (56) [] [] (c_X12_notMounted E _ (setS (R) 5 0) n hn hwn hwb hE ra1) cls_X12 (by omega) (ra1.o) cw_X12_403 w_2464 w_96 (Nat.le_of_ble_eq_true rfl) rfl (Nat.le_of_ble_eq_true rfl) (tbd tv_X12_copy rfl) (fun v2 f2 q2 => ?_) (fun _ _ h => h.elim)
  obtain ⟨rfl, ra2, fa2⟩ := q2
  refine G.eqs [.int (if rS (setS (R) 5 0) 21 = 0 then 1 else 0)] rfl ?_
  refine G.eqs [.int ((1 : Int32))] (by rw [show rS (setS (R) 5 0) 21 = rS R 21 from rfl, if_pos hm]) ?_
  refine G.if_eq 14 (tbd tv_X12_copy rfl) (by decide) (fun c9 => absurd c9 (by decide)) (fun c9 => ?_)
  refine G.go tv_X12_copy 1 13 [(0, .ref (gAd E (56))), (1, .int (rS R 5))] [.int ((0 : Int32))] rfl ?_
  exact G.iret rfl rfl (⟨rfl, ra2, (fa1).tr fa2 (fun _ h => h)⟩) (tbd tv_X12_copy rfl)
def tb_X12_find : List (Nat × Instr × Nat) := [(0, .aload_n 0, 1), (1, .invokevirtual 418, 3), (4, .istore_n 1, 1), (5, .aload_n 0, 1), (6, .invokevirtual 403, 3), (9, .ifCond .eq 5, 3), (12, .iconst 0, 1), (13, .ireturn, 1), (14, .aload_n 0, 1), (15, .iconst 0, 1), (16, .iload_n 1, 1), (17, .iconst 0, 1), (18, .invokevirtual 421, 3), (21, .istore_n 2, 1), (22, .iload_n 2, 1), (23, .iconst (-1), 1), (24, .if_icmp .ne 8, 3), (27, .bipush (-6), 2), (29, .goto 9, 3), (32, .aload_n 0, 1), (33, .iconst 0, 1), (34, .iload_n 2, 1), (35, .invokevirtual 364, 3), (38, .ireturn, 1)]
theorem tv_X12_find : Tv cX12_find tb_X12_find := by
  unfold Tv
  decide +kernel
set_option maxRecDepth 100000 in
set_option maxHeartbeats 4000000 in
theorem u_X12_find (E : gE) (f : Nat → va_E) (R : RfT) (n : Nat) (hn : n ≤ 1024) (hwn : rS R 33 = nI n) (hwb : ∀ k, k < n → ∃ t, t < 1024 ∧ rA R 30 k = nI t) (hm : rS R 21 = 0) (hE : 94 ≤ gN E) (r : RfV E f R) : Ct E 3 yX12_find cX12_find 3 (some .int) [.ref (gAd E (56))] f (fun v g => v = some (.int 0) ∧ RfV E g (rNm (setS R 5 0) n) ∧ Fr RfK f g, fun _ _ => False) := by
  refine Ct.of (by decide) (Nat.le_of_ble_eq_true rfl) (fun sz => ?_)
  refine G.eql [(0, .ref (gAd E (56)))] rfl ?_
  refine G.go tv_X12_find 1 1 [(0, .ref (gAd E (56)))] [.ref (gAd E (56))] rfl ?_
  refine G.callV (56) [] [] (c_X12_useTape E _ (R) hE r) cls_X12 (by omega) (r.o) cw_X12_418 w_2480 w_99 (Nat.le_of_ble_eq_true rfl) rfl (Nat.le_of_ble_eq_true rfl) (tbd tv_X12_find rfl) (fun v1 f1 q1 => ?_) (fun _ _ h => h.elim)
  obtain ⟨rfl, ra1, fa1⟩ := q1
  refine G.eqs [.int (rS R 5)] rfl ?_
  refine G.go tv_X12_find 2 6 [(0, .ref (gAd E (56))), (1, .int (rS R 5))] [.ref (gAd E (56))] rfl ?_
  refine G.callV (56) [] [] (c_X12_notMounted E _ (setS (R) 5 0) n hn hwn hwb hE ra1) cls_X12 (by omega) (ra1.o) cw_X12_403 w_2464 w_96 (Nat.le_of_ble_eq_true rfl) rfl (Nat.le_of_ble_eq_true rfl) (tbd tv_X12_find rfl) (fun v2 f2 q2 => ?_) (fun _ _ h => h.elim)
  obtain ⟨rfl, ra2, fa2⟩ := q2
  refine G.eqs [.int (if rS (setS (R) 5 0) 21 = 0 then 1 else 0)] rfl ?_
  refine G.eqs [.int ((1 : Int32))] (by rw [show rS (setS (R) 5 0) 21 = rS R 21 from rfl, if_pos hm]) ?_
  refine G.if_eq 14 (tbd tv_X12_find rfl) (by decide) (fun c9 => absurd c9 (by decide)) (fun c9 => ?_)
  refine G.go tv_X12_find 1 13 [(0, .ref (gAd E (56))), (1, .int (rS R 5))] [.int ((0 : Int32))] rfl ?_
  exact G.iret rfl rfl (⟨rfl, ra2, (fa1).tr fa2 (fun _ h => h)⟩) (tbd tv_X12_find rfl)
def tb_X12_write : List (Nat × Instr × Nat) := [(0, .aload_n 0, 1), (1, .invokevirtual 418, 3), (4, .istore_n 3, 1), (5, .aload_n 0, 1), (6, .invokevirtual 403, 3), (9, .ifCond .eq 5, 3), (12, .iconst 0, 1), (13, .ireturn, 1), (14, .iconst 0, 1), (15, .istore 4, 2), (17, .iload 4, 2), (19, .iload_n 3, 1), (20, .if_icmp .ge 23, 3), (23, .aload_n 0, 1), (24, .getfield 128, 3), (27, .iload 4, 2), (29, .aload_n 0, 1), (30, .getfield 7, 3), (33, .iload 4, 2), (35, .baload, 1), (36, .bastore, 1), (37, .iinc 4 1, 3), (40, .goto (-23), 3), (43, .aload_n 0, 1), (44, .iload_n 1, 1), (45, .iload_n 2, 1), (46, .iload_n 3, 1), (47, .invokevirtual 480, 3), (50, .ireturn, 1)]
theorem tv_X12_write : Tv cX12_write tb_X12_write := by
  unfold Tv
  decide +kernel
set_option maxRecDepth 100000 in
set_option maxHeartbeats 4000000 in
theorem u_X12_write (E : gE) (f : Nat → va_E) (R : RfT) (n : Nat) (hn : n ≤ 1024) (hwn : rS R 33 = nI n) (hwb : ∀ k, k < n → ∃ t, t < 1024 ∧ rA R 30 k = nI t) (hm : rS R 21 = 0) (hE : 94 ≤ gN E) (r : RfV E f R) (a0 : Int32) (a1 : Int32) : Ct E 3 yX12_write cX12_write 5 (some .int) [.ref (gAd E (56)), .int (a0), .int (a1)] f (fun v g => v = some (.int 0) ∧ RfV E g (rNm (setS R 5 0) n) ∧ Fr RfK f g, fun _ _ => False) := by
  refine Ct.of (by decide) (Nat.le_of_ble_eq_true rfl) (fun sz => ?_)
  refine G.eql [(0, .ref (gAd E (56))), (1, .int (a0)), (2, .int (a1))] rfl ?_
  refine G.go tv_X12_write 1 1 [(0, .ref (gAd E (56))), (1, .int (a0)), (2, .int (a1))] [.ref (gAd E (56))] rfl ?_
  refine G.callV (56) [] [] (c_X12_useTape E _ (R) hE r) cls_X12 (by omega) (r.o) cw_X12_418 w_2480 w_99 (Nat.le_of_ble_eq_true rfl) rfl (Nat.le_of_ble_eq_true rfl) (tbd tv_X12_write rfl) (fun v1 f1 q1 => ?_) (fun _ _ h => h.elim)
  obtain ⟨rfl, ra1, fa1⟩ := q1
  refine G.eqs [.int (rS R 5)] rfl ?_
  refine G.go tv_X12_write 2 6 [(0, .ref (gAd E (56))), (1, .int (a0)), (2, .int (a1)), (3, .int (rS R 5))] [.ref (gAd E (56))] rfl ?_
  refine G.callV (56) [] [] (c_X12_notMounted E _ (setS (R) 5 0) n hn hwn hwb hE ra1) cls_X12 (by omega) (ra1.o) cw_X12_403 w_2464 w_96 (Nat.le_of_ble_eq_true rfl) rfl (Nat.le_of_ble_eq_true rfl) (tbd tv_X12_write rfl) (fun v2 f2 q2 => ?_) (fun _ _ h => h.elim)
  obtain ⟨rfl, ra2, fa2⟩ := q2
  refine G.eqs [.int (if rS (setS (R) 5 0) 21 = 0 then 1 else 0)] rfl ?_
  refine G.eqs [.int ((1 : Int32))] (by rw [show rS (setS (R) 5 0) 21 = rS R 21 from rfl, if_pos hm]) ?_
  refine G.if_eq 14 (tbd tv_X12_write rfl) (by decide) (fun c9 => absurd c9 (by decide)) (fun c9 => ?_)
  refine G.go tv_X12_write 1 13 [(0, .ref (gAd E (56))), (1, .int (a0)), (2, .int (a1)), (3, .int (rS R 5))] [.int ((0 : Int32))] rfl ?_
  exact G.iret rfl rfl (⟨rfl, ra2, (fa1).tr fa2 (fun _ h => h)⟩) (tbd tv_X12_write rfl)
def tb_X12_fill : List (Nat × Instr × Nat) := [(0, .aload_n 0, 1), (1, .invokevirtual 403, 3), (4, .ifCond .ne 27, 3), (7, .aload_n 0, 1), (8, .iload_n 3, 1), (9, .ifCond .lt 10, 3), (12, .iload_n 3, 1), (13, .sipush 2000, 3), (16, .if_icmp .le 7, 3), (19, .iconst 1, 1), (20, .goto 4, 3), (23, .iconst 0, 1), (24, .iconst 3, 1), (25, .invokevirtual 385, 3), (28, .ifCond .eq 5, 3), (31, .iconst 0, 1), (32, .ireturn, 1), (33, .iconst 0, 1), (34, .istore 5, 2), (36, .iload 5, 2), (38, .iload_n 3, 1), (39, .if_icmp .ge 30, 3), (42, .aload_n 0, 1), (43, .getfield 128, 3), (46, .iload 5, 2), (48, .iload 4, 2), (50, .iload 5, 2), (52, .iload 5, 2), (54, .imul, 1), (55, .iadd, 1), (56, .iload 5, 2), (58, .iconst 5, 1), (59, .ishr, 1), (60, .iadd, 1), (61, .i2b, 1), (62, .bastore, 1), (63, .iinc 5 1, 3), (66, .goto (-30), 3), (69, .aload_n 0, 1), (70, .iload_n 1, 1), (71, .iload_n 2, 1), (72, .iload_n 3, 1), (73, .invokevirtual 480, 3), (76, .ireturn, 1)]
theorem tv_X12_fill : Tv cX12_fill tb_X12_fill := by
  unfold Tv
  decide +kernel
set_option maxRecDepth 100000 in
set_option maxHeartbeats 4000000 in
theorem u_X12_fill (E : gE) (f : Nat → va_E) (R : RfT) (n : Nat) (hn : n ≤ 1024) (hwn : rS R 33 = nI n) (hwb : ∀ k, k < n → ∃ t, t < 1024 ∧ rA R 30 k = nI t) (hm : rS R 21 = 0) (hE : 94 ≤ gN E) (r : RfV E f R) (a0 : Int32) (a1 : Int32) (a2 : Int32) (a3 : Int32) : Ct E 3 yX12_fill cX12_fill 6 (some .int) [.ref (gAd E (56)), .int (a0), .int (a1), .int (a2), .int (a3)] f (fun v g => v = some (.int 0) ∧ RfV E g (rNm (R) n) ∧ Fr RfK f g, fun _ _ => False) := by
  refine Ct.of (by decide) (Nat.le_of_ble_eq_true rfl) (fun sz => ?_)
  refine G.eql [(0, .ref (gAd E (56))), (1, .int (a0)), (2, .int (a1)), (3, .int (a2)), (4, .int (a3))] rfl ?_
  refine G.go tv_X12_fill 1 1 [(0, .ref (gAd E (56))), (1, .int (a0)), (2, .int (a1)), (3, .int (a2)), (4, .int (a3))] [.ref (gAd E (56))] rfl ?_
  refine G.callV (56) [] [] (c_X12_notMounted E _ (R) n hn hwn hwb hE r) cls_X12 (by omega) (r.o) cw_X12_403 w_2464 w_96 (Nat.le_of_ble_eq_true rfl) rfl (Nat.le_of_ble_eq_true rfl) (tbd tv_X12_fill rfl) (fun v1 f1 q1 => ?_) (fun _ _ h => h.elim)
  obtain ⟨rfl, ra1, fa1⟩ := q1
  refine G.eqs [.int (if rS R 21 = 0 then 1 else 0)] rfl ?_
  refine G.eqs [.int ((1 : Int32))] (by rw [show rS R 21 = rS R 21 from rfl, if_pos hm]) ?_
  refine G.if_ne 31 (tbd tv_X12_fill rfl) (by decide) (fun c4 => ?_) (fun c4 => absurd c4 (by decide))
  refine G.go tv_X12_fill 1 32 [(0, .ref (gAd E (56))), (1, .int (a0)), (2, .int (a1)), (3, .int (a2)), (4, .int (a3))] [.int ((0 : Int32))] rfl ?_
  exact G.iret rfl rfl (⟨rfl, ra1, fa1⟩) (tbd tv_X12_fill rfl)
def tb_X12_truncate : List (Nat × Instr × Nat) := [(0, .aload_n 0, 1), (1, .invokevirtual 403, 3), (4, .ifCond .eq 5, 3), (7, .iconst 0, 1), (8, .ireturn, 1), (9, .aload_n 0, 1), (10, .iload_n 1, 1), (11, .invokevirtual 326, 3), (14, .istore_n 3, 1), (15, .iload_n 3, 1), (16, .iconst 1, 1), (17, .if_icmp .eq 15, 3), (20, .iload_n 3, 1), (21, .ifCond .ne 8, 3), (24, .bipush (-11), 2), (26, .goto 5, 3), (29, .bipush (-4), 2), (31, .ireturn, 1), (32, .iload_n 2, 1), (33, .ifCond .lt 10, 3), (36, .iload_n 2, 1), (37, .ldc_w 483, 3), (40, .if_icmp .le 6, 3), (43, .bipush (-10), 2), (45, .ireturn, 1), (46, .aload_n 0, 1), (47, .iload_n 1, 1), (48, .iload_n 2, 1), (49, .invokevirtual 484, 3), (52, .aload_n 0, 1), (53, .iconst 0, 1), (54, .invokevirtual 436, 3), (57, .ireturn, 1)]
theorem tv_X12_truncate : Tv cX12_truncate tb_X12_truncate := by
  unfold Tv
  decide +kernel
set_option maxRecDepth 100000 in
set_option maxHeartbeats 4000000 in
theorem u_X12_truncate (E : gE) (f : Nat → va_E) (R : RfT) (n : Nat) (hn : n ≤ 1024) (hwn : rS R 33 = nI n) (hwb : ∀ k, k < n → ∃ t, t < 1024 ∧ rA R 30 k = nI t) (hm : rS R 21 = 0) (hE : 94 ≤ gN E) (r : RfV E f R) (a0 : Int32) (a1 : Int32) : Ct E 3 yX12_truncate cX12_truncate 4 (some .int) [.ref (gAd E (56)), .int (a0), .int (a1)] f (fun v g => v = some (.int 0) ∧ RfV E g (rNm (R) n) ∧ Fr RfK f g, fun _ _ => False) := by
  refine Ct.of (by decide) (Nat.le_of_ble_eq_true rfl) (fun sz => ?_)
  refine G.eql [(0, .ref (gAd E (56))), (1, .int (a0)), (2, .int (a1))] rfl ?_
  refine G.go tv_X12_truncate 1 1 [(0, .ref (gAd E (56))), (1, .int (a0)), (2, .int (a1))] [.ref (gAd E (56))] rfl ?_
  refine G.callV (56) [] [] (c_X12_notMounted E _ (R) n hn hwn hwb hE r) cls_X12 (by omega) (r.o) cw_X12_403 w_2464 w_96 (Nat.le_of_ble_eq_true rfl) rfl (Nat.le_of_ble_eq_true rfl) (tbd tv_X12_truncate rfl) (fun v1 f1 q1 => ?_) (fun _ _ h => h.elim)
  obtain ⟨rfl, ra1, fa1⟩ := q1
  refine G.eqs [.int (if rS R 21 = 0 then 1 else 0)] rfl ?_
  refine G.eqs [.int ((1 : Int32))] (by rw [show rS R 21 = rS R 21 from rfl, if_pos hm]) ?_
  refine G.if_eq 9 (tbd tv_X12_truncate rfl) (by decide) (fun c4 => absurd c4 (by decide)) (fun c4 => ?_)
  refine G.go tv_X12_truncate 1 8 [(0, .ref (gAd E (56))), (1, .int (a0)), (2, .int (a1))] [.int ((0 : Int32))] rfl ?_
  exact G.iret rfl rfl (⟨rfl, ra1, fa1⟩) (tbd tv_X12_truncate rfl)
def tb_X12_mark : List (Nat × Instr × Nat) := [(0, .aload_n 0, 1), (1, .invokevirtual 403, 3), (4, .ifCond .eq 5, 3), (7, .iconst 0, 1), (8, .ireturn, 1), (9, .aload_n 0, 1), (10, .iload_n 1, 1), (11, .invokevirtual 326, 3), (14, .ifCond .ne 6, 3), (17, .bipush (-11), 2), (19, .ireturn, 1), (20, .aload_n 0, 1), (21, .iload_n 1, 1), (22, .bipush 8, 2), (24, .iconst 4, 1), (25, .iload_n 2, 1), (26, .invokevirtual 332, 3), (29, .aload_n 0, 1), (30, .iconst 0, 1), (31, .invokevirtual 436, 3), (34, .ireturn, 1)]
theorem tv_X12_mark : Tv cX12_mark tb_X12_mark := by
  unfold Tv
  decide +kernel
set_option maxRecDepth 100000 in
set_option maxHeartbeats 4000000 in
theorem u_X12_mark (E : gE) (f : Nat → va_E) (R : RfT) (n : Nat) (hn : n ≤ 1024) (hwn : rS R 33 = nI n) (hwb : ∀ k, k < n → ∃ t, t < 1024 ∧ rA R 30 k = nI t) (hm : rS R 21 = 0) (hE : 94 ≤ gN E) (r : RfV E f R) (a0 : Int32) (a1 : Int32) : Ct E 3 yX12_mark cX12_mark 3 (some .int) [.ref (gAd E (56)), .int (a0), .int (a1)] f (fun v g => v = some (.int 0) ∧ RfV E g (rNm (R) n) ∧ Fr RfK f g, fun _ _ => False) := by
  refine Ct.of (by decide) (Nat.le_of_ble_eq_true rfl) (fun sz => ?_)
  refine G.eql [(0, .ref (gAd E (56))), (1, .int (a0)), (2, .int (a1))] rfl ?_
  refine G.go tv_X12_mark 1 1 [(0, .ref (gAd E (56))), (1, .int (a0)), (2, .int (a1))] [.ref (gAd E (56))] rfl ?_
  refine G.callV (56) [] [] (c_X12_notMounted E _ (R) n hn hwn hwb hE r) cls_X12 (by omega) (r.o) cw_X12_403 w_2464 w_96 (Nat.le_of_ble_eq_true rfl) rfl (Nat.le_of_ble_eq_true rfl) (tbd tv_X12_mark rfl) (fun v1 f1 q1 => ?_) (fun _ _ h => h.elim)
  obtain ⟨rfl, ra1, fa1⟩ := q1
  refine G.eqs [.int (if rS R 21 = 0 then 1 else 0)] rfl ?_
  refine G.eqs [.int ((1 : Int32))] (by rw [show rS R 21 = rS R 21 from rfl, if_pos hm]) ?_
  refine G.if_eq 9 (tbd tv_X12_mark rfl) (by decide) (fun c4 => absurd c4 (by decide)) (fun c4 => ?_)
  refine G.go tv_X12_mark 1 8 [(0, .ref (gAd E (56))), (1, .int (a0)), (2, .int (a1))] [.int ((0 : Int32))] rfl ?_
  exact G.iret rfl rfl (⟨rfl, ra1, fa1⟩) (tbd tv_X12_mark rfl)
def tb_X12_punch : List (Nat × Instr × Nat) := [(0, .aload_n 0, 1), (1, .invokevirtual 403, 3), (4, .ifCond .eq 5, 3), (7, .iconst 0, 1), (8, .ireturn, 1), (9, .aload_n 0, 1), (10, .iload_n 1, 1), (11, .invokevirtual 326, 3), (14, .istore 4, 2), (16, .iload 4, 2), (18, .iconst 1, 1), (19, .if_icmp .eq 16, 3), (22, .iload 4, 2), (24, .ifCond .ne 8, 3), (27, .bipush (-11), 2), (29, .goto 5, 3), (32, .bipush (-4), 2), (34, .ireturn, 1), (35, .iload_n 2, 1), (36, .ifCond .lt 19, 3), (39, .iload_n 3, 1), (40, .ifCond .lt 15, 3), (43, .iload_n 2, 1), (44, .i2l, 1), (45, .iload_n 3, 1), (46, .i2l, 1), (47, .ladd, 1), (48, .ldc2_w 478, 3), (51, .lcmp, 1), (52, .ifCond .le 6, 3), (55, .bipush (-10), 2), (57, .ireturn, 1), (58, .iconst 0, 1), (59, .istore 5, 2), (61, .aload_n 0, 1), (62, .iload_n 1, 1), (63, .invokevirtual 344, 3), (66, .istore 6, 2), (68, .iload_n 2, 1), (69, .iload_n 3, 1), (70, .iadd, 1), (71, .istore 7, 2), (73, .aload_n 0, 1), (74, .iload_n 1, 1), (75, .iload_n 2, 1), (76, .iload 7, 2), (78, .iload 6, 2), (80, .if_icmp .ge 8, 3), (83, .iload 7, 2), (85, .goto 5, 3), (88, .iload 6, 2), (90, .iload 7, 2), (92, .invokevirtual 487, 3), (95, .bipush 32, 2), (97, .if_icmp .le 6, 3), (100, .bipush (-12), 2), (102, .ireturn, 1), (103, .iload_n 2, 1), (104, .sipush 128, 3), (107, .idiv, 1), (108, .istore 8, 2), (110, .sipush 128, 3), (113, .iload 8, 2), (115, .imul, 1), (116, .iload 6, 2), (118, .if_icmp .ge 75, 3), (121, .sipush 128, 3), (124, .iload 8, 2), (126, .imul, 1), (127, .iload 7, 2), (129, .if_icmp .ge 64, 3), (132, .aload_n 0, 1), (133, .iload_n 1, 1), (134, .iload 8, 2), (136, .invokevirtual 323, 3), (139, .istore 9, 2), (141, .iload 9, 2), (143, .ifCond .eq 44, 3), (146, .sipush 128, 3), (149, .iload 8, 2), (151, .imul, 1), (152, .iload_n 2, 1), (153, .if_icmp .lt 34, 3), (156, .sipush 128, 3), (159, .iload 8, 2), (161, .imul, 1), (162, .sipush 128, 3), (165, .iadd, 1), (166, .iload 7, 2), (168, .if_icmp .gt 19, 3), (171, .aload_n 0, 1), (172, .iload 9, 2), (174, .invokevirtual 335, 3), (177, .aload_n 0, 1), (178, .iload_n 1, 1), (179, .iload 8, 2), (181, .invokevirtual 490, 3), (184, .iinc 5 1, 3), (187, .iinc 8 1, 3), (190, .goto (-80), 3), (193, .iload 7, 2), (195, .iload 6, 2), (197, .if_icmp .ge 8, 3), (200, .iload 7, 2), (202, .goto 5, 3), (205, .iload 6, 2), (207, .istore 8, 2), (209, .iload_n 2, 1), (210, .sipush 128, 3), (213, .idiv, 1), (214, .istore 9, 2), (216, .sipush 128, 3), (219, .iload 9, 2), (221, .imul, 1), (222, .iload 8, 2), (224, .if_icmp .ge 111, 3), (227, .iload_n 2, 1), (228, .iload 8, 2), (230, .if_icmp .ge 105, 3), (233, .aload_n 0, 1), (234, .getfield 25, 3), (237, .ifCond .eq 98, 3), (240, .aload_n 0, 1), (241, .iload_n 1, 1), (242, .iload 9, 2), (244, .invokevirtual 323, 3), (247, .istore 10, 2), (249, .iload 10, 2), (251, .ifCond .eq 78, 3), (254, .aload_n 0, 1), (255, .iload 10, 2), (257, .iconst 1, 1), (258, .invokevirtual 236, 3), (261, .iconst 0, 1), (262, .istore 11, 2), (264, .iload 11, 2), (266, .sipush 128, 3), (269, .if_icmp .ge 54, 3), (272, .aload_n 0, 1), (273, .getfield 89, 3), (276, .iload 11, 2), (278, .sipush 128, 3), (281, .iload 9, 2), (283, .imul, 1), (284, .iload 11, 2), (286, .iadd, 1), (287, .iload_n 2, 1), (288, .if_icmp .lt 21, 3), (291, .sipush 128, 3), (294, .iload 9, 2), (296, .imul, 1), (297, .iload 11, 2), (299, .iadd, 1), (300, .iload 8, 2), (302, .if_icmp .ge 7, 3), (305, .iconst 0, 1), (306, .goto 10, 3), (309, .aload_n 0, 1), (310, .getfield 86, 3), (313, .iload 11, 2), (315, .baload, 1), (316, .bastore, 1), (317, .iinc 11 1, 3), (320, .goto (-56), 3), (323, .aload_n 0, 1), (324, .iload 10, 2), (326, .invokevirtual 475, 3), (329, .iinc 9 1, 3), (332, .goto (-116), 3), (335, .aload_n 0, 1), (336, .iload 5, 2), (338, .invokevirtual 436, 3), (341, .ireturn, 1)]
theorem tv_X12_punch : Tv cX12_punch tb_X12_punch := by
  unfold Tv
  decide +kernel
set_option maxRecDepth 100000 in
set_option maxHeartbeats 4000000 in
theorem u_X12_punch (E : gE) (f : Nat → va_E) (R : RfT) (n : Nat) (hn : n ≤ 1024) (hwn : rS R 33 = nI n) (hwb : ∀ k, k < n → ∃ t, t < 1024 ∧ rA R 30 k = nI t) (hm : rS R 21 = 0) (hE : 94 ≤ gN E) (r : RfV E f R) (a0 : Int32) (a1 : Int32) (a2 : Int32) : Ct E 3 yX12_punch cX12_punch 12 (some .int) [.ref (gAd E (56)), .int (a0), .int (a1), .int (a2)] f (fun v g => v = some (.int 0) ∧ RfV E g (rNm (R) n) ∧ Fr RfK f g, fun _ _ => False) := by
  refine Ct.of (by decide) (Nat.le_of_ble_eq_true rfl) (fun sz => ?_)
  refine G.eql [(0, .ref (gAd E (56))), (1, .int (a0)), (2, .int (a1)), (3, .int (a2))] rfl ?_
  refine G.go tv_X12_punch 1 1 [(0, .ref (gAd E (56))), (1, .int (a0)), (2, .int (a1)), (3, .int (a2))] [.ref (gAd E (56))] rfl ?_
  refine G.callV (56) [] [] (c_X12_notMounted E _ (R) n hn hwn hwb hE r) cls_X12 (by omega) (r.o) cw_X12_403 w_2464 w_96 (Nat.le_of_ble_eq_true rfl) rfl (Nat.le_of_ble_eq_true rfl) (tbd tv_X12_punch rfl) (fun v1 f1 q1 => ?_) (fun _ _ h => h.elim)
  obtain ⟨rfl, ra1, fa1⟩ := q1
  refine G.eqs [.int (if rS R 21 = 0 then 1 else 0)] rfl ?_
  refine G.eqs [.int ((1 : Int32))] (by rw [show rS R 21 = rS R 21 from rfl, if_pos hm]) ?_
  refine G.if_eq 9 (tbd tv_X12_punch rfl) (by decide) (fun c4 => absurd c4 (by decide)) (fun c4 => ?_)
  refine G.go tv_X12_punch 1 8 [(0, .ref (gAd E (56))), (1, .int (a0)), (2, .int (a1)), (3, .int (a2))] [.int ((0 : Int32))] rfl ?_
  exact G.iret rfl rfl (⟨rfl, ra1, fa1⟩) (tbd tv_X12_punch rfl)
def tb_X12_hold : List (Nat × Instr × Nat) := [(0, .aload_n 0, 1), (1, .invokevirtual 403, 3), (4, .ifCond .eq 5, 3), (7, .iconst 0, 1), (8, .ireturn, 1), (9, .aload_n 0, 1), (10, .iload_n 1, 1), (11, .invokevirtual 326, 3), (14, .ifCond .ne 6, 3), (17, .bipush (-11), 2), (19, .ireturn, 1), (20, .aload_n 0, 1), (21, .getfield 110, 3), (24, .iload_n 1, 1), (25, .iaload, 1), (26, .bipush 100, 2), (28, .if_icmp .ne 6, 3), (31, .bipush (-9), 2), (33, .ireturn, 1), (34, .aload_n 0, 1), (35, .getfield 110, 3), (38, .iload_n 1, 1), (39, .dup2, 1), (40, .iaload, 1), (41, .iconst 1, 1), (42, .iadd, 1), (43, .iastore, 1), (44, .aload_n 0, 1), (45, .getfield 110, 3), (48, .iload_n 1, 1), (49, .iaload, 1), (50, .ireturn, 1)]
theorem tv_X12_hold : Tv cX12_hold tb_X12_hold := by
  unfold Tv
  decide +kernel
set_option maxRecDepth 100000 in
set_option maxHeartbeats 4000000 in
theorem u_X12_hold (E : gE) (f : Nat → va_E) (R : RfT) (n : Nat) (hn : n ≤ 1024) (hwn : rS R 33 = nI n) (hwb : ∀ k, k < n → ∃ t, t < 1024 ∧ rA R 30 k = nI t) (hm : rS R 21 = 0) (hE : 94 ≤ gN E) (r : RfV E f R) (a0 : Int32) : Ct E 3 yX12_hold cX12_hold 2 (some .int) [.ref (gAd E (56)), .int (a0)] f (fun v g => v = some (.int 0) ∧ RfV E g (rNm (R) n) ∧ Fr RfK f g, fun _ _ => False) := by
  refine Ct.of (by decide) (Nat.le_of_ble_eq_true rfl) (fun sz => ?_)
  refine G.eql [(0, .ref (gAd E (56))), (1, .int (a0))] rfl ?_
  refine G.go tv_X12_hold 1 1 [(0, .ref (gAd E (56))), (1, .int (a0))] [.ref (gAd E (56))] rfl ?_
  refine G.callV (56) [] [] (c_X12_notMounted E _ (R) n hn hwn hwb hE r) cls_X12 (by omega) (r.o) cw_X12_403 w_2464 w_96 (Nat.le_of_ble_eq_true rfl) rfl (Nat.le_of_ble_eq_true rfl) (tbd tv_X12_hold rfl) (fun v1 f1 q1 => ?_) (fun _ _ h => h.elim)
  obtain ⟨rfl, ra1, fa1⟩ := q1
  refine G.eqs [.int (if rS R 21 = 0 then 1 else 0)] rfl ?_
  refine G.eqs [.int ((1 : Int32))] (by rw [show rS R 21 = rS R 21 from rfl, if_pos hm]) ?_
  refine G.if_eq 9 (tbd tv_X12_hold rfl) (by decide) (fun c4 => absurd c4 (by decide)) (fun c4 => ?_)
  refine G.go tv_X12_hold 1 8 [(0, .ref (gAd E (56))), (1, .int (a0))] [.int ((0 : Int32))] rfl ?_
  exact G.iret rfl rfl (⟨rfl, ra1, fa1⟩) (tbd tv_X12_hold rfl)
def tb_X12_release : List (Nat × Instr × Nat) := [(0, .aload_n 0, 1), (1, .invokevirtual 403, 3), (4, .ifCond .eq 5, 3), (7, .iconst 0, 1), (8, .ireturn, 1), (9, .aload_n 0, 1), (10, .iload_n 1, 1), (11, .invokevirtual 326, 3), (14, .ifCond .ne 6, 3), (17, .bipush (-11), 2), (19, .ireturn, 1), (20, .aload_n 0, 1), (21, .getfield 110, 3), (24, .iload_n 1, 1), (25, .iaload, 1), (26, .ifCond .ne 6, 3), (29, .bipush (-9), 2), (31, .ireturn, 1), (32, .aload_n 0, 1), (33, .getfield 110, 3), (36, .iload_n 1, 1), (37, .dup2, 1), (38, .iaload, 1), (39, .iconst 1, 1), (40, .isub, 1), (41, .iastore, 1), (42, .aload_n 0, 1), (43, .iload_n 1, 1), (44, .invokevirtual 373, 3), (47, .ifCond .ne 22, 3), (50, .aload_n 0, 1), (51, .iload_n 1, 1), (52, .invokevirtual 370, 3), (55, .ifCond .eq 14, 3), (58, .aload_n 0, 1), (59, .iload_n 1, 1), (60, .invokevirtual 376, 3), (63, .aload_n 0, 1), (64, .iconst 0, 1), (65, .invokevirtual 436, 3), (68, .ireturn, 1), (69, .aload_n 0, 1), (70, .getfield 110, 3), (73, .iload_n 1, 1), (74, .iaload, 1), (75, .ireturn, 1)]
theorem tv_X12_release : Tv cX12_release tb_X12_release := by
  unfold Tv
  decide +kernel
set_option maxRecDepth 100000 in
set_option maxHeartbeats 4000000 in
theorem u_X12_release (E : gE) (f : Nat → va_E) (R : RfT) (n : Nat) (hn : n ≤ 1024) (hwn : rS R 33 = nI n) (hwb : ∀ k, k < n → ∃ t, t < 1024 ∧ rA R 30 k = nI t) (hm : rS R 21 = 0) (hE : 94 ≤ gN E) (r : RfV E f R) (a0 : Int32) : Ct E 3 yX12_release cX12_release 2 (some .int) [.ref (gAd E (56)), .int (a0)] f (fun v g => v = some (.int 0) ∧ RfV E g (rNm (R) n) ∧ Fr RfK f g, fun _ _ => False) := by
  refine Ct.of (by decide) (Nat.le_of_ble_eq_true rfl) (fun sz => ?_)
  refine G.eql [(0, .ref (gAd E (56))), (1, .int (a0))] rfl ?_
  refine G.go tv_X12_release 1 1 [(0, .ref (gAd E (56))), (1, .int (a0))] [.ref (gAd E (56))] rfl ?_
  refine G.callV (56) [] [] (c_X12_notMounted E _ (R) n hn hwn hwb hE r) cls_X12 (by omega) (r.o) cw_X12_403 w_2464 w_96 (Nat.le_of_ble_eq_true rfl) rfl (Nat.le_of_ble_eq_true rfl) (tbd tv_X12_release rfl) (fun v1 f1 q1 => ?_) (fun _ _ h => h.elim)
  obtain ⟨rfl, ra1, fa1⟩ := q1
  refine G.eqs [.int (if rS R 21 = 0 then 1 else 0)] rfl ?_
  refine G.eqs [.int ((1 : Int32))] (by rw [show rS R 21 = rS R 21 from rfl, if_pos hm]) ?_
  refine G.if_eq 9 (tbd tv_X12_release rfl) (by decide) (fun c4 => absurd c4 (by decide)) (fun c4 => ?_)
  refine G.go tv_X12_release 1 8 [(0, .ref (gAd E (56))), (1, .int (a0))] [.int ((0 : Int32))] rfl ?_
  exact G.iret rfl rfl (⟨rfl, ra1, fa1⟩) (tbd tv_X12_release rfl)
def tb_X12_read : List (Nat × Instr × Nat) := [(0, .aload_n 0, 1), (1, .invokevirtual 403, 3), (4, .ifCond .ne 25, 3), (7, .aload_n 0, 1), (8, .iload_n 1, 1), (9, .invokevirtual 326, 3), (12, .iconst 1, 1), (13, .if_icmp .ne 16, 3), (16, .iload_n 2, 1), (17, .ifCond .lt 12, 3), (20, .iload_n 2, 1), (21, .aload_n 0, 1), (22, .iload_n 1, 1), (23, .invokevirtual 344, 3), (26, .if_icmp .lt 17, 3), (29, .aload_n 0, 1), (30, .getfield 147, 3), (33, .iconst 1, 1), (34, .if_icmp .ne 7, 3), (37, .iconst 0, 1), (38, .goto 4, 3), (41, .iconst (-1), 1), (42, .ireturn, 1), (43, .aload_n 0, 1), (44, .iload_n 1, 1), (45, .iload_n 2, 1), (46, .sipush 128, 3), (49, .idiv, 1), (50, .invokevirtual 323, 3), (53, .istore_n 3, 1), (54, .iload_n 3, 1), (55, .ifCond .ne 7, 3), (58, .iconst 0, 1), (59, .goto 14, 3), (62, .aload_n 0, 1), (63, .iload_n 3, 1), (64, .iload_n 2, 1), (65, .sipush 128, 3), (68, .irem, 1), (69, .iconst 1, 1), (70, .invokevirtual 295, 3), (73, .ireturn, 1)]
theorem tv_X12_read : Tv cX12_read tb_X12_read := by
  unfold Tv
  decide +kernel
set_option maxRecDepth 100000 in
set_option maxHeartbeats 4000000 in
theorem u_X12_read (E : gE) (f : Nat → va_E) (R : RfT) (n : Nat) (hn : n ≤ 1024) (hwn : rS R 33 = nI n) (hwb : ∀ k, k < n → ∃ t, t < 1024 ∧ rA R 30 k = nI t) (hm : rS R 21 = 0) (hE : 94 ≤ gN E) (r : RfV E f R) (a0 : Int32) (a1 : Int32) : Ct E 3 yX12_read cX12_read 4 (some .int) [.ref (gAd E (56)), .int (a0), .int (a1)] f (fun v g => v = some (.int 0) ∧ RfV E g (rNm (R) n) ∧ Fr RfK f g, fun _ _ => False) := by
  refine Ct.of (by decide) (Nat.le_of_ble_eq_true rfl) (fun sz => ?_)
  refine G.eql [(0, .ref (gAd E (56))), (1, .int (a0)), (2, .int (a1))] rfl ?_
  refine G.go tv_X12_read 1 1 [(0, .ref (gAd E (56))), (1, .int (a0)), (2, .int (a1))] [.ref (gAd E (56))] rfl ?_
  refine G.callV (56) [] [] (c_X12_notMounted E _ (R) n hn hwn hwb hE r) cls_X12 (by omega) (r.o) cw_X12_403 w_2464 w_96 (Nat.le_of_ble_eq_true rfl) rfl (Nat.le_of_ble_eq_true rfl) (tbd tv_X12_read rfl) (fun v1 f1 q1 => ?_) (fun _ _ h => h.elim)
  obtain ⟨rfl, ra1, fa1⟩ := q1
  refine G.eqs [.int (if rS R 21 = 0 then 1 else 0)] rfl ?_
  refine G.eqs [.int ((1 : Int32))] (by rw [show rS R 21 = rS R 21 from rfl, if_pos hm]) ?_
  refine G.if_ne 29 (tbd tv_X12_read rfl) (by decide) (fun c4 => ?_) (fun c4 => absurd c4 (by decide))
  refine G.go tv_X12_read 1 30 [(0, .ref (gAd E (56))), (1, .int (a0)), (2, .int (a1))] [.ref (gAd E (56))] rfl ?_
  refine G.rg ra1 hE 0 (.int (rS (rNm (R) n) 0)) (by decide) rfl (tbd tv_X12_read rfl) w_2065 ?_
  refine G.go tv_X12_read 1 34 [(0, .ref (gAd E (56))), (1, .int (a0)), (2, .int (a1))] [.int ((1 : Int32)), .int (rS (rNm (R) n) 0)] rfl ?_
  refine G.cmp_ne 41 (tbd tv_X12_read rfl) (by decide) (fun c34 => absurd ((show (if rS R 21 = 0 then (1 : Int32) else 0) = 1 from if_pos hm)) c34) (fun c34 => ?_)
  refine G.go tv_X12_read 2 42 [(0, .ref (gAd E (56))), (1, .int (a0)), (2, .int (a1))] [.int ((0 : Int32))] rfl ?_
  exact G.iret rfl rfl (⟨rfl, ra1, fa1⟩) (tbd tv_X12_read rfl)
def tb_X12_about : List (Nat × Instr × Nat) := [(0, .aload_n 0, 1), (1, .invokevirtual 403, 3), (4, .ifCond .ne 26, 3), (7, .aload_n 0, 1), (8, .iload_n 2, 1), (9, .ifCond .lt 9, 3), (12, .iload_n 2, 1), (13, .bipush 6, 2), (15, .if_icmp .le 7, 3), (18, .iconst 1, 1), (19, .goto 4, 3), (22, .iconst 0, 1), (23, .iconst 2, 1), (24, .invokevirtual 385, 3), (27, .ifCond .eq 5, 3), (30, .iconst 0, 1), (31, .ireturn, 1), (32, .aload_n 0, 1), (33, .iload_n 1, 1), (34, .invokevirtual 326, 3), (37, .istore_n 3, 1), (38, .iload_n 3, 1), (39, .ifCond .ne 6, 3), (42, .bipush (-11), 2), (44, .ireturn, 1), (45, .iload_n 2, 1), (46, .tableswitch 84 0 5 #[38, 40, 46, 55, 61, 76], 38), (84, .iload_n 3, 1), (85, .ireturn, 1), (86, .aload_n 0, 1), (87, .iload_n 1, 1), (88, .invokevirtual 344, 3), (91, .ireturn, 1), (92, .aload_n 0, 1), (93, .iload_n 1, 1), (94, .bipush 8, 2), (96, .iconst 4, 1), (97, .invokevirtual 303, 3), (100, .ireturn, 1), (101, .aload_n 0, 1), (102, .iload_n 1, 1), (103, .invokevirtual 496, 3), (106, .ireturn, 1), (107, .iload_n 3, 1), (108, .iconst 2, 1), (109, .if_icmp .ne 11, 3), (112, .aload_n 0, 1), (113, .iload_n 1, 1), (114, .invokevirtual 439, 3), (117, .goto 4, 3), (120, .iconst 0, 1), (121, .ireturn, 1), (122, .aload_n 0, 1), (123, .iload_n 1, 1), (124, .iconst 1, 1), (125, .iconst 1, 1), (126, .invokevirtual 303, 3), (129, .ireturn, 1), (130, .aload_n 0, 1), (131, .getfield 110, 3), (134, .iload_n 1, 1), (135, .iaload, 1), (136, .aload_n 0, 1), (137, .iload_n 1, 1), (138, .invokevirtual 367, 3), (141, .iadd, 1), (142, .ireturn, 1)]
theorem tv_X12_about : Tv cX12_about tb_X12_about := by
  unfold Tv
  decide +kernel
set_option maxRecDepth 100000 in
set_option maxHeartbeats 4000000 in
theorem u_X12_about (E : gE) (f : Nat → va_E) (R : RfT) (n : Nat) (hn : n ≤ 1024) (hwn : rS R 33 = nI n) (hwb : ∀ k, k < n → ∃ t, t < 1024 ∧ rA R 30 k = nI t) (hm : rS R 21 = 0) (hE : 94 ≤ gN E) (r : RfV E f R) (a0 : Int32) (a1 : Int32) : Ct E 3 yX12_about cX12_about 4 (some .int) [.ref (gAd E (56)), .int (a0), .int (a1)] f (fun v g => v = some (.int 0) ∧ RfV E g (rNm (R) n) ∧ Fr RfK f g, fun _ _ => False) := by
  refine Ct.of (by decide) (Nat.le_of_ble_eq_true rfl) (fun sz => ?_)
  refine G.eql [(0, .ref (gAd E (56))), (1, .int (a0)), (2, .int (a1))] rfl ?_
  refine G.go tv_X12_about 1 1 [(0, .ref (gAd E (56))), (1, .int (a0)), (2, .int (a1))] [.ref (gAd E (56))] rfl ?_
  refine G.callV (56) [] [] (c_X12_notMounted E _ (R) n hn hwn hwb hE r) cls_X12 (by omega) (r.o) cw_X12_403 w_2464 w_96 (Nat.le_of_ble_eq_true rfl) rfl (Nat.le_of_ble_eq_true rfl) (tbd tv_X12_about rfl) (fun v1 f1 q1 => ?_) (fun _ _ h => h.elim)
  obtain ⟨rfl, ra1, fa1⟩ := q1
  refine G.eqs [.int (if rS R 21 = 0 then 1 else 0)] rfl ?_
  refine G.eqs [.int ((1 : Int32))] (by rw [show rS R 21 = rS R 21 from rfl, if_pos hm]) ?_
  refine G.if_ne 30 (tbd tv_X12_about rfl) (by decide) (fun c4 => ?_) (fun c4 => absurd c4 (by decide))
  refine G.go tv_X12_about 1 31 [(0, .ref (gAd E (56))), (1, .int (a0)), (2, .int (a1))] [.int ((0 : Int32))] rfl ?_
  exact G.iret rfl rfl (⟨rfl, ra1, fa1⟩) (tbd tv_X12_about rfl)
def tb_X12_where : List (Nat × Instr × Nat) := [(0, .aload_n 0, 1), (1, .invokevirtual 403, 3), (4, .ifCond .ne 27, 3), (7, .aload_n 0, 1), (8, .iload_n 2, 1), (9, .ifCond .lt 10, 3), (12, .iload_n 2, 1), (13, .sipush 4167, 3), (16, .if_icmp .le 7, 3), (19, .iconst 1, 1), (20, .goto 4, 3), (23, .iconst 0, 1), (24, .iconst 2, 1), (25, .invokevirtual 385, 3), (28, .ifCond .eq 5, 3), (31, .iconst 0, 1), (32, .ireturn, 1), (33, .aload_n 0, 1), (34, .iload_n 1, 1), (35, .invokevirtual 326, 3), (38, .ifCond .ne 6, 3), (41, .bipush (-11), 2), (43, .ireturn, 1), (44, .sipush 128, 3), (47, .iload_n 2, 1), (48, .imul, 1), (49, .aload_n 0, 1), (50, .iload_n 1, 1), (51, .invokevirtual 344, 3), (54, .if_icmp .lt 7, 3), (57, .iconst 0, 1), (58, .goto 9, 3), (61, .aload_n 0, 1), (62, .iload_n 1, 1), (63, .iload_n 2, 1), (64, .invokevirtual 323, 3), (67, .ireturn, 1)]
theorem tv_X12_where : Tv cX12_where tb_X12_where := by
  unfold Tv
  decide +kernel
set_option maxRecDepth 100000 in
set_option maxHeartbeats 4000000 in
theorem u_X12_where (E : gE) (f : Nat → va_E) (R : RfT) (n : Nat) (hn : n ≤ 1024) (hwn : rS R 33 = nI n) (hwb : ∀ k, k < n → ∃ t, t < 1024 ∧ rA R 30 k = nI t) (hm : rS R 21 = 0) (hE : 94 ≤ gN E) (r : RfV E f R) (a0 : Int32) (a1 : Int32) : Ct E 3 yX12_where cX12_where 3 (some .int) [.ref (gAd E (56)), .int (a0), .int (a1)] f (fun v g => v = some (.int 0) ∧ RfV E g (rNm (R) n) ∧ Fr RfK f g, fun _ _ => False) := by
  refine Ct.of (by decide) (Nat.le_of_ble_eq_true rfl) (fun sz => ?_)
  refine G.eql [(0, .ref (gAd E (56))), (1, .int (a0)), (2, .int (a1))] rfl ?_
  refine G.go tv_X12_where 1 1 [(0, .ref (gAd E (56))), (1, .int (a0)), (2, .int (a1))] [.ref (gAd E (56))] rfl ?_
  refine G.callV (56) [] [] (c_X12_notMounted E _ (R) n hn hwn hwb hE r) cls_X12 (by omega) (r.o) cw_X12_403 w_2464 w_96 (Nat.le_of_ble_eq_true rfl) rfl (Nat.le_of_ble_eq_true rfl) (tbd tv_X12_where rfl) (fun v1 f1 q1 => ?_) (fun _ _ h => h.elim)
  obtain ⟨rfl, ra1, fa1⟩ := q1
  refine G.eqs [.int (if rS R 21 = 0 then 1 else 0)] rfl ?_
  refine G.eqs [.int ((1 : Int32))] (by rw [show rS R 21 = rS R 21 from rfl, if_pos hm]) ?_
  refine G.if_ne 31 (tbd tv_X12_where rfl) (by decide) (fun c4 => ?_) (fun c4 => absurd c4 (by decide))
  refine G.go tv_X12_where 1 32 [(0, .ref (gAd E (56))), (1, .int (a0)), (2, .int (a1))] [.int ((0 : Int32))] rfl ?_
  exact G.iret rfl rfl (⟨rfl, ra1, fa1⟩) (tbd tv_X12_where rfl)
def tb_X12_entry : List (Nat × Instr × Nat) := [(0, .aload_n 0, 1), (1, .invokevirtual 403, 3), (4, .ifCond .eq 5, 3), (7, .iconst 0, 1), (8, .ireturn, 1), (9, .aload_n 0, 1), (10, .iload_n 1, 1), (11, .iload_n 2, 1), (12, .invokevirtual 499, 3), (15, .istore_n 3, 1), (16, .aload_n 0, 1), (17, .iload_n 3, 1), (18, .iconst (-1), 1), (19, .if_icmp .ne 7, 3), (22, .iconst 1, 1), (23, .goto 4, 3), (26, .iconst 0, 1), (27, .iconst 2, 1), (28, .invokevirtual 385, 3), (31, .ifCond .eq 7, 3), (34, .iconst 0, 1), (35, .goto 11, 3), (38, .aload_n 0, 1), (39, .iload_n 1, 1), (40, .iload_n 3, 1), (41, .iconst 0, 1), (42, .iconst 2, 1), (43, .invokevirtual 347, 3), (46, .ireturn, 1)]
theorem tv_X12_entry : Tv cX12_entry tb_X12_entry := by
  unfold Tv
  decide +kernel
set_option maxRecDepth 100000 in
set_option maxHeartbeats 4000000 in
theorem u_X12_entry (E : gE) (f : Nat → va_E) (R : RfT) (n : Nat) (hn : n ≤ 1024) (hwn : rS R 33 = nI n) (hwb : ∀ k, k < n → ∃ t, t < 1024 ∧ rA R 30 k = nI t) (hm : rS R 21 = 0) (hE : 94 ≤ gN E) (r : RfV E f R) (a0 : Int32) (a1 : Int32) : Ct E 3 yX12_entry cX12_entry 4 (some .int) [.ref (gAd E (56)), .int (a0), .int (a1)] f (fun v g => v = some (.int 0) ∧ RfV E g (rNm (R) n) ∧ Fr RfK f g, fun _ _ => False) := by
  refine Ct.of (by decide) (Nat.le_of_ble_eq_true rfl) (fun sz => ?_)
  refine G.eql [(0, .ref (gAd E (56))), (1, .int (a0)), (2, .int (a1))] rfl ?_
  refine G.go tv_X12_entry 1 1 [(0, .ref (gAd E (56))), (1, .int (a0)), (2, .int (a1))] [.ref (gAd E (56))] rfl ?_
  refine G.callV (56) [] [] (c_X12_notMounted E _ (R) n hn hwn hwb hE r) cls_X12 (by omega) (r.o) cw_X12_403 w_2464 w_96 (Nat.le_of_ble_eq_true rfl) rfl (Nat.le_of_ble_eq_true rfl) (tbd tv_X12_entry rfl) (fun v1 f1 q1 => ?_) (fun _ _ h => h.elim)
  obtain ⟨rfl, ra1, fa1⟩ := q1
  refine G.eqs [.int (if rS R 21 = 0 then 1 else 0)] rfl ?_
  refine G.eqs [.int ((1 : Int32))] (by rw [show rS R 21 = rS R 21 from rfl, if_pos hm]) ?_
  refine G.if_eq 9 (tbd tv_X12_entry rfl) (by decide) (fun c4 => absurd c4 (by decide)) (fun c4 => ?_)
  refine G.go tv_X12_entry 1 8 [(0, .ref (gAd E (56))), (1, .int (a0)), (2, .int (a1))] [.int ((0 : Int32))] rfl ?_
  exact G.iret rfl rfl (⟨rfl, ra1, fa1⟩) (tbd tv_X12_entry rfl)
def tb_X12_letter : List (Nat × Instr × Nat) := [(0, .aload_n 0, 1), (1, .invokevirtual 403, 3), (4, .ifCond .eq 5, 3), (7, .iconst 0, 1), (8, .ireturn, 1), (9, .aload_n 0, 1), (10, .iload_n 1, 1), (11, .iload_n 2, 1), (12, .invokevirtual 499, 3), (15, .istore 4, 2), (17, .aload_n 0, 1), (18, .iload 4, 2), (20, .iconst (-1), 1), (21, .if_icmp .eq 7, 3), (24, .iload_n 3, 1), (25, .ifCond .ge 7, 3), (28, .iconst 1, 1), (29, .goto 4, 3), (32, .iconst 0, 1), (33, .iconst 2, 1), (34, .invokevirtual 385, 3), (37, .ifCond .eq 5, 3), (40, .iconst 0, 1), (41, .ireturn, 1), (42, .iload_n 3, 1), (43, .aload_n 0, 1), (44, .iload_n 1, 1), (45, .iload 4, 2), (47, .iconst 2, 1), (48, .iconst 1, 1), (49, .invokevirtual 347, 3), (52, .if_icmp .ge 17, 3), (55, .aload_n 0, 1), (56, .iload_n 1, 1), (57, .iload 4, 2), (59, .iconst 3, 1), (60, .iload_n 3, 1), (61, .iadd, 1), (62, .iconst 1, 1), (63, .invokevirtual 347, 3), (66, .goto 4, 3), (69, .iconst (-1), 1), (70, .ireturn, 1)]
theorem tv_X12_letter : Tv cX12_letter tb_X12_letter := by
  unfold Tv
  decide +kernel
set_option maxRecDepth 100000 in
set_option maxHeartbeats 4000000 in
theorem u_X12_letter (E : gE) (f : Nat → va_E) (R : RfT) (n : Nat) (hn : n ≤ 1024) (hwn : rS R 33 = nI n) (hwb : ∀ k, k < n → ∃ t, t < 1024 ∧ rA R 30 k = nI t) (hm : rS R 21 = 0) (hE : 94 ≤ gN E) (r : RfV E f R) (a0 : Int32) (a1 : Int32) (a2 : Int32) : Ct E 3 yX12_letter cX12_letter 5 (some .int) [.ref (gAd E (56)), .int (a0), .int (a1), .int (a2)] f (fun v g => v = some (.int 0) ∧ RfV E g (rNm (R) n) ∧ Fr RfK f g, fun _ _ => False) := by
  refine Ct.of (by decide) (Nat.le_of_ble_eq_true rfl) (fun sz => ?_)
  refine G.eql [(0, .ref (gAd E (56))), (1, .int (a0)), (2, .int (a1)), (3, .int (a2))] rfl ?_
  refine G.go tv_X12_letter 1 1 [(0, .ref (gAd E (56))), (1, .int (a0)), (2, .int (a1)), (3, .int (a2))] [.ref (gAd E (56))] rfl ?_
  refine G.callV (56) [] [] (c_X12_notMounted E _ (R) n hn hwn hwb hE r) cls_X12 (by omega) (r.o) cw_X12_403 w_2464 w_96 (Nat.le_of_ble_eq_true rfl) rfl (Nat.le_of_ble_eq_true rfl) (tbd tv_X12_letter rfl) (fun v1 f1 q1 => ?_) (fun _ _ h => h.elim)
  obtain ⟨rfl, ra1, fa1⟩ := q1
  refine G.eqs [.int (if rS R 21 = 0 then 1 else 0)] rfl ?_
  refine G.eqs [.int ((1 : Int32))] (by rw [show rS R 21 = rS R 21 from rfl, if_pos hm]) ?_
  refine G.if_eq 9 (tbd tv_X12_letter rfl) (by decide) (fun c4 => absurd c4 (by decide)) (fun c4 => ?_)
  refine G.go tv_X12_letter 1 8 [(0, .ref (gAd E (56))), (1, .int (a0)), (2, .int (a1)), (3, .int (a2))] [.int ((0 : Int32))] rfl ?_
  exact G.iret rfl rfl (⟨rfl, ra1, fa1⟩) (tbd tv_X12_letter rfl)
def tb_X12_open : List (Nat × Instr × Nat) := [(0, .aload_n 0, 1), (1, .invokevirtual 418, 3), (4, .istore_n 2, 1), (5, .iload_n 1, 1), (6, .ifCond .lt 32, 3), (9, .iload_n 1, 1), (10, .bipush 16, 2), (12, .if_icmp .ge 26, 3), (15, .iload_n 1, 1), (16, .iconst 4, 1), (17, .irem, 1), (18, .iconst 3, 1), (19, .if_icmp .ge 19, 3), (22, .iload_n 1, 1), (23, .bipush 8, 2), (25, .if_icmp .lt 9, 3), (28, .iload_n 1, 1), (29, .iconst 4, 1), (30, .irem, 1), (31, .ifCond .le 7, 3), (34, .iconst 1, 1), (35, .goto 4, 3), (38, .iconst 0, 1), (39, .istore_n 3, 1), (40, .aload_n 0, 1), (41, .invokevirtual 403, 3), (44, .ifCond .ne 20, 3), (47, .aload_n 0, 1), (48, .iload_n 3, 1), (49, .ifCond .ne 7, 3), (52, .iconst 1, 1), (53, .goto 4, 3), (56, .iconst 0, 1), (57, .iconst 3, 1), (58, .invokevirtual 385, 3), (61, .ifCond .eq 5, 3), (64, .iconst 0, 1), (65, .ireturn, 1), (66, .aload_n 0, 1), (67, .iconst 0, 1), (68, .iload_n 2, 1), (69, .iconst 0, 1), (70, .invokevirtual 421, 3), (73, .istore 4, 2), (75, .iload 4, 2), (77, .iconst (-1), 1), (78, .if_icmp .ne 6, 3), (81, .bipush (-6), 2), (83, .ireturn, 1), (84, .iload_n 1, 1), (85, .iconst 4, 1), (86, .iand, 1), (87, .ifCond .eq 7, 3), (90, .iconst 1, 1), (91, .goto 4, 3), (94, .iconst 0, 1), (95, .istore 5, 2), (97, .iload 5, 2), (99, .ifCond .eq 20, 3), (102, .iload 4, 2), (104, .ifCond .le 15, 3), (107, .aload_n 0, 1), (108, .iconst 0, 1), (109, .iload 4, 2), (111, .iconst 1, 1), (112, .isub, 1), (113, .invokevirtual 424, 3), (116, .goto 4, 3), (119, .iconst 1, 1), (120, .istore 6, 2), (122, .iload 6, 2), (124, .ifCond .ge 6, 3), (127, .iload 6, 2), (129, .ireturn, 1), (130, .aload_n 0, 1), (131, .iconst 0, 1), (132, .iload 4, 2), (134, .invokevirtual 364, 3), (137, .istore 7, 2), (139, .iload 7, 2), (141, .ifCond .ge 11, 3), (144, .iload 5, 2), (146, .ifCond .ne 6, 3), (149, .iload 7, 2), (151, .ireturn, 1), (152, .iload 7, 2), (154, .ifCond .le 16, 3), (157, .aload_n 0, 1), (158, .iload 7, 2), (160, .invokevirtual 326, 3), (163, .iconst 2, 1), (164, .if_icmp .ne 6, 3), (167, .bipush (-4), 2), (169, .ireturn, 1), (170, .iconst 0, 1), (171, .istore 8, 2), (173, .iload 8, 2), (175, .bipush 32, 2), (177, .if_icmp .ge 19, 3), (180, .aload_n 0, 1), (181, .getfield 113, 3), (184, .iload 8, 2), (186, .iaload, 1), (187, .ifCond .eq 9, 3), (190, .iinc 8 1, 3), (193, .goto (-20), 3), (196, .iload 8, 2), (198, .bipush 32, 2), (200, .if_icmp .ne 6, 3), (203, .bipush (-9), 2), (205, .ireturn, 1), (206, .iload 7, 2), (208, .ifCond .le 20, 3), (211, .iload_n 1, 1), (212, .bipush 8, 2), (214, .iand, 1), (215, .ifCond .eq 94, 3), (218, .aload_n 0, 1), (219, .iload 7, 2), (221, .iconst 0, 1), (222, .invokevirtual 484, 3), (225, .goto 84, 3), (228, .aload_n 0, 1), (229, .invokevirtual 427, 3), (232, .istore 7, 2), (234, .iload 7, 2), (236, .ifCond .ne 6, 3), (239, .bipush (-8), 2), (241, .ireturn, 1), (242, .aload_n 0, 1), (243, .iload 6, 2), (245, .invokevirtual 430, 3), (248, .ifCond .eq 6, 3), (251, .bipush (-7), 2), (253, .ireturn, 1), (254, .aload_n 0, 1), (255, .iload 7, 2), (257, .iconst 0, 1), (258, .iconst 1, 1), (259, .iconst 1, 1), (260, .invokevirtual 332, 3), (263, .aload_n 0, 1), (264, .iload 7, 2), (266, .iconst 1, 1), (267, .iconst 1, 1), (268, .iconst 1, 1), (269, .invokevirtual 332, 3), (272, .aload_n 0, 1), (273, .bipush 44, 2), (275, .iload 7, 2), (277, .iconst 1, 1), (278, .isub, 1), (279, .iconst 1, 1), (280, .invokevirtual 313, 3), (283, .aload_n 0, 1), (284, .iload 6, 2), (286, .aload_n 0, 1), (287, .getfield 104, 3), (290, .iload 4, 2), (292, .iconst 1, 1), (293, .isub, 1), (294, .iaload, 1), (295, .aload_n 0, 1), (296, .getfield 107, 3), (299, .iload 4, 2), (301, .iconst 1, 1), (302, .isub, 1), (303, .iaload, 1), (304, .iload 7, 2), (306, .invokevirtual 433, 3), (309, .aload_n 0, 1), (310, .getfield 25, 3), (313, .ifCond .eq 30, 3), (316, .aload_n 0, 1), (317, .getfield 113, 3), (320, .iload 8, 2), (322, .iload 7, 2), (324, .iastore, 1), (325, .aload_n 0, 1), (326, .getfield 116, 3), (329, .iload 8, 2), (331, .iconst 0, 1), (332, .iastore, 1), (333, .aload_n 0, 1), (334, .getfield 119, 3), (337, .iload 8, 2), (339, .iload_n 1, 1), (340, .iconst 4, 1), (341, .irem, 1), (342, .iastore, 1), (343, .aload_n 0, 1), (344, .iload 8, 2), (346, .invokevirtual 436, 3), (349, .ireturn, 1)]
theorem tv_X12_open : Tv cX12_open tb_X12_open := by
  unfold Tv
  decide +kernel
set_option maxRecDepth 100000 in
set_option maxHeartbeats 4000000 in
theorem u_X12_open (E : gE) (f : Nat → va_E) (R : RfT) (n : Nat) (hn : n ≤ 1024) (hwn : rS R 33 = nI n) (hwb : ∀ k, k < n → ∃ t, t < 1024 ∧ rA R 30 k = nI t) (hm : rS R 21 = 0) (hE : 94 ≤ gN E) (r : RfV E f R) (a0 : Int32) : Ct E 3 yX12_open cX12_open 9 (some .int) [.ref (gAd E (56)), .int (a0)] f (fun v g => v = some (.int 0) ∧ RfV E g (rNm (setS R 5 0) n) ∧ Fr RfK f g, fun _ _ => False) := by
  refine Ct.of (by decide) (Nat.le_of_ble_eq_true rfl) (fun sz => ?_)
  refine G.eql [(0, .ref (gAd E (56))), (1, .int (a0))] rfl ?_
  refine G.go tv_X12_open 1 1 [(0, .ref (gAd E (56))), (1, .int (a0))] [.ref (gAd E (56))] rfl ?_
  refine G.callV (56) [] [] (c_X12_useTape E _ (R) hE r) cls_X12 (by omega) (r.o) cw_X12_418 w_2480 w_99 (Nat.le_of_ble_eq_true rfl) rfl (Nat.le_of_ble_eq_true rfl) (tbd tv_X12_open rfl) (fun v1 f1 q1 => ?_) (fun _ _ h => h.elim)
  obtain ⟨rfl, ra1, fa1⟩ := q1
  refine G.eqs [.int (rS R 5)] rfl ?_
  refine G.go tv_X12_open 2 6 [(0, .ref (gAd E (56))), (1, .int (a0)), (2, .int (rS R 5))] [.int (a0)] rfl ?_
  refine G.if_lt 38 (tbd tv_X12_open rfl) (by decide) (fun c6 => ?_) (fun c6 => ?_)
  · skip
    refine G.go tv_X12_open 3 41 [(0, .ref (gAd E (56))), (1, .int (a0)), (2, .int (rS R 5)), (3, .int ((0 : Int32)))] [.ref (gAd E (56))] rfl ?_
    refine G.callV (56) [] [] (c_X12_notMounted E _ (setS (R) 5 0) n hn hwn hwb hE ra1) cls_X12 (by omega) (ra1.o) cw_X12_403 w_2464 w_96 (Nat.le_of_ble_eq_true rfl) rfl (Nat.le_of_ble_eq_true rfl) (tbd tv_X12_open rfl) (fun v2 f2 q2 => ?_) (fun _ _ h => h.elim)
    obtain ⟨rfl, ra2, fa2⟩ := q2
    refine G.eqs [.int (if rS (setS (R) 5 0) 21 = 0 then 1 else 0)] rfl ?_
    refine G.eqs [.int ((1 : Int32))] (by rw [show rS (setS (R) 5 0) 21 = rS R 21 from rfl, if_pos hm]) ?_
    refine G.if_ne 64 (tbd tv_X12_open rfl) (by decide) (fun c44 => ?_) (fun c44 => absurd c44 (by decide))
    refine G.go tv_X12_open 1 65 [(0, .ref (gAd E (56))), (1, .int (a0)), (2, .int (rS R 5)), (3, .int ((0 : Int32)))] [.int ((0 : Int32))] rfl ?_
    exact G.iret rfl rfl (⟨rfl, ra2, (fa1).tr fa2 (fun _ h => h)⟩) (tbd tv_X12_open rfl)
  · skip
    refine G.go tv_X12_open 2 12 [(0, .ref (gAd E (56))), (1, .int (a0)), (2, .int (rS R 5))] [.int ((16 : Int32)), .int (a0)] rfl ?_
    refine G.cmp_ge 38 (tbd tv_X12_open rfl) (by decide) (fun c12 => ?_) (fun c12 => ?_)
    · skip
      refine G.go tv_X12_open 3 41 [(0, .ref (gAd E (56))), (1, .int (a0)), (2, .int (rS R 5)), (3, .int ((0 : Int32)))] [.ref (gAd E (56))] rfl ?_
      refine G.callV (56) [] [] (c_X12_notMounted E _ (setS (R) 5 0) n hn hwn hwb hE ra1) cls_X12 (by omega) (ra1.o) cw_X12_403 w_2464 w_96 (Nat.le_of_ble_eq_true rfl) rfl (Nat.le_of_ble_eq_true rfl) (tbd tv_X12_open rfl) (fun v3 f3 q3 => ?_) (fun _ _ h => h.elim)
      obtain ⟨rfl, ra3, fa3⟩ := q3
      refine G.eqs [.int (if rS (setS (R) 5 0) 21 = 0 then 1 else 0)] rfl ?_
      refine G.eqs [.int ((1 : Int32))] (by rw [show rS (setS (R) 5 0) 21 = rS R 21 from rfl, if_pos hm]) ?_
      refine G.if_ne 64 (tbd tv_X12_open rfl) (by decide) (fun c44 => ?_) (fun c44 => absurd c44 (by decide))
      refine G.go tv_X12_open 1 65 [(0, .ref (gAd E (56))), (1, .int (a0)), (2, .int (rS R 5)), (3, .int ((0 : Int32)))] [.int ((0 : Int32))] rfl ?_
      exact G.iret rfl rfl (⟨rfl, ra3, (fa1).tr fa3 (fun _ h => h)⟩) (tbd tv_X12_open rfl)
    · skip
      refine G.go tv_X12_open 2 17 [(0, .ref (gAd E (56))), (1, .int (a0)), (2, .int (rS R 5))] [.int ((4 : Int32)), .int (a0)] rfl ?_
      refine G.irem (by decide) (tbd tv_X12_open rfl) ?_
      refine G.go tv_X12_open 1 19 [(0, .ref (gAd E (56))), (1, .int (a0)), (2, .int (rS R 5))] [.int ((3 : Int32)), .int ((a0) - (a0) / ((4 : Int32)) * ((4 : Int32)))] rfl ?_
      refine G.cmp_ge 38 (tbd tv_X12_open rfl) (by decide) (fun c19 => ?_) (fun c19 => ?_)
      · skip
        refine G.go tv_X12_open 3 41 [(0, .ref (gAd E (56))), (1, .int (a0)), (2, .int (rS R 5)), (3, .int ((0 : Int32)))] [.ref (gAd E (56))] rfl ?_
        refine G.callV (56) [] [] (c_X12_notMounted E _ (setS (R) 5 0) n hn hwn hwb hE ra1) cls_X12 (by omega) (ra1.o) cw_X12_403 w_2464 w_96 (Nat.le_of_ble_eq_true rfl) rfl (Nat.le_of_ble_eq_true rfl) (tbd tv_X12_open rfl) (fun v4 f4 q4 => ?_) (fun _ _ h => h.elim)
        obtain ⟨rfl, ra4, fa4⟩ := q4
        refine G.eqs [.int (if rS (setS (R) 5 0) 21 = 0 then 1 else 0)] rfl ?_
        refine G.eqs [.int ((1 : Int32))] (by rw [show rS (setS (R) 5 0) 21 = rS R 21 from rfl, if_pos hm]) ?_
        refine G.if_ne 64 (tbd tv_X12_open rfl) (by decide) (fun c44 => ?_) (fun c44 => absurd c44 (by decide))
        refine G.go tv_X12_open 1 65 [(0, .ref (gAd E (56))), (1, .int (a0)), (2, .int (rS R 5)), (3, .int ((0 : Int32)))] [.int ((0 : Int32))] rfl ?_
        exact G.iret rfl rfl (⟨rfl, ra4, (fa1).tr fa4 (fun _ h => h)⟩) (tbd tv_X12_open rfl)
      · skip
        refine G.go tv_X12_open 2 25 [(0, .ref (gAd E (56))), (1, .int (a0)), (2, .int (rS R 5))] [.int ((8 : Int32)), .int (a0)] rfl ?_
        refine G.cmp_lt 34 (tbd tv_X12_open rfl) (by decide) (fun c25 => ?_) (fun c25 => ?_)
        · skip
          refine G.go tv_X12_open 4 41 [(0, .ref (gAd E (56))), (1, .int (a0)), (2, .int (rS R 5)), (3, .int ((1 : Int32)))] [.ref (gAd E (56))] rfl ?_
          refine G.callV (56) [] [] (c_X12_notMounted E _ (setS (R) 5 0) n hn hwn hwb hE ra1) cls_X12 (by omega) (ra1.o) cw_X12_403 w_2464 w_96 (Nat.le_of_ble_eq_true rfl) rfl (Nat.le_of_ble_eq_true rfl) (tbd tv_X12_open rfl) (fun v5 f5 q5 => ?_) (fun _ _ h => h.elim)
          obtain ⟨rfl, ra5, fa5⟩ := q5
          refine G.eqs [.int (if rS (setS (R) 5 0) 21 = 0 then 1 else 0)] rfl ?_
          refine G.eqs [.int ((1 : Int32))] (by rw [show rS (setS (R) 5 0) 21 = rS R 21 from rfl, if_pos hm]) ?_
          refine G.if_ne 64 (tbd tv_X12_open rfl) (by decide) (fun c44 => ?_) (fun c44 => absurd c44 (by decide))
          refine G.go tv_X12_open 1 65 [(0, .ref (gAd E (56))), (1, .int (a0)), (2, .int (rS R 5)), (3, .int ((1 : Int32)))] [.int ((0 : Int32))] rfl ?_
          exact G.iret rfl rfl (⟨rfl, ra5, (fa1).tr fa5 (fun _ h => h)⟩) (tbd tv_X12_open rfl)
        · skip
          refine G.go tv_X12_open 2 30 [(0, .ref (gAd E (56))), (1, .int (a0)), (2, .int (rS R 5))] [.int ((4 : Int32)), .int (a0)] rfl ?_
          refine G.irem (by decide) (tbd tv_X12_open rfl) ?_
          refine G.if_le 38 (tbd tv_X12_open rfl) (by decide) (fun c31 => ?_) (fun c31 => ?_)
          · skip
            refine G.go tv_X12_open 3 41 [(0, .ref (gAd E (56))), (1, .int (a0)), (2, .int (rS R 5)), (3, .int ((0 : Int32)))] [.ref (gAd E (56))] rfl ?_
            refine G.callV (56) [] [] (c_X12_notMounted E _ (setS (R) 5 0) n hn hwn hwb hE ra1) cls_X12 (by omega) (ra1.o) cw_X12_403 w_2464 w_96 (Nat.le_of_ble_eq_true rfl) rfl (Nat.le_of_ble_eq_true rfl) (tbd tv_X12_open rfl) (fun v6 f6 q6 => ?_) (fun _ _ h => h.elim)
            obtain ⟨rfl, ra6, fa6⟩ := q6
            refine G.eqs [.int (if rS (setS (R) 5 0) 21 = 0 then 1 else 0)] rfl ?_
            refine G.eqs [.int ((1 : Int32))] (by rw [show rS (setS (R) 5 0) 21 = rS R 21 from rfl, if_pos hm]) ?_
            refine G.if_ne 64 (tbd tv_X12_open rfl) (by decide) (fun c44 => ?_) (fun c44 => absurd c44 (by decide))
            refine G.go tv_X12_open 1 65 [(0, .ref (gAd E (56))), (1, .int (a0)), (2, .int (rS R 5)), (3, .int ((0 : Int32)))] [.int ((0 : Int32))] rfl ?_
            exact G.iret rfl rfl (⟨rfl, ra6, (fa1).tr fa6 (fun _ h => h)⟩) (tbd tv_X12_open rfl)
          · skip
            refine G.go tv_X12_open 4 41 [(0, .ref (gAd E (56))), (1, .int (a0)), (2, .int (rS R 5)), (3, .int ((1 : Int32)))] [.ref (gAd E (56))] rfl ?_
            refine G.callV (56) [] [] (c_X12_notMounted E _ (setS (R) 5 0) n hn hwn hwb hE ra1) cls_X12 (by omega) (ra1.o) cw_X12_403 w_2464 w_96 (Nat.le_of_ble_eq_true rfl) rfl (Nat.le_of_ble_eq_true rfl) (tbd tv_X12_open rfl) (fun v7 f7 q7 => ?_) (fun _ _ h => h.elim)
            obtain ⟨rfl, ra7, fa7⟩ := q7
            refine G.eqs [.int (if rS (setS (R) 5 0) 21 = 0 then 1 else 0)] rfl ?_
            refine G.eqs [.int ((1 : Int32))] (by rw [show rS (setS (R) 5 0) 21 = rS R 21 from rfl, if_pos hm]) ?_
            refine G.if_ne 64 (tbd tv_X12_open rfl) (by decide) (fun c44 => ?_) (fun c44 => absurd c44 (by decide))
            refine G.go tv_X12_open 1 65 [(0, .ref (gAd E (56))), (1, .int (a0)), (2, .int (rS R 5)), (3, .int ((1 : Int32)))] [.int ((0 : Int32))] rfl ?_
            exact G.iret rfl rfl (⟨rfl, ra7, (fa1).tr fa7 (fun _ h => h)⟩) (tbd tv_X12_open rfl)
def tb_X12_close : List (Nat × Instr × Nat) := [(0, .aload_n 0, 1), (1, .invokevirtual 403, 3), (4, .ifCond .eq 5, 3), (7, .iconst 0, 1), (8, .ireturn, 1), (9, .aload_n 0, 1), (10, .iload_n 1, 1), (11, .invokevirtual 502, 3), (14, .ifCond .ne 6, 3), (17, .bipush (-13), 2), (19, .ireturn, 1), (20, .aload_n 0, 1), (21, .getfield 113, 3), (24, .iload_n 1, 1), (25, .iaload, 1), (26, .istore_n 2, 1), (27, .aload_n 0, 1), (28, .getfield 113, 3), (31, .iload_n 1, 1), (32, .iconst 0, 1), (33, .iastore, 1), (34, .aload_n 0, 1), (35, .iload_n 2, 1), (36, .invokevirtual 370, 3), (39, .ifCond .eq 16, 3), (42, .aload_n 0, 1), (43, .iload_n 2, 1), (44, .invokevirtual 373, 3), (47, .ifCond .ne 8, 3), (50, .aload_n 0, 1), (51, .iload_n 2, 1), (52, .invokevirtual 376, 3), (55, .aload_n 0, 1), (56, .iconst 0, 1), (57, .invokevirtual 436, 3), (60, .ireturn, 1)]
theorem tv_X12_close : Tv cX12_close tb_X12_close := by
  unfold Tv
  decide +kernel
set_option maxRecDepth 100000 in
set_option maxHeartbeats 4000000 in
theorem u_X12_close (E : gE) (f : Nat → va_E) (R : RfT) (n : Nat) (hn : n ≤ 1024) (hwn : rS R 33 = nI n) (hwb : ∀ k, k < n → ∃ t, t < 1024 ∧ rA R 30 k = nI t) (hm : rS R 21 = 0) (hE : 94 ≤ gN E) (r : RfV E f R) (a0 : Int32) : Ct E 3 yX12_close cX12_close 3 (some .int) [.ref (gAd E (56)), .int (a0)] f (fun v g => v = some (.int 0) ∧ RfV E g (rNm (R) n) ∧ Fr RfK f g, fun _ _ => False) := by
  refine Ct.of (by decide) (Nat.le_of_ble_eq_true rfl) (fun sz => ?_)
  refine G.eql [(0, .ref (gAd E (56))), (1, .int (a0))] rfl ?_
  refine G.go tv_X12_close 1 1 [(0, .ref (gAd E (56))), (1, .int (a0))] [.ref (gAd E (56))] rfl ?_
  refine G.callV (56) [] [] (c_X12_notMounted E _ (R) n hn hwn hwb hE r) cls_X12 (by omega) (r.o) cw_X12_403 w_2464 w_96 (Nat.le_of_ble_eq_true rfl) rfl (Nat.le_of_ble_eq_true rfl) (tbd tv_X12_close rfl) (fun v1 f1 q1 => ?_) (fun _ _ h => h.elim)
  obtain ⟨rfl, ra1, fa1⟩ := q1
  refine G.eqs [.int (if rS R 21 = 0 then 1 else 0)] rfl ?_
  refine G.eqs [.int ((1 : Int32))] (by rw [show rS R 21 = rS R 21 from rfl, if_pos hm]) ?_
  refine G.if_eq 9 (tbd tv_X12_close rfl) (by decide) (fun c4 => absurd c4 (by decide)) (fun c4 => ?_)
  refine G.go tv_X12_close 1 8 [(0, .ref (gAd E (56))), (1, .int (a0))] [.int ((0 : Int32))] rfl ?_
  exact G.iret rfl rfl (⟨rfl, ra1, fa1⟩) (tbd tv_X12_close rfl)
def tb_X12_put : List (Nat × Instr × Nat) := [(0, .aload_n 0, 1), (1, .invokevirtual 418, 3), (4, .istore_n 2, 1), (5, .aload_n 0, 1), (6, .invokevirtual 403, 3), (9, .ifCond .eq 5, 3), (12, .iconst 0, 1), (13, .ireturn, 1), (14, .aload_n 0, 1), (15, .iload_n 1, 1), (16, .invokevirtual 502, 3), (19, .ifCond .ne 6, 3), (22, .bipush (-13), 2), (24, .ireturn, 1), (25, .aload_n 0, 1), (26, .getfield 119, 3), (29, .iload_n 1, 1), (30, .iaload, 1), (31, .ifCond .ne 6, 3), (34, .bipush (-9), 2), (36, .ireturn, 1), (37, .iconst 0, 1), (38, .istore_n 3, 1), (39, .iload_n 3, 1), (40, .iload_n 2, 1), (41, .if_icmp .ge 21, 3), (44, .aload_n 0, 1), (45, .getfield 128, 3), (48, .iload_n 3, 1), (49, .aload_n 0, 1), (50, .getfield 7, 3), (53, .iload_n 3, 1), (54, .baload, 1), (55, .bastore, 1), (56, .iinc 3 1, 3), (59, .goto (-20), 3), (62, .aload_n 0, 1), (63, .getfield 119, 3), (66, .iload_n 1, 1), (67, .iaload, 1), (68, .iconst 2, 1), (69, .if_icmp .ne 16, 3), (72, .aload_n 0, 1), (73, .aload_n 0, 1), (74, .getfield 113, 3), (77, .iload_n 1, 1), (78, .iaload, 1), (79, .invokevirtual 344, 3), (82, .goto 9, 3), (85, .aload_n 0, 1), (86, .getfield 116, 3), (89, .iload_n 1, 1), (90, .iaload, 1), (91, .istore_n 3, 1), (92, .aload_n 0, 1), (93, .aload_n 0, 1), (94, .getfield 113, 3), (97, .iload_n 1, 1), (98, .iaload, 1), (99, .iload_n 3, 1), (100, .iload_n 2, 1), (101, .invokevirtual 480, 3), (104, .istore 4, 2), (106, .aload_n 0, 1), (107, .getfield 25, 3), (110, .ifCond .eq 17, 3), (113, .iload 4, 2), (115, .ifCond .le 12, 3), (118, .aload_n 0, 1), (119, .getfield 116, 3), (122, .iload_n 1, 1), (123, .iload_n 3, 1), (124, .iload_n 2, 1), (125, .iadd, 1), (126, .iastore, 1), (127, .iload 4, 2), (129, .ireturn, 1)]
theorem tv_X12_put : Tv cX12_put tb_X12_put := by
  unfold Tv
  decide +kernel
set_option maxRecDepth 100000 in
set_option maxHeartbeats 4000000 in
theorem u_X12_put (E : gE) (f : Nat → va_E) (R : RfT) (n : Nat) (hn : n ≤ 1024) (hwn : rS R 33 = nI n) (hwb : ∀ k, k < n → ∃ t, t < 1024 ∧ rA R 30 k = nI t) (hm : rS R 21 = 0) (hE : 94 ≤ gN E) (r : RfV E f R) (a0 : Int32) : Ct E 3 yX12_put cX12_put 5 (some .int) [.ref (gAd E (56)), .int (a0)] f (fun v g => v = some (.int 0) ∧ RfV E g (rNm (setS R 5 0) n) ∧ Fr RfK f g, fun _ _ => False) := by
  refine Ct.of (by decide) (Nat.le_of_ble_eq_true rfl) (fun sz => ?_)
  refine G.eql [(0, .ref (gAd E (56))), (1, .int (a0))] rfl ?_
  refine G.go tv_X12_put 1 1 [(0, .ref (gAd E (56))), (1, .int (a0))] [.ref (gAd E (56))] rfl ?_
  refine G.callV (56) [] [] (c_X12_useTape E _ (R) hE r) cls_X12 (by omega) (r.o) cw_X12_418 w_2480 w_99 (Nat.le_of_ble_eq_true rfl) rfl (Nat.le_of_ble_eq_true rfl) (tbd tv_X12_put rfl) (fun v1 f1 q1 => ?_) (fun _ _ h => h.elim)
  obtain ⟨rfl, ra1, fa1⟩ := q1
  refine G.eqs [.int (rS R 5)] rfl ?_
  refine G.go tv_X12_put 2 6 [(0, .ref (gAd E (56))), (1, .int (a0)), (2, .int (rS R 5))] [.ref (gAd E (56))] rfl ?_
  refine G.callV (56) [] [] (c_X12_notMounted E _ (setS (R) 5 0) n hn hwn hwb hE ra1) cls_X12 (by omega) (ra1.o) cw_X12_403 w_2464 w_96 (Nat.le_of_ble_eq_true rfl) rfl (Nat.le_of_ble_eq_true rfl) (tbd tv_X12_put rfl) (fun v2 f2 q2 => ?_) (fun _ _ h => h.elim)
  obtain ⟨rfl, ra2, fa2⟩ := q2
  refine G.eqs [.int (if rS (setS (R) 5 0) 21 = 0 then 1 else 0)] rfl ?_
  refine G.eqs [.int ((1 : Int32))] (by rw [show rS (setS (R) 5 0) 21 = rS R 21 from rfl, if_pos hm]) ?_
  refine G.if_eq 14 (tbd tv_X12_put rfl) (by decide) (fun c9 => absurd c9 (by decide)) (fun c9 => ?_)
  refine G.go tv_X12_put 1 13 [(0, .ref (gAd E (56))), (1, .int (a0)), (2, .int (rS R 5))] [.int ((0 : Int32))] rfl ?_
  exact G.iret rfl rfl (⟨rfl, ra2, (fa1).tr fa2 (fun _ h => h)⟩) (tbd tv_X12_put rfl)
def tb_X12_get : List (Nat × Instr × Nat) := [(0, .aload_n 0, 1), (1, .invokevirtual 403, 3), (4, .ifCond .eq 5, 3), (7, .iconst 0, 1), (8, .ireturn, 1), (9, .aload_n 0, 1), (10, .iload_n 1, 1), (11, .invokevirtual 502, 3), (14, .ifCond .ne 6, 3), (17, .bipush (-13), 2), (19, .ireturn, 1), (20, .aload_n 0, 1), (21, .getfield 116, 3), (24, .iload_n 1, 1), (25, .iaload, 1), (26, .istore_n 2, 1), (27, .iload_n 2, 1), (28, .aload_n 0, 1), (29, .aload_n 0, 1), (30, .getfield 113, 3), (33, .iload_n 1, 1), (34, .iaload, 1), (35, .invokevirtual 344, 3), (38, .if_icmp .lt 5, 3), (41, .iconst (-1), 1), (42, .ireturn, 1), (43, .aload_n 0, 1), (44, .getfield 116, 3), (47, .iload_n 1, 1), (48, .dup2, 1), (49, .iaload, 1), (50, .iconst 1, 1), (51, .iadd, 1), (52, .iastore, 1), (53, .aload_n 0, 1), (54, .aload_n 0, 1), (55, .getfield 113, 3), (58, .iload_n 1, 1), (59, .iaload, 1), (60, .iload_n 2, 1), (61, .sipush 128, 3), (64, .idiv, 1), (65, .invokevirtual 323, 3), (68, .istore_n 3, 1), (69, .iload_n 3, 1), (70, .ifCond .ne 7, 3), (73, .iconst 0, 1), (74, .goto 14, 3), (77, .aload_n 0, 1), (78, .iload_n 3, 1), (79, .iload_n 2, 1), (80, .sipush 128, 3), (83, .irem, 1), (84, .iconst 1, 1), (85, .invokevirtual 295, 3), (88, .ireturn, 1)]
theorem tv_X12_get : Tv cX12_get tb_X12_get := by
  unfold Tv
  decide +kernel
set_option maxRecDepth 100000 in
set_option maxHeartbeats 4000000 in
theorem u_X12_get (E : gE) (f : Nat → va_E) (R : RfT) (n : Nat) (hn : n ≤ 1024) (hwn : rS R 33 = nI n) (hwb : ∀ k, k < n → ∃ t, t < 1024 ∧ rA R 30 k = nI t) (hm : rS R 21 = 0) (hE : 94 ≤ gN E) (r : RfV E f R) (a0 : Int32) : Ct E 3 yX12_get cX12_get 4 (some .int) [.ref (gAd E (56)), .int (a0)] f (fun v g => v = some (.int 0) ∧ RfV E g (rNm (R) n) ∧ Fr RfK f g, fun _ _ => False) := by
  refine Ct.of (by decide) (Nat.le_of_ble_eq_true rfl) (fun sz => ?_)
  refine G.eql [(0, .ref (gAd E (56))), (1, .int (a0))] rfl ?_
  refine G.go tv_X12_get 1 1 [(0, .ref (gAd E (56))), (1, .int (a0))] [.ref (gAd E (56))] rfl ?_
  refine G.callV (56) [] [] (c_X12_notMounted E _ (R) n hn hwn hwb hE r) cls_X12 (by omega) (r.o) cw_X12_403 w_2464 w_96 (Nat.le_of_ble_eq_true rfl) rfl (Nat.le_of_ble_eq_true rfl) (tbd tv_X12_get rfl) (fun v1 f1 q1 => ?_) (fun _ _ h => h.elim)
  obtain ⟨rfl, ra1, fa1⟩ := q1
  refine G.eqs [.int (if rS R 21 = 0 then 1 else 0)] rfl ?_
  refine G.eqs [.int ((1 : Int32))] (by rw [show rS R 21 = rS R 21 from rfl, if_pos hm]) ?_
  refine G.if_eq 9 (tbd tv_X12_get rfl) (by decide) (fun c4 => absurd c4 (by decide)) (fun c4 => ?_)
  refine G.go tv_X12_get 1 8 [(0, .ref (gAd E (56))), (1, .int (a0))] [.int ((0 : Int32))] rfl ?_
  exact G.iret rfl rfl (⟨rfl, ra1, fa1⟩) (tbd tv_X12_get rfl)
def tb_X12_seek : List (Nat × Instr × Nat) := [(0, .aload_n 0, 1), (1, .invokevirtual 403, 3), (4, .ifCond .eq 5, 3), (7, .iconst 0, 1), (8, .ireturn, 1), (9, .aload_n 0, 1), (10, .iload_n 1, 1), (11, .invokevirtual 502, 3), (14, .ifCond .ne 6, 3), (17, .bipush (-13), 2), (19, .ireturn, 1), (20, .iload_n 2, 1), (21, .ifCond .lt 10, 3), (24, .iload_n 2, 1), (25, .ldc_w 483, 3), (28, .if_icmp .le 6, 3), (31, .bipush (-10), 2), (33, .ireturn, 1), (34, .aload_n 0, 1), (35, .getfield 116, 3), (38, .iload_n 1, 1), (39, .iaload, 1), (40, .istore_n 3, 1), (41, .aload_n 0, 1), (42, .getfield 116, 3), (45, .iload_n 1, 1), (46, .iload_n 2, 1), (47, .iastore, 1), (48, .iload_n 3, 1), (49, .ireturn, 1)]
theorem tv_X12_seek : Tv cX12_seek tb_X12_seek := by
  unfold Tv
  decide +kernel
set_option maxRecDepth 100000 in
set_option maxHeartbeats 4000000 in
theorem u_X12_seek (E : gE) (f : Nat → va_E) (R : RfT) (n : Nat) (hn : n ≤ 1024) (hwn : rS R 33 = nI n) (hwb : ∀ k, k < n → ∃ t, t < 1024 ∧ rA R 30 k = nI t) (hm : rS R 21 = 0) (hE : 94 ≤ gN E) (r : RfV E f R) (a0 : Int32) (a1 : Int32) : Ct E 3 yX12_seek cX12_seek 4 (some .int) [.ref (gAd E (56)), .int (a0), .int (a1)] f (fun v g => v = some (.int 0) ∧ RfV E g (rNm (R) n) ∧ Fr RfK f g, fun _ _ => False) := by
  refine Ct.of (by decide) (Nat.le_of_ble_eq_true rfl) (fun sz => ?_)
  refine G.eql [(0, .ref (gAd E (56))), (1, .int (a0)), (2, .int (a1))] rfl ?_
  refine G.go tv_X12_seek 1 1 [(0, .ref (gAd E (56))), (1, .int (a0)), (2, .int (a1))] [.ref (gAd E (56))] rfl ?_
  refine G.callV (56) [] [] (c_X12_notMounted E _ (R) n hn hwn hwb hE r) cls_X12 (by omega) (r.o) cw_X12_403 w_2464 w_96 (Nat.le_of_ble_eq_true rfl) rfl (Nat.le_of_ble_eq_true rfl) (tbd tv_X12_seek rfl) (fun v1 f1 q1 => ?_) (fun _ _ h => h.elim)
  obtain ⟨rfl, ra1, fa1⟩ := q1
  refine G.eqs [.int (if rS R 21 = 0 then 1 else 0)] rfl ?_
  refine G.eqs [.int ((1 : Int32))] (by rw [show rS R 21 = rS R 21 from rfl, if_pos hm]) ?_
  refine G.if_eq 9 (tbd tv_X12_seek rfl) (by decide) (fun c4 => absurd c4 (by decide)) (fun c4 => ?_)
  refine G.go tv_X12_seek 1 8 [(0, .ref (gAd E (56))), (1, .int (a0)), (2, .int (a1))] [.int ((0 : Int32))] rfl ?_
  exact G.iret rfl rfl (⟨rfl, ra1, fa1⟩) (tbd tv_X12_seek rfl)
def tb_X12_look : List (Nat × Instr × Nat) := [(0, .aload_n 0, 1), (1, .invokevirtual 403, 3), (4, .ifCond .ne 25, 3), (7, .aload_n 0, 1), (8, .iload_n 2, 1), (9, .ifCond .lt 8, 3), (12, .iload_n 2, 1), (13, .iconst 2, 1), (14, .if_icmp .le 7, 3), (17, .iconst 1, 1), (18, .goto 4, 3), (21, .iconst 0, 1), (22, .iconst 2, 1), (23, .invokevirtual 385, 3), (26, .ifCond .eq 5, 3), (29, .iconst 0, 1), (30, .ireturn, 1), (31, .aload_n 0, 1), (32, .iload_n 1, 1), (33, .invokevirtual 502, 3), (36, .ifCond .ne 6, 3), (39, .bipush (-13), 2), (41, .ireturn, 1), (42, .iload_n 2, 1), (43, .ifCond .ne 12, 3), (46, .aload_n 0, 1), (47, .getfield 113, 3), (50, .iload_n 1, 1), (51, .iaload, 1), (52, .goto 23, 3), (55, .iload_n 2, 1), (56, .iconst 1, 1), (57, .if_icmp .ne 12, 3), (60, .aload_n 0, 1), (61, .getfield 116, 3), (64, .iload_n 1, 1), (65, .iaload, 1), (66, .goto 9, 3), (69, .aload_n 0, 1), (70, .getfield 119, 3), (73, .iload_n 1, 1), (74, .iaload, 1), (75, .ireturn, 1)]
theorem tv_X12_look : Tv cX12_look tb_X12_look := by
  unfold Tv
  decide +kernel
set_option maxRecDepth 100000 in
set_option maxHeartbeats 4000000 in
theorem u_X12_look (E : gE) (f : Nat → va_E) (R : RfT) (n : Nat) (hn : n ≤ 1024) (hwn : rS R 33 = nI n) (hwb : ∀ k, k < n → ∃ t, t < 1024 ∧ rA R 30 k = nI t) (hm : rS R 21 = 0) (hE : 94 ≤ gN E) (r : RfV E f R) (a0 : Int32) (a1 : Int32) : Ct E 3 yX12_look cX12_look 3 (some .int) [.ref (gAd E (56)), .int (a0), .int (a1)] f (fun v g => v = some (.int 0) ∧ RfV E g (rNm (R) n) ∧ Fr RfK f g, fun _ _ => False) := by
  refine Ct.of (by decide) (Nat.le_of_ble_eq_true rfl) (fun sz => ?_)
  refine G.eql [(0, .ref (gAd E (56))), (1, .int (a0)), (2, .int (a1))] rfl ?_
  refine G.go tv_X12_look 1 1 [(0, .ref (gAd E (56))), (1, .int (a0)), (2, .int (a1))] [.ref (gAd E (56))] rfl ?_
  refine G.callV (56) [] [] (c_X12_notMounted E _ (R) n hn hwn hwb hE r) cls_X12 (by omega) (r.o) cw_X12_403 w_2464 w_96 (Nat.le_of_ble_eq_true rfl) rfl (Nat.le_of_ble_eq_true rfl) (tbd tv_X12_look rfl) (fun v1 f1 q1 => ?_) (fun _ _ h => h.elim)
  obtain ⟨rfl, ra1, fa1⟩ := q1
  refine G.eqs [.int (if rS R 21 = 0 then 1 else 0)] rfl ?_
  refine G.eqs [.int ((1 : Int32))] (by rw [show rS R 21 = rS R 21 from rfl, if_pos hm]) ?_
  refine G.if_ne 29 (tbd tv_X12_look rfl) (by decide) (fun c4 => ?_) (fun c4 => absurd c4 (by decide))
  refine G.go tv_X12_look 1 30 [(0, .ref (gAd E (56))), (1, .int (a0)), (2, .int (a1))] [.int ((0 : Int32))] rfl ?_
  exact G.iret rfl rfl (⟨rfl, ra1, fa1⟩) (tbd tv_X12_look rfl)
def tb_X12_begin : List (Nat × Instr × Nat) := [(0, .aload_n 0, 1), (1, .invokevirtual 403, 3), (4, .ifCond .ne 10, 3), (7, .aload_n 0, 1), (8, .getfield 174, 3), (11, .ifCond .eq 5, 3), (14, .iconst 0, 1), (15, .ireturn, 1), (16, .aload_n 0, 1), (17, .iconst 1, 1), (18, .putfield 174, 3), (21, .iconst 1, 1), (22, .ireturn, 1)]
theorem tv_X12_begin : Tv cX12_begin tb_X12_begin := by
  unfold Tv
  decide +kernel
set_option maxRecDepth 100000 in
set_option maxHeartbeats 4000000 in
theorem u_X12_begin (E : gE) (f : Nat → va_E) (R : RfT) (n : Nat) (hn : n ≤ 1024) (hwn : rS R 33 = nI n) (hwb : ∀ k, k < n → ∃ t, t < 1024 ∧ rA R 30 k = nI t) (hm : rS R 21 = 0) (hE : 94 ≤ gN E) (r : RfV E f R) : Ct E 3 yX12_begin cX12_begin 1 (some .boolean) [.ref (gAd E (56))] f (fun v g => v = some (.int 0) ∧ RfV E g (rNm (R) n) ∧ Fr RfK f g, fun _ _ => False) := by
  refine Ct.of (by decide) (Nat.le_of_ble_eq_true rfl) (fun sz => ?_)
  refine G.eql [(0, .ref (gAd E (56)))] rfl ?_
  refine G.go tv_X12_begin 1 1 [(0, .ref (gAd E (56)))] [.ref (gAd E (56))] rfl ?_
  refine G.callV (56) [] [] (c_X12_notMounted E _ (R) n hn hwn hwb hE r) cls_X12 (by omega) (r.o) cw_X12_403 w_2464 w_96 (Nat.le_of_ble_eq_true rfl) rfl (Nat.le_of_ble_eq_true rfl) (tbd tv_X12_begin rfl) (fun v1 f1 q1 => ?_) (fun _ _ h => h.elim)
  obtain ⟨rfl, ra1, fa1⟩ := q1
  refine G.eqs [.int (if rS R 21 = 0 then 1 else 0)] rfl ?_
  refine G.eqs [.int ((1 : Int32))] (by rw [show rS R 21 = rS R 21 from rfl, if_pos hm]) ?_
  refine G.if_ne 14 (tbd tv_X12_begin rfl) (by decide) (fun c4 => ?_) (fun c4 => absurd c4 (by decide))
  refine G.go tv_X12_begin 1 15 [(0, .ref (gAd E (56)))] [.int ((0 : Int32))] rfl ?_
  exact G.iret rfl rfl (⟨rfl, ra1, fa1⟩) (tbd tv_X12_begin rfl)
def tb_X12_end : List (Nat × Instr × Nat) := [(0, .aload_n 0, 1), (1, .invokevirtual 403, 3), (4, .ifCond .eq 5, 3), (7, .iconst 0, 1), (8, .ireturn, 1), (9, .aload_n 0, 1), (10, .getfield 174, 3), (13, .ifCond .ne 6, 3), (16, .bipush (-9), 2), (18, .ireturn, 1), (19, .aload_n 0, 1), (20, .invokevirtual 463, 3), (23, .istore_n 1, 1), (24, .iload_n 1, 1), (25, .bipush 40, 2), (27, .if_icmp .le 14, 3), (30, .aload_n 0, 1), (31, .invokevirtual 406, 3), (34, .aload_n 0, 1), (35, .bipush (-12), 2), (37, .invokevirtual 389, 3), (40, .ireturn, 1), (41, .aload_n 0, 1), (42, .iconst 0, 1), (43, .putfield 174, 3), (46, .aload_n 0, 1), (47, .iload_n 1, 1), (48, .invokevirtual 436, 3), (51, .ireturn, 1)]
theorem tv_X12_end : Tv cX12_end tb_X12_end := by
  unfold Tv
  decide +kernel
set_option maxRecDepth 100000 in
set_option maxHeartbeats 4000000 in
theorem u_X12_end (E : gE) (f : Nat → va_E) (R : RfT) (n : Nat) (hn : n ≤ 1024) (hwn : rS R 33 = nI n) (hwb : ∀ k, k < n → ∃ t, t < 1024 ∧ rA R 30 k = nI t) (hm : rS R 21 = 0) (hE : 94 ≤ gN E) (r : RfV E f R) : Ct E 3 yX12_end cX12_end 2 (some .int) [.ref (gAd E (56))] f (fun v g => v = some (.int 0) ∧ RfV E g (rNm (R) n) ∧ Fr RfK f g, fun _ _ => False) := by
  refine Ct.of (by decide) (Nat.le_of_ble_eq_true rfl) (fun sz => ?_)
  refine G.eql [(0, .ref (gAd E (56)))] rfl ?_
  refine G.go tv_X12_end 1 1 [(0, .ref (gAd E (56)))] [.ref (gAd E (56))] rfl ?_
  refine G.callV (56) [] [] (c_X12_notMounted E _ (R) n hn hwn hwb hE r) cls_X12 (by omega) (r.o) cw_X12_403 w_2464 w_96 (Nat.le_of_ble_eq_true rfl) rfl (Nat.le_of_ble_eq_true rfl) (tbd tv_X12_end rfl) (fun v1 f1 q1 => ?_) (fun _ _ h => h.elim)
  obtain ⟨rfl, ra1, fa1⟩ := q1
  refine G.eqs [.int (if rS R 21 = 0 then 1 else 0)] rfl ?_
  refine G.eqs [.int ((1 : Int32))] (by rw [show rS R 21 = rS R 21 from rfl, if_pos hm]) ?_
  refine G.if_eq 9 (tbd tv_X12_end rfl) (by decide) (fun c4 => absurd c4 (by decide)) (fun c4 => ?_)
  refine G.go tv_X12_end 1 8 [(0, .ref (gAd E (56)))] [.int ((0 : Int32))] rfl ?_
  exact G.iret rfl rfl (⟨rfl, ra1, fa1⟩) (tbd tv_X12_end rfl)
def tb_X12_undo : List (Nat × Instr × Nat) := [(0, .aload_n 0, 1), (1, .invokevirtual 403, 3), (4, .ifCond .eq 5, 3), (7, .iconst 0, 1), (8, .ireturn, 1), (9, .aload_n 0, 1), (10, .getfield 174, 3), (13, .ifCond .ne 6, 3), (16, .bipush (-9), 2), (18, .ireturn, 1), (19, .aload_n 0, 1), (20, .invokevirtual 406, 3), (23, .aload_n 0, 1), (24, .iconst 0, 1), (25, .invokevirtual 389, 3), (28, .ireturn, 1)]
theorem tv_X12_undo : Tv cX12_undo tb_X12_undo := by
  unfold Tv
  decide +kernel
set_option maxRecDepth 100000 in
set_option maxHeartbeats 4000000 in
theorem u_X12_undo (E : gE) (f : Nat → va_E) (R : RfT) (n : Nat) (hn : n ≤ 1024) (hwn : rS R 33 = nI n) (hwb : ∀ k, k < n → ∃ t, t < 1024 ∧ rA R 30 k = nI t) (hm : rS R 21 = 0) (hE : 94 ≤ gN E) (r : RfV E f R) : Ct E 3 yX12_undo cX12_undo 1 (some .int) [.ref (gAd E (56))] f (fun v g => v = some (.int 0) ∧ RfV E g (rNm (R) n) ∧ Fr RfK f g, fun _ _ => False) := by
  refine Ct.of (by decide) (Nat.le_of_ble_eq_true rfl) (fun sz => ?_)
  refine G.eql [(0, .ref (gAd E (56)))] rfl ?_
  refine G.go tv_X12_undo 1 1 [(0, .ref (gAd E (56)))] [.ref (gAd E (56))] rfl ?_
  refine G.callV (56) [] [] (c_X12_notMounted E _ (R) n hn hwn hwb hE r) cls_X12 (by omega) (r.o) cw_X12_403 w_2464 w_96 (Nat.le_of_ble_eq_true rfl) rfl (Nat.le_of_ble_eq_true rfl) (tbd tv_X12_undo rfl) (fun v1 f1 q1 => ?_) (fun _ _ h => h.elim)
  obtain ⟨rfl, ra1, fa1⟩ := q1
  refine G.eqs [.int (if rS R 21 = 0 then 1 else 0)] rfl ?_
  refine G.eqs [.int ((1 : Int32))] (by rw [show rS R 21 = rS R 21 from rfl, if_pos hm]) ?_
  refine G.if_eq 9 (tbd tv_X12_undo rfl) (by decide) (fun c4 => absurd c4 (by decide)) (fun c4 => ?_)
  refine G.go tv_X12_undo 1 8 [(0, .ref (gAd E (56)))] [.int ((0 : Int32))] rfl ?_
  exact G.iret rfl rfl (⟨rfl, ra1, fa1⟩) (tbd tv_X12_undo rfl)
def tb_X12_flush : List (Nat × Instr × Nat) := [(0, .aload_n 0, 1), (1, .invokevirtual 403, 3), (4, .ifCond .eq 5, 3), (7, .iconst 0, 1), (8, .ireturn, 1), (9, .aload_n 0, 1), (10, .aload_n 0, 1), (11, .invokevirtual 288, 3), (14, .invokevirtual 389, 3), (17, .ireturn, 1)]
theorem tv_X12_flush : Tv cX12_flush tb_X12_flush := by
  unfold Tv
  decide +kernel
set_option maxRecDepth 100000 in
set_option maxHeartbeats 4000000 in
theorem u_X12_flush (E : gE) (f : Nat → va_E) (R : RfT) (n : Nat) (hn : n ≤ 1024) (hwn : rS R 33 = nI n) (hwb : ∀ k, k < n → ∃ t, t < 1024 ∧ rA R 30 k = nI t) (hm : rS R 21 = 0) (hE : 94 ≤ gN E) (r : RfV E f R) : Ct E 3 yX12_flush cX12_flush 1 (some .int) [.ref (gAd E (56))] f (fun v g => v = some (.int 0) ∧ RfV E g (rNm (R) n) ∧ Fr RfK f g, fun _ _ => False) := by
  refine Ct.of (by decide) (Nat.le_of_ble_eq_true rfl) (fun sz => ?_)
  refine G.eql [(0, .ref (gAd E (56)))] rfl ?_
  refine G.go tv_X12_flush 1 1 [(0, .ref (gAd E (56)))] [.ref (gAd E (56))] rfl ?_
  refine G.callV (56) [] [] (c_X12_notMounted E _ (R) n hn hwn hwb hE r) cls_X12 (by omega) (r.o) cw_X12_403 w_2464 w_96 (Nat.le_of_ble_eq_true rfl) rfl (Nat.le_of_ble_eq_true rfl) (tbd tv_X12_flush rfl) (fun v1 f1 q1 => ?_) (fun _ _ h => h.elim)
  obtain ⟨rfl, ra1, fa1⟩ := q1
  refine G.eqs [.int (if rS R 21 = 0 then 1 else 0)] rfl ?_
  refine G.eqs [.int ((1 : Int32))] (by rw [show rS R 21 = rS R 21 from rfl, if_pos hm]) ?_
  refine G.if_eq 9 (tbd tv_X12_flush rfl) (by decide) (fun c4 => absurd c4 (by decide)) (fun c4 => ?_)
  refine G.go tv_X12_flush 1 8 [(0, .ref (gAd E (56)))] [.int ((0 : Int32))] rfl ?_
  exact G.iret rfl rfl (⟨rfl, ra1, fa1⟩) (tbd tv_X12_flush rfl)
def tb_X12_sync : List (Nat × Instr × Nat) := [(0, .aload_n 0, 1), (1, .invokevirtual 403, 3), (4, .ifCond .eq 5, 3), (7, .iconst 0, 1), (8, .ireturn, 1), (9, .aload_n 0, 1), (10, .iload_n 1, 1), (11, .invokevirtual 326, 3), (14, .istore_n 2, 1), (15, .iload_n 2, 1), (16, .iconst 1, 1), (17, .if_icmp .eq 15, 3), (20, .iload_n 2, 1), (21, .ifCond .ne 8, 3), (24, .bipush (-11), 2), (26, .goto 5, 3), (29, .bipush (-4), 2), (31, .ireturn, 1), (32, .aload_n 0, 1), (33, .iload_n 1, 1), (34, .invokevirtual 344, 3), (37, .sipush 128, 3), (40, .iadd, 1), (41, .iconst 1, 1), (42, .isub, 1), (43, .sipush 128, 3), (46, .idiv, 1), (47, .istore_n 3, 1), (48, .iconst 0, 1), (49, .istore 4, 2), (51, .iload 4, 2), (53, .iload_n 3, 1), (54, .if_icmp .ge 22, 3), (57, .aload_n 0, 1), (58, .getfield 101, 3), (61, .aload_n 0, 1), (62, .iload_n 1, 1), (63, .iload 4, 2), (65, .invokevirtual 323, 3), (68, .iconst 1, 1), (69, .bastore, 1), (70, .iinc 4 1, 3), (73, .goto (-22), 3), (76, .aload_n 0, 1), (77, .getfield 101, 3), (80, .iconst 0, 1), (81, .iconst 0, 1), (82, .bastore, 1), (83, .iconst 0, 1), (84, .istore 4, 2), (86, .iconst 0, 1), (87, .istore 5, 2), (89, .iload 5, 2), (91, .sipush 1024, 3), (94, .if_icmp .ge 76, 3), (97, .aload_n 0, 1), (98, .getfield 25, 3), (101, .ifCond .eq 69, 3), (104, .aload_n 0, 1), (105, .getfield 101, 3), (108, .iload 5, 2), (110, .baload, 1), (111, .ifCond .eq 12, 3), (114, .aload_n 0, 1), (115, .iload 5, 2), (117, .invokevirtual 197, 3), (120, .goto 4, 3), (123, .iconst (-1), 1), (124, .istore 6, 2), (126, .iload 6, 2), (128, .iconst (-1), 1), (129, .if_icmp .eq 35, 3), (132, .aload_n 0, 1), (133, .iload 5, 2), (135, .aload_n 0, 1), (136, .getfield 40, 3), (139, .sipush 128, 3), (142, .iload 6, 2), (144, .imul, 1), (145, .invokevirtual 201, 3), (148, .aload_n 0, 1), (149, .getfield 25, 3), (152, .ifCond .eq 12, 3), (155, .aload_n 0, 1), (156, .iload 6, 2), (158, .invokevirtual 208, 3), (161, .iinc 4 1, 3), (164, .iinc 5 1, 3), (167, .goto (-78), 3), (170, .aload_n 0, 1), (171, .getfield 25, 3), (174, .ifCond .eq 7, 3), (177, .aload_n 0, 1), (178, .invokevirtual 219, 3), (181, .aload_n 0, 1), (182, .iload 4, 2), (184, .invokevirtual 389, 3), (187, .ireturn, 1)]
theorem tv_X12_sync : Tv cX12_sync tb_X12_sync := by
  unfold Tv
  decide +kernel
set_option maxRecDepth 100000 in
set_option maxHeartbeats 4000000 in
theorem u_X12_sync (E : gE) (f : Nat → va_E) (R : RfT) (n : Nat) (hn : n ≤ 1024) (hwn : rS R 33 = nI n) (hwb : ∀ k, k < n → ∃ t, t < 1024 ∧ rA R 30 k = nI t) (hm : rS R 21 = 0) (hE : 94 ≤ gN E) (r : RfV E f R) (a0 : Int32) : Ct E 3 yX12_sync cX12_sync 7 (some .int) [.ref (gAd E (56)), .int (a0)] f (fun v g => v = some (.int 0) ∧ RfV E g (rNm (R) n) ∧ Fr RfK f g, fun _ _ => False) := by
  refine Ct.of (by decide) (Nat.le_of_ble_eq_true rfl) (fun sz => ?_)
  refine G.eql [(0, .ref (gAd E (56))), (1, .int (a0))] rfl ?_
  refine G.go tv_X12_sync 1 1 [(0, .ref (gAd E (56))), (1, .int (a0))] [.ref (gAd E (56))] rfl ?_
  refine G.callV (56) [] [] (c_X12_notMounted E _ (R) n hn hwn hwb hE r) cls_X12 (by omega) (r.o) cw_X12_403 w_2464 w_96 (Nat.le_of_ble_eq_true rfl) rfl (Nat.le_of_ble_eq_true rfl) (tbd tv_X12_sync rfl) (fun v1 f1 q1 => ?_) (fun _ _ h => h.elim)
  obtain ⟨rfl, ra1, fa1⟩ := q1
  refine G.eqs [.int (if rS R 21 = 0 then 1 else 0)] rfl ?_
  refine G.eqs [.int ((1 : Int32))] (by rw [show rS R 21 = rS R 21 from rfl, if_pos hm]) ?_
  refine G.if_eq 9 (tbd tv_X12_sync rfl) (by decide) (fun c4 => absurd c4 (by decide)) (fun c4 => ?_)
  refine G.go tv_X12_sync 1 8 [(0, .ref (gAd E (56))), (1, .int (a0))] [.int ((0 : Int32))] rfl ?_
  exact G.iret rfl rfl (⟨rfl, ra1, fa1⟩) (tbd tv_X12_sync rfl)
def tb_X12_apply : List (Nat × Instr × Nat) := [(0, .aload_n 0, 1), (1, .invokevirtual 403, 3), (4, .ifCond .eq 5, 3), (7, .iconst 0, 1), (8, .ireturn, 1), (9, .aload_n 0, 1), (10, .invokevirtual 288, 3), (13, .pop, 1), (14, .aload_n 0, 1), (15, .getfield 162, 3), (18, .istore_n 1, 1), (19, .aload_n 0, 1), (20, .invokevirtual 268, 3), (23, .aload_n 0, 1), (24, .iload_n 1, 1), (25, .invokevirtual 389, 3), (28, .ireturn, 1)]
theorem tv_X12_apply : Tv cX12_apply tb_X12_apply := by
  unfold Tv
  decide +kernel
set_option maxRecDepth 100000 in
set_option maxHeartbeats 4000000 in
theorem u_X12_apply (E : gE) (f : Nat → va_E) (R : RfT) (n : Nat) (hn : n ≤ 1024) (hwn : rS R 33 = nI n) (hwb : ∀ k, k < n → ∃ t, t < 1024 ∧ rA R 30 k = nI t) (hm : rS R 21 = 0) (hE : 94 ≤ gN E) (r : RfV E f R) : Ct E 3 yX12_apply cX12_apply 2 (some .int) [.ref (gAd E (56))] f (fun v g => v = some (.int 0) ∧ RfV E g (rNm (R) n) ∧ Fr RfK f g, fun _ _ => False) := by
  refine Ct.of (by decide) (Nat.le_of_ble_eq_true rfl) (fun sz => ?_)
  refine G.eql [(0, .ref (gAd E (56)))] rfl ?_
  refine G.go tv_X12_apply 1 1 [(0, .ref (gAd E (56)))] [.ref (gAd E (56))] rfl ?_
  refine G.callV (56) [] [] (c_X12_notMounted E _ (R) n hn hwn hwb hE r) cls_X12 (by omega) (r.o) cw_X12_403 w_2464 w_96 (Nat.le_of_ble_eq_true rfl) rfl (Nat.le_of_ble_eq_true rfl) (tbd tv_X12_apply rfl) (fun v1 f1 q1 => ?_) (fun _ _ h => h.elim)
  obtain ⟨rfl, ra1, fa1⟩ := q1
  refine G.eqs [.int (if rS R 21 = 0 then 1 else 0)] rfl ?_
  refine G.eqs [.int ((1 : Int32))] (by rw [show rS R 21 = rS R 21 from rfl, if_pos hm]) ?_
  refine G.if_eq 9 (tbd tv_X12_apply rfl) (by decide) (fun c4 => absurd c4 (by decide)) (fun c4 => ?_)
  refine G.go tv_X12_apply 1 8 [(0, .ref (gAd E (56)))] [.int ((0 : Int32))] rfl ?_
  exact G.iret rfl rfl (⟨rfl, ra1, fa1⟩) (tbd tv_X12_apply rfl)
def tb_X12_seen : List (Nat × Instr × Nat) := [(0, .aload_n 0, 1), (1, .invokevirtual 403, 3), (4, .ifCond .ne 25, 3), (7, .aload_n 0, 1), (8, .aload_n 0, 1), (9, .iload_n 1, 1), (10, .iload_n 2, 1), (11, .invokevirtual 512, 3), (14, .ifCond .ne 7, 3), (17, .iconst 1, 1), (18, .goto 4, 3), (21, .iconst 0, 1), (22, .iconst 2, 1), (23, .invokevirtual 385, 3), (26, .ifCond .eq 5, 3), (29, .iconst 0, 1), (30, .ireturn, 1), (31, .aload_n 0, 1), (32, .iload_n 1, 1), (33, .iload_n 2, 1), (34, .iconst 1, 1), (35, .invokevirtual 295, 3), (38, .ireturn, 1)]
theorem tv_X12_seen : Tv cX12_seen tb_X12_seen := by
  unfold Tv
  decide +kernel
set_option maxRecDepth 100000 in
set_option maxHeartbeats 4000000 in
theorem u_X12_seen (E : gE) (f : Nat → va_E) (R : RfT) (n : Nat) (hn : n ≤ 1024) (hwn : rS R 33 = nI n) (hwb : ∀ k, k < n → ∃ t, t < 1024 ∧ rA R 30 k = nI t) (hm : rS R 21 = 0) (hE : 94 ≤ gN E) (r : RfV E f R) (a0 : Int32) (a1 : Int32) : Ct E 3 yX12_seen cX12_seen 3 (some .int) [.ref (gAd E (56)), .int (a0), .int (a1)] f (fun v g => v = some (.int 0) ∧ RfV E g (rNm (R) n) ∧ Fr RfK f g, fun _ _ => False) := by
  refine Ct.of (by decide) (Nat.le_of_ble_eq_true rfl) (fun sz => ?_)
  refine G.eql [(0, .ref (gAd E (56))), (1, .int (a0)), (2, .int (a1))] rfl ?_
  refine G.go tv_X12_seen 1 1 [(0, .ref (gAd E (56))), (1, .int (a0)), (2, .int (a1))] [.ref (gAd E (56))] rfl ?_
  refine G.callV (56) [] [] (c_X12_notMounted E _ (R) n hn hwn hwb hE r) cls_X12 (by omega) (r.o) cw_X12_403 w_2464 w_96 (Nat.le_of_ble_eq_true rfl) rfl (Nat.le_of_ble_eq_true rfl) (tbd tv_X12_seen rfl) (fun v1 f1 q1 => ?_) (fun _ _ h => h.elim)
  obtain ⟨rfl, ra1, fa1⟩ := q1
  refine G.eqs [.int (if rS R 21 = 0 then 1 else 0)] rfl ?_
  refine G.eqs [.int ((1 : Int32))] (by rw [show rS R 21 = rS R 21 from rfl, if_pos hm]) ?_
  refine G.if_ne 29 (tbd tv_X12_seen rfl) (by decide) (fun c4 => ?_) (fun c4 => absurd c4 (by decide))
  refine G.go tv_X12_seen 1 30 [(0, .ref (gAd E (56))), (1, .int (a0)), (2, .int (a1))] [.int ((0 : Int32))] rfl ?_
  exact G.iret rfl rfl (⟨rfl, ra1, fa1⟩) (tbd tv_X12_seen rfl)
def tb_X12_tree : List (Nat × Instr × Nat) := [(0, .aload_n 0, 1), (1, .invokevirtual 403, 3), (4, .ifCond .eq 5, 3), (7, .lconst 0, 1), (8, .lreturn, 1), (9, .aload_n 0, 1), (10, .ldc2_w 529, 3), (13, .putfield 516, 3), (16, .aload_n 0, 1), (17, .iload_n 1, 1), (18, .invokevirtual 531, 3), (21, .aload_n 0, 1), (22, .getfield 516, 3), (25, .lreturn, 1)]
theorem tv_X12_tree : Tv cX12_tree tb_X12_tree := by
  unfold Tv
  decide +kernel
set_option maxRecDepth 100000 in
set_option maxHeartbeats 4000000 in
theorem u_X12_tree (E : gE) (f : Nat → va_E) (R : RfT) (n : Nat) (hn : n ≤ 1024) (hwn : rS R 33 = nI n) (hwb : ∀ k, k < n → ∃ t, t < 1024 ∧ rA R 30 k = nI t) (hm : rS R 21 = 0) (hE : 94 ≤ gN E) (r : RfV E f R) (a0 : Int32) : Ct E 3 yX12_tree cX12_tree 2 (some .long) [.ref (gAd E (56)), .int (a0)] f (fun v g => v = some (.long 0) ∧ RfV E g (rNm (R) n) ∧ Fr RfK f g, fun _ _ => False) := by
  refine Ct.of (by decide) (Nat.le_of_ble_eq_true rfl) (fun sz => ?_)
  refine G.eql [(0, .ref (gAd E (56))), (1, .int (a0))] rfl ?_
  refine G.go tv_X12_tree 1 1 [(0, .ref (gAd E (56))), (1, .int (a0))] [.ref (gAd E (56))] rfl ?_
  refine G.callV (56) [] [] (c_X12_notMounted E _ (R) n hn hwn hwb hE r) cls_X12 (by omega) (r.o) cw_X12_403 w_2464 w_96 (Nat.le_of_ble_eq_true rfl) rfl (Nat.le_of_ble_eq_true rfl) (tbd tv_X12_tree rfl) (fun v1 f1 q1 => ?_) (fun _ _ h => h.elim)
  obtain ⟨rfl, ra1, fa1⟩ := q1
  refine G.eqs [.int (if rS R 21 = 0 then 1 else 0)] rfl ?_
  refine G.eqs [.int ((1 : Int32))] (by rw [show rS R 21 = rS R 21 from rfl, if_pos hm]) ?_
  refine G.if_eq 9 (tbd tv_X12_tree rfl) (by decide) (fun c4 => absurd c4 (by decide)) (fun c4 => ?_)
  refine G.go tv_X12_tree 1 8 [(0, .ref (gAd E (56))), (1, .int (a0))] [.long ((0 : Int64))] rfl ?_
  exact G.lret rfl (⟨rfl, ra1, fa1⟩) (tbd tv_X12_tree rfl)
def tb_X12_check : List (Nat × Instr × Nat) := [(0, .aload_n 0, 1), (1, .invokevirtual 403, 3), (4, .istore_n 1, 1), (5, .iconst 0, 1), (6, .ireturn, 1)]
theorem tv_X12_check : Tv cX12_check tb_X12_check := by
  unfold Tv
  decide +kernel
set_option maxRecDepth 100000 in
set_option maxHeartbeats 4000000 in
theorem u_X12_check (E : gE) (f : Nat → va_E) (R : RfT) (n : Nat) (hn : n ≤ 1024) (hwn : rS R 33 = nI n) (hwb : ∀ k, k < n → ∃ t, t < 1024 ∧ rA R 30 k = nI t) (hm : rS R 21 = 0) (hE : 94 ≤ gN E) (r : RfV E f R) : Ct E 3 yX12_check cX12_check 2 (some .int) [.ref (gAd E (56))] f (fun v g => v = some (.int 0) ∧ RfV E g (rNm (R) n) ∧ Fr RfK f g, fun _ _ => False) := by
  refine Ct.of (by decide) (Nat.le_of_ble_eq_true rfl) (fun sz => ?_)
  refine G.eql [(0, .ref (gAd E (56)))] rfl ?_
  refine G.go tv_X12_check 1 1 [(0, .ref (gAd E (56)))] [.ref (gAd E (56))] rfl ?_
  refine G.callV (56) [] [] (c_X12_notMounted E _ (R) n hn hwn hwb hE r) cls_X12 (by omega) (r.o) cw_X12_403 w_2464 w_96 (Nat.le_of_ble_eq_true rfl) rfl (Nat.le_of_ble_eq_true rfl) (tbd tv_X12_check rfl) (fun v1 f1 q1 => ?_) (fun _ _ h => h.elim)
  obtain ⟨rfl, ra1, fa1⟩ := q1
  refine G.eqs [.int (if rS R 21 = 0 then 1 else 0)] rfl ?_
  refine G.eqs [.int ((1 : Int32))] (by rw [show rS R 21 = rS R 21 from rfl, if_pos hm]) ?_
  refine G.go tv_X12_check 2 6 [(0, .ref (gAd E (56))), (1, .int ((1 : Int32)))] [.int ((0 : Int32))] rfl ?_
  exact G.iret rfl rfl (⟨rfl, ra1, fa1⟩) (tbd tv_X12_check rfl)
