def tb_X11_unmount : List (Nat × Instr × Nat) := [(0, .aload_n 0, 1), (1, .invokevirtual 221, 3), (4, .aload_n 0, 1), (5, .getfield 87, 3), (8, .getfield 224, 3), (11, .ifCond .eq 12, 3), (14, .aload_n 0, 1), (15, .invokevirtual 227, 3), (18, .aload_n 0, 1), (19, .iconst 0, 1), (20, .invokevirtual 217, 3), (23, .aload_n 0, 1), (24, .iconst 1, 1), (25, .invokevirtual 217, 3), (28, .aload_n 0, 1), (29, .getfield 78, 3), (32, .invokevirtual 230, 3), (35, .pop, 1), (36, .aload_n 0, 1), (37, .getfield 65, 3), (40, .invokevirtual 214, 3), (43, .aload_n 0, 1), (44, .getfield 56, 3), (47, .invokevirtual 172, 3), (50, .aload_n 0, 1), (51, .iconst 0, 1), (52, .putfield 140, 3), (55, .return_, 1)]
theorem tv_X11_unmount : Tv cX11_unmount tb_X11_unmount := by
  unfold Tv
  decide +kernel
theorem w_1318 : Cond.methodLink "LedgerFiles" 221 yX11_needMounted ∈ TB := tp_5 212 (by decide +kernel) rfl
theorem w_1321 : Cond.code yX11_needMounted prog_1_method_6_code 1 none ∈ TB := tp_5 215 rfl rfl
theorem cw_X11_221 : Cw RX11 221 yX11_needMounted cX11_needMounted 1 none 0 := ⟨w_1318, w_1321, w_147, by decide +kernel, by decide +kernel, by decide⟩
theorem w_1320 : Cond.instanceMethod yX11_needMounted ∈ TB := tp_5 214 (by decide +kernel) rfl
theorem w_27 : Cond.selects "LedgerFiles" yX11_needMounted yX11_needMounted ∈ TB := tp_0 27 (by decide +kernel) rfl
set_option maxRecDepth 100000 in
set_option maxHeartbeats 4000000 in
theorem u_X11_unmount (E : gE) (f : Nat → va_E) (tp : Nat → Int32) (fd : Nat) (mo : Int32) (hE : 350 ≤ gN E) (hm : MnV E f tp fd mo) (hfd : fd ≤ 1024) (N : Nat) (d : DkT) (on le wr ss : Int32) (hE1 : 350 + N ≤ gN E) (hN : N ≤ 1024) (hdv : DkV E f N d on le wr ss) (hdo : dOk N d) (hun : ¬ (¬ mo = 0 ∧ ¬ on = 0)) : Ct E 7 yX11_unmount cX11_unmount 1 none [.ref (gAd E (0))] f (fun _ _ => False, fun X g => X = "java/lang/IllegalStateException" ∧ MnV E g tp fd mo ∧ Fr MnK f g) := by
  obtain ⟨m0, m1⟩ := id hm
  refine Ct.of (by decide) (Nat.le_of_ble_eq_true rfl) (fun sz => ?_)
  refine G.eql [(0, .ref (gAd E (0)))] rfl ?_
  refine G.go tv_X11_unmount 1 1 [(0, .ref (gAd E (0)))] [.ref (gAd E (0))] rfl ?_
  refine G.callV (0) [] [] (c_X11_needMounted E f tp fd mo hE hm (by omega) N d on le wr ss hE1 hN hdv hdo) cls_X11 (by omega) (m0) cw_X11_221 w_1320 w_27 (Nat.le_of_ble_eq_true rfl) rfl (Nat.le_of_ble_eq_true rfl) (tbd tv_X11_unmount rfl) (fun v1 f1 q1 => ?_) (fun X g q => ⟨q.1, by rw [← q.2.1]; exact ⟨hm, Fr.rf⟩⟩)
  obtain ⟨-, -, q1, q2⟩ := q1
  exact absurd ⟨q1, q2⟩ hun
def tb_X11_make : List (Nat × Instr × Nat) := [(0, .aload_n 0, 1), (1, .invokevirtual 272, 3), (4, .istore_n 2, 1), (5, .aload_n 0, 1), (6, .invokevirtual 221, 3), (9, .aload_n 0, 1), (10, .getfield 16, 3), (13, .aload_n 0, 1), (14, .getfield 9, 3), (17, .iconst 0, 1), (18, .iload_n 2, 1), (19, .invokevirtual 259, 3), (22, .ifCond .ne 6, 3), (25, .bipush (-6), 2), (27, .ireturn, 1), (28, .aload_n 0, 1), (29, .getfield 16, 3), (32, .getfield 275, 3), (35, .ifCond .ne 6, 3), (38, .bipush (-2), 2), (40, .ireturn, 1), (41, .aload_n 0, 1), (42, .getfield 112, 3), (45, .aload_n 0, 1), (46, .getfield 16, 3), (49, .aload_n 0, 1), (50, .getfield 16, 3), (53, .getfield 275, 3), (56, .iconst 1, 1), (57, .isub, 1), (58, .invokevirtual 278, 3), (61, .istore_n 3, 1), (62, .iload_n 3, 1), (63, .ifCond .ge 5, 3), (66, .iload_n 3, 1), (67, .ireturn, 1), (68, .aload_n 0, 1), (69, .getfield 112, 3), (72, .iload_n 3, 1), (73, .aload_n 0, 1), (74, .getfield 16, 3), (77, .aload_n 0, 1), (78, .getfield 16, 3), (81, .getfield 275, 3), (84, .iconst 1, 1), (85, .isub, 1), (86, .invokevirtual 282, 3), (89, .iconst (-1), 1), (90, .if_icmp .eq 6, 3), (93, .bipush (-2), 2), (95, .ireturn, 1), (96, .aload_n 0, 1), (97, .iload_n 3, 1), (98, .invokevirtual 286, 3), (101, .istore 4, 2), (103, .iload 4, 2), (105, .ifCond .ge 6, 3), (108, .iload 4, 2), (110, .ireturn, 1), (111, .aload_n 0, 1), (112, .getfield 103, 3), (115, .iload_n 1, 1), (116, .ifCond .eq 7, 3), (119, .iconst 2, 1), (120, .goto 4, 3), (123, .iconst 1, 1), (124, .invokevirtual 289, 3), (127, .istore 5, 2), (129, .aload_n 0, 1), (130, .getfield 112, 3), (133, .iload_n 3, 1), (134, .aload_n 0, 1), (135, .getfield 16, 3), (138, .iload 5, 2), (140, .invokevirtual 292, 3), (143, .aload_n 0, 1), (144, .getfield 87, 3), (147, .invokevirtual 244, 3), (150, .iload 5, 2), (152, .ireturn, 1)]
theorem tv_X11_make : Tv cX11_make tb_X11_make := by
  unfold Tv
  decide +kernel
theorem w_1341 : Cond.methodLink "LedgerFiles" 272 yX11_useTape ∈ TB := tp_5 235 (by decide +kernel) rfl
theorem w_1344 : Cond.code yX11_useTape prog_1_method_5_code 2 (some .int) ∈ TB := tp_5 238 rfl rfl
theorem cw_X11_272 : Cw RX11 272 yX11_useTape cX11_useTape 2 (some .int) 0 := ⟨w_1341, w_1344, w_147, by decide +kernel, by decide +kernel, by decide⟩
theorem w_1343 : Cond.instanceMethod yX11_useTape ∈ TB := tp_5 237 (by decide +kernel) rfl
theorem w_29 : Cond.selects "LedgerFiles" yX11_useTape yX11_useTape ∈ TB := tp_0 29 (by decide +kernel) rfl
set_option maxRecDepth 100000 in
set_option maxHeartbeats 4000000 in
theorem u_X11_make (E : gE) (f : Nat → va_E) (tp : Nat → Int32) (fd : Nat) (mo : Int32) (hE : 350 ≤ gN E) (hm : MnV E f tp fd mo) (hfd : fd ≤ 1024) (N : Nat) (d : DkT) (on le wr ss : Int32) (hE1 : 350 + N ≤ gN E) (hN : N ≤ 1024) (hdv : DkV E f N d on le wr ss) (hdo : dOk N d) (hun : ¬ (¬ mo = 0 ∧ ¬ on = 0)) (x0 : Int32) : Ct E 7 yX11_make cX11_make 6 (some .int) [.ref (gAd E (0)), .int (x0)] f (fun _ _ => False, fun X g => X = "java/lang/IllegalStateException" ∧ MnV E g tp 0 mo ∧ Fr MnK f g) := by
  obtain ⟨m0, m1⟩ := id hm
  refine Ct.of (by decide) (Nat.le_of_ble_eq_true rfl) (fun sz => ?_)
  refine G.eql [(0, .ref (gAd E (0))), (1, .int (x0))] rfl ?_
  refine G.go tv_X11_make 1 1 [(0, .ref (gAd E (0))), (1, .int (x0))] [.ref (gAd E (0))] rfl ?_
  refine G.callV (0) [] [] (c_X11_useTape E f tp fd mo hE hm hfd) cls_X11 (by omega) (m0) cw_X11_272 w_1343 w_29 (Nat.le_of_ble_eq_true rfl) rfl (Nat.le_of_ble_eq_true rfl) (tbd tv_X11_make rfl) (fun v1 f1 q1 => ?_) (fun _ _ h => h.elim)
  obtain ⟨rfl, a1, b1⟩ := q1
  refine G.eqs [.int (nI fd)] rfl ?_
  have d1 : DkV E f1 N d on le wr ss := hdv.of (fun k hk => b1 k (fun q => by unfold MnK at q; rcases hk with hk | hk <;> omega))
  refine G.go tv_X11_make 2 6 [(0, .ref (gAd E (0))), (1, .int (x0)), (2, .int (nI fd))] [.ref (gAd E (0))] rfl ?_
  refine G.callV (0) [] [] (c_X11_needMounted E f1 tp 0 mo hE a1 (by omega) N d on le wr ss hE1 hN d1 hdo) cls_X11 (by omega) (a1.1) cw_X11_221 w_1320 w_27 (Nat.le_of_ble_eq_true rfl) rfl (Nat.le_of_ble_eq_true rfl) (tbd tv_X11_make rfl) (fun v2 f2 q2 => ?_) (fun X g q => ⟨q.1, by rw [← q.2.1]; exact ⟨a1, b1⟩⟩)
  obtain ⟨-, -, q1, q2⟩ := q2
  exact absurd ⟨q1, q2⟩ hun
def tb_X11_remove : List (Nat × Instr × Nat) := [(0, .aload_n 0, 1), (1, .invokevirtual 272, 3), (4, .istore_n 1, 1), (5, .aload_n 0, 1), (6, .invokevirtual 221, 3), (9, .aload_n 0, 1), (10, .iload_n 1, 1), (11, .invokevirtual 296, 3), (14, .istore_n 2, 1), (15, .iload_n 2, 1), (16, .ifCond .ge 5, 3), (19, .iload_n 2, 1), (20, .ireturn, 1), (21, .aload_n 0, 1), (22, .getfield 112, 3), (25, .iload_n 2, 1), (26, .invokevirtual 299, 3), (29, .ifCond .le 6, 3), (32, .bipush (-5), 2), (34, .ireturn, 1), (35, .aload_n 0, 1), (36, .getfield 112, 3), (39, .aload_n 0, 1), (40, .getfield 16, 3), (43, .aload_n 0, 1), (44, .getfield 16, 3), (47, .getfield 275, 3), (50, .iconst 1, 1), (51, .isub, 1), (52, .invokevirtual 278, 3), (55, .istore_n 3, 1), (56, .aload_n 0, 1), (57, .getfield 112, 3), (60, .iload_n 3, 1), (61, .aload_n 0, 1), (62, .getfield 112, 3), (65, .iload_n 3, 1), (66, .aload_n 0, 1), (67, .getfield 16, 3), (70, .aload_n 0, 1), (71, .getfield 16, 3), (74, .getfield 275, 3), (77, .iconst 1, 1), (78, .isub, 1), (79, .invokevirtual 282, 3), (82, .invokevirtual 302, 3), (85, .aload_n 0, 1), (86, .getfield 103, 3), (89, .iload_n 2, 1), (90, .invokevirtual 306, 3), (93, .aload_n 0, 1), (94, .getfield 87, 3), (97, .invokevirtual 244, 3), (100, .iconst 0, 1), (101, .ireturn, 1)]
theorem tv_X11_remove : Tv cX11_remove tb_X11_remove := by
  unfold Tv
  decide +kernel
set_option maxRecDepth 100000 in
set_option maxHeartbeats 4000000 in
theorem u_X11_remove (E : gE) (f : Nat → va_E) (tp : Nat → Int32) (fd : Nat) (mo : Int32) (hE : 350 ≤ gN E) (hm : MnV E f tp fd mo) (hfd : fd ≤ 1024) (N : Nat) (d : DkT) (on le wr ss : Int32) (hE1 : 350 + N ≤ gN E) (hN : N ≤ 1024) (hdv : DkV E f N d on le wr ss) (hdo : dOk N d) (hun : ¬ (¬ mo = 0 ∧ ¬ on = 0)) : Ct E 7 yX11_remove cX11_remove 4 (some .int) [.ref (gAd E (0))] f (fun _ _ => False, fun X g => X = "java/lang/IllegalStateException" ∧ MnV E g tp 0 mo ∧ Fr MnK f g) := by
  obtain ⟨m0, m1⟩ := id hm
  refine Ct.of (by decide) (Nat.le_of_ble_eq_true rfl) (fun sz => ?_)
  refine G.eql [(0, .ref (gAd E (0)))] rfl ?_
  refine G.go tv_X11_remove 1 1 [(0, .ref (gAd E (0)))] [.ref (gAd E (0))] rfl ?_
  refine G.callV (0) [] [] (c_X11_useTape E f tp fd mo hE hm hfd) cls_X11 (by omega) (m0) cw_X11_272 w_1343 w_29 (Nat.le_of_ble_eq_true rfl) rfl (Nat.le_of_ble_eq_true rfl) (tbd tv_X11_remove rfl) (fun v1 f1 q1 => ?_) (fun _ _ h => h.elim)
  obtain ⟨rfl, a1, b1⟩ := q1
  refine G.eqs [.int (nI fd)] rfl ?_
  have d1 : DkV E f1 N d on le wr ss := hdv.of (fun k hk => b1 k (fun q => by unfold MnK at q; rcases hk with hk | hk <;> omega))
  refine G.go tv_X11_remove 2 6 [(0, .ref (gAd E (0))), (1, .int (nI fd))] [.ref (gAd E (0))] rfl ?_
  refine G.callV (0) [] [] (c_X11_needMounted E f1 tp 0 mo hE a1 (by omega) N d on le wr ss hE1 hN d1 hdo) cls_X11 (by omega) (a1.1) cw_X11_221 w_1320 w_27 (Nat.le_of_ble_eq_true rfl) rfl (Nat.le_of_ble_eq_true rfl) (tbd tv_X11_remove rfl) (fun v2 f2 q2 => ?_) (fun X g q => ⟨q.1, by rw [← q.2.1]; exact ⟨a1, b1⟩⟩)
  obtain ⟨-, -, q1, q2⟩ := q2
  exact absurd ⟨q1, q2⟩ hun
def tb_X11_rename : List (Nat × Instr × Nat) := [(0, .aload_n 0, 1), (1, .invokevirtual 272, 3), (4, .istore_n 1, 1), (5, .aload_n 0, 1), (6, .invokevirtual 221, 3), (9, .aload_n 0, 1), (10, .iload_n 1, 1), (11, .invokevirtual 309, 3), (14, .ifCond .ne 6, 3), (17, .bipush (-6), 2), (19, .ireturn, 1), (20, .aload_n 0, 1), (21, .getfield 112, 3), (24, .aload_n 0, 1), (25, .getfield 16, 3), (28, .aload_n 0, 1), (29, .getfield 16, 3), (32, .getfield 275, 3), (35, .invokevirtual 278, 3), (38, .istore_n 2, 1), (39, .iload_n 2, 1), (40, .ifCond .ge 5, 3), (43, .iload_n 2, 1), (44, .ireturn, 1), (45, .aload_n 0, 1), (46, .getfield 16, 3), (49, .getfield 275, 3), (52, .ifCond .eq 31, 3), (55, .aload_n 0, 1), (56, .getfield 20, 3), (59, .getfield 275, 3), (62, .ifCond .eq 21, 3), (65, .aload_n 0, 1), (66, .getfield 20, 3), (69, .aload_n 0, 1), (70, .getfield 16, 3), (73, .aload_n 0, 1), (74, .getfield 9, 3), (77, .invokevirtual 312, 3), (80, .ifCond .eq 6, 3), (83, .bipush (-9), 2), (85, .ireturn, 1), (86, .aload_n 0, 1), (87, .getfield 112, 3), (90, .aload_n 0, 1), (91, .getfield 20, 3), (94, .aload_n 0, 1), (95, .getfield 20, 3), (98, .getfield 275, 3), (101, .iconst 1, 1), (102, .isub, 1), (103, .invokevirtual 278, 3), (106, .istore_n 3, 1), (107, .iload_n 3, 1), (108, .ifCond .ge 5, 3), (111, .iload_n 3, 1), (112, .ireturn, 1), (113, .aload_n 0, 1), (114, .getfield 112, 3), (117, .aload_n 0, 1), (118, .getfield 16, 3), (121, .aload_n 0, 1), (122, .getfield 16, 3), (125, .getfield 275, 3), (128, .iconst 1, 1), (129, .isub, 1), (130, .invokevirtual 278, 3), (133, .istore 4, 2), (135, .aload_n 0, 1), (136, .getfield 112, 3), (139, .iload 4, 2), (141, .aload_n 0, 1), (142, .getfield 16, 3), (145, .aload_n 0, 1), (146, .getfield 16, 3), (149, .getfield 275, 3), (152, .iconst 1, 1), (153, .isub, 1), (154, .invokevirtual 282, 3), (157, .istore 5, 2), (159, .aload_n 0, 1), (160, .getfield 112, 3), (163, .iload_n 3, 1), (164, .aload_n 0, 1), (165, .getfield 20, 3), (168, .aload_n 0, 1), (169, .getfield 20, 3), (172, .getfield 275, 3), (175, .iconst 1, 1), (176, .isub, 1), (177, .invokevirtual 282, 3), (180, .istore 6, 2), (182, .iload 6, 2), (184, .iconst (-1), 1), (185, .if_icmp .ne 63, 3), (188, .iload_n 3, 1), (189, .iload 4, 2), (191, .if_icmp .eq 24, 3), (194, .aload_n 0, 1), (195, .getfield 112, 3), (198, .iload_n 3, 1), (199, .invokevirtual 266, 3), (202, .aload_n 0, 1), (203, .getfield 87, 3), (206, .invokevirtual 269, 3), (209, .if_icmp .le 6, 3), (212, .bipush (-7), 2), (214, .ireturn, 1), (215, .aload_n 0, 1), (216, .getfield 112, 3), (219, .iload 4, 2), (221, .iload 5, 2), (223, .invokevirtual 302, 3), (226, .aload_n 0, 1), (227, .getfield 112, 3), (230, .iload_n 3, 1), (231, .aload_n 0, 1), (232, .getfield 20, 3), (235, .iload_n 2, 1), (236, .invokevirtual 292, 3), (239, .aload_n 0, 1), (240, .getfield 87, 3), (243, .invokevirtual 244, 3), (246, .iconst 0, 1), (247, .ireturn, 1), (248, .aload_n 0, 1), (249, .getfield 112, 3), (252, .iload_n 3, 1), (253, .iload 6, 2), (255, .invokevirtual 316, 3), (258, .istore 7, 2), (260, .iload 7, 2), (262, .iload_n 2, 1), (263, .if_icmp .ne 7, 3), (266, .iconst 0, 1), (267, .goto 10, 3), (270, .aload_n 0, 1), (271, .iload_n 2, 1), (272, .iload 7, 2), (274, .invokevirtual 319, 3), (277, .istore 8, 2), (279, .iload 7, 2), (281, .iload_n 2, 1), (282, .if_icmp .eq 8, 3), (285, .iload 8, 2), (287, .ifCond .ge 6, 3), (290, .iload 8, 2), (292, .ireturn, 1), (293, .aload_n 0, 1), (294, .getfield 112, 3), (297, .iload_n 3, 1), (298, .iload 6, 2), (300, .iload_n 2, 1), (301, .invokevirtual 322, 3), (304, .aload_n 0, 1), (305, .getfield 112, 3), (308, .iload 4, 2), (310, .iload 5, 2), (312, .invokevirtual 302, 3), (315, .aload_n 0, 1), (316, .getfield 103, 3), (319, .iload 7, 2), (321, .invokevirtual 306, 3), (324, .aload_n 0, 1), (325, .getfield 87, 3), (328, .invokevirtual 244, 3), (331, .iconst 0, 1), (332, .ireturn, 1)]
theorem tv_X11_rename : Tv cX11_rename tb_X11_rename := by
  unfold Tv
  decide +kernel
set_option maxRecDepth 100000 in
set_option maxHeartbeats 4000000 in
theorem u_X11_rename (E : gE) (f : Nat → va_E) (tp : Nat → Int32) (fd : Nat) (mo : Int32) (hE : 350 ≤ gN E) (hm : MnV E f tp fd mo) (hfd : fd ≤ 1024) (N : Nat) (d : DkT) (on le wr ss : Int32) (hE1 : 350 + N ≤ gN E) (hN : N ≤ 1024) (hdv : DkV E f N d on le wr ss) (hdo : dOk N d) (hun : ¬ (¬ mo = 0 ∧ ¬ on = 0)) : Ct E 7 yX11_rename cX11_rename 9 (some .int) [.ref (gAd E (0))] f (fun _ _ => False, fun X g => X = "java/lang/IllegalStateException" ∧ MnV E g tp 0 mo ∧ Fr MnK f g) := by
  obtain ⟨m0, m1⟩ := id hm
  refine Ct.of (by decide) (Nat.le_of_ble_eq_true rfl) (fun sz => ?_)
  refine G.eql [(0, .ref (gAd E (0)))] rfl ?_
  refine G.go tv_X11_rename 1 1 [(0, .ref (gAd E (0)))] [.ref (gAd E (0))] rfl ?_
  refine G.callV (0) [] [] (c_X11_useTape E f tp fd mo hE hm hfd) cls_X11 (by omega) (m0) cw_X11_272 w_1343 w_29 (Nat.le_of_ble_eq_true rfl) rfl (Nat.le_of_ble_eq_true rfl) (tbd tv_X11_rename rfl) (fun v1 f1 q1 => ?_) (fun _ _ h => h.elim)
  obtain ⟨rfl, a1, b1⟩ := q1
  refine G.eqs [.int (nI fd)] rfl ?_
  have d1 : DkV E f1 N d on le wr ss := hdv.of (fun k hk => b1 k (fun q => by unfold MnK at q; rcases hk with hk | hk <;> omega))
  refine G.go tv_X11_rename 2 6 [(0, .ref (gAd E (0))), (1, .int (nI fd))] [.ref (gAd E (0))] rfl ?_
  refine G.callV (0) [] [] (c_X11_needMounted E f1 tp 0 mo hE a1 (by omega) N d on le wr ss hE1 hN d1 hdo) cls_X11 (by omega) (a1.1) cw_X11_221 w_1320 w_27 (Nat.le_of_ble_eq_true rfl) rfl (Nat.le_of_ble_eq_true rfl) (tbd tv_X11_rename rfl) (fun v2 f2 q2 => ?_) (fun X g q => ⟨q.1, by rw [← q.2.1]; exact ⟨a1, b1⟩⟩)
  obtain ⟨-, -, q1, q2⟩ := q2
  exact absurd ⟨q1, q2⟩ hun
def tb_X11_link : List (Nat × Instr × Nat) := [(0, .aload_n 0, 1), (1, .invokevirtual 272, 3), (4, .istore_n 1, 1), (5, .aload_n 0, 1), (6, .invokevirtual 221, 3), (9, .aload_n 0, 1), (10, .iload_n 1, 1), (11, .invokevirtual 326, 3), (14, .istore_n 2, 1), (15, .iload_n 2, 1), (16, .ifCond .ge 5, 3), (19, .iload_n 2, 1), (20, .ireturn, 1), (21, .aload_n 0, 1), (22, .getfield 103, 3), (25, .iload_n 2, 1), (26, .invokevirtual 329, 3), (29, .istore_n 3, 1), (30, .iload_n 3, 1), (31, .sipush 255, 3), (34, .if_icmp .lt 6, 3), (37, .bipush (-9), 2), (39, .ireturn, 1), (40, .aload_n 0, 1), (41, .getfield 112, 3), (44, .aload_n 0, 1), (45, .getfield 20, 3), (48, .aload_n 0, 1), (49, .getfield 20, 3), (52, .getfield 275, 3), (55, .iconst 1, 1), (56, .isub, 1), (57, .invokevirtual 278, 3), (60, .istore 4, 2), (62, .aload_n 0, 1), (63, .getfield 112, 3), (66, .iload 4, 2), (68, .invokevirtual 266, 3), (71, .aload_n 0, 1), (72, .getfield 87, 3), (75, .invokevirtual 269, 3), (78, .if_icmp .le 6, 3), (81, .bipush (-7), 2), (83, .ireturn, 1), (84, .aload_n 0, 1), (85, .getfield 103, 3), (88, .iload_n 2, 1), (89, .iload_n 3, 1), (90, .iconst 1, 1), (91, .iadd, 1), (92, .invokevirtual 332, 3), (95, .aload_n 0, 1), (96, .getfield 112, 3), (99, .iload 4, 2), (101, .aload_n 0, 1), (102, .getfield 20, 3), (105, .iload_n 2, 1), (106, .invokevirtual 292, 3), (109, .aload_n 0, 1), (110, .getfield 87, 3), (113, .invokevirtual 244, 3), (116, .iload_n 3, 1), (117, .iconst 1, 1), (118, .iadd, 1), (119, .ireturn, 1)]
theorem tv_X11_link : Tv cX11_link tb_X11_link := by
  unfold Tv
  decide +kernel
set_option maxRecDepth 100000 in
set_option maxHeartbeats 4000000 in
theorem u_X11_link (E : gE) (f : Nat → va_E) (tp : Nat → Int32) (fd : Nat) (mo : Int32) (hE : 350 ≤ gN E) (hm : MnV E f tp fd mo) (hfd : fd ≤ 1024) (N : Nat) (d : DkT) (on le wr ss : Int32) (hE1 : 350 + N ≤ gN E) (hN : N ≤ 1024) (hdv : DkV E f N d on le wr ss) (hdo : dOk N d) (hun : ¬ (¬ mo = 0 ∧ ¬ on = 0)) : Ct E 7 yX11_link cX11_link 5 (some .int) [.ref (gAd E (0))] f (fun _ _ => False, fun X g => X = "java/lang/IllegalStateException" ∧ MnV E g tp 0 mo ∧ Fr MnK f g) := by
  obtain ⟨m0, m1⟩ := id hm
  refine Ct.of (by decide) (Nat.le_of_ble_eq_true rfl) (fun sz => ?_)
  refine G.eql [(0, .ref (gAd E (0)))] rfl ?_
  refine G.go tv_X11_link 1 1 [(0, .ref (gAd E (0)))] [.ref (gAd E (0))] rfl ?_
  refine G.callV (0) [] [] (c_X11_useTape E f tp fd mo hE hm hfd) cls_X11 (by omega) (m0) cw_X11_272 w_1343 w_29 (Nat.le_of_ble_eq_true rfl) rfl (Nat.le_of_ble_eq_true rfl) (tbd tv_X11_link rfl) (fun v1 f1 q1 => ?_) (fun _ _ h => h.elim)
  obtain ⟨rfl, a1, b1⟩ := q1
  refine G.eqs [.int (nI fd)] rfl ?_
  have d1 : DkV E f1 N d on le wr ss := hdv.of (fun k hk => b1 k (fun q => by unfold MnK at q; rcases hk with hk | hk <;> omega))
  refine G.go tv_X11_link 2 6 [(0, .ref (gAd E (0))), (1, .int (nI fd))] [.ref (gAd E (0))] rfl ?_
  refine G.callV (0) [] [] (c_X11_needMounted E f1 tp 0 mo hE a1 (by omega) N d on le wr ss hE1 hN d1 hdo) cls_X11 (by omega) (a1.1) cw_X11_221 w_1320 w_27 (Nat.le_of_ble_eq_true rfl) rfl (Nat.le_of_ble_eq_true rfl) (tbd tv_X11_link rfl) (fun v2 f2 q2 => ?_) (fun X g q => ⟨q.1, by rw [← q.2.1]; exact ⟨a1, b1⟩⟩)
  obtain ⟨-, -, q1, q2⟩ := q2
  exact absurd ⟨q1, q2⟩ hun
def tb_X11_clear : List (Nat × Instr × Nat) := [(0, .aload_n 0, 1), (1, .invokevirtual 272, 3), (4, .istore_n 1, 1), (5, .aload_n 0, 1), (6, .invokevirtual 221, 3), (9, .aload_n 0, 1), (10, .iload_n 1, 1), (11, .invokevirtual 296, 3), (14, .istore_n 2, 1), (15, .iload_n 2, 1), (16, .ifCond .ge 5, 3), (19, .iload_n 2, 1), (20, .ireturn, 1), (21, .aload_n 0, 1), (22, .getfield 26, 3), (25, .iconst 0, 1), (26, .aload_n 0, 1), (27, .getfield 112, 3), (30, .aload_n 0, 1), (31, .getfield 16, 3), (34, .aload_n 0, 1), (35, .getfield 16, 3), (38, .getfield 275, 3), (41, .iconst 1, 1), (42, .isub, 1), (43, .invokevirtual 278, 3), (46, .iastore, 1), (47, .aload_n 0, 1), (48, .getfield 30, 3), (51, .iconst 0, 1), (52, .aload_n 0, 1), (53, .getfield 112, 3), (56, .aload_n 0, 1), (57, .getfield 26, 3), (60, .iconst 0, 1), (61, .iaload, 1), (62, .aload_n 0, 1), (63, .getfield 16, 3), (66, .aload_n 0, 1), (67, .getfield 16, 3), (70, .getfield 275, 3), (73, .iconst 1, 1), (74, .isub, 1), (75, .invokevirtual 282, 3), (78, .iastore, 1), (79, .iconst 0, 1), (80, .istore_n 3, 1), (81, .iconst 0, 1), (82, .istore 4, 2), (84, .iconst 0, 1), (85, .istore 5, 2), (87, .iconst 0, 1), (88, .istore 6, 2), (90, .iload 6, 2), (92, .ldc_w 335, 3), (95, .if_icmp .ge 168, 3), (98, .iload_n 3, 1), (99, .ifCond .le 31, 3), (102, .aload_n 0, 1), (103, .getfield 30, 3), (106, .iload_n 3, 1), (107, .iaload, 1), (108, .aload_n 0, 1), (109, .getfield 112, 3), (112, .aload_n 0, 1), (113, .getfield 26, 3), (116, .iload_n 3, 1), (117, .iaload, 1), (118, .invokevirtual 336, 3), (121, .if_icmp .lt 9, 3), (124, .iinc 3 (-1), 3), (127, .iconst 1, 1), (128, .istore 5, 2), (130, .aload_n 0, 1), (131, .getfield 112, 3), (134, .aload_n 0, 1), (135, .getfield 26, 3), (138, .iload_n 3, 1), (139, .iaload, 1), (140, .aload_n 0, 1), (141, .getfield 30, 3), (144, .iload_n 3, 1), (145, .iaload, 1), (146, .invokevirtual 316, 3), (149, .istore 7, 2), (151, .iload 7, 2), (153, .ifCond .eq 48, 3), (156, .iload 5, 2), (158, .ifCond .ne 43, 3), (161, .aload_n 0, 1), (162, .getfield 103, 3), (165, .iload 7, 2), (167, .invokevirtual 250, 3), (170, .iconst 2, 1), (171, .if_icmp .ne 30, 3), (174, .iload_n 3, 1), (175, .bipush 64, 2), (177, .if_icmp .ge 24, 3), (180, .iinc 3 1, 3), (183, .aload_n 0, 1), (184, .getfield 26, 3), (187, .iload_n 3, 1), (188, .iload 7, 2), (190, .iastore, 1), (191, .aload_n 0, 1), (192, .getfield 30, 3), (195, .iload_n 3, 1), (196, .iconst 0, 1), (197, .iastore, 1), (198, .goto 59, 3), (201, .iconst 0, 1), (202, .istore 5, 2), (204, .iload 7, 2), (206, .ifCond .eq 34, 3), (209, .aload_n 0, 1), (210, .getfield 112, 3), (213, .aload_n 0, 1), (214, .getfield 26, 3), (217, .iload_n 3, 1), (218, .iaload, 1), (219, .aload_n 0, 1), (220, .getfield 30, 3), (223, .iload_n 3, 1), (224, .iaload, 1), (225, .invokevirtual 302, 3), (228, .aload_n 0, 1), (229, .getfield 103, 3), (232, .iload 7, 2), (234, .invokevirtual 306, 3), (237, .iinc 4 1, 3), (240, .iload_n 3, 1), (241, .ifCond .ne 6, 3), (244, .goto 19, 3), (247, .aload_n 0, 1), (248, .getfield 30, 3), (251, .iload_n 3, 1), (252, .dup2, 1), (253, .iaload, 1), (254, .iconst 1, 1), (255, .iadd, 1), (256, .iastore, 1), (257, .iinc 6 1, 3), (260, .goto (-170), 3), (263, .aload_n 0, 1), (264, .getfield 87, 3), (267, .getfield 224, 3), (270, .ifCond .ne 26, 3), (273, .aload_n 0, 1), (274, .getfield 87, 3), (277, .iconst 1, 1), (278, .invokevirtual 339, 3), (281, .bipush 40, 2), (283, .if_icmp .le 13, 3), (286, .aload_n 0, 1), (287, .getfield 87, 3), (290, .invokevirtual 247, 3), (293, .bipush (-12), 2), (295, .ireturn, 1), (296, .aload_n 0, 1), (297, .getfield 87, 3), (300, .invokevirtual 244, 3), (303, .iload 4, 2), (305, .ireturn, 1)]
theorem tv_X11_clear : Tv cX11_clear tb_X11_clear := by
  unfold Tv
  decide +kernel
set_option maxRecDepth 100000 in
set_option maxHeartbeats 4000000 in
theorem u_X11_clear (E : gE) (f : Nat → va_E) (tp : Nat → Int32) (fd : Nat) (mo : Int32) (hE : 350 ≤ gN E) (hm : MnV E f tp fd mo) (hfd : fd ≤ 1024) (N : Nat) (d : DkT) (on le wr ss : Int32) (hE1 : 350 + N ≤ gN E) (hN : N ≤ 1024) (hdv : DkV E f N d on le wr ss) (hdo : dOk N d) (hun : ¬ (¬ mo = 0 ∧ ¬ on = 0)) : Ct E 7 yX11_clear cX11_clear 8 (some .int) [.ref (gAd E (0))] f (fun _ _ => False, fun X g => X = "java/lang/IllegalStateException" ∧ MnV E g tp 0 mo ∧ Fr MnK f g) := by
  obtain ⟨m0, m1⟩ := id hm
  refine Ct.of (by decide) (Nat.le_of_ble_eq_true rfl) (fun sz => ?_)
  refine G.eql [(0, .ref (gAd E (0)))] rfl ?_
  refine G.go tv_X11_clear 1 1 [(0, .ref (gAd E (0)))] [.ref (gAd E (0))] rfl ?_
  refine G.callV (0) [] [] (c_X11_useTape E f tp fd mo hE hm hfd) cls_X11 (by omega) (m0) cw_X11_272 w_1343 w_29 (Nat.le_of_ble_eq_true rfl) rfl (Nat.le_of_ble_eq_true rfl) (tbd tv_X11_clear rfl) (fun v1 f1 q1 => ?_) (fun _ _ h => h.elim)
  obtain ⟨rfl, a1, b1⟩ := q1
  refine G.eqs [.int (nI fd)] rfl ?_
  have d1 : DkV E f1 N d on le wr ss := hdv.of (fun k hk => b1 k (fun q => by unfold MnK at q; rcases hk with hk | hk <;> omega))
  refine G.go tv_X11_clear 2 6 [(0, .ref (gAd E (0))), (1, .int (nI fd))] [.ref (gAd E (0))] rfl ?_
  refine G.callV (0) [] [] (c_X11_needMounted E f1 tp 0 mo hE a1 (by omega) N d on le wr ss hE1 hN d1 hdo) cls_X11 (by omega) (a1.1) cw_X11_221 w_1320 w_27 (Nat.le_of_ble_eq_true rfl) rfl (Nat.le_of_ble_eq_true rfl) (tbd tv_X11_clear rfl) (fun v2 f2 q2 => ?_) (fun X g q => ⟨q.1, by rw [← q.2.1]; exact ⟨a1, b1⟩⟩)
  obtain ⟨-, -, q1, q2⟩ := q2
  exact absurd ⟨q1, q2⟩ hun
def tb_X11_copy : List (Nat × Instr × Nat) := [(0, .aload_n 0, 1), (1, .invokevirtual 272, 3), (4, .istore_n 1, 1), (5, .aload_n 0, 1), (6, .invokevirtual 221, 3), (9, .aload_n 0, 1), (10, .iload_n 1, 1), (11, .invokevirtual 326, 3), (14, .istore_n 2, 1), (15, .iload_n 2, 1), (16, .ifCond .ge 5, 3), (19, .iload_n 2, 1), (20, .ireturn, 1), (21, .aload_n 0, 1), (22, .getfield 103, 3), (25, .iload_n 2, 1), (26, .invokevirtual 343, 3), (29, .istore_n 3, 1), (30, .iload_n 3, 1), (31, .bipush 32, 2), (33, .if_icmp .le 6, 3), (36, .bipush (-12), 2), (38, .ireturn, 1), (39, .aload_n 0, 1), (40, .getfield 103, 3), (43, .invokevirtual 263, 3), (46, .iconst (-1), 1), (47, .if_icmp .ne 6, 3), (50, .bipush (-8), 2), (52, .ireturn, 1), (53, .aload_n 0, 1), (54, .getfield 112, 3), (57, .aload_n 0, 1), (58, .getfield 20, 3), (61, .aload_n 0, 1), (62, .getfield 20, 3), (65, .getfield 275, 3), (68, .iconst 1, 1), (69, .isub, 1), (70, .invokevirtual 278, 3), (73, .istore 4, 2), (75, .aload_n 0, 1), (76, .getfield 112, 3), (79, .iload 4, 2), (81, .invokevirtual 266, 3), (84, .aload_n 0, 1), (85, .getfield 103, 3), (88, .getfield 346, 3), (91, .iadd, 1), (92, .iload_n 3, 1), (93, .iadd, 1), (94, .aload_n 0, 1), (95, .getfield 87, 3), (98, .invokevirtual 269, 3), (101, .if_icmp .le 6, 3), (104, .bipush (-7), 2), (106, .ireturn, 1), (107, .aload_n 0, 1), (108, .getfield 103, 3), (111, .iconst 1, 1), (112, .invokevirtual 289, 3), (115, .istore 5, 2), (117, .aload_n 0, 1), (118, .getfield 112, 3), (121, .iload 4, 2), (123, .aload_n 0, 1), (124, .getfield 20, 3), (127, .iload 5, 2), (129, .invokevirtual 292, 3), (132, .aload_n 0, 1), (133, .getfield 121, 3), (136, .iload_n 2, 1), (137, .iload 5, 2), (139, .invokevirtual 349, 3), (142, .aload_n 0, 1), (143, .getfield 87, 3), (146, .invokevirtual 244, 3), (149, .iload 5, 2), (151, .ireturn, 1)]
theorem tv_X11_copy : Tv cX11_copy tb_X11_copy := by
  unfold Tv
  decide +kernel
set_option maxRecDepth 100000 in
set_option maxHeartbeats 4000000 in
theorem u_X11_copy (E : gE) (f : Nat → va_E) (tp : Nat → Int32) (fd : Nat) (mo : Int32) (hE : 350 ≤ gN E) (hm : MnV E f tp fd mo) (hfd : fd ≤ 1024) (N : Nat) (d : DkT) (on le wr ss : Int32) (hE1 : 350 + N ≤ gN E) (hN : N ≤ 1024) (hdv : DkV E f N d on le wr ss) (hdo : dOk N d) (hun : ¬ (¬ mo = 0 ∧ ¬ on = 0)) : Ct E 7 yX11_copy cX11_copy 6 (some .int) [.ref (gAd E (0))] f (fun _ _ => False, fun X g => X = "java/lang/IllegalStateException" ∧ MnV E g tp 0 mo ∧ Fr MnK f g) := by
  obtain ⟨m0, m1⟩ := id hm
  refine Ct.of (by decide) (Nat.le_of_ble_eq_true rfl) (fun sz => ?_)
  refine G.eql [(0, .ref (gAd E (0)))] rfl ?_
  refine G.go tv_X11_copy 1 1 [(0, .ref (gAd E (0)))] [.ref (gAd E (0))] rfl ?_
  refine G.callV (0) [] [] (c_X11_useTape E f tp fd mo hE hm hfd) cls_X11 (by omega) (m0) cw_X11_272 w_1343 w_29 (Nat.le_of_ble_eq_true rfl) rfl (Nat.le_of_ble_eq_true rfl) (tbd tv_X11_copy rfl) (fun v1 f1 q1 => ?_) (fun _ _ h => h.elim)
  obtain ⟨rfl, a1, b1⟩ := q1
  refine G.eqs [.int (nI fd)] rfl ?_
  have d1 : DkV E f1 N d on le wr ss := hdv.of (fun k hk => b1 k (fun q => by unfold MnK at q; rcases hk with hk | hk <;> omega))
  refine G.go tv_X11_copy 2 6 [(0, .ref (gAd E (0))), (1, .int (nI fd))] [.ref (gAd E (0))] rfl ?_
  refine G.callV (0) [] [] (c_X11_needMounted E f1 tp 0 mo hE a1 (by omega) N d on le wr ss hE1 hN d1 hdo) cls_X11 (by omega) (a1.1) cw_X11_221 w_1320 w_27 (Nat.le_of_ble_eq_true rfl) rfl (Nat.le_of_ble_eq_true rfl) (tbd tv_X11_copy rfl) (fun v2 f2 q2 => ?_) (fun X g q => ⟨q.1, by rw [← q.2.1]; exact ⟨a1, b1⟩⟩)
  obtain ⟨-, -, q1, q2⟩ := q2
  exact absurd ⟨q1, q2⟩ hun
def tb_X11_find : List (Nat × Instr × Nat) := [(0, .aload_n 0, 1), (1, .invokevirtual 272, 3), (4, .istore_n 1, 1), (5, .aload_n 0, 1), (6, .invokevirtual 221, 3), (9, .aload_n 0, 1), (10, .getfield 16, 3), (13, .aload_n 0, 1), (14, .getfield 9, 3), (17, .iconst 0, 1), (18, .iload_n 1, 1), (19, .invokevirtual 259, 3), (22, .ifCond .eq 24, 3), (25, .aload_n 0, 1), (26, .getfield 112, 3), (29, .aload_n 0, 1), (30, .getfield 16, 3), (33, .aload_n 0, 1), (34, .getfield 16, 3), (37, .getfield 275, 3), (40, .invokevirtual 278, 3), (43, .goto 5, 3), (46, .bipush (-6), 2), (48, .ireturn, 1)]
theorem tv_X11_find : Tv cX11_find tb_X11_find := by
  unfold Tv
  decide +kernel
set_option maxRecDepth 100000 in
set_option maxHeartbeats 4000000 in
theorem u_X11_find (E : gE) (f : Nat → va_E) (tp : Nat → Int32) (fd : Nat) (mo : Int32) (hE : 350 ≤ gN E) (hm : MnV E f tp fd mo) (hfd : fd ≤ 1024) (N : Nat) (d : DkT) (on le wr ss : Int32) (hE1 : 350 + N ≤ gN E) (hN : N ≤ 1024) (hdv : DkV E f N d on le wr ss) (hdo : dOk N d) (hun : ¬ (¬ mo = 0 ∧ ¬ on = 0)) : Ct E 7 yX11_find cX11_find 2 (some .int) [.ref (gAd E (0))] f (fun _ _ => False, fun X g => X = "java/lang/IllegalStateException" ∧ MnV E g tp 0 mo ∧ Fr MnK f g) := by
  obtain ⟨m0, m1⟩ := id hm
  refine Ct.of (by decide) (Nat.le_of_ble_eq_true rfl) (fun sz => ?_)
  refine G.eql [(0, .ref (gAd E (0)))] rfl ?_
  refine G.go tv_X11_find 1 1 [(0, .ref (gAd E (0)))] [.ref (gAd E (0))] rfl ?_
  refine G.callV (0) [] [] (c_X11_useTape E f tp fd mo hE hm hfd) cls_X11 (by omega) (m0) cw_X11_272 w_1343 w_29 (Nat.le_of_ble_eq_true rfl) rfl (Nat.le_of_ble_eq_true rfl) (tbd tv_X11_find rfl) (fun v1 f1 q1 => ?_) (fun _ _ h => h.elim)
  obtain ⟨rfl, a1, b1⟩ := q1
  refine G.eqs [.int (nI fd)] rfl ?_
  have d1 : DkV E f1 N d on le wr ss := hdv.of (fun k hk => b1 k (fun q => by unfold MnK at q; rcases hk with hk | hk <;> omega))
  refine G.go tv_X11_find 2 6 [(0, .ref (gAd E (0))), (1, .int (nI fd))] [.ref (gAd E (0))] rfl ?_
  refine G.callV (0) [] [] (c_X11_needMounted E f1 tp 0 mo hE a1 (by omega) N d on le wr ss hE1 hN d1 hdo) cls_X11 (by omega) (a1.1) cw_X11_221 w_1320 w_27 (Nat.le_of_ble_eq_true rfl) rfl (Nat.le_of_ble_eq_true rfl) (tbd tv_X11_find rfl) (fun v2 f2 q2 => ?_) (fun X g q => ⟨q.1, by rw [← q.2.1]; exact ⟨a1, b1⟩⟩)
  obtain ⟨-, -, q1, q2⟩ := q2
  exact absurd ⟨q1, q2⟩ hun
def tb_X11_write : List (Nat × Instr × Nat) := [(0, .aload_n 0, 1), (1, .invokevirtual 272, 3), (4, .istore_n 3, 1), (5, .aload_n 0, 1), (6, .invokevirtual 221, 3), (9, .aload_n 0, 1), (10, .getfield 103, 3), (13, .iload_n 1, 1), (14, .invokevirtual 352, 3), (17, .istore 4, 2), (19, .iload 4, 2), (21, .ifCond .ge 8, 3), (24, .iload 4, 2), (26, .goto 17, 3), (29, .aload_n 0, 1), (30, .getfield 121, 3), (33, .iload_n 1, 1), (34, .iload_n 2, 1), (35, .aload_n 0, 1), (36, .getfield 9, 3), (39, .iload_n 3, 1), (40, .invokevirtual 355, 3), (43, .ireturn, 1)]
theorem tv_X11_write : Tv cX11_write tb_X11_write := by
  unfold Tv
  decide +kernel
set_option maxRecDepth 100000 in
set_option maxHeartbeats 4000000 in
theorem u_X11_write (E : gE) (f : Nat → va_E) (tp : Nat → Int32) (fd : Nat) (mo : Int32) (hE : 350 ≤ gN E) (hm : MnV E f tp fd mo) (hfd : fd ≤ 1024) (N : Nat) (d : DkT) (on le wr ss : Int32) (hE1 : 350 + N ≤ gN E) (hN : N ≤ 1024) (hdv : DkV E f N d on le wr ss) (hdo : dOk N d) (hun : ¬ (¬ mo = 0 ∧ ¬ on = 0)) (x0 : Int32) (x1 : Int32) : Ct E 7 yX11_write cX11_write 5 (some .int) [.ref (gAd E (0)), .int (x0), .int (x1)] f (fun _ _ => False, fun X g => X = "java/lang/IllegalStateException" ∧ MnV E g tp 0 mo ∧ Fr MnK f g) := by
  obtain ⟨m0, m1⟩ := id hm
  refine Ct.of (by decide) (Nat.le_of_ble_eq_true rfl) (fun sz => ?_)
  refine G.eql [(0, .ref (gAd E (0))), (1, .int (x0)), (2, .int (x1))] rfl ?_
  refine G.go tv_X11_write 1 1 [(0, .ref (gAd E (0))), (1, .int (x0)), (2, .int (x1))] [.ref (gAd E (0))] rfl ?_
  refine G.callV (0) [] [] (c_X11_useTape E f tp fd mo hE hm hfd) cls_X11 (by omega) (m0) cw_X11_272 w_1343 w_29 (Nat.le_of_ble_eq_true rfl) rfl (Nat.le_of_ble_eq_true rfl) (tbd tv_X11_write rfl) (fun v1 f1 q1 => ?_) (fun _ _ h => h.elim)
  obtain ⟨rfl, a1, b1⟩ := q1
  refine G.eqs [.int (nI fd)] rfl ?_
  have d1 : DkV E f1 N d on le wr ss := hdv.of (fun k hk => b1 k (fun q => by unfold MnK at q; rcases hk with hk | hk <;> omega))
  refine G.go tv_X11_write 2 6 [(0, .ref (gAd E (0))), (1, .int (x0)), (2, .int (x1)), (3, .int (nI fd))] [.ref (gAd E (0))] rfl ?_
  refine G.callV (0) [] [] (c_X11_needMounted E f1 tp 0 mo hE a1 (by omega) N d on le wr ss hE1 hN d1 hdo) cls_X11 (by omega) (a1.1) cw_X11_221 w_1320 w_27 (Nat.le_of_ble_eq_true rfl) rfl (Nat.le_of_ble_eq_true rfl) (tbd tv_X11_write rfl) (fun v2 f2 q2 => ?_) (fun X g q => ⟨q.1, by rw [← q.2.1]; exact ⟨a1, b1⟩⟩)
  obtain ⟨-, -, q1, q2⟩ := q2
  exact absurd ⟨q1, q2⟩ hun
def tb_X11_fill : List (Nat × Instr × Nat) := [(0, .aload_n 0, 1), (1, .invokevirtual 221, 3), (4, .iload_n 3, 1), (5, .ifCond .lt 10, 3), (8, .iload_n 3, 1), (9, .sipush 2000, 3), (12, .if_icmp .le 14, 3), (15, .new 201, 3), (18, .dup, 1), (19, .ldc_w 359, 3), (22, .invokespecial 205, 3), (25, .athrow, 1), (26, .aload_n 0, 1), (27, .getfield 103, 3), (30, .iload_n 1, 1), (31, .invokevirtual 352, 3), (34, .istore 5, 2), (36, .iload 5, 2), (38, .ifCond .ge 6, 3), (41, .iload 5, 2), (43, .ireturn, 1), (44, .iconst 0, 1), (45, .istore 6, 2), (47, .iload 6, 2), (49, .iload_n 3, 1), (50, .if_icmp .ge 30, 3), (53, .aload_n 0, 1), (54, .getfield 23, 3), (57, .iload 6, 2), (59, .iload 4, 2), (61, .iload 6, 2), (63, .iload 6, 2), (65, .imul, 1), (66, .iadd, 1), (67, .iload 6, 2), (69, .iconst 5, 1), (70, .ishr, 1), (71, .iadd, 1), (72, .i2b, 1), (73, .bastore, 1), (74, .iinc 6 1, 3), (77, .goto (-30), 3), (80, .aload_n 0, 1), (81, .getfield 121, 3), (84, .iload_n 1, 1), (85, .iload_n 2, 1), (86, .aload_n 0, 1), (87, .getfield 23, 3), (90, .iload_n 3, 1), (91, .invokevirtual 355, 3), (94, .ireturn, 1)]
theorem tv_X11_fill : Tv cX11_fill tb_X11_fill := by
  unfold Tv
  decide +kernel
set_option maxRecDepth 100000 in
set_option maxHeartbeats 4000000 in
theorem u_X11_fill (E : gE) (f : Nat → va_E) (tp : Nat → Int32) (fd : Nat) (mo : Int32) (hE : 350 ≤ gN E) (hm : MnV E f tp fd mo) (hfd : fd ≤ 1024) (N : Nat) (d : DkT) (on le wr ss : Int32) (hE1 : 350 + N ≤ gN E) (hN : N ≤ 1024) (hdv : DkV E f N d on le wr ss) (hdo : dOk N d) (hun : ¬ (¬ mo = 0 ∧ ¬ on = 0)) (x0 : Int32) (x1 : Int32) (x2 : Int32) (x3 : Int32) : Ct E 7 yX11_fill cX11_fill 7 (some .int) [.ref (gAd E (0)), .int (x0), .int (x1), .int (x2), .int (x3)] f (fun _ _ => False, fun X g => X = "java/lang/IllegalStateException" ∧ MnV E g tp fd mo ∧ Fr MnK f g) := by
  obtain ⟨m0, m1⟩ := id hm
  refine Ct.of (by decide) (Nat.le_of_ble_eq_true rfl) (fun sz => ?_)
  refine G.eql [(0, .ref (gAd E (0))), (1, .int (x0)), (2, .int (x1)), (3, .int (x2)), (4, .int (x3))] rfl ?_
  refine G.go tv_X11_fill 1 1 [(0, .ref (gAd E (0))), (1, .int (x0)), (2, .int (x1)), (3, .int (x2)), (4, .int (x3))] [.ref (gAd E (0))] rfl ?_
  refine G.callV (0) [] [] (c_X11_needMounted E f tp fd mo hE hm (by omega) N d on le wr ss hE1 hN hdv hdo) cls_X11 (by omega) (m0) cw_X11_221 w_1320 w_27 (Nat.le_of_ble_eq_true rfl) rfl (Nat.le_of_ble_eq_true rfl) (tbd tv_X11_fill rfl) (fun v1 f1 q1 => ?_) (fun X g q => ⟨q.1, by rw [← q.2.1]; exact ⟨hm, Fr.rf⟩⟩)
  obtain ⟨-, -, q1, q2⟩ := q1
  exact absurd ⟨q1, q2⟩ hun
def tb_X11_truncate : List (Nat × Instr × Nat) := [(0, .aload_n 0, 1), (1, .invokevirtual 221, 3), (4, .aload_n 0, 1), (5, .getfield 103, 3), (8, .iload_n 1, 1), (9, .invokevirtual 352, 3), (12, .istore_n 3, 1), (13, .iload_n 3, 1), (14, .ifCond .ge 5, 3), (17, .iload_n 3, 1), (18, .ireturn, 1), (19, .iload_n 2, 1), (20, .ifCond .lt 10, 3), (23, .iload_n 2, 1), (24, .ldc_w 361, 3), (27, .if_icmp .le 6, 3), (30, .bipush (-10), 2), (32, .ireturn, 1), (33, .aload_n 0, 1), (34, .getfield 103, 3), (37, .iload_n 1, 1), (38, .invokevirtual 362, 3), (41, .istore 4, 2), (43, .aload_n 0, 1), (44, .getfield 103, 3), (47, .iload_n 1, 1), (48, .iload_n 2, 1), (49, .invokevirtual 365, 3), (52, .iload_n 2, 1), (53, .iload 4, 2), (55, .if_icmp .ge 20, 3), (58, .aload_n 0, 1), (59, .getfield 121, 3), (62, .iload_n 1, 1), (63, .iload_n 2, 1), (64, .iload_n 2, 1), (65, .invokestatic 368, 3), (68, .sipush 128, 3), (71, .imul, 1), (72, .invokevirtual 371, 3), (75, .aload_n 0, 1), (76, .getfield 87, 3), (79, .invokevirtual 244, 3), (82, .iconst 0, 1), (83, .ireturn, 1)]
theorem tv_X11_truncate : Tv cX11_truncate tb_X11_truncate := by
  unfold Tv
  decide +kernel
set_option maxRecDepth 100000 in
set_option maxHeartbeats 4000000 in
theorem u_X11_truncate (E : gE) (f : Nat → va_E) (tp : Nat → Int32) (fd : Nat) (mo : Int32) (hE : 350 ≤ gN E) (hm : MnV E f tp fd mo) (hfd : fd ≤ 1024) (N : Nat) (d : DkT) (on le wr ss : Int32) (hE1 : 350 + N ≤ gN E) (hN : N ≤ 1024) (hdv : DkV E f N d on le wr ss) (hdo : dOk N d) (hun : ¬ (¬ mo = 0 ∧ ¬ on = 0)) (x0 : Int32) (x1 : Int32) : Ct E 7 yX11_truncate cX11_truncate 5 (some .int) [.ref (gAd E (0)), .int (x0), .int (x1)] f (fun _ _ => False, fun X g => X = "java/lang/IllegalStateException" ∧ MnV E g tp fd mo ∧ Fr MnK f g) := by
  obtain ⟨m0, m1⟩ := id hm
  refine Ct.of (by decide) (Nat.le_of_ble_eq_true rfl) (fun sz => ?_)
  refine G.eql [(0, .ref (gAd E (0))), (1, .int (x0)), (2, .int (x1))] rfl ?_
  refine G.go tv_X11_truncate 1 1 [(0, .ref (gAd E (0))), (1, .int (x0)), (2, .int (x1))] [.ref (gAd E (0))] rfl ?_
  refine G.callV (0) [] [] (c_X11_needMounted E f tp fd mo hE hm (by omega) N d on le wr ss hE1 hN hdv hdo) cls_X11 (by omega) (m0) cw_X11_221 w_1320 w_27 (Nat.le_of_ble_eq_true rfl) rfl (Nat.le_of_ble_eq_true rfl) (tbd tv_X11_truncate rfl) (fun v1 f1 q1 => ?_) (fun X g q => ⟨q.1, by rw [← q.2.1]; exact ⟨hm, Fr.rf⟩⟩)
  obtain ⟨-, -, q1, q2⟩ := q1
  exact absurd ⟨q1, q2⟩ hun
def tb_X11_mark : List (Nat × Instr × Nat) := [(0, .aload_n 0, 1), (1, .invokevirtual 221, 3), (4, .aload_n 0, 1), (5, .getfield 103, 3), (8, .iload_n 1, 1), (9, .invokevirtual 250, 3), (12, .ifCond .ne 6, 3), (15, .bipush (-11), 2), (17, .ireturn, 1), (18, .aload_n 0, 1), (19, .getfield 103, 3), (22, .iload_n 1, 1), (23, .iload_n 2, 1), (24, .invokevirtual 374, 3), (27, .aload_n 0, 1), (28, .getfield 87, 3), (31, .invokevirtual 244, 3), (34, .iconst 0, 1), (35, .ireturn, 1)]
theorem tv_X11_mark : Tv cX11_mark tb_X11_mark := by
  unfold Tv
  decide +kernel
set_option maxRecDepth 100000 in
set_option maxHeartbeats 4000000 in
theorem u_X11_mark (E : gE) (f : Nat → va_E) (tp : Nat → Int32) (fd : Nat) (mo : Int32) (hE : 350 ≤ gN E) (hm : MnV E f tp fd mo) (hfd : fd ≤ 1024) (N : Nat) (d : DkT) (on le wr ss : Int32) (hE1 : 350 + N ≤ gN E) (hN : N ≤ 1024) (hdv : DkV E f N d on le wr ss) (hdo : dOk N d) (hun : ¬ (¬ mo = 0 ∧ ¬ on = 0)) (x0 : Int32) (x1 : Int32) : Ct E 7 yX11_mark cX11_mark 3 (some .int) [.ref (gAd E (0)), .int (x0), .int (x1)] f (fun _ _ => False, fun X g => X = "java/lang/IllegalStateException" ∧ MnV E g tp fd mo ∧ Fr MnK f g) := by
  obtain ⟨m0, m1⟩ := id hm
  refine Ct.of (by decide) (Nat.le_of_ble_eq_true rfl) (fun sz => ?_)
  refine G.eql [(0, .ref (gAd E (0))), (1, .int (x0)), (2, .int (x1))] rfl ?_
  refine G.go tv_X11_mark 1 1 [(0, .ref (gAd E (0))), (1, .int (x0)), (2, .int (x1))] [.ref (gAd E (0))] rfl ?_
  refine G.callV (0) [] [] (c_X11_needMounted E f tp fd mo hE hm (by omega) N d on le wr ss hE1 hN hdv hdo) cls_X11 (by omega) (m0) cw_X11_221 w_1320 w_27 (Nat.le_of_ble_eq_true rfl) rfl (Nat.le_of_ble_eq_true rfl) (tbd tv_X11_mark rfl) (fun v1 f1 q1 => ?_) (fun X g q => ⟨q.1, by rw [← q.2.1]; exact ⟨hm, Fr.rf⟩⟩)
  obtain ⟨-, -, q1, q2⟩ := q1
  exact absurd ⟨q1, q2⟩ hun
def tb_X11_punch : List (Nat × Instr × Nat) := [(0, .aload_n 0, 1), (1, .invokevirtual 221, 3), (4, .aload_n 0, 1), (5, .getfield 103, 3), (8, .iload_n 1, 1), (9, .invokevirtual 352, 3), (12, .istore 4, 2), (14, .iload 4, 2), (16, .ifCond .ge 6, 3), (19, .iload 4, 2), (21, .ireturn, 1), (22, .iload_n 2, 1), (23, .ifCond .lt 19, 3), (26, .iload_n 3, 1), (27, .ifCond .lt 15, 3), (30, .iload_n 2, 1), (31, .i2l, 1), (32, .iload_n 3, 1), (33, .i2l, 1), (34, .ladd, 1), (35, .ldc2_w 377, 3), (38, .lcmp, 1), (39, .ifCond .le 6, 3), (42, .bipush (-10), 2), (44, .ireturn, 1), (45, .iload_n 2, 1), (46, .iload_n 3, 1), (47, .iadd, 1), (48, .istore 5, 2), (50, .iload_n 2, 1), (51, .invokestatic 368, 3), (54, .istore 6, 2), (56, .iload 5, 2), (58, .sipush 128, 3), (61, .idiv, 1), (62, .istore 7, 2), (64, .aload_n 0, 1), (65, .getfield 103, 3), (68, .iload_n 1, 1), (69, .iload 6, 2), (71, .iload 7, 2), (73, .invokevirtual 379, 3), (76, .bipush 32, 2), (78, .if_icmp .le 6, 3), (81, .bipush (-12), 2), (83, .ireturn, 1), (84, .aload_n 0, 1), (85, .getfield 103, 3), (88, .iload_n 1, 1), (89, .iload 6, 2), (91, .iload 7, 2), (93, .sipush 4168, 3), (96, .invokevirtual 383, 3), (99, .istore 8, 2), (101, .aload_n 0, 1), (102, .getfield 103, 3), (105, .iload_n 1, 1), (106, .invokevirtual 362, 3), (109, .istore 9, 2), (111, .iload 5, 2), (113, .iload 6, 2), (115, .sipush 128, 3), (118, .imul, 1), (119, .invokestatic 41, 3), (122, .istore 10, 2), (124, .aload_n 0, 1), (125, .getfield 121, 3), (128, .iload_n 1, 1), (129, .iload_n 2, 1), (130, .iload 10, 2), (132, .iload 9, 2), (134, .invokestatic 41, 3), (137, .invokevirtual 371, 3), (140, .iload 7, 2), (142, .sipush 128, 3), (145, .imul, 1), (146, .iload 10, 2), (148, .if_icmp .lt 24, 3), (151, .aload_n 0, 1), (152, .getfield 121, 3), (155, .iload_n 1, 1), (156, .iload 7, 2), (158, .sipush 128, 3), (161, .imul, 1), (162, .iload 5, 2), (164, .iload 9, 2), (166, .invokestatic 41, 3), (169, .invokevirtual 371, 3), (172, .aload_n 0, 1), (173, .getfield 87, 3), (176, .invokevirtual 244, 3), (179, .iload 8, 2), (181, .ireturn, 1)]
theorem tv_X11_punch : Tv cX11_punch tb_X11_punch := by
  unfold Tv
  decide +kernel
set_option maxRecDepth 100000 in
set_option maxHeartbeats 4000000 in
theorem u_X11_punch (E : gE) (f : Nat → va_E) (tp : Nat → Int32) (fd : Nat) (mo : Int32) (hE : 350 ≤ gN E) (hm : MnV E f tp fd mo) (hfd : fd ≤ 1024) (N : Nat) (d : DkT) (on le wr ss : Int32) (hE1 : 350 + N ≤ gN E) (hN : N ≤ 1024) (hdv : DkV E f N d on le wr ss) (hdo : dOk N d) (hun : ¬ (¬ mo = 0 ∧ ¬ on = 0)) (x0 : Int32) (x1 : Int32) (x2 : Int32) : Ct E 7 yX11_punch cX11_punch 11 (some .int) [.ref (gAd E (0)), .int (x0), .int (x1), .int (x2)] f (fun _ _ => False, fun X g => X = "java/lang/IllegalStateException" ∧ MnV E g tp fd mo ∧ Fr MnK f g) := by
  obtain ⟨m0, m1⟩ := id hm
  refine Ct.of (by decide) (Nat.le_of_ble_eq_true rfl) (fun sz => ?_)
  refine G.eql [(0, .ref (gAd E (0))), (1, .int (x0)), (2, .int (x1)), (3, .int (x2))] rfl ?_
  refine G.go tv_X11_punch 1 1 [(0, .ref (gAd E (0))), (1, .int (x0)), (2, .int (x1)), (3, .int (x2))] [.ref (gAd E (0))] rfl ?_
  refine G.callV (0) [] [] (c_X11_needMounted E f tp fd mo hE hm (by omega) N d on le wr ss hE1 hN hdv hdo) cls_X11 (by omega) (m0) cw_X11_221 w_1320 w_27 (Nat.le_of_ble_eq_true rfl) rfl (Nat.le_of_ble_eq_true rfl) (tbd tv_X11_punch rfl) (fun v1 f1 q1 => ?_) (fun X g q => ⟨q.1, by rw [← q.2.1]; exact ⟨hm, Fr.rf⟩⟩)
  obtain ⟨-, -, q1, q2⟩ := q1
  exact absurd ⟨q1, q2⟩ hun
def tb_X11_hold : List (Nat × Instr × Nat) := [(0, .aload_n 0, 1), (1, .invokevirtual 221, 3), (4, .aload_n 0, 1), (5, .getfield 103, 3), (8, .iload_n 1, 1), (9, .invokevirtual 250, 3), (12, .ifCond .ne 6, 3), (15, .bipush (-11), 2), (17, .ireturn, 1), (18, .aload_n 0, 1), (19, .getfield 94, 3), (22, .getfield 253, 3), (25, .iload_n 1, 1), (26, .iaload, 1), (27, .bipush 100, 2), (29, .if_icmp .lt 6, 3), (32, .bipush (-9), 2), (34, .ireturn, 1), (35, .aload_n 0, 1), (36, .getfield 94, 3), (39, .getfield 253, 3), (42, .iload_n 1, 1), (43, .dup2, 1), (44, .iaload, 1), (45, .iconst 1, 1), (46, .iadd, 1), (47, .iastore, 1), (48, .aload_n 0, 1), (49, .getfield 94, 3), (52, .getfield 253, 3), (55, .iload_n 1, 1), (56, .iaload, 1), (57, .ireturn, 1)]
theorem tv_X11_hold : Tv cX11_hold tb_X11_hold := by
  unfold Tv
  decide +kernel
set_option maxRecDepth 100000 in
set_option maxHeartbeats 4000000 in
theorem u_X11_hold (E : gE) (f : Nat → va_E) (tp : Nat → Int32) (fd : Nat) (mo : Int32) (hE : 350 ≤ gN E) (hm : MnV E f tp fd mo) (hfd : fd ≤ 1024) (N : Nat) (d : DkT) (on le wr ss : Int32) (hE1 : 350 + N ≤ gN E) (hN : N ≤ 1024) (hdv : DkV E f N d on le wr ss) (hdo : dOk N d) (hun : ¬ (¬ mo = 0 ∧ ¬ on = 0)) (x0 : Int32) : Ct E 7 yX11_hold cX11_hold 2 (some .int) [.ref (gAd E (0)), .int (x0)] f (fun _ _ => False, fun X g => X = "java/lang/IllegalStateException" ∧ MnV E g tp fd mo ∧ Fr MnK f g) := by
  obtain ⟨m0, m1⟩ := id hm
  refine Ct.of (by decide) (Nat.le_of_ble_eq_true rfl) (fun sz => ?_)
  refine G.eql [(0, .ref (gAd E (0))), (1, .int (x0))] rfl ?_
  refine G.go tv_X11_hold 1 1 [(0, .ref (gAd E (0))), (1, .int (x0))] [.ref (gAd E (0))] rfl ?_
  refine G.callV (0) [] [] (c_X11_needMounted E f tp fd mo hE hm (by omega) N d on le wr ss hE1 hN hdv hdo) cls_X11 (by omega) (m0) cw_X11_221 w_1320 w_27 (Nat.le_of_ble_eq_true rfl) rfl (Nat.le_of_ble_eq_true rfl) (tbd tv_X11_hold rfl) (fun v1 f1 q1 => ?_) (fun X g q => ⟨q.1, by rw [← q.2.1]; exact ⟨hm, Fr.rf⟩⟩)
  obtain ⟨-, -, q1, q2⟩ := q1
  exact absurd ⟨q1, q2⟩ hun
def tb_X11_release : List (Nat × Instr × Nat) := [(0, .aload_n 0, 1), (1, .invokevirtual 221, 3), (4, .aload_n 0, 1), (5, .getfield 103, 3), (8, .iload_n 1, 1), (9, .invokevirtual 250, 3), (12, .ifCond .ne 6, 3), (15, .bipush (-11), 2), (17, .ireturn, 1), (18, .aload_n 0, 1), (19, .getfield 94, 3), (22, .getfield 253, 3), (25, .iload_n 1, 1), (26, .iaload, 1), (27, .ifCond .ne 6, 3), (30, .bipush (-9), 2), (32, .ireturn, 1), (33, .aload_n 0, 1), (34, .getfield 94, 3), (37, .getfield 253, 3), (40, .iload_n 1, 1), (41, .dup2, 1), (42, .iaload, 1), (43, .iconst 1, 1), (44, .isub, 1), (45, .iastore, 1), (46, .aload_n 0, 1), (47, .getfield 94, 3), (50, .getfield 253, 3), (53, .iload_n 1, 1), (54, .iaload, 1), (55, .istore_n 2, 1), (56, .aload_n 0, 1), (57, .iload_n 1, 1), (58, .invokevirtual 387, 3), (61, .iload_n 2, 1), (62, .ireturn, 1)]
theorem tv_X11_release : Tv cX11_release tb_X11_release := by
  unfold Tv
  decide +kernel
set_option maxRecDepth 100000 in
set_option maxHeartbeats 4000000 in
theorem u_X11_release (E : gE) (f : Nat → va_E) (tp : Nat → Int32) (fd : Nat) (mo : Int32) (hE : 350 ≤ gN E) (hm : MnV E f tp fd mo) (hfd : fd ≤ 1024) (N : Nat) (d : DkT) (on le wr ss : Int32) (hE1 : 350 + N ≤ gN E) (hN : N ≤ 1024) (hdv : DkV E f N d on le wr ss) (hdo : dOk N d) (hun : ¬ (¬ mo = 0 ∧ ¬ on = 0)) (x0 : Int32) : Ct E 7 yX11_release cX11_release 3 (some .int) [.ref (gAd E (0)), .int (x0)] f (fun _ _ => False, fun X g => X = "java/lang/IllegalStateException" ∧ MnV E g tp fd mo ∧ Fr MnK f g) := by
  obtain ⟨m0, m1⟩ := id hm
  refine Ct.of (by decide) (Nat.le_of_ble_eq_true rfl) (fun sz => ?_)
  refine G.eql [(0, .ref (gAd E (0))), (1, .int (x0))] rfl ?_
  refine G.go tv_X11_release 1 1 [(0, .ref (gAd E (0))), (1, .int (x0))] [.ref (gAd E (0))] rfl ?_
  refine G.callV (0) [] [] (c_X11_needMounted E f tp fd mo hE hm (by omega) N d on le wr ss hE1 hN hdv hdo) cls_X11 (by omega) (m0) cw_X11_221 w_1320 w_27 (Nat.le_of_ble_eq_true rfl) rfl (Nat.le_of_ble_eq_true rfl) (tbd tv_X11_release rfl) (fun v1 f1 q1 => ?_) (fun X g q => ⟨q.1, by rw [← q.2.1]; exact ⟨hm, Fr.rf⟩⟩)
  obtain ⟨-, -, q1, q2⟩ := q1
  exact absurd ⟨q1, q2⟩ hun
def tb_X11_read : List (Nat × Instr × Nat) := [(0, .aload_n 0, 1), (1, .invokevirtual 221, 3), (4, .aload_n 0, 1), (5, .getfield 103, 3), (8, .iload_n 1, 1), (9, .invokevirtual 250, 3), (12, .iconst 1, 1), (13, .if_icmp .ne 15, 3), (16, .aload_n 0, 1), (17, .getfield 121, 3), (20, .iload_n 1, 1), (21, .iload_n 2, 1), (22, .invokevirtual 390, 3), (25, .goto 4, 3), (28, .iconst (-1), 1), (29, .ireturn, 1)]
theorem tv_X11_read : Tv cX11_read tb_X11_read := by
  unfold Tv
  decide +kernel
set_option maxRecDepth 100000 in
set_option maxHeartbeats 4000000 in
theorem u_X11_read (E : gE) (f : Nat → va_E) (tp : Nat → Int32) (fd : Nat) (mo : Int32) (hE : 350 ≤ gN E) (hm : MnV E f tp fd mo) (hfd : fd ≤ 1024) (N : Nat) (d : DkT) (on le wr ss : Int32) (hE1 : 350 + N ≤ gN E) (hN : N ≤ 1024) (hdv : DkV E f N d on le wr ss) (hdo : dOk N d) (hun : ¬ (¬ mo = 0 ∧ ¬ on = 0)) (x0 : Int32) (x1 : Int32) : Ct E 7 yX11_read cX11_read 3 (some .int) [.ref (gAd E (0)), .int (x0), .int (x1)] f (fun _ _ => False, fun X g => X = "java/lang/IllegalStateException" ∧ MnV E g tp fd mo ∧ Fr MnK f g) := by
  obtain ⟨m0, m1⟩ := id hm
  refine Ct.of (by decide) (Nat.le_of_ble_eq_true rfl) (fun sz => ?_)
  refine G.eql [(0, .ref (gAd E (0))), (1, .int (x0)), (2, .int (x1))] rfl ?_
  refine G.go tv_X11_read 1 1 [(0, .ref (gAd E (0))), (1, .int (x0)), (2, .int (x1))] [.ref (gAd E (0))] rfl ?_
  refine G.callV (0) [] [] (c_X11_needMounted E f tp fd mo hE hm (by omega) N d on le wr ss hE1 hN hdv hdo) cls_X11 (by omega) (m0) cw_X11_221 w_1320 w_27 (Nat.le_of_ble_eq_true rfl) rfl (Nat.le_of_ble_eq_true rfl) (tbd tv_X11_read rfl) (fun v1 f1 q1 => ?_) (fun X g q => ⟨q.1, by rw [← q.2.1]; exact ⟨hm, Fr.rf⟩⟩)
  obtain ⟨-, -, q1, q2⟩ := q1
  exact absurd ⟨q1, q2⟩ hun
def tb_X11_about : List (Nat × Instr × Nat) := [(0, .aload_n 0, 1), (1, .invokevirtual 221, 3), (4, .iload_n 2, 1), (5, .ifCond .lt 9, 3), (8, .iload_n 2, 1), (9, .bipush 6, 2), (11, .if_icmp .le 14, 3), (14, .new 201, 3), (17, .dup, 1), (18, .ldc_w 393, 3), (21, .invokespecial 205, 3), (24, .athrow, 1), (25, .aload_n 0, 1), (26, .getfield 103, 3), (29, .iload_n 1, 1), (30, .invokevirtual 250, 3), (33, .istore_n 3, 1), (34, .iload_n 3, 1), (35, .ifCond .ne 6, 3), (38, .bipush (-11), 2), (40, .ireturn, 1), (41, .iload_n 2, 1), (42, .tableswitch 85 0 5 #[38, 40, 49, 58, 67, 76], 38), (80, .iload_n 3, 1), (81, .ireturn, 1), (82, .aload_n 0, 1), (83, .getfield 103, 3), (86, .iload_n 1, 1), (87, .invokevirtual 362, 3), (90, .ireturn, 1), (91, .aload_n 0, 1), (92, .getfield 103, 3), (95, .iload_n 1, 1), (96, .invokevirtual 395, 3), (99, .ireturn, 1), (100, .aload_n 0, 1), (101, .getfield 103, 3), (104, .iload_n 1, 1), (105, .invokevirtual 398, 3), (108, .ireturn, 1), (109, .aload_n 0, 1), (110, .getfield 112, 3), (113, .iload_n 1, 1), (114, .invokevirtual 299, 3), (117, .ireturn, 1), (118, .aload_n 0, 1), (119, .getfield 103, 3), (122, .iload_n 1, 1), (123, .invokevirtual 329, 3), (126, .ireturn, 1), (127, .aload_n 0, 1), (128, .getfield 94, 3), (131, .iload_n 1, 1), (132, .invokevirtual 237, 3), (135, .ireturn, 1)]
theorem tv_X11_about : Tv cX11_about tb_X11_about := by
  unfold Tv
  decide +kernel
set_option maxRecDepth 100000 in
set_option maxHeartbeats 4000000 in
theorem u_X11_about (E : gE) (f : Nat → va_E) (tp : Nat → Int32) (fd : Nat) (mo : Int32) (hE : 350 ≤ gN E) (hm : MnV E f tp fd mo) (hfd : fd ≤ 1024) (N : Nat) (d : DkT) (on le wr ss : Int32) (hE1 : 350 + N ≤ gN E) (hN : N ≤ 1024) (hdv : DkV E f N d on le wr ss) (hdo : dOk N d) (hun : ¬ (¬ mo = 0 ∧ ¬ on = 0)) (x0 : Int32) (x1 : Int32) : Ct E 7 yX11_about cX11_about 4 (some .int) [.ref (gAd E (0)), .int (x0), .int (x1)] f (fun _ _ => False, fun X g => X = "java/lang/IllegalStateException" ∧ MnV E g tp fd mo ∧ Fr MnK f g) := by
  obtain ⟨m0, m1⟩ := id hm
  refine Ct.of (by decide) (Nat.le_of_ble_eq_true rfl) (fun sz => ?_)
  refine G.eql [(0, .ref (gAd E (0))), (1, .int (x0)), (2, .int (x1))] rfl ?_
  refine G.go tv_X11_about 1 1 [(0, .ref (gAd E (0))), (1, .int (x0)), (2, .int (x1))] [.ref (gAd E (0))] rfl ?_
  refine G.callV (0) [] [] (c_X11_needMounted E f tp fd mo hE hm (by omega) N d on le wr ss hE1 hN hdv hdo) cls_X11 (by omega) (m0) cw_X11_221 w_1320 w_27 (Nat.le_of_ble_eq_true rfl) rfl (Nat.le_of_ble_eq_true rfl) (tbd tv_X11_about rfl) (fun v1 f1 q1 => ?_) (fun X g q => ⟨q.1, by rw [← q.2.1]; exact ⟨hm, Fr.rf⟩⟩)
  obtain ⟨-, -, q1, q2⟩ := q1
  exact absurd ⟨q1, q2⟩ hun
def tb_X11_where : List (Nat × Instr × Nat) := [(0, .aload_n 0, 1), (1, .invokevirtual 221, 3), (4, .iload_n 2, 1), (5, .ifCond .lt 10, 3), (8, .iload_n 2, 1), (9, .sipush 4168, 3), (12, .if_icmp .lt 14, 3), (15, .new 201, 3), (18, .dup, 1), (19, .ldc_w 401, 3), (22, .invokespecial 205, 3), (25, .athrow, 1), (26, .aload_n 0, 1), (27, .getfield 103, 3), (30, .iload_n 1, 1), (31, .invokevirtual 250, 3), (34, .ifCond .ne 6, 3), (37, .bipush (-11), 2), (39, .ireturn, 1), (40, .iload_n 2, 1), (41, .aload_n 0, 1), (42, .getfield 103, 3), (45, .iload_n 1, 1), (46, .invokevirtual 362, 3), (49, .invokestatic 368, 3), (52, .if_icmp .ge 16, 3), (55, .aload_n 0, 1), (56, .getfield 103, 3), (59, .iload_n 1, 1), (60, .iload_n 2, 1), (61, .iconst 0, 1), (62, .invokevirtual 403, 3), (65, .goto 4, 3), (68, .iconst 0, 1), (69, .ireturn, 1)]
theorem tv_X11_where : Tv cX11_where tb_X11_where := by
  unfold Tv
  decide +kernel
set_option maxRecDepth 100000 in
set_option maxHeartbeats 4000000 in
theorem u_X11_where (E : gE) (f : Nat → va_E) (tp : Nat → Int32) (fd : Nat) (mo : Int32) (hE : 350 ≤ gN E) (hm : MnV E f tp fd mo) (hfd : fd ≤ 1024) (N : Nat) (d : DkT) (on le wr ss : Int32) (hE1 : 350 + N ≤ gN E) (hN : N ≤ 1024) (hdv : DkV E f N d on le wr ss) (hdo : dOk N d) (hun : ¬ (¬ mo = 0 ∧ ¬ on = 0)) (x0 : Int32) (x1 : Int32) : Ct E 7 yX11_where cX11_where 3 (some .int) [.ref (gAd E (0)), .int (x0), .int (x1)] f (fun _ _ => False, fun X g => X = "java/lang/IllegalStateException" ∧ MnV E g tp fd mo ∧ Fr MnK f g) := by
  obtain ⟨m0, m1⟩ := id hm
  refine Ct.of (by decide) (Nat.le_of_ble_eq_true rfl) (fun sz => ?_)
  refine G.eql [(0, .ref (gAd E (0))), (1, .int (x0)), (2, .int (x1))] rfl ?_
  refine G.go tv_X11_where 1 1 [(0, .ref (gAd E (0))), (1, .int (x0)), (2, .int (x1))] [.ref (gAd E (0))] rfl ?_
  refine G.callV (0) [] [] (c_X11_needMounted E f tp fd mo hE hm (by omega) N d on le wr ss hE1 hN hdv hdo) cls_X11 (by omega) (m0) cw_X11_221 w_1320 w_27 (Nat.le_of_ble_eq_true rfl) rfl (Nat.le_of_ble_eq_true rfl) (tbd tv_X11_where rfl) (fun v1 f1 q1 => ?_) (fun X g q => ⟨q.1, by rw [← q.2.1]; exact ⟨hm, Fr.rf⟩⟩)
  obtain ⟨-, -, q1, q2⟩ := q1
  exact absurd ⟨q1, q2⟩ hun
def tb_X11_entry : List (Nat × Instr × Nat) := [(0, .aload_n 0, 1), (1, .invokevirtual 221, 3), (4, .aload_n 0, 1), (5, .getfield 112, 3), (8, .iload_n 1, 1), (9, .iload_n 2, 1), (10, .invokevirtual 406, 3), (13, .istore_n 3, 1), (14, .iload_n 3, 1), (15, .iconst (-1), 1), (16, .if_icmp .ne 14, 3), (19, .new 409, 3), (22, .dup, 1), (23, .ldc_w 411, 3), (26, .invokespecial 413, 3), (29, .athrow, 1), (30, .aload_n 0, 1), (31, .getfield 112, 3), (34, .iload_n 1, 1), (35, .iload_n 3, 1), (36, .invokevirtual 316, 3), (39, .ireturn, 1)]
theorem tv_X11_entry : Tv cX11_entry tb_X11_entry := by
  unfold Tv
  decide +kernel
set_option maxRecDepth 100000 in
set_option maxHeartbeats 4000000 in
theorem u_X11_entry (E : gE) (f : Nat → va_E) (tp : Nat → Int32) (fd : Nat) (mo : Int32) (hE : 350 ≤ gN E) (hm : MnV E f tp fd mo) (hfd : fd ≤ 1024) (N : Nat) (d : DkT) (on le wr ss : Int32) (hE1 : 350 + N ≤ gN E) (hN : N ≤ 1024) (hdv : DkV E f N d on le wr ss) (hdo : dOk N d) (hun : ¬ (¬ mo = 0 ∧ ¬ on = 0)) (x0 : Int32) (x1 : Int32) : Ct E 7 yX11_entry cX11_entry 4 (some .int) [.ref (gAd E (0)), .int (x0), .int (x1)] f (fun _ _ => False, fun X g => X = "java/lang/IllegalStateException" ∧ MnV E g tp fd mo ∧ Fr MnK f g) := by
  obtain ⟨m0, m1⟩ := id hm
  refine Ct.of (by decide) (Nat.le_of_ble_eq_true rfl) (fun sz => ?_)
  refine G.eql [(0, .ref (gAd E (0))), (1, .int (x0)), (2, .int (x1))] rfl ?_
  refine G.go tv_X11_entry 1 1 [(0, .ref (gAd E (0))), (1, .int (x0)), (2, .int (x1))] [.ref (gAd E (0))] rfl ?_
  refine G.callV (0) [] [] (c_X11_needMounted E f tp fd mo hE hm (by omega) N d on le wr ss hE1 hN hdv hdo) cls_X11 (by omega) (m0) cw_X11_221 w_1320 w_27 (Nat.le_of_ble_eq_true rfl) rfl (Nat.le_of_ble_eq_true rfl) (tbd tv_X11_entry rfl) (fun v1 f1 q1 => ?_) (fun X g q => ⟨q.1, by rw [← q.2.1]; exact ⟨hm, Fr.rf⟩⟩)
  obtain ⟨-, -, q1, q2⟩ := q1
  exact absurd ⟨q1, q2⟩ hun
def tb_X11_letter : List (Nat × Instr × Nat) := [(0, .aload_n 0, 1), (1, .invokevirtual 221, 3), (4, .aload_n 0, 1), (5, .getfield 112, 3), (8, .iload_n 1, 1), (9, .iload_n 2, 1), (10, .invokevirtual 406, 3), (13, .istore 4, 2), (15, .iload 4, 2), (17, .iconst (-1), 1), (18, .if_icmp .eq 7, 3), (21, .iload_n 3, 1), (22, .ifCond .ge 14, 3), (25, .new 409, 3), (28, .dup, 1), (29, .ldc_w 414, 3), (32, .invokespecial 413, 3), (35, .athrow, 1), (36, .aload_n 0, 1), (37, .getfield 112, 3), (40, .iload_n 1, 1), (41, .iload 4, 2), (43, .iload_n 3, 1), (44, .invokevirtual 416, 3), (47, .ireturn, 1)]
theorem tv_X11_letter : Tv cX11_letter tb_X11_letter := by
  unfold Tv
  decide +kernel
set_option maxRecDepth 100000 in
set_option maxHeartbeats 4000000 in
theorem u_X11_letter (E : gE) (f : Nat → va_E) (tp : Nat → Int32) (fd : Nat) (mo : Int32) (hE : 350 ≤ gN E) (hm : MnV E f tp fd mo) (hfd : fd ≤ 1024) (N : Nat) (d : DkT) (on le wr ss : Int32) (hE1 : 350 + N ≤ gN E) (hN : N ≤ 1024) (hdv : DkV E f N d on le wr ss) (hdo : dOk N d) (hun : ¬ (¬ mo = 0 ∧ ¬ on = 0)) (x0 : Int32) (x1 : Int32) (x2 : Int32) : Ct E 7 yX11_letter cX11_letter 5 (some .int) [.ref (gAd E (0)), .int (x0), .int (x1), .int (x2)] f (fun _ _ => False, fun X g => X = "java/lang/IllegalStateException" ∧ MnV E g tp fd mo ∧ Fr MnK f g) := by
  obtain ⟨m0, m1⟩ := id hm
  refine Ct.of (by decide) (Nat.le_of_ble_eq_true rfl) (fun sz => ?_)
  refine G.eql [(0, .ref (gAd E (0))), (1, .int (x0)), (2, .int (x1)), (3, .int (x2))] rfl ?_
  refine G.go tv_X11_letter 1 1 [(0, .ref (gAd E (0))), (1, .int (x0)), (2, .int (x1)), (3, .int (x2))] [.ref (gAd E (0))] rfl ?_
  refine G.callV (0) [] [] (c_X11_needMounted E f tp fd mo hE hm (by omega) N d on le wr ss hE1 hN hdv hdo) cls_X11 (by omega) (m0) cw_X11_221 w_1320 w_27 (Nat.le_of_ble_eq_true rfl) rfl (Nat.le_of_ble_eq_true rfl) (tbd tv_X11_letter rfl) (fun v1 f1 q1 => ?_) (fun X g q => ⟨q.1, by rw [← q.2.1]; exact ⟨hm, Fr.rf⟩⟩)
  obtain ⟨-, -, q1, q2⟩ := q1
  exact absurd ⟨q1, q2⟩ hun
def tb_X11_open : List (Nat × Instr × Nat) := [(0, .aload_n 0, 1), (1, .invokevirtual 272, 3), (4, .istore_n 2, 1), (5, .aload_n 0, 1), (6, .invokevirtual 221, 3), (9, .iload_n 1, 1), (10, .bipush 8, 2), (12, .iand, 1), (13, .ifCond .eq 7, 3), (16, .iconst 1, 1), (17, .goto 4, 3), (20, .iconst 0, 1), (21, .istore_n 3, 1), (22, .iload_n 1, 1), (23, .ifCond .lt 26, 3), (26, .iload_n 1, 1), (27, .bipush 15, 2), (29, .if_icmp .gt 20, 3), (32, .iload_n 1, 1), (33, .iconst 3, 1), (34, .iand, 1), (35, .iconst 3, 1), (36, .if_icmp .eq 13, 3), (39, .iload_n 3, 1), (40, .ifCond .eq 20, 3), (43, .iload_n 1, 1), (44, .iconst 3, 1), (45, .iand, 1), (46, .ifCond .ne 14, 3), (49, .new 201, 3), (52, .dup, 1), (53, .ldc_w 419, 3), (56, .invokespecial 205, 3), (59, .athrow, 1), (60, .aload_n 0, 1), (61, .getfield 16, 3), (64, .aload_n 0, 1), (65, .getfield 9, 3), (68, .iconst 0, 1), (69, .iload_n 2, 1), (70, .invokevirtual 259, 3), (73, .ifCond .ne 6, 3), (76, .bipush (-6), 2), (78, .ireturn, 1), (79, .aload_n 0, 1), (80, .getfield 112, 3), (83, .aload_n 0, 1), (84, .getfield 16, 3), (87, .aload_n 0, 1), (88, .getfield 16, 3), (91, .getfield 275, 3), (94, .invokevirtual 278, 3), (97, .istore 4, 2), (99, .iload 4, 2), (101, .iconst (-1), 1), (102, .if_icmp .ne 13, 3), (105, .iload_n 1, 1), (106, .iconst 4, 1), (107, .iand, 1), (108, .ifCond .eq 7, 3), (111, .iconst 1, 1), (112, .goto 4, 3), (115, .iconst 0, 1), (116, .istore 5, 2), (118, .iload 5, 2), (120, .ifCond .eq 26, 3), (123, .aload_n 0, 1), (124, .getfield 112, 3), (127, .aload_n 0, 1), (128, .getfield 16, 3), (131, .aload_n 0, 1), (132, .getfield 16, 3), (135, .getfield 275, 3), (138, .iconst 1, 1), (139, .isub, 1), (140, .invokevirtual 278, 3), (143, .goto 5, 3), (146, .iload 4, 2), (148, .istore 6, 2), (150, .iload 6, 2), (152, .ifCond .ge 6, 3), (155, .iload 6, 2), (157, .ireturn, 1), (158, .iload 5, 2), (160, .ifCond .ne 19, 3), (163, .aload_n 0, 1), (164, .getfield 103, 3), (167, .iload 4, 2), (169, .invokevirtual 250, 3), (172, .iconst 2, 1), (173, .if_icmp .ne 6, 3), (176, .bipush (-4), 2), (178, .ireturn, 1), (179, .aload_n 0, 1), (180, .getfield 94, 3), (183, .invokevirtual 421, 3), (186, .istore 7, 2), (188, .iload 7, 2), (190, .iconst (-1), 1), (191, .if_icmp .ne 6, 3), (194, .bipush (-9), 2), (196, .ireturn, 1), (197, .iload 5, 2), (199, .ifCond .eq 47, 3), (202, .aload_n 0, 1), (203, .iload 6, 2), (205, .invokevirtual 286, 3), (208, .istore 8, 2), (210, .iload 8, 2), (212, .ifCond .ge 6, 3), (215, .iload 8, 2), (217, .ireturn, 1), (218, .aload_n 0, 1), (219, .getfield 103, 3), (222, .iconst 1, 1), (223, .invokevirtual 289, 3), (226, .istore 4, 2), (228, .aload_n 0, 1), (229, .getfield 112, 3), (232, .iload 6, 2), (234, .aload_n 0, 1), (235, .getfield 16, 3), (238, .iload 4, 2), (240, .invokevirtual 292, 3), (243, .goto 17, 3), (246, .iload_n 3, 1), (247, .ifCond .eq 13, 3), (250, .aload_n 0, 1), (251, .getfield 103, 3), (254, .iload 4, 2), (256, .iconst 0, 1), (257, .invokevirtual 365, 3), (260, .aload_n 0, 1), (261, .getfield 94, 3), (264, .iload 7, 2), (266, .iload 4, 2), (268, .iload_n 1, 1), (269, .iconst 3, 1), (270, .iand, 1), (271, .invokevirtual 422, 3), (274, .aload_n 0, 1), (275, .getfield 87, 3), (278, .invokevirtual 244, 3), (281, .iload 7, 2), (283, .ireturn, 1)]
theorem tv_X11_open : Tv cX11_open tb_X11_open := by
  unfold Tv
  decide +kernel
set_option maxRecDepth 100000 in
set_option maxHeartbeats 4000000 in
theorem u_X11_open (E : gE) (f : Nat → va_E) (tp : Nat → Int32) (fd : Nat) (mo : Int32) (hE : 350 ≤ gN E) (hm : MnV E f tp fd mo) (hfd : fd ≤ 1024) (N : Nat) (d : DkT) (on le wr ss : Int32) (hE1 : 350 + N ≤ gN E) (hN : N ≤ 1024) (hdv : DkV E f N d on le wr ss) (hdo : dOk N d) (hun : ¬ (¬ mo = 0 ∧ ¬ on = 0)) (x0 : Int32) : Ct E 7 yX11_open cX11_open 9 (some .int) [.ref (gAd E (0)), .int (x0)] f (fun _ _ => False, fun X g => X = "java/lang/IllegalStateException" ∧ MnV E g tp 0 mo ∧ Fr MnK f g) := by
  obtain ⟨m0, m1⟩ := id hm
  refine Ct.of (by decide) (Nat.le_of_ble_eq_true rfl) (fun sz => ?_)
  refine G.eql [(0, .ref (gAd E (0))), (1, .int (x0))] rfl ?_
  refine G.go tv_X11_open 1 1 [(0, .ref (gAd E (0))), (1, .int (x0))] [.ref (gAd E (0))] rfl ?_
  refine G.callV (0) [] [] (c_X11_useTape E f tp fd mo hE hm hfd) cls_X11 (by omega) (m0) cw_X11_272 w_1343 w_29 (Nat.le_of_ble_eq_true rfl) rfl (Nat.le_of_ble_eq_true rfl) (tbd tv_X11_open rfl) (fun v1 f1 q1 => ?_) (fun _ _ h => h.elim)
  obtain ⟨rfl, a1, b1⟩ := q1
  refine G.eqs [.int (nI fd)] rfl ?_
  have d1 : DkV E f1 N d on le wr ss := hdv.of (fun k hk => b1 k (fun q => by unfold MnK at q; rcases hk with hk | hk <;> omega))
  refine G.go tv_X11_open 2 6 [(0, .ref (gAd E (0))), (1, .int (x0)), (2, .int (nI fd))] [.ref (gAd E (0))] rfl ?_
  refine G.callV (0) [] [] (c_X11_needMounted E f1 tp 0 mo hE a1 (by omega) N d on le wr ss hE1 hN d1 hdo) cls_X11 (by omega) (a1.1) cw_X11_221 w_1320 w_27 (Nat.le_of_ble_eq_true rfl) rfl (Nat.le_of_ble_eq_true rfl) (tbd tv_X11_open rfl) (fun v2 f2 q2 => ?_) (fun X g q => ⟨q.1, by rw [← q.2.1]; exact ⟨a1, b1⟩⟩)
  obtain ⟨-, -, q1, q2⟩ := q2
  exact absurd ⟨q1, q2⟩ hun
def tb_X11_close : List (Nat × Instr × Nat) := [(0, .aload_n 0, 1), (1, .invokevirtual 221, 3), (4, .aload_n 0, 1), (5, .getfield 94, 3), (8, .iload_n 1, 1), (9, .invokevirtual 425, 3), (12, .ifCond .ne 6, 3), (15, .bipush (-13), 2), (17, .ireturn, 1), (18, .aload_n 0, 1), (19, .getfield 94, 3), (22, .getfield 428, 3), (25, .iload_n 1, 1), (26, .iaload, 1), (27, .istore_n 2, 1), (28, .aload_n 0, 1), (29, .getfield 94, 3), (32, .getfield 428, 3), (35, .iload_n 1, 1), (36, .iconst 0, 1), (37, .iastore, 1), (38, .aload_n 0, 1), (39, .iload_n 2, 1), (40, .invokevirtual 387, 3), (43, .iconst 0, 1), (44, .ireturn, 1)]
theorem tv_X11_close : Tv cX11_close tb_X11_close := by
  unfold Tv
  decide +kernel
set_option maxRecDepth 100000 in
set_option maxHeartbeats 4000000 in
theorem u_X11_close (E : gE) (f : Nat → va_E) (tp : Nat → Int32) (fd : Nat) (mo : Int32) (hE : 350 ≤ gN E) (hm : MnV E f tp fd mo) (hfd : fd ≤ 1024) (N : Nat) (d : DkT) (on le wr ss : Int32) (hE1 : 350 + N ≤ gN E) (hN : N ≤ 1024) (hdv : DkV E f N d on le wr ss) (hdo : dOk N d) (hun : ¬ (¬ mo = 0 ∧ ¬ on = 0)) (x0 : Int32) : Ct E 7 yX11_close cX11_close 3 (some .int) [.ref (gAd E (0)), .int (x0)] f (fun _ _ => False, fun X g => X = "java/lang/IllegalStateException" ∧ MnV E g tp fd mo ∧ Fr MnK f g) := by
  obtain ⟨m0, m1⟩ := id hm
  refine Ct.of (by decide) (Nat.le_of_ble_eq_true rfl) (fun sz => ?_)
  refine G.eql [(0, .ref (gAd E (0))), (1, .int (x0))] rfl ?_
  refine G.go tv_X11_close 1 1 [(0, .ref (gAd E (0))), (1, .int (x0))] [.ref (gAd E (0))] rfl ?_
  refine G.callV (0) [] [] (c_X11_needMounted E f tp fd mo hE hm (by omega) N d on le wr ss hE1 hN hdv hdo) cls_X11 (by omega) (m0) cw_X11_221 w_1320 w_27 (Nat.le_of_ble_eq_true rfl) rfl (Nat.le_of_ble_eq_true rfl) (tbd tv_X11_close rfl) (fun v1 f1 q1 => ?_) (fun X g q => ⟨q.1, by rw [← q.2.1]; exact ⟨hm, Fr.rf⟩⟩)
  obtain ⟨-, -, q1, q2⟩ := q1
  exact absurd ⟨q1, q2⟩ hun
def tb_X11_put : List (Nat × Instr × Nat) := [(0, .aload_n 0, 1), (1, .invokevirtual 272, 3), (4, .istore_n 2, 1), (5, .aload_n 0, 1), (6, .invokevirtual 221, 3), (9, .aload_n 0, 1), (10, .getfield 94, 3), (13, .iload_n 1, 1), (14, .invokevirtual 425, 3), (17, .ifCond .ne 6, 3), (20, .bipush (-13), 2), (22, .ireturn, 1), (23, .aload_n 0, 1), (24, .getfield 94, 3), (27, .getfield 431, 3), (30, .iload_n 1, 1), (31, .iaload, 1), (32, .ifCond .ne 6, 3), (35, .bipush (-9), 2), (37, .ireturn, 1), (38, .aload_n 0, 1), (39, .getfield 94, 3), (42, .getfield 428, 3), (45, .iload_n 1, 1), (46, .iaload, 1), (47, .istore_n 3, 1), (48, .aload_n 0, 1), (49, .getfield 94, 3), (52, .getfield 431, 3), (55, .iload_n 1, 1), (56, .iaload, 1), (57, .iconst 2, 1), (58, .if_icmp .ne 14, 3), (61, .aload_n 0, 1), (62, .getfield 103, 3), (65, .iload_n 3, 1), (66, .invokevirtual 362, 3), (69, .goto 12, 3), (72, .aload_n 0, 1), (73, .getfield 94, 3), (76, .getfield 434, 3), (79, .iload_n 1, 1), (80, .iaload, 1), (81, .istore 4, 2), (83, .aload_n 0, 1), (84, .getfield 121, 3), (87, .iload_n 3, 1), (88, .iload 4, 2), (90, .aload_n 0, 1), (91, .getfield 9, 3), (94, .iload_n 2, 1), (95, .invokevirtual 355, 3), (98, .istore 5, 2), (100, .iload 5, 2), (102, .ifCond .le 17, 3), (105, .aload_n 0, 1), (106, .getfield 94, 3), (109, .getfield 434, 3), (112, .iload_n 1, 1), (113, .iload 4, 2), (115, .iload 5, 2), (117, .iadd, 1), (118, .iastore, 1), (119, .iload 5, 2), (121, .ireturn, 1)]
theorem tv_X11_put : Tv cX11_put tb_X11_put := by
  unfold Tv
  decide +kernel
set_option maxRecDepth 100000 in
set_option maxHeartbeats 4000000 in
theorem u_X11_put (E : gE) (f : Nat → va_E) (tp : Nat → Int32) (fd : Nat) (mo : Int32) (hE : 350 ≤ gN E) (hm : MnV E f tp fd mo) (hfd : fd ≤ 1024) (N : Nat) (d : DkT) (on le wr ss : Int32) (hE1 : 350 + N ≤ gN E) (hN : N ≤ 1024) (hdv : DkV E f N d on le wr ss) (hdo : dOk N d) (hun : ¬ (¬ mo = 0 ∧ ¬ on = 0)) (x0 : Int32) : Ct E 7 yX11_put cX11_put 6 (some .int) [.ref (gAd E (0)), .int (x0)] f (fun _ _ => False, fun X g => X = "java/lang/IllegalStateException" ∧ MnV E g tp 0 mo ∧ Fr MnK f g) := by
  obtain ⟨m0, m1⟩ := id hm
  refine Ct.of (by decide) (Nat.le_of_ble_eq_true rfl) (fun sz => ?_)
  refine G.eql [(0, .ref (gAd E (0))), (1, .int (x0))] rfl ?_
  refine G.go tv_X11_put 1 1 [(0, .ref (gAd E (0))), (1, .int (x0))] [.ref (gAd E (0))] rfl ?_
  refine G.callV (0) [] [] (c_X11_useTape E f tp fd mo hE hm hfd) cls_X11 (by omega) (m0) cw_X11_272 w_1343 w_29 (Nat.le_of_ble_eq_true rfl) rfl (Nat.le_of_ble_eq_true rfl) (tbd tv_X11_put rfl) (fun v1 f1 q1 => ?_) (fun _ _ h => h.elim)
  obtain ⟨rfl, a1, b1⟩ := q1
  refine G.eqs [.int (nI fd)] rfl ?_
  have d1 : DkV E f1 N d on le wr ss := hdv.of (fun k hk => b1 k (fun q => by unfold MnK at q; rcases hk with hk | hk <;> omega))
  refine G.go tv_X11_put 2 6 [(0, .ref (gAd E (0))), (1, .int (x0)), (2, .int (nI fd))] [.ref (gAd E (0))] rfl ?_
  refine G.callV (0) [] [] (c_X11_needMounted E f1 tp 0 mo hE a1 (by omega) N d on le wr ss hE1 hN d1 hdo) cls_X11 (by omega) (a1.1) cw_X11_221 w_1320 w_27 (Nat.le_of_ble_eq_true rfl) rfl (Nat.le_of_ble_eq_true rfl) (tbd tv_X11_put rfl) (fun v2 f2 q2 => ?_) (fun X g q => ⟨q.1, by rw [← q.2.1]; exact ⟨a1, b1⟩⟩)
  obtain ⟨-, -, q1, q2⟩ := q2
  exact absurd ⟨q1, q2⟩ hun
def tb_X11_get : List (Nat × Instr × Nat) := [(0, .aload_n 0, 1), (1, .invokevirtual 221, 3), (4, .aload_n 0, 1), (5, .getfield 94, 3), (8, .iload_n 1, 1), (9, .invokevirtual 425, 3), (12, .ifCond .ne 6, 3), (15, .bipush (-13), 2), (17, .ireturn, 1), (18, .aload_n 0, 1), (19, .getfield 121, 3), (22, .aload_n 0, 1), (23, .getfield 94, 3), (26, .getfield 428, 3), (29, .iload_n 1, 1), (30, .iaload, 1), (31, .aload_n 0, 1), (32, .getfield 94, 3), (35, .getfield 434, 3), (38, .iload_n 1, 1), (39, .iaload, 1), (40, .invokevirtual 390, 3), (43, .istore_n 2, 1), (44, .iload_n 2, 1), (45, .iconst (-1), 1), (46, .if_icmp .eq 16, 3), (49, .aload_n 0, 1), (50, .getfield 94, 3), (53, .getfield 434, 3), (56, .iload_n 1, 1), (57, .dup2, 1), (58, .iaload, 1), (59, .iconst 1, 1), (60, .iadd, 1), (61, .iastore, 1), (62, .iload_n 2, 1), (63, .ireturn, 1)]
theorem tv_X11_get : Tv cX11_get tb_X11_get := by
  unfold Tv
  decide +kernel
set_option maxRecDepth 100000 in
set_option maxHeartbeats 4000000 in
theorem u_X11_get (E : gE) (f : Nat → va_E) (tp : Nat → Int32) (fd : Nat) (mo : Int32) (hE : 350 ≤ gN E) (hm : MnV E f tp fd mo) (hfd : fd ≤ 1024) (N : Nat) (d : DkT) (on le wr ss : Int32) (hE1 : 350 + N ≤ gN E) (hN : N ≤ 1024) (hdv : DkV E f N d on le wr ss) (hdo : dOk N d) (hun : ¬ (¬ mo = 0 ∧ ¬ on = 0)) (x0 : Int32) : Ct E 7 yX11_get cX11_get 3 (some .int) [.ref (gAd E (0)), .int (x0)] f (fun _ _ => False, fun X g => X = "java/lang/IllegalStateException" ∧ MnV E g tp fd mo ∧ Fr MnK f g) := by
  obtain ⟨m0, m1⟩ := id hm
  refine Ct.of (by decide) (Nat.le_of_ble_eq_true rfl) (fun sz => ?_)
  refine G.eql [(0, .ref (gAd E (0))), (1, .int (x0))] rfl ?_
  refine G.go tv_X11_get 1 1 [(0, .ref (gAd E (0))), (1, .int (x0))] [.ref (gAd E (0))] rfl ?_
  refine G.callV (0) [] [] (c_X11_needMounted E f tp fd mo hE hm (by omega) N d on le wr ss hE1 hN hdv hdo) cls_X11 (by omega) (m0) cw_X11_221 w_1320 w_27 (Nat.le_of_ble_eq_true rfl) rfl (Nat.le_of_ble_eq_true rfl) (tbd tv_X11_get rfl) (fun v1 f1 q1 => ?_) (fun X g q => ⟨q.1, by rw [← q.2.1]; exact ⟨hm, Fr.rf⟩⟩)
  obtain ⟨-, -, q1, q2⟩ := q1
  exact absurd ⟨q1, q2⟩ hun
def tb_X11_seek : List (Nat × Instr × Nat) := [(0, .aload_n 0, 1), (1, .invokevirtual 221, 3), (4, .aload_n 0, 1), (5, .getfield 94, 3), (8, .iload_n 1, 1), (9, .invokevirtual 425, 3), (12, .ifCond .ne 6, 3), (15, .bipush (-13), 2), (17, .ireturn, 1), (18, .iload_n 2, 1), (19, .ifCond .lt 10, 3), (22, .iload_n 2, 1), (23, .ldc_w 361, 3), (26, .if_icmp .le 6, 3), (29, .bipush (-10), 2), (31, .ireturn, 1), (32, .aload_n 0, 1), (33, .getfield 94, 3), (36, .getfield 434, 3), (39, .iload_n 1, 1), (40, .iaload, 1), (41, .istore_n 3, 1), (42, .aload_n 0, 1), (43, .getfield 94, 3), (46, .getfield 434, 3), (49, .iload_n 1, 1), (50, .iload_n 2, 1), (51, .iastore, 1), (52, .iload_n 3, 1), (53, .ireturn, 1)]
theorem tv_X11_seek : Tv cX11_seek tb_X11_seek := by
  unfold Tv
  decide +kernel
set_option maxRecDepth 100000 in
set_option maxHeartbeats 4000000 in
theorem u_X11_seek (E : gE) (f : Nat → va_E) (tp : Nat → Int32) (fd : Nat) (mo : Int32) (hE : 350 ≤ gN E) (hm : MnV E f tp fd mo) (hfd : fd ≤ 1024) (N : Nat) (d : DkT) (on le wr ss : Int32) (hE1 : 350 + N ≤ gN E) (hN : N ≤ 1024) (hdv : DkV E f N d on le wr ss) (hdo : dOk N d) (hun : ¬ (¬ mo = 0 ∧ ¬ on = 0)) (x0 : Int32) (x1 : Int32) : Ct E 7 yX11_seek cX11_seek 4 (some .int) [.ref (gAd E (0)), .int (x0), .int (x1)] f (fun _ _ => False, fun X g => X = "java/lang/IllegalStateException" ∧ MnV E g tp fd mo ∧ Fr MnK f g) := by
  obtain ⟨m0, m1⟩ := id hm
  refine Ct.of (by decide) (Nat.le_of_ble_eq_true rfl) (fun sz => ?_)
  refine G.eql [(0, .ref (gAd E (0))), (1, .int (x0)), (2, .int (x1))] rfl ?_
  refine G.go tv_X11_seek 1 1 [(0, .ref (gAd E (0))), (1, .int (x0)), (2, .int (x1))] [.ref (gAd E (0))] rfl ?_
  refine G.callV (0) [] [] (c_X11_needMounted E f tp fd mo hE hm (by omega) N d on le wr ss hE1 hN hdv hdo) cls_X11 (by omega) (m0) cw_X11_221 w_1320 w_27 (Nat.le_of_ble_eq_true rfl) rfl (Nat.le_of_ble_eq_true rfl) (tbd tv_X11_seek rfl) (fun v1 f1 q1 => ?_) (fun X g q => ⟨q.1, by rw [← q.2.1]; exact ⟨hm, Fr.rf⟩⟩)
  obtain ⟨-, -, q1, q2⟩ := q1
  exact absurd ⟨q1, q2⟩ hun
def tb_X11_look : List (Nat × Instr × Nat) := [(0, .aload_n 0, 1), (1, .invokevirtual 221, 3), (4, .iload_n 2, 1), (5, .ifCond .lt 8, 3), (8, .iload_n 2, 1), (9, .iconst 2, 1), (10, .if_icmp .le 14, 3), (13, .new 201, 3), (16, .dup, 1), (17, .ldc_w 437, 3), (20, .invokespecial 205, 3), (23, .athrow, 1), (24, .aload_n 0, 1), (25, .getfield 94, 3), (28, .iload_n 1, 1), (29, .invokevirtual 425, 3), (32, .ifCond .ne 6, 3), (35, .bipush (-13), 2), (37, .ireturn, 1), (38, .iload_n 2, 1), (39, .lookupswitch 45 #[(0, 25), (1, 35)], 25), (64, .aload_n 0, 1), (65, .getfield 94, 3), (68, .getfield 428, 3), (71, .iload_n 1, 1), (72, .iaload, 1), (73, .ireturn, 1), (74, .aload_n 0, 1), (75, .getfield 94, 3), (78, .getfield 434, 3), (81, .iload_n 1, 1), (82, .iaload, 1), (83, .ireturn, 1), (84, .aload_n 0, 1), (85, .getfield 94, 3), (88, .getfield 431, 3), (91, .iload_n 1, 1), (92, .iaload, 1), (93, .ireturn, 1)]
theorem tv_X11_look : Tv cX11_look tb_X11_look := by
  unfold Tv
  decide +kernel
set_option maxRecDepth 100000 in
set_option maxHeartbeats 4000000 in
theorem u_X11_look (E : gE) (f : Nat → va_E) (tp : Nat → Int32) (fd : Nat) (mo : Int32) (hE : 350 ≤ gN E) (hm : MnV E f tp fd mo) (hfd : fd ≤ 1024) (N : Nat) (d : DkT) (on le wr ss : Int32) (hE1 : 350 + N ≤ gN E) (hN : N ≤ 1024) (hdv : DkV E f N d on le wr ss) (hdo : dOk N d) (hun : ¬ (¬ mo = 0 ∧ ¬ on = 0)) (x0 : Int32) (x1 : Int32) : Ct E 7 yX11_look cX11_look 3 (some .int) [.ref (gAd E (0)), .int (x0), .int (x1)] f (fun _ _ => False, fun X g => X = "java/lang/IllegalStateException" ∧ MnV E g tp fd mo ∧ Fr MnK f g) := by
  obtain ⟨m0, m1⟩ := id hm
  refine Ct.of (by decide) (Nat.le_of_ble_eq_true rfl) (fun sz => ?_)
  refine G.eql [(0, .ref (gAd E (0))), (1, .int (x0)), (2, .int (x1))] rfl ?_
  refine G.go tv_X11_look 1 1 [(0, .ref (gAd E (0))), (1, .int (x0)), (2, .int (x1))] [.ref (gAd E (0))] rfl ?_
  refine G.callV (0) [] [] (c_X11_needMounted E f tp fd mo hE hm (by omega) N d on le wr ss hE1 hN hdv hdo) cls_X11 (by omega) (m0) cw_X11_221 w_1320 w_27 (Nat.le_of_ble_eq_true rfl) rfl (Nat.le_of_ble_eq_true rfl) (tbd tv_X11_look rfl) (fun v1 f1 q1 => ?_) (fun X g q => ⟨q.1, by rw [← q.2.1]; exact ⟨hm, Fr.rf⟩⟩)
  obtain ⟨-, -, q1, q2⟩ := q1
  exact absurd ⟨q1, q2⟩ hun
def tb_X11_begin : List (Nat × Instr × Nat) := [(0, .aload_n 0, 1), (1, .invokevirtual 221, 3), (4, .aload_n 0, 1), (5, .getfield 87, 3), (8, .getfield 224, 3), (11, .ifCond .eq 5, 3), (14, .iconst 0, 1), (15, .ireturn, 1), (16, .aload_n 0, 1), (17, .getfield 87, 3), (20, .iconst 1, 1), (21, .putfield 224, 3), (24, .iconst 1, 1), (25, .ireturn, 1)]
theorem tv_X11_begin : Tv cX11_begin tb_X11_begin := by
  unfold Tv
  decide +kernel
set_option maxRecDepth 100000 in
set_option maxHeartbeats 4000000 in
theorem u_X11_begin (E : gE) (f : Nat → va_E) (tp : Nat → Int32) (fd : Nat) (mo : Int32) (hE : 350 ≤ gN E) (hm : MnV E f tp fd mo) (hfd : fd ≤ 1024) (N : Nat) (d : DkT) (on le wr ss : Int32) (hE1 : 350 + N ≤ gN E) (hN : N ≤ 1024) (hdv : DkV E f N d on le wr ss) (hdo : dOk N d) (hun : ¬ (¬ mo = 0 ∧ ¬ on = 0)) : Ct E 7 yX11_begin cX11_begin 1 (some .boolean) [.ref (gAd E (0))] f (fun _ _ => False, fun X g => X = "java/lang/IllegalStateException" ∧ MnV E g tp fd mo ∧ Fr MnK f g) := by
  obtain ⟨m0, m1⟩ := id hm
  refine Ct.of (by decide) (Nat.le_of_ble_eq_true rfl) (fun sz => ?_)
  refine G.eql [(0, .ref (gAd E (0)))] rfl ?_
  refine G.go tv_X11_begin 1 1 [(0, .ref (gAd E (0)))] [.ref (gAd E (0))] rfl ?_
  refine G.callV (0) [] [] (c_X11_needMounted E f tp fd mo hE hm (by omega) N d on le wr ss hE1 hN hdv hdo) cls_X11 (by omega) (m0) cw_X11_221 w_1320 w_27 (Nat.le_of_ble_eq_true rfl) rfl (Nat.le_of_ble_eq_true rfl) (tbd tv_X11_begin rfl) (fun v1 f1 q1 => ?_) (fun X g q => ⟨q.1, by rw [← q.2.1]; exact ⟨hm, Fr.rf⟩⟩)
  obtain ⟨-, -, q1, q2⟩ := q1
  exact absurd ⟨q1, q2⟩ hun
def tb_X11_end : List (Nat × Instr × Nat) := [(0, .aload_n 0, 1), (1, .invokevirtual 221, 3), (4, .aload_n 0, 1), (5, .getfield 87, 3), (8, .getfield 224, 3), (11, .ifCond .ne 6, 3), (14, .bipush (-9), 2), (16, .ireturn, 1), (17, .aload_n 0, 1), (18, .getfield 87, 3), (21, .iconst 1, 1), (22, .invokevirtual 339, 3), (25, .istore_n 1, 1), (26, .iload_n 1, 1), (27, .bipush 40, 2), (29, .if_icmp .le 15, 3), (32, .aload_n 0, 1), (33, .invokevirtual 227, 3), (36, .aload_n 0, 1), (37, .iconst 0, 1), (38, .invokevirtual 217, 3), (41, .bipush (-12), 2), (43, .ireturn, 1), (44, .aload_n 0, 1), (45, .getfield 87, 3), (48, .iconst 0, 1), (49, .putfield 224, 3), (52, .aload_n 0, 1), (53, .getfield 87, 3), (56, .invokevirtual 244, 3), (59, .iload_n 1, 1), (60, .ireturn, 1)]
theorem tv_X11_end : Tv cX11_end tb_X11_end := by
  unfold Tv
  decide +kernel
set_option maxRecDepth 100000 in
set_option maxHeartbeats 4000000 in
theorem u_X11_end (E : gE) (f : Nat → va_E) (tp : Nat → Int32) (fd : Nat) (mo : Int32) (hE : 350 ≤ gN E) (hm : MnV E f tp fd mo) (hfd : fd ≤ 1024) (N : Nat) (d : DkT) (on le wr ss : Int32) (hE1 : 350 + N ≤ gN E) (hN : N ≤ 1024) (hdv : DkV E f N d on le wr ss) (hdo : dOk N d) (hun : ¬ (¬ mo = 0 ∧ ¬ on = 0)) : Ct E 7 yX11_end cX11_end 2 (some .int) [.ref (gAd E (0))] f (fun _ _ => False, fun X g => X = "java/lang/IllegalStateException" ∧ MnV E g tp fd mo ∧ Fr MnK f g) := by
  obtain ⟨m0, m1⟩ := id hm
  refine Ct.of (by decide) (Nat.le_of_ble_eq_true rfl) (fun sz => ?_)
  refine G.eql [(0, .ref (gAd E (0)))] rfl ?_
  refine G.go tv_X11_end 1 1 [(0, .ref (gAd E (0)))] [.ref (gAd E (0))] rfl ?_
  refine G.callV (0) [] [] (c_X11_needMounted E f tp fd mo hE hm (by omega) N d on le wr ss hE1 hN hdv hdo) cls_X11 (by omega) (m0) cw_X11_221 w_1320 w_27 (Nat.le_of_ble_eq_true rfl) rfl (Nat.le_of_ble_eq_true rfl) (tbd tv_X11_end rfl) (fun v1 f1 q1 => ?_) (fun X g q => ⟨q.1, by rw [← q.2.1]; exact ⟨hm, Fr.rf⟩⟩)
  obtain ⟨-, -, q1, q2⟩ := q1
  exact absurd ⟨q1, q2⟩ hun
def tb_X11_undo : List (Nat × Instr × Nat) := [(0, .aload_n 0, 1), (1, .invokevirtual 221, 3), (4, .aload_n 0, 1), (5, .getfield 87, 3), (8, .getfield 224, 3), (11, .ifCond .ne 6, 3), (14, .bipush (-9), 2), (16, .ireturn, 1), (17, .aload_n 0, 1), (18, .invokevirtual 227, 3), (21, .aload_n 0, 1), (22, .iconst 0, 1), (23, .invokevirtual 217, 3), (26, .iconst 0, 1), (27, .ireturn, 1)]
theorem tv_X11_undo : Tv cX11_undo tb_X11_undo := by
  unfold Tv
  decide +kernel
set_option maxRecDepth 100000 in
set_option maxHeartbeats 4000000 in
theorem u_X11_undo (E : gE) (f : Nat → va_E) (tp : Nat → Int32) (fd : Nat) (mo : Int32) (hE : 350 ≤ gN E) (hm : MnV E f tp fd mo) (hfd : fd ≤ 1024) (N : Nat) (d : DkT) (on le wr ss : Int32) (hE1 : 350 + N ≤ gN E) (hN : N ≤ 1024) (hdv : DkV E f N d on le wr ss) (hdo : dOk N d) (hun : ¬ (¬ mo = 0 ∧ ¬ on = 0)) : Ct E 7 yX11_undo cX11_undo 1 (some .int) [.ref (gAd E (0))] f (fun _ _ => False, fun X g => X = "java/lang/IllegalStateException" ∧ MnV E g tp fd mo ∧ Fr MnK f g) := by
  obtain ⟨m0, m1⟩ := id hm
  refine Ct.of (by decide) (Nat.le_of_ble_eq_true rfl) (fun sz => ?_)
  refine G.eql [(0, .ref (gAd E (0)))] rfl ?_
  refine G.go tv_X11_undo 1 1 [(0, .ref (gAd E (0)))] [.ref (gAd E (0))] rfl ?_
  refine G.callV (0) [] [] (c_X11_needMounted E f tp fd mo hE hm (by omega) N d on le wr ss hE1 hN hdv hdo) cls_X11 (by omega) (m0) cw_X11_221 w_1320 w_27 (Nat.le_of_ble_eq_true rfl) rfl (Nat.le_of_ble_eq_true rfl) (tbd tv_X11_undo rfl) (fun v1 f1 q1 => ?_) (fun X g q => ⟨q.1, by rw [← q.2.1]; exact ⟨hm, Fr.rf⟩⟩)
  obtain ⟨-, -, q1, q2⟩ := q1
  exact absurd ⟨q1, q2⟩ hun
def tb_X11_flush : List (Nat × Instr × Nat) := [(0, .aload_n 0, 1), (1, .invokevirtual 221, 3), (4, .aload_n 0, 1), (5, .getfield 78, 3), (8, .invokevirtual 230, 3), (11, .ireturn, 1)]
theorem tv_X11_flush : Tv cX11_flush tb_X11_flush := by
  unfold Tv
  decide +kernel
set_option maxRecDepth 100000 in
set_option maxHeartbeats 4000000 in
theorem u_X11_flush (E : gE) (f : Nat → va_E) (tp : Nat → Int32) (fd : Nat) (mo : Int32) (hE : 350 ≤ gN E) (hm : MnV E f tp fd mo) (hfd : fd ≤ 1024) (N : Nat) (d : DkT) (on le wr ss : Int32) (hE1 : 350 + N ≤ gN E) (hN : N ≤ 1024) (hdv : DkV E f N d on le wr ss) (hdo : dOk N d) (hun : ¬ (¬ mo = 0 ∧ ¬ on = 0)) : Ct E 7 yX11_flush cX11_flush 1 (some .int) [.ref (gAd E (0))] f (fun _ _ => False, fun X g => X = "java/lang/IllegalStateException" ∧ MnV E g tp fd mo ∧ Fr MnK f g) := by
  obtain ⟨m0, m1⟩ := id hm
  refine Ct.of (by decide) (Nat.le_of_ble_eq_true rfl) (fun sz => ?_)
  refine G.eql [(0, .ref (gAd E (0)))] rfl ?_
  refine G.go tv_X11_flush 1 1 [(0, .ref (gAd E (0)))] [.ref (gAd E (0))] rfl ?_
  refine G.callV (0) [] [] (c_X11_needMounted E f tp fd mo hE hm (by omega) N d on le wr ss hE1 hN hdv hdo) cls_X11 (by omega) (m0) cw_X11_221 w_1320 w_27 (Nat.le_of_ble_eq_true rfl) rfl (Nat.le_of_ble_eq_true rfl) (tbd tv_X11_flush rfl) (fun v1 f1 q1 => ?_) (fun X g q => ⟨q.1, by rw [← q.2.1]; exact ⟨hm, Fr.rf⟩⟩)
  obtain ⟨-, -, q1, q2⟩ := q1
  exact absurd ⟨q1, q2⟩ hun
def tb_X11_sync : List (Nat × Instr × Nat) := [(0, .aload_n 0, 1), (1, .invokevirtual 221, 3), (4, .aload_n 0, 1), (5, .getfield 103, 3), (8, .iload_n 1, 1), (9, .invokevirtual 352, 3), (12, .istore_n 2, 1), (13, .iload_n 2, 1), (14, .ifCond .ge 5, 3), (17, .iload_n 2, 1), (18, .ireturn, 1), (19, .aload_n 0, 1), (20, .getfield 103, 3), (23, .iload_n 1, 1), (24, .invokevirtual 439, 3), (27, .iconst 0, 1), (28, .istore_n 3, 1), (29, .aload_n 0, 1), (30, .getfield 56, 3), (33, .iconst (-1), 1), (34, .invokevirtual 442, 3), (37, .istore 4, 2), (39, .aload_n 0, 1), (40, .getfield 56, 3), (43, .getfield 445, 3), (46, .istore 5, 2), (48, .iload 5, 2), (50, .ifCond .le 50, 3), (53, .iload 4, 2), (55, .iconst (-1), 1), (56, .if_icmp .eq 44, 3), (59, .aload_n 0, 1), (60, .getfield 103, 3), (63, .iload 4, 2), (65, .invokevirtual 448, 3), (68, .ifCond .eq 15, 3), (71, .aload_n 0, 1), (72, .getfield 56, 3), (75, .iload 4, 2), (77, .invokevirtual 451, 3), (80, .iinc 3 1, 3), (83, .aload_n 0, 1), (84, .getfield 56, 3), (87, .iload 4, 2), (89, .invokevirtual 442, 3), (92, .istore 4, 2), (94, .iinc 5 (-1), 3), (97, .goto (-49), 3), (100, .aload_n 0, 1), (101, .getfield 47, 3), (104, .invokevirtual 454, 3), (107, .iload_n 3, 1), (108, .ireturn, 1)]
theorem tv_X11_sync : Tv cX11_sync tb_X11_sync := by
  unfold Tv
  decide +kernel
set_option maxRecDepth 100000 in
set_option maxHeartbeats 4000000 in
theorem u_X11_sync (E : gE) (f : Nat → va_E) (tp : Nat → Int32) (fd : Nat) (mo : Int32) (hE : 350 ≤ gN E) (hm : MnV E f tp fd mo) (hfd : fd ≤ 1024) (N : Nat) (d : DkT) (on le wr ss : Int32) (hE1 : 350 + N ≤ gN E) (hN : N ≤ 1024) (hdv : DkV E f N d on le wr ss) (hdo : dOk N d) (hun : ¬ (¬ mo = 0 ∧ ¬ on = 0)) (x0 : Int32) : Ct E 7 yX11_sync cX11_sync 6 (some .int) [.ref (gAd E (0)), .int (x0)] f (fun _ _ => False, fun X g => X = "java/lang/IllegalStateException" ∧ MnV E g tp fd mo ∧ Fr MnK f g) := by
  obtain ⟨m0, m1⟩ := id hm
  refine Ct.of (by decide) (Nat.le_of_ble_eq_true rfl) (fun sz => ?_)
  refine G.eql [(0, .ref (gAd E (0))), (1, .int (x0))] rfl ?_
  refine G.go tv_X11_sync 1 1 [(0, .ref (gAd E (0))), (1, .int (x0))] [.ref (gAd E (0))] rfl ?_
  refine G.callV (0) [] [] (c_X11_needMounted E f tp fd mo hE hm (by omega) N d on le wr ss hE1 hN hdv hdo) cls_X11 (by omega) (m0) cw_X11_221 w_1320 w_27 (Nat.le_of_ble_eq_true rfl) rfl (Nat.le_of_ble_eq_true rfl) (tbd tv_X11_sync rfl) (fun v1 f1 q1 => ?_) (fun X g q => ⟨q.1, by rw [← q.2.1]; exact ⟨hm, Fr.rf⟩⟩)
  obtain ⟨-, -, q1, q2⟩ := q1
  exact absurd ⟨q1, q2⟩ hun
def tb_X11_apply : List (Nat × Instr × Nat) := [(0, .aload_n 0, 1), (1, .invokevirtual 221, 3), (4, .aload_n 0, 1), (5, .getfield 78, 3), (8, .invokevirtual 230, 3), (11, .pop, 1), (12, .aload_n 0, 1), (13, .getfield 65, 3), (16, .getfield 457, 3), (19, .istore_n 1, 1), (20, .aload_n 0, 1), (21, .getfield 65, 3), (24, .invokevirtual 214, 3), (27, .iload_n 1, 1), (28, .ireturn, 1)]
theorem tv_X11_apply : Tv cX11_apply tb_X11_apply := by
  unfold Tv
  decide +kernel
set_option maxRecDepth 100000 in
set_option maxHeartbeats 4000000 in
theorem u_X11_apply (E : gE) (f : Nat → va_E) (tp : Nat → Int32) (fd : Nat) (mo : Int32) (hE : 350 ≤ gN E) (hm : MnV E f tp fd mo) (hfd : fd ≤ 1024) (N : Nat) (d : DkT) (on le wr ss : Int32) (hE1 : 350 + N ≤ gN E) (hN : N ≤ 1024) (hdv : DkV E f N d on le wr ss) (hdo : dOk N d) (hun : ¬ (¬ mo = 0 ∧ ¬ on = 0)) : Ct E 7 yX11_apply cX11_apply 2 (some .int) [.ref (gAd E (0))] f (fun _ _ => False, fun X g => X = "java/lang/IllegalStateException" ∧ MnV E g tp fd mo ∧ Fr MnK f g) := by
  obtain ⟨m0, m1⟩ := id hm
  refine Ct.of (by decide) (Nat.le_of_ble_eq_true rfl) (fun sz => ?_)
  refine G.eql [(0, .ref (gAd E (0)))] rfl ?_
  refine G.go tv_X11_apply 1 1 [(0, .ref (gAd E (0)))] [.ref (gAd E (0))] rfl ?_
  refine G.callV (0) [] [] (c_X11_needMounted E f tp fd mo hE hm (by omega) N d on le wr ss hE1 hN hdv hdo) cls_X11 (by omega) (m0) cw_X11_221 w_1320 w_27 (Nat.le_of_ble_eq_true rfl) rfl (Nat.le_of_ble_eq_true rfl) (tbd tv_X11_apply rfl) (fun v1 f1 q1 => ?_) (fun X g q => ⟨q.1, by rw [← q.2.1]; exact ⟨hm, Fr.rf⟩⟩)
  obtain ⟨-, -, q1, q2⟩ := q1
  exact absurd ⟨q1, q2⟩ hun
def tb_X11_seen : List (Nat × Instr × Nat) := [(0, .aload_n 0, 1), (1, .invokevirtual 221, 3), (4, .aload_n 0, 1), (5, .iload_n 1, 1), (6, .iload_n 2, 1), (7, .invokevirtual 484, 3), (10, .aload_n 0, 1), (11, .getfield 87, 3), (14, .iload_n 1, 1), (15, .invokevirtual 490, 3), (18, .iload_n 2, 1), (19, .baload, 1), (20, .sipush 255, 3), (23, .iand, 1), (24, .ireturn, 1)]
theorem tv_X11_seen : Tv cX11_seen tb_X11_seen := by
  unfold Tv
  decide +kernel
set_option maxRecDepth 100000 in
set_option maxHeartbeats 4000000 in
theorem u_X11_seen (E : gE) (f : Nat → va_E) (tp : Nat → Int32) (fd : Nat) (mo : Int32) (hE : 350 ≤ gN E) (hm : MnV E f tp fd mo) (hfd : fd ≤ 1024) (N : Nat) (d : DkT) (on le wr ss : Int32) (hE1 : 350 + N ≤ gN E) (hN : N ≤ 1024) (hdv : DkV E f N d on le wr ss) (hdo : dOk N d) (hun : ¬ (¬ mo = 0 ∧ ¬ on = 0)) (x0 : Int32) (x1 : Int32) : Ct E 7 yX11_seen cX11_seen 3 (some .int) [.ref (gAd E (0)), .int (x0), .int (x1)] f (fun _ _ => False, fun X g => X = "java/lang/IllegalStateException" ∧ MnV E g tp fd mo ∧ Fr MnK f g) := by
  obtain ⟨m0, m1⟩ := id hm
  refine Ct.of (by decide) (Nat.le_of_ble_eq_true rfl) (fun sz => ?_)
  refine G.eql [(0, .ref (gAd E (0))), (1, .int (x0)), (2, .int (x1))] rfl ?_
  refine G.go tv_X11_seen 1 1 [(0, .ref (gAd E (0))), (1, .int (x0)), (2, .int (x1))] [.ref (gAd E (0))] rfl ?_
  refine G.callV (0) [] [] (c_X11_needMounted E f tp fd mo hE hm (by omega) N d on le wr ss hE1 hN hdv hdo) cls_X11 (by omega) (m0) cw_X11_221 w_1320 w_27 (Nat.le_of_ble_eq_true rfl) rfl (Nat.le_of_ble_eq_true rfl) (tbd tv_X11_seen rfl) (fun v1 f1 q1 => ?_) (fun X g q => ⟨q.1, by rw [← q.2.1]; exact ⟨hm, Fr.rf⟩⟩)
  obtain ⟨-, -, q1, q2⟩ := q1
  exact absurd ⟨q1, q2⟩ hun
def tb_X11_tree : List (Nat × Instr × Nat) := [(0, .aload_n 0, 1), (1, .invokevirtual 221, 3), (4, .ldc2_w 493, 3), (7, .lstore_n 2, 1), (8, .iconst 0, 1), (9, .istore 4, 2), (11, .aload_n 0, 1), (12, .getfield 26, 3), (15, .iconst 0, 1), (16, .iconst 1, 1), (17, .iastore, 1), (18, .aload_n 0, 1), (19, .getfield 30, 3), (22, .iconst 0, 1), (23, .iconst 0, 1), (24, .iastore, 1), (25, .iconst 0, 1), (26, .istore 5, 2), (28, .iload 4, 2), (30, .ifCond .lt 216, 3), (33, .iload 5, 2), (35, .ldc_w 335, 3), (38, .if_icmp .ge 208, 3), (41, .aload_n 0, 1), (42, .getfield 26, 3), (45, .iload 4, 2), (47, .iaload, 1), (48, .istore 6, 2), (50, .aload_n 0, 1), (51, .getfield 30, 3), (54, .iload 4, 2), (56, .iaload, 1), (57, .istore 7, 2), (59, .iload 7, 2), (61, .aload_n 0, 1), (62, .getfield 112, 3), (65, .iload 6, 2), (67, .invokevirtual 336, 3), (70, .if_icmp .lt 19, 3), (73, .lload_n 2, 1), (74, .ldc2_w 495, 3), (77, .lmul, 1), (78, .ldc2_w 497, 3), (81, .ladd, 1), (82, .lstore_n 2, 1), (83, .iinc 4 (-1), 3), (86, .goto 154, 3), (89, .aload_n 0, 1), (90, .getfield 30, 3), (93, .iload 4, 2), (95, .dup2, 1), (96, .iaload, 1), (97, .iconst 1, 1), (98, .iadd, 1), (99, .iastore, 1), (100, .aload_n 0, 1), (101, .getfield 112, 3), (104, .iload 6, 2), (106, .iload 7, 2), (108, .invokevirtual 316, 3), (111, .istore 8, 2), (113, .iload 8, 2), (115, .ifCond .ne 6, 3), (118, .goto 122, 3), (121, .aload_n 0, 1), (122, .getfield 103, 3), (125, .iload 8, 2), (127, .invokevirtual 250, 3), (130, .istore 9, 2), (132, .aload_n 0, 1), (133, .getfield 112, 3), (136, .lload_n 2, 1), (137, .iload 6, 2), (139, .iload 7, 2), (141, .invokevirtual 499, 3), (144, .iload 9, 2), (146, .i2l, 1), (147, .ladd, 1), (148, .lstore_n 2, 1), (149, .lload_n 2, 1), (150, .ldc2_w 495, 3), (153, .lmul, 1), (154, .aload_n 0, 1), (155, .getfield 103, 3), (158, .iload 8, 2), (160, .invokevirtual 362, 3), (163, .i2l, 1), (164, .ladd, 1), (165, .lstore_n 2, 1), (166, .lload_n 2, 1), (167, .ldc2_w 495, 3), (170, .lmul, 1), (171, .aload_n 0, 1), (172, .getfield 103, 3), (175, .iload 8, 2), (177, .invokevirtual 395, 3), (180, .i2l, 1), (181, .ladd, 1), (182, .lstore_n 2, 1), (183, .iload 9, 2), (185, .iconst 2, 1), (186, .if_icmp .ne 33, 3), (189, .iload 4, 2), (191, .bipush 64, 2), (193, .if_icmp .ge 26, 3), (196, .iinc 4 1, 3), (199, .aload_n 0, 1), (200, .getfield 26, 3), (203, .iload 4, 2), (205, .iload 8, 2), (207, .iastore, 1), (208, .aload_n 0, 1), (209, .getfield 30, 3), (212, .iload 4, 2), (214, .iconst 0, 1), (215, .iastore, 1), (216, .goto 24, 3), (219, .iload 9, 2), (221, .iconst 1, 1), (222, .if_icmp .ne 18, 3), (225, .iload_n 1, 1), (226, .ifCond .eq 14, 3), (229, .aload_n 0, 1), (230, .getfield 121, 3), (233, .lload_n 2, 1), (234, .iload 8, 2), (236, .invokevirtual 503, 3), (239, .lstore_n 2, 1), (240, .iinc 5 1, 3), (243, .goto (-215), 3), (246, .lload_n 2, 1), (247, .lreturn, 1)]
theorem tv_X11_tree : Tv cX11_tree tb_X11_tree := by
  unfold Tv
  decide +kernel
set_option maxRecDepth 100000 in
set_option maxHeartbeats 4000000 in
theorem u_X11_tree (E : gE) (f : Nat → va_E) (tp : Nat → Int32) (fd : Nat) (mo : Int32) (hE : 350 ≤ gN E) (hm : MnV E f tp fd mo) (hfd : fd ≤ 1024) (N : Nat) (d : DkT) (on le wr ss : Int32) (hE1 : 350 + N ≤ gN E) (hN : N ≤ 1024) (hdv : DkV E f N d on le wr ss) (hdo : dOk N d) (hun : ¬ (¬ mo = 0 ∧ ¬ on = 0)) (x0 : Int32) : Ct E 7 yX11_tree cX11_tree 10 (some .long) [.ref (gAd E (0)), .int (x0)] f (fun _ _ => False, fun X g => X = "java/lang/IllegalStateException" ∧ MnV E g tp fd mo ∧ Fr MnK f g) := by
  obtain ⟨m0, m1⟩ := id hm
  refine Ct.of (by decide) (Nat.le_of_ble_eq_true rfl) (fun sz => ?_)
  refine G.eql [(0, .ref (gAd E (0))), (1, .int (x0))] rfl ?_
  refine G.go tv_X11_tree 1 1 [(0, .ref (gAd E (0))), (1, .int (x0))] [.ref (gAd E (0))] rfl ?_
  refine G.callV (0) [] [] (c_X11_needMounted E f tp fd mo hE hm (by omega) N d on le wr ss hE1 hN hdv hdo) cls_X11 (by omega) (m0) cw_X11_221 w_1320 w_27 (Nat.le_of_ble_eq_true rfl) rfl (Nat.le_of_ble_eq_true rfl) (tbd tv_X11_tree rfl) (fun v1 f1 q1 => ?_) (fun X g q => ⟨q.1, by rw [← q.2.1]; exact ⟨hm, Fr.rf⟩⟩)
  obtain ⟨-, -, q1, q2⟩ := q1
  exact absurd ⟨q1, q2⟩ hun
def tb_X11_check : List (Nat × Instr × Nat) := [(0, .aload_n 0, 1), (1, .invokevirtual 221, 3), (4, .aload_n 0, 1), (5, .getfield 130, 3), (8, .invokevirtual 507, 3), (11, .ireturn, 1)]
theorem tv_X11_check : Tv cX11_check tb_X11_check := by
  unfold Tv
  decide +kernel
set_option maxRecDepth 100000 in
set_option maxHeartbeats 4000000 in
theorem u_X11_check (E : gE) (f : Nat → va_E) (tp : Nat → Int32) (fd : Nat) (mo : Int32) (hE : 350 ≤ gN E) (hm : MnV E f tp fd mo) (hfd : fd ≤ 1024) (N : Nat) (d : DkT) (on le wr ss : Int32) (hE1 : 350 + N ≤ gN E) (hN : N ≤ 1024) (hdv : DkV E f N d on le wr ss) (hdo : dOk N d) (hun : ¬ (¬ mo = 0 ∧ ¬ on = 0)) : Ct E 7 yX11_check cX11_check 1 (some .int) [.ref (gAd E (0))] f (fun _ _ => False, fun X g => X = "java/lang/IllegalStateException" ∧ MnV E g tp fd mo ∧ Fr MnK f g) := by
  obtain ⟨m0, m1⟩ := id hm
  refine Ct.of (by decide) (Nat.le_of_ble_eq_true rfl) (fun sz => ?_)
  refine G.eql [(0, .ref (gAd E (0)))] rfl ?_
  refine G.go tv_X11_check 1 1 [(0, .ref (gAd E (0)))] [.ref (gAd E (0))] rfl ?_
  refine G.callV (0) [] [] (c_X11_needMounted E f tp fd mo hE hm (by omega) N d on le wr ss hE1 hN hdv hdo) cls_X11 (by omega) (m0) cw_X11_221 w_1320 w_27 (Nat.le_of_ble_eq_true rfl) rfl (Nat.le_of_ble_eq_true rfl) (tbd tv_X11_check rfl) (fun v1 f1 q1 => ?_) (fun X g q => ⟨q.1, by rw [← q.2.1]; exact ⟨hm, Fr.rf⟩⟩)
  obtain ⟨-, -, q1, q2⟩ := q1
  exact absurd ⟨q1, q2⟩ hun
