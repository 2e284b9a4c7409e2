theorem w_422 : Cond.fieldLink "LedgerFiles$View" 64 "LedgerFiles$View" "group" "Z" ∈ TB := tp_2 36 (by decide +kernel) rfl
theorem w_1250 : Cond.methodLink "LedgerFiles$View" 166 yX10_trim ∈ TB := tp_5 144 (by decide +kernel) rfl
theorem w_1253 : Cond.code yX10_trim prog_12_method_14_code 6 (some .int) ∈ TB := tp_5 147 rfl rfl
theorem cw_X10_166 : Cw RX10 166 yX10_trim cX10_trim 6 (some .int) 1 := ⟨w_1250, w_1253, w_155, by decide +kernel, by decide +kernel, by decide⟩
theorem w_1251 : Cond.instanceMethod yX10_trim ∈ TB := tp_5 145 (by decide +kernel) rfl
theorem w_1252 : Cond.selects "LedgerFiles$View" yX10_trim yX10_trim ∈ TB := tp_5 146 (by decide +kernel) rfl
theorem w_1269 : Cond.methodLink "LedgerFiles$View" 176 yX9_isFull ∈ TB := tp_5 163 (by decide +kernel) rfl
theorem w_1272 : Cond.code yX9_isFull prog_11_method_3_code 1 (some .boolean) ∈ TB := tp_5 166 rfl rfl
theorem cw_X10_176 : Cw RX10 176 yX9_isFull cX9_isFull 1 (some .boolean) 0 := ⟨w_1269, w_1272, w_154, by decide +kernel, by decide +kernel, by decide⟩
theorem w_1270 : Cond.instanceMethod yX9_isFull ∈ TB := tp_5 164 (by decide +kernel) rfl
theorem w_1271 : Cond.selects "LedgerFiles$Queue" yX9_isFull yX9_isFull ∈ TB := tp_5 165 (by decide +kernel) rfl
theorem w_848 : Cond.methodLink "LedgerFiles$View" 56 yX10_discard ∈ TB := tp_3 222 (by decide +kernel) rfl
theorem w_851 : Cond.code yX10_discard prog_12_method_16_code 1 none ∈ TB := tp_3 225 rfl rfl
theorem cw_X10_56 : Cw RX10 56 yX10_discard cX10_discard 1 none 0 := ⟨w_848, w_851, w_155, by decide +kernel, by decide +kernel, by decide⟩
theorem w_849 : Cond.instanceMethod yX10_discard ∈ TB := tp_3 223 (by decide +kernel) rfl
theorem w_850 : Cond.selects "LedgerFiles$View" yX10_discard yX10_discard ∈ TB := tp_3 224 (by decide +kernel) rfl
noncomputable def d_X10_finish (N B gr : Nat) (A : MS) (D : CfT) : Option (FR Unit) := if (gpI A) = 0 then bnd3 (d_X10_trim N A D ((1 : Int32))) (fun v1 A1 D1 => if v1 = 0 then bnd2 (d_X10_discard N A1 D1) (fun A6 D6 => some (.inl ((), A6, D6))) else bnd (qaO N gr A1 D1) (fun A2 => bnd2 (d_X10_disown N A2 D1) (fun A3 D3 => bndF (fFu N B gr A3 D3) (fun v4 A4 D4 => if v4 = 0 then some (.inl ((), A4, D4)) else bndF (fFl N B gr A4 D4) (fun v5 A5 D5 => some (.inl ((), A5, D5))))))) else bnd3 (d_X10_trim N A D ((0 : Int32))) (fun v7 A7 D7 => some (.inl ((), A7, D7)))
set_option maxRecDepth 100000 in
set_option maxHeartbeats 4000000 in
theorem k_X10_finish (E : gE) (f : Nat → va_E) (N B gr : Nat) (C D : CfT) (A : MS) (hz : CfZ E N B gr) (h : CfV E f N B gr C) (hD : Dq D C) (hA : AR N B gr A C) (r : FR Unit) (hr : d_X10_finish N B gr A D = some r) : Ct E 11 yX10_finish cX10_finish 2 none [.ref (gAd E (25))] f (FQ E N B gr f (fun _ => none) r) := by
  obtain ⟨z1, z2, z3, z4, z5, z6, z7⟩ := id hz
  refine Ct.of (by decide) (Nat.le_of_ble_eq_true rfl) (fun sz => ?_)
  refine G.eql [(0, .ref (gAd E (25)))] rfl ?_
  unfold d_X10_finish at hr
  refine G.go tv_X10_finish 1 1 [(0, .ref (gAd E (25)))] [.ref (gAd E (25))] rfl ?_
  refine G.getf cls_X10 (25) 11 (by omega) (h.q25) (by decide) rfl (tbd tv_X10_finish rfl) w_422 ?_
  refine G.eq1 (b := gpI A) (hA.gp) ?_
  refine G.if_eq 14 (tbd tv_X10_finish rfl) (by decide) (fun c4 => ?_) (fun c4 => ?_)
  · replace hr := ite_t c4 hr
    refine G.go tv_X10_finish 2 16 [(0, .ref (gAd E (25)))] [.int ((1 : Int32)), .ref (gAd E (25))] rfl ?_
    obtain ⟨v1, A1, D1, hv1, hr⟩ := bnd3_s hr
    refine G.callV (25) [.int ((1 : Int32))] [] (k_X10_trim E _ N B gr C D A hz h hD hA ((1 : Int32)) v1 A1 D1 hv1) cls_X10 (by omega) (h.q25) cw_X10_166 w_1251 w_1252 (Nat.le_of_ble_eq_true rfl) rfl (Nat.le_of_ble_eq_true rfl) (tbd tv_X10_finish rfl) (fun v1w f1 q1 => ?_) (fun _ _ h => h.elim)
    obtain ⟨rfl, C1, ha1, hD1, hA1, fa1⟩ := q1
    refine G.eqs [.int (v1)] rfl ?_
    refine G.if_ne 27 (tbd tv_X10_finish rfl) (by decide) (fun c19 => ?_) (fun c19 => ?_)
    · replace hr := ite_f c19 hr
      refine G.go tv_X10_finish 2 29 [(0, .ref (gAd E (25))), (1, .int ((0 : Int32)))] [] rfl ?_
      obtain ⟨A2, hv2, hr⟩ := bnd_s hr
      refine fin_q E f sz _ _ N B gr C1 D1 A1 _ hz _ ha1 hD1 hA1 (Fr.rf.tr fa1 (fun _ h => h)) hv2 (fun u2 p2 => ?_)
      obtain ⟨C2, h2, hD2, hA2, k2⟩ := p2
      refine G.go tv_X10_finish 1 75 [(0, .ref (gAd E (25)))] [.ref (gAd E (25))] rfl ?_
      obtain ⟨A3, D3, hv3, hr⟩ := bnd2_s hr
      refine G.callV (25) [] [] (k_X10_disown E _ N B gr C2 D1 A2 hz h2 hD2 hA2 A3 D3 hv3) cls_X10 (by omega) (h2.q25) cw_X10_160 w_854 w_12 (Nat.le_of_ble_eq_true rfl) rfl (Nat.le_of_ble_eq_true rfl) (tbd tv_X10_finish rfl) (fun v3w f3 q3 => ?_) (fun _ _ h => h.elim)
      obtain ⟨rfl, C3, ha3, hD3, hA3, fa3⟩ := q3
      refine G.eqs [] rfl ?_
      refine G.go tv_X10_finish 1 79 [(0, .ref (gAd E (25)))] [.ref (gAd E (25))] rfl ?_
      refine G.getf cls_X10 (25) 3 (by omega) (ha3.q25) (by decide) rfl (tbd tv_X10_finish rfl) w_413 ?_
      rcases bndF_s hr with ⟨v4, A4, D4, hv4, hr⟩ | ⟨ex4, A4, D4, hv4, rfl⟩
      rotate_left
      · skip
        refine G.callV (17) [] [] (k_X9_isFull E _ N B gr C3 D3 A3 hz ha3 hD3 hA3 _ hv4) cls_X9 (by omega) (ha3.q17) cw_X10_176 w_1270 w_1271 (Nat.le_of_ble_eq_true rfl) rfl (Nat.le_of_ble_eq_true rfl) (tbd tv_X10_finish rfl) (fun v4w f4 q4 => ?_) (fun X g q => FQ.fr q (k2.tr fa3 (fun _ h => h)))
        exact q4.elim
      refine G.callV (17) [] [] (k_X9_isFull E _ N B gr C3 D3 A3 hz ha3 hD3 hA3 _ hv4) cls_X9 (by omega) (ha3.q17) cw_X10_176 w_1270 w_1271 (Nat.le_of_ble_eq_true rfl) rfl (Nat.le_of_ble_eq_true rfl) (tbd tv_X10_finish rfl) (fun v4w f4 q4 => ?_) (fun _ _ h => h.elim)
      obtain ⟨rfl, C4, ha4, hD4, hA4, fa4⟩ := q4
      refine G.eqs [.int (v4)] rfl ?_
      refine G.if_eq 96 (tbd tv_X10_finish rfl) (by decide) (fun c85 => ?_) (fun c85 => ?_)
      · replace hr := ite_t c85 hr
        cases hr
        exact G.vret rfl (FQ.ok rfl ⟨C4, ha4, hD4, hA4, ((k2.tr fa3 (fun _ h => h)).tr fa4 (fun _ h => h))⟩) (tbd tv_X10_finish rfl)
      · replace hr := ite_f c85 hr
        refine G.go tv_X10_finish 1 89 [(0, .ref (gAd E (25)))] [.ref (gAd E (25))] rfl ?_
        refine G.getf cls_X10 (25) 3 (by omega) (ha4.q25) (by decide) rfl (tbd tv_X10_finish rfl) w_413 ?_
        rcases bndF_s hr with ⟨v5, A5, D5, hv5, hr⟩ | ⟨ex5, A5, D5, hv5, rfl⟩
        rotate_left
        · skip
          refine G.callV (17) [] [] (k_X9_flushAll E _ N B gr C4 D4 A4 hz ha4 hD4 hA4 _ hv5) cls_X9 (by omega) (ha4.q17) cw_X10_143 w_1274 w_1275 (Nat.le_of_ble_eq_true rfl) rfl (Nat.le_of_ble_eq_true rfl) (tbd tv_X10_finish rfl) (fun v5w f5 q5 => ?_) (fun X g q => FQ.fr q ((k2.tr fa3 (fun _ h => h)).tr fa4 (fun _ h => h)))
          exact q5.elim
        refine G.callV (17) [] [] (k_X9_flushAll E _ N B gr C4 D4 A4 hz ha4 hD4 hA4 _ hv5) cls_X9 (by omega) (ha4.q17) cw_X10_143 w_1274 w_1275 (Nat.le_of_ble_eq_true rfl) rfl (Nat.le_of_ble_eq_true rfl) (tbd tv_X10_finish rfl) (fun v5w f5 q5 => ?_) (fun _ _ h => h.elim)
        obtain ⟨rfl, C5, ha5, hD5, hA5, fa5⟩ := q5
        refine G.eqs [.int (v5)] rfl ?_
        refine G.go tv_X10_finish 1 96 [(0, .ref (gAd E (25)))] [] rfl ?_
        cases hr
        exact G.vret rfl (FQ.ok rfl ⟨C5, ha5, hD5, hA5, (((k2.tr fa3 (fun _ h => h)).tr fa4 (fun _ h => h)).tr fa5 (fun _ h => h))⟩) (tbd tv_X10_finish rfl)
    · replace hr := ite_t c19 hr
      refine G.go tv_X10_finish 1 23 [(0, .ref (gAd E (25)))] [.ref (gAd E (25))] rfl ?_
      obtain ⟨A6, D6, hv6, hr⟩ := bnd2_s hr
      refine G.callV (25) [] [] (k_X10_discard E _ N B gr C1 D1 A1 hz ha1 hD1 hA1 A6 D6 hv6) cls_X10 (by omega) (ha1.q25) cw_X10_56 w_849 w_850 (Nat.le_of_ble_eq_true rfl) rfl (Nat.le_of_ble_eq_true rfl) (tbd tv_X10_finish rfl) (fun v6w f6 q6 => ?_) (fun _ _ h => h.elim)
      obtain ⟨rfl, C6, ha6, hD6, hA6, fa6⟩ := q6
      refine G.eqs [] rfl ?_
      cases hr
      exact G.vret rfl (FQ.ok rfl ⟨C6, ha6, hD6, hA6, ((Fr.rf.tr fa1 (fun _ h => h)).tr fa6 (fun _ h => h))⟩) (tbd tv_X10_finish rfl)
  · replace hr := ite_f c4 hr
    refine G.go tv_X10_finish 2 9 [(0, .ref (gAd E (25)))] [.int ((0 : Int32)), .ref (gAd E (25))] rfl ?_
    obtain ⟨v7, A7, D7, hv7, hr⟩ := bnd3_s hr
    refine G.callV (25) [.int ((0 : Int32))] [] (k_X10_trim E _ N B gr C D A hz h hD hA ((0 : Int32)) v7 A7 D7 hv7) cls_X10 (by omega) (h.q25) cw_X10_166 w_1251 w_1252 (Nat.le_of_ble_eq_true rfl) rfl (Nat.le_of_ble_eq_true rfl) (tbd tv_X10_finish rfl) (fun v7w f7 q7 => ?_) (fun _ _ h => h.elim)
    obtain ⟨rfl, C7, ha7, hD7, hA7, fa7⟩ := q7
    refine G.eqs [.int (v7)] rfl ?_
    refine G.go tv_X10_finish 1 13 [(0, .ref (gAd E (25)))] [] rfl ?_
    cases hr
    exact G.vret rfl (FQ.ok rfl ⟨C7, ha7, hD7, hA7, (Fr.rf.tr fa7 (fun _ h => h))⟩) (tbd tv_X10_finish rfl)
def tb_X3_store : List (Nat × Instr × Nat) := [(0, .iload_n 2, 1), (1, .ifCond .lt 16, 3), (4, .iload_n 2, 1), (5, .i2l, 1), (6, .iload 4, 2), (8, .i2l, 1), (9, .ladd, 1), (10, .ldc2_w 27, 3), (13, .lcmp, 1), (14, .ifCond .le 6, 3), (17, .bipush (-10), 2), (19, .ireturn, 1), (20, .iload 4, 2), (22, .ifCond .ne 5, 3), (25, .iconst 0, 1), (26, .ireturn, 1), (27, .iload_n 2, 1), (28, .sipush 128, 3), (31, .idiv, 1), (32, .istore 5, 2), (34, .iload_n 2, 1), (35, .iload 4, 2), (37, .iadd, 1), (38, .iconst 1, 1), (39, .isub, 1), (40, .sipush 128, 3), (43, .idiv, 1), (44, .istore 6, 2), (46, .aload_n 0, 1), (47, .getfield 23, 3), (50, .iload_n 1, 1), (51, .iload 5, 2), (53, .iload 6, 2), (55, .invokevirtual 29, 3), (58, .istore 7, 2), (60, .iload 7, 2), (62, .ifCond .le 18, 3), (65, .iload 7, 2), (67, .aload_n 0, 1), (68, .getfield 19, 3), (71, .invokevirtual 35, 3), (74, .if_icmp .le 6, 3), (77, .bipush (-7), 2), (79, .ireturn, 1), (80, .iload 5, 2), (82, .istore 8, 2), (84, .iload 8, 2), (86, .iload 6, 2), (88, .if_icmp .gt 30, 3), (91, .aload_n 0, 1), (92, .getfield 15, 3), (95, .iload 8, 2), (97, .iload 5, 2), (99, .isub, 1), (100, .aload_n 0, 1), (101, .getfield 23, 3), (104, .iload_n 1, 1), (105, .iload 8, 2), (107, .iconst 0, 1), (108, .invokevirtual 41, 3), (111, .bastore, 1), (112, .iinc 8 1, 3), (115, .goto (-31), 3), (118, .iload 5, 2), (120, .istore 8, 2), (122, .iload 8, 2), (124, .iload 6, 2), (126, .if_icmp .gt 108, 3), (129, .aload_n 0, 1), (130, .getfield 23, 3), (133, .iload_n 1, 1), (134, .iload 8, 2), (136, .iconst 0, 1), (137, .invokevirtual 45, 3), (140, .istore 9, 2), (142, .aload_n 0, 1), (143, .iload 9, 2), (145, .aload_n 0, 1), (146, .getfield 15, 3), (149, .iload 8, 2), (151, .iload 5, 2), (153, .isub, 1), (154, .baload, 1), (155, .invokevirtual 48, 3), (158, .iload_n 2, 1), (159, .iload 8, 2), (161, .sipush 128, 3), (164, .imul, 1), (165, .invokestatic 52, 3), (168, .istore 10, 2), (170, .iload_n 2, 1), (171, .iload 4, 2), (173, .iadd, 1), (174, .iload 8, 2), (176, .sipush 128, 3), (179, .imul, 1), (180, .sipush 128, 3), (183, .iadd, 1), (184, .invokestatic 58, 3), (187, .istore 11, 2), (189, .aload_n 3, 1), (190, .iload 10, 2), (192, .iload_n 2, 1), (193, .isub, 1), (194, .aload_n 0, 1), (195, .getfield 9, 3), (198, .iload 10, 2), (200, .iload 8, 2), (202, .sipush 128, 3), (205, .imul, 1), (206, .isub, 1), (207, .iload 11, 2), (209, .iload 10, 2), (211, .isub, 1), (212, .invokestatic 61, 3), (215, .aload_n 0, 1), (216, .getfield 19, 3), (219, .iload 9, 2), (221, .aload_n 0, 1), (222, .getfield 9, 3), (225, .invokevirtual 67, 3), (228, .iinc 8 1, 3), (231, .goto (-109), 3), (234, .iload_n 2, 1), (235, .iload 4, 2), (237, .iadd, 1), (238, .aload_n 0, 1), (239, .getfield 23, 3), (242, .iload_n 1, 1), (243, .invokevirtual 71, 3), (246, .if_icmp .le 15, 3), (249, .aload_n 0, 1), (250, .getfield 23, 3), (253, .iload_n 1, 1), (254, .iload_n 2, 1), (255, .iload 4, 2), (257, .iadd, 1), (258, .invokevirtual 75, 3), (261, .aload_n 0, 1), (262, .getfield 19, 3), (265, .invokevirtual 79, 3), (268, .iload 4, 2), (270, .ireturn, 1)]
theorem tv_X3_store : Tv cX3_store tb_X3_store := by
  unfold Tv
  decide +kernel
theorem w_1609 : Cond.constantLong "LedgerFiles$Files" 27 (400000 : Int64) ∈ TB := tp_7 23 (by decide +kernel) rfl
theorem w_1610 : Cond.methodLink "LedgerFiles$Files" 29 yX7_wanted ∈ TB := tp_7 24 (by decide +kernel) rfl
theorem w_1613 : Cond.code yX7_wanted prog_9_method_30_code 8 (some .int) ∈ TB := tp_7 27 rfl rfl
theorem cw_X3_29 : Cw RX3 29 yX7_wanted cX7_wanted 8 (some .int) 3 := ⟨w_1610, w_1613, w_157, by decide +kernel, by decide +kernel, by decide⟩
theorem w_1611 : Cond.instanceMethod yX7_wanted ∈ TB := tp_7 25 (by decide +kernel) rfl
theorem w_1612 : Cond.selects "LedgerFiles$Nodes" yX7_wanted yX7_wanted ∈ TB := tp_7 26 (by decide +kernel) rfl
theorem w_1615 : Cond.methodLink "LedgerFiles$Files" 35 yX10_available ∈ TB := tp_7 29 (by decide +kernel) rfl
theorem w_1411 : Cond.code yX10_available prog_12_method_9_code 1 (some .int) ∈ TB := tp_6 65 rfl rfl
theorem cw_X3_35 : Cw RX3 35 yX10_available cX10_available 1 (some .int) 0 := ⟨w_1615, w_1411, w_155, by decide +kernel, by decide +kernel, by decide⟩
theorem w_1409 : Cond.instanceMethod yX10_available ∈ TB := tp_6 63 (by decide +kernel) rfl
theorem w_1410 : Cond.selects "LedgerFiles$View" yX10_available yX10_available ∈ TB := tp_6 64 (by decide +kernel) rfl
theorem w_1570 : Cond.methodLink "LedgerFiles$Files" 41 yX7_have ∈ TB := tp_6 224 (by decide +kernel) rfl
theorem cw_X3_41 : Cw RX3 41 yX7_have cX7_have 10 (some .boolean) 3 := ⟨w_1570, w_1442, w_157, by decide +kernel, by decide +kernel, by decide⟩
theorem w_1617 : Cond.methodLink "LedgerFiles$Files" 79 yX10_finish ∈ TB := tp_7 31 (by decide +kernel) rfl
theorem w_1249 : Cond.code yX10_finish prog_12_method_17_code 2 none ∈ TB := tp_5 143 rfl rfl
theorem cw_X3_79 : Cw RX3 79 yX10_finish cX10_finish 2 none 0 := ⟨w_1617, w_1249, w_155, by decide +kernel, by decide +kernel, by decide⟩
theorem w_1247 : Cond.instanceMethod yX10_finish ∈ TB := tp_5 141 (by decide +kernel) rfl
theorem w_1248 : Cond.selects "LedgerFiles$View" yX10_finish yX10_finish ∈ TB := tp_5 142 (by decide +kernel) rfl
theorem w_1561 : Cond.methodLink "LedgerFiles$Files" 75 yX7_setSize ∈ TB := tp_6 215 (by decide +kernel) rfl
theorem cw_X3_75 : Cw RX3 75 yX7_setSize cX7_setSize 3 none 2 := ⟨w_1561, w_1456, w_157, by decide +kernel, by decide +kernel, by decide⟩
theorem w_1616 : Cond.methodLink "LedgerFiles$Files" 52 yJ9_max_7cf53 ∈ TB := tp_7 30 (by decide +kernel) rfl
noncomputable def d_X3_store_1_122 (N B gr : Nat) : Nat → MS → CfT → Int32 → Int32 → Int32 → Int32 → Int32 → Int32 → Option (FR Int32)
  | 0, _, _, _, _, _, _, _, _ => none
  | n + 1, A, D, x1, x2, x4, x5, x6, x8 => if x6 < x8 then bnd (d_X7_size N (vA A) D x1) (fun v12 => if ((x2) + (x4)) ≤ v12 then bndF (d_X10_finish N B gr A D) (fun v13 A13 D13 => some (.inl (x4, A13, D13))) else bnd2 (d_X7_setSize N A D x1 ((x2) + (x4))) (fun A14 D14 => bndF (d_X10_finish N B gr A14 D14) (fun v15 A15 D15 => some (.inl (x4, A15, D15))))) else bnd (d_X7_reach N (vA A) D x1 x8 ((0 : Int32))) (fun v16 => ld (cA D 43) 17 ((x8) - (x5)) (fun v17 => bnd (d_X3_load N (vA A) D v16 v17) (fun D18 => nm (if x2 < ((x8) * ((128 : Int32))) then ((x8) * ((128 : Int32))) else x2) (fun v19 => nm (if (((x8) * ((128 : Int32))) + ((128 : Int32))) < ((x2) + (x4)) then (((x8) * ((128 : Int32))) + ((128 : Int32))) else ((x2) + (x4))) (fun v20 => gd (Byt (cA D18 1)) (cpD D18 42 128 (cA D18 1) 1024 ((v19) - (x2)) ((v19) - ((x8) * ((128 : Int32)))) ((v20) - (v19)) (fun D21 => bndF (d_X10_writeDirectly N B gr A D21 v16) (fun v22 A22 D22 => d_X3_store_1_122 N B gr n A22 D22 x1 x2 x4 x5 x6 (x8 + (1 : Int32))))))))))
noncomputable def d_X3_store_1_84 (N B gr : Nat) : Nat → MS → CfT → Int32 → Int32 → Int32 → Int32 → Int32 → Int32 → Option (FR Int32)
  | 0, _, _, _, _, _, _, _, _ => none
  | n + 1, A, D, x1, x2, x4, x5, x6, x8 => if x6 < x8 then d_X3_store_1_122 N B gr fuL A D x1 x2 x4 x5 x6 x5 else bndF (d_X7_have N B gr A D x1 x8 ((0 : Int32))) (fun v10 A10 D10 => stA D10 43 17 ((x8) - (x5)) (vp_nar .boolean v10) (fun D11 => d_X3_store_1_84 N B gr n A10 D11 x1 x2 x4 x5 x6 (x8 + (1 : Int32))))
noncomputable def d_X3_store_1 (N B gr : Nat) (A : MS) (D : CfT) (a0 : Int32) (a1 : Int32) (a3 : Int32) : Option (FR Int32) := if a1 < 0 then some (.inl ((-10 : Int32), A, D)) else if (lg_cmp (((a1 : Int32).toInt64) + ((a3 : Int32).toInt64)) ((400000 : Int64))) ≤ 0 then if a3 = 0 then some (.inl ((0 : Int32), A, D)) else bnd (d_X7_wanted N (vA A) D a0 ((a1) / ((128 : Int32))) ((((a1) + (a3)) - ((1 : Int32))) / ((128 : Int32)))) (fun v8 => if v8 ≤ 0 then d_X3_store_1_84 N B gr fuL A D a0 a1 a3 ((a1) / ((128 : Int32))) ((((a1) + (a3)) - ((1 : Int32))) / ((128 : Int32))) ((a1) / ((128 : Int32))) else bnd (d_X10_available N (vA A) A.2.2.2.2.1 D) (fun v9 => if v8 ≤ v9 then d_X3_store_1_84 N B gr fuL A D a0 a1 a3 ((a1) / ((128 : Int32))) ((((a1) + (a3)) - ((1 : Int32))) / ((128 : Int32))) ((a1) / ((128 : Int32))) else some (.inl ((-7 : Int32), A, D)))) else some (.inl ((-10 : Int32), A, D))
set_option maxRecDepth 100000 in
set_option maxHeartbeats 4000000 in
theorem l_X3_store_1_122 (E : gE) (f0 : Nat → va_E) (sz : Nat) (QA : Nat → Prop) (N B gr : Nat) (C0 : CfT) (hz : CfZ E N B gr) : ∀ (n : Nat), ∀ (A : MS) (D : CfT) (x1 : Int32) (x2 : Int32) (x4 : Int32) (x5 : Int32) (x6 : Int32) (x8 : Int32) (r : FR Int32) (hr : d_X3_store_1_122 N B gr n A D x1 x2 x4 x5 x6 x8 = some r) (f : Nat → va_E) (C : CfT) (h : CfV E f N B gr C) (hD : Dq D C) (hA : AR N B gr A C) (hf : Fr CfK f0 f), G E (12, yX3_store, 12, (some .int), sz, QA) cX3_store (gO E (12, yX3_store, 12, (some .int), sz, QA) (FQ E N B gr f0 (fun r => some (.int r)) r)) 122 [(0, .ref (gAd E (41))), (1, .int (x1)), (2, .int (x2)), (3, .ref (gAd E (1))), (4, .int (x4)), (5, .int (x5)), (6, .int (x6)), (8, .int (x8))] [] f := by
  obtain ⟨z1, z2, z3, z4, z5, z6, z7⟩ := id hz
  intro n
  induction n with
  | zero =>
    intro A D x1 x2 x4 x5 x6 x8 r hr f C h hD hA hf
    cases hr
  | succ n ih =>
    intro A D x1 x2 x4 x5 x6 x8 r hr f C h hD hA hf
    unfold d_X3_store_1_122 at hr
    refine G.go tv_X3_store 2 126 [(0, .ref (gAd E (41))), (1, .int (x1)), (2, .int (x2)), (3, .ref (gAd E (1))), (4, .int (x4)), (5, .int (x5)), (6, .int (x6)), (8, .int (x8))] [.int (x6), .int (x8)] rfl ?_
    refine G.cmp_gt 234 (tbd tv_X3_store rfl) (by decide) (fun c126 => ?_) (fun c126 => ?_)
    · replace hr := ite_t c126 hr
      refine G.go tv_X3_store 4 239 [(0, .ref (gAd E (41))), (1, .int (x1)), (2, .int (x2)), (3, .ref (gAd E (1))), (4, .int (x4)), (5, .int (x5)), (6, .int (x6)), (8, .int (x8))] [.ref (gAd E (41)), .int ((x2) + (x4))] rfl ?_
      refine G.getf cls_X3 (41) 1 (by omega) (h.q41) (by decide) rfl (tbd tv_X3_store rfl) w_526 ?_
      refine G.go tv_X3_store 1 243 [(0, .ref (gAd E (41))), (1, .int (x1)), (2, .int (x2)), (3, .ref (gAd E (1))), (4, .int (x4)), (5, .int (x5)), (6, .int (x6)), (8, .int (x8))] [.int (x1), .ref (gAd E (37)), .int ((x2) + (x4))] rfl ?_
      obtain ⟨v12, hv12, hr⟩ := bnd_s hr
      refine G.callV (37) [.int (x1)] [.int ((x2) + (x4))] (k_X7_size E _ N B gr C D A hz h hD hA x1 v12 hv12) cls_X7 (by omega) (h.q37) cw_X3_71 w_941 w_942 (Nat.le_of_ble_eq_true rfl) rfl (Nat.le_of_ble_eq_true rfl) (tbd tv_X3_store rfl) (fun v12w f12 q12 => ?_) (fun _ _ h => h.elim)
      obtain ⟨rfl, ha12, fa12⟩ := q12
      refine G.eqs [.int (v12), .int ((x2) + (x4))] rfl ?_
      refine G.cmp_le 261 (tbd tv_X3_store rfl) (by decide) (fun c246 => ?_) (fun c246 => ?_)
      · replace hr := ite_t c246 hr
        refine G.go tv_X3_store 1 262 [(0, .ref (gAd E (41))), (1, .int (x1)), (2, .int (x2)), (3, .ref (gAd E (1))), (4, .int (x4)), (5, .int (x5)), (6, .int (x6)), (8, .int (x8))] [.ref (gAd E (41))] rfl ?_
        refine G.getf cls_X3 (41) 0 (by omega) (ha12.q41) (by decide) rfl (tbd tv_X3_store rfl) w_525 ?_
        rcases bndF_s hr with ⟨v13, A13, D13, hv13, hr⟩ | ⟨ex13, A13, D13, hv13, rfl⟩
        rotate_left
        · skip
          refine G.callV (25) [] [] (k_X10_finish E _ N B gr C D A hz ha12 hD hA _ hv13) cls_X10 (by omega) (ha12.q25) cw_X3_79 w_1247 w_1248 (Nat.le_of_ble_eq_true rfl) rfl (Nat.le_of_ble_eq_true rfl) (tbd tv_X3_store rfl) (fun v13w f13 q13 => ?_) (fun X g q => FQ.fr q (hf.tr fa12 (fun _ h => h)))
          exact q13.elim
        refine G.callV (25) [] [] (k_X10_finish E _ N B gr C D A hz ha12 hD hA _ hv13) cls_X10 (by omega) (ha12.q25) cw_X3_79 w_1247 w_1248 (Nat.le_of_ble_eq_true rfl) rfl (Nat.le_of_ble_eq_true rfl) (tbd tv_X3_store rfl) (fun v13w f13 q13 => ?_) (fun _ _ h => h.elim)
        obtain ⟨rfl, C13, ha13, hD13, hA13, fa13⟩ := q13
        refine G.eqs [] rfl ?_
        refine G.go tv_X3_store 1 270 [(0, .ref (gAd E (41))), (1, .int (x1)), (2, .int (x2)), (3, .ref (gAd E (1))), (4, .int (x4)), (5, .int (x5)), (6, .int (x6)), (8, .int (x8))] [.int (x4)] rfl ?_
        cases hr
        exact G.iret rfl rfl (FQ.ok rfl ⟨C13, ha13, hD13, hA13, ((hf.tr fa12 (fun _ h => h)).tr fa13 (fun _ h => h))⟩) (tbd tv_X3_store rfl)
      · replace hr := ite_f c246 hr
        refine G.go tv_X3_store 1 250 [(0, .ref (gAd E (41))), (1, .int (x1)), (2, .int (x2)), (3, .ref (gAd E (1))), (4, .int (x4)), (5, .int (x5)), (6, .int (x6)), (8, .int (x8))] [.ref (gAd E (41))] rfl ?_
        refine G.getf cls_X3 (41) 1 (by omega) (ha12.q41) (by decide) rfl (tbd tv_X3_store rfl) w_526 ?_
        refine G.go tv_X3_store 4 258 [(0, .ref (gAd E (41))), (1, .int (x1)), (2, .int (x2)), (3, .ref (gAd E (1))), (4, .int (x4)), (5, .int (x5)), (6, .int (x6)), (8, .int (x8))] [.int ((x2) + (x4)), .int (x1), .ref (gAd E (37))] rfl ?_
        obtain ⟨A14, D14, hv14, hr⟩ := bnd2_s hr
        refine G.callV (37) [.int (x1), .int ((x2) + (x4))] [] (k_X7_setSize E _ N B gr C D A hz ha12 hD hA x1 ((x2) + (x4)) A14 D14 hv14) cls_X7 (by omega) (ha12.q37) cw_X3_75 w_1454 w_1455 (Nat.le_of_ble_eq_true rfl) rfl (Nat.le_of_ble_eq_true rfl) (tbd tv_X3_store rfl) (fun v14w f14 q14 => ?_) (fun _ _ h => h.elim)
        obtain ⟨rfl, C14, ha14, hD14, hA14, fa14⟩ := q14
        refine G.eqs [] rfl ?_
        refine G.go tv_X3_store 1 262 [(0, .ref (gAd E (41))), (1, .int (x1)), (2, .int (x2)), (3, .ref (gAd E (1))), (4, .int (x4)), (5, .int (x5)), (6, .int (x6)), (8, .int (x8))] [.ref (gAd E (41))] rfl ?_
        refine G.getf cls_X3 (41) 0 (by omega) (ha14.q41) (by decide) rfl (tbd tv_X3_store rfl) w_525 ?_
        rcases bndF_s hr with ⟨v15, A15, D15, hv15, hr⟩ | ⟨ex15, A15, D15, hv15, rfl⟩
        rotate_left
        · skip
          refine G.callV (25) [] [] (k_X10_finish E _ N B gr C14 D14 A14 hz ha14 hD14 hA14 _ hv15) cls_X10 (by omega) (ha14.q25) cw_X3_79 w_1247 w_1248 (Nat.le_of_ble_eq_true rfl) rfl (Nat.le_of_ble_eq_true rfl) (tbd tv_X3_store rfl) (fun v15w f15 q15 => ?_) (fun X g q => FQ.fr q ((hf.tr fa12 (fun _ h => h)).tr fa14 (fun _ h => h)))
          exact q15.elim
        refine G.callV (25) [] [] (k_X10_finish E _ N B gr C14 D14 A14 hz ha14 hD14 hA14 _ hv15) cls_X10 (by omega) (ha14.q25) cw_X3_79 w_1247 w_1248 (Nat.le_of_ble_eq_true rfl) rfl (Nat.le_of_ble_eq_true rfl) (tbd tv_X3_store rfl) (fun v15w f15 q15 => ?_) (fun _ _ h => h.elim)
        obtain ⟨rfl, C15, ha15, hD15, hA15, fa15⟩ := q15
        refine G.eqs [] rfl ?_
        refine G.go tv_X3_store 1 270 [(0, .ref (gAd E (41))), (1, .int (x1)), (2, .int (x2)), (3, .ref (gAd E (1))), (4, .int (x4)), (5, .int (x5)), (6, .int (x6)), (8, .int (x8))] [.int (x4)] rfl ?_
        cases hr
        exact G.iret rfl rfl (FQ.ok rfl ⟨C15, ha15, hD15, hA15, (((hf.tr fa12 (fun _ h => h)).tr fa14 (fun _ h => h)).tr fa15 (fun _ h => h))⟩) (tbd tv_X3_store rfl)
    · replace hr := ite_f c126 hr
      refine G.go tv_X3_store 1 130 [(0, .ref (gAd E (41))), (1, .int (x1)), (2, .int (x2)), (3, .ref (gAd E (1))), (4, .int (x4)), (5, .int (x5)), (6, .int (x6)), (8, .int (x8))] [.ref (gAd E (41))] rfl ?_
      refine G.getf cls_X3 (41) 1 (by omega) (h.q41) (by decide) rfl (tbd tv_X3_store rfl) w_526 ?_
      refine G.go tv_X3_store 3 137 [(0, .ref (gAd E (41))), (1, .int (x1)), (2, .int (x2)), (3, .ref (gAd E (1))), (4, .int (x4)), (5, .int (x5)), (6, .int (x6)), (8, .int (x8))] [.int ((0 : Int32)), .int (x8), .int (x1), .ref (gAd E (37))] rfl ?_
      obtain ⟨v16, hv16, hr⟩ := bnd_s hr
      refine G.callV (37) [.int (x1), .int (x8), .int ((0 : Int32))] [] (k_X7_reach E _ N B gr C D A hz h hD hA x1 x8 ((0 : Int32)) v16 hv16) cls_X7 (by omega) (h.q37) cw_X3_45 w_954 w_955 (Nat.le_of_ble_eq_true rfl) rfl (Nat.le_of_ble_eq_true rfl) (tbd tv_X3_store rfl) (fun v16w f16 q16 => ?_) (fun _ _ h => h.elim)
      obtain ⟨rfl, ha16, fa16⟩ := q16
      refine G.eqs [.int (v16)] rfl ?_
      refine G.go tv_X3_store 4 146 [(0, .ref (gAd E (41))), (1, .int (x1)), (2, .int (x2)), (3, .ref (gAd E (1))), (4, .int (x4)), (5, .int (x5)), (6, .int (x6)), (8, .int (x8)), (9, .int (v16))] [.ref (gAd E (41)), .int (v16), .ref (gAd E (41))] rfl ?_
      refine G.getf cls_X3 (41) 3 (by omega) (ha16.q41) (by decide) rfl (tbd tv_X3_store rfl) w_528 ?_
      refine G.go tv_X3_store 3 154 [(0, .ref (gAd E (41))), (1, .int (x1)), (2, .int (x2)), (3, .ref (gAd E (1))), (4, .int (x4)), (5, .int (x5)), (6, .int (x6)), (8, .int (x8)), (9, .int (v16))] [.int ((x8) - (x5)), .ref (gAd E (43)), .int (v16), .ref (gAd E (41))] rfl ?_
      obtain ⟨v17, b17, e17, hr⟩ := ld_s hr
      refine G.zaldE (43) (by omega) ((ha16.q43).trans (congrArg (oZ (gDA E) (17)) (hD.2 43 (by decide)))) b17 e17 (tbd tv_X3_store rfl) ?_
      obtain ⟨D18, hv18, hr⟩ := bnd_s hr
      refine G.callV (41) [.int (v16), .int (v17)] [] (k_X3_load E _ N B gr C D A hz ha16 hD hA v16 v17 D18 hv18) cls_X3 (by omega) (ha16.q41) cw_X3_48 w_1573 w_39 (Nat.le_of_ble_eq_true rfl) rfl (Nat.le_of_ble_eq_true rfl) (tbd tv_X3_store rfl) (fun v18w f18 q18 => ?_) (fun _ _ h => h.elim)
      obtain ⟨rfl, C18, ha18, hD18, hA18, hR18, fa18⟩ := q18
      refine G.eqs [] rfl ?_
      refine G.go tv_X3_store 4 165 [(0, .ref (gAd E (41))), (1, .int (x1)), (2, .int (x2)), (3, .ref (gAd E (1))), (4, .int (x4)), (5, .int (x5)), (6, .int (x6)), (8, .int (x8)), (9, .int (v16))] [.int ((x8) * ((128 : Int32))), .int (x2)] rfl ?_
      refine G.mmax w_1616 w_211 w_150 w_212 (Nat.le_of_ble_eq_true rfl) (Nat.le_of_ble_eq_true rfl) (by show _ ≤ _; first | exact Nat.zero_le _ | exact Nat.le_of_ble_eq_true rfl) (by show _ ≤ _; first | exact Nat.zero_le _ | exact Nat.le_of_ble_eq_true rfl) (tbd tv_X3_store rfl) ?_
      obtain ⟨v19, e19, hr⟩ := nm_s hr
      refine G.eq1 (b := v19) e19 ?_
      refine G.go tv_X3_store 9 184 [(0, .ref (gAd E (41))), (1, .int (x1)), (2, .int (x2)), (3, .ref (gAd E (1))), (4, .int (x4)), (5, .int (x5)), (6, .int (x6)), (8, .int (x8)), (9, .int (v16)), (10, .int (v19))] [.int (((x8) * ((128 : Int32))) + ((128 : Int32))), .int ((x2) + (x4))] rfl ?_
      refine G.mmin w_1578 w_214 w_150 w_215 (Nat.le_of_ble_eq_true rfl) (Nat.le_of_ble_eq_true rfl) (by show _ ≤ _; first | exact Nat.zero_le _ | exact Nat.le_of_ble_eq_true rfl) (by show _ ≤ _; first | exact Nat.zero_le _ | exact Nat.le_of_ble_eq_true rfl) (tbd tv_X3_store rfl) ?_
      obtain ⟨v20, e20, hr⟩ := nm_s hr
      refine G.eq1 (b := v20) e20 ?_
      refine G.go tv_X3_store 6 195 [(0, .ref (gAd E (41))), (1, .int (x1)), (2, .int (x2)), (3, .ref (gAd E (1))), (4, .int (x4)), (5, .int (x5)), (6, .int (x6)), (8, .int (x8)), (9, .int (v16)), (10, .int (v19)), (11, .int (v20))] [.ref (gAd E (41)), .int ((v19) - (x2)), .ref (gAd E (1))] rfl ?_
      refine G.getf cls_X3 (41) 2 (by omega) (ha18.q41) (by decide) rfl (tbd tv_X3_store rfl) w_527 ?_
      refine G.go tv_X3_store 8 212 [(0, .ref (gAd E (41))), (1, .int (x1)), (2, .int (x2)), (3, .ref (gAd E (1))), (4, .int (x4)), (5, .int (x5)), (6, .int (x6)), (8, .int (x8)), (9, .int (v16)), (10, .int (v19)), (11, .int (v20))] [.int ((v20) - (v19)), .int ((v19) - ((x8) * ((128 : Int32)))), .ref (gAd E (42)), .int ((v19) - (x2)), .ref (gAd E (1))] rfl ?_
      obtain ⟨bx21, hr⟩ := gd_s hr
      obtain ⟨D21, i121, i221, i321, i421, i521, eD21, hr⟩ := cpD_s hr
      refine G.copyB (1) (42) (by omega) ((ha18.q1).trans (congrArg (oB (gDA E) (1024)) (hD18.2 1 (by decide)))) (by omega) (ha18.q42) w_1577 w_755 w_754 w_167 i121 i221 i321 i421 i521 (fun i _ => bx21 _) (Nat.le_of_ble_eq_true rfl) (Nat.le_of_ble_eq_true rfl) (tbd tv_X3_store rfl) ?_
      refine G.gen (P := SN E N B gr f0 A D21) ⟨sA C18 42 (va_cpy (cA D18 1) (cA C18 42) ((v19) - (x2)).toNatClampNeg ((v19) - ((x8) * ((128 : Int32)))).toNatClampNeg ((v20) - (v19)).toNatClampNeg), ha18.p42 _, (by rw [eD21]; exact hD18.aF (fun g => va_cpy (cA D18 1) g ((v19) - (x2)).toNatClampNeg ((v19) - ((x8) * ((128 : Int32)))).toNatClampNeg ((v20) - (v19)).toNatClampNeg) (by decide)), hA18.sm (Sd.a (by decide) : Sd C18 (sA C18 42 (va_cpy (cA D18 1) (cA C18 42) ((v19) - (x2)).toNatClampNeg ((v19) - ((x8) * ((128 : Int32)))).toNatClampNeg ((v20) - (v19)).toNatClampNeg))), Fr.c ((hf.tr fa16 (fun _ h => h)).tr fa18 (fun _ h => h)) (by first | exact Or.inl (by decide) | exact Or.inr (by omega))⟩ (fun u21 p21 => ?_)
      obtain ⟨C21, h21, hD21, hA21, k21⟩ := p21
      refine G.go tv_X3_store 1 216 [(0, .ref (gAd E (41))), (1, .int (x1)), (2, .int (x2)), (3, .ref (gAd E (1))), (4, .int (x4)), (5, .int (x5)), (6, .int (x6)), (8, .int (x8)), (9, .int (v16)), (10, .int (v19)), (11, .int (v20))] [.ref (gAd E (41))] rfl ?_
      refine G.getf cls_X3 (41) 0 (by omega) (h21.q41) (by decide) rfl (tbd tv_X3_store rfl) w_525 ?_
      refine G.go tv_X3_store 2 222 [(0, .ref (gAd E (41))), (1, .int (x1)), (2, .int (x2)), (3, .ref (gAd E (1))), (4, .int (x4)), (5, .int (x5)), (6, .int (x6)), (8, .int (x8)), (9, .int (v16)), (10, .int (v19)), (11, .int (v20))] [.ref (gAd E (41)), .int (v16), .ref (gAd E (25))] rfl ?_
      refine G.getf cls_X3 (41) 2 (by omega) (h21.q41) (by decide) rfl (tbd tv_X3_store rfl) w_527 ?_
      rcases bndF_s hr with ⟨v22, A22, D22, hv22, hr⟩ | ⟨ex22, A22, D22, hv22, rfl⟩
      rotate_left
      · skip
        refine G.callV (25) [.int (v16), .ref (gAd E (42))] [] (k_X10_writeDirectly E _ N B gr C21 D21 A hz h21 hD21 hA21 v16 _ hv22) cls_X10 (by omega) (h21.q25) cw_X3_67 w_1582 w_1583 (Nat.le_of_ble_eq_true rfl) rfl (Nat.le_of_ble_eq_true rfl) (tbd tv_X3_store rfl) (fun v22w f22 q22 => ?_) (fun X g q => FQ.fr q k21)
        exact q22.elim
      refine G.callV (25) [.int (v16), .ref (gAd E (42))] [] (k_X10_writeDirectly E _ N B gr C21 D21 A hz h21 hD21 hA21 v16 _ hv22) cls_X10 (by omega) (h21.q25) cw_X3_67 w_1582 w_1583 (Nat.le_of_ble_eq_true rfl) rfl (Nat.le_of_ble_eq_true rfl) (tbd tv_X3_store rfl) (fun v22w f22 q22 => ?_) (fun _ _ h => h.elim)
      obtain ⟨rfl, C22, ha22, hD22, hA22, fa22⟩ := q22
      refine G.eqs [] rfl ?_
      refine G.go tv_X3_store 2 122 [(0, .ref (gAd E (41))), (1, .int (x1)), (2, .int (x2)), (3, .ref (gAd E (1))), (4, .int (x4)), (5, .int (x5)), (6, .int (x6)), (8, .int (x8 + (1 : Int32))), (9, .int (v16)), (10, .int (v19)), (11, .int (v20))] [] rfl ?_
      refine G.less [(0, .ref (gAd E (41))), (1, .int (x1)), (2, .int (x2)), (3, .ref (gAd E (1))), (4, .int (x4)), (5, .int (x5)), (6, .int (x6)), (8, .int (x8 + (1 : Int32)))] [0, 1, 2, 3, 4, 5, 6, 7] rfl ?_
      exact ih _ _ _ _ _ _ _ _ _ hr _ _ ha22 hD22 hA22 (k21.tr fa22 (fun _ h => h))
set_option maxRecDepth 100000 in
set_option maxHeartbeats 4000000 in
theorem l_X3_store_1_84 (E : gE) (f0 : Nat → va_E) (sz : Nat) (QA : Nat → Prop) (N B gr : Nat) (C0 : CfT) (hz : CfZ E N B gr) : ∀ (n : Nat), ∀ (A : MS) (D : CfT) (x1 : Int32) (x2 : Int32) (x4 : Int32) (x5 : Int32) (x6 : Int32) (x8 : Int32) (r : FR Int32) (hr : d_X3_store_1_84 N B gr n A D x1 x2 x4 x5 x6 x8 = some r) (f : Nat → va_E) (C : CfT) (h : CfV E f N B gr C) (hD : Dq D C) (hA : AR N B gr A C) (hf : Fr CfK f0 f), G E (12, yX3_store, 12, (some .int), sz, QA) cX3_store (gO E (12, yX3_store, 12, (some .int), sz, QA) (FQ E N B gr f0 (fun r => some (.int r)) r)) 84 [(0, .ref (gAd E (41))), (1, .int (x1)), (2, .int (x2)), (3, .ref (gAd E (1))), (4, .int (x4)), (5, .int (x5)), (6, .int (x6)), (8, .int (x8))] [] f := by
  obtain ⟨z1, z2, z3, z4, z5, z6, z7⟩ := id hz
  intro n
  induction n with
  | zero =>
    intro A D x1 x2 x4 x5 x6 x8 r hr f C h hD hA hf
    cases hr
  | succ n ih =>
    intro A D x1 x2 x4 x5 x6 x8 r hr f C h hD hA hf
    unfold d_X3_store_1_84 at hr
    refine G.go tv_X3_store 2 88 [(0, .ref (gAd E (41))), (1, .int (x1)), (2, .int (x2)), (3, .ref (gAd E (1))), (4, .int (x4)), (5, .int (x5)), (6, .int (x6)), (8, .int (x8))] [.int (x6), .int (x8)] rfl ?_
    refine G.cmp_gt 118 (tbd tv_X3_store rfl) (by decide) (fun c88 => ?_) (fun c88 => ?_)
    · replace hr := ite_t c88 hr
      refine G.go tv_X3_store 2 122 [(0, .ref (gAd E (41))), (1, .int (x1)), (2, .int (x2)), (3, .ref (gAd E (1))), (4, .int (x4)), (5, .int (x5)), (6, .int (x6)), (8, .int (x5))] [] rfl ?_
      refine G.less [(0, .ref (gAd E (41))), (1, .int (x1)), (2, .int (x2)), (3, .ref (gAd E (1))), (4, .int (x4)), (5, .int (x5)), (6, .int (x6)), (8, .int (x5))] [0, 1, 2, 3, 4, 5, 6, 7] rfl ?_
      exact l_X3_store_1_122 E f0 sz QA N B gr C0 hz _ _ _ _ _ _ _ _ _ _ hr _ _ h hD hA hf
    · replace hr := ite_f c88 hr
      refine G.go tv_X3_store 1 92 [(0, .ref (gAd E (41))), (1, .int (x1)), (2, .int (x2)), (3, .ref (gAd E (1))), (4, .int (x4)), (5, .int (x5)), (6, .int (x6)), (8, .int (x8))] [.ref (gAd E (41))] rfl ?_
      refine G.getf cls_X3 (41) 3 (by omega) (h.q41) (by decide) rfl (tbd tv_X3_store rfl) w_528 ?_
      refine G.go tv_X3_store 4 101 [(0, .ref (gAd E (41))), (1, .int (x1)), (2, .int (x2)), (3, .ref (gAd E (1))), (4, .int (x4)), (5, .int (x5)), (6, .int (x6)), (8, .int (x8))] [.ref (gAd E (41)), .int ((x8) - (x5)), .ref (gAd E (43))] rfl ?_
      refine G.getf cls_X3 (41) 1 (by omega) (h.q41) (by decide) rfl (tbd tv_X3_store rfl) w_526 ?_
      refine G.go tv_X3_store 3 108 [(0, .ref (gAd E (41))), (1, .int (x1)), (2, .int (x2)), (3, .ref (gAd E (1))), (4, .int (x4)), (5, .int (x5)), (6, .int (x6)), (8, .int (x8))] [.int ((0 : Int32)), .int (x8), .int (x1), .ref (gAd E (37)), .int ((x8) - (x5)), .ref (gAd E (43))] rfl ?_
      rcases bndF_s hr with ⟨v10, A10, D10, hv10, hr⟩ | ⟨ex10, A10, D10, hv10, rfl⟩
      rotate_left
      · skip
        refine G.callV (37) [.int (x1), .int (x8), .int ((0 : Int32))] [.int ((x8) - (x5)), .ref (gAd E (43))] (k_X7_have E _ N B gr C D A hz h hD hA x1 x8 ((0 : Int32)) _ hv10) cls_X7 (by omega) (h.q37) cw_X3_41 w_1440 w_1441 (Nat.le_of_ble_eq_true rfl) rfl (Nat.le_of_ble_eq_true rfl) (tbd tv_X3_store rfl) (fun v10w f10 q10 => ?_) (fun X g q => FQ.fr q hf)
        exact q10.elim
      refine G.callV (37) [.int (x1), .int (x8), .int ((0 : Int32))] [.int ((x8) - (x5)), .ref (gAd E (43))] (k_X7_have E _ N B gr C D A hz h hD hA x1 x8 ((0 : Int32)) _ hv10) cls_X7 (by omega) (h.q37) cw_X3_41 w_1440 w_1441 (Nat.le_of_ble_eq_true rfl) rfl (Nat.le_of_ble_eq_true rfl) (tbd tv_X3_store rfl) (fun v10w f10 q10 => ?_) (fun _ _ h => h.elim)
      obtain ⟨rfl, C10, ha10, hD10, hA10, fa10⟩ := q10
      refine G.eqs [.int (v10), .int ((x8) - (x5)), .ref (gAd E (43))] rfl ?_
      obtain ⟨D11, b11, eD11, hr⟩ := stA_s hr
      refine G.zast (43) (by omega) (ha10.q43) b11 (tbd tv_X3_store rfl) ?_
      refine G.gen (P := SN E N B gr f0 A10 D11) ⟨sA C10 43 (upd (cA C10 43) ((x8) - (x5)).toNatClampNeg (vp_nar .boolean v10)), ha10.p43 _, (by rw [eD11]; exact hD10.au (by decide)), hA10.sm (Sd.a (by decide) : Sd C10 (sA C10 43 (upd (cA C10 43) ((x8) - (x5)).toNatClampNeg (vp_nar .boolean v10)))), Fr.c (hf.tr fa10 (fun _ h => h)) (by first | exact Or.inl (by decide) | exact Or.inr (by omega))⟩ (fun u11 p11 => ?_)
      obtain ⟨C11, h11, hD11, hA11, k11⟩ := p11
      refine G.go tv_X3_store 2 84 [(0, .ref (gAd E (41))), (1, .int (x1)), (2, .int (x2)), (3, .ref (gAd E (1))), (4, .int (x4)), (5, .int (x5)), (6, .int (x6)), (8, .int (x8 + (1 : Int32)))] [] rfl ?_
      refine G.less [(0, .ref (gAd E (41))), (1, .int (x1)), (2, .int (x2)), (3, .ref (gAd E (1))), (4, .int (x4)), (5, .int (x5)), (6, .int (x6)), (8, .int (x8 + (1 : Int32)))] [0, 1, 2, 3, 4, 5, 6, 7] rfl ?_
      exact ih _ _ _ _ _ _ _ _ _ hr _ _ h11 hD11 hA11 k11
set_option maxRecDepth 100000 in
set_option maxHeartbeats 4000000 in
theorem k_X3_store_1 (E : gE) (f : Nat → va_E) (N B gr : Nat) (C D : CfT) (A : MS) (hz : CfZ E N B gr) (h : CfV E f N B gr C) (hD : Dq D C) (hA : AR N B gr A C) (a0 : Int32) (a1 : Int32) (a3 : Int32) (r : FR Int32) (hr : d_X3_store_1 N B gr A D a0 a1 a3 = some r) : Ct E 12 yX3_store cX3_store 12 (some .int) [.ref (gAd E (41)), .int (a0), .int (a1), .ref (gAd E (1)), .int (a3)] f (FQ E N B gr f (fun r => some (.int r)) r) := by
  obtain ⟨z1, z2, z3, z4, z5, z6, z7⟩ := id hz
  refine Ct.of (by decide) (Nat.le_of_ble_eq_true rfl) (fun sz => ?_)
  refine G.eql [(0, .ref (gAd E (41))), (1, .int (a0)), (2, .int (a1)), (3, .ref (gAd E (1))), (4, .int (a3))] rfl ?_
  unfold d_X3_store_1 at hr
  refine G.go tv_X3_store 1 1 [(0, .ref (gAd E (41))), (1, .int (a0)), (2, .int (a1)), (3, .ref (gAd E (1))), (4, .int (a3))] [.int (a1)] rfl ?_
  refine G.if_lt 17 (tbd tv_X3_store rfl) (by decide) (fun c1 => ?_) (fun c1 => ?_)
  · replace hr := ite_t c1 hr
    refine G.go tv_X3_store 1 19 [(0, .ref (gAd E (41))), (1, .int (a0)), (2, .int (a1)), (3, .ref (gAd E (1))), (4, .int (a3))] [.int ((-10 : Int32))] rfl ?_
    cases hr
    exact G.iret rfl rfl (FQ.ok rfl ⟨C, h, hD, hA, Fr.rf⟩) (tbd tv_X3_store rfl)
  · replace hr := ite_f c1 hr
    refine G.go tv_X3_store 5 10 [(0, .ref (gAd E (41))), (1, .int (a0)), (2, .int (a1)), (3, .ref (gAd E (1))), (4, .int (a3))] [.long (((a1 : Int32).toInt64) + ((a3 : Int32).toInt64))] rfl ?_
    refine G.ldc2 (400000) (tbd tv_X3_store rfl) w_1609 ?_
    refine G.go tv_X3_store 1 14 [(0, .ref (gAd E (41))), (1, .int (a0)), (2, .int (a1)), (3, .ref (gAd E (1))), (4, .int (a3))] [.int (lg_cmp (((a1 : Int32).toInt64) + ((a3 : Int32).toInt64)) ((400000 : Int64)))] rfl ?_
    refine G.if_le 20 (tbd tv_X3_store rfl) (by decide) (fun c14 => ?_) (fun c14 => ?_)
    · replace hr := ite_t c14 hr
      refine G.go tv_X3_store 1 22 [(0, .ref (gAd E (41))), (1, .int (a0)), (2, .int (a1)), (3, .ref (gAd E (1))), (4, .int (a3))] [.int (a3)] rfl ?_
      refine G.if_ne 27 (tbd tv_X3_store rfl) (by decide) (fun c22 => ?_) (fun c22 => ?_)
      · replace hr := ite_f c22 hr
        refine G.go tv_X3_store 2 31 [(0, .ref (gAd E (41))), (1, .int (a0)), (2, .int (a1)), (3, .ref (gAd E (1))), (4, .int (a3))] [.int ((128 : Int32)), .int (a1)] rfl ?_
        refine G.idiv (by decide) (tbd tv_X3_store rfl) ?_
        refine G.go tv_X3_store 7 43 [(0, .ref (gAd E (41))), (1, .int (a0)), (2, .int (a1)), (3, .ref (gAd E (1))), (4, .int (a3)), (5, .int ((a1) / ((128 : Int32))))] [.int ((128 : Int32)), .int (((a1) + (a3)) - ((1 : Int32)))] rfl ?_
        refine G.idiv (by decide) (tbd tv_X3_store rfl) ?_
        refine G.go tv_X3_store 2 47 [(0, .ref (gAd E (41))), (1, .int (a0)), (2, .int (a1)), (3, .ref (gAd E (1))), (4, .int (a3)), (5, .int ((a1) / ((128 : Int32)))), (6, .int ((((a1) + (a3)) - ((1 : Int32))) / ((128 : Int32))))] [.ref (gAd E (41))] rfl ?_
        refine G.getf cls_X3 (41) 1 (by omega) (h.q41) (by decide) rfl (tbd tv_X3_store rfl) w_526 ?_
        refine G.go tv_X3_store 3 55 [(0, .ref (gAd E (41))), (1, .int (a0)), (2, .int (a1)), (3, .ref (gAd E (1))), (4, .int (a3)), (5, .int ((a1) / ((128 : Int32)))), (6, .int ((((a1) + (a3)) - ((1 : Int32))) / ((128 : Int32))))] [.int ((((a1) + (a3)) - ((1 : Int32))) / ((128 : Int32))), .int ((a1) / ((128 : Int32))), .int (a0), .ref (gAd E (37))] rfl ?_
        obtain ⟨v8, hv8, hr⟩ := bnd_s hr
        refine G.callV (37) [.int (a0), .int ((a1) / ((128 : Int32))), .int ((((a1) + (a3)) - ((1 : Int32))) / ((128 : Int32)))] [] (k_X7_wanted E _ N B gr C D A hz h hD hA a0 ((a1) / ((128 : Int32))) ((((a1) + (a3)) - ((1 : Int32))) / ((128 : Int32))) v8 hv8) cls_X7 (by omega) (h.q37) cw_X3_29 w_1611 w_1612 (Nat.le_of_ble_eq_true rfl) rfl (Nat.le_of_ble_eq_true rfl) (tbd tv_X3_store rfl) (fun v8w f8 q8 => ?_) (fun _ _ h => h.elim)
        obtain ⟨rfl, ha8, fa8⟩ := q8
        refine G.eqs [.int (v8)] rfl ?_
        refine G.go tv_X3_store 2 62 [(0, .ref (gAd E (41))), (1, .int (a0)), (2, .int (a1)), (3, .ref (gAd E (1))), (4, .int (a3)), (5, .int ((a1) / ((128 : Int32)))), (6, .int ((((a1) + (a3)) - ((1 : Int32))) / ((128 : Int32)))), (7, .int (v8))] [.int (v8)] rfl ?_
        refine G.if_le 80 (tbd tv_X3_store rfl) (by decide) (fun c62 => ?_) (fun c62 => ?_)
        · replace hr := ite_t c62 hr
          refine G.go tv_X3_store 2 84 [(0, .ref (gAd E (41))), (1, .int (a0)), (2, .int (a1)), (3, .ref (gAd E (1))), (4, .int (a3)), (5, .int ((a1) / ((128 : Int32)))), (6, .int ((((a1) + (a3)) - ((1 : Int32))) / ((128 : Int32)))), (7, .int (v8)), (8, .int ((a1) / ((128 : Int32))))] [] rfl ?_
          refine G.less [(0, .ref (gAd E (41))), (1, .int (a0)), (2, .int (a1)), (3, .ref (gAd E (1))), (4, .int (a3)), (5, .int ((a1) / ((128 : Int32)))), (6, .int ((((a1) + (a3)) - ((1 : Int32))) / ((128 : Int32)))), (8, .int ((a1) / ((128 : Int32))))] [0, 1, 2, 3, 4, 5, 6, 8] rfl ?_
          exact l_X3_store_1_84 E f sz _ N B gr C hz _ _ _ _ _ _ _ _ _ _ hr _ _ ha8 hD hA (Fr.rf.tr fa8 (fun _ h => h))
        · replace hr := ite_f c62 hr
          refine G.go tv_X3_store 2 68 [(0, .ref (gAd E (41))), (1, .int (a0)), (2, .int (a1)), (3, .ref (gAd E (1))), (4, .int (a3)), (5, .int ((a1) / ((128 : Int32)))), (6, .int ((((a1) + (a3)) - ((1 : Int32))) / ((128 : Int32)))), (7, .int (v8))] [.ref (gAd E (41)), .int (v8)] rfl ?_
          refine G.getf cls_X3 (41) 0 (by omega) (ha8.q41) (by decide) rfl (tbd tv_X3_store rfl) w_525 ?_
          obtain ⟨v9, hv9, hr⟩ := bnd_s hr
          refine G.callV (25) [] [.int (v8)] (k_X10_available E _ N B gr C D A hz ha8 hD hA v9 hv9) cls_X10 (by omega) (ha8.q25) cw_X3_35 w_1409 w_1410 (Nat.le_of_ble_eq_true rfl) rfl (Nat.le_of_ble_eq_true rfl) (tbd tv_X3_store rfl) (fun v9w f9 q9 => ?_) (fun _ _ h => h.elim)
          obtain ⟨rfl, ha9, fa9⟩ := q9
          refine G.eqs [.int (v9), .int (v8)] rfl ?_
          refine G.cmp_le 80 (tbd tv_X3_store rfl) (by decide) (fun c74 => ?_) (fun c74 => ?_)
          · replace hr := ite_t c74 hr
            refine G.go tv_X3_store 2 84 [(0, .ref (gAd E (41))), (1, .int (a0)), (2, .int (a1)), (3, .ref (gAd E (1))), (4, .int (a3)), (5, .int ((a1) / ((128 : Int32)))), (6, .int ((((a1) + (a3)) - ((1 : Int32))) / ((128 : Int32)))), (7, .int (v8)), (8, .int ((a1) / ((128 : Int32))))] [] rfl ?_
            refine G.less [(0, .ref (gAd E (41))), (1, .int (a0)), (2, .int (a1)), (3, .ref (gAd E (1))), (4, .int (a3)), (5, .int ((a1) / ((128 : Int32)))), (6, .int ((((a1) + (a3)) - ((1 : Int32))) / ((128 : Int32)))), (8, .int ((a1) / ((128 : Int32))))] [0, 1, 2, 3, 4, 5, 6, 8] rfl ?_
            exact l_X3_store_1_84 E f sz _ N B gr C hz _ _ _ _ _ _ _ _ _ _ hr _ _ ha9 hD hA ((Fr.rf.tr fa8 (fun _ h => h)).tr fa9 (fun _ h => h))
          · replace hr := ite_f c74 hr
            refine G.go tv_X3_store 1 79 [(0, .ref (gAd E (41))), (1, .int (a0)), (2, .int (a1)), (3, .ref (gAd E (1))), (4, .int (a3)), (5, .int ((a1) / ((128 : Int32)))), (6, .int ((((a1) + (a3)) - ((1 : Int32))) / ((128 : Int32)))), (7, .int (v8))] [.int ((-7 : Int32))] rfl ?_
            cases hr
            exact G.iret rfl rfl (FQ.ok rfl ⟨C, ha9, hD, hA, ((Fr.rf.tr fa8 (fun _ h => h)).tr fa9 (fun _ h => h))⟩) (tbd tv_X3_store rfl)
      · replace hr := ite_t c22 hr
        refine G.go tv_X3_store 1 26 [(0, .ref (gAd E (41))), (1, .int (a0)), (2, .int (a1)), (3, .ref (gAd E (1))), (4, .int (a3))] [.int ((0 : Int32))] rfl ?_
        cases hr
        exact G.iret rfl rfl (FQ.ok rfl ⟨C, h, hD, hA, Fr.rf⟩) (tbd tv_X3_store rfl)
    · replace hr := ite_f c14 hr
      refine G.go tv_X3_store 1 19 [(0, .ref (gAd E (41))), (1, .int (a0)), (2, .int (a1)), (3, .ref (gAd E (1))), (4, .int (a3))] [.int ((-10 : Int32))] rfl ?_
      cases hr
      exact G.iret rfl rfl (FQ.ok rfl ⟨C, h, hD, hA, Fr.rf⟩) (tbd tv_X3_store rfl)
noncomputable def d_X3_store_53_122 (N B gr : Nat) : Nat → MS → CfT → Int32 → Int32 → Int32 → Int32 → Int32 → Int32 → Option (FR Int32)
  | 0, _, _, _, _, _, _, _, _ => none
  | n + 1, A, D, x1, x2, x4, x5, x6, x8 => if x6 < x8 then bnd (d_X7_size N (vA A) D x1) (fun v27 => if ((x2) + (x4)) ≤ v27 then bndF (d_X10_finish N B gr A D) (fun v28 A28 D28 => some (.inl (x4, A28, D28))) else bnd2 (d_X7_setSize N A D x1 ((x2) + (x4))) (fun A29 D29 => bndF (d_X10_finish N B gr A29 D29) (fun v30 A30 D30 => some (.inl (x4, A30, D30))))) else bnd (d_X7_reach N (vA A) D x1 x8 ((0 : Int32))) (fun v31 => ld (cA D 43) 17 ((x8) - (x5)) (fun v32 => bnd (d_X3_load N (vA A) D v31 v32) (fun D33 => nm (if x2 < ((x8) * ((128 : Int32))) then ((x8) * ((128 : Int32))) else x2) (fun v34 => nm (if (((x8) * ((128 : Int32))) + ((128 : Int32))) < ((x2) + (x4)) then (((x8) * ((128 : Int32))) + ((128 : Int32))) else ((x2) + (x4))) (fun v35 => gd (Byt (cA D33 53)) (cpD D33 42 128 (cA D33 53) 2000 ((v34) - (x2)) ((v34) - ((x8) * ((128 : Int32)))) ((v35) - (v34)) (fun D36 => bndF (d_X10_writeDirectly N B gr A D36 v31) (fun v37 A37 D37 => d_X3_store_53_122 N B gr n A37 D37 x1 x2 x4 x5 x6 (x8 + (1 : Int32))))))))))
noncomputable def d_X3_store_53_84 (N B gr : Nat) : Nat → MS → CfT → Int32 → Int32 → Int32 → Int32 → Int32 → Int32 → Option (FR Int32)
  | 0, _, _, _, _, _, _, _, _ => none
  | n + 1, A, D, x1, x2, x4, x5, x6, x8 => if x6 < x8 then d_X3_store_53_122 N B gr fuL A D x1 x2 x4 x5 x6 x5 else bndF (d_X7_have N B gr A D x1 x8 ((0 : Int32))) (fun v25 A25 D25 => stA D25 43 17 ((x8) - (x5)) (vp_nar .boolean v25) (fun D26 => d_X3_store_53_84 N B gr n A25 D26 x1 x2 x4 x5 x6 (x8 + (1 : Int32))))
noncomputable def d_X3_store_53 (N B gr : Nat) (A : MS) (D : CfT) (a0 : Int32) (a1 : Int32) (a3 : Int32) : Option (FR Int32) := if a1 < 0 then some (.inl ((-10 : Int32), A, D)) else if (lg_cmp (((a1 : Int32).toInt64) + ((a3 : Int32).toInt64)) ((400000 : Int64))) ≤ 0 then if a3 = 0 then some (.inl ((0 : Int32), A, D)) else bnd (d_X7_wanted N (vA A) D a0 ((a1) / ((128 : Int32))) ((((a1) + (a3)) - ((1 : Int32))) / ((128 : Int32)))) (fun v23 => if v23 ≤ 0 then d_X3_store_53_84 N B gr fuL A D a0 a1 a3 ((a1) / ((128 : Int32))) ((((a1) + (a3)) - ((1 : Int32))) / ((128 : Int32))) ((a1) / ((128 : Int32))) else bnd (d_X10_available N (vA A) A.2.2.2.2.1 D) (fun v24 => if v23 ≤ v24 then d_X3_store_53_84 N B gr fuL A D a0 a1 a3 ((a1) / ((128 : Int32))) ((((a1) + (a3)) - ((1 : Int32))) / ((128 : Int32))) ((a1) / ((128 : Int32))) else some (.inl ((-7 : Int32), A, D)))) else some (.inl ((-10 : Int32), A, D))
set_option maxRecDepth 100000 in
set_option maxHeartbeats 4000000 in
theorem l_X3_store_53_122 (E : gE) (f0 : Nat → va_E) (sz : Nat) (QA : Nat → Prop) (N B gr : Nat) (C0 : CfT) (hz : CfZ E N B gr) : ∀ (n : Nat), ∀ (A : MS) (D : CfT) (x1 : Int32) (x2 : Int32) (x4 : Int32) (x5 : Int32) (x6 : Int32) (x8 : Int32) (r : FR Int32) (hr : d_X3_store_53_122 N B gr n A D x1 x2 x4 x5 x6 x8 = some r) (f : Nat → va_E) (C : CfT) (h : CfV E f N B gr C) (hD : Dq D C) (hA : AR N B gr A C) (hf : Fr CfK f0 f), G E (12, yX3_store, 12, (some .int), sz, QA) cX3_store (gO E (12, yX3_store, 12, (some .int), sz, QA) (FQ E N B gr f0 (fun r => some (.int r)) r)) 122 [(0, .ref (gAd E (41))), (1, .int (x1)), (2, .int (x2)), (3, .ref (gAd E (53))), (4, .int (x4)), (5, .int (x5)), (6, .int (x6)), (8, .int (x8))] [] f := by
  obtain ⟨z1, z2, z3, z4, z5, z6, z7⟩ := id hz
  intro n
  induction n with
  | zero =>
    intro A D x1 x2 x4 x5 x6 x8 r hr f C h hD hA hf
    cases hr
  | succ n ih =>
    intro A D x1 x2 x4 x5 x6 x8 r hr f C h hD hA hf
    unfold d_X3_store_53_122 at hr
    refine G.go tv_X3_store 2 126 [(0, .ref (gAd E (41))), (1, .int (x1)), (2, .int (x2)), (3, .ref (gAd E (53))), (4, .int (x4)), (5, .int (x5)), (6, .int (x6)), (8, .int (x8))] [.int (x6), .int (x8)] rfl ?_
    refine G.cmp_gt 234 (tbd tv_X3_store rfl) (by decide) (fun c126 => ?_) (fun c126 => ?_)
    · replace hr := ite_t c126 hr
      refine G.go tv_X3_store 4 239 [(0, .ref (gAd E (41))), (1, .int (x1)), (2, .int (x2)), (3, .ref (gAd E (53))), (4, .int (x4)), (5, .int (x5)), (6, .int (x6)), (8, .int (x8))] [.ref (gAd E (41)), .int ((x2) + (x4))] rfl ?_
      refine G.getf cls_X3 (41) 1 (by omega) (h.q41) (by decide) rfl (tbd tv_X3_store rfl) w_526 ?_
      refine G.go tv_X3_store 1 243 [(0, .ref (gAd E (41))), (1, .int (x1)), (2, .int (x2)), (3, .ref (gAd E (53))), (4, .int (x4)), (5, .int (x5)), (6, .int (x6)), (8, .int (x8))] [.int (x1), .ref (gAd E (37)), .int ((x2) + (x4))] rfl ?_
      obtain ⟨v27, hv27, hr⟩ := bnd_s hr
      refine G.callV (37) [.int (x1)] [.int ((x2) + (x4))] (k_X7_size E _ N B gr C D A hz h hD hA x1 v27 hv27) cls_X7 (by omega) (h.q37) cw_X3_71 w_941 w_942 (Nat.le_of_ble_eq_true rfl) rfl (Nat.le_of_ble_eq_true rfl) (tbd tv_X3_store rfl) (fun v27w f27 q27 => ?_) (fun _ _ h => h.elim)
      obtain ⟨rfl, ha27, fa27⟩ := q27
      refine G.eqs [.int (v27), .int ((x2) + (x4))] rfl ?_
      refine G.cmp_le 261 (tbd tv_X3_store rfl) (by decide) (fun c246 => ?_) (fun c246 => ?_)
      · replace hr := ite_t c246 hr
        refine G.go tv_X3_store 1 262 [(0, .ref (gAd E (41))), (1, .int (x1)), (2, .int (x2)), (3, .ref (gAd E (53))), (4, .int (x4)), (5, .int (x5)), (6, .int (x6)), (8, .int (x8))] [.ref (gAd E (41))] rfl ?_
        refine G.getf cls_X3 (41) 0 (by omega) (ha27.q41) (by decide) rfl (tbd tv_X3_store rfl) w_525 ?_
        rcases bndF_s hr with ⟨v28, A28, D28, hv28, hr⟩ | ⟨ex28, A28, D28, hv28, rfl⟩
        rotate_left
        · skip
          refine G.callV (25) [] [] (k_X10_finish E _ N B gr C D A hz ha27 hD hA _ hv28) cls_X10 (by omega) (ha27.q25) cw_X3_79 w_1247 w_1248 (Nat.le_of_ble_eq_true rfl) rfl (Nat.le_of_ble_eq_true rfl) (tbd tv_X3_store rfl) (fun v28w f28 q28 => ?_) (fun X g q => FQ.fr q (hf.tr fa27 (fun _ h => h)))
          exact q28.elim
        refine G.callV (25) [] [] (k_X10_finish E _ N B gr C D A hz ha27 hD hA _ hv28) cls_X10 (by omega) (ha27.q25) cw_X3_79 w_1247 w_1248 (Nat.le_of_ble_eq_true rfl) rfl (Nat.le_of_ble_eq_true rfl) (tbd tv_X3_store rfl) (fun v28w f28 q28 => ?_) (fun _ _ h => h.elim)
        obtain ⟨rfl, C28, ha28, hD28, hA28, fa28⟩ := q28
        refine G.eqs [] rfl ?_
        refine G.go tv_X3_store 1 270 [(0, .ref (gAd E (41))), (1, .int (x1)), (2, .int (x2)), (3, .ref (gAd E (53))), (4, .int (x4)), (5, .int (x5)), (6, .int (x6)), (8, .int (x8))] [.int (x4)] rfl ?_
        cases hr
        exact G.iret rfl rfl (FQ.ok rfl ⟨C28, ha28, hD28, hA28, ((hf.tr fa27 (fun _ h => h)).tr fa28 (fun _ h => h))⟩) (tbd tv_X3_store rfl)
      · replace hr := ite_f c246 hr
        refine G.go tv_X3_store 1 250 [(0, .ref (gAd E (41))), (1, .int (x1)), (2, .int (x2)), (3, .ref (gAd E (53))), (4, .int (x4)), (5, .int (x5)), (6, .int (x6)), (8, .int (x8))] [.ref (gAd E (41))] rfl ?_
        refine G.getf cls_X3 (41) 1 (by omega) (ha27.q41) (by decide) rfl (tbd tv_X3_store rfl) w_526 ?_
        refine G.go tv_X3_store 4 258 [(0, .ref (gAd E (41))), (1, .int (x1)), (2, .int (x2)), (3, .ref (gAd E (53))), (4, .int (x4)), (5, .int (x5)), (6, .int (x6)), (8, .int (x8))] [.int ((x2) + (x4)), .int (x1), .ref (gAd E (37))] rfl ?_
        obtain ⟨A29, D29, hv29, hr⟩ := bnd2_s hr
        refine G.callV (37) [.int (x1), .int ((x2) + (x4))] [] (k_X7_setSize E _ N B gr C D A hz ha27 hD hA x1 ((x2) + (x4)) A29 D29 hv29) cls_X7 (by omega) (ha27.q37) cw_X3_75 w_1454 w_1455 (Nat.le_of_ble_eq_true rfl) rfl (Nat.le_of_ble_eq_true rfl) (tbd tv_X3_store rfl) (fun v29w f29 q29 => ?_) (fun _ _ h => h.elim)
        obtain ⟨rfl, C29, ha29, hD29, hA29, fa29⟩ := q29
        refine G.eqs [] rfl ?_
        refine G.go tv_X3_store 1 262 [(0, .ref (gAd E (41))), (1, .int (x1)), (2, .int (x2)), (3, .ref (gAd E (53))), (4, .int (x4)), (5, .int (x5)), (6, .int (x6)), (8, .int (x8))] [.ref (gAd E (41))] rfl ?_
        refine G.getf cls_X3 (41) 0 (by omega) (ha29.q41) (by decide) rfl (tbd tv_X3_store rfl) w_525 ?_
        rcases bndF_s hr with ⟨v30, A30, D30, hv30, hr⟩ | ⟨ex30, A30, D30, hv30, rfl⟩
        rotate_left
        · skip
          refine G.callV (25) [] [] (k_X10_finish E _ N B gr C29 D29 A29 hz ha29 hD29 hA29 _ hv30) cls_X10 (by omega) (ha29.q25) cw_X3_79 w_1247 w_1248 (Nat.le_of_ble_eq_true rfl) rfl (Nat.le_of_ble_eq_true rfl) (tbd tv_X3_store rfl) (fun v30w f30 q30 => ?_) (fun X g q => FQ.fr q ((hf.tr fa27 (fun _ h => h)).tr fa29 (fun _ h => h)))
          exact q30.elim
        refine G.callV (25) [] [] (k_X10_finish E _ N B gr C29 D29 A29 hz ha29 hD29 hA29 _ hv30) cls_X10 (by omega) (ha29.q25) cw_X3_79 w_1247 w_1248 (Nat.le_of_ble_eq_true rfl) rfl (Nat.le_of_ble_eq_true rfl) (tbd tv_X3_store rfl) (fun v30w f30 q30 => ?_) (fun _ _ h => h.elim)
        obtain ⟨rfl, C30, ha30, hD30, hA30, fa30⟩ := q30
        refine G.eqs [] rfl ?_
        refine G.go tv_X3_store 1 270 [(0, .ref (gAd E (41))), (1, .int (x1)), (2, .int (x2)), (3, .ref (gAd E (53))), (4, .int (x4)), (5, .int (x5)), (6, .int (x6)), (8, .int (x8))] [.int (x4)] rfl ?_
        cases hr
        exact G.iret rfl rfl (FQ.ok rfl ⟨C30, ha30, hD30, hA30, (((hf.tr fa27 (fun _ h => h)).tr fa29 (fun _ h => h)).tr fa30 (fun _ h => h))⟩) (tbd tv_X3_store rfl)
    · replace hr := ite_f c126 hr
      refine G.go tv_X3_store 1 130 [(0, .ref (gAd E (41))), (1, .int (x1)), (2, .int (x2)), (3, .ref (gAd E (53))), (4, .int (x4)), (5, .int (x5)), (6, .int (x6)), (8, .int (x8))] [.ref (gAd E (41))] rfl ?_
      refine G.getf cls_X3 (41) 1 (by omega) (h.q41) (by decide) rfl (tbd tv_X3_store rfl) w_526 ?_
      refine G.go tv_X3_store 3 137 [(0, .ref (gAd E (41))), (1, .int (x1)), (2, .int (x2)), (3, .ref (gAd E (53))), (4, .int (x4)), (5, .int (x5)), (6, .int (x6)), (8, .int (x8))] [.int ((0 : Int32)), .int (x8), .int (x1), .ref (gAd E (37))] rfl ?_
      obtain ⟨v31, hv31, hr⟩ := bnd_s hr
      refine G.callV (37) [.int (x1), .int (x8), .int ((0 : Int32))] [] (k_X7_reach E _ N B gr C D A hz h hD hA x1 x8 ((0 : Int32)) v31 hv31) cls_X7 (by omega) (h.q37) cw_X3_45 w_954 w_955 (Nat.le_of_ble_eq_true rfl) rfl (Nat.le_of_ble_eq_true rfl) (tbd tv_X3_store rfl) (fun v31w f31 q31 => ?_) (fun _ _ h => h.elim)
      obtain ⟨rfl, ha31, fa31⟩ := q31
      refine G.eqs [.int (v31)] rfl ?_
      refine G.go tv_X3_store 4 146 [(0, .ref (gAd E (41))), (1, .int (x1)), (2, .int (x2)), (3, .ref (gAd E (53))), (4, .int (x4)), (5, .int (x5)), (6, .int (x6)), (8, .int (x8)), (9, .int (v31))] [.ref (gAd E (41)), .int (v31), .ref (gAd E (41))] rfl ?_
      refine G.getf cls_X3 (41) 3 (by omega) (ha31.q41) (by decide) rfl (tbd tv_X3_store rfl) w_528 ?_
      refine G.go tv_X3_store 3 154 [(0, .ref (gAd E (41))), (1, .int (x1)), (2, .int (x2)), (3, .ref (gAd E (53))), (4, .int (x4)), (5, .int (x5)), (6, .int (x6)), (8, .int (x8)), (9, .int (v31))] [.int ((x8) - (x5)), .ref (gAd E (43)), .int (v31), .ref (gAd E (41))] rfl ?_
      obtain ⟨v32, b32, e32, hr⟩ := ld_s hr
      refine G.zaldE (43) (by omega) ((ha31.q43).trans (congrArg (oZ (gDA E) (17)) (hD.2 43 (by decide)))) b32 e32 (tbd tv_X3_store rfl) ?_
      obtain ⟨D33, hv33, hr⟩ := bnd_s hr
      refine G.callV (41) [.int (v31), .int (v32)] [] (k_X3_load E _ N B gr C D A hz ha31 hD hA v31 v32 D33 hv33) cls_X3 (by omega) (ha31.q41) cw_X3_48 w_1573 w_39 (Nat.le_of_ble_eq_true rfl) rfl (Nat.le_of_ble_eq_true rfl) (tbd tv_X3_store rfl) (fun v33w f33 q33 => ?_) (fun _ _ h => h.elim)
      obtain ⟨rfl, C33, ha33, hD33, hA33, hR33, fa33⟩ := q33
      refine G.eqs [] rfl ?_
      refine G.go tv_X3_store 4 165 [(0, .ref (gAd E (41))), (1, .int (x1)), (2, .int (x2)), (3, .ref (gAd E (53))), (4, .int (x4)), (5, .int (x5)), (6, .int (x6)), (8, .int (x8)), (9, .int (v31))] [.int ((x8) * ((128 : Int32))), .int (x2)] rfl ?_
      refine G.mmax w_1616 w_211 w_150 w_212 (Nat.le_of_ble_eq_true rfl) (Nat.le_of_ble_eq_true rfl) (by show _ ≤ _; first | exact Nat.zero_le _ | exact Nat.le_of_ble_eq_true rfl) (by show _ ≤ _; first | exact Nat.zero_le _ | exact Nat.le_of_ble_eq_true rfl) (tbd tv_X3_store rfl) ?_
      obtain ⟨v34, e34, hr⟩ := nm_s hr
      refine G.eq1 (b := v34) e34 ?_
      refine G.go tv_X3_store 9 184 [(0, .ref (gAd E (41))), (1, .int (x1)), (2, .int (x2)), (3, .ref (gAd E (53))), (4, .int (x4)), (5, .int (x5)), (6, .int (x6)), (8, .int (x8)), (9, .int (v31)), (10, .int (v34))] [.int (((x8) * ((128 : Int32))) + ((128 : Int32))), .int ((x2) + (x4))] rfl ?_
      refine G.mmin w_1578 w_214 w_150 w_215 (Nat.le_of_ble_eq_true rfl) (Nat.le_of_ble_eq_true rfl) (by show _ ≤ _; first | exact Nat.zero_le _ | exact Nat.le_of_ble_eq_true rfl) (by show _ ≤ _; first | exact Nat.zero_le _ | exact Nat.le_of_ble_eq_true rfl) (tbd tv_X3_store rfl) ?_
      obtain ⟨v35, e35, hr⟩ := nm_s hr
      refine G.eq1 (b := v35) e35 ?_
      refine G.go tv_X3_store 6 195 [(0, .ref (gAd E (41))), (1, .int (x1)), (2, .int (x2)), (3, .ref (gAd E (53))), (4, .int (x4)), (5, .int (x5)), (6, .int (x6)), (8, .int (x8)), (9, .int (v31)), (10, .int (v34)), (11, .int (v35))] [.ref (gAd E (41)), .int ((v34) - (x2)), .ref (gAd E (53))] rfl ?_
      refine G.getf cls_X3 (41) 2 (by omega) (ha33.q41) (by decide) rfl (tbd tv_X3_store rfl) w_527 ?_
      refine G.go tv_X3_store 8 212 [(0, .ref (gAd E (41))), (1, .int (x1)), (2, .int (x2)), (3, .ref (gAd E (53))), (4, .int (x4)), (5, .int (x5)), (6, .int (x6)), (8, .int (x8)), (9, .int (v31)), (10, .int (v34)), (11, .int (v35))] [.int ((v35) - (v34)), .int ((v34) - ((x8) * ((128 : Int32)))), .ref (gAd E (42)), .int ((v34) - (x2)), .ref (gAd E (53))] rfl ?_
      obtain ⟨bx36, hr⟩ := gd_s hr
      obtain ⟨D36, i136, i236, i336, i436, i536, eD36, hr⟩ := cpD_s hr
      refine G.copyB (53) (42) (by omega) ((ha33.q53).trans (congrArg (oB (gDA E) (2000)) (hD33.2 53 (by decide)))) (by omega) (ha33.q42) w_1577 w_755 w_754 w_167 i136 i236 i336 i436 i536 (fun i _ => bx36 _) (Nat.le_of_ble_eq_true rfl) (Nat.le_of_ble_eq_true rfl) (tbd tv_X3_store rfl) ?_
      refine G.gen (P := SN E N B gr f0 A D36) ⟨sA C33 42 (va_cpy (cA D33 53) (cA C33 42) ((v34) - (x2)).toNatClampNeg ((v34) - ((x8) * ((128 : Int32)))).toNatClampNeg ((v35) - (v34)).toNatClampNeg), ha33.p42 _, (by rw [eD36]; exact hD33.aF (fun g => va_cpy (cA D33 53) g ((v34) - (x2)).toNatClampNeg ((v34) - ((x8) * ((128 : Int32)))).toNatClampNeg ((v35) - (v34)).toNatClampNeg) (by decide)), hA33.sm (Sd.a (by decide) : Sd C33 (sA C33 42 (va_cpy (cA D33 53) (cA C33 42) ((v34) - (x2)).toNatClampNeg ((v34) - ((x8) * ((128 : Int32)))).toNatClampNeg ((v35) - (v34)).toNatClampNeg))), Fr.c ((hf.tr fa31 (fun _ h => h)).tr fa33 (fun _ h => h)) (by first | exact Or.inl (by decide) | exact Or.inr (by omega))⟩ (fun u36 p36 => ?_)
      obtain ⟨C36, h36, hD36, hA36, k36⟩ := p36
      refine G.go tv_X3_store 1 216 [(0, .ref (gAd E (41))), (1, .int (x1)), (2, .int (x2)), (3, .ref (gAd E (53))), (4, .int (x4)), (5, .int (x5)), (6, .int (x6)), (8, .int (x8)), (9, .int (v31)), (10, .int (v34)), (11, .int (v35))] [.ref (gAd E (41))] rfl ?_
      refine G.getf cls_X3 (41) 0 (by omega) (h36.q41) (by decide) rfl (tbd tv_X3_store rfl) w_525 ?_
      refine G.go tv_X3_store 2 222 [(0, .ref (gAd E (41))), (1, .int (x1)), (2, .int (x2)), (3, .ref (gAd E (53))), (4, .int (x4)), (5, .int (x5)), (6, .int (x6)), (8, .int (x8)), (9, .int (v31)), (10, .int (v34)), (11, .int (v35))] [.ref (gAd E (41)), .int (v31), .ref (gAd E (25))] rfl ?_
      refine G.getf cls_X3 (41) 2 (by omega) (h36.q41) (by decide) rfl (tbd tv_X3_store rfl) w_527 ?_
      rcases bndF_s hr with ⟨v37, A37, D37, hv37, hr⟩ | ⟨ex37, A37, D37, hv37, rfl⟩
      rotate_left
      · skip
        refine G.callV (25) [.int (v31), .ref (gAd E (42))] [] (k_X10_writeDirectly E _ N B gr C36 D36 A hz h36 hD36 hA36 v31 _ hv37) cls_X10 (by omega) (h36.q25) cw_X3_67 w_1582 w_1583 (Nat.le_of_ble_eq_true rfl) rfl (Nat.le_of_ble_eq_true rfl) (tbd tv_X3_store rfl) (fun v37w f37 q37 => ?_) (fun X g q => FQ.fr q k36)
        exact q37.elim
      refine G.callV (25) [.int (v31), .ref (gAd E (42))] [] (k_X10_writeDirectly E _ N B gr C36 D36 A hz h36 hD36 hA36 v31 _ hv37) cls_X10 (by omega) (h36.q25) cw_X3_67 w_1582 w_1583 (Nat.le_of_ble_eq_true rfl) rfl (Nat.le_of_ble_eq_true rfl) (tbd tv_X3_store rfl) (fun v37w f37 q37 => ?_) (fun _ _ h => h.elim)
      obtain ⟨rfl, C37, ha37, hD37, hA37, fa37⟩ := q37
      refine G.eqs [] rfl ?_
      refine G.go tv_X3_store 2 122 [(0, .ref (gAd E (41))), (1, .int (x1)), (2, .int (x2)), (3, .ref (gAd E (53))), (4, .int (x4)), (5, .int (x5)), (6, .int (x6)), (8, .int (x8 + (1 : Int32))), (9, .int (v31)), (10, .int (v34)), (11, .int (v35))] [] rfl ?_
      refine G.less [(0, .ref (gAd E (41))), (1, .int (x1)), (2, .int (x2)), (3, .ref (gAd E (53))), (4, .int (x4)), (5, .int (x5)), (6, .int (x6)), (8, .int (x8 + (1 : Int32)))] [0, 1, 2, 3, 4, 5, 6, 7] rfl ?_
      exact ih _ _ _ _ _ _ _ _ _ hr _ _ ha37 hD37 hA37 (k36.tr fa37 (fun _ h => h))
set_option maxRecDepth 100000 in
set_option maxHeartbeats 4000000 in
theorem l_X3_store_53_84 (E : gE) (f0 : Nat → va_E) (sz : Nat) (QA : Nat → Prop) (N B gr : Nat) (C0 : CfT) (hz : CfZ E N B gr) : ∀ (n : Nat), ∀ (A : MS) (D : CfT) (x1 : Int32) (x2 : Int32) (x4 : Int32) (x5 : Int32) (x6 : Int32) (x8 : Int32) (r : FR Int32) (hr : d_X3_store_53_84 N B gr n A D x1 x2 x4 x5 x6 x8 = some r) (f : Nat → va_E) (C : CfT) (h : CfV E f N B gr C) (hD : Dq D C) (hA : AR N B gr A C) (hf : Fr CfK f0 f), G E (12, yX3_store, 12, (some .int), sz, QA) cX3_store (gO E (12, yX3_store, 12, (some .int), sz, QA) (FQ E N B gr f0 (fun r => some (.int r)) r)) 84 [(0, .ref (gAd E (41))), (1, .int (x1)), (2, .int (x2)), (3, .ref (gAd E (53))), (4, .int (x4)), (5, .int (x5)), (6, .int (x6)), (8, .int (x8))] [] f := by
  obtain ⟨z1, z2, z3, z4, z5, z6, z7⟩ := id hz
  intro n
  induction n with
  | zero =>
    intro A D x1 x2 x4 x5 x6 x8 r hr f C h hD hA hf
    cases hr
  | succ n ih =>
    intro A D x1 x2 x4 x5 x6 x8 r hr f C h hD hA hf
    unfold d_X3_store_53_84 at hr
    refine G.go tv_X3_store 2 88 [(0, .ref (gAd E (41))), (1, .int (x1)), (2, .int (x2)), (3, .ref (gAd E (53))), (4, .int (x4)), (5, .int (x5)), (6, .int (x6)), (8, .int (x8))] [.int (x6), .int (x8)] rfl ?_
    refine G.cmp_gt 118 (tbd tv_X3_store rfl) (by decide) (fun c88 => ?_) (fun c88 => ?_)
    · replace hr := ite_t c88 hr
      refine G.go tv_X3_store 2 122 [(0, .ref (gAd E (41))), (1, .int (x1)), (2, .int (x2)), (3, .ref (gAd E (53))), (4, .int (x4)), (5, .int (x5)), (6, .int (x6)), (8, .int (x5))] [] rfl ?_
      refine G.less [(0, .ref (gAd E (41))), (1, .int (x1)), (2, .int (x2)), (3, .ref (gAd E (53))), (4, .int (x4)), (5, .int (x5)), (6, .int (x6)), (8, .int (x5))] [0, 1, 2, 3, 4, 5, 6, 7] rfl ?_
      exact l_X3_store_53_122 E f0 sz QA N B gr C0 hz _ _ _ _ _ _ _ _ _ _ hr _ _ h hD hA hf
    · replace hr := ite_f c88 hr
      refine G.go tv_X3_store 1 92 [(0, .ref (gAd E (41))), (1, .int (x1)), (2, .int (x2)), (3, .ref (gAd E (53))), (4, .int (x4)), (5, .int (x5)), (6, .int (x6)), (8, .int (x8))] [.ref (gAd E (41))] rfl ?_
      refine G.getf cls_X3 (41) 3 (by omega) (h.q41) (by decide) rfl (tbd tv_X3_store rfl) w_528 ?_
      refine G.go tv_X3_store 4 101 [(0, .ref (gAd E (41))), (1, .int (x1)), (2, .int (x2)), (3, .ref (gAd E (53))), (4, .int (x4)), (5, .int (x5)), (6, .int (x6)), (8, .int (x8))] [.ref (gAd E (41)), .int ((x8) - (x5)), .ref (gAd E (43))] rfl ?_
      refine G.getf cls_X3 (41) 1 (by omega) (h.q41) (by decide) rfl (tbd tv_X3_store rfl) w_526 ?_
      refine G.go tv_X3_store 3 108 [(0, .ref (gAd E (41))), (1, .int (x1)), (2, .int (x2)), (3, .ref (gAd E (53))), (4, .int (x4)), (5, .int (x5)), (6, .int (x6)), (8, .int (x8))] [.int ((0 : Int32)), .int (x8), .int (x1), .ref (gAd E (37)), .int ((x8) - (x5)), .ref (gAd E (43))] rfl ?_
      rcases bndF_s hr with ⟨v25, A25, D25, hv25, hr⟩ | ⟨ex25, A25, D25, hv25, rfl⟩
      rotate_left
      · skip
        refine G.callV (37) [.int (x1), .int (x8), .int ((0 : Int32))] [.int ((x8) - (x5)), .ref (gAd E (43))] (k_X7_have E _ N B gr C D A hz h hD hA x1 x8 ((0 : Int32)) _ hv25) cls_X7 (by omega) (h.q37) cw_X3_41 w_1440 w_1441 (Nat.le_of_ble_eq_true rfl) rfl (Nat.le_of_ble_eq_true rfl) (tbd tv_X3_store rfl) (fun v25w f25 q25 => ?_) (fun X g q => FQ.fr q hf)
        exact q25.elim
      refine G.callV (37) [.int (x1), .int (x8), .int ((0 : Int32))] [.int ((x8) - (x5)), .ref (gAd E (43))] (k_X7_have E _ N B gr C D A hz h hD hA x1 x8 ((0 : Int32)) _ hv25) cls_X7 (by omega) (h.q37) cw_X3_41 w_1440 w_1441 (Nat.le_of_ble_eq_true rfl) rfl (Nat.le_of_ble_eq_true rfl) (tbd tv_X3_store rfl) (fun v25w f25 q25 => ?_) (fun _ _ h => h.elim)
      obtain ⟨rfl, C25, ha25, hD25, hA25, fa25⟩ := q25
      refine G.eqs [.int (v25), .int ((x8) - (x5)), .ref (gAd E (43))] rfl ?_
      obtain ⟨D26, b26, eD26, hr⟩ := stA_s hr
      refine G.zast (43) (by omega) (ha25.q43) b26 (tbd tv_X3_store rfl) ?_
      refine G.gen (P := SN E N B gr f0 A25 D26) ⟨sA C25 43 (upd (cA C25 43) ((x8) - (x5)).toNatClampNeg (vp_nar .boolean v25)), ha25.p43 _, (by rw [eD26]; exact hD25.au (by decide)), hA25.sm (Sd.a (by decide) : Sd C25 (sA C25 43 (upd (cA C25 43) ((x8) - (x5)).toNatClampNeg (vp_nar .boolean v25)))), Fr.c (hf.tr fa25 (fun _ h => h)) (by first | exact Or.inl (by decide) | exact Or.inr (by omega))⟩ (fun u26 p26 => ?_)
      obtain ⟨C26, h26, hD26, hA26, k26⟩ := p26
      refine G.go tv_X3_store 2 84 [(0, .ref (gAd E (41))), (1, .int (x1)), (2, .int (x2)), (3, .ref (gAd E (53))), (4, .int (x4)), (5, .int (x5)), (6, .int (x6)), (8, .int (x8 + (1 : Int32)))] [] rfl ?_
      refine G.less [(0, .ref (gAd E (41))), (1, .int (x1)), (2, .int (x2)), (3, .ref (gAd E (53))), (4, .int (x4)), (5, .int (x5)), (6, .int (x6)), (8, .int (x8 + (1 : Int32)))] [0, 1, 2, 3, 4, 5, 6, 7] rfl ?_
      exact ih _ _ _ _ _ _ _ _ _ hr _ _ h26 hD26 hA26 k26
set_option maxRecDepth 100000 in
set_option maxHeartbeats 4000000 in
theorem k_X3_store_53 (E : gE) (f : Nat → va_E) (N B gr : Nat) (C D : CfT) (A : MS) (hz : CfZ E N B gr) (h : CfV E f N B gr C) (hD : Dq D C) (hA : AR N B gr A C) (a0 : Int32) (a1 : Int32) (a3 : Int32) (r : FR Int32) (hr : d_X3_store_53 N B gr A D a0 a1 a3 = some r) : Ct E 12 yX3_store cX3_store 12 (some .int) [.ref (gAd E (41)), .int (a0), .int (a1), .ref (gAd E (53)), .int (a3)] f (FQ E N B gr f (fun r => some (.int r)) r) := by
  obtain ⟨z1, z2, z3, z4, z5, z6, z7⟩ := id hz
  refine Ct.of (by decide) (Nat.le_of_ble_eq_true rfl) (fun sz => ?_)
  refine G.eql [(0, .ref (gAd E (41))), (1, .int (a0)), (2, .int (a1)), (3, .ref (gAd E (53))), (4, .int (a3))] rfl ?_
  unfold d_X3_store_53 at hr
  refine G.go tv_X3_store 1 1 [(0, .ref (gAd E (41))), (1, .int (a0)), (2, .int (a1)), (3, .ref (gAd E (53))), (4, .int (a3))] [.int (a1)] rfl ?_
  refine G.if_lt 17 (tbd tv_X3_store rfl) (by decide) (fun c1 => ?_) (fun c1 => ?_)
  · replace hr := ite_t c1 hr
    refine G.go tv_X3_store 1 19 [(0, .ref (gAd E (41))), (1, .int (a0)), (2, .int (a1)), (3, .ref (gAd E (53))), (4, .int (a3))] [.int ((-10 : Int32))] rfl ?_
    cases hr
    exact G.iret rfl rfl (FQ.ok rfl ⟨C, h, hD, hA, Fr.rf⟩) (tbd tv_X3_store rfl)
  · replace hr := ite_f c1 hr
    refine G.go tv_X3_store 5 10 [(0, .ref (gAd E (41))), (1, .int (a0)), (2, .int (a1)), (3, .ref (gAd E (53))), (4, .int (a3))] [.long (((a1 : Int32).toInt64) + ((a3 : Int32).toInt64))] rfl ?_
    refine G.ldc2 (400000) (tbd tv_X3_store rfl) w_1609 ?_
    refine G.go tv_X3_store 1 14 [(0, .ref (gAd E (41))), (1, .int (a0)), (2, .int (a1)), (3, .ref (gAd E (53))), (4, .int (a3))] [.int (lg_cmp (((a1 : Int32).toInt64) + ((a3 : Int32).toInt64)) ((400000 : Int64)))] rfl ?_
    refine G.if_le 20 (tbd tv_X3_store rfl) (by decide) (fun c14 => ?_) (fun c14 => ?_)
    · replace hr := ite_t c14 hr
      refine G.go tv_X3_store 1 22 [(0, .ref (gAd E (41))), (1, .int (a0)), (2, .int (a1)), (3, .ref (gAd E (53))), (4, .int (a3))] [.int (a3)] rfl ?_
      refine G.if_ne 27 (tbd tv_X3_store rfl) (by decide) (fun c22 => ?_) (fun c22 => ?_)
      · replace hr := ite_f c22 hr
        refine G.go tv_X3_store 2 31 [(0, .ref (gAd E (41))), (1, .int (a0)), (2, .int (a1)), (3, .ref (gAd E (53))), (4, .int (a3))] [.int ((128 : Int32)), .int (a1)] rfl ?_
        refine G.idiv (by decide) (tbd tv_X3_store rfl) ?_
        refine G.go tv_X3_store 7 43 [(0, .ref (gAd E (41))), (1, .int (a0)), (2, .int (a1)), (3, .ref (gAd E (53))), (4, .int (a3)), (5, .int ((a1) / ((128 : Int32))))] [.int ((128 : Int32)), .int (((a1) + (a3)) - ((1 : Int32)))] rfl ?_
        refine G.idiv (by decide) (tbd tv_X3_store rfl) ?_
        refine G.go tv_X3_store 2 47 [(0, .ref (gAd E (41))), (1, .int (a0)), (2, .int (a1)), (3, .ref (gAd E (53))), (4, .int (a3)), (5, .int ((a1) / ((128 : Int32)))), (6, .int ((((a1) + (a3)) - ((1 : Int32))) / ((128 : Int32))))] [.ref (gAd E (41))] rfl ?_
        refine G.getf cls_X3 (41) 1 (by omega) (h.q41) (by decide) rfl (tbd tv_X3_store rfl) w_526 ?_
        refine G.go tv_X3_store 3 55 [(0, .ref (gAd E (41))), (1, .int (a0)), (2, .int (a1)), (3, .ref (gAd E (53))), (4, .int (a3)), (5, .int ((a1) / ((128 : Int32)))), (6, .int ((((a1) + (a3)) - ((1 : Int32))) / ((128 : Int32))))] [.int ((((a1) + (a3)) - ((1 : Int32))) / ((128 : Int32))), .int ((a1) / ((128 : Int32))), .int (a0), .ref (gAd E (37))] rfl ?_
        obtain ⟨v23, hv23, hr⟩ := bnd_s hr
        refine G.callV (37) [.int (a0), .int ((a1) / ((128 : Int32))), .int ((((a1) + (a3)) - ((1 : Int32))) / ((128 : Int32)))] [] (k_X7_wanted E _ N B gr C D A hz h hD hA a0 ((a1) / ((128 : Int32))) ((((a1) + (a3)) - ((1 : Int32))) / ((128 : Int32))) v23 hv23) cls_X7 (by omega) (h.q37) cw_X3_29 w_1611 w_1612 (Nat.le_of_ble_eq_true rfl) rfl (Nat.le_of_ble_eq_true rfl) (tbd tv_X3_store rfl) (fun v23w f23 q23 => ?_) (fun _ _ h => h.elim)
        obtain ⟨rfl, ha23, fa23⟩ := q23
        refine G.eqs [.int (v23)] rfl ?_
        refine G.go tv_X3_store 2 62 [(0, .ref (gAd E (41))), (1, .int (a0)), (2, .int (a1)), (3, .ref (gAd E (53))), (4, .int (a3)), (5, .int ((a1) / ((128 : Int32)))), (6, .int ((((a1) + (a3)) - ((1 : Int32))) / ((128 : Int32)))), (7, .int (v23))] [.int (v23)] rfl ?_
        refine G.if_le 80 (tbd tv_X3_store rfl) (by decide) (fun c62 => ?_) (fun c62 => ?_)
        · replace hr := ite_t c62 hr
          refine G.go tv_X3_store 2 84 [(0, .ref (gAd E (41))), (1, .int (a0)), (2, .int (a1)), (3, .ref (gAd E (53))), (4, .int (a3)), (5, .int ((a1) / ((128 : Int32)))), (6, .int ((((a1) + (a3)) - ((1 : Int32))) / ((128 : Int32)))), (7, .int (v23)), (8, .int ((a1) / ((128 : Int32))))] [] rfl ?_
          refine G.less [(0, .ref (gAd E (41))), (1, .int (a0)), (2, .int (a1)), (3, .ref (gAd E (53))), (4, .int (a3)), (5, .int ((a1) / ((128 : Int32)))), (6, .int ((((a1) + (a3)) - ((1 : Int32))) / ((128 : Int32)))), (8, .int ((a1) / ((128 : Int32))))] [0, 1, 2, 3, 4, 5, 6, 8] rfl ?_
          exact l_X3_store_53_84 E f sz _ N B gr C hz _ _ _ _ _ _ _ _ _ _ hr _ _ ha23 hD hA (Fr.rf.tr fa23 (fun _ h => h))
        · replace hr := ite_f c62 hr
          refine G.go tv_X3_store 2 68 [(0, .ref (gAd E (41))), (1, .int (a0)), (2, .int (a1)), (3, .ref (gAd E (53))), (4, .int (a3)), (5, .int ((a1) / ((128 : Int32)))), (6, .int ((((a1) + (a3)) - ((1 : Int32))) / ((128 : Int32)))), (7, .int (v23))] [.ref (gAd E (41)), .int (v23)] rfl ?_
          refine G.getf cls_X3 (41) 0 (by omega) (ha23.q41) (by decide) rfl (tbd tv_X3_store rfl) w_525 ?_
          obtain ⟨v24, hv24, hr⟩ := bnd_s hr
          refine G.callV (25) [] [.int (v23)] (k_X10_available E _ N B gr C D A hz ha23 hD hA v24 hv24) cls_X10 (by omega) (ha23.q25) cw_X3_35 w_1409 w_1410 (Nat.le_of_ble_eq_true rfl) rfl (Nat.le_of_ble_eq_true rfl) (tbd tv_X3_store rfl) (fun v24w f24 q24 => ?_) (fun _ _ h => h.elim)
          obtain ⟨rfl, ha24, fa24⟩ := q24
          refine G.eqs [.int (v24), .int (v23)] rfl ?_
          refine G.cmp_le 80 (tbd tv_X3_store rfl) (by decide) (fun c74 => ?_) (fun c74 => ?_)
          · replace hr := ite_t c74 hr
            refine G.go tv_X3_store 2 84 [(0, .ref (gAd E (41))), (1, .int (a0)), (2, .int (a1)), (3, .ref (gAd E (53))), (4, .int (a3)), (5, .int ((a1) / ((128 : Int32)))), (6, .int ((((a1) + (a3)) - ((1 : Int32))) / ((128 : Int32)))), (7, .int (v23)), (8, .int ((a1) / ((128 : Int32))))] [] rfl ?_
            refine G.less [(0, .ref (gAd E (41))), (1, .int (a0)), (2, .int (a1)), (3, .ref (gAd E (53))), (4, .int (a3)), (5, .int ((a1) / ((128 : Int32)))), (6, .int ((((a1) + (a3)) - ((1 : Int32))) / ((128 : Int32)))), (8, .int ((a1) / ((128 : Int32))))] [0, 1, 2, 3, 4, 5, 6, 8] rfl ?_
            exact l_X3_store_53_84 E f sz _ N B gr C hz _ _ _ _ _ _ _ _ _ _ hr _ _ ha24 hD hA ((Fr.rf.tr fa23 (fun _ h => h)).tr fa24 (fun _ h => h))
          · replace hr := ite_f c74 hr
            refine G.go tv_X3_store 1 79 [(0, .ref (gAd E (41))), (1, .int (a0)), (2, .int (a1)), (3, .ref (gAd E (53))), (4, .int (a3)), (5, .int ((a1) / ((128 : Int32)))), (6, .int ((((a1) + (a3)) - ((1 : Int32))) / ((128 : Int32)))), (7, .int (v23))] [.int ((-7 : Int32))] rfl ?_
            cases hr
            exact G.iret rfl rfl (FQ.ok rfl ⟨C, ha24, hD, hA, ((Fr.rf.tr fa23 (fun _ h => h)).tr fa24 (fun _ h => h))⟩) (tbd tv_X3_store rfl)
      · replace hr := ite_t c22 hr
        refine G.go tv_X3_store 1 26 [(0, .ref (gAd E (41))), (1, .int (a0)), (2, .int (a1)), (3, .ref (gAd E (53))), (4, .int (a3))] [.int ((0 : Int32))] rfl ?_
        cases hr
        exact G.iret rfl rfl (FQ.ok rfl ⟨C, h, hD, hA, Fr.rf⟩) (tbd tv_X3_store rfl)
    · replace hr := ite_f c14 hr
      refine G.go tv_X3_store 1 19 [(0, .ref (gAd E (41))), (1, .int (a0)), (2, .int (a1)), (3, .ref (gAd E (53))), (4, .int (a3))] [.int ((-10 : Int32))] rfl ?_
      cases hr
      exact G.iret rfl rfl (FQ.ok rfl ⟨C, h, hD, hA, Fr.rf⟩) (tbd tv_X3_store rfl)
def tb_X3_fillCopy : List (Nat × Instr × Nat) := [(0, .aload_n 0, 1), (1, .getfield 23, 3), (4, .iload_n 1, 1), (5, .invokevirtual 71, 3), (8, .istore_n 3, 1), (9, .aload_n 0, 1), (10, .getfield 23, 3), (13, .iload_n 2, 1), (14, .iload_n 3, 1), (15, .invokevirtual 75, 3), (18, .aload_n 0, 1), (19, .getfield 23, 3), (22, .iload_n 2, 1), (23, .aload_n 0, 1), (24, .getfield 23, 3), (27, .iload_n 1, 1), (28, .invokevirtual 95, 3), (31, .invokevirtual 98, 3), (34, .iconst 0, 1), (35, .istore 4, 2), (37, .iload 4, 2), (39, .aload_n 0, 1), (40, .getfield 23, 3), (43, .getfield 101, 3), (46, .if_icmp .ge 29, 3), (49, .aload_n 0, 1), (50, .getfield 23, 3), (53, .iload_n 2, 1), (54, .aload_n 0, 1), (55, .getfield 23, 3), (58, .getfield 105, 3), (61, .iload 4, 2), (63, .iaload, 1), (64, .iconst 0, 1), (65, .invokevirtual 41, 3), (68, .pop, 1), (69, .iinc 4 1, 3), (72, .goto (-35), 3), (75, .iconst 0, 1), (76, .istore 4, 2), (78, .iload 4, 2), (80, .aload_n 0, 1), (81, .getfield 23, 3), (84, .getfield 101, 3), (87, .if_icmp .ge 91, 3), (90, .aload_n 0, 1), (91, .aload_n 0, 1), (92, .getfield 23, 3), (95, .getfield 109, 3), (98, .iload 4, 2), (100, .iaload, 1), (101, .iconst 0, 1), (102, .invokevirtual 48, 3), (105, .sipush 128, 3), (108, .iload_n 3, 1), (109, .aload_n 0, 1), (110, .getfield 23, 3), (113, .getfield 105, 3), (116, .iload 4, 2), (118, .iaload, 1), (119, .sipush 128, 3), (122, .imul, 1), (123, .isub, 1), (124, .invokestatic 58, 3), (127, .istore 5, 2), (129, .aload_n 0, 1), (130, .getfield 9, 3), (133, .iload 5, 2), (135, .sipush 128, 3), (138, .iconst 0, 1), (139, .invokestatic 92, 3), (142, .aload_n 0, 1), (143, .getfield 19, 3), (146, .aload_n 0, 1), (147, .getfield 23, 3), (150, .iload_n 2, 1), (151, .aload_n 0, 1), (152, .getfield 23, 3), (155, .getfield 105, 3), (158, .iload 4, 2), (160, .iaload, 1), (161, .iconst 0, 1), (162, .invokevirtual 45, 3), (165, .aload_n 0, 1), (166, .getfield 9, 3), (169, .invokevirtual 67, 3), (172, .iinc 4 1, 3), (175, .goto (-97), 3), (178, .return_, 1)]
theorem tv_X3_fillCopy : Tv cX3_fillCopy tb_X3_fillCopy := by
  unfold Tv
  decide +kernel
theorem w_1562 : Cond.methodLink "LedgerFiles$Files" 95 yX7_markOf ∈ TB := tp_6 216 (by decide +kernel) rfl
theorem cw_X3_95 : Cw RX3 95 yX7_markOf cX7_markOf 2 (some .int) 1 := ⟨w_1562, w_1565, w_157, by decide +kernel, by decide +kernel, by decide⟩
theorem w_1566 : Cond.methodLink "LedgerFiles$Files" 98 yX7_setMark ∈ TB := tp_6 220 (by decide +kernel) rfl
theorem w_1569 : Cond.code yX7_setMark prog_9_method_14_code 3 none ∈ TB := tp_6 223 rfl rfl
theorem cw_X3_98 : Cw RX3 98 yX7_setMark cX7_setMark 3 none 2 := ⟨w_1566, w_1569, w_157, by decide +kernel, by decide +kernel, by decide⟩
theorem w_1567 : Cond.instanceMethod yX7_setMark ∈ TB := tp_6 221 (by decide +kernel) rfl
theorem w_1568 : Cond.selects "LedgerFiles$Nodes" yX7_setMark yX7_setMark ∈ TB := tp_6 222 (by decide +kernel) rfl
noncomputable def d_X3_fillCopy_78 (N B gr : Nat) : Nat → MS → CfT → Int32 → Int32 → Int32 → Option (FR Unit)
  | 0, _, _, _, _, _ => none
  | n + 1, A, D, x2, x3, x4 => if (cS D 3705) ≤ x4 then some (.inl ((), A, D)) else ld (cA D 39) 4168 x4 (fun v44 => bnd (d_X3_load N (vA A) D v44 ((0 : Int32))) (fun D45 => ld (cA D45 38) 4168 x4 (fun v46 => nm (if ((x3) - ((v46) * ((128 : Int32)))) < ((128 : Int32)) then ((x3) - ((v46) * ((128 : Int32)))) else ((128 : Int32))) (fun v47 => frD D45 42 128 v47 ((128 : Int32)) (vp_nar .byte ((0 : Int32))) (fun D48 => ld (cA D48 38) 4168 x4 (fun v49 => bnd (d_X7_reach N (vA A) D48 x2 v49 ((0 : Int32))) (fun v50 => bndF (d_X10_writeDirectly N B gr A D48 v50) (fun v51 A51 D51 => d_X3_fillCopy_78 N B gr n A51 D51 x2 x3 (x4 + (1 : Int32))))))))))
noncomputable def d_X3_fillCopy_37 (N B gr : Nat) : Nat → MS → CfT → Int32 → Int32 → Int32 → Option (FR Unit)
  | 0, _, _, _, _, _ => none
  | n + 1, A, D, x2, x3, x4 => if (cS D 3705) ≤ x4 then d_X3_fillCopy_78 N B gr fuL A D x2 x3 ((0 : Int32)) else ld (cA D 38) 4168 x4 (fun v42 => bndF (d_X7_have N B gr A D x2 v42 ((0 : Int32))) (fun v43 A43 D43 => d_X3_fillCopy_37 N B gr n A43 D43 x2 x3 (x4 + (1 : Int32))))
noncomputable def d_X3_fillCopy (N B gr : Nat) (A : MS) (D : CfT) (a0 : Int32) (a1 : Int32) : Option (FR Unit) := bnd (d_X7_size N (vA A) D a0) (fun v38 => bnd2 (d_X7_setSize N A D a1 v38) (fun A39 D39 => bnd (d_X7_markOf N (vA A39) D39 a0) (fun v40 => bnd2 (d_X7_setMark N A39 D39 a1 v40) (fun A41 D41 => d_X3_fillCopy_37 N B gr fuL A41 D41 a1 v38 ((0 : Int32))))))
set_option maxRecDepth 100000 in
set_option maxHeartbeats 4000000 in
theorem l_X3_fillCopy_78 (E : gE) (f0 : Nat → va_E) (sz : Nat) (QA : Nat → Prop) (N B gr : Nat) (C0 : CfT) (hz : CfZ E N B gr) : ∀ (n : Nat), ∀ (A : MS) (D : CfT) (x2 : Int32) (x3 : Int32) (x4 : Int32) (r : FR Unit) (hr : d_X3_fillCopy_78 N B gr n A D x2 x3 x4 = some r) (f : Nat → va_E) (C : CfT) (h : CfV E f N B gr C) (hD : Dq D C) (hA : AR N B gr A C) (hf : Fr CfK f0 f), G E (12, yX3_fillCopy, 6, none, sz, QA) cX3_fillCopy (gO E (12, yX3_fillCopy, 6, none, sz, QA) (FQ E N B gr f0 (fun _ => none) r)) 78 [(0, .ref (gAd E (41))), (2, .int (x2)), (3, .int (x3)), (4, .int (x4))] [] f := by
  obtain ⟨z1, z2, z3, z4, z5, z6, z7⟩ := id hz
  intro n
  induction n with
  | zero =>
    intro A D x2 x3 x4 r hr f C h hD hA hf
    cases hr
  | succ n ih =>
    intro A D x2 x3 x4 r hr f C h hD hA hf
    unfold d_X3_fillCopy_78 at hr
    refine G.go tv_X3_fillCopy 2 81 [(0, .ref (gAd E (41))), (2, .int (x2)), (3, .int (x3)), (4, .int (x4))] [.ref (gAd E (41)), .int (x4)] rfl ?_
    refine G.getf cls_X3 (41) 1 (by omega) (h.q41) (by decide) rfl (tbd tv_X3_fillCopy rfl) w_526 ?_
    refine G.getf cls_X7 (37) 5 (by omega) (h.q37) (by decide) rfl (tbd tv_X3_fillCopy rfl) w_487 ?_
    refine G.eq1 (b := cS D 3705) (hD.1 3705 (by decide)) ?_
    refine G.cmp_ge 178 (tbd tv_X3_fillCopy rfl) (by decide) (fun c87 => ?_) (fun c87 => ?_)
    · replace hr := ite_t c87 hr
      cases hr
      exact G.vret rfl (FQ.ok rfl ⟨C, h, hD, hA, hf⟩) (tbd tv_X3_fillCopy rfl)
    · replace hr := ite_f c87 hr
      refine G.go tv_X3_fillCopy 2 92 [(0, .ref (gAd E (41))), (2, .int (x2)), (3, .int (x3)), (4, .int (x4))] [.ref (gAd E (41)), .ref (gAd E (41))] rfl ?_
      refine G.getf cls_X3 (41) 1 (by omega) (h.q41) (by decide) rfl (tbd tv_X3_fillCopy rfl) w_526 ?_
      refine G.getf cls_X7 (37) 4 (by omega) (h.q37) (by decide) rfl (tbd tv_X3_fillCopy rfl) w_485 ?_
      refine G.go tv_X3_fillCopy 1 100 [(0, .ref (gAd E (41))), (2, .int (x2)), (3, .int (x3)), (4, .int (x4))] [.int (x4), .ref (gAd E (39)), .ref (gAd E (41))] rfl ?_
      obtain ⟨v44, b44, e44, hr⟩ := ld_s hr
      refine G.ialdE (39) (by omega) ((h.q39).trans (congrArg (oI (gDA E) (4168)) (hD.2 39 (by decide)))) b44 e44 (tbd tv_X3_fillCopy rfl) ?_
      refine G.go tv_X3_fillCopy 1 102 [(0, .ref (gAd E (41))), (2, .int (x2)), (3, .int (x3)), (4, .int (x4))] [.int ((0 : Int32)), .int (v44), .ref (gAd E (41))] rfl ?_
      obtain ⟨D45, hv45, hr⟩ := bnd_s hr
      refine G.callV (41) [.int (v44), .int ((0 : Int32))] [] (k_X3_load E _ N B gr C D A hz h hD hA v44 ((0 : Int32)) D45 hv45) cls_X3 (by omega) (h.q41) cw_X3_48 w_1573 w_39 (Nat.le_of_ble_eq_true rfl) rfl (Nat.le_of_ble_eq_true rfl) (tbd tv_X3_fillCopy rfl) (fun v45w f45 q45 => ?_) (fun _ _ h => h.elim)
      obtain ⟨rfl, C45, ha45, hD45, hA45, hR45, fa45⟩ := q45
      refine G.eqs [] rfl ?_
      refine G.go tv_X3_fillCopy 3 110 [(0, .ref (gAd E (41))), (2, .int (x2)), (3, .int (x3)), (4, .int (x4))] [.ref (gAd E (41)), .int (x3), .int ((128 : Int32))] rfl ?_
      refine G.getf cls_X3 (41) 1 (by omega) (ha45.q41) (by decide) rfl (tbd tv_X3_fillCopy rfl) w_526 ?_
      refine G.getf cls_X7 (37) 3 (by omega) (ha45.q37) (by decide) rfl (tbd tv_X3_fillCopy rfl) w_482 ?_
      refine G.go tv_X3_fillCopy 1 118 [(0, .ref (gAd E (41))), (2, .int (x2)), (3, .int (x3)), (4, .int (x4))] [.int (x4), .ref (gAd E (38)), .int (x3), .int ((128 : Int32))] rfl ?_
      obtain ⟨v46, b46, e46, hr⟩ := ld_s hr
      refine G.ialdE (38) (by omega) ((ha45.q38).trans (congrArg (oI (gDA E) (4168)) (hD45.2 38 (by decide)))) b46 e46 (tbd tv_X3_fillCopy rfl) ?_
      refine G.go tv_X3_fillCopy 3 124 [(0, .ref (gAd E (41))), (2, .int (x2)), (3, .int (x3)), (4, .int (x4))] [.int ((x3) - ((v46) * ((128 : Int32)))), .int ((128 : Int32))] rfl ?_
      refine G.mmin w_1578 w_214 w_150 w_215 (Nat.le_of_ble_eq_true rfl) (Nat.le_of_ble_eq_true rfl) (by show _ ≤ _; first | exact Nat.zero_le _ | exact Nat.le_of_ble_eq_true rfl) (by show _ ≤ _; first | exact Nat.zero_le _ | exact Nat.le_of_ble_eq_true rfl) (tbd tv_X3_fillCopy rfl) ?_
      obtain ⟨v47, e47, hr⟩ := nm_s hr
      refine G.eq1 (b := v47) e47 ?_
      refine G.go tv_X3_fillCopy 2 130 [(0, .ref (gAd E (41))), (2, .int (x2)), (3, .int (x3)), (4, .int (x4)), (5, .int (v47))] [.ref (gAd E (41))] rfl ?_
      refine G.getf cls_X3 (41) 2 (by omega) (ha45.q41) (by decide) rfl (tbd tv_X3_fillCopy rfl) w_527 ?_
      refine G.go tv_X3_fillCopy 3 139 [(0, .ref (gAd E (41))), (2, .int (x2)), (3, .int (x3)), (4, .int (x4)), (5, .int (v47))] [.int ((0 : Int32)), .int ((128 : Int32)), .int (v47), .ref (gAd E (42))] rfl ?_
      obtain ⟨D48, ia48, iz48, il48, in48, eD48, hr⟩ := frD_s hr
      refine G.eqs [.int ((0 : Int32)), .int (nI ((128 : Int32)).toNatClampNeg), .int (nI v47.toNatClampNeg), .ref (gAd E (42))] (by rw [← ia48, ← iz48]) ?_
      refine G.callS [.ref (gAd E (42)), .int (nI v47.toNatClampNeg), .int (nI ((128 : Int32)).toNatClampNeg), .int ((0 : Int32))] [] (c_J7_fill_eb02e E _ 42 128 _ _ _ ((0 : Int32)) (by omega) (ha45.q42) (by omega) il48 in48) cw_X3_92 w_1005 (Nat.le_of_ble_eq_true rfl) rfl (Nat.le_of_ble_eq_true rfl) (tbd tv_X3_fillCopy rfl) (fun v48w f48 q48 => ?_) (fun _ _ h => h.elim)
      obtain ⟨rfl, rfl⟩ := q48
      refine G.eqs [] rfl ?_
      refine G.gen (P := SN E N B gr f0 A D48) ⟨sA C45 42 (flt (cA C45 42) v47.toNatClampNeg ((128 : Int32)).toNatClampNeg (vp_nar .byte ((0 : Int32)))), ha45.p42 _, (by rw [eD48]; exact hD45.aF (fun g => flt g v47.toNatClampNeg ((128 : Int32)).toNatClampNeg (vp_nar .byte ((0 : Int32)))) (by decide)), hA45.sm (Sd.a (by decide) : Sd C45 (sA C45 42 (flt (cA C45 42) v47.toNatClampNeg ((128 : Int32)).toNatClampNeg (vp_nar .byte ((0 : Int32)))))), Fr.c (hf.tr fa45 (fun _ h => h)) (by first | exact Or.inl (by decide) | exact Or.inr (by omega))⟩ (fun u48 p48 => ?_)
      obtain ⟨C48, h48, hD48, hA48, k48⟩ := p48
      refine G.go tv_X3_fillCopy 1 143 [(0, .ref (gAd E (41))), (2, .int (x2)), (3, .int (x3)), (4, .int (x4)), (5, .int (v47))] [.ref (gAd E (41))] rfl ?_
      refine G.getf cls_X3 (41) 0 (by omega) (h48.q41) (by decide) rfl (tbd tv_X3_fillCopy rfl) w_525 ?_
      refine G.go tv_X3_fillCopy 1 147 [(0, .ref (gAd E (41))), (2, .int (x2)), (3, .int (x3)), (4, .int (x4)), (5, .int (v47))] [.ref (gAd E (41)), .ref (gAd E (25))] rfl ?_
      refine G.getf cls_X3 (41) 1 (by omega) (h48.q41) (by decide) rfl (tbd tv_X3_fillCopy rfl) w_526 ?_
      refine G.go tv_X3_fillCopy 2 152 [(0, .ref (gAd E (41))), (2, .int (x2)), (3, .int (x3)), (4, .int (x4)), (5, .int (v47))] [.ref (gAd E (41)), .int (x2), .ref (gAd E (37)), .ref (gAd E (25))] rfl ?_
      refine G.getf cls_X3 (41) 1 (by omega) (h48.q41) (by decide) rfl (tbd tv_X3_fillCopy rfl) w_526 ?_
      refine G.getf cls_X7 (37) 3 (by omega) (h48.q37) (by decide) rfl (tbd tv_X3_fillCopy rfl) w_482 ?_
      refine G.go tv_X3_fillCopy 1 160 [(0, .ref (gAd E (41))), (2, .int (x2)), (3, .int (x3)), (4, .int (x4)), (5, .int (v47))] [.int (x4), .ref (gAd E (38)), .int (x2), .ref (gAd E (37)), .ref (gAd E (25))] rfl ?_
      obtain ⟨v49, b49, e49, hr⟩ := ld_s hr
      refine G.ialdE (38) (by omega) ((h48.q38).trans (congrArg (oI (gDA E) (4168)) (hD48.2 38 (by decide)))) b49 e49 (tbd tv_X3_fillCopy rfl) ?_
      refine G.go tv_X3_fillCopy 1 162 [(0, .ref (gAd E (41))), (2, .int (x2)), (3, .int (x3)), (4, .int (x4)), (5, .int (v47))] [.int ((0 : Int32)), .int (v49), .int (x2), .ref (gAd E (37)), .ref (gAd E (25))] rfl ?_
      obtain ⟨v50, hv50, hr⟩ := bnd_s hr
      refine G.callV (37) [.int (x2), .int (v49), .int ((0 : Int32))] [.ref (gAd E (25))] (k_X7_reach E _ N B gr C48 D48 A hz h48 hD48 hA48 x2 v49 ((0 : Int32)) v50 hv50) cls_X7 (by omega) (h48.q37) cw_X3_45 w_954 w_955 (Nat.le_of_ble_eq_true rfl) rfl (Nat.le_of_ble_eq_true rfl) (tbd tv_X3_fillCopy rfl) (fun v50w f50 q50 => ?_) (fun _ _ h => h.elim)
      obtain ⟨rfl, ha50, fa50⟩ := q50
      refine G.eqs [.int (v50), .ref (gAd E (25))] rfl ?_
      refine G.go tv_X3_fillCopy 1 166 [(0, .ref (gAd E (41))), (2, .int (x2)), (3, .int (x3)), (4, .int (x4)), (5, .int (v47))] [.ref (gAd E (41)), .int (v50), .ref (gAd E (25))] rfl ?_
      refine G.getf cls_X3 (41) 2 (by omega) (ha50.q41) (by decide) rfl (tbd tv_X3_fillCopy rfl) w_527 ?_
      rcases bndF_s hr with ⟨v51, A51, D51, hv51, hr⟩ | ⟨ex51, A51, D51, hv51, rfl⟩
      rotate_left
      · skip
        refine G.callV (25) [.int (v50), .ref (gAd E (42))] [] (k_X10_writeDirectly E _ N B gr C48 D48 A hz ha50 hD48 hA48 v50 _ hv51) cls_X10 (by omega) (ha50.q25) cw_X3_67 w_1582 w_1583 (Nat.le_of_ble_eq_true rfl) rfl (Nat.le_of_ble_eq_true rfl) (tbd tv_X3_fillCopy rfl) (fun v51w f51 q51 => ?_) (fun X g q => FQ.fr q (k48.tr fa50 (fun _ h => h)))
        exact q51.elim
      refine G.callV (25) [.int (v50), .ref (gAd E (42))] [] (k_X10_writeDirectly E _ N B gr C48 D48 A hz ha50 hD48 hA48 v50 _ hv51) cls_X10 (by omega) (ha50.q25) cw_X3_67 w_1582 w_1583 (Nat.le_of_ble_eq_true rfl) rfl (Nat.le_of_ble_eq_true rfl) (tbd tv_X3_fillCopy rfl) (fun v51w f51 q51 => ?_) (fun _ _ h => h.elim)
      obtain ⟨rfl, C51, ha51, hD51, hA51, fa51⟩ := q51
      refine G.eqs [] rfl ?_
      refine G.go tv_X3_fillCopy 2 78 [(0, .ref (gAd E (41))), (2, .int (x2)), (3, .int (x3)), (4, .int (x4 + (1 : Int32))), (5, .int (v47))] [] rfl ?_
      refine G.less [(0, .ref (gAd E (41))), (2, .int (x2)), (3, .int (x3)), (4, .int (x4 + (1 : Int32)))] [0, 1, 2, 3] rfl ?_
      exact ih _ _ _ _ _ _ hr _ _ ha51 hD51 hA51 ((k48.tr fa50 (fun _ h => h)).tr fa51 (fun _ h => h))
set_option maxRecDepth 100000 in
set_option maxHeartbeats 4000000 in
theorem l_X3_fillCopy_37 (E : gE) (f0 : Nat → va_E) (sz : Nat) (QA : Nat → Prop) (N B gr : Nat) (C0 : CfT) (hz : CfZ E N B gr) : ∀ (n : Nat), ∀ (A : MS) (D : CfT) (x2 : Int32) (x3 : Int32) (x4 : Int32) (r : FR Unit) (hr : d_X3_fillCopy_37 N B gr n A D x2 x3 x4 = some r) (f : Nat → va_E) (C : CfT) (h : CfV E f N B gr C) (hD : Dq D C) (hA : AR N B gr A C) (hf : Fr CfK f0 f), G E (12, yX3_fillCopy, 6, none, sz, QA) cX3_fillCopy (gO E (12, yX3_fillCopy, 6, none, sz, QA) (FQ E N B gr f0 (fun _ => none) r)) 37 [(0, .ref (gAd E (41))), (2, .int (x2)), (3, .int (x3)), (4, .int (x4))] [] f := by
  obtain ⟨z1, z2, z3, z4, z5, z6, z7⟩ := id hz
  intro n
  induction n with
  | zero =>
    intro A D x2 x3 x4 r hr f C h hD hA hf
    cases hr
  | succ n ih =>
    intro A D x2 x3 x4 r hr f C h hD hA hf
    unfold d_X3_fillCopy_37 at hr
    refine G.go tv_X3_fillCopy 2 40 [(0, .ref (gAd E (41))), (2, .int (x2)), (3, .int (x3)), (4, .int (x4))] [.ref (gAd E (41)), .int (x4)] rfl ?_
    refine G.getf cls_X3 (41) 1 (by omega) (h.q41) (by decide) rfl (tbd tv_X3_fillCopy rfl) w_526 ?_
    refine G.getf cls_X7 (37) 5 (by omega) (h.q37) (by decide) rfl (tbd tv_X3_fillCopy rfl) w_487 ?_
    refine G.eq1 (b := cS D 3705) (hD.1 3705 (by decide)) ?_
    refine G.cmp_ge 75 (tbd tv_X3_fillCopy rfl) (by decide) (fun c46 => ?_) (fun c46 => ?_)
    · replace hr := ite_t c46 hr
      refine G.go tv_X3_fillCopy 2 78 [(0, .ref (gAd E (41))), (2, .int (x2)), (3, .int (x3)), (4, .int ((0 : Int32)))] [] rfl ?_
      refine G.less [(0, .ref (gAd E (41))), (2, .int (x2)), (3, .int (x3)), (4, .int ((0 : Int32)))] [0, 1, 2, 3] rfl ?_
      exact l_X3_fillCopy_78 E f0 sz QA N B gr C0 hz _ _ _ _ _ _ _ hr _ _ h hD hA hf
    · replace hr := ite_f c46 hr
      refine G.go tv_X3_fillCopy 1 50 [(0, .ref (gAd E (41))), (2, .int (x2)), (3, .int (x3)), (4, .int (x4))] [.ref (gAd E (41))] rfl ?_
      refine G.getf cls_X3 (41) 1 (by omega) (h.q41) (by decide) rfl (tbd tv_X3_fillCopy rfl) w_526 ?_
      refine G.go tv_X3_fillCopy 2 55 [(0, .ref (gAd E (41))), (2, .int (x2)), (3, .int (x3)), (4, .int (x4))] [.ref (gAd E (41)), .int (x2), .ref (gAd E (37))] rfl ?_
      refine G.getf cls_X3 (41) 1 (by omega) (h.q41) (by decide) rfl (tbd tv_X3_fillCopy rfl) w_526 ?_
      refine G.getf cls_X7 (37) 3 (by omega) (h.q37) (by decide) rfl (tbd tv_X3_fillCopy rfl) w_482 ?_
      refine G.go tv_X3_fillCopy 1 63 [(0, .ref (gAd E (41))), (2, .int (x2)), (3, .int (x3)), (4, .int (x4))] [.int (x4), .ref (gAd E (38)), .int (x2), .ref (gAd E (37))] rfl ?_
      obtain ⟨v42, b42, e42, hr⟩ := ld_s hr
      refine G.ialdE (38) (by omega) ((h.q38).trans (congrArg (oI (gDA E) (4168)) (hD.2 38 (by decide)))) b42 e42 (tbd tv_X3_fillCopy rfl) ?_
      refine G.go tv_X3_fillCopy 1 65 [(0, .ref (gAd E (41))), (2, .int (x2)), (3, .int (x3)), (4, .int (x4))] [.int ((0 : Int32)), .int (v42), .int (x2), .ref (gAd E (37))] rfl ?_
      rcases bndF_s hr with ⟨v43, A43, D43, hv43, hr⟩ | ⟨ex43, A43, D43, hv43, rfl⟩
      rotate_left
      · skip
        refine G.callV (37) [.int (x2), .int (v42), .int ((0 : Int32))] [] (k_X7_have E _ N B gr C D A hz h hD hA x2 v42 ((0 : Int32)) _ hv43) cls_X7 (by omega) (h.q37) cw_X3_41 w_1440 w_1441 (Nat.le_of_ble_eq_true rfl) rfl (Nat.le_of_ble_eq_true rfl) (tbd tv_X3_fillCopy rfl) (fun v43w f43 q43 => ?_) (fun X g q => FQ.fr q hf)
        exact q43.elim
      refine G.callV (37) [.int (x2), .int (v42), .int ((0 : Int32))] [] (k_X7_have E _ N B gr C D A hz h hD hA x2 v42 ((0 : Int32)) _ hv43) cls_X7 (by omega) (h.q37) cw_X3_41 w_1440 w_1441 (Nat.le_of_ble_eq_true rfl) rfl (Nat.le_of_ble_eq_true rfl) (tbd tv_X3_fillCopy rfl) (fun v43w f43 q43 => ?_) (fun _ _ h => h.elim)
      obtain ⟨rfl, C43, ha43, hD43, hA43, fa43⟩ := q43
      refine G.eqs [.int (v43)] rfl ?_
      refine G.go tv_X3_fillCopy 3 37 [(0, .ref (gAd E (41))), (2, .int (x2)), (3, .int (x3)), (4, .int (x4 + (1 : Int32)))] [] rfl ?_
      refine G.less [(0, .ref (gAd E (41))), (2, .int (x2)), (3, .int (x3)), (4, .int (x4 + (1 : Int32)))] [0, 1, 2, 3] rfl ?_
      exact ih _ _ _ _ _ _ hr _ _ ha43 hD43 hA43 (hf.tr fa43 (fun _ h => h))
set_option maxRecDepth 100000 in
set_option maxHeartbeats 4000000 in
theorem k_X3_fillCopy (E : gE) (f : Nat → va_E) (N B gr : Nat) (C D : CfT) (A : MS) (hz : CfZ E N B gr) (h : CfV E f N B gr C) (hD : Dq D C) (hA : AR N B gr A C) (a0 : Int32) (a1 : Int32) (r : FR Unit) (hr : d_X3_fillCopy N B gr A D a0 a1 = some r) : Ct E 12 yX3_fillCopy cX3_fillCopy 6 none [.ref (gAd E (41)), .int (a0), .int (a1)] f (FQ E N B gr f (fun _ => none) r) := by
  obtain ⟨z1, z2, z3, z4, z5, z6, z7⟩ := id hz
  refine Ct.of (by decide) (Nat.le_of_ble_eq_true rfl) (fun sz => ?_)
  refine G.eql [(0, .ref (gAd E (41))), (1, .int (a0)), (2, .int (a1))] rfl ?_
  unfold d_X3_fillCopy at hr
  refine G.go tv_X3_fillCopy 1 1 [(0, .ref (gAd E (41))), (1, .int (a0)), (2, .int (a1))] [.ref (gAd E (41))] rfl ?_
  refine G.getf cls_X3 (41) 1 (by omega) (h.q41) (by decide) rfl (tbd tv_X3_fillCopy rfl) w_526 ?_
  refine G.go tv_X3_fillCopy 1 5 [(0, .ref (gAd E (41))), (1, .int (a0)), (2, .int (a1))] [.int (a0), .ref (gAd E (37))] rfl ?_
  obtain ⟨v38, hv38, hr⟩ := bnd_s hr
  refine G.callV (37) [.int (a0)] [] (k_X7_size E _ N B gr C D A hz h hD hA a0 v38 hv38) cls_X7 (by omega) (h.q37) cw_X3_71 w_941 w_942 (Nat.le_of_ble_eq_true rfl) rfl (Nat.le_of_ble_eq_true rfl) (tbd tv_X3_fillCopy rfl) (fun v38w f38 q38 => ?_) (fun _ _ h => h.elim)
  obtain ⟨rfl, ha38, fa38⟩ := q38
  refine G.eqs [.int (v38)] rfl ?_
  refine G.go tv_X3_fillCopy 2 10 [(0, .ref (gAd E (41))), (1, .int (a0)), (2, .int (a1)), (3, .int (v38))] [.ref (gAd E (41))] rfl ?_
  refine G.getf cls_X3 (41) 1 (by omega) (ha38.q41) (by decide) rfl (tbd tv_X3_fillCopy rfl) w_526 ?_
  refine G.go tv_X3_fillCopy 2 15 [(0, .ref (gAd E (41))), (1, .int (a0)), (2, .int (a1)), (3, .int (v38))] [.int (v38), .int (a1), .ref (gAd E (37))] rfl ?_
  obtain ⟨A39, D39, hv39, hr⟩ := bnd2_s hr
  refine G.callV (37) [.int (a1), .int (v38)] [] (k_X7_setSize E _ N B gr C D A hz ha38 hD hA a1 v38 A39 D39 hv39) cls_X7 (by omega) (ha38.q37) cw_X3_75 w_1454 w_1455 (Nat.le_of_ble_eq_true rfl) rfl (Nat.le_of_ble_eq_true rfl) (tbd tv_X3_fillCopy rfl) (fun v39w f39 q39 => ?_) (fun _ _ h => h.elim)
  obtain ⟨rfl, C39, ha39, hD39, hA39, fa39⟩ := q39
  refine G.eqs [] rfl ?_
  refine G.go tv_X3_fillCopy 1 19 [(0, .ref (gAd E (41))), (1, .int (a0)), (2, .int (a1)), (3, .int (v38))] [.ref (gAd E (41))] rfl ?_
  refine G.getf cls_X3 (41) 1 (by omega) (ha39.q41) (by decide) rfl (tbd tv_X3_fillCopy rfl) w_526 ?_
  refine G.go tv_X3_fillCopy 2 24 [(0, .ref (gAd E (41))), (1, .int (a0)), (2, .int (a1)), (3, .int (v38))] [.ref (gAd E (41)), .int (a1), .ref (gAd E (37))] rfl ?_
  refine G.getf cls_X3 (41) 1 (by omega) (ha39.q41) (by decide) rfl (tbd tv_X3_fillCopy rfl) w_526 ?_
  refine G.go tv_X3_fillCopy 1 28 [(0, .ref (gAd E (41))), (1, .int (a0)), (2, .int (a1)), (3, .int (v38))] [.int (a0), .ref (gAd E (37)), .int (a1), .ref (gAd E (37))] rfl ?_
  obtain ⟨v40, hv40, hr⟩ := bnd_s hr
  refine G.callV (37) [.int (a0)] [.int (a1), .ref (gAd E (37))] (k_X7_markOf E _ N B gr C39 D39 A39 hz ha39 hD39 hA39 a0 v40 hv40) cls_X7 (by omega) (ha39.q37) cw_X3_95 w_1563 w_1564 (Nat.le_of_ble_eq_true rfl) rfl (Nat.le_of_ble_eq_true rfl) (tbd tv_X3_fillCopy rfl) (fun v40w f40 q40 => ?_) (fun _ _ h => h.elim)
  obtain ⟨rfl, ha40, fa40⟩ := q40
  refine G.eqs [.int (v40), .int (a1), .ref (gAd E (37))] rfl ?_
  obtain ⟨A41, D41, hv41, hr⟩ := bnd2_s hr
  refine G.callV (37) [.int (a1), .int (v40)] [] (k_X7_setMark E _ N B gr C39 D39 A39 hz ha40 hD39 hA39 a1 v40 A41 D41 hv41) cls_X7 (by omega) (ha40.q37) cw_X3_98 w_1567 w_1568 (Nat.le_of_ble_eq_true rfl) rfl (Nat.le_of_ble_eq_true rfl) (tbd tv_X3_fillCopy rfl) (fun v41w f41 q41 => ?_) (fun _ _ h => h.elim)
  obtain ⟨rfl, C41, ha41, hD41, hA41, fa41⟩ := q41
  refine G.eqs [] rfl ?_
  refine G.go tv_X3_fillCopy 2 37 [(0, .ref (gAd E (41))), (1, .int (a0)), (2, .int (a1)), (3, .int (v38)), (4, .int ((0 : Int32)))] [] rfl ?_
  refine G.less [(0, .ref (gAd E (41))), (2, .int (a1)), (3, .int (v38)), (4, .int ((0 : Int32)))] [0, 2, 3, 4] rfl ?_
  exact l_X3_fillCopy_37 E f sz _ N B gr C hz _ _ _ _ _ _ _ hr _ _ ha41 hD41 hA41 ((((Fr.rf.tr fa38 (fun _ h => h)).tr fa39 (fun _ h => h)).tr fa40 (fun _ h => h)).tr fa41 (fun _ h => h))
