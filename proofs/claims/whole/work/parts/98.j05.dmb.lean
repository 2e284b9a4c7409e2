def tb_X7_cutBlocks : List (Nat × Instr × Nat) := [(0, .iconst 0, 1), (1, .istore 5, 2), (3, .iload_n 3, 1), (4, .aload_n 0, 1), (5, .iload_n 1, 1), (6, .invokevirtual 86, 3), (9, .invokestatic 89, 3), (12, .invokestatic 122, 3), (15, .istore 6, 2), (17, .iload_n 2, 1), (18, .istore 7, 2), (20, .iload 7, 2), (22, .iload 6, 2), (24, .if_icmp .ge 100, 3), (27, .aload_n 0, 1), (28, .iload_n 1, 1), (29, .iload 7, 2), (31, .iconst 1, 1), (32, .invokevirtual 112, 3), (35, .istore 8, 2), (37, .iload 8, 2), (39, .ifCond .ne 13, 3), (42, .iload 7, 2), (44, .invokestatic 116, 3), (47, .istore 7, 2), (49, .goto 69, 3), (52, .aload_n 0, 1), (53, .getfield 18, 3), (56, .iload 8, 2), (58, .invokevirtual 34, 3), (61, .iload_n 1, 1), (62, .iload 7, 2), (64, .invokestatic 149, 3), (67, .invokestatic 49, 3), (70, .istore 9, 2), (72, .iload 9, 2), (74, .ifCond .eq 44, 3), (77, .aload_n 0, 1), (78, .getfield 18, 3), (81, .iload 9, 2), (83, .invokevirtual 167, 3), (86, .iinc 5 1, 3), (89, .iload 7, 2), (91, .iload 4, 2), (93, .invokestatic 170, 3), (96, .ifCond .eq 22, 3), (99, .aload_n 0, 1), (100, .getfield 18, 3), (103, .iload 8, 2), (105, .invokevirtual 52, 3), (108, .iload_n 1, 1), (109, .iload 7, 2), (111, .invokestatic 149, 3), (114, .iconst 0, 1), (115, .invokestatic 142, 3), (118, .iinc 7 1, 3), (121, .goto (-101), 3), (124, .iload 5, 2), (126, .ireturn, 1)]
theorem tv_X7_cutBlocks : Tv cX7_cutBlocks tb_X7_cutBlocks := by
  unfold Tv
  decide +kernel
theorem w_970 : Cond.methodLink "LedgerFiles$Nodes" 167 yX10_loosen ∈ TB := tp_4 104 (by decide +kernel) rfl
theorem w_973 : Cond.code yX10_loosen prog_12_method_12_code 2 none ∈ TB := tp_4 107 rfl rfl
theorem cw_X7_167 : Cw RX7 167 yX10_loosen cX10_loosen 2 none 1 := ⟨w_970, w_973, w_155, by decide +kernel, by decide +kernel, by decide⟩
theorem w_971 : Cond.instanceMethod yX10_loosen ∈ TB := tp_4 105 (by decide +kernel) rfl
theorem w_972 : Cond.selects "LedgerFiles$View" yX10_loosen yX10_loosen ∈ TB := tp_4 106 (by decide +kernel) rfl
theorem w_983 : Cond.methodLink "LedgerFiles$Nodes" 170 yX7_tableStays ∈ TB := tp_4 117 (by decide +kernel) rfl
theorem w_985 : Cond.code yX7_tableStays prog_9_method_37_code 2 (some .boolean) ∈ TB := tp_4 119 rfl rfl
theorem cw_X7_170 : Cw RX7 170 yX7_tableStays cX7_tableStays 2 (some .boolean) 2 := ⟨w_983, w_985, w_157, by decide +kernel, by decide +kernel, by decide⟩
theorem w_984 : Cond.static yX7_tableStays ∈ TB := tp_4 118 (by decide +kernel) rfl
theorem w_987 : Cond.methodLink "LedgerFiles$Nodes" 142 yX2_setTwo ∈ TB := tp_4 121 (by decide +kernel) rfl
theorem cw_X7_142 : Cw RX7 142 yX2_setTwo cX2_setTwo 3 none 3 := ⟨w_987, w_788, w_149, by decide +kernel, by decide +kernel, by decide⟩
def d_X7_cutBlocks_20 (N : Nat) : Nat → MS → CfT → Int32 → Int32 → Int32 → Int32 → Int32 → Option (Int32 × MS × CfT)
  | 0, _, _, _, _, _, _, _ => none
  | n + 1, A, D, x1, x4, x5, x6, x7 => if x6 ≤ x7 then some (x5, A, D) else bnd (d_X7_reach N (vA A) D x1 x7 ((1 : Int32))) (fun v4 => if v4 = 0 then bnd (d_X7_lastBeside N (vA A) D x7) (fun v15 => d_X7_cutBlocks_20 N n A D x1 x4 x5 x6 (v15 + (1 : Int32))) else seeB N (vA A) v4 (fun y6 => bnd (d_X7_spot N (vA A) D x1 x7) (fun v7 => bnd (d_X2_two N (vA A) D y6 128 v7) (fun v8 => if v8 = 0 then d_X7_cutBlocks_20 N n A D x1 x4 x5 x6 (x7 + (1 : Int32)) else bnd2 (d_X10_loosen N A D v8) (fun A9 D9 => bnd (d_X7_tableStays N (vA A9) D9 x7 x4) (fun v10 => if v10 = 0 then d_X7_cutBlocks_20 N n A9 D9 x1 x4 (x5 + (1 : Int32)) x6 (x7 + (1 : Int32)) else bnd2 (owB N A9 D9 v4) (fun A12 D12 => bnd (d_X7_spot N (vA A12) D12 x1 x7) (fun v13 => bnd (s2O N A12 v4.toNatClampNeg v13 ((0 : Int32))) (fun A14 => d_X7_cutBlocks_20 N n A14 D12 x1 x4 (x5 + (1 : Int32)) x6 (x7 + (1 : Int32)))))))))))
def d_X7_cutBlocks (N : Nat) (A : MS) (D : CfT) (a0 : Int32) (a1 : Int32) (a2 : Int32) (a3 : Int32) : Option (Int32 × MS × CfT) := bnd (d_X7_size N (vA A) D a0) (fun v1 => bnd (d_X7_blocksFor N (vA A) D v1) (fun v2 => nm (if v2 < a2 then v2 else a2) (fun v3 => d_X7_cutBlocks_20 N fuL A D a0 a3 ((0 : Int32)) v3 a1)))
set_option maxRecDepth 100000 in
set_option maxHeartbeats 4000000 in
theorem l_X7_cutBlocks_20 (E : gE) (f0 : Nat → va_E) (sz : Nat) (QA : Nat → Prop) (N B gr : Nat) (C0 : CfT) (hz : CfZ E N B gr) : ∀ (n : Nat), ∀ (A : MS) (D : CfT) (x1 : Int32) (x4 : Int32) (x5 : Int32) (x6 : Int32) (x7 : Int32) (r : Int32) (A9 : MS) (D9 : CfT) (hr : d_X7_cutBlocks_20 N n A D x1 x4 x5 x6 x7 = some (r, A9, D9)) (f : Nat → va_E) (C : CfT) (h : CfV E f N B gr C) (hD : Dq D C) (hA : AR N B gr A C) (hf : Fr CfK f0 f), G E (4, yX7_cutBlocks, 10, (some .int), sz, QA) cX7_cutBlocks (gO E (4, yX7_cutBlocks, 10, (some .int), sz, QA) (fun v g => v = some (.int r) ∧ SN E N B gr f0 A9 D9 g, fun _ _ => False)) 20 [(0, .ref (gAd E (37))), (1, .int (x1)), (4, .int (x4)), (5, .int (x5)), (6, .int (x6)), (7, .int (x7))] [] f := by
  obtain ⟨z1, z2, z3, z4, z5, z6, z7⟩ := id hz
  intro n
  induction n with
  | zero =>
    intro A D x1 x4 x5 x6 x7 r A9 D9 hr f C h hD hA hf
    cases hr
  | succ n ih =>
    intro A D x1 x4 x5 x6 x7 r A9 D9 hr f C h hD hA hf
    unfold d_X7_cutBlocks_20 at hr
    refine G.go tv_X7_cutBlocks 2 24 [(0, .ref (gAd E (37))), (1, .int (x1)), (4, .int (x4)), (5, .int (x5)), (6, .int (x6)), (7, .int (x7))] [.int (x6), .int (x7)] rfl ?_
    refine G.cmp_ge 124 (tbd tv_X7_cutBlocks rfl) (by decide) (fun c24 => ?_) (fun c24 => ?_)
    · replace hr := ite_t c24 hr
      refine G.go tv_X7_cutBlocks 1 126 [(0, .ref (gAd E (37))), (1, .int (x1)), (4, .int (x4)), (5, .int (x5)), (6, .int (x6)), (7, .int (x7))] [.int (x5)] rfl ?_
      cases hr
      exact G.iret rfl rfl ⟨rfl, C, h, hD, hA, hf⟩ (tbd tv_X7_cutBlocks rfl)
    · replace hr := ite_f c24 hr
      refine G.go tv_X7_cutBlocks 4 32 [(0, .ref (gAd E (37))), (1, .int (x1)), (4, .int (x4)), (5, .int (x5)), (6, .int (x6)), (7, .int (x7))] [.int ((1 : Int32)), .int (x7), .int (x1), .ref (gAd E (37))] rfl ?_
      obtain ⟨v4, hv4, hr⟩ := bnd_s hr
      refine G.callV (37) [.int (x1), .int (x7), .int ((1 : Int32))] [] (k_X7_reach E _ N B gr C D A hz h hD hA x1 x7 ((1 : Int32)) v4 hv4) cls_X7 (by omega) (h.q37) cw_X7_112 w_954 w_955 (Nat.le_of_ble_eq_true rfl) rfl (Nat.le_of_ble_eq_true rfl) (tbd tv_X7_cutBlocks rfl) (fun v4w f4 q4 => ?_) (fun _ _ h => h.elim)
      obtain ⟨rfl, ha4, fa4⟩ := q4
      refine G.eqs [.int (v4)] rfl ?_
      refine G.go tv_X7_cutBlocks 2 39 [(0, .ref (gAd E (37))), (1, .int (x1)), (4, .int (x4)), (5, .int (x5)), (6, .int (x6)), (7, .int (x7)), (8, .int (v4))] [.int (v4)] rfl ?_
      refine G.if_ne 52 (tbd tv_X7_cutBlocks rfl) (by decide) (fun c39 => ?_) (fun c39 => ?_)
      · replace hr := ite_f c39 hr
        refine G.go tv_X7_cutBlocks 1 53 [(0, .ref (gAd E (37))), (1, .int (x1)), (4, .int (x4)), (5, .int (x5)), (6, .int (x6)), (7, .int (x7)), (8, .int (v4))] [.ref (gAd E (37))] rfl ?_
        refine G.getf cls_X7 (37) 0 (by omega) (ha4.q37) (by decide) rfl (tbd tv_X7_cutBlocks rfl) w_478 ?_
        refine G.go tv_X7_cutBlocks 1 58 [(0, .ref (gAd E (37))), (1, .int (x1)), (4, .int (x4)), (5, .int (x5)), (6, .int (x6)), (7, .int (x7)), (8, .int (v4))] [.int (v4), .ref (gAd E (25))] rfl ?_
        obtain ⟨y6, b6, e6, hr⟩ := seeB_s hr
        refine G.callV (25) [.int (v4)] [] (k_see E _ N B gr C A hz ha4 hA _ b6 _ e6) cls_X10 (by omega) (ha4.q25) cw_X7_34 w_910 w_911 (Nat.le_of_ble_eq_true rfl) rfl (Nat.le_of_ble_eq_true rfl) (tbd tv_X7_cutBlocks rfl) (fun v6w f6 q6 => ?_) (fun _ _ h => h.elim)
        obtain ⟨⟨k6, rfl, w6⟩, ha6, fa6⟩ := q6
        refine G.eqs [.ref (gAd E (k6))] rfl ?_
        refine G.go tv_X7_cutBlocks 2 64 [(0, .ref (gAd E (37))), (1, .int (x1)), (4, .int (x4)), (5, .int (x5)), (6, .int (x6)), (7, .int (x7)), (8, .int (v4))] [.int (x7), .int (x1), .ref (gAd E (k6))] rfl ?_
        obtain ⟨v7, hv7, hr⟩ := bnd_s hr
        refine G.callS [.int (x1), .int (x7)] [.ref (gAd E (k6))] (k_X7_spot E _ N B gr C D A hz ha6 hD hA x1 x7 v7 hv7) cw_X7_149 w_968 (Nat.le_of_ble_eq_true rfl) rfl (Nat.le_of_ble_eq_true rfl) (tbd tv_X7_cutBlocks rfl) (fun v7w f7 q7 => ?_) (fun _ _ h => h.elim)
        obtain ⟨rfl, ha7, fa7⟩ := q7
        refine G.eqs [.int (v7), .ref (gAd E (k6))] rfl ?_
        obtain ⟨v8, hv8, hr⟩ := bnd_s hr
        refine G.callS [.ref (gAd E (k6)), .int (v7)] [] (k_X2_two E _ N B gr C D A hz ha7 hD hA k6 128 y6 (w6) v7 v8 hv8) cw_X7_49 w_878 (Nat.le_of_ble_eq_true rfl) rfl (Nat.le_of_ble_eq_true rfl) (tbd tv_X7_cutBlocks rfl) (fun v8w f8 q8 => ?_) (fun _ _ h => h.elim)
        obtain ⟨rfl, ha8, fa8⟩ := q8
        refine G.eqs [.int (v8)] rfl ?_
        refine G.go tv_X7_cutBlocks 2 74 [(0, .ref (gAd E (37))), (1, .int (x1)), (4, .int (x4)), (5, .int (x5)), (6, .int (x6)), (7, .int (x7)), (8, .int (v4)), (9, .int (v8))] [.int (v8)] rfl ?_
        refine G.if_eq 118 (tbd tv_X7_cutBlocks rfl) (by decide) (fun c74 => ?_) (fun c74 => ?_)
        · replace hr := ite_t c74 hr
          refine G.go tv_X7_cutBlocks 2 20 [(0, .ref (gAd E (37))), (1, .int (x1)), (4, .int (x4)), (5, .int (x5)), (6, .int (x6)), (7, .int (x7 + (1 : Int32))), (8, .int (v4)), (9, .int (v8))] [] rfl ?_
          refine G.less [(0, .ref (gAd E (37))), (1, .int (x1)), (4, .int (x4)), (5, .int (x5)), (6, .int (x6)), (7, .int (x7 + (1 : Int32)))] [0, 1, 2, 3, 4, 5] rfl ?_
          exact ih _ _ _ _ _ _ _ _ _ _ hr _ _ ha8 hD hA ((((hf.tr fa4 (fun _ h => h)).tr fa6 (fun _ h => h)).tr fa7 (fun _ h => h)).tr fa8 (fun _ h => h))
        · replace hr := ite_f c74 hr
          refine G.go tv_X7_cutBlocks 1 78 [(0, .ref (gAd E (37))), (1, .int (x1)), (4, .int (x4)), (5, .int (x5)), (6, .int (x6)), (7, .int (x7)), (8, .int (v4)), (9, .int (v8))] [.ref (gAd E (37))] rfl ?_
          refine G.getf cls_X7 (37) 0 (by omega) (ha8.q37) (by decide) rfl (tbd tv_X7_cutBlocks rfl) w_478 ?_
          refine G.go tv_X7_cutBlocks 1 83 [(0, .ref (gAd E (37))), (1, .int (x1)), (4, .int (x4)), (5, .int (x5)), (6, .int (x6)), (7, .int (x7)), (8, .int (v4)), (9, .int (v8))] [.int (v8), .ref (gAd E (25))] rfl ?_
          obtain ⟨A9, D9, hv9, hr⟩ := bnd2_s hr
          refine G.callV (25) [.int (v8)] [] (k_X10_loosen E _ N B gr C D A hz ha8 hD hA v8 A9 D9 hv9) cls_X10 (by omega) (ha8.q25) cw_X7_167 w_971 w_972 (Nat.le_of_ble_eq_true rfl) rfl (Nat.le_of_ble_eq_true rfl) (tbd tv_X7_cutBlocks rfl) (fun v9w f9 q9 => ?_) (fun _ _ h => h.elim)
          obtain ⟨rfl, C9, ha9, hD9, hA9, fa9⟩ := q9
          refine G.eqs [] rfl ?_
          refine G.go tv_X7_cutBlocks 3 93 [(0, .ref (gAd E (37))), (1, .int (x1)), (4, .int (x4)), (5, .int (x5 + (1 : Int32))), (6, .int (x6)), (7, .int (x7)), (8, .int (v4)), (9, .int (v8))] [.int (x4), .int (x7)] rfl ?_
          obtain ⟨v10, hv10, hr⟩ := bnd_s hr
          refine G.callS [.int (x7), .int (x4)] [] (k_X7_tableStays E _ N B gr C9 D9 A9 hz ha9 hD9 hA9 x7 x4 v10 hv10) cw_X7_170 w_984 (Nat.le_of_ble_eq_true rfl) rfl (Nat.le_of_ble_eq_true rfl) (tbd tv_X7_cutBlocks rfl) (fun v10w f10 q10 => ?_) (fun _ _ h => h.elim)
          obtain ⟨rfl, ha10, fa10⟩ := q10
          refine G.eqs [.int (v10)] rfl ?_
          refine G.if_eq 118 (tbd tv_X7_cutBlocks rfl) (by decide) (fun c96 => ?_) (fun c96 => ?_)
          · replace hr := ite_t c96 hr
            refine G.go tv_X7_cutBlocks 2 20 [(0, .ref (gAd E (37))), (1, .int (x1)), (4, .int (x4)), (5, .int (x5 + (1 : Int32))), (6, .int (x6)), (7, .int (x7 + (1 : Int32))), (8, .int (v4)), (9, .int (v8))] [] rfl ?_
            refine G.less [(0, .ref (gAd E (37))), (1, .int (x1)), (4, .int (x4)), (5, .int (x5 + (1 : Int32))), (6, .int (x6)), (7, .int (x7 + (1 : Int32)))] [0, 1, 2, 3, 4, 5] rfl ?_
            exact ih _ _ _ _ _ _ _ _ _ _ hr _ _ ha10 hD9 hA9 ((((((hf.tr fa4 (fun _ h => h)).tr fa6 (fun _ h => h)).tr fa7 (fun _ h => h)).tr fa8 (fun _ h => h)).tr fa9 (fun _ h => h)).tr fa10 (fun _ h => h))
          · replace hr := ite_f c96 hr
            refine G.go tv_X7_cutBlocks 1 100 [(0, .ref (gAd E (37))), (1, .int (x1)), (4, .int (x4)), (5, .int (x5 + (1 : Int32))), (6, .int (x6)), (7, .int (x7)), (8, .int (v4)), (9, .int (v8))] [.ref (gAd E (37))] rfl ?_
            refine G.getf cls_X7 (37) 0 (by omega) (ha10.q37) (by decide) rfl (tbd tv_X7_cutBlocks rfl) w_478 ?_
            refine G.go tv_X7_cutBlocks 1 105 [(0, .ref (gAd E (37))), (1, .int (x1)), (4, .int (x4)), (5, .int (x5 + (1 : Int32))), (6, .int (x6)), (7, .int (x7)), (8, .int (v4)), (9, .int (v8))] [.int (v4), .ref (gAd E (25))] rfl ?_
            obtain ⟨A12, D12, hv12, hr⟩ := bnd2_s hr
            refine G.callV (25) [.int (v4)] [] (k_own E _ N B gr C9 D9 A9 hz ha10 hD9 hA9 _ _ _ hv12) cls_X10 (by omega) (ha10.q25) cw_X7_52 w_975 w_976 (Nat.le_of_ble_eq_true rfl) rfl (Nat.le_of_ble_eq_true rfl) (tbd tv_X7_cutBlocks rfl) (fun v12w f12 q12 => ?_) (fun _ _ h => h.elim)
            obtain ⟨rfl, C12, ha12, hD12, hA12, fa12⟩ := q12
            refine G.eqs [.ref (gAd E (350 + N + v4.toNatClampNeg))] rfl ?_
            refine G.go tv_X7_cutBlocks 2 111 [(0, .ref (gAd E (37))), (1, .int (x1)), (4, .int (x4)), (5, .int (x5 + (1 : Int32))), (6, .int (x6)), (7, .int (x7)), (8, .int (v4)), (9, .int (v8))] [.int (x7), .int (x1), .ref (gAd E (350 + N + v4.toNatClampNeg))] rfl ?_
            obtain ⟨v13, hv13, hr⟩ := bnd_s hr
            refine G.callS [.int (x1), .int (x7)] [.ref (gAd E (350 + N + v4.toNatClampNeg))] (k_X7_spot E _ N B gr C12 D12 A12 hz ha12 hD12 hA12 x1 x7 v13 hv13) cw_X7_149 w_968 (Nat.le_of_ble_eq_true rfl) rfl (Nat.le_of_ble_eq_true rfl) (tbd tv_X7_cutBlocks rfl) (fun v13w f13 q13 => ?_) (fun _ _ h => h.elim)
            obtain ⟨rfl, ha13, fa13⟩ := q13
            refine G.eqs [.int (v13), .ref (gAd E (350 + N + v4.toNatClampNeg))] rfl ?_
            refine G.go tv_X7_cutBlocks 1 115 [(0, .ref (gAd E (37))), (1, .int (x1)), (4, .int (x4)), (5, .int (x5 + (1 : Int32))), (6, .int (x6)), (7, .int (x7)), (8, .int (v4)), (9, .int (v8))] [.int ((0 : Int32)), .int (v13), .ref (gAd E (350 + N + v4.toNatClampNeg))] rfl ?_
            obtain ⟨A14, hv14, hr⟩ := bnd_s hr
            refine G.callS [.ref (gAd E (350 + N + v4.toNatClampNeg)), .int (v13), .int ((0 : Int32))] [] (k_s2O E _ N B gr C12 D12 A12 hz ha13 hD12 hA12 v4.toNatClampNeg v13 ((0 : Int32)) _ hv14) cw_X7_142 w_787 (Nat.le_of_ble_eq_true rfl) rfl (Nat.le_of_ble_eq_true rfl) (tbd tv_X7_cutBlocks rfl) (fun v14w f14 q14 => ?_) (fun _ _ h => h.elim)
            obtain ⟨rfl, C14, ha14, hD14, hA14, fa14⟩ := q14
            refine G.eqs [] rfl ?_
            refine G.go tv_X7_cutBlocks 2 20 [(0, .ref (gAd E (37))), (1, .int (x1)), (4, .int (x4)), (5, .int (x5 + (1 : Int32))), (6, .int (x6)), (7, .int (x7 + (1 : Int32))), (8, .int (v4)), (9, .int (v8))] [] rfl ?_
            refine G.less [(0, .ref (gAd E (37))), (1, .int (x1)), (4, .int (x4)), (5, .int (x5 + (1 : Int32))), (6, .int (x6)), (7, .int (x7 + (1 : Int32)))] [0, 1, 2, 3, 4, 5] rfl ?_
            exact ih _ _ _ _ _ _ _ _ _ _ hr _ _ ha14 hD14 hA14 (((((((((hf.tr fa4 (fun _ h => h)).tr fa6 (fun _ h => h)).tr fa7 (fun _ h => h)).tr fa8 (fun _ h => h)).tr fa9 (fun _ h => h)).tr fa10 (fun _ h => h)).tr fa12 (fun _ h => h)).tr fa13 (fun _ h => h)).tr fa14 (fun _ h => h))
      · replace hr := ite_t c39 hr
        refine G.go tv_X7_cutBlocks 1 44 [(0, .ref (gAd E (37))), (1, .int (x1)), (4, .int (x4)), (5, .int (x5)), (6, .int (x6)), (7, .int (x7)), (8, .int (v4))] [.int (x7)] rfl ?_
        obtain ⟨v15, hv15, hr⟩ := bnd_s hr
        refine G.callS [.int (x7)] [] (k_X7_lastBeside E _ N B gr C D A hz ha4 hD hA x7 v15 hv15) cw_X7_116 w_965 (Nat.le_of_ble_eq_true rfl) rfl (Nat.le_of_ble_eq_true rfl) (tbd tv_X7_cutBlocks rfl) (fun v15w f15 q15 => ?_) (fun _ _ h => h.elim)
        obtain ⟨rfl, ha15, fa15⟩ := q15
        refine G.eqs [.int (v15)] rfl ?_
        refine G.go tv_X7_cutBlocks 4 20 [(0, .ref (gAd E (37))), (1, .int (x1)), (4, .int (x4)), (5, .int (x5)), (6, .int (x6)), (7, .int (v15 + (1 : Int32))), (8, .int (v4))] [] rfl ?_
        refine G.less [(0, .ref (gAd E (37))), (1, .int (x1)), (4, .int (x4)), (5, .int (x5)), (6, .int (x6)), (7, .int (v15 + (1 : Int32)))] [0, 1, 2, 3, 4, 5] rfl ?_
        exact ih _ _ _ _ _ _ _ _ _ _ hr _ _ ha15 hD hA ((hf.tr fa4 (fun _ h => h)).tr fa15 (fun _ h => h))
set_option maxRecDepth 100000 in
set_option maxHeartbeats 4000000 in
theorem k_X7_cutBlocks (E : gE) (f : Nat → va_E) (N B gr : Nat) (C D : CfT) (A : MS) (hz : CfZ E N B gr) (h : CfV E f N B gr C) (hD : Dq D C) (hA : AR N B gr A C) (a0 : Int32) (a1 : Int32) (a2 : Int32) (a3 : Int32) (r : Int32) (A9 : MS) (D9 : CfT) (hr : d_X7_cutBlocks N A D a0 a1 a2 a3 = some (r, A9, D9)) : Ct E 4 yX7_cutBlocks cX7_cutBlocks 10 (some .int) [.ref (gAd E (37)), .int (a0), .int (a1), .int (a2), .int (a3)] f (fun v g => v = some (.int r) ∧ SN E N B gr f A9 D9 g, fun _ _ => False) := by
  obtain ⟨z1, z2, z3, z4, z5, z6, z7⟩ := id hz
  refine Ct.of (by decide) (Nat.le_of_ble_eq_true rfl) (fun sz => ?_)
  refine G.eql [(0, .ref (gAd E (37))), (1, .int (a0)), (2, .int (a1)), (3, .int (a2)), (4, .int (a3))] rfl ?_
  unfold d_X7_cutBlocks at hr
  refine G.go tv_X7_cutBlocks 5 6 [(0, .ref (gAd E (37))), (1, .int (a0)), (2, .int (a1)), (3, .int (a2)), (4, .int (a3)), (5, .int ((0 : Int32)))] [.int (a0), .ref (gAd E (37)), .int (a2)] rfl ?_
  obtain ⟨v1, hv1, hr⟩ := bnd_s hr
  refine G.callV (37) [.int (a0)] [.int (a2)] (k_X7_size E _ N B gr C D A hz h hD hA a0 v1 hv1) cls_X7 (by omega) (h.q37) cw_X7_86 w_941 w_942 (Nat.le_of_ble_eq_true rfl) rfl (Nat.le_of_ble_eq_true rfl) (tbd tv_X7_cutBlocks rfl) (fun v1w f1 q1 => ?_) (fun _ _ h => h.elim)
  obtain ⟨rfl, ha1, fa1⟩ := q1
  refine G.eqs [.int (v1), .int (a2)] rfl ?_
  obtain ⟨v2, hv2, hr⟩ := bnd_s hr
  refine G.callS [.int (v1)] [.int (a2)] (k_X7_blocksFor E _ N B gr C D A hz ha1 hD hA v1 v2 hv2) cw_X7_89 w_946 (Nat.le_of_ble_eq_true rfl) rfl (Nat.le_of_ble_eq_true rfl) (tbd tv_X7_cutBlocks rfl) (fun v2w f2 q2 => ?_) (fun _ _ h => h.elim)
  obtain ⟨rfl, ha2, fa2⟩ := q2
  refine G.eqs [.int (v2), .int (a2)] rfl ?_
  refine G.mmin w_952 w_214 w_150 w_215 (Nat.le_of_ble_eq_true rfl) (Nat.le_of_ble_eq_true rfl) (by show _ ≤ _; first | exact Nat.zero_le _ | exact Nat.le_of_ble_eq_true rfl) (by show _ ≤ _; first | exact Nat.zero_le _ | exact Nat.le_of_ble_eq_true rfl) (tbd tv_X7_cutBlocks rfl) ?_
  obtain ⟨v3, e3, hr⟩ := nm_s hr
  refine G.eq1 (b := v3) e3 ?_
  refine G.go tv_X7_cutBlocks 3 20 [(0, .ref (gAd E (37))), (1, .int (a0)), (2, .int (a1)), (3, .int (a2)), (4, .int (a3)), (5, .int ((0 : Int32))), (6, .int (v3)), (7, .int (a1))] [] rfl ?_
  refine G.less [(0, .ref (gAd E (37))), (1, .int (a0)), (4, .int (a3)), (5, .int ((0 : Int32))), (6, .int (v3)), (7, .int (a1))] [0, 1, 4, 5, 6, 7] rfl ?_
  exact l_X7_cutBlocks_20 E f sz _ N B gr C hz _ _ _ _ _ _ _ _ _ _ _ hr _ _ ha2 hD hA ((Fr.rf.tr fa1 (fun _ h => h)).tr fa2 (fun _ h => h))
def tb_X7_cutTables : List (Nat × Instr × Nat) := [(0, .aload_n 0, 1), (1, .iload_n 1, 1), (2, .invokevirtual 155, 3), (5, .istore_n 3, 1), (6, .iload_n 3, 1), (7, .ifCond .eq 39, 3), (10, .iload_n 2, 1), (11, .bipush 8, 2), (13, .if_icmp .gt 33, 3), (16, .aload_n 0, 1), (17, .getfield 18, 3), (20, .iload_n 3, 1), (21, .invokevirtual 167, 3), (24, .aload_n 0, 1), (25, .getfield 18, 3), (28, .iload_n 1, 1), (29, .invokestatic 30, 3), (32, .invokevirtual 52, 3), (35, .iload_n 1, 1), (36, .invokestatic 40, 3), (39, .bipush 28, 2), (41, .iadd, 1), (42, .iconst 0, 1), (43, .invokestatic 142, 3), (46, .aload_n 0, 1), (47, .iload_n 1, 1), (48, .invokevirtual 158, 3), (51, .istore 4, 2), (53, .iload 4, 2), (55, .ifCond .ne 4, 3), (58, .return_, 1), (59, .iconst 0, 1), (60, .istore 5, 2), (62, .iload 5, 2), (64, .bipush 64, 2), (66, .if_icmp .ge 68, 3), (69, .aload_n 0, 1), (70, .iload 4, 2), (72, .iload 5, 2), (74, .invokevirtual 161, 3), (77, .istore 6, 2), (79, .iload 6, 2), (81, .ifCond .eq 47, 3), (84, .iload_n 2, 1), (85, .bipush 72, 2), (87, .bipush 64, 2), (89, .iload 5, 2), (91, .imul, 1), (92, .iadd, 1), (93, .if_icmp .gt 35, 3), (96, .aload_n 0, 1), (97, .getfield 18, 3), (100, .iload 6, 2), (102, .invokevirtual 167, 3), (105, .iload_n 2, 1), (106, .bipush 72, 2), (108, .if_icmp .le 20, 3), (111, .aload_n 0, 1), (112, .getfield 18, 3), (115, .iload 4, 2), (117, .invokevirtual 52, 3), (120, .iconst 2, 1), (121, .iload 5, 2), (123, .imul, 1), (124, .iconst 0, 1), (125, .invokestatic 142, 3), (128, .iinc 5 1, 3), (131, .goto (-69), 3), (134, .iload_n 2, 1), (135, .bipush 72, 2), (137, .if_icmp .gt 34, 3), (140, .aload_n 0, 1), (141, .getfield 18, 3), (144, .iload 4, 2), (146, .invokevirtual 167, 3), (149, .aload_n 0, 1), (150, .getfield 18, 3), (153, .iload_n 1, 1), (154, .invokestatic 30, 3), (157, .invokevirtual 52, 3), (160, .iload_n 1, 1), (161, .invokestatic 40, 3), (164, .bipush 30, 2), (166, .iadd, 1), (167, .iconst 0, 1), (168, .invokestatic 142, 3), (171, .return_, 1)]
theorem tv_X7_cutTables : Tv cX7_cutTables tb_X7_cutTables := by
  unfold Tv
  decide +kernel
def d_X7_cutTables_62 (N : Nat) : Nat → MS → CfT → Int32 → Int32 → Int32 → Int32 → Option (MS × CfT)
  | 0, _, _, _, _, _, _ => none
  | n + 1, A, D, x1, x2, x4, x5 => if ((64 : Int32)) ≤ x5 then if ((72 : Int32)) < x2 then some (A, D) else bnd2 (d_X10_loosen N A D x4) (fun A24 D24 => bnd (d_X7_home N (vA A24) D24 x1) (fun v25 => bnd2 (owB N A24 D24 v25) (fun A27 D27 => bnd (d_X7_start N (vA A27) D27 x1) (fun v28 => bnd (s2O N A27 v25.toNatClampNeg ((v28) + ((30 : Int32))) ((0 : Int32))) (fun A29 => some (A29, D27)))))) else bnd (d_X7_tableOfSecond N (vA A) D x4 x5) (fun v30 => if v30 = 0 then d_X7_cutTables_62 N n A D x1 x2 x4 (x5 + (1 : Int32)) else if (((72 : Int32)) + (((64 : Int32)) * (x5))) < x2 then d_X7_cutTables_62 N n A D x1 x2 x4 (x5 + (1 : Int32)) else bnd2 (d_X10_loosen N A D v30) (fun A31 D31 => if x2 ≤ ((72 : Int32)) then d_X7_cutTables_62 N n A31 D31 x1 x2 x4 (x5 + (1 : Int32)) else bnd2 (owB N A31 D31 x4) (fun A33 D33 => bnd (s2O N A33 x4.toNatClampNeg (((2 : Int32)) * (x5)) ((0 : Int32))) (fun A34 => d_X7_cutTables_62 N n A34 D33 x1 x2 x4 (x5 + (1 : Int32))))))
def d_X7_cutTables_46 (N : Nat) (A : MS) (D : CfT) (x1 : Int32) (x2 : Int32) : Option (MS × CfT) := bnd (d_X7_secondTable N (vA A) D x1) (fun v23 => if v23 = 0 then some (A, D) else d_X7_cutTables_62 N fuL A D x1 x2 v23 ((0 : Int32)))
def d_X7_cutTables (N : Nat) (A : MS) (D : CfT) (a0 : Int32) (a1 : Int32) : Option (MS × CfT) := bnd (d_X7_firstTable N (vA A) D a0) (fun v16 => if v16 = 0 then d_X7_cutTables_46 N A D a0 a1 else if ((8 : Int32)) < a1 then d_X7_cutTables_46 N A D a0 a1 else bnd2 (d_X10_loosen N A D v16) (fun A17 D17 => bnd (d_X7_home N (vA A17) D17 a0) (fun v18 => bnd2 (owB N A17 D17 v18) (fun A20 D20 => bnd (d_X7_start N (vA A20) D20 a0) (fun v21 => bnd (s2O N A20 v18.toNatClampNeg ((v21) + ((28 : Int32))) ((0 : Int32))) (fun A22 => d_X7_cutTables_46 N A22 D20 a0 a1))))))
set_option maxRecDepth 100000 in
set_option maxHeartbeats 4000000 in
theorem l_X7_cutTables_62 (E : gE) (f0 : Nat → va_E) (sz : Nat) (QA : Nat → Prop) (N B gr : Nat) (C0 : CfT) (hz : CfZ E N B gr) : ∀ (n : Nat), ∀ (A : MS) (D : CfT) (x1 : Int32) (x2 : Int32) (x4 : Int32) (x5 : Int32) (A9 : MS) (D9 : CfT) (hr : d_X7_cutTables_62 N n A D x1 x2 x4 x5 = some (A9, D9)) (f : Nat → va_E) (C : CfT) (h : CfV E f N B gr C) (hD : Dq D C) (hA : AR N B gr A C) (hf : Fr CfK f0 f), G E (4, yX7_cutTables, 7, none, sz, QA) cX7_cutTables (gO E (4, yX7_cutTables, 7, none, sz, QA) (fun v g => v = none ∧ SN E N B gr f0 A9 D9 g, fun _ _ => False)) 62 [(0, .ref (gAd E (37))), (1, .int (x1)), (2, .int (x2)), (4, .int (x4)), (5, .int (x5))] [] f := by
  obtain ⟨z1, z2, z3, z4, z5, z6, z7⟩ := id hz
  intro n
  induction n with
  | zero =>
    intro A D x1 x2 x4 x5 A9 D9 hr f C h hD hA hf
    cases hr
  | succ n ih =>
    intro A D x1 x2 x4 x5 A9 D9 hr f C h hD hA hf
    unfold d_X7_cutTables_62 at hr
    refine G.go tv_X7_cutTables 2 66 [(0, .ref (gAd E (37))), (1, .int (x1)), (2, .int (x2)), (4, .int (x4)), (5, .int (x5))] [.int ((64 : Int32)), .int (x5)] rfl ?_
    refine G.cmp_ge 134 (tbd tv_X7_cutTables rfl) (by decide) (fun c66 => ?_) (fun c66 => ?_)
    · replace hr := ite_t c66 hr
      refine G.go tv_X7_cutTables 2 137 [(0, .ref (gAd E (37))), (1, .int (x1)), (2, .int (x2)), (4, .int (x4)), (5, .int (x5))] [.int ((72 : Int32)), .int (x2)] rfl ?_
      refine G.cmp_gt 171 (tbd tv_X7_cutTables rfl) (by decide) (fun c137 => ?_) (fun c137 => ?_)
      · replace hr := ite_t c137 hr
        cases hr
        exact G.vret rfl ⟨rfl, C, h, hD, hA, hf⟩ (tbd tv_X7_cutTables rfl)
      · replace hr := ite_f c137 hr
        refine G.go tv_X7_cutTables 1 141 [(0, .ref (gAd E (37))), (1, .int (x1)), (2, .int (x2)), (4, .int (x4)), (5, .int (x5))] [.ref (gAd E (37))] rfl ?_
        refine G.getf cls_X7 (37) 0 (by omega) (h.q37) (by decide) rfl (tbd tv_X7_cutTables rfl) w_478 ?_
        refine G.go tv_X7_cutTables 1 146 [(0, .ref (gAd E (37))), (1, .int (x1)), (2, .int (x2)), (4, .int (x4)), (5, .int (x5))] [.int (x4), .ref (gAd E (25))] rfl ?_
        obtain ⟨A24, D24, hv24, hr⟩ := bnd2_s hr
        refine G.callV (25) [.int (x4)] [] (k_X10_loosen E _ N B gr C D A hz h hD hA x4 A24 D24 hv24) cls_X10 (by omega) (h.q25) cw_X7_167 w_971 w_972 (Nat.le_of_ble_eq_true rfl) rfl (Nat.le_of_ble_eq_true rfl) (tbd tv_X7_cutTables rfl) (fun v24w f24 q24 => ?_) (fun _ _ h => h.elim)
        obtain ⟨rfl, C24, ha24, hD24, hA24, fa24⟩ := q24
        refine G.eqs [] rfl ?_
        refine G.go tv_X7_cutTables 1 150 [(0, .ref (gAd E (37))), (1, .int (x1)), (2, .int (x2)), (4, .int (x4)), (5, .int (x5))] [.ref (gAd E (37))] rfl ?_
        refine G.getf cls_X7 (37) 0 (by omega) (ha24.q37) (by decide) rfl (tbd tv_X7_cutTables rfl) w_478 ?_
        refine G.go tv_X7_cutTables 1 154 [(0, .ref (gAd E (37))), (1, .int (x1)), (2, .int (x2)), (4, .int (x4)), (5, .int (x5))] [.int (x1), .ref (gAd E (25))] rfl ?_
        obtain ⟨v25, hv25, hr⟩ := bnd_s hr
        refine G.callS [.int (x1)] [.ref (gAd E (25))] (k_X7_home E _ N B gr C24 D24 A24 hz ha24 hD24 hA24 x1 v25 hv25) cw_X7_30 w_907 (Nat.le_of_ble_eq_true rfl) rfl (Nat.le_of_ble_eq_true rfl) (tbd tv_X7_cutTables rfl) (fun v25w f25 q25 => ?_) (fun _ _ h => h.elim)
        obtain ⟨rfl, ha25, fa25⟩ := q25
        refine G.eqs [.int (v25), .ref (gAd E (25))] rfl ?_
        obtain ⟨A27, D27, hv27, hr⟩ := bnd2_s hr
        refine G.callV (25) [.int (v25)] [] (k_own E _ N B gr C24 D24 A24 hz ha25 hD24 hA24 _ _ _ hv27) cls_X10 (by omega) (ha25.q25) cw_X7_52 w_975 w_976 (Nat.le_of_ble_eq_true rfl) rfl (Nat.le_of_ble_eq_true rfl) (tbd tv_X7_cutTables rfl) (fun v27w f27 q27 => ?_) (fun _ _ h => h.elim)
        obtain ⟨rfl, C27, ha27, hD27, hA27, fa27⟩ := q27
        refine G.eqs [.ref (gAd E (350 + N + v25.toNatClampNeg))] rfl ?_
        refine G.go tv_X7_cutTables 1 161 [(0, .ref (gAd E (37))), (1, .int (x1)), (2, .int (x2)), (4, .int (x4)), (5, .int (x5))] [.int (x1), .ref (gAd E (350 + N + v25.toNatClampNeg))] rfl ?_
        obtain ⟨v28, hv28, hr⟩ := bnd_s hr
        refine G.callS [.int (x1)] [.ref (gAd E (350 + N + v25.toNatClampNeg))] (k_X7_start E _ N B gr C27 D27 A27 hz ha27 hD27 hA27 x1 v28 hv28) cw_X7_40 w_922 (Nat.le_of_ble_eq_true rfl) rfl (Nat.le_of_ble_eq_true rfl) (tbd tv_X7_cutTables rfl) (fun v28w f28 q28 => ?_) (fun _ _ h => h.elim)
        obtain ⟨rfl, ha28, fa28⟩ := q28
        refine G.eqs [.int (v28), .ref (gAd E (350 + N + v25.toNatClampNeg))] rfl ?_
        refine G.go tv_X7_cutTables 3 168 [(0, .ref (gAd E (37))), (1, .int (x1)), (2, .int (x2)), (4, .int (x4)), (5, .int (x5))] [.int ((0 : Int32)), .int ((v28) + ((30 : Int32))), .ref (gAd E (350 + N + v25.toNatClampNeg))] rfl ?_
        obtain ⟨A29, hv29, hr⟩ := bnd_s hr
        refine G.callS [.ref (gAd E (350 + N + v25.toNatClampNeg)), .int ((v28) + ((30 : Int32))), .int ((0 : Int32))] [] (k_s2O E _ N B gr C27 D27 A27 hz ha28 hD27 hA27 v25.toNatClampNeg ((v28) + ((30 : Int32))) ((0 : Int32)) _ hv29) cw_X7_142 w_787 (Nat.le_of_ble_eq_true rfl) rfl (Nat.le_of_ble_eq_true rfl) (tbd tv_X7_cutTables rfl) (fun v29w f29 q29 => ?_) (fun _ _ h => h.elim)
        obtain ⟨rfl, C29, ha29, hD29, hA29, fa29⟩ := q29
        refine G.eqs [] rfl ?_
        cases hr
        exact G.vret rfl ⟨rfl, C29, ha29, hD29, hA29, (((((hf.tr fa24 (fun _ h => h)).tr fa25 (fun _ h => h)).tr fa27 (fun _ h => h)).tr fa28 (fun _ h => h)).tr fa29 (fun _ h => h))⟩ (tbd tv_X7_cutTables rfl)
    · replace hr := ite_f c66 hr
      refine G.go tv_X7_cutTables 3 74 [(0, .ref (gAd E (37))), (1, .int (x1)), (2, .int (x2)), (4, .int (x4)), (5, .int (x5))] [.int (x5), .int (x4), .ref (gAd E (37))] rfl ?_
      obtain ⟨v30, hv30, hr⟩ := bnd_s hr
      refine G.callV (37) [.int (x4), .int (x5)] [] (k_X7_tableOfSecond E _ N B gr C D A hz h hD hA x4 x5 v30 hv30) cls_X7 (by omega) (h.q37) cw_X7_161 w_1001 w_1002 (Nat.le_of_ble_eq_true rfl) rfl (Nat.le_of_ble_eq_true rfl) (tbd tv_X7_cutTables rfl) (fun v30w f30 q30 => ?_) (fun _ _ h => h.elim)
      obtain ⟨rfl, ha30, fa30⟩ := q30
      refine G.eqs [.int (v30)] rfl ?_
      refine G.go tv_X7_cutTables 2 81 [(0, .ref (gAd E (37))), (1, .int (x1)), (2, .int (x2)), (4, .int (x4)), (5, .int (x5)), (6, .int (v30))] [.int (v30)] rfl ?_
      refine G.if_eq 128 (tbd tv_X7_cutTables rfl) (by decide) (fun c81 => ?_) (fun c81 => ?_)
      · replace hr := ite_t c81 hr
        refine G.go tv_X7_cutTables 2 62 [(0, .ref (gAd E (37))), (1, .int (x1)), (2, .int (x2)), (4, .int (x4)), (5, .int (x5 + (1 : Int32))), (6, .int (v30))] [] rfl ?_
        refine G.less [(0, .ref (gAd E (37))), (1, .int (x1)), (2, .int (x2)), (4, .int (x4)), (5, .int (x5 + (1 : Int32)))] [0, 1, 2, 3, 4] rfl ?_
        exact ih _ _ _ _ _ _ _ _ hr _ _ ha30 hD hA (hf.tr fa30 (fun _ h => h))
      · replace hr := ite_f c81 hr
        refine G.go tv_X7_cutTables 6 93 [(0, .ref (gAd E (37))), (1, .int (x1)), (2, .int (x2)), (4, .int (x4)), (5, .int (x5)), (6, .int (v30))] [.int (((72 : Int32)) + (((64 : Int32)) * (x5))), .int (x2)] rfl ?_
        refine G.cmp_gt 128 (tbd tv_X7_cutTables rfl) (by decide) (fun c93 => ?_) (fun c93 => ?_)
        · replace hr := ite_t c93 hr
          refine G.go tv_X7_cutTables 2 62 [(0, .ref (gAd E (37))), (1, .int (x1)), (2, .int (x2)), (4, .int (x4)), (5, .int (x5 + (1 : Int32))), (6, .int (v30))] [] rfl ?_
          refine G.less [(0, .ref (gAd E (37))), (1, .int (x1)), (2, .int (x2)), (4, .int (x4)), (5, .int (x5 + (1 : Int32)))] [0, 1, 2, 3, 4] rfl ?_
          exact ih _ _ _ _ _ _ _ _ hr _ _ ha30 hD hA (hf.tr fa30 (fun _ h => h))
        · replace hr := ite_f c93 hr
          refine G.go tv_X7_cutTables 1 97 [(0, .ref (gAd E (37))), (1, .int (x1)), (2, .int (x2)), (4, .int (x4)), (5, .int (x5)), (6, .int (v30))] [.ref (gAd E (37))] rfl ?_
          refine G.getf cls_X7 (37) 0 (by omega) (ha30.q37) (by decide) rfl (tbd tv_X7_cutTables rfl) w_478 ?_
          refine G.go tv_X7_cutTables 1 102 [(0, .ref (gAd E (37))), (1, .int (x1)), (2, .int (x2)), (4, .int (x4)), (5, .int (x5)), (6, .int (v30))] [.int (v30), .ref (gAd E (25))] rfl ?_
          obtain ⟨A31, D31, hv31, hr⟩ := bnd2_s hr
          refine G.callV (25) [.int (v30)] [] (k_X10_loosen E _ N B gr C D A hz ha30 hD hA v30 A31 D31 hv31) cls_X10 (by omega) (ha30.q25) cw_X7_167 w_971 w_972 (Nat.le_of_ble_eq_true rfl) rfl (Nat.le_of_ble_eq_true rfl) (tbd tv_X7_cutTables rfl) (fun v31w f31 q31 => ?_) (fun _ _ h => h.elim)
          obtain ⟨rfl, C31, ha31, hD31, hA31, fa31⟩ := q31
          refine G.eqs [] rfl ?_
          refine G.go tv_X7_cutTables 2 108 [(0, .ref (gAd E (37))), (1, .int (x1)), (2, .int (x2)), (4, .int (x4)), (5, .int (x5)), (6, .int (v30))] [.int ((72 : Int32)), .int (x2)] rfl ?_
          refine G.cmp_le 128 (tbd tv_X7_cutTables rfl) (by decide) (fun c108 => ?_) (fun c108 => ?_)
          · replace hr := ite_t c108 hr
            refine G.go tv_X7_cutTables 2 62 [(0, .ref (gAd E (37))), (1, .int (x1)), (2, .int (x2)), (4, .int (x4)), (5, .int (x5 + (1 : Int32))), (6, .int (v30))] [] rfl ?_
            refine G.less [(0, .ref (gAd E (37))), (1, .int (x1)), (2, .int (x2)), (4, .int (x4)), (5, .int (x5 + (1 : Int32)))] [0, 1, 2, 3, 4] rfl ?_
            exact ih _ _ _ _ _ _ _ _ hr _ _ ha31 hD31 hA31 ((hf.tr fa30 (fun _ h => h)).tr fa31 (fun _ h => h))
          · replace hr := ite_f c108 hr
            refine G.go tv_X7_cutTables 1 112 [(0, .ref (gAd E (37))), (1, .int (x1)), (2, .int (x2)), (4, .int (x4)), (5, .int (x5)), (6, .int (v30))] [.ref (gAd E (37))] rfl ?_
            refine G.getf cls_X7 (37) 0 (by omega) (ha31.q37) (by decide) rfl (tbd tv_X7_cutTables rfl) w_478 ?_
            refine G.go tv_X7_cutTables 1 117 [(0, .ref (gAd E (37))), (1, .int (x1)), (2, .int (x2)), (4, .int (x4)), (5, .int (x5)), (6, .int (v30))] [.int (x4), .ref (gAd E (25))] rfl ?_
            obtain ⟨A33, D33, hv33, hr⟩ := bnd2_s hr
            refine G.callV (25) [.int (x4)] [] (k_own E _ N B gr C31 D31 A31 hz ha31 hD31 hA31 _ _ _ hv33) cls_X10 (by omega) (ha31.q25) cw_X7_52 w_975 w_976 (Nat.le_of_ble_eq_true rfl) rfl (Nat.le_of_ble_eq_true rfl) (tbd tv_X7_cutTables rfl) (fun v33w f33 q33 => ?_) (fun _ _ h => h.elim)
            obtain ⟨rfl, C33, ha33, hD33, hA33, fa33⟩ := q33
            refine G.eqs [.ref (gAd E (350 + N + x4.toNatClampNeg))] rfl ?_
            refine G.go tv_X7_cutTables 4 125 [(0, .ref (gAd E (37))), (1, .int (x1)), (2, .int (x2)), (4, .int (x4)), (5, .int (x5)), (6, .int (v30))] [.int ((0 : Int32)), .int (((2 : Int32)) * (x5)), .ref (gAd E (350 + N + x4.toNatClampNeg))] rfl ?_
            obtain ⟨A34, hv34, hr⟩ := bnd_s hr
            refine G.callS [.ref (gAd E (350 + N + x4.toNatClampNeg)), .int (((2 : Int32)) * (x5)), .int ((0 : Int32))] [] (k_s2O E _ N B gr C33 D33 A33 hz ha33 hD33 hA33 x4.toNatClampNeg (((2 : Int32)) * (x5)) ((0 : Int32)) _ hv34) cw_X7_142 w_787 (Nat.le_of_ble_eq_true rfl) rfl (Nat.le_of_ble_eq_true rfl) (tbd tv_X7_cutTables rfl) (fun v34w f34 q34 => ?_) (fun _ _ h => h.elim)
            obtain ⟨rfl, C34, ha34, hD34, hA34, fa34⟩ := q34
            refine G.eqs [] rfl ?_
            refine G.go tv_X7_cutTables 2 62 [(0, .ref (gAd E (37))), (1, .int (x1)), (2, .int (x2)), (4, .int (x4)), (5, .int (x5 + (1 : Int32))), (6, .int (v30))] [] rfl ?_
            refine G.less [(0, .ref (gAd E (37))), (1, .int (x1)), (2, .int (x2)), (4, .int (x4)), (5, .int (x5 + (1 : Int32)))] [0, 1, 2, 3, 4] rfl ?_
            exact ih _ _ _ _ _ _ _ _ hr _ _ ha34 hD34 hA34 ((((hf.tr fa30 (fun _ h => h)).tr fa31 (fun _ h => h)).tr fa33 (fun _ h => h)).tr fa34 (fun _ h => h))
set_option maxRecDepth 100000 in
set_option maxHeartbeats 4000000 in
theorem l_X7_cutTables_46 (E : gE) (f0 : Nat → va_E) (sz : Nat) (QA : Nat → Prop) (N B gr : Nat) (C0 : CfT) (hz : CfZ E N B gr) : ∀ (A : MS) (D : CfT) (x1 : Int32) (x2 : Int32) (A9 : MS) (D9 : CfT) (hr : d_X7_cutTables_46 N A D x1 x2 = some (A9, D9)) (f : Nat → va_E) (C : CfT) (h : CfV E f N B gr C) (hD : Dq D C) (hA : AR N B gr A C) (hf : Fr CfK f0 f), G E (4, yX7_cutTables, 7, none, sz, QA) cX7_cutTables (gO E (4, yX7_cutTables, 7, none, sz, QA) (fun v g => v = none ∧ SN E N B gr f0 A9 D9 g, fun _ _ => False)) 46 [(0, .ref (gAd E (37))), (1, .int (x1)), (2, .int (x2))] [] f := by
  obtain ⟨z1, z2, z3, z4, z5, z6, z7⟩ := id hz
  intro A D x1 x2 A9 D9 hr f C h hD hA hf
  unfold d_X7_cutTables_46 at hr
  refine G.go tv_X7_cutTables 2 48 [(0, .ref (gAd E (37))), (1, .int (x1)), (2, .int (x2))] [.int (x1), .ref (gAd E (37))] rfl ?_
  obtain ⟨v23, hv23, hr⟩ := bnd_s hr
  refine G.callV (37) [.int (x1)] [] (k_X7_secondTable E _ N B gr C D A hz h hD hA x1 v23 hv23) cls_X7 (by omega) (h.q37) cw_X7_158 w_997 w_998 (Nat.le_of_ble_eq_true rfl) rfl (Nat.le_of_ble_eq_true rfl) (tbd tv_X7_cutTables rfl) (fun v23w f23 q23 => ?_) (fun _ _ h => h.elim)
  obtain ⟨rfl, ha23, fa23⟩ := q23
  refine G.eqs [.int (v23)] rfl ?_
  refine G.go tv_X7_cutTables 2 55 [(0, .ref (gAd E (37))), (1, .int (x1)), (2, .int (x2)), (4, .int (v23))] [.int (v23)] rfl ?_
  refine G.if_ne 59 (tbd tv_X7_cutTables rfl) (by decide) (fun c55 => ?_) (fun c55 => ?_)
  · replace hr := ite_f c55 hr
    refine G.go tv_X7_cutTables 2 62 [(0, .ref (gAd E (37))), (1, .int (x1)), (2, .int (x2)), (4, .int (v23)), (5, .int ((0 : Int32)))] [] rfl ?_
    refine G.less [(0, .ref (gAd E (37))), (1, .int (x1)), (2, .int (x2)), (4, .int (v23)), (5, .int ((0 : Int32)))] [0, 1, 2, 3, 4] rfl ?_
    exact l_X7_cutTables_62 E f0 sz QA N B gr C0 hz _ _ _ _ _ _ _ _ _ hr _ _ ha23 hD hA (hf.tr fa23 (fun _ h => h))
  · replace hr := ite_t c55 hr
    cases hr
    exact G.vret rfl ⟨rfl, C, ha23, hD, hA, (hf.tr fa23 (fun _ h => h))⟩ (tbd tv_X7_cutTables rfl)
set_option maxRecDepth 100000 in
set_option maxHeartbeats 4000000 in
theorem k_X7_cutTables (E : gE) (f : Nat → va_E) (N B gr : Nat) (C D : CfT) (A : MS) (hz : CfZ E N B gr) (h : CfV E f N B gr C) (hD : Dq D C) (hA : AR N B gr A C) (a0 : Int32) (a1 : Int32) (A9 : MS) (D9 : CfT) (hr : d_X7_cutTables N A D a0 a1 = some (A9, D9)) : Ct E 4 yX7_cutTables cX7_cutTables 7 none [.ref (gAd E (37)), .int (a0), .int (a1)] f (fun v g => v = none ∧ SN E N B gr f A9 D9 g, fun _ _ => False) := by
  obtain ⟨z1, z2, z3, z4, z5, z6, z7⟩ := id hz
  refine Ct.of (by decide) (Nat.le_of_ble_eq_true rfl) (fun sz => ?_)
  refine G.eql [(0, .ref (gAd E (37))), (1, .int (a0)), (2, .int (a1))] rfl ?_
  unfold d_X7_cutTables at hr
  refine G.go tv_X7_cutTables 2 2 [(0, .ref (gAd E (37))), (1, .int (a0)), (2, .int (a1))] [.int (a0), .ref (gAd E (37))] rfl ?_
  obtain ⟨v16, hv16, hr⟩ := bnd_s hr
  refine G.callV (37) [.int (a0)] [] (k_X7_firstTable E _ N B gr C D A hz h hD hA a0 v16 hv16) cls_X7 (by omega) (h.q37) cw_X7_155 w_993 w_994 (Nat.le_of_ble_eq_true rfl) rfl (Nat.le_of_ble_eq_true rfl) (tbd tv_X7_cutTables rfl) (fun v16w f16 q16 => ?_) (fun _ _ h => h.elim)
  obtain ⟨rfl, ha16, fa16⟩ := q16
  refine G.eqs [.int (v16)] rfl ?_
  refine G.go tv_X7_cutTables 2 7 [(0, .ref (gAd E (37))), (1, .int (a0)), (2, .int (a1)), (3, .int (v16))] [.int (v16)] rfl ?_
  refine G.if_eq 46 (tbd tv_X7_cutTables rfl) (by decide) (fun c7 => ?_) (fun c7 => ?_)
  · replace hr := ite_t c7 hr
    refine G.less [(0, .ref (gAd E (37))), (1, .int (a0)), (2, .int (a1))] [0, 1, 2] rfl ?_
    exact l_X7_cutTables_46 E f sz _ N B gr C hz _ _ _ _ _ _ hr _ _ ha16 hD hA (Fr.rf.tr fa16 (fun _ h => h))
  · replace hr := ite_f c7 hr
    refine G.go tv_X7_cutTables 2 13 [(0, .ref (gAd E (37))), (1, .int (a0)), (2, .int (a1)), (3, .int (v16))] [.int ((8 : Int32)), .int (a1)] rfl ?_
    refine G.cmp_gt 46 (tbd tv_X7_cutTables rfl) (by decide) (fun c13 => ?_) (fun c13 => ?_)
    · replace hr := ite_t c13 hr
      refine G.less [(0, .ref (gAd E (37))), (1, .int (a0)), (2, .int (a1))] [0, 1, 2] rfl ?_
      exact l_X7_cutTables_46 E f sz _ N B gr C hz _ _ _ _ _ _ hr _ _ ha16 hD hA (Fr.rf.tr fa16 (fun _ h => h))
    · replace hr := ite_f c13 hr
      refine G.go tv_X7_cutTables 1 17 [(0, .ref (gAd E (37))), (1, .int (a0)), (2, .int (a1)), (3, .int (v16))] [.ref (gAd E (37))] rfl ?_
      refine G.getf cls_X7 (37) 0 (by omega) (ha16.q37) (by decide) rfl (tbd tv_X7_cutTables rfl) w_478 ?_
      refine G.go tv_X7_cutTables 1 21 [(0, .ref (gAd E (37))), (1, .int (a0)), (2, .int (a1)), (3, .int (v16))] [.int (v16), .ref (gAd E (25))] rfl ?_
      obtain ⟨A17, D17, hv17, hr⟩ := bnd2_s hr
      refine G.callV (25) [.int (v16)] [] (k_X10_loosen E _ N B gr C D A hz ha16 hD hA v16 A17 D17 hv17) cls_X10 (by omega) (ha16.q25) cw_X7_167 w_971 w_972 (Nat.le_of_ble_eq_true rfl) rfl (Nat.le_of_ble_eq_true rfl) (tbd tv_X7_cutTables rfl) (fun v17w f17 q17 => ?_) (fun _ _ h => h.elim)
      obtain ⟨rfl, C17, ha17, hD17, hA17, fa17⟩ := q17
      refine G.eqs [] rfl ?_
      refine G.go tv_X7_cutTables 1 25 [(0, .ref (gAd E (37))), (1, .int (a0)), (2, .int (a1)), (3, .int (v16))] [.ref (gAd E (37))] rfl ?_
      refine G.getf cls_X7 (37) 0 (by omega) (ha17.q37) (by decide) rfl (tbd tv_X7_cutTables rfl) w_478 ?_
      refine G.go tv_X7_cutTables 1 29 [(0, .ref (gAd E (37))), (1, .int (a0)), (2, .int (a1)), (3, .int (v16))] [.int (a0), .ref (gAd E (25))] rfl ?_
      obtain ⟨v18, hv18, hr⟩ := bnd_s hr
      refine G.callS [.int (a0)] [.ref (gAd E (25))] (k_X7_home E _ N B gr C17 D17 A17 hz ha17 hD17 hA17 a0 v18 hv18) cw_X7_30 w_907 (Nat.le_of_ble_eq_true rfl) rfl (Nat.le_of_ble_eq_true rfl) (tbd tv_X7_cutTables rfl) (fun v18w f18 q18 => ?_) (fun _ _ h => h.elim)
      obtain ⟨rfl, ha18, fa18⟩ := q18
      refine G.eqs [.int (v18), .ref (gAd E (25))] rfl ?_
      obtain ⟨A20, D20, hv20, hr⟩ := bnd2_s hr
      refine G.callV (25) [.int (v18)] [] (k_own E _ N B gr C17 D17 A17 hz ha18 hD17 hA17 _ _ _ hv20) cls_X10 (by omega) (ha18.q25) cw_X7_52 w_975 w_976 (Nat.le_of_ble_eq_true rfl) rfl (Nat.le_of_ble_eq_true rfl) (tbd tv_X7_cutTables rfl) (fun v20w f20 q20 => ?_) (fun _ _ h => h.elim)
      obtain ⟨rfl, C20, ha20, hD20, hA20, fa20⟩ := q20
      refine G.eqs [.ref (gAd E (350 + N + v18.toNatClampNeg))] rfl ?_
      refine G.go tv_X7_cutTables 1 36 [(0, .ref (gAd E (37))), (1, .int (a0)), (2, .int (a1)), (3, .int (v16))] [.int (a0), .ref (gAd E (350 + N + v18.toNatClampNeg))] rfl ?_
      obtain ⟨v21, hv21, hr⟩ := bnd_s hr
      refine G.callS [.int (a0)] [.ref (gAd E (350 + N + v18.toNatClampNeg))] (k_X7_start E _ N B gr C20 D20 A20 hz ha20 hD20 hA20 a0 v21 hv21) cw_X7_40 w_922 (Nat.le_of_ble_eq_true rfl) rfl (Nat.le_of_ble_eq_true rfl) (tbd tv_X7_cutTables rfl) (fun v21w f21 q21 => ?_) (fun _ _ h => h.elim)
      obtain ⟨rfl, ha21, fa21⟩ := q21
      refine G.eqs [.int (v21), .ref (gAd E (350 + N + v18.toNatClampNeg))] rfl ?_
      refine G.go tv_X7_cutTables 3 43 [(0, .ref (gAd E (37))), (1, .int (a0)), (2, .int (a1)), (3, .int (v16))] [.int ((0 : Int32)), .int ((v21) + ((28 : Int32))), .ref (gAd E (350 + N + v18.toNatClampNeg))] rfl ?_
      obtain ⟨A22, hv22, hr⟩ := bnd_s hr
      refine G.callS [.ref (gAd E (350 + N + v18.toNatClampNeg)), .int ((v21) + ((28 : Int32))), .int ((0 : Int32))] [] (k_s2O E _ N B gr C20 D20 A20 hz ha21 hD20 hA20 v18.toNatClampNeg ((v21) + ((28 : Int32))) ((0 : Int32)) _ hv22) cw_X7_142 w_787 (Nat.le_of_ble_eq_true rfl) rfl (Nat.le_of_ble_eq_true rfl) (tbd tv_X7_cutTables rfl) (fun v22w f22 q22 => ?_) (fun _ _ h => h.elim)
      obtain ⟨rfl, C22, ha22, hD22, hA22, fa22⟩ := q22
      refine G.eqs [] rfl ?_
      refine G.less [(0, .ref (gAd E (37))), (1, .int (a0)), (2, .int (a1))] [0, 1, 2] rfl ?_
      exact l_X7_cutTables_46 E f sz _ N B gr C hz _ _ _ _ _ _ hr _ _ ha22 hD22 hA22 ((((((Fr.rf.tr fa16 (fun _ h => h)).tr fa17 (fun _ h => h)).tr fa18 (fun _ h => h)).tr fa20 (fun _ h => h)).tr fa21 (fun _ h => h)).tr fa22 (fun _ h => h))
def tb_X7_goes : List (Nat × Instr × Nat) := [(0, .aload_n 0, 1), (1, .iload_n 1, 1), (2, .iconst 0, 1), (3, .aload_n 0, 1), (4, .iload_n 1, 1), (5, .invokevirtual 86, 3), (8, .invokestatic 89, 3), (11, .iconst 0, 1), (12, .invokevirtual 92, 3), (15, .pop, 1), (16, .aload_n 0, 1), (17, .iload_n 1, 1), (18, .iconst 0, 1), (19, .invokevirtual 96, 3), (22, .aload_n 0, 1), (23, .getfield 18, 3), (26, .bipush 44, 2), (28, .invokevirtual 52, 3), (31, .iload_n 1, 1), (32, .iconst 1, 1), (33, .isub, 1), (34, .bipush 8, 2), (36, .idiv, 1), (37, .dup2, 1), (38, .baload, 1), (39, .iconst 1, 1), (40, .iload_n 1, 1), (41, .iconst 1, 1), (42, .isub, 1), (43, .bipush 8, 2), (45, .irem, 1), (46, .ishl, 1), (47, .iconst (-1), 1), (48, .ixor, 1), (49, .i2b, 1), (50, .iand, 1), (51, .i2b, 1), (52, .bastore, 1), (53, .aload_n 0, 1), (54, .getfield 18, 3), (57, .iload_n 1, 1), (58, .invokestatic 30, 3), (61, .invokevirtual 52, 3), (64, .iload_n 1, 1), (65, .invokestatic 40, 3), (68, .iload_n 1, 1), (69, .invokestatic 40, 3), (72, .bipush 32, 2), (74, .iadd, 1), (75, .iconst 0, 1), (76, .invokestatic 99, 3), (79, .return_, 1)]
theorem tv_X7_goes : Tv cX7_goes tb_X7_goes := by
  unfold Tv
  decide +kernel
theorem w_948 : Cond.methodLink "LedgerFiles$Nodes" 92 yX7_cutBlocks ∈ TB := tp_4 82 (by decide +kernel) rfl
theorem w_951 : Cond.code yX7_cutBlocks prog_9_method_38_code 10 (some .int) ∈ TB := tp_4 85 rfl rfl
theorem cw_X7_92 : Cw RX7 92 yX7_cutBlocks cX7_cutBlocks 10 (some .int) 4 := ⟨w_948, w_951, w_157, by decide +kernel, by decide +kernel, by decide⟩
theorem w_949 : Cond.instanceMethod yX7_cutBlocks ∈ TB := tp_4 83 (by decide +kernel) rfl
theorem w_950 : Cond.selects "LedgerFiles$Nodes" yX7_cutBlocks yX7_cutBlocks ∈ TB := tp_4 84 (by decide +kernel) rfl
theorem w_988 : Cond.methodLink "LedgerFiles$Nodes" 96 yX7_cutTables ∈ TB := tp_4 122 (by decide +kernel) rfl
theorem w_991 : Cond.code yX7_cutTables prog_9_method_39_code 7 none ∈ TB := tp_4 125 rfl rfl
theorem cw_X7_96 : Cw RX7 96 yX7_cutTables cX7_cutTables 7 none 2 := ⟨w_988, w_991, w_157, by decide +kernel, by decide +kernel, by decide⟩
theorem w_990 : Cond.instanceMethod yX7_cutTables ∈ TB := tp_4 124 (by decide +kernel) rfl
theorem w_18 : Cond.selects "LedgerFiles$Nodes" yX7_cutTables yX7_cutTables ∈ TB := tp_0 18 (by decide +kernel) rfl
theorem w_1004 : Cond.methodLink "LedgerFiles$Nodes" 99 yJ7_fill_eb02e ∈ TB := tp_4 138 (by decide +kernel) rfl
theorem cw_X7_99 : Cw RX7 99 yJ7_fill_eb02e cJ7_fill_eb02e 5 none 4 := ⟨w_1004, w_1006, w_151, by decide +kernel, by decide +kernel, by decide⟩
def d_X7_goes (N : Nat) (A : MS) (D : CfT) (a0 : Int32) : Option (MS × CfT) := bnd (d_X7_size N (vA A) D a0) (fun v35 => bnd (d_X7_blocksFor N (vA A) D v35) (fun v36 => bnd3 (d_X7_cutBlocks N A D a0 ((0 : Int32)) v36 ((0 : Int32))) (fun v37 A37 D37 => bnd2 (d_X7_cutTables N A37 D37 a0 ((0 : Int32))) (fun A38 D38 => bnd2 (owB N A38 D38 ((44 : Int32))) (fun A40 D40 => bnd (ldO N A40 (((44 : Int32)).toNatClampNeg) (((a0) - ((1 : Int32))) / ((8 : Int32)))) (fun v41 => bnd (stO N A40 (((44 : Int32)).toNatClampNeg) (((a0) - ((1 : Int32))) / ((8 : Int32))) (vp_nar .byte (((v41) &&& (((((1 : Int32)) <<< ((((a0) - ((1 : Int32))) - ((a0) - ((1 : Int32))) / ((8 : Int32)) * ((8 : Int32))) &&& 31)) ^^^ ((-1 : Int32)) : Int32).toInt8.toInt32) : Int32).toInt8.toInt32))) (fun A42 => bnd (d_X7_home N (vA A42) D40 a0) (fun v43 => bnd2 (owB N A42 D40 v43) (fun A45 D45 => bnd (d_X7_start N (vA A45) D45 a0) (fun v46 => bnd (d_X7_start N (vA A45) D45 a0) (fun v47 => bnd (frO N A45 v43.toNatClampNeg v46 ((v47) + ((32 : Int32))) ((0 : Int32))) (fun A48 => some (A48, D45)))))))))))))
set_option maxRecDepth 100000 in
set_option maxHeartbeats 4000000 in
theorem k_X7_goes (E : gE) (f : Nat → va_E) (N B gr : Nat) (C D : CfT) (A : MS) (hz : CfZ E N B gr) (h : CfV E f N B gr C) (hD : Dq D C) (hA : AR N B gr A C) (a0 : Int32) (A9 : MS) (D9 : CfT) (hr : d_X7_goes N A D a0 = some (A9, D9)) : Ct E 5 yX7_goes cX7_goes 2 none [.ref (gAd E (37)), .int (a0)] f (fun v g => v = none ∧ SN E N B gr f A9 D9 g, fun _ _ => False) := by
  obtain ⟨z1, z2, z3, z4, z5, z6, z7⟩ := id hz
  refine Ct.of (by decide) (Nat.le_of_ble_eq_true rfl) (fun sz => ?_)
  refine G.eql [(0, .ref (gAd E (37))), (1, .int (a0))] rfl ?_
  unfold d_X7_goes at hr
  refine G.go tv_X7_goes 5 5 [(0, .ref (gAd E (37))), (1, .int (a0))] [.int (a0), .ref (gAd E (37)), .int ((0 : Int32)), .int (a0), .ref (gAd E (37))] rfl ?_
  obtain ⟨v35, hv35, hr⟩ := bnd_s hr
  refine G.callV (37) [.int (a0)] [.int ((0 : Int32)), .int (a0), .ref (gAd E (37))] (k_X7_size E _ N B gr C D A hz h hD hA a0 v35 hv35) cls_X7 (by omega) (h.q37) cw_X7_86 w_941 w_942 (Nat.le_of_ble_eq_true rfl) rfl (Nat.le_of_ble_eq_true rfl) (tbd tv_X7_goes rfl) (fun v35w f35 q35 => ?_) (fun _ _ h => h.elim)
  obtain ⟨rfl, ha35, fa35⟩ := q35
  refine G.eqs [.int (v35), .int ((0 : Int32)), .int (a0), .ref (gAd E (37))] rfl ?_
  obtain ⟨v36, hv36, hr⟩ := bnd_s hr
  refine G.callS [.int (v35)] [.int ((0 : Int32)), .int (a0), .ref (gAd E (37))] (k_X7_blocksFor E _ N B gr C D A hz ha35 hD hA v35 v36 hv36) cw_X7_89 w_946 (Nat.le_of_ble_eq_true rfl) rfl (Nat.le_of_ble_eq_true rfl) (tbd tv_X7_goes rfl) (fun v36w f36 q36 => ?_) (fun _ _ h => h.elim)
  obtain ⟨rfl, ha36, fa36⟩ := q36
  refine G.eqs [.int (v36), .int ((0 : Int32)), .int (a0), .ref (gAd E (37))] rfl ?_
  refine G.go tv_X7_goes 1 12 [(0, .ref (gAd E (37))), (1, .int (a0))] [.int ((0 : Int32)), .int (v36), .int ((0 : Int32)), .int (a0), .ref (gAd E (37))] rfl ?_
  obtain ⟨v37, A37, D37, hv37, hr⟩ := bnd3_s hr
  refine G.callV (37) [.int (a0), .int ((0 : Int32)), .int (v36), .int ((0 : Int32))] [] (k_X7_cutBlocks E _ N B gr C D A hz ha36 hD hA a0 ((0 : Int32)) v36 ((0 : Int32)) v37 A37 D37 hv37) cls_X7 (by omega) (ha36.q37) cw_X7_92 w_949 w_950 (Nat.le_of_ble_eq_true rfl) rfl (Nat.le_of_ble_eq_true rfl) (tbd tv_X7_goes rfl) (fun v37w f37 q37 => ?_) (fun _ _ h => h.elim)
  obtain ⟨rfl, C37, ha37, hD37, hA37, fa37⟩ := q37
  refine G.eqs [.int (v37)] rfl ?_
  refine G.go tv_X7_goes 4 19 [(0, .ref (gAd E (37))), (1, .int (a0))] [.int ((0 : Int32)), .int (a0), .ref (gAd E (37))] rfl ?_
  obtain ⟨A38, D38, hv38, hr⟩ := bnd2_s hr
  refine G.callV (37) [.int (a0), .int ((0 : Int32))] [] (k_X7_cutTables E _ N B gr C37 D37 A37 hz ha37 hD37 hA37 a0 ((0 : Int32)) A38 D38 hv38) cls_X7 (by omega) (ha37.q37) cw_X7_96 w_990 w_18 (Nat.le_of_ble_eq_true rfl) rfl (Nat.le_of_ble_eq_true rfl) (tbd tv_X7_goes rfl) (fun v38w f38 q38 => ?_) (fun _ _ h => h.elim)
  obtain ⟨rfl, C38, ha38, hD38, hA38, fa38⟩ := q38
  refine G.eqs [] rfl ?_
  refine G.go tv_X7_goes 1 23 [(0, .ref (gAd E (37))), (1, .int (a0))] [.ref (gAd E (37))] rfl ?_
  refine G.getf cls_X7 (37) 0 (by omega) (ha38.q37) (by decide) rfl (tbd tv_X7_goes rfl) w_478 ?_
  refine G.go tv_X7_goes 1 28 [(0, .ref (gAd E (37))), (1, .int (a0))] [.int ((44 : Int32)), .ref (gAd E (25))] rfl ?_
  obtain ⟨A40, D40, hv40, hr⟩ := bnd2_s hr
  refine G.callV (25) [.int ((44 : Int32))] [] (k_own E _ N B gr C38 D38 A38 hz ha38 hD38 hA38 _ _ _ hv40) cls_X10 (by omega) (ha38.q25) cw_X7_52 w_975 w_976 (Nat.le_of_ble_eq_true rfl) rfl (Nat.le_of_ble_eq_true rfl) (tbd tv_X7_goes rfl) (fun v40w f40 q40 => ?_) (fun _ _ h => h.elim)
  obtain ⟨rfl, C40, ha40, hD40, hA40, fa40⟩ := q40
  refine G.eqs [.ref (gAd E (350 + N + (((44 : Int32)).toNatClampNeg)))] rfl ?_
  refine G.go tv_X7_goes 4 36 [(0, .ref (gAd E (37))), (1, .int (a0))] [.int ((8 : Int32)), .int ((a0) - ((1 : Int32))), .ref (gAd E (350 + N + (((44 : Int32)).toNatClampNeg)))] rfl ?_
  refine G.idiv (by decide) (tbd tv_X7_goes rfl) ?_
  refine G.go tv_X7_goes 1 38 [(0, .ref (gAd E (37))), (1, .int (a0))] [.int (((a0) - ((1 : Int32))) / ((8 : Int32))), .ref (gAd E (350 + N + (((44 : Int32)).toNatClampNeg))), .int (((a0) - ((1 : Int32))) / ((8 : Int32))), .ref (gAd E (350 + N + (((44 : Int32)).toNatClampNeg)))] rfl ?_
  obtain ⟨v41, hv41, hr⟩ := bnd_s hr
  refine G.owld hz ha40 hA40 hv41 (tbd tv_X7_goes rfl) ?_
  refine G.go tv_X7_goes 5 45 [(0, .ref (gAd E (37))), (1, .int (a0))] [.int ((8 : Int32)), .int ((a0) - ((1 : Int32))), .int ((1 : Int32)), .int (v41), .int (((a0) - ((1 : Int32))) / ((8 : Int32))), .ref (gAd E (350 + N + (((44 : Int32)).toNatClampNeg)))] rfl ?_
  refine G.irem (by decide) (tbd tv_X7_goes rfl) ?_
  refine G.go tv_X7_goes 6 52 [(0, .ref (gAd E (37))), (1, .int (a0))] [.int (((v41) &&& (((((1 : Int32)) <<< ((((a0) - ((1 : Int32))) - ((a0) - ((1 : Int32))) / ((8 : Int32)) * ((8 : Int32))) &&& 31)) ^^^ ((-1 : Int32)) : Int32).toInt8.toInt32) : Int32).toInt8.toInt32), .int (((a0) - ((1 : Int32))) / ((8 : Int32))), .ref (gAd E (350 + N + (((44 : Int32)).toNatClampNeg)))] rfl ?_
  obtain ⟨A42, hv42, hr⟩ := bnd_s hr
  refine G.owst hz ha40 hD40 hA40 (((((Fr.rf.tr fa35 (fun _ h => h)).tr fa36 (fun _ h => h)).tr fa37 (fun _ h => h)).tr fa38 (fun _ h => h)).tr fa40 (fun _ h => h)) hv42 (tbd tv_X7_goes rfl) (fun u42 p42 => ?_)
  obtain ⟨C42, h42, hD42, hA42, k42⟩ := p42
  refine G.go tv_X7_goes 1 54 [(0, .ref (gAd E (37))), (1, .int (a0))] [.ref (gAd E (37))] rfl ?_
  refine G.getf cls_X7 (37) 0 (by omega) (h42.q37) (by decide) rfl (tbd tv_X7_goes rfl) w_478 ?_
  refine G.go tv_X7_goes 1 58 [(0, .ref (gAd E (37))), (1, .int (a0))] [.int (a0), .ref (gAd E (25))] rfl ?_
  obtain ⟨v43, hv43, hr⟩ := bnd_s hr
  refine G.callS [.int (a0)] [.ref (gAd E (25))] (k_X7_home E _ N B gr C42 D40 A42 hz h42 hD42 hA42 a0 v43 hv43) cw_X7_30 w_907 (Nat.le_of_ble_eq_true rfl) rfl (Nat.le_of_ble_eq_true rfl) (tbd tv_X7_goes rfl) (fun v43w f43 q43 => ?_) (fun _ _ h => h.elim)
  obtain ⟨rfl, ha43, fa43⟩ := q43
  refine G.eqs [.int (v43), .ref (gAd E (25))] rfl ?_
  obtain ⟨A45, D45, hv45, hr⟩ := bnd2_s hr
  refine G.callV (25) [.int (v43)] [] (k_own E _ N B gr C42 D40 A42 hz ha43 hD42 hA42 _ _ _ hv45) cls_X10 (by omega) (ha43.q25) cw_X7_52 w_975 w_976 (Nat.le_of_ble_eq_true rfl) rfl (Nat.le_of_ble_eq_true rfl) (tbd tv_X7_goes rfl) (fun v45w f45 q45 => ?_) (fun _ _ h => h.elim)
  obtain ⟨rfl, C45, ha45, hD45, hA45, fa45⟩ := q45
  refine G.eqs [.ref (gAd E (350 + N + v43.toNatClampNeg))] rfl ?_
  refine G.go tv_X7_goes 1 65 [(0, .ref (gAd E (37))), (1, .int (a0))] [.int (a0), .ref (gAd E (350 + N + v43.toNatClampNeg))] rfl ?_
  obtain ⟨v46, hv46, hr⟩ := bnd_s hr
  refine G.callS [.int (a0)] [.ref (gAd E (350 + N + v43.toNatClampNeg))] (k_X7_start E _ N B gr C45 D45 A45 hz ha45 hD45 hA45 a0 v46 hv46) cw_X7_40 w_922 (Nat.le_of_ble_eq_true rfl) rfl (Nat.le_of_ble_eq_true rfl) (tbd tv_X7_goes rfl) (fun v46w f46 q46 => ?_) (fun _ _ h => h.elim)
  obtain ⟨rfl, ha46, fa46⟩ := q46
  refine G.eqs [.int (v46), .ref (gAd E (350 + N + v43.toNatClampNeg))] rfl ?_
  refine G.go tv_X7_goes 1 69 [(0, .ref (gAd E (37))), (1, .int (a0))] [.int (a0), .int (v46), .ref (gAd E (350 + N + v43.toNatClampNeg))] rfl ?_
  obtain ⟨v47, hv47, hr⟩ := bnd_s hr
  refine G.callS [.int (a0)] [.int (v46), .ref (gAd E (350 + N + v43.toNatClampNeg))] (k_X7_start E _ N B gr C45 D45 A45 hz ha46 hD45 hA45 a0 v47 hv47) cw_X7_40 w_922 (Nat.le_of_ble_eq_true rfl) rfl (Nat.le_of_ble_eq_true rfl) (tbd tv_X7_goes rfl) (fun v47w f47 q47 => ?_) (fun _ _ h => h.elim)
  obtain ⟨rfl, ha47, fa47⟩ := q47
  refine G.eqs [.int (v47), .int (v46), .ref (gAd E (350 + N + v43.toNatClampNeg))] rfl ?_
  refine G.go tv_X7_goes 3 76 [(0, .ref (gAd E (37))), (1, .int (a0))] [.int ((0 : Int32)), .int ((v47) + ((32 : Int32))), .int (v46), .ref (gAd E (350 + N + v43.toNatClampNeg))] rfl ?_
  obtain ⟨A48, hv48, hr⟩ := bnd_s hr
  refine G.callS [.ref (gAd E (350 + N + v43.toNatClampNeg)), .int (v46), .int ((v47) + ((32 : Int32))), .int ((0 : Int32))] [] (k_frO E _ N B gr C45 D45 A45 hz ha47 hD45 hA45 v43.toNatClampNeg v46 ((v47) + ((32 : Int32))) ((0 : Int32)) _ hv48) cw_X7_99 w_1005 (Nat.le_of_ble_eq_true rfl) rfl (Nat.le_of_ble_eq_true rfl) (tbd tv_X7_goes rfl) (fun v48w f48 q48 => ?_) (fun _ _ h => h.elim)
  obtain ⟨rfl, C48, ha48, hD48, hA48, fa48⟩ := q48
  refine G.eqs [] rfl ?_
  cases hr
  exact G.vret rfl ⟨rfl, C48, ha48, hD48, hA48, (((((k42.tr fa43 (fun _ h => h)).tr fa45 (fun _ h => h)).tr fa46 (fun _ h => h)).tr fa47 (fun _ h => h)).tr fa48 (fun _ h => h))⟩ (tbd tv_X7_goes rfl)
def tb_X7_loseName : List (Nat × Instr × Nat) := [(0, .aload_n 0, 1), (1, .iload_n 1, 1), (2, .aload_n 0, 1), (3, .iload_n 1, 1), (4, .invokevirtual 62, 3), (7, .iconst 1, 1), (8, .isub, 1), (9, .invokevirtual 73, 3), (12, .aload_n 0, 1), (13, .iload_n 1, 1), (14, .invokevirtual 62, 3), (17, .ifCond .ne 19, 3), (20, .aload_n 0, 1), (21, .getfield 26, 3), (24, .iload_n 1, 1), (25, .invokevirtual 77, 3), (28, .ifCond .ne 8, 3), (31, .aload_n 0, 1), (32, .iload_n 1, 1), (33, .invokevirtual 82, 3), (36, .return_, 1)]
theorem tv_X7_loseName : Tv cX7_loseName tb_X7_loseName := by
  unfold Tv
  decide +kernel
theorem w_1489 : Cond.methodLink "LedgerFiles$Nodes" 77 yX5_times ∈ TB := tp_6 143 (by decide +kernel) rfl
theorem cw_X7_77 : Cw RX7 77 yX5_times cX5_times 2 (some .int) 1 := ⟨w_1489, w_931, w_156, by decide +kernel, by decide +kernel, by decide⟩
theorem w_1490 : Cond.methodLink "LedgerFiles$Nodes" 82 yX7_goes ∈ TB := tp_6 144 (by decide +kernel) rfl
theorem w_939 : Cond.code yX7_goes prog_9_method_22_code 2 none ∈ TB := tp_4 73 rfl rfl
theorem cw_X7_82 : Cw RX7 82 yX7_goes cX7_goes 2 none 1 := ⟨w_1490, w_939, w_157, by decide +kernel, by decide +kernel, by decide⟩
theorem w_937 : Cond.instanceMethod yX7_goes ∈ TB := tp_4 71 (by decide +kernel) rfl
theorem w_938 : Cond.selects "LedgerFiles$Nodes" yX7_goes yX7_goes ∈ TB := tp_4 72 (by decide +kernel) rfl
def d_X7_loseName (N : Nat) (A : MS) (D : CfT) (a0 : Int32) : Option (MS × CfT) := bnd (d_X7_links N (vA A) D a0) (fun v49 => bnd2 (d_X7_setLinks N A D a0 ((v49) - ((1 : Int32)))) (fun A50 D50 => bnd (d_X7_links N (vA A50) D50 a0) (fun v51 => if v51 = 0 then bnd (d_X5_times N (vA A50) D50 a0) (fun v52 => if v52 = 0 then bnd2 (d_X7_goes N A50 D50 a0) (fun A53 D53 => some (A53, D53)) else some (A50, D50)) else some (A50, D50))))
set_option maxRecDepth 100000 in
set_option maxHeartbeats 4000000 in
theorem k_X7_loseName (E : gE) (f : Nat → va_E) (N B gr : Nat) (C D : CfT) (A : MS) (hz : CfZ E N B gr) (h : CfV E f N B gr C) (hD : Dq D C) (hA : AR N B gr A C) (a0 : Int32) (A9 : MS) (D9 : CfT) (hr : d_X7_loseName N A D a0 = some (A9, D9)) : Ct E 6 yX7_loseName cX7_loseName 2 none [.ref (gAd E (37)), .int (a0)] f (fun v g => v = none ∧ SN E N B gr f A9 D9 g, fun _ _ => False) := by
  obtain ⟨z1, z2, z3, z4, z5, z6, z7⟩ := id hz
  refine Ct.of (by decide) (Nat.le_of_ble_eq_true rfl) (fun sz => ?_)
  refine G.eql [(0, .ref (gAd E (37))), (1, .int (a0))] rfl ?_
  unfold d_X7_loseName at hr
  refine G.go tv_X7_loseName 4 4 [(0, .ref (gAd E (37))), (1, .int (a0))] [.int (a0), .ref (gAd E (37)), .int (a0), .ref (gAd E (37))] rfl ?_
  obtain ⟨v49, hv49, hr⟩ := bnd_s hr
  refine G.callV (37) [.int (a0)] [.int (a0), .ref (gAd E (37))] (k_X7_links E _ N B gr C D A hz h hD hA a0 v49 hv49) cls_X7 (by omega) (h.q37) cw_X7_62 w_925 w_926 (Nat.le_of_ble_eq_true rfl) rfl (Nat.le_of_ble_eq_true rfl) (tbd tv_X7_loseName rfl) (fun v49w f49 q49 => ?_) (fun _ _ h => h.elim)
  obtain ⟨rfl, ha49, fa49⟩ := q49
  refine G.eqs [.int (v49), .int (a0), .ref (gAd E (37))] rfl ?_
  refine G.go tv_X7_loseName 2 9 [(0, .ref (gAd E (37))), (1, .int (a0))] [.int ((v49) - ((1 : Int32))), .int (a0), .ref (gAd E (37))] rfl ?_
  obtain ⟨A50, D50, hv50, hr⟩ := bnd2_s hr
  refine G.callV (37) [.int (a0), .int ((v49) - ((1 : Int32)))] [] (k_X7_setLinks E _ N B gr C D A hz ha49 hD hA a0 ((v49) - ((1 : Int32))) A50 D50 hv50) cls_X7 (by omega) (ha49.q37) cw_X7_73 w_1432 w_1433 (Nat.le_of_ble_eq_true rfl) rfl (Nat.le_of_ble_eq_true rfl) (tbd tv_X7_loseName rfl) (fun v50w f50 q50 => ?_) (fun _ _ h => h.elim)
  obtain ⟨rfl, C50, ha50, hD50, hA50, fa50⟩ := q50
  refine G.eqs [] rfl ?_
  refine G.go tv_X7_loseName 2 14 [(0, .ref (gAd E (37))), (1, .int (a0))] [.int (a0), .ref (gAd E (37))] rfl ?_
  obtain ⟨v51, hv51, hr⟩ := bnd_s hr
  refine G.callV (37) [.int (a0)] [] (k_X7_links E _ N B gr C50 D50 A50 hz ha50 hD50 hA50 a0 v51 hv51) cls_X7 (by omega) (ha50.q37) cw_X7_62 w_925 w_926 (Nat.le_of_ble_eq_true rfl) rfl (Nat.le_of_ble_eq_true rfl) (tbd tv_X7_loseName rfl) (fun v51w f51 q51 => ?_) (fun _ _ h => h.elim)
  obtain ⟨rfl, ha51, fa51⟩ := q51
  refine G.eqs [.int (v51)] rfl ?_
  refine G.if_ne 36 (tbd tv_X7_loseName rfl) (by decide) (fun c17 => ?_) (fun c17 => ?_)
  · replace hr := ite_f c17 hr
    cases hr
    exact G.vret rfl ⟨rfl, C50, ha51, hD50, hA50, (((Fr.rf.tr fa49 (fun _ h => h)).tr fa50 (fun _ h => h)).tr fa51 (fun _ h => h))⟩ (tbd tv_X7_loseName rfl)
  · replace hr := ite_t c17 hr
    refine G.go tv_X7_loseName 1 21 [(0, .ref (gAd E (37))), (1, .int (a0))] [.ref (gAd E (37))] rfl ?_
    refine G.getf cls_X7 (37) 2 (by omega) (ha51.q37) (by decide) rfl (tbd tv_X7_loseName rfl) w_480 ?_
    refine G.go tv_X7_loseName 1 25 [(0, .ref (gAd E (37))), (1, .int (a0))] [.int (a0), .ref (gAd E (32))] rfl ?_
    obtain ⟨v52, hv52, hr⟩ := bnd_s hr
    refine G.callV (32) [.int (a0)] [] (k_X5_times E _ N B gr C50 D50 A50 hz ha51 hD50 hA50 a0 v52 hv52) cls_X5 (by omega) (ha51.q32) cw_X7_77 w_929 w_930 (Nat.le_of_ble_eq_true rfl) rfl (Nat.le_of_ble_eq_true rfl) (tbd tv_X7_loseName rfl) (fun v52w f52 q52 => ?_) (fun _ _ h => h.elim)
    obtain ⟨rfl, ha52, fa52⟩ := q52
    refine G.eqs [.int (v52)] rfl ?_
    refine G.if_ne 36 (tbd tv_X7_loseName rfl) (by decide) (fun c28 => ?_) (fun c28 => ?_)
    · replace hr := ite_f c28 hr
      cases hr
      exact G.vret rfl ⟨rfl, C50, ha52, hD50, hA50, ((((Fr.rf.tr fa49 (fun _ h => h)).tr fa50 (fun _ h => h)).tr fa51 (fun _ h => h)).tr fa52 (fun _ h => h))⟩ (tbd tv_X7_loseName rfl)
    · replace hr := ite_t c28 hr
      refine G.go tv_X7_loseName 2 33 [(0, .ref (gAd E (37))), (1, .int (a0))] [.int (a0), .ref (gAd E (37))] rfl ?_
      obtain ⟨A53, D53, hv53, hr⟩ := bnd2_s hr
      refine G.callV (37) [.int (a0)] [] (k_X7_goes E _ N B gr C50 D50 A50 hz ha52 hD50 hA50 a0 A53 D53 hv53) cls_X7 (by omega) (ha52.q37) cw_X7_82 w_937 w_938 (Nat.le_of_ble_eq_true rfl) rfl (Nat.le_of_ble_eq_true rfl) (tbd tv_X7_loseName rfl) (fun v53w f53 q53 => ?_) (fun _ _ h => h.elim)
      obtain ⟨rfl, C53, ha53, hD53, hA53, fa53⟩ := q53
      refine G.eqs [] rfl ?_
      cases hr
      exact G.vret rfl ⟨rfl, C53, ha53, hD53, hA53, (((((Fr.rf.tr fa49 (fun _ h => h)).tr fa50 (fun _ h => h)).tr fa51 (fun _ h => h)).tr fa52 (fun _ h => h)).tr fa53 (fun _ h => h))⟩ (tbd tv_X7_loseName rfl)
def tb_X7_resize : List (Nat × Instr × Nat) := [(0, .aload_n 0, 1), (1, .iload_n 1, 1), (2, .invokevirtual 86, 3), (5, .istore_n 3, 1), (6, .iload_n 2, 1), (7, .invokestatic 89, 3), (10, .istore 4, 2), (12, .iload_n 2, 1), (13, .iload_n 3, 1), (14, .if_icmp .ge 24, 3), (17, .aload_n 0, 1), (18, .iload_n 1, 1), (19, .iload 4, 2), (21, .iload_n 3, 1), (22, .invokestatic 89, 3), (25, .iload 4, 2), (27, .invokevirtual 92, 3), (30, .pop, 1), (31, .aload_n 0, 1), (32, .iload_n 1, 1), (33, .iload 4, 2), (35, .invokevirtual 96, 3), (38, .iload_n 2, 1), (39, .iload_n 3, 1), (40, .if_icmp .eq 9, 3), (43, .aload_n 0, 1), (44, .iload_n 1, 1), (45, .iload_n 2, 1), (46, .invokevirtual 174, 3), (49, .return_, 1)]
theorem tv_X7_resize : Tv cX7_resize tb_X7_resize := by
  unfold Tv
  decide +kernel
theorem w_1639 : Cond.methodLink "LedgerFiles$Nodes" 174 yX7_setSize ∈ TB := tp_7 53 (by decide +kernel) rfl
theorem w_1456 : Cond.code yX7_setSize prog_9_method_13_code 3 none ∈ TB := tp_6 110 rfl rfl
theorem cw_X7_174 : Cw RX7 174 yX7_setSize cX7_setSize 3 none 2 := ⟨w_1639, w_1456, w_157, by decide +kernel, by decide +kernel, by decide⟩
theorem w_1454 : Cond.instanceMethod yX7_setSize ∈ TB := tp_6 108 (by decide +kernel) rfl
theorem w_1455 : Cond.selects "LedgerFiles$Nodes" yX7_setSize yX7_setSize ∈ TB := tp_6 109 (by decide +kernel) rfl
def d_X7_resize (N : Nat) (A : MS) (D : CfT) (a0 : Int32) (a1 : Int32) : Option (MS × CfT) := bnd (d_X7_size N (vA A) D a0) (fun v54 => bnd (d_X7_blocksFor N (vA A) D a1) (fun v55 => if v54 ≤ a1 then if a1 = v54 then some (A, D) else bnd2 (d_X7_setSize N A D a0 a1) (fun A56 D56 => some (A56, D56)) else bnd (d_X7_blocksFor N (vA A) D v54) (fun v57 => bnd3 (d_X7_cutBlocks N A D a0 v55 v57 v55) (fun v58 A58 D58 => bnd2 (d_X7_cutTables N A58 D58 a0 v55) (fun A59 D59 => if a1 = v54 then some (A59, D59) else bnd2 (d_X7_setSize N A59 D59 a0 a1) (fun A60 D60 => some (A60, D60)))))))
set_option maxRecDepth 100000 in
set_option maxHeartbeats 4000000 in
theorem k_X7_resize (E : gE) (f : Nat → va_E) (N B gr : Nat) (C D : CfT) (A : MS) (hz : CfZ E N B gr) (h : CfV E f N B gr C) (hD : Dq D C) (hA : AR N B gr A C) (a0 : Int32) (a1 : Int32) (A9 : MS) (D9 : CfT) (hr : d_X7_resize N A D a0 a1 = some (A9, D9)) : Ct E 5 yX7_resize cX7_resize 5 none [.ref (gAd E (37)), .int (a0), .int (a1)] f (fun v g => v = none ∧ SN E N B gr f A9 D9 g, fun _ _ => False) := by
  obtain ⟨z1, z2, z3, z4, z5, z6, z7⟩ := id hz
  refine Ct.of (by decide) (Nat.le_of_ble_eq_true rfl) (fun sz => ?_)
  refine G.eql [(0, .ref (gAd E (37))), (1, .int (a0)), (2, .int (a1))] rfl ?_
  unfold d_X7_resize at hr
  refine G.go tv_X7_resize 2 2 [(0, .ref (gAd E (37))), (1, .int (a0)), (2, .int (a1))] [.int (a0), .ref (gAd E (37))] rfl ?_
  obtain ⟨v54, hv54, hr⟩ := bnd_s hr
  refine G.callV (37) [.int (a0)] [] (k_X7_size E _ N B gr C D A hz h hD hA a0 v54 hv54) cls_X7 (by omega) (h.q37) cw_X7_86 w_941 w_942 (Nat.le_of_ble_eq_true rfl) rfl (Nat.le_of_ble_eq_true rfl) (tbd tv_X7_resize rfl) (fun v54w f54 q54 => ?_) (fun _ _ h => h.elim)
  obtain ⟨rfl, ha54, fa54⟩ := q54
  refine G.eqs [.int (v54)] rfl ?_
  refine G.go tv_X7_resize 2 7 [(0, .ref (gAd E (37))), (1, .int (a0)), (2, .int (a1)), (3, .int (v54))] [.int (a1)] rfl ?_
  obtain ⟨v55, hv55, hr⟩ := bnd_s hr
  refine G.callS [.int (a1)] [] (k_X7_blocksFor E _ N B gr C D A hz ha54 hD hA a1 v55 hv55) cw_X7_89 w_946 (Nat.le_of_ble_eq_true rfl) rfl (Nat.le_of_ble_eq_true rfl) (tbd tv_X7_resize rfl) (fun v55w f55 q55 => ?_) (fun _ _ h => h.elim)
  obtain ⟨rfl, ha55, fa55⟩ := q55
  refine G.eqs [.int (v55)] rfl ?_
  refine G.go tv_X7_resize 3 14 [(0, .ref (gAd E (37))), (1, .int (a0)), (2, .int (a1)), (3, .int (v54)), (4, .int (v55))] [.int (v54), .int (a1)] rfl ?_
  refine G.cmp_ge 38 (tbd tv_X7_resize rfl) (by decide) (fun c14 => ?_) (fun c14 => ?_)
  · replace hr := ite_t c14 hr
    refine G.go tv_X7_resize 2 40 [(0, .ref (gAd E (37))), (1, .int (a0)), (2, .int (a1)), (3, .int (v54)), (4, .int (v55))] [.int (v54), .int (a1)] rfl ?_
    refine G.cmp_eq 49 (tbd tv_X7_resize rfl) (by decide) (fun c40 => ?_) (fun c40 => ?_)
    · replace hr := ite_t c40 hr
      cases hr
      exact G.vret rfl ⟨rfl, C, ha55, hD, hA, ((Fr.rf.tr fa54 (fun _ h => h)).tr fa55 (fun _ h => h))⟩ (tbd tv_X7_resize rfl)
    · replace hr := ite_f c40 hr
      refine G.go tv_X7_resize 3 46 [(0, .ref (gAd E (37))), (1, .int (a0)), (2, .int (a1)), (3, .int (v54)), (4, .int (v55))] [.int (a1), .int (a0), .ref (gAd E (37))] rfl ?_
      obtain ⟨A56, D56, hv56, hr⟩ := bnd2_s hr
      refine G.callV (37) [.int (a0), .int (a1)] [] (k_X7_setSize E _ N B gr C D A hz ha55 hD hA a0 a1 A56 D56 hv56) cls_X7 (by omega) (ha55.q37) cw_X7_174 w_1454 w_1455 (Nat.le_of_ble_eq_true rfl) rfl (Nat.le_of_ble_eq_true rfl) (tbd tv_X7_resize rfl) (fun v56w f56 q56 => ?_) (fun _ _ h => h.elim)
      obtain ⟨rfl, C56, ha56, hD56, hA56, fa56⟩ := q56
      refine G.eqs [] rfl ?_
      cases hr
      exact G.vret rfl ⟨rfl, C56, ha56, hD56, hA56, (((Fr.rf.tr fa54 (fun _ h => h)).tr fa55 (fun _ h => h)).tr fa56 (fun _ h => h))⟩ (tbd tv_X7_resize rfl)
  · replace hr := ite_f c14 hr
    refine G.go tv_X7_resize 4 22 [(0, .ref (gAd E (37))), (1, .int (a0)), (2, .int (a1)), (3, .int (v54)), (4, .int (v55))] [.int (v54), .int (v55), .int (a0), .ref (gAd E (37))] rfl ?_
    obtain ⟨v57, hv57, hr⟩ := bnd_s hr
    refine G.callS [.int (v54)] [.int (v55), .int (a0), .ref (gAd E (37))] (k_X7_blocksFor E _ N B gr C D A hz ha55 hD hA v54 v57 hv57) cw_X7_89 w_946 (Nat.le_of_ble_eq_true rfl) rfl (Nat.le_of_ble_eq_true rfl) (tbd tv_X7_resize rfl) (fun v57w f57 q57 => ?_) (fun _ _ h => h.elim)
    obtain ⟨rfl, ha57, fa57⟩ := q57
    refine G.eqs [.int (v57), .int (v55), .int (a0), .ref (gAd E (37))] rfl ?_
    refine G.go tv_X7_resize 1 27 [(0, .ref (gAd E (37))), (1, .int (a0)), (2, .int (a1)), (3, .int (v54)), (4, .int (v55))] [.int (v55), .int (v57), .int (v55), .int (a0), .ref (gAd E (37))] rfl ?_
    obtain ⟨v58, A58, D58, hv58, hr⟩ := bnd3_s hr
    refine G.callV (37) [.int (a0), .int (v55), .int (v57), .int (v55)] [] (k_X7_cutBlocks E _ N B gr C D A hz ha57 hD hA a0 v55 v57 v55 v58 A58 D58 hv58) cls_X7 (by omega) (ha57.q37) cw_X7_92 w_949 w_950 (Nat.le_of_ble_eq_true rfl) rfl (Nat.le_of_ble_eq_true rfl) (tbd tv_X7_resize rfl) (fun v58w f58 q58 => ?_) (fun _ _ h => h.elim)
    obtain ⟨rfl, C58, ha58, hD58, hA58, fa58⟩ := q58
    refine G.eqs [.int (v58)] rfl ?_
    refine G.go tv_X7_resize 4 35 [(0, .ref (gAd E (37))), (1, .int (a0)), (2, .int (a1)), (3, .int (v54)), (4, .int (v55))] [.int (v55), .int (a0), .ref (gAd E (37))] rfl ?_
    obtain ⟨A59, D59, hv59, hr⟩ := bnd2_s hr
    refine G.callV (37) [.int (a0), .int (v55)] [] (k_X7_cutTables E _ N B gr C58 D58 A58 hz ha58 hD58 hA58 a0 v55 A59 D59 hv59) cls_X7 (by omega) (ha58.q37) cw_X7_96 w_990 w_18 (Nat.le_of_ble_eq_true rfl) rfl (Nat.le_of_ble_eq_true rfl) (tbd tv_X7_resize rfl) (fun v59w f59 q59 => ?_) (fun _ _ h => h.elim)
    obtain ⟨rfl, C59, ha59, hD59, hA59, fa59⟩ := q59
    refine G.eqs [] rfl ?_
    refine G.go tv_X7_resize 2 40 [(0, .ref (gAd E (37))), (1, .int (a0)), (2, .int (a1)), (3, .int (v54)), (4, .int (v55))] [.int (v54), .int (a1)] rfl ?_
    refine G.cmp_eq 49 (tbd tv_X7_resize rfl) (by decide) (fun c40 => ?_) (fun c40 => ?_)
    · replace hr := ite_t c40 hr
      cases hr
      exact G.vret rfl ⟨rfl, C59, ha59, hD59, hA59, (((((Fr.rf.tr fa54 (fun _ h => h)).tr fa55 (fun _ h => h)).tr fa57 (fun _ h => h)).tr fa58 (fun _ h => h)).tr fa59 (fun _ h => h))⟩ (tbd tv_X7_resize rfl)
    · replace hr := ite_f c40 hr
      refine G.go tv_X7_resize 3 46 [(0, .ref (gAd E (37))), (1, .int (a0)), (2, .int (a1)), (3, .int (v54)), (4, .int (v55))] [.int (a1), .int (a0), .ref (gAd E (37))] rfl ?_
      obtain ⟨A60, D60, hv60, hr⟩ := bnd2_s hr
      refine G.callV (37) [.int (a0), .int (a1)] [] (k_X7_setSize E _ N B gr C59 D59 A59 hz ha59 hD59 hA59 a0 a1 A60 D60 hv60) cls_X7 (by omega) (ha59.q37) cw_X7_174 w_1454 w_1455 (Nat.le_of_ble_eq_true rfl) rfl (Nat.le_of_ble_eq_true rfl) (tbd tv_X7_resize rfl) (fun v60w f60 q60 => ?_) (fun _ _ h => h.elim)
      obtain ⟨rfl, C60, ha60, hD60, hA60, fa60⟩ := q60
      refine G.eqs [] rfl ?_
      cases hr
      exact G.vret rfl ⟨rfl, C60, ha60, hD60, hA60, ((((((Fr.rf.tr fa54 (fun _ h => h)).tr fa55 (fun _ h => h)).tr fa57 (fun _ h => h)).tr fa58 (fun _ h => h)).tr fa59 (fun _ h => h)).tr fa60 (fun _ h => h))⟩ (tbd tv_X7_resize rfl)
