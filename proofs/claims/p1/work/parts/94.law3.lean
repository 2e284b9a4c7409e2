section GLX
def tb_law_mark : List (Nat × Instr × Nat) := [(1038, .aload_n 1, 1), (1039, .aload_n 0, 1), (1040, .iload 4, 2), (1042, .iconst 1, 1), (1043, .iadd, 1), (1044, .iaload, 1), (1045, .aload_n 0, 1), (1046, .iload 4, 2), (1048, .iconst 2, 1), (1049, .iadd, 1), (1050, .iaload, 1), (1051, .aload_n 3, 1), (1052, .invokestatic 224, 3), (1055, .istore 5, 2), (1057, .aload_n 2, 1), (1058, .aload_n 0, 1), (1059, .iload 4, 2), (1061, .iconst 1, 1), (1062, .iadd, 1), (1063, .iaload, 1), (1064, .aload_n 0, 1), (1065, .iload 4, 2), (1067, .iconst 2, 1), (1068, .iadd, 1), (1069, .iaload, 1), (1070, .invokevirtual 226, 3), (1073, .istore 6, 2), (1075, .aload_n 2, 1), (1076, .invokevirtual 181, 3), (1079, .iload 5, 2), (1081, .if_icmp .eq 5, 3), (1084, .iconst 0, 1), (1085, .ireturn, 1), (1086, .iload 5, 2), (1088, .ifCond .ne 15, 3), (1091, .aload_n 3, 1), (1092, .iconst 0, 1), (1093, .laload, 1), (1094, .iload 6, 2), (1096, .i2l, 1), (1097, .lcmp, 1), (1098, .ifCond .eq 5, 3), (1101, .iconst 0, 1), (1102, .ireturn, 1), (1103, .goto 1701, 3)]
theorem tv_law_mark : Tv code tb_law_mark := by
  unfold Tv
  decide +kernel
theorem w_2671 : Cond.methodLink "LedgerFilesLaw" 226 yX12_mark ∈ TB := tp_11 125 (by decide +kernel) rfl
theorem w_2674 : Cond.code yX12_mark prog_14_method_109_code 3 (some .int) ∈ TB := tp_11 128 rfl rfl
theorem cw_L_226 : Cw RL 226 yX12_mark cX12_mark 3 (some .int) 2 := ⟨w_2671, w_2674, w_161, by decide +kernel, by decide +kernel, by decide⟩
theorem w_2672 : Cond.instanceMethod yX12_mark ∈ TB := tp_11 126 (by decide +kernel) rfl
theorem w_2673 : Cond.selects "LedgerFilesModel" yX12_mark yX12_mark ∈ TB := tp_11 127 (by decide +kernel) rfl
set_option maxRecDepth 100000 in
set_option maxHeartbeats 4000000 in
theorem lt_mark (E : gE) (f : Nat → va_E) (hE : 94 ≤ gN E) (b L : Nat) (xs : Nat → Int32) (cu su h sz i : Nat) (hi : i + 5 < L) (hL2 : L < 2 ^ 31) (hcu : cu + 2 ≤ room_1.cells) (hsu : su + 12 ≤ room_1.slots) (Inv : (Nat → va_E) → Prop) (k : Int32) (H : PmI E yX12_mark cX12_mark 3 [.int (xs (i + 1)), .int (xs (i + 2))] f k Inv) (kk : ∀ g, Inv g → G E (lwK h sz) code (gL b L xs (cu + 1) (su + 6)) 2804 [(0, .ref (b)), (1, .ref (gAd E (0))), (2, .ref (gAd E (56))), (3, .ref (gAd E (93))), (4, .int (nI i))] [] g) : G E (lwK h sz) code (gL b L xs (cu + 1) (su + 6)) 1055 [(0, .ref (b)), (1, .ref (gAd E (0))), (2, .ref (gAd E (56))), (3, .ref (gAd E (93))), (4, .int (nI i))] [.int k] f := by
  obtain ⟨hc, Q, hM, hh, ⟨fs, h56⟩, hno, hq⟩ := H
  refine G.go tv_law_mark 6 1063 [(0, .ref (b)), (1, .ref (gAd E (0))), (2, .ref (gAd E (56))), (3, .ref (gAd E (93))), (4, .int (nI i)), (5, .int (k))] [.int ((nI i) + ((1 : Int32))), .ref (b), .ref (gAd E (56))] rfl ?_
  refine G.eqs [.int (nI (i + 1)), .ref (b), .ref (gAd E (56))] (by rw [show (1 : Int32) = nI 1 from rfl, nI_add]) ?_
  refine G.sld lwY_S lwK_A (i + 1) (by omega) hL2 (tbd tv_law_mark rfl) ?_
  refine G.go tv_law_mark 4 1069 [(0, .ref (b)), (1, .ref (gAd E (0))), (2, .ref (gAd E (56))), (3, .ref (gAd E (93))), (4, .int (nI i)), (5, .int (k))] [.int ((nI i) + ((2 : Int32))), .ref (b), .int (xs (i + 1)), .ref (gAd E (56))] rfl ?_
  refine G.eqs [.int (nI (i + 2)), .ref (b), .int (xs (i + 1)), .ref (gAd E (56))] (by rw [show (2 : Int32) = nI 2 from rfl, nI_add]) ?_
  refine G.sld lwY_S lwK_A (i + 2) (by omega) hL2 (tbd tv_law_mark rfl) ?_
  refine G.callVr 56 [.int (xs (i + 1)), .int (xs (i + 2))] [] hM cls_X12 (by omega) h56 cw_L_226 w_2672 w_2673 (Nat.le_trans (Nat.succ_le_succ hh) (Nat.le_of_ble_eq_true rfl)) (Nat.le_trans (Nat.mul_le_mul_left 64 (Nat.succ_le_succ hh)) (Nat.le_of_ble_eq_true rfl)) (by show (cu + 1) + 1 ≤ room_1.cells; omega) (by show (su + 6) + 6 ≤ room_1.slots; omega) rfl (Nat.le_of_ble_eq_true rfl) (tbd tv_law_mark rfl) (fun v u q => ?_) (fun X u q => hno X u q)
  obtain ⟨r, R, rfl, rv, hk, ho, hI⟩ := hq v u q
  refine G.eqs [.int (r)] rfl ?_
  refine G.go tv_law_mark 2 1076 [(0, .ref (b)), (1, .ref (gAd E (0))), (2, .ref (gAd E (56))), (3, .ref (gAd E (93))), (4, .int (nI i)), (5, .int (k)), (6, .int (r))] [.ref (gAd E (56))] rfl ?_
  refine G.callVr 56 [] [] (c_X12_thrown E u R hE rv) cls_X12 (by omega) rv.o cw_L_181 w_2251 w_2252 (Nat.le_trans (Nat.succ_le_succ (show 1 ≤ 110 by decide)) (Nat.le_of_ble_eq_true rfl)) (Nat.le_trans (Nat.mul_le_mul_left 64 (Nat.succ_le_succ (show 1 ≤ 110 by decide))) (Nat.le_of_ble_eq_true rfl)) (by show (cu + 1) + 1 ≤ room_1.cells; omega) (by show (su + 6) + 6 ≤ room_1.slots; omega) rfl (Nat.le_of_ble_eq_true rfl) (tbd tv_law_mark rfl) (fun v w q => ?_) (fun X w q => q)
  obtain ⟨rfl, rv2, fv2⟩ := q
  obtain rfl := RfV.uniq rv rv2 fv2
  refine G.eqs [.int (rS R 0)] rfl ?_
  refine G.go tv_law_mark 1 1081 [(0, .ref (b)), (1, .ref (gAd E (0))), (2, .ref (gAd E (56))), (3, .ref (gAd E (93))), (4, .int (nI i)), (5, .int (k)), (6, .int (r))] [.int (k), .int (rS R 0)] rfl ?_
  refine G.cmp_eq 1086 (tbd tv_law_mark rfl) (by decide) (fun c1081 => ?_) (fun c1081 => absurd (hk) c1081)
  refine G.go tv_law_mark 1 1088 [(0, .ref (b)), (1, .ref (gAd E (0))), (2, .ref (gAd E (56))), (3, .ref (gAd E (93))), (4, .int (nI i)), (5, .int (k)), (6, .int (r))] [.int (k)] rfl ?_
  refine G.if_ne 1103 (tbd tv_law_mark rfl) (by decide) (fun c1088 => ?_) (fun c1088 => ?_)
  · skip
    refine G.go tv_law_mark 1 2804 [(0, .ref (b)), (1, .ref (gAd E (0))), (2, .ref (gAd E (56))), (3, .ref (gAd E (93))), (4, .int (nI i)), (5, .int (k)), (6, .int (r))] [] rfl ?_
    refine G.drop [0, 1, 2, 3, 4] rfl ?_
    exact kk _ hI
  · skip
    obtain ⟨o, e93, eo⟩ := ho c1088
    refine G.go tv_law_mark 2 1093 [(0, .ref (b)), (1, .ref (gAd E (0))), (2, .ref (gAd E (56))), (3, .ref (gAd E (93))), (4, .int (nI i)), (5, .int (k)), (6, .int (r))] [.int ((0 : Int32)), .ref (gAd E (93))] rfl ?_
    refine G.eqs [.int (nI (0)), .ref (gAd E (93))] (by rw [show (0 : Int32) = nI 0 from rfl]) ?_
    refine G.laldN (93) (0) (by omega) (e93) (by decide) (by decide) (tbd tv_law_mark rfl) ?_
    refine G.go tv_law_mark 3 1098 [(0, .ref (b)), (1, .ref (gAd E (0))), (2, .ref (gAd E (56))), (3, .ref (gAd E (93))), (4, .int (nI i)), (5, .int (k)), (6, .int (r))] [.int (lg_cmp ((o) (0)) ((r : Int32).toInt64))] rfl ?_
    refine G.if_eq 1103 (tbd tv_law_mark rfl) (by decide) (fun c1098 => ?_) (fun c1098 => absurd ((lg_cmp_eq _ _).mpr (eo)) c1098)
    refine G.go tv_law_mark 1 2804 [(0, .ref (b)), (1, .ref (gAd E (0))), (2, .ref (gAd E (56))), (3, .ref (gAd E (93))), (4, .int (nI i)), (5, .int (k)), (6, .int (r))] [] rfl ?_
    refine G.drop [0, 1, 2, 3, 4] rfl ?_
    exact kk _ hI
theorem w_1645 : Cond.methodLink "LedgerFilesLaw" 224 yL_mark ∈ TB := tp_7 59 (by decide +kernel) rfl
theorem w_1646 : Cond.static yL_mark ∈ TB := tp_7 60 (by decide +kernel) rfl
theorem cwh_224 : CwH RL 224 yL_mark cL_mark 5 (some .int) [(0, 10, 13, 13), (0, 10, 17, 15)] 4 := ⟨w_1645, w_1647, w_146, by decide +kernel, by decide +kernel, by decide, w_1646⟩
set_option maxRecDepth 100000 in
set_option maxHeartbeats 4000000 in
theorem k_mark (E : gE) (f : Nat → va_E) (hE : 94 ≤ gN E) (b L : Nat) (xs : Nat → Int32) (cu su h sz i : Nat) (hi : i + 5 < L) (hL2 : L < 2 ^ 31) (hcu : cu + 2 ≤ room_1.cells) (hsu : su + 12 ≤ room_1.slots) (Inv : (Nat → va_E) → Prop) (H : CsI E f yX11_mark cX11_mark 3 yX12_mark cX12_mark 3 [.int (xs (i + 1)), .int (xs (i + 2))] [xI, xU] Inv) (kk : ∀ g, Inv g → G E (lwK h sz) code (gL b L xs (cu + 1) (su + 6)) 2804 [(0, .ref (b)), (1, .ref (gAd E (0))), (2, .ref (gAd E (56))), (3, .ref (gAd E (93))), (4, .int (nI i))] [] g) : G E (lwK h sz) code (gL b L xs cu su) 1038 [(0, .ref (b)), (1, .ref (gAd E (0))), (2, .ref (gAd E (56))), (3, .ref (gAd E (93))), (4, .int (nI i))] [] f := by
  obtain ⟨hc, Q, hM, hh, ⟨fs, h0⟩, hn, hx⟩ := H
  refine G.go tv_law_mark 5 1044 [(0, .ref (b)), (1, .ref (gAd E (0))), (2, .ref (gAd E (56))), (3, .ref (gAd E (93))), (4, .int (nI i))] [.int ((nI i) + ((1 : Int32))), .ref (b), .ref (gAd E (0))] rfl ?_
  refine G.eqs [.int (nI (i + 1)), .ref (b), .ref (gAd E (0))] (by rw [show (1 : Int32) = nI 1 from rfl, nI_add]) ?_
  refine G.sld lwY_S lwK_A (i + 1) (by omega) hL2 (tbd tv_law_mark rfl) ?_
  refine G.go tv_law_mark 4 1050 [(0, .ref (b)), (1, .ref (gAd E (0))), (2, .ref (gAd E (56))), (3, .ref (gAd E (93))), (4, .int (nI i))] [.int ((nI i) + ((2 : Int32))), .ref (b), .int (xs (i + 1)), .ref (gAd E (0))] rfl ?_
  refine G.eqs [.int (nI (i + 2)), .ref (b), .int (xs (i + 1)), .ref (gAd E (0))] (by rw [show (2 : Int32) = nI 2 from rfl, nI_add]) ?_
  refine G.sld lwY_S lwK_A (i + 2) (by omega) hL2 (tbd tv_law_mark rfl) ?_
  refine G.go tv_law_mark 1 1052 [(0, .ref (b)), (1, .ref (gAd E (0))), (2, .ref (gAd E (56))), (3, .ref (gAd E (93))), (4, .int (nI i))] [.ref (gAd E (93)), .int (xs (i + 2)), .int (xs (i + 1)), .ref (gAd E (0))] rfl ?_
  refine G.callH [.ref (gAd E (0)), .int (xs (i + 1)), .int (xs (i + 2)), .ref (gAd E (93))] [] (h_L_mark E f hE (xs (i + 1)) (xs (i + 2)) hM hh h0 (fun v g q => by obtain ⟨x, o, h1, h2, -⟩ := hn v g q; exact ⟨x, o, h1, h2⟩) (fun X g q => (xk2 (hx X g q)).elim (fun a => Or.inl a.1) (fun a => Or.inr a.1))) cwh_224 (Nat.le_of_ble_eq_true rfl) (Nat.le_of_ble_eq_true rfl) (by show cu + 1 ≤ room_1.cells; omega) (by show su + 6 ≤ room_1.slots; omega) rfl (Nat.le_of_ble_eq_true rfl) (tbd tv_law_mark rfl) (fun v g q => ?_)
  rcases q with ⟨rfl, x, o, g0, q, e93, rfl⟩ | ⟨rfl, q⟩ | ⟨rfl, q⟩
  · refine G.eqs [.int 0] rfl ?_
    obtain ⟨x1, o1, e1, e2, hp⟩ := hn _ _ q
    cases e1
    obtain rfl := oJ_inj (e93.symm.trans e2)
    exact lt_mark E _ hE b L xs cu su h sz i hi hL2 hcu hsu Inv 0 hp kk
  · refine G.eqs [.int 1] rfl ?_
    exact lt_mark E _ hE b L xs cu su h sz i hi hL2 hcu hsu Inv 1 ((xk2 (hx _ _ q)).elim (fun a => a.2) (fun a => absurd a.1 (by decide))) kk
  · refine G.eqs [.int 2] rfl ?_
    exact lt_mark E _ hE b L xs cu su h sz i hi hL2 hcu hsu Inv 2 ((xk2 (hx _ _ q)).elim (fun a => absurd a.1 (by decide)) (fun a => a.2)) kk
def tb_law_punch : List (Nat × Instr × Nat) := [(1106, .aload_n 1, 1), (1107, .aload_n 0, 1), (1108, .iload 4, 2), (1110, .iconst 1, 1), (1111, .iadd, 1), (1112, .iaload, 1), (1113, .aload_n 0, 1), (1114, .iload 4, 2), (1116, .iconst 2, 1), (1117, .iadd, 1), (1118, .iaload, 1), (1119, .aload_n 0, 1), (1120, .iload 4, 2), (1122, .iconst 3, 1), (1123, .iadd, 1), (1124, .iaload, 1), (1125, .aload_n 3, 1), (1126, .invokestatic 227, 3), (1129, .istore 5, 2), (1131, .aload_n 2, 1), (1132, .aload_n 0, 1), (1133, .iload 4, 2), (1135, .iconst 1, 1), (1136, .iadd, 1), (1137, .iaload, 1), (1138, .aload_n 0, 1), (1139, .iload 4, 2), (1141, .iconst 2, 1), (1142, .iadd, 1), (1143, .iaload, 1), (1144, .aload_n 0, 1), (1145, .iload 4, 2), (1147, .iconst 3, 1), (1148, .iadd, 1), (1149, .iaload, 1), (1150, .invokevirtual 230, 3), (1153, .istore 6, 2), (1155, .aload_n 2, 1), (1156, .invokevirtual 181, 3), (1159, .iload 5, 2), (1161, .if_icmp .eq 5, 3), (1164, .iconst 0, 1), (1165, .ireturn, 1), (1166, .iload 5, 2), (1168, .ifCond .ne 15, 3), (1171, .aload_n 3, 1), (1172, .iconst 0, 1), (1173, .laload, 1), (1174, .iload 6, 2), (1176, .i2l, 1), (1177, .lcmp, 1), (1178, .ifCond .eq 5, 3), (1181, .iconst 0, 1), (1182, .ireturn, 1), (1183, .goto 1621, 3)]
theorem tv_law_punch : Tv code tb_law_punch := by
  unfold Tv
  decide +kernel
theorem w_2659 : Cond.methodLink "LedgerFilesLaw" 230 yX12_punch ∈ TB := tp_11 113 (by decide +kernel) rfl
theorem w_2662 : Cond.code yX12_punch prog_14_method_108_code 12 (some .int) ∈ TB := tp_11 116 rfl rfl
theorem cw_L_230 : Cw RL 230 yX12_punch cX12_punch 12 (some .int) 3 := ⟨w_2659, w_2662, w_161, by decide +kernel, by decide +kernel, by decide⟩
theorem w_2660 : Cond.instanceMethod yX12_punch ∈ TB := tp_11 114 (by decide +kernel) rfl
theorem w_2661 : Cond.selects "LedgerFilesModel" yX12_punch yX12_punch ∈ TB := tp_11 115 (by decide +kernel) rfl
set_option maxRecDepth 100000 in
set_option maxHeartbeats 4000000 in
theorem lt_punch (E : gE) (f : Nat → va_E) (hE : 94 ≤ gN E) (b L : Nat) (xs : Nat → Int32) (cu su h sz i : Nat) (hi : i + 5 < L) (hL2 : L < 2 ^ 31) (hcu : cu + 2 ≤ room_1.cells) (hsu : su + 12 ≤ room_1.slots) (Inv : (Nat → va_E) → Prop) (k : Int32) (H : PmI E yX12_punch cX12_punch 12 [.int (xs (i + 1)), .int (xs (i + 2)), .int (xs (i + 3))] f k Inv) (kk : ∀ g, Inv g → G E (lwK h sz) code (gL b L xs (cu + 1) (su + 6)) 2804 [(0, .ref (b)), (1, .ref (gAd E (0))), (2, .ref (gAd E (56))), (3, .ref (gAd E (93))), (4, .int (nI i))] [] g) : G E (lwK h sz) code (gL b L xs (cu + 1) (su + 6)) 1129 [(0, .ref (b)), (1, .ref (gAd E (0))), (2, .ref (gAd E (56))), (3, .ref (gAd E (93))), (4, .int (nI i))] [.int k] f := by
  obtain ⟨hc, Q, hM, hh, ⟨fs, h56⟩, hno, hq⟩ := H
  refine G.go tv_law_punch 6 1137 [(0, .ref (b)), (1, .ref (gAd E (0))), (2, .ref (gAd E (56))), (3, .ref (gAd E (93))), (4, .int (nI i)), (5, .int (k))] [.int ((nI i) + ((1 : Int32))), .ref (b), .ref (gAd E (56))] rfl ?_
  refine G.eqs [.int (nI (i + 1)), .ref (b), .ref (gAd E (56))] (by rw [show (1 : Int32) = nI 1 from rfl, nI_add]) ?_
  refine G.sld lwY_S lwK_A (i + 1) (by omega) hL2 (tbd tv_law_punch rfl) ?_
  refine G.go tv_law_punch 4 1143 [(0, .ref (b)), (1, .ref (gAd E (0))), (2, .ref (gAd E (56))), (3, .ref (gAd E (93))), (4, .int (nI i)), (5, .int (k))] [.int ((nI i) + ((2 : Int32))), .ref (b), .int (xs (i + 1)), .ref (gAd E (56))] rfl ?_
  refine G.eqs [.int (nI (i + 2)), .ref (b), .int (xs (i + 1)), .ref (gAd E (56))] (by rw [show (2 : Int32) = nI 2 from rfl, nI_add]) ?_
  refine G.sld lwY_S lwK_A (i + 2) (by omega) hL2 (tbd tv_law_punch rfl) ?_
  refine G.go tv_law_punch 4 1149 [(0, .ref (b)), (1, .ref (gAd E (0))), (2, .ref (gAd E (56))), (3, .ref (gAd E (93))), (4, .int (nI i)), (5, .int (k))] [.int ((nI i) + ((3 : Int32))), .ref (b), .int (xs (i + 2)), .int (xs (i + 1)), .ref (gAd E (56))] rfl ?_
  refine G.eqs [.int (nI (i + 3)), .ref (b), .int (xs (i + 2)), .int (xs (i + 1)), .ref (gAd E (56))] (by rw [show (3 : Int32) = nI 3 from rfl, nI_add]) ?_
  refine G.sld lwY_S lwK_A (i + 3) (by omega) hL2 (tbd tv_law_punch rfl) ?_
  refine G.callVr 56 [.int (xs (i + 1)), .int (xs (i + 2)), .int (xs (i + 3))] [] hM cls_X12 (by omega) h56 cw_L_230 w_2660 w_2661 (Nat.le_trans (Nat.succ_le_succ hh) (Nat.le_of_ble_eq_true rfl)) (Nat.le_trans (Nat.mul_le_mul_left 64 (Nat.succ_le_succ hh)) (Nat.le_of_ble_eq_true rfl)) (by show (cu + 1) + 1 ≤ room_1.cells; omega) (by show (su + 6) + 6 ≤ room_1.slots; omega) rfl (Nat.le_of_ble_eq_true rfl) (tbd tv_law_punch rfl) (fun v u q => ?_) (fun X u q => hno X u q)
  obtain ⟨r, R, rfl, rv, hk, ho, hI⟩ := hq v u q
  refine G.eqs [.int (r)] rfl ?_
  refine G.go tv_law_punch 2 1156 [(0, .ref (b)), (1, .ref (gAd E (0))), (2, .ref (gAd E (56))), (3, .ref (gAd E (93))), (4, .int (nI i)), (5, .int (k)), (6, .int (r))] [.ref (gAd E (56))] rfl ?_
  refine G.callVr 56 [] [] (c_X12_thrown E u R hE rv) cls_X12 (by omega) rv.o cw_L_181 w_2251 w_2252 (Nat.le_trans (Nat.succ_le_succ (show 1 ≤ 110 by decide)) (Nat.le_of_ble_eq_true rfl)) (Nat.le_trans (Nat.mul_le_mul_left 64 (Nat.succ_le_succ (show 1 ≤ 110 by decide))) (Nat.le_of_ble_eq_true rfl)) (by show (cu + 1) + 1 ≤ room_1.cells; omega) (by show (su + 6) + 6 ≤ room_1.slots; omega) rfl (Nat.le_of_ble_eq_true rfl) (tbd tv_law_punch rfl) (fun v w q => ?_) (fun X w q => q)
  obtain ⟨rfl, rv2, fv2⟩ := q
  obtain rfl := RfV.uniq rv rv2 fv2
  refine G.eqs [.int (rS R 0)] rfl ?_
  refine G.go tv_law_punch 1 1161 [(0, .ref (b)), (1, .ref (gAd E (0))), (2, .ref (gAd E (56))), (3, .ref (gAd E (93))), (4, .int (nI i)), (5, .int (k)), (6, .int (r))] [.int (k), .int (rS R 0)] rfl ?_
  refine G.cmp_eq 1166 (tbd tv_law_punch rfl) (by decide) (fun c1161 => ?_) (fun c1161 => absurd (hk) c1161)
  refine G.go tv_law_punch 1 1168 [(0, .ref (b)), (1, .ref (gAd E (0))), (2, .ref (gAd E (56))), (3, .ref (gAd E (93))), (4, .int (nI i)), (5, .int (k)), (6, .int (r))] [.int (k)] rfl ?_
  refine G.if_ne 1183 (tbd tv_law_punch rfl) (by decide) (fun c1168 => ?_) (fun c1168 => ?_)
  · skip
    refine G.go tv_law_punch 1 2804 [(0, .ref (b)), (1, .ref (gAd E (0))), (2, .ref (gAd E (56))), (3, .ref (gAd E (93))), (4, .int (nI i)), (5, .int (k)), (6, .int (r))] [] rfl ?_
    refine G.drop [0, 1, 2, 3, 4] rfl ?_
    exact kk _ hI
  · skip
    obtain ⟨o, e93, eo⟩ := ho c1168
    refine G.go tv_law_punch 2 1173 [(0, .ref (b)), (1, .ref (gAd E (0))), (2, .ref (gAd E (56))), (3, .ref (gAd E (93))), (4, .int (nI i)), (5, .int (k)), (6, .int (r))] [.int ((0 : Int32)), .ref (gAd E (93))] rfl ?_
    refine G.eqs [.int (nI (0)), .ref (gAd E (93))] (by rw [show (0 : Int32) = nI 0 from rfl]) ?_
    refine G.laldN (93) (0) (by omega) (e93) (by decide) (by decide) (tbd tv_law_punch rfl) ?_
    refine G.go tv_law_punch 3 1178 [(0, .ref (b)), (1, .ref (gAd E (0))), (2, .ref (gAd E (56))), (3, .ref (gAd E (93))), (4, .int (nI i)), (5, .int (k)), (6, .int (r))] [.int (lg_cmp ((o) (0)) ((r : Int32).toInt64))] rfl ?_
    refine G.if_eq 1183 (tbd tv_law_punch rfl) (by decide) (fun c1178 => ?_) (fun c1178 => absurd ((lg_cmp_eq _ _).mpr (eo)) c1178)
    refine G.go tv_law_punch 1 2804 [(0, .ref (b)), (1, .ref (gAd E (0))), (2, .ref (gAd E (56))), (3, .ref (gAd E (93))), (4, .int (nI i)), (5, .int (k)), (6, .int (r))] [] rfl ?_
    refine G.drop [0, 1, 2, 3, 4] rfl ?_
    exact kk _ hI
theorem w_1653 : Cond.methodLink "LedgerFilesLaw" 227 yL_punch ∈ TB := tp_7 67 (by decide +kernel) rfl
theorem w_1654 : Cond.static yL_punch ∈ TB := tp_7 68 (by decide +kernel) rfl
theorem cwh_227 : CwH RL 227 yL_punch cL_punch 6 (some .int) [(0, 12, 15, 13), (0, 12, 19, 15)] 5 := ⟨w_1653, w_1655, w_146, by decide +kernel, by decide +kernel, by decide, w_1654⟩
set_option maxRecDepth 100000 in
set_option maxHeartbeats 4000000 in
theorem k_punch (E : gE) (f : Nat → va_E) (hE : 94 ≤ gN E) (b L : Nat) (xs : Nat → Int32) (cu su h sz i : Nat) (hi : i + 5 < L) (hL2 : L < 2 ^ 31) (hcu : cu + 2 ≤ room_1.cells) (hsu : su + 12 ≤ room_1.slots) (Inv : (Nat → va_E) → Prop) (H : CsI E f yX11_punch cX11_punch 11 yX12_punch cX12_punch 12 [.int (xs (i + 1)), .int (xs (i + 2)), .int (xs (i + 3))] [xI, xU] Inv) (kk : ∀ g, Inv g → G E (lwK h sz) code (gL b L xs (cu + 1) (su + 6)) 2804 [(0, .ref (b)), (1, .ref (gAd E (0))), (2, .ref (gAd E (56))), (3, .ref (gAd E (93))), (4, .int (nI i))] [] g) : G E (lwK h sz) code (gL b L xs cu su) 1106 [(0, .ref (b)), (1, .ref (gAd E (0))), (2, .ref (gAd E (56))), (3, .ref (gAd E (93))), (4, .int (nI i))] [] f := by
  obtain ⟨hc, Q, hM, hh, ⟨fs, h0⟩, hn, hx⟩ := H
  refine G.go tv_law_punch 5 1112 [(0, .ref (b)), (1, .ref (gAd E (0))), (2, .ref (gAd E (56))), (3, .ref (gAd E (93))), (4, .int (nI i))] [.int ((nI i) + ((1 : Int32))), .ref (b), .ref (gAd E (0))] rfl ?_
  refine G.eqs [.int (nI (i + 1)), .ref (b), .ref (gAd E (0))] (by rw [show (1 : Int32) = nI 1 from rfl, nI_add]) ?_
  refine G.sld lwY_S lwK_A (i + 1) (by omega) hL2 (tbd tv_law_punch rfl) ?_
  refine G.go tv_law_punch 4 1118 [(0, .ref (b)), (1, .ref (gAd E (0))), (2, .ref (gAd E (56))), (3, .ref (gAd E (93))), (4, .int (nI i))] [.int ((nI i) + ((2 : Int32))), .ref (b), .int (xs (i + 1)), .ref (gAd E (0))] rfl ?_
  refine G.eqs [.int (nI (i + 2)), .ref (b), .int (xs (i + 1)), .ref (gAd E (0))] (by rw [show (2 : Int32) = nI 2 from rfl, nI_add]) ?_
  refine G.sld lwY_S lwK_A (i + 2) (by omega) hL2 (tbd tv_law_punch rfl) ?_
  refine G.go tv_law_punch 4 1124 [(0, .ref (b)), (1, .ref (gAd E (0))), (2, .ref (gAd E (56))), (3, .ref (gAd E (93))), (4, .int (nI i))] [.int ((nI i) + ((3 : Int32))), .ref (b), .int (xs (i + 2)), .int (xs (i + 1)), .ref (gAd E (0))] rfl ?_
  refine G.eqs [.int (nI (i + 3)), .ref (b), .int (xs (i + 2)), .int (xs (i + 1)), .ref (gAd E (0))] (by rw [show (3 : Int32) = nI 3 from rfl, nI_add]) ?_
  refine G.sld lwY_S lwK_A (i + 3) (by omega) hL2 (tbd tv_law_punch rfl) ?_
  refine G.go tv_law_punch 1 1126 [(0, .ref (b)), (1, .ref (gAd E (0))), (2, .ref (gAd E (56))), (3, .ref (gAd E (93))), (4, .int (nI i))] [.ref (gAd E (93)), .int (xs (i + 3)), .int (xs (i + 2)), .int (xs (i + 1)), .ref (gAd E (0))] rfl ?_
  refine G.callH [.ref (gAd E (0)), .int (xs (i + 1)), .int (xs (i + 2)), .int (xs (i + 3)), .ref (gAd E (93))] [] (h_L_punch E f hE (xs (i + 1)) (xs (i + 2)) (xs (i + 3)) hM hh h0 (fun v g q => by obtain ⟨x, o, h1, h2, -⟩ := hn v g q; exact ⟨x, o, h1, h2⟩) (fun X g q => (xk2 (hx X g q)).elim (fun a => Or.inl a.1) (fun a => Or.inr a.1))) cwh_227 (Nat.le_of_ble_eq_true rfl) (Nat.le_of_ble_eq_true rfl) (by show cu + 1 ≤ room_1.cells; omega) (by show su + 6 ≤ room_1.slots; omega) rfl (Nat.le_of_ble_eq_true rfl) (tbd tv_law_punch rfl) (fun v g q => ?_)
  rcases q with ⟨rfl, x, o, g0, q, e93, rfl⟩ | ⟨rfl, q⟩ | ⟨rfl, q⟩
  · refine G.eqs [.int 0] rfl ?_
    obtain ⟨x1, o1, e1, e2, hp⟩ := hn _ _ q
    cases e1
    obtain rfl := oJ_inj (e93.symm.trans e2)
    exact lt_punch E _ hE b L xs cu su h sz i hi hL2 hcu hsu Inv 0 hp kk
  · refine G.eqs [.int 1] rfl ?_
    exact lt_punch E _ hE b L xs cu su h sz i hi hL2 hcu hsu Inv 1 ((xk2 (hx _ _ q)).elim (fun a => a.2) (fun a => absurd a.1 (by decide))) kk
  · refine G.eqs [.int 2] rfl ?_
    exact lt_punch E _ hE b L xs cu su h sz i hi hL2 hcu hsu Inv 2 ((xk2 (hx _ _ q)).elim (fun a => absurd a.1 (by decide)) (fun a => a.2)) kk
def tb_law_hold : List (Nat × Instr × Nat) := [(1186, .aload_n 1, 1), (1187, .aload_n 0, 1), (1188, .iload 4, 2), (1190, .iconst 1, 1), (1191, .iadd, 1), (1192, .iaload, 1), (1193, .aload_n 3, 1), (1194, .invokestatic 231, 3), (1197, .istore 5, 2), (1199, .aload_n 2, 1), (1200, .aload_n 0, 1), (1201, .iload 4, 2), (1203, .iconst 1, 1), (1204, .iadd, 1), (1205, .iaload, 1), (1206, .invokevirtual 234, 3), (1209, .istore 6, 2), (1211, .aload_n 2, 1), (1212, .invokevirtual 181, 3), (1215, .iload 5, 2), (1217, .if_icmp .eq 5, 3), (1220, .iconst 0, 1), (1221, .ireturn, 1), (1222, .iload 5, 2), (1224, .ifCond .ne 15, 3), (1227, .aload_n 3, 1), (1228, .iconst 0, 1), (1229, .laload, 1), (1230, .iload 6, 2), (1232, .i2l, 1), (1233, .lcmp, 1), (1234, .ifCond .eq 5, 3), (1237, .iconst 0, 1), (1238, .ireturn, 1), (1239, .goto 1565, 3)]
theorem tv_law_hold : Tv code tb_law_hold := by
  unfold Tv
  decide +kernel
theorem w_2675 : Cond.methodLink "LedgerFilesLaw" 234 yX12_hold ∈ TB := tp_11 129 (by decide +kernel) rfl
theorem w_2678 : Cond.code yX12_hold prog_14_method_110_code 2 (some .int) ∈ TB := tp_11 132 rfl rfl
theorem cw_L_234 : Cw RL 234 yX12_hold cX12_hold 2 (some .int) 1 := ⟨w_2675, w_2678, w_161, by decide +kernel, by decide +kernel, by decide⟩
theorem w_2676 : Cond.instanceMethod yX12_hold ∈ TB := tp_11 130 (by decide +kernel) rfl
theorem w_2677 : Cond.selects "LedgerFilesModel" yX12_hold yX12_hold ∈ TB := tp_11 131 (by decide +kernel) rfl
set_option maxRecDepth 100000 in
set_option maxHeartbeats 4000000 in
theorem lt_hold (E : gE) (f : Nat → va_E) (hE : 94 ≤ gN E) (b L : Nat) (xs : Nat → Int32) (cu su h sz i : Nat) (hi : i + 5 < L) (hL2 : L < 2 ^ 31) (hcu : cu + 2 ≤ room_1.cells) (hsu : su + 12 ≤ room_1.slots) (Inv : (Nat → va_E) → Prop) (k : Int32) (H : PmI E yX12_hold cX12_hold 2 [.int (xs (i + 1))] f k Inv) (kk : ∀ g, Inv g → G E (lwK h sz) code (gL b L xs (cu + 1) (su + 6)) 2804 [(0, .ref (b)), (1, .ref (gAd E (0))), (2, .ref (gAd E (56))), (3, .ref (gAd E (93))), (4, .int (nI i))] [] g) : G E (lwK h sz) code (gL b L xs (cu + 1) (su + 6)) 1197 [(0, .ref (b)), (1, .ref (gAd E (0))), (2, .ref (gAd E (56))), (3, .ref (gAd E (93))), (4, .int (nI i))] [.int k] f := by
  obtain ⟨hc, Q, hM, hh, ⟨fs, h56⟩, hno, hq⟩ := H
  refine G.go tv_law_hold 6 1205 [(0, .ref (b)), (1, .ref (gAd E (0))), (2, .ref (gAd E (56))), (3, .ref (gAd E (93))), (4, .int (nI i)), (5, .int (k))] [.int ((nI i) + ((1 : Int32))), .ref (b), .ref (gAd E (56))] rfl ?_
  refine G.eqs [.int (nI (i + 1)), .ref (b), .ref (gAd E (56))] (by rw [show (1 : Int32) = nI 1 from rfl, nI_add]) ?_
  refine G.sld lwY_S lwK_A (i + 1) (by omega) hL2 (tbd tv_law_hold rfl) ?_
  refine G.callVr 56 [.int (xs (i + 1))] [] hM cls_X12 (by omega) h56 cw_L_234 w_2676 w_2677 (Nat.le_trans (Nat.succ_le_succ hh) (Nat.le_of_ble_eq_true rfl)) (Nat.le_trans (Nat.mul_le_mul_left 64 (Nat.succ_le_succ hh)) (Nat.le_of_ble_eq_true rfl)) (by show (cu + 1) + 1 ≤ room_1.cells; omega) (by show (su + 6) + 6 ≤ room_1.slots; omega) rfl (Nat.le_of_ble_eq_true rfl) (tbd tv_law_hold rfl) (fun v u q => ?_) (fun X u q => hno X u q)
  obtain ⟨r, R, rfl, rv, hk, ho, hI⟩ := hq v u q
  refine G.eqs [.int (r)] rfl ?_
  refine G.go tv_law_hold 2 1212 [(0, .ref (b)), (1, .ref (gAd E (0))), (2, .ref (gAd E (56))), (3, .ref (gAd E (93))), (4, .int (nI i)), (5, .int (k)), (6, .int (r))] [.ref (gAd E (56))] rfl ?_
  refine G.callVr 56 [] [] (c_X12_thrown E u R hE rv) cls_X12 (by omega) rv.o cw_L_181 w_2251 w_2252 (Nat.le_trans (Nat.succ_le_succ (show 1 ≤ 110 by decide)) (Nat.le_of_ble_eq_true rfl)) (Nat.le_trans (Nat.mul_le_mul_left 64 (Nat.succ_le_succ (show 1 ≤ 110 by decide))) (Nat.le_of_ble_eq_true rfl)) (by show (cu + 1) + 1 ≤ room_1.cells; omega) (by show (su + 6) + 6 ≤ room_1.slots; omega) rfl (Nat.le_of_ble_eq_true rfl) (tbd tv_law_hold rfl) (fun v w q => ?_) (fun X w q => q)
  obtain ⟨rfl, rv2, fv2⟩ := q
  obtain rfl := RfV.uniq rv rv2 fv2
  refine G.eqs [.int (rS R 0)] rfl ?_
  refine G.go tv_law_hold 1 1217 [(0, .ref (b)), (1, .ref (gAd E (0))), (2, .ref (gAd E (56))), (3, .ref (gAd E (93))), (4, .int (nI i)), (5, .int (k)), (6, .int (r))] [.int (k), .int (rS R 0)] rfl ?_
  refine G.cmp_eq 1222 (tbd tv_law_hold rfl) (by decide) (fun c1217 => ?_) (fun c1217 => absurd (hk) c1217)
  refine G.go tv_law_hold 1 1224 [(0, .ref (b)), (1, .ref (gAd E (0))), (2, .ref (gAd E (56))), (3, .ref (gAd E (93))), (4, .int (nI i)), (5, .int (k)), (6, .int (r))] [.int (k)] rfl ?_
  refine G.if_ne 1239 (tbd tv_law_hold rfl) (by decide) (fun c1224 => ?_) (fun c1224 => ?_)
  · skip
    refine G.go tv_law_hold 1 2804 [(0, .ref (b)), (1, .ref (gAd E (0))), (2, .ref (gAd E (56))), (3, .ref (gAd E (93))), (4, .int (nI i)), (5, .int (k)), (6, .int (r))] [] rfl ?_
    refine G.drop [0, 1, 2, 3, 4] rfl ?_
    exact kk _ hI
  · skip
    obtain ⟨o, e93, eo⟩ := ho c1224
    refine G.go tv_law_hold 2 1229 [(0, .ref (b)), (1, .ref (gAd E (0))), (2, .ref (gAd E (56))), (3, .ref (gAd E (93))), (4, .int (nI i)), (5, .int (k)), (6, .int (r))] [.int ((0 : Int32)), .ref (gAd E (93))] rfl ?_
    refine G.eqs [.int (nI (0)), .ref (gAd E (93))] (by rw [show (0 : Int32) = nI 0 from rfl]) ?_
    refine G.laldN (93) (0) (by omega) (e93) (by decide) (by decide) (tbd tv_law_hold rfl) ?_
    refine G.go tv_law_hold 3 1234 [(0, .ref (b)), (1, .ref (gAd E (0))), (2, .ref (gAd E (56))), (3, .ref (gAd E (93))), (4, .int (nI i)), (5, .int (k)), (6, .int (r))] [.int (lg_cmp ((o) (0)) ((r : Int32).toInt64))] rfl ?_
    refine G.if_eq 1239 (tbd tv_law_hold rfl) (by decide) (fun c1234 => ?_) (fun c1234 => absurd ((lg_cmp_eq _ _).mpr (eo)) c1234)
    refine G.go tv_law_hold 1 2804 [(0, .ref (b)), (1, .ref (gAd E (0))), (2, .ref (gAd E (56))), (3, .ref (gAd E (93))), (4, .int (nI i)), (5, .int (k)), (6, .int (r))] [] rfl ?_
    refine G.drop [0, 1, 2, 3, 4] rfl ?_
    exact kk _ hI
theorem w_1667 : Cond.methodLink "LedgerFilesLaw" 231 yL_hold ∈ TB := tp_7 81 (by decide +kernel) rfl
theorem w_1668 : Cond.static yL_hold ∈ TB := tp_7 82 (by decide +kernel) rfl
theorem cwh_231 : CwH RL 231 yL_hold cL_hold 4 (some .int) [(0, 9, 12, 13)] 3 := ⟨w_1667, w_1669, w_146, by decide +kernel, by decide +kernel, by decide, w_1668⟩
set_option maxRecDepth 100000 in
set_option maxHeartbeats 4000000 in
theorem k_hold (E : gE) (f : Nat → va_E) (hE : 94 ≤ gN E) (b L : Nat) (xs : Nat → Int32) (cu su h sz i : Nat) (hi : i + 5 < L) (hL2 : L < 2 ^ 31) (hcu : cu + 2 ≤ room_1.cells) (hsu : su + 12 ≤ room_1.slots) (Inv : (Nat → va_E) → Prop) (H : CsI E f yX11_hold cX11_hold 2 yX12_hold cX12_hold 2 [.int (xs (i + 1))] [xI] Inv) (kk : ∀ g, Inv g → G E (lwK h sz) code (gL b L xs (cu + 1) (su + 6)) 2804 [(0, .ref (b)), (1, .ref (gAd E (0))), (2, .ref (gAd E (56))), (3, .ref (gAd E (93))), (4, .int (nI i))] [] g) : G E (lwK h sz) code (gL b L xs cu su) 1186 [(0, .ref (b)), (1, .ref (gAd E (0))), (2, .ref (gAd E (56))), (3, .ref (gAd E (93))), (4, .int (nI i))] [] f := by
  obtain ⟨hc, Q, hM, hh, ⟨fs, h0⟩, hn, hx⟩ := H
  refine G.go tv_law_hold 5 1192 [(0, .ref (b)), (1, .ref (gAd E (0))), (2, .ref (gAd E (56))), (3, .ref (gAd E (93))), (4, .int (nI i))] [.int ((nI i) + ((1 : Int32))), .ref (b), .ref (gAd E (0))] rfl ?_
  refine G.eqs [.int (nI (i + 1)), .ref (b), .ref (gAd E (0))] (by rw [show (1 : Int32) = nI 1 from rfl, nI_add]) ?_
  refine G.sld lwY_S lwK_A (i + 1) (by omega) hL2 (tbd tv_law_hold rfl) ?_
  refine G.go tv_law_hold 1 1194 [(0, .ref (b)), (1, .ref (gAd E (0))), (2, .ref (gAd E (56))), (3, .ref (gAd E (93))), (4, .int (nI i))] [.ref (gAd E (93)), .int (xs (i + 1)), .ref (gAd E (0))] rfl ?_
  refine G.callH [.ref (gAd E (0)), .int (xs (i + 1)), .ref (gAd E (93))] [] (h_L_hold E f hE (xs (i + 1)) hM hh h0 (fun v g q => by obtain ⟨x, o, h1, h2, -⟩ := hn v g q; exact ⟨x, o, h1, h2⟩) (fun X g q => (xk1 (hx X g q)).1)) cwh_231 (Nat.le_of_ble_eq_true rfl) (Nat.le_of_ble_eq_true rfl) (by show cu + 1 ≤ room_1.cells; omega) (by show su + 6 ≤ room_1.slots; omega) rfl (Nat.le_of_ble_eq_true rfl) (tbd tv_law_hold rfl) (fun v g q => ?_)
  rcases q with ⟨rfl, x, o, g0, q, e93, rfl⟩ | ⟨rfl, q⟩
  · refine G.eqs [.int 0] rfl ?_
    obtain ⟨x1, o1, e1, e2, hp⟩ := hn _ _ q
    cases e1
    obtain rfl := oJ_inj (e93.symm.trans e2)
    exact lt_hold E _ hE b L xs cu su h sz i hi hL2 hcu hsu Inv 0 hp kk
  · refine G.eqs [.int 1] rfl ?_
    exact lt_hold E _ hE b L xs cu su h sz i hi hL2 hcu hsu Inv 1 (xk1 (hx _ _ q)).2 kk
def tb_law_release : List (Nat × Instr × Nat) := [(1242, .aload_n 1, 1), (1243, .aload_n 0, 1), (1244, .iload 4, 2), (1246, .iconst 1, 1), (1247, .iadd, 1), (1248, .iaload, 1), (1249, .aload_n 3, 1), (1250, .invokestatic 235, 3), (1253, .istore 5, 2), (1255, .aload_n 2, 1), (1256, .aload_n 0, 1), (1257, .iload 4, 2), (1259, .iconst 1, 1), (1260, .iadd, 1), (1261, .iaload, 1), (1262, .invokevirtual 237, 3), (1265, .istore 6, 2), (1267, .aload_n 2, 1), (1268, .invokevirtual 181, 3), (1271, .iload 5, 2), (1273, .if_icmp .eq 5, 3), (1276, .iconst 0, 1), (1277, .ireturn, 1), (1278, .iload 5, 2), (1280, .ifCond .ne 15, 3), (1283, .aload_n 3, 1), (1284, .iconst 0, 1), (1285, .laload, 1), (1286, .iload 6, 2), (1288, .i2l, 1), (1289, .lcmp, 1), (1290, .ifCond .eq 5, 3), (1293, .iconst 0, 1), (1294, .ireturn, 1), (1295, .goto 1509, 3)]
theorem tv_law_release : Tv code tb_law_release := by
  unfold Tv
  decide +kernel
theorem w_2679 : Cond.methodLink "LedgerFilesLaw" 237 yX12_release ∈ TB := tp_11 133 (by decide +kernel) rfl
theorem w_2682 : Cond.code yX12_release prog_14_method_111_code 2 (some .int) ∈ TB := tp_11 136 rfl rfl
theorem cw_L_237 : Cw RL 237 yX12_release cX12_release 2 (some .int) 1 := ⟨w_2679, w_2682, w_161, by decide +kernel, by decide +kernel, by decide⟩
theorem w_2680 : Cond.instanceMethod yX12_release ∈ TB := tp_11 134 (by decide +kernel) rfl
theorem w_2681 : Cond.selects "LedgerFilesModel" yX12_release yX12_release ∈ TB := tp_11 135 (by decide +kernel) rfl
set_option maxRecDepth 100000 in
set_option maxHeartbeats 4000000 in
theorem lt_release (E : gE) (f : Nat → va_E) (hE : 94 ≤ gN E) (b L : Nat) (xs : Nat → Int32) (cu su h sz i : Nat) (hi : i + 5 < L) (hL2 : L < 2 ^ 31) (hcu : cu + 2 ≤ room_1.cells) (hsu : su + 12 ≤ room_1.slots) (Inv : (Nat → va_E) → Prop) (k : Int32) (H : PmI E yX12_release cX12_release 2 [.int (xs (i + 1))] f k Inv) (kk : ∀ g, Inv g → G E (lwK h sz) code (gL b L xs (cu + 1) (su + 6)) 2804 [(0, .ref (b)), (1, .ref (gAd E (0))), (2, .ref (gAd E (56))), (3, .ref (gAd E (93))), (4, .int (nI i))] [] g) : G E (lwK h sz) code (gL b L xs (cu + 1) (su + 6)) 1253 [(0, .ref (b)), (1, .ref (gAd E (0))), (2, .ref (gAd E (56))), (3, .ref (gAd E (93))), (4, .int (nI i))] [.int k] f := by
  obtain ⟨hc, Q, hM, hh, ⟨fs, h56⟩, hno, hq⟩ := H
  refine G.go tv_law_release 6 1261 [(0, .ref (b)), (1, .ref (gAd E (0))), (2, .ref (gAd E (56))), (3, .ref (gAd E (93))), (4, .int (nI i)), (5, .int (k))] [.int ((nI i) + ((1 : Int32))), .ref (b), .ref (gAd E (56))] rfl ?_
  refine G.eqs [.int (nI (i + 1)), .ref (b), .ref (gAd E (56))] (by rw [show (1 : Int32) = nI 1 from rfl, nI_add]) ?_
  refine G.sld lwY_S lwK_A (i + 1) (by omega) hL2 (tbd tv_law_release rfl) ?_
  refine G.callVr 56 [.int (xs (i + 1))] [] hM cls_X12 (by omega) h56 cw_L_237 w_2680 w_2681 (Nat.le_trans (Nat.succ_le_succ hh) (Nat.le_of_ble_eq_true rfl)) (Nat.le_trans (Nat.mul_le_mul_left 64 (Nat.succ_le_succ hh)) (Nat.le_of_ble_eq_true rfl)) (by show (cu + 1) + 1 ≤ room_1.cells; omega) (by show (su + 6) + 6 ≤ room_1.slots; omega) rfl (Nat.le_of_ble_eq_true rfl) (tbd tv_law_release rfl) (fun v u q => ?_) (fun X u q => hno X u q)
  obtain ⟨r, R, rfl, rv, hk, ho, hI⟩ := hq v u q
  refine G.eqs [.int (r)] rfl ?_
  refine G.go tv_law_release 2 1268 [(0, .ref (b)), (1, .ref (gAd E (0))), (2, .ref (gAd E (56))), (3, .ref (gAd E (93))), (4, .int (nI i)), (5, .int (k)), (6, .int (r))] [.ref (gAd E (56))] rfl ?_
  refine G.callVr 56 [] [] (c_X12_thrown E u R hE rv) cls_X12 (by omega) rv.o cw_L_181 w_2251 w_2252 (Nat.le_trans (Nat.succ_le_succ (show 1 ≤ 110 by decide)) (Nat.le_of_ble_eq_true rfl)) (Nat.le_trans (Nat.mul_le_mul_left 64 (Nat.succ_le_succ (show 1 ≤ 110 by decide))) (Nat.le_of_ble_eq_true rfl)) (by show (cu + 1) + 1 ≤ room_1.cells; omega) (by show (su + 6) + 6 ≤ room_1.slots; omega) rfl (Nat.le_of_ble_eq_true rfl) (tbd tv_law_release rfl) (fun v w q => ?_) (fun X w q => q)
  obtain ⟨rfl, rv2, fv2⟩ := q
  obtain rfl := RfV.uniq rv rv2 fv2
  refine G.eqs [.int (rS R 0)] rfl ?_
  refine G.go tv_law_release 1 1273 [(0, .ref (b)), (1, .ref (gAd E (0))), (2, .ref (gAd E (56))), (3, .ref (gAd E (93))), (4, .int (nI i)), (5, .int (k)), (6, .int (r))] [.int (k), .int (rS R 0)] rfl ?_
  refine G.cmp_eq 1278 (tbd tv_law_release rfl) (by decide) (fun c1273 => ?_) (fun c1273 => absurd (hk) c1273)
  refine G.go tv_law_release 1 1280 [(0, .ref (b)), (1, .ref (gAd E (0))), (2, .ref (gAd E (56))), (3, .ref (gAd E (93))), (4, .int (nI i)), (5, .int (k)), (6, .int (r))] [.int (k)] rfl ?_
  refine G.if_ne 1295 (tbd tv_law_release rfl) (by decide) (fun c1280 => ?_) (fun c1280 => ?_)
  · skip
    refine G.go tv_law_release 1 2804 [(0, .ref (b)), (1, .ref (gAd E (0))), (2, .ref (gAd E (56))), (3, .ref (gAd E (93))), (4, .int (nI i)), (5, .int (k)), (6, .int (r))] [] rfl ?_
    refine G.drop [0, 1, 2, 3, 4] rfl ?_
    exact kk _ hI
  · skip
    obtain ⟨o, e93, eo⟩ := ho c1280
    refine G.go tv_law_release 2 1285 [(0, .ref (b)), (1, .ref (gAd E (0))), (2, .ref (gAd E (56))), (3, .ref (gAd E (93))), (4, .int (nI i)), (5, .int (k)), (6, .int (r))] [.int ((0 : Int32)), .ref (gAd E (93))] rfl ?_
    refine G.eqs [.int (nI (0)), .ref (gAd E (93))] (by rw [show (0 : Int32) = nI 0 from rfl]) ?_
    refine G.laldN (93) (0) (by omega) (e93) (by decide) (by decide) (tbd tv_law_release rfl) ?_
    refine G.go tv_law_release 3 1290 [(0, .ref (b)), (1, .ref (gAd E (0))), (2, .ref (gAd E (56))), (3, .ref (gAd E (93))), (4, .int (nI i)), (5, .int (k)), (6, .int (r))] [.int (lg_cmp ((o) (0)) ((r : Int32).toInt64))] rfl ?_
    refine G.if_eq 1295 (tbd tv_law_release rfl) (by decide) (fun c1290 => ?_) (fun c1290 => absurd ((lg_cmp_eq _ _).mpr (eo)) c1290)
    refine G.go tv_law_release 1 2804 [(0, .ref (b)), (1, .ref (gAd E (0))), (2, .ref (gAd E (56))), (3, .ref (gAd E (93))), (4, .int (nI i)), (5, .int (k)), (6, .int (r))] [] rfl ?_
    refine G.drop [0, 1, 2, 3, 4] rfl ?_
    exact kk _ hI
theorem w_1674 : Cond.methodLink "LedgerFilesLaw" 235 yL_release ∈ TB := tp_7 88 (by decide +kernel) rfl
theorem w_1675 : Cond.static yL_release ∈ TB := tp_7 89 (by decide +kernel) rfl
theorem cwh_235 : CwH RL 235 yL_release cL_release 4 (some .int) [(0, 9, 12, 13), (0, 9, 15, 15)] 3 := ⟨w_1674, w_1676, w_146, by decide +kernel, by decide +kernel, by decide, w_1675⟩
set_option maxRecDepth 100000 in
set_option maxHeartbeats 4000000 in
theorem k_release (E : gE) (f : Nat → va_E) (hE : 94 ≤ gN E) (b L : Nat) (xs : Nat → Int32) (cu su h sz i : Nat) (hi : i + 5 < L) (hL2 : L < 2 ^ 31) (hcu : cu + 2 ≤ room_1.cells) (hsu : su + 12 ≤ room_1.slots) (Inv : (Nat → va_E) → Prop) (H : CsI E f yX11_release cX11_release 3 yX12_release cX12_release 2 [.int (xs (i + 1))] [xI, xU] Inv) (kk : ∀ g, Inv g → G E (lwK h sz) code (gL b L xs (cu + 1) (su + 6)) 2804 [(0, .ref (b)), (1, .ref (gAd E (0))), (2, .ref (gAd E (56))), (3, .ref (gAd E (93))), (4, .int (nI i))] [] g) : G E (lwK h sz) code (gL b L xs cu su) 1242 [(0, .ref (b)), (1, .ref (gAd E (0))), (2, .ref (gAd E (56))), (3, .ref (gAd E (93))), (4, .int (nI i))] [] f := by
  obtain ⟨hc, Q, hM, hh, ⟨fs, h0⟩, hn, hx⟩ := H
  refine G.go tv_law_release 5 1248 [(0, .ref (b)), (1, .ref (gAd E (0))), (2, .ref (gAd E (56))), (3, .ref (gAd E (93))), (4, .int (nI i))] [.int ((nI i) + ((1 : Int32))), .ref (b), .ref (gAd E (0))] rfl ?_
  refine G.eqs [.int (nI (i + 1)), .ref (b), .ref (gAd E (0))] (by rw [show (1 : Int32) = nI 1 from rfl, nI_add]) ?_
  refine G.sld lwY_S lwK_A (i + 1) (by omega) hL2 (tbd tv_law_release rfl) ?_
  refine G.go tv_law_release 1 1250 [(0, .ref (b)), (1, .ref (gAd E (0))), (2, .ref (gAd E (56))), (3, .ref (gAd E (93))), (4, .int (nI i))] [.ref (gAd E (93)), .int (xs (i + 1)), .ref (gAd E (0))] rfl ?_
  refine G.callH [.ref (gAd E (0)), .int (xs (i + 1)), .ref (gAd E (93))] [] (h_L_release E f hE (xs (i + 1)) hM hh h0 (fun v g q => by obtain ⟨x, o, h1, h2, -⟩ := hn v g q; exact ⟨x, o, h1, h2⟩) (fun X g q => (xk2 (hx X g q)).elim (fun a => Or.inl a.1) (fun a => Or.inr a.1))) cwh_235 (Nat.le_of_ble_eq_true rfl) (Nat.le_of_ble_eq_true rfl) (by show cu + 1 ≤ room_1.cells; omega) (by show su + 6 ≤ room_1.slots; omega) rfl (Nat.le_of_ble_eq_true rfl) (tbd tv_law_release rfl) (fun v g q => ?_)
  rcases q with ⟨rfl, x, o, g0, q, e93, rfl⟩ | ⟨rfl, q⟩ | ⟨rfl, q⟩
  · refine G.eqs [.int 0] rfl ?_
    obtain ⟨x1, o1, e1, e2, hp⟩ := hn _ _ q
    cases e1
    obtain rfl := oJ_inj (e93.symm.trans e2)
    exact lt_release E _ hE b L xs cu su h sz i hi hL2 hcu hsu Inv 0 hp kk
  · refine G.eqs [.int 1] rfl ?_
    exact lt_release E _ hE b L xs cu su h sz i hi hL2 hcu hsu Inv 1 ((xk2 (hx _ _ q)).elim (fun a => a.2) (fun a => absurd a.1 (by decide))) kk
  · refine G.eqs [.int 2] rfl ?_
    exact lt_release E _ hE b L xs cu su h sz i hi hL2 hcu hsu Inv 2 ((xk2 (hx _ _ q)).elim (fun a => absurd a.1 (by decide)) (fun a => a.2)) kk
def tb_law_read : List (Nat × Instr × Nat) := [(1298, .aload_n 1, 1), (1299, .aload_n 0, 1), (1300, .iload 4, 2), (1302, .iconst 1, 1), (1303, .iadd, 1), (1304, .iaload, 1), (1305, .aload_n 0, 1), (1306, .iload 4, 2), (1308, .iconst 2, 1), (1309, .iadd, 1), (1310, .iaload, 1), (1311, .aload_n 3, 1), (1312, .invokestatic 238, 3), (1315, .istore 5, 2), (1317, .aload_n 2, 1), (1318, .aload_n 0, 1), (1319, .iload 4, 2), (1321, .iconst 1, 1), (1322, .iadd, 1), (1323, .iaload, 1), (1324, .aload_n 0, 1), (1325, .iload 4, 2), (1327, .iconst 2, 1), (1328, .iadd, 1), (1329, .iaload, 1), (1330, .invokevirtual 240, 3), (1333, .istore 6, 2), (1335, .aload_n 2, 1), (1336, .invokevirtual 181, 3), (1339, .iload 5, 2), (1341, .if_icmp .eq 5, 3), (1344, .iconst 0, 1), (1345, .ireturn, 1), (1346, .iload 5, 2), (1348, .ifCond .ne 15, 3), (1351, .aload_n 3, 1), (1352, .iconst 0, 1), (1353, .laload, 1), (1354, .iload 6, 2), (1356, .i2l, 1), (1357, .lcmp, 1), (1358, .ifCond .eq 5, 3), (1361, .iconst 0, 1), (1362, .ireturn, 1), (1363, .goto 1441, 3)]
theorem tv_law_read : Tv code tb_law_read := by
  unfold Tv
  decide +kernel
theorem w_2683 : Cond.methodLink "LedgerFilesLaw" 240 yX12_read ∈ TB := tp_11 137 (by decide +kernel) rfl
theorem w_2686 : Cond.code yX12_read prog_14_method_112_code 4 (some .int) ∈ TB := tp_11 140 rfl rfl
theorem cw_L_240 : Cw RL 240 yX12_read cX12_read 4 (some .int) 2 := ⟨w_2683, w_2686, w_161, by decide +kernel, by decide +kernel, by decide⟩
theorem w_2684 : Cond.instanceMethod yX12_read ∈ TB := tp_11 138 (by decide +kernel) rfl
theorem w_2685 : Cond.selects "LedgerFilesModel" yX12_read yX12_read ∈ TB := tp_11 139 (by decide +kernel) rfl
set_option maxRecDepth 100000 in
set_option maxHeartbeats 4000000 in
theorem lt_read (E : gE) (f : Nat → va_E) (hE : 94 ≤ gN E) (b L : Nat) (xs : Nat → Int32) (cu su h sz i : Nat) (hi : i + 5 < L) (hL2 : L < 2 ^ 31) (hcu : cu + 2 ≤ room_1.cells) (hsu : su + 12 ≤ room_1.slots) (Inv : (Nat → va_E) → Prop) (k : Int32) (H : PmI E yX12_read cX12_read 4 [.int (xs (i + 1)), .int (xs (i + 2))] f k Inv) (kk : ∀ g, Inv g → G E (lwK h sz) code (gL b L xs (cu + 1) (su + 6)) 2804 [(0, .ref (b)), (1, .ref (gAd E (0))), (2, .ref (gAd E (56))), (3, .ref (gAd E (93))), (4, .int (nI i))] [] g) : G E (lwK h sz) code (gL b L xs (cu + 1) (su + 6)) 1315 [(0, .ref (b)), (1, .ref (gAd E (0))), (2, .ref (gAd E (56))), (3, .ref (gAd E (93))), (4, .int (nI i))] [.int k] f := by
  obtain ⟨hc, Q, hM, hh, ⟨fs, h56⟩, hno, hq⟩ := H
  refine G.go tv_law_read 6 1323 [(0, .ref (b)), (1, .ref (gAd E (0))), (2, .ref (gAd E (56))), (3, .ref (gAd E (93))), (4, .int (nI i)), (5, .int (k))] [.int ((nI i) + ((1 : Int32))), .ref (b), .ref (gAd E (56))] rfl ?_
  refine G.eqs [.int (nI (i + 1)), .ref (b), .ref (gAd E (56))] (by rw [show (1 : Int32) = nI 1 from rfl, nI_add]) ?_
  refine G.sld lwY_S lwK_A (i + 1) (by omega) hL2 (tbd tv_law_read rfl) ?_
  refine G.go tv_law_read 4 1329 [(0, .ref (b)), (1, .ref (gAd E (0))), (2, .ref (gAd E (56))), (3, .ref (gAd E (93))), (4, .int (nI i)), (5, .int (k))] [.int ((nI i) + ((2 : Int32))), .ref (b), .int (xs (i + 1)), .ref (gAd E (56))] rfl ?_
  refine G.eqs [.int (nI (i + 2)), .ref (b), .int (xs (i + 1)), .ref (gAd E (56))] (by rw [show (2 : Int32) = nI 2 from rfl, nI_add]) ?_
  refine G.sld lwY_S lwK_A (i + 2) (by omega) hL2 (tbd tv_law_read rfl) ?_
  refine G.callVr 56 [.int (xs (i + 1)), .int (xs (i + 2))] [] hM cls_X12 (by omega) h56 cw_L_240 w_2684 w_2685 (Nat.le_trans (Nat.succ_le_succ hh) (Nat.le_of_ble_eq_true rfl)) (Nat.le_trans (Nat.mul_le_mul_left 64 (Nat.succ_le_succ hh)) (Nat.le_of_ble_eq_true rfl)) (by show (cu + 1) + 1 ≤ room_1.cells; omega) (by show (su + 6) + 6 ≤ room_1.slots; omega) rfl (Nat.le_of_ble_eq_true rfl) (tbd tv_law_read rfl) (fun v u q => ?_) (fun X u q => hno X u q)
  obtain ⟨r, R, rfl, rv, hk, ho, hI⟩ := hq v u q
  refine G.eqs [.int (r)] rfl ?_
  refine G.go tv_law_read 2 1336 [(0, .ref (b)), (1, .ref (gAd E (0))), (2, .ref (gAd E (56))), (3, .ref (gAd E (93))), (4, .int (nI i)), (5, .int (k)), (6, .int (r))] [.ref (gAd E (56))] rfl ?_
  refine G.callVr 56 [] [] (c_X12_thrown E u R hE rv) cls_X12 (by omega) rv.o cw_L_181 w_2251 w_2252 (Nat.le_trans (Nat.succ_le_succ (show 1 ≤ 110 by decide)) (Nat.le_of_ble_eq_true rfl)) (Nat.le_trans (Nat.mul_le_mul_left 64 (Nat.succ_le_succ (show 1 ≤ 110 by decide))) (Nat.le_of_ble_eq_true rfl)) (by show (cu + 1) + 1 ≤ room_1.cells; omega) (by show (su + 6) + 6 ≤ room_1.slots; omega) rfl (Nat.le_of_ble_eq_true rfl) (tbd tv_law_read rfl) (fun v w q => ?_) (fun X w q => q)
  obtain ⟨rfl, rv2, fv2⟩ := q
  obtain rfl := RfV.uniq rv rv2 fv2
  refine G.eqs [.int (rS R 0)] rfl ?_
  refine G.go tv_law_read 1 1341 [(0, .ref (b)), (1, .ref (gAd E (0))), (2, .ref (gAd E (56))), (3, .ref (gAd E (93))), (4, .int (nI i)), (5, .int (k)), (6, .int (r))] [.int (k), .int (rS R 0)] rfl ?_
  refine G.cmp_eq 1346 (tbd tv_law_read rfl) (by decide) (fun c1341 => ?_) (fun c1341 => absurd (hk) c1341)
  refine G.go tv_law_read 1 1348 [(0, .ref (b)), (1, .ref (gAd E (0))), (2, .ref (gAd E (56))), (3, .ref (gAd E (93))), (4, .int (nI i)), (5, .int (k)), (6, .int (r))] [.int (k)] rfl ?_
  refine G.if_ne 1363 (tbd tv_law_read rfl) (by decide) (fun c1348 => ?_) (fun c1348 => ?_)
  · skip
    refine G.go tv_law_read 1 2804 [(0, .ref (b)), (1, .ref (gAd E (0))), (2, .ref (gAd E (56))), (3, .ref (gAd E (93))), (4, .int (nI i)), (5, .int (k)), (6, .int (r))] [] rfl ?_
    refine G.drop [0, 1, 2, 3, 4] rfl ?_
    exact kk _ hI
  · skip
    obtain ⟨o, e93, eo⟩ := ho c1348
    refine G.go tv_law_read 2 1353 [(0, .ref (b)), (1, .ref (gAd E (0))), (2, .ref (gAd E (56))), (3, .ref (gAd E (93))), (4, .int (nI i)), (5, .int (k)), (6, .int (r))] [.int ((0 : Int32)), .ref (gAd E (93))] rfl ?_
    refine G.eqs [.int (nI (0)), .ref (gAd E (93))] (by rw [show (0 : Int32) = nI 0 from rfl]) ?_
    refine G.laldN (93) (0) (by omega) (e93) (by decide) (by decide) (tbd tv_law_read rfl) ?_
    refine G.go tv_law_read 3 1358 [(0, .ref (b)), (1, .ref (gAd E (0))), (2, .ref (gAd E (56))), (3, .ref (gAd E (93))), (4, .int (nI i)), (5, .int (k)), (6, .int (r))] [.int (lg_cmp ((o) (0)) ((r : Int32).toInt64))] rfl ?_
    refine G.if_eq 1363 (tbd tv_law_read rfl) (by decide) (fun c1358 => ?_) (fun c1358 => absurd ((lg_cmp_eq _ _).mpr (eo)) c1358)
    refine G.go tv_law_read 1 2804 [(0, .ref (b)), (1, .ref (gAd E (0))), (2, .ref (gAd E (56))), (3, .ref (gAd E (93))), (4, .int (nI i)), (5, .int (k)), (6, .int (r))] [] rfl ?_
    refine G.drop [0, 1, 2, 3, 4] rfl ?_
    exact kk _ hI
theorem w_1685 : Cond.methodLink "LedgerFilesLaw" 238 yL_read ∈ TB := tp_7 99 (by decide +kernel) rfl
theorem w_1686 : Cond.static yL_read ∈ TB := tp_7 100 (by decide +kernel) rfl
theorem cwh_238 : CwH RL 238 yL_read cL_read 5 (some .int) [(0, 10, 13, 13)] 4 := ⟨w_1685, w_1687, w_146, by decide +kernel, by decide +kernel, by decide, w_1686⟩
set_option maxRecDepth 100000 in
set_option maxHeartbeats 4000000 in
theorem k_read (E : gE) (f : Nat → va_E) (hE : 94 ≤ gN E) (b L : Nat) (xs : Nat → Int32) (cu su h sz i : Nat) (hi : i + 5 < L) (hL2 : L < 2 ^ 31) (hcu : cu + 2 ≤ room_1.cells) (hsu : su + 12 ≤ room_1.slots) (Inv : (Nat → va_E) → Prop) (H : CsI E f yX11_read cX11_read 3 yX12_read cX12_read 4 [.int (xs (i + 1)), .int (xs (i + 2))] [xI] Inv) (kk : ∀ g, Inv g → G E (lwK h sz) code (gL b L xs (cu + 1) (su + 6)) 2804 [(0, .ref (b)), (1, .ref (gAd E (0))), (2, .ref (gAd E (56))), (3, .ref (gAd E (93))), (4, .int (nI i))] [] g) : G E (lwK h sz) code (gL b L xs cu su) 1298 [(0, .ref (b)), (1, .ref (gAd E (0))), (2, .ref (gAd E (56))), (3, .ref (gAd E (93))), (4, .int (nI i))] [] f := by
  obtain ⟨hc, Q, hM, hh, ⟨fs, h0⟩, hn, hx⟩ := H
  refine G.go tv_law_read 5 1304 [(0, .ref (b)), (1, .ref (gAd E (0))), (2, .ref (gAd E (56))), (3, .ref (gAd E (93))), (4, .int (nI i))] [.int ((nI i) + ((1 : Int32))), .ref (b), .ref (gAd E (0))] rfl ?_
  refine G.eqs [.int (nI (i + 1)), .ref (b), .ref (gAd E (0))] (by rw [show (1 : Int32) = nI 1 from rfl, nI_add]) ?_
  refine G.sld lwY_S lwK_A (i + 1) (by omega) hL2 (tbd tv_law_read rfl) ?_
  refine G.go tv_law_read 4 1310 [(0, .ref (b)), (1, .ref (gAd E (0))), (2, .ref (gAd E (56))), (3, .ref (gAd E (93))), (4, .int (nI i))] [.int ((nI i) + ((2 : Int32))), .ref (b), .int (xs (i + 1)), .ref (gAd E (0))] rfl ?_
  refine G.eqs [.int (nI (i + 2)), .ref (b), .int (xs (i + 1)), .ref (gAd E (0))] (by rw [show (2 : Int32) = nI 2 from rfl, nI_add]) ?_
  refine G.sld lwY_S lwK_A (i + 2) (by omega) hL2 (tbd tv_law_read rfl) ?_
  refine G.go tv_law_read 1 1312 [(0, .ref (b)), (1, .ref (gAd E (0))), (2, .ref (gAd E (56))), (3, .ref (gAd E (93))), (4, .int (nI i))] [.ref (gAd E (93)), .int (xs (i + 2)), .int (xs (i + 1)), .ref (gAd E (0))] rfl ?_
  refine G.callH [.ref (gAd E (0)), .int (xs (i + 1)), .int (xs (i + 2)), .ref (gAd E (93))] [] (h_L_read E f hE (xs (i + 1)) (xs (i + 2)) hM hh h0 (fun v g q => by obtain ⟨x, o, h1, h2, -⟩ := hn v g q; exact ⟨x, o, h1, h2⟩) (fun X g q => (xk1 (hx X g q)).1)) cwh_238 (Nat.le_of_ble_eq_true rfl) (Nat.le_of_ble_eq_true rfl) (by show cu + 1 ≤ room_1.cells; omega) (by show su + 6 ≤ room_1.slots; omega) rfl (Nat.le_of_ble_eq_true rfl) (tbd tv_law_read rfl) (fun v g q => ?_)
  rcases q with ⟨rfl, x, o, g0, q, e93, rfl⟩ | ⟨rfl, q⟩
  · refine G.eqs [.int 0] rfl ?_
    obtain ⟨x1, o1, e1, e2, hp⟩ := hn _ _ q
    cases e1
    obtain rfl := oJ_inj (e93.symm.trans e2)
    exact lt_read E _ hE b L xs cu su h sz i hi hL2 hcu hsu Inv 0 hp kk
  · refine G.eqs [.int 1] rfl ?_
    exact lt_read E _ hE b L xs cu su h sz i hi hL2 hcu hsu Inv 1 (xk1 (hx _ _ q)).2 kk
def tb_law_about : List (Nat × Instr × Nat) := [(1366, .aload_n 1, 1), (1367, .aload_n 0, 1), (1368, .iload 4, 2), (1370, .iconst 1, 1), (1371, .iadd, 1), (1372, .iaload, 1), (1373, .aload_n 0, 1), (1374, .iload 4, 2), (1376, .iconst 2, 1), (1377, .iadd, 1), (1378, .iaload, 1), (1379, .aload_n 3, 1), (1380, .invokestatic 241, 3), (1383, .istore 5, 2), (1385, .aload_n 2, 1), (1386, .aload_n 0, 1), (1387, .iload 4, 2), (1389, .iconst 1, 1), (1390, .iadd, 1), (1391, .iaload, 1), (1392, .aload_n 0, 1), (1393, .iload 4, 2), (1395, .iconst 2, 1), (1396, .iadd, 1), (1397, .iaload, 1), (1398, .invokevirtual 243, 3), (1401, .istore 6, 2), (1403, .aload_n 2, 1), (1404, .invokevirtual 181, 3), (1407, .iload 5, 2), (1409, .if_icmp .eq 5, 3), (1412, .iconst 0, 1), (1413, .ireturn, 1), (1414, .iload 5, 2), (1416, .ifCond .ne 15, 3), (1419, .aload_n 3, 1), (1420, .iconst 0, 1), (1421, .laload, 1), (1422, .iload 6, 2), (1424, .i2l, 1), (1425, .lcmp, 1), (1426, .ifCond .eq 5, 3), (1429, .iconst 0, 1), (1430, .ireturn, 1), (1431, .goto 1373, 3)]
theorem tv_law_about : Tv code tb_law_about := by
  unfold Tv
  decide +kernel
theorem w_2687 : Cond.methodLink "LedgerFilesLaw" 243 yX12_about ∈ TB := tp_11 141 (by decide +kernel) rfl
theorem w_2690 : Cond.code yX12_about prog_14_method_115_code 4 (some .int) ∈ TB := tp_11 144 rfl rfl
theorem cw_L_243 : Cw RL 243 yX12_about cX12_about 4 (some .int) 2 := ⟨w_2687, w_2690, w_161, by decide +kernel, by decide +kernel, by decide⟩
theorem w_2688 : Cond.instanceMethod yX12_about ∈ TB := tp_11 142 (by decide +kernel) rfl
theorem w_2689 : Cond.selects "LedgerFilesModel" yX12_about yX12_about ∈ TB := tp_11 143 (by decide +kernel) rfl
set_option maxRecDepth 100000 in
set_option maxHeartbeats 4000000 in
theorem lt_about (E : gE) (f : Nat → va_E) (hE : 94 ≤ gN E) (b L : Nat) (xs : Nat → Int32) (cu su h sz i : Nat) (hi : i + 5 < L) (hL2 : L < 2 ^ 31) (hcu : cu + 2 ≤ room_1.cells) (hsu : su + 12 ≤ room_1.slots) (Inv : (Nat → va_E) → Prop) (k : Int32) (H : PmI E yX12_about cX12_about 4 [.int (xs (i + 1)), .int (xs (i + 2))] f k Inv) (kk : ∀ g, Inv g → G E (lwK h sz) code (gL b L xs (cu + 1) (su + 6)) 2804 [(0, .ref (b)), (1, .ref (gAd E (0))), (2, .ref (gAd E (56))), (3, .ref (gAd E (93))), (4, .int (nI i))] [] g) : G E (lwK h sz) code (gL b L xs (cu + 1) (su + 6)) 1383 [(0, .ref (b)), (1, .ref (gAd E (0))), (2, .ref (gAd E (56))), (3, .ref (gAd E (93))), (4, .int (nI i))] [.int k] f := by
  obtain ⟨hc, Q, hM, hh, ⟨fs, h56⟩, hno, hq⟩ := H
  refine G.go tv_law_about 6 1391 [(0, .ref (b)), (1, .ref (gAd E (0))), (2, .ref (gAd E (56))), (3, .ref (gAd E (93))), (4, .int (nI i)), (5, .int (k))] [.int ((nI i) + ((1 : Int32))), .ref (b), .ref (gAd E (56))] rfl ?_
  refine G.eqs [.int (nI (i + 1)), .ref (b), .ref (gAd E (56))] (by rw [show (1 : Int32) = nI 1 from rfl, nI_add]) ?_
  refine G.sld lwY_S lwK_A (i + 1) (by omega) hL2 (tbd tv_law_about rfl) ?_
  refine G.go tv_law_about 4 1397 [(0, .ref (b)), (1, .ref (gAd E (0))), (2, .ref (gAd E (56))), (3, .ref (gAd E (93))), (4, .int (nI i)), (5, .int (k))] [.int ((nI i) + ((2 : Int32))), .ref (b), .int (xs (i + 1)), .ref (gAd E (56))] rfl ?_
  refine G.eqs [.int (nI (i + 2)), .ref (b), .int (xs (i + 1)), .ref (gAd E (56))] (by rw [show (2 : Int32) = nI 2 from rfl, nI_add]) ?_
  refine G.sld lwY_S lwK_A (i + 2) (by omega) hL2 (tbd tv_law_about rfl) ?_
  refine G.callVr 56 [.int (xs (i + 1)), .int (xs (i + 2))] [] hM cls_X12 (by omega) h56 cw_L_243 w_2688 w_2689 (Nat.le_trans (Nat.succ_le_succ hh) (Nat.le_of_ble_eq_true rfl)) (Nat.le_trans (Nat.mul_le_mul_left 64 (Nat.succ_le_succ hh)) (Nat.le_of_ble_eq_true rfl)) (by show (cu + 1) + 1 ≤ room_1.cells; omega) (by show (su + 6) + 6 ≤ room_1.slots; omega) rfl (Nat.le_of_ble_eq_true rfl) (tbd tv_law_about rfl) (fun v u q => ?_) (fun X u q => hno X u q)
  obtain ⟨r, R, rfl, rv, hk, ho, hI⟩ := hq v u q
  refine G.eqs [.int (r)] rfl ?_
  refine G.go tv_law_about 2 1404 [(0, .ref (b)), (1, .ref (gAd E (0))), (2, .ref (gAd E (56))), (3, .ref (gAd E (93))), (4, .int (nI i)), (5, .int (k)), (6, .int (r))] [.ref (gAd E (56))] rfl ?_
  refine G.callVr 56 [] [] (c_X12_thrown E u R hE rv) cls_X12 (by omega) rv.o cw_L_181 w_2251 w_2252 (Nat.le_trans (Nat.succ_le_succ (show 1 ≤ 110 by decide)) (Nat.le_of_ble_eq_true rfl)) (Nat.le_trans (Nat.mul_le_mul_left 64 (Nat.succ_le_succ (show 1 ≤ 110 by decide))) (Nat.le_of_ble_eq_true rfl)) (by show (cu + 1) + 1 ≤ room_1.cells; omega) (by show (su + 6) + 6 ≤ room_1.slots; omega) rfl (Nat.le_of_ble_eq_true rfl) (tbd tv_law_about rfl) (fun v w q => ?_) (fun X w q => q)
  obtain ⟨rfl, rv2, fv2⟩ := q
  obtain rfl := RfV.uniq rv rv2 fv2
  refine G.eqs [.int (rS R 0)] rfl ?_
  refine G.go tv_law_about 1 1409 [(0, .ref (b)), (1, .ref (gAd E (0))), (2, .ref (gAd E (56))), (3, .ref (gAd E (93))), (4, .int (nI i)), (5, .int (k)), (6, .int (r))] [.int (k), .int (rS R 0)] rfl ?_
  refine G.cmp_eq 1414 (tbd tv_law_about rfl) (by decide) (fun c1409 => ?_) (fun c1409 => absurd (hk) c1409)
  refine G.go tv_law_about 1 1416 [(0, .ref (b)), (1, .ref (gAd E (0))), (2, .ref (gAd E (56))), (3, .ref (gAd E (93))), (4, .int (nI i)), (5, .int (k)), (6, .int (r))] [.int (k)] rfl ?_
  refine G.if_ne 1431 (tbd tv_law_about rfl) (by decide) (fun c1416 => ?_) (fun c1416 => ?_)
  · skip
    refine G.go tv_law_about 1 2804 [(0, .ref (b)), (1, .ref (gAd E (0))), (2, .ref (gAd E (56))), (3, .ref (gAd E (93))), (4, .int (nI i)), (5, .int (k)), (6, .int (r))] [] rfl ?_
    refine G.drop [0, 1, 2, 3, 4] rfl ?_
    exact kk _ hI
  · skip
    obtain ⟨o, e93, eo⟩ := ho c1416
    refine G.go tv_law_about 2 1421 [(0, .ref (b)), (1, .ref (gAd E (0))), (2, .ref (gAd E (56))), (3, .ref (gAd E (93))), (4, .int (nI i)), (5, .int (k)), (6, .int (r))] [.int ((0 : Int32)), .ref (gAd E (93))] rfl ?_
    refine G.eqs [.int (nI (0)), .ref (gAd E (93))] (by rw [show (0 : Int32) = nI 0 from rfl]) ?_
    refine G.laldN (93) (0) (by omega) (e93) (by decide) (by decide) (tbd tv_law_about rfl) ?_
    refine G.go tv_law_about 3 1426 [(0, .ref (b)), (1, .ref (gAd E (0))), (2, .ref (gAd E (56))), (3, .ref (gAd E (93))), (4, .int (nI i)), (5, .int (k)), (6, .int (r))] [.int (lg_cmp ((o) (0)) ((r : Int32).toInt64))] rfl ?_
    refine G.if_eq 1431 (tbd tv_law_about rfl) (by decide) (fun c1426 => ?_) (fun c1426 => absurd ((lg_cmp_eq _ _).mpr (eo)) c1426)
    refine G.go tv_law_about 1 2804 [(0, .ref (b)), (1, .ref (gAd E (0))), (2, .ref (gAd E (56))), (3, .ref (gAd E (93))), (4, .int (nI i)), (5, .int (k)), (6, .int (r))] [] rfl ?_
    refine G.drop [0, 1, 2, 3, 4] rfl ?_
    exact kk _ hI
theorem w_1696 : Cond.methodLink "LedgerFilesLaw" 241 yL_about ∈ TB := tp_7 110 (by decide +kernel) rfl
theorem w_1697 : Cond.static yL_about ∈ TB := tp_7 111 (by decide +kernel) rfl
theorem cwh_241 : CwH RL 241 yL_about cL_about 5 (some .int) [(0, 10, 13, 13), (0, 10, 17, 20)] 4 := ⟨w_1696, w_1698, w_146, by decide +kernel, by decide +kernel, by decide, w_1697⟩
set_option maxRecDepth 100000 in
set_option maxHeartbeats 4000000 in
theorem k_about (E : gE) (f : Nat → va_E) (hE : 94 ≤ gN E) (b L : Nat) (xs : Nat → Int32) (cu su h sz i : Nat) (hi : i + 5 < L) (hL2 : L < 2 ^ 31) (hcu : cu + 2 ≤ room_1.cells) (hsu : su + 12 ≤ room_1.slots) (Inv : (Nat → va_E) → Prop) (H : CsI E f yX11_about cX11_about 4 yX12_about cX12_about 4 [.int (xs (i + 1)), .int (xs (i + 2))] [xI, xA] Inv) (kk : ∀ g, Inv g → G E (lwK h sz) code (gL b L xs (cu + 1) (su + 6)) 2804 [(0, .ref (b)), (1, .ref (gAd E (0))), (2, .ref (gAd E (56))), (3, .ref (gAd E (93))), (4, .int (nI i))] [] g) : G E (lwK h sz) code (gL b L xs cu su) 1366 [(0, .ref (b)), (1, .ref (gAd E (0))), (2, .ref (gAd E (56))), (3, .ref (gAd E (93))), (4, .int (nI i))] [] f := by
  obtain ⟨hc, Q, hM, hh, ⟨fs, h0⟩, hn, hx⟩ := H
  refine G.go tv_law_about 5 1372 [(0, .ref (b)), (1, .ref (gAd E (0))), (2, .ref (gAd E (56))), (3, .ref (gAd E (93))), (4, .int (nI i))] [.int ((nI i) + ((1 : Int32))), .ref (b), .ref (gAd E (0))] rfl ?_
  refine G.eqs [.int (nI (i + 1)), .ref (b), .ref (gAd E (0))] (by rw [show (1 : Int32) = nI 1 from rfl, nI_add]) ?_
  refine G.sld lwY_S lwK_A (i + 1) (by omega) hL2 (tbd tv_law_about rfl) ?_
  refine G.go tv_law_about 4 1378 [(0, .ref (b)), (1, .ref (gAd E (0))), (2, .ref (gAd E (56))), (3, .ref (gAd E (93))), (4, .int (nI i))] [.int ((nI i) + ((2 : Int32))), .ref (b), .int (xs (i + 1)), .ref (gAd E (0))] rfl ?_
  refine G.eqs [.int (nI (i + 2)), .ref (b), .int (xs (i + 1)), .ref (gAd E (0))] (by rw [show (2 : Int32) = nI 2 from rfl, nI_add]) ?_
  refine G.sld lwY_S lwK_A (i + 2) (by omega) hL2 (tbd tv_law_about rfl) ?_
  refine G.go tv_law_about 1 1380 [(0, .ref (b)), (1, .ref (gAd E (0))), (2, .ref (gAd E (56))), (3, .ref (gAd E (93))), (4, .int (nI i))] [.ref (gAd E (93)), .int (xs (i + 2)), .int (xs (i + 1)), .ref (gAd E (0))] rfl ?_
  refine G.callH [.ref (gAd E (0)), .int (xs (i + 1)), .int (xs (i + 2)), .ref (gAd E (93))] [] (h_L_about E f hE (xs (i + 1)) (xs (i + 2)) hM hh h0 (fun v g q => by obtain ⟨x, o, h1, h2, -⟩ := hn v g q; exact ⟨x, o, h1, h2⟩) (fun X g q => (xk2 (hx X g q)).elim (fun a => Or.inl a.1) (fun a => Or.inr a.1))) cwh_241 (Nat.le_of_ble_eq_true rfl) (Nat.le_of_ble_eq_true rfl) (by show cu + 1 ≤ room_1.cells; omega) (by show su + 6 ≤ room_1.slots; omega) rfl (Nat.le_of_ble_eq_true rfl) (tbd tv_law_about rfl) (fun v g q => ?_)
  rcases q with ⟨rfl, x, o, g0, q, e93, rfl⟩ | ⟨rfl, q⟩ | ⟨rfl, q⟩
  · refine G.eqs [.int 0] rfl ?_
    obtain ⟨x1, o1, e1, e2, hp⟩ := hn _ _ q
    cases e1
    obtain rfl := oJ_inj (e93.symm.trans e2)
    exact lt_about E _ hE b L xs cu su h sz i hi hL2 hcu hsu Inv 0 hp kk
  · refine G.eqs [.int 1] rfl ?_
    exact lt_about E _ hE b L xs cu su h sz i hi hL2 hcu hsu Inv 1 ((xk2 (hx _ _ q)).elim (fun a => a.2) (fun a => absurd a.1 (by decide))) kk
  · refine G.eqs [.int 2] rfl ?_
    exact lt_about E _ hE b L xs cu su h sz i hi hL2 hcu hsu Inv 2 ((xk2 (hx _ _ q)).elim (fun a => absurd a.1 (by decide)) (fun a => a.2)) kk
def tb_law_where : List (Nat × Instr × Nat) := [(1434, .aload_n 1, 1), (1435, .aload_n 0, 1), (1436, .iload 4, 2), (1438, .iconst 1, 1), (1439, .iadd, 1), (1440, .iaload, 1), (1441, .aload_n 0, 1), (1442, .iload 4, 2), (1444, .iconst 2, 1), (1445, .iadd, 1), (1446, .iaload, 1), (1447, .aload_n 3, 1), (1448, .invokestatic 244, 3), (1451, .istore 5, 2), (1453, .aload_n 2, 1), (1454, .aload_n 0, 1), (1455, .iload 4, 2), (1457, .iconst 1, 1), (1458, .iadd, 1), (1459, .iaload, 1), (1460, .aload_n 0, 1), (1461, .iload 4, 2), (1463, .iconst 2, 1), (1464, .iadd, 1), (1465, .iaload, 1), (1466, .invokevirtual 246, 3), (1469, .istore 6, 2), (1471, .aload_n 2, 1), (1472, .invokevirtual 181, 3), (1475, .iload 5, 2), (1477, .if_icmp .eq 5, 3), (1480, .iconst 0, 1), (1481, .ireturn, 1), (1482, .iload 5, 2), (1484, .ifCond .ne 15, 3), (1487, .aload_n 3, 1), (1488, .iconst 0, 1), (1489, .laload, 1), (1490, .iload 6, 2), (1492, .i2l, 1), (1493, .lcmp, 1), (1494, .ifCond .eq 5, 3), (1497, .iconst 0, 1), (1498, .ireturn, 1), (1499, .goto 1305, 3)]
theorem tv_law_where : Tv code tb_law_where := by
  unfold Tv
  decide +kernel
theorem w_2699 : Cond.methodLink "LedgerFilesLaw" 246 yX12_where ∈ TB := tp_11 153 (by decide +kernel) rfl
theorem w_2702 : Cond.code yX12_where prog_14_method_116_code 3 (some .int) ∈ TB := tp_11 156 rfl rfl
theorem cw_L_246 : Cw RL 246 yX12_where cX12_where 3 (some .int) 2 := ⟨w_2699, w_2702, w_161, by decide +kernel, by decide +kernel, by decide⟩
theorem w_2700 : Cond.instanceMethod yX12_where ∈ TB := tp_11 154 (by decide +kernel) rfl
theorem w_2701 : Cond.selects "LedgerFilesModel" yX12_where yX12_where ∈ TB := tp_11 155 (by decide +kernel) rfl
set_option maxRecDepth 100000 in
set_option maxHeartbeats 4000000 in
theorem lt_where (E : gE) (f : Nat → va_E) (hE : 94 ≤ gN E) (b L : Nat) (xs : Nat → Int32) (cu su h sz i : Nat) (hi : i + 5 < L) (hL2 : L < 2 ^ 31) (hcu : cu + 2 ≤ room_1.cells) (hsu : su + 12 ≤ room_1.slots) (Inv : (Nat → va_E) → Prop) (k : Int32) (H : PmI E yX12_where cX12_where 3 [.int (xs (i + 1)), .int (xs (i + 2))] f k Inv) (kk : ∀ g, Inv g → G E (lwK h sz) code (gL b L xs (cu + 1) (su + 6)) 2804 [(0, .ref (b)), (1, .ref (gAd E (0))), (2, .ref (gAd E (56))), (3, .ref (gAd E (93))), (4, .int (nI i))] [] g) : G E (lwK h sz) code (gL b L xs (cu + 1) (su + 6)) 1451 [(0, .ref (b)), (1, .ref (gAd E (0))), (2, .ref (gAd E (56))), (3, .ref (gAd E (93))), (4, .int (nI i))] [.int k] f := by
  obtain ⟨hc, Q, hM, hh, ⟨fs, h56⟩, hno, hq⟩ := H
  refine G.go tv_law_where 6 1459 [(0, .ref (b)), (1, .ref (gAd E (0))), (2, .ref (gAd E (56))), (3, .ref (gAd E (93))), (4, .int (nI i)), (5, .int (k))] [.int ((nI i) + ((1 : Int32))), .ref (b), .ref (gAd E (56))] rfl ?_
  refine G.eqs [.int (nI (i + 1)), .ref (b), .ref (gAd E (56))] (by rw [show (1 : Int32) = nI 1 from rfl, nI_add]) ?_
  refine G.sld lwY_S lwK_A (i + 1) (by omega) hL2 (tbd tv_law_where rfl) ?_
  refine G.go tv_law_where 4 1465 [(0, .ref (b)), (1, .ref (gAd E (0))), (2, .ref (gAd E (56))), (3, .ref (gAd E (93))), (4, .int (nI i)), (5, .int (k))] [.int ((nI i) + ((2 : Int32))), .ref (b), .int (xs (i + 1)), .ref (gAd E (56))] rfl ?_
  refine G.eqs [.int (nI (i + 2)), .ref (b), .int (xs (i + 1)), .ref (gAd E (56))] (by rw [show (2 : Int32) = nI 2 from rfl, nI_add]) ?_
  refine G.sld lwY_S lwK_A (i + 2) (by omega) hL2 (tbd tv_law_where rfl) ?_
  refine G.callVr 56 [.int (xs (i + 1)), .int (xs (i + 2))] [] hM cls_X12 (by omega) h56 cw_L_246 w_2700 w_2701 (Nat.le_trans (Nat.succ_le_succ hh) (Nat.le_of_ble_eq_true rfl)) (Nat.le_trans (Nat.mul_le_mul_left 64 (Nat.succ_le_succ hh)) (Nat.le_of_ble_eq_true rfl)) (by show (cu + 1) + 1 ≤ room_1.cells; omega) (by show (su + 6) + 6 ≤ room_1.slots; omega) rfl (Nat.le_of_ble_eq_true rfl) (tbd tv_law_where rfl) (fun v u q => ?_) (fun X u q => hno X u q)
  obtain ⟨r, R, rfl, rv, hk, ho, hI⟩ := hq v u q
  refine G.eqs [.int (r)] rfl ?_
  refine G.go tv_law_where 2 1472 [(0, .ref (b)), (1, .ref (gAd E (0))), (2, .ref (gAd E (56))), (3, .ref (gAd E (93))), (4, .int (nI i)), (5, .int (k)), (6, .int (r))] [.ref (gAd E (56))] rfl ?_
  refine G.callVr 56 [] [] (c_X12_thrown E u R hE rv) cls_X12 (by omega) rv.o cw_L_181 w_2251 w_2252 (Nat.le_trans (Nat.succ_le_succ (show 1 ≤ 110 by decide)) (Nat.le_of_ble_eq_true rfl)) (Nat.le_trans (Nat.mul_le_mul_left 64 (Nat.succ_le_succ (show 1 ≤ 110 by decide))) (Nat.le_of_ble_eq_true rfl)) (by show (cu + 1) + 1 ≤ room_1.cells; omega) (by show (su + 6) + 6 ≤ room_1.slots; omega) rfl (Nat.le_of_ble_eq_true rfl) (tbd tv_law_where rfl) (fun v w q => ?_) (fun X w q => q)
  obtain ⟨rfl, rv2, fv2⟩ := q
  obtain rfl := RfV.uniq rv rv2 fv2
  refine G.eqs [.int (rS R 0)] rfl ?_
  refine G.go tv_law_where 1 1477 [(0, .ref (b)), (1, .ref (gAd E (0))), (2, .ref (gAd E (56))), (3, .ref (gAd E (93))), (4, .int (nI i)), (5, .int (k)), (6, .int (r))] [.int (k), .int (rS R 0)] rfl ?_
  refine G.cmp_eq 1482 (tbd tv_law_where rfl) (by decide) (fun c1477 => ?_) (fun c1477 => absurd (hk) c1477)
  refine G.go tv_law_where 1 1484 [(0, .ref (b)), (1, .ref (gAd E (0))), (2, .ref (gAd E (56))), (3, .ref (gAd E (93))), (4, .int (nI i)), (5, .int (k)), (6, .int (r))] [.int (k)] rfl ?_
  refine G.if_ne 1499 (tbd tv_law_where rfl) (by decide) (fun c1484 => ?_) (fun c1484 => ?_)
  · skip
    refine G.go tv_law_where 1 2804 [(0, .ref (b)), (1, .ref (gAd E (0))), (2, .ref (gAd E (56))), (3, .ref (gAd E (93))), (4, .int (nI i)), (5, .int (k)), (6, .int (r))] [] rfl ?_
    refine G.drop [0, 1, 2, 3, 4] rfl ?_
    exact kk _ hI
  · skip
    obtain ⟨o, e93, eo⟩ := ho c1484
    refine G.go tv_law_where 2 1489 [(0, .ref (b)), (1, .ref (gAd E (0))), (2, .ref (gAd E (56))), (3, .ref (gAd E (93))), (4, .int (nI i)), (5, .int (k)), (6, .int (r))] [.int ((0 : Int32)), .ref (gAd E (93))] rfl ?_
    refine G.eqs [.int (nI (0)), .ref (gAd E (93))] (by rw [show (0 : Int32) = nI 0 from rfl]) ?_
    refine G.laldN (93) (0) (by omega) (e93) (by decide) (by decide) (tbd tv_law_where rfl) ?_
    refine G.go tv_law_where 3 1494 [(0, .ref (b)), (1, .ref (gAd E (0))), (2, .ref (gAd E (56))), (3, .ref (gAd E (93))), (4, .int (nI i)), (5, .int (k)), (6, .int (r))] [.int (lg_cmp ((o) (0)) ((r : Int32).toInt64))] rfl ?_
    refine G.if_eq 1499 (tbd tv_law_where rfl) (by decide) (fun c1494 => ?_) (fun c1494 => absurd ((lg_cmp_eq _ _).mpr (eo)) c1494)
    refine G.go tv_law_where 1 2804 [(0, .ref (b)), (1, .ref (gAd E (0))), (2, .ref (gAd E (56))), (3, .ref (gAd E (93))), (4, .int (nI i)), (5, .int (k)), (6, .int (r))] [] rfl ?_
    refine G.drop [0, 1, 2, 3, 4] rfl ?_
    exact kk _ hI
theorem w_1709 : Cond.methodLink "LedgerFilesLaw" 244 yL_where ∈ TB := tp_7 123 (by decide +kernel) rfl
theorem w_1710 : Cond.static yL_where ∈ TB := tp_7 124 (by decide +kernel) rfl
theorem cwh_244 : CwH RL 244 yL_where cL_where 5 (some .int) [(0, 10, 13, 13), (0, 10, 17, 20)] 4 := ⟨w_1709, w_1711, w_146, by decide +kernel, by decide +kernel, by decide, w_1710⟩
set_option maxRecDepth 100000 in
set_option maxHeartbeats 4000000 in
theorem k_where (E : gE) (f : Nat → va_E) (hE : 94 ≤ gN E) (b L : Nat) (xs : Nat → Int32) (cu su h sz i : Nat) (hi : i + 5 < L) (hL2 : L < 2 ^ 31) (hcu : cu + 2 ≤ room_1.cells) (hsu : su + 12 ≤ room_1.slots) (Inv : (Nat → va_E) → Prop) (H : CsI E f yX11_where cX11_where 3 yX12_where cX12_where 3 [.int (xs (i + 1)), .int (xs (i + 2))] [xI, xA] Inv) (kk : ∀ g, Inv g → G E (lwK h sz) code (gL b L xs (cu + 1) (su + 6)) 2804 [(0, .ref (b)), (1, .ref (gAd E (0))), (2, .ref (gAd E (56))), (3, .ref (gAd E (93))), (4, .int (nI i))] [] g) : G E (lwK h sz) code (gL b L xs cu su) 1434 [(0, .ref (b)), (1, .ref (gAd E (0))), (2, .ref (gAd E (56))), (3, .ref (gAd E (93))), (4, .int (nI i))] [] f := by
  obtain ⟨hc, Q, hM, hh, ⟨fs, h0⟩, hn, hx⟩ := H
  refine G.go tv_law_where 5 1440 [(0, .ref (b)), (1, .ref (gAd E (0))), (2, .ref (gAd E (56))), (3, .ref (gAd E (93))), (4, .int (nI i))] [.int ((nI i) + ((1 : Int32))), .ref (b), .ref (gAd E (0))] rfl ?_
  refine G.eqs [.int (nI (i + 1)), .ref (b), .ref (gAd E (0))] (by rw [show (1 : Int32) = nI 1 from rfl, nI_add]) ?_
  refine G.sld lwY_S lwK_A (i + 1) (by omega) hL2 (tbd tv_law_where rfl) ?_
  refine G.go tv_law_where 4 1446 [(0, .ref (b)), (1, .ref (gAd E (0))), (2, .ref (gAd E (56))), (3, .ref (gAd E (93))), (4, .int (nI i))] [.int ((nI i) + ((2 : Int32))), .ref (b), .int (xs (i + 1)), .ref (gAd E (0))] rfl ?_
  refine G.eqs [.int (nI (i + 2)), .ref (b), .int (xs (i + 1)), .ref (gAd E (0))] (by rw [show (2 : Int32) = nI 2 from rfl, nI_add]) ?_
  refine G.sld lwY_S lwK_A (i + 2) (by omega) hL2 (tbd tv_law_where rfl) ?_
  refine G.go tv_law_where 1 1448 [(0, .ref (b)), (1, .ref (gAd E (0))), (2, .ref (gAd E (56))), (3, .ref (gAd E (93))), (4, .int (nI i))] [.ref (gAd E (93)), .int (xs (i + 2)), .int (xs (i + 1)), .ref (gAd E (0))] rfl ?_
  refine G.callH [.ref (gAd E (0)), .int (xs (i + 1)), .int (xs (i + 2)), .ref (gAd E (93))] [] (h_L_where E f hE (xs (i + 1)) (xs (i + 2)) hM hh h0 (fun v g q => by obtain ⟨x, o, h1, h2, -⟩ := hn v g q; exact ⟨x, o, h1, h2⟩) (fun X g q => (xk2 (hx X g q)).elim (fun a => Or.inl a.1) (fun a => Or.inr a.1))) cwh_244 (Nat.le_of_ble_eq_true rfl) (Nat.le_of_ble_eq_true rfl) (by show cu + 1 ≤ room_1.cells; omega) (by show su + 6 ≤ room_1.slots; omega) rfl (Nat.le_of_ble_eq_true rfl) (tbd tv_law_where rfl) (fun v g q => ?_)
  rcases q with ⟨rfl, x, o, g0, q, e93, rfl⟩ | ⟨rfl, q⟩ | ⟨rfl, q⟩
  · refine G.eqs [.int 0] rfl ?_
    obtain ⟨x1, o1, e1, e2, hp⟩ := hn _ _ q
    cases e1
    obtain rfl := oJ_inj (e93.symm.trans e2)
    exact lt_where E _ hE b L xs cu su h sz i hi hL2 hcu hsu Inv 0 hp kk
  · refine G.eqs [.int 1] rfl ?_
    exact lt_where E _ hE b L xs cu su h sz i hi hL2 hcu hsu Inv 1 ((xk2 (hx _ _ q)).elim (fun a => a.2) (fun a => absurd a.1 (by decide))) kk
  · refine G.eqs [.int 2] rfl ?_
    exact lt_where E _ hE b L xs cu su h sz i hi hL2 hcu hsu Inv 2 ((xk2 (hx _ _ q)).elim (fun a => absurd a.1 (by decide)) (fun a => a.2)) kk
def tb_law_entry : List (Nat × Instr × Nat) := [(1502, .aload_n 1, 1), (1503, .aload_n 0, 1), (1504, .iload 4, 2), (1506, .iconst 1, 1), (1507, .iadd, 1), (1508, .iaload, 1), (1509, .aload_n 0, 1), (1510, .iload 4, 2), (1512, .iconst 2, 1), (1513, .iadd, 1), (1514, .iaload, 1), (1515, .aload_n 3, 1), (1516, .invokestatic 247, 3), (1519, .istore 5, 2), (1521, .aload_n 2, 1), (1522, .aload_n 0, 1), (1523, .iload 4, 2), (1525, .iconst 1, 1), (1526, .iadd, 1), (1527, .iaload, 1), (1528, .aload_n 0, 1), (1529, .iload 4, 2), (1531, .iconst 2, 1), (1532, .iadd, 1), (1533, .iaload, 1), (1534, .invokevirtual 249, 3), (1537, .istore 6, 2), (1539, .aload_n 2, 1), (1540, .invokevirtual 181, 3), (1543, .iload 5, 2), (1545, .if_icmp .eq 5, 3), (1548, .iconst 0, 1), (1549, .ireturn, 1), (1550, .iload 5, 2), (1552, .ifCond .ne 15, 3), (1555, .aload_n 3, 1), (1556, .iconst 0, 1), (1557, .laload, 1), (1558, .iload 6, 2), (1560, .i2l, 1), (1561, .lcmp, 1), (1562, .ifCond .eq 5, 3), (1565, .iconst 0, 1), (1566, .ireturn, 1), (1567, .goto 1237, 3)]
theorem tv_law_entry : Tv code tb_law_entry := by
  unfold Tv
  decide +kernel
theorem w_2703 : Cond.methodLink "LedgerFilesLaw" 249 yX12_entry ∈ TB := tp_11 157 (by decide +kernel) rfl
theorem w_2706 : Cond.code yX12_entry prog_14_method_118_code 4 (some .int) ∈ TB := tp_11 160 rfl rfl
theorem cw_L_249 : Cw RL 249 yX12_entry cX12_entry 4 (some .int) 2 := ⟨w_2703, w_2706, w_161, by decide +kernel, by decide +kernel, by decide⟩
theorem w_2704 : Cond.instanceMethod yX12_entry ∈ TB := tp_11 158 (by decide +kernel) rfl
theorem w_2705 : Cond.selects "LedgerFilesModel" yX12_entry yX12_entry ∈ TB := tp_11 159 (by decide +kernel) rfl
set_option maxRecDepth 100000 in
set_option maxHeartbeats 4000000 in
theorem lt_entry (E : gE) (f : Nat → va_E) (hE : 94 ≤ gN E) (b L : Nat) (xs : Nat → Int32) (cu su h sz i : Nat) (hi : i + 5 < L) (hL2 : L < 2 ^ 31) (hcu : cu + 2 ≤ room_1.cells) (hsu : su + 12 ≤ room_1.slots) (Inv : (Nat → va_E) → Prop) (k : Int32) (H : PmI E yX12_entry cX12_entry 4 [.int (xs (i + 1)), .int (xs (i + 2))] f k Inv) (kk : ∀ g, Inv g → G E (lwK h sz) code (gL b L xs (cu + 1) (su + 6)) 2804 [(0, .ref (b)), (1, .ref (gAd E (0))), (2, .ref (gAd E (56))), (3, .ref (gAd E (93))), (4, .int (nI i))] [] g) : G E (lwK h sz) code (gL b L xs (cu + 1) (su + 6)) 1519 [(0, .ref (b)), (1, .ref (gAd E (0))), (2, .ref (gAd E (56))), (3, .ref (gAd E (93))), (4, .int (nI i))] [.int k] f := by
  obtain ⟨hc, Q, hM, hh, ⟨fs, h56⟩, hno, hq⟩ := H
  refine G.go tv_law_entry 6 1527 [(0, .ref (b)), (1, .ref (gAd E (0))), (2, .ref (gAd E (56))), (3, .ref (gAd E (93))), (4, .int (nI i)), (5, .int (k))] [.int ((nI i) + ((1 : Int32))), .ref (b), .ref (gAd E (56))] rfl ?_
  refine G.eqs [.int (nI (i + 1)), .ref (b), .ref (gAd E (56))] (by rw [show (1 : Int32) = nI 1 from rfl, nI_add]) ?_
  refine G.sld lwY_S lwK_A (i + 1) (by omega) hL2 (tbd tv_law_entry rfl) ?_
  refine G.go tv_law_entry 4 1533 [(0, .ref (b)), (1, .ref (gAd E (0))), (2, .ref (gAd E (56))), (3, .ref (gAd E (93))), (4, .int (nI i)), (5, .int (k))] [.int ((nI i) + ((2 : Int32))), .ref (b), .int (xs (i + 1)), .ref (gAd E (56))] rfl ?_
  refine G.eqs [.int (nI (i + 2)), .ref (b), .int (xs (i + 1)), .ref (gAd E (56))] (by rw [show (2 : Int32) = nI 2 from rfl, nI_add]) ?_
  refine G.sld lwY_S lwK_A (i + 2) (by omega) hL2 (tbd tv_law_entry rfl) ?_
  refine G.callVr 56 [.int (xs (i + 1)), .int (xs (i + 2))] [] hM cls_X12 (by omega) h56 cw_L_249 w_2704 w_2705 (Nat.le_trans (Nat.succ_le_succ hh) (Nat.le_of_ble_eq_true rfl)) (Nat.le_trans (Nat.mul_le_mul_left 64 (Nat.succ_le_succ hh)) (Nat.le_of_ble_eq_true rfl)) (by show (cu + 1) + 1 ≤ room_1.cells; omega) (by show (su + 6) + 6 ≤ room_1.slots; omega) rfl (Nat.le_of_ble_eq_true rfl) (tbd tv_law_entry rfl) (fun v u q => ?_) (fun X u q => hno X u q)
  obtain ⟨r, R, rfl, rv, hk, ho, hI⟩ := hq v u q
  refine G.eqs [.int (r)] rfl ?_
  refine G.go tv_law_entry 2 1540 [(0, .ref (b)), (1, .ref (gAd E (0))), (2, .ref (gAd E (56))), (3, .ref (gAd E (93))), (4, .int (nI i)), (5, .int (k)), (6, .int (r))] [.ref (gAd E (56))] rfl ?_
  refine G.callVr 56 [] [] (c_X12_thrown E u R hE rv) cls_X12 (by omega) rv.o cw_L_181 w_2251 w_2252 (Nat.le_trans (Nat.succ_le_succ (show 1 ≤ 110 by decide)) (Nat.le_of_ble_eq_true rfl)) (Nat.le_trans (Nat.mul_le_mul_left 64 (Nat.succ_le_succ (show 1 ≤ 110 by decide))) (Nat.le_of_ble_eq_true rfl)) (by show (cu + 1) + 1 ≤ room_1.cells; omega) (by show (su + 6) + 6 ≤ room_1.slots; omega) rfl (Nat.le_of_ble_eq_true rfl) (tbd tv_law_entry rfl) (fun v w q => ?_) (fun X w q => q)
  obtain ⟨rfl, rv2, fv2⟩ := q
  obtain rfl := RfV.uniq rv rv2 fv2
  refine G.eqs [.int (rS R 0)] rfl ?_
  refine G.go tv_law_entry 1 1545 [(0, .ref (b)), (1, .ref (gAd E (0))), (2, .ref (gAd E (56))), (3, .ref (gAd E (93))), (4, .int (nI i)), (5, .int (k)), (6, .int (r))] [.int (k), .int (rS R 0)] rfl ?_
  refine G.cmp_eq 1550 (tbd tv_law_entry rfl) (by decide) (fun c1545 => ?_) (fun c1545 => absurd (hk) c1545)
  refine G.go tv_law_entry 1 1552 [(0, .ref (b)), (1, .ref (gAd E (0))), (2, .ref (gAd E (56))), (3, .ref (gAd E (93))), (4, .int (nI i)), (5, .int (k)), (6, .int (r))] [.int (k)] rfl ?_
  refine G.if_ne 1567 (tbd tv_law_entry rfl) (by decide) (fun c1552 => ?_) (fun c1552 => ?_)
  · skip
    refine G.go tv_law_entry 1 2804 [(0, .ref (b)), (1, .ref (gAd E (0))), (2, .ref (gAd E (56))), (3, .ref (gAd E (93))), (4, .int (nI i)), (5, .int (k)), (6, .int (r))] [] rfl ?_
    refine G.drop [0, 1, 2, 3, 4] rfl ?_
    exact kk _ hI
  · skip
    obtain ⟨o, e93, eo⟩ := ho c1552
    refine G.go tv_law_entry 2 1557 [(0, .ref (b)), (1, .ref (gAd E (0))), (2, .ref (gAd E (56))), (3, .ref (gAd E (93))), (4, .int (nI i)), (5, .int (k)), (6, .int (r))] [.int ((0 : Int32)), .ref (gAd E (93))] rfl ?_
    refine G.eqs [.int (nI (0)), .ref (gAd E (93))] (by rw [show (0 : Int32) = nI 0 from rfl]) ?_
    refine G.laldN (93) (0) (by omega) (e93) (by decide) (by decide) (tbd tv_law_entry rfl) ?_
    refine G.go tv_law_entry 3 1562 [(0, .ref (b)), (1, .ref (gAd E (0))), (2, .ref (gAd E (56))), (3, .ref (gAd E (93))), (4, .int (nI i)), (5, .int (k)), (6, .int (r))] [.int (lg_cmp ((o) (0)) ((r : Int32).toInt64))] rfl ?_
    refine G.if_eq 1567 (tbd tv_law_entry rfl) (by decide) (fun c1562 => ?_) (fun c1562 => absurd ((lg_cmp_eq _ _).mpr (eo)) c1562)
    refine G.go tv_law_entry 1 2804 [(0, .ref (b)), (1, .ref (gAd E (0))), (2, .ref (gAd E (56))), (3, .ref (gAd E (93))), (4, .int (nI i)), (5, .int (k)), (6, .int (r))] [] rfl ?_
    refine G.drop [0, 1, 2, 3, 4] rfl ?_
    exact kk _ hI
theorem w_1718 : Cond.methodLink "LedgerFilesLaw" 247 yL_entry ∈ TB := tp_7 132 (by decide +kernel) rfl
theorem w_1719 : Cond.static yL_entry ∈ TB := tp_7 133 (by decide +kernel) rfl
theorem cwh_247 : CwH RL 247 yL_entry cL_entry 5 (some .int) [(0, 10, 13, 13), (0, 10, 17, 84)] 4 := ⟨w_1718, w_1720, w_146, by decide +kernel, by decide +kernel, by decide, w_1719⟩
set_option maxRecDepth 100000 in
set_option maxHeartbeats 4000000 in
theorem k_entry (E : gE) (f : Nat → va_E) (hE : 94 ≤ gN E) (b L : Nat) (xs : Nat → Int32) (cu su h sz i : Nat) (hi : i + 5 < L) (hL2 : L < 2 ^ 31) (hcu : cu + 2 ≤ room_1.cells) (hsu : su + 12 ≤ room_1.slots) (Inv : (Nat → va_E) → Prop) (H : CsI E f yX11_entry cX11_entry 4 yX12_entry cX12_entry 4 [.int (xs (i + 1)), .int (xs (i + 2))] [xI, xN] Inv) (kk : ∀ g, Inv g → G E (lwK h sz) code (gL b L xs (cu + 1) (su + 6)) 2804 [(0, .ref (b)), (1, .ref (gAd E (0))), (2, .ref (gAd E (56))), (3, .ref (gAd E (93))), (4, .int (nI i))] [] g) : G E (lwK h sz) code (gL b L xs cu su) 1502 [(0, .ref (b)), (1, .ref (gAd E (0))), (2, .ref (gAd E (56))), (3, .ref (gAd E (93))), (4, .int (nI i))] [] f := by
  obtain ⟨hc, Q, hM, hh, ⟨fs, h0⟩, hn, hx⟩ := H
  refine G.go tv_law_entry 5 1508 [(0, .ref (b)), (1, .ref (gAd E (0))), (2, .ref (gAd E (56))), (3, .ref (gAd E (93))), (4, .int (nI i))] [.int ((nI i) + ((1 : Int32))), .ref (b), .ref (gAd E (0))] rfl ?_
  refine G.eqs [.int (nI (i + 1)), .ref (b), .ref (gAd E (0))] (by rw [show (1 : Int32) = nI 1 from rfl, nI_add]) ?_
  refine G.sld lwY_S lwK_A (i + 1) (by omega) hL2 (tbd tv_law_entry rfl) ?_
  refine G.go tv_law_entry 4 1514 [(0, .ref (b)), (1, .ref (gAd E (0))), (2, .ref (gAd E (56))), (3, .ref (gAd E (93))), (4, .int (nI i))] [.int ((nI i) + ((2 : Int32))), .ref (b), .int (xs (i + 1)), .ref (gAd E (0))] rfl ?_
  refine G.eqs [.int (nI (i + 2)), .ref (b), .int (xs (i + 1)), .ref (gAd E (0))] (by rw [show (2 : Int32) = nI 2 from rfl, nI_add]) ?_
  refine G.sld lwY_S lwK_A (i + 2) (by omega) hL2 (tbd tv_law_entry rfl) ?_
  refine G.go tv_law_entry 1 1516 [(0, .ref (b)), (1, .ref (gAd E (0))), (2, .ref (gAd E (56))), (3, .ref (gAd E (93))), (4, .int (nI i))] [.ref (gAd E (93)), .int (xs (i + 2)), .int (xs (i + 1)), .ref (gAd E (0))] rfl ?_
  refine G.callH [.ref (gAd E (0)), .int (xs (i + 1)), .int (xs (i + 2)), .ref (gAd E (93))] [] (h_L_entry E f hE (xs (i + 1)) (xs (i + 2)) hM hh h0 (fun v g q => by obtain ⟨x, o, h1, h2, -⟩ := hn v g q; exact ⟨x, o, h1, h2⟩) (fun X g q => (xk2 (hx X g q)).elim (fun a => Or.inl a.1) (fun a => Or.inr a.1))) cwh_247 (Nat.le_of_ble_eq_true rfl) (Nat.le_of_ble_eq_true rfl) (by show cu + 1 ≤ room_1.cells; omega) (by show su + 6 ≤ room_1.slots; omega) rfl (Nat.le_of_ble_eq_true rfl) (tbd tv_law_entry rfl) (fun v g q => ?_)
  rcases q with ⟨rfl, x, o, g0, q, e93, rfl⟩ | ⟨rfl, q⟩ | ⟨rfl, q⟩
  · refine G.eqs [.int 0] rfl ?_
    obtain ⟨x1, o1, e1, e2, hp⟩ := hn _ _ q
    cases e1
    obtain rfl := oJ_inj (e93.symm.trans e2)
    exact lt_entry E _ hE b L xs cu su h sz i hi hL2 hcu hsu Inv 0 hp kk
  · refine G.eqs [.int 1] rfl ?_
    exact lt_entry E _ hE b L xs cu su h sz i hi hL2 hcu hsu Inv 1 ((xk2 (hx _ _ q)).elim (fun a => a.2) (fun a => absurd a.1 (by decide))) kk
  · refine G.eqs [.int 2] rfl ?_
    exact lt_entry E _ hE b L xs cu su h sz i hi hL2 hcu hsu Inv 2 ((xk2 (hx _ _ q)).elim (fun a => absurd a.1 (by decide)) (fun a => a.2)) kk
def tb_law_letter : List (Nat × Instr × Nat) := [(1570, .aload_n 1, 1), (1571, .aload_n 0, 1), (1572, .iload 4, 2), (1574, .iconst 1, 1), (1575, .iadd, 1), (1576, .iaload, 1), (1577, .aload_n 0, 1), (1578, .iload 4, 2), (1580, .iconst 2, 1), (1581, .iadd, 1), (1582, .iaload, 1), (1583, .aload_n 0, 1), (1584, .iload 4, 2), (1586, .iconst 3, 1), (1587, .iadd, 1), (1588, .iaload, 1), (1589, .aload_n 3, 1), (1590, .invokestatic 250, 3), (1593, .istore 5, 2), (1595, .aload_n 2, 1), (1596, .aload_n 0, 1), (1597, .iload 4, 2), (1599, .iconst 1, 1), (1600, .iadd, 1), (1601, .iaload, 1), (1602, .aload_n 0, 1), (1603, .iload 4, 2), (1605, .iconst 2, 1), (1606, .iadd, 1), (1607, .iaload, 1), (1608, .aload_n 0, 1), (1609, .iload 4, 2), (1611, .iconst 3, 1), (1612, .iadd, 1), (1613, .iaload, 1), (1614, .invokevirtual 252, 3), (1617, .istore 6, 2), (1619, .aload_n 2, 1), (1620, .invokevirtual 181, 3), (1623, .iload 5, 2), (1625, .if_icmp .eq 5, 3), (1628, .iconst 0, 1), (1629, .ireturn, 1), (1630, .iload 5, 2), (1632, .ifCond .ne 15, 3), (1635, .aload_n 3, 1), (1636, .iconst 0, 1), (1637, .laload, 1), (1638, .iload 6, 2), (1640, .i2l, 1), (1641, .lcmp, 1), (1642, .ifCond .eq 5, 3), (1645, .iconst 0, 1), (1646, .ireturn, 1), (1647, .goto 1157, 3)]
theorem tv_law_letter : Tv code tb_law_letter := by
  unfold Tv
  decide +kernel
theorem w_2711 : Cond.methodLink "LedgerFilesLaw" 252 yX12_letter ∈ TB := tp_11 165 (by decide +kernel) rfl
theorem w_2714 : Cond.code yX12_letter prog_14_method_119_code 5 (some .int) ∈ TB := tp_11 168 rfl rfl
theorem cw_L_252 : Cw RL 252 yX12_letter cX12_letter 5 (some .int) 3 := ⟨w_2711, w_2714, w_161, by decide +kernel, by decide +kernel, by decide⟩
theorem w_2712 : Cond.instanceMethod yX12_letter ∈ TB := tp_11 166 (by decide +kernel) rfl
theorem w_2713 : Cond.selects "LedgerFilesModel" yX12_letter yX12_letter ∈ TB := tp_11 167 (by decide +kernel) rfl
set_option maxRecDepth 100000 in
set_option maxHeartbeats 4000000 in
theorem lt_letter (E : gE) (f : Nat → va_E) (hE : 94 ≤ gN E) (b L : Nat) (xs : Nat → Int32) (cu su h sz i : Nat) (hi : i + 5 < L) (hL2 : L < 2 ^ 31) (hcu : cu + 2 ≤ room_1.cells) (hsu : su + 12 ≤ room_1.slots) (Inv : (Nat → va_E) → Prop) (k : Int32) (H : PmI E yX12_letter cX12_letter 5 [.int (xs (i + 1)), .int (xs (i + 2)), .int (xs (i + 3))] f k Inv) (kk : ∀ g, Inv g → G E (lwK h sz) code (gL b L xs (cu + 1) (su + 6)) 2804 [(0, .ref (b)), (1, .ref (gAd E (0))), (2, .ref (gAd E (56))), (3, .ref (gAd E (93))), (4, .int (nI i))] [] g) : G E (lwK h sz) code (gL b L xs (cu + 1) (su + 6)) 1593 [(0, .ref (b)), (1, .ref (gAd E (0))), (2, .ref (gAd E (56))), (3, .ref (gAd E (93))), (4, .int (nI i))] [.int k] f := by
  obtain ⟨hc, Q, hM, hh, ⟨fs, h56⟩, hno, hq⟩ := H
  refine G.go tv_law_letter 6 1601 [(0, .ref (b)), (1, .ref (gAd E (0))), (2, .ref (gAd E (56))), (3, .ref (gAd E (93))), (4, .int (nI i)), (5, .int (k))] [.int ((nI i) + ((1 : Int32))), .ref (b), .ref (gAd E (56))] rfl ?_
  refine G.eqs [.int (nI (i + 1)), .ref (b), .ref (gAd E (56))] (by rw [show (1 : Int32) = nI 1 from rfl, nI_add]) ?_
  refine G.sld lwY_S lwK_A (i + 1) (by omega) hL2 (tbd tv_law_letter rfl) ?_
  refine G.go tv_law_letter 4 1607 [(0, .ref (b)), (1, .ref (gAd E (0))), (2, .ref (gAd E (56))), (3, .ref (gAd E (93))), (4, .int (nI i)), (5, .int (k))] [.int ((nI i) + ((2 : Int32))), .ref (b), .int (xs (i + 1)), .ref (gAd E (56))] rfl ?_
  refine G.eqs [.int (nI (i + 2)), .ref (b), .int (xs (i + 1)), .ref (gAd E (56))] (by rw [show (2 : Int32) = nI 2 from rfl, nI_add]) ?_
  refine G.sld lwY_S lwK_A (i + 2) (by omega) hL2 (tbd tv_law_letter rfl) ?_
  refine G.go tv_law_letter 4 1613 [(0, .ref (b)), (1, .ref (gAd E (0))), (2, .ref (gAd E (56))), (3, .ref (gAd E (93))), (4, .int (nI i)), (5, .int (k))] [.int ((nI i) + ((3 : Int32))), .ref (b), .int (xs (i + 2)), .int (xs (i + 1)), .ref (gAd E (56))] rfl ?_
  refine G.eqs [.int (nI (i + 3)), .ref (b), .int (xs (i + 2)), .int (xs (i + 1)), .ref (gAd E (56))] (by rw [show (3 : Int32) = nI 3 from rfl, nI_add]) ?_
  refine G.sld lwY_S lwK_A (i + 3) (by omega) hL2 (tbd tv_law_letter rfl) ?_
  refine G.callVr 56 [.int (xs (i + 1)), .int (xs (i + 2)), .int (xs (i + 3))] [] hM cls_X12 (by omega) h56 cw_L_252 w_2712 w_2713 (Nat.le_trans (Nat.succ_le_succ hh) (Nat.le_of_ble_eq_true rfl)) (Nat.le_trans (Nat.mul_le_mul_left 64 (Nat.succ_le_succ hh)) (Nat.le_of_ble_eq_true rfl)) (by show (cu + 1) + 1 ≤ room_1.cells; omega) (by show (su + 6) + 6 ≤ room_1.slots; omega) rfl (Nat.le_of_ble_eq_true rfl) (tbd tv_law_letter rfl) (fun v u q => ?_) (fun X u q => hno X u q)
  obtain ⟨r, R, rfl, rv, hk, ho, hI⟩ := hq v u q
  refine G.eqs [.int (r)] rfl ?_
  refine G.go tv_law_letter 2 1620 [(0, .ref (b)), (1, .ref (gAd E (0))), (2, .ref (gAd E (56))), (3, .ref (gAd E (93))), (4, .int (nI i)), (5, .int (k)), (6, .int (r))] [.ref (gAd E (56))] rfl ?_
  refine G.callVr 56 [] [] (c_X12_thrown E u R hE rv) cls_X12 (by omega) rv.o cw_L_181 w_2251 w_2252 (Nat.le_trans (Nat.succ_le_succ (show 1 ≤ 110 by decide)) (Nat.le_of_ble_eq_true rfl)) (Nat.le_trans (Nat.mul_le_mul_left 64 (Nat.succ_le_succ (show 1 ≤ 110 by decide))) (Nat.le_of_ble_eq_true rfl)) (by show (cu + 1) + 1 ≤ room_1.cells; omega) (by show (su + 6) + 6 ≤ room_1.slots; omega) rfl (Nat.le_of_ble_eq_true rfl) (tbd tv_law_letter rfl) (fun v w q => ?_) (fun X w q => q)
  obtain ⟨rfl, rv2, fv2⟩ := q
  obtain rfl := RfV.uniq rv rv2 fv2
  refine G.eqs [.int (rS R 0)] rfl ?_
  refine G.go tv_law_letter 1 1625 [(0, .ref (b)), (1, .ref (gAd E (0))), (2, .ref (gAd E (56))), (3, .ref (gAd E (93))), (4, .int (nI i)), (5, .int (k)), (6, .int (r))] [.int (k), .int (rS R 0)] rfl ?_
  refine G.cmp_eq 1630 (tbd tv_law_letter rfl) (by decide) (fun c1625 => ?_) (fun c1625 => absurd (hk) c1625)
  refine G.go tv_law_letter 1 1632 [(0, .ref (b)), (1, .ref (gAd E (0))), (2, .ref (gAd E (56))), (3, .ref (gAd E (93))), (4, .int (nI i)), (5, .int (k)), (6, .int (r))] [.int (k)] rfl ?_
  refine G.if_ne 1647 (tbd tv_law_letter rfl) (by decide) (fun c1632 => ?_) (fun c1632 => ?_)
  · skip
    refine G.go tv_law_letter 1 2804 [(0, .ref (b)), (1, .ref (gAd E (0))), (2, .ref (gAd E (56))), (3, .ref (gAd E (93))), (4, .int (nI i)), (5, .int (k)), (6, .int (r))] [] rfl ?_
    refine G.drop [0, 1, 2, 3, 4] rfl ?_
    exact kk _ hI
  · skip
    obtain ⟨o, e93, eo⟩ := ho c1632
    refine G.go tv_law_letter 2 1637 [(0, .ref (b)), (1, .ref (gAd E (0))), (2, .ref (gAd E (56))), (3, .ref (gAd E (93))), (4, .int (nI i)), (5, .int (k)), (6, .int (r))] [.int ((0 : Int32)), .ref (gAd E (93))] rfl ?_
    refine G.eqs [.int (nI (0)), .ref (gAd E (93))] (by rw [show (0 : Int32) = nI 0 from rfl]) ?_
    refine G.laldN (93) (0) (by omega) (e93) (by decide) (by decide) (tbd tv_law_letter rfl) ?_
    refine G.go tv_law_letter 3 1642 [(0, .ref (b)), (1, .ref (gAd E (0))), (2, .ref (gAd E (56))), (3, .ref (gAd E (93))), (4, .int (nI i)), (5, .int (k)), (6, .int (r))] [.int (lg_cmp ((o) (0)) ((r : Int32).toInt64))] rfl ?_
    refine G.if_eq 1647 (tbd tv_law_letter rfl) (by decide) (fun c1642 => ?_) (fun c1642 => absurd ((lg_cmp_eq _ _).mpr (eo)) c1642)
    refine G.go tv_law_letter 1 2804 [(0, .ref (b)), (1, .ref (gAd E (0))), (2, .ref (gAd E (56))), (3, .ref (gAd E (93))), (4, .int (nI i)), (5, .int (k)), (6, .int (r))] [] rfl ?_
    refine G.drop [0, 1, 2, 3, 4] rfl ?_
    exact kk _ hI
theorem w_1746 : Cond.methodLink "LedgerFilesLaw" 250 yL_letter ∈ TB := tp_7 160 (by decide +kernel) rfl
theorem w_1747 : Cond.static yL_letter ∈ TB := tp_7 161 (by decide +kernel) rfl
theorem cwh_250 : CwH RL 250 yL_letter cL_letter 6 (some .int) [(0, 12, 15, 13), (0, 12, 19, 84)] 5 := ⟨w_1746, w_1748, w_146, by decide +kernel, by decide +kernel, by decide, w_1747⟩
set_option maxRecDepth 100000 in
set_option maxHeartbeats 4000000 in
theorem k_letter (E : gE) (f : Nat → va_E) (hE : 94 ≤ gN E) (b L : Nat) (xs : Nat → Int32) (cu su h sz i : Nat) (hi : i + 5 < L) (hL2 : L < 2 ^ 31) (hcu : cu + 2 ≤ room_1.cells) (hsu : su + 12 ≤ room_1.slots) (Inv : (Nat → va_E) → Prop) (H : CsI E f yX11_letter cX11_letter 5 yX12_letter cX12_letter 5 [.int (xs (i + 1)), .int (xs (i + 2)), .int (xs (i + 3))] [xI, xN] Inv) (kk : ∀ g, Inv g → G E (lwK h sz) code (gL b L xs (cu + 1) (su + 6)) 2804 [(0, .ref (b)), (1, .ref (gAd E (0))), (2, .ref (gAd E (56))), (3, .ref (gAd E (93))), (4, .int (nI i))] [] g) : G E (lwK h sz) code (gL b L xs cu su) 1570 [(0, .ref (b)), (1, .ref (gAd E (0))), (2, .ref (gAd E (56))), (3, .ref (gAd E (93))), (4, .int (nI i))] [] f := by
  obtain ⟨hc, Q, hM, hh, ⟨fs, h0⟩, hn, hx⟩ := H
  refine G.go tv_law_letter 5 1576 [(0, .ref (b)), (1, .ref (gAd E (0))), (2, .ref (gAd E (56))), (3, .ref (gAd E (93))), (4, .int (nI i))] [.int ((nI i) + ((1 : Int32))), .ref (b), .ref (gAd E (0))] rfl ?_
  refine G.eqs [.int (nI (i + 1)), .ref (b), .ref (gAd E (0))] (by rw [show (1 : Int32) = nI 1 from rfl, nI_add]) ?_
  refine G.sld lwY_S lwK_A (i + 1) (by omega) hL2 (tbd tv_law_letter rfl) ?_
  refine G.go tv_law_letter 4 1582 [(0, .ref (b)), (1, .ref (gAd E (0))), (2, .ref (gAd E (56))), (3, .ref (gAd E (93))), (4, .int (nI i))] [.int ((nI i) + ((2 : Int32))), .ref (b), .int (xs (i + 1)), .ref (gAd E (0))] rfl ?_
  refine G.eqs [.int (nI (i + 2)), .ref (b), .int (xs (i + 1)), .ref (gAd E (0))] (by rw [show (2 : Int32) = nI 2 from rfl, nI_add]) ?_
  refine G.sld lwY_S lwK_A (i + 2) (by omega) hL2 (tbd tv_law_letter rfl) ?_
  refine G.go tv_law_letter 4 1588 [(0, .ref (b)), (1, .ref (gAd E (0))), (2, .ref (gAd E (56))), (3, .ref (gAd E (93))), (4, .int (nI i))] [.int ((nI i) + ((3 : Int32))), .ref (b), .int (xs (i + 2)), .int (xs (i + 1)), .ref (gAd E (0))] rfl ?_
  refine G.eqs [.int (nI (i + 3)), .ref (b), .int (xs (i + 2)), .int (xs (i + 1)), .ref (gAd E (0))] (by rw [show (3 : Int32) = nI 3 from rfl, nI_add]) ?_
  refine G.sld lwY_S lwK_A (i + 3) (by omega) hL2 (tbd tv_law_letter rfl) ?_
  refine G.go tv_law_letter 1 1590 [(0, .ref (b)), (1, .ref (gAd E (0))), (2, .ref (gAd E (56))), (3, .ref (gAd E (93))), (4, .int (nI i))] [.ref (gAd E (93)), .int (xs (i + 3)), .int (xs (i + 2)), .int (xs (i + 1)), .ref (gAd E (0))] rfl ?_
  refine G.callH [.ref (gAd E (0)), .int (xs (i + 1)), .int (xs (i + 2)), .int (xs (i + 3)), .ref (gAd E (93))] [] (h_L_letter E f hE (xs (i + 1)) (xs (i + 2)) (xs (i + 3)) hM hh h0 (fun v g q => by obtain ⟨x, o, h1, h2, -⟩ := hn v g q; exact ⟨x, o, h1, h2⟩) (fun X g q => (xk2 (hx X g q)).elim (fun a => Or.inl a.1) (fun a => Or.inr a.1))) cwh_250 (Nat.le_of_ble_eq_true rfl) (Nat.le_of_ble_eq_true rfl) (by show cu + 1 ≤ room_1.cells; omega) (by show su + 6 ≤ room_1.slots; omega) rfl (Nat.le_of_ble_eq_true rfl) (tbd tv_law_letter rfl) (fun v g q => ?_)
  rcases q with ⟨rfl, x, o, g0, q, e93, rfl⟩ | ⟨rfl, q⟩ | ⟨rfl, q⟩
  · refine G.eqs [.int 0] rfl ?_
    obtain ⟨x1, o1, e1, e2, hp⟩ := hn _ _ q
    cases e1
    obtain rfl := oJ_inj (e93.symm.trans e2)
    exact lt_letter E _ hE b L xs cu su h sz i hi hL2 hcu hsu Inv 0 hp kk
  · refine G.eqs [.int 1] rfl ?_
    exact lt_letter E _ hE b L xs cu su h sz i hi hL2 hcu hsu Inv 1 ((xk2 (hx _ _ q)).elim (fun a => a.2) (fun a => absurd a.1 (by decide))) kk
  · refine G.eqs [.int 2] rfl ?_
    exact lt_letter E _ hE b L xs cu su h sz i hi hL2 hcu hsu Inv 2 ((xk2 (hx _ _ q)).elim (fun a => absurd a.1 (by decide)) (fun a => a.2)) kk
def tb_law_open : List (Nat × Instr × Nat) := [(1650, .aload_n 1, 1), (1651, .aload_n 0, 1), (1652, .iload 4, 2), (1654, .iconst 1, 1), (1655, .iadd, 1), (1656, .iaload, 1), (1657, .aload_n 3, 1), (1658, .invokestatic 253, 3), (1661, .istore 5, 2), (1663, .aload_n 2, 1), (1664, .aload_n 0, 1), (1665, .iload 4, 2), (1667, .iconst 1, 1), (1668, .iadd, 1), (1669, .iaload, 1), (1670, .invokevirtual 255, 3), (1673, .istore 6, 2), (1675, .aload_n 2, 1), (1676, .invokevirtual 181, 3), (1679, .iload 5, 2), (1681, .if_icmp .eq 5, 3), (1684, .iconst 0, 1), (1685, .ireturn, 1), (1686, .iload 5, 2), (1688, .ifCond .ne 15, 3), (1691, .aload_n 3, 1), (1692, .iconst 0, 1), (1693, .laload, 1), (1694, .iload 6, 2), (1696, .i2l, 1), (1697, .lcmp, 1), (1698, .ifCond .eq 5, 3), (1701, .iconst 0, 1), (1702, .ireturn, 1), (1703, .goto 1101, 3)]
theorem tv_law_open : Tv code tb_law_open := by
  unfold Tv
  decide +kernel
theorem w_2715 : Cond.methodLink "LedgerFilesLaw" 255 yX12_open ∈ TB := tp_11 169 (by decide +kernel) rfl
theorem w_2718 : Cond.code yX12_open prog_14_method_121_code 9 (some .int) ∈ TB := tp_11 172 rfl rfl
theorem cw_L_255 : Cw RL 255 yX12_open cX12_open 9 (some .int) 1 := ⟨w_2715, w_2718, w_161, by decide +kernel, by decide +kernel, by decide⟩
theorem w_2716 : Cond.instanceMethod yX12_open ∈ TB := tp_11 170 (by decide +kernel) rfl
theorem w_2717 : Cond.selects "LedgerFilesModel" yX12_open yX12_open ∈ TB := tp_11 171 (by decide +kernel) rfl
set_option maxRecDepth 100000 in
set_option maxHeartbeats 4000000 in
theorem lt_open (E : gE) (f : Nat → va_E) (hE : 94 ≤ gN E) (b L : Nat) (xs : Nat → Int32) (cu su h sz i : Nat) (hi : i + 5 < L) (hL2 : L < 2 ^ 31) (hcu : cu + 2 ≤ room_1.cells) (hsu : su + 12 ≤ room_1.slots) (Inv : (Nat → va_E) → Prop) (k : Int32) (H : PmI E yX12_open cX12_open 9 [.int (xs (i + 1))] f k Inv) (kk : ∀ g, Inv g → G E (lwK h sz) code (gL b L xs (cu + 1) (su + 6)) 2804 [(0, .ref (b)), (1, .ref (gAd E (0))), (2, .ref (gAd E (56))), (3, .ref (gAd E (93))), (4, .int (nI i))] [] g) : G E (lwK h sz) code (gL b L xs (cu + 1) (su + 6)) 1661 [(0, .ref (b)), (1, .ref (gAd E (0))), (2, .ref (gAd E (56))), (3, .ref (gAd E (93))), (4, .int (nI i))] [.int k] f := by
  obtain ⟨hc, Q, hM, hh, ⟨fs, h56⟩, hno, hq⟩ := H
  refine G.go tv_law_open 6 1669 [(0, .ref (b)), (1, .ref (gAd E (0))), (2, .ref (gAd E (56))), (3, .ref (gAd E (93))), (4, .int (nI i)), (5, .int (k))] [.int ((nI i) + ((1 : Int32))), .ref (b), .ref (gAd E (56))] rfl ?_
  refine G.eqs [.int (nI (i + 1)), .ref (b), .ref (gAd E (56))] (by rw [show (1 : Int32) = nI 1 from rfl, nI_add]) ?_
  refine G.sld lwY_S lwK_A (i + 1) (by omega) hL2 (tbd tv_law_open rfl) ?_
  refine G.callVr 56 [.int (xs (i + 1))] [] hM cls_X12 (by omega) h56 cw_L_255 w_2716 w_2717 (Nat.le_trans (Nat.succ_le_succ hh) (Nat.le_of_ble_eq_true rfl)) (Nat.le_trans (Nat.mul_le_mul_left 64 (Nat.succ_le_succ hh)) (Nat.le_of_ble_eq_true rfl)) (by show (cu + 1) + 1 ≤ room_1.cells; omega) (by show (su + 6) + 6 ≤ room_1.slots; omega) rfl (Nat.le_of_ble_eq_true rfl) (tbd tv_law_open rfl) (fun v u q => ?_) (fun X u q => hno X u q)
  obtain ⟨r, R, rfl, rv, hk, ho, hI⟩ := hq v u q
  refine G.eqs [.int (r)] rfl ?_
  refine G.go tv_law_open 2 1676 [(0, .ref (b)), (1, .ref (gAd E (0))), (2, .ref (gAd E (56))), (3, .ref (gAd E (93))), (4, .int (nI i)), (5, .int (k)), (6, .int (r))] [.ref (gAd E (56))] rfl ?_
  refine G.callVr 56 [] [] (c_X12_thrown E u R hE rv) cls_X12 (by omega) rv.o cw_L_181 w_2251 w_2252 (Nat.le_trans (Nat.succ_le_succ (show 1 ≤ 110 by decide)) (Nat.le_of_ble_eq_true rfl)) (Nat.le_trans (Nat.mul_le_mul_left 64 (Nat.succ_le_succ (show 1 ≤ 110 by decide))) (Nat.le_of_ble_eq_true rfl)) (by show (cu + 1) + 1 ≤ room_1.cells; omega) (by show (su + 6) + 6 ≤ room_1.slots; omega) rfl (Nat.le_of_ble_eq_true rfl) (tbd tv_law_open rfl) (fun v w q => ?_) (fun X w q => q)
  obtain ⟨rfl, rv2, fv2⟩ := q
  obtain rfl := RfV.uniq rv rv2 fv2
  refine G.eqs [.int (rS R 0)] rfl ?_
  refine G.go tv_law_open 1 1681 [(0, .ref (b)), (1, .ref (gAd E (0))), (2, .ref (gAd E (56))), (3, .ref (gAd E (93))), (4, .int (nI i)), (5, .int (k)), (6, .int (r))] [.int (k), .int (rS R 0)] rfl ?_
  refine G.cmp_eq 1686 (tbd tv_law_open rfl) (by decide) (fun c1681 => ?_) (fun c1681 => absurd (hk) c1681)
  refine G.go tv_law_open 1 1688 [(0, .ref (b)), (1, .ref (gAd E (0))), (2, .ref (gAd E (56))), (3, .ref (gAd E (93))), (4, .int (nI i)), (5, .int (k)), (6, .int (r))] [.int (k)] rfl ?_
  refine G.if_ne 1703 (tbd tv_law_open rfl) (by decide) (fun c1688 => ?_) (fun c1688 => ?_)
  · skip
    refine G.go tv_law_open 1 2804 [(0, .ref (b)), (1, .ref (gAd E (0))), (2, .ref (gAd E (56))), (3, .ref (gAd E (93))), (4, .int (nI i)), (5, .int (k)), (6, .int (r))] [] rfl ?_
    refine G.drop [0, 1, 2, 3, 4] rfl ?_
    exact kk _ hI
  · skip
    obtain ⟨o, e93, eo⟩ := ho c1688
    refine G.go tv_law_open 2 1693 [(0, .ref (b)), (1, .ref (gAd E (0))), (2, .ref (gAd E (56))), (3, .ref (gAd E (93))), (4, .int (nI i)), (5, .int (k)), (6, .int (r))] [.int ((0 : Int32)), .ref (gAd E (93))] rfl ?_
    refine G.eqs [.int (nI (0)), .ref (gAd E (93))] (by rw [show (0 : Int32) = nI 0 from rfl]) ?_
    refine G.laldN (93) (0) (by omega) (e93) (by decide) (by decide) (tbd tv_law_open rfl) ?_
    refine G.go tv_law_open 3 1698 [(0, .ref (b)), (1, .ref (gAd E (0))), (2, .ref (gAd E (56))), (3, .ref (gAd E (93))), (4, .int (nI i)), (5, .int (k)), (6, .int (r))] [.int (lg_cmp ((o) (0)) ((r : Int32).toInt64))] rfl ?_
    refine G.if_eq 1703 (tbd tv_law_open rfl) (by decide) (fun c1698 => ?_) (fun c1698 => absurd ((lg_cmp_eq _ _).mpr (eo)) c1698)
    refine G.go tv_law_open 1 2804 [(0, .ref (b)), (1, .ref (gAd E (0))), (2, .ref (gAd E (56))), (3, .ref (gAd E (93))), (4, .int (nI i)), (5, .int (k)), (6, .int (r))] [] rfl ?_
    refine G.drop [0, 1, 2, 3, 4] rfl ?_
    exact kk _ hI
theorem w_1758 : Cond.methodLink "LedgerFilesLaw" 253 yL_open ∈ TB := tp_7 172 (by decide +kernel) rfl
theorem w_1759 : Cond.static yL_open ∈ TB := tp_7 173 (by decide +kernel) rfl
theorem cwh_253 : CwH RL 253 yL_open cL_open 4 (some .int) [(0, 9, 12, 13), (0, 9, 15, 15), (0, 9, 18, 20)] 3 := ⟨w_1758, w_1760, w_146, by decide +kernel, by decide +kernel, by decide, w_1759⟩
set_option maxRecDepth 100000 in
set_option maxHeartbeats 4000000 in
theorem k_open (E : gE) (f : Nat → va_E) (hE : 94 ≤ gN E) (b L : Nat) (xs : Nat → Int32) (cu su h sz i : Nat) (hi : i + 5 < L) (hL2 : L < 2 ^ 31) (hcu : cu + 2 ≤ room_1.cells) (hsu : su + 12 ≤ room_1.slots) (Inv : (Nat → va_E) → Prop) (H : CsI E f yX11_open cX11_open 9 yX12_open cX12_open 9 [.int (xs (i + 1))] [xI, xU, xA] Inv) (kk : ∀ g, Inv g → G E (lwK h sz) code (gL b L xs (cu + 1) (su + 6)) 2804 [(0, .ref (b)), (1, .ref (gAd E (0))), (2, .ref (gAd E (56))), (3, .ref (gAd E (93))), (4, .int (nI i))] [] g) : G E (lwK h sz) code (gL b L xs cu su) 1650 [(0, .ref (b)), (1, .ref (gAd E (0))), (2, .ref (gAd E (56))), (3, .ref (gAd E (93))), (4, .int (nI i))] [] f := by
  obtain ⟨hc, Q, hM, hh, ⟨fs, h0⟩, hn, hx⟩ := H
  refine G.go tv_law_open 5 1656 [(0, .ref (b)), (1, .ref (gAd E (0))), (2, .ref (gAd E (56))), (3, .ref (gAd E (93))), (4, .int (nI i))] [.int ((nI i) + ((1 : Int32))), .ref (b), .ref (gAd E (0))] rfl ?_
  refine G.eqs [.int (nI (i + 1)), .ref (b), .ref (gAd E (0))] (by rw [show (1 : Int32) = nI 1 from rfl, nI_add]) ?_
  refine G.sld lwY_S lwK_A (i + 1) (by omega) hL2 (tbd tv_law_open rfl) ?_
  refine G.go tv_law_open 1 1658 [(0, .ref (b)), (1, .ref (gAd E (0))), (2, .ref (gAd E (56))), (3, .ref (gAd E (93))), (4, .int (nI i))] [.ref (gAd E (93)), .int (xs (i + 1)), .ref (gAd E (0))] rfl ?_
  refine G.callH [.ref (gAd E (0)), .int (xs (i + 1)), .ref (gAd E (93))] [] (h_L_open E f hE (xs (i + 1)) hM hh h0 (fun v g q => by obtain ⟨x, o, h1, h2, -⟩ := hn v g q; exact ⟨x, o, h1, h2⟩) (fun X g q => (xk3 (hx X g q)).elim (fun a => Or.inl a.1) (fun a => a.elim (fun a => Or.inr (Or.inl a.1)) (fun a => Or.inr (Or.inr a.1))))) cwh_253 (Nat.le_of_ble_eq_true rfl) (Nat.le_of_ble_eq_true rfl) (by show cu + 1 ≤ room_1.cells; omega) (by show su + 6 ≤ room_1.slots; omega) rfl (Nat.le_of_ble_eq_true rfl) (tbd tv_law_open rfl) (fun v g q => ?_)
  rcases q with ⟨rfl, x, o, g0, q, e93, rfl⟩ | ⟨rfl, q⟩ | ⟨rfl, q⟩ | ⟨rfl, q⟩
  · refine G.eqs [.int 0] rfl ?_
    obtain ⟨x1, o1, e1, e2, hp⟩ := hn _ _ q
    cases e1
    obtain rfl := oJ_inj (e93.symm.trans e2)
    exact lt_open E _ hE b L xs cu su h sz i hi hL2 hcu hsu Inv 0 hp kk
  · refine G.eqs [.int 1] rfl ?_
    exact lt_open E _ hE b L xs cu su h sz i hi hL2 hcu hsu Inv 1 ((xk3 (hx _ _ q)).elim (fun a => a.2) (fun a => a.elim (fun a => absurd a.1 (by decide)) (fun a => absurd a.1 (by decide)))) kk
  · refine G.eqs [.int 2] rfl ?_
    exact lt_open E _ hE b L xs cu su h sz i hi hL2 hcu hsu Inv 2 ((xk3 (hx _ _ q)).elim (fun a => absurd a.1 (by decide)) (fun a => a.elim (fun a => a.2) (fun a => absurd a.1 (by decide)))) kk
  · refine G.eqs [.int 3] rfl ?_
    exact lt_open E _ hE b L xs cu su h sz i hi hL2 hcu hsu Inv 3 ((xk3 (hx _ _ q)).elim (fun a => absurd a.1 (by decide)) (fun a => a.elim (fun a => absurd a.1 (by decide)) (fun a => a.2))) kk
def tb_law_close : List (Nat × Instr × Nat) := [(1706, .aload_n 1, 1), (1707, .aload_n 0, 1), (1708, .iload 4, 2), (1710, .iconst 1, 1), (1711, .iadd, 1), (1712, .iaload, 1), (1713, .aload_n 3, 1), (1714, .invokestatic 256, 3), (1717, .istore 5, 2), (1719, .aload_n 2, 1), (1720, .aload_n 0, 1), (1721, .iload 4, 2), (1723, .iconst 1, 1), (1724, .iadd, 1), (1725, .iaload, 1), (1726, .invokevirtual 258, 3), (1729, .istore 6, 2), (1731, .aload_n 2, 1), (1732, .invokevirtual 181, 3), (1735, .iload 5, 2), (1737, .if_icmp .eq 5, 3), (1740, .iconst 0, 1), (1741, .ireturn, 1), (1742, .iload 5, 2), (1744, .ifCond .ne 15, 3), (1747, .aload_n 3, 1), (1748, .iconst 0, 1), (1749, .laload, 1), (1750, .iload 6, 2), (1752, .i2l, 1), (1753, .lcmp, 1), (1754, .ifCond .eq 5, 3), (1757, .iconst 0, 1), (1758, .ireturn, 1), (1759, .goto 1045, 3)]
theorem tv_law_close : Tv code tb_law_close := by
  unfold Tv
  decide +kernel
theorem w_2719 : Cond.methodLink "LedgerFilesLaw" 258 yX12_close ∈ TB := tp_11 173 (by decide +kernel) rfl
theorem w_2722 : Cond.code yX12_close prog_14_method_122_code 3 (some .int) ∈ TB := tp_11 176 rfl rfl
theorem cw_L_258 : Cw RL 258 yX12_close cX12_close 3 (some .int) 1 := ⟨w_2719, w_2722, w_161, by decide +kernel, by decide +kernel, by decide⟩
theorem w_2720 : Cond.instanceMethod yX12_close ∈ TB := tp_11 174 (by decide +kernel) rfl
theorem w_2721 : Cond.selects "LedgerFilesModel" yX12_close yX12_close ∈ TB := tp_11 175 (by decide +kernel) rfl
set_option maxRecDepth 100000 in
set_option maxHeartbeats 4000000 in
theorem lt_close (E : gE) (f : Nat → va_E) (hE : 94 ≤ gN E) (b L : Nat) (xs : Nat → Int32) (cu su h sz i : Nat) (hi : i + 5 < L) (hL2 : L < 2 ^ 31) (hcu : cu + 2 ≤ room_1.cells) (hsu : su + 12 ≤ room_1.slots) (Inv : (Nat → va_E) → Prop) (k : Int32) (H : PmI E yX12_close cX12_close 3 [.int (xs (i + 1))] f k Inv) (kk : ∀ g, Inv g → G E (lwK h sz) code (gL b L xs (cu + 1) (su + 6)) 2804 [(0, .ref (b)), (1, .ref (gAd E (0))), (2, .ref (gAd E (56))), (3, .ref (gAd E (93))), (4, .int (nI i))] [] g) : G E (lwK h sz) code (gL b L xs (cu + 1) (su + 6)) 1717 [(0, .ref (b)), (1, .ref (gAd E (0))), (2, .ref (gAd E (56))), (3, .ref (gAd E (93))), (4, .int (nI i))] [.int k] f := by
  obtain ⟨hc, Q, hM, hh, ⟨fs, h56⟩, hno, hq⟩ := H
  refine G.go tv_law_close 6 1725 [(0, .ref (b)), (1, .ref (gAd E (0))), (2, .ref (gAd E (56))), (3, .ref (gAd E (93))), (4, .int (nI i)), (5, .int (k))] [.int ((nI i) + ((1 : Int32))), .ref (b), .ref (gAd E (56))] rfl ?_
  refine G.eqs [.int (nI (i + 1)), .ref (b), .ref (gAd E (56))] (by rw [show (1 : Int32) = nI 1 from rfl, nI_add]) ?_
  refine G.sld lwY_S lwK_A (i + 1) (by omega) hL2 (tbd tv_law_close rfl) ?_
  refine G.callVr 56 [.int (xs (i + 1))] [] hM cls_X12 (by omega) h56 cw_L_258 w_2720 w_2721 (Nat.le_trans (Nat.succ_le_succ hh) (Nat.le_of_ble_eq_true rfl)) (Nat.le_trans (Nat.mul_le_mul_left 64 (Nat.succ_le_succ hh)) (Nat.le_of_ble_eq_true rfl)) (by show (cu + 1) + 1 ≤ room_1.cells; omega) (by show (su + 6) + 6 ≤ room_1.slots; omega) rfl (Nat.le_of_ble_eq_true rfl) (tbd tv_law_close rfl) (fun v u q => ?_) (fun X u q => hno X u q)
  obtain ⟨r, R, rfl, rv, hk, ho, hI⟩ := hq v u q
  refine G.eqs [.int (r)] rfl ?_
  refine G.go tv_law_close 2 1732 [(0, .ref (b)), (1, .ref (gAd E (0))), (2, .ref (gAd E (56))), (3, .ref (gAd E (93))), (4, .int (nI i)), (5, .int (k)), (6, .int (r))] [.ref (gAd E (56))] rfl ?_
  refine G.callVr 56 [] [] (c_X12_thrown E u R hE rv) cls_X12 (by omega) rv.o cw_L_181 w_2251 w_2252 (Nat.le_trans (Nat.succ_le_succ (show 1 ≤ 110 by decide)) (Nat.le_of_ble_eq_true rfl)) (Nat.le_trans (Nat.mul_le_mul_left 64 (Nat.succ_le_succ (show 1 ≤ 110 by decide))) (Nat.le_of_ble_eq_true rfl)) (by show (cu + 1) + 1 ≤ room_1.cells; omega) (by show (su + 6) + 6 ≤ room_1.slots; omega) rfl (Nat.le_of_ble_eq_true rfl) (tbd tv_law_close rfl) (fun v w q => ?_) (fun X w q => q)
  obtain ⟨rfl, rv2, fv2⟩ := q
  obtain rfl := RfV.uniq rv rv2 fv2
  refine G.eqs [.int (rS R 0)] rfl ?_
  refine G.go tv_law_close 1 1737 [(0, .ref (b)), (1, .ref (gAd E (0))), (2, .ref (gAd E (56))), (3, .ref (gAd E (93))), (4, .int (nI i)), (5, .int (k)), (6, .int (r))] [.int (k), .int (rS R 0)] rfl ?_
  refine G.cmp_eq 1742 (tbd tv_law_close rfl) (by decide) (fun c1737 => ?_) (fun c1737 => absurd (hk) c1737)
  refine G.go tv_law_close 1 1744 [(0, .ref (b)), (1, .ref (gAd E (0))), (2, .ref (gAd E (56))), (3, .ref (gAd E (93))), (4, .int (nI i)), (5, .int (k)), (6, .int (r))] [.int (k)] rfl ?_
  refine G.if_ne 1759 (tbd tv_law_close rfl) (by decide) (fun c1744 => ?_) (fun c1744 => ?_)
  · skip
    refine G.go tv_law_close 1 2804 [(0, .ref (b)), (1, .ref (gAd E (0))), (2, .ref (gAd E (56))), (3, .ref (gAd E (93))), (4, .int (nI i)), (5, .int (k)), (6, .int (r))] [] rfl ?_
    refine G.drop [0, 1, 2, 3, 4] rfl ?_
    exact kk _ hI
  · skip
    obtain ⟨o, e93, eo⟩ := ho c1744
    refine G.go tv_law_close 2 1749 [(0, .ref (b)), (1, .ref (gAd E (0))), (2, .ref (gAd E (56))), (3, .ref (gAd E (93))), (4, .int (nI i)), (5, .int (k)), (6, .int (r))] [.int ((0 : Int32)), .ref (gAd E (93))] rfl ?_
    refine G.eqs [.int (nI (0)), .ref (gAd E (93))] (by rw [show (0 : Int32) = nI 0 from rfl]) ?_
    refine G.laldN (93) (0) (by omega) (e93) (by decide) (by decide) (tbd tv_law_close rfl) ?_
    refine G.go tv_law_close 3 1754 [(0, .ref (b)), (1, .ref (gAd E (0))), (2, .ref (gAd E (56))), (3, .ref (gAd E (93))), (4, .int (nI i)), (5, .int (k)), (6, .int (r))] [.int (lg_cmp ((o) (0)) ((r : Int32).toInt64))] rfl ?_
    refine G.if_eq 1759 (tbd tv_law_close rfl) (by decide) (fun c1754 => ?_) (fun c1754 => absurd ((lg_cmp_eq _ _).mpr (eo)) c1754)
    refine G.go tv_law_close 1 2804 [(0, .ref (b)), (1, .ref (gAd E (0))), (2, .ref (gAd E (56))), (3, .ref (gAd E (93))), (4, .int (nI i)), (5, .int (k)), (6, .int (r))] [] rfl ?_
    refine G.drop [0, 1, 2, 3, 4] rfl ?_
    exact kk _ hI
theorem w_1774 : Cond.methodLink "LedgerFilesLaw" 256 yL_close ∈ TB := tp_7 188 (by decide +kernel) rfl
theorem w_1775 : Cond.static yL_close ∈ TB := tp_7 189 (by decide +kernel) rfl
theorem cwh_256 : CwH RL 256 yL_close cL_close 4 (some .int) [(0, 9, 12, 13), (0, 9, 15, 15)] 3 := ⟨w_1774, w_1776, w_146, by decide +kernel, by decide +kernel, by decide, w_1775⟩
set_option maxRecDepth 100000 in
set_option maxHeartbeats 4000000 in
theorem k_close (E : gE) (f : Nat → va_E) (hE : 94 ≤ gN E) (b L : Nat) (xs : Nat → Int32) (cu su h sz i : Nat) (hi : i + 5 < L) (hL2 : L < 2 ^ 31) (hcu : cu + 2 ≤ room_1.cells) (hsu : su + 12 ≤ room_1.slots) (Inv : (Nat → va_E) → Prop) (H : CsI E f yX11_close cX11_close 3 yX12_close cX12_close 3 [.int (xs (i + 1))] [xI, xU] Inv) (kk : ∀ g, Inv g → G E (lwK h sz) code (gL b L xs (cu + 1) (su + 6)) 2804 [(0, .ref (b)), (1, .ref (gAd E (0))), (2, .ref (gAd E (56))), (3, .ref (gAd E (93))), (4, .int (nI i))] [] g) : G E (lwK h sz) code (gL b L xs cu su) 1706 [(0, .ref (b)), (1, .ref (gAd E (0))), (2, .ref (gAd E (56))), (3, .ref (gAd E (93))), (4, .int (nI i))] [] f := by
  obtain ⟨hc, Q, hM, hh, ⟨fs, h0⟩, hn, hx⟩ := H
  refine G.go tv_law_close 5 1712 [(0, .ref (b)), (1, .ref (gAd E (0))), (2, .ref (gAd E (56))), (3, .ref (gAd E (93))), (4, .int (nI i))] [.int ((nI i) + ((1 : Int32))), .ref (b), .ref (gAd E (0))] rfl ?_
  refine G.eqs [.int (nI (i + 1)), .ref (b), .ref (gAd E (0))] (by rw [show (1 : Int32) = nI 1 from rfl, nI_add]) ?_
  refine G.sld lwY_S lwK_A (i + 1) (by omega) hL2 (tbd tv_law_close rfl) ?_
  refine G.go tv_law_close 1 1714 [(0, .ref (b)), (1, .ref (gAd E (0))), (2, .ref (gAd E (56))), (3, .ref (gAd E (93))), (4, .int (nI i))] [.ref (gAd E (93)), .int (xs (i + 1)), .ref (gAd E (0))] rfl ?_
  refine G.callH [.ref (gAd E (0)), .int (xs (i + 1)), .ref (gAd E (93))] [] (h_L_close E f hE (xs (i + 1)) hM hh h0 (fun v g q => by obtain ⟨x, o, h1, h2, -⟩ := hn v g q; exact ⟨x, o, h1, h2⟩) (fun X g q => (xk2 (hx X g q)).elim (fun a => Or.inl a.1) (fun a => Or.inr a.1))) cwh_256 (Nat.le_of_ble_eq_true rfl) (Nat.le_of_ble_eq_true rfl) (by show cu + 1 ≤ room_1.cells; omega) (by show su + 6 ≤ room_1.slots; omega) rfl (Nat.le_of_ble_eq_true rfl) (tbd tv_law_close rfl) (fun v g q => ?_)
  rcases q with ⟨rfl, x, o, g0, q, e93, rfl⟩ | ⟨rfl, q⟩ | ⟨rfl, q⟩
  · refine G.eqs [.int 0] rfl ?_
    obtain ⟨x1, o1, e1, e2, hp⟩ := hn _ _ q
    cases e1
    obtain rfl := oJ_inj (e93.symm.trans e2)
    exact lt_close E _ hE b L xs cu su h sz i hi hL2 hcu hsu Inv 0 hp kk
  · refine G.eqs [.int 1] rfl ?_
    exact lt_close E _ hE b L xs cu su h sz i hi hL2 hcu hsu Inv 1 ((xk2 (hx _ _ q)).elim (fun a => a.2) (fun a => absurd a.1 (by decide))) kk
  · refine G.eqs [.int 2] rfl ?_
    exact lt_close E _ hE b L xs cu su h sz i hi hL2 hcu hsu Inv 2 ((xk2 (hx _ _ q)).elim (fun a => absurd a.1 (by decide)) (fun a => a.2)) kk
def tb_law_put : List (Nat × Instr × Nat) := [(1762, .aload_n 1, 1), (1763, .aload_n 0, 1), (1764, .iload 4, 2), (1766, .iconst 1, 1), (1767, .iadd, 1), (1768, .iaload, 1), (1769, .aload_n 3, 1), (1770, .invokestatic 259, 3), (1773, .istore 5, 2), (1775, .aload_n 2, 1), (1776, .aload_n 0, 1), (1777, .iload 4, 2), (1779, .iconst 1, 1), (1780, .iadd, 1), (1781, .iaload, 1), (1782, .invokevirtual 261, 3), (1785, .istore 6, 2), (1787, .aload_n 2, 1), (1788, .invokevirtual 181, 3), (1791, .iload 5, 2), (1793, .if_icmp .eq 5, 3), (1796, .iconst 0, 1), (1797, .ireturn, 1), (1798, .iload 5, 2), (1800, .ifCond .ne 15, 3), (1803, .aload_n 3, 1), (1804, .iconst 0, 1), (1805, .laload, 1), (1806, .iload 6, 2), (1808, .i2l, 1), (1809, .lcmp, 1), (1810, .ifCond .eq 5, 3), (1813, .iconst 0, 1), (1814, .ireturn, 1), (1815, .goto 989, 3)]
theorem tv_law_put : Tv code tb_law_put := by
  unfold Tv
  decide +kernel
theorem w_2727 : Cond.methodLink "LedgerFilesLaw" 261 yX12_put ∈ TB := tp_11 181 (by decide +kernel) rfl
theorem w_2730 : Cond.code yX12_put prog_14_method_123_code 5 (some .int) ∈ TB := tp_11 184 rfl rfl
theorem cw_L_261 : Cw RL 261 yX12_put cX12_put 5 (some .int) 1 := ⟨w_2727, w_2730, w_161, by decide +kernel, by decide +kernel, by decide⟩
theorem w_2728 : Cond.instanceMethod yX12_put ∈ TB := tp_11 182 (by decide +kernel) rfl
theorem w_2729 : Cond.selects "LedgerFilesModel" yX12_put yX12_put ∈ TB := tp_11 183 (by decide +kernel) rfl
set_option maxRecDepth 100000 in
set_option maxHeartbeats 4000000 in
theorem lt_put (E : gE) (f : Nat → va_E) (hE : 94 ≤ gN E) (b L : Nat) (xs : Nat → Int32) (cu su h sz i : Nat) (hi : i + 5 < L) (hL2 : L < 2 ^ 31) (hcu : cu + 2 ≤ room_1.cells) (hsu : su + 12 ≤ room_1.slots) (Inv : (Nat → va_E) → Prop) (k : Int32) (H : PmI E yX12_put cX12_put 5 [.int (xs (i + 1))] f k Inv) (kk : ∀ g, Inv g → G E (lwK h sz) code (gL b L xs (cu + 1) (su + 6)) 2804 [(0, .ref (b)), (1, .ref (gAd E (0))), (2, .ref (gAd E (56))), (3, .ref (gAd E (93))), (4, .int (nI i))] [] g) : G E (lwK h sz) code (gL b L xs (cu + 1) (su + 6)) 1773 [(0, .ref (b)), (1, .ref (gAd E (0))), (2, .ref (gAd E (56))), (3, .ref (gAd E (93))), (4, .int (nI i))] [.int k] f := by
  obtain ⟨hc, Q, hM, hh, ⟨fs, h56⟩, hno, hq⟩ := H
  refine G.go tv_law_put 6 1781 [(0, .ref (b)), (1, .ref (gAd E (0))), (2, .ref (gAd E (56))), (3, .ref (gAd E (93))), (4, .int (nI i)), (5, .int (k))] [.int ((nI i) + ((1 : Int32))), .ref (b), .ref (gAd E (56))] rfl ?_
  refine G.eqs [.int (nI (i + 1)), .ref (b), .ref (gAd E (56))] (by rw [show (1 : Int32) = nI 1 from rfl, nI_add]) ?_
  refine G.sld lwY_S lwK_A (i + 1) (by omega) hL2 (tbd tv_law_put rfl) ?_
  refine G.callVr 56 [.int (xs (i + 1))] [] hM cls_X12 (by omega) h56 cw_L_261 w_2728 w_2729 (Nat.le_trans (Nat.succ_le_succ hh) (Nat.le_of_ble_eq_true rfl)) (Nat.le_trans (Nat.mul_le_mul_left 64 (Nat.succ_le_succ hh)) (Nat.le_of_ble_eq_true rfl)) (by show (cu + 1) + 1 ≤ room_1.cells; omega) (by show (su + 6) + 6 ≤ room_1.slots; omega) rfl (Nat.le_of_ble_eq_true rfl) (tbd tv_law_put rfl) (fun v u q => ?_) (fun X u q => hno X u q)
  obtain ⟨r, R, rfl, rv, hk, ho, hI⟩ := hq v u q
  refine G.eqs [.int (r)] rfl ?_
  refine G.go tv_law_put 2 1788 [(0, .ref (b)), (1, .ref (gAd E (0))), (2, .ref (gAd E (56))), (3, .ref (gAd E (93))), (4, .int (nI i)), (5, .int (k)), (6, .int (r))] [.ref (gAd E (56))] rfl ?_
  refine G.callVr 56 [] [] (c_X12_thrown E u R hE rv) cls_X12 (by omega) rv.o cw_L_181 w_2251 w_2252 (Nat.le_trans (Nat.succ_le_succ (show 1 ≤ 110 by decide)) (Nat.le_of_ble_eq_true rfl)) (Nat.le_trans (Nat.mul_le_mul_left 64 (Nat.succ_le_succ (show 1 ≤ 110 by decide))) (Nat.le_of_ble_eq_true rfl)) (by show (cu + 1) + 1 ≤ room_1.cells; omega) (by show (su + 6) + 6 ≤ room_1.slots; omega) rfl (Nat.le_of_ble_eq_true rfl) (tbd tv_law_put rfl) (fun v w q => ?_) (fun X w q => q)
  obtain ⟨rfl, rv2, fv2⟩ := q
  obtain rfl := RfV.uniq rv rv2 fv2
  refine G.eqs [.int (rS R 0)] rfl ?_
  refine G.go tv_law_put 1 1793 [(0, .ref (b)), (1, .ref (gAd E (0))), (2, .ref (gAd E (56))), (3, .ref (gAd E (93))), (4, .int (nI i)), (5, .int (k)), (6, .int (r))] [.int (k), .int (rS R 0)] rfl ?_
  refine G.cmp_eq 1798 (tbd tv_law_put rfl) (by decide) (fun c1793 => ?_) (fun c1793 => absurd (hk) c1793)
  refine G.go tv_law_put 1 1800 [(0, .ref (b)), (1, .ref (gAd E (0))), (2, .ref (gAd E (56))), (3, .ref (gAd E (93))), (4, .int (nI i)), (5, .int (k)), (6, .int (r))] [.int (k)] rfl ?_
  refine G.if_ne 1815 (tbd tv_law_put rfl) (by decide) (fun c1800 => ?_) (fun c1800 => ?_)
  · skip
    refine G.go tv_law_put 1 2804 [(0, .ref (b)), (1, .ref (gAd E (0))), (2, .ref (gAd E (56))), (3, .ref (gAd E (93))), (4, .int (nI i)), (5, .int (k)), (6, .int (r))] [] rfl ?_
    refine G.drop [0, 1, 2, 3, 4] rfl ?_
    exact kk _ hI
  · skip
    obtain ⟨o, e93, eo⟩ := ho c1800
    refine G.go tv_law_put 2 1805 [(0, .ref (b)), (1, .ref (gAd E (0))), (2, .ref (gAd E (56))), (3, .ref (gAd E (93))), (4, .int (nI i)), (5, .int (k)), (6, .int (r))] [.int ((0 : Int32)), .ref (gAd E (93))] rfl ?_
    refine G.eqs [.int (nI (0)), .ref (gAd E (93))] (by rw [show (0 : Int32) = nI 0 from rfl]) ?_
    refine G.laldN (93) (0) (by omega) (e93) (by decide) (by decide) (tbd tv_law_put rfl) ?_
    refine G.go tv_law_put 3 1810 [(0, .ref (b)), (1, .ref (gAd E (0))), (2, .ref (gAd E (56))), (3, .ref (gAd E (93))), (4, .int (nI i)), (5, .int (k)), (6, .int (r))] [.int (lg_cmp ((o) (0)) ((r : Int32).toInt64))] rfl ?_
    refine G.if_eq 1815 (tbd tv_law_put rfl) (by decide) (fun c1810 => ?_) (fun c1810 => absurd ((lg_cmp_eq _ _).mpr (eo)) c1810)
    refine G.go tv_law_put 1 2804 [(0, .ref (b)), (1, .ref (gAd E (0))), (2, .ref (gAd E (56))), (3, .ref (gAd E (93))), (4, .int (nI i)), (5, .int (k)), (6, .int (r))] [] rfl ?_
    refine G.drop [0, 1, 2, 3, 4] rfl ?_
    exact kk _ hI
theorem w_1785 : Cond.methodLink "LedgerFilesLaw" 259 yL_put ∈ TB := tp_7 199 (by decide +kernel) rfl
theorem w_1786 : Cond.static yL_put ∈ TB := tp_7 200 (by decide +kernel) rfl
theorem cwh_259 : CwH RL 259 yL_put cL_put 4 (some .int) [(0, 9, 12, 13), (0, 9, 15, 15)] 3 := ⟨w_1785, w_1787, w_146, by decide +kernel, by decide +kernel, by decide, w_1786⟩
set_option maxRecDepth 100000 in
set_option maxHeartbeats 4000000 in
theorem k_put (E : gE) (f : Nat → va_E) (hE : 94 ≤ gN E) (b L : Nat) (xs : Nat → Int32) (cu su h sz i : Nat) (hi : i + 5 < L) (hL2 : L < 2 ^ 31) (hcu : cu + 2 ≤ room_1.cells) (hsu : su + 12 ≤ room_1.slots) (Inv : (Nat → va_E) → Prop) (H : CsI E f yX11_put cX11_put 6 yX12_put cX12_put 5 [.int (xs (i + 1))] [xI, xU] Inv) (kk : ∀ g, Inv g → G E (lwK h sz) code (gL b L xs (cu + 1) (su + 6)) 2804 [(0, .ref (b)), (1, .ref (gAd E (0))), (2, .ref (gAd E (56))), (3, .ref (gAd E (93))), (4, .int (nI i))] [] g) : G E (lwK h sz) code (gL b L xs cu su) 1762 [(0, .ref (b)), (1, .ref (gAd E (0))), (2, .ref (gAd E (56))), (3, .ref (gAd E (93))), (4, .int (nI i))] [] f := by
  obtain ⟨hc, Q, hM, hh, ⟨fs, h0⟩, hn, hx⟩ := H
  refine G.go tv_law_put 5 1768 [(0, .ref (b)), (1, .ref (gAd E (0))), (2, .ref (gAd E (56))), (3, .ref (gAd E (93))), (4, .int (nI i))] [.int ((nI i) + ((1 : Int32))), .ref (b), .ref (gAd E (0))] rfl ?_
  refine G.eqs [.int (nI (i + 1)), .ref (b), .ref (gAd E (0))] (by rw [show (1 : Int32) = nI 1 from rfl, nI_add]) ?_
  refine G.sld lwY_S lwK_A (i + 1) (by omega) hL2 (tbd tv_law_put rfl) ?_
  refine G.go tv_law_put 1 1770 [(0, .ref (b)), (1, .ref (gAd E (0))), (2, .ref (gAd E (56))), (3, .ref (gAd E (93))), (4, .int (nI i))] [.ref (gAd E (93)), .int (xs (i + 1)), .ref (gAd E (0))] rfl ?_
  refine G.callH [.ref (gAd E (0)), .int (xs (i + 1)), .ref (gAd E (93))] [] (h_L_put E f hE (xs (i + 1)) hM hh h0 (fun v g q => by obtain ⟨x, o, h1, h2, -⟩ := hn v g q; exact ⟨x, o, h1, h2⟩) (fun X g q => (xk2 (hx X g q)).elim (fun a => Or.inl a.1) (fun a => Or.inr a.1))) cwh_259 (Nat.le_of_ble_eq_true rfl) (Nat.le_of_ble_eq_true rfl) (by show cu + 1 ≤ room_1.cells; omega) (by show su + 6 ≤ room_1.slots; omega) rfl (Nat.le_of_ble_eq_true rfl) (tbd tv_law_put rfl) (fun v g q => ?_)
  rcases q with ⟨rfl, x, o, g0, q, e93, rfl⟩ | ⟨rfl, q⟩ | ⟨rfl, q⟩
  · refine G.eqs [.int 0] rfl ?_
    obtain ⟨x1, o1, e1, e2, hp⟩ := hn _ _ q
    cases e1
    obtain rfl := oJ_inj (e93.symm.trans e2)
    exact lt_put E _ hE b L xs cu su h sz i hi hL2 hcu hsu Inv 0 hp kk
  · refine G.eqs [.int 1] rfl ?_
    exact lt_put E _ hE b L xs cu su h sz i hi hL2 hcu hsu Inv 1 ((xk2 (hx _ _ q)).elim (fun a => a.2) (fun a => absurd a.1 (by decide))) kk
  · refine G.eqs [.int 2] rfl ?_
    exact lt_put E _ hE b L xs cu su h sz i hi hL2 hcu hsu Inv 2 ((xk2 (hx _ _ q)).elim (fun a => absurd a.1 (by decide)) (fun a => a.2)) kk
def tb_law_get : List (Nat × Instr × Nat) := [(1818, .aload_n 1, 1), (1819, .aload_n 0, 1), (1820, .iload 4, 2), (1822, .iconst 1, 1), (1823, .iadd, 1), (1824, .iaload, 1), (1825, .aload_n 3, 1), (1826, .invokestatic 262, 3), (1829, .istore 5, 2), (1831, .aload_n 2, 1), (1832, .aload_n 0, 1), (1833, .iload 4, 2), (1835, .iconst 1, 1), (1836, .iadd, 1), (1837, .iaload, 1), (1838, .invokevirtual 264, 3), (1841, .istore 6, 2), (1843, .aload_n 2, 1), (1844, .invokevirtual 181, 3), (1847, .iload 5, 2), (1849, .if_icmp .eq 5, 3), (1852, .iconst 0, 1), (1853, .ireturn, 1), (1854, .iload 5, 2), (1856, .ifCond .ne 15, 3), (1859, .aload_n 3, 1), (1860, .iconst 0, 1), (1861, .laload, 1), (1862, .iload 6, 2), (1864, .i2l, 1), (1865, .lcmp, 1), (1866, .ifCond .eq 5, 3), (1869, .iconst 0, 1), (1870, .ireturn, 1), (1871, .goto 933, 3)]
theorem tv_law_get : Tv code tb_law_get := by
  unfold Tv
  decide +kernel
theorem w_2731 : Cond.methodLink "LedgerFilesLaw" 264 yX12_get ∈ TB := tp_11 185 (by decide +kernel) rfl
theorem w_2734 : Cond.code yX12_get prog_14_method_124_code 4 (some .int) ∈ TB := tp_11 188 rfl rfl
theorem cw_L_264 : Cw RL 264 yX12_get cX12_get 4 (some .int) 1 := ⟨w_2731, w_2734, w_161, by decide +kernel, by decide +kernel, by decide⟩
theorem w_2732 : Cond.instanceMethod yX12_get ∈ TB := tp_11 186 (by decide +kernel) rfl
theorem w_2733 : Cond.selects "LedgerFilesModel" yX12_get yX12_get ∈ TB := tp_11 187 (by decide +kernel) rfl
set_option maxRecDepth 100000 in
set_option maxHeartbeats 4000000 in
theorem lt_get (E : gE) (f : Nat → va_E) (hE : 94 ≤ gN E) (b L : Nat) (xs : Nat → Int32) (cu su h sz i : Nat) (hi : i + 5 < L) (hL2 : L < 2 ^ 31) (hcu : cu + 2 ≤ room_1.cells) (hsu : su + 12 ≤ room_1.slots) (Inv : (Nat → va_E) → Prop) (k : Int32) (H : PmI E yX12_get cX12_get 4 [.int (xs (i + 1))] f k Inv) (kk : ∀ g, Inv g → G E (lwK h sz) code (gL b L xs (cu + 1) (su + 6)) 2804 [(0, .ref (b)), (1, .ref (gAd E (0))), (2, .ref (gAd E (56))), (3, .ref (gAd E (93))), (4, .int (nI i))] [] g) : G E (lwK h sz) code (gL b L xs (cu + 1) (su + 6)) 1829 [(0, .ref (b)), (1, .ref (gAd E (0))), (2, .ref (gAd E (56))), (3, .ref (gAd E (93))), (4, .int (nI i))] [.int k] f := by
  obtain ⟨hc, Q, hM, hh, ⟨fs, h56⟩, hno, hq⟩ := H
  refine G.go tv_law_get 6 1837 [(0, .ref (b)), (1, .ref (gAd E (0))), (2, .ref (gAd E (56))), (3, .ref (gAd E (93))), (4, .int (nI i)), (5, .int (k))] [.int ((nI i) + ((1 : Int32))), .ref (b), .ref (gAd E (56))] rfl ?_
  refine G.eqs [.int (nI (i + 1)), .ref (b), .ref (gAd E (56))] (by rw [show (1 : Int32) = nI 1 from rfl, nI_add]) ?_
  refine G.sld lwY_S lwK_A (i + 1) (by omega) hL2 (tbd tv_law_get rfl) ?_
  refine G.callVr 56 [.int (xs (i + 1))] [] hM cls_X12 (by omega) h56 cw_L_264 w_2732 w_2733 (Nat.le_trans (Nat.succ_le_succ hh) (Nat.le_of_ble_eq_true rfl)) (Nat.le_trans (Nat.mul_le_mul_left 64 (Nat.succ_le_succ hh)) (Nat.le_of_ble_eq_true rfl)) (by show (cu + 1) + 1 ≤ room_1.cells; omega) (by show (su + 6) + 6 ≤ room_1.slots; omega) rfl (Nat.le_of_ble_eq_true rfl) (tbd tv_law_get rfl) (fun v u q => ?_) (fun X u q => hno X u q)
  obtain ⟨r, R, rfl, rv, hk, ho, hI⟩ := hq v u q
  refine G.eqs [.int (r)] rfl ?_
  refine G.go tv_law_get 2 1844 [(0, .ref (b)), (1, .ref (gAd E (0))), (2, .ref (gAd E (56))), (3, .ref (gAd E (93))), (4, .int (nI i)), (5, .int (k)), (6, .int (r))] [.ref (gAd E (56))] rfl ?_
  refine G.callVr 56 [] [] (c_X12_thrown E u R hE rv) cls_X12 (by omega) rv.o cw_L_181 w_2251 w_2252 (Nat.le_trans (Nat.succ_le_succ (show 1 ≤ 110 by decide)) (Nat.le_of_ble_eq_true rfl)) (Nat.le_trans (Nat.mul_le_mul_left 64 (Nat.succ_le_succ (show 1 ≤ 110 by decide))) (Nat.le_of_ble_eq_true rfl)) (by show (cu + 1) + 1 ≤ room_1.cells; omega) (by show (su + 6) + 6 ≤ room_1.slots; omega) rfl (Nat.le_of_ble_eq_true rfl) (tbd tv_law_get rfl) (fun v w q => ?_) (fun X w q => q)
  obtain ⟨rfl, rv2, fv2⟩ := q
  obtain rfl := RfV.uniq rv rv2 fv2
  refine G.eqs [.int (rS R 0)] rfl ?_
  refine G.go tv_law_get 1 1849 [(0, .ref (b)), (1, .ref (gAd E (0))), (2, .ref (gAd E (56))), (3, .ref (gAd E (93))), (4, .int (nI i)), (5, .int (k)), (6, .int (r))] [.int (k), .int (rS R 0)] rfl ?_
  refine G.cmp_eq 1854 (tbd tv_law_get rfl) (by decide) (fun c1849 => ?_) (fun c1849 => absurd (hk) c1849)
  refine G.go tv_law_get 1 1856 [(0, .ref (b)), (1, .ref (gAd E (0))), (2, .ref (gAd E (56))), (3, .ref (gAd E (93))), (4, .int (nI i)), (5, .int (k)), (6, .int (r))] [.int (k)] rfl ?_
  refine G.if_ne 1871 (tbd tv_law_get rfl) (by decide) (fun c1856 => ?_) (fun c1856 => ?_)
  · skip
    refine G.go tv_law_get 1 2804 [(0, .ref (b)), (1, .ref (gAd E (0))), (2, .ref (gAd E (56))), (3, .ref (gAd E (93))), (4, .int (nI i)), (5, .int (k)), (6, .int (r))] [] rfl ?_
    refine G.drop [0, 1, 2, 3, 4] rfl ?_
    exact kk _ hI
  · skip
    obtain ⟨o, e93, eo⟩ := ho c1856
    refine G.go tv_law_get 2 1861 [(0, .ref (b)), (1, .ref (gAd E (0))), (2, .ref (gAd E (56))), (3, .ref (gAd E (93))), (4, .int (nI i)), (5, .int (k)), (6, .int (r))] [.int ((0 : Int32)), .ref (gAd E (93))] rfl ?_
    refine G.eqs [.int (nI (0)), .ref (gAd E (93))] (by rw [show (0 : Int32) = nI 0 from rfl]) ?_
    refine G.laldN (93) (0) (by omega) (e93) (by decide) (by decide) (tbd tv_law_get rfl) ?_
    refine G.go tv_law_get 3 1866 [(0, .ref (b)), (1, .ref (gAd E (0))), (2, .ref (gAd E (56))), (3, .ref (gAd E (93))), (4, .int (nI i)), (5, .int (k)), (6, .int (r))] [.int (lg_cmp ((o) (0)) ((r : Int32).toInt64))] rfl ?_
    refine G.if_eq 1871 (tbd tv_law_get rfl) (by decide) (fun c1866 => ?_) (fun c1866 => absurd ((lg_cmp_eq _ _).mpr (eo)) c1866)
    refine G.go tv_law_get 1 2804 [(0, .ref (b)), (1, .ref (gAd E (0))), (2, .ref (gAd E (56))), (3, .ref (gAd E (93))), (4, .int (nI i)), (5, .int (k)), (6, .int (r))] [] rfl ?_
    refine G.drop [0, 1, 2, 3, 4] rfl ?_
    exact kk _ hI
theorem w_1792 : Cond.methodLink "LedgerFilesLaw" 262 yL_get ∈ TB := tp_7 206 (by decide +kernel) rfl
theorem w_1793 : Cond.static yL_get ∈ TB := tp_7 207 (by decide +kernel) rfl
theorem cwh_262 : CwH RL 262 yL_get cL_get 4 (some .int) [(0, 9, 12, 13)] 3 := ⟨w_1792, w_1794, w_146, by decide +kernel, by decide +kernel, by decide, w_1793⟩
set_option maxRecDepth 100000 in
set_option maxHeartbeats 4000000 in
theorem k_get (E : gE) (f : Nat → va_E) (hE : 94 ≤ gN E) (b L : Nat) (xs : Nat → Int32) (cu su h sz i : Nat) (hi : i + 5 < L) (hL2 : L < 2 ^ 31) (hcu : cu + 2 ≤ room_1.cells) (hsu : su + 12 ≤ room_1.slots) (Inv : (Nat → va_E) → Prop) (H : CsI E f yX11_get cX11_get 3 yX12_get cX12_get 4 [.int (xs (i + 1))] [xI] Inv) (kk : ∀ g, Inv g → G E (lwK h sz) code (gL b L xs (cu + 1) (su + 6)) 2804 [(0, .ref (b)), (1, .ref (gAd E (0))), (2, .ref (gAd E (56))), (3, .ref (gAd E (93))), (4, .int (nI i))] [] g) : G E (lwK h sz) code (gL b L xs cu su) 1818 [(0, .ref (b)), (1, .ref (gAd E (0))), (2, .ref (gAd E (56))), (3, .ref (gAd E (93))), (4, .int (nI i))] [] f := by
  obtain ⟨hc, Q, hM, hh, ⟨fs, h0⟩, hn, hx⟩ := H
  refine G.go tv_law_get 5 1824 [(0, .ref (b)), (1, .ref (gAd E (0))), (2, .ref (gAd E (56))), (3, .ref (gAd E (93))), (4, .int (nI i))] [.int ((nI i) + ((1 : Int32))), .ref (b), .ref (gAd E (0))] rfl ?_
  refine G.eqs [.int (nI (i + 1)), .ref (b), .ref (gAd E (0))] (by rw [show (1 : Int32) = nI 1 from rfl, nI_add]) ?_
  refine G.sld lwY_S lwK_A (i + 1) (by omega) hL2 (tbd tv_law_get rfl) ?_
  refine G.go tv_law_get 1 1826 [(0, .ref (b)), (1, .ref (gAd E (0))), (2, .ref (gAd E (56))), (3, .ref (gAd E (93))), (4, .int (nI i))] [.ref (gAd E (93)), .int (xs (i + 1)), .ref (gAd E (0))] rfl ?_
  refine G.callH [.ref (gAd E (0)), .int (xs (i + 1)), .ref (gAd E (93))] [] (h_L_get E f hE (xs (i + 1)) hM hh h0 (fun v g q => by obtain ⟨x, o, h1, h2, -⟩ := hn v g q; exact ⟨x, o, h1, h2⟩) (fun X g q => (xk1 (hx X g q)).1)) cwh_262 (Nat.le_of_ble_eq_true rfl) (Nat.le_of_ble_eq_true rfl) (by show cu + 1 ≤ room_1.cells; omega) (by show su + 6 ≤ room_1.slots; omega) rfl (Nat.le_of_ble_eq_true rfl) (tbd tv_law_get rfl) (fun v g q => ?_)
  rcases q with ⟨rfl, x, o, g0, q, e93, rfl⟩ | ⟨rfl, q⟩
  · refine G.eqs [.int 0] rfl ?_
    obtain ⟨x1, o1, e1, e2, hp⟩ := hn _ _ q
    cases e1
    obtain rfl := oJ_inj (e93.symm.trans e2)
    exact lt_get E _ hE b L xs cu su h sz i hi hL2 hcu hsu Inv 0 hp kk
  · refine G.eqs [.int 1] rfl ?_
    exact lt_get E _ hE b L xs cu su h sz i hi hL2 hcu hsu Inv 1 (xk1 (hx _ _ q)).2 kk
def tb_law_seek : List (Nat × Instr × Nat) := [(1874, .aload_n 1, 1), (1875, .aload_n 0, 1), (1876, .iload 4, 2), (1878, .iconst 1, 1), (1879, .iadd, 1), (1880, .iaload, 1), (1881, .aload_n 0, 1), (1882, .iload 4, 2), (1884, .iconst 2, 1), (1885, .iadd, 1), (1886, .iaload, 1), (1887, .aload_n 3, 1), (1888, .invokestatic 265, 3), (1891, .istore 5, 2), (1893, .aload_n 2, 1), (1894, .aload_n 0, 1), (1895, .iload 4, 2), (1897, .iconst 1, 1), (1898, .iadd, 1), (1899, .iaload, 1), (1900, .aload_n 0, 1), (1901, .iload 4, 2), (1903, .iconst 2, 1), (1904, .iadd, 1), (1905, .iaload, 1), (1906, .invokevirtual 267, 3), (1909, .istore 6, 2), (1911, .aload_n 2, 1), (1912, .invokevirtual 181, 3), (1915, .iload 5, 2), (1917, .if_icmp .eq 5, 3), (1920, .iconst 0, 1), (1921, .ireturn, 1), (1922, .iload 5, 2), (1924, .ifCond .ne 15, 3), (1927, .aload_n 3, 1), (1928, .iconst 0, 1), (1929, .laload, 1), (1930, .iload 6, 2), (1932, .i2l, 1), (1933, .lcmp, 1), (1934, .ifCond .eq 5, 3), (1937, .iconst 0, 1), (1938, .ireturn, 1), (1939, .goto 865, 3)]
theorem tv_law_seek : Tv code tb_law_seek := by
  unfold Tv
  decide +kernel
theorem w_2735 : Cond.methodLink "LedgerFilesLaw" 267 yX12_seek ∈ TB := tp_11 189 (by decide +kernel) rfl
theorem w_2738 : Cond.code yX12_seek prog_14_method_125_code 4 (some .int) ∈ TB := tp_11 192 rfl rfl
theorem cw_L_267 : Cw RL 267 yX12_seek cX12_seek 4 (some .int) 2 := ⟨w_2735, w_2738, w_161, by decide +kernel, by decide +kernel, by decide⟩
theorem w_2736 : Cond.instanceMethod yX12_seek ∈ TB := tp_11 190 (by decide +kernel) rfl
theorem w_2737 : Cond.selects "LedgerFilesModel" yX12_seek yX12_seek ∈ TB := tp_11 191 (by decide +kernel) rfl
set_option maxRecDepth 100000 in
set_option maxHeartbeats 4000000 in
theorem lt_seek (E : gE) (f : Nat → va_E) (hE : 94 ≤ gN E) (b L : Nat) (xs : Nat → Int32) (cu su h sz i : Nat) (hi : i + 5 < L) (hL2 : L < 2 ^ 31) (hcu : cu + 2 ≤ room_1.cells) (hsu : su + 12 ≤ room_1.slots) (Inv : (Nat → va_E) → Prop) (k : Int32) (H : PmI E yX12_seek cX12_seek 4 [.int (xs (i + 1)), .int (xs (i + 2))] f k Inv) (kk : ∀ g, Inv g → G E (lwK h sz) code (gL b L xs (cu + 1) (su + 6)) 2804 [(0, .ref (b)), (1, .ref (gAd E (0))), (2, .ref (gAd E (56))), (3, .ref (gAd E (93))), (4, .int (nI i))] [] g) : G E (lwK h sz) code (gL b L xs (cu + 1) (su + 6)) 1891 [(0, .ref (b)), (1, .ref (gAd E (0))), (2, .ref (gAd E (56))), (3, .ref (gAd E (93))), (4, .int (nI i))] [.int k] f := by
  obtain ⟨hc, Q, hM, hh, ⟨fs, h56⟩, hno, hq⟩ := H
  refine G.go tv_law_seek 6 1899 [(0, .ref (b)), (1, .ref (gAd E (0))), (2, .ref (gAd E (56))), (3, .ref (gAd E (93))), (4, .int (nI i)), (5, .int (k))] [.int ((nI i) + ((1 : Int32))), .ref (b), .ref (gAd E (56))] rfl ?_
  refine G.eqs [.int (nI (i + 1)), .ref (b), .ref (gAd E (56))] (by rw [show (1 : Int32) = nI 1 from rfl, nI_add]) ?_
  refine G.sld lwY_S lwK_A (i + 1) (by omega) hL2 (tbd tv_law_seek rfl) ?_
  refine G.go tv_law_seek 4 1905 [(0, .ref (b)), (1, .ref (gAd E (0))), (2, .ref (gAd E (56))), (3, .ref (gAd E (93))), (4, .int (nI i)), (5, .int (k))] [.int ((nI i) + ((2 : Int32))), .ref (b), .int (xs (i + 1)), .ref (gAd E (56))] rfl ?_
  refine G.eqs [.int (nI (i + 2)), .ref (b), .int (xs (i + 1)), .ref (gAd E (56))] (by rw [show (2 : Int32) = nI 2 from rfl, nI_add]) ?_
  refine G.sld lwY_S lwK_A (i + 2) (by omega) hL2 (tbd tv_law_seek rfl) ?_
  refine G.callVr 56 [.int (xs (i + 1)), .int (xs (i + 2))] [] hM cls_X12 (by omega) h56 cw_L_267 w_2736 w_2737 (Nat.le_trans (Nat.succ_le_succ hh) (Nat.le_of_ble_eq_true rfl)) (Nat.le_trans (Nat.mul_le_mul_left 64 (Nat.succ_le_succ hh)) (Nat.le_of_ble_eq_true rfl)) (by show (cu + 1) + 1 ≤ room_1.cells; omega) (by show (su + 6) + 6 ≤ room_1.slots; omega) rfl (Nat.le_of_ble_eq_true rfl) (tbd tv_law_seek rfl) (fun v u q => ?_) (fun X u q => hno X u q)
  obtain ⟨r, R, rfl, rv, hk, ho, hI⟩ := hq v u q
  refine G.eqs [.int (r)] rfl ?_
  refine G.go tv_law_seek 2 1912 [(0, .ref (b)), (1, .ref (gAd E (0))), (2, .ref (gAd E (56))), (3, .ref (gAd E (93))), (4, .int (nI i)), (5, .int (k)), (6, .int (r))] [.ref (gAd E (56))] rfl ?_
  refine G.callVr 56 [] [] (c_X12_thrown E u R hE rv) cls_X12 (by omega) rv.o cw_L_181 w_2251 w_2252 (Nat.le_trans (Nat.succ_le_succ (show 1 ≤ 110 by decide)) (Nat.le_of_ble_eq_true rfl)) (Nat.le_trans (Nat.mul_le_mul_left 64 (Nat.succ_le_succ (show 1 ≤ 110 by decide))) (Nat.le_of_ble_eq_true rfl)) (by show (cu + 1) + 1 ≤ room_1.cells; omega) (by show (su + 6) + 6 ≤ room_1.slots; omega) rfl (Nat.le_of_ble_eq_true rfl) (tbd tv_law_seek rfl) (fun v w q => ?_) (fun X w q => q)
  obtain ⟨rfl, rv2, fv2⟩ := q
  obtain rfl := RfV.uniq rv rv2 fv2
  refine G.eqs [.int (rS R 0)] rfl ?_
  refine G.go tv_law_seek 1 1917 [(0, .ref (b)), (1, .ref (gAd E (0))), (2, .ref (gAd E (56))), (3, .ref (gAd E (93))), (4, .int (nI i)), (5, .int (k)), (6, .int (r))] [.int (k), .int (rS R 0)] rfl ?_
  refine G.cmp_eq 1922 (tbd tv_law_seek rfl) (by decide) (fun c1917 => ?_) (fun c1917 => absurd (hk) c1917)
  refine G.go tv_law_seek 1 1924 [(0, .ref (b)), (1, .ref (gAd E (0))), (2, .ref (gAd E (56))), (3, .ref (gAd E (93))), (4, .int (nI i)), (5, .int (k)), (6, .int (r))] [.int (k)] rfl ?_
  refine G.if_ne 1939 (tbd tv_law_seek rfl) (by decide) (fun c1924 => ?_) (fun c1924 => ?_)
  · skip
    refine G.go tv_law_seek 1 2804 [(0, .ref (b)), (1, .ref (gAd E (0))), (2, .ref (gAd E (56))), (3, .ref (gAd E (93))), (4, .int (nI i)), (5, .int (k)), (6, .int (r))] [] rfl ?_
    refine G.drop [0, 1, 2, 3, 4] rfl ?_
    exact kk _ hI
  · skip
    obtain ⟨o, e93, eo⟩ := ho c1924
    refine G.go tv_law_seek 2 1929 [(0, .ref (b)), (1, .ref (gAd E (0))), (2, .ref (gAd E (56))), (3, .ref (gAd E (93))), (4, .int (nI i)), (5, .int (k)), (6, .int (r))] [.int ((0 : Int32)), .ref (gAd E (93))] rfl ?_
    refine G.eqs [.int (nI (0)), .ref (gAd E (93))] (by rw [show (0 : Int32) = nI 0 from rfl]) ?_
    refine G.laldN (93) (0) (by omega) (e93) (by decide) (by decide) (tbd tv_law_seek rfl) ?_
    refine G.go tv_law_seek 3 1934 [(0, .ref (b)), (1, .ref (gAd E (0))), (2, .ref (gAd E (56))), (3, .ref (gAd E (93))), (4, .int (nI i)), (5, .int (k)), (6, .int (r))] [.int (lg_cmp ((o) (0)) ((r : Int32).toInt64))] rfl ?_
    refine G.if_eq 1939 (tbd tv_law_seek rfl) (by decide) (fun c1934 => ?_) (fun c1934 => absurd ((lg_cmp_eq _ _).mpr (eo)) c1934)
    refine G.go tv_law_seek 1 2804 [(0, .ref (b)), (1, .ref (gAd E (0))), (2, .ref (gAd E (56))), (3, .ref (gAd E (93))), (4, .int (nI i)), (5, .int (k)), (6, .int (r))] [] rfl ?_
    refine G.drop [0, 1, 2, 3, 4] rfl ?_
    exact kk _ hI
theorem w_1799 : Cond.methodLink "LedgerFilesLaw" 265 yL_seek ∈ TB := tp_7 213 (by decide +kernel) rfl
theorem w_1800 : Cond.static yL_seek ∈ TB := tp_7 214 (by decide +kernel) rfl
theorem cwh_265 : CwH RL 265 yL_seek cL_seek 5 (some .int) [(0, 10, 13, 13)] 4 := ⟨w_1799, w_1801, w_146, by decide +kernel, by decide +kernel, by decide, w_1800⟩
set_option maxRecDepth 100000 in
set_option maxHeartbeats 4000000 in
theorem k_seek (E : gE) (f : Nat → va_E) (hE : 94 ≤ gN E) (b L : Nat) (xs : Nat → Int32) (cu su h sz i : Nat) (hi : i + 5 < L) (hL2 : L < 2 ^ 31) (hcu : cu + 2 ≤ room_1.cells) (hsu : su + 12 ≤ room_1.slots) (Inv : (Nat → va_E) → Prop) (H : CsI E f yX11_seek cX11_seek 4 yX12_seek cX12_seek 4 [.int (xs (i + 1)), .int (xs (i + 2))] [xI] Inv) (kk : ∀ g, Inv g → G E (lwK h sz) code (gL b L xs (cu + 1) (su + 6)) 2804 [(0, .ref (b)), (1, .ref (gAd E (0))), (2, .ref (gAd E (56))), (3, .ref (gAd E (93))), (4, .int (nI i))] [] g) : G E (lwK h sz) code (gL b L xs cu su) 1874 [(0, .ref (b)), (1, .ref (gAd E (0))), (2, .ref (gAd E (56))), (3, .ref (gAd E (93))), (4, .int (nI i))] [] f := by
  obtain ⟨hc, Q, hM, hh, ⟨fs, h0⟩, hn, hx⟩ := H
  refine G.go tv_law_seek 5 1880 [(0, .ref (b)), (1, .ref (gAd E (0))), (2, .ref (gAd E (56))), (3, .ref (gAd E (93))), (4, .int (nI i))] [.int ((nI i) + ((1 : Int32))), .ref (b), .ref (gAd E (0))] rfl ?_
  refine G.eqs [.int (nI (i + 1)), .ref (b), .ref (gAd E (0))] (by rw [show (1 : Int32) = nI 1 from rfl, nI_add]) ?_
  refine G.sld lwY_S lwK_A (i + 1) (by omega) hL2 (tbd tv_law_seek rfl) ?_
  refine G.go tv_law_seek 4 1886 [(0, .ref (b)), (1, .ref (gAd E (0))), (2, .ref (gAd E (56))), (3, .ref (gAd E (93))), (4, .int (nI i))] [.int ((nI i) + ((2 : Int32))), .ref (b), .int (xs (i + 1)), .ref (gAd E (0))] rfl ?_
  refine G.eqs [.int (nI (i + 2)), .ref (b), .int (xs (i + 1)), .ref (gAd E (0))] (by rw [show (2 : Int32) = nI 2 from rfl, nI_add]) ?_
  refine G.sld lwY_S lwK_A (i + 2) (by omega) hL2 (tbd tv_law_seek rfl) ?_
  refine G.go tv_law_seek 1 1888 [(0, .ref (b)), (1, .ref (gAd E (0))), (2, .ref (gAd E (56))), (3, .ref (gAd E (93))), (4, .int (nI i))] [.ref (gAd E (93)), .int (xs (i + 2)), .int (xs (i + 1)), .ref (gAd E (0))] rfl ?_
  refine G.callH [.ref (gAd E (0)), .int (xs (i + 1)), .int (xs (i + 2)), .ref (gAd E (93))] [] (h_L_seek E f hE (xs (i + 1)) (xs (i + 2)) hM hh h0 (fun v g q => by obtain ⟨x, o, h1, h2, -⟩ := hn v g q; exact ⟨x, o, h1, h2⟩) (fun X g q => (xk1 (hx X g q)).1)) cwh_265 (Nat.le_of_ble_eq_true rfl) (Nat.le_of_ble_eq_true rfl) (by show cu + 1 ≤ room_1.cells; omega) (by show su + 6 ≤ room_1.slots; omega) rfl (Nat.le_of_ble_eq_true rfl) (tbd tv_law_seek rfl) (fun v g q => ?_)
  rcases q with ⟨rfl, x, o, g0, q, e93, rfl⟩ | ⟨rfl, q⟩
  · refine G.eqs [.int 0] rfl ?_
    obtain ⟨x1, o1, e1, e2, hp⟩ := hn _ _ q
    cases e1
    obtain rfl := oJ_inj (e93.symm.trans e2)
    exact lt_seek E _ hE b L xs cu su h sz i hi hL2 hcu hsu Inv 0 hp kk
  · refine G.eqs [.int 1] rfl ?_
    exact lt_seek E _ hE b L xs cu su h sz i hi hL2 hcu hsu Inv 1 (xk1 (hx _ _ q)).2 kk
def tb_law_look : List (Nat × Instr × Nat) := [(1942, .aload_n 1, 1), (1943, .aload_n 0, 1), (1944, .iload 4, 2), (1946, .iconst 1, 1), (1947, .iadd, 1), (1948, .iaload, 1), (1949, .aload_n 0, 1), (1950, .iload 4, 2), (1952, .iconst 2, 1), (1953, .iadd, 1), (1954, .iaload, 1), (1955, .aload_n 3, 1), (1956, .invokestatic 268, 3), (1959, .istore 5, 2), (1961, .aload_n 2, 1), (1962, .aload_n 0, 1), (1963, .iload 4, 2), (1965, .iconst 1, 1), (1966, .iadd, 1), (1967, .iaload, 1), (1968, .aload_n 0, 1), (1969, .iload 4, 2), (1971, .iconst 2, 1), (1972, .iadd, 1), (1973, .iaload, 1), (1974, .invokevirtual 270, 3), (1977, .istore 6, 2), (1979, .aload_n 2, 1), (1980, .invokevirtual 181, 3), (1983, .iload 5, 2), (1985, .if_icmp .eq 5, 3), (1988, .iconst 0, 1), (1989, .ireturn, 1), (1990, .iload 5, 2), (1992, .ifCond .ne 15, 3), (1995, .aload_n 3, 1), (1996, .iconst 0, 1), (1997, .laload, 1), (1998, .iload 6, 2), (2000, .i2l, 1), (2001, .lcmp, 1), (2002, .ifCond .eq 5, 3), (2005, .iconst 0, 1), (2006, .ireturn, 1), (2007, .goto 797, 3)]
theorem tv_law_look : Tv code tb_law_look := by
  unfold Tv
  decide +kernel
theorem w_2739 : Cond.methodLink "LedgerFilesLaw" 270 yX12_look ∈ TB := tp_11 193 (by decide +kernel) rfl
theorem w_2742 : Cond.code yX12_look prog_14_method_126_code 3 (some .int) ∈ TB := tp_11 196 rfl rfl
theorem cw_L_270 : Cw RL 270 yX12_look cX12_look 3 (some .int) 2 := ⟨w_2739, w_2742, w_161, by decide +kernel, by decide +kernel, by decide⟩
theorem w_2740 : Cond.instanceMethod yX12_look ∈ TB := tp_11 194 (by decide +kernel) rfl
theorem w_2741 : Cond.selects "LedgerFilesModel" yX12_look yX12_look ∈ TB := tp_11 195 (by decide +kernel) rfl
set_option maxRecDepth 100000 in
set_option maxHeartbeats 4000000 in
theorem lt_look (E : gE) (f : Nat → va_E) (hE : 94 ≤ gN E) (b L : Nat) (xs : Nat → Int32) (cu su h sz i : Nat) (hi : i + 5 < L) (hL2 : L < 2 ^ 31) (hcu : cu + 2 ≤ room_1.cells) (hsu : su + 12 ≤ room_1.slots) (Inv : (Nat → va_E) → Prop) (k : Int32) (H : PmI E yX12_look cX12_look 3 [.int (xs (i + 1)), .int (xs (i + 2))] f k Inv) (kk : ∀ g, Inv g → G E (lwK h sz) code (gL b L xs (cu + 1) (su + 6)) 2804 [(0, .ref (b)), (1, .ref (gAd E (0))), (2, .ref (gAd E (56))), (3, .ref (gAd E (93))), (4, .int (nI i))] [] g) : G E (lwK h sz) code (gL b L xs (cu + 1) (su + 6)) 1959 [(0, .ref (b)), (1, .ref (gAd E (0))), (2, .ref (gAd E (56))), (3, .ref (gAd E (93))), (4, .int (nI i))] [.int k] f := by
  obtain ⟨hc, Q, hM, hh, ⟨fs, h56⟩, hno, hq⟩ := H
  refine G.go tv_law_look 6 1967 [(0, .ref (b)), (1, .ref (gAd E (0))), (2, .ref (gAd E (56))), (3, .ref (gAd E (93))), (4, .int (nI i)), (5, .int (k))] [.int ((nI i) + ((1 : Int32))), .ref (b), .ref (gAd E (56))] rfl ?_
  refine G.eqs [.int (nI (i + 1)), .ref (b), .ref (gAd E (56))] (by rw [show (1 : Int32) = nI 1 from rfl, nI_add]) ?_
  refine G.sld lwY_S lwK_A (i + 1) (by omega) hL2 (tbd tv_law_look rfl) ?_
  refine G.go tv_law_look 4 1973 [(0, .ref (b)), (1, .ref (gAd E (0))), (2, .ref (gAd E (56))), (3, .ref (gAd E (93))), (4, .int (nI i)), (5, .int (k))] [.int ((nI i) + ((2 : Int32))), .ref (b), .int (xs (i + 1)), .ref (gAd E (56))] rfl ?_
  refine G.eqs [.int (nI (i + 2)), .ref (b), .int (xs (i + 1)), .ref (gAd E (56))] (by rw [show (2 : Int32) = nI 2 from rfl, nI_add]) ?_
  refine G.sld lwY_S lwK_A (i + 2) (by omega) hL2 (tbd tv_law_look rfl) ?_
  refine G.callVr 56 [.int (xs (i + 1)), .int (xs (i + 2))] [] hM cls_X12 (by omega) h56 cw_L_270 w_2740 w_2741 (Nat.le_trans (Nat.succ_le_succ hh) (Nat.le_of_ble_eq_true rfl)) (Nat.le_trans (Nat.mul_le_mul_left 64 (Nat.succ_le_succ hh)) (Nat.le_of_ble_eq_true rfl)) (by show (cu + 1) + 1 ≤ room_1.cells; omega) (by show (su + 6) + 6 ≤ room_1.slots; omega) rfl (Nat.le_of_ble_eq_true rfl) (tbd tv_law_look rfl) (fun v u q => ?_) (fun X u q => hno X u q)
  obtain ⟨r, R, rfl, rv, hk, ho, hI⟩ := hq v u q
  refine G.eqs [.int (r)] rfl ?_
  refine G.go tv_law_look 2 1980 [(0, .ref (b)), (1, .ref (gAd E (0))), (2, .ref (gAd E (56))), (3, .ref (gAd E (93))), (4, .int (nI i)), (5, .int (k)), (6, .int (r))] [.ref (gAd E (56))] rfl ?_
  refine G.callVr 56 [] [] (c_X12_thrown E u R hE rv) cls_X12 (by omega) rv.o cw_L_181 w_2251 w_2252 (Nat.le_trans (Nat.succ_le_succ (show 1 ≤ 110 by decide)) (Nat.le_of_ble_eq_true rfl)) (Nat.le_trans (Nat.mul_le_mul_left 64 (Nat.succ_le_succ (show 1 ≤ 110 by decide))) (Nat.le_of_ble_eq_true rfl)) (by show (cu + 1) + 1 ≤ room_1.cells; omega) (by show (su + 6) + 6 ≤ room_1.slots; omega) rfl (Nat.le_of_ble_eq_true rfl) (tbd tv_law_look rfl) (fun v w q => ?_) (fun X w q => q)
  obtain ⟨rfl, rv2, fv2⟩ := q
  obtain rfl := RfV.uniq rv rv2 fv2
  refine G.eqs [.int (rS R 0)] rfl ?_
  refine G.go tv_law_look 1 1985 [(0, .ref (b)), (1, .ref (gAd E (0))), (2, .ref (gAd E (56))), (3, .ref (gAd E (93))), (4, .int (nI i)), (5, .int (k)), (6, .int (r))] [.int (k), .int (rS R 0)] rfl ?_
  refine G.cmp_eq 1990 (tbd tv_law_look rfl) (by decide) (fun c1985 => ?_) (fun c1985 => absurd (hk) c1985)
  refine G.go tv_law_look 1 1992 [(0, .ref (b)), (1, .ref (gAd E (0))), (2, .ref (gAd E (56))), (3, .ref (gAd E (93))), (4, .int (nI i)), (5, .int (k)), (6, .int (r))] [.int (k)] rfl ?_
  refine G.if_ne 2007 (tbd tv_law_look rfl) (by decide) (fun c1992 => ?_) (fun c1992 => ?_)
  · skip
    refine G.go tv_law_look 1 2804 [(0, .ref (b)), (1, .ref (gAd E (0))), (2, .ref (gAd E (56))), (3, .ref (gAd E (93))), (4, .int (nI i)), (5, .int (k)), (6, .int (r))] [] rfl ?_
    refine G.drop [0, 1, 2, 3, 4] rfl ?_
    exact kk _ hI
  · skip
    obtain ⟨o, e93, eo⟩ := ho c1992
    refine G.go tv_law_look 2 1997 [(0, .ref (b)), (1, .ref (gAd E (0))), (2, .ref (gAd E (56))), (3, .ref (gAd E (93))), (4, .int (nI i)), (5, .int (k)), (6, .int (r))] [.int ((0 : Int32)), .ref (gAd E (93))] rfl ?_
    refine G.eqs [.int (nI (0)), .ref (gAd E (93))] (by rw [show (0 : Int32) = nI 0 from rfl]) ?_
    refine G.laldN (93) (0) (by omega) (e93) (by decide) (by decide) (tbd tv_law_look rfl) ?_
    refine G.go tv_law_look 3 2002 [(0, .ref (b)), (1, .ref (gAd E (0))), (2, .ref (gAd E (56))), (3, .ref (gAd E (93))), (4, .int (nI i)), (5, .int (k)), (6, .int (r))] [.int (lg_cmp ((o) (0)) ((r : Int32).toInt64))] rfl ?_
    refine G.if_eq 2007 (tbd tv_law_look rfl) (by decide) (fun c2002 => ?_) (fun c2002 => absurd ((lg_cmp_eq _ _).mpr (eo)) c2002)
    refine G.go tv_law_look 1 2804 [(0, .ref (b)), (1, .ref (gAd E (0))), (2, .ref (gAd E (56))), (3, .ref (gAd E (93))), (4, .int (nI i)), (5, .int (k)), (6, .int (r))] [] rfl ?_
    refine G.drop [0, 1, 2, 3, 4] rfl ?_
    exact kk _ hI
theorem w_1806 : Cond.methodLink "LedgerFilesLaw" 268 yL_look ∈ TB := tp_7 220 (by decide +kernel) rfl
theorem w_1807 : Cond.static yL_look ∈ TB := tp_7 221 (by decide +kernel) rfl
theorem cwh_268 : CwH RL 268 yL_look cL_look 5 (some .int) [(0, 10, 13, 13), (0, 10, 17, 20)] 4 := ⟨w_1806, w_1808, w_146, by decide +kernel, by decide +kernel, by decide, w_1807⟩
set_option maxRecDepth 100000 in
set_option maxHeartbeats 4000000 in
theorem k_look (E : gE) (f : Nat → va_E) (hE : 94 ≤ gN E) (b L : Nat) (xs : Nat → Int32) (cu su h sz i : Nat) (hi : i + 5 < L) (hL2 : L < 2 ^ 31) (hcu : cu + 2 ≤ room_1.cells) (hsu : su + 12 ≤ room_1.slots) (Inv : (Nat → va_E) → Prop) (H : CsI E f yX11_look cX11_look 3 yX12_look cX12_look 3 [.int (xs (i + 1)), .int (xs (i + 2))] [xI, xA] Inv) (kk : ∀ g, Inv g → G E (lwK h sz) code (gL b L xs (cu + 1) (su + 6)) 2804 [(0, .ref (b)), (1, .ref (gAd E (0))), (2, .ref (gAd E (56))), (3, .ref (gAd E (93))), (4, .int (nI i))] [] g) : G E (lwK h sz) code (gL b L xs cu su) 1942 [(0, .ref (b)), (1, .ref (gAd E (0))), (2, .ref (gAd E (56))), (3, .ref (gAd E (93))), (4, .int (nI i))] [] f := by
  obtain ⟨hc, Q, hM, hh, ⟨fs, h0⟩, hn, hx⟩ := H
  refine G.go tv_law_look 5 1948 [(0, .ref (b)), (1, .ref (gAd E (0))), (2, .ref (gAd E (56))), (3, .ref (gAd E (93))), (4, .int (nI i))] [.int ((nI i) + ((1 : Int32))), .ref (b), .ref (gAd E (0))] rfl ?_
  refine G.eqs [.int (nI (i + 1)), .ref (b), .ref (gAd E (0))] (by rw [show (1 : Int32) = nI 1 from rfl, nI_add]) ?_
  refine G.sld lwY_S lwK_A (i + 1) (by omega) hL2 (tbd tv_law_look rfl) ?_
  refine G.go tv_law_look 4 1954 [(0, .ref (b)), (1, .ref (gAd E (0))), (2, .ref (gAd E (56))), (3, .ref (gAd E (93))), (4, .int (nI i))] [.int ((nI i) + ((2 : Int32))), .ref (b), .int (xs (i + 1)), .ref (gAd E (0))] rfl ?_
  refine G.eqs [.int (nI (i + 2)), .ref (b), .int (xs (i + 1)), .ref (gAd E (0))] (by rw [show (2 : Int32) = nI 2 from rfl, nI_add]) ?_
  refine G.sld lwY_S lwK_A (i + 2) (by omega) hL2 (tbd tv_law_look rfl) ?_
  refine G.go tv_law_look 1 1956 [(0, .ref (b)), (1, .ref (gAd E (0))), (2, .ref (gAd E (56))), (3, .ref (gAd E (93))), (4, .int (nI i))] [.ref (gAd E (93)), .int (xs (i + 2)), .int (xs (i + 1)), .ref (gAd E (0))] rfl ?_
  refine G.callH [.ref (gAd E (0)), .int (xs (i + 1)), .int (xs (i + 2)), .ref (gAd E (93))] [] (h_L_look E f hE (xs (i + 1)) (xs (i + 2)) hM hh h0 (fun v g q => by obtain ⟨x, o, h1, h2, -⟩ := hn v g q; exact ⟨x, o, h1, h2⟩) (fun X g q => (xk2 (hx X g q)).elim (fun a => Or.inl a.1) (fun a => Or.inr a.1))) cwh_268 (Nat.le_of_ble_eq_true rfl) (Nat.le_of_ble_eq_true rfl) (by show cu + 1 ≤ room_1.cells; omega) (by show su + 6 ≤ room_1.slots; omega) rfl (Nat.le_of_ble_eq_true rfl) (tbd tv_law_look rfl) (fun v g q => ?_)
  rcases q with ⟨rfl, x, o, g0, q, e93, rfl⟩ | ⟨rfl, q⟩ | ⟨rfl, q⟩
  · refine G.eqs [.int 0] rfl ?_
    obtain ⟨x1, o1, e1, e2, hp⟩ := hn _ _ q
    cases e1
    obtain rfl := oJ_inj (e93.symm.trans e2)
    exact lt_look E _ hE b L xs cu su h sz i hi hL2 hcu hsu Inv 0 hp kk
  · refine G.eqs [.int 1] rfl ?_
    exact lt_look E _ hE b L xs cu su h sz i hi hL2 hcu hsu Inv 1 ((xk2 (hx _ _ q)).elim (fun a => a.2) (fun a => absurd a.1 (by decide))) kk
  · refine G.eqs [.int 2] rfl ?_
    exact lt_look E _ hE b L xs cu su h sz i hi hL2 hcu hsu Inv 2 ((xk2 (hx _ _ q)).elim (fun a => absurd a.1 (by decide)) (fun a => a.2)) kk
end GLX
