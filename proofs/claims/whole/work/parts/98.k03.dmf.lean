def tb_X10_available : List (Nat × Instr × Nat) := [(0, .aload_n 0, 1), (1, .invokevirtual 120, 3), (4, .aload_n 0, 1), (5, .getfield 30, 3), (8, .invokevirtual 124, 3), (11, .isub, 1), (12, .ireturn, 1)]
theorem tv_X10_available : Tv cX10_available tb_X10_available := by
  unfold Tv
  decide +kernel
theorem w_1412 : Cond.methodLink "LedgerFiles$View" 120 yX10_freeBlocks ∈ TB := tp_6 66 (by decide +kernel) rfl
theorem w_1415 : Cond.code yX10_freeBlocks prog_12_method_8_code 4 (some .int) ∈ TB := tp_6 69 rfl rfl
theorem cw_X10_120 : Cw RX10 120 yX10_freeBlocks cX10_freeBlocks 4 (some .int) 0 := ⟨w_1412, w_1415, w_155, by decide +kernel, by decide +kernel, by decide⟩
theorem w_1413 : Cond.instanceMethod yX10_freeBlocks ∈ TB := tp_6 67 (by decide +kernel) rfl
theorem w_1414 : Cond.selects "LedgerFiles$View" yX10_freeBlocks yX10_freeBlocks ∈ TB := tp_6 68 (by decide +kernel) rfl
theorem w_1422 : Cond.methodLink "LedgerFiles$View" 124 yX9_restingForNone ∈ TB := tp_6 76 (by decide +kernel) rfl
theorem w_1425 : Cond.code yX9_restingForNone prog_11_method_7_code 1 (some .int) ∈ TB := tp_6 79 rfl rfl
theorem cw_X10_124 : Cw RX10 124 yX9_restingForNone cX9_restingForNone 1 (some .int) 0 := ⟨w_1422, w_1425, w_154, by decide +kernel, by decide +kernel, by decide⟩
theorem w_1423 : Cond.instanceMethod yX9_restingForNone ∈ TB := tp_6 77 (by decide +kernel) rfl
theorem w_1424 : Cond.selects "LedgerFiles$Queue" yX9_restingForNone yX9_restingForNone ∈ TB := tp_6 78 (by decide +kernel) rfl
def d_X10_available (N : Nat) (V : Nat → Rw) (rs : Nat → Nat) (D : CfT) : Option (Int32) := bnd (d_X10_freeBlocks N V D) (fun v1 => bnd (d_X9_restingForNone N V rs D) (fun v2 => some ((v1) - (v2))))
set_option maxRecDepth 100000 in
set_option maxHeartbeats 4000000 in
theorem k_X10_available (E : gE) (f : Nat → va_E) (N B gr : Nat) (C D : CfT) (A : MS) (hz : CfZ E N B gr) (h : CfV E f N B gr C) (hD : Dq D C) (hA : AR N B gr A C) (r : Int32) (hr : d_X10_available N (vA A) A.2.2.2.2.1 D = some r) : Ct E 4 yX10_available cX10_available 1 (some .int) [.ref (gAd E (25))] f (fun v g => v = some (.int r) ∧ CfV E g N B gr C ∧ Fr CfK f g, fun _ _ => False) := by
  obtain ⟨z1, z2, z3, z4, z5, z6, z7⟩ := id hz
  refine Ct.of (by decide) (Nat.le_of_ble_eq_true rfl) (fun sz => ?_)
  refine G.eql [(0, .ref (gAd E (25)))] rfl ?_
  unfold d_X10_available at hr
  refine G.go tv_X10_available 1 1 [(0, .ref (gAd E (25)))] [.ref (gAd E (25))] rfl ?_
  obtain ⟨v1, hv1, hr⟩ := bnd_s hr
  refine G.callV (25) [] [] (k_X10_freeBlocks E _ N B gr C D A hz h hD hA v1 hv1) cls_X10 (by omega) (h.q25) cw_X10_120 w_1413 w_1414 (Nat.le_of_ble_eq_true rfl) rfl (Nat.le_of_ble_eq_true rfl) (tbd tv_X10_available rfl) (fun v1w f1 q1 => ?_) (fun _ _ h => h.elim)
  obtain ⟨rfl, ha1, fa1⟩ := q1
  refine G.eqs [.int (v1)] rfl ?_
  refine G.go tv_X10_available 1 5 [(0, .ref (gAd E (25)))] [.ref (gAd E (25)), .int (v1)] rfl ?_
  refine G.getf cls_X10 (25) 3 (by omega) (ha1.q25) (by decide) rfl (tbd tv_X10_available rfl) w_413 ?_
  obtain ⟨v2, hv2, hr⟩ := bnd_s hr
  refine G.callV (17) [] [.int (v1)] (k_X9_restingForNone E _ N B gr C D A hz ha1 hD hA v2 hv2) cls_X9 (by omega) (ha1.q17) cw_X10_124 w_1423 w_1424 (Nat.le_of_ble_eq_true rfl) rfl (Nat.le_of_ble_eq_true rfl) (tbd tv_X10_available rfl) (fun v2w f2 q2 => ?_) (fun _ _ h => h.elim)
  obtain ⟨rfl, ha2, fa2⟩ := q2
  refine G.eqs [.int (v2), .int (v1)] rfl ?_
  refine G.go tv_X10_available 1 12 [(0, .ref (gAd E (25)))] [.int ((v1) - (v2))] rfl ?_
  cases hr
  exact G.iret rfl rfl ⟨rfl, ha2, ((Fr.rf.tr fa1 (fun _ h => h)).tr fa2 (fun _ h => h))⟩ (tbd tv_X10_available rfl)
def tb_X10_discard : List (Nat × Instr × Nat) := [(0, .aload_n 0, 1), (1, .invokevirtual 160, 3), (4, .aload_n 0, 1), (5, .getfield 30, 3), (8, .invokevirtual 163, 3), (11, .return_, 1)]
theorem tv_X10_discard : Tv cX10_discard tb_X10_discard := by
  unfold Tv
  decide +kernel
theorem w_852 : Cond.methodLink "LedgerFiles$View" 160 yX10_disown ∈ TB := tp_3 226 (by decide +kernel) rfl
theorem w_855 : Cond.code yX10_disown prog_12_method_15_code 2 none ∈ TB := tp_3 229 rfl rfl
theorem cw_X10_160 : Cw RX10 160 yX10_disown cX10_disown 2 none 0 := ⟨w_852, w_855, w_155, by decide +kernel, by decide +kernel, by decide⟩
theorem w_854 : Cond.instanceMethod yX10_disown ∈ TB := tp_3 228 (by decide +kernel) rfl
theorem w_12 : Cond.selects "LedgerFiles$View" yX10_disown yX10_disown ∈ TB := tp_0 12 (by decide +kernel) rfl
theorem w_856 : Cond.methodLink "LedgerFiles$View" 163 yX9_wakeForNone ∈ TB := tp_3 230 (by decide +kernel) rfl
theorem cw_X10_163 : Cw RX10 163 yX9_wakeForNone cX9_wakeForNone 2 none 0 := ⟨w_856, w_859, w_154, by decide +kernel, by decide +kernel, by decide⟩
def d_X10_discard (N : Nat) (A : MS) (D : CfT) : Option (MS × CfT) := bnd2 (d_X10_disown N A D) (fun A3 D3 => bnd2 (d_X9_wakeForNone N A3 D3) (fun A4 D4 => some (A4, D4)))
set_option maxRecDepth 100000 in
set_option maxHeartbeats 4000000 in
theorem k_X10_discard (E : gE) (f : Nat → va_E) (N B gr : Nat) (C D : CfT) (A : MS) (hz : CfZ E N B gr) (h : CfV E f N B gr C) (hD : Dq D C) (hA : AR N B gr A C) (A9 : MS) (D9 : CfT) (hr : d_X10_discard N A D = some (A9, D9)) : Ct E 2 yX10_discard cX10_discard 1 none [.ref (gAd E (25))] f (fun v g => v = none ∧ SN E N B gr f A9 D9 g, fun _ _ => False) := by
  obtain ⟨z1, z2, z3, z4, z5, z6, z7⟩ := id hz
  refine Ct.of (by decide) (Nat.le_of_ble_eq_true rfl) (fun sz => ?_)
  refine G.eql [(0, .ref (gAd E (25)))] rfl ?_
  unfold d_X10_discard at hr
  refine G.go tv_X10_discard 1 1 [(0, .ref (gAd E (25)))] [.ref (gAd E (25))] rfl ?_
  obtain ⟨A3, D3, hv3, hr⟩ := bnd2_s hr
  refine G.callV (25) [] [] (k_X10_disown E _ N B gr C D A hz h hD hA A3 D3 hv3) cls_X10 (by omega) (h.q25) cw_X10_160 w_854 w_12 (Nat.le_of_ble_eq_true rfl) rfl (Nat.le_of_ble_eq_true rfl) (tbd tv_X10_discard rfl) (fun v3w f3 q3 => ?_) (fun _ _ h => h.elim)
  obtain ⟨rfl, C3, ha3, hD3, hA3, fa3⟩ := q3
  refine G.eqs [] rfl ?_
  refine G.go tv_X10_discard 1 5 [(0, .ref (gAd E (25)))] [.ref (gAd E (25))] rfl ?_
  refine G.getf cls_X10 (25) 3 (by omega) (ha3.q25) (by decide) rfl (tbd tv_X10_discard rfl) w_413 ?_
  obtain ⟨A4, D4, hv4, hr⟩ := bnd2_s hr
  refine G.callV (17) [] [] (k_X9_wakeForNone E _ N B gr C3 D3 A3 hz ha3 hD3 hA3 A4 D4 hv4) cls_X9 (by omega) (ha3.q17) cw_X10_163 w_857 w_858 (Nat.le_of_ble_eq_true rfl) rfl (Nat.le_of_ble_eq_true rfl) (tbd tv_X10_discard rfl) (fun v4w f4 q4 => ?_) (fun _ _ h => h.elim)
  obtain ⟨rfl, C4, ha4, hD4, hA4, fa4⟩ := q4
  refine G.eqs [] rfl ?_
  cases hr
  exact G.vret rfl ⟨rfl, C4, ha4, hD4, hA4, ((Fr.rf.tr fa3 (fun _ h => h)).tr fa4 (fun _ h => h))⟩ (tbd tv_X10_discard rfl)
def d_X5_reset (N : Nat) (V : Nat → Rw) (D : CfT) : Option (CfT) := flD D 33 65 ((0 : Int32)) (fun D5 => flD D5 34 32 ((0 : Int32)) (fun D6 => some D6))
set_option maxRecDepth 100000 in
set_option maxHeartbeats 4000000 in
theorem k_X5_reset (E : gE) (f : Nat → va_E) (N B gr : Nat) (C D : CfT) (A : MS) (hz : CfZ E N B gr) (h : CfV E f N B gr C) (hD : Dq D C) (hA : AR N B gr A C) (D9 : CfT) (hr : d_X5_reset N (vA A) D = some D9) : Ct E 2 yX5_reset cX5_reset 1 none [.ref (gAd E (32))] f (fun v g => v = none ∧ ST E N B gr f C A D9 g, fun _ _ => False) := by
  obtain ⟨z1, z2, z3, z4, z5, z6, z7⟩ := id hz
  refine Ct.of (by decide) (Nat.le_of_ble_eq_true rfl) (fun sz => ?_)
  refine G.eql [(0, .ref (gAd E (32)))] rfl ?_
  unfold d_X5_reset at hr
  refine G.go tv_X5_reset 1 1 [(0, .ref (gAd E (32)))] [.ref (gAd E (32))] rfl ?_
  refine G.getf cls_X5 (32) 0 (by omega) (h.q32) (by decide) rfl (tbd tv_X5_reset rfl) w_455 ?_
  refine G.go tv_X5_reset 1 5 [(0, .ref (gAd E (32)))] [.int ((0 : Int32)), .ref (gAd E (33))] rfl ?_
  obtain ⟨D5, eD5, hr⟩ := flD_s hr
  refine G.callS [.ref (gAd E (33)), .int ((0 : Int32))] [] (c_J7_fill_53178 E _ 33 65 _ ((0 : Int32)) (by omega) (h.q33) (by omega)) cw_X5_24 w_223 (Nat.le_of_ble_eq_true rfl) rfl (Nat.le_of_ble_eq_true rfl) (tbd tv_X5_reset rfl) (fun v5w f5 q5 => ?_) (fun _ _ h => h.elim)
  obtain ⟨rfl, rfl⟩ := q5
  refine G.eqs [] rfl ?_
  refine G.gen (P := ST E N B gr f C A D5) ⟨sA C 33 (flt (cA C 33) 0 65 ((0 : Int32))), h.p33 _, (by rw [eD5]; exact hD.aF (fun g => flt g 0 65 ((0 : Int32))) (by decide)), hA.sm (Sd.a (by decide) : Sd C (sA C 33 (flt (cA C 33) 0 65 ((0 : Int32))))), Rq.rf.tr ⟨rfl, rfl⟩, Fr.c Fr.rf (by first | exact Or.inl (by decide) | exact Or.inr (by omega))⟩ (fun u5 p5 => ?_)
  obtain ⟨C5, h5, hD5, hA5, hR5, k5⟩ := p5
  refine G.go tv_X5_reset 1 9 [(0, .ref (gAd E (32)))] [.ref (gAd E (32))] rfl ?_
  refine G.getf cls_X5 (32) 1 (by omega) (h5.q32) (by decide) rfl (tbd tv_X5_reset rfl) w_457 ?_
  refine G.go tv_X5_reset 1 13 [(0, .ref (gAd E (32)))] [.int ((0 : Int32)), .ref (gAd E (34))] rfl ?_
  obtain ⟨D6, eD6, hr⟩ := flD_s hr
  refine G.callS [.ref (gAd E (34)), .int ((0 : Int32))] [] (c_J7_fill_53178 E _ 34 32 _ ((0 : Int32)) (by omega) (h5.q34) (by omega)) cw_X5_24 w_223 (Nat.le_of_ble_eq_true rfl) rfl (Nat.le_of_ble_eq_true rfl) (tbd tv_X5_reset rfl) (fun v6w f6 q6 => ?_) (fun _ _ h => h.elim)
  obtain ⟨rfl, rfl⟩ := q6
  refine G.eqs [] rfl ?_
  refine G.gen (P := ST E N B gr f C A D6) ⟨sA C5 34 (flt (cA C5 34) 0 32 ((0 : Int32))), h5.p34 _, (by rw [eD6]; exact hD5.aF (fun g => flt g 0 32 ((0 : Int32))) (by decide)), hA5.sm (Sd.a (by decide) : Sd C5 (sA C5 34 (flt (cA C5 34) 0 32 ((0 : Int32))))), hR5.tr ⟨rfl, rfl⟩, Fr.c k5 (by first | exact Or.inl (by decide) | exact Or.inr (by omega))⟩ (fun u6 p6 => ?_)
  obtain ⟨C6, h6, hD6, hA6, hR6, k6⟩ := p6
  cases hr
  exact G.vret rfl ⟨rfl, C6, h6, hD6, hA6, hR6, k6⟩ (tbd tv_X5_reset rfl)
def tb_X1_faults : List (Nat × Instr × Nat) := [(0, .aload_n 0, 1), (1, .iconst 0, 1), (2, .putfield 30, 3), (5, .aload_n 0, 1), (6, .getfield 9, 3), (9, .iconst 0, 1), (10, .invokestatic 34, 3), (13, .aload_n 0, 1), (14, .getfield 27, 3), (17, .iconst 0, 1), (18, .invokestatic 34, 3), (21, .aload_n 0, 1), (22, .getfield 27, 3), (25, .iconst 0, 1), (26, .bipush 61, 2), (28, .iconst 1, 1), (29, .invokestatic 40, 3), (32, .aload_n 0, 1), (33, .getfield 9, 3), (36, .iconst 1, 1), (37, .iconst 1, 1), (38, .iastore, 1), (39, .aload_n 0, 1), (40, .aload_n 0, 1), (41, .getfield 19, 3), (44, .iconst 1, 1), (45, .invokevirtual 43, 3), (48, .iconst 2, 1), (49, .if_icmp .ne 7, 3), (52, .iconst 1, 1), (53, .goto 4, 3), (56, .iconst 0, 1), (57, .invokevirtual 49, 3), (60, .iconst 1, 1), (61, .istore_n 1, 1), (62, .iload_n 1, 1), (63, .bipush 64, 2), (65, .if_icmp .gt 14, 3), (68, .aload_n 0, 1), (69, .iload_n 1, 1), (70, .invokevirtual 53, 3), (73, .iinc 1 1, 3), (76, .goto (-14), 3), (79, .aload_n 0, 1), (80, .invokevirtual 57, 3), (83, .aload_n 0, 1), (84, .invokevirtual 60, 3), (87, .aload_n 0, 1), (88, .getfield 30, 3), (91, .ireturn, 1)]
theorem tv_X1_faults : Tv cX1_faults tb_X1_faults := by
  unfold Tv
  decide +kernel
theorem w_1975 : Cond.methodLink "LedgerFiles$Checker" 34 yJ7_fill_53178 ∈ TB := tp_8 149 (by decide +kernel) rfl
theorem cw_X1_34 : Cw RX1 34 yJ7_fill_53178 cJ7_fill_53178 4 none 2 := ⟨w_1975, w_224, w_151, by decide +kernel, by decide +kernel, by decide⟩
theorem w_1976 : Cond.methodLink "LedgerFiles$Checker" 40 yJ7_fill_fda19 ∈ TB := tp_8 150 (by decide +kernel) rfl
theorem w_1978 : Cond.code yJ7_fill_fda19 prog_30_method_104_code 5 none ∈ TB := tp_8 152 rfl rfl
theorem cw_X1_40 : Cw RX1 40 yJ7_fill_fda19 cJ7_fill_fda19 5 none 4 := ⟨w_1976, w_1978, w_151, by decide +kernel, by decide +kernel, by decide⟩
theorem w_1977 : Cond.static yJ7_fill_fda19 ∈ TB := tp_8 151 (by decide +kernel) rfl
theorem w_2017 : Cond.methodLink "LedgerFiles$Checker" 57 yX1_lookAtLinks ∈ TB := tp_8 191 (by decide +kernel) rfl
theorem w_2020 : Cond.code yX1_lookAtLinks prog_3_method_9_code 2 none ∈ TB := tp_8 194 rfl rfl
theorem cw_X1_57 : Cw RX1 57 yX1_lookAtLinks cX1_lookAtLinks 2 none 0 := ⟨w_2017, w_2020, w_160, by decide +kernel, by decide +kernel, by decide⟩
theorem w_2019 : Cond.instanceMethod yX1_lookAtLinks ∈ TB := tp_8 193 (by decide +kernel) rfl
theorem w_50 : Cond.selects "LedgerFiles$Checker" yX1_lookAtLinks yX1_lookAtLinks ∈ TB := tp_0 50 (by decide +kernel) rfl
theorem w_2023 : Cond.methodLink "LedgerFiles$Checker" 60 yX1_lookAtBits ∈ TB := tp_8 197 (by decide +kernel) rfl
theorem w_2026 : Cond.code yX1_lookAtBits prog_3_method_10_code 4 none ∈ TB := tp_8 200 rfl rfl
theorem cw_X1_60 : Cw RX1 60 yX1_lookAtBits cX1_lookAtBits 4 none 0 := ⟨w_2023, w_2026, w_160, by decide +kernel, by decide +kernel, by decide⟩
theorem w_2025 : Cond.instanceMethod yX1_lookAtBits ∈ TB := tp_8 199 (by decide +kernel) rfl
theorem w_51 : Cond.selects "LedgerFiles$Checker" yX1_lookAtBits yX1_lookAtBits ∈ TB := tp_0 51 (by decide +kernel) rfl
theorem w_1984 : Cond.methodLink "LedgerFiles$Checker" 53 yX1_lookAtInode ∈ TB := tp_8 158 (by decide +kernel) rfl
theorem w_1987 : Cond.code yX1_lookAtInode prog_3_method_4_code 5 none ∈ TB := tp_8 161 rfl rfl
theorem cw_X1_53 : Cw RX1 53 yX1_lookAtInode cX1_lookAtInode 5 none 1 := ⟨w_1984, w_1987, w_160, by decide +kernel, by decide +kernel, by decide⟩
theorem w_1986 : Cond.instanceMethod yX1_lookAtInode ∈ TB := tp_8 160 (by decide +kernel) rfl
theorem w_45 : Cond.selects "LedgerFiles$Checker" yX1_lookAtInode yX1_lookAtInode ∈ TB := tp_0 45 (by decide +kernel) rfl
def d_X1_faults_62 (N : Nat) (V : Nat → Rw) : Nat → CfT → Int32 → Option (Int32 × CfT)
  | 0, _, _ => none
  | n + 1, D, x1 => if ((64 : Int32)) < x1 then bnd (d_X1_lookAtLinks N V D) (fun D15 => bnd (d_X1_lookAtBits N V D15) (fun D16 => some (cS D16 4405, D16))) else bnd (d_X1_lookAtInode N V D x1) (fun D17 => d_X1_faults_62 N V n D17 (x1 + (1 : Int32)))
def d_X1_faults (N : Nat) (V : Nat → Rw) (D : CfT) : Option (Int32 × CfT) := ptS D 4405 ((0 : Int32)) (fun D7 => flD D7 46 65 ((0 : Int32)) (fun D8 => flD D8 45 N ((0 : Int32)) (fun D9 => frD D9 45 N ((0 : Int32)) ((61 : Int32)) ((1 : Int32)) (fun D10 => stA D10 46 65 ((1 : Int32)) ((1 : Int32)) (fun D11 => bnd (d_X7_kind N V D11 ((1 : Int32))) (fun v12 => if v12 = ((2 : Int32)) then bnd (d_X1_ask N V D11 ((1 : Int32))) (fun D14 => d_X1_faults_62 N V fuL D14 ((1 : Int32))) else bnd (d_X1_ask N V D11 ((0 : Int32))) (fun D13 => d_X1_faults_62 N V fuL D13 ((1 : Int32)))))))))
set_option maxRecDepth 100000 in
set_option maxHeartbeats 4000000 in
theorem l_X1_faults_62 (E : gE) (f0 : Nat → va_E) (sz : Nat) (QA : Nat → Prop) (N B gr : Nat) (C0 : CfT) (A : MS) (hz : CfZ E N B gr) : ∀ (n : Nat), ∀ (D : CfT) (x1 : Int32) (r : Int32) (D9 : CfT) (hr : d_X1_faults_62 N (vA A) n D x1 = some (r, D9)) (f : Nat → va_E) (C : CfT) (h : CfV E f N B gr C) (hD : Dq D C) (hA : AR N B gr A C) (hR : Rq C0 C) (hf : Fr CfK f0 f), G E (6, yX1_faults, 2, (some .int), sz, QA) cX1_faults (gO E (6, yX1_faults, 2, (some .int), sz, QA) (fun v g => v = some (.int r) ∧ ST E N B gr f0 C0 A D9 g, fun _ _ => False)) 62 [(0, .ref (gAd E (44))), (1, .int (x1))] [] f := by
  obtain ⟨z1, z2, z3, z4, z5, z6, z7⟩ := id hz
  intro n
  induction n with
  | zero =>
    intro D x1 r D9 hr f C h hD hA hR hf
    cases hr
  | succ n ih =>
    intro D x1 r D9 hr f C h hD hA hR hf
    unfold d_X1_faults_62 at hr
    refine G.go tv_X1_faults 2 65 [(0, .ref (gAd E (44))), (1, .int (x1))] [.int ((64 : Int32)), .int (x1)] rfl ?_
    refine G.cmp_gt 79 (tbd tv_X1_faults rfl) (by decide) (fun c65 => ?_) (fun c65 => ?_)
    · replace hr := ite_t c65 hr
      refine G.go tv_X1_faults 1 80 [(0, .ref (gAd E (44))), (1, .int (x1))] [.ref (gAd E (44))] rfl ?_
      obtain ⟨D15, hv15, hr⟩ := bnd_s hr
      refine G.callV (44) [] [] (k_X1_lookAtLinks E _ N B gr C D A hz h hD hA D15 hv15) cls_X1 (by omega) (h.q44) cw_X1_57 w_2019 w_50 (Nat.le_of_ble_eq_true rfl) rfl (Nat.le_of_ble_eq_true rfl) (tbd tv_X1_faults rfl) (fun v15w f15 q15 => ?_) (fun _ _ h => h.elim)
      obtain ⟨rfl, C15, ha15, hD15, hA15, hR15, fa15⟩ := q15
      refine G.eqs [] rfl ?_
      refine G.go tv_X1_faults 1 84 [(0, .ref (gAd E (44))), (1, .int (x1))] [.ref (gAd E (44))] rfl ?_
      obtain ⟨D16, hv16, hr⟩ := bnd_s hr
      refine G.callV (44) [] [] (k_X1_lookAtBits E _ N B gr C15 D15 A hz ha15 hD15 hA15 D16 hv16) cls_X1 (by omega) (ha15.q44) cw_X1_60 w_2025 w_51 (Nat.le_of_ble_eq_true rfl) rfl (Nat.le_of_ble_eq_true rfl) (tbd tv_X1_faults rfl) (fun v16w f16 q16 => ?_) (fun _ _ h => h.elim)
      obtain ⟨rfl, C16, ha16, hD16, hA16, hR16, fa16⟩ := q16
      refine G.eqs [] rfl ?_
      refine G.go tv_X1_faults 1 88 [(0, .ref (gAd E (44))), (1, .int (x1))] [.ref (gAd E (44))] rfl ?_
      refine G.getf cls_X1 (44) 5 (by omega) (ha16.q44) (by decide) rfl (tbd tv_X1_faults rfl) w_549 ?_
      refine G.eq1 (b := cS D16 4405) (hD16.1 4405 (by decide)) ?_
      cases hr
      exact G.iret rfl rfl ⟨rfl, C16, ha16, hD16, hA16, ((hR.tr hR15).tr hR16), ((hf.tr fa15 (fun _ h => h)).tr fa16 (fun _ h => h))⟩ (tbd tv_X1_faults rfl)
    · replace hr := ite_f c65 hr
      refine G.go tv_X1_faults 2 70 [(0, .ref (gAd E (44))), (1, .int (x1))] [.int (x1), .ref (gAd E (44))] rfl ?_
      obtain ⟨D17, hv17, hr⟩ := bnd_s hr
      refine G.callV (44) [.int (x1)] [] (k_X1_lookAtInode E _ N B gr C D A hz h hD hA x1 D17 hv17) cls_X1 (by omega) (h.q44) cw_X1_53 w_1986 w_45 (Nat.le_of_ble_eq_true rfl) rfl (Nat.le_of_ble_eq_true rfl) (tbd tv_X1_faults rfl) (fun v17w f17 q17 => ?_) (fun _ _ h => h.elim)
      obtain ⟨rfl, C17, ha17, hD17, hA17, hR17, fa17⟩ := q17
      refine G.eqs [] rfl ?_
      refine G.go tv_X1_faults 2 62 [(0, .ref (gAd E (44))), (1, .int (x1 + (1 : Int32)))] [] rfl ?_
      refine G.less [(0, .ref (gAd E (44))), (1, .int (x1 + (1 : Int32)))] [0, 1] rfl ?_
      exact ih _ _ _ _ hr _ _ ha17 hD17 hA17 (hR.tr hR17) (hf.tr fa17 (fun _ h => h))
set_option maxRecDepth 100000 in
set_option maxHeartbeats 4000000 in
theorem k_X1_faults (E : gE) (f : Nat → va_E) (N B gr : Nat) (C D : CfT) (A : MS) (hz : CfZ E N B gr) (h : CfV E f N B gr C) (hD : Dq D C) (hA : AR N B gr A C) (r : Int32) (D9 : CfT) (hr : d_X1_faults N (vA A) D = some (r, D9)) : Ct E 6 yX1_faults cX1_faults 2 (some .int) [.ref (gAd E (44))] f (fun v g => v = some (.int r) ∧ ST E N B gr f C A D9 g, fun _ _ => False) := by
  obtain ⟨z1, z2, z3, z4, z5, z6, z7⟩ := id hz
  refine Ct.of (by decide) (Nat.le_of_ble_eq_true rfl) (fun sz => ?_)
  refine G.eql [(0, .ref (gAd E (44)))] rfl ?_
  unfold d_X1_faults at hr
  refine G.go tv_X1_faults 2 2 [(0, .ref (gAd E (44)))] [.int ((0 : Int32)), .ref (gAd E (44))] rfl ?_
  obtain ⟨D7, eD7, hr⟩ := ptS_s hr
  refine G.putfS cls_X1 (44) 5 [.ref (gAd E 25), .ref (gAd E 37), .ref (gAd E 32), .ref (gAd E 45), .ref (gAd E 46), .int ((0 : Int32))] (by omega) (h.q44) rfl (by decide) rfl rfl rfl (Nat.le_of_ble_eq_true rfl) (tbd tv_X1_faults rfl) w_549 ?_
  refine G.gen (P := ST E N B gr f C A D7) ⟨sS C 4405 ((0 : Int32)), h.s4405 _, (by rw [eD7]; exact hD.ss), hA.sm (Sd.s (by decide) : Sd C (sS C 4405 ((0 : Int32)))), Rq.rf.tr ⟨rfl, rfl⟩, Fr.c Fr.rf (by first | exact Or.inl (by decide) | exact Or.inr (by omega))⟩ (fun u7 p7 => ?_)
  obtain ⟨C7, h7, hD7, hA7, hR7, k7⟩ := p7
  refine G.go tv_X1_faults 1 6 [(0, .ref (gAd E (44)))] [.ref (gAd E (44))] rfl ?_
  refine G.getf cls_X1 (44) 4 (by omega) (h7.q44) (by decide) rfl (tbd tv_X1_faults rfl) w_548 ?_
  refine G.go tv_X1_faults 1 10 [(0, .ref (gAd E (44)))] [.int ((0 : Int32)), .ref (gAd E (46))] rfl ?_
  obtain ⟨D8, eD8, hr⟩ := flD_s hr
  refine G.callS [.ref (gAd E (46)), .int ((0 : Int32))] [] (c_J7_fill_53178 E _ 46 65 _ ((0 : Int32)) (by omega) (h7.q46) (by omega)) cw_X1_34 w_223 (Nat.le_of_ble_eq_true rfl) rfl (Nat.le_of_ble_eq_true rfl) (tbd tv_X1_faults rfl) (fun v8w f8 q8 => ?_) (fun _ _ h => h.elim)
  obtain ⟨rfl, rfl⟩ := q8
  refine G.eqs [] rfl ?_
  refine G.gen (P := ST E N B gr f C A D8) ⟨sA C7 46 (flt (cA C7 46) 0 65 ((0 : Int32))), h7.p46 _, (by rw [eD8]; exact hD7.aF (fun g => flt g 0 65 ((0 : Int32))) (by decide)), hA7.sm (Sd.a (by decide) : Sd C7 (sA C7 46 (flt (cA C7 46) 0 65 ((0 : Int32))))), hR7.tr ⟨rfl, rfl⟩, Fr.c k7 (by first | exact Or.inl (by decide) | exact Or.inr (by omega))⟩ (fun u8 p8 => ?_)
  obtain ⟨C8, h8, hD8, hA8, hR8, k8⟩ := p8
  refine G.go tv_X1_faults 1 14 [(0, .ref (gAd E (44)))] [.ref (gAd E (44))] rfl ?_
  refine G.getf cls_X1 (44) 3 (by omega) (h8.q44) (by decide) rfl (tbd tv_X1_faults rfl) w_547 ?_
  refine G.go tv_X1_faults 1 18 [(0, .ref (gAd E (44)))] [.int ((0 : Int32)), .ref (gAd E (45))] rfl ?_
  obtain ⟨D9, eD9, hr⟩ := flD_s hr
  refine G.callS [.ref (gAd E (45)), .int ((0 : Int32))] [] (c_J7_fill_53178 E _ 45 N _ ((0 : Int32)) (by omega) (h8.q45) (by omega)) cw_X1_34 w_223 (Nat.le_of_ble_eq_true rfl) rfl (Nat.le_of_ble_eq_true rfl) (tbd tv_X1_faults rfl) (fun v9w f9 q9 => ?_) (fun _ _ h => h.elim)
  obtain ⟨rfl, rfl⟩ := q9
  refine G.eqs [] rfl ?_
  refine G.gen (P := ST E N B gr f C A D9) ⟨sA C8 45 (flt (cA C8 45) 0 N ((0 : Int32))), h8.p45 _, (by rw [eD9]; exact hD8.aF (fun g => flt g 0 N ((0 : Int32))) (by decide)), hA8.sm (Sd.a (by decide) : Sd C8 (sA C8 45 (flt (cA C8 45) 0 N ((0 : Int32))))), hR8.tr ⟨rfl, rfl⟩, Fr.c k8 (by first | exact Or.inl (by decide) | exact Or.inr (by omega))⟩ (fun u9 p9 => ?_)
  obtain ⟨C9, h9, hD9, hA9, hR9, k9⟩ := p9
  refine G.go tv_X1_faults 1 22 [(0, .ref (gAd E (44)))] [.ref (gAd E (44))] rfl ?_
  refine G.getf cls_X1 (44) 3 (by omega) (h9.q44) (by decide) rfl (tbd tv_X1_faults rfl) w_547 ?_
  refine G.go tv_X1_faults 3 29 [(0, .ref (gAd E (44)))] [.int ((1 : Int32)), .int ((61 : Int32)), .int ((0 : Int32)), .ref (gAd E (45))] rfl ?_
  obtain ⟨D10, ia10, iz10, il10, in10, eD10, hr⟩ := frD_s hr
  refine G.eqs [.int ((1 : Int32)), .int (nI ((61 : Int32)).toNatClampNeg), .int (nI ((0 : Int32)).toNatClampNeg), .ref (gAd E (45))] (by rw [← ia10, ← iz10]) ?_
  refine G.callS [.ref (gAd E (45)), .int (nI ((0 : Int32)).toNatClampNeg), .int (nI ((61 : Int32)).toNatClampNeg), .int ((1 : Int32))] [] (c_J7_fill_fda19 E _ 45 N _ _ _ ((1 : Int32)) (by omega) (h9.q45) (by omega) il10 in10) cw_X1_40 w_1977 (Nat.le_of_ble_eq_true rfl) rfl (Nat.le_of_ble_eq_true rfl) (tbd tv_X1_faults rfl) (fun v10w f10 q10 => ?_) (fun _ _ h => h.elim)
  obtain ⟨rfl, rfl⟩ := q10
  refine G.eqs [] rfl ?_
  refine G.gen (P := ST E N B gr f C A D10) ⟨sA C9 45 (flt (cA C9 45) ((0 : Int32)).toNatClampNeg ((61 : Int32)).toNatClampNeg ((1 : Int32))), h9.p45 _, (by rw [eD10]; exact hD9.aF (fun g => flt g ((0 : Int32)).toNatClampNeg ((61 : Int32)).toNatClampNeg ((1 : Int32))) (by decide)), hA9.sm (Sd.a (by decide) : Sd C9 (sA C9 45 (flt (cA C9 45) ((0 : Int32)).toNatClampNeg ((61 : Int32)).toNatClampNeg ((1 : Int32))))), hR9.tr ⟨rfl, rfl⟩, Fr.c k9 (by first | exact Or.inl (by decide) | exact Or.inr (by omega))⟩ (fun u10 p10 => ?_)
  obtain ⟨C10, h10, hD10, hA10, hR10, k10⟩ := p10
  refine G.go tv_X1_faults 1 33 [(0, .ref (gAd E (44)))] [.ref (gAd E (44))] rfl ?_
  refine G.getf cls_X1 (44) 4 (by omega) (h10.q44) (by decide) rfl (tbd tv_X1_faults rfl) w_548 ?_
  refine G.go tv_X1_faults 2 38 [(0, .ref (gAd E (44)))] [.int ((1 : Int32)), .int ((1 : Int32)), .ref (gAd E (46))] rfl ?_
  obtain ⟨D11, b11, eD11, hr⟩ := stA_s hr
  refine G.iast (46) (by omega) (h10.q46) b11 (tbd tv_X1_faults rfl) ?_
  refine G.gen (P := ST E N B gr f C A D11) ⟨sA C10 46 (upd (cA C10 46) ((1 : Int32)).toNatClampNeg ((1 : Int32))), h10.p46 _, (by rw [eD11]; exact hD10.au (by decide)), hA10.sm (Sd.a (by decide) : Sd C10 (sA C10 46 (upd (cA C10 46) ((1 : Int32)).toNatClampNeg ((1 : Int32))))), hR10.tr ⟨rfl, rfl⟩, Fr.c k10 (by first | exact Or.inl (by decide) | exact Or.inr (by omega))⟩ (fun u11 p11 => ?_)
  obtain ⟨C11, h11, hD11, hA11, hR11, k11⟩ := p11
  refine G.go tv_X1_faults 2 41 [(0, .ref (gAd E (44)))] [.ref (gAd E (44)), .ref (gAd E (44))] rfl ?_
  refine G.getf cls_X1 (44) 1 (by omega) (h11.q44) (by decide) rfl (tbd tv_X1_faults rfl) w_545 ?_
  refine G.go tv_X1_faults 1 45 [(0, .ref (gAd E (44)))] [.int ((1 : Int32)), .ref (gAd E (37)), .ref (gAd E (44))] rfl ?_
  obtain ⟨v12, hv12, hr⟩ := bnd_s hr
  refine G.callV (37) [.int ((1 : Int32))] [.ref (gAd E (44))] (k_X7_kind E _ N B gr C11 D11 A hz h11 hD11 hA11 ((1 : Int32)) v12 hv12) cls_X7 (by omega) (h11.q37) cw_X1_43 w_903 w_904 (Nat.le_of_ble_eq_true rfl) rfl (Nat.le_of_ble_eq_true rfl) (tbd tv_X1_faults rfl) (fun v12w f12 q12 => ?_) (fun _ _ h => h.elim)
  obtain ⟨rfl, ha12, fa12⟩ := q12
  refine G.eqs [.int (v12), .ref (gAd E (44))] rfl ?_
  refine G.go tv_X1_faults 1 49 [(0, .ref (gAd E (44)))] [.int ((2 : Int32)), .int (v12), .ref (gAd E (44))] rfl ?_
  refine G.cmp_ne 56 (tbd tv_X1_faults rfl) (by decide) (fun c49 => ?_) (fun c49 => ?_)
  · replace hr := ite_f c49 hr
    refine G.go tv_X1_faults 1 57 [(0, .ref (gAd E (44)))] [.int ((0 : Int32)), .ref (gAd E (44))] rfl ?_
    obtain ⟨D13, hv13, hr⟩ := bnd_s hr
    refine G.callV (44) [.int ((0 : Int32))] [] (k_X1_ask E _ N B gr C11 D11 A hz ha12 hD11 hA11 ((0 : Int32)) D13 hv13) cls_X1 (by omega) (ha12.q44) cw_X1_49 w_1982 w_44 (Nat.le_of_ble_eq_true rfl) rfl (Nat.le_of_ble_eq_true rfl) (tbd tv_X1_faults rfl) (fun v13w f13 q13 => ?_) (fun _ _ h => h.elim)
    obtain ⟨rfl, C13, ha13, hD13, hA13, hR13, fa13⟩ := q13
    refine G.eqs [] rfl ?_
    refine G.go tv_X1_faults 2 62 [(0, .ref (gAd E (44))), (1, .int ((1 : Int32)))] [] rfl ?_
    refine G.less [(0, .ref (gAd E (44))), (1, .int ((1 : Int32)))] [0, 1] rfl ?_
    exact l_X1_faults_62 E f sz _ N B gr C A hz _ _ _ _ _ hr _ _ ha13 hD13 hA13 (hR11.tr hR13) ((k11.tr fa12 (fun _ h => h)).tr fa13 (fun _ h => h))
  · replace hr := ite_t c49 hr
    refine G.go tv_X1_faults 2 57 [(0, .ref (gAd E (44)))] [.int ((1 : Int32)), .ref (gAd E (44))] rfl ?_
    obtain ⟨D14, hv14, hr⟩ := bnd_s hr
    refine G.callV (44) [.int ((1 : Int32))] [] (k_X1_ask E _ N B gr C11 D11 A hz ha12 hD11 hA11 ((1 : Int32)) D14 hv14) cls_X1 (by omega) (ha12.q44) cw_X1_49 w_1982 w_44 (Nat.le_of_ble_eq_true rfl) rfl (Nat.le_of_ble_eq_true rfl) (tbd tv_X1_faults rfl) (fun v14w f14 q14 => ?_) (fun _ _ h => h.elim)
    obtain ⟨rfl, C14, ha14, hD14, hA14, hR14, fa14⟩ := q14
    refine G.eqs [] rfl ?_
    refine G.go tv_X1_faults 2 62 [(0, .ref (gAd E (44))), (1, .int ((1 : Int32)))] [] rfl ?_
    refine G.less [(0, .ref (gAd E (44))), (1, .int ((1 : Int32)))] [0, 1] rfl ?_
    exact l_X1_faults_62 E f sz _ N B gr C A hz _ _ _ _ _ hr _ _ ha14 hD14 hA14 (hR11.tr hR14) ((k11.tr fa12 (fun _ h => h)).tr fa14 (fun _ h => h))
def tb_X10_writeDirectly : List (Nat × Instr × Nat) := [(0, .aload_n 0, 1), (1, .iload_n 1, 1), (2, .invokevirtual 94, 3), (5, .ifCond .ne 4, 3), (8, .return_, 1), (9, .aload_n 0, 1), (10, .getfield 30, 3), (13, .getfield 68, 3), (16, .iload_n 1, 1), (17, .iaload, 1), (18, .iconst (-1), 1), (19, .if_icmp .ne 16, 3), (22, .aload_n 0, 1), (23, .getfield 26, 3), (26, .getfield 74, 3), (29, .iload_n 1, 1), (30, .iaload, 1), (31, .iconst (-1), 1), (32, .if_icmp .eq 18, 3), (35, .aload_n 0, 1), (36, .getfield 30, 3), (39, .invokevirtual 143, 3), (42, .pop, 1), (43, .aload_n 0, 1), (44, .getfield 26, 3), (47, .invokevirtual 146, 3), (50, .aload_n 0, 1), (51, .getfield 22, 3), (54, .iload_n 1, 1), (55, .aload_n 2, 1), (56, .invokevirtual 149, 3), (59, .return_, 1)]
theorem tv_X10_writeDirectly : Tv cX10_writeDirectly tb_X10_writeDirectly := by
  unfold Tv
  decide +kernel
theorem w_1273 : Cond.methodLink "LedgerFiles$View" 143 yX9_flushAll ∈ TB := tp_5 167 (by decide +kernel) rfl
theorem w_1276 : Cond.code yX9_flushAll prog_11_method_15_code 3 (some .int) ∈ TB := tp_5 170 rfl rfl
theorem cw_X10_143 : Cw RX10 143 yX9_flushAll cX9_flushAll 3 (some .int) 0 := ⟨w_1273, w_1276, w_154, by decide +kernel, by decide +kernel, by decide⟩
theorem w_1274 : Cond.instanceMethod yX9_flushAll ∈ TB := tp_5 168 (by decide +kernel) rfl
theorem w_1275 : Cond.selects "LedgerFiles$Queue" yX9_flushAll yX9_flushAll ∈ TB := tp_5 169 (by decide +kernel) rfl
theorem w_1585 : Cond.methodLink "LedgerFiles$View" 146 yX6_applyAll ∈ TB := tp_6 239 (by decide +kernel) rfl
theorem cw_X10_146 : Cw RX10 146 yX6_applyAll cX6_applyAll 3 none 0 := ⟨w_1585, w_888, w_153, by decide +kernel, by decide +kernel, by decide⟩
theorem w_1586 : Cond.methodLink "LedgerFiles$View" 149 yX0_place ∈ TB := tp_7 0 (by decide +kernel) rfl
theorem cw_X10_149 : Cw RX10 149 yX0_place cX0_place 4 none 2 := ⟨w_1586, w_720, w_152, by decide +kernel, by decide +kernel, by decide⟩
noncomputable def d_X10_writeDirectly (N B gr : Nat) (A : MS) (D : CfT) (a0 : Int32) : Option (FR Unit) := bnd (d_X10_isBlock N (vA A) D a0) (fun v18 => if v18 = 0 then some (.inl ((), A, D)) else bnd (qTo N A a0) (fun v19 => if v19 = ((-1 : Int32)) then bnd (lTo N A a0) (fun v23 => if v23 = ((-1 : Int32)) then bndF (fPl N B gr A D a0) (fun v24 A24 D24 => some (.inl ((), A24, D24))) else bndF (fFl N B gr A D) (fun v25 A25 D25 => bndF (fAp N B gr A25 D25) (fun v26 A26 D26 => bndF (fPl N B gr A26 D26 a0) (fun v27 A27 D27 => some (.inl ((), A27, D27)))))) else bndF (fFl N B gr A D) (fun v20 A20 D20 => bndF (fAp N B gr A20 D20) (fun v21 A21 D21 => bndF (fPl N B gr A21 D21 a0) (fun v22 A22 D22 => some (.inl ((), A22, D22)))))))
set_option maxRecDepth 100000 in
set_option maxHeartbeats 4000000 in
theorem k_X10_writeDirectly (E : gE) (f : Nat → va_E) (N B gr : Nat) (C D : CfT) (A : MS) (hz : CfZ E N B gr) (h : CfV E f N B gr C) (hD : Dq D C) (hA : AR N B gr A C) (a0 : Int32) (r : FR Unit) (hr : d_X10_writeDirectly N B gr A D a0 = some r) : Ct E 11 yX10_writeDirectly cX10_writeDirectly 3 none [.ref (gAd E (25)), .int (a0), .ref (gAd E (42))] f (FQ E N B gr f (fun _ => none) r) := by
  obtain ⟨z1, z2, z3, z4, z5, z6, z7⟩ := id hz
  refine Ct.of (by decide) (Nat.le_of_ble_eq_true rfl) (fun sz => ?_)
  refine G.eql [(0, .ref (gAd E (25))), (1, .int (a0)), (2, .ref (gAd E (42)))] rfl ?_
  unfold d_X10_writeDirectly at hr
  refine G.go tv_X10_writeDirectly 2 2 [(0, .ref (gAd E (25))), (1, .int (a0)), (2, .ref (gAd E (42)))] [.int (a0), .ref (gAd E (25))] rfl ?_
  obtain ⟨v18, hv18, hr⟩ := bnd_s hr
  refine G.callV (25) [.int (a0)] [] (k_X10_isBlock E _ N B gr C D A hz h hD hA a0 v18 hv18) cls_X10 (by omega) (h.q25) cw_X10_94 w_914 w_915 (Nat.le_of_ble_eq_true rfl) rfl (Nat.le_of_ble_eq_true rfl) (tbd tv_X10_writeDirectly rfl) (fun v18w f18 q18 => ?_) (fun _ _ h => h.elim)
  obtain ⟨rfl, ha18, fa18⟩ := q18
  refine G.eqs [.int (v18)] rfl ?_
  refine G.if_ne 9 (tbd tv_X10_writeDirectly rfl) (by decide) (fun c5 => ?_) (fun c5 => ?_)
  · replace hr := ite_f c5 hr
    refine G.go tv_X10_writeDirectly 1 10 [(0, .ref (gAd E (25))), (1, .int (a0)), (2, .ref (gAd E (42)))] [.ref (gAd E (25))] rfl ?_
    refine G.getf cls_X10 (25) 3 (by omega) (ha18.q25) (by decide) rfl (tbd tv_X10_writeDirectly rfl) w_413 ?_
    refine G.getf cls_X9 (17) 3 (by omega) (ha18.q17) (by decide) rfl (tbd tv_X10_writeDirectly rfl) w_360 ?_
    refine G.go tv_X10_writeDirectly 1 17 [(0, .ref (gAd E (25))), (1, .int (a0)), (2, .ref (gAd E (42)))] [.int (a0), .ref (gAd E (20))] rfl ?_
    obtain ⟨v19, hv19, hr⟩ := bnd_s hr
    obtain ⟨b19, iff19⟩ := hA.q20 ⟨z2, z6⟩ hv19
    refine G.iald (20) (by omega) (ha18.q20) b19 (tbd tv_X10_writeDirectly rfl) ?_
    refine G.go tv_X10_writeDirectly 1 19 [(0, .ref (gAd E (25))), (1, .int (a0)), (2, .ref (gAd E (42)))] [.int ((-1 : Int32)), .int (cA C 20 a0.toNatClampNeg)] rfl ?_
    refine G.cmp_ne 35 (tbd tv_X10_writeDirectly rfl) (by decide) (fun c19 => ?_) (fun c19 => ?_)
    · replace hr := ite_f (fun z => c19 (iff19.mpr z)) hr
      refine G.go tv_X10_writeDirectly 1 36 [(0, .ref (gAd E (25))), (1, .int (a0)), (2, .ref (gAd E (42)))] [.ref (gAd E (25))] rfl ?_
      refine G.getf cls_X10 (25) 3 (by omega) (ha18.q25) (by decide) rfl (tbd tv_X10_writeDirectly rfl) w_413 ?_
      rcases bndF_s hr with ⟨v20, A20, D20, hv20, hr⟩ | ⟨ex20, A20, D20, hv20, rfl⟩
      rotate_left
      · skip
        refine G.callV (17) [] [] (k_X9_flushAll E _ N B gr C D A hz ha18 hD hA _ hv20) cls_X9 (by omega) (ha18.q17) cw_X10_143 w_1274 w_1275 (Nat.le_of_ble_eq_true rfl) rfl (Nat.le_of_ble_eq_true rfl) (tbd tv_X10_writeDirectly rfl) (fun v20w f20 q20 => ?_) (fun X g q => FQ.fr q (Fr.rf.tr fa18 (fun _ h => h)))
        exact q20.elim
      refine G.callV (17) [] [] (k_X9_flushAll E _ N B gr C D A hz ha18 hD hA _ hv20) cls_X9 (by omega) (ha18.q17) cw_X10_143 w_1274 w_1275 (Nat.le_of_ble_eq_true rfl) rfl (Nat.le_of_ble_eq_true rfl) (tbd tv_X10_writeDirectly rfl) (fun v20w f20 q20 => ?_) (fun _ _ h => h.elim)
      obtain ⟨rfl, C20, ha20, hD20, hA20, fa20⟩ := q20
      refine G.eqs [.int (v20)] rfl ?_
      refine G.go tv_X10_writeDirectly 2 44 [(0, .ref (gAd E (25))), (1, .int (a0)), (2, .ref (gAd E (42)))] [.ref (gAd E (25))] rfl ?_
      refine G.getf cls_X10 (25) 2 (by omega) (ha20.q25) (by decide) rfl (tbd tv_X10_writeDirectly rfl) w_412 ?_
      rcases bndF_s hr with ⟨v21, A21, D21, hv21, hr⟩ | ⟨ex21, A21, D21, hv21, rfl⟩
      rotate_left
      · skip
        refine G.callV (13) [] [] (k_X6_applyAll E _ N B gr C20 D20 A20 hz ha20 hD20 hA20 _ hv21) cls_X6 (by omega) (ha20.q13) cw_X10_146 w_886 w_887 (Nat.le_of_ble_eq_true rfl) rfl (Nat.le_of_ble_eq_true rfl) (tbd tv_X10_writeDirectly rfl) (fun v21w f21 q21 => ?_) (fun X g q => FQ.fr q ((Fr.rf.tr fa18 (fun _ h => h)).tr fa20 (fun _ h => h)))
        exact q21.elim
      refine G.callV (13) [] [] (k_X6_applyAll E _ N B gr C20 D20 A20 hz ha20 hD20 hA20 _ hv21) cls_X6 (by omega) (ha20.q13) cw_X10_146 w_886 w_887 (Nat.le_of_ble_eq_true rfl) rfl (Nat.le_of_ble_eq_true rfl) (tbd tv_X10_writeDirectly rfl) (fun v21w f21 q21 => ?_) (fun _ _ h => h.elim)
      obtain ⟨rfl, C21, ha21, hD21, hA21, fa21⟩ := q21
      refine G.eqs [] rfl ?_
      refine G.go tv_X10_writeDirectly 1 51 [(0, .ref (gAd E (25))), (1, .int (a0)), (2, .ref (gAd E (42)))] [.ref (gAd E (25))] rfl ?_
      refine G.getf cls_X10 (25) 1 (by omega) (ha21.q25) (by decide) rfl (tbd tv_X10_writeDirectly rfl) w_411 ?_
      refine G.go tv_X10_writeDirectly 2 56 [(0, .ref (gAd E (25))), (1, .int (a0)), (2, .ref (gAd E (42)))] [.ref (gAd E (42)), .int (a0), .ref (gAd E (8))] rfl ?_
      rcases bndF_s hr with ⟨v22, A22, D22, hv22, hr⟩ | ⟨ex22, A22, D22, hv22, rfl⟩
      rotate_left
      · skip
        refine G.callV (8) [.int (a0), .ref (gAd E (42))] [] (k_X0_place E _ N B gr C21 D21 A21 hz ha21 hD21 hA21 a0 _ hv22) cls_X0 (by omega) (ha21.q8) cw_X10_149 w_718 w_719 (Nat.le_of_ble_eq_true rfl) rfl (Nat.le_of_ble_eq_true rfl) (tbd tv_X10_writeDirectly rfl) (fun v22w f22 q22 => ?_) (fun X g q => FQ.fr q (((Fr.rf.tr fa18 (fun _ h => h)).tr fa20 (fun _ h => h)).tr fa21 (fun _ h => h)))
        exact q22.elim
      refine G.callV (8) [.int (a0), .ref (gAd E (42))] [] (k_X0_place E _ N B gr C21 D21 A21 hz ha21 hD21 hA21 a0 _ hv22) cls_X0 (by omega) (ha21.q8) cw_X10_149 w_718 w_719 (Nat.le_of_ble_eq_true rfl) rfl (Nat.le_of_ble_eq_true rfl) (tbd tv_X10_writeDirectly rfl) (fun v22w f22 q22 => ?_) (fun _ _ h => h.elim)
      obtain ⟨rfl, C22, ha22, hD22, hA22, fa22⟩ := q22
      refine G.eqs [] rfl ?_
      cases hr
      exact G.vret rfl (FQ.ok rfl ⟨C22, ha22, hD22, hA22, ((((Fr.rf.tr fa18 (fun _ h => h)).tr fa20 (fun _ h => h)).tr fa21 (fun _ h => h)).tr fa22 (fun _ h => h))⟩) (tbd tv_X10_writeDirectly rfl)
    · replace hr := ite_t (iff19.mp c19) hr
      refine G.go tv_X10_writeDirectly 1 23 [(0, .ref (gAd E (25))), (1, .int (a0)), (2, .ref (gAd E (42)))] [.ref (gAd E (25))] rfl ?_
      refine G.getf cls_X10 (25) 2 (by omega) (ha18.q25) (by decide) rfl (tbd tv_X10_writeDirectly rfl) w_412 ?_
      refine G.getf cls_X6 (13) 4 (by omega) (ha18.q13) (by decide) rfl (tbd tv_X10_writeDirectly rfl) w_324 ?_
      refine G.go tv_X10_writeDirectly 1 30 [(0, .ref (gAd E (25))), (1, .int (a0)), (2, .ref (gAd E (42)))] [.int (a0), .ref (gAd E (16))] rfl ?_
      obtain ⟨v23, hv23, hr⟩ := bnd_s hr
      obtain ⟨b23, iff23⟩ := hA.q16 hv23
      refine G.iald (16) (by omega) (ha18.q16) b23 (tbd tv_X10_writeDirectly rfl) ?_
      refine G.go tv_X10_writeDirectly 1 32 [(0, .ref (gAd E (25))), (1, .int (a0)), (2, .ref (gAd E (42)))] [.int ((-1 : Int32)), .int (cA C 16 a0.toNatClampNeg)] rfl ?_
      refine G.cmp_eq 50 (tbd tv_X10_writeDirectly rfl) (by decide) (fun c32 => ?_) (fun c32 => ?_)
      · replace hr := ite_t (iff23.mp c32) hr
        refine G.go tv_X10_writeDirectly 1 51 [(0, .ref (gAd E (25))), (1, .int (a0)), (2, .ref (gAd E (42)))] [.ref (gAd E (25))] rfl ?_
        refine G.getf cls_X10 (25) 1 (by omega) (ha18.q25) (by decide) rfl (tbd tv_X10_writeDirectly rfl) w_411 ?_
        refine G.go tv_X10_writeDirectly 2 56 [(0, .ref (gAd E (25))), (1, .int (a0)), (2, .ref (gAd E (42)))] [.ref (gAd E (42)), .int (a0), .ref (gAd E (8))] rfl ?_
        rcases bndF_s hr with ⟨v24, A24, D24, hv24, hr⟩ | ⟨ex24, A24, D24, hv24, rfl⟩
        rotate_left
        · skip
          refine G.callV (8) [.int (a0), .ref (gAd E (42))] [] (k_X0_place E _ N B gr C D A hz ha18 hD hA a0 _ hv24) cls_X0 (by omega) (ha18.q8) cw_X10_149 w_718 w_719 (Nat.le_of_ble_eq_true rfl) rfl (Nat.le_of_ble_eq_true rfl) (tbd tv_X10_writeDirectly rfl) (fun v24w f24 q24 => ?_) (fun X g q => FQ.fr q (Fr.rf.tr fa18 (fun _ h => h)))
          exact q24.elim
        refine G.callV (8) [.int (a0), .ref (gAd E (42))] [] (k_X0_place E _ N B gr C D A hz ha18 hD hA a0 _ hv24) cls_X0 (by omega) (ha18.q8) cw_X10_149 w_718 w_719 (Nat.le_of_ble_eq_true rfl) rfl (Nat.le_of_ble_eq_true rfl) (tbd tv_X10_writeDirectly rfl) (fun v24w f24 q24 => ?_) (fun _ _ h => h.elim)
        obtain ⟨rfl, C24, ha24, hD24, hA24, fa24⟩ := q24
        refine G.eqs [] rfl ?_
        cases hr
        exact G.vret rfl (FQ.ok rfl ⟨C24, ha24, hD24, hA24, ((Fr.rf.tr fa18 (fun _ h => h)).tr fa24 (fun _ h => h))⟩) (tbd tv_X10_writeDirectly rfl)
      · replace hr := ite_f (fun z => c32 (iff23.mpr z)) hr
        refine G.go tv_X10_writeDirectly 1 36 [(0, .ref (gAd E (25))), (1, .int (a0)), (2, .ref (gAd E (42)))] [.ref (gAd E (25))] rfl ?_
        refine G.getf cls_X10 (25) 3 (by omega) (ha18.q25) (by decide) rfl (tbd tv_X10_writeDirectly rfl) w_413 ?_
        rcases bndF_s hr with ⟨v25, A25, D25, hv25, hr⟩ | ⟨ex25, A25, D25, hv25, rfl⟩
        rotate_left
        · skip
          refine G.callV (17) [] [] (k_X9_flushAll E _ N B gr C D A hz ha18 hD hA _ hv25) cls_X9 (by omega) (ha18.q17) cw_X10_143 w_1274 w_1275 (Nat.le_of_ble_eq_true rfl) rfl (Nat.le_of_ble_eq_true rfl) (tbd tv_X10_writeDirectly rfl) (fun v25w f25 q25 => ?_) (fun X g q => FQ.fr q (Fr.rf.tr fa18 (fun _ h => h)))
          exact q25.elim
        refine G.callV (17) [] [] (k_X9_flushAll E _ N B gr C D A hz ha18 hD hA _ hv25) cls_X9 (by omega) (ha18.q17) cw_X10_143 w_1274 w_1275 (Nat.le_of_ble_eq_true rfl) rfl (Nat.le_of_ble_eq_true rfl) (tbd tv_X10_writeDirectly rfl) (fun v25w f25 q25 => ?_) (fun _ _ h => h.elim)
        obtain ⟨rfl, C25, ha25, hD25, hA25, fa25⟩ := q25
        refine G.eqs [.int (v25)] rfl ?_
        refine G.go tv_X10_writeDirectly 2 44 [(0, .ref (gAd E (25))), (1, .int (a0)), (2, .ref (gAd E (42)))] [.ref (gAd E (25))] rfl ?_
        refine G.getf cls_X10 (25) 2 (by omega) (ha25.q25) (by decide) rfl (tbd tv_X10_writeDirectly rfl) w_412 ?_
        rcases bndF_s hr with ⟨v26, A26, D26, hv26, hr⟩ | ⟨ex26, A26, D26, hv26, rfl⟩
        rotate_left
        · skip
          refine G.callV (13) [] [] (k_X6_applyAll E _ N B gr C25 D25 A25 hz ha25 hD25 hA25 _ hv26) cls_X6 (by omega) (ha25.q13) cw_X10_146 w_886 w_887 (Nat.le_of_ble_eq_true rfl) rfl (Nat.le_of_ble_eq_true rfl) (tbd tv_X10_writeDirectly rfl) (fun v26w f26 q26 => ?_) (fun X g q => FQ.fr q ((Fr.rf.tr fa18 (fun _ h => h)).tr fa25 (fun _ h => h)))
          exact q26.elim
        refine G.callV (13) [] [] (k_X6_applyAll E _ N B gr C25 D25 A25 hz ha25 hD25 hA25 _ hv26) cls_X6 (by omega) (ha25.q13) cw_X10_146 w_886 w_887 (Nat.le_of_ble_eq_true rfl) rfl (Nat.le_of_ble_eq_true rfl) (tbd tv_X10_writeDirectly rfl) (fun v26w f26 q26 => ?_) (fun _ _ h => h.elim)
        obtain ⟨rfl, C26, ha26, hD26, hA26, fa26⟩ := q26
        refine G.eqs [] rfl ?_
        refine G.go tv_X10_writeDirectly 1 51 [(0, .ref (gAd E (25))), (1, .int (a0)), (2, .ref (gAd E (42)))] [.ref (gAd E (25))] rfl ?_
        refine G.getf cls_X10 (25) 1 (by omega) (ha26.q25) (by decide) rfl (tbd tv_X10_writeDirectly rfl) w_411 ?_
        refine G.go tv_X10_writeDirectly 2 56 [(0, .ref (gAd E (25))), (1, .int (a0)), (2, .ref (gAd E (42)))] [.ref (gAd E (42)), .int (a0), .ref (gAd E (8))] rfl ?_
        rcases bndF_s hr with ⟨v27, A27, D27, hv27, hr⟩ | ⟨ex27, A27, D27, hv27, rfl⟩
        rotate_left
        · skip
          refine G.callV (8) [.int (a0), .ref (gAd E (42))] [] (k_X0_place E _ N B gr C26 D26 A26 hz ha26 hD26 hA26 a0 _ hv27) cls_X0 (by omega) (ha26.q8) cw_X10_149 w_718 w_719 (Nat.le_of_ble_eq_true rfl) rfl (Nat.le_of_ble_eq_true rfl) (tbd tv_X10_writeDirectly rfl) (fun v27w f27 q27 => ?_) (fun X g q => FQ.fr q (((Fr.rf.tr fa18 (fun _ h => h)).tr fa25 (fun _ h => h)).tr fa26 (fun _ h => h)))
          exact q27.elim
        refine G.callV (8) [.int (a0), .ref (gAd E (42))] [] (k_X0_place E _ N B gr C26 D26 A26 hz ha26 hD26 hA26 a0 _ hv27) cls_X0 (by omega) (ha26.q8) cw_X10_149 w_718 w_719 (Nat.le_of_ble_eq_true rfl) rfl (Nat.le_of_ble_eq_true rfl) (tbd tv_X10_writeDirectly rfl) (fun v27w f27 q27 => ?_) (fun _ _ h => h.elim)
        obtain ⟨rfl, C27, ha27, hD27, hA27, fa27⟩ := q27
        refine G.eqs [] rfl ?_
        cases hr
        exact G.vret rfl (FQ.ok rfl ⟨C27, ha27, hD27, hA27, ((((Fr.rf.tr fa18 (fun _ h => h)).tr fa25 (fun _ h => h)).tr fa26 (fun _ h => h)).tr fa27 (fun _ h => h))⟩) (tbd tv_X10_writeDirectly rfl)
  · replace hr := ite_t c5 hr
    cases hr
    exact G.vret rfl (FQ.ok rfl ⟨C, ha18, hD, hA, (Fr.rf.tr fa18 (fun _ h => h))⟩) (tbd tv_X10_writeDirectly rfl)
def tb_X3_load : List (Nat × Instr × Nat) := [(0, .iload_n 2, 1), (1, .ifCond .eq 14, 3), (4, .aload_n 0, 1), (5, .getfield 9, 3), (8, .iconst 0, 1), (9, .invokestatic 82, 3), (12, .goto 23, 3), (15, .aload_n 0, 1), (16, .getfield 19, 3), (19, .iload_n 1, 1), (20, .invokevirtual 88, 3), (23, .iconst 0, 1), (24, .aload_n 0, 1), (25, .getfield 9, 3), (28, .iconst 0, 1), (29, .sipush 128, 3), (32, .invokestatic 61, 3), (35, .return_, 1)]
theorem tv_X3_load : Tv cX3_load tb_X3_load := by
  unfold Tv
  decide +kernel
theorem w_1577 : Cond.methodLink "LedgerFiles$Files" 61 ⟨"java/lang/System", "arraycopy", "(Ljava/lang/Object;ILjava/lang/Object;II)V"⟩ ∈ TB := tp_6 231 (by decide +kernel) rfl
theorem w_1575 : Cond.methodLink "LedgerFiles$Files" 82 yJ7_fill_031fb ∈ TB := tp_6 229 (by decide +kernel) rfl
theorem cw_X3_82 : Cw RX3 82 yJ7_fill_031fb cJ7_fill_031fb 4 none 2 := ⟨w_1575, w_716, w_151, by decide +kernel, by decide +kernel, by decide⟩
def d_X3_load (N : Nat) (V : Nat → Rw) (D : CfT) (a0 : Int32) (a1 : Int32) : Option (CfT) := if a1 = 0 then seeB N V a0 (fun y29 => cpD D 42 128 y29 128 ((0 : Int32)) ((0 : Int32)) ((128 : Int32)) (fun D30 => some D30)) else flD D 42 128 (vp_nar .byte ((0 : Int32))) (fun D31 => some D31)
set_option maxRecDepth 100000 in
set_option maxHeartbeats 4000000 in
theorem k_X3_load (E : gE) (f : Nat → va_E) (N B gr : Nat) (C D : CfT) (A : MS) (hz : CfZ E N B gr) (h : CfV E f N B gr C) (hD : Dq D C) (hA : AR N B gr A C) (a0 : Int32) (a1 : Int32) (D9 : CfT) (hr : d_X3_load N (vA A) D a0 a1 = some D9) : Ct E 3 yX3_load cX3_load 3 none [.ref (gAd E (41)), .int (a0), .int (a1)] f (fun v g => v = none ∧ ST E N B gr f C A D9 g, fun _ _ => False) := by
  obtain ⟨z1, z2, z3, z4, z5, z6, z7⟩ := id hz
  refine Ct.of (by decide) (Nat.le_of_ble_eq_true rfl) (fun sz => ?_)
  refine G.eql [(0, .ref (gAd E (41))), (1, .int (a0)), (2, .int (a1))] rfl ?_
  unfold d_X3_load at hr
  refine G.go tv_X3_load 1 1 [(0, .ref (gAd E (41))), (1, .int (a0)), (2, .int (a1))] [.int (a1)] rfl ?_
  refine G.if_eq 15 (tbd tv_X3_load rfl) (by decide) (fun c1 => ?_) (fun c1 => ?_)
  · replace hr := ite_t c1 hr
    refine G.go tv_X3_load 1 16 [(0, .ref (gAd E (41))), (1, .int (a0)), (2, .int (a1))] [.ref (gAd E (41))] rfl ?_
    refine G.getf cls_X3 (41) 0 (by omega) (h.q41) (by decide) rfl (tbd tv_X3_load rfl) w_525 ?_
    refine G.go tv_X3_load 1 20 [(0, .ref (gAd E (41))), (1, .int (a0)), (2, .int (a1))] [.int (a0), .ref (gAd E (25))] rfl ?_
    obtain ⟨y29, b29, e29, hr⟩ := seeB_s hr
    refine G.callV (25) [.int (a0)] [] (k_see E _ N B gr C A hz h hA _ b29 _ e29) cls_X10 (by omega) (h.q25) cw_X3_88 w_910 w_911 (Nat.le_of_ble_eq_true rfl) rfl (Nat.le_of_ble_eq_true rfl) (tbd tv_X3_load rfl) (fun v29w f29 q29 => ?_) (fun _ _ h => h.elim)
    obtain ⟨⟨k29, rfl, w29⟩, ha29, fa29⟩ := q29
    refine G.eqs [.ref (gAd E (k29))] rfl ?_
    refine G.go tv_X3_load 2 25 [(0, .ref (gAd E (41))), (1, .int (a0)), (2, .int (a1))] [.ref (gAd E (41)), .int ((0 : Int32)), .ref (gAd E (k29))] rfl ?_
    refine G.getf cls_X3 (41) 2 (by omega) (ha29.q41) (by decide) rfl (tbd tv_X3_load rfl) w_527 ?_
    refine G.go tv_X3_load 2 32 [(0, .ref (gAd E (41))), (1, .int (a0)), (2, .int (a1))] [.int ((128 : Int32)), .int ((0 : Int32)), .ref (gAd E (42)), .int ((0 : Int32)), .ref (gAd E (k29))] rfl ?_
    obtain ⟨hk30, x30, he30, bx30, ex30⟩ := (w29).row hz ha29
    obtain ⟨D30, i130, i230, i330, i430, i530, eD30, hr⟩ := cpD_s hr
    refine G.copyB (k29) (42) hk30 he30 (by omega) (ha29.q42) w_1577 w_755 w_754 w_167 i130 i230 i330 i430 i530 (fun i _ => bx30 _) (Nat.le_of_ble_eq_true rfl) (Nat.le_of_ble_eq_true rfl) (tbd tv_X3_load rfl) ?_
    have ec30 : va_cpy x30 (cA C 42) ((0 : Int32)).toNatClampNeg ((0 : Int32)).toNatClampNeg ((128 : Int32)).toNatClampNeg = va_cpy y29 (cA C 42) ((0 : Int32)).toNatClampNeg ((0 : Int32)).toNatClampNeg ((128 : Int32)).toNatClampNeg := cpy_c (nr_lt ex30) i430
    rw [ec30]
    refine G.gen (P := ST E N B gr f C A D30) ⟨sA C 42 (va_cpy y29 (cA C 42) ((0 : Int32)).toNatClampNeg ((0 : Int32)).toNatClampNeg ((128 : Int32)).toNatClampNeg), ha29.p42 _, (by rw [eD30]; exact hD.aF (fun g => va_cpy y29 g ((0 : Int32)).toNatClampNeg ((0 : Int32)).toNatClampNeg ((128 : Int32)).toNatClampNeg) (by decide)), hA.sm (Sd.a (by decide) : Sd C (sA C 42 (va_cpy y29 (cA C 42) ((0 : Int32)).toNatClampNeg ((0 : Int32)).toNatClampNeg ((128 : Int32)).toNatClampNeg))), Rq.rf.tr ⟨rfl, rfl⟩, Fr.c (Fr.rf.tr fa29 (fun _ h => h)) (by first | exact Or.inl (by decide) | exact Or.inr (by omega))⟩ (fun u30 p30 => ?_)
    obtain ⟨C30, h30, hD30, hA30, hR30, k30⟩ := p30
    cases hr
    exact G.vret rfl ⟨rfl, C30, h30, hD30, hA30, hR30, k30⟩ (tbd tv_X3_load rfl)
  · replace hr := ite_f c1 hr
    refine G.go tv_X3_load 1 5 [(0, .ref (gAd E (41))), (1, .int (a0)), (2, .int (a1))] [.ref (gAd E (41))] rfl ?_
    refine G.getf cls_X3 (41) 2 (by omega) (h.q41) (by decide) rfl (tbd tv_X3_load rfl) w_527 ?_
    refine G.go tv_X3_load 1 9 [(0, .ref (gAd E (41))), (1, .int (a0)), (2, .int (a1))] [.int ((0 : Int32)), .ref (gAd E (42))] rfl ?_
    obtain ⟨D31, eD31, hr⟩ := flD_s hr
    refine G.callS [.ref (gAd E (42)), .int ((0 : Int32))] [] (c_J7_fill_031fb E _ 42 128 _ ((0 : Int32)) (by omega) (h.q42) (by omega)) cw_X3_82 w_715 (Nat.le_of_ble_eq_true rfl) rfl (Nat.le_of_ble_eq_true rfl) (tbd tv_X3_load rfl) (fun v31w f31 q31 => ?_) (fun _ _ h => h.elim)
    obtain ⟨rfl, rfl⟩ := q31
    refine G.eqs [] rfl ?_
    refine G.gen (P := ST E N B gr f C A D31) ⟨sA C 42 (flt (cA C 42) 0 128 (vp_nar .byte ((0 : Int32)))), h.p42 _, (by rw [eD31]; exact hD.aF (fun g => flt g 0 128 (vp_nar .byte ((0 : Int32)))) (by decide)), hA.sm (Sd.a (by decide) : Sd C (sA C 42 (flt (cA C 42) 0 128 (vp_nar .byte ((0 : Int32)))))), Rq.rf.tr ⟨rfl, rfl⟩, Fr.c Fr.rf (by first | exact Or.inl (by decide) | exact Or.inr (by omega))⟩ (fun u31 p31 => ?_)
    obtain ⟨C31, h31, hD31, hA31, hR31, k31⟩ := p31
    refine G.go tv_X3_load 1 35 [(0, .ref (gAd E (41))), (1, .int (a0)), (2, .int (a1))] [] rfl ?_
    cases hr
    exact G.vret rfl ⟨rfl, C31, h31, hD31, hA31, hR31, k31⟩ (tbd tv_X3_load rfl)
def tb_X7_have : List (Nat × Instr × Nat) := [(0, .iload_n 1, 1), (1, .invokestatic 30, 3), (4, .istore 4, 2), (6, .iload_n 1, 1), (7, .invokestatic 40, 3), (10, .iload_n 2, 1), (11, .iconst 0, 1), (12, .invokestatic 108, 3), (15, .iadd, 1), (16, .istore 5, 2), (18, .iload_n 2, 1), (19, .invokestatic 105, 3), (22, .istore 6, 2), (24, .iconst 0, 1), (25, .istore 7, 2), (27, .iconst 0, 1), (28, .istore 8, 2), (30, .iload 8, 2), (32, .iload 6, 2), (34, .if_icmp .ge 130, 3), (37, .aload_n 0, 1), (38, .getfield 18, 3), (41, .iload 4, 2), (43, .invokevirtual 34, 3), (46, .iload 5, 2), (48, .invokestatic 49, 3), (51, .istore 9, 2), (53, .iload 9, 2), (55, .ifCond .ne 89, 3), (58, .aload_n 0, 1), (59, .getfield 18, 3), (62, .invokevirtual 130, 3), (65, .istore 9, 2), (67, .iload 9, 2), (69, .iconst (-1), 1), (70, .if_icmp .ne 20, 3), (73, .aload_n 0, 1), (74, .getfield 22, 3), (77, .invokevirtual 133, 3), (80, .pop, 1), (81, .aload_n 0, 1), (82, .getfield 18, 3), (85, .invokevirtual 130, 3), (88, .istore 9, 2), (90, .iload 9, 2), (92, .iconst (-1), 1), (93, .if_icmp .ne 5, 3), (96, .iconst 1, 1), (97, .ireturn, 1), (98, .aload_n 0, 1), (99, .getfield 18, 3), (102, .iload 9, 2), (104, .iload_n 3, 1), (105, .ifCond .ne 12, 3), (108, .iload 8, 2), (110, .iload 6, 2), (112, .iconst 1, 1), (113, .isub, 1), (114, .if_icmp .ge 7, 3), (117, .iconst 1, 1), (118, .goto 4, 3), (121, .iconst 0, 1), (122, .invokevirtual 138, 3), (125, .aload_n 0, 1), (126, .getfield 18, 3), (129, .iload 4, 2), (131, .invokevirtual 52, 3), (134, .iload 5, 2), (136, .iload 9, 2), (138, .invokestatic 142, 3), (141, .iconst 1, 1), (142, .istore 7, 2), (144, .iload 9, 2), (146, .istore 4, 2), (148, .iload_n 2, 1), (149, .iload 8, 2), (151, .iconst 1, 1), (152, .iadd, 1), (153, .invokestatic 108, 3), (156, .istore 5, 2), (158, .iinc 8 1, 3), (161, .goto (-131), 3), (164, .iload 7, 2), (166, .ireturn, 1)]
theorem tv_X7_have : Tv cX7_have tb_X7_have := by
  unfold Tv
  decide +kernel
theorem w_1443 : Cond.methodLink "LedgerFiles$Nodes" 130 yX10_lowest ∈ TB := tp_6 97 (by decide +kernel) rfl
theorem w_1446 : Cond.code yX10_lowest prog_12_method_10_code 3 (some .int) ∈ TB := tp_6 100 rfl rfl
theorem cw_X7_130 : Cw RX7 130 yX10_lowest cX10_lowest 3 (some .int) 0 := ⟨w_1443, w_1446, w_155, by decide +kernel, by decide +kernel, by decide⟩
theorem w_1444 : Cond.instanceMethod yX10_lowest ∈ TB := tp_6 98 (by decide +kernel) rfl
theorem w_1445 : Cond.selects "LedgerFiles$View" yX10_lowest yX10_lowest ∈ TB := tp_6 99 (by decide +kernel) rfl
theorem w_1447 : Cond.methodLink "LedgerFiles$Nodes" 133 yX9_flushAll ∈ TB := tp_6 101 (by decide +kernel) rfl
theorem cw_X7_133 : Cw RX7 133 yX9_flushAll cX9_flushAll 3 (some .int) 0 := ⟨w_1447, w_1276, w_154, by decide +kernel, by decide +kernel, by decide⟩
theorem w_1448 : Cond.methodLink "LedgerFiles$Nodes" 138 yX10_seize ∈ TB := tp_6 102 (by decide +kernel) rfl
theorem w_1451 : Cond.code yX10_seize prog_12_method_11_code 3 none ∈ TB := tp_6 105 rfl rfl
theorem cw_X7_138 : Cw RX7 138 yX10_seize cX10_seize 3 none 2 := ⟨w_1448, w_1451, w_155, by decide +kernel, by decide +kernel, by decide⟩
theorem w_1449 : Cond.instanceMethod yX10_seize ∈ TB := tp_6 103 (by decide +kernel) rfl
theorem w_1450 : Cond.selects "LedgerFiles$View" yX10_seize yX10_seize ∈ TB := tp_6 104 (by decide +kernel) rfl
noncomputable def d_X7_have_125 (N B gr : Nat) (self30 : MS → CfT → Int32 → Int32 → Int32 → Int32 → Int32 → Int32 → Int32 → Option (FR Int32)) (A : MS) (D : CfT) (x2 : Int32) (x3 : Int32) (x4 : Int32) (x5 : Int32) (x6 : Int32) (x8 : Int32) (x9 : Int32) : Option (FR Int32) := bnd2 (owB N A D x4) (fun A47 D47 => bnd (s2O N A47 x4.toNatClampNeg x5 x9) (fun A48 => bnd (d_X7_offset N (vA A48) D47 x2 ((x8) + ((1 : Int32)))) (fun v49 => self30 A48 D47 x2 x3 x9 v49 x6 ((1 : Int32)) (x8 + (1 : Int32)))))
noncomputable def d_X7_have_90 (N B gr : Nat) (self30 : MS → CfT → Int32 → Int32 → Int32 → Int32 → Int32 → Int32 → Int32 → Option (FR Int32)) (A : MS) (D : CfT) (x2 : Int32) (x3 : Int32) (x4 : Int32) (x5 : Int32) (x6 : Int32) (x8 : Int32) (x9 : Int32) : Option (FR Int32) := if x9 = ((-1 : Int32)) then some (.inl ((1 : Int32), A, D)) else if x3 = 0 then if ((x6) - ((1 : Int32))) ≤ x8 then bnd2 (d_X10_seize N A D x9 ((0 : Int32))) (fun A44 D44 => d_X7_have_125 N B gr self30 A44 D44 x2 x3 x4 x5 x6 x8 x9) else bnd2 (d_X10_seize N A D x9 ((1 : Int32))) (fun A45 D45 => d_X7_have_125 N B gr self30 A45 D45 x2 x3 x4 x5 x6 x8 x9) else bnd2 (d_X10_seize N A D x9 ((1 : Int32))) (fun A43 D43 => d_X7_have_125 N B gr self30 A43 D43 x2 x3 x4 x5 x6 x8 x9)
noncomputable def d_X7_have_30 (N B gr : Nat) : Nat → MS → CfT → Int32 → Int32 → Int32 → Int32 → Int32 → Int32 → Int32 → Option (FR Int32)
  | 0, _, _, _, _, _, _, _, _, _ => none
  | n + 1, A, D, x2, x3, x4, x5, x6, x7, x8 => if x6 ≤ x8 then rtZ x7 (some (.inl (x7, A, D))) else seeB N (vA A) x4 (fun y37 => bnd (d_X2_two N (vA A) D y37 128 x5) (fun v38 => if v38 = 0 then bnd (d_X10_lowest N (vA A) A.2.2.2.2.1 D) (fun v40 => if v40 = ((-1 : Int32)) then bndF (fFl N B gr A D) (fun v41 A41 D41 => bnd (d_X10_lowest N (vA A41) A41.2.2.2.2.1 D41) (fun v42 => d_X7_have_90 N B gr (d_X7_have_30 N B gr n) A41 D41 x2 x3 x4 x5 x6 x8 v42)) else d_X7_have_90 N B gr (d_X7_have_30 N B gr n) A D x2 x3 x4 x5 x6 x8 v40) else bnd (d_X7_offset N (vA A) D x2 ((x8) + ((1 : Int32)))) (fun v39 => d_X7_have_30 N B gr n A D x2 x3 v38 v39 x6 x7 (x8 + (1 : Int32)))))
noncomputable def d_X7_have (N B gr : Nat) (A : MS) (D : CfT) (a0 : Int32) (a1 : Int32) (a2 : Int32) : Option (FR Int32) := bnd (d_X7_home N (vA A) D a0) (fun v32 => bnd (d_X7_start N (vA A) D a0) (fun v33 => bnd (d_X7_offset N (vA A) D a1 ((0 : Int32))) (fun v34 => bnd (d_X7_levels N (vA A) D a1) (fun v35 => d_X7_have_30 N B gr fuL A D a1 a2 v32 ((v33) + (v34)) v35 ((0 : Int32)) ((0 : Int32))))))
set_option maxRecDepth 100000 in
set_option maxHeartbeats 4000000 in
theorem l_X7_have_125 (E : gE) (f0 : Nat → va_E) (sz : Nat) (QA : Nat → Prop) (N B gr : Nat) (C0 : CfT) (hz : CfZ E N B gr) (self30 : MS → CfT → Int32 → Int32 → Int32 → Int32 → Int32 → Int32 → Int32 → Option (FR Int32)) (hs30 : ∀ (A : MS) (D : CfT) (x2 : Int32) (x3 : Int32) (x4 : Int32) (x5 : Int32) (x6 : Int32) (x7 : Int32) (x8 : Int32) (r : FR Int32) (hr : self30 A D x2 x3 x4 x5 x6 x7 x8 = some r) (f : Nat → va_E) (C : CfT) (h : CfV E f N B gr C) (hD : Dq D C) (hA : AR N B gr A C) (hf : Fr CfK f0 f), G E (11, yX7_have, 10, (some .boolean), sz, QA) cX7_have (gO E (11, yX7_have, 10, (some .boolean), sz, QA) (FQ E N B gr f0 (fun r => some (.int r)) r)) 30 [(0, .ref (gAd E (37))), (2, .int (x2)), (3, .int (x3)), (4, .int (x4)), (5, .int (x5)), (6, .int (x6)), (7, .int (x7)), (8, .int (x8))] [] f) : ∀ (A : MS) (D : CfT) (x2 : Int32) (x3 : Int32) (x4 : Int32) (x5 : Int32) (x6 : Int32) (x8 : Int32) (x9 : Int32) (r : FR Int32) (hr : d_X7_have_125 N B gr self30 A D x2 x3 x4 x5 x6 x8 x9 = some r) (f : Nat → va_E) (C : CfT) (h : CfV E f N B gr C) (hD : Dq D C) (hA : AR N B gr A C) (hf : Fr CfK f0 f), G E (11, yX7_have, 10, (some .boolean), sz, QA) cX7_have (gO E (11, yX7_have, 10, (some .boolean), sz, QA) (FQ E N B gr f0 (fun r => some (.int r)) r)) 125 [(0, .ref (gAd E (37))), (2, .int (x2)), (3, .int (x3)), (4, .int (x4)), (5, .int (x5)), (6, .int (x6)), (8, .int (x8)), (9, .int (x9))] [] f := by
  obtain ⟨z1, z2, z3, z4, z5, z6, z7⟩ := id hz
  intro A D x2 x3 x4 x5 x6 x8 x9 r hr f C h hD hA hf
  unfold d_X7_have_125 at hr
  refine G.go tv_X7_have 1 126 [(0, .ref (gAd E (37))), (2, .int (x2)), (3, .int (x3)), (4, .int (x4)), (5, .int (x5)), (6, .int (x6)), (8, .int (x8)), (9, .int (x9))] [.ref (gAd E (37))] rfl ?_
  refine G.getf cls_X7 (37) 0 (by omega) (h.q37) (by decide) rfl (tbd tv_X7_have rfl) w_478 ?_
  refine G.go tv_X7_have 1 131 [(0, .ref (gAd E (37))), (2, .int (x2)), (3, .int (x3)), (4, .int (x4)), (5, .int (x5)), (6, .int (x6)), (8, .int (x8)), (9, .int (x9))] [.int (x4), .ref (gAd E (25))] rfl ?_
  obtain ⟨A47, D47, hv47, hr⟩ := bnd2_s hr
  refine G.callV (25) [.int (x4)] [] (k_own E _ N B gr C D A hz h hD hA _ _ _ hv47) cls_X10 (by omega) (h.q25) cw_X7_52 w_975 w_976 (Nat.le_of_ble_eq_true rfl) rfl (Nat.le_of_ble_eq_true rfl) (tbd tv_X7_have rfl) (fun v47w f47 q47 => ?_) (fun _ _ h => h.elim)
  obtain ⟨rfl, C47, ha47, hD47, hA47, fa47⟩ := q47
  refine G.eqs [.ref (gAd E (350 + N + x4.toNatClampNeg))] rfl ?_
  refine G.go tv_X7_have 2 138 [(0, .ref (gAd E (37))), (2, .int (x2)), (3, .int (x3)), (4, .int (x4)), (5, .int (x5)), (6, .int (x6)), (8, .int (x8)), (9, .int (x9))] [.int (x9), .int (x5), .ref (gAd E (350 + N + x4.toNatClampNeg))] rfl ?_
  obtain ⟨A48, hv48, hr⟩ := bnd_s hr
  refine G.callS [.ref (gAd E (350 + N + x4.toNatClampNeg)), .int (x5), .int (x9)] [] (k_s2O E _ N B gr C47 D47 A47 hz ha47 hD47 hA47 x4.toNatClampNeg x5 x9 _ hv48) cw_X7_142 w_787 (Nat.le_of_ble_eq_true rfl) rfl (Nat.le_of_ble_eq_true rfl) (tbd tv_X7_have rfl) (fun v48w f48 q48 => ?_) (fun _ _ h => h.elim)
  obtain ⟨rfl, C48, ha48, hD48, hA48, fa48⟩ := q48
  refine G.eqs [] rfl ?_
  refine G.go tv_X7_have 8 153 [(0, .ref (gAd E (37))), (2, .int (x2)), (3, .int (x3)), (4, .int (x9)), (5, .int (x5)), (6, .int (x6)), (8, .int (x8)), (9, .int (x9)), (7, .int ((1 : Int32)))] [.int ((x8) + ((1 : Int32))), .int (x2)] rfl ?_
  obtain ⟨v49, hv49, hr⟩ := bnd_s hr
  refine G.callS [.int (x2), .int ((x8) + ((1 : Int32)))] [] (k_X7_offset E _ N B gr C48 D47 A48 hz ha48 hD48 hA48 x2 ((x8) + ((1 : Int32))) v49 hv49) cw_X7_108 w_958 (Nat.le_of_ble_eq_true rfl) rfl (Nat.le_of_ble_eq_true rfl) (tbd tv_X7_have rfl) (fun v49w f49 q49 => ?_) (fun _ _ h => h.elim)
  obtain ⟨rfl, ha49, fa49⟩ := q49
  refine G.eqs [.int (v49)] rfl ?_
  refine G.go tv_X7_have 3 30 [(0, .ref (gAd E (37))), (2, .int (x2)), (3, .int (x3)), (4, .int (x9)), (5, .int (v49)), (6, .int (x6)), (8, .int (x8 + (1 : Int32))), (9, .int (x9)), (7, .int ((1 : Int32)))] [] rfl ?_
  refine G.less [(0, .ref (gAd E (37))), (2, .int (x2)), (3, .int (x3)), (4, .int (x9)), (5, .int (v49)), (6, .int (x6)), (7, .int ((1 : Int32))), (8, .int (x8 + (1 : Int32)))] [0, 1, 2, 3, 4, 5, 8, 6] rfl ?_
  exact hs30 _ _ _ _ _ _ _ _ _ _ hr _ _ ha49 hD48 hA48 (((hf.tr fa47 (fun _ h => h)).tr fa48 (fun _ h => h)).tr fa49 (fun _ h => h))
set_option maxRecDepth 100000 in
set_option maxHeartbeats 4000000 in
theorem l_X7_have_90 (E : gE) (f0 : Nat → va_E) (sz : Nat) (QA : Nat → Prop) (N B gr : Nat) (C0 : CfT) (hz : CfZ E N B gr) (self30 : MS → CfT → Int32 → Int32 → Int32 → Int32 → Int32 → Int32 → Int32 → Option (FR Int32)) (hs30 : ∀ (A : MS) (D : CfT) (x2 : Int32) (x3 : Int32) (x4 : Int32) (x5 : Int32) (x6 : Int32) (x7 : Int32) (x8 : Int32) (r : FR Int32) (hr : self30 A D x2 x3 x4 x5 x6 x7 x8 = some r) (f : Nat → va_E) (C : CfT) (h : CfV E f N B gr C) (hD : Dq D C) (hA : AR N B gr A C) (hf : Fr CfK f0 f), G E (11, yX7_have, 10, (some .boolean), sz, QA) cX7_have (gO E (11, yX7_have, 10, (some .boolean), sz, QA) (FQ E N B gr f0 (fun r => some (.int r)) r)) 30 [(0, .ref (gAd E (37))), (2, .int (x2)), (3, .int (x3)), (4, .int (x4)), (5, .int (x5)), (6, .int (x6)), (7, .int (x7)), (8, .int (x8))] [] f) : ∀ (A : MS) (D : CfT) (x2 : Int32) (x3 : Int32) (x4 : Int32) (x5 : Int32) (x6 : Int32) (x8 : Int32) (x9 : Int32) (r : FR Int32) (hr : d_X7_have_90 N B gr self30 A D x2 x3 x4 x5 x6 x8 x9 = some r) (f : Nat → va_E) (C : CfT) (h : CfV E f N B gr C) (hD : Dq D C) (hA : AR N B gr A C) (hf : Fr CfK f0 f), G E (11, yX7_have, 10, (some .boolean), sz, QA) cX7_have (gO E (11, yX7_have, 10, (some .boolean), sz, QA) (FQ E N B gr f0 (fun r => some (.int r)) r)) 90 [(0, .ref (gAd E (37))), (2, .int (x2)), (3, .int (x3)), (4, .int (x4)), (5, .int (x5)), (6, .int (x6)), (8, .int (x8)), (9, .int (x9))] [] f := by
  obtain ⟨z1, z2, z3, z4, z5, z6, z7⟩ := id hz
  intro A D x2 x3 x4 x5 x6 x8 x9 r hr f C h hD hA hf
  unfold d_X7_have_90 at hr
  refine G.go tv_X7_have 2 93 [(0, .ref (gAd E (37))), (2, .int (x2)), (3, .int (x3)), (4, .int (x4)), (5, .int (x5)), (6, .int (x6)), (8, .int (x8)), (9, .int (x9))] [.int ((-1 : Int32)), .int (x9)] rfl ?_
  refine G.cmp_ne 98 (tbd tv_X7_have rfl) (by decide) (fun c93 => ?_) (fun c93 => ?_)
  · replace hr := ite_f c93 hr
    refine G.go tv_X7_have 1 99 [(0, .ref (gAd E (37))), (2, .int (x2)), (3, .int (x3)), (4, .int (x4)), (5, .int (x5)), (6, .int (x6)), (8, .int (x8)), (9, .int (x9))] [.ref (gAd E (37))] rfl ?_
    refine G.getf cls_X7 (37) 0 (by omega) (h.q37) (by decide) rfl (tbd tv_X7_have rfl) w_478 ?_
    refine G.go tv_X7_have 2 105 [(0, .ref (gAd E (37))), (2, .int (x2)), (3, .int (x3)), (4, .int (x4)), (5, .int (x5)), (6, .int (x6)), (8, .int (x8)), (9, .int (x9))] [.int (x3), .int (x9), .ref (gAd E (25))] rfl ?_
    refine G.if_ne 117 (tbd tv_X7_have rfl) (by decide) (fun c105 => ?_) (fun c105 => ?_)
    · replace hr := ite_f c105 hr
      refine G.go tv_X7_have 2 122 [(0, .ref (gAd E (37))), (2, .int (x2)), (3, .int (x3)), (4, .int (x4)), (5, .int (x5)), (6, .int (x6)), (8, .int (x8)), (9, .int (x9))] [.int ((1 : Int32)), .int (x9), .ref (gAd E (25))] rfl ?_
      obtain ⟨A43, D43, hv43, hr⟩ := bnd2_s hr
      refine G.callV (25) [.int (x9), .int ((1 : Int32))] [] (k_X10_seize E _ N B gr C D A hz h hD hA x9 ((1 : Int32)) A43 D43 hv43) cls_X10 (by omega) (h.q25) cw_X7_138 w_1449 w_1450 (Nat.le_of_ble_eq_true rfl) rfl (Nat.le_of_ble_eq_true rfl) (tbd tv_X7_have rfl) (fun v43w f43 q43 => ?_) (fun _ _ h => h.elim)
      obtain ⟨rfl, C43, ha43, hD43, hA43, fa43⟩ := q43
      refine G.eqs [] rfl ?_
      refine G.less [(0, .ref (gAd E (37))), (2, .int (x2)), (3, .int (x3)), (4, .int (x4)), (5, .int (x5)), (6, .int (x6)), (8, .int (x8)), (9, .int (x9))] [0, 1, 2, 3, 4, 5, 6, 7] rfl ?_
      exact l_X7_have_125 E f0 sz QA N B gr C0 hz _ hs30 _ _ _ _ _ _ _ _ _ _ hr _ _ ha43 hD43 hA43 (hf.tr fa43 (fun _ h => h))
    · replace hr := ite_t c105 hr
      refine G.go tv_X7_have 4 114 [(0, .ref (gAd E (37))), (2, .int (x2)), (3, .int (x3)), (4, .int (x4)), (5, .int (x5)), (6, .int (x6)), (8, .int (x8)), (9, .int (x9))] [.int ((x6) - ((1 : Int32))), .int (x8), .int (x9), .ref (gAd E (25))] rfl ?_
      refine G.cmp_ge 121 (tbd tv_X7_have rfl) (by decide) (fun c114 => ?_) (fun c114 => ?_)
      · replace hr := ite_t c114 hr
        refine G.go tv_X7_have 1 122 [(0, .ref (gAd E (37))), (2, .int (x2)), (3, .int (x3)), (4, .int (x4)), (5, .int (x5)), (6, .int (x6)), (8, .int (x8)), (9, .int (x9))] [.int ((0 : Int32)), .int (x9), .ref (gAd E (25))] rfl ?_
        obtain ⟨A44, D44, hv44, hr⟩ := bnd2_s hr
        refine G.callV (25) [.int (x9), .int ((0 : Int32))] [] (k_X10_seize E _ N B gr C D A hz h hD hA x9 ((0 : Int32)) A44 D44 hv44) cls_X10 (by omega) (h.q25) cw_X7_138 w_1449 w_1450 (Nat.le_of_ble_eq_true rfl) rfl (Nat.le_of_ble_eq_true rfl) (tbd tv_X7_have rfl) (fun v44w f44 q44 => ?_) (fun _ _ h => h.elim)
        obtain ⟨rfl, C44, ha44, hD44, hA44, fa44⟩ := q44
        refine G.eqs [] rfl ?_
        refine G.less [(0, .ref (gAd E (37))), (2, .int (x2)), (3, .int (x3)), (4, .int (x4)), (5, .int (x5)), (6, .int (x6)), (8, .int (x8)), (9, .int (x9))] [0, 1, 2, 3, 4, 5, 6, 7] rfl ?_
        exact l_X7_have_125 E f0 sz QA N B gr C0 hz _ hs30 _ _ _ _ _ _ _ _ _ _ hr _ _ ha44 hD44 hA44 (hf.tr fa44 (fun _ h => h))
      · replace hr := ite_f c114 hr
        refine G.go tv_X7_have 2 122 [(0, .ref (gAd E (37))), (2, .int (x2)), (3, .int (x3)), (4, .int (x4)), (5, .int (x5)), (6, .int (x6)), (8, .int (x8)), (9, .int (x9))] [.int ((1 : Int32)), .int (x9), .ref (gAd E (25))] rfl ?_
        obtain ⟨A45, D45, hv45, hr⟩ := bnd2_s hr
        refine G.callV (25) [.int (x9), .int ((1 : Int32))] [] (k_X10_seize E _ N B gr C D A hz h hD hA x9 ((1 : Int32)) A45 D45 hv45) cls_X10 (by omega) (h.q25) cw_X7_138 w_1449 w_1450 (Nat.le_of_ble_eq_true rfl) rfl (Nat.le_of_ble_eq_true rfl) (tbd tv_X7_have rfl) (fun v45w f45 q45 => ?_) (fun _ _ h => h.elim)
        obtain ⟨rfl, C45, ha45, hD45, hA45, fa45⟩ := q45
        refine G.eqs [] rfl ?_
        refine G.less [(0, .ref (gAd E (37))), (2, .int (x2)), (3, .int (x3)), (4, .int (x4)), (5, .int (x5)), (6, .int (x6)), (8, .int (x8)), (9, .int (x9))] [0, 1, 2, 3, 4, 5, 6, 7] rfl ?_
        exact l_X7_have_125 E f0 sz QA N B gr C0 hz _ hs30 _ _ _ _ _ _ _ _ _ _ hr _ _ ha45 hD45 hA45 (hf.tr fa45 (fun _ h => h))
  · replace hr := ite_t c93 hr
    refine G.go tv_X7_have 1 97 [(0, .ref (gAd E (37))), (2, .int (x2)), (3, .int (x3)), (4, .int (x4)), (5, .int (x5)), (6, .int (x6)), (8, .int (x8)), (9, .int (x9))] [.int ((1 : Int32))] rfl ?_
    cases hr
    exact G.iret rfl rfl (FQ.ok rfl ⟨C, h, hD, hA, hf⟩) (tbd tv_X7_have rfl)
set_option maxRecDepth 100000 in
set_option maxHeartbeats 4000000 in
theorem l_X7_have_30 (E : gE) (f0 : Nat → va_E) (sz : Nat) (QA : Nat → Prop) (N B gr : Nat) (C0 : CfT) (hz : CfZ E N B gr) : ∀ (n : Nat), ∀ (A : MS) (D : CfT) (x2 : Int32) (x3 : Int32) (x4 : Int32) (x5 : Int32) (x6 : Int32) (x7 : Int32) (x8 : Int32) (r : FR Int32) (hr : d_X7_have_30 N B gr n A D x2 x3 x4 x5 x6 x7 x8 = some r) (f : Nat → va_E) (C : CfT) (h : CfV E f N B gr C) (hD : Dq D C) (hA : AR N B gr A C) (hf : Fr CfK f0 f), G E (11, yX7_have, 10, (some .boolean), sz, QA) cX7_have (gO E (11, yX7_have, 10, (some .boolean), sz, QA) (FQ E N B gr f0 (fun r => some (.int r)) r)) 30 [(0, .ref (gAd E (37))), (2, .int (x2)), (3, .int (x3)), (4, .int (x4)), (5, .int (x5)), (6, .int (x6)), (7, .int (x7)), (8, .int (x8))] [] f := by
  obtain ⟨z1, z2, z3, z4, z5, z6, z7⟩ := id hz
  intro n
  induction n with
  | zero =>
    intro A D x2 x3 x4 x5 x6 x7 x8 r hr f C h hD hA hf
    cases hr
  | succ n ih =>
    intro A D x2 x3 x4 x5 x6 x7 x8 r hr f C h hD hA hf
    unfold d_X7_have_30 at hr
    refine G.go tv_X7_have 2 34 [(0, .ref (gAd E (37))), (2, .int (x2)), (3, .int (x3)), (4, .int (x4)), (5, .int (x5)), (6, .int (x6)), (7, .int (x7)), (8, .int (x8))] [.int (x6), .int (x8)] rfl ?_
    refine G.cmp_ge 164 (tbd tv_X7_have rfl) (by decide) (fun c34 => ?_) (fun c34 => ?_)
    · replace hr := ite_t c34 hr
      refine G.go tv_X7_have 1 166 [(0, .ref (gAd E (37))), (2, .int (x2)), (3, .int (x3)), (4, .int (x4)), (5, .int (x5)), (6, .int (x6)), (7, .int (x7)), (8, .int (x8))] [.int (x7)] rfl ?_
      obtain ⟨hz01, hr⟩ := rtZ_s hr
      cases hr
      exact G.iret rfl (nar_z hz01) (FQ.ok rfl ⟨C, h, hD, hA, hf⟩) (tbd tv_X7_have rfl)
    · replace hr := ite_f c34 hr
      refine G.go tv_X7_have 1 38 [(0, .ref (gAd E (37))), (2, .int (x2)), (3, .int (x3)), (4, .int (x4)), (5, .int (x5)), (6, .int (x6)), (7, .int (x7)), (8, .int (x8))] [.ref (gAd E (37))] rfl ?_
      refine G.getf cls_X7 (37) 0 (by omega) (h.q37) (by decide) rfl (tbd tv_X7_have rfl) w_478 ?_
      refine G.go tv_X7_have 1 43 [(0, .ref (gAd E (37))), (2, .int (x2)), (3, .int (x3)), (4, .int (x4)), (5, .int (x5)), (6, .int (x6)), (7, .int (x7)), (8, .int (x8))] [.int (x4), .ref (gAd E (25))] rfl ?_
      obtain ⟨y37, b37, e37, hr⟩ := seeB_s hr
      refine G.callV (25) [.int (x4)] [] (k_see E _ N B gr C A hz h hA _ b37 _ e37) cls_X10 (by omega) (h.q25) cw_X7_34 w_910 w_911 (Nat.le_of_ble_eq_true rfl) rfl (Nat.le_of_ble_eq_true rfl) (tbd tv_X7_have rfl) (fun v37w f37 q37 => ?_) (fun _ _ h => h.elim)
      obtain ⟨⟨k37, rfl, w37⟩, ha37, fa37⟩ := q37
      refine G.eqs [.ref (gAd E (k37))] rfl ?_
      refine G.go tv_X7_have 1 48 [(0, .ref (gAd E (37))), (2, .int (x2)), (3, .int (x3)), (4, .int (x4)), (5, .int (x5)), (6, .int (x6)), (7, .int (x7)), (8, .int (x8))] [.int (x5), .ref (gAd E (k37))] rfl ?_
      obtain ⟨v38, hv38, hr⟩ := bnd_s hr
      refine G.callS [.ref (gAd E (k37)), .int (x5)] [] (k_X2_two E _ N B gr C D A hz ha37 hD hA k37 128 y37 (w37) x5 v38 hv38) cw_X7_49 w_878 (Nat.le_of_ble_eq_true rfl) rfl (Nat.le_of_ble_eq_true rfl) (tbd tv_X7_have rfl) (fun v38w f38 q38 => ?_) (fun _ _ h => h.elim)
      obtain ⟨rfl, ha38, fa38⟩ := q38
      refine G.eqs [.int (v38)] rfl ?_
      refine G.go tv_X7_have 2 55 [(0, .ref (gAd E (37))), (2, .int (x2)), (3, .int (x3)), (4, .int (x4)), (5, .int (x5)), (6, .int (x6)), (7, .int (x7)), (8, .int (x8)), (9, .int (v38))] [.int (v38)] rfl ?_
      refine G.if_ne 144 (tbd tv_X7_have rfl) (by decide) (fun c55 => ?_) (fun c55 => ?_)
      · replace hr := ite_f c55 hr
        refine G.go tv_X7_have 6 153 [(0, .ref (gAd E (37))), (2, .int (x2)), (3, .int (x3)), (4, .int (v38)), (5, .int (x5)), (6, .int (x6)), (7, .int (x7)), (8, .int (x8)), (9, .int (v38))] [.int ((x8) + ((1 : Int32))), .int (x2)] rfl ?_
        obtain ⟨v39, hv39, hr⟩ := bnd_s hr
        refine G.callS [.int (x2), .int ((x8) + ((1 : Int32)))] [] (k_X7_offset E _ N B gr C D A hz ha38 hD hA x2 ((x8) + ((1 : Int32))) v39 hv39) cw_X7_108 w_958 (Nat.le_of_ble_eq_true rfl) rfl (Nat.le_of_ble_eq_true rfl) (tbd tv_X7_have rfl) (fun v39w f39 q39 => ?_) (fun _ _ h => h.elim)
        obtain ⟨rfl, ha39, fa39⟩ := q39
        refine G.eqs [.int (v39)] rfl ?_
        refine G.go tv_X7_have 3 30 [(0, .ref (gAd E (37))), (2, .int (x2)), (3, .int (x3)), (4, .int (v38)), (5, .int (v39)), (6, .int (x6)), (7, .int (x7)), (8, .int (x8 + (1 : Int32))), (9, .int (v38))] [] rfl ?_
        refine G.less [(0, .ref (gAd E (37))), (2, .int (x2)), (3, .int (x3)), (4, .int (v38)), (5, .int (v39)), (6, .int (x6)), (7, .int (x7)), (8, .int (x8 + (1 : Int32)))] [0, 1, 2, 3, 4, 5, 6, 7] rfl ?_
        exact ih _ _ _ _ _ _ _ _ _ _ hr _ _ ha39 hD hA (((hf.tr fa37 (fun _ h => h)).tr fa38 (fun _ h => h)).tr fa39 (fun _ h => h))
      · replace hr := ite_t c55 hr
        refine G.go tv_X7_have 1 59 [(0, .ref (gAd E (37))), (2, .int (x2)), (3, .int (x3)), (4, .int (x4)), (5, .int (x5)), (6, .int (x6)), (7, .int (x7)), (8, .int (x8)), (9, .int (v38))] [.ref (gAd E (37))] rfl ?_
        refine G.getf cls_X7 (37) 0 (by omega) (ha38.q37) (by decide) rfl (tbd tv_X7_have rfl) w_478 ?_
        obtain ⟨v40, hv40, hr⟩ := bnd_s hr
        refine G.callV (25) [] [] (k_X10_lowest E _ N B gr C D A hz ha38 hD hA v40 hv40) cls_X10 (by omega) (ha38.q25) cw_X7_130 w_1444 w_1445 (Nat.le_of_ble_eq_true rfl) rfl (Nat.le_of_ble_eq_true rfl) (tbd tv_X7_have rfl) (fun v40w f40 q40 => ?_) (fun _ _ h => h.elim)
        obtain ⟨rfl, ha40, fa40⟩ := q40
        refine G.eqs [.int (v40)] rfl ?_
        refine G.go tv_X7_have 3 70 [(0, .ref (gAd E (37))), (2, .int (x2)), (3, .int (x3)), (4, .int (x4)), (5, .int (x5)), (6, .int (x6)), (7, .int (x7)), (8, .int (x8)), (9, .int (v40))] [.int ((-1 : Int32)), .int (v40)] rfl ?_
        refine G.cmp_ne 90 (tbd tv_X7_have rfl) (by decide) (fun c70 => ?_) (fun c70 => ?_)
        · replace hr := ite_f c70 hr
          refine G.less [(0, .ref (gAd E (37))), (2, .int (x2)), (3, .int (x3)), (4, .int (x4)), (5, .int (x5)), (6, .int (x6)), (8, .int (x8)), (9, .int (v40))] [0, 1, 2, 3, 4, 5, 7, 8] rfl ?_
          exact l_X7_have_90 E f0 sz QA N B gr C0 hz _ ih _ _ _ _ _ _ _ _ _ _ hr _ _ ha40 hD hA (((hf.tr fa37 (fun _ h => h)).tr fa38 (fun _ h => h)).tr fa40 (fun _ h => h))
        · replace hr := ite_t c70 hr
          refine G.go tv_X7_have 1 74 [(0, .ref (gAd E (37))), (2, .int (x2)), (3, .int (x3)), (4, .int (x4)), (5, .int (x5)), (6, .int (x6)), (7, .int (x7)), (8, .int (x8)), (9, .int (v40))] [.ref (gAd E (37))] rfl ?_
          refine G.getf cls_X7 (37) 1 (by omega) (ha40.q37) (by decide) rfl (tbd tv_X7_have rfl) w_479 ?_
          rcases bndF_s hr with ⟨v41, A41, D41, hv41, hr⟩ | ⟨ex41, A41, D41, hv41, rfl⟩
          rotate_left
          · skip
            refine G.callV (17) [] [] (k_X9_flushAll E _ N B gr C D A hz ha40 hD hA _ hv41) cls_X9 (by omega) (ha40.q17) cw_X7_133 w_1274 w_1275 (Nat.le_of_ble_eq_true rfl) rfl (Nat.le_of_ble_eq_true rfl) (tbd tv_X7_have rfl) (fun v41w f41 q41 => ?_) (fun X g q => FQ.fr q (((hf.tr fa37 (fun _ h => h)).tr fa38 (fun _ h => h)).tr fa40 (fun _ h => h)))
            exact q41.elim
          refine G.callV (17) [] [] (k_X9_flushAll E _ N B gr C D A hz ha40 hD hA _ hv41) cls_X9 (by omega) (ha40.q17) cw_X7_133 w_1274 w_1275 (Nat.le_of_ble_eq_true rfl) rfl (Nat.le_of_ble_eq_true rfl) (tbd tv_X7_have rfl) (fun v41w f41 q41 => ?_) (fun _ _ h => h.elim)
          obtain ⟨rfl, C41, ha41, hD41, hA41, fa41⟩ := q41
          refine G.eqs [.int (v41)] rfl ?_
          refine G.go tv_X7_have 2 82 [(0, .ref (gAd E (37))), (2, .int (x2)), (3, .int (x3)), (4, .int (x4)), (5, .int (x5)), (6, .int (x6)), (7, .int (x7)), (8, .int (x8)), (9, .int (v40))] [.ref (gAd E (37))] rfl ?_
          refine G.getf cls_X7 (37) 0 (by omega) (ha41.q37) (by decide) rfl (tbd tv_X7_have rfl) w_478 ?_
          obtain ⟨v42, hv42, hr⟩ := bnd_s hr
          refine G.callV (25) [] [] (k_X10_lowest E _ N B gr C41 D41 A41 hz ha41 hD41 hA41 v42 hv42) cls_X10 (by omega) (ha41.q25) cw_X7_130 w_1444 w_1445 (Nat.le_of_ble_eq_true rfl) rfl (Nat.le_of_ble_eq_true rfl) (tbd tv_X7_have rfl) (fun v42w f42 q42 => ?_) (fun _ _ h => h.elim)
          obtain ⟨rfl, ha42, fa42⟩ := q42
          refine G.eqs [.int (v42)] rfl ?_
          refine G.go tv_X7_have 1 90 [(0, .ref (gAd E (37))), (2, .int (x2)), (3, .int (x3)), (4, .int (x4)), (5, .int (x5)), (6, .int (x6)), (7, .int (x7)), (8, .int (x8)), (9, .int (v42))] [] rfl ?_
          refine G.less [(0, .ref (gAd E (37))), (2, .int (x2)), (3, .int (x3)), (4, .int (x4)), (5, .int (x5)), (6, .int (x6)), (8, .int (x8)), (9, .int (v42))] [0, 1, 2, 3, 4, 5, 7, 8] rfl ?_
          exact l_X7_have_90 E f0 sz QA N B gr C0 hz _ ih _ _ _ _ _ _ _ _ _ _ hr _ _ ha42 hD41 hA41 (((((hf.tr fa37 (fun _ h => h)).tr fa38 (fun _ h => h)).tr fa40 (fun _ h => h)).tr fa41 (fun _ h => h)).tr fa42 (fun _ h => h))
set_option maxRecDepth 100000 in
set_option maxHeartbeats 4000000 in
theorem k_X7_have (E : gE) (f : Nat → va_E) (N B gr : Nat) (C D : CfT) (A : MS) (hz : CfZ E N B gr) (h : CfV E f N B gr C) (hD : Dq D C) (hA : AR N B gr A C) (a0 : Int32) (a1 : Int32) (a2 : Int32) (r : FR Int32) (hr : d_X7_have N B gr A D a0 a1 a2 = some r) : Ct E 11 yX7_have cX7_have 10 (some .boolean) [.ref (gAd E (37)), .int (a0), .int (a1), .int (a2)] f (FQ E N B gr f (fun r => some (.int r)) r) := by
  obtain ⟨z1, z2, z3, z4, z5, z6, z7⟩ := id hz
  refine Ct.of (by decide) (Nat.le_of_ble_eq_true rfl) (fun sz => ?_)
  refine G.eql [(0, .ref (gAd E (37))), (1, .int (a0)), (2, .int (a1)), (3, .int (a2))] rfl ?_
  unfold d_X7_have at hr
  refine G.go tv_X7_have 1 1 [(0, .ref (gAd E (37))), (1, .int (a0)), (2, .int (a1)), (3, .int (a2))] [.int (a0)] rfl ?_
  obtain ⟨v32, hv32, hr⟩ := bnd_s hr
  refine G.callS [.int (a0)] [] (k_X7_home E _ N B gr C D A hz h hD hA a0 v32 hv32) cw_X7_30 w_907 (Nat.le_of_ble_eq_true rfl) rfl (Nat.le_of_ble_eq_true rfl) (tbd tv_X7_have rfl) (fun v32w f32 q32 => ?_) (fun _ _ h => h.elim)
  obtain ⟨rfl, ha32, fa32⟩ := q32
  refine G.eqs [.int (v32)] rfl ?_
  refine G.go tv_X7_have 2 7 [(0, .ref (gAd E (37))), (1, .int (a0)), (2, .int (a1)), (3, .int (a2)), (4, .int (v32))] [.int (a0)] rfl ?_
  obtain ⟨v33, hv33, hr⟩ := bnd_s hr
  refine G.callS [.int (a0)] [] (k_X7_start E _ N B gr C D A hz ha32 hD hA a0 v33 hv33) cw_X7_40 w_922 (Nat.le_of_ble_eq_true rfl) rfl (Nat.le_of_ble_eq_true rfl) (tbd tv_X7_have rfl) (fun v33w f33 q33 => ?_) (fun _ _ h => h.elim)
  obtain ⟨rfl, ha33, fa33⟩ := q33
  refine G.eqs [.int (v33)] rfl ?_
  refine G.go tv_X7_have 2 12 [(0, .ref (gAd E (37))), (1, .int (a0)), (2, .int (a1)), (3, .int (a2)), (4, .int (v32))] [.int ((0 : Int32)), .int (a1), .int (v33)] rfl ?_
  obtain ⟨v34, hv34, hr⟩ := bnd_s hr
  refine G.callS [.int (a1), .int ((0 : Int32))] [.int (v33)] (k_X7_offset E _ N B gr C D A hz ha33 hD hA a1 ((0 : Int32)) v34 hv34) cw_X7_108 w_958 (Nat.le_of_ble_eq_true rfl) rfl (Nat.le_of_ble_eq_true rfl) (tbd tv_X7_have rfl) (fun v34w f34 q34 => ?_) (fun _ _ h => h.elim)
  obtain ⟨rfl, ha34, fa34⟩ := q34
  refine G.eqs [.int (v34), .int (v33)] rfl ?_
  refine G.go tv_X7_have 3 19 [(0, .ref (gAd E (37))), (1, .int (a0)), (2, .int (a1)), (3, .int (a2)), (4, .int (v32)), (5, .int ((v33) + (v34)))] [.int (a1)] rfl ?_
  obtain ⟨v35, hv35, hr⟩ := bnd_s hr
  refine G.callS [.int (a1)] [] (k_X7_levels E _ N B gr C D A hz ha34 hD hA a1 v35 hv35) cw_X7_105 w_961 (Nat.le_of_ble_eq_true rfl) rfl (Nat.le_of_ble_eq_true rfl) (tbd tv_X7_have rfl) (fun v35w f35 q35 => ?_) (fun _ _ h => h.elim)
  obtain ⟨rfl, ha35, fa35⟩ := q35
  refine G.eqs [.int (v35)] rfl ?_
  refine G.go tv_X7_have 5 30 [(0, .ref (gAd E (37))), (1, .int (a0)), (2, .int (a1)), (3, .int (a2)), (4, .int (v32)), (5, .int ((v33) + (v34))), (6, .int (v35)), (7, .int ((0 : Int32))), (8, .int ((0 : Int32)))] [] rfl ?_
  refine G.less [(0, .ref (gAd E (37))), (2, .int (a1)), (3, .int (a2)), (4, .int (v32)), (5, .int ((v33) + (v34))), (6, .int (v35)), (7, .int ((0 : Int32))), (8, .int ((0 : Int32)))] [0, 2, 3, 4, 5, 6, 7, 8] rfl ?_
  exact l_X7_have_30 E f sz _ N B gr C hz _ _ _ _ _ _ _ _ _ _ _ hr _ _ ha35 hD hA ((((Fr.rf.tr fa32 (fun _ h => h)).tr fa33 (fun _ h => h)).tr fa34 (fun _ h => h)).tr fa35 (fun _ h => h))
def tb_X4_addName : List (Nat × Instr × Nat) := [(0, .aload_n 0, 1), (1, .iload_n 1, 1), (2, .invokevirtual 88, 3), (5, .istore 4, 2), (7, .iload 4, 2), (9, .iconst (-1), 1), (10, .if_icmp .ne 45, 3), (13, .aload_n 0, 1), (14, .iload_n 1, 1), (15, .invokevirtual 62, 3), (18, .istore 4, 2), (20, .aload_n 0, 1), (21, .getfield 15, 3), (24, .iload_n 1, 1), (25, .iload 4, 2), (27, .bipush 8, 2), (29, .idiv, 1), (30, .iconst 1, 1), (31, .invokevirtual 94, 3), (34, .pop, 1), (35, .aload_n 0, 1), (36, .getfield 15, 3), (39, .iload_n 1, 1), (40, .aload_n 0, 1), (41, .getfield 15, 3), (44, .iload_n 1, 1), (45, .invokevirtual 23, 3), (48, .sipush 128, 3), (51, .iadd, 1), (52, .invokevirtual 98, 3), (55, .aload_n 2, 1), (56, .getfield 84, 3), (59, .iconst 1, 1), (60, .isub, 1), (61, .istore 5, 2), (63, .aload_n 0, 1), (64, .iload_n 1, 1), (65, .iload 4, 2), (67, .invokevirtual 102, 3), (70, .astore 6, 2), (72, .iload 4, 2), (74, .invokestatic 46, 3), (77, .istore 7, 2), (79, .aload 6, 2), (81, .iload 7, 2), (83, .iload_n 3, 1), (84, .invokestatic 105, 3), (87, .aload 6, 2), (89, .iload 7, 2), (91, .iconst 2, 1), (92, .iadd, 1), (93, .aload_n 2, 1), (94, .getfield 69, 3), (97, .iload 5, 2), (99, .iaload, 1), (100, .i2b, 1), (101, .bastore, 1), (102, .aload_n 0, 1), (103, .getfield 19, 3), (106, .aload_n 2, 1), (107, .getfield 73, 3), (110, .iload 5, 2), (112, .iaload, 1), (113, .aload 6, 2), (115, .iload 7, 2), (117, .iconst 3, 1), (118, .iadd, 1), (119, .aload_n 2, 1), (120, .getfield 69, 3), (123, .iload 5, 2), (125, .iaload, 1), (126, .invokestatic 109, 3), (129, .return_, 1)]
theorem tv_X4_addName : Tv cX4_addName tb_X4_addName := by
  unfold Tv
  decide +kernel
theorem w_1439 : Cond.methodLink "LedgerFiles$Folders" 94 yX7_have ∈ TB := tp_6 93 (by decide +kernel) rfl
theorem w_1442 : Cond.code yX7_have prog_9_method_31_code 10 (some .boolean) ∈ TB := tp_6 96 rfl rfl
theorem cw_X4_94 : Cw RX4 94 yX7_have cX7_have 10 (some .boolean) 3 := ⟨w_1439, w_1442, w_157, by decide +kernel, by decide +kernel, by decide⟩
theorem w_1440 : Cond.instanceMethod yX7_have ∈ TB := tp_6 94 (by decide +kernel) rfl
theorem w_1441 : Cond.selects "LedgerFiles$Nodes" yX7_have yX7_have ∈ TB := tp_6 95 (by decide +kernel) rfl
theorem w_1453 : Cond.methodLink "LedgerFiles$Folders" 98 yX7_setSize ∈ TB := tp_6 107 (by decide +kernel) rfl
theorem cw_X4_98 : Cw RX4 98 yX7_setSize cX7_setSize 3 none 2 := ⟨w_1453, w_1456, w_157, by decide +kernel, by decide +kernel, by decide⟩
theorem w_1464 : Cond.methodLink "LedgerFiles$Folders" 109 ⟨"java/lang/System", "arraycopy", "(Ljava/lang/Object;ILjava/lang/Object;II)V"⟩ ∈ TB := tp_6 118 (by decide +kernel) rfl
noncomputable def d_X4_addName_47_55 (N B gr : Nat) (A : MS) (D : CfT) (x1 : Int32) (x3 : Int32) (x4 : Int32) : Option (FR Unit) := bnd3 (d_X4_ownRowOf N A D x1 x4) (fun t55 A55 D55 => bnd (d_X4_startOf N (vA A55) D55 x4) (fun v56 => bnd (s2O N A55 t55 v56 x3) (fun A57 => ld (cA D55 49) 16 ((cS D 4702) - ((1 : Int32))) (fun v58 => bnd (stO N A57 t55 ((v56) + ((2 : Int32))) (vp_nar .byte ((v58 : Int32).toInt8.toInt32))) (fun A59 => ld (cA D55 48) 16 ((cS D 4702) - ((1 : Int32))) (fun v60 => ld (cA D55 49) 16 ((cS D 4702) - ((1 : Int32))) (fun v61 => bnd (cpO N A59 t55 (cA D55 1) 1024 v60 ((v56) + ((3 : Int32))) v61) (fun A62 => some (.inl ((), A62, D55))))))))))
noncomputable def d_X4_addName_47 (N B gr : Nat) (A : MS) (D : CfT) (a0 : Int32) (a2 : Int32) : Option (FR Unit) := bnd (d_X4_freeSlot N (vA A) D a0) (fun v50 => if v50 = ((-1 : Int32)) then bnd (d_X4_slots N (vA A) D a0) (fun v51 => bndF (d_X7_have N B gr A D a0 ((v51) / ((8 : Int32))) ((1 : Int32))) (fun v52 A52 D52 => bnd (d_X7_size N (vA A52) D52 a0) (fun v53 => bnd2 (d_X7_setSize N A52 D52 a0 ((v53) + ((128 : Int32)))) (fun A54 D54 => d_X4_addName_47_55 N B gr A54 D54 a0 a2 v51)))) else d_X4_addName_47_55 N B gr A D a0 a2 v50)
set_option maxRecDepth 100000 in
set_option maxHeartbeats 4000000 in
theorem l_X4_addName_47_55 (E : gE) (f0 : Nat → va_E) (sz : Nat) (QA : Nat → Prop) (N B gr : Nat) (C0 : CfT) (hz : CfZ E N B gr) : ∀ (A : MS) (D : CfT) (x1 : Int32) (x3 : Int32) (x4 : Int32) (r : FR Unit) (hr : d_X4_addName_47_55 N B gr A D x1 x3 x4 = some r) (f : Nat → va_E) (C : CfT) (h : CfV E f N B gr C) (hD : Dq D C) (hA : AR N B gr A C) (hf : Fr CfK f0 f), G E (12, yX4_addName, 8, none, sz, QA) cX4_addName (gO E (12, yX4_addName, 8, none, sz, QA) (FQ E N B gr f0 (fun _ => none) r)) 55 [(0, .ref (gAd E (40))), (1, .int (x1)), (2, .ref (gAd E (47))), (3, .int (x3)), (4, .int (x4))] [] f := by
  obtain ⟨z1, z2, z3, z4, z5, z6, z7⟩ := id hz
  intro A D x1 x3 x4 r hr f C h hD hA hf
  unfold d_X4_addName_47_55 at hr
  refine G.go tv_X4_addName 1 56 [(0, .ref (gAd E (40))), (1, .int (x1)), (2, .ref (gAd E (47))), (3, .int (x3)), (4, .int (x4))] [.ref (gAd E (47))] rfl ?_
  refine G.getf cls_X8 (47) 2 (by omega) (h.q47) (by decide) rfl (tbd tv_X4_addName rfl) w_197 ?_
  refine G.eq1 (b := cS D 4702) (hD.1 4702 (by decide)) ?_
  refine G.go tv_X4_addName 6 67 [(0, .ref (gAd E (40))), (1, .int (x1)), (2, .ref (gAd E (47))), (3, .int (x3)), (4, .int (x4)), (5, .int ((cS D 4702) - ((1 : Int32))))] [.int (x4), .int (x1), .ref (gAd E (40))] rfl ?_
  obtain ⟨t55, A55, D55, hv55, hr⟩ := bnd3_s hr
  refine G.callV (40) [.int (x1), .int (x4)] [] (k_X4_ownRowOf E _ N B gr C D A hz h hD hA x1 x4 t55 A55 D55 hv55) cls_X4 (by omega) (h.q40) cw_X4_102 w_1460 w_34 (Nat.le_of_ble_eq_true rfl) rfl (Nat.le_of_ble_eq_true rfl) (tbd tv_X4_addName rfl) (fun v55w f55 q55 => ?_) (fun _ _ h => h.elim)
  obtain ⟨rfl, C55, ha55, hD55, hA55, fa55⟩ := q55
  refine G.eqs [.ref (gAd E (350 + N + t55))] rfl ?_
  refine G.go tv_X4_addName 2 74 [(0, .ref (gAd E (40))), (1, .int (x1)), (2, .ref (gAd E (47))), (3, .int (x3)), (4, .int (x4)), (5, .int ((cS D 4702) - ((1 : Int32)))), (6, .ref (gAd E (350 + N + t55)))] [.int (x4)] rfl ?_
  obtain ⟨v56, hv56, hr⟩ := bnd_s hr
  refine G.callS [.int (x4)] [] (k_X4_startOf E _ N B gr C55 D55 A55 hz ha55 hD55 hA55 x4 v56 hv56) cw_X4_46 w_1372 (Nat.le_of_ble_eq_true rfl) rfl (Nat.le_of_ble_eq_true rfl) (tbd tv_X4_addName rfl) (fun v56w f56 q56 => ?_) (fun _ _ h => h.elim)
  obtain ⟨rfl, ha56, fa56⟩ := q56
  refine G.eqs [.int (v56)] rfl ?_
  refine G.go tv_X4_addName 4 84 [(0, .ref (gAd E (40))), (1, .int (x1)), (2, .ref (gAd E (47))), (3, .int (x3)), (4, .int (x4)), (5, .int ((cS D 4702) - ((1 : Int32)))), (6, .ref (gAd E (350 + N + t55))), (7, .int (v56))] [.int (x3), .int (v56), .ref (gAd E (350 + N + t55))] rfl ?_
  obtain ⟨A57, hv57, hr⟩ := bnd_s hr
  refine G.callS [.ref (gAd E (350 + N + t55)), .int (v56), .int (x3)] [] (k_s2O E _ N B gr C55 D55 A55 hz ha56 hD55 hA55 t55 v56 x3 _ hv57) cw_X4_105 w_787 (Nat.le_of_ble_eq_true rfl) rfl (Nat.le_of_ble_eq_true rfl) (tbd tv_X4_addName rfl) (fun v57w f57 q57 => ?_) (fun _ _ h => h.elim)
  obtain ⟨rfl, C57, ha57, hD57, hA57, fa57⟩ := q57
  refine G.eqs [] rfl ?_
  refine G.go tv_X4_addName 5 94 [(0, .ref (gAd E (40))), (1, .int (x1)), (2, .ref (gAd E (47))), (3, .int (x3)), (4, .int (x4)), (5, .int ((cS D 4702) - ((1 : Int32)))), (6, .ref (gAd E (350 + N + t55))), (7, .int (v56))] [.ref (gAd E (47)), .int ((v56) + ((2 : Int32))), .ref (gAd E (350 + N + t55))] rfl ?_
  refine G.getf cls_X8 (47) 1 (by omega) (ha57.q47) (by decide) rfl (tbd tv_X4_addName rfl) w_195 ?_
  refine G.go tv_X4_addName 1 99 [(0, .ref (gAd E (40))), (1, .int (x1)), (2, .ref (gAd E (47))), (3, .int (x3)), (4, .int (x4)), (5, .int ((cS D 4702) - ((1 : Int32)))), (6, .ref (gAd E (350 + N + t55))), (7, .int (v56))] [.int ((cS D 4702) - ((1 : Int32))), .ref (gAd E (49)), .int ((v56) + ((2 : Int32))), .ref (gAd E (350 + N + t55))] rfl ?_
  obtain ⟨v58, b58, e58, hr⟩ := ld_s hr
  refine G.ialdE (49) (by omega) ((ha57.q49).trans (congrArg (oI (gDA E) (16)) (hD57.2 49 (by decide)))) b58 e58 (tbd tv_X4_addName rfl) ?_
  refine G.go tv_X4_addName 1 101 [(0, .ref (gAd E (40))), (1, .int (x1)), (2, .ref (gAd E (47))), (3, .int (x3)), (4, .int (x4)), (5, .int ((cS D 4702) - ((1 : Int32)))), (6, .ref (gAd E (350 + N + t55))), (7, .int (v56))] [.int ((v58 : Int32).toInt8.toInt32), .int ((v56) + ((2 : Int32))), .ref (gAd E (350 + N + t55))] rfl ?_
  obtain ⟨A59, hv59, hr⟩ := bnd_s hr
  refine G.owst hz ha57 hD57 hA57 (((hf.tr fa55 (fun _ h => h)).tr fa56 (fun _ h => h)).tr fa57 (fun _ h => h)) hv59 (tbd tv_X4_addName rfl) (fun u59 p59 => ?_)
  obtain ⟨C59, h59, hD59, hA59, k59⟩ := p59
  refine G.go tv_X4_addName 1 103 [(0, .ref (gAd E (40))), (1, .int (x1)), (2, .ref (gAd E (47))), (3, .int (x3)), (4, .int (x4)), (5, .int ((cS D 4702) - ((1 : Int32)))), (6, .ref (gAd E (350 + N + t55))), (7, .int (v56))] [.ref (gAd E (40))] rfl ?_
  refine G.getf cls_X4 (40) 2 (by omega) (h59.q40) (by decide) rfl (tbd tv_X4_addName rfl) w_511 ?_
  refine G.go tv_X4_addName 1 107 [(0, .ref (gAd E (40))), (1, .int (x1)), (2, .ref (gAd E (47))), (3, .int (x3)), (4, .int (x4)), (5, .int ((cS D 4702) - ((1 : Int32)))), (6, .ref (gAd E (350 + N + t55))), (7, .int (v56))] [.ref (gAd E (47)), .ref (gAd E (1))] rfl ?_
  refine G.getf cls_X8 (47) 0 (by omega) (h59.q47) (by decide) rfl (tbd tv_X4_addName rfl) w_193 ?_
  refine G.go tv_X4_addName 1 112 [(0, .ref (gAd E (40))), (1, .int (x1)), (2, .ref (gAd E (47))), (3, .int (x3)), (4, .int (x4)), (5, .int ((cS D 4702) - ((1 : Int32)))), (6, .ref (gAd E (350 + N + t55))), (7, .int (v56))] [.int ((cS D 4702) - ((1 : Int32))), .ref (gAd E (48)), .ref (gAd E (1))] rfl ?_
  obtain ⟨v60, b60, e60, hr⟩ := ld_s hr
  refine G.ialdE (48) (by omega) ((h59.q48).trans (congrArg (oI (gDA E) (16)) (hD59.2 48 (by decide)))) b60 e60 (tbd tv_X4_addName rfl) ?_
  refine G.go tv_X4_addName 5 120 [(0, .ref (gAd E (40))), (1, .int (x1)), (2, .ref (gAd E (47))), (3, .int (x3)), (4, .int (x4)), (5, .int ((cS D 4702) - ((1 : Int32)))), (6, .ref (gAd E (350 + N + t55))), (7, .int (v56))] [.ref (gAd E (47)), .int ((v56) + ((3 : Int32))), .ref (gAd E (350 + N + t55)), .int (v60), .ref (gAd E (1))] rfl ?_
  refine G.getf cls_X8 (47) 1 (by omega) (h59.q47) (by decide) rfl (tbd tv_X4_addName rfl) w_195 ?_
  refine G.go tv_X4_addName 1 125 [(0, .ref (gAd E (40))), (1, .int (x1)), (2, .ref (gAd E (47))), (3, .int (x3)), (4, .int (x4)), (5, .int ((cS D 4702) - ((1 : Int32)))), (6, .ref (gAd E (350 + N + t55))), (7, .int (v56))] [.int ((cS D 4702) - ((1 : Int32))), .ref (gAd E (49)), .int ((v56) + ((3 : Int32))), .ref (gAd E (350 + N + t55)), .int (v60), .ref (gAd E (1))] rfl ?_
  obtain ⟨v61, b61, e61, hr⟩ := ld_s hr
  refine G.ialdE (49) (by omega) ((h59.q49).trans (congrArg (oI (gDA E) (16)) (hD59.2 49 (by decide)))) b61 e61 (tbd tv_X4_addName rfl) ?_
  obtain ⟨A62, hv62, hr⟩ := bnd_s hr
  refine G.cpO hz h59 hD59 hA59 k59 (by omega) ((h59.q1).trans (congrArg (oB (gDA E) (1024)) (hD59.2 1 (by decide)))) hv62 w_1464 w_755 w_754 w_167 (Nat.le_of_ble_eq_true rfl) (Nat.le_of_ble_eq_true rfl) (tbd tv_X4_addName rfl) (fun u62 p62 => ?_)
  obtain ⟨C62, h62, hD62, hA62, k62⟩ := p62
  cases hr
  exact G.vret rfl (FQ.ok rfl ⟨C62, h62, hD62, hA62, k62⟩) (tbd tv_X4_addName rfl)
set_option maxRecDepth 100000 in
set_option maxHeartbeats 4000000 in
theorem k_X4_addName_47 (E : gE) (f : Nat → va_E) (N B gr : Nat) (C D : CfT) (A : MS) (hz : CfZ E N B gr) (h : CfV E f N B gr C) (hD : Dq D C) (hA : AR N B gr A C) (a0 : Int32) (a2 : Int32) (r : FR Unit) (hr : d_X4_addName_47 N B gr A D a0 a2 = some r) : Ct E 12 yX4_addName cX4_addName 8 none [.ref (gAd E (40)), .int (a0), .ref (gAd E (47)), .int (a2)] f (FQ E N B gr f (fun _ => none) r) := by
  obtain ⟨z1, z2, z3, z4, z5, z6, z7⟩ := id hz
  refine Ct.of (by decide) (Nat.le_of_ble_eq_true rfl) (fun sz => ?_)
  refine G.eql [(0, .ref (gAd E (40))), (1, .int (a0)), (2, .ref (gAd E (47))), (3, .int (a2))] rfl ?_
  unfold d_X4_addName_47 at hr
  refine G.go tv_X4_addName 2 2 [(0, .ref (gAd E (40))), (1, .int (a0)), (2, .ref (gAd E (47))), (3, .int (a2))] [.int (a0), .ref (gAd E (40))] rfl ?_
  obtain ⟨v50, hv50, hr⟩ := bnd_s hr
  refine G.callV (40) [.int (a0)] [] (k_X4_freeSlot E _ N B gr C D A hz h hD hA a0 v50 hv50) cls_X4 (by omega) (h.q40) cw_X4_88 w_1402 w_33 (Nat.le_of_ble_eq_true rfl) rfl (Nat.le_of_ble_eq_true rfl) (tbd tv_X4_addName rfl) (fun v50w f50 q50 => ?_) (fun _ _ h => h.elim)
  obtain ⟨rfl, ha50, fa50⟩ := q50
  refine G.eqs [.int (v50)] rfl ?_
  refine G.go tv_X4_addName 3 10 [(0, .ref (gAd E (40))), (1, .int (a0)), (2, .ref (gAd E (47))), (3, .int (a2)), (4, .int (v50))] [.int ((-1 : Int32)), .int (v50)] rfl ?_
  refine G.cmp_ne 55 (tbd tv_X4_addName rfl) (by decide) (fun c10 => ?_) (fun c10 => ?_)
  · replace hr := ite_f c10 hr
    refine G.less [(0, .ref (gAd E (40))), (1, .int (a0)), (2, .ref (gAd E (47))), (3, .int (a2)), (4, .int (v50))] [0, 1, 2, 3, 4] rfl ?_
    exact l_X4_addName_47_55 E f sz _ N B gr C hz _ _ _ _ _ _ hr _ _ ha50 hD hA (Fr.rf.tr fa50 (fun _ h => h))
  · replace hr := ite_t c10 hr
    refine G.go tv_X4_addName 2 15 [(0, .ref (gAd E (40))), (1, .int (a0)), (2, .ref (gAd E (47))), (3, .int (a2)), (4, .int (v50))] [.int (a0), .ref (gAd E (40))] rfl ?_
    obtain ⟨v51, hv51, hr⟩ := bnd_s hr
    refine G.callV (40) [.int (a0)] [] (k_X4_slots E _ N B gr C D A hz ha50 hD hA a0 v51 hv51) cls_X4 (by omega) (ha50.q40) cw_X4_62 w_1365 w_1366 (Nat.le_of_ble_eq_true rfl) rfl (Nat.le_of_ble_eq_true rfl) (tbd tv_X4_addName rfl) (fun v51w f51 q51 => ?_) (fun _ _ h => h.elim)
    obtain ⟨rfl, ha51, fa51⟩ := q51
    refine G.eqs [.int (v51)] rfl ?_
    refine G.go tv_X4_addName 2 21 [(0, .ref (gAd E (40))), (1, .int (a0)), (2, .ref (gAd E (47))), (3, .int (a2)), (4, .int (v51))] [.ref (gAd E (40))] rfl ?_
    refine G.getf cls_X4 (40) 1 (by omega) (ha51.q40) (by decide) rfl (tbd tv_X4_addName rfl) w_510 ?_
    refine G.go tv_X4_addName 3 29 [(0, .ref (gAd E (40))), (1, .int (a0)), (2, .ref (gAd E (47))), (3, .int (a2)), (4, .int (v51))] [.int ((8 : Int32)), .int (v51), .int (a0), .ref (gAd E (37))] rfl ?_
    refine G.idiv (by decide) (tbd tv_X4_addName rfl) ?_
    refine G.go tv_X4_addName 1 31 [(0, .ref (gAd E (40))), (1, .int (a0)), (2, .ref (gAd E (47))), (3, .int (a2)), (4, .int (v51))] [.int ((1 : Int32)), .int ((v51) / ((8 : Int32))), .int (a0), .ref (gAd E (37))] rfl ?_
    rcases bndF_s hr with ⟨v52, A52, D52, hv52, hr⟩ | ⟨ex52, A52, D52, hv52, rfl⟩
    rotate_left
    · skip
      refine G.callV (37) [.int (a0), .int ((v51) / ((8 : Int32))), .int ((1 : Int32))] [] (k_X7_have E _ N B gr C D A hz ha51 hD hA a0 ((v51) / ((8 : Int32))) ((1 : Int32)) _ hv52) cls_X7 (by omega) (ha51.q37) cw_X4_94 w_1440 w_1441 (Nat.le_of_ble_eq_true rfl) rfl (Nat.le_of_ble_eq_true rfl) (tbd tv_X4_addName rfl) (fun v52w f52 q52 => ?_) (fun X g q => FQ.fr q ((Fr.rf.tr fa50 (fun _ h => h)).tr fa51 (fun _ h => h)))
      exact q52.elim
    refine G.callV (37) [.int (a0), .int ((v51) / ((8 : Int32))), .int ((1 : Int32))] [] (k_X7_have E _ N B gr C D A hz ha51 hD hA a0 ((v51) / ((8 : Int32))) ((1 : Int32)) _ hv52) cls_X7 (by omega) (ha51.q37) cw_X4_94 w_1440 w_1441 (Nat.le_of_ble_eq_true rfl) rfl (Nat.le_of_ble_eq_true rfl) (tbd tv_X4_addName rfl) (fun v52w f52 q52 => ?_) (fun _ _ h => h.elim)
    obtain ⟨rfl, C52, ha52, hD52, hA52, fa52⟩ := q52
    refine G.eqs [.int (v52)] rfl ?_
    refine G.go tv_X4_addName 2 36 [(0, .ref (gAd E (40))), (1, .int (a0)), (2, .ref (gAd E (47))), (3, .int (a2)), (4, .int (v51))] [.ref (gAd E (40))] rfl ?_
    refine G.getf cls_X4 (40) 1 (by omega) (ha52.q40) (by decide) rfl (tbd tv_X4_addName rfl) w_510 ?_
    refine G.go tv_X4_addName 2 41 [(0, .ref (gAd E (40))), (1, .int (a0)), (2, .ref (gAd E (47))), (3, .int (a2)), (4, .int (v51))] [.ref (gAd E (40)), .int (a0), .ref (gAd E (37))] rfl ?_
    refine G.getf cls_X4 (40) 1 (by omega) (ha52.q40) (by decide) rfl (tbd tv_X4_addName rfl) w_510 ?_
    refine G.go tv_X4_addName 1 45 [(0, .ref (gAd E (40))), (1, .int (a0)), (2, .ref (gAd E (47))), (3, .int (a2)), (4, .int (v51))] [.int (a0), .ref (gAd E (37)), .int (a0), .ref (gAd E (37))] rfl ?_
    obtain ⟨v53, hv53, hr⟩ := bnd_s hr
    refine G.callV (37) [.int (a0)] [.int (a0), .ref (gAd E (37))] (k_X7_size E _ N B gr C52 D52 A52 hz ha52 hD52 hA52 a0 v53 hv53) cls_X7 (by omega) (ha52.q37) cw_X4_23 w_941 w_942 (Nat.le_of_ble_eq_true rfl) rfl (Nat.le_of_ble_eq_true rfl) (tbd tv_X4_addName rfl) (fun v53w f53 q53 => ?_) (fun _ _ h => h.elim)
    obtain ⟨rfl, ha53, fa53⟩ := q53
    refine G.eqs [.int (v53), .int (a0), .ref (gAd E (37))] rfl ?_
    refine G.go tv_X4_addName 2 52 [(0, .ref (gAd E (40))), (1, .int (a0)), (2, .ref (gAd E (47))), (3, .int (a2)), (4, .int (v51))] [.int ((v53) + ((128 : Int32))), .int (a0), .ref (gAd E (37))] rfl ?_
    obtain ⟨A54, D54, hv54, hr⟩ := bnd2_s hr
    refine G.callV (37) [.int (a0), .int ((v53) + ((128 : Int32)))] [] (k_X7_setSize E _ N B gr C52 D52 A52 hz ha53 hD52 hA52 a0 ((v53) + ((128 : Int32))) A54 D54 hv54) cls_X7 (by omega) (ha53.q37) cw_X4_98 w_1454 w_1455 (Nat.le_of_ble_eq_true rfl) rfl (Nat.le_of_ble_eq_true rfl) (tbd tv_X4_addName rfl) (fun v54w f54 q54 => ?_) (fun _ _ h => h.elim)
    obtain ⟨rfl, C54, ha54, hD54, hA54, fa54⟩ := q54
    refine G.eqs [] rfl ?_
    refine G.less [(0, .ref (gAd E (40))), (1, .int (a0)), (2, .ref (gAd E (47))), (3, .int (a2)), (4, .int (v51))] [0, 1, 2, 3, 4] rfl ?_
    exact l_X4_addName_47_55 E f sz _ N B gr C hz _ _ _ _ _ _ hr _ _ ha54 hD54 hA54 (((((Fr.rf.tr fa50 (fun _ h => h)).tr fa51 (fun _ h => h)).tr fa52 (fun _ h => h)).tr fa53 (fun _ h => h)).tr fa54 (fun _ h => h))
noncomputable def d_X4_addName_50_55 (N B gr : Nat) (A : MS) (D : CfT) (x1 : Int32) (x3 : Int32) (x4 : Int32) : Option (FR Unit) := bnd3 (d_X4_ownRowOf N A D x1 x4) (fun t68 A68 D68 => bnd (d_X4_startOf N (vA A68) D68 x4) (fun v69 => bnd (s2O N A68 t68 v69 x3) (fun A70 => ld (cA D68 52) 16 ((cS D 5002) - ((1 : Int32))) (fun v71 => bnd (stO N A70 t68 ((v69) + ((2 : Int32))) (vp_nar .byte ((v71 : Int32).toInt8.toInt32))) (fun A72 => ld (cA D68 51) 16 ((cS D 5002) - ((1 : Int32))) (fun v73 => ld (cA D68 52) 16 ((cS D 5002) - ((1 : Int32))) (fun v74 => bnd (cpO N A72 t68 (cA D68 1) 1024 v73 ((v69) + ((3 : Int32))) v74) (fun A75 => some (.inl ((), A75, D68))))))))))
noncomputable def d_X4_addName_50 (N B gr : Nat) (A : MS) (D : CfT) (a0 : Int32) (a2 : Int32) : Option (FR Unit) := bnd (d_X4_freeSlot N (vA A) D a0) (fun v63 => if v63 = ((-1 : Int32)) then bnd (d_X4_slots N (vA A) D a0) (fun v64 => bndF (d_X7_have N B gr A D a0 ((v64) / ((8 : Int32))) ((1 : Int32))) (fun v65 A65 D65 => bnd (d_X7_size N (vA A65) D65 a0) (fun v66 => bnd2 (d_X7_setSize N A65 D65 a0 ((v66) + ((128 : Int32)))) (fun A67 D67 => d_X4_addName_50_55 N B gr A67 D67 a0 a2 v64)))) else d_X4_addName_50_55 N B gr A D a0 a2 v63)
set_option maxRecDepth 100000 in
set_option maxHeartbeats 4000000 in
theorem l_X4_addName_50_55 (E : gE) (f0 : Nat → va_E) (sz : Nat) (QA : Nat → Prop) (N B gr : Nat) (C0 : CfT) (hz : CfZ E N B gr) : ∀ (A : MS) (D : CfT) (x1 : Int32) (x3 : Int32) (x4 : Int32) (r : FR Unit) (hr : d_X4_addName_50_55 N B gr A D x1 x3 x4 = some r) (f : Nat → va_E) (C : CfT) (h : CfV E f N B gr C) (hD : Dq D C) (hA : AR N B gr A C) (hf : Fr CfK f0 f), G E (12, yX4_addName, 8, none, sz, QA) cX4_addName (gO E (12, yX4_addName, 8, none, sz, QA) (FQ E N B gr f0 (fun _ => none) r)) 55 [(0, .ref (gAd E (40))), (1, .int (x1)), (2, .ref (gAd E (50))), (3, .int (x3)), (4, .int (x4))] [] f := by
  obtain ⟨z1, z2, z3, z4, z5, z6, z7⟩ := id hz
  intro A D x1 x3 x4 r hr f C h hD hA hf
  unfold d_X4_addName_50_55 at hr
  refine G.go tv_X4_addName 1 56 [(0, .ref (gAd E (40))), (1, .int (x1)), (2, .ref (gAd E (50))), (3, .int (x3)), (4, .int (x4))] [.ref (gAd E (50))] rfl ?_
  refine G.getf cls_X8 (50) 2 (by omega) (h.q50) (by decide) rfl (tbd tv_X4_addName rfl) w_197 ?_
  refine G.eq1 (b := cS D 5002) (hD.1 5002 (by decide)) ?_
  refine G.go tv_X4_addName 6 67 [(0, .ref (gAd E (40))), (1, .int (x1)), (2, .ref (gAd E (50))), (3, .int (x3)), (4, .int (x4)), (5, .int ((cS D 5002) - ((1 : Int32))))] [.int (x4), .int (x1), .ref (gAd E (40))] rfl ?_
  obtain ⟨t68, A68, D68, hv68, hr⟩ := bnd3_s hr
  refine G.callV (40) [.int (x1), .int (x4)] [] (k_X4_ownRowOf E _ N B gr C D A hz h hD hA x1 x4 t68 A68 D68 hv68) cls_X4 (by omega) (h.q40) cw_X4_102 w_1460 w_34 (Nat.le_of_ble_eq_true rfl) rfl (Nat.le_of_ble_eq_true rfl) (tbd tv_X4_addName rfl) (fun v68w f68 q68 => ?_) (fun _ _ h => h.elim)
  obtain ⟨rfl, C68, ha68, hD68, hA68, fa68⟩ := q68
  refine G.eqs [.ref (gAd E (350 + N + t68))] rfl ?_
  refine G.go tv_X4_addName 2 74 [(0, .ref (gAd E (40))), (1, .int (x1)), (2, .ref (gAd E (50))), (3, .int (x3)), (4, .int (x4)), (5, .int ((cS D 5002) - ((1 : Int32)))), (6, .ref (gAd E (350 + N + t68)))] [.int (x4)] rfl ?_
  obtain ⟨v69, hv69, hr⟩ := bnd_s hr
  refine G.callS [.int (x4)] [] (k_X4_startOf E _ N B gr C68 D68 A68 hz ha68 hD68 hA68 x4 v69 hv69) cw_X4_46 w_1372 (Nat.le_of_ble_eq_true rfl) rfl (Nat.le_of_ble_eq_true rfl) (tbd tv_X4_addName rfl) (fun v69w f69 q69 => ?_) (fun _ _ h => h.elim)
  obtain ⟨rfl, ha69, fa69⟩ := q69
  refine G.eqs [.int (v69)] rfl ?_
  refine G.go tv_X4_addName 4 84 [(0, .ref (gAd E (40))), (1, .int (x1)), (2, .ref (gAd E (50))), (3, .int (x3)), (4, .int (x4)), (5, .int ((cS D 5002) - ((1 : Int32)))), (6, .ref (gAd E (350 + N + t68))), (7, .int (v69))] [.int (x3), .int (v69), .ref (gAd E (350 + N + t68))] rfl ?_
  obtain ⟨A70, hv70, hr⟩ := bnd_s hr
  refine G.callS [.ref (gAd E (350 + N + t68)), .int (v69), .int (x3)] [] (k_s2O E _ N B gr C68 D68 A68 hz ha69 hD68 hA68 t68 v69 x3 _ hv70) cw_X4_105 w_787 (Nat.le_of_ble_eq_true rfl) rfl (Nat.le_of_ble_eq_true rfl) (tbd tv_X4_addName rfl) (fun v70w f70 q70 => ?_) (fun _ _ h => h.elim)
  obtain ⟨rfl, C70, ha70, hD70, hA70, fa70⟩ := q70
  refine G.eqs [] rfl ?_
  refine G.go tv_X4_addName 5 94 [(0, .ref (gAd E (40))), (1, .int (x1)), (2, .ref (gAd E (50))), (3, .int (x3)), (4, .int (x4)), (5, .int ((cS D 5002) - ((1 : Int32)))), (6, .ref (gAd E (350 + N + t68))), (7, .int (v69))] [.ref (gAd E (50)), .int ((v69) + ((2 : Int32))), .ref (gAd E (350 + N + t68))] rfl ?_
  refine G.getf cls_X8 (50) 1 (by omega) (ha70.q50) (by decide) rfl (tbd tv_X4_addName rfl) w_195 ?_
  refine G.go tv_X4_addName 1 99 [(0, .ref (gAd E (40))), (1, .int (x1)), (2, .ref (gAd E (50))), (3, .int (x3)), (4, .int (x4)), (5, .int ((cS D 5002) - ((1 : Int32)))), (6, .ref (gAd E (350 + N + t68))), (7, .int (v69))] [.int ((cS D 5002) - ((1 : Int32))), .ref (gAd E (52)), .int ((v69) + ((2 : Int32))), .ref (gAd E (350 + N + t68))] rfl ?_
  obtain ⟨v71, b71, e71, hr⟩ := ld_s hr
  refine G.ialdE (52) (by omega) ((ha70.q52).trans (congrArg (oI (gDA E) (16)) (hD70.2 52 (by decide)))) b71 e71 (tbd tv_X4_addName rfl) ?_
  refine G.go tv_X4_addName 1 101 [(0, .ref (gAd E (40))), (1, .int (x1)), (2, .ref (gAd E (50))), (3, .int (x3)), (4, .int (x4)), (5, .int ((cS D 5002) - ((1 : Int32)))), (6, .ref (gAd E (350 + N + t68))), (7, .int (v69))] [.int ((v71 : Int32).toInt8.toInt32), .int ((v69) + ((2 : Int32))), .ref (gAd E (350 + N + t68))] rfl ?_
  obtain ⟨A72, hv72, hr⟩ := bnd_s hr
  refine G.owst hz ha70 hD70 hA70 (((hf.tr fa68 (fun _ h => h)).tr fa69 (fun _ h => h)).tr fa70 (fun _ h => h)) hv72 (tbd tv_X4_addName rfl) (fun u72 p72 => ?_)
  obtain ⟨C72, h72, hD72, hA72, k72⟩ := p72
  refine G.go tv_X4_addName 1 103 [(0, .ref (gAd E (40))), (1, .int (x1)), (2, .ref (gAd E (50))), (3, .int (x3)), (4, .int (x4)), (5, .int ((cS D 5002) - ((1 : Int32)))), (6, .ref (gAd E (350 + N + t68))), (7, .int (v69))] [.ref (gAd E (40))] rfl ?_
  refine G.getf cls_X4 (40) 2 (by omega) (h72.q40) (by decide) rfl (tbd tv_X4_addName rfl) w_511 ?_
  refine G.go tv_X4_addName 1 107 [(0, .ref (gAd E (40))), (1, .int (x1)), (2, .ref (gAd E (50))), (3, .int (x3)), (4, .int (x4)), (5, .int ((cS D 5002) - ((1 : Int32)))), (6, .ref (gAd E (350 + N + t68))), (7, .int (v69))] [.ref (gAd E (50)), .ref (gAd E (1))] rfl ?_
  refine G.getf cls_X8 (50) 0 (by omega) (h72.q50) (by decide) rfl (tbd tv_X4_addName rfl) w_193 ?_
  refine G.go tv_X4_addName 1 112 [(0, .ref (gAd E (40))), (1, .int (x1)), (2, .ref (gAd E (50))), (3, .int (x3)), (4, .int (x4)), (5, .int ((cS D 5002) - ((1 : Int32)))), (6, .ref (gAd E (350 + N + t68))), (7, .int (v69))] [.int ((cS D 5002) - ((1 : Int32))), .ref (gAd E (51)), .ref (gAd E (1))] rfl ?_
  obtain ⟨v73, b73, e73, hr⟩ := ld_s hr
  refine G.ialdE (51) (by omega) ((h72.q51).trans (congrArg (oI (gDA E) (16)) (hD72.2 51 (by decide)))) b73 e73 (tbd tv_X4_addName rfl) ?_
  refine G.go tv_X4_addName 5 120 [(0, .ref (gAd E (40))), (1, .int (x1)), (2, .ref (gAd E (50))), (3, .int (x3)), (4, .int (x4)), (5, .int ((cS D 5002) - ((1 : Int32)))), (6, .ref (gAd E (350 + N + t68))), (7, .int (v69))] [.ref (gAd E (50)), .int ((v69) + ((3 : Int32))), .ref (gAd E (350 + N + t68)), .int (v73), .ref (gAd E (1))] rfl ?_
  refine G.getf cls_X8 (50) 1 (by omega) (h72.q50) (by decide) rfl (tbd tv_X4_addName rfl) w_195 ?_
  refine G.go tv_X4_addName 1 125 [(0, .ref (gAd E (40))), (1, .int (x1)), (2, .ref (gAd E (50))), (3, .int (x3)), (4, .int (x4)), (5, .int ((cS D 5002) - ((1 : Int32)))), (6, .ref (gAd E (350 + N + t68))), (7, .int (v69))] [.int ((cS D 5002) - ((1 : Int32))), .ref (gAd E (52)), .int ((v69) + ((3 : Int32))), .ref (gAd E (350 + N + t68)), .int (v73), .ref (gAd E (1))] rfl ?_
  obtain ⟨v74, b74, e74, hr⟩ := ld_s hr
  refine G.ialdE (52) (by omega) ((h72.q52).trans (congrArg (oI (gDA E) (16)) (hD72.2 52 (by decide)))) b74 e74 (tbd tv_X4_addName rfl) ?_
  obtain ⟨A75, hv75, hr⟩ := bnd_s hr
  refine G.cpO hz h72 hD72 hA72 k72 (by omega) ((h72.q1).trans (congrArg (oB (gDA E) (1024)) (hD72.2 1 (by decide)))) hv75 w_1464 w_755 w_754 w_167 (Nat.le_of_ble_eq_true rfl) (Nat.le_of_ble_eq_true rfl) (tbd tv_X4_addName rfl) (fun u75 p75 => ?_)
  obtain ⟨C75, h75, hD75, hA75, k75⟩ := p75
  cases hr
  exact G.vret rfl (FQ.ok rfl ⟨C75, h75, hD75, hA75, k75⟩) (tbd tv_X4_addName rfl)
set_option maxRecDepth 100000 in
set_option maxHeartbeats 4000000 in
theorem k_X4_addName_50 (E : gE) (f : Nat → va_E) (N B gr : Nat) (C D : CfT) (A : MS) (hz : CfZ E N B gr) (h : CfV E f N B gr C) (hD : Dq D C) (hA : AR N B gr A C) (a0 : Int32) (a2 : Int32) (r : FR Unit) (hr : d_X4_addName_50 N B gr A D a0 a2 = some r) : Ct E 12 yX4_addName cX4_addName 8 none [.ref (gAd E (40)), .int (a0), .ref (gAd E (50)), .int (a2)] f (FQ E N B gr f (fun _ => none) r) := by
  obtain ⟨z1, z2, z3, z4, z5, z6, z7⟩ := id hz
  refine Ct.of (by decide) (Nat.le_of_ble_eq_true rfl) (fun sz => ?_)
  refine G.eql [(0, .ref (gAd E (40))), (1, .int (a0)), (2, .ref (gAd E (50))), (3, .int (a2))] rfl ?_
  unfold d_X4_addName_50 at hr
  refine G.go tv_X4_addName 2 2 [(0, .ref (gAd E (40))), (1, .int (a0)), (2, .ref (gAd E (50))), (3, .int (a2))] [.int (a0), .ref (gAd E (40))] rfl ?_
  obtain ⟨v63, hv63, hr⟩ := bnd_s hr
  refine G.callV (40) [.int (a0)] [] (k_X4_freeSlot E _ N B gr C D A hz h hD hA a0 v63 hv63) cls_X4 (by omega) (h.q40) cw_X4_88 w_1402 w_33 (Nat.le_of_ble_eq_true rfl) rfl (Nat.le_of_ble_eq_true rfl) (tbd tv_X4_addName rfl) (fun v63w f63 q63 => ?_) (fun _ _ h => h.elim)
  obtain ⟨rfl, ha63, fa63⟩ := q63
  refine G.eqs [.int (v63)] rfl ?_
  refine G.go tv_X4_addName 3 10 [(0, .ref (gAd E (40))), (1, .int (a0)), (2, .ref (gAd E (50))), (3, .int (a2)), (4, .int (v63))] [.int ((-1 : Int32)), .int (v63)] rfl ?_
  refine G.cmp_ne 55 (tbd tv_X4_addName rfl) (by decide) (fun c10 => ?_) (fun c10 => ?_)
  · replace hr := ite_f c10 hr
    refine G.less [(0, .ref (gAd E (40))), (1, .int (a0)), (2, .ref (gAd E (50))), (3, .int (a2)), (4, .int (v63))] [0, 1, 2, 3, 4] rfl ?_
    exact l_X4_addName_50_55 E f sz _ N B gr C hz _ _ _ _ _ _ hr _ _ ha63 hD hA (Fr.rf.tr fa63 (fun _ h => h))
  · replace hr := ite_t c10 hr
    refine G.go tv_X4_addName 2 15 [(0, .ref (gAd E (40))), (1, .int (a0)), (2, .ref (gAd E (50))), (3, .int (a2)), (4, .int (v63))] [.int (a0), .ref (gAd E (40))] rfl ?_
    obtain ⟨v64, hv64, hr⟩ := bnd_s hr
    refine G.callV (40) [.int (a0)] [] (k_X4_slots E _ N B gr C D A hz ha63 hD hA a0 v64 hv64) cls_X4 (by omega) (ha63.q40) cw_X4_62 w_1365 w_1366 (Nat.le_of_ble_eq_true rfl) rfl (Nat.le_of_ble_eq_true rfl) (tbd tv_X4_addName rfl) (fun v64w f64 q64 => ?_) (fun _ _ h => h.elim)
    obtain ⟨rfl, ha64, fa64⟩ := q64
    refine G.eqs [.int (v64)] rfl ?_
    refine G.go tv_X4_addName 2 21 [(0, .ref (gAd E (40))), (1, .int (a0)), (2, .ref (gAd E (50))), (3, .int (a2)), (4, .int (v64))] [.ref (gAd E (40))] rfl ?_
    refine G.getf cls_X4 (40) 1 (by omega) (ha64.q40) (by decide) rfl (tbd tv_X4_addName rfl) w_510 ?_
    refine G.go tv_X4_addName 3 29 [(0, .ref (gAd E (40))), (1, .int (a0)), (2, .ref (gAd E (50))), (3, .int (a2)), (4, .int (v64))] [.int ((8 : Int32)), .int (v64), .int (a0), .ref (gAd E (37))] rfl ?_
    refine G.idiv (by decide) (tbd tv_X4_addName rfl) ?_
    refine G.go tv_X4_addName 1 31 [(0, .ref (gAd E (40))), (1, .int (a0)), (2, .ref (gAd E (50))), (3, .int (a2)), (4, .int (v64))] [.int ((1 : Int32)), .int ((v64) / ((8 : Int32))), .int (a0), .ref (gAd E (37))] rfl ?_
    rcases bndF_s hr with ⟨v65, A65, D65, hv65, hr⟩ | ⟨ex65, A65, D65, hv65, rfl⟩
    rotate_left
    · skip
      refine G.callV (37) [.int (a0), .int ((v64) / ((8 : Int32))), .int ((1 : Int32))] [] (k_X7_have E _ N B gr C D A hz ha64 hD hA a0 ((v64) / ((8 : Int32))) ((1 : Int32)) _ hv65) cls_X7 (by omega) (ha64.q37) cw_X4_94 w_1440 w_1441 (Nat.le_of_ble_eq_true rfl) rfl (Nat.le_of_ble_eq_true rfl) (tbd tv_X4_addName rfl) (fun v65w f65 q65 => ?_) (fun X g q => FQ.fr q ((Fr.rf.tr fa63 (fun _ h => h)).tr fa64 (fun _ h => h)))
      exact q65.elim
    refine G.callV (37) [.int (a0), .int ((v64) / ((8 : Int32))), .int ((1 : Int32))] [] (k_X7_have E _ N B gr C D A hz ha64 hD hA a0 ((v64) / ((8 : Int32))) ((1 : Int32)) _ hv65) cls_X7 (by omega) (ha64.q37) cw_X4_94 w_1440 w_1441 (Nat.le_of_ble_eq_true rfl) rfl (Nat.le_of_ble_eq_true rfl) (tbd tv_X4_addName rfl) (fun v65w f65 q65 => ?_) (fun _ _ h => h.elim)
    obtain ⟨rfl, C65, ha65, hD65, hA65, fa65⟩ := q65
    refine G.eqs [.int (v65)] rfl ?_
    refine G.go tv_X4_addName 2 36 [(0, .ref (gAd E (40))), (1, .int (a0)), (2, .ref (gAd E (50))), (3, .int (a2)), (4, .int (v64))] [.ref (gAd E (40))] rfl ?_
    refine G.getf cls_X4 (40) 1 (by omega) (ha65.q40) (by decide) rfl (tbd tv_X4_addName rfl) w_510 ?_
    refine G.go tv_X4_addName 2 41 [(0, .ref (gAd E (40))), (1, .int (a0)), (2, .ref (gAd E (50))), (3, .int (a2)), (4, .int (v64))] [.ref (gAd E (40)), .int (a0), .ref (gAd E (37))] rfl ?_
    refine G.getf cls_X4 (40) 1 (by omega) (ha65.q40) (by decide) rfl (tbd tv_X4_addName rfl) w_510 ?_
    refine G.go tv_X4_addName 1 45 [(0, .ref (gAd E (40))), (1, .int (a0)), (2, .ref (gAd E (50))), (3, .int (a2)), (4, .int (v64))] [.int (a0), .ref (gAd E (37)), .int (a0), .ref (gAd E (37))] rfl ?_
    obtain ⟨v66, hv66, hr⟩ := bnd_s hr
    refine G.callV (37) [.int (a0)] [.int (a0), .ref (gAd E (37))] (k_X7_size E _ N B gr C65 D65 A65 hz ha65 hD65 hA65 a0 v66 hv66) cls_X7 (by omega) (ha65.q37) cw_X4_23 w_941 w_942 (Nat.le_of_ble_eq_true rfl) rfl (Nat.le_of_ble_eq_true rfl) (tbd tv_X4_addName rfl) (fun v66w f66 q66 => ?_) (fun _ _ h => h.elim)
    obtain ⟨rfl, ha66, fa66⟩ := q66
    refine G.eqs [.int (v66), .int (a0), .ref (gAd E (37))] rfl ?_
    refine G.go tv_X4_addName 2 52 [(0, .ref (gAd E (40))), (1, .int (a0)), (2, .ref (gAd E (50))), (3, .int (a2)), (4, .int (v64))] [.int ((v66) + ((128 : Int32))), .int (a0), .ref (gAd E (37))] rfl ?_
    obtain ⟨A67, D67, hv67, hr⟩ := bnd2_s hr
    refine G.callV (37) [.int (a0), .int ((v66) + ((128 : Int32)))] [] (k_X7_setSize E _ N B gr C65 D65 A65 hz ha66 hD65 hA65 a0 ((v66) + ((128 : Int32))) A67 D67 hv67) cls_X7 (by omega) (ha66.q37) cw_X4_98 w_1454 w_1455 (Nat.le_of_ble_eq_true rfl) rfl (Nat.le_of_ble_eq_true rfl) (tbd tv_X4_addName rfl) (fun v67w f67 q67 => ?_) (fun _ _ h => h.elim)
    obtain ⟨rfl, C67, ha67, hD67, hA67, fa67⟩ := q67
    refine G.eqs [] rfl ?_
    refine G.less [(0, .ref (gAd E (40))), (1, .int (a0)), (2, .ref (gAd E (50))), (3, .int (a2)), (4, .int (v64))] [0, 1, 2, 3, 4] rfl ?_
    exact l_X4_addName_50_55 E f sz _ N B gr C hz _ _ _ _ _ _ hr _ _ ha67 hD67 hA67 (((((Fr.rf.tr fa63 (fun _ h => h)).tr fa64 (fun _ h => h)).tr fa65 (fun _ h => h)).tr fa66 (fun _ h => h)).tr fa67 (fun _ h => h))
def tb_X3_blank : List (Nat × Instr × Nat) := [(0, .iload_n 2, 1), (1, .sipush 128, 3), (4, .idiv, 1), (5, .istore 4, 2), (7, .iload_n 2, 1), (8, .iload_n 3, 1), (9, .if_icmp .ge 17, 3), (12, .aload_n 0, 1), (13, .getfield 23, 3), (16, .iload_n 1, 1), (17, .iload 4, 2), (19, .iconst 0, 1), (20, .invokevirtual 45, 3), (23, .goto 4, 3), (26, .iconst 0, 1), (27, .istore 5, 2), (29, .iload 5, 2), (31, .ifCond .eq 53, 3), (34, .aload_n 0, 1), (35, .iload 5, 2), (37, .iconst 0, 1), (38, .invokevirtual 48, 3), (41, .aload_n 0, 1), (42, .getfield 9, 3), (45, .iload_n 2, 1), (46, .iload 4, 2), (48, .sipush 128, 3), (51, .imul, 1), (52, .isub, 1), (53, .sipush 128, 3), (56, .iload_n 3, 1), (57, .iload 4, 2), (59, .sipush 128, 3), (62, .imul, 1), (63, .isub, 1), (64, .invokestatic 58, 3), (67, .iconst 0, 1), (68, .invokestatic 92, 3), (71, .aload_n 0, 1), (72, .getfield 19, 3), (75, .iload 5, 2), (77, .aload_n 0, 1), (78, .getfield 9, 3), (81, .invokevirtual 67, 3), (84, .return_, 1)]
theorem tv_X3_blank : Tv cX3_blank tb_X3_blank := by
  unfold Tv
  decide +kernel
theorem w_1571 : Cond.methodLink "LedgerFiles$Files" 48 yX3_load ∈ TB := tp_6 225 (by decide +kernel) rfl
theorem w_1574 : Cond.code yX3_load prog_5_method_3_code 3 none ∈ TB := tp_6 228 rfl rfl
theorem cw_X3_48 : Cw RX3 48 yX3_load cX3_load 3 none 2 := ⟨w_1571, w_1574, w_159, by decide +kernel, by decide +kernel, by decide⟩
theorem w_1573 : Cond.instanceMethod yX3_load ∈ TB := tp_6 227 (by decide +kernel) rfl
theorem w_39 : Cond.selects "LedgerFiles$Files" yX3_load yX3_load ∈ TB := tp_0 39 (by decide +kernel) rfl
theorem w_1579 : Cond.methodLink "LedgerFiles$Files" 92 yJ7_fill_eb02e ∈ TB := tp_6 233 (by decide +kernel) rfl
theorem cw_X3_92 : Cw RX3 92 yJ7_fill_eb02e cJ7_fill_eb02e 5 none 4 := ⟨w_1579, w_1006, w_151, by decide +kernel, by decide +kernel, by decide⟩
theorem w_1581 : Cond.methodLink "LedgerFiles$Files" 67 yX10_writeDirectly ∈ TB := tp_6 235 (by decide +kernel) rfl
theorem w_1584 : Cond.code yX10_writeDirectly prog_12_method_13_code 3 none ∈ TB := tp_6 238 rfl rfl
theorem cw_X3_67 : Cw RX3 67 yX10_writeDirectly cX10_writeDirectly 3 none 2 := ⟨w_1581, w_1584, w_155, by decide +kernel, by decide +kernel, by decide⟩
theorem w_1582 : Cond.instanceMethod yX10_writeDirectly ∈ TB := tp_6 236 (by decide +kernel) rfl
theorem w_1583 : Cond.selects "LedgerFiles$View" yX10_writeDirectly yX10_writeDirectly ∈ TB := tp_6 237 (by decide +kernel) rfl
noncomputable def d_X3_blank_29 (N B gr : Nat) (A : MS) (D : CfT) (x2 : Int32) (x3 : Int32) (x4 : Int32) (x5 : Int32) : Option (FR Unit) := if x5 = 0 then some (.inl ((), A, D)) else bnd (d_X3_load N (vA A) D x5 ((0 : Int32))) (fun D77 => nm (if ((x3) - ((x4) * ((128 : Int32)))) < ((128 : Int32)) then ((x3) - ((x4) * ((128 : Int32)))) else ((128 : Int32))) (fun v78 => frD D77 42 128 ((x2) - ((x4) * ((128 : Int32)))) v78 (vp_nar .byte ((0 : Int32))) (fun D79 => bndF (d_X10_writeDirectly N B gr A D79 x5) (fun v80 A80 D80 => some (.inl ((), A80, D80))))))
noncomputable def d_X3_blank (N B gr : Nat) (A : MS) (D : CfT) (a0 : Int32) (a1 : Int32) (a2 : Int32) : Option (FR Unit) := if a2 ≤ a1 then d_X3_blank_29 N B gr A D a1 a2 ((a1) / ((128 : Int32))) ((0 : Int32)) else bnd (d_X7_reach N (vA A) D a0 ((a1) / ((128 : Int32))) ((0 : Int32))) (fun v76 => d_X3_blank_29 N B gr A D a1 a2 ((a1) / ((128 : Int32))) v76)
set_option maxRecDepth 100000 in
set_option maxHeartbeats 4000000 in
theorem l_X3_blank_29 (E : gE) (f0 : Nat → va_E) (sz : Nat) (QA : Nat → Prop) (N B gr : Nat) (C0 : CfT) (hz : CfZ E N B gr) : ∀ (A : MS) (D : CfT) (x2 : Int32) (x3 : Int32) (x4 : Int32) (x5 : Int32) (r : FR Unit) (hr : d_X3_blank_29 N B gr A D x2 x3 x4 x5 = some r) (f : Nat → va_E) (C : CfT) (h : CfV E f N B gr C) (hD : Dq D C) (hA : AR N B gr A C) (hf : Fr CfK f0 f), G E (12, yX3_blank, 6, none, sz, QA) cX3_blank (gO E (12, yX3_blank, 6, none, sz, QA) (FQ E N B gr f0 (fun _ => none) r)) 29 [(0, .ref (gAd E (41))), (2, .int (x2)), (3, .int (x3)), (4, .int (x4)), (5, .int (x5))] [] f := by
  obtain ⟨z1, z2, z3, z4, z5, z6, z7⟩ := id hz
  intro A D x2 x3 x4 x5 r hr f C h hD hA hf
  unfold d_X3_blank_29 at hr
  refine G.go tv_X3_blank 1 31 [(0, .ref (gAd E (41))), (2, .int (x2)), (3, .int (x3)), (4, .int (x4)), (5, .int (x5))] [.int (x5)] rfl ?_
  refine G.if_eq 84 (tbd tv_X3_blank rfl) (by decide) (fun c31 => ?_) (fun c31 => ?_)
  · replace hr := ite_t c31 hr
    cases hr
    exact G.vret rfl (FQ.ok rfl ⟨C, h, hD, hA, hf⟩) (tbd tv_X3_blank rfl)
  · replace hr := ite_f c31 hr
    refine G.go tv_X3_blank 3 38 [(0, .ref (gAd E (41))), (2, .int (x2)), (3, .int (x3)), (4, .int (x4)), (5, .int (x5))] [.int ((0 : Int32)), .int (x5), .ref (gAd E (41))] rfl ?_
    obtain ⟨D77, hv77, hr⟩ := bnd_s hr
    refine G.callV (41) [.int (x5), .int ((0 : Int32))] [] (k_X3_load E _ N B gr C D A hz h hD hA x5 ((0 : Int32)) D77 hv77) cls_X3 (by omega) (h.q41) cw_X3_48 w_1573 w_39 (Nat.le_of_ble_eq_true rfl) rfl (Nat.le_of_ble_eq_true rfl) (tbd tv_X3_blank rfl) (fun v77w f77 q77 => ?_) (fun _ _ h => h.elim)
    obtain ⟨rfl, C77, ha77, hD77, hA77, hR77, fa77⟩ := q77
    refine G.eqs [] rfl ?_
    refine G.go tv_X3_blank 1 42 [(0, .ref (gAd E (41))), (2, .int (x2)), (3, .int (x3)), (4, .int (x4)), (5, .int (x5))] [.ref (gAd E (41))] rfl ?_
    refine G.getf cls_X3 (41) 2 (by omega) (ha77.q41) (by decide) rfl (tbd tv_X3_blank rfl) w_527 ?_
    refine G.go tv_X3_blank 11 64 [(0, .ref (gAd E (41))), (2, .int (x2)), (3, .int (x3)), (4, .int (x4)), (5, .int (x5))] [.int ((x3) - ((x4) * ((128 : Int32)))), .int ((128 : Int32)), .int ((x2) - ((x4) * ((128 : Int32)))), .ref (gAd E (42))] rfl ?_
    refine G.mmin w_1578 w_214 w_150 w_215 (Nat.le_of_ble_eq_true rfl) (Nat.le_of_ble_eq_true rfl) (by show _ ≤ _; first | exact Nat.zero_le _ | exact Nat.le_of_ble_eq_true rfl) (by show _ ≤ _; first | exact Nat.zero_le _ | exact Nat.le_of_ble_eq_true rfl) (tbd tv_X3_blank rfl) ?_
    obtain ⟨v78, e78, hr⟩ := nm_s hr
    refine G.eq1 (b := v78) e78 ?_
    refine G.go tv_X3_blank 1 68 [(0, .ref (gAd E (41))), (2, .int (x2)), (3, .int (x3)), (4, .int (x4)), (5, .int (x5))] [.int ((0 : Int32)), .int (v78), .int ((x2) - ((x4) * ((128 : Int32)))), .ref (gAd E (42))] rfl ?_
    obtain ⟨D79, ia79, iz79, il79, in79, eD79, hr⟩ := frD_s hr
    refine G.eqs [.int ((0 : Int32)), .int (nI v78.toNatClampNeg), .int (nI ((x2) - ((x4) * ((128 : Int32)))).toNatClampNeg), .ref (gAd E (42))] (by rw [← ia79, ← iz79]) ?_
    refine G.callS [.ref (gAd E (42)), .int (nI ((x2) - ((x4) * ((128 : Int32)))).toNatClampNeg), .int (nI v78.toNatClampNeg), .int ((0 : Int32))] [] (c_J7_fill_eb02e E _ 42 128 _ _ _ ((0 : Int32)) (by omega) (ha77.q42) (by omega) il79 in79) cw_X3_92 w_1005 (Nat.le_of_ble_eq_true rfl) rfl (Nat.le_of_ble_eq_true rfl) (tbd tv_X3_blank rfl) (fun v79w f79 q79 => ?_) (fun _ _ h => h.elim)
    obtain ⟨rfl, rfl⟩ := q79
    refine G.eqs [] rfl ?_
    refine G.gen (P := SN E N B gr f0 A D79) ⟨sA C77 42 (flt (cA C77 42) ((x2) - ((x4) * ((128 : Int32)))).toNatClampNeg v78.toNatClampNeg (vp_nar .byte ((0 : Int32)))), ha77.p42 _, (by rw [eD79]; exact hD77.aF (fun g => flt g ((x2) - ((x4) * ((128 : Int32)))).toNatClampNeg v78.toNatClampNeg (vp_nar .byte ((0 : Int32)))) (by decide)), hA77.sm (Sd.a (by decide) : Sd C77 (sA C77 42 (flt (cA C77 42) ((x2) - ((x4) * ((128 : Int32)))).toNatClampNeg v78.toNatClampNeg (vp_nar .byte ((0 : Int32)))))), Fr.c (hf.tr fa77 (fun _ h => h)) (by first | exact Or.inl (by decide) | exact Or.inr (by omega))⟩ (fun u79 p79 => ?_)
    obtain ⟨C79, h79, hD79, hA79, k79⟩ := p79
    refine G.go tv_X3_blank 1 72 [(0, .ref (gAd E (41))), (2, .int (x2)), (3, .int (x3)), (4, .int (x4)), (5, .int (x5))] [.ref (gAd E (41))] rfl ?_
    refine G.getf cls_X3 (41) 0 (by omega) (h79.q41) (by decide) rfl (tbd tv_X3_blank rfl) w_525 ?_
    refine G.go tv_X3_blank 2 78 [(0, .ref (gAd E (41))), (2, .int (x2)), (3, .int (x3)), (4, .int (x4)), (5, .int (x5))] [.ref (gAd E (41)), .int (x5), .ref (gAd E (25))] rfl ?_
    refine G.getf cls_X3 (41) 2 (by omega) (h79.q41) (by decide) rfl (tbd tv_X3_blank rfl) w_527 ?_
    rcases bndF_s hr with ⟨v80, A80, D80, hv80, hr⟩ | ⟨ex80, A80, D80, hv80, rfl⟩
    rotate_left
    · skip
      refine G.callV (25) [.int (x5), .ref (gAd E (42))] [] (k_X10_writeDirectly E _ N B gr C79 D79 A hz h79 hD79 hA79 x5 _ hv80) cls_X10 (by omega) (h79.q25) cw_X3_67 w_1582 w_1583 (Nat.le_of_ble_eq_true rfl) rfl (Nat.le_of_ble_eq_true rfl) (tbd tv_X3_blank rfl) (fun v80w f80 q80 => ?_) (fun X g q => FQ.fr q k79)
      exact q80.elim
    refine G.callV (25) [.int (x5), .ref (gAd E (42))] [] (k_X10_writeDirectly E _ N B gr C79 D79 A hz h79 hD79 hA79 x5 _ hv80) cls_X10 (by omega) (h79.q25) cw_X3_67 w_1582 w_1583 (Nat.le_of_ble_eq_true rfl) rfl (Nat.le_of_ble_eq_true rfl) (tbd tv_X3_blank rfl) (fun v80w f80 q80 => ?_) (fun _ _ h => h.elim)
    obtain ⟨rfl, C80, ha80, hD80, hA80, fa80⟩ := q80
    refine G.eqs [] rfl ?_
    cases hr
    exact G.vret rfl (FQ.ok rfl ⟨C80, ha80, hD80, hA80, (k79.tr fa80 (fun _ h => h))⟩) (tbd tv_X3_blank rfl)
set_option maxRecDepth 100000 in
set_option maxHeartbeats 4000000 in
theorem k_X3_blank (E : gE) (f : Nat → va_E) (N B gr : Nat) (C D : CfT) (A : MS) (hz : CfZ E N B gr) (h : CfV E f N B gr C) (hD : Dq D C) (hA : AR N B gr A C) (a0 : Int32) (a1 : Int32) (a2 : Int32) (r : FR Unit) (hr : d_X3_blank N B gr A D a0 a1 a2 = some r) : Ct E 12 yX3_blank cX3_blank 6 none [.ref (gAd E (41)), .int (a0), .int (a1), .int (a2)] f (FQ E N B gr f (fun _ => none) r) := by
  obtain ⟨z1, z2, z3, z4, z5, z6, z7⟩ := id hz
  refine Ct.of (by decide) (Nat.le_of_ble_eq_true rfl) (fun sz => ?_)
  refine G.eql [(0, .ref (gAd E (41))), (1, .int (a0)), (2, .int (a1)), (3, .int (a2))] rfl ?_
  unfold d_X3_blank at hr
  refine G.go tv_X3_blank 2 4 [(0, .ref (gAd E (41))), (1, .int (a0)), (2, .int (a1)), (3, .int (a2))] [.int ((128 : Int32)), .int (a1)] rfl ?_
  refine G.idiv (by decide) (tbd tv_X3_blank rfl) ?_
  refine G.go tv_X3_blank 3 9 [(0, .ref (gAd E (41))), (1, .int (a0)), (2, .int (a1)), (3, .int (a2)), (4, .int ((a1) / ((128 : Int32))))] [.int (a2), .int (a1)] rfl ?_
  refine G.cmp_ge 26 (tbd tv_X3_blank rfl) (by decide) (fun c9 => ?_) (fun c9 => ?_)
  · replace hr := ite_t c9 hr
    refine G.go tv_X3_blank 2 29 [(0, .ref (gAd E (41))), (1, .int (a0)), (2, .int (a1)), (3, .int (a2)), (4, .int ((a1) / ((128 : Int32)))), (5, .int ((0 : Int32)))] [] rfl ?_
    refine G.less [(0, .ref (gAd E (41))), (2, .int (a1)), (3, .int (a2)), (4, .int ((a1) / ((128 : Int32)))), (5, .int ((0 : Int32)))] [0, 2, 3, 4, 5] rfl ?_
    exact l_X3_blank_29 E f sz _ N B gr C hz _ _ _ _ _ _ _ hr _ _ h hD hA Fr.rf
  · replace hr := ite_f c9 hr
    refine G.go tv_X3_blank 1 13 [(0, .ref (gAd E (41))), (1, .int (a0)), (2, .int (a1)), (3, .int (a2)), (4, .int ((a1) / ((128 : Int32))))] [.ref (gAd E (41))] rfl ?_
    refine G.getf cls_X3 (41) 1 (by omega) (h.q41) (by decide) rfl (tbd tv_X3_blank rfl) w_526 ?_
    refine G.go tv_X3_blank 3 20 [(0, .ref (gAd E (41))), (1, .int (a0)), (2, .int (a1)), (3, .int (a2)), (4, .int ((a1) / ((128 : Int32))))] [.int ((0 : Int32)), .int ((a1) / ((128 : Int32))), .int (a0), .ref (gAd E (37))] rfl ?_
    obtain ⟨v76, hv76, hr⟩ := bnd_s hr
    refine G.callV (37) [.int (a0), .int ((a1) / ((128 : Int32))), .int ((0 : Int32))] [] (k_X7_reach E _ N B gr C D A hz h hD hA a0 ((a1) / ((128 : Int32))) ((0 : Int32)) v76 hv76) cls_X7 (by omega) (h.q37) cw_X3_45 w_954 w_955 (Nat.le_of_ble_eq_true rfl) rfl (Nat.le_of_ble_eq_true rfl) (tbd tv_X3_blank rfl) (fun v76w f76 q76 => ?_) (fun _ _ h => h.elim)
    obtain ⟨rfl, ha76, fa76⟩ := q76
    refine G.eqs [.int (v76)] rfl ?_
    refine G.go tv_X3_blank 2 29 [(0, .ref (gAd E (41))), (1, .int (a0)), (2, .int (a1)), (3, .int (a2)), (4, .int ((a1) / ((128 : Int32)))), (5, .int (v76))] [] rfl ?_
    refine G.less [(0, .ref (gAd E (41))), (2, .int (a1)), (3, .int (a2)), (4, .int ((a1) / ((128 : Int32)))), (5, .int (v76))] [0, 2, 3, 4, 5] rfl ?_
    exact l_X3_blank_29 E f sz _ N B gr C hz _ _ _ _ _ _ _ hr _ _ ha76 hD hA (Fr.rf.tr fa76 (fun _ h => h))
