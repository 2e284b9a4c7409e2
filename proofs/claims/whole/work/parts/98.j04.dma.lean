def tb_X10_seize : List (Nat × Instr × Nat) := [(0, .aload_n 0, 1), (1, .iload_n 1, 1), (2, .invokevirtual 94, 3), (5, .ifCond .ne 4, 3), (8, .return_, 1), (9, .aload_n 0, 1), (10, .bipush 43, 2), (12, .invokevirtual 130, 3), (15, .iload_n 1, 1), (16, .bipush 8, 2), (18, .idiv, 1), (19, .dup2, 1), (20, .baload, 1), (21, .iconst 1, 1), (22, .iload_n 1, 1), (23, .bipush 8, 2), (25, .irem, 1), (26, .ishl, 1), (27, .i2b, 1), (28, .ior, 1), (29, .i2b, 1), (30, .bastore, 1), (31, .iload_n 2, 1), (32, .ifCond .eq 19, 3), (35, .aload_n 0, 1), (36, .iload_n 1, 1), (37, .invokevirtual 130, 3), (40, .iconst 0, 1), (41, .invokestatic 133, 3), (44, .aload_n 0, 1), (45, .getfield 49, 3), (48, .iload_n 1, 1), (49, .iconst 1, 1), (50, .bastore, 1), (51, .return_, 1)]
theorem tv_X10_seize : Tv cX10_seize tb_X10_seize := by
  unfold Tv
  decide +kernel
theorem w_974 : Cond.methodLink "LedgerFiles$View" 130 yX10_own ∈ TB := tp_4 108 (by decide +kernel) rfl
theorem w_977 : Cond.code yX10_own prog_12_method_6_code 2 (some (.array .byte)) ∈ TB := tp_4 111 rfl rfl
theorem cw_X10_130 : Cw RX10 130 yX10_own cX10_own 2 (some (.array .byte)) 1 := ⟨w_974, w_977, w_155, by decide +kernel, by decide +kernel, by decide⟩
theorem w_975 : Cond.instanceMethod yX10_own ∈ TB := tp_4 109 (by decide +kernel) rfl
theorem w_976 : Cond.selects "LedgerFiles$View" yX10_own yX10_own ∈ TB := tp_4 110 (by decide +kernel) rfl
theorem w_1452 : Cond.methodLink "LedgerFiles$View" 133 yJ7_fill_031fb ∈ TB := tp_6 106 (by decide +kernel) rfl
theorem cw_X10_133 : Cw RX10 133 yJ7_fill_031fb cJ7_fill_031fb 4 none 2 := ⟨w_1452, w_716, w_151, by decide +kernel, by decide +kernel, by decide⟩
def d_X10_seize (N : Nat) (A : MS) (D : CfT) (a0 : Int32) (a1 : Int32) : Option (MS × CfT) := bnd (d_X10_isBlock N (vA A) D a0) (fun v1 => if v1 = 0 then some (A, D) else bnd2 (owB N A D ((43 : Int32))) (fun A3 D3 => bnd (ldO N A3 (((43 : Int32)).toNatClampNeg) ((a0) / ((8 : Int32)))) (fun v4 => bnd (stO N A3 (((43 : Int32)).toNatClampNeg) ((a0) / ((8 : Int32))) (vp_nar .byte (((v4) ||| ((((1 : Int32)) <<< (((a0) - (a0) / ((8 : Int32)) * ((8 : Int32))) &&& 31) : Int32).toInt8.toInt32) : Int32).toInt8.toInt32))) (fun A5 => if a1 = 0 then some (A5, D3) else bnd2 (owB N A5 D3 a0) (fun A7 D7 => bnd (flO N A7 a0.toNatClampNeg ((0 : Int32))) (fun A8 => bnd (tkO N A8 a0 true) (fun A9 => some (A9, D7))))))))
set_option maxRecDepth 100000 in
set_option maxHeartbeats 4000000 in
theorem k_X10_seize (E : gE) (f : Nat → va_E) (N B gr : Nat) (C D : CfT) (A : MS) (hz : CfZ E N B gr) (h : CfV E f N B gr C) (hD : Dq D C) (hA : AR N B gr A C) (a0 : Int32) (a1 : Int32) (A9 : MS) (D9 : CfT) (hr : d_X10_seize N A D a0 a1 = some (A9, D9)) : Ct E 3 yX10_seize cX10_seize 3 none [.ref (gAd E (25)), .int (a0), .int (a1)] f (fun v g => v = none ∧ SN E N B gr f A9 D9 g, fun _ _ => False) := by
  obtain ⟨z1, z2, z3, z4, z5, z6, z7⟩ := id hz
  refine Ct.of (by decide) (Nat.le_of_ble_eq_true rfl) (fun sz => ?_)
  refine G.eql [(0, .ref (gAd E (25))), (1, .int (a0)), (2, .int (a1))] rfl ?_
  unfold d_X10_seize at hr
  refine G.go tv_X10_seize 2 2 [(0, .ref (gAd E (25))), (1, .int (a0)), (2, .int (a1))] [.int (a0), .ref (gAd E (25))] rfl ?_
  obtain ⟨v1, hv1, hr⟩ := bnd_s hr
  refine G.callV (25) [.int (a0)] [] (k_X10_isBlock E _ N B gr C D A hz h hD hA a0 v1 hv1) cls_X10 (by omega) (h.q25) cw_X10_94 w_914 w_915 (Nat.le_of_ble_eq_true rfl) rfl (Nat.le_of_ble_eq_true rfl) (tbd tv_X10_seize rfl) (fun v1w f1 q1 => ?_) (fun _ _ h => h.elim)
  obtain ⟨rfl, ha1, fa1⟩ := q1
  refine G.eqs [.int (v1)] rfl ?_
  refine G.if_ne 9 (tbd tv_X10_seize rfl) (by decide) (fun c5 => ?_) (fun c5 => ?_)
  · replace hr := ite_f c5 hr
    refine G.go tv_X10_seize 2 12 [(0, .ref (gAd E (25))), (1, .int (a0)), (2, .int (a1))] [.int ((43 : Int32)), .ref (gAd E (25))] rfl ?_
    obtain ⟨A3, D3, hv3, hr⟩ := bnd2_s hr
    refine G.callV (25) [.int ((43 : Int32))] [] (k_own E _ N B gr C D A hz ha1 hD hA _ _ _ hv3) cls_X10 (by omega) (ha1.q25) cw_X10_130 w_975 w_976 (Nat.le_of_ble_eq_true rfl) rfl (Nat.le_of_ble_eq_true rfl) (tbd tv_X10_seize rfl) (fun v3w f3 q3 => ?_) (fun _ _ h => h.elim)
    obtain ⟨rfl, C3, ha3, hD3, hA3, fa3⟩ := q3
    refine G.eqs [.ref (gAd E (350 + N + (((43 : Int32)).toNatClampNeg)))] rfl ?_
    refine G.go tv_X10_seize 2 18 [(0, .ref (gAd E (25))), (1, .int (a0)), (2, .int (a1))] [.int ((8 : Int32)), .int (a0), .ref (gAd E (350 + N + (((43 : Int32)).toNatClampNeg)))] rfl ?_
    refine G.idiv (by decide) (tbd tv_X10_seize rfl) ?_
    refine G.go tv_X10_seize 1 20 [(0, .ref (gAd E (25))), (1, .int (a0)), (2, .int (a1))] [.int ((a0) / ((8 : Int32))), .ref (gAd E (350 + N + (((43 : Int32)).toNatClampNeg))), .int ((a0) / ((8 : Int32))), .ref (gAd E (350 + N + (((43 : Int32)).toNatClampNeg)))] rfl ?_
    obtain ⟨v4, hv4, hr⟩ := bnd_s hr
    refine G.owld hz ha3 hA3 hv4 (tbd tv_X10_seize rfl) ?_
    refine G.go tv_X10_seize 3 25 [(0, .ref (gAd E (25))), (1, .int (a0)), (2, .int (a1))] [.int ((8 : Int32)), .int (a0), .int ((1 : Int32)), .int (v4), .int ((a0) / ((8 : Int32))), .ref (gAd E (350 + N + (((43 : Int32)).toNatClampNeg)))] rfl ?_
    refine G.irem (by decide) (tbd tv_X10_seize rfl) ?_
    refine G.go tv_X10_seize 4 30 [(0, .ref (gAd E (25))), (1, .int (a0)), (2, .int (a1))] [.int (((v4) ||| ((((1 : Int32)) <<< (((a0) - (a0) / ((8 : Int32)) * ((8 : Int32))) &&& 31) : Int32).toInt8.toInt32) : Int32).toInt8.toInt32), .int ((a0) / ((8 : Int32))), .ref (gAd E (350 + N + (((43 : Int32)).toNatClampNeg)))] rfl ?_
    obtain ⟨A5, hv5, hr⟩ := bnd_s hr
    refine G.owst hz ha3 hD3 hA3 ((Fr.rf.tr fa1 (fun _ h => h)).tr fa3 (fun _ h => h)) hv5 (tbd tv_X10_seize rfl) (fun u5 p5 => ?_)
    obtain ⟨C5, h5, hD5, hA5, k5⟩ := p5
    refine G.go tv_X10_seize 1 32 [(0, .ref (gAd E (25))), (1, .int (a0)), (2, .int (a1))] [.int (a1)] rfl ?_
    refine G.if_eq 51 (tbd tv_X10_seize rfl) (by decide) (fun c32 => ?_) (fun c32 => ?_)
    · replace hr := ite_t c32 hr
      cases hr
      exact G.vret rfl ⟨rfl, C5, h5, hD5, hA5, k5⟩ (tbd tv_X10_seize rfl)
    · replace hr := ite_f c32 hr
      refine G.go tv_X10_seize 2 37 [(0, .ref (gAd E (25))), (1, .int (a0)), (2, .int (a1))] [.int (a0), .ref (gAd E (25))] rfl ?_
      obtain ⟨A7, D7, hv7, hr⟩ := bnd2_s hr
      refine G.callV (25) [.int (a0)] [] (k_own E _ N B gr C5 D3 A5 hz h5 hD5 hA5 _ _ _ hv7) cls_X10 (by omega) (h5.q25) cw_X10_130 w_975 w_976 (Nat.le_of_ble_eq_true rfl) rfl (Nat.le_of_ble_eq_true rfl) (tbd tv_X10_seize rfl) (fun v7w f7 q7 => ?_) (fun _ _ h => h.elim)
      obtain ⟨rfl, C7, ha7, hD7, hA7, fa7⟩ := q7
      refine G.eqs [.ref (gAd E (350 + N + a0.toNatClampNeg))] rfl ?_
      refine G.go tv_X10_seize 1 41 [(0, .ref (gAd E (25))), (1, .int (a0)), (2, .int (a1))] [.int ((0 : Int32)), .ref (gAd E (350 + N + a0.toNatClampNeg))] rfl ?_
      obtain ⟨A8, hv8, hr⟩ := bnd_s hr
      refine G.callS [.ref (gAd E (350 + N + a0.toNatClampNeg)), .int ((0 : Int32))] [] (k_flO E _ N B gr C7 D7 A7 hz ha7 hD7 hA7 a0.toNatClampNeg ((0 : Int32)) _ hv8) cw_X10_133 w_715 (Nat.le_of_ble_eq_true rfl) rfl (Nat.le_of_ble_eq_true rfl) (tbd tv_X10_seize rfl) (fun v8w f8 q8 => ?_) (fun _ _ h => h.elim)
      obtain ⟨rfl, C8, ha8, hD8, hA8, fa8⟩ := q8
      refine G.eqs [] rfl ?_
      refine G.go tv_X10_seize 1 45 [(0, .ref (gAd E (25))), (1, .int (a0)), (2, .int (a1))] [.ref (gAd E (25))] rfl ?_
      refine G.getf cls_X10 (25) 6 (by omega) (ha8.q25) (by decide) rfl (tbd tv_X10_seize rfl) w_416 ?_
      refine G.go tv_X10_seize 2 50 [(0, .ref (gAd E (25))), (1, .int (a0)), (2, .int (a1))] [.int ((1 : Int32)), .int (a0), .ref (gAd E (28))] rfl ?_
      obtain ⟨A9, hv9, hr⟩ := bnd_s hr
      refine G.tkst hz ha8 hD8 hA8 ((k5.tr fa7 (fun _ h => h)).tr fa8 (fun _ h => h)) hv9 (tbd tv_X10_seize rfl) (fun u9 p9 => ?_)
      obtain ⟨C9, h9, hD9, hA9, k9⟩ := p9
      cases hr
      exact G.vret rfl ⟨rfl, C9, h9, hD9, hA9, k9⟩ (tbd tv_X10_seize rfl)
  · replace hr := ite_t c5 hr
    cases hr
    exact G.vret rfl ⟨rfl, C, ha1, hD, hA, (Fr.rf.tr fa1 (fun _ h => h))⟩ (tbd tv_X10_seize rfl)
def tb_X10_loosen : List (Nat × Instr × Nat) := [(0, .iload_n 1, 1), (1, .bipush 61, 2), (3, .if_icmp .lt 43, 3), (6, .aload_n 0, 1), (7, .iload_n 1, 1), (8, .invokevirtual 94, 3), (11, .ifCond .eq 35, 3), (14, .aload_n 0, 1), (15, .bipush 43, 2), (17, .invokevirtual 130, 3), (20, .iload_n 1, 1), (21, .bipush 8, 2), (23, .idiv, 1), (24, .dup2, 1), (25, .baload, 1), (26, .iconst 1, 1), (27, .iload_n 1, 1), (28, .bipush 8, 2), (30, .irem, 1), (31, .ishl, 1), (32, .iconst (-1), 1), (33, .ixor, 1), (34, .i2b, 1), (35, .iand, 1), (36, .i2b, 1), (37, .bastore, 1), (38, .aload_n 0, 1), (39, .getfield 30, 3), (42, .iload_n 1, 1), (43, .invokevirtual 139, 3), (46, .return_, 1)]
theorem tv_X10_loosen : Tv cX10_loosen tb_X10_loosen := by
  unfold Tv
  decide +kernel
theorem w_979 : Cond.methodLink "LedgerFiles$View" 139 yX9_addRest ∈ TB := tp_4 113 (by decide +kernel) rfl
theorem w_982 : Cond.code yX9_addRest prog_11_method_6_code 2 none ∈ TB := tp_4 116 rfl rfl
theorem cw_X10_139 : Cw RX10 139 yX9_addRest cX9_addRest 2 none 1 := ⟨w_979, w_982, w_154, by decide +kernel, by decide +kernel, by decide⟩
theorem w_980 : Cond.instanceMethod yX9_addRest ∈ TB := tp_4 114 (by decide +kernel) rfl
theorem w_981 : Cond.selects "LedgerFiles$Queue" yX9_addRest yX9_addRest ∈ TB := tp_4 115 (by decide +kernel) rfl
def d_X10_loosen (N : Nat) (A : MS) (D : CfT) (a0 : Int32) : Option (MS × CfT) := if a0 < ((61 : Int32)) then some (A, D) else bnd (d_X10_isBlock N (vA A) D a0) (fun v10 => if v10 = 0 then some (A, D) else bnd2 (owB N A D ((43 : Int32))) (fun A12 D12 => bnd (ldO N A12 (((43 : Int32)).toNatClampNeg) ((a0) / ((8 : Int32)))) (fun v13 => bnd (stO N A12 (((43 : Int32)).toNatClampNeg) ((a0) / ((8 : Int32))) (vp_nar .byte (((v13) &&& (((((1 : Int32)) <<< (((a0) - (a0) / ((8 : Int32)) * ((8 : Int32))) &&& 31)) ^^^ ((-1 : Int32)) : Int32).toInt8.toInt32) : Int32).toInt8.toInt32))) (fun A14 => bnd (arO N A14 a0) (fun A16 => some (A16, D12))))))
set_option maxRecDepth 100000 in
set_option maxHeartbeats 4000000 in
theorem k_X10_loosen (E : gE) (f : Nat → va_E) (N B gr : Nat) (C D : CfT) (A : MS) (hz : CfZ E N B gr) (h : CfV E f N B gr C) (hD : Dq D C) (hA : AR N B gr A C) (a0 : Int32) (A9 : MS) (D9 : CfT) (hr : d_X10_loosen N A D a0 = some (A9, D9)) : Ct E 3 yX10_loosen cX10_loosen 2 none [.ref (gAd E (25)), .int (a0)] f (fun v g => v = none ∧ SN E N B gr f A9 D9 g, fun _ _ => False) := by
  obtain ⟨z1, z2, z3, z4, z5, z6, z7⟩ := id hz
  refine Ct.of (by decide) (Nat.le_of_ble_eq_true rfl) (fun sz => ?_)
  refine G.eql [(0, .ref (gAd E (25))), (1, .int (a0))] rfl ?_
  unfold d_X10_loosen at hr
  refine G.go tv_X10_loosen 2 3 [(0, .ref (gAd E (25))), (1, .int (a0))] [.int ((61 : Int32)), .int (a0)] rfl ?_
  refine G.cmp_lt 46 (tbd tv_X10_loosen rfl) (by decide) (fun c3 => ?_) (fun c3 => ?_)
  · replace hr := ite_t c3 hr
    cases hr
    exact G.vret rfl ⟨rfl, C, h, hD, hA, Fr.rf⟩ (tbd tv_X10_loosen rfl)
  · replace hr := ite_f c3 hr
    refine G.go tv_X10_loosen 2 8 [(0, .ref (gAd E (25))), (1, .int (a0))] [.int (a0), .ref (gAd E (25))] rfl ?_
    obtain ⟨v10, hv10, hr⟩ := bnd_s hr
    refine G.callV (25) [.int (a0)] [] (k_X10_isBlock E _ N B gr C D A hz h hD hA a0 v10 hv10) cls_X10 (by omega) (h.q25) cw_X10_94 w_914 w_915 (Nat.le_of_ble_eq_true rfl) rfl (Nat.le_of_ble_eq_true rfl) (tbd tv_X10_loosen rfl) (fun v10w f10 q10 => ?_) (fun _ _ h => h.elim)
    obtain ⟨rfl, ha10, fa10⟩ := q10
    refine G.eqs [.int (v10)] rfl ?_
    refine G.if_eq 46 (tbd tv_X10_loosen rfl) (by decide) (fun c11 => ?_) (fun c11 => ?_)
    · replace hr := ite_t c11 hr
      cases hr
      exact G.vret rfl ⟨rfl, C, ha10, hD, hA, (Fr.rf.tr fa10 (fun _ h => h))⟩ (tbd tv_X10_loosen rfl)
    · replace hr := ite_f c11 hr
      refine G.go tv_X10_loosen 2 17 [(0, .ref (gAd E (25))), (1, .int (a0))] [.int ((43 : Int32)), .ref (gAd E (25))] rfl ?_
      obtain ⟨A12, D12, hv12, hr⟩ := bnd2_s hr
      refine G.callV (25) [.int ((43 : Int32))] [] (k_own E _ N B gr C D A hz ha10 hD hA _ _ _ hv12) cls_X10 (by omega) (ha10.q25) cw_X10_130 w_975 w_976 (Nat.le_of_ble_eq_true rfl) rfl (Nat.le_of_ble_eq_true rfl) (tbd tv_X10_loosen rfl) (fun v12w f12 q12 => ?_) (fun _ _ h => h.elim)
      obtain ⟨rfl, C12, ha12, hD12, hA12, fa12⟩ := q12
      refine G.eqs [.ref (gAd E (350 + N + (((43 : Int32)).toNatClampNeg)))] rfl ?_
      refine G.go tv_X10_loosen 2 23 [(0, .ref (gAd E (25))), (1, .int (a0))] [.int ((8 : Int32)), .int (a0), .ref (gAd E (350 + N + (((43 : Int32)).toNatClampNeg)))] rfl ?_
      refine G.idiv (by decide) (tbd tv_X10_loosen rfl) ?_
      refine G.go tv_X10_loosen 1 25 [(0, .ref (gAd E (25))), (1, .int (a0))] [.int ((a0) / ((8 : Int32))), .ref (gAd E (350 + N + (((43 : Int32)).toNatClampNeg))), .int ((a0) / ((8 : Int32))), .ref (gAd E (350 + N + (((43 : Int32)).toNatClampNeg)))] rfl ?_
      obtain ⟨v13, hv13, hr⟩ := bnd_s hr
      refine G.owld hz ha12 hA12 hv13 (tbd tv_X10_loosen rfl) ?_
      refine G.go tv_X10_loosen 3 30 [(0, .ref (gAd E (25))), (1, .int (a0))] [.int ((8 : Int32)), .int (a0), .int ((1 : Int32)), .int (v13), .int ((a0) / ((8 : Int32))), .ref (gAd E (350 + N + (((43 : Int32)).toNatClampNeg)))] rfl ?_
      refine G.irem (by decide) (tbd tv_X10_loosen rfl) ?_
      refine G.go tv_X10_loosen 6 37 [(0, .ref (gAd E (25))), (1, .int (a0))] [.int (((v13) &&& (((((1 : Int32)) <<< (((a0) - (a0) / ((8 : Int32)) * ((8 : Int32))) &&& 31)) ^^^ ((-1 : Int32)) : Int32).toInt8.toInt32) : Int32).toInt8.toInt32), .int ((a0) / ((8 : Int32))), .ref (gAd E (350 + N + (((43 : Int32)).toNatClampNeg)))] rfl ?_
      obtain ⟨A14, hv14, hr⟩ := bnd_s hr
      refine G.owst hz ha12 hD12 hA12 ((Fr.rf.tr fa10 (fun _ h => h)).tr fa12 (fun _ h => h)) hv14 (tbd tv_X10_loosen rfl) (fun u14 p14 => ?_)
      obtain ⟨C14, h14, hD14, hA14, k14⟩ := p14
      refine G.go tv_X10_loosen 1 39 [(0, .ref (gAd E (25))), (1, .int (a0))] [.ref (gAd E (25))] rfl ?_
      refine G.getf cls_X10 (25) 3 (by omega) (h14.q25) (by decide) rfl (tbd tv_X10_loosen rfl) w_413 ?_
      refine G.go tv_X10_loosen 1 43 [(0, .ref (gAd E (25))), (1, .int (a0))] [.int (a0), .ref (gAd E (17))] rfl ?_
      obtain ⟨A16, hv16, hr⟩ := bnd_s hr
      refine G.callV (17) [.int (a0)] [] (k_arO E _ N B gr C14 D12 A14 hz h14 hD14 hA14 a0 _ hv16) cls_X9 (by omega) (h14.q17) cw_X10_139 w_980 w_981 (Nat.le_of_ble_eq_true rfl) rfl (Nat.le_of_ble_eq_true rfl) (tbd tv_X10_loosen rfl) (fun v16w f16 q16 => ?_) (fun _ _ h => h.elim)
      obtain ⟨rfl, C16, ha16, hD16, hA16, fa16⟩ := q16
      refine G.eqs [] rfl ?_
      cases hr
      exact G.vret rfl ⟨rfl, C16, ha16, hD16, hA16, (k14.tr fa16 (fun _ h => h))⟩ (tbd tv_X10_loosen rfl)
def tb_X7_setLinks : List (Nat × Instr × Nat) := [(0, .aload_n 0, 1), (1, .getfield 18, 3), (4, .iload_n 1, 1), (5, .invokestatic 30, 3), (8, .invokevirtual 52, 3), (11, .iload_n 1, 1), (12, .invokestatic 40, 3), (15, .iconst 1, 1), (16, .iadd, 1), (17, .iload_n 2, 1), (18, .i2b, 1), (19, .bastore, 1), (20, .return_, 1)]
theorem tv_X7_setLinks : Tv cX7_setLinks tb_X7_setLinks := by
  unfold Tv
  decide +kernel
theorem w_986 : Cond.methodLink "LedgerFiles$Nodes" 52 yX10_own ∈ TB := tp_4 120 (by decide +kernel) rfl
theorem cw_X7_52 : Cw RX7 52 yX10_own cX10_own 2 (some (.array .byte)) 1 := ⟨w_986, w_977, w_155, by decide +kernel, by decide +kernel, by decide⟩
def d_X7_setLinks (N : Nat) (A : MS) (D : CfT) (a0 : Int32) (a1 : Int32) : Option (MS × CfT) := bnd (d_X7_home N (vA A) D a0) (fun v17 => bnd2 (owB N A D v17) (fun A19 D19 => bnd (d_X7_start N (vA A19) D19 a0) (fun v20 => bnd (stO N A19 v17.toNatClampNeg ((v20) + ((1 : Int32))) (vp_nar .byte ((a1 : Int32).toInt8.toInt32))) (fun A21 => some (A21, D19)))))
set_option maxRecDepth 100000 in
set_option maxHeartbeats 4000000 in
theorem k_X7_setLinks (E : gE) (f : Nat → va_E) (N B gr : Nat) (C D : CfT) (A : MS) (hz : CfZ E N B gr) (h : CfV E f N B gr C) (hD : Dq D C) (hA : AR N B gr A C) (a0 : Int32) (a1 : Int32) (A9 : MS) (D9 : CfT) (hr : d_X7_setLinks N A D a0 a1 = some (A9, D9)) : Ct E 3 yX7_setLinks cX7_setLinks 3 none [.ref (gAd E (37)), .int (a0), .int (a1)] f (fun v g => v = none ∧ SN E N B gr f A9 D9 g, fun _ _ => False) := by
  obtain ⟨z1, z2, z3, z4, z5, z6, z7⟩ := id hz
  refine Ct.of (by decide) (Nat.le_of_ble_eq_true rfl) (fun sz => ?_)
  refine G.eql [(0, .ref (gAd E (37))), (1, .int (a0)), (2, .int (a1))] rfl ?_
  unfold d_X7_setLinks at hr
  refine G.go tv_X7_setLinks 1 1 [(0, .ref (gAd E (37))), (1, .int (a0)), (2, .int (a1))] [.ref (gAd E (37))] rfl ?_
  refine G.getf cls_X7 (37) 0 (by omega) (h.q37) (by decide) rfl (tbd tv_X7_setLinks rfl) w_478 ?_
  refine G.go tv_X7_setLinks 1 5 [(0, .ref (gAd E (37))), (1, .int (a0)), (2, .int (a1))] [.int (a0), .ref (gAd E (25))] rfl ?_
  obtain ⟨v17, hv17, hr⟩ := bnd_s hr
  refine G.callS [.int (a0)] [.ref (gAd E (25))] (k_X7_home E _ N B gr C D A hz h hD hA a0 v17 hv17) cw_X7_30 w_907 (Nat.le_of_ble_eq_true rfl) rfl (Nat.le_of_ble_eq_true rfl) (tbd tv_X7_setLinks rfl) (fun v17w f17 q17 => ?_) (fun _ _ h => h.elim)
  obtain ⟨rfl, ha17, fa17⟩ := q17
  refine G.eqs [.int (v17), .ref (gAd E (25))] rfl ?_
  obtain ⟨A19, D19, hv19, hr⟩ := bnd2_s hr
  refine G.callV (25) [.int (v17)] [] (k_own E _ N B gr C D A hz ha17 hD hA _ _ _ hv19) cls_X10 (by omega) (ha17.q25) cw_X7_52 w_975 w_976 (Nat.le_of_ble_eq_true rfl) rfl (Nat.le_of_ble_eq_true rfl) (tbd tv_X7_setLinks rfl) (fun v19w f19 q19 => ?_) (fun _ _ h => h.elim)
  obtain ⟨rfl, C19, ha19, hD19, hA19, fa19⟩ := q19
  refine G.eqs [.ref (gAd E (350 + N + v17.toNatClampNeg))] rfl ?_
  refine G.go tv_X7_setLinks 1 12 [(0, .ref (gAd E (37))), (1, .int (a0)), (2, .int (a1))] [.int (a0), .ref (gAd E (350 + N + v17.toNatClampNeg))] rfl ?_
  obtain ⟨v20, hv20, hr⟩ := bnd_s hr
  refine G.callS [.int (a0)] [.ref (gAd E (350 + N + v17.toNatClampNeg))] (k_X7_start E _ N B gr C19 D19 A19 hz ha19 hD19 hA19 a0 v20 hv20) cw_X7_40 w_922 (Nat.le_of_ble_eq_true rfl) rfl (Nat.le_of_ble_eq_true rfl) (tbd tv_X7_setLinks rfl) (fun v20w f20 q20 => ?_) (fun _ _ h => h.elim)
  obtain ⟨rfl, ha20, fa20⟩ := q20
  refine G.eqs [.int (v20), .ref (gAd E (350 + N + v17.toNatClampNeg))] rfl ?_
  refine G.go tv_X7_setLinks 4 19 [(0, .ref (gAd E (37))), (1, .int (a0)), (2, .int (a1))] [.int ((a1 : Int32).toInt8.toInt32), .int ((v20) + ((1 : Int32))), .ref (gAd E (350 + N + v17.toNatClampNeg))] rfl ?_
  obtain ⟨A21, hv21, hr⟩ := bnd_s hr
  refine G.owst hz ha20 hD19 hA19 (((Fr.rf.tr fa17 (fun _ h => h)).tr fa19 (fun _ h => h)).tr fa20 (fun _ h => h)) hv21 (tbd tv_X7_setLinks rfl) (fun u21 p21 => ?_)
  obtain ⟨C21, h21, hD21, hA21, k21⟩ := p21
  cases hr
  exact G.vret rfl ⟨rfl, C21, h21, hD21, hA21, k21⟩ (tbd tv_X7_setLinks rfl)
def tb_X7_setSize : List (Nat × Instr × Nat) := [(0, .aload_n 0, 1), (1, .getfield 18, 3), (4, .iload_n 1, 1), (5, .invokestatic 30, 3), (8, .invokevirtual 52, 3), (11, .iload_n 1, 1), (12, .invokestatic 40, 3), (15, .iconst 4, 1), (16, .iadd, 1), (17, .iload_n 2, 1), (18, .invokestatic 55, 3), (21, .return_, 1)]
theorem tv_X7_setSize : Tv cX7_setSize tb_X7_setSize := by
  unfold Tv
  decide +kernel
theorem w_1457 : Cond.methodLink "LedgerFiles$Nodes" 55 yX2_setFour ∈ TB := tp_6 111 (by decide +kernel) rfl
theorem cw_X7_55 : Cw RX7 55 yX2_setFour cX2_setFour 3 none 3 := ⟨w_1457, w_791, w_149, by decide +kernel, by decide +kernel, by decide⟩
def d_X7_setSize (N : Nat) (A : MS) (D : CfT) (a0 : Int32) (a1 : Int32) : Option (MS × CfT) := bnd (d_X7_home N (vA A) D a0) (fun v22 => bnd2 (owB N A D v22) (fun A24 D24 => bnd (d_X7_start N (vA A24) D24 a0) (fun v25 => bnd (s4O N A24 v22.toNatClampNeg ((v25) + ((4 : Int32))) a1) (fun A26 => some (A26, D24)))))
set_option maxRecDepth 100000 in
set_option maxHeartbeats 4000000 in
theorem k_X7_setSize (E : gE) (f : Nat → va_E) (N B gr : Nat) (C D : CfT) (A : MS) (hz : CfZ E N B gr) (h : CfV E f N B gr C) (hD : Dq D C) (hA : AR N B gr A C) (a0 : Int32) (a1 : Int32) (A9 : MS) (D9 : CfT) (hr : d_X7_setSize N A D a0 a1 = some (A9, D9)) : Ct E 3 yX7_setSize cX7_setSize 3 none [.ref (gAd E (37)), .int (a0), .int (a1)] f (fun v g => v = none ∧ SN E N B gr f A9 D9 g, fun _ _ => False) := by
  obtain ⟨z1, z2, z3, z4, z5, z6, z7⟩ := id hz
  refine Ct.of (by decide) (Nat.le_of_ble_eq_true rfl) (fun sz => ?_)
  refine G.eql [(0, .ref (gAd E (37))), (1, .int (a0)), (2, .int (a1))] rfl ?_
  unfold d_X7_setSize at hr
  refine G.go tv_X7_setSize 1 1 [(0, .ref (gAd E (37))), (1, .int (a0)), (2, .int (a1))] [.ref (gAd E (37))] rfl ?_
  refine G.getf cls_X7 (37) 0 (by omega) (h.q37) (by decide) rfl (tbd tv_X7_setSize rfl) w_478 ?_
  refine G.go tv_X7_setSize 1 5 [(0, .ref (gAd E (37))), (1, .int (a0)), (2, .int (a1))] [.int (a0), .ref (gAd E (25))] rfl ?_
  obtain ⟨v22, hv22, hr⟩ := bnd_s hr
  refine G.callS [.int (a0)] [.ref (gAd E (25))] (k_X7_home E _ N B gr C D A hz h hD hA a0 v22 hv22) cw_X7_30 w_907 (Nat.le_of_ble_eq_true rfl) rfl (Nat.le_of_ble_eq_true rfl) (tbd tv_X7_setSize rfl) (fun v22w f22 q22 => ?_) (fun _ _ h => h.elim)
  obtain ⟨rfl, ha22, fa22⟩ := q22
  refine G.eqs [.int (v22), .ref (gAd E (25))] rfl ?_
  obtain ⟨A24, D24, hv24, hr⟩ := bnd2_s hr
  refine G.callV (25) [.int (v22)] [] (k_own E _ N B gr C D A hz ha22 hD hA _ _ _ hv24) cls_X10 (by omega) (ha22.q25) cw_X7_52 w_975 w_976 (Nat.le_of_ble_eq_true rfl) rfl (Nat.le_of_ble_eq_true rfl) (tbd tv_X7_setSize rfl) (fun v24w f24 q24 => ?_) (fun _ _ h => h.elim)
  obtain ⟨rfl, C24, ha24, hD24, hA24, fa24⟩ := q24
  refine G.eqs [.ref (gAd E (350 + N + v22.toNatClampNeg))] rfl ?_
  refine G.go tv_X7_setSize 1 12 [(0, .ref (gAd E (37))), (1, .int (a0)), (2, .int (a1))] [.int (a0), .ref (gAd E (350 + N + v22.toNatClampNeg))] rfl ?_
  obtain ⟨v25, hv25, hr⟩ := bnd_s hr
  refine G.callS [.int (a0)] [.ref (gAd E (350 + N + v22.toNatClampNeg))] (k_X7_start E _ N B gr C24 D24 A24 hz ha24 hD24 hA24 a0 v25 hv25) cw_X7_40 w_922 (Nat.le_of_ble_eq_true rfl) rfl (Nat.le_of_ble_eq_true rfl) (tbd tv_X7_setSize rfl) (fun v25w f25 q25 => ?_) (fun _ _ h => h.elim)
  obtain ⟨rfl, ha25, fa25⟩ := q25
  refine G.eqs [.int (v25), .ref (gAd E (350 + N + v22.toNatClampNeg))] rfl ?_
  refine G.go tv_X7_setSize 3 18 [(0, .ref (gAd E (37))), (1, .int (a0)), (2, .int (a1))] [.int (a1), .int ((v25) + ((4 : Int32))), .ref (gAd E (350 + N + v22.toNatClampNeg))] rfl ?_
  obtain ⟨A26, hv26, hr⟩ := bnd_s hr
  refine G.callS [.ref (gAd E (350 + N + v22.toNatClampNeg)), .int ((v25) + ((4 : Int32))), .int (a1)] [] (k_s4O E _ N B gr C24 D24 A24 hz ha25 hD24 hA24 v22.toNatClampNeg ((v25) + ((4 : Int32))) a1 _ hv26) cw_X7_55 w_790 (Nat.le_of_ble_eq_true rfl) rfl (Nat.le_of_ble_eq_true rfl) (tbd tv_X7_setSize rfl) (fun v26w f26 q26 => ?_) (fun _ _ h => h.elim)
  obtain ⟨rfl, C26, ha26, hD26, hA26, fa26⟩ := q26
  refine G.eqs [] rfl ?_
  cases hr
  exact G.vret rfl ⟨rfl, C26, ha26, hD26, hA26, ((((Fr.rf.tr fa22 (fun _ h => h)).tr fa24 (fun _ h => h)).tr fa25 (fun _ h => h)).tr fa26 (fun _ h => h))⟩ (tbd tv_X7_setSize rfl)
def tb_X7_setMark : List (Nat × Instr × Nat) := [(0, .aload_n 0, 1), (1, .getfield 18, 3), (4, .iload_n 1, 1), (5, .invokestatic 30, 3), (8, .invokevirtual 52, 3), (11, .iload_n 1, 1), (12, .invokestatic 40, 3), (15, .bipush 8, 2), (17, .iadd, 1), (18, .iload_n 2, 1), (19, .invokestatic 55, 3), (22, .return_, 1)]
theorem tv_X7_setMark : Tv cX7_setMark tb_X7_setMark := by
  unfold Tv
  decide +kernel
def d_X7_setMark (N : Nat) (A : MS) (D : CfT) (a0 : Int32) (a1 : Int32) : Option (MS × CfT) := bnd (d_X7_home N (vA A) D a0) (fun v27 => bnd2 (owB N A D v27) (fun A29 D29 => bnd (d_X7_start N (vA A29) D29 a0) (fun v30 => bnd (s4O N A29 v27.toNatClampNeg ((v30) + ((8 : Int32))) a1) (fun A31 => some (A31, D29)))))
set_option maxRecDepth 100000 in
set_option maxHeartbeats 4000000 in
theorem k_X7_setMark (E : gE) (f : Nat → va_E) (N B gr : Nat) (C D : CfT) (A : MS) (hz : CfZ E N B gr) (h : CfV E f N B gr C) (hD : Dq D C) (hA : AR N B gr A C) (a0 : Int32) (a1 : Int32) (A9 : MS) (D9 : CfT) (hr : d_X7_setMark N A D a0 a1 = some (A9, D9)) : Ct E 3 yX7_setMark cX7_setMark 3 none [.ref (gAd E (37)), .int (a0), .int (a1)] f (fun v g => v = none ∧ SN E N B gr f A9 D9 g, fun _ _ => False) := by
  obtain ⟨z1, z2, z3, z4, z5, z6, z7⟩ := id hz
  refine Ct.of (by decide) (Nat.le_of_ble_eq_true rfl) (fun sz => ?_)
  refine G.eql [(0, .ref (gAd E (37))), (1, .int (a0)), (2, .int (a1))] rfl ?_
  unfold d_X7_setMark at hr
  refine G.go tv_X7_setMark 1 1 [(0, .ref (gAd E (37))), (1, .int (a0)), (2, .int (a1))] [.ref (gAd E (37))] rfl ?_
  refine G.getf cls_X7 (37) 0 (by omega) (h.q37) (by decide) rfl (tbd tv_X7_setMark rfl) w_478 ?_
  refine G.go tv_X7_setMark 1 5 [(0, .ref (gAd E (37))), (1, .int (a0)), (2, .int (a1))] [.int (a0), .ref (gAd E (25))] rfl ?_
  obtain ⟨v27, hv27, hr⟩ := bnd_s hr
  refine G.callS [.int (a0)] [.ref (gAd E (25))] (k_X7_home E _ N B gr C D A hz h hD hA a0 v27 hv27) cw_X7_30 w_907 (Nat.le_of_ble_eq_true rfl) rfl (Nat.le_of_ble_eq_true rfl) (tbd tv_X7_setMark rfl) (fun v27w f27 q27 => ?_) (fun _ _ h => h.elim)
  obtain ⟨rfl, ha27, fa27⟩ := q27
  refine G.eqs [.int (v27), .ref (gAd E (25))] rfl ?_
  obtain ⟨A29, D29, hv29, hr⟩ := bnd2_s hr
  refine G.callV (25) [.int (v27)] [] (k_own E _ N B gr C D A hz ha27 hD hA _ _ _ hv29) cls_X10 (by omega) (ha27.q25) cw_X7_52 w_975 w_976 (Nat.le_of_ble_eq_true rfl) rfl (Nat.le_of_ble_eq_true rfl) (tbd tv_X7_setMark rfl) (fun v29w f29 q29 => ?_) (fun _ _ h => h.elim)
  obtain ⟨rfl, C29, ha29, hD29, hA29, fa29⟩ := q29
  refine G.eqs [.ref (gAd E (350 + N + v27.toNatClampNeg))] rfl ?_
  refine G.go tv_X7_setMark 1 12 [(0, .ref (gAd E (37))), (1, .int (a0)), (2, .int (a1))] [.int (a0), .ref (gAd E (350 + N + v27.toNatClampNeg))] rfl ?_
  obtain ⟨v30, hv30, hr⟩ := bnd_s hr
  refine G.callS [.int (a0)] [.ref (gAd E (350 + N + v27.toNatClampNeg))] (k_X7_start E _ N B gr C29 D29 A29 hz ha29 hD29 hA29 a0 v30 hv30) cw_X7_40 w_922 (Nat.le_of_ble_eq_true rfl) rfl (Nat.le_of_ble_eq_true rfl) (tbd tv_X7_setMark rfl) (fun v30w f30 q30 => ?_) (fun _ _ h => h.elim)
  obtain ⟨rfl, ha30, fa30⟩ := q30
  refine G.eqs [.int (v30), .ref (gAd E (350 + N + v27.toNatClampNeg))] rfl ?_
  refine G.go tv_X7_setMark 3 19 [(0, .ref (gAd E (37))), (1, .int (a0)), (2, .int (a1))] [.int (a1), .int ((v30) + ((8 : Int32))), .ref (gAd E (350 + N + v27.toNatClampNeg))] rfl ?_
  obtain ⟨A31, hv31, hr⟩ := bnd_s hr
  refine G.callS [.ref (gAd E (350 + N + v27.toNatClampNeg)), .int ((v30) + ((8 : Int32))), .int (a1)] [] (k_s4O E _ N B gr C29 D29 A29 hz ha30 hD29 hA29 v27.toNatClampNeg ((v30) + ((8 : Int32))) a1 _ hv31) cw_X7_55 w_790 (Nat.le_of_ble_eq_true rfl) rfl (Nat.le_of_ble_eq_true rfl) (tbd tv_X7_setMark rfl) (fun v31w f31 q31 => ?_) (fun _ _ h => h.elim)
  obtain ⟨rfl, C31, ha31, hD31, hA31, fa31⟩ := q31
  refine G.eqs [] rfl ?_
  cases hr
  exact G.vret rfl ⟨rfl, C31, ha31, hD31, hA31, ((((Fr.rf.tr fa27 (fun _ h => h)).tr fa29 (fun _ h => h)).tr fa30 (fun _ h => h)).tr fa31 (fun _ h => h))⟩ (tbd tv_X7_setMark rfl)
def tb_X7_create : List (Nat × Instr × Nat) := [(0, .aload_n 0, 1), (1, .invokevirtual 69, 3), (4, .istore_n 2, 1), (5, .iload_n 2, 1), (6, .iconst (-1), 1), (7, .if_icmp .ne 5, 3), (10, .iconst (-1), 1), (11, .ireturn, 1), (12, .aload_n 0, 1), (13, .getfield 18, 3), (16, .bipush 44, 2), (18, .invokevirtual 52, 3), (21, .iload_n 2, 1), (22, .iconst 1, 1), (23, .isub, 1), (24, .bipush 8, 2), (26, .idiv, 1), (27, .dup2, 1), (28, .baload, 1), (29, .iconst 1, 1), (30, .iload_n 2, 1), (31, .iconst 1, 1), (32, .isub, 1), (33, .bipush 8, 2), (35, .irem, 1), (36, .ishl, 1), (37, .i2b, 1), (38, .ior, 1), (39, .i2b, 1), (40, .bastore, 1), (41, .aload_n 0, 1), (42, .getfield 18, 3), (45, .iload_n 2, 1), (46, .invokestatic 30, 3), (49, .invokevirtual 52, 3), (52, .iload_n 2, 1), (53, .invokestatic 40, 3), (56, .iload_n 1, 1), (57, .i2b, 1), (58, .bastore, 1), (59, .aload_n 0, 1), (60, .iload_n 2, 1), (61, .iconst 1, 1), (62, .invokevirtual 73, 3), (65, .iload_n 2, 1), (66, .ireturn, 1)]
theorem tv_X7_create : Tv cX7_create tb_X7_create := by
  unfold Tv
  decide +kernel
theorem w_1430 : Cond.methodLink "LedgerFiles$Nodes" 69 yX7_lowestFree ∈ TB := tp_6 84 (by decide +kernel) rfl
theorem w_1395 : Cond.code yX7_lowestFree prog_9_method_17_code 2 (some .int) ∈ TB := tp_6 49 rfl rfl
theorem cw_X7_69 : Cw RX7 69 yX7_lowestFree cX7_lowestFree 2 (some .int) 0 := ⟨w_1430, w_1395, w_157, by decide +kernel, by decide +kernel, by decide⟩
theorem w_1393 : Cond.instanceMethod yX7_lowestFree ∈ TB := tp_6 47 (by decide +kernel) rfl
theorem w_1394 : Cond.selects "LedgerFiles$Nodes" yX7_lowestFree yX7_lowestFree ∈ TB := tp_6 48 (by decide +kernel) rfl
theorem w_1431 : Cond.methodLink "LedgerFiles$Nodes" 73 yX7_setLinks ∈ TB := tp_6 85 (by decide +kernel) rfl
theorem w_1434 : Cond.code yX7_setLinks prog_9_method_12_code 3 none ∈ TB := tp_6 88 rfl rfl
theorem cw_X7_73 : Cw RX7 73 yX7_setLinks cX7_setLinks 3 none 2 := ⟨w_1431, w_1434, w_157, by decide +kernel, by decide +kernel, by decide⟩
theorem w_1432 : Cond.instanceMethod yX7_setLinks ∈ TB := tp_6 86 (by decide +kernel) rfl
theorem w_1433 : Cond.selects "LedgerFiles$Nodes" yX7_setLinks yX7_setLinks ∈ TB := tp_6 87 (by decide +kernel) rfl
def d_X7_create (N : Nat) (A : MS) (D : CfT) (a0 : Int32) : Option (Int32 × MS × CfT) := bnd (d_X7_lowestFree N (vA A) D) (fun v32 => if v32 = ((-1 : Int32)) then some ((-1 : Int32), A, D) else bnd2 (owB N A D ((44 : Int32))) (fun A34 D34 => bnd (ldO N A34 (((44 : Int32)).toNatClampNeg) (((v32) - ((1 : Int32))) / ((8 : Int32)))) (fun v35 => bnd (stO N A34 (((44 : Int32)).toNatClampNeg) (((v32) - ((1 : Int32))) / ((8 : Int32))) (vp_nar .byte (((v35) ||| ((((1 : Int32)) <<< ((((v32) - ((1 : Int32))) - ((v32) - ((1 : Int32))) / ((8 : Int32)) * ((8 : Int32))) &&& 31) : Int32).toInt8.toInt32) : Int32).toInt8.toInt32))) (fun A36 => bnd (d_X7_home N (vA A36) D34 v32) (fun v37 => bnd2 (owB N A36 D34 v37) (fun A39 D39 => bnd (d_X7_start N (vA A39) D39 v32) (fun v40 => bnd (stO N A39 v37.toNatClampNeg v40 (vp_nar .byte ((a0 : Int32).toInt8.toInt32))) (fun A41 => bnd2 (d_X7_setLinks N A41 D39 v32 ((1 : Int32))) (fun A42 D42 => some (v32, A42, D42))))))))))
set_option maxRecDepth 100000 in
set_option maxHeartbeats 4000000 in
theorem k_X7_create (E : gE) (f : Nat → va_E) (N B gr : Nat) (C D : CfT) (A : MS) (hz : CfZ E N B gr) (h : CfV E f N B gr C) (hD : Dq D C) (hA : AR N B gr A C) (a0 : Int32) (r : Int32) (A9 : MS) (D9 : CfT) (hr : d_X7_create N A D a0 = some (r, A9, D9)) : Ct E 5 yX7_create cX7_create 3 (some .int) [.ref (gAd E (37)), .int (a0)] f (fun v g => v = some (.int r) ∧ SN E N B gr f A9 D9 g, fun _ _ => False) := by
  obtain ⟨z1, z2, z3, z4, z5, z6, z7⟩ := id hz
  refine Ct.of (by decide) (Nat.le_of_ble_eq_true rfl) (fun sz => ?_)
  refine G.eql [(0, .ref (gAd E (37))), (1, .int (a0))] rfl ?_
  unfold d_X7_create at hr
  refine G.go tv_X7_create 1 1 [(0, .ref (gAd E (37))), (1, .int (a0))] [.ref (gAd E (37))] rfl ?_
  obtain ⟨v32, hv32, hr⟩ := bnd_s hr
  refine G.callV (37) [] [] (k_X7_lowestFree E _ N B gr C D A hz h hD hA v32 hv32) cls_X7 (by omega) (h.q37) cw_X7_69 w_1393 w_1394 (Nat.le_of_ble_eq_true rfl) rfl (Nat.le_of_ble_eq_true rfl) (tbd tv_X7_create rfl) (fun v32w f32 q32 => ?_) (fun _ _ h => h.elim)
  obtain ⟨rfl, ha32, fa32⟩ := q32
  refine G.eqs [.int (v32)] rfl ?_
  refine G.go tv_X7_create 3 7 [(0, .ref (gAd E (37))), (1, .int (a0)), (2, .int (v32))] [.int ((-1 : Int32)), .int (v32)] rfl ?_
  refine G.cmp_ne 12 (tbd tv_X7_create rfl) (by decide) (fun c7 => ?_) (fun c7 => ?_)
  · replace hr := ite_f c7 hr
    refine G.go tv_X7_create 1 13 [(0, .ref (gAd E (37))), (1, .int (a0)), (2, .int (v32))] [.ref (gAd E (37))] rfl ?_
    refine G.getf cls_X7 (37) 0 (by omega) (ha32.q37) (by decide) rfl (tbd tv_X7_create rfl) w_478 ?_
    refine G.go tv_X7_create 1 18 [(0, .ref (gAd E (37))), (1, .int (a0)), (2, .int (v32))] [.int ((44 : Int32)), .ref (gAd E (25))] rfl ?_
    obtain ⟨A34, D34, hv34, hr⟩ := bnd2_s hr
    refine G.callV (25) [.int ((44 : Int32))] [] (k_own E _ N B gr C D A hz ha32 hD hA _ _ _ hv34) cls_X10 (by omega) (ha32.q25) cw_X7_52 w_975 w_976 (Nat.le_of_ble_eq_true rfl) rfl (Nat.le_of_ble_eq_true rfl) (tbd tv_X7_create rfl) (fun v34w f34 q34 => ?_) (fun _ _ h => h.elim)
    obtain ⟨rfl, C34, ha34, hD34, hA34, fa34⟩ := q34
    refine G.eqs [.ref (gAd E (350 + N + (((44 : Int32)).toNatClampNeg)))] rfl ?_
    refine G.go tv_X7_create 4 26 [(0, .ref (gAd E (37))), (1, .int (a0)), (2, .int (v32))] [.int ((8 : Int32)), .int ((v32) - ((1 : Int32))), .ref (gAd E (350 + N + (((44 : Int32)).toNatClampNeg)))] rfl ?_
    refine G.idiv (by decide) (tbd tv_X7_create rfl) ?_
    refine G.go tv_X7_create 1 28 [(0, .ref (gAd E (37))), (1, .int (a0)), (2, .int (v32))] [.int (((v32) - ((1 : Int32))) / ((8 : Int32))), .ref (gAd E (350 + N + (((44 : Int32)).toNatClampNeg))), .int (((v32) - ((1 : Int32))) / ((8 : Int32))), .ref (gAd E (350 + N + (((44 : Int32)).toNatClampNeg)))] rfl ?_
    obtain ⟨v35, hv35, hr⟩ := bnd_s hr
    refine G.owld hz ha34 hA34 hv35 (tbd tv_X7_create rfl) ?_
    refine G.go tv_X7_create 5 35 [(0, .ref (gAd E (37))), (1, .int (a0)), (2, .int (v32))] [.int ((8 : Int32)), .int ((v32) - ((1 : Int32))), .int ((1 : Int32)), .int (v35), .int (((v32) - ((1 : Int32))) / ((8 : Int32))), .ref (gAd E (350 + N + (((44 : Int32)).toNatClampNeg)))] rfl ?_
    refine G.irem (by decide) (tbd tv_X7_create rfl) ?_
    refine G.go tv_X7_create 4 40 [(0, .ref (gAd E (37))), (1, .int (a0)), (2, .int (v32))] [.int (((v35) ||| ((((1 : Int32)) <<< ((((v32) - ((1 : Int32))) - ((v32) - ((1 : Int32))) / ((8 : Int32)) * ((8 : Int32))) &&& 31) : Int32).toInt8.toInt32) : Int32).toInt8.toInt32), .int (((v32) - ((1 : Int32))) / ((8 : Int32))), .ref (gAd E (350 + N + (((44 : Int32)).toNatClampNeg)))] rfl ?_
    obtain ⟨A36, hv36, hr⟩ := bnd_s hr
    refine G.owst hz ha34 hD34 hA34 ((Fr.rf.tr fa32 (fun _ h => h)).tr fa34 (fun _ h => h)) hv36 (tbd tv_X7_create rfl) (fun u36 p36 => ?_)
    obtain ⟨C36, h36, hD36, hA36, k36⟩ := p36
    refine G.go tv_X7_create 1 42 [(0, .ref (gAd E (37))), (1, .int (a0)), (2, .int (v32))] [.ref (gAd E (37))] rfl ?_
    refine G.getf cls_X7 (37) 0 (by omega) (h36.q37) (by decide) rfl (tbd tv_X7_create rfl) w_478 ?_
    refine G.go tv_X7_create 1 46 [(0, .ref (gAd E (37))), (1, .int (a0)), (2, .int (v32))] [.int (v32), .ref (gAd E (25))] rfl ?_
    obtain ⟨v37, hv37, hr⟩ := bnd_s hr
    refine G.callS [.int (v32)] [.ref (gAd E (25))] (k_X7_home E _ N B gr C36 D34 A36 hz h36 hD36 hA36 v32 v37 hv37) cw_X7_30 w_907 (Nat.le_of_ble_eq_true rfl) rfl (Nat.le_of_ble_eq_true rfl) (tbd tv_X7_create rfl) (fun v37w f37 q37 => ?_) (fun _ _ h => h.elim)
    obtain ⟨rfl, ha37, fa37⟩ := q37
    refine G.eqs [.int (v37), .ref (gAd E (25))] rfl ?_
    obtain ⟨A39, D39, hv39, hr⟩ := bnd2_s hr
    refine G.callV (25) [.int (v37)] [] (k_own E _ N B gr C36 D34 A36 hz ha37 hD36 hA36 _ _ _ hv39) cls_X10 (by omega) (ha37.q25) cw_X7_52 w_975 w_976 (Nat.le_of_ble_eq_true rfl) rfl (Nat.le_of_ble_eq_true rfl) (tbd tv_X7_create rfl) (fun v39w f39 q39 => ?_) (fun _ _ h => h.elim)
    obtain ⟨rfl, C39, ha39, hD39, hA39, fa39⟩ := q39
    refine G.eqs [.ref (gAd E (350 + N + v37.toNatClampNeg))] rfl ?_
    refine G.go tv_X7_create 1 53 [(0, .ref (gAd E (37))), (1, .int (a0)), (2, .int (v32))] [.int (v32), .ref (gAd E (350 + N + v37.toNatClampNeg))] rfl ?_
    obtain ⟨v40, hv40, hr⟩ := bnd_s hr
    refine G.callS [.int (v32)] [.ref (gAd E (350 + N + v37.toNatClampNeg))] (k_X7_start E _ N B gr C39 D39 A39 hz ha39 hD39 hA39 v32 v40 hv40) cw_X7_40 w_922 (Nat.le_of_ble_eq_true rfl) rfl (Nat.le_of_ble_eq_true rfl) (tbd tv_X7_create rfl) (fun v40w f40 q40 => ?_) (fun _ _ h => h.elim)
    obtain ⟨rfl, ha40, fa40⟩ := q40
    refine G.eqs [.int (v40), .ref (gAd E (350 + N + v37.toNatClampNeg))] rfl ?_
    refine G.go tv_X7_create 2 58 [(0, .ref (gAd E (37))), (1, .int (a0)), (2, .int (v32))] [.int ((a0 : Int32).toInt8.toInt32), .int (v40), .ref (gAd E (350 + N + v37.toNatClampNeg))] rfl ?_
    obtain ⟨A41, hv41, hr⟩ := bnd_s hr
    refine G.owst hz ha40 hD39 hA39 (((k36.tr fa37 (fun _ h => h)).tr fa39 (fun _ h => h)).tr fa40 (fun _ h => h)) hv41 (tbd tv_X7_create rfl) (fun u41 p41 => ?_)
    obtain ⟨C41, h41, hD41, hA41, k41⟩ := p41
    refine G.go tv_X7_create 3 62 [(0, .ref (gAd E (37))), (1, .int (a0)), (2, .int (v32))] [.int ((1 : Int32)), .int (v32), .ref (gAd E (37))] rfl ?_
    obtain ⟨A42, D42, hv42, hr⟩ := bnd2_s hr
    refine G.callV (37) [.int (v32), .int ((1 : Int32))] [] (k_X7_setLinks E _ N B gr C41 D39 A41 hz h41 hD41 hA41 v32 ((1 : Int32)) A42 D42 hv42) cls_X7 (by omega) (h41.q37) cw_X7_73 w_1432 w_1433 (Nat.le_of_ble_eq_true rfl) rfl (Nat.le_of_ble_eq_true rfl) (tbd tv_X7_create rfl) (fun v42w f42 q42 => ?_) (fun _ _ h => h.elim)
    obtain ⟨rfl, C42, ha42, hD42, hA42, fa42⟩ := q42
    refine G.eqs [] rfl ?_
    refine G.go tv_X7_create 1 66 [(0, .ref (gAd E (37))), (1, .int (a0)), (2, .int (v32))] [.int (v32)] rfl ?_
    cases hr
    exact G.iret rfl rfl ⟨rfl, C42, ha42, hD42, hA42, (k41.tr fa42 (fun _ h => h))⟩ (tbd tv_X7_create rfl)
  · replace hr := ite_t c7 hr
    refine G.go tv_X7_create 1 11 [(0, .ref (gAd E (37))), (1, .int (a0)), (2, .int (v32))] [.int ((-1 : Int32))] rfl ?_
    cases hr
    exact G.iret rfl rfl ⟨rfl, C, ha32, hD, hA, (Fr.rf.tr fa32 (fun _ h => h))⟩ (tbd tv_X7_create rfl)
def tb_X4_ownRowOf : List (Nat × Instr × Nat) := [(0, .aload_n 0, 1), (1, .getfield 9, 3), (4, .aload_n 0, 1), (5, .getfield 15, 3), (8, .iload_n 1, 1), (9, .iload_n 2, 1), (10, .bipush 8, 2), (12, .idiv, 1), (13, .iconst 0, 1), (14, .invokevirtual 29, 3), (17, .invokevirtual 39, 3), (20, .areturn, 1)]
theorem tv_X4_ownRowOf : Tv cX4_ownRowOf tb_X4_ownRowOf := by
  unfold Tv
  decide +kernel
theorem w_1462 : Cond.methodLink "LedgerFiles$Folders" 39 yX10_own ∈ TB := tp_6 116 (by decide +kernel) rfl
theorem cw_X4_39 : Cw RX4 39 yX10_own cX10_own 2 (some (.array .byte)) 1 := ⟨w_1462, w_977, w_155, by decide +kernel, by decide +kernel, by decide⟩
def d_X4_ownRowOf (N : Nat) (A : MS) (D : CfT) (a0 : Int32) (a1 : Int32) : Option (Nat × MS × CfT) := bnd (d_X7_reach N (vA A) D a0 ((a1) / ((8 : Int32))) ((0 : Int32))) (fun v43 => bnd2 (owB N A D v43) (fun A45 D45 => some (v43.toNatClampNeg, A45, D45)))
set_option maxRecDepth 100000 in
set_option maxHeartbeats 4000000 in
theorem k_X4_ownRowOf (E : gE) (f : Nat → va_E) (N B gr : Nat) (C D : CfT) (A : MS) (hz : CfZ E N B gr) (h : CfV E f N B gr C) (hD : Dq D C) (hA : AR N B gr A C) (a0 : Int32) (a1 : Int32) (r : Nat) (A9 : MS) (D9 : CfT) (hr : d_X4_ownRowOf N A D a0 a1 = some (r, A9, D9)) : Ct E 4 yX4_ownRowOf cX4_ownRowOf 3 (some (.array .byte)) [.ref (gAd E (40)), .int (a0), .int (a1)] f (fun v g => v = some (.ref (gAd E (350 + N + r))) ∧ SN E N B gr f A9 D9 g, fun _ _ => False) := by
  obtain ⟨z1, z2, z3, z4, z5, z6, z7⟩ := id hz
  refine Ct.of (by decide) (Nat.le_of_ble_eq_true rfl) (fun sz => ?_)
  refine G.eql [(0, .ref (gAd E (40))), (1, .int (a0)), (2, .int (a1))] rfl ?_
  unfold d_X4_ownRowOf at hr
  refine G.go tv_X4_ownRowOf 1 1 [(0, .ref (gAd E (40))), (1, .int (a0)), (2, .int (a1))] [.ref (gAd E (40))] rfl ?_
  refine G.getf cls_X4 (40) 0 (by omega) (h.q40) (by decide) rfl (tbd tv_X4_ownRowOf rfl) w_509 ?_
  refine G.go tv_X4_ownRowOf 1 5 [(0, .ref (gAd E (40))), (1, .int (a0)), (2, .int (a1))] [.ref (gAd E (40)), .ref (gAd E (25))] rfl ?_
  refine G.getf cls_X4 (40) 1 (by omega) (h.q40) (by decide) rfl (tbd tv_X4_ownRowOf rfl) w_510 ?_
  refine G.go tv_X4_ownRowOf 3 12 [(0, .ref (gAd E (40))), (1, .int (a0)), (2, .int (a1))] [.int ((8 : Int32)), .int (a1), .int (a0), .ref (gAd E (37)), .ref (gAd E (25))] rfl ?_
  refine G.idiv (by decide) (tbd tv_X4_ownRowOf rfl) ?_
  refine G.go tv_X4_ownRowOf 1 14 [(0, .ref (gAd E (40))), (1, .int (a0)), (2, .int (a1))] [.int ((0 : Int32)), .int ((a1) / ((8 : Int32))), .int (a0), .ref (gAd E (37)), .ref (gAd E (25))] rfl ?_
  obtain ⟨v43, hv43, hr⟩ := bnd_s hr
  refine G.callV (37) [.int (a0), .int ((a1) / ((8 : Int32))), .int ((0 : Int32))] [.ref (gAd E (25))] (k_X7_reach E _ N B gr C D A hz h hD hA a0 ((a1) / ((8 : Int32))) ((0 : Int32)) v43 hv43) cls_X7 (by omega) (h.q37) cw_X4_29 w_954 w_955 (Nat.le_of_ble_eq_true rfl) rfl (Nat.le_of_ble_eq_true rfl) (tbd tv_X4_ownRowOf rfl) (fun v43w f43 q43 => ?_) (fun _ _ h => h.elim)
  obtain ⟨rfl, ha43, fa43⟩ := q43
  refine G.eqs [.int (v43), .ref (gAd E (25))] rfl ?_
  obtain ⟨A45, D45, hv45, hr⟩ := bnd2_s hr
  refine G.callV (25) [.int (v43)] [] (k_own E _ N B gr C D A hz ha43 hD hA _ _ _ hv45) cls_X10 (by omega) (ha43.q25) cw_X4_39 w_975 w_976 (Nat.le_of_ble_eq_true rfl) rfl (Nat.le_of_ble_eq_true rfl) (tbd tv_X4_ownRowOf rfl) (fun v45w f45 q45 => ?_) (fun _ _ h => h.elim)
  obtain ⟨rfl, C45, ha45, hD45, hA45, fa45⟩ := q45
  refine G.eqs [.ref (gAd E (350 + N + v43.toNatClampNeg))] rfl ?_
  cases hr
  exact G.aret rfl ⟨rfl, C45, ha45, hD45, hA45, ((Fr.rf.tr fa43 (fun _ h => h)).tr fa45 (fun _ h => h))⟩ (tbd tv_X4_ownRowOf rfl)
def tb_X4_point : List (Nat × Instr × Nat) := [(0, .aload_n 0, 1), (1, .iload_n 1, 1), (2, .iload_n 2, 1), (3, .invokevirtual 102, 3), (6, .iload_n 2, 1), (7, .invokestatic 46, 3), (10, .iload_n 3, 1), (11, .invokestatic 105, 3), (14, .return_, 1)]
theorem tv_X4_point : Tv cX4_point tb_X4_point := by
  unfold Tv
  decide +kernel
theorem w_1458 : Cond.methodLink "LedgerFiles$Folders" 102 yX4_ownRowOf ∈ TB := tp_6 112 (by decide +kernel) rfl
theorem w_1461 : Cond.code yX4_ownRowOf prog_6_method_4_code 3 (some (.array .byte)) ∈ TB := tp_6 115 rfl rfl
theorem cw_X4_102 : Cw RX4 102 yX4_ownRowOf cX4_ownRowOf 3 (some (.array .byte)) 2 := ⟨w_1458, w_1461, w_158, by decide +kernel, by decide +kernel, by decide⟩
theorem w_1460 : Cond.instanceMethod yX4_ownRowOf ∈ TB := tp_6 114 (by decide +kernel) rfl
theorem w_34 : Cond.selects "LedgerFiles$Folders" yX4_ownRowOf yX4_ownRowOf ∈ TB := tp_0 34 (by decide +kernel) rfl
theorem w_1463 : Cond.methodLink "LedgerFiles$Folders" 105 yX2_setTwo ∈ TB := tp_6 117 (by decide +kernel) rfl
theorem cw_X4_105 : Cw RX4 105 yX2_setTwo cX2_setTwo 3 none 3 := ⟨w_1463, w_788, w_149, by decide +kernel, by decide +kernel, by decide⟩
def d_X4_point (N : Nat) (A : MS) (D : CfT) (a0 : Int32) (a1 : Int32) (a2 : Int32) : Option (MS × CfT) := bnd3 (d_X4_ownRowOf N A D a0 a1) (fun t46 A46 D46 => bnd (d_X4_startOf N (vA A46) D46 a1) (fun v47 => bnd (s2O N A46 t46 v47 a2) (fun A48 => some (A48, D46))))
set_option maxRecDepth 100000 in
set_option maxHeartbeats 4000000 in
theorem k_X4_point (E : gE) (f : Nat → va_E) (N B gr : Nat) (C D : CfT) (A : MS) (hz : CfZ E N B gr) (h : CfV E f N B gr C) (hD : Dq D C) (hA : AR N B gr A C) (a0 : Int32) (a1 : Int32) (a2 : Int32) (A9 : MS) (D9 : CfT) (hr : d_X4_point N A D a0 a1 a2 = some (A9, D9)) : Ct E 5 yX4_point cX4_point 4 none [.ref (gAd E (40)), .int (a0), .int (a1), .int (a2)] f (fun v g => v = none ∧ SN E N B gr f A9 D9 g, fun _ _ => False) := by
  obtain ⟨z1, z2, z3, z4, z5, z6, z7⟩ := id hz
  refine Ct.of (by decide) (Nat.le_of_ble_eq_true rfl) (fun sz => ?_)
  refine G.eql [(0, .ref (gAd E (40))), (1, .int (a0)), (2, .int (a1)), (3, .int (a2))] rfl ?_
  unfold d_X4_point at hr
  refine G.go tv_X4_point 3 3 [(0, .ref (gAd E (40))), (1, .int (a0)), (2, .int (a1)), (3, .int (a2))] [.int (a1), .int (a0), .ref (gAd E (40))] rfl ?_
  obtain ⟨t46, A46, D46, hv46, hr⟩ := bnd3_s hr
  refine G.callV (40) [.int (a0), .int (a1)] [] (k_X4_ownRowOf E _ N B gr C D A hz h hD hA a0 a1 t46 A46 D46 hv46) cls_X4 (by omega) (h.q40) cw_X4_102 w_1460 w_34 (Nat.le_of_ble_eq_true rfl) rfl (Nat.le_of_ble_eq_true rfl) (tbd tv_X4_point rfl) (fun v46w f46 q46 => ?_) (fun _ _ h => h.elim)
  obtain ⟨rfl, C46, ha46, hD46, hA46, fa46⟩ := q46
  refine G.eqs [.ref (gAd E (350 + N + t46))] rfl ?_
  refine G.go tv_X4_point 1 7 [(0, .ref (gAd E (40))), (1, .int (a0)), (2, .int (a1)), (3, .int (a2))] [.int (a1), .ref (gAd E (350 + N + t46))] rfl ?_
  obtain ⟨v47, hv47, hr⟩ := bnd_s hr
  refine G.callS [.int (a1)] [.ref (gAd E (350 + N + t46))] (k_X4_startOf E _ N B gr C46 D46 A46 hz ha46 hD46 hA46 a1 v47 hv47) cw_X4_46 w_1372 (Nat.le_of_ble_eq_true rfl) rfl (Nat.le_of_ble_eq_true rfl) (tbd tv_X4_point rfl) (fun v47w f47 q47 => ?_) (fun _ _ h => h.elim)
  obtain ⟨rfl, ha47, fa47⟩ := q47
  refine G.eqs [.int (v47), .ref (gAd E (350 + N + t46))] rfl ?_
  refine G.go tv_X4_point 1 11 [(0, .ref (gAd E (40))), (1, .int (a0)), (2, .int (a1)), (3, .int (a2))] [.int (a2), .int (v47), .ref (gAd E (350 + N + t46))] rfl ?_
  obtain ⟨A48, hv48, hr⟩ := bnd_s hr
  refine G.callS [.ref (gAd E (350 + N + t46)), .int (v47), .int (a2)] [] (k_s2O E _ N B gr C46 D46 A46 hz ha47 hD46 hA46 t46 v47 a2 _ hv48) cw_X4_105 w_787 (Nat.le_of_ble_eq_true rfl) rfl (Nat.le_of_ble_eq_true rfl) (tbd tv_X4_point rfl) (fun v48w f48 q48 => ?_) (fun _ _ h => h.elim)
  obtain ⟨rfl, C48, ha48, hD48, hA48, fa48⟩ := q48
  refine G.eqs [] rfl ?_
  cases hr
  exact G.vret rfl ⟨rfl, C48, ha48, hD48, hA48, (((Fr.rf.tr fa46 (fun _ h => h)).tr fa47 (fun _ h => h)).tr fa48 (fun _ h => h))⟩ (tbd tv_X4_point rfl)
def tb_X4_wipe : List (Nat × Instr × Nat) := [(0, .iload_n 2, 1), (1, .ifCond .ge 4, 3), (4, .return_, 1), (5, .aload_n 0, 1), (6, .iload_n 1, 1), (7, .iload_n 2, 1), (8, .invokevirtual 102, 3), (11, .iload_n 2, 1), (12, .invokestatic 46, 3), (15, .iload_n 2, 1), (16, .invokestatic 46, 3), (19, .bipush 16, 2), (21, .iadd, 1), (22, .iconst 0, 1), (23, .invokestatic 115, 3), (26, .return_, 1)]
theorem tv_X4_wipe : Tv cX4_wipe tb_X4_wipe := by
  unfold Tv
  decide +kernel
theorem w_1484 : Cond.methodLink "LedgerFiles$Folders" 115 yJ7_fill_eb02e ∈ TB := tp_6 138 (by decide +kernel) rfl
theorem w_1006 : Cond.code yJ7_fill_eb02e prog_30_method_110_code 5 none ∈ TB := tp_4 140 rfl rfl
theorem cw_X4_115 : Cw RX4 115 yJ7_fill_eb02e cJ7_fill_eb02e 5 none 4 := ⟨w_1484, w_1006, w_151, by decide +kernel, by decide +kernel, by decide⟩
theorem w_1005 : Cond.static yJ7_fill_eb02e ∈ TB := tp_4 139 (by decide +kernel) rfl
def d_X4_wipe (N : Nat) (A : MS) (D : CfT) (a0 : Int32) (a1 : Int32) : Option (MS × CfT) := if 0 ≤ a1 then bnd3 (d_X4_ownRowOf N A D a0 a1) (fun t49 A49 D49 => bnd (d_X4_startOf N (vA A49) D49 a1) (fun v50 => bnd (d_X4_startOf N (vA A49) D49 a1) (fun v51 => bnd (frO N A49 t49 v50 ((v51) + ((16 : Int32))) ((0 : Int32))) (fun A52 => some (A52, D49))))) else some (A, D)
set_option maxRecDepth 100000 in
set_option maxHeartbeats 4000000 in
theorem k_X4_wipe (E : gE) (f : Nat → va_E) (N B gr : Nat) (C D : CfT) (A : MS) (hz : CfZ E N B gr) (h : CfV E f N B gr C) (hD : Dq D C) (hA : AR N B gr A C) (a0 : Int32) (a1 : Int32) (A9 : MS) (D9 : CfT) (hr : d_X4_wipe N A D a0 a1 = some (A9, D9)) : Ct E 5 yX4_wipe cX4_wipe 3 none [.ref (gAd E (40)), .int (a0), .int (a1)] f (fun v g => v = none ∧ SN E N B gr f A9 D9 g, fun _ _ => False) := by
  obtain ⟨z1, z2, z3, z4, z5, z6, z7⟩ := id hz
  refine Ct.of (by decide) (Nat.le_of_ble_eq_true rfl) (fun sz => ?_)
  refine G.eql [(0, .ref (gAd E (40))), (1, .int (a0)), (2, .int (a1))] rfl ?_
  unfold d_X4_wipe at hr
  refine G.go tv_X4_wipe 1 1 [(0, .ref (gAd E (40))), (1, .int (a0)), (2, .int (a1))] [.int (a1)] rfl ?_
  refine G.if_ge 5 (tbd tv_X4_wipe rfl) (by decide) (fun c1 => ?_) (fun c1 => ?_)
  · replace hr := ite_t c1 hr
    refine G.go tv_X4_wipe 3 8 [(0, .ref (gAd E (40))), (1, .int (a0)), (2, .int (a1))] [.int (a1), .int (a0), .ref (gAd E (40))] rfl ?_
    obtain ⟨t49, A49, D49, hv49, hr⟩ := bnd3_s hr
    refine G.callV (40) [.int (a0), .int (a1)] [] (k_X4_ownRowOf E _ N B gr C D A hz h hD hA a0 a1 t49 A49 D49 hv49) cls_X4 (by omega) (h.q40) cw_X4_102 w_1460 w_34 (Nat.le_of_ble_eq_true rfl) rfl (Nat.le_of_ble_eq_true rfl) (tbd tv_X4_wipe rfl) (fun v49w f49 q49 => ?_) (fun _ _ h => h.elim)
    obtain ⟨rfl, C49, ha49, hD49, hA49, fa49⟩ := q49
    refine G.eqs [.ref (gAd E (350 + N + t49))] rfl ?_
    refine G.go tv_X4_wipe 1 12 [(0, .ref (gAd E (40))), (1, .int (a0)), (2, .int (a1))] [.int (a1), .ref (gAd E (350 + N + t49))] rfl ?_
    obtain ⟨v50, hv50, hr⟩ := bnd_s hr
    refine G.callS [.int (a1)] [.ref (gAd E (350 + N + t49))] (k_X4_startOf E _ N B gr C49 D49 A49 hz ha49 hD49 hA49 a1 v50 hv50) cw_X4_46 w_1372 (Nat.le_of_ble_eq_true rfl) rfl (Nat.le_of_ble_eq_true rfl) (tbd tv_X4_wipe rfl) (fun v50w f50 q50 => ?_) (fun _ _ h => h.elim)
    obtain ⟨rfl, ha50, fa50⟩ := q50
    refine G.eqs [.int (v50), .ref (gAd E (350 + N + t49))] rfl ?_
    refine G.go tv_X4_wipe 1 16 [(0, .ref (gAd E (40))), (1, .int (a0)), (2, .int (a1))] [.int (a1), .int (v50), .ref (gAd E (350 + N + t49))] rfl ?_
    obtain ⟨v51, hv51, hr⟩ := bnd_s hr
    refine G.callS [.int (a1)] [.int (v50), .ref (gAd E (350 + N + t49))] (k_X4_startOf E _ N B gr C49 D49 A49 hz ha50 hD49 hA49 a1 v51 hv51) cw_X4_46 w_1372 (Nat.le_of_ble_eq_true rfl) rfl (Nat.le_of_ble_eq_true rfl) (tbd tv_X4_wipe rfl) (fun v51w f51 q51 => ?_) (fun _ _ h => h.elim)
    obtain ⟨rfl, ha51, fa51⟩ := q51
    refine G.eqs [.int (v51), .int (v50), .ref (gAd E (350 + N + t49))] rfl ?_
    refine G.go tv_X4_wipe 3 23 [(0, .ref (gAd E (40))), (1, .int (a0)), (2, .int (a1))] [.int ((0 : Int32)), .int ((v51) + ((16 : Int32))), .int (v50), .ref (gAd E (350 + N + t49))] rfl ?_
    obtain ⟨A52, hv52, hr⟩ := bnd_s hr
    refine G.callS [.ref (gAd E (350 + N + t49)), .int (v50), .int ((v51) + ((16 : Int32))), .int ((0 : Int32))] [] (k_frO E _ N B gr C49 D49 A49 hz ha51 hD49 hA49 t49 v50 ((v51) + ((16 : Int32))) ((0 : Int32)) _ hv52) cw_X4_115 w_1005 (Nat.le_of_ble_eq_true rfl) rfl (Nat.le_of_ble_eq_true rfl) (tbd tv_X4_wipe rfl) (fun v52w f52 q52 => ?_) (fun _ _ h => h.elim)
    obtain ⟨rfl, C52, ha52, hD52, hA52, fa52⟩ := q52
    refine G.eqs [] rfl ?_
    cases hr
    exact G.vret rfl ⟨rfl, C52, ha52, hD52, hA52, ((((Fr.rf.tr fa49 (fun _ h => h)).tr fa50 (fun _ h => h)).tr fa51 (fun _ h => h)).tr fa52 (fun _ h => h))⟩ (tbd tv_X4_wipe rfl)
  · replace hr := ite_f c1 hr
    cases hr
    exact G.vret rfl ⟨rfl, C, h, hD, hA, Fr.rf⟩ (tbd tv_X4_wipe rfl)
