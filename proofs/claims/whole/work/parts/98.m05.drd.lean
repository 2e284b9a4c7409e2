theorem w_2489 : Cond.methodLink "LedgerFilesModel" 424 yX12_walkAhead ∈ TB := tp_10 183 (by decide +kernel) rfl
theorem w_2492 : Cond.code yX12_walkAhead prog_14_method_68_code 4 (some .int) ∈ TB := tp_10 186 rfl rfl
theorem cw_X12_424 : Cw RX12 424 yX12_walkAhead cX12_walkAhead 4 (some .int) 2 := ⟨w_2489, w_2492, w_161, by decide +kernel, by decide +kernel, by decide⟩
theorem w_2491 : Cond.instanceMethod yX12_walkAhead ∈ TB := tp_10 185 (by decide +kernel) rfl
theorem w_101 : Cond.selects "LedgerFilesModel" yX12_walkAhead yX12_walkAhead ∈ TB := tp_0 101 (by decide +kernel) rfl
theorem w_2517 : Cond.methodLink "LedgerFilesModel" 427 yX12_freeInode ∈ TB := tp_10 211 (by decide +kernel) rfl
theorem w_2520 : Cond.code yX12_freeInode prog_14_method_97_code 2 (some .int) ∈ TB := tp_10 214 rfl rfl
theorem cw_X12_427 : Cw RX12 427 yX12_freeInode cX12_freeInode 2 (some .int) 0 := ⟨w_2517, w_2520, w_161, by decide +kernel, by decide +kernel, by decide⟩
theorem w_2519 : Cond.instanceMethod yX12_freeInode ∈ TB := tp_10 213 (by decide +kernel) rfl
theorem w_108 : Cond.selects "LedgerFilesModel" yX12_freeInode yX12_freeInode ∈ TB := tp_0 108 (by decide +kernel) rfl
theorem w_2521 : Cond.methodLink "LedgerFilesModel" 430 yX12_hasNoRoom ∈ TB := tp_10 215 (by decide +kernel) rfl
theorem w_2524 : Cond.code yX12_hasNoRoom prog_14_method_85_code 3 (some .boolean) ∈ TB := tp_10 218 rfl rfl
theorem cw_X12_430 : Cw RX12 430 yX12_hasNoRoom cX12_hasNoRoom 3 (some .boolean) 1 := ⟨w_2521, w_2524, w_161, by decide +kernel, by decide +kernel, by decide⟩
theorem w_2523 : Cond.instanceMethod yX12_hasNoRoom ∈ TB := tp_10 217 (by decide +kernel) rfl
theorem w_109 : Cond.selects "LedgerFilesModel" yX12_hasNoRoom yX12_hasNoRoom ∈ TB := tp_0 109 (by decide +kernel) rfl
theorem w_2541 : Cond.methodLink "LedgerFilesModel" 433 yX12_addName ∈ TB := tp_10 235 (by decide +kernel) rfl
theorem w_2544 : Cond.code yX12_addName prog_14_method_64_code 9 none ∈ TB := tp_10 238 rfl rfl
theorem cw_X12_433 : Cw RX12 433 yX12_addName cX12_addName 9 none 4 := ⟨w_2541, w_2544, w_161, by decide +kernel, by decide +kernel, by decide⟩
theorem w_2543 : Cond.instanceMethod yX12_addName ∈ TB := tp_10 237 (by decide +kernel) rfl
theorem w_114 : Cond.selects "LedgerFilesModel" yX12_addName yX12_addName ∈ TB := tp_0 114 (by decide +kernel) rfl
noncomputable def e_make_135  (R : RfT) (x4 : Int32) (x5 : Int32) (x6 : Int32) (x7 : Int32) : Option (Int32 × RfT) := bnd (e_setField R x7 ((1 : Int32)) ((1 : Int32)) ((1 : Int32))) (fun R12 => bnd (e_setBit R12 ((44 : Int32)) ((x7) - ((1 : Int32))) ((1 : Int32))) (fun R13 => bnd (e_addName R13 x4 x5 x6 x7) (fun R14 => bnd2 (e_committed R14 x7) (fun v15 R15 => some (v15, R15)))))
noncomputable def e_make  (R : RfT) (a0 : Int32) : Option (Int32 × RfT) := bnd2 (e_useTape R) (fun v1 R1 => bnd2 (e_notMounted R1) (fun v2 R2 => if v2 = 0 then bnd2 (e_path R2 ((0 : Int32)) v1 ((0 : Int32))) (fun v3 R3 => if v3 = ((-1 : Int32)) then some ((-6 : Int32), R3) else if v3 = 0 then some ((-2 : Int32), R3) else bnd2 (e_walkAhead R3 ((0 : Int32)) ((v3) - ((1 : Int32)))) (fun v4 R4 => if 0 ≤ v4 then ld (rA R4 50) 32 ((v3) - ((1 : Int32))) (fun v5 => ld (rA R4 51) 32 ((v3) - ((1 : Int32))) (fun v6 => bnd2 (e_slotOf R4 v4 v5 v6) (fun v7 R7 => if v7 = ((-1 : Int32)) then bnd (e_freeInode R7) (fun v8 => if v8 = 0 then some ((-8 : Int32), R7) else bnd2 (e_hasNoRoom R7 v4) (fun v9 R9 => if v9 = 0 then if a0 = 0 then bnd (e_setField R9 v8 ((0 : Int32)) ((1 : Int32)) ((1 : Int32))) (fun R10 => e_make_135  R10 v4 v5 v6 v8) else bnd (e_setField R9 v8 ((0 : Int32)) ((1 : Int32)) ((2 : Int32))) (fun R11 => e_make_135  R11 v4 v5 v6 v8) else some ((-7 : Int32), R9))) else some ((-2 : Int32), R7)))) else some (v4, R4))) else some ((0 : Int32), R2)))
set_option maxRecDepth 100000 in
set_option maxHeartbeats 4000000 in
theorem l_X12_make_135 (E : gE) (f0 : Nat → va_E) (sz : Nat) (QA : Nat → Prop) (hE : 94 ≤ gN E) : ∀ (R : RfT) (x4 : Int32) (x5 : Int32) (x6 : Int32) (x7 : Int32) (r : Int32) (R9 : RfT) (hr : e_make_135  R x4 x5 x6 x7 = some (r, R9)) (f : Nat → va_E) (w : RW E f R) (hf : Fr RfK f0 f), G E (14, yX12_make, 8, (some .int), sz, QA) cX12_make (gO E (14, yX12_make, 8, (some .int), sz, QA) (fun v g => v = some (.int r) ∧ RW E g R9 ∧ Fr RfK f0 g, fun _ _ => False)) 135 [(0, .ref (gAd E (56))), (4, .int (x4)), (5, .int (x5)), (6, .int (x6)), (7, .int (x7))] [] f := by
  intro R x4 x5 x6 x7 r R9 hr f w hf
  obtain ⟨az, sy, r0⟩ := w
  unfold e_make_135 at hr
  refine G.go tv_X12_make 5 141 [(0, .ref (gAd E (56))), (4, .int (x4)), (5, .int (x5)), (6, .int (x6)), (7, .int (x7))] [.int ((1 : Int32)), .int ((1 : Int32)), .int ((1 : Int32)), .int (x7), .ref (gAd E (56))] rfl ?_
  obtain ⟨R12, hv12, hr⟩ := bnd_s hr
  refine G.callV (56) [.int (x7), .int ((1 : Int32)), .int ((1 : Int32)), .int ((1 : Int32))] [] (k_X12_setField E _ hE R ⟨_, _, r0⟩ x7 ((1 : Int32)) ((1 : Int32)) ((1 : Int32)) R12 hv12) cls_X12 (by omega) (r0.o) cw_X12_332 w_2424 w_87 (Nat.le_of_ble_eq_true rfl) rfl (Nat.le_of_ble_eq_true rfl) (tbd tv_X12_make rfl) (fun v12w f12 q12 => ?_) (fun _ _ h => h.elim)
  obtain ⟨rfl, ⟨az12, sy12, r12⟩, fa12⟩ := q12
  refine G.eqs [] rfl ?_
  refine G.go tv_X12_make 6 152 [(0, .ref (gAd E (56))), (4, .int (x4)), (5, .int (x5)), (6, .int (x6)), (7, .int (x7))] [.int ((1 : Int32)), .int ((x7) - ((1 : Int32))), .int ((44 : Int32)), .ref (gAd E (56))] rfl ?_
  obtain ⟨R13, hv13, hr⟩ := bnd_s hr
  refine G.callV (56) [.int ((44 : Int32)), .int ((x7) - ((1 : Int32))), .int ((1 : Int32))] [] (k_X12_setBit E _ hE R12 ⟨_, _, r12⟩ ((44 : Int32)) ((x7) - ((1 : Int32))) ((1 : Int32)) R13 hv13) cls_X12 (by omega) (r12.o) cw_X12_313 w_2408 w_83 (Nat.le_of_ble_eq_true rfl) rfl (Nat.le_of_ble_eq_true rfl) (tbd tv_X12_make rfl) (fun v13w f13 q13 => ?_) (fun _ _ h => h.elim)
  obtain ⟨rfl, ⟨az13, sy13, r13⟩, fa13⟩ := q13
  refine G.eqs [] rfl ?_
  refine G.go tv_X12_make 5 164 [(0, .ref (gAd E (56))), (4, .int (x4)), (5, .int (x5)), (6, .int (x6)), (7, .int (x7))] [.int (x7), .int (x6), .int (x5), .int (x4), .ref (gAd E (56))] rfl ?_
  obtain ⟨R14, hv14, hr⟩ := bnd_s hr
  refine G.callV (56) [.int (x4), .int (x5), .int (x6), .int (x7)] [] (k_X12_addName E _ hE R13 ⟨_, _, r13⟩ x4 x5 x6 x7 R14 hv14) cls_X12 (by omega) (r13.o) cw_X12_433 w_2543 w_114 (Nat.le_of_ble_eq_true rfl) rfl (Nat.le_of_ble_eq_true rfl) (tbd tv_X12_make rfl) (fun v14w f14 q14 => ?_) (fun _ _ h => h.elim)
  obtain ⟨rfl, ⟨az14, sy14, r14⟩, fa14⟩ := q14
  refine G.eqs [] rfl ?_
  refine G.go tv_X12_make 2 170 [(0, .ref (gAd E (56))), (4, .int (x4)), (5, .int (x5)), (6, .int (x6)), (7, .int (x7))] [.int (x7), .ref (gAd E (56))] rfl ?_
  obtain ⟨v15, R15, hv15, hr⟩ := bnd2_s hr
  refine G.callV (56) [.int (x7)] [] (k_X12_committed E _ hE R14 ⟨_, _, r14⟩ x7 v15 R15 hv15) cls_X12 (by omega) (r14.o) cw_X12_436 w_2563 w_119 (Nat.le_of_ble_eq_true rfl) rfl (Nat.le_of_ble_eq_true rfl) (tbd tv_X12_make rfl) (fun v15w f15 q15 => ?_) (fun _ _ h => h.elim)
  obtain ⟨rfl, ⟨az15, sy15, r15⟩, fa15⟩ := q15
  refine G.eqs [.int (v15)] rfl ?_
  cases hr
  exact G.iret rfl rfl ⟨rfl, ⟨_, _, r15⟩, ((((hf.tr fa12 (fun _ h => h)).tr fa13 (fun _ h => h)).tr fa14 (fun _ h => h)).tr fa15 (fun _ h => h))⟩ (tbd tv_X12_make rfl)
set_option maxRecDepth 100000 in
set_option maxHeartbeats 4000000 in
theorem k_X12_make (E : gE) (f : Nat → va_E) (hE : 94 ≤ gN E) (R : RfT) (w : RW E f R) (a0 : Int32) (r : Int32) (R9 : RfT) (hr : e_make R a0 = some (r, R9)) : Ct E 14 yX12_make cX12_make 8 (some .int) [.ref (gAd E (56)), .int (a0)] f (fun v g => v = some (.int r) ∧ RW E g R9 ∧ Fr RfK f g, fun _ _ => False) := by
  obtain ⟨az, sy, r0⟩ := w
  refine Ct.of (by decide) (Nat.le_of_ble_eq_true rfl) (fun sz => ?_)
  refine G.eql [(0, .ref (gAd E (56))), (1, .int (a0))] rfl ?_
  unfold e_make at hr
  refine G.go tv_X12_make 1 1 [(0, .ref (gAd E (56))), (1, .int (a0))] [.ref (gAd E (56))] rfl ?_
  obtain ⟨v1, R1, hv1, hr⟩ := bnd2_s hr
  refine G.callV (56) [] [] (k_X12_useTape E _ hE R ⟨_, _, r0⟩ v1 R1 hv1) cls_X12 (by omega) (r0.o) cw_X12_418 w_2480 w_99 (Nat.le_of_ble_eq_true rfl) rfl (Nat.le_of_ble_eq_true rfl) (tbd tv_X12_make rfl) (fun v1w f1 q1 => ?_) (fun _ _ h => h.elim)
  obtain ⟨rfl, ⟨az1, sy1, r1⟩, fa1⟩ := q1
  refine G.eqs [.int (v1)] rfl ?_
  refine G.go tv_X12_make 2 6 [(0, .ref (gAd E (56))), (1, .int (a0)), (2, .int (v1))] [.ref (gAd E (56))] rfl ?_
  obtain ⟨v2, R2, hv2, hr⟩ := bnd2_s hr
  refine G.callV (56) [] [] (k_X12_notMounted E _ hE R1 ⟨_, _, r1⟩ v2 R2 hv2) cls_X12 (by omega) (r1.o) cw_X12_403 w_2464 w_96 (Nat.le_of_ble_eq_true rfl) rfl (Nat.le_of_ble_eq_true rfl) (tbd tv_X12_make rfl) (fun v2w f2 q2 => ?_) (fun _ _ h => h.elim)
  obtain ⟨rfl, ⟨az2, sy2, r2⟩, fa2⟩ := q2
  refine G.eqs [.int (v2)] rfl ?_
  refine G.if_eq 14 (tbd tv_X12_make rfl) (by decide) (fun c9 => ?_) (fun c9 => ?_)
  · replace hr := ite_t c9 hr
    refine G.go tv_X12_make 4 18 [(0, .ref (gAd E (56))), (1, .int (a0)), (2, .int (v1))] [.int ((0 : Int32)), .int (v1), .int ((0 : Int32)), .ref (gAd E (56))] rfl ?_
    obtain ⟨v3, R3, hv3, hr⟩ := bnd2_s hr
    refine G.callV (56) [.int ((0 : Int32)), .int (v1), .int ((0 : Int32))] [] (k_X12_path E _ hE R2 ⟨_, _, r2⟩ ((0 : Int32)) v1 ((0 : Int32)) v3 R3 hv3) cls_X12 (by omega) (r2.o) cw_X12_421 w_2484 w_100 (Nat.le_of_ble_eq_true rfl) rfl (Nat.le_of_ble_eq_true rfl) (tbd tv_X12_make rfl) (fun v3w f3 q3 => ?_) (fun _ _ h => h.elim)
    obtain ⟨rfl, ⟨az3, sy3, r3⟩, fa3⟩ := q3
    refine G.eqs [.int (v3)] rfl ?_
    refine G.go tv_X12_make 3 24 [(0, .ref (gAd E (56))), (1, .int (a0)), (2, .int (v1)), (3, .int (v3))] [.int ((-1 : Int32)), .int (v3)] rfl ?_
    refine G.cmp_ne 30 (tbd tv_X12_make rfl) (by decide) (fun c24 => ?_) (fun c24 => ?_)
    · replace hr := ite_f c24 hr
      refine G.go tv_X12_make 1 31 [(0, .ref (gAd E (56))), (1, .int (a0)), (2, .int (v1)), (3, .int (v3))] [.int (v3)] rfl ?_
      refine G.if_ne 37 (tbd tv_X12_make rfl) (by decide) (fun c31 => ?_) (fun c31 => ?_)
      · replace hr := ite_f c31 hr
        refine G.go tv_X12_make 5 42 [(0, .ref (gAd E (56))), (1, .int (a0)), (2, .int (v1)), (3, .int (v3))] [.int ((v3) - ((1 : Int32))), .int ((0 : Int32)), .ref (gAd E (56))] rfl ?_
        obtain ⟨v4, R4, hv4, hr⟩ := bnd2_s hr
        refine G.callV (56) [.int ((0 : Int32)), .int ((v3) - ((1 : Int32)))] [] (k_X12_walkAhead E _ hE R3 ⟨_, _, r3⟩ ((0 : Int32)) ((v3) - ((1 : Int32))) v4 R4 hv4) cls_X12 (by omega) (r3.o) cw_X12_424 w_2491 w_101 (Nat.le_of_ble_eq_true rfl) rfl (Nat.le_of_ble_eq_true rfl) (tbd tv_X12_make rfl) (fun v4w f4 q4 => ?_) (fun _ _ h => h.elim)
        obtain ⟨rfl, ⟨az4, sy4, r4⟩, fa4⟩ := q4
        refine G.eqs [.int (v4)] rfl ?_
        refine G.go tv_X12_make 2 49 [(0, .ref (gAd E (56))), (1, .int (a0)), (2, .int (v1)), (3, .int (v3)), (4, .int (v4))] [.int (v4)] rfl ?_
        refine G.if_ge 55 (tbd tv_X12_make rfl) (by decide) (fun c49 => ?_) (fun c49 => ?_)
        · replace hr := ite_t c49 hr
          refine G.go tv_X12_make 1 56 [(0, .ref (gAd E (56))), (1, .int (a0)), (2, .int (v1)), (3, .int (v3)), (4, .int (v4))] [.ref (gAd E (56))] rfl ?_
          refine G.rg r4 hE 50 (.ref (gAd E (84))) (by decide) rfl (tbd tv_X12_make rfl) w_2115 ?_
          refine G.go tv_X12_make 3 62 [(0, .ref (gAd E (56))), (1, .int (a0)), (2, .int (v1)), (3, .int (v3)), (4, .int (v4))] [.int ((v3) - ((1 : Int32))), .ref (gAd E (84))] rfl ?_
          obtain ⟨v5, b5, e5, hr⟩ := ld_s hr
          refine G.ialdE (84) (by omega) (r4.a50) b5 e5 (tbd tv_X12_make rfl) ?_
          refine G.go tv_X12_make 2 66 [(0, .ref (gAd E (56))), (1, .int (a0)), (2, .int (v1)), (3, .int (v3)), (4, .int (v4)), (5, .int (v5))] [.ref (gAd E (56))] rfl ?_
          refine G.rg r4 hE 51 (.ref (gAd E (85))) (by decide) rfl (tbd tv_X12_make rfl) w_2116 ?_
          refine G.go tv_X12_make 3 72 [(0, .ref (gAd E (56))), (1, .int (a0)), (2, .int (v1)), (3, .int (v3)), (4, .int (v4)), (5, .int (v5))] [.int ((v3) - ((1 : Int32))), .ref (gAd E (85))] rfl ?_
          obtain ⟨v6, b6, e6, hr⟩ := ld_s hr
          refine G.ialdE (85) (by omega) (r4.a51) b6 e6 (tbd tv_X12_make rfl) ?_
          refine G.go tv_X12_make 5 82 [(0, .ref (gAd E (56))), (1, .int (a0)), (2, .int (v1)), (3, .int (v3)), (4, .int (v4)), (5, .int (v5)), (6, .int (v6))] [.int (v6), .int (v5), .int (v4), .ref (gAd E (56))] rfl ?_
          obtain ⟨v7, R7, hv7, hr⟩ := bnd2_s hr
          refine G.callV (56) [.int (v4), .int (v5), .int (v6)] [] (k_X12_slotOf E _ hE R4 ⟨_, _, r4⟩ v4 v5 v6 v7 R7 hv7) cls_X12 (by omega) (r4.o) cw_X12_361 w_2499 w_103 (Nat.le_of_ble_eq_true rfl) rfl (Nat.le_of_ble_eq_true rfl) (tbd tv_X12_make rfl) (fun v7w f7 q7 => ?_) (fun _ _ h => h.elim)
          obtain ⟨rfl, ⟨az7, sy7, r7⟩, fa7⟩ := q7
          refine G.eqs [.int (v7)] rfl ?_
          refine G.go tv_X12_make 1 86 [(0, .ref (gAd E (56))), (1, .int (a0)), (2, .int (v1)), (3, .int (v3)), (4, .int (v4)), (5, .int (v5)), (6, .int (v6))] [.int ((-1 : Int32)), .int (v7)] rfl ?_
          refine G.cmp_eq 92 (tbd tv_X12_make rfl) (by decide) (fun c86 => ?_) (fun c86 => ?_)
          · replace hr := ite_t c86 hr
            refine G.go tv_X12_make 1 93 [(0, .ref (gAd E (56))), (1, .int (a0)), (2, .int (v1)), (3, .int (v3)), (4, .int (v4)), (5, .int (v5)), (6, .int (v6))] [.ref (gAd E (56))] rfl ?_
            obtain ⟨v8, hv8, hr⟩ := bnd_s hr
            refine G.callV (56) [] [] (k_X12_freeInode E _ hE R7 ⟨_, _, r7⟩ v8 hv8) cls_X12 (by omega) (r7.o) cw_X12_427 w_2519 w_108 (Nat.le_of_ble_eq_true rfl) rfl (Nat.le_of_ble_eq_true rfl) (tbd tv_X12_make rfl) (fun v8w f8 q8 => ?_) (fun _ _ h => h.elim)
            obtain ⟨rfl, ⟨az8, sy8, r8⟩, fa8⟩ := q8
            refine G.eqs [.int (v8)] rfl ?_
            refine G.go tv_X12_make 2 100 [(0, .ref (gAd E (56))), (1, .int (a0)), (2, .int (v1)), (3, .int (v3)), (4, .int (v4)), (5, .int (v5)), (6, .int (v6)), (7, .int (v8))] [.int (v8)] rfl ?_
            refine G.if_ne 106 (tbd tv_X12_make rfl) (by decide) (fun c100 => ?_) (fun c100 => ?_)
            · replace hr := ite_f c100 hr
              refine G.go tv_X12_make 2 109 [(0, .ref (gAd E (56))), (1, .int (a0)), (2, .int (v1)), (3, .int (v3)), (4, .int (v4)), (5, .int (v5)), (6, .int (v6)), (7, .int (v8))] [.int (v4), .ref (gAd E (56))] rfl ?_
              obtain ⟨v9, R9, hv9, hr⟩ := bnd2_s hr
              refine G.callV (56) [.int (v4)] [] (k_X12_hasNoRoom E _ hE R7 ⟨_, _, r8⟩ v4 v9 R9 hv9) cls_X12 (by omega) (r8.o) cw_X12_430 w_2523 w_109 (Nat.le_of_ble_eq_true rfl) rfl (Nat.le_of_ble_eq_true rfl) (tbd tv_X12_make rfl) (fun v9w f9 q9 => ?_) (fun _ _ h => h.elim)
              obtain ⟨rfl, ⟨az9, sy9, r9⟩, fa9⟩ := q9
              refine G.eqs [.int (v9)] rfl ?_
              refine G.if_eq 118 (tbd tv_X12_make rfl) (by decide) (fun c112 => ?_) (fun c112 => ?_)
              · replace hr := ite_t c112 hr
                refine G.go tv_X12_make 5 124 [(0, .ref (gAd E (56))), (1, .int (a0)), (2, .int (v1)), (3, .int (v3)), (4, .int (v4)), (5, .int (v5)), (6, .int (v6)), (7, .int (v8))] [.int (a0), .int ((1 : Int32)), .int ((0 : Int32)), .int (v8), .ref (gAd E (56))] rfl ?_
                refine G.if_eq 131 (tbd tv_X12_make rfl) (by decide) (fun c124 => ?_) (fun c124 => ?_)
                · replace hr := ite_t c124 hr
                  refine G.go tv_X12_make 1 132 [(0, .ref (gAd E (56))), (1, .int (a0)), (2, .int (v1)), (3, .int (v3)), (4, .int (v4)), (5, .int (v5)), (6, .int (v6)), (7, .int (v8))] [.int ((1 : Int32)), .int ((1 : Int32)), .int ((0 : Int32)), .int (v8), .ref (gAd E (56))] rfl ?_
                  obtain ⟨R10, hv10, hr⟩ := bnd_s hr
                  refine G.callV (56) [.int (v8), .int ((0 : Int32)), .int ((1 : Int32)), .int ((1 : Int32))] [] (k_X12_setField E _ hE R9 ⟨_, _, r9⟩ v8 ((0 : Int32)) ((1 : Int32)) ((1 : Int32)) R10 hv10) cls_X12 (by omega) (r9.o) cw_X12_332 w_2424 w_87 (Nat.le_of_ble_eq_true rfl) rfl (Nat.le_of_ble_eq_true rfl) (tbd tv_X12_make rfl) (fun v10w f10 q10 => ?_) (fun _ _ h => h.elim)
                  obtain ⟨rfl, ⟨az10, sy10, r10⟩, fa10⟩ := q10
                  refine G.eqs [] rfl ?_
                  refine G.less [(0, .ref (gAd E (56))), (4, .int (v4)), (5, .int (v5)), (6, .int (v6)), (7, .int (v8))] [0, 4, 5, 6, 7] rfl ?_
                  exact l_X12_make_135 E f sz _ hE _ _ _ _ _ _ _ hr _ ⟨_, _, r10⟩ ((((((((Fr.rf.tr fa1 (fun _ h => h)).tr fa2 (fun _ h => h)).tr fa3 (fun _ h => h)).tr fa4 (fun _ h => h)).tr fa7 (fun _ h => h)).tr fa8 (fun _ h => h)).tr fa9 (fun _ h => h)).tr fa10 (fun _ h => h))
                · replace hr := ite_f c124 hr
                  refine G.go tv_X12_make 2 132 [(0, .ref (gAd E (56))), (1, .int (a0)), (2, .int (v1)), (3, .int (v3)), (4, .int (v4)), (5, .int (v5)), (6, .int (v6)), (7, .int (v8))] [.int ((2 : Int32)), .int ((1 : Int32)), .int ((0 : Int32)), .int (v8), .ref (gAd E (56))] rfl ?_
                  obtain ⟨R11, hv11, hr⟩ := bnd_s hr
                  refine G.callV (56) [.int (v8), .int ((0 : Int32)), .int ((1 : Int32)), .int ((2 : Int32))] [] (k_X12_setField E _ hE R9 ⟨_, _, r9⟩ v8 ((0 : Int32)) ((1 : Int32)) ((2 : Int32)) R11 hv11) cls_X12 (by omega) (r9.o) cw_X12_332 w_2424 w_87 (Nat.le_of_ble_eq_true rfl) rfl (Nat.le_of_ble_eq_true rfl) (tbd tv_X12_make rfl) (fun v11w f11 q11 => ?_) (fun _ _ h => h.elim)
                  obtain ⟨rfl, ⟨az11, sy11, r11⟩, fa11⟩ := q11
                  refine G.eqs [] rfl ?_
                  refine G.less [(0, .ref (gAd E (56))), (4, .int (v4)), (5, .int (v5)), (6, .int (v6)), (7, .int (v8))] [0, 4, 5, 6, 7] rfl ?_
                  exact l_X12_make_135 E f sz _ hE _ _ _ _ _ _ _ hr _ ⟨_, _, r11⟩ ((((((((Fr.rf.tr fa1 (fun _ h => h)).tr fa2 (fun _ h => h)).tr fa3 (fun _ h => h)).tr fa4 (fun _ h => h)).tr fa7 (fun _ h => h)).tr fa8 (fun _ h => h)).tr fa9 (fun _ h => h)).tr fa11 (fun _ h => h))
              · replace hr := ite_f c112 hr
                refine G.go tv_X12_make 1 117 [(0, .ref (gAd E (56))), (1, .int (a0)), (2, .int (v1)), (3, .int (v3)), (4, .int (v4)), (5, .int (v5)), (6, .int (v6)), (7, .int (v8))] [.int ((-7 : Int32))] rfl ?_
                cases hr
                exact G.iret rfl rfl ⟨rfl, ⟨_, _, r9⟩, (((((((Fr.rf.tr fa1 (fun _ h => h)).tr fa2 (fun _ h => h)).tr fa3 (fun _ h => h)).tr fa4 (fun _ h => h)).tr fa7 (fun _ h => h)).tr fa8 (fun _ h => h)).tr fa9 (fun _ h => h))⟩ (tbd tv_X12_make rfl)
            · replace hr := ite_t c100 hr
              refine G.go tv_X12_make 1 105 [(0, .ref (gAd E (56))), (1, .int (a0)), (2, .int (v1)), (3, .int (v3)), (4, .int (v4)), (5, .int (v5)), (6, .int (v6)), (7, .int (v8))] [.int ((-8 : Int32))] rfl ?_
              cases hr
              exact G.iret rfl rfl ⟨rfl, ⟨_, _, r8⟩, ((((((Fr.rf.tr fa1 (fun _ h => h)).tr fa2 (fun _ h => h)).tr fa3 (fun _ h => h)).tr fa4 (fun _ h => h)).tr fa7 (fun _ h => h)).tr fa8 (fun _ h => h))⟩ (tbd tv_X12_make rfl)
          · replace hr := ite_f c86 hr
            refine G.go tv_X12_make 1 91 [(0, .ref (gAd E (56))), (1, .int (a0)), (2, .int (v1)), (3, .int (v3)), (4, .int (v4)), (5, .int (v5)), (6, .int (v6))] [.int ((-2 : Int32))] rfl ?_
            cases hr
            exact G.iret rfl rfl ⟨rfl, ⟨_, _, r7⟩, (((((Fr.rf.tr fa1 (fun _ h => h)).tr fa2 (fun _ h => h)).tr fa3 (fun _ h => h)).tr fa4 (fun _ h => h)).tr fa7 (fun _ h => h))⟩ (tbd tv_X12_make rfl)
        · replace hr := ite_f c49 hr
          refine G.go tv_X12_make 1 54 [(0, .ref (gAd E (56))), (1, .int (a0)), (2, .int (v1)), (3, .int (v3)), (4, .int (v4))] [.int (v4)] rfl ?_
          cases hr
          exact G.iret rfl rfl ⟨rfl, ⟨_, _, r4⟩, ((((Fr.rf.tr fa1 (fun _ h => h)).tr fa2 (fun _ h => h)).tr fa3 (fun _ h => h)).tr fa4 (fun _ h => h))⟩ (tbd tv_X12_make rfl)
      · replace hr := ite_t c31 hr
        refine G.go tv_X12_make 1 36 [(0, .ref (gAd E (56))), (1, .int (a0)), (2, .int (v1)), (3, .int (v3))] [.int ((-2 : Int32))] rfl ?_
        cases hr
        exact G.iret rfl rfl ⟨rfl, ⟨_, _, r3⟩, (((Fr.rf.tr fa1 (fun _ h => h)).tr fa2 (fun _ h => h)).tr fa3 (fun _ h => h))⟩ (tbd tv_X12_make rfl)
    · replace hr := ite_t c24 hr
      refine G.go tv_X12_make 1 29 [(0, .ref (gAd E (56))), (1, .int (a0)), (2, .int (v1)), (3, .int (v3))] [.int ((-6 : Int32))] rfl ?_
      cases hr
      exact G.iret rfl rfl ⟨rfl, ⟨_, _, r3⟩, (((Fr.rf.tr fa1 (fun _ h => h)).tr fa2 (fun _ h => h)).tr fa3 (fun _ h => h))⟩ (tbd tv_X12_make rfl)
  · replace hr := ite_f c9 hr
    refine G.go tv_X12_make 1 13 [(0, .ref (gAd E (56))), (1, .int (a0)), (2, .int (v1))] [.int ((0 : Int32))] rfl ?_
    cases hr
    exact G.iret rfl rfl ⟨rfl, ⟨_, _, r2⟩, ((Fr.rf.tr fa1 (fun _ h => h)).tr fa2 (fun _ h => h))⟩ (tbd tv_X12_make rfl)
theorem w_2569 : Cond.methodLink "LedgerFilesModel" 439 yX12_names ∈ TB := tp_11 23 (by decide +kernel) rfl
theorem w_2572 : Cond.code yX12_names prog_14_method_62_code 5 (some .int) ∈ TB := tp_11 26 rfl rfl
theorem cw_X12_439 : Cw RX12 439 yX12_names cX12_names 5 (some .int) 1 := ⟨w_2569, w_2572, w_161, by decide +kernel, by decide +kernel, by decide⟩
theorem w_2571 : Cond.instanceMethod yX12_names ∈ TB := tp_11 25 (by decide +kernel) rfl
theorem w_120 : Cond.selects "LedgerFilesModel" yX12_names yX12_names ∈ TB := tp_0 120 (by decide +kernel) rfl
noncomputable def e_remove_73  (R : RfT) (x2 : Int32) (x3 : Int32) : Option (Int32 × RfT) := bnd2 (e_walk R ((0 : Int32)) ((x2) - ((1 : Int32)))) (fun v22 R22 => ld (rA R22 50) 32 ((x2) - ((1 : Int32))) (fun v23 => ld (rA R22 51) 32 ((x2) - ((1 : Int32))) (fun v24 => bnd2 (e_slotOf R22 v22 v23 v24) (fun v25 R25 => bnd (e_clearSlot R25 v22 v25) (fun R26 => bnd (e_lose R26 x3) (fun R27 => bnd2 (e_committed R27 ((0 : Int32))) (fun v28 R28 => some (v28, R28))))))))
noncomputable def e_remove  (R : RfT) : Option (Int32 × RfT) := bnd2 (e_useTape R) (fun v16 R16 => bnd2 (e_notMounted R16) (fun v17 R17 => if v17 = 0 then bnd2 (e_path R17 ((0 : Int32)) v16 ((0 : Int32))) (fun v18 R18 => if ((1 : Int32)) ≤ v18 then bnd2 (e_walk R18 ((0 : Int32)) v18) (fun v19 R19 => if 0 ≤ v19 then bnd (e_kind R19 v19) (fun v20 => if v20 = ((2 : Int32)) then bnd (e_names R19 v19) (fun v21 => if v21 ≤ 0 then e_remove_73  R19 v18 v19 else some ((-5 : Int32), R19)) else e_remove_73  R19 v18 v19) else some (v19, R19)) else if v18 = ((-1 : Int32)) then some ((-6 : Int32), R18) else some ((-9 : Int32), R18)) else some ((0 : Int32), R17)))
set_option maxRecDepth 100000 in
set_option maxHeartbeats 4000000 in
theorem l_X12_remove_73 (E : gE) (f0 : Nat → va_E) (sz : Nat) (QA : Nat → Prop) (hE : 94 ≤ gN E) : ∀ (R : RfT) (x2 : Int32) (x3 : Int32) (r : Int32) (R9 : RfT) (hr : e_remove_73  R x2 x3 = some (r, R9)) (f : Nat → va_E) (w : RW E f R) (hf : Fr RfK f0 f), G E (12, yX12_remove, 6, (some .int), sz, QA) cX12_remove (gO E (12, yX12_remove, 6, (some .int), sz, QA) (fun v g => v = some (.int r) ∧ RW E g R9 ∧ Fr RfK f0 g, fun _ _ => False)) 73 [(0, .ref (gAd E (56))), (2, .int (x2)), (3, .int (x3))] [] f := by
  intro R x2 x3 r R9 hr f w hf
  obtain ⟨az, sy, r0⟩ := w
  unfold e_remove_73 at hr
  refine G.go tv_X12_remove 5 78 [(0, .ref (gAd E (56))), (2, .int (x2)), (3, .int (x3))] [.int ((x2) - ((1 : Int32))), .int ((0 : Int32)), .ref (gAd E (56))] rfl ?_
  obtain ⟨v22, R22, hv22, hr⟩ := bnd2_s hr
  refine G.callV (56) [.int ((0 : Int32)), .int ((x2) - ((1 : Int32)))] [] (k_X12_walk E _ hE R ⟨_, _, r0⟩ ((0 : Int32)) ((x2) - ((1 : Int32))) v22 R22 hv22) cls_X12 (by omega) (r0.o) cw_X12_364 w_2495 w_102 (Nat.le_of_ble_eq_true rfl) rfl (Nat.le_of_ble_eq_true rfl) (tbd tv_X12_remove rfl) (fun v22w f22 q22 => ?_) (fun _ _ h => h.elim)
  obtain ⟨rfl, ⟨az22, sy22, r22⟩, fa22⟩ := q22
  refine G.eqs [.int (v22)] rfl ?_
  refine G.go tv_X12_remove 4 87 [(0, .ref (gAd E (56))), (2, .int (x2)), (3, .int (x3)), (4, .int (v22))] [.ref (gAd E (56)), .int (v22), .ref (gAd E (56))] rfl ?_
  refine G.rg r22 hE 50 (.ref (gAd E (84))) (by decide) rfl (tbd tv_X12_remove rfl) w_2115 ?_
  refine G.go tv_X12_remove 3 93 [(0, .ref (gAd E (56))), (2, .int (x2)), (3, .int (x3)), (4, .int (v22))] [.int ((x2) - ((1 : Int32))), .ref (gAd E (84)), .int (v22), .ref (gAd E (56))] rfl ?_
  obtain ⟨v23, b23, e23, hr⟩ := ld_s hr
  refine G.ialdE (84) (by omega) (r22.a50) b23 e23 (tbd tv_X12_remove rfl) ?_
  refine G.go tv_X12_remove 1 95 [(0, .ref (gAd E (56))), (2, .int (x2)), (3, .int (x3)), (4, .int (v22))] [.ref (gAd E (56)), .int (v23), .int (v22), .ref (gAd E (56))] rfl ?_
  refine G.rg r22 hE 51 (.ref (gAd E (85))) (by decide) rfl (tbd tv_X12_remove rfl) w_2116 ?_
  refine G.go tv_X12_remove 3 101 [(0, .ref (gAd E (56))), (2, .int (x2)), (3, .int (x3)), (4, .int (v22))] [.int ((x2) - ((1 : Int32))), .ref (gAd E (85)), .int (v23), .int (v22), .ref (gAd E (56))] rfl ?_
  obtain ⟨v24, b24, e24, hr⟩ := ld_s hr
  refine G.ialdE (85) (by omega) (r22.a51) b24 e24 (tbd tv_X12_remove rfl) ?_
  obtain ⟨v25, R25, hv25, hr⟩ := bnd2_s hr
  refine G.callV (56) [.int (v22), .int (v23), .int (v24)] [] (k_X12_slotOf E _ hE R22 ⟨_, _, r22⟩ v22 v23 v24 v25 R25 hv25) cls_X12 (by omega) (r22.o) cw_X12_361 w_2499 w_103 (Nat.le_of_ble_eq_true rfl) rfl (Nat.le_of_ble_eq_true rfl) (tbd tv_X12_remove rfl) (fun v25w f25 q25 => ?_) (fun _ _ h => h.elim)
  obtain ⟨rfl, ⟨az25, sy25, r25⟩, fa25⟩ := q25
  refine G.eqs [.int (v25)] rfl ?_
  refine G.go tv_X12_remove 4 112 [(0, .ref (gAd E (56))), (2, .int (x2)), (3, .int (x3)), (4, .int (v22)), (5, .int (v25))] [.int (v25), .int (v22), .ref (gAd E (56))] rfl ?_
  obtain ⟨R26, hv26, hr⟩ := bnd_s hr
  refine G.callV (56) [.int (v22), .int (v25)] [] (k_X12_clearSlot E _ hE R25 ⟨_, _, r25⟩ v22 v25 R26 hv26) cls_X12 (by omega) (r25.o) cw_X12_442 w_2575 w_121 (Nat.le_of_ble_eq_true rfl) rfl (Nat.le_of_ble_eq_true rfl) (tbd tv_X12_remove rfl) (fun v26w f26 q26 => ?_) (fun _ _ h => h.elim)
  obtain ⟨rfl, ⟨az26, sy26, r26⟩, fa26⟩ := q26
  refine G.eqs [] rfl ?_
  refine G.go tv_X12_remove 2 117 [(0, .ref (gAd E (56))), (2, .int (x2)), (3, .int (x3)), (4, .int (v22)), (5, .int (v25))] [.int (x3), .ref (gAd E (56))] rfl ?_
  obtain ⟨R27, hv27, hr⟩ := bnd_s hr
  refine G.callV (56) [.int (x3)] [] (k_X12_lose E _ hE R26 ⟨_, _, r26⟩ x3 R27 hv27) cls_X12 (by omega) (r26.o) cw_X12_445 w_2579 w_122 (Nat.le_of_ble_eq_true rfl) rfl (Nat.le_of_ble_eq_true rfl) (tbd tv_X12_remove rfl) (fun v27w f27 q27 => ?_) (fun _ _ h => h.elim)
  obtain ⟨rfl, ⟨az27, sy27, r27⟩, fa27⟩ := q27
  refine G.eqs [] rfl ?_
  refine G.go tv_X12_remove 2 122 [(0, .ref (gAd E (56))), (2, .int (x2)), (3, .int (x3)), (4, .int (v22)), (5, .int (v25))] [.int ((0 : Int32)), .ref (gAd E (56))] rfl ?_
  obtain ⟨v28, R28, hv28, hr⟩ := bnd2_s hr
  refine G.callV (56) [.int ((0 : Int32))] [] (k_X12_committed E _ hE R27 ⟨_, _, r27⟩ ((0 : Int32)) v28 R28 hv28) cls_X12 (by omega) (r27.o) cw_X12_436 w_2563 w_119 (Nat.le_of_ble_eq_true rfl) rfl (Nat.le_of_ble_eq_true rfl) (tbd tv_X12_remove rfl) (fun v28w f28 q28 => ?_) (fun _ _ h => h.elim)
  obtain ⟨rfl, ⟨az28, sy28, r28⟩, fa28⟩ := q28
  refine G.eqs [.int (v28)] rfl ?_
  cases hr
  exact G.iret rfl rfl ⟨rfl, ⟨_, _, r28⟩, (((((hf.tr fa22 (fun _ h => h)).tr fa25 (fun _ h => h)).tr fa26 (fun _ h => h)).tr fa27 (fun _ h => h)).tr fa28 (fun _ h => h))⟩ (tbd tv_X12_remove rfl)
set_option maxRecDepth 100000 in
set_option maxHeartbeats 4000000 in
theorem k_X12_remove (E : gE) (f : Nat → va_E) (hE : 94 ≤ gN E) (R : RfT) (w : RW E f R) (r : Int32) (R9 : RfT) (hr : e_remove R = some (r, R9)) : Ct E 12 yX12_remove cX12_remove 6 (some .int) [.ref (gAd E (56))] f (fun v g => v = some (.int r) ∧ RW E g R9 ∧ Fr RfK f g, fun _ _ => False) := by
  obtain ⟨az, sy, r0⟩ := w
  refine Ct.of (by decide) (Nat.le_of_ble_eq_true rfl) (fun sz => ?_)
  refine G.eql [(0, .ref (gAd E (56)))] rfl ?_
  unfold e_remove at hr
  refine G.go tv_X12_remove 1 1 [(0, .ref (gAd E (56)))] [.ref (gAd E (56))] rfl ?_
  obtain ⟨v16, R16, hv16, hr⟩ := bnd2_s hr
  refine G.callV (56) [] [] (k_X12_useTape E _ hE R ⟨_, _, r0⟩ v16 R16 hv16) cls_X12 (by omega) (r0.o) cw_X12_418 w_2480 w_99 (Nat.le_of_ble_eq_true rfl) rfl (Nat.le_of_ble_eq_true rfl) (tbd tv_X12_remove rfl) (fun v16w f16 q16 => ?_) (fun _ _ h => h.elim)
  obtain ⟨rfl, ⟨az16, sy16, r16⟩, fa16⟩ := q16
  refine G.eqs [.int (v16)] rfl ?_
  refine G.go tv_X12_remove 2 6 [(0, .ref (gAd E (56))), (1, .int (v16))] [.ref (gAd E (56))] rfl ?_
  obtain ⟨v17, R17, hv17, hr⟩ := bnd2_s hr
  refine G.callV (56) [] [] (k_X12_notMounted E _ hE R16 ⟨_, _, r16⟩ v17 R17 hv17) cls_X12 (by omega) (r16.o) cw_X12_403 w_2464 w_96 (Nat.le_of_ble_eq_true rfl) rfl (Nat.le_of_ble_eq_true rfl) (tbd tv_X12_remove rfl) (fun v17w f17 q17 => ?_) (fun _ _ h => h.elim)
  obtain ⟨rfl, ⟨az17, sy17, r17⟩, fa17⟩ := q17
  refine G.eqs [.int (v17)] rfl ?_
  refine G.if_eq 14 (tbd tv_X12_remove rfl) (by decide) (fun c9 => ?_) (fun c9 => ?_)
  · replace hr := ite_t c9 hr
    refine G.go tv_X12_remove 4 18 [(0, .ref (gAd E (56))), (1, .int (v16))] [.int ((0 : Int32)), .int (v16), .int ((0 : Int32)), .ref (gAd E (56))] rfl ?_
    obtain ⟨v18, R18, hv18, hr⟩ := bnd2_s hr
    refine G.callV (56) [.int ((0 : Int32)), .int (v16), .int ((0 : Int32))] [] (k_X12_path E _ hE R17 ⟨_, _, r17⟩ ((0 : Int32)) v16 ((0 : Int32)) v18 R18 hv18) cls_X12 (by omega) (r17.o) cw_X12_421 w_2484 w_100 (Nat.le_of_ble_eq_true rfl) rfl (Nat.le_of_ble_eq_true rfl) (tbd tv_X12_remove rfl) (fun v18w f18 q18 => ?_) (fun _ _ h => h.elim)
    obtain ⟨rfl, ⟨az18, sy18, r18⟩, fa18⟩ := q18
    refine G.eqs [.int (v18)] rfl ?_
    refine G.go tv_X12_remove 3 24 [(0, .ref (gAd E (56))), (1, .int (v16)), (2, .int (v18))] [.int ((1 : Int32)), .int (v18)] rfl ?_
    refine G.cmp_ge 40 (tbd tv_X12_remove rfl) (by decide) (fun c24 => ?_) (fun c24 => ?_)
    · replace hr := ite_t c24 hr
      refine G.go tv_X12_remove 3 43 [(0, .ref (gAd E (56))), (1, .int (v16)), (2, .int (v18))] [.int (v18), .int ((0 : Int32)), .ref (gAd E (56))] rfl ?_
      obtain ⟨v19, R19, hv19, hr⟩ := bnd2_s hr
      refine G.callV (56) [.int ((0 : Int32)), .int (v18)] [] (k_X12_walk E _ hE R18 ⟨_, _, r18⟩ ((0 : Int32)) v18 v19 R19 hv19) cls_X12 (by omega) (r18.o) cw_X12_364 w_2495 w_102 (Nat.le_of_ble_eq_true rfl) rfl (Nat.le_of_ble_eq_true rfl) (tbd tv_X12_remove rfl) (fun v19w f19 q19 => ?_) (fun _ _ h => h.elim)
      obtain ⟨rfl, ⟨az19, sy19, r19⟩, fa19⟩ := q19
      refine G.eqs [.int (v19)] rfl ?_
      refine G.go tv_X12_remove 2 48 [(0, .ref (gAd E (56))), (1, .int (v16)), (2, .int (v18)), (3, .int (v19))] [.int (v19)] rfl ?_
      refine G.if_ge 53 (tbd tv_X12_remove rfl) (by decide) (fun c48 => ?_) (fun c48 => ?_)
      · replace hr := ite_t c48 hr
        refine G.go tv_X12_remove 2 55 [(0, .ref (gAd E (56))), (1, .int (v16)), (2, .int (v18)), (3, .int (v19))] [.int (v19), .ref (gAd E (56))] rfl ?_
        obtain ⟨v20, hv20, hr⟩ := bnd_s hr
        refine G.callV (56) [.int (v19)] [] (k_X12_kind E _ hE R19 ⟨_, _, r19⟩ v19 v20 hv20) cls_X12 (by omega) (r19.o) cw_X12_326 w_2369 w_74 (Nat.le_of_ble_eq_true rfl) rfl (Nat.le_of_ble_eq_true rfl) (tbd tv_X12_remove rfl) (fun v20w f20 q20 => ?_) (fun _ _ h => h.elim)
        obtain ⟨rfl, ⟨az20, sy20, r20⟩, fa20⟩ := q20
        refine G.eqs [.int (v20)] rfl ?_
        refine G.go tv_X12_remove 1 59 [(0, .ref (gAd E (56))), (1, .int (v16)), (2, .int (v18)), (3, .int (v19))] [.int ((2 : Int32)), .int (v20)] rfl ?_
        refine G.cmp_ne 73 (tbd tv_X12_remove rfl) (by decide) (fun c59 => ?_) (fun c59 => ?_)
        · replace hr := ite_f c59 hr
          refine G.less [(0, .ref (gAd E (56))), (2, .int (v18)), (3, .int (v19))] [0, 2, 3] rfl ?_
          exact l_X12_remove_73 E f sz _ hE _ _ _ _ _ hr _ ⟨_, _, r20⟩ (((((Fr.rf.tr fa16 (fun _ h => h)).tr fa17 (fun _ h => h)).tr fa18 (fun _ h => h)).tr fa19 (fun _ h => h)).tr fa20 (fun _ h => h))
        · replace hr := ite_t c59 hr
          refine G.go tv_X12_remove 2 64 [(0, .ref (gAd E (56))), (1, .int (v16)), (2, .int (v18)), (3, .int (v19))] [.int (v19), .ref (gAd E (56))] rfl ?_
          obtain ⟨v21, hv21, hr⟩ := bnd_s hr
          refine G.callV (56) [.int (v19)] [] (k_X12_names E _ hE R19 ⟨_, _, r20⟩ v19 v21 hv21) cls_X12 (by omega) (r20.o) cw_X12_439 w_2571 w_120 (Nat.le_of_ble_eq_true rfl) rfl (Nat.le_of_ble_eq_true rfl) (tbd tv_X12_remove rfl) (fun v21w f21 q21 => ?_) (fun _ _ h => h.elim)
          obtain ⟨rfl, ⟨az21, sy21, r21⟩, fa21⟩ := q21
          refine G.eqs [.int (v21)] rfl ?_
          refine G.if_le 73 (tbd tv_X12_remove rfl) (by decide) (fun c67 => ?_) (fun c67 => ?_)
          · replace hr := ite_t c67 hr
            refine G.less [(0, .ref (gAd E (56))), (2, .int (v18)), (3, .int (v19))] [0, 2, 3] rfl ?_
            exact l_X12_remove_73 E f sz _ hE _ _ _ _ _ hr _ ⟨_, _, r21⟩ ((((((Fr.rf.tr fa16 (fun _ h => h)).tr fa17 (fun _ h => h)).tr fa18 (fun _ h => h)).tr fa19 (fun _ h => h)).tr fa20 (fun _ h => h)).tr fa21 (fun _ h => h))
          · replace hr := ite_f c67 hr
            refine G.go tv_X12_remove 1 72 [(0, .ref (gAd E (56))), (1, .int (v16)), (2, .int (v18)), (3, .int (v19))] [.int ((-5 : Int32))] rfl ?_
            cases hr
            exact G.iret rfl rfl ⟨rfl, ⟨_, _, r21⟩, ((((((Fr.rf.tr fa16 (fun _ h => h)).tr fa17 (fun _ h => h)).tr fa18 (fun _ h => h)).tr fa19 (fun _ h => h)).tr fa20 (fun _ h => h)).tr fa21 (fun _ h => h))⟩ (tbd tv_X12_remove rfl)
      · replace hr := ite_f c48 hr
        refine G.go tv_X12_remove 1 52 [(0, .ref (gAd E (56))), (1, .int (v16)), (2, .int (v18)), (3, .int (v19))] [.int (v19)] rfl ?_
        cases hr
        exact G.iret rfl rfl ⟨rfl, ⟨_, _, r19⟩, ((((Fr.rf.tr fa16 (fun _ h => h)).tr fa17 (fun _ h => h)).tr fa18 (fun _ h => h)).tr fa19 (fun _ h => h))⟩ (tbd tv_X12_remove rfl)
    · replace hr := ite_f c24 hr
      refine G.go tv_X12_remove 2 29 [(0, .ref (gAd E (56))), (1, .int (v16)), (2, .int (v18))] [.int ((-1 : Int32)), .int (v18)] rfl ?_
      refine G.cmp_ne 37 (tbd tv_X12_remove rfl) (by decide) (fun c29 => ?_) (fun c29 => ?_)
      · replace hr := ite_f c29 hr
        refine G.go tv_X12_remove 1 39 [(0, .ref (gAd E (56))), (1, .int (v16)), (2, .int (v18))] [.int ((-9 : Int32))] rfl ?_
        cases hr
        exact G.iret rfl rfl ⟨rfl, ⟨_, _, r18⟩, (((Fr.rf.tr fa16 (fun _ h => h)).tr fa17 (fun _ h => h)).tr fa18 (fun _ h => h))⟩ (tbd tv_X12_remove rfl)
      · replace hr := ite_t c29 hr
        refine G.go tv_X12_remove 2 39 [(0, .ref (gAd E (56))), (1, .int (v16)), (2, .int (v18))] [.int ((-6 : Int32))] rfl ?_
        cases hr
        exact G.iret rfl rfl ⟨rfl, ⟨_, _, r18⟩, (((Fr.rf.tr fa16 (fun _ h => h)).tr fa17 (fun _ h => h)).tr fa18 (fun _ h => h))⟩ (tbd tv_X12_remove rfl)
  · replace hr := ite_f c9 hr
    refine G.go tv_X12_remove 1 13 [(0, .ref (gAd E (56))), (1, .int (v16))] [.int ((0 : Int32))] rfl ?_
    cases hr
    exact G.iret rfl rfl ⟨rfl, ⟨_, _, r17⟩, ((Fr.rf.tr fa16 (fun _ h => h)).tr fa17 (fun _ h => h))⟩ (tbd tv_X12_remove rfl)
theorem w_2585 : Cond.methodLink "LedgerFilesModel" 451 yX12_twoPaths ∈ TB := tp_11 39 (by decide +kernel) rfl
theorem w_2588 : Cond.code yX12_twoPaths prog_14_method_88_code 4 (some .int) ∈ TB := tp_11 42 rfl rfl
theorem cw_X12_451 : Cw RX12 451 yX12_twoPaths cX12_twoPaths 4 (some .int) 1 := ⟨w_2585, w_2588, w_161, by decide +kernel, by decide +kernel, by decide⟩
theorem w_2587 : Cond.instanceMethod yX12_twoPaths ∈ TB := tp_11 41 (by decide +kernel) rfl
theorem w_123 : Cond.selects "LedgerFilesModel" yX12_twoPaths yX12_twoPaths ∈ TB := tp_0 123 (by decide +kernel) rfl
theorem w_2589 : Cond.methodLink "LedgerFilesModel" 454 yX12_isBelow ∈ TB := tp_11 43 (by decide +kernel) rfl
theorem w_2592 : Cond.code yX12_isBelow prog_14_method_89_code 5 (some .boolean) ∈ TB := tp_11 46 rfl rfl
theorem cw_X12_454 : Cw RX12 454 yX12_isBelow cX12_isBelow 5 (some .boolean) 1 := ⟨w_2589, w_2592, w_161, by decide +kernel, by decide +kernel, by decide⟩
theorem w_2591 : Cond.instanceMethod yX12_isBelow ∈ TB := tp_11 45 (by decide +kernel) rfl
theorem w_124 : Cond.selects "LedgerFilesModel" yX12_isBelow yX12_isBelow ∈ TB := tp_0 124 (by decide +kernel) rfl
noncomputable def e_rename_310  (R : RfT) (x2 : Int32) (x3 : Int32) (x4 : Int32) (x5 : Int32) (x6 : Int32) : Option (Int32 × RfT) := bnd (e_clearSlot R x5 x6) (fun R45 => ld (rA R45 50) 32 (((15 : Int32)) + (x2)) (fun v46 => ld (rA R45 51) 32 (((15 : Int32)) + (x2)) (fun v47 => bnd (e_addName R45 x4 v46 v47 x3) (fun R48 => bnd2 (e_committed R48 ((0 : Int32))) (fun v49 R49 => some (v49, R49))))))
noncomputable def e_rename_246  (R : RfT) (x3 : Int32) (x4 : Int32) (x5 : Int32) (x6 : Int32) (x7 : Int32) (x8 : Int32) : Option (Int32 × RfT) := bnd (e_blockOf R x4 ((x7) / ((8 : Int32)))) (fun v52 => bnd (e_setNumber R v52 (((16 : Int32)) * ((x7) - (x7) / ((8 : Int32)) * ((8 : Int32)))) ((2 : Int32)) x3) (fun R53 => bnd (e_clearSlot R53 x5 x6) (fun R54 => bnd (e_lose R54 x8) (fun R55 => bnd2 (e_committed R55 ((0 : Int32))) (fun v56 R56 => some (v56, R56))))))
noncomputable def e_rename_229  (R : RfT) (x3 : Int32) (x4 : Int32) (x5 : Int32) (x6 : Int32) (x7 : Int32) (x8 : Int32) (x9 : Int32) : Option (Int32 × RfT) := if x9 = 0 then e_rename_246  R x3 x4 x5 x6 x7 x8 else bnd (e_names R x8) (fun v51 => if v51 ≤ 0 then e_rename_246  R x3 x4 x5 x6 x7 x8 else some ((-5 : Int32), R))
noncomputable def e_rename_196  (R : RfT) (x3 : Int32) (x4 : Int32) (x5 : Int32) (x6 : Int32) (x7 : Int32) (x8 : Int32) (x9 : Int32) : Option (Int32 × RfT) := bnd (e_kind R x8) (fun v50 => if v50 = ((2 : Int32)) then if x9 = ((1 : Int32)) then e_rename_229  R x3 x4 x5 x6 x7 x8 x9 else if x9 = 0 then some ((-4 : Int32), R) else some ((-3 : Int32), R) else if x9 = ((0 : Int32)) then e_rename_229  R x3 x4 x5 x6 x7 x8 x9 else if x9 = 0 then some ((-4 : Int32), R) else some ((-3 : Int32), R))
noncomputable def e_rename  (R : RfT) : Option (Int32 × RfT) := bnd2 (e_useTape R) (fun v29 R29 => bnd2 (e_notMounted R29) (fun v30 R30 => if v30 = 0 then bnd2 (e_twoPaths R30 v29) (fun v31 R31 => if v31 = ((-1 : Int32)) then some ((-6 : Int32), R31) else bnd2 (e_walk R31 ((0 : Int32)) (rS R31 56)) (fun v32 R32 => if 0 ≤ v32 then if (rS R32 56) = 0 then some ((-9 : Int32), R32) else if v31 = 0 then some ((-9 : Int32), R32) else bnd (e_isBelow R32 v31) (fun v33 => if v33 = 0 then bnd2 (e_walkAhead R32 ((16 : Int32)) ((v31) - ((1 : Int32)))) (fun v34 R34 => if 0 ≤ v34 then bnd2 (e_walk R34 ((0 : Int32)) ((rS R34 56) - ((1 : Int32)))) (fun v35 R35 => ld (rA R35 50) 32 ((rS R35 56) - ((1 : Int32))) (fun v36 => ld (rA R35 51) 32 ((rS R35 56) - ((1 : Int32))) (fun v37 => bnd2 (e_slotOf R35 v35 v36 v37) (fun v38 R38 => ld (rA R38 50) 32 (((15 : Int32)) + (v31)) (fun v39 => ld (rA R38 51) 32 (((15 : Int32)) + (v31)) (fun v40 => bnd2 (e_slotOf R38 v34 v39 v40) (fun v41 R41 => if v41 = ((-1 : Int32)) then if v34 = v35 then e_rename_310  R41 v31 v32 v34 v35 v38 else bnd2 (e_hasNoRoom R41 v34) (fun v42 R42 => if v42 = 0 then e_rename_310  R42 v31 v32 v34 v35 v38 else some ((-7 : Int32), R42)) else bnd (e_slotNumber R41 v34 v41 ((0 : Int32)) ((2 : Int32))) (fun v43 => if v43 = v32 then some ((0 : Int32), R41) else bnd (e_kind R41 v32) (fun v44 => if v44 = ((2 : Int32)) then e_rename_196  R41 v32 v34 v35 v38 v41 v43 ((1 : Int32)) else e_rename_196  R41 v32 v34 v35 v38 v41 v43 ((0 : Int32))))))))))) else some (v34, R34)) else some ((-9 : Int32), R32)) else some (v32, R32))) else some ((0 : Int32), R30)))
set_option maxRecDepth 100000 in
set_option maxHeartbeats 4000000 in
theorem l_X12_rename_310 (E : gE) (f0 : Nat → va_E) (sz : Nat) (QA : Nat → Prop) (hE : 94 ≤ gN E) : ∀ (R : RfT) (x2 : Int32) (x3 : Int32) (x4 : Int32) (x5 : Int32) (x6 : Int32) (r : Int32) (R9 : RfT) (hr : e_rename_310  R x2 x3 x4 x5 x6 = some (r, R9)) (f : Nat → va_E) (w : RW E f R) (hf : Fr RfK f0 f), G E (14, yX12_rename, 10, (some .int), sz, QA) cX12_rename (gO E (14, yX12_rename, 10, (some .int), sz, QA) (fun v g => v = some (.int r) ∧ RW E g R9 ∧ Fr RfK f0 g, fun _ _ => False)) 310 [(0, .ref (gAd E (56))), (2, .int (x2)), (3, .int (x3)), (4, .int (x4)), (5, .int (x5)), (6, .int (x6))] [] f := by
  intro R x2 x3 x4 x5 x6 r R9 hr f w hf
  obtain ⟨az, sy, r0⟩ := w
  unfold e_rename_310 at hr
  refine G.go tv_X12_rename 3 315 [(0, .ref (gAd E (56))), (2, .int (x2)), (3, .int (x3)), (4, .int (x4)), (5, .int (x5)), (6, .int (x6))] [.int (x6), .int (x5), .ref (gAd E (56))] rfl ?_
  obtain ⟨R45, hv45, hr⟩ := bnd_s hr
  refine G.callV (56) [.int (x5), .int (x6)] [] (k_X12_clearSlot E _ hE R ⟨_, _, r0⟩ x5 x6 R45 hv45) cls_X12 (by omega) (r0.o) cw_X12_442 w_2575 w_121 (Nat.le_of_ble_eq_true rfl) rfl (Nat.le_of_ble_eq_true rfl) (tbd tv_X12_rename rfl) (fun v45w f45 q45 => ?_) (fun _ _ h => h.elim)
  obtain ⟨rfl, ⟨az45, sy45, r45⟩, fa45⟩ := q45
  refine G.eqs [] rfl ?_
  refine G.go tv_X12_rename 3 322 [(0, .ref (gAd E (56))), (2, .int (x2)), (3, .int (x3)), (4, .int (x4)), (5, .int (x5)), (6, .int (x6))] [.ref (gAd E (56)), .int (x4), .ref (gAd E (56))] rfl ?_
  refine G.rg r45 hE 50 (.ref (gAd E (84))) (by decide) rfl (tbd tv_X12_rename rfl) w_2115 ?_
  refine G.go tv_X12_rename 3 329 [(0, .ref (gAd E (56))), (2, .int (x2)), (3, .int (x3)), (4, .int (x4)), (5, .int (x5)), (6, .int (x6))] [.int (((15 : Int32)) + (x2)), .ref (gAd E (84)), .int (x4), .ref (gAd E (56))] rfl ?_
  obtain ⟨v46, b46, e46, hr⟩ := ld_s hr
  refine G.ialdE (84) (by omega) (r45.a50) b46 e46 (tbd tv_X12_rename rfl) ?_
  refine G.go tv_X12_rename 1 331 [(0, .ref (gAd E (56))), (2, .int (x2)), (3, .int (x3)), (4, .int (x4)), (5, .int (x5)), (6, .int (x6))] [.ref (gAd E (56)), .int (v46), .int (x4), .ref (gAd E (56))] rfl ?_
  refine G.rg r45 hE 51 (.ref (gAd E (85))) (by decide) rfl (tbd tv_X12_rename rfl) w_2116 ?_
  refine G.go tv_X12_rename 3 338 [(0, .ref (gAd E (56))), (2, .int (x2)), (3, .int (x3)), (4, .int (x4)), (5, .int (x5)), (6, .int (x6))] [.int (((15 : Int32)) + (x2)), .ref (gAd E (85)), .int (v46), .int (x4), .ref (gAd E (56))] rfl ?_
  obtain ⟨v47, b47, e47, hr⟩ := ld_s hr
  refine G.ialdE (85) (by omega) (r45.a51) b47 e47 (tbd tv_X12_rename rfl) ?_
  refine G.go tv_X12_rename 1 340 [(0, .ref (gAd E (56))), (2, .int (x2)), (3, .int (x3)), (4, .int (x4)), (5, .int (x5)), (6, .int (x6))] [.int (x3), .int (v47), .int (v46), .int (x4), .ref (gAd E (56))] rfl ?_
  obtain ⟨R48, hv48, hr⟩ := bnd_s hr
  refine G.callV (56) [.int (x4), .int (v46), .int (v47), .int (x3)] [] (k_X12_addName E _ hE R45 ⟨_, _, r45⟩ x4 v46 v47 x3 R48 hv48) cls_X12 (by omega) (r45.o) cw_X12_433 w_2543 w_114 (Nat.le_of_ble_eq_true rfl) rfl (Nat.le_of_ble_eq_true rfl) (tbd tv_X12_rename rfl) (fun v48w f48 q48 => ?_) (fun _ _ h => h.elim)
  obtain ⟨rfl, ⟨az48, sy48, r48⟩, fa48⟩ := q48
  refine G.eqs [] rfl ?_
  refine G.go tv_X12_rename 2 345 [(0, .ref (gAd E (56))), (2, .int (x2)), (3, .int (x3)), (4, .int (x4)), (5, .int (x5)), (6, .int (x6))] [.int ((0 : Int32)), .ref (gAd E (56))] rfl ?_
  obtain ⟨v49, R49, hv49, hr⟩ := bnd2_s hr
  refine G.callV (56) [.int ((0 : Int32))] [] (k_X12_committed E _ hE R48 ⟨_, _, r48⟩ ((0 : Int32)) v49 R49 hv49) cls_X12 (by omega) (r48.o) cw_X12_436 w_2563 w_119 (Nat.le_of_ble_eq_true rfl) rfl (Nat.le_of_ble_eq_true rfl) (tbd tv_X12_rename rfl) (fun v49w f49 q49 => ?_) (fun _ _ h => h.elim)
  obtain ⟨rfl, ⟨az49, sy49, r49⟩, fa49⟩ := q49
  refine G.eqs [.int (v49)] rfl ?_
  cases hr
  exact G.iret rfl rfl ⟨rfl, ⟨_, _, r49⟩, (((hf.tr fa45 (fun _ h => h)).tr fa48 (fun _ h => h)).tr fa49 (fun _ h => h))⟩ (tbd tv_X12_rename rfl)
set_option maxRecDepth 100000 in
set_option maxHeartbeats 4000000 in
theorem l_X12_rename_246 (E : gE) (f0 : Nat → va_E) (sz : Nat) (QA : Nat → Prop) (hE : 94 ≤ gN E) : ∀ (R : RfT) (x3 : Int32) (x4 : Int32) (x5 : Int32) (x6 : Int32) (x7 : Int32) (x8 : Int32) (r : Int32) (R9 : RfT) (hr : e_rename_246  R x3 x4 x5 x6 x7 x8 = some (r, R9)) (f : Nat → va_E) (w : RW E f R) (hf : Fr RfK f0 f), G E (14, yX12_rename, 10, (some .int), sz, QA) cX12_rename (gO E (14, yX12_rename, 10, (some .int), sz, QA) (fun v g => v = some (.int r) ∧ RW E g R9 ∧ Fr RfK f0 g, fun _ _ => False)) 246 [(0, .ref (gAd E (56))), (3, .int (x3)), (4, .int (x4)), (5, .int (x5)), (6, .int (x6)), (7, .int (x7)), (8, .int (x8))] [] f := by
  intro R x3 x4 x5 x6 x7 x8 r R9 hr f w hf
  obtain ⟨az, sy, r0⟩ := w
  unfold e_rename_246 at hr
  refine G.go tv_X12_rename 5 254 [(0, .ref (gAd E (56))), (3, .int (x3)), (4, .int (x4)), (5, .int (x5)), (6, .int (x6)), (7, .int (x7)), (8, .int (x8))] [.int ((8 : Int32)), .int (x7), .int (x4), .ref (gAd E (56)), .ref (gAd E (56))] rfl ?_
  refine G.idiv (by decide) (tbd tv_X12_rename rfl) ?_
  obtain ⟨v52, hv52, hr⟩ := bnd_s hr
  refine G.callV (56) [.int (x4), .int ((x7) / ((8 : Int32)))] [.ref (gAd E (56))] (k_X12_blockOf E _ hE R ⟨_, _, r0⟩ x4 ((x7) / ((8 : Int32))) v52 hv52) cls_X12 (by omega) (r0.o) cw_X12_323 w_2507 w_105 (Nat.le_of_ble_eq_true rfl) rfl (Nat.le_of_ble_eq_true rfl) (tbd tv_X12_rename rfl) (fun v52w f52 q52 => ?_) (fun _ _ h => h.elim)
  obtain ⟨rfl, ⟨az52, sy52, r52⟩, fa52⟩ := q52
  refine G.eqs [.int (v52), .ref (gAd E (56))] rfl ?_
  refine G.go tv_X12_rename 3 264 [(0, .ref (gAd E (56))), (3, .int (x3)), (4, .int (x4)), (5, .int (x5)), (6, .int (x6)), (7, .int (x7)), (8, .int (x8))] [.int ((8 : Int32)), .int (x7), .int ((16 : Int32)), .int (v52), .ref (gAd E (56))] rfl ?_
  refine G.irem (by decide) (tbd tv_X12_rename rfl) ?_
  refine G.go tv_X12_rename 3 268 [(0, .ref (gAd E (56))), (3, .int (x3)), (4, .int (x4)), (5, .int (x5)), (6, .int (x6)), (7, .int (x7)), (8, .int (x8))] [.int (x3), .int ((2 : Int32)), .int (((16 : Int32)) * ((x7) - (x7) / ((8 : Int32)) * ((8 : Int32)))), .int (v52), .ref (gAd E (56))] rfl ?_
  obtain ⟨R53, hv53, hr⟩ := bnd_s hr
  refine G.callV (56) [.int (v52), .int (((16 : Int32)) * ((x7) - (x7) / ((8 : Int32)) * ((8 : Int32)))), .int ((2 : Int32)), .int (x3)] [] (k_X12_setNumber E _ hE R ⟨_, _, r52⟩ v52 (((16 : Int32)) * ((x7) - (x7) / ((8 : Int32)) * ((8 : Int32)))) ((2 : Int32)) x3 R53 hv53) cls_X12 (by omega) (r52.o) cw_X12_299 w_2412 w_84 (Nat.le_of_ble_eq_true rfl) rfl (Nat.le_of_ble_eq_true rfl) (tbd tv_X12_rename rfl) (fun v53w f53 q53 => ?_) (fun _ _ h => h.elim)
  obtain ⟨rfl, ⟨az53, sy53, r53⟩, fa53⟩ := q53
  refine G.eqs [] rfl ?_
  refine G.go tv_X12_rename 3 276 [(0, .ref (gAd E (56))), (3, .int (x3)), (4, .int (x4)), (5, .int (x5)), (6, .int (x6)), (7, .int (x7)), (8, .int (x8))] [.int (x6), .int (x5), .ref (gAd E (56))] rfl ?_
  obtain ⟨R54, hv54, hr⟩ := bnd_s hr
  refine G.callV (56) [.int (x5), .int (x6)] [] (k_X12_clearSlot E _ hE R53 ⟨_, _, r53⟩ x5 x6 R54 hv54) cls_X12 (by omega) (r53.o) cw_X12_442 w_2575 w_121 (Nat.le_of_ble_eq_true rfl) rfl (Nat.le_of_ble_eq_true rfl) (tbd tv_X12_rename rfl) (fun v54w f54 q54 => ?_) (fun _ _ h => h.elim)
  obtain ⟨rfl, ⟨az54, sy54, r54⟩, fa54⟩ := q54
  refine G.eqs [] rfl ?_
  refine G.go tv_X12_rename 2 282 [(0, .ref (gAd E (56))), (3, .int (x3)), (4, .int (x4)), (5, .int (x5)), (6, .int (x6)), (7, .int (x7)), (8, .int (x8))] [.int (x8), .ref (gAd E (56))] rfl ?_
  obtain ⟨R55, hv55, hr⟩ := bnd_s hr
  refine G.callV (56) [.int (x8)] [] (k_X12_lose E _ hE R54 ⟨_, _, r54⟩ x8 R55 hv55) cls_X12 (by omega) (r54.o) cw_X12_445 w_2579 w_122 (Nat.le_of_ble_eq_true rfl) rfl (Nat.le_of_ble_eq_true rfl) (tbd tv_X12_rename rfl) (fun v55w f55 q55 => ?_) (fun _ _ h => h.elim)
  obtain ⟨rfl, ⟨az55, sy55, r55⟩, fa55⟩ := q55
  refine G.eqs [] rfl ?_
  refine G.go tv_X12_rename 2 287 [(0, .ref (gAd E (56))), (3, .int (x3)), (4, .int (x4)), (5, .int (x5)), (6, .int (x6)), (7, .int (x7)), (8, .int (x8))] [.int ((0 : Int32)), .ref (gAd E (56))] rfl ?_
  obtain ⟨v56, R56, hv56, hr⟩ := bnd2_s hr
  refine G.callV (56) [.int ((0 : Int32))] [] (k_X12_committed E _ hE R55 ⟨_, _, r55⟩ ((0 : Int32)) v56 R56 hv56) cls_X12 (by omega) (r55.o) cw_X12_436 w_2563 w_119 (Nat.le_of_ble_eq_true rfl) rfl (Nat.le_of_ble_eq_true rfl) (tbd tv_X12_rename rfl) (fun v56w f56 q56 => ?_) (fun _ _ h => h.elim)
  obtain ⟨rfl, ⟨az56, sy56, r56⟩, fa56⟩ := q56
  refine G.eqs [.int (v56)] rfl ?_
  cases hr
  exact G.iret rfl rfl ⟨rfl, ⟨_, _, r56⟩, (((((hf.tr fa52 (fun _ h => h)).tr fa53 (fun _ h => h)).tr fa54 (fun _ h => h)).tr fa55 (fun _ h => h)).tr fa56 (fun _ h => h))⟩ (tbd tv_X12_rename rfl)
set_option maxRecDepth 100000 in
set_option maxHeartbeats 4000000 in
theorem l_X12_rename_229 (E : gE) (f0 : Nat → va_E) (sz : Nat) (QA : Nat → Prop) (hE : 94 ≤ gN E) : ∀ (R : RfT) (x3 : Int32) (x4 : Int32) (x5 : Int32) (x6 : Int32) (x7 : Int32) (x8 : Int32) (x9 : Int32) (r : Int32) (R9 : RfT) (hr : e_rename_229  R x3 x4 x5 x6 x7 x8 x9 = some (r, R9)) (f : Nat → va_E) (w : RW E f R) (hf : Fr RfK f0 f), G E (14, yX12_rename, 10, (some .int), sz, QA) cX12_rename (gO E (14, yX12_rename, 10, (some .int), sz, QA) (fun v g => v = some (.int r) ∧ RW E g R9 ∧ Fr RfK f0 g, fun _ _ => False)) 229 [(0, .ref (gAd E (56))), (3, .int (x3)), (4, .int (x4)), (5, .int (x5)), (6, .int (x6)), (7, .int (x7)), (8, .int (x8)), (9, .int (x9))] [] f := by
  intro R x3 x4 x5 x6 x7 x8 x9 r R9 hr f w hf
  obtain ⟨az, sy, r0⟩ := w
  unfold e_rename_229 at hr
  refine G.go tv_X12_rename 1 231 [(0, .ref (gAd E (56))), (3, .int (x3)), (4, .int (x4)), (5, .int (x5)), (6, .int (x6)), (7, .int (x7)), (8, .int (x8)), (9, .int (x9))] [.int (x9)] rfl ?_
  refine G.if_eq 246 (tbd tv_X12_rename rfl) (by decide) (fun c231 => ?_) (fun c231 => ?_)
  · replace hr := ite_t c231 hr
    refine G.less [(0, .ref (gAd E (56))), (3, .int (x3)), (4, .int (x4)), (5, .int (x5)), (6, .int (x6)), (7, .int (x7)), (8, .int (x8))] [0, 1, 2, 3, 4, 5, 6] rfl ?_
    exact l_X12_rename_246 E f0 sz QA hE _ _ _ _ _ _ _ _ _ hr _ ⟨_, _, r0⟩ hf
  · replace hr := ite_f c231 hr
    refine G.go tv_X12_rename 2 237 [(0, .ref (gAd E (56))), (3, .int (x3)), (4, .int (x4)), (5, .int (x5)), (6, .int (x6)), (7, .int (x7)), (8, .int (x8)), (9, .int (x9))] [.int (x8), .ref (gAd E (56))] rfl ?_
    obtain ⟨v51, hv51, hr⟩ := bnd_s hr
    refine G.callV (56) [.int (x8)] [] (k_X12_names E _ hE R ⟨_, _, r0⟩ x8 v51 hv51) cls_X12 (by omega) (r0.o) cw_X12_439 w_2571 w_120 (Nat.le_of_ble_eq_true rfl) rfl (Nat.le_of_ble_eq_true rfl) (tbd tv_X12_rename rfl) (fun v51w f51 q51 => ?_) (fun _ _ h => h.elim)
    obtain ⟨rfl, ⟨az51, sy51, r51⟩, fa51⟩ := q51
    refine G.eqs [.int (v51)] rfl ?_
    refine G.if_le 246 (tbd tv_X12_rename rfl) (by decide) (fun c240 => ?_) (fun c240 => ?_)
    · replace hr := ite_t c240 hr
      refine G.less [(0, .ref (gAd E (56))), (3, .int (x3)), (4, .int (x4)), (5, .int (x5)), (6, .int (x6)), (7, .int (x7)), (8, .int (x8))] [0, 1, 2, 3, 4, 5, 6] rfl ?_
      exact l_X12_rename_246 E f0 sz QA hE _ _ _ _ _ _ _ _ _ hr _ ⟨_, _, r51⟩ (hf.tr fa51 (fun _ h => h))
    · replace hr := ite_f c240 hr
      refine G.go tv_X12_rename 1 245 [(0, .ref (gAd E (56))), (3, .int (x3)), (4, .int (x4)), (5, .int (x5)), (6, .int (x6)), (7, .int (x7)), (8, .int (x8)), (9, .int (x9))] [.int ((-5 : Int32))] rfl ?_
      cases hr
      exact G.iret rfl rfl ⟨rfl, ⟨_, _, r51⟩, (hf.tr fa51 (fun _ h => h))⟩ (tbd tv_X12_rename rfl)
set_option maxRecDepth 100000 in
set_option maxHeartbeats 4000000 in
theorem l_X12_rename_196 (E : gE) (f0 : Nat → va_E) (sz : Nat) (QA : Nat → Prop) (hE : 94 ≤ gN E) : ∀ (R : RfT) (x3 : Int32) (x4 : Int32) (x5 : Int32) (x6 : Int32) (x7 : Int32) (x8 : Int32) (x9 : Int32) (r : Int32) (R9 : RfT) (hr : e_rename_196  R x3 x4 x5 x6 x7 x8 x9 = some (r, R9)) (f : Nat → va_E) (w : RW E f R) (hf : Fr RfK f0 f), G E (14, yX12_rename, 10, (some .int), sz, QA) cX12_rename (gO E (14, yX12_rename, 10, (some .int), sz, QA) (fun v g => v = some (.int r) ∧ RW E g R9 ∧ Fr RfK f0 g, fun _ _ => False)) 196 [(0, .ref (gAd E (56))), (3, .int (x3)), (4, .int (x4)), (5, .int (x5)), (6, .int (x6)), (7, .int (x7)), (8, .int (x8)), (9, .int (x9))] [] f := by
  intro R x3 x4 x5 x6 x7 x8 x9 r R9 hr f w hf
  obtain ⟨az, sy, r0⟩ := w
  unfold e_rename_196 at hr
  refine G.go tv_X12_rename 3 201 [(0, .ref (gAd E (56))), (3, .int (x3)), (4, .int (x4)), (5, .int (x5)), (6, .int (x6)), (7, .int (x7)), (8, .int (x8)), (9, .int (x9))] [.int (x8), .ref (gAd E (56)), .int (x9)] rfl ?_
  obtain ⟨v50, hv50, hr⟩ := bnd_s hr
  refine G.callV (56) [.int (x8)] [.int (x9)] (k_X12_kind E _ hE R ⟨_, _, r0⟩ x8 v50 hv50) cls_X12 (by omega) (r0.o) cw_X12_326 w_2369 w_74 (Nat.le_of_ble_eq_true rfl) rfl (Nat.le_of_ble_eq_true rfl) (tbd tv_X12_rename rfl) (fun v50w f50 q50 => ?_) (fun _ _ h => h.elim)
  obtain ⟨rfl, ⟨az50, sy50, r50⟩, fa50⟩ := q50
  refine G.eqs [.int (v50), .int (x9)] rfl ?_
  refine G.go tv_X12_rename 1 205 [(0, .ref (gAd E (56))), (3, .int (x3)), (4, .int (x4)), (5, .int (x5)), (6, .int (x6)), (7, .int (x7)), (8, .int (x8)), (9, .int (x9))] [.int ((2 : Int32)), .int (v50), .int (x9)] rfl ?_
  refine G.cmp_ne 212 (tbd tv_X12_rename rfl) (by decide) (fun c205 => ?_) (fun c205 => ?_)
  · replace hr := ite_f c205 hr
    refine G.go tv_X12_rename 1 213 [(0, .ref (gAd E (56))), (3, .int (x3)), (4, .int (x4)), (5, .int (x5)), (6, .int (x6)), (7, .int (x7)), (8, .int (x8)), (9, .int (x9))] [.int ((0 : Int32)), .int (x9)] rfl ?_
    refine G.cmp_eq 229 (tbd tv_X12_rename rfl) (by decide) (fun c213 => ?_) (fun c213 => ?_)
    · replace hr := ite_t c213 hr
      refine G.less [(0, .ref (gAd E (56))), (3, .int (x3)), (4, .int (x4)), (5, .int (x5)), (6, .int (x6)), (7, .int (x7)), (8, .int (x8)), (9, .int (x9))] [0, 1, 2, 3, 4, 5, 6, 7] rfl ?_
      exact l_X12_rename_229 E f0 sz QA hE _ _ _ _ _ _ _ _ _ _ hr _ ⟨_, _, r50⟩ (hf.tr fa50 (fun _ h => h))
    · replace hr := ite_f c213 hr
      refine G.go tv_X12_rename 1 218 [(0, .ref (gAd E (56))), (3, .int (x3)), (4, .int (x4)), (5, .int (x5)), (6, .int (x6)), (7, .int (x7)), (8, .int (x8)), (9, .int (x9))] [.int (x9)] rfl ?_
      refine G.if_eq 226 (tbd tv_X12_rename rfl) (by decide) (fun c218 => ?_) (fun c218 => ?_)
      · replace hr := ite_t c218 hr
        refine G.go tv_X12_rename 1 228 [(0, .ref (gAd E (56))), (3, .int (x3)), (4, .int (x4)), (5, .int (x5)), (6, .int (x6)), (7, .int (x7)), (8, .int (x8)), (9, .int (x9))] [.int ((-4 : Int32))] rfl ?_
        cases hr
        exact G.iret rfl rfl ⟨rfl, ⟨_, _, r50⟩, (hf.tr fa50 (fun _ h => h))⟩ (tbd tv_X12_rename rfl)
      · replace hr := ite_f c218 hr
        refine G.go tv_X12_rename 2 228 [(0, .ref (gAd E (56))), (3, .int (x3)), (4, .int (x4)), (5, .int (x5)), (6, .int (x6)), (7, .int (x7)), (8, .int (x8)), (9, .int (x9))] [.int ((-3 : Int32))] rfl ?_
        cases hr
        exact G.iret rfl rfl ⟨rfl, ⟨_, _, r50⟩, (hf.tr fa50 (fun _ h => h))⟩ (tbd tv_X12_rename rfl)
  · replace hr := ite_t c205 hr
    refine G.go tv_X12_rename 2 213 [(0, .ref (gAd E (56))), (3, .int (x3)), (4, .int (x4)), (5, .int (x5)), (6, .int (x6)), (7, .int (x7)), (8, .int (x8)), (9, .int (x9))] [.int ((1 : Int32)), .int (x9)] rfl ?_
    refine G.cmp_eq 229 (tbd tv_X12_rename rfl) (by decide) (fun c213 => ?_) (fun c213 => ?_)
    · replace hr := ite_t c213 hr
      refine G.less [(0, .ref (gAd E (56))), (3, .int (x3)), (4, .int (x4)), (5, .int (x5)), (6, .int (x6)), (7, .int (x7)), (8, .int (x8)), (9, .int (x9))] [0, 1, 2, 3, 4, 5, 6, 7] rfl ?_
      exact l_X12_rename_229 E f0 sz QA hE _ _ _ _ _ _ _ _ _ _ hr _ ⟨_, _, r50⟩ (hf.tr fa50 (fun _ h => h))
    · replace hr := ite_f c213 hr
      refine G.go tv_X12_rename 1 218 [(0, .ref (gAd E (56))), (3, .int (x3)), (4, .int (x4)), (5, .int (x5)), (6, .int (x6)), (7, .int (x7)), (8, .int (x8)), (9, .int (x9))] [.int (x9)] rfl ?_
      refine G.if_eq 226 (tbd tv_X12_rename rfl) (by decide) (fun c218 => ?_) (fun c218 => ?_)
      · replace hr := ite_t c218 hr
        refine G.go tv_X12_rename 1 228 [(0, .ref (gAd E (56))), (3, .int (x3)), (4, .int (x4)), (5, .int (x5)), (6, .int (x6)), (7, .int (x7)), (8, .int (x8)), (9, .int (x9))] [.int ((-4 : Int32))] rfl ?_
        cases hr
        exact G.iret rfl rfl ⟨rfl, ⟨_, _, r50⟩, (hf.tr fa50 (fun _ h => h))⟩ (tbd tv_X12_rename rfl)
      · replace hr := ite_f c218 hr
        refine G.go tv_X12_rename 2 228 [(0, .ref (gAd E (56))), (3, .int (x3)), (4, .int (x4)), (5, .int (x5)), (6, .int (x6)), (7, .int (x7)), (8, .int (x8)), (9, .int (x9))] [.int ((-3 : Int32))] rfl ?_
        cases hr
        exact G.iret rfl rfl ⟨rfl, ⟨_, _, r50⟩, (hf.tr fa50 (fun _ h => h))⟩ (tbd tv_X12_rename rfl)
set_option maxRecDepth 100000 in
set_option maxHeartbeats 4000000 in
theorem k_X12_rename (E : gE) (f : Nat → va_E) (hE : 94 ≤ gN E) (R : RfT) (w : RW E f R) (r : Int32) (R9 : RfT) (hr : e_rename R = some (r, R9)) : Ct E 14 yX12_rename cX12_rename 10 (some .int) [.ref (gAd E (56))] f (fun v g => v = some (.int r) ∧ RW E g R9 ∧ Fr RfK f g, fun _ _ => False) := by
  obtain ⟨az, sy, r0⟩ := w
  refine Ct.of (by decide) (Nat.le_of_ble_eq_true rfl) (fun sz => ?_)
  refine G.eql [(0, .ref (gAd E (56)))] rfl ?_
  unfold e_rename at hr
  refine G.go tv_X12_rename 1 1 [(0, .ref (gAd E (56)))] [.ref (gAd E (56))] rfl ?_
  obtain ⟨v29, R29, hv29, hr⟩ := bnd2_s hr
  refine G.callV (56) [] [] (k_X12_useTape E _ hE R ⟨_, _, r0⟩ v29 R29 hv29) cls_X12 (by omega) (r0.o) cw_X12_418 w_2480 w_99 (Nat.le_of_ble_eq_true rfl) rfl (Nat.le_of_ble_eq_true rfl) (tbd tv_X12_rename rfl) (fun v29w f29 q29 => ?_) (fun _ _ h => h.elim)
  obtain ⟨rfl, ⟨az29, sy29, r29⟩, fa29⟩ := q29
  refine G.eqs [.int (v29)] rfl ?_
  refine G.go tv_X12_rename 2 6 [(0, .ref (gAd E (56))), (1, .int (v29))] [.ref (gAd E (56))] rfl ?_
  obtain ⟨v30, R30, hv30, hr⟩ := bnd2_s hr
  refine G.callV (56) [] [] (k_X12_notMounted E _ hE R29 ⟨_, _, r29⟩ v30 R30 hv30) cls_X12 (by omega) (r29.o) cw_X12_403 w_2464 w_96 (Nat.le_of_ble_eq_true rfl) rfl (Nat.le_of_ble_eq_true rfl) (tbd tv_X12_rename rfl) (fun v30w f30 q30 => ?_) (fun _ _ h => h.elim)
  obtain ⟨rfl, ⟨az30, sy30, r30⟩, fa30⟩ := q30
  refine G.eqs [.int (v30)] rfl ?_
  refine G.if_eq 14 (tbd tv_X12_rename rfl) (by decide) (fun c9 => ?_) (fun c9 => ?_)
  · replace hr := ite_t c9 hr
    refine G.go tv_X12_rename 2 16 [(0, .ref (gAd E (56))), (1, .int (v29))] [.int (v29), .ref (gAd E (56))] rfl ?_
    obtain ⟨v31, R31, hv31, hr⟩ := bnd2_s hr
    refine G.callV (56) [.int (v29)] [] (k_X12_twoPaths E _ hE R30 ⟨_, _, r30⟩ v29 v31 R31 hv31) cls_X12 (by omega) (r30.o) cw_X12_451 w_2587 w_123 (Nat.le_of_ble_eq_true rfl) rfl (Nat.le_of_ble_eq_true rfl) (tbd tv_X12_rename rfl) (fun v31w f31 q31 => ?_) (fun _ _ h => h.elim)
    obtain ⟨rfl, ⟨az31, sy31, r31⟩, fa31⟩ := q31
    refine G.eqs [.int (v31)] rfl ?_
    refine G.go tv_X12_rename 3 22 [(0, .ref (gAd E (56))), (1, .int (v29)), (2, .int (v31))] [.int ((-1 : Int32)), .int (v31)] rfl ?_
    refine G.cmp_ne 28 (tbd tv_X12_rename rfl) (by decide) (fun c22 => ?_) (fun c22 => ?_)
    · replace hr := ite_f c22 hr
      refine G.go tv_X12_rename 3 31 [(0, .ref (gAd E (56))), (1, .int (v29)), (2, .int (v31))] [.ref (gAd E (56)), .int ((0 : Int32)), .ref (gAd E (56))] rfl ?_
      refine G.rg r31 hE 56 (.int (rS R31 56)) (by decide) rfl (tbd tv_X12_rename rfl) w_2121 ?_
      obtain ⟨v32, R32, hv32, hr⟩ := bnd2_s hr
      refine G.callV (56) [.int ((0 : Int32)), .int (rS R31 56)] [] (k_X12_walk E _ hE R31 ⟨_, _, r31⟩ ((0 : Int32)) (rS R31 56) v32 R32 hv32) cls_X12 (by omega) (r31.o) cw_X12_364 w_2495 w_102 (Nat.le_of_ble_eq_true rfl) rfl (Nat.le_of_ble_eq_true rfl) (tbd tv_X12_rename rfl) (fun v32w f32 q32 => ?_) (fun _ _ h => h.elim)
      obtain ⟨rfl, ⟨az32, sy32, r32⟩, fa32⟩ := q32
      refine G.eqs [.int (v32)] rfl ?_
      refine G.go tv_X12_rename 2 39 [(0, .ref (gAd E (56))), (1, .int (v29)), (2, .int (v31)), (3, .int (v32))] [.int (v32)] rfl ?_
      refine G.if_ge 44 (tbd tv_X12_rename rfl) (by decide) (fun c39 => ?_) (fun c39 => ?_)
      · replace hr := ite_t c39 hr
        refine G.go tv_X12_rename 1 45 [(0, .ref (gAd E (56))), (1, .int (v29)), (2, .int (v31)), (3, .int (v32))] [.ref (gAd E (56))] rfl ?_
        refine G.rg r32 hE 56 (.int (rS R32 56)) (by decide) rfl (tbd tv_X12_rename rfl) w_2121 ?_
        refine G.if_eq 63 (tbd tv_X12_rename rfl) (by decide) (fun c48 => ?_) (fun c48 => ?_)
        · replace hr := ite_t c48 hr
          refine G.go tv_X12_rename 1 65 [(0, .ref (gAd E (56))), (1, .int (v29)), (2, .int (v31)), (3, .int (v32))] [.int ((-9 : Int32))] rfl ?_
          cases hr
          exact G.iret rfl rfl ⟨rfl, ⟨_, _, r32⟩, ((((Fr.rf.tr fa29 (fun _ h => h)).tr fa30 (fun _ h => h)).tr fa31 (fun _ h => h)).tr fa32 (fun _ h => h))⟩ (tbd tv_X12_rename rfl)
        · replace hr := ite_f c48 hr
          refine G.go tv_X12_rename 1 52 [(0, .ref (gAd E (56))), (1, .int (v29)), (2, .int (v31)), (3, .int (v32))] [.int (v31)] rfl ?_
          refine G.if_eq 63 (tbd tv_X12_rename rfl) (by decide) (fun c52 => ?_) (fun c52 => ?_)
          · replace hr := ite_t c52 hr
            refine G.go tv_X12_rename 1 65 [(0, .ref (gAd E (56))), (1, .int (v29)), (2, .int (v31)), (3, .int (v32))] [.int ((-9 : Int32))] rfl ?_
            cases hr
            exact G.iret rfl rfl ⟨rfl, ⟨_, _, r32⟩, ((((Fr.rf.tr fa29 (fun _ h => h)).tr fa30 (fun _ h => h)).tr fa31 (fun _ h => h)).tr fa32 (fun _ h => h))⟩ (tbd tv_X12_rename rfl)
          · replace hr := ite_f c52 hr
            refine G.go tv_X12_rename 2 57 [(0, .ref (gAd E (56))), (1, .int (v29)), (2, .int (v31)), (3, .int (v32))] [.int (v31), .ref (gAd E (56))] rfl ?_
            obtain ⟨v33, hv33, hr⟩ := bnd_s hr
            refine G.callV (56) [.int (v31)] [] (k_X12_isBelow E _ hE R32 ⟨_, _, r32⟩ v31 v33 hv33) cls_X12 (by omega) (r32.o) cw_X12_454 w_2591 w_124 (Nat.le_of_ble_eq_true rfl) rfl (Nat.le_of_ble_eq_true rfl) (tbd tv_X12_rename rfl) (fun v33w f33 q33 => ?_) (fun _ _ h => h.elim)
            obtain ⟨rfl, ⟨az33, sy33, r33⟩, fa33⟩ := q33
            refine G.eqs [.int (v33)] rfl ?_
            refine G.if_eq 66 (tbd tv_X12_rename rfl) (by decide) (fun c60 => ?_) (fun c60 => ?_)
            · replace hr := ite_t c60 hr
              refine G.go tv_X12_rename 5 72 [(0, .ref (gAd E (56))), (1, .int (v29)), (2, .int (v31)), (3, .int (v32))] [.int ((v31) - ((1 : Int32))), .int ((16 : Int32)), .ref (gAd E (56))] rfl ?_
              obtain ⟨v34, R34, hv34, hr⟩ := bnd2_s hr
              refine G.callV (56) [.int ((16 : Int32)), .int ((v31) - ((1 : Int32)))] [] (k_X12_walkAhead E _ hE R32 ⟨_, _, r33⟩ ((16 : Int32)) ((v31) - ((1 : Int32))) v34 R34 hv34) cls_X12 (by omega) (r33.o) cw_X12_424 w_2491 w_101 (Nat.le_of_ble_eq_true rfl) rfl (Nat.le_of_ble_eq_true rfl) (tbd tv_X12_rename rfl) (fun v34w f34 q34 => ?_) (fun _ _ h => h.elim)
              obtain ⟨rfl, ⟨az34, sy34, r34⟩, fa34⟩ := q34
              refine G.eqs [.int (v34)] rfl ?_
              refine G.go tv_X12_rename 2 79 [(0, .ref (gAd E (56))), (1, .int (v29)), (2, .int (v31)), (3, .int (v32)), (4, .int (v34))] [.int (v34)] rfl ?_
              refine G.if_ge 85 (tbd tv_X12_rename rfl) (by decide) (fun c79 => ?_) (fun c79 => ?_)
              · replace hr := ite_t c79 hr
                refine G.go tv_X12_rename 3 88 [(0, .ref (gAd E (56))), (1, .int (v29)), (2, .int (v31)), (3, .int (v32)), (4, .int (v34))] [.ref (gAd E (56)), .int ((0 : Int32)), .ref (gAd E (56))] rfl ?_
                refine G.rg r34 hE 56 (.int (rS R34 56)) (by decide) rfl (tbd tv_X12_rename rfl) w_2121 ?_
                refine G.go tv_X12_rename 2 93 [(0, .ref (gAd E (56))), (1, .int (v29)), (2, .int (v31)), (3, .int (v32)), (4, .int (v34))] [.int ((rS R34 56) - ((1 : Int32))), .int ((0 : Int32)), .ref (gAd E (56))] rfl ?_
                obtain ⟨v35, R35, hv35, hr⟩ := bnd2_s hr
                refine G.callV (56) [.int ((0 : Int32)), .int ((rS R34 56) - ((1 : Int32)))] [] (k_X12_walk E _ hE R34 ⟨_, _, r34⟩ ((0 : Int32)) ((rS R34 56) - ((1 : Int32))) v35 R35 hv35) cls_X12 (by omega) (r34.o) cw_X12_364 w_2495 w_102 (Nat.le_of_ble_eq_true rfl) rfl (Nat.le_of_ble_eq_true rfl) (tbd tv_X12_rename rfl) (fun v35w f35 q35 => ?_) (fun _ _ h => h.elim)
                obtain ⟨rfl, ⟨az35, sy35, r35⟩, fa35⟩ := q35
                refine G.eqs [.int (v35)] rfl ?_
                refine G.go tv_X12_rename 4 102 [(0, .ref (gAd E (56))), (1, .int (v29)), (2, .int (v31)), (3, .int (v32)), (4, .int (v34)), (5, .int (v35))] [.ref (gAd E (56)), .int (v35), .ref (gAd E (56))] rfl ?_
                refine G.rg r35 hE 50 (.ref (gAd E (84))) (by decide) rfl (tbd tv_X12_rename rfl) w_2115 ?_
                refine G.go tv_X12_rename 1 106 [(0, .ref (gAd E (56))), (1, .int (v29)), (2, .int (v31)), (3, .int (v32)), (4, .int (v34)), (5, .int (v35))] [.ref (gAd E (56)), .ref (gAd E (84)), .int (v35), .ref (gAd E (56))] rfl ?_
                refine G.rg r35 hE 56 (.int (rS R35 56)) (by decide) rfl (tbd tv_X12_rename rfl) w_2121 ?_
                refine G.go tv_X12_rename 2 111 [(0, .ref (gAd E (56))), (1, .int (v29)), (2, .int (v31)), (3, .int (v32)), (4, .int (v34)), (5, .int (v35))] [.int ((rS R35 56) - ((1 : Int32))), .ref (gAd E (84)), .int (v35), .ref (gAd E (56))] rfl ?_
                obtain ⟨v36, b36, e36, hr⟩ := ld_s hr
                refine G.ialdE (84) (by omega) (r35.a50) b36 e36 (tbd tv_X12_rename rfl) ?_
                refine G.go tv_X12_rename 1 113 [(0, .ref (gAd E (56))), (1, .int (v29)), (2, .int (v31)), (3, .int (v32)), (4, .int (v34)), (5, .int (v35))] [.ref (gAd E (56)), .int (v36), .int (v35), .ref (gAd E (56))] rfl ?_
                refine G.rg r35 hE 51 (.ref (gAd E (85))) (by decide) rfl (tbd tv_X12_rename rfl) w_2116 ?_
                refine G.go tv_X12_rename 1 117 [(0, .ref (gAd E (56))), (1, .int (v29)), (2, .int (v31)), (3, .int (v32)), (4, .int (v34)), (5, .int (v35))] [.ref (gAd E (56)), .ref (gAd E (85)), .int (v36), .int (v35), .ref (gAd E (56))] rfl ?_
                refine G.rg r35 hE 56 (.int (rS R35 56)) (by decide) rfl (tbd tv_X12_rename rfl) w_2121 ?_
                refine G.go tv_X12_rename 2 122 [(0, .ref (gAd E (56))), (1, .int (v29)), (2, .int (v31)), (3, .int (v32)), (4, .int (v34)), (5, .int (v35))] [.int ((rS R35 56) - ((1 : Int32))), .ref (gAd E (85)), .int (v36), .int (v35), .ref (gAd E (56))] rfl ?_
                obtain ⟨v37, b37, e37, hr⟩ := ld_s hr
                refine G.ialdE (85) (by omega) (r35.a51) b37 e37 (tbd tv_X12_rename rfl) ?_
                obtain ⟨v38, R38, hv38, hr⟩ := bnd2_s hr
                refine G.callV (56) [.int (v35), .int (v36), .int (v37)] [] (k_X12_slotOf E _ hE R35 ⟨_, _, r35⟩ v35 v36 v37 v38 R38 hv38) cls_X12 (by omega) (r35.o) cw_X12_361 w_2499 w_103 (Nat.le_of_ble_eq_true rfl) rfl (Nat.le_of_ble_eq_true rfl) (tbd tv_X12_rename rfl) (fun v38w f38 q38 => ?_) (fun _ _ h => h.elim)
                obtain ⟨rfl, ⟨az38, sy38, r38⟩, fa38⟩ := q38
                refine G.eqs [.int (v38)] rfl ?_
                refine G.go tv_X12_rename 4 132 [(0, .ref (gAd E (56))), (1, .int (v29)), (2, .int (v31)), (3, .int (v32)), (4, .int (v34)), (5, .int (v35)), (6, .int (v38))] [.ref (gAd E (56)), .int (v34), .ref (gAd E (56))] rfl ?_
                refine G.rg r38 hE 50 (.ref (gAd E (84))) (by decide) rfl (tbd tv_X12_rename rfl) w_2115 ?_
                refine G.go tv_X12_rename 3 139 [(0, .ref (gAd E (56))), (1, .int (v29)), (2, .int (v31)), (3, .int (v32)), (4, .int (v34)), (5, .int (v35)), (6, .int (v38))] [.int (((15 : Int32)) + (v31)), .ref (gAd E (84)), .int (v34), .ref (gAd E (56))] rfl ?_
                obtain ⟨v39, b39, e39, hr⟩ := ld_s hr
                refine G.ialdE (84) (by omega) (r38.a50) b39 e39 (tbd tv_X12_rename rfl) ?_
                refine G.go tv_X12_rename 1 141 [(0, .ref (gAd E (56))), (1, .int (v29)), (2, .int (v31)), (3, .int (v32)), (4, .int (v34)), (5, .int (v35)), (6, .int (v38))] [.ref (gAd E (56)), .int (v39), .int (v34), .ref (gAd E (56))] rfl ?_
                refine G.rg r38 hE 51 (.ref (gAd E (85))) (by decide) rfl (tbd tv_X12_rename rfl) w_2116 ?_
                refine G.go tv_X12_rename 3 148 [(0, .ref (gAd E (56))), (1, .int (v29)), (2, .int (v31)), (3, .int (v32)), (4, .int (v34)), (5, .int (v35)), (6, .int (v38))] [.int (((15 : Int32)) + (v31)), .ref (gAd E (85)), .int (v39), .int (v34), .ref (gAd E (56))] rfl ?_
                obtain ⟨v40, b40, e40, hr⟩ := ld_s hr
                refine G.ialdE (85) (by omega) (r38.a51) b40 e40 (tbd tv_X12_rename rfl) ?_
                obtain ⟨v41, R41, hv41, hr⟩ := bnd2_s hr
                refine G.callV (56) [.int (v34), .int (v39), .int (v40)] [] (k_X12_slotOf E _ hE R38 ⟨_, _, r38⟩ v34 v39 v40 v41 R41 hv41) cls_X12 (by omega) (r38.o) cw_X12_361 w_2499 w_103 (Nat.le_of_ble_eq_true rfl) rfl (Nat.le_of_ble_eq_true rfl) (tbd tv_X12_rename rfl) (fun v41w f41 q41 => ?_) (fun _ _ h => h.elim)
                obtain ⟨rfl, ⟨az41, sy41, r41⟩, fa41⟩ := q41
                refine G.eqs [.int (v41)] rfl ?_
                refine G.go tv_X12_rename 3 157 [(0, .ref (gAd E (56))), (1, .int (v29)), (2, .int (v31)), (3, .int (v32)), (4, .int (v34)), (5, .int (v35)), (6, .int (v38)), (7, .int (v41))] [.int ((-1 : Int32)), .int (v41)] rfl ?_
                refine G.cmp_eq 291 (tbd tv_X12_rename rfl) (by decide) (fun c157 => ?_) (fun c157 => ?_)
                · replace hr := ite_t c157 hr
                  refine G.go tv_X12_rename 2 295 [(0, .ref (gAd E (56))), (1, .int (v29)), (2, .int (v31)), (3, .int (v32)), (4, .int (v34)), (5, .int (v35)), (6, .int (v38)), (7, .int (v41))] [.int (v35), .int (v34)] rfl ?_
                  refine G.cmp_eq 310 (tbd tv_X12_rename rfl) (by decide) (fun c295 => ?_) (fun c295 => ?_)
                  · replace hr := ite_t c295 hr
                    refine G.less [(0, .ref (gAd E (56))), (2, .int (v31)), (3, .int (v32)), (4, .int (v34)), (5, .int (v35)), (6, .int (v38))] [0, 2, 3, 4, 5, 6] rfl ?_
                    exact l_X12_rename_310 E f sz _ hE _ _ _ _ _ _ _ _ hr _ ⟨_, _, r41⟩ (((((((((Fr.rf.tr fa29 (fun _ h => h)).tr fa30 (fun _ h => h)).tr fa31 (fun _ h => h)).tr fa32 (fun _ h => h)).tr fa33 (fun _ h => h)).tr fa34 (fun _ h => h)).tr fa35 (fun _ h => h)).tr fa38 (fun _ h => h)).tr fa41 (fun _ h => h))
                  · replace hr := ite_f c295 hr
                    refine G.go tv_X12_rename 2 301 [(0, .ref (gAd E (56))), (1, .int (v29)), (2, .int (v31)), (3, .int (v32)), (4, .int (v34)), (5, .int (v35)), (6, .int (v38)), (7, .int (v41))] [.int (v34), .ref (gAd E (56))] rfl ?_
                    obtain ⟨v42, R42, hv42, hr⟩ := bnd2_s hr
                    refine G.callV (56) [.int (v34)] [] (k_X12_hasNoRoom E _ hE R41 ⟨_, _, r41⟩ v34 v42 R42 hv42) cls_X12 (by omega) (r41.o) cw_X12_430 w_2523 w_109 (Nat.le_of_ble_eq_true rfl) rfl (Nat.le_of_ble_eq_true rfl) (tbd tv_X12_rename rfl) (fun v42w f42 q42 => ?_) (fun _ _ h => h.elim)
                    obtain ⟨rfl, ⟨az42, sy42, r42⟩, fa42⟩ := q42
                    refine G.eqs [.int (v42)] rfl ?_
                    refine G.if_eq 310 (tbd tv_X12_rename rfl) (by decide) (fun c304 => ?_) (fun c304 => ?_)
                    · replace hr := ite_t c304 hr
                      refine G.less [(0, .ref (gAd E (56))), (2, .int (v31)), (3, .int (v32)), (4, .int (v34)), (5, .int (v35)), (6, .int (v38))] [0, 2, 3, 4, 5, 6] rfl ?_
                      exact l_X12_rename_310 E f sz _ hE _ _ _ _ _ _ _ _ hr _ ⟨_, _, r42⟩ ((((((((((Fr.rf.tr fa29 (fun _ h => h)).tr fa30 (fun _ h => h)).tr fa31 (fun _ h => h)).tr fa32 (fun _ h => h)).tr fa33 (fun _ h => h)).tr fa34 (fun _ h => h)).tr fa35 (fun _ h => h)).tr fa38 (fun _ h => h)).tr fa41 (fun _ h => h)).tr fa42 (fun _ h => h))
                    · replace hr := ite_f c304 hr
                      refine G.go tv_X12_rename 1 309 [(0, .ref (gAd E (56))), (1, .int (v29)), (2, .int (v31)), (3, .int (v32)), (4, .int (v34)), (5, .int (v35)), (6, .int (v38)), (7, .int (v41))] [.int ((-7 : Int32))] rfl ?_
                      cases hr
                      exact G.iret rfl rfl ⟨rfl, ⟨_, _, r42⟩, ((((((((((Fr.rf.tr fa29 (fun _ h => h)).tr fa30 (fun _ h => h)).tr fa31 (fun _ h => h)).tr fa32 (fun _ h => h)).tr fa33 (fun _ h => h)).tr fa34 (fun _ h => h)).tr fa35 (fun _ h => h)).tr fa38 (fun _ h => h)).tr fa41 (fun _ h => h)).tr fa42 (fun _ h => h))⟩ (tbd tv_X12_rename rfl)
                · replace hr := ite_f c157 hr
                  refine G.go tv_X12_rename 5 167 [(0, .ref (gAd E (56))), (1, .int (v29)), (2, .int (v31)), (3, .int (v32)), (4, .int (v34)), (5, .int (v35)), (6, .int (v38)), (7, .int (v41))] [.int ((2 : Int32)), .int ((0 : Int32)), .int (v41), .int (v34), .ref (gAd E (56))] rfl ?_
                  obtain ⟨v43, hv43, hr⟩ := bnd_s hr
                  refine G.callV (56) [.int (v34), .int (v41), .int ((0 : Int32)), .int ((2 : Int32))] [] (k_X12_slotNumber E _ hE R41 ⟨_, _, r41⟩ v34 v41 ((0 : Int32)) ((2 : Int32)) v43 hv43) cls_X12 (by omega) (r41.o) cw_X12_347 w_2515 w_107 (Nat.le_of_ble_eq_true rfl) rfl (Nat.le_of_ble_eq_true rfl) (tbd tv_X12_rename rfl) (fun v43w f43 q43 => ?_) (fun _ _ h => h.elim)
                  obtain ⟨rfl, ⟨az43, sy43, r43⟩, fa43⟩ := q43
                  refine G.eqs [.int (v43)] rfl ?_
                  refine G.go tv_X12_rename 3 175 [(0, .ref (gAd E (56))), (1, .int (v29)), (2, .int (v31)), (3, .int (v32)), (4, .int (v34)), (5, .int (v35)), (6, .int (v38)), (7, .int (v41)), (8, .int (v43))] [.int (v32), .int (v43)] rfl ?_
                  refine G.cmp_ne 180 (tbd tv_X12_rename rfl) (by decide) (fun c175 => ?_) (fun c175 => ?_)
                  · replace hr := ite_f c175 hr
                    refine G.go tv_X12_rename 2 182 [(0, .ref (gAd E (56))), (1, .int (v29)), (2, .int (v31)), (3, .int (v32)), (4, .int (v34)), (5, .int (v35)), (6, .int (v38)), (7, .int (v41)), (8, .int (v43))] [.int (v32), .ref (gAd E (56))] rfl ?_
                    obtain ⟨v44, hv44, hr⟩ := bnd_s hr
                    refine G.callV (56) [.int (v32)] [] (k_X12_kind E _ hE R41 ⟨_, _, r43⟩ v32 v44 hv44) cls_X12 (by omega) (r43.o) cw_X12_326 w_2369 w_74 (Nat.le_of_ble_eq_true rfl) rfl (Nat.le_of_ble_eq_true rfl) (tbd tv_X12_rename rfl) (fun v44w f44 q44 => ?_) (fun _ _ h => h.elim)
                    obtain ⟨rfl, ⟨az44, sy44, r44⟩, fa44⟩ := q44
                    refine G.eqs [.int (v44)] rfl ?_
                    refine G.go tv_X12_rename 1 186 [(0, .ref (gAd E (56))), (1, .int (v29)), (2, .int (v31)), (3, .int (v32)), (4, .int (v34)), (5, .int (v35)), (6, .int (v38)), (7, .int (v41)), (8, .int (v43))] [.int ((2 : Int32)), .int (v44)] rfl ?_
                    refine G.cmp_ne 193 (tbd tv_X12_rename rfl) (by decide) (fun c186 => ?_) (fun c186 => ?_)
                    · replace hr := ite_f c186 hr
                      refine G.go tv_X12_rename 2 196 [(0, .ref (gAd E (56))), (1, .int (v29)), (2, .int (v31)), (3, .int (v32)), (4, .int (v34)), (5, .int (v35)), (6, .int (v38)), (7, .int (v41)), (8, .int (v43)), (9, .int ((0 : Int32)))] [] rfl ?_
                      refine G.less [(0, .ref (gAd E (56))), (3, .int (v32)), (4, .int (v34)), (5, .int (v35)), (6, .int (v38)), (7, .int (v41)), (8, .int (v43)), (9, .int ((0 : Int32)))] [0, 3, 4, 5, 6, 7, 8, 9] rfl ?_
                      exact l_X12_rename_196 E f sz _ hE _ _ _ _ _ _ _ _ _ _ hr _ ⟨_, _, r44⟩ (((((((((((Fr.rf.tr fa29 (fun _ h => h)).tr fa30 (fun _ h => h)).tr fa31 (fun _ h => h)).tr fa32 (fun _ h => h)).tr fa33 (fun _ h => h)).tr fa34 (fun _ h => h)).tr fa35 (fun _ h => h)).tr fa38 (fun _ h => h)).tr fa41 (fun _ h => h)).tr fa43 (fun _ h => h)).tr fa44 (fun _ h => h))
                    · replace hr := ite_t c186 hr
                      refine G.go tv_X12_rename 3 196 [(0, .ref (gAd E (56))), (1, .int (v29)), (2, .int (v31)), (3, .int (v32)), (4, .int (v34)), (5, .int (v35)), (6, .int (v38)), (7, .int (v41)), (8, .int (v43)), (9, .int ((1 : Int32)))] [] rfl ?_
                      refine G.less [(0, .ref (gAd E (56))), (3, .int (v32)), (4, .int (v34)), (5, .int (v35)), (6, .int (v38)), (7, .int (v41)), (8, .int (v43)), (9, .int ((1 : Int32)))] [0, 3, 4, 5, 6, 7, 8, 9] rfl ?_
                      exact l_X12_rename_196 E f sz _ hE _ _ _ _ _ _ _ _ _ _ hr _ ⟨_, _, r44⟩ (((((((((((Fr.rf.tr fa29 (fun _ h => h)).tr fa30 (fun _ h => h)).tr fa31 (fun _ h => h)).tr fa32 (fun _ h => h)).tr fa33 (fun _ h => h)).tr fa34 (fun _ h => h)).tr fa35 (fun _ h => h)).tr fa38 (fun _ h => h)).tr fa41 (fun _ h => h)).tr fa43 (fun _ h => h)).tr fa44 (fun _ h => h))
                  · replace hr := ite_t c175 hr
                    refine G.go tv_X12_rename 1 179 [(0, .ref (gAd E (56))), (1, .int (v29)), (2, .int (v31)), (3, .int (v32)), (4, .int (v34)), (5, .int (v35)), (6, .int (v38)), (7, .int (v41)), (8, .int (v43))] [.int ((0 : Int32))] rfl ?_
                    cases hr
                    exact G.iret rfl rfl ⟨rfl, ⟨_, _, r43⟩, ((((((((((Fr.rf.tr fa29 (fun _ h => h)).tr fa30 (fun _ h => h)).tr fa31 (fun _ h => h)).tr fa32 (fun _ h => h)).tr fa33 (fun _ h => h)).tr fa34 (fun _ h => h)).tr fa35 (fun _ h => h)).tr fa38 (fun _ h => h)).tr fa41 (fun _ h => h)).tr fa43 (fun _ h => h))⟩ (tbd tv_X12_rename rfl)
              · replace hr := ite_f c79 hr
                refine G.go tv_X12_rename 1 84 [(0, .ref (gAd E (56))), (1, .int (v29)), (2, .int (v31)), (3, .int (v32)), (4, .int (v34))] [.int (v34)] rfl ?_
                cases hr
                exact G.iret rfl rfl ⟨rfl, ⟨_, _, r34⟩, ((((((Fr.rf.tr fa29 (fun _ h => h)).tr fa30 (fun _ h => h)).tr fa31 (fun _ h => h)).tr fa32 (fun _ h => h)).tr fa33 (fun _ h => h)).tr fa34 (fun _ h => h))⟩ (tbd tv_X12_rename rfl)
            · replace hr := ite_f c60 hr
              refine G.go tv_X12_rename 1 65 [(0, .ref (gAd E (56))), (1, .int (v29)), (2, .int (v31)), (3, .int (v32))] [.int ((-9 : Int32))] rfl ?_
              cases hr
              exact G.iret rfl rfl ⟨rfl, ⟨_, _, r33⟩, (((((Fr.rf.tr fa29 (fun _ h => h)).tr fa30 (fun _ h => h)).tr fa31 (fun _ h => h)).tr fa32 (fun _ h => h)).tr fa33 (fun _ h => h))⟩ (tbd tv_X12_rename rfl)
      · replace hr := ite_f c39 hr
        refine G.go tv_X12_rename 1 43 [(0, .ref (gAd E (56))), (1, .int (v29)), (2, .int (v31)), (3, .int (v32))] [.int (v32)] rfl ?_
        cases hr
        exact G.iret rfl rfl ⟨rfl, ⟨_, _, r32⟩, ((((Fr.rf.tr fa29 (fun _ h => h)).tr fa30 (fun _ h => h)).tr fa31 (fun _ h => h)).tr fa32 (fun _ h => h))⟩ (tbd tv_X12_rename rfl)
    · replace hr := ite_t c22 hr
      refine G.go tv_X12_rename 1 27 [(0, .ref (gAd E (56))), (1, .int (v29)), (2, .int (v31))] [.int ((-6 : Int32))] rfl ?_
      cases hr
      exact G.iret rfl rfl ⟨rfl, ⟨_, _, r31⟩, (((Fr.rf.tr fa29 (fun _ h => h)).tr fa30 (fun _ h => h)).tr fa31 (fun _ h => h))⟩ (tbd tv_X12_rename rfl)
  · replace hr := ite_f c9 hr
    refine G.go tv_X12_rename 1 13 [(0, .ref (gAd E (56))), (1, .int (v29))] [.int ((0 : Int32))] rfl ?_
    cases hr
    exact G.iret rfl rfl ⟨rfl, ⟨_, _, r30⟩, ((Fr.rf.tr fa29 (fun _ h => h)).tr fa30 (fun _ h => h))⟩ (tbd tv_X12_rename rfl)
noncomputable def e_link  (R : RfT) : Option (Int32 × RfT) := bnd2 (e_useTape R) (fun v57 R57 => bnd2 (e_notMounted R57) (fun v58 R58 => if v58 = 0 then bnd2 (e_twoPaths R58 v57) (fun v59 R59 => if v59 = ((-1 : Int32)) then some ((-6 : Int32), R59) else bnd2 (e_walk R59 ((0 : Int32)) (rS R59 56)) (fun v60 R60 => if 0 ≤ v60 then bnd (e_kind R60 v60) (fun v61 => if v61 = ((2 : Int32)) then some ((-4 : Int32), R60) else if v59 = 0 then some ((-9 : Int32), R60) else bnd2 (e_walkAhead R60 ((16 : Int32)) ((v59) - ((1 : Int32)))) (fun v62 R62 => if 0 ≤ v62 then ld (rA R62 50) 32 (((15 : Int32)) + (v59)) (fun v63 => ld (rA R62 51) 32 (((15 : Int32)) + (v59)) (fun v64 => bnd2 (e_slotOf R62 v62 v63 v64) (fun v65 R65 => if v65 = ((-1 : Int32)) then bnd (e_field R65 v60 ((1 : Int32)) ((1 : Int32))) (fun v66 => if v66 = ((255 : Int32)) then some ((-9 : Int32), R65) else bnd2 (e_hasNoRoom R65 v62) (fun v67 R67 => if v67 = 0 then bnd (e_setField R67 v60 ((1 : Int32)) ((1 : Int32)) ((v66) + ((1 : Int32)))) (fun R68 => ld (rA R68 50) 32 (((15 : Int32)) + (v59)) (fun v69 => ld (rA R68 51) 32 (((15 : Int32)) + (v59)) (fun v70 => bnd (e_addName R68 v62 v69 v70 v60) (fun R71 => bnd2 (e_committed R71 ((v66) + ((1 : Int32)))) (fun v72 R72 => some (v72, R72)))))) else some ((-7 : Int32), R67))) else some ((-2 : Int32), R65)))) else some (v62, R62))) else some (v60, R60))) else some ((0 : Int32), R58)))
set_option maxRecDepth 100000 in
set_option maxHeartbeats 4000000 in
theorem k_X12_link (E : gE) (f : Nat → va_E) (hE : 94 ≤ gN E) (R : RfT) (w : RW E f R) (r : Int32) (R9 : RfT) (hr : e_link R = some (r, R9)) : Ct E 14 yX12_link cX12_link 6 (some .int) [.ref (gAd E (56))] f (fun v g => v = some (.int r) ∧ RW E g R9 ∧ Fr RfK f g, fun _ _ => False) := by
  obtain ⟨az, sy, r0⟩ := w
  refine Ct.of (by decide) (Nat.le_of_ble_eq_true rfl) (fun sz => ?_)
  refine G.eql [(0, .ref (gAd E (56)))] rfl ?_
  unfold e_link at hr
  refine G.go tv_X12_link 1 1 [(0, .ref (gAd E (56)))] [.ref (gAd E (56))] rfl ?_
  obtain ⟨v57, R57, hv57, hr⟩ := bnd2_s hr
  refine G.callV (56) [] [] (k_X12_useTape E _ hE R ⟨_, _, r0⟩ v57 R57 hv57) cls_X12 (by omega) (r0.o) cw_X12_418 w_2480 w_99 (Nat.le_of_ble_eq_true rfl) rfl (Nat.le_of_ble_eq_true rfl) (tbd tv_X12_link rfl) (fun v57w f57 q57 => ?_) (fun _ _ h => h.elim)
  obtain ⟨rfl, ⟨az57, sy57, r57⟩, fa57⟩ := q57
  refine G.eqs [.int (v57)] rfl ?_
  refine G.go tv_X12_link 2 6 [(0, .ref (gAd E (56))), (1, .int (v57))] [.ref (gAd E (56))] rfl ?_
  obtain ⟨v58, R58, hv58, hr⟩ := bnd2_s hr
  refine G.callV (56) [] [] (k_X12_notMounted E _ hE R57 ⟨_, _, r57⟩ v58 R58 hv58) cls_X12 (by omega) (r57.o) cw_X12_403 w_2464 w_96 (Nat.le_of_ble_eq_true rfl) rfl (Nat.le_of_ble_eq_true rfl) (tbd tv_X12_link rfl) (fun v58w f58 q58 => ?_) (fun _ _ h => h.elim)
  obtain ⟨rfl, ⟨az58, sy58, r58⟩, fa58⟩ := q58
  refine G.eqs [.int (v58)] rfl ?_
  refine G.if_eq 14 (tbd tv_X12_link rfl) (by decide) (fun c9 => ?_) (fun c9 => ?_)
  · replace hr := ite_t c9 hr
    refine G.go tv_X12_link 2 16 [(0, .ref (gAd E (56))), (1, .int (v57))] [.int (v57), .ref (gAd E (56))] rfl ?_
    obtain ⟨v59, R59, hv59, hr⟩ := bnd2_s hr
    refine G.callV (56) [.int (v57)] [] (k_X12_twoPaths E _ hE R58 ⟨_, _, r58⟩ v57 v59 R59 hv59) cls_X12 (by omega) (r58.o) cw_X12_451 w_2587 w_123 (Nat.le_of_ble_eq_true rfl) rfl (Nat.le_of_ble_eq_true rfl) (tbd tv_X12_link rfl) (fun v59w f59 q59 => ?_) (fun _ _ h => h.elim)
    obtain ⟨rfl, ⟨az59, sy59, r59⟩, fa59⟩ := q59
    refine G.eqs [.int (v59)] rfl ?_
    refine G.go tv_X12_link 3 22 [(0, .ref (gAd E (56))), (1, .int (v57)), (2, .int (v59))] [.int ((-1 : Int32)), .int (v59)] rfl ?_
    refine G.cmp_ne 28 (tbd tv_X12_link rfl) (by decide) (fun c22 => ?_) (fun c22 => ?_)
    · replace hr := ite_f c22 hr
      refine G.go tv_X12_link 3 31 [(0, .ref (gAd E (56))), (1, .int (v57)), (2, .int (v59))] [.ref (gAd E (56)), .int ((0 : Int32)), .ref (gAd E (56))] rfl ?_
      refine G.rg r59 hE 56 (.int (rS R59 56)) (by decide) rfl (tbd tv_X12_link rfl) w_2121 ?_
      obtain ⟨v60, R60, hv60, hr⟩ := bnd2_s hr
      refine G.callV (56) [.int ((0 : Int32)), .int (rS R59 56)] [] (k_X12_walk E _ hE R59 ⟨_, _, r59⟩ ((0 : Int32)) (rS R59 56) v60 R60 hv60) cls_X12 (by omega) (r59.o) cw_X12_364 w_2495 w_102 (Nat.le_of_ble_eq_true rfl) rfl (Nat.le_of_ble_eq_true rfl) (tbd tv_X12_link rfl) (fun v60w f60 q60 => ?_) (fun _ _ h => h.elim)
      obtain ⟨rfl, ⟨az60, sy60, r60⟩, fa60⟩ := q60
      refine G.eqs [.int (v60)] rfl ?_
      refine G.go tv_X12_link 2 39 [(0, .ref (gAd E (56))), (1, .int (v57)), (2, .int (v59)), (3, .int (v60))] [.int (v60)] rfl ?_
      refine G.if_ge 44 (tbd tv_X12_link rfl) (by decide) (fun c39 => ?_) (fun c39 => ?_)
      · replace hr := ite_t c39 hr
        refine G.go tv_X12_link 2 46 [(0, .ref (gAd E (56))), (1, .int (v57)), (2, .int (v59)), (3, .int (v60))] [.int (v60), .ref (gAd E (56))] rfl ?_
        obtain ⟨v61, hv61, hr⟩ := bnd_s hr
        refine G.callV (56) [.int (v60)] [] (k_X12_kind E _ hE R60 ⟨_, _, r60⟩ v60 v61 hv61) cls_X12 (by omega) (r60.o) cw_X12_326 w_2369 w_74 (Nat.le_of_ble_eq_true rfl) rfl (Nat.le_of_ble_eq_true rfl) (tbd tv_X12_link rfl) (fun v61w f61 q61 => ?_) (fun _ _ h => h.elim)
        obtain ⟨rfl, ⟨az61, sy61, r61⟩, fa61⟩ := q61
        refine G.eqs [.int (v61)] rfl ?_
        refine G.go tv_X12_link 1 50 [(0, .ref (gAd E (56))), (1, .int (v57)), (2, .int (v59)), (3, .int (v60))] [.int ((2 : Int32)), .int (v61)] rfl ?_
        refine G.cmp_ne 56 (tbd tv_X12_link rfl) (by decide) (fun c50 => ?_) (fun c50 => ?_)
        · replace hr := ite_f c50 hr
          refine G.go tv_X12_link 1 57 [(0, .ref (gAd E (56))), (1, .int (v57)), (2, .int (v59)), (3, .int (v60))] [.int (v59)] rfl ?_
          refine G.if_ne 63 (tbd tv_X12_link rfl) (by decide) (fun c57 => ?_) (fun c57 => ?_)
          · replace hr := ite_f c57 hr
            refine G.go tv_X12_link 5 69 [(0, .ref (gAd E (56))), (1, .int (v57)), (2, .int (v59)), (3, .int (v60))] [.int ((v59) - ((1 : Int32))), .int ((16 : Int32)), .ref (gAd E (56))] rfl ?_
            obtain ⟨v62, R62, hv62, hr⟩ := bnd2_s hr
            refine G.callV (56) [.int ((16 : Int32)), .int ((v59) - ((1 : Int32)))] [] (k_X12_walkAhead E _ hE R60 ⟨_, _, r61⟩ ((16 : Int32)) ((v59) - ((1 : Int32))) v62 R62 hv62) cls_X12 (by omega) (r61.o) cw_X12_424 w_2491 w_101 (Nat.le_of_ble_eq_true rfl) rfl (Nat.le_of_ble_eq_true rfl) (tbd tv_X12_link rfl) (fun v62w f62 q62 => ?_) (fun _ _ h => h.elim)
            obtain ⟨rfl, ⟨az62, sy62, r62⟩, fa62⟩ := q62
            refine G.eqs [.int (v62)] rfl ?_
            refine G.go tv_X12_link 2 76 [(0, .ref (gAd E (56))), (1, .int (v57)), (2, .int (v59)), (3, .int (v60)), (4, .int (v62))] [.int (v62)] rfl ?_
            refine G.if_ge 82 (tbd tv_X12_link rfl) (by decide) (fun c76 => ?_) (fun c76 => ?_)
            · replace hr := ite_t c76 hr
              refine G.go tv_X12_link 3 86 [(0, .ref (gAd E (56))), (1, .int (v57)), (2, .int (v59)), (3, .int (v60)), (4, .int (v62))] [.ref (gAd E (56)), .int (v62), .ref (gAd E (56))] rfl ?_
              refine G.rg r62 hE 50 (.ref (gAd E (84))) (by decide) rfl (tbd tv_X12_link rfl) w_2115 ?_
              refine G.go tv_X12_link 3 93 [(0, .ref (gAd E (56))), (1, .int (v57)), (2, .int (v59)), (3, .int (v60)), (4, .int (v62))] [.int (((15 : Int32)) + (v59)), .ref (gAd E (84)), .int (v62), .ref (gAd E (56))] rfl ?_
              obtain ⟨v63, b63, e63, hr⟩ := ld_s hr
              refine G.ialdE (84) (by omega) (r62.a50) b63 e63 (tbd tv_X12_link rfl) ?_
              refine G.go tv_X12_link 1 95 [(0, .ref (gAd E (56))), (1, .int (v57)), (2, .int (v59)), (3, .int (v60)), (4, .int (v62))] [.ref (gAd E (56)), .int (v63), .int (v62), .ref (gAd E (56))] rfl ?_
              refine G.rg r62 hE 51 (.ref (gAd E (85))) (by decide) rfl (tbd tv_X12_link rfl) w_2116 ?_
              refine G.go tv_X12_link 3 102 [(0, .ref (gAd E (56))), (1, .int (v57)), (2, .int (v59)), (3, .int (v60)), (4, .int (v62))] [.int (((15 : Int32)) + (v59)), .ref (gAd E (85)), .int (v63), .int (v62), .ref (gAd E (56))] rfl ?_
              obtain ⟨v64, b64, e64, hr⟩ := ld_s hr
              refine G.ialdE (85) (by omega) (r62.a51) b64 e64 (tbd tv_X12_link rfl) ?_
              obtain ⟨v65, R65, hv65, hr⟩ := bnd2_s hr
              refine G.callV (56) [.int (v62), .int (v63), .int (v64)] [] (k_X12_slotOf E _ hE R62 ⟨_, _, r62⟩ v62 v63 v64 v65 R65 hv65) cls_X12 (by omega) (r62.o) cw_X12_361 w_2499 w_103 (Nat.le_of_ble_eq_true rfl) rfl (Nat.le_of_ble_eq_true rfl) (tbd tv_X12_link rfl) (fun v65w f65 q65 => ?_) (fun _ _ h => h.elim)
              obtain ⟨rfl, ⟨az65, sy65, r65⟩, fa65⟩ := q65
              refine G.eqs [.int (v65)] rfl ?_
              refine G.go tv_X12_link 1 107 [(0, .ref (gAd E (56))), (1, .int (v57)), (2, .int (v59)), (3, .int (v60)), (4, .int (v62))] [.int ((-1 : Int32)), .int (v65)] rfl ?_
              refine G.cmp_eq 113 (tbd tv_X12_link rfl) (by decide) (fun c107 => ?_) (fun c107 => ?_)
              · replace hr := ite_t c107 hr
                refine G.go tv_X12_link 4 117 [(0, .ref (gAd E (56))), (1, .int (v57)), (2, .int (v59)), (3, .int (v60)), (4, .int (v62))] [.int ((1 : Int32)), .int ((1 : Int32)), .int (v60), .ref (gAd E (56))] rfl ?_
                obtain ⟨v66, hv66, hr⟩ := bnd_s hr
                refine G.callV (56) [.int (v60), .int ((1 : Int32)), .int ((1 : Int32))] [] (k_X12_field E _ hE R65 ⟨_, _, r65⟩ v60 ((1 : Int32)) ((1 : Int32)) v66 hv66) cls_X12 (by omega) (r65.o) cw_X12_303 w_2373 w_75 (Nat.le_of_ble_eq_true rfl) rfl (Nat.le_of_ble_eq_true rfl) (tbd tv_X12_link rfl) (fun v66w f66 q66 => ?_) (fun _ _ h => h.elim)
                obtain ⟨rfl, ⟨az66, sy66, r66⟩, fa66⟩ := q66
                refine G.eqs [.int (v66)] rfl ?_
                refine G.go tv_X12_link 3 127 [(0, .ref (gAd E (56))), (1, .int (v57)), (2, .int (v59)), (3, .int (v60)), (4, .int (v62)), (5, .int (v66))] [.int ((255 : Int32)), .int (v66)] rfl ?_
                refine G.cmp_ne 133 (tbd tv_X12_link rfl) (by decide) (fun c127 => ?_) (fun c127 => ?_)
                · replace hr := ite_f c127 hr
                  refine G.go tv_X12_link 2 136 [(0, .ref (gAd E (56))), (1, .int (v57)), (2, .int (v59)), (3, .int (v60)), (4, .int (v62)), (5, .int (v66))] [.int (v62), .ref (gAd E (56))] rfl ?_
                  obtain ⟨v67, R67, hv67, hr⟩ := bnd2_s hr
                  refine G.callV (56) [.int (v62)] [] (k_X12_hasNoRoom E _ hE R65 ⟨_, _, r66⟩ v62 v67 R67 hv67) cls_X12 (by omega) (r66.o) cw_X12_430 w_2523 w_109 (Nat.le_of_ble_eq_true rfl) rfl (Nat.le_of_ble_eq_true rfl) (tbd tv_X12_link rfl) (fun v67w f67 q67 => ?_) (fun _ _ h => h.elim)
                  obtain ⟨rfl, ⟨az67, sy67, r67⟩, fa67⟩ := q67
                  refine G.eqs [.int (v67)] rfl ?_
                  refine G.if_eq 145 (tbd tv_X12_link rfl) (by decide) (fun c139 => ?_) (fun c139 => ?_)
                  · replace hr := ite_t c139 hr
                    refine G.go tv_X12_link 7 153 [(0, .ref (gAd E (56))), (1, .int (v57)), (2, .int (v59)), (3, .int (v60)), (4, .int (v62)), (5, .int (v66))] [.int ((v66) + ((1 : Int32))), .int ((1 : Int32)), .int ((1 : Int32)), .int (v60), .ref (gAd E (56))] rfl ?_
                    obtain ⟨R68, hv68, hr⟩ := bnd_s hr
                    refine G.callV (56) [.int (v60), .int ((1 : Int32)), .int ((1 : Int32)), .int ((v66) + ((1 : Int32)))] [] (k_X12_setField E _ hE R67 ⟨_, _, r67⟩ v60 ((1 : Int32)) ((1 : Int32)) ((v66) + ((1 : Int32))) R68 hv68) cls_X12 (by omega) (r67.o) cw_X12_332 w_2424 w_87 (Nat.le_of_ble_eq_true rfl) rfl (Nat.le_of_ble_eq_true rfl) (tbd tv_X12_link rfl) (fun v68w f68 q68 => ?_) (fun _ _ h => h.elim)
                    obtain ⟨rfl, ⟨az68, sy68, r68⟩, fa68⟩ := q68
                    refine G.eqs [] rfl ?_
                    refine G.go tv_X12_link 3 160 [(0, .ref (gAd E (56))), (1, .int (v57)), (2, .int (v59)), (3, .int (v60)), (4, .int (v62)), (5, .int (v66))] [.ref (gAd E (56)), .int (v62), .ref (gAd E (56))] rfl ?_
                    refine G.rg r68 hE 50 (.ref (gAd E (84))) (by decide) rfl (tbd tv_X12_link rfl) w_2115 ?_
                    refine G.go tv_X12_link 3 167 [(0, .ref (gAd E (56))), (1, .int (v57)), (2, .int (v59)), (3, .int (v60)), (4, .int (v62)), (5, .int (v66))] [.int (((15 : Int32)) + (v59)), .ref (gAd E (84)), .int (v62), .ref (gAd E (56))] rfl ?_
                    obtain ⟨v69, b69, e69, hr⟩ := ld_s hr
                    refine G.ialdE (84) (by omega) (r68.a50) b69 e69 (tbd tv_X12_link rfl) ?_
                    refine G.go tv_X12_link 1 169 [(0, .ref (gAd E (56))), (1, .int (v57)), (2, .int (v59)), (3, .int (v60)), (4, .int (v62)), (5, .int (v66))] [.ref (gAd E (56)), .int (v69), .int (v62), .ref (gAd E (56))] rfl ?_
                    refine G.rg r68 hE 51 (.ref (gAd E (85))) (by decide) rfl (tbd tv_X12_link rfl) w_2116 ?_
                    refine G.go tv_X12_link 3 176 [(0, .ref (gAd E (56))), (1, .int (v57)), (2, .int (v59)), (3, .int (v60)), (4, .int (v62)), (5, .int (v66))] [.int (((15 : Int32)) + (v59)), .ref (gAd E (85)), .int (v69), .int (v62), .ref (gAd E (56))] rfl ?_
                    obtain ⟨v70, b70, e70, hr⟩ := ld_s hr
                    refine G.ialdE (85) (by omega) (r68.a51) b70 e70 (tbd tv_X12_link rfl) ?_
                    refine G.go tv_X12_link 1 178 [(0, .ref (gAd E (56))), (1, .int (v57)), (2, .int (v59)), (3, .int (v60)), (4, .int (v62)), (5, .int (v66))] [.int (v60), .int (v70), .int (v69), .int (v62), .ref (gAd E (56))] rfl ?_
                    obtain ⟨R71, hv71, hr⟩ := bnd_s hr
                    refine G.callV (56) [.int (v62), .int (v69), .int (v70), .int (v60)] [] (k_X12_addName E _ hE R68 ⟨_, _, r68⟩ v62 v69 v70 v60 R71 hv71) cls_X12 (by omega) (r68.o) cw_X12_433 w_2543 w_114 (Nat.le_of_ble_eq_true rfl) rfl (Nat.le_of_ble_eq_true rfl) (tbd tv_X12_link rfl) (fun v71w f71 q71 => ?_) (fun _ _ h => h.elim)
                    obtain ⟨rfl, ⟨az71, sy71, r71⟩, fa71⟩ := q71
                    refine G.eqs [] rfl ?_
                    refine G.go tv_X12_link 4 186 [(0, .ref (gAd E (56))), (1, .int (v57)), (2, .int (v59)), (3, .int (v60)), (4, .int (v62)), (5, .int (v66))] [.int ((v66) + ((1 : Int32))), .ref (gAd E (56))] rfl ?_
                    obtain ⟨v72, R72, hv72, hr⟩ := bnd2_s hr
                    refine G.callV (56) [.int ((v66) + ((1 : Int32)))] [] (k_X12_committed E _ hE R71 ⟨_, _, r71⟩ ((v66) + ((1 : Int32))) v72 R72 hv72) cls_X12 (by omega) (r71.o) cw_X12_436 w_2563 w_119 (Nat.le_of_ble_eq_true rfl) rfl (Nat.le_of_ble_eq_true rfl) (tbd tv_X12_link rfl) (fun v72w f72 q72 => ?_) (fun _ _ h => h.elim)
                    obtain ⟨rfl, ⟨az72, sy72, r72⟩, fa72⟩ := q72
                    refine G.eqs [.int (v72)] rfl ?_
                    cases hr
                    exact G.iret rfl rfl ⟨rfl, ⟨_, _, r72⟩, ((((((((((((Fr.rf.tr fa57 (fun _ h => h)).tr fa58 (fun _ h => h)).tr fa59 (fun _ h => h)).tr fa60 (fun _ h => h)).tr fa61 (fun _ h => h)).tr fa62 (fun _ h => h)).tr fa65 (fun _ h => h)).tr fa66 (fun _ h => h)).tr fa67 (fun _ h => h)).tr fa68 (fun _ h => h)).tr fa71 (fun _ h => h)).tr fa72 (fun _ h => h))⟩ (tbd tv_X12_link rfl)
                  · replace hr := ite_f c139 hr
                    refine G.go tv_X12_link 1 144 [(0, .ref (gAd E (56))), (1, .int (v57)), (2, .int (v59)), (3, .int (v60)), (4, .int (v62)), (5, .int (v66))] [.int ((-7 : Int32))] rfl ?_
                    cases hr
                    exact G.iret rfl rfl ⟨rfl, ⟨_, _, r67⟩, (((((((((Fr.rf.tr fa57 (fun _ h => h)).tr fa58 (fun _ h => h)).tr fa59 (fun _ h => h)).tr fa60 (fun _ h => h)).tr fa61 (fun _ h => h)).tr fa62 (fun _ h => h)).tr fa65 (fun _ h => h)).tr fa66 (fun _ h => h)).tr fa67 (fun _ h => h))⟩ (tbd tv_X12_link rfl)
                · replace hr := ite_t c127 hr
                  refine G.go tv_X12_link 1 132 [(0, .ref (gAd E (56))), (1, .int (v57)), (2, .int (v59)), (3, .int (v60)), (4, .int (v62)), (5, .int (v66))] [.int ((-9 : Int32))] rfl ?_
                  cases hr
                  exact G.iret rfl rfl ⟨rfl, ⟨_, _, r66⟩, ((((((((Fr.rf.tr fa57 (fun _ h => h)).tr fa58 (fun _ h => h)).tr fa59 (fun _ h => h)).tr fa60 (fun _ h => h)).tr fa61 (fun _ h => h)).tr fa62 (fun _ h => h)).tr fa65 (fun _ h => h)).tr fa66 (fun _ h => h))⟩ (tbd tv_X12_link rfl)
              · replace hr := ite_f c107 hr
                refine G.go tv_X12_link 1 112 [(0, .ref (gAd E (56))), (1, .int (v57)), (2, .int (v59)), (3, .int (v60)), (4, .int (v62))] [.int ((-2 : Int32))] rfl ?_
                cases hr
                exact G.iret rfl rfl ⟨rfl, ⟨_, _, r65⟩, (((((((Fr.rf.tr fa57 (fun _ h => h)).tr fa58 (fun _ h => h)).tr fa59 (fun _ h => h)).tr fa60 (fun _ h => h)).tr fa61 (fun _ h => h)).tr fa62 (fun _ h => h)).tr fa65 (fun _ h => h))⟩ (tbd tv_X12_link rfl)
            · replace hr := ite_f c76 hr
              refine G.go tv_X12_link 1 81 [(0, .ref (gAd E (56))), (1, .int (v57)), (2, .int (v59)), (3, .int (v60)), (4, .int (v62))] [.int (v62)] rfl ?_
              cases hr
              exact G.iret rfl rfl ⟨rfl, ⟨_, _, r62⟩, ((((((Fr.rf.tr fa57 (fun _ h => h)).tr fa58 (fun _ h => h)).tr fa59 (fun _ h => h)).tr fa60 (fun _ h => h)).tr fa61 (fun _ h => h)).tr fa62 (fun _ h => h))⟩ (tbd tv_X12_link rfl)
          · replace hr := ite_t c57 hr
            refine G.go tv_X12_link 1 62 [(0, .ref (gAd E (56))), (1, .int (v57)), (2, .int (v59)), (3, .int (v60))] [.int ((-9 : Int32))] rfl ?_
            cases hr
            exact G.iret rfl rfl ⟨rfl, ⟨_, _, r61⟩, (((((Fr.rf.tr fa57 (fun _ h => h)).tr fa58 (fun _ h => h)).tr fa59 (fun _ h => h)).tr fa60 (fun _ h => h)).tr fa61 (fun _ h => h))⟩ (tbd tv_X12_link rfl)
        · replace hr := ite_t c50 hr
          refine G.go tv_X12_link 1 55 [(0, .ref (gAd E (56))), (1, .int (v57)), (2, .int (v59)), (3, .int (v60))] [.int ((-4 : Int32))] rfl ?_
          cases hr
          exact G.iret rfl rfl ⟨rfl, ⟨_, _, r61⟩, (((((Fr.rf.tr fa57 (fun _ h => h)).tr fa58 (fun _ h => h)).tr fa59 (fun _ h => h)).tr fa60 (fun _ h => h)).tr fa61 (fun _ h => h))⟩ (tbd tv_X12_link rfl)
      · replace hr := ite_f c39 hr
        refine G.go tv_X12_link 1 43 [(0, .ref (gAd E (56))), (1, .int (v57)), (2, .int (v59)), (3, .int (v60))] [.int (v60)] rfl ?_
        cases hr
        exact G.iret rfl rfl ⟨rfl, ⟨_, _, r60⟩, ((((Fr.rf.tr fa57 (fun _ h => h)).tr fa58 (fun _ h => h)).tr fa59 (fun _ h => h)).tr fa60 (fun _ h => h))⟩ (tbd tv_X12_link rfl)
    · replace hr := ite_t c22 hr
      refine G.go tv_X12_link 1 27 [(0, .ref (gAd E (56))), (1, .int (v57)), (2, .int (v59))] [.int ((-6 : Int32))] rfl ?_
      cases hr
      exact G.iret rfl rfl ⟨rfl, ⟨_, _, r59⟩, (((Fr.rf.tr fa57 (fun _ h => h)).tr fa58 (fun _ h => h)).tr fa59 (fun _ h => h))⟩ (tbd tv_X12_link rfl)
  · replace hr := ite_f c9 hr
    refine G.go tv_X12_link 1 13 [(0, .ref (gAd E (56))), (1, .int (v57))] [.int ((0 : Int32))] rfl ?_
    cases hr
    exact G.iret rfl rfl ⟨rfl, ⟨_, _, r58⟩, ((Fr.rf.tr fa57 (fun _ h => h)).tr fa58 (fun _ h => h))⟩ (tbd tv_X12_link rfl)
theorem w_2601 : Cond.methodLink "LedgerFilesModel" 460 yX12_clearBelow ∈ TB := tp_11 55 (by decide +kernel) rfl
theorem w_2604 : Cond.code yX12_clearBelow prog_14_method_93_code 8 (some .int) ∈ TB := tp_11 58 rfl rfl
theorem cw_X12_460 : Cw RX12 460 yX12_clearBelow cX12_clearBelow 8 (some .int) 1 := ⟨w_2601, w_2604, w_161, by decide +kernel, by decide +kernel, by decide⟩
theorem w_2603 : Cond.instanceMethod yX12_clearBelow ∈ TB := tp_11 57 (by decide +kernel) rfl
theorem w_125 : Cond.selects "LedgerFilesModel" yX12_clearBelow yX12_clearBelow ∈ TB := tp_0 125 (by decide +kernel) rfl
theorem w_2609 : Cond.methodLink "LedgerFilesModel" 463 yX12_changed ∈ TB := tp_11 63 (by decide +kernel) rfl
theorem w_2612 : Cond.code yX12_changed prog_14_method_37_code 3 (some .int) ∈ TB := tp_11 66 rfl rfl
theorem cw_X12_463 : Cw RX12 463 yX12_changed cX12_changed 3 (some .int) 0 := ⟨w_2609, w_2612, w_161, by decide +kernel, by decide +kernel, by decide⟩
theorem w_2611 : Cond.instanceMethod yX12_changed ∈ TB := tp_11 65 (by decide +kernel) rfl
theorem w_127 : Cond.selects "LedgerFilesModel" yX12_changed yX12_changed ∈ TB := tp_0 127 (by decide +kernel) rfl
noncomputable def e_clear_141  : Nat → RfT → Int32 → Option (Int32 × RfT)
  | 0, _, _ => none
  | n + 1, R, x6 => if ((1024 : Int32)) ≤ x6 then some ((-12 : Int32), R) else ld (rA R 35) 1024 x6 (fun v89 => if v89 = ((2 : Int32)) then stR R 35 1024 x6 (vp_nar .byte ((0 : Int32))) (fun R92 => e_clear_141  n R92 (x6 + (1 : Int32))) else ld (rA R 35) 1024 x6 (fun v90 => stR R 35 1024 x6 (vp_nar .byte v90) (fun R91 => e_clear_141  n R91 (x6 + (1 : Int32)))))
noncomputable def e_clear_75  (R : RfT) (x2 : Int32) (x3 : Int32) (x4 : Int32) : Option (Int32 × RfT) := bnd2 (e_walk R ((0 : Int32)) ((x2) - ((1 : Int32)))) (fun v79 R79 => ld (rA R79 50) 32 ((x2) - ((1 : Int32))) (fun v80 => ld (rA R79 51) 32 ((x2) - ((1 : Int32))) (fun v81 => bnd2 (e_slotOf R79 v79 v80 v81) (fun v82 R82 => bnd (e_clearSlot R82 v79 v82) (fun R83 => bnd (e_lose R83 x3) (fun R84 => if (rS R84 34) = 0 then bnd2 (e_changed R84) (fun v86 R86 => if v86 ≤ ((40 : Int32)) then bnd2 (e_committed R86 x4) (fun v87 R87 => some (v87, R87)) else bnd (e_noWorks R86) (fun R88 => e_clear_141  fuL R88 ((0 : Int32)))) else bnd2 (e_committed R84 x4) (fun v85 R85 => some (v85, R85))))))))
noncomputable def e_clear  (R : RfT) : Option (Int32 × RfT) := bnd2 (e_useTape R) (fun v73 R73 => bnd2 (e_notMounted R73) (fun v74 R74 => if v74 = 0 then bnd2 (e_path R74 ((0 : Int32)) v73 ((0 : Int32))) (fun v75 R75 => if ((1 : Int32)) ≤ v75 then bnd2 (e_walk R75 ((0 : Int32)) v75) (fun v76 R76 => if 0 ≤ v76 then bnd (e_kind R76 v76) (fun v77 => if v77 = ((2 : Int32)) then bnd2 (e_clearBelow R76 v76) (fun v78 R78 => e_clear_75  R78 v75 v76 ((v78) + ((1 : Int32)))) else e_clear_75  R76 v75 v76 ((1 : Int32))) else some (v76, R76)) else if v75 = ((-1 : Int32)) then some ((-6 : Int32), R75) else some ((-9 : Int32), R75)) else some ((0 : Int32), R74)))
set_option maxRecDepth 100000 in
set_option maxHeartbeats 4000000 in
theorem l_X12_clear_141 (E : gE) (f0 : Nat → va_E) (sz : Nat) (QA : Nat → Prop) (hE : 94 ≤ gN E) : ∀ (n : Nat), ∀ (R : RfT) (x6 : Int32) (r : Int32) (R9 : RfT) (hr : e_clear_141  n R x6 = some (r, R9)) (f : Nat → va_E) (w : RW E f R) (hf : Fr RfK f0 f), G E (13, yX12_clear, 7, (some .int), sz, QA) cX12_clear (gO E (13, yX12_clear, 7, (some .int), sz, QA) (fun v g => v = some (.int r) ∧ RW E g R9 ∧ Fr RfK f0 g, fun _ _ => False)) 141 [(0, .ref (gAd E (56))), (6, .int (x6))] [] f := by
  intro n
  induction n with
  | zero =>
    intro R x6 r R9 hr f w hf
    cases hr
  | succ n ih =>
    intro R x6 r R9 hr f w hf
    obtain ⟨az, sy, r0⟩ := w
    unfold e_clear_141 at hr
    refine G.go tv_X12_clear 2 146 [(0, .ref (gAd E (56))), (6, .int (x6))] [.int ((1024 : Int32)), .int (x6)] rfl ?_
    refine G.cmp_ge 184 (tbd tv_X12_clear rfl) (by decide) (fun c146 => ?_) (fun c146 => ?_)
    · replace hr := ite_t c146 hr
      refine G.go tv_X12_clear 1 186 [(0, .ref (gAd E (56))), (6, .int (x6))] [.int ((-12 : Int32))] rfl ?_
      cases hr
      exact G.iret rfl rfl ⟨rfl, ⟨_, _, r0⟩, hf⟩ (tbd tv_X12_clear rfl)
    · replace hr := ite_f c146 hr
      refine G.go tv_X12_clear 1 150 [(0, .ref (gAd E (56))), (6, .int (x6))] [.ref (gAd E (56))] rfl ?_
      refine G.rg r0 hE 35 (.ref (gAd E (72))) (by decide) rfl (tbd tv_X12_clear rfl) w_2100 ?_
      refine G.go tv_X12_clear 2 156 [(0, .ref (gAd E (56))), (6, .int (x6))] [.ref (gAd E (56)), .int (x6), .ref (gAd E (72))] rfl ?_
      refine G.rg r0 hE 35 (.ref (gAd E (72))) (by decide) rfl (tbd tv_X12_clear rfl) w_2100 ?_
      refine G.go tv_X12_clear 1 161 [(0, .ref (gAd E (56))), (6, .int (x6))] [.int (x6), .ref (gAd E (72)), .int (x6), .ref (gAd E (72))] rfl ?_
      obtain ⟨v89, b89, e89, hr⟩ := ld_s hr
      refine G.baldE (72) (by omega) (r0.a35) b89 e89 (tbd tv_X12_clear rfl) ?_
      refine G.go tv_X12_clear 1 163 [(0, .ref (gAd E (56))), (6, .int (x6))] [.int ((2 : Int32)), .int (v89), .int (x6), .ref (gAd E (72))] rfl ?_
      refine G.cmp_ne 170 (tbd tv_X12_clear rfl) (by decide) (fun c163 => ?_) (fun c163 => ?_)
      · replace hr := ite_f c163 hr
        refine G.go tv_X12_clear 1 171 [(0, .ref (gAd E (56))), (6, .int (x6))] [.ref (gAd E (56)), .int (x6), .ref (gAd E (72))] rfl ?_
        refine G.rg r0 hE 35 (.ref (gAd E (72))) (by decide) rfl (tbd tv_X12_clear rfl) w_2100 ?_
        refine G.go tv_X12_clear 1 176 [(0, .ref (gAd E (56))), (6, .int (x6))] [.int (x6), .ref (gAd E (72)), .int (x6), .ref (gAd E (72))] rfl ?_
        obtain ⟨v90, b90, e90, hr⟩ := ld_s hr
        refine G.baldE (72) (by omega) (r0.a35) b90 e90 (tbd tv_X12_clear rfl) ?_
        obtain ⟨R91, b91, eR91, hr⟩ := stR_s hr
        refine G.bast (72) (by omega) (r0.a35) b91 (tbd tv_X12_clear rfl) ?_
        refine G.gen (P := fun w9 => RfV E w9 (setSr (setS R91 42 az) sy) ∧ Fr RfK f0 w9) ⟨by rw [eR91]; exact r0.p35 _, Fr.up hf ⟨by decide, by decide⟩⟩ (fun u91 p91 => ?_)
        obtain ⟨r91, h91⟩ := p91
        refine G.go tv_X12_clear 2 141 [(0, .ref (gAd E (56))), (6, .int (x6 + (1 : Int32)))] [] rfl ?_
        refine G.less [(0, .ref (gAd E (56))), (6, .int (x6 + (1 : Int32)))] [0, 1] rfl ?_
        exact ih _ _ _ _ hr _ ⟨_, _, r91⟩ h91
      · replace hr := ite_t c163 hr
        refine G.go tv_X12_clear 2 177 [(0, .ref (gAd E (56))), (6, .int (x6))] [.int ((0 : Int32)), .int (x6), .ref (gAd E (72))] rfl ?_
        obtain ⟨R92, b92, eR92, hr⟩ := stR_s hr
        refine G.bast (72) (by omega) (r0.a35) b92 (tbd tv_X12_clear rfl) ?_
        refine G.gen (P := fun w9 => RfV E w9 (setSr (setS R92 42 az) sy) ∧ Fr RfK f0 w9) ⟨by rw [eR92]; exact r0.p35 _, Fr.up hf ⟨by decide, by decide⟩⟩ (fun u92 p92 => ?_)
        obtain ⟨r92, h92⟩ := p92
        refine G.go tv_X12_clear 2 141 [(0, .ref (gAd E (56))), (6, .int (x6 + (1 : Int32)))] [] rfl ?_
        refine G.less [(0, .ref (gAd E (56))), (6, .int (x6 + (1 : Int32)))] [0, 1] rfl ?_
        exact ih _ _ _ _ hr _ ⟨_, _, r92⟩ h92
set_option maxRecDepth 100000 in
set_option maxHeartbeats 4000000 in
theorem l_X12_clear_75 (E : gE) (f0 : Nat → va_E) (sz : Nat) (QA : Nat → Prop) (hE : 94 ≤ gN E) : ∀ (R : RfT) (x2 : Int32) (x3 : Int32) (x4 : Int32) (r : Int32) (R9 : RfT) (hr : e_clear_75  R x2 x3 x4 = some (r, R9)) (f : Nat → va_E) (w : RW E f R) (hf : Fr RfK f0 f), G E (13, yX12_clear, 7, (some .int), sz, QA) cX12_clear (gO E (13, yX12_clear, 7, (some .int), sz, QA) (fun v g => v = some (.int r) ∧ RW E g R9 ∧ Fr RfK f0 g, fun _ _ => False)) 75 [(0, .ref (gAd E (56))), (2, .int (x2)), (3, .int (x3)), (4, .int (x4))] [] f := by
  intro R x2 x3 x4 r R9 hr f w hf
  obtain ⟨az, sy, r0⟩ := w
  unfold e_clear_75 at hr
  refine G.go tv_X12_clear 5 80 [(0, .ref (gAd E (56))), (2, .int (x2)), (3, .int (x3)), (4, .int (x4))] [.int ((x2) - ((1 : Int32))), .int ((0 : Int32)), .ref (gAd E (56))] rfl ?_
  obtain ⟨v79, R79, hv79, hr⟩ := bnd2_s hr
  refine G.callV (56) [.int ((0 : Int32)), .int ((x2) - ((1 : Int32)))] [] (k_X12_walk E _ hE R ⟨_, _, r0⟩ ((0 : Int32)) ((x2) - ((1 : Int32))) v79 R79 hv79) cls_X12 (by omega) (r0.o) cw_X12_364 w_2495 w_102 (Nat.le_of_ble_eq_true rfl) rfl (Nat.le_of_ble_eq_true rfl) (tbd tv_X12_clear rfl) (fun v79w f79 q79 => ?_) (fun _ _ h => h.elim)
  obtain ⟨rfl, ⟨az79, sy79, r79⟩, fa79⟩ := q79
  refine G.eqs [.int (v79)] rfl ?_
  refine G.go tv_X12_clear 6 92 [(0, .ref (gAd E (56))), (2, .int (x2)), (3, .int (x3)), (4, .int (x4)), (5, .int (v79))] [.ref (gAd E (56)), .int (v79), .ref (gAd E (56)), .int (v79), .ref (gAd E (56))] rfl ?_
  refine G.rg r79 hE 50 (.ref (gAd E (84))) (by decide) rfl (tbd tv_X12_clear rfl) w_2115 ?_
  refine G.go tv_X12_clear 3 98 [(0, .ref (gAd E (56))), (2, .int (x2)), (3, .int (x3)), (4, .int (x4)), (5, .int (v79))] [.int ((x2) - ((1 : Int32))), .ref (gAd E (84)), .int (v79), .ref (gAd E (56)), .int (v79), .ref (gAd E (56))] rfl ?_
  obtain ⟨v80, b80, e80, hr⟩ := ld_s hr
  refine G.ialdE (84) (by omega) (r79.a50) b80 e80 (tbd tv_X12_clear rfl) ?_
  refine G.go tv_X12_clear 1 100 [(0, .ref (gAd E (56))), (2, .int (x2)), (3, .int (x3)), (4, .int (x4)), (5, .int (v79))] [.ref (gAd E (56)), .int (v80), .int (v79), .ref (gAd E (56)), .int (v79), .ref (gAd E (56))] rfl ?_
  refine G.rg r79 hE 51 (.ref (gAd E (85))) (by decide) rfl (tbd tv_X12_clear rfl) w_2116 ?_
  refine G.go tv_X12_clear 3 106 [(0, .ref (gAd E (56))), (2, .int (x2)), (3, .int (x3)), (4, .int (x4)), (5, .int (v79))] [.int ((x2) - ((1 : Int32))), .ref (gAd E (85)), .int (v80), .int (v79), .ref (gAd E (56)), .int (v79), .ref (gAd E (56))] rfl ?_
  obtain ⟨v81, b81, e81, hr⟩ := ld_s hr
  refine G.ialdE (85) (by omega) (r79.a51) b81 e81 (tbd tv_X12_clear rfl) ?_
  obtain ⟨v82, R82, hv82, hr⟩ := bnd2_s hr
  refine G.callV (56) [.int (v79), .int (v80), .int (v81)] [.int (v79), .ref (gAd E (56))] (k_X12_slotOf E _ hE R79 ⟨_, _, r79⟩ v79 v80 v81 v82 R82 hv82) cls_X12 (by omega) (r79.o) cw_X12_361 w_2499 w_103 (Nat.le_of_ble_eq_true rfl) rfl (Nat.le_of_ble_eq_true rfl) (tbd tv_X12_clear rfl) (fun v82w f82 q82 => ?_) (fun _ _ h => h.elim)
  obtain ⟨rfl, ⟨az82, sy82, r82⟩, fa82⟩ := q82
  refine G.eqs [.int (v82), .int (v79), .ref (gAd E (56))] rfl ?_
  obtain ⟨R83, hv83, hr⟩ := bnd_s hr
  refine G.callV (56) [.int (v79), .int (v82)] [] (k_X12_clearSlot E _ hE R82 ⟨_, _, r82⟩ v79 v82 R83 hv83) cls_X12 (by omega) (r82.o) cw_X12_442 w_2575 w_121 (Nat.le_of_ble_eq_true rfl) rfl (Nat.le_of_ble_eq_true rfl) (tbd tv_X12_clear rfl) (fun v83w f83 q83 => ?_) (fun _ _ h => h.elim)
  obtain ⟨rfl, ⟨az83, sy83, r83⟩, fa83⟩ := q83
  refine G.eqs [] rfl ?_
  refine G.go tv_X12_clear 2 115 [(0, .ref (gAd E (56))), (2, .int (x2)), (3, .int (x3)), (4, .int (x4)), (5, .int (v79))] [.int (x3), .ref (gAd E (56))] rfl ?_
  obtain ⟨R84, hv84, hr⟩ := bnd_s hr
  refine G.callV (56) [.int (x3)] [] (k_X12_lose E _ hE R83 ⟨_, _, r83⟩ x3 R84 hv84) cls_X12 (by omega) (r83.o) cw_X12_445 w_2579 w_122 (Nat.le_of_ble_eq_true rfl) rfl (Nat.le_of_ble_eq_true rfl) (tbd tv_X12_clear rfl) (fun v84w f84 q84 => ?_) (fun _ _ h => h.elim)
  obtain ⟨rfl, ⟨az84, sy84, r84⟩, fa84⟩ := q84
  refine G.eqs [] rfl ?_
  refine G.go tv_X12_clear 1 119 [(0, .ref (gAd E (56))), (2, .int (x2)), (3, .int (x3)), (4, .int (x4)), (5, .int (v79))] [.ref (gAd E (56))] rfl ?_
  refine G.rg r84 hE 34 (.int (rS R84 34)) (by decide) rfl (tbd tv_X12_clear rfl) w_2099 ?_
  refine G.if_ne 187 (tbd tv_X12_clear rfl) (by decide) (fun c122 => ?_) (fun c122 => ?_)
  · replace hr := ite_f c122 hr
    refine G.go tv_X12_clear 2 190 [(0, .ref (gAd E (56))), (2, .int (x2)), (3, .int (x3)), (4, .int (x4)), (5, .int (v79))] [.int (x4), .ref (gAd E (56))] rfl ?_
    obtain ⟨v85, R85, hv85, hr⟩ := bnd2_s hr
    refine G.callV (56) [.int (x4)] [] (k_X12_committed E _ hE R84 ⟨_, _, r84⟩ x4 v85 R85 hv85) cls_X12 (by omega) (r84.o) cw_X12_436 w_2563 w_119 (Nat.le_of_ble_eq_true rfl) rfl (Nat.le_of_ble_eq_true rfl) (tbd tv_X12_clear rfl) (fun v85w f85 q85 => ?_) (fun _ _ h => h.elim)
    obtain ⟨rfl, ⟨az85, sy85, r85⟩, fa85⟩ := q85
    refine G.eqs [.int (v85)] rfl ?_
    cases hr
    exact G.iret rfl rfl ⟨rfl, ⟨_, _, r85⟩, (((((hf.tr fa79 (fun _ h => h)).tr fa82 (fun _ h => h)).tr fa83 (fun _ h => h)).tr fa84 (fun _ h => h)).tr fa85 (fun _ h => h))⟩ (tbd tv_X12_clear rfl)
  · replace hr := ite_t c122 hr
    refine G.go tv_X12_clear 1 126 [(0, .ref (gAd E (56))), (2, .int (x2)), (3, .int (x3)), (4, .int (x4)), (5, .int (v79))] [.ref (gAd E (56))] rfl ?_
    obtain ⟨v86, R86, hv86, hr⟩ := bnd2_s hr
    refine G.callV (56) [] [] (k_X12_changed E _ hE R84 ⟨_, _, r84⟩ v86 R86 hv86) cls_X12 (by omega) (r84.o) cw_X12_463 w_2611 w_127 (Nat.le_of_ble_eq_true rfl) rfl (Nat.le_of_ble_eq_true rfl) (tbd tv_X12_clear rfl) (fun v86w f86 q86 => ?_) (fun _ _ h => h.elim)
    obtain ⟨rfl, ⟨az86, sy86, r86⟩, fa86⟩ := q86
    refine G.eqs [.int (v86)] rfl ?_
    refine G.go tv_X12_clear 1 131 [(0, .ref (gAd E (56))), (2, .int (x2)), (3, .int (x3)), (4, .int (x4)), (5, .int (v79))] [.int ((40 : Int32)), .int (v86)] rfl ?_
    refine G.cmp_le 187 (tbd tv_X12_clear rfl) (by decide) (fun c131 => ?_) (fun c131 => ?_)
    · replace hr := ite_t c131 hr
      refine G.go tv_X12_clear 2 190 [(0, .ref (gAd E (56))), (2, .int (x2)), (3, .int (x3)), (4, .int (x4)), (5, .int (v79))] [.int (x4), .ref (gAd E (56))] rfl ?_
      obtain ⟨v87, R87, hv87, hr⟩ := bnd2_s hr
      refine G.callV (56) [.int (x4)] [] (k_X12_committed E _ hE R86 ⟨_, _, r86⟩ x4 v87 R87 hv87) cls_X12 (by omega) (r86.o) cw_X12_436 w_2563 w_119 (Nat.le_of_ble_eq_true rfl) rfl (Nat.le_of_ble_eq_true rfl) (tbd tv_X12_clear rfl) (fun v87w f87 q87 => ?_) (fun _ _ h => h.elim)
      obtain ⟨rfl, ⟨az87, sy87, r87⟩, fa87⟩ := q87
      refine G.eqs [.int (v87)] rfl ?_
      cases hr
      exact G.iret rfl rfl ⟨rfl, ⟨_, _, r87⟩, ((((((hf.tr fa79 (fun _ h => h)).tr fa82 (fun _ h => h)).tr fa83 (fun _ h => h)).tr fa84 (fun _ h => h)).tr fa86 (fun _ h => h)).tr fa87 (fun _ h => h))⟩ (tbd tv_X12_clear rfl)
    · replace hr := ite_f c131 hr
      refine G.go tv_X12_clear 1 135 [(0, .ref (gAd E (56))), (2, .int (x2)), (3, .int (x3)), (4, .int (x4)), (5, .int (v79))] [.ref (gAd E (56))] rfl ?_
      obtain ⟨R88, hv88, hr⟩ := bnd_s hr
      refine G.callV (56) [] [] (k_X12_noWorks E _ hE R86 ⟨_, _, r86⟩ R88 hv88) cls_X12 (by omega) (r86.o) cw_X12_168 w_2300 w_61 (Nat.le_of_ble_eq_true rfl) rfl (Nat.le_of_ble_eq_true rfl) (tbd tv_X12_clear rfl) (fun v88w f88 q88 => ?_) (fun _ _ h => h.elim)
      obtain ⟨rfl, ⟨az88, sy88, r88⟩, fa88⟩ := q88
      refine G.eqs [] rfl ?_
      refine G.go tv_X12_clear 2 141 [(0, .ref (gAd E (56))), (2, .int (x2)), (3, .int (x3)), (4, .int (x4)), (5, .int (v79)), (6, .int ((0 : Int32)))] [] rfl ?_
      refine G.less [(0, .ref (gAd E (56))), (6, .int ((0 : Int32)))] [0, 5] rfl ?_
      exact l_X12_clear_141 E f0 sz QA hE _ _ _ _ _ hr _ ⟨_, _, r88⟩ ((((((hf.tr fa79 (fun _ h => h)).tr fa82 (fun _ h => h)).tr fa83 (fun _ h => h)).tr fa84 (fun _ h => h)).tr fa86 (fun _ h => h)).tr fa88 (fun _ h => h))
set_option maxRecDepth 100000 in
set_option maxHeartbeats 4000000 in
theorem k_X12_clear (E : gE) (f : Nat → va_E) (hE : 94 ≤ gN E) (R : RfT) (w : RW E f R) (r : Int32) (R9 : RfT) (hr : e_clear R = some (r, R9)) : Ct E 13 yX12_clear cX12_clear 7 (some .int) [.ref (gAd E (56))] f (fun v g => v = some (.int r) ∧ RW E g R9 ∧ Fr RfK f g, fun _ _ => False) := by
  obtain ⟨az, sy, r0⟩ := w
  refine Ct.of (by decide) (Nat.le_of_ble_eq_true rfl) (fun sz => ?_)
  refine G.eql [(0, .ref (gAd E (56)))] rfl ?_
  unfold e_clear at hr
  refine G.go tv_X12_clear 1 1 [(0, .ref (gAd E (56)))] [.ref (gAd E (56))] rfl ?_
  obtain ⟨v73, R73, hv73, hr⟩ := bnd2_s hr
  refine G.callV (56) [] [] (k_X12_useTape E _ hE R ⟨_, _, r0⟩ v73 R73 hv73) cls_X12 (by omega) (r0.o) cw_X12_418 w_2480 w_99 (Nat.le_of_ble_eq_true rfl) rfl (Nat.le_of_ble_eq_true rfl) (tbd tv_X12_clear rfl) (fun v73w f73 q73 => ?_) (fun _ _ h => h.elim)
  obtain ⟨rfl, ⟨az73, sy73, r73⟩, fa73⟩ := q73
  refine G.eqs [.int (v73)] rfl ?_
  refine G.go tv_X12_clear 2 6 [(0, .ref (gAd E (56))), (1, .int (v73))] [.ref (gAd E (56))] rfl ?_
  obtain ⟨v74, R74, hv74, hr⟩ := bnd2_s hr
  refine G.callV (56) [] [] (k_X12_notMounted E _ hE R73 ⟨_, _, r73⟩ v74 R74 hv74) cls_X12 (by omega) (r73.o) cw_X12_403 w_2464 w_96 (Nat.le_of_ble_eq_true rfl) rfl (Nat.le_of_ble_eq_true rfl) (tbd tv_X12_clear rfl) (fun v74w f74 q74 => ?_) (fun _ _ h => h.elim)
  obtain ⟨rfl, ⟨az74, sy74, r74⟩, fa74⟩ := q74
  refine G.eqs [.int (v74)] rfl ?_
  refine G.if_eq 14 (tbd tv_X12_clear rfl) (by decide) (fun c9 => ?_) (fun c9 => ?_)
  · replace hr := ite_t c9 hr
    refine G.go tv_X12_clear 4 18 [(0, .ref (gAd E (56))), (1, .int (v73))] [.int ((0 : Int32)), .int (v73), .int ((0 : Int32)), .ref (gAd E (56))] rfl ?_
    obtain ⟨v75, R75, hv75, hr⟩ := bnd2_s hr
    refine G.callV (56) [.int ((0 : Int32)), .int (v73), .int ((0 : Int32))] [] (k_X12_path E _ hE R74 ⟨_, _, r74⟩ ((0 : Int32)) v73 ((0 : Int32)) v75 R75 hv75) cls_X12 (by omega) (r74.o) cw_X12_421 w_2484 w_100 (Nat.le_of_ble_eq_true rfl) rfl (Nat.le_of_ble_eq_true rfl) (tbd tv_X12_clear rfl) (fun v75w f75 q75 => ?_) (fun _ _ h => h.elim)
    obtain ⟨rfl, ⟨az75, sy75, r75⟩, fa75⟩ := q75
    refine G.eqs [.int (v75)] rfl ?_
    refine G.go tv_X12_clear 3 24 [(0, .ref (gAd E (56))), (1, .int (v73)), (2, .int (v75))] [.int ((1 : Int32)), .int (v75)] rfl ?_
    refine G.cmp_ge 40 (tbd tv_X12_clear rfl) (by decide) (fun c24 => ?_) (fun c24 => ?_)
    · replace hr := ite_t c24 hr
      refine G.go tv_X12_clear 3 43 [(0, .ref (gAd E (56))), (1, .int (v73)), (2, .int (v75))] [.int (v75), .int ((0 : Int32)), .ref (gAd E (56))] rfl ?_
      obtain ⟨v76, R76, hv76, hr⟩ := bnd2_s hr
      refine G.callV (56) [.int ((0 : Int32)), .int (v75)] [] (k_X12_walk E _ hE R75 ⟨_, _, r75⟩ ((0 : Int32)) v75 v76 R76 hv76) cls_X12 (by omega) (r75.o) cw_X12_364 w_2495 w_102 (Nat.le_of_ble_eq_true rfl) rfl (Nat.le_of_ble_eq_true rfl) (tbd tv_X12_clear rfl) (fun v76w f76 q76 => ?_) (fun _ _ h => h.elim)
      obtain ⟨rfl, ⟨az76, sy76, r76⟩, fa76⟩ := q76
      refine G.eqs [.int (v76)] rfl ?_
      refine G.go tv_X12_clear 2 48 [(0, .ref (gAd E (56))), (1, .int (v73)), (2, .int (v75)), (3, .int (v76))] [.int (v76)] rfl ?_
      refine G.if_ge 53 (tbd tv_X12_clear rfl) (by decide) (fun c48 => ?_) (fun c48 => ?_)
      · replace hr := ite_t c48 hr
        refine G.go tv_X12_clear 2 55 [(0, .ref (gAd E (56))), (1, .int (v73)), (2, .int (v75)), (3, .int (v76))] [.int (v76), .ref (gAd E (56))] rfl ?_
        obtain ⟨v77, hv77, hr⟩ := bnd_s hr
        refine G.callV (56) [.int (v76)] [] (k_X12_kind E _ hE R76 ⟨_, _, r76⟩ v76 v77 hv77) cls_X12 (by omega) (r76.o) cw_X12_326 w_2369 w_74 (Nat.le_of_ble_eq_true rfl) rfl (Nat.le_of_ble_eq_true rfl) (tbd tv_X12_clear rfl) (fun v77w f77 q77 => ?_) (fun _ _ h => h.elim)
        obtain ⟨rfl, ⟨az77, sy77, r77⟩, fa77⟩ := q77
        refine G.eqs [.int (v77)] rfl ?_
        refine G.go tv_X12_clear 1 59 [(0, .ref (gAd E (56))), (1, .int (v73)), (2, .int (v75)), (3, .int (v76))] [.int ((2 : Int32)), .int (v77)] rfl ?_
        refine G.cmp_ne 72 (tbd tv_X12_clear rfl) (by decide) (fun c59 => ?_) (fun c59 => ?_)
        · replace hr := ite_f c59 hr
          refine G.go tv_X12_clear 2 75 [(0, .ref (gAd E (56))), (1, .int (v73)), (2, .int (v75)), (3, .int (v76)), (4, .int ((1 : Int32)))] [] rfl ?_
          refine G.less [(0, .ref (gAd E (56))), (2, .int (v75)), (3, .int (v76)), (4, .int ((1 : Int32)))] [0, 2, 3, 4] rfl ?_
          exact l_X12_clear_75 E f sz _ hE _ _ _ _ _ _ hr _ ⟨_, _, r77⟩ (((((Fr.rf.tr fa73 (fun _ h => h)).tr fa74 (fun _ h => h)).tr fa75 (fun _ h => h)).tr fa76 (fun _ h => h)).tr fa77 (fun _ h => h))
        · replace hr := ite_t c59 hr
          refine G.go tv_X12_clear 2 64 [(0, .ref (gAd E (56))), (1, .int (v73)), (2, .int (v75)), (3, .int (v76))] [.int (v76), .ref (gAd E (56))] rfl ?_
          obtain ⟨v78, R78, hv78, hr⟩ := bnd2_s hr
          refine G.callV (56) [.int (v76)] [] (k_X12_clearBelow E _ hE R76 ⟨_, _, r77⟩ v76 v78 R78 hv78) cls_X12 (by omega) (r77.o) cw_X12_460 w_2603 w_125 (Nat.le_of_ble_eq_true rfl) rfl (Nat.le_of_ble_eq_true rfl) (tbd tv_X12_clear rfl) (fun v78w f78 q78 => ?_) (fun _ _ h => h.elim)
          obtain ⟨rfl, ⟨az78, sy78, r78⟩, fa78⟩ := q78
          refine G.eqs [.int (v78)] rfl ?_
          refine G.go tv_X12_clear 4 75 [(0, .ref (gAd E (56))), (1, .int (v73)), (2, .int (v75)), (3, .int (v76)), (4, .int ((v78) + ((1 : Int32))))] [] rfl ?_
          refine G.less [(0, .ref (gAd E (56))), (2, .int (v75)), (3, .int (v76)), (4, .int ((v78) + ((1 : Int32))))] [0, 2, 3, 4] rfl ?_
          exact l_X12_clear_75 E f sz _ hE _ _ _ _ _ _ hr _ ⟨_, _, r78⟩ ((((((Fr.rf.tr fa73 (fun _ h => h)).tr fa74 (fun _ h => h)).tr fa75 (fun _ h => h)).tr fa76 (fun _ h => h)).tr fa77 (fun _ h => h)).tr fa78 (fun _ h => h))
      · replace hr := ite_f c48 hr
        refine G.go tv_X12_clear 1 52 [(0, .ref (gAd E (56))), (1, .int (v73)), (2, .int (v75)), (3, .int (v76))] [.int (v76)] rfl ?_
        cases hr
        exact G.iret rfl rfl ⟨rfl, ⟨_, _, r76⟩, ((((Fr.rf.tr fa73 (fun _ h => h)).tr fa74 (fun _ h => h)).tr fa75 (fun _ h => h)).tr fa76 (fun _ h => h))⟩ (tbd tv_X12_clear rfl)
    · replace hr := ite_f c24 hr
      refine G.go tv_X12_clear 2 29 [(0, .ref (gAd E (56))), (1, .int (v73)), (2, .int (v75))] [.int ((-1 : Int32)), .int (v75)] rfl ?_
      refine G.cmp_ne 37 (tbd tv_X12_clear rfl) (by decide) (fun c29 => ?_) (fun c29 => ?_)
      · replace hr := ite_f c29 hr
        refine G.go tv_X12_clear 1 39 [(0, .ref (gAd E (56))), (1, .int (v73)), (2, .int (v75))] [.int ((-9 : Int32))] rfl ?_
        cases hr
        exact G.iret rfl rfl ⟨rfl, ⟨_, _, r75⟩, (((Fr.rf.tr fa73 (fun _ h => h)).tr fa74 (fun _ h => h)).tr fa75 (fun _ h => h))⟩ (tbd tv_X12_clear rfl)
      · replace hr := ite_t c29 hr
        refine G.go tv_X12_clear 2 39 [(0, .ref (gAd E (56))), (1, .int (v73)), (2, .int (v75))] [.int ((-6 : Int32))] rfl ?_
        cases hr
        exact G.iret rfl rfl ⟨rfl, ⟨_, _, r75⟩, (((Fr.rf.tr fa73 (fun _ h => h)).tr fa74 (fun _ h => h)).tr fa75 (fun _ h => h))⟩ (tbd tv_X12_clear rfl)
  · replace hr := ite_f c9 hr
    refine G.go tv_X12_clear 1 13 [(0, .ref (gAd E (56))), (1, .int (v73))] [.int ((0 : Int32))] rfl ?_
    cases hr
    exact G.iret rfl rfl ⟨rfl, ⟨_, _, r74⟩, ((Fr.rf.tr fa73 (fun _ h => h)).tr fa74 (fun _ h => h))⟩ (tbd tv_X12_clear rfl)
theorem w_2617 : Cond.methodLink "LedgerFilesModel" 466 yX12_tablesFor ∈ TB := tp_11 71 (by decide +kernel) rfl
theorem w_2620 : Cond.code yX12_tablesFor prog_14_method_96_code 7 (some .int) ∈ TB := tp_11 74 rfl rfl
theorem cw_X12_466 : Cw RX12 466 yX12_tablesFor cX12_tablesFor 7 (some .int) 1 := ⟨w_2617, w_2620, w_161, by decide +kernel, by decide +kernel, by decide⟩
theorem w_2619 : Cond.instanceMethod yX12_tablesFor ∈ TB := tp_11 73 (by decide +kernel) rfl
theorem w_128 : Cond.selects "LedgerFilesModel" yX12_tablesFor yX12_tablesFor ∈ TB := tp_0 128 (by decide +kernel) rfl
theorem w_2621 : Cond.methodLink "LedgerFilesModel" 469 yX12_wantedBy ∈ TB := tp_11 75 (by decide +kernel) rfl
theorem w_2624 : Cond.code yX12_wantedBy prog_14_method_95_code 8 (some .int) ∈ TB := tp_11 78 rfl rfl
theorem cw_X12_469 : Cw RX12 469 yX12_wantedBy cX12_wantedBy 8 (some .int) 1 := ⟨w_2621, w_2624, w_161, by decide +kernel, by decide +kernel, by decide⟩
theorem w_2623 : Cond.instanceMethod yX12_wantedBy ∈ TB := tp_11 77 (by decide +kernel) rfl
theorem w_129 : Cond.selects "LedgerFilesModel" yX12_wantedBy yX12_wantedBy ∈ TB := tp_0 129 (by decide +kernel) rfl
theorem w_2625 : Cond.methodLink "LedgerFilesModel" 472 yX12_copyBytes ∈ TB := tp_11 79 (by decide +kernel) rfl
theorem w_2628 : Cond.code yX12_copyBytes prog_14_method_99_code 8 none ∈ TB := tp_11 82 rfl rfl
theorem cw_X12_472 : Cw RX12 472 yX12_copyBytes cX12_copyBytes 8 none 2 := ⟨w_2625, w_2628, w_161, by decide +kernel, by decide +kernel, by decide⟩
theorem w_2627 : Cond.instanceMethod yX12_copyBytes ∈ TB := tp_11 81 (by decide +kernel) rfl
theorem w_130 : Cond.selects "LedgerFilesModel" yX12_copyBytes yX12_copyBytes ∈ TB := tp_0 130 (by decide +kernel) rfl
noncomputable def e_copy_178  (R : RfT) (x2 : Int32) (x3 : Int32) (x4 : Int32) (x5 : Int32) (x7 : Int32) : Option (Int32 × RfT) := bnd (e_wantedBy R x3) (fun v107 => bnd2 (e_room R) (fun v108 R108 => if ((x7) + (v107)) ≤ v108 then bnd (e_setField R108 x5 ((0 : Int32)) ((1 : Int32)) ((1 : Int32))) (fun R109 => bnd (e_setField R109 x5 ((1 : Int32)) ((1 : Int32)) ((1 : Int32))) (fun R110 => bnd (e_size R110 x3) (fun v111 => bnd (e_setField R110 x5 ((4 : Int32)) ((4 : Int32)) v111) (fun R112 => bnd (e_field R112 x3 ((8 : Int32)) ((4 : Int32))) (fun v113 => bnd (e_setField R112 x5 ((8 : Int32)) ((4 : Int32)) v113) (fun R114 => bnd (e_setBit R114 ((44 : Int32)) ((x5) - ((1 : Int32))) ((1 : Int32))) (fun R115 => ld (rA R115 50) 32 (((15 : Int32)) + (x2)) (fun v116 => ld (rA R115 51) 32 (((15 : Int32)) + (x2)) (fun v117 => bnd (e_addName R115 x4 v116 v117 x5) (fun R118 => bnd (e_copyBytes R118 x3 x5) (fun R119 => bnd2 (e_committed R119 x5) (fun v120 R120 => some (v120, R120))))))))))))) else some ((-7 : Int32), R108)))
noncomputable def e_copy  (R : RfT) : Option (Int32 × RfT) := bnd2 (e_useTape R) (fun v93 R93 => bnd2 (e_notMounted R93) (fun v94 R94 => if v94 = 0 then bnd2 (e_twoPaths R94 v93) (fun v95 R95 => if v95 = ((-1 : Int32)) then some ((-6 : Int32), R95) else bnd2 (e_walk R95 ((0 : Int32)) (rS R95 56)) (fun v96 R96 => if 0 ≤ v96 then bnd (e_kind R96 v96) (fun v97 => if v97 = ((2 : Int32)) then some ((-4 : Int32), R96) else if v95 = 0 then some ((-9 : Int32), R96) else bnd2 (e_walkAhead R96 ((16 : Int32)) ((v95) - ((1 : Int32)))) (fun v98 R98 => if 0 ≤ v98 then ld (rA R98 50) 32 (((15 : Int32)) + (v95)) (fun v99 => ld (rA R98 51) 32 (((15 : Int32)) + (v95)) (fun v100 => bnd2 (e_slotOf R98 v98 v99 v100) (fun v101 R101 => if v101 = ((-1 : Int32)) then bnd (e_tablesFor R101 v96) (fun v102 => if v102 ≤ ((32 : Int32)) then bnd (e_freeInode R101) (fun v103 => if v103 = 0 then some ((-8 : Int32), R101) else bnd (e_size R101 v98) (fun v104 => bnd (e_freeSlot R101 v98) (fun v105 => if v105 = ((-1 : Int32)) then bnd (e_need R101 v98 ((v104) / ((128 : Int32))) ((v104) / ((128 : Int32)))) (fun v106 => e_copy_178  R101 v95 v96 v98 v103 v106) else e_copy_178  R101 v95 v96 v98 v103 ((0 : Int32))))) else some ((-12 : Int32), R101)) else some ((-2 : Int32), R101)))) else some (v98, R98))) else some (v96, R96))) else some ((0 : Int32), R94)))
set_option maxRecDepth 100000 in
set_option maxHeartbeats 4000000 in
theorem l_X12_copy_178 (E : gE) (f0 : Nat → va_E) (sz : Nat) (QA : Nat → Prop) (hE : 94 ≤ gN E) : ∀ (R : RfT) (x2 : Int32) (x3 : Int32) (x4 : Int32) (x5 : Int32) (x7 : Int32) (r : Int32) (R9 : RfT) (hr : e_copy_178  R x2 x3 x4 x5 x7 = some (r, R9)) (f : Nat → va_E) (w : RW E f R) (hf : Fr RfK f0 f), G E (14, yX12_copy, 8, (some .int), sz, QA) cX12_copy (gO E (14, yX12_copy, 8, (some .int), sz, QA) (fun v g => v = some (.int r) ∧ RW E g R9 ∧ Fr RfK f0 g, fun _ _ => False)) 178 [(0, .ref (gAd E (56))), (2, .int (x2)), (3, .int (x3)), (4, .int (x4)), (5, .int (x5)), (7, .int (x7))] [] f := by
  intro R x2 x3 x4 x5 x7 r R9 hr f w hf
  obtain ⟨az, sy, r0⟩ := w
  unfold e_copy_178 at hr
  refine G.go tv_X12_copy 3 182 [(0, .ref (gAd E (56))), (2, .int (x2)), (3, .int (x3)), (4, .int (x4)), (5, .int (x5)), (7, .int (x7))] [.int (x3), .ref (gAd E (56)), .int (x7)] rfl ?_
  obtain ⟨v107, hv107, hr⟩ := bnd_s hr
  refine G.callV (56) [.int (x3)] [.int (x7)] (k_X12_wantedBy E _ hE R ⟨_, _, r0⟩ x3 v107 hv107) cls_X12 (by omega) (r0.o) cw_X12_469 w_2623 w_129 (Nat.le_of_ble_eq_true rfl) rfl (Nat.le_of_ble_eq_true rfl) (tbd tv_X12_copy rfl) (fun v107w f107 q107 => ?_) (fun _ _ h => h.elim)
  obtain ⟨rfl, ⟨az107, sy107, r107⟩, fa107⟩ := q107
  refine G.eqs [.int (v107), .int (x7)] rfl ?_
  refine G.go tv_X12_copy 2 187 [(0, .ref (gAd E (56))), (2, .int (x2)), (3, .int (x3)), (4, .int (x4)), (5, .int (x5)), (7, .int (x7))] [.ref (gAd E (56)), .int ((x7) + (v107))] rfl ?_
  obtain ⟨v108, R108, hv108, hr⟩ := bnd2_s hr
  refine G.callV (56) [] [.int ((x7) + (v107))] (k_X12_room E _ hE R ⟨_, _, r107⟩ v108 R108 hv108) cls_X12 (by omega) (r107.o) cw_X12_415 w_2535 w_112 (Nat.le_of_ble_eq_true rfl) rfl (Nat.le_of_ble_eq_true rfl) (tbd tv_X12_copy rfl) (fun v108w f108 q108 => ?_) (fun _ _ h => h.elim)
  obtain ⟨rfl, ⟨az108, sy108, r108⟩, fa108⟩ := q108
  refine G.eqs [.int (v108), .int ((x7) + (v107))] rfl ?_
  refine G.cmp_le 196 (tbd tv_X12_copy rfl) (by decide) (fun c190 => ?_) (fun c190 => ?_)
  · replace hr := ite_t c190 hr
    refine G.go tv_X12_copy 5 202 [(0, .ref (gAd E (56))), (2, .int (x2)), (3, .int (x3)), (4, .int (x4)), (5, .int (x5)), (7, .int (x7))] [.int ((1 : Int32)), .int ((1 : Int32)), .int ((0 : Int32)), .int (x5), .ref (gAd E (56))] rfl ?_
    obtain ⟨R109, hv109, hr⟩ := bnd_s hr
    refine G.callV (56) [.int (x5), .int ((0 : Int32)), .int ((1 : Int32)), .int ((1 : Int32))] [] (k_X12_setField E _ hE R108 ⟨_, _, r108⟩ x5 ((0 : Int32)) ((1 : Int32)) ((1 : Int32)) R109 hv109) cls_X12 (by omega) (r108.o) cw_X12_332 w_2424 w_87 (Nat.le_of_ble_eq_true rfl) rfl (Nat.le_of_ble_eq_true rfl) (tbd tv_X12_copy rfl) (fun v109w f109 q109 => ?_) (fun _ _ h => h.elim)
    obtain ⟨rfl, ⟨az109, sy109, r109⟩, fa109⟩ := q109
    refine G.eqs [] rfl ?_
    refine G.go tv_X12_copy 5 211 [(0, .ref (gAd E (56))), (2, .int (x2)), (3, .int (x3)), (4, .int (x4)), (5, .int (x5)), (7, .int (x7))] [.int ((1 : Int32)), .int ((1 : Int32)), .int ((1 : Int32)), .int (x5), .ref (gAd E (56))] rfl ?_
    obtain ⟨R110, hv110, hr⟩ := bnd_s hr
    refine G.callV (56) [.int (x5), .int ((1 : Int32)), .int ((1 : Int32)), .int ((1 : Int32))] [] (k_X12_setField E _ hE R109 ⟨_, _, r109⟩ x5 ((1 : Int32)) ((1 : Int32)) ((1 : Int32)) R110 hv110) cls_X12 (by omega) (r109.o) cw_X12_332 w_2424 w_87 (Nat.le_of_ble_eq_true rfl) rfl (Nat.le_of_ble_eq_true rfl) (tbd tv_X12_copy rfl) (fun v110w f110 q110 => ?_) (fun _ _ h => h.elim)
    obtain ⟨rfl, ⟨az110, sy110, r110⟩, fa110⟩ := q110
    refine G.eqs [] rfl ?_
    refine G.go tv_X12_copy 6 221 [(0, .ref (gAd E (56))), (2, .int (x2)), (3, .int (x3)), (4, .int (x4)), (5, .int (x5)), (7, .int (x7))] [.int (x3), .ref (gAd E (56)), .int ((4 : Int32)), .int ((4 : Int32)), .int (x5), .ref (gAd E (56))] rfl ?_
    obtain ⟨v111, hv111, hr⟩ := bnd_s hr
    refine G.callV (56) [.int (x3)] [.int ((4 : Int32)), .int ((4 : Int32)), .int (x5), .ref (gAd E (56))] (k_X12_size E _ hE R110 ⟨_, _, r110⟩ x3 v111 hv111) cls_X12 (by omega) (r110.o) cw_X12_344 w_2503 w_104 (Nat.le_of_ble_eq_true rfl) rfl (Nat.le_of_ble_eq_true rfl) (tbd tv_X12_copy rfl) (fun v111w f111 q111 => ?_) (fun _ _ h => h.elim)
    obtain ⟨rfl, ⟨az111, sy111, r111⟩, fa111⟩ := q111
    refine G.eqs [.int (v111), .int ((4 : Int32)), .int ((4 : Int32)), .int (x5), .ref (gAd E (56))] rfl ?_
    obtain ⟨R112, hv112, hr⟩ := bnd_s hr
    refine G.callV (56) [.int (x5), .int ((4 : Int32)), .int ((4 : Int32)), .int (v111)] [] (k_X12_setField E _ hE R110 ⟨_, _, r111⟩ x5 ((4 : Int32)) ((4 : Int32)) v111 R112 hv112) cls_X12 (by omega) (r111.o) cw_X12_332 w_2424 w_87 (Nat.le_of_ble_eq_true rfl) rfl (Nat.le_of_ble_eq_true rfl) (tbd tv_X12_copy rfl) (fun v112w f112 q112 => ?_) (fun _ _ h => h.elim)
    obtain ⟨rfl, ⟨az112, sy112, r112⟩, fa112⟩ := q112
    refine G.eqs [] rfl ?_
    refine G.go tv_X12_copy 8 238 [(0, .ref (gAd E (56))), (2, .int (x2)), (3, .int (x3)), (4, .int (x4)), (5, .int (x5)), (7, .int (x7))] [.int ((4 : Int32)), .int ((8 : Int32)), .int (x3), .ref (gAd E (56)), .int ((4 : Int32)), .int ((8 : Int32)), .int (x5), .ref (gAd E (56))] rfl ?_
    obtain ⟨v113, hv113, hr⟩ := bnd_s hr
    refine G.callV (56) [.int (x3), .int ((8 : Int32)), .int ((4 : Int32))] [.int ((4 : Int32)), .int ((8 : Int32)), .int (x5), .ref (gAd E (56))] (k_X12_field E _ hE R112 ⟨_, _, r112⟩ x3 ((8 : Int32)) ((4 : Int32)) v113 hv113) cls_X12 (by omega) (r112.o) cw_X12_303 w_2373 w_75 (Nat.le_of_ble_eq_true rfl) rfl (Nat.le_of_ble_eq_true rfl) (tbd tv_X12_copy rfl) (fun v113w f113 q113 => ?_) (fun _ _ h => h.elim)
    obtain ⟨rfl, ⟨az113, sy113, r113⟩, fa113⟩ := q113
    refine G.eqs [.int (v113), .int ((4 : Int32)), .int ((8 : Int32)), .int (x5), .ref (gAd E (56))] rfl ?_
    obtain ⟨R114, hv114, hr⟩ := bnd_s hr
    refine G.callV (56) [.int (x5), .int ((8 : Int32)), .int ((4 : Int32)), .int (v113)] [] (k_X12_setField E _ hE R112 ⟨_, _, r113⟩ x5 ((8 : Int32)) ((4 : Int32)) v113 R114 hv114) cls_X12 (by omega) (r113.o) cw_X12_332 w_2424 w_87 (Nat.le_of_ble_eq_true rfl) rfl (Nat.le_of_ble_eq_true rfl) (tbd tv_X12_copy rfl) (fun v114w f114 q114 => ?_) (fun _ _ h => h.elim)
    obtain ⟨rfl, ⟨az114, sy114, r114⟩, fa114⟩ := q114
    refine G.eqs [] rfl ?_
    refine G.go tv_X12_copy 6 252 [(0, .ref (gAd E (56))), (2, .int (x2)), (3, .int (x3)), (4, .int (x4)), (5, .int (x5)), (7, .int (x7))] [.int ((1 : Int32)), .int ((x5) - ((1 : Int32))), .int ((44 : Int32)), .ref (gAd E (56))] rfl ?_
    obtain ⟨R115, hv115, hr⟩ := bnd_s hr
    refine G.callV (56) [.int ((44 : Int32)), .int ((x5) - ((1 : Int32))), .int ((1 : Int32))] [] (k_X12_setBit E _ hE R114 ⟨_, _, r114⟩ ((44 : Int32)) ((x5) - ((1 : Int32))) ((1 : Int32)) R115 hv115) cls_X12 (by omega) (r114.o) cw_X12_313 w_2408 w_83 (Nat.le_of_ble_eq_true rfl) rfl (Nat.le_of_ble_eq_true rfl) (tbd tv_X12_copy rfl) (fun v115w f115 q115 => ?_) (fun _ _ h => h.elim)
    obtain ⟨rfl, ⟨az115, sy115, r115⟩, fa115⟩ := q115
    refine G.eqs [] rfl ?_
    refine G.go tv_X12_copy 3 259 [(0, .ref (gAd E (56))), (2, .int (x2)), (3, .int (x3)), (4, .int (x4)), (5, .int (x5)), (7, .int (x7))] [.ref (gAd E (56)), .int (x4), .ref (gAd E (56))] rfl ?_
    refine G.rg r115 hE 50 (.ref (gAd E (84))) (by decide) rfl (tbd tv_X12_copy rfl) w_2115 ?_
    refine G.go tv_X12_copy 3 266 [(0, .ref (gAd E (56))), (2, .int (x2)), (3, .int (x3)), (4, .int (x4)), (5, .int (x5)), (7, .int (x7))] [.int (((15 : Int32)) + (x2)), .ref (gAd E (84)), .int (x4), .ref (gAd E (56))] rfl ?_
    obtain ⟨v116, b116, e116, hr⟩ := ld_s hr
    refine G.ialdE (84) (by omega) (r115.a50) b116 e116 (tbd tv_X12_copy rfl) ?_
    refine G.go tv_X12_copy 1 268 [(0, .ref (gAd E (56))), (2, .int (x2)), (3, .int (x3)), (4, .int (x4)), (5, .int (x5)), (7, .int (x7))] [.ref (gAd E (56)), .int (v116), .int (x4), .ref (gAd E (56))] rfl ?_
    refine G.rg r115 hE 51 (.ref (gAd E (85))) (by decide) rfl (tbd tv_X12_copy rfl) w_2116 ?_
    refine G.go tv_X12_copy 3 275 [(0, .ref (gAd E (56))), (2, .int (x2)), (3, .int (x3)), (4, .int (x4)), (5, .int (x5)), (7, .int (x7))] [.int (((15 : Int32)) + (x2)), .ref (gAd E (85)), .int (v116), .int (x4), .ref (gAd E (56))] rfl ?_
    obtain ⟨v117, b117, e117, hr⟩ := ld_s hr
    refine G.ialdE (85) (by omega) (r115.a51) b117 e117 (tbd tv_X12_copy rfl) ?_
    refine G.go tv_X12_copy 1 278 [(0, .ref (gAd E (56))), (2, .int (x2)), (3, .int (x3)), (4, .int (x4)), (5, .int (x5)), (7, .int (x7))] [.int (x5), .int (v117), .int (v116), .int (x4), .ref (gAd E (56))] rfl ?_
    obtain ⟨R118, hv118, hr⟩ := bnd_s hr
    refine G.callV (56) [.int (x4), .int (v116), .int (v117), .int (x5)] [] (k_X12_addName E _ hE R115 ⟨_, _, r115⟩ x4 v116 v117 x5 R118 hv118) cls_X12 (by omega) (r115.o) cw_X12_433 w_2543 w_114 (Nat.le_of_ble_eq_true rfl) rfl (Nat.le_of_ble_eq_true rfl) (tbd tv_X12_copy rfl) (fun v118w f118 q118 => ?_) (fun _ _ h => h.elim)
    obtain ⟨rfl, ⟨az118, sy118, r118⟩, fa118⟩ := q118
    refine G.eqs [] rfl ?_
    refine G.go tv_X12_copy 3 285 [(0, .ref (gAd E (56))), (2, .int (x2)), (3, .int (x3)), (4, .int (x4)), (5, .int (x5)), (7, .int (x7))] [.int (x5), .int (x3), .ref (gAd E (56))] rfl ?_
    obtain ⟨R119, hv119, hr⟩ := bnd_s hr
    refine G.callV (56) [.int (x3), .int (x5)] [] (k_X12_copyBytes E _ hE R118 ⟨_, _, r118⟩ x3 x5 R119 hv119) cls_X12 (by omega) (r118.o) cw_X12_472 w_2627 w_130 (Nat.le_of_ble_eq_true rfl) rfl (Nat.le_of_ble_eq_true rfl) (tbd tv_X12_copy rfl) (fun v119w f119 q119 => ?_) (fun _ _ h => h.elim)
    obtain ⟨rfl, ⟨az119, sy119, r119⟩, fa119⟩ := q119
    refine G.eqs [] rfl ?_
    refine G.go tv_X12_copy 2 291 [(0, .ref (gAd E (56))), (2, .int (x2)), (3, .int (x3)), (4, .int (x4)), (5, .int (x5)), (7, .int (x7))] [.int (x5), .ref (gAd E (56))] rfl ?_
    obtain ⟨v120, R120, hv120, hr⟩ := bnd2_s hr
    refine G.callV (56) [.int (x5)] [] (k_X12_committed E _ hE R119 ⟨_, _, r119⟩ x5 v120 R120 hv120) cls_X12 (by omega) (r119.o) cw_X12_436 w_2563 w_119 (Nat.le_of_ble_eq_true rfl) rfl (Nat.le_of_ble_eq_true rfl) (tbd tv_X12_copy rfl) (fun v120w f120 q120 => ?_) (fun _ _ h => h.elim)
    obtain ⟨rfl, ⟨az120, sy120, r120⟩, fa120⟩ := q120
    refine G.eqs [.int (v120)] rfl ?_
    cases hr
    exact G.iret rfl rfl ⟨rfl, ⟨_, _, r120⟩, ((((((((((((hf.tr fa107 (fun _ h => h)).tr fa108 (fun _ h => h)).tr fa109 (fun _ h => h)).tr fa110 (fun _ h => h)).tr fa111 (fun _ h => h)).tr fa112 (fun _ h => h)).tr fa113 (fun _ h => h)).tr fa114 (fun _ h => h)).tr fa115 (fun _ h => h)).tr fa118 (fun _ h => h)).tr fa119 (fun _ h => h)).tr fa120 (fun _ h => h))⟩ (tbd tv_X12_copy rfl)
  · replace hr := ite_f c190 hr
    refine G.go tv_X12_copy 1 195 [(0, .ref (gAd E (56))), (2, .int (x2)), (3, .int (x3)), (4, .int (x4)), (5, .int (x5)), (7, .int (x7))] [.int ((-7 : Int32))] rfl ?_
    cases hr
    exact G.iret rfl rfl ⟨rfl, ⟨_, _, r108⟩, ((hf.tr fa107 (fun _ h => h)).tr fa108 (fun _ h => h))⟩ (tbd tv_X12_copy rfl)
set_option maxRecDepth 100000 in
set_option maxHeartbeats 4000000 in
theorem k_X12_copy (E : gE) (f : Nat → va_E) (hE : 94 ≤ gN E) (R : RfT) (w : RW E f R) (r : Int32) (R9 : RfT) (hr : e_copy R = some (r, R9)) : Ct E 14 yX12_copy cX12_copy 8 (some .int) [.ref (gAd E (56))] f (fun v g => v = some (.int r) ∧ RW E g R9 ∧ Fr RfK f g, fun _ _ => False) := by
  obtain ⟨az, sy, r0⟩ := w
  refine Ct.of (by decide) (Nat.le_of_ble_eq_true rfl) (fun sz => ?_)
  refine G.eql [(0, .ref (gAd E (56)))] rfl ?_
  unfold e_copy at hr
  refine G.go tv_X12_copy 1 1 [(0, .ref (gAd E (56)))] [.ref (gAd E (56))] rfl ?_
  obtain ⟨v93, R93, hv93, hr⟩ := bnd2_s hr
  refine G.callV (56) [] [] (k_X12_useTape E _ hE R ⟨_, _, r0⟩ v93 R93 hv93) cls_X12 (by omega) (r0.o) cw_X12_418 w_2480 w_99 (Nat.le_of_ble_eq_true rfl) rfl (Nat.le_of_ble_eq_true rfl) (tbd tv_X12_copy rfl) (fun v93w f93 q93 => ?_) (fun _ _ h => h.elim)
  obtain ⟨rfl, ⟨az93, sy93, r93⟩, fa93⟩ := q93
  refine G.eqs [.int (v93)] rfl ?_
  refine G.go tv_X12_copy 2 6 [(0, .ref (gAd E (56))), (1, .int (v93))] [.ref (gAd E (56))] rfl ?_
  obtain ⟨v94, R94, hv94, hr⟩ := bnd2_s hr
  refine G.callV (56) [] [] (k_X12_notMounted E _ hE R93 ⟨_, _, r93⟩ v94 R94 hv94) cls_X12 (by omega) (r93.o) cw_X12_403 w_2464 w_96 (Nat.le_of_ble_eq_true rfl) rfl (Nat.le_of_ble_eq_true rfl) (tbd tv_X12_copy rfl) (fun v94w f94 q94 => ?_) (fun _ _ h => h.elim)
  obtain ⟨rfl, ⟨az94, sy94, r94⟩, fa94⟩ := q94
  refine G.eqs [.int (v94)] rfl ?_
  refine G.if_eq 14 (tbd tv_X12_copy rfl) (by decide) (fun c9 => ?_) (fun c9 => ?_)
  · replace hr := ite_t c9 hr
    refine G.go tv_X12_copy 2 16 [(0, .ref (gAd E (56))), (1, .int (v93))] [.int (v93), .ref (gAd E (56))] rfl ?_
    obtain ⟨v95, R95, hv95, hr⟩ := bnd2_s hr
    refine G.callV (56) [.int (v93)] [] (k_X12_twoPaths E _ hE R94 ⟨_, _, r94⟩ v93 v95 R95 hv95) cls_X12 (by omega) (r94.o) cw_X12_451 w_2587 w_123 (Nat.le_of_ble_eq_true rfl) rfl (Nat.le_of_ble_eq_true rfl) (tbd tv_X12_copy rfl) (fun v95w f95 q95 => ?_) (fun _ _ h => h.elim)
    obtain ⟨rfl, ⟨az95, sy95, r95⟩, fa95⟩ := q95
    refine G.eqs [.int (v95)] rfl ?_
    refine G.go tv_X12_copy 3 22 [(0, .ref (gAd E (56))), (1, .int (v93)), (2, .int (v95))] [.int ((-1 : Int32)), .int (v95)] rfl ?_
    refine G.cmp_ne 28 (tbd tv_X12_copy rfl) (by decide) (fun c22 => ?_) (fun c22 => ?_)
    · replace hr := ite_f c22 hr
      refine G.go tv_X12_copy 3 31 [(0, .ref (gAd E (56))), (1, .int (v93)), (2, .int (v95))] [.ref (gAd E (56)), .int ((0 : Int32)), .ref (gAd E (56))] rfl ?_
      refine G.rg r95 hE 56 (.int (rS R95 56)) (by decide) rfl (tbd tv_X12_copy rfl) w_2121 ?_
      obtain ⟨v96, R96, hv96, hr⟩ := bnd2_s hr
      refine G.callV (56) [.int ((0 : Int32)), .int (rS R95 56)] [] (k_X12_walk E _ hE R95 ⟨_, _, r95⟩ ((0 : Int32)) (rS R95 56) v96 R96 hv96) cls_X12 (by omega) (r95.o) cw_X12_364 w_2495 w_102 (Nat.le_of_ble_eq_true rfl) rfl (Nat.le_of_ble_eq_true rfl) (tbd tv_X12_copy rfl) (fun v96w f96 q96 => ?_) (fun _ _ h => h.elim)
      obtain ⟨rfl, ⟨az96, sy96, r96⟩, fa96⟩ := q96
      refine G.eqs [.int (v96)] rfl ?_
      refine G.go tv_X12_copy 2 39 [(0, .ref (gAd E (56))), (1, .int (v93)), (2, .int (v95)), (3, .int (v96))] [.int (v96)] rfl ?_
      refine G.if_ge 44 (tbd tv_X12_copy rfl) (by decide) (fun c39 => ?_) (fun c39 => ?_)
      · replace hr := ite_t c39 hr
        refine G.go tv_X12_copy 2 46 [(0, .ref (gAd E (56))), (1, .int (v93)), (2, .int (v95)), (3, .int (v96))] [.int (v96), .ref (gAd E (56))] rfl ?_
        obtain ⟨v97, hv97, hr⟩ := bnd_s hr
        refine G.callV (56) [.int (v96)] [] (k_X12_kind E _ hE R96 ⟨_, _, r96⟩ v96 v97 hv97) cls_X12 (by omega) (r96.o) cw_X12_326 w_2369 w_74 (Nat.le_of_ble_eq_true rfl) rfl (Nat.le_of_ble_eq_true rfl) (tbd tv_X12_copy rfl) (fun v97w f97 q97 => ?_) (fun _ _ h => h.elim)
        obtain ⟨rfl, ⟨az97, sy97, r97⟩, fa97⟩ := q97
        refine G.eqs [.int (v97)] rfl ?_
        refine G.go tv_X12_copy 1 50 [(0, .ref (gAd E (56))), (1, .int (v93)), (2, .int (v95)), (3, .int (v96))] [.int ((2 : Int32)), .int (v97)] rfl ?_
        refine G.cmp_ne 56 (tbd tv_X12_copy rfl) (by decide) (fun c50 => ?_) (fun c50 => ?_)
        · replace hr := ite_f c50 hr
          refine G.go tv_X12_copy 1 57 [(0, .ref (gAd E (56))), (1, .int (v93)), (2, .int (v95)), (3, .int (v96))] [.int (v95)] rfl ?_
          refine G.if_ne 63 (tbd tv_X12_copy rfl) (by decide) (fun c57 => ?_) (fun c57 => ?_)
          · replace hr := ite_f c57 hr
            refine G.go tv_X12_copy 5 69 [(0, .ref (gAd E (56))), (1, .int (v93)), (2, .int (v95)), (3, .int (v96))] [.int ((v95) - ((1 : Int32))), .int ((16 : Int32)), .ref (gAd E (56))] rfl ?_
            obtain ⟨v98, R98, hv98, hr⟩ := bnd2_s hr
            refine G.callV (56) [.int ((16 : Int32)), .int ((v95) - ((1 : Int32)))] [] (k_X12_walkAhead E _ hE R96 ⟨_, _, r97⟩ ((16 : Int32)) ((v95) - ((1 : Int32))) v98 R98 hv98) cls_X12 (by omega) (r97.o) cw_X12_424 w_2491 w_101 (Nat.le_of_ble_eq_true rfl) rfl (Nat.le_of_ble_eq_true rfl) (tbd tv_X12_copy rfl) (fun v98w f98 q98 => ?_) (fun _ _ h => h.elim)
            obtain ⟨rfl, ⟨az98, sy98, r98⟩, fa98⟩ := q98
            refine G.eqs [.int (v98)] rfl ?_
            refine G.go tv_X12_copy 2 76 [(0, .ref (gAd E (56))), (1, .int (v93)), (2, .int (v95)), (3, .int (v96)), (4, .int (v98))] [.int (v98)] rfl ?_
            refine G.if_ge 82 (tbd tv_X12_copy rfl) (by decide) (fun c76 => ?_) (fun c76 => ?_)
            · replace hr := ite_t c76 hr
              refine G.go tv_X12_copy 3 86 [(0, .ref (gAd E (56))), (1, .int (v93)), (2, .int (v95)), (3, .int (v96)), (4, .int (v98))] [.ref (gAd E (56)), .int (v98), .ref (gAd E (56))] rfl ?_
              refine G.rg r98 hE 50 (.ref (gAd E (84))) (by decide) rfl (tbd tv_X12_copy rfl) w_2115 ?_
              refine G.go tv_X12_copy 3 93 [(0, .ref (gAd E (56))), (1, .int (v93)), (2, .int (v95)), (3, .int (v96)), (4, .int (v98))] [.int (((15 : Int32)) + (v95)), .ref (gAd E (84)), .int (v98), .ref (gAd E (56))] rfl ?_
              obtain ⟨v99, b99, e99, hr⟩ := ld_s hr
              refine G.ialdE (84) (by omega) (r98.a50) b99 e99 (tbd tv_X12_copy rfl) ?_
              refine G.go tv_X12_copy 1 95 [(0, .ref (gAd E (56))), (1, .int (v93)), (2, .int (v95)), (3, .int (v96)), (4, .int (v98))] [.ref (gAd E (56)), .int (v99), .int (v98), .ref (gAd E (56))] rfl ?_
              refine G.rg r98 hE 51 (.ref (gAd E (85))) (by decide) rfl (tbd tv_X12_copy rfl) w_2116 ?_
              refine G.go tv_X12_copy 3 102 [(0, .ref (gAd E (56))), (1, .int (v93)), (2, .int (v95)), (3, .int (v96)), (4, .int (v98))] [.int (((15 : Int32)) + (v95)), .ref (gAd E (85)), .int (v99), .int (v98), .ref (gAd E (56))] rfl ?_
              obtain ⟨v100, b100, e100, hr⟩ := ld_s hr
              refine G.ialdE (85) (by omega) (r98.a51) b100 e100 (tbd tv_X12_copy rfl) ?_
              obtain ⟨v101, R101, hv101, hr⟩ := bnd2_s hr
              refine G.callV (56) [.int (v98), .int (v99), .int (v100)] [] (k_X12_slotOf E _ hE R98 ⟨_, _, r98⟩ v98 v99 v100 v101 R101 hv101) cls_X12 (by omega) (r98.o) cw_X12_361 w_2499 w_103 (Nat.le_of_ble_eq_true rfl) rfl (Nat.le_of_ble_eq_true rfl) (tbd tv_X12_copy rfl) (fun v101w f101 q101 => ?_) (fun _ _ h => h.elim)
              obtain ⟨rfl, ⟨az101, sy101, r101⟩, fa101⟩ := q101
              refine G.eqs [.int (v101)] rfl ?_
              refine G.go tv_X12_copy 1 107 [(0, .ref (gAd E (56))), (1, .int (v93)), (2, .int (v95)), (3, .int (v96)), (4, .int (v98))] [.int ((-1 : Int32)), .int (v101)] rfl ?_
              refine G.cmp_eq 113 (tbd tv_X12_copy rfl) (by decide) (fun c107 => ?_) (fun c107 => ?_)
              · replace hr := ite_t c107 hr
                refine G.go tv_X12_copy 2 115 [(0, .ref (gAd E (56))), (1, .int (v93)), (2, .int (v95)), (3, .int (v96)), (4, .int (v98))] [.int (v96), .ref (gAd E (56))] rfl ?_
                obtain ⟨v102, hv102, hr⟩ := bnd_s hr
                refine G.callV (56) [.int (v96)] [] (k_X12_tablesFor E _ hE R101 ⟨_, _, r101⟩ v96 v102 hv102) cls_X12 (by omega) (r101.o) cw_X12_466 w_2619 w_128 (Nat.le_of_ble_eq_true rfl) rfl (Nat.le_of_ble_eq_true rfl) (tbd tv_X12_copy rfl) (fun v102w f102 q102 => ?_) (fun _ _ h => h.elim)
                obtain ⟨rfl, ⟨az102, sy102, r102⟩, fa102⟩ := q102
                refine G.eqs [.int (v102)] rfl ?_
                refine G.go tv_X12_copy 1 120 [(0, .ref (gAd E (56))), (1, .int (v93)), (2, .int (v95)), (3, .int (v96)), (4, .int (v98))] [.int ((32 : Int32)), .int (v102)] rfl ?_
                refine G.cmp_le 126 (tbd tv_X12_copy rfl) (by decide) (fun c120 => ?_) (fun c120 => ?_)
                · replace hr := ite_t c120 hr
                  refine G.go tv_X12_copy 1 127 [(0, .ref (gAd E (56))), (1, .int (v93)), (2, .int (v95)), (3, .int (v96)), (4, .int (v98))] [.ref (gAd E (56))] rfl ?_
                  obtain ⟨v103, hv103, hr⟩ := bnd_s hr
                  refine G.callV (56) [] [] (k_X12_freeInode E _ hE R101 ⟨_, _, r102⟩ v103 hv103) cls_X12 (by omega) (r102.o) cw_X12_427 w_2519 w_108 (Nat.le_of_ble_eq_true rfl) rfl (Nat.le_of_ble_eq_true rfl) (tbd tv_X12_copy rfl) (fun v103w f103 q103 => ?_) (fun _ _ h => h.elim)
                  obtain ⟨rfl, ⟨az103, sy103, r103⟩, fa103⟩ := q103
                  refine G.eqs [.int (v103)] rfl ?_
                  refine G.go tv_X12_copy 2 134 [(0, .ref (gAd E (56))), (1, .int (v93)), (2, .int (v95)), (3, .int (v96)), (4, .int (v98)), (5, .int (v103))] [.int (v103)] rfl ?_
                  refine G.if_ne 140 (tbd tv_X12_copy rfl) (by decide) (fun c134 => ?_) (fun c134 => ?_)
                  · replace hr := ite_f c134 hr
                    refine G.go tv_X12_copy 2 143 [(0, .ref (gAd E (56))), (1, .int (v93)), (2, .int (v95)), (3, .int (v96)), (4, .int (v98)), (5, .int (v103))] [.int (v98), .ref (gAd E (56))] rfl ?_
                    obtain ⟨v104, hv104, hr⟩ := bnd_s hr
                    refine G.callV (56) [.int (v98)] [] (k_X12_size E _ hE R101 ⟨_, _, r103⟩ v98 v104 hv104) cls_X12 (by omega) (r103.o) cw_X12_344 w_2503 w_104 (Nat.le_of_ble_eq_true rfl) rfl (Nat.le_of_ble_eq_true rfl) (tbd tv_X12_copy rfl) (fun v104w f104 q104 => ?_) (fun _ _ h => h.elim)
                    obtain ⟨rfl, ⟨az104, sy104, r104⟩, fa104⟩ := q104
                    refine G.eqs [.int (v104)] rfl ?_
                    refine G.go tv_X12_copy 1 149 [(0, .ref (gAd E (56))), (1, .int (v93)), (2, .int (v95)), (3, .int (v96)), (4, .int (v98)), (5, .int (v103))] [.int ((128 : Int32)), .int (v104)] rfl ?_
                    refine G.idiv (by decide) (tbd tv_X12_copy rfl) ?_
                    refine G.go tv_X12_copy 3 155 [(0, .ref (gAd E (56))), (1, .int (v93)), (2, .int (v95)), (3, .int (v96)), (4, .int (v98)), (5, .int (v103)), (6, .int ((v104) / ((128 : Int32))))] [.int (v98), .ref (gAd E (56))] rfl ?_
                    obtain ⟨v105, hv105, hr⟩ := bnd_s hr
                    refine G.callV (56) [.int (v98)] [] (k_X12_freeSlot E _ hE R101 ⟨_, _, r104⟩ v98 v105 hv105) cls_X12 (by omega) (r104.o) cw_X12_351 w_2527 w_110 (Nat.le_of_ble_eq_true rfl) rfl (Nat.le_of_ble_eq_true rfl) (tbd tv_X12_copy rfl) (fun v105w f105 q105 => ?_) (fun _ _ h => h.elim)
                    obtain ⟨rfl, ⟨az105, sy105, r105⟩, fa105⟩ := q105
                    refine G.eqs [.int (v105)] rfl ?_
                    refine G.go tv_X12_copy 1 159 [(0, .ref (gAd E (56))), (1, .int (v93)), (2, .int (v95)), (3, .int (v96)), (4, .int (v98)), (5, .int (v103)), (6, .int ((v104) / ((128 : Int32))))] [.int ((-1 : Int32)), .int (v105)] rfl ?_
                    refine G.cmp_ne 175 (tbd tv_X12_copy rfl) (by decide) (fun c159 => ?_) (fun c159 => ?_)
                    · replace hr := ite_f c159 hr
                      refine G.go tv_X12_copy 2 178 [(0, .ref (gAd E (56))), (1, .int (v93)), (2, .int (v95)), (3, .int (v96)), (4, .int (v98)), (5, .int (v103)), (6, .int ((v104) / ((128 : Int32)))), (7, .int ((0 : Int32)))] [] rfl ?_
                      refine G.less [(0, .ref (gAd E (56))), (2, .int (v95)), (3, .int (v96)), (4, .int (v98)), (5, .int (v103)), (7, .int ((0 : Int32)))] [0, 2, 3, 4, 5, 7] rfl ?_
                      exact l_X12_copy_178 E f sz _ hE _ _ _ _ _ _ _ _ hr _ ⟨_, _, r105⟩ (((((((((((Fr.rf.tr fa93 (fun _ h => h)).tr fa94 (fun _ h => h)).tr fa95 (fun _ h => h)).tr fa96 (fun _ h => h)).tr fa97 (fun _ h => h)).tr fa98 (fun _ h => h)).tr fa101 (fun _ h => h)).tr fa102 (fun _ h => h)).tr fa103 (fun _ h => h)).tr fa104 (fun _ h => h)).tr fa105 (fun _ h => h))
                    · replace hr := ite_t c159 hr
                      refine G.go tv_X12_copy 4 169 [(0, .ref (gAd E (56))), (1, .int (v93)), (2, .int (v95)), (3, .int (v96)), (4, .int (v98)), (5, .int (v103)), (6, .int ((v104) / ((128 : Int32))))] [.int ((v104) / ((128 : Int32))), .int ((v104) / ((128 : Int32))), .int (v98), .ref (gAd E (56))] rfl ?_
                      obtain ⟨v106, hv106, hr⟩ := bnd_s hr
                      refine G.callV (56) [.int (v98), .int ((v104) / ((128 : Int32))), .int ((v104) / ((128 : Int32)))] [] (k_X12_need E _ hE R101 ⟨_, _, r105⟩ v98 ((v104) / ((128 : Int32))) ((v104) / ((128 : Int32))) v106 hv106) cls_X12 (by omega) (r105.o) cw_X12_412 w_2531 w_111 (Nat.le_of_ble_eq_true rfl) rfl (Nat.le_of_ble_eq_true rfl) (tbd tv_X12_copy rfl) (fun v106w f106 q106 => ?_) (fun _ _ h => h.elim)
                      obtain ⟨rfl, ⟨az106, sy106, r106⟩, fa106⟩ := q106
                      refine G.eqs [.int (v106)] rfl ?_
                      refine G.go tv_X12_copy 2 178 [(0, .ref (gAd E (56))), (1, .int (v93)), (2, .int (v95)), (3, .int (v96)), (4, .int (v98)), (5, .int (v103)), (6, .int ((v104) / ((128 : Int32)))), (7, .int (v106))] [] rfl ?_
                      refine G.less [(0, .ref (gAd E (56))), (2, .int (v95)), (3, .int (v96)), (4, .int (v98)), (5, .int (v103)), (7, .int (v106))] [0, 2, 3, 4, 5, 7] rfl ?_
                      exact l_X12_copy_178 E f sz _ hE _ _ _ _ _ _ _ _ hr _ ⟨_, _, r106⟩ ((((((((((((Fr.rf.tr fa93 (fun _ h => h)).tr fa94 (fun _ h => h)).tr fa95 (fun _ h => h)).tr fa96 (fun _ h => h)).tr fa97 (fun _ h => h)).tr fa98 (fun _ h => h)).tr fa101 (fun _ h => h)).tr fa102 (fun _ h => h)).tr fa103 (fun _ h => h)).tr fa104 (fun _ h => h)).tr fa105 (fun _ h => h)).tr fa106 (fun _ h => h))
                  · replace hr := ite_t c134 hr
                    refine G.go tv_X12_copy 1 139 [(0, .ref (gAd E (56))), (1, .int (v93)), (2, .int (v95)), (3, .int (v96)), (4, .int (v98)), (5, .int (v103))] [.int ((-8 : Int32))] rfl ?_
                    cases hr
                    exact G.iret rfl rfl ⟨rfl, ⟨_, _, r103⟩, (((((((((Fr.rf.tr fa93 (fun _ h => h)).tr fa94 (fun _ h => h)).tr fa95 (fun _ h => h)).tr fa96 (fun _ h => h)).tr fa97 (fun _ h => h)).tr fa98 (fun _ h => h)).tr fa101 (fun _ h => h)).tr fa102 (fun _ h => h)).tr fa103 (fun _ h => h))⟩ (tbd tv_X12_copy rfl)
                · replace hr := ite_f c120 hr
                  refine G.go tv_X12_copy 1 125 [(0, .ref (gAd E (56))), (1, .int (v93)), (2, .int (v95)), (3, .int (v96)), (4, .int (v98))] [.int ((-12 : Int32))] rfl ?_
                  cases hr
                  exact G.iret rfl rfl ⟨rfl, ⟨_, _, r102⟩, ((((((((Fr.rf.tr fa93 (fun _ h => h)).tr fa94 (fun _ h => h)).tr fa95 (fun _ h => h)).tr fa96 (fun _ h => h)).tr fa97 (fun _ h => h)).tr fa98 (fun _ h => h)).tr fa101 (fun _ h => h)).tr fa102 (fun _ h => h))⟩ (tbd tv_X12_copy rfl)
              · replace hr := ite_f c107 hr
                refine G.go tv_X12_copy 1 112 [(0, .ref (gAd E (56))), (1, .int (v93)), (2, .int (v95)), (3, .int (v96)), (4, .int (v98))] [.int ((-2 : Int32))] rfl ?_
                cases hr
                exact G.iret rfl rfl ⟨rfl, ⟨_, _, r101⟩, (((((((Fr.rf.tr fa93 (fun _ h => h)).tr fa94 (fun _ h => h)).tr fa95 (fun _ h => h)).tr fa96 (fun _ h => h)).tr fa97 (fun _ h => h)).tr fa98 (fun _ h => h)).tr fa101 (fun _ h => h))⟩ (tbd tv_X12_copy rfl)
            · replace hr := ite_f c76 hr
              refine G.go tv_X12_copy 1 81 [(0, .ref (gAd E (56))), (1, .int (v93)), (2, .int (v95)), (3, .int (v96)), (4, .int (v98))] [.int (v98)] rfl ?_
              cases hr
              exact G.iret rfl rfl ⟨rfl, ⟨_, _, r98⟩, ((((((Fr.rf.tr fa93 (fun _ h => h)).tr fa94 (fun _ h => h)).tr fa95 (fun _ h => h)).tr fa96 (fun _ h => h)).tr fa97 (fun _ h => h)).tr fa98 (fun _ h => h))⟩ (tbd tv_X12_copy rfl)
          · replace hr := ite_t c57 hr
            refine G.go tv_X12_copy 1 62 [(0, .ref (gAd E (56))), (1, .int (v93)), (2, .int (v95)), (3, .int (v96))] [.int ((-9 : Int32))] rfl ?_
            cases hr
            exact G.iret rfl rfl ⟨rfl, ⟨_, _, r97⟩, (((((Fr.rf.tr fa93 (fun _ h => h)).tr fa94 (fun _ h => h)).tr fa95 (fun _ h => h)).tr fa96 (fun _ h => h)).tr fa97 (fun _ h => h))⟩ (tbd tv_X12_copy rfl)
        · replace hr := ite_t c50 hr
          refine G.go tv_X12_copy 1 55 [(0, .ref (gAd E (56))), (1, .int (v93)), (2, .int (v95)), (3, .int (v96))] [.int ((-4 : Int32))] rfl ?_
          cases hr
          exact G.iret rfl rfl ⟨rfl, ⟨_, _, r97⟩, (((((Fr.rf.tr fa93 (fun _ h => h)).tr fa94 (fun _ h => h)).tr fa95 (fun _ h => h)).tr fa96 (fun _ h => h)).tr fa97 (fun _ h => h))⟩ (tbd tv_X12_copy rfl)
      · replace hr := ite_f c39 hr
        refine G.go tv_X12_copy 1 43 [(0, .ref (gAd E (56))), (1, .int (v93)), (2, .int (v95)), (3, .int (v96))] [.int (v96)] rfl ?_
        cases hr
        exact G.iret rfl rfl ⟨rfl, ⟨_, _, r96⟩, ((((Fr.rf.tr fa93 (fun _ h => h)).tr fa94 (fun _ h => h)).tr fa95 (fun _ h => h)).tr fa96 (fun _ h => h))⟩ (tbd tv_X12_copy rfl)
    · replace hr := ite_t c22 hr
      refine G.go tv_X12_copy 1 27 [(0, .ref (gAd E (56))), (1, .int (v93)), (2, .int (v95))] [.int ((-6 : Int32))] rfl ?_
      cases hr
      exact G.iret rfl rfl ⟨rfl, ⟨_, _, r95⟩, (((Fr.rf.tr fa93 (fun _ h => h)).tr fa94 (fun _ h => h)).tr fa95 (fun _ h => h))⟩ (tbd tv_X12_copy rfl)
  · replace hr := ite_f c9 hr
    refine G.go tv_X12_copy 1 13 [(0, .ref (gAd E (56))), (1, .int (v93))] [.int ((0 : Int32))] rfl ?_
    cases hr
    exact G.iret rfl rfl ⟨rfl, ⟨_, _, r94⟩, ((Fr.rf.tr fa93 (fun _ h => h)).tr fa94 (fun _ h => h))⟩ (tbd tv_X12_copy rfl)
def e_find  (R : RfT) : Option (Int32 × RfT) := bnd2 (e_useTape R) (fun v121 R121 => bnd2 (e_notMounted R121) (fun v122 R122 => if v122 = 0 then bnd2 (e_path R122 ((0 : Int32)) v121 ((0 : Int32))) (fun v123 R123 => if v123 = ((-1 : Int32)) then some ((-6 : Int32), R123) else bnd2 (e_walk R123 ((0 : Int32)) v123) (fun v124 R124 => some (v124, R124))) else some ((0 : Int32), R122)))
set_option maxRecDepth 100000 in
set_option maxHeartbeats 4000000 in
theorem k_X12_find (E : gE) (f : Nat → va_E) (hE : 94 ≤ gN E) (R : RfT) (w : RW E f R) (r : Int32) (R9 : RfT) (hr : e_find R = some (r, R9)) : Ct E 8 yX12_find cX12_find 3 (some .int) [.ref (gAd E (56))] f (fun v g => v = some (.int r) ∧ RW E g R9 ∧ Fr RfK f g, fun _ _ => False) := by
  obtain ⟨az, sy, r0⟩ := w
  refine Ct.of (by decide) (Nat.le_of_ble_eq_true rfl) (fun sz => ?_)
  refine G.eql [(0, .ref (gAd E (56)))] rfl ?_
  unfold e_find at hr
  refine G.go tv_X12_find 1 1 [(0, .ref (gAd E (56)))] [.ref (gAd E (56))] rfl ?_
  obtain ⟨v121, R121, hv121, hr⟩ := bnd2_s hr
  refine G.callV (56) [] [] (k_X12_useTape E _ hE R ⟨_, _, r0⟩ v121 R121 hv121) cls_X12 (by omega) (r0.o) cw_X12_418 w_2480 w_99 (Nat.le_of_ble_eq_true rfl) rfl (Nat.le_of_ble_eq_true rfl) (tbd tv_X12_find rfl) (fun v121w f121 q121 => ?_) (fun _ _ h => h.elim)
  obtain ⟨rfl, ⟨az121, sy121, r121⟩, fa121⟩ := q121
  refine G.eqs [.int (v121)] rfl ?_
  refine G.go tv_X12_find 2 6 [(0, .ref (gAd E (56))), (1, .int (v121))] [.ref (gAd E (56))] rfl ?_
  obtain ⟨v122, R122, hv122, hr⟩ := bnd2_s hr
  refine G.callV (56) [] [] (k_X12_notMounted E _ hE R121 ⟨_, _, r121⟩ v122 R122 hv122) cls_X12 (by omega) (r121.o) cw_X12_403 w_2464 w_96 (Nat.le_of_ble_eq_true rfl) rfl (Nat.le_of_ble_eq_true rfl) (tbd tv_X12_find rfl) (fun v122w f122 q122 => ?_) (fun _ _ h => h.elim)
  obtain ⟨rfl, ⟨az122, sy122, r122⟩, fa122⟩ := q122
  refine G.eqs [.int (v122)] rfl ?_
  refine G.if_eq 14 (tbd tv_X12_find rfl) (by decide) (fun c9 => ?_) (fun c9 => ?_)
  · replace hr := ite_t c9 hr
    refine G.go tv_X12_find 4 18 [(0, .ref (gAd E (56))), (1, .int (v121))] [.int ((0 : Int32)), .int (v121), .int ((0 : Int32)), .ref (gAd E (56))] rfl ?_
    obtain ⟨v123, R123, hv123, hr⟩ := bnd2_s hr
    refine G.callV (56) [.int ((0 : Int32)), .int (v121), .int ((0 : Int32))] [] (k_X12_path E _ hE R122 ⟨_, _, r122⟩ ((0 : Int32)) v121 ((0 : Int32)) v123 R123 hv123) cls_X12 (by omega) (r122.o) cw_X12_421 w_2484 w_100 (Nat.le_of_ble_eq_true rfl) rfl (Nat.le_of_ble_eq_true rfl) (tbd tv_X12_find rfl) (fun v123w f123 q123 => ?_) (fun _ _ h => h.elim)
    obtain ⟨rfl, ⟨az123, sy123, r123⟩, fa123⟩ := q123
    refine G.eqs [.int (v123)] rfl ?_
    refine G.go tv_X12_find 3 24 [(0, .ref (gAd E (56))), (1, .int (v121)), (2, .int (v123))] [.int ((-1 : Int32)), .int (v123)] rfl ?_
    refine G.cmp_ne 32 (tbd tv_X12_find rfl) (by decide) (fun c24 => ?_) (fun c24 => ?_)
    · replace hr := ite_f c24 hr
      refine G.go tv_X12_find 3 35 [(0, .ref (gAd E (56))), (1, .int (v121)), (2, .int (v123))] [.int (v123), .int ((0 : Int32)), .ref (gAd E (56))] rfl ?_
      obtain ⟨v124, R124, hv124, hr⟩ := bnd2_s hr
      refine G.callV (56) [.int ((0 : Int32)), .int (v123)] [] (k_X12_walk E _ hE R123 ⟨_, _, r123⟩ ((0 : Int32)) v123 v124 R124 hv124) cls_X12 (by omega) (r123.o) cw_X12_364 w_2495 w_102 (Nat.le_of_ble_eq_true rfl) rfl (Nat.le_of_ble_eq_true rfl) (tbd tv_X12_find rfl) (fun v124w f124 q124 => ?_) (fun _ _ h => h.elim)
      obtain ⟨rfl, ⟨az124, sy124, r124⟩, fa124⟩ := q124
      refine G.eqs [.int (v124)] rfl ?_
      cases hr
      exact G.iret rfl rfl ⟨rfl, ⟨_, _, r124⟩, ((((Fr.rf.tr fa121 (fun _ h => h)).tr fa122 (fun _ h => h)).tr fa123 (fun _ h => h)).tr fa124 (fun _ h => h))⟩ (tbd tv_X12_find rfl)
    · replace hr := ite_t c24 hr
      refine G.go tv_X12_find 2 38 [(0, .ref (gAd E (56))), (1, .int (v121)), (2, .int (v123))] [.int ((-6 : Int32))] rfl ?_
      cases hr
      exact G.iret rfl rfl ⟨rfl, ⟨_, _, r123⟩, (((Fr.rf.tr fa121 (fun _ h => h)).tr fa122 (fun _ h => h)).tr fa123 (fun _ h => h))⟩ (tbd tv_X12_find rfl)
  · replace hr := ite_f c9 hr
    refine G.go tv_X12_find 1 13 [(0, .ref (gAd E (56))), (1, .int (v121))] [.int ((0 : Int32))] rfl ?_
    cases hr
    exact G.iret rfl rfl ⟨rfl, ⟨_, _, r122⟩, ((Fr.rf.tr fa121 (fun _ h => h)).tr fa122 (fun _ h => h))⟩ (tbd tv_X12_find rfl)
theorem w_2641 : Cond.methodLink "LedgerFilesModel" 480 yX12_writeData ∈ TB := tp_11 95 (by decide +kernel) rfl
theorem w_2644 : Cond.code yX12_writeData prog_14_method_101_code 11 (some .int) ∈ TB := tp_11 98 rfl rfl
theorem cw_X12_480 : Cw RX12 480 yX12_writeData cX12_writeData 11 (some .int) 3 := ⟨w_2641, w_2644, w_161, by decide +kernel, by decide +kernel, by decide⟩
theorem w_2643 : Cond.instanceMethod yX12_writeData ∈ TB := tp_11 97 (by decide +kernel) rfl
theorem w_132 : Cond.selects "LedgerFilesModel" yX12_writeData yX12_writeData ∈ TB := tp_0 132 (by decide +kernel) rfl
noncomputable def e_write_17  : Nat → RfT → Int32 → Int32 → Int32 → Int32 → Option (Int32 × RfT)
  | 0, _, _, _, _, _ => none
  | n + 1, R, x1, x2, x3, x4 => if x3 ≤ x4 then bnd2 (e_writeData R x1 x2 x3) (fun v127 R127 => some (v127, R127)) else ld (rA R 4) 1024 x4 (fun v128 => stR R 59 2000 x4 (vp_nar .byte v128) (fun R129 => e_write_17  n R129 x1 x2 x3 (x4 + (1 : Int32))))
noncomputable def e_write  (R : RfT) (a0 : Int32) (a1 : Int32) : Option (Int32 × RfT) := bnd2 (e_useTape R) (fun v125 R125 => bnd2 (e_notMounted R125) (fun v126 R126 => if v126 = 0 then e_write_17  fuL R126 a0 a1 v125 ((0 : Int32)) else some ((0 : Int32), R126)))
set_option maxRecDepth 100000 in
set_option maxHeartbeats 4000000 in
theorem l_X12_write_17 (E : gE) (f0 : Nat → va_E) (sz : Nat) (QA : Nat → Prop) (hE : 94 ≤ gN E) : ∀ (n : Nat), ∀ (R : RfT) (x1 : Int32) (x2 : Int32) (x3 : Int32) (x4 : Int32) (r : Int32) (R9 : RfT) (hr : e_write_17  n R x1 x2 x3 x4 = some (r, R9)) (f : Nat → va_E) (w : RW E f R) (hf : Fr RfK f0 f), G E (14, yX12_write, 5, (some .int), sz, QA) cX12_write (gO E (14, yX12_write, 5, (some .int), sz, QA) (fun v g => v = some (.int r) ∧ RW E g R9 ∧ Fr RfK f0 g, fun _ _ => False)) 17 [(0, .ref (gAd E (56))), (1, .int (x1)), (2, .int (x2)), (3, .int (x3)), (4, .int (x4))] [] f := by
  intro n
  induction n with
  | zero =>
    intro R x1 x2 x3 x4 r R9 hr f w hf
    cases hr
  | succ n ih =>
    intro R x1 x2 x3 x4 r R9 hr f w hf
    obtain ⟨az, sy, r0⟩ := w
    unfold e_write_17 at hr
    refine G.go tv_X12_write 2 20 [(0, .ref (gAd E (56))), (1, .int (x1)), (2, .int (x2)), (3, .int (x3)), (4, .int (x4))] [.int (x3), .int (x4)] rfl ?_
    refine G.cmp_ge 43 (tbd tv_X12_write rfl) (by decide) (fun c20 => ?_) (fun c20 => ?_)
    · replace hr := ite_t c20 hr
      refine G.go tv_X12_write 4 47 [(0, .ref (gAd E (56))), (1, .int (x1)), (2, .int (x2)), (3, .int (x3)), (4, .int (x4))] [.int (x3), .int (x2), .int (x1), .ref (gAd E (56))] rfl ?_
      obtain ⟨v127, R127, hv127, hr⟩ := bnd2_s hr
      refine G.callV (56) [.int (x1), .int (x2), .int (x3)] [] (k_X12_writeData E _ hE R ⟨_, _, r0⟩ x1 x2 x3 v127 R127 hv127) cls_X12 (by omega) (r0.o) cw_X12_480 w_2643 w_132 (Nat.le_of_ble_eq_true rfl) rfl (Nat.le_of_ble_eq_true rfl) (tbd tv_X12_write rfl) (fun v127w f127 q127 => ?_) (fun _ _ h => h.elim)
      obtain ⟨rfl, ⟨az127, sy127, r127⟩, fa127⟩ := q127
      refine G.eqs [.int (v127)] rfl ?_
      cases hr
      exact G.iret rfl rfl ⟨rfl, ⟨_, _, r127⟩, (hf.tr fa127 (fun _ h => h))⟩ (tbd tv_X12_write rfl)
    · replace hr := ite_f c20 hr
      refine G.go tv_X12_write 1 24 [(0, .ref (gAd E (56))), (1, .int (x1)), (2, .int (x2)), (3, .int (x3)), (4, .int (x4))] [.ref (gAd E (56))] rfl ?_
      refine G.rg r0 hE 59 (.ref (gAd E (92))) (by decide) rfl (tbd tv_X12_write rfl) w_2124 ?_
      refine G.go tv_X12_write 2 30 [(0, .ref (gAd E (56))), (1, .int (x1)), (2, .int (x2)), (3, .int (x3)), (4, .int (x4))] [.ref (gAd E (56)), .int (x4), .ref (gAd E (92))] rfl ?_
      refine G.rg r0 hE 4 (.ref (gAd E (57))) (by decide) rfl (tbd tv_X12_write rfl) w_2069 ?_
      refine G.go tv_X12_write 1 35 [(0, .ref (gAd E (56))), (1, .int (x1)), (2, .int (x2)), (3, .int (x3)), (4, .int (x4))] [.int (x4), .ref (gAd E (57)), .int (x4), .ref (gAd E (92))] rfl ?_
      obtain ⟨v128, b128, e128, hr⟩ := ld_s hr
      refine G.baldE (57) (by omega) (r0.a4) b128 e128 (tbd tv_X12_write rfl) ?_
      obtain ⟨R129, b129, eR129, hr⟩ := stR_s hr
      refine G.bast (92) (by omega) (r0.a59) b129 (tbd tv_X12_write rfl) ?_
      refine G.gen (P := fun w9 => RfV E w9 (setSr (setS R129 42 az) sy) ∧ Fr RfK f0 w9) ⟨by rw [eR129]; exact r0.p59 _, Fr.up hf ⟨by decide, by decide⟩⟩ (fun u129 p129 => ?_)
      obtain ⟨r129, h129⟩ := p129
      refine G.go tv_X12_write 2 17 [(0, .ref (gAd E (56))), (1, .int (x1)), (2, .int (x2)), (3, .int (x3)), (4, .int (x4 + (1 : Int32)))] [] rfl ?_
      refine G.less [(0, .ref (gAd E (56))), (1, .int (x1)), (2, .int (x2)), (3, .int (x3)), (4, .int (x4 + (1 : Int32)))] [0, 1, 2, 3, 4] rfl ?_
      exact ih _ _ _ _ _ _ _ hr _ ⟨_, _, r129⟩ h129
set_option maxRecDepth 100000 in
set_option maxHeartbeats 4000000 in
theorem k_X12_write (E : gE) (f : Nat → va_E) (hE : 94 ≤ gN E) (R : RfT) (w : RW E f R) (a0 : Int32) (a1 : Int32) (r : Int32) (R9 : RfT) (hr : e_write R a0 a1 = some (r, R9)) : Ct E 14 yX12_write cX12_write 5 (some .int) [.ref (gAd E (56)), .int (a0), .int (a1)] f (fun v g => v = some (.int r) ∧ RW E g R9 ∧ Fr RfK f g, fun _ _ => False) := by
  obtain ⟨az, sy, r0⟩ := w
  refine Ct.of (by decide) (Nat.le_of_ble_eq_true rfl) (fun sz => ?_)
  refine G.eql [(0, .ref (gAd E (56))), (1, .int (a0)), (2, .int (a1))] rfl ?_
  unfold e_write at hr
  refine G.go tv_X12_write 1 1 [(0, .ref (gAd E (56))), (1, .int (a0)), (2, .int (a1))] [.ref (gAd E (56))] rfl ?_
  obtain ⟨v125, R125, hv125, hr⟩ := bnd2_s hr
  refine G.callV (56) [] [] (k_X12_useTape E _ hE R ⟨_, _, r0⟩ v125 R125 hv125) cls_X12 (by omega) (r0.o) cw_X12_418 w_2480 w_99 (Nat.le_of_ble_eq_true rfl) rfl (Nat.le_of_ble_eq_true rfl) (tbd tv_X12_write rfl) (fun v125w f125 q125 => ?_) (fun _ _ h => h.elim)
  obtain ⟨rfl, ⟨az125, sy125, r125⟩, fa125⟩ := q125
  refine G.eqs [.int (v125)] rfl ?_
  refine G.go tv_X12_write 2 6 [(0, .ref (gAd E (56))), (1, .int (a0)), (2, .int (a1)), (3, .int (v125))] [.ref (gAd E (56))] rfl ?_
  obtain ⟨v126, R126, hv126, hr⟩ := bnd2_s hr
  refine G.callV (56) [] [] (k_X12_notMounted E _ hE R125 ⟨_, _, r125⟩ v126 R126 hv126) cls_X12 (by omega) (r125.o) cw_X12_403 w_2464 w_96 (Nat.le_of_ble_eq_true rfl) rfl (Nat.le_of_ble_eq_true rfl) (tbd tv_X12_write rfl) (fun v126w f126 q126 => ?_) (fun _ _ h => h.elim)
  obtain ⟨rfl, ⟨az126, sy126, r126⟩, fa126⟩ := q126
  refine G.eqs [.int (v126)] rfl ?_
  refine G.if_eq 14 (tbd tv_X12_write rfl) (by decide) (fun c9 => ?_) (fun c9 => ?_)
  · replace hr := ite_t c9 hr
    refine G.go tv_X12_write 2 17 [(0, .ref (gAd E (56))), (1, .int (a0)), (2, .int (a1)), (3, .int (v125)), (4, .int ((0 : Int32)))] [] rfl ?_
    refine G.less [(0, .ref (gAd E (56))), (1, .int (a0)), (2, .int (a1)), (3, .int (v125)), (4, .int ((0 : Int32)))] [0, 1, 2, 3, 4] rfl ?_
    exact l_X12_write_17 E f sz _ hE _ _ _ _ _ _ _ _ hr _ ⟨_, _, r126⟩ ((Fr.rf.tr fa125 (fun _ h => h)).tr fa126 (fun _ h => h))
  · replace hr := ite_f c9 hr
    refine G.go tv_X12_write 1 13 [(0, .ref (gAd E (56))), (1, .int (a0)), (2, .int (a1)), (3, .int (v125))] [.int ((0 : Int32))] rfl ?_
    cases hr
    exact G.iret rfl rfl ⟨rfl, ⟨_, _, r126⟩, ((Fr.rf.tr fa125 (fun _ h => h)).tr fa126 (fun _ h => h))⟩ (tbd tv_X12_write rfl)
noncomputable def e_fill_36  : Nat → RfT → Int32 → Int32 → Int32 → Int32 → Int32 → Option (Int32 × RfT)
  | 0, _, _, _, _, _, _ => none
  | n + 1, R, x1, x2, x3, x4, x5 => if x3 ≤ x5 then bnd2 (e_writeData R x1 x2 x3) (fun v134 R134 => some (v134, R134)) else stR R 59 2000 x5 (vp_nar .byte ((((x4) + ((x5) * (x5))) + ((x5) >>> (((5 : Int32)) &&& 31)) : Int32).toInt8.toInt32)) (fun R135 => e_fill_36  n R135 x1 x2 x3 x4 (x5 + (1 : Int32)))
noncomputable def e_fill  (R : RfT) (a0 : Int32) (a1 : Int32) (a2 : Int32) (a3 : Int32) : Option (Int32 × RfT) := bnd2 (e_notMounted R) (fun v130 R130 => if v130 = 0 then if a2 < 0 then bnd2 (e_refuse R130 ((1 : Int32)) ((3 : Int32))) (fun v131 R131 => if v131 = 0 then e_fill_36  fuL R131 a0 a1 a2 a3 ((0 : Int32)) else some ((0 : Int32), R131)) else if a2 ≤ ((2000 : Int32)) then bnd2 (e_refuse R130 ((0 : Int32)) ((3 : Int32))) (fun v132 R132 => if v132 = 0 then e_fill_36  fuL R132 a0 a1 a2 a3 ((0 : Int32)) else some ((0 : Int32), R132)) else bnd2 (e_refuse R130 ((1 : Int32)) ((3 : Int32))) (fun v133 R133 => if v133 = 0 then e_fill_36  fuL R133 a0 a1 a2 a3 ((0 : Int32)) else some ((0 : Int32), R133)) else some ((0 : Int32), R130))
set_option maxRecDepth 100000 in
set_option maxHeartbeats 4000000 in
theorem l_X12_fill_36 (E : gE) (f0 : Nat → va_E) (sz : Nat) (QA : Nat → Prop) (hE : 94 ≤ gN E) : ∀ (n : Nat), ∀ (R : RfT) (x1 : Int32) (x2 : Int32) (x3 : Int32) (x4 : Int32) (x5 : Int32) (r : Int32) (R9 : RfT) (hr : e_fill_36  n R x1 x2 x3 x4 x5 = some (r, R9)) (f : Nat → va_E) (w : RW E f R) (hf : Fr RfK f0 f), G E (14, yX12_fill, 6, (some .int), sz, QA) cX12_fill (gO E (14, yX12_fill, 6, (some .int), sz, QA) (fun v g => v = some (.int r) ∧ RW E g R9 ∧ Fr RfK f0 g, fun _ _ => False)) 36 [(0, .ref (gAd E (56))), (1, .int (x1)), (2, .int (x2)), (3, .int (x3)), (4, .int (x4)), (5, .int (x5))] [] f := by
  intro n
  induction n with
  | zero =>
    intro R x1 x2 x3 x4 x5 r R9 hr f w hf
    cases hr
  | succ n ih =>
    intro R x1 x2 x3 x4 x5 r R9 hr f w hf
    obtain ⟨az, sy, r0⟩ := w
    unfold e_fill_36 at hr
    refine G.go tv_X12_fill 2 39 [(0, .ref (gAd E (56))), (1, .int (x1)), (2, .int (x2)), (3, .int (x3)), (4, .int (x4)), (5, .int (x5))] [.int (x3), .int (x5)] rfl ?_
    refine G.cmp_ge 69 (tbd tv_X12_fill rfl) (by decide) (fun c39 => ?_) (fun c39 => ?_)
    · replace hr := ite_t c39 hr
      refine G.go tv_X12_fill 4 73 [(0, .ref (gAd E (56))), (1, .int (x1)), (2, .int (x2)), (3, .int (x3)), (4, .int (x4)), (5, .int (x5))] [.int (x3), .int (x2), .int (x1), .ref (gAd E (56))] rfl ?_
      obtain ⟨v134, R134, hv134, hr⟩ := bnd2_s hr
      refine G.callV (56) [.int (x1), .int (x2), .int (x3)] [] (k_X12_writeData E _ hE R ⟨_, _, r0⟩ x1 x2 x3 v134 R134 hv134) cls_X12 (by omega) (r0.o) cw_X12_480 w_2643 w_132 (Nat.le_of_ble_eq_true rfl) rfl (Nat.le_of_ble_eq_true rfl) (tbd tv_X12_fill rfl) (fun v134w f134 q134 => ?_) (fun _ _ h => h.elim)
      obtain ⟨rfl, ⟨az134, sy134, r134⟩, fa134⟩ := q134
      refine G.eqs [.int (v134)] rfl ?_
      cases hr
      exact G.iret rfl rfl ⟨rfl, ⟨_, _, r134⟩, (hf.tr fa134 (fun _ h => h))⟩ (tbd tv_X12_fill rfl)
    · replace hr := ite_f c39 hr
      refine G.go tv_X12_fill 1 43 [(0, .ref (gAd E (56))), (1, .int (x1)), (2, .int (x2)), (3, .int (x3)), (4, .int (x4)), (5, .int (x5))] [.ref (gAd E (56))] rfl ?_
      refine G.rg r0 hE 59 (.ref (gAd E (92))) (by decide) rfl (tbd tv_X12_fill rfl) w_2124 ?_
      refine G.go tv_X12_fill 11 62 [(0, .ref (gAd E (56))), (1, .int (x1)), (2, .int (x2)), (3, .int (x3)), (4, .int (x4)), (5, .int (x5))] [.int ((((x4) + ((x5) * (x5))) + ((x5) >>> (((5 : Int32)) &&& 31)) : Int32).toInt8.toInt32), .int (x5), .ref (gAd E (92))] rfl ?_
      obtain ⟨R135, b135, eR135, hr⟩ := stR_s hr
      refine G.bast (92) (by omega) (r0.a59) b135 (tbd tv_X12_fill rfl) ?_
      refine G.gen (P := fun w9 => RfV E w9 (setSr (setS R135 42 az) sy) ∧ Fr RfK f0 w9) ⟨by rw [eR135]; exact r0.p59 _, Fr.up hf ⟨by decide, by decide⟩⟩ (fun u135 p135 => ?_)
      obtain ⟨r135, h135⟩ := p135
      refine G.go tv_X12_fill 2 36 [(0, .ref (gAd E (56))), (1, .int (x1)), (2, .int (x2)), (3, .int (x3)), (4, .int (x4)), (5, .int (x5 + (1 : Int32)))] [] rfl ?_
      refine G.less [(0, .ref (gAd E (56))), (1, .int (x1)), (2, .int (x2)), (3, .int (x3)), (4, .int (x4)), (5, .int (x5 + (1 : Int32)))] [0, 1, 2, 3, 4, 5] rfl ?_
      exact ih _ _ _ _ _ _ _ _ hr _ ⟨_, _, r135⟩ h135
set_option maxRecDepth 100000 in
set_option maxHeartbeats 4000000 in
theorem k_X12_fill (E : gE) (f : Nat → va_E) (hE : 94 ≤ gN E) (R : RfT) (w : RW E f R) (a0 : Int32) (a1 : Int32) (a2 : Int32) (a3 : Int32) (r : Int32) (R9 : RfT) (hr : e_fill R a0 a1 a2 a3 = some (r, R9)) : Ct E 14 yX12_fill cX12_fill 6 (some .int) [.ref (gAd E (56)), .int (a0), .int (a1), .int (a2), .int (a3)] f (fun v g => v = some (.int r) ∧ RW E g R9 ∧ Fr RfK f g, fun _ _ => False) := by
  obtain ⟨az, sy, r0⟩ := w
  refine Ct.of (by decide) (Nat.le_of_ble_eq_true rfl) (fun sz => ?_)
  refine G.eql [(0, .ref (gAd E (56))), (1, .int (a0)), (2, .int (a1)), (3, .int (a2)), (4, .int (a3))] rfl ?_
  unfold e_fill at hr
  refine G.go tv_X12_fill 1 1 [(0, .ref (gAd E (56))), (1, .int (a0)), (2, .int (a1)), (3, .int (a2)), (4, .int (a3))] [.ref (gAd E (56))] rfl ?_
  obtain ⟨v130, R130, hv130, hr⟩ := bnd2_s hr
  refine G.callV (56) [] [] (k_X12_notMounted E _ hE R ⟨_, _, r0⟩ v130 R130 hv130) cls_X12 (by omega) (r0.o) cw_X12_403 w_2464 w_96 (Nat.le_of_ble_eq_true rfl) rfl (Nat.le_of_ble_eq_true rfl) (tbd tv_X12_fill rfl) (fun v130w f130 q130 => ?_) (fun _ _ h => h.elim)
  obtain ⟨rfl, ⟨az130, sy130, r130⟩, fa130⟩ := q130
  refine G.eqs [.int (v130)] rfl ?_
  refine G.if_ne 31 (tbd tv_X12_fill rfl) (by decide) (fun c4 => ?_) (fun c4 => ?_)
  · replace hr := ite_f c4 hr
    refine G.go tv_X12_fill 1 32 [(0, .ref (gAd E (56))), (1, .int (a0)), (2, .int (a1)), (3, .int (a2)), (4, .int (a3))] [.int ((0 : Int32))] rfl ?_
    cases hr
    exact G.iret rfl rfl ⟨rfl, ⟨_, _, r130⟩, (Fr.rf.tr fa130 (fun _ h => h))⟩ (tbd tv_X12_fill rfl)
  · replace hr := ite_t c4 hr
    refine G.go tv_X12_fill 2 9 [(0, .ref (gAd E (56))), (1, .int (a0)), (2, .int (a1)), (3, .int (a2)), (4, .int (a3))] [.int (a2), .ref (gAd E (56))] rfl ?_
    refine G.if_lt 19 (tbd tv_X12_fill rfl) (by decide) (fun c9 => ?_) (fun c9 => ?_)
    · replace hr := ite_t c9 hr
      refine G.go tv_X12_fill 3 25 [(0, .ref (gAd E (56))), (1, .int (a0)), (2, .int (a1)), (3, .int (a2)), (4, .int (a3))] [.int ((3 : Int32)), .int ((1 : Int32)), .ref (gAd E (56))] rfl ?_
      obtain ⟨v131, R131, hv131, hr⟩ := bnd2_s hr
      refine G.callV (56) [.int ((1 : Int32)), .int ((3 : Int32))] [] (k_X12_refuse E _ hE R130 ⟨_, _, r130⟩ ((1 : Int32)) ((3 : Int32)) v131 R131 hv131) cls_X12 (by omega) (r130.o) cw_X12_385 w_2268 w_53 (Nat.le_of_ble_eq_true rfl) rfl (Nat.le_of_ble_eq_true rfl) (tbd tv_X12_fill rfl) (fun v131w f131 q131 => ?_) (fun _ _ h => h.elim)
      obtain ⟨rfl, ⟨az131, sy131, r131⟩, fa131⟩ := q131
      refine G.eqs [.int (v131)] rfl ?_
      refine G.if_eq 33 (tbd tv_X12_fill rfl) (by decide) (fun c28 => ?_) (fun c28 => ?_)
      · replace hr := ite_t c28 hr
        refine G.go tv_X12_fill 2 36 [(0, .ref (gAd E (56))), (1, .int (a0)), (2, .int (a1)), (3, .int (a2)), (4, .int (a3)), (5, .int ((0 : Int32)))] [] rfl ?_
        refine G.less [(0, .ref (gAd E (56))), (1, .int (a0)), (2, .int (a1)), (3, .int (a2)), (4, .int (a3)), (5, .int ((0 : Int32)))] [0, 1, 2, 3, 4, 5] rfl ?_
        exact l_X12_fill_36 E f sz _ hE _ _ _ _ _ _ _ _ _ hr _ ⟨_, _, r131⟩ ((Fr.rf.tr fa130 (fun _ h => h)).tr fa131 (fun _ h => h))
      · replace hr := ite_f c28 hr
        refine G.go tv_X12_fill 1 32 [(0, .ref (gAd E (56))), (1, .int (a0)), (2, .int (a1)), (3, .int (a2)), (4, .int (a3))] [.int ((0 : Int32))] rfl ?_
        cases hr
        exact G.iret rfl rfl ⟨rfl, ⟨_, _, r131⟩, ((Fr.rf.tr fa130 (fun _ h => h)).tr fa131 (fun _ h => h))⟩ (tbd tv_X12_fill rfl)
    · replace hr := ite_f c9 hr
      refine G.go tv_X12_fill 2 16 [(0, .ref (gAd E (56))), (1, .int (a0)), (2, .int (a1)), (3, .int (a2)), (4, .int (a3))] [.int ((2000 : Int32)), .int (a2), .ref (gAd E (56))] rfl ?_
      refine G.cmp_le 23 (tbd tv_X12_fill rfl) (by decide) (fun c16 => ?_) (fun c16 => ?_)
      · replace hr := ite_t c16 hr
        refine G.go tv_X12_fill 2 25 [(0, .ref (gAd E (56))), (1, .int (a0)), (2, .int (a1)), (3, .int (a2)), (4, .int (a3))] [.int ((3 : Int32)), .int ((0 : Int32)), .ref (gAd E (56))] rfl ?_
        obtain ⟨v132, R132, hv132, hr⟩ := bnd2_s hr
        refine G.callV (56) [.int ((0 : Int32)), .int ((3 : Int32))] [] (k_X12_refuse E _ hE R130 ⟨_, _, r130⟩ ((0 : Int32)) ((3 : Int32)) v132 R132 hv132) cls_X12 (by omega) (r130.o) cw_X12_385 w_2268 w_53 (Nat.le_of_ble_eq_true rfl) rfl (Nat.le_of_ble_eq_true rfl) (tbd tv_X12_fill rfl) (fun v132w f132 q132 => ?_) (fun _ _ h => h.elim)
        obtain ⟨rfl, ⟨az132, sy132, r132⟩, fa132⟩ := q132
        refine G.eqs [.int (v132)] rfl ?_
        refine G.if_eq 33 (tbd tv_X12_fill rfl) (by decide) (fun c28 => ?_) (fun c28 => ?_)
        · replace hr := ite_t c28 hr
          refine G.go tv_X12_fill 2 36 [(0, .ref (gAd E (56))), (1, .int (a0)), (2, .int (a1)), (3, .int (a2)), (4, .int (a3)), (5, .int ((0 : Int32)))] [] rfl ?_
          refine G.less [(0, .ref (gAd E (56))), (1, .int (a0)), (2, .int (a1)), (3, .int (a2)), (4, .int (a3)), (5, .int ((0 : Int32)))] [0, 1, 2, 3, 4, 5] rfl ?_
          exact l_X12_fill_36 E f sz _ hE _ _ _ _ _ _ _ _ _ hr _ ⟨_, _, r132⟩ ((Fr.rf.tr fa130 (fun _ h => h)).tr fa132 (fun _ h => h))
        · replace hr := ite_f c28 hr
          refine G.go tv_X12_fill 1 32 [(0, .ref (gAd E (56))), (1, .int (a0)), (2, .int (a1)), (3, .int (a2)), (4, .int (a3))] [.int ((0 : Int32))] rfl ?_
          cases hr
          exact G.iret rfl rfl ⟨rfl, ⟨_, _, r132⟩, ((Fr.rf.tr fa130 (fun _ h => h)).tr fa132 (fun _ h => h))⟩ (tbd tv_X12_fill rfl)
      · replace hr := ite_f c16 hr
        refine G.go tv_X12_fill 3 25 [(0, .ref (gAd E (56))), (1, .int (a0)), (2, .int (a1)), (3, .int (a2)), (4, .int (a3))] [.int ((3 : Int32)), .int ((1 : Int32)), .ref (gAd E (56))] rfl ?_
        obtain ⟨v133, R133, hv133, hr⟩ := bnd2_s hr
        refine G.callV (56) [.int ((1 : Int32)), .int ((3 : Int32))] [] (k_X12_refuse E _ hE R130 ⟨_, _, r130⟩ ((1 : Int32)) ((3 : Int32)) v133 R133 hv133) cls_X12 (by omega) (r130.o) cw_X12_385 w_2268 w_53 (Nat.le_of_ble_eq_true rfl) rfl (Nat.le_of_ble_eq_true rfl) (tbd tv_X12_fill rfl) (fun v133w f133 q133 => ?_) (fun _ _ h => h.elim)
        obtain ⟨rfl, ⟨az133, sy133, r133⟩, fa133⟩ := q133
        refine G.eqs [.int (v133)] rfl ?_
        refine G.if_eq 33 (tbd tv_X12_fill rfl) (by decide) (fun c28 => ?_) (fun c28 => ?_)
        · replace hr := ite_t c28 hr
          refine G.go tv_X12_fill 2 36 [(0, .ref (gAd E (56))), (1, .int (a0)), (2, .int (a1)), (3, .int (a2)), (4, .int (a3)), (5, .int ((0 : Int32)))] [] rfl ?_
          refine G.less [(0, .ref (gAd E (56))), (1, .int (a0)), (2, .int (a1)), (3, .int (a2)), (4, .int (a3)), (5, .int ((0 : Int32)))] [0, 1, 2, 3, 4, 5] rfl ?_
          exact l_X12_fill_36 E f sz _ hE _ _ _ _ _ _ _ _ _ hr _ ⟨_, _, r133⟩ ((Fr.rf.tr fa130 (fun _ h => h)).tr fa133 (fun _ h => h))
        · replace hr := ite_f c28 hr
          refine G.go tv_X12_fill 1 32 [(0, .ref (gAd E (56))), (1, .int (a0)), (2, .int (a1)), (3, .int (a2)), (4, .int (a3))] [.int ((0 : Int32))] rfl ?_
          cases hr
          exact G.iret rfl rfl ⟨rfl, ⟨_, _, r133⟩, ((Fr.rf.tr fa130 (fun _ h => h)).tr fa133 (fun _ h => h))⟩ (tbd tv_X12_fill rfl)
theorem w_2654 : Cond.constant "LedgerFilesModel" 483 (400000 : Int32) ∈ TB := tp_11 108 (by decide +kernel) rfl
theorem w_2655 : Cond.methodLink "LedgerFilesModel" 484 yX12_resize ∈ TB := tp_11 109 (by decide +kernel) rfl
theorem w_2658 : Cond.code yX12_resize prog_14_method_105_code 6 none ∈ TB := tp_11 112 rfl rfl
theorem cw_X12_484 : Cw RX12 484 yX12_resize cX12_resize 6 none 2 := ⟨w_2655, w_2658, w_161, by decide +kernel, by decide +kernel, by decide⟩
theorem w_2657 : Cond.instanceMethod yX12_resize ∈ TB := tp_11 111 (by decide +kernel) rfl
theorem w_133 : Cond.selects "LedgerFilesModel" yX12_resize yX12_resize ∈ TB := tp_0 133 (by decide +kernel) rfl
noncomputable def e_truncate  (R : RfT) (a0 : Int32) (a1 : Int32) : Option (Int32 × RfT) := bnd2 (e_notMounted R) (fun v136 R136 => if v136 = 0 then bnd (e_kind R136 a0) (fun v137 => if v137 = ((1 : Int32)) then if a1 < 0 then some ((-10 : Int32), R136) else if a1 ≤ ((400000 : Int32)) then bnd (e_resize R136 a0 a1) (fun R138 => bnd2 (e_committed R138 ((0 : Int32))) (fun v139 R139 => some (v139, R139))) else some ((-10 : Int32), R136) else if v137 = 0 then some ((-11 : Int32), R136) else some ((-4 : Int32), R136)) else some ((0 : Int32), R136))
set_option maxRecDepth 100000 in
set_option maxHeartbeats 4000000 in
theorem k_X12_truncate (E : gE) (f : Nat → va_E) (hE : 94 ≤ gN E) (R : RfT) (w : RW E f R) (a0 : Int32) (a1 : Int32) (r : Int32) (R9 : RfT) (hr : e_truncate R a0 a1 = some (r, R9)) : Ct E 12 yX12_truncate cX12_truncate 4 (some .int) [.ref (gAd E (56)), .int (a0), .int (a1)] f (fun v g => v = some (.int r) ∧ RW E g R9 ∧ Fr RfK f g, fun _ _ => False) := by
  obtain ⟨az, sy, r0⟩ := w
  refine Ct.of (by decide) (Nat.le_of_ble_eq_true rfl) (fun sz => ?_)
  refine G.eql [(0, .ref (gAd E (56))), (1, .int (a0)), (2, .int (a1))] rfl ?_
  unfold e_truncate at hr
  refine G.go tv_X12_truncate 1 1 [(0, .ref (gAd E (56))), (1, .int (a0)), (2, .int (a1))] [.ref (gAd E (56))] rfl ?_
  obtain ⟨v136, R136, hv136, hr⟩ := bnd2_s hr
  refine G.callV (56) [] [] (k_X12_notMounted E _ hE R ⟨_, _, r0⟩ v136 R136 hv136) cls_X12 (by omega) (r0.o) cw_X12_403 w_2464 w_96 (Nat.le_of_ble_eq_true rfl) rfl (Nat.le_of_ble_eq_true rfl) (tbd tv_X12_truncate rfl) (fun v136w f136 q136 => ?_) (fun _ _ h => h.elim)
  obtain ⟨rfl, ⟨az136, sy136, r136⟩, fa136⟩ := q136
  refine G.eqs [.int (v136)] rfl ?_
  refine G.if_eq 9 (tbd tv_X12_truncate rfl) (by decide) (fun c4 => ?_) (fun c4 => ?_)
  · replace hr := ite_t c4 hr
    refine G.go tv_X12_truncate 2 11 [(0, .ref (gAd E (56))), (1, .int (a0)), (2, .int (a1))] [.int (a0), .ref (gAd E (56))] rfl ?_
    obtain ⟨v137, hv137, hr⟩ := bnd_s hr
    refine G.callV (56) [.int (a0)] [] (k_X12_kind E _ hE R136 ⟨_, _, r136⟩ a0 v137 hv137) cls_X12 (by omega) (r136.o) cw_X12_326 w_2369 w_74 (Nat.le_of_ble_eq_true rfl) rfl (Nat.le_of_ble_eq_true rfl) (tbd tv_X12_truncate rfl) (fun v137w f137 q137 => ?_) (fun _ _ h => h.elim)
    obtain ⟨rfl, ⟨az137, sy137, r137⟩, fa137⟩ := q137
    refine G.eqs [.int (v137)] rfl ?_
    refine G.go tv_X12_truncate 3 17 [(0, .ref (gAd E (56))), (1, .int (a0)), (2, .int (a1)), (3, .int (v137))] [.int ((1 : Int32)), .int (v137)] rfl ?_
    refine G.cmp_eq 32 (tbd tv_X12_truncate rfl) (by decide) (fun c17 => ?_) (fun c17 => ?_)
    · replace hr := ite_t c17 hr
      refine G.go tv_X12_truncate 1 33 [(0, .ref (gAd E (56))), (1, .int (a0)), (2, .int (a1)), (3, .int (v137))] [.int (a1)] rfl ?_
      refine G.if_lt 43 (tbd tv_X12_truncate rfl) (by decide) (fun c33 => ?_) (fun c33 => ?_)
      · replace hr := ite_t c33 hr
        refine G.go tv_X12_truncate 1 45 [(0, .ref (gAd E (56))), (1, .int (a0)), (2, .int (a1)), (3, .int (v137))] [.int ((-10 : Int32))] rfl ?_
        cases hr
        exact G.iret rfl rfl ⟨rfl, ⟨_, _, r137⟩, ((Fr.rf.tr fa136 (fun _ h => h)).tr fa137 (fun _ h => h))⟩ (tbd tv_X12_truncate rfl)
      · replace hr := ite_f c33 hr
        refine G.go tv_X12_truncate 1 37 [(0, .ref (gAd E (56))), (1, .int (a0)), (2, .int (a1)), (3, .int (v137))] [.int (a1)] rfl ?_
        refine G.ldcw (400000) (tbd tv_X12_truncate rfl) w_2654 ?_
        refine G.cmp_le 46 (tbd tv_X12_truncate rfl) (by decide) (fun c40 => ?_) (fun c40 => ?_)
        · replace hr := ite_t c40 hr
          refine G.go tv_X12_truncate 3 49 [(0, .ref (gAd E (56))), (1, .int (a0)), (2, .int (a1)), (3, .int (v137))] [.int (a1), .int (a0), .ref (gAd E (56))] rfl ?_
          obtain ⟨R138, hv138, hr⟩ := bnd_s hr
          refine G.callV (56) [.int (a0), .int (a1)] [] (k_X12_resize E _ hE R136 ⟨_, _, r137⟩ a0 a1 R138 hv138) cls_X12 (by omega) (r137.o) cw_X12_484 w_2657 w_133 (Nat.le_of_ble_eq_true rfl) rfl (Nat.le_of_ble_eq_true rfl) (tbd tv_X12_truncate rfl) (fun v138w f138 q138 => ?_) (fun _ _ h => h.elim)
          obtain ⟨rfl, ⟨az138, sy138, r138⟩, fa138⟩ := q138
          refine G.eqs [] rfl ?_
          refine G.go tv_X12_truncate 2 54 [(0, .ref (gAd E (56))), (1, .int (a0)), (2, .int (a1)), (3, .int (v137))] [.int ((0 : Int32)), .ref (gAd E (56))] rfl ?_
          obtain ⟨v139, R139, hv139, hr⟩ := bnd2_s hr
          refine G.callV (56) [.int ((0 : Int32))] [] (k_X12_committed E _ hE R138 ⟨_, _, r138⟩ ((0 : Int32)) v139 R139 hv139) cls_X12 (by omega) (r138.o) cw_X12_436 w_2563 w_119 (Nat.le_of_ble_eq_true rfl) rfl (Nat.le_of_ble_eq_true rfl) (tbd tv_X12_truncate rfl) (fun v139w f139 q139 => ?_) (fun _ _ h => h.elim)
          obtain ⟨rfl, ⟨az139, sy139, r139⟩, fa139⟩ := q139
          refine G.eqs [.int (v139)] rfl ?_
          cases hr
          exact G.iret rfl rfl ⟨rfl, ⟨_, _, r139⟩, ((((Fr.rf.tr fa136 (fun _ h => h)).tr fa137 (fun _ h => h)).tr fa138 (fun _ h => h)).tr fa139 (fun _ h => h))⟩ (tbd tv_X12_truncate rfl)
        · replace hr := ite_f c40 hr
          refine G.go tv_X12_truncate 1 45 [(0, .ref (gAd E (56))), (1, .int (a0)), (2, .int (a1)), (3, .int (v137))] [.int ((-10 : Int32))] rfl ?_
          cases hr
          exact G.iret rfl rfl ⟨rfl, ⟨_, _, r137⟩, ((Fr.rf.tr fa136 (fun _ h => h)).tr fa137 (fun _ h => h))⟩ (tbd tv_X12_truncate rfl)
    · replace hr := ite_f c17 hr
      refine G.go tv_X12_truncate 1 21 [(0, .ref (gAd E (56))), (1, .int (a0)), (2, .int (a1)), (3, .int (v137))] [.int (v137)] rfl ?_
      refine G.if_ne 29 (tbd tv_X12_truncate rfl) (by decide) (fun c21 => ?_) (fun c21 => ?_)
      · replace hr := ite_f c21 hr
        refine G.go tv_X12_truncate 1 31 [(0, .ref (gAd E (56))), (1, .int (a0)), (2, .int (a1)), (3, .int (v137))] [.int ((-4 : Int32))] rfl ?_
        cases hr
        exact G.iret rfl rfl ⟨rfl, ⟨_, _, r137⟩, ((Fr.rf.tr fa136 (fun _ h => h)).tr fa137 (fun _ h => h))⟩ (tbd tv_X12_truncate rfl)
      · replace hr := ite_t c21 hr
        refine G.go tv_X12_truncate 2 31 [(0, .ref (gAd E (56))), (1, .int (a0)), (2, .int (a1)), (3, .int (v137))] [.int ((-11 : Int32))] rfl ?_
        cases hr
        exact G.iret rfl rfl ⟨rfl, ⟨_, _, r137⟩, ((Fr.rf.tr fa136 (fun _ h => h)).tr fa137 (fun _ h => h))⟩ (tbd tv_X12_truncate rfl)
  · replace hr := ite_f c4 hr
    refine G.go tv_X12_truncate 1 8 [(0, .ref (gAd E (56))), (1, .int (a0)), (2, .int (a1))] [.int ((0 : Int32))] rfl ?_
    cases hr
    exact G.iret rfl rfl ⟨rfl, ⟨_, _, r136⟩, (Fr.rf.tr fa136 (fun _ h => h))⟩ (tbd tv_X12_truncate rfl)
theorem w_2663 : Cond.methodLink "LedgerFilesModel" 487 yX12_tablesPunched ∈ TB := tp_11 117 (by decide +kernel) rfl
theorem w_2666 : Cond.code yX12_tablesPunched prog_14_method_107_code 9 (some .int) ∈ TB := tp_11 120 rfl rfl
theorem cw_X12_487 : Cw RX12 487 yX12_tablesPunched cX12_tablesPunched 9 (some .int) 4 := ⟨w_2663, w_2666, w_161, by decide +kernel, by decide +kernel, by decide⟩
theorem w_2665 : Cond.instanceMethod yX12_tablesPunched ∈ TB := tp_11 119 (by decide +kernel) rfl
theorem w_134 : Cond.selects "LedgerFilesModel" yX12_tablesPunched yX12_tablesPunched ∈ TB := tp_0 134 (by decide +kernel) rfl
theorem w_2667 : Cond.methodLink "LedgerFilesModel" 490 yX12_setHole ∈ TB := tp_11 121 (by decide +kernel) rfl
theorem w_2670 : Cond.code yX12_setHole prog_14_method_106_code 3 none ∈ TB := tp_11 124 rfl rfl
theorem cw_X12_490 : Cw RX12 490 yX12_setHole cX12_setHole 3 none 2 := ⟨w_2667, w_2670, w_161, by decide +kernel, by decide +kernel, by decide⟩
theorem w_2669 : Cond.instanceMethod yX12_setHole ∈ TB := tp_11 123 (by decide +kernel) rfl
theorem w_135 : Cond.selects "LedgerFilesModel" yX12_setHole yX12_setHole ∈ TB := tp_0 135 (by decide +kernel) rfl
noncomputable def e_punch_264  (self216 : RfT → Int32 → Int32 → Int32 → Int32 → Int32 → Option (Int32 × RfT)) : Nat → RfT → Int32 → Int32 → Int32 → Int32 → Int32 → Int32 → Int32 → Option (Int32 × RfT)
  | 0, _, _, _, _, _, _, _, _ => none
  | n + 1, R, x1, x2, x5, x8, x9, x10, x11 => if ((128 : Int32)) ≤ x11 then bnd (e_direct R x10) (fun R153 => self216 R153 x1 x2 x5 x8 (x9 + (1 : Int32))) else if ((((128 : Int32)) * (x9)) + (x11)) < x2 then ld (rA R 43) 128 x11 (fun v154 => stR R 44 128 x11 (vp_nar .byte v154) (fun R155 => e_punch_264  self216 n R155 x1 x2 x5 x8 x9 x10 (x11 + (1 : Int32)))) else if x8 ≤ ((((128 : Int32)) * (x9)) + (x11)) then ld (rA R 43) 128 x11 (fun v156 => stR R 44 128 x11 (vp_nar .byte v156) (fun R157 => e_punch_264  self216 n R157 x1 x2 x5 x8 x9 x10 (x11 + (1 : Int32)))) else stR R 44 128 x11 (vp_nar .byte ((0 : Int32))) (fun R158 => e_punch_264  self216 n R158 x1 x2 x5 x8 x9 x10 (x11 + (1 : Int32)))
noncomputable def e_punch_216  : Nat → RfT → Int32 → Int32 → Int32 → Int32 → Int32 → Option (Int32 × RfT)
  | 0, _, _, _, _, _, _ => none
  | n + 1, R, x1, x2, x5, x8, x9 => if x8 ≤ (((128 : Int32)) * (x9)) then bnd2 (e_committed R x5) (fun v148 R148 => some (v148, R148)) else if x8 ≤ x2 then bnd2 (e_committed R x5) (fun v149 R149 => some (v149, R149)) else if (rS R 11) = 0 then bnd2 (e_committed R x5) (fun v150 R150 => some (v150, R150)) else bnd (e_blockOf R x1 x9) (fun v151 => if v151 = 0 then e_punch_216  n R x1 x2 x5 x8 (x9 + (1 : Int32)) else bnd (e_see R v151 ((1 : Int32))) (fun R152 => e_punch_264  (e_punch_216  n) fuL R152 x1 x2 x5 x8 x9 v151 ((0 : Int32))))
noncomputable def e_punch_110  : Nat → RfT → Int32 → Int32 → Int32 → Int32 → Int32 → Int32 → Option (Int32 × RfT)
  | 0, _, _, _, _, _, _, _ => none
  | n + 1, R, x1, x2, x5, x6, x7, x8 => if x6 ≤ (((128 : Int32)) * (x8)) then if x6 ≤ x7 then e_punch_216  fuL R x1 x2 x5 x6 ((x2) / ((128 : Int32))) else e_punch_216  fuL R x1 x2 x5 x7 ((x2) / ((128 : Int32))) else if x7 ≤ (((128 : Int32)) * (x8)) then if x6 ≤ x7 then e_punch_216  fuL R x1 x2 x5 x6 ((x2) / ((128 : Int32))) else e_punch_216  fuL R x1 x2 x5 x7 ((x2) / ((128 : Int32))) else bnd (e_blockOf R x1 x8) (fun v145 => if v145 = 0 then e_punch_110  n R x1 x2 x5 x6 x7 (x8 + (1 : Int32)) else if (((128 : Int32)) * (x8)) < x2 then e_punch_110  n R x1 x2 x5 x6 x7 (x8 + (1 : Int32)) else if x7 < ((((128 : Int32)) * (x8)) + ((128 : Int32))) then e_punch_110  n R x1 x2 x5 x6 x7 (x8 + (1 : Int32)) else bnd (e_free R v145) (fun R146 => bnd (e_setHole R146 x1 x8) (fun R147 => e_punch_110  n R147 x1 x2 (x5 + (1 : Int32)) x6 x7 (x8 + (1 : Int32)))))
noncomputable def e_punch  (R : RfT) (a0 : Int32) (a1 : Int32) (a2 : Int32) : Option (Int32 × RfT) := bnd2 (e_notMounted R) (fun v140 R140 => if v140 = 0 then bnd (e_kind R140 a0) (fun v141 => if v141 = ((1 : Int32)) then if a1 < 0 then some ((-10 : Int32), R140) else if a2 < 0 then some ((-10 : Int32), R140) else if (lg_cmp (((a1 : Int32).toInt64) + ((a2 : Int32).toInt64)) ((400000 : Int64))) ≤ 0 then bnd (e_size R140 a0) (fun v142 => if v142 ≤ ((a1) + (a2)) then bnd (e_tablesPunched R140 a0 a1 v142 ((a1) + (a2))) (fun v143 => if v143 ≤ ((32 : Int32)) then e_punch_110  fuL R140 a0 a1 ((0 : Int32)) v142 ((a1) + (a2)) ((a1) / ((128 : Int32))) else some ((-12 : Int32), R140)) else bnd (e_tablesPunched R140 a0 a1 ((a1) + (a2)) ((a1) + (a2))) (fun v144 => if v144 ≤ ((32 : Int32)) then e_punch_110  fuL R140 a0 a1 ((0 : Int32)) v142 ((a1) + (a2)) ((a1) / ((128 : Int32))) else some ((-12 : Int32), R140))) else some ((-10 : Int32), R140) else if v141 = 0 then some ((-11 : Int32), R140) else some ((-4 : Int32), R140)) else some ((0 : Int32), R140))
set_option maxRecDepth 100000 in
set_option maxHeartbeats 4000000 in
theorem l_X12_punch_264 (E : gE) (f0 : Nat → va_E) (sz : Nat) (QA : Nat → Prop) (hE : 94 ≤ gN E) (self216 : RfT → Int32 → Int32 → Int32 → Int32 → Int32 → Option (Int32 × RfT)) (hs216 : ∀ (R : RfT) (x1 : Int32) (x2 : Int32) (x5 : Int32) (x8 : Int32) (x9 : Int32) (r : Int32) (R9 : RfT) (hr : self216 R x1 x2 x5 x8 x9 = some (r, R9)) (f : Nat → va_E) (w : RW E f R) (hf : Fr RfK f0 f), G E (12, yX12_punch, 12, (some .int), sz, QA) cX12_punch (gO E (12, yX12_punch, 12, (some .int), sz, QA) (fun v g => v = some (.int r) ∧ RW E g R9 ∧ Fr RfK f0 g, fun _ _ => False)) 216 [(0, .ref (gAd E (56))), (1, .int (x1)), (2, .int (x2)), (5, .int (x5)), (8, .int (x8)), (9, .int (x9))] [] f) : ∀ (n : Nat), ∀ (R : RfT) (x1 : Int32) (x2 : Int32) (x5 : Int32) (x8 : Int32) (x9 : Int32) (x10 : Int32) (x11 : Int32) (r : Int32) (R9 : RfT) (hr : e_punch_264  self216 n R x1 x2 x5 x8 x9 x10 x11 = some (r, R9)) (f : Nat → va_E) (w : RW E f R) (hf : Fr RfK f0 f), G E (12, yX12_punch, 12, (some .int), sz, QA) cX12_punch (gO E (12, yX12_punch, 12, (some .int), sz, QA) (fun v g => v = some (.int r) ∧ RW E g R9 ∧ Fr RfK f0 g, fun _ _ => False)) 264 [(0, .ref (gAd E (56))), (1, .int (x1)), (2, .int (x2)), (5, .int (x5)), (8, .int (x8)), (9, .int (x9)), (10, .int (x10)), (11, .int (x11))] [] f := by
  intro n
  induction n with
  | zero =>
    intro R x1 x2 x5 x8 x9 x10 x11 r R9 hr f w hf
    cases hr
  | succ n ih =>
    intro R x1 x2 x5 x8 x9 x10 x11 r R9 hr f w hf
    obtain ⟨az, sy, r0⟩ := w
    unfold e_punch_264 at hr
    refine G.go tv_X12_punch 2 269 [(0, .ref (gAd E (56))), (1, .int (x1)), (2, .int (x2)), (5, .int (x5)), (8, .int (x8)), (9, .int (x9)), (10, .int (x10)), (11, .int (x11))] [.int ((128 : Int32)), .int (x11)] rfl ?_
    refine G.cmp_ge 323 (tbd tv_X12_punch rfl) (by decide) (fun c269 => ?_) (fun c269 => ?_)
    · replace hr := ite_t c269 hr
      refine G.go tv_X12_punch 2 326 [(0, .ref (gAd E (56))), (1, .int (x1)), (2, .int (x2)), (5, .int (x5)), (8, .int (x8)), (9, .int (x9)), (10, .int (x10)), (11, .int (x11))] [.int (x10), .ref (gAd E (56))] rfl ?_
      obtain ⟨R153, hv153, hr⟩ := bnd_s hr
      refine G.callV (56) [.int (x10)] [] (k_X12_direct E _ hE R ⟨_, _, r0⟩ x10 R153 hv153) cls_X12 (by omega) (r0.o) cw_X12_475 w_2631 w_131 (Nat.le_of_ble_eq_true rfl) rfl (Nat.le_of_ble_eq_true rfl) (tbd tv_X12_punch rfl) (fun v153w f153 q153 => ?_) (fun _ _ h => h.elim)
      obtain ⟨rfl, ⟨az153, sy153, r153⟩, fa153⟩ := q153
      refine G.eqs [] rfl ?_
      refine G.go tv_X12_punch 2 216 [(0, .ref (gAd E (56))), (1, .int (x1)), (2, .int (x2)), (5, .int (x5)), (8, .int (x8)), (9, .int (x9 + (1 : Int32))), (10, .int (x10)), (11, .int (x11))] [] rfl ?_
      refine G.less [(0, .ref (gAd E (56))), (1, .int (x1)), (2, .int (x2)), (5, .int (x5)), (8, .int (x8)), (9, .int (x9 + (1 : Int32)))] [0, 1, 2, 3, 4, 5] rfl ?_
      exact hs216 _ _ _ _ _ _ _ _ hr _ ⟨_, _, r153⟩ (hf.tr fa153 (fun _ h => h))
    · replace hr := ite_f c269 hr
      refine G.go tv_X12_punch 1 273 [(0, .ref (gAd E (56))), (1, .int (x1)), (2, .int (x2)), (5, .int (x5)), (8, .int (x8)), (9, .int (x9)), (10, .int (x10)), (11, .int (x11))] [.ref (gAd E (56))] rfl ?_
      refine G.rg r0 hE 44 (.ref (gAd E (79))) (by decide) rfl (tbd tv_X12_punch rfl) w_2109 ?_
      refine G.go tv_X12_punch 7 288 [(0, .ref (gAd E (56))), (1, .int (x1)), (2, .int (x2)), (5, .int (x5)), (8, .int (x8)), (9, .int (x9)), (10, .int (x10)), (11, .int (x11))] [.int (x2), .int ((((128 : Int32)) * (x9)) + (x11)), .int (x11), .ref (gAd E (79))] rfl ?_
      refine G.cmp_lt 309 (tbd tv_X12_punch rfl) (by decide) (fun c288 => ?_) (fun c288 => ?_)
      · replace hr := ite_t c288 hr
        refine G.go tv_X12_punch 1 310 [(0, .ref (gAd E (56))), (1, .int (x1)), (2, .int (x2)), (5, .int (x5)), (8, .int (x8)), (9, .int (x9)), (10, .int (x10)), (11, .int (x11))] [.ref (gAd E (56)), .int (x11), .ref (gAd E (79))] rfl ?_
        refine G.rg r0 hE 43 (.ref (gAd E (78))) (by decide) rfl (tbd tv_X12_punch rfl) w_2108 ?_
        refine G.go tv_X12_punch 1 315 [(0, .ref (gAd E (56))), (1, .int (x1)), (2, .int (x2)), (5, .int (x5)), (8, .int (x8)), (9, .int (x9)), (10, .int (x10)), (11, .int (x11))] [.int (x11), .ref (gAd E (78)), .int (x11), .ref (gAd E (79))] rfl ?_
        obtain ⟨v154, b154, e154, hr⟩ := ld_s hr
        refine G.baldE (78) (by omega) (r0.a43) b154 e154 (tbd tv_X12_punch rfl) ?_
        obtain ⟨R155, b155, eR155, hr⟩ := stR_s hr
        refine G.bast (79) (by omega) (r0.a44) b155 (tbd tv_X12_punch rfl) ?_
        refine G.gen (P := fun w9 => RfV E w9 (setSr (setS R155 42 az) sy) ∧ Fr RfK f0 w9) ⟨by rw [eR155]; exact r0.p44 _, Fr.up hf ⟨by decide, by decide⟩⟩ (fun u155 p155 => ?_)
        obtain ⟨r155, h155⟩ := p155
        refine G.go tv_X12_punch 2 264 [(0, .ref (gAd E (56))), (1, .int (x1)), (2, .int (x2)), (5, .int (x5)), (8, .int (x8)), (9, .int (x9)), (10, .int (x10)), (11, .int (x11 + (1 : Int32)))] [] rfl ?_
        refine G.less [(0, .ref (gAd E (56))), (1, .int (x1)), (2, .int (x2)), (5, .int (x5)), (8, .int (x8)), (9, .int (x9)), (10, .int (x10)), (11, .int (x11 + (1 : Int32)))] [0, 1, 2, 3, 4, 5, 6, 7] rfl ?_
        exact ih _ _ _ _ _ _ _ _ _ _ hr _ ⟨_, _, r155⟩ h155
      · replace hr := ite_f c288 hr
        refine G.go tv_X12_punch 6 302 [(0, .ref (gAd E (56))), (1, .int (x1)), (2, .int (x2)), (5, .int (x5)), (8, .int (x8)), (9, .int (x9)), (10, .int (x10)), (11, .int (x11))] [.int (x8), .int ((((128 : Int32)) * (x9)) + (x11)), .int (x11), .ref (gAd E (79))] rfl ?_
        refine G.cmp_ge 309 (tbd tv_X12_punch rfl) (by decide) (fun c302 => ?_) (fun c302 => ?_)
        · replace hr := ite_t c302 hr
          refine G.go tv_X12_punch 1 310 [(0, .ref (gAd E (56))), (1, .int (x1)), (2, .int (x2)), (5, .int (x5)), (8, .int (x8)), (9, .int (x9)), (10, .int (x10)), (11, .int (x11))] [.ref (gAd E (56)), .int (x11), .ref (gAd E (79))] rfl ?_
          refine G.rg r0 hE 43 (.ref (gAd E (78))) (by decide) rfl (tbd tv_X12_punch rfl) w_2108 ?_
          refine G.go tv_X12_punch 1 315 [(0, .ref (gAd E (56))), (1, .int (x1)), (2, .int (x2)), (5, .int (x5)), (8, .int (x8)), (9, .int (x9)), (10, .int (x10)), (11, .int (x11))] [.int (x11), .ref (gAd E (78)), .int (x11), .ref (gAd E (79))] rfl ?_
          obtain ⟨v156, b156, e156, hr⟩ := ld_s hr
          refine G.baldE (78) (by omega) (r0.a43) b156 e156 (tbd tv_X12_punch rfl) ?_
          obtain ⟨R157, b157, eR157, hr⟩ := stR_s hr
          refine G.bast (79) (by omega) (r0.a44) b157 (tbd tv_X12_punch rfl) ?_
          refine G.gen (P := fun w9 => RfV E w9 (setSr (setS R157 42 az) sy) ∧ Fr RfK f0 w9) ⟨by rw [eR157]; exact r0.p44 _, Fr.up hf ⟨by decide, by decide⟩⟩ (fun u157 p157 => ?_)
          obtain ⟨r157, h157⟩ := p157
          refine G.go tv_X12_punch 2 264 [(0, .ref (gAd E (56))), (1, .int (x1)), (2, .int (x2)), (5, .int (x5)), (8, .int (x8)), (9, .int (x9)), (10, .int (x10)), (11, .int (x11 + (1 : Int32)))] [] rfl ?_
          refine G.less [(0, .ref (gAd E (56))), (1, .int (x1)), (2, .int (x2)), (5, .int (x5)), (8, .int (x8)), (9, .int (x9)), (10, .int (x10)), (11, .int (x11 + (1 : Int32)))] [0, 1, 2, 3, 4, 5, 6, 7] rfl ?_
          exact ih _ _ _ _ _ _ _ _ _ _ hr _ ⟨_, _, r157⟩ h157
        · replace hr := ite_f c302 hr
          refine G.go tv_X12_punch 2 316 [(0, .ref (gAd E (56))), (1, .int (x1)), (2, .int (x2)), (5, .int (x5)), (8, .int (x8)), (9, .int (x9)), (10, .int (x10)), (11, .int (x11))] [.int ((0 : Int32)), .int (x11), .ref (gAd E (79))] rfl ?_
          obtain ⟨R158, b158, eR158, hr⟩ := stR_s hr
          refine G.bast (79) (by omega) (r0.a44) b158 (tbd tv_X12_punch rfl) ?_
          refine G.gen (P := fun w9 => RfV E w9 (setSr (setS R158 42 az) sy) ∧ Fr RfK f0 w9) ⟨by rw [eR158]; exact r0.p44 _, Fr.up hf ⟨by decide, by decide⟩⟩ (fun u158 p158 => ?_)
          obtain ⟨r158, h158⟩ := p158
          refine G.go tv_X12_punch 2 264 [(0, .ref (gAd E (56))), (1, .int (x1)), (2, .int (x2)), (5, .int (x5)), (8, .int (x8)), (9, .int (x9)), (10, .int (x10)), (11, .int (x11 + (1 : Int32)))] [] rfl ?_
          refine G.less [(0, .ref (gAd E (56))), (1, .int (x1)), (2, .int (x2)), (5, .int (x5)), (8, .int (x8)), (9, .int (x9)), (10, .int (x10)), (11, .int (x11 + (1 : Int32)))] [0, 1, 2, 3, 4, 5, 6, 7] rfl ?_
          exact ih _ _ _ _ _ _ _ _ _ _ hr _ ⟨_, _, r158⟩ h158
set_option maxRecDepth 100000 in
set_option maxHeartbeats 4000000 in
theorem l_X12_punch_216 (E : gE) (f0 : Nat → va_E) (sz : Nat) (QA : Nat → Prop) (hE : 94 ≤ gN E) : ∀ (n : Nat), ∀ (R : RfT) (x1 : Int32) (x2 : Int32) (x5 : Int32) (x8 : Int32) (x9 : Int32) (r : Int32) (R9 : RfT) (hr : e_punch_216  n R x1 x2 x5 x8 x9 = some (r, R9)) (f : Nat → va_E) (w : RW E f R) (hf : Fr RfK f0 f), G E (12, yX12_punch, 12, (some .int), sz, QA) cX12_punch (gO E (12, yX12_punch, 12, (some .int), sz, QA) (fun v g => v = some (.int r) ∧ RW E g R9 ∧ Fr RfK f0 g, fun _ _ => False)) 216 [(0, .ref (gAd E (56))), (1, .int (x1)), (2, .int (x2)), (5, .int (x5)), (8, .int (x8)), (9, .int (x9))] [] f := by
  intro n
  induction n with
  | zero =>
    intro R x1 x2 x5 x8 x9 r R9 hr f w hf
    cases hr
  | succ n ih =>
    intro R x1 x2 x5 x8 x9 r R9 hr f w hf
    obtain ⟨az, sy, r0⟩ := w
    unfold e_punch_216 at hr
    refine G.go tv_X12_punch 4 224 [(0, .ref (gAd E (56))), (1, .int (x1)), (2, .int (x2)), (5, .int (x5)), (8, .int (x8)), (9, .int (x9))] [.int (x8), .int (((128 : Int32)) * (x9))] rfl ?_
    refine G.cmp_ge 335 (tbd tv_X12_punch rfl) (by decide) (fun c224 => ?_) (fun c224 => ?_)
    · replace hr := ite_t c224 hr
      refine G.go tv_X12_punch 2 338 [(0, .ref (gAd E (56))), (1, .int (x1)), (2, .int (x2)), (5, .int (x5)), (8, .int (x8)), (9, .int (x9))] [.int (x5), .ref (gAd E (56))] rfl ?_
      obtain ⟨v148, R148, hv148, hr⟩ := bnd2_s hr
      refine G.callV (56) [.int (x5)] [] (k_X12_committed E _ hE R ⟨_, _, r0⟩ x5 v148 R148 hv148) cls_X12 (by omega) (r0.o) cw_X12_436 w_2563 w_119 (Nat.le_of_ble_eq_true rfl) rfl (Nat.le_of_ble_eq_true rfl) (tbd tv_X12_punch rfl) (fun v148w f148 q148 => ?_) (fun _ _ h => h.elim)
      obtain ⟨rfl, ⟨az148, sy148, r148⟩, fa148⟩ := q148
      refine G.eqs [.int (v148)] rfl ?_
      cases hr
      exact G.iret rfl rfl ⟨rfl, ⟨_, _, r148⟩, (hf.tr fa148 (fun _ h => h))⟩ (tbd tv_X12_punch rfl)
    · replace hr := ite_f c224 hr
      refine G.go tv_X12_punch 2 230 [(0, .ref (gAd E (56))), (1, .int (x1)), (2, .int (x2)), (5, .int (x5)), (8, .int (x8)), (9, .int (x9))] [.int (x8), .int (x2)] rfl ?_
      refine G.cmp_ge 335 (tbd tv_X12_punch rfl) (by decide) (fun c230 => ?_) (fun c230 => ?_)
      · replace hr := ite_t c230 hr
        refine G.go tv_X12_punch 2 338 [(0, .ref (gAd E (56))), (1, .int (x1)), (2, .int (x2)), (5, .int (x5)), (8, .int (x8)), (9, .int (x9))] [.int (x5), .ref (gAd E (56))] rfl ?_
        obtain ⟨v149, R149, hv149, hr⟩ := bnd2_s hr
        refine G.callV (56) [.int (x5)] [] (k_X12_committed E _ hE R ⟨_, _, r0⟩ x5 v149 R149 hv149) cls_X12 (by omega) (r0.o) cw_X12_436 w_2563 w_119 (Nat.le_of_ble_eq_true rfl) rfl (Nat.le_of_ble_eq_true rfl) (tbd tv_X12_punch rfl) (fun v149w f149 q149 => ?_) (fun _ _ h => h.elim)
        obtain ⟨rfl, ⟨az149, sy149, r149⟩, fa149⟩ := q149
        refine G.eqs [.int (v149)] rfl ?_
        cases hr
        exact G.iret rfl rfl ⟨rfl, ⟨_, _, r149⟩, (hf.tr fa149 (fun _ h => h))⟩ (tbd tv_X12_punch rfl)
      · replace hr := ite_f c230 hr
        refine G.go tv_X12_punch 1 234 [(0, .ref (gAd E (56))), (1, .int (x1)), (2, .int (x2)), (5, .int (x5)), (8, .int (x8)), (9, .int (x9))] [.ref (gAd E (56))] rfl ?_
        refine G.rg r0 hE 11 (.int (rS R 11)) (by decide) rfl (tbd tv_X12_punch rfl) w_2076 ?_
        refine G.if_eq 335 (tbd tv_X12_punch rfl) (by decide) (fun c237 => ?_) (fun c237 => ?_)
        · replace hr := ite_t c237 hr
          refine G.go tv_X12_punch 2 338 [(0, .ref (gAd E (56))), (1, .int (x1)), (2, .int (x2)), (5, .int (x5)), (8, .int (x8)), (9, .int (x9))] [.int (x5), .ref (gAd E (56))] rfl ?_
          obtain ⟨v150, R150, hv150, hr⟩ := bnd2_s hr
          refine G.callV (56) [.int (x5)] [] (k_X12_committed E _ hE R ⟨_, _, r0⟩ x5 v150 R150 hv150) cls_X12 (by omega) (r0.o) cw_X12_436 w_2563 w_119 (Nat.le_of_ble_eq_true rfl) rfl (Nat.le_of_ble_eq_true rfl) (tbd tv_X12_punch rfl) (fun v150w f150 q150 => ?_) (fun _ _ h => h.elim)
          obtain ⟨rfl, ⟨az150, sy150, r150⟩, fa150⟩ := q150
          refine G.eqs [.int (v150)] rfl ?_
          cases hr
          exact G.iret rfl rfl ⟨rfl, ⟨_, _, r150⟩, (hf.tr fa150 (fun _ h => h))⟩ (tbd tv_X12_punch rfl)
        · replace hr := ite_f c237 hr
          refine G.go tv_X12_punch 3 244 [(0, .ref (gAd E (56))), (1, .int (x1)), (2, .int (x2)), (5, .int (x5)), (8, .int (x8)), (9, .int (x9))] [.int (x9), .int (x1), .ref (gAd E (56))] rfl ?_
          obtain ⟨v151, hv151, hr⟩ := bnd_s hr
          refine G.callV (56) [.int (x1), .int (x9)] [] (k_X12_blockOf E _ hE R ⟨_, _, r0⟩ x1 x9 v151 hv151) cls_X12 (by omega) (r0.o) cw_X12_323 w_2507 w_105 (Nat.le_of_ble_eq_true rfl) rfl (Nat.le_of_ble_eq_true rfl) (tbd tv_X12_punch rfl) (fun v151w f151 q151 => ?_) (fun _ _ h => h.elim)
          obtain ⟨rfl, ⟨az151, sy151, r151⟩, fa151⟩ := q151
          refine G.eqs [.int (v151)] rfl ?_
          refine G.go tv_X12_punch 2 251 [(0, .ref (gAd E (56))), (1, .int (x1)), (2, .int (x2)), (5, .int (x5)), (8, .int (x8)), (9, .int (x9)), (10, .int (v151))] [.int (v151)] rfl ?_
          refine G.if_eq 329 (tbd tv_X12_punch rfl) (by decide) (fun c251 => ?_) (fun c251 => ?_)
          · replace hr := ite_t c251 hr
            refine G.go tv_X12_punch 2 216 [(0, .ref (gAd E (56))), (1, .int (x1)), (2, .int (x2)), (5, .int (x5)), (8, .int (x8)), (9, .int (x9 + (1 : Int32))), (10, .int (v151))] [] rfl ?_
            refine G.less [(0, .ref (gAd E (56))), (1, .int (x1)), (2, .int (x2)), (5, .int (x5)), (8, .int (x8)), (9, .int (x9 + (1 : Int32)))] [0, 1, 2, 3, 4, 5] rfl ?_
            exact ih _ _ _ _ _ _ _ _ hr _ ⟨_, _, r151⟩ (hf.tr fa151 (fun _ h => h))
          · replace hr := ite_f c251 hr
            refine G.go tv_X12_punch 3 258 [(0, .ref (gAd E (56))), (1, .int (x1)), (2, .int (x2)), (5, .int (x5)), (8, .int (x8)), (9, .int (x9)), (10, .int (v151))] [.int ((1 : Int32)), .int (v151), .ref (gAd E (56))] rfl ?_
            obtain ⟨R152, hv152, hr⟩ := bnd_s hr
            refine G.callV (56) [.int (v151), .int ((1 : Int32))] [] (k_X12_see E _ hE R ⟨_, _, r151⟩ v151 ((1 : Int32)) R152 hv152) cls_X12 (by omega) (r151.o) cw_X12_236 w_2420 w_86 (Nat.le_of_ble_eq_true rfl) rfl (Nat.le_of_ble_eq_true rfl) (tbd tv_X12_punch rfl) (fun v152w f152 q152 => ?_) (fun _ _ h => h.elim)
            obtain ⟨rfl, ⟨az152, sy152, r152⟩, fa152⟩ := q152
            refine G.eqs [] rfl ?_
            refine G.go tv_X12_punch 2 264 [(0, .ref (gAd E (56))), (1, .int (x1)), (2, .int (x2)), (5, .int (x5)), (8, .int (x8)), (9, .int (x9)), (10, .int (v151)), (11, .int ((0 : Int32)))] [] rfl ?_
            refine G.less [(0, .ref (gAd E (56))), (1, .int (x1)), (2, .int (x2)), (5, .int (x5)), (8, .int (x8)), (9, .int (x9)), (10, .int (v151)), (11, .int ((0 : Int32)))] [0, 1, 2, 3, 4, 5, 6, 7] rfl ?_
            exact l_X12_punch_264 E f0 sz QA hE _ ih _ _ _ _ _ _ _ _ _ _ _ hr _ ⟨_, _, r152⟩ ((hf.tr fa151 (fun _ h => h)).tr fa152 (fun _ h => h))
set_option maxRecDepth 100000 in
set_option maxHeartbeats 4000000 in
theorem l_X12_punch_110 (E : gE) (f0 : Nat → va_E) (sz : Nat) (QA : Nat → Prop) (hE : 94 ≤ gN E) : ∀ (n : Nat), ∀ (R : RfT) (x1 : Int32) (x2 : Int32) (x5 : Int32) (x6 : Int32) (x7 : Int32) (x8 : Int32) (r : Int32) (R9 : RfT) (hr : e_punch_110  n R x1 x2 x5 x6 x7 x8 = some (r, R9)) (f : Nat → va_E) (w : RW E f R) (hf : Fr RfK f0 f), G E (12, yX12_punch, 12, (some .int), sz, QA) cX12_punch (gO E (12, yX12_punch, 12, (some .int), sz, QA) (fun v g => v = some (.int r) ∧ RW E g R9 ∧ Fr RfK f0 g, fun _ _ => False)) 110 [(0, .ref (gAd E (56))), (1, .int (x1)), (2, .int (x2)), (5, .int (x5)), (6, .int (x6)), (7, .int (x7)), (8, .int (x8))] [] f := by
  intro n
  induction n with
  | zero =>
    intro R x1 x2 x5 x6 x7 x8 r R9 hr f w hf
    cases hr
  | succ n ih =>
    intro R x1 x2 x5 x6 x7 x8 r R9 hr f w hf
    obtain ⟨az, sy, r0⟩ := w
    unfold e_punch_110 at hr
    refine G.go tv_X12_punch 4 118 [(0, .ref (gAd E (56))), (1, .int (x1)), (2, .int (x2)), (5, .int (x5)), (6, .int (x6)), (7, .int (x7)), (8, .int (x8))] [.int (x6), .int (((128 : Int32)) * (x8))] rfl ?_
    refine G.cmp_ge 193 (tbd tv_X12_punch rfl) (by decide) (fun c118 => ?_) (fun c118 => ?_)
    · replace hr := ite_t c118 hr
      refine G.go tv_X12_punch 2 197 [(0, .ref (gAd E (56))), (1, .int (x1)), (2, .int (x2)), (5, .int (x5)), (6, .int (x6)), (7, .int (x7)), (8, .int (x8))] [.int (x6), .int (x7)] rfl ?_
      refine G.cmp_ge 205 (tbd tv_X12_punch rfl) (by decide) (fun c197 => ?_) (fun c197 => ?_)
      · replace hr := ite_t c197 hr
        refine G.go tv_X12_punch 4 213 [(0, .ref (gAd E (56))), (1, .int (x1)), (2, .int (x2)), (5, .int (x5)), (6, .int (x6)), (7, .int (x7)), (8, .int (x6))] [.int ((128 : Int32)), .int (x2)] rfl ?_
        refine G.idiv (by decide) (tbd tv_X12_punch rfl) ?_
        refine G.go tv_X12_punch 1 216 [(0, .ref (gAd E (56))), (1, .int (x1)), (2, .int (x2)), (5, .int (x5)), (6, .int (x6)), (7, .int (x7)), (8, .int (x6)), (9, .int ((x2) / ((128 : Int32))))] [] rfl ?_
        refine G.less [(0, .ref (gAd E (56))), (1, .int (x1)), (2, .int (x2)), (5, .int (x5)), (8, .int (x6)), (9, .int ((x2) / ((128 : Int32))))] [0, 1, 2, 3, 6, 7] rfl ?_
        exact l_X12_punch_216 E f0 sz QA hE _ _ _ _ _ _ _ _ _ hr _ ⟨_, _, r0⟩ hf
      · replace hr := ite_f c197 hr
        refine G.go tv_X12_punch 5 213 [(0, .ref (gAd E (56))), (1, .int (x1)), (2, .int (x2)), (5, .int (x5)), (6, .int (x6)), (7, .int (x7)), (8, .int (x7))] [.int ((128 : Int32)), .int (x2)] rfl ?_
        refine G.idiv (by decide) (tbd tv_X12_punch rfl) ?_
        refine G.go tv_X12_punch 1 216 [(0, .ref (gAd E (56))), (1, .int (x1)), (2, .int (x2)), (5, .int (x5)), (6, .int (x6)), (7, .int (x7)), (8, .int (x7)), (9, .int ((x2) / ((128 : Int32))))] [] rfl ?_
        refine G.less [(0, .ref (gAd E (56))), (1, .int (x1)), (2, .int (x2)), (5, .int (x5)), (8, .int (x7)), (9, .int ((x2) / ((128 : Int32))))] [0, 1, 2, 3, 6, 7] rfl ?_
        exact l_X12_punch_216 E f0 sz QA hE _ _ _ _ _ _ _ _ _ hr _ ⟨_, _, r0⟩ hf
    · replace hr := ite_f c118 hr
      refine G.go tv_X12_punch 4 129 [(0, .ref (gAd E (56))), (1, .int (x1)), (2, .int (x2)), (5, .int (x5)), (6, .int (x6)), (7, .int (x7)), (8, .int (x8))] [.int (x7), .int (((128 : Int32)) * (x8))] rfl ?_
      refine G.cmp_ge 193 (tbd tv_X12_punch rfl) (by decide) (fun c129 => ?_) (fun c129 => ?_)
      · replace hr := ite_t c129 hr
        refine G.go tv_X12_punch 2 197 [(0, .ref (gAd E (56))), (1, .int (x1)), (2, .int (x2)), (5, .int (x5)), (6, .int (x6)), (7, .int (x7)), (8, .int (x8))] [.int (x6), .int (x7)] rfl ?_
        refine G.cmp_ge 205 (tbd tv_X12_punch rfl) (by decide) (fun c197 => ?_) (fun c197 => ?_)
        · replace hr := ite_t c197 hr
          refine G.go tv_X12_punch 4 213 [(0, .ref (gAd E (56))), (1, .int (x1)), (2, .int (x2)), (5, .int (x5)), (6, .int (x6)), (7, .int (x7)), (8, .int (x6))] [.int ((128 : Int32)), .int (x2)] rfl ?_
          refine G.idiv (by decide) (tbd tv_X12_punch rfl) ?_
          refine G.go tv_X12_punch 1 216 [(0, .ref (gAd E (56))), (1, .int (x1)), (2, .int (x2)), (5, .int (x5)), (6, .int (x6)), (7, .int (x7)), (8, .int (x6)), (9, .int ((x2) / ((128 : Int32))))] [] rfl ?_
          refine G.less [(0, .ref (gAd E (56))), (1, .int (x1)), (2, .int (x2)), (5, .int (x5)), (8, .int (x6)), (9, .int ((x2) / ((128 : Int32))))] [0, 1, 2, 3, 6, 7] rfl ?_
          exact l_X12_punch_216 E f0 sz QA hE _ _ _ _ _ _ _ _ _ hr _ ⟨_, _, r0⟩ hf
        · replace hr := ite_f c197 hr
          refine G.go tv_X12_punch 5 213 [(0, .ref (gAd E (56))), (1, .int (x1)), (2, .int (x2)), (5, .int (x5)), (6, .int (x6)), (7, .int (x7)), (8, .int (x7))] [.int ((128 : Int32)), .int (x2)] rfl ?_
          refine G.idiv (by decide) (tbd tv_X12_punch rfl) ?_
          refine G.go tv_X12_punch 1 216 [(0, .ref (gAd E (56))), (1, .int (x1)), (2, .int (x2)), (5, .int (x5)), (6, .int (x6)), (7, .int (x7)), (8, .int (x7)), (9, .int ((x2) / ((128 : Int32))))] [] rfl ?_
          refine G.less [(0, .ref (gAd E (56))), (1, .int (x1)), (2, .int (x2)), (5, .int (x5)), (8, .int (x7)), (9, .int ((x2) / ((128 : Int32))))] [0, 1, 2, 3, 6, 7] rfl ?_
          exact l_X12_punch_216 E f0 sz QA hE _ _ _ _ _ _ _ _ _ hr _ ⟨_, _, r0⟩ hf
      · replace hr := ite_f c129 hr
        refine G.go tv_X12_punch 3 136 [(0, .ref (gAd E (56))), (1, .int (x1)), (2, .int (x2)), (5, .int (x5)), (6, .int (x6)), (7, .int (x7)), (8, .int (x8))] [.int (x8), .int (x1), .ref (gAd E (56))] rfl ?_
        obtain ⟨v145, hv145, hr⟩ := bnd_s hr
        refine G.callV (56) [.int (x1), .int (x8)] [] (k_X12_blockOf E _ hE R ⟨_, _, r0⟩ x1 x8 v145 hv145) cls_X12 (by omega) (r0.o) cw_X12_323 w_2507 w_105 (Nat.le_of_ble_eq_true rfl) rfl (Nat.le_of_ble_eq_true rfl) (tbd tv_X12_punch rfl) (fun v145w f145 q145 => ?_) (fun _ _ h => h.elim)
        obtain ⟨rfl, ⟨az145, sy145, r145⟩, fa145⟩ := q145
        refine G.eqs [.int (v145)] rfl ?_
        refine G.go tv_X12_punch 2 143 [(0, .ref (gAd E (56))), (1, .int (x1)), (2, .int (x2)), (5, .int (x5)), (6, .int (x6)), (7, .int (x7)), (8, .int (x8)), (9, .int (v145))] [.int (v145)] rfl ?_
        refine G.if_eq 187 (tbd tv_X12_punch rfl) (by decide) (fun c143 => ?_) (fun c143 => ?_)
        · replace hr := ite_t c143 hr
          refine G.go tv_X12_punch 2 110 [(0, .ref (gAd E (56))), (1, .int (x1)), (2, .int (x2)), (5, .int (x5)), (6, .int (x6)), (7, .int (x7)), (8, .int (x8 + (1 : Int32))), (9, .int (v145))] [] rfl ?_
          refine G.less [(0, .ref (gAd E (56))), (1, .int (x1)), (2, .int (x2)), (5, .int (x5)), (6, .int (x6)), (7, .int (x7)), (8, .int (x8 + (1 : Int32)))] [0, 1, 2, 3, 4, 5, 6] rfl ?_
          exact ih _ _ _ _ _ _ _ _ _ hr _ ⟨_, _, r145⟩ (hf.tr fa145 (fun _ h => h))
        · replace hr := ite_f c143 hr
          refine G.go tv_X12_punch 4 153 [(0, .ref (gAd E (56))), (1, .int (x1)), (2, .int (x2)), (5, .int (x5)), (6, .int (x6)), (7, .int (x7)), (8, .int (x8)), (9, .int (v145))] [.int (x2), .int (((128 : Int32)) * (x8))] rfl ?_
          refine G.cmp_lt 187 (tbd tv_X12_punch rfl) (by decide) (fun c153 => ?_) (fun c153 => ?_)
          · replace hr := ite_t c153 hr
            refine G.go tv_X12_punch 2 110 [(0, .ref (gAd E (56))), (1, .int (x1)), (2, .int (x2)), (5, .int (x5)), (6, .int (x6)), (7, .int (x7)), (8, .int (x8 + (1 : Int32))), (9, .int (v145))] [] rfl ?_
            refine G.less [(0, .ref (gAd E (56))), (1, .int (x1)), (2, .int (x2)), (5, .int (x5)), (6, .int (x6)), (7, .int (x7)), (8, .int (x8 + (1 : Int32)))] [0, 1, 2, 3, 4, 5, 6] rfl ?_
            exact ih _ _ _ _ _ _ _ _ _ hr _ ⟨_, _, r145⟩ (hf.tr fa145 (fun _ h => h))
          · replace hr := ite_f c153 hr
            refine G.go tv_X12_punch 6 168 [(0, .ref (gAd E (56))), (1, .int (x1)), (2, .int (x2)), (5, .int (x5)), (6, .int (x6)), (7, .int (x7)), (8, .int (x8)), (9, .int (v145))] [.int (x7), .int ((((128 : Int32)) * (x8)) + ((128 : Int32)))] rfl ?_
            refine G.cmp_gt 187 (tbd tv_X12_punch rfl) (by decide) (fun c168 => ?_) (fun c168 => ?_)
            · replace hr := ite_t c168 hr
              refine G.go tv_X12_punch 2 110 [(0, .ref (gAd E (56))), (1, .int (x1)), (2, .int (x2)), (5, .int (x5)), (6, .int (x6)), (7, .int (x7)), (8, .int (x8 + (1 : Int32))), (9, .int (v145))] [] rfl ?_
              refine G.less [(0, .ref (gAd E (56))), (1, .int (x1)), (2, .int (x2)), (5, .int (x5)), (6, .int (x6)), (7, .int (x7)), (8, .int (x8 + (1 : Int32)))] [0, 1, 2, 3, 4, 5, 6] rfl ?_
              exact ih _ _ _ _ _ _ _ _ _ hr _ ⟨_, _, r145⟩ (hf.tr fa145 (fun _ h => h))
            · replace hr := ite_f c168 hr
              refine G.go tv_X12_punch 2 174 [(0, .ref (gAd E (56))), (1, .int (x1)), (2, .int (x2)), (5, .int (x5)), (6, .int (x6)), (7, .int (x7)), (8, .int (x8)), (9, .int (v145))] [.int (v145), .ref (gAd E (56))] rfl ?_
              obtain ⟨R146, hv146, hr⟩ := bnd_s hr
              refine G.callV (56) [.int (v145)] [] (k_X12_free E _ hE R ⟨_, _, r145⟩ v145 R146 hv146) cls_X12 (by omega) (r145.o) cw_X12_335 w_2404 w_82 (Nat.le_of_ble_eq_true rfl) rfl (Nat.le_of_ble_eq_true rfl) (tbd tv_X12_punch rfl) (fun v146w f146 q146 => ?_) (fun _ _ h => h.elim)
              obtain ⟨rfl, ⟨az146, sy146, r146⟩, fa146⟩ := q146
              refine G.eqs [] rfl ?_
              refine G.go tv_X12_punch 3 181 [(0, .ref (gAd E (56))), (1, .int (x1)), (2, .int (x2)), (5, .int (x5)), (6, .int (x6)), (7, .int (x7)), (8, .int (x8)), (9, .int (v145))] [.int (x8), .int (x1), .ref (gAd E (56))] rfl ?_
              obtain ⟨R147, hv147, hr⟩ := bnd_s hr
              refine G.callV (56) [.int (x1), .int (x8)] [] (k_X12_setHole E _ hE R146 ⟨_, _, r146⟩ x1 x8 R147 hv147) cls_X12 (by omega) (r146.o) cw_X12_490 w_2669 w_135 (Nat.le_of_ble_eq_true rfl) rfl (Nat.le_of_ble_eq_true rfl) (tbd tv_X12_punch rfl) (fun v147w f147 q147 => ?_) (fun _ _ h => h.elim)
              obtain ⟨rfl, ⟨az147, sy147, r147⟩, fa147⟩ := q147
              refine G.eqs [] rfl ?_
              refine G.go tv_X12_punch 3 110 [(0, .ref (gAd E (56))), (1, .int (x1)), (2, .int (x2)), (5, .int (x5 + (1 : Int32))), (6, .int (x6)), (7, .int (x7)), (8, .int (x8 + (1 : Int32))), (9, .int (v145))] [] rfl ?_
              refine G.less [(0, .ref (gAd E (56))), (1, .int (x1)), (2, .int (x2)), (5, .int (x5 + (1 : Int32))), (6, .int (x6)), (7, .int (x7)), (8, .int (x8 + (1 : Int32)))] [0, 1, 2, 3, 4, 5, 6] rfl ?_
              exact ih _ _ _ _ _ _ _ _ _ hr _ ⟨_, _, r147⟩ (((hf.tr fa145 (fun _ h => h)).tr fa146 (fun _ h => h)).tr fa147 (fun _ h => h))
set_option maxRecDepth 100000 in
set_option maxHeartbeats 4000000 in
theorem k_X12_punch (E : gE) (f : Nat → va_E) (hE : 94 ≤ gN E) (R : RfT) (w : RW E f R) (a0 : Int32) (a1 : Int32) (a2 : Int32) (r : Int32) (R9 : RfT) (hr : e_punch R a0 a1 a2 = some (r, R9)) : Ct E 12 yX12_punch cX12_punch 12 (some .int) [.ref (gAd E (56)), .int (a0), .int (a1), .int (a2)] f (fun v g => v = some (.int r) ∧ RW E g R9 ∧ Fr RfK f g, fun _ _ => False) := by
  obtain ⟨az, sy, r0⟩ := w
  refine Ct.of (by decide) (Nat.le_of_ble_eq_true rfl) (fun sz => ?_)
  refine G.eql [(0, .ref (gAd E (56))), (1, .int (a0)), (2, .int (a1)), (3, .int (a2))] rfl ?_
  unfold e_punch at hr
  refine G.go tv_X12_punch 1 1 [(0, .ref (gAd E (56))), (1, .int (a0)), (2, .int (a1)), (3, .int (a2))] [.ref (gAd E (56))] rfl ?_
  obtain ⟨v140, R140, hv140, hr⟩ := bnd2_s hr
  refine G.callV (56) [] [] (k_X12_notMounted E _ hE R ⟨_, _, r0⟩ v140 R140 hv140) cls_X12 (by omega) (r0.o) cw_X12_403 w_2464 w_96 (Nat.le_of_ble_eq_true rfl) rfl (Nat.le_of_ble_eq_true rfl) (tbd tv_X12_punch rfl) (fun v140w f140 q140 => ?_) (fun _ _ h => h.elim)
  obtain ⟨rfl, ⟨az140, sy140, r140⟩, fa140⟩ := q140
  refine G.eqs [.int (v140)] rfl ?_
  refine G.if_eq 9 (tbd tv_X12_punch rfl) (by decide) (fun c4 => ?_) (fun c4 => ?_)
  · replace hr := ite_t c4 hr
    refine G.go tv_X12_punch 2 11 [(0, .ref (gAd E (56))), (1, .int (a0)), (2, .int (a1)), (3, .int (a2))] [.int (a0), .ref (gAd E (56))] rfl ?_
    obtain ⟨v141, hv141, hr⟩ := bnd_s hr
    refine G.callV (56) [.int (a0)] [] (k_X12_kind E _ hE R140 ⟨_, _, r140⟩ a0 v141 hv141) cls_X12 (by omega) (r140.o) cw_X12_326 w_2369 w_74 (Nat.le_of_ble_eq_true rfl) rfl (Nat.le_of_ble_eq_true rfl) (tbd tv_X12_punch rfl) (fun v141w f141 q141 => ?_) (fun _ _ h => h.elim)
    obtain ⟨rfl, ⟨az141, sy141, r141⟩, fa141⟩ := q141
    refine G.eqs [.int (v141)] rfl ?_
    refine G.go tv_X12_punch 3 19 [(0, .ref (gAd E (56))), (1, .int (a0)), (2, .int (a1)), (3, .int (a2)), (4, .int (v141))] [.int ((1 : Int32)), .int (v141)] rfl ?_
    refine G.cmp_eq 35 (tbd tv_X12_punch rfl) (by decide) (fun c19 => ?_) (fun c19 => ?_)
    · replace hr := ite_t c19 hr
      refine G.go tv_X12_punch 1 36 [(0, .ref (gAd E (56))), (1, .int (a0)), (2, .int (a1)), (3, .int (a2)), (4, .int (v141))] [.int (a1)] rfl ?_
      refine G.if_lt 55 (tbd tv_X12_punch rfl) (by decide) (fun c36 => ?_) (fun c36 => ?_)
      · replace hr := ite_t c36 hr
        refine G.go tv_X12_punch 1 57 [(0, .ref (gAd E (56))), (1, .int (a0)), (2, .int (a1)), (3, .int (a2)), (4, .int (v141))] [.int ((-10 : Int32))] rfl ?_
        cases hr
        exact G.iret rfl rfl ⟨rfl, ⟨_, _, r141⟩, ((Fr.rf.tr fa140 (fun _ h => h)).tr fa141 (fun _ h => h))⟩ (tbd tv_X12_punch rfl)
      · replace hr := ite_f c36 hr
        refine G.go tv_X12_punch 1 40 [(0, .ref (gAd E (56))), (1, .int (a0)), (2, .int (a1)), (3, .int (a2)), (4, .int (v141))] [.int (a2)] rfl ?_
        refine G.if_lt 55 (tbd tv_X12_punch rfl) (by decide) (fun c40 => ?_) (fun c40 => ?_)
        · replace hr := ite_t c40 hr
          refine G.go tv_X12_punch 1 57 [(0, .ref (gAd E (56))), (1, .int (a0)), (2, .int (a1)), (3, .int (a2)), (4, .int (v141))] [.int ((-10 : Int32))] rfl ?_
          cases hr
          exact G.iret rfl rfl ⟨rfl, ⟨_, _, r141⟩, ((Fr.rf.tr fa140 (fun _ h => h)).tr fa141 (fun _ h => h))⟩ (tbd tv_X12_punch rfl)
        · replace hr := ite_f c40 hr
          refine G.go tv_X12_punch 5 48 [(0, .ref (gAd E (56))), (1, .int (a0)), (2, .int (a1)), (3, .int (a2)), (4, .int (v141))] [.long (((a1 : Int32).toInt64) + ((a2 : Int32).toInt64))] rfl ?_
          refine G.ldc2 (400000) (tbd tv_X12_punch rfl) w_2645 ?_
          refine G.go tv_X12_punch 1 52 [(0, .ref (gAd E (56))), (1, .int (a0)), (2, .int (a1)), (3, .int (a2)), (4, .int (v141))] [.int (lg_cmp (((a1 : Int32).toInt64) + ((a2 : Int32).toInt64)) ((400000 : Int64)))] rfl ?_
          refine G.if_le 58 (tbd tv_X12_punch rfl) (by decide) (fun c52 => ?_) (fun c52 => ?_)
          · replace hr := ite_t c52 hr
            refine G.go tv_X12_punch 4 63 [(0, .ref (gAd E (56))), (1, .int (a0)), (2, .int (a1)), (3, .int (a2)), (4, .int (v141)), (5, .int ((0 : Int32)))] [.int (a0), .ref (gAd E (56))] rfl ?_
            obtain ⟨v142, hv142, hr⟩ := bnd_s hr
            refine G.callV (56) [.int (a0)] [] (k_X12_size E _ hE R140 ⟨_, _, r141⟩ a0 v142 hv142) cls_X12 (by omega) (r141.o) cw_X12_344 w_2503 w_104 (Nat.le_of_ble_eq_true rfl) rfl (Nat.le_of_ble_eq_true rfl) (tbd tv_X12_punch rfl) (fun v142w f142 q142 => ?_) (fun _ _ h => h.elim)
            obtain ⟨rfl, ⟨az142, sy142, r142⟩, fa142⟩ := q142
            refine G.eqs [.int (v142)] rfl ?_
            refine G.go tv_X12_punch 10 80 [(0, .ref (gAd E (56))), (1, .int (a0)), (2, .int (a1)), (3, .int (a2)), (4, .int (v141)), (5, .int ((0 : Int32))), (6, .int (v142)), (7, .int ((a1) + (a2)))] [.int (v142), .int ((a1) + (a2)), .int (a1), .int (a0), .ref (gAd E (56))] rfl ?_
            refine G.cmp_ge 88 (tbd tv_X12_punch rfl) (by decide) (fun c80 => ?_) (fun c80 => ?_)
            · replace hr := ite_t c80 hr
              refine G.go tv_X12_punch 2 92 [(0, .ref (gAd E (56))), (1, .int (a0)), (2, .int (a1)), (3, .int (a2)), (4, .int (v141)), (5, .int ((0 : Int32))), (6, .int (v142)), (7, .int ((a1) + (a2)))] [.int ((a1) + (a2)), .int (v142), .int (a1), .int (a0), .ref (gAd E (56))] rfl ?_
              obtain ⟨v143, hv143, hr⟩ := bnd_s hr
              refine G.callV (56) [.int (a0), .int (a1), .int (v142), .int ((a1) + (a2))] [] (k_X12_tablesPunched E _ hE R140 ⟨_, _, r142⟩ a0 a1 v142 ((a1) + (a2)) v143 hv143) cls_X12 (by omega) (r142.o) cw_X12_487 w_2665 w_134 (Nat.le_of_ble_eq_true rfl) rfl (Nat.le_of_ble_eq_true rfl) (tbd tv_X12_punch rfl) (fun v143w f143 q143 => ?_) (fun _ _ h => h.elim)
              obtain ⟨rfl, ⟨az143, sy143, r143⟩, fa143⟩ := q143
              refine G.eqs [.int (v143)] rfl ?_
              refine G.go tv_X12_punch 1 97 [(0, .ref (gAd E (56))), (1, .int (a0)), (2, .int (a1)), (3, .int (a2)), (4, .int (v141)), (5, .int ((0 : Int32))), (6, .int (v142)), (7, .int ((a1) + (a2)))] [.int ((32 : Int32)), .int (v143)] rfl ?_
              refine G.cmp_le 103 (tbd tv_X12_punch rfl) (by decide) (fun c97 => ?_) (fun c97 => ?_)
              · replace hr := ite_t c97 hr
                refine G.go tv_X12_punch 2 107 [(0, .ref (gAd E (56))), (1, .int (a0)), (2, .int (a1)), (3, .int (a2)), (4, .int (v141)), (5, .int ((0 : Int32))), (6, .int (v142)), (7, .int ((a1) + (a2)))] [.int ((128 : Int32)), .int (a1)] rfl ?_
                refine G.idiv (by decide) (tbd tv_X12_punch rfl) ?_
                refine G.go tv_X12_punch 1 110 [(0, .ref (gAd E (56))), (1, .int (a0)), (2, .int (a1)), (3, .int (a2)), (4, .int (v141)), (5, .int ((0 : Int32))), (6, .int (v142)), (7, .int ((a1) + (a2))), (8, .int ((a1) / ((128 : Int32))))] [] rfl ?_
                refine G.less [(0, .ref (gAd E (56))), (1, .int (a0)), (2, .int (a1)), (5, .int ((0 : Int32))), (6, .int (v142)), (7, .int ((a1) + (a2))), (8, .int ((a1) / ((128 : Int32))))] [0, 1, 2, 5, 6, 7, 8] rfl ?_
                exact l_X12_punch_110 E f sz _ hE _ _ _ _ _ _ _ _ _ _ hr _ ⟨_, _, r143⟩ ((((Fr.rf.tr fa140 (fun _ h => h)).tr fa141 (fun _ h => h)).tr fa142 (fun _ h => h)).tr fa143 (fun _ h => h))
              · replace hr := ite_f c97 hr
                refine G.go tv_X12_punch 1 102 [(0, .ref (gAd E (56))), (1, .int (a0)), (2, .int (a1)), (3, .int (a2)), (4, .int (v141)), (5, .int ((0 : Int32))), (6, .int (v142)), (7, .int ((a1) + (a2)))] [.int ((-12 : Int32))] rfl ?_
                cases hr
                exact G.iret rfl rfl ⟨rfl, ⟨_, _, r143⟩, ((((Fr.rf.tr fa140 (fun _ h => h)).tr fa141 (fun _ h => h)).tr fa142 (fun _ h => h)).tr fa143 (fun _ h => h))⟩ (tbd tv_X12_punch rfl)
            · replace hr := ite_f c80 hr
              refine G.go tv_X12_punch 3 92 [(0, .ref (gAd E (56))), (1, .int (a0)), (2, .int (a1)), (3, .int (a2)), (4, .int (v141)), (5, .int ((0 : Int32))), (6, .int (v142)), (7, .int ((a1) + (a2)))] [.int ((a1) + (a2)), .int ((a1) + (a2)), .int (a1), .int (a0), .ref (gAd E (56))] rfl ?_
              obtain ⟨v144, hv144, hr⟩ := bnd_s hr
              refine G.callV (56) [.int (a0), .int (a1), .int ((a1) + (a2)), .int ((a1) + (a2))] [] (k_X12_tablesPunched E _ hE R140 ⟨_, _, r142⟩ a0 a1 ((a1) + (a2)) ((a1) + (a2)) v144 hv144) cls_X12 (by omega) (r142.o) cw_X12_487 w_2665 w_134 (Nat.le_of_ble_eq_true rfl) rfl (Nat.le_of_ble_eq_true rfl) (tbd tv_X12_punch rfl) (fun v144w f144 q144 => ?_) (fun _ _ h => h.elim)
              obtain ⟨rfl, ⟨az144, sy144, r144⟩, fa144⟩ := q144
              refine G.eqs [.int (v144)] rfl ?_
              refine G.go tv_X12_punch 1 97 [(0, .ref (gAd E (56))), (1, .int (a0)), (2, .int (a1)), (3, .int (a2)), (4, .int (v141)), (5, .int ((0 : Int32))), (6, .int (v142)), (7, .int ((a1) + (a2)))] [.int ((32 : Int32)), .int (v144)] rfl ?_
              refine G.cmp_le 103 (tbd tv_X12_punch rfl) (by decide) (fun c97 => ?_) (fun c97 => ?_)
              · replace hr := ite_t c97 hr
                refine G.go tv_X12_punch 2 107 [(0, .ref (gAd E (56))), (1, .int (a0)), (2, .int (a1)), (3, .int (a2)), (4, .int (v141)), (5, .int ((0 : Int32))), (6, .int (v142)), (7, .int ((a1) + (a2)))] [.int ((128 : Int32)), .int (a1)] rfl ?_
                refine G.idiv (by decide) (tbd tv_X12_punch rfl) ?_
                refine G.go tv_X12_punch 1 110 [(0, .ref (gAd E (56))), (1, .int (a0)), (2, .int (a1)), (3, .int (a2)), (4, .int (v141)), (5, .int ((0 : Int32))), (6, .int (v142)), (7, .int ((a1) + (a2))), (8, .int ((a1) / ((128 : Int32))))] [] rfl ?_
                refine G.less [(0, .ref (gAd E (56))), (1, .int (a0)), (2, .int (a1)), (5, .int ((0 : Int32))), (6, .int (v142)), (7, .int ((a1) + (a2))), (8, .int ((a1) / ((128 : Int32))))] [0, 1, 2, 5, 6, 7, 8] rfl ?_
                exact l_X12_punch_110 E f sz _ hE _ _ _ _ _ _ _ _ _ _ hr _ ⟨_, _, r144⟩ ((((Fr.rf.tr fa140 (fun _ h => h)).tr fa141 (fun _ h => h)).tr fa142 (fun _ h => h)).tr fa144 (fun _ h => h))
              · replace hr := ite_f c97 hr
                refine G.go tv_X12_punch 1 102 [(0, .ref (gAd E (56))), (1, .int (a0)), (2, .int (a1)), (3, .int (a2)), (4, .int (v141)), (5, .int ((0 : Int32))), (6, .int (v142)), (7, .int ((a1) + (a2)))] [.int ((-12 : Int32))] rfl ?_
                cases hr
                exact G.iret rfl rfl ⟨rfl, ⟨_, _, r144⟩, ((((Fr.rf.tr fa140 (fun _ h => h)).tr fa141 (fun _ h => h)).tr fa142 (fun _ h => h)).tr fa144 (fun _ h => h))⟩ (tbd tv_X12_punch rfl)
          · replace hr := ite_f c52 hr
            refine G.go tv_X12_punch 1 57 [(0, .ref (gAd E (56))), (1, .int (a0)), (2, .int (a1)), (3, .int (a2)), (4, .int (v141))] [.int ((-10 : Int32))] rfl ?_
            cases hr
            exact G.iret rfl rfl ⟨rfl, ⟨_, _, r141⟩, ((Fr.rf.tr fa140 (fun _ h => h)).tr fa141 (fun _ h => h))⟩ (tbd tv_X12_punch rfl)
    · replace hr := ite_f c19 hr
      refine G.go tv_X12_punch 1 24 [(0, .ref (gAd E (56))), (1, .int (a0)), (2, .int (a1)), (3, .int (a2)), (4, .int (v141))] [.int (v141)] rfl ?_
      refine G.if_ne 32 (tbd tv_X12_punch rfl) (by decide) (fun c24 => ?_) (fun c24 => ?_)
      · replace hr := ite_f c24 hr
        refine G.go tv_X12_punch 1 34 [(0, .ref (gAd E (56))), (1, .int (a0)), (2, .int (a1)), (3, .int (a2)), (4, .int (v141))] [.int ((-4 : Int32))] rfl ?_
        cases hr
        exact G.iret rfl rfl ⟨rfl, ⟨_, _, r141⟩, ((Fr.rf.tr fa140 (fun _ h => h)).tr fa141 (fun _ h => h))⟩ (tbd tv_X12_punch rfl)
      · replace hr := ite_t c24 hr
        refine G.go tv_X12_punch 2 34 [(0, .ref (gAd E (56))), (1, .int (a0)), (2, .int (a1)), (3, .int (a2)), (4, .int (v141))] [.int ((-11 : Int32))] rfl ?_
        cases hr
        exact G.iret rfl rfl ⟨rfl, ⟨_, _, r141⟩, ((Fr.rf.tr fa140 (fun _ h => h)).tr fa141 (fun _ h => h))⟩ (tbd tv_X12_punch rfl)
  · replace hr := ite_f c4 hr
    refine G.go tv_X12_punch 1 8 [(0, .ref (gAd E (56))), (1, .int (a0)), (2, .int (a1)), (3, .int (a2))] [.int ((0 : Int32))] rfl ?_
    cases hr
    exact G.iret rfl rfl ⟨rfl, ⟨_, _, r140⟩, (Fr.rf.tr fa140 (fun _ h => h))⟩ (tbd tv_X12_punch rfl)
noncomputable def e_mark  (R : RfT) (a0 : Int32) (a1 : Int32) : Option (Int32 × RfT) := bnd2 (e_notMounted R) (fun v159 R159 => if v159 = 0 then bnd (e_kind R159 a0) (fun v160 => if v160 = 0 then some ((-11 : Int32), R159) else bnd (e_setField R159 a0 ((8 : Int32)) ((4 : Int32)) a1) (fun R161 => bnd2 (e_committed R161 ((0 : Int32))) (fun v162 R162 => some (v162, R162)))) else some ((0 : Int32), R159))
set_option maxRecDepth 100000 in
set_option maxHeartbeats 4000000 in
theorem k_X12_mark (E : gE) (f : Nat → va_E) (hE : 94 ≤ gN E) (R : RfT) (w : RW E f R) (a0 : Int32) (a1 : Int32) (r : Int32) (R9 : RfT) (hr : e_mark R a0 a1 = some (r, R9)) : Ct E 12 yX12_mark cX12_mark 3 (some .int) [.ref (gAd E (56)), .int (a0), .int (a1)] f (fun v g => v = some (.int r) ∧ RW E g R9 ∧ Fr RfK f g, fun _ _ => False) := by
  obtain ⟨az, sy, r0⟩ := w
  refine Ct.of (by decide) (Nat.le_of_ble_eq_true rfl) (fun sz => ?_)
  refine G.eql [(0, .ref (gAd E (56))), (1, .int (a0)), (2, .int (a1))] rfl ?_
  unfold e_mark at hr
  refine G.go tv_X12_mark 1 1 [(0, .ref (gAd E (56))), (1, .int (a0)), (2, .int (a1))] [.ref (gAd E (56))] rfl ?_
  obtain ⟨v159, R159, hv159, hr⟩ := bnd2_s hr
  refine G.callV (56) [] [] (k_X12_notMounted E _ hE R ⟨_, _, r0⟩ v159 R159 hv159) cls_X12 (by omega) (r0.o) cw_X12_403 w_2464 w_96 (Nat.le_of_ble_eq_true rfl) rfl (Nat.le_of_ble_eq_true rfl) (tbd tv_X12_mark rfl) (fun v159w f159 q159 => ?_) (fun _ _ h => h.elim)
  obtain ⟨rfl, ⟨az159, sy159, r159⟩, fa159⟩ := q159
  refine G.eqs [.int (v159)] rfl ?_
  refine G.if_eq 9 (tbd tv_X12_mark rfl) (by decide) (fun c4 => ?_) (fun c4 => ?_)
  · replace hr := ite_t c4 hr
    refine G.go tv_X12_mark 2 11 [(0, .ref (gAd E (56))), (1, .int (a0)), (2, .int (a1))] [.int (a0), .ref (gAd E (56))] rfl ?_
    obtain ⟨v160, hv160, hr⟩ := bnd_s hr
    refine G.callV (56) [.int (a0)] [] (k_X12_kind E _ hE R159 ⟨_, _, r159⟩ a0 v160 hv160) cls_X12 (by omega) (r159.o) cw_X12_326 w_2369 w_74 (Nat.le_of_ble_eq_true rfl) rfl (Nat.le_of_ble_eq_true rfl) (tbd tv_X12_mark rfl) (fun v160w f160 q160 => ?_) (fun _ _ h => h.elim)
    obtain ⟨rfl, ⟨az160, sy160, r160⟩, fa160⟩ := q160
    refine G.eqs [.int (v160)] rfl ?_
    refine G.if_ne 20 (tbd tv_X12_mark rfl) (by decide) (fun c14 => ?_) (fun c14 => ?_)
    · replace hr := ite_f c14 hr
      refine G.go tv_X12_mark 5 26 [(0, .ref (gAd E (56))), (1, .int (a0)), (2, .int (a1))] [.int (a1), .int ((4 : Int32)), .int ((8 : Int32)), .int (a0), .ref (gAd E (56))] rfl ?_
      obtain ⟨R161, hv161, hr⟩ := bnd_s hr
      refine G.callV (56) [.int (a0), .int ((8 : Int32)), .int ((4 : Int32)), .int (a1)] [] (k_X12_setField E _ hE R159 ⟨_, _, r160⟩ a0 ((8 : Int32)) ((4 : Int32)) a1 R161 hv161) cls_X12 (by omega) (r160.o) cw_X12_332 w_2424 w_87 (Nat.le_of_ble_eq_true rfl) rfl (Nat.le_of_ble_eq_true rfl) (tbd tv_X12_mark rfl) (fun v161w f161 q161 => ?_) (fun _ _ h => h.elim)
      obtain ⟨rfl, ⟨az161, sy161, r161⟩, fa161⟩ := q161
      refine G.eqs [] rfl ?_
      refine G.go tv_X12_mark 2 31 [(0, .ref (gAd E (56))), (1, .int (a0)), (2, .int (a1))] [.int ((0 : Int32)), .ref (gAd E (56))] rfl ?_
      obtain ⟨v162, R162, hv162, hr⟩ := bnd2_s hr
      refine G.callV (56) [.int ((0 : Int32))] [] (k_X12_committed E _ hE R161 ⟨_, _, r161⟩ ((0 : Int32)) v162 R162 hv162) cls_X12 (by omega) (r161.o) cw_X12_436 w_2563 w_119 (Nat.le_of_ble_eq_true rfl) rfl (Nat.le_of_ble_eq_true rfl) (tbd tv_X12_mark rfl) (fun v162w f162 q162 => ?_) (fun _ _ h => h.elim)
      obtain ⟨rfl, ⟨az162, sy162, r162⟩, fa162⟩ := q162
      refine G.eqs [.int (v162)] rfl ?_
      cases hr
      exact G.iret rfl rfl ⟨rfl, ⟨_, _, r162⟩, ((((Fr.rf.tr fa159 (fun _ h => h)).tr fa160 (fun _ h => h)).tr fa161 (fun _ h => h)).tr fa162 (fun _ h => h))⟩ (tbd tv_X12_mark rfl)
    · replace hr := ite_t c14 hr
      refine G.go tv_X12_mark 1 19 [(0, .ref (gAd E (56))), (1, .int (a0)), (2, .int (a1))] [.int ((-11 : Int32))] rfl ?_
      cases hr
      exact G.iret rfl rfl ⟨rfl, ⟨_, _, r160⟩, ((Fr.rf.tr fa159 (fun _ h => h)).tr fa160 (fun _ h => h))⟩ (tbd tv_X12_mark rfl)
  · replace hr := ite_f c4 hr
    refine G.go tv_X12_mark 1 8 [(0, .ref (gAd E (56))), (1, .int (a0)), (2, .int (a1))] [.int ((0 : Int32))] rfl ?_
    cases hr
    exact G.iret rfl rfl ⟨rfl, ⟨_, _, r159⟩, (Fr.rf.tr fa159 (fun _ h => h))⟩ (tbd tv_X12_mark rfl)
def e_hold  (R : RfT) (a0 : Int32) : Option (Int32 × RfT) := bnd2 (e_notMounted R) (fun v163 R163 => if v163 = 0 then bnd (e_kind R163 a0) (fun v164 => if v164 = 0 then some ((-11 : Int32), R163) else ld (rA R163 52) 65 a0 (fun v165 => if v165 = ((100 : Int32)) then some ((-9 : Int32), R163) else ld (rA R163 52) 65 a0 (fun v166 => stR R163 52 65 a0 ((v166) + ((1 : Int32))) (fun R167 => ld (rA R167 52) 65 a0 (fun v168 => some (v168, R167)))))) else some ((0 : Int32), R163))
set_option maxRecDepth 100000 in
set_option maxHeartbeats 4000000 in
theorem k_X12_hold (E : gE) (f : Nat → va_E) (hE : 94 ≤ gN E) (R : RfT) (w : RW E f R) (a0 : Int32) (r : Int32) (R9 : RfT) (hr : e_hold R a0 = some (r, R9)) : Ct E 5 yX12_hold cX12_hold 2 (some .int) [.ref (gAd E (56)), .int (a0)] f (fun v g => v = some (.int r) ∧ RW E g R9 ∧ Fr RfK f g, fun _ _ => False) := by
  obtain ⟨az, sy, r0⟩ := w
  refine Ct.of (by decide) (Nat.le_of_ble_eq_true rfl) (fun sz => ?_)
  refine G.eql [(0, .ref (gAd E (56))), (1, .int (a0))] rfl ?_
  unfold e_hold at hr
  refine G.go tv_X12_hold 1 1 [(0, .ref (gAd E (56))), (1, .int (a0))] [.ref (gAd E (56))] rfl ?_
  obtain ⟨v163, R163, hv163, hr⟩ := bnd2_s hr
  refine G.callV (56) [] [] (k_X12_notMounted E _ hE R ⟨_, _, r0⟩ v163 R163 hv163) cls_X12 (by omega) (r0.o) cw_X12_403 w_2464 w_96 (Nat.le_of_ble_eq_true rfl) rfl (Nat.le_of_ble_eq_true rfl) (tbd tv_X12_hold rfl) (fun v163w f163 q163 => ?_) (fun _ _ h => h.elim)
  obtain ⟨rfl, ⟨az163, sy163, r163⟩, fa163⟩ := q163
  refine G.eqs [.int (v163)] rfl ?_
  refine G.if_eq 9 (tbd tv_X12_hold rfl) (by decide) (fun c4 => ?_) (fun c4 => ?_)
  · replace hr := ite_t c4 hr
    refine G.go tv_X12_hold 2 11 [(0, .ref (gAd E (56))), (1, .int (a0))] [.int (a0), .ref (gAd E (56))] rfl ?_
    obtain ⟨v164, hv164, hr⟩ := bnd_s hr
    refine G.callV (56) [.int (a0)] [] (k_X12_kind E _ hE R163 ⟨_, _, r163⟩ a0 v164 hv164) cls_X12 (by omega) (r163.o) cw_X12_326 w_2369 w_74 (Nat.le_of_ble_eq_true rfl) rfl (Nat.le_of_ble_eq_true rfl) (tbd tv_X12_hold rfl) (fun v164w f164 q164 => ?_) (fun _ _ h => h.elim)
    obtain ⟨rfl, ⟨az164, sy164, r164⟩, fa164⟩ := q164
    refine G.eqs [.int (v164)] rfl ?_
    refine G.if_ne 20 (tbd tv_X12_hold rfl) (by decide) (fun c14 => ?_) (fun c14 => ?_)
    · replace hr := ite_f c14 hr
      refine G.go tv_X12_hold 1 21 [(0, .ref (gAd E (56))), (1, .int (a0))] [.ref (gAd E (56))] rfl ?_
      refine G.rg r164 hE 52 (.ref (gAd E (86))) (by decide) rfl (tbd tv_X12_hold rfl) w_2117 ?_
      refine G.go tv_X12_hold 1 25 [(0, .ref (gAd E (56))), (1, .int (a0))] [.int (a0), .ref (gAd E (86))] rfl ?_
      obtain ⟨v165, b165, e165, hr⟩ := ld_s hr
      refine G.ialdE (86) (by omega) (r164.a52) b165 e165 (tbd tv_X12_hold rfl) ?_
      refine G.go tv_X12_hold 1 28 [(0, .ref (gAd E (56))), (1, .int (a0))] [.int ((100 : Int32)), .int (v165)] rfl ?_
      refine G.cmp_ne 34 (tbd tv_X12_hold rfl) (by decide) (fun c28 => ?_) (fun c28 => ?_)
      · replace hr := ite_f c28 hr
        refine G.go tv_X12_hold 1 35 [(0, .ref (gAd E (56))), (1, .int (a0))] [.ref (gAd E (56))] rfl ?_
        refine G.rg r164 hE 52 (.ref (gAd E (86))) (by decide) rfl (tbd tv_X12_hold rfl) w_2117 ?_
        refine G.go tv_X12_hold 2 40 [(0, .ref (gAd E (56))), (1, .int (a0))] [.int (a0), .ref (gAd E (86)), .int (a0), .ref (gAd E (86))] rfl ?_
        obtain ⟨v166, b166, e166, hr⟩ := ld_s hr
        refine G.ialdE (86) (by omega) (r164.a52) b166 e166 (tbd tv_X12_hold rfl) ?_
        refine G.go tv_X12_hold 2 43 [(0, .ref (gAd E (56))), (1, .int (a0))] [.int ((v166) + ((1 : Int32))), .int (a0), .ref (gAd E (86))] rfl ?_
        obtain ⟨R167, b167, eR167, hr⟩ := stR_s hr
        refine G.iast (86) (by omega) (r164.a52) b167 (tbd tv_X12_hold rfl) ?_
        refine G.gen (P := fun w9 => RfV E w9 (setSr (setS R167 42 az164) sy164) ∧ Fr RfK f w9) ⟨by rw [eR167]; exact r164.p52 _, Fr.up ((Fr.rf.tr fa163 (fun _ h => h)).tr fa164 (fun _ h => h)) ⟨by decide, by decide⟩⟩ (fun u167 p167 => ?_)
        obtain ⟨r167, h167⟩ := p167
        refine G.go tv_X12_hold 1 45 [(0, .ref (gAd E (56))), (1, .int (a0))] [.ref (gAd E (56))] rfl ?_
        refine G.rg r167 hE 52 (.ref (gAd E (86))) (by decide) rfl (tbd tv_X12_hold rfl) w_2117 ?_
        refine G.go tv_X12_hold 1 49 [(0, .ref (gAd E (56))), (1, .int (a0))] [.int (a0), .ref (gAd E (86))] rfl ?_
        obtain ⟨v168, b168, e168, hr⟩ := ld_s hr
        refine G.ialdE (86) (by omega) (r167.a52) b168 e168 (tbd tv_X12_hold rfl) ?_
        cases hr
        exact G.iret rfl rfl ⟨rfl, ⟨_, _, r167⟩, h167⟩ (tbd tv_X12_hold rfl)
      · replace hr := ite_t c28 hr
        refine G.go tv_X12_hold 1 33 [(0, .ref (gAd E (56))), (1, .int (a0))] [.int ((-9 : Int32))] rfl ?_
        cases hr
        exact G.iret rfl rfl ⟨rfl, ⟨_, _, r164⟩, ((Fr.rf.tr fa163 (fun _ h => h)).tr fa164 (fun _ h => h))⟩ (tbd tv_X12_hold rfl)
    · replace hr := ite_t c14 hr
      refine G.go tv_X12_hold 1 19 [(0, .ref (gAd E (56))), (1, .int (a0))] [.int ((-11 : Int32))] rfl ?_
      cases hr
      exact G.iret rfl rfl ⟨rfl, ⟨_, _, r164⟩, ((Fr.rf.tr fa163 (fun _ h => h)).tr fa164 (fun _ h => h))⟩ (tbd tv_X12_hold rfl)
  · replace hr := ite_f c4 hr
    refine G.go tv_X12_hold 1 8 [(0, .ref (gAd E (56))), (1, .int (a0))] [.int ((0 : Int32))] rfl ?_
    cases hr
    exact G.iret rfl rfl ⟨rfl, ⟨_, _, r163⟩, (Fr.rf.tr fa163 (fun _ h => h))⟩ (tbd tv_X12_hold rfl)
noncomputable def e_release  (R : RfT) (a0 : Int32) : Option (Int32 × RfT) := bnd2 (e_notMounted R) (fun v169 R169 => if v169 = 0 then bnd (e_kind R169 a0) (fun v170 => if v170 = 0 then some ((-11 : Int32), R169) else ld (rA R169 52) 65 a0 (fun v171 => if v171 = 0 then some ((-9 : Int32), R169) else ld (rA R169 52) 65 a0 (fun v172 => stR R169 52 65 a0 ((v172) - ((1 : Int32))) (fun R173 => bnd (e_isHeld R173 a0) (fun v174 => if v174 = 0 then bnd (e_isLost R173 a0) (fun v176 => if v176 = 0 then ld (rA R173 52) 65 a0 (fun v177 => some (v177, R173)) else bnd (e_removeInode R173 a0) (fun R178 => bnd2 (e_committed R178 ((0 : Int32))) (fun v179 R179 => some (v179, R179)))) else ld (rA R173 52) 65 a0 (fun v175 => some (v175, R173))))))) else some ((0 : Int32), R169))
set_option maxRecDepth 100000 in
set_option maxHeartbeats 4000000 in
theorem k_X12_release (E : gE) (f : Nat → va_E) (hE : 94 ≤ gN E) (R : RfT) (w : RW E f R) (a0 : Int32) (r : Int32) (R9 : RfT) (hr : e_release R a0 = some (r, R9)) : Ct E 12 yX12_release cX12_release 2 (some .int) [.ref (gAd E (56)), .int (a0)] f (fun v g => v = some (.int r) ∧ RW E g R9 ∧ Fr RfK f g, fun _ _ => False) := by
  obtain ⟨az, sy, r0⟩ := w
  refine Ct.of (by decide) (Nat.le_of_ble_eq_true rfl) (fun sz => ?_)
  refine G.eql [(0, .ref (gAd E (56))), (1, .int (a0))] rfl ?_
  unfold e_release at hr
  refine G.go tv_X12_release 1 1 [(0, .ref (gAd E (56))), (1, .int (a0))] [.ref (gAd E (56))] rfl ?_
  obtain ⟨v169, R169, hv169, hr⟩ := bnd2_s hr
  refine G.callV (56) [] [] (k_X12_notMounted E _ hE R ⟨_, _, r0⟩ v169 R169 hv169) cls_X12 (by omega) (r0.o) cw_X12_403 w_2464 w_96 (Nat.le_of_ble_eq_true rfl) rfl (Nat.le_of_ble_eq_true rfl) (tbd tv_X12_release rfl) (fun v169w f169 q169 => ?_) (fun _ _ h => h.elim)
  obtain ⟨rfl, ⟨az169, sy169, r169⟩, fa169⟩ := q169
  refine G.eqs [.int (v169)] rfl ?_
  refine G.if_eq 9 (tbd tv_X12_release rfl) (by decide) (fun c4 => ?_) (fun c4 => ?_)
  · replace hr := ite_t c4 hr
    refine G.go tv_X12_release 2 11 [(0, .ref (gAd E (56))), (1, .int (a0))] [.int (a0), .ref (gAd E (56))] rfl ?_
    obtain ⟨v170, hv170, hr⟩ := bnd_s hr
    refine G.callV (56) [.int (a0)] [] (k_X12_kind E _ hE R169 ⟨_, _, r169⟩ a0 v170 hv170) cls_X12 (by omega) (r169.o) cw_X12_326 w_2369 w_74 (Nat.le_of_ble_eq_true rfl) rfl (Nat.le_of_ble_eq_true rfl) (tbd tv_X12_release rfl) (fun v170w f170 q170 => ?_) (fun _ _ h => h.elim)
    obtain ⟨rfl, ⟨az170, sy170, r170⟩, fa170⟩ := q170
    refine G.eqs [.int (v170)] rfl ?_
    refine G.if_ne 20 (tbd tv_X12_release rfl) (by decide) (fun c14 => ?_) (fun c14 => ?_)
    · replace hr := ite_f c14 hr
      refine G.go tv_X12_release 1 21 [(0, .ref (gAd E (56))), (1, .int (a0))] [.ref (gAd E (56))] rfl ?_
      refine G.rg r170 hE 52 (.ref (gAd E (86))) (by decide) rfl (tbd tv_X12_release rfl) w_2117 ?_
      refine G.go tv_X12_release 1 25 [(0, .ref (gAd E (56))), (1, .int (a0))] [.int (a0), .ref (gAd E (86))] rfl ?_
      obtain ⟨v171, b171, e171, hr⟩ := ld_s hr
      refine G.ialdE (86) (by omega) (r170.a52) b171 e171 (tbd tv_X12_release rfl) ?_
      refine G.if_ne 32 (tbd tv_X12_release rfl) (by decide) (fun c26 => ?_) (fun c26 => ?_)
      · replace hr := ite_f c26 hr
        refine G.go tv_X12_release 1 33 [(0, .ref (gAd E (56))), (1, .int (a0))] [.ref (gAd E (56))] rfl ?_
        refine G.rg r170 hE 52 (.ref (gAd E (86))) (by decide) rfl (tbd tv_X12_release rfl) w_2117 ?_
        refine G.go tv_X12_release 2 38 [(0, .ref (gAd E (56))), (1, .int (a0))] [.int (a0), .ref (gAd E (86)), .int (a0), .ref (gAd E (86))] rfl ?_
        obtain ⟨v172, b172, e172, hr⟩ := ld_s hr
        refine G.ialdE (86) (by omega) (r170.a52) b172 e172 (tbd tv_X12_release rfl) ?_
        refine G.go tv_X12_release 2 41 [(0, .ref (gAd E (56))), (1, .int (a0))] [.int ((v172) - ((1 : Int32))), .int (a0), .ref (gAd E (86))] rfl ?_
        obtain ⟨R173, b173, eR173, hr⟩ := stR_s hr
        refine G.iast (86) (by omega) (r170.a52) b173 (tbd tv_X12_release rfl) ?_
        refine G.gen (P := fun w9 => RfV E w9 (setSr (setS R173 42 az170) sy170) ∧ Fr RfK f w9) ⟨by rw [eR173]; exact r170.p52 _, Fr.up ((Fr.rf.tr fa169 (fun _ h => h)).tr fa170 (fun _ h => h)) ⟨by decide, by decide⟩⟩ (fun u173 p173 => ?_)
        obtain ⟨r173, h173⟩ := p173
        refine G.go tv_X12_release 2 44 [(0, .ref (gAd E (56))), (1, .int (a0))] [.int (a0), .ref (gAd E (56))] rfl ?_
        obtain ⟨v174, hv174, hr⟩ := bnd_s hr
        refine G.callV (56) [.int (a0)] [] (k_X12_isHeld E _ hE R173 ⟨_, _, r173⟩ a0 v174 hv174) cls_X12 (by omega) (r173.o) cw_X12_373 w_2388 w_78 (Nat.le_of_ble_eq_true rfl) rfl (Nat.le_of_ble_eq_true rfl) (tbd tv_X12_release rfl) (fun v174w f174 q174 => ?_) (fun _ _ h => h.elim)
        obtain ⟨rfl, ⟨az174, sy174, r174⟩, fa174⟩ := q174
        refine G.eqs [.int (v174)] rfl ?_
        refine G.if_ne 69 (tbd tv_X12_release rfl) (by decide) (fun c47 => ?_) (fun c47 => ?_)
        · replace hr := ite_f c47 hr
          refine G.go tv_X12_release 1 70 [(0, .ref (gAd E (56))), (1, .int (a0))] [.ref (gAd E (56))] rfl ?_
          refine G.rg r174 hE 52 (.ref (gAd E (86))) (by decide) rfl (tbd tv_X12_release rfl) w_2117 ?_
          refine G.go tv_X12_release 1 74 [(0, .ref (gAd E (56))), (1, .int (a0))] [.int (a0), .ref (gAd E (86))] rfl ?_
          obtain ⟨v175, b175, e175, hr⟩ := ld_s hr
          refine G.ialdE (86) (by omega) (r174.a52) b175 e175 (tbd tv_X12_release rfl) ?_
          cases hr
          exact G.iret rfl rfl ⟨rfl, ⟨_, _, r174⟩, (h173.tr fa174 (fun _ h => h))⟩ (tbd tv_X12_release rfl)
        · replace hr := ite_t c47 hr
          refine G.go tv_X12_release 2 52 [(0, .ref (gAd E (56))), (1, .int (a0))] [.int (a0), .ref (gAd E (56))] rfl ?_
          obtain ⟨v176, hv176, hr⟩ := bnd_s hr
          refine G.callV (56) [.int (a0)] [] (k_X12_isLost E _ hE R173 ⟨_, _, r174⟩ a0 v176 hv176) cls_X12 (by omega) (r174.o) cw_X12_370 w_2365 w_73 (Nat.le_of_ble_eq_true rfl) rfl (Nat.le_of_ble_eq_true rfl) (tbd tv_X12_release rfl) (fun v176w f176 q176 => ?_) (fun _ _ h => h.elim)
          obtain ⟨rfl, ⟨az176, sy176, r176⟩, fa176⟩ := q176
          refine G.eqs [.int (v176)] rfl ?_
          refine G.if_eq 69 (tbd tv_X12_release rfl) (by decide) (fun c55 => ?_) (fun c55 => ?_)
          · replace hr := ite_t c55 hr
            refine G.go tv_X12_release 1 70 [(0, .ref (gAd E (56))), (1, .int (a0))] [.ref (gAd E (56))] rfl ?_
            refine G.rg r176 hE 52 (.ref (gAd E (86))) (by decide) rfl (tbd tv_X12_release rfl) w_2117 ?_
            refine G.go tv_X12_release 1 74 [(0, .ref (gAd E (56))), (1, .int (a0))] [.int (a0), .ref (gAd E (86))] rfl ?_
            obtain ⟨v177, b177, e177, hr⟩ := ld_s hr
            refine G.ialdE (86) (by omega) (r176.a52) b177 e177 (tbd tv_X12_release rfl) ?_
            cases hr
            exact G.iret rfl rfl ⟨rfl, ⟨_, _, r176⟩, ((h173.tr fa174 (fun _ h => h)).tr fa176 (fun _ h => h))⟩ (tbd tv_X12_release rfl)
          · replace hr := ite_f c55 hr
            refine G.go tv_X12_release 2 60 [(0, .ref (gAd E (56))), (1, .int (a0))] [.int (a0), .ref (gAd E (56))] rfl ?_
            obtain ⟨R178, hv178, hr⟩ := bnd_s hr
            refine G.callV (56) [.int (a0)] [] (k_X12_removeInode E _ hE R173 ⟨_, _, r176⟩ a0 R178 hv178) cls_X12 (by omega) (r176.o) cw_X12_376 w_2396 w_80 (Nat.le_of_ble_eq_true rfl) rfl (Nat.le_of_ble_eq_true rfl) (tbd tv_X12_release rfl) (fun v178w f178 q178 => ?_) (fun _ _ h => h.elim)
            obtain ⟨rfl, ⟨az178, sy178, r178⟩, fa178⟩ := q178
            refine G.eqs [] rfl ?_
            refine G.go tv_X12_release 2 65 [(0, .ref (gAd E (56))), (1, .int (a0))] [.int ((0 : Int32)), .ref (gAd E (56))] rfl ?_
            obtain ⟨v179, R179, hv179, hr⟩ := bnd2_s hr
            refine G.callV (56) [.int ((0 : Int32))] [] (k_X12_committed E _ hE R178 ⟨_, _, r178⟩ ((0 : Int32)) v179 R179 hv179) cls_X12 (by omega) (r178.o) cw_X12_436 w_2563 w_119 (Nat.le_of_ble_eq_true rfl) rfl (Nat.le_of_ble_eq_true rfl) (tbd tv_X12_release rfl) (fun v179w f179 q179 => ?_) (fun _ _ h => h.elim)
            obtain ⟨rfl, ⟨az179, sy179, r179⟩, fa179⟩ := q179
            refine G.eqs [.int (v179)] rfl ?_
            cases hr
            exact G.iret rfl rfl ⟨rfl, ⟨_, _, r179⟩, ((((h173.tr fa174 (fun _ h => h)).tr fa176 (fun _ h => h)).tr fa178 (fun _ h => h)).tr fa179 (fun _ h => h))⟩ (tbd tv_X12_release rfl)
      · replace hr := ite_t c26 hr
        refine G.go tv_X12_release 1 31 [(0, .ref (gAd E (56))), (1, .int (a0))] [.int ((-9 : Int32))] rfl ?_
        cases hr
        exact G.iret rfl rfl ⟨rfl, ⟨_, _, r170⟩, ((Fr.rf.tr fa169 (fun _ h => h)).tr fa170 (fun _ h => h))⟩ (tbd tv_X12_release rfl)
    · replace hr := ite_t c14 hr
      refine G.go tv_X12_release 1 19 [(0, .ref (gAd E (56))), (1, .int (a0))] [.int ((-11 : Int32))] rfl ?_
      cases hr
      exact G.iret rfl rfl ⟨rfl, ⟨_, _, r170⟩, ((Fr.rf.tr fa169 (fun _ h => h)).tr fa170 (fun _ h => h))⟩ (tbd tv_X12_release rfl)
  · replace hr := ite_f c4 hr
    refine G.go tv_X12_release 1 8 [(0, .ref (gAd E (56))), (1, .int (a0))] [.int ((0 : Int32))] rfl ?_
    cases hr
    exact G.iret rfl rfl ⟨rfl, ⟨_, _, r169⟩, (Fr.rf.tr fa169 (fun _ h => h))⟩ (tbd tv_X12_release rfl)
