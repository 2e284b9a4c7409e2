def nz64 {α : Type} (y : Int64) (k : Option α) : Option α := if y = 0 then none else k
theorem nz64_s {α : Type} {y : Int64} {k : Option α} {r : α} (h : nz64 y k = some r) : ¬ y = 0 ∧ k = some r := by
  unfold nz64 at h
  split at h
  · cases h
  · next q => exact ⟨q, h⟩
theorem w_2691 : Cond.methodLink "LedgerFilesModel" 496 yX12_blocksOf ∈ TB := tp_11 145 (by decide +kernel) rfl
theorem w_2694 : Cond.code yX12_blocksOf prog_14_method_113_code 7 (some .int) ∈ TB := tp_11 148 rfl rfl
theorem cw_X12_496 : Cw RX12 496 yX12_blocksOf cX12_blocksOf 7 (some .int) 1 := ⟨w_2691, w_2694, w_161, by decide +kernel, by decide +kernel, by decide⟩
theorem w_2693 : Cond.instanceMethod yX12_blocksOf ∈ TB := tp_11 147 (by decide +kernel) rfl
theorem w_136 : Cond.selects "LedgerFilesModel" yX12_blocksOf yX12_blocksOf ∈ TB := tp_0 136 (by decide +kernel) rfl
def e_about_32  (R : RfT) (x1 : Int32) (x2 : Int32) : Option (Int32 × RfT) := bnd (e_kind R x1) (fun v5 => if v5 = 0 then some ((-11 : Int32), R) else if x2 = (0 : Int32) then some (v5, R) else if x2 = (1 : Int32) then bnd (e_size R x1) (fun v6 => some (v6, R)) else if x2 = (2 : Int32) then bnd (e_field R x1 ((8 : Int32)) ((4 : Int32))) (fun v7 => some (v7, R)) else if x2 = (3 : Int32) then bnd2 (e_blocksOf R x1) (fun v8 R8 => some (v8, R8)) else if x2 = (4 : Int32) then if v5 = ((2 : Int32)) then bnd (e_names R x1) (fun v9 => some (v9, R)) else some ((0 : Int32), R) else if x2 = (5 : Int32) then bnd (e_field R x1 ((1 : Int32)) ((1 : Int32))) (fun v10 => some (v10, R)) else ld (rA R 52) 65 x1 (fun v11 => bnd (e_handlesOn R x1) (fun v12 => some ((v11) + (v12), R))))
def e_about  (R : RfT) (a0 : Int32) (a1 : Int32) : Option (Int32 × RfT) := bnd2 (e_notMounted R) (fun v1 R1 => if v1 = 0 then if a1 < 0 then bnd2 (e_refuse R1 ((1 : Int32)) ((2 : Int32))) (fun v2 R2 => if v2 = 0 then e_about_32  R2 a0 a1 else some ((0 : Int32), R2)) else if a1 ≤ ((6 : Int32)) then bnd2 (e_refuse R1 ((0 : Int32)) ((2 : Int32))) (fun v3 R3 => if v3 = 0 then e_about_32  R3 a0 a1 else some ((0 : Int32), R3)) else bnd2 (e_refuse R1 ((1 : Int32)) ((2 : Int32))) (fun v4 R4 => if v4 = 0 then e_about_32  R4 a0 a1 else some ((0 : Int32), R4)) else some ((0 : Int32), R1))
set_option maxRecDepth 100000 in
set_option maxHeartbeats 4000000 in
theorem l_X12_about_32 (E : gE) (f0 : Nat → va_E) (sz : Nat) (QA : Nat → Prop) (hE : 94 ≤ gN E) : ∀ (R : RfT) (x1 : Int32) (x2 : Int32) (r : Int32) (R9 : RfT) (hr : e_about_32  R x1 x2 = some (r, R9)) (f : Nat → va_E) (w : RW E f R) (hf : Fr RfK f0 f), G E (8, yX12_about, 4, (some .int), sz, QA) cX12_about (gO E (8, yX12_about, 4, (some .int), sz, QA) (fun v g => v = some (.int r) ∧ RW E g R9 ∧ Fr RfK f0 g, fun _ _ => False)) 32 [(0, .ref (gAd E (56))), (1, .int (x1)), (2, .int (x2))] [] f := by
  intro R x1 x2 r R9 hr f w hf
  obtain ⟨az, sy, r0⟩ := w
  unfold e_about_32 at hr
  refine G.go tv_X12_about 2 34 [(0, .ref (gAd E (56))), (1, .int (x1)), (2, .int (x2))] [.int (x1), .ref (gAd E (56))] rfl ?_
  obtain ⟨v5, hv5, hr⟩ := bnd_s hr
  refine G.callV (56) [.int (x1)] [] (k_X12_kind E _ hE R ⟨_, _, r0⟩ x1 v5 hv5) cls_X12 (by omega) (r0.o) cw_X12_326 w_2369 w_74 (Nat.le_of_ble_eq_true rfl) rfl (Nat.le_of_ble_eq_true rfl) (tbd tv_X12_about rfl) (fun v5w f5 q5 => ?_) (fun _ _ h => h.elim)
  obtain ⟨rfl, ⟨az5, sy5, r5⟩, fa5⟩ := q5
  refine G.eqs [.int (v5)] rfl ?_
  refine G.go tv_X12_about 2 39 [(0, .ref (gAd E (56))), (1, .int (x1)), (2, .int (x2)), (3, .int (v5))] [.int (v5)] rfl ?_
  refine G.if_ne 45 (tbd tv_X12_about rfl) (by decide) (fun c39 => ?_) (fun c39 => ?_)
  · replace hr := ite_f c39 hr
    refine G.go tv_X12_about 1 46 [(0, .ref (gAd E (56))), (1, .int (x1)), (2, .int (x2)), (3, .int (v5))] [.int (x2)] rfl ?_
    by_cases c46_0 : x2 = (0 : Int32)
    · replace hr := ite_t c46_0 hr
      refine G.tswI 84 (38) (tbd tv_X12_about rfl) (by rw [c46_0]; decide) (by rw [c46_0]; decide) (by rw [c46_0]; decide) (by decide) ?_
      refine G.go tv_X12_about 1 85 [(0, .ref (gAd E (56))), (1, .int (x1)), (2, .int (x2)), (3, .int (v5))] [.int (v5)] rfl ?_
      cases hr
      exact G.iret rfl rfl ⟨rfl, ⟨_, _, r5⟩, (hf.tr fa5 (fun _ h => h))⟩ (tbd tv_X12_about rfl)
    replace hr := ite_f c46_0 hr
    by_cases c46_1 : x2 = (1 : Int32)
    · replace hr := ite_t c46_1 hr
      refine G.tswI 86 (40) (tbd tv_X12_about rfl) (by rw [c46_1]; decide) (by rw [c46_1]; decide) (by rw [c46_1]; decide) (by decide) ?_
      refine G.go tv_X12_about 2 88 [(0, .ref (gAd E (56))), (1, .int (x1)), (2, .int (x2)), (3, .int (v5))] [.int (x1), .ref (gAd E (56))] rfl ?_
      obtain ⟨v6, hv6, hr⟩ := bnd_s hr
      refine G.callV (56) [.int (x1)] [] (k_X12_size E _ hE R ⟨_, _, r5⟩ x1 v6 hv6) cls_X12 (by omega) (r5.o) cw_X12_344 w_2503 w_104 (Nat.le_of_ble_eq_true rfl) rfl (Nat.le_of_ble_eq_true rfl) (tbd tv_X12_about rfl) (fun v6w f6 q6 => ?_) (fun _ _ h => h.elim)
      obtain ⟨rfl, ⟨az6, sy6, r6⟩, fa6⟩ := q6
      refine G.eqs [.int (v6)] rfl ?_
      cases hr
      exact G.iret rfl rfl ⟨rfl, ⟨_, _, r6⟩, ((hf.tr fa5 (fun _ h => h)).tr fa6 (fun _ h => h))⟩ (tbd tv_X12_about rfl)
    replace hr := ite_f c46_1 hr
    by_cases c46_2 : x2 = (2 : Int32)
    · replace hr := ite_t c46_2 hr
      refine G.tswI 92 (46) (tbd tv_X12_about rfl) (by rw [c46_2]; decide) (by rw [c46_2]; decide) (by rw [c46_2]; decide) (by decide) ?_
      refine G.go tv_X12_about 4 97 [(0, .ref (gAd E (56))), (1, .int (x1)), (2, .int (x2)), (3, .int (v5))] [.int ((4 : Int32)), .int ((8 : Int32)), .int (x1), .ref (gAd E (56))] rfl ?_
      obtain ⟨v7, hv7, hr⟩ := bnd_s hr
      refine G.callV (56) [.int (x1), .int ((8 : Int32)), .int ((4 : Int32))] [] (k_X12_field E _ hE R ⟨_, _, r5⟩ x1 ((8 : Int32)) ((4 : Int32)) v7 hv7) cls_X12 (by omega) (r5.o) cw_X12_303 w_2373 w_75 (Nat.le_of_ble_eq_true rfl) rfl (Nat.le_of_ble_eq_true rfl) (tbd tv_X12_about rfl) (fun v7w f7 q7 => ?_) (fun _ _ h => h.elim)
      obtain ⟨rfl, ⟨az7, sy7, r7⟩, fa7⟩ := q7
      refine G.eqs [.int (v7)] rfl ?_
      cases hr
      exact G.iret rfl rfl ⟨rfl, ⟨_, _, r7⟩, ((hf.tr fa5 (fun _ h => h)).tr fa7 (fun _ h => h))⟩ (tbd tv_X12_about rfl)
    replace hr := ite_f c46_2 hr
    by_cases c46_3 : x2 = (3 : Int32)
    · replace hr := ite_t c46_3 hr
      refine G.tswI 101 (55) (tbd tv_X12_about rfl) (by rw [c46_3]; decide) (by rw [c46_3]; decide) (by rw [c46_3]; decide) (by decide) ?_
      refine G.go tv_X12_about 2 103 [(0, .ref (gAd E (56))), (1, .int (x1)), (2, .int (x2)), (3, .int (v5))] [.int (x1), .ref (gAd E (56))] rfl ?_
      obtain ⟨v8, R8, hv8, hr⟩ := bnd2_s hr
      refine G.callV (56) [.int (x1)] [] (k_X12_blocksOf E _ hE R ⟨_, _, r5⟩ x1 v8 R8 hv8) cls_X12 (by omega) (r5.o) cw_X12_496 w_2693 w_136 (Nat.le_of_ble_eq_true rfl) rfl (Nat.le_of_ble_eq_true rfl) (tbd tv_X12_about rfl) (fun v8w f8 q8 => ?_) (fun _ _ h => h.elim)
      obtain ⟨rfl, ⟨az8, sy8, r8⟩, fa8⟩ := q8
      refine G.eqs [.int (v8)] rfl ?_
      cases hr
      exact G.iret rfl rfl ⟨rfl, ⟨_, _, r8⟩, ((hf.tr fa5 (fun _ h => h)).tr fa8 (fun _ h => h))⟩ (tbd tv_X12_about rfl)
    replace hr := ite_f c46_3 hr
    by_cases c46_4 : x2 = (4 : Int32)
    · replace hr := ite_t c46_4 hr
      refine G.tswI 107 (61) (tbd tv_X12_about rfl) (by rw [c46_4]; decide) (by rw [c46_4]; decide) (by rw [c46_4]; decide) (by decide) ?_
      refine G.go tv_X12_about 2 109 [(0, .ref (gAd E (56))), (1, .int (x1)), (2, .int (x2)), (3, .int (v5))] [.int ((2 : Int32)), .int (v5)] rfl ?_
      refine G.cmp_ne 120 (tbd tv_X12_about rfl) (by decide) (fun c109 => ?_) (fun c109 => ?_)
      · replace hr := ite_f c109 hr
        refine G.go tv_X12_about 1 121 [(0, .ref (gAd E (56))), (1, .int (x1)), (2, .int (x2)), (3, .int (v5))] [.int ((0 : Int32))] rfl ?_
        cases hr
        exact G.iret rfl rfl ⟨rfl, ⟨_, _, r5⟩, (hf.tr fa5 (fun _ h => h))⟩ (tbd tv_X12_about rfl)
      · replace hr := ite_t c109 hr
        refine G.go tv_X12_about 2 114 [(0, .ref (gAd E (56))), (1, .int (x1)), (2, .int (x2)), (3, .int (v5))] [.int (x1), .ref (gAd E (56))] rfl ?_
        obtain ⟨v9, hv9, hr⟩ := bnd_s hr
        refine G.callV (56) [.int (x1)] [] (k_X12_names E _ hE R ⟨_, _, r5⟩ x1 v9 hv9) cls_X12 (by omega) (r5.o) cw_X12_439 w_2571 w_120 (Nat.le_of_ble_eq_true rfl) rfl (Nat.le_of_ble_eq_true rfl) (tbd tv_X12_about rfl) (fun v9w f9 q9 => ?_) (fun _ _ h => h.elim)
        obtain ⟨rfl, ⟨az9, sy9, r9⟩, fa9⟩ := q9
        refine G.eqs [.int (v9)] rfl ?_
        refine G.go tv_X12_about 1 121 [(0, .ref (gAd E (56))), (1, .int (x1)), (2, .int (x2)), (3, .int (v5))] [.int (v9)] rfl ?_
        cases hr
        exact G.iret rfl rfl ⟨rfl, ⟨_, _, r9⟩, ((hf.tr fa5 (fun _ h => h)).tr fa9 (fun _ h => h))⟩ (tbd tv_X12_about rfl)
    replace hr := ite_f c46_4 hr
    by_cases c46_5 : x2 = (5 : Int32)
    · replace hr := ite_t c46_5 hr
      refine G.tswI 122 (76) (tbd tv_X12_about rfl) (by rw [c46_5]; decide) (by rw [c46_5]; decide) (by rw [c46_5]; decide) (by decide) ?_
      refine G.go tv_X12_about 4 126 [(0, .ref (gAd E (56))), (1, .int (x1)), (2, .int (x2)), (3, .int (v5))] [.int ((1 : Int32)), .int ((1 : Int32)), .int (x1), .ref (gAd E (56))] rfl ?_
      obtain ⟨v10, hv10, hr⟩ := bnd_s hr
      refine G.callV (56) [.int (x1), .int ((1 : Int32)), .int ((1 : Int32))] [] (k_X12_field E _ hE R ⟨_, _, r5⟩ x1 ((1 : Int32)) ((1 : Int32)) v10 hv10) cls_X12 (by omega) (r5.o) cw_X12_303 w_2373 w_75 (Nat.le_of_ble_eq_true rfl) rfl (Nat.le_of_ble_eq_true rfl) (tbd tv_X12_about rfl) (fun v10w f10 q10 => ?_) (fun _ _ h => h.elim)
      obtain ⟨rfl, ⟨az10, sy10, r10⟩, fa10⟩ := q10
      refine G.eqs [.int (v10)] rfl ?_
      cases hr
      exact G.iret rfl rfl ⟨rfl, ⟨_, _, r10⟩, ((hf.tr fa5 (fun _ h => h)).tr fa10 (fun _ h => h))⟩ (tbd tv_X12_about rfl)
    replace hr := ite_f c46_5 hr
    have nc46_0 : x2.toInt ≠ 0 := fun e => c46_0 (Int32.toInt_inj.mp (e.trans (by decide)))
    have nc46_1 : x2.toInt ≠ 1 := fun e => c46_1 (Int32.toInt_inj.mp (e.trans (by decide)))
    have nc46_2 : x2.toInt ≠ 2 := fun e => c46_2 (Int32.toInt_inj.mp (e.trans (by decide)))
    have nc46_3 : x2.toInt ≠ 3 := fun e => c46_3 (Int32.toInt_inj.mp (e.trans (by decide)))
    have nc46_4 : x2.toInt ≠ 4 := fun e => c46_4 (Int32.toInt_inj.mp (e.trans (by decide)))
    have nc46_5 : x2.toInt ≠ 5 := fun e => c46_5 (Int32.toInt_inj.mp (e.trans (by decide)))
    refine G.tswO 130 (tbd tv_X12_about rfl) (by omega) (by decide) ?_
    refine G.go tv_X12_about 1 131 [(0, .ref (gAd E (56))), (1, .int (x1)), (2, .int (x2)), (3, .int (v5))] [.ref (gAd E (56))] rfl ?_
    refine G.rg r5 hE 52 (.ref (gAd E (86))) (by decide) rfl (tbd tv_X12_about rfl) w_2117 ?_
    refine G.go tv_X12_about 1 135 [(0, .ref (gAd E (56))), (1, .int (x1)), (2, .int (x2)), (3, .int (v5))] [.int (x1), .ref (gAd E (86))] rfl ?_
    obtain ⟨v11, b11, e11, hr⟩ := ld_s hr
    refine G.ialdE (86) (by omega) (r5.a52) b11 e11 (tbd tv_X12_about rfl) ?_
    refine G.go tv_X12_about 2 138 [(0, .ref (gAd E (56))), (1, .int (x1)), (2, .int (x2)), (3, .int (v5))] [.int (x1), .ref (gAd E (56)), .int (v11)] rfl ?_
    obtain ⟨v12, hv12, hr⟩ := bnd_s hr
    refine G.callV (56) [.int (x1)] [.int (v11)] (k_X12_handlesOn E _ hE R ⟨_, _, r5⟩ x1 v12 hv12) cls_X12 (by omega) (r5.o) cw_X12_367 w_2392 w_79 (Nat.le_of_ble_eq_true rfl) rfl (Nat.le_of_ble_eq_true rfl) (tbd tv_X12_about rfl) (fun v12w f12 q12 => ?_) (fun _ _ h => h.elim)
    obtain ⟨rfl, ⟨az12, sy12, r12⟩, fa12⟩ := q12
    refine G.eqs [.int (v12), .int (v11)] rfl ?_
    refine G.go tv_X12_about 1 142 [(0, .ref (gAd E (56))), (1, .int (x1)), (2, .int (x2)), (3, .int (v5))] [.int ((v11) + (v12))] rfl ?_
    cases hr
    exact G.iret rfl rfl ⟨rfl, ⟨_, _, r12⟩, ((hf.tr fa5 (fun _ h => h)).tr fa12 (fun _ h => h))⟩ (tbd tv_X12_about rfl)
  · replace hr := ite_t c39 hr
    refine G.go tv_X12_about 1 44 [(0, .ref (gAd E (56))), (1, .int (x1)), (2, .int (x2)), (3, .int (v5))] [.int ((-11 : Int32))] rfl ?_
    cases hr
    exact G.iret rfl rfl ⟨rfl, ⟨_, _, r5⟩, (hf.tr fa5 (fun _ h => h))⟩ (tbd tv_X12_about rfl)
set_option maxRecDepth 100000 in
set_option maxHeartbeats 4000000 in
theorem k_X12_about (E : gE) (f : Nat → va_E) (hE : 94 ≤ gN E) (R : RfT) (w : RW E f R) (a0 : Int32) (a1 : Int32) (r : Int32) (R9 : RfT) (hr : e_about R a0 a1 = some (r, R9)) : Ct E 8 yX12_about cX12_about 4 (some .int) [.ref (gAd E (56)), .int (a0), .int (a1)] f (fun v g => v = some (.int r) ∧ RW E g R9 ∧ Fr RfK f g, fun _ _ => False) := by
  obtain ⟨az, sy, r0⟩ := w
  refine Ct.of (by decide) (Nat.le_of_ble_eq_true rfl) (fun sz => ?_)
  refine G.eql [(0, .ref (gAd E (56))), (1, .int (a0)), (2, .int (a1))] rfl ?_
  unfold e_about at hr
  refine G.go tv_X12_about 1 1 [(0, .ref (gAd E (56))), (1, .int (a0)), (2, .int (a1))] [.ref (gAd E (56))] rfl ?_
  obtain ⟨v1, R1, hv1, hr⟩ := bnd2_s hr
  refine G.callV (56) [] [] (k_X12_notMounted E _ hE R ⟨_, _, r0⟩ v1 R1 hv1) cls_X12 (by omega) (r0.o) cw_X12_403 w_2464 w_96 (Nat.le_of_ble_eq_true rfl) rfl (Nat.le_of_ble_eq_true rfl) (tbd tv_X12_about rfl) (fun v1w f1 q1 => ?_) (fun _ _ h => h.elim)
  obtain ⟨rfl, ⟨az1, sy1, r1⟩, fa1⟩ := q1
  refine G.eqs [.int (v1)] rfl ?_
  refine G.if_ne 30 (tbd tv_X12_about rfl) (by decide) (fun c4 => ?_) (fun c4 => ?_)
  · replace hr := ite_f c4 hr
    refine G.go tv_X12_about 1 31 [(0, .ref (gAd E (56))), (1, .int (a0)), (2, .int (a1))] [.int ((0 : Int32))] rfl ?_
    cases hr
    exact G.iret rfl rfl ⟨rfl, ⟨_, _, r1⟩, (Fr.rf.tr fa1 (fun _ h => h))⟩ (tbd tv_X12_about rfl)
  · replace hr := ite_t c4 hr
    refine G.go tv_X12_about 2 9 [(0, .ref (gAd E (56))), (1, .int (a0)), (2, .int (a1))] [.int (a1), .ref (gAd E (56))] rfl ?_
    refine G.if_lt 18 (tbd tv_X12_about rfl) (by decide) (fun c9 => ?_) (fun c9 => ?_)
    · replace hr := ite_t c9 hr
      refine G.go tv_X12_about 3 24 [(0, .ref (gAd E (56))), (1, .int (a0)), (2, .int (a1))] [.int ((2 : Int32)), .int ((1 : Int32)), .ref (gAd E (56))] rfl ?_
      obtain ⟨v2, R2, hv2, hr⟩ := bnd2_s hr
      refine G.callV (56) [.int ((1 : Int32)), .int ((2 : Int32))] [] (k_X12_refuse E _ hE R1 ⟨_, _, r1⟩ ((1 : Int32)) ((2 : Int32)) v2 R2 hv2) cls_X12 (by omega) (r1.o) cw_X12_385 w_2268 w_53 (Nat.le_of_ble_eq_true rfl) rfl (Nat.le_of_ble_eq_true rfl) (tbd tv_X12_about rfl) (fun v2w f2 q2 => ?_) (fun _ _ h => h.elim)
      obtain ⟨rfl, ⟨az2, sy2, r2⟩, fa2⟩ := q2
      refine G.eqs [.int (v2)] rfl ?_
      refine G.if_eq 32 (tbd tv_X12_about rfl) (by decide) (fun c27 => ?_) (fun c27 => ?_)
      · replace hr := ite_t c27 hr
        refine G.less [(0, .ref (gAd E (56))), (1, .int (a0)), (2, .int (a1))] [0, 1, 2] rfl ?_
        exact l_X12_about_32 E f sz _ hE _ _ _ _ _ hr _ ⟨_, _, r2⟩ ((Fr.rf.tr fa1 (fun _ h => h)).tr fa2 (fun _ h => h))
      · replace hr := ite_f c27 hr
        refine G.go tv_X12_about 1 31 [(0, .ref (gAd E (56))), (1, .int (a0)), (2, .int (a1))] [.int ((0 : Int32))] rfl ?_
        cases hr
        exact G.iret rfl rfl ⟨rfl, ⟨_, _, r2⟩, ((Fr.rf.tr fa1 (fun _ h => h)).tr fa2 (fun _ h => h))⟩ (tbd tv_X12_about rfl)
    · replace hr := ite_f c9 hr
      refine G.go tv_X12_about 2 15 [(0, .ref (gAd E (56))), (1, .int (a0)), (2, .int (a1))] [.int ((6 : Int32)), .int (a1), .ref (gAd E (56))] rfl ?_
      refine G.cmp_le 22 (tbd tv_X12_about rfl) (by decide) (fun c15 => ?_) (fun c15 => ?_)
      · replace hr := ite_t c15 hr
        refine G.go tv_X12_about 2 24 [(0, .ref (gAd E (56))), (1, .int (a0)), (2, .int (a1))] [.int ((2 : Int32)), .int ((0 : Int32)), .ref (gAd E (56))] rfl ?_
        obtain ⟨v3, R3, hv3, hr⟩ := bnd2_s hr
        refine G.callV (56) [.int ((0 : Int32)), .int ((2 : Int32))] [] (k_X12_refuse E _ hE R1 ⟨_, _, r1⟩ ((0 : Int32)) ((2 : Int32)) v3 R3 hv3) cls_X12 (by omega) (r1.o) cw_X12_385 w_2268 w_53 (Nat.le_of_ble_eq_true rfl) rfl (Nat.le_of_ble_eq_true rfl) (tbd tv_X12_about rfl) (fun v3w f3 q3 => ?_) (fun _ _ h => h.elim)
        obtain ⟨rfl, ⟨az3, sy3, r3⟩, fa3⟩ := q3
        refine G.eqs [.int (v3)] rfl ?_
        refine G.if_eq 32 (tbd tv_X12_about rfl) (by decide) (fun c27 => ?_) (fun c27 => ?_)
        · replace hr := ite_t c27 hr
          refine G.less [(0, .ref (gAd E (56))), (1, .int (a0)), (2, .int (a1))] [0, 1, 2] rfl ?_
          exact l_X12_about_32 E f sz _ hE _ _ _ _ _ hr _ ⟨_, _, r3⟩ ((Fr.rf.tr fa1 (fun _ h => h)).tr fa3 (fun _ h => h))
        · replace hr := ite_f c27 hr
          refine G.go tv_X12_about 1 31 [(0, .ref (gAd E (56))), (1, .int (a0)), (2, .int (a1))] [.int ((0 : Int32))] rfl ?_
          cases hr
          exact G.iret rfl rfl ⟨rfl, ⟨_, _, r3⟩, ((Fr.rf.tr fa1 (fun _ h => h)).tr fa3 (fun _ h => h))⟩ (tbd tv_X12_about rfl)
      · replace hr := ite_f c15 hr
        refine G.go tv_X12_about 3 24 [(0, .ref (gAd E (56))), (1, .int (a0)), (2, .int (a1))] [.int ((2 : Int32)), .int ((1 : Int32)), .ref (gAd E (56))] rfl ?_
        obtain ⟨v4, R4, hv4, hr⟩ := bnd2_s hr
        refine G.callV (56) [.int ((1 : Int32)), .int ((2 : Int32))] [] (k_X12_refuse E _ hE R1 ⟨_, _, r1⟩ ((1 : Int32)) ((2 : Int32)) v4 R4 hv4) cls_X12 (by omega) (r1.o) cw_X12_385 w_2268 w_53 (Nat.le_of_ble_eq_true rfl) rfl (Nat.le_of_ble_eq_true rfl) (tbd tv_X12_about rfl) (fun v4w f4 q4 => ?_) (fun _ _ h => h.elim)
        obtain ⟨rfl, ⟨az4, sy4, r4⟩, fa4⟩ := q4
        refine G.eqs [.int (v4)] rfl ?_
        refine G.if_eq 32 (tbd tv_X12_about rfl) (by decide) (fun c27 => ?_) (fun c27 => ?_)
        · replace hr := ite_t c27 hr
          refine G.less [(0, .ref (gAd E (56))), (1, .int (a0)), (2, .int (a1))] [0, 1, 2] rfl ?_
          exact l_X12_about_32 E f sz _ hE _ _ _ _ _ hr _ ⟨_, _, r4⟩ ((Fr.rf.tr fa1 (fun _ h => h)).tr fa4 (fun _ h => h))
        · replace hr := ite_f c27 hr
          refine G.go tv_X12_about 1 31 [(0, .ref (gAd E (56))), (1, .int (a0)), (2, .int (a1))] [.int ((0 : Int32))] rfl ?_
          cases hr
          exact G.iret rfl rfl ⟨rfl, ⟨_, _, r4⟩, ((Fr.rf.tr fa1 (fun _ h => h)).tr fa4 (fun _ h => h))⟩ (tbd tv_X12_about rfl)
def tb_X12_seenCount : List (Nat × Instr × Nat) := [(0, .iconst 0, 1), (1, .istore_n 2, 1), (2, .iload_n 1, 1), (3, .tableswitch 212 0 16 #[81, 86, 118, 152, 157, 162, 212, 212, 212, 212, 212, 212, 212, 212, 212, 167, 199], 81), (84, .aload_n 0, 1), (85, .invokevirtual 320, 3), (88, .ireturn, 1), (89, .iconst 1, 1), (90, .istore_n 3, 1), (91, .iload_n 3, 1), (92, .bipush 64, 2), (94, .if_icmp .gt 25, 3), (97, .aload_n 0, 1), (98, .iload_n 3, 1), (99, .invokevirtual 326, 3), (102, .ifCond .ne 9, 3), (105, .iload_n 2, 1), (106, .iconst 1, 1), (107, .iadd, 1), (108, .goto 4, 3), (111, .iload_n 2, 1), (112, .istore_n 2, 1), (113, .iinc 3 1, 3), (116, .goto (-25), 3), (119, .iload_n 2, 1), (120, .ireturn, 1), (121, .iconst 0, 1), (122, .istore_n 3, 1), (123, .iload_n 3, 1), (124, .sipush 1024, 3), (127, .if_icmp .ge 26, 3), (130, .aload_n 0, 1), (131, .getfield 68, 3), (134, .iload_n 3, 1), (135, .baload, 1), (136, .ifCond .ne 7, 3), (139, .iload_n 2, 1), (140, .goto 6, 3), (143, .iload_n 2, 1), (144, .iconst 1, 1), (145, .iadd, 1), (146, .istore_n 2, 1), (147, .iinc 3 1, 3), (150, .goto (-27), 3), (153, .iload_n 2, 1), (154, .ireturn, 1), (155, .aload_n 0, 1), (156, .getfield 165, 3), (159, .ireturn, 1), (160, .aload_n 0, 1), (161, .getfield 162, 3), (164, .ireturn, 1), (165, .aload_n 0, 1), (166, .getfield 246, 3), (169, .ireturn, 1), (170, .iconst 1, 1), (171, .istore_n 3, 1), (172, .iload_n 3, 1), (173, .bipush 64, 2), (175, .if_icmp .gt 25, 3), (178, .aload_n 0, 1), (179, .iload_n 3, 1), (180, .invokevirtual 370, 3), (183, .ifCond .eq 9, 3), (186, .iload_n 2, 1), (187, .iconst 1, 1), (188, .iadd, 1), (189, .goto 4, 3), (192, .iload_n 2, 1), (193, .istore_n 2, 1), (194, .iinc 3 1, 3), (197, .goto (-25), 3), (200, .iload_n 2, 1), (201, .ireturn, 1), (202, .aload_n 0, 1), (203, .getfield 174, 3), (206, .ifCond .eq 7, 3), (209, .iconst 1, 1), (210, .goto 4, 3), (213, .iconst 0, 1), (214, .ireturn, 1), (215, .bipush 32, 2), (217, .aload_n 0, 1), (218, .iconst 0, 1), (219, .invokevirtual 367, 3), (222, .isub, 1), (223, .ireturn, 1)]
theorem tv_X12_seenCount : Tv cX12_seenCount tb_X12_seenCount := by
  unfold Tv
  decide +kernel
def e_seenCount_215  (R : RfT) : Option (Int32 × RfT) := bnd (e_handlesOn R ((0 : Int32))) (fun v16 => some (((32 : Int32)) - (v16), R))
def e_seenCount_172  : Nat → RfT → Int32 → Int32 → Option (Int32 × RfT)
  | 0, _, _, _ => none
  | n + 1, R, x2, x3 => if ((64 : Int32)) < x3 then some (x2, R) else bnd (e_isLost R x3) (fun v17 => if v17 = 0 then e_seenCount_172  n R x2 (x3 + (1 : Int32)) else e_seenCount_172  n R ((x2) + ((1 : Int32))) (x3 + (1 : Int32)))
def e_seenCount_123  : Nat → RfT → Int32 → Int32 → Option (Int32 × RfT)
  | 0, _, _, _ => none
  | n + 1, R, x2, x3 => if ((1024 : Int32)) ≤ x3 then some (x2, R) else ld (rA R 35) 1024 x3 (fun v15 => if v15 = 0 then e_seenCount_123  n R x2 (x3 + (1 : Int32)) else e_seenCount_123  n R ((x2) + ((1 : Int32))) (x3 + (1 : Int32)))
def e_seenCount_91  : Nat → RfT → Int32 → Int32 → Option (Int32 × RfT)
  | 0, _, _, _ => none
  | n + 1, R, x2, x3 => if ((64 : Int32)) < x3 then some (x2, R) else bnd (e_kind R x3) (fun v14 => if v14 = 0 then e_seenCount_91  n R ((x2) + ((1 : Int32))) (x3 + (1 : Int32)) else e_seenCount_91  n R x2 (x3 + (1 : Int32)))
def e_seenCount  (R : RfT) (a0 : Int32) : Option (Int32 × RfT) := if a0 = (0 : Int32) then bnd2 (e_freeBlocks R) (fun v13 R13 => some (v13, R13)) else if a0 = (1 : Int32) then e_seenCount_91  fuL R ((0 : Int32)) ((1 : Int32)) else if a0 = (2 : Int32) then e_seenCount_123  fuL R ((0 : Int32)) ((0 : Int32)) else if a0 = (3 : Int32) then some (rS R 29, R) else if a0 = (4 : Int32) then some (rS R 25, R) else if a0 = (5 : Int32) then some (rS R 22, R) else if a0 = (6 : Int32) then e_seenCount_215  R else if a0 = (7 : Int32) then e_seenCount_215  R else if a0 = (8 : Int32) then e_seenCount_215  R else if a0 = (9 : Int32) then e_seenCount_215  R else if a0 = (10 : Int32) then e_seenCount_215  R else if a0 = (11 : Int32) then e_seenCount_215  R else if a0 = (12 : Int32) then e_seenCount_215  R else if a0 = (13 : Int32) then e_seenCount_215  R else if a0 = (14 : Int32) then e_seenCount_215  R else if a0 = (15 : Int32) then e_seenCount_172  fuL R ((0 : Int32)) ((1 : Int32)) else if a0 = (16 : Int32) then if (rS R 34) = 0 then some ((0 : Int32), R) else some ((1 : Int32), R) else e_seenCount_215  R
set_option maxRecDepth 100000 in
set_option maxHeartbeats 4000000 in
theorem l_X12_seenCount_215 (E : gE) (f0 : Nat → va_E) (sz : Nat) (QA : Nat → Prop) (hE : 94 ≤ gN E) : ∀ (R : RfT) (r : Int32) (R9 : RfT) (hr : e_seenCount_215  R = some (r, R9)) (f : Nat → va_E) (w : RW E f R) (hf : Fr RfK f0 f), G E (6, yX12_seenCount, 4, (some .int), sz, QA) cX12_seenCount (gO E (6, yX12_seenCount, 4, (some .int), sz, QA) (fun v g => v = some (.int r) ∧ RW E g R9 ∧ Fr RfK f0 g, fun _ _ => False)) 215 [(0, .ref (gAd E (56)))] [] f := by
  intro R r R9 hr f w hf
  obtain ⟨az, sy, r0⟩ := w
  unfold e_seenCount_215 at hr
  refine G.go tv_X12_seenCount 3 219 [(0, .ref (gAd E (56)))] [.int ((0 : Int32)), .ref (gAd E (56)), .int ((32 : Int32))] rfl ?_
  obtain ⟨v16, hv16, hr⟩ := bnd_s hr
  refine G.callV (56) [.int ((0 : Int32))] [.int ((32 : Int32))] (k_X12_handlesOn E _ hE R ⟨_, _, r0⟩ ((0 : Int32)) v16 hv16) cls_X12 (by omega) (r0.o) cw_X12_367 w_2392 w_79 (Nat.le_of_ble_eq_true rfl) rfl (Nat.le_of_ble_eq_true rfl) (tbd tv_X12_seenCount rfl) (fun v16w f16 q16 => ?_) (fun _ _ h => h.elim)
  obtain ⟨rfl, ⟨az16, sy16, r16⟩, fa16⟩ := q16
  refine G.eqs [.int (v16), .int ((32 : Int32))] rfl ?_
  refine G.go tv_X12_seenCount 1 223 [(0, .ref (gAd E (56)))] [.int (((32 : Int32)) - (v16))] rfl ?_
  cases hr
  exact G.iret rfl rfl ⟨rfl, ⟨_, _, r16⟩, (hf.tr fa16 (fun _ h => h))⟩ (tbd tv_X12_seenCount rfl)
set_option maxRecDepth 100000 in
set_option maxHeartbeats 4000000 in
theorem l_X12_seenCount_172 (E : gE) (f0 : Nat → va_E) (sz : Nat) (QA : Nat → Prop) (hE : 94 ≤ gN E) : ∀ (n : Nat), ∀ (R : RfT) (x2 : Int32) (x3 : Int32) (r : Int32) (R9 : RfT) (hr : e_seenCount_172  n R x2 x3 = some (r, R9)) (f : Nat → va_E) (w : RW E f R) (hf : Fr RfK f0 f), G E (6, yX12_seenCount, 4, (some .int), sz, QA) cX12_seenCount (gO E (6, yX12_seenCount, 4, (some .int), sz, QA) (fun v g => v = some (.int r) ∧ RW E g R9 ∧ Fr RfK f0 g, fun _ _ => False)) 172 [(0, .ref (gAd E (56))), (2, .int (x2)), (3, .int (x3))] [] f := by
  intro n
  induction n with
  | zero =>
    intro R x2 x3 r R9 hr f w hf
    cases hr
  | succ n ih =>
    intro R x2 x3 r R9 hr f w hf
    obtain ⟨az, sy, r0⟩ := w
    unfold e_seenCount_172 at hr
    refine G.go tv_X12_seenCount 2 175 [(0, .ref (gAd E (56))), (2, .int (x2)), (3, .int (x3))] [.int ((64 : Int32)), .int (x3)] rfl ?_
    refine G.cmp_gt 200 (tbd tv_X12_seenCount rfl) (by decide) (fun c175 => ?_) (fun c175 => ?_)
    · replace hr := ite_t c175 hr
      refine G.go tv_X12_seenCount 1 201 [(0, .ref (gAd E (56))), (2, .int (x2)), (3, .int (x3))] [.int (x2)] rfl ?_
      cases hr
      exact G.iret rfl rfl ⟨rfl, ⟨_, _, r0⟩, hf⟩ (tbd tv_X12_seenCount rfl)
    · replace hr := ite_f c175 hr
      refine G.go tv_X12_seenCount 2 180 [(0, .ref (gAd E (56))), (2, .int (x2)), (3, .int (x3))] [.int (x3), .ref (gAd E (56))] rfl ?_
      obtain ⟨v17, hv17, hr⟩ := bnd_s hr
      refine G.callV (56) [.int (x3)] [] (k_X12_isLost E _ hE R ⟨_, _, r0⟩ x3 v17 hv17) cls_X12 (by omega) (r0.o) cw_X12_370 w_2365 w_73 (Nat.le_of_ble_eq_true rfl) rfl (Nat.le_of_ble_eq_true rfl) (tbd tv_X12_seenCount rfl) (fun v17w f17 q17 => ?_) (fun _ _ h => h.elim)
      obtain ⟨rfl, ⟨az17, sy17, r17⟩, fa17⟩ := q17
      refine G.eqs [.int (v17)] rfl ?_
      refine G.if_eq 192 (tbd tv_X12_seenCount rfl) (by decide) (fun c183 => ?_) (fun c183 => ?_)
      · replace hr := ite_t c183 hr
        refine G.go tv_X12_seenCount 4 172 [(0, .ref (gAd E (56))), (2, .int (x2)), (3, .int (x3 + (1 : Int32)))] [] rfl ?_
        refine G.less [(0, .ref (gAd E (56))), (2, .int (x2)), (3, .int (x3 + (1 : Int32)))] [0, 1, 2] rfl ?_
        exact ih _ _ _ _ _ hr _ ⟨_, _, r17⟩ (hf.tr fa17 (fun _ h => h))
      · replace hr := ite_f c183 hr
        refine G.go tv_X12_seenCount 7 172 [(0, .ref (gAd E (56))), (2, .int ((x2) + ((1 : Int32)))), (3, .int (x3 + (1 : Int32)))] [] rfl ?_
        refine G.less [(0, .ref (gAd E (56))), (2, .int ((x2) + ((1 : Int32)))), (3, .int (x3 + (1 : Int32)))] [0, 1, 2] rfl ?_
        exact ih _ _ _ _ _ hr _ ⟨_, _, r17⟩ (hf.tr fa17 (fun _ h => h))
set_option maxRecDepth 100000 in
set_option maxHeartbeats 4000000 in
theorem l_X12_seenCount_123 (E : gE) (f0 : Nat → va_E) (sz : Nat) (QA : Nat → Prop) (hE : 94 ≤ gN E) : ∀ (n : Nat), ∀ (R : RfT) (x2 : Int32) (x3 : Int32) (r : Int32) (R9 : RfT) (hr : e_seenCount_123  n R x2 x3 = some (r, R9)) (f : Nat → va_E) (w : RW E f R) (hf : Fr RfK f0 f), G E (6, yX12_seenCount, 4, (some .int), sz, QA) cX12_seenCount (gO E (6, yX12_seenCount, 4, (some .int), sz, QA) (fun v g => v = some (.int r) ∧ RW E g R9 ∧ Fr RfK f0 g, fun _ _ => False)) 123 [(0, .ref (gAd E (56))), (2, .int (x2)), (3, .int (x3))] [] f := by
  intro n
  induction n with
  | zero =>
    intro R x2 x3 r R9 hr f w hf
    cases hr
  | succ n ih =>
    intro R x2 x3 r R9 hr f w hf
    obtain ⟨az, sy, r0⟩ := w
    unfold e_seenCount_123 at hr
    refine G.go tv_X12_seenCount 2 127 [(0, .ref (gAd E (56))), (2, .int (x2)), (3, .int (x3))] [.int ((1024 : Int32)), .int (x3)] rfl ?_
    refine G.cmp_ge 153 (tbd tv_X12_seenCount rfl) (by decide) (fun c127 => ?_) (fun c127 => ?_)
    · replace hr := ite_t c127 hr
      refine G.go tv_X12_seenCount 1 154 [(0, .ref (gAd E (56))), (2, .int (x2)), (3, .int (x3))] [.int (x2)] rfl ?_
      cases hr
      exact G.iret rfl rfl ⟨rfl, ⟨_, _, r0⟩, hf⟩ (tbd tv_X12_seenCount rfl)
    · replace hr := ite_f c127 hr
      refine G.go tv_X12_seenCount 1 131 [(0, .ref (gAd E (56))), (2, .int (x2)), (3, .int (x3))] [.ref (gAd E (56))] rfl ?_
      refine G.rg r0 hE 35 (.ref (gAd E (72))) (by decide) rfl (tbd tv_X12_seenCount rfl) w_2100 ?_
      refine G.go tv_X12_seenCount 1 135 [(0, .ref (gAd E (56))), (2, .int (x2)), (3, .int (x3))] [.int (x3), .ref (gAd E (72))] rfl ?_
      obtain ⟨v15, b15, e15, hr⟩ := ld_s hr
      refine G.baldE (72) (by omega) (r0.a35) b15 e15 (tbd tv_X12_seenCount rfl) ?_
      refine G.if_ne 143 (tbd tv_X12_seenCount rfl) (by decide) (fun c136 => ?_) (fun c136 => ?_)
      · replace hr := ite_f c136 hr
        refine G.go tv_X12_seenCount 6 123 [(0, .ref (gAd E (56))), (2, .int ((x2) + ((1 : Int32)))), (3, .int (x3 + (1 : Int32)))] [] rfl ?_
        refine G.less [(0, .ref (gAd E (56))), (2, .int ((x2) + ((1 : Int32)))), (3, .int (x3 + (1 : Int32)))] [0, 1, 2] rfl ?_
        exact ih _ _ _ _ _ hr _ ⟨_, _, r0⟩ hf
      · replace hr := ite_t c136 hr
        refine G.go tv_X12_seenCount 5 123 [(0, .ref (gAd E (56))), (2, .int (x2)), (3, .int (x3 + (1 : Int32)))] [] rfl ?_
        refine G.less [(0, .ref (gAd E (56))), (2, .int (x2)), (3, .int (x3 + (1 : Int32)))] [0, 1, 2] rfl ?_
        exact ih _ _ _ _ _ hr _ ⟨_, _, r0⟩ hf
set_option maxRecDepth 100000 in
set_option maxHeartbeats 4000000 in
theorem l_X12_seenCount_91 (E : gE) (f0 : Nat → va_E) (sz : Nat) (QA : Nat → Prop) (hE : 94 ≤ gN E) : ∀ (n : Nat), ∀ (R : RfT) (x2 : Int32) (x3 : Int32) (r : Int32) (R9 : RfT) (hr : e_seenCount_91  n R x2 x3 = some (r, R9)) (f : Nat → va_E) (w : RW E f R) (hf : Fr RfK f0 f), G E (6, yX12_seenCount, 4, (some .int), sz, QA) cX12_seenCount (gO E (6, yX12_seenCount, 4, (some .int), sz, QA) (fun v g => v = some (.int r) ∧ RW E g R9 ∧ Fr RfK f0 g, fun _ _ => False)) 91 [(0, .ref (gAd E (56))), (2, .int (x2)), (3, .int (x3))] [] f := by
  intro n
  induction n with
  | zero =>
    intro R x2 x3 r R9 hr f w hf
    cases hr
  | succ n ih =>
    intro R x2 x3 r R9 hr f w hf
    obtain ⟨az, sy, r0⟩ := w
    unfold e_seenCount_91 at hr
    refine G.go tv_X12_seenCount 2 94 [(0, .ref (gAd E (56))), (2, .int (x2)), (3, .int (x3))] [.int ((64 : Int32)), .int (x3)] rfl ?_
    refine G.cmp_gt 119 (tbd tv_X12_seenCount rfl) (by decide) (fun c94 => ?_) (fun c94 => ?_)
    · replace hr := ite_t c94 hr
      refine G.go tv_X12_seenCount 1 120 [(0, .ref (gAd E (56))), (2, .int (x2)), (3, .int (x3))] [.int (x2)] rfl ?_
      cases hr
      exact G.iret rfl rfl ⟨rfl, ⟨_, _, r0⟩, hf⟩ (tbd tv_X12_seenCount rfl)
    · replace hr := ite_f c94 hr
      refine G.go tv_X12_seenCount 2 99 [(0, .ref (gAd E (56))), (2, .int (x2)), (3, .int (x3))] [.int (x3), .ref (gAd E (56))] rfl ?_
      obtain ⟨v14, hv14, hr⟩ := bnd_s hr
      refine G.callV (56) [.int (x3)] [] (k_X12_kind E _ hE R ⟨_, _, r0⟩ x3 v14 hv14) cls_X12 (by omega) (r0.o) cw_X12_326 w_2369 w_74 (Nat.le_of_ble_eq_true rfl) rfl (Nat.le_of_ble_eq_true rfl) (tbd tv_X12_seenCount rfl) (fun v14w f14 q14 => ?_) (fun _ _ h => h.elim)
      obtain ⟨rfl, ⟨az14, sy14, r14⟩, fa14⟩ := q14
      refine G.eqs [.int (v14)] rfl ?_
      refine G.if_ne 111 (tbd tv_X12_seenCount rfl) (by decide) (fun c102 => ?_) (fun c102 => ?_)
      · replace hr := ite_f c102 hr
        refine G.go tv_X12_seenCount 4 91 [(0, .ref (gAd E (56))), (2, .int (x2)), (3, .int (x3 + (1 : Int32)))] [] rfl ?_
        refine G.less [(0, .ref (gAd E (56))), (2, .int (x2)), (3, .int (x3 + (1 : Int32)))] [0, 1, 2] rfl ?_
        exact ih _ _ _ _ _ hr _ ⟨_, _, r14⟩ (hf.tr fa14 (fun _ h => h))
      · replace hr := ite_t c102 hr
        refine G.go tv_X12_seenCount 7 91 [(0, .ref (gAd E (56))), (2, .int ((x2) + ((1 : Int32)))), (3, .int (x3 + (1 : Int32)))] [] rfl ?_
        refine G.less [(0, .ref (gAd E (56))), (2, .int ((x2) + ((1 : Int32)))), (3, .int (x3 + (1 : Int32)))] [0, 1, 2] rfl ?_
        exact ih _ _ _ _ _ hr _ ⟨_, _, r14⟩ (hf.tr fa14 (fun _ h => h))
set_option maxRecDepth 100000 in
set_option maxHeartbeats 4000000 in
theorem k_X12_seenCount (E : gE) (f : Nat → va_E) (hE : 94 ≤ gN E) (R : RfT) (w : RW E f R) (a0 : Int32) (r : Int32) (R9 : RfT) (hr : e_seenCount R a0 = some (r, R9)) : Ct E 6 yX12_seenCount cX12_seenCount 4 (some .int) [.ref (gAd E (56)), .int (a0)] f (fun v g => v = some (.int r) ∧ RW E g R9 ∧ Fr RfK f g, fun _ _ => False) := by
  obtain ⟨az, sy, r0⟩ := w
  refine Ct.of (by decide) (Nat.le_of_ble_eq_true rfl) (fun sz => ?_)
  refine G.eql [(0, .ref (gAd E (56))), (1, .int (a0))] rfl ?_
  unfold e_seenCount at hr
  refine G.go tv_X12_seenCount 3 3 [(0, .ref (gAd E (56))), (1, .int (a0)), (2, .int ((0 : Int32)))] [.int (a0)] rfl ?_
  by_cases c3_0 : a0 = (0 : Int32)
  · replace hr := ite_t c3_0 hr
    refine G.tswI 84 (81) (tbd tv_X12_seenCount rfl) (by rw [c3_0]; decide) (by rw [c3_0]; decide) (by rw [c3_0]; decide) (by decide) ?_
    refine G.go tv_X12_seenCount 1 85 [(0, .ref (gAd E (56))), (1, .int (a0)), (2, .int ((0 : Int32)))] [.ref (gAd E (56))] rfl ?_
    obtain ⟨v13, R13, hv13, hr⟩ := bnd2_s hr
    refine G.callV (56) [] [] (k_X12_freeBlocks E _ hE R ⟨_, _, r0⟩ v13 R13 hv13) cls_X12 (by omega) (r0.o) cw_X12_320 w_2539 w_113 (Nat.le_of_ble_eq_true rfl) rfl (Nat.le_of_ble_eq_true rfl) (tbd tv_X12_seenCount rfl) (fun v13w f13 q13 => ?_) (fun _ _ h => h.elim)
    obtain ⟨rfl, ⟨az13, sy13, r13⟩, fa13⟩ := q13
    refine G.eqs [.int (v13)] rfl ?_
    cases hr
    exact G.iret rfl rfl ⟨rfl, ⟨_, _, r13⟩, (Fr.rf.tr fa13 (fun _ h => h))⟩ (tbd tv_X12_seenCount rfl)
  replace hr := ite_f c3_0 hr
  by_cases c3_1 : a0 = (1 : Int32)
  · replace hr := ite_t c3_1 hr
    refine G.tswI 89 (86) (tbd tv_X12_seenCount rfl) (by rw [c3_1]; decide) (by rw [c3_1]; decide) (by rw [c3_1]; decide) (by decide) ?_
    refine G.go tv_X12_seenCount 2 91 [(0, .ref (gAd E (56))), (1, .int (a0)), (2, .int ((0 : Int32))), (3, .int ((1 : Int32)))] [] rfl ?_
    refine G.less [(0, .ref (gAd E (56))), (2, .int ((0 : Int32))), (3, .int ((1 : Int32)))] [0, 2, 3] rfl ?_
    exact l_X12_seenCount_91 E f sz _ hE _ _ _ _ _ _ hr _ ⟨_, _, r0⟩ Fr.rf
  replace hr := ite_f c3_1 hr
  by_cases c3_2 : a0 = (2 : Int32)
  · replace hr := ite_t c3_2 hr
    refine G.tswI 121 (118) (tbd tv_X12_seenCount rfl) (by rw [c3_2]; decide) (by rw [c3_2]; decide) (by rw [c3_2]; decide) (by decide) ?_
    refine G.go tv_X12_seenCount 2 123 [(0, .ref (gAd E (56))), (1, .int (a0)), (2, .int ((0 : Int32))), (3, .int ((0 : Int32)))] [] rfl ?_
    refine G.less [(0, .ref (gAd E (56))), (2, .int ((0 : Int32))), (3, .int ((0 : Int32)))] [0, 2, 3] rfl ?_
    exact l_X12_seenCount_123 E f sz _ hE _ _ _ _ _ _ hr _ ⟨_, _, r0⟩ Fr.rf
  replace hr := ite_f c3_2 hr
  by_cases c3_3 : a0 = (3 : Int32)
  · replace hr := ite_t c3_3 hr
    refine G.tswI 155 (152) (tbd tv_X12_seenCount rfl) (by rw [c3_3]; decide) (by rw [c3_3]; decide) (by rw [c3_3]; decide) (by decide) ?_
    refine G.go tv_X12_seenCount 1 156 [(0, .ref (gAd E (56))), (1, .int (a0)), (2, .int ((0 : Int32)))] [.ref (gAd E (56))] rfl ?_
    refine G.rg r0 hE 29 (.int (rS R 29)) (by decide) rfl (tbd tv_X12_seenCount rfl) w_2094 ?_
    cases hr
    exact G.iret rfl rfl ⟨rfl, ⟨_, _, r0⟩, Fr.rf⟩ (tbd tv_X12_seenCount rfl)
  replace hr := ite_f c3_3 hr
  by_cases c3_4 : a0 = (4 : Int32)
  · replace hr := ite_t c3_4 hr
    refine G.tswI 160 (157) (tbd tv_X12_seenCount rfl) (by rw [c3_4]; decide) (by rw [c3_4]; decide) (by rw [c3_4]; decide) (by decide) ?_
    refine G.go tv_X12_seenCount 1 161 [(0, .ref (gAd E (56))), (1, .int (a0)), (2, .int ((0 : Int32)))] [.ref (gAd E (56))] rfl ?_
    refine G.rg r0 hE 25 (.int (rS R 25)) (by decide) rfl (tbd tv_X12_seenCount rfl) w_2090 ?_
    cases hr
    exact G.iret rfl rfl ⟨rfl, ⟨_, _, r0⟩, Fr.rf⟩ (tbd tv_X12_seenCount rfl)
  replace hr := ite_f c3_4 hr
  by_cases c3_5 : a0 = (5 : Int32)
  · replace hr := ite_t c3_5 hr
    refine G.tswI 165 (162) (tbd tv_X12_seenCount rfl) (by rw [c3_5]; decide) (by rw [c3_5]; decide) (by rw [c3_5]; decide) (by decide) ?_
    refine G.go tv_X12_seenCount 1 166 [(0, .ref (gAd E (56))), (1, .int (a0)), (2, .int ((0 : Int32)))] [.ref (gAd E (56))] rfl ?_
    refine G.rg r0 hE 22 (.int (rS R 22)) (by decide) rfl (tbd tv_X12_seenCount rfl) w_2087 ?_
    cases hr
    exact G.iret rfl rfl ⟨rfl, ⟨_, _, r0⟩, Fr.rf⟩ (tbd tv_X12_seenCount rfl)
  replace hr := ite_f c3_5 hr
  by_cases c3_6 : a0 = (6 : Int32)
  · replace hr := ite_t c3_6 hr
    refine G.tswI 215 (212) (tbd tv_X12_seenCount rfl) (by rw [c3_6]; decide) (by rw [c3_6]; decide) (by rw [c3_6]; decide) (by decide) ?_
    refine G.less [(0, .ref (gAd E (56)))] [0] rfl ?_
    exact l_X12_seenCount_215 E f sz _ hE _ _ _ hr _ ⟨_, _, r0⟩ Fr.rf
  replace hr := ite_f c3_6 hr
  by_cases c3_7 : a0 = (7 : Int32)
  · replace hr := ite_t c3_7 hr
    refine G.tswI 215 (212) (tbd tv_X12_seenCount rfl) (by rw [c3_7]; decide) (by rw [c3_7]; decide) (by rw [c3_7]; decide) (by decide) ?_
    refine G.less [(0, .ref (gAd E (56)))] [0] rfl ?_
    exact l_X12_seenCount_215 E f sz _ hE _ _ _ hr _ ⟨_, _, r0⟩ Fr.rf
  replace hr := ite_f c3_7 hr
  by_cases c3_8 : a0 = (8 : Int32)
  · replace hr := ite_t c3_8 hr
    refine G.tswI 215 (212) (tbd tv_X12_seenCount rfl) (by rw [c3_8]; decide) (by rw [c3_8]; decide) (by rw [c3_8]; decide) (by decide) ?_
    refine G.less [(0, .ref (gAd E (56)))] [0] rfl ?_
    exact l_X12_seenCount_215 E f sz _ hE _ _ _ hr _ ⟨_, _, r0⟩ Fr.rf
  replace hr := ite_f c3_8 hr
  by_cases c3_9 : a0 = (9 : Int32)
  · replace hr := ite_t c3_9 hr
    refine G.tswI 215 (212) (tbd tv_X12_seenCount rfl) (by rw [c3_9]; decide) (by rw [c3_9]; decide) (by rw [c3_9]; decide) (by decide) ?_
    refine G.less [(0, .ref (gAd E (56)))] [0] rfl ?_
    exact l_X12_seenCount_215 E f sz _ hE _ _ _ hr _ ⟨_, _, r0⟩ Fr.rf
  replace hr := ite_f c3_9 hr
  by_cases c3_10 : a0 = (10 : Int32)
  · replace hr := ite_t c3_10 hr
    refine G.tswI 215 (212) (tbd tv_X12_seenCount rfl) (by rw [c3_10]; decide) (by rw [c3_10]; decide) (by rw [c3_10]; decide) (by decide) ?_
    refine G.less [(0, .ref (gAd E (56)))] [0] rfl ?_
    exact l_X12_seenCount_215 E f sz _ hE _ _ _ hr _ ⟨_, _, r0⟩ Fr.rf
  replace hr := ite_f c3_10 hr
  by_cases c3_11 : a0 = (11 : Int32)
  · replace hr := ite_t c3_11 hr
    refine G.tswI 215 (212) (tbd tv_X12_seenCount rfl) (by rw [c3_11]; decide) (by rw [c3_11]; decide) (by rw [c3_11]; decide) (by decide) ?_
    refine G.less [(0, .ref (gAd E (56)))] [0] rfl ?_
    exact l_X12_seenCount_215 E f sz _ hE _ _ _ hr _ ⟨_, _, r0⟩ Fr.rf
  replace hr := ite_f c3_11 hr
  by_cases c3_12 : a0 = (12 : Int32)
  · replace hr := ite_t c3_12 hr
    refine G.tswI 215 (212) (tbd tv_X12_seenCount rfl) (by rw [c3_12]; decide) (by rw [c3_12]; decide) (by rw [c3_12]; decide) (by decide) ?_
    refine G.less [(0, .ref (gAd E (56)))] [0] rfl ?_
    exact l_X12_seenCount_215 E f sz _ hE _ _ _ hr _ ⟨_, _, r0⟩ Fr.rf
  replace hr := ite_f c3_12 hr
  by_cases c3_13 : a0 = (13 : Int32)
  · replace hr := ite_t c3_13 hr
    refine G.tswI 215 (212) (tbd tv_X12_seenCount rfl) (by rw [c3_13]; decide) (by rw [c3_13]; decide) (by rw [c3_13]; decide) (by decide) ?_
    refine G.less [(0, .ref (gAd E (56)))] [0] rfl ?_
    exact l_X12_seenCount_215 E f sz _ hE _ _ _ hr _ ⟨_, _, r0⟩ Fr.rf
  replace hr := ite_f c3_13 hr
  by_cases c3_14 : a0 = (14 : Int32)
  · replace hr := ite_t c3_14 hr
    refine G.tswI 215 (212) (tbd tv_X12_seenCount rfl) (by rw [c3_14]; decide) (by rw [c3_14]; decide) (by rw [c3_14]; decide) (by decide) ?_
    refine G.less [(0, .ref (gAd E (56)))] [0] rfl ?_
    exact l_X12_seenCount_215 E f sz _ hE _ _ _ hr _ ⟨_, _, r0⟩ Fr.rf
  replace hr := ite_f c3_14 hr
  by_cases c3_15 : a0 = (15 : Int32)
  · replace hr := ite_t c3_15 hr
    refine G.tswI 170 (167) (tbd tv_X12_seenCount rfl) (by rw [c3_15]; decide) (by rw [c3_15]; decide) (by rw [c3_15]; decide) (by decide) ?_
    refine G.go tv_X12_seenCount 2 172 [(0, .ref (gAd E (56))), (1, .int (a0)), (2, .int ((0 : Int32))), (3, .int ((1 : Int32)))] [] rfl ?_
    refine G.less [(0, .ref (gAd E (56))), (2, .int ((0 : Int32))), (3, .int ((1 : Int32)))] [0, 2, 3] rfl ?_
    exact l_X12_seenCount_172 E f sz _ hE _ _ _ _ _ _ hr _ ⟨_, _, r0⟩ Fr.rf
  replace hr := ite_f c3_15 hr
  by_cases c3_16 : a0 = (16 : Int32)
  · replace hr := ite_t c3_16 hr
    refine G.tswI 202 (199) (tbd tv_X12_seenCount rfl) (by rw [c3_16]; decide) (by rw [c3_16]; decide) (by rw [c3_16]; decide) (by decide) ?_
    refine G.go tv_X12_seenCount 1 203 [(0, .ref (gAd E (56))), (1, .int (a0)), (2, .int ((0 : Int32)))] [.ref (gAd E (56))] rfl ?_
    refine G.rg r0 hE 34 (.int (rS R 34)) (by decide) rfl (tbd tv_X12_seenCount rfl) w_2099 ?_
    refine G.if_eq 213 (tbd tv_X12_seenCount rfl) (by decide) (fun c206 => ?_) (fun c206 => ?_)
    · replace hr := ite_t c206 hr
      refine G.go tv_X12_seenCount 1 214 [(0, .ref (gAd E (56))), (1, .int (a0)), (2, .int ((0 : Int32)))] [.int ((0 : Int32))] rfl ?_
      cases hr
      exact G.iret rfl rfl ⟨rfl, ⟨_, _, r0⟩, Fr.rf⟩ (tbd tv_X12_seenCount rfl)
    · replace hr := ite_f c206 hr
      refine G.go tv_X12_seenCount 2 214 [(0, .ref (gAd E (56))), (1, .int (a0)), (2, .int ((0 : Int32)))] [.int ((1 : Int32))] rfl ?_
      cases hr
      exact G.iret rfl rfl ⟨rfl, ⟨_, _, r0⟩, Fr.rf⟩ (tbd tv_X12_seenCount rfl)
  replace hr := ite_f c3_16 hr
  have nc3_0 : a0.toInt ≠ 0 := fun e => c3_0 (Int32.toInt_inj.mp (e.trans (by decide)))
  have nc3_1 : a0.toInt ≠ 1 := fun e => c3_1 (Int32.toInt_inj.mp (e.trans (by decide)))
  have nc3_2 : a0.toInt ≠ 2 := fun e => c3_2 (Int32.toInt_inj.mp (e.trans (by decide)))
  have nc3_3 : a0.toInt ≠ 3 := fun e => c3_3 (Int32.toInt_inj.mp (e.trans (by decide)))
  have nc3_4 : a0.toInt ≠ 4 := fun e => c3_4 (Int32.toInt_inj.mp (e.trans (by decide)))
  have nc3_5 : a0.toInt ≠ 5 := fun e => c3_5 (Int32.toInt_inj.mp (e.trans (by decide)))
  have nc3_6 : a0.toInt ≠ 6 := fun e => c3_6 (Int32.toInt_inj.mp (e.trans (by decide)))
  have nc3_7 : a0.toInt ≠ 7 := fun e => c3_7 (Int32.toInt_inj.mp (e.trans (by decide)))
  have nc3_8 : a0.toInt ≠ 8 := fun e => c3_8 (Int32.toInt_inj.mp (e.trans (by decide)))
  have nc3_9 : a0.toInt ≠ 9 := fun e => c3_9 (Int32.toInt_inj.mp (e.trans (by decide)))
  have nc3_10 : a0.toInt ≠ 10 := fun e => c3_10 (Int32.toInt_inj.mp (e.trans (by decide)))
  have nc3_11 : a0.toInt ≠ 11 := fun e => c3_11 (Int32.toInt_inj.mp (e.trans (by decide)))
  have nc3_12 : a0.toInt ≠ 12 := fun e => c3_12 (Int32.toInt_inj.mp (e.trans (by decide)))
  have nc3_13 : a0.toInt ≠ 13 := fun e => c3_13 (Int32.toInt_inj.mp (e.trans (by decide)))
  have nc3_14 : a0.toInt ≠ 14 := fun e => c3_14 (Int32.toInt_inj.mp (e.trans (by decide)))
  have nc3_15 : a0.toInt ≠ 15 := fun e => c3_15 (Int32.toInt_inj.mp (e.trans (by decide)))
  have nc3_16 : a0.toInt ≠ 16 := fun e => c3_16 (Int32.toInt_inj.mp (e.trans (by decide)))
  refine G.tswO 215 (tbd tv_X12_seenCount rfl) (by omega) (by decide) ?_
  refine G.less [(0, .ref (gAd E (56)))] [0] rfl ?_
  exact l_X12_seenCount_215 E f sz _ hE _ _ _ hr _ ⟨_, _, r0⟩ Fr.rf
theorem w_2828 : Cond.methodLink "LedgerFilesModel" 535 yX12_seenCount ∈ TB := tp_12 42 (by decide +kernel) rfl
theorem w_2831 : Cond.code yX12_seenCount prog_14_method_146_code 4 (some .int) ∈ TB := tp_12 45 rfl rfl
theorem cw_X12_535 : Cw RX12 535 yX12_seenCount cX12_seenCount 4 (some .int) 1 := ⟨w_2828, w_2831, w_161, by decide +kernel, by decide +kernel, by decide⟩
theorem w_2830 : Cond.instanceMethod yX12_seenCount ∈ TB := tp_12 44 (by decide +kernel) rfl
theorem w_145 : Cond.selects "LedgerFilesModel" yX12_seenCount yX12_seenCount ∈ TB := tp_0 145 (by decide +kernel) rfl
def e_count_25  (R : RfT) (x1 : Int32) : Option (Int32 × RfT) := if x1 < ((6 : Int32)) then if (rS R 21) = 0 then some ((0 : Int32), R) else bnd2 (e_seenCount R x1) (fun v21 R21 => some (v21, R21)) else if x1 ≤ ((14 : Int32)) then if x1 = (6 : Int32) then some (rS R 18, R) else if x1 = (7 : Int32) then some (rS R 10, R) else if x1 = (8 : Int32) then some (rS R 13, R) else if x1 = (9 : Int32) then some (rS R 14, R) else if x1 = (10 : Int32) then some (rS R 12, R) else if x1 = (11 : Int32) then some (rS R 20, R) else if x1 = (12 : Int32) then some (rS R 5, R) else if x1 = (13 : Int32) then if (rS R 21) = 0 then some ((0 : Int32), R) else some ((1 : Int32), R) else if (rS R 11) = 0 then some ((0 : Int32), R) else some ((1 : Int32), R) else if (rS R 21) = 0 then some ((0 : Int32), R) else bnd2 (e_seenCount R x1) (fun v22 R22 => some (v22, R22))
def e_count  (R : RfT) (a0 : Int32) : Option (Int32 × RfT) := if a0 < 0 then bnd2 (e_refuse R ((1 : Int32)) ((1 : Int32))) (fun v18 R18 => if v18 = 0 then e_count_25  R18 a0 else some ((0 : Int32), R18)) else if a0 ≤ ((17 : Int32)) then bnd2 (e_refuse R ((0 : Int32)) ((1 : Int32))) (fun v19 R19 => if v19 = 0 then e_count_25  R19 a0 else some ((0 : Int32), R19)) else bnd2 (e_refuse R ((1 : Int32)) ((1 : Int32))) (fun v20 R20 => if v20 = 0 then e_count_25  R20 a0 else some ((0 : Int32), R20))
set_option maxRecDepth 100000 in
set_option maxHeartbeats 4000000 in
theorem l_X12_count_25 (E : gE) (f0 : Nat → va_E) (sz : Nat) (QA : Nat → Prop) (hE : 94 ≤ gN E) : ∀ (R : RfT) (x1 : Int32) (r : Int32) (R9 : RfT) (hr : e_count_25  R x1 = some (r, R9)) (f : Nat → va_E) (w : RW E f R) (hf : Fr RfK f0 f), G E (7, yX12_count, 2, (some .int), sz, QA) cX12_count (gO E (7, yX12_count, 2, (some .int), sz, QA) (fun v g => v = some (.int r) ∧ RW E g R9 ∧ Fr RfK f0 g, fun _ _ => False)) 25 [(0, .ref (gAd E (56))), (1, .int (x1))] [] f := by
  intro R x1 r R9 hr f w hf
  obtain ⟨az, sy, r0⟩ := w
  unfold e_count_25 at hr
  refine G.go tv_X12_count 2 28 [(0, .ref (gAd E (56))), (1, .int (x1))] [.int ((6 : Int32)), .int (x1)] rfl ?_
  refine G.cmp_lt 37 (tbd tv_X12_count rfl) (by decide) (fun c28 => ?_) (fun c28 => ?_)
  · replace hr := ite_t c28 hr
    refine G.go tv_X12_count 1 38 [(0, .ref (gAd E (56))), (1, .int (x1))] [.ref (gAd E (56))] rfl ?_
    refine G.rg r0 hE 21 (.int (rS R 21)) (by decide) rfl (tbd tv_X12_count rfl) w_2086 ?_
    refine G.if_eq 52 (tbd tv_X12_count rfl) (by decide) (fun c41 => ?_) (fun c41 => ?_)
    · replace hr := ite_t c41 hr
      refine G.go tv_X12_count 1 53 [(0, .ref (gAd E (56))), (1, .int (x1))] [.int ((0 : Int32))] rfl ?_
      cases hr
      exact G.iret rfl rfl ⟨rfl, ⟨_, _, r0⟩, hf⟩ (tbd tv_X12_count rfl)
    · replace hr := ite_f c41 hr
      refine G.go tv_X12_count 2 46 [(0, .ref (gAd E (56))), (1, .int (x1))] [.int (x1), .ref (gAd E (56))] rfl ?_
      obtain ⟨v21, R21, hv21, hr⟩ := bnd2_s hr
      refine G.callV (56) [.int (x1)] [] (k_X12_seenCount E _ hE R ⟨_, _, r0⟩ x1 v21 R21 hv21) cls_X12 (by omega) (r0.o) cw_X12_535 w_2830 w_145 (Nat.le_of_ble_eq_true rfl) rfl (Nat.le_of_ble_eq_true rfl) (tbd tv_X12_count rfl) (fun v21w f21 q21 => ?_) (fun _ _ h => h.elim)
      obtain ⟨rfl, ⟨az21, sy21, r21⟩, fa21⟩ := q21
      refine G.eqs [.int (v21)] rfl ?_
      refine G.go tv_X12_count 1 53 [(0, .ref (gAd E (56))), (1, .int (x1))] [.int (v21)] rfl ?_
      cases hr
      exact G.iret rfl rfl ⟨rfl, ⟨_, _, r21⟩, (hf.tr fa21 (fun _ h => h))⟩ (tbd tv_X12_count rfl)
  · replace hr := ite_f c28 hr
    refine G.go tv_X12_count 2 34 [(0, .ref (gAd E (56))), (1, .int (x1))] [.int ((14 : Int32)), .int (x1)] rfl ?_
    refine G.cmp_le 54 (tbd tv_X12_count rfl) (by decide) (fun c34 => ?_) (fun c34 => ?_)
    · replace hr := ite_t c34 hr
      refine G.go tv_X12_count 1 55 [(0, .ref (gAd E (56))), (1, .int (x1))] [.int (x1)] rfl ?_
      by_cases c55_6 : x1 = (6 : Int32)
      · replace hr := ite_t c55_6 hr
        refine G.tswI 100 (45) (tbd tv_X12_count rfl) (by rw [c55_6]; decide) (by rw [c55_6]; decide) (by rw [c55_6]; decide) (by decide) ?_
        refine G.go tv_X12_count 1 101 [(0, .ref (gAd E (56))), (1, .int (x1))] [.ref (gAd E (56))] rfl ?_
        refine G.rg r0 hE 18 (.int (rS R 18)) (by decide) rfl (tbd tv_X12_count rfl) w_2083 ?_
        cases hr
        exact G.iret rfl rfl ⟨rfl, ⟨_, _, r0⟩, hf⟩ (tbd tv_X12_count rfl)
      replace hr := ite_f c55_6 hr
      by_cases c55_7 : x1 = (7 : Int32)
      · replace hr := ite_t c55_7 hr
        refine G.tswI 105 (50) (tbd tv_X12_count rfl) (by rw [c55_7]; decide) (by rw [c55_7]; decide) (by rw [c55_7]; decide) (by decide) ?_
        refine G.go tv_X12_count 1 106 [(0, .ref (gAd E (56))), (1, .int (x1))] [.ref (gAd E (56))] rfl ?_
        refine G.rg r0 hE 10 (.int (rS R 10)) (by decide) rfl (tbd tv_X12_count rfl) w_2075 ?_
        cases hr
        exact G.iret rfl rfl ⟨rfl, ⟨_, _, r0⟩, hf⟩ (tbd tv_X12_count rfl)
      replace hr := ite_f c55_7 hr
      by_cases c55_8 : x1 = (8 : Int32)
      · replace hr := ite_t c55_8 hr
        refine G.tswI 110 (55) (tbd tv_X12_count rfl) (by rw [c55_8]; decide) (by rw [c55_8]; decide) (by rw [c55_8]; decide) (by decide) ?_
        refine G.go tv_X12_count 1 111 [(0, .ref (gAd E (56))), (1, .int (x1))] [.ref (gAd E (56))] rfl ?_
        refine G.rg r0 hE 13 (.int (rS R 13)) (by decide) rfl (tbd tv_X12_count rfl) w_2078 ?_
        cases hr
        exact G.iret rfl rfl ⟨rfl, ⟨_, _, r0⟩, hf⟩ (tbd tv_X12_count rfl)
      replace hr := ite_f c55_8 hr
      by_cases c55_9 : x1 = (9 : Int32)
      · replace hr := ite_t c55_9 hr
        refine G.tswI 115 (60) (tbd tv_X12_count rfl) (by rw [c55_9]; decide) (by rw [c55_9]; decide) (by rw [c55_9]; decide) (by decide) ?_
        refine G.go tv_X12_count 1 116 [(0, .ref (gAd E (56))), (1, .int (x1))] [.ref (gAd E (56))] rfl ?_
        refine G.rg r0 hE 14 (.int (rS R 14)) (by decide) rfl (tbd tv_X12_count rfl) w_2079 ?_
        cases hr
        exact G.iret rfl rfl ⟨rfl, ⟨_, _, r0⟩, hf⟩ (tbd tv_X12_count rfl)
      replace hr := ite_f c55_9 hr
      by_cases c55_10 : x1 = (10 : Int32)
      · replace hr := ite_t c55_10 hr
        refine G.tswI 120 (65) (tbd tv_X12_count rfl) (by rw [c55_10]; decide) (by rw [c55_10]; decide) (by rw [c55_10]; decide) (by decide) ?_
        refine G.go tv_X12_count 1 121 [(0, .ref (gAd E (56))), (1, .int (x1))] [.ref (gAd E (56))] rfl ?_
        refine G.rg r0 hE 12 (.int (rS R 12)) (by decide) rfl (tbd tv_X12_count rfl) w_2077 ?_
        cases hr
        exact G.iret rfl rfl ⟨rfl, ⟨_, _, r0⟩, hf⟩ (tbd tv_X12_count rfl)
      replace hr := ite_f c55_10 hr
      by_cases c55_11 : x1 = (11 : Int32)
      · replace hr := ite_t c55_11 hr
        refine G.tswI 125 (70) (tbd tv_X12_count rfl) (by rw [c55_11]; decide) (by rw [c55_11]; decide) (by rw [c55_11]; decide) (by decide) ?_
        refine G.go tv_X12_count 1 126 [(0, .ref (gAd E (56))), (1, .int (x1))] [.ref (gAd E (56))] rfl ?_
        refine G.rg r0 hE 20 (.int (rS R 20)) (by decide) rfl (tbd tv_X12_count rfl) w_2085 ?_
        cases hr
        exact G.iret rfl rfl ⟨rfl, ⟨_, _, r0⟩, hf⟩ (tbd tv_X12_count rfl)
      replace hr := ite_f c55_11 hr
      by_cases c55_12 : x1 = (12 : Int32)
      · replace hr := ite_t c55_12 hr
        refine G.tswI 130 (75) (tbd tv_X12_count rfl) (by rw [c55_12]; decide) (by rw [c55_12]; decide) (by rw [c55_12]; decide) (by decide) ?_
        refine G.go tv_X12_count 1 131 [(0, .ref (gAd E (56))), (1, .int (x1))] [.ref (gAd E (56))] rfl ?_
        refine G.rg r0 hE 5 (.int (rS R 5)) (by decide) rfl (tbd tv_X12_count rfl) w_2070 ?_
        cases hr
        exact G.iret rfl rfl ⟨rfl, ⟨_, _, r0⟩, hf⟩ (tbd tv_X12_count rfl)
      replace hr := ite_f c55_12 hr
      by_cases c55_13 : x1 = (13 : Int32)
      · replace hr := ite_t c55_13 hr
        refine G.tswI 135 (80) (tbd tv_X12_count rfl) (by rw [c55_13]; decide) (by rw [c55_13]; decide) (by rw [c55_13]; decide) (by decide) ?_
        refine G.go tv_X12_count 1 136 [(0, .ref (gAd E (56))), (1, .int (x1))] [.ref (gAd E (56))] rfl ?_
        refine G.rg r0 hE 21 (.int (rS R 21)) (by decide) rfl (tbd tv_X12_count rfl) w_2086 ?_
        refine G.if_eq 146 (tbd tv_X12_count rfl) (by decide) (fun c139 => ?_) (fun c139 => ?_)
        · replace hr := ite_t c139 hr
          refine G.go tv_X12_count 1 147 [(0, .ref (gAd E (56))), (1, .int (x1))] [.int ((0 : Int32))] rfl ?_
          cases hr
          exact G.iret rfl rfl ⟨rfl, ⟨_, _, r0⟩, hf⟩ (tbd tv_X12_count rfl)
        · replace hr := ite_f c139 hr
          refine G.go tv_X12_count 2 147 [(0, .ref (gAd E (56))), (1, .int (x1))] [.int ((1 : Int32))] rfl ?_
          cases hr
          exact G.iret rfl rfl ⟨rfl, ⟨_, _, r0⟩, hf⟩ (tbd tv_X12_count rfl)
      replace hr := ite_f c55_13 hr
      have nc55_6 : x1.toInt ≠ 6 := fun e => c55_6 (Int32.toInt_inj.mp (e.trans (by decide)))
      have nc55_7 : x1.toInt ≠ 7 := fun e => c55_7 (Int32.toInt_inj.mp (e.trans (by decide)))
      have nc55_8 : x1.toInt ≠ 8 := fun e => c55_8 (Int32.toInt_inj.mp (e.trans (by decide)))
      have nc55_9 : x1.toInt ≠ 9 := fun e => c55_9 (Int32.toInt_inj.mp (e.trans (by decide)))
      have nc55_10 : x1.toInt ≠ 10 := fun e => c55_10 (Int32.toInt_inj.mp (e.trans (by decide)))
      have nc55_11 : x1.toInt ≠ 11 := fun e => c55_11 (Int32.toInt_inj.mp (e.trans (by decide)))
      have nc55_12 : x1.toInt ≠ 12 := fun e => c55_12 (Int32.toInt_inj.mp (e.trans (by decide)))
      have nc55_13 : x1.toInt ≠ 13 := fun e => c55_13 (Int32.toInt_inj.mp (e.trans (by decide)))
      refine G.tswO 148 (tbd tv_X12_count rfl) (by omega) (by decide) ?_
      refine G.go tv_X12_count 1 149 [(0, .ref (gAd E (56))), (1, .int (x1))] [.ref (gAd E (56))] rfl ?_
      refine G.rg r0 hE 11 (.int (rS R 11)) (by decide) rfl (tbd tv_X12_count rfl) w_2076 ?_
      refine G.if_eq 159 (tbd tv_X12_count rfl) (by decide) (fun c152 => ?_) (fun c152 => ?_)
      · replace hr := ite_t c152 hr
        refine G.go tv_X12_count 1 160 [(0, .ref (gAd E (56))), (1, .int (x1))] [.int ((0 : Int32))] rfl ?_
        cases hr
        exact G.iret rfl rfl ⟨rfl, ⟨_, _, r0⟩, hf⟩ (tbd tv_X12_count rfl)
      · replace hr := ite_f c152 hr
        refine G.go tv_X12_count 2 160 [(0, .ref (gAd E (56))), (1, .int (x1))] [.int ((1 : Int32))] rfl ?_
        cases hr
        exact G.iret rfl rfl ⟨rfl, ⟨_, _, r0⟩, hf⟩ (tbd tv_X12_count rfl)
    · replace hr := ite_f c34 hr
      refine G.go tv_X12_count 1 38 [(0, .ref (gAd E (56))), (1, .int (x1))] [.ref (gAd E (56))] rfl ?_
      refine G.rg r0 hE 21 (.int (rS R 21)) (by decide) rfl (tbd tv_X12_count rfl) w_2086 ?_
      refine G.if_eq 52 (tbd tv_X12_count rfl) (by decide) (fun c41 => ?_) (fun c41 => ?_)
      · replace hr := ite_t c41 hr
        refine G.go tv_X12_count 1 53 [(0, .ref (gAd E (56))), (1, .int (x1))] [.int ((0 : Int32))] rfl ?_
        cases hr
        exact G.iret rfl rfl ⟨rfl, ⟨_, _, r0⟩, hf⟩ (tbd tv_X12_count rfl)
      · replace hr := ite_f c41 hr
        refine G.go tv_X12_count 2 46 [(0, .ref (gAd E (56))), (1, .int (x1))] [.int (x1), .ref (gAd E (56))] rfl ?_
        obtain ⟨v22, R22, hv22, hr⟩ := bnd2_s hr
        refine G.callV (56) [.int (x1)] [] (k_X12_seenCount E _ hE R ⟨_, _, r0⟩ x1 v22 R22 hv22) cls_X12 (by omega) (r0.o) cw_X12_535 w_2830 w_145 (Nat.le_of_ble_eq_true rfl) rfl (Nat.le_of_ble_eq_true rfl) (tbd tv_X12_count rfl) (fun v22w f22 q22 => ?_) (fun _ _ h => h.elim)
        obtain ⟨rfl, ⟨az22, sy22, r22⟩, fa22⟩ := q22
        refine G.eqs [.int (v22)] rfl ?_
        refine G.go tv_X12_count 1 53 [(0, .ref (gAd E (56))), (1, .int (x1))] [.int (v22)] rfl ?_
        cases hr
        exact G.iret rfl rfl ⟨rfl, ⟨_, _, r22⟩, (hf.tr fa22 (fun _ h => h))⟩ (tbd tv_X12_count rfl)
set_option maxRecDepth 100000 in
set_option maxHeartbeats 4000000 in
theorem k_X12_count (E : gE) (f : Nat → va_E) (hE : 94 ≤ gN E) (R : RfT) (w : RW E f R) (a0 : Int32) (r : Int32) (R9 : RfT) (hr : e_count R a0 = some (r, R9)) : Ct E 7 yX12_count cX12_count 2 (some .int) [.ref (gAd E (56)), .int (a0)] f (fun v g => v = some (.int r) ∧ RW E g R9 ∧ Fr RfK f g, fun _ _ => False) := by
  obtain ⟨az, sy, r0⟩ := w
  refine Ct.of (by decide) (Nat.le_of_ble_eq_true rfl) (fun sz => ?_)
  refine G.eql [(0, .ref (gAd E (56))), (1, .int (a0))] rfl ?_
  unfold e_count at hr
  refine G.go tv_X12_count 2 2 [(0, .ref (gAd E (56))), (1, .int (a0))] [.int (a0), .ref (gAd E (56))] rfl ?_
  refine G.if_lt 11 (tbd tv_X12_count rfl) (by decide) (fun c2 => ?_) (fun c2 => ?_)
  · replace hr := ite_t c2 hr
    refine G.go tv_X12_count 3 17 [(0, .ref (gAd E (56))), (1, .int (a0))] [.int ((1 : Int32)), .int ((1 : Int32)), .ref (gAd E (56))] rfl ?_
    obtain ⟨v18, R18, hv18, hr⟩ := bnd2_s hr
    refine G.callV (56) [.int ((1 : Int32)), .int ((1 : Int32))] [] (k_X12_refuse E _ hE R ⟨_, _, r0⟩ ((1 : Int32)) ((1 : Int32)) v18 R18 hv18) cls_X12 (by omega) (r0.o) cw_X12_385 w_2268 w_53 (Nat.le_of_ble_eq_true rfl) rfl (Nat.le_of_ble_eq_true rfl) (tbd tv_X12_count rfl) (fun v18w f18 q18 => ?_) (fun _ _ h => h.elim)
    obtain ⟨rfl, ⟨az18, sy18, r18⟩, fa18⟩ := q18
    refine G.eqs [.int (v18)] rfl ?_
    refine G.if_eq 25 (tbd tv_X12_count rfl) (by decide) (fun c20 => ?_) (fun c20 => ?_)
    · replace hr := ite_t c20 hr
      refine G.less [(0, .ref (gAd E (56))), (1, .int (a0))] [0, 1] rfl ?_
      exact l_X12_count_25 E f sz _ hE _ _ _ _ hr _ ⟨_, _, r18⟩ (Fr.rf.tr fa18 (fun _ h => h))
    · replace hr := ite_f c20 hr
      refine G.go tv_X12_count 1 24 [(0, .ref (gAd E (56))), (1, .int (a0))] [.int ((0 : Int32))] rfl ?_
      cases hr
      exact G.iret rfl rfl ⟨rfl, ⟨_, _, r18⟩, (Fr.rf.tr fa18 (fun _ h => h))⟩ (tbd tv_X12_count rfl)
  · replace hr := ite_f c2 hr
    refine G.go tv_X12_count 2 8 [(0, .ref (gAd E (56))), (1, .int (a0))] [.int ((17 : Int32)), .int (a0), .ref (gAd E (56))] rfl ?_
    refine G.cmp_le 15 (tbd tv_X12_count rfl) (by decide) (fun c8 => ?_) (fun c8 => ?_)
    · replace hr := ite_t c8 hr
      refine G.go tv_X12_count 2 17 [(0, .ref (gAd E (56))), (1, .int (a0))] [.int ((1 : Int32)), .int ((0 : Int32)), .ref (gAd E (56))] rfl ?_
      obtain ⟨v19, R19, hv19, hr⟩ := bnd2_s hr
      refine G.callV (56) [.int ((0 : Int32)), .int ((1 : Int32))] [] (k_X12_refuse E _ hE R ⟨_, _, r0⟩ ((0 : Int32)) ((1 : Int32)) v19 R19 hv19) cls_X12 (by omega) (r0.o) cw_X12_385 w_2268 w_53 (Nat.le_of_ble_eq_true rfl) rfl (Nat.le_of_ble_eq_true rfl) (tbd tv_X12_count rfl) (fun v19w f19 q19 => ?_) (fun _ _ h => h.elim)
      obtain ⟨rfl, ⟨az19, sy19, r19⟩, fa19⟩ := q19
      refine G.eqs [.int (v19)] rfl ?_
      refine G.if_eq 25 (tbd tv_X12_count rfl) (by decide) (fun c20 => ?_) (fun c20 => ?_)
      · replace hr := ite_t c20 hr
        refine G.less [(0, .ref (gAd E (56))), (1, .int (a0))] [0, 1] rfl ?_
        exact l_X12_count_25 E f sz _ hE _ _ _ _ hr _ ⟨_, _, r19⟩ (Fr.rf.tr fa19 (fun _ h => h))
      · replace hr := ite_f c20 hr
        refine G.go tv_X12_count 1 24 [(0, .ref (gAd E (56))), (1, .int (a0))] [.int ((0 : Int32))] rfl ?_
        cases hr
        exact G.iret rfl rfl ⟨rfl, ⟨_, _, r19⟩, (Fr.rf.tr fa19 (fun _ h => h))⟩ (tbd tv_X12_count rfl)
    · replace hr := ite_f c8 hr
      refine G.go tv_X12_count 3 17 [(0, .ref (gAd E (56))), (1, .int (a0))] [.int ((1 : Int32)), .int ((1 : Int32)), .ref (gAd E (56))] rfl ?_
      obtain ⟨v20, R20, hv20, hr⟩ := bnd2_s hr
      refine G.callV (56) [.int ((1 : Int32)), .int ((1 : Int32))] [] (k_X12_refuse E _ hE R ⟨_, _, r0⟩ ((1 : Int32)) ((1 : Int32)) v20 R20 hv20) cls_X12 (by omega) (r0.o) cw_X12_385 w_2268 w_53 (Nat.le_of_ble_eq_true rfl) rfl (Nat.le_of_ble_eq_true rfl) (tbd tv_X12_count rfl) (fun v20w f20 q20 => ?_) (fun _ _ h => h.elim)
      obtain ⟨rfl, ⟨az20, sy20, r20⟩, fa20⟩ := q20
      refine G.eqs [.int (v20)] rfl ?_
      refine G.if_eq 25 (tbd tv_X12_count rfl) (by decide) (fun c20 => ?_) (fun c20 => ?_)
      · replace hr := ite_t c20 hr
        refine G.less [(0, .ref (gAd E (56))), (1, .int (a0))] [0, 1] rfl ?_
        exact l_X12_count_25 E f sz _ hE _ _ _ _ hr _ ⟨_, _, r20⟩ (Fr.rf.tr fa20 (fun _ h => h))
      · replace hr := ite_f c20 hr
        refine G.go tv_X12_count 1 24 [(0, .ref (gAd E (56))), (1, .int (a0))] [.int ((0 : Int32))] rfl ?_
        cases hr
        exact G.iret rfl rfl ⟨rfl, ⟨_, _, r20⟩, (Fr.rf.tr fa20 (fun _ h => h))⟩ (tbd tv_X12_count rfl)
def e_waitsOf_4 (R : RfT) : Nat → Int32 → Int32 → Int32 → Option (Int32)
  | 0, _, _, _ => none
  | n + 1, x1, x2, x3 => if (rS R 10) ≤ x3 then some x2 else ld (rA R 7) 256 (((rS R 9) + (x3)) - ((rS R 9) + (x3)) / ((256 : Int32)) * ((256 : Int32))) (fun v23 => if v23 = x1 then e_waitsOf_4 R n x1 ((x2) + ((1 : Int32))) (x3 + (1 : Int32)) else e_waitsOf_4 R n x1 x2 (x3 + (1 : Int32)))
def e_waitsOf (R : RfT) (a0 : Int32) : Option (Int32) := e_waitsOf_4 R fuL a0 ((0 : Int32)) ((0 : Int32))
set_option maxRecDepth 100000 in
set_option maxHeartbeats 4000000 in
theorem l_X12_waitsOf_4 (E : gE) (f0 : Nat → va_E) (sz : Nat) (QA : Nat → Prop) (hE : 94 ≤ gN E) (R : RfT) : ∀ (n : Nat), ∀ (x1 : Int32) (x2 : Int32) (x3 : Int32) (r : Int32) (hr : e_waitsOf_4 R n x1 x2 x3 = some r) (f : Nat → va_E) (w : RW E f R) (hf : Fr RfK f0 f), G E (1, yX12_waitsOf, 4, (some .int), sz, QA) cX12_waitsOf (gO E (1, yX12_waitsOf, 4, (some .int), sz, QA) (fun v g => v = some (.int r) ∧ RW E g R ∧ Fr RfK f0 g, fun _ _ => False)) 4 [(0, .ref (gAd E (56))), (1, .int (x1)), (2, .int (x2)), (3, .int (x3))] [] f := by
  intro n
  induction n with
  | zero =>
    intro x1 x2 x3 r hr f w hf
    cases hr
  | succ n ih =>
    intro x1 x2 x3 r hr f w hf
    obtain ⟨az, sy, r0⟩ := w
    unfold e_waitsOf_4 at hr
    refine G.go tv_X12_waitsOf 2 6 [(0, .ref (gAd E (56))), (1, .int (x1)), (2, .int (x2)), (3, .int (x3))] [.ref (gAd E (56)), .int (x3)] rfl ?_
    refine G.rg r0 hE 10 (.int (rS R 10)) (by decide) rfl (tbd tv_X12_waitsOf rfl) w_2075 ?_
    refine G.cmp_ge 45 (tbd tv_X12_waitsOf rfl) (by decide) (fun c9 => ?_) (fun c9 => ?_)
    · replace hr := ite_t c9 hr
      refine G.go tv_X12_waitsOf 1 46 [(0, .ref (gAd E (56))), (1, .int (x1)), (2, .int (x2)), (3, .int (x3))] [.int (x2)] rfl ?_
      cases hr
      exact G.iret rfl rfl ⟨rfl, ⟨_, _, r0⟩, hf⟩ (tbd tv_X12_waitsOf rfl)
    · replace hr := ite_f c9 hr
      refine G.go tv_X12_waitsOf 1 13 [(0, .ref (gAd E (56))), (1, .int (x1)), (2, .int (x2)), (3, .int (x3))] [.ref (gAd E (56))] rfl ?_
      refine G.rg r0 hE 7 (.ref (gAd E (59))) (by decide) rfl (tbd tv_X12_waitsOf rfl) w_2072 ?_
      refine G.go tv_X12_waitsOf 1 17 [(0, .ref (gAd E (56))), (1, .int (x1)), (2, .int (x2)), (3, .int (x3))] [.ref (gAd E (56)), .ref (gAd E (59))] rfl ?_
      refine G.rg r0 hE 9 (.int (rS R 9)) (by decide) rfl (tbd tv_X12_waitsOf rfl) w_2074 ?_
      refine G.go tv_X12_waitsOf 3 25 [(0, .ref (gAd E (56))), (1, .int (x1)), (2, .int (x2)), (3, .int (x3))] [.int ((256 : Int32)), .int ((rS R 9) + (x3)), .ref (gAd E (59))] rfl ?_
      refine G.irem (by decide) (tbd tv_X12_waitsOf rfl) ?_
      obtain ⟨v23, b23, e23, hr⟩ := ld_s hr
      refine G.ialdE (59) (by omega) (r0.a7) b23 e23 (tbd tv_X12_waitsOf rfl) ?_
      refine G.go tv_X12_waitsOf 1 28 [(0, .ref (gAd E (56))), (1, .int (x1)), (2, .int (x2)), (3, .int (x3))] [.int (x1), .int (v23)] rfl ?_
      refine G.cmp_ne 37 (tbd tv_X12_waitsOf rfl) (by decide) (fun c28 => ?_) (fun c28 => ?_)
      · replace hr := ite_f c28 hr
        refine G.go tv_X12_waitsOf 4 4 [(0, .ref (gAd E (56))), (1, .int (x1)), (2, .int (x2)), (3, .int (x3 + (1 : Int32)))] [] rfl ?_
        refine G.less [(0, .ref (gAd E (56))), (1, .int (x1)), (2, .int (x2)), (3, .int (x3 + (1 : Int32)))] [0, 1, 2, 3] rfl ?_
        exact ih _ _ _ _ hr _ ⟨_, _, r0⟩ hf
      · replace hr := ite_t c28 hr
        refine G.go tv_X12_waitsOf 7 4 [(0, .ref (gAd E (56))), (1, .int (x1)), (2, .int ((x2) + ((1 : Int32)))), (3, .int (x3 + (1 : Int32)))] [] rfl ?_
        refine G.less [(0, .ref (gAd E (56))), (1, .int (x1)), (2, .int ((x2) + ((1 : Int32)))), (3, .int (x3 + (1 : Int32)))] [0, 1, 2, 3] rfl ?_
        exact ih _ _ _ _ hr _ ⟨_, _, r0⟩ hf
set_option maxRecDepth 100000 in
set_option maxHeartbeats 4000000 in
theorem k_X12_waitsOf (E : gE) (f : Nat → va_E) (hE : 94 ≤ gN E) (R : RfT) (w : RW E f R) (a0 : Int32) (r : Int32) (hr : e_waitsOf R a0 = some r) : Ct E 1 yX12_waitsOf cX12_waitsOf 4 (some .int) [.ref (gAd E (56)), .int (a0)] f (fun v g => v = some (.int r) ∧ RW E g R ∧ Fr RfK f g, fun _ _ => False) := by
  obtain ⟨az, sy, r0⟩ := w
  refine Ct.of (by decide) (Nat.le_of_ble_eq_true rfl) (fun sz => ?_)
  refine G.eql [(0, .ref (gAd E (56))), (1, .int (a0))] rfl ?_
  unfold e_waitsOf at hr
  refine G.go tv_X12_waitsOf 4 4 [(0, .ref (gAd E (56))), (1, .int (a0)), (2, .int ((0 : Int32))), (3, .int ((0 : Int32)))] [] rfl ?_
  refine G.less [(0, .ref (gAd E (56))), (1, .int (a0)), (2, .int ((0 : Int32))), (3, .int ((0 : Int32)))] [0, 1, 2, 3] rfl ?_
  exact l_X12_waitsOf_4 E f sz _ hE R _ _ _ _ _ hr _ ⟨_, _, r0⟩ Fr.rf
def e_readDisk_78  (R : RfT) (a0 : Int32) : Option (RfT) := ld (rA R 40) 1024 a0 (fun v27 => if v27 = ((-1 : Int32)) then bnd (e_move_58_78 R (((128 : Int32)) * (a0)) ((0 : Int32))) (fun R30 => some R30) else ld (rA R 40) 1024 a0 (fun v28 => bnd (e_move_60_78 R (((128 : Int32)) * (v28)) ((0 : Int32))) (fun R29 => some R29)))
set_option maxRecDepth 100000 in
set_option maxHeartbeats 4000000 in
theorem k_X12_readDisk_78 (E : gE) (f : Nat → va_E) (hE : 94 ≤ gN E) (R : RfT) (w : RW E f R) (a0 : Int32) (R9 : RfT) (hr : e_readDisk_78 R a0 = some R9) : Ct E 2 yX12_readDisk cX12_readDisk 3 none [.ref (gAd E (56)), .int (a0), .ref (gAd E (78))] f (fun v g => v = none ∧ RW E g R9 ∧ Fr RfK f g, fun _ _ => False) := by
  obtain ⟨az, sy, r0⟩ := w
  refine Ct.of (by decide) (Nat.le_of_ble_eq_true rfl) (fun sz => ?_)
  refine G.eql [(0, .ref (gAd E (56))), (1, .int (a0)), (2, .ref (gAd E (78)))] rfl ?_
  unfold e_readDisk_78 at hr
  refine G.go tv_X12_readDisk 1 1 [(0, .ref (gAd E (56))), (1, .int (a0)), (2, .ref (gAd E (78)))] [.ref (gAd E (56))] rfl ?_
  refine G.rg r0 hE 40 (.ref (gAd E (77))) (by decide) rfl (tbd tv_X12_readDisk rfl) w_2105 ?_
  refine G.go tv_X12_readDisk 1 5 [(0, .ref (gAd E (56))), (1, .int (a0)), (2, .ref (gAd E (78)))] [.int (a0), .ref (gAd E (77))] rfl ?_
  obtain ⟨v27, b27, e27, hr⟩ := ld_s hr
  refine G.ialdE (77) (by omega) (r0.a40) b27 e27 (tbd tv_X12_readDisk rfl) ?_
  refine G.go tv_X12_readDisk 1 7 [(0, .ref (gAd E (56))), (1, .int (a0)), (2, .ref (gAd E (78)))] [.int ((-1 : Int32)), .int (v27)] rfl ?_
  refine G.cmp_ne 27 (tbd tv_X12_readDisk rfl) (by decide) (fun c7 => ?_) (fun c7 => ?_)
  · replace hr := ite_f c7 hr
    refine G.go tv_X12_readDisk 1 28 [(0, .ref (gAd E (56))), (1, .int (a0)), (2, .ref (gAd E (78)))] [.ref (gAd E (56))] rfl ?_
    refine G.rg r0 hE 8 (.ref (gAd E (60))) (by decide) rfl (tbd tv_X12_readDisk rfl) w_2073 ?_
    refine G.go tv_X12_readDisk 2 35 [(0, .ref (gAd E (56))), (1, .int (a0)), (2, .ref (gAd E (78)))] [.ref (gAd E (56)), .int ((128 : Int32)), .ref (gAd E (60))] rfl ?_
    refine G.rg r0 hE 40 (.ref (gAd E (77))) (by decide) rfl (tbd tv_X12_readDisk rfl) w_2105 ?_
    refine G.go tv_X12_readDisk 1 39 [(0, .ref (gAd E (56))), (1, .int (a0)), (2, .ref (gAd E (78)))] [.int (a0), .ref (gAd E (77)), .int ((128 : Int32)), .ref (gAd E (60))] rfl ?_
    obtain ⟨v28, b28, e28, hr⟩ := ld_s hr
    refine G.ialdE (77) (by omega) (r0.a40) b28 e28 (tbd tv_X12_readDisk rfl) ?_
    refine G.go tv_X12_readDisk 3 43 [(0, .ref (gAd E (56))), (1, .int (a0)), (2, .ref (gAd E (78)))] [.int ((0 : Int32)), .ref (gAd E (78)), .int (((128 : Int32)) * (v28)), .ref (gAd E (60))] rfl ?_
    obtain ⟨R29, hv29, hr⟩ := bnd_s hr
    refine G.callS [.ref (gAd E (60)), .int (((128 : Int32)) * (v28)), .ref (gAd E (78)), .int ((0 : Int32))] [] (k_X12_move_60_78 E _ hE R ⟨_, _, r0⟩ (((128 : Int32)) * (v28)) ((0 : Int32)) R29 hv29) cw_X12_190 w_2307 (Nat.le_of_ble_eq_true rfl) rfl (Nat.le_of_ble_eq_true rfl) (tbd tv_X12_readDisk rfl) (fun v29w f29 q29 => ?_) (fun _ _ h => h.elim)
    obtain ⟨rfl, ⟨az29, sy29, r29⟩, fa29⟩ := q29
    refine G.eqs [] rfl ?_
    cases hr
    exact G.vret rfl ⟨rfl, ⟨_, _, r29⟩, (Fr.rf.tr fa29 (fun _ h => h))⟩ (tbd tv_X12_readDisk rfl)
  · replace hr := ite_t c7 hr
    refine G.go tv_X12_readDisk 1 11 [(0, .ref (gAd E (56))), (1, .int (a0)), (2, .ref (gAd E (78)))] [.ref (gAd E (56))] rfl ?_
    refine G.rg r0 hE 6 (.ref (gAd E (58))) (by decide) rfl (tbd tv_X12_readDisk rfl) w_2071 ?_
    refine G.go tv_X12_readDisk 5 21 [(0, .ref (gAd E (56))), (1, .int (a0)), (2, .ref (gAd E (78)))] [.int ((0 : Int32)), .ref (gAd E (78)), .int (((128 : Int32)) * (a0)), .ref (gAd E (58))] rfl ?_
    obtain ⟨R30, hv30, hr⟩ := bnd_s hr
    refine G.callS [.ref (gAd E (58)), .int (((128 : Int32)) * (a0)), .ref (gAd E (78)), .int ((0 : Int32))] [] (k_X12_move_58_78 E _ hE R ⟨_, _, r0⟩ (((128 : Int32)) * (a0)) ((0 : Int32)) R30 hv30) cw_X12_190 w_2307 (Nat.le_of_ble_eq_true rfl) rfl (Nat.le_of_ble_eq_true rfl) (tbd tv_X12_readDisk rfl) (fun v30w f30 q30 => ?_) (fun _ _ h => h.elim)
    obtain ⟨rfl, ⟨az30, sy30, r30⟩, fa30⟩ := q30
    refine G.eqs [] rfl ?_
    refine G.go tv_X12_readDisk 1 46 [(0, .ref (gAd E (56))), (1, .int (a0)), (2, .ref (gAd E (78)))] [] rfl ?_
    cases hr
    exact G.vret rfl ⟨rfl, ⟨_, _, r30⟩, (Fr.rf.tr fa30 (fun _ h => h))⟩ (tbd tv_X12_readDisk rfl)
def e_byteAt  (R : RfT) (a0 : Int32) (a1 : Int32) : Option (Int32 × RfT) := bnd (e_isByte R a0 a1) (fun v24 => if v24 = 0 then bnd2 (e_refuse R ((1 : Int32)) ((1 : Int32))) (fun v32 R32 => if v32 = 0 then bnd (e_readDisk_78 R32 a0) (fun R33 => ld (rA R33 43) 128 a1 (fun v34 => some ((v34) &&& ((255 : Int32)), R33))) else some ((0 : Int32), R32)) else bnd2 (e_refuse R ((0 : Int32)) ((1 : Int32))) (fun v25 R25 => if v25 = 0 then bnd (e_readDisk_78 R25 a0) (fun R26 => ld (rA R26 43) 128 a1 (fun v31 => some ((v31) &&& ((255 : Int32)), R26))) else some ((0 : Int32), R25)))
set_option maxRecDepth 100000 in
set_option maxHeartbeats 4000000 in
theorem k_X12_byteAt (E : gE) (f : Nat → va_E) (hE : 94 ≤ gN E) (R : RfT) (w : RW E f R) (a0 : Int32) (a1 : Int32) (r : Int32) (R9 : RfT) (hr : e_byteAt R a0 a1 = some (r, R9)) : Ct E 3 yX12_byteAt cX12_byteAt 3 (some .int) [.ref (gAd E (56)), .int (a0), .int (a1)] f (fun v g => v = some (.int r) ∧ RW E g R9 ∧ Fr RfK f g, fun _ _ => False) := by
  obtain ⟨az, sy, r0⟩ := w
  refine Ct.of (by decide) (Nat.le_of_ble_eq_true rfl) (fun sz => ?_)
  refine G.eql [(0, .ref (gAd E (56))), (1, .int (a0)), (2, .int (a1))] rfl ?_
  unfold e_byteAt at hr
  refine G.go tv_X12_byteAt 4 4 [(0, .ref (gAd E (56))), (1, .int (a0)), (2, .int (a1))] [.int (a1), .int (a0), .ref (gAd E (56)), .ref (gAd E (56))] rfl ?_
  obtain ⟨v24, hv24, hr⟩ := bnd_s hr
  refine G.callV (56) [.int (a0), .int (a1)] [.ref (gAd E (56))] (k_X12_isByte E _ hE R ⟨_, _, r0⟩ a0 a1 v24 hv24) cls_X12 (by omega) (r0.o) cw_X12_512 w_2791 w_141 (Nat.le_of_ble_eq_true rfl) rfl (Nat.le_of_ble_eq_true rfl) (tbd tv_X12_byteAt rfl) (fun v24w f24 q24 => ?_) (fun _ _ h => h.elim)
  obtain ⟨rfl, ⟨az24, sy24, r24⟩, fa24⟩ := q24
  refine G.eqs [.int (v24), .ref (gAd E (56))] rfl ?_
  refine G.if_ne 14 (tbd tv_X12_byteAt rfl) (by decide) (fun c7 => ?_) (fun c7 => ?_)
  · replace hr := ite_f c7 hr
    refine G.go tv_X12_byteAt 2 16 [(0, .ref (gAd E (56))), (1, .int (a0)), (2, .int (a1))] [.int ((1 : Int32)), .int ((0 : Int32)), .ref (gAd E (56))] rfl ?_
    obtain ⟨v25, R25, hv25, hr⟩ := bnd2_s hr
    refine G.callV (56) [.int ((0 : Int32)), .int ((1 : Int32))] [] (k_X12_refuse E _ hE R ⟨_, _, r24⟩ ((0 : Int32)) ((1 : Int32)) v25 R25 hv25) cls_X12 (by omega) (r24.o) cw_X12_385 w_2268 w_53 (Nat.le_of_ble_eq_true rfl) rfl (Nat.le_of_ble_eq_true rfl) (tbd tv_X12_byteAt rfl) (fun v25w f25 q25 => ?_) (fun _ _ h => h.elim)
    obtain ⟨rfl, ⟨az25, sy25, r25⟩, fa25⟩ := q25
    refine G.eqs [.int (v25)] rfl ?_
    refine G.if_eq 24 (tbd tv_X12_byteAt rfl) (by decide) (fun c19 => ?_) (fun c19 => ?_)
    · replace hr := ite_t c19 hr
      refine G.go tv_X12_byteAt 3 27 [(0, .ref (gAd E (56))), (1, .int (a0)), (2, .int (a1))] [.ref (gAd E (56)), .int (a0), .ref (gAd E (56))] rfl ?_
      refine G.rg r25 hE 43 (.ref (gAd E (78))) (by decide) rfl (tbd tv_X12_byteAt rfl) w_2108 ?_
      obtain ⟨R26, hv26, hr⟩ := bnd_s hr
      refine G.callV (56) [.int (a0), .ref (gAd E (78))] [] (k_X12_readDisk_78 E _ hE R25 ⟨_, _, r25⟩ a0 R26 hv26) cls_X12 (by omega) (r25.o) cw_X12_399 w_2347 w_70 (Nat.le_of_ble_eq_true rfl) rfl (Nat.le_of_ble_eq_true rfl) (tbd tv_X12_byteAt rfl) (fun v26w f26 q26 => ?_) (fun _ _ h => h.elim)
      obtain ⟨rfl, ⟨az26, sy26, r26⟩, fa26⟩ := q26
      refine G.eqs [] rfl ?_
      refine G.go tv_X12_byteAt 1 34 [(0, .ref (gAd E (56))), (1, .int (a0)), (2, .int (a1))] [.ref (gAd E (56))] rfl ?_
      refine G.rg r26 hE 43 (.ref (gAd E (78))) (by decide) rfl (tbd tv_X12_byteAt rfl) w_2108 ?_
      refine G.go tv_X12_byteAt 1 38 [(0, .ref (gAd E (56))), (1, .int (a0)), (2, .int (a1))] [.int (a1), .ref (gAd E (78))] rfl ?_
      obtain ⟨v31, b31, e31, hr⟩ := ld_s hr
      refine G.baldE (78) (by omega) (r26.a43) b31 e31 (tbd tv_X12_byteAt rfl) ?_
      refine G.go tv_X12_byteAt 2 43 [(0, .ref (gAd E (56))), (1, .int (a0)), (2, .int (a1))] [.int ((v31) &&& ((255 : Int32)))] rfl ?_
      cases hr
      exact G.iret rfl rfl ⟨rfl, ⟨_, _, r26⟩, (((Fr.rf.tr fa24 (fun _ h => h)).tr fa25 (fun _ h => h)).tr fa26 (fun _ h => h))⟩ (tbd tv_X12_byteAt rfl)
    · replace hr := ite_f c19 hr
      refine G.go tv_X12_byteAt 1 23 [(0, .ref (gAd E (56))), (1, .int (a0)), (2, .int (a1))] [.int ((0 : Int32))] rfl ?_
      cases hr
      exact G.iret rfl rfl ⟨rfl, ⟨_, _, r25⟩, ((Fr.rf.tr fa24 (fun _ h => h)).tr fa25 (fun _ h => h))⟩ (tbd tv_X12_byteAt rfl)
  · replace hr := ite_t c7 hr
    refine G.go tv_X12_byteAt 3 16 [(0, .ref (gAd E (56))), (1, .int (a0)), (2, .int (a1))] [.int ((1 : Int32)), .int ((1 : Int32)), .ref (gAd E (56))] rfl ?_
    obtain ⟨v32, R32, hv32, hr⟩ := bnd2_s hr
    refine G.callV (56) [.int ((1 : Int32)), .int ((1 : Int32))] [] (k_X12_refuse E _ hE R ⟨_, _, r24⟩ ((1 : Int32)) ((1 : Int32)) v32 R32 hv32) cls_X12 (by omega) (r24.o) cw_X12_385 w_2268 w_53 (Nat.le_of_ble_eq_true rfl) rfl (Nat.le_of_ble_eq_true rfl) (tbd tv_X12_byteAt rfl) (fun v32w f32 q32 => ?_) (fun _ _ h => h.elim)
    obtain ⟨rfl, ⟨az32, sy32, r32⟩, fa32⟩ := q32
    refine G.eqs [.int (v32)] rfl ?_
    refine G.if_eq 24 (tbd tv_X12_byteAt rfl) (by decide) (fun c19 => ?_) (fun c19 => ?_)
    · replace hr := ite_t c19 hr
      refine G.go tv_X12_byteAt 3 27 [(0, .ref (gAd E (56))), (1, .int (a0)), (2, .int (a1))] [.ref (gAd E (56)), .int (a0), .ref (gAd E (56))] rfl ?_
      refine G.rg r32 hE 43 (.ref (gAd E (78))) (by decide) rfl (tbd tv_X12_byteAt rfl) w_2108 ?_
      obtain ⟨R33, hv33, hr⟩ := bnd_s hr
      refine G.callV (56) [.int (a0), .ref (gAd E (78))] [] (k_X12_readDisk_78 E _ hE R32 ⟨_, _, r32⟩ a0 R33 hv33) cls_X12 (by omega) (r32.o) cw_X12_399 w_2347 w_70 (Nat.le_of_ble_eq_true rfl) rfl (Nat.le_of_ble_eq_true rfl) (tbd tv_X12_byteAt rfl) (fun v33w f33 q33 => ?_) (fun _ _ h => h.elim)
      obtain ⟨rfl, ⟨az33, sy33, r33⟩, fa33⟩ := q33
      refine G.eqs [] rfl ?_
      refine G.go tv_X12_byteAt 1 34 [(0, .ref (gAd E (56))), (1, .int (a0)), (2, .int (a1))] [.ref (gAd E (56))] rfl ?_
      refine G.rg r33 hE 43 (.ref (gAd E (78))) (by decide) rfl (tbd tv_X12_byteAt rfl) w_2108 ?_
      refine G.go tv_X12_byteAt 1 38 [(0, .ref (gAd E (56))), (1, .int (a0)), (2, .int (a1))] [.int (a1), .ref (gAd E (78))] rfl ?_
      obtain ⟨v34, b34, e34, hr⟩ := ld_s hr
      refine G.baldE (78) (by omega) (r33.a43) b34 e34 (tbd tv_X12_byteAt rfl) ?_
      refine G.go tv_X12_byteAt 2 43 [(0, .ref (gAd E (56))), (1, .int (a0)), (2, .int (a1))] [.int ((v34) &&& ((255 : Int32)))] rfl ?_
      cases hr
      exact G.iret rfl rfl ⟨rfl, ⟨_, _, r33⟩, (((Fr.rf.tr fa24 (fun _ h => h)).tr fa32 (fun _ h => h)).tr fa33 (fun _ h => h))⟩ (tbd tv_X12_byteAt rfl)
    · replace hr := ite_f c19 hr
      refine G.go tv_X12_byteAt 1 23 [(0, .ref (gAd E (56))), (1, .int (a0)), (2, .int (a1))] [.int ((0 : Int32))] rfl ?_
      cases hr
      exact G.iret rfl rfl ⟨rfl, ⟨_, _, r32⟩, ((Fr.rf.tr fa24 (fun _ h => h)).tr fa32 (fun _ h => h))⟩ (tbd tv_X12_byteAt rfl)
def e_waiting  (R : RfT) (a0 : Int32) : Option (Int32 × RfT) := bnd (e_isByte R a0 ((0 : Int32))) (fun v35 => if v35 = 0 then bnd2 (e_refuse R ((1 : Int32)) ((1 : Int32))) (fun v38 R38 => if v38 = 0 then bnd (e_waitsOf R38 a0) (fun v39 => some (v39, R38)) else some ((0 : Int32), R38)) else bnd2 (e_refuse R ((0 : Int32)) ((1 : Int32))) (fun v36 R36 => if v36 = 0 then bnd (e_waitsOf R36 a0) (fun v37 => some (v37, R36)) else some ((0 : Int32), R36)))
set_option maxRecDepth 100000 in
set_option maxHeartbeats 4000000 in
theorem k_X12_waiting (E : gE) (f : Nat → va_E) (hE : 94 ≤ gN E) (R : RfT) (w : RW E f R) (a0 : Int32) (r : Int32) (R9 : RfT) (hr : e_waiting R a0 = some (r, R9)) : Ct E 2 yX12_waiting cX12_waiting 2 (some .int) [.ref (gAd E (56)), .int (a0)] f (fun v g => v = some (.int r) ∧ RW E g R9 ∧ Fr RfK f g, fun _ _ => False) := by
  obtain ⟨az, sy, r0⟩ := w
  refine Ct.of (by decide) (Nat.le_of_ble_eq_true rfl) (fun sz => ?_)
  refine G.eql [(0, .ref (gAd E (56))), (1, .int (a0))] rfl ?_
  unfold e_waiting at hr
  refine G.go tv_X12_waiting 4 4 [(0, .ref (gAd E (56))), (1, .int (a0))] [.int ((0 : Int32)), .int (a0), .ref (gAd E (56)), .ref (gAd E (56))] rfl ?_
  obtain ⟨v35, hv35, hr⟩ := bnd_s hr
  refine G.callV (56) [.int (a0), .int ((0 : Int32))] [.ref (gAd E (56))] (k_X12_isByte E _ hE R ⟨_, _, r0⟩ a0 ((0 : Int32)) v35 hv35) cls_X12 (by omega) (r0.o) cw_X12_512 w_2791 w_141 (Nat.le_of_ble_eq_true rfl) rfl (Nat.le_of_ble_eq_true rfl) (tbd tv_X12_waiting rfl) (fun v35w f35 q35 => ?_) (fun _ _ h => h.elim)
  obtain ⟨rfl, ⟨az35, sy35, r35⟩, fa35⟩ := q35
  refine G.eqs [.int (v35), .ref (gAd E (56))] rfl ?_
  refine G.if_ne 14 (tbd tv_X12_waiting rfl) (by decide) (fun c7 => ?_) (fun c7 => ?_)
  · replace hr := ite_f c7 hr
    refine G.go tv_X12_waiting 2 16 [(0, .ref (gAd E (56))), (1, .int (a0))] [.int ((1 : Int32)), .int ((0 : Int32)), .ref (gAd E (56))] rfl ?_
    obtain ⟨v36, R36, hv36, hr⟩ := bnd2_s hr
    refine G.callV (56) [.int ((0 : Int32)), .int ((1 : Int32))] [] (k_X12_refuse E _ hE R ⟨_, _, r35⟩ ((0 : Int32)) ((1 : Int32)) v36 R36 hv36) cls_X12 (by omega) (r35.o) cw_X12_385 w_2268 w_53 (Nat.le_of_ble_eq_true rfl) rfl (Nat.le_of_ble_eq_true rfl) (tbd tv_X12_waiting rfl) (fun v36w f36 q36 => ?_) (fun _ _ h => h.elim)
    obtain ⟨rfl, ⟨az36, sy36, r36⟩, fa36⟩ := q36
    refine G.eqs [.int (v36)] rfl ?_
    refine G.if_eq 26 (tbd tv_X12_waiting rfl) (by decide) (fun c19 => ?_) (fun c19 => ?_)
    · replace hr := ite_t c19 hr
      refine G.go tv_X12_waiting 2 28 [(0, .ref (gAd E (56))), (1, .int (a0))] [.int (a0), .ref (gAd E (56))] rfl ?_
      obtain ⟨v37, hv37, hr⟩ := bnd_s hr
      refine G.callV (56) [.int (a0)] [] (k_X12_waitsOf E _ hE R36 ⟨_, _, r36⟩ a0 v37 hv37) cls_X12 (by omega) (r36.o) cw_X12_505 w_2781 w_140 (Nat.le_of_ble_eq_true rfl) rfl (Nat.le_of_ble_eq_true rfl) (tbd tv_X12_waiting rfl) (fun v37w f37 q37 => ?_) (fun _ _ h => h.elim)
      obtain ⟨rfl, ⟨az37, sy37, r37⟩, fa37⟩ := q37
      refine G.eqs [.int (v37)] rfl ?_
      cases hr
      exact G.iret rfl rfl ⟨rfl, ⟨_, _, r37⟩, (((Fr.rf.tr fa35 (fun _ h => h)).tr fa36 (fun _ h => h)).tr fa37 (fun _ h => h))⟩ (tbd tv_X12_waiting rfl)
    · replace hr := ite_f c19 hr
      refine G.go tv_X12_waiting 2 31 [(0, .ref (gAd E (56))), (1, .int (a0))] [.int ((0 : Int32))] rfl ?_
      cases hr
      exact G.iret rfl rfl ⟨rfl, ⟨_, _, r36⟩, ((Fr.rf.tr fa35 (fun _ h => h)).tr fa36 (fun _ h => h))⟩ (tbd tv_X12_waiting rfl)
  · replace hr := ite_t c7 hr
    refine G.go tv_X12_waiting 3 16 [(0, .ref (gAd E (56))), (1, .int (a0))] [.int ((1 : Int32)), .int ((1 : Int32)), .ref (gAd E (56))] rfl ?_
    obtain ⟨v38, R38, hv38, hr⟩ := bnd2_s hr
    refine G.callV (56) [.int ((1 : Int32)), .int ((1 : Int32))] [] (k_X12_refuse E _ hE R ⟨_, _, r35⟩ ((1 : Int32)) ((1 : Int32)) v38 R38 hv38) cls_X12 (by omega) (r35.o) cw_X12_385 w_2268 w_53 (Nat.le_of_ble_eq_true rfl) rfl (Nat.le_of_ble_eq_true rfl) (tbd tv_X12_waiting rfl) (fun v38w f38 q38 => ?_) (fun _ _ h => h.elim)
    obtain ⟨rfl, ⟨az38, sy38, r38⟩, fa38⟩ := q38
    refine G.eqs [.int (v38)] rfl ?_
    refine G.if_eq 26 (tbd tv_X12_waiting rfl) (by decide) (fun c19 => ?_) (fun c19 => ?_)
    · replace hr := ite_t c19 hr
      refine G.go tv_X12_waiting 2 28 [(0, .ref (gAd E (56))), (1, .int (a0))] [.int (a0), .ref (gAd E (56))] rfl ?_
      obtain ⟨v39, hv39, hr⟩ := bnd_s hr
      refine G.callV (56) [.int (a0)] [] (k_X12_waitsOf E _ hE R38 ⟨_, _, r38⟩ a0 v39 hv39) cls_X12 (by omega) (r38.o) cw_X12_505 w_2781 w_140 (Nat.le_of_ble_eq_true rfl) rfl (Nat.le_of_ble_eq_true rfl) (tbd tv_X12_waiting rfl) (fun v39w f39 q39 => ?_) (fun _ _ h => h.elim)
      obtain ⟨rfl, ⟨az39, sy39, r39⟩, fa39⟩ := q39
      refine G.eqs [.int (v39)] rfl ?_
      cases hr
      exact G.iret rfl rfl ⟨rfl, ⟨_, _, r39⟩, (((Fr.rf.tr fa35 (fun _ h => h)).tr fa38 (fun _ h => h)).tr fa39 (fun _ h => h))⟩ (tbd tv_X12_waiting rfl)
    · replace hr := ite_f c19 hr
      refine G.go tv_X12_waiting 2 31 [(0, .ref (gAd E (56))), (1, .int (a0))] [.int ((0 : Int32))] rfl ?_
      cases hr
      exact G.iret rfl rfl ⟨rfl, ⟨_, _, r38⟩, ((Fr.rf.tr fa35 (fun _ h => h)).tr fa38 (fun _ h => h))⟩ (tbd tv_X12_waiting rfl)
def e_feed_78  (self23 : RfT → Int32 → Int32 → Int32 → Int32 → Int32 → Int32 → Option (Int32 × RfT)) (R : RfT) (x1 : Int32) (x2 : Int32) (x3 : Int32) (x4 : Int32) (x5 : Int32) (x6 : Int32) (x7 : Int32) : Option (Int32 × RfT) := stR R 4 1024 (rS R 5) (vp_nar .byte ((((x7 : Int32).toUInt32 >>> ((((24 : Int32)) - (((8 : Int32)) * ((x6) - (x6) / ((4 : Int32)) * ((4 : Int32)))) : Int32).toUInt32 &&& Int32.toUInt32 31)).toInt32 : Int32).toInt8.toInt32)) (fun R41 => ptR R41 5 ((rS R41 5) + ((1 : Int32))) (fun R42 => self23 R42 x1 x2 x3 x4 x5 (x6 + (1 : Int32))))
def e_feed_23  : Nat → RfT → Int32 → Int32 → Int32 → Int32 → Int32 → Int32 → Option (Int32 × RfT)
  | 0, _, _, _, _, _, _, _ => none
  | n + 1, R, x1, x2, x3, x4, x5, x6 => if ((20 : Int32)) ≤ x6 then some (rS R 5, R) else if ((4 : Int32)) ≤ x6 then if ((8 : Int32)) ≤ x6 then if ((12 : Int32)) ≤ x6 then if ((16 : Int32)) ≤ x6 then e_feed_78  (e_feed_23  n) R x1 x2 x3 x4 x5 x6 x5 else e_feed_78  (e_feed_23  n) R x1 x2 x3 x4 x5 x6 x4 else e_feed_78  (e_feed_23  n) R x1 x2 x3 x4 x5 x6 x3 else e_feed_78  (e_feed_23  n) R x1 x2 x3 x4 x5 x6 x2 else e_feed_78  (e_feed_23  n) R x1 x2 x3 x4 x5 x6 x1
def e_feed  (R : RfT) (a0 : Int32) (a1 : Int32) (a2 : Int32) (a3 : Int32) (a4 : Int32) : Option (Int32 × RfT) := ptR R 0 ((0 : Int32)) (fun R40 => if ((rS R40 5) + ((20 : Int32))) ≤ ((1024 : Int32)) then e_feed_23  fuL R40 a0 a1 a2 a3 a4 ((0 : Int32)) else some ((-1 : Int32), R40))
set_option maxRecDepth 100000 in
set_option maxHeartbeats 4000000 in
theorem l_X12_feed_78 (E : gE) (f0 : Nat → va_E) (sz : Nat) (QA : Nat → Prop) (hE : 94 ≤ gN E) (self23 : RfT → Int32 → Int32 → Int32 → Int32 → Int32 → Int32 → Option (Int32 × RfT)) (hs23 : ∀ (R : RfT) (x1 : Int32) (x2 : Int32) (x3 : Int32) (x4 : Int32) (x5 : Int32) (x6 : Int32) (r : Int32) (R9 : RfT) (hr : self23 R x1 x2 x3 x4 x5 x6 = some (r, R9)) (f : Nat → va_E) (w : RW E f R) (hf : Fr RfK f0 f), G E (1, yX12_feed, 8, (some .int), sz, QA) cX12_feed (gO E (1, yX12_feed, 8, (some .int), sz, QA) (fun v g => v = some (.int r) ∧ RW E g R9 ∧ Fr RfK f0 g, fun _ _ => False)) 23 [(0, .ref (gAd E (56))), (1, .int (x1)), (2, .int (x2)), (3, .int (x3)), (4, .int (x4)), (5, .int (x5)), (6, .int (x6))] [] f) : ∀ (R : RfT) (x1 : Int32) (x2 : Int32) (x3 : Int32) (x4 : Int32) (x5 : Int32) (x6 : Int32) (x7 : Int32) (r : Int32) (R9 : RfT) (hr : e_feed_78  self23 R x1 x2 x3 x4 x5 x6 x7 = some (r, R9)) (f : Nat → va_E) (w : RW E f R) (hf : Fr RfK f0 f), G E (1, yX12_feed, 8, (some .int), sz, QA) cX12_feed (gO E (1, yX12_feed, 8, (some .int), sz, QA) (fun v g => v = some (.int r) ∧ RW E g R9 ∧ Fr RfK f0 g, fun _ _ => False)) 78 [(0, .ref (gAd E (56))), (1, .int (x1)), (2, .int (x2)), (3, .int (x3)), (4, .int (x4)), (5, .int (x5)), (6, .int (x6)), (7, .int (x7))] [] f := by
  intro R x1 x2 x3 x4 x5 x6 x7 r R9 hr f w hf
  obtain ⟨az, sy, r0⟩ := w
  unfold e_feed_78 at hr
  refine G.go tv_X12_feed 1 79 [(0, .ref (gAd E (56))), (1, .int (x1)), (2, .int (x2)), (3, .int (x3)), (4, .int (x4)), (5, .int (x5)), (6, .int (x6)), (7, .int (x7))] [.ref (gAd E (56))] rfl ?_
  refine G.rg r0 hE 4 (.ref (gAd E (57))) (by decide) rfl (tbd tv_X12_feed rfl) w_2069 ?_
  refine G.go tv_X12_feed 1 83 [(0, .ref (gAd E (56))), (1, .int (x1)), (2, .int (x2)), (3, .int (x3)), (4, .int (x4)), (5, .int (x5)), (6, .int (x6)), (7, .int (x7))] [.ref (gAd E (56)), .ref (gAd E (57))] rfl ?_
  refine G.rg r0 hE 5 (.int (rS R 5)) (by decide) rfl (tbd tv_X12_feed rfl) w_2070 ?_
  refine G.go tv_X12_feed 5 95 [(0, .ref (gAd E (56))), (1, .int (x1)), (2, .int (x2)), (3, .int (x3)), (4, .int (x4)), (5, .int (x5)), (6, .int (x6)), (7, .int (x7))] [.int ((4 : Int32)), .int (x6), .int ((8 : Int32)), .int ((24 : Int32)), .int (x7), .int (rS R 5), .ref (gAd E (57))] rfl ?_
  refine G.irem (by decide) (tbd tv_X12_feed rfl) ?_
  refine G.go tv_X12_feed 4 100 [(0, .ref (gAd E (56))), (1, .int (x1)), (2, .int (x2)), (3, .int (x3)), (4, .int (x4)), (5, .int (x5)), (6, .int (x6)), (7, .int (x7))] [.int ((((x7 : Int32).toUInt32 >>> ((((24 : Int32)) - (((8 : Int32)) * ((x6) - (x6) / ((4 : Int32)) * ((4 : Int32)))) : Int32).toUInt32 &&& Int32.toUInt32 31)).toInt32 : Int32).toInt8.toInt32), .int (rS R 5), .ref (gAd E (57))] rfl ?_
  obtain ⟨R41, b41, eR41, hr⟩ := stR_s hr
  refine G.bast (57) (by omega) (r0.a4) b41 (tbd tv_X12_feed rfl) ?_
  refine G.gen (P := fun w9 => RfV E w9 (setSr (setS R41 42 az) sy) ∧ Fr RfK f0 w9) ⟨by rw [eR41]; exact r0.p4 _, Fr.up hf ⟨by decide, by decide⟩⟩ (fun u41 p41 => ?_)
  obtain ⟨r41, h41⟩ := p41
  refine G.go tv_X12_feed 2 103 [(0, .ref (gAd E (56))), (1, .int (x1)), (2, .int (x2)), (3, .int (x3)), (4, .int (x4)), (5, .int (x5)), (6, .int (x6)), (7, .int (x7))] [.ref (gAd E (56)), .ref (gAd E (56))] rfl ?_
  refine G.rg r41 hE 5 (.int (rS R41 5)) (by decide) rfl (tbd tv_X12_feed rfl) w_2070 ?_
  refine G.go tv_X12_feed 2 108 [(0, .ref (gAd E (56))), (1, .int (x1)), (2, .int (x2)), (3, .int (x3)), (4, .int (x4)), (5, .int (x5)), (6, .int (x6)), (7, .int (x7))] [.int ((rS R41 5) + ((1 : Int32))), .ref (gAd E (56))] rfl ?_
  obtain ⟨R42, eR42, hr⟩ := ptR_s hr
  refine G.rpW r41 hE 5 eR42 (by decide) rfl (by decide) rfl rfl rfl (tbd tv_X12_feed rfl) w_2070 (fun u42 r42 h42 => ?_)
  refine G.go tv_X12_feed 2 23 [(0, .ref (gAd E (56))), (1, .int (x1)), (2, .int (x2)), (3, .int (x3)), (4, .int (x4)), (5, .int (x5)), (6, .int (x6 + (1 : Int32))), (7, .int (x7))] [] rfl ?_
  refine G.less [(0, .ref (gAd E (56))), (1, .int (x1)), (2, .int (x2)), (3, .int (x3)), (4, .int (x4)), (5, .int (x5)), (6, .int (x6 + (1 : Int32)))] [0, 1, 2, 3, 4, 5, 6] rfl ?_
  exact hs23 _ _ _ _ _ _ _ _ _ hr _ ⟨_, _, r42⟩ (h41.tr h42 (fun _ h => h))
set_option maxRecDepth 100000 in
set_option maxHeartbeats 4000000 in
theorem l_X12_feed_23 (E : gE) (f0 : Nat → va_E) (sz : Nat) (QA : Nat → Prop) (hE : 94 ≤ gN E) : ∀ (n : Nat), ∀ (R : RfT) (x1 : Int32) (x2 : Int32) (x3 : Int32) (x4 : Int32) (x5 : Int32) (x6 : Int32) (r : Int32) (R9 : RfT) (hr : e_feed_23  n R x1 x2 x3 x4 x5 x6 = some (r, R9)) (f : Nat → va_E) (w : RW E f R) (hf : Fr RfK f0 f), G E (1, yX12_feed, 8, (some .int), sz, QA) cX12_feed (gO E (1, yX12_feed, 8, (some .int), sz, QA) (fun v g => v = some (.int r) ∧ RW E g R9 ∧ Fr RfK f0 g, fun _ _ => False)) 23 [(0, .ref (gAd E (56))), (1, .int (x1)), (2, .int (x2)), (3, .int (x3)), (4, .int (x4)), (5, .int (x5)), (6, .int (x6))] [] f := by
  intro n
  induction n with
  | zero =>
    intro R x1 x2 x3 x4 x5 x6 r R9 hr f w hf
    cases hr
  | succ n ih =>
    intro R x1 x2 x3 x4 x5 x6 r R9 hr f w hf
    obtain ⟨az, sy, r0⟩ := w
    unfold e_feed_23 at hr
    refine G.go tv_X12_feed 2 27 [(0, .ref (gAd E (56))), (1, .int (x1)), (2, .int (x2)), (3, .int (x3)), (4, .int (x4)), (5, .int (x5)), (6, .int (x6))] [.int ((20 : Int32)), .int (x6)] rfl ?_
    refine G.cmp_ge 117 (tbd tv_X12_feed rfl) (by decide) (fun c27 => ?_) (fun c27 => ?_)
    · replace hr := ite_t c27 hr
      refine G.go tv_X12_feed 1 118 [(0, .ref (gAd E (56))), (1, .int (x1)), (2, .int (x2)), (3, .int (x3)), (4, .int (x4)), (5, .int (x5)), (6, .int (x6))] [.ref (gAd E (56))] rfl ?_
      refine G.rg r0 hE 5 (.int (rS R 5)) (by decide) rfl (tbd tv_X12_feed rfl) w_2070 ?_
      cases hr
      exact G.iret rfl rfl ⟨rfl, ⟨_, _, r0⟩, hf⟩ (tbd tv_X12_feed rfl)
    · replace hr := ite_f c27 hr
      refine G.go tv_X12_feed 2 33 [(0, .ref (gAd E (56))), (1, .int (x1)), (2, .int (x2)), (3, .int (x3)), (4, .int (x4)), (5, .int (x5)), (6, .int (x6))] [.int ((4 : Int32)), .int (x6)] rfl ?_
      refine G.cmp_ge 40 (tbd tv_X12_feed rfl) (by decide) (fun c33 => ?_) (fun c33 => ?_)
      · replace hr := ite_t c33 hr
        refine G.go tv_X12_feed 2 44 [(0, .ref (gAd E (56))), (1, .int (x1)), (2, .int (x2)), (3, .int (x3)), (4, .int (x4)), (5, .int (x5)), (6, .int (x6))] [.int ((8 : Int32)), .int (x6)] rfl ?_
        refine G.cmp_ge 51 (tbd tv_X12_feed rfl) (by decide) (fun c44 => ?_) (fun c44 => ?_)
        · replace hr := ite_t c44 hr
          refine G.go tv_X12_feed 2 55 [(0, .ref (gAd E (56))), (1, .int (x1)), (2, .int (x2)), (3, .int (x3)), (4, .int (x4)), (5, .int (x5)), (6, .int (x6))] [.int ((12 : Int32)), .int (x6)] rfl ?_
          refine G.cmp_ge 62 (tbd tv_X12_feed rfl) (by decide) (fun c55 => ?_) (fun c55 => ?_)
          · replace hr := ite_t c55 hr
            refine G.go tv_X12_feed 2 66 [(0, .ref (gAd E (56))), (1, .int (x1)), (2, .int (x2)), (3, .int (x3)), (4, .int (x4)), (5, .int (x5)), (6, .int (x6))] [.int ((16 : Int32)), .int (x6)] rfl ?_
            refine G.cmp_ge 74 (tbd tv_X12_feed rfl) (by decide) (fun c66 => ?_) (fun c66 => ?_)
            · replace hr := ite_t c66 hr
              refine G.go tv_X12_feed 2 78 [(0, .ref (gAd E (56))), (1, .int (x1)), (2, .int (x2)), (3, .int (x3)), (4, .int (x4)), (5, .int (x5)), (6, .int (x6)), (7, .int (x5))] [] rfl ?_
              refine G.less [(0, .ref (gAd E (56))), (1, .int (x1)), (2, .int (x2)), (3, .int (x3)), (4, .int (x4)), (5, .int (x5)), (6, .int (x6)), (7, .int (x5))] [0, 1, 2, 3, 4, 5, 6, 7] rfl ?_
              exact l_X12_feed_78 E f0 sz QA hE _ ih _ _ _ _ _ _ _ _ _ _ hr _ ⟨_, _, r0⟩ hf
            · replace hr := ite_f c66 hr
              refine G.go tv_X12_feed 3 78 [(0, .ref (gAd E (56))), (1, .int (x1)), (2, .int (x2)), (3, .int (x3)), (4, .int (x4)), (5, .int (x5)), (6, .int (x6)), (7, .int (x4))] [] rfl ?_
              refine G.less [(0, .ref (gAd E (56))), (1, .int (x1)), (2, .int (x2)), (3, .int (x3)), (4, .int (x4)), (5, .int (x5)), (6, .int (x6)), (7, .int (x4))] [0, 1, 2, 3, 4, 5, 6, 7] rfl ?_
              exact l_X12_feed_78 E f0 sz QA hE _ ih _ _ _ _ _ _ _ _ _ _ hr _ ⟨_, _, r0⟩ hf
          · replace hr := ite_f c55 hr
            refine G.go tv_X12_feed 3 78 [(0, .ref (gAd E (56))), (1, .int (x1)), (2, .int (x2)), (3, .int (x3)), (4, .int (x4)), (5, .int (x5)), (6, .int (x6)), (7, .int (x3))] [] rfl ?_
            refine G.less [(0, .ref (gAd E (56))), (1, .int (x1)), (2, .int (x2)), (3, .int (x3)), (4, .int (x4)), (5, .int (x5)), (6, .int (x6)), (7, .int (x3))] [0, 1, 2, 3, 4, 5, 6, 7] rfl ?_
            exact l_X12_feed_78 E f0 sz QA hE _ ih _ _ _ _ _ _ _ _ _ _ hr _ ⟨_, _, r0⟩ hf
        · replace hr := ite_f c44 hr
          refine G.go tv_X12_feed 3 78 [(0, .ref (gAd E (56))), (1, .int (x1)), (2, .int (x2)), (3, .int (x3)), (4, .int (x4)), (5, .int (x5)), (6, .int (x6)), (7, .int (x2))] [] rfl ?_
          refine G.less [(0, .ref (gAd E (56))), (1, .int (x1)), (2, .int (x2)), (3, .int (x3)), (4, .int (x4)), (5, .int (x5)), (6, .int (x6)), (7, .int (x2))] [0, 1, 2, 3, 4, 5, 6, 7] rfl ?_
          exact l_X12_feed_78 E f0 sz QA hE _ ih _ _ _ _ _ _ _ _ _ _ hr _ ⟨_, _, r0⟩ hf
      · replace hr := ite_f c33 hr
        refine G.go tv_X12_feed 3 78 [(0, .ref (gAd E (56))), (1, .int (x1)), (2, .int (x2)), (3, .int (x3)), (4, .int (x4)), (5, .int (x5)), (6, .int (x6)), (7, .int (x1))] [] rfl ?_
        refine G.less [(0, .ref (gAd E (56))), (1, .int (x1)), (2, .int (x2)), (3, .int (x3)), (4, .int (x4)), (5, .int (x5)), (6, .int (x6)), (7, .int (x1))] [0, 1, 2, 3, 4, 5, 6, 7] rfl ?_
        exact l_X12_feed_78 E f0 sz QA hE _ ih _ _ _ _ _ _ _ _ _ _ hr _ ⟨_, _, r0⟩ hf
set_option maxRecDepth 100000 in
set_option maxHeartbeats 4000000 in
theorem k_X12_feed (E : gE) (f : Nat → va_E) (hE : 94 ≤ gN E) (R : RfT) (w : RW E f R) (a0 : Int32) (a1 : Int32) (a2 : Int32) (a3 : Int32) (a4 : Int32) (r : Int32) (R9 : RfT) (hr : e_feed R a0 a1 a2 a3 a4 = some (r, R9)) : Ct E 1 yX12_feed cX12_feed 8 (some .int) [.ref (gAd E (56)), .int (a0), .int (a1), .int (a2), .int (a3), .int (a4)] f (fun v g => v = some (.int r) ∧ RW E g R9 ∧ Fr RfK f g, fun _ _ => False) := by
  obtain ⟨az, sy, r0⟩ := w
  refine Ct.of (by decide) (Nat.le_of_ble_eq_true rfl) (fun sz => ?_)
  refine G.eql [(0, .ref (gAd E (56))), (1, .int (a0)), (2, .int (a1)), (3, .int (a2)), (4, .int (a3)), (5, .int (a4))] rfl ?_
  unfold e_feed at hr
  refine G.go tv_X12_feed 2 2 [(0, .ref (gAd E (56))), (1, .int (a0)), (2, .int (a1)), (3, .int (a2)), (4, .int (a3)), (5, .int (a4))] [.int ((0 : Int32)), .ref (gAd E (56))] rfl ?_
  obtain ⟨R40, eR40, hr⟩ := ptR_s hr
  refine G.rpW r0 hE 0 eR40 (by decide) rfl (by decide) rfl rfl rfl (tbd tv_X12_feed rfl) w_2065 (fun u40 r40 h40 => ?_)
  refine G.go tv_X12_feed 1 6 [(0, .ref (gAd E (56))), (1, .int (a0)), (2, .int (a1)), (3, .int (a2)), (4, .int (a3)), (5, .int (a4))] [.ref (gAd E (56))] rfl ?_
  refine G.rg r40 hE 5 (.int (rS R40 5)) (by decide) rfl (tbd tv_X12_feed rfl) w_2070 ?_
  refine G.go tv_X12_feed 3 15 [(0, .ref (gAd E (56))), (1, .int (a0)), (2, .int (a1)), (3, .int (a2)), (4, .int (a3)), (5, .int (a4))] [.int ((1024 : Int32)), .int ((rS R40 5) + ((20 : Int32)))] rfl ?_
  refine G.cmp_le 20 (tbd tv_X12_feed rfl) (by decide) (fun c15 => ?_) (fun c15 => ?_)
  · replace hr := ite_t c15 hr
    refine G.go tv_X12_feed 2 23 [(0, .ref (gAd E (56))), (1, .int (a0)), (2, .int (a1)), (3, .int (a2)), (4, .int (a3)), (5, .int (a4)), (6, .int ((0 : Int32)))] [] rfl ?_
    refine G.less [(0, .ref (gAd E (56))), (1, .int (a0)), (2, .int (a1)), (3, .int (a2)), (4, .int (a3)), (5, .int (a4)), (6, .int ((0 : Int32)))] [0, 1, 2, 3, 4, 5, 6] rfl ?_
    exact l_X12_feed_23 E f sz _ hE _ _ _ _ _ _ _ _ _ _ hr _ ⟨_, _, r40⟩ (Fr.rf.tr h40 (fun _ h => h))
  · replace hr := ite_f c15 hr
    refine G.go tv_X12_feed 1 19 [(0, .ref (gAd E (56))), (1, .int (a0)), (2, .int (a1)), (3, .int (a2)), (4, .int (a3)), (5, .int (a4))] [.int ((-1 : Int32))] rfl ?_
    cases hr
    exact G.iret rfl rfl ⟨rfl, ⟨_, _, r40⟩, (Fr.rf.tr h40 (fun _ h => h))⟩ (tbd tv_X12_feed rfl)
def e_back  (R : RfT) (a0 : Int32) : Option (Int32 × RfT) := ptR R 0 ((0 : Int32)) (fun R43 => if a0 < 0 then some ((-1 : Int32), R43) else if a0 ≤ (rS R43 5) then ptR R43 5 ((rS R43 5) - (a0)) (fun R44 => some (rS R44 5, R44)) else some ((-1 : Int32), R43))
set_option maxRecDepth 100000 in
set_option maxHeartbeats 4000000 in
theorem k_X12_back (E : gE) (f : Nat → va_E) (hE : 94 ≤ gN E) (R : RfT) (w : RW E f R) (a0 : Int32) (r : Int32) (R9 : RfT) (hr : e_back R a0 = some (r, R9)) : Ct E 1 yX12_back cX12_back 2 (some .int) [.ref (gAd E (56)), .int (a0)] f (fun v g => v = some (.int r) ∧ RW E g R9 ∧ Fr RfK f g, fun _ _ => False) := by
  obtain ⟨az, sy, r0⟩ := w
  refine Ct.of (by decide) (Nat.le_of_ble_eq_true rfl) (fun sz => ?_)
  refine G.eql [(0, .ref (gAd E (56))), (1, .int (a0))] rfl ?_
  unfold e_back at hr
  refine G.go tv_X12_back 2 2 [(0, .ref (gAd E (56))), (1, .int (a0))] [.int ((0 : Int32)), .ref (gAd E (56))] rfl ?_
  obtain ⟨R43, eR43, hr⟩ := ptR_s hr
  refine G.rpW r0 hE 0 eR43 (by decide) rfl (by decide) rfl rfl rfl (tbd tv_X12_back rfl) w_2065 (fun u43 r43 h43 => ?_)
  refine G.go tv_X12_back 1 6 [(0, .ref (gAd E (56))), (1, .int (a0))] [.int (a0)] rfl ?_
  refine G.if_lt 17 (tbd tv_X12_back rfl) (by decide) (fun c6 => ?_) (fun c6 => ?_)
  · replace hr := ite_t c6 hr
    refine G.go tv_X12_back 1 18 [(0, .ref (gAd E (56))), (1, .int (a0))] [.int ((-1 : Int32))] rfl ?_
    cases hr
    exact G.iret rfl rfl ⟨rfl, ⟨_, _, r43⟩, (Fr.rf.tr h43 (fun _ h => h))⟩ (tbd tv_X12_back rfl)
  · replace hr := ite_f c6 hr
    refine G.go tv_X12_back 2 11 [(0, .ref (gAd E (56))), (1, .int (a0))] [.ref (gAd E (56)), .int (a0)] rfl ?_
    refine G.rg r43 hE 5 (.int (rS R43 5)) (by decide) rfl (tbd tv_X12_back rfl) w_2070 ?_
    refine G.cmp_le 19 (tbd tv_X12_back rfl) (by decide) (fun c14 => ?_) (fun c14 => ?_)
    · replace hr := ite_t c14 hr
      refine G.go tv_X12_back 2 21 [(0, .ref (gAd E (56))), (1, .int (a0))] [.ref (gAd E (56)), .ref (gAd E (56))] rfl ?_
      refine G.rg r43 hE 5 (.int (rS R43 5)) (by decide) rfl (tbd tv_X12_back rfl) w_2070 ?_
      refine G.go tv_X12_back 2 26 [(0, .ref (gAd E (56))), (1, .int (a0))] [.int ((rS R43 5) - (a0)), .ref (gAd E (56))] rfl ?_
      obtain ⟨R44, eR44, hr⟩ := ptR_s hr
      refine G.rpW r43 hE 5 eR44 (by decide) rfl (by decide) rfl rfl rfl (tbd tv_X12_back rfl) w_2070 (fun u44 r44 h44 => ?_)
      refine G.go tv_X12_back 1 30 [(0, .ref (gAd E (56))), (1, .int (a0))] [.ref (gAd E (56))] rfl ?_
      refine G.rg r44 hE 5 (.int (rS R44 5)) (by decide) rfl (tbd tv_X12_back rfl) w_2070 ?_
      cases hr
      exact G.iret rfl rfl ⟨rfl, ⟨_, _, r44⟩, ((Fr.rf.tr h43 (fun _ h => h)).tr h44 (fun _ h => h))⟩ (tbd tv_X12_back rfl)
    · replace hr := ite_f c14 hr
      refine G.go tv_X12_back 1 18 [(0, .ref (gAd E (56))), (1, .int (a0))] [.int ((-1 : Int32))] rfl ?_
      cases hr
      exact G.iret rfl rfl ⟨rfl, ⟨_, _, r43⟩, (Fr.rf.tr h43 (fun _ h => h))⟩ (tbd tv_X12_back rfl)
def e_nowhere_76_2  : Nat → RfT → Int32 → Option (RfT)
  | 0, _, _ => none
  | n + 1, R, x1 => if ((1024 : Int32)) ≤ x1 then some R else stR R 39 1024 x1 ((-1 : Int32)) (fun R55 => e_nowhere_76_2  n R55 (x1 + (1 : Int32)))
def e_nowhere_76  (R : RfT) : Option (RfT) := e_nowhere_76_2  fuL R ((0 : Int32))
set_option maxRecDepth 100000 in
set_option maxHeartbeats 4000000 in
theorem l_X12_nowhere_76_2 (E : gE) (f0 : Nat → va_E) (sz : Nat) (QA : Nat → Prop) (hE : 94 ≤ gN E) : ∀ (n : Nat), ∀ (R : RfT) (x1 : Int32) (R9 : RfT) (hr : e_nowhere_76_2  n R x1 = some R9) (f : Nat → va_E) (w : RW E f R) (hf : Fr RfK f0 f), G E (1, yX12_nowhere, 2, none, sz, QA) cX12_nowhere (gO E (1, yX12_nowhere, 2, none, sz, QA) (fun v g => v = none ∧ RW E g R9 ∧ Fr RfK f0 g, fun _ _ => False)) 2 [(0, .ref (gAd E (76))), (1, .int (x1))] [] f := by
  intro n
  induction n with
  | zero =>
    intro R x1 R9 hr f w hf
    cases hr
  | succ n ih =>
    intro R x1 R9 hr f w hf
    obtain ⟨az, sy, r0⟩ := w
    unfold e_nowhere_76_2 at hr
    refine G.go tv_X12_nowhere 2 6 [(0, .ref (gAd E (76))), (1, .int (x1))] [.int ((1024 : Int32)), .int (x1)] rfl ?_
    refine G.cmp_ge 19 (tbd tv_X12_nowhere rfl) (by decide) (fun c6 => ?_) (fun c6 => ?_)
    · replace hr := ite_t c6 hr
      cases hr
      exact G.vret rfl ⟨rfl, ⟨_, _, r0⟩, hf⟩ (tbd tv_X12_nowhere rfl)
    · replace hr := ite_f c6 hr
      refine G.go tv_X12_nowhere 3 12 [(0, .ref (gAd E (76))), (1, .int (x1))] [.int ((-1 : Int32)), .int (x1), .ref (gAd E (76))] rfl ?_
      obtain ⟨R55, b55, eR55, hr⟩ := stR_s hr
      refine G.iast (76) (by omega) (r0.a39) b55 (tbd tv_X12_nowhere rfl) ?_
      refine G.gen (P := fun w9 => RfV E w9 (setSr (setS R55 42 az) sy) ∧ Fr RfK f0 w9) ⟨by rw [eR55]; exact r0.p39 _, Fr.up hf ⟨by decide, by decide⟩⟩ (fun u55 p55 => ?_)
      obtain ⟨r55, h55⟩ := p55
      refine G.go tv_X12_nowhere 2 2 [(0, .ref (gAd E (76))), (1, .int (x1 + (1 : Int32)))] [] rfl ?_
      refine G.less [(0, .ref (gAd E (76))), (1, .int (x1 + (1 : Int32)))] [0, 1] rfl ?_
      exact ih _ _ _ hr _ ⟨_, _, r55⟩ h55
set_option maxRecDepth 100000 in
set_option maxHeartbeats 4000000 in
theorem k_X12_nowhere_76 (E : gE) (f : Nat → va_E) (hE : 94 ≤ gN E) (R : RfT) (w : RW E f R) (R9 : RfT) (hr : e_nowhere_76 R = some R9) : Ct E 1 yX12_nowhere cX12_nowhere 2 none [.ref (gAd E (76))] f (fun v g => v = none ∧ RW E g R9 ∧ Fr RfK f g, fun _ _ => False) := by
  obtain ⟨az, sy, r0⟩ := w
  refine Ct.of (by decide) (Nat.le_of_ble_eq_true rfl) (fun sz => ?_)
  refine G.eql [(0, .ref (gAd E (76)))] rfl ?_
  unfold e_nowhere_76 at hr
  refine G.go tv_X12_nowhere 2 2 [(0, .ref (gAd E (76))), (1, .int ((0 : Int32)))] [] rfl ?_
  refine G.less [(0, .ref (gAd E (76))), (1, .int ((0 : Int32)))] [0, 1] rfl ?_
  exact l_X12_nowhere_76_2 E f sz _ hE _ _ _ _ hr _ ⟨_, _, r0⟩ Fr.rf
def e_nothingKnown_45  : Nat → RfT → Int32 → Option (RfT)
  | 0, _, _ => none
  | n + 1, R, x1 => if ((32 : Int32)) ≤ x1 then ptR R 34 ((0 : Int32)) (fun R59 => some R59) else stR R 53 32 x1 ((0 : Int32)) (fun R60 => e_nothingKnown_45  n R60 (x1 + (1 : Int32)))
def e_nothingKnown_24  : Nat → RfT → Int32 → Option (RfT)
  | 0, _, _ => none
  | n + 1, R, x1 => if ((65 : Int32)) ≤ x1 then e_nothingKnown_45  fuL R ((0 : Int32)) else stR R 52 65 x1 ((0 : Int32)) (fun R58 => e_nothingKnown_24  n R58 (x1 + (1 : Int32)))
def e_nothingKnown_2  : Nat → RfT → Int32 → Option (RfT)
  | 0, _, _ => none
  | n + 1, R, x1 => if ((1024 : Int32)) ≤ x1 then e_nothingKnown_24  fuL R ((0 : Int32)) else stR R 35 1024 x1 (vp_nar .byte ((0 : Int32))) (fun R57 => e_nothingKnown_2  n R57 (x1 + (1 : Int32)))
def e_nothingKnown  (R : RfT) : Option (RfT) := e_nothingKnown_2  fuL R ((0 : Int32))
set_option maxRecDepth 100000 in
set_option maxHeartbeats 4000000 in
theorem l_X12_nothingKnown_45 (E : gE) (f0 : Nat → va_E) (sz : Nat) (QA : Nat → Prop) (hE : 94 ≤ gN E) : ∀ (n : Nat), ∀ (R : RfT) (x1 : Int32) (R9 : RfT) (hr : e_nothingKnown_45  n R x1 = some R9) (f : Nat → va_E) (w : RW E f R) (hf : Fr RfK f0 f), G E (1, yX12_nothingKnown, 2, none, sz, QA) cX12_nothingKnown (gO E (1, yX12_nothingKnown, 2, none, sz, QA) (fun v g => v = none ∧ RW E g R9 ∧ Fr RfK f0 g, fun _ _ => False)) 45 [(0, .ref (gAd E (56))), (1, .int (x1))] [] f := by
  intro n
  induction n with
  | zero =>
    intro R x1 R9 hr f w hf
    cases hr
  | succ n ih =>
    intro R x1 R9 hr f w hf
    obtain ⟨az, sy, r0⟩ := w
    unfold e_nothingKnown_45 at hr
    refine G.go tv_X12_nothingKnown 2 48 [(0, .ref (gAd E (56))), (1, .int (x1))] [.int ((32 : Int32)), .int (x1)] rfl ?_
    refine G.cmp_ge 64 (tbd tv_X12_nothingKnown rfl) (by decide) (fun c48 => ?_) (fun c48 => ?_)
    · replace hr := ite_t c48 hr
      refine G.go tv_X12_nothingKnown 2 66 [(0, .ref (gAd E (56))), (1, .int (x1))] [.int ((0 : Int32)), .ref (gAd E (56))] rfl ?_
      obtain ⟨R59, eR59, hr⟩ := ptR_s hr
      refine G.rpW r0 hE 34 eR59 (by decide) rfl (by decide) rfl rfl rfl (tbd tv_X12_nothingKnown rfl) w_2099 (fun u59 r59 h59 => ?_)
      cases hr
      exact G.vret rfl ⟨rfl, ⟨_, _, r59⟩, (hf.tr h59 (fun _ h => h))⟩ (tbd tv_X12_nothingKnown rfl)
    · replace hr := ite_f c48 hr
      refine G.go tv_X12_nothingKnown 1 52 [(0, .ref (gAd E (56))), (1, .int (x1))] [.ref (gAd E (56))] rfl ?_
      refine G.rg r0 hE 53 (.ref (gAd E (87))) (by decide) rfl (tbd tv_X12_nothingKnown rfl) w_2118 ?_
      refine G.go tv_X12_nothingKnown 2 57 [(0, .ref (gAd E (56))), (1, .int (x1))] [.int ((0 : Int32)), .int (x1), .ref (gAd E (87))] rfl ?_
      obtain ⟨R60, b60, eR60, hr⟩ := stR_s hr
      refine G.iast (87) (by omega) (r0.a53) b60 (tbd tv_X12_nothingKnown rfl) ?_
      refine G.gen (P := fun w9 => RfV E w9 (setSr (setS R60 42 az) sy) ∧ Fr RfK f0 w9) ⟨by rw [eR60]; exact r0.p53 _, Fr.up hf ⟨by decide, by decide⟩⟩ (fun u60 p60 => ?_)
      obtain ⟨r60, h60⟩ := p60
      refine G.go tv_X12_nothingKnown 2 45 [(0, .ref (gAd E (56))), (1, .int (x1 + (1 : Int32)))] [] rfl ?_
      refine G.less [(0, .ref (gAd E (56))), (1, .int (x1 + (1 : Int32)))] [0, 1] rfl ?_
      exact ih _ _ _ hr _ ⟨_, _, r60⟩ h60
set_option maxRecDepth 100000 in
set_option maxHeartbeats 4000000 in
theorem l_X12_nothingKnown_24 (E : gE) (f0 : Nat → va_E) (sz : Nat) (QA : Nat → Prop) (hE : 94 ≤ gN E) : ∀ (n : Nat), ∀ (R : RfT) (x1 : Int32) (R9 : RfT) (hr : e_nothingKnown_24  n R x1 = some R9) (f : Nat → va_E) (w : RW E f R) (hf : Fr RfK f0 f), G E (1, yX12_nothingKnown, 2, none, sz, QA) cX12_nothingKnown (gO E (1, yX12_nothingKnown, 2, none, sz, QA) (fun v g => v = none ∧ RW E g R9 ∧ Fr RfK f0 g, fun _ _ => False)) 24 [(0, .ref (gAd E (56))), (1, .int (x1))] [] f := by
  intro n
  induction n with
  | zero =>
    intro R x1 R9 hr f w hf
    cases hr
  | succ n ih =>
    intro R x1 R9 hr f w hf
    obtain ⟨az, sy, r0⟩ := w
    unfold e_nothingKnown_24 at hr
    refine G.go tv_X12_nothingKnown 2 27 [(0, .ref (gAd E (56))), (1, .int (x1))] [.int ((65 : Int32)), .int (x1)] rfl ?_
    refine G.cmp_ge 43 (tbd tv_X12_nothingKnown rfl) (by decide) (fun c27 => ?_) (fun c27 => ?_)
    · replace hr := ite_t c27 hr
      refine G.go tv_X12_nothingKnown 2 45 [(0, .ref (gAd E (56))), (1, .int ((0 : Int32)))] [] rfl ?_
      refine G.less [(0, .ref (gAd E (56))), (1, .int ((0 : Int32)))] [0, 1] rfl ?_
      exact l_X12_nothingKnown_45 E f0 sz QA hE _ _ _ _ hr _ ⟨_, _, r0⟩ hf
    · replace hr := ite_f c27 hr
      refine G.go tv_X12_nothingKnown 1 31 [(0, .ref (gAd E (56))), (1, .int (x1))] [.ref (gAd E (56))] rfl ?_
      refine G.rg r0 hE 52 (.ref (gAd E (86))) (by decide) rfl (tbd tv_X12_nothingKnown rfl) w_2117 ?_
      refine G.go tv_X12_nothingKnown 2 36 [(0, .ref (gAd E (56))), (1, .int (x1))] [.int ((0 : Int32)), .int (x1), .ref (gAd E (86))] rfl ?_
      obtain ⟨R58, b58, eR58, hr⟩ := stR_s hr
      refine G.iast (86) (by omega) (r0.a52) b58 (tbd tv_X12_nothingKnown rfl) ?_
      refine G.gen (P := fun w9 => RfV E w9 (setSr (setS R58 42 az) sy) ∧ Fr RfK f0 w9) ⟨by rw [eR58]; exact r0.p52 _, Fr.up hf ⟨by decide, by decide⟩⟩ (fun u58 p58 => ?_)
      obtain ⟨r58, h58⟩ := p58
      refine G.go tv_X12_nothingKnown 2 24 [(0, .ref (gAd E (56))), (1, .int (x1 + (1 : Int32)))] [] rfl ?_
      refine G.less [(0, .ref (gAd E (56))), (1, .int (x1 + (1 : Int32)))] [0, 1] rfl ?_
      exact ih _ _ _ hr _ ⟨_, _, r58⟩ h58
set_option maxRecDepth 100000 in
set_option maxHeartbeats 4000000 in
theorem l_X12_nothingKnown_2 (E : gE) (f0 : Nat → va_E) (sz : Nat) (QA : Nat → Prop) (hE : 94 ≤ gN E) : ∀ (n : Nat), ∀ (R : RfT) (x1 : Int32) (R9 : RfT) (hr : e_nothingKnown_2  n R x1 = some R9) (f : Nat → va_E) (w : RW E f R) (hf : Fr RfK f0 f), G E (1, yX12_nothingKnown, 2, none, sz, QA) cX12_nothingKnown (gO E (1, yX12_nothingKnown, 2, none, sz, QA) (fun v g => v = none ∧ RW E g R9 ∧ Fr RfK f0 g, fun _ _ => False)) 2 [(0, .ref (gAd E (56))), (1, .int (x1))] [] f := by
  intro n
  induction n with
  | zero =>
    intro R x1 R9 hr f w hf
    cases hr
  | succ n ih =>
    intro R x1 R9 hr f w hf
    obtain ⟨az, sy, r0⟩ := w
    unfold e_nothingKnown_2 at hr
    refine G.go tv_X12_nothingKnown 2 6 [(0, .ref (gAd E (56))), (1, .int (x1))] [.int ((1024 : Int32)), .int (x1)] rfl ?_
    refine G.cmp_ge 22 (tbd tv_X12_nothingKnown rfl) (by decide) (fun c6 => ?_) (fun c6 => ?_)
    · replace hr := ite_t c6 hr
      refine G.go tv_X12_nothingKnown 2 24 [(0, .ref (gAd E (56))), (1, .int ((0 : Int32)))] [] rfl ?_
      refine G.less [(0, .ref (gAd E (56))), (1, .int ((0 : Int32)))] [0, 1] rfl ?_
      exact l_X12_nothingKnown_24 E f0 sz QA hE _ _ _ _ hr _ ⟨_, _, r0⟩ hf
    · replace hr := ite_f c6 hr
      refine G.go tv_X12_nothingKnown 1 10 [(0, .ref (gAd E (56))), (1, .int (x1))] [.ref (gAd E (56))] rfl ?_
      refine G.rg r0 hE 35 (.ref (gAd E (72))) (by decide) rfl (tbd tv_X12_nothingKnown rfl) w_2100 ?_
      refine G.go tv_X12_nothingKnown 2 15 [(0, .ref (gAd E (56))), (1, .int (x1))] [.int ((0 : Int32)), .int (x1), .ref (gAd E (72))] rfl ?_
      obtain ⟨R57, b57, eR57, hr⟩ := stR_s hr
      refine G.bast (72) (by omega) (r0.a35) b57 (tbd tv_X12_nothingKnown rfl) ?_
      refine G.gen (P := fun w9 => RfV E w9 (setSr (setS R57 42 az) sy) ∧ Fr RfK f0 w9) ⟨by rw [eR57]; exact r0.p35 _, Fr.up hf ⟨by decide, by decide⟩⟩ (fun u57 p57 => ?_)
      obtain ⟨r57, h57⟩ := p57
      refine G.go tv_X12_nothingKnown 2 2 [(0, .ref (gAd E (56))), (1, .int (x1 + (1 : Int32)))] [] rfl ?_
      refine G.less [(0, .ref (gAd E (56))), (1, .int (x1 + (1 : Int32)))] [0, 1] rfl ?_
      exact ih _ _ _ hr _ ⟨_, _, r57⟩ h57
set_option maxRecDepth 100000 in
set_option maxHeartbeats 4000000 in
theorem k_X12_nothingKnown (E : gE) (f : Nat → va_E) (hE : 94 ≤ gN E) (R : RfT) (w : RW E f R) (R9 : RfT) (hr : e_nothingKnown R = some R9) : Ct E 1 yX12_nothingKnown cX12_nothingKnown 2 none [.ref (gAd E (56))] f (fun v g => v = none ∧ RW E g R9 ∧ Fr RfK f g, fun _ _ => False) := by
  obtain ⟨az, sy, r0⟩ := w
  refine Ct.of (by decide) (Nat.le_of_ble_eq_true rfl) (fun sz => ?_)
  refine G.eql [(0, .ref (gAd E (56)))] rfl ?_
  unfold e_nothingKnown at hr
  refine G.go tv_X12_nothingKnown 2 2 [(0, .ref (gAd E (56))), (1, .int ((0 : Int32)))] [] rfl ?_
  refine G.less [(0, .ref (gAd E (56))), (1, .int ((0 : Int32)))] [0, 1] rfl ?_
  exact l_X12_nothingKnown_2 E f sz _ hE _ _ _ _ hr _ ⟨_, _, r0⟩ Fr.rf
def e_fails  (R : RfT) : Option (RfT) := ptR R 11 ((0 : Int32)) (fun R45 => ptR R45 12 ((-1 : Int32)) (fun R46 => ptR R46 21 ((0 : Int32)) (fun R47 => ptR R47 18 ((0 : Int32)) (fun R48 => ptR R48 25 ((0 : Int32)) (fun R49 => ptR R49 29 ((0 : Int32)) (fun R50 => bnd (e_noWorks R50) (fun R51 => bnd (e_nowhere_74 R51) (fun R52 => bnd (e_nowhere_75 R52) (fun R53 => bnd (e_nowhere_76 R53) (fun R54 => bnd (e_nothingKnown R54) (fun R56 => some R56)))))))))))
set_option maxRecDepth 100000 in
set_option maxHeartbeats 4000000 in
theorem k_X12_fails (E : gE) (f : Nat → va_E) (hE : 94 ≤ gN E) (R : RfT) (w : RW E f R) (R9 : RfT) (hr : e_fails R = some R9) : Ct E 2 yX12_fails cX12_fails 1 none [.ref (gAd E (56))] f (fun v g => v = none ∧ RW E g R9 ∧ Fr RfK f g, fun _ _ => False) := by
  obtain ⟨az, sy, r0⟩ := w
  refine Ct.of (by decide) (Nat.le_of_ble_eq_true rfl) (fun sz => ?_)
  refine G.eql [(0, .ref (gAd E (56)))] rfl ?_
  unfold e_fails at hr
  refine G.go tv_X12_fails 2 2 [(0, .ref (gAd E (56)))] [.int ((0 : Int32)), .ref (gAd E (56))] rfl ?_
  obtain ⟨R45, eR45, hr⟩ := ptR_s hr
  refine G.rpW r0 hE 11 eR45 (by decide) rfl (by decide) rfl rfl rfl (tbd tv_X12_fails rfl) w_2076 (fun u45 r45 h45 => ?_)
  refine G.go tv_X12_fails 2 7 [(0, .ref (gAd E (56)))] [.int ((-1 : Int32)), .ref (gAd E (56))] rfl ?_
  obtain ⟨R46, eR46, hr⟩ := ptR_s hr
  refine G.rpW r45 hE 12 eR46 (by decide) rfl (by decide) rfl rfl rfl (tbd tv_X12_fails rfl) w_2077 (fun u46 r46 h46 => ?_)
  refine G.go tv_X12_fails 2 12 [(0, .ref (gAd E (56)))] [.int ((0 : Int32)), .ref (gAd E (56))] rfl ?_
  obtain ⟨R47, eR47, hr⟩ := ptR_s hr
  refine G.rpW r46 hE 21 eR47 (by decide) rfl (by decide) rfl rfl rfl (tbd tv_X12_fails rfl) w_2086 (fun u47 r47 h47 => ?_)
  refine G.go tv_X12_fails 2 17 [(0, .ref (gAd E (56)))] [.int ((0 : Int32)), .ref (gAd E (56))] rfl ?_
  obtain ⟨R48, eR48, hr⟩ := ptR_s hr
  refine G.rpW r47 hE 18 eR48 (by decide) rfl (by decide) rfl rfl rfl (tbd tv_X12_fails rfl) w_2083 (fun u48 r48 h48 => ?_)
  refine G.go tv_X12_fails 2 22 [(0, .ref (gAd E (56)))] [.int ((0 : Int32)), .ref (gAd E (56))] rfl ?_
  obtain ⟨R49, eR49, hr⟩ := ptR_s hr
  refine G.rpW r48 hE 25 eR49 (by decide) rfl (by decide) rfl rfl rfl (tbd tv_X12_fails rfl) w_2090 (fun u49 r49 h49 => ?_)
  refine G.go tv_X12_fails 2 27 [(0, .ref (gAd E (56)))] [.int ((0 : Int32)), .ref (gAd E (56))] rfl ?_
  obtain ⟨R50, eR50, hr⟩ := ptR_s hr
  refine G.rpW r49 hE 29 eR50 (by decide) rfl (by decide) rfl rfl rfl (tbd tv_X12_fails rfl) w_2094 (fun u50 r50 h50 => ?_)
  refine G.go tv_X12_fails 1 31 [(0, .ref (gAd E (56)))] [.ref (gAd E (56))] rfl ?_
  obtain ⟨R51, hv51, hr⟩ := bnd_s hr
  refine G.callV (56) [] [] (k_X12_noWorks E _ hE R50 ⟨_, _, r50⟩ R51 hv51) cls_X12 (by omega) (r50.o) cw_X12_168 w_2300 w_61 (Nat.le_of_ble_eq_true rfl) rfl (Nat.le_of_ble_eq_true rfl) (tbd tv_X12_fails rfl) (fun v51w f51 q51 => ?_) (fun _ _ h => h.elim)
  obtain ⟨rfl, ⟨az51, sy51, r51⟩, fa51⟩ := q51
  refine G.eqs [] rfl ?_
  refine G.go tv_X12_fails 1 35 [(0, .ref (gAd E (56)))] [.ref (gAd E (56))] rfl ?_
  refine G.rg r51 hE 37 (.ref (gAd E (74))) (by decide) rfl (tbd tv_X12_fails rfl) w_2102 ?_
  obtain ⟨R52, hv52, hr⟩ := bnd_s hr
  refine G.callS [.ref (gAd E (74))] [] (k_X12_nowhere_74 E _ hE R51 ⟨_, _, r51⟩ R52 hv52) cw_X12_140 w_2063 (Nat.le_of_ble_eq_true rfl) rfl (Nat.le_of_ble_eq_true rfl) (tbd tv_X12_fails rfl) (fun v52w f52 q52 => ?_) (fun _ _ h => h.elim)
  obtain ⟨rfl, ⟨az52, sy52, r52⟩, fa52⟩ := q52
  refine G.eqs [] rfl ?_
  refine G.go tv_X12_fails 1 42 [(0, .ref (gAd E (56)))] [.ref (gAd E (56))] rfl ?_
  refine G.rg r52 hE 38 (.ref (gAd E (75))) (by decide) rfl (tbd tv_X12_fails rfl) w_2103 ?_
  obtain ⟨R53, hv53, hr⟩ := bnd_s hr
  refine G.callS [.ref (gAd E (75))] [] (k_X12_nowhere_75 E _ hE R52 ⟨_, _, r52⟩ R53 hv53) cw_X12_140 w_2063 (Nat.le_of_ble_eq_true rfl) rfl (Nat.le_of_ble_eq_true rfl) (tbd tv_X12_fails rfl) (fun v53w f53 q53 => ?_) (fun _ _ h => h.elim)
  obtain ⟨rfl, ⟨az53, sy53, r53⟩, fa53⟩ := q53
  refine G.eqs [] rfl ?_
  refine G.go tv_X12_fails 1 49 [(0, .ref (gAd E (56)))] [.ref (gAd E (56))] rfl ?_
  refine G.rg r53 hE 39 (.ref (gAd E (76))) (by decide) rfl (tbd tv_X12_fails rfl) w_2104 ?_
  obtain ⟨R54, hv54, hr⟩ := bnd_s hr
  refine G.callS [.ref (gAd E (76))] [] (k_X12_nowhere_76 E _ hE R53 ⟨_, _, r53⟩ R54 hv54) cw_X12_140 w_2063 (Nat.le_of_ble_eq_true rfl) rfl (Nat.le_of_ble_eq_true rfl) (tbd tv_X12_fails rfl) (fun v54w f54 q54 => ?_) (fun _ _ h => h.elim)
  obtain ⟨rfl, ⟨az54, sy54, r54⟩, fa54⟩ := q54
  refine G.eqs [] rfl ?_
  refine G.go tv_X12_fails 1 56 [(0, .ref (gAd E (56)))] [.ref (gAd E (56))] rfl ?_
  obtain ⟨R56, hv56, hr⟩ := bnd_s hr
  refine G.callV (56) [] [] (k_X12_nothingKnown E _ hE R54 ⟨_, _, r54⟩ R56 hv56) cls_X12 (by omega) (r54.o) cw_X12_171 w_2304 w_62 (Nat.le_of_ble_eq_true rfl) rfl (Nat.le_of_ble_eq_true rfl) (tbd tv_X12_fails rfl) (fun v56w f56 q56 => ?_) (fun _ _ h => h.elim)
  obtain ⟨rfl, ⟨az56, sy56, r56⟩, fa56⟩ := q56
  refine G.eqs [] rfl ?_
  cases hr
  exact G.vret rfl ⟨rfl, ⟨_, _, r56⟩, (((((((((((Fr.rf.tr h45 (fun _ h => h)).tr h46 (fun _ h => h)).tr h47 (fun _ h => h)).tr h48 (fun _ h => h)).tr h49 (fun _ h => h)).tr h50 (fun _ h => h)).tr fa51 (fun _ h => h)).tr fa52 (fun _ h => h)).tr fa53 (fun _ h => h)).tr fa54 (fun _ h => h)).tr fa56 (fun _ h => h))⟩ (tbd tv_X12_fails rfl)
def e_power_20  (R : RfT) (x1 : Int32) : Option (RfT) := if ((-1 : Int32)) ≤ x1 then bnd2 (e_refuse R ((0 : Int32)) ((2 : Int32))) (fun v63 R63 => if v63 = 0 then ptR R63 12 x1 (fun R64 => some R64) else some R63) else bnd2 (e_refuse R ((1 : Int32)) ((2 : Int32))) (fun v65 R65 => if v65 = 0 then ptR R65 12 x1 (fun R66 => some R66) else some R65)
def e_power  (R : RfT) (a0 : Int32) : Option (RfT) := if (rS R 11) = 0 then bnd2 (e_refuse R ((1 : Int32)) ((1 : Int32))) (fun v62 R62 => if v62 = 0 then e_power_20  R62 a0 else some R62) else bnd2 (e_refuse R ((0 : Int32)) ((1 : Int32))) (fun v61 R61 => if v61 = 0 then e_power_20  R61 a0 else some R61)
set_option maxRecDepth 100000 in
set_option maxHeartbeats 4000000 in
theorem l_X12_power_20 (E : gE) (f0 : Nat → va_E) (sz : Nat) (QA : Nat → Prop) (hE : 94 ≤ gN E) : ∀ (R : RfT) (x1 : Int32) (R9 : RfT) (hr : e_power_20  R x1 = some R9) (f : Nat → va_E) (w : RW E f R) (hf : Fr RfK f0 f), G E (2, yX12_power, 2, none, sz, QA) cX12_power (gO E (2, yX12_power, 2, none, sz, QA) (fun v g => v = none ∧ RW E g R9 ∧ Fr RfK f0 g, fun _ _ => False)) 20 [(0, .ref (gAd E (56))), (1, .int (x1))] [] f := by
  intro R x1 R9 hr f w hf
  obtain ⟨az, sy, r0⟩ := w
  unfold e_power_20 at hr
  refine G.go tv_X12_power 3 23 [(0, .ref (gAd E (56))), (1, .int (x1))] [.int ((-1 : Int32)), .int (x1), .ref (gAd E (56))] rfl ?_
  refine G.cmp_ge 30 (tbd tv_X12_power rfl) (by decide) (fun c23 => ?_) (fun c23 => ?_)
  · replace hr := ite_t c23 hr
    refine G.go tv_X12_power 2 32 [(0, .ref (gAd E (56))), (1, .int (x1))] [.int ((2 : Int32)), .int ((0 : Int32)), .ref (gAd E (56))] rfl ?_
    obtain ⟨v63, R63, hv63, hr⟩ := bnd2_s hr
    refine G.callV (56) [.int ((0 : Int32)), .int ((2 : Int32))] [] (k_X12_refuse E _ hE R ⟨_, _, r0⟩ ((0 : Int32)) ((2 : Int32)) v63 R63 hv63) cls_X12 (by omega) (r0.o) cw_X12_385 w_2268 w_53 (Nat.le_of_ble_eq_true rfl) rfl (Nat.le_of_ble_eq_true rfl) (tbd tv_X12_power rfl) (fun v63w f63 q63 => ?_) (fun _ _ h => h.elim)
    obtain ⟨rfl, ⟨az63, sy63, r63⟩, fa63⟩ := q63
    refine G.eqs [.int (v63)] rfl ?_
    refine G.if_eq 39 (tbd tv_X12_power rfl) (by decide) (fun c35 => ?_) (fun c35 => ?_)
    · replace hr := ite_t c35 hr
      refine G.go tv_X12_power 2 41 [(0, .ref (gAd E (56))), (1, .int (x1))] [.int (x1), .ref (gAd E (56))] rfl ?_
      obtain ⟨R64, eR64, hr⟩ := ptR_s hr
      refine G.rpW r63 hE 12 eR64 (by decide) rfl (by decide) rfl rfl rfl (tbd tv_X12_power rfl) w_2077 (fun u64 r64 h64 => ?_)
      cases hr
      exact G.vret rfl ⟨rfl, ⟨_, _, r64⟩, ((hf.tr fa63 (fun _ h => h)).tr h64 (fun _ h => h))⟩ (tbd tv_X12_power rfl)
    · replace hr := ite_f c35 hr
      cases hr
      exact G.vret rfl ⟨rfl, ⟨_, _, r63⟩, (hf.tr fa63 (fun _ h => h))⟩ (tbd tv_X12_power rfl)
  · replace hr := ite_f c23 hr
    refine G.go tv_X12_power 3 32 [(0, .ref (gAd E (56))), (1, .int (x1))] [.int ((2 : Int32)), .int ((1 : Int32)), .ref (gAd E (56))] rfl ?_
    obtain ⟨v65, R65, hv65, hr⟩ := bnd2_s hr
    refine G.callV (56) [.int ((1 : Int32)), .int ((2 : Int32))] [] (k_X12_refuse E _ hE R ⟨_, _, r0⟩ ((1 : Int32)) ((2 : Int32)) v65 R65 hv65) cls_X12 (by omega) (r0.o) cw_X12_385 w_2268 w_53 (Nat.le_of_ble_eq_true rfl) rfl (Nat.le_of_ble_eq_true rfl) (tbd tv_X12_power rfl) (fun v65w f65 q65 => ?_) (fun _ _ h => h.elim)
    obtain ⟨rfl, ⟨az65, sy65, r65⟩, fa65⟩ := q65
    refine G.eqs [.int (v65)] rfl ?_
    refine G.if_eq 39 (tbd tv_X12_power rfl) (by decide) (fun c35 => ?_) (fun c35 => ?_)
    · replace hr := ite_t c35 hr
      refine G.go tv_X12_power 2 41 [(0, .ref (gAd E (56))), (1, .int (x1))] [.int (x1), .ref (gAd E (56))] rfl ?_
      obtain ⟨R66, eR66, hr⟩ := ptR_s hr
      refine G.rpW r65 hE 12 eR66 (by decide) rfl (by decide) rfl rfl rfl (tbd tv_X12_power rfl) w_2077 (fun u66 r66 h66 => ?_)
      cases hr
      exact G.vret rfl ⟨rfl, ⟨_, _, r66⟩, ((hf.tr fa65 (fun _ h => h)).tr h66 (fun _ h => h))⟩ (tbd tv_X12_power rfl)
    · replace hr := ite_f c35 hr
      cases hr
      exact G.vret rfl ⟨rfl, ⟨_, _, r65⟩, (hf.tr fa65 (fun _ h => h))⟩ (tbd tv_X12_power rfl)
set_option maxRecDepth 100000 in
set_option maxHeartbeats 4000000 in
theorem k_X12_power (E : gE) (f : Nat → va_E) (hE : 94 ≤ gN E) (R : RfT) (w : RW E f R) (a0 : Int32) (R9 : RfT) (hr : e_power R a0 = some R9) : Ct E 2 yX12_power cX12_power 2 none [.ref (gAd E (56)), .int (a0)] f (fun v g => v = none ∧ RW E g R9 ∧ Fr RfK f g, fun _ _ => False) := by
  obtain ⟨az, sy, r0⟩ := w
  refine Ct.of (by decide) (Nat.le_of_ble_eq_true rfl) (fun sz => ?_)
  refine G.eql [(0, .ref (gAd E (56))), (1, .int (a0))] rfl ?_
  unfold e_power at hr
  refine G.go tv_X12_power 2 2 [(0, .ref (gAd E (56))), (1, .int (a0))] [.ref (gAd E (56)), .ref (gAd E (56))] rfl ?_
  refine G.rg r0 hE 11 (.int (rS R 11)) (by decide) rfl (tbd tv_X12_power rfl) w_2076 ?_
  refine G.if_ne 12 (tbd tv_X12_power rfl) (by decide) (fun c5 => ?_) (fun c5 => ?_)
  · replace hr := ite_f c5 hr
    refine G.go tv_X12_power 2 14 [(0, .ref (gAd E (56))), (1, .int (a0))] [.int ((1 : Int32)), .int ((0 : Int32)), .ref (gAd E (56))] rfl ?_
    obtain ⟨v61, R61, hv61, hr⟩ := bnd2_s hr
    refine G.callV (56) [.int ((0 : Int32)), .int ((1 : Int32))] [] (k_X12_refuse E _ hE R ⟨_, _, r0⟩ ((0 : Int32)) ((1 : Int32)) v61 R61 hv61) cls_X12 (by omega) (r0.o) cw_X12_385 w_2268 w_53 (Nat.le_of_ble_eq_true rfl) rfl (Nat.le_of_ble_eq_true rfl) (tbd tv_X12_power rfl) (fun v61w f61 q61 => ?_) (fun _ _ h => h.elim)
    obtain ⟨rfl, ⟨az61, sy61, r61⟩, fa61⟩ := q61
    refine G.eqs [.int (v61)] rfl ?_
    refine G.if_ne 38 (tbd tv_X12_power rfl) (by decide) (fun c17 => ?_) (fun c17 => ?_)
    · replace hr := ite_f c17 hr
      cases hr
      exact G.vret rfl ⟨rfl, ⟨_, _, r61⟩, (Fr.rf.tr fa61 (fun _ h => h))⟩ (tbd tv_X12_power rfl)
    · replace hr := ite_t c17 hr
      refine G.less [(0, .ref (gAd E (56))), (1, .int (a0))] [0, 1] rfl ?_
      exact l_X12_power_20 E f sz _ hE _ _ _ hr _ ⟨_, _, r61⟩ (Fr.rf.tr fa61 (fun _ h => h))
  · replace hr := ite_t c5 hr
    refine G.go tv_X12_power 3 14 [(0, .ref (gAd E (56))), (1, .int (a0))] [.int ((1 : Int32)), .int ((1 : Int32)), .ref (gAd E (56))] rfl ?_
    obtain ⟨v62, R62, hv62, hr⟩ := bnd2_s hr
    refine G.callV (56) [.int ((1 : Int32)), .int ((1 : Int32))] [] (k_X12_refuse E _ hE R ⟨_, _, r0⟩ ((1 : Int32)) ((1 : Int32)) v62 R62 hv62) cls_X12 (by omega) (r0.o) cw_X12_385 w_2268 w_53 (Nat.le_of_ble_eq_true rfl) rfl (Nat.le_of_ble_eq_true rfl) (tbd tv_X12_power rfl) (fun v62w f62 q62 => ?_) (fun _ _ h => h.elim)
    obtain ⟨rfl, ⟨az62, sy62, r62⟩, fa62⟩ := q62
    refine G.eqs [.int (v62)] rfl ?_
    refine G.if_ne 38 (tbd tv_X12_power rfl) (by decide) (fun c17 => ?_) (fun c17 => ?_)
    · replace hr := ite_f c17 hr
      cases hr
      exact G.vret rfl ⟨rfl, ⟨_, _, r62⟩, (Fr.rf.tr fa62 (fun _ h => h))⟩ (tbd tv_X12_power rfl)
    · replace hr := ite_t c17 hr
      refine G.less [(0, .ref (gAd E (56))), (1, .int (a0))] [0, 1] rfl ?_
      exact l_X12_power_20 E f sz _ hE _ _ _ hr _ ⟨_, _, r62⟩ (Fr.rf.tr fa62 (fun _ h => h))
def e_crash  (R : RfT) : Option (RfT) := if (rS R 11) = 0 then bnd2 (e_refuse R ((1 : Int32)) ((1 : Int32))) (fun v69 R69 => if v69 = 0 then bnd (e_fails R69) (fun R70 => some R70) else some R69) else bnd2 (e_refuse R ((0 : Int32)) ((1 : Int32))) (fun v67 R67 => if v67 = 0 then bnd (e_fails R67) (fun R68 => some R68) else some R67)
set_option maxRecDepth 100000 in
set_option maxHeartbeats 4000000 in
theorem k_X12_crash (E : gE) (f : Nat → va_E) (hE : 94 ≤ gN E) (R : RfT) (w : RW E f R) (R9 : RfT) (hr : e_crash R = some R9) : Ct E 3 yX12_crash cX12_crash 1 none [.ref (gAd E (56))] f (fun v g => v = none ∧ RW E g R9 ∧ Fr RfK f g, fun _ _ => False) := by
  obtain ⟨az, sy, r0⟩ := w
  refine Ct.of (by decide) (Nat.le_of_ble_eq_true rfl) (fun sz => ?_)
  refine G.eql [(0, .ref (gAd E (56)))] rfl ?_
  unfold e_crash at hr
  refine G.go tv_X12_crash 2 2 [(0, .ref (gAd E (56)))] [.ref (gAd E (56)), .ref (gAd E (56))] rfl ?_
  refine G.rg r0 hE 11 (.int (rS R 11)) (by decide) rfl (tbd tv_X12_crash rfl) w_2076 ?_
  refine G.if_ne 12 (tbd tv_X12_crash rfl) (by decide) (fun c5 => ?_) (fun c5 => ?_)
  · replace hr := ite_f c5 hr
    refine G.go tv_X12_crash 2 14 [(0, .ref (gAd E (56)))] [.int ((1 : Int32)), .int ((0 : Int32)), .ref (gAd E (56))] rfl ?_
    obtain ⟨v67, R67, hv67, hr⟩ := bnd2_s hr
    refine G.callV (56) [.int ((0 : Int32)), .int ((1 : Int32))] [] (k_X12_refuse E _ hE R ⟨_, _, r0⟩ ((0 : Int32)) ((1 : Int32)) v67 R67 hv67) cls_X12 (by omega) (r0.o) cw_X12_385 w_2268 w_53 (Nat.le_of_ble_eq_true rfl) rfl (Nat.le_of_ble_eq_true rfl) (tbd tv_X12_crash rfl) (fun v67w f67 q67 => ?_) (fun _ _ h => h.elim)
    obtain ⟨rfl, ⟨az67, sy67, r67⟩, fa67⟩ := q67
    refine G.eqs [.int (v67)] rfl ?_
    refine G.if_eq 21 (tbd tv_X12_crash rfl) (by decide) (fun c17 => ?_) (fun c17 => ?_)
    · replace hr := ite_t c17 hr
      refine G.go tv_X12_crash 1 22 [(0, .ref (gAd E (56)))] [.ref (gAd E (56))] rfl ?_
      obtain ⟨R68, hv68, hr⟩ := bnd_s hr
      refine G.callV (56) [] [] (k_X12_fails E _ hE R67 ⟨_, _, r67⟩ R68 hv68) cls_X12 (by omega) (r67.o) cw_X12_153 w_2296 w_60 (Nat.le_of_ble_eq_true rfl) rfl (Nat.le_of_ble_eq_true rfl) (tbd tv_X12_crash rfl) (fun v68w f68 q68 => ?_) (fun _ _ h => h.elim)
      obtain ⟨rfl, ⟨az68, sy68, r68⟩, fa68⟩ := q68
      refine G.eqs [] rfl ?_
      cases hr
      exact G.vret rfl ⟨rfl, ⟨_, _, r68⟩, ((Fr.rf.tr fa67 (fun _ h => h)).tr fa68 (fun _ h => h))⟩ (tbd tv_X12_crash rfl)
    · replace hr := ite_f c17 hr
      cases hr
      exact G.vret rfl ⟨rfl, ⟨_, _, r67⟩, (Fr.rf.tr fa67 (fun _ h => h))⟩ (tbd tv_X12_crash rfl)
  · replace hr := ite_t c5 hr
    refine G.go tv_X12_crash 3 14 [(0, .ref (gAd E (56)))] [.int ((1 : Int32)), .int ((1 : Int32)), .ref (gAd E (56))] rfl ?_
    obtain ⟨v69, R69, hv69, hr⟩ := bnd2_s hr
    refine G.callV (56) [.int ((1 : Int32)), .int ((1 : Int32))] [] (k_X12_refuse E _ hE R ⟨_, _, r0⟩ ((1 : Int32)) ((1 : Int32)) v69 R69 hv69) cls_X12 (by omega) (r0.o) cw_X12_385 w_2268 w_53 (Nat.le_of_ble_eq_true rfl) rfl (Nat.le_of_ble_eq_true rfl) (tbd tv_X12_crash rfl) (fun v69w f69 q69 => ?_) (fun _ _ h => h.elim)
    obtain ⟨rfl, ⟨az69, sy69, r69⟩, fa69⟩ := q69
    refine G.eqs [.int (v69)] rfl ?_
    refine G.if_eq 21 (tbd tv_X12_crash rfl) (by decide) (fun c17 => ?_) (fun c17 => ?_)
    · replace hr := ite_t c17 hr
      refine G.go tv_X12_crash 1 22 [(0, .ref (gAd E (56)))] [.ref (gAd E (56))] rfl ?_
      obtain ⟨R70, hv70, hr⟩ := bnd_s hr
      refine G.callV (56) [] [] (k_X12_fails E _ hE R69 ⟨_, _, r69⟩ R70 hv70) cls_X12 (by omega) (r69.o) cw_X12_153 w_2296 w_60 (Nat.le_of_ble_eq_true rfl) rfl (Nat.le_of_ble_eq_true rfl) (tbd tv_X12_crash rfl) (fun v70w f70 q70 => ?_) (fun _ _ h => h.elim)
      obtain ⟨rfl, ⟨az70, sy70, r70⟩, fa70⟩ := q70
      refine G.eqs [] rfl ?_
      cases hr
      exact G.vret rfl ⟨rfl, ⟨_, _, r70⟩, ((Fr.rf.tr fa69 (fun _ h => h)).tr fa70 (fun _ h => h))⟩ (tbd tv_X12_crash rfl)
    · replace hr := ite_f c17 hr
      cases hr
      exact G.vret rfl ⟨rfl, ⟨_, _, r69⟩, (Fr.rf.tr fa69 (fun _ h => h))⟩ (tbd tv_X12_crash rfl)
def e_head  (R : RfT) : Option (RfT) := bnd (e_empty R) (fun R71 => bnd (e_set_79 R71 ((0 : Int32)) ((4 : Int32)) ((1414874188 : Int32))) (fun R72 => bnd (e_set_79 R72 ((4 : Int32)) ((2 : Int32)) (rS R72 1)) (fun R73 => bnd (e_set_79 R73 ((6 : Int32)) ((1 : Int32)) ((40 : Int32))) (fun R74 => bnd (e_set_79 R74 ((7 : Int32)) ((1 : Int32)) ((64 : Int32))) (fun R75 => some R75)))))
set_option maxRecDepth 100000 in
set_option maxHeartbeats 4000000 in
theorem k_X12_head (E : gE) (f : Nat → va_E) (hE : 94 ≤ gN E) (R : RfT) (w : RW E f R) (R9 : RfT) (hr : e_head R = some R9) : Ct E 2 yX12_head cX12_head 1 none [.ref (gAd E (56))] f (fun v g => v = none ∧ RW E g R9 ∧ Fr RfK f g, fun _ _ => False) := by
  obtain ⟨az, sy, r0⟩ := w
  refine Ct.of (by decide) (Nat.le_of_ble_eq_true rfl) (fun sz => ?_)
  refine G.eql [(0, .ref (gAd E (56)))] rfl ?_
  unfold e_head at hr
  refine G.go tv_X12_head 1 1 [(0, .ref (gAd E (56)))] [.ref (gAd E (56))] rfl ?_
  obtain ⟨R71, hv71, hr⟩ := bnd_s hr
  refine G.callV (56) [] [] (k_X12_empty E _ hE R ⟨_, _, r0⟩ R71 hv71) cls_X12 (by omega) (r0.o) cw_X12_249 w_2276 w_55 (Nat.le_of_ble_eq_true rfl) rfl (Nat.le_of_ble_eq_true rfl) (tbd tv_X12_head rfl) (fun v71w f71 q71 => ?_) (fun _ _ h => h.elim)
  obtain ⟨rfl, ⟨az71, sy71, r71⟩, fa71⟩ := q71
  refine G.eqs [] rfl ?_
  refine G.go tv_X12_head 1 5 [(0, .ref (gAd E (56)))] [.ref (gAd E (56))] rfl ?_
  refine G.rg r71 hE 44 (.ref (gAd E (79))) (by decide) rfl (tbd tv_X12_head rfl) w_2109 ?_
  refine G.go tv_X12_head 2 10 [(0, .ref (gAd E (56)))] [.int ((4 : Int32)), .int ((0 : Int32)), .ref (gAd E (79))] rfl ?_
  refine G.ldcw (1414874188) (tbd tv_X12_head rfl) w_2336 ?_
  obtain ⟨R72, hv72, hr⟩ := bnd_s hr
  refine G.callS [.ref (gAd E (79)), .int ((0 : Int32)), .int ((4 : Int32)), .int ((1414874188 : Int32))] [] (k_X12_set_79 E _ hE R71 ⟨_, _, r71⟩ ((0 : Int32)) ((4 : Int32)) ((1414874188 : Int32)) R72 hv72) cw_X12_242 w_2330 (Nat.le_of_ble_eq_true rfl) rfl (Nat.le_of_ble_eq_true rfl) (tbd tv_X12_head rfl) (fun v72w f72 q72 => ?_) (fun _ _ h => h.elim)
  obtain ⟨rfl, ⟨az72, sy72, r72⟩, fa72⟩ := q72
  refine G.eqs [] rfl ?_
  refine G.go tv_X12_head 1 17 [(0, .ref (gAd E (56)))] [.ref (gAd E (56))] rfl ?_
  refine G.rg r72 hE 44 (.ref (gAd E (79))) (by decide) rfl (tbd tv_X12_head rfl) w_2109 ?_
  refine G.go tv_X12_head 3 23 [(0, .ref (gAd E (56)))] [.ref (gAd E (56)), .int ((2 : Int32)), .int ((4 : Int32)), .ref (gAd E (79))] rfl ?_
  refine G.rg r72 hE 1 (.int (rS R72 1)) (by decide) rfl (tbd tv_X12_head rfl) w_2066 ?_
  obtain ⟨R73, hv73, hr⟩ := bnd_s hr
  refine G.callS [.ref (gAd E (79)), .int ((4 : Int32)), .int ((2 : Int32)), .int (rS R72 1)] [] (k_X12_set_79 E _ hE R72 ⟨_, _, r72⟩ ((4 : Int32)) ((2 : Int32)) (rS R72 1) R73 hv73) cw_X12_242 w_2330 (Nat.le_of_ble_eq_true rfl) rfl (Nat.le_of_ble_eq_true rfl) (tbd tv_X12_head rfl) (fun v73w f73 q73 => ?_) (fun _ _ h => h.elim)
  obtain ⟨rfl, ⟨az73, sy73, r73⟩, fa73⟩ := q73
  refine G.eqs [] rfl ?_
  refine G.go tv_X12_head 1 30 [(0, .ref (gAd E (56)))] [.ref (gAd E (56))] rfl ?_
  refine G.rg r73 hE 44 (.ref (gAd E (79))) (by decide) rfl (tbd tv_X12_head rfl) w_2109 ?_
  refine G.go tv_X12_head 3 38 [(0, .ref (gAd E (56)))] [.int ((40 : Int32)), .int ((1 : Int32)), .int ((6 : Int32)), .ref (gAd E (79))] rfl ?_
  obtain ⟨R74, hv74, hr⟩ := bnd_s hr
  refine G.callS [.ref (gAd E (79)), .int ((6 : Int32)), .int ((1 : Int32)), .int ((40 : Int32))] [] (k_X12_set_79 E _ hE R73 ⟨_, _, r73⟩ ((6 : Int32)) ((1 : Int32)) ((40 : Int32)) R74 hv74) cw_X12_242 w_2330 (Nat.le_of_ble_eq_true rfl) rfl (Nat.le_of_ble_eq_true rfl) (tbd tv_X12_head rfl) (fun v74w f74 q74 => ?_) (fun _ _ h => h.elim)
  obtain ⟨rfl, ⟨az74, sy74, r74⟩, fa74⟩ := q74
  refine G.eqs [] rfl ?_
  refine G.go tv_X12_head 1 42 [(0, .ref (gAd E (56)))] [.ref (gAd E (56))] rfl ?_
  refine G.rg r74 hE 44 (.ref (gAd E (79))) (by decide) rfl (tbd tv_X12_head rfl) w_2109 ?_
  refine G.go tv_X12_head 3 50 [(0, .ref (gAd E (56)))] [.int ((64 : Int32)), .int ((1 : Int32)), .int ((7 : Int32)), .ref (gAd E (79))] rfl ?_
  obtain ⟨R75, hv75, hr⟩ := bnd_s hr
  refine G.callS [.ref (gAd E (79)), .int ((7 : Int32)), .int ((1 : Int32)), .int ((64 : Int32))] [] (k_X12_set_79 E _ hE R74 ⟨_, _, r74⟩ ((7 : Int32)) ((1 : Int32)) ((64 : Int32)) R75 hv75) cw_X12_242 w_2330 (Nat.le_of_ble_eq_true rfl) rfl (Nat.le_of_ble_eq_true rfl) (tbd tv_X12_head rfl) (fun v75w f75 q75 => ?_) (fun _ _ h => h.elim)
  obtain ⟨rfl, ⟨az75, sy75, r75⟩, fa75⟩ := q75
  refine G.eqs [] rfl ?_
  cases hr
  exact G.vret rfl ⟨rfl, ⟨_, _, r75⟩, (((((Fr.rf.tr fa71 (fun _ h => h)).tr fa72 (fun _ h => h)).tr fa73 (fun _ h => h)).tr fa74 (fun _ h => h)).tr fa75 (fun _ h => h))⟩ (tbd tv_X12_head rfl)
def e_same_78_79_6 (R : RfT) : Nat → Int32 → Int32 → Int32 → Int32 → Option (Int32)
  | 0, _, _, _, _ => none
  | n + 1, x1, x3, x4, x5 => if ((128 : Int32)) ≤ x5 then rtZ x4 (some x4) else if x4 = 0 then e_same_78_79_6 R n x1 x3 ((0 : Int32)) (x5 + (1 : Int32)) else ld (rA R 43) 128 ((x1) + (x5)) (fun v82 => ld (rA R 44) 128 ((x3) + (x5)) (fun v83 => if v82 = v83 then e_same_78_79_6 R n x1 x3 ((1 : Int32)) (x5 + (1 : Int32)) else e_same_78_79_6 R n x1 x3 ((0 : Int32)) (x5 + (1 : Int32))))
def e_same_78_79 (R : RfT) (a1 : Int32) (a3 : Int32) : Option (Int32) := e_same_78_79_6 R fuL a1 a3 ((1 : Int32)) ((0 : Int32))
set_option maxRecDepth 100000 in
set_option maxHeartbeats 4000000 in
theorem l_X12_same_78_79_6 (E : gE) (f0 : Nat → va_E) (sz : Nat) (QA : Nat → Prop) (hE : 94 ≤ gN E) (R : RfT) : ∀ (n : Nat), ∀ (x1 : Int32) (x3 : Int32) (x4 : Int32) (x5 : Int32) (r : Int32) (hr : e_same_78_79_6 R n x1 x3 x4 x5 = some r) (f : Nat → va_E) (w : RW E f R) (hf : Fr RfK f0 f), G E (1, yX12_same, 6, (some .boolean), sz, QA) cX12_same (gO E (1, yX12_same, 6, (some .boolean), sz, QA) (fun v g => v = some (.int r) ∧ RW E g R ∧ Fr RfK f0 g, fun _ _ => False)) 6 [(0, .ref (gAd E (78))), (1, .int (x1)), (2, .ref (gAd E (79))), (3, .int (x3)), (4, .int (x4)), (5, .int (x5))] [] f := by
  intro n
  induction n with
  | zero =>
    intro x1 x3 x4 x5 r hr f w hf
    cases hr
  | succ n ih =>
    intro x1 x3 x4 x5 r hr f w hf
    obtain ⟨az, sy, r0⟩ := w
    unfold e_same_78_79_6 at hr
    refine G.go tv_X12_same 2 11 [(0, .ref (gAd E (78))), (1, .int (x1)), (2, .ref (gAd E (79))), (3, .int (x3)), (4, .int (x4)), (5, .int (x5))] [.int ((128 : Int32)), .int (x5)] rfl ?_
    refine G.cmp_ge 47 (tbd tv_X12_same rfl) (by decide) (fun c11 => ?_) (fun c11 => ?_)
    · replace hr := ite_t c11 hr
      refine G.go tv_X12_same 1 49 [(0, .ref (gAd E (78))), (1, .int (x1)), (2, .ref (gAd E (79))), (3, .int (x3)), (4, .int (x4)), (5, .int (x5))] [.int (x4)] rfl ?_
      obtain ⟨hz01, hr⟩ := rtZ_s hr
      cases hr
      exact G.iret rfl (nar_z hz01) ⟨rfl, ⟨_, _, r0⟩, hf⟩ (tbd tv_X12_same rfl)
    · replace hr := ite_f c11 hr
      refine G.go tv_X12_same 1 16 [(0, .ref (gAd E (78))), (1, .int (x1)), (2, .ref (gAd E (79))), (3, .int (x3)), (4, .int (x4)), (5, .int (x5))] [.int (x4)] rfl ?_
      refine G.if_eq 38 (tbd tv_X12_same rfl) (by decide) (fun c16 => ?_) (fun c16 => ?_)
      · replace hr := ite_t c16 hr
        refine G.go tv_X12_same 4 6 [(0, .ref (gAd E (78))), (1, .int (x1)), (2, .ref (gAd E (79))), (3, .int (x3)), (4, .int ((0 : Int32))), (5, .int (x5 + (1 : Int32)))] [] rfl ?_
        refine G.less [(0, .ref (gAd E (78))), (1, .int (x1)), (2, .ref (gAd E (79))), (3, .int (x3)), (4, .int ((0 : Int32))), (5, .int (x5 + (1 : Int32)))] [0, 1, 2, 3, 4, 5] rfl ?_
        exact ih _ _ _ _ _ hr _ ⟨_, _, r0⟩ hf
      · replace hr := ite_f c16 hr
        refine G.go tv_X12_same 4 24 [(0, .ref (gAd E (78))), (1, .int (x1)), (2, .ref (gAd E (79))), (3, .int (x3)), (4, .int (x4)), (5, .int (x5))] [.int ((x1) + (x5)), .ref (gAd E (78))] rfl ?_
        obtain ⟨v82, b82, e82, hr⟩ := ld_s hr
        refine G.baldE (78) (by omega) (r0.a43) b82 e82 (tbd tv_X12_same rfl) ?_
        refine G.go tv_X12_same 4 30 [(0, .ref (gAd E (78))), (1, .int (x1)), (2, .ref (gAd E (79))), (3, .int (x3)), (4, .int (x4)), (5, .int (x5))] [.int ((x3) + (x5)), .ref (gAd E (79)), .int (v82)] rfl ?_
        obtain ⟨v83, b83, e83, hr⟩ := ld_s hr
        refine G.baldE (79) (by omega) (r0.a44) b83 e83 (tbd tv_X12_same rfl) ?_
        refine G.cmp_ne 38 (tbd tv_X12_same rfl) (by decide) (fun c31 => ?_) (fun c31 => ?_)
        · replace hr := ite_f c31 hr
          refine G.go tv_X12_same 4 6 [(0, .ref (gAd E (78))), (1, .int (x1)), (2, .ref (gAd E (79))), (3, .int (x3)), (4, .int ((0 : Int32))), (5, .int (x5 + (1 : Int32)))] [] rfl ?_
          refine G.less [(0, .ref (gAd E (78))), (1, .int (x1)), (2, .ref (gAd E (79))), (3, .int (x3)), (4, .int ((0 : Int32))), (5, .int (x5 + (1 : Int32)))] [0, 1, 2, 3, 4, 5] rfl ?_
          exact ih _ _ _ _ _ hr _ ⟨_, _, r0⟩ hf
        · replace hr := ite_t c31 hr
          refine G.go tv_X12_same 5 6 [(0, .ref (gAd E (78))), (1, .int (x1)), (2, .ref (gAd E (79))), (3, .int (x3)), (4, .int ((1 : Int32))), (5, .int (x5 + (1 : Int32)))] [] rfl ?_
          refine G.less [(0, .ref (gAd E (78))), (1, .int (x1)), (2, .ref (gAd E (79))), (3, .int (x3)), (4, .int ((1 : Int32))), (5, .int (x5 + (1 : Int32)))] [0, 1, 2, 3, 4, 5] rfl ?_
          exact ih _ _ _ _ _ hr _ ⟨_, _, r0⟩ hf
set_option maxRecDepth 100000 in
set_option maxHeartbeats 4000000 in
theorem k_X12_same_78_79 (E : gE) (f : Nat → va_E) (hE : 94 ≤ gN E) (R : RfT) (w : RW E f R) (a1 : Int32) (a3 : Int32) (r : Int32) (hr : e_same_78_79 R a1 a3 = some r) : Ct E 1 yX12_same cX12_same 6 (some .boolean) [.ref (gAd E (78)), .int (a1), .ref (gAd E (79)), .int (a3)] f (fun v g => v = some (.int r) ∧ RW E g R ∧ Fr RfK f g, fun _ _ => False) := by
  obtain ⟨az, sy, r0⟩ := w
  refine Ct.of (by decide) (Nat.le_of_ble_eq_true rfl) (fun sz => ?_)
  refine G.eql [(0, .ref (gAd E (78))), (1, .int (a1)), (2, .ref (gAd E (79))), (3, .int (a3))] rfl ?_
  unfold e_same_78_79 at hr
  refine G.go tv_X12_same 4 6 [(0, .ref (gAd E (78))), (1, .int (a1)), (2, .ref (gAd E (79))), (3, .int (a3)), (4, .int ((1 : Int32))), (5, .int ((0 : Int32)))] [] rfl ?_
  refine G.less [(0, .ref (gAd E (78))), (1, .int (a1)), (2, .ref (gAd E (79))), (3, .int (a3)), (4, .int ((1 : Int32))), (5, .int ((0 : Int32)))] [0, 1, 2, 3, 4, 5] rfl ?_
  exact l_X12_same_78_79_6 E f sz _ hE R _ _ _ _ _ _ hr _ ⟨_, _, r0⟩ Fr.rf
def e_move_78_65_3  : Nat → RfT → Int32 → Int32 → Int32 → Option (RfT)
  | 0, _, _, _, _ => none
  | n + 1, R, x1, x3, x4 => if ((128 : Int32)) ≤ x4 then some R else ld (rA R 43) 128 ((x1) + (x4)) (fun v100 => stR R 24 5120 ((x3) + (x4)) (vp_nar .byte v100) (fun R101 => e_move_78_65_3  n R101 x1 x3 (x4 + (1 : Int32))))
def e_move_78_65  (R : RfT) (a1 : Int32) (a3 : Int32) : Option (RfT) := e_move_78_65_3  fuL R a1 a3 ((0 : Int32))
set_option maxRecDepth 100000 in
set_option maxHeartbeats 4000000 in
theorem l_X12_move_78_65_3 (E : gE) (f0 : Nat → va_E) (sz : Nat) (QA : Nat → Prop) (hE : 94 ≤ gN E) : ∀ (n : Nat), ∀ (R : RfT) (x1 : Int32) (x3 : Int32) (x4 : Int32) (R9 : RfT) (hr : e_move_78_65_3  n R x1 x3 x4 = some R9) (f : Nat → va_E) (w : RW E f R) (hf : Fr RfK f0 f), G E (1, yX12_move, 5, none, sz, QA) cX12_move (gO E (1, yX12_move, 5, none, sz, QA) (fun v g => v = none ∧ RW E g R9 ∧ Fr RfK f0 g, fun _ _ => False)) 3 [(0, .ref (gAd E (78))), (1, .int (x1)), (2, .ref (gAd E (65))), (3, .int (x3)), (4, .int (x4))] [] f := by
  intro n
  induction n with
  | zero =>
    intro R x1 x3 x4 R9 hr f w hf
    cases hr
  | succ n ih =>
    intro R x1 x3 x4 R9 hr f w hf
    obtain ⟨az, sy, r0⟩ := w
    unfold e_move_78_65_3 at hr
    refine G.go tv_X12_move 2 8 [(0, .ref (gAd E (78))), (1, .int (x1)), (2, .ref (gAd E (65))), (3, .int (x3)), (4, .int (x4))] [.int ((128 : Int32)), .int (x4)] rfl ?_
    refine G.cmp_ge 29 (tbd tv_X12_move rfl) (by decide) (fun c8 => ?_) (fun c8 => ?_)
    · replace hr := ite_t c8 hr
      cases hr
      exact G.vret rfl ⟨rfl, ⟨_, _, r0⟩, hf⟩ (tbd tv_X12_move rfl)
    · replace hr := ite_f c8 hr
      refine G.go tv_X12_move 8 21 [(0, .ref (gAd E (78))), (1, .int (x1)), (2, .ref (gAd E (65))), (3, .int (x3)), (4, .int (x4))] [.int ((x1) + (x4)), .ref (gAd E (78)), .int ((x3) + (x4)), .ref (gAd E (65))] rfl ?_
      obtain ⟨v100, b100, e100, hr⟩ := ld_s hr
      refine G.baldE (78) (by omega) (r0.a43) b100 e100 (tbd tv_X12_move rfl) ?_
      obtain ⟨R101, b101, eR101, hr⟩ := stR_s hr
      refine G.bast (65) (by omega) (r0.a24) b101 (tbd tv_X12_move rfl) ?_
      refine G.gen (P := fun w9 => RfV E w9 (setSr (setS R101 42 az) sy) ∧ Fr RfK f0 w9) ⟨by rw [eR101]; exact r0.p24 _, Fr.up hf ⟨by decide, by decide⟩⟩ (fun u101 p101 => ?_)
      obtain ⟨r101, h101⟩ := p101
      refine G.go tv_X12_move 2 3 [(0, .ref (gAd E (78))), (1, .int (x1)), (2, .ref (gAd E (65))), (3, .int (x3)), (4, .int (x4 + (1 : Int32)))] [] rfl ?_
      refine G.less [(0, .ref (gAd E (78))), (1, .int (x1)), (2, .ref (gAd E (65))), (3, .int (x3)), (4, .int (x4 + (1 : Int32)))] [0, 1, 2, 3, 4] rfl ?_
      exact ih _ _ _ _ _ hr _ ⟨_, _, r101⟩ h101
set_option maxRecDepth 100000 in
set_option maxHeartbeats 4000000 in
theorem k_X12_move_78_65 (E : gE) (f : Nat → va_E) (hE : 94 ≤ gN E) (R : RfT) (w : RW E f R) (a1 : Int32) (a3 : Int32) (R9 : RfT) (hr : e_move_78_65 R a1 a3 = some R9) : Ct E 1 yX12_move cX12_move 5 none [.ref (gAd E (78)), .int (a1), .ref (gAd E (65)), .int (a3)] f (fun v g => v = none ∧ RW E g R9 ∧ Fr RfK f g, fun _ _ => False) := by
  obtain ⟨az, sy, r0⟩ := w
  refine Ct.of (by decide) (Nat.le_of_ble_eq_true rfl) (fun sz => ?_)
  refine G.eql [(0, .ref (gAd E (78))), (1, .int (a1)), (2, .ref (gAd E (65))), (3, .int (a3))] rfl ?_
  unfold e_move_78_65 at hr
  refine G.go tv_X12_move 2 3 [(0, .ref (gAd E (78))), (1, .int (a1)), (2, .ref (gAd E (65))), (3, .int (a3)), (4, .int ((0 : Int32)))] [] rfl ?_
  refine G.less [(0, .ref (gAd E (78))), (1, .int (a1)), (2, .ref (gAd E (65))), (3, .int (a3)), (4, .int ((0 : Int32)))] [0, 1, 2, 3, 4] rfl ?_
  exact l_X12_move_78_65_3 E f sz _ hE _ _ _ _ _ _ hr _ ⟨_, _, r0⟩ Fr.rf
noncomputable def e_mount_368  : Nat → RfT → Int32 → Option (Int32 × RfT)
  | 0, _, _ => none
  | n + 1, R, x5 => if (rS R 25) ≤ x5 then ptR R 21 ((1 : Int32)) (fun R110 => bnd (e_noWorks R110) (fun R111 => ptR R111 29 ((0 : Int32)) (fun R112 => bnd (e_nothingKnown R112) (fun R113 => bnd (e_applyLog R113) (fun R114 => if (rS R114 11) = 0 then bnd2 (e_answer R114 (rS R 25)) (fun v115 R115 => some (v115, R115)) else bnd (e_allLostGo R114) (fun R116 => bnd2 (e_answer R116 (rS R 25)) (fun v117 R117 => some (v117, R117)))))))) else ld (rA R 23) 40 x5 (fun v118 => if ((1024 : Int32)) ≤ v118 then e_mount_368  n R (x5 + (1 : Int32)) else ld (rA R 23) 40 x5 (fun v119 => stR R 38 1024 v119 x5 (fun R120 => e_mount_368  n R120 (x5 + (1 : Int32)))))
noncomputable def e_mount_306  : Nat → RfT → Int32 → Int32 → Int32 → Int32 → Int32 → Option (Int32 × RfT)
  | 0, _, _, _, _, _, _ => none
  | n + 1, R, x1, x2, x3, x4, x5 => if (((128 : Int32)) * (x1)) ≤ x5 then if x4 = 0 then ptR R 25 ((0 : Int32)) (fun R102 => bnd (e_nowhere_75 R102) (fun R103 => e_mount_368  fuL R103 ((0 : Int32)))) else if x3 = x2 then ptR R 25 x1 (fun R106 => bnd (e_nowhere_75 R106) (fun R107 => e_mount_368  fuL R107 ((0 : Int32)))) else ptR R 25 ((0 : Int32)) (fun R104 => bnd (e_nowhere_75 R104) (fun R105 => e_mount_368  fuL R105 ((0 : Int32)))) else ld (rA R 24) 5120 x5 (fun v108 => nm (((x3) * ((31 : Int32))) + ((v108) &&& ((255 : Int32)))) (fun v109 => e_mount_306  n R x1 x2 v109 x4 (x5 + (1 : Int32))))
noncomputable def e_mount_261  : Nat → RfT → Int32 → Int32 → Int32 → Int32 → Int32 → Option (Int32 × RfT)
  | 0, _, _, _, _, _, _ => none
  | n + 1, R, x1, x2, x3, x4, x5 => if x1 ≤ x5 then e_mount_306  fuL R x1 x2 x3 x4 ((0 : Int32)) else bnd (e_readDisk_78 R (((3 : Int32)) + (x5))) (fun R98 => bnd (e_move_78_65 R98 ((0 : Int32)) (((128 : Int32)) * (x5))) (fun R99 => e_mount_261  n R99 x1 x2 x3 x4 (x5 + (1 : Int32))))
noncomputable def e_mount_227  : Nat → RfT → Int32 → Int32 → Int32 → Int32 → Int32 → Option (Int32 × RfT)
  | 0, _, _, _, _, _, _ => none
  | n + 1, R, x1, x2, x3, x4, x5 => if x1 ≤ x5 then e_mount_261  fuL R x1 x2 x3 x4 ((0 : Int32)) else bnd (e_number_78 R (((2 : Int32)) * (x5)) ((2 : Int32))) (fun v96 => stR R 23 40 x5 v96 (fun R97 => e_mount_227  n R97 x1 x2 x3 x4 (x5 + (1 : Int32))))
noncomputable def e_mount_193  : Nat → RfT → Int32 → Int32 → Int32 → Int32 → Int32 → Option (Int32 × RfT)
  | 0, _, _, _, _, _, _ => none
  | n + 1, R, x1, x2, x3, x4, x5 => if (((2 : Int32)) * (x1)) ≤ x5 then e_mount_227  fuL R x1 x2 x3 x4 ((0 : Int32)) else ld (rA R 43) 128 x5 (fun v94 => nm (((x3) * ((31 : Int32))) + ((v94) &&& ((255 : Int32)))) (fun v95 => e_mount_193  n R x1 x2 v95 x4 (x5 + (1 : Int32))))
noncomputable def e_mount_181  (R : RfT) (x1 : Int32) (x2 : Int32) (x3 : Int32) (x4 : Int32) : Option (Int32 × RfT) := bnd (e_readDisk_78 R ((2 : Int32))) (fun R93 => e_mount_193  fuL R93 x1 x2 x3 x4 ((0 : Int32)))
noncomputable def e_mount_167  (R : RfT) (x1 : Int32) (x2 : Int32) (x3 : Int32) : Option (Int32 × RfT) := e_mount_181  R ((0 : Int32)) x2 x3 ((0 : Int32))
noncomputable def e_mount_122  : Nat → RfT → Int32 → Int32 → Int32 → Int32 → Option (Int32 × RfT)
  | 0, _, _, _, _, _ => none
  | n + 1, R, x1, x2, x3, x4 => if ((6 : Int32)) ≤ x4 then if x1 < ((1 : Int32)) then e_mount_167  R x1 x2 x3 else if ((40 : Int32)) < x1 then e_mount_167  R x1 x2 x3 else e_mount_181  R x1 x2 x3 ((1 : Int32)) else ld (rA R 43) 128 x4 (fun v91 => nm (((x3) * ((31 : Int32))) + ((v91) &&& ((255 : Int32)))) (fun v92 => e_mount_122  n R x1 x2 v92 (x4 + (1 : Int32))))
noncomputable def e_mount_73  (R : RfT) : Option (Int32 × RfT) := bnd (e_readDisk_78 R ((1 : Int32))) (fun R86 => bnd (e_number_78 R86 ((0 : Int32)) ((2 : Int32))) (fun v87 => bnd (e_number_78 R86 ((6 : Int32)) ((4 : Int32))) (fun v88 => bnd (e_number_78 R86 ((2 : Int32)) ((4 : Int32))) (fun v89 => ptR R86 22 v89 (fun R90 => e_mount_122  fuL R90 v87 v88 ((7 : Int32)) ((0 : Int32)))))))
noncomputable def e_mount_29  (R : RfT) : Option (Int32 × RfT) := bnd (e_head R) (fun R79 => bnd (e_readDisk_78 R79 ((0 : Int32))) (fun R80 => bnd (e_same_78_79 R80 ((0 : Int32)) ((0 : Int32))) (fun v81 => if v81 = 0 then bnd2 (e_refuse R80 ((1 : Int32)) ((3 : Int32))) (fun v85 R85 => if v85 = 0 then e_mount_73  R85 else some ((0 : Int32), R85)) else bnd2 (e_refuse R80 ((0 : Int32)) ((3 : Int32))) (fun v84 R84 => if v84 = 0 then e_mount_73  R84 else some ((0 : Int32), R84)))))
noncomputable def e_mount  (R : RfT) : Option (Int32 × RfT) := if (rS R 21) = 0 then if (rS R 11) = 0 then bnd2 (e_refuse R ((1 : Int32)) ((1 : Int32))) (fun v78 R78 => if v78 = 0 then e_mount_29  R78 else some ((0 : Int32), R78)) else bnd2 (e_refuse R ((0 : Int32)) ((1 : Int32))) (fun v77 R77 => if v77 = 0 then e_mount_29  R77 else some ((0 : Int32), R77)) else bnd2 (e_refuse R ((1 : Int32)) ((1 : Int32))) (fun v76 R76 => if v76 = 0 then e_mount_29  R76 else some ((0 : Int32), R76))
set_option maxRecDepth 100000 in
set_option maxHeartbeats 4000000 in
theorem l_X12_mount_368 (E : gE) (f0 : Nat → va_E) (sz : Nat) (QA : Nat → Prop) (hE : 94 ≤ gN E) : ∀ (n : Nat), ∀ (R : RfT) (x5 : Int32) (r : Int32) (R9 : RfT) (hr : e_mount_368  n R x5 = some (r, R9)) (f : Nat → va_E) (w : RW E f R) (hf : Fr RfK f0 f), G E (12, yX12_mount, 6, (some .int), sz, QA) cX12_mount (gO E (12, yX12_mount, 6, (some .int), sz, QA) (fun v g => v = some (.int r) ∧ RW E g R9 ∧ Fr RfK f0 g, fun _ _ => False)) 368 [(0, .ref (gAd E (56))), (5, .int (x5))] [] f := by
  intro n
  induction n with
  | zero =>
    intro R x5 r R9 hr f w hf
    cases hr
  | succ n ih =>
    intro R x5 r R9 hr f w hf
    obtain ⟨az, sy, r0⟩ := w
    unfold e_mount_368 at hr
    refine G.go tv_X12_mount 2 371 [(0, .ref (gAd E (56))), (5, .int (x5))] [.ref (gAd E (56)), .int (x5)] rfl ?_
    refine G.rg r0 hE 25 (.int (rS R 25)) (by decide) rfl (tbd tv_X12_mount rfl) w_2090 ?_
    refine G.cmp_ge 410 (tbd tv_X12_mount rfl) (by decide) (fun c374 => ?_) (fun c374 => ?_)
    · replace hr := ite_t c374 hr
      refine G.go tv_X12_mount 1 411 [(0, .ref (gAd E (56))), (5, .int (x5))] [.ref (gAd E (56))] rfl ?_
      refine G.rg r0 hE 25 (.int (rS R 25)) (by decide) rfl (tbd tv_X12_mount rfl) w_2090 ?_
      refine G.go tv_X12_mount 3 418 [(0, .ref (gAd E (56))), (5, .int (rS R 25))] [.int ((1 : Int32)), .ref (gAd E (56))] rfl ?_
      obtain ⟨R110, eR110, hr⟩ := ptR_s hr
      refine G.rpW r0 hE 21 eR110 (by decide) rfl (by decide) rfl rfl rfl (tbd tv_X12_mount rfl) w_2086 (fun u110 r110 h110 => ?_)
      refine G.go tv_X12_mount 1 422 [(0, .ref (gAd E (56))), (5, .int (rS R 25))] [.ref (gAd E (56))] rfl ?_
      obtain ⟨R111, hv111, hr⟩ := bnd_s hr
      refine G.callV (56) [] [] (k_X12_noWorks E _ hE R110 ⟨_, _, r110⟩ R111 hv111) cls_X12 (by omega) (r110.o) cw_X12_168 w_2300 w_61 (Nat.le_of_ble_eq_true rfl) rfl (Nat.le_of_ble_eq_true rfl) (tbd tv_X12_mount rfl) (fun v111w f111 q111 => ?_) (fun _ _ h => h.elim)
      obtain ⟨rfl, ⟨az111, sy111, r111⟩, fa111⟩ := q111
      refine G.eqs [] rfl ?_
      refine G.go tv_X12_mount 2 427 [(0, .ref (gAd E (56))), (5, .int (rS R 25))] [.int ((0 : Int32)), .ref (gAd E (56))] rfl ?_
      obtain ⟨R112, eR112, hr⟩ := ptR_s hr
      refine G.rpW r111 hE 29 eR112 (by decide) rfl (by decide) rfl rfl rfl (tbd tv_X12_mount rfl) w_2094 (fun u112 r112 h112 => ?_)
      refine G.go tv_X12_mount 1 431 [(0, .ref (gAd E (56))), (5, .int (rS R 25))] [.ref (gAd E (56))] rfl ?_
      obtain ⟨R113, hv113, hr⟩ := bnd_s hr
      refine G.callV (56) [] [] (k_X12_nothingKnown E _ hE R112 ⟨_, _, r112⟩ R113 hv113) cls_X12 (by omega) (r112.o) cw_X12_171 w_2304 w_62 (Nat.le_of_ble_eq_true rfl) rfl (Nat.le_of_ble_eq_true rfl) (tbd tv_X12_mount rfl) (fun v113w f113 q113 => ?_) (fun _ _ h => h.elim)
      obtain ⟨rfl, ⟨az113, sy113, r113⟩, fa113⟩ := q113
      refine G.eqs [] rfl ?_
      refine G.go tv_X12_mount 1 435 [(0, .ref (gAd E (56))), (5, .int (rS R 25))] [.ref (gAd E (56))] rfl ?_
      obtain ⟨R114, hv114, hr⟩ := bnd_s hr
      refine G.callV (56) [] [] (k_X12_applyLog E _ hE R113 ⟨_, _, r113⟩ R114 hv114) cls_X12 (by omega) (r113.o) cw_X12_268 w_2357 w_71 (Nat.le_of_ble_eq_true rfl) rfl (Nat.le_of_ble_eq_true rfl) (tbd tv_X12_mount rfl) (fun v114w f114 q114 => ?_) (fun _ _ h => h.elim)
      obtain ⟨rfl, ⟨az114, sy114, r114⟩, fa114⟩ := q114
      refine G.eqs [] rfl ?_
      refine G.go tv_X12_mount 1 439 [(0, .ref (gAd E (56))), (5, .int (rS R 25))] [.ref (gAd E (56))] rfl ?_
      refine G.rg r114 hE 11 (.int (rS R114 11)) (by decide) rfl (tbd tv_X12_mount rfl) w_2076 ?_
      refine G.if_eq 449 (tbd tv_X12_mount rfl) (by decide) (fun c442 => ?_) (fun c442 => ?_)
      · replace hr := ite_t c442 hr
        refine G.go tv_X12_mount 2 452 [(0, .ref (gAd E (56))), (5, .int (rS R 25))] [.int (rS R 25), .ref (gAd E (56))] rfl ?_
        obtain ⟨v115, R115, hv115, hr⟩ := bnd2_s hr
        refine G.callV (56) [.int (rS R 25)] [] (k_X12_answer E _ hE R114 ⟨_, _, r114⟩ (rS R 25) v115 R115 hv115) cls_X12 (by omega) (r114.o) cw_X12_389 w_2339 w_69 (Nat.le_of_ble_eq_true rfl) rfl (Nat.le_of_ble_eq_true rfl) (tbd tv_X12_mount rfl) (fun v115w f115 q115 => ?_) (fun _ _ h => h.elim)
        obtain ⟨rfl, ⟨az115, sy115, r115⟩, fa115⟩ := q115
        refine G.eqs [.int (v115)] rfl ?_
        cases hr
        exact G.iret rfl rfl ⟨rfl, ⟨_, _, r115⟩, ((((((hf.tr h110 (fun _ h => h)).tr fa111 (fun _ h => h)).tr h112 (fun _ h => h)).tr fa113 (fun _ h => h)).tr fa114 (fun _ h => h)).tr fa115 (fun _ h => h))⟩ (tbd tv_X12_mount rfl)
      · replace hr := ite_f c442 hr
        refine G.go tv_X12_mount 1 446 [(0, .ref (gAd E (56))), (5, .int (rS R 25))] [.ref (gAd E (56))] rfl ?_
        obtain ⟨R116, hv116, hr⟩ := bnd_s hr
        refine G.callV (56) [] [] (k_X12_allLostGo E _ hE R114 ⟨_, _, r114⟩ R116 hv116) cls_X12 (by omega) (r114.o) cw_X12_382 w_2361 w_72 (Nat.le_of_ble_eq_true rfl) rfl (Nat.le_of_ble_eq_true rfl) (tbd tv_X12_mount rfl) (fun v116w f116 q116 => ?_) (fun _ _ h => h.elim)
        obtain ⟨rfl, ⟨az116, sy116, r116⟩, fa116⟩ := q116
        refine G.eqs [] rfl ?_
        refine G.go tv_X12_mount 2 452 [(0, .ref (gAd E (56))), (5, .int (rS R 25))] [.int (rS R 25), .ref (gAd E (56))] rfl ?_
        obtain ⟨v117, R117, hv117, hr⟩ := bnd2_s hr
        refine G.callV (56) [.int (rS R 25)] [] (k_X12_answer E _ hE R116 ⟨_, _, r116⟩ (rS R 25) v117 R117 hv117) cls_X12 (by omega) (r116.o) cw_X12_389 w_2339 w_69 (Nat.le_of_ble_eq_true rfl) rfl (Nat.le_of_ble_eq_true rfl) (tbd tv_X12_mount rfl) (fun v117w f117 q117 => ?_) (fun _ _ h => h.elim)
        obtain ⟨rfl, ⟨az117, sy117, r117⟩, fa117⟩ := q117
        refine G.eqs [.int (v117)] rfl ?_
        cases hr
        exact G.iret rfl rfl ⟨rfl, ⟨_, _, r117⟩, (((((((hf.tr h110 (fun _ h => h)).tr fa111 (fun _ h => h)).tr h112 (fun _ h => h)).tr fa113 (fun _ h => h)).tr fa114 (fun _ h => h)).tr fa116 (fun _ h => h)).tr fa117 (fun _ h => h))⟩ (tbd tv_X12_mount rfl)
    · replace hr := ite_f c374 hr
      refine G.go tv_X12_mount 1 378 [(0, .ref (gAd E (56))), (5, .int (x5))] [.ref (gAd E (56))] rfl ?_
      refine G.rg r0 hE 23 (.ref (gAd E (64))) (by decide) rfl (tbd tv_X12_mount rfl) w_2088 ?_
      refine G.go tv_X12_mount 1 383 [(0, .ref (gAd E (56))), (5, .int (x5))] [.int (x5), .ref (gAd E (64))] rfl ?_
      obtain ⟨v118, b118, e118, hr⟩ := ld_s hr
      refine G.ialdE (64) (by omega) (r0.a23) b118 e118 (tbd tv_X12_mount rfl) ?_
      refine G.go tv_X12_mount 1 387 [(0, .ref (gAd E (56))), (5, .int (x5))] [.int ((1024 : Int32)), .int (v118)] rfl ?_
      refine G.cmp_ge 404 (tbd tv_X12_mount rfl) (by decide) (fun c387 => ?_) (fun c387 => ?_)
      · replace hr := ite_t c387 hr
        refine G.go tv_X12_mount 2 368 [(0, .ref (gAd E (56))), (5, .int (x5 + (1 : Int32)))] [] rfl ?_
        refine G.less [(0, .ref (gAd E (56))), (5, .int (x5 + (1 : Int32)))] [0, 1] rfl ?_
        exact ih _ _ _ _ hr _ ⟨_, _, r0⟩ hf
      · replace hr := ite_f c387 hr
        refine G.go tv_X12_mount 1 391 [(0, .ref (gAd E (56))), (5, .int (x5))] [.ref (gAd E (56))] rfl ?_
        refine G.rg r0 hE 38 (.ref (gAd E (75))) (by decide) rfl (tbd tv_X12_mount rfl) w_2103 ?_
        refine G.go tv_X12_mount 1 395 [(0, .ref (gAd E (56))), (5, .int (x5))] [.ref (gAd E (56)), .ref (gAd E (75))] rfl ?_
        refine G.rg r0 hE 23 (.ref (gAd E (64))) (by decide) rfl (tbd tv_X12_mount rfl) w_2088 ?_
        refine G.go tv_X12_mount 1 400 [(0, .ref (gAd E (56))), (5, .int (x5))] [.int (x5), .ref (gAd E (64)), .ref (gAd E (75))] rfl ?_
        obtain ⟨v119, b119, e119, hr⟩ := ld_s hr
        refine G.ialdE (64) (by omega) (r0.a23) b119 e119 (tbd tv_X12_mount rfl) ?_
        refine G.go tv_X12_mount 1 403 [(0, .ref (gAd E (56))), (5, .int (x5))] [.int (x5), .int (v119), .ref (gAd E (75))] rfl ?_
        obtain ⟨R120, b120, eR120, hr⟩ := stR_s hr
        refine G.iast (75) (by omega) (r0.a38) b120 (tbd tv_X12_mount rfl) ?_
        refine G.gen (P := fun w9 => RfV E w9 (setSr (setS R120 42 az) sy) ∧ Fr RfK f0 w9) ⟨by rw [eR120]; exact r0.p38 _, Fr.up hf ⟨by decide, by decide⟩⟩ (fun u120 p120 => ?_)
        obtain ⟨r120, h120⟩ := p120
        refine G.go tv_X12_mount 2 368 [(0, .ref (gAd E (56))), (5, .int (x5 + (1 : Int32)))] [] rfl ?_
        refine G.less [(0, .ref (gAd E (56))), (5, .int (x5 + (1 : Int32)))] [0, 1] rfl ?_
        exact ih _ _ _ _ hr _ ⟨_, _, r120⟩ h120
set_option maxRecDepth 100000 in
set_option maxHeartbeats 4000000 in
theorem l_X12_mount_306 (E : gE) (f0 : Nat → va_E) (sz : Nat) (QA : Nat → Prop) (hE : 94 ≤ gN E) : ∀ (n : Nat), ∀ (R : RfT) (x1 : Int32) (x2 : Int32) (x3 : Int32) (x4 : Int32) (x5 : Int32) (r : Int32) (R9 : RfT) (hr : e_mount_306  n R x1 x2 x3 x4 x5 = some (r, R9)) (f : Nat → va_E) (w : RW E f R) (hf : Fr RfK f0 f), G E (12, yX12_mount, 6, (some .int), sz, QA) cX12_mount (gO E (12, yX12_mount, 6, (some .int), sz, QA) (fun v g => v = some (.int r) ∧ RW E g R9 ∧ Fr RfK f0 g, fun _ _ => False)) 306 [(0, .ref (gAd E (56))), (1, .int (x1)), (2, .int (x2)), (3, .int (x3)), (4, .int (x4)), (5, .int (x5))] [] f := by
  intro n
  induction n with
  | zero =>
    intro R x1 x2 x3 x4 x5 r R9 hr f w hf
    cases hr
  | succ n ih =>
    intro R x1 x2 x3 x4 x5 r R9 hr f w hf
    obtain ⟨az, sy, r0⟩ := w
    unfold e_mount_306 at hr
    refine G.go tv_X12_mount 4 313 [(0, .ref (gAd E (56))), (1, .int (x1)), (2, .int (x2)), (3, .int (x3)), (4, .int (x4)), (5, .int (x5))] [.int (((128 : Int32)) * (x1)), .int (x5)] rfl ?_
    refine G.cmp_ge 339 (tbd tv_X12_mount rfl) (by decide) (fun c313 => ?_) (fun c313 => ?_)
    · replace hr := ite_t c313 hr
      refine G.go tv_X12_mount 2 342 [(0, .ref (gAd E (56))), (1, .int (x1)), (2, .int (x2)), (3, .int (x3)), (4, .int (x4)), (5, .int (x5))] [.int (x4), .ref (gAd E (56))] rfl ?_
      refine G.if_eq 354 (tbd tv_X12_mount rfl) (by decide) (fun c342 => ?_) (fun c342 => ?_)
      · replace hr := ite_t c342 hr
        refine G.go tv_X12_mount 1 355 [(0, .ref (gAd E (56))), (1, .int (x1)), (2, .int (x2)), (3, .int (x3)), (4, .int (x4)), (5, .int (x5))] [.int ((0 : Int32)), .ref (gAd E (56))] rfl ?_
        obtain ⟨R102, eR102, hr⟩ := ptR_s hr
        refine G.rpW r0 hE 25 eR102 (by decide) rfl (by decide) rfl rfl rfl (tbd tv_X12_mount rfl) w_2090 (fun u102 r102 h102 => ?_)
        refine G.go tv_X12_mount 1 359 [(0, .ref (gAd E (56))), (1, .int (x1)), (2, .int (x2)), (3, .int (x3)), (4, .int (x4)), (5, .int (x5))] [.ref (gAd E (56))] rfl ?_
        refine G.rg r102 hE 38 (.ref (gAd E (75))) (by decide) rfl (tbd tv_X12_mount rfl) w_2103 ?_
        obtain ⟨R103, hv103, hr⟩ := bnd_s hr
        refine G.callS [.ref (gAd E (75))] [] (k_X12_nowhere_75 E _ hE R102 ⟨_, _, r102⟩ R103 hv103) cw_X12_140 w_2063 (Nat.le_of_ble_eq_true rfl) rfl (Nat.le_of_ble_eq_true rfl) (tbd tv_X12_mount rfl) (fun v103w f103 q103 => ?_) (fun _ _ h => h.elim)
        obtain ⟨rfl, ⟨az103, sy103, r103⟩, fa103⟩ := q103
        refine G.eqs [] rfl ?_
        refine G.go tv_X12_mount 2 368 [(0, .ref (gAd E (56))), (1, .int (x1)), (2, .int (x2)), (3, .int (x3)), (4, .int (x4)), (5, .int ((0 : Int32)))] [] rfl ?_
        refine G.less [(0, .ref (gAd E (56))), (5, .int ((0 : Int32)))] [0, 5] rfl ?_
        exact l_X12_mount_368 E f0 sz QA hE _ _ _ _ _ hr _ ⟨_, _, r103⟩ ((hf.tr h102 (fun _ h => h)).tr fa103 (fun _ h => h))
      · replace hr := ite_f c342 hr
        refine G.go tv_X12_mount 2 347 [(0, .ref (gAd E (56))), (1, .int (x1)), (2, .int (x2)), (3, .int (x3)), (4, .int (x4)), (5, .int (x5))] [.int (x2), .int (x3), .ref (gAd E (56))] rfl ?_
        refine G.cmp_ne 354 (tbd tv_X12_mount rfl) (by decide) (fun c347 => ?_) (fun c347 => ?_)
        · replace hr := ite_f c347 hr
          refine G.go tv_X12_mount 1 355 [(0, .ref (gAd E (56))), (1, .int (x1)), (2, .int (x2)), (3, .int (x3)), (4, .int (x4)), (5, .int (x5))] [.int ((0 : Int32)), .ref (gAd E (56))] rfl ?_
          obtain ⟨R104, eR104, hr⟩ := ptR_s hr
          refine G.rpW r0 hE 25 eR104 (by decide) rfl (by decide) rfl rfl rfl (tbd tv_X12_mount rfl) w_2090 (fun u104 r104 h104 => ?_)
          refine G.go tv_X12_mount 1 359 [(0, .ref (gAd E (56))), (1, .int (x1)), (2, .int (x2)), (3, .int (x3)), (4, .int (x4)), (5, .int (x5))] [.ref (gAd E (56))] rfl ?_
          refine G.rg r104 hE 38 (.ref (gAd E (75))) (by decide) rfl (tbd tv_X12_mount rfl) w_2103 ?_
          obtain ⟨R105, hv105, hr⟩ := bnd_s hr
          refine G.callS [.ref (gAd E (75))] [] (k_X12_nowhere_75 E _ hE R104 ⟨_, _, r104⟩ R105 hv105) cw_X12_140 w_2063 (Nat.le_of_ble_eq_true rfl) rfl (Nat.le_of_ble_eq_true rfl) (tbd tv_X12_mount rfl) (fun v105w f105 q105 => ?_) (fun _ _ h => h.elim)
          obtain ⟨rfl, ⟨az105, sy105, r105⟩, fa105⟩ := q105
          refine G.eqs [] rfl ?_
          refine G.go tv_X12_mount 2 368 [(0, .ref (gAd E (56))), (1, .int (x1)), (2, .int (x2)), (3, .int (x3)), (4, .int (x4)), (5, .int ((0 : Int32)))] [] rfl ?_
          refine G.less [(0, .ref (gAd E (56))), (5, .int ((0 : Int32)))] [0, 5] rfl ?_
          exact l_X12_mount_368 E f0 sz QA hE _ _ _ _ _ hr _ ⟨_, _, r105⟩ ((hf.tr h104 (fun _ h => h)).tr fa105 (fun _ h => h))
        · replace hr := ite_t c347 hr
          refine G.go tv_X12_mount 2 355 [(0, .ref (gAd E (56))), (1, .int (x1)), (2, .int (x2)), (3, .int (x3)), (4, .int (x4)), (5, .int (x5))] [.int (x1), .ref (gAd E (56))] rfl ?_
          obtain ⟨R106, eR106, hr⟩ := ptR_s hr
          refine G.rpW r0 hE 25 eR106 (by decide) rfl (by decide) rfl rfl rfl (tbd tv_X12_mount rfl) w_2090 (fun u106 r106 h106 => ?_)
          refine G.go tv_X12_mount 1 359 [(0, .ref (gAd E (56))), (1, .int (x1)), (2, .int (x2)), (3, .int (x3)), (4, .int (x4)), (5, .int (x5))] [.ref (gAd E (56))] rfl ?_
          refine G.rg r106 hE 38 (.ref (gAd E (75))) (by decide) rfl (tbd tv_X12_mount rfl) w_2103 ?_
          obtain ⟨R107, hv107, hr⟩ := bnd_s hr
          refine G.callS [.ref (gAd E (75))] [] (k_X12_nowhere_75 E _ hE R106 ⟨_, _, r106⟩ R107 hv107) cw_X12_140 w_2063 (Nat.le_of_ble_eq_true rfl) rfl (Nat.le_of_ble_eq_true rfl) (tbd tv_X12_mount rfl) (fun v107w f107 q107 => ?_) (fun _ _ h => h.elim)
          obtain ⟨rfl, ⟨az107, sy107, r107⟩, fa107⟩ := q107
          refine G.eqs [] rfl ?_
          refine G.go tv_X12_mount 2 368 [(0, .ref (gAd E (56))), (1, .int (x1)), (2, .int (x2)), (3, .int (x3)), (4, .int (x4)), (5, .int ((0 : Int32)))] [] rfl ?_
          refine G.less [(0, .ref (gAd E (56))), (5, .int ((0 : Int32)))] [0, 5] rfl ?_
          exact l_X12_mount_368 E f0 sz QA hE _ _ _ _ _ hr _ ⟨_, _, r107⟩ ((hf.tr h106 (fun _ h => h)).tr fa107 (fun _ h => h))
    · replace hr := ite_f c313 hr
      refine G.go tv_X12_mount 4 321 [(0, .ref (gAd E (56))), (1, .int (x1)), (2, .int (x2)), (3, .int (x3)), (4, .int (x4)), (5, .int (x5))] [.ref (gAd E (56)), .int ((x3) * ((31 : Int32)))] rfl ?_
      refine G.rg r0 hE 24 (.ref (gAd E (65))) (by decide) rfl (tbd tv_X12_mount rfl) w_2089 ?_
      refine G.go tv_X12_mount 1 326 [(0, .ref (gAd E (56))), (1, .int (x1)), (2, .int (x2)), (3, .int (x3)), (4, .int (x4)), (5, .int (x5))] [.int (x5), .ref (gAd E (65)), .int ((x3) * ((31 : Int32)))] rfl ?_
      obtain ⟨v108, b108, e108, hr⟩ := ld_s hr
      refine G.baldE (65) (by omega) (r0.a24) b108 e108 (tbd tv_X12_mount rfl) ?_
      refine G.go tv_X12_mount 4 333 [(0, .ref (gAd E (56))), (1, .int (x1)), (2, .int (x2)), (3, .int (((x3) * ((31 : Int32))) + ((v108) &&& ((255 : Int32))))), (4, .int (x4)), (5, .int (x5))] [] rfl ?_
      obtain ⟨v109, e109, hr⟩ := nm_s hr
      refine G.eql [(0, .ref (gAd E (56))), (1, .int (x1)), (2, .int (x2)), (3, .int (v109)), (4, .int (x4)), (5, .int (x5))] (by rw [e109]) ?_
      refine G.go tv_X12_mount 2 306 [(0, .ref (gAd E (56))), (1, .int (x1)), (2, .int (x2)), (3, .int (v109)), (4, .int (x4)), (5, .int (x5 + (1 : Int32)))] [] rfl ?_
      refine G.less [(0, .ref (gAd E (56))), (1, .int (x1)), (2, .int (x2)), (3, .int (v109)), (4, .int (x4)), (5, .int (x5 + (1 : Int32)))] [0, 1, 2, 3, 4, 5] rfl ?_
      exact ih _ _ _ _ _ _ _ _ hr _ ⟨_, _, r0⟩ hf
set_option maxRecDepth 100000 in
set_option maxHeartbeats 4000000 in
theorem l_X12_mount_261 (E : gE) (f0 : Nat → va_E) (sz : Nat) (QA : Nat → Prop) (hE : 94 ≤ gN E) : ∀ (n : Nat), ∀ (R : RfT) (x1 : Int32) (x2 : Int32) (x3 : Int32) (x4 : Int32) (x5 : Int32) (r : Int32) (R9 : RfT) (hr : e_mount_261  n R x1 x2 x3 x4 x5 = some (r, R9)) (f : Nat → va_E) (w : RW E f R) (hf : Fr RfK f0 f), G E (12, yX12_mount, 6, (some .int), sz, QA) cX12_mount (gO E (12, yX12_mount, 6, (some .int), sz, QA) (fun v g => v = some (.int r) ∧ RW E g R9 ∧ Fr RfK f0 g, fun _ _ => False)) 261 [(0, .ref (gAd E (56))), (1, .int (x1)), (2, .int (x2)), (3, .int (x3)), (4, .int (x4)), (5, .int (x5))] [] f := by
  intro n
  induction n with
  | zero =>
    intro R x1 x2 x3 x4 x5 r R9 hr f w hf
    cases hr
  | succ n ih =>
    intro R x1 x2 x3 x4 x5 r R9 hr f w hf
    obtain ⟨az, sy, r0⟩ := w
    unfold e_mount_261 at hr
    refine G.go tv_X12_mount 2 264 [(0, .ref (gAd E (56))), (1, .int (x1)), (2, .int (x2)), (3, .int (x3)), (4, .int (x4)), (5, .int (x5))] [.int (x1), .int (x5)] rfl ?_
    refine G.cmp_ge 303 (tbd tv_X12_mount rfl) (by decide) (fun c264 => ?_) (fun c264 => ?_)
    · replace hr := ite_t c264 hr
      refine G.go tv_X12_mount 2 306 [(0, .ref (gAd E (56))), (1, .int (x1)), (2, .int (x2)), (3, .int (x3)), (4, .int (x4)), (5, .int ((0 : Int32)))] [] rfl ?_
      refine G.less [(0, .ref (gAd E (56))), (1, .int (x1)), (2, .int (x2)), (3, .int (x3)), (4, .int (x4)), (5, .int ((0 : Int32)))] [0, 1, 2, 3, 4, 5] rfl ?_
      exact l_X12_mount_306 E f0 sz QA hE _ _ _ _ _ _ _ _ _ hr _ ⟨_, _, r0⟩ hf
    · replace hr := ite_f c264 hr
      refine G.go tv_X12_mount 5 273 [(0, .ref (gAd E (56))), (1, .int (x1)), (2, .int (x2)), (3, .int (x3)), (4, .int (x4)), (5, .int (x5))] [.ref (gAd E (56)), .int (((3 : Int32)) + (x5)), .ref (gAd E (56))] rfl ?_
      refine G.rg r0 hE 43 (.ref (gAd E (78))) (by decide) rfl (tbd tv_X12_mount rfl) w_2108 ?_
      obtain ⟨R98, hv98, hr⟩ := bnd_s hr
      refine G.callV (56) [.int (((3 : Int32)) + (x5)), .ref (gAd E (78))] [] (k_X12_readDisk_78 E _ hE R ⟨_, _, r0⟩ (((3 : Int32)) + (x5)) R98 hv98) cls_X12 (by omega) (r0.o) cw_X12_399 w_2347 w_70 (Nat.le_of_ble_eq_true rfl) rfl (Nat.le_of_ble_eq_true rfl) (tbd tv_X12_mount rfl) (fun v98w f98 q98 => ?_) (fun _ _ h => h.elim)
      obtain ⟨rfl, ⟨az98, sy98, r98⟩, fa98⟩ := q98
      refine G.eqs [] rfl ?_
      refine G.go tv_X12_mount 1 280 [(0, .ref (gAd E (56))), (1, .int (x1)), (2, .int (x2)), (3, .int (x3)), (4, .int (x4)), (5, .int (x5))] [.ref (gAd E (56))] rfl ?_
      refine G.rg r98 hE 43 (.ref (gAd E (78))) (by decide) rfl (tbd tv_X12_mount rfl) w_2108 ?_
      refine G.go tv_X12_mount 2 285 [(0, .ref (gAd E (56))), (1, .int (x1)), (2, .int (x2)), (3, .int (x3)), (4, .int (x4)), (5, .int (x5))] [.ref (gAd E (56)), .int ((0 : Int32)), .ref (gAd E (78))] rfl ?_
      refine G.rg r98 hE 24 (.ref (gAd E (65))) (by decide) rfl (tbd tv_X12_mount rfl) w_2089 ?_
      refine G.go tv_X12_mount 3 294 [(0, .ref (gAd E (56))), (1, .int (x1)), (2, .int (x2)), (3, .int (x3)), (4, .int (x4)), (5, .int (x5))] [.int (((128 : Int32)) * (x5)), .ref (gAd E (65)), .int ((0 : Int32)), .ref (gAd E (78))] rfl ?_
      obtain ⟨R99, hv99, hr⟩ := bnd_s hr
      refine G.callS [.ref (gAd E (78)), .int ((0 : Int32)), .ref (gAd E (65)), .int (((128 : Int32)) * (x5))] [] (k_X12_move_78_65 E _ hE R98 ⟨_, _, r98⟩ ((0 : Int32)) (((128 : Int32)) * (x5)) R99 hv99) cw_X12_190 w_2307 (Nat.le_of_ble_eq_true rfl) rfl (Nat.le_of_ble_eq_true rfl) (tbd tv_X12_mount rfl) (fun v99w f99 q99 => ?_) (fun _ _ h => h.elim)
      obtain ⟨rfl, ⟨az99, sy99, r99⟩, fa99⟩ := q99
      refine G.eqs [] rfl ?_
      refine G.go tv_X12_mount 2 261 [(0, .ref (gAd E (56))), (1, .int (x1)), (2, .int (x2)), (3, .int (x3)), (4, .int (x4)), (5, .int (x5 + (1 : Int32)))] [] rfl ?_
      refine G.less [(0, .ref (gAd E (56))), (1, .int (x1)), (2, .int (x2)), (3, .int (x3)), (4, .int (x4)), (5, .int (x5 + (1 : Int32)))] [0, 1, 2, 3, 4, 5] rfl ?_
      exact ih _ _ _ _ _ _ _ _ hr _ ⟨_, _, r99⟩ ((hf.tr fa98 (fun _ h => h)).tr fa99 (fun _ h => h))
set_option maxRecDepth 100000 in
set_option maxHeartbeats 4000000 in
theorem l_X12_mount_227 (E : gE) (f0 : Nat → va_E) (sz : Nat) (QA : Nat → Prop) (hE : 94 ≤ gN E) : ∀ (n : Nat), ∀ (R : RfT) (x1 : Int32) (x2 : Int32) (x3 : Int32) (x4 : Int32) (x5 : Int32) (r : Int32) (R9 : RfT) (hr : e_mount_227  n R x1 x2 x3 x4 x5 = some (r, R9)) (f : Nat → va_E) (w : RW E f R) (hf : Fr RfK f0 f), G E (12, yX12_mount, 6, (some .int), sz, QA) cX12_mount (gO E (12, yX12_mount, 6, (some .int), sz, QA) (fun v g => v = some (.int r) ∧ RW E g R9 ∧ Fr RfK f0 g, fun _ _ => False)) 227 [(0, .ref (gAd E (56))), (1, .int (x1)), (2, .int (x2)), (3, .int (x3)), (4, .int (x4)), (5, .int (x5))] [] f := by
  intro n
  induction n with
  | zero =>
    intro R x1 x2 x3 x4 x5 r R9 hr f w hf
    cases hr
  | succ n ih =>
    intro R x1 x2 x3 x4 x5 r R9 hr f w hf
    obtain ⟨az, sy, r0⟩ := w
    unfold e_mount_227 at hr
    refine G.go tv_X12_mount 2 230 [(0, .ref (gAd E (56))), (1, .int (x1)), (2, .int (x2)), (3, .int (x3)), (4, .int (x4)), (5, .int (x5))] [.int (x1), .int (x5)] rfl ?_
    refine G.cmp_ge 258 (tbd tv_X12_mount rfl) (by decide) (fun c230 => ?_) (fun c230 => ?_)
    · replace hr := ite_t c230 hr
      refine G.go tv_X12_mount 2 261 [(0, .ref (gAd E (56))), (1, .int (x1)), (2, .int (x2)), (3, .int (x3)), (4, .int (x4)), (5, .int ((0 : Int32)))] [] rfl ?_
      refine G.less [(0, .ref (gAd E (56))), (1, .int (x1)), (2, .int (x2)), (3, .int (x3)), (4, .int (x4)), (5, .int ((0 : Int32)))] [0, 1, 2, 3, 4, 5] rfl ?_
      exact l_X12_mount_261 E f0 sz QA hE _ _ _ _ _ _ _ _ _ hr _ ⟨_, _, r0⟩ hf
    · replace hr := ite_f c230 hr
      refine G.go tv_X12_mount 1 234 [(0, .ref (gAd E (56))), (1, .int (x1)), (2, .int (x2)), (3, .int (x3)), (4, .int (x4)), (5, .int (x5))] [.ref (gAd E (56))] rfl ?_
      refine G.rg r0 hE 23 (.ref (gAd E (64))) (by decide) rfl (tbd tv_X12_mount rfl) w_2088 ?_
      refine G.go tv_X12_mount 2 240 [(0, .ref (gAd E (56))), (1, .int (x1)), (2, .int (x2)), (3, .int (x3)), (4, .int (x4)), (5, .int (x5))] [.ref (gAd E (56)), .int (x5), .ref (gAd E (64))] rfl ?_
      refine G.rg r0 hE 43 (.ref (gAd E (78))) (by decide) rfl (tbd tv_X12_mount rfl) w_2108 ?_
      refine G.go tv_X12_mount 4 248 [(0, .ref (gAd E (56))), (1, .int (x1)), (2, .int (x2)), (3, .int (x3)), (4, .int (x4)), (5, .int (x5))] [.int ((2 : Int32)), .int (((2 : Int32)) * (x5)), .ref (gAd E (78)), .int (x5), .ref (gAd E (64))] rfl ?_
      obtain ⟨v96, hv96, hr⟩ := bnd_s hr
      refine G.callS [.ref (gAd E (78)), .int (((2 : Int32)) * (x5)), .int ((2 : Int32))] [.int (x5), .ref (gAd E (64))] (k_X12_number_78 E _ hE R ⟨_, _, r0⟩ (((2 : Int32)) * (x5)) ((2 : Int32)) v96 hv96) cw_X12_232 w_2353 (Nat.le_of_ble_eq_true rfl) rfl (Nat.le_of_ble_eq_true rfl) (tbd tv_X12_mount rfl) (fun v96w f96 q96 => ?_) (fun _ _ h => h.elim)
      obtain ⟨rfl, ⟨az96, sy96, r96⟩, fa96⟩ := q96
      refine G.eqs [.int (v96), .int (x5), .ref (gAd E (64))] rfl ?_
      obtain ⟨R97, b97, eR97, hr⟩ := stR_s hr
      refine G.iast (64) (by omega) (r96.a23) b97 (tbd tv_X12_mount rfl) ?_
      refine G.gen (P := fun w9 => RfV E w9 (setSr (setS R97 42 az96) sy96) ∧ Fr RfK f0 w9) ⟨by rw [eR97]; exact r96.p23 _, Fr.up (hf.tr fa96 (fun _ h => h)) ⟨by decide, by decide⟩⟩ (fun u97 p97 => ?_)
      obtain ⟨r97, h97⟩ := p97
      refine G.go tv_X12_mount 2 227 [(0, .ref (gAd E (56))), (1, .int (x1)), (2, .int (x2)), (3, .int (x3)), (4, .int (x4)), (5, .int (x5 + (1 : Int32)))] [] rfl ?_
      refine G.less [(0, .ref (gAd E (56))), (1, .int (x1)), (2, .int (x2)), (3, .int (x3)), (4, .int (x4)), (5, .int (x5 + (1 : Int32)))] [0, 1, 2, 3, 4, 5] rfl ?_
      exact ih _ _ _ _ _ _ _ _ hr _ ⟨_, _, r97⟩ h97
set_option maxRecDepth 100000 in
set_option maxHeartbeats 4000000 in
theorem l_X12_mount_193 (E : gE) (f0 : Nat → va_E) (sz : Nat) (QA : Nat → Prop) (hE : 94 ≤ gN E) : ∀ (n : Nat), ∀ (R : RfT) (x1 : Int32) (x2 : Int32) (x3 : Int32) (x4 : Int32) (x5 : Int32) (r : Int32) (R9 : RfT) (hr : e_mount_193  n R x1 x2 x3 x4 x5 = some (r, R9)) (f : Nat → va_E) (w : RW E f R) (hf : Fr RfK f0 f), G E (12, yX12_mount, 6, (some .int), sz, QA) cX12_mount (gO E (12, yX12_mount, 6, (some .int), sz, QA) (fun v g => v = some (.int r) ∧ RW E g R9 ∧ Fr RfK f0 g, fun _ _ => False)) 193 [(0, .ref (gAd E (56))), (1, .int (x1)), (2, .int (x2)), (3, .int (x3)), (4, .int (x4)), (5, .int (x5))] [] f := by
  intro n
  induction n with
  | zero =>
    intro R x1 x2 x3 x4 x5 r R9 hr f w hf
    cases hr
  | succ n ih =>
    intro R x1 x2 x3 x4 x5 r R9 hr f w hf
    obtain ⟨az, sy, r0⟩ := w
    unfold e_mount_193 at hr
    refine G.go tv_X12_mount 4 198 [(0, .ref (gAd E (56))), (1, .int (x1)), (2, .int (x2)), (3, .int (x3)), (4, .int (x4)), (5, .int (x5))] [.int (((2 : Int32)) * (x1)), .int (x5)] rfl ?_
    refine G.cmp_ge 224 (tbd tv_X12_mount rfl) (by decide) (fun c198 => ?_) (fun c198 => ?_)
    · replace hr := ite_t c198 hr
      refine G.go tv_X12_mount 2 227 [(0, .ref (gAd E (56))), (1, .int (x1)), (2, .int (x2)), (3, .int (x3)), (4, .int (x4)), (5, .int ((0 : Int32)))] [] rfl ?_
      refine G.less [(0, .ref (gAd E (56))), (1, .int (x1)), (2, .int (x2)), (3, .int (x3)), (4, .int (x4)), (5, .int ((0 : Int32)))] [0, 1, 2, 3, 4, 5] rfl ?_
      exact l_X12_mount_227 E f0 sz QA hE _ _ _ _ _ _ _ _ _ hr _ ⟨_, _, r0⟩ hf
    · replace hr := ite_f c198 hr
      refine G.go tv_X12_mount 4 206 [(0, .ref (gAd E (56))), (1, .int (x1)), (2, .int (x2)), (3, .int (x3)), (4, .int (x4)), (5, .int (x5))] [.ref (gAd E (56)), .int ((x3) * ((31 : Int32)))] rfl ?_
      refine G.rg r0 hE 43 (.ref (gAd E (78))) (by decide) rfl (tbd tv_X12_mount rfl) w_2108 ?_
      refine G.go tv_X12_mount 1 211 [(0, .ref (gAd E (56))), (1, .int (x1)), (2, .int (x2)), (3, .int (x3)), (4, .int (x4)), (5, .int (x5))] [.int (x5), .ref (gAd E (78)), .int ((x3) * ((31 : Int32)))] rfl ?_
      obtain ⟨v94, b94, e94, hr⟩ := ld_s hr
      refine G.baldE (78) (by omega) (r0.a43) b94 e94 (tbd tv_X12_mount rfl) ?_
      refine G.go tv_X12_mount 4 218 [(0, .ref (gAd E (56))), (1, .int (x1)), (2, .int (x2)), (3, .int (((x3) * ((31 : Int32))) + ((v94) &&& ((255 : Int32))))), (4, .int (x4)), (5, .int (x5))] [] rfl ?_
      obtain ⟨v95, e95, hr⟩ := nm_s hr
      refine G.eql [(0, .ref (gAd E (56))), (1, .int (x1)), (2, .int (x2)), (3, .int (v95)), (4, .int (x4)), (5, .int (x5))] (by rw [e95]) ?_
      refine G.go tv_X12_mount 2 193 [(0, .ref (gAd E (56))), (1, .int (x1)), (2, .int (x2)), (3, .int (v95)), (4, .int (x4)), (5, .int (x5 + (1 : Int32)))] [] rfl ?_
      refine G.less [(0, .ref (gAd E (56))), (1, .int (x1)), (2, .int (x2)), (3, .int (v95)), (4, .int (x4)), (5, .int (x5 + (1 : Int32)))] [0, 1, 2, 3, 4, 5] rfl ?_
      exact ih _ _ _ _ _ _ _ _ hr _ ⟨_, _, r0⟩ hf
set_option maxRecDepth 100000 in
set_option maxHeartbeats 4000000 in
theorem l_X12_mount_181 (E : gE) (f0 : Nat → va_E) (sz : Nat) (QA : Nat → Prop) (hE : 94 ≤ gN E) : ∀ (R : RfT) (x1 : Int32) (x2 : Int32) (x3 : Int32) (x4 : Int32) (r : Int32) (R9 : RfT) (hr : e_mount_181  R x1 x2 x3 x4 = some (r, R9)) (f : Nat → va_E) (w : RW E f R) (hf : Fr RfK f0 f), G E (12, yX12_mount, 6, (some .int), sz, QA) cX12_mount (gO E (12, yX12_mount, 6, (some .int), sz, QA) (fun v g => v = some (.int r) ∧ RW E g R9 ∧ Fr RfK f0 g, fun _ _ => False)) 181 [(0, .ref (gAd E (56))), (1, .int (x1)), (2, .int (x2)), (3, .int (x3)), (4, .int (x4))] [] f := by
  intro R x1 x2 x3 x4 r R9 hr f w hf
  obtain ⟨az, sy, r0⟩ := w
  unfold e_mount_181 at hr
  refine G.go tv_X12_mount 3 184 [(0, .ref (gAd E (56))), (1, .int (x1)), (2, .int (x2)), (3, .int (x3)), (4, .int (x4))] [.ref (gAd E (56)), .int ((2 : Int32)), .ref (gAd E (56))] rfl ?_
  refine G.rg r0 hE 43 (.ref (gAd E (78))) (by decide) rfl (tbd tv_X12_mount rfl) w_2108 ?_
  obtain ⟨R93, hv93, hr⟩ := bnd_s hr
  refine G.callV (56) [.int ((2 : Int32)), .ref (gAd E (78))] [] (k_X12_readDisk_78 E _ hE R ⟨_, _, r0⟩ ((2 : Int32)) R93 hv93) cls_X12 (by omega) (r0.o) cw_X12_399 w_2347 w_70 (Nat.le_of_ble_eq_true rfl) rfl (Nat.le_of_ble_eq_true rfl) (tbd tv_X12_mount rfl) (fun v93w f93 q93 => ?_) (fun _ _ h => h.elim)
  obtain ⟨rfl, ⟨az93, sy93, r93⟩, fa93⟩ := q93
  refine G.eqs [] rfl ?_
  refine G.go tv_X12_mount 2 193 [(0, .ref (gAd E (56))), (1, .int (x1)), (2, .int (x2)), (3, .int (x3)), (4, .int (x4)), (5, .int ((0 : Int32)))] [] rfl ?_
  refine G.less [(0, .ref (gAd E (56))), (1, .int (x1)), (2, .int (x2)), (3, .int (x3)), (4, .int (x4)), (5, .int ((0 : Int32)))] [0, 1, 2, 3, 4, 5] rfl ?_
  exact l_X12_mount_193 E f0 sz QA hE _ _ _ _ _ _ _ _ _ hr _ ⟨_, _, r93⟩ (hf.tr fa93 (fun _ h => h))
set_option maxRecDepth 100000 in
set_option maxHeartbeats 4000000 in
theorem l_X12_mount_167 (E : gE) (f0 : Nat → va_E) (sz : Nat) (QA : Nat → Prop) (hE : 94 ≤ gN E) : ∀ (R : RfT) (x1 : Int32) (x2 : Int32) (x3 : Int32) (r : Int32) (R9 : RfT) (hr : e_mount_167  R x1 x2 x3 = some (r, R9)) (f : Nat → va_E) (w : RW E f R) (hf : Fr RfK f0 f), G E (12, yX12_mount, 6, (some .int), sz, QA) cX12_mount (gO E (12, yX12_mount, 6, (some .int), sz, QA) (fun v g => v = some (.int r) ∧ RW E g R9 ∧ Fr RfK f0 g, fun _ _ => False)) 167 [(0, .ref (gAd E (56))), (1, .int (x1)), (2, .int (x2)), (3, .int (x3))] [] f := by
  intro R x1 x2 x3 r R9 hr f w hf
  obtain ⟨az, sy, r0⟩ := w
  unfold e_mount_167 at hr
  refine G.go tv_X12_mount 3 172 [(0, .ref (gAd E (56))), (1, .int (x1)), (2, .int (x2)), (3, .int (x3)), (4, .int ((0 : Int32)))] [.int ((0 : Int32))] rfl ?_
  refine G.if_eq 179 (tbd tv_X12_mount rfl) (by decide) (fun c172 => ?_) (fun c172 => absurd (by decide) c172)
  refine G.go tv_X12_mount 2 181 [(0, .ref (gAd E (56))), (1, .int ((0 : Int32))), (2, .int (x2)), (3, .int (x3)), (4, .int ((0 : Int32)))] [] rfl ?_
  refine G.less [(0, .ref (gAd E (56))), (1, .int ((0 : Int32))), (2, .int (x2)), (3, .int (x3)), (4, .int ((0 : Int32)))] [0, 1, 2, 3, 4] rfl ?_
  exact l_X12_mount_181 E f0 sz QA hE _ _ _ _ _ _ _ hr _ ⟨_, _, r0⟩ hf
set_option maxRecDepth 100000 in
set_option maxHeartbeats 4000000 in
theorem l_X12_mount_122 (E : gE) (f0 : Nat → va_E) (sz : Nat) (QA : Nat → Prop) (hE : 94 ≤ gN E) : ∀ (n : Nat), ∀ (R : RfT) (x1 : Int32) (x2 : Int32) (x3 : Int32) (x4 : Int32) (r : Int32) (R9 : RfT) (hr : e_mount_122  n R x1 x2 x3 x4 = some (r, R9)) (f : Nat → va_E) (w : RW E f R) (hf : Fr RfK f0 f), G E (12, yX12_mount, 6, (some .int), sz, QA) cX12_mount (gO E (12, yX12_mount, 6, (some .int), sz, QA) (fun v g => v = some (.int r) ∧ RW E g R9 ∧ Fr RfK f0 g, fun _ _ => False)) 122 [(0, .ref (gAd E (56))), (1, .int (x1)), (2, .int (x2)), (3, .int (x3)), (4, .int (x4))] [] f := by
  intro n
  induction n with
  | zero =>
    intro R x1 x2 x3 x4 r R9 hr f w hf
    cases hr
  | succ n ih =>
    intro R x1 x2 x3 x4 r R9 hr f w hf
    obtain ⟨az, sy, r0⟩ := w
    unfold e_mount_122 at hr
    refine G.go tv_X12_mount 2 126 [(0, .ref (gAd E (56))), (1, .int (x1)), (2, .int (x2)), (3, .int (x3)), (4, .int (x4))] [.int ((6 : Int32)), .int (x4)] rfl ?_
    refine G.cmp_ge 152 (tbd tv_X12_mount rfl) (by decide) (fun c126 => ?_) (fun c126 => ?_)
    · replace hr := ite_t c126 hr
      refine G.go tv_X12_mount 2 154 [(0, .ref (gAd E (56))), (1, .int (x1)), (2, .int (x2)), (3, .int (x3)), (4, .int (x4))] [.int ((1 : Int32)), .int (x1)] rfl ?_
      refine G.cmp_lt 167 (tbd tv_X12_mount rfl) (by decide) (fun c154 => ?_) (fun c154 => ?_)
      · replace hr := ite_t c154 hr
        refine G.less [(0, .ref (gAd E (56))), (1, .int (x1)), (2, .int (x2)), (3, .int (x3))] [0, 1, 2, 3] rfl ?_
        exact l_X12_mount_167 E f0 sz QA hE _ _ _ _ _ _ hr _ ⟨_, _, r0⟩ hf
      · replace hr := ite_f c154 hr
        refine G.go tv_X12_mount 2 160 [(0, .ref (gAd E (56))), (1, .int (x1)), (2, .int (x2)), (3, .int (x3)), (4, .int (x4))] [.int ((40 : Int32)), .int (x1)] rfl ?_
        refine G.cmp_gt 167 (tbd tv_X12_mount rfl) (by decide) (fun c160 => ?_) (fun c160 => ?_)
        · replace hr := ite_t c160 hr
          refine G.less [(0, .ref (gAd E (56))), (1, .int (x1)), (2, .int (x2)), (3, .int (x3))] [0, 1, 2, 3] rfl ?_
          exact l_X12_mount_167 E f0 sz QA hE _ _ _ _ _ _ hr _ ⟨_, _, r0⟩ hf
        · replace hr := ite_f c160 hr
          refine G.go tv_X12_mount 4 172 [(0, .ref (gAd E (56))), (1, .int (x1)), (2, .int (x2)), (3, .int (x3)), (4, .int ((1 : Int32)))] [.int ((1 : Int32))] rfl ?_
          refine G.if_eq 179 (tbd tv_X12_mount rfl) (by decide) (fun c172 => absurd c172 (by decide)) (fun c172 => ?_)
          refine G.go tv_X12_mount 3 181 [(0, .ref (gAd E (56))), (1, .int (x1)), (2, .int (x2)), (3, .int (x3)), (4, .int ((1 : Int32)))] [] rfl ?_
          refine G.less [(0, .ref (gAd E (56))), (1, .int (x1)), (2, .int (x2)), (3, .int (x3)), (4, .int ((1 : Int32)))] [0, 1, 2, 3, 4] rfl ?_
          exact l_X12_mount_181 E f0 sz QA hE _ _ _ _ _ _ _ hr _ ⟨_, _, r0⟩ hf
    · replace hr := ite_f c126 hr
      refine G.go tv_X12_mount 4 134 [(0, .ref (gAd E (56))), (1, .int (x1)), (2, .int (x2)), (3, .int (x3)), (4, .int (x4))] [.ref (gAd E (56)), .int ((x3) * ((31 : Int32)))] rfl ?_
      refine G.rg r0 hE 43 (.ref (gAd E (78))) (by decide) rfl (tbd tv_X12_mount rfl) w_2108 ?_
      refine G.go tv_X12_mount 1 139 [(0, .ref (gAd E (56))), (1, .int (x1)), (2, .int (x2)), (3, .int (x3)), (4, .int (x4))] [.int (x4), .ref (gAd E (78)), .int ((x3) * ((31 : Int32)))] rfl ?_
      obtain ⟨v91, b91, e91, hr⟩ := ld_s hr
      refine G.baldE (78) (by omega) (r0.a43) b91 e91 (tbd tv_X12_mount rfl) ?_
      refine G.go tv_X12_mount 4 146 [(0, .ref (gAd E (56))), (1, .int (x1)), (2, .int (x2)), (3, .int (((x3) * ((31 : Int32))) + ((v91) &&& ((255 : Int32))))), (4, .int (x4))] [] rfl ?_
      obtain ⟨v92, e92, hr⟩ := nm_s hr
      refine G.eql [(0, .ref (gAd E (56))), (1, .int (x1)), (2, .int (x2)), (3, .int (v92)), (4, .int (x4))] (by rw [e92]) ?_
      refine G.go tv_X12_mount 2 122 [(0, .ref (gAd E (56))), (1, .int (x1)), (2, .int (x2)), (3, .int (v92)), (4, .int (x4 + (1 : Int32)))] [] rfl ?_
      refine G.less [(0, .ref (gAd E (56))), (1, .int (x1)), (2, .int (x2)), (3, .int (v92)), (4, .int (x4 + (1 : Int32)))] [0, 1, 2, 3, 4] rfl ?_
      exact ih _ _ _ _ _ _ _ hr _ ⟨_, _, r0⟩ hf
set_option maxRecDepth 100000 in
set_option maxHeartbeats 4000000 in
theorem l_X12_mount_73 (E : gE) (f0 : Nat → va_E) (sz : Nat) (QA : Nat → Prop) (hE : 94 ≤ gN E) : ∀ (R : RfT) (r : Int32) (R9 : RfT) (hr : e_mount_73  R = some (r, R9)) (f : Nat → va_E) (w : RW E f R) (hf : Fr RfK f0 f), G E (12, yX12_mount, 6, (some .int), sz, QA) cX12_mount (gO E (12, yX12_mount, 6, (some .int), sz, QA) (fun v g => v = some (.int r) ∧ RW E g R9 ∧ Fr RfK f0 g, fun _ _ => False)) 73 [(0, .ref (gAd E (56)))] [] f := by
  intro R r R9 hr f w hf
  obtain ⟨az, sy, r0⟩ := w
  unfold e_mount_73 at hr
  refine G.go tv_X12_mount 3 76 [(0, .ref (gAd E (56)))] [.ref (gAd E (56)), .int ((1 : Int32)), .ref (gAd E (56))] rfl ?_
  refine G.rg r0 hE 43 (.ref (gAd E (78))) (by decide) rfl (tbd tv_X12_mount rfl) w_2108 ?_
  obtain ⟨R86, hv86, hr⟩ := bnd_s hr
  refine G.callV (56) [.int ((1 : Int32)), .ref (gAd E (78))] [] (k_X12_readDisk_78 E _ hE R ⟨_, _, r0⟩ ((1 : Int32)) R86 hv86) cls_X12 (by omega) (r0.o) cw_X12_399 w_2347 w_70 (Nat.le_of_ble_eq_true rfl) rfl (Nat.le_of_ble_eq_true rfl) (tbd tv_X12_mount rfl) (fun v86w f86 q86 => ?_) (fun _ _ h => h.elim)
  obtain ⟨rfl, ⟨az86, sy86, r86⟩, fa86⟩ := q86
  refine G.eqs [] rfl ?_
  refine G.go tv_X12_mount 1 83 [(0, .ref (gAd E (56)))] [.ref (gAd E (56))] rfl ?_
  refine G.rg r86 hE 43 (.ref (gAd E (78))) (by decide) rfl (tbd tv_X12_mount rfl) w_2108 ?_
  refine G.go tv_X12_mount 2 88 [(0, .ref (gAd E (56)))] [.int ((2 : Int32)), .int ((0 : Int32)), .ref (gAd E (78))] rfl ?_
  obtain ⟨v87, hv87, hr⟩ := bnd_s hr
  refine G.callS [.ref (gAd E (78)), .int ((0 : Int32)), .int ((2 : Int32))] [] (k_X12_number_78 E _ hE R86 ⟨_, _, r86⟩ ((0 : Int32)) ((2 : Int32)) v87 hv87) cw_X12_232 w_2353 (Nat.le_of_ble_eq_true rfl) rfl (Nat.le_of_ble_eq_true rfl) (tbd tv_X12_mount rfl) (fun v87w f87 q87 => ?_) (fun _ _ h => h.elim)
  obtain ⟨rfl, ⟨az87, sy87, r87⟩, fa87⟩ := q87
  refine G.eqs [.int (v87)] rfl ?_
  refine G.go tv_X12_mount 2 93 [(0, .ref (gAd E (56))), (1, .int (v87))] [.ref (gAd E (56))] rfl ?_
  refine G.rg r87 hE 43 (.ref (gAd E (78))) (by decide) rfl (tbd tv_X12_mount rfl) w_2108 ?_
  refine G.go tv_X12_mount 2 99 [(0, .ref (gAd E (56))), (1, .int (v87))] [.int ((4 : Int32)), .int ((6 : Int32)), .ref (gAd E (78))] rfl ?_
  obtain ⟨v88, hv88, hr⟩ := bnd_s hr
  refine G.callS [.ref (gAd E (78)), .int ((6 : Int32)), .int ((4 : Int32))] [] (k_X12_number_78 E _ hE R86 ⟨_, _, r87⟩ ((6 : Int32)) ((4 : Int32)) v88 hv88) cw_X12_232 w_2353 (Nat.le_of_ble_eq_true rfl) rfl (Nat.le_of_ble_eq_true rfl) (tbd tv_X12_mount rfl) (fun v88w f88 q88 => ?_) (fun _ _ h => h.elim)
  obtain ⟨rfl, ⟨az88, sy88, r88⟩, fa88⟩ := q88
  refine G.eqs [.int (v88)] rfl ?_
  refine G.go tv_X12_mount 3 105 [(0, .ref (gAd E (56))), (1, .int (v87)), (2, .int (v88))] [.ref (gAd E (56)), .ref (gAd E (56))] rfl ?_
  refine G.rg r88 hE 43 (.ref (gAd E (78))) (by decide) rfl (tbd tv_X12_mount rfl) w_2108 ?_
  refine G.go tv_X12_mount 2 110 [(0, .ref (gAd E (56))), (1, .int (v87)), (2, .int (v88))] [.int ((4 : Int32)), .int ((2 : Int32)), .ref (gAd E (78)), .ref (gAd E (56))] rfl ?_
  obtain ⟨v89, hv89, hr⟩ := bnd_s hr
  refine G.callS [.ref (gAd E (78)), .int ((2 : Int32)), .int ((4 : Int32))] [.ref (gAd E (56))] (k_X12_number_78 E _ hE R86 ⟨_, _, r88⟩ ((2 : Int32)) ((4 : Int32)) v89 hv89) cw_X12_232 w_2353 (Nat.le_of_ble_eq_true rfl) rfl (Nat.le_of_ble_eq_true rfl) (tbd tv_X12_mount rfl) (fun v89w f89 q89 => ?_) (fun _ _ h => h.elim)
  obtain ⟨rfl, ⟨az89, sy89, r89⟩, fa89⟩ := q89
  refine G.eqs [.int (v89), .ref (gAd E (56))] rfl ?_
  obtain ⟨R90, eR90, hr⟩ := ptR_s hr
  refine G.rpW r89 hE 22 eR90 (by decide) rfl (by decide) rfl rfl rfl (tbd tv_X12_mount rfl) w_2087 (fun u90 r90 h90 => ?_)
  refine G.go tv_X12_mount 4 122 [(0, .ref (gAd E (56))), (1, .int (v87)), (2, .int (v88)), (3, .int ((7 : Int32))), (4, .int ((0 : Int32)))] [] rfl ?_
  refine G.less [(0, .ref (gAd E (56))), (1, .int (v87)), (2, .int (v88)), (3, .int ((7 : Int32))), (4, .int ((0 : Int32)))] [0, 1, 2, 3, 4] rfl ?_
  exact l_X12_mount_122 E f0 sz QA hE _ _ _ _ _ _ _ _ hr _ ⟨_, _, r90⟩ (((((hf.tr fa86 (fun _ h => h)).tr fa87 (fun _ h => h)).tr fa88 (fun _ h => h)).tr fa89 (fun _ h => h)).tr h90 (fun _ h => h))
set_option maxRecDepth 100000 in
set_option maxHeartbeats 4000000 in
theorem l_X12_mount_29 (E : gE) (f0 : Nat → va_E) (sz : Nat) (QA : Nat → Prop) (hE : 94 ≤ gN E) : ∀ (R : RfT) (r : Int32) (R9 : RfT) (hr : e_mount_29  R = some (r, R9)) (f : Nat → va_E) (w : RW E f R) (hf : Fr RfK f0 f), G E (12, yX12_mount, 6, (some .int), sz, QA) cX12_mount (gO E (12, yX12_mount, 6, (some .int), sz, QA) (fun v g => v = some (.int r) ∧ RW E g R9 ∧ Fr RfK f0 g, fun _ _ => False)) 29 [(0, .ref (gAd E (56)))] [] f := by
  intro R r R9 hr f w hf
  obtain ⟨az, sy, r0⟩ := w
  unfold e_mount_29 at hr
  refine G.go tv_X12_mount 1 30 [(0, .ref (gAd E (56)))] [.ref (gAd E (56))] rfl ?_
  obtain ⟨R79, hv79, hr⟩ := bnd_s hr
  refine G.callV (56) [] [] (k_X12_head E _ hE R ⟨_, _, r0⟩ R79 hv79) cls_X12 (by omega) (r0.o) cw_X12_395 w_2334 w_68 (Nat.le_of_ble_eq_true rfl) rfl (Nat.le_of_ble_eq_true rfl) (tbd tv_X12_mount rfl) (fun v79w f79 q79 => ?_) (fun _ _ h => h.elim)
  obtain ⟨rfl, ⟨az79, sy79, r79⟩, fa79⟩ := q79
  refine G.eqs [] rfl ?_
  refine G.go tv_X12_mount 3 36 [(0, .ref (gAd E (56)))] [.ref (gAd E (56)), .int ((0 : Int32)), .ref (gAd E (56))] rfl ?_
  refine G.rg r79 hE 43 (.ref (gAd E (78))) (by decide) rfl (tbd tv_X12_mount rfl) w_2108 ?_
  obtain ⟨R80, hv80, hr⟩ := bnd_s hr
  refine G.callV (56) [.int ((0 : Int32)), .ref (gAd E (78))] [] (k_X12_readDisk_78 E _ hE R79 ⟨_, _, r79⟩ ((0 : Int32)) R80 hv80) cls_X12 (by omega) (r79.o) cw_X12_399 w_2347 w_70 (Nat.le_of_ble_eq_true rfl) rfl (Nat.le_of_ble_eq_true rfl) (tbd tv_X12_mount rfl) (fun v80w f80 q80 => ?_) (fun _ _ h => h.elim)
  obtain ⟨rfl, ⟨az80, sy80, r80⟩, fa80⟩ := q80
  refine G.eqs [] rfl ?_
  refine G.go tv_X12_mount 2 44 [(0, .ref (gAd E (56)))] [.ref (gAd E (56)), .ref (gAd E (56))] rfl ?_
  refine G.rg r80 hE 43 (.ref (gAd E (78))) (by decide) rfl (tbd tv_X12_mount rfl) w_2108 ?_
  refine G.go tv_X12_mount 2 49 [(0, .ref (gAd E (56)))] [.ref (gAd E (56)), .int ((0 : Int32)), .ref (gAd E (78)), .ref (gAd E (56))] rfl ?_
  refine G.rg r80 hE 44 (.ref (gAd E (79))) (by decide) rfl (tbd tv_X12_mount rfl) w_2109 ?_
  refine G.go tv_X12_mount 1 53 [(0, .ref (gAd E (56)))] [.int ((0 : Int32)), .ref (gAd E (79)), .int ((0 : Int32)), .ref (gAd E (78)), .ref (gAd E (56))] rfl ?_
  obtain ⟨v81, hv81, hr⟩ := bnd_s hr
  refine G.callS [.ref (gAd E (78)), .int ((0 : Int32)), .ref (gAd E (79)), .int ((0 : Int32))] [.ref (gAd E (56))] (k_X12_same_78_79 E _ hE R80 ⟨_, _, r80⟩ ((0 : Int32)) ((0 : Int32)) v81 hv81) cw_X12_280 w_2350 (Nat.le_of_ble_eq_true rfl) rfl (Nat.le_of_ble_eq_true rfl) (tbd tv_X12_mount rfl) (fun v81w f81 q81 => ?_) (fun _ _ h => h.elim)
  obtain ⟨rfl, ⟨az81, sy81, r81⟩, fa81⟩ := q81
  refine G.eqs [.int (v81), .ref (gAd E (56))] rfl ?_
  refine G.if_ne 63 (tbd tv_X12_mount rfl) (by decide) (fun c56 => ?_) (fun c56 => ?_)
  · replace hr := ite_f c56 hr
    refine G.go tv_X12_mount 2 65 [(0, .ref (gAd E (56)))] [.int ((3 : Int32)), .int ((0 : Int32)), .ref (gAd E (56))] rfl ?_
    obtain ⟨v84, R84, hv84, hr⟩ := bnd2_s hr
    refine G.callV (56) [.int ((0 : Int32)), .int ((3 : Int32))] [] (k_X12_refuse E _ hE R80 ⟨_, _, r81⟩ ((0 : Int32)) ((3 : Int32)) v84 R84 hv84) cls_X12 (by omega) (r81.o) cw_X12_385 w_2268 w_53 (Nat.le_of_ble_eq_true rfl) rfl (Nat.le_of_ble_eq_true rfl) (tbd tv_X12_mount rfl) (fun v84w f84 q84 => ?_) (fun _ _ h => h.elim)
    obtain ⟨rfl, ⟨az84, sy84, r84⟩, fa84⟩ := q84
    refine G.eqs [.int (v84)] rfl ?_
    refine G.if_eq 73 (tbd tv_X12_mount rfl) (by decide) (fun c68 => ?_) (fun c68 => ?_)
    · replace hr := ite_t c68 hr
      refine G.less [(0, .ref (gAd E (56)))] [0] rfl ?_
      exact l_X12_mount_73 E f0 sz QA hE _ _ _ hr _ ⟨_, _, r84⟩ ((((hf.tr fa79 (fun _ h => h)).tr fa80 (fun _ h => h)).tr fa81 (fun _ h => h)).tr fa84 (fun _ h => h))
    · replace hr := ite_f c68 hr
      refine G.go tv_X12_mount 1 72 [(0, .ref (gAd E (56)))] [.int ((0 : Int32))] rfl ?_
      cases hr
      exact G.iret rfl rfl ⟨rfl, ⟨_, _, r84⟩, ((((hf.tr fa79 (fun _ h => h)).tr fa80 (fun _ h => h)).tr fa81 (fun _ h => h)).tr fa84 (fun _ h => h))⟩ (tbd tv_X12_mount rfl)
  · replace hr := ite_t c56 hr
    refine G.go tv_X12_mount 3 65 [(0, .ref (gAd E (56)))] [.int ((3 : Int32)), .int ((1 : Int32)), .ref (gAd E (56))] rfl ?_
    obtain ⟨v85, R85, hv85, hr⟩ := bnd2_s hr
    refine G.callV (56) [.int ((1 : Int32)), .int ((3 : Int32))] [] (k_X12_refuse E _ hE R80 ⟨_, _, r81⟩ ((1 : Int32)) ((3 : Int32)) v85 R85 hv85) cls_X12 (by omega) (r81.o) cw_X12_385 w_2268 w_53 (Nat.le_of_ble_eq_true rfl) rfl (Nat.le_of_ble_eq_true rfl) (tbd tv_X12_mount rfl) (fun v85w f85 q85 => ?_) (fun _ _ h => h.elim)
    obtain ⟨rfl, ⟨az85, sy85, r85⟩, fa85⟩ := q85
    refine G.eqs [.int (v85)] rfl ?_
    refine G.if_eq 73 (tbd tv_X12_mount rfl) (by decide) (fun c68 => ?_) (fun c68 => ?_)
    · replace hr := ite_t c68 hr
      refine G.less [(0, .ref (gAd E (56)))] [0] rfl ?_
      exact l_X12_mount_73 E f0 sz QA hE _ _ _ hr _ ⟨_, _, r85⟩ ((((hf.tr fa79 (fun _ h => h)).tr fa80 (fun _ h => h)).tr fa81 (fun _ h => h)).tr fa85 (fun _ h => h))
    · replace hr := ite_f c68 hr
      refine G.go tv_X12_mount 1 72 [(0, .ref (gAd E (56)))] [.int ((0 : Int32))] rfl ?_
      cases hr
      exact G.iret rfl rfl ⟨rfl, ⟨_, _, r85⟩, ((((hf.tr fa79 (fun _ h => h)).tr fa80 (fun _ h => h)).tr fa81 (fun _ h => h)).tr fa85 (fun _ h => h))⟩ (tbd tv_X12_mount rfl)
set_option maxRecDepth 100000 in
set_option maxHeartbeats 4000000 in
theorem k_X12_mount (E : gE) (f : Nat → va_E) (hE : 94 ≤ gN E) (R : RfT) (w : RW E f R) (r : Int32) (R9 : RfT) (hr : e_mount R = some (r, R9)) : Ct E 12 yX12_mount cX12_mount 6 (some .int) [.ref (gAd E (56))] f (fun v g => v = some (.int r) ∧ RW E g R9 ∧ Fr RfK f g, fun _ _ => False) := by
  obtain ⟨az, sy, r0⟩ := w
  refine Ct.of (by decide) (Nat.le_of_ble_eq_true rfl) (fun sz => ?_)
  refine G.eql [(0, .ref (gAd E (56)))] rfl ?_
  unfold e_mount at hr
  refine G.go tv_X12_mount 2 2 [(0, .ref (gAd E (56)))] [.ref (gAd E (56)), .ref (gAd E (56))] rfl ?_
  refine G.rg r0 hE 21 (.int (rS R 21)) (by decide) rfl (tbd tv_X12_mount rfl) w_2086 ?_
  refine G.if_ne 15 (tbd tv_X12_mount rfl) (by decide) (fun c5 => ?_) (fun c5 => ?_)
  · replace hr := ite_f c5 hr
    refine G.go tv_X12_mount 3 21 [(0, .ref (gAd E (56)))] [.int ((1 : Int32)), .int ((1 : Int32)), .ref (gAd E (56))] rfl ?_
    obtain ⟨v76, R76, hv76, hr⟩ := bnd2_s hr
    refine G.callV (56) [.int ((1 : Int32)), .int ((1 : Int32))] [] (k_X12_refuse E _ hE R ⟨_, _, r0⟩ ((1 : Int32)) ((1 : Int32)) v76 R76 hv76) cls_X12 (by omega) (r0.o) cw_X12_385 w_2268 w_53 (Nat.le_of_ble_eq_true rfl) rfl (Nat.le_of_ble_eq_true rfl) (tbd tv_X12_mount rfl) (fun v76w f76 q76 => ?_) (fun _ _ h => h.elim)
    obtain ⟨rfl, ⟨az76, sy76, r76⟩, fa76⟩ := q76
    refine G.eqs [.int (v76)] rfl ?_
    refine G.if_eq 29 (tbd tv_X12_mount rfl) (by decide) (fun c24 => ?_) (fun c24 => ?_)
    · replace hr := ite_t c24 hr
      refine G.less [(0, .ref (gAd E (56)))] [0] rfl ?_
      exact l_X12_mount_29 E f sz _ hE _ _ _ hr _ ⟨_, _, r76⟩ (Fr.rf.tr fa76 (fun _ h => h))
    · replace hr := ite_f c24 hr
      refine G.go tv_X12_mount 1 28 [(0, .ref (gAd E (56)))] [.int ((0 : Int32))] rfl ?_
      cases hr
      exact G.iret rfl rfl ⟨rfl, ⟨_, _, r76⟩, (Fr.rf.tr fa76 (fun _ h => h))⟩ (tbd tv_X12_mount rfl)
  · replace hr := ite_t c5 hr
    refine G.go tv_X12_mount 1 9 [(0, .ref (gAd E (56)))] [.ref (gAd E (56)), .ref (gAd E (56))] rfl ?_
    refine G.rg r0 hE 11 (.int (rS R 11)) (by decide) rfl (tbd tv_X12_mount rfl) w_2076 ?_
    refine G.if_ne 19 (tbd tv_X12_mount rfl) (by decide) (fun c12 => ?_) (fun c12 => ?_)
    · replace hr := ite_f c12 hr
      refine G.go tv_X12_mount 2 21 [(0, .ref (gAd E (56)))] [.int ((1 : Int32)), .int ((0 : Int32)), .ref (gAd E (56))] rfl ?_
      obtain ⟨v77, R77, hv77, hr⟩ := bnd2_s hr
      refine G.callV (56) [.int ((0 : Int32)), .int ((1 : Int32))] [] (k_X12_refuse E _ hE R ⟨_, _, r0⟩ ((0 : Int32)) ((1 : Int32)) v77 R77 hv77) cls_X12 (by omega) (r0.o) cw_X12_385 w_2268 w_53 (Nat.le_of_ble_eq_true rfl) rfl (Nat.le_of_ble_eq_true rfl) (tbd tv_X12_mount rfl) (fun v77w f77 q77 => ?_) (fun _ _ h => h.elim)
      obtain ⟨rfl, ⟨az77, sy77, r77⟩, fa77⟩ := q77
      refine G.eqs [.int (v77)] rfl ?_
      refine G.if_eq 29 (tbd tv_X12_mount rfl) (by decide) (fun c24 => ?_) (fun c24 => ?_)
      · replace hr := ite_t c24 hr
        refine G.less [(0, .ref (gAd E (56)))] [0] rfl ?_
        exact l_X12_mount_29 E f sz _ hE _ _ _ hr _ ⟨_, _, r77⟩ (Fr.rf.tr fa77 (fun _ h => h))
      · replace hr := ite_f c24 hr
        refine G.go tv_X12_mount 1 28 [(0, .ref (gAd E (56)))] [.int ((0 : Int32))] rfl ?_
        cases hr
        exact G.iret rfl rfl ⟨rfl, ⟨_, _, r77⟩, (Fr.rf.tr fa77 (fun _ h => h))⟩ (tbd tv_X12_mount rfl)
    · replace hr := ite_t c12 hr
      refine G.go tv_X12_mount 3 21 [(0, .ref (gAd E (56)))] [.int ((1 : Int32)), .int ((1 : Int32)), .ref (gAd E (56))] rfl ?_
      obtain ⟨v78, R78, hv78, hr⟩ := bnd2_s hr
      refine G.callV (56) [.int ((1 : Int32)), .int ((1 : Int32))] [] (k_X12_refuse E _ hE R ⟨_, _, r0⟩ ((1 : Int32)) ((1 : Int32)) v78 R78 hv78) cls_X12 (by omega) (r0.o) cw_X12_385 w_2268 w_53 (Nat.le_of_ble_eq_true rfl) rfl (Nat.le_of_ble_eq_true rfl) (tbd tv_X12_mount rfl) (fun v78w f78 q78 => ?_) (fun _ _ h => h.elim)
      obtain ⟨rfl, ⟨az78, sy78, r78⟩, fa78⟩ := q78
      refine G.eqs [.int (v78)] rfl ?_
      refine G.if_eq 29 (tbd tv_X12_mount rfl) (by decide) (fun c24 => ?_) (fun c24 => ?_)
      · replace hr := ite_t c24 hr
        refine G.less [(0, .ref (gAd E (56)))] [0] rfl ?_
        exact l_X12_mount_29 E f sz _ hE _ _ _ hr _ ⟨_, _, r78⟩ (Fr.rf.tr fa78 (fun _ h => h))
      · replace hr := ite_f c24 hr
        refine G.go tv_X12_mount 1 28 [(0, .ref (gAd E (56)))] [.int ((0 : Int32))] rfl ?_
        cases hr
        exact G.iret rfl rfl ⟨rfl, ⟨_, _, r78⟩, (Fr.rf.tr fa78 (fun _ h => h))⟩ (tbd tv_X12_mount rfl)
noncomputable def e_putZero  (R : RfT) (a0 : Int32) : Option (RfT) := bnd (e_empty R) (fun R125 => bnd (e_hand_79 R125 a0 ((0 : Int32))) (fun R126 => some R126))
set_option maxRecDepth 100000 in
set_option maxHeartbeats 4000000 in
theorem k_X12_putZero (E : gE) (f : Nat → va_E) (hE : 94 ≤ gN E) (R : RfT) (w : RW E f R) (a0 : Int32) (R9 : RfT) (hr : e_putZero R a0 = some R9) : Ct E 6 yX12_putZero cX12_putZero 2 none [.ref (gAd E (56)), .int (a0)] f (fun v g => v = none ∧ RW E g R9 ∧ Fr RfK f g, fun _ _ => False) := by
  obtain ⟨az, sy, r0⟩ := w
  refine Ct.of (by decide) (Nat.le_of_ble_eq_true rfl) (fun sz => ?_)
  refine G.eql [(0, .ref (gAd E (56))), (1, .int (a0))] rfl ?_
  unfold e_putZero at hr
  refine G.go tv_X12_putZero 1 1 [(0, .ref (gAd E (56))), (1, .int (a0))] [.ref (gAd E (56))] rfl ?_
  obtain ⟨R125, hv125, hr⟩ := bnd_s hr
  refine G.callV (56) [] [] (k_X12_empty E _ hE R ⟨_, _, r0⟩ R125 hv125) cls_X12 (by omega) (r0.o) cw_X12_249 w_2276 w_55 (Nat.le_of_ble_eq_true rfl) rfl (Nat.le_of_ble_eq_true rfl) (tbd tv_X12_putZero rfl) (fun v125w f125 q125 => ?_) (fun _ _ h => h.elim)
  obtain ⟨rfl, ⟨az125, sy125, r125⟩, fa125⟩ := q125
  refine G.eqs [] rfl ?_
  refine G.go tv_X12_putZero 3 7 [(0, .ref (gAd E (56))), (1, .int (a0))] [.ref (gAd E (56)), .int (a0), .ref (gAd E (56))] rfl ?_
  refine G.rg r125 hE 44 (.ref (gAd E (79))) (by decide) rfl (tbd tv_X12_putZero rfl) w_2109 ?_
  refine G.go tv_X12_putZero 1 11 [(0, .ref (gAd E (56))), (1, .int (a0))] [.int ((0 : Int32)), .ref (gAd E (79)), .int (a0), .ref (gAd E (56))] rfl ?_
  obtain ⟨R126, hv126, hr⟩ := bnd_s hr
  refine G.callV (56) [.int (a0), .ref (gAd E (79)), .int ((0 : Int32))] [] (k_X12_hand_79 E _ hE R125 ⟨_, _, r125⟩ a0 ((0 : Int32)) R126 hv126) cls_X12 (by omega) (r125.o) cw_X12_252 w_2280 w_56 (Nat.le_of_ble_eq_true rfl) rfl (Nat.le_of_ble_eq_true rfl) (tbd tv_X12_putZero rfl) (fun v126w f126 q126 => ?_) (fun _ _ h => h.elim)
  obtain ⟨rfl, ⟨az126, sy126, r126⟩, fa126⟩ := q126
  refine G.eqs [] rfl ?_
  cases hr
  exact G.vret rfl ⟨rfl, ⟨_, _, r126⟩, ((Fr.rf.tr fa125 (fun _ h => h)).tr fa126 (fun _ h => h))⟩ (tbd tv_X12_putZero rfl)
noncomputable def e_format_235  (R : RfT) : Option (Int32 × RfT) := bnd2 (e_answer R ((rS R 1) - ((61 : Int32)))) (fun v146 R146 => some (v146, R146))
noncomputable def e_format_203  (R : RfT) : Option (Int32 × RfT) := if (rS R 11) = 0 then if (rS R 11) = 0 then e_format_235  R else bnd (e_settle R) (fun R139 => e_format_235  R139) else bnd (e_head R) (fun R140 => bnd (e_hand_79 R140 ((0 : Int32)) ((0 : Int32))) (fun R141 => if (rS R141 11) = 0 then e_format_235  R141 else bnd (e_settle R141) (fun R142 => e_format_235  R142)))
noncomputable def e_format_192  (R : RfT) : Option (Int32 × RfT) := if (rS R 11) = 0 then e_format_203  R else bnd (e_settle R) (fun R130 => e_format_203  R130)
noncomputable def e_format_175  : Nat → RfT → Int32 → Option (Int32 × RfT)
  | 0, _, _ => none
  | n + 1, R, x1 => if ((61 : Int32)) ≤ x1 then e_format_192  R else bnd (e_putZero R x1) (fun R143 => e_format_175  n R143 (x1 + (1 : Int32)))
noncomputable def e_format_78  (self57 : RfT → Int32 → Option (Int32 × RfT)) (R : RfT) (x1 : Int32) : Option (Int32 × RfT) := ld (rA R 44) 128 ((x1) / ((8 : Int32))) (fun v144 => stR R 44 128 ((x1) / ((8 : Int32))) (vp_nar .byte (((v144) ||| (((1 : Int32)) <<< (((x1) - (x1) / ((8 : Int32)) * ((8 : Int32))) &&& 31)) : Int32).toInt8.toInt32)) (fun R145 => self57 R145 (x1 + (1 : Int32))))
noncomputable def e_format_57  : Nat → RfT → Int32 → Option (Int32 × RfT)
  | 0, _, _ => none
  | n + 1, R, x1 => if ((1024 : Int32)) ≤ x1 then bnd (e_hand_79 R ((43 : Int32)) ((0 : Int32))) (fun R131 => bnd (e_empty R131) (fun R132 => stR R132 44 128 ((0 : Int32)) (vp_nar .byte ((1 : Int32))) (fun R133 => bnd (e_hand_79 R133 ((44 : Int32)) ((0 : Int32))) (fun R134 => bnd (e_empty R134) (fun R135 => stR R135 44 128 ((0 : Int32)) (vp_nar .byte ((2 : Int32))) (fun R136 => stR R136 44 128 ((1 : Int32)) (vp_nar .byte ((1 : Int32))) (fun R137 => bnd (e_hand_79 R137 ((45 : Int32)) ((0 : Int32))) (fun R138 => e_format_175  fuL R138 ((46 : Int32)))))))))) else if x1 < ((61 : Int32)) then e_format_78  (e_format_57  n) R x1 else if x1 < (rS R 1) then e_format_57  n R (x1 + (1 : Int32)) else e_format_78  (e_format_57  n) R x1
noncomputable def e_format_29  (R : RfT) : Option (Int32 × RfT) := bnd (e_putZero R ((0 : Int32))) (fun R124 => bnd (e_settle R124) (fun R127 => if (rS R127 11) = 0 then e_format_192  R127 else bnd (e_putHead R127 ((0 : Int32)) ((0 : Int32))) (fun R128 => bnd (e_empty R128) (fun R129 => e_format_57  fuL R129 ((0 : Int32))))))
noncomputable def e_format  (R : RfT) : Option (Int32 × RfT) := if (rS R 21) = 0 then if (rS R 11) = 0 then bnd2 (e_refuse R ((1 : Int32)) ((1 : Int32))) (fun v123 R123 => if v123 = 0 then e_format_29  R123 else some ((0 : Int32), R123)) else bnd2 (e_refuse R ((0 : Int32)) ((1 : Int32))) (fun v122 R122 => if v122 = 0 then e_format_29  R122 else some ((0 : Int32), R122)) else bnd2 (e_refuse R ((1 : Int32)) ((1 : Int32))) (fun v121 R121 => if v121 = 0 then e_format_29  R121 else some ((0 : Int32), R121))
set_option maxRecDepth 100000 in
set_option maxHeartbeats 4000000 in
theorem l_X12_format_235 (E : gE) (f0 : Nat → va_E) (sz : Nat) (QA : Nat → Prop) (hE : 94 ≤ gN E) : ∀ (R : RfT) (r : Int32) (R9 : RfT) (hr : e_format_235  R = some (r, R9)) (f : Nat → va_E) (w : RW E f R) (hf : Fr RfK f0 f), G E (7, yX12_format, 2, (some .int), sz, QA) cX12_format (gO E (7, yX12_format, 2, (some .int), sz, QA) (fun v g => v = some (.int r) ∧ RW E g R9 ∧ Fr RfK f0 g, fun _ _ => False)) 235 [(0, .ref (gAd E (56)))] [] f := by
  intro R r R9 hr f w hf
  obtain ⟨az, sy, r0⟩ := w
  unfold e_format_235 at hr
  refine G.go tv_X12_format 2 237 [(0, .ref (gAd E (56)))] [.ref (gAd E (56)), .ref (gAd E (56))] rfl ?_
  refine G.rg r0 hE 1 (.int (rS R 1)) (by decide) rfl (tbd tv_X12_format rfl) w_2066 ?_
  refine G.go tv_X12_format 2 243 [(0, .ref (gAd E (56)))] [.int ((rS R 1) - ((61 : Int32))), .ref (gAd E (56))] rfl ?_
  obtain ⟨v146, R146, hv146, hr⟩ := bnd2_s hr
  refine G.callV (56) [.int ((rS R 1) - ((61 : Int32)))] [] (k_X12_answer E _ hE R ⟨_, _, r0⟩ ((rS R 1) - ((61 : Int32))) v146 R146 hv146) cls_X12 (by omega) (r0.o) cw_X12_389 w_2339 w_69 (Nat.le_of_ble_eq_true rfl) rfl (Nat.le_of_ble_eq_true rfl) (tbd tv_X12_format rfl) (fun v146w f146 q146 => ?_) (fun _ _ h => h.elim)
  obtain ⟨rfl, ⟨az146, sy146, r146⟩, fa146⟩ := q146
  refine G.eqs [.int (v146)] rfl ?_
  cases hr
  exact G.iret rfl rfl ⟨rfl, ⟨_, _, r146⟩, (hf.tr fa146 (fun _ h => h))⟩ (tbd tv_X12_format rfl)
set_option maxRecDepth 100000 in
set_option maxHeartbeats 4000000 in
theorem l_X12_format_203 (E : gE) (f0 : Nat → va_E) (sz : Nat) (QA : Nat → Prop) (hE : 94 ≤ gN E) : ∀ (R : RfT) (r : Int32) (R9 : RfT) (hr : e_format_203  R = some (r, R9)) (f : Nat → va_E) (w : RW E f R) (hf : Fr RfK f0 f), G E (7, yX12_format, 2, (some .int), sz, QA) cX12_format (gO E (7, yX12_format, 2, (some .int), sz, QA) (fun v g => v = some (.int r) ∧ RW E g R9 ∧ Fr RfK f0 g, fun _ _ => False)) 203 [(0, .ref (gAd E (56)))] [] f := by
  intro R r R9 hr f w hf
  obtain ⟨az, sy, r0⟩ := w
  unfold e_format_203 at hr
  refine G.go tv_X12_format 1 204 [(0, .ref (gAd E (56)))] [.ref (gAd E (56))] rfl ?_
  refine G.rg r0 hE 11 (.int (rS R 11)) (by decide) rfl (tbd tv_X12_format rfl) w_2076 ?_
  refine G.if_eq 224 (tbd tv_X12_format rfl) (by decide) (fun c207 => ?_) (fun c207 => ?_)
  · replace hr := ite_t c207 hr
    refine G.go tv_X12_format 1 225 [(0, .ref (gAd E (56)))] [.ref (gAd E (56))] rfl ?_
    refine G.rg r0 hE 11 (.int (rS R 11)) (by decide) rfl (tbd tv_X12_format rfl) w_2076 ?_
    refine G.if_eq 235 (tbd tv_X12_format rfl) (by decide) (fun c228 => ?_) (fun c228 => ?_)
    · replace hr := ite_t c228 hr
      refine G.less [(0, .ref (gAd E (56)))] [0] rfl ?_
      exact l_X12_format_235 E f0 sz QA hE _ _ _ hr _ ⟨_, _, r0⟩ hf
    · replace hr := ite_f c228 hr
      refine G.go tv_X12_format 1 232 [(0, .ref (gAd E (56)))] [.ref (gAd E (56))] rfl ?_
      obtain ⟨R139, hv139, hr⟩ := bnd_s hr
      refine G.callV (56) [] [] (k_X12_settle E _ hE R ⟨_, _, r0⟩ R139 hv139) cls_X12 (by omega) (r0.o) cw_X12_255 w_2315 w_64 (Nat.le_of_ble_eq_true rfl) rfl (Nat.le_of_ble_eq_true rfl) (tbd tv_X12_format rfl) (fun v139w f139 q139 => ?_) (fun _ _ h => h.elim)
      obtain ⟨rfl, ⟨az139, sy139, r139⟩, fa139⟩ := q139
      refine G.eqs [] rfl ?_
      refine G.less [(0, .ref (gAd E (56)))] [0] rfl ?_
      exact l_X12_format_235 E f0 sz QA hE _ _ _ hr _ ⟨_, _, r139⟩ (hf.tr fa139 (fun _ h => h))
  · replace hr := ite_f c207 hr
    refine G.go tv_X12_format 1 211 [(0, .ref (gAd E (56)))] [.ref (gAd E (56))] rfl ?_
    obtain ⟨R140, hv140, hr⟩ := bnd_s hr
    refine G.callV (56) [] [] (k_X12_head E _ hE R ⟨_, _, r0⟩ R140 hv140) cls_X12 (by omega) (r0.o) cw_X12_395 w_2334 w_68 (Nat.le_of_ble_eq_true rfl) rfl (Nat.le_of_ble_eq_true rfl) (tbd tv_X12_format rfl) (fun v140w f140 q140 => ?_) (fun _ _ h => h.elim)
    obtain ⟨rfl, ⟨az140, sy140, r140⟩, fa140⟩ := q140
    refine G.eqs [] rfl ?_
    refine G.go tv_X12_format 3 217 [(0, .ref (gAd E (56)))] [.ref (gAd E (56)), .int ((0 : Int32)), .ref (gAd E (56))] rfl ?_
    refine G.rg r140 hE 44 (.ref (gAd E (79))) (by decide) rfl (tbd tv_X12_format rfl) w_2109 ?_
    refine G.go tv_X12_format 1 221 [(0, .ref (gAd E (56)))] [.int ((0 : Int32)), .ref (gAd E (79)), .int ((0 : Int32)), .ref (gAd E (56))] rfl ?_
    obtain ⟨R141, hv141, hr⟩ := bnd_s hr
    refine G.callV (56) [.int ((0 : Int32)), .ref (gAd E (79)), .int ((0 : Int32))] [] (k_X12_hand_79 E _ hE R140 ⟨_, _, r140⟩ ((0 : Int32)) ((0 : Int32)) R141 hv141) cls_X12 (by omega) (r140.o) cw_X12_252 w_2280 w_56 (Nat.le_of_ble_eq_true rfl) rfl (Nat.le_of_ble_eq_true rfl) (tbd tv_X12_format rfl) (fun v141w f141 q141 => ?_) (fun _ _ h => h.elim)
    obtain ⟨rfl, ⟨az141, sy141, r141⟩, fa141⟩ := q141
    refine G.eqs [] rfl ?_
    refine G.go tv_X12_format 1 225 [(0, .ref (gAd E (56)))] [.ref (gAd E (56))] rfl ?_
    refine G.rg r141 hE 11 (.int (rS R141 11)) (by decide) rfl (tbd tv_X12_format rfl) w_2076 ?_
    refine G.if_eq 235 (tbd tv_X12_format rfl) (by decide) (fun c228 => ?_) (fun c228 => ?_)
    · replace hr := ite_t c228 hr
      refine G.less [(0, .ref (gAd E (56)))] [0] rfl ?_
      exact l_X12_format_235 E f0 sz QA hE _ _ _ hr _ ⟨_, _, r141⟩ ((hf.tr fa140 (fun _ h => h)).tr fa141 (fun _ h => h))
    · replace hr := ite_f c228 hr
      refine G.go tv_X12_format 1 232 [(0, .ref (gAd E (56)))] [.ref (gAd E (56))] rfl ?_
      obtain ⟨R142, hv142, hr⟩ := bnd_s hr
      refine G.callV (56) [] [] (k_X12_settle E _ hE R141 ⟨_, _, r141⟩ R142 hv142) cls_X12 (by omega) (r141.o) cw_X12_255 w_2315 w_64 (Nat.le_of_ble_eq_true rfl) rfl (Nat.le_of_ble_eq_true rfl) (tbd tv_X12_format rfl) (fun v142w f142 q142 => ?_) (fun _ _ h => h.elim)
      obtain ⟨rfl, ⟨az142, sy142, r142⟩, fa142⟩ := q142
      refine G.eqs [] rfl ?_
      refine G.less [(0, .ref (gAd E (56)))] [0] rfl ?_
      exact l_X12_format_235 E f0 sz QA hE _ _ _ hr _ ⟨_, _, r142⟩ (((hf.tr fa140 (fun _ h => h)).tr fa141 (fun _ h => h)).tr fa142 (fun _ h => h))
set_option maxRecDepth 100000 in
set_option maxHeartbeats 4000000 in
theorem l_X12_format_192 (E : gE) (f0 : Nat → va_E) (sz : Nat) (QA : Nat → Prop) (hE : 94 ≤ gN E) : ∀ (R : RfT) (r : Int32) (R9 : RfT) (hr : e_format_192  R = some (r, R9)) (f : Nat → va_E) (w : RW E f R) (hf : Fr RfK f0 f), G E (7, yX12_format, 2, (some .int), sz, QA) cX12_format (gO E (7, yX12_format, 2, (some .int), sz, QA) (fun v g => v = some (.int r) ∧ RW E g R9 ∧ Fr RfK f0 g, fun _ _ => False)) 192 [(0, .ref (gAd E (56)))] [] f := by
  intro R r R9 hr f w hf
  obtain ⟨az, sy, r0⟩ := w
  unfold e_format_192 at hr
  refine G.go tv_X12_format 1 193 [(0, .ref (gAd E (56)))] [.ref (gAd E (56))] rfl ?_
  refine G.rg r0 hE 11 (.int (rS R 11)) (by decide) rfl (tbd tv_X12_format rfl) w_2076 ?_
  refine G.if_eq 203 (tbd tv_X12_format rfl) (by decide) (fun c196 => ?_) (fun c196 => ?_)
  · replace hr := ite_t c196 hr
    refine G.less [(0, .ref (gAd E (56)))] [0] rfl ?_
    exact l_X12_format_203 E f0 sz QA hE _ _ _ hr _ ⟨_, _, r0⟩ hf
  · replace hr := ite_f c196 hr
    refine G.go tv_X12_format 1 200 [(0, .ref (gAd E (56)))] [.ref (gAd E (56))] rfl ?_
    obtain ⟨R130, hv130, hr⟩ := bnd_s hr
    refine G.callV (56) [] [] (k_X12_settle E _ hE R ⟨_, _, r0⟩ R130 hv130) cls_X12 (by omega) (r0.o) cw_X12_255 w_2315 w_64 (Nat.le_of_ble_eq_true rfl) rfl (Nat.le_of_ble_eq_true rfl) (tbd tv_X12_format rfl) (fun v130w f130 q130 => ?_) (fun _ _ h => h.elim)
    obtain ⟨rfl, ⟨az130, sy130, r130⟩, fa130⟩ := q130
    refine G.eqs [] rfl ?_
    refine G.less [(0, .ref (gAd E (56)))] [0] rfl ?_
    exact l_X12_format_203 E f0 sz QA hE _ _ _ hr _ ⟨_, _, r130⟩ (hf.tr fa130 (fun _ h => h))
set_option maxRecDepth 100000 in
set_option maxHeartbeats 4000000 in
theorem l_X12_format_175 (E : gE) (f0 : Nat → va_E) (sz : Nat) (QA : Nat → Prop) (hE : 94 ≤ gN E) : ∀ (n : Nat), ∀ (R : RfT) (x1 : Int32) (r : Int32) (R9 : RfT) (hr : e_format_175  n R x1 = some (r, R9)) (f : Nat → va_E) (w : RW E f R) (hf : Fr RfK f0 f), G E (7, yX12_format, 2, (some .int), sz, QA) cX12_format (gO E (7, yX12_format, 2, (some .int), sz, QA) (fun v g => v = some (.int r) ∧ RW E g R9 ∧ Fr RfK f0 g, fun _ _ => False)) 175 [(0, .ref (gAd E (56))), (1, .int (x1))] [] f := by
  intro n
  induction n with
  | zero =>
    intro R x1 r R9 hr f w hf
    cases hr
  | succ n ih =>
    intro R x1 r R9 hr f w hf
    obtain ⟨az, sy, r0⟩ := w
    unfold e_format_175 at hr
    refine G.go tv_X12_format 2 178 [(0, .ref (gAd E (56))), (1, .int (x1))] [.int ((61 : Int32)), .int (x1)] rfl ?_
    refine G.cmp_ge 192 (tbd tv_X12_format rfl) (by decide) (fun c178 => ?_) (fun c178 => ?_)
    · replace hr := ite_t c178 hr
      refine G.less [(0, .ref (gAd E (56)))] [0] rfl ?_
      exact l_X12_format_192 E f0 sz QA hE _ _ _ hr _ ⟨_, _, r0⟩ hf
    · replace hr := ite_f c178 hr
      refine G.go tv_X12_format 2 183 [(0, .ref (gAd E (56))), (1, .int (x1))] [.int (x1), .ref (gAd E (56))] rfl ?_
      obtain ⟨R143, hv143, hr⟩ := bnd_s hr
      refine G.callV (56) [.int (x1)] [] (k_X12_putZero E _ hE R ⟨_, _, r0⟩ x1 R143 hv143) cls_X12 (by omega) (r0.o) cw_X12_392 w_2272 w_54 (Nat.le_of_ble_eq_true rfl) rfl (Nat.le_of_ble_eq_true rfl) (tbd tv_X12_format rfl) (fun v143w f143 q143 => ?_) (fun _ _ h => h.elim)
      obtain ⟨rfl, ⟨az143, sy143, r143⟩, fa143⟩ := q143
      refine G.eqs [] rfl ?_
      refine G.go tv_X12_format 2 175 [(0, .ref (gAd E (56))), (1, .int (x1 + (1 : Int32)))] [] rfl ?_
      refine G.less [(0, .ref (gAd E (56))), (1, .int (x1 + (1 : Int32)))] [0, 1] rfl ?_
      exact ih _ _ _ _ hr _ ⟨_, _, r143⟩ (hf.tr fa143 (fun _ h => h))
set_option maxRecDepth 100000 in
set_option maxHeartbeats 4000000 in
theorem l_X12_format_78 (E : gE) (f0 : Nat → va_E) (sz : Nat) (QA : Nat → Prop) (hE : 94 ≤ gN E) (self57 : RfT → Int32 → Option (Int32 × RfT)) (hs57 : ∀ (R : RfT) (x1 : Int32) (r : Int32) (R9 : RfT) (hr : self57 R x1 = some (r, R9)) (f : Nat → va_E) (w : RW E f R) (hf : Fr RfK f0 f), G E (7, yX12_format, 2, (some .int), sz, QA) cX12_format (gO E (7, yX12_format, 2, (some .int), sz, QA) (fun v g => v = some (.int r) ∧ RW E g R9 ∧ Fr RfK f0 g, fun _ _ => False)) 57 [(0, .ref (gAd E (56))), (1, .int (x1))] [] f) : ∀ (R : RfT) (x1 : Int32) (r : Int32) (R9 : RfT) (hr : e_format_78  self57 R x1 = some (r, R9)) (f : Nat → va_E) (w : RW E f R) (hf : Fr RfK f0 f), G E (7, yX12_format, 2, (some .int), sz, QA) cX12_format (gO E (7, yX12_format, 2, (some .int), sz, QA) (fun v g => v = some (.int r) ∧ RW E g R9 ∧ Fr RfK f0 g, fun _ _ => False)) 78 [(0, .ref (gAd E (56))), (1, .int (x1))] [] f := by
  intro R x1 r R9 hr f w hf
  obtain ⟨az, sy, r0⟩ := w
  unfold e_format_78 at hr
  refine G.go tv_X12_format 1 79 [(0, .ref (gAd E (56))), (1, .int (x1))] [.ref (gAd E (56))] rfl ?_
  refine G.rg r0 hE 44 (.ref (gAd E (79))) (by decide) rfl (tbd tv_X12_format rfl) w_2109 ?_
  refine G.go tv_X12_format 2 85 [(0, .ref (gAd E (56))), (1, .int (x1))] [.int ((8 : Int32)), .int (x1), .ref (gAd E (79))] rfl ?_
  refine G.idiv (by decide) (tbd tv_X12_format rfl) ?_
  refine G.go tv_X12_format 1 87 [(0, .ref (gAd E (56))), (1, .int (x1))] [.ref (gAd E (56)), .int ((x1) / ((8 : Int32))), .ref (gAd E (79))] rfl ?_
  refine G.rg r0 hE 44 (.ref (gAd E (79))) (by decide) rfl (tbd tv_X12_format rfl) w_2109 ?_
  refine G.go tv_X12_format 2 93 [(0, .ref (gAd E (56))), (1, .int (x1))] [.int ((8 : Int32)), .int (x1), .ref (gAd E (79)), .int ((x1) / ((8 : Int32))), .ref (gAd E (79))] rfl ?_
  refine G.idiv (by decide) (tbd tv_X12_format rfl) ?_
  obtain ⟨v144, b144, e144, hr⟩ := ld_s hr
  refine G.baldE (79) (by omega) (r0.a44) b144 e144 (tbd tv_X12_format rfl) ?_
  refine G.go tv_X12_format 3 99 [(0, .ref (gAd E (56))), (1, .int (x1))] [.int ((8 : Int32)), .int (x1), .int ((1 : Int32)), .int (v144), .int ((x1) / ((8 : Int32))), .ref (gAd E (79))] rfl ?_
  refine G.irem (by decide) (tbd tv_X12_format rfl) ?_
  refine G.go tv_X12_format 3 103 [(0, .ref (gAd E (56))), (1, .int (x1))] [.int (((v144) ||| (((1 : Int32)) <<< (((x1) - (x1) / ((8 : Int32)) * ((8 : Int32))) &&& 31)) : Int32).toInt8.toInt32), .int ((x1) / ((8 : Int32))), .ref (gAd E (79))] rfl ?_
  obtain ⟨R145, b145, eR145, hr⟩ := stR_s hr
  refine G.bast (79) (by omega) (r0.a44) b145 (tbd tv_X12_format rfl) ?_
  refine G.gen (P := fun w9 => RfV E w9 (setSr (setS R145 42 az) sy) ∧ Fr RfK f0 w9) ⟨by rw [eR145]; exact r0.p44 _, Fr.up hf ⟨by decide, by decide⟩⟩ (fun u145 p145 => ?_)
  obtain ⟨r145, h145⟩ := p145
  refine G.go tv_X12_format 2 57 [(0, .ref (gAd E (56))), (1, .int (x1 + (1 : Int32)))] [] rfl ?_
  refine G.less [(0, .ref (gAd E (56))), (1, .int (x1 + (1 : Int32)))] [0, 1] rfl ?_
  exact hs57 _ _ _ _ hr _ ⟨_, _, r145⟩ h145
set_option maxRecDepth 100000 in
set_option maxHeartbeats 4000000 in
theorem l_X12_format_57 (E : gE) (f0 : Nat → va_E) (sz : Nat) (QA : Nat → Prop) (hE : 94 ≤ gN E) : ∀ (n : Nat), ∀ (R : RfT) (x1 : Int32) (r : Int32) (R9 : RfT) (hr : e_format_57  n R x1 = some (r, R9)) (f : Nat → va_E) (w : RW E f R) (hf : Fr RfK f0 f), G E (7, yX12_format, 2, (some .int), sz, QA) cX12_format (gO E (7, yX12_format, 2, (some .int), sz, QA) (fun v g => v = some (.int r) ∧ RW E g R9 ∧ Fr RfK f0 g, fun _ _ => False)) 57 [(0, .ref (gAd E (56))), (1, .int (x1))] [] f := by
  intro n
  induction n with
  | zero =>
    intro R x1 r R9 hr f w hf
    cases hr
  | succ n ih =>
    intro R x1 r R9 hr f w hf
    obtain ⟨az, sy, r0⟩ := w
    unfold e_format_57 at hr
    refine G.go tv_X12_format 2 61 [(0, .ref (gAd E (56))), (1, .int (x1))] [.int ((1024 : Int32)), .int (x1)] rfl ?_
    refine G.cmp_ge 110 (tbd tv_X12_format rfl) (by decide) (fun c61 => ?_) (fun c61 => ?_)
    · replace hr := ite_t c61 hr
      refine G.go tv_X12_format 3 114 [(0, .ref (gAd E (56))), (1, .int (x1))] [.ref (gAd E (56)), .int ((43 : Int32)), .ref (gAd E (56))] rfl ?_
      refine G.rg r0 hE 44 (.ref (gAd E (79))) (by decide) rfl (tbd tv_X12_format rfl) w_2109 ?_
      refine G.go tv_X12_format 1 118 [(0, .ref (gAd E (56))), (1, .int (x1))] [.int ((0 : Int32)), .ref (gAd E (79)), .int ((43 : Int32)), .ref (gAd E (56))] rfl ?_
      obtain ⟨R131, hv131, hr⟩ := bnd_s hr
      refine G.callV (56) [.int ((43 : Int32)), .ref (gAd E (79)), .int ((0 : Int32))] [] (k_X12_hand_79 E _ hE R ⟨_, _, r0⟩ ((43 : Int32)) ((0 : Int32)) R131 hv131) cls_X12 (by omega) (r0.o) cw_X12_252 w_2280 w_56 (Nat.le_of_ble_eq_true rfl) rfl (Nat.le_of_ble_eq_true rfl) (tbd tv_X12_format rfl) (fun v131w f131 q131 => ?_) (fun _ _ h => h.elim)
      obtain ⟨rfl, ⟨az131, sy131, r131⟩, fa131⟩ := q131
      refine G.eqs [] rfl ?_
      refine G.go tv_X12_format 1 122 [(0, .ref (gAd E (56))), (1, .int (x1))] [.ref (gAd E (56))] rfl ?_
      obtain ⟨R132, hv132, hr⟩ := bnd_s hr
      refine G.callV (56) [] [] (k_X12_empty E _ hE R131 ⟨_, _, r131⟩ R132 hv132) cls_X12 (by omega) (r131.o) cw_X12_249 w_2276 w_55 (Nat.le_of_ble_eq_true rfl) rfl (Nat.le_of_ble_eq_true rfl) (tbd tv_X12_format rfl) (fun v132w f132 q132 => ?_) (fun _ _ h => h.elim)
      obtain ⟨rfl, ⟨az132, sy132, r132⟩, fa132⟩ := q132
      refine G.eqs [] rfl ?_
      refine G.go tv_X12_format 1 126 [(0, .ref (gAd E (56))), (1, .int (x1))] [.ref (gAd E (56))] rfl ?_
      refine G.rg r132 hE 44 (.ref (gAd E (79))) (by decide) rfl (tbd tv_X12_format rfl) w_2109 ?_
      refine G.go tv_X12_format 2 131 [(0, .ref (gAd E (56))), (1, .int (x1))] [.int ((1 : Int32)), .int ((0 : Int32)), .ref (gAd E (79))] rfl ?_
      obtain ⟨R133, b133, eR133, hr⟩ := stR_s hr
      refine G.bast (79) (by omega) (r132.a44) b133 (tbd tv_X12_format rfl) ?_
      refine G.gen (P := fun w9 => RfV E w9 (setSr (setS R133 42 az132) sy132) ∧ Fr RfK f0 w9) ⟨by rw [eR133]; exact r132.p44 _, Fr.up ((hf.tr fa131 (fun _ h => h)).tr fa132 (fun _ h => h)) ⟨by decide, by decide⟩⟩ (fun u133 p133 => ?_)
      obtain ⟨r133, h133⟩ := p133
      refine G.go tv_X12_format 3 136 [(0, .ref (gAd E (56))), (1, .int (x1))] [.ref (gAd E (56)), .int ((44 : Int32)), .ref (gAd E (56))] rfl ?_
      refine G.rg r133 hE 44 (.ref (gAd E (79))) (by decide) rfl (tbd tv_X12_format rfl) w_2109 ?_
      refine G.go tv_X12_format 1 140 [(0, .ref (gAd E (56))), (1, .int (x1))] [.int ((0 : Int32)), .ref (gAd E (79)), .int ((44 : Int32)), .ref (gAd E (56))] rfl ?_
      obtain ⟨R134, hv134, hr⟩ := bnd_s hr
      refine G.callV (56) [.int ((44 : Int32)), .ref (gAd E (79)), .int ((0 : Int32))] [] (k_X12_hand_79 E _ hE R133 ⟨_, _, r133⟩ ((44 : Int32)) ((0 : Int32)) R134 hv134) cls_X12 (by omega) (r133.o) cw_X12_252 w_2280 w_56 (Nat.le_of_ble_eq_true rfl) rfl (Nat.le_of_ble_eq_true rfl) (tbd tv_X12_format rfl) (fun v134w f134 q134 => ?_) (fun _ _ h => h.elim)
      obtain ⟨rfl, ⟨az134, sy134, r134⟩, fa134⟩ := q134
      refine G.eqs [] rfl ?_
      refine G.go tv_X12_format 1 144 [(0, .ref (gAd E (56))), (1, .int (x1))] [.ref (gAd E (56))] rfl ?_
      obtain ⟨R135, hv135, hr⟩ := bnd_s hr
      refine G.callV (56) [] [] (k_X12_empty E _ hE R134 ⟨_, _, r134⟩ R135 hv135) cls_X12 (by omega) (r134.o) cw_X12_249 w_2276 w_55 (Nat.le_of_ble_eq_true rfl) rfl (Nat.le_of_ble_eq_true rfl) (tbd tv_X12_format rfl) (fun v135w f135 q135 => ?_) (fun _ _ h => h.elim)
      obtain ⟨rfl, ⟨az135, sy135, r135⟩, fa135⟩ := q135
      refine G.eqs [] rfl ?_
      refine G.go tv_X12_format 1 148 [(0, .ref (gAd E (56))), (1, .int (x1))] [.ref (gAd E (56))] rfl ?_
      refine G.rg r135 hE 44 (.ref (gAd E (79))) (by decide) rfl (tbd tv_X12_format rfl) w_2109 ?_
      refine G.go tv_X12_format 2 153 [(0, .ref (gAd E (56))), (1, .int (x1))] [.int ((2 : Int32)), .int ((0 : Int32)), .ref (gAd E (79))] rfl ?_
      obtain ⟨R136, b136, eR136, hr⟩ := stR_s hr
      refine G.bast (79) (by omega) (r135.a44) b136 (tbd tv_X12_format rfl) ?_
      refine G.gen (P := fun w9 => RfV E w9 (setSr (setS R136 42 az135) sy135) ∧ Fr RfK f0 w9) ⟨by rw [eR136]; exact r135.p44 _, Fr.up ((h133.tr fa134 (fun _ h => h)).tr fa135 (fun _ h => h)) ⟨by decide, by decide⟩⟩ (fun u136 p136 => ?_)
      obtain ⟨r136, h136⟩ := p136
      refine G.go tv_X12_format 1 155 [(0, .ref (gAd E (56))), (1, .int (x1))] [.ref (gAd E (56))] rfl ?_
      refine G.rg r136 hE 44 (.ref (gAd E (79))) (by decide) rfl (tbd tv_X12_format rfl) w_2109 ?_
      refine G.go tv_X12_format 2 160 [(0, .ref (gAd E (56))), (1, .int (x1))] [.int ((1 : Int32)), .int ((1 : Int32)), .ref (gAd E (79))] rfl ?_
      obtain ⟨R137, b137, eR137, hr⟩ := stR_s hr
      refine G.bast (79) (by omega) (r136.a44) b137 (tbd tv_X12_format rfl) ?_
      refine G.gen (P := fun w9 => RfV E w9 (setSr (setS R137 42 az135) sy135) ∧ Fr RfK f0 w9) ⟨by rw [eR137]; exact r136.p44 _, Fr.up h136 ⟨by decide, by decide⟩⟩ (fun u137 p137 => ?_)
      obtain ⟨r137, h137⟩ := p137
      refine G.go tv_X12_format 3 165 [(0, .ref (gAd E (56))), (1, .int (x1))] [.ref (gAd E (56)), .int ((45 : Int32)), .ref (gAd E (56))] rfl ?_
      refine G.rg r137 hE 44 (.ref (gAd E (79))) (by decide) rfl (tbd tv_X12_format rfl) w_2109 ?_
      refine G.go tv_X12_format 1 169 [(0, .ref (gAd E (56))), (1, .int (x1))] [.int ((0 : Int32)), .ref (gAd E (79)), .int ((45 : Int32)), .ref (gAd E (56))] rfl ?_
      obtain ⟨R138, hv138, hr⟩ := bnd_s hr
      refine G.callV (56) [.int ((45 : Int32)), .ref (gAd E (79)), .int ((0 : Int32))] [] (k_X12_hand_79 E _ hE R137 ⟨_, _, r137⟩ ((45 : Int32)) ((0 : Int32)) R138 hv138) cls_X12 (by omega) (r137.o) cw_X12_252 w_2280 w_56 (Nat.le_of_ble_eq_true rfl) rfl (Nat.le_of_ble_eq_true rfl) (tbd tv_X12_format rfl) (fun v138w f138 q138 => ?_) (fun _ _ h => h.elim)
      obtain ⟨rfl, ⟨az138, sy138, r138⟩, fa138⟩ := q138
      refine G.eqs [] rfl ?_
      refine G.go tv_X12_format 2 175 [(0, .ref (gAd E (56))), (1, .int ((46 : Int32)))] [] rfl ?_
      refine G.less [(0, .ref (gAd E (56))), (1, .int ((46 : Int32)))] [0, 1] rfl ?_
      exact l_X12_format_175 E f0 sz QA hE _ _ _ _ _ hr _ ⟨_, _, r138⟩ (h137.tr fa138 (fun _ h => h))
    · replace hr := ite_f c61 hr
      refine G.go tv_X12_format 2 67 [(0, .ref (gAd E (56))), (1, .int (x1))] [.int ((61 : Int32)), .int (x1)] rfl ?_
      refine G.cmp_lt 78 (tbd tv_X12_format rfl) (by decide) (fun c67 => ?_) (fun c67 => ?_)
      · replace hr := ite_t c67 hr
        refine G.less [(0, .ref (gAd E (56))), (1, .int (x1))] [0, 1] rfl ?_
        exact l_X12_format_78 E f0 sz QA hE _ ih _ _ _ _ hr _ ⟨_, _, r0⟩ hf
      · replace hr := ite_f c67 hr
        refine G.go tv_X12_format 2 72 [(0, .ref (gAd E (56))), (1, .int (x1))] [.ref (gAd E (56)), .int (x1)] rfl ?_
        refine G.rg r0 hE 1 (.int (rS R 1)) (by decide) rfl (tbd tv_X12_format rfl) w_2066 ?_
        refine G.cmp_lt 104 (tbd tv_X12_format rfl) (by decide) (fun c75 => ?_) (fun c75 => ?_)
        · replace hr := ite_t c75 hr
          refine G.go tv_X12_format 2 57 [(0, .ref (gAd E (56))), (1, .int (x1 + (1 : Int32)))] [] rfl ?_
          refine G.less [(0, .ref (gAd E (56))), (1, .int (x1 + (1 : Int32)))] [0, 1] rfl ?_
          exact ih _ _ _ _ hr _ ⟨_, _, r0⟩ hf
        · replace hr := ite_f c75 hr
          refine G.less [(0, .ref (gAd E (56))), (1, .int (x1))] [0, 1] rfl ?_
          exact l_X12_format_78 E f0 sz QA hE _ ih _ _ _ _ hr _ ⟨_, _, r0⟩ hf
set_option maxRecDepth 100000 in
set_option maxHeartbeats 4000000 in
theorem l_X12_format_29 (E : gE) (f0 : Nat → va_E) (sz : Nat) (QA : Nat → Prop) (hE : 94 ≤ gN E) : ∀ (R : RfT) (r : Int32) (R9 : RfT) (hr : e_format_29  R = some (r, R9)) (f : Nat → va_E) (w : RW E f R) (hf : Fr RfK f0 f), G E (7, yX12_format, 2, (some .int), sz, QA) cX12_format (gO E (7, yX12_format, 2, (some .int), sz, QA) (fun v g => v = some (.int r) ∧ RW E g R9 ∧ Fr RfK f0 g, fun _ _ => False)) 29 [(0, .ref (gAd E (56)))] [] f := by
  intro R r R9 hr f w hf
  obtain ⟨az, sy, r0⟩ := w
  unfold e_format_29 at hr
  refine G.go tv_X12_format 2 31 [(0, .ref (gAd E (56)))] [.int ((0 : Int32)), .ref (gAd E (56))] rfl ?_
  obtain ⟨R124, hv124, hr⟩ := bnd_s hr
  refine G.callV (56) [.int ((0 : Int32))] [] (k_X12_putZero E _ hE R ⟨_, _, r0⟩ ((0 : Int32)) R124 hv124) cls_X12 (by omega) (r0.o) cw_X12_392 w_2272 w_54 (Nat.le_of_ble_eq_true rfl) rfl (Nat.le_of_ble_eq_true rfl) (tbd tv_X12_format rfl) (fun v124w f124 q124 => ?_) (fun _ _ h => h.elim)
  obtain ⟨rfl, ⟨az124, sy124, r124⟩, fa124⟩ := q124
  refine G.eqs [] rfl ?_
  refine G.go tv_X12_format 1 35 [(0, .ref (gAd E (56)))] [.ref (gAd E (56))] rfl ?_
  obtain ⟨R127, hv127, hr⟩ := bnd_s hr
  refine G.callV (56) [] [] (k_X12_settle E _ hE R124 ⟨_, _, r124⟩ R127 hv127) cls_X12 (by omega) (r124.o) cw_X12_255 w_2315 w_64 (Nat.le_of_ble_eq_true rfl) rfl (Nat.le_of_ble_eq_true rfl) (tbd tv_X12_format rfl) (fun v127w f127 q127 => ?_) (fun _ _ h => h.elim)
  obtain ⟨rfl, ⟨az127, sy127, r127⟩, fa127⟩ := q127
  refine G.eqs [] rfl ?_
  refine G.go tv_X12_format 1 39 [(0, .ref (gAd E (56)))] [.ref (gAd E (56))] rfl ?_
  refine G.rg r127 hE 11 (.int (rS R127 11)) (by decide) rfl (tbd tv_X12_format rfl) w_2076 ?_
  refine G.if_eq 192 (tbd tv_X12_format rfl) (by decide) (fun c42 => ?_) (fun c42 => ?_)
  · replace hr := ite_t c42 hr
    refine G.less [(0, .ref (gAd E (56)))] [0] rfl ?_
    exact l_X12_format_192 E f0 sz QA hE _ _ _ hr _ ⟨_, _, r127⟩ ((hf.tr fa124 (fun _ h => h)).tr fa127 (fun _ h => h))
  · replace hr := ite_f c42 hr
    refine G.go tv_X12_format 3 48 [(0, .ref (gAd E (56)))] [.int ((0 : Int32)), .int ((0 : Int32)), .ref (gAd E (56))] rfl ?_
    obtain ⟨R128, hv128, hr⟩ := bnd_s hr
    refine G.callV (56) [.int ((0 : Int32)), .int ((0 : Int32))] [] (k_X12_putHead E _ hE R127 ⟨_, _, r127⟩ ((0 : Int32)) ((0 : Int32)) R128 hv128) cls_X12 (by omega) (r127.o) cw_X12_258 w_2327 w_67 (Nat.le_of_ble_eq_true rfl) rfl (Nat.le_of_ble_eq_true rfl) (tbd tv_X12_format rfl) (fun v128w f128 q128 => ?_) (fun _ _ h => h.elim)
    obtain ⟨rfl, ⟨az128, sy128, r128⟩, fa128⟩ := q128
    refine G.eqs [] rfl ?_
    refine G.go tv_X12_format 1 52 [(0, .ref (gAd E (56)))] [.ref (gAd E (56))] rfl ?_
    obtain ⟨R129, hv129, hr⟩ := bnd_s hr
    refine G.callV (56) [] [] (k_X12_empty E _ hE R128 ⟨_, _, r128⟩ R129 hv129) cls_X12 (by omega) (r128.o) cw_X12_249 w_2276 w_55 (Nat.le_of_ble_eq_true rfl) rfl (Nat.le_of_ble_eq_true rfl) (tbd tv_X12_format rfl) (fun v129w f129 q129 => ?_) (fun _ _ h => h.elim)
    obtain ⟨rfl, ⟨az129, sy129, r129⟩, fa129⟩ := q129
    refine G.eqs [] rfl ?_
    refine G.go tv_X12_format 2 57 [(0, .ref (gAd E (56))), (1, .int ((0 : Int32)))] [] rfl ?_
    refine G.less [(0, .ref (gAd E (56))), (1, .int ((0 : Int32)))] [0, 1] rfl ?_
    exact l_X12_format_57 E f0 sz QA hE _ _ _ _ _ hr _ ⟨_, _, r129⟩ ((((hf.tr fa124 (fun _ h => h)).tr fa127 (fun _ h => h)).tr fa128 (fun _ h => h)).tr fa129 (fun _ h => h))
set_option maxRecDepth 100000 in
set_option maxHeartbeats 4000000 in
theorem k_X12_format (E : gE) (f : Nat → va_E) (hE : 94 ≤ gN E) (R : RfT) (w : RW E f R) (r : Int32) (R9 : RfT) (hr : e_format R = some (r, R9)) : Ct E 7 yX12_format cX12_format 2 (some .int) [.ref (gAd E (56))] f (fun v g => v = some (.int r) ∧ RW E g R9 ∧ Fr RfK f g, fun _ _ => False) := by
  obtain ⟨az, sy, r0⟩ := w
  refine Ct.of (by decide) (Nat.le_of_ble_eq_true rfl) (fun sz => ?_)
  refine G.eql [(0, .ref (gAd E (56)))] rfl ?_
  unfold e_format at hr
  refine G.go tv_X12_format 2 2 [(0, .ref (gAd E (56)))] [.ref (gAd E (56)), .ref (gAd E (56))] rfl ?_
  refine G.rg r0 hE 21 (.int (rS R 21)) (by decide) rfl (tbd tv_X12_format rfl) w_2086 ?_
  refine G.if_ne 15 (tbd tv_X12_format rfl) (by decide) (fun c5 => ?_) (fun c5 => ?_)
  · replace hr := ite_f c5 hr
    refine G.go tv_X12_format 3 21 [(0, .ref (gAd E (56)))] [.int ((1 : Int32)), .int ((1 : Int32)), .ref (gAd E (56))] rfl ?_
    obtain ⟨v121, R121, hv121, hr⟩ := bnd2_s hr
    refine G.callV (56) [.int ((1 : Int32)), .int ((1 : Int32))] [] (k_X12_refuse E _ hE R ⟨_, _, r0⟩ ((1 : Int32)) ((1 : Int32)) v121 R121 hv121) cls_X12 (by omega) (r0.o) cw_X12_385 w_2268 w_53 (Nat.le_of_ble_eq_true rfl) rfl (Nat.le_of_ble_eq_true rfl) (tbd tv_X12_format rfl) (fun v121w f121 q121 => ?_) (fun _ _ h => h.elim)
    obtain ⟨rfl, ⟨az121, sy121, r121⟩, fa121⟩ := q121
    refine G.eqs [.int (v121)] rfl ?_
    refine G.if_eq 29 (tbd tv_X12_format rfl) (by decide) (fun c24 => ?_) (fun c24 => ?_)
    · replace hr := ite_t c24 hr
      refine G.less [(0, .ref (gAd E (56)))] [0] rfl ?_
      exact l_X12_format_29 E f sz _ hE _ _ _ hr _ ⟨_, _, r121⟩ (Fr.rf.tr fa121 (fun _ h => h))
    · replace hr := ite_f c24 hr
      refine G.go tv_X12_format 1 28 [(0, .ref (gAd E (56)))] [.int ((0 : Int32))] rfl ?_
      cases hr
      exact G.iret rfl rfl ⟨rfl, ⟨_, _, r121⟩, (Fr.rf.tr fa121 (fun _ h => h))⟩ (tbd tv_X12_format rfl)
  · replace hr := ite_t c5 hr
    refine G.go tv_X12_format 1 9 [(0, .ref (gAd E (56)))] [.ref (gAd E (56)), .ref (gAd E (56))] rfl ?_
    refine G.rg r0 hE 11 (.int (rS R 11)) (by decide) rfl (tbd tv_X12_format rfl) w_2076 ?_
    refine G.if_ne 19 (tbd tv_X12_format rfl) (by decide) (fun c12 => ?_) (fun c12 => ?_)
    · replace hr := ite_f c12 hr
      refine G.go tv_X12_format 2 21 [(0, .ref (gAd E (56)))] [.int ((1 : Int32)), .int ((0 : Int32)), .ref (gAd E (56))] rfl ?_
      obtain ⟨v122, R122, hv122, hr⟩ := bnd2_s hr
      refine G.callV (56) [.int ((0 : Int32)), .int ((1 : Int32))] [] (k_X12_refuse E _ hE R ⟨_, _, r0⟩ ((0 : Int32)) ((1 : Int32)) v122 R122 hv122) cls_X12 (by omega) (r0.o) cw_X12_385 w_2268 w_53 (Nat.le_of_ble_eq_true rfl) rfl (Nat.le_of_ble_eq_true rfl) (tbd tv_X12_format rfl) (fun v122w f122 q122 => ?_) (fun _ _ h => h.elim)
      obtain ⟨rfl, ⟨az122, sy122, r122⟩, fa122⟩ := q122
      refine G.eqs [.int (v122)] rfl ?_
      refine G.if_eq 29 (tbd tv_X12_format rfl) (by decide) (fun c24 => ?_) (fun c24 => ?_)
      · replace hr := ite_t c24 hr
        refine G.less [(0, .ref (gAd E (56)))] [0] rfl ?_
        exact l_X12_format_29 E f sz _ hE _ _ _ hr _ ⟨_, _, r122⟩ (Fr.rf.tr fa122 (fun _ h => h))
      · replace hr := ite_f c24 hr
        refine G.go tv_X12_format 1 28 [(0, .ref (gAd E (56)))] [.int ((0 : Int32))] rfl ?_
        cases hr
        exact G.iret rfl rfl ⟨rfl, ⟨_, _, r122⟩, (Fr.rf.tr fa122 (fun _ h => h))⟩ (tbd tv_X12_format rfl)
    · replace hr := ite_t c12 hr
      refine G.go tv_X12_format 3 21 [(0, .ref (gAd E (56)))] [.int ((1 : Int32)), .int ((1 : Int32)), .ref (gAd E (56))] rfl ?_
      obtain ⟨v123, R123, hv123, hr⟩ := bnd2_s hr
      refine G.callV (56) [.int ((1 : Int32)), .int ((1 : Int32))] [] (k_X12_refuse E _ hE R ⟨_, _, r0⟩ ((1 : Int32)) ((1 : Int32)) v123 R123 hv123) cls_X12 (by omega) (r0.o) cw_X12_385 w_2268 w_53 (Nat.le_of_ble_eq_true rfl) rfl (Nat.le_of_ble_eq_true rfl) (tbd tv_X12_format rfl) (fun v123w f123 q123 => ?_) (fun _ _ h => h.elim)
      obtain ⟨rfl, ⟨az123, sy123, r123⟩, fa123⟩ := q123
      refine G.eqs [.int (v123)] rfl ?_
      refine G.if_eq 29 (tbd tv_X12_format rfl) (by decide) (fun c24 => ?_) (fun c24 => ?_)
      · replace hr := ite_t c24 hr
        refine G.less [(0, .ref (gAd E (56)))] [0] rfl ?_
        exact l_X12_format_29 E f sz _ hE _ _ _ hr _ ⟨_, _, r123⟩ (Fr.rf.tr fa123 (fun _ h => h))
      · replace hr := ite_f c24 hr
        refine G.go tv_X12_format 1 28 [(0, .ref (gAd E (56)))] [.int ((0 : Int32))] rfl ?_
        cases hr
        exact G.iret rfl rfl ⟨rfl, ⟨_, _, r123⟩, (Fr.rf.tr fa123 (fun _ h => h))⟩ (tbd tv_X12_format rfl)
def e_nowhere_77_2  : Nat → RfT → Int32 → Option (RfT)
  | 0, _, _ => none
  | n + 1, R, x1 => if ((1024 : Int32)) ≤ x1 then some R else stR R 40 1024 x1 ((-1 : Int32)) (fun R150 => e_nowhere_77_2  n R150 (x1 + (1 : Int32)))
def e_nowhere_77  (R : RfT) : Option (RfT) := e_nowhere_77_2  fuL R ((0 : Int32))
set_option maxRecDepth 100000 in
set_option maxHeartbeats 4000000 in
theorem l_X12_nowhere_77_2 (E : gE) (f0 : Nat → va_E) (sz : Nat) (QA : Nat → Prop) (hE : 94 ≤ gN E) : ∀ (n : Nat), ∀ (R : RfT) (x1 : Int32) (R9 : RfT) (hr : e_nowhere_77_2  n R x1 = some R9) (f : Nat → va_E) (w : RW E f R) (hf : Fr RfK f0 f), G E (1, yX12_nowhere, 2, none, sz, QA) cX12_nowhere (gO E (1, yX12_nowhere, 2, none, sz, QA) (fun v g => v = none ∧ RW E g R9 ∧ Fr RfK f0 g, fun _ _ => False)) 2 [(0, .ref (gAd E (77))), (1, .int (x1))] [] f := by
  intro n
  induction n with
  | zero =>
    intro R x1 R9 hr f w hf
    cases hr
  | succ n ih =>
    intro R x1 R9 hr f w hf
    obtain ⟨az, sy, r0⟩ := w
    unfold e_nowhere_77_2 at hr
    refine G.go tv_X12_nowhere 2 6 [(0, .ref (gAd E (77))), (1, .int (x1))] [.int ((1024 : Int32)), .int (x1)] rfl ?_
    refine G.cmp_ge 19 (tbd tv_X12_nowhere rfl) (by decide) (fun c6 => ?_) (fun c6 => ?_)
    · replace hr := ite_t c6 hr
      cases hr
      exact G.vret rfl ⟨rfl, ⟨_, _, r0⟩, hf⟩ (tbd tv_X12_nowhere rfl)
    · replace hr := ite_f c6 hr
      refine G.go tv_X12_nowhere 3 12 [(0, .ref (gAd E (77))), (1, .int (x1))] [.int ((-1 : Int32)), .int (x1), .ref (gAd E (77))] rfl ?_
      obtain ⟨R150, b150, eR150, hr⟩ := stR_s hr
      refine G.iast (77) (by omega) (r0.a40) b150 (tbd tv_X12_nowhere rfl) ?_
      refine G.gen (P := fun w9 => RfV E w9 (setSr (setS R150 42 az) sy) ∧ Fr RfK f0 w9) ⟨by rw [eR150]; exact r0.p40 _, Fr.up hf ⟨by decide, by decide⟩⟩ (fun u150 p150 => ?_)
      obtain ⟨r150, h150⟩ := p150
      refine G.go tv_X12_nowhere 2 2 [(0, .ref (gAd E (77))), (1, .int (x1 + (1 : Int32)))] [] rfl ?_
      refine G.less [(0, .ref (gAd E (77))), (1, .int (x1 + (1 : Int32)))] [0, 1] rfl ?_
      exact ih _ _ _ hr _ ⟨_, _, r150⟩ h150
set_option maxRecDepth 100000 in
set_option maxHeartbeats 4000000 in
theorem k_X12_nowhere_77 (E : gE) (f : Nat → va_E) (hE : 94 ≤ gN E) (R : RfT) (w : RW E f R) (R9 : RfT) (hr : e_nowhere_77 R = some R9) : Ct E 1 yX12_nowhere cX12_nowhere 2 none [.ref (gAd E (77))] f (fun v g => v = none ∧ RW E g R9 ∧ Fr RfK f g, fun _ _ => False) := by
  obtain ⟨az, sy, r0⟩ := w
  refine Ct.of (by decide) (Nat.le_of_ble_eq_true rfl) (fun sz => ?_)
  refine G.eql [(0, .ref (gAd E (77)))] rfl ?_
  unfold e_nowhere_77 at hr
  refine G.go tv_X12_nowhere 2 2 [(0, .ref (gAd E (77))), (1, .int ((0 : Int32)))] [] rfl ?_
  refine G.less [(0, .ref (gAd E (77))), (1, .int ((0 : Int32)))] [0, 1] rfl ?_
  exact l_X12_nowhere_77_2 E f sz _ hE _ _ _ _ hr _ ⟨_, _, r0⟩ Fr.rf
theorem w_2783 : Cond.constantLong "LedgerFilesModel" 508 (6364136223846793005 : Int64) ∈ TB := tp_11 237 (by decide +kernel) rfl
theorem w_2784 : Cond.constantLong "LedgerFilesModel" 510 (1442695040888963407 : Int64) ∈ TB := tp_11 238 (by decide +kernel) rfl
def e_move_60_58_3  : Nat → RfT → Int32 → Int32 → Int32 → Option (RfT)
  | 0, _, _, _, _ => none
  | n + 1, R, x1, x3, x4 => if ((128 : Int32)) ≤ x4 then some R else ld (rA R 8) 32768 ((x1) + (x4)) (fun v160 => stR R 6 131072 ((x3) + (x4)) (vp_nar .byte v160) (fun R161 => e_move_60_58_3  n R161 x1 x3 (x4 + (1 : Int32))))
def e_move_60_58  (R : RfT) (a1 : Int32) (a3 : Int32) : Option (RfT) := e_move_60_58_3  fuL R a1 a3 ((0 : Int32))
set_option maxRecDepth 100000 in
set_option maxHeartbeats 4000000 in
theorem l_X12_move_60_58_3 (E : gE) (f0 : Nat → va_E) (sz : Nat) (QA : Nat → Prop) (hE : 94 ≤ gN E) : ∀ (n : Nat), ∀ (R : RfT) (x1 : Int32) (x3 : Int32) (x4 : Int32) (R9 : RfT) (hr : e_move_60_58_3  n R x1 x3 x4 = some R9) (f : Nat → va_E) (w : RW E f R) (hf : Fr RfK f0 f), G E (1, yX12_move, 5, none, sz, QA) cX12_move (gO E (1, yX12_move, 5, none, sz, QA) (fun v g => v = none ∧ RW E g R9 ∧ Fr RfK f0 g, fun _ _ => False)) 3 [(0, .ref (gAd E (60))), (1, .int (x1)), (2, .ref (gAd E (58))), (3, .int (x3)), (4, .int (x4))] [] f := by
  intro n
  induction n with
  | zero =>
    intro R x1 x3 x4 R9 hr f w hf
    cases hr
  | succ n ih =>
    intro R x1 x3 x4 R9 hr f w hf
    obtain ⟨az, sy, r0⟩ := w
    unfold e_move_60_58_3 at hr
    refine G.go tv_X12_move 2 8 [(0, .ref (gAd E (60))), (1, .int (x1)), (2, .ref (gAd E (58))), (3, .int (x3)), (4, .int (x4))] [.int ((128 : Int32)), .int (x4)] rfl ?_
    refine G.cmp_ge 29 (tbd tv_X12_move rfl) (by decide) (fun c8 => ?_) (fun c8 => ?_)
    · replace hr := ite_t c8 hr
      cases hr
      exact G.vret rfl ⟨rfl, ⟨_, _, r0⟩, hf⟩ (tbd tv_X12_move rfl)
    · replace hr := ite_f c8 hr
      refine G.go tv_X12_move 8 21 [(0, .ref (gAd E (60))), (1, .int (x1)), (2, .ref (gAd E (58))), (3, .int (x3)), (4, .int (x4))] [.int ((x1) + (x4)), .ref (gAd E (60)), .int ((x3) + (x4)), .ref (gAd E (58))] rfl ?_
      obtain ⟨v160, b160, e160, hr⟩ := ld_s hr
      refine G.baldE (60) (by omega) (r0.a8) b160 e160 (tbd tv_X12_move rfl) ?_
      obtain ⟨R161, b161, eR161, hr⟩ := stR_s hr
      refine G.bast (58) (by omega) (r0.a6) b161 (tbd tv_X12_move rfl) ?_
      refine G.gen (P := fun w9 => RfV E w9 (setSr (setS R161 42 az) sy) ∧ Fr RfK f0 w9) ⟨by rw [eR161]; exact r0.p6 _, Fr.up hf ⟨by decide, by decide⟩⟩ (fun u161 p161 => ?_)
      obtain ⟨r161, h161⟩ := p161
      refine G.go tv_X12_move 2 3 [(0, .ref (gAd E (60))), (1, .int (x1)), (2, .ref (gAd E (58))), (3, .int (x3)), (4, .int (x4 + (1 : Int32)))] [] rfl ?_
      refine G.less [(0, .ref (gAd E (60))), (1, .int (x1)), (2, .ref (gAd E (58))), (3, .int (x3)), (4, .int (x4 + (1 : Int32)))] [0, 1, 2, 3, 4] rfl ?_
      exact ih _ _ _ _ _ hr _ ⟨_, _, r161⟩ h161
set_option maxRecDepth 100000 in
set_option maxHeartbeats 4000000 in
theorem k_X12_move_60_58 (E : gE) (f : Nat → va_E) (hE : 94 ≤ gN E) (R : RfT) (w : RW E f R) (a1 : Int32) (a3 : Int32) (R9 : RfT) (hr : e_move_60_58 R a1 a3 = some R9) : Ct E 1 yX12_move cX12_move 5 none [.ref (gAd E (60)), .int (a1), .ref (gAd E (58)), .int (a3)] f (fun v g => v = none ∧ RW E g R9 ∧ Fr RfK f g, fun _ _ => False) := by
  obtain ⟨az, sy, r0⟩ := w
  refine Ct.of (by decide) (Nat.le_of_ble_eq_true rfl) (fun sz => ?_)
  refine G.eql [(0, .ref (gAd E (60))), (1, .int (a1)), (2, .ref (gAd E (58))), (3, .int (a3))] rfl ?_
  unfold e_move_60_58 at hr
  refine G.go tv_X12_move 2 3 [(0, .ref (gAd E (60))), (1, .int (a1)), (2, .ref (gAd E (58))), (3, .int (a3)), (4, .int ((0 : Int32)))] [] rfl ?_
  refine G.less [(0, .ref (gAd E (60))), (1, .int (a1)), (2, .ref (gAd E (58))), (3, .int (a3)), (4, .int ((0 : Int32)))] [0, 1, 2, 3, 4] rfl ?_
  exact l_X12_move_60_58_3 E f sz _ hE _ _ _ _ _ _ hr _ ⟨_, _, r0⟩ Fr.rf
def e_restart_76  (self22 : RfT → Int64 → Int32 → Int32 → Option (Int32 × RfT)) : Nat → RfT → Int64 → Int32 → Int32 → Int32 → Int32 → Int32 → Option (Int32 × RfT)
  | 0, _, _, _, _, _, _, _ => none
  | n + 1, R, x3, x5, x6, x8, x9, x10 => if (rS R 10) ≤ x10 then self22 R x3 x5 (x6 + (1 : Int32)) else nm (((rS R 9) + (x10)) - ((rS R 9) + (x10)) / ((256 : Int32)) * ((256 : Int32))) (fun v156 => ld (rA R 7) 256 v156 (fun v157 => if v157 = x6 then ld (rA R 7) 256 v156 (fun v162 => if v162 = x6 then if ((x9) + ((1 : Int32))) = x8 then bnd (e_move_60_58 R (((128 : Int32)) * (v156)) (((128 : Int32)) * (x6))) (fun R163 => e_restart_76  self22 n R163 x3 x5 x6 x8 ((x9) + ((1 : Int32))) (x10 + (1 : Int32))) else e_restart_76  self22 n R x3 x5 x6 x8 ((x9) + ((1 : Int32))) (x10 + (1 : Int32)) else e_restart_76  self22 n R x3 x5 x6 x8 ((x9) + ((1 : Int32))) (x10 + (1 : Int32))) else ld (rA R 7) 256 v156 (fun v158 => if v158 = x6 then if x9 = x8 then bnd (e_move_60_58 R (((128 : Int32)) * (v156)) (((128 : Int32)) * (x6))) (fun R159 => e_restart_76  self22 n R159 x3 x5 x6 x8 x9 (x10 + (1 : Int32))) else e_restart_76  self22 n R x3 x5 x6 x8 x9 (x10 + (1 : Int32)) else e_restart_76  self22 n R x3 x5 x6 x8 x9 (x10 + (1 : Int32)))))
def e_restart_22  : Nat → RfT → Int64 → Int32 → Int32 → Option (Int32 × RfT)
  | 0, _, _, _, _ => none
  | n + 1, R, x3, x5, x6 => if (rS R 1) ≤ x6 then ptR R 10 ((0 : Int32)) (fun R148 => bnd (e_nowhere_77 R148) (fun R149 => ptR R149 11 ((1 : Int32)) (fun R151 => ptR R151 12 ((-1 : Int32)) (fun R152 => some (x5, R152))))) else bnd (e_waitsOf R x6) (fun v153 => if v153 ≤ 0 then e_restart_22  n R x3 x5 (x6 + (1 : Int32)) else nz64 ((((1 : Int32)) + (v153) : Int32).toInt64) (nm (((((((x3) * ((6364136223846793005 : Int64))) + ((1442695040888963407 : Int64)) : Int64).toUInt64 >>> (((33 : Int32) : Int32).toInt64.toUInt64 &&& Int64.toUInt64 63)).toInt64) - (((((x3) * ((6364136223846793005 : Int64))) + ((1442695040888963407 : Int64)) : Int64).toUInt64 >>> (((33 : Int32) : Int32).toInt64.toUInt64 &&& Int64.toUInt64 63)).toInt64) / ((((1 : Int32)) + (v153) : Int32).toInt64) * ((((1 : Int32)) + (v153) : Int32).toInt64) : Int64).toInt32) (fun v155 => e_restart_76  (e_restart_22  n) fuL R (((x3) * ((6364136223846793005 : Int64))) + ((1442695040888963407 : Int64))) (x5 + (1 : Int32)) x6 v155 ((0 : Int32)) ((0 : Int32)))))
def e_restart  (R : RfT) (a0 : Int64) : Option (Int32 × RfT) := bnd2 (e_refuse R (rS R 11) ((1 : Int32))) (fun v147 R147 => if v147 = 0 then e_restart_22  fuL R147 a0 ((0 : Int32)) ((0 : Int32)) else some ((0 : Int32), R147))
set_option maxRecDepth 100000 in
set_option maxHeartbeats 4000000 in
theorem l_X12_restart_76 (E : gE) (f0 : Nat → va_E) (sz : Nat) (QA : Nat → Prop) (hE : 94 ≤ gN E) (self22 : RfT → Int64 → Int32 → Int32 → Option (Int32 × RfT)) (hs22 : ∀ (R : RfT) (x3 : Int64) (x5 : Int32) (x6 : Int32) (r : Int32) (R9 : RfT) (hr : self22 R x3 x5 x6 = some (r, R9)) (f : Nat → va_E) (w : RW E f R) (hf : Fr RfK f0 f), G E (2, yX12_restart, 12, (some .int), sz, QA) cX12_restart (gO E (2, yX12_restart, 12, (some .int), sz, QA) (fun v g => v = some (.int r) ∧ RW E g R9 ∧ Fr RfK f0 g, fun _ _ => False)) 22 [(0, .ref (gAd E (56))), (3, .long (x3)), (5, .int (x5)), (6, .int (x6))] [] f) : ∀ (n : Nat), ∀ (R : RfT) (x3 : Int64) (x5 : Int32) (x6 : Int32) (x8 : Int32) (x9 : Int32) (x10 : Int32) (r : Int32) (R9 : RfT) (hr : e_restart_76  self22 n R x3 x5 x6 x8 x9 x10 = some (r, R9)) (f : Nat → va_E) (w : RW E f R) (hf : Fr RfK f0 f), G E (2, yX12_restart, 12, (some .int), sz, QA) cX12_restart (gO E (2, yX12_restart, 12, (some .int), sz, QA) (fun v g => v = some (.int r) ∧ RW E g R9 ∧ Fr RfK f0 g, fun _ _ => False)) 76 [(0, .ref (gAd E (56))), (3, .long (x3)), (5, .int (x5)), (6, .int (x6)), (8, .int (x8)), (9, .int (x9)), (10, .int (x10))] [] f := by
  intro n
  induction n with
  | zero =>
    intro R x3 x5 x6 x8 x9 x10 r R9 hr f w hf
    cases hr
  | succ n ih =>
    intro R x3 x5 x6 x8 x9 x10 r R9 hr f w hf
    obtain ⟨az, sy, r0⟩ := w
    unfold e_restart_76 at hr
    refine G.go tv_X12_restart 2 79 [(0, .ref (gAd E (56))), (3, .long (x3)), (5, .int (x5)), (6, .int (x6)), (8, .int (x8)), (9, .int (x9)), (10, .int (x10))] [.ref (gAd E (56)), .int (x10)] rfl ?_
    refine G.rg r0 hE 10 (.int (rS R 10)) (by decide) rfl (tbd tv_X12_restart rfl) w_2075 ?_
    refine G.cmp_ge 169 (tbd tv_X12_restart rfl) (by decide) (fun c82 => ?_) (fun c82 => ?_)
    · replace hr := ite_t c82 hr
      refine G.go tv_X12_restart 2 22 [(0, .ref (gAd E (56))), (3, .long (x3)), (5, .int (x5)), (6, .int (x6 + (1 : Int32))), (8, .int (x8)), (9, .int (x9)), (10, .int (x10))] [] rfl ?_
      refine G.less [(0, .ref (gAd E (56))), (3, .long (x3)), (5, .int (x5)), (6, .int (x6 + (1 : Int32)))] [0, 1, 2, 3] rfl ?_
      exact hs22 _ _ _ _ _ _ hr _ ⟨_, _, r0⟩ hf
    · replace hr := ite_f c82 hr
      refine G.go tv_X12_restart 1 86 [(0, .ref (gAd E (56))), (3, .long (x3)), (5, .int (x5)), (6, .int (x6)), (8, .int (x8)), (9, .int (x9)), (10, .int (x10))] [.ref (gAd E (56))] rfl ?_
      refine G.rg r0 hE 9 (.int (rS R 9)) (by decide) rfl (tbd tv_X12_restart rfl) w_2074 ?_
      refine G.go tv_X12_restart 3 95 [(0, .ref (gAd E (56))), (3, .long (x3)), (5, .int (x5)), (6, .int (x6)), (8, .int (x8)), (9, .int (x9)), (10, .int (x10))] [.int ((256 : Int32)), .int ((rS R 9) + (x10))] rfl ?_
      refine G.irem (by decide) (tbd tv_X12_restart rfl) ?_
      refine G.go tv_X12_restart 1 98 [(0, .ref (gAd E (56))), (3, .long (x3)), (5, .int (x5)), (6, .int (x6)), (8, .int (x8)), (9, .int (x9)), (10, .int (x10)), (11, .int (((rS R 9) + (x10)) - ((rS R 9) + (x10)) / ((256 : Int32)) * ((256 : Int32))))] [] rfl ?_
      obtain ⟨v156, e156, hr⟩ := nm_s hr
      refine G.eql [(0, .ref (gAd E (56))), (3, .long (x3)), (5, .int (x5)), (6, .int (x6)), (8, .int (x8)), (9, .int (x9)), (10, .int (x10)), (11, .int (v156))] (by rw [e156]) ?_
      refine G.go tv_X12_restart 1 99 [(0, .ref (gAd E (56))), (3, .long (x3)), (5, .int (x5)), (6, .int (x6)), (8, .int (x8)), (9, .int (x9)), (10, .int (x10)), (11, .int (v156))] [.ref (gAd E (56))] rfl ?_
      refine G.rg r0 hE 7 (.ref (gAd E (59))) (by decide) rfl (tbd tv_X12_restart rfl) w_2072 ?_
      refine G.go tv_X12_restart 1 104 [(0, .ref (gAd E (56))), (3, .long (x3)), (5, .int (x5)), (6, .int (x6)), (8, .int (x8)), (9, .int (x9)), (10, .int (x10)), (11, .int (v156))] [.int (v156), .ref (gAd E (59))] rfl ?_
      obtain ⟨v157, b157, e157, hr⟩ := ld_s hr
      refine G.ialdE (59) (by omega) (r0.a7) b157 e157 (tbd tv_X12_restart rfl) ?_
      refine G.go tv_X12_restart 1 107 [(0, .ref (gAd E (56))), (3, .long (x3)), (5, .int (x5)), (6, .int (x6)), (8, .int (x8)), (9, .int (x9)), (10, .int (x10)), (11, .int (v156))] [.int (x6), .int (v157)] rfl ?_
      refine G.cmp_ne 117 (tbd tv_X12_restart rfl) (by decide) (fun c107 => ?_) (fun c107 => ?_)
      · replace hr := ite_f c107 hr
        refine G.go tv_X12_restart 3 122 [(0, .ref (gAd E (56))), (3, .long (x3)), (5, .int (x5)), (6, .int (x6)), (8, .int (x8)), (9, .int (x9)), (10, .int (x10)), (11, .int (v156))] [.ref (gAd E (56))] rfl ?_
        refine G.rg r0 hE 7 (.ref (gAd E (59))) (by decide) rfl (tbd tv_X12_restart rfl) w_2072 ?_
        refine G.go tv_X12_restart 1 127 [(0, .ref (gAd E (56))), (3, .long (x3)), (5, .int (x5)), (6, .int (x6)), (8, .int (x8)), (9, .int (x9)), (10, .int (x10)), (11, .int (v156))] [.int (v156), .ref (gAd E (59))] rfl ?_
        obtain ⟨v158, b158, e158, hr⟩ := ld_s hr
        refine G.ialdE (59) (by omega) (r0.a7) b158 e158 (tbd tv_X12_restart rfl) ?_
        refine G.go tv_X12_restart 1 130 [(0, .ref (gAd E (56))), (3, .long (x3)), (5, .int (x5)), (6, .int (x6)), (8, .int (x8)), (9, .int (x9)), (10, .int (x10)), (11, .int (v156))] [.int (x6), .int (v158)] rfl ?_
        refine G.cmp_ne 163 (tbd tv_X12_restart rfl) (by decide) (fun c130 => ?_) (fun c130 => ?_)
        · replace hr := ite_f c130 hr
          refine G.go tv_X12_restart 2 76 [(0, .ref (gAd E (56))), (3, .long (x3)), (5, .int (x5)), (6, .int (x6)), (8, .int (x8)), (9, .int (x9)), (10, .int (x10 + (1 : Int32))), (11, .int (v156))] [] rfl ?_
          refine G.less [(0, .ref (gAd E (56))), (3, .long (x3)), (5, .int (x5)), (6, .int (x6)), (8, .int (x8)), (9, .int (x9)), (10, .int (x10 + (1 : Int32)))] [0, 1, 2, 3, 4, 5, 6] rfl ?_
          exact ih _ _ _ _ _ _ _ _ _ hr _ ⟨_, _, r0⟩ hf
        · replace hr := ite_t c130 hr
          refine G.go tv_X12_restart 2 137 [(0, .ref (gAd E (56))), (3, .long (x3)), (5, .int (x5)), (6, .int (x6)), (8, .int (x8)), (9, .int (x9)), (10, .int (x10)), (11, .int (v156))] [.int (x8), .int (x9)] rfl ?_
          refine G.cmp_ne 163 (tbd tv_X12_restart rfl) (by decide) (fun c137 => ?_) (fun c137 => ?_)
          · replace hr := ite_f c137 hr
            refine G.go tv_X12_restart 2 76 [(0, .ref (gAd E (56))), (3, .long (x3)), (5, .int (x5)), (6, .int (x6)), (8, .int (x8)), (9, .int (x9)), (10, .int (x10 + (1 : Int32))), (11, .int (v156))] [] rfl ?_
            refine G.less [(0, .ref (gAd E (56))), (3, .long (x3)), (5, .int (x5)), (6, .int (x6)), (8, .int (x8)), (9, .int (x9)), (10, .int (x10 + (1 : Int32)))] [0, 1, 2, 3, 4, 5, 6] rfl ?_
            exact ih _ _ _ _ _ _ _ _ _ hr _ ⟨_, _, r0⟩ hf
          · replace hr := ite_t c137 hr
            refine G.go tv_X12_restart 1 141 [(0, .ref (gAd E (56))), (3, .long (x3)), (5, .int (x5)), (6, .int (x6)), (8, .int (x8)), (9, .int (x9)), (10, .int (x10)), (11, .int (v156))] [.ref (gAd E (56))] rfl ?_
            refine G.rg r0 hE 8 (.ref (gAd E (60))) (by decide) rfl (tbd tv_X12_restart rfl) w_2073 ?_
            refine G.go tv_X12_restart 4 151 [(0, .ref (gAd E (56))), (3, .long (x3)), (5, .int (x5)), (6, .int (x6)), (8, .int (x8)), (9, .int (x9)), (10, .int (x10)), (11, .int (v156))] [.ref (gAd E (56)), .int (((128 : Int32)) * (v156)), .ref (gAd E (60))] rfl ?_
            refine G.rg r0 hE 6 (.ref (gAd E (58))) (by decide) rfl (tbd tv_X12_restart rfl) w_2071 ?_
            refine G.go tv_X12_restart 3 160 [(0, .ref (gAd E (56))), (3, .long (x3)), (5, .int (x5)), (6, .int (x6)), (8, .int (x8)), (9, .int (x9)), (10, .int (x10)), (11, .int (v156))] [.int (((128 : Int32)) * (x6)), .ref (gAd E (58)), .int (((128 : Int32)) * (v156)), .ref (gAd E (60))] rfl ?_
            obtain ⟨R159, hv159, hr⟩ := bnd_s hr
            refine G.callS [.ref (gAd E (60)), .int (((128 : Int32)) * (v156)), .ref (gAd E (58)), .int (((128 : Int32)) * (x6))] [] (k_X12_move_60_58 E _ hE R ⟨_, _, r0⟩ (((128 : Int32)) * (v156)) (((128 : Int32)) * (x6)) R159 hv159) cw_X12_190 w_2307 (Nat.le_of_ble_eq_true rfl) rfl (Nat.le_of_ble_eq_true rfl) (tbd tv_X12_restart rfl) (fun v159w f159 q159 => ?_) (fun _ _ h => h.elim)
            obtain ⟨rfl, ⟨az159, sy159, r159⟩, fa159⟩ := q159
            refine G.eqs [] rfl ?_
            refine G.go tv_X12_restart 2 76 [(0, .ref (gAd E (56))), (3, .long (x3)), (5, .int (x5)), (6, .int (x6)), (8, .int (x8)), (9, .int (x9)), (10, .int (x10 + (1 : Int32))), (11, .int (v156))] [] rfl ?_
            refine G.less [(0, .ref (gAd E (56))), (3, .long (x3)), (5, .int (x5)), (6, .int (x6)), (8, .int (x8)), (9, .int (x9)), (10, .int (x10 + (1 : Int32)))] [0, 1, 2, 3, 4, 5, 6] rfl ?_
            exact ih _ _ _ _ _ _ _ _ _ hr _ ⟨_, _, r159⟩ (hf.tr fa159 (fun _ h => h))
      · replace hr := ite_t c107 hr
        refine G.go tv_X12_restart 6 122 [(0, .ref (gAd E (56))), (3, .long (x3)), (5, .int (x5)), (6, .int (x6)), (8, .int (x8)), (9, .int ((x9) + ((1 : Int32)))), (10, .int (x10)), (11, .int (v156))] [.ref (gAd E (56))] rfl ?_
        refine G.rg r0 hE 7 (.ref (gAd E (59))) (by decide) rfl (tbd tv_X12_restart rfl) w_2072 ?_
        refine G.go tv_X12_restart 1 127 [(0, .ref (gAd E (56))), (3, .long (x3)), (5, .int (x5)), (6, .int (x6)), (8, .int (x8)), (9, .int ((x9) + ((1 : Int32)))), (10, .int (x10)), (11, .int (v156))] [.int (v156), .ref (gAd E (59))] rfl ?_
        obtain ⟨v162, b162, e162, hr⟩ := ld_s hr
        refine G.ialdE (59) (by omega) (r0.a7) b162 e162 (tbd tv_X12_restart rfl) ?_
        refine G.go tv_X12_restart 1 130 [(0, .ref (gAd E (56))), (3, .long (x3)), (5, .int (x5)), (6, .int (x6)), (8, .int (x8)), (9, .int ((x9) + ((1 : Int32)))), (10, .int (x10)), (11, .int (v156))] [.int (x6), .int (v162)] rfl ?_
        refine G.cmp_ne 163 (tbd tv_X12_restart rfl) (by decide) (fun c130 => ?_) (fun c130 => ?_)
        · replace hr := ite_f c130 hr
          refine G.go tv_X12_restart 2 76 [(0, .ref (gAd E (56))), (3, .long (x3)), (5, .int (x5)), (6, .int (x6)), (8, .int (x8)), (9, .int ((x9) + ((1 : Int32)))), (10, .int (x10 + (1 : Int32))), (11, .int (v156))] [] rfl ?_
          refine G.less [(0, .ref (gAd E (56))), (3, .long (x3)), (5, .int (x5)), (6, .int (x6)), (8, .int (x8)), (9, .int ((x9) + ((1 : Int32)))), (10, .int (x10 + (1 : Int32)))] [0, 1, 2, 3, 4, 5, 6] rfl ?_
          exact ih _ _ _ _ _ _ _ _ _ hr _ ⟨_, _, r0⟩ hf
        · replace hr := ite_t c130 hr
          refine G.go tv_X12_restart 2 137 [(0, .ref (gAd E (56))), (3, .long (x3)), (5, .int (x5)), (6, .int (x6)), (8, .int (x8)), (9, .int ((x9) + ((1 : Int32)))), (10, .int (x10)), (11, .int (v156))] [.int (x8), .int ((x9) + ((1 : Int32)))] rfl ?_
          refine G.cmp_ne 163 (tbd tv_X12_restart rfl) (by decide) (fun c137 => ?_) (fun c137 => ?_)
          · replace hr := ite_f c137 hr
            refine G.go tv_X12_restart 2 76 [(0, .ref (gAd E (56))), (3, .long (x3)), (5, .int (x5)), (6, .int (x6)), (8, .int (x8)), (9, .int ((x9) + ((1 : Int32)))), (10, .int (x10 + (1 : Int32))), (11, .int (v156))] [] rfl ?_
            refine G.less [(0, .ref (gAd E (56))), (3, .long (x3)), (5, .int (x5)), (6, .int (x6)), (8, .int (x8)), (9, .int ((x9) + ((1 : Int32)))), (10, .int (x10 + (1 : Int32)))] [0, 1, 2, 3, 4, 5, 6] rfl ?_
            exact ih _ _ _ _ _ _ _ _ _ hr _ ⟨_, _, r0⟩ hf
          · replace hr := ite_t c137 hr
            refine G.go tv_X12_restart 1 141 [(0, .ref (gAd E (56))), (3, .long (x3)), (5, .int (x5)), (6, .int (x6)), (8, .int (x8)), (9, .int ((x9) + ((1 : Int32)))), (10, .int (x10)), (11, .int (v156))] [.ref (gAd E (56))] rfl ?_
            refine G.rg r0 hE 8 (.ref (gAd E (60))) (by decide) rfl (tbd tv_X12_restart rfl) w_2073 ?_
            refine G.go tv_X12_restart 4 151 [(0, .ref (gAd E (56))), (3, .long (x3)), (5, .int (x5)), (6, .int (x6)), (8, .int (x8)), (9, .int ((x9) + ((1 : Int32)))), (10, .int (x10)), (11, .int (v156))] [.ref (gAd E (56)), .int (((128 : Int32)) * (v156)), .ref (gAd E (60))] rfl ?_
            refine G.rg r0 hE 6 (.ref (gAd E (58))) (by decide) rfl (tbd tv_X12_restart rfl) w_2071 ?_
            refine G.go tv_X12_restart 3 160 [(0, .ref (gAd E (56))), (3, .long (x3)), (5, .int (x5)), (6, .int (x6)), (8, .int (x8)), (9, .int ((x9) + ((1 : Int32)))), (10, .int (x10)), (11, .int (v156))] [.int (((128 : Int32)) * (x6)), .ref (gAd E (58)), .int (((128 : Int32)) * (v156)), .ref (gAd E (60))] rfl ?_
            obtain ⟨R163, hv163, hr⟩ := bnd_s hr
            refine G.callS [.ref (gAd E (60)), .int (((128 : Int32)) * (v156)), .ref (gAd E (58)), .int (((128 : Int32)) * (x6))] [] (k_X12_move_60_58 E _ hE R ⟨_, _, r0⟩ (((128 : Int32)) * (v156)) (((128 : Int32)) * (x6)) R163 hv163) cw_X12_190 w_2307 (Nat.le_of_ble_eq_true rfl) rfl (Nat.le_of_ble_eq_true rfl) (tbd tv_X12_restart rfl) (fun v163w f163 q163 => ?_) (fun _ _ h => h.elim)
            obtain ⟨rfl, ⟨az163, sy163, r163⟩, fa163⟩ := q163
            refine G.eqs [] rfl ?_
            refine G.go tv_X12_restart 2 76 [(0, .ref (gAd E (56))), (3, .long (x3)), (5, .int (x5)), (6, .int (x6)), (8, .int (x8)), (9, .int ((x9) + ((1 : Int32)))), (10, .int (x10 + (1 : Int32))), (11, .int (v156))] [] rfl ?_
            refine G.less [(0, .ref (gAd E (56))), (3, .long (x3)), (5, .int (x5)), (6, .int (x6)), (8, .int (x8)), (9, .int ((x9) + ((1 : Int32)))), (10, .int (x10 + (1 : Int32)))] [0, 1, 2, 3, 4, 5, 6] rfl ?_
            exact ih _ _ _ _ _ _ _ _ _ hr _ ⟨_, _, r163⟩ (hf.tr fa163 (fun _ h => h))
set_option maxRecDepth 100000 in
set_option maxHeartbeats 4000000 in
theorem l_X12_restart_22 (E : gE) (f0 : Nat → va_E) (sz : Nat) (QA : Nat → Prop) (hE : 94 ≤ gN E) : ∀ (n : Nat), ∀ (R : RfT) (x3 : Int64) (x5 : Int32) (x6 : Int32) (r : Int32) (R9 : RfT) (hr : e_restart_22  n R x3 x5 x6 = some (r, R9)) (f : Nat → va_E) (w : RW E f R) (hf : Fr RfK f0 f), G E (2, yX12_restart, 12, (some .int), sz, QA) cX12_restart (gO E (2, yX12_restart, 12, (some .int), sz, QA) (fun v g => v = some (.int r) ∧ RW E g R9 ∧ Fr RfK f0 g, fun _ _ => False)) 22 [(0, .ref (gAd E (56))), (3, .long (x3)), (5, .int (x5)), (6, .int (x6))] [] f := by
  intro n
  induction n with
  | zero =>
    intro R x3 x5 x6 r R9 hr f w hf
    cases hr
  | succ n ih =>
    intro R x3 x5 x6 r R9 hr f w hf
    obtain ⟨az, sy, r0⟩ := w
    unfold e_restart_22 at hr
    refine G.go tv_X12_restart 2 25 [(0, .ref (gAd E (56))), (3, .long (x3)), (5, .int (x5)), (6, .int (x6))] [.ref (gAd E (56)), .int (x6)] rfl ?_
    refine G.rg r0 hE 1 (.int (rS R 1)) (by decide) rfl (tbd tv_X12_restart rfl) w_2066 ?_
    refine G.cmp_ge 175 (tbd tv_X12_restart rfl) (by decide) (fun c28 => ?_) (fun c28 => ?_)
    · replace hr := ite_t c28 hr
      refine G.go tv_X12_restart 2 177 [(0, .ref (gAd E (56))), (3, .long (x3)), (5, .int (x5)), (6, .int (x6))] [.int ((0 : Int32)), .ref (gAd E (56))] rfl ?_
      obtain ⟨R148, eR148, hr⟩ := ptR_s hr
      refine G.rpW r0 hE 10 eR148 (by decide) rfl (by decide) rfl rfl rfl (tbd tv_X12_restart rfl) w_2075 (fun u148 r148 h148 => ?_)
      refine G.go tv_X12_restart 1 181 [(0, .ref (gAd E (56))), (3, .long (x3)), (5, .int (x5)), (6, .int (x6))] [.ref (gAd E (56))] rfl ?_
      refine G.rg r148 hE 40 (.ref (gAd E (77))) (by decide) rfl (tbd tv_X12_restart rfl) w_2105 ?_
      obtain ⟨R149, hv149, hr⟩ := bnd_s hr
      refine G.callS [.ref (gAd E (77))] [] (k_X12_nowhere_77 E _ hE R148 ⟨_, _, r148⟩ R149 hv149) cw_X12_140 w_2063 (Nat.le_of_ble_eq_true rfl) rfl (Nat.le_of_ble_eq_true rfl) (tbd tv_X12_restart rfl) (fun v149w f149 q149 => ?_) (fun _ _ h => h.elim)
      obtain ⟨rfl, ⟨az149, sy149, r149⟩, fa149⟩ := q149
      refine G.eqs [] rfl ?_
      refine G.go tv_X12_restart 2 189 [(0, .ref (gAd E (56))), (3, .long (x3)), (5, .int (x5)), (6, .int (x6))] [.int ((1 : Int32)), .ref (gAd E (56))] rfl ?_
      obtain ⟨R151, eR151, hr⟩ := ptR_s hr
      refine G.rpW r149 hE 11 eR151 (by decide) rfl (by decide) rfl rfl rfl (tbd tv_X12_restart rfl) w_2076 (fun u151 r151 h151 => ?_)
      refine G.go tv_X12_restart 2 194 [(0, .ref (gAd E (56))), (3, .long (x3)), (5, .int (x5)), (6, .int (x6))] [.int ((-1 : Int32)), .ref (gAd E (56))] rfl ?_
      obtain ⟨R152, eR152, hr⟩ := ptR_s hr
      refine G.rpW r151 hE 12 eR152 (by decide) rfl (by decide) rfl rfl rfl (tbd tv_X12_restart rfl) w_2077 (fun u152 r152 h152 => ?_)
      refine G.go tv_X12_restart 1 199 [(0, .ref (gAd E (56))), (3, .long (x3)), (5, .int (x5)), (6, .int (x6))] [.int (x5)] rfl ?_
      cases hr
      exact G.iret rfl rfl ⟨rfl, ⟨_, _, r152⟩, ((((hf.tr h148 (fun _ h => h)).tr fa149 (fun _ h => h)).tr h151 (fun _ h => h)).tr h152 (fun _ h => h))⟩ (tbd tv_X12_restart rfl)
    · replace hr := ite_f c28 hr
      refine G.go tv_X12_restart 2 34 [(0, .ref (gAd E (56))), (3, .long (x3)), (5, .int (x5)), (6, .int (x6))] [.int (x6), .ref (gAd E (56))] rfl ?_
      obtain ⟨v153, hv153, hr⟩ := bnd_s hr
      refine G.callV (56) [.int (x6)] [] (k_X12_waitsOf E _ hE R ⟨_, _, r0⟩ x6 v153 hv153) cls_X12 (by omega) (r0.o) cw_X12_505 w_2781 w_140 (Nat.le_of_ble_eq_true rfl) rfl (Nat.le_of_ble_eq_true rfl) (tbd tv_X12_restart rfl) (fun v153w f153 q153 => ?_) (fun _ _ h => h.elim)
      obtain ⟨rfl, ⟨az153, sy153, r153⟩, fa153⟩ := q153
      refine G.eqs [.int (v153)] rfl ?_
      refine G.go tv_X12_restart 2 41 [(0, .ref (gAd E (56))), (3, .long (x3)), (5, .int (x5)), (6, .int (x6)), (7, .int (v153))] [.int (v153)] rfl ?_
      refine G.if_le 169 (tbd tv_X12_restart rfl) (by decide) (fun c41 => ?_) (fun c41 => ?_)
      · replace hr := ite_t c41 hr
        refine G.go tv_X12_restart 2 22 [(0, .ref (gAd E (56))), (3, .long (x3)), (5, .int (x5)), (6, .int (x6 + (1 : Int32))), (7, .int (v153))] [] rfl ?_
        refine G.less [(0, .ref (gAd E (56))), (3, .long (x3)), (5, .int (x5)), (6, .int (x6 + (1 : Int32)))] [0, 1, 2, 3] rfl ?_
        exact ih _ _ _ _ _ _ hr _ ⟨_, _, r153⟩ (hf.tr fa153 (fun _ h => h))
      · replace hr := ite_f c41 hr
        refine G.go tv_X12_restart 2 48 [(0, .ref (gAd E (56))), (3, .long (x3)), (5, .int (x5 + (1 : Int32))), (6, .int (x6)), (7, .int (v153))] [.long (x3)] rfl ?_
        refine G.ldc2 (6364136223846793005) (tbd tv_X12_restart rfl) w_2783 ?_
        refine G.go tv_X12_restart 1 52 [(0, .ref (gAd E (56))), (3, .long (x3)), (5, .int (x5 + (1 : Int32))), (6, .int (x6)), (7, .int (v153))] [.long ((x3) * ((6364136223846793005 : Int64)))] rfl ?_
        refine G.ldc2 (1442695040888963407) (tbd tv_X12_restart rfl) w_2784 ?_
        refine G.go tv_X12_restart 9 66 [(0, .ref (gAd E (56))), (3, .long (((x3) * ((6364136223846793005 : Int64))) + ((1442695040888963407 : Int64)))), (5, .int (x5 + (1 : Int32))), (6, .int (x6)), (7, .int (v153))] [.long ((((1 : Int32)) + (v153) : Int32).toInt64), .long (((((x3) * ((6364136223846793005 : Int64))) + ((1442695040888963407 : Int64)) : Int64).toUInt64 >>> (((33 : Int32) : Int32).toInt64.toUInt64 &&& Int64.toUInt64 63)).toInt64)] rfl ?_
        obtain ⟨nz154, hr⟩ := nz64_s hr
        refine G.lrem nz154 (tbd tv_X12_restart rfl) ?_
        refine G.go tv_X12_restart 2 70 [(0, .ref (gAd E (56))), (3, .long (((x3) * ((6364136223846793005 : Int64))) + ((1442695040888963407 : Int64)))), (5, .int (x5 + (1 : Int32))), (6, .int (x6)), (7, .int (v153)), (8, .int (((((((x3) * ((6364136223846793005 : Int64))) + ((1442695040888963407 : Int64)) : Int64).toUInt64 >>> (((33 : Int32) : Int32).toInt64.toUInt64 &&& Int64.toUInt64 63)).toInt64) - (((((x3) * ((6364136223846793005 : Int64))) + ((1442695040888963407 : Int64)) : Int64).toUInt64 >>> (((33 : Int32) : Int32).toInt64.toUInt64 &&& Int64.toUInt64 63)).toInt64) / ((((1 : Int32)) + (v153) : Int32).toInt64) * ((((1 : Int32)) + (v153) : Int32).toInt64) : Int64).toInt32))] [] rfl ?_
        obtain ⟨v155, e155, hr⟩ := nm_s hr
        refine G.eql [(0, .ref (gAd E (56))), (3, .long (((x3) * ((6364136223846793005 : Int64))) + ((1442695040888963407 : Int64)))), (5, .int (x5 + (1 : Int32))), (6, .int (x6)), (7, .int (v153)), (8, .int (v155))] (by rw [e155]) ?_
        refine G.go tv_X12_restart 4 76 [(0, .ref (gAd E (56))), (3, .long (((x3) * ((6364136223846793005 : Int64))) + ((1442695040888963407 : Int64)))), (5, .int (x5 + (1 : Int32))), (6, .int (x6)), (7, .int (v153)), (8, .int (v155)), (9, .int ((0 : Int32))), (10, .int ((0 : Int32)))] [] rfl ?_
        refine G.less [(0, .ref (gAd E (56))), (3, .long (((x3) * ((6364136223846793005 : Int64))) + ((1442695040888963407 : Int64)))), (5, .int (x5 + (1 : Int32))), (6, .int (x6)), (8, .int (v155)), (9, .int ((0 : Int32))), (10, .int ((0 : Int32)))] [0, 1, 2, 3, 5, 6, 7] rfl ?_
        exact l_X12_restart_76 E f0 sz QA hE _ ih _ _ _ _ _ _ _ _ _ _ hr _ ⟨_, _, r153⟩ (hf.tr fa153 (fun _ h => h))
set_option maxRecDepth 100000 in
set_option maxHeartbeats 4000000 in
theorem k_X12_restart (E : gE) (f : Nat → va_E) (hE : 94 ≤ gN E) (R : RfT) (w : RW E f R) (a0 : Int64) (r : Int32) (R9 : RfT) (hr : e_restart R a0 = some (r, R9)) : Ct E 2 yX12_restart cX12_restart 12 (some .int) [.ref (gAd E (56)), .long (a0)] f (fun v g => v = some (.int r) ∧ RW E g R9 ∧ Fr RfK f g, fun _ _ => False) := by
  obtain ⟨az, sy, r0⟩ := w
  refine Ct.of (by decide) (Nat.le_of_ble_eq_true rfl) (fun sz => ?_)
  refine G.eql [(0, .ref (gAd E (56))), (1, .long (a0))] rfl ?_
  unfold e_restart at hr
  refine G.go tv_X12_restart 2 2 [(0, .ref (gAd E (56))), (1, .long (a0))] [.ref (gAd E (56)), .ref (gAd E (56))] rfl ?_
  refine G.rg r0 hE 11 (.int (rS R 11)) (by decide) rfl (tbd tv_X12_restart rfl) w_2076 ?_
  refine G.go tv_X12_restart 1 6 [(0, .ref (gAd E (56))), (1, .long (a0))] [.int ((1 : Int32)), .int (rS R 11), .ref (gAd E (56))] rfl ?_
  obtain ⟨v147, R147, hv147, hr⟩ := bnd2_s hr
  refine G.callV (56) [.int (rS R 11), .int ((1 : Int32))] [] (k_X12_refuse E _ hE R ⟨_, _, r0⟩ (rS R 11) ((1 : Int32)) v147 R147 hv147) cls_X12 (by omega) (r0.o) cw_X12_385 w_2268 w_53 (Nat.le_of_ble_eq_true rfl) rfl (Nat.le_of_ble_eq_true rfl) (tbd tv_X12_restart rfl) (fun v147w f147 q147 => ?_) (fun _ _ h => h.elim)
  obtain ⟨rfl, ⟨az147, sy147, r147⟩, fa147⟩ := q147
  refine G.eqs [.int (v147)] rfl ?_
  refine G.if_eq 14 (tbd tv_X12_restart rfl) (by decide) (fun c9 => ?_) (fun c9 => ?_)
  · replace hr := ite_t c9 hr
    refine G.go tv_X12_restart 6 22 [(0, .ref (gAd E (56))), (1, .long (a0)), (3, .long (a0)), (5, .int ((0 : Int32))), (6, .int ((0 : Int32)))] [] rfl ?_
    refine G.less [(0, .ref (gAd E (56))), (3, .long (a0)), (5, .int ((0 : Int32))), (6, .int ((0 : Int32)))] [0, 2, 3, 4] rfl ?_
    exact l_X12_restart_22 E f sz _ hE _ _ _ _ _ _ _ hr _ ⟨_, _, r147⟩ (Fr.rf.tr fa147 (fun _ h => h))
  · replace hr := ite_f c9 hr
    refine G.go tv_X12_restart 1 13 [(0, .ref (gAd E (56))), (1, .long (a0))] [.int ((0 : Int32))] rfl ?_
    cases hr
    exact G.iret rfl rfl ⟨rfl, ⟨_, _, r147⟩, (Fr.rf.tr fa147 (fun _ h => h))⟩ (tbd tv_X12_restart rfl)
