def e_read_29  (R : RfT) : Option (Int32 × RfT) := if (rS R 0) = ((1 : Int32)) then some ((0 : Int32), R) else some ((-1 : Int32), R)
def e_read  (R : RfT) (a0 : Int32) (a1 : Int32) : Option (Int32 × RfT) := bnd2 (e_notMounted R) (fun v1 R1 => if v1 = 0 then bnd (e_kind R1 a0) (fun v2 => if v2 = ((1 : Int32)) then if a1 < 0 then e_read_29  R1 else bnd (e_size R1 a0) (fun v3 => if a1 < v3 then bnd (e_blockOf R1 a0 ((a1) / ((128 : Int32)))) (fun v4 => if v4 = 0 then some ((0 : Int32), R1) else bnd (e_seenNumber R1 v4 ((a1) - (a1) / ((128 : Int32)) * ((128 : Int32))) ((1 : Int32))) (fun v5 => some (v5, R1))) else e_read_29  R1) else e_read_29  R1) else e_read_29  R1)
set_option maxRecDepth 100000 in
set_option maxHeartbeats 4000000 in
theorem l_X12_read_29 (E : gE) (f0 : Nat → va_E) (sz : Nat) (QA : Nat → Prop) (hE : 94 ≤ gN E) : ∀ (R : RfT) (r : Int32) (R9 : RfT) (hr : e_read_29  R = some (r, R9)) (f : Nat → va_E) (w : RW E f R) (hf : Fr RfK f0 f), G E (6, yX12_read, 4, (some .int), sz, QA) cX12_read (gO E (6, yX12_read, 4, (some .int), sz, QA) (fun v g => v = some (.int r) ∧ RW E g R9 ∧ Fr RfK f0 g, fun _ _ => False)) 29 [(0, .ref (gAd E (56)))] [] f := by
  intro R r R9 hr f w hf
  obtain ⟨az, sy, r0⟩ := w
  unfold e_read_29 at hr
  refine G.go tv_X12_read 1 30 [(0, .ref (gAd E (56)))] [.ref (gAd E (56))] rfl ?_
  refine G.rg r0 hE 0 (.int (rS R 0)) (by decide) rfl (tbd tv_X12_read rfl) w_2065 ?_
  refine G.go tv_X12_read 1 34 [(0, .ref (gAd E (56)))] [.int ((1 : Int32)), .int (rS R 0)] rfl ?_
  refine G.cmp_ne 41 (tbd tv_X12_read rfl) (by decide) (fun c34 => ?_) (fun c34 => ?_)
  · replace hr := ite_f c34 hr
    refine G.go tv_X12_read 1 42 [(0, .ref (gAd E (56)))] [.int ((-1 : Int32))] rfl ?_
    cases hr
    exact G.iret rfl rfl ⟨rfl, ⟨_, _, r0⟩, hf⟩ (tbd tv_X12_read rfl)
  · replace hr := ite_t c34 hr
    refine G.go tv_X12_read 2 42 [(0, .ref (gAd E (56)))] [.int ((0 : Int32))] rfl ?_
    cases hr
    exact G.iret rfl rfl ⟨rfl, ⟨_, _, r0⟩, hf⟩ (tbd tv_X12_read rfl)
set_option maxRecDepth 100000 in
set_option maxHeartbeats 4000000 in
theorem k_X12_read (E : gE) (f : Nat → va_E) (hE : 94 ≤ gN E) (R : RfT) (w : RW E f R) (a0 : Int32) (a1 : Int32) (r : Int32) (R9 : RfT) (hr : e_read R a0 a1 = some (r, R9)) : Ct E 6 yX12_read cX12_read 4 (some .int) [.ref (gAd E (56)), .int (a0), .int (a1)] f (fun v g => v = some (.int r) ∧ RW E g R9 ∧ Fr RfK f g, fun _ _ => False) := by
  obtain ⟨az, sy, r0⟩ := w
  refine Ct.of (by decide) (Nat.le_of_ble_eq_true rfl) (fun sz => ?_)
  refine G.eql [(0, .ref (gAd E (56))), (1, .int (a0)), (2, .int (a1))] rfl ?_
  unfold e_read at hr
  refine G.go tv_X12_read 1 1 [(0, .ref (gAd E (56))), (1, .int (a0)), (2, .int (a1))] [.ref (gAd E (56))] rfl ?_
  obtain ⟨v1, R1, hv1, hr⟩ := bnd2_s hr
  refine G.callV (56) [] [] (k_X12_notMounted E _ hE R ⟨_, _, r0⟩ v1 R1 hv1) cls_X12 (by omega) (r0.o) cw_X12_403 w_2464 w_96 (Nat.le_of_ble_eq_true rfl) rfl (Nat.le_of_ble_eq_true rfl) (tbd tv_X12_read rfl) (fun v1w f1 q1 => ?_) (fun _ _ h => h.elim)
  obtain ⟨rfl, ⟨az1, sy1, r1⟩, fa1⟩ := q1
  refine G.eqs [.int (v1)] rfl ?_
  refine G.if_ne 29 (tbd tv_X12_read rfl) (by decide) (fun c4 => ?_) (fun c4 => ?_)
  · replace hr := ite_f c4 hr
    refine G.less [(0, .ref (gAd E (56)))] [0] rfl ?_
    exact l_X12_read_29 E f sz _ hE _ _ _ hr _ ⟨_, _, r1⟩ (Fr.rf.tr fa1 (fun _ h => h))
  · replace hr := ite_t c4 hr
    refine G.go tv_X12_read 2 9 [(0, .ref (gAd E (56))), (1, .int (a0)), (2, .int (a1))] [.int (a0), .ref (gAd E (56))] rfl ?_
    obtain ⟨v2, hv2, hr⟩ := bnd_s hr
    refine G.callV (56) [.int (a0)] [] (k_X12_kind E _ hE R1 ⟨_, _, r1⟩ a0 v2 hv2) cls_X12 (by omega) (r1.o) cw_X12_326 w_2369 w_74 (Nat.le_of_ble_eq_true rfl) rfl (Nat.le_of_ble_eq_true rfl) (tbd tv_X12_read rfl) (fun v2w f2 q2 => ?_) (fun _ _ h => h.elim)
    obtain ⟨rfl, ⟨az2, sy2, r2⟩, fa2⟩ := q2
    refine G.eqs [.int (v2)] rfl ?_
    refine G.go tv_X12_read 1 13 [(0, .ref (gAd E (56))), (1, .int (a0)), (2, .int (a1))] [.int ((1 : Int32)), .int (v2)] rfl ?_
    refine G.cmp_ne 29 (tbd tv_X12_read rfl) (by decide) (fun c13 => ?_) (fun c13 => ?_)
    · replace hr := ite_f c13 hr
      refine G.less [(0, .ref (gAd E (56)))] [0] rfl ?_
      exact l_X12_read_29 E f sz _ hE _ _ _ hr _ ⟨_, _, r2⟩ ((Fr.rf.tr fa1 (fun _ h => h)).tr fa2 (fun _ h => h))
    · replace hr := ite_t c13 hr
      refine G.go tv_X12_read 1 17 [(0, .ref (gAd E (56))), (1, .int (a0)), (2, .int (a1))] [.int (a1)] rfl ?_
      refine G.if_lt 29 (tbd tv_X12_read rfl) (by decide) (fun c17 => ?_) (fun c17 => ?_)
      · replace hr := ite_t c17 hr
        refine G.less [(0, .ref (gAd E (56)))] [0] rfl ?_
        exact l_X12_read_29 E f sz _ hE _ _ _ hr _ ⟨_, _, r2⟩ ((Fr.rf.tr fa1 (fun _ h => h)).tr fa2 (fun _ h => h))
      · replace hr := ite_f c17 hr
        refine G.go tv_X12_read 3 23 [(0, .ref (gAd E (56))), (1, .int (a0)), (2, .int (a1))] [.int (a0), .ref (gAd E (56)), .int (a1)] rfl ?_
        obtain ⟨v3, hv3, hr⟩ := bnd_s hr
        refine G.callV (56) [.int (a0)] [.int (a1)] (k_X12_size E _ hE R1 ⟨_, _, r2⟩ a0 v3 hv3) cls_X12 (by omega) (r2.o) cw_X12_344 w_2503 w_104 (Nat.le_of_ble_eq_true rfl) rfl (Nat.le_of_ble_eq_true rfl) (tbd tv_X12_read rfl) (fun v3w f3 q3 => ?_) (fun _ _ h => h.elim)
        obtain ⟨rfl, ⟨az3, sy3, r3⟩, fa3⟩ := q3
        refine G.eqs [.int (v3), .int (a1)] rfl ?_
        refine G.cmp_lt 43 (tbd tv_X12_read rfl) (by decide) (fun c26 => ?_) (fun c26 => ?_)
        · replace hr := ite_t c26 hr
          refine G.go tv_X12_read 4 49 [(0, .ref (gAd E (56))), (1, .int (a0)), (2, .int (a1))] [.int ((128 : Int32)), .int (a1), .int (a0), .ref (gAd E (56))] rfl ?_
          refine G.idiv (by decide) (tbd tv_X12_read rfl) ?_
          obtain ⟨v4, hv4, hr⟩ := bnd_s hr
          refine G.callV (56) [.int (a0), .int ((a1) / ((128 : Int32)))] [] (k_X12_blockOf E _ hE R1 ⟨_, _, r3⟩ a0 ((a1) / ((128 : Int32))) v4 hv4) cls_X12 (by omega) (r3.o) cw_X12_323 w_2507 w_105 (Nat.le_of_ble_eq_true rfl) rfl (Nat.le_of_ble_eq_true rfl) (tbd tv_X12_read rfl) (fun v4w f4 q4 => ?_) (fun _ _ h => h.elim)
          obtain ⟨rfl, ⟨az4, sy4, r4⟩, fa4⟩ := q4
          refine G.eqs [.int (v4)] rfl ?_
          refine G.go tv_X12_read 2 55 [(0, .ref (gAd E (56))), (1, .int (a0)), (2, .int (a1)), (3, .int (v4))] [.int (v4)] rfl ?_
          refine G.if_ne 62 (tbd tv_X12_read rfl) (by decide) (fun c55 => ?_) (fun c55 => ?_)
          · replace hr := ite_f c55 hr
            refine G.go tv_X12_read 4 68 [(0, .ref (gAd E (56))), (1, .int (a0)), (2, .int (a1)), (3, .int (v4))] [.int ((128 : Int32)), .int (a1), .int (v4), .ref (gAd E (56))] rfl ?_
            refine G.irem (by decide) (tbd tv_X12_read rfl) ?_
            refine G.go tv_X12_read 1 70 [(0, .ref (gAd E (56))), (1, .int (a0)), (2, .int (a1)), (3, .int (v4))] [.int ((1 : Int32)), .int ((a1) - (a1) / ((128 : Int32)) * ((128 : Int32))), .int (v4), .ref (gAd E (56))] rfl ?_
            obtain ⟨v5, hv5, hr⟩ := bnd_s hr
            refine G.callV (56) [.int (v4), .int ((a1) - (a1) / ((128 : Int32)) * ((128 : Int32))), .int ((1 : Int32))] [] (k_X12_seenNumber E _ hE R1 ⟨_, _, r4⟩ v4 ((a1) - (a1) / ((128 : Int32)) * ((128 : Int32))) ((1 : Int32)) v5 hv5) cls_X12 (by omega) (r4.o) cw_X12_295 w_2380 w_76 (Nat.le_of_ble_eq_true rfl) rfl (Nat.le_of_ble_eq_true rfl) (tbd tv_X12_read rfl) (fun v5w f5 q5 => ?_) (fun _ _ h => h.elim)
            obtain ⟨rfl, ⟨az5, sy5, r5⟩, fa5⟩ := q5
            refine G.eqs [.int (v5)] rfl ?_
            cases hr
            exact G.iret rfl rfl ⟨rfl, ⟨_, _, r5⟩, (((((Fr.rf.tr fa1 (fun _ h => h)).tr fa2 (fun _ h => h)).tr fa3 (fun _ h => h)).tr fa4 (fun _ h => h)).tr fa5 (fun _ h => h))⟩ (tbd tv_X12_read rfl)
          · replace hr := ite_t c55 hr
            refine G.go tv_X12_read 2 73 [(0, .ref (gAd E (56))), (1, .int (a0)), (2, .int (a1)), (3, .int (v4))] [.int ((0 : Int32))] rfl ?_
            cases hr
            exact G.iret rfl rfl ⟨rfl, ⟨_, _, r4⟩, ((((Fr.rf.tr fa1 (fun _ h => h)).tr fa2 (fun _ h => h)).tr fa3 (fun _ h => h)).tr fa4 (fun _ h => h))⟩ (tbd tv_X12_read rfl)
        · replace hr := ite_f c26 hr
          refine G.less [(0, .ref (gAd E (56)))] [0] rfl ?_
          exact l_X12_read_29 E f sz _ hE _ _ _ hr _ ⟨_, _, r3⟩ (((Fr.rf.tr fa1 (fun _ h => h)).tr fa2 (fun _ h => h)).tr fa3 (fun _ h => h))
def e_where_33  (R : RfT) (x1 : Int32) (x2 : Int32) : Option (Int32 × RfT) := bnd (e_kind R x1) (fun v10 => if v10 = 0 then some ((-11 : Int32), R) else bnd (e_size R x1) (fun v11 => if (((128 : Int32)) * (x2)) < v11 then bnd (e_blockOf R x1 x2) (fun v12 => some (v12, R)) else some ((0 : Int32), R)))
def e_where  (R : RfT) (a0 : Int32) (a1 : Int32) : Option (Int32 × RfT) := bnd2 (e_notMounted R) (fun v6 R6 => if v6 = 0 then if a1 < 0 then bnd2 (e_refuse R6 ((1 : Int32)) ((2 : Int32))) (fun v7 R7 => if v7 = 0 then e_where_33  R7 a0 a1 else some ((0 : Int32), R7)) else if a1 ≤ ((4167 : Int32)) then bnd2 (e_refuse R6 ((0 : Int32)) ((2 : Int32))) (fun v8 R8 => if v8 = 0 then e_where_33  R8 a0 a1 else some ((0 : Int32), R8)) else bnd2 (e_refuse R6 ((1 : Int32)) ((2 : Int32))) (fun v9 R9 => if v9 = 0 then e_where_33  R9 a0 a1 else some ((0 : Int32), R9)) else some ((0 : Int32), R6))
set_option maxRecDepth 100000 in
set_option maxHeartbeats 4000000 in
theorem l_X12_where_33 (E : gE) (f0 : Nat → va_E) (sz : Nat) (QA : Nat → Prop) (hE : 94 ≤ gN E) : ∀ (R : RfT) (x1 : Int32) (x2 : Int32) (r : Int32) (R9 : RfT) (hr : e_where_33  R x1 x2 = some (r, R9)) (f : Nat → va_E) (w : RW E f R) (hf : Fr RfK f0 f), G E (6, yX12_where, 3, (some .int), sz, QA) cX12_where (gO E (6, yX12_where, 3, (some .int), sz, QA) (fun v g => v = some (.int r) ∧ RW E g R9 ∧ Fr RfK f0 g, fun _ _ => False)) 33 [(0, .ref (gAd E (56))), (1, .int (x1)), (2, .int (x2))] [] f := by
  intro R x1 x2 r R9 hr f w hf
  obtain ⟨az, sy, r0⟩ := w
  unfold e_where_33 at hr
  refine G.go tv_X12_where 2 35 [(0, .ref (gAd E (56))), (1, .int (x1)), (2, .int (x2))] [.int (x1), .ref (gAd E (56))] rfl ?_
  obtain ⟨v10, hv10, hr⟩ := bnd_s hr
  refine G.callV (56) [.int (x1)] [] (k_X12_kind E _ hE R ⟨_, _, r0⟩ x1 v10 hv10) cls_X12 (by omega) (r0.o) cw_X12_326 w_2369 w_74 (Nat.le_of_ble_eq_true rfl) rfl (Nat.le_of_ble_eq_true rfl) (tbd tv_X12_where rfl) (fun v10w f10 q10 => ?_) (fun _ _ h => h.elim)
  obtain ⟨rfl, ⟨az10, sy10, r10⟩, fa10⟩ := q10
  refine G.eqs [.int (v10)] rfl ?_
  refine G.if_ne 44 (tbd tv_X12_where rfl) (by decide) (fun c38 => ?_) (fun c38 => ?_)
  · replace hr := ite_f c38 hr
    refine G.go tv_X12_where 5 51 [(0, .ref (gAd E (56))), (1, .int (x1)), (2, .int (x2))] [.int (x1), .ref (gAd E (56)), .int (((128 : Int32)) * (x2))] rfl ?_
    obtain ⟨v11, hv11, hr⟩ := bnd_s hr
    refine G.callV (56) [.int (x1)] [.int (((128 : Int32)) * (x2))] (k_X12_size E _ hE R ⟨_, _, r10⟩ x1 v11 hv11) cls_X12 (by omega) (r10.o) cw_X12_344 w_2503 w_104 (Nat.le_of_ble_eq_true rfl) rfl (Nat.le_of_ble_eq_true rfl) (tbd tv_X12_where rfl) (fun v11w f11 q11 => ?_) (fun _ _ h => h.elim)
    obtain ⟨rfl, ⟨az11, sy11, r11⟩, fa11⟩ := q11
    refine G.eqs [.int (v11), .int (((128 : Int32)) * (x2))] rfl ?_
    refine G.cmp_lt 61 (tbd tv_X12_where rfl) (by decide) (fun c54 => ?_) (fun c54 => ?_)
    · replace hr := ite_t c54 hr
      refine G.go tv_X12_where 3 64 [(0, .ref (gAd E (56))), (1, .int (x1)), (2, .int (x2))] [.int (x2), .int (x1), .ref (gAd E (56))] rfl ?_
      obtain ⟨v12, hv12, hr⟩ := bnd_s hr
      refine G.callV (56) [.int (x1), .int (x2)] [] (k_X12_blockOf E _ hE R ⟨_, _, r11⟩ x1 x2 v12 hv12) cls_X12 (by omega) (r11.o) cw_X12_323 w_2507 w_105 (Nat.le_of_ble_eq_true rfl) rfl (Nat.le_of_ble_eq_true rfl) (tbd tv_X12_where rfl) (fun v12w f12 q12 => ?_) (fun _ _ h => h.elim)
      obtain ⟨rfl, ⟨az12, sy12, r12⟩, fa12⟩ := q12
      refine G.eqs [.int (v12)] rfl ?_
      cases hr
      exact G.iret rfl rfl ⟨rfl, ⟨_, _, r12⟩, (((hf.tr fa10 (fun _ h => h)).tr fa11 (fun _ h => h)).tr fa12 (fun _ h => h))⟩ (tbd tv_X12_where rfl)
    · replace hr := ite_f c54 hr
      refine G.go tv_X12_where 2 67 [(0, .ref (gAd E (56))), (1, .int (x1)), (2, .int (x2))] [.int ((0 : Int32))] rfl ?_
      cases hr
      exact G.iret rfl rfl ⟨rfl, ⟨_, _, r11⟩, ((hf.tr fa10 (fun _ h => h)).tr fa11 (fun _ h => h))⟩ (tbd tv_X12_where rfl)
  · replace hr := ite_t c38 hr
    refine G.go tv_X12_where 1 43 [(0, .ref (gAd E (56))), (1, .int (x1)), (2, .int (x2))] [.int ((-11 : Int32))] rfl ?_
    cases hr
    exact G.iret rfl rfl ⟨rfl, ⟨_, _, r10⟩, (hf.tr fa10 (fun _ h => h))⟩ (tbd tv_X12_where rfl)
set_option maxRecDepth 100000 in
set_option maxHeartbeats 4000000 in
theorem k_X12_where (E : gE) (f : Nat → va_E) (hE : 94 ≤ gN E) (R : RfT) (w : RW E f R) (a0 : Int32) (a1 : Int32) (r : Int32) (R9 : RfT) (hr : e_where R a0 a1 = some (r, R9)) : Ct E 6 yX12_where cX12_where 3 (some .int) [.ref (gAd E (56)), .int (a0), .int (a1)] f (fun v g => v = some (.int r) ∧ RW E g R9 ∧ Fr RfK f g, fun _ _ => False) := by
  obtain ⟨az, sy, r0⟩ := w
  refine Ct.of (by decide) (Nat.le_of_ble_eq_true rfl) (fun sz => ?_)
  refine G.eql [(0, .ref (gAd E (56))), (1, .int (a0)), (2, .int (a1))] rfl ?_
  unfold e_where at hr
  refine G.go tv_X12_where 1 1 [(0, .ref (gAd E (56))), (1, .int (a0)), (2, .int (a1))] [.ref (gAd E (56))] rfl ?_
  obtain ⟨v6, R6, hv6, hr⟩ := bnd2_s hr
  refine G.callV (56) [] [] (k_X12_notMounted E _ hE R ⟨_, _, r0⟩ v6 R6 hv6) cls_X12 (by omega) (r0.o) cw_X12_403 w_2464 w_96 (Nat.le_of_ble_eq_true rfl) rfl (Nat.le_of_ble_eq_true rfl) (tbd tv_X12_where rfl) (fun v6w f6 q6 => ?_) (fun _ _ h => h.elim)
  obtain ⟨rfl, ⟨az6, sy6, r6⟩, fa6⟩ := q6
  refine G.eqs [.int (v6)] rfl ?_
  refine G.if_ne 31 (tbd tv_X12_where rfl) (by decide) (fun c4 => ?_) (fun c4 => ?_)
  · replace hr := ite_f c4 hr
    refine G.go tv_X12_where 1 32 [(0, .ref (gAd E (56))), (1, .int (a0)), (2, .int (a1))] [.int ((0 : Int32))] rfl ?_
    cases hr
    exact G.iret rfl rfl ⟨rfl, ⟨_, _, r6⟩, (Fr.rf.tr fa6 (fun _ h => h))⟩ (tbd tv_X12_where rfl)
  · replace hr := ite_t c4 hr
    refine G.go tv_X12_where 2 9 [(0, .ref (gAd E (56))), (1, .int (a0)), (2, .int (a1))] [.int (a1), .ref (gAd E (56))] rfl ?_
    refine G.if_lt 19 (tbd tv_X12_where rfl) (by decide) (fun c9 => ?_) (fun c9 => ?_)
    · replace hr := ite_t c9 hr
      refine G.go tv_X12_where 3 25 [(0, .ref (gAd E (56))), (1, .int (a0)), (2, .int (a1))] [.int ((2 : Int32)), .int ((1 : Int32)), .ref (gAd E (56))] rfl ?_
      obtain ⟨v7, R7, hv7, hr⟩ := bnd2_s hr
      refine G.callV (56) [.int ((1 : Int32)), .int ((2 : Int32))] [] (k_X12_refuse E _ hE R6 ⟨_, _, r6⟩ ((1 : Int32)) ((2 : Int32)) v7 R7 hv7) cls_X12 (by omega) (r6.o) cw_X12_385 w_2268 w_53 (Nat.le_of_ble_eq_true rfl) rfl (Nat.le_of_ble_eq_true rfl) (tbd tv_X12_where rfl) (fun v7w f7 q7 => ?_) (fun _ _ h => h.elim)
      obtain ⟨rfl, ⟨az7, sy7, r7⟩, fa7⟩ := q7
      refine G.eqs [.int (v7)] rfl ?_
      refine G.if_eq 33 (tbd tv_X12_where rfl) (by decide) (fun c28 => ?_) (fun c28 => ?_)
      · replace hr := ite_t c28 hr
        refine G.less [(0, .ref (gAd E (56))), (1, .int (a0)), (2, .int (a1))] [0, 1, 2] rfl ?_
        exact l_X12_where_33 E f sz _ hE _ _ _ _ _ hr _ ⟨_, _, r7⟩ ((Fr.rf.tr fa6 (fun _ h => h)).tr fa7 (fun _ h => h))
      · replace hr := ite_f c28 hr
        refine G.go tv_X12_where 1 32 [(0, .ref (gAd E (56))), (1, .int (a0)), (2, .int (a1))] [.int ((0 : Int32))] rfl ?_
        cases hr
        exact G.iret rfl rfl ⟨rfl, ⟨_, _, r7⟩, ((Fr.rf.tr fa6 (fun _ h => h)).tr fa7 (fun _ h => h))⟩ (tbd tv_X12_where rfl)
    · replace hr := ite_f c9 hr
      refine G.go tv_X12_where 2 16 [(0, .ref (gAd E (56))), (1, .int (a0)), (2, .int (a1))] [.int ((4167 : Int32)), .int (a1), .ref (gAd E (56))] rfl ?_
      refine G.cmp_le 23 (tbd tv_X12_where rfl) (by decide) (fun c16 => ?_) (fun c16 => ?_)
      · replace hr := ite_t c16 hr
        refine G.go tv_X12_where 2 25 [(0, .ref (gAd E (56))), (1, .int (a0)), (2, .int (a1))] [.int ((2 : Int32)), .int ((0 : Int32)), .ref (gAd E (56))] rfl ?_
        obtain ⟨v8, R8, hv8, hr⟩ := bnd2_s hr
        refine G.callV (56) [.int ((0 : Int32)), .int ((2 : Int32))] [] (k_X12_refuse E _ hE R6 ⟨_, _, r6⟩ ((0 : Int32)) ((2 : Int32)) v8 R8 hv8) cls_X12 (by omega) (r6.o) cw_X12_385 w_2268 w_53 (Nat.le_of_ble_eq_true rfl) rfl (Nat.le_of_ble_eq_true rfl) (tbd tv_X12_where rfl) (fun v8w f8 q8 => ?_) (fun _ _ h => h.elim)
        obtain ⟨rfl, ⟨az8, sy8, r8⟩, fa8⟩ := q8
        refine G.eqs [.int (v8)] rfl ?_
        refine G.if_eq 33 (tbd tv_X12_where rfl) (by decide) (fun c28 => ?_) (fun c28 => ?_)
        · replace hr := ite_t c28 hr
          refine G.less [(0, .ref (gAd E (56))), (1, .int (a0)), (2, .int (a1))] [0, 1, 2] rfl ?_
          exact l_X12_where_33 E f sz _ hE _ _ _ _ _ hr _ ⟨_, _, r8⟩ ((Fr.rf.tr fa6 (fun _ h => h)).tr fa8 (fun _ h => h))
        · replace hr := ite_f c28 hr
          refine G.go tv_X12_where 1 32 [(0, .ref (gAd E (56))), (1, .int (a0)), (2, .int (a1))] [.int ((0 : Int32))] rfl ?_
          cases hr
          exact G.iret rfl rfl ⟨rfl, ⟨_, _, r8⟩, ((Fr.rf.tr fa6 (fun _ h => h)).tr fa8 (fun _ h => h))⟩ (tbd tv_X12_where rfl)
      · replace hr := ite_f c16 hr
        refine G.go tv_X12_where 3 25 [(0, .ref (gAd E (56))), (1, .int (a0)), (2, .int (a1))] [.int ((2 : Int32)), .int ((1 : Int32)), .ref (gAd E (56))] rfl ?_
        obtain ⟨v9, R9, hv9, hr⟩ := bnd2_s hr
        refine G.callV (56) [.int ((1 : Int32)), .int ((2 : Int32))] [] (k_X12_refuse E _ hE R6 ⟨_, _, r6⟩ ((1 : Int32)) ((2 : Int32)) v9 R9 hv9) cls_X12 (by omega) (r6.o) cw_X12_385 w_2268 w_53 (Nat.le_of_ble_eq_true rfl) rfl (Nat.le_of_ble_eq_true rfl) (tbd tv_X12_where rfl) (fun v9w f9 q9 => ?_) (fun _ _ h => h.elim)
        obtain ⟨rfl, ⟨az9, sy9, r9⟩, fa9⟩ := q9
        refine G.eqs [.int (v9)] rfl ?_
        refine G.if_eq 33 (tbd tv_X12_where rfl) (by decide) (fun c28 => ?_) (fun c28 => ?_)
        · replace hr := ite_t c28 hr
          refine G.less [(0, .ref (gAd E (56))), (1, .int (a0)), (2, .int (a1))] [0, 1, 2] rfl ?_
          exact l_X12_where_33 E f sz _ hE _ _ _ _ _ hr _ ⟨_, _, r9⟩ ((Fr.rf.tr fa6 (fun _ h => h)).tr fa9 (fun _ h => h))
        · replace hr := ite_f c28 hr
          refine G.go tv_X12_where 1 32 [(0, .ref (gAd E (56))), (1, .int (a0)), (2, .int (a1))] [.int ((0 : Int32))] rfl ?_
          cases hr
          exact G.iret rfl rfl ⟨rfl, ⟨_, _, r9⟩, ((Fr.rf.tr fa6 (fun _ h => h)).tr fa9 (fun _ h => h))⟩ (tbd tv_X12_where rfl)
theorem w_2707 : Cond.methodLink "LedgerFilesModel" 499 yX12_slotOfName ∈ TB := tp_11 161 (by decide +kernel) rfl
theorem w_2710 : Cond.code yX12_slotOfName prog_14_method_117_code 6 (some .int) ∈ TB := tp_11 164 rfl rfl
theorem cw_X12_499 : Cw RX12 499 yX12_slotOfName cX12_slotOfName 6 (some .int) 2 := ⟨w_2707, w_2710, w_161, by decide +kernel, by decide +kernel, by decide⟩
theorem w_2709 : Cond.instanceMethod yX12_slotOfName ∈ TB := tp_11 163 (by decide +kernel) rfl
theorem w_138 : Cond.selects "LedgerFilesModel" yX12_slotOfName yX12_slotOfName ∈ TB := tp_0 138 (by decide +kernel) rfl
def e_entry  (R : RfT) (a0 : Int32) (a1 : Int32) : Option (Int32 × RfT) := bnd2 (e_notMounted R) (fun v13 R13 => if v13 = 0 then bnd (e_slotOfName R13 a0 a1) (fun v14 => if v14 = ((-1 : Int32)) then bnd2 (e_refuse R13 ((1 : Int32)) ((2 : Int32))) (fun v17 R17 => if v17 = 0 then bnd (e_slotNumber R17 a0 v14 ((0 : Int32)) ((2 : Int32))) (fun v18 => some (v18, R17)) else some ((0 : Int32), R17)) else bnd2 (e_refuse R13 ((0 : Int32)) ((2 : Int32))) (fun v15 R15 => if v15 = 0 then bnd (e_slotNumber R15 a0 v14 ((0 : Int32)) ((2 : Int32))) (fun v16 => some (v16, R15)) else some ((0 : Int32), R15))) else some ((0 : Int32), R13))
set_option maxRecDepth 100000 in
set_option maxHeartbeats 4000000 in
theorem k_X12_entry (E : gE) (f : Nat → va_E) (hE : 94 ≤ gN E) (R : RfT) (w : RW E f R) (a0 : Int32) (a1 : Int32) (r : Int32) (R9 : RfT) (hr : e_entry R a0 a1 = some (r, R9)) : Ct E 8 yX12_entry cX12_entry 4 (some .int) [.ref (gAd E (56)), .int (a0), .int (a1)] f (fun v g => v = some (.int r) ∧ RW E g R9 ∧ Fr RfK f g, fun _ _ => False) := by
  obtain ⟨az, sy, r0⟩ := w
  refine Ct.of (by decide) (Nat.le_of_ble_eq_true rfl) (fun sz => ?_)
  refine G.eql [(0, .ref (gAd E (56))), (1, .int (a0)), (2, .int (a1))] rfl ?_
  unfold e_entry at hr
  refine G.go tv_X12_entry 1 1 [(0, .ref (gAd E (56))), (1, .int (a0)), (2, .int (a1))] [.ref (gAd E (56))] rfl ?_
  obtain ⟨v13, R13, hv13, hr⟩ := bnd2_s hr
  refine G.callV (56) [] [] (k_X12_notMounted E _ hE R ⟨_, _, r0⟩ v13 R13 hv13) cls_X12 (by omega) (r0.o) cw_X12_403 w_2464 w_96 (Nat.le_of_ble_eq_true rfl) rfl (Nat.le_of_ble_eq_true rfl) (tbd tv_X12_entry rfl) (fun v13w f13 q13 => ?_) (fun _ _ h => h.elim)
  obtain ⟨rfl, ⟨az13, sy13, r13⟩, fa13⟩ := q13
  refine G.eqs [.int (v13)] rfl ?_
  refine G.if_eq 9 (tbd tv_X12_entry rfl) (by decide) (fun c4 => ?_) (fun c4 => ?_)
  · replace hr := ite_t c4 hr
    refine G.go tv_X12_entry 3 12 [(0, .ref (gAd E (56))), (1, .int (a0)), (2, .int (a1))] [.int (a1), .int (a0), .ref (gAd E (56))] rfl ?_
    obtain ⟨v14, hv14, hr⟩ := bnd_s hr
    refine G.callV (56) [.int (a0), .int (a1)] [] (k_X12_slotOfName E _ hE R13 ⟨_, _, r13⟩ a0 a1 v14 hv14) cls_X12 (by omega) (r13.o) cw_X12_499 w_2709 w_138 (Nat.le_of_ble_eq_true rfl) rfl (Nat.le_of_ble_eq_true rfl) (tbd tv_X12_entry rfl) (fun v14w f14 q14 => ?_) (fun _ _ h => h.elim)
    obtain ⟨rfl, ⟨az14, sy14, r14⟩, fa14⟩ := q14
    refine G.eqs [.int (v14)] rfl ?_
    refine G.go tv_X12_entry 4 19 [(0, .ref (gAd E (56))), (1, .int (a0)), (2, .int (a1)), (3, .int (v14))] [.int ((-1 : Int32)), .int (v14), .ref (gAd E (56))] rfl ?_
    refine G.cmp_ne 26 (tbd tv_X12_entry rfl) (by decide) (fun c19 => ?_) (fun c19 => ?_)
    · replace hr := ite_f c19 hr
      refine G.go tv_X12_entry 2 28 [(0, .ref (gAd E (56))), (1, .int (a0)), (2, .int (a1)), (3, .int (v14))] [.int ((2 : Int32)), .int ((0 : Int32)), .ref (gAd E (56))] rfl ?_
      obtain ⟨v15, R15, hv15, hr⟩ := bnd2_s hr
      refine G.callV (56) [.int ((0 : Int32)), .int ((2 : Int32))] [] (k_X12_refuse E _ hE R13 ⟨_, _, r14⟩ ((0 : Int32)) ((2 : Int32)) v15 R15 hv15) cls_X12 (by omega) (r14.o) cw_X12_385 w_2268 w_53 (Nat.le_of_ble_eq_true rfl) rfl (Nat.le_of_ble_eq_true rfl) (tbd tv_X12_entry rfl) (fun v15w f15 q15 => ?_) (fun _ _ h => h.elim)
      obtain ⟨rfl, ⟨az15, sy15, r15⟩, fa15⟩ := q15
      refine G.eqs [.int (v15)] rfl ?_
      refine G.if_eq 38 (tbd tv_X12_entry rfl) (by decide) (fun c31 => ?_) (fun c31 => ?_)
      · replace hr := ite_t c31 hr
        refine G.go tv_X12_entry 5 43 [(0, .ref (gAd E (56))), (1, .int (a0)), (2, .int (a1)), (3, .int (v14))] [.int ((2 : Int32)), .int ((0 : Int32)), .int (v14), .int (a0), .ref (gAd E (56))] rfl ?_
        obtain ⟨v16, hv16, hr⟩ := bnd_s hr
        refine G.callV (56) [.int (a0), .int (v14), .int ((0 : Int32)), .int ((2 : Int32))] [] (k_X12_slotNumber E _ hE R15 ⟨_, _, r15⟩ a0 v14 ((0 : Int32)) ((2 : Int32)) v16 hv16) cls_X12 (by omega) (r15.o) cw_X12_347 w_2515 w_107 (Nat.le_of_ble_eq_true rfl) rfl (Nat.le_of_ble_eq_true rfl) (tbd tv_X12_entry rfl) (fun v16w f16 q16 => ?_) (fun _ _ h => h.elim)
        obtain ⟨rfl, ⟨az16, sy16, r16⟩, fa16⟩ := q16
        refine G.eqs [.int (v16)] rfl ?_
        cases hr
        exact G.iret rfl rfl ⟨rfl, ⟨_, _, r16⟩, ((((Fr.rf.tr fa13 (fun _ h => h)).tr fa14 (fun _ h => h)).tr fa15 (fun _ h => h)).tr fa16 (fun _ h => h))⟩ (tbd tv_X12_entry rfl)
      · replace hr := ite_f c31 hr
        refine G.go tv_X12_entry 2 46 [(0, .ref (gAd E (56))), (1, .int (a0)), (2, .int (a1)), (3, .int (v14))] [.int ((0 : Int32))] rfl ?_
        cases hr
        exact G.iret rfl rfl ⟨rfl, ⟨_, _, r15⟩, (((Fr.rf.tr fa13 (fun _ h => h)).tr fa14 (fun _ h => h)).tr fa15 (fun _ h => h))⟩ (tbd tv_X12_entry rfl)
    · replace hr := ite_t c19 hr
      refine G.go tv_X12_entry 3 28 [(0, .ref (gAd E (56))), (1, .int (a0)), (2, .int (a1)), (3, .int (v14))] [.int ((2 : Int32)), .int ((1 : Int32)), .ref (gAd E (56))] rfl ?_
      obtain ⟨v17, R17, hv17, hr⟩ := bnd2_s hr
      refine G.callV (56) [.int ((1 : Int32)), .int ((2 : Int32))] [] (k_X12_refuse E _ hE R13 ⟨_, _, r14⟩ ((1 : Int32)) ((2 : Int32)) v17 R17 hv17) cls_X12 (by omega) (r14.o) cw_X12_385 w_2268 w_53 (Nat.le_of_ble_eq_true rfl) rfl (Nat.le_of_ble_eq_true rfl) (tbd tv_X12_entry rfl) (fun v17w f17 q17 => ?_) (fun _ _ h => h.elim)
      obtain ⟨rfl, ⟨az17, sy17, r17⟩, fa17⟩ := q17
      refine G.eqs [.int (v17)] rfl ?_
      refine G.if_eq 38 (tbd tv_X12_entry rfl) (by decide) (fun c31 => ?_) (fun c31 => ?_)
      · replace hr := ite_t c31 hr
        refine G.go tv_X12_entry 5 43 [(0, .ref (gAd E (56))), (1, .int (a0)), (2, .int (a1)), (3, .int (v14))] [.int ((2 : Int32)), .int ((0 : Int32)), .int (v14), .int (a0), .ref (gAd E (56))] rfl ?_
        obtain ⟨v18, hv18, hr⟩ := bnd_s hr
        refine G.callV (56) [.int (a0), .int (v14), .int ((0 : Int32)), .int ((2 : Int32))] [] (k_X12_slotNumber E _ hE R17 ⟨_, _, r17⟩ a0 v14 ((0 : Int32)) ((2 : Int32)) v18 hv18) cls_X12 (by omega) (r17.o) cw_X12_347 w_2515 w_107 (Nat.le_of_ble_eq_true rfl) rfl (Nat.le_of_ble_eq_true rfl) (tbd tv_X12_entry rfl) (fun v18w f18 q18 => ?_) (fun _ _ h => h.elim)
        obtain ⟨rfl, ⟨az18, sy18, r18⟩, fa18⟩ := q18
        refine G.eqs [.int (v18)] rfl ?_
        cases hr
        exact G.iret rfl rfl ⟨rfl, ⟨_, _, r18⟩, ((((Fr.rf.tr fa13 (fun _ h => h)).tr fa14 (fun _ h => h)).tr fa17 (fun _ h => h)).tr fa18 (fun _ h => h))⟩ (tbd tv_X12_entry rfl)
      · replace hr := ite_f c31 hr
        refine G.go tv_X12_entry 2 46 [(0, .ref (gAd E (56))), (1, .int (a0)), (2, .int (a1)), (3, .int (v14))] [.int ((0 : Int32))] rfl ?_
        cases hr
        exact G.iret rfl rfl ⟨rfl, ⟨_, _, r17⟩, (((Fr.rf.tr fa13 (fun _ h => h)).tr fa14 (fun _ h => h)).tr fa17 (fun _ h => h))⟩ (tbd tv_X12_entry rfl)
  · replace hr := ite_f c4 hr
    refine G.go tv_X12_entry 1 8 [(0, .ref (gAd E (56))), (1, .int (a0)), (2, .int (a1))] [.int ((0 : Int32))] rfl ?_
    cases hr
    exact G.iret rfl rfl ⟨rfl, ⟨_, _, r13⟩, (Fr.rf.tr fa13 (fun _ h => h))⟩ (tbd tv_X12_entry rfl)
def e_letter_42  (R : RfT) (x1 : Int32) (x3 : Int32) (x4 : Int32) : Option (Int32 × RfT) := bnd (e_slotNumber R x1 x4 ((2 : Int32)) ((1 : Int32))) (fun v24 => if v24 ≤ x3 then some ((-1 : Int32), R) else bnd (e_slotNumber R x1 x4 (((3 : Int32)) + (x3)) ((1 : Int32))) (fun v25 => some (v25, R)))
def e_letter  (R : RfT) (a0 : Int32) (a1 : Int32) (a2 : Int32) : Option (Int32 × RfT) := bnd2 (e_notMounted R) (fun v19 R19 => if v19 = 0 then bnd (e_slotOfName R19 a0 a1) (fun v20 => if v20 = ((-1 : Int32)) then bnd2 (e_refuse R19 ((1 : Int32)) ((2 : Int32))) (fun v21 R21 => if v21 = 0 then e_letter_42  R21 a0 a2 v20 else some ((0 : Int32), R21)) else if 0 ≤ a2 then bnd2 (e_refuse R19 ((0 : Int32)) ((2 : Int32))) (fun v22 R22 => if v22 = 0 then e_letter_42  R22 a0 a2 v20 else some ((0 : Int32), R22)) else bnd2 (e_refuse R19 ((1 : Int32)) ((2 : Int32))) (fun v23 R23 => if v23 = 0 then e_letter_42  R23 a0 a2 v20 else some ((0 : Int32), R23))) else some ((0 : Int32), R19))
set_option maxRecDepth 100000 in
set_option maxHeartbeats 4000000 in
theorem l_X12_letter_42 (E : gE) (f0 : Nat → va_E) (sz : Nat) (QA : Nat → Prop) (hE : 94 ≤ gN E) : ∀ (R : RfT) (x1 : Int32) (x3 : Int32) (x4 : Int32) (r : Int32) (R9 : RfT) (hr : e_letter_42  R x1 x3 x4 = some (r, R9)) (f : Nat → va_E) (w : RW E f R) (hf : Fr RfK f0 f), G E (8, yX12_letter, 5, (some .int), sz, QA) cX12_letter (gO E (8, yX12_letter, 5, (some .int), sz, QA) (fun v g => v = some (.int r) ∧ RW E g R9 ∧ Fr RfK f0 g, fun _ _ => False)) 42 [(0, .ref (gAd E (56))), (1, .int (x1)), (3, .int (x3)), (4, .int (x4))] [] f := by
  intro R x1 x3 x4 r R9 hr f w hf
  obtain ⟨az, sy, r0⟩ := w
  unfold e_letter_42 at hr
  refine G.go tv_X12_letter 6 49 [(0, .ref (gAd E (56))), (1, .int (x1)), (3, .int (x3)), (4, .int (x4))] [.int ((1 : Int32)), .int ((2 : Int32)), .int (x4), .int (x1), .ref (gAd E (56)), .int (x3)] rfl ?_
  obtain ⟨v24, hv24, hr⟩ := bnd_s hr
  refine G.callV (56) [.int (x1), .int (x4), .int ((2 : Int32)), .int ((1 : Int32))] [.int (x3)] (k_X12_slotNumber E _ hE R ⟨_, _, r0⟩ x1 x4 ((2 : Int32)) ((1 : Int32)) v24 hv24) cls_X12 (by omega) (r0.o) cw_X12_347 w_2515 w_107 (Nat.le_of_ble_eq_true rfl) rfl (Nat.le_of_ble_eq_true rfl) (tbd tv_X12_letter rfl) (fun v24w f24 q24 => ?_) (fun _ _ h => h.elim)
  obtain ⟨rfl, ⟨az24, sy24, r24⟩, fa24⟩ := q24
  refine G.eqs [.int (v24), .int (x3)] rfl ?_
  refine G.cmp_ge 69 (tbd tv_X12_letter rfl) (by decide) (fun c52 => ?_) (fun c52 => ?_)
  · replace hr := ite_t c52 hr
    refine G.go tv_X12_letter 1 70 [(0, .ref (gAd E (56))), (1, .int (x1)), (3, .int (x3)), (4, .int (x4))] [.int ((-1 : Int32))] rfl ?_
    cases hr
    exact G.iret rfl rfl ⟨rfl, ⟨_, _, r24⟩, (hf.tr fa24 (fun _ h => h))⟩ (tbd tv_X12_letter rfl)
  · replace hr := ite_f c52 hr
    refine G.go tv_X12_letter 7 63 [(0, .ref (gAd E (56))), (1, .int (x1)), (3, .int (x3)), (4, .int (x4))] [.int ((1 : Int32)), .int (((3 : Int32)) + (x3)), .int (x4), .int (x1), .ref (gAd E (56))] rfl ?_
    obtain ⟨v25, hv25, hr⟩ := bnd_s hr
    refine G.callV (56) [.int (x1), .int (x4), .int (((3 : Int32)) + (x3)), .int ((1 : Int32))] [] (k_X12_slotNumber E _ hE R ⟨_, _, r24⟩ x1 x4 (((3 : Int32)) + (x3)) ((1 : Int32)) v25 hv25) cls_X12 (by omega) (r24.o) cw_X12_347 w_2515 w_107 (Nat.le_of_ble_eq_true rfl) rfl (Nat.le_of_ble_eq_true rfl) (tbd tv_X12_letter rfl) (fun v25w f25 q25 => ?_) (fun _ _ h => h.elim)
    obtain ⟨rfl, ⟨az25, sy25, r25⟩, fa25⟩ := q25
    refine G.eqs [.int (v25)] rfl ?_
    refine G.go tv_X12_letter 1 70 [(0, .ref (gAd E (56))), (1, .int (x1)), (3, .int (x3)), (4, .int (x4))] [.int (v25)] rfl ?_
    cases hr
    exact G.iret rfl rfl ⟨rfl, ⟨_, _, r25⟩, ((hf.tr fa24 (fun _ h => h)).tr fa25 (fun _ h => h))⟩ (tbd tv_X12_letter rfl)
set_option maxRecDepth 100000 in
set_option maxHeartbeats 4000000 in
theorem k_X12_letter (E : gE) (f : Nat → va_E) (hE : 94 ≤ gN E) (R : RfT) (w : RW E f R) (a0 : Int32) (a1 : Int32) (a2 : Int32) (r : Int32) (R9 : RfT) (hr : e_letter R a0 a1 a2 = some (r, R9)) : Ct E 8 yX12_letter cX12_letter 5 (some .int) [.ref (gAd E (56)), .int (a0), .int (a1), .int (a2)] f (fun v g => v = some (.int r) ∧ RW E g R9 ∧ Fr RfK f g, fun _ _ => False) := by
  obtain ⟨az, sy, r0⟩ := w
  refine Ct.of (by decide) (Nat.le_of_ble_eq_true rfl) (fun sz => ?_)
  refine G.eql [(0, .ref (gAd E (56))), (1, .int (a0)), (2, .int (a1)), (3, .int (a2))] rfl ?_
  unfold e_letter at hr
  refine G.go tv_X12_letter 1 1 [(0, .ref (gAd E (56))), (1, .int (a0)), (2, .int (a1)), (3, .int (a2))] [.ref (gAd E (56))] rfl ?_
  obtain ⟨v19, R19, hv19, hr⟩ := bnd2_s hr
  refine G.callV (56) [] [] (k_X12_notMounted E _ hE R ⟨_, _, r0⟩ v19 R19 hv19) cls_X12 (by omega) (r0.o) cw_X12_403 w_2464 w_96 (Nat.le_of_ble_eq_true rfl) rfl (Nat.le_of_ble_eq_true rfl) (tbd tv_X12_letter rfl) (fun v19w f19 q19 => ?_) (fun _ _ h => h.elim)
  obtain ⟨rfl, ⟨az19, sy19, r19⟩, fa19⟩ := q19
  refine G.eqs [.int (v19)] rfl ?_
  refine G.if_eq 9 (tbd tv_X12_letter rfl) (by decide) (fun c4 => ?_) (fun c4 => ?_)
  · replace hr := ite_t c4 hr
    refine G.go tv_X12_letter 3 12 [(0, .ref (gAd E (56))), (1, .int (a0)), (2, .int (a1)), (3, .int (a2))] [.int (a1), .int (a0), .ref (gAd E (56))] rfl ?_
    obtain ⟨v20, hv20, hr⟩ := bnd_s hr
    refine G.callV (56) [.int (a0), .int (a1)] [] (k_X12_slotOfName E _ hE R19 ⟨_, _, r19⟩ a0 a1 v20 hv20) cls_X12 (by omega) (r19.o) cw_X12_499 w_2709 w_138 (Nat.le_of_ble_eq_true rfl) rfl (Nat.le_of_ble_eq_true rfl) (tbd tv_X12_letter rfl) (fun v20w f20 q20 => ?_) (fun _ _ h => h.elim)
    obtain ⟨rfl, ⟨az20, sy20, r20⟩, fa20⟩ := q20
    refine G.eqs [.int (v20)] rfl ?_
    refine G.go tv_X12_letter 4 21 [(0, .ref (gAd E (56))), (1, .int (a0)), (2, .int (a1)), (3, .int (a2)), (4, .int (v20))] [.int ((-1 : Int32)), .int (v20), .ref (gAd E (56))] rfl ?_
    refine G.cmp_eq 28 (tbd tv_X12_letter rfl) (by decide) (fun c21 => ?_) (fun c21 => ?_)
    · replace hr := ite_t c21 hr
      refine G.go tv_X12_letter 3 34 [(0, .ref (gAd E (56))), (1, .int (a0)), (2, .int (a1)), (3, .int (a2)), (4, .int (v20))] [.int ((2 : Int32)), .int ((1 : Int32)), .ref (gAd E (56))] rfl ?_
      obtain ⟨v21, R21, hv21, hr⟩ := bnd2_s hr
      refine G.callV (56) [.int ((1 : Int32)), .int ((2 : Int32))] [] (k_X12_refuse E _ hE R19 ⟨_, _, r20⟩ ((1 : Int32)) ((2 : Int32)) v21 R21 hv21) cls_X12 (by omega) (r20.o) cw_X12_385 w_2268 w_53 (Nat.le_of_ble_eq_true rfl) rfl (Nat.le_of_ble_eq_true rfl) (tbd tv_X12_letter rfl) (fun v21w f21 q21 => ?_) (fun _ _ h => h.elim)
      obtain ⟨rfl, ⟨az21, sy21, r21⟩, fa21⟩ := q21
      refine G.eqs [.int (v21)] rfl ?_
      refine G.if_eq 42 (tbd tv_X12_letter rfl) (by decide) (fun c37 => ?_) (fun c37 => ?_)
      · replace hr := ite_t c37 hr
        refine G.less [(0, .ref (gAd E (56))), (1, .int (a0)), (3, .int (a2)), (4, .int (v20))] [0, 1, 3, 4] rfl ?_
        exact l_X12_letter_42 E f sz _ hE _ _ _ _ _ _ hr _ ⟨_, _, r21⟩ (((Fr.rf.tr fa19 (fun _ h => h)).tr fa20 (fun _ h => h)).tr fa21 (fun _ h => h))
      · replace hr := ite_f c37 hr
        refine G.go tv_X12_letter 1 41 [(0, .ref (gAd E (56))), (1, .int (a0)), (2, .int (a1)), (3, .int (a2)), (4, .int (v20))] [.int ((0 : Int32))] rfl ?_
        cases hr
        exact G.iret rfl rfl ⟨rfl, ⟨_, _, r21⟩, (((Fr.rf.tr fa19 (fun _ h => h)).tr fa20 (fun _ h => h)).tr fa21 (fun _ h => h))⟩ (tbd tv_X12_letter rfl)
    · replace hr := ite_f c21 hr
      refine G.go tv_X12_letter 1 25 [(0, .ref (gAd E (56))), (1, .int (a0)), (2, .int (a1)), (3, .int (a2)), (4, .int (v20))] [.int (a2), .ref (gAd E (56))] rfl ?_
      refine G.if_ge 32 (tbd tv_X12_letter rfl) (by decide) (fun c25 => ?_) (fun c25 => ?_)
      · replace hr := ite_t c25 hr
        refine G.go tv_X12_letter 2 34 [(0, .ref (gAd E (56))), (1, .int (a0)), (2, .int (a1)), (3, .int (a2)), (4, .int (v20))] [.int ((2 : Int32)), .int ((0 : Int32)), .ref (gAd E (56))] rfl ?_
        obtain ⟨v22, R22, hv22, hr⟩ := bnd2_s hr
        refine G.callV (56) [.int ((0 : Int32)), .int ((2 : Int32))] [] (k_X12_refuse E _ hE R19 ⟨_, _, r20⟩ ((0 : Int32)) ((2 : Int32)) v22 R22 hv22) cls_X12 (by omega) (r20.o) cw_X12_385 w_2268 w_53 (Nat.le_of_ble_eq_true rfl) rfl (Nat.le_of_ble_eq_true rfl) (tbd tv_X12_letter rfl) (fun v22w f22 q22 => ?_) (fun _ _ h => h.elim)
        obtain ⟨rfl, ⟨az22, sy22, r22⟩, fa22⟩ := q22
        refine G.eqs [.int (v22)] rfl ?_
        refine G.if_eq 42 (tbd tv_X12_letter rfl) (by decide) (fun c37 => ?_) (fun c37 => ?_)
        · replace hr := ite_t c37 hr
          refine G.less [(0, .ref (gAd E (56))), (1, .int (a0)), (3, .int (a2)), (4, .int (v20))] [0, 1, 3, 4] rfl ?_
          exact l_X12_letter_42 E f sz _ hE _ _ _ _ _ _ hr _ ⟨_, _, r22⟩ (((Fr.rf.tr fa19 (fun _ h => h)).tr fa20 (fun _ h => h)).tr fa22 (fun _ h => h))
        · replace hr := ite_f c37 hr
          refine G.go tv_X12_letter 1 41 [(0, .ref (gAd E (56))), (1, .int (a0)), (2, .int (a1)), (3, .int (a2)), (4, .int (v20))] [.int ((0 : Int32))] rfl ?_
          cases hr
          exact G.iret rfl rfl ⟨rfl, ⟨_, _, r22⟩, (((Fr.rf.tr fa19 (fun _ h => h)).tr fa20 (fun _ h => h)).tr fa22 (fun _ h => h))⟩ (tbd tv_X12_letter rfl)
      · replace hr := ite_f c25 hr
        refine G.go tv_X12_letter 3 34 [(0, .ref (gAd E (56))), (1, .int (a0)), (2, .int (a1)), (3, .int (a2)), (4, .int (v20))] [.int ((2 : Int32)), .int ((1 : Int32)), .ref (gAd E (56))] rfl ?_
        obtain ⟨v23, R23, hv23, hr⟩ := bnd2_s hr
        refine G.callV (56) [.int ((1 : Int32)), .int ((2 : Int32))] [] (k_X12_refuse E _ hE R19 ⟨_, _, r20⟩ ((1 : Int32)) ((2 : Int32)) v23 R23 hv23) cls_X12 (by omega) (r20.o) cw_X12_385 w_2268 w_53 (Nat.le_of_ble_eq_true rfl) rfl (Nat.le_of_ble_eq_true rfl) (tbd tv_X12_letter rfl) (fun v23w f23 q23 => ?_) (fun _ _ h => h.elim)
        obtain ⟨rfl, ⟨az23, sy23, r23⟩, fa23⟩ := q23
        refine G.eqs [.int (v23)] rfl ?_
        refine G.if_eq 42 (tbd tv_X12_letter rfl) (by decide) (fun c37 => ?_) (fun c37 => ?_)
        · replace hr := ite_t c37 hr
          refine G.less [(0, .ref (gAd E (56))), (1, .int (a0)), (3, .int (a2)), (4, .int (v20))] [0, 1, 3, 4] rfl ?_
          exact l_X12_letter_42 E f sz _ hE _ _ _ _ _ _ hr _ ⟨_, _, r23⟩ (((Fr.rf.tr fa19 (fun _ h => h)).tr fa20 (fun _ h => h)).tr fa23 (fun _ h => h))
        · replace hr := ite_f c37 hr
          refine G.go tv_X12_letter 1 41 [(0, .ref (gAd E (56))), (1, .int (a0)), (2, .int (a1)), (3, .int (a2)), (4, .int (v20))] [.int ((0 : Int32))] rfl ?_
          cases hr
          exact G.iret rfl rfl ⟨rfl, ⟨_, _, r23⟩, (((Fr.rf.tr fa19 (fun _ h => h)).tr fa20 (fun _ h => h)).tr fa23 (fun _ h => h))⟩ (tbd tv_X12_letter rfl)
  · replace hr := ite_f c4 hr
    refine G.go tv_X12_letter 1 8 [(0, .ref (gAd E (56))), (1, .int (a0)), (2, .int (a1)), (3, .int (a2))] [.int ((0 : Int32))] rfl ?_
    cases hr
    exact G.iret rfl rfl ⟨rfl, ⟨_, _, r19⟩, (Fr.rf.tr fa19 (fun _ h => h))⟩ (tbd tv_X12_letter rfl)
noncomputable def e_open_309  (R : RfT) (x1 : Int32) (x7 : Int32) (x8 : Int32) : Option (Int32 × RfT) := if (rS R 11) = 0 then bnd2 (e_committed R x8) (fun v45 R45 => some (v45, R45)) else stR R 53 32 x8 x7 (fun R46 => stR R46 54 32 x8 ((0 : Int32)) (fun R47 => stR R47 55 32 x8 ((x1) - (x1) / ((4 : Int32)) * ((4 : Int32))) (fun R48 => bnd2 (e_committed R48 x8) (fun v49 R49 => some (v49, R49)))))
noncomputable def e_open_196  (R : RfT) (x1 : Int32) (x4 : Int32) (x6 : Int32) (x7 : Int32) (x8 : Int32) : Option (Int32 × RfT) := if x8 = ((32 : Int32)) then some ((-9 : Int32), R) else if x7 ≤ 0 then bnd (e_freeInode R) (fun v36 => if v36 = 0 then some ((-8 : Int32), R) else bnd2 (e_hasNoRoom R x6) (fun v37 R37 => if v37 = 0 then bnd (e_setField R37 v36 ((0 : Int32)) ((1 : Int32)) ((1 : Int32))) (fun R38 => bnd (e_setField R38 v36 ((1 : Int32)) ((1 : Int32)) ((1 : Int32))) (fun R39 => bnd (e_setBit R39 ((44 : Int32)) ((v36) - ((1 : Int32))) ((1 : Int32))) (fun R40 => ld (rA R40 50) 32 ((x4) - ((1 : Int32))) (fun v41 => ld (rA R40 51) 32 ((x4) - ((1 : Int32))) (fun v42 => bnd (e_addName R40 x6 v41 v42 v36) (fun R43 => e_open_309  R43 x1 v36 x8)))))) else some ((-7 : Int32), R37))) else if ((x1) &&& ((8 : Int32))) = 0 then e_open_309  R x1 x7 x8 else bnd (e_resize R x7 ((0 : Int32))) (fun R44 => e_open_309  R44 x1 x7 x8)
noncomputable def e_open_173  : Nat → RfT → Int32 → Int32 → Int32 → Int32 → Int32 → Option (Int32 × RfT)
  | 0, _, _, _, _, _, _ => none
  | n + 1, R, x1, x4, x6, x7, x8 => if ((32 : Int32)) ≤ x8 then e_open_196  R x1 x4 x6 x7 x8 else ld (rA R 53) 32 x8 (fun v35 => if v35 = 0 then e_open_196  R x1 x4 x6 x7 x8 else e_open_173  n R x1 x4 x6 x7 (x8 + (1 : Int32)))
noncomputable def e_open_122  (R : RfT) (x1 : Int32) (x4 : Int32) (x5 : Int32) (x6 : Int32) : Option (Int32 × RfT) := if 0 ≤ x6 then bnd2 (e_walk R ((0 : Int32)) x4) (fun v32 R32 => if 0 ≤ v32 then if v32 ≤ 0 then e_open_173  fuL R32 x1 x4 x6 v32 ((0 : Int32)) else bnd (e_kind R32 v32) (fun v33 => if v33 = ((2 : Int32)) then some ((-4 : Int32), R32) else e_open_173  fuL R32 x1 x4 x6 v32 ((0 : Int32))) else if x5 = 0 then some (v32, R32) else if v32 ≤ 0 then e_open_173  fuL R32 x1 x4 x6 v32 ((0 : Int32)) else bnd (e_kind R32 v32) (fun v34 => if v34 = ((2 : Int32)) then some ((-4 : Int32), R32) else e_open_173  fuL R32 x1 x4 x6 v32 ((0 : Int32)))) else some (x6, R)
noncomputable def e_open_119  (R : RfT) (x1 : Int32) (x4 : Int32) (x5 : Int32) : Option (Int32 × RfT) := e_open_122  R x1 x4 x5 ((1 : Int32))
noncomputable def e_open_97  (R : RfT) (x1 : Int32) (x4 : Int32) (x5 : Int32) : Option (Int32 × RfT) := if x5 = 0 then e_open_119  R x1 x4 x5 else if x4 ≤ 0 then e_open_119  R x1 x4 x5 else bnd2 (e_walkAhead R ((0 : Int32)) ((x4) - ((1 : Int32)))) (fun v31 R31 => e_open_122  R31 x1 x4 x5 v31)
noncomputable def e_open_66  (R : RfT) (x1 : Int32) (x2 : Int32) : Option (Int32 × RfT) := bnd2 (e_path R ((0 : Int32)) x2 ((0 : Int32))) (fun v30 R30 => if v30 = ((-1 : Int32)) then some ((-6 : Int32), R30) else if ((x1) &&& ((4 : Int32))) = 0 then e_open_97  R30 x1 v30 ((0 : Int32)) else e_open_97  R30 x1 v30 ((1 : Int32)))
noncomputable def e_open_40  (R : RfT) (x1 : Int32) (x2 : Int32) (x3 : Int32) : Option (Int32 × RfT) := bnd2 (e_notMounted R) (fun v27 R27 => if v27 = 0 then if x3 = 0 then bnd2 (e_refuse R27 ((1 : Int32)) ((3 : Int32))) (fun v29 R29 => if v29 = 0 then e_open_66  R29 x1 x2 else some ((0 : Int32), R29)) else bnd2 (e_refuse R27 ((0 : Int32)) ((3 : Int32))) (fun v28 R28 => if v28 = 0 then e_open_66  R28 x1 x2 else some ((0 : Int32), R28)) else some ((0 : Int32), R27))
noncomputable def e_open_38  (R : RfT) (x1 : Int32) (x2 : Int32) : Option (Int32 × RfT) := e_open_40  R x1 x2 ((0 : Int32))
noncomputable def e_open_34  (R : RfT) (x1 : Int32) (x2 : Int32) : Option (Int32 × RfT) := e_open_40  R x1 x2 ((1 : Int32))
noncomputable def e_open  (R : RfT) (a0 : Int32) : Option (Int32 × RfT) := bnd2 (e_useTape R) (fun v26 R26 => if a0 < 0 then e_open_38  R26 a0 v26 else if ((16 : Int32)) ≤ a0 then e_open_38  R26 a0 v26 else if ((3 : Int32)) ≤ ((a0) - (a0) / ((4 : Int32)) * ((4 : Int32))) then e_open_38  R26 a0 v26 else if a0 < ((8 : Int32)) then e_open_34  R26 a0 v26 else if ((a0) - (a0) / ((4 : Int32)) * ((4 : Int32))) ≤ 0 then e_open_38  R26 a0 v26 else e_open_34  R26 a0 v26)
set_option maxRecDepth 100000 in
set_option maxHeartbeats 4000000 in
theorem l_X12_open_309 (E : gE) (f0 : Nat → va_E) (sz : Nat) (QA : Nat → Prop) (hE : 94 ≤ gN E) : ∀ (R : RfT) (x1 : Int32) (x7 : Int32) (x8 : Int32) (r : Int32) (R9 : RfT) (hr : e_open_309  R x1 x7 x8 = some (r, R9)) (f : Nat → va_E) (w : RW E f R) (hf : Fr RfK f0 f), G E (14, yX12_open, 9, (some .int), sz, QA) cX12_open (gO E (14, yX12_open, 9, (some .int), sz, QA) (fun v g => v = some (.int r) ∧ RW E g R9 ∧ Fr RfK f0 g, fun _ _ => False)) 309 [(0, .ref (gAd E (56))), (1, .int (x1)), (7, .int (x7)), (8, .int (x8))] [] f := by
  intro R x1 x7 x8 r R9 hr f w hf
  obtain ⟨az, sy, r0⟩ := w
  unfold e_open_309 at hr
  refine G.go tv_X12_open 1 310 [(0, .ref (gAd E (56))), (1, .int (x1)), (7, .int (x7)), (8, .int (x8))] [.ref (gAd E (56))] rfl ?_
  refine G.rg r0 hE 11 (.int (rS R 11)) (by decide) rfl (tbd tv_X12_open rfl) w_2076 ?_
  refine G.if_eq 343 (tbd tv_X12_open rfl) (by decide) (fun c313 => ?_) (fun c313 => ?_)
  · replace hr := ite_t c313 hr
    refine G.go tv_X12_open 2 346 [(0, .ref (gAd E (56))), (1, .int (x1)), (7, .int (x7)), (8, .int (x8))] [.int (x8), .ref (gAd E (56))] rfl ?_
    obtain ⟨v45, R45, hv45, hr⟩ := bnd2_s hr
    refine G.callV (56) [.int (x8)] [] (k_X12_committed E _ hE R ⟨_, _, r0⟩ x8 v45 R45 hv45) cls_X12 (by omega) (r0.o) cw_X12_436 w_2563 w_119 (Nat.le_of_ble_eq_true rfl) rfl (Nat.le_of_ble_eq_true rfl) (tbd tv_X12_open rfl) (fun v45w f45 q45 => ?_) (fun _ _ h => h.elim)
    obtain ⟨rfl, ⟨az45, sy45, r45⟩, fa45⟩ := q45
    refine G.eqs [.int (v45)] rfl ?_
    cases hr
    exact G.iret rfl rfl ⟨rfl, ⟨_, _, r45⟩, (hf.tr fa45 (fun _ h => h))⟩ (tbd tv_X12_open rfl)
  · replace hr := ite_f c313 hr
    refine G.go tv_X12_open 1 317 [(0, .ref (gAd E (56))), (1, .int (x1)), (7, .int (x7)), (8, .int (x8))] [.ref (gAd E (56))] rfl ?_
    refine G.rg r0 hE 53 (.ref (gAd E (87))) (by decide) rfl (tbd tv_X12_open rfl) w_2118 ?_
    refine G.go tv_X12_open 2 324 [(0, .ref (gAd E (56))), (1, .int (x1)), (7, .int (x7)), (8, .int (x8))] [.int (x7), .int (x8), .ref (gAd E (87))] rfl ?_
    obtain ⟨R46, b46, eR46, hr⟩ := stR_s hr
    refine G.iast (87) (by omega) (r0.a53) b46 (tbd tv_X12_open rfl) ?_
    refine G.gen (P := fun w9 => RfV E w9 (setSr (setS R46 42 az) sy) ∧ Fr RfK f0 w9) ⟨by rw [eR46]; exact r0.p53 _, Fr.up hf ⟨by decide, by decide⟩⟩ (fun u46 p46 => ?_)
    obtain ⟨r46, h46⟩ := p46
    refine G.go tv_X12_open 1 326 [(0, .ref (gAd E (56))), (1, .int (x1)), (7, .int (x7)), (8, .int (x8))] [.ref (gAd E (56))] rfl ?_
    refine G.rg r46 hE 54 (.ref (gAd E (88))) (by decide) rfl (tbd tv_X12_open rfl) w_2119 ?_
    refine G.go tv_X12_open 2 332 [(0, .ref (gAd E (56))), (1, .int (x1)), (7, .int (x7)), (8, .int (x8))] [.int ((0 : Int32)), .int (x8), .ref (gAd E (88))] rfl ?_
    obtain ⟨R47, b47, eR47, hr⟩ := stR_s hr
    refine G.iast (88) (by omega) (r46.a54) b47 (tbd tv_X12_open rfl) ?_
    refine G.gen (P := fun w9 => RfV E w9 (setSr (setS R47 42 az) sy) ∧ Fr RfK f0 w9) ⟨by rw [eR47]; exact r46.p54 _, Fr.up h46 ⟨by decide, by decide⟩⟩ (fun u47 p47 => ?_)
    obtain ⟨r47, h47⟩ := p47
    refine G.go tv_X12_open 1 334 [(0, .ref (gAd E (56))), (1, .int (x1)), (7, .int (x7)), (8, .int (x8))] [.ref (gAd E (56))] rfl ?_
    refine G.rg r47 hE 55 (.ref (gAd E (89))) (by decide) rfl (tbd tv_X12_open rfl) w_2120 ?_
    refine G.go tv_X12_open 3 341 [(0, .ref (gAd E (56))), (1, .int (x1)), (7, .int (x7)), (8, .int (x8))] [.int ((4 : Int32)), .int (x1), .int (x8), .ref (gAd E (89))] rfl ?_
    refine G.irem (by decide) (tbd tv_X12_open rfl) ?_
    obtain ⟨R48, b48, eR48, hr⟩ := stR_s hr
    refine G.iast (89) (by omega) (r47.a55) b48 (tbd tv_X12_open rfl) ?_
    refine G.gen (P := fun w9 => RfV E w9 (setSr (setS R48 42 az) sy) ∧ Fr RfK f0 w9) ⟨by rw [eR48]; exact r47.p55 _, Fr.up h47 ⟨by decide, by decide⟩⟩ (fun u48 p48 => ?_)
    obtain ⟨r48, h48⟩ := p48
    refine G.go tv_X12_open 2 346 [(0, .ref (gAd E (56))), (1, .int (x1)), (7, .int (x7)), (8, .int (x8))] [.int (x8), .ref (gAd E (56))] rfl ?_
    obtain ⟨v49, R49, hv49, hr⟩ := bnd2_s hr
    refine G.callV (56) [.int (x8)] [] (k_X12_committed E _ hE R48 ⟨_, _, r48⟩ x8 v49 R49 hv49) cls_X12 (by omega) (r48.o) cw_X12_436 w_2563 w_119 (Nat.le_of_ble_eq_true rfl) rfl (Nat.le_of_ble_eq_true rfl) (tbd tv_X12_open rfl) (fun v49w f49 q49 => ?_) (fun _ _ h => h.elim)
    obtain ⟨rfl, ⟨az49, sy49, r49⟩, fa49⟩ := q49
    refine G.eqs [.int (v49)] rfl ?_
    cases hr
    exact G.iret rfl rfl ⟨rfl, ⟨_, _, r49⟩, (h48.tr fa49 (fun _ h => h))⟩ (tbd tv_X12_open rfl)
set_option maxRecDepth 100000 in
set_option maxHeartbeats 4000000 in
theorem l_X12_open_196 (E : gE) (f0 : Nat → va_E) (sz : Nat) (QA : Nat → Prop) (hE : 94 ≤ gN E) : ∀ (R : RfT) (x1 : Int32) (x4 : Int32) (x6 : Int32) (x7 : Int32) (x8 : Int32) (r : Int32) (R9 : RfT) (hr : e_open_196  R x1 x4 x6 x7 x8 = some (r, R9)) (f : Nat → va_E) (w : RW E f R) (hf : Fr RfK f0 f), G E (14, yX12_open, 9, (some .int), sz, QA) cX12_open (gO E (14, yX12_open, 9, (some .int), sz, QA) (fun v g => v = some (.int r) ∧ RW E g R9 ∧ Fr RfK f0 g, fun _ _ => False)) 196 [(0, .ref (gAd E (56))), (1, .int (x1)), (4, .int (x4)), (6, .int (x6)), (7, .int (x7)), (8, .int (x8))] [] f := by
  intro R x1 x4 x6 x7 x8 r R9 hr f w hf
  obtain ⟨az, sy, r0⟩ := w
  unfold e_open_196 at hr
  refine G.go tv_X12_open 2 200 [(0, .ref (gAd E (56))), (1, .int (x1)), (4, .int (x4)), (6, .int (x6)), (7, .int (x7)), (8, .int (x8))] [.int ((32 : Int32)), .int (x8)] rfl ?_
  refine G.cmp_ne 206 (tbd tv_X12_open rfl) (by decide) (fun c200 => ?_) (fun c200 => ?_)
  · replace hr := ite_f c200 hr
    refine G.go tv_X12_open 1 208 [(0, .ref (gAd E (56))), (1, .int (x1)), (4, .int (x4)), (6, .int (x6)), (7, .int (x7)), (8, .int (x8))] [.int (x7)] rfl ?_
    refine G.if_le 228 (tbd tv_X12_open rfl) (by decide) (fun c208 => ?_) (fun c208 => ?_)
    · replace hr := ite_t c208 hr
      refine G.go tv_X12_open 1 229 [(0, .ref (gAd E (56))), (1, .int (x1)), (4, .int (x4)), (6, .int (x6)), (7, .int (x7)), (8, .int (x8))] [.ref (gAd E (56))] rfl ?_
      obtain ⟨v36, hv36, hr⟩ := bnd_s hr
      refine G.callV (56) [] [] (k_X12_freeInode E _ hE R ⟨_, _, r0⟩ v36 hv36) cls_X12 (by omega) (r0.o) cw_X12_427 w_2519 w_108 (Nat.le_of_ble_eq_true rfl) rfl (Nat.le_of_ble_eq_true rfl) (tbd tv_X12_open rfl) (fun v36w f36 q36 => ?_) (fun _ _ h => h.elim)
      obtain ⟨rfl, ⟨az36, sy36, r36⟩, fa36⟩ := q36
      refine G.eqs [.int (v36)] rfl ?_
      refine G.go tv_X12_open 2 236 [(0, .ref (gAd E (56))), (1, .int (x1)), (4, .int (x4)), (6, .int (x6)), (7, .int (v36)), (8, .int (x8))] [.int (v36)] rfl ?_
      refine G.if_ne 242 (tbd tv_X12_open rfl) (by decide) (fun c236 => ?_) (fun c236 => ?_)
      · replace hr := ite_f c236 hr
        refine G.go tv_X12_open 2 245 [(0, .ref (gAd E (56))), (1, .int (x1)), (4, .int (x4)), (6, .int (x6)), (7, .int (v36)), (8, .int (x8))] [.int (x6), .ref (gAd E (56))] rfl ?_
        obtain ⟨v37, R37, hv37, hr⟩ := bnd2_s hr
        refine G.callV (56) [.int (x6)] [] (k_X12_hasNoRoom E _ hE R ⟨_, _, r36⟩ x6 v37 R37 hv37) cls_X12 (by omega) (r36.o) cw_X12_430 w_2523 w_109 (Nat.le_of_ble_eq_true rfl) rfl (Nat.le_of_ble_eq_true rfl) (tbd tv_X12_open rfl) (fun v37w f37 q37 => ?_) (fun _ _ h => h.elim)
        obtain ⟨rfl, ⟨az37, sy37, r37⟩, fa37⟩ := q37
        refine G.eqs [.int (v37)] rfl ?_
        refine G.if_eq 254 (tbd tv_X12_open rfl) (by decide) (fun c248 => ?_) (fun c248 => ?_)
        · replace hr := ite_t c248 hr
          refine G.go tv_X12_open 5 260 [(0, .ref (gAd E (56))), (1, .int (x1)), (4, .int (x4)), (6, .int (x6)), (7, .int (v36)), (8, .int (x8))] [.int ((1 : Int32)), .int ((1 : Int32)), .int ((0 : Int32)), .int (v36), .ref (gAd E (56))] rfl ?_
          obtain ⟨R38, hv38, hr⟩ := bnd_s hr
          refine G.callV (56) [.int (v36), .int ((0 : Int32)), .int ((1 : Int32)), .int ((1 : Int32))] [] (k_X12_setField E _ hE R37 ⟨_, _, r37⟩ v36 ((0 : Int32)) ((1 : Int32)) ((1 : Int32)) R38 hv38) cls_X12 (by omega) (r37.o) cw_X12_332 w_2424 w_87 (Nat.le_of_ble_eq_true rfl) rfl (Nat.le_of_ble_eq_true rfl) (tbd tv_X12_open rfl) (fun v38w f38 q38 => ?_) (fun _ _ h => h.elim)
          obtain ⟨rfl, ⟨az38, sy38, r38⟩, fa38⟩ := q38
          refine G.eqs [] rfl ?_
          refine G.go tv_X12_open 5 269 [(0, .ref (gAd E (56))), (1, .int (x1)), (4, .int (x4)), (6, .int (x6)), (7, .int (v36)), (8, .int (x8))] [.int ((1 : Int32)), .int ((1 : Int32)), .int ((1 : Int32)), .int (v36), .ref (gAd E (56))] rfl ?_
          obtain ⟨R39, hv39, hr⟩ := bnd_s hr
          refine G.callV (56) [.int (v36), .int ((1 : Int32)), .int ((1 : Int32)), .int ((1 : Int32))] [] (k_X12_setField E _ hE R38 ⟨_, _, r38⟩ v36 ((1 : Int32)) ((1 : Int32)) ((1 : Int32)) R39 hv39) cls_X12 (by omega) (r38.o) cw_X12_332 w_2424 w_87 (Nat.le_of_ble_eq_true rfl) rfl (Nat.le_of_ble_eq_true rfl) (tbd tv_X12_open rfl) (fun v39w f39 q39 => ?_) (fun _ _ h => h.elim)
          obtain ⟨rfl, ⟨az39, sy39, r39⟩, fa39⟩ := q39
          refine G.eqs [] rfl ?_
          refine G.go tv_X12_open 6 280 [(0, .ref (gAd E (56))), (1, .int (x1)), (4, .int (x4)), (6, .int (x6)), (7, .int (v36)), (8, .int (x8))] [.int ((1 : Int32)), .int ((v36) - ((1 : Int32))), .int ((44 : Int32)), .ref (gAd E (56))] rfl ?_
          obtain ⟨R40, hv40, hr⟩ := bnd_s hr
          refine G.callV (56) [.int ((44 : Int32)), .int ((v36) - ((1 : Int32))), .int ((1 : Int32))] [] (k_X12_setBit E _ hE R39 ⟨_, _, r39⟩ ((44 : Int32)) ((v36) - ((1 : Int32))) ((1 : Int32)) R40 hv40) cls_X12 (by omega) (r39.o) cw_X12_313 w_2408 w_83 (Nat.le_of_ble_eq_true rfl) rfl (Nat.le_of_ble_eq_true rfl) (tbd tv_X12_open rfl) (fun v40w f40 q40 => ?_) (fun _ _ h => h.elim)
          obtain ⟨rfl, ⟨az40, sy40, r40⟩, fa40⟩ := q40
          refine G.eqs [] rfl ?_
          refine G.go tv_X12_open 3 287 [(0, .ref (gAd E (56))), (1, .int (x1)), (4, .int (x4)), (6, .int (x6)), (7, .int (v36)), (8, .int (x8))] [.ref (gAd E (56)), .int (x6), .ref (gAd E (56))] rfl ?_
          refine G.rg r40 hE 50 (.ref (gAd E (84))) (by decide) rfl (tbd tv_X12_open rfl) w_2115 ?_
          refine G.go tv_X12_open 3 294 [(0, .ref (gAd E (56))), (1, .int (x1)), (4, .int (x4)), (6, .int (x6)), (7, .int (v36)), (8, .int (x8))] [.int ((x4) - ((1 : Int32))), .ref (gAd E (84)), .int (x6), .ref (gAd E (56))] rfl ?_
          obtain ⟨v41, b41, e41, hr⟩ := ld_s hr
          refine G.ialdE (84) (by omega) (r40.a50) b41 e41 (tbd tv_X12_open rfl) ?_
          refine G.go tv_X12_open 1 296 [(0, .ref (gAd E (56))), (1, .int (x1)), (4, .int (x4)), (6, .int (x6)), (7, .int (v36)), (8, .int (x8))] [.ref (gAd E (56)), .int (v41), .int (x6), .ref (gAd E (56))] rfl ?_
          refine G.rg r40 hE 51 (.ref (gAd E (85))) (by decide) rfl (tbd tv_X12_open rfl) w_2116 ?_
          refine G.go tv_X12_open 3 303 [(0, .ref (gAd E (56))), (1, .int (x1)), (4, .int (x4)), (6, .int (x6)), (7, .int (v36)), (8, .int (x8))] [.int ((x4) - ((1 : Int32))), .ref (gAd E (85)), .int (v41), .int (x6), .ref (gAd E (56))] rfl ?_
          obtain ⟨v42, b42, e42, hr⟩ := ld_s hr
          refine G.ialdE (85) (by omega) (r40.a51) b42 e42 (tbd tv_X12_open rfl) ?_
          refine G.go tv_X12_open 1 306 [(0, .ref (gAd E (56))), (1, .int (x1)), (4, .int (x4)), (6, .int (x6)), (7, .int (v36)), (8, .int (x8))] [.int (v36), .int (v42), .int (v41), .int (x6), .ref (gAd E (56))] rfl ?_
          obtain ⟨R43, hv43, hr⟩ := bnd_s hr
          refine G.callV (56) [.int (x6), .int (v41), .int (v42), .int (v36)] [] (k_X12_addName E _ hE R40 ⟨_, _, r40⟩ x6 v41 v42 v36 R43 hv43) cls_X12 (by omega) (r40.o) cw_X12_433 w_2543 w_114 (Nat.le_of_ble_eq_true rfl) rfl (Nat.le_of_ble_eq_true rfl) (tbd tv_X12_open rfl) (fun v43w f43 q43 => ?_) (fun _ _ h => h.elim)
          obtain ⟨rfl, ⟨az43, sy43, r43⟩, fa43⟩ := q43
          refine G.eqs [] rfl ?_
          refine G.less [(0, .ref (gAd E (56))), (1, .int (x1)), (7, .int (v36)), (8, .int (x8))] [0, 1, 4, 5] rfl ?_
          exact l_X12_open_309 E f0 sz QA hE _ _ _ _ _ _ hr _ ⟨_, _, r43⟩ ((((((hf.tr fa36 (fun _ h => h)).tr fa37 (fun _ h => h)).tr fa38 (fun _ h => h)).tr fa39 (fun _ h => h)).tr fa40 (fun _ h => h)).tr fa43 (fun _ h => h))
        · replace hr := ite_f c248 hr
          refine G.go tv_X12_open 1 253 [(0, .ref (gAd E (56))), (1, .int (x1)), (4, .int (x4)), (6, .int (x6)), (7, .int (v36)), (8, .int (x8))] [.int ((-7 : Int32))] rfl ?_
          cases hr
          exact G.iret rfl rfl ⟨rfl, ⟨_, _, r37⟩, ((hf.tr fa36 (fun _ h => h)).tr fa37 (fun _ h => h))⟩ (tbd tv_X12_open rfl)
      · replace hr := ite_t c236 hr
        refine G.go tv_X12_open 1 241 [(0, .ref (gAd E (56))), (1, .int (x1)), (4, .int (x4)), (6, .int (x6)), (7, .int (v36)), (8, .int (x8))] [.int ((-8 : Int32))] rfl ?_
        cases hr
        exact G.iret rfl rfl ⟨rfl, ⟨_, _, r36⟩, (hf.tr fa36 (fun _ h => h))⟩ (tbd tv_X12_open rfl)
    · replace hr := ite_f c208 hr
      refine G.go tv_X12_open 3 215 [(0, .ref (gAd E (56))), (1, .int (x1)), (4, .int (x4)), (6, .int (x6)), (7, .int (x7)), (8, .int (x8))] [.int ((x1) &&& ((8 : Int32)))] rfl ?_
      refine G.if_eq 309 (tbd tv_X12_open rfl) (by decide) (fun c215 => ?_) (fun c215 => ?_)
      · replace hr := ite_t c215 hr
        refine G.less [(0, .ref (gAd E (56))), (1, .int (x1)), (7, .int (x7)), (8, .int (x8))] [0, 1, 4, 5] rfl ?_
        exact l_X12_open_309 E f0 sz QA hE _ _ _ _ _ _ hr _ ⟨_, _, r0⟩ hf
      · replace hr := ite_f c215 hr
        refine G.go tv_X12_open 3 222 [(0, .ref (gAd E (56))), (1, .int (x1)), (4, .int (x4)), (6, .int (x6)), (7, .int (x7)), (8, .int (x8))] [.int ((0 : Int32)), .int (x7), .ref (gAd E (56))] rfl ?_
        obtain ⟨R44, hv44, hr⟩ := bnd_s hr
        refine G.callV (56) [.int (x7), .int ((0 : Int32))] [] (k_X12_resize E _ hE R ⟨_, _, r0⟩ x7 ((0 : Int32)) R44 hv44) cls_X12 (by omega) (r0.o) cw_X12_484 w_2657 w_133 (Nat.le_of_ble_eq_true rfl) rfl (Nat.le_of_ble_eq_true rfl) (tbd tv_X12_open rfl) (fun v44w f44 q44 => ?_) (fun _ _ h => h.elim)
        obtain ⟨rfl, ⟨az44, sy44, r44⟩, fa44⟩ := q44
        refine G.eqs [] rfl ?_
        refine G.go tv_X12_open 1 309 [(0, .ref (gAd E (56))), (1, .int (x1)), (4, .int (x4)), (6, .int (x6)), (7, .int (x7)), (8, .int (x8))] [] rfl ?_
        refine G.less [(0, .ref (gAd E (56))), (1, .int (x1)), (7, .int (x7)), (8, .int (x8))] [0, 1, 4, 5] rfl ?_
        exact l_X12_open_309 E f0 sz QA hE _ _ _ _ _ _ hr _ ⟨_, _, r44⟩ (hf.tr fa44 (fun _ h => h))
  · replace hr := ite_t c200 hr
    refine G.go tv_X12_open 1 205 [(0, .ref (gAd E (56))), (1, .int (x1)), (4, .int (x4)), (6, .int (x6)), (7, .int (x7)), (8, .int (x8))] [.int ((-9 : Int32))] rfl ?_
    cases hr
    exact G.iret rfl rfl ⟨rfl, ⟨_, _, r0⟩, hf⟩ (tbd tv_X12_open rfl)
set_option maxRecDepth 100000 in
set_option maxHeartbeats 4000000 in
theorem l_X12_open_173 (E : gE) (f0 : Nat → va_E) (sz : Nat) (QA : Nat → Prop) (hE : 94 ≤ gN E) : ∀ (n : Nat), ∀ (R : RfT) (x1 : Int32) (x4 : Int32) (x6 : Int32) (x7 : Int32) (x8 : Int32) (r : Int32) (R9 : RfT) (hr : e_open_173  n R x1 x4 x6 x7 x8 = some (r, R9)) (f : Nat → va_E) (w : RW E f R) (hf : Fr RfK f0 f), G E (14, yX12_open, 9, (some .int), sz, QA) cX12_open (gO E (14, yX12_open, 9, (some .int), sz, QA) (fun v g => v = some (.int r) ∧ RW E g R9 ∧ Fr RfK f0 g, fun _ _ => False)) 173 [(0, .ref (gAd E (56))), (1, .int (x1)), (4, .int (x4)), (6, .int (x6)), (7, .int (x7)), (8, .int (x8))] [] f := by
  intro n
  induction n with
  | zero =>
    intro R x1 x4 x6 x7 x8 r R9 hr f w hf
    cases hr
  | succ n ih =>
    intro R x1 x4 x6 x7 x8 r R9 hr f w hf
    obtain ⟨az, sy, r0⟩ := w
    unfold e_open_173 at hr
    refine G.go tv_X12_open 2 177 [(0, .ref (gAd E (56))), (1, .int (x1)), (4, .int (x4)), (6, .int (x6)), (7, .int (x7)), (8, .int (x8))] [.int ((32 : Int32)), .int (x8)] rfl ?_
    refine G.cmp_ge 196 (tbd tv_X12_open rfl) (by decide) (fun c177 => ?_) (fun c177 => ?_)
    · replace hr := ite_t c177 hr
      refine G.less [(0, .ref (gAd E (56))), (1, .int (x1)), (4, .int (x4)), (6, .int (x6)), (7, .int (x7)), (8, .int (x8))] [0, 1, 2, 3, 4, 5] rfl ?_
      exact l_X12_open_196 E f0 sz QA hE _ _ _ _ _ _ _ _ hr _ ⟨_, _, r0⟩ hf
    · replace hr := ite_f c177 hr
      refine G.go tv_X12_open 1 181 [(0, .ref (gAd E (56))), (1, .int (x1)), (4, .int (x4)), (6, .int (x6)), (7, .int (x7)), (8, .int (x8))] [.ref (gAd E (56))] rfl ?_
      refine G.rg r0 hE 53 (.ref (gAd E (87))) (by decide) rfl (tbd tv_X12_open rfl) w_2118 ?_
      refine G.go tv_X12_open 1 186 [(0, .ref (gAd E (56))), (1, .int (x1)), (4, .int (x4)), (6, .int (x6)), (7, .int (x7)), (8, .int (x8))] [.int (x8), .ref (gAd E (87))] rfl ?_
      obtain ⟨v35, b35, e35, hr⟩ := ld_s hr
      refine G.ialdE (87) (by omega) (r0.a53) b35 e35 (tbd tv_X12_open rfl) ?_
      refine G.if_eq 196 (tbd tv_X12_open rfl) (by decide) (fun c187 => ?_) (fun c187 => ?_)
      · replace hr := ite_t c187 hr
        refine G.less [(0, .ref (gAd E (56))), (1, .int (x1)), (4, .int (x4)), (6, .int (x6)), (7, .int (x7)), (8, .int (x8))] [0, 1, 2, 3, 4, 5] rfl ?_
        exact l_X12_open_196 E f0 sz QA hE _ _ _ _ _ _ _ _ hr _ ⟨_, _, r0⟩ hf
      · replace hr := ite_f c187 hr
        refine G.go tv_X12_open 2 173 [(0, .ref (gAd E (56))), (1, .int (x1)), (4, .int (x4)), (6, .int (x6)), (7, .int (x7)), (8, .int (x8 + (1 : Int32)))] [] rfl ?_
        refine G.less [(0, .ref (gAd E (56))), (1, .int (x1)), (4, .int (x4)), (6, .int (x6)), (7, .int (x7)), (8, .int (x8 + (1 : Int32)))] [0, 1, 2, 3, 4, 5] rfl ?_
        exact ih _ _ _ _ _ _ _ _ hr _ ⟨_, _, r0⟩ hf
set_option maxRecDepth 100000 in
set_option maxHeartbeats 4000000 in
theorem l_X12_open_122 (E : gE) (f0 : Nat → va_E) (sz : Nat) (QA : Nat → Prop) (hE : 94 ≤ gN E) : ∀ (R : RfT) (x1 : Int32) (x4 : Int32) (x5 : Int32) (x6 : Int32) (r : Int32) (R9 : RfT) (hr : e_open_122  R x1 x4 x5 x6 = some (r, R9)) (f : Nat → va_E) (w : RW E f R) (hf : Fr RfK f0 f), G E (14, yX12_open, 9, (some .int), sz, QA) cX12_open (gO E (14, yX12_open, 9, (some .int), sz, QA) (fun v g => v = some (.int r) ∧ RW E g R9 ∧ Fr RfK f0 g, fun _ _ => False)) 122 [(0, .ref (gAd E (56))), (1, .int (x1)), (4, .int (x4)), (5, .int (x5)), (6, .int (x6))] [] f := by
  intro R x1 x4 x5 x6 r R9 hr f w hf
  obtain ⟨az, sy, r0⟩ := w
  unfold e_open_122 at hr
  refine G.go tv_X12_open 1 124 [(0, .ref (gAd E (56))), (1, .int (x1)), (4, .int (x4)), (5, .int (x5)), (6, .int (x6))] [.int (x6)] rfl ?_
  refine G.if_ge 130 (tbd tv_X12_open rfl) (by decide) (fun c124 => ?_) (fun c124 => ?_)
  · replace hr := ite_t c124 hr
    refine G.go tv_X12_open 3 134 [(0, .ref (gAd E (56))), (1, .int (x1)), (4, .int (x4)), (5, .int (x5)), (6, .int (x6))] [.int (x4), .int ((0 : Int32)), .ref (gAd E (56))] rfl ?_
    obtain ⟨v32, R32, hv32, hr⟩ := bnd2_s hr
    refine G.callV (56) [.int ((0 : Int32)), .int (x4)] [] (k_X12_walk E _ hE R ⟨_, _, r0⟩ ((0 : Int32)) x4 v32 R32 hv32) cls_X12 (by omega) (r0.o) cw_X12_364 w_2495 w_102 (Nat.le_of_ble_eq_true rfl) rfl (Nat.le_of_ble_eq_true rfl) (tbd tv_X12_open rfl) (fun v32w f32 q32 => ?_) (fun _ _ h => h.elim)
    obtain ⟨rfl, ⟨az32, sy32, r32⟩, fa32⟩ := q32
    refine G.eqs [.int (v32)] rfl ?_
    refine G.go tv_X12_open 2 141 [(0, .ref (gAd E (56))), (1, .int (x1)), (4, .int (x4)), (5, .int (x5)), (6, .int (x6)), (7, .int (v32))] [.int (v32)] rfl ?_
    refine G.if_ge 152 (tbd tv_X12_open rfl) (by decide) (fun c141 => ?_) (fun c141 => ?_)
    · replace hr := ite_t c141 hr
      refine G.go tv_X12_open 1 154 [(0, .ref (gAd E (56))), (1, .int (x1)), (4, .int (x4)), (5, .int (x5)), (6, .int (x6)), (7, .int (v32))] [.int (v32)] rfl ?_
      refine G.if_le 170 (tbd tv_X12_open rfl) (by decide) (fun c154 => ?_) (fun c154 => ?_)
      · replace hr := ite_t c154 hr
        refine G.go tv_X12_open 2 173 [(0, .ref (gAd E (56))), (1, .int (x1)), (4, .int (x4)), (5, .int (x5)), (6, .int (x6)), (7, .int (v32)), (8, .int ((0 : Int32)))] [] rfl ?_
        refine G.less [(0, .ref (gAd E (56))), (1, .int (x1)), (4, .int (x4)), (6, .int (x6)), (7, .int (v32)), (8, .int ((0 : Int32)))] [0, 1, 2, 4, 5, 6] rfl ?_
        exact l_X12_open_173 E f0 sz QA hE _ _ _ _ _ _ _ _ _ hr _ ⟨_, _, r32⟩ (hf.tr fa32 (fun _ h => h))
      · replace hr := ite_f c154 hr
        refine G.go tv_X12_open 2 160 [(0, .ref (gAd E (56))), (1, .int (x1)), (4, .int (x4)), (5, .int (x5)), (6, .int (x6)), (7, .int (v32))] [.int (v32), .ref (gAd E (56))] rfl ?_
        obtain ⟨v33, hv33, hr⟩ := bnd_s hr
        refine G.callV (56) [.int (v32)] [] (k_X12_kind E _ hE R32 ⟨_, _, r32⟩ v32 v33 hv33) cls_X12 (by omega) (r32.o) cw_X12_326 w_2369 w_74 (Nat.le_of_ble_eq_true rfl) rfl (Nat.le_of_ble_eq_true rfl) (tbd tv_X12_open rfl) (fun v33w f33 q33 => ?_) (fun _ _ h => h.elim)
        obtain ⟨rfl, ⟨az33, sy33, r33⟩, fa33⟩ := q33
        refine G.eqs [.int (v33)] rfl ?_
        refine G.go tv_X12_open 1 164 [(0, .ref (gAd E (56))), (1, .int (x1)), (4, .int (x4)), (5, .int (x5)), (6, .int (x6)), (7, .int (v32))] [.int ((2 : Int32)), .int (v33)] rfl ?_
        refine G.cmp_ne 170 (tbd tv_X12_open rfl) (by decide) (fun c164 => ?_) (fun c164 => ?_)
        · replace hr := ite_f c164 hr
          refine G.go tv_X12_open 2 173 [(0, .ref (gAd E (56))), (1, .int (x1)), (4, .int (x4)), (5, .int (x5)), (6, .int (x6)), (7, .int (v32)), (8, .int ((0 : Int32)))] [] rfl ?_
          refine G.less [(0, .ref (gAd E (56))), (1, .int (x1)), (4, .int (x4)), (6, .int (x6)), (7, .int (v32)), (8, .int ((0 : Int32)))] [0, 1, 2, 4, 5, 6] rfl ?_
          exact l_X12_open_173 E f0 sz QA hE _ _ _ _ _ _ _ _ _ hr _ ⟨_, _, r33⟩ ((hf.tr fa32 (fun _ h => h)).tr fa33 (fun _ h => h))
        · replace hr := ite_t c164 hr
          refine G.go tv_X12_open 1 169 [(0, .ref (gAd E (56))), (1, .int (x1)), (4, .int (x4)), (5, .int (x5)), (6, .int (x6)), (7, .int (v32))] [.int ((-4 : Int32))] rfl ?_
          cases hr
          exact G.iret rfl rfl ⟨rfl, ⟨_, _, r33⟩, ((hf.tr fa32 (fun _ h => h)).tr fa33 (fun _ h => h))⟩ (tbd tv_X12_open rfl)
    · replace hr := ite_f c141 hr
      refine G.go tv_X12_open 1 146 [(0, .ref (gAd E (56))), (1, .int (x1)), (4, .int (x4)), (5, .int (x5)), (6, .int (x6)), (7, .int (v32))] [.int (x5)] rfl ?_
      refine G.if_ne 152 (tbd tv_X12_open rfl) (by decide) (fun c146 => ?_) (fun c146 => ?_)
      · replace hr := ite_f c146 hr
        refine G.go tv_X12_open 1 154 [(0, .ref (gAd E (56))), (1, .int (x1)), (4, .int (x4)), (5, .int (x5)), (6, .int (x6)), (7, .int (v32))] [.int (v32)] rfl ?_
        refine G.if_le 170 (tbd tv_X12_open rfl) (by decide) (fun c154 => ?_) (fun c154 => ?_)
        · replace hr := ite_t c154 hr
          refine G.go tv_X12_open 2 173 [(0, .ref (gAd E (56))), (1, .int (x1)), (4, .int (x4)), (5, .int (x5)), (6, .int (x6)), (7, .int (v32)), (8, .int ((0 : Int32)))] [] rfl ?_
          refine G.less [(0, .ref (gAd E (56))), (1, .int (x1)), (4, .int (x4)), (6, .int (x6)), (7, .int (v32)), (8, .int ((0 : Int32)))] [0, 1, 2, 4, 5, 6] rfl ?_
          exact l_X12_open_173 E f0 sz QA hE _ _ _ _ _ _ _ _ _ hr _ ⟨_, _, r32⟩ (hf.tr fa32 (fun _ h => h))
        · replace hr := ite_f c154 hr
          refine G.go tv_X12_open 2 160 [(0, .ref (gAd E (56))), (1, .int (x1)), (4, .int (x4)), (5, .int (x5)), (6, .int (x6)), (7, .int (v32))] [.int (v32), .ref (gAd E (56))] rfl ?_
          obtain ⟨v34, hv34, hr⟩ := bnd_s hr
          refine G.callV (56) [.int (v32)] [] (k_X12_kind E _ hE R32 ⟨_, _, r32⟩ v32 v34 hv34) cls_X12 (by omega) (r32.o) cw_X12_326 w_2369 w_74 (Nat.le_of_ble_eq_true rfl) rfl (Nat.le_of_ble_eq_true rfl) (tbd tv_X12_open rfl) (fun v34w f34 q34 => ?_) (fun _ _ h => h.elim)
          obtain ⟨rfl, ⟨az34, sy34, r34⟩, fa34⟩ := q34
          refine G.eqs [.int (v34)] rfl ?_
          refine G.go tv_X12_open 1 164 [(0, .ref (gAd E (56))), (1, .int (x1)), (4, .int (x4)), (5, .int (x5)), (6, .int (x6)), (7, .int (v32))] [.int ((2 : Int32)), .int (v34)] rfl ?_
          refine G.cmp_ne 170 (tbd tv_X12_open rfl) (by decide) (fun c164 => ?_) (fun c164 => ?_)
          · replace hr := ite_f c164 hr
            refine G.go tv_X12_open 2 173 [(0, .ref (gAd E (56))), (1, .int (x1)), (4, .int (x4)), (5, .int (x5)), (6, .int (x6)), (7, .int (v32)), (8, .int ((0 : Int32)))] [] rfl ?_
            refine G.less [(0, .ref (gAd E (56))), (1, .int (x1)), (4, .int (x4)), (6, .int (x6)), (7, .int (v32)), (8, .int ((0 : Int32)))] [0, 1, 2, 4, 5, 6] rfl ?_
            exact l_X12_open_173 E f0 sz QA hE _ _ _ _ _ _ _ _ _ hr _ ⟨_, _, r34⟩ ((hf.tr fa32 (fun _ h => h)).tr fa34 (fun _ h => h))
          · replace hr := ite_t c164 hr
            refine G.go tv_X12_open 1 169 [(0, .ref (gAd E (56))), (1, .int (x1)), (4, .int (x4)), (5, .int (x5)), (6, .int (x6)), (7, .int (v32))] [.int ((-4 : Int32))] rfl ?_
            cases hr
            exact G.iret rfl rfl ⟨rfl, ⟨_, _, r34⟩, ((hf.tr fa32 (fun _ h => h)).tr fa34 (fun _ h => h))⟩ (tbd tv_X12_open rfl)
      · replace hr := ite_t c146 hr
        refine G.go tv_X12_open 1 151 [(0, .ref (gAd E (56))), (1, .int (x1)), (4, .int (x4)), (5, .int (x5)), (6, .int (x6)), (7, .int (v32))] [.int (v32)] rfl ?_
        cases hr
        exact G.iret rfl rfl ⟨rfl, ⟨_, _, r32⟩, (hf.tr fa32 (fun _ h => h))⟩ (tbd tv_X12_open rfl)
  · replace hr := ite_f c124 hr
    refine G.go tv_X12_open 1 129 [(0, .ref (gAd E (56))), (1, .int (x1)), (4, .int (x4)), (5, .int (x5)), (6, .int (x6))] [.int (x6)] rfl ?_
    cases hr
    exact G.iret rfl rfl ⟨rfl, ⟨_, _, r0⟩, hf⟩ (tbd tv_X12_open rfl)
set_option maxRecDepth 100000 in
set_option maxHeartbeats 4000000 in
theorem l_X12_open_119 (E : gE) (f0 : Nat → va_E) (sz : Nat) (QA : Nat → Prop) (hE : 94 ≤ gN E) : ∀ (R : RfT) (x1 : Int32) (x4 : Int32) (x5 : Int32) (r : Int32) (R9 : RfT) (hr : e_open_119  R x1 x4 x5 = some (r, R9)) (f : Nat → va_E) (w : RW E f R) (hf : Fr RfK f0 f), G E (14, yX12_open, 9, (some .int), sz, QA) cX12_open (gO E (14, yX12_open, 9, (some .int), sz, QA) (fun v g => v = some (.int r) ∧ RW E g R9 ∧ Fr RfK f0 g, fun _ _ => False)) 119 [(0, .ref (gAd E (56))), (1, .int (x1)), (4, .int (x4)), (5, .int (x5))] [] f := by
  intro R x1 x4 x5 r R9 hr f w hf
  obtain ⟨az, sy, r0⟩ := w
  unfold e_open_119 at hr
  refine G.go tv_X12_open 2 122 [(0, .ref (gAd E (56))), (1, .int (x1)), (4, .int (x4)), (5, .int (x5)), (6, .int ((1 : Int32)))] [] rfl ?_
  refine G.less [(0, .ref (gAd E (56))), (1, .int (x1)), (4, .int (x4)), (5, .int (x5)), (6, .int ((1 : Int32)))] [0, 1, 2, 3, 4] rfl ?_
  exact l_X12_open_122 E f0 sz QA hE _ _ _ _ _ _ _ hr _ ⟨_, _, r0⟩ hf
set_option maxRecDepth 100000 in
set_option maxHeartbeats 4000000 in
theorem l_X12_open_97 (E : gE) (f0 : Nat → va_E) (sz : Nat) (QA : Nat → Prop) (hE : 94 ≤ gN E) : ∀ (R : RfT) (x1 : Int32) (x4 : Int32) (x5 : Int32) (r : Int32) (R9 : RfT) (hr : e_open_97  R x1 x4 x5 = some (r, R9)) (f : Nat → va_E) (w : RW E f R) (hf : Fr RfK f0 f), G E (14, yX12_open, 9, (some .int), sz, QA) cX12_open (gO E (14, yX12_open, 9, (some .int), sz, QA) (fun v g => v = some (.int r) ∧ RW E g R9 ∧ Fr RfK f0 g, fun _ _ => False)) 97 [(0, .ref (gAd E (56))), (1, .int (x1)), (4, .int (x4)), (5, .int (x5))] [] f := by
  intro R x1 x4 x5 r R9 hr f w hf
  obtain ⟨az, sy, r0⟩ := w
  unfold e_open_97 at hr
  refine G.go tv_X12_open 1 99 [(0, .ref (gAd E (56))), (1, .int (x1)), (4, .int (x4)), (5, .int (x5))] [.int (x5)] rfl ?_
  refine G.if_eq 119 (tbd tv_X12_open rfl) (by decide) (fun c99 => ?_) (fun c99 => ?_)
  · replace hr := ite_t c99 hr
    refine G.less [(0, .ref (gAd E (56))), (1, .int (x1)), (4, .int (x4)), (5, .int (x5))] [0, 1, 2, 3] rfl ?_
    exact l_X12_open_119 E f0 sz QA hE _ _ _ _ _ _ hr _ ⟨_, _, r0⟩ hf
  · replace hr := ite_f c99 hr
    refine G.go tv_X12_open 1 104 [(0, .ref (gAd E (56))), (1, .int (x1)), (4, .int (x4)), (5, .int (x5))] [.int (x4)] rfl ?_
    refine G.if_le 119 (tbd tv_X12_open rfl) (by decide) (fun c104 => ?_) (fun c104 => ?_)
    · replace hr := ite_t c104 hr
      refine G.less [(0, .ref (gAd E (56))), (1, .int (x1)), (4, .int (x4)), (5, .int (x5))] [0, 1, 2, 3] rfl ?_
      exact l_X12_open_119 E f0 sz QA hE _ _ _ _ _ _ hr _ ⟨_, _, r0⟩ hf
    · replace hr := ite_f c104 hr
      refine G.go tv_X12_open 5 113 [(0, .ref (gAd E (56))), (1, .int (x1)), (4, .int (x4)), (5, .int (x5))] [.int ((x4) - ((1 : Int32))), .int ((0 : Int32)), .ref (gAd E (56))] rfl ?_
      obtain ⟨v31, R31, hv31, hr⟩ := bnd2_s hr
      refine G.callV (56) [.int ((0 : Int32)), .int ((x4) - ((1 : Int32)))] [] (k_X12_walkAhead E _ hE R ⟨_, _, r0⟩ ((0 : Int32)) ((x4) - ((1 : Int32))) v31 R31 hv31) cls_X12 (by omega) (r0.o) cw_X12_424 w_2491 w_101 (Nat.le_of_ble_eq_true rfl) rfl (Nat.le_of_ble_eq_true rfl) (tbd tv_X12_open rfl) (fun v31w f31 q31 => ?_) (fun _ _ h => h.elim)
      obtain ⟨rfl, ⟨az31, sy31, r31⟩, fa31⟩ := q31
      refine G.eqs [.int (v31)] rfl ?_
      refine G.go tv_X12_open 2 122 [(0, .ref (gAd E (56))), (1, .int (x1)), (4, .int (x4)), (5, .int (x5)), (6, .int (v31))] [] rfl ?_
      refine G.less [(0, .ref (gAd E (56))), (1, .int (x1)), (4, .int (x4)), (5, .int (x5)), (6, .int (v31))] [0, 1, 2, 3, 4] rfl ?_
      exact l_X12_open_122 E f0 sz QA hE _ _ _ _ _ _ _ hr _ ⟨_, _, r31⟩ (hf.tr fa31 (fun _ h => h))
set_option maxRecDepth 100000 in
set_option maxHeartbeats 4000000 in
theorem l_X12_open_66 (E : gE) (f0 : Nat → va_E) (sz : Nat) (QA : Nat → Prop) (hE : 94 ≤ gN E) : ∀ (R : RfT) (x1 : Int32) (x2 : Int32) (r : Int32) (R9 : RfT) (hr : e_open_66  R x1 x2 = some (r, R9)) (f : Nat → va_E) (w : RW E f R) (hf : Fr RfK f0 f), G E (14, yX12_open, 9, (some .int), sz, QA) cX12_open (gO E (14, yX12_open, 9, (some .int), sz, QA) (fun v g => v = some (.int r) ∧ RW E g R9 ∧ Fr RfK f0 g, fun _ _ => False)) 66 [(0, .ref (gAd E (56))), (1, .int (x1)), (2, .int (x2))] [] f := by
  intro R x1 x2 r R9 hr f w hf
  obtain ⟨az, sy, r0⟩ := w
  unfold e_open_66 at hr
  refine G.go tv_X12_open 4 70 [(0, .ref (gAd E (56))), (1, .int (x1)), (2, .int (x2))] [.int ((0 : Int32)), .int (x2), .int ((0 : Int32)), .ref (gAd E (56))] rfl ?_
  obtain ⟨v30, R30, hv30, hr⟩ := bnd2_s hr
  refine G.callV (56) [.int ((0 : Int32)), .int (x2), .int ((0 : Int32))] [] (k_X12_path E _ hE R ⟨_, _, r0⟩ ((0 : Int32)) x2 ((0 : Int32)) v30 R30 hv30) cls_X12 (by omega) (r0.o) cw_X12_421 w_2484 w_100 (Nat.le_of_ble_eq_true rfl) rfl (Nat.le_of_ble_eq_true rfl) (tbd tv_X12_open rfl) (fun v30w f30 q30 => ?_) (fun _ _ h => h.elim)
  obtain ⟨rfl, ⟨az30, sy30, r30⟩, fa30⟩ := q30
  refine G.eqs [.int (v30)] rfl ?_
  refine G.go tv_X12_open 3 78 [(0, .ref (gAd E (56))), (1, .int (x1)), (2, .int (x2)), (4, .int (v30))] [.int ((-1 : Int32)), .int (v30)] rfl ?_
  refine G.cmp_ne 84 (tbd tv_X12_open rfl) (by decide) (fun c78 => ?_) (fun c78 => ?_)
  · replace hr := ite_f c78 hr
    refine G.go tv_X12_open 3 87 [(0, .ref (gAd E (56))), (1, .int (x1)), (2, .int (x2)), (4, .int (v30))] [.int ((x1) &&& ((4 : Int32)))] rfl ?_
    refine G.if_eq 94 (tbd tv_X12_open rfl) (by decide) (fun c87 => ?_) (fun c87 => ?_)
    · replace hr := ite_t c87 hr
      refine G.go tv_X12_open 2 97 [(0, .ref (gAd E (56))), (1, .int (x1)), (2, .int (x2)), (4, .int (v30)), (5, .int ((0 : Int32)))] [] rfl ?_
      refine G.less [(0, .ref (gAd E (56))), (1, .int (x1)), (4, .int (v30)), (5, .int ((0 : Int32)))] [0, 1, 3, 4] rfl ?_
      exact l_X12_open_97 E f0 sz QA hE _ _ _ _ _ _ hr _ ⟨_, _, r30⟩ (hf.tr fa30 (fun _ h => h))
    · replace hr := ite_f c87 hr
      refine G.go tv_X12_open 3 97 [(0, .ref (gAd E (56))), (1, .int (x1)), (2, .int (x2)), (4, .int (v30)), (5, .int ((1 : Int32)))] [] rfl ?_
      refine G.less [(0, .ref (gAd E (56))), (1, .int (x1)), (4, .int (v30)), (5, .int ((1 : Int32)))] [0, 1, 3, 4] rfl ?_
      exact l_X12_open_97 E f0 sz QA hE _ _ _ _ _ _ hr _ ⟨_, _, r30⟩ (hf.tr fa30 (fun _ h => h))
  · replace hr := ite_t c78 hr
    refine G.go tv_X12_open 1 83 [(0, .ref (gAd E (56))), (1, .int (x1)), (2, .int (x2)), (4, .int (v30))] [.int ((-6 : Int32))] rfl ?_
    cases hr
    exact G.iret rfl rfl ⟨rfl, ⟨_, _, r30⟩, (hf.tr fa30 (fun _ h => h))⟩ (tbd tv_X12_open rfl)
set_option maxRecDepth 100000 in
set_option maxHeartbeats 4000000 in
theorem l_X12_open_40 (E : gE) (f0 : Nat → va_E) (sz : Nat) (QA : Nat → Prop) (hE : 94 ≤ gN E) : ∀ (R : RfT) (x1 : Int32) (x2 : Int32) (x3 : Int32) (r : Int32) (R9 : RfT) (hr : e_open_40  R x1 x2 x3 = some (r, R9)) (f : Nat → va_E) (w : RW E f R) (hf : Fr RfK f0 f), G E (14, yX12_open, 9, (some .int), sz, QA) cX12_open (gO E (14, yX12_open, 9, (some .int), sz, QA) (fun v g => v = some (.int r) ∧ RW E g R9 ∧ Fr RfK f0 g, fun _ _ => False)) 40 [(0, .ref (gAd E (56))), (1, .int (x1)), (2, .int (x2)), (3, .int (x3))] [] f := by
  intro R x1 x2 x3 r R9 hr f w hf
  obtain ⟨az, sy, r0⟩ := w
  unfold e_open_40 at hr
  refine G.go tv_X12_open 1 41 [(0, .ref (gAd E (56))), (1, .int (x1)), (2, .int (x2)), (3, .int (x3))] [.ref (gAd E (56))] rfl ?_
  obtain ⟨v27, R27, hv27, hr⟩ := bnd2_s hr
  refine G.callV (56) [] [] (k_X12_notMounted E _ hE R ⟨_, _, r0⟩ v27 R27 hv27) cls_X12 (by omega) (r0.o) cw_X12_403 w_2464 w_96 (Nat.le_of_ble_eq_true rfl) rfl (Nat.le_of_ble_eq_true rfl) (tbd tv_X12_open rfl) (fun v27w f27 q27 => ?_) (fun _ _ h => h.elim)
  obtain ⟨rfl, ⟨az27, sy27, r27⟩, fa27⟩ := q27
  refine G.eqs [.int (v27)] rfl ?_
  refine G.if_ne 64 (tbd tv_X12_open rfl) (by decide) (fun c44 => ?_) (fun c44 => ?_)
  · replace hr := ite_f c44 hr
    refine G.go tv_X12_open 1 65 [(0, .ref (gAd E (56))), (1, .int (x1)), (2, .int (x2)), (3, .int (x3))] [.int ((0 : Int32))] rfl ?_
    cases hr
    exact G.iret rfl rfl ⟨rfl, ⟨_, _, r27⟩, (hf.tr fa27 (fun _ h => h))⟩ (tbd tv_X12_open rfl)
  · replace hr := ite_t c44 hr
    refine G.go tv_X12_open 2 49 [(0, .ref (gAd E (56))), (1, .int (x1)), (2, .int (x2)), (3, .int (x3))] [.int (x3), .ref (gAd E (56))] rfl ?_
    refine G.if_ne 56 (tbd tv_X12_open rfl) (by decide) (fun c49 => ?_) (fun c49 => ?_)
    · replace hr := ite_f c49 hr
      refine G.go tv_X12_open 2 58 [(0, .ref (gAd E (56))), (1, .int (x1)), (2, .int (x2)), (3, .int (x3))] [.int ((3 : Int32)), .int ((0 : Int32)), .ref (gAd E (56))] rfl ?_
      obtain ⟨v28, R28, hv28, hr⟩ := bnd2_s hr
      refine G.callV (56) [.int ((0 : Int32)), .int ((3 : Int32))] [] (k_X12_refuse E _ hE R27 ⟨_, _, r27⟩ ((0 : Int32)) ((3 : Int32)) v28 R28 hv28) cls_X12 (by omega) (r27.o) cw_X12_385 w_2268 w_53 (Nat.le_of_ble_eq_true rfl) rfl (Nat.le_of_ble_eq_true rfl) (tbd tv_X12_open rfl) (fun v28w f28 q28 => ?_) (fun _ _ h => h.elim)
      obtain ⟨rfl, ⟨az28, sy28, r28⟩, fa28⟩ := q28
      refine G.eqs [.int (v28)] rfl ?_
      refine G.if_eq 66 (tbd tv_X12_open rfl) (by decide) (fun c61 => ?_) (fun c61 => ?_)
      · replace hr := ite_t c61 hr
        refine G.less [(0, .ref (gAd E (56))), (1, .int (x1)), (2, .int (x2))] [0, 1, 2] rfl ?_
        exact l_X12_open_66 E f0 sz QA hE _ _ _ _ _ hr _ ⟨_, _, r28⟩ ((hf.tr fa27 (fun _ h => h)).tr fa28 (fun _ h => h))
      · replace hr := ite_f c61 hr
        refine G.go tv_X12_open 1 65 [(0, .ref (gAd E (56))), (1, .int (x1)), (2, .int (x2)), (3, .int (x3))] [.int ((0 : Int32))] rfl ?_
        cases hr
        exact G.iret rfl rfl ⟨rfl, ⟨_, _, r28⟩, ((hf.tr fa27 (fun _ h => h)).tr fa28 (fun _ h => h))⟩ (tbd tv_X12_open rfl)
    · replace hr := ite_t c49 hr
      refine G.go tv_X12_open 3 58 [(0, .ref (gAd E (56))), (1, .int (x1)), (2, .int (x2)), (3, .int (x3))] [.int ((3 : Int32)), .int ((1 : Int32)), .ref (gAd E (56))] rfl ?_
      obtain ⟨v29, R29, hv29, hr⟩ := bnd2_s hr
      refine G.callV (56) [.int ((1 : Int32)), .int ((3 : Int32))] [] (k_X12_refuse E _ hE R27 ⟨_, _, r27⟩ ((1 : Int32)) ((3 : Int32)) v29 R29 hv29) cls_X12 (by omega) (r27.o) cw_X12_385 w_2268 w_53 (Nat.le_of_ble_eq_true rfl) rfl (Nat.le_of_ble_eq_true rfl) (tbd tv_X12_open rfl) (fun v29w f29 q29 => ?_) (fun _ _ h => h.elim)
      obtain ⟨rfl, ⟨az29, sy29, r29⟩, fa29⟩ := q29
      refine G.eqs [.int (v29)] rfl ?_
      refine G.if_eq 66 (tbd tv_X12_open rfl) (by decide) (fun c61 => ?_) (fun c61 => ?_)
      · replace hr := ite_t c61 hr
        refine G.less [(0, .ref (gAd E (56))), (1, .int (x1)), (2, .int (x2))] [0, 1, 2] rfl ?_
        exact l_X12_open_66 E f0 sz QA hE _ _ _ _ _ hr _ ⟨_, _, r29⟩ ((hf.tr fa27 (fun _ h => h)).tr fa29 (fun _ h => h))
      · replace hr := ite_f c61 hr
        refine G.go tv_X12_open 1 65 [(0, .ref (gAd E (56))), (1, .int (x1)), (2, .int (x2)), (3, .int (x3))] [.int ((0 : Int32))] rfl ?_
        cases hr
        exact G.iret rfl rfl ⟨rfl, ⟨_, _, r29⟩, ((hf.tr fa27 (fun _ h => h)).tr fa29 (fun _ h => h))⟩ (tbd tv_X12_open rfl)
set_option maxRecDepth 100000 in
set_option maxHeartbeats 4000000 in
theorem l_X12_open_38 (E : gE) (f0 : Nat → va_E) (sz : Nat) (QA : Nat → Prop) (hE : 94 ≤ gN E) : ∀ (R : RfT) (x1 : Int32) (x2 : Int32) (r : Int32) (R9 : RfT) (hr : e_open_38  R x1 x2 = some (r, R9)) (f : Nat → va_E) (w : RW E f R) (hf : Fr RfK f0 f), G E (14, yX12_open, 9, (some .int), sz, QA) cX12_open (gO E (14, yX12_open, 9, (some .int), sz, QA) (fun v g => v = some (.int r) ∧ RW E g R9 ∧ Fr RfK f0 g, fun _ _ => False)) 38 [(0, .ref (gAd E (56))), (1, .int (x1)), (2, .int (x2))] [] f := by
  intro R x1 x2 r R9 hr f w hf
  obtain ⟨az, sy, r0⟩ := w
  unfold e_open_38 at hr
  refine G.go tv_X12_open 2 40 [(0, .ref (gAd E (56))), (1, .int (x1)), (2, .int (x2)), (3, .int ((0 : Int32)))] [] rfl ?_
  refine G.less [(0, .ref (gAd E (56))), (1, .int (x1)), (2, .int (x2)), (3, .int ((0 : Int32)))] [0, 1, 2, 3] rfl ?_
  exact l_X12_open_40 E f0 sz QA hE _ _ _ _ _ _ hr _ ⟨_, _, r0⟩ hf
set_option maxRecDepth 100000 in
set_option maxHeartbeats 4000000 in
theorem l_X12_open_34 (E : gE) (f0 : Nat → va_E) (sz : Nat) (QA : Nat → Prop) (hE : 94 ≤ gN E) : ∀ (R : RfT) (x1 : Int32) (x2 : Int32) (r : Int32) (R9 : RfT) (hr : e_open_34  R x1 x2 = some (r, R9)) (f : Nat → va_E) (w : RW E f R) (hf : Fr RfK f0 f), G E (14, yX12_open, 9, (some .int), sz, QA) cX12_open (gO E (14, yX12_open, 9, (some .int), sz, QA) (fun v g => v = some (.int r) ∧ RW E g R9 ∧ Fr RfK f0 g, fun _ _ => False)) 34 [(0, .ref (gAd E (56))), (1, .int (x1)), (2, .int (x2))] [] f := by
  intro R x1 x2 r R9 hr f w hf
  obtain ⟨az, sy, r0⟩ := w
  unfold e_open_34 at hr
  refine G.go tv_X12_open 3 40 [(0, .ref (gAd E (56))), (1, .int (x1)), (2, .int (x2)), (3, .int ((1 : Int32)))] [] rfl ?_
  refine G.less [(0, .ref (gAd E (56))), (1, .int (x1)), (2, .int (x2)), (3, .int ((1 : Int32)))] [0, 1, 2, 3] rfl ?_
  exact l_X12_open_40 E f0 sz QA hE _ _ _ _ _ _ hr _ ⟨_, _, r0⟩ hf
set_option maxRecDepth 100000 in
set_option maxHeartbeats 4000000 in
theorem k_X12_open (E : gE) (f : Nat → va_E) (hE : 94 ≤ gN E) (R : RfT) (w : RW E f R) (a0 : Int32) (r : Int32) (R9 : RfT) (hr : e_open R a0 = some (r, R9)) : Ct E 14 yX12_open cX12_open 9 (some .int) [.ref (gAd E (56)), .int (a0)] f (fun v g => v = some (.int r) ∧ RW E g R9 ∧ Fr RfK f g, fun _ _ => False) := by
  obtain ⟨az, sy, r0⟩ := w
  refine Ct.of (by decide) (Nat.le_of_ble_eq_true rfl) (fun sz => ?_)
  refine G.eql [(0, .ref (gAd E (56))), (1, .int (a0))] rfl ?_
  unfold e_open at hr
  refine G.go tv_X12_open 1 1 [(0, .ref (gAd E (56))), (1, .int (a0))] [.ref (gAd E (56))] rfl ?_
  obtain ⟨v26, R26, hv26, hr⟩ := bnd2_s hr
  refine G.callV (56) [] [] (k_X12_useTape E _ hE R ⟨_, _, r0⟩ v26 R26 hv26) cls_X12 (by omega) (r0.o) cw_X12_418 w_2480 w_99 (Nat.le_of_ble_eq_true rfl) rfl (Nat.le_of_ble_eq_true rfl) (tbd tv_X12_open rfl) (fun v26w f26 q26 => ?_) (fun _ _ h => h.elim)
  obtain ⟨rfl, ⟨az26, sy26, r26⟩, fa26⟩ := q26
  refine G.eqs [.int (v26)] rfl ?_
  refine G.go tv_X12_open 2 6 [(0, .ref (gAd E (56))), (1, .int (a0)), (2, .int (v26))] [.int (a0)] rfl ?_
  refine G.if_lt 38 (tbd tv_X12_open rfl) (by decide) (fun c6 => ?_) (fun c6 => ?_)
  · replace hr := ite_t c6 hr
    refine G.less [(0, .ref (gAd E (56))), (1, .int (a0)), (2, .int (v26))] [0, 1, 2] rfl ?_
    exact l_X12_open_38 E f sz _ hE _ _ _ _ _ hr _ ⟨_, _, r26⟩ (Fr.rf.tr fa26 (fun _ h => h))
  · replace hr := ite_f c6 hr
    refine G.go tv_X12_open 2 12 [(0, .ref (gAd E (56))), (1, .int (a0)), (2, .int (v26))] [.int ((16 : Int32)), .int (a0)] rfl ?_
    refine G.cmp_ge 38 (tbd tv_X12_open rfl) (by decide) (fun c12 => ?_) (fun c12 => ?_)
    · replace hr := ite_t c12 hr
      refine G.less [(0, .ref (gAd E (56))), (1, .int (a0)), (2, .int (v26))] [0, 1, 2] rfl ?_
      exact l_X12_open_38 E f sz _ hE _ _ _ _ _ hr _ ⟨_, _, r26⟩ (Fr.rf.tr fa26 (fun _ h => h))
    · replace hr := ite_f c12 hr
      refine G.go tv_X12_open 2 17 [(0, .ref (gAd E (56))), (1, .int (a0)), (2, .int (v26))] [.int ((4 : Int32)), .int (a0)] rfl ?_
      refine G.irem (by decide) (tbd tv_X12_open rfl) ?_
      refine G.go tv_X12_open 1 19 [(0, .ref (gAd E (56))), (1, .int (a0)), (2, .int (v26))] [.int ((3 : Int32)), .int ((a0) - (a0) / ((4 : Int32)) * ((4 : Int32)))] rfl ?_
      refine G.cmp_ge 38 (tbd tv_X12_open rfl) (by decide) (fun c19 => ?_) (fun c19 => ?_)
      · replace hr := ite_t c19 hr
        refine G.less [(0, .ref (gAd E (56))), (1, .int (a0)), (2, .int (v26))] [0, 1, 2] rfl ?_
        exact l_X12_open_38 E f sz _ hE _ _ _ _ _ hr _ ⟨_, _, r26⟩ (Fr.rf.tr fa26 (fun _ h => h))
      · replace hr := ite_f c19 hr
        refine G.go tv_X12_open 2 25 [(0, .ref (gAd E (56))), (1, .int (a0)), (2, .int (v26))] [.int ((8 : Int32)), .int (a0)] rfl ?_
        refine G.cmp_lt 34 (tbd tv_X12_open rfl) (by decide) (fun c25 => ?_) (fun c25 => ?_)
        · replace hr := ite_t c25 hr
          refine G.less [(0, .ref (gAd E (56))), (1, .int (a0)), (2, .int (v26))] [0, 1, 2] rfl ?_
          exact l_X12_open_34 E f sz _ hE _ _ _ _ _ hr _ ⟨_, _, r26⟩ (Fr.rf.tr fa26 (fun _ h => h))
        · replace hr := ite_f c25 hr
          refine G.go tv_X12_open 2 30 [(0, .ref (gAd E (56))), (1, .int (a0)), (2, .int (v26))] [.int ((4 : Int32)), .int (a0)] rfl ?_
          refine G.irem (by decide) (tbd tv_X12_open rfl) ?_
          refine G.if_le 38 (tbd tv_X12_open rfl) (by decide) (fun c31 => ?_) (fun c31 => ?_)
          · replace hr := ite_t c31 hr
            refine G.less [(0, .ref (gAd E (56))), (1, .int (a0)), (2, .int (v26))] [0, 1, 2] rfl ?_
            exact l_X12_open_38 E f sz _ hE _ _ _ _ _ hr _ ⟨_, _, r26⟩ (Fr.rf.tr fa26 (fun _ h => h))
          · replace hr := ite_f c31 hr
            refine G.less [(0, .ref (gAd E (56))), (1, .int (a0)), (2, .int (v26))] [0, 1, 2] rfl ?_
            exact l_X12_open_34 E f sz _ hE _ _ _ _ _ hr _ ⟨_, _, r26⟩ (Fr.rf.tr fa26 (fun _ h => h))
theorem w_2723 : Cond.methodLink "LedgerFilesModel" 502 yX12_isHandle ∈ TB := tp_11 177 (by decide +kernel) rfl
theorem w_2726 : Cond.code yX12_isHandle prog_14_method_120_code 2 (some .boolean) ∈ TB := tp_11 180 rfl rfl
theorem cw_X12_502 : Cw RX12 502 yX12_isHandle cX12_isHandle 2 (some .boolean) 1 := ⟨w_2723, w_2726, w_161, by decide +kernel, by decide +kernel, by decide⟩
theorem w_2725 : Cond.instanceMethod yX12_isHandle ∈ TB := tp_11 179 (by decide +kernel) rfl
theorem w_139 : Cond.selects "LedgerFilesModel" yX12_isHandle yX12_isHandle ∈ TB := tp_0 139 (by decide +kernel) rfl
noncomputable def e_close  (R : RfT) (a0 : Int32) : Option (Int32 × RfT) := bnd2 (e_notMounted R) (fun v50 R50 => if v50 = 0 then bnd (e_isHandle R50 a0) (fun v51 => if v51 = 0 then some ((-13 : Int32), R50) else ld (rA R50 53) 32 a0 (fun v52 => stR R50 53 32 a0 ((0 : Int32)) (fun R53 => bnd (e_isLost R53 v52) (fun v54 => if v54 = 0 then bnd2 (e_committed R53 ((0 : Int32))) (fun v55 R55 => some (v55, R55)) else bnd (e_isHeld R53 v52) (fun v56 => if v56 = 0 then bnd (e_removeInode R53 v52) (fun R58 => bnd2 (e_committed R58 ((0 : Int32))) (fun v59 R59 => some (v59, R59))) else bnd2 (e_committed R53 ((0 : Int32))) (fun v57 R57 => some (v57, R57))))))) else some ((0 : Int32), R50))
set_option maxRecDepth 100000 in
set_option maxHeartbeats 4000000 in
theorem k_X12_close (E : gE) (f : Nat → va_E) (hE : 94 ≤ gN E) (R : RfT) (w : RW E f R) (a0 : Int32) (r : Int32) (R9 : RfT) (hr : e_close R a0 = some (r, R9)) : Ct E 12 yX12_close cX12_close 3 (some .int) [.ref (gAd E (56)), .int (a0)] f (fun v g => v = some (.int r) ∧ RW E g R9 ∧ Fr RfK f g, fun _ _ => False) := by
  obtain ⟨az, sy, r0⟩ := w
  refine Ct.of (by decide) (Nat.le_of_ble_eq_true rfl) (fun sz => ?_)
  refine G.eql [(0, .ref (gAd E (56))), (1, .int (a0))] rfl ?_
  unfold e_close at hr
  refine G.go tv_X12_close 1 1 [(0, .ref (gAd E (56))), (1, .int (a0))] [.ref (gAd E (56))] rfl ?_
  obtain ⟨v50, R50, hv50, hr⟩ := bnd2_s hr
  refine G.callV (56) [] [] (k_X12_notMounted E _ hE R ⟨_, _, r0⟩ v50 R50 hv50) cls_X12 (by omega) (r0.o) cw_X12_403 w_2464 w_96 (Nat.le_of_ble_eq_true rfl) rfl (Nat.le_of_ble_eq_true rfl) (tbd tv_X12_close rfl) (fun v50w f50 q50 => ?_) (fun _ _ h => h.elim)
  obtain ⟨rfl, ⟨az50, sy50, r50⟩, fa50⟩ := q50
  refine G.eqs [.int (v50)] rfl ?_
  refine G.if_eq 9 (tbd tv_X12_close rfl) (by decide) (fun c4 => ?_) (fun c4 => ?_)
  · replace hr := ite_t c4 hr
    refine G.go tv_X12_close 2 11 [(0, .ref (gAd E (56))), (1, .int (a0))] [.int (a0), .ref (gAd E (56))] rfl ?_
    obtain ⟨v51, hv51, hr⟩ := bnd_s hr
    refine G.callV (56) [.int (a0)] [] (k_X12_isHandle E _ hE R50 ⟨_, _, r50⟩ a0 v51 hv51) cls_X12 (by omega) (r50.o) cw_X12_502 w_2725 w_139 (Nat.le_of_ble_eq_true rfl) rfl (Nat.le_of_ble_eq_true rfl) (tbd tv_X12_close rfl) (fun v51w f51 q51 => ?_) (fun _ _ h => h.elim)
    obtain ⟨rfl, ⟨az51, sy51, r51⟩, fa51⟩ := q51
    refine G.eqs [.int (v51)] rfl ?_
    refine G.if_ne 20 (tbd tv_X12_close rfl) (by decide) (fun c14 => ?_) (fun c14 => ?_)
    · replace hr := ite_f c14 hr
      refine G.go tv_X12_close 1 21 [(0, .ref (gAd E (56))), (1, .int (a0))] [.ref (gAd E (56))] rfl ?_
      refine G.rg r51 hE 53 (.ref (gAd E (87))) (by decide) rfl (tbd tv_X12_close rfl) w_2118 ?_
      refine G.go tv_X12_close 1 25 [(0, .ref (gAd E (56))), (1, .int (a0))] [.int (a0), .ref (gAd E (87))] rfl ?_
      obtain ⟨v52, b52, e52, hr⟩ := ld_s hr
      refine G.ialdE (87) (by omega) (r51.a53) b52 e52 (tbd tv_X12_close rfl) ?_
      refine G.go tv_X12_close 2 28 [(0, .ref (gAd E (56))), (1, .int (a0)), (2, .int (v52))] [.ref (gAd E (56))] rfl ?_
      refine G.rg r51 hE 53 (.ref (gAd E (87))) (by decide) rfl (tbd tv_X12_close rfl) w_2118 ?_
      refine G.go tv_X12_close 2 33 [(0, .ref (gAd E (56))), (1, .int (a0)), (2, .int (v52))] [.int ((0 : Int32)), .int (a0), .ref (gAd E (87))] rfl ?_
      obtain ⟨R53, b53, eR53, hr⟩ := stR_s hr
      refine G.iast (87) (by omega) (r51.a53) b53 (tbd tv_X12_close rfl) ?_
      refine G.gen (P := fun w9 => RfV E w9 (setSr (setS R53 42 az51) sy51) ∧ Fr RfK f w9) ⟨by rw [eR53]; exact r51.p53 _, Fr.up ((Fr.rf.tr fa50 (fun _ h => h)).tr fa51 (fun _ h => h)) ⟨by decide, by decide⟩⟩ (fun u53 p53 => ?_)
      obtain ⟨r53, h53⟩ := p53
      refine G.go tv_X12_close 2 36 [(0, .ref (gAd E (56))), (1, .int (a0)), (2, .int (v52))] [.int (v52), .ref (gAd E (56))] rfl ?_
      obtain ⟨v54, hv54, hr⟩ := bnd_s hr
      refine G.callV (56) [.int (v52)] [] (k_X12_isLost E _ hE R53 ⟨_, _, r53⟩ v52 v54 hv54) cls_X12 (by omega) (r53.o) cw_X12_370 w_2365 w_73 (Nat.le_of_ble_eq_true rfl) rfl (Nat.le_of_ble_eq_true rfl) (tbd tv_X12_close rfl) (fun v54w f54 q54 => ?_) (fun _ _ h => h.elim)
      obtain ⟨rfl, ⟨az54, sy54, r54⟩, fa54⟩ := q54
      refine G.eqs [.int (v54)] rfl ?_
      refine G.if_eq 55 (tbd tv_X12_close rfl) (by decide) (fun c39 => ?_) (fun c39 => ?_)
      · replace hr := ite_t c39 hr
        refine G.go tv_X12_close 2 57 [(0, .ref (gAd E (56))), (1, .int (a0)), (2, .int (v52))] [.int ((0 : Int32)), .ref (gAd E (56))] rfl ?_
        obtain ⟨v55, R55, hv55, hr⟩ := bnd2_s hr
        refine G.callV (56) [.int ((0 : Int32))] [] (k_X12_committed E _ hE R53 ⟨_, _, r54⟩ ((0 : Int32)) v55 R55 hv55) cls_X12 (by omega) (r54.o) cw_X12_436 w_2563 w_119 (Nat.le_of_ble_eq_true rfl) rfl (Nat.le_of_ble_eq_true rfl) (tbd tv_X12_close rfl) (fun v55w f55 q55 => ?_) (fun _ _ h => h.elim)
        obtain ⟨rfl, ⟨az55, sy55, r55⟩, fa55⟩ := q55
        refine G.eqs [.int (v55)] rfl ?_
        cases hr
        exact G.iret rfl rfl ⟨rfl, ⟨_, _, r55⟩, ((h53.tr fa54 (fun _ h => h)).tr fa55 (fun _ h => h))⟩ (tbd tv_X12_close rfl)
      · replace hr := ite_f c39 hr
        refine G.go tv_X12_close 2 44 [(0, .ref (gAd E (56))), (1, .int (a0)), (2, .int (v52))] [.int (v52), .ref (gAd E (56))] rfl ?_
        obtain ⟨v56, hv56, hr⟩ := bnd_s hr
        refine G.callV (56) [.int (v52)] [] (k_X12_isHeld E _ hE R53 ⟨_, _, r54⟩ v52 v56 hv56) cls_X12 (by omega) (r54.o) cw_X12_373 w_2388 w_78 (Nat.le_of_ble_eq_true rfl) rfl (Nat.le_of_ble_eq_true rfl) (tbd tv_X12_close rfl) (fun v56w f56 q56 => ?_) (fun _ _ h => h.elim)
        obtain ⟨rfl, ⟨az56, sy56, r56⟩, fa56⟩ := q56
        refine G.eqs [.int (v56)] rfl ?_
        refine G.if_ne 55 (tbd tv_X12_close rfl) (by decide) (fun c47 => ?_) (fun c47 => ?_)
        · replace hr := ite_f c47 hr
          refine G.go tv_X12_close 2 57 [(0, .ref (gAd E (56))), (1, .int (a0)), (2, .int (v52))] [.int ((0 : Int32)), .ref (gAd E (56))] rfl ?_
          obtain ⟨v57, R57, hv57, hr⟩ := bnd2_s hr
          refine G.callV (56) [.int ((0 : Int32))] [] (k_X12_committed E _ hE R53 ⟨_, _, r56⟩ ((0 : Int32)) v57 R57 hv57) cls_X12 (by omega) (r56.o) cw_X12_436 w_2563 w_119 (Nat.le_of_ble_eq_true rfl) rfl (Nat.le_of_ble_eq_true rfl) (tbd tv_X12_close rfl) (fun v57w f57 q57 => ?_) (fun _ _ h => h.elim)
          obtain ⟨rfl, ⟨az57, sy57, r57⟩, fa57⟩ := q57
          refine G.eqs [.int (v57)] rfl ?_
          cases hr
          exact G.iret rfl rfl ⟨rfl, ⟨_, _, r57⟩, (((h53.tr fa54 (fun _ h => h)).tr fa56 (fun _ h => h)).tr fa57 (fun _ h => h))⟩ (tbd tv_X12_close rfl)
        · replace hr := ite_t c47 hr
          refine G.go tv_X12_close 2 52 [(0, .ref (gAd E (56))), (1, .int (a0)), (2, .int (v52))] [.int (v52), .ref (gAd E (56))] rfl ?_
          obtain ⟨R58, hv58, hr⟩ := bnd_s hr
          refine G.callV (56) [.int (v52)] [] (k_X12_removeInode E _ hE R53 ⟨_, _, r56⟩ v52 R58 hv58) cls_X12 (by omega) (r56.o) cw_X12_376 w_2396 w_80 (Nat.le_of_ble_eq_true rfl) rfl (Nat.le_of_ble_eq_true rfl) (tbd tv_X12_close rfl) (fun v58w f58 q58 => ?_) (fun _ _ h => h.elim)
          obtain ⟨rfl, ⟨az58, sy58, r58⟩, fa58⟩ := q58
          refine G.eqs [] rfl ?_
          refine G.go tv_X12_close 2 57 [(0, .ref (gAd E (56))), (1, .int (a0)), (2, .int (v52))] [.int ((0 : Int32)), .ref (gAd E (56))] rfl ?_
          obtain ⟨v59, R59, hv59, hr⟩ := bnd2_s hr
          refine G.callV (56) [.int ((0 : Int32))] [] (k_X12_committed E _ hE R58 ⟨_, _, r58⟩ ((0 : Int32)) v59 R59 hv59) cls_X12 (by omega) (r58.o) cw_X12_436 w_2563 w_119 (Nat.le_of_ble_eq_true rfl) rfl (Nat.le_of_ble_eq_true rfl) (tbd tv_X12_close rfl) (fun v59w f59 q59 => ?_) (fun _ _ h => h.elim)
          obtain ⟨rfl, ⟨az59, sy59, r59⟩, fa59⟩ := q59
          refine G.eqs [.int (v59)] rfl ?_
          cases hr
          exact G.iret rfl rfl ⟨rfl, ⟨_, _, r59⟩, ((((h53.tr fa54 (fun _ h => h)).tr fa56 (fun _ h => h)).tr fa58 (fun _ h => h)).tr fa59 (fun _ h => h))⟩ (tbd tv_X12_close rfl)
    · replace hr := ite_t c14 hr
      refine G.go tv_X12_close 1 19 [(0, .ref (gAd E (56))), (1, .int (a0))] [.int ((-13 : Int32))] rfl ?_
      cases hr
      exact G.iret rfl rfl ⟨rfl, ⟨_, _, r51⟩, ((Fr.rf.tr fa50 (fun _ h => h)).tr fa51 (fun _ h => h))⟩ (tbd tv_X12_close rfl)
  · replace hr := ite_f c4 hr
    refine G.go tv_X12_close 1 8 [(0, .ref (gAd E (56))), (1, .int (a0))] [.int ((0 : Int32))] rfl ?_
    cases hr
    exact G.iret rfl rfl ⟨rfl, ⟨_, _, r50⟩, (Fr.rf.tr fa50 (fun _ h => h))⟩ (tbd tv_X12_close rfl)
noncomputable def e_put_92  (R : RfT) (x1 : Int32) (x2 : Int32) (x3 : Int32) : Option (Int32 × RfT) := ld (rA R 53) 32 x1 (fun v70 => bnd2 (e_writeData R v70 x3 x2) (fun v71 R71 => if (rS R71 11) = 0 then some (v71, R71) else if v71 ≤ 0 then some (v71, R71) else stR R71 54 32 x1 ((x3) + (x2)) (fun R72 => some (v71, R72))))
noncomputable def e_put_39  : Nat → RfT → Int32 → Int32 → Int32 → Option (Int32 × RfT)
  | 0, _, _, _, _ => none
  | n + 1, R, x1, x2, x3 => if x2 ≤ x3 then ld (rA R 55) 32 x1 (fun v64 => if v64 = ((2 : Int32)) then ld (rA R 53) 32 x1 (fun v66 => bnd (e_size R v66) (fun v67 => e_put_92  R x1 x2 v67)) else ld (rA R 54) 32 x1 (fun v65 => e_put_92  R x1 x2 v65)) else ld (rA R 4) 1024 x3 (fun v68 => stR R 59 2000 x3 (vp_nar .byte v68) (fun R69 => e_put_39  n R69 x1 x2 (x3 + (1 : Int32))))
noncomputable def e_put  (R : RfT) (a0 : Int32) : Option (Int32 × RfT) := bnd2 (e_useTape R) (fun v60 R60 => bnd2 (e_notMounted R60) (fun v61 R61 => if v61 = 0 then bnd (e_isHandle R61 a0) (fun v62 => if v62 = 0 then some ((-13 : Int32), R61) else ld (rA R61 55) 32 a0 (fun v63 => if v63 = 0 then some ((-9 : Int32), R61) else e_put_39  fuL R61 a0 v60 ((0 : Int32)))) else some ((0 : Int32), R61)))
set_option maxRecDepth 100000 in
set_option maxHeartbeats 4000000 in
theorem l_X12_put_92 (E : gE) (f0 : Nat → va_E) (sz : Nat) (QA : Nat → Prop) (hE : 94 ≤ gN E) : ∀ (R : RfT) (x1 : Int32) (x2 : Int32) (x3 : Int32) (r : Int32) (R9 : RfT) (hr : e_put_92  R x1 x2 x3 = some (r, R9)) (f : Nat → va_E) (w : RW E f R) (hf : Fr RfK f0 f), G E (14, yX12_put, 5, (some .int), sz, QA) cX12_put (gO E (14, yX12_put, 5, (some .int), sz, QA) (fun v g => v = some (.int r) ∧ RW E g R9 ∧ Fr RfK f0 g, fun _ _ => False)) 92 [(0, .ref (gAd E (56))), (1, .int (x1)), (2, .int (x2)), (3, .int (x3))] [] f := by
  intro R x1 x2 x3 r R9 hr f w hf
  obtain ⟨az, sy, r0⟩ := w
  unfold e_put_92 at hr
  refine G.go tv_X12_put 2 94 [(0, .ref (gAd E (56))), (1, .int (x1)), (2, .int (x2)), (3, .int (x3))] [.ref (gAd E (56)), .ref (gAd E (56))] rfl ?_
  refine G.rg r0 hE 53 (.ref (gAd E (87))) (by decide) rfl (tbd tv_X12_put rfl) w_2118 ?_
  refine G.go tv_X12_put 1 98 [(0, .ref (gAd E (56))), (1, .int (x1)), (2, .int (x2)), (3, .int (x3))] [.int (x1), .ref (gAd E (87)), .ref (gAd E (56))] rfl ?_
  obtain ⟨v70, b70, e70, hr⟩ := ld_s hr
  refine G.ialdE (87) (by omega) (r0.a53) b70 e70 (tbd tv_X12_put rfl) ?_
  refine G.go tv_X12_put 2 101 [(0, .ref (gAd E (56))), (1, .int (x1)), (2, .int (x2)), (3, .int (x3))] [.int (x2), .int (x3), .int (v70), .ref (gAd E (56))] rfl ?_
  obtain ⟨v71, R71, hv71, hr⟩ := bnd2_s hr
  refine G.callV (56) [.int (v70), .int (x3), .int (x2)] [] (k_X12_writeData E _ hE R ⟨_, _, r0⟩ v70 x3 x2 v71 R71 hv71) cls_X12 (by omega) (r0.o) cw_X12_480 w_2643 w_132 (Nat.le_of_ble_eq_true rfl) rfl (Nat.le_of_ble_eq_true rfl) (tbd tv_X12_put rfl) (fun v71w f71 q71 => ?_) (fun _ _ h => h.elim)
  obtain ⟨rfl, ⟨az71, sy71, r71⟩, fa71⟩ := q71
  refine G.eqs [.int (v71)] rfl ?_
  refine G.go tv_X12_put 2 107 [(0, .ref (gAd E (56))), (1, .int (x1)), (2, .int (x2)), (3, .int (x3)), (4, .int (v71))] [.ref (gAd E (56))] rfl ?_
  refine G.rg r71 hE 11 (.int (rS R71 11)) (by decide) rfl (tbd tv_X12_put rfl) w_2076 ?_
  refine G.if_eq 127 (tbd tv_X12_put rfl) (by decide) (fun c110 => ?_) (fun c110 => ?_)
  · replace hr := ite_t c110 hr
    refine G.go tv_X12_put 1 129 [(0, .ref (gAd E (56))), (1, .int (x1)), (2, .int (x2)), (3, .int (x3)), (4, .int (v71))] [.int (v71)] rfl ?_
    cases hr
    exact G.iret rfl rfl ⟨rfl, ⟨_, _, r71⟩, (hf.tr fa71 (fun _ h => h))⟩ (tbd tv_X12_put rfl)
  · replace hr := ite_f c110 hr
    refine G.go tv_X12_put 1 115 [(0, .ref (gAd E (56))), (1, .int (x1)), (2, .int (x2)), (3, .int (x3)), (4, .int (v71))] [.int (v71)] rfl ?_
    refine G.if_le 127 (tbd tv_X12_put rfl) (by decide) (fun c115 => ?_) (fun c115 => ?_)
    · replace hr := ite_t c115 hr
      refine G.go tv_X12_put 1 129 [(0, .ref (gAd E (56))), (1, .int (x1)), (2, .int (x2)), (3, .int (x3)), (4, .int (v71))] [.int (v71)] rfl ?_
      cases hr
      exact G.iret rfl rfl ⟨rfl, ⟨_, _, r71⟩, (hf.tr fa71 (fun _ h => h))⟩ (tbd tv_X12_put rfl)
    · replace hr := ite_f c115 hr
      refine G.go tv_X12_put 1 119 [(0, .ref (gAd E (56))), (1, .int (x1)), (2, .int (x2)), (3, .int (x3)), (4, .int (v71))] [.ref (gAd E (56))] rfl ?_
      refine G.rg r71 hE 54 (.ref (gAd E (88))) (by decide) rfl (tbd tv_X12_put rfl) w_2119 ?_
      refine G.go tv_X12_put 4 126 [(0, .ref (gAd E (56))), (1, .int (x1)), (2, .int (x2)), (3, .int (x3)), (4, .int (v71))] [.int ((x3) + (x2)), .int (x1), .ref (gAd E (88))] rfl ?_
      obtain ⟨R72, b72, eR72, hr⟩ := stR_s hr
      refine G.iast (88) (by omega) (r71.a54) b72 (tbd tv_X12_put rfl) ?_
      refine G.gen (P := fun w9 => RfV E w9 (setSr (setS R72 42 az71) sy71) ∧ Fr RfK f0 w9) ⟨by rw [eR72]; exact r71.p54 _, Fr.up (hf.tr fa71 (fun _ h => h)) ⟨by decide, by decide⟩⟩ (fun u72 p72 => ?_)
      obtain ⟨r72, h72⟩ := p72
      refine G.go tv_X12_put 1 129 [(0, .ref (gAd E (56))), (1, .int (x1)), (2, .int (x2)), (3, .int (x3)), (4, .int (v71))] [.int (v71)] rfl ?_
      cases hr
      exact G.iret rfl rfl ⟨rfl, ⟨_, _, r72⟩, h72⟩ (tbd tv_X12_put rfl)
set_option maxRecDepth 100000 in
set_option maxHeartbeats 4000000 in
theorem l_X12_put_39 (E : gE) (f0 : Nat → va_E) (sz : Nat) (QA : Nat → Prop) (hE : 94 ≤ gN E) : ∀ (n : Nat), ∀ (R : RfT) (x1 : Int32) (x2 : Int32) (x3 : Int32) (r : Int32) (R9 : RfT) (hr : e_put_39  n R x1 x2 x3 = some (r, R9)) (f : Nat → va_E) (w : RW E f R) (hf : Fr RfK f0 f), G E (14, yX12_put, 5, (some .int), sz, QA) cX12_put (gO E (14, yX12_put, 5, (some .int), sz, QA) (fun v g => v = some (.int r) ∧ RW E g R9 ∧ Fr RfK f0 g, fun _ _ => False)) 39 [(0, .ref (gAd E (56))), (1, .int (x1)), (2, .int (x2)), (3, .int (x3))] [] f := by
  intro n
  induction n with
  | zero =>
    intro R x1 x2 x3 r R9 hr f w hf
    cases hr
  | succ n ih =>
    intro R x1 x2 x3 r R9 hr f w hf
    obtain ⟨az, sy, r0⟩ := w
    unfold e_put_39 at hr
    refine G.go tv_X12_put 2 41 [(0, .ref (gAd E (56))), (1, .int (x1)), (2, .int (x2)), (3, .int (x3))] [.int (x2), .int (x3)] rfl ?_
    refine G.cmp_ge 62 (tbd tv_X12_put rfl) (by decide) (fun c41 => ?_) (fun c41 => ?_)
    · replace hr := ite_t c41 hr
      refine G.go tv_X12_put 1 63 [(0, .ref (gAd E (56))), (1, .int (x1)), (2, .int (x2)), (3, .int (x3))] [.ref (gAd E (56))] rfl ?_
      refine G.rg r0 hE 55 (.ref (gAd E (89))) (by decide) rfl (tbd tv_X12_put rfl) w_2120 ?_
      refine G.go tv_X12_put 1 67 [(0, .ref (gAd E (56))), (1, .int (x1)), (2, .int (x2)), (3, .int (x3))] [.int (x1), .ref (gAd E (89))] rfl ?_
      obtain ⟨v64, b64, e64, hr⟩ := ld_s hr
      refine G.ialdE (89) (by omega) (r0.a55) b64 e64 (tbd tv_X12_put rfl) ?_
      refine G.go tv_X12_put 1 69 [(0, .ref (gAd E (56))), (1, .int (x1)), (2, .int (x2)), (3, .int (x3))] [.int ((2 : Int32)), .int (v64)] rfl ?_
      refine G.cmp_ne 85 (tbd tv_X12_put rfl) (by decide) (fun c69 => ?_) (fun c69 => ?_)
      · replace hr := ite_f c69 hr
        refine G.go tv_X12_put 1 86 [(0, .ref (gAd E (56))), (1, .int (x1)), (2, .int (x2)), (3, .int (x3))] [.ref (gAd E (56))] rfl ?_
        refine G.rg r0 hE 54 (.ref (gAd E (88))) (by decide) rfl (tbd tv_X12_put rfl) w_2119 ?_
        refine G.go tv_X12_put 1 90 [(0, .ref (gAd E (56))), (1, .int (x1)), (2, .int (x2)), (3, .int (x3))] [.int (x1), .ref (gAd E (88))] rfl ?_
        obtain ⟨v65, b65, e65, hr⟩ := ld_s hr
        refine G.ialdE (88) (by omega) (r0.a54) b65 e65 (tbd tv_X12_put rfl) ?_
        refine G.go tv_X12_put 1 92 [(0, .ref (gAd E (56))), (1, .int (x1)), (2, .int (x2)), (3, .int (v65))] [] rfl ?_
        refine G.less [(0, .ref (gAd E (56))), (1, .int (x1)), (2, .int (x2)), (3, .int (v65))] [0, 1, 2, 3] rfl ?_
        exact l_X12_put_92 E f0 sz QA hE _ _ _ _ _ _ hr _ ⟨_, _, r0⟩ hf
      · replace hr := ite_t c69 hr
        refine G.go tv_X12_put 2 74 [(0, .ref (gAd E (56))), (1, .int (x1)), (2, .int (x2)), (3, .int (x3))] [.ref (gAd E (56)), .ref (gAd E (56))] rfl ?_
        refine G.rg r0 hE 53 (.ref (gAd E (87))) (by decide) rfl (tbd tv_X12_put rfl) w_2118 ?_
        refine G.go tv_X12_put 1 78 [(0, .ref (gAd E (56))), (1, .int (x1)), (2, .int (x2)), (3, .int (x3))] [.int (x1), .ref (gAd E (87)), .ref (gAd E (56))] rfl ?_
        obtain ⟨v66, b66, e66, hr⟩ := ld_s hr
        refine G.ialdE (87) (by omega) (r0.a53) b66 e66 (tbd tv_X12_put rfl) ?_
        obtain ⟨v67, hv67, hr⟩ := bnd_s hr
        refine G.callV (56) [.int (v66)] [] (k_X12_size E _ hE R ⟨_, _, r0⟩ v66 v67 hv67) cls_X12 (by omega) (r0.o) cw_X12_344 w_2503 w_104 (Nat.le_of_ble_eq_true rfl) rfl (Nat.le_of_ble_eq_true rfl) (tbd tv_X12_put rfl) (fun v67w f67 q67 => ?_) (fun _ _ h => h.elim)
        obtain ⟨rfl, ⟨az67, sy67, r67⟩, fa67⟩ := q67
        refine G.eqs [.int (v67)] rfl ?_
        refine G.go tv_X12_put 2 92 [(0, .ref (gAd E (56))), (1, .int (x1)), (2, .int (x2)), (3, .int (v67))] [] rfl ?_
        refine G.less [(0, .ref (gAd E (56))), (1, .int (x1)), (2, .int (x2)), (3, .int (v67))] [0, 1, 2, 3] rfl ?_
        exact l_X12_put_92 E f0 sz QA hE _ _ _ _ _ _ hr _ ⟨_, _, r67⟩ (hf.tr fa67 (fun _ h => h))
    · replace hr := ite_f c41 hr
      refine G.go tv_X12_put 1 45 [(0, .ref (gAd E (56))), (1, .int (x1)), (2, .int (x2)), (3, .int (x3))] [.ref (gAd E (56))] rfl ?_
      refine G.rg r0 hE 59 (.ref (gAd E (92))) (by decide) rfl (tbd tv_X12_put rfl) w_2124 ?_
      refine G.go tv_X12_put 2 50 [(0, .ref (gAd E (56))), (1, .int (x1)), (2, .int (x2)), (3, .int (x3))] [.ref (gAd E (56)), .int (x3), .ref (gAd E (92))] rfl ?_
      refine G.rg r0 hE 4 (.ref (gAd E (57))) (by decide) rfl (tbd tv_X12_put rfl) w_2069 ?_
      refine G.go tv_X12_put 1 54 [(0, .ref (gAd E (56))), (1, .int (x1)), (2, .int (x2)), (3, .int (x3))] [.int (x3), .ref (gAd E (57)), .int (x3), .ref (gAd E (92))] rfl ?_
      obtain ⟨v68, b68, e68, hr⟩ := ld_s hr
      refine G.baldE (57) (by omega) (r0.a4) b68 e68 (tbd tv_X12_put rfl) ?_
      obtain ⟨R69, b69, eR69, hr⟩ := stR_s hr
      refine G.bast (92) (by omega) (r0.a59) b69 (tbd tv_X12_put rfl) ?_
      refine G.gen (P := fun w9 => RfV E w9 (setSr (setS R69 42 az) sy) ∧ Fr RfK f0 w9) ⟨by rw [eR69]; exact r0.p59 _, Fr.up hf ⟨by decide, by decide⟩⟩ (fun u69 p69 => ?_)
      obtain ⟨r69, h69⟩ := p69
      refine G.go tv_X12_put 2 39 [(0, .ref (gAd E (56))), (1, .int (x1)), (2, .int (x2)), (3, .int (x3 + (1 : Int32)))] [] rfl ?_
      refine G.less [(0, .ref (gAd E (56))), (1, .int (x1)), (2, .int (x2)), (3, .int (x3 + (1 : Int32)))] [0, 1, 2, 3] rfl ?_
      exact ih _ _ _ _ _ _ hr _ ⟨_, _, r69⟩ h69
set_option maxRecDepth 100000 in
set_option maxHeartbeats 4000000 in
theorem k_X12_put (E : gE) (f : Nat → va_E) (hE : 94 ≤ gN E) (R : RfT) (w : RW E f R) (a0 : Int32) (r : Int32) (R9 : RfT) (hr : e_put R a0 = some (r, R9)) : Ct E 14 yX12_put cX12_put 5 (some .int) [.ref (gAd E (56)), .int (a0)] f (fun v g => v = some (.int r) ∧ RW E g R9 ∧ Fr RfK f g, fun _ _ => False) := by
  obtain ⟨az, sy, r0⟩ := w
  refine Ct.of (by decide) (Nat.le_of_ble_eq_true rfl) (fun sz => ?_)
  refine G.eql [(0, .ref (gAd E (56))), (1, .int (a0))] rfl ?_
  unfold e_put at hr
  refine G.go tv_X12_put 1 1 [(0, .ref (gAd E (56))), (1, .int (a0))] [.ref (gAd E (56))] rfl ?_
  obtain ⟨v60, R60, hv60, hr⟩ := bnd2_s hr
  refine G.callV (56) [] [] (k_X12_useTape E _ hE R ⟨_, _, r0⟩ v60 R60 hv60) cls_X12 (by omega) (r0.o) cw_X12_418 w_2480 w_99 (Nat.le_of_ble_eq_true rfl) rfl (Nat.le_of_ble_eq_true rfl) (tbd tv_X12_put rfl) (fun v60w f60 q60 => ?_) (fun _ _ h => h.elim)
  obtain ⟨rfl, ⟨az60, sy60, r60⟩, fa60⟩ := q60
  refine G.eqs [.int (v60)] rfl ?_
  refine G.go tv_X12_put 2 6 [(0, .ref (gAd E (56))), (1, .int (a0)), (2, .int (v60))] [.ref (gAd E (56))] rfl ?_
  obtain ⟨v61, R61, hv61, hr⟩ := bnd2_s hr
  refine G.callV (56) [] [] (k_X12_notMounted E _ hE R60 ⟨_, _, r60⟩ v61 R61 hv61) cls_X12 (by omega) (r60.o) cw_X12_403 w_2464 w_96 (Nat.le_of_ble_eq_true rfl) rfl (Nat.le_of_ble_eq_true rfl) (tbd tv_X12_put rfl) (fun v61w f61 q61 => ?_) (fun _ _ h => h.elim)
  obtain ⟨rfl, ⟨az61, sy61, r61⟩, fa61⟩ := q61
  refine G.eqs [.int (v61)] rfl ?_
  refine G.if_eq 14 (tbd tv_X12_put rfl) (by decide) (fun c9 => ?_) (fun c9 => ?_)
  · replace hr := ite_t c9 hr
    refine G.go tv_X12_put 2 16 [(0, .ref (gAd E (56))), (1, .int (a0)), (2, .int (v60))] [.int (a0), .ref (gAd E (56))] rfl ?_
    obtain ⟨v62, hv62, hr⟩ := bnd_s hr
    refine G.callV (56) [.int (a0)] [] (k_X12_isHandle E _ hE R61 ⟨_, _, r61⟩ a0 v62 hv62) cls_X12 (by omega) (r61.o) cw_X12_502 w_2725 w_139 (Nat.le_of_ble_eq_true rfl) rfl (Nat.le_of_ble_eq_true rfl) (tbd tv_X12_put rfl) (fun v62w f62 q62 => ?_) (fun _ _ h => h.elim)
    obtain ⟨rfl, ⟨az62, sy62, r62⟩, fa62⟩ := q62
    refine G.eqs [.int (v62)] rfl ?_
    refine G.if_ne 25 (tbd tv_X12_put rfl) (by decide) (fun c19 => ?_) (fun c19 => ?_)
    · replace hr := ite_f c19 hr
      refine G.go tv_X12_put 1 26 [(0, .ref (gAd E (56))), (1, .int (a0)), (2, .int (v60))] [.ref (gAd E (56))] rfl ?_
      refine G.rg r62 hE 55 (.ref (gAd E (89))) (by decide) rfl (tbd tv_X12_put rfl) w_2120 ?_
      refine G.go tv_X12_put 1 30 [(0, .ref (gAd E (56))), (1, .int (a0)), (2, .int (v60))] [.int (a0), .ref (gAd E (89))] rfl ?_
      obtain ⟨v63, b63, e63, hr⟩ := ld_s hr
      refine G.ialdE (89) (by omega) (r62.a55) b63 e63 (tbd tv_X12_put rfl) ?_
      refine G.if_ne 37 (tbd tv_X12_put rfl) (by decide) (fun c31 => ?_) (fun c31 => ?_)
      · replace hr := ite_f c31 hr
        refine G.go tv_X12_put 2 39 [(0, .ref (gAd E (56))), (1, .int (a0)), (2, .int (v60)), (3, .int ((0 : Int32)))] [] rfl ?_
        refine G.less [(0, .ref (gAd E (56))), (1, .int (a0)), (2, .int (v60)), (3, .int ((0 : Int32)))] [0, 1, 2, 3] rfl ?_
        exact l_X12_put_39 E f sz _ hE _ _ _ _ _ _ _ hr _ ⟨_, _, r62⟩ (((Fr.rf.tr fa60 (fun _ h => h)).tr fa61 (fun _ h => h)).tr fa62 (fun _ h => h))
      · replace hr := ite_t c31 hr
        refine G.go tv_X12_put 1 36 [(0, .ref (gAd E (56))), (1, .int (a0)), (2, .int (v60))] [.int ((-9 : Int32))] rfl ?_
        cases hr
        exact G.iret rfl rfl ⟨rfl, ⟨_, _, r62⟩, (((Fr.rf.tr fa60 (fun _ h => h)).tr fa61 (fun _ h => h)).tr fa62 (fun _ h => h))⟩ (tbd tv_X12_put rfl)
    · replace hr := ite_t c19 hr
      refine G.go tv_X12_put 1 24 [(0, .ref (gAd E (56))), (1, .int (a0)), (2, .int (v60))] [.int ((-13 : Int32))] rfl ?_
      cases hr
      exact G.iret rfl rfl ⟨rfl, ⟨_, _, r62⟩, (((Fr.rf.tr fa60 (fun _ h => h)).tr fa61 (fun _ h => h)).tr fa62 (fun _ h => h))⟩ (tbd tv_X12_put rfl)
  · replace hr := ite_f c9 hr
    refine G.go tv_X12_put 1 13 [(0, .ref (gAd E (56))), (1, .int (a0)), (2, .int (v60))] [.int ((0 : Int32))] rfl ?_
    cases hr
    exact G.iret rfl rfl ⟨rfl, ⟨_, _, r61⟩, ((Fr.rf.tr fa60 (fun _ h => h)).tr fa61 (fun _ h => h))⟩ (tbd tv_X12_put rfl)
def e_get  (R : RfT) (a0 : Int32) : Option (Int32 × RfT) := bnd2 (e_notMounted R) (fun v73 R73 => if v73 = 0 then bnd (e_isHandle R73 a0) (fun v74 => if v74 = 0 then some ((-13 : Int32), R73) else ld (rA R73 54) 32 a0 (fun v75 => ld (rA R73 53) 32 a0 (fun v76 => bnd (e_size R73 v76) (fun v77 => if v75 < v77 then ld (rA R73 54) 32 a0 (fun v78 => stR R73 54 32 a0 ((v78) + ((1 : Int32))) (fun R79 => ld (rA R79 53) 32 a0 (fun v80 => bnd (e_blockOf R79 v80 ((v75) / ((128 : Int32)))) (fun v81 => if v81 = 0 then some ((0 : Int32), R79) else bnd (e_seenNumber R79 v81 ((v75) - (v75) / ((128 : Int32)) * ((128 : Int32))) ((1 : Int32))) (fun v82 => some (v82, R79)))))) else some ((-1 : Int32), R73))))) else some ((0 : Int32), R73))
set_option maxRecDepth 100000 in
set_option maxHeartbeats 4000000 in
theorem k_X12_get (E : gE) (f : Nat → va_E) (hE : 94 ≤ gN E) (R : RfT) (w : RW E f R) (a0 : Int32) (r : Int32) (R9 : RfT) (hr : e_get R a0 = some (r, R9)) : Ct E 6 yX12_get cX12_get 4 (some .int) [.ref (gAd E (56)), .int (a0)] f (fun v g => v = some (.int r) ∧ RW E g R9 ∧ Fr RfK f g, fun _ _ => False) := by
  obtain ⟨az, sy, r0⟩ := w
  refine Ct.of (by decide) (Nat.le_of_ble_eq_true rfl) (fun sz => ?_)
  refine G.eql [(0, .ref (gAd E (56))), (1, .int (a0))] rfl ?_
  unfold e_get at hr
  refine G.go tv_X12_get 1 1 [(0, .ref (gAd E (56))), (1, .int (a0))] [.ref (gAd E (56))] rfl ?_
  obtain ⟨v73, R73, hv73, hr⟩ := bnd2_s hr
  refine G.callV (56) [] [] (k_X12_notMounted E _ hE R ⟨_, _, r0⟩ v73 R73 hv73) cls_X12 (by omega) (r0.o) cw_X12_403 w_2464 w_96 (Nat.le_of_ble_eq_true rfl) rfl (Nat.le_of_ble_eq_true rfl) (tbd tv_X12_get rfl) (fun v73w f73 q73 => ?_) (fun _ _ h => h.elim)
  obtain ⟨rfl, ⟨az73, sy73, r73⟩, fa73⟩ := q73
  refine G.eqs [.int (v73)] rfl ?_
  refine G.if_eq 9 (tbd tv_X12_get rfl) (by decide) (fun c4 => ?_) (fun c4 => ?_)
  · replace hr := ite_t c4 hr
    refine G.go tv_X12_get 2 11 [(0, .ref (gAd E (56))), (1, .int (a0))] [.int (a0), .ref (gAd E (56))] rfl ?_
    obtain ⟨v74, hv74, hr⟩ := bnd_s hr
    refine G.callV (56) [.int (a0)] [] (k_X12_isHandle E _ hE R73 ⟨_, _, r73⟩ a0 v74 hv74) cls_X12 (by omega) (r73.o) cw_X12_502 w_2725 w_139 (Nat.le_of_ble_eq_true rfl) rfl (Nat.le_of_ble_eq_true rfl) (tbd tv_X12_get rfl) (fun v74w f74 q74 => ?_) (fun _ _ h => h.elim)
    obtain ⟨rfl, ⟨az74, sy74, r74⟩, fa74⟩ := q74
    refine G.eqs [.int (v74)] rfl ?_
    refine G.if_ne 20 (tbd tv_X12_get rfl) (by decide) (fun c14 => ?_) (fun c14 => ?_)
    · replace hr := ite_f c14 hr
      refine G.go tv_X12_get 1 21 [(0, .ref (gAd E (56))), (1, .int (a0))] [.ref (gAd E (56))] rfl ?_
      refine G.rg r74 hE 54 (.ref (gAd E (88))) (by decide) rfl (tbd tv_X12_get rfl) w_2119 ?_
      refine G.go tv_X12_get 1 25 [(0, .ref (gAd E (56))), (1, .int (a0))] [.int (a0), .ref (gAd E (88))] rfl ?_
      obtain ⟨v75, b75, e75, hr⟩ := ld_s hr
      refine G.ialdE (88) (by omega) (r74.a54) b75 e75 (tbd tv_X12_get rfl) ?_
      refine G.go tv_X12_get 4 30 [(0, .ref (gAd E (56))), (1, .int (a0)), (2, .int (v75))] [.ref (gAd E (56)), .ref (gAd E (56)), .int (v75)] rfl ?_
      refine G.rg r74 hE 53 (.ref (gAd E (87))) (by decide) rfl (tbd tv_X12_get rfl) w_2118 ?_
      refine G.go tv_X12_get 1 34 [(0, .ref (gAd E (56))), (1, .int (a0)), (2, .int (v75))] [.int (a0), .ref (gAd E (87)), .ref (gAd E (56)), .int (v75)] rfl ?_
      obtain ⟨v76, b76, e76, hr⟩ := ld_s hr
      refine G.ialdE (87) (by omega) (r74.a53) b76 e76 (tbd tv_X12_get rfl) ?_
      obtain ⟨v77, hv77, hr⟩ := bnd_s hr
      refine G.callV (56) [.int (v76)] [.int (v75)] (k_X12_size E _ hE R73 ⟨_, _, r74⟩ v76 v77 hv77) cls_X12 (by omega) (r74.o) cw_X12_344 w_2503 w_104 (Nat.le_of_ble_eq_true rfl) rfl (Nat.le_of_ble_eq_true rfl) (tbd tv_X12_get rfl) (fun v77w f77 q77 => ?_) (fun _ _ h => h.elim)
      obtain ⟨rfl, ⟨az77, sy77, r77⟩, fa77⟩ := q77
      refine G.eqs [.int (v77), .int (v75)] rfl ?_
      refine G.cmp_lt 43 (tbd tv_X12_get rfl) (by decide) (fun c38 => ?_) (fun c38 => ?_)
      · replace hr := ite_t c38 hr
        refine G.go tv_X12_get 1 44 [(0, .ref (gAd E (56))), (1, .int (a0)), (2, .int (v75))] [.ref (gAd E (56))] rfl ?_
        refine G.rg r77 hE 54 (.ref (gAd E (88))) (by decide) rfl (tbd tv_X12_get rfl) w_2119 ?_
        refine G.go tv_X12_get 2 49 [(0, .ref (gAd E (56))), (1, .int (a0)), (2, .int (v75))] [.int (a0), .ref (gAd E (88)), .int (a0), .ref (gAd E (88))] rfl ?_
        obtain ⟨v78, b78, e78, hr⟩ := ld_s hr
        refine G.ialdE (88) (by omega) (r77.a54) b78 e78 (tbd tv_X12_get rfl) ?_
        refine G.go tv_X12_get 2 52 [(0, .ref (gAd E (56))), (1, .int (a0)), (2, .int (v75))] [.int ((v78) + ((1 : Int32))), .int (a0), .ref (gAd E (88))] rfl ?_
        obtain ⟨R79, b79, eR79, hr⟩ := stR_s hr
        refine G.iast (88) (by omega) (r77.a54) b79 (tbd tv_X12_get rfl) ?_
        refine G.gen (P := fun w9 => RfV E w9 (setSr (setS R79 42 az77) sy77) ∧ Fr RfK f w9) ⟨by rw [eR79]; exact r77.p54 _, Fr.up (((Fr.rf.tr fa73 (fun _ h => h)).tr fa74 (fun _ h => h)).tr fa77 (fun _ h => h)) ⟨by decide, by decide⟩⟩ (fun u79 p79 => ?_)
        obtain ⟨r79, h79⟩ := p79
        refine G.go tv_X12_get 2 55 [(0, .ref (gAd E (56))), (1, .int (a0)), (2, .int (v75))] [.ref (gAd E (56)), .ref (gAd E (56))] rfl ?_
        refine G.rg r79 hE 53 (.ref (gAd E (87))) (by decide) rfl (tbd tv_X12_get rfl) w_2118 ?_
        refine G.go tv_X12_get 1 59 [(0, .ref (gAd E (56))), (1, .int (a0)), (2, .int (v75))] [.int (a0), .ref (gAd E (87)), .ref (gAd E (56))] rfl ?_
        obtain ⟨v80, b80, e80, hr⟩ := ld_s hr
        refine G.ialdE (87) (by omega) (r79.a53) b80 e80 (tbd tv_X12_get rfl) ?_
        refine G.go tv_X12_get 2 64 [(0, .ref (gAd E (56))), (1, .int (a0)), (2, .int (v75))] [.int ((128 : Int32)), .int (v75), .int (v80), .ref (gAd E (56))] rfl ?_
        refine G.idiv (by decide) (tbd tv_X12_get rfl) ?_
        obtain ⟨v81, hv81, hr⟩ := bnd_s hr
        refine G.callV (56) [.int (v80), .int ((v75) / ((128 : Int32)))] [] (k_X12_blockOf E _ hE R79 ⟨_, _, r79⟩ v80 ((v75) / ((128 : Int32))) v81 hv81) cls_X12 (by omega) (r79.o) cw_X12_323 w_2507 w_105 (Nat.le_of_ble_eq_true rfl) rfl (Nat.le_of_ble_eq_true rfl) (tbd tv_X12_get rfl) (fun v81w f81 q81 => ?_) (fun _ _ h => h.elim)
        obtain ⟨rfl, ⟨az81, sy81, r81⟩, fa81⟩ := q81
        refine G.eqs [.int (v81)] rfl ?_
        refine G.go tv_X12_get 2 70 [(0, .ref (gAd E (56))), (1, .int (a0)), (2, .int (v75)), (3, .int (v81))] [.int (v81)] rfl ?_
        refine G.if_ne 77 (tbd tv_X12_get rfl) (by decide) (fun c70 => ?_) (fun c70 => ?_)
        · replace hr := ite_f c70 hr
          refine G.go tv_X12_get 4 83 [(0, .ref (gAd E (56))), (1, .int (a0)), (2, .int (v75)), (3, .int (v81))] [.int ((128 : Int32)), .int (v75), .int (v81), .ref (gAd E (56))] rfl ?_
          refine G.irem (by decide) (tbd tv_X12_get rfl) ?_
          refine G.go tv_X12_get 1 85 [(0, .ref (gAd E (56))), (1, .int (a0)), (2, .int (v75)), (3, .int (v81))] [.int ((1 : Int32)), .int ((v75) - (v75) / ((128 : Int32)) * ((128 : Int32))), .int (v81), .ref (gAd E (56))] rfl ?_
          obtain ⟨v82, hv82, hr⟩ := bnd_s hr
          refine G.callV (56) [.int (v81), .int ((v75) - (v75) / ((128 : Int32)) * ((128 : Int32))), .int ((1 : Int32))] [] (k_X12_seenNumber E _ hE R79 ⟨_, _, r81⟩ v81 ((v75) - (v75) / ((128 : Int32)) * ((128 : Int32))) ((1 : Int32)) v82 hv82) cls_X12 (by omega) (r81.o) cw_X12_295 w_2380 w_76 (Nat.le_of_ble_eq_true rfl) rfl (Nat.le_of_ble_eq_true rfl) (tbd tv_X12_get rfl) (fun v82w f82 q82 => ?_) (fun _ _ h => h.elim)
          obtain ⟨rfl, ⟨az82, sy82, r82⟩, fa82⟩ := q82
          refine G.eqs [.int (v82)] rfl ?_
          cases hr
          exact G.iret rfl rfl ⟨rfl, ⟨_, _, r82⟩, ((h79.tr fa81 (fun _ h => h)).tr fa82 (fun _ h => h))⟩ (tbd tv_X12_get rfl)
        · replace hr := ite_t c70 hr
          refine G.go tv_X12_get 2 88 [(0, .ref (gAd E (56))), (1, .int (a0)), (2, .int (v75)), (3, .int (v81))] [.int ((0 : Int32))] rfl ?_
          cases hr
          exact G.iret rfl rfl ⟨rfl, ⟨_, _, r81⟩, (h79.tr fa81 (fun _ h => h))⟩ (tbd tv_X12_get rfl)
      · replace hr := ite_f c38 hr
        refine G.go tv_X12_get 1 42 [(0, .ref (gAd E (56))), (1, .int (a0)), (2, .int (v75))] [.int ((-1 : Int32))] rfl ?_
        cases hr
        exact G.iret rfl rfl ⟨rfl, ⟨_, _, r77⟩, (((Fr.rf.tr fa73 (fun _ h => h)).tr fa74 (fun _ h => h)).tr fa77 (fun _ h => h))⟩ (tbd tv_X12_get rfl)
    · replace hr := ite_t c14 hr
      refine G.go tv_X12_get 1 19 [(0, .ref (gAd E (56))), (1, .int (a0))] [.int ((-13 : Int32))] rfl ?_
      cases hr
      exact G.iret rfl rfl ⟨rfl, ⟨_, _, r74⟩, ((Fr.rf.tr fa73 (fun _ h => h)).tr fa74 (fun _ h => h))⟩ (tbd tv_X12_get rfl)
  · replace hr := ite_f c4 hr
    refine G.go tv_X12_get 1 8 [(0, .ref (gAd E (56))), (1, .int (a0))] [.int ((0 : Int32))] rfl ?_
    cases hr
    exact G.iret rfl rfl ⟨rfl, ⟨_, _, r73⟩, (Fr.rf.tr fa73 (fun _ h => h))⟩ (tbd tv_X12_get rfl)
def e_seek  (R : RfT) (a0 : Int32) (a1 : Int32) : Option (Int32 × RfT) := bnd2 (e_notMounted R) (fun v83 R83 => if v83 = 0 then bnd (e_isHandle R83 a0) (fun v84 => if v84 = 0 then some ((-13 : Int32), R83) else if a1 < 0 then some ((-10 : Int32), R83) else if a1 ≤ ((400000 : Int32)) then ld (rA R83 54) 32 a0 (fun v85 => stR R83 54 32 a0 a1 (fun R86 => some (v85, R86))) else some ((-10 : Int32), R83)) else some ((0 : Int32), R83))
set_option maxRecDepth 100000 in
set_option maxHeartbeats 4000000 in
theorem k_X12_seek (E : gE) (f : Nat → va_E) (hE : 94 ≤ gN E) (R : RfT) (w : RW E f R) (a0 : Int32) (a1 : Int32) (r : Int32) (R9 : RfT) (hr : e_seek R a0 a1 = some (r, R9)) : Ct E 3 yX12_seek cX12_seek 4 (some .int) [.ref (gAd E (56)), .int (a0), .int (a1)] f (fun v g => v = some (.int r) ∧ RW E g R9 ∧ Fr RfK f g, fun _ _ => False) := by
  obtain ⟨az, sy, r0⟩ := w
  refine Ct.of (by decide) (Nat.le_of_ble_eq_true rfl) (fun sz => ?_)
  refine G.eql [(0, .ref (gAd E (56))), (1, .int (a0)), (2, .int (a1))] rfl ?_
  unfold e_seek at hr
  refine G.go tv_X12_seek 1 1 [(0, .ref (gAd E (56))), (1, .int (a0)), (2, .int (a1))] [.ref (gAd E (56))] rfl ?_
  obtain ⟨v83, R83, hv83, hr⟩ := bnd2_s hr
  refine G.callV (56) [] [] (k_X12_notMounted E _ hE R ⟨_, _, r0⟩ v83 R83 hv83) cls_X12 (by omega) (r0.o) cw_X12_403 w_2464 w_96 (Nat.le_of_ble_eq_true rfl) rfl (Nat.le_of_ble_eq_true rfl) (tbd tv_X12_seek rfl) (fun v83w f83 q83 => ?_) (fun _ _ h => h.elim)
  obtain ⟨rfl, ⟨az83, sy83, r83⟩, fa83⟩ := q83
  refine G.eqs [.int (v83)] rfl ?_
  refine G.if_eq 9 (tbd tv_X12_seek rfl) (by decide) (fun c4 => ?_) (fun c4 => ?_)
  · replace hr := ite_t c4 hr
    refine G.go tv_X12_seek 2 11 [(0, .ref (gAd E (56))), (1, .int (a0)), (2, .int (a1))] [.int (a0), .ref (gAd E (56))] rfl ?_
    obtain ⟨v84, hv84, hr⟩ := bnd_s hr
    refine G.callV (56) [.int (a0)] [] (k_X12_isHandle E _ hE R83 ⟨_, _, r83⟩ a0 v84 hv84) cls_X12 (by omega) (r83.o) cw_X12_502 w_2725 w_139 (Nat.le_of_ble_eq_true rfl) rfl (Nat.le_of_ble_eq_true rfl) (tbd tv_X12_seek rfl) (fun v84w f84 q84 => ?_) (fun _ _ h => h.elim)
    obtain ⟨rfl, ⟨az84, sy84, r84⟩, fa84⟩ := q84
    refine G.eqs [.int (v84)] rfl ?_
    refine G.if_ne 20 (tbd tv_X12_seek rfl) (by decide) (fun c14 => ?_) (fun c14 => ?_)
    · replace hr := ite_f c14 hr
      refine G.go tv_X12_seek 1 21 [(0, .ref (gAd E (56))), (1, .int (a0)), (2, .int (a1))] [.int (a1)] rfl ?_
      refine G.if_lt 31 (tbd tv_X12_seek rfl) (by decide) (fun c21 => ?_) (fun c21 => ?_)
      · replace hr := ite_t c21 hr
        refine G.go tv_X12_seek 1 33 [(0, .ref (gAd E (56))), (1, .int (a0)), (2, .int (a1))] [.int ((-10 : Int32))] rfl ?_
        cases hr
        exact G.iret rfl rfl ⟨rfl, ⟨_, _, r84⟩, ((Fr.rf.tr fa83 (fun _ h => h)).tr fa84 (fun _ h => h))⟩ (tbd tv_X12_seek rfl)
      · replace hr := ite_f c21 hr
        refine G.go tv_X12_seek 1 25 [(0, .ref (gAd E (56))), (1, .int (a0)), (2, .int (a1))] [.int (a1)] rfl ?_
        refine G.ldcw (400000) (tbd tv_X12_seek rfl) w_2654 ?_
        refine G.cmp_le 34 (tbd tv_X12_seek rfl) (by decide) (fun c28 => ?_) (fun c28 => ?_)
        · replace hr := ite_t c28 hr
          refine G.go tv_X12_seek 1 35 [(0, .ref (gAd E (56))), (1, .int (a0)), (2, .int (a1))] [.ref (gAd E (56))] rfl ?_
          refine G.rg r84 hE 54 (.ref (gAd E (88))) (by decide) rfl (tbd tv_X12_seek rfl) w_2119 ?_
          refine G.go tv_X12_seek 1 39 [(0, .ref (gAd E (56))), (1, .int (a0)), (2, .int (a1))] [.int (a0), .ref (gAd E (88))] rfl ?_
          obtain ⟨v85, b85, e85, hr⟩ := ld_s hr
          refine G.ialdE (88) (by omega) (r84.a54) b85 e85 (tbd tv_X12_seek rfl) ?_
          refine G.go tv_X12_seek 2 42 [(0, .ref (gAd E (56))), (1, .int (a0)), (2, .int (a1)), (3, .int (v85))] [.ref (gAd E (56))] rfl ?_
          refine G.rg r84 hE 54 (.ref (gAd E (88))) (by decide) rfl (tbd tv_X12_seek rfl) w_2119 ?_
          refine G.go tv_X12_seek 2 47 [(0, .ref (gAd E (56))), (1, .int (a0)), (2, .int (a1)), (3, .int (v85))] [.int (a1), .int (a0), .ref (gAd E (88))] rfl ?_
          obtain ⟨R86, b86, eR86, hr⟩ := stR_s hr
          refine G.iast (88) (by omega) (r84.a54) b86 (tbd tv_X12_seek rfl) ?_
          refine G.gen (P := fun w9 => RfV E w9 (setSr (setS R86 42 az84) sy84) ∧ Fr RfK f w9) ⟨by rw [eR86]; exact r84.p54 _, Fr.up ((Fr.rf.tr fa83 (fun _ h => h)).tr fa84 (fun _ h => h)) ⟨by decide, by decide⟩⟩ (fun u86 p86 => ?_)
          obtain ⟨r86, h86⟩ := p86
          refine G.go tv_X12_seek 1 49 [(0, .ref (gAd E (56))), (1, .int (a0)), (2, .int (a1)), (3, .int (v85))] [.int (v85)] rfl ?_
          cases hr
          exact G.iret rfl rfl ⟨rfl, ⟨_, _, r86⟩, h86⟩ (tbd tv_X12_seek rfl)
        · replace hr := ite_f c28 hr
          refine G.go tv_X12_seek 1 33 [(0, .ref (gAd E (56))), (1, .int (a0)), (2, .int (a1))] [.int ((-10 : Int32))] rfl ?_
          cases hr
          exact G.iret rfl rfl ⟨rfl, ⟨_, _, r84⟩, ((Fr.rf.tr fa83 (fun _ h => h)).tr fa84 (fun _ h => h))⟩ (tbd tv_X12_seek rfl)
    · replace hr := ite_t c14 hr
      refine G.go tv_X12_seek 1 19 [(0, .ref (gAd E (56))), (1, .int (a0)), (2, .int (a1))] [.int ((-13 : Int32))] rfl ?_
      cases hr
      exact G.iret rfl rfl ⟨rfl, ⟨_, _, r84⟩, ((Fr.rf.tr fa83 (fun _ h => h)).tr fa84 (fun _ h => h))⟩ (tbd tv_X12_seek rfl)
  · replace hr := ite_f c4 hr
    refine G.go tv_X12_seek 1 8 [(0, .ref (gAd E (56))), (1, .int (a0)), (2, .int (a1))] [.int ((0 : Int32))] rfl ?_
    cases hr
    exact G.iret rfl rfl ⟨rfl, ⟨_, _, r83⟩, (Fr.rf.tr fa83 (fun _ h => h))⟩ (tbd tv_X12_seek rfl)
def e_look_31  (R : RfT) (x1 : Int32) (x2 : Int32) : Option (Int32 × RfT) := bnd (e_isHandle R x1) (fun v91 => if v91 = 0 then some ((-13 : Int32), R) else if x2 = 0 then ld (rA R 53) 32 x1 (fun v94 => some (v94, R)) else if x2 = ((1 : Int32)) then ld (rA R 54) 32 x1 (fun v93 => some (v93, R)) else ld (rA R 55) 32 x1 (fun v92 => some (v92, R)))
def e_look  (R : RfT) (a0 : Int32) (a1 : Int32) : Option (Int32 × RfT) := bnd2 (e_notMounted R) (fun v87 R87 => if v87 = 0 then if a1 < 0 then bnd2 (e_refuse R87 ((1 : Int32)) ((2 : Int32))) (fun v88 R88 => if v88 = 0 then e_look_31  R88 a0 a1 else some ((0 : Int32), R88)) else if a1 ≤ ((2 : Int32)) then bnd2 (e_refuse R87 ((0 : Int32)) ((2 : Int32))) (fun v89 R89 => if v89 = 0 then e_look_31  R89 a0 a1 else some ((0 : Int32), R89)) else bnd2 (e_refuse R87 ((1 : Int32)) ((2 : Int32))) (fun v90 R90 => if v90 = 0 then e_look_31  R90 a0 a1 else some ((0 : Int32), R90)) else some ((0 : Int32), R87))
set_option maxRecDepth 100000 in
set_option maxHeartbeats 4000000 in
theorem l_X12_look_31 (E : gE) (f0 : Nat → va_E) (sz : Nat) (QA : Nat → Prop) (hE : 94 ≤ gN E) : ∀ (R : RfT) (x1 : Int32) (x2 : Int32) (r : Int32) (R9 : RfT) (hr : e_look_31  R x1 x2 = some (r, R9)) (f : Nat → va_E) (w : RW E f R) (hf : Fr RfK f0 f), G E (3, yX12_look, 3, (some .int), sz, QA) cX12_look (gO E (3, yX12_look, 3, (some .int), sz, QA) (fun v g => v = some (.int r) ∧ RW E g R9 ∧ Fr RfK f0 g, fun _ _ => False)) 31 [(0, .ref (gAd E (56))), (1, .int (x1)), (2, .int (x2))] [] f := by
  intro R x1 x2 r R9 hr f w hf
  obtain ⟨az, sy, r0⟩ := w
  unfold e_look_31 at hr
  refine G.go tv_X12_look 2 33 [(0, .ref (gAd E (56))), (1, .int (x1)), (2, .int (x2))] [.int (x1), .ref (gAd E (56))] rfl ?_
  obtain ⟨v91, hv91, hr⟩ := bnd_s hr
  refine G.callV (56) [.int (x1)] [] (k_X12_isHandle E _ hE R ⟨_, _, r0⟩ x1 v91 hv91) cls_X12 (by omega) (r0.o) cw_X12_502 w_2725 w_139 (Nat.le_of_ble_eq_true rfl) rfl (Nat.le_of_ble_eq_true rfl) (tbd tv_X12_look rfl) (fun v91w f91 q91 => ?_) (fun _ _ h => h.elim)
  obtain ⟨rfl, ⟨az91, sy91, r91⟩, fa91⟩ := q91
  refine G.eqs [.int (v91)] rfl ?_
  refine G.if_ne 42 (tbd tv_X12_look rfl) (by decide) (fun c36 => ?_) (fun c36 => ?_)
  · replace hr := ite_f c36 hr
    refine G.go tv_X12_look 1 43 [(0, .ref (gAd E (56))), (1, .int (x1)), (2, .int (x2))] [.int (x2)] rfl ?_
    refine G.if_ne 55 (tbd tv_X12_look rfl) (by decide) (fun c43 => ?_) (fun c43 => ?_)
    · replace hr := ite_f c43 hr
      refine G.go tv_X12_look 2 57 [(0, .ref (gAd E (56))), (1, .int (x1)), (2, .int (x2))] [.int ((1 : Int32)), .int (x2)] rfl ?_
      refine G.cmp_ne 69 (tbd tv_X12_look rfl) (by decide) (fun c57 => ?_) (fun c57 => ?_)
      · replace hr := ite_f c57 hr
        refine G.go tv_X12_look 1 70 [(0, .ref (gAd E (56))), (1, .int (x1)), (2, .int (x2))] [.ref (gAd E (56))] rfl ?_
        refine G.rg r91 hE 55 (.ref (gAd E (89))) (by decide) rfl (tbd tv_X12_look rfl) w_2120 ?_
        refine G.go tv_X12_look 1 74 [(0, .ref (gAd E (56))), (1, .int (x1)), (2, .int (x2))] [.int (x1), .ref (gAd E (89))] rfl ?_
        obtain ⟨v92, b92, e92, hr⟩ := ld_s hr
        refine G.ialdE (89) (by omega) (r91.a55) b92 e92 (tbd tv_X12_look rfl) ?_
        cases hr
        exact G.iret rfl rfl ⟨rfl, ⟨_, _, r91⟩, (hf.tr fa91 (fun _ h => h))⟩ (tbd tv_X12_look rfl)
      · replace hr := ite_t c57 hr
        refine G.go tv_X12_look 1 61 [(0, .ref (gAd E (56))), (1, .int (x1)), (2, .int (x2))] [.ref (gAd E (56))] rfl ?_
        refine G.rg r91 hE 54 (.ref (gAd E (88))) (by decide) rfl (tbd tv_X12_look rfl) w_2119 ?_
        refine G.go tv_X12_look 1 65 [(0, .ref (gAd E (56))), (1, .int (x1)), (2, .int (x2))] [.int (x1), .ref (gAd E (88))] rfl ?_
        obtain ⟨v93, b93, e93, hr⟩ := ld_s hr
        refine G.ialdE (88) (by omega) (r91.a54) b93 e93 (tbd tv_X12_look rfl) ?_
        refine G.go tv_X12_look 1 75 [(0, .ref (gAd E (56))), (1, .int (x1)), (2, .int (x2))] [.int (v93)] rfl ?_
        cases hr
        exact G.iret rfl rfl ⟨rfl, ⟨_, _, r91⟩, (hf.tr fa91 (fun _ h => h))⟩ (tbd tv_X12_look rfl)
    · replace hr := ite_t c43 hr
      refine G.go tv_X12_look 1 47 [(0, .ref (gAd E (56))), (1, .int (x1)), (2, .int (x2))] [.ref (gAd E (56))] rfl ?_
      refine G.rg r91 hE 53 (.ref (gAd E (87))) (by decide) rfl (tbd tv_X12_look rfl) w_2118 ?_
      refine G.go tv_X12_look 1 51 [(0, .ref (gAd E (56))), (1, .int (x1)), (2, .int (x2))] [.int (x1), .ref (gAd E (87))] rfl ?_
      obtain ⟨v94, b94, e94, hr⟩ := ld_s hr
      refine G.ialdE (87) (by omega) (r91.a53) b94 e94 (tbd tv_X12_look rfl) ?_
      refine G.go tv_X12_look 1 75 [(0, .ref (gAd E (56))), (1, .int (x1)), (2, .int (x2))] [.int (v94)] rfl ?_
      cases hr
      exact G.iret rfl rfl ⟨rfl, ⟨_, _, r91⟩, (hf.tr fa91 (fun _ h => h))⟩ (tbd tv_X12_look rfl)
  · replace hr := ite_t c36 hr
    refine G.go tv_X12_look 1 41 [(0, .ref (gAd E (56))), (1, .int (x1)), (2, .int (x2))] [.int ((-13 : Int32))] rfl ?_
    cases hr
    exact G.iret rfl rfl ⟨rfl, ⟨_, _, r91⟩, (hf.tr fa91 (fun _ h => h))⟩ (tbd tv_X12_look rfl)
set_option maxRecDepth 100000 in
set_option maxHeartbeats 4000000 in
theorem k_X12_look (E : gE) (f : Nat → va_E) (hE : 94 ≤ gN E) (R : RfT) (w : RW E f R) (a0 : Int32) (a1 : Int32) (r : Int32) (R9 : RfT) (hr : e_look R a0 a1 = some (r, R9)) : Ct E 3 yX12_look cX12_look 3 (some .int) [.ref (gAd E (56)), .int (a0), .int (a1)] f (fun v g => v = some (.int r) ∧ RW E g R9 ∧ Fr RfK f g, fun _ _ => False) := by
  obtain ⟨az, sy, r0⟩ := w
  refine Ct.of (by decide) (Nat.le_of_ble_eq_true rfl) (fun sz => ?_)
  refine G.eql [(0, .ref (gAd E (56))), (1, .int (a0)), (2, .int (a1))] rfl ?_
  unfold e_look at hr
  refine G.go tv_X12_look 1 1 [(0, .ref (gAd E (56))), (1, .int (a0)), (2, .int (a1))] [.ref (gAd E (56))] rfl ?_
  obtain ⟨v87, R87, hv87, hr⟩ := bnd2_s hr
  refine G.callV (56) [] [] (k_X12_notMounted E _ hE R ⟨_, _, r0⟩ v87 R87 hv87) cls_X12 (by omega) (r0.o) cw_X12_403 w_2464 w_96 (Nat.le_of_ble_eq_true rfl) rfl (Nat.le_of_ble_eq_true rfl) (tbd tv_X12_look rfl) (fun v87w f87 q87 => ?_) (fun _ _ h => h.elim)
  obtain ⟨rfl, ⟨az87, sy87, r87⟩, fa87⟩ := q87
  refine G.eqs [.int (v87)] rfl ?_
  refine G.if_ne 29 (tbd tv_X12_look rfl) (by decide) (fun c4 => ?_) (fun c4 => ?_)
  · replace hr := ite_f c4 hr
    refine G.go tv_X12_look 1 30 [(0, .ref (gAd E (56))), (1, .int (a0)), (2, .int (a1))] [.int ((0 : Int32))] rfl ?_
    cases hr
    exact G.iret rfl rfl ⟨rfl, ⟨_, _, r87⟩, (Fr.rf.tr fa87 (fun _ h => h))⟩ (tbd tv_X12_look rfl)
  · replace hr := ite_t c4 hr
    refine G.go tv_X12_look 2 9 [(0, .ref (gAd E (56))), (1, .int (a0)), (2, .int (a1))] [.int (a1), .ref (gAd E (56))] rfl ?_
    refine G.if_lt 17 (tbd tv_X12_look rfl) (by decide) (fun c9 => ?_) (fun c9 => ?_)
    · replace hr := ite_t c9 hr
      refine G.go tv_X12_look 3 23 [(0, .ref (gAd E (56))), (1, .int (a0)), (2, .int (a1))] [.int ((2 : Int32)), .int ((1 : Int32)), .ref (gAd E (56))] rfl ?_
      obtain ⟨v88, R88, hv88, hr⟩ := bnd2_s hr
      refine G.callV (56) [.int ((1 : Int32)), .int ((2 : Int32))] [] (k_X12_refuse E _ hE R87 ⟨_, _, r87⟩ ((1 : Int32)) ((2 : Int32)) v88 R88 hv88) cls_X12 (by omega) (r87.o) cw_X12_385 w_2268 w_53 (Nat.le_of_ble_eq_true rfl) rfl (Nat.le_of_ble_eq_true rfl) (tbd tv_X12_look rfl) (fun v88w f88 q88 => ?_) (fun _ _ h => h.elim)
      obtain ⟨rfl, ⟨az88, sy88, r88⟩, fa88⟩ := q88
      refine G.eqs [.int (v88)] rfl ?_
      refine G.if_eq 31 (tbd tv_X12_look rfl) (by decide) (fun c26 => ?_) (fun c26 => ?_)
      · replace hr := ite_t c26 hr
        refine G.less [(0, .ref (gAd E (56))), (1, .int (a0)), (2, .int (a1))] [0, 1, 2] rfl ?_
        exact l_X12_look_31 E f sz _ hE _ _ _ _ _ hr _ ⟨_, _, r88⟩ ((Fr.rf.tr fa87 (fun _ h => h)).tr fa88 (fun _ h => h))
      · replace hr := ite_f c26 hr
        refine G.go tv_X12_look 1 30 [(0, .ref (gAd E (56))), (1, .int (a0)), (2, .int (a1))] [.int ((0 : Int32))] rfl ?_
        cases hr
        exact G.iret rfl rfl ⟨rfl, ⟨_, _, r88⟩, ((Fr.rf.tr fa87 (fun _ h => h)).tr fa88 (fun _ h => h))⟩ (tbd tv_X12_look rfl)
    · replace hr := ite_f c9 hr
      refine G.go tv_X12_look 2 14 [(0, .ref (gAd E (56))), (1, .int (a0)), (2, .int (a1))] [.int ((2 : Int32)), .int (a1), .ref (gAd E (56))] rfl ?_
      refine G.cmp_le 21 (tbd tv_X12_look rfl) (by decide) (fun c14 => ?_) (fun c14 => ?_)
      · replace hr := ite_t c14 hr
        refine G.go tv_X12_look 2 23 [(0, .ref (gAd E (56))), (1, .int (a0)), (2, .int (a1))] [.int ((2 : Int32)), .int ((0 : Int32)), .ref (gAd E (56))] rfl ?_
        obtain ⟨v89, R89, hv89, hr⟩ := bnd2_s hr
        refine G.callV (56) [.int ((0 : Int32)), .int ((2 : Int32))] [] (k_X12_refuse E _ hE R87 ⟨_, _, r87⟩ ((0 : Int32)) ((2 : Int32)) v89 R89 hv89) cls_X12 (by omega) (r87.o) cw_X12_385 w_2268 w_53 (Nat.le_of_ble_eq_true rfl) rfl (Nat.le_of_ble_eq_true rfl) (tbd tv_X12_look rfl) (fun v89w f89 q89 => ?_) (fun _ _ h => h.elim)
        obtain ⟨rfl, ⟨az89, sy89, r89⟩, fa89⟩ := q89
        refine G.eqs [.int (v89)] rfl ?_
        refine G.if_eq 31 (tbd tv_X12_look rfl) (by decide) (fun c26 => ?_) (fun c26 => ?_)
        · replace hr := ite_t c26 hr
          refine G.less [(0, .ref (gAd E (56))), (1, .int (a0)), (2, .int (a1))] [0, 1, 2] rfl ?_
          exact l_X12_look_31 E f sz _ hE _ _ _ _ _ hr _ ⟨_, _, r89⟩ ((Fr.rf.tr fa87 (fun _ h => h)).tr fa89 (fun _ h => h))
        · replace hr := ite_f c26 hr
          refine G.go tv_X12_look 1 30 [(0, .ref (gAd E (56))), (1, .int (a0)), (2, .int (a1))] [.int ((0 : Int32))] rfl ?_
          cases hr
          exact G.iret rfl rfl ⟨rfl, ⟨_, _, r89⟩, ((Fr.rf.tr fa87 (fun _ h => h)).tr fa89 (fun _ h => h))⟩ (tbd tv_X12_look rfl)
      · replace hr := ite_f c14 hr
        refine G.go tv_X12_look 3 23 [(0, .ref (gAd E (56))), (1, .int (a0)), (2, .int (a1))] [.int ((2 : Int32)), .int ((1 : Int32)), .ref (gAd E (56))] rfl ?_
        obtain ⟨v90, R90, hv90, hr⟩ := bnd2_s hr
        refine G.callV (56) [.int ((1 : Int32)), .int ((2 : Int32))] [] (k_X12_refuse E _ hE R87 ⟨_, _, r87⟩ ((1 : Int32)) ((2 : Int32)) v90 R90 hv90) cls_X12 (by omega) (r87.o) cw_X12_385 w_2268 w_53 (Nat.le_of_ble_eq_true rfl) rfl (Nat.le_of_ble_eq_true rfl) (tbd tv_X12_look rfl) (fun v90w f90 q90 => ?_) (fun _ _ h => h.elim)
        obtain ⟨rfl, ⟨az90, sy90, r90⟩, fa90⟩ := q90
        refine G.eqs [.int (v90)] rfl ?_
        refine G.if_eq 31 (tbd tv_X12_look rfl) (by decide) (fun c26 => ?_) (fun c26 => ?_)
        · replace hr := ite_t c26 hr
          refine G.less [(0, .ref (gAd E (56))), (1, .int (a0)), (2, .int (a1))] [0, 1, 2] rfl ?_
          exact l_X12_look_31 E f sz _ hE _ _ _ _ _ hr _ ⟨_, _, r90⟩ ((Fr.rf.tr fa87 (fun _ h => h)).tr fa90 (fun _ h => h))
        · replace hr := ite_f c26 hr
          refine G.go tv_X12_look 1 30 [(0, .ref (gAd E (56))), (1, .int (a0)), (2, .int (a1))] [.int ((0 : Int32))] rfl ?_
          cases hr
          exact G.iret rfl rfl ⟨rfl, ⟨_, _, r90⟩, ((Fr.rf.tr fa87 (fun _ h => h)).tr fa90 (fun _ h => h))⟩ (tbd tv_X12_look rfl)
def e_begin  (R : RfT) : Option (Int32 × RfT) := bnd2 (e_notMounted R) (fun v95 R95 => if v95 = 0 then if (rS R95 34) = 0 then ptR R95 34 ((1 : Int32)) (fun R96 => some ((1 : Int32), R96)) else some ((0 : Int32), R95) else some ((0 : Int32), R95))
set_option maxRecDepth 100000 in
set_option maxHeartbeats 4000000 in
theorem k_X12_begin (E : gE) (f : Nat → va_E) (hE : 94 ≤ gN E) (R : RfT) (w : RW E f R) (r : Int32) (R9 : RfT) (hr : e_begin R = some (r, R9)) : Ct E 3 yX12_begin cX12_begin 1 (some .boolean) [.ref (gAd E (56))] f (fun v g => v = some (.int r) ∧ RW E g R9 ∧ Fr RfK f g, fun _ _ => False) := by
  obtain ⟨az, sy, r0⟩ := w
  refine Ct.of (by decide) (Nat.le_of_ble_eq_true rfl) (fun sz => ?_)
  refine G.eql [(0, .ref (gAd E (56)))] rfl ?_
  unfold e_begin at hr
  refine G.go tv_X12_begin 1 1 [(0, .ref (gAd E (56)))] [.ref (gAd E (56))] rfl ?_
  obtain ⟨v95, R95, hv95, hr⟩ := bnd2_s hr
  refine G.callV (56) [] [] (k_X12_notMounted E _ hE R ⟨_, _, r0⟩ v95 R95 hv95) cls_X12 (by omega) (r0.o) cw_X12_403 w_2464 w_96 (Nat.le_of_ble_eq_true rfl) rfl (Nat.le_of_ble_eq_true rfl) (tbd tv_X12_begin rfl) (fun v95w f95 q95 => ?_) (fun _ _ h => h.elim)
  obtain ⟨rfl, ⟨az95, sy95, r95⟩, fa95⟩ := q95
  refine G.eqs [.int (v95)] rfl ?_
  refine G.if_ne 14 (tbd tv_X12_begin rfl) (by decide) (fun c4 => ?_) (fun c4 => ?_)
  · replace hr := ite_f c4 hr
    refine G.go tv_X12_begin 1 15 [(0, .ref (gAd E (56)))] [.int ((0 : Int32))] rfl ?_
    cases hr
    exact G.iret rfl rfl ⟨rfl, ⟨_, _, r95⟩, (Fr.rf.tr fa95 (fun _ h => h))⟩ (tbd tv_X12_begin rfl)
  · replace hr := ite_t c4 hr
    refine G.go tv_X12_begin 1 8 [(0, .ref (gAd E (56)))] [.ref (gAd E (56))] rfl ?_
    refine G.rg r95 hE 34 (.int (rS R95 34)) (by decide) rfl (tbd tv_X12_begin rfl) w_2099 ?_
    refine G.if_eq 16 (tbd tv_X12_begin rfl) (by decide) (fun c11 => ?_) (fun c11 => ?_)
    · replace hr := ite_t c11 hr
      refine G.go tv_X12_begin 2 18 [(0, .ref (gAd E (56)))] [.int ((1 : Int32)), .ref (gAd E (56))] rfl ?_
      obtain ⟨R96, eR96, hr⟩ := ptR_s hr
      refine G.rpW r95 hE 34 eR96 (by decide) rfl (by decide) rfl rfl rfl (tbd tv_X12_begin rfl) w_2099 (fun u96 r96 h96 => ?_)
      refine G.go tv_X12_begin 1 22 [(0, .ref (gAd E (56)))] [.int ((1 : Int32))] rfl ?_
      cases hr
      exact G.iret rfl rfl ⟨rfl, ⟨_, _, r96⟩, ((Fr.rf.tr fa95 (fun _ h => h)).tr h96 (fun _ h => h))⟩ (tbd tv_X12_begin rfl)
    · replace hr := ite_f c11 hr
      refine G.go tv_X12_begin 1 15 [(0, .ref (gAd E (56)))] [.int ((0 : Int32))] rfl ?_
      cases hr
      exact G.iret rfl rfl ⟨rfl, ⟨_, _, r95⟩, (Fr.rf.tr fa95 (fun _ h => h))⟩ (tbd tv_X12_begin rfl)
theorem w_2466 : Cond.methodLink "LedgerFilesModel" 406 yX12_backOut ∈ TB := tp_10 160 (by decide +kernel) rfl
theorem w_2469 : Cond.code yX12_backOut prog_14_method_74_code 2 none ∈ TB := tp_10 163 rfl rfl
theorem cw_X12_406 : Cw RX12 406 yX12_backOut cX12_backOut 2 none 0 := ⟨w_2466, w_2469, w_161, by decide +kernel, by decide +kernel, by decide⟩
theorem w_2468 : Cond.instanceMethod yX12_backOut ∈ TB := tp_10 162 (by decide +kernel) rfl
theorem w_97 : Cond.selects "LedgerFilesModel" yX12_backOut yX12_backOut ∈ TB := tp_0 97 (by decide +kernel) rfl
noncomputable def e_end  (R : RfT) : Option (Int32 × RfT) := bnd2 (e_notMounted R) (fun v97 R97 => if v97 = 0 then if (rS R97 34) = 0 then some ((-9 : Int32), R97) else bnd2 (e_changed R97) (fun v98 R98 => if v98 ≤ ((40 : Int32)) then ptR R98 34 ((0 : Int32)) (fun R99 => bnd2 (e_committed R99 v98) (fun v100 R100 => some (v100, R100))) else bnd (e_backOut R98) (fun R101 => bnd2 (e_answer R101 ((-12 : Int32))) (fun v102 R102 => some (v102, R102)))) else some ((0 : Int32), R97))
set_option maxRecDepth 100000 in
set_option maxHeartbeats 4000000 in
theorem k_X12_end (E : gE) (f : Nat → va_E) (hE : 94 ≤ gN E) (R : RfT) (w : RW E f R) (r : Int32) (R9 : RfT) (hr : e_end R = some (r, R9)) : Ct E 13 yX12_end cX12_end 2 (some .int) [.ref (gAd E (56))] f (fun v g => v = some (.int r) ∧ RW E g R9 ∧ Fr RfK f g, fun _ _ => False) := by
  obtain ⟨az, sy, r0⟩ := w
  refine Ct.of (by decide) (Nat.le_of_ble_eq_true rfl) (fun sz => ?_)
  refine G.eql [(0, .ref (gAd E (56)))] rfl ?_
  unfold e_end at hr
  refine G.go tv_X12_end 1 1 [(0, .ref (gAd E (56)))] [.ref (gAd E (56))] rfl ?_
  obtain ⟨v97, R97, hv97, hr⟩ := bnd2_s hr
  refine G.callV (56) [] [] (k_X12_notMounted E _ hE R ⟨_, _, r0⟩ v97 R97 hv97) cls_X12 (by omega) (r0.o) cw_X12_403 w_2464 w_96 (Nat.le_of_ble_eq_true rfl) rfl (Nat.le_of_ble_eq_true rfl) (tbd tv_X12_end rfl) (fun v97w f97 q97 => ?_) (fun _ _ h => h.elim)
  obtain ⟨rfl, ⟨az97, sy97, r97⟩, fa97⟩ := q97
  refine G.eqs [.int (v97)] rfl ?_
  refine G.if_eq 9 (tbd tv_X12_end rfl) (by decide) (fun c4 => ?_) (fun c4 => ?_)
  · replace hr := ite_t c4 hr
    refine G.go tv_X12_end 1 10 [(0, .ref (gAd E (56)))] [.ref (gAd E (56))] rfl ?_
    refine G.rg r97 hE 34 (.int (rS R97 34)) (by decide) rfl (tbd tv_X12_end rfl) w_2099 ?_
    refine G.if_ne 19 (tbd tv_X12_end rfl) (by decide) (fun c13 => ?_) (fun c13 => ?_)
    · replace hr := ite_f c13 hr
      refine G.go tv_X12_end 1 20 [(0, .ref (gAd E (56)))] [.ref (gAd E (56))] rfl ?_
      obtain ⟨v98, R98, hv98, hr⟩ := bnd2_s hr
      refine G.callV (56) [] [] (k_X12_changed E _ hE R97 ⟨_, _, r97⟩ v98 R98 hv98) cls_X12 (by omega) (r97.o) cw_X12_463 w_2611 w_127 (Nat.le_of_ble_eq_true rfl) rfl (Nat.le_of_ble_eq_true rfl) (tbd tv_X12_end rfl) (fun v98w f98 q98 => ?_) (fun _ _ h => h.elim)
      obtain ⟨rfl, ⟨az98, sy98, r98⟩, fa98⟩ := q98
      refine G.eqs [.int (v98)] rfl ?_
      refine G.go tv_X12_end 3 27 [(0, .ref (gAd E (56))), (1, .int (v98))] [.int ((40 : Int32)), .int (v98)] rfl ?_
      refine G.cmp_le 41 (tbd tv_X12_end rfl) (by decide) (fun c27 => ?_) (fun c27 => ?_)
      · replace hr := ite_t c27 hr
        refine G.go tv_X12_end 2 43 [(0, .ref (gAd E (56))), (1, .int (v98))] [.int ((0 : Int32)), .ref (gAd E (56))] rfl ?_
        obtain ⟨R99, eR99, hr⟩ := ptR_s hr
        refine G.rpW r98 hE 34 eR99 (by decide) rfl (by decide) rfl rfl rfl (tbd tv_X12_end rfl) w_2099 (fun u99 r99 h99 => ?_)
        refine G.go tv_X12_end 2 48 [(0, .ref (gAd E (56))), (1, .int (v98))] [.int (v98), .ref (gAd E (56))] rfl ?_
        obtain ⟨v100, R100, hv100, hr⟩ := bnd2_s hr
        refine G.callV (56) [.int (v98)] [] (k_X12_committed E _ hE R99 ⟨_, _, r99⟩ v98 v100 R100 hv100) cls_X12 (by omega) (r99.o) cw_X12_436 w_2563 w_119 (Nat.le_of_ble_eq_true rfl) rfl (Nat.le_of_ble_eq_true rfl) (tbd tv_X12_end rfl) (fun v100w f100 q100 => ?_) (fun _ _ h => h.elim)
        obtain ⟨rfl, ⟨az100, sy100, r100⟩, fa100⟩ := q100
        refine G.eqs [.int (v100)] rfl ?_
        cases hr
        exact G.iret rfl rfl ⟨rfl, ⟨_, _, r100⟩, ((((Fr.rf.tr fa97 (fun _ h => h)).tr fa98 (fun _ h => h)).tr h99 (fun _ h => h)).tr fa100 (fun _ h => h))⟩ (tbd tv_X12_end rfl)
      · replace hr := ite_f c27 hr
        refine G.go tv_X12_end 1 31 [(0, .ref (gAd E (56))), (1, .int (v98))] [.ref (gAd E (56))] rfl ?_
        obtain ⟨R101, hv101, hr⟩ := bnd_s hr
        refine G.callV (56) [] [] (k_X12_backOut E _ hE R98 ⟨_, _, r98⟩ R101 hv101) cls_X12 (by omega) (r98.o) cw_X12_406 w_2468 w_97 (Nat.le_of_ble_eq_true rfl) rfl (Nat.le_of_ble_eq_true rfl) (tbd tv_X12_end rfl) (fun v101w f101 q101 => ?_) (fun _ _ h => h.elim)
        obtain ⟨rfl, ⟨az101, sy101, r101⟩, fa101⟩ := q101
        refine G.eqs [] rfl ?_
        refine G.go tv_X12_end 2 37 [(0, .ref (gAd E (56))), (1, .int (v98))] [.int ((-12 : Int32)), .ref (gAd E (56))] rfl ?_
        obtain ⟨v102, R102, hv102, hr⟩ := bnd2_s hr
        refine G.callV (56) [.int ((-12 : Int32))] [] (k_X12_answer E _ hE R101 ⟨_, _, r101⟩ ((-12 : Int32)) v102 R102 hv102) cls_X12 (by omega) (r101.o) cw_X12_389 w_2339 w_69 (Nat.le_of_ble_eq_true rfl) rfl (Nat.le_of_ble_eq_true rfl) (tbd tv_X12_end rfl) (fun v102w f102 q102 => ?_) (fun _ _ h => h.elim)
        obtain ⟨rfl, ⟨az102, sy102, r102⟩, fa102⟩ := q102
        refine G.eqs [.int (v102)] rfl ?_
        cases hr
        exact G.iret rfl rfl ⟨rfl, ⟨_, _, r102⟩, ((((Fr.rf.tr fa97 (fun _ h => h)).tr fa98 (fun _ h => h)).tr fa101 (fun _ h => h)).tr fa102 (fun _ h => h))⟩ (tbd tv_X12_end rfl)
    · replace hr := ite_t c13 hr
      refine G.go tv_X12_end 1 18 [(0, .ref (gAd E (56)))] [.int ((-9 : Int32))] rfl ?_
      cases hr
      exact G.iret rfl rfl ⟨rfl, ⟨_, _, r97⟩, (Fr.rf.tr fa97 (fun _ h => h))⟩ (tbd tv_X12_end rfl)
  · replace hr := ite_f c4 hr
    refine G.go tv_X12_end 1 8 [(0, .ref (gAd E (56)))] [.int ((0 : Int32))] rfl ?_
    cases hr
    exact G.iret rfl rfl ⟨rfl, ⟨_, _, r97⟩, (Fr.rf.tr fa97 (fun _ h => h))⟩ (tbd tv_X12_end rfl)
noncomputable def e_undo  (R : RfT) : Option (Int32 × RfT) := bnd2 (e_notMounted R) (fun v103 R103 => if v103 = 0 then if (rS R103 34) = 0 then some ((-9 : Int32), R103) else bnd (e_backOut R103) (fun R104 => bnd2 (e_answer R104 ((0 : Int32))) (fun v105 R105 => some (v105, R105))) else some ((0 : Int32), R103))
set_option maxRecDepth 100000 in
set_option maxHeartbeats 4000000 in
theorem k_X12_undo (E : gE) (f : Nat → va_E) (hE : 94 ≤ gN E) (R : RfT) (w : RW E f R) (r : Int32) (R9 : RfT) (hr : e_undo R = some (r, R9)) : Ct E 13 yX12_undo cX12_undo 1 (some .int) [.ref (gAd E (56))] f (fun v g => v = some (.int r) ∧ RW E g R9 ∧ Fr RfK f g, fun _ _ => False) := by
  obtain ⟨az, sy, r0⟩ := w
  refine Ct.of (by decide) (Nat.le_of_ble_eq_true rfl) (fun sz => ?_)
  refine G.eql [(0, .ref (gAd E (56)))] rfl ?_
  unfold e_undo at hr
  refine G.go tv_X12_undo 1 1 [(0, .ref (gAd E (56)))] [.ref (gAd E (56))] rfl ?_
  obtain ⟨v103, R103, hv103, hr⟩ := bnd2_s hr
  refine G.callV (56) [] [] (k_X12_notMounted E _ hE R ⟨_, _, r0⟩ v103 R103 hv103) cls_X12 (by omega) (r0.o) cw_X12_403 w_2464 w_96 (Nat.le_of_ble_eq_true rfl) rfl (Nat.le_of_ble_eq_true rfl) (tbd tv_X12_undo rfl) (fun v103w f103 q103 => ?_) (fun _ _ h => h.elim)
  obtain ⟨rfl, ⟨az103, sy103, r103⟩, fa103⟩ := q103
  refine G.eqs [.int (v103)] rfl ?_
  refine G.if_eq 9 (tbd tv_X12_undo rfl) (by decide) (fun c4 => ?_) (fun c4 => ?_)
  · replace hr := ite_t c4 hr
    refine G.go tv_X12_undo 1 10 [(0, .ref (gAd E (56)))] [.ref (gAd E (56))] rfl ?_
    refine G.rg r103 hE 34 (.int (rS R103 34)) (by decide) rfl (tbd tv_X12_undo rfl) w_2099 ?_
    refine G.if_ne 19 (tbd tv_X12_undo rfl) (by decide) (fun c13 => ?_) (fun c13 => ?_)
    · replace hr := ite_f c13 hr
      refine G.go tv_X12_undo 1 20 [(0, .ref (gAd E (56)))] [.ref (gAd E (56))] rfl ?_
      obtain ⟨R104, hv104, hr⟩ := bnd_s hr
      refine G.callV (56) [] [] (k_X12_backOut E _ hE R103 ⟨_, _, r103⟩ R104 hv104) cls_X12 (by omega) (r103.o) cw_X12_406 w_2468 w_97 (Nat.le_of_ble_eq_true rfl) rfl (Nat.le_of_ble_eq_true rfl) (tbd tv_X12_undo rfl) (fun v104w f104 q104 => ?_) (fun _ _ h => h.elim)
      obtain ⟨rfl, ⟨az104, sy104, r104⟩, fa104⟩ := q104
      refine G.eqs [] rfl ?_
      refine G.go tv_X12_undo 2 25 [(0, .ref (gAd E (56)))] [.int ((0 : Int32)), .ref (gAd E (56))] rfl ?_
      obtain ⟨v105, R105, hv105, hr⟩ := bnd2_s hr
      refine G.callV (56) [.int ((0 : Int32))] [] (k_X12_answer E _ hE R104 ⟨_, _, r104⟩ ((0 : Int32)) v105 R105 hv105) cls_X12 (by omega) (r104.o) cw_X12_389 w_2339 w_69 (Nat.le_of_ble_eq_true rfl) rfl (Nat.le_of_ble_eq_true rfl) (tbd tv_X12_undo rfl) (fun v105w f105 q105 => ?_) (fun _ _ h => h.elim)
      obtain ⟨rfl, ⟨az105, sy105, r105⟩, fa105⟩ := q105
      refine G.eqs [.int (v105)] rfl ?_
      cases hr
      exact G.iret rfl rfl ⟨rfl, ⟨_, _, r105⟩, (((Fr.rf.tr fa103 (fun _ h => h)).tr fa104 (fun _ h => h)).tr fa105 (fun _ h => h))⟩ (tbd tv_X12_undo rfl)
    · replace hr := ite_t c13 hr
      refine G.go tv_X12_undo 1 18 [(0, .ref (gAd E (56)))] [.int ((-9 : Int32))] rfl ?_
      cases hr
      exact G.iret rfl rfl ⟨rfl, ⟨_, _, r103⟩, (Fr.rf.tr fa103 (fun _ h => h))⟩ (tbd tv_X12_undo rfl)
  · replace hr := ite_f c4 hr
    refine G.go tv_X12_undo 1 8 [(0, .ref (gAd E (56)))] [.int ((0 : Int32))] rfl ?_
    cases hr
    exact G.iret rfl rfl ⟨rfl, ⟨_, _, r103⟩, (Fr.rf.tr fa103 (fun _ h => h))⟩ (tbd tv_X12_undo rfl)
noncomputable def e_flush  (R : RfT) : Option (Int32 × RfT) := bnd2 (e_notMounted R) (fun v106 R106 => if v106 = 0 then bnd2 (e_flushQueue R106) (fun v107 R107 => bnd2 (e_answer R107 v107) (fun v108 R108 => some (v108, R108))) else some ((0 : Int32), R106))
set_option maxRecDepth 100000 in
set_option maxHeartbeats 4000000 in
theorem k_X12_flush (E : gE) (f : Nat → va_E) (hE : 94 ≤ gN E) (R : RfT) (w : RW E f R) (r : Int32) (R9 : RfT) (hr : e_flush R = some (r, R9)) : Ct E 10 yX12_flush cX12_flush 1 (some .int) [.ref (gAd E (56))] f (fun v g => v = some (.int r) ∧ RW E g R9 ∧ Fr RfK f g, fun _ _ => False) := by
  obtain ⟨az, sy, r0⟩ := w
  refine Ct.of (by decide) (Nat.le_of_ble_eq_true rfl) (fun sz => ?_)
  refine G.eql [(0, .ref (gAd E (56)))] rfl ?_
  unfold e_flush at hr
  refine G.go tv_X12_flush 1 1 [(0, .ref (gAd E (56)))] [.ref (gAd E (56))] rfl ?_
  obtain ⟨v106, R106, hv106, hr⟩ := bnd2_s hr
  refine G.callV (56) [] [] (k_X12_notMounted E _ hE R ⟨_, _, r0⟩ v106 R106 hv106) cls_X12 (by omega) (r0.o) cw_X12_403 w_2464 w_96 (Nat.le_of_ble_eq_true rfl) rfl (Nat.le_of_ble_eq_true rfl) (tbd tv_X12_flush rfl) (fun v106w f106 q106 => ?_) (fun _ _ h => h.elim)
  obtain ⟨rfl, ⟨az106, sy106, r106⟩, fa106⟩ := q106
  refine G.eqs [.int (v106)] rfl ?_
  refine G.if_eq 9 (tbd tv_X12_flush rfl) (by decide) (fun c4 => ?_) (fun c4 => ?_)
  · replace hr := ite_t c4 hr
    refine G.go tv_X12_flush 2 11 [(0, .ref (gAd E (56)))] [.ref (gAd E (56)), .ref (gAd E (56))] rfl ?_
    obtain ⟨v107, R107, hv107, hr⟩ := bnd2_s hr
    refine G.callV (56) [] [.ref (gAd E (56))] (k_X12_flushQueue E _ hE R106 ⟨_, _, r106⟩ v107 R107 hv107) cls_X12 (by omega) (r106.o) cw_X12_288 w_2440 w_91 (Nat.le_of_ble_eq_true rfl) rfl (Nat.le_of_ble_eq_true rfl) (tbd tv_X12_flush rfl) (fun v107w f107 q107 => ?_) (fun _ _ h => h.elim)
    obtain ⟨rfl, ⟨az107, sy107, r107⟩, fa107⟩ := q107
    refine G.eqs [.int (v107), .ref (gAd E (56))] rfl ?_
    obtain ⟨v108, R108, hv108, hr⟩ := bnd2_s hr
    refine G.callV (56) [.int (v107)] [] (k_X12_answer E _ hE R107 ⟨_, _, r107⟩ v107 v108 R108 hv108) cls_X12 (by omega) (r107.o) cw_X12_389 w_2339 w_69 (Nat.le_of_ble_eq_true rfl) rfl (Nat.le_of_ble_eq_true rfl) (tbd tv_X12_flush rfl) (fun v108w f108 q108 => ?_) (fun _ _ h => h.elim)
    obtain ⟨rfl, ⟨az108, sy108, r108⟩, fa108⟩ := q108
    refine G.eqs [.int (v108)] rfl ?_
    cases hr
    exact G.iret rfl rfl ⟨rfl, ⟨_, _, r108⟩, (((Fr.rf.tr fa106 (fun _ h => h)).tr fa107 (fun _ h => h)).tr fa108 (fun _ h => h))⟩ (tbd tv_X12_flush rfl)
  · replace hr := ite_f c4 hr
    refine G.go tv_X12_flush 1 8 [(0, .ref (gAd E (56)))] [.int ((0 : Int32))] rfl ?_
    cases hr
    exact G.iret rfl rfl ⟨rfl, ⟨_, _, r106⟩, (Fr.rf.tr fa106 (fun _ h => h))⟩ (tbd tv_X12_flush rfl)
def e_heldAt (R : RfT) (a0 : Int32) : Option (Int32) := ld (rA R 39) 1024 a0 (fun v124 => some v124)
set_option maxRecDepth 100000 in
set_option maxHeartbeats 4000000 in
theorem k_X12_heldAt (E : gE) (f : Nat → va_E) (hE : 94 ≤ gN E) (R : RfT) (w : RW E f R) (a0 : Int32) (r : Int32) (hr : e_heldAt R a0 = some r) : Ct E 1 yX12_heldAt cX12_heldAt 2 (some .int) [.ref (gAd E (56)), .int (a0)] f (fun v g => v = some (.int r) ∧ RW E g R ∧ Fr RfK f g, fun _ _ => False) := by
  obtain ⟨az, sy, r0⟩ := w
  refine Ct.of (by decide) (Nat.le_of_ble_eq_true rfl) (fun sz => ?_)
  refine G.eql [(0, .ref (gAd E (56))), (1, .int (a0))] rfl ?_
  unfold e_heldAt at hr
  refine G.go tv_X12_heldAt 1 1 [(0, .ref (gAd E (56))), (1, .int (a0))] [.ref (gAd E (56))] rfl ?_
  refine G.rg r0 hE 39 (.ref (gAd E (76))) (by decide) rfl (tbd tv_X12_heldAt rfl) w_2104 ?_
  refine G.go tv_X12_heldAt 1 5 [(0, .ref (gAd E (56))), (1, .int (a0))] [.int (a0), .ref (gAd E (76))] rfl ?_
  obtain ⟨v124, b124, e124, hr⟩ := ld_s hr
  refine G.ialdE (76) (by omega) (r0.a39) b124 e124 (tbd tv_X12_heldAt rfl) ?_
  cases hr
  exact G.iret rfl rfl ⟨rfl, ⟨_, _, r0⟩, Fr.rf⟩ (tbd tv_X12_heldAt rfl)
noncomputable def e_sync_126  (self89 : RfT → Int32 → Int32 → Option (Int32 × RfT)) (R : RfT) (x4 : Int32) (x5 : Int32) (x6 : Int32) : Option (Int32 × RfT) := if x6 = ((-1 : Int32)) then self89 R x4 (x5 + (1 : Int32)) else bnd (e_writeDisk_63 R x5 (((128 : Int32)) * (x6))) (fun R125 => if (rS R125 11) = 0 then self89 R125 x4 (x5 + (1 : Int32)) else bnd (e_leave R125 x6) (fun R126 => self89 R126 (x4 + (1 : Int32)) (x5 + (1 : Int32))))
noncomputable def e_sync_89  : Nat → RfT → Int32 → Int32 → Option (Int32 × RfT)
  | 0, _, _, _ => none
  | n + 1, R, x4, x5 => if ((1024 : Int32)) ≤ x5 then if (rS R 11) = 0 then bnd2 (e_answer R x4) (fun v116 R116 => some (v116, R116)) else bnd (e_syncDisk R) (fun R117 => bnd2 (e_answer R117 x4) (fun v118 R118 => some (v118, R118))) else if (rS R 11) = 0 then if (rS R 11) = 0 then bnd2 (e_answer R x4) (fun v119 R119 => some (v119, R119)) else bnd (e_syncDisk R) (fun R120 => bnd2 (e_answer R120 x4) (fun v121 R121 => some (v121, R121))) else ld (rA R 49) 1024 x5 (fun v122 => if v122 = 0 then e_sync_126  (e_sync_89  n) R x4 x5 ((-1 : Int32)) else bnd (e_heldAt R x5) (fun v123 => e_sync_126  (e_sync_89  n) R x4 x5 v123))
noncomputable def e_sync_51  : Nat → RfT → Int32 → Int32 → Int32 → Option (Int32 × RfT)
  | 0, _, _, _, _ => none
  | n + 1, R, x1, x3, x4 => if x3 ≤ x4 then stR R 49 1024 ((0 : Int32)) (vp_nar .boolean ((0 : Int32))) (fun R113 => e_sync_89  fuL R113 ((0 : Int32)) ((0 : Int32))) else bnd (e_blockOf R x1 x4) (fun v114 => stR R 49 1024 v114 (vp_nar .boolean ((1 : Int32))) (fun R115 => e_sync_51  n R115 x1 x3 (x4 + (1 : Int32))))
noncomputable def e_sync  (R : RfT) (a0 : Int32) : Option (Int32 × RfT) := bnd2 (e_notMounted R) (fun v109 R109 => if v109 = 0 then bnd (e_kind R109 a0) (fun v110 => if v110 = ((1 : Int32)) then bnd (e_size R109 a0) (fun v111 => nm ((((v111) + ((128 : Int32))) - ((1 : Int32))) / ((128 : Int32))) (fun v112 => e_sync_51  fuL R109 a0 v112 ((0 : Int32)))) else if v110 = 0 then some ((-11 : Int32), R109) else some ((-4 : Int32), R109)) else some ((0 : Int32), R109))
set_option maxRecDepth 100000 in
set_option maxHeartbeats 4000000 in
theorem l_X12_sync_126 (E : gE) (f0 : Nat → va_E) (sz : Nat) (QA : Nat → Prop) (hE : 94 ≤ gN E) (self89 : RfT → Int32 → Int32 → Option (Int32 × RfT)) (hs89 : ∀ (R : RfT) (x4 : Int32) (x5 : Int32) (r : Int32) (R9 : RfT) (hr : self89 R x4 x5 = some (r, R9)) (f : Nat → va_E) (w : RW E f R) (hf : Fr RfK f0 f), G E (6, yX12_sync, 7, (some .int), sz, QA) cX12_sync (gO E (6, yX12_sync, 7, (some .int), sz, QA) (fun v g => v = some (.int r) ∧ RW E g R9 ∧ Fr RfK f0 g, fun _ _ => False)) 89 [(0, .ref (gAd E (56))), (4, .int (x4)), (5, .int (x5))] [] f) : ∀ (R : RfT) (x4 : Int32) (x5 : Int32) (x6 : Int32) (r : Int32) (R9 : RfT) (hr : e_sync_126  self89 R x4 x5 x6 = some (r, R9)) (f : Nat → va_E) (w : RW E f R) (hf : Fr RfK f0 f), G E (6, yX12_sync, 7, (some .int), sz, QA) cX12_sync (gO E (6, yX12_sync, 7, (some .int), sz, QA) (fun v g => v = some (.int r) ∧ RW E g R9 ∧ Fr RfK f0 g, fun _ _ => False)) 126 [(0, .ref (gAd E (56))), (4, .int (x4)), (5, .int (x5)), (6, .int (x6))] [] f := by
  intro R x4 x5 x6 r R9 hr f w hf
  obtain ⟨az, sy, r0⟩ := w
  unfold e_sync_126 at hr
  refine G.go tv_X12_sync 2 129 [(0, .ref (gAd E (56))), (4, .int (x4)), (5, .int (x5)), (6, .int (x6))] [.int ((-1 : Int32)), .int (x6)] rfl ?_
  refine G.cmp_eq 164 (tbd tv_X12_sync rfl) (by decide) (fun c129 => ?_) (fun c129 => ?_)
  · replace hr := ite_t c129 hr
    refine G.go tv_X12_sync 2 89 [(0, .ref (gAd E (56))), (4, .int (x4)), (5, .int (x5 + (1 : Int32))), (6, .int (x6))] [] rfl ?_
    refine G.less [(0, .ref (gAd E (56))), (4, .int (x4)), (5, .int (x5 + (1 : Int32)))] [0, 1, 2] rfl ?_
    exact hs89 _ _ _ _ _ hr _ ⟨_, _, r0⟩ hf
  · replace hr := ite_f c129 hr
    refine G.go tv_X12_sync 3 136 [(0, .ref (gAd E (56))), (4, .int (x4)), (5, .int (x5)), (6, .int (x6))] [.ref (gAd E (56)), .int (x5), .ref (gAd E (56))] rfl ?_
    refine G.rg r0 hE 17 (.ref (gAd E (63))) (by decide) rfl (tbd tv_X12_sync rfl) w_2082 ?_
    refine G.go tv_X12_sync 3 145 [(0, .ref (gAd E (56))), (4, .int (x4)), (5, .int (x5)), (6, .int (x6))] [.int (((128 : Int32)) * (x6)), .ref (gAd E (63)), .int (x5), .ref (gAd E (56))] rfl ?_
    obtain ⟨R125, hv125, hr⟩ := bnd_s hr
    refine G.callV (56) [.int (x5), .ref (gAd E (63)), .int (((128 : Int32)) * (x6))] [] (k_X12_writeDisk_63 E _ hE R ⟨_, _, r0⟩ x5 (((128 : Int32)) * (x6)) R125 hv125) cls_X12 (by omega) (r0.o) cw_X12_201 w_2288 w_58 (Nat.le_of_ble_eq_true rfl) rfl (Nat.le_of_ble_eq_true rfl) (tbd tv_X12_sync rfl) (fun v125w f125 q125 => ?_) (fun _ _ h => h.elim)
    obtain ⟨rfl, ⟨az125, sy125, r125⟩, fa125⟩ := q125
    refine G.eqs [] rfl ?_
    refine G.go tv_X12_sync 1 149 [(0, .ref (gAd E (56))), (4, .int (x4)), (5, .int (x5)), (6, .int (x6))] [.ref (gAd E (56))] rfl ?_
    refine G.rg r125 hE 11 (.int (rS R125 11)) (by decide) rfl (tbd tv_X12_sync rfl) w_2076 ?_
    refine G.if_eq 164 (tbd tv_X12_sync rfl) (by decide) (fun c152 => ?_) (fun c152 => ?_)
    · replace hr := ite_t c152 hr
      refine G.go tv_X12_sync 2 89 [(0, .ref (gAd E (56))), (4, .int (x4)), (5, .int (x5 + (1 : Int32))), (6, .int (x6))] [] rfl ?_
      refine G.less [(0, .ref (gAd E (56))), (4, .int (x4)), (5, .int (x5 + (1 : Int32)))] [0, 1, 2] rfl ?_
      exact hs89 _ _ _ _ _ hr _ ⟨_, _, r125⟩ (hf.tr fa125 (fun _ h => h))
    · replace hr := ite_f c152 hr
      refine G.go tv_X12_sync 2 158 [(0, .ref (gAd E (56))), (4, .int (x4)), (5, .int (x5)), (6, .int (x6))] [.int (x6), .ref (gAd E (56))] rfl ?_
      obtain ⟨R126, hv126, hr⟩ := bnd_s hr
      refine G.callV (56) [.int (x6)] [] (k_X12_leave E _ hE R125 ⟨_, _, r125⟩ x6 R126 hv126) cls_X12 (by omega) (r125.o) cw_X12_208 w_2311 w_63 (Nat.le_of_ble_eq_true rfl) rfl (Nat.le_of_ble_eq_true rfl) (tbd tv_X12_sync rfl) (fun v126w f126 q126 => ?_) (fun _ _ h => h.elim)
      obtain ⟨rfl, ⟨az126, sy126, r126⟩, fa126⟩ := q126
      refine G.eqs [] rfl ?_
      refine G.go tv_X12_sync 3 89 [(0, .ref (gAd E (56))), (4, .int (x4 + (1 : Int32))), (5, .int (x5 + (1 : Int32))), (6, .int (x6))] [] rfl ?_
      refine G.less [(0, .ref (gAd E (56))), (4, .int (x4 + (1 : Int32))), (5, .int (x5 + (1 : Int32)))] [0, 1, 2] rfl ?_
      exact hs89 _ _ _ _ _ hr _ ⟨_, _, r126⟩ ((hf.tr fa125 (fun _ h => h)).tr fa126 (fun _ h => h))
set_option maxRecDepth 100000 in
set_option maxHeartbeats 4000000 in
theorem l_X12_sync_89 (E : gE) (f0 : Nat → va_E) (sz : Nat) (QA : Nat → Prop) (hE : 94 ≤ gN E) : ∀ (n : Nat), ∀ (R : RfT) (x4 : Int32) (x5 : Int32) (r : Int32) (R9 : RfT) (hr : e_sync_89  n R x4 x5 = some (r, R9)) (f : Nat → va_E) (w : RW E f R) (hf : Fr RfK f0 f), G E (6, yX12_sync, 7, (some .int), sz, QA) cX12_sync (gO E (6, yX12_sync, 7, (some .int), sz, QA) (fun v g => v = some (.int r) ∧ RW E g R9 ∧ Fr RfK f0 g, fun _ _ => False)) 89 [(0, .ref (gAd E (56))), (4, .int (x4)), (5, .int (x5))] [] f := by
  intro n
  induction n with
  | zero =>
    intro R x4 x5 r R9 hr f w hf
    cases hr
  | succ n ih =>
    intro R x4 x5 r R9 hr f w hf
    obtain ⟨az, sy, r0⟩ := w
    unfold e_sync_89 at hr
    refine G.go tv_X12_sync 2 94 [(0, .ref (gAd E (56))), (4, .int (x4)), (5, .int (x5))] [.int ((1024 : Int32)), .int (x5)] rfl ?_
    refine G.cmp_ge 170 (tbd tv_X12_sync rfl) (by decide) (fun c94 => ?_) (fun c94 => ?_)
    · replace hr := ite_t c94 hr
      refine G.go tv_X12_sync 1 171 [(0, .ref (gAd E (56))), (4, .int (x4)), (5, .int (x5))] [.ref (gAd E (56))] rfl ?_
      refine G.rg r0 hE 11 (.int (rS R 11)) (by decide) rfl (tbd tv_X12_sync rfl) w_2076 ?_
      refine G.if_eq 181 (tbd tv_X12_sync rfl) (by decide) (fun c174 => ?_) (fun c174 => ?_)
      · replace hr := ite_t c174 hr
        refine G.go tv_X12_sync 2 184 [(0, .ref (gAd E (56))), (4, .int (x4)), (5, .int (x5))] [.int (x4), .ref (gAd E (56))] rfl ?_
        obtain ⟨v116, R116, hv116, hr⟩ := bnd2_s hr
        refine G.callV (56) [.int (x4)] [] (k_X12_answer E _ hE R ⟨_, _, r0⟩ x4 v116 R116 hv116) cls_X12 (by omega) (r0.o) cw_X12_389 w_2339 w_69 (Nat.le_of_ble_eq_true rfl) rfl (Nat.le_of_ble_eq_true rfl) (tbd tv_X12_sync rfl) (fun v116w f116 q116 => ?_) (fun _ _ h => h.elim)
        obtain ⟨rfl, ⟨az116, sy116, r116⟩, fa116⟩ := q116
        refine G.eqs [.int (v116)] rfl ?_
        cases hr
        exact G.iret rfl rfl ⟨rfl, ⟨_, _, r116⟩, (hf.tr fa116 (fun _ h => h))⟩ (tbd tv_X12_sync rfl)
      · replace hr := ite_f c174 hr
        refine G.go tv_X12_sync 1 178 [(0, .ref (gAd E (56))), (4, .int (x4)), (5, .int (x5))] [.ref (gAd E (56))] rfl ?_
        obtain ⟨R117, hv117, hr⟩ := bnd_s hr
        refine G.callV (56) [] [] (k_X12_syncDisk E _ hE R ⟨_, _, r0⟩ R117 hv117) cls_X12 (by omega) (r0.o) cw_X12_219 w_2323 w_66 (Nat.le_of_ble_eq_true rfl) rfl (Nat.le_of_ble_eq_true rfl) (tbd tv_X12_sync rfl) (fun v117w f117 q117 => ?_) (fun _ _ h => h.elim)
        obtain ⟨rfl, ⟨az117, sy117, r117⟩, fa117⟩ := q117
        refine G.eqs [] rfl ?_
        refine G.go tv_X12_sync 2 184 [(0, .ref (gAd E (56))), (4, .int (x4)), (5, .int (x5))] [.int (x4), .ref (gAd E (56))] rfl ?_
        obtain ⟨v118, R118, hv118, hr⟩ := bnd2_s hr
        refine G.callV (56) [.int (x4)] [] (k_X12_answer E _ hE R117 ⟨_, _, r117⟩ x4 v118 R118 hv118) cls_X12 (by omega) (r117.o) cw_X12_389 w_2339 w_69 (Nat.le_of_ble_eq_true rfl) rfl (Nat.le_of_ble_eq_true rfl) (tbd tv_X12_sync rfl) (fun v118w f118 q118 => ?_) (fun _ _ h => h.elim)
        obtain ⟨rfl, ⟨az118, sy118, r118⟩, fa118⟩ := q118
        refine G.eqs [.int (v118)] rfl ?_
        cases hr
        exact G.iret rfl rfl ⟨rfl, ⟨_, _, r118⟩, ((hf.tr fa117 (fun _ h => h)).tr fa118 (fun _ h => h))⟩ (tbd tv_X12_sync rfl)
    · replace hr := ite_f c94 hr
      refine G.go tv_X12_sync 1 98 [(0, .ref (gAd E (56))), (4, .int (x4)), (5, .int (x5))] [.ref (gAd E (56))] rfl ?_
      refine G.rg r0 hE 11 (.int (rS R 11)) (by decide) rfl (tbd tv_X12_sync rfl) w_2076 ?_
      refine G.if_eq 170 (tbd tv_X12_sync rfl) (by decide) (fun c101 => ?_) (fun c101 => ?_)
      · replace hr := ite_t c101 hr
        refine G.go tv_X12_sync 1 171 [(0, .ref (gAd E (56))), (4, .int (x4)), (5, .int (x5))] [.ref (gAd E (56))] rfl ?_
        refine G.rg r0 hE 11 (.int (rS R 11)) (by decide) rfl (tbd tv_X12_sync rfl) w_2076 ?_
        refine G.if_eq 181 (tbd tv_X12_sync rfl) (by decide) (fun c174 => ?_) (fun c174 => ?_)
        · replace hr := ite_t c174 hr
          refine G.go tv_X12_sync 2 184 [(0, .ref (gAd E (56))), (4, .int (x4)), (5, .int (x5))] [.int (x4), .ref (gAd E (56))] rfl ?_
          obtain ⟨v119, R119, hv119, hr⟩ := bnd2_s hr
          refine G.callV (56) [.int (x4)] [] (k_X12_answer E _ hE R ⟨_, _, r0⟩ x4 v119 R119 hv119) cls_X12 (by omega) (r0.o) cw_X12_389 w_2339 w_69 (Nat.le_of_ble_eq_true rfl) rfl (Nat.le_of_ble_eq_true rfl) (tbd tv_X12_sync rfl) (fun v119w f119 q119 => ?_) (fun _ _ h => h.elim)
          obtain ⟨rfl, ⟨az119, sy119, r119⟩, fa119⟩ := q119
          refine G.eqs [.int (v119)] rfl ?_
          cases hr
          exact G.iret rfl rfl ⟨rfl, ⟨_, _, r119⟩, (hf.tr fa119 (fun _ h => h))⟩ (tbd tv_X12_sync rfl)
        · replace hr := ite_f c174 hr
          refine G.go tv_X12_sync 1 178 [(0, .ref (gAd E (56))), (4, .int (x4)), (5, .int (x5))] [.ref (gAd E (56))] rfl ?_
          obtain ⟨R120, hv120, hr⟩ := bnd_s hr
          refine G.callV (56) [] [] (k_X12_syncDisk E _ hE R ⟨_, _, r0⟩ R120 hv120) cls_X12 (by omega) (r0.o) cw_X12_219 w_2323 w_66 (Nat.le_of_ble_eq_true rfl) rfl (Nat.le_of_ble_eq_true rfl) (tbd tv_X12_sync rfl) (fun v120w f120 q120 => ?_) (fun _ _ h => h.elim)
          obtain ⟨rfl, ⟨az120, sy120, r120⟩, fa120⟩ := q120
          refine G.eqs [] rfl ?_
          refine G.go tv_X12_sync 2 184 [(0, .ref (gAd E (56))), (4, .int (x4)), (5, .int (x5))] [.int (x4), .ref (gAd E (56))] rfl ?_
          obtain ⟨v121, R121, hv121, hr⟩ := bnd2_s hr
          refine G.callV (56) [.int (x4)] [] (k_X12_answer E _ hE R120 ⟨_, _, r120⟩ x4 v121 R121 hv121) cls_X12 (by omega) (r120.o) cw_X12_389 w_2339 w_69 (Nat.le_of_ble_eq_true rfl) rfl (Nat.le_of_ble_eq_true rfl) (tbd tv_X12_sync rfl) (fun v121w f121 q121 => ?_) (fun _ _ h => h.elim)
          obtain ⟨rfl, ⟨az121, sy121, r121⟩, fa121⟩ := q121
          refine G.eqs [.int (v121)] rfl ?_
          cases hr
          exact G.iret rfl rfl ⟨rfl, ⟨_, _, r121⟩, ((hf.tr fa120 (fun _ h => h)).tr fa121 (fun _ h => h))⟩ (tbd tv_X12_sync rfl)
      · replace hr := ite_f c101 hr
        refine G.go tv_X12_sync 1 105 [(0, .ref (gAd E (56))), (4, .int (x4)), (5, .int (x5))] [.ref (gAd E (56))] rfl ?_
        refine G.rg r0 hE 49 (.ref (gAd E (83))) (by decide) rfl (tbd tv_X12_sync rfl) w_2114 ?_
        refine G.go tv_X12_sync 1 110 [(0, .ref (gAd E (56))), (4, .int (x4)), (5, .int (x5))] [.int (x5), .ref (gAd E (83))] rfl ?_
        obtain ⟨v122, b122, e122, hr⟩ := ld_s hr
        refine G.zaldE (83) (by omega) (r0.a49) b122 e122 (tbd tv_X12_sync rfl) ?_
        refine G.if_eq 123 (tbd tv_X12_sync rfl) (by decide) (fun c111 => ?_) (fun c111 => ?_)
        · replace hr := ite_t c111 hr
          refine G.go tv_X12_sync 2 126 [(0, .ref (gAd E (56))), (4, .int (x4)), (5, .int (x5)), (6, .int ((-1 : Int32)))] [] rfl ?_
          refine G.less [(0, .ref (gAd E (56))), (4, .int (x4)), (5, .int (x5)), (6, .int ((-1 : Int32)))] [0, 1, 2, 3] rfl ?_
          exact l_X12_sync_126 E f0 sz QA hE _ ih _ _ _ _ _ _ hr _ ⟨_, _, r0⟩ hf
        · replace hr := ite_f c111 hr
          refine G.go tv_X12_sync 2 117 [(0, .ref (gAd E (56))), (4, .int (x4)), (5, .int (x5))] [.int (x5), .ref (gAd E (56))] rfl ?_
          obtain ⟨v123, hv123, hr⟩ := bnd_s hr
          refine G.callV (56) [.int (x5)] [] (k_X12_heldAt E _ hE R ⟨_, _, r0⟩ x5 v123 hv123) cls_X12 (by omega) (r0.o) cw_X12_197 w_2284 w_57 (Nat.le_of_ble_eq_true rfl) rfl (Nat.le_of_ble_eq_true rfl) (tbd tv_X12_sync rfl) (fun v123w f123 q123 => ?_) (fun _ _ h => h.elim)
          obtain ⟨rfl, ⟨az123, sy123, r123⟩, fa123⟩ := q123
          refine G.eqs [.int (v123)] rfl ?_
          refine G.go tv_X12_sync 2 126 [(0, .ref (gAd E (56))), (4, .int (x4)), (5, .int (x5)), (6, .int (v123))] [] rfl ?_
          refine G.less [(0, .ref (gAd E (56))), (4, .int (x4)), (5, .int (x5)), (6, .int (v123))] [0, 1, 2, 3] rfl ?_
          exact l_X12_sync_126 E f0 sz QA hE _ ih _ _ _ _ _ _ hr _ ⟨_, _, r123⟩ (hf.tr fa123 (fun _ h => h))
set_option maxRecDepth 100000 in
set_option maxHeartbeats 4000000 in
theorem l_X12_sync_51 (E : gE) (f0 : Nat → va_E) (sz : Nat) (QA : Nat → Prop) (hE : 94 ≤ gN E) : ∀ (n : Nat), ∀ (R : RfT) (x1 : Int32) (x3 : Int32) (x4 : Int32) (r : Int32) (R9 : RfT) (hr : e_sync_51  n R x1 x3 x4 = some (r, R9)) (f : Nat → va_E) (w : RW E f R) (hf : Fr RfK f0 f), G E (6, yX12_sync, 7, (some .int), sz, QA) cX12_sync (gO E (6, yX12_sync, 7, (some .int), sz, QA) (fun v g => v = some (.int r) ∧ RW E g R9 ∧ Fr RfK f0 g, fun _ _ => False)) 51 [(0, .ref (gAd E (56))), (1, .int (x1)), (3, .int (x3)), (4, .int (x4))] [] f := by
  intro n
  induction n with
  | zero =>
    intro R x1 x3 x4 r R9 hr f w hf
    cases hr
  | succ n ih =>
    intro R x1 x3 x4 r R9 hr f w hf
    obtain ⟨az, sy, r0⟩ := w
    unfold e_sync_51 at hr
    refine G.go tv_X12_sync 2 54 [(0, .ref (gAd E (56))), (1, .int (x1)), (3, .int (x3)), (4, .int (x4))] [.int (x3), .int (x4)] rfl ?_
    refine G.cmp_ge 76 (tbd tv_X12_sync rfl) (by decide) (fun c54 => ?_) (fun c54 => ?_)
    · replace hr := ite_t c54 hr
      refine G.go tv_X12_sync 1 77 [(0, .ref (gAd E (56))), (1, .int (x1)), (3, .int (x3)), (4, .int (x4))] [.ref (gAd E (56))] rfl ?_
      refine G.rg r0 hE 49 (.ref (gAd E (83))) (by decide) rfl (tbd tv_X12_sync rfl) w_2114 ?_
      refine G.go tv_X12_sync 2 82 [(0, .ref (gAd E (56))), (1, .int (x1)), (3, .int (x3)), (4, .int (x4))] [.int ((0 : Int32)), .int ((0 : Int32)), .ref (gAd E (83))] rfl ?_
      obtain ⟨R113, b113, eR113, hr⟩ := stR_s hr
      refine G.zast (83) (by omega) (r0.a49) b113 (tbd tv_X12_sync rfl) ?_
      refine G.gen (P := fun w9 => RfV E w9 (setSr (setS R113 42 az) sy) ∧ Fr RfK f0 w9) ⟨by rw [eR113]; exact r0.p49 _, Fr.up hf ⟨by decide, by decide⟩⟩ (fun u113 p113 => ?_)
      obtain ⟨r113, h113⟩ := p113
      refine G.go tv_X12_sync 4 89 [(0, .ref (gAd E (56))), (1, .int (x1)), (3, .int (x3)), (4, .int ((0 : Int32))), (5, .int ((0 : Int32)))] [] rfl ?_
      refine G.less [(0, .ref (gAd E (56))), (4, .int ((0 : Int32))), (5, .int ((0 : Int32)))] [0, 3, 4] rfl ?_
      exact l_X12_sync_89 E f0 sz QA hE _ _ _ _ _ _ hr _ ⟨_, _, r113⟩ h113
    · replace hr := ite_f c54 hr
      refine G.go tv_X12_sync 1 58 [(0, .ref (gAd E (56))), (1, .int (x1)), (3, .int (x3)), (4, .int (x4))] [.ref (gAd E (56))] rfl ?_
      refine G.rg r0 hE 49 (.ref (gAd E (83))) (by decide) rfl (tbd tv_X12_sync rfl) w_2114 ?_
      refine G.go tv_X12_sync 3 65 [(0, .ref (gAd E (56))), (1, .int (x1)), (3, .int (x3)), (4, .int (x4))] [.int (x4), .int (x1), .ref (gAd E (56)), .ref (gAd E (83))] rfl ?_
      obtain ⟨v114, hv114, hr⟩ := bnd_s hr
      refine G.callV (56) [.int (x1), .int (x4)] [.ref (gAd E (83))] (k_X12_blockOf E _ hE R ⟨_, _, r0⟩ x1 x4 v114 hv114) cls_X12 (by omega) (r0.o) cw_X12_323 w_2507 w_105 (Nat.le_of_ble_eq_true rfl) rfl (Nat.le_of_ble_eq_true rfl) (tbd tv_X12_sync rfl) (fun v114w f114 q114 => ?_) (fun _ _ h => h.elim)
      obtain ⟨rfl, ⟨az114, sy114, r114⟩, fa114⟩ := q114
      refine G.eqs [.int (v114), .ref (gAd E (83))] rfl ?_
      refine G.go tv_X12_sync 1 69 [(0, .ref (gAd E (56))), (1, .int (x1)), (3, .int (x3)), (4, .int (x4))] [.int ((1 : Int32)), .int (v114), .ref (gAd E (83))] rfl ?_
      obtain ⟨R115, b115, eR115, hr⟩ := stR_s hr
      refine G.zast (83) (by omega) (r114.a49) b115 (tbd tv_X12_sync rfl) ?_
      refine G.gen (P := fun w9 => RfV E w9 (setSr (setS R115 42 az114) sy114) ∧ Fr RfK f0 w9) ⟨by rw [eR115]; exact r114.p49 _, Fr.up (hf.tr fa114 (fun _ h => h)) ⟨by decide, by decide⟩⟩ (fun u115 p115 => ?_)
      obtain ⟨r115, h115⟩ := p115
      refine G.go tv_X12_sync 2 51 [(0, .ref (gAd E (56))), (1, .int (x1)), (3, .int (x3)), (4, .int (x4 + (1 : Int32)))] [] rfl ?_
      refine G.less [(0, .ref (gAd E (56))), (1, .int (x1)), (3, .int (x3)), (4, .int (x4 + (1 : Int32)))] [0, 1, 2, 3] rfl ?_
      exact ih _ _ _ _ _ _ hr _ ⟨_, _, r115⟩ h115
set_option maxRecDepth 100000 in
set_option maxHeartbeats 4000000 in
theorem k_X12_sync (E : gE) (f : Nat → va_E) (hE : 94 ≤ gN E) (R : RfT) (w : RW E f R) (a0 : Int32) (r : Int32) (R9 : RfT) (hr : e_sync R a0 = some (r, R9)) : Ct E 6 yX12_sync cX12_sync 7 (some .int) [.ref (gAd E (56)), .int (a0)] f (fun v g => v = some (.int r) ∧ RW E g R9 ∧ Fr RfK f g, fun _ _ => False) := by
  obtain ⟨az, sy, r0⟩ := w
  refine Ct.of (by decide) (Nat.le_of_ble_eq_true rfl) (fun sz => ?_)
  refine G.eql [(0, .ref (gAd E (56))), (1, .int (a0))] rfl ?_
  unfold e_sync at hr
  refine G.go tv_X12_sync 1 1 [(0, .ref (gAd E (56))), (1, .int (a0))] [.ref (gAd E (56))] rfl ?_
  obtain ⟨v109, R109, hv109, hr⟩ := bnd2_s hr
  refine G.callV (56) [] [] (k_X12_notMounted E _ hE R ⟨_, _, r0⟩ v109 R109 hv109) cls_X12 (by omega) (r0.o) cw_X12_403 w_2464 w_96 (Nat.le_of_ble_eq_true rfl) rfl (Nat.le_of_ble_eq_true rfl) (tbd tv_X12_sync rfl) (fun v109w f109 q109 => ?_) (fun _ _ h => h.elim)
  obtain ⟨rfl, ⟨az109, sy109, r109⟩, fa109⟩ := q109
  refine G.eqs [.int (v109)] rfl ?_
  refine G.if_eq 9 (tbd tv_X12_sync rfl) (by decide) (fun c4 => ?_) (fun c4 => ?_)
  · replace hr := ite_t c4 hr
    refine G.go tv_X12_sync 2 11 [(0, .ref (gAd E (56))), (1, .int (a0))] [.int (a0), .ref (gAd E (56))] rfl ?_
    obtain ⟨v110, hv110, hr⟩ := bnd_s hr
    refine G.callV (56) [.int (a0)] [] (k_X12_kind E _ hE R109 ⟨_, _, r109⟩ a0 v110 hv110) cls_X12 (by omega) (r109.o) cw_X12_326 w_2369 w_74 (Nat.le_of_ble_eq_true rfl) rfl (Nat.le_of_ble_eq_true rfl) (tbd tv_X12_sync rfl) (fun v110w f110 q110 => ?_) (fun _ _ h => h.elim)
    obtain ⟨rfl, ⟨az110, sy110, r110⟩, fa110⟩ := q110
    refine G.eqs [.int (v110)] rfl ?_
    refine G.go tv_X12_sync 3 17 [(0, .ref (gAd E (56))), (1, .int (a0)), (2, .int (v110))] [.int ((1 : Int32)), .int (v110)] rfl ?_
    refine G.cmp_eq 32 (tbd tv_X12_sync rfl) (by decide) (fun c17 => ?_) (fun c17 => ?_)
    · replace hr := ite_t c17 hr
      refine G.go tv_X12_sync 2 34 [(0, .ref (gAd E (56))), (1, .int (a0)), (2, .int (v110))] [.int (a0), .ref (gAd E (56))] rfl ?_
      obtain ⟨v111, hv111, hr⟩ := bnd_s hr
      refine G.callV (56) [.int (a0)] [] (k_X12_size E _ hE R109 ⟨_, _, r110⟩ a0 v111 hv111) cls_X12 (by omega) (r110.o) cw_X12_344 w_2503 w_104 (Nat.le_of_ble_eq_true rfl) rfl (Nat.le_of_ble_eq_true rfl) (tbd tv_X12_sync rfl) (fun v111w f111 q111 => ?_) (fun _ _ h => h.elim)
      obtain ⟨rfl, ⟨az111, sy111, r111⟩, fa111⟩ := q111
      refine G.eqs [.int (v111)] rfl ?_
      refine G.go tv_X12_sync 5 46 [(0, .ref (gAd E (56))), (1, .int (a0)), (2, .int (v110))] [.int ((128 : Int32)), .int (((v111) + ((128 : Int32))) - ((1 : Int32)))] rfl ?_
      refine G.idiv (by decide) (tbd tv_X12_sync rfl) ?_
      refine G.go tv_X12_sync 1 48 [(0, .ref (gAd E (56))), (1, .int (a0)), (2, .int (v110)), (3, .int ((((v111) + ((128 : Int32))) - ((1 : Int32))) / ((128 : Int32))))] [] rfl ?_
      obtain ⟨v112, e112, hr⟩ := nm_s hr
      refine G.eql [(0, .ref (gAd E (56))), (1, .int (a0)), (2, .int (v110)), (3, .int (v112))] (by rw [e112]) ?_
      refine G.go tv_X12_sync 2 51 [(0, .ref (gAd E (56))), (1, .int (a0)), (2, .int (v110)), (3, .int (v112)), (4, .int ((0 : Int32)))] [] rfl ?_
      refine G.less [(0, .ref (gAd E (56))), (1, .int (a0)), (3, .int (v112)), (4, .int ((0 : Int32)))] [0, 1, 3, 4] rfl ?_
      exact l_X12_sync_51 E f sz _ hE _ _ _ _ _ _ _ hr _ ⟨_, _, r111⟩ (((Fr.rf.tr fa109 (fun _ h => h)).tr fa110 (fun _ h => h)).tr fa111 (fun _ h => h))
    · replace hr := ite_f c17 hr
      refine G.go tv_X12_sync 1 21 [(0, .ref (gAd E (56))), (1, .int (a0)), (2, .int (v110))] [.int (v110)] rfl ?_
      refine G.if_ne 29 (tbd tv_X12_sync rfl) (by decide) (fun c21 => ?_) (fun c21 => ?_)
      · replace hr := ite_f c21 hr
        refine G.go tv_X12_sync 1 31 [(0, .ref (gAd E (56))), (1, .int (a0)), (2, .int (v110))] [.int ((-4 : Int32))] rfl ?_
        cases hr
        exact G.iret rfl rfl ⟨rfl, ⟨_, _, r110⟩, ((Fr.rf.tr fa109 (fun _ h => h)).tr fa110 (fun _ h => h))⟩ (tbd tv_X12_sync rfl)
      · replace hr := ite_t c21 hr
        refine G.go tv_X12_sync 2 31 [(0, .ref (gAd E (56))), (1, .int (a0)), (2, .int (v110))] [.int ((-11 : Int32))] rfl ?_
        cases hr
        exact G.iret rfl rfl ⟨rfl, ⟨_, _, r110⟩, ((Fr.rf.tr fa109 (fun _ h => h)).tr fa110 (fun _ h => h))⟩ (tbd tv_X12_sync rfl)
  · replace hr := ite_f c4 hr
    refine G.go tv_X12_sync 1 8 [(0, .ref (gAd E (56))), (1, .int (a0))] [.int ((0 : Int32))] rfl ?_
    cases hr
    exact G.iret rfl rfl ⟨rfl, ⟨_, _, r109⟩, (Fr.rf.tr fa109 (fun _ h => h))⟩ (tbd tv_X12_sync rfl)
noncomputable def e_apply  (R : RfT) : Option (Int32 × RfT) := bnd2 (e_notMounted R) (fun v127 R127 => if v127 = 0 then bnd2 (e_flushQueue R127) (fun v128 R128 => bnd (e_applyLog R128) (fun R129 => bnd2 (e_answer R129 (rS R128 25)) (fun v130 R130 => some (v130, R130)))) else some ((0 : Int32), R127))
set_option maxRecDepth 100000 in
set_option maxHeartbeats 4000000 in
theorem k_X12_apply (E : gE) (f : Nat → va_E) (hE : 94 ≤ gN E) (R : RfT) (w : RW E f R) (r : Int32) (R9 : RfT) (hr : e_apply R = some (r, R9)) : Ct E 10 yX12_apply cX12_apply 2 (some .int) [.ref (gAd E (56))] f (fun v g => v = some (.int r) ∧ RW E g R9 ∧ Fr RfK f g, fun _ _ => False) := by
  obtain ⟨az, sy, r0⟩ := w
  refine Ct.of (by decide) (Nat.le_of_ble_eq_true rfl) (fun sz => ?_)
  refine G.eql [(0, .ref (gAd E (56)))] rfl ?_
  unfold e_apply at hr
  refine G.go tv_X12_apply 1 1 [(0, .ref (gAd E (56)))] [.ref (gAd E (56))] rfl ?_
  obtain ⟨v127, R127, hv127, hr⟩ := bnd2_s hr
  refine G.callV (56) [] [] (k_X12_notMounted E _ hE R ⟨_, _, r0⟩ v127 R127 hv127) cls_X12 (by omega) (r0.o) cw_X12_403 w_2464 w_96 (Nat.le_of_ble_eq_true rfl) rfl (Nat.le_of_ble_eq_true rfl) (tbd tv_X12_apply rfl) (fun v127w f127 q127 => ?_) (fun _ _ h => h.elim)
  obtain ⟨rfl, ⟨az127, sy127, r127⟩, fa127⟩ := q127
  refine G.eqs [.int (v127)] rfl ?_
  refine G.if_eq 9 (tbd tv_X12_apply rfl) (by decide) (fun c4 => ?_) (fun c4 => ?_)
  · replace hr := ite_t c4 hr
    refine G.go tv_X12_apply 1 10 [(0, .ref (gAd E (56)))] [.ref (gAd E (56))] rfl ?_
    obtain ⟨v128, R128, hv128, hr⟩ := bnd2_s hr
    refine G.callV (56) [] [] (k_X12_flushQueue E _ hE R127 ⟨_, _, r127⟩ v128 R128 hv128) cls_X12 (by omega) (r127.o) cw_X12_288 w_2440 w_91 (Nat.le_of_ble_eq_true rfl) rfl (Nat.le_of_ble_eq_true rfl) (tbd tv_X12_apply rfl) (fun v128w f128 q128 => ?_) (fun _ _ h => h.elim)
    obtain ⟨rfl, ⟨az128, sy128, r128⟩, fa128⟩ := q128
    refine G.eqs [.int (v128)] rfl ?_
    refine G.go tv_X12_apply 2 15 [(0, .ref (gAd E (56)))] [.ref (gAd E (56))] rfl ?_
    refine G.rg r128 hE 25 (.int (rS R128 25)) (by decide) rfl (tbd tv_X12_apply rfl) w_2090 ?_
    refine G.go tv_X12_apply 2 20 [(0, .ref (gAd E (56))), (1, .int (rS R128 25))] [.ref (gAd E (56))] rfl ?_
    obtain ⟨R129, hv129, hr⟩ := bnd_s hr
    refine G.callV (56) [] [] (k_X12_applyLog E _ hE R128 ⟨_, _, r128⟩ R129 hv129) cls_X12 (by omega) (r128.o) cw_X12_268 w_2357 w_71 (Nat.le_of_ble_eq_true rfl) rfl (Nat.le_of_ble_eq_true rfl) (tbd tv_X12_apply rfl) (fun v129w f129 q129 => ?_) (fun _ _ h => h.elim)
    obtain ⟨rfl, ⟨az129, sy129, r129⟩, fa129⟩ := q129
    refine G.eqs [] rfl ?_
    refine G.go tv_X12_apply 2 25 [(0, .ref (gAd E (56))), (1, .int (rS R128 25))] [.int (rS R128 25), .ref (gAd E (56))] rfl ?_
    obtain ⟨v130, R130, hv130, hr⟩ := bnd2_s hr
    refine G.callV (56) [.int (rS R128 25)] [] (k_X12_answer E _ hE R129 ⟨_, _, r129⟩ (rS R128 25) v130 R130 hv130) cls_X12 (by omega) (r129.o) cw_X12_389 w_2339 w_69 (Nat.le_of_ble_eq_true rfl) rfl (Nat.le_of_ble_eq_true rfl) (tbd tv_X12_apply rfl) (fun v130w f130 q130 => ?_) (fun _ _ h => h.elim)
    obtain ⟨rfl, ⟨az130, sy130, r130⟩, fa130⟩ := q130
    refine G.eqs [.int (v130)] rfl ?_
    cases hr
    exact G.iret rfl rfl ⟨rfl, ⟨_, _, r130⟩, ((((Fr.rf.tr fa127 (fun _ h => h)).tr fa128 (fun _ h => h)).tr fa129 (fun _ h => h)).tr fa130 (fun _ h => h))⟩ (tbd tv_X12_apply rfl)
  · replace hr := ite_f c4 hr
    refine G.go tv_X12_apply 1 8 [(0, .ref (gAd E (56)))] [.int ((0 : Int32))] rfl ?_
    cases hr
    exact G.iret rfl rfl ⟨rfl, ⟨_, _, r127⟩, (Fr.rf.tr fa127 (fun _ h => h))⟩ (tbd tv_X12_apply rfl)
def e_isByte (R : RfT) (a0 : Int32) (a1 : Int32) : Option (Int32) := if a0 < 0 then some ((0 : Int32)) else if (rS R 1) ≤ a0 then some ((0 : Int32)) else if a1 < 0 then some ((0 : Int32)) else if ((128 : Int32)) ≤ a1 then some ((0 : Int32)) else some ((1 : Int32))
set_option maxRecDepth 100000 in
set_option maxHeartbeats 4000000 in
theorem k_X12_isByte (E : gE) (f : Nat → va_E) (hE : 94 ≤ gN E) (R : RfT) (w : RW E f R) (a0 : Int32) (a1 : Int32) (r : Int32) (hr : e_isByte R a0 a1 = some r) : Ct E 1 yX12_isByte cX12_isByte 3 (some .boolean) [.ref (gAd E (56)), .int (a0), .int (a1)] f (fun v g => v = some (.int r) ∧ RW E g R ∧ Fr RfK f g, fun _ _ => False) := by
  obtain ⟨az, sy, r0⟩ := w
  refine Ct.of (by decide) (Nat.le_of_ble_eq_true rfl) (fun sz => ?_)
  refine G.eql [(0, .ref (gAd E (56))), (1, .int (a0)), (2, .int (a1))] rfl ?_
  unfold e_isByte at hr
  refine G.go tv_X12_isByte 1 1 [(0, .ref (gAd E (56))), (1, .int (a0)), (2, .int (a1))] [.int (a0)] rfl ?_
  refine G.if_lt 27 (tbd tv_X12_isByte rfl) (by decide) (fun c1 => ?_) (fun c1 => ?_)
  · replace hr := ite_t c1 hr
    refine G.go tv_X12_isByte 1 28 [(0, .ref (gAd E (56))), (1, .int (a0)), (2, .int (a1))] [.int ((0 : Int32))] rfl ?_
    cases hr
    exact G.iret rfl rfl ⟨rfl, ⟨_, _, r0⟩, Fr.rf⟩ (tbd tv_X12_isByte rfl)
  · replace hr := ite_f c1 hr
    refine G.go tv_X12_isByte 2 6 [(0, .ref (gAd E (56))), (1, .int (a0)), (2, .int (a1))] [.ref (gAd E (56)), .int (a0)] rfl ?_
    refine G.rg r0 hE 1 (.int (rS R 1)) (by decide) rfl (tbd tv_X12_isByte rfl) w_2066 ?_
    refine G.cmp_ge 27 (tbd tv_X12_isByte rfl) (by decide) (fun c9 => ?_) (fun c9 => ?_)
    · replace hr := ite_t c9 hr
      refine G.go tv_X12_isByte 1 28 [(0, .ref (gAd E (56))), (1, .int (a0)), (2, .int (a1))] [.int ((0 : Int32))] rfl ?_
      cases hr
      exact G.iret rfl rfl ⟨rfl, ⟨_, _, r0⟩, Fr.rf⟩ (tbd tv_X12_isByte rfl)
    · replace hr := ite_f c9 hr
      refine G.go tv_X12_isByte 1 13 [(0, .ref (gAd E (56))), (1, .int (a0)), (2, .int (a1))] [.int (a1)] rfl ?_
      refine G.if_lt 27 (tbd tv_X12_isByte rfl) (by decide) (fun c13 => ?_) (fun c13 => ?_)
      · replace hr := ite_t c13 hr
        refine G.go tv_X12_isByte 1 28 [(0, .ref (gAd E (56))), (1, .int (a0)), (2, .int (a1))] [.int ((0 : Int32))] rfl ?_
        cases hr
        exact G.iret rfl rfl ⟨rfl, ⟨_, _, r0⟩, Fr.rf⟩ (tbd tv_X12_isByte rfl)
      · replace hr := ite_f c13 hr
        refine G.go tv_X12_isByte 2 20 [(0, .ref (gAd E (56))), (1, .int (a0)), (2, .int (a1))] [.int ((128 : Int32)), .int (a1)] rfl ?_
        refine G.cmp_ge 27 (tbd tv_X12_isByte rfl) (by decide) (fun c20 => ?_) (fun c20 => ?_)
        · replace hr := ite_t c20 hr
          refine G.go tv_X12_isByte 1 28 [(0, .ref (gAd E (56))), (1, .int (a0)), (2, .int (a1))] [.int ((0 : Int32))] rfl ?_
          cases hr
          exact G.iret rfl rfl ⟨rfl, ⟨_, _, r0⟩, Fr.rf⟩ (tbd tv_X12_isByte rfl)
        · replace hr := ite_f c20 hr
          refine G.go tv_X12_isByte 2 28 [(0, .ref (gAd E (56))), (1, .int (a0)), (2, .int (a1))] [.int ((1 : Int32))] rfl ?_
          cases hr
          exact G.iret rfl rfl ⟨rfl, ⟨_, _, r0⟩, Fr.rf⟩ (tbd tv_X12_isByte rfl)
def e_seen  (R : RfT) (a0 : Int32) (a1 : Int32) : Option (Int32 × RfT) := bnd2 (e_notMounted R) (fun v131 R131 => if v131 = 0 then bnd (e_isByte R131 a0 a1) (fun v132 => if v132 = 0 then bnd2 (e_refuse R131 ((1 : Int32)) ((2 : Int32))) (fun v135 R135 => if v135 = 0 then bnd (e_seenNumber R135 a0 a1 ((1 : Int32))) (fun v136 => some (v136, R135)) else some ((0 : Int32), R135)) else bnd2 (e_refuse R131 ((0 : Int32)) ((2 : Int32))) (fun v133 R133 => if v133 = 0 then bnd (e_seenNumber R133 a0 a1 ((1 : Int32))) (fun v134 => some (v134, R133)) else some ((0 : Int32), R133))) else some ((0 : Int32), R131))
set_option maxRecDepth 100000 in
set_option maxHeartbeats 4000000 in
theorem k_X12_seen (E : gE) (f : Nat → va_E) (hE : 94 ≤ gN E) (R : RfT) (w : RW E f R) (a0 : Int32) (a1 : Int32) (r : Int32) (R9 : RfT) (hr : e_seen R a0 a1 = some (r, R9)) : Ct E 3 yX12_seen cX12_seen 3 (some .int) [.ref (gAd E (56)), .int (a0), .int (a1)] f (fun v g => v = some (.int r) ∧ RW E g R9 ∧ Fr RfK f g, fun _ _ => False) := by
  obtain ⟨az, sy, r0⟩ := w
  refine Ct.of (by decide) (Nat.le_of_ble_eq_true rfl) (fun sz => ?_)
  refine G.eql [(0, .ref (gAd E (56))), (1, .int (a0)), (2, .int (a1))] rfl ?_
  unfold e_seen at hr
  refine G.go tv_X12_seen 1 1 [(0, .ref (gAd E (56))), (1, .int (a0)), (2, .int (a1))] [.ref (gAd E (56))] rfl ?_
  obtain ⟨v131, R131, hv131, hr⟩ := bnd2_s hr
  refine G.callV (56) [] [] (k_X12_notMounted E _ hE R ⟨_, _, r0⟩ v131 R131 hv131) cls_X12 (by omega) (r0.o) cw_X12_403 w_2464 w_96 (Nat.le_of_ble_eq_true rfl) rfl (Nat.le_of_ble_eq_true rfl) (tbd tv_X12_seen rfl) (fun v131w f131 q131 => ?_) (fun _ _ h => h.elim)
  obtain ⟨rfl, ⟨az131, sy131, r131⟩, fa131⟩ := q131
  refine G.eqs [.int (v131)] rfl ?_
  refine G.if_ne 29 (tbd tv_X12_seen rfl) (by decide) (fun c4 => ?_) (fun c4 => ?_)
  · replace hr := ite_f c4 hr
    refine G.go tv_X12_seen 1 30 [(0, .ref (gAd E (56))), (1, .int (a0)), (2, .int (a1))] [.int ((0 : Int32))] rfl ?_
    cases hr
    exact G.iret rfl rfl ⟨rfl, ⟨_, _, r131⟩, (Fr.rf.tr fa131 (fun _ h => h))⟩ (tbd tv_X12_seen rfl)
  · replace hr := ite_t c4 hr
    refine G.go tv_X12_seen 4 11 [(0, .ref (gAd E (56))), (1, .int (a0)), (2, .int (a1))] [.int (a1), .int (a0), .ref (gAd E (56)), .ref (gAd E (56))] rfl ?_
    obtain ⟨v132, hv132, hr⟩ := bnd_s hr
    refine G.callV (56) [.int (a0), .int (a1)] [.ref (gAd E (56))] (k_X12_isByte E _ hE R131 ⟨_, _, r131⟩ a0 a1 v132 hv132) cls_X12 (by omega) (r131.o) cw_X12_512 w_2791 w_141 (Nat.le_of_ble_eq_true rfl) rfl (Nat.le_of_ble_eq_true rfl) (tbd tv_X12_seen rfl) (fun v132w f132 q132 => ?_) (fun _ _ h => h.elim)
    obtain ⟨rfl, ⟨az132, sy132, r132⟩, fa132⟩ := q132
    refine G.eqs [.int (v132), .ref (gAd E (56))] rfl ?_
    refine G.if_ne 21 (tbd tv_X12_seen rfl) (by decide) (fun c14 => ?_) (fun c14 => ?_)
    · replace hr := ite_f c14 hr
      refine G.go tv_X12_seen 2 23 [(0, .ref (gAd E (56))), (1, .int (a0)), (2, .int (a1))] [.int ((2 : Int32)), .int ((0 : Int32)), .ref (gAd E (56))] rfl ?_
      obtain ⟨v133, R133, hv133, hr⟩ := bnd2_s hr
      refine G.callV (56) [.int ((0 : Int32)), .int ((2 : Int32))] [] (k_X12_refuse E _ hE R131 ⟨_, _, r132⟩ ((0 : Int32)) ((2 : Int32)) v133 R133 hv133) cls_X12 (by omega) (r132.o) cw_X12_385 w_2268 w_53 (Nat.le_of_ble_eq_true rfl) rfl (Nat.le_of_ble_eq_true rfl) (tbd tv_X12_seen rfl) (fun v133w f133 q133 => ?_) (fun _ _ h => h.elim)
      obtain ⟨rfl, ⟨az133, sy133, r133⟩, fa133⟩ := q133
      refine G.eqs [.int (v133)] rfl ?_
      refine G.if_eq 31 (tbd tv_X12_seen rfl) (by decide) (fun c26 => ?_) (fun c26 => ?_)
      · replace hr := ite_t c26 hr
        refine G.go tv_X12_seen 4 35 [(0, .ref (gAd E (56))), (1, .int (a0)), (2, .int (a1))] [.int ((1 : Int32)), .int (a1), .int (a0), .ref (gAd E (56))] rfl ?_
        obtain ⟨v134, hv134, hr⟩ := bnd_s hr
        refine G.callV (56) [.int (a0), .int (a1), .int ((1 : Int32))] [] (k_X12_seenNumber E _ hE R133 ⟨_, _, r133⟩ a0 a1 ((1 : Int32)) v134 hv134) cls_X12 (by omega) (r133.o) cw_X12_295 w_2380 w_76 (Nat.le_of_ble_eq_true rfl) rfl (Nat.le_of_ble_eq_true rfl) (tbd tv_X12_seen rfl) (fun v134w f134 q134 => ?_) (fun _ _ h => h.elim)
        obtain ⟨rfl, ⟨az134, sy134, r134⟩, fa134⟩ := q134
        refine G.eqs [.int (v134)] rfl ?_
        cases hr
        exact G.iret rfl rfl ⟨rfl, ⟨_, _, r134⟩, ((((Fr.rf.tr fa131 (fun _ h => h)).tr fa132 (fun _ h => h)).tr fa133 (fun _ h => h)).tr fa134 (fun _ h => h))⟩ (tbd tv_X12_seen rfl)
      · replace hr := ite_f c26 hr
        refine G.go tv_X12_seen 1 30 [(0, .ref (gAd E (56))), (1, .int (a0)), (2, .int (a1))] [.int ((0 : Int32))] rfl ?_
        cases hr
        exact G.iret rfl rfl ⟨rfl, ⟨_, _, r133⟩, (((Fr.rf.tr fa131 (fun _ h => h)).tr fa132 (fun _ h => h)).tr fa133 (fun _ h => h))⟩ (tbd tv_X12_seen rfl)
    · replace hr := ite_t c14 hr
      refine G.go tv_X12_seen 3 23 [(0, .ref (gAd E (56))), (1, .int (a0)), (2, .int (a1))] [.int ((2 : Int32)), .int ((1 : Int32)), .ref (gAd E (56))] rfl ?_
      obtain ⟨v135, R135, hv135, hr⟩ := bnd2_s hr
      refine G.callV (56) [.int ((1 : Int32)), .int ((2 : Int32))] [] (k_X12_refuse E _ hE R131 ⟨_, _, r132⟩ ((1 : Int32)) ((2 : Int32)) v135 R135 hv135) cls_X12 (by omega) (r132.o) cw_X12_385 w_2268 w_53 (Nat.le_of_ble_eq_true rfl) rfl (Nat.le_of_ble_eq_true rfl) (tbd tv_X12_seen rfl) (fun v135w f135 q135 => ?_) (fun _ _ h => h.elim)
      obtain ⟨rfl, ⟨az135, sy135, r135⟩, fa135⟩ := q135
      refine G.eqs [.int (v135)] rfl ?_
      refine G.if_eq 31 (tbd tv_X12_seen rfl) (by decide) (fun c26 => ?_) (fun c26 => ?_)
      · replace hr := ite_t c26 hr
        refine G.go tv_X12_seen 4 35 [(0, .ref (gAd E (56))), (1, .int (a0)), (2, .int (a1))] [.int ((1 : Int32)), .int (a1), .int (a0), .ref (gAd E (56))] rfl ?_
        obtain ⟨v136, hv136, hr⟩ := bnd_s hr
        refine G.callV (56) [.int (a0), .int (a1), .int ((1 : Int32))] [] (k_X12_seenNumber E _ hE R135 ⟨_, _, r135⟩ a0 a1 ((1 : Int32)) v136 hv136) cls_X12 (by omega) (r135.o) cw_X12_295 w_2380 w_76 (Nat.le_of_ble_eq_true rfl) rfl (Nat.le_of_ble_eq_true rfl) (tbd tv_X12_seen rfl) (fun v136w f136 q136 => ?_) (fun _ _ h => h.elim)
        obtain ⟨rfl, ⟨az136, sy136, r136⟩, fa136⟩ := q136
        refine G.eqs [.int (v136)] rfl ?_
        cases hr
        exact G.iret rfl rfl ⟨rfl, ⟨_, _, r136⟩, ((((Fr.rf.tr fa131 (fun _ h => h)).tr fa132 (fun _ h => h)).tr fa135 (fun _ h => h)).tr fa136 (fun _ h => h))⟩ (tbd tv_X12_seen rfl)
      · replace hr := ite_f c26 hr
        refine G.go tv_X12_seen 1 30 [(0, .ref (gAd E (56))), (1, .int (a0)), (2, .int (a1))] [.int ((0 : Int32))] rfl ?_
        cases hr
        exact G.iret rfl rfl ⟨rfl, ⟨_, _, r135⟩, (((Fr.rf.tr fa131 (fun _ h => h)).tr fa132 (fun _ h => h)).tr fa135 (fun _ h => h))⟩ (tbd tv_X12_seen rfl)
theorem w_2805 : Cond.constantLong "LedgerFilesModel" 529 (17 : Int64) ∈ TB := tp_12 19 (by decide +kernel) rfl
theorem w_2125 : Cond.fieldLink "LedgerFilesModel" 516 "LedgerFilesModel" "telling" "J" ∈ TB := tp_9 59 (by decide +kernel) rfl
def tb_X12_tellTree : List (Nat × Instr × Nat) := [(0, .iconst 0, 1), (1, .istore_n 2, 1), (2, .aload_n 0, 1), (3, .getfield 122, 3), (6, .iconst 0, 1), (7, .iconst 1, 1), (8, .iastore, 1), (9, .aload_n 0, 1), (10, .getfield 125, 3), (13, .iconst 0, 1), (14, .iconst 0, 1), (15, .iastore, 1), (16, .iload_n 2, 1), (17, .ifCond .lt 153, 3), (20, .aload_n 0, 1), (21, .getfield 122, 3), (24, .iload_n 2, 1), (25, .iaload, 1), (26, .istore_n 3, 1), (27, .aload_n 0, 1), (28, .getfield 125, 3), (31, .iload_n 2, 1), (32, .iaload, 1), (33, .istore 4, 2), (35, .bipush 16, 2), (37, .iload 4, 2), (39, .imul, 1), (40, .aload_n 0, 1), (41, .iload_n 3, 1), (42, .invokevirtual 344, 3), (45, .if_icmp .lt 7, 3), (48, .iconst 1, 1), (49, .goto 4, 3), (52, .iconst 0, 1), (53, .istore 5, 2), (55, .iload 5, 2), (57, .ifCond .eq 7, 3), (60, .iconst 0, 1), (61, .goto 12, 3), (64, .aload_n 0, 1), (65, .iload_n 3, 1), (66, .iload 4, 2), (68, .iconst 0, 1), (69, .iconst 2, 1), (70, .invokevirtual 347, 3), (73, .istore 6, 2), (75, .aload_n 0, 1), (76, .getfield 125, 3), (79, .iload_n 2, 1), (80, .dup2, 1), (81, .iaload, 1), (82, .iconst 1, 1), (83, .iadd, 1), (84, .iastore, 1), (85, .iload 5, 2), (87, .ifCond .eq 25, 3), (90, .aload_n 0, 1), (91, .aload_n 0, 1), (92, .getfield 516, 3), (95, .ldc2_w 519, 3), (98, .lmul, 1), (99, .ldc2_w 521, 3), (102, .ladd, 1), (103, .putfield 516, 3), (106, .iinc 2 (-1), 3), (109, .goto 58, 3), (112, .iload 6, 2), (114, .ifCond .eq 53, 3), (117, .aload_n 0, 1), (118, .iload_n 3, 1), (119, .iload 4, 2), (121, .iload 6, 2), (123, .invokevirtual 523, 3), (126, .aload_n 0, 1), (127, .iload 6, 2), (129, .invokevirtual 326, 3), (132, .iconst 2, 1), (133, .if_icmp .ne 24, 3), (136, .iinc 2 1, 3), (139, .aload_n 0, 1), (140, .getfield 122, 3), (143, .iload_n 2, 1), (144, .iload 6, 2), (146, .iastore, 1), (147, .aload_n 0, 1), (148, .getfield 125, 3), (151, .iload_n 2, 1), (152, .iconst 0, 1), (153, .iastore, 1), (154, .goto 13, 3), (157, .iload_n 1, 1), (158, .ifCond .eq 9, 3), (161, .aload_n 0, 1), (162, .iload 6, 2), (164, .invokevirtual 526, 3), (167, .goto (-151), 3), (170, .return_, 1)]
theorem tv_X12_tellTree : Tv cX12_tellTree tb_X12_tellTree := by
  unfold Tv
  decide +kernel
def tb_X12_tellName : List (Nat × Instr × Nat) := [(0, .aload_n 0, 1), (1, .iload_n 1, 1), (2, .iload_n 2, 1), (3, .iconst 2, 1), (4, .iconst 1, 1), (5, .invokevirtual 347, 3), (8, .istore 4, 2), (10, .iconst 0, 1), (11, .istore 5, 2), (13, .iload 5, 2), (15, .iload 4, 2), (17, .if_icmp .ge 34, 3), (20, .aload_n 0, 1), (21, .aload_n 0, 1), (22, .getfield 516, 3), (25, .ldc2_w 519, 3), (28, .lmul, 1), (29, .aload_n 0, 1), (30, .iload_n 1, 1), (31, .iload_n 2, 1), (32, .iconst 3, 1), (33, .iload 5, 2), (35, .iadd, 1), (36, .iconst 1, 1), (37, .invokevirtual 347, 3), (40, .i2l, 1), (41, .ladd, 1), (42, .putfield 516, 3), (45, .iinc 5 1, 3), (48, .goto (-35), 3), (51, .aload_n 0, 1), (52, .aload_n 0, 1), (53, .getfield 516, 3), (56, .aload_n 0, 1), (57, .iload_n 3, 1), (58, .invokevirtual 326, 3), (61, .i2l, 1), (62, .ladd, 1), (63, .putfield 516, 3), (66, .aload_n 0, 1), (67, .aload_n 0, 1), (68, .getfield 516, 3), (71, .ldc2_w 519, 3), (74, .lmul, 1), (75, .aload_n 0, 1), (76, .iload_n 3, 1), (77, .invokevirtual 344, 3), (80, .i2l, 1), (81, .ladd, 1), (82, .putfield 516, 3), (85, .aload_n 0, 1), (86, .aload_n 0, 1), (87, .getfield 516, 3), (90, .ldc2_w 519, 3), (93, .lmul, 1), (94, .aload_n 0, 1), (95, .iload_n 3, 1), (96, .bipush 8, 2), (98, .iconst 4, 1), (99, .invokevirtual 303, 3), (102, .i2l, 1), (103, .ladd, 1), (104, .putfield 516, 3), (107, .return_, 1)]
theorem tv_X12_tellName : Tv cX12_tellName tb_X12_tellName := by
  unfold Tv
  decide +kernel
theorem w_2810 : Cond.constantLong "LedgerFilesModel" 519 (31 : Int64) ∈ TB := tp_12 24 (by decide +kernel) rfl
def e_tellName_13  : Nat → RfT → Int32 → Int32 → Int32 → Int32 → Int32 → Option (RfT)
  | 0, _, _, _, _, _, _ => none
  | n + 1, R, x1, x2, x3, x4, x5 => if x4 ≤ x5 then bnd (e_kind R x3) (fun v150 => ptTl R ((rTl R) + ((v150 : Int32).toInt64)) (fun R151 => bnd (e_size R151 x3) (fun v152 => ptTl R151 (((rTl R151) * ((31 : Int64))) + ((v152 : Int32).toInt64)) (fun R153 => bnd (e_field R153 x3 ((8 : Int32)) ((4 : Int32))) (fun v154 => ptTl R153 (((rTl R153) * ((31 : Int64))) + ((v154 : Int32).toInt64)) (fun R155 => some R155)))))) else bnd (e_slotNumber R x1 x2 (((3 : Int32)) + (x5)) ((1 : Int32))) (fun v156 => ptTl R (((rTl R) * ((31 : Int64))) + ((v156 : Int32).toInt64)) (fun R157 => e_tellName_13  n R157 x1 x2 x3 x4 (x5 + (1 : Int32))))
def e_tellName  (R : RfT) (a0 : Int32) (a1 : Int32) (a2 : Int32) : Option (RfT) := bnd (e_slotNumber R a0 a1 ((2 : Int32)) ((1 : Int32))) (fun v149 => e_tellName_13  fuL R a0 a1 a2 v149 ((0 : Int32)))
set_option maxRecDepth 100000 in
set_option maxHeartbeats 4000000 in
theorem l_X12_tellName_13 (E : gE) (f0 : Nat → va_E) (sz : Nat) (QA : Nat → Prop) (hE : 94 ≤ gN E) : ∀ (n : Nat), ∀ (R : RfT) (x1 : Int32) (x2 : Int32) (x3 : Int32) (x4 : Int32) (x5 : Int32) (R9 : RfT) (hr : e_tellName_13  n R x1 x2 x3 x4 x5 = some R9) (f : Nat → va_E) (w : RW E f R) (hf : Fr RfK f0 f), G E (7, yX12_tellName, 6, none, sz, QA) cX12_tellName (gO E (7, yX12_tellName, 6, none, sz, QA) (fun v g => v = none ∧ RW E g R9 ∧ Fr RfK f0 g, fun _ _ => False)) 13 [(0, .ref (gAd E (56))), (1, .int (x1)), (2, .int (x2)), (3, .int (x3)), (4, .int (x4)), (5, .int (x5))] [] f := by
  intro n
  induction n with
  | zero =>
    intro R x1 x2 x3 x4 x5 R9 hr f w hf
    cases hr
  | succ n ih =>
    intro R x1 x2 x3 x4 x5 R9 hr f w hf
    obtain ⟨az, sy, r0⟩ := w
    unfold e_tellName_13 at hr
    refine G.go tv_X12_tellName 2 17 [(0, .ref (gAd E (56))), (1, .int (x1)), (2, .int (x2)), (3, .int (x3)), (4, .int (x4)), (5, .int (x5))] [.int (x4), .int (x5)] rfl ?_
    refine G.cmp_ge 51 (tbd tv_X12_tellName rfl) (by decide) (fun c17 => ?_) (fun c17 => ?_)
    · replace hr := ite_t c17 hr
      refine G.go tv_X12_tellName 2 53 [(0, .ref (gAd E (56))), (1, .int (x1)), (2, .int (x2)), (3, .int (x3)), (4, .int (x4)), (5, .int (x5))] [.ref (gAd E (56)), .ref (gAd E (56))] rfl ?_
      refine G.rg r0 hE 60 (.long (rTl R)) (by decide) rfl (tbd tv_X12_tellName rfl) w_2125 ?_
      refine G.go tv_X12_tellName 2 58 [(0, .ref (gAd E (56))), (1, .int (x1)), (2, .int (x2)), (3, .int (x3)), (4, .int (x4)), (5, .int (x5))] [.int (x3), .ref (gAd E (56)), .long (rTl R), .ref (gAd E (56))] rfl ?_
      obtain ⟨v150, hv150, hr⟩ := bnd_s hr
      refine G.callV (56) [.int (x3)] [.long (rTl R), .ref (gAd E (56))] (k_X12_kind E _ hE R ⟨_, _, r0⟩ x3 v150 hv150) cls_X12 (by omega) (r0.o) cw_X12_326 w_2369 w_74 (Nat.le_of_ble_eq_true rfl) rfl (Nat.le_of_ble_eq_true rfl) (tbd tv_X12_tellName rfl) (fun v150w f150 q150 => ?_) (fun _ _ h => h.elim)
      obtain ⟨rfl, ⟨az150, sy150, r150⟩, fa150⟩ := q150
      refine G.eqs [.int (v150), .long (rTl R), .ref (gAd E (56))] rfl ?_
      refine G.go tv_X12_tellName 2 63 [(0, .ref (gAd E (56))), (1, .int (x1)), (2, .int (x2)), (3, .int (x3)), (4, .int (x4)), (5, .int (x5))] [.long ((rTl R) + ((v150 : Int32).toInt64)), .ref (gAd E (56))] rfl ?_
      obtain ⟨R151, eR151, hr⟩ := ptTl_s hr
      refine G.rpTl r150 hE 60 eR151 rfl (by decide) rfl rfl rfl (tbd tv_X12_tellName rfl) w_2125 (fun u151 r151 h151 => ?_)
      refine G.go tv_X12_tellName 2 68 [(0, .ref (gAd E (56))), (1, .int (x1)), (2, .int (x2)), (3, .int (x3)), (4, .int (x4)), (5, .int (x5))] [.ref (gAd E (56)), .ref (gAd E (56))] rfl ?_
      refine G.rg r151 hE 60 (.long (rTl R151)) (by decide) rfl (tbd tv_X12_tellName rfl) w_2125 ?_
      refine G.ldc2 (31) (tbd tv_X12_tellName rfl) w_2810 ?_
      refine G.go tv_X12_tellName 3 77 [(0, .ref (gAd E (56))), (1, .int (x1)), (2, .int (x2)), (3, .int (x3)), (4, .int (x4)), (5, .int (x5))] [.int (x3), .ref (gAd E (56)), .long ((rTl R151) * ((31 : Int64))), .ref (gAd E (56))] rfl ?_
      obtain ⟨v152, hv152, hr⟩ := bnd_s hr
      refine G.callV (56) [.int (x3)] [.long ((rTl R151) * ((31 : Int64))), .ref (gAd E (56))] (k_X12_size E _ hE R151 ⟨_, _, r151⟩ x3 v152 hv152) cls_X12 (by omega) (r151.o) cw_X12_344 w_2503 w_104 (Nat.le_of_ble_eq_true rfl) rfl (Nat.le_of_ble_eq_true rfl) (tbd tv_X12_tellName rfl) (fun v152w f152 q152 => ?_) (fun _ _ h => h.elim)
      obtain ⟨rfl, ⟨az152, sy152, r152⟩, fa152⟩ := q152
      refine G.eqs [.int (v152), .long ((rTl R151) * ((31 : Int64))), .ref (gAd E (56))] rfl ?_
      refine G.go tv_X12_tellName 2 82 [(0, .ref (gAd E (56))), (1, .int (x1)), (2, .int (x2)), (3, .int (x3)), (4, .int (x4)), (5, .int (x5))] [.long (((rTl R151) * ((31 : Int64))) + ((v152 : Int32).toInt64)), .ref (gAd E (56))] rfl ?_
      obtain ⟨R153, eR153, hr⟩ := ptTl_s hr
      refine G.rpTl r152 hE 60 eR153 rfl (by decide) rfl rfl rfl (tbd tv_X12_tellName rfl) w_2125 (fun u153 r153 h153 => ?_)
      refine G.go tv_X12_tellName 2 87 [(0, .ref (gAd E (56))), (1, .int (x1)), (2, .int (x2)), (3, .int (x3)), (4, .int (x4)), (5, .int (x5))] [.ref (gAd E (56)), .ref (gAd E (56))] rfl ?_
      refine G.rg r153 hE 60 (.long (rTl R153)) (by decide) rfl (tbd tv_X12_tellName rfl) w_2125 ?_
      refine G.ldc2 (31) (tbd tv_X12_tellName rfl) w_2810 ?_
      refine G.go tv_X12_tellName 5 99 [(0, .ref (gAd E (56))), (1, .int (x1)), (2, .int (x2)), (3, .int (x3)), (4, .int (x4)), (5, .int (x5))] [.int ((4 : Int32)), .int ((8 : Int32)), .int (x3), .ref (gAd E (56)), .long ((rTl R153) * ((31 : Int64))), .ref (gAd E (56))] rfl ?_
      obtain ⟨v154, hv154, hr⟩ := bnd_s hr
      refine G.callV (56) [.int (x3), .int ((8 : Int32)), .int ((4 : Int32))] [.long ((rTl R153) * ((31 : Int64))), .ref (gAd E (56))] (k_X12_field E _ hE R153 ⟨_, _, r153⟩ x3 ((8 : Int32)) ((4 : Int32)) v154 hv154) cls_X12 (by omega) (r153.o) cw_X12_303 w_2373 w_75 (Nat.le_of_ble_eq_true rfl) rfl (Nat.le_of_ble_eq_true rfl) (tbd tv_X12_tellName rfl) (fun v154w f154 q154 => ?_) (fun _ _ h => h.elim)
      obtain ⟨rfl, ⟨az154, sy154, r154⟩, fa154⟩ := q154
      refine G.eqs [.int (v154), .long ((rTl R153) * ((31 : Int64))), .ref (gAd E (56))] rfl ?_
      refine G.go tv_X12_tellName 2 104 [(0, .ref (gAd E (56))), (1, .int (x1)), (2, .int (x2)), (3, .int (x3)), (4, .int (x4)), (5, .int (x5))] [.long (((rTl R153) * ((31 : Int64))) + ((v154 : Int32).toInt64)), .ref (gAd E (56))] rfl ?_
      obtain ⟨R155, eR155, hr⟩ := ptTl_s hr
      refine G.rpTl r154 hE 60 eR155 rfl (by decide) rfl rfl rfl (tbd tv_X12_tellName rfl) w_2125 (fun u155 r155 h155 => ?_)
      cases hr
      exact G.vret rfl ⟨rfl, ⟨_, _, r155⟩, ((((((hf.tr fa150 (fun _ h => h)).tr h151 (fun _ h => h)).tr fa152 (fun _ h => h)).tr h153 (fun _ h => h)).tr fa154 (fun _ h => h)).tr h155 (fun _ h => h))⟩ (tbd tv_X12_tellName rfl)
    · replace hr := ite_f c17 hr
      refine G.go tv_X12_tellName 2 22 [(0, .ref (gAd E (56))), (1, .int (x1)), (2, .int (x2)), (3, .int (x3)), (4, .int (x4)), (5, .int (x5))] [.ref (gAd E (56)), .ref (gAd E (56))] rfl ?_
      refine G.rg r0 hE 60 (.long (rTl R)) (by decide) rfl (tbd tv_X12_tellName rfl) w_2125 ?_
      refine G.ldc2 (31) (tbd tv_X12_tellName rfl) w_2810 ?_
      refine G.go tv_X12_tellName 8 37 [(0, .ref (gAd E (56))), (1, .int (x1)), (2, .int (x2)), (3, .int (x3)), (4, .int (x4)), (5, .int (x5))] [.int ((1 : Int32)), .int (((3 : Int32)) + (x5)), .int (x2), .int (x1), .ref (gAd E (56)), .long ((rTl R) * ((31 : Int64))), .ref (gAd E (56))] rfl ?_
      obtain ⟨v156, hv156, hr⟩ := bnd_s hr
      refine G.callV (56) [.int (x1), .int (x2), .int (((3 : Int32)) + (x5)), .int ((1 : Int32))] [.long ((rTl R) * ((31 : Int64))), .ref (gAd E (56))] (k_X12_slotNumber E _ hE R ⟨_, _, r0⟩ x1 x2 (((3 : Int32)) + (x5)) ((1 : Int32)) v156 hv156) cls_X12 (by omega) (r0.o) cw_X12_347 w_2515 w_107 (Nat.le_of_ble_eq_true rfl) rfl (Nat.le_of_ble_eq_true rfl) (tbd tv_X12_tellName rfl) (fun v156w f156 q156 => ?_) (fun _ _ h => h.elim)
      obtain ⟨rfl, ⟨az156, sy156, r156⟩, fa156⟩ := q156
      refine G.eqs [.int (v156), .long ((rTl R) * ((31 : Int64))), .ref (gAd E (56))] rfl ?_
      refine G.go tv_X12_tellName 2 42 [(0, .ref (gAd E (56))), (1, .int (x1)), (2, .int (x2)), (3, .int (x3)), (4, .int (x4)), (5, .int (x5))] [.long (((rTl R) * ((31 : Int64))) + ((v156 : Int32).toInt64)), .ref (gAd E (56))] rfl ?_
      obtain ⟨R157, eR157, hr⟩ := ptTl_s hr
      refine G.rpTl r156 hE 60 eR157 rfl (by decide) rfl rfl rfl (tbd tv_X12_tellName rfl) w_2125 (fun u157 r157 h157 => ?_)
      refine G.go tv_X12_tellName 2 13 [(0, .ref (gAd E (56))), (1, .int (x1)), (2, .int (x2)), (3, .int (x3)), (4, .int (x4)), (5, .int (x5 + (1 : Int32)))] [] rfl ?_
      refine G.less [(0, .ref (gAd E (56))), (1, .int (x1)), (2, .int (x2)), (3, .int (x3)), (4, .int (x4)), (5, .int (x5 + (1 : Int32)))] [0, 1, 2, 3, 4, 5] rfl ?_
      exact ih _ _ _ _ _ _ _ hr _ ⟨_, _, r157⟩ ((hf.tr fa156 (fun _ h => h)).tr h157 (fun _ h => h))
set_option maxRecDepth 100000 in
set_option maxHeartbeats 4000000 in
theorem k_X12_tellName (E : gE) (f : Nat → va_E) (hE : 94 ≤ gN E) (R : RfT) (w : RW E f R) (a0 : Int32) (a1 : Int32) (a2 : Int32) (R9 : RfT) (hr : e_tellName R a0 a1 a2 = some R9) : Ct E 7 yX12_tellName cX12_tellName 6 none [.ref (gAd E (56)), .int (a0), .int (a1), .int (a2)] f (fun v g => v = none ∧ RW E g R9 ∧ Fr RfK f g, fun _ _ => False) := by
  obtain ⟨az, sy, r0⟩ := w
  refine Ct.of (by decide) (Nat.le_of_ble_eq_true rfl) (fun sz => ?_)
  refine G.eql [(0, .ref (gAd E (56))), (1, .int (a0)), (2, .int (a1)), (3, .int (a2))] rfl ?_
  unfold e_tellName at hr
  refine G.go tv_X12_tellName 5 5 [(0, .ref (gAd E (56))), (1, .int (a0)), (2, .int (a1)), (3, .int (a2))] [.int ((1 : Int32)), .int ((2 : Int32)), .int (a1), .int (a0), .ref (gAd E (56))] rfl ?_
  obtain ⟨v149, hv149, hr⟩ := bnd_s hr
  refine G.callV (56) [.int (a0), .int (a1), .int ((2 : Int32)), .int ((1 : Int32))] [] (k_X12_slotNumber E _ hE R ⟨_, _, r0⟩ a0 a1 ((2 : Int32)) ((1 : Int32)) v149 hv149) cls_X12 (by omega) (r0.o) cw_X12_347 w_2515 w_107 (Nat.le_of_ble_eq_true rfl) rfl (Nat.le_of_ble_eq_true rfl) (tbd tv_X12_tellName rfl) (fun v149w f149 q149 => ?_) (fun _ _ h => h.elim)
  obtain ⟨rfl, ⟨az149, sy149, r149⟩, fa149⟩ := q149
  refine G.eqs [.int (v149)] rfl ?_
  refine G.go tv_X12_tellName 3 13 [(0, .ref (gAd E (56))), (1, .int (a0)), (2, .int (a1)), (3, .int (a2)), (4, .int (v149)), (5, .int ((0 : Int32)))] [] rfl ?_
  refine G.less [(0, .ref (gAd E (56))), (1, .int (a0)), (2, .int (a1)), (3, .int (a2)), (4, .int (v149)), (5, .int ((0 : Int32)))] [0, 1, 2, 3, 4, 5] rfl ?_
  exact l_X12_tellName_13 E f sz _ hE _ _ _ _ _ _ _ _ hr _ ⟨_, _, r149⟩ (Fr.rf.tr fa149 (fun _ h => h))
theorem w_2812 : Cond.methodLink "LedgerFilesModel" 523 yX12_tellName ∈ TB := tp_12 26 (by decide +kernel) rfl
theorem w_2815 : Cond.code yX12_tellName prog_14_method_142_code 6 none ∈ TB := tp_12 29 rfl rfl
theorem cw_X12_523 : Cw RX12 523 yX12_tellName cX12_tellName 6 none 3 := ⟨w_2812, w_2815, w_161, by decide +kernel, by decide +kernel, by decide⟩
theorem w_2814 : Cond.instanceMethod yX12_tellName ∈ TB := tp_12 28 (by decide +kernel) rfl
theorem w_143 : Cond.selects "LedgerFilesModel" yX12_tellName yX12_tellName ∈ TB := tp_0 143 (by decide +kernel) rfl
def tb_X12_tellBytes : List (Nat × Instr × Nat) := [(0, .aload_n 0, 1), (1, .iload_n 1, 1), (2, .invokevirtual 344, 3), (5, .istore_n 2, 1), (6, .iconst 0, 1), (7, .istore_n 3, 1), (8, .sipush 128, 3), (11, .iload_n 3, 1), (12, .imul, 1), (13, .iload_n 2, 1), (14, .if_icmp .ge 92, 3), (17, .aload_n 0, 1), (18, .iload_n 1, 1), (19, .iload_n 3, 1), (20, .invokevirtual 323, 3), (23, .istore 4, 2), (25, .iload 4, 2), (27, .ifCond .eq 10, 3), (30, .aload_n 0, 1), (31, .iload 4, 2), (33, .iconst 1, 1), (34, .invokevirtual 236, 3), (37, .iconst 0, 1), (38, .istore 5, 2), (40, .iload 5, 2), (42, .sipush 128, 3), (45, .if_icmp .ge 55, 3), (48, .sipush 128, 3), (51, .iload_n 3, 1), (52, .imul, 1), (53, .iload 5, 2), (55, .iadd, 1), (56, .iload_n 2, 1), (57, .if_icmp .ge 43, 3), (60, .aload_n 0, 1), (61, .aload_n 0, 1), (62, .getfield 516, 3), (65, .ldc2_w 519, 3), (68, .lmul, 1), (69, .iload 4, 2), (71, .ifCond .ne 7, 3), (74, .iconst 0, 1), (75, .goto 14, 3), (78, .aload_n 0, 1), (79, .getfield 86, 3), (82, .iload 5, 2), (84, .baload, 1), (85, .sipush 255, 3), (88, .iand, 1), (89, .i2l, 1), (90, .ladd, 1), (91, .putfield 516, 3), (94, .iinc 5 1, 3), (97, .goto (-57), 3), (100, .iinc 3 1, 3), (103, .goto (-95), 3), (106, .return_, 1)]
theorem tv_X12_tellBytes : Tv cX12_tellBytes tb_X12_tellBytes := by
  unfold Tv
  decide +kernel
def e_tellBytes_40  (self8 : RfT → Int32 → Int32 → Int32 → Option (RfT)) : Nat → RfT → Int32 → Int32 → Int32 → Int32 → Int32 → Option (RfT)
  | 0, _, _, _, _, _, _ => none
  | n + 1, R, x1, x2, x3, x4, x5 => if ((128 : Int32)) ≤ x5 then self8 R x1 x2 (x3 + (1 : Int32)) else if x2 ≤ ((((128 : Int32)) * (x3)) + (x5)) then self8 R x1 x2 (x3 + (1 : Int32)) else if x4 = 0 then ptTl R (((rTl R) * ((31 : Int64))) + (((0 : Int32) : Int32).toInt64)) (fun R165 => e_tellBytes_40  self8 n R165 x1 x2 x3 x4 (x5 + (1 : Int32))) else ld (rA R 43) 128 x5 (fun v163 => ptTl R (((rTl R) * ((31 : Int64))) + (((v163) &&& ((255 : Int32)) : Int32).toInt64)) (fun R164 => e_tellBytes_40  self8 n R164 x1 x2 x3 x4 (x5 + (1 : Int32))))
def e_tellBytes_8  : Nat → RfT → Int32 → Int32 → Int32 → Option (RfT)
  | 0, _, _, _, _ => none
  | n + 1, R, x1, x2, x3 => if x2 ≤ (((128 : Int32)) * (x3)) then some R else bnd (e_blockOf R x1 x3) (fun v161 => if v161 = 0 then e_tellBytes_40  (e_tellBytes_8  n) fuL R x1 x2 x3 v161 ((0 : Int32)) else bnd (e_see R v161 ((1 : Int32))) (fun R162 => e_tellBytes_40  (e_tellBytes_8  n) fuL R162 x1 x2 x3 v161 ((0 : Int32))))
def e_tellBytes  (R : RfT) (a0 : Int32) : Option (RfT) := bnd (e_size R a0) (fun v160 => e_tellBytes_8  fuL R a0 v160 ((0 : Int32)))
set_option maxRecDepth 100000 in
set_option maxHeartbeats 4000000 in
theorem l_X12_tellBytes_40 (E : gE) (f0 : Nat → va_E) (sz : Nat) (QA : Nat → Prop) (hE : 94 ≤ gN E) (self8 : RfT → Int32 → Int32 → Int32 → Option (RfT)) (hs8 : ∀ (R : RfT) (x1 : Int32) (x2 : Int32) (x3 : Int32) (R9 : RfT) (hr : self8 R x1 x2 x3 = some R9) (f : Nat → va_E) (w : RW E f R) (hf : Fr RfK f0 f), G E (6, yX12_tellBytes, 6, none, sz, QA) cX12_tellBytes (gO E (6, yX12_tellBytes, 6, none, sz, QA) (fun v g => v = none ∧ RW E g R9 ∧ Fr RfK f0 g, fun _ _ => False)) 8 [(0, .ref (gAd E (56))), (1, .int (x1)), (2, .int (x2)), (3, .int (x3))] [] f) : ∀ (n : Nat), ∀ (R : RfT) (x1 : Int32) (x2 : Int32) (x3 : Int32) (x4 : Int32) (x5 : Int32) (R9 : RfT) (hr : e_tellBytes_40  self8 n R x1 x2 x3 x4 x5 = some R9) (f : Nat → va_E) (w : RW E f R) (hf : Fr RfK f0 f), G E (6, yX12_tellBytes, 6, none, sz, QA) cX12_tellBytes (gO E (6, yX12_tellBytes, 6, none, sz, QA) (fun v g => v = none ∧ RW E g R9 ∧ Fr RfK f0 g, fun _ _ => False)) 40 [(0, .ref (gAd E (56))), (1, .int (x1)), (2, .int (x2)), (3, .int (x3)), (4, .int (x4)), (5, .int (x5))] [] f := by
  intro n
  induction n with
  | zero =>
    intro R x1 x2 x3 x4 x5 R9 hr f w hf
    cases hr
  | succ n ih =>
    intro R x1 x2 x3 x4 x5 R9 hr f w hf
    obtain ⟨az, sy, r0⟩ := w
    unfold e_tellBytes_40 at hr
    refine G.go tv_X12_tellBytes 2 45 [(0, .ref (gAd E (56))), (1, .int (x1)), (2, .int (x2)), (3, .int (x3)), (4, .int (x4)), (5, .int (x5))] [.int ((128 : Int32)), .int (x5)] rfl ?_
    refine G.cmp_ge 100 (tbd tv_X12_tellBytes rfl) (by decide) (fun c45 => ?_) (fun c45 => ?_)
    · replace hr := ite_t c45 hr
      refine G.go tv_X12_tellBytes 2 8 [(0, .ref (gAd E (56))), (1, .int (x1)), (2, .int (x2)), (3, .int (x3 + (1 : Int32))), (4, .int (x4)), (5, .int (x5))] [] rfl ?_
      refine G.less [(0, .ref (gAd E (56))), (1, .int (x1)), (2, .int (x2)), (3, .int (x3 + (1 : Int32)))] [0, 1, 2, 3] rfl ?_
      exact hs8 _ _ _ _ _ hr _ ⟨_, _, r0⟩ hf
    · replace hr := ite_f c45 hr
      refine G.go tv_X12_tellBytes 6 57 [(0, .ref (gAd E (56))), (1, .int (x1)), (2, .int (x2)), (3, .int (x3)), (4, .int (x4)), (5, .int (x5))] [.int (x2), .int ((((128 : Int32)) * (x3)) + (x5))] rfl ?_
      refine G.cmp_ge 100 (tbd tv_X12_tellBytes rfl) (by decide) (fun c57 => ?_) (fun c57 => ?_)
      · replace hr := ite_t c57 hr
        refine G.go tv_X12_tellBytes 2 8 [(0, .ref (gAd E (56))), (1, .int (x1)), (2, .int (x2)), (3, .int (x3 + (1 : Int32))), (4, .int (x4)), (5, .int (x5))] [] rfl ?_
        refine G.less [(0, .ref (gAd E (56))), (1, .int (x1)), (2, .int (x2)), (3, .int (x3 + (1 : Int32)))] [0, 1, 2, 3] rfl ?_
        exact hs8 _ _ _ _ _ hr _ ⟨_, _, r0⟩ hf
      · replace hr := ite_f c57 hr
        refine G.go tv_X12_tellBytes 2 62 [(0, .ref (gAd E (56))), (1, .int (x1)), (2, .int (x2)), (3, .int (x3)), (4, .int (x4)), (5, .int (x5))] [.ref (gAd E (56)), .ref (gAd E (56))] rfl ?_
        refine G.rg r0 hE 60 (.long (rTl R)) (by decide) rfl (tbd tv_X12_tellBytes rfl) w_2125 ?_
        refine G.ldc2 (31) (tbd tv_X12_tellBytes rfl) w_2810 ?_
        refine G.go tv_X12_tellBytes 2 71 [(0, .ref (gAd E (56))), (1, .int (x1)), (2, .int (x2)), (3, .int (x3)), (4, .int (x4)), (5, .int (x5))] [.int (x4), .long ((rTl R) * ((31 : Int64))), .ref (gAd E (56))] rfl ?_
        refine G.if_ne 78 (tbd tv_X12_tellBytes rfl) (by decide) (fun c71 => ?_) (fun c71 => ?_)
        · replace hr := ite_f c71 hr
          refine G.go tv_X12_tellBytes 1 79 [(0, .ref (gAd E (56))), (1, .int (x1)), (2, .int (x2)), (3, .int (x3)), (4, .int (x4)), (5, .int (x5))] [.ref (gAd E (56)), .long ((rTl R) * ((31 : Int64))), .ref (gAd E (56))] rfl ?_
          refine G.rg r0 hE 43 (.ref (gAd E (78))) (by decide) rfl (tbd tv_X12_tellBytes rfl) w_2108 ?_
          refine G.go tv_X12_tellBytes 1 84 [(0, .ref (gAd E (56))), (1, .int (x1)), (2, .int (x2)), (3, .int (x3)), (4, .int (x4)), (5, .int (x5))] [.int (x5), .ref (gAd E (78)), .long ((rTl R) * ((31 : Int64))), .ref (gAd E (56))] rfl ?_
          obtain ⟨v163, b163, e163, hr⟩ := ld_s hr
          refine G.baldE (78) (by omega) (r0.a43) b163 e163 (tbd tv_X12_tellBytes rfl) ?_
          refine G.go tv_X12_tellBytes 4 91 [(0, .ref (gAd E (56))), (1, .int (x1)), (2, .int (x2)), (3, .int (x3)), (4, .int (x4)), (5, .int (x5))] [.long (((rTl R) * ((31 : Int64))) + (((v163) &&& ((255 : Int32)) : Int32).toInt64)), .ref (gAd E (56))] rfl ?_
          obtain ⟨R164, eR164, hr⟩ := ptTl_s hr
          refine G.rpTl r0 hE 60 eR164 rfl (by decide) rfl rfl rfl (tbd tv_X12_tellBytes rfl) w_2125 (fun u164 r164 h164 => ?_)
          refine G.go tv_X12_tellBytes 2 40 [(0, .ref (gAd E (56))), (1, .int (x1)), (2, .int (x2)), (3, .int (x3)), (4, .int (x4)), (5, .int (x5 + (1 : Int32)))] [] rfl ?_
          refine G.less [(0, .ref (gAd E (56))), (1, .int (x1)), (2, .int (x2)), (3, .int (x3)), (4, .int (x4)), (5, .int (x5 + (1 : Int32)))] [0, 1, 2, 3, 4, 5] rfl ?_
          exact ih _ _ _ _ _ _ _ hr _ ⟨_, _, r164⟩ (hf.tr h164 (fun _ h => h))
        · replace hr := ite_t c71 hr
          refine G.go tv_X12_tellBytes 4 91 [(0, .ref (gAd E (56))), (1, .int (x1)), (2, .int (x2)), (3, .int (x3)), (4, .int (x4)), (5, .int (x5))] [.long (((rTl R) * ((31 : Int64))) + (((0 : Int32) : Int32).toInt64)), .ref (gAd E (56))] rfl ?_
          obtain ⟨R165, eR165, hr⟩ := ptTl_s hr
          refine G.rpTl r0 hE 60 eR165 rfl (by decide) rfl rfl rfl (tbd tv_X12_tellBytes rfl) w_2125 (fun u165 r165 h165 => ?_)
          refine G.go tv_X12_tellBytes 2 40 [(0, .ref (gAd E (56))), (1, .int (x1)), (2, .int (x2)), (3, .int (x3)), (4, .int (x4)), (5, .int (x5 + (1 : Int32)))] [] rfl ?_
          refine G.less [(0, .ref (gAd E (56))), (1, .int (x1)), (2, .int (x2)), (3, .int (x3)), (4, .int (x4)), (5, .int (x5 + (1 : Int32)))] [0, 1, 2, 3, 4, 5] rfl ?_
          exact ih _ _ _ _ _ _ _ hr _ ⟨_, _, r165⟩ (hf.tr h165 (fun _ h => h))
set_option maxRecDepth 100000 in
set_option maxHeartbeats 4000000 in
theorem l_X12_tellBytes_8 (E : gE) (f0 : Nat → va_E) (sz : Nat) (QA : Nat → Prop) (hE : 94 ≤ gN E) : ∀ (n : Nat), ∀ (R : RfT) (x1 : Int32) (x2 : Int32) (x3 : Int32) (R9 : RfT) (hr : e_tellBytes_8  n R x1 x2 x3 = some R9) (f : Nat → va_E) (w : RW E f R) (hf : Fr RfK f0 f), G E (6, yX12_tellBytes, 6, none, sz, QA) cX12_tellBytes (gO E (6, yX12_tellBytes, 6, none, sz, QA) (fun v g => v = none ∧ RW E g R9 ∧ Fr RfK f0 g, fun _ _ => False)) 8 [(0, .ref (gAd E (56))), (1, .int (x1)), (2, .int (x2)), (3, .int (x3))] [] f := by
  intro n
  induction n with
  | zero =>
    intro R x1 x2 x3 R9 hr f w hf
    cases hr
  | succ n ih =>
    intro R x1 x2 x3 R9 hr f w hf
    obtain ⟨az, sy, r0⟩ := w
    unfold e_tellBytes_8 at hr
    refine G.go tv_X12_tellBytes 4 14 [(0, .ref (gAd E (56))), (1, .int (x1)), (2, .int (x2)), (3, .int (x3))] [.int (x2), .int (((128 : Int32)) * (x3))] rfl ?_
    refine G.cmp_ge 106 (tbd tv_X12_tellBytes rfl) (by decide) (fun c14 => ?_) (fun c14 => ?_)
    · replace hr := ite_t c14 hr
      cases hr
      exact G.vret rfl ⟨rfl, ⟨_, _, r0⟩, hf⟩ (tbd tv_X12_tellBytes rfl)
    · replace hr := ite_f c14 hr
      refine G.go tv_X12_tellBytes 3 20 [(0, .ref (gAd E (56))), (1, .int (x1)), (2, .int (x2)), (3, .int (x3))] [.int (x3), .int (x1), .ref (gAd E (56))] rfl ?_
      obtain ⟨v161, hv161, hr⟩ := bnd_s hr
      refine G.callV (56) [.int (x1), .int (x3)] [] (k_X12_blockOf E _ hE R ⟨_, _, r0⟩ x1 x3 v161 hv161) cls_X12 (by omega) (r0.o) cw_X12_323 w_2507 w_105 (Nat.le_of_ble_eq_true rfl) rfl (Nat.le_of_ble_eq_true rfl) (tbd tv_X12_tellBytes rfl) (fun v161w f161 q161 => ?_) (fun _ _ h => h.elim)
      obtain ⟨rfl, ⟨az161, sy161, r161⟩, fa161⟩ := q161
      refine G.eqs [.int (v161)] rfl ?_
      refine G.go tv_X12_tellBytes 2 27 [(0, .ref (gAd E (56))), (1, .int (x1)), (2, .int (x2)), (3, .int (x3)), (4, .int (v161))] [.int (v161)] rfl ?_
      refine G.if_eq 37 (tbd tv_X12_tellBytes rfl) (by decide) (fun c27 => ?_) (fun c27 => ?_)
      · replace hr := ite_t c27 hr
        refine G.go tv_X12_tellBytes 2 40 [(0, .ref (gAd E (56))), (1, .int (x1)), (2, .int (x2)), (3, .int (x3)), (4, .int (v161)), (5, .int ((0 : Int32)))] [] rfl ?_
        refine G.less [(0, .ref (gAd E (56))), (1, .int (x1)), (2, .int (x2)), (3, .int (x3)), (4, .int (v161)), (5, .int ((0 : Int32)))] [0, 1, 2, 3, 4, 5] rfl ?_
        exact l_X12_tellBytes_40 E f0 sz QA hE _ ih _ _ _ _ _ _ _ _ hr _ ⟨_, _, r161⟩ (hf.tr fa161 (fun _ h => h))
      · replace hr := ite_f c27 hr
        refine G.go tv_X12_tellBytes 3 34 [(0, .ref (gAd E (56))), (1, .int (x1)), (2, .int (x2)), (3, .int (x3)), (4, .int (v161))] [.int ((1 : Int32)), .int (v161), .ref (gAd E (56))] rfl ?_
        obtain ⟨R162, hv162, hr⟩ := bnd_s hr
        refine G.callV (56) [.int (v161), .int ((1 : Int32))] [] (k_X12_see E _ hE R ⟨_, _, r161⟩ v161 ((1 : Int32)) R162 hv162) cls_X12 (by omega) (r161.o) cw_X12_236 w_2420 w_86 (Nat.le_of_ble_eq_true rfl) rfl (Nat.le_of_ble_eq_true rfl) (tbd tv_X12_tellBytes rfl) (fun v162w f162 q162 => ?_) (fun _ _ h => h.elim)
        obtain ⟨rfl, ⟨az162, sy162, r162⟩, fa162⟩ := q162
        refine G.eqs [] rfl ?_
        refine G.go tv_X12_tellBytes 2 40 [(0, .ref (gAd E (56))), (1, .int (x1)), (2, .int (x2)), (3, .int (x3)), (4, .int (v161)), (5, .int ((0 : Int32)))] [] rfl ?_
        refine G.less [(0, .ref (gAd E (56))), (1, .int (x1)), (2, .int (x2)), (3, .int (x3)), (4, .int (v161)), (5, .int ((0 : Int32)))] [0, 1, 2, 3, 4, 5] rfl ?_
        exact l_X12_tellBytes_40 E f0 sz QA hE _ ih _ _ _ _ _ _ _ _ hr _ ⟨_, _, r162⟩ ((hf.tr fa161 (fun _ h => h)).tr fa162 (fun _ h => h))
set_option maxRecDepth 100000 in
set_option maxHeartbeats 4000000 in
theorem k_X12_tellBytes (E : gE) (f : Nat → va_E) (hE : 94 ≤ gN E) (R : RfT) (w : RW E f R) (a0 : Int32) (R9 : RfT) (hr : e_tellBytes R a0 = some R9) : Ct E 6 yX12_tellBytes cX12_tellBytes 6 none [.ref (gAd E (56)), .int (a0)] f (fun v g => v = none ∧ RW E g R9 ∧ Fr RfK f g, fun _ _ => False) := by
  obtain ⟨az, sy, r0⟩ := w
  refine Ct.of (by decide) (Nat.le_of_ble_eq_true rfl) (fun sz => ?_)
  refine G.eql [(0, .ref (gAd E (56))), (1, .int (a0))] rfl ?_
  unfold e_tellBytes at hr
  refine G.go tv_X12_tellBytes 2 2 [(0, .ref (gAd E (56))), (1, .int (a0))] [.int (a0), .ref (gAd E (56))] rfl ?_
  obtain ⟨v160, hv160, hr⟩ := bnd_s hr
  refine G.callV (56) [.int (a0)] [] (k_X12_size E _ hE R ⟨_, _, r0⟩ a0 v160 hv160) cls_X12 (by omega) (r0.o) cw_X12_344 w_2503 w_104 (Nat.le_of_ble_eq_true rfl) rfl (Nat.le_of_ble_eq_true rfl) (tbd tv_X12_tellBytes rfl) (fun v160w f160 q160 => ?_) (fun _ _ h => h.elim)
  obtain ⟨rfl, ⟨az160, sy160, r160⟩, fa160⟩ := q160
  refine G.eqs [.int (v160)] rfl ?_
  refine G.go tv_X12_tellBytes 3 8 [(0, .ref (gAd E (56))), (1, .int (a0)), (2, .int (v160)), (3, .int ((0 : Int32)))] [] rfl ?_
  refine G.less [(0, .ref (gAd E (56))), (1, .int (a0)), (2, .int (v160)), (3, .int ((0 : Int32)))] [0, 1, 2, 3] rfl ?_
  exact l_X12_tellBytes_8 E f sz _ hE _ _ _ _ _ _ hr _ ⟨_, _, r160⟩ (Fr.rf.tr fa160 (fun _ h => h))
theorem w_2816 : Cond.methodLink "LedgerFilesModel" 526 yX12_tellBytes ∈ TB := tp_12 30 (by decide +kernel) rfl
theorem w_2819 : Cond.code yX12_tellBytes prog_14_method_141_code 6 none ∈ TB := tp_12 33 rfl rfl
theorem cw_X12_526 : Cw RX12 526 yX12_tellBytes cX12_tellBytes 6 none 1 := ⟨w_2816, w_2819, w_161, by decide +kernel, by decide +kernel, by decide⟩
theorem w_2818 : Cond.instanceMethod yX12_tellBytes ∈ TB := tp_12 32 (by decide +kernel) rfl
theorem w_144 : Cond.selects "LedgerFilesModel" yX12_tellBytes yX12_tellBytes ∈ TB := tp_0 144 (by decide +kernel) rfl
theorem w_2811 : Cond.constantLong "LedgerFilesModel" 521 (3 : Int64) ∈ TB := tp_12 25 (by decide +kernel) rfl
def e_tellTree_75  (self16 : RfT → Int32 → Int32 → Option (RfT)) (R : RfT) (x1 : Int32) (x2 : Int32) (x3 : Int32) (x4 : Int32) (x5 : Int32) (x6 : Int32) : Option (RfT) := ld (rA R 58) 70 x2 (fun v146 => stR R 58 70 x2 ((v146) + ((1 : Int32))) (fun R147 => if x5 = 0 then if x6 = 0 then self16 R147 x1 x2 else bnd (e_tellName R147 x3 x4 x6) (fun R148 => bnd (e_kind R148 x6) (fun v158 => if v158 = ((2 : Int32)) then stR R148 57 70 (x2 + (1 : Int32)) x6 (fun R166 => stR R166 58 70 (x2 + (1 : Int32)) ((0 : Int32)) (fun R167 => self16 R167 x1 (x2 + (1 : Int32)))) else if x1 = 0 then self16 R148 x1 x2 else bnd (e_tellBytes R148 x6) (fun R159 => self16 R159 x1 x2))) else ptTl R147 (((rTl R147) * ((31 : Int64))) + ((3 : Int64))) (fun R168 => self16 R168 x1 (x2 + (-1 : Int32)))))
def e_tellTree_55  (self16 : RfT → Int32 → Int32 → Option (RfT)) (R : RfT) (x1 : Int32) (x2 : Int32) (x3 : Int32) (x4 : Int32) (x5 : Int32) : Option (RfT) := if x5 = 0 then bnd (e_slotNumber R x3 x4 ((0 : Int32)) ((2 : Int32))) (fun v145 => e_tellTree_75  self16 R x1 x2 x3 x4 x5 v145) else e_tellTree_75  self16 R x1 x2 x3 x4 x5 ((0 : Int32))
def e_tellTree_16  : Nat → RfT → Int32 → Int32 → Option (RfT)
  | 0, _, _, _ => none
  | n + 1, R, x1, x2 => if x2 < 0 then some R else ld (rA R 57) 70 x2 (fun v142 => ld (rA R 58) 70 x2 (fun v143 => bnd (e_size R v142) (fun v144 => if (((16 : Int32)) * (v143)) < v144 then e_tellTree_55  (e_tellTree_16  n) R x1 x2 v142 v143 ((0 : Int32)) else e_tellTree_55  (e_tellTree_16  n) R x1 x2 v142 v143 ((1 : Int32)))))
def e_tellTree  (R : RfT) (a0 : Int32) : Option (RfT) := stR R 57 70 ((0 : Int32)) ((1 : Int32)) (fun R140 => stR R140 58 70 ((0 : Int32)) ((0 : Int32)) (fun R141 => e_tellTree_16  fuL R141 a0 ((0 : Int32))))
set_option maxRecDepth 100000 in
set_option maxHeartbeats 4000000 in
theorem l_X12_tellTree_75 (E : gE) (f0 : Nat → va_E) (sz : Nat) (QA : Nat → Prop) (hE : 94 ≤ gN E) (self16 : RfT → Int32 → Int32 → Option (RfT)) (hs16 : ∀ (R : RfT) (x1 : Int32) (x2 : Int32) (R9 : RfT) (hr : self16 R x1 x2 = some R9) (f : Nat → va_E) (w : RW E f R) (hf : Fr RfK f0 f), G E (8, yX12_tellTree, 7, none, sz, QA) cX12_tellTree (gO E (8, yX12_tellTree, 7, none, sz, QA) (fun v g => v = none ∧ RW E g R9 ∧ Fr RfK f0 g, fun _ _ => False)) 16 [(0, .ref (gAd E (56))), (1, .int (x1)), (2, .int (x2))] [] f) : ∀ (R : RfT) (x1 : Int32) (x2 : Int32) (x3 : Int32) (x4 : Int32) (x5 : Int32) (x6 : Int32) (R9 : RfT) (hr : e_tellTree_75  self16 R x1 x2 x3 x4 x5 x6 = some R9) (f : Nat → va_E) (w : RW E f R) (hf : Fr RfK f0 f), G E (8, yX12_tellTree, 7, none, sz, QA) cX12_tellTree (gO E (8, yX12_tellTree, 7, none, sz, QA) (fun v g => v = none ∧ RW E g R9 ∧ Fr RfK f0 g, fun _ _ => False)) 75 [(0, .ref (gAd E (56))), (1, .int (x1)), (2, .int (x2)), (3, .int (x3)), (4, .int (x4)), (5, .int (x5)), (6, .int (x6))] [] f := by
  intro R x1 x2 x3 x4 x5 x6 R9 hr f w hf
  obtain ⟨az, sy, r0⟩ := w
  unfold e_tellTree_75 at hr
  refine G.go tv_X12_tellTree 1 76 [(0, .ref (gAd E (56))), (1, .int (x1)), (2, .int (x2)), (3, .int (x3)), (4, .int (x4)), (5, .int (x5)), (6, .int (x6))] [.ref (gAd E (56))] rfl ?_
  refine G.rg r0 hE 58 (.ref (gAd E (91))) (by decide) rfl (tbd tv_X12_tellTree rfl) w_2123 ?_
  refine G.go tv_X12_tellTree 2 81 [(0, .ref (gAd E (56))), (1, .int (x1)), (2, .int (x2)), (3, .int (x3)), (4, .int (x4)), (5, .int (x5)), (6, .int (x6))] [.int (x2), .ref (gAd E (91)), .int (x2), .ref (gAd E (91))] rfl ?_
  obtain ⟨v146, b146, e146, hr⟩ := ld_s hr
  refine G.ialdE (91) (by omega) (r0.a58) b146 e146 (tbd tv_X12_tellTree rfl) ?_
  refine G.go tv_X12_tellTree 2 84 [(0, .ref (gAd E (56))), (1, .int (x1)), (2, .int (x2)), (3, .int (x3)), (4, .int (x4)), (5, .int (x5)), (6, .int (x6))] [.int ((v146) + ((1 : Int32))), .int (x2), .ref (gAd E (91))] rfl ?_
  obtain ⟨R147, b147, eR147, hr⟩ := stR_s hr
  refine G.iast (91) (by omega) (r0.a58) b147 (tbd tv_X12_tellTree rfl) ?_
  refine G.gen (P := fun w9 => RfV E w9 (setSr (setS R147 42 az) sy) ∧ Fr RfK f0 w9) ⟨by rw [eR147]; exact r0.p58 _, Fr.up hf ⟨by decide, by decide⟩⟩ (fun u147 p147 => ?_)
  obtain ⟨r147, h147⟩ := p147
  refine G.go tv_X12_tellTree 1 87 [(0, .ref (gAd E (56))), (1, .int (x1)), (2, .int (x2)), (3, .int (x3)), (4, .int (x4)), (5, .int (x5)), (6, .int (x6))] [.int (x5)] rfl ?_
  refine G.if_eq 112 (tbd tv_X12_tellTree rfl) (by decide) (fun c87 => ?_) (fun c87 => ?_)
  · replace hr := ite_t c87 hr
    refine G.go tv_X12_tellTree 1 114 [(0, .ref (gAd E (56))), (1, .int (x1)), (2, .int (x2)), (3, .int (x3)), (4, .int (x4)), (5, .int (x5)), (6, .int (x6))] [.int (x6)] rfl ?_
    refine G.if_eq 167 (tbd tv_X12_tellTree rfl) (by decide) (fun c114 => ?_) (fun c114 => ?_)
    · replace hr := ite_t c114 hr
      refine G.go tv_X12_tellTree 1 16 [(0, .ref (gAd E (56))), (1, .int (x1)), (2, .int (x2)), (3, .int (x3)), (4, .int (x4)), (5, .int (x5)), (6, .int (x6))] [] rfl ?_
      refine G.less [(0, .ref (gAd E (56))), (1, .int (x1)), (2, .int (x2))] [0, 1, 2] rfl ?_
      exact hs16 _ _ _ _ hr _ ⟨_, _, r147⟩ h147
    · replace hr := ite_f c114 hr
      refine G.go tv_X12_tellTree 4 123 [(0, .ref (gAd E (56))), (1, .int (x1)), (2, .int (x2)), (3, .int (x3)), (4, .int (x4)), (5, .int (x5)), (6, .int (x6))] [.int (x6), .int (x4), .int (x3), .ref (gAd E (56))] rfl ?_
      obtain ⟨R148, hv148, hr⟩ := bnd_s hr
      refine G.callV (56) [.int (x3), .int (x4), .int (x6)] [] (k_X12_tellName E _ hE R147 ⟨_, _, r147⟩ x3 x4 x6 R148 hv148) cls_X12 (by omega) (r147.o) cw_X12_523 w_2814 w_143 (Nat.le_of_ble_eq_true rfl) rfl (Nat.le_of_ble_eq_true rfl) (tbd tv_X12_tellTree rfl) (fun v148w f148 q148 => ?_) (fun _ _ h => h.elim)
      obtain ⟨rfl, ⟨az148, sy148, r148⟩, fa148⟩ := q148
      refine G.eqs [] rfl ?_
      refine G.go tv_X12_tellTree 2 129 [(0, .ref (gAd E (56))), (1, .int (x1)), (2, .int (x2)), (3, .int (x3)), (4, .int (x4)), (5, .int (x5)), (6, .int (x6))] [.int (x6), .ref (gAd E (56))] rfl ?_
      obtain ⟨v158, hv158, hr⟩ := bnd_s hr
      refine G.callV (56) [.int (x6)] [] (k_X12_kind E _ hE R148 ⟨_, _, r148⟩ x6 v158 hv158) cls_X12 (by omega) (r148.o) cw_X12_326 w_2369 w_74 (Nat.le_of_ble_eq_true rfl) rfl (Nat.le_of_ble_eq_true rfl) (tbd tv_X12_tellTree rfl) (fun v158w f158 q158 => ?_) (fun _ _ h => h.elim)
      obtain ⟨rfl, ⟨az158, sy158, r158⟩, fa158⟩ := q158
      refine G.eqs [.int (v158)] rfl ?_
      refine G.go tv_X12_tellTree 1 133 [(0, .ref (gAd E (56))), (1, .int (x1)), (2, .int (x2)), (3, .int (x3)), (4, .int (x4)), (5, .int (x5)), (6, .int (x6))] [.int ((2 : Int32)), .int (v158)] rfl ?_
      refine G.cmp_ne 157 (tbd tv_X12_tellTree rfl) (by decide) (fun c133 => ?_) (fun c133 => ?_)
      · replace hr := ite_f c133 hr
        refine G.go tv_X12_tellTree 1 158 [(0, .ref (gAd E (56))), (1, .int (x1)), (2, .int (x2)), (3, .int (x3)), (4, .int (x4)), (5, .int (x5)), (6, .int (x6))] [.int (x1)] rfl ?_
        refine G.if_eq 167 (tbd tv_X12_tellTree rfl) (by decide) (fun c158 => ?_) (fun c158 => ?_)
        · replace hr := ite_t c158 hr
          refine G.go tv_X12_tellTree 1 16 [(0, .ref (gAd E (56))), (1, .int (x1)), (2, .int (x2)), (3, .int (x3)), (4, .int (x4)), (5, .int (x5)), (6, .int (x6))] [] rfl ?_
          refine G.less [(0, .ref (gAd E (56))), (1, .int (x1)), (2, .int (x2))] [0, 1, 2] rfl ?_
          exact hs16 _ _ _ _ hr _ ⟨_, _, r158⟩ ((h147.tr fa148 (fun _ h => h)).tr fa158 (fun _ h => h))
        · replace hr := ite_f c158 hr
          refine G.go tv_X12_tellTree 2 164 [(0, .ref (gAd E (56))), (1, .int (x1)), (2, .int (x2)), (3, .int (x3)), (4, .int (x4)), (5, .int (x5)), (6, .int (x6))] [.int (x6), .ref (gAd E (56))] rfl ?_
          obtain ⟨R159, hv159, hr⟩ := bnd_s hr
          refine G.callV (56) [.int (x6)] [] (k_X12_tellBytes E _ hE R148 ⟨_, _, r158⟩ x6 R159 hv159) cls_X12 (by omega) (r158.o) cw_X12_526 w_2818 w_144 (Nat.le_of_ble_eq_true rfl) rfl (Nat.le_of_ble_eq_true rfl) (tbd tv_X12_tellTree rfl) (fun v159w f159 q159 => ?_) (fun _ _ h => h.elim)
          obtain ⟨rfl, ⟨az159, sy159, r159⟩, fa159⟩ := q159
          refine G.eqs [] rfl ?_
          refine G.go tv_X12_tellTree 1 16 [(0, .ref (gAd E (56))), (1, .int (x1)), (2, .int (x2)), (3, .int (x3)), (4, .int (x4)), (5, .int (x5)), (6, .int (x6))] [] rfl ?_
          refine G.less [(0, .ref (gAd E (56))), (1, .int (x1)), (2, .int (x2))] [0, 1, 2] rfl ?_
          exact hs16 _ _ _ _ hr _ ⟨_, _, r159⟩ (((h147.tr fa148 (fun _ h => h)).tr fa158 (fun _ h => h)).tr fa159 (fun _ h => h))
      · replace hr := ite_t c133 hr
        refine G.go tv_X12_tellTree 2 140 [(0, .ref (gAd E (56))), (1, .int (x1)), (2, .int (x2 + (1 : Int32))), (3, .int (x3)), (4, .int (x4)), (5, .int (x5)), (6, .int (x6))] [.ref (gAd E (56))] rfl ?_
        refine G.rg r158 hE 57 (.ref (gAd E (90))) (by decide) rfl (tbd tv_X12_tellTree rfl) w_2122 ?_
        refine G.go tv_X12_tellTree 2 146 [(0, .ref (gAd E (56))), (1, .int (x1)), (2, .int (x2 + (1 : Int32))), (3, .int (x3)), (4, .int (x4)), (5, .int (x5)), (6, .int (x6))] [.int (x6), .int (x2 + (1 : Int32)), .ref (gAd E (90))] rfl ?_
        obtain ⟨R166, b166, eR166, hr⟩ := stR_s hr
        refine G.iast (90) (by omega) (r158.a57) b166 (tbd tv_X12_tellTree rfl) ?_
        refine G.gen (P := fun w9 => RfV E w9 (setSr (setS R166 42 az158) sy158) ∧ Fr RfK f0 w9) ⟨by rw [eR166]; exact r158.p57 _, Fr.up ((h147.tr fa148 (fun _ h => h)).tr fa158 (fun _ h => h)) ⟨by decide, by decide⟩⟩ (fun u166 p166 => ?_)
        obtain ⟨r166, h166⟩ := p166
        refine G.go tv_X12_tellTree 1 148 [(0, .ref (gAd E (56))), (1, .int (x1)), (2, .int (x2 + (1 : Int32))), (3, .int (x3)), (4, .int (x4)), (5, .int (x5)), (6, .int (x6))] [.ref (gAd E (56))] rfl ?_
        refine G.rg r166 hE 58 (.ref (gAd E (91))) (by decide) rfl (tbd tv_X12_tellTree rfl) w_2123 ?_
        refine G.go tv_X12_tellTree 2 153 [(0, .ref (gAd E (56))), (1, .int (x1)), (2, .int (x2 + (1 : Int32))), (3, .int (x3)), (4, .int (x4)), (5, .int (x5)), (6, .int (x6))] [.int ((0 : Int32)), .int (x2 + (1 : Int32)), .ref (gAd E (91))] rfl ?_
        obtain ⟨R167, b167, eR167, hr⟩ := stR_s hr
        refine G.iast (91) (by omega) (r166.a58) b167 (tbd tv_X12_tellTree rfl) ?_
        refine G.gen (P := fun w9 => RfV E w9 (setSr (setS R167 42 az158) sy158) ∧ Fr RfK f0 w9) ⟨by rw [eR167]; exact r166.p58 _, Fr.up h166 ⟨by decide, by decide⟩⟩ (fun u167 p167 => ?_)
        obtain ⟨r167, h167⟩ := p167
        refine G.go tv_X12_tellTree 2 16 [(0, .ref (gAd E (56))), (1, .int (x1)), (2, .int (x2 + (1 : Int32))), (3, .int (x3)), (4, .int (x4)), (5, .int (x5)), (6, .int (x6))] [] rfl ?_
        refine G.less [(0, .ref (gAd E (56))), (1, .int (x1)), (2, .int (x2 + (1 : Int32)))] [0, 1, 2] rfl ?_
        exact hs16 _ _ _ _ hr _ ⟨_, _, r167⟩ h167
  · replace hr := ite_f c87 hr
    refine G.go tv_X12_tellTree 2 92 [(0, .ref (gAd E (56))), (1, .int (x1)), (2, .int (x2)), (3, .int (x3)), (4, .int (x4)), (5, .int (x5)), (6, .int (x6))] [.ref (gAd E (56)), .ref (gAd E (56))] rfl ?_
    refine G.rg r147 hE 60 (.long (rTl R147)) (by decide) rfl (tbd tv_X12_tellTree rfl) w_2125 ?_
    refine G.ldc2 (31) (tbd tv_X12_tellTree rfl) w_2810 ?_
    refine G.go tv_X12_tellTree 1 99 [(0, .ref (gAd E (56))), (1, .int (x1)), (2, .int (x2)), (3, .int (x3)), (4, .int (x4)), (5, .int (x5)), (6, .int (x6))] [.long ((rTl R147) * ((31 : Int64))), .ref (gAd E (56))] rfl ?_
    refine G.ldc2 (3) (tbd tv_X12_tellTree rfl) w_2811 ?_
    refine G.go tv_X12_tellTree 1 103 [(0, .ref (gAd E (56))), (1, .int (x1)), (2, .int (x2)), (3, .int (x3)), (4, .int (x4)), (5, .int (x5)), (6, .int (x6))] [.long (((rTl R147) * ((31 : Int64))) + ((3 : Int64))), .ref (gAd E (56))] rfl ?_
    obtain ⟨R168, eR168, hr⟩ := ptTl_s hr
    refine G.rpTl r147 hE 60 eR168 rfl (by decide) rfl rfl rfl (tbd tv_X12_tellTree rfl) w_2125 (fun u168 r168 h168 => ?_)
    refine G.go tv_X12_tellTree 3 16 [(0, .ref (gAd E (56))), (1, .int (x1)), (2, .int (x2 + (-1 : Int32))), (3, .int (x3)), (4, .int (x4)), (5, .int (x5)), (6, .int (x6))] [] rfl ?_
    refine G.less [(0, .ref (gAd E (56))), (1, .int (x1)), (2, .int (x2 + (-1 : Int32)))] [0, 1, 2] rfl ?_
    exact hs16 _ _ _ _ hr _ ⟨_, _, r168⟩ (h147.tr h168 (fun _ h => h))
set_option maxRecDepth 100000 in
set_option maxHeartbeats 4000000 in
theorem l_X12_tellTree_55 (E : gE) (f0 : Nat → va_E) (sz : Nat) (QA : Nat → Prop) (hE : 94 ≤ gN E) (self16 : RfT → Int32 → Int32 → Option (RfT)) (hs16 : ∀ (R : RfT) (x1 : Int32) (x2 : Int32) (R9 : RfT) (hr : self16 R x1 x2 = some R9) (f : Nat → va_E) (w : RW E f R) (hf : Fr RfK f0 f), G E (8, yX12_tellTree, 7, none, sz, QA) cX12_tellTree (gO E (8, yX12_tellTree, 7, none, sz, QA) (fun v g => v = none ∧ RW E g R9 ∧ Fr RfK f0 g, fun _ _ => False)) 16 [(0, .ref (gAd E (56))), (1, .int (x1)), (2, .int (x2))] [] f) : ∀ (R : RfT) (x1 : Int32) (x2 : Int32) (x3 : Int32) (x4 : Int32) (x5 : Int32) (R9 : RfT) (hr : e_tellTree_55  self16 R x1 x2 x3 x4 x5 = some R9) (f : Nat → va_E) (w : RW E f R) (hf : Fr RfK f0 f), G E (8, yX12_tellTree, 7, none, sz, QA) cX12_tellTree (gO E (8, yX12_tellTree, 7, none, sz, QA) (fun v g => v = none ∧ RW E g R9 ∧ Fr RfK f0 g, fun _ _ => False)) 55 [(0, .ref (gAd E (56))), (1, .int (x1)), (2, .int (x2)), (3, .int (x3)), (4, .int (x4)), (5, .int (x5))] [] f := by
  intro R x1 x2 x3 x4 x5 R9 hr f w hf
  obtain ⟨az, sy, r0⟩ := w
  unfold e_tellTree_55 at hr
  refine G.go tv_X12_tellTree 1 57 [(0, .ref (gAd E (56))), (1, .int (x1)), (2, .int (x2)), (3, .int (x3)), (4, .int (x4)), (5, .int (x5))] [.int (x5)] rfl ?_
  refine G.if_eq 64 (tbd tv_X12_tellTree rfl) (by decide) (fun c57 => ?_) (fun c57 => ?_)
  · replace hr := ite_t c57 hr
    refine G.go tv_X12_tellTree 5 70 [(0, .ref (gAd E (56))), (1, .int (x1)), (2, .int (x2)), (3, .int (x3)), (4, .int (x4)), (5, .int (x5))] [.int ((2 : Int32)), .int ((0 : Int32)), .int (x4), .int (x3), .ref (gAd E (56))] rfl ?_
    obtain ⟨v145, hv145, hr⟩ := bnd_s hr
    refine G.callV (56) [.int (x3), .int (x4), .int ((0 : Int32)), .int ((2 : Int32))] [] (k_X12_slotNumber E _ hE R ⟨_, _, r0⟩ x3 x4 ((0 : Int32)) ((2 : Int32)) v145 hv145) cls_X12 (by omega) (r0.o) cw_X12_347 w_2515 w_107 (Nat.le_of_ble_eq_true rfl) rfl (Nat.le_of_ble_eq_true rfl) (tbd tv_X12_tellTree rfl) (fun v145w f145 q145 => ?_) (fun _ _ h => h.elim)
    obtain ⟨rfl, ⟨az145, sy145, r145⟩, fa145⟩ := q145
    refine G.eqs [.int (v145)] rfl ?_
    refine G.go tv_X12_tellTree 1 75 [(0, .ref (gAd E (56))), (1, .int (x1)), (2, .int (x2)), (3, .int (x3)), (4, .int (x4)), (5, .int (x5)), (6, .int (v145))] [] rfl ?_
    refine G.less [(0, .ref (gAd E (56))), (1, .int (x1)), (2, .int (x2)), (3, .int (x3)), (4, .int (x4)), (5, .int (x5)), (6, .int (v145))] [0, 1, 2, 3, 4, 5, 6] rfl ?_
    exact l_X12_tellTree_75 E f0 sz QA hE _ hs16 _ _ _ _ _ _ _ _ hr _ ⟨_, _, r145⟩ (hf.tr fa145 (fun _ h => h))
  · replace hr := ite_f c57 hr
    refine G.go tv_X12_tellTree 3 75 [(0, .ref (gAd E (56))), (1, .int (x1)), (2, .int (x2)), (3, .int (x3)), (4, .int (x4)), (5, .int (x5)), (6, .int ((0 : Int32)))] [] rfl ?_
    refine G.less [(0, .ref (gAd E (56))), (1, .int (x1)), (2, .int (x2)), (3, .int (x3)), (4, .int (x4)), (5, .int (x5)), (6, .int ((0 : Int32)))] [0, 1, 2, 3, 4, 5, 6] rfl ?_
    exact l_X12_tellTree_75 E f0 sz QA hE _ hs16 _ _ _ _ _ _ _ _ hr _ ⟨_, _, r0⟩ hf
set_option maxRecDepth 100000 in
set_option maxHeartbeats 4000000 in
theorem l_X12_tellTree_16 (E : gE) (f0 : Nat → va_E) (sz : Nat) (QA : Nat → Prop) (hE : 94 ≤ gN E) : ∀ (n : Nat), ∀ (R : RfT) (x1 : Int32) (x2 : Int32) (R9 : RfT) (hr : e_tellTree_16  n R x1 x2 = some R9) (f : Nat → va_E) (w : RW E f R) (hf : Fr RfK f0 f), G E (8, yX12_tellTree, 7, none, sz, QA) cX12_tellTree (gO E (8, yX12_tellTree, 7, none, sz, QA) (fun v g => v = none ∧ RW E g R9 ∧ Fr RfK f0 g, fun _ _ => False)) 16 [(0, .ref (gAd E (56))), (1, .int (x1)), (2, .int (x2))] [] f := by
  intro n
  induction n with
  | zero =>
    intro R x1 x2 R9 hr f w hf
    cases hr
  | succ n ih =>
    intro R x1 x2 R9 hr f w hf
    obtain ⟨az, sy, r0⟩ := w
    unfold e_tellTree_16 at hr
    refine G.go tv_X12_tellTree 1 17 [(0, .ref (gAd E (56))), (1, .int (x1)), (2, .int (x2))] [.int (x2)] rfl ?_
    refine G.if_lt 170 (tbd tv_X12_tellTree rfl) (by decide) (fun c17 => ?_) (fun c17 => ?_)
    · replace hr := ite_t c17 hr
      cases hr
      exact G.vret rfl ⟨rfl, ⟨_, _, r0⟩, hf⟩ (tbd tv_X12_tellTree rfl)
    · replace hr := ite_f c17 hr
      refine G.go tv_X12_tellTree 1 21 [(0, .ref (gAd E (56))), (1, .int (x1)), (2, .int (x2))] [.ref (gAd E (56))] rfl ?_
      refine G.rg r0 hE 57 (.ref (gAd E (90))) (by decide) rfl (tbd tv_X12_tellTree rfl) w_2122 ?_
      refine G.go tv_X12_tellTree 1 25 [(0, .ref (gAd E (56))), (1, .int (x1)), (2, .int (x2))] [.int (x2), .ref (gAd E (90))] rfl ?_
      obtain ⟨v142, b142, e142, hr⟩ := ld_s hr
      refine G.ialdE (90) (by omega) (r0.a57) b142 e142 (tbd tv_X12_tellTree rfl) ?_
      refine G.go tv_X12_tellTree 2 28 [(0, .ref (gAd E (56))), (1, .int (x1)), (2, .int (x2)), (3, .int (v142))] [.ref (gAd E (56))] rfl ?_
      refine G.rg r0 hE 58 (.ref (gAd E (91))) (by decide) rfl (tbd tv_X12_tellTree rfl) w_2123 ?_
      refine G.go tv_X12_tellTree 1 32 [(0, .ref (gAd E (56))), (1, .int (x1)), (2, .int (x2)), (3, .int (v142))] [.int (x2), .ref (gAd E (91))] rfl ?_
      obtain ⟨v143, b143, e143, hr⟩ := ld_s hr
      refine G.ialdE (91) (by omega) (r0.a58) b143 e143 (tbd tv_X12_tellTree rfl) ?_
      refine G.go tv_X12_tellTree 6 42 [(0, .ref (gAd E (56))), (1, .int (x1)), (2, .int (x2)), (3, .int (v142)), (4, .int (v143))] [.int (v142), .ref (gAd E (56)), .int (((16 : Int32)) * (v143))] rfl ?_
      obtain ⟨v144, hv144, hr⟩ := bnd_s hr
      refine G.callV (56) [.int (v142)] [.int (((16 : Int32)) * (v143))] (k_X12_size E _ hE R ⟨_, _, r0⟩ v142 v144 hv144) cls_X12 (by omega) (r0.o) cw_X12_344 w_2503 w_104 (Nat.le_of_ble_eq_true rfl) rfl (Nat.le_of_ble_eq_true rfl) (tbd tv_X12_tellTree rfl) (fun v144w f144 q144 => ?_) (fun _ _ h => h.elim)
      obtain ⟨rfl, ⟨az144, sy144, r144⟩, fa144⟩ := q144
      refine G.eqs [.int (v144), .int (((16 : Int32)) * (v143))] rfl ?_
      refine G.cmp_lt 52 (tbd tv_X12_tellTree rfl) (by decide) (fun c45 => ?_) (fun c45 => ?_)
      · replace hr := ite_t c45 hr
        refine G.go tv_X12_tellTree 2 55 [(0, .ref (gAd E (56))), (1, .int (x1)), (2, .int (x2)), (3, .int (v142)), (4, .int (v143)), (5, .int ((0 : Int32)))] [] rfl ?_
        refine G.less [(0, .ref (gAd E (56))), (1, .int (x1)), (2, .int (x2)), (3, .int (v142)), (4, .int (v143)), (5, .int ((0 : Int32)))] [0, 1, 2, 3, 4, 5] rfl ?_
        exact l_X12_tellTree_55 E f0 sz QA hE _ ih _ _ _ _ _ _ _ hr _ ⟨_, _, r144⟩ (hf.tr fa144 (fun _ h => h))
      · replace hr := ite_f c45 hr
        refine G.go tv_X12_tellTree 3 55 [(0, .ref (gAd E (56))), (1, .int (x1)), (2, .int (x2)), (3, .int (v142)), (4, .int (v143)), (5, .int ((1 : Int32)))] [] rfl ?_
        refine G.less [(0, .ref (gAd E (56))), (1, .int (x1)), (2, .int (x2)), (3, .int (v142)), (4, .int (v143)), (5, .int ((1 : Int32)))] [0, 1, 2, 3, 4, 5] rfl ?_
        exact l_X12_tellTree_55 E f0 sz QA hE _ ih _ _ _ _ _ _ _ hr _ ⟨_, _, r144⟩ (hf.tr fa144 (fun _ h => h))
set_option maxRecDepth 100000 in
set_option maxHeartbeats 4000000 in
theorem k_X12_tellTree (E : gE) (f : Nat → va_E) (hE : 94 ≤ gN E) (R : RfT) (w : RW E f R) (a0 : Int32) (R9 : RfT) (hr : e_tellTree R a0 = some R9) : Ct E 8 yX12_tellTree cX12_tellTree 7 none [.ref (gAd E (56)), .int (a0)] f (fun v g => v = none ∧ RW E g R9 ∧ Fr RfK f g, fun _ _ => False) := by
  obtain ⟨az, sy, r0⟩ := w
  refine Ct.of (by decide) (Nat.le_of_ble_eq_true rfl) (fun sz => ?_)
  refine G.eql [(0, .ref (gAd E (56))), (1, .int (a0))] rfl ?_
  unfold e_tellTree at hr
  refine G.go tv_X12_tellTree 3 3 [(0, .ref (gAd E (56))), (1, .int (a0)), (2, .int ((0 : Int32)))] [.ref (gAd E (56))] rfl ?_
  refine G.rg r0 hE 57 (.ref (gAd E (90))) (by decide) rfl (tbd tv_X12_tellTree rfl) w_2122 ?_
  refine G.go tv_X12_tellTree 2 8 [(0, .ref (gAd E (56))), (1, .int (a0)), (2, .int ((0 : Int32)))] [.int ((1 : Int32)), .int ((0 : Int32)), .ref (gAd E (90))] rfl ?_
  obtain ⟨R140, b140, eR140, hr⟩ := stR_s hr
  refine G.iast (90) (by omega) (r0.a57) b140 (tbd tv_X12_tellTree rfl) ?_
  refine G.gen (P := fun w9 => RfV E w9 (setSr (setS R140 42 az) sy) ∧ Fr RfK f w9) ⟨by rw [eR140]; exact r0.p57 _, Fr.up Fr.rf ⟨by decide, by decide⟩⟩ (fun u140 p140 => ?_)
  obtain ⟨r140, h140⟩ := p140
  refine G.go tv_X12_tellTree 1 10 [(0, .ref (gAd E (56))), (1, .int (a0)), (2, .int ((0 : Int32)))] [.ref (gAd E (56))] rfl ?_
  refine G.rg r140 hE 58 (.ref (gAd E (91))) (by decide) rfl (tbd tv_X12_tellTree rfl) w_2123 ?_
  refine G.go tv_X12_tellTree 2 15 [(0, .ref (gAd E (56))), (1, .int (a0)), (2, .int ((0 : Int32)))] [.int ((0 : Int32)), .int ((0 : Int32)), .ref (gAd E (91))] rfl ?_
  obtain ⟨R141, b141, eR141, hr⟩ := stR_s hr
  refine G.iast (91) (by omega) (r140.a58) b141 (tbd tv_X12_tellTree rfl) ?_
  refine G.gen (P := fun w9 => RfV E w9 (setSr (setS R141 42 az) sy) ∧ Fr RfK f w9) ⟨by rw [eR141]; exact r140.p58 _, Fr.up h140 ⟨by decide, by decide⟩⟩ (fun u141 p141 => ?_)
  obtain ⟨r141, h141⟩ := p141
  refine G.less [(0, .ref (gAd E (56))), (1, .int (a0)), (2, .int ((0 : Int32)))] [0, 1, 2] rfl ?_
  exact l_X12_tellTree_16 E f sz _ hE _ _ _ _ _ hr _ ⟨_, _, r141⟩ h141
theorem w_2806 : Cond.methodLink "LedgerFilesModel" 531 yX12_tellTree ∈ TB := tp_12 20 (by decide +kernel) rfl
theorem w_2809 : Cond.code yX12_tellTree prog_14_method_143_code 7 none ∈ TB := tp_12 23 rfl rfl
theorem cw_X12_531 : Cw RX12 531 yX12_tellTree cX12_tellTree 7 none 1 := ⟨w_2806, w_2809, w_161, by decide +kernel, by decide +kernel, by decide⟩
theorem w_2808 : Cond.instanceMethod yX12_tellTree ∈ TB := tp_12 22 (by decide +kernel) rfl
theorem w_142 : Cond.selects "LedgerFilesModel" yX12_tellTree yX12_tellTree ∈ TB := tp_0 142 (by decide +kernel) rfl
def e_tree  (R : RfT) (a0 : Int32) : Option (Int64 × RfT) := bnd2 (e_notMounted R) (fun v137 R137 => if v137 = 0 then ptTl R137 ((17 : Int64)) (fun R138 => bnd (e_tellTree R138 a0) (fun R139 => some (rTl R139, R139))) else some ((0 : Int64), R137))
set_option maxRecDepth 100000 in
set_option maxHeartbeats 4000000 in
theorem k_X12_tree (E : gE) (f : Nat → va_E) (hE : 94 ≤ gN E) (R : RfT) (w : RW E f R) (a0 : Int32) (r : Int64) (R9 : RfT) (hr : e_tree R a0 = some (r, R9)) : Ct E 9 yX12_tree cX12_tree 2 (some .long) [.ref (gAd E (56)), .int (a0)] f (fun v g => v = some (.long r) ∧ RW E g R9 ∧ Fr RfK f g, fun _ _ => False) := by
  obtain ⟨az, sy, r0⟩ := w
  refine Ct.of (by decide) (Nat.le_of_ble_eq_true rfl) (fun sz => ?_)
  refine G.eql [(0, .ref (gAd E (56))), (1, .int (a0))] rfl ?_
  unfold e_tree at hr
  refine G.go tv_X12_tree 1 1 [(0, .ref (gAd E (56))), (1, .int (a0))] [.ref (gAd E (56))] rfl ?_
  obtain ⟨v137, R137, hv137, hr⟩ := bnd2_s hr
  refine G.callV (56) [] [] (k_X12_notMounted E _ hE R ⟨_, _, r0⟩ v137 R137 hv137) cls_X12 (by omega) (r0.o) cw_X12_403 w_2464 w_96 (Nat.le_of_ble_eq_true rfl) rfl (Nat.le_of_ble_eq_true rfl) (tbd tv_X12_tree rfl) (fun v137w f137 q137 => ?_) (fun _ _ h => h.elim)
  obtain ⟨rfl, ⟨az137, sy137, r137⟩, fa137⟩ := q137
  refine G.eqs [.int (v137)] rfl ?_
  refine G.if_eq 9 (tbd tv_X12_tree rfl) (by decide) (fun c4 => ?_) (fun c4 => ?_)
  · replace hr := ite_t c4 hr
    refine G.go tv_X12_tree 1 10 [(0, .ref (gAd E (56))), (1, .int (a0))] [.ref (gAd E (56))] rfl ?_
    refine G.ldc2 (17) (tbd tv_X12_tree rfl) w_2805 ?_
    obtain ⟨R138, eR138, hr⟩ := ptTl_s hr
    refine G.rpTl r137 hE 60 eR138 rfl (by decide) rfl rfl rfl (tbd tv_X12_tree rfl) w_2125 (fun u138 r138 h138 => ?_)
    refine G.go tv_X12_tree 2 18 [(0, .ref (gAd E (56))), (1, .int (a0))] [.int (a0), .ref (gAd E (56))] rfl ?_
    obtain ⟨R139, hv139, hr⟩ := bnd_s hr
    refine G.callV (56) [.int (a0)] [] (k_X12_tellTree E _ hE R138 ⟨_, _, r138⟩ a0 R139 hv139) cls_X12 (by omega) (r138.o) cw_X12_531 w_2808 w_142 (Nat.le_of_ble_eq_true rfl) rfl (Nat.le_of_ble_eq_true rfl) (tbd tv_X12_tree rfl) (fun v139w f139 q139 => ?_) (fun _ _ h => h.elim)
    obtain ⟨rfl, ⟨az139, sy139, r139⟩, fa139⟩ := q139
    refine G.eqs [] rfl ?_
    refine G.go tv_X12_tree 1 22 [(0, .ref (gAd E (56))), (1, .int (a0))] [.ref (gAd E (56))] rfl ?_
    refine G.rg r139 hE 60 (.long (rTl R139)) (by decide) rfl (tbd tv_X12_tree rfl) w_2125 ?_
    cases hr
    exact G.lret rfl ⟨rfl, ⟨_, _, r139⟩, (((Fr.rf.tr fa137 (fun _ h => h)).tr h138 (fun _ h => h)).tr fa139 (fun _ h => h))⟩ (tbd tv_X12_tree rfl)
  · replace hr := ite_f c4 hr
    refine G.go tv_X12_tree 1 8 [(0, .ref (gAd E (56))), (1, .int (a0))] [.long ((0 : Int64))] rfl ?_
    cases hr
    exact G.lret rfl ⟨rfl, ⟨_, _, r137⟩, (Fr.rf.tr fa137 (fun _ h => h))⟩ (tbd tv_X12_tree rfl)
def e_check  (R : RfT) : Option (Int32 × RfT) := bnd2 (e_notMounted R) (fun v169 R169 => some ((0 : Int32), R169))
set_option maxRecDepth 100000 in
set_option maxHeartbeats 4000000 in
theorem k_X12_check (E : gE) (f : Nat → va_E) (hE : 94 ≤ gN E) (R : RfT) (w : RW E f R) (r : Int32) (R9 : RfT) (hr : e_check R = some (r, R9)) : Ct E 3 yX12_check cX12_check 2 (some .int) [.ref (gAd E (56))] f (fun v g => v = some (.int r) ∧ RW E g R9 ∧ Fr RfK f g, fun _ _ => False) := by
  obtain ⟨az, sy, r0⟩ := w
  refine Ct.of (by decide) (Nat.le_of_ble_eq_true rfl) (fun sz => ?_)
  refine G.eql [(0, .ref (gAd E (56)))] rfl ?_
  unfold e_check at hr
  refine G.go tv_X12_check 1 1 [(0, .ref (gAd E (56)))] [.ref (gAd E (56))] rfl ?_
  obtain ⟨v169, R169, hv169, hr⟩ := bnd2_s hr
  refine G.callV (56) [] [] (k_X12_notMounted E _ hE R ⟨_, _, r0⟩ v169 R169 hv169) cls_X12 (by omega) (r0.o) cw_X12_403 w_2464 w_96 (Nat.le_of_ble_eq_true rfl) rfl (Nat.le_of_ble_eq_true rfl) (tbd tv_X12_check rfl) (fun v169w f169 q169 => ?_) (fun _ _ h => h.elim)
  obtain ⟨rfl, ⟨az169, sy169, r169⟩, fa169⟩ := q169
  refine G.eqs [.int (v169)] rfl ?_
  refine G.go tv_X12_check 2 6 [(0, .ref (gAd E (56))), (1, .int (v169))] [.int ((0 : Int32))] rfl ?_
  cases hr
  exact G.iret rfl rfl ⟨rfl, ⟨_, _, r169⟩, (Fr.rf.tr fa169 (fun _ h => h))⟩ (tbd tv_X12_check rfl)
theorem w_2470 : Cond.methodLink "LedgerFilesModel" 409 yX12_nothingHeld ∈ TB := tp_10 164 (by decide +kernel) rfl
theorem w_2473 : Cond.code yX12_nothingHeld prog_14_method_73_code 2 none ∈ TB := tp_10 167 rfl rfl
theorem cw_X12_409 : Cw RX12 409 yX12_nothingHeld cX12_nothingHeld 2 none 0 := ⟨w_2470, w_2473, w_161, by decide +kernel, by decide +kernel, by decide⟩
theorem w_2472 : Cond.instanceMethod yX12_nothingHeld ∈ TB := tp_10 166 (by decide +kernel) rfl
theorem w_98 : Cond.selects "LedgerFilesModel" yX12_nothingHeld yX12_nothingHeld ∈ TB := tp_0 98 (by decide +kernel) rfl
noncomputable def e_unmount_34  (R : RfT) : Option (RfT) := bnd2 (e_flushQueue R) (fun v174 R174 => bnd (e_applyLog R174) (fun R175 => if (rS R175 11) = 0 then ptR R175 21 ((0 : Int32)) (fun R176 => bnd2 (e_answer R176 ((0 : Int32))) (fun v177 R177 => some R177)) else bnd (e_settle R175) (fun R178 => ptR R178 21 ((0 : Int32)) (fun R179 => bnd2 (e_answer R179 ((0 : Int32))) (fun v180 R180 => some R180)))))
noncomputable def e_unmount_19  (R : RfT) : Option (RfT) := if (rS R 11) = 0 then e_unmount_34  R else bnd (e_nothingHeld R) (fun R172 => bnd (e_allLostGo R172) (fun R173 => e_unmount_34  R173))
noncomputable def e_unmount  (R : RfT) : Option (RfT) := bnd2 (e_notMounted R) (fun v170 R170 => if v170 = 0 then if (rS R170 34) = 0 then e_unmount_19  R170 else bnd (e_backOut R170) (fun R171 => e_unmount_19  R171) else some R170)
set_option maxRecDepth 100000 in
set_option maxHeartbeats 4000000 in
theorem l_X12_unmount_34 (E : gE) (f0 : Nat → va_E) (sz : Nat) (QA : Nat → Prop) (hE : 94 ≤ gN E) : ∀ (R : RfT) (R9 : RfT) (hr : e_unmount_34  R = some R9) (f : Nat → va_E) (w : RW E f R) (hf : Fr RfK f0 f), G E (13, yX12_unmount, 2, none, sz, QA) cX12_unmount (gO E (13, yX12_unmount, 2, none, sz, QA) (fun v g => v = none ∧ RW E g R9 ∧ Fr RfK f0 g, fun _ _ => False)) 34 [(0, .ref (gAd E (56)))] [] f := by
  intro R R9 hr f w hf
  obtain ⟨az, sy, r0⟩ := w
  unfold e_unmount_34 at hr
  refine G.go tv_X12_unmount 1 35 [(0, .ref (gAd E (56)))] [.ref (gAd E (56))] rfl ?_
  obtain ⟨v174, R174, hv174, hr⟩ := bnd2_s hr
  refine G.callV (56) [] [] (k_X12_flushQueue E _ hE R ⟨_, _, r0⟩ v174 R174 hv174) cls_X12 (by omega) (r0.o) cw_X12_288 w_2440 w_91 (Nat.le_of_ble_eq_true rfl) rfl (Nat.le_of_ble_eq_true rfl) (tbd tv_X12_unmount rfl) (fun v174w f174 q174 => ?_) (fun _ _ h => h.elim)
  obtain ⟨rfl, ⟨az174, sy174, r174⟩, fa174⟩ := q174
  refine G.eqs [.int (v174)] rfl ?_
  refine G.go tv_X12_unmount 2 40 [(0, .ref (gAd E (56)))] [.ref (gAd E (56))] rfl ?_
  obtain ⟨R175, hv175, hr⟩ := bnd_s hr
  refine G.callV (56) [] [] (k_X12_applyLog E _ hE R174 ⟨_, _, r174⟩ R175 hv175) cls_X12 (by omega) (r174.o) cw_X12_268 w_2357 w_71 (Nat.le_of_ble_eq_true rfl) rfl (Nat.le_of_ble_eq_true rfl) (tbd tv_X12_unmount rfl) (fun v175w f175 q175 => ?_) (fun _ _ h => h.elim)
  obtain ⟨rfl, ⟨az175, sy175, r175⟩, fa175⟩ := q175
  refine G.eqs [] rfl ?_
  refine G.go tv_X12_unmount 1 44 [(0, .ref (gAd E (56)))] [.ref (gAd E (56))] rfl ?_
  refine G.rg r175 hE 11 (.int (rS R175 11)) (by decide) rfl (tbd tv_X12_unmount rfl) w_2076 ?_
  refine G.if_eq 54 (tbd tv_X12_unmount rfl) (by decide) (fun c47 => ?_) (fun c47 => ?_)
  · replace hr := ite_t c47 hr
    refine G.go tv_X12_unmount 2 56 [(0, .ref (gAd E (56)))] [.int ((0 : Int32)), .ref (gAd E (56))] rfl ?_
    obtain ⟨R176, eR176, hr⟩ := ptR_s hr
    refine G.rpW r175 hE 21 eR176 (by decide) rfl (by decide) rfl rfl rfl (tbd tv_X12_unmount rfl) w_2086 (fun u176 r176 h176 => ?_)
    refine G.go tv_X12_unmount 2 61 [(0, .ref (gAd E (56)))] [.int ((0 : Int32)), .ref (gAd E (56))] rfl ?_
    obtain ⟨v177, R177, hv177, hr⟩ := bnd2_s hr
    refine G.callV (56) [.int ((0 : Int32))] [] (k_X12_answer E _ hE R176 ⟨_, _, r176⟩ ((0 : Int32)) v177 R177 hv177) cls_X12 (by omega) (r176.o) cw_X12_389 w_2339 w_69 (Nat.le_of_ble_eq_true rfl) rfl (Nat.le_of_ble_eq_true rfl) (tbd tv_X12_unmount rfl) (fun v177w f177 q177 => ?_) (fun _ _ h => h.elim)
    obtain ⟨rfl, ⟨az177, sy177, r177⟩, fa177⟩ := q177
    refine G.eqs [.int (v177)] rfl ?_
    refine G.go tv_X12_unmount 1 65 [(0, .ref (gAd E (56))), (1, .int (v177))] [] rfl ?_
    cases hr
    exact G.vret rfl ⟨rfl, ⟨_, _, r177⟩, ((((hf.tr fa174 (fun _ h => h)).tr fa175 (fun _ h => h)).tr h176 (fun _ h => h)).tr fa177 (fun _ h => h))⟩ (tbd tv_X12_unmount rfl)
  · replace hr := ite_f c47 hr
    refine G.go tv_X12_unmount 1 51 [(0, .ref (gAd E (56)))] [.ref (gAd E (56))] rfl ?_
    obtain ⟨R178, hv178, hr⟩ := bnd_s hr
    refine G.callV (56) [] [] (k_X12_settle E _ hE R175 ⟨_, _, r175⟩ R178 hv178) cls_X12 (by omega) (r175.o) cw_X12_255 w_2315 w_64 (Nat.le_of_ble_eq_true rfl) rfl (Nat.le_of_ble_eq_true rfl) (tbd tv_X12_unmount rfl) (fun v178w f178 q178 => ?_) (fun _ _ h => h.elim)
    obtain ⟨rfl, ⟨az178, sy178, r178⟩, fa178⟩ := q178
    refine G.eqs [] rfl ?_
    refine G.go tv_X12_unmount 2 56 [(0, .ref (gAd E (56)))] [.int ((0 : Int32)), .ref (gAd E (56))] rfl ?_
    obtain ⟨R179, eR179, hr⟩ := ptR_s hr
    refine G.rpW r178 hE 21 eR179 (by decide) rfl (by decide) rfl rfl rfl (tbd tv_X12_unmount rfl) w_2086 (fun u179 r179 h179 => ?_)
    refine G.go tv_X12_unmount 2 61 [(0, .ref (gAd E (56)))] [.int ((0 : Int32)), .ref (gAd E (56))] rfl ?_
    obtain ⟨v180, R180, hv180, hr⟩ := bnd2_s hr
    refine G.callV (56) [.int ((0 : Int32))] [] (k_X12_answer E _ hE R179 ⟨_, _, r179⟩ ((0 : Int32)) v180 R180 hv180) cls_X12 (by omega) (r179.o) cw_X12_389 w_2339 w_69 (Nat.le_of_ble_eq_true rfl) rfl (Nat.le_of_ble_eq_true rfl) (tbd tv_X12_unmount rfl) (fun v180w f180 q180 => ?_) (fun _ _ h => h.elim)
    obtain ⟨rfl, ⟨az180, sy180, r180⟩, fa180⟩ := q180
    refine G.eqs [.int (v180)] rfl ?_
    refine G.go tv_X12_unmount 1 65 [(0, .ref (gAd E (56))), (1, .int (v180))] [] rfl ?_
    cases hr
    exact G.vret rfl ⟨rfl, ⟨_, _, r180⟩, (((((hf.tr fa174 (fun _ h => h)).tr fa175 (fun _ h => h)).tr fa178 (fun _ h => h)).tr h179 (fun _ h => h)).tr fa180 (fun _ h => h))⟩ (tbd tv_X12_unmount rfl)
set_option maxRecDepth 100000 in
set_option maxHeartbeats 4000000 in
theorem l_X12_unmount_19 (E : gE) (f0 : Nat → va_E) (sz : Nat) (QA : Nat → Prop) (hE : 94 ≤ gN E) : ∀ (R : RfT) (R9 : RfT) (hr : e_unmount_19  R = some R9) (f : Nat → va_E) (w : RW E f R) (hf : Fr RfK f0 f), G E (13, yX12_unmount, 2, none, sz, QA) cX12_unmount (gO E (13, yX12_unmount, 2, none, sz, QA) (fun v g => v = none ∧ RW E g R9 ∧ Fr RfK f0 g, fun _ _ => False)) 19 [(0, .ref (gAd E (56)))] [] f := by
  intro R R9 hr f w hf
  obtain ⟨az, sy, r0⟩ := w
  unfold e_unmount_19 at hr
  refine G.go tv_X12_unmount 1 20 [(0, .ref (gAd E (56)))] [.ref (gAd E (56))] rfl ?_
  refine G.rg r0 hE 11 (.int (rS R 11)) (by decide) rfl (tbd tv_X12_unmount rfl) w_2076 ?_
  refine G.if_eq 34 (tbd tv_X12_unmount rfl) (by decide) (fun c23 => ?_) (fun c23 => ?_)
  · replace hr := ite_t c23 hr
    refine G.less [(0, .ref (gAd E (56)))] [0] rfl ?_
    exact l_X12_unmount_34 E f0 sz QA hE _ _ hr _ ⟨_, _, r0⟩ hf
  · replace hr := ite_f c23 hr
    refine G.go tv_X12_unmount 1 27 [(0, .ref (gAd E (56)))] [.ref (gAd E (56))] rfl ?_
    obtain ⟨R172, hv172, hr⟩ := bnd_s hr
    refine G.callV (56) [] [] (k_X12_nothingHeld E _ hE R ⟨_, _, r0⟩ R172 hv172) cls_X12 (by omega) (r0.o) cw_X12_409 w_2472 w_98 (Nat.le_of_ble_eq_true rfl) rfl (Nat.le_of_ble_eq_true rfl) (tbd tv_X12_unmount rfl) (fun v172w f172 q172 => ?_) (fun _ _ h => h.elim)
    obtain ⟨rfl, ⟨az172, sy172, r172⟩, fa172⟩ := q172
    refine G.eqs [] rfl ?_
    refine G.go tv_X12_unmount 1 31 [(0, .ref (gAd E (56)))] [.ref (gAd E (56))] rfl ?_
    obtain ⟨R173, hv173, hr⟩ := bnd_s hr
    refine G.callV (56) [] [] (k_X12_allLostGo E _ hE R172 ⟨_, _, r172⟩ R173 hv173) cls_X12 (by omega) (r172.o) cw_X12_382 w_2361 w_72 (Nat.le_of_ble_eq_true rfl) rfl (Nat.le_of_ble_eq_true rfl) (tbd tv_X12_unmount rfl) (fun v173w f173 q173 => ?_) (fun _ _ h => h.elim)
    obtain ⟨rfl, ⟨az173, sy173, r173⟩, fa173⟩ := q173
    refine G.eqs [] rfl ?_
    refine G.less [(0, .ref (gAd E (56)))] [0] rfl ?_
    exact l_X12_unmount_34 E f0 sz QA hE _ _ hr _ ⟨_, _, r173⟩ ((hf.tr fa172 (fun _ h => h)).tr fa173 (fun _ h => h))
set_option maxRecDepth 100000 in
set_option maxHeartbeats 4000000 in
theorem k_X12_unmount (E : gE) (f : Nat → va_E) (hE : 94 ≤ gN E) (R : RfT) (w : RW E f R) (R9 : RfT) (hr : e_unmount R = some R9) : Ct E 13 yX12_unmount cX12_unmount 2 none [.ref (gAd E (56))] f (fun v g => v = none ∧ RW E g R9 ∧ Fr RfK f g, fun _ _ => False) := by
  obtain ⟨az, sy, r0⟩ := w
  refine Ct.of (by decide) (Nat.le_of_ble_eq_true rfl) (fun sz => ?_)
  refine G.eql [(0, .ref (gAd E (56)))] rfl ?_
  unfold e_unmount at hr
  refine G.go tv_X12_unmount 1 1 [(0, .ref (gAd E (56)))] [.ref (gAd E (56))] rfl ?_
  obtain ⟨v170, R170, hv170, hr⟩ := bnd2_s hr
  refine G.callV (56) [] [] (k_X12_notMounted E _ hE R ⟨_, _, r0⟩ v170 R170 hv170) cls_X12 (by omega) (r0.o) cw_X12_403 w_2464 w_96 (Nat.le_of_ble_eq_true rfl) rfl (Nat.le_of_ble_eq_true rfl) (tbd tv_X12_unmount rfl) (fun v170w f170 q170 => ?_) (fun _ _ h => h.elim)
  obtain ⟨rfl, ⟨az170, sy170, r170⟩, fa170⟩ := q170
  refine G.eqs [.int (v170)] rfl ?_
  refine G.if_eq 8 (tbd tv_X12_unmount rfl) (by decide) (fun c4 => ?_) (fun c4 => ?_)
  · replace hr := ite_t c4 hr
    refine G.go tv_X12_unmount 1 9 [(0, .ref (gAd E (56)))] [.ref (gAd E (56))] rfl ?_
    refine G.rg r170 hE 34 (.int (rS R170 34)) (by decide) rfl (tbd tv_X12_unmount rfl) w_2099 ?_
    refine G.if_eq 19 (tbd tv_X12_unmount rfl) (by decide) (fun c12 => ?_) (fun c12 => ?_)
    · replace hr := ite_t c12 hr
      refine G.less [(0, .ref (gAd E (56)))] [0] rfl ?_
      exact l_X12_unmount_19 E f sz _ hE _ _ hr _ ⟨_, _, r170⟩ (Fr.rf.tr fa170 (fun _ h => h))
    · replace hr := ite_f c12 hr
      refine G.go tv_X12_unmount 1 16 [(0, .ref (gAd E (56)))] [.ref (gAd E (56))] rfl ?_
      obtain ⟨R171, hv171, hr⟩ := bnd_s hr
      refine G.callV (56) [] [] (k_X12_backOut E _ hE R170 ⟨_, _, r170⟩ R171 hv171) cls_X12 (by omega) (r170.o) cw_X12_406 w_2468 w_97 (Nat.le_of_ble_eq_true rfl) rfl (Nat.le_of_ble_eq_true rfl) (tbd tv_X12_unmount rfl) (fun v171w f171 q171 => ?_) (fun _ _ h => h.elim)
      obtain ⟨rfl, ⟨az171, sy171, r171⟩, fa171⟩ := q171
      refine G.eqs [] rfl ?_
      refine G.less [(0, .ref (gAd E (56)))] [0] rfl ?_
      exact l_X12_unmount_19 E f sz _ hE _ _ hr _ ⟨_, _, r171⟩ ((Fr.rf.tr fa170 (fun _ h => h)).tr fa171 (fun _ h => h))
  · replace hr := ite_f c4 hr
    cases hr
    exact G.vret rfl ⟨rfl, ⟨_, _, r170⟩, (Fr.rf.tr fa170 (fun _ h => h))⟩ (tbd tv_X12_unmount rfl)
