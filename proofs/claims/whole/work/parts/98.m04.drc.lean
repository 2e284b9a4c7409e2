def e_empty_2  : Nat → RfT → Int32 → Option (RfT)
  | 0, _, _ => none
  | n + 1, R, x1 => if ((128 : Int32)) ≤ x1 then some R else stR R 44 128 x1 (vp_nar .byte ((0 : Int32))) (fun R1 => e_empty_2  n R1 (x1 + (1 : Int32)))
def e_empty  (R : RfT) : Option (RfT) := e_empty_2  fuL R ((0 : Int32))
set_option maxRecDepth 100000 in
set_option maxHeartbeats 4000000 in
theorem l_X12_empty_2 (E : gE) (f0 : Nat → va_E) (sz : Nat) (QA : Nat → Prop) (hE : 94 ≤ gN E) : ∀ (n : Nat), ∀ (R : RfT) (x1 : Int32) (R9 : RfT) (hr : e_empty_2  n R x1 = some R9) (f : Nat → va_E) (w : RW E f R) (hf : Fr RfK f0 f), G E (1, yX12_empty, 2, none, sz, QA) cX12_empty (gO E (1, yX12_empty, 2, none, sz, QA) (fun v g => v = none ∧ RW E g R9 ∧ Fr RfK f0 g, fun _ _ => False)) 2 [(0, .ref (gAd E (56))), (1, .int (x1))] [] f := by
  intro n
  induction n with
  | zero =>
    intro R x1 R9 hr f w hf
    cases hr
  | succ n ih =>
    intro R x1 R9 hr f w hf
    obtain ⟨az, sy, r0⟩ := w
    unfold e_empty_2 at hr
    refine G.go tv_X12_empty 2 6 [(0, .ref (gAd E (56))), (1, .int (x1))] [.int ((128 : Int32)), .int (x1)] rfl ?_
    refine G.cmp_ge 22 (tbd tv_X12_empty rfl) (by decide) (fun c6 => ?_) (fun c6 => ?_)
    · replace hr := ite_t c6 hr
      cases hr
      exact G.vret rfl ⟨rfl, ⟨_, _, r0⟩, hf⟩ (tbd tv_X12_empty rfl)
    · replace hr := ite_f c6 hr
      refine G.go tv_X12_empty 1 10 [(0, .ref (gAd E (56))), (1, .int (x1))] [.ref (gAd E (56))] rfl ?_
      refine G.rg r0 hE 44 (.ref (gAd E (79))) (by decide) rfl (tbd tv_X12_empty rfl) w_2109 ?_
      refine G.go tv_X12_empty 2 15 [(0, .ref (gAd E (56))), (1, .int (x1))] [.int ((0 : Int32)), .int (x1), .ref (gAd E (79))] rfl ?_
      obtain ⟨R1, b1, eR1, hr⟩ := stR_s hr
      refine G.bast (79) (by omega) (r0.a44) b1 (tbd tv_X12_empty rfl) ?_
      refine G.gen (P := fun w9 => RfV E w9 (setSr (setS R1 42 az) sy) ∧ Fr RfK f0 w9) ⟨by rw [eR1]; exact r0.p44 _, Fr.up hf ⟨by decide, by decide⟩⟩ (fun u1 p1 => ?_)
      obtain ⟨r1, h1⟩ := p1
      refine G.go tv_X12_empty 2 2 [(0, .ref (gAd E (56))), (1, .int (x1 + (1 : Int32)))] [] rfl ?_
      refine G.less [(0, .ref (gAd E (56))), (1, .int (x1 + (1 : Int32)))] [0, 1] rfl ?_
      exact ih _ _ _ hr _ ⟨_, _, r1⟩ h1
set_option maxRecDepth 100000 in
set_option maxHeartbeats 4000000 in
theorem k_X12_empty (E : gE) (f : Nat → va_E) (hE : 94 ≤ gN E) (R : RfT) (w : RW E f R) (R9 : RfT) (hr : e_empty R = some R9) : Ct E 1 yX12_empty cX12_empty 2 none [.ref (gAd E (56))] f (fun v g => v = none ∧ RW E g R9 ∧ Fr RfK f g, fun _ _ => False) := by
  obtain ⟨az, sy, r0⟩ := w
  refine Ct.of (by decide) (Nat.le_of_ble_eq_true rfl) (fun sz => ?_)
  refine G.eql [(0, .ref (gAd E (56)))] rfl ?_
  unfold e_empty at hr
  refine G.go tv_X12_empty 2 2 [(0, .ref (gAd E (56))), (1, .int ((0 : Int32)))] [] rfl ?_
  refine G.less [(0, .ref (gAd E (56))), (1, .int ((0 : Int32)))] [0, 1] rfl ?_
  exact l_X12_empty_2 E f sz _ hE _ _ _ _ hr _ ⟨_, _, r0⟩ Fr.rf
def e_set_79_3  : Nat → RfT → Int32 → Int32 → Int32 → Int32 → Option (RfT)
  | 0, _, _, _, _, _ => none
  | n + 1, R, x1, x2, x3, x4 => if x2 ≤ x4 then some R else stR R 44 128 ((x1) + (x4)) (vp_nar .byte ((((x3 : Int32).toUInt32 >>> ((((8 : Int32)) * (x4) : Int32).toUInt32 &&& Int32.toUInt32 31)).toInt32 : Int32).toInt8.toInt32)) (fun R5 => e_set_79_3  n R5 x1 x2 x3 (x4 + (1 : Int32)))
def e_set_79  (R : RfT) (a1 : Int32) (a2 : Int32) (a3 : Int32) : Option (RfT) := e_set_79_3  fuL R a1 a2 a3 ((0 : Int32))
set_option maxRecDepth 100000 in
set_option maxHeartbeats 4000000 in
theorem l_X12_set_79_3 (E : gE) (f0 : Nat → va_E) (sz : Nat) (QA : Nat → Prop) (hE : 94 ≤ gN E) : ∀ (n : Nat), ∀ (R : RfT) (x1 : Int32) (x2 : Int32) (x3 : Int32) (x4 : Int32) (R9 : RfT) (hr : e_set_79_3  n R x1 x2 x3 x4 = some R9) (f : Nat → va_E) (w : RW E f R) (hf : Fr RfK f0 f), G E (1, yX12_set, 5, none, sz, QA) cX12_set (gO E (1, yX12_set, 5, none, sz, QA) (fun v g => v = none ∧ RW E g R9 ∧ Fr RfK f0 g, fun _ _ => False)) 3 [(0, .ref (gAd E (79))), (1, .int (x1)), (2, .int (x2)), (3, .int (x3)), (4, .int (x4))] [] f := by
  intro n
  induction n with
  | zero =>
    intro R x1 x2 x3 x4 R9 hr f w hf
    cases hr
  | succ n ih =>
    intro R x1 x2 x3 x4 R9 hr f w hf
    obtain ⟨az, sy, r0⟩ := w
    unfold e_set_79_3 at hr
    refine G.go tv_X12_set 2 6 [(0, .ref (gAd E (79))), (1, .int (x1)), (2, .int (x2)), (3, .int (x3)), (4, .int (x4))] [.int (x2), .int (x4)] rfl ?_
    refine G.cmp_ge 29 (tbd tv_X12_set rfl) (by decide) (fun c6 => ?_) (fun c6 => ?_)
    · replace hr := ite_t c6 hr
      cases hr
      exact G.vret rfl ⟨rfl, ⟨_, _, r0⟩, hf⟩ (tbd tv_X12_set rfl)
    · replace hr := ite_f c6 hr
      refine G.go tv_X12_set 10 22 [(0, .ref (gAd E (79))), (1, .int (x1)), (2, .int (x2)), (3, .int (x3)), (4, .int (x4))] [.int ((((x3 : Int32).toUInt32 >>> ((((8 : Int32)) * (x4) : Int32).toUInt32 &&& Int32.toUInt32 31)).toInt32 : Int32).toInt8.toInt32), .int ((x1) + (x4)), .ref (gAd E (79))] rfl ?_
      obtain ⟨R5, b5, eR5, hr⟩ := stR_s hr
      refine G.bast (79) (by omega) (r0.a44) b5 (tbd tv_X12_set rfl) ?_
      refine G.gen (P := fun w9 => RfV E w9 (setSr (setS R5 42 az) sy) ∧ Fr RfK f0 w9) ⟨by rw [eR5]; exact r0.p44 _, Fr.up hf ⟨by decide, by decide⟩⟩ (fun u5 p5 => ?_)
      obtain ⟨r5, h5⟩ := p5
      refine G.go tv_X12_set 2 3 [(0, .ref (gAd E (79))), (1, .int (x1)), (2, .int (x2)), (3, .int (x3)), (4, .int (x4 + (1 : Int32)))] [] rfl ?_
      refine G.less [(0, .ref (gAd E (79))), (1, .int (x1)), (2, .int (x2)), (3, .int (x3)), (4, .int (x4 + (1 : Int32)))] [0, 1, 2, 3, 4] rfl ?_
      exact ih _ _ _ _ _ _ hr _ ⟨_, _, r5⟩ h5
set_option maxRecDepth 100000 in
set_option maxHeartbeats 4000000 in
theorem k_X12_set_79 (E : gE) (f : Nat → va_E) (hE : 94 ≤ gN E) (R : RfT) (w : RW E f R) (a1 : Int32) (a2 : Int32) (a3 : Int32) (R9 : RfT) (hr : e_set_79 R a1 a2 a3 = some R9) : Ct E 1 yX12_set cX12_set 5 none [.ref (gAd E (79)), .int (a1), .int (a2), .int (a3)] f (fun v g => v = none ∧ RW E g R9 ∧ Fr RfK f g, fun _ _ => False) := by
  obtain ⟨az, sy, r0⟩ := w
  refine Ct.of (by decide) (Nat.le_of_ble_eq_true rfl) (fun sz => ?_)
  refine G.eql [(0, .ref (gAd E (79))), (1, .int (a1)), (2, .int (a2)), (3, .int (a3))] rfl ?_
  unfold e_set_79 at hr
  refine G.go tv_X12_set 2 3 [(0, .ref (gAd E (79))), (1, .int (a1)), (2, .int (a2)), (3, .int (a3)), (4, .int ((0 : Int32)))] [] rfl ?_
  refine G.less [(0, .ref (gAd E (79))), (1, .int (a1)), (2, .int (a2)), (3, .int (a3)), (4, .int ((0 : Int32)))] [0, 1, 2, 3, 4] rfl ?_
  exact l_X12_set_79_3 E f sz _ hE _ _ _ _ _ _ _ hr _ ⟨_, _, r0⟩ Fr.rf
noncomputable def e_putHead_115  : Nat → RfT → Int32 → Int32 → Int32 → Option (RfT)
  | 0, _, _, _, _ => none
  | n + 1, R, x1, x3, x4 => if (((128 : Int32)) * (x1)) ≤ x4 then bnd (e_set_79 R ((6 : Int32)) ((4 : Int32)) x3) (fun R11 => bnd (e_hand_79 R11 ((1 : Int32)) ((0 : Int32))) (fun R12 => some R12)) else ld (rA R 24) 5120 x4 (fun v13 => nm (((x3) * ((31 : Int32))) + ((v13) &&& ((255 : Int32)))) (fun v14 => e_putHead_115  n R x1 v14 (x4 + (1 : Int32))))
noncomputable def e_putHead_71  : Nat → RfT → Int32 → Int32 → Int32 → Option (RfT)
  | 0, _, _, _, _ => none
  | n + 1, R, x1, x3, x4 => if (((2 : Int32)) * (x1)) ≤ x4 then e_putHead_115  fuL R x1 x3 ((0 : Int32)) else ld (rA R 23) 40 ((x4) / ((2 : Int32))) (fun v9 => nm (((x3) * ((31 : Int32))) + (((v9) >>> ((((8 : Int32)) * ((x4) - (x4) / ((2 : Int32)) * ((2 : Int32)))) &&& 31)) &&& ((255 : Int32)))) (fun v10 => e_putHead_71  n R x1 v10 (x4 + (1 : Int32))))
noncomputable def e_putHead_38  : Nat → RfT → Int32 → Int32 → Int32 → Option (RfT)
  | 0, _, _, _, _ => none
  | n + 1, R, x1, x3, x4 => if ((6 : Int32)) ≤ x4 then e_putHead_71  fuL R x1 x3 ((0 : Int32)) else ld (rA R 44) 128 x4 (fun v7 => nm (((x3) * ((31 : Int32))) + ((v7) &&& ((255 : Int32)))) (fun v8 => e_putHead_38  n R x1 v8 (x4 + (1 : Int32))))
noncomputable def e_putHead  (R : RfT) (a0 : Int32) (a1 : Int32) : Option (RfT) := ptR R 22 a1 (fun R2 => bnd (e_empty R2) (fun R3 => bnd (e_set_79 R3 ((0 : Int32)) ((2 : Int32)) a0) (fun R4 => bnd (e_set_79 R4 ((2 : Int32)) ((4 : Int32)) (rS R4 22)) (fun R6 => e_putHead_38  fuL R6 a0 ((7 : Int32)) ((0 : Int32))))))
set_option maxRecDepth 100000 in
set_option maxHeartbeats 4000000 in
theorem l_X12_putHead_115 (E : gE) (f0 : Nat → va_E) (sz : Nat) (QA : Nat → Prop) (hE : 94 ≤ gN E) : ∀ (n : Nat), ∀ (R : RfT) (x1 : Int32) (x3 : Int32) (x4 : Int32) (R9 : RfT) (hr : e_putHead_115  n R x1 x3 x4 = some R9) (f : Nat → va_E) (w : RW E f R) (hf : Fr RfK f0 f), G E (6, yX12_putHead, 5, none, sz, QA) cX12_putHead (gO E (6, yX12_putHead, 5, none, sz, QA) (fun v g => v = none ∧ RW E g R9 ∧ Fr RfK f0 g, fun _ _ => False)) 115 [(0, .ref (gAd E (56))), (1, .int (x1)), (3, .int (x3)), (4, .int (x4))] [] f := by
  intro n
  induction n with
  | zero =>
    intro R x1 x3 x4 R9 hr f w hf
    cases hr
  | succ n ih =>
    intro R x1 x3 x4 R9 hr f w hf
    obtain ⟨az, sy, r0⟩ := w
    unfold e_putHead_115 at hr
    refine G.go tv_X12_putHead 4 122 [(0, .ref (gAd E (56))), (1, .int (x1)), (3, .int (x3)), (4, .int (x4))] [.int (((128 : Int32)) * (x1)), .int (x4)] rfl ?_
    refine G.cmp_ge 148 (tbd tv_X12_putHead rfl) (by decide) (fun c122 => ?_) (fun c122 => ?_)
    · replace hr := ite_t c122 hr
      refine G.go tv_X12_putHead 1 149 [(0, .ref (gAd E (56))), (1, .int (x1)), (3, .int (x3)), (4, .int (x4))] [.ref (gAd E (56))] rfl ?_
      refine G.rg r0 hE 44 (.ref (gAd E (79))) (by decide) rfl (tbd tv_X12_putHead rfl) w_2109 ?_
      refine G.go tv_X12_putHead 3 156 [(0, .ref (gAd E (56))), (1, .int (x1)), (3, .int (x3)), (4, .int (x4))] [.int (x3), .int ((4 : Int32)), .int ((6 : Int32)), .ref (gAd E (79))] rfl ?_
      obtain ⟨R11, hv11, hr⟩ := bnd_s hr
      refine G.callS [.ref (gAd E (79)), .int ((6 : Int32)), .int ((4 : Int32)), .int (x3)] [] (k_X12_set_79 E _ hE R ⟨_, _, r0⟩ ((6 : Int32)) ((4 : Int32)) x3 R11 hv11) cw_X12_242 w_2330 (Nat.le_of_ble_eq_true rfl) rfl (Nat.le_of_ble_eq_true rfl) (tbd tv_X12_putHead rfl) (fun v11w f11 q11 => ?_) (fun _ _ h => h.elim)
      obtain ⟨rfl, ⟨az11, sy11, r11⟩, fa11⟩ := q11
      refine G.eqs [] rfl ?_
      refine G.go tv_X12_putHead 3 162 [(0, .ref (gAd E (56))), (1, .int (x1)), (3, .int (x3)), (4, .int (x4))] [.ref (gAd E (56)), .int ((1 : Int32)), .ref (gAd E (56))] rfl ?_
      refine G.rg r11 hE 44 (.ref (gAd E (79))) (by decide) rfl (tbd tv_X12_putHead rfl) w_2109 ?_
      refine G.go tv_X12_putHead 1 166 [(0, .ref (gAd E (56))), (1, .int (x1)), (3, .int (x3)), (4, .int (x4))] [.int ((0 : Int32)), .ref (gAd E (79)), .int ((1 : Int32)), .ref (gAd E (56))] rfl ?_
      obtain ⟨R12, hv12, hr⟩ := bnd_s hr
      refine G.callV (56) [.int ((1 : Int32)), .ref (gAd E (79)), .int ((0 : Int32))] [] (k_X12_hand_79 E _ hE R11 ⟨_, _, r11⟩ ((1 : Int32)) ((0 : Int32)) R12 hv12) cls_X12 (by omega) (r11.o) cw_X12_252 w_2280 w_56 (Nat.le_of_ble_eq_true rfl) rfl (Nat.le_of_ble_eq_true rfl) (tbd tv_X12_putHead rfl) (fun v12w f12 q12 => ?_) (fun _ _ h => h.elim)
      obtain ⟨rfl, ⟨az12, sy12, r12⟩, fa12⟩ := q12
      refine G.eqs [] rfl ?_
      cases hr
      exact G.vret rfl ⟨rfl, ⟨_, _, r12⟩, ((hf.tr fa11 (fun _ h => h)).tr fa12 (fun _ h => h))⟩ (tbd tv_X12_putHead rfl)
    · replace hr := ite_f c122 hr
      refine G.go tv_X12_putHead 4 130 [(0, .ref (gAd E (56))), (1, .int (x1)), (3, .int (x3)), (4, .int (x4))] [.ref (gAd E (56)), .int ((x3) * ((31 : Int32)))] rfl ?_
      refine G.rg r0 hE 24 (.ref (gAd E (65))) (by decide) rfl (tbd tv_X12_putHead rfl) w_2089 ?_
      refine G.go tv_X12_putHead 1 135 [(0, .ref (gAd E (56))), (1, .int (x1)), (3, .int (x3)), (4, .int (x4))] [.int (x4), .ref (gAd E (65)), .int ((x3) * ((31 : Int32)))] rfl ?_
      obtain ⟨v13, b13, e13, hr⟩ := ld_s hr
      refine G.baldE (65) (by omega) (r0.a24) b13 e13 (tbd tv_X12_putHead rfl) ?_
      refine G.go tv_X12_putHead 4 142 [(0, .ref (gAd E (56))), (1, .int (x1)), (3, .int (((x3) * ((31 : Int32))) + ((v13) &&& ((255 : Int32))))), (4, .int (x4))] [] rfl ?_
      obtain ⟨v14, e14, hr⟩ := nm_s hr
      refine G.eql [(0, .ref (gAd E (56))), (1, .int (x1)), (3, .int (v14)), (4, .int (x4))] (by rw [e14]) ?_
      refine G.go tv_X12_putHead 2 115 [(0, .ref (gAd E (56))), (1, .int (x1)), (3, .int (v14)), (4, .int (x4 + (1 : Int32)))] [] rfl ?_
      refine G.less [(0, .ref (gAd E (56))), (1, .int (x1)), (3, .int (v14)), (4, .int (x4 + (1 : Int32)))] [0, 1, 2, 3] rfl ?_
      exact ih _ _ _ _ _ hr _ ⟨_, _, r0⟩ hf
set_option maxRecDepth 100000 in
set_option maxHeartbeats 4000000 in
theorem l_X12_putHead_71 (E : gE) (f0 : Nat → va_E) (sz : Nat) (QA : Nat → Prop) (hE : 94 ≤ gN E) : ∀ (n : Nat), ∀ (R : RfT) (x1 : Int32) (x3 : Int32) (x4 : Int32) (R9 : RfT) (hr : e_putHead_71  n R x1 x3 x4 = some R9) (f : Nat → va_E) (w : RW E f R) (hf : Fr RfK f0 f), G E (6, yX12_putHead, 5, none, sz, QA) cX12_putHead (gO E (6, yX12_putHead, 5, none, sz, QA) (fun v g => v = none ∧ RW E g R9 ∧ Fr RfK f0 g, fun _ _ => False)) 71 [(0, .ref (gAd E (56))), (1, .int (x1)), (3, .int (x3)), (4, .int (x4))] [] f := by
  intro n
  induction n with
  | zero =>
    intro R x1 x3 x4 R9 hr f w hf
    cases hr
  | succ n ih =>
    intro R x1 x3 x4 R9 hr f w hf
    obtain ⟨az, sy, r0⟩ := w
    unfold e_putHead_71 at hr
    refine G.go tv_X12_putHead 4 76 [(0, .ref (gAd E (56))), (1, .int (x1)), (3, .int (x3)), (4, .int (x4))] [.int (((2 : Int32)) * (x1)), .int (x4)] rfl ?_
    refine G.cmp_ge 112 (tbd tv_X12_putHead rfl) (by decide) (fun c76 => ?_) (fun c76 => ?_)
    · replace hr := ite_t c76 hr
      refine G.go tv_X12_putHead 2 115 [(0, .ref (gAd E (56))), (1, .int (x1)), (3, .int (x3)), (4, .int ((0 : Int32)))] [] rfl ?_
      refine G.less [(0, .ref (gAd E (56))), (1, .int (x1)), (3, .int (x3)), (4, .int ((0 : Int32)))] [0, 1, 2, 3] rfl ?_
      exact l_X12_putHead_115 E f0 sz QA hE _ _ _ _ _ _ hr _ ⟨_, _, r0⟩ hf
    · replace hr := ite_f c76 hr
      refine G.go tv_X12_putHead 4 84 [(0, .ref (gAd E (56))), (1, .int (x1)), (3, .int (x3)), (4, .int (x4))] [.ref (gAd E (56)), .int ((x3) * ((31 : Int32)))] rfl ?_
      refine G.rg r0 hE 23 (.ref (gAd E (64))) (by decide) rfl (tbd tv_X12_putHead rfl) w_2088 ?_
      refine G.go tv_X12_putHead 2 90 [(0, .ref (gAd E (56))), (1, .int (x1)), (3, .int (x3)), (4, .int (x4))] [.int ((2 : Int32)), .int (x4), .ref (gAd E (64)), .int ((x3) * ((31 : Int32)))] rfl ?_
      refine G.idiv (by decide) (tbd tv_X12_putHead rfl) ?_
      obtain ⟨v9, b9, e9, hr⟩ := ld_s hr
      refine G.ialdE (64) (by omega) (r0.a23) b9 e9 (tbd tv_X12_putHead rfl) ?_
      refine G.go tv_X12_putHead 3 97 [(0, .ref (gAd E (56))), (1, .int (x1)), (3, .int (x3)), (4, .int (x4))] [.int ((2 : Int32)), .int (x4), .int ((8 : Int32)), .int (v9), .int ((x3) * ((31 : Int32)))] rfl ?_
      refine G.irem (by decide) (tbd tv_X12_putHead rfl) ?_
      refine G.go tv_X12_putHead 6 106 [(0, .ref (gAd E (56))), (1, .int (x1)), (3, .int (((x3) * ((31 : Int32))) + (((v9) >>> ((((8 : Int32)) * ((x4) - (x4) / ((2 : Int32)) * ((2 : Int32)))) &&& 31)) &&& ((255 : Int32))))), (4, .int (x4))] [] rfl ?_
      obtain ⟨v10, e10, hr⟩ := nm_s hr
      refine G.eql [(0, .ref (gAd E (56))), (1, .int (x1)), (3, .int (v10)), (4, .int (x4))] (by rw [e10]) ?_
      refine G.go tv_X12_putHead 2 71 [(0, .ref (gAd E (56))), (1, .int (x1)), (3, .int (v10)), (4, .int (x4 + (1 : Int32)))] [] rfl ?_
      refine G.less [(0, .ref (gAd E (56))), (1, .int (x1)), (3, .int (v10)), (4, .int (x4 + (1 : Int32)))] [0, 1, 2, 3] rfl ?_
      exact ih _ _ _ _ _ hr _ ⟨_, _, r0⟩ hf
set_option maxRecDepth 100000 in
set_option maxHeartbeats 4000000 in
theorem l_X12_putHead_38 (E : gE) (f0 : Nat → va_E) (sz : Nat) (QA : Nat → Prop) (hE : 94 ≤ gN E) : ∀ (n : Nat), ∀ (R : RfT) (x1 : Int32) (x3 : Int32) (x4 : Int32) (R9 : RfT) (hr : e_putHead_38  n R x1 x3 x4 = some R9) (f : Nat → va_E) (w : RW E f R) (hf : Fr RfK f0 f), G E (6, yX12_putHead, 5, none, sz, QA) cX12_putHead (gO E (6, yX12_putHead, 5, none, sz, QA) (fun v g => v = none ∧ RW E g R9 ∧ Fr RfK f0 g, fun _ _ => False)) 38 [(0, .ref (gAd E (56))), (1, .int (x1)), (3, .int (x3)), (4, .int (x4))] [] f := by
  intro n
  induction n with
  | zero =>
    intro R x1 x3 x4 R9 hr f w hf
    cases hr
  | succ n ih =>
    intro R x1 x3 x4 R9 hr f w hf
    obtain ⟨az, sy, r0⟩ := w
    unfold e_putHead_38 at hr
    refine G.go tv_X12_putHead 2 42 [(0, .ref (gAd E (56))), (1, .int (x1)), (3, .int (x3)), (4, .int (x4))] [.int ((6 : Int32)), .int (x4)] rfl ?_
    refine G.cmp_ge 68 (tbd tv_X12_putHead rfl) (by decide) (fun c42 => ?_) (fun c42 => ?_)
    · replace hr := ite_t c42 hr
      refine G.go tv_X12_putHead 2 71 [(0, .ref (gAd E (56))), (1, .int (x1)), (3, .int (x3)), (4, .int ((0 : Int32)))] [] rfl ?_
      refine G.less [(0, .ref (gAd E (56))), (1, .int (x1)), (3, .int (x3)), (4, .int ((0 : Int32)))] [0, 1, 2, 3] rfl ?_
      exact l_X12_putHead_71 E f0 sz QA hE _ _ _ _ _ _ hr _ ⟨_, _, r0⟩ hf
    · replace hr := ite_f c42 hr
      refine G.go tv_X12_putHead 4 50 [(0, .ref (gAd E (56))), (1, .int (x1)), (3, .int (x3)), (4, .int (x4))] [.ref (gAd E (56)), .int ((x3) * ((31 : Int32)))] rfl ?_
      refine G.rg r0 hE 44 (.ref (gAd E (79))) (by decide) rfl (tbd tv_X12_putHead rfl) w_2109 ?_
      refine G.go tv_X12_putHead 1 55 [(0, .ref (gAd E (56))), (1, .int (x1)), (3, .int (x3)), (4, .int (x4))] [.int (x4), .ref (gAd E (79)), .int ((x3) * ((31 : Int32)))] rfl ?_
      obtain ⟨v7, b7, e7, hr⟩ := ld_s hr
      refine G.baldE (79) (by omega) (r0.a44) b7 e7 (tbd tv_X12_putHead rfl) ?_
      refine G.go tv_X12_putHead 4 62 [(0, .ref (gAd E (56))), (1, .int (x1)), (3, .int (((x3) * ((31 : Int32))) + ((v7) &&& ((255 : Int32))))), (4, .int (x4))] [] rfl ?_
      obtain ⟨v8, e8, hr⟩ := nm_s hr
      refine G.eql [(0, .ref (gAd E (56))), (1, .int (x1)), (3, .int (v8)), (4, .int (x4))] (by rw [e8]) ?_
      refine G.go tv_X12_putHead 2 38 [(0, .ref (gAd E (56))), (1, .int (x1)), (3, .int (v8)), (4, .int (x4 + (1 : Int32)))] [] rfl ?_
      refine G.less [(0, .ref (gAd E (56))), (1, .int (x1)), (3, .int (v8)), (4, .int (x4 + (1 : Int32)))] [0, 1, 2, 3] rfl ?_
      exact ih _ _ _ _ _ hr _ ⟨_, _, r0⟩ hf
set_option maxRecDepth 100000 in
set_option maxHeartbeats 4000000 in
theorem k_X12_putHead (E : gE) (f : Nat → va_E) (hE : 94 ≤ gN E) (R : RfT) (w : RW E f R) (a0 : Int32) (a1 : Int32) (R9 : RfT) (hr : e_putHead R a0 a1 = some R9) : Ct E 6 yX12_putHead cX12_putHead 5 none [.ref (gAd E (56)), .int (a0), .int (a1)] f (fun v g => v = none ∧ RW E g R9 ∧ Fr RfK f g, fun _ _ => False) := by
  obtain ⟨az, sy, r0⟩ := w
  refine Ct.of (by decide) (Nat.le_of_ble_eq_true rfl) (fun sz => ?_)
  refine G.eql [(0, .ref (gAd E (56))), (1, .int (a0)), (2, .int (a1))] rfl ?_
  unfold e_putHead at hr
  refine G.go tv_X12_putHead 2 2 [(0, .ref (gAd E (56))), (1, .int (a0)), (2, .int (a1))] [.int (a1), .ref (gAd E (56))] rfl ?_
  obtain ⟨R2, eR2, hr⟩ := ptR_s hr
  refine G.rpW r0 hE 22 eR2 (by decide) rfl (by decide) rfl rfl rfl (tbd tv_X12_putHead rfl) w_2087 (fun u2 r2 h2 => ?_)
  refine G.go tv_X12_putHead 1 6 [(0, .ref (gAd E (56))), (1, .int (a0)), (2, .int (a1))] [.ref (gAd E (56))] rfl ?_
  obtain ⟨R3, hv3, hr⟩ := bnd_s hr
  refine G.callV (56) [] [] (k_X12_empty E _ hE R2 ⟨_, _, r2⟩ R3 hv3) cls_X12 (by omega) (r2.o) cw_X12_249 w_2276 w_55 (Nat.le_of_ble_eq_true rfl) rfl (Nat.le_of_ble_eq_true rfl) (tbd tv_X12_putHead rfl) (fun v3w f3 q3 => ?_) (fun _ _ h => h.elim)
  obtain ⟨rfl, ⟨az3, sy3, r3⟩, fa3⟩ := q3
  refine G.eqs [] rfl ?_
  refine G.go tv_X12_putHead 1 10 [(0, .ref (gAd E (56))), (1, .int (a0)), (2, .int (a1))] [.ref (gAd E (56))] rfl ?_
  refine G.rg r3 hE 44 (.ref (gAd E (79))) (by decide) rfl (tbd tv_X12_putHead rfl) w_2109 ?_
  refine G.go tv_X12_putHead 3 16 [(0, .ref (gAd E (56))), (1, .int (a0)), (2, .int (a1))] [.int (a0), .int ((2 : Int32)), .int ((0 : Int32)), .ref (gAd E (79))] rfl ?_
  obtain ⟨R4, hv4, hr⟩ := bnd_s hr
  refine G.callS [.ref (gAd E (79)), .int ((0 : Int32)), .int ((2 : Int32)), .int (a0)] [] (k_X12_set_79 E _ hE R3 ⟨_, _, r3⟩ ((0 : Int32)) ((2 : Int32)) a0 R4 hv4) cw_X12_242 w_2330 (Nat.le_of_ble_eq_true rfl) rfl (Nat.le_of_ble_eq_true rfl) (tbd tv_X12_putHead rfl) (fun v4w f4 q4 => ?_) (fun _ _ h => h.elim)
  obtain ⟨rfl, ⟨az4, sy4, r4⟩, fa4⟩ := q4
  refine G.eqs [] rfl ?_
  refine G.go tv_X12_putHead 1 20 [(0, .ref (gAd E (56))), (1, .int (a0)), (2, .int (a1))] [.ref (gAd E (56))] rfl ?_
  refine G.rg r4 hE 44 (.ref (gAd E (79))) (by decide) rfl (tbd tv_X12_putHead rfl) w_2109 ?_
  refine G.go tv_X12_putHead 3 26 [(0, .ref (gAd E (56))), (1, .int (a0)), (2, .int (a1))] [.ref (gAd E (56)), .int ((4 : Int32)), .int ((2 : Int32)), .ref (gAd E (79))] rfl ?_
  refine G.rg r4 hE 22 (.int (rS R4 22)) (by decide) rfl (tbd tv_X12_putHead rfl) w_2087 ?_
  obtain ⟨R6, hv6, hr⟩ := bnd_s hr
  refine G.callS [.ref (gAd E (79)), .int ((2 : Int32)), .int ((4 : Int32)), .int (rS R4 22)] [] (k_X12_set_79 E _ hE R4 ⟨_, _, r4⟩ ((2 : Int32)) ((4 : Int32)) (rS R4 22) R6 hv6) cw_X12_242 w_2330 (Nat.le_of_ble_eq_true rfl) rfl (Nat.le_of_ble_eq_true rfl) (tbd tv_X12_putHead rfl) (fun v6w f6 q6 => ?_) (fun _ _ h => h.elim)
  obtain ⟨rfl, ⟨az6, sy6, r6⟩, fa6⟩ := q6
  refine G.eqs [] rfl ?_
  refine G.go tv_X12_putHead 4 38 [(0, .ref (gAd E (56))), (1, .int (a0)), (2, .int (a1)), (3, .int ((7 : Int32))), (4, .int ((0 : Int32)))] [] rfl ?_
  refine G.less [(0, .ref (gAd E (56))), (1, .int (a0)), (3, .int ((7 : Int32))), (4, .int ((0 : Int32)))] [0, 1, 3, 4] rfl ?_
  exact l_X12_putHead_38 E f sz _ hE _ _ _ _ _ _ hr _ ⟨_, _, r6⟩ ((((Fr.rf.tr h2 (fun _ h => h)).tr fa3 (fun _ h => h)).tr fa4 (fun _ h => h)).tr fa6 (fun _ h => h))
def tb_X12_applyLog : List (Nat × Instr × Nat) := [(0, .aload_n 0, 1), (1, .getfield 162, 3), (4, .ifCond .eq 10, 3), (7, .aload_n 0, 1), (8, .getfield 25, 3), (11, .ifCond .ne 4, 3), (14, .return_, 1), (15, .iconst 0, 1), (16, .istore_n 1, 1), (17, .iload_n 1, 1), (18, .sipush 1024, 3), (21, .if_icmp .ge 45, 3), (24, .aload_n 0, 1), (25, .getfield 25, 3), (28, .ifCond .eq 38, 3), (31, .aload_n 0, 1), (32, .getfield 77, 3), (35, .iload_n 1, 1), (36, .iaload, 1), (37, .iconst (-1), 1), (38, .if_icmp .eq 22, 3), (41, .aload_n 0, 1), (42, .iload_n 1, 1), (43, .aload_n 0, 1), (44, .getfield 46, 3), (47, .sipush 128, 3), (50, .aload_n 0, 1), (51, .getfield 77, 3), (54, .iload_n 1, 1), (55, .iaload, 1), (56, .imul, 1), (57, .invokevirtual 252, 3), (60, .iinc 1 1, 3), (63, .goto (-46), 3), (66, .aload_n 0, 1), (67, .invokevirtual 255, 3), (70, .aload_n 0, 1), (71, .getfield 25, 3), (74, .ifCond .ne 4, 3), (77, .return_, 1), (78, .aload_n 0, 1), (79, .iconst 0, 1), (80, .putfield 162, 3), (83, .aload_n 0, 1), (84, .getfield 77, 3), (87, .invokestatic 140, 3), (90, .aload_n 0, 1), (91, .iconst 0, 1), (92, .aload_n 0, 1), (93, .getfield 246, 3), (96, .iconst 1, 1), (97, .iadd, 1), (98, .invokevirtual 258, 3), (101, .aload_n 0, 1), (102, .invokevirtual 255, 3), (105, .return_, 1)]
theorem tv_X12_applyLog : Tv cX12_applyLog tb_X12_applyLog := by
  unfold Tv
  decide +kernel
def e_nowhere_75_2  : Nat → RfT → Int32 → Option (RfT)
  | 0, _, _ => none
  | n + 1, R, x1 => if ((1024 : Int32)) ≤ x1 then some R else stR R 38 1024 x1 ((-1 : Int32)) (fun R21 => e_nowhere_75_2  n R21 (x1 + (1 : Int32)))
def e_nowhere_75  (R : RfT) : Option (RfT) := e_nowhere_75_2  fuL R ((0 : Int32))
set_option maxRecDepth 100000 in
set_option maxHeartbeats 4000000 in
theorem l_X12_nowhere_75_2 (E : gE) (f0 : Nat → va_E) (sz : Nat) (QA : Nat → Prop) (hE : 94 ≤ gN E) : ∀ (n : Nat), ∀ (R : RfT) (x1 : Int32) (R9 : RfT) (hr : e_nowhere_75_2  n R x1 = some R9) (f : Nat → va_E) (w : RW E f R) (hf : Fr RfK f0 f), G E (1, yX12_nowhere, 2, none, sz, QA) cX12_nowhere (gO E (1, yX12_nowhere, 2, none, sz, QA) (fun v g => v = none ∧ RW E g R9 ∧ Fr RfK f0 g, fun _ _ => False)) 2 [(0, .ref (gAd E (75))), (1, .int (x1))] [] f := by
  intro n
  induction n with
  | zero =>
    intro R x1 R9 hr f w hf
    cases hr
  | succ n ih =>
    intro R x1 R9 hr f w hf
    obtain ⟨az, sy, r0⟩ := w
    unfold e_nowhere_75_2 at hr
    refine G.go tv_X12_nowhere 2 6 [(0, .ref (gAd E (75))), (1, .int (x1))] [.int ((1024 : Int32)), .int (x1)] rfl ?_
    refine G.cmp_ge 19 (tbd tv_X12_nowhere rfl) (by decide) (fun c6 => ?_) (fun c6 => ?_)
    · replace hr := ite_t c6 hr
      cases hr
      exact G.vret rfl ⟨rfl, ⟨_, _, r0⟩, hf⟩ (tbd tv_X12_nowhere rfl)
    · replace hr := ite_f c6 hr
      refine G.go tv_X12_nowhere 3 12 [(0, .ref (gAd E (75))), (1, .int (x1))] [.int ((-1 : Int32)), .int (x1), .ref (gAd E (75))] rfl ?_
      obtain ⟨R21, b21, eR21, hr⟩ := stR_s hr
      refine G.iast (75) (by omega) (r0.a38) b21 (tbd tv_X12_nowhere rfl) ?_
      refine G.gen (P := fun w9 => RfV E w9 (setSr (setS R21 42 az) sy) ∧ Fr RfK f0 w9) ⟨by rw [eR21]; exact r0.p38 _, Fr.up hf ⟨by decide, by decide⟩⟩ (fun u21 p21 => ?_)
      obtain ⟨r21, h21⟩ := p21
      refine G.go tv_X12_nowhere 2 2 [(0, .ref (gAd E (75))), (1, .int (x1 + (1 : Int32)))] [] rfl ?_
      refine G.less [(0, .ref (gAd E (75))), (1, .int (x1 + (1 : Int32)))] [0, 1] rfl ?_
      exact ih _ _ _ hr _ ⟨_, _, r21⟩ h21
set_option maxRecDepth 100000 in
set_option maxHeartbeats 4000000 in
theorem k_X12_nowhere_75 (E : gE) (f : Nat → va_E) (hE : 94 ≤ gN E) (R : RfT) (w : RW E f R) (R9 : RfT) (hr : e_nowhere_75 R = some R9) : Ct E 1 yX12_nowhere cX12_nowhere 2 none [.ref (gAd E (75))] f (fun v g => v = none ∧ RW E g R9 ∧ Fr RfK f g, fun _ _ => False) := by
  obtain ⟨az, sy, r0⟩ := w
  refine Ct.of (by decide) (Nat.le_of_ble_eq_true rfl) (fun sz => ?_)
  refine G.eql [(0, .ref (gAd E (75)))] rfl ?_
  unfold e_nowhere_75 at hr
  refine G.go tv_X12_nowhere 2 2 [(0, .ref (gAd E (75))), (1, .int ((0 : Int32)))] [] rfl ?_
  refine G.less [(0, .ref (gAd E (75))), (1, .int ((0 : Int32)))] [0, 1] rfl ?_
  exact l_X12_nowhere_75_2 E f sz _ hE _ _ _ _ hr _ ⟨_, _, r0⟩ Fr.rf
noncomputable def e_applyLog_66  (R : RfT) : Option (RfT) := bnd (e_settle R) (fun R18 => if (rS R18 11) = 0 then some R18 else ptR R18 25 ((0 : Int32)) (fun R19 => bnd (e_nowhere_75 R19) (fun R20 => bnd (e_putHead R20 ((0 : Int32)) ((rS R20 22) + ((1 : Int32)))) (fun R22 => bnd (e_settle R22) (fun R23 => some R23)))))
noncomputable def e_applyLog_17  : Nat → RfT → Int32 → Option (RfT)
  | 0, _, _ => none
  | n + 1, R, x1 => if ((1024 : Int32)) ≤ x1 then e_applyLog_66  R else if (rS R 11) = 0 then e_applyLog_66  R else ld (rA R 38) 1024 x1 (fun v15 => if v15 = ((-1 : Int32)) then e_applyLog_17  n R (x1 + (1 : Int32)) else ld (rA R 38) 1024 x1 (fun v16 => bnd (e_hand_65 R x1 (((128 : Int32)) * (v16))) (fun R17 => e_applyLog_17  n R17 (x1 + (1 : Int32)))))
noncomputable def e_applyLog  (R : RfT) : Option (RfT) := if (rS R 25) = 0 then some R else if (rS R 11) = 0 then some R else e_applyLog_17  fuL R ((0 : Int32))
set_option maxRecDepth 100000 in
set_option maxHeartbeats 4000000 in
theorem l_X12_applyLog_66 (E : gE) (f0 : Nat → va_E) (sz : Nat) (QA : Nat → Prop) (hE : 94 ≤ gN E) : ∀ (R : RfT) (R9 : RfT) (hr : e_applyLog_66  R = some R9) (f : Nat → va_E) (w : RW E f R) (hf : Fr RfK f0 f), G E (7, yX12_applyLog, 2, none, sz, QA) cX12_applyLog (gO E (7, yX12_applyLog, 2, none, sz, QA) (fun v g => v = none ∧ RW E g R9 ∧ Fr RfK f0 g, fun _ _ => False)) 66 [(0, .ref (gAd E (56)))] [] f := by
  intro R R9 hr f w hf
  obtain ⟨az, sy, r0⟩ := w
  unfold e_applyLog_66 at hr
  refine G.go tv_X12_applyLog 1 67 [(0, .ref (gAd E (56)))] [.ref (gAd E (56))] rfl ?_
  obtain ⟨R18, hv18, hr⟩ := bnd_s hr
  refine G.callV (56) [] [] (k_X12_settle E _ hE R ⟨_, _, r0⟩ R18 hv18) cls_X12 (by omega) (r0.o) cw_X12_255 w_2315 w_64 (Nat.le_of_ble_eq_true rfl) rfl (Nat.le_of_ble_eq_true rfl) (tbd tv_X12_applyLog rfl) (fun v18w f18 q18 => ?_) (fun _ _ h => h.elim)
  obtain ⟨rfl, ⟨az18, sy18, r18⟩, fa18⟩ := q18
  refine G.eqs [] rfl ?_
  refine G.go tv_X12_applyLog 1 71 [(0, .ref (gAd E (56)))] [.ref (gAd E (56))] rfl ?_
  refine G.rg r18 hE 11 (.int (rS R18 11)) (by decide) rfl (tbd tv_X12_applyLog rfl) w_2076 ?_
  refine G.if_ne 78 (tbd tv_X12_applyLog rfl) (by decide) (fun c74 => ?_) (fun c74 => ?_)
  · replace hr := ite_f c74 hr
    refine G.go tv_X12_applyLog 2 80 [(0, .ref (gAd E (56)))] [.int ((0 : Int32)), .ref (gAd E (56))] rfl ?_
    obtain ⟨R19, eR19, hr⟩ := ptR_s hr
    refine G.rpW r18 hE 25 eR19 (by decide) rfl (by decide) rfl rfl rfl (tbd tv_X12_applyLog rfl) w_2090 (fun u19 r19 h19 => ?_)
    refine G.go tv_X12_applyLog 1 84 [(0, .ref (gAd E (56)))] [.ref (gAd E (56))] rfl ?_
    refine G.rg r19 hE 38 (.ref (gAd E (75))) (by decide) rfl (tbd tv_X12_applyLog rfl) w_2103 ?_
    obtain ⟨R20, hv20, hr⟩ := bnd_s hr
    refine G.callS [.ref (gAd E (75))] [] (k_X12_nowhere_75 E _ hE R19 ⟨_, _, r19⟩ R20 hv20) cw_X12_140 w_2063 (Nat.le_of_ble_eq_true rfl) rfl (Nat.le_of_ble_eq_true rfl) (tbd tv_X12_applyLog rfl) (fun v20w f20 q20 => ?_) (fun _ _ h => h.elim)
    obtain ⟨rfl, ⟨az20, sy20, r20⟩, fa20⟩ := q20
    refine G.eqs [] rfl ?_
    refine G.go tv_X12_applyLog 3 93 [(0, .ref (gAd E (56)))] [.ref (gAd E (56)), .int ((0 : Int32)), .ref (gAd E (56))] rfl ?_
    refine G.rg r20 hE 22 (.int (rS R20 22)) (by decide) rfl (tbd tv_X12_applyLog rfl) w_2087 ?_
    refine G.go tv_X12_applyLog 2 98 [(0, .ref (gAd E (56)))] [.int ((rS R20 22) + ((1 : Int32))), .int ((0 : Int32)), .ref (gAd E (56))] rfl ?_
    obtain ⟨R22, hv22, hr⟩ := bnd_s hr
    refine G.callV (56) [.int ((0 : Int32)), .int ((rS R20 22) + ((1 : Int32)))] [] (k_X12_putHead E _ hE R20 ⟨_, _, r20⟩ ((0 : Int32)) ((rS R20 22) + ((1 : Int32))) R22 hv22) cls_X12 (by omega) (r20.o) cw_X12_258 w_2327 w_67 (Nat.le_of_ble_eq_true rfl) rfl (Nat.le_of_ble_eq_true rfl) (tbd tv_X12_applyLog rfl) (fun v22w f22 q22 => ?_) (fun _ _ h => h.elim)
    obtain ⟨rfl, ⟨az22, sy22, r22⟩, fa22⟩ := q22
    refine G.eqs [] rfl ?_
    refine G.go tv_X12_applyLog 1 102 [(0, .ref (gAd E (56)))] [.ref (gAd E (56))] rfl ?_
    obtain ⟨R23, hv23, hr⟩ := bnd_s hr
    refine G.callV (56) [] [] (k_X12_settle E _ hE R22 ⟨_, _, r22⟩ R23 hv23) cls_X12 (by omega) (r22.o) cw_X12_255 w_2315 w_64 (Nat.le_of_ble_eq_true rfl) rfl (Nat.le_of_ble_eq_true rfl) (tbd tv_X12_applyLog rfl) (fun v23w f23 q23 => ?_) (fun _ _ h => h.elim)
    obtain ⟨rfl, ⟨az23, sy23, r23⟩, fa23⟩ := q23
    refine G.eqs [] rfl ?_
    cases hr
    exact G.vret rfl ⟨rfl, ⟨_, _, r23⟩, (((((hf.tr fa18 (fun _ h => h)).tr h19 (fun _ h => h)).tr fa20 (fun _ h => h)).tr fa22 (fun _ h => h)).tr fa23 (fun _ h => h))⟩ (tbd tv_X12_applyLog rfl)
  · replace hr := ite_t c74 hr
    cases hr
    exact G.vret rfl ⟨rfl, ⟨_, _, r18⟩, (hf.tr fa18 (fun _ h => h))⟩ (tbd tv_X12_applyLog rfl)
set_option maxRecDepth 100000 in
set_option maxHeartbeats 4000000 in
theorem l_X12_applyLog_17 (E : gE) (f0 : Nat → va_E) (sz : Nat) (QA : Nat → Prop) (hE : 94 ≤ gN E) : ∀ (n : Nat), ∀ (R : RfT) (x1 : Int32) (R9 : RfT) (hr : e_applyLog_17  n R x1 = some R9) (f : Nat → va_E) (w : RW E f R) (hf : Fr RfK f0 f), G E (7, yX12_applyLog, 2, none, sz, QA) cX12_applyLog (gO E (7, yX12_applyLog, 2, none, sz, QA) (fun v g => v = none ∧ RW E g R9 ∧ Fr RfK f0 g, fun _ _ => False)) 17 [(0, .ref (gAd E (56))), (1, .int (x1))] [] f := by
  intro n
  induction n with
  | zero =>
    intro R x1 R9 hr f w hf
    cases hr
  | succ n ih =>
    intro R x1 R9 hr f w hf
    obtain ⟨az, sy, r0⟩ := w
    unfold e_applyLog_17 at hr
    refine G.go tv_X12_applyLog 2 21 [(0, .ref (gAd E (56))), (1, .int (x1))] [.int ((1024 : Int32)), .int (x1)] rfl ?_
    refine G.cmp_ge 66 (tbd tv_X12_applyLog rfl) (by decide) (fun c21 => ?_) (fun c21 => ?_)
    · replace hr := ite_t c21 hr
      refine G.less [(0, .ref (gAd E (56)))] [0] rfl ?_
      exact l_X12_applyLog_66 E f0 sz QA hE _ _ hr _ ⟨_, _, r0⟩ hf
    · replace hr := ite_f c21 hr
      refine G.go tv_X12_applyLog 1 25 [(0, .ref (gAd E (56))), (1, .int (x1))] [.ref (gAd E (56))] rfl ?_
      refine G.rg r0 hE 11 (.int (rS R 11)) (by decide) rfl (tbd tv_X12_applyLog rfl) w_2076 ?_
      refine G.if_eq 66 (tbd tv_X12_applyLog rfl) (by decide) (fun c28 => ?_) (fun c28 => ?_)
      · replace hr := ite_t c28 hr
        refine G.less [(0, .ref (gAd E (56)))] [0] rfl ?_
        exact l_X12_applyLog_66 E f0 sz QA hE _ _ hr _ ⟨_, _, r0⟩ hf
      · replace hr := ite_f c28 hr
        refine G.go tv_X12_applyLog 1 32 [(0, .ref (gAd E (56))), (1, .int (x1))] [.ref (gAd E (56))] rfl ?_
        refine G.rg r0 hE 38 (.ref (gAd E (75))) (by decide) rfl (tbd tv_X12_applyLog rfl) w_2103 ?_
        refine G.go tv_X12_applyLog 1 36 [(0, .ref (gAd E (56))), (1, .int (x1))] [.int (x1), .ref (gAd E (75))] rfl ?_
        obtain ⟨v15, b15, e15, hr⟩ := ld_s hr
        refine G.ialdE (75) (by omega) (r0.a38) b15 e15 (tbd tv_X12_applyLog rfl) ?_
        refine G.go tv_X12_applyLog 1 38 [(0, .ref (gAd E (56))), (1, .int (x1))] [.int ((-1 : Int32)), .int (v15)] rfl ?_
        refine G.cmp_eq 60 (tbd tv_X12_applyLog rfl) (by decide) (fun c38 => ?_) (fun c38 => ?_)
        · replace hr := ite_t c38 hr
          refine G.go tv_X12_applyLog 2 17 [(0, .ref (gAd E (56))), (1, .int (x1 + (1 : Int32)))] [] rfl ?_
          refine G.less [(0, .ref (gAd E (56))), (1, .int (x1 + (1 : Int32)))] [0, 1] rfl ?_
          exact ih _ _ _ hr _ ⟨_, _, r0⟩ hf
        · replace hr := ite_f c38 hr
          refine G.go tv_X12_applyLog 3 44 [(0, .ref (gAd E (56))), (1, .int (x1))] [.ref (gAd E (56)), .int (x1), .ref (gAd E (56))] rfl ?_
          refine G.rg r0 hE 24 (.ref (gAd E (65))) (by decide) rfl (tbd tv_X12_applyLog rfl) w_2089 ?_
          refine G.go tv_X12_applyLog 2 51 [(0, .ref (gAd E (56))), (1, .int (x1))] [.ref (gAd E (56)), .int ((128 : Int32)), .ref (gAd E (65)), .int (x1), .ref (gAd E (56))] rfl ?_
          refine G.rg r0 hE 38 (.ref (gAd E (75))) (by decide) rfl (tbd tv_X12_applyLog rfl) w_2103 ?_
          refine G.go tv_X12_applyLog 1 55 [(0, .ref (gAd E (56))), (1, .int (x1))] [.int (x1), .ref (gAd E (75)), .int ((128 : Int32)), .ref (gAd E (65)), .int (x1), .ref (gAd E (56))] rfl ?_
          obtain ⟨v16, b16, e16, hr⟩ := ld_s hr
          refine G.ialdE (75) (by omega) (r0.a38) b16 e16 (tbd tv_X12_applyLog rfl) ?_
          refine G.go tv_X12_applyLog 1 57 [(0, .ref (gAd E (56))), (1, .int (x1))] [.int (((128 : Int32)) * (v16)), .ref (gAd E (65)), .int (x1), .ref (gAd E (56))] rfl ?_
          obtain ⟨R17, hv17, hr⟩ := bnd_s hr
          refine G.callV (56) [.int (x1), .ref (gAd E (65)), .int (((128 : Int32)) * (v16))] [] (k_X12_hand_65 E _ hE R ⟨_, _, r0⟩ x1 (((128 : Int32)) * (v16)) R17 hv17) cls_X12 (by omega) (r0.o) cw_X12_252 w_2280 w_56 (Nat.le_of_ble_eq_true rfl) rfl (Nat.le_of_ble_eq_true rfl) (tbd tv_X12_applyLog rfl) (fun v17w f17 q17 => ?_) (fun _ _ h => h.elim)
          obtain ⟨rfl, ⟨az17, sy17, r17⟩, fa17⟩ := q17
          refine G.eqs [] rfl ?_
          refine G.go tv_X12_applyLog 2 17 [(0, .ref (gAd E (56))), (1, .int (x1 + (1 : Int32)))] [] rfl ?_
          refine G.less [(0, .ref (gAd E (56))), (1, .int (x1 + (1 : Int32)))] [0, 1] rfl ?_
          exact ih _ _ _ hr _ ⟨_, _, r17⟩ (hf.tr fa17 (fun _ h => h))
set_option maxRecDepth 100000 in
set_option maxHeartbeats 4000000 in
theorem k_X12_applyLog (E : gE) (f : Nat → va_E) (hE : 94 ≤ gN E) (R : RfT) (w : RW E f R) (R9 : RfT) (hr : e_applyLog R = some R9) : Ct E 7 yX12_applyLog cX12_applyLog 2 none [.ref (gAd E (56))] f (fun v g => v = none ∧ RW E g R9 ∧ Fr RfK f g, fun _ _ => False) := by
  obtain ⟨az, sy, r0⟩ := w
  refine Ct.of (by decide) (Nat.le_of_ble_eq_true rfl) (fun sz => ?_)
  refine G.eql [(0, .ref (gAd E (56)))] rfl ?_
  unfold e_applyLog at hr
  refine G.go tv_X12_applyLog 1 1 [(0, .ref (gAd E (56)))] [.ref (gAd E (56))] rfl ?_
  refine G.rg r0 hE 25 (.int (rS R 25)) (by decide) rfl (tbd tv_X12_applyLog rfl) w_2090 ?_
  refine G.if_eq 14 (tbd tv_X12_applyLog rfl) (by decide) (fun c4 => ?_) (fun c4 => ?_)
  · replace hr := ite_t c4 hr
    cases hr
    exact G.vret rfl ⟨rfl, ⟨_, _, r0⟩, Fr.rf⟩ (tbd tv_X12_applyLog rfl)
  · replace hr := ite_f c4 hr
    refine G.go tv_X12_applyLog 1 8 [(0, .ref (gAd E (56)))] [.ref (gAd E (56))] rfl ?_
    refine G.rg r0 hE 11 (.int (rS R 11)) (by decide) rfl (tbd tv_X12_applyLog rfl) w_2076 ?_
    refine G.if_ne 15 (tbd tv_X12_applyLog rfl) (by decide) (fun c11 => ?_) (fun c11 => ?_)
    · replace hr := ite_f c11 hr
      refine G.go tv_X12_applyLog 2 17 [(0, .ref (gAd E (56))), (1, .int ((0 : Int32)))] [] rfl ?_
      refine G.less [(0, .ref (gAd E (56))), (1, .int ((0 : Int32)))] [0, 1] rfl ?_
      exact l_X12_applyLog_17 E f sz _ hE _ _ _ _ hr _ ⟨_, _, r0⟩ Fr.rf
    · replace hr := ite_t c11 hr
      cases hr
      exact G.vret rfl ⟨rfl, ⟨_, _, r0⟩, Fr.rf⟩ (tbd tv_X12_applyLog rfl)
def tb_X12_batchAt : List (Nat × Instr × Nat) := [(0, .iconst 0, 1), (1, .istore_n 2, 1), (2, .iload_n 2, 1), (3, .aload_n 0, 1), (4, .getfield 262, 3), (7, .if_icmp .ge 21, 3), (10, .aload_n 0, 1), (11, .getfield 92, 3), (14, .iload_n 2, 1), (15, .iaload, 1), (16, .iload_n 1, 1), (17, .if_icmp .ne 5, 3), (20, .iload_n 2, 1), (21, .ireturn, 1), (22, .iinc 2 1, 3), (25, .goto (-23), 3), (28, .iconst (-1), 1), (29, .ireturn, 1)]
theorem tv_X12_batchAt : Tv cX12_batchAt tb_X12_batchAt := by
  unfold Tv
  decide +kernel
theorem w_2112 : Cond.fieldLink "LedgerFilesModel" 262 "LedgerFilesModel" "batch" "I" ∈ TB := tp_9 46 (by decide +kernel) rfl
def e_batchAt_2 (R : RfT) : Nat → Int32 → Int32 → Option (Int32)
  | 0, _, _ => none
  | n + 1, x1, x2 => if (rS R 47) ≤ x2 then some ((-1 : Int32)) else ld (rA R 45) 40 x2 (fun v24 => if v24 = x1 then some x2 else e_batchAt_2 R n x1 (x2 + (1 : Int32)))
def e_batchAt (R : RfT) (a0 : Int32) : Option (Int32) := e_batchAt_2 R fuL a0 ((0 : Int32))
set_option maxRecDepth 100000 in
set_option maxHeartbeats 4000000 in
theorem l_X12_batchAt_2 (E : gE) (f0 : Nat → va_E) (sz : Nat) (QA : Nat → Prop) (hE : 94 ≤ gN E) (R : RfT) : ∀ (n : Nat), ∀ (x1 : Int32) (x2 : Int32) (r : Int32) (hr : e_batchAt_2 R n x1 x2 = some r) (f : Nat → va_E) (w : RW E f R) (hf : Fr RfK f0 f), G E (1, yX12_batchAt, 3, (some .int), sz, QA) cX12_batchAt (gO E (1, yX12_batchAt, 3, (some .int), sz, QA) (fun v g => v = some (.int r) ∧ RW E g R ∧ Fr RfK f0 g, fun _ _ => False)) 2 [(0, .ref (gAd E (56))), (1, .int (x1)), (2, .int (x2))] [] f := by
  intro n
  induction n with
  | zero =>
    intro x1 x2 r hr f w hf
    cases hr
  | succ n ih =>
    intro x1 x2 r hr f w hf
    obtain ⟨az, sy, r0⟩ := w
    unfold e_batchAt_2 at hr
    refine G.go tv_X12_batchAt 2 4 [(0, .ref (gAd E (56))), (1, .int (x1)), (2, .int (x2))] [.ref (gAd E (56)), .int (x2)] rfl ?_
    refine G.rg r0 hE 47 (.int (rS R 47)) (by decide) rfl (tbd tv_X12_batchAt rfl) w_2112 ?_
    refine G.cmp_ge 28 (tbd tv_X12_batchAt rfl) (by decide) (fun c7 => ?_) (fun c7 => ?_)
    · replace hr := ite_t c7 hr
      refine G.go tv_X12_batchAt 1 29 [(0, .ref (gAd E (56))), (1, .int (x1)), (2, .int (x2))] [.int ((-1 : Int32))] rfl ?_
      cases hr
      exact G.iret rfl rfl ⟨rfl, ⟨_, _, r0⟩, hf⟩ (tbd tv_X12_batchAt rfl)
    · replace hr := ite_f c7 hr
      refine G.go tv_X12_batchAt 1 11 [(0, .ref (gAd E (56))), (1, .int (x1)), (2, .int (x2))] [.ref (gAd E (56))] rfl ?_
      refine G.rg r0 hE 45 (.ref (gAd E (80))) (by decide) rfl (tbd tv_X12_batchAt rfl) w_2110 ?_
      refine G.go tv_X12_batchAt 1 15 [(0, .ref (gAd E (56))), (1, .int (x1)), (2, .int (x2))] [.int (x2), .ref (gAd E (80))] rfl ?_
      obtain ⟨v24, b24, e24, hr⟩ := ld_s hr
      refine G.ialdE (80) (by omega) (r0.a45) b24 e24 (tbd tv_X12_batchAt rfl) ?_
      refine G.go tv_X12_batchAt 1 17 [(0, .ref (gAd E (56))), (1, .int (x1)), (2, .int (x2))] [.int (x1), .int (v24)] rfl ?_
      refine G.cmp_ne 22 (tbd tv_X12_batchAt rfl) (by decide) (fun c17 => ?_) (fun c17 => ?_)
      · replace hr := ite_f c17 hr
        refine G.go tv_X12_batchAt 2 2 [(0, .ref (gAd E (56))), (1, .int (x1)), (2, .int (x2 + (1 : Int32)))] [] rfl ?_
        refine G.less [(0, .ref (gAd E (56))), (1, .int (x1)), (2, .int (x2 + (1 : Int32)))] [0, 1, 2] rfl ?_
        exact ih _ _ _ hr _ ⟨_, _, r0⟩ hf
      · replace hr := ite_t c17 hr
        refine G.go tv_X12_batchAt 1 21 [(0, .ref (gAd E (56))), (1, .int (x1)), (2, .int (x2))] [.int (x2)] rfl ?_
        cases hr
        exact G.iret rfl rfl ⟨rfl, ⟨_, _, r0⟩, hf⟩ (tbd tv_X12_batchAt rfl)
set_option maxRecDepth 100000 in
set_option maxHeartbeats 4000000 in
theorem k_X12_batchAt (E : gE) (f : Nat → va_E) (hE : 94 ≤ gN E) (R : RfT) (w : RW E f R) (a0 : Int32) (r : Int32) (hr : e_batchAt R a0 = some r) : Ct E 1 yX12_batchAt cX12_batchAt 3 (some .int) [.ref (gAd E (56)), .int (a0)] f (fun v g => v = some (.int r) ∧ RW E g R ∧ Fr RfK f g, fun _ _ => False) := by
  obtain ⟨az, sy, r0⟩ := w
  refine Ct.of (by decide) (Nat.le_of_ble_eq_true rfl) (fun sz => ?_)
  refine G.eql [(0, .ref (gAd E (56))), (1, .int (a0))] rfl ?_
  unfold e_batchAt at hr
  refine G.go tv_X12_batchAt 2 2 [(0, .ref (gAd E (56))), (1, .int (a0)), (2, .int ((0 : Int32)))] [] rfl ?_
  refine G.less [(0, .ref (gAd E (56))), (1, .int (a0)), (2, .int ((0 : Int32)))] [0, 1, 2] rfl ?_
  exact l_X12_batchAt_2 E f sz _ hE R _ _ _ _ hr _ ⟨_, _, r0⟩ Fr.rf
def tb_X12_fresh : List (Nat × Instr × Nat) := [(0, .iconst 0, 1), (1, .istore_n 2, 1), (2, .iconst 0, 1), (3, .istore_n 3, 1), (4, .iload_n 3, 1), (5, .aload_n 0, 1), (6, .getfield 49, 3), (9, .iload_n 1, 1), (10, .iaload, 1), (11, .if_icmp .ge 36, 3), (14, .aload_n 0, 1), (15, .aload_n 0, 1), (16, .getfield 52, 3), (19, .bipush 64, 2), (21, .iload_n 1, 1), (22, .imul, 1), (23, .iload_n 3, 1), (24, .iadd, 1), (25, .iaload, 1), (26, .invokevirtual 265, 3), (29, .iconst (-1), 1), (30, .if_icmp .ne 9, 3), (33, .iload_n 2, 1), (34, .iconst 1, 1), (35, .iadd, 1), (36, .goto 4, 3), (39, .iload_n 2, 1), (40, .istore_n 2, 1), (41, .iinc 3 1, 3), (44, .goto (-40), 3), (47, .iload_n 2, 1), (48, .ireturn, 1)]
theorem tv_X12_fresh : Tv cX12_fresh tb_X12_fresh := by
  unfold Tv
  decide +kernel
theorem w_2446 : Cond.methodLink "LedgerFilesModel" 265 yX12_batchAt ∈ TB := tp_10 140 (by decide +kernel) rfl
theorem w_2449 : Cond.code yX12_batchAt prog_14_method_30_code 3 (some .int) ∈ TB := tp_10 143 rfl rfl
theorem cw_X12_265 : Cw RX12 265 yX12_batchAt cX12_batchAt 3 (some .int) 1 := ⟨w_2446, w_2449, w_161, by decide +kernel, by decide +kernel, by decide⟩
theorem w_2448 : Cond.instanceMethod yX12_batchAt ∈ TB := tp_10 142 (by decide +kernel) rfl
theorem w_93 : Cond.selects "LedgerFilesModel" yX12_batchAt yX12_batchAt ∈ TB := tp_0 93 (by decide +kernel) rfl
def e_fresh_4 (R : RfT) : Nat → Int32 → Int32 → Int32 → Option (Int32)
  | 0, _, _, _ => none
  | n + 1, x1, x2, x3 => ld (rA R 26) 16 x1 (fun v25 => if v25 ≤ x3 then some x2 else ld (rA R 27) 1024 ((((64 : Int32)) * (x1)) + (x3)) (fun v26 => bnd (e_batchAt R v26) (fun v27 => if v27 = ((-1 : Int32)) then e_fresh_4 R n x1 ((x2) + ((1 : Int32))) (x3 + (1 : Int32)) else e_fresh_4 R n x1 x2 (x3 + (1 : Int32)))))
def e_fresh (R : RfT) (a0 : Int32) : Option (Int32) := e_fresh_4 R fuL a0 ((0 : Int32)) ((0 : Int32))
set_option maxRecDepth 100000 in
set_option maxHeartbeats 4000000 in
theorem l_X12_fresh_4 (E : gE) (f0 : Nat → va_E) (sz : Nat) (QA : Nat → Prop) (hE : 94 ≤ gN E) (R : RfT) : ∀ (n : Nat), ∀ (x1 : Int32) (x2 : Int32) (x3 : Int32) (r : Int32) (hr : e_fresh_4 R n x1 x2 x3 = some r) (f : Nat → va_E) (w : RW E f R) (hf : Fr RfK f0 f), G E (2, yX12_fresh, 4, (some .int), sz, QA) cX12_fresh (gO E (2, yX12_fresh, 4, (some .int), sz, QA) (fun v g => v = some (.int r) ∧ RW E g R ∧ Fr RfK f0 g, fun _ _ => False)) 4 [(0, .ref (gAd E (56))), (1, .int (x1)), (2, .int (x2)), (3, .int (x3))] [] f := by
  intro n
  induction n with
  | zero =>
    intro x1 x2 x3 r hr f w hf
    cases hr
  | succ n ih =>
    intro x1 x2 x3 r hr f w hf
    obtain ⟨az, sy, r0⟩ := w
    unfold e_fresh_4 at hr
    refine G.go tv_X12_fresh 2 6 [(0, .ref (gAd E (56))), (1, .int (x1)), (2, .int (x2)), (3, .int (x3))] [.ref (gAd E (56)), .int (x3)] rfl ?_
    refine G.rg r0 hE 26 (.ref (gAd E (66))) (by decide) rfl (tbd tv_X12_fresh rfl) w_2091 ?_
    refine G.go tv_X12_fresh 1 10 [(0, .ref (gAd E (56))), (1, .int (x1)), (2, .int (x2)), (3, .int (x3))] [.int (x1), .ref (gAd E (66)), .int (x3)] rfl ?_
    obtain ⟨v25, b25, e25, hr⟩ := ld_s hr
    refine G.ialdE (66) (by omega) (r0.a26) b25 e25 (tbd tv_X12_fresh rfl) ?_
    refine G.cmp_ge 47 (tbd tv_X12_fresh rfl) (by decide) (fun c11 => ?_) (fun c11 => ?_)
    · replace hr := ite_t c11 hr
      refine G.go tv_X12_fresh 1 48 [(0, .ref (gAd E (56))), (1, .int (x1)), (2, .int (x2)), (3, .int (x3))] [.int (x2)] rfl ?_
      cases hr
      exact G.iret rfl rfl ⟨rfl, ⟨_, _, r0⟩, hf⟩ (tbd tv_X12_fresh rfl)
    · replace hr := ite_f c11 hr
      refine G.go tv_X12_fresh 2 16 [(0, .ref (gAd E (56))), (1, .int (x1)), (2, .int (x2)), (3, .int (x3))] [.ref (gAd E (56)), .ref (gAd E (56))] rfl ?_
      refine G.rg r0 hE 27 (.ref (gAd E (67))) (by decide) rfl (tbd tv_X12_fresh rfl) w_2092 ?_
      refine G.go tv_X12_fresh 5 25 [(0, .ref (gAd E (56))), (1, .int (x1)), (2, .int (x2)), (3, .int (x3))] [.int ((((64 : Int32)) * (x1)) + (x3)), .ref (gAd E (67)), .ref (gAd E (56))] rfl ?_
      obtain ⟨v26, b26, e26, hr⟩ := ld_s hr
      refine G.ialdE (67) (by omega) (r0.a27) b26 e26 (tbd tv_X12_fresh rfl) ?_
      obtain ⟨v27, hv27, hr⟩ := bnd_s hr
      refine G.callV (56) [.int (v26)] [] (k_X12_batchAt E _ hE R ⟨_, _, r0⟩ v26 v27 hv27) cls_X12 (by omega) (r0.o) cw_X12_265 w_2448 w_93 (Nat.le_of_ble_eq_true rfl) rfl (Nat.le_of_ble_eq_true rfl) (tbd tv_X12_fresh rfl) (fun v27w f27 q27 => ?_) (fun _ _ h => h.elim)
      obtain ⟨rfl, ⟨az27, sy27, r27⟩, fa27⟩ := q27
      refine G.eqs [.int (v27)] rfl ?_
      refine G.go tv_X12_fresh 1 30 [(0, .ref (gAd E (56))), (1, .int (x1)), (2, .int (x2)), (3, .int (x3))] [.int ((-1 : Int32)), .int (v27)] rfl ?_
      refine G.cmp_ne 39 (tbd tv_X12_fresh rfl) (by decide) (fun c30 => ?_) (fun c30 => ?_)
      · replace hr := ite_f c30 hr
        refine G.go tv_X12_fresh 4 4 [(0, .ref (gAd E (56))), (1, .int (x1)), (2, .int (x2)), (3, .int (x3 + (1 : Int32)))] [] rfl ?_
        refine G.less [(0, .ref (gAd E (56))), (1, .int (x1)), (2, .int (x2)), (3, .int (x3 + (1 : Int32)))] [0, 1, 2, 3] rfl ?_
        exact ih _ _ _ _ hr _ ⟨_, _, r27⟩ (hf.tr fa27 (fun _ h => h))
      · replace hr := ite_t c30 hr
        refine G.go tv_X12_fresh 7 4 [(0, .ref (gAd E (56))), (1, .int (x1)), (2, .int ((x2) + ((1 : Int32)))), (3, .int (x3 + (1 : Int32)))] [] rfl ?_
        refine G.less [(0, .ref (gAd E (56))), (1, .int (x1)), (2, .int ((x2) + ((1 : Int32)))), (3, .int (x3 + (1 : Int32)))] [0, 1, 2, 3] rfl ?_
        exact ih _ _ _ _ hr _ ⟨_, _, r27⟩ (hf.tr fa27 (fun _ h => h))
set_option maxRecDepth 100000 in
set_option maxHeartbeats 4000000 in
theorem k_X12_fresh (E : gE) (f : Nat → va_E) (hE : 94 ≤ gN E) (R : RfT) (w : RW E f R) (a0 : Int32) (r : Int32) (hr : e_fresh R a0 = some r) : Ct E 2 yX12_fresh cX12_fresh 4 (some .int) [.ref (gAd E (56)), .int (a0)] f (fun v g => v = some (.int r) ∧ RW E g R ∧ Fr RfK f g, fun _ _ => False) := by
  obtain ⟨az, sy, r0⟩ := w
  refine Ct.of (by decide) (Nat.le_of_ble_eq_true rfl) (fun sz => ?_)
  refine G.eql [(0, .ref (gAd E (56))), (1, .int (a0))] rfl ?_
  unfold e_fresh at hr
  refine G.go tv_X12_fresh 4 4 [(0, .ref (gAd E (56))), (1, .int (a0)), (2, .int ((0 : Int32))), (3, .int ((0 : Int32)))] [] rfl ?_
  refine G.less [(0, .ref (gAd E (56))), (1, .int (a0)), (2, .int ((0 : Int32))), (3, .int ((0 : Int32)))] [0, 1, 2, 3] rfl ?_
  exact l_X12_fresh_4 E f sz _ hE R _ _ _ _ _ hr _ ⟨_, _, r0⟩ Fr.rf
def tb_X12_join : List (Nat × Instr × Nat) := [(0, .iconst 0, 1), (1, .istore_n 2, 1), (2, .iload_n 2, 1), (3, .aload_n 0, 1), (4, .getfield 49, 3), (7, .iload_n 1, 1), (8, .iaload, 1), (9, .if_icmp .ge 88, 3), (12, .aload_n 0, 1), (13, .aload_n 0, 1), (14, .getfield 52, 3), (17, .bipush 64, 2), (19, .iload_n 1, 1), (20, .imul, 1), (21, .iload_n 2, 1), (22, .iadd, 1), (23, .iaload, 1), (24, .invokevirtual 265, 3), (27, .istore_n 3, 1), (28, .iload_n 3, 1), (29, .iconst (-1), 1), (30, .if_icmp .ne 18, 3), (33, .aload_n 0, 1), (34, .getfield 262, 3), (37, .istore_n 3, 1), (38, .aload_n 0, 1), (39, .dup, 1), (40, .getfield 262, 3), (43, .iconst 1, 1), (44, .iadd, 1), (45, .putfield 262, 3), (48, .aload_n 0, 1), (49, .getfield 92, 3), (52, .iload_n 3, 1), (53, .aload_n 0, 1), (54, .getfield 52, 3), (57, .bipush 64, 2), (59, .iload_n 1, 1), (60, .imul, 1), (61, .iload_n 2, 1), (62, .iadd, 1), (63, .iaload, 1), (64, .iastore, 1), (65, .aload_n 0, 1), (66, .getfield 55, 3), (69, .sipush 128, 3), (72, .bipush 64, 2), (74, .iload_n 1, 1), (75, .imul, 1), (76, .iload_n 2, 1), (77, .iadd, 1), (78, .imul, 1), (79, .aload_n 0, 1), (80, .getfield 95, 3), (83, .sipush 128, 3), (86, .iload_n 3, 1), (87, .imul, 1), (88, .invokestatic 190, 3), (91, .iinc 2 1, 3), (94, .goto (-92), 3), (97, .return_, 1)]
theorem tv_X12_join : Tv cX12_join tb_X12_join := by
  unfold Tv
  decide +kernel
def e_move_68_81_3  : Nat → RfT → Int32 → Int32 → Int32 → Option (RfT)
  | 0, _, _, _, _ => none
  | n + 1, R, x1, x3, x4 => if ((128 : Int32)) ≤ x4 then some R else ld (rA R 28) 131072 ((x1) + (x4)) (fun v35 => stR R 46 5120 ((x3) + (x4)) (vp_nar .byte v35) (fun R36 => e_move_68_81_3  n R36 x1 x3 (x4 + (1 : Int32))))
def e_move_68_81  (R : RfT) (a1 : Int32) (a3 : Int32) : Option (RfT) := e_move_68_81_3  fuL R a1 a3 ((0 : Int32))
set_option maxRecDepth 100000 in
set_option maxHeartbeats 4000000 in
theorem l_X12_move_68_81_3 (E : gE) (f0 : Nat → va_E) (sz : Nat) (QA : Nat → Prop) (hE : 94 ≤ gN E) : ∀ (n : Nat), ∀ (R : RfT) (x1 : Int32) (x3 : Int32) (x4 : Int32) (R9 : RfT) (hr : e_move_68_81_3  n R x1 x3 x4 = some R9) (f : Nat → va_E) (w : RW E f R) (hf : Fr RfK f0 f), G E (1, yX12_move, 5, none, sz, QA) cX12_move (gO E (1, yX12_move, 5, none, sz, QA) (fun v g => v = none ∧ RW E g R9 ∧ Fr RfK f0 g, fun _ _ => False)) 3 [(0, .ref (gAd E (68))), (1, .int (x1)), (2, .ref (gAd E (81))), (3, .int (x3)), (4, .int (x4))] [] f := by
  intro n
  induction n with
  | zero =>
    intro R x1 x3 x4 R9 hr f w hf
    cases hr
  | succ n ih =>
    intro R x1 x3 x4 R9 hr f w hf
    obtain ⟨az, sy, r0⟩ := w
    unfold e_move_68_81_3 at hr
    refine G.go tv_X12_move 2 8 [(0, .ref (gAd E (68))), (1, .int (x1)), (2, .ref (gAd E (81))), (3, .int (x3)), (4, .int (x4))] [.int ((128 : Int32)), .int (x4)] rfl ?_
    refine G.cmp_ge 29 (tbd tv_X12_move rfl) (by decide) (fun c8 => ?_) (fun c8 => ?_)
    · replace hr := ite_t c8 hr
      cases hr
      exact G.vret rfl ⟨rfl, ⟨_, _, r0⟩, hf⟩ (tbd tv_X12_move rfl)
    · replace hr := ite_f c8 hr
      refine G.go tv_X12_move 8 21 [(0, .ref (gAd E (68))), (1, .int (x1)), (2, .ref (gAd E (81))), (3, .int (x3)), (4, .int (x4))] [.int ((x1) + (x4)), .ref (gAd E (68)), .int ((x3) + (x4)), .ref (gAd E (81))] rfl ?_
      obtain ⟨v35, b35, e35, hr⟩ := ld_s hr
      refine G.baldE (68) (by omega) (r0.a28) b35 e35 (tbd tv_X12_move rfl) ?_
      obtain ⟨R36, b36, eR36, hr⟩ := stR_s hr
      refine G.bast (81) (by omega) (r0.a46) b36 (tbd tv_X12_move rfl) ?_
      refine G.gen (P := fun w9 => RfV E w9 (setSr (setS R36 42 az) sy) ∧ Fr RfK f0 w9) ⟨by rw [eR36]; exact r0.p46 _, Fr.up hf ⟨by decide, by decide⟩⟩ (fun u36 p36 => ?_)
      obtain ⟨r36, h36⟩ := p36
      refine G.go tv_X12_move 2 3 [(0, .ref (gAd E (68))), (1, .int (x1)), (2, .ref (gAd E (81))), (3, .int (x3)), (4, .int (x4 + (1 : Int32)))] [] rfl ?_
      refine G.less [(0, .ref (gAd E (68))), (1, .int (x1)), (2, .ref (gAd E (81))), (3, .int (x3)), (4, .int (x4 + (1 : Int32)))] [0, 1, 2, 3, 4] rfl ?_
      exact ih _ _ _ _ _ hr _ ⟨_, _, r36⟩ h36
set_option maxRecDepth 100000 in
set_option maxHeartbeats 4000000 in
theorem k_X12_move_68_81 (E : gE) (f : Nat → va_E) (hE : 94 ≤ gN E) (R : RfT) (w : RW E f R) (a1 : Int32) (a3 : Int32) (R9 : RfT) (hr : e_move_68_81 R a1 a3 = some R9) : Ct E 1 yX12_move cX12_move 5 none [.ref (gAd E (68)), .int (a1), .ref (gAd E (81)), .int (a3)] f (fun v g => v = none ∧ RW E g R9 ∧ Fr RfK f g, fun _ _ => False) := by
  obtain ⟨az, sy, r0⟩ := w
  refine Ct.of (by decide) (Nat.le_of_ble_eq_true rfl) (fun sz => ?_)
  refine G.eql [(0, .ref (gAd E (68))), (1, .int (a1)), (2, .ref (gAd E (81))), (3, .int (a3))] rfl ?_
  unfold e_move_68_81 at hr
  refine G.go tv_X12_move 2 3 [(0, .ref (gAd E (68))), (1, .int (a1)), (2, .ref (gAd E (81))), (3, .int (a3)), (4, .int ((0 : Int32)))] [] rfl ?_
  refine G.less [(0, .ref (gAd E (68))), (1, .int (a1)), (2, .ref (gAd E (81))), (3, .int (a3)), (4, .int ((0 : Int32)))] [0, 1, 2, 3, 4] rfl ?_
  exact l_X12_move_68_81_3 E f sz _ hE _ _ _ _ _ _ hr _ ⟨_, _, r0⟩ Fr.rf
def e_join_48  (self2 : RfT → Int32 → Int32 → Option (RfT)) (R : RfT) (x1 : Int32) (x2 : Int32) (x3 : Int32) : Option (RfT) := ld (rA R 27) 1024 ((((64 : Int32)) * (x1)) + (x2)) (fun v32 => stR R 45 40 x3 v32 (fun R33 => bnd (e_move_68_81 R33 (((128 : Int32)) * ((((64 : Int32)) * (x1)) + (x2))) (((128 : Int32)) * (x3))) (fun R34 => self2 R34 x1 (x2 + (1 : Int32)))))
def e_join_2  : Nat → RfT → Int32 → Int32 → Option (RfT)
  | 0, _, _, _ => none
  | n + 1, R, x1, x2 => ld (rA R 26) 16 x1 (fun v28 => if v28 ≤ x2 then some R else ld (rA R 27) 1024 ((((64 : Int32)) * (x1)) + (x2)) (fun v29 => bnd (e_batchAt R v29) (fun v30 => if v30 = ((-1 : Int32)) then ptR R 47 ((rS R 47) + ((1 : Int32))) (fun R31 => e_join_48  (e_join_2  n) R31 x1 x2 (rS R 47)) else e_join_48  (e_join_2  n) R x1 x2 v30)))
def e_join  (R : RfT) (a0 : Int32) : Option (RfT) := e_join_2  fuL R a0 ((0 : Int32))
set_option maxRecDepth 100000 in
set_option maxHeartbeats 4000000 in
theorem l_X12_join_48 (E : gE) (f0 : Nat → va_E) (sz : Nat) (QA : Nat → Prop) (hE : 94 ≤ gN E) (self2 : RfT → Int32 → Int32 → Option (RfT)) (hs2 : ∀ (R : RfT) (x1 : Int32) (x2 : Int32) (R9 : RfT) (hr : self2 R x1 x2 = some R9) (f : Nat → va_E) (w : RW E f R) (hf : Fr RfK f0 f), G E (2, yX12_join, 4, none, sz, QA) cX12_join (gO E (2, yX12_join, 4, none, sz, QA) (fun v g => v = none ∧ RW E g R9 ∧ Fr RfK f0 g, fun _ _ => False)) 2 [(0, .ref (gAd E (56))), (1, .int (x1)), (2, .int (x2))] [] f) : ∀ (R : RfT) (x1 : Int32) (x2 : Int32) (x3 : Int32) (R9 : RfT) (hr : e_join_48  self2 R x1 x2 x3 = some R9) (f : Nat → va_E) (w : RW E f R) (hf : Fr RfK f0 f), G E (2, yX12_join, 4, none, sz, QA) cX12_join (gO E (2, yX12_join, 4, none, sz, QA) (fun v g => v = none ∧ RW E g R9 ∧ Fr RfK f0 g, fun _ _ => False)) 48 [(0, .ref (gAd E (56))), (1, .int (x1)), (2, .int (x2)), (3, .int (x3))] [] f := by
  intro R x1 x2 x3 R9 hr f w hf
  obtain ⟨az, sy, r0⟩ := w
  unfold e_join_48 at hr
  refine G.go tv_X12_join 1 49 [(0, .ref (gAd E (56))), (1, .int (x1)), (2, .int (x2)), (3, .int (x3))] [.ref (gAd E (56))] rfl ?_
  refine G.rg r0 hE 45 (.ref (gAd E (80))) (by decide) rfl (tbd tv_X12_join rfl) w_2110 ?_
  refine G.go tv_X12_join 2 54 [(0, .ref (gAd E (56))), (1, .int (x1)), (2, .int (x2)), (3, .int (x3))] [.ref (gAd E (56)), .int (x3), .ref (gAd E (80))] rfl ?_
  refine G.rg r0 hE 27 (.ref (gAd E (67))) (by decide) rfl (tbd tv_X12_join rfl) w_2092 ?_
  refine G.go tv_X12_join 5 63 [(0, .ref (gAd E (56))), (1, .int (x1)), (2, .int (x2)), (3, .int (x3))] [.int ((((64 : Int32)) * (x1)) + (x2)), .ref (gAd E (67)), .int (x3), .ref (gAd E (80))] rfl ?_
  obtain ⟨v32, b32, e32, hr⟩ := ld_s hr
  refine G.ialdE (67) (by omega) (r0.a27) b32 e32 (tbd tv_X12_join rfl) ?_
  obtain ⟨R33, b33, eR33, hr⟩ := stR_s hr
  refine G.iast (80) (by omega) (r0.a45) b33 (tbd tv_X12_join rfl) ?_
  refine G.gen (P := fun w9 => RfV E w9 (setSr (setS R33 42 az) sy) ∧ Fr RfK f0 w9) ⟨by rw [eR33]; exact r0.p45 _, Fr.up hf ⟨by decide, by decide⟩⟩ (fun u33 p33 => ?_)
  obtain ⟨r33, h33⟩ := p33
  refine G.go tv_X12_join 1 66 [(0, .ref (gAd E (56))), (1, .int (x1)), (2, .int (x2)), (3, .int (x3))] [.ref (gAd E (56))] rfl ?_
  refine G.rg r33 hE 28 (.ref (gAd E (68))) (by decide) rfl (tbd tv_X12_join rfl) w_2093 ?_
  refine G.go tv_X12_join 8 80 [(0, .ref (gAd E (56))), (1, .int (x1)), (2, .int (x2)), (3, .int (x3))] [.ref (gAd E (56)), .int (((128 : Int32)) * ((((64 : Int32)) * (x1)) + (x2))), .ref (gAd E (68))] rfl ?_
  refine G.rg r33 hE 46 (.ref (gAd E (81))) (by decide) rfl (tbd tv_X12_join rfl) w_2111 ?_
  refine G.go tv_X12_join 3 88 [(0, .ref (gAd E (56))), (1, .int (x1)), (2, .int (x2)), (3, .int (x3))] [.int (((128 : Int32)) * (x3)), .ref (gAd E (81)), .int (((128 : Int32)) * ((((64 : Int32)) * (x1)) + (x2))), .ref (gAd E (68))] rfl ?_
  obtain ⟨R34, hv34, hr⟩ := bnd_s hr
  refine G.callS [.ref (gAd E (68)), .int (((128 : Int32)) * ((((64 : Int32)) * (x1)) + (x2))), .ref (gAd E (81)), .int (((128 : Int32)) * (x3))] [] (k_X12_move_68_81 E _ hE R33 ⟨_, _, r33⟩ (((128 : Int32)) * ((((64 : Int32)) * (x1)) + (x2))) (((128 : Int32)) * (x3)) R34 hv34) cw_X12_190 w_2307 (Nat.le_of_ble_eq_true rfl) rfl (Nat.le_of_ble_eq_true rfl) (tbd tv_X12_join rfl) (fun v34w f34 q34 => ?_) (fun _ _ h => h.elim)
  obtain ⟨rfl, ⟨az34, sy34, r34⟩, fa34⟩ := q34
  refine G.eqs [] rfl ?_
  refine G.go tv_X12_join 2 2 [(0, .ref (gAd E (56))), (1, .int (x1)), (2, .int (x2 + (1 : Int32))), (3, .int (x3))] [] rfl ?_
  refine G.less [(0, .ref (gAd E (56))), (1, .int (x1)), (2, .int (x2 + (1 : Int32)))] [0, 1, 2] rfl ?_
  exact hs2 _ _ _ _ hr _ ⟨_, _, r34⟩ (h33.tr fa34 (fun _ h => h))
set_option maxRecDepth 100000 in
set_option maxHeartbeats 4000000 in
theorem l_X12_join_2 (E : gE) (f0 : Nat → va_E) (sz : Nat) (QA : Nat → Prop) (hE : 94 ≤ gN E) : ∀ (n : Nat), ∀ (R : RfT) (x1 : Int32) (x2 : Int32) (R9 : RfT) (hr : e_join_2  n R x1 x2 = some R9) (f : Nat → va_E) (w : RW E f R) (hf : Fr RfK f0 f), G E (2, yX12_join, 4, none, sz, QA) cX12_join (gO E (2, yX12_join, 4, none, sz, QA) (fun v g => v = none ∧ RW E g R9 ∧ Fr RfK f0 g, fun _ _ => False)) 2 [(0, .ref (gAd E (56))), (1, .int (x1)), (2, .int (x2))] [] f := by
  intro n
  induction n with
  | zero =>
    intro R x1 x2 R9 hr f w hf
    cases hr
  | succ n ih =>
    intro R x1 x2 R9 hr f w hf
    obtain ⟨az, sy, r0⟩ := w
    unfold e_join_2 at hr
    refine G.go tv_X12_join 2 4 [(0, .ref (gAd E (56))), (1, .int (x1)), (2, .int (x2))] [.ref (gAd E (56)), .int (x2)] rfl ?_
    refine G.rg r0 hE 26 (.ref (gAd E (66))) (by decide) rfl (tbd tv_X12_join rfl) w_2091 ?_
    refine G.go tv_X12_join 1 8 [(0, .ref (gAd E (56))), (1, .int (x1)), (2, .int (x2))] [.int (x1), .ref (gAd E (66)), .int (x2)] rfl ?_
    obtain ⟨v28, b28, e28, hr⟩ := ld_s hr
    refine G.ialdE (66) (by omega) (r0.a26) b28 e28 (tbd tv_X12_join rfl) ?_
    refine G.cmp_ge 97 (tbd tv_X12_join rfl) (by decide) (fun c9 => ?_) (fun c9 => ?_)
    · replace hr := ite_t c9 hr
      cases hr
      exact G.vret rfl ⟨rfl, ⟨_, _, r0⟩, hf⟩ (tbd tv_X12_join rfl)
    · replace hr := ite_f c9 hr
      refine G.go tv_X12_join 2 14 [(0, .ref (gAd E (56))), (1, .int (x1)), (2, .int (x2))] [.ref (gAd E (56)), .ref (gAd E (56))] rfl ?_
      refine G.rg r0 hE 27 (.ref (gAd E (67))) (by decide) rfl (tbd tv_X12_join rfl) w_2092 ?_
      refine G.go tv_X12_join 5 23 [(0, .ref (gAd E (56))), (1, .int (x1)), (2, .int (x2))] [.int ((((64 : Int32)) * (x1)) + (x2)), .ref (gAd E (67)), .ref (gAd E (56))] rfl ?_
      obtain ⟨v29, b29, e29, hr⟩ := ld_s hr
      refine G.ialdE (67) (by omega) (r0.a27) b29 e29 (tbd tv_X12_join rfl) ?_
      obtain ⟨v30, hv30, hr⟩ := bnd_s hr
      refine G.callV (56) [.int (v29)] [] (k_X12_batchAt E _ hE R ⟨_, _, r0⟩ v29 v30 hv30) cls_X12 (by omega) (r0.o) cw_X12_265 w_2448 w_93 (Nat.le_of_ble_eq_true rfl) rfl (Nat.le_of_ble_eq_true rfl) (tbd tv_X12_join rfl) (fun v30w f30 q30 => ?_) (fun _ _ h => h.elim)
      obtain ⟨rfl, ⟨az30, sy30, r30⟩, fa30⟩ := q30
      refine G.eqs [.int (v30)] rfl ?_
      refine G.go tv_X12_join 3 30 [(0, .ref (gAd E (56))), (1, .int (x1)), (2, .int (x2)), (3, .int (v30))] [.int ((-1 : Int32)), .int (v30)] rfl ?_
      refine G.cmp_ne 48 (tbd tv_X12_join rfl) (by decide) (fun c30 => ?_) (fun c30 => ?_)
      · replace hr := ite_f c30 hr
        refine G.less [(0, .ref (gAd E (56))), (1, .int (x1)), (2, .int (x2)), (3, .int (v30))] [0, 1, 2, 3] rfl ?_
        exact l_X12_join_48 E f0 sz QA hE _ ih _ _ _ _ _ hr _ ⟨_, _, r30⟩ (hf.tr fa30 (fun _ h => h))
      · replace hr := ite_t c30 hr
        refine G.go tv_X12_join 1 34 [(0, .ref (gAd E (56))), (1, .int (x1)), (2, .int (x2)), (3, .int (v30))] [.ref (gAd E (56))] rfl ?_
        refine G.rg r30 hE 47 (.int (rS R 47)) (by decide) rfl (tbd tv_X12_join rfl) w_2112 ?_
        refine G.go tv_X12_join 3 40 [(0, .ref (gAd E (56))), (1, .int (x1)), (2, .int (x2)), (3, .int (rS R 47))] [.ref (gAd E (56)), .ref (gAd E (56))] rfl ?_
        refine G.rg r30 hE 47 (.int (rS R 47)) (by decide) rfl (tbd tv_X12_join rfl) w_2112 ?_
        refine G.go tv_X12_join 2 45 [(0, .ref (gAd E (56))), (1, .int (x1)), (2, .int (x2)), (3, .int (rS R 47))] [.int ((rS R 47) + ((1 : Int32))), .ref (gAd E (56))] rfl ?_
        obtain ⟨R31, eR31, hr⟩ := ptR_s hr
        refine G.rpW r30 hE 47 eR31 (by decide) rfl (by decide) rfl rfl rfl (tbd tv_X12_join rfl) w_2112 (fun u31 r31 h31 => ?_)
        refine G.less [(0, .ref (gAd E (56))), (1, .int (x1)), (2, .int (x2)), (3, .int (rS R 47))] [0, 1, 2, 3] rfl ?_
        exact l_X12_join_48 E f0 sz QA hE _ ih _ _ _ _ _ hr _ ⟨_, _, r31⟩ ((hf.tr fa30 (fun _ h => h)).tr h31 (fun _ h => h))
set_option maxRecDepth 100000 in
set_option maxHeartbeats 4000000 in
theorem k_X12_join (E : gE) (f : Nat → va_E) (hE : 94 ≤ gN E) (R : RfT) (w : RW E f R) (a0 : Int32) (R9 : RfT) (hr : e_join R a0 = some R9) : Ct E 2 yX12_join cX12_join 4 none [.ref (gAd E (56)), .int (a0)] f (fun v g => v = none ∧ RW E g R9 ∧ Fr RfK f g, fun _ _ => False) := by
  obtain ⟨az, sy, r0⟩ := w
  refine Ct.of (by decide) (Nat.le_of_ble_eq_true rfl) (fun sz => ?_)
  refine G.eql [(0, .ref (gAd E (56))), (1, .int (a0))] rfl ?_
  unfold e_join at hr
  refine G.go tv_X12_join 2 2 [(0, .ref (gAd E (56))), (1, .int (a0)), (2, .int ((0 : Int32)))] [] rfl ?_
  refine G.less [(0, .ref (gAd E (56))), (1, .int (a0)), (2, .int ((0 : Int32)))] [0, 1, 2] rfl ?_
  exact l_X12_join_2 E f sz _ hE _ _ _ _ _ hr _ ⟨_, _, r0⟩ Fr.rf
def tb_X12_writeBatch : List (Nat × Instr × Nat) := [(0, .aload_n 0, 1), (1, .getfield 162, 3), (4, .aload_n 0, 1), (5, .getfield 262, 3), (8, .iadd, 1), (9, .bipush 40, 2), (11, .if_icmp .le 7, 3), (14, .aload_n 0, 1), (15, .invokevirtual 268, 3), (18, .iconst 0, 1), (19, .istore_n 1, 1), (20, .iload_n 1, 1), (21, .aload_n 0, 1), (22, .getfield 262, 3), (25, .if_icmp .ge 160, 3), (28, .aload_n 0, 1), (29, .getfield 25, 3), (32, .ifCond .eq 153, 3), (35, .iconst (-1), 1), (36, .istore_n 2, 1), (37, .iconst 0, 1), (38, .istore_n 3, 1), (39, .iload_n 3, 1), (40, .aload_n 0, 1), (41, .getfield 262, 3), (44, .if_icmp .ge 45, 3), (47, .aload_n 0, 1), (48, .getfield 92, 3), (51, .iload_n 3, 1), (52, .iaload, 1), (53, .iconst (-1), 1), (54, .if_icmp .eq 27, 3), (57, .iload_n 2, 1), (58, .iconst (-1), 1), (59, .if_icmp .eq 18, 3), (62, .aload_n 0, 1), (63, .getfield 92, 3), (66, .iload_n 3, 1), (67, .iaload, 1), (68, .aload_n 0, 1), (69, .getfield 92, 3), (72, .iload_n 2, 1), (73, .iaload, 1), (74, .if_icmp .ge 7, 3), (77, .iload_n 3, 1), (78, .goto 4, 3), (81, .iload_n 2, 1), (82, .istore_n 2, 1), (83, .iinc 3 1, 3), (86, .goto (-47), 3), (89, .aload_n 0, 1), (90, .getfield 43, 3), (93, .aload_n 0, 1), (94, .getfield 162, 3), (97, .aload_n 0, 1), (98, .getfield 92, 3), (101, .iload_n 2, 1), (102, .iaload, 1), (103, .iastore, 1), (104, .aload_n 0, 1), (105, .getfield 77, 3), (108, .aload_n 0, 1), (109, .getfield 92, 3), (112, .iload_n 2, 1), (113, .iaload, 1), (114, .aload_n 0, 1), (115, .getfield 162, 3), (118, .iastore, 1), (119, .aload_n 0, 1), (120, .getfield 95, 3), (123, .sipush 128, 3), (126, .iload_n 2, 1), (127, .imul, 1), (128, .aload_n 0, 1), (129, .getfield 46, 3), (132, .sipush 128, 3), (135, .aload_n 0, 1), (136, .getfield 162, 3), (139, .imul, 1), (140, .invokestatic 190, 3), (143, .aload_n 0, 1), (144, .iconst 3, 1), (145, .aload_n 0, 1), (146, .getfield 162, 3), (149, .iadd, 1), (150, .aload_n 0, 1), (151, .getfield 95, 3), (154, .sipush 128, 3), (157, .iload_n 2, 1), (158, .imul, 1), (159, .invokevirtual 252, 3), (162, .aload_n 0, 1), (163, .dup, 1), (164, .getfield 162, 3), (167, .iconst 1, 1), (168, .iadd, 1), (169, .putfield 162, 3), (172, .aload_n 0, 1), (173, .getfield 92, 3), (176, .iload_n 2, 1), (177, .iconst (-1), 1), (178, .iastore, 1), (179, .iinc 1 1, 3), (182, .goto (-162), 3), (185, .aload_n 0, 1), (186, .getfield 25, 3), (189, .ifCond .ne 4, 3), (192, .return_, 1), (193, .aload_n 0, 1), (194, .invokevirtual 249, 3), (197, .iconst 0, 1), (198, .istore_n 1, 1), (199, .iload_n 1, 1), (200, .aload_n 0, 1), (201, .getfield 162, 3), (204, .if_icmp .ge 26, 3), (207, .aload_n 0, 1), (208, .getfield 89, 3), (211, .iconst 2, 1), (212, .iload_n 1, 1), (213, .imul, 1), (214, .iconst 2, 1), (215, .aload_n 0, 1), (216, .getfield 43, 3), (219, .iload_n 1, 1), (220, .iaload, 1), (221, .invokestatic 242, 3), (224, .iinc 1 1, 3), (227, .goto (-28), 3), (230, .aload_n 0, 1), (231, .iconst 2, 1), (232, .aload_n 0, 1), (233, .getfield 89, 3), (236, .iconst 0, 1), (237, .invokevirtual 252, 3), (240, .aload_n 0, 1), (241, .invokevirtual 255, 3), (244, .aload_n 0, 1), (245, .getfield 25, 3), (248, .ifCond .ne 4, 3), (251, .return_, 1), (252, .aload_n 0, 1), (253, .aload_n 0, 1), (254, .getfield 162, 3), (257, .aload_n 0, 1), (258, .getfield 246, 3), (261, .iconst 1, 1), (262, .iadd, 1), (263, .invokevirtual 258, 3), (266, .aload_n 0, 1), (267, .invokevirtual 255, 3), (270, .return_, 1)]
theorem tv_X12_writeBatch : Tv cX12_writeBatch tb_X12_writeBatch := by
  unfold Tv
  decide +kernel
theorem w_2355 : Cond.methodLink "LedgerFilesModel" 268 yX12_applyLog ∈ TB := tp_10 49 (by decide +kernel) rfl
theorem w_2358 : Cond.code yX12_applyLog prog_14_method_29_code 2 none ∈ TB := tp_10 52 rfl rfl
theorem cw_X12_268 : Cw RX12 268 yX12_applyLog cX12_applyLog 2 none 0 := ⟨w_2355, w_2358, w_161, by decide +kernel, by decide +kernel, by decide⟩
theorem w_2357 : Cond.instanceMethod yX12_applyLog ∈ TB := tp_10 51 (by decide +kernel) rfl
theorem w_71 : Cond.selects "LedgerFilesModel" yX12_applyLog yX12_applyLog ∈ TB := tp_0 71 (by decide +kernel) rfl
def e_move_81_65_3  : Nat → RfT → Int32 → Int32 → Int32 → Option (RfT)
  | 0, _, _, _, _ => none
  | n + 1, R, x1, x3, x4 => if ((128 : Int32)) ≤ x4 then some R else ld (rA R 46) 5120 ((x1) + (x4)) (fun v51 => stR R 24 5120 ((x3) + (x4)) (vp_nar .byte v51) (fun R52 => e_move_81_65_3  n R52 x1 x3 (x4 + (1 : Int32))))
def e_move_81_65  (R : RfT) (a1 : Int32) (a3 : Int32) : Option (RfT) := e_move_81_65_3  fuL R a1 a3 ((0 : Int32))
set_option maxRecDepth 100000 in
set_option maxHeartbeats 4000000 in
theorem l_X12_move_81_65_3 (E : gE) (f0 : Nat → va_E) (sz : Nat) (QA : Nat → Prop) (hE : 94 ≤ gN E) : ∀ (n : Nat), ∀ (R : RfT) (x1 : Int32) (x3 : Int32) (x4 : Int32) (R9 : RfT) (hr : e_move_81_65_3  n R x1 x3 x4 = some R9) (f : Nat → va_E) (w : RW E f R) (hf : Fr RfK f0 f), G E (1, yX12_move, 5, none, sz, QA) cX12_move (gO E (1, yX12_move, 5, none, sz, QA) (fun v g => v = none ∧ RW E g R9 ∧ Fr RfK f0 g, fun _ _ => False)) 3 [(0, .ref (gAd E (81))), (1, .int (x1)), (2, .ref (gAd E (65))), (3, .int (x3)), (4, .int (x4))] [] f := by
  intro n
  induction n with
  | zero =>
    intro R x1 x3 x4 R9 hr f w hf
    cases hr
  | succ n ih =>
    intro R x1 x3 x4 R9 hr f w hf
    obtain ⟨az, sy, r0⟩ := w
    unfold e_move_81_65_3 at hr
    refine G.go tv_X12_move 2 8 [(0, .ref (gAd E (81))), (1, .int (x1)), (2, .ref (gAd E (65))), (3, .int (x3)), (4, .int (x4))] [.int ((128 : Int32)), .int (x4)] rfl ?_
    refine G.cmp_ge 29 (tbd tv_X12_move rfl) (by decide) (fun c8 => ?_) (fun c8 => ?_)
    · replace hr := ite_t c8 hr
      cases hr
      exact G.vret rfl ⟨rfl, ⟨_, _, r0⟩, hf⟩ (tbd tv_X12_move rfl)
    · replace hr := ite_f c8 hr
      refine G.go tv_X12_move 8 21 [(0, .ref (gAd E (81))), (1, .int (x1)), (2, .ref (gAd E (65))), (3, .int (x3)), (4, .int (x4))] [.int ((x1) + (x4)), .ref (gAd E (81)), .int ((x3) + (x4)), .ref (gAd E (65))] rfl ?_
      obtain ⟨v51, b51, e51, hr⟩ := ld_s hr
      refine G.baldE (81) (by omega) (r0.a46) b51 e51 (tbd tv_X12_move rfl) ?_
      obtain ⟨R52, b52, eR52, hr⟩ := stR_s hr
      refine G.bast (65) (by omega) (r0.a24) b52 (tbd tv_X12_move rfl) ?_
      refine G.gen (P := fun w9 => RfV E w9 (setSr (setS R52 42 az) sy) ∧ Fr RfK f0 w9) ⟨by rw [eR52]; exact r0.p24 _, Fr.up hf ⟨by decide, by decide⟩⟩ (fun u52 p52 => ?_)
      obtain ⟨r52, h52⟩ := p52
      refine G.go tv_X12_move 2 3 [(0, .ref (gAd E (81))), (1, .int (x1)), (2, .ref (gAd E (65))), (3, .int (x3)), (4, .int (x4 + (1 : Int32)))] [] rfl ?_
      refine G.less [(0, .ref (gAd E (81))), (1, .int (x1)), (2, .ref (gAd E (65))), (3, .int (x3)), (4, .int (x4 + (1 : Int32)))] [0, 1, 2, 3, 4] rfl ?_
      exact ih _ _ _ _ _ hr _ ⟨_, _, r52⟩ h52
set_option maxRecDepth 100000 in
set_option maxHeartbeats 4000000 in
theorem k_X12_move_81_65 (E : gE) (f : Nat → va_E) (hE : 94 ≤ gN E) (R : RfT) (w : RW E f R) (a1 : Int32) (a3 : Int32) (R9 : RfT) (hr : e_move_81_65 R a1 a3 = some R9) : Ct E 1 yX12_move cX12_move 5 none [.ref (gAd E (81)), .int (a1), .ref (gAd E (65)), .int (a3)] f (fun v g => v = none ∧ RW E g R9 ∧ Fr RfK f g, fun _ _ => False) := by
  obtain ⟨az, sy, r0⟩ := w
  refine Ct.of (by decide) (Nat.le_of_ble_eq_true rfl) (fun sz => ?_)
  refine G.eql [(0, .ref (gAd E (81))), (1, .int (a1)), (2, .ref (gAd E (65))), (3, .int (a3))] rfl ?_
  unfold e_move_81_65 at hr
  refine G.go tv_X12_move 2 3 [(0, .ref (gAd E (81))), (1, .int (a1)), (2, .ref (gAd E (65))), (3, .int (a3)), (4, .int ((0 : Int32)))] [] rfl ?_
  refine G.less [(0, .ref (gAd E (81))), (1, .int (a1)), (2, .ref (gAd E (65))), (3, .int (a3)), (4, .int ((0 : Int32)))] [0, 1, 2, 3, 4] rfl ?_
  exact l_X12_move_81_65_3 E f sz _ hE _ _ _ _ _ _ hr _ ⟨_, _, r0⟩ Fr.rf
noncomputable def e_writeBatch_199  : Nat → RfT → Int32 → Option (RfT)
  | 0, _, _ => none
  | n + 1, R, x1 => if (rS R 25) ≤ x1 then bnd (e_hand_79 R ((2 : Int32)) ((0 : Int32))) (fun R40 => bnd (e_settle R40) (fun R41 => if (rS R41 11) = 0 then some R41 else bnd (e_putHead R41 (rS R41 25) ((rS R41 22) + ((1 : Int32)))) (fun R42 => bnd (e_settle R42) (fun R43 => some R43)))) else ld (rA R 23) 40 x1 (fun v44 => bnd (e_set_79 R (((2 : Int32)) * (x1)) ((2 : Int32)) v44) (fun R45 => e_writeBatch_199  n R45 (x1 + (1 : Int32))))
noncomputable def e_writeBatch_39  (self20 : RfT → Int32 → Option (RfT)) : Nat → RfT → Int32 → Int32 → Int32 → Option (RfT)
  | 0, _, _, _, _ => none
  | n + 1, R, x1, x2, x3 => if (rS R 47) ≤ x3 then ld (rA R 45) 40 x2 (fun v46 => stR R 23 40 (rS R 25) v46 (fun R47 => ld (rA R47 45) 40 x2 (fun v48 => stR R47 38 1024 v48 (rS R47 25) (fun R49 => bnd (e_move_81_65 R49 (((128 : Int32)) * (x2)) (((128 : Int32)) * (rS R49 25))) (fun R50 => bnd (e_hand_81 R50 (((3 : Int32)) + (rS R50 25)) (((128 : Int32)) * (x2))) (fun R53 => ptR R53 25 ((rS R53 25) + ((1 : Int32))) (fun R54 => stR R54 45 40 x2 ((-1 : Int32)) (fun R55 => self20 R55 (x1 + (1 : Int32)))))))))) else ld (rA R 45) 40 x3 (fun v56 => if v56 = ((-1 : Int32)) then e_writeBatch_39  self20 n R x1 x2 (x3 + (1 : Int32)) else if x2 = ((-1 : Int32)) then e_writeBatch_39  self20 n R x1 x3 (x3 + (1 : Int32)) else ld (rA R 45) 40 x3 (fun v57 => ld (rA R 45) 40 x2 (fun v58 => if v58 ≤ v57 then e_writeBatch_39  self20 n R x1 x2 (x3 + (1 : Int32)) else e_writeBatch_39  self20 n R x1 x3 (x3 + (1 : Int32)))))
noncomputable def e_writeBatch_20  : Nat → RfT → Int32 → Option (RfT)
  | 0, _, _ => none
  | n + 1, R, x1 => if (rS R 47) ≤ x1 then if (rS R 11) = 0 then some R else bnd (e_empty R) (fun R38 => e_writeBatch_199  fuL R38 ((0 : Int32))) else if (rS R 11) = 0 then if (rS R 11) = 0 then some R else bnd (e_empty R) (fun R39 => e_writeBatch_199  fuL R39 ((0 : Int32))) else e_writeBatch_39  (e_writeBatch_20  n) fuL R x1 ((-1 : Int32)) ((0 : Int32))
noncomputable def e_writeBatch  (R : RfT) : Option (RfT) := if ((rS R 25) + (rS R 47)) ≤ ((40 : Int32)) then e_writeBatch_20  fuL R ((0 : Int32)) else bnd (e_applyLog R) (fun R37 => e_writeBatch_20  fuL R37 ((0 : Int32)))
set_option maxRecDepth 100000 in
set_option maxHeartbeats 4000000 in
theorem l_X12_writeBatch_199 (E : gE) (f0 : Nat → va_E) (sz : Nat) (QA : Nat → Prop) (hE : 94 ≤ gN E) : ∀ (n : Nat), ∀ (R : RfT) (x1 : Int32) (R9 : RfT) (hr : e_writeBatch_199  n R x1 = some R9) (f : Nat → va_E) (w : RW E f R) (hf : Fr RfK f0 f), G E (8, yX12_writeBatch, 4, none, sz, QA) cX12_writeBatch (gO E (8, yX12_writeBatch, 4, none, sz, QA) (fun v g => v = none ∧ RW E g R9 ∧ Fr RfK f0 g, fun _ _ => False)) 199 [(0, .ref (gAd E (56))), (1, .int (x1))] [] f := by
  intro n
  induction n with
  | zero =>
    intro R x1 R9 hr f w hf
    cases hr
  | succ n ih =>
    intro R x1 R9 hr f w hf
    obtain ⟨az, sy, r0⟩ := w
    unfold e_writeBatch_199 at hr
    refine G.go tv_X12_writeBatch 2 201 [(0, .ref (gAd E (56))), (1, .int (x1))] [.ref (gAd E (56)), .int (x1)] rfl ?_
    refine G.rg r0 hE 25 (.int (rS R 25)) (by decide) rfl (tbd tv_X12_writeBatch rfl) w_2090 ?_
    refine G.cmp_ge 230 (tbd tv_X12_writeBatch rfl) (by decide) (fun c204 => ?_) (fun c204 => ?_)
    · replace hr := ite_t c204 hr
      refine G.go tv_X12_writeBatch 3 233 [(0, .ref (gAd E (56))), (1, .int (x1))] [.ref (gAd E (56)), .int ((2 : Int32)), .ref (gAd E (56))] rfl ?_
      refine G.rg r0 hE 44 (.ref (gAd E (79))) (by decide) rfl (tbd tv_X12_writeBatch rfl) w_2109 ?_
      refine G.go tv_X12_writeBatch 1 237 [(0, .ref (gAd E (56))), (1, .int (x1))] [.int ((0 : Int32)), .ref (gAd E (79)), .int ((2 : Int32)), .ref (gAd E (56))] rfl ?_
      obtain ⟨R40, hv40, hr⟩ := bnd_s hr
      refine G.callV (56) [.int ((2 : Int32)), .ref (gAd E (79)), .int ((0 : Int32))] [] (k_X12_hand_79 E _ hE R ⟨_, _, r0⟩ ((2 : Int32)) ((0 : Int32)) R40 hv40) cls_X12 (by omega) (r0.o) cw_X12_252 w_2280 w_56 (Nat.le_of_ble_eq_true rfl) rfl (Nat.le_of_ble_eq_true rfl) (tbd tv_X12_writeBatch rfl) (fun v40w f40 q40 => ?_) (fun _ _ h => h.elim)
      obtain ⟨rfl, ⟨az40, sy40, r40⟩, fa40⟩ := q40
      refine G.eqs [] rfl ?_
      refine G.go tv_X12_writeBatch 1 241 [(0, .ref (gAd E (56))), (1, .int (x1))] [.ref (gAd E (56))] rfl ?_
      obtain ⟨R41, hv41, hr⟩ := bnd_s hr
      refine G.callV (56) [] [] (k_X12_settle E _ hE R40 ⟨_, _, r40⟩ R41 hv41) cls_X12 (by omega) (r40.o) cw_X12_255 w_2315 w_64 (Nat.le_of_ble_eq_true rfl) rfl (Nat.le_of_ble_eq_true rfl) (tbd tv_X12_writeBatch rfl) (fun v41w f41 q41 => ?_) (fun _ _ h => h.elim)
      obtain ⟨rfl, ⟨az41, sy41, r41⟩, fa41⟩ := q41
      refine G.eqs [] rfl ?_
      refine G.go tv_X12_writeBatch 1 245 [(0, .ref (gAd E (56))), (1, .int (x1))] [.ref (gAd E (56))] rfl ?_
      refine G.rg r41 hE 11 (.int (rS R41 11)) (by decide) rfl (tbd tv_X12_writeBatch rfl) w_2076 ?_
      refine G.if_ne 252 (tbd tv_X12_writeBatch rfl) (by decide) (fun c248 => ?_) (fun c248 => ?_)
      · replace hr := ite_f c248 hr
        refine G.go tv_X12_writeBatch 2 254 [(0, .ref (gAd E (56))), (1, .int (x1))] [.ref (gAd E (56)), .ref (gAd E (56))] rfl ?_
        refine G.rg r41 hE 25 (.int (rS R41 25)) (by decide) rfl (tbd tv_X12_writeBatch rfl) w_2090 ?_
        refine G.go tv_X12_writeBatch 1 258 [(0, .ref (gAd E (56))), (1, .int (x1))] [.ref (gAd E (56)), .int (rS R41 25), .ref (gAd E (56))] rfl ?_
        refine G.rg r41 hE 22 (.int (rS R41 22)) (by decide) rfl (tbd tv_X12_writeBatch rfl) w_2087 ?_
        refine G.go tv_X12_writeBatch 2 263 [(0, .ref (gAd E (56))), (1, .int (x1))] [.int ((rS R41 22) + ((1 : Int32))), .int (rS R41 25), .ref (gAd E (56))] rfl ?_
        obtain ⟨R42, hv42, hr⟩ := bnd_s hr
        refine G.callV (56) [.int (rS R41 25), .int ((rS R41 22) + ((1 : Int32)))] [] (k_X12_putHead E _ hE R41 ⟨_, _, r41⟩ (rS R41 25) ((rS R41 22) + ((1 : Int32))) R42 hv42) cls_X12 (by omega) (r41.o) cw_X12_258 w_2327 w_67 (Nat.le_of_ble_eq_true rfl) rfl (Nat.le_of_ble_eq_true rfl) (tbd tv_X12_writeBatch rfl) (fun v42w f42 q42 => ?_) (fun _ _ h => h.elim)
        obtain ⟨rfl, ⟨az42, sy42, r42⟩, fa42⟩ := q42
        refine G.eqs [] rfl ?_
        refine G.go tv_X12_writeBatch 1 267 [(0, .ref (gAd E (56))), (1, .int (x1))] [.ref (gAd E (56))] rfl ?_
        obtain ⟨R43, hv43, hr⟩ := bnd_s hr
        refine G.callV (56) [] [] (k_X12_settle E _ hE R42 ⟨_, _, r42⟩ R43 hv43) cls_X12 (by omega) (r42.o) cw_X12_255 w_2315 w_64 (Nat.le_of_ble_eq_true rfl) rfl (Nat.le_of_ble_eq_true rfl) (tbd tv_X12_writeBatch rfl) (fun v43w f43 q43 => ?_) (fun _ _ h => h.elim)
        obtain ⟨rfl, ⟨az43, sy43, r43⟩, fa43⟩ := q43
        refine G.eqs [] rfl ?_
        cases hr
        exact G.vret rfl ⟨rfl, ⟨_, _, r43⟩, ((((hf.tr fa40 (fun _ h => h)).tr fa41 (fun _ h => h)).tr fa42 (fun _ h => h)).tr fa43 (fun _ h => h))⟩ (tbd tv_X12_writeBatch rfl)
      · replace hr := ite_t c248 hr
        cases hr
        exact G.vret rfl ⟨rfl, ⟨_, _, r41⟩, ((hf.tr fa40 (fun _ h => h)).tr fa41 (fun _ h => h))⟩ (tbd tv_X12_writeBatch rfl)
    · replace hr := ite_f c204 hr
      refine G.go tv_X12_writeBatch 1 208 [(0, .ref (gAd E (56))), (1, .int (x1))] [.ref (gAd E (56))] rfl ?_
      refine G.rg r0 hE 44 (.ref (gAd E (79))) (by decide) rfl (tbd tv_X12_writeBatch rfl) w_2109 ?_
      refine G.go tv_X12_writeBatch 5 216 [(0, .ref (gAd E (56))), (1, .int (x1))] [.ref (gAd E (56)), .int ((2 : Int32)), .int (((2 : Int32)) * (x1)), .ref (gAd E (79))] rfl ?_
      refine G.rg r0 hE 23 (.ref (gAd E (64))) (by decide) rfl (tbd tv_X12_writeBatch rfl) w_2088 ?_
      refine G.go tv_X12_writeBatch 1 220 [(0, .ref (gAd E (56))), (1, .int (x1))] [.int (x1), .ref (gAd E (64)), .int ((2 : Int32)), .int (((2 : Int32)) * (x1)), .ref (gAd E (79))] rfl ?_
      obtain ⟨v44, b44, e44, hr⟩ := ld_s hr
      refine G.ialdE (64) (by omega) (r0.a23) b44 e44 (tbd tv_X12_writeBatch rfl) ?_
      obtain ⟨R45, hv45, hr⟩ := bnd_s hr
      refine G.callS [.ref (gAd E (79)), .int (((2 : Int32)) * (x1)), .int ((2 : Int32)), .int (v44)] [] (k_X12_set_79 E _ hE R ⟨_, _, r0⟩ (((2 : Int32)) * (x1)) ((2 : Int32)) v44 R45 hv45) cw_X12_242 w_2330 (Nat.le_of_ble_eq_true rfl) rfl (Nat.le_of_ble_eq_true rfl) (tbd tv_X12_writeBatch rfl) (fun v45w f45 q45 => ?_) (fun _ _ h => h.elim)
      obtain ⟨rfl, ⟨az45, sy45, r45⟩, fa45⟩ := q45
      refine G.eqs [] rfl ?_
      refine G.go tv_X12_writeBatch 2 199 [(0, .ref (gAd E (56))), (1, .int (x1 + (1 : Int32)))] [] rfl ?_
      refine G.less [(0, .ref (gAd E (56))), (1, .int (x1 + (1 : Int32)))] [0, 1] rfl ?_
      exact ih _ _ _ hr _ ⟨_, _, r45⟩ (hf.tr fa45 (fun _ h => h))
set_option maxRecDepth 100000 in
set_option maxHeartbeats 4000000 in
theorem l_X12_writeBatch_39 (E : gE) (f0 : Nat → va_E) (sz : Nat) (QA : Nat → Prop) (hE : 94 ≤ gN E) (self20 : RfT → Int32 → Option (RfT)) (hs20 : ∀ (R : RfT) (x1 : Int32) (R9 : RfT) (hr : self20 R x1 = some R9) (f : Nat → va_E) (w : RW E f R) (hf : Fr RfK f0 f), G E (8, yX12_writeBatch, 4, none, sz, QA) cX12_writeBatch (gO E (8, yX12_writeBatch, 4, none, sz, QA) (fun v g => v = none ∧ RW E g R9 ∧ Fr RfK f0 g, fun _ _ => False)) 20 [(0, .ref (gAd E (56))), (1, .int (x1))] [] f) : ∀ (n : Nat), ∀ (R : RfT) (x1 : Int32) (x2 : Int32) (x3 : Int32) (R9 : RfT) (hr : e_writeBatch_39  self20 n R x1 x2 x3 = some R9) (f : Nat → va_E) (w : RW E f R) (hf : Fr RfK f0 f), G E (8, yX12_writeBatch, 4, none, sz, QA) cX12_writeBatch (gO E (8, yX12_writeBatch, 4, none, sz, QA) (fun v g => v = none ∧ RW E g R9 ∧ Fr RfK f0 g, fun _ _ => False)) 39 [(0, .ref (gAd E (56))), (1, .int (x1)), (2, .int (x2)), (3, .int (x3))] [] f := by
  intro n
  induction n with
  | zero =>
    intro R x1 x2 x3 R9 hr f w hf
    cases hr
  | succ n ih =>
    intro R x1 x2 x3 R9 hr f w hf
    obtain ⟨az, sy, r0⟩ := w
    unfold e_writeBatch_39 at hr
    refine G.go tv_X12_writeBatch 2 41 [(0, .ref (gAd E (56))), (1, .int (x1)), (2, .int (x2)), (3, .int (x3))] [.ref (gAd E (56)), .int (x3)] rfl ?_
    refine G.rg r0 hE 47 (.int (rS R 47)) (by decide) rfl (tbd tv_X12_writeBatch rfl) w_2112 ?_
    refine G.cmp_ge 89 (tbd tv_X12_writeBatch rfl) (by decide) (fun c44 => ?_) (fun c44 => ?_)
    · replace hr := ite_t c44 hr
      refine G.go tv_X12_writeBatch 1 90 [(0, .ref (gAd E (56))), (1, .int (x1)), (2, .int (x2)), (3, .int (x3))] [.ref (gAd E (56))] rfl ?_
      refine G.rg r0 hE 23 (.ref (gAd E (64))) (by decide) rfl (tbd tv_X12_writeBatch rfl) w_2088 ?_
      refine G.go tv_X12_writeBatch 1 94 [(0, .ref (gAd E (56))), (1, .int (x1)), (2, .int (x2)), (3, .int (x3))] [.ref (gAd E (56)), .ref (gAd E (64))] rfl ?_
      refine G.rg r0 hE 25 (.int (rS R 25)) (by decide) rfl (tbd tv_X12_writeBatch rfl) w_2090 ?_
      refine G.go tv_X12_writeBatch 1 98 [(0, .ref (gAd E (56))), (1, .int (x1)), (2, .int (x2)), (3, .int (x3))] [.ref (gAd E (56)), .int (rS R 25), .ref (gAd E (64))] rfl ?_
      refine G.rg r0 hE 45 (.ref (gAd E (80))) (by decide) rfl (tbd tv_X12_writeBatch rfl) w_2110 ?_
      refine G.go tv_X12_writeBatch 1 102 [(0, .ref (gAd E (56))), (1, .int (x1)), (2, .int (x2)), (3, .int (x3))] [.int (x2), .ref (gAd E (80)), .int (rS R 25), .ref (gAd E (64))] rfl ?_
      obtain ⟨v46, b46, e46, hr⟩ := ld_s hr
      refine G.ialdE (80) (by omega) (r0.a45) b46 e46 (tbd tv_X12_writeBatch rfl) ?_
      obtain ⟨R47, b47, eR47, hr⟩ := stR_s hr
      refine G.iast (64) (by omega) (r0.a23) b47 (tbd tv_X12_writeBatch rfl) ?_
      refine G.gen (P := fun w9 => RfV E w9 (setSr (setS R47 42 az) sy) ∧ Fr RfK f0 w9) ⟨by rw [eR47]; exact r0.p23 _, Fr.up hf ⟨by decide, by decide⟩⟩ (fun u47 p47 => ?_)
      obtain ⟨r47, h47⟩ := p47
      refine G.go tv_X12_writeBatch 1 105 [(0, .ref (gAd E (56))), (1, .int (x1)), (2, .int (x2)), (3, .int (x3))] [.ref (gAd E (56))] rfl ?_
      refine G.rg r47 hE 38 (.ref (gAd E (75))) (by decide) rfl (tbd tv_X12_writeBatch rfl) w_2103 ?_
      refine G.go tv_X12_writeBatch 1 109 [(0, .ref (gAd E (56))), (1, .int (x1)), (2, .int (x2)), (3, .int (x3))] [.ref (gAd E (56)), .ref (gAd E (75))] rfl ?_
      refine G.rg r47 hE 45 (.ref (gAd E (80))) (by decide) rfl (tbd tv_X12_writeBatch rfl) w_2110 ?_
      refine G.go tv_X12_writeBatch 1 113 [(0, .ref (gAd E (56))), (1, .int (x1)), (2, .int (x2)), (3, .int (x3))] [.int (x2), .ref (gAd E (80)), .ref (gAd E (75))] rfl ?_
      obtain ⟨v48, b48, e48, hr⟩ := ld_s hr
      refine G.ialdE (80) (by omega) (r47.a45) b48 e48 (tbd tv_X12_writeBatch rfl) ?_
      refine G.go tv_X12_writeBatch 1 115 [(0, .ref (gAd E (56))), (1, .int (x1)), (2, .int (x2)), (3, .int (x3))] [.ref (gAd E (56)), .int (v48), .ref (gAd E (75))] rfl ?_
      refine G.rg r47 hE 25 (.int (rS R47 25)) (by decide) rfl (tbd tv_X12_writeBatch rfl) w_2090 ?_
      obtain ⟨R49, b49, eR49, hr⟩ := stR_s hr
      refine G.iast (75) (by omega) (r47.a38) b49 (tbd tv_X12_writeBatch rfl) ?_
      refine G.gen (P := fun w9 => RfV E w9 (setSr (setS R49 42 az) sy) ∧ Fr RfK f0 w9) ⟨by rw [eR49]; exact r47.p38 _, Fr.up h47 ⟨by decide, by decide⟩⟩ (fun u49 p49 => ?_)
      obtain ⟨r49, h49⟩ := p49
      refine G.go tv_X12_writeBatch 1 120 [(0, .ref (gAd E (56))), (1, .int (x1)), (2, .int (x2)), (3, .int (x3))] [.ref (gAd E (56))] rfl ?_
      refine G.rg r49 hE 46 (.ref (gAd E (81))) (by decide) rfl (tbd tv_X12_writeBatch rfl) w_2111 ?_
      refine G.go tv_X12_writeBatch 4 129 [(0, .ref (gAd E (56))), (1, .int (x1)), (2, .int (x2)), (3, .int (x3))] [.ref (gAd E (56)), .int (((128 : Int32)) * (x2)), .ref (gAd E (81))] rfl ?_
      refine G.rg r49 hE 24 (.ref (gAd E (65))) (by decide) rfl (tbd tv_X12_writeBatch rfl) w_2089 ?_
      refine G.go tv_X12_writeBatch 2 136 [(0, .ref (gAd E (56))), (1, .int (x1)), (2, .int (x2)), (3, .int (x3))] [.ref (gAd E (56)), .int ((128 : Int32)), .ref (gAd E (65)), .int (((128 : Int32)) * (x2)), .ref (gAd E (81))] rfl ?_
      refine G.rg r49 hE 25 (.int (rS R49 25)) (by decide) rfl (tbd tv_X12_writeBatch rfl) w_2090 ?_
      refine G.go tv_X12_writeBatch 1 140 [(0, .ref (gAd E (56))), (1, .int (x1)), (2, .int (x2)), (3, .int (x3))] [.int (((128 : Int32)) * (rS R49 25)), .ref (gAd E (65)), .int (((128 : Int32)) * (x2)), .ref (gAd E (81))] rfl ?_
      obtain ⟨R50, hv50, hr⟩ := bnd_s hr
      refine G.callS [.ref (gAd E (81)), .int (((128 : Int32)) * (x2)), .ref (gAd E (65)), .int (((128 : Int32)) * (rS R49 25))] [] (k_X12_move_81_65 E _ hE R49 ⟨_, _, r49⟩ (((128 : Int32)) * (x2)) (((128 : Int32)) * (rS R49 25)) R50 hv50) cw_X12_190 w_2307 (Nat.le_of_ble_eq_true rfl) rfl (Nat.le_of_ble_eq_true rfl) (tbd tv_X12_writeBatch rfl) (fun v50w f50 q50 => ?_) (fun _ _ h => h.elim)
      obtain ⟨rfl, ⟨az50, sy50, r50⟩, fa50⟩ := q50
      refine G.eqs [] rfl ?_
      refine G.go tv_X12_writeBatch 3 146 [(0, .ref (gAd E (56))), (1, .int (x1)), (2, .int (x2)), (3, .int (x3))] [.ref (gAd E (56)), .int ((3 : Int32)), .ref (gAd E (56))] rfl ?_
      refine G.rg r50 hE 25 (.int (rS R50 25)) (by decide) rfl (tbd tv_X12_writeBatch rfl) w_2090 ?_
      refine G.go tv_X12_writeBatch 2 151 [(0, .ref (gAd E (56))), (1, .int (x1)), (2, .int (x2)), (3, .int (x3))] [.ref (gAd E (56)), .int (((3 : Int32)) + (rS R50 25)), .ref (gAd E (56))] rfl ?_
      refine G.rg r50 hE 46 (.ref (gAd E (81))) (by decide) rfl (tbd tv_X12_writeBatch rfl) w_2111 ?_
      refine G.go tv_X12_writeBatch 3 159 [(0, .ref (gAd E (56))), (1, .int (x1)), (2, .int (x2)), (3, .int (x3))] [.int (((128 : Int32)) * (x2)), .ref (gAd E (81)), .int (((3 : Int32)) + (rS R50 25)), .ref (gAd E (56))] rfl ?_
      obtain ⟨R53, hv53, hr⟩ := bnd_s hr
      refine G.callV (56) [.int (((3 : Int32)) + (rS R50 25)), .ref (gAd E (81)), .int (((128 : Int32)) * (x2))] [] (k_X12_hand_81 E _ hE R50 ⟨_, _, r50⟩ (((3 : Int32)) + (rS R50 25)) (((128 : Int32)) * (x2)) R53 hv53) cls_X12 (by omega) (r50.o) cw_X12_252 w_2280 w_56 (Nat.le_of_ble_eq_true rfl) rfl (Nat.le_of_ble_eq_true rfl) (tbd tv_X12_writeBatch rfl) (fun v53w f53 q53 => ?_) (fun _ _ h => h.elim)
      obtain ⟨rfl, ⟨az53, sy53, r53⟩, fa53⟩ := q53
      refine G.eqs [] rfl ?_
      refine G.go tv_X12_writeBatch 2 164 [(0, .ref (gAd E (56))), (1, .int (x1)), (2, .int (x2)), (3, .int (x3))] [.ref (gAd E (56)), .ref (gAd E (56))] rfl ?_
      refine G.rg r53 hE 25 (.int (rS R53 25)) (by decide) rfl (tbd tv_X12_writeBatch rfl) w_2090 ?_
      refine G.go tv_X12_writeBatch 2 169 [(0, .ref (gAd E (56))), (1, .int (x1)), (2, .int (x2)), (3, .int (x3))] [.int ((rS R53 25) + ((1 : Int32))), .ref (gAd E (56))] rfl ?_
      obtain ⟨R54, eR54, hr⟩ := ptR_s hr
      refine G.rpW r53 hE 25 eR54 (by decide) rfl (by decide) rfl rfl rfl (tbd tv_X12_writeBatch rfl) w_2090 (fun u54 r54 h54 => ?_)
      refine G.go tv_X12_writeBatch 1 173 [(0, .ref (gAd E (56))), (1, .int (x1)), (2, .int (x2)), (3, .int (x3))] [.ref (gAd E (56))] rfl ?_
      refine G.rg r54 hE 45 (.ref (gAd E (80))) (by decide) rfl (tbd tv_X12_writeBatch rfl) w_2110 ?_
      refine G.go tv_X12_writeBatch 2 178 [(0, .ref (gAd E (56))), (1, .int (x1)), (2, .int (x2)), (3, .int (x3))] [.int ((-1 : Int32)), .int (x2), .ref (gAd E (80))] rfl ?_
      obtain ⟨R55, b55, eR55, hr⟩ := stR_s hr
      refine G.iast (80) (by omega) (r54.a45) b55 (tbd tv_X12_writeBatch rfl) ?_
      refine G.gen (P := fun w9 => RfV E w9 (setSr (setS R55 42 az53) sy53) ∧ Fr RfK f0 w9) ⟨by rw [eR55]; exact r54.p45 _, Fr.up (((h49.tr fa50 (fun _ h => h)).tr fa53 (fun _ h => h)).tr h54 (fun _ h => h)) ⟨by decide, by decide⟩⟩ (fun u55 p55 => ?_)
      obtain ⟨r55, h55⟩ := p55
      refine G.go tv_X12_writeBatch 2 20 [(0, .ref (gAd E (56))), (1, .int (x1 + (1 : Int32))), (2, .int (x2)), (3, .int (x3))] [] rfl ?_
      refine G.less [(0, .ref (gAd E (56))), (1, .int (x1 + (1 : Int32)))] [0, 1] rfl ?_
      exact hs20 _ _ _ hr _ ⟨_, _, r55⟩ h55
    · replace hr := ite_f c44 hr
      refine G.go tv_X12_writeBatch 1 48 [(0, .ref (gAd E (56))), (1, .int (x1)), (2, .int (x2)), (3, .int (x3))] [.ref (gAd E (56))] rfl ?_
      refine G.rg r0 hE 45 (.ref (gAd E (80))) (by decide) rfl (tbd tv_X12_writeBatch rfl) w_2110 ?_
      refine G.go tv_X12_writeBatch 1 52 [(0, .ref (gAd E (56))), (1, .int (x1)), (2, .int (x2)), (3, .int (x3))] [.int (x3), .ref (gAd E (80))] rfl ?_
      obtain ⟨v56, b56, e56, hr⟩ := ld_s hr
      refine G.ialdE (80) (by omega) (r0.a45) b56 e56 (tbd tv_X12_writeBatch rfl) ?_
      refine G.go tv_X12_writeBatch 1 54 [(0, .ref (gAd E (56))), (1, .int (x1)), (2, .int (x2)), (3, .int (x3))] [.int ((-1 : Int32)), .int (v56)] rfl ?_
      refine G.cmp_eq 81 (tbd tv_X12_writeBatch rfl) (by decide) (fun c54 => ?_) (fun c54 => ?_)
      · replace hr := ite_t c54 hr
        refine G.go tv_X12_writeBatch 4 39 [(0, .ref (gAd E (56))), (1, .int (x1)), (2, .int (x2)), (3, .int (x3 + (1 : Int32)))] [] rfl ?_
        refine G.less [(0, .ref (gAd E (56))), (1, .int (x1)), (2, .int (x2)), (3, .int (x3 + (1 : Int32)))] [0, 1, 2, 3] rfl ?_
        exact ih _ _ _ _ _ hr _ ⟨_, _, r0⟩ hf
      · replace hr := ite_f c54 hr
        refine G.go tv_X12_writeBatch 2 59 [(0, .ref (gAd E (56))), (1, .int (x1)), (2, .int (x2)), (3, .int (x3))] [.int ((-1 : Int32)), .int (x2)] rfl ?_
        refine G.cmp_eq 77 (tbd tv_X12_writeBatch rfl) (by decide) (fun c59 => ?_) (fun c59 => ?_)
        · replace hr := ite_t c59 hr
          refine G.go tv_X12_writeBatch 5 39 [(0, .ref (gAd E (56))), (1, .int (x1)), (2, .int (x3)), (3, .int (x3 + (1 : Int32)))] [] rfl ?_
          refine G.less [(0, .ref (gAd E (56))), (1, .int (x1)), (2, .int (x3)), (3, .int (x3 + (1 : Int32)))] [0, 1, 2, 3] rfl ?_
          exact ih _ _ _ _ _ hr _ ⟨_, _, r0⟩ hf
        · replace hr := ite_f c59 hr
          refine G.go tv_X12_writeBatch 1 63 [(0, .ref (gAd E (56))), (1, .int (x1)), (2, .int (x2)), (3, .int (x3))] [.ref (gAd E (56))] rfl ?_
          refine G.rg r0 hE 45 (.ref (gAd E (80))) (by decide) rfl (tbd tv_X12_writeBatch rfl) w_2110 ?_
          refine G.go tv_X12_writeBatch 1 67 [(0, .ref (gAd E (56))), (1, .int (x1)), (2, .int (x2)), (3, .int (x3))] [.int (x3), .ref (gAd E (80))] rfl ?_
          obtain ⟨v57, b57, e57, hr⟩ := ld_s hr
          refine G.ialdE (80) (by omega) (r0.a45) b57 e57 (tbd tv_X12_writeBatch rfl) ?_
          refine G.go tv_X12_writeBatch 1 69 [(0, .ref (gAd E (56))), (1, .int (x1)), (2, .int (x2)), (3, .int (x3))] [.ref (gAd E (56)), .int (v57)] rfl ?_
          refine G.rg r0 hE 45 (.ref (gAd E (80))) (by decide) rfl (tbd tv_X12_writeBatch rfl) w_2110 ?_
          refine G.go tv_X12_writeBatch 1 73 [(0, .ref (gAd E (56))), (1, .int (x1)), (2, .int (x2)), (3, .int (x3))] [.int (x2), .ref (gAd E (80)), .int (v57)] rfl ?_
          obtain ⟨v58, b58, e58, hr⟩ := ld_s hr
          refine G.ialdE (80) (by omega) (r0.a45) b58 e58 (tbd tv_X12_writeBatch rfl) ?_
          refine G.cmp_ge 81 (tbd tv_X12_writeBatch rfl) (by decide) (fun c74 => ?_) (fun c74 => ?_)
          · replace hr := ite_t c74 hr
            refine G.go tv_X12_writeBatch 4 39 [(0, .ref (gAd E (56))), (1, .int (x1)), (2, .int (x2)), (3, .int (x3 + (1 : Int32)))] [] rfl ?_
            refine G.less [(0, .ref (gAd E (56))), (1, .int (x1)), (2, .int (x2)), (3, .int (x3 + (1 : Int32)))] [0, 1, 2, 3] rfl ?_
            exact ih _ _ _ _ _ hr _ ⟨_, _, r0⟩ hf
          · replace hr := ite_f c74 hr
            refine G.go tv_X12_writeBatch 5 39 [(0, .ref (gAd E (56))), (1, .int (x1)), (2, .int (x3)), (3, .int (x3 + (1 : Int32)))] [] rfl ?_
            refine G.less [(0, .ref (gAd E (56))), (1, .int (x1)), (2, .int (x3)), (3, .int (x3 + (1 : Int32)))] [0, 1, 2, 3] rfl ?_
            exact ih _ _ _ _ _ hr _ ⟨_, _, r0⟩ hf
set_option maxRecDepth 100000 in
set_option maxHeartbeats 4000000 in
theorem l_X12_writeBatch_20 (E : gE) (f0 : Nat → va_E) (sz : Nat) (QA : Nat → Prop) (hE : 94 ≤ gN E) : ∀ (n : Nat), ∀ (R : RfT) (x1 : Int32) (R9 : RfT) (hr : e_writeBatch_20  n R x1 = some R9) (f : Nat → va_E) (w : RW E f R) (hf : Fr RfK f0 f), G E (8, yX12_writeBatch, 4, none, sz, QA) cX12_writeBatch (gO E (8, yX12_writeBatch, 4, none, sz, QA) (fun v g => v = none ∧ RW E g R9 ∧ Fr RfK f0 g, fun _ _ => False)) 20 [(0, .ref (gAd E (56))), (1, .int (x1))] [] f := by
  intro n
  induction n with
  | zero =>
    intro R x1 R9 hr f w hf
    cases hr
  | succ n ih =>
    intro R x1 R9 hr f w hf
    obtain ⟨az, sy, r0⟩ := w
    unfold e_writeBatch_20 at hr
    refine G.go tv_X12_writeBatch 2 22 [(0, .ref (gAd E (56))), (1, .int (x1))] [.ref (gAd E (56)), .int (x1)] rfl ?_
    refine G.rg r0 hE 47 (.int (rS R 47)) (by decide) rfl (tbd tv_X12_writeBatch rfl) w_2112 ?_
    refine G.cmp_ge 185 (tbd tv_X12_writeBatch rfl) (by decide) (fun c25 => ?_) (fun c25 => ?_)
    · replace hr := ite_t c25 hr
      refine G.go tv_X12_writeBatch 1 186 [(0, .ref (gAd E (56))), (1, .int (x1))] [.ref (gAd E (56))] rfl ?_
      refine G.rg r0 hE 11 (.int (rS R 11)) (by decide) rfl (tbd tv_X12_writeBatch rfl) w_2076 ?_
      refine G.if_ne 193 (tbd tv_X12_writeBatch rfl) (by decide) (fun c189 => ?_) (fun c189 => ?_)
      · replace hr := ite_f c189 hr
        refine G.go tv_X12_writeBatch 1 194 [(0, .ref (gAd E (56))), (1, .int (x1))] [.ref (gAd E (56))] rfl ?_
        obtain ⟨R38, hv38, hr⟩ := bnd_s hr
        refine G.callV (56) [] [] (k_X12_empty E _ hE R ⟨_, _, r0⟩ R38 hv38) cls_X12 (by omega) (r0.o) cw_X12_249 w_2276 w_55 (Nat.le_of_ble_eq_true rfl) rfl (Nat.le_of_ble_eq_true rfl) (tbd tv_X12_writeBatch rfl) (fun v38w f38 q38 => ?_) (fun _ _ h => h.elim)
        obtain ⟨rfl, ⟨az38, sy38, r38⟩, fa38⟩ := q38
        refine G.eqs [] rfl ?_
        refine G.go tv_X12_writeBatch 2 199 [(0, .ref (gAd E (56))), (1, .int ((0 : Int32)))] [] rfl ?_
        refine G.less [(0, .ref (gAd E (56))), (1, .int ((0 : Int32)))] [0, 1] rfl ?_
        exact l_X12_writeBatch_199 E f0 sz QA hE _ _ _ _ hr _ ⟨_, _, r38⟩ (hf.tr fa38 (fun _ h => h))
      · replace hr := ite_t c189 hr
        cases hr
        exact G.vret rfl ⟨rfl, ⟨_, _, r0⟩, hf⟩ (tbd tv_X12_writeBatch rfl)
    · replace hr := ite_f c25 hr
      refine G.go tv_X12_writeBatch 1 29 [(0, .ref (gAd E (56))), (1, .int (x1))] [.ref (gAd E (56))] rfl ?_
      refine G.rg r0 hE 11 (.int (rS R 11)) (by decide) rfl (tbd tv_X12_writeBatch rfl) w_2076 ?_
      refine G.if_eq 185 (tbd tv_X12_writeBatch rfl) (by decide) (fun c32 => ?_) (fun c32 => ?_)
      · replace hr := ite_t c32 hr
        refine G.go tv_X12_writeBatch 1 186 [(0, .ref (gAd E (56))), (1, .int (x1))] [.ref (gAd E (56))] rfl ?_
        refine G.rg r0 hE 11 (.int (rS R 11)) (by decide) rfl (tbd tv_X12_writeBatch rfl) w_2076 ?_
        refine G.if_ne 193 (tbd tv_X12_writeBatch rfl) (by decide) (fun c189 => ?_) (fun c189 => ?_)
        · replace hr := ite_f c189 hr
          refine G.go tv_X12_writeBatch 1 194 [(0, .ref (gAd E (56))), (1, .int (x1))] [.ref (gAd E (56))] rfl ?_
          obtain ⟨R39, hv39, hr⟩ := bnd_s hr
          refine G.callV (56) [] [] (k_X12_empty E _ hE R ⟨_, _, r0⟩ R39 hv39) cls_X12 (by omega) (r0.o) cw_X12_249 w_2276 w_55 (Nat.le_of_ble_eq_true rfl) rfl (Nat.le_of_ble_eq_true rfl) (tbd tv_X12_writeBatch rfl) (fun v39w f39 q39 => ?_) (fun _ _ h => h.elim)
          obtain ⟨rfl, ⟨az39, sy39, r39⟩, fa39⟩ := q39
          refine G.eqs [] rfl ?_
          refine G.go tv_X12_writeBatch 2 199 [(0, .ref (gAd E (56))), (1, .int ((0 : Int32)))] [] rfl ?_
          refine G.less [(0, .ref (gAd E (56))), (1, .int ((0 : Int32)))] [0, 1] rfl ?_
          exact l_X12_writeBatch_199 E f0 sz QA hE _ _ _ _ hr _ ⟨_, _, r39⟩ (hf.tr fa39 (fun _ h => h))
        · replace hr := ite_t c189 hr
          cases hr
          exact G.vret rfl ⟨rfl, ⟨_, _, r0⟩, hf⟩ (tbd tv_X12_writeBatch rfl)
      · replace hr := ite_f c32 hr
        refine G.go tv_X12_writeBatch 4 39 [(0, .ref (gAd E (56))), (1, .int (x1)), (2, .int ((-1 : Int32))), (3, .int ((0 : Int32)))] [] rfl ?_
        refine G.less [(0, .ref (gAd E (56))), (1, .int (x1)), (2, .int ((-1 : Int32))), (3, .int ((0 : Int32)))] [0, 1, 2, 3] rfl ?_
        exact l_X12_writeBatch_39 E f0 sz QA hE _ ih _ _ _ _ _ _ hr _ ⟨_, _, r0⟩ hf
set_option maxRecDepth 100000 in
set_option maxHeartbeats 4000000 in
theorem k_X12_writeBatch (E : gE) (f : Nat → va_E) (hE : 94 ≤ gN E) (R : RfT) (w : RW E f R) (R9 : RfT) (hr : e_writeBatch R = some R9) : Ct E 8 yX12_writeBatch cX12_writeBatch 4 none [.ref (gAd E (56))] f (fun v g => v = none ∧ RW E g R9 ∧ Fr RfK f g, fun _ _ => False) := by
  obtain ⟨az, sy, r0⟩ := w
  refine Ct.of (by decide) (Nat.le_of_ble_eq_true rfl) (fun sz => ?_)
  refine G.eql [(0, .ref (gAd E (56)))] rfl ?_
  unfold e_writeBatch at hr
  refine G.go tv_X12_writeBatch 1 1 [(0, .ref (gAd E (56)))] [.ref (gAd E (56))] rfl ?_
  refine G.rg r0 hE 25 (.int (rS R 25)) (by decide) rfl (tbd tv_X12_writeBatch rfl) w_2090 ?_
  refine G.go tv_X12_writeBatch 1 5 [(0, .ref (gAd E (56)))] [.ref (gAd E (56)), .int (rS R 25)] rfl ?_
  refine G.rg r0 hE 47 (.int (rS R 47)) (by decide) rfl (tbd tv_X12_writeBatch rfl) w_2112 ?_
  refine G.go tv_X12_writeBatch 2 11 [(0, .ref (gAd E (56)))] [.int ((40 : Int32)), .int ((rS R 25) + (rS R 47))] rfl ?_
  refine G.cmp_le 18 (tbd tv_X12_writeBatch rfl) (by decide) (fun c11 => ?_) (fun c11 => ?_)
  · replace hr := ite_t c11 hr
    refine G.go tv_X12_writeBatch 2 20 [(0, .ref (gAd E (56))), (1, .int ((0 : Int32)))] [] rfl ?_
    refine G.less [(0, .ref (gAd E (56))), (1, .int ((0 : Int32)))] [0, 1] rfl ?_
    exact l_X12_writeBatch_20 E f sz _ hE _ _ _ _ hr _ ⟨_, _, r0⟩ Fr.rf
  · replace hr := ite_f c11 hr
    refine G.go tv_X12_writeBatch 1 15 [(0, .ref (gAd E (56)))] [.ref (gAd E (56))] rfl ?_
    obtain ⟨R37, hv37, hr⟩ := bnd_s hr
    refine G.callV (56) [] [] (k_X12_applyLog E _ hE R ⟨_, _, r0⟩ R37 hv37) cls_X12 (by omega) (r0.o) cw_X12_268 w_2357 w_71 (Nat.le_of_ble_eq_true rfl) rfl (Nat.le_of_ble_eq_true rfl) (tbd tv_X12_writeBatch rfl) (fun v37w f37 q37 => ?_) (fun _ _ h => h.elim)
    obtain ⟨rfl, ⟨az37, sy37, r37⟩, fa37⟩ := q37
    refine G.eqs [] rfl ?_
    refine G.go tv_X12_writeBatch 2 20 [(0, .ref (gAd E (56))), (1, .int ((0 : Int32)))] [] rfl ?_
    refine G.less [(0, .ref (gAd E (56))), (1, .int ((0 : Int32)))] [0, 1] rfl ?_
    exact l_X12_writeBatch_20 E f sz _ hE _ _ _ _ hr _ ⟨_, _, r37⟩ (Fr.rf.tr fa37 (fun _ h => h))
def tb_X12_flushQueue : List (Nat × Instr × Nat) := [(0, .iconst 0, 1), (1, .istore_n 1, 1), (2, .aload_n 0, 1), (3, .getfield 25, 3), (6, .ifCond .eq 61, 3), (9, .iload_n 1, 1), (10, .aload_n 0, 1), (11, .getfield 165, 3), (14, .if_icmp .ge 53, 3), (17, .aload_n 0, 1), (18, .iconst 0, 1), (19, .putfield 262, 3), (22, .iload_n 1, 1), (23, .istore_n 2, 1), (24, .iload_n 2, 1), (25, .aload_n 0, 1), (26, .getfield 165, 3), (29, .if_icmp .ge 29, 3), (32, .aload_n 0, 1), (33, .getfield 262, 3), (36, .aload_n 0, 1), (37, .iload_n 2, 1), (38, .invokevirtual 271, 3), (41, .iadd, 1), (42, .bipush 40, 2), (44, .if_icmp .gt 14, 3), (47, .aload_n 0, 1), (48, .iload_n 2, 1), (49, .invokevirtual 274, 3), (52, .iinc 2 1, 3), (55, .goto (-31), 3), (58, .aload_n 0, 1), (59, .invokevirtual 277, 3), (62, .iload_n 2, 1), (63, .istore_n 1, 1), (64, .goto (-62), 3), (67, .aload_n 0, 1), (68, .getfield 25, 3), (71, .ifCond .eq 56, 3), (74, .aload_n 0, 1), (75, .iconst 0, 1), (76, .putfield 165, 3), (79, .aload_n 0, 1), (80, .getfield 74, 3), (83, .invokestatic 140, 3), (86, .iconst 0, 1), (87, .istore_n 2, 1), (88, .iload_n 2, 1), (89, .sipush 1024, 3), (92, .if_icmp .ge 35, 3), (95, .aload_n 0, 1), (96, .getfield 68, 3), (99, .iload_n 2, 1), (100, .aload_n 0, 1), (101, .getfield 68, 3), (104, .iload_n 2, 1), (105, .baload, 1), (106, .iconst 1, 1), (107, .if_icmp .ne 7, 3), (110, .iconst 0, 1), (111, .goto 9, 3), (114, .aload_n 0, 1), (115, .getfield 68, 3), (118, .iload_n 2, 1), (119, .baload, 1), (120, .bastore, 1), (121, .iinc 2 1, 3), (124, .goto (-36), 3), (127, .iload_n 1, 1), (128, .ireturn, 1)]
theorem tv_X12_flushQueue : Tv cX12_flushQueue tb_X12_flushQueue := by
  unfold Tv
  decide +kernel
def e_nowhere_74_2  : Nat → RfT → Int32 → Option (RfT)
  | 0, _, _ => none
  | n + 1, R, x1 => if ((1024 : Int32)) ≤ x1 then some R else stR R 37 1024 x1 ((-1 : Int32)) (fun R61 => e_nowhere_74_2  n R61 (x1 + (1 : Int32)))
def e_nowhere_74  (R : RfT) : Option (RfT) := e_nowhere_74_2  fuL R ((0 : Int32))
set_option maxRecDepth 100000 in
set_option maxHeartbeats 4000000 in
theorem l_X12_nowhere_74_2 (E : gE) (f0 : Nat → va_E) (sz : Nat) (QA : Nat → Prop) (hE : 94 ≤ gN E) : ∀ (n : Nat), ∀ (R : RfT) (x1 : Int32) (R9 : RfT) (hr : e_nowhere_74_2  n R x1 = some R9) (f : Nat → va_E) (w : RW E f R) (hf : Fr RfK f0 f), G E (1, yX12_nowhere, 2, none, sz, QA) cX12_nowhere (gO E (1, yX12_nowhere, 2, none, sz, QA) (fun v g => v = none ∧ RW E g R9 ∧ Fr RfK f0 g, fun _ _ => False)) 2 [(0, .ref (gAd E (74))), (1, .int (x1))] [] f := by
  intro n
  induction n with
  | zero =>
    intro R x1 R9 hr f w hf
    cases hr
  | succ n ih =>
    intro R x1 R9 hr f w hf
    obtain ⟨az, sy, r0⟩ := w
    unfold e_nowhere_74_2 at hr
    refine G.go tv_X12_nowhere 2 6 [(0, .ref (gAd E (74))), (1, .int (x1))] [.int ((1024 : Int32)), .int (x1)] rfl ?_
    refine G.cmp_ge 19 (tbd tv_X12_nowhere rfl) (by decide) (fun c6 => ?_) (fun c6 => ?_)
    · replace hr := ite_t c6 hr
      cases hr
      exact G.vret rfl ⟨rfl, ⟨_, _, r0⟩, hf⟩ (tbd tv_X12_nowhere rfl)
    · replace hr := ite_f c6 hr
      refine G.go tv_X12_nowhere 3 12 [(0, .ref (gAd E (74))), (1, .int (x1))] [.int ((-1 : Int32)), .int (x1), .ref (gAd E (74))] rfl ?_
      obtain ⟨R61, b61, eR61, hr⟩ := stR_s hr
      refine G.iast (74) (by omega) (r0.a37) b61 (tbd tv_X12_nowhere rfl) ?_
      refine G.gen (P := fun w9 => RfV E w9 (setSr (setS R61 42 az) sy) ∧ Fr RfK f0 w9) ⟨by rw [eR61]; exact r0.p37 _, Fr.up hf ⟨by decide, by decide⟩⟩ (fun u61 p61 => ?_)
      obtain ⟨r61, h61⟩ := p61
      refine G.go tv_X12_nowhere 2 2 [(0, .ref (gAd E (74))), (1, .int (x1 + (1 : Int32)))] [] rfl ?_
      refine G.less [(0, .ref (gAd E (74))), (1, .int (x1 + (1 : Int32)))] [0, 1] rfl ?_
      exact ih _ _ _ hr _ ⟨_, _, r61⟩ h61
set_option maxRecDepth 100000 in
set_option maxHeartbeats 4000000 in
theorem k_X12_nowhere_74 (E : gE) (f : Nat → va_E) (hE : 94 ≤ gN E) (R : RfT) (w : RW E f R) (R9 : RfT) (hr : e_nowhere_74 R = some R9) : Ct E 1 yX12_nowhere cX12_nowhere 2 none [.ref (gAd E (74))] f (fun v g => v = none ∧ RW E g R9 ∧ Fr RfK f g, fun _ _ => False) := by
  obtain ⟨az, sy, r0⟩ := w
  refine Ct.of (by decide) (Nat.le_of_ble_eq_true rfl) (fun sz => ?_)
  refine G.eql [(0, .ref (gAd E (74)))] rfl ?_
  unfold e_nowhere_74 at hr
  refine G.go tv_X12_nowhere 2 2 [(0, .ref (gAd E (74))), (1, .int ((0 : Int32)))] [] rfl ?_
  refine G.less [(0, .ref (gAd E (74))), (1, .int ((0 : Int32)))] [0, 1] rfl ?_
  exact l_X12_nowhere_74_2 E f sz _ hE _ _ _ _ hr _ ⟨_, _, r0⟩ Fr.rf
theorem w_2454 : Cond.methodLink "LedgerFilesModel" 277 yX12_writeBatch ∈ TB := tp_10 148 (by decide +kernel) rfl
theorem w_2457 : Cond.code yX12_writeBatch prog_14_method_33_code 4 none ∈ TB := tp_10 151 rfl rfl
theorem cw_X12_277 : Cw RX12 277 yX12_writeBatch cX12_writeBatch 4 none 0 := ⟨w_2454, w_2457, w_161, by decide +kernel, by decide +kernel, by decide⟩
theorem w_2456 : Cond.instanceMethod yX12_writeBatch ∈ TB := tp_10 150 (by decide +kernel) rfl
theorem w_95 : Cond.selects "LedgerFilesModel" yX12_writeBatch yX12_writeBatch ∈ TB := tp_0 95 (by decide +kernel) rfl
theorem w_2442 : Cond.methodLink "LedgerFilesModel" 271 yX12_fresh ∈ TB := tp_10 136 (by decide +kernel) rfl
theorem w_2445 : Cond.code yX12_fresh prog_14_method_31_code 4 (some .int) ∈ TB := tp_10 139 rfl rfl
theorem cw_X12_271 : Cw RX12 271 yX12_fresh cX12_fresh 4 (some .int) 1 := ⟨w_2442, w_2445, w_161, by decide +kernel, by decide +kernel, by decide⟩
theorem w_2444 : Cond.instanceMethod yX12_fresh ∈ TB := tp_10 138 (by decide +kernel) rfl
theorem w_92 : Cond.selects "LedgerFilesModel" yX12_fresh yX12_fresh ∈ TB := tp_0 92 (by decide +kernel) rfl
theorem w_2450 : Cond.methodLink "LedgerFilesModel" 274 yX12_join ∈ TB := tp_10 144 (by decide +kernel) rfl
theorem w_2453 : Cond.code yX12_join prog_14_method_32_code 4 none ∈ TB := tp_10 147 rfl rfl
theorem cw_X12_274 : Cw RX12 274 yX12_join cX12_join 4 none 1 := ⟨w_2450, w_2453, w_161, by decide +kernel, by decide +kernel, by decide⟩
theorem w_2452 : Cond.instanceMethod yX12_join ∈ TB := tp_10 146 (by decide +kernel) rfl
theorem w_94 : Cond.selects "LedgerFilesModel" yX12_join yX12_join ∈ TB := tp_0 94 (by decide +kernel) rfl
noncomputable def e_flushQueue_88  : Nat → RfT → Int32 → Int32 → Option (Int32 × RfT)
  | 0, _, _, _ => none
  | n + 1, R, x1, x2 => if ((1024 : Int32)) ≤ x2 then some (x1, R) else ld (rA R 35) 1024 x2 (fun v65 => if v65 = ((1 : Int32)) then stR R 35 1024 x2 (vp_nar .byte ((0 : Int32))) (fun R68 => e_flushQueue_88  n R68 x1 (x2 + (1 : Int32))) else ld (rA R 35) 1024 x2 (fun v66 => stR R 35 1024 x2 (vp_nar .byte v66) (fun R67 => e_flushQueue_88  n R67 x1 (x2 + (1 : Int32)))))
noncomputable def e_flushQueue_24  (self2 : RfT → Int32 → Option (Int32 × RfT)) : Nat → RfT → Int32 → Option (Int32 × RfT)
  | 0, _, _ => none
  | n + 1, R, x2 => if (rS R 29) ≤ x2 then bnd (e_writeBatch R) (fun R69 => self2 R69 x2) else bnd (e_fresh R x2) (fun v70 => if ((40 : Int32)) < ((rS R 47) + (v70)) then bnd (e_writeBatch R) (fun R71 => self2 R71 x2) else bnd (e_join R x2) (fun R72 => e_flushQueue_24  self2 n R72 (x2 + (1 : Int32))))
noncomputable def e_flushQueue_2  : Nat → RfT → Int32 → Option (Int32 × RfT)
  | 0, _, _ => none
  | n + 1, R, x1 => if (rS R 11) = 0 then if (rS R 11) = 0 then some (x1, R) else ptR R 29 ((0 : Int32)) (fun R59 => bnd (e_nowhere_74 R59) (fun R60 => e_flushQueue_88  fuL R60 x1 ((0 : Int32)))) else if (rS R 29) ≤ x1 then if (rS R 11) = 0 then some (x1, R) else ptR R 29 ((0 : Int32)) (fun R62 => bnd (e_nowhere_74 R62) (fun R63 => e_flushQueue_88  fuL R63 x1 ((0 : Int32)))) else ptR R 47 ((0 : Int32)) (fun R64 => e_flushQueue_24  (e_flushQueue_2  n) fuL R64 x1)
noncomputable def e_flushQueue  (R : RfT) : Option (Int32 × RfT) := e_flushQueue_2  fuL R ((0 : Int32))
set_option maxRecDepth 100000 in
set_option maxHeartbeats 4000000 in
theorem l_X12_flushQueue_88 (E : gE) (f0 : Nat → va_E) (sz : Nat) (QA : Nat → Prop) (hE : 94 ≤ gN E) : ∀ (n : Nat), ∀ (R : RfT) (x1 : Int32) (x2 : Int32) (r : Int32) (R9 : RfT) (hr : e_flushQueue_88  n R x1 x2 = some (r, R9)) (f : Nat → va_E) (w : RW E f R) (hf : Fr RfK f0 f), G E (9, yX12_flushQueue, 3, (some .int), sz, QA) cX12_flushQueue (gO E (9, yX12_flushQueue, 3, (some .int), sz, QA) (fun v g => v = some (.int r) ∧ RW E g R9 ∧ Fr RfK f0 g, fun _ _ => False)) 88 [(0, .ref (gAd E (56))), (1, .int (x1)), (2, .int (x2))] [] f := by
  intro n
  induction n with
  | zero =>
    intro R x1 x2 r R9 hr f w hf
    cases hr
  | succ n ih =>
    intro R x1 x2 r R9 hr f w hf
    obtain ⟨az, sy, r0⟩ := w
    unfold e_flushQueue_88 at hr
    refine G.go tv_X12_flushQueue 2 92 [(0, .ref (gAd E (56))), (1, .int (x1)), (2, .int (x2))] [.int ((1024 : Int32)), .int (x2)] rfl ?_
    refine G.cmp_ge 127 (tbd tv_X12_flushQueue rfl) (by decide) (fun c92 => ?_) (fun c92 => ?_)
    · replace hr := ite_t c92 hr
      refine G.go tv_X12_flushQueue 1 128 [(0, .ref (gAd E (56))), (1, .int (x1)), (2, .int (x2))] [.int (x1)] rfl ?_
      cases hr
      exact G.iret rfl rfl ⟨rfl, ⟨_, _, r0⟩, hf⟩ (tbd tv_X12_flushQueue rfl)
    · replace hr := ite_f c92 hr
      refine G.go tv_X12_flushQueue 1 96 [(0, .ref (gAd E (56))), (1, .int (x1)), (2, .int (x2))] [.ref (gAd E (56))] rfl ?_
      refine G.rg r0 hE 35 (.ref (gAd E (72))) (by decide) rfl (tbd tv_X12_flushQueue rfl) w_2100 ?_
      refine G.go tv_X12_flushQueue 2 101 [(0, .ref (gAd E (56))), (1, .int (x1)), (2, .int (x2))] [.ref (gAd E (56)), .int (x2), .ref (gAd E (72))] rfl ?_
      refine G.rg r0 hE 35 (.ref (gAd E (72))) (by decide) rfl (tbd tv_X12_flushQueue rfl) w_2100 ?_
      refine G.go tv_X12_flushQueue 1 105 [(0, .ref (gAd E (56))), (1, .int (x1)), (2, .int (x2))] [.int (x2), .ref (gAd E (72)), .int (x2), .ref (gAd E (72))] rfl ?_
      obtain ⟨v65, b65, e65, hr⟩ := ld_s hr
      refine G.baldE (72) (by omega) (r0.a35) b65 e65 (tbd tv_X12_flushQueue rfl) ?_
      refine G.go tv_X12_flushQueue 1 107 [(0, .ref (gAd E (56))), (1, .int (x1)), (2, .int (x2))] [.int ((1 : Int32)), .int (v65), .int (x2), .ref (gAd E (72))] rfl ?_
      refine G.cmp_ne 114 (tbd tv_X12_flushQueue rfl) (by decide) (fun c107 => ?_) (fun c107 => ?_)
      · replace hr := ite_f c107 hr
        refine G.go tv_X12_flushQueue 1 115 [(0, .ref (gAd E (56))), (1, .int (x1)), (2, .int (x2))] [.ref (gAd E (56)), .int (x2), .ref (gAd E (72))] rfl ?_
        refine G.rg r0 hE 35 (.ref (gAd E (72))) (by decide) rfl (tbd tv_X12_flushQueue rfl) w_2100 ?_
        refine G.go tv_X12_flushQueue 1 119 [(0, .ref (gAd E (56))), (1, .int (x1)), (2, .int (x2))] [.int (x2), .ref (gAd E (72)), .int (x2), .ref (gAd E (72))] rfl ?_
        obtain ⟨v66, b66, e66, hr⟩ := ld_s hr
        refine G.baldE (72) (by omega) (r0.a35) b66 e66 (tbd tv_X12_flushQueue rfl) ?_
        obtain ⟨R67, b67, eR67, hr⟩ := stR_s hr
        refine G.bast (72) (by omega) (r0.a35) b67 (tbd tv_X12_flushQueue rfl) ?_
        refine G.gen (P := fun w9 => RfV E w9 (setSr (setS R67 42 az) sy) ∧ Fr RfK f0 w9) ⟨by rw [eR67]; exact r0.p35 _, Fr.up hf ⟨by decide, by decide⟩⟩ (fun u67 p67 => ?_)
        obtain ⟨r67, h67⟩ := p67
        refine G.go tv_X12_flushQueue 2 88 [(0, .ref (gAd E (56))), (1, .int (x1)), (2, .int (x2 + (1 : Int32)))] [] rfl ?_
        refine G.less [(0, .ref (gAd E (56))), (1, .int (x1)), (2, .int (x2 + (1 : Int32)))] [0, 1, 2] rfl ?_
        exact ih _ _ _ _ _ hr _ ⟨_, _, r67⟩ h67
      · replace hr := ite_t c107 hr
        refine G.go tv_X12_flushQueue 2 120 [(0, .ref (gAd E (56))), (1, .int (x1)), (2, .int (x2))] [.int ((0 : Int32)), .int (x2), .ref (gAd E (72))] rfl ?_
        obtain ⟨R68, b68, eR68, hr⟩ := stR_s hr
        refine G.bast (72) (by omega) (r0.a35) b68 (tbd tv_X12_flushQueue rfl) ?_
        refine G.gen (P := fun w9 => RfV E w9 (setSr (setS R68 42 az) sy) ∧ Fr RfK f0 w9) ⟨by rw [eR68]; exact r0.p35 _, Fr.up hf ⟨by decide, by decide⟩⟩ (fun u68 p68 => ?_)
        obtain ⟨r68, h68⟩ := p68
        refine G.go tv_X12_flushQueue 2 88 [(0, .ref (gAd E (56))), (1, .int (x1)), (2, .int (x2 + (1 : Int32)))] [] rfl ?_
        refine G.less [(0, .ref (gAd E (56))), (1, .int (x1)), (2, .int (x2 + (1 : Int32)))] [0, 1, 2] rfl ?_
        exact ih _ _ _ _ _ hr _ ⟨_, _, r68⟩ h68
set_option maxRecDepth 100000 in
set_option maxHeartbeats 4000000 in
theorem l_X12_flushQueue_24 (E : gE) (f0 : Nat → va_E) (sz : Nat) (QA : Nat → Prop) (hE : 94 ≤ gN E) (self2 : RfT → Int32 → Option (Int32 × RfT)) (hs2 : ∀ (R : RfT) (x1 : Int32) (r : Int32) (R9 : RfT) (hr : self2 R x1 = some (r, R9)) (f : Nat → va_E) (w : RW E f R) (hf : Fr RfK f0 f), G E (9, yX12_flushQueue, 3, (some .int), sz, QA) cX12_flushQueue (gO E (9, yX12_flushQueue, 3, (some .int), sz, QA) (fun v g => v = some (.int r) ∧ RW E g R9 ∧ Fr RfK f0 g, fun _ _ => False)) 2 [(0, .ref (gAd E (56))), (1, .int (x1))] [] f) : ∀ (n : Nat), ∀ (R : RfT) (x2 : Int32) (r : Int32) (R9 : RfT) (hr : e_flushQueue_24  self2 n R x2 = some (r, R9)) (f : Nat → va_E) (w : RW E f R) (hf : Fr RfK f0 f), G E (9, yX12_flushQueue, 3, (some .int), sz, QA) cX12_flushQueue (gO E (9, yX12_flushQueue, 3, (some .int), sz, QA) (fun v g => v = some (.int r) ∧ RW E g R9 ∧ Fr RfK f0 g, fun _ _ => False)) 24 [(0, .ref (gAd E (56))), (2, .int (x2))] [] f := by
  intro n
  induction n with
  | zero =>
    intro R x2 r R9 hr f w hf
    cases hr
  | succ n ih =>
    intro R x2 r R9 hr f w hf
    obtain ⟨az, sy, r0⟩ := w
    unfold e_flushQueue_24 at hr
    refine G.go tv_X12_flushQueue 2 26 [(0, .ref (gAd E (56))), (2, .int (x2))] [.ref (gAd E (56)), .int (x2)] rfl ?_
    refine G.rg r0 hE 29 (.int (rS R 29)) (by decide) rfl (tbd tv_X12_flushQueue rfl) w_2094 ?_
    refine G.cmp_ge 58 (tbd tv_X12_flushQueue rfl) (by decide) (fun c29 => ?_) (fun c29 => ?_)
    · replace hr := ite_t c29 hr
      refine G.go tv_X12_flushQueue 1 59 [(0, .ref (gAd E (56))), (2, .int (x2))] [.ref (gAd E (56))] rfl ?_
      obtain ⟨R69, hv69, hr⟩ := bnd_s hr
      refine G.callV (56) [] [] (k_X12_writeBatch E _ hE R ⟨_, _, r0⟩ R69 hv69) cls_X12 (by omega) (r0.o) cw_X12_277 w_2456 w_95 (Nat.le_of_ble_eq_true rfl) rfl (Nat.le_of_ble_eq_true rfl) (tbd tv_X12_flushQueue rfl) (fun v69w f69 q69 => ?_) (fun _ _ h => h.elim)
      obtain ⟨rfl, ⟨az69, sy69, r69⟩, fa69⟩ := q69
      refine G.eqs [] rfl ?_
      refine G.go tv_X12_flushQueue 3 2 [(0, .ref (gAd E (56))), (2, .int (x2)), (1, .int (x2))] [] rfl ?_
      refine G.less [(0, .ref (gAd E (56))), (1, .int (x2))] [0, 2] rfl ?_
      exact hs2 _ _ _ _ hr _ ⟨_, _, r69⟩ (hf.tr fa69 (fun _ h => h))
    · replace hr := ite_f c29 hr
      refine G.go tv_X12_flushQueue 1 33 [(0, .ref (gAd E (56))), (2, .int (x2))] [.ref (gAd E (56))] rfl ?_
      refine G.rg r0 hE 47 (.int (rS R 47)) (by decide) rfl (tbd tv_X12_flushQueue rfl) w_2112 ?_
      refine G.go tv_X12_flushQueue 2 38 [(0, .ref (gAd E (56))), (2, .int (x2))] [.int (x2), .ref (gAd E (56)), .int (rS R 47)] rfl ?_
      obtain ⟨v70, hv70, hr⟩ := bnd_s hr
      refine G.callV (56) [.int (x2)] [.int (rS R 47)] (k_X12_fresh E _ hE R ⟨_, _, r0⟩ x2 v70 hv70) cls_X12 (by omega) (r0.o) cw_X12_271 w_2444 w_92 (Nat.le_of_ble_eq_true rfl) rfl (Nat.le_of_ble_eq_true rfl) (tbd tv_X12_flushQueue rfl) (fun v70w f70 q70 => ?_) (fun _ _ h => h.elim)
      obtain ⟨rfl, ⟨az70, sy70, r70⟩, fa70⟩ := q70
      refine G.eqs [.int (v70), .int (rS R 47)] rfl ?_
      refine G.go tv_X12_flushQueue 2 44 [(0, .ref (gAd E (56))), (2, .int (x2))] [.int ((40 : Int32)), .int ((rS R 47) + (v70))] rfl ?_
      refine G.cmp_gt 58 (tbd tv_X12_flushQueue rfl) (by decide) (fun c44 => ?_) (fun c44 => ?_)
      · replace hr := ite_t c44 hr
        refine G.go tv_X12_flushQueue 1 59 [(0, .ref (gAd E (56))), (2, .int (x2))] [.ref (gAd E (56))] rfl ?_
        obtain ⟨R71, hv71, hr⟩ := bnd_s hr
        refine G.callV (56) [] [] (k_X12_writeBatch E _ hE R ⟨_, _, r70⟩ R71 hv71) cls_X12 (by omega) (r70.o) cw_X12_277 w_2456 w_95 (Nat.le_of_ble_eq_true rfl) rfl (Nat.le_of_ble_eq_true rfl) (tbd tv_X12_flushQueue rfl) (fun v71w f71 q71 => ?_) (fun _ _ h => h.elim)
        obtain ⟨rfl, ⟨az71, sy71, r71⟩, fa71⟩ := q71
        refine G.eqs [] rfl ?_
        refine G.go tv_X12_flushQueue 3 2 [(0, .ref (gAd E (56))), (2, .int (x2)), (1, .int (x2))] [] rfl ?_
        refine G.less [(0, .ref (gAd E (56))), (1, .int (x2))] [0, 2] rfl ?_
        exact hs2 _ _ _ _ hr _ ⟨_, _, r71⟩ ((hf.tr fa70 (fun _ h => h)).tr fa71 (fun _ h => h))
      · replace hr := ite_f c44 hr
        refine G.go tv_X12_flushQueue 2 49 [(0, .ref (gAd E (56))), (2, .int (x2))] [.int (x2), .ref (gAd E (56))] rfl ?_
        obtain ⟨R72, hv72, hr⟩ := bnd_s hr
        refine G.callV (56) [.int (x2)] [] (k_X12_join E _ hE R ⟨_, _, r70⟩ x2 R72 hv72) cls_X12 (by omega) (r70.o) cw_X12_274 w_2452 w_94 (Nat.le_of_ble_eq_true rfl) rfl (Nat.le_of_ble_eq_true rfl) (tbd tv_X12_flushQueue rfl) (fun v72w f72 q72 => ?_) (fun _ _ h => h.elim)
        obtain ⟨rfl, ⟨az72, sy72, r72⟩, fa72⟩ := q72
        refine G.eqs [] rfl ?_
        refine G.go tv_X12_flushQueue 2 24 [(0, .ref (gAd E (56))), (2, .int (x2 + (1 : Int32)))] [] rfl ?_
        refine G.less [(0, .ref (gAd E (56))), (2, .int (x2 + (1 : Int32)))] [0, 1] rfl ?_
        exact ih _ _ _ _ hr _ ⟨_, _, r72⟩ ((hf.tr fa70 (fun _ h => h)).tr fa72 (fun _ h => h))
set_option maxRecDepth 100000 in
set_option maxHeartbeats 4000000 in
theorem l_X12_flushQueue_2 (E : gE) (f0 : Nat → va_E) (sz : Nat) (QA : Nat → Prop) (hE : 94 ≤ gN E) : ∀ (n : Nat), ∀ (R : RfT) (x1 : Int32) (r : Int32) (R9 : RfT) (hr : e_flushQueue_2  n R x1 = some (r, R9)) (f : Nat → va_E) (w : RW E f R) (hf : Fr RfK f0 f), G E (9, yX12_flushQueue, 3, (some .int), sz, QA) cX12_flushQueue (gO E (9, yX12_flushQueue, 3, (some .int), sz, QA) (fun v g => v = some (.int r) ∧ RW E g R9 ∧ Fr RfK f0 g, fun _ _ => False)) 2 [(0, .ref (gAd E (56))), (1, .int (x1))] [] f := by
  intro n
  induction n with
  | zero =>
    intro R x1 r R9 hr f w hf
    cases hr
  | succ n ih =>
    intro R x1 r R9 hr f w hf
    obtain ⟨az, sy, r0⟩ := w
    unfold e_flushQueue_2 at hr
    refine G.go tv_X12_flushQueue 1 3 [(0, .ref (gAd E (56))), (1, .int (x1))] [.ref (gAd E (56))] rfl ?_
    refine G.rg r0 hE 11 (.int (rS R 11)) (by decide) rfl (tbd tv_X12_flushQueue rfl) w_2076 ?_
    refine G.if_eq 67 (tbd tv_X12_flushQueue rfl) (by decide) (fun c6 => ?_) (fun c6 => ?_)
    · replace hr := ite_t c6 hr
      refine G.go tv_X12_flushQueue 1 68 [(0, .ref (gAd E (56))), (1, .int (x1))] [.ref (gAd E (56))] rfl ?_
      refine G.rg r0 hE 11 (.int (rS R 11)) (by decide) rfl (tbd tv_X12_flushQueue rfl) w_2076 ?_
      refine G.if_eq 127 (tbd tv_X12_flushQueue rfl) (by decide) (fun c71 => ?_) (fun c71 => ?_)
      · replace hr := ite_t c71 hr
        refine G.go tv_X12_flushQueue 1 128 [(0, .ref (gAd E (56))), (1, .int (x1))] [.int (x1)] rfl ?_
        cases hr
        exact G.iret rfl rfl ⟨rfl, ⟨_, _, r0⟩, hf⟩ (tbd tv_X12_flushQueue rfl)
      · replace hr := ite_f c71 hr
        refine G.go tv_X12_flushQueue 2 76 [(0, .ref (gAd E (56))), (1, .int (x1))] [.int ((0 : Int32)), .ref (gAd E (56))] rfl ?_
        obtain ⟨R59, eR59, hr⟩ := ptR_s hr
        refine G.rpW r0 hE 29 eR59 (by decide) rfl (by decide) rfl rfl rfl (tbd tv_X12_flushQueue rfl) w_2094 (fun u59 r59 h59 => ?_)
        refine G.go tv_X12_flushQueue 1 80 [(0, .ref (gAd E (56))), (1, .int (x1))] [.ref (gAd E (56))] rfl ?_
        refine G.rg r59 hE 37 (.ref (gAd E (74))) (by decide) rfl (tbd tv_X12_flushQueue rfl) w_2102 ?_
        obtain ⟨R60, hv60, hr⟩ := bnd_s hr
        refine G.callS [.ref (gAd E (74))] [] (k_X12_nowhere_74 E _ hE R59 ⟨_, _, r59⟩ R60 hv60) cw_X12_140 w_2063 (Nat.le_of_ble_eq_true rfl) rfl (Nat.le_of_ble_eq_true rfl) (tbd tv_X12_flushQueue rfl) (fun v60w f60 q60 => ?_) (fun _ _ h => h.elim)
        obtain ⟨rfl, ⟨az60, sy60, r60⟩, fa60⟩ := q60
        refine G.eqs [] rfl ?_
        refine G.go tv_X12_flushQueue 2 88 [(0, .ref (gAd E (56))), (1, .int (x1)), (2, .int ((0 : Int32)))] [] rfl ?_
        refine G.less [(0, .ref (gAd E (56))), (1, .int (x1)), (2, .int ((0 : Int32)))] [0, 1, 2] rfl ?_
        exact l_X12_flushQueue_88 E f0 sz QA hE _ _ _ _ _ _ hr _ ⟨_, _, r60⟩ ((hf.tr h59 (fun _ h => h)).tr fa60 (fun _ h => h))
    · replace hr := ite_f c6 hr
      refine G.go tv_X12_flushQueue 2 11 [(0, .ref (gAd E (56))), (1, .int (x1))] [.ref (gAd E (56)), .int (x1)] rfl ?_
      refine G.rg r0 hE 29 (.int (rS R 29)) (by decide) rfl (tbd tv_X12_flushQueue rfl) w_2094 ?_
      refine G.cmp_ge 67 (tbd tv_X12_flushQueue rfl) (by decide) (fun c14 => ?_) (fun c14 => ?_)
      · replace hr := ite_t c14 hr
        refine G.go tv_X12_flushQueue 1 68 [(0, .ref (gAd E (56))), (1, .int (x1))] [.ref (gAd E (56))] rfl ?_
        refine G.rg r0 hE 11 (.int (rS R 11)) (by decide) rfl (tbd tv_X12_flushQueue rfl) w_2076 ?_
        refine G.if_eq 127 (tbd tv_X12_flushQueue rfl) (by decide) (fun c71 => ?_) (fun c71 => ?_)
        · replace hr := ite_t c71 hr
          refine G.go tv_X12_flushQueue 1 128 [(0, .ref (gAd E (56))), (1, .int (x1))] [.int (x1)] rfl ?_
          cases hr
          exact G.iret rfl rfl ⟨rfl, ⟨_, _, r0⟩, hf⟩ (tbd tv_X12_flushQueue rfl)
        · replace hr := ite_f c71 hr
          refine G.go tv_X12_flushQueue 2 76 [(0, .ref (gAd E (56))), (1, .int (x1))] [.int ((0 : Int32)), .ref (gAd E (56))] rfl ?_
          obtain ⟨R62, eR62, hr⟩ := ptR_s hr
          refine G.rpW r0 hE 29 eR62 (by decide) rfl (by decide) rfl rfl rfl (tbd tv_X12_flushQueue rfl) w_2094 (fun u62 r62 h62 => ?_)
          refine G.go tv_X12_flushQueue 1 80 [(0, .ref (gAd E (56))), (1, .int (x1))] [.ref (gAd E (56))] rfl ?_
          refine G.rg r62 hE 37 (.ref (gAd E (74))) (by decide) rfl (tbd tv_X12_flushQueue rfl) w_2102 ?_
          obtain ⟨R63, hv63, hr⟩ := bnd_s hr
          refine G.callS [.ref (gAd E (74))] [] (k_X12_nowhere_74 E _ hE R62 ⟨_, _, r62⟩ R63 hv63) cw_X12_140 w_2063 (Nat.le_of_ble_eq_true rfl) rfl (Nat.le_of_ble_eq_true rfl) (tbd tv_X12_flushQueue rfl) (fun v63w f63 q63 => ?_) (fun _ _ h => h.elim)
          obtain ⟨rfl, ⟨az63, sy63, r63⟩, fa63⟩ := q63
          refine G.eqs [] rfl ?_
          refine G.go tv_X12_flushQueue 2 88 [(0, .ref (gAd E (56))), (1, .int (x1)), (2, .int ((0 : Int32)))] [] rfl ?_
          refine G.less [(0, .ref (gAd E (56))), (1, .int (x1)), (2, .int ((0 : Int32)))] [0, 1, 2] rfl ?_
          exact l_X12_flushQueue_88 E f0 sz QA hE _ _ _ _ _ _ hr _ ⟨_, _, r63⟩ ((hf.tr h62 (fun _ h => h)).tr fa63 (fun _ h => h))
      · replace hr := ite_f c14 hr
        refine G.go tv_X12_flushQueue 2 19 [(0, .ref (gAd E (56))), (1, .int (x1))] [.int ((0 : Int32)), .ref (gAd E (56))] rfl ?_
        obtain ⟨R64, eR64, hr⟩ := ptR_s hr
        refine G.rpW r0 hE 47 eR64 (by decide) rfl (by decide) rfl rfl rfl (tbd tv_X12_flushQueue rfl) w_2112 (fun u64 r64 h64 => ?_)
        refine G.go tv_X12_flushQueue 2 24 [(0, .ref (gAd E (56))), (1, .int (x1)), (2, .int (x1))] [] rfl ?_
        refine G.less [(0, .ref (gAd E (56))), (2, .int (x1))] [0, 2] rfl ?_
        exact l_X12_flushQueue_24 E f0 sz QA hE _ ih _ _ _ _ _ hr _ ⟨_, _, r64⟩ (hf.tr h64 (fun _ h => h))
set_option maxRecDepth 100000 in
set_option maxHeartbeats 4000000 in
theorem k_X12_flushQueue (E : gE) (f : Nat → va_E) (hE : 94 ≤ gN E) (R : RfT) (w : RW E f R) (r : Int32) (R9 : RfT) (hr : e_flushQueue R = some (r, R9)) : Ct E 9 yX12_flushQueue cX12_flushQueue 3 (some .int) [.ref (gAd E (56))] f (fun v g => v = some (.int r) ∧ RW E g R9 ∧ Fr RfK f g, fun _ _ => False) := by
  obtain ⟨az, sy, r0⟩ := w
  refine Ct.of (by decide) (Nat.le_of_ble_eq_true rfl) (fun sz => ?_)
  refine G.eql [(0, .ref (gAd E (56)))] rfl ?_
  unfold e_flushQueue at hr
  refine G.go tv_X12_flushQueue 2 2 [(0, .ref (gAd E (56))), (1, .int ((0 : Int32)))] [] rfl ?_
  refine G.less [(0, .ref (gAd E (56))), (1, .int ((0 : Int32)))] [0, 1] rfl ?_
  exact l_X12_flushQueue_2 E f sz _ hE _ _ _ _ _ hr _ ⟨_, _, r0⟩ Fr.rf
def tb_X12_commit : List (Nat × Instr × Nat) := [(0, .aload_n 0, 1), (1, .getfield 25, 3), (4, .ifCond .eq 10, 3), (7, .aload_n 0, 1), (8, .getfield 174, 3), (11, .ifCond .eq 4, 3), (14, .return_, 1), (15, .iconst 0, 1), (16, .istore_n 1, 1), (17, .iconst 0, 1), (18, .istore_n 2, 1), (19, .iload_n 2, 1), (20, .aload_n 0, 1), (21, .getfield 144, 3), (24, .if_icmp .ge 89, 3), (27, .aload_n 0, 1), (28, .iload_n 2, 1), (29, .invokevirtual 284, 3), (32, .ifCond .eq 75, 3), (35, .aload_n 0, 1), (36, .getfield 52, 3), (39, .bipush 64, 2), (41, .aload_n 0, 1), (42, .getfield 165, 3), (45, .imul, 1), (46, .iload_n 1, 1), (47, .iadd, 1), (48, .aload_n 0, 1), (49, .getfield 58, 3), (52, .iload_n 2, 1), (53, .iaload, 1), (54, .iastore, 1), (55, .aload_n 0, 1), (56, .getfield 65, 3), (59, .sipush 128, 3), (62, .iload_n 2, 1), (63, .imul, 1), (64, .aload_n 0, 1), (65, .getfield 55, 3), (68, .sipush 128, 3), (71, .bipush 64, 2), (73, .aload_n 0, 1), (74, .getfield 165, 3), (77, .imul, 1), (78, .iload_n 1, 1), (79, .iadd, 1), (80, .imul, 1), (81, .invokestatic 190, 3), (84, .aload_n 0, 1), (85, .getfield 74, 3), (88, .aload_n 0, 1), (89, .getfield 58, 3), (92, .iload_n 2, 1), (93, .iaload, 1), (94, .bipush 64, 2), (96, .aload_n 0, 1), (97, .getfield 165, 3), (100, .imul, 1), (101, .iload_n 1, 1), (102, .iadd, 1), (103, .iastore, 1), (104, .iinc 1 1, 3), (107, .iinc 2 1, 3), (110, .goto (-91), 3), (113, .aload_n 0, 1), (114, .invokevirtual 168, 3), (117, .iconst 0, 1), (118, .istore_n 2, 1), (119, .iload_n 2, 1), (120, .sipush 1024, 3), (123, .if_icmp .ge 39, 3), (126, .iload_n 1, 1), (127, .ifCond .ne 35, 3), (130, .aload_n 0, 1), (131, .getfield 68, 3), (134, .iload_n 2, 1), (135, .aload_n 0, 1), (136, .getfield 68, 3), (139, .iload_n 2, 1), (140, .baload, 1), (141, .iconst 2, 1), (142, .if_icmp .ne 7, 3), (145, .iconst 0, 1), (146, .goto 9, 3), (149, .aload_n 0, 1), (150, .getfield 68, 3), (153, .iload_n 2, 1), (154, .baload, 1), (155, .bastore, 1), (156, .iinc 2 1, 3), (159, .goto (-40), 3), (162, .iload_n 1, 1), (163, .ifCond .ne 4, 3), (166, .return_, 1), (167, .aload_n 0, 1), (168, .getfield 49, 3), (171, .aload_n 0, 1), (172, .getfield 165, 3), (175, .iload_n 1, 1), (176, .iastore, 1), (177, .aload_n 0, 1), (178, .dup, 1), (179, .getfield 165, 3), (182, .iconst 1, 1), (183, .iadd, 1), (184, .putfield 165, 3), (187, .iconst 0, 1), (188, .istore_n 2, 1), (189, .iload_n 2, 1), (190, .sipush 1024, 3), (193, .if_icmp .ge 35, 3), (196, .aload_n 0, 1), (197, .getfield 68, 3), (200, .iload_n 2, 1), (201, .aload_n 0, 1), (202, .getfield 68, 3), (205, .iload_n 2, 1), (206, .baload, 1), (207, .iconst 2, 1), (208, .if_icmp .ne 7, 3), (211, .iconst 1, 1), (212, .goto 9, 3), (215, .aload_n 0, 1), (216, .getfield 68, 3), (219, .iload_n 2, 1), (220, .baload, 1), (221, .bastore, 1), (222, .iinc 2 1, 3), (225, .goto (-36), 3), (228, .aload_n 0, 1), (229, .getfield 165, 3), (232, .aload_n 0, 1), (233, .getfield 137, 3), (236, .if_icmp .ne 8, 3), (239, .aload_n 0, 1), (240, .invokevirtual 288, 3), (243, .pop, 1), (244, .return_, 1)]
theorem tv_X12_commit : Tv cX12_commit tb_X12_commit := by
  unfold Tv
  decide +kernel
def e_move_71_68_3  : Nat → RfT → Int32 → Int32 → Int32 → Option (RfT)
  | 0, _, _, _, _ => none
  | n + 1, R, x1, x3, x4 => if ((128 : Int32)) ≤ x4 then some R else ld (rA R 32) 131072 ((x1) + (x4)) (fun v78 => stR R 28 131072 ((x3) + (x4)) (vp_nar .byte v78) (fun R79 => e_move_71_68_3  n R79 x1 x3 (x4 + (1 : Int32))))
def e_move_71_68  (R : RfT) (a1 : Int32) (a3 : Int32) : Option (RfT) := e_move_71_68_3  fuL R a1 a3 ((0 : Int32))
set_option maxRecDepth 100000 in
set_option maxHeartbeats 4000000 in
theorem l_X12_move_71_68_3 (E : gE) (f0 : Nat → va_E) (sz : Nat) (QA : Nat → Prop) (hE : 94 ≤ gN E) : ∀ (n : Nat), ∀ (R : RfT) (x1 : Int32) (x3 : Int32) (x4 : Int32) (R9 : RfT) (hr : e_move_71_68_3  n R x1 x3 x4 = some R9) (f : Nat → va_E) (w : RW E f R) (hf : Fr RfK f0 f), G E (1, yX12_move, 5, none, sz, QA) cX12_move (gO E (1, yX12_move, 5, none, sz, QA) (fun v g => v = none ∧ RW E g R9 ∧ Fr RfK f0 g, fun _ _ => False)) 3 [(0, .ref (gAd E (71))), (1, .int (x1)), (2, .ref (gAd E (68))), (3, .int (x3)), (4, .int (x4))] [] f := by
  intro n
  induction n with
  | zero =>
    intro R x1 x3 x4 R9 hr f w hf
    cases hr
  | succ n ih =>
    intro R x1 x3 x4 R9 hr f w hf
    obtain ⟨az, sy, r0⟩ := w
    unfold e_move_71_68_3 at hr
    refine G.go tv_X12_move 2 8 [(0, .ref (gAd E (71))), (1, .int (x1)), (2, .ref (gAd E (68))), (3, .int (x3)), (4, .int (x4))] [.int ((128 : Int32)), .int (x4)] rfl ?_
    refine G.cmp_ge 29 (tbd tv_X12_move rfl) (by decide) (fun c8 => ?_) (fun c8 => ?_)
    · replace hr := ite_t c8 hr
      cases hr
      exact G.vret rfl ⟨rfl, ⟨_, _, r0⟩, hf⟩ (tbd tv_X12_move rfl)
    · replace hr := ite_f c8 hr
      refine G.go tv_X12_move 8 21 [(0, .ref (gAd E (71))), (1, .int (x1)), (2, .ref (gAd E (68))), (3, .int (x3)), (4, .int (x4))] [.int ((x1) + (x4)), .ref (gAd E (71)), .int ((x3) + (x4)), .ref (gAd E (68))] rfl ?_
      obtain ⟨v78, b78, e78, hr⟩ := ld_s hr
      refine G.baldE (71) (by omega) (r0.a32) b78 e78 (tbd tv_X12_move rfl) ?_
      obtain ⟨R79, b79, eR79, hr⟩ := stR_s hr
      refine G.bast (68) (by omega) (r0.a28) b79 (tbd tv_X12_move rfl) ?_
      refine G.gen (P := fun w9 => RfV E w9 (setSr (setS R79 42 az) sy) ∧ Fr RfK f0 w9) ⟨by rw [eR79]; exact r0.p28 _, Fr.up hf ⟨by decide, by decide⟩⟩ (fun u79 p79 => ?_)
      obtain ⟨r79, h79⟩ := p79
      refine G.go tv_X12_move 2 3 [(0, .ref (gAd E (71))), (1, .int (x1)), (2, .ref (gAd E (68))), (3, .int (x3)), (4, .int (x4 + (1 : Int32)))] [] rfl ?_
      refine G.less [(0, .ref (gAd E (71))), (1, .int (x1)), (2, .ref (gAd E (68))), (3, .int (x3)), (4, .int (x4 + (1 : Int32)))] [0, 1, 2, 3, 4] rfl ?_
      exact ih _ _ _ _ _ hr _ ⟨_, _, r79⟩ h79
set_option maxRecDepth 100000 in
set_option maxHeartbeats 4000000 in
theorem k_X12_move_71_68 (E : gE) (f : Nat → va_E) (hE : 94 ≤ gN E) (R : RfT) (w : RW E f R) (a1 : Int32) (a3 : Int32) (R9 : RfT) (hr : e_move_71_68 R a1 a3 = some R9) : Ct E 1 yX12_move cX12_move 5 none [.ref (gAd E (71)), .int (a1), .ref (gAd E (68)), .int (a3)] f (fun v g => v = none ∧ RW E g R9 ∧ Fr RfK f g, fun _ _ => False) := by
  obtain ⟨az, sy, r0⟩ := w
  refine Ct.of (by decide) (Nat.le_of_ble_eq_true rfl) (fun sz => ?_)
  refine G.eql [(0, .ref (gAd E (71))), (1, .int (a1)), (2, .ref (gAd E (68))), (3, .int (a3))] rfl ?_
  unfold e_move_71_68 at hr
  refine G.go tv_X12_move 2 3 [(0, .ref (gAd E (71))), (1, .int (a1)), (2, .ref (gAd E (68))), (3, .int (a3)), (4, .int ((0 : Int32)))] [] rfl ?_
  refine G.less [(0, .ref (gAd E (71))), (1, .int (a1)), (2, .ref (gAd E (68))), (3, .int (a3)), (4, .int ((0 : Int32)))] [0, 1, 2, 3, 4] rfl ?_
  exact l_X12_move_71_68_3 E f sz _ hE _ _ _ _ _ _ hr _ ⟨_, _, r0⟩ Fr.rf
theorem w_2438 : Cond.methodLink "LedgerFilesModel" 288 yX12_flushQueue ∈ TB := tp_10 132 (by decide +kernel) rfl
theorem w_2441 : Cond.code yX12_flushQueue prog_14_method_34_code 3 (some .int) ∈ TB := tp_10 135 rfl rfl
theorem cw_X12_288 : Cw RX12 288 yX12_flushQueue cX12_flushQueue 3 (some .int) 0 := ⟨w_2438, w_2441, w_161, by decide +kernel, by decide +kernel, by decide⟩
theorem w_2440 : Cond.instanceMethod yX12_flushQueue ∈ TB := tp_10 134 (by decide +kernel) rfl
theorem w_91 : Cond.selects "LedgerFilesModel" yX12_flushQueue yX12_flushQueue ∈ TB := tp_0 91 (by decide +kernel) rfl
noncomputable def e_commit_189  : Nat → RfT → Int32 → Option (RfT)
  | 0, _, _ => none
  | n + 1, R, x2 => if ((1024 : Int32)) ≤ x2 then if (rS R 29) = (rS R 3) then bnd2 (e_flushQueue R) (fun v88 R88 => some R88) else some R else ld (rA R 35) 1024 x2 (fun v89 => if v89 = ((2 : Int32)) then stR R 35 1024 x2 (vp_nar .byte ((1 : Int32))) (fun R92 => e_commit_189  n R92 (x2 + (1 : Int32))) else ld (rA R 35) 1024 x2 (fun v90 => stR R 35 1024 x2 (vp_nar .byte v90) (fun R91 => e_commit_189  n R91 (x2 + (1 : Int32)))))
noncomputable def e_commit_162  (R : RfT) (x1 : Int32) : Option (RfT) := if x1 = 0 then some R else stR R 26 16 (rS R 29) x1 (fun R86 => ptR R86 29 ((rS R86 29) + ((1 : Int32))) (fun R87 => e_commit_189  fuL R87 ((0 : Int32))))
noncomputable def e_commit_119  : Nat → RfT → Int32 → Int32 → Option (RfT)
  | 0, _, _, _ => none
  | n + 1, R, x1, x2 => if ((1024 : Int32)) ≤ x2 then e_commit_162  R x1 else if x1 = 0 then ld (rA R 35) 1024 x2 (fun v82 => if v82 = ((2 : Int32)) then stR R 35 1024 x2 (vp_nar .byte ((0 : Int32))) (fun R85 => e_commit_119  n R85 x1 (x2 + (1 : Int32))) else ld (rA R 35) 1024 x2 (fun v83 => stR R 35 1024 x2 (vp_nar .byte v83) (fun R84 => e_commit_119  n R84 x1 (x2 + (1 : Int32))))) else e_commit_162  R x1
noncomputable def e_commit_19  : Nat → RfT → Int32 → Int32 → Option (RfT)
  | 0, _, _, _ => none
  | n + 1, R, x1, x2 => if (rS R 33) ≤ x2 then bnd (e_noWorks R) (fun R73 => e_commit_119  fuL R73 x1 ((0 : Int32))) else bnd2 (e_isChanged R x2) (fun v74 R74 => if v74 = 0 then e_commit_19  n R74 x1 (x2 + (1 : Int32)) else ld (rA R74 30) 1024 x2 (fun v75 => stR R74 27 1024 ((((64 : Int32)) * (rS R74 29)) + (x1)) v75 (fun R76 => bnd (e_move_71_68 R76 (((128 : Int32)) * (x2)) (((128 : Int32)) * ((((64 : Int32)) * (rS R76 29)) + (x1)))) (fun R77 => ld (rA R77 30) 1024 x2 (fun v80 => stR R77 37 1024 v80 ((((64 : Int32)) * (rS R77 29)) + (x1)) (fun R81 => e_commit_19  n R81 (x1 + (1 : Int32)) (x2 + (1 : Int32))))))))
noncomputable def e_commit  (R : RfT) : Option (RfT) := if (rS R 11) = 0 then some R else if (rS R 34) = 0 then e_commit_19  fuL R ((0 : Int32)) ((0 : Int32)) else some R
set_option maxRecDepth 100000 in
set_option maxHeartbeats 4000000 in
theorem l_X12_commit_189 (E : gE) (f0 : Nat → va_E) (sz : Nat) (QA : Nat → Prop) (hE : 94 ≤ gN E) : ∀ (n : Nat), ∀ (R : RfT) (x2 : Int32) (R9 : RfT) (hr : e_commit_189  n R x2 = some R9) (f : Nat → va_E) (w : RW E f R) (hf : Fr RfK f0 f), G E (10, yX12_commit, 3, none, sz, QA) cX12_commit (gO E (10, yX12_commit, 3, none, sz, QA) (fun v g => v = none ∧ RW E g R9 ∧ Fr RfK f0 g, fun _ _ => False)) 189 [(0, .ref (gAd E (56))), (2, .int (x2))] [] f := by
  intro n
  induction n with
  | zero =>
    intro R x2 R9 hr f w hf
    cases hr
  | succ n ih =>
    intro R x2 R9 hr f w hf
    obtain ⟨az, sy, r0⟩ := w
    unfold e_commit_189 at hr
    refine G.go tv_X12_commit 2 193 [(0, .ref (gAd E (56))), (2, .int (x2))] [.int ((1024 : Int32)), .int (x2)] rfl ?_
    refine G.cmp_ge 228 (tbd tv_X12_commit rfl) (by decide) (fun c193 => ?_) (fun c193 => ?_)
    · replace hr := ite_t c193 hr
      refine G.go tv_X12_commit 1 229 [(0, .ref (gAd E (56))), (2, .int (x2))] [.ref (gAd E (56))] rfl ?_
      refine G.rg r0 hE 29 (.int (rS R 29)) (by decide) rfl (tbd tv_X12_commit rfl) w_2094 ?_
      refine G.go tv_X12_commit 1 233 [(0, .ref (gAd E (56))), (2, .int (x2))] [.ref (gAd E (56)), .int (rS R 29)] rfl ?_
      refine G.rg r0 hE 3 (.int (rS R 3)) (by decide) rfl (tbd tv_X12_commit rfl) w_2068 ?_
      refine G.cmp_ne 244 (tbd tv_X12_commit rfl) (by decide) (fun c236 => ?_) (fun c236 => ?_)
      · replace hr := ite_f c236 hr
        cases hr
        exact G.vret rfl ⟨rfl, ⟨_, _, r0⟩, hf⟩ (tbd tv_X12_commit rfl)
      · replace hr := ite_t c236 hr
        refine G.go tv_X12_commit 1 240 [(0, .ref (gAd E (56))), (2, .int (x2))] [.ref (gAd E (56))] rfl ?_
        obtain ⟨v88, R88, hv88, hr⟩ := bnd2_s hr
        refine G.callV (56) [] [] (k_X12_flushQueue E _ hE R ⟨_, _, r0⟩ v88 R88 hv88) cls_X12 (by omega) (r0.o) cw_X12_288 w_2440 w_91 (Nat.le_of_ble_eq_true rfl) rfl (Nat.le_of_ble_eq_true rfl) (tbd tv_X12_commit rfl) (fun v88w f88 q88 => ?_) (fun _ _ h => h.elim)
        obtain ⟨rfl, ⟨az88, sy88, r88⟩, fa88⟩ := q88
        refine G.eqs [.int (v88)] rfl ?_
        refine G.go tv_X12_commit 1 244 [(0, .ref (gAd E (56))), (2, .int (x2))] [] rfl ?_
        cases hr
        exact G.vret rfl ⟨rfl, ⟨_, _, r88⟩, (hf.tr fa88 (fun _ h => h))⟩ (tbd tv_X12_commit rfl)
    · replace hr := ite_f c193 hr
      refine G.go tv_X12_commit 1 197 [(0, .ref (gAd E (56))), (2, .int (x2))] [.ref (gAd E (56))] rfl ?_
      refine G.rg r0 hE 35 (.ref (gAd E (72))) (by decide) rfl (tbd tv_X12_commit rfl) w_2100 ?_
      refine G.go tv_X12_commit 2 202 [(0, .ref (gAd E (56))), (2, .int (x2))] [.ref (gAd E (56)), .int (x2), .ref (gAd E (72))] rfl ?_
      refine G.rg r0 hE 35 (.ref (gAd E (72))) (by decide) rfl (tbd tv_X12_commit rfl) w_2100 ?_
      refine G.go tv_X12_commit 1 206 [(0, .ref (gAd E (56))), (2, .int (x2))] [.int (x2), .ref (gAd E (72)), .int (x2), .ref (gAd E (72))] rfl ?_
      obtain ⟨v89, b89, e89, hr⟩ := ld_s hr
      refine G.baldE (72) (by omega) (r0.a35) b89 e89 (tbd tv_X12_commit rfl) ?_
      refine G.go tv_X12_commit 1 208 [(0, .ref (gAd E (56))), (2, .int (x2))] [.int ((2 : Int32)), .int (v89), .int (x2), .ref (gAd E (72))] rfl ?_
      refine G.cmp_ne 215 (tbd tv_X12_commit rfl) (by decide) (fun c208 => ?_) (fun c208 => ?_)
      · replace hr := ite_f c208 hr
        refine G.go tv_X12_commit 1 216 [(0, .ref (gAd E (56))), (2, .int (x2))] [.ref (gAd E (56)), .int (x2), .ref (gAd E (72))] rfl ?_
        refine G.rg r0 hE 35 (.ref (gAd E (72))) (by decide) rfl (tbd tv_X12_commit rfl) w_2100 ?_
        refine G.go tv_X12_commit 1 220 [(0, .ref (gAd E (56))), (2, .int (x2))] [.int (x2), .ref (gAd E (72)), .int (x2), .ref (gAd E (72))] rfl ?_
        obtain ⟨v90, b90, e90, hr⟩ := ld_s hr
        refine G.baldE (72) (by omega) (r0.a35) b90 e90 (tbd tv_X12_commit rfl) ?_
        obtain ⟨R91, b91, eR91, hr⟩ := stR_s hr
        refine G.bast (72) (by omega) (r0.a35) b91 (tbd tv_X12_commit rfl) ?_
        refine G.gen (P := fun w9 => RfV E w9 (setSr (setS R91 42 az) sy) ∧ Fr RfK f0 w9) ⟨by rw [eR91]; exact r0.p35 _, Fr.up hf ⟨by decide, by decide⟩⟩ (fun u91 p91 => ?_)
        obtain ⟨r91, h91⟩ := p91
        refine G.go tv_X12_commit 2 189 [(0, .ref (gAd E (56))), (2, .int (x2 + (1 : Int32)))] [] rfl ?_
        refine G.less [(0, .ref (gAd E (56))), (2, .int (x2 + (1 : Int32)))] [0, 1] rfl ?_
        exact ih _ _ _ hr _ ⟨_, _, r91⟩ h91
      · replace hr := ite_t c208 hr
        refine G.go tv_X12_commit 2 221 [(0, .ref (gAd E (56))), (2, .int (x2))] [.int ((1 : Int32)), .int (x2), .ref (gAd E (72))] rfl ?_
        obtain ⟨R92, b92, eR92, hr⟩ := stR_s hr
        refine G.bast (72) (by omega) (r0.a35) b92 (tbd tv_X12_commit rfl) ?_
        refine G.gen (P := fun w9 => RfV E w9 (setSr (setS R92 42 az) sy) ∧ Fr RfK f0 w9) ⟨by rw [eR92]; exact r0.p35 _, Fr.up hf ⟨by decide, by decide⟩⟩ (fun u92 p92 => ?_)
        obtain ⟨r92, h92⟩ := p92
        refine G.go tv_X12_commit 2 189 [(0, .ref (gAd E (56))), (2, .int (x2 + (1 : Int32)))] [] rfl ?_
        refine G.less [(0, .ref (gAd E (56))), (2, .int (x2 + (1 : Int32)))] [0, 1] rfl ?_
        exact ih _ _ _ hr _ ⟨_, _, r92⟩ h92
set_option maxRecDepth 100000 in
set_option maxHeartbeats 4000000 in
theorem l_X12_commit_162 (E : gE) (f0 : Nat → va_E) (sz : Nat) (QA : Nat → Prop) (hE : 94 ≤ gN E) : ∀ (R : RfT) (x1 : Int32) (R9 : RfT) (hr : e_commit_162  R x1 = some R9) (f : Nat → va_E) (w : RW E f R) (hf : Fr RfK f0 f), G E (10, yX12_commit, 3, none, sz, QA) cX12_commit (gO E (10, yX12_commit, 3, none, sz, QA) (fun v g => v = none ∧ RW E g R9 ∧ Fr RfK f0 g, fun _ _ => False)) 162 [(0, .ref (gAd E (56))), (1, .int (x1))] [] f := by
  intro R x1 R9 hr f w hf
  obtain ⟨az, sy, r0⟩ := w
  unfold e_commit_162 at hr
  refine G.go tv_X12_commit 1 163 [(0, .ref (gAd E (56))), (1, .int (x1))] [.int (x1)] rfl ?_
  refine G.if_ne 167 (tbd tv_X12_commit rfl) (by decide) (fun c163 => ?_) (fun c163 => ?_)
  · replace hr := ite_f c163 hr
    refine G.go tv_X12_commit 1 168 [(0, .ref (gAd E (56))), (1, .int (x1))] [.ref (gAd E (56))] rfl ?_
    refine G.rg r0 hE 26 (.ref (gAd E (66))) (by decide) rfl (tbd tv_X12_commit rfl) w_2091 ?_
    refine G.go tv_X12_commit 1 172 [(0, .ref (gAd E (56))), (1, .int (x1))] [.ref (gAd E (56)), .ref (gAd E (66))] rfl ?_
    refine G.rg r0 hE 29 (.int (rS R 29)) (by decide) rfl (tbd tv_X12_commit rfl) w_2094 ?_
    refine G.go tv_X12_commit 1 176 [(0, .ref (gAd E (56))), (1, .int (x1))] [.int (x1), .int (rS R 29), .ref (gAd E (66))] rfl ?_
    obtain ⟨R86, b86, eR86, hr⟩ := stR_s hr
    refine G.iast (66) (by omega) (r0.a26) b86 (tbd tv_X12_commit rfl) ?_
    refine G.gen (P := fun w9 => RfV E w9 (setSr (setS R86 42 az) sy) ∧ Fr RfK f0 w9) ⟨by rw [eR86]; exact r0.p26 _, Fr.up hf ⟨by decide, by decide⟩⟩ (fun u86 p86 => ?_)
    obtain ⟨r86, h86⟩ := p86
    refine G.go tv_X12_commit 2 179 [(0, .ref (gAd E (56))), (1, .int (x1))] [.ref (gAd E (56)), .ref (gAd E (56))] rfl ?_
    refine G.rg r86 hE 29 (.int (rS R86 29)) (by decide) rfl (tbd tv_X12_commit rfl) w_2094 ?_
    refine G.go tv_X12_commit 2 184 [(0, .ref (gAd E (56))), (1, .int (x1))] [.int ((rS R86 29) + ((1 : Int32))), .ref (gAd E (56))] rfl ?_
    obtain ⟨R87, eR87, hr⟩ := ptR_s hr
    refine G.rpW r86 hE 29 eR87 (by decide) rfl (by decide) rfl rfl rfl (tbd tv_X12_commit rfl) w_2094 (fun u87 r87 h87 => ?_)
    refine G.go tv_X12_commit 2 189 [(0, .ref (gAd E (56))), (1, .int (x1)), (2, .int ((0 : Int32)))] [] rfl ?_
    refine G.less [(0, .ref (gAd E (56))), (2, .int ((0 : Int32)))] [0, 2] rfl ?_
    exact l_X12_commit_189 E f0 sz QA hE _ _ _ _ hr _ ⟨_, _, r87⟩ (h86.tr h87 (fun _ h => h))
  · replace hr := ite_t c163 hr
    cases hr
    exact G.vret rfl ⟨rfl, ⟨_, _, r0⟩, hf⟩ (tbd tv_X12_commit rfl)
set_option maxRecDepth 100000 in
set_option maxHeartbeats 4000000 in
theorem l_X12_commit_119 (E : gE) (f0 : Nat → va_E) (sz : Nat) (QA : Nat → Prop) (hE : 94 ≤ gN E) : ∀ (n : Nat), ∀ (R : RfT) (x1 : Int32) (x2 : Int32) (R9 : RfT) (hr : e_commit_119  n R x1 x2 = some R9) (f : Nat → va_E) (w : RW E f R) (hf : Fr RfK f0 f), G E (10, yX12_commit, 3, none, sz, QA) cX12_commit (gO E (10, yX12_commit, 3, none, sz, QA) (fun v g => v = none ∧ RW E g R9 ∧ Fr RfK f0 g, fun _ _ => False)) 119 [(0, .ref (gAd E (56))), (1, .int (x1)), (2, .int (x2))] [] f := by
  intro n
  induction n with
  | zero =>
    intro R x1 x2 R9 hr f w hf
    cases hr
  | succ n ih =>
    intro R x1 x2 R9 hr f w hf
    obtain ⟨az, sy, r0⟩ := w
    unfold e_commit_119 at hr
    refine G.go tv_X12_commit 2 123 [(0, .ref (gAd E (56))), (1, .int (x1)), (2, .int (x2))] [.int ((1024 : Int32)), .int (x2)] rfl ?_
    refine G.cmp_ge 162 (tbd tv_X12_commit rfl) (by decide) (fun c123 => ?_) (fun c123 => ?_)
    · replace hr := ite_t c123 hr
      refine G.less [(0, .ref (gAd E (56))), (1, .int (x1))] [0, 1] rfl ?_
      exact l_X12_commit_162 E f0 sz QA hE _ _ _ hr _ ⟨_, _, r0⟩ hf
    · replace hr := ite_f c123 hr
      refine G.go tv_X12_commit 1 127 [(0, .ref (gAd E (56))), (1, .int (x1)), (2, .int (x2))] [.int (x1)] rfl ?_
      refine G.if_ne 162 (tbd tv_X12_commit rfl) (by decide) (fun c127 => ?_) (fun c127 => ?_)
      · replace hr := ite_f c127 hr
        refine G.less [(0, .ref (gAd E (56))), (1, .int (x1))] [0, 1] rfl ?_
        exact l_X12_commit_162 E f0 sz QA hE _ _ _ hr _ ⟨_, _, r0⟩ hf
      · replace hr := ite_t c127 hr
        refine G.go tv_X12_commit 1 131 [(0, .ref (gAd E (56))), (1, .int (x1)), (2, .int (x2))] [.ref (gAd E (56))] rfl ?_
        refine G.rg r0 hE 35 (.ref (gAd E (72))) (by decide) rfl (tbd tv_X12_commit rfl) w_2100 ?_
        refine G.go tv_X12_commit 2 136 [(0, .ref (gAd E (56))), (1, .int (x1)), (2, .int (x2))] [.ref (gAd E (56)), .int (x2), .ref (gAd E (72))] rfl ?_
        refine G.rg r0 hE 35 (.ref (gAd E (72))) (by decide) rfl (tbd tv_X12_commit rfl) w_2100 ?_
        refine G.go tv_X12_commit 1 140 [(0, .ref (gAd E (56))), (1, .int (x1)), (2, .int (x2))] [.int (x2), .ref (gAd E (72)), .int (x2), .ref (gAd E (72))] rfl ?_
        obtain ⟨v82, b82, e82, hr⟩ := ld_s hr
        refine G.baldE (72) (by omega) (r0.a35) b82 e82 (tbd tv_X12_commit rfl) ?_
        refine G.go tv_X12_commit 1 142 [(0, .ref (gAd E (56))), (1, .int (x1)), (2, .int (x2))] [.int ((2 : Int32)), .int (v82), .int (x2), .ref (gAd E (72))] rfl ?_
        refine G.cmp_ne 149 (tbd tv_X12_commit rfl) (by decide) (fun c142 => ?_) (fun c142 => ?_)
        · replace hr := ite_f c142 hr
          refine G.go tv_X12_commit 1 150 [(0, .ref (gAd E (56))), (1, .int (x1)), (2, .int (x2))] [.ref (gAd E (56)), .int (x2), .ref (gAd E (72))] rfl ?_
          refine G.rg r0 hE 35 (.ref (gAd E (72))) (by decide) rfl (tbd tv_X12_commit rfl) w_2100 ?_
          refine G.go tv_X12_commit 1 154 [(0, .ref (gAd E (56))), (1, .int (x1)), (2, .int (x2))] [.int (x2), .ref (gAd E (72)), .int (x2), .ref (gAd E (72))] rfl ?_
          obtain ⟨v83, b83, e83, hr⟩ := ld_s hr
          refine G.baldE (72) (by omega) (r0.a35) b83 e83 (tbd tv_X12_commit rfl) ?_
          obtain ⟨R84, b84, eR84, hr⟩ := stR_s hr
          refine G.bast (72) (by omega) (r0.a35) b84 (tbd tv_X12_commit rfl) ?_
          refine G.gen (P := fun w9 => RfV E w9 (setSr (setS R84 42 az) sy) ∧ Fr RfK f0 w9) ⟨by rw [eR84]; exact r0.p35 _, Fr.up hf ⟨by decide, by decide⟩⟩ (fun u84 p84 => ?_)
          obtain ⟨r84, h84⟩ := p84
          refine G.go tv_X12_commit 2 119 [(0, .ref (gAd E (56))), (1, .int (x1)), (2, .int (x2 + (1 : Int32)))] [] rfl ?_
          refine G.less [(0, .ref (gAd E (56))), (1, .int (x1)), (2, .int (x2 + (1 : Int32)))] [0, 1, 2] rfl ?_
          exact ih _ _ _ _ hr _ ⟨_, _, r84⟩ h84
        · replace hr := ite_t c142 hr
          refine G.go tv_X12_commit 2 155 [(0, .ref (gAd E (56))), (1, .int (x1)), (2, .int (x2))] [.int ((0 : Int32)), .int (x2), .ref (gAd E (72))] rfl ?_
          obtain ⟨R85, b85, eR85, hr⟩ := stR_s hr
          refine G.bast (72) (by omega) (r0.a35) b85 (tbd tv_X12_commit rfl) ?_
          refine G.gen (P := fun w9 => RfV E w9 (setSr (setS R85 42 az) sy) ∧ Fr RfK f0 w9) ⟨by rw [eR85]; exact r0.p35 _, Fr.up hf ⟨by decide, by decide⟩⟩ (fun u85 p85 => ?_)
          obtain ⟨r85, h85⟩ := p85
          refine G.go tv_X12_commit 2 119 [(0, .ref (gAd E (56))), (1, .int (x1)), (2, .int (x2 + (1 : Int32)))] [] rfl ?_
          refine G.less [(0, .ref (gAd E (56))), (1, .int (x1)), (2, .int (x2 + (1 : Int32)))] [0, 1, 2] rfl ?_
          exact ih _ _ _ _ hr _ ⟨_, _, r85⟩ h85
set_option maxRecDepth 100000 in
set_option maxHeartbeats 4000000 in
theorem l_X12_commit_19 (E : gE) (f0 : Nat → va_E) (sz : Nat) (QA : Nat → Prop) (hE : 94 ≤ gN E) : ∀ (n : Nat), ∀ (R : RfT) (x1 : Int32) (x2 : Int32) (R9 : RfT) (hr : e_commit_19  n R x1 x2 = some R9) (f : Nat → va_E) (w : RW E f R) (hf : Fr RfK f0 f), G E (10, yX12_commit, 3, none, sz, QA) cX12_commit (gO E (10, yX12_commit, 3, none, sz, QA) (fun v g => v = none ∧ RW E g R9 ∧ Fr RfK f0 g, fun _ _ => False)) 19 [(0, .ref (gAd E (56))), (1, .int (x1)), (2, .int (x2))] [] f := by
  intro n
  induction n with
  | zero =>
    intro R x1 x2 R9 hr f w hf
    cases hr
  | succ n ih =>
    intro R x1 x2 R9 hr f w hf
    obtain ⟨az, sy, r0⟩ := w
    unfold e_commit_19 at hr
    refine G.go tv_X12_commit 2 21 [(0, .ref (gAd E (56))), (1, .int (x1)), (2, .int (x2))] [.ref (gAd E (56)), .int (x2)] rfl ?_
    refine G.rg r0 hE 33 (.int (rS R 33)) (by decide) rfl (tbd tv_X12_commit rfl) w_2098 ?_
    refine G.cmp_ge 113 (tbd tv_X12_commit rfl) (by decide) (fun c24 => ?_) (fun c24 => ?_)
    · replace hr := ite_t c24 hr
      refine G.go tv_X12_commit 1 114 [(0, .ref (gAd E (56))), (1, .int (x1)), (2, .int (x2))] [.ref (gAd E (56))] rfl ?_
      obtain ⟨R73, hv73, hr⟩ := bnd_s hr
      refine G.callV (56) [] [] (k_X12_noWorks E _ hE R ⟨_, _, r0⟩ R73 hv73) cls_X12 (by omega) (r0.o) cw_X12_168 w_2300 w_61 (Nat.le_of_ble_eq_true rfl) rfl (Nat.le_of_ble_eq_true rfl) (tbd tv_X12_commit rfl) (fun v73w f73 q73 => ?_) (fun _ _ h => h.elim)
      obtain ⟨rfl, ⟨az73, sy73, r73⟩, fa73⟩ := q73
      refine G.eqs [] rfl ?_
      refine G.go tv_X12_commit 2 119 [(0, .ref (gAd E (56))), (1, .int (x1)), (2, .int ((0 : Int32)))] [] rfl ?_
      refine G.less [(0, .ref (gAd E (56))), (1, .int (x1)), (2, .int ((0 : Int32)))] [0, 1, 2] rfl ?_
      exact l_X12_commit_119 E f0 sz QA hE _ _ _ _ _ hr _ ⟨_, _, r73⟩ (hf.tr fa73 (fun _ h => h))
    · replace hr := ite_f c24 hr
      refine G.go tv_X12_commit 2 29 [(0, .ref (gAd E (56))), (1, .int (x1)), (2, .int (x2))] [.int (x2), .ref (gAd E (56))] rfl ?_
      obtain ⟨v74, R74, hv74, hr⟩ := bnd2_s hr
      refine G.callV (56) [.int (x2)] [] (k_X12_isChanged E _ hE R ⟨_, _, r0⟩ x2 v74 R74 hv74) cls_X12 (by omega) (r0.o) cw_X12_284 w_2436 w_90 (Nat.le_of_ble_eq_true rfl) rfl (Nat.le_of_ble_eq_true rfl) (tbd tv_X12_commit rfl) (fun v74w f74 q74 => ?_) (fun _ _ h => h.elim)
      obtain ⟨rfl, ⟨az74, sy74, r74⟩, fa74⟩ := q74
      refine G.eqs [.int (v74)] rfl ?_
      refine G.if_eq 107 (tbd tv_X12_commit rfl) (by decide) (fun c32 => ?_) (fun c32 => ?_)
      · replace hr := ite_t c32 hr
        refine G.go tv_X12_commit 2 19 [(0, .ref (gAd E (56))), (1, .int (x1)), (2, .int (x2 + (1 : Int32)))] [] rfl ?_
        refine G.less [(0, .ref (gAd E (56))), (1, .int (x1)), (2, .int (x2 + (1 : Int32)))] [0, 1, 2] rfl ?_
        exact ih _ _ _ _ hr _ ⟨_, _, r74⟩ (hf.tr fa74 (fun _ h => h))
      · replace hr := ite_f c32 hr
        refine G.go tv_X12_commit 1 36 [(0, .ref (gAd E (56))), (1, .int (x1)), (2, .int (x2))] [.ref (gAd E (56))] rfl ?_
        refine G.rg r74 hE 27 (.ref (gAd E (67))) (by decide) rfl (tbd tv_X12_commit rfl) w_2092 ?_
        refine G.go tv_X12_commit 2 42 [(0, .ref (gAd E (56))), (1, .int (x1)), (2, .int (x2))] [.ref (gAd E (56)), .int ((64 : Int32)), .ref (gAd E (67))] rfl ?_
        refine G.rg r74 hE 29 (.int (rS R74 29)) (by decide) rfl (tbd tv_X12_commit rfl) w_2094 ?_
        refine G.go tv_X12_commit 4 49 [(0, .ref (gAd E (56))), (1, .int (x1)), (2, .int (x2))] [.ref (gAd E (56)), .int ((((64 : Int32)) * (rS R74 29)) + (x1)), .ref (gAd E (67))] rfl ?_
        refine G.rg r74 hE 30 (.ref (gAd E (69))) (by decide) rfl (tbd tv_X12_commit rfl) w_2095 ?_
        refine G.go tv_X12_commit 1 53 [(0, .ref (gAd E (56))), (1, .int (x1)), (2, .int (x2))] [.int (x2), .ref (gAd E (69)), .int ((((64 : Int32)) * (rS R74 29)) + (x1)), .ref (gAd E (67))] rfl ?_
        obtain ⟨v75, b75, e75, hr⟩ := ld_s hr
        refine G.ialdE (69) (by omega) (r74.a30) b75 e75 (tbd tv_X12_commit rfl) ?_
        obtain ⟨R76, b76, eR76, hr⟩ := stR_s hr
        refine G.iast (67) (by omega) (r74.a27) b76 (tbd tv_X12_commit rfl) ?_
        refine G.gen (P := fun w9 => RfV E w9 (setSr (setS R76 42 az74) sy74) ∧ Fr RfK f0 w9) ⟨by rw [eR76]; exact r74.p27 _, Fr.up (hf.tr fa74 (fun _ h => h)) ⟨by decide, by decide⟩⟩ (fun u76 p76 => ?_)
        obtain ⟨r76, h76⟩ := p76
        refine G.go tv_X12_commit 1 56 [(0, .ref (gAd E (56))), (1, .int (x1)), (2, .int (x2))] [.ref (gAd E (56))] rfl ?_
        refine G.rg r76 hE 32 (.ref (gAd E (71))) (by decide) rfl (tbd tv_X12_commit rfl) w_2097 ?_
        refine G.go tv_X12_commit 4 65 [(0, .ref (gAd E (56))), (1, .int (x1)), (2, .int (x2))] [.ref (gAd E (56)), .int (((128 : Int32)) * (x2)), .ref (gAd E (71))] rfl ?_
        refine G.rg r76 hE 28 (.ref (gAd E (68))) (by decide) rfl (tbd tv_X12_commit rfl) w_2093 ?_
        refine G.go tv_X12_commit 3 74 [(0, .ref (gAd E (56))), (1, .int (x1)), (2, .int (x2))] [.ref (gAd E (56)), .int ((64 : Int32)), .int ((128 : Int32)), .ref (gAd E (68)), .int (((128 : Int32)) * (x2)), .ref (gAd E (71))] rfl ?_
        refine G.rg r76 hE 29 (.int (rS R76 29)) (by decide) rfl (tbd tv_X12_commit rfl) w_2094 ?_
        refine G.go tv_X12_commit 4 81 [(0, .ref (gAd E (56))), (1, .int (x1)), (2, .int (x2))] [.int (((128 : Int32)) * ((((64 : Int32)) * (rS R76 29)) + (x1))), .ref (gAd E (68)), .int (((128 : Int32)) * (x2)), .ref (gAd E (71))] rfl ?_
        obtain ⟨R77, hv77, hr⟩ := bnd_s hr
        refine G.callS [.ref (gAd E (71)), .int (((128 : Int32)) * (x2)), .ref (gAd E (68)), .int (((128 : Int32)) * ((((64 : Int32)) * (rS R76 29)) + (x1)))] [] (k_X12_move_71_68 E _ hE R76 ⟨_, _, r76⟩ (((128 : Int32)) * (x2)) (((128 : Int32)) * ((((64 : Int32)) * (rS R76 29)) + (x1))) R77 hv77) cw_X12_190 w_2307 (Nat.le_of_ble_eq_true rfl) rfl (Nat.le_of_ble_eq_true rfl) (tbd tv_X12_commit rfl) (fun v77w f77 q77 => ?_) (fun _ _ h => h.elim)
        obtain ⟨rfl, ⟨az77, sy77, r77⟩, fa77⟩ := q77
        refine G.eqs [] rfl ?_
        refine G.go tv_X12_commit 1 85 [(0, .ref (gAd E (56))), (1, .int (x1)), (2, .int (x2))] [.ref (gAd E (56))] rfl ?_
        refine G.rg r77 hE 37 (.ref (gAd E (74))) (by decide) rfl (tbd tv_X12_commit rfl) w_2102 ?_
        refine G.go tv_X12_commit 1 89 [(0, .ref (gAd E (56))), (1, .int (x1)), (2, .int (x2))] [.ref (gAd E (56)), .ref (gAd E (74))] rfl ?_
        refine G.rg r77 hE 30 (.ref (gAd E (69))) (by decide) rfl (tbd tv_X12_commit rfl) w_2095 ?_
        refine G.go tv_X12_commit 1 93 [(0, .ref (gAd E (56))), (1, .int (x1)), (2, .int (x2))] [.int (x2), .ref (gAd E (69)), .ref (gAd E (74))] rfl ?_
        obtain ⟨v80, b80, e80, hr⟩ := ld_s hr
        refine G.ialdE (69) (by omega) (r77.a30) b80 e80 (tbd tv_X12_commit rfl) ?_
        refine G.go tv_X12_commit 2 97 [(0, .ref (gAd E (56))), (1, .int (x1)), (2, .int (x2))] [.ref (gAd E (56)), .int ((64 : Int32)), .int (v80), .ref (gAd E (74))] rfl ?_
        refine G.rg r77 hE 29 (.int (rS R77 29)) (by decide) rfl (tbd tv_X12_commit rfl) w_2094 ?_
        refine G.go tv_X12_commit 3 103 [(0, .ref (gAd E (56))), (1, .int (x1)), (2, .int (x2))] [.int ((((64 : Int32)) * (rS R77 29)) + (x1)), .int (v80), .ref (gAd E (74))] rfl ?_
        obtain ⟨R81, b81, eR81, hr⟩ := stR_s hr
        refine G.iast (74) (by omega) (r77.a37) b81 (tbd tv_X12_commit rfl) ?_
        refine G.gen (P := fun w9 => RfV E w9 (setSr (setS R81 42 az77) sy77) ∧ Fr RfK f0 w9) ⟨by rw [eR81]; exact r77.p37 _, Fr.up (h76.tr fa77 (fun _ h => h)) ⟨by decide, by decide⟩⟩ (fun u81 p81 => ?_)
        obtain ⟨r81, h81⟩ := p81
        refine G.go tv_X12_commit 3 19 [(0, .ref (gAd E (56))), (1, .int (x1 + (1 : Int32))), (2, .int (x2 + (1 : Int32)))] [] rfl ?_
        refine G.less [(0, .ref (gAd E (56))), (1, .int (x1 + (1 : Int32))), (2, .int (x2 + (1 : Int32)))] [0, 1, 2] rfl ?_
        exact ih _ _ _ _ hr _ ⟨_, _, r81⟩ h81
set_option maxRecDepth 100000 in
set_option maxHeartbeats 4000000 in
theorem k_X12_commit (E : gE) (f : Nat → va_E) (hE : 94 ≤ gN E) (R : RfT) (w : RW E f R) (R9 : RfT) (hr : e_commit R = some R9) : Ct E 10 yX12_commit cX12_commit 3 none [.ref (gAd E (56))] f (fun v g => v = none ∧ RW E g R9 ∧ Fr RfK f g, fun _ _ => False) := by
  obtain ⟨az, sy, r0⟩ := w
  refine Ct.of (by decide) (Nat.le_of_ble_eq_true rfl) (fun sz => ?_)
  refine G.eql [(0, .ref (gAd E (56)))] rfl ?_
  unfold e_commit at hr
  refine G.go tv_X12_commit 1 1 [(0, .ref (gAd E (56)))] [.ref (gAd E (56))] rfl ?_
  refine G.rg r0 hE 11 (.int (rS R 11)) (by decide) rfl (tbd tv_X12_commit rfl) w_2076 ?_
  refine G.if_eq 14 (tbd tv_X12_commit rfl) (by decide) (fun c4 => ?_) (fun c4 => ?_)
  · replace hr := ite_t c4 hr
    cases hr
    exact G.vret rfl ⟨rfl, ⟨_, _, r0⟩, Fr.rf⟩ (tbd tv_X12_commit rfl)
  · replace hr := ite_f c4 hr
    refine G.go tv_X12_commit 1 8 [(0, .ref (gAd E (56)))] [.ref (gAd E (56))] rfl ?_
    refine G.rg r0 hE 34 (.int (rS R 34)) (by decide) rfl (tbd tv_X12_commit rfl) w_2099 ?_
    refine G.if_eq 15 (tbd tv_X12_commit rfl) (by decide) (fun c11 => ?_) (fun c11 => ?_)
    · replace hr := ite_t c11 hr
      refine G.go tv_X12_commit 4 19 [(0, .ref (gAd E (56))), (1, .int ((0 : Int32))), (2, .int ((0 : Int32)))] [] rfl ?_
      refine G.less [(0, .ref (gAd E (56))), (1, .int ((0 : Int32))), (2, .int ((0 : Int32)))] [0, 1, 2] rfl ?_
      exact l_X12_commit_19 E f sz _ hE _ _ _ _ _ hr _ ⟨_, _, r0⟩ Fr.rf
    · replace hr := ite_f c11 hr
      cases hr
      exact G.vret rfl ⟨rfl, ⟨_, _, r0⟩, Fr.rf⟩ (tbd tv_X12_commit rfl)
def tb_X12_direct : List (Nat × Instr × Nat) := [(0, .aload_n 0, 1), (1, .getfield 74, 3), (4, .iload_n 1, 1), (5, .iaload, 1), (6, .iconst (-1), 1), (7, .if_icmp .ne 13, 3), (10, .aload_n 0, 1), (11, .getfield 77, 3), (14, .iload_n 1, 1), (15, .iaload, 1), (16, .iconst (-1), 1), (17, .if_icmp .eq 7, 3), (20, .iconst 1, 1), (21, .goto 4, 3), (24, .iconst 0, 1), (25, .istore_n 2, 1), (26, .iload_n 2, 1), (27, .ifCond .eq 38, 3), (30, .aload_n 0, 1), (31, .getfield 89, 3), (34, .iconst 0, 1), (35, .aload_n 0, 1), (36, .getfield 98, 3), (39, .iconst 0, 1), (40, .invokestatic 190, 3), (43, .aload_n 0, 1), (44, .invokevirtual 288, 3), (47, .pop, 1), (48, .aload_n 0, 1), (49, .invokevirtual 268, 3), (52, .aload_n 0, 1), (53, .getfield 98, 3), (56, .iconst 0, 1), (57, .aload_n 0, 1), (58, .getfield 89, 3), (61, .iconst 0, 1), (62, .invokestatic 190, 3), (65, .aload_n 0, 1), (66, .iload_n 1, 1), (67, .aload_n 0, 1), (68, .getfield 89, 3), (71, .iconst 0, 1), (72, .invokevirtual 252, 3), (75, .return_, 1)]
theorem tv_X12_direct : Tv cX12_direct tb_X12_direct := by
  unfold Tv
  decide +kernel
def e_move_79_82_3  : Nat → RfT → Int32 → Int32 → Int32 → Option (RfT)
  | 0, _, _, _, _ => none
  | n + 1, R, x1, x3, x4 => if ((128 : Int32)) ≤ x4 then some R else ld (rA R 44) 128 ((x1) + (x4)) (fun v97 => stR R 48 128 ((x3) + (x4)) (vp_nar .byte v97) (fun R98 => e_move_79_82_3  n R98 x1 x3 (x4 + (1 : Int32))))
def e_move_79_82  (R : RfT) (a1 : Int32) (a3 : Int32) : Option (RfT) := e_move_79_82_3  fuL R a1 a3 ((0 : Int32))
set_option maxRecDepth 100000 in
set_option maxHeartbeats 4000000 in
theorem l_X12_move_79_82_3 (E : gE) (f0 : Nat → va_E) (sz : Nat) (QA : Nat → Prop) (hE : 94 ≤ gN E) : ∀ (n : Nat), ∀ (R : RfT) (x1 : Int32) (x3 : Int32) (x4 : Int32) (R9 : RfT) (hr : e_move_79_82_3  n R x1 x3 x4 = some R9) (f : Nat → va_E) (w : RW E f R) (hf : Fr RfK f0 f), G E (1, yX12_move, 5, none, sz, QA) cX12_move (gO E (1, yX12_move, 5, none, sz, QA) (fun v g => v = none ∧ RW E g R9 ∧ Fr RfK f0 g, fun _ _ => False)) 3 [(0, .ref (gAd E (79))), (1, .int (x1)), (2, .ref (gAd E (82))), (3, .int (x3)), (4, .int (x4))] [] f := by
  intro n
  induction n with
  | zero =>
    intro R x1 x3 x4 R9 hr f w hf
    cases hr
  | succ n ih =>
    intro R x1 x3 x4 R9 hr f w hf
    obtain ⟨az, sy, r0⟩ := w
    unfold e_move_79_82_3 at hr
    refine G.go tv_X12_move 2 8 [(0, .ref (gAd E (79))), (1, .int (x1)), (2, .ref (gAd E (82))), (3, .int (x3)), (4, .int (x4))] [.int ((128 : Int32)), .int (x4)] rfl ?_
    refine G.cmp_ge 29 (tbd tv_X12_move rfl) (by decide) (fun c8 => ?_) (fun c8 => ?_)
    · replace hr := ite_t c8 hr
      cases hr
      exact G.vret rfl ⟨rfl, ⟨_, _, r0⟩, hf⟩ (tbd tv_X12_move rfl)
    · replace hr := ite_f c8 hr
      refine G.go tv_X12_move 8 21 [(0, .ref (gAd E (79))), (1, .int (x1)), (2, .ref (gAd E (82))), (3, .int (x3)), (4, .int (x4))] [.int ((x1) + (x4)), .ref (gAd E (79)), .int ((x3) + (x4)), .ref (gAd E (82))] rfl ?_
      obtain ⟨v97, b97, e97, hr⟩ := ld_s hr
      refine G.baldE (79) (by omega) (r0.a44) b97 e97 (tbd tv_X12_move rfl) ?_
      obtain ⟨R98, b98, eR98, hr⟩ := stR_s hr
      refine G.bast (82) (by omega) (r0.a48) b98 (tbd tv_X12_move rfl) ?_
      refine G.gen (P := fun w9 => RfV E w9 (setSr (setS R98 42 az) sy) ∧ Fr RfK f0 w9) ⟨by rw [eR98]; exact r0.p48 _, Fr.up hf ⟨by decide, by decide⟩⟩ (fun u98 p98 => ?_)
      obtain ⟨r98, h98⟩ := p98
      refine G.go tv_X12_move 2 3 [(0, .ref (gAd E (79))), (1, .int (x1)), (2, .ref (gAd E (82))), (3, .int (x3)), (4, .int (x4 + (1 : Int32)))] [] rfl ?_
      refine G.less [(0, .ref (gAd E (79))), (1, .int (x1)), (2, .ref (gAd E (82))), (3, .int (x3)), (4, .int (x4 + (1 : Int32)))] [0, 1, 2, 3, 4] rfl ?_
      exact ih _ _ _ _ _ hr _ ⟨_, _, r98⟩ h98
set_option maxRecDepth 100000 in
set_option maxHeartbeats 4000000 in
theorem k_X12_move_79_82 (E : gE) (f : Nat → va_E) (hE : 94 ≤ gN E) (R : RfT) (w : RW E f R) (a1 : Int32) (a3 : Int32) (R9 : RfT) (hr : e_move_79_82 R a1 a3 = some R9) : Ct E 1 yX12_move cX12_move 5 none [.ref (gAd E (79)), .int (a1), .ref (gAd E (82)), .int (a3)] f (fun v g => v = none ∧ RW E g R9 ∧ Fr RfK f g, fun _ _ => False) := by
  obtain ⟨az, sy, r0⟩ := w
  refine Ct.of (by decide) (Nat.le_of_ble_eq_true rfl) (fun sz => ?_)
  refine G.eql [(0, .ref (gAd E (79))), (1, .int (a1)), (2, .ref (gAd E (82))), (3, .int (a3))] rfl ?_
  unfold e_move_79_82 at hr
  refine G.go tv_X12_move 2 3 [(0, .ref (gAd E (79))), (1, .int (a1)), (2, .ref (gAd E (82))), (3, .int (a3)), (4, .int ((0 : Int32)))] [] rfl ?_
  refine G.less [(0, .ref (gAd E (79))), (1, .int (a1)), (2, .ref (gAd E (82))), (3, .int (a3)), (4, .int ((0 : Int32)))] [0, 1, 2, 3, 4] rfl ?_
  exact l_X12_move_79_82_3 E f sz _ hE _ _ _ _ _ _ hr _ ⟨_, _, r0⟩ Fr.rf
def e_move_82_79_3  : Nat → RfT → Int32 → Int32 → Int32 → Option (RfT)
  | 0, _, _, _, _ => none
  | n + 1, R, x1, x3, x4 => if ((128 : Int32)) ≤ x4 then some R else ld (rA R 48) 128 ((x1) + (x4)) (fun v102 => stR R 44 128 ((x3) + (x4)) (vp_nar .byte v102) (fun R103 => e_move_82_79_3  n R103 x1 x3 (x4 + (1 : Int32))))
def e_move_82_79  (R : RfT) (a1 : Int32) (a3 : Int32) : Option (RfT) := e_move_82_79_3  fuL R a1 a3 ((0 : Int32))
set_option maxRecDepth 100000 in
set_option maxHeartbeats 4000000 in
theorem l_X12_move_82_79_3 (E : gE) (f0 : Nat → va_E) (sz : Nat) (QA : Nat → Prop) (hE : 94 ≤ gN E) : ∀ (n : Nat), ∀ (R : RfT) (x1 : Int32) (x3 : Int32) (x4 : Int32) (R9 : RfT) (hr : e_move_82_79_3  n R x1 x3 x4 = some R9) (f : Nat → va_E) (w : RW E f R) (hf : Fr RfK f0 f), G E (1, yX12_move, 5, none, sz, QA) cX12_move (gO E (1, yX12_move, 5, none, sz, QA) (fun v g => v = none ∧ RW E g R9 ∧ Fr RfK f0 g, fun _ _ => False)) 3 [(0, .ref (gAd E (82))), (1, .int (x1)), (2, .ref (gAd E (79))), (3, .int (x3)), (4, .int (x4))] [] f := by
  intro n
  induction n with
  | zero =>
    intro R x1 x3 x4 R9 hr f w hf
    cases hr
  | succ n ih =>
    intro R x1 x3 x4 R9 hr f w hf
    obtain ⟨az, sy, r0⟩ := w
    unfold e_move_82_79_3 at hr
    refine G.go tv_X12_move 2 8 [(0, .ref (gAd E (82))), (1, .int (x1)), (2, .ref (gAd E (79))), (3, .int (x3)), (4, .int (x4))] [.int ((128 : Int32)), .int (x4)] rfl ?_
    refine G.cmp_ge 29 (tbd tv_X12_move rfl) (by decide) (fun c8 => ?_) (fun c8 => ?_)
    · replace hr := ite_t c8 hr
      cases hr
      exact G.vret rfl ⟨rfl, ⟨_, _, r0⟩, hf⟩ (tbd tv_X12_move rfl)
    · replace hr := ite_f c8 hr
      refine G.go tv_X12_move 8 21 [(0, .ref (gAd E (82))), (1, .int (x1)), (2, .ref (gAd E (79))), (3, .int (x3)), (4, .int (x4))] [.int ((x1) + (x4)), .ref (gAd E (82)), .int ((x3) + (x4)), .ref (gAd E (79))] rfl ?_
      obtain ⟨v102, b102, e102, hr⟩ := ld_s hr
      refine G.baldE (82) (by omega) (r0.a48) b102 e102 (tbd tv_X12_move rfl) ?_
      obtain ⟨R103, b103, eR103, hr⟩ := stR_s hr
      refine G.bast (79) (by omega) (r0.a44) b103 (tbd tv_X12_move rfl) ?_
      refine G.gen (P := fun w9 => RfV E w9 (setSr (setS R103 42 az) sy) ∧ Fr RfK f0 w9) ⟨by rw [eR103]; exact r0.p44 _, Fr.up hf ⟨by decide, by decide⟩⟩ (fun u103 p103 => ?_)
      obtain ⟨r103, h103⟩ := p103
      refine G.go tv_X12_move 2 3 [(0, .ref (gAd E (82))), (1, .int (x1)), (2, .ref (gAd E (79))), (3, .int (x3)), (4, .int (x4 + (1 : Int32)))] [] rfl ?_
      refine G.less [(0, .ref (gAd E (82))), (1, .int (x1)), (2, .ref (gAd E (79))), (3, .int (x3)), (4, .int (x4 + (1 : Int32)))] [0, 1, 2, 3, 4] rfl ?_
      exact ih _ _ _ _ _ hr _ ⟨_, _, r103⟩ h103
set_option maxRecDepth 100000 in
set_option maxHeartbeats 4000000 in
theorem k_X12_move_82_79 (E : gE) (f : Nat → va_E) (hE : 94 ≤ gN E) (R : RfT) (w : RW E f R) (a1 : Int32) (a3 : Int32) (R9 : RfT) (hr : e_move_82_79 R a1 a3 = some R9) : Ct E 1 yX12_move cX12_move 5 none [.ref (gAd E (82)), .int (a1), .ref (gAd E (79)), .int (a3)] f (fun v g => v = none ∧ RW E g R9 ∧ Fr RfK f g, fun _ _ => False) := by
  obtain ⟨az, sy, r0⟩ := w
  refine Ct.of (by decide) (Nat.le_of_ble_eq_true rfl) (fun sz => ?_)
  refine G.eql [(0, .ref (gAd E (82))), (1, .int (a1)), (2, .ref (gAd E (79))), (3, .int (a3))] rfl ?_
  unfold e_move_82_79 at hr
  refine G.go tv_X12_move 2 3 [(0, .ref (gAd E (82))), (1, .int (a1)), (2, .ref (gAd E (79))), (3, .int (a3)), (4, .int ((0 : Int32)))] [] rfl ?_
  refine G.less [(0, .ref (gAd E (82))), (1, .int (a1)), (2, .ref (gAd E (79))), (3, .int (a3)), (4, .int ((0 : Int32)))] [0, 1, 2, 3, 4] rfl ?_
  exact l_X12_move_82_79_3 E f sz _ hE _ _ _ _ _ _ hr _ ⟨_, _, r0⟩ Fr.rf
noncomputable def e_direct_26  (R : RfT) (x1 : Int32) (x2 : Int32) : Option (RfT) := if x2 = 0 then bnd (e_hand_79 R x1 ((0 : Int32))) (fun R95 => some R95) else bnd (e_move_79_82 R ((0 : Int32)) ((0 : Int32))) (fun R96 => bnd2 (e_flushQueue R96) (fun v99 R99 => bnd (e_applyLog R99) (fun R100 => bnd (e_move_82_79 R100 ((0 : Int32)) ((0 : Int32))) (fun R101 => bnd (e_hand_79 R101 x1 ((0 : Int32))) (fun R104 => some R104)))))
noncomputable def e_direct_20  (R : RfT) (x1 : Int32) : Option (RfT) := e_direct_26  R x1 ((1 : Int32))
noncomputable def e_direct  (R : RfT) (a0 : Int32) : Option (RfT) := ld (rA R 37) 1024 a0 (fun v93 => if v93 = ((-1 : Int32)) then ld (rA R 38) 1024 a0 (fun v94 => if v94 = ((-1 : Int32)) then e_direct_26  R a0 ((0 : Int32)) else e_direct_20  R a0) else e_direct_20  R a0)
set_option maxRecDepth 100000 in
set_option maxHeartbeats 4000000 in
theorem l_X12_direct_26 (E : gE) (f0 : Nat → va_E) (sz : Nat) (QA : Nat → Prop) (hE : 94 ≤ gN E) : ∀ (R : RfT) (x1 : Int32) (x2 : Int32) (R9 : RfT) (hr : e_direct_26  R x1 x2 = some R9) (f : Nat → va_E) (w : RW E f R) (hf : Fr RfK f0 f), G E (10, yX12_direct, 3, none, sz, QA) cX12_direct (gO E (10, yX12_direct, 3, none, sz, QA) (fun v g => v = none ∧ RW E g R9 ∧ Fr RfK f0 g, fun _ _ => False)) 26 [(0, .ref (gAd E (56))), (1, .int (x1)), (2, .int (x2))] [] f := by
  intro R x1 x2 R9 hr f w hf
  obtain ⟨az, sy, r0⟩ := w
  unfold e_direct_26 at hr
  refine G.go tv_X12_direct 1 27 [(0, .ref (gAd E (56))), (1, .int (x1)), (2, .int (x2))] [.int (x2)] rfl ?_
  refine G.if_eq 65 (tbd tv_X12_direct rfl) (by decide) (fun c27 => ?_) (fun c27 => ?_)
  · replace hr := ite_t c27 hr
    refine G.go tv_X12_direct 3 68 [(0, .ref (gAd E (56))), (1, .int (x1)), (2, .int (x2))] [.ref (gAd E (56)), .int (x1), .ref (gAd E (56))] rfl ?_
    refine G.rg r0 hE 44 (.ref (gAd E (79))) (by decide) rfl (tbd tv_X12_direct rfl) w_2109 ?_
    refine G.go tv_X12_direct 1 72 [(0, .ref (gAd E (56))), (1, .int (x1)), (2, .int (x2))] [.int ((0 : Int32)), .ref (gAd E (79)), .int (x1), .ref (gAd E (56))] rfl ?_
    obtain ⟨R95, hv95, hr⟩ := bnd_s hr
    refine G.callV (56) [.int (x1), .ref (gAd E (79)), .int ((0 : Int32))] [] (k_X12_hand_79 E _ hE R ⟨_, _, r0⟩ x1 ((0 : Int32)) R95 hv95) cls_X12 (by omega) (r0.o) cw_X12_252 w_2280 w_56 (Nat.le_of_ble_eq_true rfl) rfl (Nat.le_of_ble_eq_true rfl) (tbd tv_X12_direct rfl) (fun v95w f95 q95 => ?_) (fun _ _ h => h.elim)
    obtain ⟨rfl, ⟨az95, sy95, r95⟩, fa95⟩ := q95
    refine G.eqs [] rfl ?_
    cases hr
    exact G.vret rfl ⟨rfl, ⟨_, _, r95⟩, (hf.tr fa95 (fun _ h => h))⟩ (tbd tv_X12_direct rfl)
  · replace hr := ite_f c27 hr
    refine G.go tv_X12_direct 1 31 [(0, .ref (gAd E (56))), (1, .int (x1)), (2, .int (x2))] [.ref (gAd E (56))] rfl ?_
    refine G.rg r0 hE 44 (.ref (gAd E (79))) (by decide) rfl (tbd tv_X12_direct rfl) w_2109 ?_
    refine G.go tv_X12_direct 2 36 [(0, .ref (gAd E (56))), (1, .int (x1)), (2, .int (x2))] [.ref (gAd E (56)), .int ((0 : Int32)), .ref (gAd E (79))] rfl ?_
    refine G.rg r0 hE 48 (.ref (gAd E (82))) (by decide) rfl (tbd tv_X12_direct rfl) w_2113 ?_
    refine G.go tv_X12_direct 1 40 [(0, .ref (gAd E (56))), (1, .int (x1)), (2, .int (x2))] [.int ((0 : Int32)), .ref (gAd E (82)), .int ((0 : Int32)), .ref (gAd E (79))] rfl ?_
    obtain ⟨R96, hv96, hr⟩ := bnd_s hr
    refine G.callS [.ref (gAd E (79)), .int ((0 : Int32)), .ref (gAd E (82)), .int ((0 : Int32))] [] (k_X12_move_79_82 E _ hE R ⟨_, _, r0⟩ ((0 : Int32)) ((0 : Int32)) R96 hv96) cw_X12_190 w_2307 (Nat.le_of_ble_eq_true rfl) rfl (Nat.le_of_ble_eq_true rfl) (tbd tv_X12_direct rfl) (fun v96w f96 q96 => ?_) (fun _ _ h => h.elim)
    obtain ⟨rfl, ⟨az96, sy96, r96⟩, fa96⟩ := q96
    refine G.eqs [] rfl ?_
    refine G.go tv_X12_direct 1 44 [(0, .ref (gAd E (56))), (1, .int (x1)), (2, .int (x2))] [.ref (gAd E (56))] rfl ?_
    obtain ⟨v99, R99, hv99, hr⟩ := bnd2_s hr
    refine G.callV (56) [] [] (k_X12_flushQueue E _ hE R96 ⟨_, _, r96⟩ v99 R99 hv99) cls_X12 (by omega) (r96.o) cw_X12_288 w_2440 w_91 (Nat.le_of_ble_eq_true rfl) rfl (Nat.le_of_ble_eq_true rfl) (tbd tv_X12_direct rfl) (fun v99w f99 q99 => ?_) (fun _ _ h => h.elim)
    obtain ⟨rfl, ⟨az99, sy99, r99⟩, fa99⟩ := q99
    refine G.eqs [.int (v99)] rfl ?_
    refine G.go tv_X12_direct 2 49 [(0, .ref (gAd E (56))), (1, .int (x1)), (2, .int (x2))] [.ref (gAd E (56))] rfl ?_
    obtain ⟨R100, hv100, hr⟩ := bnd_s hr
    refine G.callV (56) [] [] (k_X12_applyLog E _ hE R99 ⟨_, _, r99⟩ R100 hv100) cls_X12 (by omega) (r99.o) cw_X12_268 w_2357 w_71 (Nat.le_of_ble_eq_true rfl) rfl (Nat.le_of_ble_eq_true rfl) (tbd tv_X12_direct rfl) (fun v100w f100 q100 => ?_) (fun _ _ h => h.elim)
    obtain ⟨rfl, ⟨az100, sy100, r100⟩, fa100⟩ := q100
    refine G.eqs [] rfl ?_
    refine G.go tv_X12_direct 1 53 [(0, .ref (gAd E (56))), (1, .int (x1)), (2, .int (x2))] [.ref (gAd E (56))] rfl ?_
    refine G.rg r100 hE 48 (.ref (gAd E (82))) (by decide) rfl (tbd tv_X12_direct rfl) w_2113 ?_
    refine G.go tv_X12_direct 2 58 [(0, .ref (gAd E (56))), (1, .int (x1)), (2, .int (x2))] [.ref (gAd E (56)), .int ((0 : Int32)), .ref (gAd E (82))] rfl ?_
    refine G.rg r100 hE 44 (.ref (gAd E (79))) (by decide) rfl (tbd tv_X12_direct rfl) w_2109 ?_
    refine G.go tv_X12_direct 1 62 [(0, .ref (gAd E (56))), (1, .int (x1)), (2, .int (x2))] [.int ((0 : Int32)), .ref (gAd E (79)), .int ((0 : Int32)), .ref (gAd E (82))] rfl ?_
    obtain ⟨R101, hv101, hr⟩ := bnd_s hr
    refine G.callS [.ref (gAd E (82)), .int ((0 : Int32)), .ref (gAd E (79)), .int ((0 : Int32))] [] (k_X12_move_82_79 E _ hE R100 ⟨_, _, r100⟩ ((0 : Int32)) ((0 : Int32)) R101 hv101) cw_X12_190 w_2307 (Nat.le_of_ble_eq_true rfl) rfl (Nat.le_of_ble_eq_true rfl) (tbd tv_X12_direct rfl) (fun v101w f101 q101 => ?_) (fun _ _ h => h.elim)
    obtain ⟨rfl, ⟨az101, sy101, r101⟩, fa101⟩ := q101
    refine G.eqs [] rfl ?_
    refine G.go tv_X12_direct 3 68 [(0, .ref (gAd E (56))), (1, .int (x1)), (2, .int (x2))] [.ref (gAd E (56)), .int (x1), .ref (gAd E (56))] rfl ?_
    refine G.rg r101 hE 44 (.ref (gAd E (79))) (by decide) rfl (tbd tv_X12_direct rfl) w_2109 ?_
    refine G.go tv_X12_direct 1 72 [(0, .ref (gAd E (56))), (1, .int (x1)), (2, .int (x2))] [.int ((0 : Int32)), .ref (gAd E (79)), .int (x1), .ref (gAd E (56))] rfl ?_
    obtain ⟨R104, hv104, hr⟩ := bnd_s hr
    refine G.callV (56) [.int (x1), .ref (gAd E (79)), .int ((0 : Int32))] [] (k_X12_hand_79 E _ hE R101 ⟨_, _, r101⟩ x1 ((0 : Int32)) R104 hv104) cls_X12 (by omega) (r101.o) cw_X12_252 w_2280 w_56 (Nat.le_of_ble_eq_true rfl) rfl (Nat.le_of_ble_eq_true rfl) (tbd tv_X12_direct rfl) (fun v104w f104 q104 => ?_) (fun _ _ h => h.elim)
    obtain ⟨rfl, ⟨az104, sy104, r104⟩, fa104⟩ := q104
    refine G.eqs [] rfl ?_
    cases hr
    exact G.vret rfl ⟨rfl, ⟨_, _, r104⟩, (((((hf.tr fa96 (fun _ h => h)).tr fa99 (fun _ h => h)).tr fa100 (fun _ h => h)).tr fa101 (fun _ h => h)).tr fa104 (fun _ h => h))⟩ (tbd tv_X12_direct rfl)
set_option maxRecDepth 100000 in
set_option maxHeartbeats 4000000 in
theorem l_X12_direct_20 (E : gE) (f0 : Nat → va_E) (sz : Nat) (QA : Nat → Prop) (hE : 94 ≤ gN E) : ∀ (R : RfT) (x1 : Int32) (R9 : RfT) (hr : e_direct_20  R x1 = some R9) (f : Nat → va_E) (w : RW E f R) (hf : Fr RfK f0 f), G E (10, yX12_direct, 3, none, sz, QA) cX12_direct (gO E (10, yX12_direct, 3, none, sz, QA) (fun v g => v = none ∧ RW E g R9 ∧ Fr RfK f0 g, fun _ _ => False)) 20 [(0, .ref (gAd E (56))), (1, .int (x1))] [] f := by
  intro R x1 R9 hr f w hf
  obtain ⟨az, sy, r0⟩ := w
  unfold e_direct_20 at hr
  refine G.go tv_X12_direct 3 26 [(0, .ref (gAd E (56))), (1, .int (x1)), (2, .int ((1 : Int32)))] [] rfl ?_
  refine G.less [(0, .ref (gAd E (56))), (1, .int (x1)), (2, .int ((1 : Int32)))] [0, 1, 2] rfl ?_
  exact l_X12_direct_26 E f0 sz QA hE _ _ _ _ hr _ ⟨_, _, r0⟩ hf
set_option maxRecDepth 100000 in
set_option maxHeartbeats 4000000 in
theorem k_X12_direct (E : gE) (f : Nat → va_E) (hE : 94 ≤ gN E) (R : RfT) (w : RW E f R) (a0 : Int32) (R9 : RfT) (hr : e_direct R a0 = some R9) : Ct E 10 yX12_direct cX12_direct 3 none [.ref (gAd E (56)), .int (a0)] f (fun v g => v = none ∧ RW E g R9 ∧ Fr RfK f g, fun _ _ => False) := by
  obtain ⟨az, sy, r0⟩ := w
  refine Ct.of (by decide) (Nat.le_of_ble_eq_true rfl) (fun sz => ?_)
  refine G.eql [(0, .ref (gAd E (56))), (1, .int (a0))] rfl ?_
  unfold e_direct at hr
  refine G.go tv_X12_direct 1 1 [(0, .ref (gAd E (56))), (1, .int (a0))] [.ref (gAd E (56))] rfl ?_
  refine G.rg r0 hE 37 (.ref (gAd E (74))) (by decide) rfl (tbd tv_X12_direct rfl) w_2102 ?_
  refine G.go tv_X12_direct 1 5 [(0, .ref (gAd E (56))), (1, .int (a0))] [.int (a0), .ref (gAd E (74))] rfl ?_
  obtain ⟨v93, b93, e93, hr⟩ := ld_s hr
  refine G.ialdE (74) (by omega) (r0.a37) b93 e93 (tbd tv_X12_direct rfl) ?_
  refine G.go tv_X12_direct 1 7 [(0, .ref (gAd E (56))), (1, .int (a0))] [.int ((-1 : Int32)), .int (v93)] rfl ?_
  refine G.cmp_ne 20 (tbd tv_X12_direct rfl) (by decide) (fun c7 => ?_) (fun c7 => ?_)
  · replace hr := ite_f c7 hr
    refine G.less [(0, .ref (gAd E (56))), (1, .int (a0))] [0, 1] rfl ?_
    exact l_X12_direct_20 E f sz _ hE _ _ _ hr _ ⟨_, _, r0⟩ Fr.rf
  · replace hr := ite_t c7 hr
    refine G.go tv_X12_direct 1 11 [(0, .ref (gAd E (56))), (1, .int (a0))] [.ref (gAd E (56))] rfl ?_
    refine G.rg r0 hE 38 (.ref (gAd E (75))) (by decide) rfl (tbd tv_X12_direct rfl) w_2103 ?_
    refine G.go tv_X12_direct 1 15 [(0, .ref (gAd E (56))), (1, .int (a0))] [.int (a0), .ref (gAd E (75))] rfl ?_
    obtain ⟨v94, b94, e94, hr⟩ := ld_s hr
    refine G.ialdE (75) (by omega) (r0.a38) b94 e94 (tbd tv_X12_direct rfl) ?_
    refine G.go tv_X12_direct 1 17 [(0, .ref (gAd E (56))), (1, .int (a0))] [.int ((-1 : Int32)), .int (v94)] rfl ?_
    refine G.cmp_eq 24 (tbd tv_X12_direct rfl) (by decide) (fun c17 => ?_) (fun c17 => ?_)
    · replace hr := ite_t c17 hr
      refine G.go tv_X12_direct 2 26 [(0, .ref (gAd E (56))), (1, .int (a0)), (2, .int ((0 : Int32)))] [] rfl ?_
      refine G.less [(0, .ref (gAd E (56))), (1, .int (a0)), (2, .int ((0 : Int32)))] [0, 1, 2] rfl ?_
      exact l_X12_direct_26 E f sz _ hE _ _ _ _ hr _ ⟨_, _, r0⟩ Fr.rf
    · replace hr := ite_f c17 hr
      refine G.less [(0, .ref (gAd E (56))), (1, .int (a0))] [0, 1] rfl ?_
      exact l_X12_direct_20 E f sz _ hE _ _ _ hr _ ⟨_, _, r0⟩ Fr.rf
def tb_X12_take : List (Nat × Instr × Nat) := [(0, .aload_n 0, 1), (1, .invokevirtual 310, 3), (4, .istore_n 1, 1), (5, .iload_n 1, 1), (6, .iconst (-1), 1), (7, .if_icmp .ne 24, 3), (10, .aload_n 0, 1), (11, .invokevirtual 288, 3), (14, .pop, 1), (15, .aload_n 0, 1), (16, .getfield 25, 3), (19, .ifCond .eq 10, 3), (22, .aload_n 0, 1), (23, .invokevirtual 310, 3), (26, .goto 4, 3), (29, .iconst (-1), 1), (30, .istore_n 1, 1), (31, .iload_n 1, 1), (32, .iconst (-1), 1), (33, .if_icmp .eq 18, 3), (36, .aload_n 0, 1), (37, .bipush 43, 2), (39, .iload_n 1, 1), (40, .iconst 1, 1), (41, .invokevirtual 313, 3), (44, .aload_n 0, 1), (45, .getfield 101, 3), (48, .iload_n 1, 1), (49, .iconst 1, 1), (50, .bastore, 1), (51, .iload_n 1, 1), (52, .ireturn, 1)]
theorem tv_X12_take : Tv cX12_take tb_X12_take := by
  unfold Tv
  decide +kernel
theorem w_2557 : Cond.methodLink "LedgerFilesModel" 310 yX12_lowestFree ∈ TB := tp_11 11 (by decide +kernel) rfl
theorem w_2560 : Cond.code yX12_lowestFree prog_14_method_49_code 2 (some .int) ∈ TB := tp_11 14 rfl rfl
theorem cw_X12_310 : Cw RX12 310 yX12_lowestFree cX12_lowestFree 2 (some .int) 0 := ⟨w_2557, w_2560, w_161, by decide +kernel, by decide +kernel, by decide⟩
theorem w_2559 : Cond.instanceMethod yX12_lowestFree ∈ TB := tp_11 13 (by decide +kernel) rfl
theorem w_118 : Cond.selects "LedgerFilesModel" yX12_lowestFree yX12_lowestFree ∈ TB := tp_0 118 (by decide +kernel) rfl
noncomputable def e_take_31  (R : RfT) (x1 : Int32) : Option (Int32 × RfT) := if x1 = ((-1 : Int32)) then some (x1, R) else bnd (e_setBit R ((43 : Int32)) x1 ((1 : Int32))) (fun R108 => stR R108 49 1024 x1 (vp_nar .boolean ((1 : Int32))) (fun R109 => some (x1, R109)))
noncomputable def e_take  (R : RfT) : Option (Int32 × RfT) := bnd2 (e_lowestFree R) (fun v105 R105 => if v105 = ((-1 : Int32)) then bnd2 (e_flushQueue R105) (fun v106 R106 => if (rS R106 11) = 0 then e_take_31  R106 ((-1 : Int32)) else bnd2 (e_lowestFree R106) (fun v107 R107 => e_take_31  R107 v107)) else e_take_31  R105 v105)
set_option maxRecDepth 100000 in
set_option maxHeartbeats 4000000 in
theorem l_X12_take_31 (E : gE) (f0 : Nat → va_E) (sz : Nat) (QA : Nat → Prop) (hE : 94 ≤ gN E) : ∀ (R : RfT) (x1 : Int32) (r : Int32) (R9 : RfT) (hr : e_take_31  R x1 = some (r, R9)) (f : Nat → va_E) (w : RW E f R) (hf : Fr RfK f0 f), G E (10, yX12_take, 2, (some .int), sz, QA) cX12_take (gO E (10, yX12_take, 2, (some .int), sz, QA) (fun v g => v = some (.int r) ∧ RW E g R9 ∧ Fr RfK f0 g, fun _ _ => False)) 31 [(0, .ref (gAd E (56))), (1, .int (x1))] [] f := by
  intro R x1 r R9 hr f w hf
  obtain ⟨az, sy, r0⟩ := w
  unfold e_take_31 at hr
  refine G.go tv_X12_take 2 33 [(0, .ref (gAd E (56))), (1, .int (x1))] [.int ((-1 : Int32)), .int (x1)] rfl ?_
  refine G.cmp_eq 51 (tbd tv_X12_take rfl) (by decide) (fun c33 => ?_) (fun c33 => ?_)
  · replace hr := ite_t c33 hr
    refine G.go tv_X12_take 1 52 [(0, .ref (gAd E (56))), (1, .int (x1))] [.int (x1)] rfl ?_
    cases hr
    exact G.iret rfl rfl ⟨rfl, ⟨_, _, r0⟩, hf⟩ (tbd tv_X12_take rfl)
  · replace hr := ite_f c33 hr
    refine G.go tv_X12_take 4 41 [(0, .ref (gAd E (56))), (1, .int (x1))] [.int ((1 : Int32)), .int (x1), .int ((43 : Int32)), .ref (gAd E (56))] rfl ?_
    obtain ⟨R108, hv108, hr⟩ := bnd_s hr
    refine G.callV (56) [.int ((43 : Int32)), .int (x1), .int ((1 : Int32))] [] (k_X12_setBit E _ hE R ⟨_, _, r0⟩ ((43 : Int32)) x1 ((1 : Int32)) R108 hv108) cls_X12 (by omega) (r0.o) cw_X12_313 w_2408 w_83 (Nat.le_of_ble_eq_true rfl) rfl (Nat.le_of_ble_eq_true rfl) (tbd tv_X12_take rfl) (fun v108w f108 q108 => ?_) (fun _ _ h => h.elim)
    obtain ⟨rfl, ⟨az108, sy108, r108⟩, fa108⟩ := q108
    refine G.eqs [] rfl ?_
    refine G.go tv_X12_take 1 45 [(0, .ref (gAd E (56))), (1, .int (x1))] [.ref (gAd E (56))] rfl ?_
    refine G.rg r108 hE 49 (.ref (gAd E (83))) (by decide) rfl (tbd tv_X12_take rfl) w_2114 ?_
    refine G.go tv_X12_take 2 50 [(0, .ref (gAd E (56))), (1, .int (x1))] [.int ((1 : Int32)), .int (x1), .ref (gAd E (83))] rfl ?_
    obtain ⟨R109, b109, eR109, hr⟩ := stR_s hr
    refine G.zast (83) (by omega) (r108.a49) b109 (tbd tv_X12_take rfl) ?_
    refine G.gen (P := fun w9 => RfV E w9 (setSr (setS R109 42 az108) sy108) ∧ Fr RfK f0 w9) ⟨by rw [eR109]; exact r108.p49 _, Fr.up (hf.tr fa108 (fun _ h => h)) ⟨by decide, by decide⟩⟩ (fun u109 p109 => ?_)
    obtain ⟨r109, h109⟩ := p109
    refine G.go tv_X12_take 1 52 [(0, .ref (gAd E (56))), (1, .int (x1))] [.int (x1)] rfl ?_
    cases hr
    exact G.iret rfl rfl ⟨rfl, ⟨_, _, r109⟩, h109⟩ (tbd tv_X12_take rfl)
set_option maxRecDepth 100000 in
set_option maxHeartbeats 4000000 in
theorem k_X12_take (E : gE) (f : Nat → va_E) (hE : 94 ≤ gN E) (R : RfT) (w : RW E f R) (r : Int32) (R9 : RfT) (hr : e_take R = some (r, R9)) : Ct E 10 yX12_take cX12_take 2 (some .int) [.ref (gAd E (56))] f (fun v g => v = some (.int r) ∧ RW E g R9 ∧ Fr RfK f g, fun _ _ => False) := by
  obtain ⟨az, sy, r0⟩ := w
  refine Ct.of (by decide) (Nat.le_of_ble_eq_true rfl) (fun sz => ?_)
  refine G.eql [(0, .ref (gAd E (56)))] rfl ?_
  unfold e_take at hr
  refine G.go tv_X12_take 1 1 [(0, .ref (gAd E (56)))] [.ref (gAd E (56))] rfl ?_
  obtain ⟨v105, R105, hv105, hr⟩ := bnd2_s hr
  refine G.callV (56) [] [] (k_X12_lowestFree E _ hE R ⟨_, _, r0⟩ v105 R105 hv105) cls_X12 (by omega) (r0.o) cw_X12_310 w_2559 w_118 (Nat.le_of_ble_eq_true rfl) rfl (Nat.le_of_ble_eq_true rfl) (tbd tv_X12_take rfl) (fun v105w f105 q105 => ?_) (fun _ _ h => h.elim)
  obtain ⟨rfl, ⟨az105, sy105, r105⟩, fa105⟩ := q105
  refine G.eqs [.int (v105)] rfl ?_
  refine G.go tv_X12_take 3 7 [(0, .ref (gAd E (56))), (1, .int (v105))] [.int ((-1 : Int32)), .int (v105)] rfl ?_
  refine G.cmp_ne 31 (tbd tv_X12_take rfl) (by decide) (fun c7 => ?_) (fun c7 => ?_)
  · replace hr := ite_f c7 hr
    refine G.less [(0, .ref (gAd E (56))), (1, .int (v105))] [0, 1] rfl ?_
    exact l_X12_take_31 E f sz _ hE _ _ _ _ hr _ ⟨_, _, r105⟩ (Fr.rf.tr fa105 (fun _ h => h))
  · replace hr := ite_t c7 hr
    refine G.go tv_X12_take 1 11 [(0, .ref (gAd E (56))), (1, .int (v105))] [.ref (gAd E (56))] rfl ?_
    obtain ⟨v106, R106, hv106, hr⟩ := bnd2_s hr
    refine G.callV (56) [] [] (k_X12_flushQueue E _ hE R105 ⟨_, _, r105⟩ v106 R106 hv106) cls_X12 (by omega) (r105.o) cw_X12_288 w_2440 w_91 (Nat.le_of_ble_eq_true rfl) rfl (Nat.le_of_ble_eq_true rfl) (tbd tv_X12_take rfl) (fun v106w f106 q106 => ?_) (fun _ _ h => h.elim)
    obtain ⟨rfl, ⟨az106, sy106, r106⟩, fa106⟩ := q106
    refine G.eqs [.int (v106)] rfl ?_
    refine G.go tv_X12_take 2 16 [(0, .ref (gAd E (56))), (1, .int (v105))] [.ref (gAd E (56))] rfl ?_
    refine G.rg r106 hE 11 (.int (rS R106 11)) (by decide) rfl (tbd tv_X12_take rfl) w_2076 ?_
    refine G.if_eq 29 (tbd tv_X12_take rfl) (by decide) (fun c19 => ?_) (fun c19 => ?_)
    · replace hr := ite_t c19 hr
      refine G.go tv_X12_take 2 31 [(0, .ref (gAd E (56))), (1, .int ((-1 : Int32)))] [] rfl ?_
      refine G.less [(0, .ref (gAd E (56))), (1, .int ((-1 : Int32)))] [0, 1] rfl ?_
      exact l_X12_take_31 E f sz _ hE _ _ _ _ hr _ ⟨_, _, r106⟩ ((Fr.rf.tr fa105 (fun _ h => h)).tr fa106 (fun _ h => h))
    · replace hr := ite_f c19 hr
      refine G.go tv_X12_take 1 23 [(0, .ref (gAd E (56))), (1, .int (v105))] [.ref (gAd E (56))] rfl ?_
      obtain ⟨v107, R107, hv107, hr⟩ := bnd2_s hr
      refine G.callV (56) [] [] (k_X12_lowestFree E _ hE R106 ⟨_, _, r106⟩ v107 R107 hv107) cls_X12 (by omega) (r106.o) cw_X12_310 w_2559 w_118 (Nat.le_of_ble_eq_true rfl) rfl (Nat.le_of_ble_eq_true rfl) (tbd tv_X12_take rfl) (fun v107w f107 q107 => ?_) (fun _ _ h => h.elim)
      obtain ⟨rfl, ⟨az107, sy107, r107⟩, fa107⟩ := q107
      refine G.eqs [.int (v107)] rfl ?_
      refine G.go tv_X12_take 2 31 [(0, .ref (gAd E (56))), (1, .int (v107))] [] rfl ?_
      refine G.less [(0, .ref (gAd E (56))), (1, .int (v107))] [0, 1] rfl ?_
      exact l_X12_take_31 E f sz _ hE _ _ _ _ hr _ ⟨_, _, r107⟩ (((Fr.rf.tr fa105 (fun _ h => h)).tr fa106 (fun _ h => h)).tr fa107 (fun _ h => h))
def tb_X12_takeTable : List (Nat × Instr × Nat) := [(0, .aload_n 0, 1), (1, .invokevirtual 317, 3), (4, .istore_n 1, 1), (5, .iload_n 1, 1), (6, .iconst (-1), 1), (7, .if_icmp .eq 74, 3), (10, .aload_n 0, 1), (11, .getfield 71, 3), (14, .iload_n 1, 1), (15, .aload_n 0, 1), (16, .getfield 144, 3), (19, .iastore, 1), (20, .aload_n 0, 1), (21, .getfield 58, 3), (24, .aload_n 0, 1), (25, .getfield 144, 3), (28, .iload_n 1, 1), (29, .iastore, 1), (30, .aload_n 0, 1), (31, .getfield 61, 3), (34, .aload_n 0, 1), (35, .getfield 144, 3), (38, .iconst 1, 1), (39, .bastore, 1), (40, .iconst 0, 1), (41, .istore_n 2, 1), (42, .iload_n 2, 1), (43, .sipush 128, 3), (46, .if_icmp .ge 25, 3), (49, .aload_n 0, 1), (50, .getfield 65, 3), (53, .sipush 128, 3), (56, .aload_n 0, 1), (57, .getfield 144, 3), (60, .imul, 1), (61, .iload_n 2, 1), (62, .iadd, 1), (63, .iconst 0, 1), (64, .bastore, 1), (65, .iinc 2 1, 3), (68, .goto (-26), 3), (71, .aload_n 0, 1), (72, .dup, 1), (73, .getfield 144, 3), (76, .iconst 1, 1), (77, .iadd, 1), (78, .putfield 144, 3), (81, .iload_n 1, 1), (82, .ireturn, 1)]
theorem tv_X12_takeTable : Tv cX12_takeTable tb_X12_takeTable := by
  unfold Tv
  decide +kernel
theorem w_2553 : Cond.methodLink "LedgerFilesModel" 317 yX12_take ∈ TB := tp_11 7 (by decide +kernel) rfl
theorem w_2556 : Cond.code yX12_take prog_14_method_50_code 2 (some .int) ∈ TB := tp_11 10 rfl rfl
theorem cw_X12_317 : Cw RX12 317 yX12_take cX12_take 2 (some .int) 0 := ⟨w_2553, w_2556, w_161, by decide +kernel, by decide +kernel, by decide⟩
theorem w_2555 : Cond.instanceMethod yX12_take ∈ TB := tp_11 9 (by decide +kernel) rfl
theorem w_117 : Cond.selects "LedgerFilesModel" yX12_take yX12_take ∈ TB := tp_0 117 (by decide +kernel) rfl
noncomputable def e_takeTable_42  : Nat → RfT → Int32 → Int32 → Option (Int32 × RfT)
  | 0, _, _, _ => none
  | n + 1, R, x1, x2 => if ((128 : Int32)) ≤ x2 then ptR R 33 ((rS R 33) + ((1 : Int32))) (fun R114 => some (x1, R114)) else stR R 32 131072 ((((128 : Int32)) * (rS R 33)) + (x2)) (vp_nar .byte ((0 : Int32))) (fun R115 => e_takeTable_42  n R115 x1 (x2 + (1 : Int32)))
noncomputable def e_takeTable  (R : RfT) : Option (Int32 × RfT) := bnd2 (e_take R) (fun v110 R110 => if v110 = ((-1 : Int32)) then some (v110, R110) else stR R110 36 1024 v110 (rS R110 33) (fun R111 => stR R111 30 1024 (rS R111 33) v110 (fun R112 => stR R112 31 1024 (rS R112 33) (vp_nar .boolean ((1 : Int32))) (fun R113 => e_takeTable_42  fuL R113 v110 ((0 : Int32))))))
set_option maxRecDepth 100000 in
set_option maxHeartbeats 4000000 in
theorem l_X12_takeTable_42 (E : gE) (f0 : Nat → va_E) (sz : Nat) (QA : Nat → Prop) (hE : 94 ≤ gN E) : ∀ (n : Nat), ∀ (R : RfT) (x1 : Int32) (x2 : Int32) (r : Int32) (R9 : RfT) (hr : e_takeTable_42  n R x1 x2 = some (r, R9)) (f : Nat → va_E) (w : RW E f R) (hf : Fr RfK f0 f), G E (11, yX12_takeTable, 3, (some .int), sz, QA) cX12_takeTable (gO E (11, yX12_takeTable, 3, (some .int), sz, QA) (fun v g => v = some (.int r) ∧ RW E g R9 ∧ Fr RfK f0 g, fun _ _ => False)) 42 [(0, .ref (gAd E (56))), (1, .int (x1)), (2, .int (x2))] [] f := by
  intro n
  induction n with
  | zero =>
    intro R x1 x2 r R9 hr f w hf
    cases hr
  | succ n ih =>
    intro R x1 x2 r R9 hr f w hf
    obtain ⟨az, sy, r0⟩ := w
    unfold e_takeTable_42 at hr
    refine G.go tv_X12_takeTable 2 46 [(0, .ref (gAd E (56))), (1, .int (x1)), (2, .int (x2))] [.int ((128 : Int32)), .int (x2)] rfl ?_
    refine G.cmp_ge 71 (tbd tv_X12_takeTable rfl) (by decide) (fun c46 => ?_) (fun c46 => ?_)
    · replace hr := ite_t c46 hr
      refine G.go tv_X12_takeTable 2 73 [(0, .ref (gAd E (56))), (1, .int (x1)), (2, .int (x2))] [.ref (gAd E (56)), .ref (gAd E (56))] rfl ?_
      refine G.rg r0 hE 33 (.int (rS R 33)) (by decide) rfl (tbd tv_X12_takeTable rfl) w_2098 ?_
      refine G.go tv_X12_takeTable 2 78 [(0, .ref (gAd E (56))), (1, .int (x1)), (2, .int (x2))] [.int ((rS R 33) + ((1 : Int32))), .ref (gAd E (56))] rfl ?_
      obtain ⟨R114, eR114, hr⟩ := ptR_s hr
      refine G.rpW r0 hE 33 eR114 (by decide) rfl (by decide) rfl rfl rfl (tbd tv_X12_takeTable rfl) w_2098 (fun u114 r114 h114 => ?_)
      refine G.go tv_X12_takeTable 1 82 [(0, .ref (gAd E (56))), (1, .int (x1)), (2, .int (x2))] [.int (x1)] rfl ?_
      cases hr
      exact G.iret rfl rfl ⟨rfl, ⟨_, _, r114⟩, (hf.tr h114 (fun _ h => h))⟩ (tbd tv_X12_takeTable rfl)
    · replace hr := ite_f c46 hr
      refine G.go tv_X12_takeTable 1 50 [(0, .ref (gAd E (56))), (1, .int (x1)), (2, .int (x2))] [.ref (gAd E (56))] rfl ?_
      refine G.rg r0 hE 32 (.ref (gAd E (71))) (by decide) rfl (tbd tv_X12_takeTable rfl) w_2097 ?_
      refine G.go tv_X12_takeTable 2 57 [(0, .ref (gAd E (56))), (1, .int (x1)), (2, .int (x2))] [.ref (gAd E (56)), .int ((128 : Int32)), .ref (gAd E (71))] rfl ?_
      refine G.rg r0 hE 33 (.int (rS R 33)) (by decide) rfl (tbd tv_X12_takeTable rfl) w_2098 ?_
      refine G.go tv_X12_takeTable 4 64 [(0, .ref (gAd E (56))), (1, .int (x1)), (2, .int (x2))] [.int ((0 : Int32)), .int ((((128 : Int32)) * (rS R 33)) + (x2)), .ref (gAd E (71))] rfl ?_
      obtain ⟨R115, b115, eR115, hr⟩ := stR_s hr
      refine G.bast (71) (by omega) (r0.a32) b115 (tbd tv_X12_takeTable rfl) ?_
      refine G.gen (P := fun w9 => RfV E w9 (setSr (setS R115 42 az) sy) ∧ Fr RfK f0 w9) ⟨by rw [eR115]; exact r0.p32 _, Fr.up hf ⟨by decide, by decide⟩⟩ (fun u115 p115 => ?_)
      obtain ⟨r115, h115⟩ := p115
      refine G.go tv_X12_takeTable 2 42 [(0, .ref (gAd E (56))), (1, .int (x1)), (2, .int (x2 + (1 : Int32)))] [] rfl ?_
      refine G.less [(0, .ref (gAd E (56))), (1, .int (x1)), (2, .int (x2 + (1 : Int32)))] [0, 1, 2] rfl ?_
      exact ih _ _ _ _ _ hr _ ⟨_, _, r115⟩ h115
set_option maxRecDepth 100000 in
set_option maxHeartbeats 4000000 in
theorem k_X12_takeTable (E : gE) (f : Nat → va_E) (hE : 94 ≤ gN E) (R : RfT) (w : RW E f R) (r : Int32) (R9 : RfT) (hr : e_takeTable R = some (r, R9)) : Ct E 11 yX12_takeTable cX12_takeTable 3 (some .int) [.ref (gAd E (56))] f (fun v g => v = some (.int r) ∧ RW E g R9 ∧ Fr RfK f g, fun _ _ => False) := by
  obtain ⟨az, sy, r0⟩ := w
  refine Ct.of (by decide) (Nat.le_of_ble_eq_true rfl) (fun sz => ?_)
  refine G.eql [(0, .ref (gAd E (56)))] rfl ?_
  unfold e_takeTable at hr
  refine G.go tv_X12_takeTable 1 1 [(0, .ref (gAd E (56)))] [.ref (gAd E (56))] rfl ?_
  obtain ⟨v110, R110, hv110, hr⟩ := bnd2_s hr
  refine G.callV (56) [] [] (k_X12_take E _ hE R ⟨_, _, r0⟩ v110 R110 hv110) cls_X12 (by omega) (r0.o) cw_X12_317 w_2555 w_117 (Nat.le_of_ble_eq_true rfl) rfl (Nat.le_of_ble_eq_true rfl) (tbd tv_X12_takeTable rfl) (fun v110w f110 q110 => ?_) (fun _ _ h => h.elim)
  obtain ⟨rfl, ⟨az110, sy110, r110⟩, fa110⟩ := q110
  refine G.eqs [.int (v110)] rfl ?_
  refine G.go tv_X12_takeTable 3 7 [(0, .ref (gAd E (56))), (1, .int (v110))] [.int ((-1 : Int32)), .int (v110)] rfl ?_
  refine G.cmp_eq 81 (tbd tv_X12_takeTable rfl) (by decide) (fun c7 => ?_) (fun c7 => ?_)
  · replace hr := ite_t c7 hr
    refine G.go tv_X12_takeTable 1 82 [(0, .ref (gAd E (56))), (1, .int (v110))] [.int (v110)] rfl ?_
    cases hr
    exact G.iret rfl rfl ⟨rfl, ⟨_, _, r110⟩, (Fr.rf.tr fa110 (fun _ h => h))⟩ (tbd tv_X12_takeTable rfl)
  · replace hr := ite_f c7 hr
    refine G.go tv_X12_takeTable 1 11 [(0, .ref (gAd E (56))), (1, .int (v110))] [.ref (gAd E (56))] rfl ?_
    refine G.rg r110 hE 36 (.ref (gAd E (73))) (by decide) rfl (tbd tv_X12_takeTable rfl) w_2101 ?_
    refine G.go tv_X12_takeTable 2 16 [(0, .ref (gAd E (56))), (1, .int (v110))] [.ref (gAd E (56)), .int (v110), .ref (gAd E (73))] rfl ?_
    refine G.rg r110 hE 33 (.int (rS R110 33)) (by decide) rfl (tbd tv_X12_takeTable rfl) w_2098 ?_
    obtain ⟨R111, b111, eR111, hr⟩ := stR_s hr
    refine G.iast (73) (by omega) (r110.a36) b111 (tbd tv_X12_takeTable rfl) ?_
    refine G.gen (P := fun w9 => RfV E w9 (setSr (setS R111 42 az110) sy110) ∧ Fr RfK f w9) ⟨by rw [eR111]; exact r110.p36 _, Fr.up (Fr.rf.tr fa110 (fun _ h => h)) ⟨by decide, by decide⟩⟩ (fun u111 p111 => ?_)
    obtain ⟨r111, h111⟩ := p111
    refine G.go tv_X12_takeTable 1 21 [(0, .ref (gAd E (56))), (1, .int (v110))] [.ref (gAd E (56))] rfl ?_
    refine G.rg r111 hE 30 (.ref (gAd E (69))) (by decide) rfl (tbd tv_X12_takeTable rfl) w_2095 ?_
    refine G.go tv_X12_takeTable 1 25 [(0, .ref (gAd E (56))), (1, .int (v110))] [.ref (gAd E (56)), .ref (gAd E (69))] rfl ?_
    refine G.rg r111 hE 33 (.int (rS R111 33)) (by decide) rfl (tbd tv_X12_takeTable rfl) w_2098 ?_
    refine G.go tv_X12_takeTable 1 29 [(0, .ref (gAd E (56))), (1, .int (v110))] [.int (v110), .int (rS R111 33), .ref (gAd E (69))] rfl ?_
    obtain ⟨R112, b112, eR112, hr⟩ := stR_s hr
    refine G.iast (69) (by omega) (r111.a30) b112 (tbd tv_X12_takeTable rfl) ?_
    refine G.gen (P := fun w9 => RfV E w9 (setSr (setS R112 42 az110) sy110) ∧ Fr RfK f w9) ⟨by rw [eR112]; exact r111.p30 _, Fr.up h111 ⟨by decide, by decide⟩⟩ (fun u112 p112 => ?_)
    obtain ⟨r112, h112⟩ := p112
    refine G.go tv_X12_takeTable 1 31 [(0, .ref (gAd E (56))), (1, .int (v110))] [.ref (gAd E (56))] rfl ?_
    refine G.rg r112 hE 31 (.ref (gAd E (70))) (by decide) rfl (tbd tv_X12_takeTable rfl) w_2096 ?_
    refine G.go tv_X12_takeTable 1 35 [(0, .ref (gAd E (56))), (1, .int (v110))] [.ref (gAd E (56)), .ref (gAd E (70))] rfl ?_
    refine G.rg r112 hE 33 (.int (rS R112 33)) (by decide) rfl (tbd tv_X12_takeTable rfl) w_2098 ?_
    refine G.go tv_X12_takeTable 1 39 [(0, .ref (gAd E (56))), (1, .int (v110))] [.int ((1 : Int32)), .int (rS R112 33), .ref (gAd E (70))] rfl ?_
    obtain ⟨R113, b113, eR113, hr⟩ := stR_s hr
    refine G.zast (70) (by omega) (r112.a31) b113 (tbd tv_X12_takeTable rfl) ?_
    refine G.gen (P := fun w9 => RfV E w9 (setSr (setS R113 42 az110) sy110) ∧ Fr RfK f w9) ⟨by rw [eR113]; exact r112.p31 _, Fr.up h112 ⟨by decide, by decide⟩⟩ (fun u113 p113 => ?_)
    obtain ⟨r113, h113⟩ := p113
    refine G.go tv_X12_takeTable 2 42 [(0, .ref (gAd E (56))), (1, .int (v110)), (2, .int ((0 : Int32)))] [] rfl ?_
    refine G.less [(0, .ref (gAd E (56))), (1, .int (v110)), (2, .int ((0 : Int32)))] [0, 1, 2] rfl ?_
    exact l_X12_takeTable_42 E f sz _ hE _ _ _ _ _ _ hr _ ⟨_, _, r113⟩ h113
def tb_X12_have : List (Nat × Instr × Nat) := [(0, .aload_n 0, 1), (1, .iload_n 1, 1), (2, .invokevirtual 326, 3), (5, .iconst 2, 1), (6, .if_icmp .ne 7, 3), (9, .iconst 1, 1), (10, .goto 4, 3), (13, .iconst 0, 1), (14, .istore 4, 2), (16, .iload_n 2, 1), (17, .istore 5, 2), (19, .iload 5, 2), (21, .iload_n 3, 1), (22, .if_icmp .gt 263, 3), (25, .aload_n 0, 1), (26, .getfield 25, 3), (29, .ifCond .eq 256, 3), (32, .aload_n 0, 1), (33, .iload_n 1, 1), (34, .iload 5, 2), (36, .invokevirtual 323, 3), (39, .ifCond .ne 240, 3), (42, .iload 5, 2), (44, .bipush 72, 2), (46, .if_icmp .lt 37, 3), (49, .aload_n 0, 1), (50, .iload_n 1, 1), (51, .bipush 30, 2), (53, .iconst 2, 1), (54, .invokevirtual 303, 3), (57, .ifCond .ne 26, 3), (60, .aload_n 0, 1), (61, .invokevirtual 329, 3), (64, .istore 6, 2), (66, .aload_n 0, 1), (67, .getfield 25, 3), (70, .ifCond .eq 13, 3), (73, .aload_n 0, 1), (74, .iload_n 1, 1), (75, .bipush 30, 2), (77, .iconst 2, 1), (78, .iload 6, 2), (80, .invokevirtual 332, 3), (83, .aload_n 0, 1), (84, .getfield 25, 3), (87, .ifCond .eq 85, 3), (90, .iload 5, 2), (92, .bipush 8, 2), (94, .if_icmp .lt 78, 3), (97, .aload_n 0, 1), (98, .iload_n 1, 1), (99, .iload 5, 2), (101, .invokevirtual 306, 3), (104, .ifCond .ne 68, 3), (107, .aload_n 0, 1), (108, .invokevirtual 329, 3), (111, .istore 6, 2), (113, .aload_n 0, 1), (114, .getfield 25, 3), (117, .ifCond .eq 23, 3), (120, .iload 5, 2), (122, .bipush 72, 2), (124, .if_icmp .ge 16, 3), (127, .aload_n 0, 1), (128, .iload_n 1, 1), (129, .bipush 28, 2), (131, .iconst 2, 1), (132, .iload 6, 2), (134, .invokevirtual 332, 3), (137, .goto 35, 3), (140, .aload_n 0, 1), (141, .getfield 25, 3), (144, .ifCond .eq 28, 3), (147, .aload_n 0, 1), (148, .aload_n 0, 1), (149, .iload_n 1, 1), (150, .bipush 30, 2), (152, .iconst 2, 1), (153, .invokevirtual 303, 3), (156, .iconst 2, 1), (157, .iload 5, 2), (159, .bipush 72, 2), (161, .isub, 1), (162, .bipush 64, 2), (164, .idiv, 1), (165, .imul, 1), (166, .iconst 2, 1), (167, .iload 6, 2), (169, .invokevirtual 299, 3), (172, .aload_n 0, 1), (173, .getfield 25, 3), (176, .ifCond .ne 7, 3), (179, .iconst (-1), 1), (180, .goto 19, 3), (183, .iload 4, 2), (185, .ifCond .eq 10, 3), (188, .aload_n 0, 1), (189, .invokevirtual 329, 3), (192, .goto 7, 3), (195, .aload_n 0, 1), (196, .invokevirtual 317, 3), (199, .istore 6, 2), (201, .aload_n 0, 1), (202, .getfield 25, 3), (205, .ifCond .eq 28, 3), (208, .iload 5, 2), (210, .bipush 8, 2), (212, .if_icmp .ge 21, 3), (215, .aload_n 0, 1), (216, .iload_n 1, 1), (217, .bipush 12, 2), (219, .iconst 2, 1), (220, .iload 5, 2), (222, .imul, 1), (223, .iadd, 1), (224, .iconst 2, 1), (225, .iload 6, 2), (227, .invokevirtual 332, 3), (230, .goto 49, 3), (233, .aload_n 0, 1), (234, .getfield 25, 3), (237, .ifCond .eq 42, 3), (240, .aload_n 0, 1), (241, .aload_n 0, 1), (242, .iload_n 1, 1), (243, .iload 5, 2), (245, .invokevirtual 306, 3), (248, .iconst 2, 1), (249, .iload 5, 2), (251, .bipush 72, 2), (253, .if_icmp .ge 11, 3), (256, .iload 5, 2), (258, .bipush 8, 2), (260, .isub, 1), (261, .goto 11, 3), (264, .iload 5, 2), (266, .bipush 72, 2), (268, .isub, 1), (269, .bipush 64, 2), (271, .irem, 1), (272, .imul, 1), (273, .iconst 2, 1), (274, .iload 6, 2), (276, .invokevirtual 299, 3), (279, .iinc 5 1, 3), (282, .goto (-263), 3), (285, .return_, 1)]
theorem tv_X12_have : Tv cX12_have tb_X12_have := by
  unfold Tv
  decide +kernel
theorem w_2549 : Cond.methodLink "LedgerFilesModel" 329 yX12_takeTable ∈ TB := tp_11 3 (by decide +kernel) rfl
theorem w_2552 : Cond.code yX12_takeTable prog_14_method_51_code 3 (some .int) ∈ TB := tp_11 6 rfl rfl
theorem cw_X12_329 : Cw RX12 329 yX12_takeTable cX12_takeTable 3 (some .int) 0 := ⟨w_2549, w_2552, w_161, by decide +kernel, by decide +kernel, by decide⟩
theorem w_2551 : Cond.instanceMethod yX12_takeTable ∈ TB := tp_11 5 (by decide +kernel) rfl
theorem w_116 : Cond.selects "LedgerFilesModel" yX12_takeTable yX12_takeTable ∈ TB := tp_0 116 (by decide +kernel) rfl
noncomputable def e_have_233  (self19 : RfT → Int32 → Int32 → Int32 → Int32 → Option (RfT)) (R : RfT) (x1 : Int32) (x3 : Int32) (x4 : Int32) (x5 : Int32) (x6 : Int32) : Option (RfT) := if (rS R 11) = 0 then self19 R x1 x3 x4 (x5 + (1 : Int32)) else bnd (e_tableOf R x1 x5) (fun v129 => if ((72 : Int32)) ≤ x5 then bnd (e_setNumber R v129 (((2 : Int32)) * (((x5) - ((72 : Int32))) - ((x5) - ((72 : Int32))) / ((64 : Int32)) * ((64 : Int32)))) ((2 : Int32)) x6) (fun R130 => self19 R130 x1 x3 x4 (x5 + (1 : Int32))) else bnd (e_setNumber R v129 (((2 : Int32)) * ((x5) - ((8 : Int32)))) ((2 : Int32)) x6) (fun R131 => self19 R131 x1 x3 x4 (x5 + (1 : Int32))))
noncomputable def e_have_201  (self19 : RfT → Int32 → Int32 → Int32 → Int32 → Option (RfT)) (R : RfT) (x1 : Int32) (x3 : Int32) (x4 : Int32) (x5 : Int32) (x6 : Int32) : Option (RfT) := if (rS R 11) = 0 then e_have_233  self19 R x1 x3 x4 x5 x6 else if ((8 : Int32)) ≤ x5 then e_have_233  self19 R x1 x3 x4 x5 x6 else bnd (e_setField R x1 (((12 : Int32)) + (((2 : Int32)) * (x5))) ((2 : Int32)) x6) (fun R128 => self19 R128 x1 x3 x4 (x5 + (1 : Int32)))
noncomputable def e_have_172  (self19 : RfT → Int32 → Int32 → Int32 → Int32 → Option (RfT)) (R : RfT) (x1 : Int32) (x3 : Int32) (x4 : Int32) (x5 : Int32) : Option (RfT) := if (rS R 11) = 0 then e_have_201  self19 R x1 x3 x4 x5 ((-1 : Int32)) else if x4 = 0 then bnd2 (e_take R) (fun v124 R124 => e_have_201  self19 R124 x1 x3 x4 x5 v124) else bnd2 (e_takeTable R) (fun v125 R125 => e_have_201  self19 R125 x1 x3 x4 x5 v125)
noncomputable def e_have_140  (self19 : RfT → Int32 → Int32 → Int32 → Int32 → Option (RfT)) (R : RfT) (x1 : Int32) (x3 : Int32) (x4 : Int32) (x5 : Int32) (x6 : Int32) : Option (RfT) := if (rS R 11) = 0 then e_have_172  self19 R x1 x3 x4 x5 else bnd (e_field R x1 ((30 : Int32)) ((2 : Int32))) (fun v126 => bnd (e_setNumber R v126 (((2 : Int32)) * (((x5) - ((72 : Int32))) / ((64 : Int32)))) ((2 : Int32)) x6) (fun R127 => e_have_172  self19 R127 x1 x3 x4 x5))
noncomputable def e_have_83  (self19 : RfT → Int32 → Int32 → Int32 → Int32 → Option (RfT)) (R : RfT) (x1 : Int32) (x3 : Int32) (x4 : Int32) (x5 : Int32) : Option (RfT) := if (rS R 11) = 0 then e_have_172  self19 R x1 x3 x4 x5 else if x5 < ((8 : Int32)) then e_have_172  self19 R x1 x3 x4 x5 else bnd (e_tableOf R x1 x5) (fun v121 => if v121 = 0 then bnd2 (e_takeTable R) (fun v122 R122 => if (rS R122 11) = 0 then e_have_140  self19 R122 x1 x3 x4 x5 v122 else if ((72 : Int32)) ≤ x5 then e_have_140  self19 R122 x1 x3 x4 x5 v122 else bnd (e_setField R122 x1 ((28 : Int32)) ((2 : Int32)) v122) (fun R123 => e_have_172  self19 R123 x1 x3 x4 x5)) else e_have_172  self19 R x1 x3 x4 x5)
noncomputable def e_have_19  : Nat → RfT → Int32 → Int32 → Int32 → Int32 → Option (RfT)
  | 0, _, _, _, _, _ => none
  | n + 1, R, x1, x3, x4, x5 => if x3 < x5 then some R else if (rS R 11) = 0 then some R else bnd (e_blockOf R x1 x5) (fun v117 => if v117 = 0 then if x5 < ((72 : Int32)) then e_have_83  (e_have_19  n) R x1 x3 x4 x5 else bnd (e_field R x1 ((30 : Int32)) ((2 : Int32))) (fun v118 => if v118 = 0 then bnd2 (e_takeTable R) (fun v119 R119 => if (rS R119 11) = 0 then e_have_83  (e_have_19  n) R119 x1 x3 x4 x5 else bnd (e_setField R119 x1 ((30 : Int32)) ((2 : Int32)) v119) (fun R120 => e_have_83  (e_have_19  n) R120 x1 x3 x4 x5)) else e_have_83  (e_have_19  n) R x1 x3 x4 x5) else e_have_19  n R x1 x3 x4 (x5 + (1 : Int32)))
noncomputable def e_have  (R : RfT) (a0 : Int32) (a1 : Int32) (a2 : Int32) : Option (RfT) := bnd (e_kind R a0) (fun v116 => if v116 = ((2 : Int32)) then e_have_19  fuL R a0 a2 ((1 : Int32)) a1 else e_have_19  fuL R a0 a2 ((0 : Int32)) a1)
set_option maxRecDepth 100000 in
set_option maxHeartbeats 4000000 in
theorem l_X12_have_233 (E : gE) (f0 : Nat → va_E) (sz : Nat) (QA : Nat → Prop) (hE : 94 ≤ gN E) (self19 : RfT → Int32 → Int32 → Int32 → Int32 → Option (RfT)) (hs19 : ∀ (R : RfT) (x1 : Int32) (x3 : Int32) (x4 : Int32) (x5 : Int32) (R9 : RfT) (hr : self19 R x1 x3 x4 x5 = some R9) (f : Nat → va_E) (w : RW E f R) (hf : Fr RfK f0 f), G E (12, yX12_have, 7, none, sz, QA) cX12_have (gO E (12, yX12_have, 7, none, sz, QA) (fun v g => v = none ∧ RW E g R9 ∧ Fr RfK f0 g, fun _ _ => False)) 19 [(0, .ref (gAd E (56))), (1, .int (x1)), (3, .int (x3)), (4, .int (x4)), (5, .int (x5))] [] f) : ∀ (R : RfT) (x1 : Int32) (x3 : Int32) (x4 : Int32) (x5 : Int32) (x6 : Int32) (R9 : RfT) (hr : e_have_233  self19 R x1 x3 x4 x5 x6 = some R9) (f : Nat → va_E) (w : RW E f R) (hf : Fr RfK f0 f), G E (12, yX12_have, 7, none, sz, QA) cX12_have (gO E (12, yX12_have, 7, none, sz, QA) (fun v g => v = none ∧ RW E g R9 ∧ Fr RfK f0 g, fun _ _ => False)) 233 [(0, .ref (gAd E (56))), (1, .int (x1)), (3, .int (x3)), (4, .int (x4)), (5, .int (x5)), (6, .int (x6))] [] f := by
  intro R x1 x3 x4 x5 x6 R9 hr f w hf
  obtain ⟨az, sy, r0⟩ := w
  unfold e_have_233 at hr
  refine G.go tv_X12_have 1 234 [(0, .ref (gAd E (56))), (1, .int (x1)), (3, .int (x3)), (4, .int (x4)), (5, .int (x5)), (6, .int (x6))] [.ref (gAd E (56))] rfl ?_
  refine G.rg r0 hE 11 (.int (rS R 11)) (by decide) rfl (tbd tv_X12_have rfl) w_2076 ?_
  refine G.if_eq 279 (tbd tv_X12_have rfl) (by decide) (fun c237 => ?_) (fun c237 => ?_)
  · replace hr := ite_t c237 hr
    refine G.go tv_X12_have 2 19 [(0, .ref (gAd E (56))), (1, .int (x1)), (3, .int (x3)), (4, .int (x4)), (5, .int (x5 + (1 : Int32))), (6, .int (x6))] [] rfl ?_
    refine G.less [(0, .ref (gAd E (56))), (1, .int (x1)), (3, .int (x3)), (4, .int (x4)), (5, .int (x5 + (1 : Int32)))] [0, 1, 2, 3, 4] rfl ?_
    exact hs19 _ _ _ _ _ _ hr _ ⟨_, _, r0⟩ hf
  · replace hr := ite_f c237 hr
    refine G.go tv_X12_have 4 245 [(0, .ref (gAd E (56))), (1, .int (x1)), (3, .int (x3)), (4, .int (x4)), (5, .int (x5)), (6, .int (x6))] [.int (x5), .int (x1), .ref (gAd E (56)), .ref (gAd E (56))] rfl ?_
    obtain ⟨v129, hv129, hr⟩ := bnd_s hr
    refine G.callV (56) [.int (x1), .int (x5)] [.ref (gAd E (56))] (k_X12_tableOf E _ hE R ⟨_, _, r0⟩ x1 x5 v129 hv129) cls_X12 (by omega) (r0.o) cw_X12_306 w_2511 w_106 (Nat.le_of_ble_eq_true rfl) rfl (Nat.le_of_ble_eq_true rfl) (tbd tv_X12_have rfl) (fun v129w f129 q129 => ?_) (fun _ _ h => h.elim)
    obtain ⟨rfl, ⟨az129, sy129, r129⟩, fa129⟩ := q129
    refine G.eqs [.int (v129), .ref (gAd E (56))] rfl ?_
    refine G.go tv_X12_have 3 253 [(0, .ref (gAd E (56))), (1, .int (x1)), (3, .int (x3)), (4, .int (x4)), (5, .int (x5)), (6, .int (x6))] [.int ((72 : Int32)), .int (x5), .int ((2 : Int32)), .int (v129), .ref (gAd E (56))] rfl ?_
    refine G.cmp_ge 264 (tbd tv_X12_have rfl) (by decide) (fun c253 => ?_) (fun c253 => ?_)
    · replace hr := ite_t c253 hr
      refine G.go tv_X12_have 4 271 [(0, .ref (gAd E (56))), (1, .int (x1)), (3, .int (x3)), (4, .int (x4)), (5, .int (x5)), (6, .int (x6))] [.int ((64 : Int32)), .int ((x5) - ((72 : Int32))), .int ((2 : Int32)), .int (v129), .ref (gAd E (56))] rfl ?_
      refine G.irem (by decide) (tbd tv_X12_have rfl) ?_
      refine G.go tv_X12_have 3 276 [(0, .ref (gAd E (56))), (1, .int (x1)), (3, .int (x3)), (4, .int (x4)), (5, .int (x5)), (6, .int (x6))] [.int (x6), .int ((2 : Int32)), .int (((2 : Int32)) * (((x5) - ((72 : Int32))) - ((x5) - ((72 : Int32))) / ((64 : Int32)) * ((64 : Int32)))), .int (v129), .ref (gAd E (56))] rfl ?_
      obtain ⟨R130, hv130, hr⟩ := bnd_s hr
      refine G.callV (56) [.int (v129), .int (((2 : Int32)) * (((x5) - ((72 : Int32))) - ((x5) - ((72 : Int32))) / ((64 : Int32)) * ((64 : Int32)))), .int ((2 : Int32)), .int (x6)] [] (k_X12_setNumber E _ hE R ⟨_, _, r129⟩ v129 (((2 : Int32)) * (((x5) - ((72 : Int32))) - ((x5) - ((72 : Int32))) / ((64 : Int32)) * ((64 : Int32)))) ((2 : Int32)) x6 R130 hv130) cls_X12 (by omega) (r129.o) cw_X12_299 w_2412 w_84 (Nat.le_of_ble_eq_true rfl) rfl (Nat.le_of_ble_eq_true rfl) (tbd tv_X12_have rfl) (fun v130w f130 q130 => ?_) (fun _ _ h => h.elim)
      obtain ⟨rfl, ⟨az130, sy130, r130⟩, fa130⟩ := q130
      refine G.eqs [] rfl ?_
      refine G.go tv_X12_have 2 19 [(0, .ref (gAd E (56))), (1, .int (x1)), (3, .int (x3)), (4, .int (x4)), (5, .int (x5 + (1 : Int32))), (6, .int (x6))] [] rfl ?_
      refine G.less [(0, .ref (gAd E (56))), (1, .int (x1)), (3, .int (x3)), (4, .int (x4)), (5, .int (x5 + (1 : Int32)))] [0, 1, 2, 3, 4] rfl ?_
      exact hs19 _ _ _ _ _ _ hr _ ⟨_, _, r130⟩ ((hf.tr fa129 (fun _ h => h)).tr fa130 (fun _ h => h))
    · replace hr := ite_f c253 hr
      refine G.go tv_X12_have 7 276 [(0, .ref (gAd E (56))), (1, .int (x1)), (3, .int (x3)), (4, .int (x4)), (5, .int (x5)), (6, .int (x6))] [.int (x6), .int ((2 : Int32)), .int (((2 : Int32)) * ((x5) - ((8 : Int32)))), .int (v129), .ref (gAd E (56))] rfl ?_
      obtain ⟨R131, hv131, hr⟩ := bnd_s hr
      refine G.callV (56) [.int (v129), .int (((2 : Int32)) * ((x5) - ((8 : Int32)))), .int ((2 : Int32)), .int (x6)] [] (k_X12_setNumber E _ hE R ⟨_, _, r129⟩ v129 (((2 : Int32)) * ((x5) - ((8 : Int32)))) ((2 : Int32)) x6 R131 hv131) cls_X12 (by omega) (r129.o) cw_X12_299 w_2412 w_84 (Nat.le_of_ble_eq_true rfl) rfl (Nat.le_of_ble_eq_true rfl) (tbd tv_X12_have rfl) (fun v131w f131 q131 => ?_) (fun _ _ h => h.elim)
      obtain ⟨rfl, ⟨az131, sy131, r131⟩, fa131⟩ := q131
      refine G.eqs [] rfl ?_
      refine G.go tv_X12_have 2 19 [(0, .ref (gAd E (56))), (1, .int (x1)), (3, .int (x3)), (4, .int (x4)), (5, .int (x5 + (1 : Int32))), (6, .int (x6))] [] rfl ?_
      refine G.less [(0, .ref (gAd E (56))), (1, .int (x1)), (3, .int (x3)), (4, .int (x4)), (5, .int (x5 + (1 : Int32)))] [0, 1, 2, 3, 4] rfl ?_
      exact hs19 _ _ _ _ _ _ hr _ ⟨_, _, r131⟩ ((hf.tr fa129 (fun _ h => h)).tr fa131 (fun _ h => h))
set_option maxRecDepth 100000 in
set_option maxHeartbeats 4000000 in
theorem l_X12_have_201 (E : gE) (f0 : Nat → va_E) (sz : Nat) (QA : Nat → Prop) (hE : 94 ≤ gN E) (self19 : RfT → Int32 → Int32 → Int32 → Int32 → Option (RfT)) (hs19 : ∀ (R : RfT) (x1 : Int32) (x3 : Int32) (x4 : Int32) (x5 : Int32) (R9 : RfT) (hr : self19 R x1 x3 x4 x5 = some R9) (f : Nat → va_E) (w : RW E f R) (hf : Fr RfK f0 f), G E (12, yX12_have, 7, none, sz, QA) cX12_have (gO E (12, yX12_have, 7, none, sz, QA) (fun v g => v = none ∧ RW E g R9 ∧ Fr RfK f0 g, fun _ _ => False)) 19 [(0, .ref (gAd E (56))), (1, .int (x1)), (3, .int (x3)), (4, .int (x4)), (5, .int (x5))] [] f) : ∀ (R : RfT) (x1 : Int32) (x3 : Int32) (x4 : Int32) (x5 : Int32) (x6 : Int32) (R9 : RfT) (hr : e_have_201  self19 R x1 x3 x4 x5 x6 = some R9) (f : Nat → va_E) (w : RW E f R) (hf : Fr RfK f0 f), G E (12, yX12_have, 7, none, sz, QA) cX12_have (gO E (12, yX12_have, 7, none, sz, QA) (fun v g => v = none ∧ RW E g R9 ∧ Fr RfK f0 g, fun _ _ => False)) 201 [(0, .ref (gAd E (56))), (1, .int (x1)), (3, .int (x3)), (4, .int (x4)), (5, .int (x5)), (6, .int (x6))] [] f := by
  intro R x1 x3 x4 x5 x6 R9 hr f w hf
  obtain ⟨az, sy, r0⟩ := w
  unfold e_have_201 at hr
  refine G.go tv_X12_have 1 202 [(0, .ref (gAd E (56))), (1, .int (x1)), (3, .int (x3)), (4, .int (x4)), (5, .int (x5)), (6, .int (x6))] [.ref (gAd E (56))] rfl ?_
  refine G.rg r0 hE 11 (.int (rS R 11)) (by decide) rfl (tbd tv_X12_have rfl) w_2076 ?_
  refine G.if_eq 233 (tbd tv_X12_have rfl) (by decide) (fun c205 => ?_) (fun c205 => ?_)
  · replace hr := ite_t c205 hr
    refine G.less [(0, .ref (gAd E (56))), (1, .int (x1)), (3, .int (x3)), (4, .int (x4)), (5, .int (x5)), (6, .int (x6))] [0, 1, 2, 3, 4, 5] rfl ?_
    exact l_X12_have_233 E f0 sz QA hE _ hs19 _ _ _ _ _ _ _ hr _ ⟨_, _, r0⟩ hf
  · replace hr := ite_f c205 hr
    refine G.go tv_X12_have 2 212 [(0, .ref (gAd E (56))), (1, .int (x1)), (3, .int (x3)), (4, .int (x4)), (5, .int (x5)), (6, .int (x6))] [.int ((8 : Int32)), .int (x5)] rfl ?_
    refine G.cmp_ge 233 (tbd tv_X12_have rfl) (by decide) (fun c212 => ?_) (fun c212 => ?_)
    · replace hr := ite_t c212 hr
      refine G.less [(0, .ref (gAd E (56))), (1, .int (x1)), (3, .int (x3)), (4, .int (x4)), (5, .int (x5)), (6, .int (x6))] [0, 1, 2, 3, 4, 5] rfl ?_
      exact l_X12_have_233 E f0 sz QA hE _ hs19 _ _ _ _ _ _ _ hr _ ⟨_, _, r0⟩ hf
    · replace hr := ite_f c212 hr
      refine G.go tv_X12_have 9 227 [(0, .ref (gAd E (56))), (1, .int (x1)), (3, .int (x3)), (4, .int (x4)), (5, .int (x5)), (6, .int (x6))] [.int (x6), .int ((2 : Int32)), .int (((12 : Int32)) + (((2 : Int32)) * (x5))), .int (x1), .ref (gAd E (56))] rfl ?_
      obtain ⟨R128, hv128, hr⟩ := bnd_s hr
      refine G.callV (56) [.int (x1), .int (((12 : Int32)) + (((2 : Int32)) * (x5))), .int ((2 : Int32)), .int (x6)] [] (k_X12_setField E _ hE R ⟨_, _, r0⟩ x1 (((12 : Int32)) + (((2 : Int32)) * (x5))) ((2 : Int32)) x6 R128 hv128) cls_X12 (by omega) (r0.o) cw_X12_332 w_2424 w_87 (Nat.le_of_ble_eq_true rfl) rfl (Nat.le_of_ble_eq_true rfl) (tbd tv_X12_have rfl) (fun v128w f128 q128 => ?_) (fun _ _ h => h.elim)
      obtain ⟨rfl, ⟨az128, sy128, r128⟩, fa128⟩ := q128
      refine G.eqs [] rfl ?_
      refine G.go tv_X12_have 3 19 [(0, .ref (gAd E (56))), (1, .int (x1)), (3, .int (x3)), (4, .int (x4)), (5, .int (x5 + (1 : Int32))), (6, .int (x6))] [] rfl ?_
      refine G.less [(0, .ref (gAd E (56))), (1, .int (x1)), (3, .int (x3)), (4, .int (x4)), (5, .int (x5 + (1 : Int32)))] [0, 1, 2, 3, 4] rfl ?_
      exact hs19 _ _ _ _ _ _ hr _ ⟨_, _, r128⟩ (hf.tr fa128 (fun _ h => h))
set_option maxRecDepth 100000 in
set_option maxHeartbeats 4000000 in
theorem l_X12_have_172 (E : gE) (f0 : Nat → va_E) (sz : Nat) (QA : Nat → Prop) (hE : 94 ≤ gN E) (self19 : RfT → Int32 → Int32 → Int32 → Int32 → Option (RfT)) (hs19 : ∀ (R : RfT) (x1 : Int32) (x3 : Int32) (x4 : Int32) (x5 : Int32) (R9 : RfT) (hr : self19 R x1 x3 x4 x5 = some R9) (f : Nat → va_E) (w : RW E f R) (hf : Fr RfK f0 f), G E (12, yX12_have, 7, none, sz, QA) cX12_have (gO E (12, yX12_have, 7, none, sz, QA) (fun v g => v = none ∧ RW E g R9 ∧ Fr RfK f0 g, fun _ _ => False)) 19 [(0, .ref (gAd E (56))), (1, .int (x1)), (3, .int (x3)), (4, .int (x4)), (5, .int (x5))] [] f) : ∀ (R : RfT) (x1 : Int32) (x3 : Int32) (x4 : Int32) (x5 : Int32) (R9 : RfT) (hr : e_have_172  self19 R x1 x3 x4 x5 = some R9) (f : Nat → va_E) (w : RW E f R) (hf : Fr RfK f0 f), G E (12, yX12_have, 7, none, sz, QA) cX12_have (gO E (12, yX12_have, 7, none, sz, QA) (fun v g => v = none ∧ RW E g R9 ∧ Fr RfK f0 g, fun _ _ => False)) 172 [(0, .ref (gAd E (56))), (1, .int (x1)), (3, .int (x3)), (4, .int (x4)), (5, .int (x5))] [] f := by
  intro R x1 x3 x4 x5 R9 hr f w hf
  obtain ⟨az, sy, r0⟩ := w
  unfold e_have_172 at hr
  refine G.go tv_X12_have 1 173 [(0, .ref (gAd E (56))), (1, .int (x1)), (3, .int (x3)), (4, .int (x4)), (5, .int (x5))] [.ref (gAd E (56))] rfl ?_
  refine G.rg r0 hE 11 (.int (rS R 11)) (by decide) rfl (tbd tv_X12_have rfl) w_2076 ?_
  refine G.if_ne 183 (tbd tv_X12_have rfl) (by decide) (fun c176 => ?_) (fun c176 => ?_)
  · replace hr := ite_f c176 hr
    refine G.go tv_X12_have 1 185 [(0, .ref (gAd E (56))), (1, .int (x1)), (3, .int (x3)), (4, .int (x4)), (5, .int (x5))] [.int (x4)] rfl ?_
    refine G.if_eq 195 (tbd tv_X12_have rfl) (by decide) (fun c185 => ?_) (fun c185 => ?_)
    · replace hr := ite_t c185 hr
      refine G.go tv_X12_have 1 196 [(0, .ref (gAd E (56))), (1, .int (x1)), (3, .int (x3)), (4, .int (x4)), (5, .int (x5))] [.ref (gAd E (56))] rfl ?_
      obtain ⟨v124, R124, hv124, hr⟩ := bnd2_s hr
      refine G.callV (56) [] [] (k_X12_take E _ hE R ⟨_, _, r0⟩ v124 R124 hv124) cls_X12 (by omega) (r0.o) cw_X12_317 w_2555 w_117 (Nat.le_of_ble_eq_true rfl) rfl (Nat.le_of_ble_eq_true rfl) (tbd tv_X12_have rfl) (fun v124w f124 q124 => ?_) (fun _ _ h => h.elim)
      obtain ⟨rfl, ⟨az124, sy124, r124⟩, fa124⟩ := q124
      refine G.eqs [.int (v124)] rfl ?_
      refine G.go tv_X12_have 1 201 [(0, .ref (gAd E (56))), (1, .int (x1)), (3, .int (x3)), (4, .int (x4)), (5, .int (x5)), (6, .int (v124))] [] rfl ?_
      refine G.less [(0, .ref (gAd E (56))), (1, .int (x1)), (3, .int (x3)), (4, .int (x4)), (5, .int (x5)), (6, .int (v124))] [0, 1, 2, 3, 4, 5] rfl ?_
      exact l_X12_have_201 E f0 sz QA hE _ hs19 _ _ _ _ _ _ _ hr _ ⟨_, _, r124⟩ (hf.tr fa124 (fun _ h => h))
    · replace hr := ite_f c185 hr
      refine G.go tv_X12_have 1 189 [(0, .ref (gAd E (56))), (1, .int (x1)), (3, .int (x3)), (4, .int (x4)), (5, .int (x5))] [.ref (gAd E (56))] rfl ?_
      obtain ⟨v125, R125, hv125, hr⟩ := bnd2_s hr
      refine G.callV (56) [] [] (k_X12_takeTable E _ hE R ⟨_, _, r0⟩ v125 R125 hv125) cls_X12 (by omega) (r0.o) cw_X12_329 w_2551 w_116 (Nat.le_of_ble_eq_true rfl) rfl (Nat.le_of_ble_eq_true rfl) (tbd tv_X12_have rfl) (fun v125w f125 q125 => ?_) (fun _ _ h => h.elim)
      obtain ⟨rfl, ⟨az125, sy125, r125⟩, fa125⟩ := q125
      refine G.eqs [.int (v125)] rfl ?_
      refine G.go tv_X12_have 2 201 [(0, .ref (gAd E (56))), (1, .int (x1)), (3, .int (x3)), (4, .int (x4)), (5, .int (x5)), (6, .int (v125))] [] rfl ?_
      refine G.less [(0, .ref (gAd E (56))), (1, .int (x1)), (3, .int (x3)), (4, .int (x4)), (5, .int (x5)), (6, .int (v125))] [0, 1, 2, 3, 4, 5] rfl ?_
      exact l_X12_have_201 E f0 sz QA hE _ hs19 _ _ _ _ _ _ _ hr _ ⟨_, _, r125⟩ (hf.tr fa125 (fun _ h => h))
  · replace hr := ite_t c176 hr
    refine G.go tv_X12_have 3 201 [(0, .ref (gAd E (56))), (1, .int (x1)), (3, .int (x3)), (4, .int (x4)), (5, .int (x5)), (6, .int ((-1 : Int32)))] [] rfl ?_
    refine G.less [(0, .ref (gAd E (56))), (1, .int (x1)), (3, .int (x3)), (4, .int (x4)), (5, .int (x5)), (6, .int ((-1 : Int32)))] [0, 1, 2, 3, 4, 5] rfl ?_
    exact l_X12_have_201 E f0 sz QA hE _ hs19 _ _ _ _ _ _ _ hr _ ⟨_, _, r0⟩ hf
set_option maxRecDepth 100000 in
set_option maxHeartbeats 4000000 in
theorem l_X12_have_140 (E : gE) (f0 : Nat → va_E) (sz : Nat) (QA : Nat → Prop) (hE : 94 ≤ gN E) (self19 : RfT → Int32 → Int32 → Int32 → Int32 → Option (RfT)) (hs19 : ∀ (R : RfT) (x1 : Int32) (x3 : Int32) (x4 : Int32) (x5 : Int32) (R9 : RfT) (hr : self19 R x1 x3 x4 x5 = some R9) (f : Nat → va_E) (w : RW E f R) (hf : Fr RfK f0 f), G E (12, yX12_have, 7, none, sz, QA) cX12_have (gO E (12, yX12_have, 7, none, sz, QA) (fun v g => v = none ∧ RW E g R9 ∧ Fr RfK f0 g, fun _ _ => False)) 19 [(0, .ref (gAd E (56))), (1, .int (x1)), (3, .int (x3)), (4, .int (x4)), (5, .int (x5))] [] f) : ∀ (R : RfT) (x1 : Int32) (x3 : Int32) (x4 : Int32) (x5 : Int32) (x6 : Int32) (R9 : RfT) (hr : e_have_140  self19 R x1 x3 x4 x5 x6 = some R9) (f : Nat → va_E) (w : RW E f R) (hf : Fr RfK f0 f), G E (12, yX12_have, 7, none, sz, QA) cX12_have (gO E (12, yX12_have, 7, none, sz, QA) (fun v g => v = none ∧ RW E g R9 ∧ Fr RfK f0 g, fun _ _ => False)) 140 [(0, .ref (gAd E (56))), (1, .int (x1)), (3, .int (x3)), (4, .int (x4)), (5, .int (x5)), (6, .int (x6))] [] f := by
  intro R x1 x3 x4 x5 x6 R9 hr f w hf
  obtain ⟨az, sy, r0⟩ := w
  unfold e_have_140 at hr
  refine G.go tv_X12_have 1 141 [(0, .ref (gAd E (56))), (1, .int (x1)), (3, .int (x3)), (4, .int (x4)), (5, .int (x5)), (6, .int (x6))] [.ref (gAd E (56))] rfl ?_
  refine G.rg r0 hE 11 (.int (rS R 11)) (by decide) rfl (tbd tv_X12_have rfl) w_2076 ?_
  refine G.if_eq 172 (tbd tv_X12_have rfl) (by decide) (fun c144 => ?_) (fun c144 => ?_)
  · replace hr := ite_t c144 hr
    refine G.less [(0, .ref (gAd E (56))), (1, .int (x1)), (3, .int (x3)), (4, .int (x4)), (5, .int (x5))] [0, 1, 2, 3, 4] rfl ?_
    exact l_X12_have_172 E f0 sz QA hE _ hs19 _ _ _ _ _ _ hr _ ⟨_, _, r0⟩ hf
  · replace hr := ite_f c144 hr
    refine G.go tv_X12_have 5 153 [(0, .ref (gAd E (56))), (1, .int (x1)), (3, .int (x3)), (4, .int (x4)), (5, .int (x5)), (6, .int (x6))] [.int ((2 : Int32)), .int ((30 : Int32)), .int (x1), .ref (gAd E (56)), .ref (gAd E (56))] rfl ?_
    obtain ⟨v126, hv126, hr⟩ := bnd_s hr
    refine G.callV (56) [.int (x1), .int ((30 : Int32)), .int ((2 : Int32))] [.ref (gAd E (56))] (k_X12_field E _ hE R ⟨_, _, r0⟩ x1 ((30 : Int32)) ((2 : Int32)) v126 hv126) cls_X12 (by omega) (r0.o) cw_X12_303 w_2373 w_75 (Nat.le_of_ble_eq_true rfl) rfl (Nat.le_of_ble_eq_true rfl) (tbd tv_X12_have rfl) (fun v126w f126 q126 => ?_) (fun _ _ h => h.elim)
    obtain ⟨rfl, ⟨az126, sy126, r126⟩, fa126⟩ := q126
    refine G.eqs [.int (v126), .ref (gAd E (56))] rfl ?_
    refine G.go tv_X12_have 5 164 [(0, .ref (gAd E (56))), (1, .int (x1)), (3, .int (x3)), (4, .int (x4)), (5, .int (x5)), (6, .int (x6))] [.int ((64 : Int32)), .int ((x5) - ((72 : Int32))), .int ((2 : Int32)), .int (v126), .ref (gAd E (56))] rfl ?_
    refine G.idiv (by decide) (tbd tv_X12_have rfl) ?_
    refine G.go tv_X12_have 3 169 [(0, .ref (gAd E (56))), (1, .int (x1)), (3, .int (x3)), (4, .int (x4)), (5, .int (x5)), (6, .int (x6))] [.int (x6), .int ((2 : Int32)), .int (((2 : Int32)) * (((x5) - ((72 : Int32))) / ((64 : Int32)))), .int (v126), .ref (gAd E (56))] rfl ?_
    obtain ⟨R127, hv127, hr⟩ := bnd_s hr
    refine G.callV (56) [.int (v126), .int (((2 : Int32)) * (((x5) - ((72 : Int32))) / ((64 : Int32)))), .int ((2 : Int32)), .int (x6)] [] (k_X12_setNumber E _ hE R ⟨_, _, r126⟩ v126 (((2 : Int32)) * (((x5) - ((72 : Int32))) / ((64 : Int32)))) ((2 : Int32)) x6 R127 hv127) cls_X12 (by omega) (r126.o) cw_X12_299 w_2412 w_84 (Nat.le_of_ble_eq_true rfl) rfl (Nat.le_of_ble_eq_true rfl) (tbd tv_X12_have rfl) (fun v127w f127 q127 => ?_) (fun _ _ h => h.elim)
    obtain ⟨rfl, ⟨az127, sy127, r127⟩, fa127⟩ := q127
    refine G.eqs [] rfl ?_
    refine G.less [(0, .ref (gAd E (56))), (1, .int (x1)), (3, .int (x3)), (4, .int (x4)), (5, .int (x5))] [0, 1, 2, 3, 4] rfl ?_
    exact l_X12_have_172 E f0 sz QA hE _ hs19 _ _ _ _ _ _ hr _ ⟨_, _, r127⟩ ((hf.tr fa126 (fun _ h => h)).tr fa127 (fun _ h => h))
set_option maxRecDepth 100000 in
set_option maxHeartbeats 4000000 in
theorem l_X12_have_83 (E : gE) (f0 : Nat → va_E) (sz : Nat) (QA : Nat → Prop) (hE : 94 ≤ gN E) (self19 : RfT → Int32 → Int32 → Int32 → Int32 → Option (RfT)) (hs19 : ∀ (R : RfT) (x1 : Int32) (x3 : Int32) (x4 : Int32) (x5 : Int32) (R9 : RfT) (hr : self19 R x1 x3 x4 x5 = some R9) (f : Nat → va_E) (w : RW E f R) (hf : Fr RfK f0 f), G E (12, yX12_have, 7, none, sz, QA) cX12_have (gO E (12, yX12_have, 7, none, sz, QA) (fun v g => v = none ∧ RW E g R9 ∧ Fr RfK f0 g, fun _ _ => False)) 19 [(0, .ref (gAd E (56))), (1, .int (x1)), (3, .int (x3)), (4, .int (x4)), (5, .int (x5))] [] f) : ∀ (R : RfT) (x1 : Int32) (x3 : Int32) (x4 : Int32) (x5 : Int32) (R9 : RfT) (hr : e_have_83  self19 R x1 x3 x4 x5 = some R9) (f : Nat → va_E) (w : RW E f R) (hf : Fr RfK f0 f), G E (12, yX12_have, 7, none, sz, QA) cX12_have (gO E (12, yX12_have, 7, none, sz, QA) (fun v g => v = none ∧ RW E g R9 ∧ Fr RfK f0 g, fun _ _ => False)) 83 [(0, .ref (gAd E (56))), (1, .int (x1)), (3, .int (x3)), (4, .int (x4)), (5, .int (x5))] [] f := by
  intro R x1 x3 x4 x5 R9 hr f w hf
  obtain ⟨az, sy, r0⟩ := w
  unfold e_have_83 at hr
  refine G.go tv_X12_have 1 84 [(0, .ref (gAd E (56))), (1, .int (x1)), (3, .int (x3)), (4, .int (x4)), (5, .int (x5))] [.ref (gAd E (56))] rfl ?_
  refine G.rg r0 hE 11 (.int (rS R 11)) (by decide) rfl (tbd tv_X12_have rfl) w_2076 ?_
  refine G.if_eq 172 (tbd tv_X12_have rfl) (by decide) (fun c87 => ?_) (fun c87 => ?_)
  · replace hr := ite_t c87 hr
    refine G.less [(0, .ref (gAd E (56))), (1, .int (x1)), (3, .int (x3)), (4, .int (x4)), (5, .int (x5))] [0, 1, 2, 3, 4] rfl ?_
    exact l_X12_have_172 E f0 sz QA hE _ hs19 _ _ _ _ _ _ hr _ ⟨_, _, r0⟩ hf
  · replace hr := ite_f c87 hr
    refine G.go tv_X12_have 2 94 [(0, .ref (gAd E (56))), (1, .int (x1)), (3, .int (x3)), (4, .int (x4)), (5, .int (x5))] [.int ((8 : Int32)), .int (x5)] rfl ?_
    refine G.cmp_lt 172 (tbd tv_X12_have rfl) (by decide) (fun c94 => ?_) (fun c94 => ?_)
    · replace hr := ite_t c94 hr
      refine G.less [(0, .ref (gAd E (56))), (1, .int (x1)), (3, .int (x3)), (4, .int (x4)), (5, .int (x5))] [0, 1, 2, 3, 4] rfl ?_
      exact l_X12_have_172 E f0 sz QA hE _ hs19 _ _ _ _ _ _ hr _ ⟨_, _, r0⟩ hf
    · replace hr := ite_f c94 hr
      refine G.go tv_X12_have 3 101 [(0, .ref (gAd E (56))), (1, .int (x1)), (3, .int (x3)), (4, .int (x4)), (5, .int (x5))] [.int (x5), .int (x1), .ref (gAd E (56))] rfl ?_
      obtain ⟨v121, hv121, hr⟩ := bnd_s hr
      refine G.callV (56) [.int (x1), .int (x5)] [] (k_X12_tableOf E _ hE R ⟨_, _, r0⟩ x1 x5 v121 hv121) cls_X12 (by omega) (r0.o) cw_X12_306 w_2511 w_106 (Nat.le_of_ble_eq_true rfl) rfl (Nat.le_of_ble_eq_true rfl) (tbd tv_X12_have rfl) (fun v121w f121 q121 => ?_) (fun _ _ h => h.elim)
      obtain ⟨rfl, ⟨az121, sy121, r121⟩, fa121⟩ := q121
      refine G.eqs [.int (v121)] rfl ?_
      refine G.if_ne 172 (tbd tv_X12_have rfl) (by decide) (fun c104 => ?_) (fun c104 => ?_)
      · replace hr := ite_f c104 hr
        refine G.less [(0, .ref (gAd E (56))), (1, .int (x1)), (3, .int (x3)), (4, .int (x4)), (5, .int (x5))] [0, 1, 2, 3, 4] rfl ?_
        exact l_X12_have_172 E f0 sz QA hE _ hs19 _ _ _ _ _ _ hr _ ⟨_, _, r121⟩ (hf.tr fa121 (fun _ h => h))
      · replace hr := ite_t c104 hr
        refine G.go tv_X12_have 1 108 [(0, .ref (gAd E (56))), (1, .int (x1)), (3, .int (x3)), (4, .int (x4)), (5, .int (x5))] [.ref (gAd E (56))] rfl ?_
        obtain ⟨v122, R122, hv122, hr⟩ := bnd2_s hr
        refine G.callV (56) [] [] (k_X12_takeTable E _ hE R ⟨_, _, r121⟩ v122 R122 hv122) cls_X12 (by omega) (r121.o) cw_X12_329 w_2551 w_116 (Nat.le_of_ble_eq_true rfl) rfl (Nat.le_of_ble_eq_true rfl) (tbd tv_X12_have rfl) (fun v122w f122 q122 => ?_) (fun _ _ h => h.elim)
        obtain ⟨rfl, ⟨az122, sy122, r122⟩, fa122⟩ := q122
        refine G.eqs [.int (v122)] rfl ?_
        refine G.go tv_X12_have 2 114 [(0, .ref (gAd E (56))), (1, .int (x1)), (3, .int (x3)), (4, .int (x4)), (5, .int (x5)), (6, .int (v122))] [.ref (gAd E (56))] rfl ?_
        refine G.rg r122 hE 11 (.int (rS R122 11)) (by decide) rfl (tbd tv_X12_have rfl) w_2076 ?_
        refine G.if_eq 140 (tbd tv_X12_have rfl) (by decide) (fun c117 => ?_) (fun c117 => ?_)
        · replace hr := ite_t c117 hr
          refine G.less [(0, .ref (gAd E (56))), (1, .int (x1)), (3, .int (x3)), (4, .int (x4)), (5, .int (x5)), (6, .int (v122))] [0, 1, 2, 3, 4, 5] rfl ?_
          exact l_X12_have_140 E f0 sz QA hE _ hs19 _ _ _ _ _ _ _ hr _ ⟨_, _, r122⟩ ((hf.tr fa121 (fun _ h => h)).tr fa122 (fun _ h => h))
        · replace hr := ite_f c117 hr
          refine G.go tv_X12_have 2 124 [(0, .ref (gAd E (56))), (1, .int (x1)), (3, .int (x3)), (4, .int (x4)), (5, .int (x5)), (6, .int (v122))] [.int ((72 : Int32)), .int (x5)] rfl ?_
          refine G.cmp_ge 140 (tbd tv_X12_have rfl) (by decide) (fun c124 => ?_) (fun c124 => ?_)
          · replace hr := ite_t c124 hr
            refine G.less [(0, .ref (gAd E (56))), (1, .int (x1)), (3, .int (x3)), (4, .int (x4)), (5, .int (x5)), (6, .int (v122))] [0, 1, 2, 3, 4, 5] rfl ?_
            exact l_X12_have_140 E f0 sz QA hE _ hs19 _ _ _ _ _ _ _ hr _ ⟨_, _, r122⟩ ((hf.tr fa121 (fun _ h => h)).tr fa122 (fun _ h => h))
          · replace hr := ite_f c124 hr
            refine G.go tv_X12_have 5 134 [(0, .ref (gAd E (56))), (1, .int (x1)), (3, .int (x3)), (4, .int (x4)), (5, .int (x5)), (6, .int (v122))] [.int (v122), .int ((2 : Int32)), .int ((28 : Int32)), .int (x1), .ref (gAd E (56))] rfl ?_
            obtain ⟨R123, hv123, hr⟩ := bnd_s hr
            refine G.callV (56) [.int (x1), .int ((28 : Int32)), .int ((2 : Int32)), .int (v122)] [] (k_X12_setField E _ hE R122 ⟨_, _, r122⟩ x1 ((28 : Int32)) ((2 : Int32)) v122 R123 hv123) cls_X12 (by omega) (r122.o) cw_X12_332 w_2424 w_87 (Nat.le_of_ble_eq_true rfl) rfl (Nat.le_of_ble_eq_true rfl) (tbd tv_X12_have rfl) (fun v123w f123 q123 => ?_) (fun _ _ h => h.elim)
            obtain ⟨rfl, ⟨az123, sy123, r123⟩, fa123⟩ := q123
            refine G.eqs [] rfl ?_
            refine G.go tv_X12_have 1 172 [(0, .ref (gAd E (56))), (1, .int (x1)), (3, .int (x3)), (4, .int (x4)), (5, .int (x5)), (6, .int (v122))] [] rfl ?_
            refine G.less [(0, .ref (gAd E (56))), (1, .int (x1)), (3, .int (x3)), (4, .int (x4)), (5, .int (x5))] [0, 1, 2, 3, 4] rfl ?_
            exact l_X12_have_172 E f0 sz QA hE _ hs19 _ _ _ _ _ _ hr _ ⟨_, _, r123⟩ (((hf.tr fa121 (fun _ h => h)).tr fa122 (fun _ h => h)).tr fa123 (fun _ h => h))
set_option maxRecDepth 100000 in
set_option maxHeartbeats 4000000 in
theorem l_X12_have_19 (E : gE) (f0 : Nat → va_E) (sz : Nat) (QA : Nat → Prop) (hE : 94 ≤ gN E) : ∀ (n : Nat), ∀ (R : RfT) (x1 : Int32) (x3 : Int32) (x4 : Int32) (x5 : Int32) (R9 : RfT) (hr : e_have_19  n R x1 x3 x4 x5 = some R9) (f : Nat → va_E) (w : RW E f R) (hf : Fr RfK f0 f), G E (12, yX12_have, 7, none, sz, QA) cX12_have (gO E (12, yX12_have, 7, none, sz, QA) (fun v g => v = none ∧ RW E g R9 ∧ Fr RfK f0 g, fun _ _ => False)) 19 [(0, .ref (gAd E (56))), (1, .int (x1)), (3, .int (x3)), (4, .int (x4)), (5, .int (x5))] [] f := by
  intro n
  induction n with
  | zero =>
    intro R x1 x3 x4 x5 R9 hr f w hf
    cases hr
  | succ n ih =>
    intro R x1 x3 x4 x5 R9 hr f w hf
    obtain ⟨az, sy, r0⟩ := w
    unfold e_have_19 at hr
    refine G.go tv_X12_have 2 22 [(0, .ref (gAd E (56))), (1, .int (x1)), (3, .int (x3)), (4, .int (x4)), (5, .int (x5))] [.int (x3), .int (x5)] rfl ?_
    refine G.cmp_gt 285 (tbd tv_X12_have rfl) (by decide) (fun c22 => ?_) (fun c22 => ?_)
    · replace hr := ite_t c22 hr
      cases hr
      exact G.vret rfl ⟨rfl, ⟨_, _, r0⟩, hf⟩ (tbd tv_X12_have rfl)
    · replace hr := ite_f c22 hr
      refine G.go tv_X12_have 1 26 [(0, .ref (gAd E (56))), (1, .int (x1)), (3, .int (x3)), (4, .int (x4)), (5, .int (x5))] [.ref (gAd E (56))] rfl ?_
      refine G.rg r0 hE 11 (.int (rS R 11)) (by decide) rfl (tbd tv_X12_have rfl) w_2076 ?_
      refine G.if_eq 285 (tbd tv_X12_have rfl) (by decide) (fun c29 => ?_) (fun c29 => ?_)
      · replace hr := ite_t c29 hr
        cases hr
        exact G.vret rfl ⟨rfl, ⟨_, _, r0⟩, hf⟩ (tbd tv_X12_have rfl)
      · replace hr := ite_f c29 hr
        refine G.go tv_X12_have 3 36 [(0, .ref (gAd E (56))), (1, .int (x1)), (3, .int (x3)), (4, .int (x4)), (5, .int (x5))] [.int (x5), .int (x1), .ref (gAd E (56))] rfl ?_
        obtain ⟨v117, hv117, hr⟩ := bnd_s hr
        refine G.callV (56) [.int (x1), .int (x5)] [] (k_X12_blockOf E _ hE R ⟨_, _, r0⟩ x1 x5 v117 hv117) cls_X12 (by omega) (r0.o) cw_X12_323 w_2507 w_105 (Nat.le_of_ble_eq_true rfl) rfl (Nat.le_of_ble_eq_true rfl) (tbd tv_X12_have rfl) (fun v117w f117 q117 => ?_) (fun _ _ h => h.elim)
        obtain ⟨rfl, ⟨az117, sy117, r117⟩, fa117⟩ := q117
        refine G.eqs [.int (v117)] rfl ?_
        refine G.if_ne 279 (tbd tv_X12_have rfl) (by decide) (fun c39 => ?_) (fun c39 => ?_)
        · replace hr := ite_f c39 hr
          refine G.go tv_X12_have 2 19 [(0, .ref (gAd E (56))), (1, .int (x1)), (3, .int (x3)), (4, .int (x4)), (5, .int (x5 + (1 : Int32)))] [] rfl ?_
          refine G.less [(0, .ref (gAd E (56))), (1, .int (x1)), (3, .int (x3)), (4, .int (x4)), (5, .int (x5 + (1 : Int32)))] [0, 1, 2, 3, 4] rfl ?_
          exact ih _ _ _ _ _ _ hr _ ⟨_, _, r117⟩ (hf.tr fa117 (fun _ h => h))
        · replace hr := ite_t c39 hr
          refine G.go tv_X12_have 2 46 [(0, .ref (gAd E (56))), (1, .int (x1)), (3, .int (x3)), (4, .int (x4)), (5, .int (x5))] [.int ((72 : Int32)), .int (x5)] rfl ?_
          refine G.cmp_lt 83 (tbd tv_X12_have rfl) (by decide) (fun c46 => ?_) (fun c46 => ?_)
          · replace hr := ite_t c46 hr
            refine G.less [(0, .ref (gAd E (56))), (1, .int (x1)), (3, .int (x3)), (4, .int (x4)), (5, .int (x5))] [0, 1, 2, 3, 4] rfl ?_
            exact l_X12_have_83 E f0 sz QA hE _ ih _ _ _ _ _ _ hr _ ⟨_, _, r117⟩ (hf.tr fa117 (fun _ h => h))
          · replace hr := ite_f c46 hr
            refine G.go tv_X12_have 4 54 [(0, .ref (gAd E (56))), (1, .int (x1)), (3, .int (x3)), (4, .int (x4)), (5, .int (x5))] [.int ((2 : Int32)), .int ((30 : Int32)), .int (x1), .ref (gAd E (56))] rfl ?_
            obtain ⟨v118, hv118, hr⟩ := bnd_s hr
            refine G.callV (56) [.int (x1), .int ((30 : Int32)), .int ((2 : Int32))] [] (k_X12_field E _ hE R ⟨_, _, r117⟩ x1 ((30 : Int32)) ((2 : Int32)) v118 hv118) cls_X12 (by omega) (r117.o) cw_X12_303 w_2373 w_75 (Nat.le_of_ble_eq_true rfl) rfl (Nat.le_of_ble_eq_true rfl) (tbd tv_X12_have rfl) (fun v118w f118 q118 => ?_) (fun _ _ h => h.elim)
            obtain ⟨rfl, ⟨az118, sy118, r118⟩, fa118⟩ := q118
            refine G.eqs [.int (v118)] rfl ?_
            refine G.if_ne 83 (tbd tv_X12_have rfl) (by decide) (fun c57 => ?_) (fun c57 => ?_)
            · replace hr := ite_f c57 hr
              refine G.less [(0, .ref (gAd E (56))), (1, .int (x1)), (3, .int (x3)), (4, .int (x4)), (5, .int (x5))] [0, 1, 2, 3, 4] rfl ?_
              exact l_X12_have_83 E f0 sz QA hE _ ih _ _ _ _ _ _ hr _ ⟨_, _, r118⟩ ((hf.tr fa117 (fun _ h => h)).tr fa118 (fun _ h => h))
            · replace hr := ite_t c57 hr
              refine G.go tv_X12_have 1 61 [(0, .ref (gAd E (56))), (1, .int (x1)), (3, .int (x3)), (4, .int (x4)), (5, .int (x5))] [.ref (gAd E (56))] rfl ?_
              obtain ⟨v119, R119, hv119, hr⟩ := bnd2_s hr
              refine G.callV (56) [] [] (k_X12_takeTable E _ hE R ⟨_, _, r118⟩ v119 R119 hv119) cls_X12 (by omega) (r118.o) cw_X12_329 w_2551 w_116 (Nat.le_of_ble_eq_true rfl) rfl (Nat.le_of_ble_eq_true rfl) (tbd tv_X12_have rfl) (fun v119w f119 q119 => ?_) (fun _ _ h => h.elim)
              obtain ⟨rfl, ⟨az119, sy119, r119⟩, fa119⟩ := q119
              refine G.eqs [.int (v119)] rfl ?_
              refine G.go tv_X12_have 2 67 [(0, .ref (gAd E (56))), (1, .int (x1)), (3, .int (x3)), (4, .int (x4)), (5, .int (x5)), (6, .int (v119))] [.ref (gAd E (56))] rfl ?_
              refine G.rg r119 hE 11 (.int (rS R119 11)) (by decide) rfl (tbd tv_X12_have rfl) w_2076 ?_
              refine G.if_eq 83 (tbd tv_X12_have rfl) (by decide) (fun c70 => ?_) (fun c70 => ?_)
              · replace hr := ite_t c70 hr
                refine G.less [(0, .ref (gAd E (56))), (1, .int (x1)), (3, .int (x3)), (4, .int (x4)), (5, .int (x5))] [0, 1, 2, 3, 4] rfl ?_
                exact l_X12_have_83 E f0 sz QA hE _ ih _ _ _ _ _ _ hr _ ⟨_, _, r119⟩ (((hf.tr fa117 (fun _ h => h)).tr fa118 (fun _ h => h)).tr fa119 (fun _ h => h))
              · replace hr := ite_f c70 hr
                refine G.go tv_X12_have 5 80 [(0, .ref (gAd E (56))), (1, .int (x1)), (3, .int (x3)), (4, .int (x4)), (5, .int (x5)), (6, .int (v119))] [.int (v119), .int ((2 : Int32)), .int ((30 : Int32)), .int (x1), .ref (gAd E (56))] rfl ?_
                obtain ⟨R120, hv120, hr⟩ := bnd_s hr
                refine G.callV (56) [.int (x1), .int ((30 : Int32)), .int ((2 : Int32)), .int (v119)] [] (k_X12_setField E _ hE R119 ⟨_, _, r119⟩ x1 ((30 : Int32)) ((2 : Int32)) v119 R120 hv120) cls_X12 (by omega) (r119.o) cw_X12_332 w_2424 w_87 (Nat.le_of_ble_eq_true rfl) rfl (Nat.le_of_ble_eq_true rfl) (tbd tv_X12_have rfl) (fun v120w f120 q120 => ?_) (fun _ _ h => h.elim)
                obtain ⟨rfl, ⟨az120, sy120, r120⟩, fa120⟩ := q120
                refine G.eqs [] rfl ?_
                refine G.less [(0, .ref (gAd E (56))), (1, .int (x1)), (3, .int (x3)), (4, .int (x4)), (5, .int (x5))] [0, 1, 2, 3, 4] rfl ?_
                exact l_X12_have_83 E f0 sz QA hE _ ih _ _ _ _ _ _ hr _ ⟨_, _, r120⟩ ((((hf.tr fa117 (fun _ h => h)).tr fa118 (fun _ h => h)).tr fa119 (fun _ h => h)).tr fa120 (fun _ h => h))
set_option maxRecDepth 100000 in
set_option maxHeartbeats 4000000 in
theorem k_X12_have (E : gE) (f : Nat → va_E) (hE : 94 ≤ gN E) (R : RfT) (w : RW E f R) (a0 : Int32) (a1 : Int32) (a2 : Int32) (R9 : RfT) (hr : e_have R a0 a1 a2 = some R9) : Ct E 12 yX12_have cX12_have 7 none [.ref (gAd E (56)), .int (a0), .int (a1), .int (a2)] f (fun v g => v = none ∧ RW E g R9 ∧ Fr RfK f g, fun _ _ => False) := by
  obtain ⟨az, sy, r0⟩ := w
  refine Ct.of (by decide) (Nat.le_of_ble_eq_true rfl) (fun sz => ?_)
  refine G.eql [(0, .ref (gAd E (56))), (1, .int (a0)), (2, .int (a1)), (3, .int (a2))] rfl ?_
  unfold e_have at hr
  refine G.go tv_X12_have 2 2 [(0, .ref (gAd E (56))), (1, .int (a0)), (2, .int (a1)), (3, .int (a2))] [.int (a0), .ref (gAd E (56))] rfl ?_
  obtain ⟨v116, hv116, hr⟩ := bnd_s hr
  refine G.callV (56) [.int (a0)] [] (k_X12_kind E _ hE R ⟨_, _, r0⟩ a0 v116 hv116) cls_X12 (by omega) (r0.o) cw_X12_326 w_2369 w_74 (Nat.le_of_ble_eq_true rfl) rfl (Nat.le_of_ble_eq_true rfl) (tbd tv_X12_have rfl) (fun v116w f116 q116 => ?_) (fun _ _ h => h.elim)
  obtain ⟨rfl, ⟨az116, sy116, r116⟩, fa116⟩ := q116
  refine G.eqs [.int (v116)] rfl ?_
  refine G.go tv_X12_have 1 6 [(0, .ref (gAd E (56))), (1, .int (a0)), (2, .int (a1)), (3, .int (a2))] [.int ((2 : Int32)), .int (v116)] rfl ?_
  refine G.cmp_ne 13 (tbd tv_X12_have rfl) (by decide) (fun c6 => ?_) (fun c6 => ?_)
  · replace hr := ite_f c6 hr
    refine G.go tv_X12_have 4 19 [(0, .ref (gAd E (56))), (1, .int (a0)), (2, .int (a1)), (3, .int (a2)), (4, .int ((0 : Int32))), (5, .int (a1))] [] rfl ?_
    refine G.less [(0, .ref (gAd E (56))), (1, .int (a0)), (3, .int (a2)), (4, .int ((0 : Int32))), (5, .int (a1))] [0, 1, 3, 4, 5] rfl ?_
    exact l_X12_have_19 E f sz _ hE _ _ _ _ _ _ _ hr _ ⟨_, _, r116⟩ (Fr.rf.tr fa116 (fun _ h => h))
  · replace hr := ite_t c6 hr
    refine G.go tv_X12_have 5 19 [(0, .ref (gAd E (56))), (1, .int (a0)), (2, .int (a1)), (3, .int (a2)), (4, .int ((1 : Int32))), (5, .int (a1))] [] rfl ?_
    refine G.less [(0, .ref (gAd E (56))), (1, .int (a0)), (3, .int (a2)), (4, .int ((1 : Int32))), (5, .int (a1))] [0, 1, 3, 4, 5] rfl ?_
    exact l_X12_have_19 E f sz _ hE _ _ _ _ _ _ _ hr _ ⟨_, _, r116⟩ (Fr.rf.tr fa116 (fun _ h => h))
def tb_X12_addName : List (Nat × Instr × Nat) := [(0, .aload_n 0, 1), (1, .iload_n 1, 1), (2, .invokevirtual 351, 3), (5, .istore 5, 2), (7, .iload 5, 2), (9, .iconst (-1), 1), (10, .if_icmp .ne 55, 3), (13, .aload_n 0, 1), (14, .iload_n 1, 1), (15, .invokevirtual 344, 3), (18, .istore 6, 2), (20, .iload 6, 2), (22, .bipush 16, 2), (24, .idiv, 1), (25, .istore 5, 2), (27, .aload_n 0, 1), (28, .iload_n 1, 1), (29, .iload 6, 2), (31, .sipush 128, 3), (34, .idiv, 1), (35, .iload 6, 2), (37, .sipush 128, 3), (40, .idiv, 1), (41, .invokevirtual 354, 3), (44, .aload_n 0, 1), (45, .getfield 25, 3), (48, .ifCond .ne 4, 3), (51, .return_, 1), (52, .aload_n 0, 1), (53, .iload_n 1, 1), (54, .iconst 4, 1), (55, .iconst 4, 1), (56, .iload 6, 2), (58, .sipush 128, 3), (61, .iadd, 1), (62, .invokevirtual 332, 3), (65, .aload_n 0, 1), (66, .iload_n 1, 1), (67, .iload 5, 2), (69, .bipush 8, 2), (71, .idiv, 1), (72, .invokevirtual 323, 3), (75, .istore 6, 2), (77, .bipush 16, 2), (79, .iload 5, 2), (81, .bipush 8, 2), (83, .irem, 1), (84, .imul, 1), (85, .istore 7, 2), (87, .aload_n 0, 1), (88, .iload 6, 2), (90, .iload 7, 2), (92, .iconst 2, 1), (93, .iload 4, 2), (95, .invokevirtual 299, 3), (98, .aload_n 0, 1), (99, .iload 6, 2), (101, .iload 7, 2), (103, .iconst 2, 1), (104, .iadd, 1), (105, .iconst 1, 1), (106, .iload_n 3, 1), (107, .invokevirtual 299, 3), (110, .iconst 0, 1), (111, .istore 8, 2), (113, .iload 8, 2), (115, .iload_n 3, 1), (116, .if_icmp .ge 32, 3), (119, .aload_n 0, 1), (120, .iload 6, 2), (122, .iload 7, 2), (124, .iconst 3, 1), (125, .iadd, 1), (126, .iload 8, 2), (128, .iadd, 1), (129, .iconst 1, 1), (130, .aload_n 0, 1), (131, .getfield 7, 3), (134, .iload_n 2, 1), (135, .iload 8, 2), (137, .iadd, 1), (138, .baload, 1), (139, .invokevirtual 299, 3), (142, .iinc 8 1, 3), (145, .goto (-32), 3), (148, .return_, 1)]
theorem tv_X12_addName : Tv cX12_addName tb_X12_addName := by
  unfold Tv
  decide +kernel
theorem w_2545 : Cond.methodLink "LedgerFilesModel" 354 yX12_have ∈ TB := tp_10 239 (by decide +kernel) rfl
theorem w_2548 : Cond.code yX12_have prog_14_method_55_code 7 none ∈ TB := tp_11 2 rfl rfl
theorem cw_X12_354 : Cw RX12 354 yX12_have cX12_have 7 none 3 := ⟨w_2545, w_2548, w_161, by decide +kernel, by decide +kernel, by decide⟩
theorem w_2547 : Cond.instanceMethod yX12_have ∈ TB := tp_11 1 (by decide +kernel) rfl
theorem w_115 : Cond.selects "LedgerFilesModel" yX12_have yX12_have ∈ TB := tp_0 115 (by decide +kernel) rfl
noncomputable def e_addName_113  : Nat → RfT → Int32 → Int32 → Int32 → Int32 → Int32 → Option (RfT)
  | 0, _, _, _, _, _, _ => none
  | n + 1, R, x2, x3, x6, x7, x8 => if x3 ≤ x8 then some R else ld (rA R 4) 1024 ((x2) + (x8)) (fun v140 => bnd (e_setNumber R x6 (((x7) + ((3 : Int32))) + (x8)) ((1 : Int32)) v140) (fun R141 => e_addName_113  n R141 x2 x3 x6 x7 (x8 + (1 : Int32))))
noncomputable def e_addName_65  (R : RfT) (x1 : Int32) (x2 : Int32) (x3 : Int32) (x4 : Int32) (x5 : Int32) : Option (RfT) := bnd (e_blockOf R x1 ((x5) / ((8 : Int32)))) (fun v136 => nm (((16 : Int32)) * ((x5) - (x5) / ((8 : Int32)) * ((8 : Int32)))) (fun v137 => bnd (e_setNumber R v136 v137 ((2 : Int32)) x4) (fun R138 => bnd (e_setNumber R138 v136 ((v137) + ((2 : Int32))) ((1 : Int32)) x3) (fun R139 => e_addName_113  fuL R139 x2 x3 v136 v137 ((0 : Int32))))))
noncomputable def e_addName  (R : RfT) (a0 : Int32) (a1 : Int32) (a2 : Int32) (a3 : Int32) : Option (RfT) := bnd (e_freeSlot R a0) (fun v132 => if v132 = ((-1 : Int32)) then bnd (e_size R a0) (fun v133 => bnd (e_have R a0 ((v133) / ((128 : Int32))) ((v133) / ((128 : Int32)))) (fun R134 => if (rS R134 11) = 0 then some R134 else bnd (e_setField R134 a0 ((4 : Int32)) ((4 : Int32)) ((v133) + ((128 : Int32)))) (fun R135 => e_addName_65  R135 a0 a1 a2 a3 ((v133) / ((16 : Int32)))))) else e_addName_65  R a0 a1 a2 a3 v132)
set_option maxRecDepth 100000 in
set_option maxHeartbeats 4000000 in
theorem l_X12_addName_113 (E : gE) (f0 : Nat → va_E) (sz : Nat) (QA : Nat → Prop) (hE : 94 ≤ gN E) : ∀ (n : Nat), ∀ (R : RfT) (x2 : Int32) (x3 : Int32) (x6 : Int32) (x7 : Int32) (x8 : Int32) (R9 : RfT) (hr : e_addName_113  n R x2 x3 x6 x7 x8 = some R9) (f : Nat → va_E) (w : RW E f R) (hf : Fr RfK f0 f), G E (13, yX12_addName, 9, none, sz, QA) cX12_addName (gO E (13, yX12_addName, 9, none, sz, QA) (fun v g => v = none ∧ RW E g R9 ∧ Fr RfK f0 g, fun _ _ => False)) 113 [(0, .ref (gAd E (56))), (2, .int (x2)), (3, .int (x3)), (6, .int (x6)), (7, .int (x7)), (8, .int (x8))] [] f := by
  intro n
  induction n with
  | zero =>
    intro R x2 x3 x6 x7 x8 R9 hr f w hf
    cases hr
  | succ n ih =>
    intro R x2 x3 x6 x7 x8 R9 hr f w hf
    obtain ⟨az, sy, r0⟩ := w
    unfold e_addName_113 at hr
    refine G.go tv_X12_addName 2 116 [(0, .ref (gAd E (56))), (2, .int (x2)), (3, .int (x3)), (6, .int (x6)), (7, .int (x7)), (8, .int (x8))] [.int (x3), .int (x8)] rfl ?_
    refine G.cmp_ge 148 (tbd tv_X12_addName rfl) (by decide) (fun c116 => ?_) (fun c116 => ?_)
    · replace hr := ite_t c116 hr
      cases hr
      exact G.vret rfl ⟨rfl, ⟨_, _, r0⟩, hf⟩ (tbd tv_X12_addName rfl)
    · replace hr := ite_f c116 hr
      refine G.go tv_X12_addName 9 131 [(0, .ref (gAd E (56))), (2, .int (x2)), (3, .int (x3)), (6, .int (x6)), (7, .int (x7)), (8, .int (x8))] [.ref (gAd E (56)), .int ((1 : Int32)), .int (((x7) + ((3 : Int32))) + (x8)), .int (x6), .ref (gAd E (56))] rfl ?_
      refine G.rg r0 hE 4 (.ref (gAd E (57))) (by decide) rfl (tbd tv_X12_addName rfl) w_2069 ?_
      refine G.go tv_X12_addName 3 138 [(0, .ref (gAd E (56))), (2, .int (x2)), (3, .int (x3)), (6, .int (x6)), (7, .int (x7)), (8, .int (x8))] [.int ((x2) + (x8)), .ref (gAd E (57)), .int ((1 : Int32)), .int (((x7) + ((3 : Int32))) + (x8)), .int (x6), .ref (gAd E (56))] rfl ?_
      obtain ⟨v140, b140, e140, hr⟩ := ld_s hr
      refine G.baldE (57) (by omega) (r0.a4) b140 e140 (tbd tv_X12_addName rfl) ?_
      obtain ⟨R141, hv141, hr⟩ := bnd_s hr
      refine G.callV (56) [.int (x6), .int (((x7) + ((3 : Int32))) + (x8)), .int ((1 : Int32)), .int (v140)] [] (k_X12_setNumber E _ hE R ⟨_, _, r0⟩ x6 (((x7) + ((3 : Int32))) + (x8)) ((1 : Int32)) v140 R141 hv141) cls_X12 (by omega) (r0.o) cw_X12_299 w_2412 w_84 (Nat.le_of_ble_eq_true rfl) rfl (Nat.le_of_ble_eq_true rfl) (tbd tv_X12_addName rfl) (fun v141w f141 q141 => ?_) (fun _ _ h => h.elim)
      obtain ⟨rfl, ⟨az141, sy141, r141⟩, fa141⟩ := q141
      refine G.eqs [] rfl ?_
      refine G.go tv_X12_addName 2 113 [(0, .ref (gAd E (56))), (2, .int (x2)), (3, .int (x3)), (6, .int (x6)), (7, .int (x7)), (8, .int (x8 + (1 : Int32)))] [] rfl ?_
      refine G.less [(0, .ref (gAd E (56))), (2, .int (x2)), (3, .int (x3)), (6, .int (x6)), (7, .int (x7)), (8, .int (x8 + (1 : Int32)))] [0, 1, 2, 3, 4, 5] rfl ?_
      exact ih _ _ _ _ _ _ _ hr _ ⟨_, _, r141⟩ (hf.tr fa141 (fun _ h => h))
set_option maxRecDepth 100000 in
set_option maxHeartbeats 4000000 in
theorem l_X12_addName_65 (E : gE) (f0 : Nat → va_E) (sz : Nat) (QA : Nat → Prop) (hE : 94 ≤ gN E) : ∀ (R : RfT) (x1 : Int32) (x2 : Int32) (x3 : Int32) (x4 : Int32) (x5 : Int32) (R9 : RfT) (hr : e_addName_65  R x1 x2 x3 x4 x5 = some R9) (f : Nat → va_E) (w : RW E f R) (hf : Fr RfK f0 f), G E (13, yX12_addName, 9, none, sz, QA) cX12_addName (gO E (13, yX12_addName, 9, none, sz, QA) (fun v g => v = none ∧ RW E g R9 ∧ Fr RfK f0 g, fun _ _ => False)) 65 [(0, .ref (gAd E (56))), (1, .int (x1)), (2, .int (x2)), (3, .int (x3)), (4, .int (x4)), (5, .int (x5))] [] f := by
  intro R x1 x2 x3 x4 x5 R9 hr f w hf
  obtain ⟨az, sy, r0⟩ := w
  unfold e_addName_65 at hr
  refine G.go tv_X12_addName 4 71 [(0, .ref (gAd E (56))), (1, .int (x1)), (2, .int (x2)), (3, .int (x3)), (4, .int (x4)), (5, .int (x5))] [.int ((8 : Int32)), .int (x5), .int (x1), .ref (gAd E (56))] rfl ?_
  refine G.idiv (by decide) (tbd tv_X12_addName rfl) ?_
  obtain ⟨v136, hv136, hr⟩ := bnd_s hr
  refine G.callV (56) [.int (x1), .int ((x5) / ((8 : Int32)))] [] (k_X12_blockOf E _ hE R ⟨_, _, r0⟩ x1 ((x5) / ((8 : Int32))) v136 hv136) cls_X12 (by omega) (r0.o) cw_X12_323 w_2507 w_105 (Nat.le_of_ble_eq_true rfl) rfl (Nat.le_of_ble_eq_true rfl) (tbd tv_X12_addName rfl) (fun v136w f136 q136 => ?_) (fun _ _ h => h.elim)
  obtain ⟨rfl, ⟨az136, sy136, r136⟩, fa136⟩ := q136
  refine G.eqs [.int (v136)] rfl ?_
  refine G.go tv_X12_addName 4 83 [(0, .ref (gAd E (56))), (1, .int (x1)), (2, .int (x2)), (3, .int (x3)), (4, .int (x4)), (5, .int (x5)), (6, .int (v136))] [.int ((8 : Int32)), .int (x5), .int ((16 : Int32))] rfl ?_
  refine G.irem (by decide) (tbd tv_X12_addName rfl) ?_
  refine G.go tv_X12_addName 2 87 [(0, .ref (gAd E (56))), (1, .int (x1)), (2, .int (x2)), (3, .int (x3)), (4, .int (x4)), (5, .int (x5)), (6, .int (v136)), (7, .int (((16 : Int32)) * ((x5) - (x5) / ((8 : Int32)) * ((8 : Int32)))))] [] rfl ?_
  obtain ⟨v137, e137, hr⟩ := nm_s hr
  refine G.eql [(0, .ref (gAd E (56))), (1, .int (x1)), (2, .int (x2)), (3, .int (x3)), (4, .int (x4)), (5, .int (x5)), (6, .int (v136)), (7, .int (v137))] (by rw [e137]) ?_
  refine G.go tv_X12_addName 5 95 [(0, .ref (gAd E (56))), (1, .int (x1)), (2, .int (x2)), (3, .int (x3)), (4, .int (x4)), (5, .int (x5)), (6, .int (v136)), (7, .int (v137))] [.int (x4), .int ((2 : Int32)), .int (v137), .int (v136), .ref (gAd E (56))] rfl ?_
  obtain ⟨R138, hv138, hr⟩ := bnd_s hr
  refine G.callV (56) [.int (v136), .int (v137), .int ((2 : Int32)), .int (x4)] [] (k_X12_setNumber E _ hE R ⟨_, _, r136⟩ v136 v137 ((2 : Int32)) x4 R138 hv138) cls_X12 (by omega) (r136.o) cw_X12_299 w_2412 w_84 (Nat.le_of_ble_eq_true rfl) rfl (Nat.le_of_ble_eq_true rfl) (tbd tv_X12_addName rfl) (fun v138w f138 q138 => ?_) (fun _ _ h => h.elim)
  obtain ⟨rfl, ⟨az138, sy138, r138⟩, fa138⟩ := q138
  refine G.eqs [] rfl ?_
  refine G.go tv_X12_addName 7 107 [(0, .ref (gAd E (56))), (1, .int (x1)), (2, .int (x2)), (3, .int (x3)), (4, .int (x4)), (5, .int (x5)), (6, .int (v136)), (7, .int (v137))] [.int (x3), .int ((1 : Int32)), .int ((v137) + ((2 : Int32))), .int (v136), .ref (gAd E (56))] rfl ?_
  obtain ⟨R139, hv139, hr⟩ := bnd_s hr
  refine G.callV (56) [.int (v136), .int ((v137) + ((2 : Int32))), .int ((1 : Int32)), .int (x3)] [] (k_X12_setNumber E _ hE R138 ⟨_, _, r138⟩ v136 ((v137) + ((2 : Int32))) ((1 : Int32)) x3 R139 hv139) cls_X12 (by omega) (r138.o) cw_X12_299 w_2412 w_84 (Nat.le_of_ble_eq_true rfl) rfl (Nat.le_of_ble_eq_true rfl) (tbd tv_X12_addName rfl) (fun v139w f139 q139 => ?_) (fun _ _ h => h.elim)
  obtain ⟨rfl, ⟨az139, sy139, r139⟩, fa139⟩ := q139
  refine G.eqs [] rfl ?_
  refine G.go tv_X12_addName 2 113 [(0, .ref (gAd E (56))), (1, .int (x1)), (2, .int (x2)), (3, .int (x3)), (4, .int (x4)), (5, .int (x5)), (6, .int (v136)), (7, .int (v137)), (8, .int ((0 : Int32)))] [] rfl ?_
  refine G.less [(0, .ref (gAd E (56))), (2, .int (x2)), (3, .int (x3)), (6, .int (v136)), (7, .int (v137)), (8, .int ((0 : Int32)))] [0, 2, 3, 6, 7, 8] rfl ?_
  exact l_X12_addName_113 E f0 sz QA hE _ _ _ _ _ _ _ _ hr _ ⟨_, _, r139⟩ (((hf.tr fa136 (fun _ h => h)).tr fa138 (fun _ h => h)).tr fa139 (fun _ h => h))
set_option maxRecDepth 100000 in
set_option maxHeartbeats 4000000 in
theorem k_X12_addName (E : gE) (f : Nat → va_E) (hE : 94 ≤ gN E) (R : RfT) (w : RW E f R) (a0 : Int32) (a1 : Int32) (a2 : Int32) (a3 : Int32) (R9 : RfT) (hr : e_addName R a0 a1 a2 a3 = some R9) : Ct E 13 yX12_addName cX12_addName 9 none [.ref (gAd E (56)), .int (a0), .int (a1), .int (a2), .int (a3)] f (fun v g => v = none ∧ RW E g R9 ∧ Fr RfK f g, fun _ _ => False) := by
  obtain ⟨az, sy, r0⟩ := w
  refine Ct.of (by decide) (Nat.le_of_ble_eq_true rfl) (fun sz => ?_)
  refine G.eql [(0, .ref (gAd E (56))), (1, .int (a0)), (2, .int (a1)), (3, .int (a2)), (4, .int (a3))] rfl ?_
  unfold e_addName at hr
  refine G.go tv_X12_addName 2 2 [(0, .ref (gAd E (56))), (1, .int (a0)), (2, .int (a1)), (3, .int (a2)), (4, .int (a3))] [.int (a0), .ref (gAd E (56))] rfl ?_
  obtain ⟨v132, hv132, hr⟩ := bnd_s hr
  refine G.callV (56) [.int (a0)] [] (k_X12_freeSlot E _ hE R ⟨_, _, r0⟩ a0 v132 hv132) cls_X12 (by omega) (r0.o) cw_X12_351 w_2527 w_110 (Nat.le_of_ble_eq_true rfl) rfl (Nat.le_of_ble_eq_true rfl) (tbd tv_X12_addName rfl) (fun v132w f132 q132 => ?_) (fun _ _ h => h.elim)
  obtain ⟨rfl, ⟨az132, sy132, r132⟩, fa132⟩ := q132
  refine G.eqs [.int (v132)] rfl ?_
  refine G.go tv_X12_addName 3 10 [(0, .ref (gAd E (56))), (1, .int (a0)), (2, .int (a1)), (3, .int (a2)), (4, .int (a3)), (5, .int (v132))] [.int ((-1 : Int32)), .int (v132)] rfl ?_
  refine G.cmp_ne 65 (tbd tv_X12_addName rfl) (by decide) (fun c10 => ?_) (fun c10 => ?_)
  · replace hr := ite_f c10 hr
    refine G.less [(0, .ref (gAd E (56))), (1, .int (a0)), (2, .int (a1)), (3, .int (a2)), (4, .int (a3)), (5, .int (v132))] [0, 1, 2, 3, 4, 5] rfl ?_
    exact l_X12_addName_65 E f sz _ hE _ _ _ _ _ _ _ hr _ ⟨_, _, r132⟩ (Fr.rf.tr fa132 (fun _ h => h))
  · replace hr := ite_t c10 hr
    refine G.go tv_X12_addName 2 15 [(0, .ref (gAd E (56))), (1, .int (a0)), (2, .int (a1)), (3, .int (a2)), (4, .int (a3)), (5, .int (v132))] [.int (a0), .ref (gAd E (56))] rfl ?_
    obtain ⟨v133, hv133, hr⟩ := bnd_s hr
    refine G.callV (56) [.int (a0)] [] (k_X12_size E _ hE R ⟨_, _, r132⟩ a0 v133 hv133) cls_X12 (by omega) (r132.o) cw_X12_344 w_2503 w_104 (Nat.le_of_ble_eq_true rfl) rfl (Nat.le_of_ble_eq_true rfl) (tbd tv_X12_addName rfl) (fun v133w f133 q133 => ?_) (fun _ _ h => h.elim)
    obtain ⟨rfl, ⟨az133, sy133, r133⟩, fa133⟩ := q133
    refine G.eqs [.int (v133)] rfl ?_
    refine G.go tv_X12_addName 3 24 [(0, .ref (gAd E (56))), (1, .int (a0)), (2, .int (a1)), (3, .int (a2)), (4, .int (a3)), (5, .int (v132)), (6, .int (v133))] [.int ((16 : Int32)), .int (v133)] rfl ?_
    refine G.idiv (by decide) (tbd tv_X12_addName rfl) ?_
    refine G.go tv_X12_addName 5 34 [(0, .ref (gAd E (56))), (1, .int (a0)), (2, .int (a1)), (3, .int (a2)), (4, .int (a3)), (5, .int ((v133) / ((16 : Int32)))), (6, .int (v133))] [.int ((128 : Int32)), .int (v133), .int (a0), .ref (gAd E (56))] rfl ?_
    refine G.idiv (by decide) (tbd tv_X12_addName rfl) ?_
    refine G.go tv_X12_addName 2 40 [(0, .ref (gAd E (56))), (1, .int (a0)), (2, .int (a1)), (3, .int (a2)), (4, .int (a3)), (5, .int ((v133) / ((16 : Int32)))), (6, .int (v133))] [.int ((128 : Int32)), .int (v133), .int ((v133) / ((128 : Int32))), .int (a0), .ref (gAd E (56))] rfl ?_
    refine G.idiv (by decide) (tbd tv_X12_addName rfl) ?_
    obtain ⟨R134, hv134, hr⟩ := bnd_s hr
    refine G.callV (56) [.int (a0), .int ((v133) / ((128 : Int32))), .int ((v133) / ((128 : Int32)))] [] (k_X12_have E _ hE R ⟨_, _, r133⟩ a0 ((v133) / ((128 : Int32))) ((v133) / ((128 : Int32))) R134 hv134) cls_X12 (by omega) (r133.o) cw_X12_354 w_2547 w_115 (Nat.le_of_ble_eq_true rfl) rfl (Nat.le_of_ble_eq_true rfl) (tbd tv_X12_addName rfl) (fun v134w f134 q134 => ?_) (fun _ _ h => h.elim)
    obtain ⟨rfl, ⟨az134, sy134, r134⟩, fa134⟩ := q134
    refine G.eqs [] rfl ?_
    refine G.go tv_X12_addName 1 45 [(0, .ref (gAd E (56))), (1, .int (a0)), (2, .int (a1)), (3, .int (a2)), (4, .int (a3)), (5, .int ((v133) / ((16 : Int32)))), (6, .int (v133))] [.ref (gAd E (56))] rfl ?_
    refine G.rg r134 hE 11 (.int (rS R134 11)) (by decide) rfl (tbd tv_X12_addName rfl) w_2076 ?_
    refine G.if_ne 52 (tbd tv_X12_addName rfl) (by decide) (fun c48 => ?_) (fun c48 => ?_)
    · replace hr := ite_f c48 hr
      refine G.go tv_X12_addName 7 62 [(0, .ref (gAd E (56))), (1, .int (a0)), (2, .int (a1)), (3, .int (a2)), (4, .int (a3)), (5, .int ((v133) / ((16 : Int32)))), (6, .int (v133))] [.int ((v133) + ((128 : Int32))), .int ((4 : Int32)), .int ((4 : Int32)), .int (a0), .ref (gAd E (56))] rfl ?_
      obtain ⟨R135, hv135, hr⟩ := bnd_s hr
      refine G.callV (56) [.int (a0), .int ((4 : Int32)), .int ((4 : Int32)), .int ((v133) + ((128 : Int32)))] [] (k_X12_setField E _ hE R134 ⟨_, _, r134⟩ a0 ((4 : Int32)) ((4 : Int32)) ((v133) + ((128 : Int32))) R135 hv135) cls_X12 (by omega) (r134.o) cw_X12_332 w_2424 w_87 (Nat.le_of_ble_eq_true rfl) rfl (Nat.le_of_ble_eq_true rfl) (tbd tv_X12_addName rfl) (fun v135w f135 q135 => ?_) (fun _ _ h => h.elim)
      obtain ⟨rfl, ⟨az135, sy135, r135⟩, fa135⟩ := q135
      refine G.eqs [] rfl ?_
      refine G.less [(0, .ref (gAd E (56))), (1, .int (a0)), (2, .int (a1)), (3, .int (a2)), (4, .int (a3)), (5, .int ((v133) / ((16 : Int32))))] [0, 1, 2, 3, 4, 5] rfl ?_
      exact l_X12_addName_65 E f sz _ hE _ _ _ _ _ _ _ hr _ ⟨_, _, r135⟩ ((((Fr.rf.tr fa132 (fun _ h => h)).tr fa133 (fun _ h => h)).tr fa134 (fun _ h => h)).tr fa135 (fun _ h => h))
    · replace hr := ite_t c48 hr
      cases hr
      exact G.vret rfl ⟨rfl, ⟨_, _, r134⟩, (((Fr.rf.tr fa132 (fun _ h => h)).tr fa133 (fun _ h => h)).tr fa134 (fun _ h => h))⟩ (tbd tv_X12_addName rfl)
def tb_X12_copyBytes : List (Nat × Instr × Nat) := [(0, .aload_n 0, 1), (1, .iload_n 1, 1), (2, .invokevirtual 344, 3), (5, .istore_n 3, 1), (6, .iload_n 3, 1), (7, .sipush 128, 3), (10, .iadd, 1), (11, .iconst 1, 1), (12, .isub, 1), (13, .sipush 128, 3), (16, .idiv, 1), (17, .istore 4, 2), (19, .iconst 0, 1), (20, .istore 5, 2), (22, .iload 5, 2), (24, .iload 4, 2), (26, .if_icmp .ge 35, 3), (29, .aload_n 0, 1), (30, .getfield 25, 3), (33, .ifCond .eq 28, 3), (36, .aload_n 0, 1), (37, .iload_n 1, 1), (38, .iload 5, 2), (40, .invokevirtual 323, 3), (43, .ifCond .eq 12, 3), (46, .aload_n 0, 1), (47, .iload_n 2, 1), (48, .iload 5, 2), (50, .iload 5, 2), (52, .invokevirtual 354, 3), (55, .iinc 5 1, 3), (58, .goto (-36), 3), (61, .iconst 0, 1), (62, .istore 5, 2), (64, .iload 5, 2), (66, .iload 4, 2), (68, .if_icmp .ge 96, 3), (71, .aload_n 0, 1), (72, .getfield 25, 3), (75, .ifCond .eq 89, 3), (78, .aload_n 0, 1), (79, .iload_n 1, 1), (80, .iload 5, 2), (82, .invokevirtual 323, 3), (85, .istore 6, 2), (87, .iload 6, 2), (89, .ifCond .eq 69, 3), (92, .aload_n 0, 1), (93, .iload 6, 2), (95, .iconst 1, 1), (96, .invokevirtual 236, 3), (99, .iconst 0, 1), (100, .istore 7, 2), (102, .iload 7, 2), (104, .sipush 128, 3), (107, .if_icmp .ge 40, 3), (110, .aload_n 0, 1), (111, .getfield 89, 3), (114, .iload 7, 2), (116, .sipush 128, 3), (119, .iload 5, 2), (121, .imul, 1), (122, .iload 7, 2), (124, .iadd, 1), (125, .iload_n 3, 1), (126, .if_icmp .ge 13, 3), (129, .aload_n 0, 1), (130, .getfield 86, 3), (133, .iload 7, 2), (135, .baload, 1), (136, .goto 4, 3), (139, .iconst 0, 1), (140, .bastore, 1), (141, .iinc 7 1, 3), (144, .goto (-42), 3), (147, .aload_n 0, 1), (148, .aload_n 0, 1), (149, .iload_n 2, 1), (150, .iload 5, 2), (152, .invokevirtual 323, 3), (155, .invokevirtual 475, 3), (158, .iinc 5 1, 3), (161, .goto (-97), 3), (164, .return_, 1)]
theorem tv_X12_copyBytes : Tv cX12_copyBytes tb_X12_copyBytes := by
  unfold Tv
  decide +kernel
theorem w_2629 : Cond.methodLink "LedgerFilesModel" 475 yX12_direct ∈ TB := tp_11 83 (by decide +kernel) rfl
theorem w_2632 : Cond.code yX12_direct prog_14_method_39_code 3 none ∈ TB := tp_11 86 rfl rfl
theorem cw_X12_475 : Cw RX12 475 yX12_direct cX12_direct 3 none 1 := ⟨w_2629, w_2632, w_161, by decide +kernel, by decide +kernel, by decide⟩
theorem w_2631 : Cond.instanceMethod yX12_direct ∈ TB := tp_11 85 (by decide +kernel) rfl
theorem w_131 : Cond.selects "LedgerFilesModel" yX12_direct yX12_direct ∈ TB := tp_0 131 (by decide +kernel) rfl
noncomputable def e_copyBytes_102  (self64 : RfT → Int32 → Int32 → Int32 → Int32 → Int32 → Option (RfT)) : Nat → RfT → Int32 → Int32 → Int32 → Int32 → Int32 → Int32 → Option (RfT)
  | 0, _, _, _, _, _, _, _ => none
  | n + 1, R, x1, x2, x3, x4, x5, x7 => if ((128 : Int32)) ≤ x7 then bnd (e_blockOf R x2 x5) (fun v148 => bnd (e_direct R v148) (fun R149 => self64 R149 x1 x2 x3 x4 (x5 + (1 : Int32)))) else if x3 ≤ ((((128 : Int32)) * (x5)) + (x7)) then stR R 44 128 x7 (vp_nar .byte ((0 : Int32))) (fun R150 => e_copyBytes_102  self64 n R150 x1 x2 x3 x4 x5 (x7 + (1 : Int32))) else ld (rA R 43) 128 x7 (fun v151 => stR R 44 128 x7 (vp_nar .byte v151) (fun R152 => e_copyBytes_102  self64 n R152 x1 x2 x3 x4 x5 (x7 + (1 : Int32))))
noncomputable def e_copyBytes_64  : Nat → RfT → Int32 → Int32 → Int32 → Int32 → Int32 → Option (RfT)
  | 0, _, _, _, _, _, _ => none
  | n + 1, R, x1, x2, x3, x4, x5 => if x4 ≤ x5 then some R else if (rS R 11) = 0 then some R else bnd (e_blockOf R x1 x5) (fun v146 => if v146 = 0 then e_copyBytes_64  n R x1 x2 x3 x4 (x5 + (1 : Int32)) else bnd (e_see R v146 ((1 : Int32))) (fun R147 => e_copyBytes_102  (e_copyBytes_64  n) fuL R147 x1 x2 x3 x4 x5 ((0 : Int32))))
noncomputable def e_copyBytes_22  : Nat → RfT → Int32 → Int32 → Int32 → Int32 → Int32 → Option (RfT)
  | 0, _, _, _, _, _, _ => none
  | n + 1, R, x1, x2, x3, x4, x5 => if x4 ≤ x5 then e_copyBytes_64  fuL R x1 x2 x3 x4 ((0 : Int32)) else if (rS R 11) = 0 then e_copyBytes_64  fuL R x1 x2 x3 x4 ((0 : Int32)) else bnd (e_blockOf R x1 x5) (fun v144 => if v144 = 0 then e_copyBytes_22  n R x1 x2 x3 x4 (x5 + (1 : Int32)) else bnd (e_have R x2 x5 x5) (fun R145 => e_copyBytes_22  n R145 x1 x2 x3 x4 (x5 + (1 : Int32))))
noncomputable def e_copyBytes  (R : RfT) (a0 : Int32) (a1 : Int32) : Option (RfT) := bnd (e_size R a0) (fun v142 => nm ((((v142) + ((128 : Int32))) - ((1 : Int32))) / ((128 : Int32))) (fun v143 => e_copyBytes_22  fuL R a0 a1 v142 v143 ((0 : Int32))))
set_option maxRecDepth 100000 in
set_option maxHeartbeats 4000000 in
theorem l_X12_copyBytes_102 (E : gE) (f0 : Nat → va_E) (sz : Nat) (QA : Nat → Prop) (hE : 94 ≤ gN E) (self64 : RfT → Int32 → Int32 → Int32 → Int32 → Int32 → Option (RfT)) (hs64 : ∀ (R : RfT) (x1 : Int32) (x2 : Int32) (x3 : Int32) (x4 : Int32) (x5 : Int32) (R9 : RfT) (hr : self64 R x1 x2 x3 x4 x5 = some R9) (f : Nat → va_E) (w : RW E f R) (hf : Fr RfK f0 f), G E (13, yX12_copyBytes, 8, none, sz, QA) cX12_copyBytes (gO E (13, yX12_copyBytes, 8, none, sz, QA) (fun v g => v = none ∧ RW E g R9 ∧ Fr RfK f0 g, fun _ _ => False)) 64 [(0, .ref (gAd E (56))), (1, .int (x1)), (2, .int (x2)), (3, .int (x3)), (4, .int (x4)), (5, .int (x5))] [] f) : ∀ (n : Nat), ∀ (R : RfT) (x1 : Int32) (x2 : Int32) (x3 : Int32) (x4 : Int32) (x5 : Int32) (x7 : Int32) (R9 : RfT) (hr : e_copyBytes_102  self64 n R x1 x2 x3 x4 x5 x7 = some R9) (f : Nat → va_E) (w : RW E f R) (hf : Fr RfK f0 f), G E (13, yX12_copyBytes, 8, none, sz, QA) cX12_copyBytes (gO E (13, yX12_copyBytes, 8, none, sz, QA) (fun v g => v = none ∧ RW E g R9 ∧ Fr RfK f0 g, fun _ _ => False)) 102 [(0, .ref (gAd E (56))), (1, .int (x1)), (2, .int (x2)), (3, .int (x3)), (4, .int (x4)), (5, .int (x5)), (7, .int (x7))] [] f := by
  intro n
  induction n with
  | zero =>
    intro R x1 x2 x3 x4 x5 x7 R9 hr f w hf
    cases hr
  | succ n ih =>
    intro R x1 x2 x3 x4 x5 x7 R9 hr f w hf
    obtain ⟨az, sy, r0⟩ := w
    unfold e_copyBytes_102 at hr
    refine G.go tv_X12_copyBytes 2 107 [(0, .ref (gAd E (56))), (1, .int (x1)), (2, .int (x2)), (3, .int (x3)), (4, .int (x4)), (5, .int (x5)), (7, .int (x7))] [.int ((128 : Int32)), .int (x7)] rfl ?_
    refine G.cmp_ge 147 (tbd tv_X12_copyBytes rfl) (by decide) (fun c107 => ?_) (fun c107 => ?_)
    · replace hr := ite_t c107 hr
      refine G.go tv_X12_copyBytes 4 152 [(0, .ref (gAd E (56))), (1, .int (x1)), (2, .int (x2)), (3, .int (x3)), (4, .int (x4)), (5, .int (x5)), (7, .int (x7))] [.int (x5), .int (x2), .ref (gAd E (56)), .ref (gAd E (56))] rfl ?_
      obtain ⟨v148, hv148, hr⟩ := bnd_s hr
      refine G.callV (56) [.int (x2), .int (x5)] [.ref (gAd E (56))] (k_X12_blockOf E _ hE R ⟨_, _, r0⟩ x2 x5 v148 hv148) cls_X12 (by omega) (r0.o) cw_X12_323 w_2507 w_105 (Nat.le_of_ble_eq_true rfl) rfl (Nat.le_of_ble_eq_true rfl) (tbd tv_X12_copyBytes rfl) (fun v148w f148 q148 => ?_) (fun _ _ h => h.elim)
      obtain ⟨rfl, ⟨az148, sy148, r148⟩, fa148⟩ := q148
      refine G.eqs [.int (v148), .ref (gAd E (56))] rfl ?_
      obtain ⟨R149, hv149, hr⟩ := bnd_s hr
      refine G.callV (56) [.int (v148)] [] (k_X12_direct E _ hE R ⟨_, _, r148⟩ v148 R149 hv149) cls_X12 (by omega) (r148.o) cw_X12_475 w_2631 w_131 (Nat.le_of_ble_eq_true rfl) rfl (Nat.le_of_ble_eq_true rfl) (tbd tv_X12_copyBytes rfl) (fun v149w f149 q149 => ?_) (fun _ _ h => h.elim)
      obtain ⟨rfl, ⟨az149, sy149, r149⟩, fa149⟩ := q149
      refine G.eqs [] rfl ?_
      refine G.go tv_X12_copyBytes 2 64 [(0, .ref (gAd E (56))), (1, .int (x1)), (2, .int (x2)), (3, .int (x3)), (4, .int (x4)), (5, .int (x5 + (1 : Int32))), (7, .int (x7))] [] rfl ?_
      refine G.less [(0, .ref (gAd E (56))), (1, .int (x1)), (2, .int (x2)), (3, .int (x3)), (4, .int (x4)), (5, .int (x5 + (1 : Int32)))] [0, 1, 2, 3, 4, 5] rfl ?_
      exact hs64 _ _ _ _ _ _ _ hr _ ⟨_, _, r149⟩ ((hf.tr fa148 (fun _ h => h)).tr fa149 (fun _ h => h))
    · replace hr := ite_f c107 hr
      refine G.go tv_X12_copyBytes 1 111 [(0, .ref (gAd E (56))), (1, .int (x1)), (2, .int (x2)), (3, .int (x3)), (4, .int (x4)), (5, .int (x5)), (7, .int (x7))] [.ref (gAd E (56))] rfl ?_
      refine G.rg r0 hE 44 (.ref (gAd E (79))) (by decide) rfl (tbd tv_X12_copyBytes rfl) w_2109 ?_
      refine G.go tv_X12_copyBytes 7 126 [(0, .ref (gAd E (56))), (1, .int (x1)), (2, .int (x2)), (3, .int (x3)), (4, .int (x4)), (5, .int (x5)), (7, .int (x7))] [.int (x3), .int ((((128 : Int32)) * (x5)) + (x7)), .int (x7), .ref (gAd E (79))] rfl ?_
      refine G.cmp_ge 139 (tbd tv_X12_copyBytes rfl) (by decide) (fun c126 => ?_) (fun c126 => ?_)
      · replace hr := ite_t c126 hr
        refine G.go tv_X12_copyBytes 1 140 [(0, .ref (gAd E (56))), (1, .int (x1)), (2, .int (x2)), (3, .int (x3)), (4, .int (x4)), (5, .int (x5)), (7, .int (x7))] [.int ((0 : Int32)), .int (x7), .ref (gAd E (79))] rfl ?_
        obtain ⟨R150, b150, eR150, hr⟩ := stR_s hr
        refine G.bast (79) (by omega) (r0.a44) b150 (tbd tv_X12_copyBytes rfl) ?_
        refine G.gen (P := fun w9 => RfV E w9 (setSr (setS R150 42 az) sy) ∧ Fr RfK f0 w9) ⟨by rw [eR150]; exact r0.p44 _, Fr.up hf ⟨by decide, by decide⟩⟩ (fun u150 p150 => ?_)
        obtain ⟨r150, h150⟩ := p150
        refine G.go tv_X12_copyBytes 2 102 [(0, .ref (gAd E (56))), (1, .int (x1)), (2, .int (x2)), (3, .int (x3)), (4, .int (x4)), (5, .int (x5)), (7, .int (x7 + (1 : Int32)))] [] rfl ?_
        refine G.less [(0, .ref (gAd E (56))), (1, .int (x1)), (2, .int (x2)), (3, .int (x3)), (4, .int (x4)), (5, .int (x5)), (7, .int (x7 + (1 : Int32)))] [0, 1, 2, 3, 4, 5, 6] rfl ?_
        exact ih _ _ _ _ _ _ _ _ hr _ ⟨_, _, r150⟩ h150
      · replace hr := ite_f c126 hr
        refine G.go tv_X12_copyBytes 1 130 [(0, .ref (gAd E (56))), (1, .int (x1)), (2, .int (x2)), (3, .int (x3)), (4, .int (x4)), (5, .int (x5)), (7, .int (x7))] [.ref (gAd E (56)), .int (x7), .ref (gAd E (79))] rfl ?_
        refine G.rg r0 hE 43 (.ref (gAd E (78))) (by decide) rfl (tbd tv_X12_copyBytes rfl) w_2108 ?_
        refine G.go tv_X12_copyBytes 1 135 [(0, .ref (gAd E (56))), (1, .int (x1)), (2, .int (x2)), (3, .int (x3)), (4, .int (x4)), (5, .int (x5)), (7, .int (x7))] [.int (x7), .ref (gAd E (78)), .int (x7), .ref (gAd E (79))] rfl ?_
        obtain ⟨v151, b151, e151, hr⟩ := ld_s hr
        refine G.baldE (78) (by omega) (r0.a43) b151 e151 (tbd tv_X12_copyBytes rfl) ?_
        refine G.go tv_X12_copyBytes 1 140 [(0, .ref (gAd E (56))), (1, .int (x1)), (2, .int (x2)), (3, .int (x3)), (4, .int (x4)), (5, .int (x5)), (7, .int (x7))] [.int (v151), .int (x7), .ref (gAd E (79))] rfl ?_
        obtain ⟨R152, b152, eR152, hr⟩ := stR_s hr
        refine G.bast (79) (by omega) (r0.a44) b152 (tbd tv_X12_copyBytes rfl) ?_
        refine G.gen (P := fun w9 => RfV E w9 (setSr (setS R152 42 az) sy) ∧ Fr RfK f0 w9) ⟨by rw [eR152]; exact r0.p44 _, Fr.up hf ⟨by decide, by decide⟩⟩ (fun u152 p152 => ?_)
        obtain ⟨r152, h152⟩ := p152
        refine G.go tv_X12_copyBytes 2 102 [(0, .ref (gAd E (56))), (1, .int (x1)), (2, .int (x2)), (3, .int (x3)), (4, .int (x4)), (5, .int (x5)), (7, .int (x7 + (1 : Int32)))] [] rfl ?_
        refine G.less [(0, .ref (gAd E (56))), (1, .int (x1)), (2, .int (x2)), (3, .int (x3)), (4, .int (x4)), (5, .int (x5)), (7, .int (x7 + (1 : Int32)))] [0, 1, 2, 3, 4, 5, 6] rfl ?_
        exact ih _ _ _ _ _ _ _ _ hr _ ⟨_, _, r152⟩ h152
set_option maxRecDepth 100000 in
set_option maxHeartbeats 4000000 in
theorem l_X12_copyBytes_64 (E : gE) (f0 : Nat → va_E) (sz : Nat) (QA : Nat → Prop) (hE : 94 ≤ gN E) : ∀ (n : Nat), ∀ (R : RfT) (x1 : Int32) (x2 : Int32) (x3 : Int32) (x4 : Int32) (x5 : Int32) (R9 : RfT) (hr : e_copyBytes_64  n R x1 x2 x3 x4 x5 = some R9) (f : Nat → va_E) (w : RW E f R) (hf : Fr RfK f0 f), G E (13, yX12_copyBytes, 8, none, sz, QA) cX12_copyBytes (gO E (13, yX12_copyBytes, 8, none, sz, QA) (fun v g => v = none ∧ RW E g R9 ∧ Fr RfK f0 g, fun _ _ => False)) 64 [(0, .ref (gAd E (56))), (1, .int (x1)), (2, .int (x2)), (3, .int (x3)), (4, .int (x4)), (5, .int (x5))] [] f := by
  intro n
  induction n with
  | zero =>
    intro R x1 x2 x3 x4 x5 R9 hr f w hf
    cases hr
  | succ n ih =>
    intro R x1 x2 x3 x4 x5 R9 hr f w hf
    obtain ⟨az, sy, r0⟩ := w
    unfold e_copyBytes_64 at hr
    refine G.go tv_X12_copyBytes 2 68 [(0, .ref (gAd E (56))), (1, .int (x1)), (2, .int (x2)), (3, .int (x3)), (4, .int (x4)), (5, .int (x5))] [.int (x4), .int (x5)] rfl ?_
    refine G.cmp_ge 164 (tbd tv_X12_copyBytes rfl) (by decide) (fun c68 => ?_) (fun c68 => ?_)
    · replace hr := ite_t c68 hr
      cases hr
      exact G.vret rfl ⟨rfl, ⟨_, _, r0⟩, hf⟩ (tbd tv_X12_copyBytes rfl)
    · replace hr := ite_f c68 hr
      refine G.go tv_X12_copyBytes 1 72 [(0, .ref (gAd E (56))), (1, .int (x1)), (2, .int (x2)), (3, .int (x3)), (4, .int (x4)), (5, .int (x5))] [.ref (gAd E (56))] rfl ?_
      refine G.rg r0 hE 11 (.int (rS R 11)) (by decide) rfl (tbd tv_X12_copyBytes rfl) w_2076 ?_
      refine G.if_eq 164 (tbd tv_X12_copyBytes rfl) (by decide) (fun c75 => ?_) (fun c75 => ?_)
      · replace hr := ite_t c75 hr
        cases hr
        exact G.vret rfl ⟨rfl, ⟨_, _, r0⟩, hf⟩ (tbd tv_X12_copyBytes rfl)
      · replace hr := ite_f c75 hr
        refine G.go tv_X12_copyBytes 3 82 [(0, .ref (gAd E (56))), (1, .int (x1)), (2, .int (x2)), (3, .int (x3)), (4, .int (x4)), (5, .int (x5))] [.int (x5), .int (x1), .ref (gAd E (56))] rfl ?_
        obtain ⟨v146, hv146, hr⟩ := bnd_s hr
        refine G.callV (56) [.int (x1), .int (x5)] [] (k_X12_blockOf E _ hE R ⟨_, _, r0⟩ x1 x5 v146 hv146) cls_X12 (by omega) (r0.o) cw_X12_323 w_2507 w_105 (Nat.le_of_ble_eq_true rfl) rfl (Nat.le_of_ble_eq_true rfl) (tbd tv_X12_copyBytes rfl) (fun v146w f146 q146 => ?_) (fun _ _ h => h.elim)
        obtain ⟨rfl, ⟨az146, sy146, r146⟩, fa146⟩ := q146
        refine G.eqs [.int (v146)] rfl ?_
        refine G.go tv_X12_copyBytes 2 89 [(0, .ref (gAd E (56))), (1, .int (x1)), (2, .int (x2)), (3, .int (x3)), (4, .int (x4)), (5, .int (x5)), (6, .int (v146))] [.int (v146)] rfl ?_
        refine G.if_eq 158 (tbd tv_X12_copyBytes rfl) (by decide) (fun c89 => ?_) (fun c89 => ?_)
        · replace hr := ite_t c89 hr
          refine G.go tv_X12_copyBytes 2 64 [(0, .ref (gAd E (56))), (1, .int (x1)), (2, .int (x2)), (3, .int (x3)), (4, .int (x4)), (5, .int (x5 + (1 : Int32))), (6, .int (v146))] [] rfl ?_
          refine G.less [(0, .ref (gAd E (56))), (1, .int (x1)), (2, .int (x2)), (3, .int (x3)), (4, .int (x4)), (5, .int (x5 + (1 : Int32)))] [0, 1, 2, 3, 4, 5] rfl ?_
          exact ih _ _ _ _ _ _ _ hr _ ⟨_, _, r146⟩ (hf.tr fa146 (fun _ h => h))
        · replace hr := ite_f c89 hr
          refine G.go tv_X12_copyBytes 3 96 [(0, .ref (gAd E (56))), (1, .int (x1)), (2, .int (x2)), (3, .int (x3)), (4, .int (x4)), (5, .int (x5)), (6, .int (v146))] [.int ((1 : Int32)), .int (v146), .ref (gAd E (56))] rfl ?_
          obtain ⟨R147, hv147, hr⟩ := bnd_s hr
          refine G.callV (56) [.int (v146), .int ((1 : Int32))] [] (k_X12_see E _ hE R ⟨_, _, r146⟩ v146 ((1 : Int32)) R147 hv147) cls_X12 (by omega) (r146.o) cw_X12_236 w_2420 w_86 (Nat.le_of_ble_eq_true rfl) rfl (Nat.le_of_ble_eq_true rfl) (tbd tv_X12_copyBytes rfl) (fun v147w f147 q147 => ?_) (fun _ _ h => h.elim)
          obtain ⟨rfl, ⟨az147, sy147, r147⟩, fa147⟩ := q147
          refine G.eqs [] rfl ?_
          refine G.go tv_X12_copyBytes 2 102 [(0, .ref (gAd E (56))), (1, .int (x1)), (2, .int (x2)), (3, .int (x3)), (4, .int (x4)), (5, .int (x5)), (6, .int (v146)), (7, .int ((0 : Int32)))] [] rfl ?_
          refine G.less [(0, .ref (gAd E (56))), (1, .int (x1)), (2, .int (x2)), (3, .int (x3)), (4, .int (x4)), (5, .int (x5)), (7, .int ((0 : Int32)))] [0, 1, 2, 3, 4, 5, 7] rfl ?_
          exact l_X12_copyBytes_102 E f0 sz QA hE _ ih _ _ _ _ _ _ _ _ _ hr _ ⟨_, _, r147⟩ ((hf.tr fa146 (fun _ h => h)).tr fa147 (fun _ h => h))
set_option maxRecDepth 100000 in
set_option maxHeartbeats 4000000 in
theorem l_X12_copyBytes_22 (E : gE) (f0 : Nat → va_E) (sz : Nat) (QA : Nat → Prop) (hE : 94 ≤ gN E) : ∀ (n : Nat), ∀ (R : RfT) (x1 : Int32) (x2 : Int32) (x3 : Int32) (x4 : Int32) (x5 : Int32) (R9 : RfT) (hr : e_copyBytes_22  n R x1 x2 x3 x4 x5 = some R9) (f : Nat → va_E) (w : RW E f R) (hf : Fr RfK f0 f), G E (13, yX12_copyBytes, 8, none, sz, QA) cX12_copyBytes (gO E (13, yX12_copyBytes, 8, none, sz, QA) (fun v g => v = none ∧ RW E g R9 ∧ Fr RfK f0 g, fun _ _ => False)) 22 [(0, .ref (gAd E (56))), (1, .int (x1)), (2, .int (x2)), (3, .int (x3)), (4, .int (x4)), (5, .int (x5))] [] f := by
  intro n
  induction n with
  | zero =>
    intro R x1 x2 x3 x4 x5 R9 hr f w hf
    cases hr
  | succ n ih =>
    intro R x1 x2 x3 x4 x5 R9 hr f w hf
    obtain ⟨az, sy, r0⟩ := w
    unfold e_copyBytes_22 at hr
    refine G.go tv_X12_copyBytes 2 26 [(0, .ref (gAd E (56))), (1, .int (x1)), (2, .int (x2)), (3, .int (x3)), (4, .int (x4)), (5, .int (x5))] [.int (x4), .int (x5)] rfl ?_
    refine G.cmp_ge 61 (tbd tv_X12_copyBytes rfl) (by decide) (fun c26 => ?_) (fun c26 => ?_)
    · replace hr := ite_t c26 hr
      refine G.go tv_X12_copyBytes 2 64 [(0, .ref (gAd E (56))), (1, .int (x1)), (2, .int (x2)), (3, .int (x3)), (4, .int (x4)), (5, .int ((0 : Int32)))] [] rfl ?_
      refine G.less [(0, .ref (gAd E (56))), (1, .int (x1)), (2, .int (x2)), (3, .int (x3)), (4, .int (x4)), (5, .int ((0 : Int32)))] [0, 1, 2, 3, 4, 5] rfl ?_
      exact l_X12_copyBytes_64 E f0 sz QA hE _ _ _ _ _ _ _ _ hr _ ⟨_, _, r0⟩ hf
    · replace hr := ite_f c26 hr
      refine G.go tv_X12_copyBytes 1 30 [(0, .ref (gAd E (56))), (1, .int (x1)), (2, .int (x2)), (3, .int (x3)), (4, .int (x4)), (5, .int (x5))] [.ref (gAd E (56))] rfl ?_
      refine G.rg r0 hE 11 (.int (rS R 11)) (by decide) rfl (tbd tv_X12_copyBytes rfl) w_2076 ?_
      refine G.if_eq 61 (tbd tv_X12_copyBytes rfl) (by decide) (fun c33 => ?_) (fun c33 => ?_)
      · replace hr := ite_t c33 hr
        refine G.go tv_X12_copyBytes 2 64 [(0, .ref (gAd E (56))), (1, .int (x1)), (2, .int (x2)), (3, .int (x3)), (4, .int (x4)), (5, .int ((0 : Int32)))] [] rfl ?_
        refine G.less [(0, .ref (gAd E (56))), (1, .int (x1)), (2, .int (x2)), (3, .int (x3)), (4, .int (x4)), (5, .int ((0 : Int32)))] [0, 1, 2, 3, 4, 5] rfl ?_
        exact l_X12_copyBytes_64 E f0 sz QA hE _ _ _ _ _ _ _ _ hr _ ⟨_, _, r0⟩ hf
      · replace hr := ite_f c33 hr
        refine G.go tv_X12_copyBytes 3 40 [(0, .ref (gAd E (56))), (1, .int (x1)), (2, .int (x2)), (3, .int (x3)), (4, .int (x4)), (5, .int (x5))] [.int (x5), .int (x1), .ref (gAd E (56))] rfl ?_
        obtain ⟨v144, hv144, hr⟩ := bnd_s hr
        refine G.callV (56) [.int (x1), .int (x5)] [] (k_X12_blockOf E _ hE R ⟨_, _, r0⟩ x1 x5 v144 hv144) cls_X12 (by omega) (r0.o) cw_X12_323 w_2507 w_105 (Nat.le_of_ble_eq_true rfl) rfl (Nat.le_of_ble_eq_true rfl) (tbd tv_X12_copyBytes rfl) (fun v144w f144 q144 => ?_) (fun _ _ h => h.elim)
        obtain ⟨rfl, ⟨az144, sy144, r144⟩, fa144⟩ := q144
        refine G.eqs [.int (v144)] rfl ?_
        refine G.if_eq 55 (tbd tv_X12_copyBytes rfl) (by decide) (fun c43 => ?_) (fun c43 => ?_)
        · replace hr := ite_t c43 hr
          refine G.go tv_X12_copyBytes 2 22 [(0, .ref (gAd E (56))), (1, .int (x1)), (2, .int (x2)), (3, .int (x3)), (4, .int (x4)), (5, .int (x5 + (1 : Int32)))] [] rfl ?_
          refine G.less [(0, .ref (gAd E (56))), (1, .int (x1)), (2, .int (x2)), (3, .int (x3)), (4, .int (x4)), (5, .int (x5 + (1 : Int32)))] [0, 1, 2, 3, 4, 5] rfl ?_
          exact ih _ _ _ _ _ _ _ hr _ ⟨_, _, r144⟩ (hf.tr fa144 (fun _ h => h))
        · replace hr := ite_f c43 hr
          refine G.go tv_X12_copyBytes 4 52 [(0, .ref (gAd E (56))), (1, .int (x1)), (2, .int (x2)), (3, .int (x3)), (4, .int (x4)), (5, .int (x5))] [.int (x5), .int (x5), .int (x2), .ref (gAd E (56))] rfl ?_
          obtain ⟨R145, hv145, hr⟩ := bnd_s hr
          refine G.callV (56) [.int (x2), .int (x5), .int (x5)] [] (k_X12_have E _ hE R ⟨_, _, r144⟩ x2 x5 x5 R145 hv145) cls_X12 (by omega) (r144.o) cw_X12_354 w_2547 w_115 (Nat.le_of_ble_eq_true rfl) rfl (Nat.le_of_ble_eq_true rfl) (tbd tv_X12_copyBytes rfl) (fun v145w f145 q145 => ?_) (fun _ _ h => h.elim)
          obtain ⟨rfl, ⟨az145, sy145, r145⟩, fa145⟩ := q145
          refine G.eqs [] rfl ?_
          refine G.go tv_X12_copyBytes 2 22 [(0, .ref (gAd E (56))), (1, .int (x1)), (2, .int (x2)), (3, .int (x3)), (4, .int (x4)), (5, .int (x5 + (1 : Int32)))] [] rfl ?_
          refine G.less [(0, .ref (gAd E (56))), (1, .int (x1)), (2, .int (x2)), (3, .int (x3)), (4, .int (x4)), (5, .int (x5 + (1 : Int32)))] [0, 1, 2, 3, 4, 5] rfl ?_
          exact ih _ _ _ _ _ _ _ hr _ ⟨_, _, r145⟩ ((hf.tr fa144 (fun _ h => h)).tr fa145 (fun _ h => h))
set_option maxRecDepth 100000 in
set_option maxHeartbeats 4000000 in
theorem k_X12_copyBytes (E : gE) (f : Nat → va_E) (hE : 94 ≤ gN E) (R : RfT) (w : RW E f R) (a0 : Int32) (a1 : Int32) (R9 : RfT) (hr : e_copyBytes R a0 a1 = some R9) : Ct E 13 yX12_copyBytes cX12_copyBytes 8 none [.ref (gAd E (56)), .int (a0), .int (a1)] f (fun v g => v = none ∧ RW E g R9 ∧ Fr RfK f g, fun _ _ => False) := by
  obtain ⟨az, sy, r0⟩ := w
  refine Ct.of (by decide) (Nat.le_of_ble_eq_true rfl) (fun sz => ?_)
  refine G.eql [(0, .ref (gAd E (56))), (1, .int (a0)), (2, .int (a1))] rfl ?_
  unfold e_copyBytes at hr
  refine G.go tv_X12_copyBytes 2 2 [(0, .ref (gAd E (56))), (1, .int (a0)), (2, .int (a1))] [.int (a0), .ref (gAd E (56))] rfl ?_
  obtain ⟨v142, hv142, hr⟩ := bnd_s hr
  refine G.callV (56) [.int (a0)] [] (k_X12_size E _ hE R ⟨_, _, r0⟩ a0 v142 hv142) cls_X12 (by omega) (r0.o) cw_X12_344 w_2503 w_104 (Nat.le_of_ble_eq_true rfl) rfl (Nat.le_of_ble_eq_true rfl) (tbd tv_X12_copyBytes rfl) (fun v142w f142 q142 => ?_) (fun _ _ h => h.elim)
  obtain ⟨rfl, ⟨az142, sy142, r142⟩, fa142⟩ := q142
  refine G.eqs [.int (v142)] rfl ?_
  refine G.go tv_X12_copyBytes 7 16 [(0, .ref (gAd E (56))), (1, .int (a0)), (2, .int (a1)), (3, .int (v142))] [.int ((128 : Int32)), .int (((v142) + ((128 : Int32))) - ((1 : Int32)))] rfl ?_
  refine G.idiv (by decide) (tbd tv_X12_copyBytes rfl) ?_
  refine G.go tv_X12_copyBytes 1 19 [(0, .ref (gAd E (56))), (1, .int (a0)), (2, .int (a1)), (3, .int (v142)), (4, .int ((((v142) + ((128 : Int32))) - ((1 : Int32))) / ((128 : Int32))))] [] rfl ?_
  obtain ⟨v143, e143, hr⟩ := nm_s hr
  refine G.eql [(0, .ref (gAd E (56))), (1, .int (a0)), (2, .int (a1)), (3, .int (v142)), (4, .int (v143))] (by rw [e143]) ?_
  refine G.go tv_X12_copyBytes 2 22 [(0, .ref (gAd E (56))), (1, .int (a0)), (2, .int (a1)), (3, .int (v142)), (4, .int (v143)), (5, .int ((0 : Int32)))] [] rfl ?_
  refine G.less [(0, .ref (gAd E (56))), (1, .int (a0)), (2, .int (a1)), (3, .int (v142)), (4, .int (v143)), (5, .int ((0 : Int32)))] [0, 1, 2, 3, 4, 5] rfl ?_
  exact l_X12_copyBytes_22 E f sz _ hE _ _ _ _ _ _ _ _ hr _ ⟨_, _, r142⟩ (Fr.rf.tr fa142 (fun _ h => h))
def tb_X12_writeData : List (Nat × Instr × Nat) := [(0, .aload_n 0, 1), (1, .iload_n 1, 1), (2, .invokevirtual 326, 3), (5, .istore 4, 2), (7, .iload 4, 2), (9, .iconst 1, 1), (10, .if_icmp .eq 16, 3), (13, .iload 4, 2), (15, .ifCond .ne 8, 3), (18, .bipush (-11), 2), (20, .goto 5, 3), (23, .bipush (-4), 2), (25, .ireturn, 1), (26, .iload_n 2, 1), (27, .ifCond .lt 15, 3), (30, .iload_n 2, 1), (31, .i2l, 1), (32, .iload_n 3, 1), (33, .i2l, 1), (34, .ladd, 1), (35, .ldc2_w 478, 3), (38, .lcmp, 1), (39, .ifCond .le 6, 3), (42, .bipush (-10), 2), (44, .ireturn, 1), (45, .iload_n 3, 1), (46, .ifCond .ne 5, 3), (49, .iconst 0, 1), (50, .ireturn, 1), (51, .iload_n 2, 1), (52, .sipush 128, 3), (55, .idiv, 1), (56, .istore 5, 2), (58, .iload_n 2, 1), (59, .iload_n 3, 1), (60, .iadd, 1), (61, .iconst 1, 1), (62, .isub, 1), (63, .sipush 128, 3), (66, .idiv, 1), (67, .istore 6, 2), (69, .aload_n 0, 1), (70, .iload_n 1, 1), (71, .iload 5, 2), (73, .iload 6, 2), (75, .invokevirtual 412, 3), (78, .aload_n 0, 1), (79, .invokevirtual 415, 3), (82, .if_icmp .le 6, 3), (85, .bipush (-7), 2), (87, .ireturn, 1), (88, .aload_n 0, 1), (89, .iload_n 1, 1), (90, .iload 5, 2), (92, .iload 6, 2), (94, .invokevirtual 354, 3), (97, .aload_n 0, 1), (98, .getfield 25, 3), (101, .ifCond .eq 24, 3), (104, .iload_n 2, 1), (105, .iload_n 3, 1), (106, .iadd, 1), (107, .aload_n 0, 1), (108, .iload_n 1, 1), (109, .invokevirtual 344, 3), (112, .if_icmp .le 13, 3), (115, .aload_n 0, 1), (116, .iload_n 1, 1), (117, .iconst 4, 1), (118, .iconst 4, 1), (119, .iload_n 2, 1), (120, .iload_n 3, 1), (121, .iadd, 1), (122, .invokevirtual 332, 3), (125, .iload 5, 2), (127, .istore 7, 2), (129, .iload 7, 2), (131, .iload 6, 2), (133, .if_icmp .gt 117, 3), (136, .aload_n 0, 1), (137, .getfield 25, 3), (140, .ifCond .eq 110, 3), (143, .aload_n 0, 1), (144, .iload_n 1, 1), (145, .iload 7, 2), (147, .invokevirtual 323, 3), (150, .istore 8, 2), (152, .aload_n 0, 1), (153, .iload 8, 2), (155, .iconst 1, 1), (156, .invokevirtual 236, 3), (159, .iconst 0, 1), (160, .istore 9, 2), (162, .iload 9, 2), (164, .sipush 128, 3), (167, .if_icmp .ge 71, 3), (170, .sipush 128, 3), (173, .iload 7, 2), (175, .imul, 1), (176, .iload 9, 2), (178, .iadd, 1), (179, .iload_n 2, 1), (180, .isub, 1), (181, .istore 10, 2), (183, .aload_n 0, 1), (184, .getfield 89, 3), (187, .iload 9, 2), (189, .iload 10, 2), (191, .ifCond .lt 19, 3), (194, .iload 10, 2), (196, .iload_n 3, 1), (197, .if_icmp .ge 13, 3), (200, .aload_n 0, 1), (201, .getfield 128, 3), (204, .iload 10, 2), (206, .baload, 1), (207, .goto 24, 3), (210, .aload_n 0, 1), (211, .getfield 101, 3), (214, .iload 8, 2), (216, .baload, 1), (217, .ifCond .eq 7, 3), (220, .iconst 0, 1), (221, .goto 10, 3), (224, .aload_n 0, 1), (225, .getfield 86, 3), (228, .iload 9, 2), (230, .baload, 1), (231, .bastore, 1), (232, .iinc 9 1, 3), (235, .goto (-73), 3), (238, .aload_n 0, 1), (239, .iload 8, 2), (241, .invokevirtual 475, 3), (244, .iinc 7 1, 3), (247, .goto (-118), 3), (250, .aload_n 0, 1), (251, .iload_n 3, 1), (252, .invokevirtual 436, 3), (255, .ireturn, 1)]
theorem tv_X12_writeData : Tv cX12_writeData tb_X12_writeData := by
  unfold Tv
  decide +kernel
theorem w_2645 : Cond.constantLong "LedgerFilesModel" 478 (400000 : Int64) ∈ TB := tp_11 99 (by decide +kernel) rfl
def tb_X12_committed : List (Nat × Instr × Nat) := [(0, .aload_n 0, 1), (1, .invokevirtual 379, 3), (4, .aload_n 0, 1), (5, .iload_n 1, 1), (6, .invokevirtual 389, 3), (9, .ireturn, 1)]
theorem tv_X12_committed : Tv cX12_committed tb_X12_committed := by
  unfold Tv
  decide +kernel
theorem w_2430 : Cond.methodLink "LedgerFilesModel" 379 yX12_commit ∈ TB := tp_10 124 (by decide +kernel) rfl
theorem w_2433 : Cond.code yX12_commit prog_14_method_38_code 3 none ∈ TB := tp_10 127 rfl rfl
theorem cw_X12_379 : Cw RX12 379 yX12_commit cX12_commit 3 none 0 := ⟨w_2430, w_2433, w_161, by decide +kernel, by decide +kernel, by decide⟩
theorem w_2432 : Cond.instanceMethod yX12_commit ∈ TB := tp_10 126 (by decide +kernel) rfl
theorem w_89 : Cond.selects "LedgerFilesModel" yX12_commit yX12_commit ∈ TB := tp_0 89 (by decide +kernel) rfl
noncomputable def e_committed  (R : RfT) (a0 : Int32) : Option (Int32 × RfT) := bnd (e_commit R) (fun R160 => bnd2 (e_answer R160 a0) (fun v161 R161 => some (v161, R161)))
set_option maxRecDepth 100000 in
set_option maxHeartbeats 4000000 in
theorem k_X12_committed (E : gE) (f : Nat → va_E) (hE : 94 ≤ gN E) (R : RfT) (w : RW E f R) (a0 : Int32) (r : Int32) (R9 : RfT) (hr : e_committed R a0 = some (r, R9)) : Ct E 11 yX12_committed cX12_committed 2 (some .int) [.ref (gAd E (56)), .int (a0)] f (fun v g => v = some (.int r) ∧ RW E g R9 ∧ Fr RfK f g, fun _ _ => False) := by
  obtain ⟨az, sy, r0⟩ := w
  refine Ct.of (by decide) (Nat.le_of_ble_eq_true rfl) (fun sz => ?_)
  refine G.eql [(0, .ref (gAd E (56))), (1, .int (a0))] rfl ?_
  unfold e_committed at hr
  refine G.go tv_X12_committed 1 1 [(0, .ref (gAd E (56))), (1, .int (a0))] [.ref (gAd E (56))] rfl ?_
  obtain ⟨R160, hv160, hr⟩ := bnd_s hr
  refine G.callV (56) [] [] (k_X12_commit E _ hE R ⟨_, _, r0⟩ R160 hv160) cls_X12 (by omega) (r0.o) cw_X12_379 w_2432 w_89 (Nat.le_of_ble_eq_true rfl) rfl (Nat.le_of_ble_eq_true rfl) (tbd tv_X12_committed rfl) (fun v160w f160 q160 => ?_) (fun _ _ h => h.elim)
  obtain ⟨rfl, ⟨az160, sy160, r160⟩, fa160⟩ := q160
  refine G.eqs [] rfl ?_
  refine G.go tv_X12_committed 2 6 [(0, .ref (gAd E (56))), (1, .int (a0))] [.int (a0), .ref (gAd E (56))] rfl ?_
  obtain ⟨v161, R161, hv161, hr⟩ := bnd2_s hr
  refine G.callV (56) [.int (a0)] [] (k_X12_answer E _ hE R160 ⟨_, _, r160⟩ a0 v161 R161 hv161) cls_X12 (by omega) (r160.o) cw_X12_389 w_2339 w_69 (Nat.le_of_ble_eq_true rfl) rfl (Nat.le_of_ble_eq_true rfl) (tbd tv_X12_committed rfl) (fun v161w f161 q161 => ?_) (fun _ _ h => h.elim)
  obtain ⟨rfl, ⟨az161, sy161, r161⟩, fa161⟩ := q161
  refine G.eqs [.int (v161)] rfl ?_
  cases hr
  exact G.iret rfl rfl ⟨rfl, ⟨_, _, r161⟩, ((Fr.rf.tr fa160 (fun _ h => h)).tr fa161 (fun _ h => h))⟩ (tbd tv_X12_committed rfl)
theorem w_2561 : Cond.methodLink "LedgerFilesModel" 436 yX12_committed ∈ TB := tp_11 15 (by decide +kernel) rfl
theorem w_2564 : Cond.code yX12_committed prog_14_method_78_code 2 (some .int) ∈ TB := tp_11 18 rfl rfl
theorem cw_X12_436 : Cw RX12 436 yX12_committed cX12_committed 2 (some .int) 1 := ⟨w_2561, w_2564, w_161, by decide +kernel, by decide +kernel, by decide⟩
theorem w_2563 : Cond.instanceMethod yX12_committed ∈ TB := tp_11 17 (by decide +kernel) rfl
theorem w_119 : Cond.selects "LedgerFilesModel" yX12_committed yX12_committed ∈ TB := tp_0 119 (by decide +kernel) rfl
noncomputable def e_writeData_162  (self129 : RfT → Int32 → Int32 → Int32 → Int32 → Int32 → Option (Int32 × RfT)) : Nat → RfT → Int32 → Int32 → Int32 → Int32 → Int32 → Int32 → Int32 → Option (Int32 × RfT)
  | 0, _, _, _, _, _, _, _, _ => none
  | n + 1, R, x1, x2, x3, x6, x7, x8, x9 => if ((128 : Int32)) ≤ x9 then bnd (e_direct R x8) (fun R165 => self129 R165 x1 x2 x3 x6 (x7 + (1 : Int32))) else if (((((128 : Int32)) * (x7)) + (x9)) - (x2)) < 0 then ld (rA R 49) 1024 x8 (fun v166 => if v166 = 0 then ld (rA R 43) 128 x9 (fun v167 => stR R 44 128 x9 (vp_nar .byte v167) (fun R168 => e_writeData_162  self129 n R168 x1 x2 x3 x6 x7 x8 (x9 + (1 : Int32)))) else stR R 44 128 x9 (vp_nar .byte ((0 : Int32))) (fun R169 => e_writeData_162  self129 n R169 x1 x2 x3 x6 x7 x8 (x9 + (1 : Int32)))) else if x3 ≤ (((((128 : Int32)) * (x7)) + (x9)) - (x2)) then ld (rA R 49) 1024 x8 (fun v170 => if v170 = 0 then ld (rA R 43) 128 x9 (fun v171 => stR R 44 128 x9 (vp_nar .byte v171) (fun R172 => e_writeData_162  self129 n R172 x1 x2 x3 x6 x7 x8 (x9 + (1 : Int32)))) else stR R 44 128 x9 (vp_nar .byte ((0 : Int32))) (fun R173 => e_writeData_162  self129 n R173 x1 x2 x3 x6 x7 x8 (x9 + (1 : Int32)))) else ld (rA R 59) 2000 (((((128 : Int32)) * (x7)) + (x9)) - (x2)) (fun v174 => stR R 44 128 x9 (vp_nar .byte v174) (fun R175 => e_writeData_162  self129 n R175 x1 x2 x3 x6 x7 x8 (x9 + (1 : Int32))))
noncomputable def e_writeData_129  : Nat → RfT → Int32 → Int32 → Int32 → Int32 → Int32 → Option (Int32 × RfT)
  | 0, _, _, _, _, _, _ => none
  | n + 1, R, x1, x2, x3, x6, x7 => if x6 < x7 then bnd2 (e_committed R x3) (fun v159 R159 => some (v159, R159)) else if (rS R 11) = 0 then bnd2 (e_committed R x3) (fun v162 R162 => some (v162, R162)) else bnd (e_blockOf R x1 x7) (fun v163 => bnd (e_see R v163 ((1 : Int32))) (fun R164 => e_writeData_162  (e_writeData_129  n) fuL R164 x1 x2 x3 x6 x7 v163 ((0 : Int32))))
noncomputable def e_writeData  (R : RfT) (a0 : Int32) (a1 : Int32) (a2 : Int32) : Option (Int32 × RfT) := bnd (e_kind R a0) (fun v153 => if v153 = ((1 : Int32)) then if a1 < 0 then some ((-10 : Int32), R) else if (lg_cmp (((a1 : Int32).toInt64) + ((a2 : Int32).toInt64)) ((400000 : Int64))) ≤ 0 then if a2 = 0 then some ((0 : Int32), R) else bnd (e_need R a0 ((a1) / ((128 : Int32))) ((((a1) + (a2)) - ((1 : Int32))) / ((128 : Int32)))) (fun v154 => bnd2 (e_room R) (fun v155 R155 => if v154 ≤ v155 then bnd (e_have R155 a0 ((a1) / ((128 : Int32))) ((((a1) + (a2)) - ((1 : Int32))) / ((128 : Int32)))) (fun R156 => if (rS R156 11) = 0 then e_writeData_129  fuL R156 a0 a1 a2 ((((a1) + (a2)) - ((1 : Int32))) / ((128 : Int32))) ((a1) / ((128 : Int32))) else bnd (e_size R156 a0) (fun v157 => if ((a1) + (a2)) ≤ v157 then e_writeData_129  fuL R156 a0 a1 a2 ((((a1) + (a2)) - ((1 : Int32))) / ((128 : Int32))) ((a1) / ((128 : Int32))) else bnd (e_setField R156 a0 ((4 : Int32)) ((4 : Int32)) ((a1) + (a2))) (fun R158 => e_writeData_129  fuL R158 a0 a1 a2 ((((a1) + (a2)) - ((1 : Int32))) / ((128 : Int32))) ((a1) / ((128 : Int32)))))) else some ((-7 : Int32), R155))) else some ((-10 : Int32), R) else if v153 = 0 then some ((-11 : Int32), R) else some ((-4 : Int32), R))
set_option maxRecDepth 100000 in
set_option maxHeartbeats 4000000 in
theorem l_X12_writeData_162 (E : gE) (f0 : Nat → va_E) (sz : Nat) (QA : Nat → Prop) (hE : 94 ≤ gN E) (self129 : RfT → Int32 → Int32 → Int32 → Int32 → Int32 → Option (Int32 × RfT)) (hs129 : ∀ (R : RfT) (x1 : Int32) (x2 : Int32) (x3 : Int32) (x6 : Int32) (x7 : Int32) (r : Int32) (R9 : RfT) (hr : self129 R x1 x2 x3 x6 x7 = some (r, R9)) (f : Nat → va_E) (w : RW E f R) (hf : Fr RfK f0 f), G E (13, yX12_writeData, 11, (some .int), sz, QA) cX12_writeData (gO E (13, yX12_writeData, 11, (some .int), sz, QA) (fun v g => v = some (.int r) ∧ RW E g R9 ∧ Fr RfK f0 g, fun _ _ => False)) 129 [(0, .ref (gAd E (56))), (1, .int (x1)), (2, .int (x2)), (3, .int (x3)), (6, .int (x6)), (7, .int (x7))] [] f) : ∀ (n : Nat), ∀ (R : RfT) (x1 : Int32) (x2 : Int32) (x3 : Int32) (x6 : Int32) (x7 : Int32) (x8 : Int32) (x9 : Int32) (r : Int32) (R9 : RfT) (hr : e_writeData_162  self129 n R x1 x2 x3 x6 x7 x8 x9 = some (r, R9)) (f : Nat → va_E) (w : RW E f R) (hf : Fr RfK f0 f), G E (13, yX12_writeData, 11, (some .int), sz, QA) cX12_writeData (gO E (13, yX12_writeData, 11, (some .int), sz, QA) (fun v g => v = some (.int r) ∧ RW E g R9 ∧ Fr RfK f0 g, fun _ _ => False)) 162 [(0, .ref (gAd E (56))), (1, .int (x1)), (2, .int (x2)), (3, .int (x3)), (6, .int (x6)), (7, .int (x7)), (8, .int (x8)), (9, .int (x9))] [] f := by
  intro n
  induction n with
  | zero =>
    intro R x1 x2 x3 x6 x7 x8 x9 r R9 hr f w hf
    cases hr
  | succ n ih =>
    intro R x1 x2 x3 x6 x7 x8 x9 r R9 hr f w hf
    obtain ⟨az, sy, r0⟩ := w
    unfold e_writeData_162 at hr
    refine G.go tv_X12_writeData 2 167 [(0, .ref (gAd E (56))), (1, .int (x1)), (2, .int (x2)), (3, .int (x3)), (6, .int (x6)), (7, .int (x7)), (8, .int (x8)), (9, .int (x9))] [.int ((128 : Int32)), .int (x9)] rfl ?_
    refine G.cmp_ge 238 (tbd tv_X12_writeData rfl) (by decide) (fun c167 => ?_) (fun c167 => ?_)
    · replace hr := ite_t c167 hr
      refine G.go tv_X12_writeData 2 241 [(0, .ref (gAd E (56))), (1, .int (x1)), (2, .int (x2)), (3, .int (x3)), (6, .int (x6)), (7, .int (x7)), (8, .int (x8)), (9, .int (x9))] [.int (x8), .ref (gAd E (56))] rfl ?_
      obtain ⟨R165, hv165, hr⟩ := bnd_s hr
      refine G.callV (56) [.int (x8)] [] (k_X12_direct E _ hE R ⟨_, _, r0⟩ x8 R165 hv165) cls_X12 (by omega) (r0.o) cw_X12_475 w_2631 w_131 (Nat.le_of_ble_eq_true rfl) rfl (Nat.le_of_ble_eq_true rfl) (tbd tv_X12_writeData rfl) (fun v165w f165 q165 => ?_) (fun _ _ h => h.elim)
      obtain ⟨rfl, ⟨az165, sy165, r165⟩, fa165⟩ := q165
      refine G.eqs [] rfl ?_
      refine G.go tv_X12_writeData 2 129 [(0, .ref (gAd E (56))), (1, .int (x1)), (2, .int (x2)), (3, .int (x3)), (6, .int (x6)), (7, .int (x7 + (1 : Int32))), (8, .int (x8)), (9, .int (x9))] [] rfl ?_
      refine G.less [(0, .ref (gAd E (56))), (1, .int (x1)), (2, .int (x2)), (3, .int (x3)), (6, .int (x6)), (7, .int (x7 + (1 : Int32)))] [0, 1, 2, 3, 4, 5] rfl ?_
      exact hs129 _ _ _ _ _ _ _ _ hr _ ⟨_, _, r165⟩ (hf.tr fa165 (fun _ h => h))
    · replace hr := ite_f c167 hr
      refine G.go tv_X12_writeData 9 184 [(0, .ref (gAd E (56))), (1, .int (x1)), (2, .int (x2)), (3, .int (x3)), (6, .int (x6)), (7, .int (x7)), (8, .int (x8)), (9, .int (x9)), (10, .int (((((128 : Int32)) * (x7)) + (x9)) - (x2)))] [.ref (gAd E (56))] rfl ?_
      refine G.rg r0 hE 44 (.ref (gAd E (79))) (by decide) rfl (tbd tv_X12_writeData rfl) w_2109 ?_
      refine G.go tv_X12_writeData 2 191 [(0, .ref (gAd E (56))), (1, .int (x1)), (2, .int (x2)), (3, .int (x3)), (6, .int (x6)), (7, .int (x7)), (8, .int (x8)), (9, .int (x9)), (10, .int (((((128 : Int32)) * (x7)) + (x9)) - (x2)))] [.int (((((128 : Int32)) * (x7)) + (x9)) - (x2)), .int (x9), .ref (gAd E (79))] rfl ?_
      refine G.if_lt 210 (tbd tv_X12_writeData rfl) (by decide) (fun c191 => ?_) (fun c191 => ?_)
      · replace hr := ite_t c191 hr
        refine G.go tv_X12_writeData 1 211 [(0, .ref (gAd E (56))), (1, .int (x1)), (2, .int (x2)), (3, .int (x3)), (6, .int (x6)), (7, .int (x7)), (8, .int (x8)), (9, .int (x9)), (10, .int (((((128 : Int32)) * (x7)) + (x9)) - (x2)))] [.ref (gAd E (56)), .int (x9), .ref (gAd E (79))] rfl ?_
        refine G.rg r0 hE 49 (.ref (gAd E (83))) (by decide) rfl (tbd tv_X12_writeData rfl) w_2114 ?_
        refine G.go tv_X12_writeData 1 216 [(0, .ref (gAd E (56))), (1, .int (x1)), (2, .int (x2)), (3, .int (x3)), (6, .int (x6)), (7, .int (x7)), (8, .int (x8)), (9, .int (x9)), (10, .int (((((128 : Int32)) * (x7)) + (x9)) - (x2)))] [.int (x8), .ref (gAd E (83)), .int (x9), .ref (gAd E (79))] rfl ?_
        obtain ⟨v166, b166, e166, hr⟩ := ld_s hr
        refine G.zaldE (83) (by omega) (r0.a49) b166 e166 (tbd tv_X12_writeData rfl) ?_
        refine G.if_eq 224 (tbd tv_X12_writeData rfl) (by decide) (fun c217 => ?_) (fun c217 => ?_)
        · replace hr := ite_t c217 hr
          refine G.go tv_X12_writeData 1 225 [(0, .ref (gAd E (56))), (1, .int (x1)), (2, .int (x2)), (3, .int (x3)), (6, .int (x6)), (7, .int (x7)), (8, .int (x8)), (9, .int (x9)), (10, .int (((((128 : Int32)) * (x7)) + (x9)) - (x2)))] [.ref (gAd E (56)), .int (x9), .ref (gAd E (79))] rfl ?_
          refine G.rg r0 hE 43 (.ref (gAd E (78))) (by decide) rfl (tbd tv_X12_writeData rfl) w_2108 ?_
          refine G.go tv_X12_writeData 1 230 [(0, .ref (gAd E (56))), (1, .int (x1)), (2, .int (x2)), (3, .int (x3)), (6, .int (x6)), (7, .int (x7)), (8, .int (x8)), (9, .int (x9)), (10, .int (((((128 : Int32)) * (x7)) + (x9)) - (x2)))] [.int (x9), .ref (gAd E (78)), .int (x9), .ref (gAd E (79))] rfl ?_
          obtain ⟨v167, b167, e167, hr⟩ := ld_s hr
          refine G.baldE (78) (by omega) (r0.a43) b167 e167 (tbd tv_X12_writeData rfl) ?_
          obtain ⟨R168, b168, eR168, hr⟩ := stR_s hr
          refine G.bast (79) (by omega) (r0.a44) b168 (tbd tv_X12_writeData rfl) ?_
          refine G.gen (P := fun w9 => RfV E w9 (setSr (setS R168 42 az) sy) ∧ Fr RfK f0 w9) ⟨by rw [eR168]; exact r0.p44 _, Fr.up hf ⟨by decide, by decide⟩⟩ (fun u168 p168 => ?_)
          obtain ⟨r168, h168⟩ := p168
          refine G.go tv_X12_writeData 2 162 [(0, .ref (gAd E (56))), (1, .int (x1)), (2, .int (x2)), (3, .int (x3)), (6, .int (x6)), (7, .int (x7)), (8, .int (x8)), (9, .int (x9 + (1 : Int32))), (10, .int (((((128 : Int32)) * (x7)) + (x9)) - (x2)))] [] rfl ?_
          refine G.less [(0, .ref (gAd E (56))), (1, .int (x1)), (2, .int (x2)), (3, .int (x3)), (6, .int (x6)), (7, .int (x7)), (8, .int (x8)), (9, .int (x9 + (1 : Int32)))] [0, 1, 2, 3, 4, 5, 6, 7] rfl ?_
          exact ih _ _ _ _ _ _ _ _ _ _ hr _ ⟨_, _, r168⟩ h168
        · replace hr := ite_f c217 hr
          refine G.go tv_X12_writeData 2 231 [(0, .ref (gAd E (56))), (1, .int (x1)), (2, .int (x2)), (3, .int (x3)), (6, .int (x6)), (7, .int (x7)), (8, .int (x8)), (9, .int (x9)), (10, .int (((((128 : Int32)) * (x7)) + (x9)) - (x2)))] [.int ((0 : Int32)), .int (x9), .ref (gAd E (79))] rfl ?_
          obtain ⟨R169, b169, eR169, hr⟩ := stR_s hr
          refine G.bast (79) (by omega) (r0.a44) b169 (tbd tv_X12_writeData rfl) ?_
          refine G.gen (P := fun w9 => RfV E w9 (setSr (setS R169 42 az) sy) ∧ Fr RfK f0 w9) ⟨by rw [eR169]; exact r0.p44 _, Fr.up hf ⟨by decide, by decide⟩⟩ (fun u169 p169 => ?_)
          obtain ⟨r169, h169⟩ := p169
          refine G.go tv_X12_writeData 2 162 [(0, .ref (gAd E (56))), (1, .int (x1)), (2, .int (x2)), (3, .int (x3)), (6, .int (x6)), (7, .int (x7)), (8, .int (x8)), (9, .int (x9 + (1 : Int32))), (10, .int (((((128 : Int32)) * (x7)) + (x9)) - (x2)))] [] rfl ?_
          refine G.less [(0, .ref (gAd E (56))), (1, .int (x1)), (2, .int (x2)), (3, .int (x3)), (6, .int (x6)), (7, .int (x7)), (8, .int (x8)), (9, .int (x9 + (1 : Int32)))] [0, 1, 2, 3, 4, 5, 6, 7] rfl ?_
          exact ih _ _ _ _ _ _ _ _ _ _ hr _ ⟨_, _, r169⟩ h169
      · replace hr := ite_f c191 hr
        refine G.go tv_X12_writeData 2 197 [(0, .ref (gAd E (56))), (1, .int (x1)), (2, .int (x2)), (3, .int (x3)), (6, .int (x6)), (7, .int (x7)), (8, .int (x8)), (9, .int (x9)), (10, .int (((((128 : Int32)) * (x7)) + (x9)) - (x2)))] [.int (x3), .int (((((128 : Int32)) * (x7)) + (x9)) - (x2)), .int (x9), .ref (gAd E (79))] rfl ?_
        refine G.cmp_ge 210 (tbd tv_X12_writeData rfl) (by decide) (fun c197 => ?_) (fun c197 => ?_)
        · replace hr := ite_t c197 hr
          refine G.go tv_X12_writeData 1 211 [(0, .ref (gAd E (56))), (1, .int (x1)), (2, .int (x2)), (3, .int (x3)), (6, .int (x6)), (7, .int (x7)), (8, .int (x8)), (9, .int (x9)), (10, .int (((((128 : Int32)) * (x7)) + (x9)) - (x2)))] [.ref (gAd E (56)), .int (x9), .ref (gAd E (79))] rfl ?_
          refine G.rg r0 hE 49 (.ref (gAd E (83))) (by decide) rfl (tbd tv_X12_writeData rfl) w_2114 ?_
          refine G.go tv_X12_writeData 1 216 [(0, .ref (gAd E (56))), (1, .int (x1)), (2, .int (x2)), (3, .int (x3)), (6, .int (x6)), (7, .int (x7)), (8, .int (x8)), (9, .int (x9)), (10, .int (((((128 : Int32)) * (x7)) + (x9)) - (x2)))] [.int (x8), .ref (gAd E (83)), .int (x9), .ref (gAd E (79))] rfl ?_
          obtain ⟨v170, b170, e170, hr⟩ := ld_s hr
          refine G.zaldE (83) (by omega) (r0.a49) b170 e170 (tbd tv_X12_writeData rfl) ?_
          refine G.if_eq 224 (tbd tv_X12_writeData rfl) (by decide) (fun c217 => ?_) (fun c217 => ?_)
          · replace hr := ite_t c217 hr
            refine G.go tv_X12_writeData 1 225 [(0, .ref (gAd E (56))), (1, .int (x1)), (2, .int (x2)), (3, .int (x3)), (6, .int (x6)), (7, .int (x7)), (8, .int (x8)), (9, .int (x9)), (10, .int (((((128 : Int32)) * (x7)) + (x9)) - (x2)))] [.ref (gAd E (56)), .int (x9), .ref (gAd E (79))] rfl ?_
            refine G.rg r0 hE 43 (.ref (gAd E (78))) (by decide) rfl (tbd tv_X12_writeData rfl) w_2108 ?_
            refine G.go tv_X12_writeData 1 230 [(0, .ref (gAd E (56))), (1, .int (x1)), (2, .int (x2)), (3, .int (x3)), (6, .int (x6)), (7, .int (x7)), (8, .int (x8)), (9, .int (x9)), (10, .int (((((128 : Int32)) * (x7)) + (x9)) - (x2)))] [.int (x9), .ref (gAd E (78)), .int (x9), .ref (gAd E (79))] rfl ?_
            obtain ⟨v171, b171, e171, hr⟩ := ld_s hr
            refine G.baldE (78) (by omega) (r0.a43) b171 e171 (tbd tv_X12_writeData rfl) ?_
            obtain ⟨R172, b172, eR172, hr⟩ := stR_s hr
            refine G.bast (79) (by omega) (r0.a44) b172 (tbd tv_X12_writeData rfl) ?_
            refine G.gen (P := fun w9 => RfV E w9 (setSr (setS R172 42 az) sy) ∧ Fr RfK f0 w9) ⟨by rw [eR172]; exact r0.p44 _, Fr.up hf ⟨by decide, by decide⟩⟩ (fun u172 p172 => ?_)
            obtain ⟨r172, h172⟩ := p172
            refine G.go tv_X12_writeData 2 162 [(0, .ref (gAd E (56))), (1, .int (x1)), (2, .int (x2)), (3, .int (x3)), (6, .int (x6)), (7, .int (x7)), (8, .int (x8)), (9, .int (x9 + (1 : Int32))), (10, .int (((((128 : Int32)) * (x7)) + (x9)) - (x2)))] [] rfl ?_
            refine G.less [(0, .ref (gAd E (56))), (1, .int (x1)), (2, .int (x2)), (3, .int (x3)), (6, .int (x6)), (7, .int (x7)), (8, .int (x8)), (9, .int (x9 + (1 : Int32)))] [0, 1, 2, 3, 4, 5, 6, 7] rfl ?_
            exact ih _ _ _ _ _ _ _ _ _ _ hr _ ⟨_, _, r172⟩ h172
          · replace hr := ite_f c217 hr
            refine G.go tv_X12_writeData 2 231 [(0, .ref (gAd E (56))), (1, .int (x1)), (2, .int (x2)), (3, .int (x3)), (6, .int (x6)), (7, .int (x7)), (8, .int (x8)), (9, .int (x9)), (10, .int (((((128 : Int32)) * (x7)) + (x9)) - (x2)))] [.int ((0 : Int32)), .int (x9), .ref (gAd E (79))] rfl ?_
            obtain ⟨R173, b173, eR173, hr⟩ := stR_s hr
            refine G.bast (79) (by omega) (r0.a44) b173 (tbd tv_X12_writeData rfl) ?_
            refine G.gen (P := fun w9 => RfV E w9 (setSr (setS R173 42 az) sy) ∧ Fr RfK f0 w9) ⟨by rw [eR173]; exact r0.p44 _, Fr.up hf ⟨by decide, by decide⟩⟩ (fun u173 p173 => ?_)
            obtain ⟨r173, h173⟩ := p173
            refine G.go tv_X12_writeData 2 162 [(0, .ref (gAd E (56))), (1, .int (x1)), (2, .int (x2)), (3, .int (x3)), (6, .int (x6)), (7, .int (x7)), (8, .int (x8)), (9, .int (x9 + (1 : Int32))), (10, .int (((((128 : Int32)) * (x7)) + (x9)) - (x2)))] [] rfl ?_
            refine G.less [(0, .ref (gAd E (56))), (1, .int (x1)), (2, .int (x2)), (3, .int (x3)), (6, .int (x6)), (7, .int (x7)), (8, .int (x8)), (9, .int (x9 + (1 : Int32)))] [0, 1, 2, 3, 4, 5, 6, 7] rfl ?_
            exact ih _ _ _ _ _ _ _ _ _ _ hr _ ⟨_, _, r173⟩ h173
        · replace hr := ite_f c197 hr
          refine G.go tv_X12_writeData 1 201 [(0, .ref (gAd E (56))), (1, .int (x1)), (2, .int (x2)), (3, .int (x3)), (6, .int (x6)), (7, .int (x7)), (8, .int (x8)), (9, .int (x9)), (10, .int (((((128 : Int32)) * (x7)) + (x9)) - (x2)))] [.ref (gAd E (56)), .int (x9), .ref (gAd E (79))] rfl ?_
          refine G.rg r0 hE 59 (.ref (gAd E (92))) (by decide) rfl (tbd tv_X12_writeData rfl) w_2124 ?_
          refine G.go tv_X12_writeData 1 206 [(0, .ref (gAd E (56))), (1, .int (x1)), (2, .int (x2)), (3, .int (x3)), (6, .int (x6)), (7, .int (x7)), (8, .int (x8)), (9, .int (x9)), (10, .int (((((128 : Int32)) * (x7)) + (x9)) - (x2)))] [.int (((((128 : Int32)) * (x7)) + (x9)) - (x2)), .ref (gAd E (92)), .int (x9), .ref (gAd E (79))] rfl ?_
          obtain ⟨v174, b174, e174, hr⟩ := ld_s hr
          refine G.baldE (92) (by omega) (r0.a59) b174 e174 (tbd tv_X12_writeData rfl) ?_
          refine G.go tv_X12_writeData 1 231 [(0, .ref (gAd E (56))), (1, .int (x1)), (2, .int (x2)), (3, .int (x3)), (6, .int (x6)), (7, .int (x7)), (8, .int (x8)), (9, .int (x9)), (10, .int (((((128 : Int32)) * (x7)) + (x9)) - (x2)))] [.int (v174), .int (x9), .ref (gAd E (79))] rfl ?_
          obtain ⟨R175, b175, eR175, hr⟩ := stR_s hr
          refine G.bast (79) (by omega) (r0.a44) b175 (tbd tv_X12_writeData rfl) ?_
          refine G.gen (P := fun w9 => RfV E w9 (setSr (setS R175 42 az) sy) ∧ Fr RfK f0 w9) ⟨by rw [eR175]; exact r0.p44 _, Fr.up hf ⟨by decide, by decide⟩⟩ (fun u175 p175 => ?_)
          obtain ⟨r175, h175⟩ := p175
          refine G.go tv_X12_writeData 2 162 [(0, .ref (gAd E (56))), (1, .int (x1)), (2, .int (x2)), (3, .int (x3)), (6, .int (x6)), (7, .int (x7)), (8, .int (x8)), (9, .int (x9 + (1 : Int32))), (10, .int (((((128 : Int32)) * (x7)) + (x9)) - (x2)))] [] rfl ?_
          refine G.less [(0, .ref (gAd E (56))), (1, .int (x1)), (2, .int (x2)), (3, .int (x3)), (6, .int (x6)), (7, .int (x7)), (8, .int (x8)), (9, .int (x9 + (1 : Int32)))] [0, 1, 2, 3, 4, 5, 6, 7] rfl ?_
          exact ih _ _ _ _ _ _ _ _ _ _ hr _ ⟨_, _, r175⟩ h175
set_option maxRecDepth 100000 in
set_option maxHeartbeats 4000000 in
theorem l_X12_writeData_129 (E : gE) (f0 : Nat → va_E) (sz : Nat) (QA : Nat → Prop) (hE : 94 ≤ gN E) : ∀ (n : Nat), ∀ (R : RfT) (x1 : Int32) (x2 : Int32) (x3 : Int32) (x6 : Int32) (x7 : Int32) (r : Int32) (R9 : RfT) (hr : e_writeData_129  n R x1 x2 x3 x6 x7 = some (r, R9)) (f : Nat → va_E) (w : RW E f R) (hf : Fr RfK f0 f), G E (13, yX12_writeData, 11, (some .int), sz, QA) cX12_writeData (gO E (13, yX12_writeData, 11, (some .int), sz, QA) (fun v g => v = some (.int r) ∧ RW E g R9 ∧ Fr RfK f0 g, fun _ _ => False)) 129 [(0, .ref (gAd E (56))), (1, .int (x1)), (2, .int (x2)), (3, .int (x3)), (6, .int (x6)), (7, .int (x7))] [] f := by
  intro n
  induction n with
  | zero =>
    intro R x1 x2 x3 x6 x7 r R9 hr f w hf
    cases hr
  | succ n ih =>
    intro R x1 x2 x3 x6 x7 r R9 hr f w hf
    obtain ⟨az, sy, r0⟩ := w
    unfold e_writeData_129 at hr
    refine G.go tv_X12_writeData 2 133 [(0, .ref (gAd E (56))), (1, .int (x1)), (2, .int (x2)), (3, .int (x3)), (6, .int (x6)), (7, .int (x7))] [.int (x6), .int (x7)] rfl ?_
    refine G.cmp_gt 250 (tbd tv_X12_writeData rfl) (by decide) (fun c133 => ?_) (fun c133 => ?_)
    · replace hr := ite_t c133 hr
      refine G.go tv_X12_writeData 2 252 [(0, .ref (gAd E (56))), (1, .int (x1)), (2, .int (x2)), (3, .int (x3)), (6, .int (x6)), (7, .int (x7))] [.int (x3), .ref (gAd E (56))] rfl ?_
      obtain ⟨v159, R159, hv159, hr⟩ := bnd2_s hr
      refine G.callV (56) [.int (x3)] [] (k_X12_committed E _ hE R ⟨_, _, r0⟩ x3 v159 R159 hv159) cls_X12 (by omega) (r0.o) cw_X12_436 w_2563 w_119 (Nat.le_of_ble_eq_true rfl) rfl (Nat.le_of_ble_eq_true rfl) (tbd tv_X12_writeData rfl) (fun v159w f159 q159 => ?_) (fun _ _ h => h.elim)
      obtain ⟨rfl, ⟨az159, sy159, r159⟩, fa159⟩ := q159
      refine G.eqs [.int (v159)] rfl ?_
      cases hr
      exact G.iret rfl rfl ⟨rfl, ⟨_, _, r159⟩, (hf.tr fa159 (fun _ h => h))⟩ (tbd tv_X12_writeData rfl)
    · replace hr := ite_f c133 hr
      refine G.go tv_X12_writeData 1 137 [(0, .ref (gAd E (56))), (1, .int (x1)), (2, .int (x2)), (3, .int (x3)), (6, .int (x6)), (7, .int (x7))] [.ref (gAd E (56))] rfl ?_
      refine G.rg r0 hE 11 (.int (rS R 11)) (by decide) rfl (tbd tv_X12_writeData rfl) w_2076 ?_
      refine G.if_eq 250 (tbd tv_X12_writeData rfl) (by decide) (fun c140 => ?_) (fun c140 => ?_)
      · replace hr := ite_t c140 hr
        refine G.go tv_X12_writeData 2 252 [(0, .ref (gAd E (56))), (1, .int (x1)), (2, .int (x2)), (3, .int (x3)), (6, .int (x6)), (7, .int (x7))] [.int (x3), .ref (gAd E (56))] rfl ?_
        obtain ⟨v162, R162, hv162, hr⟩ := bnd2_s hr
        refine G.callV (56) [.int (x3)] [] (k_X12_committed E _ hE R ⟨_, _, r0⟩ x3 v162 R162 hv162) cls_X12 (by omega) (r0.o) cw_X12_436 w_2563 w_119 (Nat.le_of_ble_eq_true rfl) rfl (Nat.le_of_ble_eq_true rfl) (tbd tv_X12_writeData rfl) (fun v162w f162 q162 => ?_) (fun _ _ h => h.elim)
        obtain ⟨rfl, ⟨az162, sy162, r162⟩, fa162⟩ := q162
        refine G.eqs [.int (v162)] rfl ?_
        cases hr
        exact G.iret rfl rfl ⟨rfl, ⟨_, _, r162⟩, (hf.tr fa162 (fun _ h => h))⟩ (tbd tv_X12_writeData rfl)
      · replace hr := ite_f c140 hr
        refine G.go tv_X12_writeData 3 147 [(0, .ref (gAd E (56))), (1, .int (x1)), (2, .int (x2)), (3, .int (x3)), (6, .int (x6)), (7, .int (x7))] [.int (x7), .int (x1), .ref (gAd E (56))] rfl ?_
        obtain ⟨v163, hv163, hr⟩ := bnd_s hr
        refine G.callV (56) [.int (x1), .int (x7)] [] (k_X12_blockOf E _ hE R ⟨_, _, r0⟩ x1 x7 v163 hv163) cls_X12 (by omega) (r0.o) cw_X12_323 w_2507 w_105 (Nat.le_of_ble_eq_true rfl) rfl (Nat.le_of_ble_eq_true rfl) (tbd tv_X12_writeData rfl) (fun v163w f163 q163 => ?_) (fun _ _ h => h.elim)
        obtain ⟨rfl, ⟨az163, sy163, r163⟩, fa163⟩ := q163
        refine G.eqs [.int (v163)] rfl ?_
        refine G.go tv_X12_writeData 4 156 [(0, .ref (gAd E (56))), (1, .int (x1)), (2, .int (x2)), (3, .int (x3)), (6, .int (x6)), (7, .int (x7)), (8, .int (v163))] [.int ((1 : Int32)), .int (v163), .ref (gAd E (56))] rfl ?_
        obtain ⟨R164, hv164, hr⟩ := bnd_s hr
        refine G.callV (56) [.int (v163), .int ((1 : Int32))] [] (k_X12_see E _ hE R ⟨_, _, r163⟩ v163 ((1 : Int32)) R164 hv164) cls_X12 (by omega) (r163.o) cw_X12_236 w_2420 w_86 (Nat.le_of_ble_eq_true rfl) rfl (Nat.le_of_ble_eq_true rfl) (tbd tv_X12_writeData rfl) (fun v164w f164 q164 => ?_) (fun _ _ h => h.elim)
        obtain ⟨rfl, ⟨az164, sy164, r164⟩, fa164⟩ := q164
        refine G.eqs [] rfl ?_
        refine G.go tv_X12_writeData 2 162 [(0, .ref (gAd E (56))), (1, .int (x1)), (2, .int (x2)), (3, .int (x3)), (6, .int (x6)), (7, .int (x7)), (8, .int (v163)), (9, .int ((0 : Int32)))] [] rfl ?_
        refine G.less [(0, .ref (gAd E (56))), (1, .int (x1)), (2, .int (x2)), (3, .int (x3)), (6, .int (x6)), (7, .int (x7)), (8, .int (v163)), (9, .int ((0 : Int32)))] [0, 1, 2, 3, 4, 5, 6, 7] rfl ?_
        exact l_X12_writeData_162 E f0 sz QA hE _ ih _ _ _ _ _ _ _ _ _ _ _ hr _ ⟨_, _, r164⟩ ((hf.tr fa163 (fun _ h => h)).tr fa164 (fun _ h => h))
set_option maxRecDepth 100000 in
set_option maxHeartbeats 4000000 in
theorem k_X12_writeData (E : gE) (f : Nat → va_E) (hE : 94 ≤ gN E) (R : RfT) (w : RW E f R) (a0 : Int32) (a1 : Int32) (a2 : Int32) (r : Int32) (R9 : RfT) (hr : e_writeData R a0 a1 a2 = some (r, R9)) : Ct E 13 yX12_writeData cX12_writeData 11 (some .int) [.ref (gAd E (56)), .int (a0), .int (a1), .int (a2)] f (fun v g => v = some (.int r) ∧ RW E g R9 ∧ Fr RfK f g, fun _ _ => False) := by
  obtain ⟨az, sy, r0⟩ := w
  refine Ct.of (by decide) (Nat.le_of_ble_eq_true rfl) (fun sz => ?_)
  refine G.eql [(0, .ref (gAd E (56))), (1, .int (a0)), (2, .int (a1)), (3, .int (a2))] rfl ?_
  unfold e_writeData at hr
  refine G.go tv_X12_writeData 2 2 [(0, .ref (gAd E (56))), (1, .int (a0)), (2, .int (a1)), (3, .int (a2))] [.int (a0), .ref (gAd E (56))] rfl ?_
  obtain ⟨v153, hv153, hr⟩ := bnd_s hr
  refine G.callV (56) [.int (a0)] [] (k_X12_kind E _ hE R ⟨_, _, r0⟩ a0 v153 hv153) cls_X12 (by omega) (r0.o) cw_X12_326 w_2369 w_74 (Nat.le_of_ble_eq_true rfl) rfl (Nat.le_of_ble_eq_true rfl) (tbd tv_X12_writeData rfl) (fun v153w f153 q153 => ?_) (fun _ _ h => h.elim)
  obtain ⟨rfl, ⟨az153, sy153, r153⟩, fa153⟩ := q153
  refine G.eqs [.int (v153)] rfl ?_
  refine G.go tv_X12_writeData 3 10 [(0, .ref (gAd E (56))), (1, .int (a0)), (2, .int (a1)), (3, .int (a2)), (4, .int (v153))] [.int ((1 : Int32)), .int (v153)] rfl ?_
  refine G.cmp_eq 26 (tbd tv_X12_writeData rfl) (by decide) (fun c10 => ?_) (fun c10 => ?_)
  · replace hr := ite_t c10 hr
    refine G.go tv_X12_writeData 1 27 [(0, .ref (gAd E (56))), (1, .int (a0)), (2, .int (a1)), (3, .int (a2)), (4, .int (v153))] [.int (a1)] rfl ?_
    refine G.if_lt 42 (tbd tv_X12_writeData rfl) (by decide) (fun c27 => ?_) (fun c27 => ?_)
    · replace hr := ite_t c27 hr
      refine G.go tv_X12_writeData 1 44 [(0, .ref (gAd E (56))), (1, .int (a0)), (2, .int (a1)), (3, .int (a2)), (4, .int (v153))] [.int ((-10 : Int32))] rfl ?_
      cases hr
      exact G.iret rfl rfl ⟨rfl, ⟨_, _, r153⟩, (Fr.rf.tr fa153 (fun _ h => h))⟩ (tbd tv_X12_writeData rfl)
    · replace hr := ite_f c27 hr
      refine G.go tv_X12_writeData 5 35 [(0, .ref (gAd E (56))), (1, .int (a0)), (2, .int (a1)), (3, .int (a2)), (4, .int (v153))] [.long (((a1 : Int32).toInt64) + ((a2 : Int32).toInt64))] rfl ?_
      refine G.ldc2 (400000) (tbd tv_X12_writeData rfl) w_2645 ?_
      refine G.go tv_X12_writeData 1 39 [(0, .ref (gAd E (56))), (1, .int (a0)), (2, .int (a1)), (3, .int (a2)), (4, .int (v153))] [.int (lg_cmp (((a1 : Int32).toInt64) + ((a2 : Int32).toInt64)) ((400000 : Int64)))] rfl ?_
      refine G.if_le 45 (tbd tv_X12_writeData rfl) (by decide) (fun c39 => ?_) (fun c39 => ?_)
      · replace hr := ite_t c39 hr
        refine G.go tv_X12_writeData 1 46 [(0, .ref (gAd E (56))), (1, .int (a0)), (2, .int (a1)), (3, .int (a2)), (4, .int (v153))] [.int (a2)] rfl ?_
        refine G.if_ne 51 (tbd tv_X12_writeData rfl) (by decide) (fun c46 => ?_) (fun c46 => ?_)
        · replace hr := ite_f c46 hr
          refine G.go tv_X12_writeData 2 55 [(0, .ref (gAd E (56))), (1, .int (a0)), (2, .int (a1)), (3, .int (a2)), (4, .int (v153))] [.int ((128 : Int32)), .int (a1)] rfl ?_
          refine G.idiv (by decide) (tbd tv_X12_writeData rfl) ?_
          refine G.go tv_X12_writeData 7 66 [(0, .ref (gAd E (56))), (1, .int (a0)), (2, .int (a1)), (3, .int (a2)), (4, .int (v153)), (5, .int ((a1) / ((128 : Int32))))] [.int ((128 : Int32)), .int (((a1) + (a2)) - ((1 : Int32)))] rfl ?_
          refine G.idiv (by decide) (tbd tv_X12_writeData rfl) ?_
          refine G.go tv_X12_writeData 5 75 [(0, .ref (gAd E (56))), (1, .int (a0)), (2, .int (a1)), (3, .int (a2)), (4, .int (v153)), (5, .int ((a1) / ((128 : Int32)))), (6, .int ((((a1) + (a2)) - ((1 : Int32))) / ((128 : Int32))))] [.int ((((a1) + (a2)) - ((1 : Int32))) / ((128 : Int32))), .int ((a1) / ((128 : Int32))), .int (a0), .ref (gAd E (56))] rfl ?_
          obtain ⟨v154, hv154, hr⟩ := bnd_s hr
          refine G.callV (56) [.int (a0), .int ((a1) / ((128 : Int32))), .int ((((a1) + (a2)) - ((1 : Int32))) / ((128 : Int32)))] [] (k_X12_need E _ hE R ⟨_, _, r153⟩ a0 ((a1) / ((128 : Int32))) ((((a1) + (a2)) - ((1 : Int32))) / ((128 : Int32))) v154 hv154) cls_X12 (by omega) (r153.o) cw_X12_412 w_2531 w_111 (Nat.le_of_ble_eq_true rfl) rfl (Nat.le_of_ble_eq_true rfl) (tbd tv_X12_writeData rfl) (fun v154w f154 q154 => ?_) (fun _ _ h => h.elim)
          obtain ⟨rfl, ⟨az154, sy154, r154⟩, fa154⟩ := q154
          refine G.eqs [.int (v154)] rfl ?_
          refine G.go tv_X12_writeData 1 79 [(0, .ref (gAd E (56))), (1, .int (a0)), (2, .int (a1)), (3, .int (a2)), (4, .int (v153)), (5, .int ((a1) / ((128 : Int32)))), (6, .int ((((a1) + (a2)) - ((1 : Int32))) / ((128 : Int32))))] [.ref (gAd E (56)), .int (v154)] rfl ?_
          obtain ⟨v155, R155, hv155, hr⟩ := bnd2_s hr
          refine G.callV (56) [] [.int (v154)] (k_X12_room E _ hE R ⟨_, _, r154⟩ v155 R155 hv155) cls_X12 (by omega) (r154.o) cw_X12_415 w_2535 w_112 (Nat.le_of_ble_eq_true rfl) rfl (Nat.le_of_ble_eq_true rfl) (tbd tv_X12_writeData rfl) (fun v155w f155 q155 => ?_) (fun _ _ h => h.elim)
          obtain ⟨rfl, ⟨az155, sy155, r155⟩, fa155⟩ := q155
          refine G.eqs [.int (v155), .int (v154)] rfl ?_
          refine G.cmp_le 88 (tbd tv_X12_writeData rfl) (by decide) (fun c82 => ?_) (fun c82 => ?_)
          · replace hr := ite_t c82 hr
            refine G.go tv_X12_writeData 4 94 [(0, .ref (gAd E (56))), (1, .int (a0)), (2, .int (a1)), (3, .int (a2)), (4, .int (v153)), (5, .int ((a1) / ((128 : Int32)))), (6, .int ((((a1) + (a2)) - ((1 : Int32))) / ((128 : Int32))))] [.int ((((a1) + (a2)) - ((1 : Int32))) / ((128 : Int32))), .int ((a1) / ((128 : Int32))), .int (a0), .ref (gAd E (56))] rfl ?_
            obtain ⟨R156, hv156, hr⟩ := bnd_s hr
            refine G.callV (56) [.int (a0), .int ((a1) / ((128 : Int32))), .int ((((a1) + (a2)) - ((1 : Int32))) / ((128 : Int32)))] [] (k_X12_have E _ hE R155 ⟨_, _, r155⟩ a0 ((a1) / ((128 : Int32))) ((((a1) + (a2)) - ((1 : Int32))) / ((128 : Int32))) R156 hv156) cls_X12 (by omega) (r155.o) cw_X12_354 w_2547 w_115 (Nat.le_of_ble_eq_true rfl) rfl (Nat.le_of_ble_eq_true rfl) (tbd tv_X12_writeData rfl) (fun v156w f156 q156 => ?_) (fun _ _ h => h.elim)
            obtain ⟨rfl, ⟨az156, sy156, r156⟩, fa156⟩ := q156
            refine G.eqs [] rfl ?_
            refine G.go tv_X12_writeData 1 98 [(0, .ref (gAd E (56))), (1, .int (a0)), (2, .int (a1)), (3, .int (a2)), (4, .int (v153)), (5, .int ((a1) / ((128 : Int32)))), (6, .int ((((a1) + (a2)) - ((1 : Int32))) / ((128 : Int32))))] [.ref (gAd E (56))] rfl ?_
            refine G.rg r156 hE 11 (.int (rS R156 11)) (by decide) rfl (tbd tv_X12_writeData rfl) w_2076 ?_
            refine G.if_eq 125 (tbd tv_X12_writeData rfl) (by decide) (fun c101 => ?_) (fun c101 => ?_)
            · replace hr := ite_t c101 hr
              refine G.go tv_X12_writeData 2 129 [(0, .ref (gAd E (56))), (1, .int (a0)), (2, .int (a1)), (3, .int (a2)), (4, .int (v153)), (5, .int ((a1) / ((128 : Int32)))), (6, .int ((((a1) + (a2)) - ((1 : Int32))) / ((128 : Int32)))), (7, .int ((a1) / ((128 : Int32))))] [] rfl ?_
              refine G.less [(0, .ref (gAd E (56))), (1, .int (a0)), (2, .int (a1)), (3, .int (a2)), (6, .int ((((a1) + (a2)) - ((1 : Int32))) / ((128 : Int32)))), (7, .int ((a1) / ((128 : Int32))))] [0, 1, 2, 3, 6, 7] rfl ?_
              exact l_X12_writeData_129 E f sz _ hE _ _ _ _ _ _ _ _ _ hr _ ⟨_, _, r156⟩ ((((Fr.rf.tr fa153 (fun _ h => h)).tr fa154 (fun _ h => h)).tr fa155 (fun _ h => h)).tr fa156 (fun _ h => h))
            · replace hr := ite_f c101 hr
              refine G.go tv_X12_writeData 5 109 [(0, .ref (gAd E (56))), (1, .int (a0)), (2, .int (a1)), (3, .int (a2)), (4, .int (v153)), (5, .int ((a1) / ((128 : Int32)))), (6, .int ((((a1) + (a2)) - ((1 : Int32))) / ((128 : Int32))))] [.int (a0), .ref (gAd E (56)), .int ((a1) + (a2))] rfl ?_
              obtain ⟨v157, hv157, hr⟩ := bnd_s hr
              refine G.callV (56) [.int (a0)] [.int ((a1) + (a2))] (k_X12_size E _ hE R156 ⟨_, _, r156⟩ a0 v157 hv157) cls_X12 (by omega) (r156.o) cw_X12_344 w_2503 w_104 (Nat.le_of_ble_eq_true rfl) rfl (Nat.le_of_ble_eq_true rfl) (tbd tv_X12_writeData rfl) (fun v157w f157 q157 => ?_) (fun _ _ h => h.elim)
              obtain ⟨rfl, ⟨az157, sy157, r157⟩, fa157⟩ := q157
              refine G.eqs [.int (v157), .int ((a1) + (a2))] rfl ?_
              refine G.cmp_le 125 (tbd tv_X12_writeData rfl) (by decide) (fun c112 => ?_) (fun c112 => ?_)
              · replace hr := ite_t c112 hr
                refine G.go tv_X12_writeData 2 129 [(0, .ref (gAd E (56))), (1, .int (a0)), (2, .int (a1)), (3, .int (a2)), (4, .int (v153)), (5, .int ((a1) / ((128 : Int32)))), (6, .int ((((a1) + (a2)) - ((1 : Int32))) / ((128 : Int32)))), (7, .int ((a1) / ((128 : Int32))))] [] rfl ?_
                refine G.less [(0, .ref (gAd E (56))), (1, .int (a0)), (2, .int (a1)), (3, .int (a2)), (6, .int ((((a1) + (a2)) - ((1 : Int32))) / ((128 : Int32)))), (7, .int ((a1) / ((128 : Int32))))] [0, 1, 2, 3, 6, 7] rfl ?_
                exact l_X12_writeData_129 E f sz _ hE _ _ _ _ _ _ _ _ _ hr _ ⟨_, _, r157⟩ (((((Fr.rf.tr fa153 (fun _ h => h)).tr fa154 (fun _ h => h)).tr fa155 (fun _ h => h)).tr fa156 (fun _ h => h)).tr fa157 (fun _ h => h))
              · replace hr := ite_f c112 hr
                refine G.go tv_X12_writeData 7 122 [(0, .ref (gAd E (56))), (1, .int (a0)), (2, .int (a1)), (3, .int (a2)), (4, .int (v153)), (5, .int ((a1) / ((128 : Int32)))), (6, .int ((((a1) + (a2)) - ((1 : Int32))) / ((128 : Int32))))] [.int ((a1) + (a2)), .int ((4 : Int32)), .int ((4 : Int32)), .int (a0), .ref (gAd E (56))] rfl ?_
                obtain ⟨R158, hv158, hr⟩ := bnd_s hr
                refine G.callV (56) [.int (a0), .int ((4 : Int32)), .int ((4 : Int32)), .int ((a1) + (a2))] [] (k_X12_setField E _ hE R156 ⟨_, _, r157⟩ a0 ((4 : Int32)) ((4 : Int32)) ((a1) + (a2)) R158 hv158) cls_X12 (by omega) (r157.o) cw_X12_332 w_2424 w_87 (Nat.le_of_ble_eq_true rfl) rfl (Nat.le_of_ble_eq_true rfl) (tbd tv_X12_writeData rfl) (fun v158w f158 q158 => ?_) (fun _ _ h => h.elim)
                obtain ⟨rfl, ⟨az158, sy158, r158⟩, fa158⟩ := q158
                refine G.eqs [] rfl ?_
                refine G.go tv_X12_writeData 2 129 [(0, .ref (gAd E (56))), (1, .int (a0)), (2, .int (a1)), (3, .int (a2)), (4, .int (v153)), (5, .int ((a1) / ((128 : Int32)))), (6, .int ((((a1) + (a2)) - ((1 : Int32))) / ((128 : Int32)))), (7, .int ((a1) / ((128 : Int32))))] [] rfl ?_
                refine G.less [(0, .ref (gAd E (56))), (1, .int (a0)), (2, .int (a1)), (3, .int (a2)), (6, .int ((((a1) + (a2)) - ((1 : Int32))) / ((128 : Int32)))), (7, .int ((a1) / ((128 : Int32))))] [0, 1, 2, 3, 6, 7] rfl ?_
                exact l_X12_writeData_129 E f sz _ hE _ _ _ _ _ _ _ _ _ hr _ ⟨_, _, r158⟩ ((((((Fr.rf.tr fa153 (fun _ h => h)).tr fa154 (fun _ h => h)).tr fa155 (fun _ h => h)).tr fa156 (fun _ h => h)).tr fa157 (fun _ h => h)).tr fa158 (fun _ h => h))
          · replace hr := ite_f c82 hr
            refine G.go tv_X12_writeData 1 87 [(0, .ref (gAd E (56))), (1, .int (a0)), (2, .int (a1)), (3, .int (a2)), (4, .int (v153)), (5, .int ((a1) / ((128 : Int32)))), (6, .int ((((a1) + (a2)) - ((1 : Int32))) / ((128 : Int32))))] [.int ((-7 : Int32))] rfl ?_
            cases hr
            exact G.iret rfl rfl ⟨rfl, ⟨_, _, r155⟩, (((Fr.rf.tr fa153 (fun _ h => h)).tr fa154 (fun _ h => h)).tr fa155 (fun _ h => h))⟩ (tbd tv_X12_writeData rfl)
        · replace hr := ite_t c46 hr
          refine G.go tv_X12_writeData 1 50 [(0, .ref (gAd E (56))), (1, .int (a0)), (2, .int (a1)), (3, .int (a2)), (4, .int (v153))] [.int ((0 : Int32))] rfl ?_
          cases hr
          exact G.iret rfl rfl ⟨rfl, ⟨_, _, r153⟩, (Fr.rf.tr fa153 (fun _ h => h))⟩ (tbd tv_X12_writeData rfl)
      · replace hr := ite_f c39 hr
        refine G.go tv_X12_writeData 1 44 [(0, .ref (gAd E (56))), (1, .int (a0)), (2, .int (a1)), (3, .int (a2)), (4, .int (v153))] [.int ((-10 : Int32))] rfl ?_
        cases hr
        exact G.iret rfl rfl ⟨rfl, ⟨_, _, r153⟩, (Fr.rf.tr fa153 (fun _ h => h))⟩ (tbd tv_X12_writeData rfl)
  · replace hr := ite_f c10 hr
    refine G.go tv_X12_writeData 1 15 [(0, .ref (gAd E (56))), (1, .int (a0)), (2, .int (a1)), (3, .int (a2)), (4, .int (v153))] [.int (v153)] rfl ?_
    refine G.if_ne 23 (tbd tv_X12_writeData rfl) (by decide) (fun c15 => ?_) (fun c15 => ?_)
    · replace hr := ite_f c15 hr
      refine G.go tv_X12_writeData 1 25 [(0, .ref (gAd E (56))), (1, .int (a0)), (2, .int (a1)), (3, .int (a2)), (4, .int (v153))] [.int ((-4 : Int32))] rfl ?_
      cases hr
      exact G.iret rfl rfl ⟨rfl, ⟨_, _, r153⟩, (Fr.rf.tr fa153 (fun _ h => h))⟩ (tbd tv_X12_writeData rfl)
    · replace hr := ite_t c15 hr
      refine G.go tv_X12_writeData 2 25 [(0, .ref (gAd E (56))), (1, .int (a0)), (2, .int (a1)), (3, .int (a2)), (4, .int (v153))] [.int ((-11 : Int32))] rfl ?_
      cases hr
      exact G.iret rfl rfl ⟨rfl, ⟨_, _, r153⟩, (Fr.rf.tr fa153 (fun _ h => h))⟩ (tbd tv_X12_writeData rfl)
def tb_X12_resize : List (Nat × Instr × Nat) := [(0, .iload_n 2, 1), (1, .aload_n 0, 1), (2, .iload_n 1, 1), (3, .invokevirtual 344, 3), (6, .if_icmp .ge 7, 3), (9, .iconst 1, 1), (10, .goto 4, 3), (13, .iconst 0, 1), (14, .istore_n 3, 1), (15, .aload_n 0, 1), (16, .iload_n 1, 1), (17, .iconst 4, 1), (18, .iconst 4, 1), (19, .iload_n 2, 1), (20, .invokevirtual 332, 3), (23, .iload_n 3, 1), (24, .ifCond .eq 106, 3), (27, .aload_n 0, 1), (28, .iload_n 1, 1), (29, .iload_n 2, 1), (30, .sipush 128, 3), (33, .iadd, 1), (34, .iconst 1, 1), (35, .isub, 1), (36, .sipush 128, 3), (39, .idiv, 1), (40, .invokevirtual 341, 3), (43, .iload_n 2, 1), (44, .sipush 128, 3), (47, .irem, 1), (48, .ifCond .ne 7, 3), (51, .iconst 0, 1), (52, .goto 13, 3), (55, .aload_n 0, 1), (56, .iload_n 1, 1), (57, .iload_n 2, 1), (58, .sipush 128, 3), (61, .idiv, 1), (62, .invokevirtual 323, 3), (65, .istore 4, 2), (67, .iload 4, 2), (69, .ifCond .eq 61, 3), (72, .aload_n 0, 1), (73, .iload 4, 2), (75, .iconst 1, 1), (76, .invokevirtual 236, 3), (79, .iconst 0, 1), (80, .istore 5, 2), (82, .iload 5, 2), (84, .sipush 128, 3), (87, .if_icmp .ge 37, 3), (90, .aload_n 0, 1), (91, .getfield 89, 3), (94, .iload 5, 2), (96, .iload 5, 2), (98, .iload_n 2, 1), (99, .sipush 128, 3), (102, .irem, 1), (103, .if_icmp .ge 13, 3), (106, .aload_n 0, 1), (107, .getfield 86, 3), (110, .iload 5, 2), (112, .baload, 1), (113, .goto 4, 3), (116, .iconst 0, 1), (117, .bastore, 1), (118, .iinc 5 1, 3), (121, .goto (-39), 3), (124, .aload_n 0, 1), (125, .iload 4, 2), (127, .invokevirtual 475, 3), (130, .return_, 1)]
theorem tv_X12_resize : Tv cX12_resize tb_X12_resize := by
  unfold Tv
  decide +kernel
noncomputable def e_resize_82  : Nat → RfT → Int32 → Int32 → Int32 → Option (RfT)
  | 0, _, _, _, _ => none
  | n + 1, R, x2, x4, x5 => if ((128 : Int32)) ≤ x5 then bnd (e_direct R x4) (fun R181 => some R181) else if ((x2) - (x2) / ((128 : Int32)) * ((128 : Int32))) ≤ x5 then stR R 44 128 x5 (vp_nar .byte ((0 : Int32))) (fun R182 => e_resize_82  n R182 x2 x4 (x5 + (1 : Int32))) else ld (rA R 43) 128 x5 (fun v183 => stR R 44 128 x5 (vp_nar .byte v183) (fun R184 => e_resize_82  n R184 x2 x4 (x5 + (1 : Int32))))
noncomputable def e_resize_15  (R : RfT) (x1 : Int32) (x2 : Int32) (x3 : Int32) : Option (RfT) := bnd (e_setField R x1 ((4 : Int32)) ((4 : Int32)) x2) (fun R177 => if x3 = 0 then some R177 else bnd (e_freeFrom R177 x1 ((((x2) + ((128 : Int32))) - ((1 : Int32))) / ((128 : Int32)))) (fun R178 => if ((x2) - (x2) / ((128 : Int32)) * ((128 : Int32))) = 0 then some R178 else bnd (e_blockOf R178 x1 ((x2) / ((128 : Int32)))) (fun v179 => if v179 = 0 then some R178 else bnd (e_see R178 v179 ((1 : Int32))) (fun R180 => e_resize_82  fuL R180 x2 v179 ((0 : Int32))))))
noncomputable def e_resize  (R : RfT) (a0 : Int32) (a1 : Int32) : Option (RfT) := bnd (e_size R a0) (fun v176 => if v176 ≤ a1 then e_resize_15  R a0 a1 ((0 : Int32)) else e_resize_15  R a0 a1 ((1 : Int32)))
set_option maxRecDepth 100000 in
set_option maxHeartbeats 4000000 in
theorem l_X12_resize_82 (E : gE) (f0 : Nat → va_E) (sz : Nat) (QA : Nat → Prop) (hE : 94 ≤ gN E) : ∀ (n : Nat), ∀ (R : RfT) (x2 : Int32) (x4 : Int32) (x5 : Int32) (R9 : RfT) (hr : e_resize_82  n R x2 x4 x5 = some R9) (f : Nat → va_E) (w : RW E f R) (hf : Fr RfK f0 f), G E (11, yX12_resize, 6, none, sz, QA) cX12_resize (gO E (11, yX12_resize, 6, none, sz, QA) (fun v g => v = none ∧ RW E g R9 ∧ Fr RfK f0 g, fun _ _ => False)) 82 [(0, .ref (gAd E (56))), (2, .int (x2)), (4, .int (x4)), (5, .int (x5))] [] f := by
  intro n
  induction n with
  | zero =>
    intro R x2 x4 x5 R9 hr f w hf
    cases hr
  | succ n ih =>
    intro R x2 x4 x5 R9 hr f w hf
    obtain ⟨az, sy, r0⟩ := w
    unfold e_resize_82 at hr
    refine G.go tv_X12_resize 2 87 [(0, .ref (gAd E (56))), (2, .int (x2)), (4, .int (x4)), (5, .int (x5))] [.int ((128 : Int32)), .int (x5)] rfl ?_
    refine G.cmp_ge 124 (tbd tv_X12_resize rfl) (by decide) (fun c87 => ?_) (fun c87 => ?_)
    · replace hr := ite_t c87 hr
      refine G.go tv_X12_resize 2 127 [(0, .ref (gAd E (56))), (2, .int (x2)), (4, .int (x4)), (5, .int (x5))] [.int (x4), .ref (gAd E (56))] rfl ?_
      obtain ⟨R181, hv181, hr⟩ := bnd_s hr
      refine G.callV (56) [.int (x4)] [] (k_X12_direct E _ hE R ⟨_, _, r0⟩ x4 R181 hv181) cls_X12 (by omega) (r0.o) cw_X12_475 w_2631 w_131 (Nat.le_of_ble_eq_true rfl) rfl (Nat.le_of_ble_eq_true rfl) (tbd tv_X12_resize rfl) (fun v181w f181 q181 => ?_) (fun _ _ h => h.elim)
      obtain ⟨rfl, ⟨az181, sy181, r181⟩, fa181⟩ := q181
      refine G.eqs [] rfl ?_
      cases hr
      exact G.vret rfl ⟨rfl, ⟨_, _, r181⟩, (hf.tr fa181 (fun _ h => h))⟩ (tbd tv_X12_resize rfl)
    · replace hr := ite_f c87 hr
      refine G.go tv_X12_resize 1 91 [(0, .ref (gAd E (56))), (2, .int (x2)), (4, .int (x4)), (5, .int (x5))] [.ref (gAd E (56))] rfl ?_
      refine G.rg r0 hE 44 (.ref (gAd E (79))) (by decide) rfl (tbd tv_X12_resize rfl) w_2109 ?_
      refine G.go tv_X12_resize 4 102 [(0, .ref (gAd E (56))), (2, .int (x2)), (4, .int (x4)), (5, .int (x5))] [.int ((128 : Int32)), .int (x2), .int (x5), .int (x5), .ref (gAd E (79))] rfl ?_
      refine G.irem (by decide) (tbd tv_X12_resize rfl) ?_
      refine G.cmp_ge 116 (tbd tv_X12_resize rfl) (by decide) (fun c103 => ?_) (fun c103 => ?_)
      · replace hr := ite_t c103 hr
        refine G.go tv_X12_resize 1 117 [(0, .ref (gAd E (56))), (2, .int (x2)), (4, .int (x4)), (5, .int (x5))] [.int ((0 : Int32)), .int (x5), .ref (gAd E (79))] rfl ?_
        obtain ⟨R182, b182, eR182, hr⟩ := stR_s hr
        refine G.bast (79) (by omega) (r0.a44) b182 (tbd tv_X12_resize rfl) ?_
        refine G.gen (P := fun w9 => RfV E w9 (setSr (setS R182 42 az) sy) ∧ Fr RfK f0 w9) ⟨by rw [eR182]; exact r0.p44 _, Fr.up hf ⟨by decide, by decide⟩⟩ (fun u182 p182 => ?_)
        obtain ⟨r182, h182⟩ := p182
        refine G.go tv_X12_resize 2 82 [(0, .ref (gAd E (56))), (2, .int (x2)), (4, .int (x4)), (5, .int (x5 + (1 : Int32)))] [] rfl ?_
        refine G.less [(0, .ref (gAd E (56))), (2, .int (x2)), (4, .int (x4)), (5, .int (x5 + (1 : Int32)))] [0, 1, 2, 3] rfl ?_
        exact ih _ _ _ _ _ hr _ ⟨_, _, r182⟩ h182
      · replace hr := ite_f c103 hr
        refine G.go tv_X12_resize 1 107 [(0, .ref (gAd E (56))), (2, .int (x2)), (4, .int (x4)), (5, .int (x5))] [.ref (gAd E (56)), .int (x5), .ref (gAd E (79))] rfl ?_
        refine G.rg r0 hE 43 (.ref (gAd E (78))) (by decide) rfl (tbd tv_X12_resize rfl) w_2108 ?_
        refine G.go tv_X12_resize 1 112 [(0, .ref (gAd E (56))), (2, .int (x2)), (4, .int (x4)), (5, .int (x5))] [.int (x5), .ref (gAd E (78)), .int (x5), .ref (gAd E (79))] rfl ?_
        obtain ⟨v183, b183, e183, hr⟩ := ld_s hr
        refine G.baldE (78) (by omega) (r0.a43) b183 e183 (tbd tv_X12_resize rfl) ?_
        refine G.go tv_X12_resize 1 117 [(0, .ref (gAd E (56))), (2, .int (x2)), (4, .int (x4)), (5, .int (x5))] [.int (v183), .int (x5), .ref (gAd E (79))] rfl ?_
        obtain ⟨R184, b184, eR184, hr⟩ := stR_s hr
        refine G.bast (79) (by omega) (r0.a44) b184 (tbd tv_X12_resize rfl) ?_
        refine G.gen (P := fun w9 => RfV E w9 (setSr (setS R184 42 az) sy) ∧ Fr RfK f0 w9) ⟨by rw [eR184]; exact r0.p44 _, Fr.up hf ⟨by decide, by decide⟩⟩ (fun u184 p184 => ?_)
        obtain ⟨r184, h184⟩ := p184
        refine G.go tv_X12_resize 2 82 [(0, .ref (gAd E (56))), (2, .int (x2)), (4, .int (x4)), (5, .int (x5 + (1 : Int32)))] [] rfl ?_
        refine G.less [(0, .ref (gAd E (56))), (2, .int (x2)), (4, .int (x4)), (5, .int (x5 + (1 : Int32)))] [0, 1, 2, 3] rfl ?_
        exact ih _ _ _ _ _ hr _ ⟨_, _, r184⟩ h184
set_option maxRecDepth 100000 in
set_option maxHeartbeats 4000000 in
theorem l_X12_resize_15 (E : gE) (f0 : Nat → va_E) (sz : Nat) (QA : Nat → Prop) (hE : 94 ≤ gN E) : ∀ (R : RfT) (x1 : Int32) (x2 : Int32) (x3 : Int32) (R9 : RfT) (hr : e_resize_15  R x1 x2 x3 = some R9) (f : Nat → va_E) (w : RW E f R) (hf : Fr RfK f0 f), G E (11, yX12_resize, 6, none, sz, QA) cX12_resize (gO E (11, yX12_resize, 6, none, sz, QA) (fun v g => v = none ∧ RW E g R9 ∧ Fr RfK f0 g, fun _ _ => False)) 15 [(0, .ref (gAd E (56))), (1, .int (x1)), (2, .int (x2)), (3, .int (x3))] [] f := by
  intro R x1 x2 x3 R9 hr f w hf
  obtain ⟨az, sy, r0⟩ := w
  unfold e_resize_15 at hr
  refine G.go tv_X12_resize 5 20 [(0, .ref (gAd E (56))), (1, .int (x1)), (2, .int (x2)), (3, .int (x3))] [.int (x2), .int ((4 : Int32)), .int ((4 : Int32)), .int (x1), .ref (gAd E (56))] rfl ?_
  obtain ⟨R177, hv177, hr⟩ := bnd_s hr
  refine G.callV (56) [.int (x1), .int ((4 : Int32)), .int ((4 : Int32)), .int (x2)] [] (k_X12_setField E _ hE R ⟨_, _, r0⟩ x1 ((4 : Int32)) ((4 : Int32)) x2 R177 hv177) cls_X12 (by omega) (r0.o) cw_X12_332 w_2424 w_87 (Nat.le_of_ble_eq_true rfl) rfl (Nat.le_of_ble_eq_true rfl) (tbd tv_X12_resize rfl) (fun v177w f177 q177 => ?_) (fun _ _ h => h.elim)
  obtain ⟨rfl, ⟨az177, sy177, r177⟩, fa177⟩ := q177
  refine G.eqs [] rfl ?_
  refine G.go tv_X12_resize 1 24 [(0, .ref (gAd E (56))), (1, .int (x1)), (2, .int (x2)), (3, .int (x3))] [.int (x3)] rfl ?_
  refine G.if_eq 130 (tbd tv_X12_resize rfl) (by decide) (fun c24 => ?_) (fun c24 => ?_)
  · replace hr := ite_t c24 hr
    cases hr
    exact G.vret rfl ⟨rfl, ⟨_, _, r177⟩, (hf.tr fa177 (fun _ h => h))⟩ (tbd tv_X12_resize rfl)
  · replace hr := ite_f c24 hr
    refine G.go tv_X12_resize 8 39 [(0, .ref (gAd E (56))), (1, .int (x1)), (2, .int (x2)), (3, .int (x3))] [.int ((128 : Int32)), .int (((x2) + ((128 : Int32))) - ((1 : Int32))), .int (x1), .ref (gAd E (56))] rfl ?_
    refine G.idiv (by decide) (tbd tv_X12_resize rfl) ?_
    obtain ⟨R178, hv178, hr⟩ := bnd_s hr
    refine G.callV (56) [.int (x1), .int ((((x2) + ((128 : Int32))) - ((1 : Int32))) / ((128 : Int32)))] [] (k_X12_freeFrom E _ hE R177 ⟨_, _, r177⟩ x1 ((((x2) + ((128 : Int32))) - ((1 : Int32))) / ((128 : Int32))) R178 hv178) cls_X12 (by omega) (r177.o) cw_X12_341 w_2400 w_81 (Nat.le_of_ble_eq_true rfl) rfl (Nat.le_of_ble_eq_true rfl) (tbd tv_X12_resize rfl) (fun v178w f178 q178 => ?_) (fun _ _ h => h.elim)
    obtain ⟨rfl, ⟨az178, sy178, r178⟩, fa178⟩ := q178
    refine G.eqs [] rfl ?_
    refine G.go tv_X12_resize 2 47 [(0, .ref (gAd E (56))), (1, .int (x1)), (2, .int (x2)), (3, .int (x3))] [.int ((128 : Int32)), .int (x2)] rfl ?_
    refine G.irem (by decide) (tbd tv_X12_resize rfl) ?_
    refine G.if_ne 55 (tbd tv_X12_resize rfl) (by decide) (fun c48 => ?_) (fun c48 => ?_)
    · replace hr := ite_f c48 hr
      refine G.go tv_X12_resize 4 61 [(0, .ref (gAd E (56))), (1, .int (x1)), (2, .int (x2)), (3, .int (x3))] [.int ((128 : Int32)), .int (x2), .int (x1), .ref (gAd E (56))] rfl ?_
      refine G.idiv (by decide) (tbd tv_X12_resize rfl) ?_
      obtain ⟨v179, hv179, hr⟩ := bnd_s hr
      refine G.callV (56) [.int (x1), .int ((x2) / ((128 : Int32)))] [] (k_X12_blockOf E _ hE R178 ⟨_, _, r178⟩ x1 ((x2) / ((128 : Int32))) v179 hv179) cls_X12 (by omega) (r178.o) cw_X12_323 w_2507 w_105 (Nat.le_of_ble_eq_true rfl) rfl (Nat.le_of_ble_eq_true rfl) (tbd tv_X12_resize rfl) (fun v179w f179 q179 => ?_) (fun _ _ h => h.elim)
      obtain ⟨rfl, ⟨az179, sy179, r179⟩, fa179⟩ := q179
      refine G.eqs [.int (v179)] rfl ?_
      refine G.go tv_X12_resize 2 69 [(0, .ref (gAd E (56))), (1, .int (x1)), (2, .int (x2)), (3, .int (x3)), (4, .int (v179))] [.int (v179)] rfl ?_
      refine G.if_eq 130 (tbd tv_X12_resize rfl) (by decide) (fun c69 => ?_) (fun c69 => ?_)
      · replace hr := ite_t c69 hr
        cases hr
        exact G.vret rfl ⟨rfl, ⟨_, _, r179⟩, (((hf.tr fa177 (fun _ h => h)).tr fa178 (fun _ h => h)).tr fa179 (fun _ h => h))⟩ (tbd tv_X12_resize rfl)
      · replace hr := ite_f c69 hr
        refine G.go tv_X12_resize 3 76 [(0, .ref (gAd E (56))), (1, .int (x1)), (2, .int (x2)), (3, .int (x3)), (4, .int (v179))] [.int ((1 : Int32)), .int (v179), .ref (gAd E (56))] rfl ?_
        obtain ⟨R180, hv180, hr⟩ := bnd_s hr
        refine G.callV (56) [.int (v179), .int ((1 : Int32))] [] (k_X12_see E _ hE R178 ⟨_, _, r179⟩ v179 ((1 : Int32)) R180 hv180) cls_X12 (by omega) (r179.o) cw_X12_236 w_2420 w_86 (Nat.le_of_ble_eq_true rfl) rfl (Nat.le_of_ble_eq_true rfl) (tbd tv_X12_resize rfl) (fun v180w f180 q180 => ?_) (fun _ _ h => h.elim)
        obtain ⟨rfl, ⟨az180, sy180, r180⟩, fa180⟩ := q180
        refine G.eqs [] rfl ?_
        refine G.go tv_X12_resize 2 82 [(0, .ref (gAd E (56))), (1, .int (x1)), (2, .int (x2)), (3, .int (x3)), (4, .int (v179)), (5, .int ((0 : Int32)))] [] rfl ?_
        refine G.less [(0, .ref (gAd E (56))), (2, .int (x2)), (4, .int (v179)), (5, .int ((0 : Int32)))] [0, 2, 4, 5] rfl ?_
        exact l_X12_resize_82 E f0 sz QA hE _ _ _ _ _ _ hr _ ⟨_, _, r180⟩ ((((hf.tr fa177 (fun _ h => h)).tr fa178 (fun _ h => h)).tr fa179 (fun _ h => h)).tr fa180 (fun _ h => h))
    · replace hr := ite_t c48 hr
      refine G.go tv_X12_resize 4 69 [(0, .ref (gAd E (56))), (1, .int (x1)), (2, .int (x2)), (3, .int (x3)), (4, .int ((0 : Int32)))] [.int ((0 : Int32))] rfl ?_
      refine G.if_eq 130 (tbd tv_X12_resize rfl) (by decide) (fun c69 => ?_) (fun c69 => absurd (by decide) c69)
      cases hr
      exact G.vret rfl ⟨rfl, ⟨_, _, r178⟩, ((hf.tr fa177 (fun _ h => h)).tr fa178 (fun _ h => h))⟩ (tbd tv_X12_resize rfl)
set_option maxRecDepth 100000 in
set_option maxHeartbeats 4000000 in
theorem k_X12_resize (E : gE) (f : Nat → va_E) (hE : 94 ≤ gN E) (R : RfT) (w : RW E f R) (a0 : Int32) (a1 : Int32) (R9 : RfT) (hr : e_resize R a0 a1 = some R9) : Ct E 11 yX12_resize cX12_resize 6 none [.ref (gAd E (56)), .int (a0), .int (a1)] f (fun v g => v = none ∧ RW E g R9 ∧ Fr RfK f g, fun _ _ => False) := by
  obtain ⟨az, sy, r0⟩ := w
  refine Ct.of (by decide) (Nat.le_of_ble_eq_true rfl) (fun sz => ?_)
  refine G.eql [(0, .ref (gAd E (56))), (1, .int (a0)), (2, .int (a1))] rfl ?_
  unfold e_resize at hr
  refine G.go tv_X12_resize 3 3 [(0, .ref (gAd E (56))), (1, .int (a0)), (2, .int (a1))] [.int (a0), .ref (gAd E (56)), .int (a1)] rfl ?_
  obtain ⟨v176, hv176, hr⟩ := bnd_s hr
  refine G.callV (56) [.int (a0)] [.int (a1)] (k_X12_size E _ hE R ⟨_, _, r0⟩ a0 v176 hv176) cls_X12 (by omega) (r0.o) cw_X12_344 w_2503 w_104 (Nat.le_of_ble_eq_true rfl) rfl (Nat.le_of_ble_eq_true rfl) (tbd tv_X12_resize rfl) (fun v176w f176 q176 => ?_) (fun _ _ h => h.elim)
  obtain ⟨rfl, ⟨az176, sy176, r176⟩, fa176⟩ := q176
  refine G.eqs [.int (v176), .int (a1)] rfl ?_
  refine G.cmp_ge 13 (tbd tv_X12_resize rfl) (by decide) (fun c6 => ?_) (fun c6 => ?_)
  · replace hr := ite_t c6 hr
    refine G.go tv_X12_resize 2 15 [(0, .ref (gAd E (56))), (1, .int (a0)), (2, .int (a1)), (3, .int ((0 : Int32)))] [] rfl ?_
    refine G.less [(0, .ref (gAd E (56))), (1, .int (a0)), (2, .int (a1)), (3, .int ((0 : Int32)))] [0, 1, 2, 3] rfl ?_
    exact l_X12_resize_15 E f sz _ hE _ _ _ _ _ hr _ ⟨_, _, r176⟩ (Fr.rf.tr fa176 (fun _ h => h))
  · replace hr := ite_f c6 hr
    refine G.go tv_X12_resize 3 15 [(0, .ref (gAd E (56))), (1, .int (a0)), (2, .int (a1)), (3, .int ((1 : Int32)))] [] rfl ?_
    refine G.less [(0, .ref (gAd E (56))), (1, .int (a0)), (2, .int (a1)), (3, .int ((1 : Int32)))] [0, 1, 2, 3] rfl ?_
    exact l_X12_resize_15 E f sz _ hE _ _ _ _ _ hr _ ⟨_, _, r176⟩ (Fr.rf.tr fa176 (fun _ h => h))
def tb_X12_allLostGo : List (Nat × Instr × Nat) := [(0, .iconst 1, 1), (1, .istore_n 1, 1), (2, .iload_n 1, 1), (3, .bipush 64, 2), (5, .if_icmp .gt 30, 3), (8, .aload_n 0, 1), (9, .iload_n 1, 1), (10, .invokevirtual 370, 3), (13, .ifCond .eq 16, 3), (16, .aload_n 0, 1), (17, .iload_n 1, 1), (18, .invokevirtual 373, 3), (21, .ifCond .ne 8, 3), (24, .aload_n 0, 1), (25, .iload_n 1, 1), (26, .invokevirtual 376, 3), (29, .iinc 1 1, 3), (32, .goto (-30), 3), (35, .aload_n 0, 1), (36, .invokevirtual 379, 3), (39, .return_, 1)]
theorem tv_X12_allLostGo : Tv cX12_allLostGo tb_X12_allLostGo := by
  unfold Tv
  decide +kernel
theorem w_2363 : Cond.methodLink "LedgerFilesModel" 370 yX12_isLost ∈ TB := tp_10 57 (by decide +kernel) rfl
theorem w_2366 : Cond.code yX12_isLost prog_14_method_71_code 2 (some .boolean) ∈ TB := tp_10 60 rfl rfl
theorem cw_X12_370 : Cw RX12 370 yX12_isLost cX12_isLost 2 (some .boolean) 1 := ⟨w_2363, w_2366, w_161, by decide +kernel, by decide +kernel, by decide⟩
theorem w_2365 : Cond.instanceMethod yX12_isLost ∈ TB := tp_10 59 (by decide +kernel) rfl
theorem w_73 : Cond.selects "LedgerFilesModel" yX12_isLost yX12_isLost ∈ TB := tp_0 73 (by decide +kernel) rfl
noncomputable def e_allLostGo_2  : Nat → RfT → Int32 → Option (RfT)
  | 0, _, _ => none
  | n + 1, R, x1 => if ((64 : Int32)) < x1 then bnd (e_commit R) (fun R185 => some R185) else bnd (e_isLost R x1) (fun v186 => if v186 = 0 then e_allLostGo_2  n R (x1 + (1 : Int32)) else bnd (e_isHeld R x1) (fun v187 => if v187 = 0 then bnd (e_removeInode R x1) (fun R188 => e_allLostGo_2  n R188 (x1 + (1 : Int32))) else e_allLostGo_2  n R (x1 + (1 : Int32))))
noncomputable def e_allLostGo  (R : RfT) : Option (RfT) := e_allLostGo_2  fuL R ((1 : Int32))
set_option maxRecDepth 100000 in
set_option maxHeartbeats 4000000 in
theorem l_X12_allLostGo_2 (E : gE) (f0 : Nat → va_E) (sz : Nat) (QA : Nat → Prop) (hE : 94 ≤ gN E) : ∀ (n : Nat), ∀ (R : RfT) (x1 : Int32) (R9 : RfT) (hr : e_allLostGo_2  n R x1 = some R9) (f : Nat → va_E) (w : RW E f R) (hf : Fr RfK f0 f), G E (11, yX12_allLostGo, 2, none, sz, QA) cX12_allLostGo (gO E (11, yX12_allLostGo, 2, none, sz, QA) (fun v g => v = none ∧ RW E g R9 ∧ Fr RfK f0 g, fun _ _ => False)) 2 [(0, .ref (gAd E (56))), (1, .int (x1))] [] f := by
  intro n
  induction n with
  | zero =>
    intro R x1 R9 hr f w hf
    cases hr
  | succ n ih =>
    intro R x1 R9 hr f w hf
    obtain ⟨az, sy, r0⟩ := w
    unfold e_allLostGo_2 at hr
    refine G.go tv_X12_allLostGo 2 5 [(0, .ref (gAd E (56))), (1, .int (x1))] [.int ((64 : Int32)), .int (x1)] rfl ?_
    refine G.cmp_gt 35 (tbd tv_X12_allLostGo rfl) (by decide) (fun c5 => ?_) (fun c5 => ?_)
    · replace hr := ite_t c5 hr
      refine G.go tv_X12_allLostGo 1 36 [(0, .ref (gAd E (56))), (1, .int (x1))] [.ref (gAd E (56))] rfl ?_
      obtain ⟨R185, hv185, hr⟩ := bnd_s hr
      refine G.callV (56) [] [] (k_X12_commit E _ hE R ⟨_, _, r0⟩ R185 hv185) cls_X12 (by omega) (r0.o) cw_X12_379 w_2432 w_89 (Nat.le_of_ble_eq_true rfl) rfl (Nat.le_of_ble_eq_true rfl) (tbd tv_X12_allLostGo rfl) (fun v185w f185 q185 => ?_) (fun _ _ h => h.elim)
      obtain ⟨rfl, ⟨az185, sy185, r185⟩, fa185⟩ := q185
      refine G.eqs [] rfl ?_
      cases hr
      exact G.vret rfl ⟨rfl, ⟨_, _, r185⟩, (hf.tr fa185 (fun _ h => h))⟩ (tbd tv_X12_allLostGo rfl)
    · replace hr := ite_f c5 hr
      refine G.go tv_X12_allLostGo 2 10 [(0, .ref (gAd E (56))), (1, .int (x1))] [.int (x1), .ref (gAd E (56))] rfl ?_
      obtain ⟨v186, hv186, hr⟩ := bnd_s hr
      refine G.callV (56) [.int (x1)] [] (k_X12_isLost E _ hE R ⟨_, _, r0⟩ x1 v186 hv186) cls_X12 (by omega) (r0.o) cw_X12_370 w_2365 w_73 (Nat.le_of_ble_eq_true rfl) rfl (Nat.le_of_ble_eq_true rfl) (tbd tv_X12_allLostGo rfl) (fun v186w f186 q186 => ?_) (fun _ _ h => h.elim)
      obtain ⟨rfl, ⟨az186, sy186, r186⟩, fa186⟩ := q186
      refine G.eqs [.int (v186)] rfl ?_
      refine G.if_eq 29 (tbd tv_X12_allLostGo rfl) (by decide) (fun c13 => ?_) (fun c13 => ?_)
      · replace hr := ite_t c13 hr
        refine G.go tv_X12_allLostGo 2 2 [(0, .ref (gAd E (56))), (1, .int (x1 + (1 : Int32)))] [] rfl ?_
        refine G.less [(0, .ref (gAd E (56))), (1, .int (x1 + (1 : Int32)))] [0, 1] rfl ?_
        exact ih _ _ _ hr _ ⟨_, _, r186⟩ (hf.tr fa186 (fun _ h => h))
      · replace hr := ite_f c13 hr
        refine G.go tv_X12_allLostGo 2 18 [(0, .ref (gAd E (56))), (1, .int (x1))] [.int (x1), .ref (gAd E (56))] rfl ?_
        obtain ⟨v187, hv187, hr⟩ := bnd_s hr
        refine G.callV (56) [.int (x1)] [] (k_X12_isHeld E _ hE R ⟨_, _, r186⟩ x1 v187 hv187) cls_X12 (by omega) (r186.o) cw_X12_373 w_2388 w_78 (Nat.le_of_ble_eq_true rfl) rfl (Nat.le_of_ble_eq_true rfl) (tbd tv_X12_allLostGo rfl) (fun v187w f187 q187 => ?_) (fun _ _ h => h.elim)
        obtain ⟨rfl, ⟨az187, sy187, r187⟩, fa187⟩ := q187
        refine G.eqs [.int (v187)] rfl ?_
        refine G.if_ne 29 (tbd tv_X12_allLostGo rfl) (by decide) (fun c21 => ?_) (fun c21 => ?_)
        · replace hr := ite_f c21 hr
          refine G.go tv_X12_allLostGo 2 2 [(0, .ref (gAd E (56))), (1, .int (x1 + (1 : Int32)))] [] rfl ?_
          refine G.less [(0, .ref (gAd E (56))), (1, .int (x1 + (1 : Int32)))] [0, 1] rfl ?_
          exact ih _ _ _ hr _ ⟨_, _, r187⟩ ((hf.tr fa186 (fun _ h => h)).tr fa187 (fun _ h => h))
        · replace hr := ite_t c21 hr
          refine G.go tv_X12_allLostGo 2 26 [(0, .ref (gAd E (56))), (1, .int (x1))] [.int (x1), .ref (gAd E (56))] rfl ?_
          obtain ⟨R188, hv188, hr⟩ := bnd_s hr
          refine G.callV (56) [.int (x1)] [] (k_X12_removeInode E _ hE R ⟨_, _, r187⟩ x1 R188 hv188) cls_X12 (by omega) (r187.o) cw_X12_376 w_2396 w_80 (Nat.le_of_ble_eq_true rfl) rfl (Nat.le_of_ble_eq_true rfl) (tbd tv_X12_allLostGo rfl) (fun v188w f188 q188 => ?_) (fun _ _ h => h.elim)
          obtain ⟨rfl, ⟨az188, sy188, r188⟩, fa188⟩ := q188
          refine G.eqs [] rfl ?_
          refine G.go tv_X12_allLostGo 2 2 [(0, .ref (gAd E (56))), (1, .int (x1 + (1 : Int32)))] [] rfl ?_
          refine G.less [(0, .ref (gAd E (56))), (1, .int (x1 + (1 : Int32)))] [0, 1] rfl ?_
          exact ih _ _ _ hr _ ⟨_, _, r188⟩ (((hf.tr fa186 (fun _ h => h)).tr fa187 (fun _ h => h)).tr fa188 (fun _ h => h))
set_option maxRecDepth 100000 in
set_option maxHeartbeats 4000000 in
theorem k_X12_allLostGo (E : gE) (f : Nat → va_E) (hE : 94 ≤ gN E) (R : RfT) (w : RW E f R) (R9 : RfT) (hr : e_allLostGo R = some R9) : Ct E 11 yX12_allLostGo cX12_allLostGo 2 none [.ref (gAd E (56))] f (fun v g => v = none ∧ RW E g R9 ∧ Fr RfK f g, fun _ _ => False) := by
  obtain ⟨az, sy, r0⟩ := w
  refine Ct.of (by decide) (Nat.le_of_ble_eq_true rfl) (fun sz => ?_)
  refine G.eql [(0, .ref (gAd E (56)))] rfl ?_
  unfold e_allLostGo at hr
  refine G.go tv_X12_allLostGo 2 2 [(0, .ref (gAd E (56))), (1, .int ((1 : Int32)))] [] rfl ?_
  refine G.less [(0, .ref (gAd E (56))), (1, .int ((1 : Int32)))] [0, 1] rfl ?_
  exact l_X12_allLostGo_2 E f sz _ hE _ _ _ _ hr _ ⟨_, _, r0⟩ Fr.rf
def tb_X12_backOut : List (Nat × Instr × Nat) := [(0, .aload_n 0, 1), (1, .invokevirtual 168, 3), (4, .aload_n 0, 1), (5, .iconst 0, 1), (6, .putfield 174, 3), (9, .iconst 0, 1), (10, .istore_n 1, 1), (11, .iload_n 1, 1), (12, .sipush 1024, 3), (15, .if_icmp .ge 35, 3), (18, .aload_n 0, 1), (19, .getfield 68, 3), (22, .iload_n 1, 1), (23, .aload_n 0, 1), (24, .getfield 68, 3), (27, .iload_n 1, 1), (28, .baload, 1), (29, .iconst 2, 1), (30, .if_icmp .ne 7, 3), (33, .iconst 0, 1), (34, .goto 9, 3), (37, .aload_n 0, 1), (38, .getfield 68, 3), (41, .iload_n 1, 1), (42, .baload, 1), (43, .bastore, 1), (44, .iinc 1 1, 3), (47, .goto (-36), 3), (50, .iconst 0, 1), (51, .istore_n 1, 1), (52, .iload_n 1, 1), (53, .bipush 32, 2), (55, .if_icmp .ge 39, 3), (58, .aload_n 0, 1), (59, .getfield 113, 3), (62, .iload_n 1, 1), (63, .aload_n 0, 1), (64, .aload_n 0, 1), (65, .getfield 113, 3), (68, .iload_n 1, 1), (69, .iaload, 1), (70, .invokevirtual 326, 3), (73, .iconst 1, 1), (74, .if_icmp .ne 12, 3), (77, .aload_n 0, 1), (78, .getfield 113, 3), (81, .iload_n 1, 1), (82, .iaload, 1), (83, .goto 4, 3), (86, .iconst 0, 1), (87, .iastore, 1), (88, .iinc 1 1, 3), (91, .goto (-39), 3), (94, .iconst 1, 1), (95, .istore_n 1, 1), (96, .iload_n 1, 1), (97, .bipush 64, 2), (99, .if_icmp .gt 33, 3), (102, .aload_n 0, 1), (103, .getfield 110, 3), (106, .iload_n 1, 1), (107, .aload_n 0, 1), (108, .iload_n 1, 1), (109, .invokevirtual 326, 3), (112, .ifCond .ne 7, 3), (115, .iconst 0, 1), (116, .goto 9, 3), (119, .aload_n 0, 1), (120, .getfield 110, 3), (123, .iload_n 1, 1), (124, .iaload, 1), (125, .iastore, 1), (126, .iinc 1 1, 3), (129, .goto (-33), 3), (132, .aload_n 0, 1), (133, .invokevirtual 382, 3), (136, .return_, 1)]
theorem tv_X12_backOut : Tv cX12_backOut tb_X12_backOut := by
  unfold Tv
  decide +kernel
theorem w_2359 : Cond.methodLink "LedgerFilesModel" 382 yX12_allLostGo ∈ TB := tp_10 53 (by decide +kernel) rfl
theorem w_2362 : Cond.code yX12_allLostGo prog_14_method_72_code 2 none ∈ TB := tp_10 56 rfl rfl
theorem cw_X12_382 : Cw RX12 382 yX12_allLostGo cX12_allLostGo 2 none 0 := ⟨w_2359, w_2362, w_161, by decide +kernel, by decide +kernel, by decide⟩
theorem w_2361 : Cond.instanceMethod yX12_allLostGo ∈ TB := tp_10 55 (by decide +kernel) rfl
theorem w_72 : Cond.selects "LedgerFilesModel" yX12_allLostGo yX12_allLostGo ∈ TB := tp_0 72 (by decide +kernel) rfl
noncomputable def e_backOut_96  : Nat → RfT → Int32 → Option (RfT)
  | 0, _, _ => none
  | n + 1, R, x1 => if ((64 : Int32)) < x1 then bnd (e_allLostGo R) (fun R200 => some R200) else bnd (e_kind R x1) (fun v201 => if v201 = 0 then stR R 52 65 x1 ((0 : Int32)) (fun R204 => e_backOut_96  n R204 (x1 + (1 : Int32))) else ld (rA R 52) 65 x1 (fun v202 => stR R 52 65 x1 v202 (fun R203 => e_backOut_96  n R203 (x1 + (1 : Int32)))))
noncomputable def e_backOut_52  : Nat → RfT → Int32 → Option (RfT)
  | 0, _, _ => none
  | n + 1, R, x1 => if ((32 : Int32)) ≤ x1 then e_backOut_96  fuL R ((1 : Int32)) else ld (rA R 53) 32 x1 (fun v195 => bnd (e_kind R v195) (fun v196 => if v196 = ((1 : Int32)) then ld (rA R 53) 32 x1 (fun v198 => stR R 53 32 x1 v198 (fun R199 => e_backOut_52  n R199 (x1 + (1 : Int32)))) else stR R 53 32 x1 ((0 : Int32)) (fun R197 => e_backOut_52  n R197 (x1 + (1 : Int32)))))
noncomputable def e_backOut_11  : Nat → RfT → Int32 → Option (RfT)
  | 0, _, _ => none
  | n + 1, R, x1 => if ((1024 : Int32)) ≤ x1 then e_backOut_52  fuL R ((0 : Int32)) else ld (rA R 35) 1024 x1 (fun v191 => if v191 = ((2 : Int32)) then stR R 35 1024 x1 (vp_nar .byte ((0 : Int32))) (fun R194 => e_backOut_11  n R194 (x1 + (1 : Int32))) else ld (rA R 35) 1024 x1 (fun v192 => stR R 35 1024 x1 (vp_nar .byte v192) (fun R193 => e_backOut_11  n R193 (x1 + (1 : Int32)))))
noncomputable def e_backOut  (R : RfT) : Option (RfT) := bnd (e_noWorks R) (fun R189 => ptR R189 34 ((0 : Int32)) (fun R190 => e_backOut_11  fuL R190 ((0 : Int32))))
set_option maxRecDepth 100000 in
set_option maxHeartbeats 4000000 in
theorem l_X12_backOut_96 (E : gE) (f0 : Nat → va_E) (sz : Nat) (QA : Nat → Prop) (hE : 94 ≤ gN E) : ∀ (n : Nat), ∀ (R : RfT) (x1 : Int32) (R9 : RfT) (hr : e_backOut_96  n R x1 = some R9) (f : Nat → va_E) (w : RW E f R) (hf : Fr RfK f0 f), G E (12, yX12_backOut, 2, none, sz, QA) cX12_backOut (gO E (12, yX12_backOut, 2, none, sz, QA) (fun v g => v = none ∧ RW E g R9 ∧ Fr RfK f0 g, fun _ _ => False)) 96 [(0, .ref (gAd E (56))), (1, .int (x1))] [] f := by
  intro n
  induction n with
  | zero =>
    intro R x1 R9 hr f w hf
    cases hr
  | succ n ih =>
    intro R x1 R9 hr f w hf
    obtain ⟨az, sy, r0⟩ := w
    unfold e_backOut_96 at hr
    refine G.go tv_X12_backOut 2 99 [(0, .ref (gAd E (56))), (1, .int (x1))] [.int ((64 : Int32)), .int (x1)] rfl ?_
    refine G.cmp_gt 132 (tbd tv_X12_backOut rfl) (by decide) (fun c99 => ?_) (fun c99 => ?_)
    · replace hr := ite_t c99 hr
      refine G.go tv_X12_backOut 1 133 [(0, .ref (gAd E (56))), (1, .int (x1))] [.ref (gAd E (56))] rfl ?_
      obtain ⟨R200, hv200, hr⟩ := bnd_s hr
      refine G.callV (56) [] [] (k_X12_allLostGo E _ hE R ⟨_, _, r0⟩ R200 hv200) cls_X12 (by omega) (r0.o) cw_X12_382 w_2361 w_72 (Nat.le_of_ble_eq_true rfl) rfl (Nat.le_of_ble_eq_true rfl) (tbd tv_X12_backOut rfl) (fun v200w f200 q200 => ?_) (fun _ _ h => h.elim)
      obtain ⟨rfl, ⟨az200, sy200, r200⟩, fa200⟩ := q200
      refine G.eqs [] rfl ?_
      cases hr
      exact G.vret rfl ⟨rfl, ⟨_, _, r200⟩, (hf.tr fa200 (fun _ h => h))⟩ (tbd tv_X12_backOut rfl)
    · replace hr := ite_f c99 hr
      refine G.go tv_X12_backOut 1 103 [(0, .ref (gAd E (56))), (1, .int (x1))] [.ref (gAd E (56))] rfl ?_
      refine G.rg r0 hE 52 (.ref (gAd E (86))) (by decide) rfl (tbd tv_X12_backOut rfl) w_2117 ?_
      refine G.go tv_X12_backOut 3 109 [(0, .ref (gAd E (56))), (1, .int (x1))] [.int (x1), .ref (gAd E (56)), .int (x1), .ref (gAd E (86))] rfl ?_
      obtain ⟨v201, hv201, hr⟩ := bnd_s hr
      refine G.callV (56) [.int (x1)] [.int (x1), .ref (gAd E (86))] (k_X12_kind E _ hE R ⟨_, _, r0⟩ x1 v201 hv201) cls_X12 (by omega) (r0.o) cw_X12_326 w_2369 w_74 (Nat.le_of_ble_eq_true rfl) rfl (Nat.le_of_ble_eq_true rfl) (tbd tv_X12_backOut rfl) (fun v201w f201 q201 => ?_) (fun _ _ h => h.elim)
      obtain ⟨rfl, ⟨az201, sy201, r201⟩, fa201⟩ := q201
      refine G.eqs [.int (v201), .int (x1), .ref (gAd E (86))] rfl ?_
      refine G.if_ne 119 (tbd tv_X12_backOut rfl) (by decide) (fun c112 => ?_) (fun c112 => ?_)
      · replace hr := ite_f c112 hr
        refine G.go tv_X12_backOut 1 120 [(0, .ref (gAd E (56))), (1, .int (x1))] [.ref (gAd E (56)), .int (x1), .ref (gAd E (86))] rfl ?_
        refine G.rg r201 hE 52 (.ref (gAd E (86))) (by decide) rfl (tbd tv_X12_backOut rfl) w_2117 ?_
        refine G.go tv_X12_backOut 1 124 [(0, .ref (gAd E (56))), (1, .int (x1))] [.int (x1), .ref (gAd E (86)), .int (x1), .ref (gAd E (86))] rfl ?_
        obtain ⟨v202, b202, e202, hr⟩ := ld_s hr
        refine G.ialdE (86) (by omega) (r201.a52) b202 e202 (tbd tv_X12_backOut rfl) ?_
        obtain ⟨R203, b203, eR203, hr⟩ := stR_s hr
        refine G.iast (86) (by omega) (r201.a52) b203 (tbd tv_X12_backOut rfl) ?_
        refine G.gen (P := fun w9 => RfV E w9 (setSr (setS R203 42 az201) sy201) ∧ Fr RfK f0 w9) ⟨by rw [eR203]; exact r201.p52 _, Fr.up (hf.tr fa201 (fun _ h => h)) ⟨by decide, by decide⟩⟩ (fun u203 p203 => ?_)
        obtain ⟨r203, h203⟩ := p203
        refine G.go tv_X12_backOut 2 96 [(0, .ref (gAd E (56))), (1, .int (x1 + (1 : Int32)))] [] rfl ?_
        refine G.less [(0, .ref (gAd E (56))), (1, .int (x1 + (1 : Int32)))] [0, 1] rfl ?_
        exact ih _ _ _ hr _ ⟨_, _, r203⟩ h203
      · replace hr := ite_t c112 hr
        refine G.go tv_X12_backOut 2 125 [(0, .ref (gAd E (56))), (1, .int (x1))] [.int ((0 : Int32)), .int (x1), .ref (gAd E (86))] rfl ?_
        obtain ⟨R204, b204, eR204, hr⟩ := stR_s hr
        refine G.iast (86) (by omega) (r201.a52) b204 (tbd tv_X12_backOut rfl) ?_
        refine G.gen (P := fun w9 => RfV E w9 (setSr (setS R204 42 az201) sy201) ∧ Fr RfK f0 w9) ⟨by rw [eR204]; exact r201.p52 _, Fr.up (hf.tr fa201 (fun _ h => h)) ⟨by decide, by decide⟩⟩ (fun u204 p204 => ?_)
        obtain ⟨r204, h204⟩ := p204
        refine G.go tv_X12_backOut 2 96 [(0, .ref (gAd E (56))), (1, .int (x1 + (1 : Int32)))] [] rfl ?_
        refine G.less [(0, .ref (gAd E (56))), (1, .int (x1 + (1 : Int32)))] [0, 1] rfl ?_
        exact ih _ _ _ hr _ ⟨_, _, r204⟩ h204
set_option maxRecDepth 100000 in
set_option maxHeartbeats 4000000 in
theorem l_X12_backOut_52 (E : gE) (f0 : Nat → va_E) (sz : Nat) (QA : Nat → Prop) (hE : 94 ≤ gN E) : ∀ (n : Nat), ∀ (R : RfT) (x1 : Int32) (R9 : RfT) (hr : e_backOut_52  n R x1 = some R9) (f : Nat → va_E) (w : RW E f R) (hf : Fr RfK f0 f), G E (12, yX12_backOut, 2, none, sz, QA) cX12_backOut (gO E (12, yX12_backOut, 2, none, sz, QA) (fun v g => v = none ∧ RW E g R9 ∧ Fr RfK f0 g, fun _ _ => False)) 52 [(0, .ref (gAd E (56))), (1, .int (x1))] [] f := by
  intro n
  induction n with
  | zero =>
    intro R x1 R9 hr f w hf
    cases hr
  | succ n ih =>
    intro R x1 R9 hr f w hf
    obtain ⟨az, sy, r0⟩ := w
    unfold e_backOut_52 at hr
    refine G.go tv_X12_backOut 2 55 [(0, .ref (gAd E (56))), (1, .int (x1))] [.int ((32 : Int32)), .int (x1)] rfl ?_
    refine G.cmp_ge 94 (tbd tv_X12_backOut rfl) (by decide) (fun c55 => ?_) (fun c55 => ?_)
    · replace hr := ite_t c55 hr
      refine G.go tv_X12_backOut 2 96 [(0, .ref (gAd E (56))), (1, .int ((1 : Int32)))] [] rfl ?_
      refine G.less [(0, .ref (gAd E (56))), (1, .int ((1 : Int32)))] [0, 1] rfl ?_
      exact l_X12_backOut_96 E f0 sz QA hE _ _ _ _ hr _ ⟨_, _, r0⟩ hf
    · replace hr := ite_f c55 hr
      refine G.go tv_X12_backOut 1 59 [(0, .ref (gAd E (56))), (1, .int (x1))] [.ref (gAd E (56))] rfl ?_
      refine G.rg r0 hE 53 (.ref (gAd E (87))) (by decide) rfl (tbd tv_X12_backOut rfl) w_2118 ?_
      refine G.go tv_X12_backOut 3 65 [(0, .ref (gAd E (56))), (1, .int (x1))] [.ref (gAd E (56)), .ref (gAd E (56)), .int (x1), .ref (gAd E (87))] rfl ?_
      refine G.rg r0 hE 53 (.ref (gAd E (87))) (by decide) rfl (tbd tv_X12_backOut rfl) w_2118 ?_
      refine G.go tv_X12_backOut 1 69 [(0, .ref (gAd E (56))), (1, .int (x1))] [.int (x1), .ref (gAd E (87)), .ref (gAd E (56)), .int (x1), .ref (gAd E (87))] rfl ?_
      obtain ⟨v195, b195, e195, hr⟩ := ld_s hr
      refine G.ialdE (87) (by omega) (r0.a53) b195 e195 (tbd tv_X12_backOut rfl) ?_
      obtain ⟨v196, hv196, hr⟩ := bnd_s hr
      refine G.callV (56) [.int (v195)] [.int (x1), .ref (gAd E (87))] (k_X12_kind E _ hE R ⟨_, _, r0⟩ v195 v196 hv196) cls_X12 (by omega) (r0.o) cw_X12_326 w_2369 w_74 (Nat.le_of_ble_eq_true rfl) rfl (Nat.le_of_ble_eq_true rfl) (tbd tv_X12_backOut rfl) (fun v196w f196 q196 => ?_) (fun _ _ h => h.elim)
      obtain ⟨rfl, ⟨az196, sy196, r196⟩, fa196⟩ := q196
      refine G.eqs [.int (v196), .int (x1), .ref (gAd E (87))] rfl ?_
      refine G.go tv_X12_backOut 1 74 [(0, .ref (gAd E (56))), (1, .int (x1))] [.int ((1 : Int32)), .int (v196), .int (x1), .ref (gAd E (87))] rfl ?_
      refine G.cmp_ne 86 (tbd tv_X12_backOut rfl) (by decide) (fun c74 => ?_) (fun c74 => ?_)
      · replace hr := ite_f c74 hr
        refine G.go tv_X12_backOut 1 87 [(0, .ref (gAd E (56))), (1, .int (x1))] [.int ((0 : Int32)), .int (x1), .ref (gAd E (87))] rfl ?_
        obtain ⟨R197, b197, eR197, hr⟩ := stR_s hr
        refine G.iast (87) (by omega) (r196.a53) b197 (tbd tv_X12_backOut rfl) ?_
        refine G.gen (P := fun w9 => RfV E w9 (setSr (setS R197 42 az196) sy196) ∧ Fr RfK f0 w9) ⟨by rw [eR197]; exact r196.p53 _, Fr.up (hf.tr fa196 (fun _ h => h)) ⟨by decide, by decide⟩⟩ (fun u197 p197 => ?_)
        obtain ⟨r197, h197⟩ := p197
        refine G.go tv_X12_backOut 2 52 [(0, .ref (gAd E (56))), (1, .int (x1 + (1 : Int32)))] [] rfl ?_
        refine G.less [(0, .ref (gAd E (56))), (1, .int (x1 + (1 : Int32)))] [0, 1] rfl ?_
        exact ih _ _ _ hr _ ⟨_, _, r197⟩ h197
      · replace hr := ite_t c74 hr
        refine G.go tv_X12_backOut 1 78 [(0, .ref (gAd E (56))), (1, .int (x1))] [.ref (gAd E (56)), .int (x1), .ref (gAd E (87))] rfl ?_
        refine G.rg r196 hE 53 (.ref (gAd E (87))) (by decide) rfl (tbd tv_X12_backOut rfl) w_2118 ?_
        refine G.go tv_X12_backOut 1 82 [(0, .ref (gAd E (56))), (1, .int (x1))] [.int (x1), .ref (gAd E (87)), .int (x1), .ref (gAd E (87))] rfl ?_
        obtain ⟨v198, b198, e198, hr⟩ := ld_s hr
        refine G.ialdE (87) (by omega) (r196.a53) b198 e198 (tbd tv_X12_backOut rfl) ?_
        refine G.go tv_X12_backOut 1 87 [(0, .ref (gAd E (56))), (1, .int (x1))] [.int (v198), .int (x1), .ref (gAd E (87))] rfl ?_
        obtain ⟨R199, b199, eR199, hr⟩ := stR_s hr
        refine G.iast (87) (by omega) (r196.a53) b199 (tbd tv_X12_backOut rfl) ?_
        refine G.gen (P := fun w9 => RfV E w9 (setSr (setS R199 42 az196) sy196) ∧ Fr RfK f0 w9) ⟨by rw [eR199]; exact r196.p53 _, Fr.up (hf.tr fa196 (fun _ h => h)) ⟨by decide, by decide⟩⟩ (fun u199 p199 => ?_)
        obtain ⟨r199, h199⟩ := p199
        refine G.go tv_X12_backOut 2 52 [(0, .ref (gAd E (56))), (1, .int (x1 + (1 : Int32)))] [] rfl ?_
        refine G.less [(0, .ref (gAd E (56))), (1, .int (x1 + (1 : Int32)))] [0, 1] rfl ?_
        exact ih _ _ _ hr _ ⟨_, _, r199⟩ h199
set_option maxRecDepth 100000 in
set_option maxHeartbeats 4000000 in
theorem l_X12_backOut_11 (E : gE) (f0 : Nat → va_E) (sz : Nat) (QA : Nat → Prop) (hE : 94 ≤ gN E) : ∀ (n : Nat), ∀ (R : RfT) (x1 : Int32) (R9 : RfT) (hr : e_backOut_11  n R x1 = some R9) (f : Nat → va_E) (w : RW E f R) (hf : Fr RfK f0 f), G E (12, yX12_backOut, 2, none, sz, QA) cX12_backOut (gO E (12, yX12_backOut, 2, none, sz, QA) (fun v g => v = none ∧ RW E g R9 ∧ Fr RfK f0 g, fun _ _ => False)) 11 [(0, .ref (gAd E (56))), (1, .int (x1))] [] f := by
  intro n
  induction n with
  | zero =>
    intro R x1 R9 hr f w hf
    cases hr
  | succ n ih =>
    intro R x1 R9 hr f w hf
    obtain ⟨az, sy, r0⟩ := w
    unfold e_backOut_11 at hr
    refine G.go tv_X12_backOut 2 15 [(0, .ref (gAd E (56))), (1, .int (x1))] [.int ((1024 : Int32)), .int (x1)] rfl ?_
    refine G.cmp_ge 50 (tbd tv_X12_backOut rfl) (by decide) (fun c15 => ?_) (fun c15 => ?_)
    · replace hr := ite_t c15 hr
      refine G.go tv_X12_backOut 2 52 [(0, .ref (gAd E (56))), (1, .int ((0 : Int32)))] [] rfl ?_
      refine G.less [(0, .ref (gAd E (56))), (1, .int ((0 : Int32)))] [0, 1] rfl ?_
      exact l_X12_backOut_52 E f0 sz QA hE _ _ _ _ hr _ ⟨_, _, r0⟩ hf
    · replace hr := ite_f c15 hr
      refine G.go tv_X12_backOut 1 19 [(0, .ref (gAd E (56))), (1, .int (x1))] [.ref (gAd E (56))] rfl ?_
      refine G.rg r0 hE 35 (.ref (gAd E (72))) (by decide) rfl (tbd tv_X12_backOut rfl) w_2100 ?_
      refine G.go tv_X12_backOut 2 24 [(0, .ref (gAd E (56))), (1, .int (x1))] [.ref (gAd E (56)), .int (x1), .ref (gAd E (72))] rfl ?_
      refine G.rg r0 hE 35 (.ref (gAd E (72))) (by decide) rfl (tbd tv_X12_backOut rfl) w_2100 ?_
      refine G.go tv_X12_backOut 1 28 [(0, .ref (gAd E (56))), (1, .int (x1))] [.int (x1), .ref (gAd E (72)), .int (x1), .ref (gAd E (72))] rfl ?_
      obtain ⟨v191, b191, e191, hr⟩ := ld_s hr
      refine G.baldE (72) (by omega) (r0.a35) b191 e191 (tbd tv_X12_backOut rfl) ?_
      refine G.go tv_X12_backOut 1 30 [(0, .ref (gAd E (56))), (1, .int (x1))] [.int ((2 : Int32)), .int (v191), .int (x1), .ref (gAd E (72))] rfl ?_
      refine G.cmp_ne 37 (tbd tv_X12_backOut rfl) (by decide) (fun c30 => ?_) (fun c30 => ?_)
      · replace hr := ite_f c30 hr
        refine G.go tv_X12_backOut 1 38 [(0, .ref (gAd E (56))), (1, .int (x1))] [.ref (gAd E (56)), .int (x1), .ref (gAd E (72))] rfl ?_
        refine G.rg r0 hE 35 (.ref (gAd E (72))) (by decide) rfl (tbd tv_X12_backOut rfl) w_2100 ?_
        refine G.go tv_X12_backOut 1 42 [(0, .ref (gAd E (56))), (1, .int (x1))] [.int (x1), .ref (gAd E (72)), .int (x1), .ref (gAd E (72))] rfl ?_
        obtain ⟨v192, b192, e192, hr⟩ := ld_s hr
        refine G.baldE (72) (by omega) (r0.a35) b192 e192 (tbd tv_X12_backOut rfl) ?_
        obtain ⟨R193, b193, eR193, hr⟩ := stR_s hr
        refine G.bast (72) (by omega) (r0.a35) b193 (tbd tv_X12_backOut rfl) ?_
        refine G.gen (P := fun w9 => RfV E w9 (setSr (setS R193 42 az) sy) ∧ Fr RfK f0 w9) ⟨by rw [eR193]; exact r0.p35 _, Fr.up hf ⟨by decide, by decide⟩⟩ (fun u193 p193 => ?_)
        obtain ⟨r193, h193⟩ := p193
        refine G.go tv_X12_backOut 2 11 [(0, .ref (gAd E (56))), (1, .int (x1 + (1 : Int32)))] [] rfl ?_
        refine G.less [(0, .ref (gAd E (56))), (1, .int (x1 + (1 : Int32)))] [0, 1] rfl ?_
        exact ih _ _ _ hr _ ⟨_, _, r193⟩ h193
      · replace hr := ite_t c30 hr
        refine G.go tv_X12_backOut 2 43 [(0, .ref (gAd E (56))), (1, .int (x1))] [.int ((0 : Int32)), .int (x1), .ref (gAd E (72))] rfl ?_
        obtain ⟨R194, b194, eR194, hr⟩ := stR_s hr
        refine G.bast (72) (by omega) (r0.a35) b194 (tbd tv_X12_backOut rfl) ?_
        refine G.gen (P := fun w9 => RfV E w9 (setSr (setS R194 42 az) sy) ∧ Fr RfK f0 w9) ⟨by rw [eR194]; exact r0.p35 _, Fr.up hf ⟨by decide, by decide⟩⟩ (fun u194 p194 => ?_)
        obtain ⟨r194, h194⟩ := p194
        refine G.go tv_X12_backOut 2 11 [(0, .ref (gAd E (56))), (1, .int (x1 + (1 : Int32)))] [] rfl ?_
        refine G.less [(0, .ref (gAd E (56))), (1, .int (x1 + (1 : Int32)))] [0, 1] rfl ?_
        exact ih _ _ _ hr _ ⟨_, _, r194⟩ h194
set_option maxRecDepth 100000 in
set_option maxHeartbeats 4000000 in
theorem k_X12_backOut (E : gE) (f : Nat → va_E) (hE : 94 ≤ gN E) (R : RfT) (w : RW E f R) (R9 : RfT) (hr : e_backOut R = some R9) : Ct E 12 yX12_backOut cX12_backOut 2 none [.ref (gAd E (56))] f (fun v g => v = none ∧ RW E g R9 ∧ Fr RfK f g, fun _ _ => False) := by
  obtain ⟨az, sy, r0⟩ := w
  refine Ct.of (by decide) (Nat.le_of_ble_eq_true rfl) (fun sz => ?_)
  refine G.eql [(0, .ref (gAd E (56)))] rfl ?_
  unfold e_backOut at hr
  refine G.go tv_X12_backOut 1 1 [(0, .ref (gAd E (56)))] [.ref (gAd E (56))] rfl ?_
  obtain ⟨R189, hv189, hr⟩ := bnd_s hr
  refine G.callV (56) [] [] (k_X12_noWorks E _ hE R ⟨_, _, r0⟩ R189 hv189) cls_X12 (by omega) (r0.o) cw_X12_168 w_2300 w_61 (Nat.le_of_ble_eq_true rfl) rfl (Nat.le_of_ble_eq_true rfl) (tbd tv_X12_backOut rfl) (fun v189w f189 q189 => ?_) (fun _ _ h => h.elim)
  obtain ⟨rfl, ⟨az189, sy189, r189⟩, fa189⟩ := q189
  refine G.eqs [] rfl ?_
  refine G.go tv_X12_backOut 2 6 [(0, .ref (gAd E (56)))] [.int ((0 : Int32)), .ref (gAd E (56))] rfl ?_
  obtain ⟨R190, eR190, hr⟩ := ptR_s hr
  refine G.rpW r189 hE 34 eR190 (by decide) rfl (by decide) rfl rfl rfl (tbd tv_X12_backOut rfl) w_2099 (fun u190 r190 h190 => ?_)
  refine G.go tv_X12_backOut 2 11 [(0, .ref (gAd E (56))), (1, .int ((0 : Int32)))] [] rfl ?_
  refine G.less [(0, .ref (gAd E (56))), (1, .int ((0 : Int32)))] [0, 1] rfl ?_
  exact l_X12_backOut_11 E f sz _ hE _ _ _ _ hr _ ⟨_, _, r190⟩ ((Fr.rf.tr fa189 (fun _ h => h)).tr h190 (fun _ h => h))
def tb_X12_nothingHeld : List (Nat × Instr × Nat) := [(0, .iconst 0, 1), (1, .istore_n 1, 1), (2, .iload_n 1, 1), (3, .bipush 65, 2), (5, .if_icmp .ge 16, 3), (8, .aload_n 0, 1), (9, .getfield 110, 3), (12, .iload_n 1, 1), (13, .iconst 0, 1), (14, .iastore, 1), (15, .iinc 1 1, 3), (18, .goto (-16), 3), (21, .iconst 0, 1), (22, .istore_n 1, 1), (23, .iload_n 1, 1), (24, .bipush 32, 2), (26, .if_icmp .ge 16, 3), (29, .aload_n 0, 1), (30, .getfield 113, 3), (33, .iload_n 1, 1), (34, .iconst 0, 1), (35, .iastore, 1), (36, .iinc 1 1, 3), (39, .goto (-16), 3), (42, .return_, 1)]
theorem tv_X12_nothingHeld : Tv cX12_nothingHeld tb_X12_nothingHeld := by
  unfold Tv
  decide +kernel
def e_nothingHeld_23  : Nat → RfT → Int32 → Option (RfT)
  | 0, _, _ => none
  | n + 1, R, x1 => if ((32 : Int32)) ≤ x1 then some R else stR R 53 32 x1 ((0 : Int32)) (fun R206 => e_nothingHeld_23  n R206 (x1 + (1 : Int32)))
def e_nothingHeld_2  : Nat → RfT → Int32 → Option (RfT)
  | 0, _, _ => none
  | n + 1, R, x1 => if ((65 : Int32)) ≤ x1 then e_nothingHeld_23  fuL R ((0 : Int32)) else stR R 52 65 x1 ((0 : Int32)) (fun R205 => e_nothingHeld_2  n R205 (x1 + (1 : Int32)))
def e_nothingHeld  (R : RfT) : Option (RfT) := e_nothingHeld_2  fuL R ((0 : Int32))
set_option maxRecDepth 100000 in
set_option maxHeartbeats 4000000 in
theorem l_X12_nothingHeld_23 (E : gE) (f0 : Nat → va_E) (sz : Nat) (QA : Nat → Prop) (hE : 94 ≤ gN E) : ∀ (n : Nat), ∀ (R : RfT) (x1 : Int32) (R9 : RfT) (hr : e_nothingHeld_23  n R x1 = some R9) (f : Nat → va_E) (w : RW E f R) (hf : Fr RfK f0 f), G E (1, yX12_nothingHeld, 2, none, sz, QA) cX12_nothingHeld (gO E (1, yX12_nothingHeld, 2, none, sz, QA) (fun v g => v = none ∧ RW E g R9 ∧ Fr RfK f0 g, fun _ _ => False)) 23 [(0, .ref (gAd E (56))), (1, .int (x1))] [] f := by
  intro n
  induction n with
  | zero =>
    intro R x1 R9 hr f w hf
    cases hr
  | succ n ih =>
    intro R x1 R9 hr f w hf
    obtain ⟨az, sy, r0⟩ := w
    unfold e_nothingHeld_23 at hr
    refine G.go tv_X12_nothingHeld 2 26 [(0, .ref (gAd E (56))), (1, .int (x1))] [.int ((32 : Int32)), .int (x1)] rfl ?_
    refine G.cmp_ge 42 (tbd tv_X12_nothingHeld rfl) (by decide) (fun c26 => ?_) (fun c26 => ?_)
    · replace hr := ite_t c26 hr
      cases hr
      exact G.vret rfl ⟨rfl, ⟨_, _, r0⟩, hf⟩ (tbd tv_X12_nothingHeld rfl)
    · replace hr := ite_f c26 hr
      refine G.go tv_X12_nothingHeld 1 30 [(0, .ref (gAd E (56))), (1, .int (x1))] [.ref (gAd E (56))] rfl ?_
      refine G.rg r0 hE 53 (.ref (gAd E (87))) (by decide) rfl (tbd tv_X12_nothingHeld rfl) w_2118 ?_
      refine G.go tv_X12_nothingHeld 2 35 [(0, .ref (gAd E (56))), (1, .int (x1))] [.int ((0 : Int32)), .int (x1), .ref (gAd E (87))] rfl ?_
      obtain ⟨R206, b206, eR206, hr⟩ := stR_s hr
      refine G.iast (87) (by omega) (r0.a53) b206 (tbd tv_X12_nothingHeld rfl) ?_
      refine G.gen (P := fun w9 => RfV E w9 (setSr (setS R206 42 az) sy) ∧ Fr RfK f0 w9) ⟨by rw [eR206]; exact r0.p53 _, Fr.up hf ⟨by decide, by decide⟩⟩ (fun u206 p206 => ?_)
      obtain ⟨r206, h206⟩ := p206
      refine G.go tv_X12_nothingHeld 2 23 [(0, .ref (gAd E (56))), (1, .int (x1 + (1 : Int32)))] [] rfl ?_
      refine G.less [(0, .ref (gAd E (56))), (1, .int (x1 + (1 : Int32)))] [0, 1] rfl ?_
      exact ih _ _ _ hr _ ⟨_, _, r206⟩ h206
set_option maxRecDepth 100000 in
set_option maxHeartbeats 4000000 in
theorem l_X12_nothingHeld_2 (E : gE) (f0 : Nat → va_E) (sz : Nat) (QA : Nat → Prop) (hE : 94 ≤ gN E) : ∀ (n : Nat), ∀ (R : RfT) (x1 : Int32) (R9 : RfT) (hr : e_nothingHeld_2  n R x1 = some R9) (f : Nat → va_E) (w : RW E f R) (hf : Fr RfK f0 f), G E (1, yX12_nothingHeld, 2, none, sz, QA) cX12_nothingHeld (gO E (1, yX12_nothingHeld, 2, none, sz, QA) (fun v g => v = none ∧ RW E g R9 ∧ Fr RfK f0 g, fun _ _ => False)) 2 [(0, .ref (gAd E (56))), (1, .int (x1))] [] f := by
  intro n
  induction n with
  | zero =>
    intro R x1 R9 hr f w hf
    cases hr
  | succ n ih =>
    intro R x1 R9 hr f w hf
    obtain ⟨az, sy, r0⟩ := w
    unfold e_nothingHeld_2 at hr
    refine G.go tv_X12_nothingHeld 2 5 [(0, .ref (gAd E (56))), (1, .int (x1))] [.int ((65 : Int32)), .int (x1)] rfl ?_
    refine G.cmp_ge 21 (tbd tv_X12_nothingHeld rfl) (by decide) (fun c5 => ?_) (fun c5 => ?_)
    · replace hr := ite_t c5 hr
      refine G.go tv_X12_nothingHeld 2 23 [(0, .ref (gAd E (56))), (1, .int ((0 : Int32)))] [] rfl ?_
      refine G.less [(0, .ref (gAd E (56))), (1, .int ((0 : Int32)))] [0, 1] rfl ?_
      exact l_X12_nothingHeld_23 E f0 sz QA hE _ _ _ _ hr _ ⟨_, _, r0⟩ hf
    · replace hr := ite_f c5 hr
      refine G.go tv_X12_nothingHeld 1 9 [(0, .ref (gAd E (56))), (1, .int (x1))] [.ref (gAd E (56))] rfl ?_
      refine G.rg r0 hE 52 (.ref (gAd E (86))) (by decide) rfl (tbd tv_X12_nothingHeld rfl) w_2117 ?_
      refine G.go tv_X12_nothingHeld 2 14 [(0, .ref (gAd E (56))), (1, .int (x1))] [.int ((0 : Int32)), .int (x1), .ref (gAd E (86))] rfl ?_
      obtain ⟨R205, b205, eR205, hr⟩ := stR_s hr
      refine G.iast (86) (by omega) (r0.a52) b205 (tbd tv_X12_nothingHeld rfl) ?_
      refine G.gen (P := fun w9 => RfV E w9 (setSr (setS R205 42 az) sy) ∧ Fr RfK f0 w9) ⟨by rw [eR205]; exact r0.p52 _, Fr.up hf ⟨by decide, by decide⟩⟩ (fun u205 p205 => ?_)
      obtain ⟨r205, h205⟩ := p205
      refine G.go tv_X12_nothingHeld 2 2 [(0, .ref (gAd E (56))), (1, .int (x1 + (1 : Int32)))] [] rfl ?_
      refine G.less [(0, .ref (gAd E (56))), (1, .int (x1 + (1 : Int32)))] [0, 1] rfl ?_
      exact ih _ _ _ hr _ ⟨_, _, r205⟩ h205
set_option maxRecDepth 100000 in
set_option maxHeartbeats 4000000 in
theorem k_X12_nothingHeld (E : gE) (f : Nat → va_E) (hE : 94 ≤ gN E) (R : RfT) (w : RW E f R) (R9 : RfT) (hr : e_nothingHeld R = some R9) : Ct E 1 yX12_nothingHeld cX12_nothingHeld 2 none [.ref (gAd E (56))] f (fun v g => v = none ∧ RW E g R9 ∧ Fr RfK f g, fun _ _ => False) := by
  obtain ⟨az, sy, r0⟩ := w
  refine Ct.of (by decide) (Nat.le_of_ble_eq_true rfl) (fun sz => ?_)
  refine G.eql [(0, .ref (gAd E (56)))] rfl ?_
  unfold e_nothingHeld at hr
  refine G.go tv_X12_nothingHeld 2 2 [(0, .ref (gAd E (56))), (1, .int ((0 : Int32)))] [] rfl ?_
  refine G.less [(0, .ref (gAd E (56))), (1, .int ((0 : Int32)))] [0, 1] rfl ?_
  exact l_X12_nothingHeld_2 E f sz _ hE _ _ _ _ hr _ ⟨_, _, r0⟩ Fr.rf
