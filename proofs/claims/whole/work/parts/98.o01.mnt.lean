def q_X11_needUnmounted (N B gr : Nat) (C : CfT) : Option (CfT) := if (cS C 2) = 0 then if (cS C 208) = 0 then none else some C else none
set_option maxRecDepth 100000 in
set_option maxHeartbeats 4000000 in
theorem kq_X11_needUnmounted (E : gE) (f : Nat → va_E) (N B gr : Nat) (C : CfT) (hz : CfZ E N B gr) (h : CfV E f N B gr C) (C9 : CfT) (hr : q_X11_needUnmounted N B gr C = some C9) : Ct E 1 yX11_needUnmounted cX11_needUnmounted 1 none [.ref (gAd E (0))] f (fun v g => v = none ∧ CfV E g N B gr C9 ∧ Fr CfK f g, fun _ _ => False) := by
  obtain ⟨z1, z2, z3, z4, z5, z6, z7⟩ := id hz
  refine Ct.of (by decide) (Nat.le_of_ble_eq_true rfl) (fun sz => ?_)
  refine G.eql [(0, .ref (gAd E (0)))] rfl ?_
  unfold q_X11_needUnmounted at hr
  refine G.go tv_X11_needUnmounted 1 1 [(0, .ref (gAd E (0)))] [.ref (gAd E (0))] rfl ?_
  refine G.getf cls_X11 (0) 2 (by omega) (h.q0) (by decide) rfl (tbd tv_X11_needUnmounted rfl) w_565 ?_
  refine G.if_ne 17 (tbd tv_X11_needUnmounted rfl) (by decide) (fun c4 => ?_) (fun c4 => ?_)
  · replace hr := ite_f c4 hr
    cases hr
  · replace hr := ite_t c4 hr
    refine G.go tv_X11_needUnmounted 1 8 [(0, .ref (gAd E (0)))] [.ref (gAd E (0))] rfl ?_
    refine G.getf cls_X11 (0) 3 (by omega) (h.q0) (by decide) rfl (tbd tv_X11_needUnmounted rfl) w_566 ?_
    refine G.getf cls_X2 (2) 8 (by omega) (h.q2) (by decide) rfl (tbd tv_X11_needUnmounted rfl) w_243 ?_
    refine G.if_ne 27 (tbd tv_X11_needUnmounted rfl) (by decide) (fun c14 => ?_) (fun c14 => ?_)
    · replace hr := ite_f c14 hr
      cases hr
      exact G.vret rfl ⟨rfl, h, Fr.rf⟩ (tbd tv_X11_needUnmounted rfl)
    · replace hr := ite_t c14 hr
      cases hr
def q_X2_setTwo (N B gr : Nat) (C : CfT) (a1 : Int32) (a2 : Int32) : Option (CfT) := if a1 < 0 then some C else if (nI (128)) ≤ ((a1) + ((1 : Int32))) then some C else stA C 31 128 a1 (vp_nar .byte ((a2 : Int32).toInt8.toInt32)) (fun C1 => stA C1 31 128 ((a1) + ((1 : Int32))) (vp_nar .byte (((a2) >>> (((8 : Int32)) &&& 31) : Int32).toInt8.toInt32)) (fun C2 => some C2))
set_option maxRecDepth 100000 in
set_option maxHeartbeats 4000000 in
theorem kq_X2_setTwo (E : gE) (f : Nat → va_E) (N B gr : Nat) (C : CfT) (hz : CfZ E N B gr) (h : CfV E f N B gr C) (a1 : Int32) (a2 : Int32) (C9 : CfT) (hr : q_X2_setTwo N B gr C a1 a2 = some C9) : Ct E 1 yX2_setTwo cX2_setTwo 3 none [.ref (gAd E (31)), .int (a1), .int (a2)] f (fun v g => v = none ∧ CfV E g N B gr C9 ∧ Fr CfK f g, fun _ _ => False) := by
  obtain ⟨z1, z2, z3, z4, z5, z6, z7⟩ := id hz
  refine Ct.of (by decide) (Nat.le_of_ble_eq_true rfl) (fun sz => ?_)
  refine G.eql [(0, .ref (gAd E (31))), (1, .int (a1)), (2, .int (a2))] rfl ?_
  unfold q_X2_setTwo at hr
  refine G.go tv_X2_setTwo 1 1 [(0, .ref (gAd E (31))), (1, .int (a1)), (2, .int (a2))] [.int (a1)] rfl ?_
  refine G.if_lt 27 (tbd tv_X2_setTwo rfl) (by decide) (fun c1 => ?_) (fun c1 => ?_)
  · replace hr := ite_t c1 hr
    cases hr
    exact G.vret rfl ⟨rfl, h, Fr.rf⟩ (tbd tv_X2_setTwo rfl)
  · replace hr := ite_f c1 hr
    refine G.go tv_X2_setTwo 4 8 [(0, .ref (gAd E (31))), (1, .int (a1)), (2, .int (a2))] [.ref (gAd E (31)), .int ((a1) + ((1 : Int32)))] rfl ?_
    refine G.alen (31) 0 (by omega) (h.q31) rfl rfl (tbd tv_X2_setTwo rfl) ?_
    refine G.eqs [.int (nI (128)), .int ((a1) + ((1 : Int32)))] rfl ?_
    refine G.cmp_ge 27 (tbd tv_X2_setTwo rfl) (by decide) (fun c9 => ?_) (fun c9 => ?_)
    · replace hr := ite_t c9 hr
      cases hr
      exact G.vret rfl ⟨rfl, h, Fr.rf⟩ (tbd tv_X2_setTwo rfl)
    · replace hr := ite_f c9 hr
      refine G.go tv_X2_setTwo 4 16 [(0, .ref (gAd E (31))), (1, .int (a1)), (2, .int (a2))] [.int ((a2 : Int32).toInt8.toInt32), .int (a1), .ref (gAd E (31))] rfl ?_
      obtain ⟨C1, b1, eC1, hr⟩ := stA_s hr
      refine G.bast (31) (by omega) (h.q31) b1 (tbd tv_X2_setTwo rfl) ?_
      refine G.gen (P := fun w9 => CfV E w9 N B gr C1 ∧ Fr CfK f w9) ⟨by rw [eC1]; exact h.p31 _, Fr.c Fr.rf (by first | exact Or.inl (by decide) | exact Or.inr (by omega) | exact Or.inr (rk_ge _ _))⟩ (fun u1 p1 => ?_)
      obtain ⟨h1, k1⟩ := p1
      refine G.go tv_X2_setTwo 8 26 [(0, .ref (gAd E (31))), (1, .int (a1)), (2, .int (a2))] [.int (((a2) >>> (((8 : Int32)) &&& 31) : Int32).toInt8.toInt32), .int ((a1) + ((1 : Int32))), .ref (gAd E (31))] rfl ?_
      obtain ⟨C2, b2, eC2, hr⟩ := stA_s hr
      refine G.bast (31) (by omega) (h1.q31) b2 (tbd tv_X2_setTwo rfl) ?_
      refine G.gen (P := fun w9 => CfV E w9 N B gr C2 ∧ Fr CfK f w9) ⟨by rw [eC2]; exact h1.p31 _, Fr.c k1 (by first | exact Or.inl (by decide) | exact Or.inr (by omega) | exact Or.inr (rk_ge _ _))⟩ (fun u2 p2 => ?_)
      obtain ⟨h2, k2⟩ := p2
      cases hr
      exact G.vret rfl ⟨rfl, h2, k2⟩ (tbd tv_X2_setTwo rfl)
def q_X2_setFour (N B gr : Nat) (C : CfT) (a1 : Int32) (a2 : Int32) : Option (CfT) := bnd (q_X2_setTwo N B gr C a1 a2) (fun C3 => bnd (q_X2_setTwo N B gr C3 ((a1) + ((2 : Int32))) ((a2) >>> (((16 : Int32)) &&& 31))) (fun C4 => some C4))
set_option maxRecDepth 100000 in
set_option maxHeartbeats 4000000 in
theorem kq_X2_setFour (E : gE) (f : Nat → va_E) (N B gr : Nat) (C : CfT) (hz : CfZ E N B gr) (h : CfV E f N B gr C) (a1 : Int32) (a2 : Int32) (C9 : CfT) (hr : q_X2_setFour N B gr C a1 a2 = some C9) : Ct E 2 yX2_setFour cX2_setFour 3 none [.ref (gAd E (31)), .int (a1), .int (a2)] f (fun v g => v = none ∧ CfV E g N B gr C9 ∧ Fr CfK f g, fun _ _ => False) := by
  obtain ⟨z1, z2, z3, z4, z5, z6, z7⟩ := id hz
  refine Ct.of (by decide) (Nat.le_of_ble_eq_true rfl) (fun sz => ?_)
  refine G.eql [(0, .ref (gAd E (31))), (1, .int (a1)), (2, .int (a2))] rfl ?_
  unfold q_X2_setFour at hr
  refine G.go tv_X2_setFour 3 3 [(0, .ref (gAd E (31))), (1, .int (a1)), (2, .int (a2))] [.int (a2), .int (a1), .ref (gAd E (31))] rfl ?_
  obtain ⟨C3, hv3, hr⟩ := bnd_s hr
  refine G.callS [.ref (gAd E (31)), .int (a1), .int (a2)] [] (kq_X2_setTwo E _ N B gr C hz h a1 a2 _ hv3) cw_X2_50 w_787 (Nat.le_of_ble_eq_true rfl) rfl (Nat.le_of_ble_eq_true rfl) (tbd tv_X2_setFour rfl) (fun v3w f3 q3 => ?_) (fun _ _ h => h.elim)
  obtain ⟨rfl, ha3, fa3⟩ := q3
  refine G.eqs [] rfl ?_
  refine G.go tv_X2_setFour 7 14 [(0, .ref (gAd E (31))), (1, .int (a1)), (2, .int (a2))] [.int ((a2) >>> (((16 : Int32)) &&& 31)), .int ((a1) + ((2 : Int32))), .ref (gAd E (31))] rfl ?_
  obtain ⟨C4, hv4, hr⟩ := bnd_s hr
  refine G.callS [.ref (gAd E (31)), .int ((a1) + ((2 : Int32))), .int ((a2) >>> (((16 : Int32)) &&& 31))] [] (kq_X2_setTwo E _ N B gr C3 hz ha3 ((a1) + ((2 : Int32))) ((a2) >>> (((16 : Int32)) &&& 31)) _ hv4) cw_X2_50 w_787 (Nat.le_of_ble_eq_true rfl) rfl (Nat.le_of_ble_eq_true rfl) (tbd tv_X2_setFour rfl) (fun v4w f4 q4 => ?_) (fun _ _ h => h.elim)
  obtain ⟨rfl, ha4, fa4⟩ := q4
  refine G.eqs [] rfl ?_
  cases hr
  exact G.vret rfl ⟨rfl, ha4, ((Fr.rf.tr fa3 (fun _ h => h)).tr fa4 (fun _ h => h))⟩ (tbd tv_X2_setFour rfl)
def q_X11_headRow (N B gr : Nat) (C : CfT) : Option (CfT) := flD C 31 128 (vp_nar .byte ((0 : Int32))) (fun C5 => bnd (q_X2_setFour N B gr C5 ((0 : Int32)) ((1414874188 : Int32))) (fun C6 => bnd (q_X2_setTwo N B gr C6 ((4 : Int32)) (nI N)) (fun C7 => stA C7 31 128 ((6 : Int32)) (vp_nar .byte ((40 : Int32))) (fun C8 => stA C8 31 128 ((7 : Int32)) (vp_nar .byte ((64 : Int32))) (fun C9 => some C9)))))
set_option maxRecDepth 100000 in
set_option maxHeartbeats 4000000 in
theorem kq_X11_headRow (E : gE) (f : Nat → va_E) (N B gr : Nat) (C : CfT) (hz : CfZ E N B gr) (h : CfV E f N B gr C) (C9 : CfT) (hr : q_X11_headRow N B gr C = some C9) : Ct E 3 yX11_headRow cX11_headRow 2 none [.ref (gAd E (0)), .ref (gAd E (31))] f (fun v g => v = none ∧ CfV E g N B gr C9 ∧ Fr CfK f g, fun _ _ => False) := by
  obtain ⟨z1, z2, z3, z4, z5, z6, z7⟩ := id hz
  refine Ct.of (by decide) (Nat.le_of_ble_eq_true rfl) (fun sz => ?_)
  refine G.eql [(0, .ref (gAd E (0))), (1, .ref (gAd E (31)))] rfl ?_
  unfold q_X11_headRow at hr
  refine G.go tv_X11_headRow 2 2 [(0, .ref (gAd E (0))), (1, .ref (gAd E (31)))] [.int ((0 : Int32)), .ref (gAd E (31))] rfl ?_
  obtain ⟨C5, eC5, hr⟩ := flD_s hr
  refine G.callS [.ref (gAd E (31)), .int ((0 : Int32))] [] (c_J7_fill_031fb E _ 31 128 _ ((0 : Int32)) (by omega) (h.q31) (by omega)) cw_X11_162 w_715 (Nat.le_of_ble_eq_true rfl) rfl (Nat.le_of_ble_eq_true rfl) (tbd tv_X11_headRow rfl) (fun v5w f5 q5 => ?_) (fun _ _ h => h.elim)
  obtain ⟨rfl, rfl⟩ := q5
  refine G.eqs [] rfl ?_
  refine G.gen (P := fun w9 => CfV E w9 N B gr C5 ∧ Fr CfK f w9) ⟨by rw [eC5]; exact h.p31 _, Fr.c Fr.rf (by first | exact Or.inl (by decide) | exact Or.inr (by omega) | exact Or.inr (rk_ge _ _))⟩ (fun u5 p5 => ?_)
  obtain ⟨h5, k5⟩ := p5
  refine G.go tv_X11_headRow 2 7 [(0, .ref (gAd E (0))), (1, .ref (gAd E (31)))] [.int ((0 : Int32)), .ref (gAd E (31))] rfl ?_
  refine G.ldc (1414874188) (tbd tv_X11_headRow rfl) w_813 ?_
  obtain ⟨C6, hv6, hr⟩ := bnd_s hr
  refine G.callS [.ref (gAd E (31)), .int ((0 : Int32)), .int ((1414874188 : Int32))] [] (kq_X2_setFour E _ N B gr C5 hz h5 ((0 : Int32)) ((1414874188 : Int32)) _ hv6) cw_X11_186 w_790 (Nat.le_of_ble_eq_true rfl) rfl (Nat.le_of_ble_eq_true rfl) (tbd tv_X11_headRow rfl) (fun v6w f6 q6 => ?_) (fun _ _ h => h.elim)
  obtain ⟨rfl, ha6, fa6⟩ := q6
  refine G.eqs [] rfl ?_
  refine G.go tv_X11_headRow 3 15 [(0, .ref (gAd E (0))), (1, .ref (gAd E (31)))] [.ref (gAd E (0)), .int ((4 : Int32)), .ref (gAd E (31))] rfl ?_
  refine G.getf cls_X11 (0) 3 (by omega) (ha6.q0) (by decide) rfl (tbd tv_X11_headRow rfl) w_566 ?_
  refine G.getf cls_X2 (2) 0 (by omega) (ha6.q2) (by decide) rfl (tbd tv_X11_headRow rfl) w_229 ?_
  obtain ⟨C7, hv7, hr⟩ := bnd_s hr
  refine G.callS [.ref (gAd E (31)), .int ((4 : Int32)), .int (nI N)] [] (kq_X2_setTwo E _ N B gr C6 hz ha6 ((4 : Int32)) (nI N) _ hv7) cw_X11_190 w_787 (Nat.le_of_ble_eq_true rfl) rfl (Nat.le_of_ble_eq_true rfl) (tbd tv_X11_headRow rfl) (fun v7w f7 q7 => ?_) (fun _ _ h => h.elim)
  obtain ⟨rfl, ha7, fa7⟩ := q7
  refine G.eqs [] rfl ?_
  refine G.go tv_X11_headRow 3 29 [(0, .ref (gAd E (0))), (1, .ref (gAd E (31)))] [.int ((40 : Int32)), .int ((6 : Int32)), .ref (gAd E (31))] rfl ?_
  obtain ⟨C8, b8, eC8, hr⟩ := stA_s hr
  refine G.bast (31) (by omega) (ha7.q31) b8 (tbd tv_X11_headRow rfl) ?_
  refine G.gen (P := fun w9 => CfV E w9 N B gr C8 ∧ Fr CfK f w9) ⟨by rw [eC8]; exact ha7.p31 _, Fr.c ((k5.tr fa6 (fun _ h => h)).tr fa7 (fun _ h => h)) (by first | exact Or.inl (by decide) | exact Or.inr (by omega) | exact Or.inr (rk_ge _ _))⟩ (fun u8 p8 => ?_)
  obtain ⟨h8, k8⟩ := p8
  refine G.go tv_X11_headRow 3 35 [(0, .ref (gAd E (0))), (1, .ref (gAd E (31)))] [.int ((64 : Int32)), .int ((7 : Int32)), .ref (gAd E (31))] rfl ?_
  obtain ⟨C9, b9, eC9, hr⟩ := stA_s hr
  refine G.bast (31) (by omega) (h8.q31) b9 (tbd tv_X11_headRow rfl) ?_
  refine G.gen (P := fun w9 => CfV E w9 N B gr C9 ∧ Fr CfK f w9) ⟨by rw [eC9]; exact h8.p31 _, Fr.c k8 (by first | exact Or.inl (by decide) | exact Or.inr (by omega) | exact Or.inr (rk_ge _ _))⟩ (fun u9 p9 => ?_)
  obtain ⟨h9, k9⟩ := p9
  cases hr
  exact G.vret rfl ⟨rfl, h9, k9⟩ (tbd tv_X11_headRow rfl)
def q_X2_same_2 (N B gr : Nat) (C : CfT) : Nat → Nat → Nat → Int32 → Option (Int32)
  | 0, _, _, _ => none
  | n + 1, m1, j1, x2 => if ((128 : Int32)) ≤ x2 then some ((1 : Int32)) else ld (cA C 31) 128 x2 (fun v10 => ld (cR C m1 j1) 128 x2 (fun v11 => if v10 = v11 then q_X2_same_2 N B gr C n m1 j1 (x2 + (1 : Int32)) else some ((0 : Int32))))
def q_X2_same (N B gr : Nat) (C : CfT) (m1 j1 : Nat) : Option (Int32) := q_X2_same_2 N B gr C fuL m1 j1 ((0 : Int32))
set_option maxRecDepth 100000 in
set_option maxHeartbeats 4000000 in
theorem lq_X2_same_2 (E : gE) (f0 : Nat → va_E) (sz : Nat) (QA : Nat → Prop) (N B gr : Nat) (hz : CfZ E N B gr) (C : CfT) : ∀ (n : Nat), ∀ (m1 : Nat) (j1 : Nat) (x2 : Int32) (r : Int32) (hr : q_X2_same_2 N B gr C n m1 j1 x2 = some r) (f : Nat → va_E) (h : CfV E f N B gr C) (hf : Fr CfK f0 f) (hm1_ : m1 < 5 ∧ j1 < rcn N B gr m1), G E (1, yX2_same, 3, (some .boolean), sz, QA) cX2_same (gO E (1, yX2_same, 3, (some .boolean), sz, QA) (fun v g => v = some (.int r) ∧ CfV E g N B gr C ∧ Fr CfK f0 g, fun _ _ => False)) 2 [(0, .ref (gAd E (31))), (1, .ref (gAd E (rba N B m1 + j1))), (2, .int (x2))] [] f := by
  obtain ⟨z1, z2, z3, z4, z5, z6, z7⟩ := id hz
  intro n
  induction n with
  | zero =>
    intro m1 j1 x2 r hr f h hf hm1_
    cases hr
  | succ n ih =>
    intro m1 j1 x2 r hr f h hf hm1_
    unfold q_X2_same_2 at hr
    refine G.go tv_X2_same 2 6 [(0, .ref (gAd E (31))), (1, .ref (gAd E (rba N B m1 + j1))), (2, .int (x2))] [.int ((128 : Int32)), .int (x2)] rfl ?_
    refine G.cmp_ge 26 (tbd tv_X2_same rfl) (by decide) (fun c6 => ?_) (fun c6 => ?_)
    · replace hr := ite_t c6 hr
      refine G.go tv_X2_same 1 27 [(0, .ref (gAd E (31))), (1, .ref (gAd E (rba N B m1 + j1))), (2, .int (x2))] [.int ((1 : Int32))] rfl ?_
      cases hr
      exact G.iret rfl rfl ⟨rfl, h, hf⟩ (tbd tv_X2_same rfl)
    · replace hr := ite_f c6 hr
      refine G.go tv_X2_same 2 11 [(0, .ref (gAd E (31))), (1, .ref (gAd E (rba N B m1 + j1))), (2, .int (x2))] [.int (x2), .ref (gAd E (31))] rfl ?_
      obtain ⟨v10, b10, e10, hr⟩ := ld_s hr
      refine G.baldE (31) (by omega) (h.q31) b10 e10 (tbd tv_X2_same rfl) ?_
      refine G.go tv_X2_same 2 14 [(0, .ref (gAd E (31))), (1, .ref (gAd E (rba N B m1 + j1))), (2, .int (x2))] [.int (x2), .ref (gAd E (rba N B m1 + j1)), .int (v10)] rfl ?_
      obtain ⟨v11, b11, e11, hr⟩ := ld_s hr
      refine G.baldE (rba N B m1 + j1) (rk_lt hz hm1_.1 hm1_.2) (h.rk hm1_.1 hm1_.2) b11 e11 (tbd tv_X2_same rfl) ?_
      refine G.cmp_eq 20 (tbd tv_X2_same rfl) (by decide) (fun c15 => ?_) (fun c15 => ?_)
      · replace hr := ite_t c15 hr
        refine G.go tv_X2_same 2 2 [(0, .ref (gAd E (31))), (1, .ref (gAd E (rba N B m1 + j1))), (2, .int (x2 + (1 : Int32)))] [] rfl ?_
        refine G.less [(0, .ref (gAd E (31))), (1, .ref (gAd E (rba N B m1 + j1))), (2, .int (x2 + (1 : Int32)))] [0, 1, 2] rfl ?_
        exact ih _ _ _ _ hr _ h hf hm1_
      · replace hr := ite_f c15 hr
        refine G.go tv_X2_same 1 19 [(0, .ref (gAd E (31))), (1, .ref (gAd E (rba N B m1 + j1))), (2, .int (x2))] [.int ((0 : Int32))] rfl ?_
        cases hr
        exact G.iret rfl rfl ⟨rfl, h, hf⟩ (tbd tv_X2_same rfl)
set_option maxRecDepth 100000 in
set_option maxHeartbeats 4000000 in
theorem kq_X2_same (E : gE) (f : Nat → va_E) (N B gr : Nat) (C : CfT) (hz : CfZ E N B gr) (h : CfV E f N B gr C) (m1 j1 : Nat) (hm1_ : m1 < 5 ∧ j1 < rcn N B gr m1) (r : Int32) (hr : q_X2_same N B gr C m1 j1 = some r) : Ct E 1 yX2_same cX2_same 3 (some .boolean) [.ref (gAd E (31)), .ref (gAd E (rba N B m1 + j1))] f (fun v g => v = some (.int r) ∧ CfV E g N B gr C ∧ Fr CfK f g, fun _ _ => False) := by
  obtain ⟨z1, z2, z3, z4, z5, z6, z7⟩ := id hz
  refine Ct.of (by decide) (Nat.le_of_ble_eq_true rfl) (fun sz => ?_)
  refine G.eql [(0, .ref (gAd E (31))), (1, .ref (gAd E (rba N B m1 + j1)))] rfl ?_
  unfold q_X2_same at hr
  refine G.go tv_X2_same 2 2 [(0, .ref (gAd E (31))), (1, .ref (gAd E (rba N B m1 + j1))), (2, .int ((0 : Int32)))] [] rfl ?_
  refine G.less [(0, .ref (gAd E (31))), (1, .ref (gAd E (rba N B m1 + j1))), (2, .int ((0 : Int32)))] [0, 1, 2] rfl ?_
  exact lq_X2_same_2 E f sz _ N B gr hz C _ _ _ _ _ hr _ h Fr.rf hm1_
theorem w_1899 : Cond.methodLink "LedgerFiles" 475 yX0_forget ∈ TB := tp_8 73 (by decide +kernel) rfl
theorem w_1902 : Cond.code yX0_forget prog_2_method_8_code 1 none ∈ TB := tp_8 76 rfl rfl
theorem cw_X11_475 : Cw RX11 475 yX0_forget cX0_forget 1 none 0 := ⟨w_1899, w_1902, w_152, by decide +kernel, by decide +kernel, by decide⟩
theorem w_1900 : Cond.instanceMethod yX0_forget ∈ TB := tp_8 74 (by decide +kernel) rfl
theorem w_1901 : Cond.selects "LedgerFiles$Buffer" yX0_forget yX0_forget ∈ TB := tp_8 75 (by decide +kernel) rfl
theorem w_1903 : Cond.methodLink "LedgerFiles" 478 yX2_wake ∈ TB := tp_8 77 (by decide +kernel) rfl
theorem w_1906 : Cond.code yX2_wake prog_4_method_13_code 5 (some .int) ∈ TB := tp_8 80 rfl rfl
theorem cw_X11_478 : Cw RX11 478 yX2_wake cX2_wake 5 (some .int) 1 := ⟨w_1903, w_1906, w_149, by decide +kernel, by decide +kernel, by decide⟩
theorem w_1904 : Cond.instanceMethod yX2_wake ∈ TB := tp_8 78 (by decide +kernel) rfl
theorem w_1905 : Cond.selects "LedgerFiles$Disk" yX2_wake yX2_wake ∈ TB := tp_8 79 (by decide +kernel) rfl
noncomputable def q_X11_restart (N B gr : Nat) (C : CfT) (a0 : Int64) : Option (Int32 × CfT) := if (cS C 208) = 0 then ptS C 2 ((0 : Int32)) (fun C12 => bnd (q_X0_forget N B gr C12) (fun C13 => bnd2 (q_X2_wake N B gr C13 a0) (fun v14 C14 => some (v14, C14)))) else none
set_option maxRecDepth 100000 in
set_option maxHeartbeats 4000000 in
theorem kq_X11_restart (E : gE) (f : Nat → va_E) (N B gr : Nat) (C : CfT) (hz : CfZ E N B gr) (h : CfV E f N B gr C) (a0 : Int64) (r : Int32) (C9 : CfT) (hr : q_X11_restart N B gr C a0 = some (r, C9)) : Ct E 3 yX11_restart cX11_restart 3 (some .int) [.ref (gAd E (0)), .long (a0)] f (fun v g => v = some (.int r) ∧ CfV E g N B gr C9 ∧ Fr CfK f g, fun _ _ => False) := by
  obtain ⟨z1, z2, z3, z4, z5, z6, z7⟩ := id hz
  refine Ct.of (by decide) (Nat.le_of_ble_eq_true rfl) (fun sz => ?_)
  refine G.eql [(0, .ref (gAd E (0))), (1, .long (a0))] rfl ?_
  unfold q_X11_restart at hr
  refine G.go tv_X11_restart 1 1 [(0, .ref (gAd E (0))), (1, .long (a0))] [.ref (gAd E (0))] rfl ?_
  refine G.getf cls_X11 (0) 3 (by omega) (h.q0) (by decide) rfl (tbd tv_X11_restart rfl) w_566 ?_
  refine G.getf cls_X2 (2) 8 (by omega) (h.q2) (by decide) rfl (tbd tv_X11_restart rfl) w_243 ?_
  refine G.if_eq 21 (tbd tv_X11_restart rfl) (by decide) (fun c7 => ?_) (fun c7 => ?_)
  · replace hr := ite_t c7 hr
    refine G.go tv_X11_restart 2 23 [(0, .ref (gAd E (0))), (1, .long (a0))] [.int ((0 : Int32)), .ref (gAd E (0))] rfl ?_
    obtain ⟨C12, eC12, hr⟩ := ptS_s hr
    refine G.putfS cls_X11 (0) 2 [.ref (gAd E 1), .int (cS C 1), .int ((0 : Int32)), .ref (gAd E 2), .ref (gAd E 8), .ref (gAd E 13), .ref (gAd E 17), .ref (gAd E 25), .ref (gAd E 37), .ref (gAd E 32), .ref (gAd E 40), .ref (gAd E 41), .ref (gAd E 44), .ref (gAd E 47), .ref (gAd E 50), .ref (gAd E 53), .ref (gAd E 54), .ref (gAd E 55)] (by omega) (h.q0) rfl (by decide) rfl rfl rfl (Nat.le_of_ble_eq_true rfl) (tbd tv_X11_restart rfl) w_565 ?_
    refine G.gen (P := fun w9 => CfV E w9 N B gr C12 ∧ Fr CfK f w9) ⟨by rw [eC12]; exact h.s2 _, Fr.c Fr.rf (by first | exact Or.inl (by decide) | exact Or.inr (by omega) | exact Or.inr (rk_ge _ _))⟩ (fun u12 p12 => ?_)
    obtain ⟨h12, k12⟩ := p12
    refine G.go tv_X11_restart 1 27 [(0, .ref (gAd E (0))), (1, .long (a0))] [.ref (gAd E (0))] rfl ?_
    refine G.getf cls_X11 (0) 4 (by omega) (h12.q0) (by decide) rfl (tbd tv_X11_restart rfl) w_567 ?_
    obtain ⟨C13, hv13, hr⟩ := bnd_s hr
    refine G.callV (8) [] [] (kq_X0_forget E _ N B gr C12 hz h12 _ hv13) cls_X0 (by omega) (h12.q8) cw_X11_475 w_1900 w_1901 (Nat.le_of_ble_eq_true rfl) rfl (Nat.le_of_ble_eq_true rfl) (tbd tv_X11_restart rfl) (fun v13w f13 q13 => ?_) (fun _ _ h => h.elim)
    obtain ⟨rfl, ha13, fa13⟩ := q13
    refine G.eqs [] rfl ?_
    refine G.go tv_X11_restart 1 34 [(0, .ref (gAd E (0))), (1, .long (a0))] [.ref (gAd E (0))] rfl ?_
    refine G.getf cls_X11 (0) 3 (by omega) (ha13.q0) (by decide) rfl (tbd tv_X11_restart rfl) w_566 ?_
    refine G.go tv_X11_restart 1 38 [(0, .ref (gAd E (0))), (1, .long (a0))] [.long (a0), .ref (gAd E (2))] rfl ?_
    obtain ⟨v14, C14, hv14, hr⟩ := bnd2_s hr
    refine G.callV (2) [.long (a0)] [] (kq_X2_wake E _ N B gr C13 hz ha13 a0 _ _ hv14) cls_X2 (by omega) (ha13.q2) cw_X11_478 w_1904 w_1905 (Nat.le_of_ble_eq_true rfl) rfl (Nat.le_of_ble_eq_true rfl) (tbd tv_X11_restart rfl) (fun v14w f14 q14 => ?_) (fun _ _ h => h.elim)
    obtain ⟨rfl, ha14, fa14⟩ := q14
    refine G.eqs [.int (v14)] rfl ?_
    cases hr
    exact G.iret rfl rfl ⟨rfl, ha14, ((k12.tr fa13 (fun _ h => h)).tr fa14 (fun _ h => h))⟩ (tbd tv_X11_restart rfl)
  · replace hr := ite_f c7 hr
    cases hr
noncomputable def d_X11_mount_68 (N B gr : Nat) (A : MS) (D : CfT) (x1 : Int32) : Option (FR Int32) := bndF (fAp N B gr A D) (fun v15 A15 D15 => bndF (d_X11_commitLost N B gr A15 D15 ((1 : Int32))) (fun v16 A16 D16 => ptS D16 2 ((1 : Int32)) (fun D17 => some (.inl (x1, A16, D17)))))
set_option maxRecDepth 100000 in
set_option maxHeartbeats 4000000 in
theorem l_X11_mount_68 (E : gE) (f0 : Nat → va_E) (sz : Nat) (QA : Nat → Prop) (N B gr : Nat) (C0 : CfT) (hz : CfZ E N B gr) : ∀ (A : MS) (D : CfT) (x1 : Int32) (r : FR Int32) (hr : d_X11_mount_68 N B gr A D x1 = some r) (f : Nat → va_E) (C : CfT) (h : CfV E f N B gr C) (hD : Dq D C) (hA : AR N B gr A C) (hf : Fr CfK f0 f), G E (30, yX11_mount, 2, (some .int), sz, QA) cX11_mount (gO E (30, yX11_mount, 2, (some .int), sz, QA) (FQ E N B gr f0 (fun r => some (.int r)) r)) 68 [(0, .ref (gAd E (0))), (1, .int (x1))] [] f := by
  obtain ⟨z1, z2, z3, z4, z5, z6, z7⟩ := id hz
  intro A D x1 r hr f C h hD hA hf
  unfold d_X11_mount_68 at hr
  refine G.go tv_X11_mount 1 69 [(0, .ref (gAd E (0))), (1, .int (x1))] [.ref (gAd E (0))] rfl ?_
  refine G.getf cls_X11 (0) 5 (by omega) (h.q0) (by decide) rfl (tbd tv_X11_mount rfl) w_568 ?_
  rcases bndF_s hr with ⟨v15, A15, D15, hv15, hr⟩ | ⟨ex15, A15, D15, hv15, rfl⟩
  rotate_left
  · skip
    refine G.callV (13) [] [] (k_X6_applyAll E _ N B gr C D A hz h hD hA _ hv15) cls_X6 (by omega) (h.q13) cw_X11_214 w_886 w_887 (Nat.le_of_ble_eq_true rfl) rfl (Nat.le_of_ble_eq_true rfl) (tbd tv_X11_mount rfl) (fun v15w f15 q15 => ?_) (fun X g q => FQ.fr q hf)
    exact q15.elim
  refine G.callV (13) [] [] (k_X6_applyAll E _ N B gr C D A hz h hD hA _ hv15) cls_X6 (by omega) (h.q13) cw_X11_214 w_886 w_887 (Nat.le_of_ble_eq_true rfl) rfl (Nat.le_of_ble_eq_true rfl) (tbd tv_X11_mount rfl) (fun v15w f15 q15 => ?_) (fun _ _ h => h.elim)
  obtain ⟨rfl, C15, ha15, hD15, hA15, fa15⟩ := q15
  refine G.eqs [] rfl ?_
  refine G.go tv_X11_mount 2 77 [(0, .ref (gAd E (0))), (1, .int (x1))] [.int ((1 : Int32)), .ref (gAd E (0))] rfl ?_
  rcases bndF_s hr with ⟨v16, A16, D16, hv16, hr⟩ | ⟨ex16, A16, D16, hv16, rfl⟩
  rotate_left
  · skip
    refine G.callV (0) [.int ((1 : Int32))] [] (k_X11_commitLost E _ N B gr C15 D15 A15 hz ha15 hD15 hA15 ((1 : Int32)) _ hv16) cls_X11 (by omega) (ha15.q0) cw_X11_217 w_896 w_15 (Nat.le_of_ble_eq_true rfl) rfl (Nat.le_of_ble_eq_true rfl) (tbd tv_X11_mount rfl) (fun v16w f16 q16 => ?_) (fun X g q => FQ.fr q (hf.tr fa15 (fun _ h => h)))
    exact q16.elim
  refine G.callV (0) [.int ((1 : Int32))] [] (k_X11_commitLost E _ N B gr C15 D15 A15 hz ha15 hD15 hA15 ((1 : Int32)) _ hv16) cls_X11 (by omega) (ha15.q0) cw_X11_217 w_896 w_15 (Nat.le_of_ble_eq_true rfl) rfl (Nat.le_of_ble_eq_true rfl) (tbd tv_X11_mount rfl) (fun v16w f16 q16 => ?_) (fun _ _ h => h.elim)
  obtain ⟨rfl, C16, ha16, hD16, hA16, fa16⟩ := q16
  refine G.eqs [] rfl ?_
  refine G.go tv_X11_mount 2 82 [(0, .ref (gAd E (0))), (1, .int (x1))] [.int ((1 : Int32)), .ref (gAd E (0))] rfl ?_
  obtain ⟨D17, eD17, hr⟩ := ptS_s hr
  refine G.putfS cls_X11 (0) 2 [.ref (gAd E 1), .int (cS C16 1), .int ((1 : Int32)), .ref (gAd E 2), .ref (gAd E 8), .ref (gAd E 13), .ref (gAd E 17), .ref (gAd E 25), .ref (gAd E 37), .ref (gAd E 32), .ref (gAd E 40), .ref (gAd E 41), .ref (gAd E 44), .ref (gAd E 47), .ref (gAd E 50), .ref (gAd E 53), .ref (gAd E 54), .ref (gAd E 55)] (by omega) (ha16.q0) rfl (by decide) rfl rfl rfl (Nat.le_of_ble_eq_true rfl) (tbd tv_X11_mount rfl) w_565 ?_
  refine G.gen (P := SN E N B gr f0 A16 D17) ⟨sS C16 2 ((1 : Int32)), ha16.s2 _, (by rw [eD17]; exact hD16.ss), hA16.sm (Sd.s (by decide) : Sd C16 (sS C16 2 ((1 : Int32)))), Fr.c ((hf.tr fa15 (fun _ h => h)).tr fa16 (fun _ h => h)) (by first | exact Or.inl (by decide) | exact Or.inr (by omega))⟩ (fun u17 p17 => ?_)
  obtain ⟨C17, h17, hD17, hA17, k17⟩ := p17
  refine G.go tv_X11_mount 1 86 [(0, .ref (gAd E (0))), (1, .int (x1))] [.int (x1)] rfl ?_
  cases hr
  exact G.iret rfl rfl (FQ.ok rfl ⟨C17, h17, hD17, hA17, k17⟩) (tbd tv_X11_mount rfl)
theorem w_844 : Cond.methodLink "LedgerFiles" 206 yX10_reset ∈ TB := tp_3 218 (by decide +kernel) rfl
theorem w_847 : Cond.code yX10_reset prog_12_method_2_code 1 none ∈ TB := tp_3 221 rfl rfl
theorem cw_X11_206 : Cw RX11 206 yX10_reset cX10_reset 1 none 0 := ⟨w_844, w_847, w_155, by decide +kernel, by decide +kernel, by decide⟩
theorem w_845 : Cond.instanceMethod yX10_reset ∈ TB := tp_3 219 (by decide +kernel) rfl
theorem w_846 : Cond.selects "LedgerFiles$View" yX10_reset yX10_reset ∈ TB := tp_3 220 (by decide +kernel) rfl
theorem w_865 : Cond.methodLink "LedgerFiles" 209 yX5_reset ∈ TB := tp_3 239 (by decide +kernel) rfl
theorem w_868 : Cond.code yX5_reset prog_7_method_2_code 1 none ∈ TB := tp_4 2 rfl rfl
theorem cw_X11_209 : Cw RX11 209 yX5_reset cX5_reset 1 none 0 := ⟨w_865, w_868, w_156, by decide +kernel, by decide +kernel, by decide⟩
theorem w_866 : Cond.instanceMethod yX5_reset ∈ TB := tp_4 0 (by decide +kernel) rfl
theorem w_867 : Cond.selects "LedgerFiles$Holders" yX5_reset yX5_reset ∈ TB := tp_4 1 (by decide +kernel) rfl
theorem w_870 : Cond.methodLink "LedgerFiles" 210 yX6_recover ∈ TB := tp_4 4 (by decide +kernel) rfl
theorem w_873 : Cond.code yX6_recover prog_8_method_9_code 4 (some .int) ∈ TB := tp_4 7 rfl rfl
theorem cw_X11_210 : Cw RX11 210 yX6_recover cX6_recover 4 (some .int) 0 := ⟨w_870, w_873, w_153, by decide +kernel, by decide +kernel, by decide⟩
theorem w_871 : Cond.instanceMethod yX6_recover ∈ TB := tp_4 5 (by decide +kernel) rfl
theorem w_872 : Cond.selects "LedgerFiles$Log" yX6_recover yX6_recover ∈ TB := tp_4 6 (by decide +kernel) rfl
def q_X11_mount (N B gr : Nat) (C : CfT) : Option (Int32 × CfT) := bnd (q_X11_needUnmounted N B gr C) (fun C18 => bnd (q_X11_headRow N B gr C18) (fun C19 => bnd (q_X2_row N B gr C19 ((0 : Int32))) (fun v20 => bnd (q_X2_same N B gr C19 v20.1 v20.2) (fun v21 => if v21 = 0 then none else bnd (q_X10_reset N B gr C19) (fun C22 => bnd (q_X5_reset N B gr C22) (fun C23 => bnd2 (q_X6_recover N B gr C23) (fun v24 C24 => some (v24, C24))))))))
set_option maxRecDepth 100000 in
set_option maxHeartbeats 4000000 in
theorem kq_X11_mount (E : gE) (f : Nat → va_E) (sz : Nat) (QA : Nat → Prop) (Q : gQ) (N B gr : Nat) (C : CfT) (hz : CfZ E N B gr) (h : CfV E f N B gr C) (r : Int32) (C9 : CfT) (hr : q_X11_mount N B gr C = some (r, C9)) (kq : ∀ g, CfV E g N B gr C9 → Fr CfK f g → G E (30, yX11_mount, 2, (some .int), sz, QA) cX11_mount (gO E (30, yX11_mount, 2, (some .int), sz, QA) Q) 68 [(0, .ref (gAd E (0))), (1, .int r)] [] g) : G E (30, yX11_mount, 2, (some .int), sz, QA) cX11_mount (gO E (30, yX11_mount, 2, (some .int), sz, QA) Q) 0 [(0, .ref (gAd E (0)))] [] f := by
  obtain ⟨z1, z2, z3, z4, z5, z6, z7⟩ := id hz
  unfold q_X11_mount at hr
  refine G.go tv_X11_mount 1 1 [(0, .ref (gAd E (0)))] [.ref (gAd E (0))] rfl ?_
  obtain ⟨C18, hv18, hr⟩ := bnd_s hr
  refine G.callV (0) [] [] (kq_X11_needUnmounted E _ N B gr C hz h _ hv18) cls_X11 (by omega) (h.q0) cw_X11_156 w_644 w_1 (Nat.le_of_ble_eq_true rfl) rfl (Nat.le_of_ble_eq_true rfl) (tbd tv_X11_mount rfl) (fun v18w f18 q18 => ?_) (fun _ _ h => h.elim)
  obtain ⟨rfl, ha18, fa18⟩ := q18
  refine G.eqs [] rfl ?_
  refine G.go tv_X11_mount 2 6 [(0, .ref (gAd E (0)))] [.ref (gAd E (0)), .ref (gAd E (0))] rfl ?_
  refine G.getf cls_X11 (0) 7 (by omega) (ha18.q0) (by decide) rfl (tbd tv_X11_mount rfl) w_570 ?_
  refine G.getf cls_X10 (25) 10 (by omega) (ha18.q25) (by decide) rfl (tbd tv_X11_mount rfl) w_421 ?_
  obtain ⟨C19, hv19, hr⟩ := bnd_s hr
  refine G.callV (0) [.ref (gAd E (31))] [] (kq_X11_headRow E _ N B gr C18 hz ha18 _ hv19) cls_X11 (by omega) (ha18.q0) cw_X11_181 w_811 w_11 (Nat.le_of_ble_eq_true rfl) rfl (Nat.le_of_ble_eq_true rfl) (tbd tv_X11_mount rfl) (fun v19w f19 q19 => ?_) (fun _ _ h => h.elim)
  obtain ⟨rfl, ha19, fa19⟩ := q19
  refine G.eqs [] rfl ?_
  refine G.go tv_X11_mount 1 16 [(0, .ref (gAd E (0)))] [.ref (gAd E (0))] rfl ?_
  refine G.getf cls_X11 (0) 7 (by omega) (ha19.q0) (by decide) rfl (tbd tv_X11_mount rfl) w_570 ?_
  refine G.getf cls_X10 (25) 10 (by omega) (ha19.q25) (by decide) rfl (tbd tv_X11_mount rfl) w_421 ?_
  refine G.go tv_X11_mount 1 23 [(0, .ref (gAd E (0)))] [.ref (gAd E (0)), .ref (gAd E (31))] rfl ?_
  refine G.getf cls_X11 (0) 3 (by omega) (ha19.q0) (by decide) rfl (tbd tv_X11_mount rfl) w_566 ?_
  refine G.go tv_X11_mount 1 27 [(0, .ref (gAd E (0)))] [.int ((0 : Int32)), .ref (gAd E (2)), .ref (gAd E (31))] rfl ?_
  obtain ⟨v20, hv20, hr⟩ := bnd_s hr
  refine G.callV (2) [.int ((0 : Int32))] [.ref (gAd E (31))] (kq_X2_row E _ N B gr C19 hz ha19 ((0 : Int32)) _ hv20) cls_X2 (by omega) (ha19.q2) cw_X11_193 w_801 w_802 (Nat.le_of_ble_eq_true rfl) rfl (Nat.le_of_ble_eq_true rfl) (tbd tv_X11_mount rfl) (fun v20w f20 q20 => ?_) (fun _ _ h => h.elim)
  obtain ⟨⟨rfl, hm20⟩, ha20, fa20⟩ := q20
  refine G.eqs [.ref (gAd E (rba N B v20.1 + v20.2)), .ref (gAd E (31))] rfl ?_
  obtain ⟨v21, hv21, hr⟩ := bnd_s hr
  refine G.callS [.ref (gAd E (31)), .ref (gAd E (rba N B v20.1 + v20.2))] [] (kq_X2_same E _ N B gr C19 hz ha20 v20.1 v20.2 hm20 _ hv21) cw_X11_197 w_826 (Nat.le_of_ble_eq_true rfl) rfl (Nat.le_of_ble_eq_true rfl) (tbd tv_X11_mount rfl) (fun v21w f21 q21 => ?_) (fun _ _ h => h.elim)
  obtain ⟨rfl, ha21, fa21⟩ := q21
  refine G.eqs [.int (v21)] rfl ?_
  refine G.if_ne 46 (tbd tv_X11_mount rfl) (by decide) (fun c33 => ?_) (fun c33 => ?_)
  · replace hr := ite_f c33 hr
    refine G.go tv_X11_mount 1 47 [(0, .ref (gAd E (0)))] [.ref (gAd E (0))] rfl ?_
    refine G.getf cls_X11 (0) 7 (by omega) (ha21.q0) (by decide) rfl (tbd tv_X11_mount rfl) w_570 ?_
    obtain ⟨C22, hv22, hr⟩ := bnd_s hr
    refine G.callV (25) [] [] (kq_X10_reset E _ N B gr C19 hz ha21 _ hv22) cls_X10 (by omega) (ha21.q25) cw_X11_206 w_845 w_846 (Nat.le_of_ble_eq_true rfl) rfl (Nat.le_of_ble_eq_true rfl) (tbd tv_X11_mount rfl) (fun v22w f22 q22 => ?_) (fun _ _ h => h.elim)
    obtain ⟨rfl, ha22, fa22⟩ := q22
    refine G.eqs [] rfl ?_
    refine G.go tv_X11_mount 1 54 [(0, .ref (gAd E (0)))] [.ref (gAd E (0))] rfl ?_
    refine G.getf cls_X11 (0) 9 (by omega) (ha22.q0) (by decide) rfl (tbd tv_X11_mount rfl) w_572 ?_
    obtain ⟨C23, hv23, hr⟩ := bnd_s hr
    refine G.callV (32) [] [] (kq_X5_reset E _ N B gr C22 hz ha22 _ hv23) cls_X5 (by omega) (ha22.q32) cw_X11_209 w_866 w_867 (Nat.le_of_ble_eq_true rfl) rfl (Nat.le_of_ble_eq_true rfl) (tbd tv_X11_mount rfl) (fun v23w f23 q23 => ?_) (fun _ _ h => h.elim)
    obtain ⟨rfl, ha23, fa23⟩ := q23
    refine G.eqs [] rfl ?_
    refine G.go tv_X11_mount 1 61 [(0, .ref (gAd E (0)))] [.ref (gAd E (0))] rfl ?_
    refine G.getf cls_X11 (0) 5 (by omega) (ha23.q0) (by decide) rfl (tbd tv_X11_mount rfl) w_568 ?_
    obtain ⟨v24, C24, hv24, hr⟩ := bnd2_s hr
    refine G.callV (13) [] [] (kq_X6_recover E _ N B gr C23 hz ha23 _ _ hv24) cls_X6 (by omega) (ha23.q13) cw_X11_210 w_871 w_872 (Nat.le_of_ble_eq_true rfl) rfl (Nat.le_of_ble_eq_true rfl) (tbd tv_X11_mount rfl) (fun v24w f24 q24 => ?_) (fun _ _ h => h.elim)
    obtain ⟨rfl, ha24, fa24⟩ := q24
    refine G.eqs [.int (v24)] rfl ?_
    refine G.go tv_X11_mount 1 68 [(0, .ref (gAd E (0))), (1, .int (v24))] [] rfl ?_
    refine G.less [(0, .ref (gAd E (0))), (1, .int (v24))] [0, 1] rfl ?_
    cases hr
    exact kq _ ha24 (((((((Fr.rf.tr fa18 (fun _ h => h)).tr fa19 (fun _ h => h)).tr fa20 (fun _ h => h)).tr fa21 (fun _ h => h)).tr fa22 (fun _ h => h)).tr fa23 (fun _ h => h)).tr fa24 (fun _ h => h))
  · replace hr := ite_t c33 hr
    cases hr
