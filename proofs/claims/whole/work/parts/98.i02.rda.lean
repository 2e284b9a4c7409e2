def d_X2_two (N : Nat) (V : Nat → Rw) (D : CfT) (ga0 : Nat → Int32) (na0 : Nat) (a1 : Int32) : Option (Int32) := if a1 < 0 then some ((0 : Int32)) else if ((a1) + ((1 : Int32))) < (nI na0) then ld ga0 na0 a1 (fun v1 => ld ga0 na0 ((a1) + ((1 : Int32))) (fun v2 => some (((v1) &&& ((255 : Int32))) ||| (((v2) &&& ((255 : Int32))) <<< (((8 : Int32)) &&& 31))))) else some ((0 : Int32))
set_option maxRecDepth 100000 in
set_option maxHeartbeats 4000000 in
theorem k_X2_two (E : gE) (f : Nat → va_E) (N B gr : Nat) (C D : CfT) (A : MS) (hz : CfZ E N B gr) (h : CfV E f N B gr C) (hD : Dq D C) (hA : AR N B gr A C) (ka0 na0 : Nat) (ga0 : Nat → Int32) (wa0 : ArK N B gr C ka0 na0 ga0) (a1 : Int32) (r : Int32) (hr : d_X2_two N (vA A) D ga0 na0 a1 = some r) : Ct E 1 yX2_two cX2_two 2 (some .int) [.ref (gAd E (ka0)), .int (a1)] f (fun v g => v = some (.int r) ∧ CfV E g N B gr C ∧ Fr CfK f g, fun _ _ => False) := by
  obtain ⟨z1, z2, z3, z4, z5, z6, z7⟩ := id hz
  refine Ct.of (by decide) (Nat.le_of_ble_eq_true rfl) (fun sz => ?_)
  refine G.eql [(0, .ref (gAd E (ka0))), (1, .int (a1))] rfl ?_
  unfold d_X2_two at hr
  refine G.go tv_X2_two 1 1 [(0, .ref (gAd E (ka0))), (1, .int (a1))] [.int (a1)] rfl ?_
  refine G.if_lt 12 (tbd tv_X2_two rfl) (by decide) (fun c1 => ?_) (fun c1 => ?_)
  · replace hr := ite_t c1 hr
    refine G.go tv_X2_two 2 36 [(0, .ref (gAd E (ka0))), (1, .int (a1))] [.int ((0 : Int32))] rfl ?_
    cases hr
    exact G.iret rfl rfl ⟨rfl, h, Fr.rf⟩ (tbd tv_X2_two rfl)
  · replace hr := ite_f c1 hr
    refine G.go tv_X2_two 4 8 [(0, .ref (gAd E (ka0))), (1, .int (a1))] [.ref (gAd E (ka0)), .int ((a1) + ((1 : Int32)))] rfl ?_
    refine G.arlen hz h (wa0) (tbd tv_X2_two rfl) ?_
    refine G.cmp_lt 16 (tbd tv_X2_two rfl) (by decide) (fun c9 => ?_) (fun c9 => ?_)
    · replace hr := ite_t c9 hr
      refine G.go tv_X2_two 2 18 [(0, .ref (gAd E (ka0))), (1, .int (a1))] [.int (a1), .ref (gAd E (ka0))] rfl ?_
      obtain ⟨v1, b1, e1, hr⟩ := ld_s hr
      refine G.arld hz h (wa0) b1 e1 (tbd tv_X2_two rfl) ?_
      refine G.go tv_X2_two 6 27 [(0, .ref (gAd E (ka0))), (1, .int (a1))] [.int ((a1) + ((1 : Int32))), .ref (gAd E (ka0)), .int ((v1) &&& ((255 : Int32)))] rfl ?_
      obtain ⟨v2, b2, e2, hr⟩ := ld_s hr
      refine G.arld hz h (wa0) b2 e2 (tbd tv_X2_two rfl) ?_
      refine G.go tv_X2_two 5 36 [(0, .ref (gAd E (ka0))), (1, .int (a1))] [.int (((v1) &&& ((255 : Int32))) ||| (((v2) &&& ((255 : Int32))) <<< (((8 : Int32)) &&& 31)))] rfl ?_
      cases hr
      exact G.iret rfl rfl ⟨rfl, h, Fr.rf⟩ (tbd tv_X2_two rfl)
    · replace hr := ite_f c9 hr
      refine G.go tv_X2_two 2 36 [(0, .ref (gAd E (ka0))), (1, .int (a1))] [.int ((0 : Int32))] rfl ?_
      cases hr
      exact G.iret rfl rfl ⟨rfl, h, Fr.rf⟩ (tbd tv_X2_two rfl)
def d_X2_four (N : Nat) (V : Nat → Rw) (D : CfT) (ga0 : Nat → Int32) (na0 : Nat) (a1 : Int32) : Option (Int32) := bnd (d_X2_two N V D ga0 na0 a1) (fun v3 => bnd (d_X2_two N V D ga0 na0 ((a1) + ((2 : Int32)))) (fun v4 => some ((v3) ||| ((v4) <<< (((16 : Int32)) &&& 31)))))
set_option maxRecDepth 100000 in
set_option maxHeartbeats 4000000 in
theorem k_X2_four (E : gE) (f : Nat → va_E) (N B gr : Nat) (C D : CfT) (A : MS) (hz : CfZ E N B gr) (h : CfV E f N B gr C) (hD : Dq D C) (hA : AR N B gr A C) (ka0 na0 : Nat) (ga0 : Nat → Int32) (wa0 : ArK N B gr C ka0 na0 ga0) (a1 : Int32) (r : Int32) (hr : d_X2_four N (vA A) D ga0 na0 a1 = some r) : Ct E 2 yX2_four cX2_four 2 (some .int) [.ref (gAd E (ka0)), .int (a1)] f (fun v g => v = some (.int r) ∧ CfV E g N B gr C ∧ Fr CfK f g, fun _ _ => False) := by
  obtain ⟨z1, z2, z3, z4, z5, z6, z7⟩ := id hz
  refine Ct.of (by decide) (Nat.le_of_ble_eq_true rfl) (fun sz => ?_)
  refine G.eql [(0, .ref (gAd E (ka0))), (1, .int (a1))] rfl ?_
  unfold d_X2_four at hr
  refine G.go tv_X2_four 2 2 [(0, .ref (gAd E (ka0))), (1, .int (a1))] [.int (a1), .ref (gAd E (ka0))] rfl ?_
  obtain ⟨v3, hv3, hr⟩ := bnd_s hr
  refine G.callS [.ref (gAd E (ka0)), .int (a1)] [] (k_X2_two E _ N B gr C D A hz h hD hA ka0 na0 ga0 (wa0) a1 v3 hv3) cw_X2_46 w_878 (Nat.le_of_ble_eq_true rfl) rfl (Nat.le_of_ble_eq_true rfl) (tbd tv_X2_four rfl) (fun v3w f3 q3 => ?_) (fun _ _ h => h.elim)
  obtain ⟨rfl, ha3, fa3⟩ := q3
  refine G.eqs [.int (v3)] rfl ?_
  refine G.go tv_X2_four 4 9 [(0, .ref (gAd E (ka0))), (1, .int (a1))] [.int ((a1) + ((2 : Int32))), .ref (gAd E (ka0)), .int (v3)] rfl ?_
  obtain ⟨v4, hv4, hr⟩ := bnd_s hr
  refine G.callS [.ref (gAd E (ka0)), .int ((a1) + ((2 : Int32)))] [.int (v3)] (k_X2_two E _ N B gr C D A hz ha3 hD hA ka0 na0 ga0 (wa0) ((a1) + ((2 : Int32))) v4 hv4) cw_X2_46 w_878 (Nat.le_of_ble_eq_true rfl) rfl (Nat.le_of_ble_eq_true rfl) (tbd tv_X2_four rfl) (fun v4w f4 q4 => ?_) (fun _ _ h => h.elim)
  obtain ⟨rfl, ha4, fa4⟩ := q4
  refine G.eqs [.int (v4), .int (v3)] rfl ?_
  refine G.go tv_X2_four 3 16 [(0, .ref (gAd E (ka0))), (1, .int (a1))] [.int ((v3) ||| ((v4) <<< (((16 : Int32)) &&& 31)))] rfl ?_
  cases hr
  exact G.iret rfl rfl ⟨rfl, ha4, ((Fr.rf.tr fa3 (fun _ h => h)).tr fa4 (fun _ h => h))⟩ (tbd tv_X2_four rfl)
def d_X2_same_2 (N : Nat) (V : Nat → Rw) (D : CfT) : Nat → (Nat → Int32) → Nat → (Nat → Int32) → Nat → Int32 → Option (Int32)
  | 0, _, _, _, _, _ => none
  | n + 1, ga0, na0, ga1, na1, x2 => if ((128 : Int32)) ≤ x2 then some ((1 : Int32)) else ld ga0 na0 x2 (fun v5 => ld ga1 na1 x2 (fun v6 => if v5 = v6 then d_X2_same_2 N V D n ga0 na0 ga1 na1 (x2 + (1 : Int32)) else some ((0 : Int32))))
def d_X2_same (N : Nat) (V : Nat → Rw) (D : CfT) (ga0 : Nat → Int32) (na0 : Nat) (ga1 : Nat → Int32) (na1 : Nat) : Option (Int32) := d_X2_same_2 N V D fuL ga0 na0 ga1 na1 ((0 : Int32))
set_option maxRecDepth 100000 in
set_option maxHeartbeats 4000000 in
theorem l_X2_same_2 (E : gE) (f0 : Nat → va_E) (sz : Nat) (QA : Nat → Prop) (N B gr : Nat) (C D : CfT) (A : MS) (hz : CfZ E N B gr) (hD : Dq D C) (hA : AR N B gr A C) : ∀ (n : Nat), ∀ (ga0 : Nat → Int32) (na0 : Nat) (ga1 : Nat → Int32) (na1 : Nat) (x2 : Int32) (r : Int32) (hr : d_X2_same_2 N (vA A) D n ga0 na0 ga1 na1 x2 = some r) (f : Nat → va_E) (h : CfV E f N B gr C) (hf : Fr CfK f0 f) (ka0 : Nat) (wa0 : ArK N B gr C ka0 na0 ga0) (ka1 : Nat) (wa1 : ArK N B gr C ka1 na1 ga1), G E (1, yX2_same, 3, (some .boolean), sz, QA) cX2_same (gO E (1, yX2_same, 3, (some .boolean), sz, QA) (fun v g => v = some (.int r) ∧ CfV E g N B gr C ∧ Fr CfK f0 g, fun _ _ => False)) 2 [(0, .ref (gAd E (ka0))), (1, .ref (gAd E (ka1))), (2, .int (x2))] [] f := by
  obtain ⟨z1, z2, z3, z4, z5, z6, z7⟩ := id hz
  intro n
  induction n with
  | zero =>
    intro ga0 na0 ga1 na1 x2 r hr f h hf ka0 wa0 ka1 wa1
    cases hr
  | succ n ih =>
    intro ga0 na0 ga1 na1 x2 r hr f h hf ka0 wa0 ka1 wa1
    unfold d_X2_same_2 at hr
    refine G.go tv_X2_same 2 6 [(0, .ref (gAd E (ka0))), (1, .ref (gAd E (ka1))), (2, .int (x2))] [.int ((128 : Int32)), .int (x2)] rfl ?_
    refine G.cmp_ge 26 (tbd tv_X2_same rfl) (by decide) (fun c6 => ?_) (fun c6 => ?_)
    · replace hr := ite_t c6 hr
      refine G.go tv_X2_same 1 27 [(0, .ref (gAd E (ka0))), (1, .ref (gAd E (ka1))), (2, .int (x2))] [.int ((1 : Int32))] rfl ?_
      cases hr
      exact G.iret rfl rfl ⟨rfl, h, hf⟩ (tbd tv_X2_same rfl)
    · replace hr := ite_f c6 hr
      refine G.go tv_X2_same 2 11 [(0, .ref (gAd E (ka0))), (1, .ref (gAd E (ka1))), (2, .int (x2))] [.int (x2), .ref (gAd E (ka0))] rfl ?_
      obtain ⟨v5, b5, e5, hr⟩ := ld_s hr
      refine G.arld hz h (wa0) b5 e5 (tbd tv_X2_same rfl) ?_
      refine G.go tv_X2_same 2 14 [(0, .ref (gAd E (ka0))), (1, .ref (gAd E (ka1))), (2, .int (x2))] [.int (x2), .ref (gAd E (ka1)), .int (v5)] rfl ?_
      obtain ⟨v6, b6, e6, hr⟩ := ld_s hr
      refine G.arld hz h (wa1) b6 e6 (tbd tv_X2_same rfl) ?_
      refine G.cmp_eq 20 (tbd tv_X2_same rfl) (by decide) (fun c15 => ?_) (fun c15 => ?_)
      · replace hr := ite_t c15 hr
        refine G.go tv_X2_same 2 2 [(0, .ref (gAd E (ka0))), (1, .ref (gAd E (ka1))), (2, .int (x2 + (1 : Int32)))] [] rfl ?_
        refine G.less [(0, .ref (gAd E (ka0))), (1, .ref (gAd E (ka1))), (2, .int (x2 + (1 : Int32)))] [0, 1, 2] rfl ?_
        exact ih _ _ _ _ _ _ hr _ h hf ka0 wa0 ka1 wa1
      · replace hr := ite_f c15 hr
        refine G.go tv_X2_same 1 19 [(0, .ref (gAd E (ka0))), (1, .ref (gAd E (ka1))), (2, .int (x2))] [.int ((0 : Int32))] rfl ?_
        cases hr
        exact G.iret rfl rfl ⟨rfl, h, hf⟩ (tbd tv_X2_same rfl)
set_option maxRecDepth 100000 in
set_option maxHeartbeats 4000000 in
theorem k_X2_same (E : gE) (f : Nat → va_E) (N B gr : Nat) (C D : CfT) (A : MS) (hz : CfZ E N B gr) (h : CfV E f N B gr C) (hD : Dq D C) (hA : AR N B gr A C) (ka0 na0 : Nat) (ga0 : Nat → Int32) (wa0 : ArK N B gr C ka0 na0 ga0) (ka1 na1 : Nat) (ga1 : Nat → Int32) (wa1 : ArK N B gr C ka1 na1 ga1) (r : Int32) (hr : d_X2_same N (vA A) D ga0 na0 ga1 na1 = some r) : Ct E 1 yX2_same cX2_same 3 (some .boolean) [.ref (gAd E (ka0)), .ref (gAd E (ka1))] f (fun v g => v = some (.int r) ∧ CfV E g N B gr C ∧ Fr CfK f g, fun _ _ => False) := by
  obtain ⟨z1, z2, z3, z4, z5, z6, z7⟩ := id hz
  refine Ct.of (by decide) (Nat.le_of_ble_eq_true rfl) (fun sz => ?_)
  refine G.eql [(0, .ref (gAd E (ka0))), (1, .ref (gAd E (ka1)))] rfl ?_
  unfold d_X2_same at hr
  refine G.go tv_X2_same 2 2 [(0, .ref (gAd E (ka0))), (1, .ref (gAd E (ka1))), (2, .int ((0 : Int32)))] [] rfl ?_
  refine G.less [(0, .ref (gAd E (ka0))), (1, .ref (gAd E (ka1))), (2, .int ((0 : Int32)))] [0, 1, 2] rfl ?_
  exact l_X2_same_2 E f sz _ N B gr C D A hz hD hA _ _ _ _ _ _ _ hr _ h Fr.rf ka0 wa0 ka1 wa1
def tb_J6_bitCount_0f7a4 : List (Nat × Instr × Nat) := [(0, .iload_n 0, 1), (1, .iload_n 0, 1), (2, .iconst 1, 1), (3, .iushr, 1), (4, .ldc_w 265, 3), (7, .iand, 1), (8, .isub, 1), (9, .istore_n 0, 1), (10, .iload_n 0, 1), (11, .ldc_w 266, 3), (14, .iand, 1), (15, .iload_n 0, 1), (16, .iconst 2, 1), (17, .iushr, 1), (18, .ldc_w 266, 3), (21, .iand, 1), (22, .iadd, 1), (23, .istore_n 0, 1), (24, .iload_n 0, 1), (25, .iload_n 0, 1), (26, .iconst 4, 1), (27, .iushr, 1), (28, .iadd, 1), (29, .ldc_w 267, 3), (32, .iand, 1), (33, .istore_n 0, 1), (34, .iload_n 0, 1), (35, .iload_n 0, 1), (36, .bipush 8, 2), (38, .iushr, 1), (39, .iadd, 1), (40, .istore_n 0, 1), (41, .iload_n 0, 1), (42, .iload_n 0, 1), (43, .bipush 16, 2), (45, .iushr, 1), (46, .iadd, 1), (47, .istore_n 0, 1), (48, .iload_n 0, 1), (49, .bipush 63, 2), (51, .iand, 1), (52, .ireturn, 1)]
theorem tv_J6_bitCount_0f7a4 : Tv cJ6_bitCount_0f7a4 tb_J6_bitCount_0f7a4 := by
  unfold Tv
  decide +kernel
theorem w_1419 : Cond.constant "java/lang/Integer" 265 (1431655765 : Int32) ∈ TB := tp_6 73 (by decide +kernel) rfl
theorem w_1420 : Cond.constant "java/lang/Integer" 266 (858993459 : Int32) ∈ TB := tp_6 74 (by decide +kernel) rfl
theorem w_1421 : Cond.constant "java/lang/Integer" 267 (252645135 : Int32) ∈ TB := tp_6 75 (by decide +kernel) rfl
def d_J6_bitCount_0f7a4 (N : Nat) (V : Nat → Rw) (D : CfT) (a0 : Int32) : Option (Int32) := nm ((a0) - ((((a0 : Int32).toUInt32 >>> (((1 : Int32) : Int32).toUInt32 &&& Int32.toUInt32 31)).toInt32) &&& ((1431655765 : Int32)))) (fun v7 => nm (((v7) &&& ((858993459 : Int32))) + ((((v7 : Int32).toUInt32 >>> (((2 : Int32) : Int32).toUInt32 &&& Int32.toUInt32 31)).toInt32) &&& ((858993459 : Int32)))) (fun v8 => nm (((v8) + (((v8 : Int32).toUInt32 >>> (((4 : Int32) : Int32).toUInt32 &&& Int32.toUInt32 31)).toInt32)) &&& ((252645135 : Int32))) (fun v9 => nm ((v9) + (((v9 : Int32).toUInt32 >>> (((8 : Int32) : Int32).toUInt32 &&& Int32.toUInt32 31)).toInt32)) (fun v10 => nm ((v10) + (((v10 : Int32).toUInt32 >>> (((16 : Int32) : Int32).toUInt32 &&& Int32.toUInt32 31)).toInt32)) (fun v11 => some ((v11) &&& ((63 : Int32))))))))
set_option maxRecDepth 100000 in
set_option maxHeartbeats 4000000 in
theorem k_J6_bitCount_0f7a4 (E : gE) (f : Nat → va_E) (N B gr : Nat) (C D : CfT) (A : MS) (hz : CfZ E N B gr) (h : CfV E f N B gr C) (hD : Dq D C) (hA : AR N B gr A C) (a0 : Int32) (r : Int32) (hr : d_J6_bitCount_0f7a4 N (vA A) D a0 = some r) : Ct E 1 yJ6_bitCount_0f7a4 cJ6_bitCount_0f7a4 1 (some .int) [.int (a0)] f (fun v g => v = some (.int r) ∧ CfV E g N B gr C ∧ Fr CfK f g, fun _ _ => False) := by
  obtain ⟨z1, z2, z3, z4, z5, z6, z7⟩ := id hz
  refine Ct.of (by decide) (Nat.le_of_ble_eq_true rfl) (fun sz => ?_)
  refine G.eql [(0, .int (a0))] rfl ?_
  unfold d_J6_bitCount_0f7a4 at hr
  refine G.go tv_J6_bitCount_0f7a4 4 4 [(0, .int (a0))] [.int (((a0 : Int32).toUInt32 >>> (((1 : Int32) : Int32).toUInt32 &&& Int32.toUInt32 31)).toInt32), .int (a0)] rfl ?_
  refine G.ldcw (1431655765) (tbd tv_J6_bitCount_0f7a4 rfl) w_1419 ?_
  refine G.go tv_J6_bitCount_0f7a4 3 10 [(0, .int ((a0) - ((((a0 : Int32).toUInt32 >>> (((1 : Int32) : Int32).toUInt32 &&& Int32.toUInt32 31)).toInt32) &&& ((1431655765 : Int32)))))] [] rfl ?_
  obtain ⟨v7, e7, hr⟩ := nm_s hr
  refine G.eql [(0, .int (v7))] (by rw [e7]) ?_
  refine G.go tv_J6_bitCount_0f7a4 1 11 [(0, .int (v7))] [.int (v7)] rfl ?_
  refine G.ldcw (858993459) (tbd tv_J6_bitCount_0f7a4 rfl) w_1420 ?_
  refine G.go tv_J6_bitCount_0f7a4 4 18 [(0, .int (v7))] [.int (((v7 : Int32).toUInt32 >>> (((2 : Int32) : Int32).toUInt32 &&& Int32.toUInt32 31)).toInt32), .int ((v7) &&& ((858993459 : Int32)))] rfl ?_
  refine G.ldcw (858993459) (tbd tv_J6_bitCount_0f7a4 rfl) w_1420 ?_
  refine G.go tv_J6_bitCount_0f7a4 3 24 [(0, .int (((v7) &&& ((858993459 : Int32))) + ((((v7 : Int32).toUInt32 >>> (((2 : Int32) : Int32).toUInt32 &&& Int32.toUInt32 31)).toInt32) &&& ((858993459 : Int32)))))] [] rfl ?_
  obtain ⟨v8, e8, hr⟩ := nm_s hr
  refine G.eql [(0, .int (v8))] (by rw [e8]) ?_
  refine G.go tv_J6_bitCount_0f7a4 5 29 [(0, .int (v8))] [.int ((v8) + (((v8 : Int32).toUInt32 >>> (((4 : Int32) : Int32).toUInt32 &&& Int32.toUInt32 31)).toInt32))] rfl ?_
  refine G.ldcw (252645135) (tbd tv_J6_bitCount_0f7a4 rfl) w_1421 ?_
  refine G.go tv_J6_bitCount_0f7a4 2 34 [(0, .int (((v8) + (((v8 : Int32).toUInt32 >>> (((4 : Int32) : Int32).toUInt32 &&& Int32.toUInt32 31)).toInt32)) &&& ((252645135 : Int32))))] [] rfl ?_
  obtain ⟨v9, e9, hr⟩ := nm_s hr
  refine G.eql [(0, .int (v9))] (by rw [e9]) ?_
  refine G.go tv_J6_bitCount_0f7a4 6 41 [(0, .int ((v9) + (((v9 : Int32).toUInt32 >>> (((8 : Int32) : Int32).toUInt32 &&& Int32.toUInt32 31)).toInt32)))] [] rfl ?_
  obtain ⟨v10, e10, hr⟩ := nm_s hr
  refine G.eql [(0, .int (v10))] (by rw [e10]) ?_
  refine G.go tv_J6_bitCount_0f7a4 6 48 [(0, .int ((v10) + (((v10 : Int32).toUInt32 >>> (((16 : Int32) : Int32).toUInt32 &&& Int32.toUInt32 31)).toInt32)))] [] rfl ?_
  obtain ⟨v11, e11, hr⟩ := nm_s hr
  refine G.eql [(0, .int (v11))] (by rw [e11]) ?_
  refine G.go tv_J6_bitCount_0f7a4 3 52 [(0, .int (v11))] [.int ((v11) &&& ((63 : Int32)))] rfl ?_
  cases hr
  exact G.iret rfl rfl ⟨rfl, h, Fr.rf⟩ (tbd tv_J6_bitCount_0f7a4 rfl)
def tb_X10_isUsed : List (Nat × Instr × Nat) := [(0, .aload_n 0, 1), (1, .bipush 43, 2), (3, .invokevirtual 111, 3), (6, .iload_n 1, 1), (7, .bipush 8, 2), (9, .idiv, 1), (10, .baload, 1), (11, .iload_n 1, 1), (12, .bipush 8, 2), (14, .irem, 1), (15, .ishr, 1), (16, .iconst 1, 1), (17, .iand, 1), (18, .ifCond .eq 7, 3), (21, .iconst 1, 1), (22, .goto 4, 3), (25, .iconst 0, 1), (26, .ireturn, 1)]
theorem tv_X10_isUsed : Tv cX10_isUsed tb_X10_isUsed := by
  unfold Tv
  decide +kernel
theorem w_1258 : Cond.methodLink "LedgerFiles$View" 111 yX10_see ∈ TB := tp_5 152 (by decide +kernel) rfl
theorem w_912 : Cond.code yX10_see prog_12_method_5_code 2 (some (.array .byte)) ∈ TB := tp_4 46 rfl rfl
theorem cw_X10_111 : Cw RX10 111 yX10_see cX10_see 2 (some (.array .byte)) 1 := ⟨w_1258, w_912, w_155, by decide +kernel, by decide +kernel, by decide⟩
theorem w_910 : Cond.instanceMethod yX10_see ∈ TB := tp_4 44 (by decide +kernel) rfl
theorem w_911 : Cond.selects "LedgerFiles$View" yX10_see yX10_see ∈ TB := tp_4 45 (by decide +kernel) rfl
def d_X10_isUsed (N : Nat) (V : Nat → Rw) (D : CfT) (a0 : Int32) : Option (Int32) := seeB N V ((43 : Int32)) (fun y13 => ld y13 128 ((a0) / ((8 : Int32))) (fun v14 => if (((v14) >>> (((a0) - (a0) / ((8 : Int32)) * ((8 : Int32))) &&& 31)) &&& ((1 : Int32))) = 0 then some ((0 : Int32)) else some ((1 : Int32))))
set_option maxRecDepth 100000 in
set_option maxHeartbeats 4000000 in
theorem k_X10_isUsed (E : gE) (f : Nat → va_E) (N B gr : Nat) (C D : CfT) (A : MS) (hz : CfZ E N B gr) (h : CfV E f N B gr C) (hD : Dq D C) (hA : AR N B gr A C) (a0 : Int32) (r : Int32) (hr : d_X10_isUsed N (vA A) D a0 = some r) : Ct E 3 yX10_isUsed cX10_isUsed 2 (some .boolean) [.ref (gAd E (25)), .int (a0)] f (fun v g => v = some (.int r) ∧ CfV E g N B gr C ∧ Fr CfK f g, fun _ _ => False) := by
  obtain ⟨z1, z2, z3, z4, z5, z6, z7⟩ := id hz
  refine Ct.of (by decide) (Nat.le_of_ble_eq_true rfl) (fun sz => ?_)
  refine G.eql [(0, .ref (gAd E (25))), (1, .int (a0))] rfl ?_
  unfold d_X10_isUsed at hr
  refine G.go tv_X10_isUsed 2 3 [(0, .ref (gAd E (25))), (1, .int (a0))] [.int ((43 : Int32)), .ref (gAd E (25))] rfl ?_
  obtain ⟨y13, b13, e13, hr⟩ := seeB_s hr
  refine G.callV (25) [.int ((43 : Int32))] [] (k_see E _ N B gr C A hz h hA _ b13 _ e13) cls_X10 (by omega) (h.q25) cw_X10_111 w_910 w_911 (Nat.le_of_ble_eq_true rfl) rfl (Nat.le_of_ble_eq_true rfl) (tbd tv_X10_isUsed rfl) (fun v13w f13 q13 => ?_) (fun _ _ h => h.elim)
  obtain ⟨⟨k13, rfl, w13⟩, ha13, fa13⟩ := q13
  refine G.eqs [.ref (gAd E (k13))] rfl ?_
  refine G.go tv_X10_isUsed 2 9 [(0, .ref (gAd E (25))), (1, .int (a0))] [.int ((8 : Int32)), .int (a0), .ref (gAd E (k13))] rfl ?_
  refine G.idiv (by decide) (tbd tv_X10_isUsed rfl) ?_
  obtain ⟨v14, b14, e14, hr⟩ := ld_s hr
  refine G.arld hz ha13 (w13) b14 e14 (tbd tv_X10_isUsed rfl) ?_
  refine G.go tv_X10_isUsed 2 14 [(0, .ref (gAd E (25))), (1, .int (a0))] [.int ((8 : Int32)), .int (a0), .int (v14)] rfl ?_
  refine G.irem (by decide) (tbd tv_X10_isUsed rfl) ?_
  refine G.go tv_X10_isUsed 3 18 [(0, .ref (gAd E (25))), (1, .int (a0))] [.int (((v14) >>> (((a0) - (a0) / ((8 : Int32)) * ((8 : Int32))) &&& 31)) &&& ((1 : Int32)))] rfl ?_
  refine G.if_eq 25 (tbd tv_X10_isUsed rfl) (by decide) (fun c18 => ?_) (fun c18 => ?_)
  · replace hr := ite_t c18 hr
    refine G.go tv_X10_isUsed 1 26 [(0, .ref (gAd E (25))), (1, .int (a0))] [.int ((0 : Int32))] rfl ?_
    cases hr
    exact G.iret rfl rfl ⟨rfl, ha13, (Fr.rf.tr fa13 (fun _ h => h))⟩ (tbd tv_X10_isUsed rfl)
  · replace hr := ite_f c18 hr
    refine G.go tv_X10_isUsed 2 26 [(0, .ref (gAd E (25))), (1, .int (a0))] [.int ((1 : Int32))] rfl ?_
    cases hr
    exact G.iret rfl rfl ⟨rfl, ha13, (Fr.rf.tr fa13 (fun _ h => h))⟩ (tbd tv_X10_isUsed rfl)
def d_X10_isBlock (N : Nat) (V : Nat → Rw) (D : CfT) (a0 : Int32) : Option (Int32) := if a0 < 0 then some ((0 : Int32)) else if (nI (N)) ≤ a0 then some ((0 : Int32)) else some ((1 : Int32))
set_option maxRecDepth 100000 in
set_option maxHeartbeats 4000000 in
theorem k_X10_isBlock (E : gE) (f : Nat → va_E) (N B gr : Nat) (C D : CfT) (A : MS) (hz : CfZ E N B gr) (h : CfV E f N B gr C) (hD : Dq D C) (hA : AR N B gr A C) (a0 : Int32) (r : Int32) (hr : d_X10_isBlock N (vA A) D a0 = some r) : Ct E 1 yX10_isBlock cX10_isBlock 2 (some .boolean) [.ref (gAd E (25)), .int (a0)] f (fun v g => v = some (.int r) ∧ CfV E g N B gr C ∧ Fr CfK f g, fun _ _ => False) := by
  obtain ⟨z1, z2, z3, z4, z5, z6, z7⟩ := id hz
  refine Ct.of (by decide) (Nat.le_of_ble_eq_true rfl) (fun sz => ?_)
  refine G.eql [(0, .ref (gAd E (25))), (1, .int (a0))] rfl ?_
  unfold d_X10_isBlock at hr
  refine G.go tv_X10_isBlock 1 1 [(0, .ref (gAd E (25))), (1, .int (a0))] [.int (a0)] rfl ?_
  refine G.if_lt 17 (tbd tv_X10_isBlock rfl) (by decide) (fun c1 => ?_) (fun c1 => ?_)
  · replace hr := ite_t c1 hr
    refine G.go tv_X10_isBlock 1 18 [(0, .ref (gAd E (25))), (1, .int (a0))] [.int ((0 : Int32))] rfl ?_
    cases hr
    exact G.iret rfl rfl ⟨rfl, h, Fr.rf⟩ (tbd tv_X10_isBlock rfl)
  · replace hr := ite_f c1 hr
    refine G.go tv_X10_isBlock 2 6 [(0, .ref (gAd E (25))), (1, .int (a0))] [.ref (gAd E (25)), .int (a0)] rfl ?_
    refine G.getf cls_X10 (25) 5 (by omega) (h.q25) (by decide) rfl (tbd tv_X10_isBlock rfl) w_415 ?_
    refine G.alen (27) 2 (by omega) (h.q27) rfl rfl (tbd tv_X10_isBlock rfl) ?_
    refine G.eqs [.int (nI (N)), .int (a0)] rfl ?_
    refine G.cmp_ge 17 (tbd tv_X10_isBlock rfl) (by decide) (fun c10 => ?_) (fun c10 => ?_)
    · replace hr := ite_t c10 hr
      refine G.go tv_X10_isBlock 1 18 [(0, .ref (gAd E (25))), (1, .int (a0))] [.int ((0 : Int32))] rfl ?_
      cases hr
      exact G.iret rfl rfl ⟨rfl, h, Fr.rf⟩ (tbd tv_X10_isBlock rfl)
    · replace hr := ite_f c10 hr
      refine G.go tv_X10_isBlock 2 18 [(0, .ref (gAd E (25))), (1, .int (a0))] [.int ((1 : Int32))] rfl ?_
      cases hr
      exact G.iret rfl rfl ⟨rfl, h, Fr.rf⟩ (tbd tv_X10_isBlock rfl)
def tb_X7_blocksFor : List (Nat × Instr × Nat) := [(0, .iload_n 0, 1), (1, .sipush 128, 3), (4, .iadd, 1), (5, .iconst 1, 1), (6, .isub, 1), (7, .sipush 128, 3), (10, .idiv, 1), (11, .ireturn, 1)]
theorem tv_X7_blocksFor : Tv cX7_blocksFor tb_X7_blocksFor := by
  unfold Tv
  decide +kernel
def d_X7_blocksFor (N : Nat) (V : Nat → Rw) (D : CfT) (a0 : Int32) : Option (Int32) := some ((((a0) + ((128 : Int32))) - ((1 : Int32))) / ((128 : Int32)))
set_option maxRecDepth 100000 in
set_option maxHeartbeats 4000000 in
theorem k_X7_blocksFor (E : gE) (f : Nat → va_E) (N B gr : Nat) (C D : CfT) (A : MS) (hz : CfZ E N B gr) (h : CfV E f N B gr C) (hD : Dq D C) (hA : AR N B gr A C) (a0 : Int32) (r : Int32) (hr : d_X7_blocksFor N (vA A) D a0 = some r) : Ct E 1 yX7_blocksFor cX7_blocksFor 1 (some .int) [.int (a0)] f (fun v g => v = some (.int r) ∧ CfV E g N B gr C ∧ Fr CfK f g, fun _ _ => False) := by
  obtain ⟨z1, z2, z3, z4, z5, z6, z7⟩ := id hz
  refine Ct.of (by decide) (Nat.le_of_ble_eq_true rfl) (fun sz => ?_)
  refine G.eql [(0, .int (a0))] rfl ?_
  unfold d_X7_blocksFor at hr
  refine G.go tv_X7_blocksFor 6 10 [(0, .int (a0))] [.int ((128 : Int32)), .int (((a0) + ((128 : Int32))) - ((1 : Int32)))] rfl ?_
  refine G.idiv (by decide) (tbd tv_X7_blocksFor rfl) ?_
  cases hr
  exact G.iret rfl rfl ⟨rfl, h, Fr.rf⟩ (tbd tv_X7_blocksFor rfl)
def tb_X7_home : List (Nat × Instr × Nat) := [(0, .bipush 45, 2), (2, .iload_n 0, 1), (3, .iconst 1, 1), (4, .isub, 1), (5, .iconst 4, 1), (6, .idiv, 1), (7, .iadd, 1), (8, .ireturn, 1)]
theorem tv_X7_home : Tv cX7_home tb_X7_home := by
  unfold Tv
  decide +kernel
def d_X7_home (N : Nat) (V : Nat → Rw) (D : CfT) (a0 : Int32) : Option (Int32) := some (((45 : Int32)) + (((a0) - ((1 : Int32))) / ((4 : Int32))))
set_option maxRecDepth 100000 in
set_option maxHeartbeats 4000000 in
theorem k_X7_home (E : gE) (f : Nat → va_E) (N B gr : Nat) (C D : CfT) (A : MS) (hz : CfZ E N B gr) (h : CfV E f N B gr C) (hD : Dq D C) (hA : AR N B gr A C) (a0 : Int32) (r : Int32) (hr : d_X7_home N (vA A) D a0 = some r) : Ct E 1 yX7_home cX7_home 1 (some .int) [.int (a0)] f (fun v g => v = some (.int r) ∧ CfV E g N B gr C ∧ Fr CfK f g, fun _ _ => False) := by
  obtain ⟨z1, z2, z3, z4, z5, z6, z7⟩ := id hz
  refine Ct.of (by decide) (Nat.le_of_ble_eq_true rfl) (fun sz => ?_)
  refine G.eql [(0, .int (a0))] rfl ?_
  unfold d_X7_home at hr
  refine G.go tv_X7_home 5 6 [(0, .int (a0))] [.int ((4 : Int32)), .int ((a0) - ((1 : Int32))), .int ((45 : Int32))] rfl ?_
  refine G.idiv (by decide) (tbd tv_X7_home rfl) ?_
  refine G.go tv_X7_home 1 8 [(0, .int (a0))] [.int (((45 : Int32)) + (((a0) - ((1 : Int32))) / ((4 : Int32))))] rfl ?_
  cases hr
  exact G.iret rfl rfl ⟨rfl, h, Fr.rf⟩ (tbd tv_X7_home rfl)
def tb_X7_start : List (Nat × Instr × Nat) := [(0, .iload_n 0, 1), (1, .iconst 1, 1), (2, .isub, 1), (3, .iconst 4, 1), (4, .irem, 1), (5, .bipush 32, 2), (7, .imul, 1), (8, .ireturn, 1)]
theorem tv_X7_start : Tv cX7_start tb_X7_start := by
  unfold Tv
  decide +kernel
def d_X7_start (N : Nat) (V : Nat → Rw) (D : CfT) (a0 : Int32) : Option (Int32) := some ((((a0) - ((1 : Int32))) - ((a0) - ((1 : Int32))) / ((4 : Int32)) * ((4 : Int32))) * ((32 : Int32)))
set_option maxRecDepth 100000 in
set_option maxHeartbeats 4000000 in
theorem k_X7_start (E : gE) (f : Nat → va_E) (N B gr : Nat) (C D : CfT) (A : MS) (hz : CfZ E N B gr) (h : CfV E f N B gr C) (hD : Dq D C) (hA : AR N B gr A C) (a0 : Int32) (r : Int32) (hr : d_X7_start N (vA A) D a0 = some r) : Ct E 1 yX7_start cX7_start 1 (some .int) [.int (a0)] f (fun v g => v = some (.int r) ∧ CfV E g N B gr C ∧ Fr CfK f g, fun _ _ => False) := by
  obtain ⟨z1, z2, z3, z4, z5, z6, z7⟩ := id hz
  refine Ct.of (by decide) (Nat.le_of_ble_eq_true rfl) (fun sz => ?_)
  refine G.eql [(0, .int (a0))] rfl ?_
  unfold d_X7_start at hr
  refine G.go tv_X7_start 4 4 [(0, .int (a0))] [.int ((4 : Int32)), .int ((a0) - ((1 : Int32)))] rfl ?_
  refine G.irem (by decide) (tbd tv_X7_start rfl) ?_
  refine G.go tv_X7_start 2 8 [(0, .int (a0))] [.int ((((a0) - ((1 : Int32))) - ((a0) - ((1 : Int32))) / ((4 : Int32)) * ((4 : Int32))) * ((32 : Int32)))] rfl ?_
  cases hr
  exact G.iret rfl rfl ⟨rfl, h, Fr.rf⟩ (tbd tv_X7_start rfl)
def tb_X10_freeBlocks : List (Nat × Instr × Nat) := [(0, .aload_n 0, 1), (1, .bipush 43, 2), (3, .invokevirtual 111, 3), (6, .astore_n 1, 1), (7, .iconst 0, 1), (8, .istore_n 2, 1), (9, .iconst 0, 1), (10, .istore_n 3, 1), (11, .iload_n 3, 1), (12, .sipush 128, 3), (15, .if_icmp .ge 25, 3), (18, .iload_n 2, 1), (19, .bipush 8, 2), (21, .aload_n 1, 1), (22, .iload_n 3, 1), (23, .baload, 1), (24, .sipush 255, 3), (27, .iand, 1), (28, .invokestatic 114, 3), (31, .isub, 1), (32, .iadd, 1), (33, .istore_n 2, 1), (34, .iinc 3 1, 3), (37, .goto (-26), 3), (40, .iload_n 2, 1), (41, .ireturn, 1)]
theorem tv_X10_freeBlocks : Tv cX10_freeBlocks tb_X10_freeBlocks := by
  unfold Tv
  decide +kernel
theorem w_1416 : Cond.methodLink "LedgerFiles$View" 114 yJ6_bitCount_0f7a4 ∈ TB := tp_6 70 (by decide +kernel) rfl
theorem w_1418 : Cond.code yJ6_bitCount_0f7a4 prog_20_method_49_code 1 (some .int) ∈ TB := tp_6 72 rfl rfl
theorem w_176 : Cond.initialized "java/lang/Integer" ∈ TB := tp_1 30 (by decide +kernel) rfl
theorem cw_X10_114 : Cw RX10 114 yJ6_bitCount_0f7a4 cJ6_bitCount_0f7a4 1 (some .int) 1 := ⟨w_1416, w_1418, w_176, by decide +kernel, by decide +kernel, by decide⟩
theorem w_1417 : Cond.static yJ6_bitCount_0f7a4 ∈ TB := tp_6 71 (by decide +kernel) rfl
def d_X10_freeBlocks_11 (N : Nat) (V : Nat → Rw) (D : CfT) : Nat → (Nat → Int32) → Nat → Int32 → Int32 → Option (Int32)
  | 0, _, _, _, _ => none
  | n + 1, ga1, na1, x2, x3 => if ((128 : Int32)) ≤ x3 then some x2 else ld ga1 na1 x3 (fun v17 => bnd (d_J6_bitCount_0f7a4 N V D ((v17) &&& ((255 : Int32)))) (fun v18 => d_X10_freeBlocks_11 N V D n ga1 na1 ((x2) + (((8 : Int32)) - (v18))) (x3 + (1 : Int32))))
def d_X10_freeBlocks (N : Nat) (V : Nat → Rw) (D : CfT) : Option (Int32) := seeB N V ((43 : Int32)) (fun y16 => d_X10_freeBlocks_11 N V D fuL y16 128 ((0 : Int32)) ((0 : Int32)))
set_option maxRecDepth 100000 in
set_option maxHeartbeats 4000000 in
theorem l_X10_freeBlocks_11 (E : gE) (f0 : Nat → va_E) (sz : Nat) (QA : Nat → Prop) (N B gr : Nat) (C D : CfT) (A : MS) (hz : CfZ E N B gr) (hD : Dq D C) (hA : AR N B gr A C) : ∀ (n : Nat), ∀ (ga1 : Nat → Int32) (na1 : Nat) (x2 : Int32) (x3 : Int32) (r : Int32) (hr : d_X10_freeBlocks_11 N (vA A) D n ga1 na1 x2 x3 = some r) (f : Nat → va_E) (h : CfV E f N B gr C) (hf : Fr CfK f0 f) (ka1 : Nat) (wa1 : ArK N B gr C ka1 na1 ga1), G E (3, yX10_freeBlocks, 4, (some .int), sz, QA) cX10_freeBlocks (gO E (3, yX10_freeBlocks, 4, (some .int), sz, QA) (fun v g => v = some (.int r) ∧ CfV E g N B gr C ∧ Fr CfK f0 g, fun _ _ => False)) 11 [(1, .ref (gAd E (ka1))), (2, .int (x2)), (3, .int (x3))] [] f := by
  obtain ⟨z1, z2, z3, z4, z5, z6, z7⟩ := id hz
  intro n
  induction n with
  | zero =>
    intro ga1 na1 x2 x3 r hr f h hf ka1 wa1
    cases hr
  | succ n ih =>
    intro ga1 na1 x2 x3 r hr f h hf ka1 wa1
    unfold d_X10_freeBlocks_11 at hr
    refine G.go tv_X10_freeBlocks 2 15 [(1, .ref (gAd E (ka1))), (2, .int (x2)), (3, .int (x3))] [.int ((128 : Int32)), .int (x3)] rfl ?_
    refine G.cmp_ge 40 (tbd tv_X10_freeBlocks rfl) (by decide) (fun c15 => ?_) (fun c15 => ?_)
    · replace hr := ite_t c15 hr
      refine G.go tv_X10_freeBlocks 1 41 [(1, .ref (gAd E (ka1))), (2, .int (x2)), (3, .int (x3))] [.int (x2)] rfl ?_
      cases hr
      exact G.iret rfl rfl ⟨rfl, h, hf⟩ (tbd tv_X10_freeBlocks rfl)
    · replace hr := ite_f c15 hr
      refine G.go tv_X10_freeBlocks 4 23 [(1, .ref (gAd E (ka1))), (2, .int (x2)), (3, .int (x3))] [.int (x3), .ref (gAd E (ka1)), .int ((8 : Int32)), .int (x2)] rfl ?_
      obtain ⟨v17, b17, e17, hr⟩ := ld_s hr
      refine G.arld hz h (wa1) b17 e17 (tbd tv_X10_freeBlocks rfl) ?_
      refine G.go tv_X10_freeBlocks 2 28 [(1, .ref (gAd E (ka1))), (2, .int (x2)), (3, .int (x3))] [.int ((v17) &&& ((255 : Int32))), .int ((8 : Int32)), .int (x2)] rfl ?_
      obtain ⟨v18, hv18, hr⟩ := bnd_s hr
      refine G.callS [.int ((v17) &&& ((255 : Int32)))] [.int ((8 : Int32)), .int (x2)] (k_J6_bitCount_0f7a4 E _ N B gr C D A hz h hD hA ((v17) &&& ((255 : Int32))) v18 hv18) cw_X10_114 w_1417 (Nat.le_of_ble_eq_true rfl) rfl (Nat.le_of_ble_eq_true rfl) (tbd tv_X10_freeBlocks rfl) (fun v18w f18 q18 => ?_) (fun _ _ h => h.elim)
      obtain ⟨rfl, ha18, fa18⟩ := q18
      refine G.eqs [.int (v18), .int ((8 : Int32)), .int (x2)] rfl ?_
      refine G.go tv_X10_freeBlocks 5 11 [(1, .ref (gAd E (ka1))), (2, .int ((x2) + (((8 : Int32)) - (v18)))), (3, .int (x3 + (1 : Int32)))] [] rfl ?_
      refine G.less [(1, .ref (gAd E (ka1))), (2, .int ((x2) + (((8 : Int32)) - (v18)))), (3, .int (x3 + (1 : Int32)))] [0, 1, 2] rfl ?_
      exact ih _ _ _ _ _ hr _ ha18 (hf.tr fa18 (fun _ h => h)) ka1 wa1
set_option maxRecDepth 100000 in
set_option maxHeartbeats 4000000 in
theorem k_X10_freeBlocks (E : gE) (f : Nat → va_E) (N B gr : Nat) (C D : CfT) (A : MS) (hz : CfZ E N B gr) (h : CfV E f N B gr C) (hD : Dq D C) (hA : AR N B gr A C) (r : Int32) (hr : d_X10_freeBlocks N (vA A) D = some r) : Ct E 3 yX10_freeBlocks cX10_freeBlocks 4 (some .int) [.ref (gAd E (25))] f (fun v g => v = some (.int r) ∧ CfV E g N B gr C ∧ Fr CfK f g, fun _ _ => False) := by
  obtain ⟨z1, z2, z3, z4, z5, z6, z7⟩ := id hz
  refine Ct.of (by decide) (Nat.le_of_ble_eq_true rfl) (fun sz => ?_)
  refine G.eql [(0, .ref (gAd E (25)))] rfl ?_
  unfold d_X10_freeBlocks at hr
  refine G.go tv_X10_freeBlocks 2 3 [(0, .ref (gAd E (25)))] [.int ((43 : Int32)), .ref (gAd E (25))] rfl ?_
  obtain ⟨y16, b16, e16, hr⟩ := seeB_s hr
  refine G.callV (25) [.int ((43 : Int32))] [] (k_see E _ N B gr C A hz h hA _ b16 _ e16) cls_X10 (by omega) (h.q25) cw_X10_111 w_910 w_911 (Nat.le_of_ble_eq_true rfl) rfl (Nat.le_of_ble_eq_true rfl) (tbd tv_X10_freeBlocks rfl) (fun v16w f16 q16 => ?_) (fun _ _ h => h.elim)
  obtain ⟨⟨k16, rfl, w16⟩, ha16, fa16⟩ := q16
  refine G.eqs [.ref (gAd E (k16))] rfl ?_
  refine G.go tv_X10_freeBlocks 5 11 [(0, .ref (gAd E (25))), (1, .ref (gAd E (k16))), (2, .int ((0 : Int32))), (3, .int ((0 : Int32)))] [] rfl ?_
  refine G.less [(1, .ref (gAd E (k16))), (2, .int ((0 : Int32))), (3, .int ((0 : Int32)))] [1, 2, 3] rfl ?_
  exact l_X10_freeBlocks_11 E f sz _ N B gr C D A hz hD hA _ _ _ _ _ _ hr _ ha16 (Fr.rf.tr fa16 (fun _ h => h)) k16 w16
def tb_X10_lowest : List (Nat × Instr × Nat) := [(0, .aload_n 0, 1), (1, .bipush 43, 2), (3, .invokevirtual 111, 3), (6, .astore_n 1, 1), (7, .bipush 61, 2), (9, .istore_n 2, 1), (10, .iload_n 2, 1), (11, .aload_n 0, 1), (12, .getfield 45, 3), (15, .arraylength, 1), (16, .if_icmp .ge 57, 3), (19, .aload_n 1, 1), (20, .iload_n 2, 1), (21, .bipush 8, 2), (23, .idiv, 1), (24, .baload, 1), (25, .iconst (-1), 1), (26, .if_icmp .ne 11, 3), (29, .iload_n 2, 1), (30, .bipush 7, 2), (32, .ior, 1), (33, .istore_n 2, 1), (34, .goto 33, 3), (37, .aload_n 1, 1), (38, .iload_n 2, 1), (39, .bipush 8, 2), (41, .idiv, 1), (42, .baload, 1), (43, .iload_n 2, 1), (44, .bipush 8, 2), (46, .irem, 1), (47, .ishr, 1), (48, .iconst 1, 1), (49, .iand, 1), (50, .ifCond .ne 17, 3), (53, .aload_n 0, 1), (54, .getfield 30, 3), (57, .getfield 127, 3), (60, .iload_n 2, 1), (61, .baload, 1), (62, .ifCond .ne 5, 3), (65, .iload_n 2, 1), (66, .ireturn, 1), (67, .iinc 2 1, 3), (70, .goto (-60), 3), (73, .iconst (-1), 1), (74, .ireturn, 1)]
theorem tv_X10_lowest : Tv cX10_lowest tb_X10_lowest := by
  unfold Tv
  decide +kernel
theorem w_370 : Cond.fieldLink "LedgerFiles$View" 127 "LedgerFiles$Queue" "rests" "[Z" ∈ TB := tp_1 224 (by decide +kernel) rfl
def d_X10_lowest_10 (N : Nat) (V : Nat → Rw) (rs : Nat → Nat) (D : CfT) : Nat → (Nat → Int32) → Nat → Int32 → Option (Int32)
  | 0, _, _, _ => none
  | n + 1, ga1, na1, x2 => if (nI (N)) ≤ x2 then some ((-1 : Int32)) else ld ga1 na1 ((x2) / ((8 : Int32))) (fun v21 => if v21 = ((-1 : Int32)) then d_X10_lowest_10 N V rs D n ga1 na1 (((x2) ||| ((7 : Int32))) + (1 : Int32)) else ld ga1 na1 ((x2) / ((8 : Int32))) (fun v22 => if (((v22) >>> (((x2) - (x2) / ((8 : Int32)) * ((8 : Int32))) &&& 31)) &&& ((1 : Int32))) = 0 then ld (rsA rs) N x2 (fun v23 => if v23 = 0 then some x2 else d_X10_lowest_10 N V rs D n ga1 na1 (x2 + (1 : Int32))) else d_X10_lowest_10 N V rs D n ga1 na1 (x2 + (1 : Int32))))
def d_X10_lowest (N : Nat) (V : Nat → Rw) (rs : Nat → Nat) (D : CfT) : Option (Int32) := seeB N V ((43 : Int32)) (fun y20 => d_X10_lowest_10 N V rs D fuL y20 128 ((61 : Int32)))
set_option maxRecDepth 100000 in
set_option maxHeartbeats 4000000 in
theorem l_X10_lowest_10 (E : gE) (f0 : Nat → va_E) (sz : Nat) (QA : Nat → Prop) (N B gr : Nat) (C D : CfT) (A : MS) (hz : CfZ E N B gr) (hD : Dq D C) (hA : AR N B gr A C) : ∀ (n : Nat), ∀ (ga1 : Nat → Int32) (na1 : Nat) (x2 : Int32) (r : Int32) (hr : d_X10_lowest_10 N (vA A) A.2.2.2.2.1 D n ga1 na1 x2 = some r) (f : Nat → va_E) (h : CfV E f N B gr C) (hf : Fr CfK f0 f) (ka1 : Nat) (wa1 : ArK N B gr C ka1 na1 ga1), G E (3, yX10_lowest, 3, (some .int), sz, QA) cX10_lowest (gO E (3, yX10_lowest, 3, (some .int), sz, QA) (fun v g => v = some (.int r) ∧ CfV E g N B gr C ∧ Fr CfK f0 g, fun _ _ => False)) 10 [(0, .ref (gAd E (25))), (1, .ref (gAd E (ka1))), (2, .int (x2))] [] f := by
  obtain ⟨z1, z2, z3, z4, z5, z6, z7⟩ := id hz
  intro n
  induction n with
  | zero =>
    intro ga1 na1 x2 r hr f h hf ka1 wa1
    cases hr
  | succ n ih =>
    intro ga1 na1 x2 r hr f h hf ka1 wa1
    unfold d_X10_lowest_10 at hr
    refine G.go tv_X10_lowest 2 12 [(0, .ref (gAd E (25))), (1, .ref (gAd E (ka1))), (2, .int (x2))] [.ref (gAd E (25)), .int (x2)] rfl ?_
    refine G.getf cls_X10 (25) 5 (by omega) (h.q25) (by decide) rfl (tbd tv_X10_lowest rfl) w_415 ?_
    refine G.alen (27) 2 (by omega) (h.q27) rfl rfl (tbd tv_X10_lowest rfl) ?_
    refine G.eqs [.int (nI (N)), .int (x2)] rfl ?_
    refine G.cmp_ge 73 (tbd tv_X10_lowest rfl) (by decide) (fun c16 => ?_) (fun c16 => ?_)
    · replace hr := ite_t c16 hr
      refine G.go tv_X10_lowest 1 74 [(0, .ref (gAd E (25))), (1, .ref (gAd E (ka1))), (2, .int (x2))] [.int ((-1 : Int32))] rfl ?_
      cases hr
      exact G.iret rfl rfl ⟨rfl, h, hf⟩ (tbd tv_X10_lowest rfl)
    · replace hr := ite_f c16 hr
      refine G.go tv_X10_lowest 3 23 [(0, .ref (gAd E (25))), (1, .ref (gAd E (ka1))), (2, .int (x2))] [.int ((8 : Int32)), .int (x2), .ref (gAd E (ka1))] rfl ?_
      refine G.idiv (by decide) (tbd tv_X10_lowest rfl) ?_
      obtain ⟨v21, b21, e21, hr⟩ := ld_s hr
      refine G.arld hz h (wa1) b21 e21 (tbd tv_X10_lowest rfl) ?_
      refine G.go tv_X10_lowest 1 26 [(0, .ref (gAd E (25))), (1, .ref (gAd E (ka1))), (2, .int (x2))] [.int ((-1 : Int32)), .int (v21)] rfl ?_
      refine G.cmp_ne 37 (tbd tv_X10_lowest rfl) (by decide) (fun c26 => ?_) (fun c26 => ?_)
      · replace hr := ite_f c26 hr
        refine G.go tv_X10_lowest 3 41 [(0, .ref (gAd E (25))), (1, .ref (gAd E (ka1))), (2, .int (x2))] [.int ((8 : Int32)), .int (x2), .ref (gAd E (ka1))] rfl ?_
        refine G.idiv (by decide) (tbd tv_X10_lowest rfl) ?_
        obtain ⟨v22, b22, e22, hr⟩ := ld_s hr
        refine G.arld hz h (wa1) b22 e22 (tbd tv_X10_lowest rfl) ?_
        refine G.go tv_X10_lowest 2 46 [(0, .ref (gAd E (25))), (1, .ref (gAd E (ka1))), (2, .int (x2))] [.int ((8 : Int32)), .int (x2), .int (v22)] rfl ?_
        refine G.irem (by decide) (tbd tv_X10_lowest rfl) ?_
        refine G.go tv_X10_lowest 3 50 [(0, .ref (gAd E (25))), (1, .ref (gAd E (ka1))), (2, .int (x2))] [.int (((v22) >>> (((x2) - (x2) / ((8 : Int32)) * ((8 : Int32))) &&& 31)) &&& ((1 : Int32)))] rfl ?_
        refine G.if_ne 67 (tbd tv_X10_lowest rfl) (by decide) (fun c50 => ?_) (fun c50 => ?_)
        · replace hr := ite_f c50 hr
          refine G.go tv_X10_lowest 2 10 [(0, .ref (gAd E (25))), (1, .ref (gAd E (ka1))), (2, .int (x2 + (1 : Int32)))] [] rfl ?_
          refine G.less [(0, .ref (gAd E (25))), (1, .ref (gAd E (ka1))), (2, .int (x2 + (1 : Int32)))] [0, 1, 2] rfl ?_
          exact ih _ _ _ _ hr _ h hf ka1 wa1
        · replace hr := ite_t c50 hr
          refine G.go tv_X10_lowest 1 54 [(0, .ref (gAd E (25))), (1, .ref (gAd E (ka1))), (2, .int (x2))] [.ref (gAd E (25))] rfl ?_
          refine G.getf cls_X10 (25) 3 (by omega) (h.q25) (by decide) rfl (tbd tv_X10_lowest rfl) w_413 ?_
          refine G.getf cls_X9 (17) 9 (by omega) (h.q17) (by decide) rfl (tbd tv_X10_lowest rfl) w_370 ?_
          refine G.go tv_X10_lowest 1 61 [(0, .ref (gAd E (25))), (1, .ref (gAd E (ka1))), (2, .int (x2))] [.int (x2), .ref (gAd E (23))] rfl ?_
          obtain ⟨v23, b23, e23, hr⟩ := ld_s hr
          refine G.zaldP (23) (by omega) (h.q23) (hA.r23 z2) b23 e23 (tbd tv_X10_lowest rfl) ?_
          refine G.if_ne 67 (tbd tv_X10_lowest rfl) (by decide) (fun c62 => ?_) (fun c62 => ?_)
          · replace hr := ite_f c62 hr
            refine G.go tv_X10_lowest 2 10 [(0, .ref (gAd E (25))), (1, .ref (gAd E (ka1))), (2, .int (x2 + (1 : Int32)))] [] rfl ?_
            refine G.less [(0, .ref (gAd E (25))), (1, .ref (gAd E (ka1))), (2, .int (x2 + (1 : Int32)))] [0, 1, 2] rfl ?_
            exact ih _ _ _ _ hr _ h hf ka1 wa1
          · replace hr := ite_t c62 hr
            refine G.go tv_X10_lowest 1 66 [(0, .ref (gAd E (25))), (1, .ref (gAd E (ka1))), (2, .int (x2))] [.int (x2)] rfl ?_
            cases hr
            exact G.iret rfl rfl ⟨rfl, h, hf⟩ (tbd tv_X10_lowest rfl)
      · replace hr := ite_t c26 hr
        refine G.go tv_X10_lowest 7 10 [(0, .ref (gAd E (25))), (1, .ref (gAd E (ka1))), (2, .int (((x2) ||| ((7 : Int32))) + (1 : Int32)))] [] rfl ?_
        refine G.less [(0, .ref (gAd E (25))), (1, .ref (gAd E (ka1))), (2, .int (((x2) ||| ((7 : Int32))) + (1 : Int32)))] [0, 1, 2] rfl ?_
        exact ih _ _ _ _ hr _ h hf ka1 wa1
set_option maxRecDepth 100000 in
set_option maxHeartbeats 4000000 in
theorem k_X10_lowest (E : gE) (f : Nat → va_E) (N B gr : Nat) (C D : CfT) (A : MS) (hz : CfZ E N B gr) (h : CfV E f N B gr C) (hD : Dq D C) (hA : AR N B gr A C) (r : Int32) (hr : d_X10_lowest N (vA A) A.2.2.2.2.1 D = some r) : Ct E 3 yX10_lowest cX10_lowest 3 (some .int) [.ref (gAd E (25))] f (fun v g => v = some (.int r) ∧ CfV E g N B gr C ∧ Fr CfK f g, fun _ _ => False) := by
  obtain ⟨z1, z2, z3, z4, z5, z6, z7⟩ := id hz
  refine Ct.of (by decide) (Nat.le_of_ble_eq_true rfl) (fun sz => ?_)
  refine G.eql [(0, .ref (gAd E (25)))] rfl ?_
  unfold d_X10_lowest at hr
  refine G.go tv_X10_lowest 2 3 [(0, .ref (gAd E (25)))] [.int ((43 : Int32)), .ref (gAd E (25))] rfl ?_
  obtain ⟨y20, b20, e20, hr⟩ := seeB_s hr
  refine G.callV (25) [.int ((43 : Int32))] [] (k_see E _ N B gr C A hz h hA _ b20 _ e20) cls_X10 (by omega) (h.q25) cw_X10_111 w_910 w_911 (Nat.le_of_ble_eq_true rfl) rfl (Nat.le_of_ble_eq_true rfl) (tbd tv_X10_lowest rfl) (fun v20w f20 q20 => ?_) (fun _ _ h => h.elim)
  obtain ⟨⟨k20, rfl, w20⟩, ha20, fa20⟩ := q20
  refine G.eqs [.ref (gAd E (k20))] rfl ?_
  refine G.go tv_X10_lowest 3 10 [(0, .ref (gAd E (25))), (1, .ref (gAd E (k20))), (2, .int ((61 : Int32)))] [] rfl ?_
  refine G.less [(0, .ref (gAd E (25))), (1, .ref (gAd E (k20))), (2, .int ((61 : Int32)))] [0, 1, 2] rfl ?_
  exact l_X10_lowest_10 E f sz _ N B gr C D A hz hD hA _ _ _ _ _ hr _ ha20 (Fr.rf.tr fa20 (fun _ h => h)) k20 w20
def d_X5_isOpen (N : Nat) (V : Nat → Rw) (D : CfT) (a0 : Int32) : Option (Int32) := if a0 < 0 then some ((0 : Int32)) else if ((32 : Int32)) ≤ a0 then some ((0 : Int32)) else ld (cA D 34) 32 a0 (fun v24 => if v24 = 0 then some ((0 : Int32)) else some ((1 : Int32)))
set_option maxRecDepth 100000 in
set_option maxHeartbeats 4000000 in
theorem k_X5_isOpen (E : gE) (f : Nat → va_E) (N B gr : Nat) (C D : CfT) (A : MS) (hz : CfZ E N B gr) (h : CfV E f N B gr C) (hD : Dq D C) (hA : AR N B gr A C) (a0 : Int32) (r : Int32) (hr : d_X5_isOpen N (vA A) D a0 = some r) : Ct E 1 yX5_isOpen cX5_isOpen 2 (some .boolean) [.ref (gAd E (32)), .int (a0)] f (fun v g => v = some (.int r) ∧ CfV E g N B gr C ∧ Fr CfK f g, fun _ _ => False) := by
  obtain ⟨z1, z2, z3, z4, z5, z6, z7⟩ := id hz
  refine Ct.of (by decide) (Nat.le_of_ble_eq_true rfl) (fun sz => ?_)
  refine G.eql [(0, .ref (gAd E (32))), (1, .int (a0))] rfl ?_
  unfold d_X5_isOpen at hr
  refine G.go tv_X5_isOpen 1 1 [(0, .ref (gAd E (32))), (1, .int (a0))] [.int (a0)] rfl ?_
  refine G.if_lt 23 (tbd tv_X5_isOpen rfl) (by decide) (fun c1 => ?_) (fun c1 => ?_)
  · replace hr := ite_t c1 hr
    refine G.go tv_X5_isOpen 1 24 [(0, .ref (gAd E (32))), (1, .int (a0))] [.int ((0 : Int32))] rfl ?_
    cases hr
    exact G.iret rfl rfl ⟨rfl, h, Fr.rf⟩ (tbd tv_X5_isOpen rfl)
  · replace hr := ite_f c1 hr
    refine G.go tv_X5_isOpen 2 7 [(0, .ref (gAd E (32))), (1, .int (a0))] [.int ((32 : Int32)), .int (a0)] rfl ?_
    refine G.cmp_ge 23 (tbd tv_X5_isOpen rfl) (by decide) (fun c7 => ?_) (fun c7 => ?_)
    · replace hr := ite_t c7 hr
      refine G.go tv_X5_isOpen 1 24 [(0, .ref (gAd E (32))), (1, .int (a0))] [.int ((0 : Int32))] rfl ?_
      cases hr
      exact G.iret rfl rfl ⟨rfl, h, Fr.rf⟩ (tbd tv_X5_isOpen rfl)
    · replace hr := ite_f c7 hr
      refine G.go tv_X5_isOpen 1 11 [(0, .ref (gAd E (32))), (1, .int (a0))] [.ref (gAd E (32))] rfl ?_
      refine G.getf cls_X5 (32) 1 (by omega) (h.q32) (by decide) rfl (tbd tv_X5_isOpen rfl) w_457 ?_
      refine G.go tv_X5_isOpen 1 15 [(0, .ref (gAd E (32))), (1, .int (a0))] [.int (a0), .ref (gAd E (34))] rfl ?_
      obtain ⟨v24, b24, e24, hr⟩ := ld_s hr
      refine G.ialdE (34) (by omega) ((h.q34).trans (congrArg (oI (gDA E) (32)) (hD.2 34 (by decide)))) b24 e24 (tbd tv_X5_isOpen rfl) ?_
      refine G.if_eq 23 (tbd tv_X5_isOpen rfl) (by decide) (fun c16 => ?_) (fun c16 => ?_)
      · replace hr := ite_t c16 hr
        refine G.go tv_X5_isOpen 1 24 [(0, .ref (gAd E (32))), (1, .int (a0))] [.int ((0 : Int32))] rfl ?_
        cases hr
        exact G.iret rfl rfl ⟨rfl, h, Fr.rf⟩ (tbd tv_X5_isOpen rfl)
      · replace hr := ite_f c16 hr
        refine G.go tv_X5_isOpen 2 24 [(0, .ref (gAd E (32))), (1, .int (a0))] [.int ((1 : Int32))] rfl ?_
        cases hr
        exact G.iret rfl rfl ⟨rfl, h, Fr.rf⟩ (tbd tv_X5_isOpen rfl)
def d_X5_handlesOn_4 (N : Nat) (V : Nat → Rw) (D : CfT) : Nat → Int32 → Int32 → Int32 → Option (Int32)
  | 0, _, _, _ => none
  | n + 1, x1, x2, x3 => if ((32 : Int32)) ≤ x3 then some x2 else ld (cA D 34) 32 x3 (fun v25 => if v25 = x1 then d_X5_handlesOn_4 N V D n x1 (x2 + (1 : Int32)) (x3 + (1 : Int32)) else d_X5_handlesOn_4 N V D n x1 x2 (x3 + (1 : Int32)))
def d_X5_handlesOn (N : Nat) (V : Nat → Rw) (D : CfT) (a0 : Int32) : Option (Int32) := d_X5_handlesOn_4 N V D fuL a0 ((0 : Int32)) ((0 : Int32))
set_option maxRecDepth 100000 in
set_option maxHeartbeats 4000000 in
theorem l_X5_handlesOn_4 (E : gE) (f0 : Nat → va_E) (sz : Nat) (QA : Nat → Prop) (N B gr : Nat) (C D : CfT) (A : MS) (hz : CfZ E N B gr) (hD : Dq D C) (hA : AR N B gr A C) : ∀ (n : Nat), ∀ (x1 : Int32) (x2 : Int32) (x3 : Int32) (r : Int32) (hr : d_X5_handlesOn_4 N (vA A) D n x1 x2 x3 = some r) (f : Nat → va_E) (h : CfV E f N B gr C) (hf : Fr CfK f0 f), G E (1, yX5_handlesOn, 4, (some .int), sz, QA) cX5_handlesOn (gO E (1, yX5_handlesOn, 4, (some .int), sz, QA) (fun v g => v = some (.int r) ∧ CfV E g N B gr C ∧ Fr CfK f0 g, fun _ _ => False)) 4 [(0, .ref (gAd E (32))), (1, .int (x1)), (2, .int (x2)), (3, .int (x3))] [] f := by
  obtain ⟨z1, z2, z3, z4, z5, z6, z7⟩ := id hz
  intro n
  induction n with
  | zero =>
    intro x1 x2 x3 r hr f h hf
    cases hr
  | succ n ih =>
    intro x1 x2 x3 r hr f h hf
    unfold d_X5_handlesOn_4 at hr
    refine G.go tv_X5_handlesOn 2 7 [(0, .ref (gAd E (32))), (1, .int (x1)), (2, .int (x2)), (3, .int (x3))] [.int ((32 : Int32)), .int (x3)] rfl ?_
    refine G.cmp_ge 29 (tbd tv_X5_handlesOn rfl) (by decide) (fun c7 => ?_) (fun c7 => ?_)
    · replace hr := ite_t c7 hr
      refine G.go tv_X5_handlesOn 1 30 [(0, .ref (gAd E (32))), (1, .int (x1)), (2, .int (x2)), (3, .int (x3))] [.int (x2)] rfl ?_
      cases hr
      exact G.iret rfl rfl ⟨rfl, h, hf⟩ (tbd tv_X5_handlesOn rfl)
    · replace hr := ite_f c7 hr
      refine G.go tv_X5_handlesOn 1 11 [(0, .ref (gAd E (32))), (1, .int (x1)), (2, .int (x2)), (3, .int (x3))] [.ref (gAd E (32))] rfl ?_
      refine G.getf cls_X5 (32) 1 (by omega) (h.q32) (by decide) rfl (tbd tv_X5_handlesOn rfl) w_457 ?_
      refine G.go tv_X5_handlesOn 1 15 [(0, .ref (gAd E (32))), (1, .int (x1)), (2, .int (x2)), (3, .int (x3))] [.int (x3), .ref (gAd E (34))] rfl ?_
      obtain ⟨v25, b25, e25, hr⟩ := ld_s hr
      refine G.ialdE (34) (by omega) ((h.q34).trans (congrArg (oI (gDA E) (32)) (hD.2 34 (by decide)))) b25 e25 (tbd tv_X5_handlesOn rfl) ?_
      refine G.go tv_X5_handlesOn 1 17 [(0, .ref (gAd E (32))), (1, .int (x1)), (2, .int (x2)), (3, .int (x3))] [.int (x1), .int (v25)] rfl ?_
      refine G.cmp_ne 23 (tbd tv_X5_handlesOn rfl) (by decide) (fun c17 => ?_) (fun c17 => ?_)
      · replace hr := ite_f c17 hr
        refine G.go tv_X5_handlesOn 2 4 [(0, .ref (gAd E (32))), (1, .int (x1)), (2, .int (x2)), (3, .int (x3 + (1 : Int32)))] [] rfl ?_
        refine G.less [(0, .ref (gAd E (32))), (1, .int (x1)), (2, .int (x2)), (3, .int (x3 + (1 : Int32)))] [0, 1, 2, 3] rfl ?_
        exact ih _ _ _ _ hr _ h hf
      · replace hr := ite_t c17 hr
        refine G.go tv_X5_handlesOn 3 4 [(0, .ref (gAd E (32))), (1, .int (x1)), (2, .int (x2 + (1 : Int32))), (3, .int (x3 + (1 : Int32)))] [] rfl ?_
        refine G.less [(0, .ref (gAd E (32))), (1, .int (x1)), (2, .int (x2 + (1 : Int32))), (3, .int (x3 + (1 : Int32)))] [0, 1, 2, 3] rfl ?_
        exact ih _ _ _ _ hr _ h hf
set_option maxRecDepth 100000 in
set_option maxHeartbeats 4000000 in
theorem k_X5_handlesOn (E : gE) (f : Nat → va_E) (N B gr : Nat) (C D : CfT) (A : MS) (hz : CfZ E N B gr) (h : CfV E f N B gr C) (hD : Dq D C) (hA : AR N B gr A C) (a0 : Int32) (r : Int32) (hr : d_X5_handlesOn N (vA A) D a0 = some r) : Ct E 1 yX5_handlesOn cX5_handlesOn 4 (some .int) [.ref (gAd E (32)), .int (a0)] f (fun v g => v = some (.int r) ∧ CfV E g N B gr C ∧ Fr CfK f g, fun _ _ => False) := by
  obtain ⟨z1, z2, z3, z4, z5, z6, z7⟩ := id hz
  refine Ct.of (by decide) (Nat.le_of_ble_eq_true rfl) (fun sz => ?_)
  refine G.eql [(0, .ref (gAd E (32))), (1, .int (a0))] rfl ?_
  unfold d_X5_handlesOn at hr
  refine G.go tv_X5_handlesOn 4 4 [(0, .ref (gAd E (32))), (1, .int (a0)), (2, .int ((0 : Int32))), (3, .int ((0 : Int32)))] [] rfl ?_
  refine G.less [(0, .ref (gAd E (32))), (1, .int (a0)), (2, .int ((0 : Int32))), (3, .int ((0 : Int32)))] [0, 1, 2, 3] rfl ?_
  exact l_X5_handlesOn_4 E f sz _ N B gr C D A hz hD hA _ _ _ _ _ hr _ h Fr.rf
def d_X5_times (N : Nat) (V : Nat → Rw) (D : CfT) (a0 : Int32) : Option (Int32) := ld (cA D 33) 65 a0 (fun v26 => bnd (d_X5_handlesOn N V D a0) (fun v27 => some ((v26) + (v27))))
set_option maxRecDepth 100000 in
set_option maxHeartbeats 4000000 in
theorem k_X5_times (E : gE) (f : Nat → va_E) (N B gr : Nat) (C D : CfT) (A : MS) (hz : CfZ E N B gr) (h : CfV E f N B gr C) (hD : Dq D C) (hA : AR N B gr A C) (a0 : Int32) (r : Int32) (hr : d_X5_times N (vA A) D a0 = some r) : Ct E 2 yX5_times cX5_times 2 (some .int) [.ref (gAd E (32)), .int (a0)] f (fun v g => v = some (.int r) ∧ CfV E g N B gr C ∧ Fr CfK f g, fun _ _ => False) := by
  obtain ⟨z1, z2, z3, z4, z5, z6, z7⟩ := id hz
  refine Ct.of (by decide) (Nat.le_of_ble_eq_true rfl) (fun sz => ?_)
  refine G.eql [(0, .ref (gAd E (32))), (1, .int (a0))] rfl ?_
  unfold d_X5_times at hr
  refine G.go tv_X5_times 1 1 [(0, .ref (gAd E (32))), (1, .int (a0))] [.ref (gAd E (32))] rfl ?_
  refine G.getf cls_X5 (32) 0 (by omega) (h.q32) (by decide) rfl (tbd tv_X5_times rfl) w_455 ?_
  refine G.go tv_X5_times 1 5 [(0, .ref (gAd E (32))), (1, .int (a0))] [.int (a0), .ref (gAd E (33))] rfl ?_
  obtain ⟨v26, b26, e26, hr⟩ := ld_s hr
  refine G.ialdE (33) (by omega) ((h.q33).trans (congrArg (oI (gDA E) (65)) (hD.2 33 (by decide)))) b26 e26 (tbd tv_X5_times rfl) ?_
  refine G.go tv_X5_times 2 8 [(0, .ref (gAd E (32))), (1, .int (a0))] [.int (a0), .ref (gAd E (32)), .int (v26)] rfl ?_
  obtain ⟨v27, hv27, hr⟩ := bnd_s hr
  refine G.callV (32) [.int (a0)] [.int (v26)] (k_X5_handlesOn E _ N B gr C D A hz h hD hA a0 v27 hv27) cls_X5 (by omega) (h.q32) cw_X5_30 w_934 w_17 (Nat.le_of_ble_eq_true rfl) rfl (Nat.le_of_ble_eq_true rfl) (tbd tv_X5_times rfl) (fun v27w f27 q27 => ?_) (fun _ _ h => h.elim)
  obtain ⟨rfl, ha27, fa27⟩ := q27
  refine G.eqs [.int (v27), .int (v26)] rfl ?_
  refine G.go tv_X5_times 1 12 [(0, .ref (gAd E (32))), (1, .int (a0))] [.int ((v26) + (v27))] rfl ?_
  cases hr
  exact G.iret rfl rfl ⟨rfl, ha27, (Fr.rf.tr fa27 (fun _ h => h))⟩ (tbd tv_X5_times rfl)
def d_X5_openHandles (N : Nat) (V : Nat → Rw) (D : CfT) : Option (Int32) := bnd (d_X5_handlesOn N V D ((0 : Int32))) (fun v28 => some (((32 : Int32)) - (v28)))
set_option maxRecDepth 100000 in
set_option maxHeartbeats 4000000 in
theorem k_X5_openHandles (E : gE) (f : Nat → va_E) (N B gr : Nat) (C D : CfT) (A : MS) (hz : CfZ E N B gr) (h : CfV E f N B gr C) (hD : Dq D C) (hA : AR N B gr A C) (r : Int32) (hr : d_X5_openHandles N (vA A) D = some r) : Ct E 2 yX5_openHandles cX5_openHandles 1 (some .int) [.ref (gAd E (32))] f (fun v g => v = some (.int r) ∧ CfV E g N B gr C ∧ Fr CfK f g, fun _ _ => False) := by
  obtain ⟨z1, z2, z3, z4, z5, z6, z7⟩ := id hz
  refine Ct.of (by decide) (Nat.le_of_ble_eq_true rfl) (fun sz => ?_)
  refine G.eql [(0, .ref (gAd E (32)))] rfl ?_
  unfold d_X5_openHandles at hr
  refine G.go tv_X5_openHandles 3 4 [(0, .ref (gAd E (32)))] [.int ((0 : Int32)), .ref (gAd E (32)), .int ((32 : Int32))] rfl ?_
  obtain ⟨v28, hv28, hr⟩ := bnd_s hr
  refine G.callV (32) [.int ((0 : Int32))] [.int ((32 : Int32))] (k_X5_handlesOn E _ N B gr C D A hz h hD hA ((0 : Int32)) v28 hv28) cls_X5 (by omega) (h.q32) cw_X5_30 w_934 w_17 (Nat.le_of_ble_eq_true rfl) rfl (Nat.le_of_ble_eq_true rfl) (tbd tv_X5_openHandles rfl) (fun v28w f28 q28 => ?_) (fun _ _ h => h.elim)
  obtain ⟨rfl, ha28, fa28⟩ := q28
  refine G.eqs [.int (v28), .int ((32 : Int32))] rfl ?_
  refine G.go tv_X5_openHandles 1 8 [(0, .ref (gAd E (32)))] [.int (((32 : Int32)) - (v28))] rfl ?_
  cases hr
  exact G.iret rfl rfl ⟨rfl, ha28, (Fr.rf.tr fa28 (fun _ h => h))⟩ (tbd tv_X5_openHandles rfl)
def d_X5_lowestFree_2 (N : Nat) (V : Nat → Rw) (D : CfT) : Nat → Int32 → Option (Int32)
  | 0, _ => none
  | n + 1, x1 => if ((32 : Int32)) ≤ x1 then some ((-1 : Int32)) else ld (cA D 34) 32 x1 (fun v29 => if v29 = 0 then some x1 else d_X5_lowestFree_2 N V D n (x1 + (1 : Int32)))
def d_X5_lowestFree (N : Nat) (V : Nat → Rw) (D : CfT) : Option (Int32) := d_X5_lowestFree_2 N V D fuL ((0 : Int32))
set_option maxRecDepth 100000 in
set_option maxHeartbeats 4000000 in
theorem l_X5_lowestFree_2 (E : gE) (f0 : Nat → va_E) (sz : Nat) (QA : Nat → Prop) (N B gr : Nat) (C D : CfT) (A : MS) (hz : CfZ E N B gr) (hD : Dq D C) (hA : AR N B gr A C) : ∀ (n : Nat), ∀ (x1 : Int32) (r : Int32) (hr : d_X5_lowestFree_2 N (vA A) D n x1 = some r) (f : Nat → va_E) (h : CfV E f N B gr C) (hf : Fr CfK f0 f), G E (1, yX5_lowestFree, 2, (some .int), sz, QA) cX5_lowestFree (gO E (1, yX5_lowestFree, 2, (some .int), sz, QA) (fun v g => v = some (.int r) ∧ CfV E g N B gr C ∧ Fr CfK f0 g, fun _ _ => False)) 2 [(0, .ref (gAd E (32))), (1, .int (x1))] [] f := by
  obtain ⟨z1, z2, z3, z4, z5, z6, z7⟩ := id hz
  intro n
  induction n with
  | zero =>
    intro x1 r hr f h hf
    cases hr
  | succ n ih =>
    intro x1 r hr f h hf
    unfold d_X5_lowestFree_2 at hr
    refine G.go tv_X5_lowestFree 2 5 [(0, .ref (gAd E (32))), (1, .int (x1))] [.int ((32 : Int32)), .int (x1)] rfl ?_
    refine G.cmp_ge 25 (tbd tv_X5_lowestFree rfl) (by decide) (fun c5 => ?_) (fun c5 => ?_)
    · replace hr := ite_t c5 hr
      refine G.go tv_X5_lowestFree 1 26 [(0, .ref (gAd E (32))), (1, .int (x1))] [.int ((-1 : Int32))] rfl ?_
      cases hr
      exact G.iret rfl rfl ⟨rfl, h, hf⟩ (tbd tv_X5_lowestFree rfl)
    · replace hr := ite_f c5 hr
      refine G.go tv_X5_lowestFree 1 9 [(0, .ref (gAd E (32))), (1, .int (x1))] [.ref (gAd E (32))] rfl ?_
      refine G.getf cls_X5 (32) 1 (by omega) (h.q32) (by decide) rfl (tbd tv_X5_lowestFree rfl) w_457 ?_
      refine G.go tv_X5_lowestFree 1 13 [(0, .ref (gAd E (32))), (1, .int (x1))] [.int (x1), .ref (gAd E (34))] rfl ?_
      obtain ⟨v29, b29, e29, hr⟩ := ld_s hr
      refine G.ialdE (34) (by omega) ((h.q34).trans (congrArg (oI (gDA E) (32)) (hD.2 34 (by decide)))) b29 e29 (tbd tv_X5_lowestFree rfl) ?_
      refine G.if_ne 19 (tbd tv_X5_lowestFree rfl) (by decide) (fun c14 => ?_) (fun c14 => ?_)
      · replace hr := ite_f c14 hr
        refine G.go tv_X5_lowestFree 2 2 [(0, .ref (gAd E (32))), (1, .int (x1 + (1 : Int32)))] [] rfl ?_
        refine G.less [(0, .ref (gAd E (32))), (1, .int (x1 + (1 : Int32)))] [0, 1] rfl ?_
        exact ih _ _ hr _ h hf
      · replace hr := ite_t c14 hr
        refine G.go tv_X5_lowestFree 1 18 [(0, .ref (gAd E (32))), (1, .int (x1))] [.int (x1)] rfl ?_
        cases hr
        exact G.iret rfl rfl ⟨rfl, h, hf⟩ (tbd tv_X5_lowestFree rfl)
set_option maxRecDepth 100000 in
set_option maxHeartbeats 4000000 in
theorem k_X5_lowestFree (E : gE) (f : Nat → va_E) (N B gr : Nat) (C D : CfT) (A : MS) (hz : CfZ E N B gr) (h : CfV E f N B gr C) (hD : Dq D C) (hA : AR N B gr A C) (r : Int32) (hr : d_X5_lowestFree N (vA A) D = some r) : Ct E 1 yX5_lowestFree cX5_lowestFree 2 (some .int) [.ref (gAd E (32))] f (fun v g => v = some (.int r) ∧ CfV E g N B gr C ∧ Fr CfK f g, fun _ _ => False) := by
  obtain ⟨z1, z2, z3, z4, z5, z6, z7⟩ := id hz
  refine Ct.of (by decide) (Nat.le_of_ble_eq_true rfl) (fun sz => ?_)
  refine G.eql [(0, .ref (gAd E (32)))] rfl ?_
  unfold d_X5_lowestFree at hr
  refine G.go tv_X5_lowestFree 2 2 [(0, .ref (gAd E (32))), (1, .int ((0 : Int32)))] [] rfl ?_
  refine G.less [(0, .ref (gAd E (32))), (1, .int ((0 : Int32)))] [0, 1] rfl ?_
  exact l_X5_lowestFree_2 E f sz _ N B gr C D A hz hD hA _ _ _ hr _ h Fr.rf
