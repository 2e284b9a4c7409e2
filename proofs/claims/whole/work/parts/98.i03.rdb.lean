def tb_X7_kind : List (Nat × Instr × Nat) := [(0, .iload_n 1, 1), (1, .iconst 1, 1), (2, .if_icmp .lt 9, 3), (5, .iload_n 1, 1), (6, .bipush 64, 2), (8, .if_icmp .le 7, 3), (11, .iconst 0, 1), (12, .goto 23, 3), (15, .aload_n 0, 1), (16, .getfield 18, 3), (19, .iload_n 1, 1), (20, .invokestatic 30, 3), (23, .invokevirtual 34, 3), (26, .iload_n 1, 1), (27, .invokestatic 40, 3), (30, .baload, 1), (31, .sipush 255, 3), (34, .iand, 1), (35, .ireturn, 1)]
theorem tv_X7_kind : Tv cX7_kind tb_X7_kind := by
  unfold Tv
  decide +kernel
theorem w_906 : Cond.methodLink "LedgerFiles$Nodes" 30 yX7_home ∈ TB := tp_4 40 (by decide +kernel) rfl
theorem w_908 : Cond.code yX7_home prog_9_method_3_code 1 (some .int) ∈ TB := tp_4 42 rfl rfl
theorem cw_X7_30 : Cw RX7 30 yX7_home cX7_home 1 (some .int) 1 := ⟨w_906, w_908, w_157, by decide +kernel, by decide +kernel, by decide⟩
theorem w_907 : Cond.static yX7_home ∈ TB := tp_4 41 (by decide +kernel) rfl
theorem w_909 : Cond.methodLink "LedgerFiles$Nodes" 34 yX10_see ∈ TB := tp_4 43 (by decide +kernel) rfl
theorem cw_X7_34 : Cw RX7 34 yX10_see cX10_see 2 (some (.array .byte)) 1 := ⟨w_909, w_912, w_155, by decide +kernel, by decide +kernel, by decide⟩
theorem w_921 : Cond.methodLink "LedgerFiles$Nodes" 40 yX7_start ∈ TB := tp_4 55 (by decide +kernel) rfl
theorem w_923 : Cond.code yX7_start prog_9_method_4_code 1 (some .int) ∈ TB := tp_4 57 rfl rfl
theorem cw_X7_40 : Cw RX7 40 yX7_start cX7_start 1 (some .int) 1 := ⟨w_921, w_923, w_157, by decide +kernel, by decide +kernel, by decide⟩
theorem w_922 : Cond.static yX7_start ∈ TB := tp_4 56 (by decide +kernel) rfl
def d_X7_kind (N : Nat) (V : Nat → Rw) (D : CfT) (a0 : Int32) : Option (Int32) := if a0 < ((1 : Int32)) then some ((0 : Int32)) else if a0 ≤ ((64 : Int32)) then bnd (d_X7_home N V D a0) (fun v1 => seeB N V v1 (fun y3 => bnd (d_X7_start N V D a0) (fun v4 => ld y3 128 v4 (fun v5 => some ((v5) &&& ((255 : Int32))))))) else some ((0 : Int32))
set_option maxRecDepth 100000 in
set_option maxHeartbeats 4000000 in
theorem k_X7_kind (E : gE) (f : Nat → va_E) (N B gr : Nat) (C D : CfT) (A : MS) (hz : CfZ E N B gr) (h : CfV E f N B gr C) (hD : Dq D C) (hA : AR N B gr A C) (a0 : Int32) (r : Int32) (hr : d_X7_kind N (vA A) D a0 = some r) : Ct E 3 yX7_kind cX7_kind 2 (some .int) [.ref (gAd E (37)), .int (a0)] f (fun v g => v = some (.int r) ∧ CfV E g N B gr C ∧ Fr CfK f g, fun _ _ => False) := by
  obtain ⟨z1, z2, z3, z4, z5, z6, z7⟩ := id hz
  refine Ct.of (by decide) (Nat.le_of_ble_eq_true rfl) (fun sz => ?_)
  refine G.eql [(0, .ref (gAd E (37))), (1, .int (a0))] rfl ?_
  unfold d_X7_kind at hr
  refine G.go tv_X7_kind 2 2 [(0, .ref (gAd E (37))), (1, .int (a0))] [.int ((1 : Int32)), .int (a0)] rfl ?_
  refine G.cmp_lt 11 (tbd tv_X7_kind rfl) (by decide) (fun c2 => ?_) (fun c2 => ?_)
  · replace hr := ite_t c2 hr
    refine G.go tv_X7_kind 2 35 [(0, .ref (gAd E (37))), (1, .int (a0))] [.int ((0 : Int32))] rfl ?_
    cases hr
    exact G.iret rfl rfl ⟨rfl, h, Fr.rf⟩ (tbd tv_X7_kind rfl)
  · replace hr := ite_f c2 hr
    refine G.go tv_X7_kind 2 8 [(0, .ref (gAd E (37))), (1, .int (a0))] [.int ((64 : Int32)), .int (a0)] rfl ?_
    refine G.cmp_le 15 (tbd tv_X7_kind rfl) (by decide) (fun c8 => ?_) (fun c8 => ?_)
    · replace hr := ite_t c8 hr
      refine G.go tv_X7_kind 1 16 [(0, .ref (gAd E (37))), (1, .int (a0))] [.ref (gAd E (37))] rfl ?_
      refine G.getf cls_X7 (37) 0 (by omega) (h.q37) (by decide) rfl (tbd tv_X7_kind rfl) w_478 ?_
      refine G.go tv_X7_kind 1 20 [(0, .ref (gAd E (37))), (1, .int (a0))] [.int (a0), .ref (gAd E (25))] rfl ?_
      obtain ⟨v1, hv1, hr⟩ := bnd_s hr
      refine G.callS [.int (a0)] [.ref (gAd E (25))] (k_X7_home E _ N B gr C D A hz h hD hA a0 v1 hv1) cw_X7_30 w_907 (Nat.le_of_ble_eq_true rfl) rfl (Nat.le_of_ble_eq_true rfl) (tbd tv_X7_kind rfl) (fun v1w f1 q1 => ?_) (fun _ _ h => h.elim)
      obtain ⟨rfl, ha1, fa1⟩ := q1
      refine G.eqs [.int (v1), .ref (gAd E (25))] rfl ?_
      obtain ⟨y3, b3, e3, hr⟩ := seeB_s hr
      refine G.callV (25) [.int (v1)] [] (k_see E _ N B gr C A hz ha1 hA _ b3 _ e3) cls_X10 (by omega) (ha1.q25) cw_X7_34 w_910 w_911 (Nat.le_of_ble_eq_true rfl) rfl (Nat.le_of_ble_eq_true rfl) (tbd tv_X7_kind rfl) (fun v3w f3 q3 => ?_) (fun _ _ h => h.elim)
      obtain ⟨⟨k3, rfl, w3⟩, ha3, fa3⟩ := q3
      refine G.eqs [.ref (gAd E (k3))] rfl ?_
      refine G.go tv_X7_kind 1 27 [(0, .ref (gAd E (37))), (1, .int (a0))] [.int (a0), .ref (gAd E (k3))] rfl ?_
      obtain ⟨v4, hv4, hr⟩ := bnd_s hr
      refine G.callS [.int (a0)] [.ref (gAd E (k3))] (k_X7_start E _ N B gr C D A hz ha3 hD hA a0 v4 hv4) cw_X7_40 w_922 (Nat.le_of_ble_eq_true rfl) rfl (Nat.le_of_ble_eq_true rfl) (tbd tv_X7_kind rfl) (fun v4w f4 q4 => ?_) (fun _ _ h => h.elim)
      obtain ⟨rfl, ha4, fa4⟩ := q4
      refine G.eqs [.int (v4), .ref (gAd E (k3))] rfl ?_
      obtain ⟨v5, b5, e5, hr⟩ := ld_s hr
      refine G.arld hz ha4 (w3) b5 e5 (tbd tv_X7_kind rfl) ?_
      refine G.go tv_X7_kind 2 35 [(0, .ref (gAd E (37))), (1, .int (a0))] [.int ((v5) &&& ((255 : Int32)))] rfl ?_
      cases hr
      exact G.iret rfl rfl ⟨rfl, ha4, (((Fr.rf.tr fa1 (fun _ h => h)).tr fa3 (fun _ h => h)).tr fa4 (fun _ h => h))⟩ (tbd tv_X7_kind rfl)
    · replace hr := ite_f c8 hr
      refine G.go tv_X7_kind 2 35 [(0, .ref (gAd E (37))), (1, .int (a0))] [.int ((0 : Int32))] rfl ?_
      cases hr
      exact G.iret rfl rfl ⟨rfl, h, Fr.rf⟩ (tbd tv_X7_kind rfl)
def tb_X7_links : List (Nat × Instr × Nat) := [(0, .iload_n 1, 1), (1, .iconst 1, 1), (2, .if_icmp .lt 9, 3), (5, .iload_n 1, 1), (6, .bipush 64, 2), (8, .if_icmp .le 7, 3), (11, .iconst 0, 1), (12, .goto 25, 3), (15, .aload_n 0, 1), (16, .getfield 18, 3), (19, .iload_n 1, 1), (20, .invokestatic 30, 3), (23, .invokevirtual 34, 3), (26, .iload_n 1, 1), (27, .invokestatic 40, 3), (30, .iconst 1, 1), (31, .iadd, 1), (32, .baload, 1), (33, .sipush 255, 3), (36, .iand, 1), (37, .ireturn, 1)]
theorem tv_X7_links : Tv cX7_links tb_X7_links := by
  unfold Tv
  decide +kernel
def d_X7_links (N : Nat) (V : Nat → Rw) (D : CfT) (a0 : Int32) : Option (Int32) := if a0 < ((1 : Int32)) then some ((0 : Int32)) else if a0 ≤ ((64 : Int32)) then bnd (d_X7_home N V D a0) (fun v6 => seeB N V v6 (fun y8 => bnd (d_X7_start N V D a0) (fun v9 => ld y8 128 ((v9) + ((1 : Int32))) (fun v10 => some ((v10) &&& ((255 : Int32))))))) else some ((0 : Int32))
set_option maxRecDepth 100000 in
set_option maxHeartbeats 4000000 in
theorem k_X7_links (E : gE) (f : Nat → va_E) (N B gr : Nat) (C D : CfT) (A : MS) (hz : CfZ E N B gr) (h : CfV E f N B gr C) (hD : Dq D C) (hA : AR N B gr A C) (a0 : Int32) (r : Int32) (hr : d_X7_links N (vA A) D a0 = some r) : Ct E 3 yX7_links cX7_links 2 (some .int) [.ref (gAd E (37)), .int (a0)] f (fun v g => v = some (.int r) ∧ CfV E g N B gr C ∧ Fr CfK f g, fun _ _ => False) := by
  obtain ⟨z1, z2, z3, z4, z5, z6, z7⟩ := id hz
  refine Ct.of (by decide) (Nat.le_of_ble_eq_true rfl) (fun sz => ?_)
  refine G.eql [(0, .ref (gAd E (37))), (1, .int (a0))] rfl ?_
  unfold d_X7_links at hr
  refine G.go tv_X7_links 2 2 [(0, .ref (gAd E (37))), (1, .int (a0))] [.int ((1 : Int32)), .int (a0)] rfl ?_
  refine G.cmp_lt 11 (tbd tv_X7_links rfl) (by decide) (fun c2 => ?_) (fun c2 => ?_)
  · replace hr := ite_t c2 hr
    refine G.go tv_X7_links 2 37 [(0, .ref (gAd E (37))), (1, .int (a0))] [.int ((0 : Int32))] rfl ?_
    cases hr
    exact G.iret rfl rfl ⟨rfl, h, Fr.rf⟩ (tbd tv_X7_links rfl)
  · replace hr := ite_f c2 hr
    refine G.go tv_X7_links 2 8 [(0, .ref (gAd E (37))), (1, .int (a0))] [.int ((64 : Int32)), .int (a0)] rfl ?_
    refine G.cmp_le 15 (tbd tv_X7_links rfl) (by decide) (fun c8 => ?_) (fun c8 => ?_)
    · replace hr := ite_t c8 hr
      refine G.go tv_X7_links 1 16 [(0, .ref (gAd E (37))), (1, .int (a0))] [.ref (gAd E (37))] rfl ?_
      refine G.getf cls_X7 (37) 0 (by omega) (h.q37) (by decide) rfl (tbd tv_X7_links rfl) w_478 ?_
      refine G.go tv_X7_links 1 20 [(0, .ref (gAd E (37))), (1, .int (a0))] [.int (a0), .ref (gAd E (25))] rfl ?_
      obtain ⟨v6, hv6, hr⟩ := bnd_s hr
      refine G.callS [.int (a0)] [.ref (gAd E (25))] (k_X7_home E _ N B gr C D A hz h hD hA a0 v6 hv6) cw_X7_30 w_907 (Nat.le_of_ble_eq_true rfl) rfl (Nat.le_of_ble_eq_true rfl) (tbd tv_X7_links rfl) (fun v6w f6 q6 => ?_) (fun _ _ h => h.elim)
      obtain ⟨rfl, ha6, fa6⟩ := q6
      refine G.eqs [.int (v6), .ref (gAd E (25))] rfl ?_
      obtain ⟨y8, b8, e8, hr⟩ := seeB_s hr
      refine G.callV (25) [.int (v6)] [] (k_see E _ N B gr C A hz ha6 hA _ b8 _ e8) cls_X10 (by omega) (ha6.q25) cw_X7_34 w_910 w_911 (Nat.le_of_ble_eq_true rfl) rfl (Nat.le_of_ble_eq_true rfl) (tbd tv_X7_links rfl) (fun v8w f8 q8 => ?_) (fun _ _ h => h.elim)
      obtain ⟨⟨k8, rfl, w8⟩, ha8, fa8⟩ := q8
      refine G.eqs [.ref (gAd E (k8))] rfl ?_
      refine G.go tv_X7_links 1 27 [(0, .ref (gAd E (37))), (1, .int (a0))] [.int (a0), .ref (gAd E (k8))] rfl ?_
      obtain ⟨v9, hv9, hr⟩ := bnd_s hr
      refine G.callS [.int (a0)] [.ref (gAd E (k8))] (k_X7_start E _ N B gr C D A hz ha8 hD hA a0 v9 hv9) cw_X7_40 w_922 (Nat.le_of_ble_eq_true rfl) rfl (Nat.le_of_ble_eq_true rfl) (tbd tv_X7_links rfl) (fun v9w f9 q9 => ?_) (fun _ _ h => h.elim)
      obtain ⟨rfl, ha9, fa9⟩ := q9
      refine G.eqs [.int (v9), .ref (gAd E (k8))] rfl ?_
      refine G.go tv_X7_links 2 32 [(0, .ref (gAd E (37))), (1, .int (a0))] [.int ((v9) + ((1 : Int32))), .ref (gAd E (k8))] rfl ?_
      obtain ⟨v10, b10, e10, hr⟩ := ld_s hr
      refine G.arld hz ha9 (w8) b10 e10 (tbd tv_X7_links rfl) ?_
      refine G.go tv_X7_links 2 37 [(0, .ref (gAd E (37))), (1, .int (a0))] [.int ((v10) &&& ((255 : Int32)))] rfl ?_
      cases hr
      exact G.iret rfl rfl ⟨rfl, ha9, (((Fr.rf.tr fa6 (fun _ h => h)).tr fa8 (fun _ h => h)).tr fa9 (fun _ h => h))⟩ (tbd tv_X7_links rfl)
    · replace hr := ite_f c8 hr
      refine G.go tv_X7_links 2 37 [(0, .ref (gAd E (37))), (1, .int (a0))] [.int ((0 : Int32))] rfl ?_
      cases hr
      exact G.iret rfl rfl ⟨rfl, h, Fr.rf⟩ (tbd tv_X7_links rfl)
def tb_X7_size : List (Nat × Instr × Nat) := [(0, .aload_n 0, 1), (1, .getfield 18, 3), (4, .iload_n 1, 1), (5, .invokestatic 30, 3), (8, .invokevirtual 34, 3), (11, .iload_n 1, 1), (12, .invokestatic 40, 3), (15, .iconst 4, 1), (16, .iadd, 1), (17, .invokestatic 43, 3), (20, .ireturn, 1)]
theorem tv_X7_size : Tv cX7_size tb_X7_size := by
  unfold Tv
  decide +kernel
theorem w_944 : Cond.methodLink "LedgerFiles$Nodes" 43 yX2_four ∈ TB := tp_4 78 (by decide +kernel) rfl
theorem w_876 : Cond.code yX2_four prog_4_method_3_code 2 (some .int) ∈ TB := tp_4 10 rfl rfl
theorem cw_X7_43 : Cw RX7 43 yX2_four cX2_four 2 (some .int) 2 := ⟨w_944, w_876, w_149, by decide +kernel, by decide +kernel, by decide⟩
theorem w_875 : Cond.static yX2_four ∈ TB := tp_4 9 (by decide +kernel) rfl
def d_X7_size (N : Nat) (V : Nat → Rw) (D : CfT) (a0 : Int32) : Option (Int32) := bnd (d_X7_home N V D a0) (fun v11 => seeB N V v11 (fun y13 => bnd (d_X7_start N V D a0) (fun v14 => bnd (d_X2_four N V D y13 128 ((v14) + ((4 : Int32)))) (fun v15 => some v15))))
set_option maxRecDepth 100000 in
set_option maxHeartbeats 4000000 in
theorem k_X7_size (E : gE) (f : Nat → va_E) (N B gr : Nat) (C D : CfT) (A : MS) (hz : CfZ E N B gr) (h : CfV E f N B gr C) (hD : Dq D C) (hA : AR N B gr A C) (a0 : Int32) (r : Int32) (hr : d_X7_size N (vA A) D a0 = some r) : Ct E 3 yX7_size cX7_size 2 (some .int) [.ref (gAd E (37)), .int (a0)] f (fun v g => v = some (.int r) ∧ CfV E g N B gr C ∧ Fr CfK f g, fun _ _ => False) := by
  obtain ⟨z1, z2, z3, z4, z5, z6, z7⟩ := id hz
  refine Ct.of (by decide) (Nat.le_of_ble_eq_true rfl) (fun sz => ?_)
  refine G.eql [(0, .ref (gAd E (37))), (1, .int (a0))] rfl ?_
  unfold d_X7_size at hr
  refine G.go tv_X7_size 1 1 [(0, .ref (gAd E (37))), (1, .int (a0))] [.ref (gAd E (37))] rfl ?_
  refine G.getf cls_X7 (37) 0 (by omega) (h.q37) (by decide) rfl (tbd tv_X7_size rfl) w_478 ?_
  refine G.go tv_X7_size 1 5 [(0, .ref (gAd E (37))), (1, .int (a0))] [.int (a0), .ref (gAd E (25))] rfl ?_
  obtain ⟨v11, hv11, hr⟩ := bnd_s hr
  refine G.callS [.int (a0)] [.ref (gAd E (25))] (k_X7_home E _ N B gr C D A hz h hD hA a0 v11 hv11) cw_X7_30 w_907 (Nat.le_of_ble_eq_true rfl) rfl (Nat.le_of_ble_eq_true rfl) (tbd tv_X7_size rfl) (fun v11w f11 q11 => ?_) (fun _ _ h => h.elim)
  obtain ⟨rfl, ha11, fa11⟩ := q11
  refine G.eqs [.int (v11), .ref (gAd E (25))] rfl ?_
  obtain ⟨y13, b13, e13, hr⟩ := seeB_s hr
  refine G.callV (25) [.int (v11)] [] (k_see E _ N B gr C A hz ha11 hA _ b13 _ e13) cls_X10 (by omega) (ha11.q25) cw_X7_34 w_910 w_911 (Nat.le_of_ble_eq_true rfl) rfl (Nat.le_of_ble_eq_true rfl) (tbd tv_X7_size rfl) (fun v13w f13 q13 => ?_) (fun _ _ h => h.elim)
  obtain ⟨⟨k13, rfl, w13⟩, ha13, fa13⟩ := q13
  refine G.eqs [.ref (gAd E (k13))] rfl ?_
  refine G.go tv_X7_size 1 12 [(0, .ref (gAd E (37))), (1, .int (a0))] [.int (a0), .ref (gAd E (k13))] rfl ?_
  obtain ⟨v14, hv14, hr⟩ := bnd_s hr
  refine G.callS [.int (a0)] [.ref (gAd E (k13))] (k_X7_start E _ N B gr C D A hz ha13 hD hA a0 v14 hv14) cw_X7_40 w_922 (Nat.le_of_ble_eq_true rfl) rfl (Nat.le_of_ble_eq_true rfl) (tbd tv_X7_size rfl) (fun v14w f14 q14 => ?_) (fun _ _ h => h.elim)
  obtain ⟨rfl, ha14, fa14⟩ := q14
  refine G.eqs [.int (v14), .ref (gAd E (k13))] rfl ?_
  refine G.go tv_X7_size 2 17 [(0, .ref (gAd E (37))), (1, .int (a0))] [.int ((v14) + ((4 : Int32))), .ref (gAd E (k13))] rfl ?_
  obtain ⟨v15, hv15, hr⟩ := bnd_s hr
  refine G.callS [.ref (gAd E (k13)), .int ((v14) + ((4 : Int32)))] [] (k_X2_four E _ N B gr C D A hz ha14 hD hA k13 128 y13 (w13) ((v14) + ((4 : Int32))) v15 hv15) cw_X7_43 w_875 (Nat.le_of_ble_eq_true rfl) rfl (Nat.le_of_ble_eq_true rfl) (tbd tv_X7_size rfl) (fun v15w f15 q15 => ?_) (fun _ _ h => h.elim)
  obtain ⟨rfl, ha15, fa15⟩ := q15
  refine G.eqs [.int (v15)] rfl ?_
  cases hr
  exact G.iret rfl rfl ⟨rfl, ha15, ((((Fr.rf.tr fa11 (fun _ h => h)).tr fa13 (fun _ h => h)).tr fa14 (fun _ h => h)).tr fa15 (fun _ h => h))⟩ (tbd tv_X7_size rfl)
def tb_X7_markOf : List (Nat × Instr × Nat) := [(0, .aload_n 0, 1), (1, .getfield 18, 3), (4, .iload_n 1, 1), (5, .invokestatic 30, 3), (8, .invokevirtual 34, 3), (11, .iload_n 1, 1), (12, .invokestatic 40, 3), (15, .bipush 8, 2), (17, .iadd, 1), (18, .invokestatic 43, 3), (21, .ireturn, 1)]
theorem tv_X7_markOf : Tv cX7_markOf tb_X7_markOf := by
  unfold Tv
  decide +kernel
def d_X7_markOf (N : Nat) (V : Nat → Rw) (D : CfT) (a0 : Int32) : Option (Int32) := bnd (d_X7_home N V D a0) (fun v16 => seeB N V v16 (fun y18 => bnd (d_X7_start N V D a0) (fun v19 => bnd (d_X2_four N V D y18 128 ((v19) + ((8 : Int32)))) (fun v20 => some v20))))
set_option maxRecDepth 100000 in
set_option maxHeartbeats 4000000 in
theorem k_X7_markOf (E : gE) (f : Nat → va_E) (N B gr : Nat) (C D : CfT) (A : MS) (hz : CfZ E N B gr) (h : CfV E f N B gr C) (hD : Dq D C) (hA : AR N B gr A C) (a0 : Int32) (r : Int32) (hr : d_X7_markOf N (vA A) D a0 = some r) : Ct E 3 yX7_markOf cX7_markOf 2 (some .int) [.ref (gAd E (37)), .int (a0)] f (fun v g => v = some (.int r) ∧ CfV E g N B gr C ∧ Fr CfK f g, fun _ _ => False) := by
  obtain ⟨z1, z2, z3, z4, z5, z6, z7⟩ := id hz
  refine Ct.of (by decide) (Nat.le_of_ble_eq_true rfl) (fun sz => ?_)
  refine G.eql [(0, .ref (gAd E (37))), (1, .int (a0))] rfl ?_
  unfold d_X7_markOf at hr
  refine G.go tv_X7_markOf 1 1 [(0, .ref (gAd E (37))), (1, .int (a0))] [.ref (gAd E (37))] rfl ?_
  refine G.getf cls_X7 (37) 0 (by omega) (h.q37) (by decide) rfl (tbd tv_X7_markOf rfl) w_478 ?_
  refine G.go tv_X7_markOf 1 5 [(0, .ref (gAd E (37))), (1, .int (a0))] [.int (a0), .ref (gAd E (25))] rfl ?_
  obtain ⟨v16, hv16, hr⟩ := bnd_s hr
  refine G.callS [.int (a0)] [.ref (gAd E (25))] (k_X7_home E _ N B gr C D A hz h hD hA a0 v16 hv16) cw_X7_30 w_907 (Nat.le_of_ble_eq_true rfl) rfl (Nat.le_of_ble_eq_true rfl) (tbd tv_X7_markOf rfl) (fun v16w f16 q16 => ?_) (fun _ _ h => h.elim)
  obtain ⟨rfl, ha16, fa16⟩ := q16
  refine G.eqs [.int (v16), .ref (gAd E (25))] rfl ?_
  obtain ⟨y18, b18, e18, hr⟩ := seeB_s hr
  refine G.callV (25) [.int (v16)] [] (k_see E _ N B gr C A hz ha16 hA _ b18 _ e18) cls_X10 (by omega) (ha16.q25) cw_X7_34 w_910 w_911 (Nat.le_of_ble_eq_true rfl) rfl (Nat.le_of_ble_eq_true rfl) (tbd tv_X7_markOf rfl) (fun v18w f18 q18 => ?_) (fun _ _ h => h.elim)
  obtain ⟨⟨k18, rfl, w18⟩, ha18, fa18⟩ := q18
  refine G.eqs [.ref (gAd E (k18))] rfl ?_
  refine G.go tv_X7_markOf 1 12 [(0, .ref (gAd E (37))), (1, .int (a0))] [.int (a0), .ref (gAd E (k18))] rfl ?_
  obtain ⟨v19, hv19, hr⟩ := bnd_s hr
  refine G.callS [.int (a0)] [.ref (gAd E (k18))] (k_X7_start E _ N B gr C D A hz ha18 hD hA a0 v19 hv19) cw_X7_40 w_922 (Nat.le_of_ble_eq_true rfl) rfl (Nat.le_of_ble_eq_true rfl) (tbd tv_X7_markOf rfl) (fun v19w f19 q19 => ?_) (fun _ _ h => h.elim)
  obtain ⟨rfl, ha19, fa19⟩ := q19
  refine G.eqs [.int (v19), .ref (gAd E (k18))] rfl ?_
  refine G.go tv_X7_markOf 2 18 [(0, .ref (gAd E (37))), (1, .int (a0))] [.int ((v19) + ((8 : Int32))), .ref (gAd E (k18))] rfl ?_
  obtain ⟨v20, hv20, hr⟩ := bnd_s hr
  refine G.callS [.ref (gAd E (k18)), .int ((v19) + ((8 : Int32)))] [] (k_X2_four E _ N B gr C D A hz ha19 hD hA k18 128 y18 (w18) ((v19) + ((8 : Int32))) v20 hv20) cw_X7_43 w_875 (Nat.le_of_ble_eq_true rfl) rfl (Nat.le_of_ble_eq_true rfl) (tbd tv_X7_markOf rfl) (fun v20w f20 q20 => ?_) (fun _ _ h => h.elim)
  obtain ⟨rfl, ha20, fa20⟩ := q20
  refine G.eqs [.int (v20)] rfl ?_
  cases hr
  exact G.iret rfl rfl ⟨rfl, ha20, ((((Fr.rf.tr fa16 (fun _ h => h)).tr fa18 (fun _ h => h)).tr fa19 (fun _ h => h)).tr fa20 (fun _ h => h))⟩ (tbd tv_X7_markOf rfl)
def tb_X7_firstTable : List (Nat × Instr × Nat) := [(0, .aload_n 0, 1), (1, .getfield 18, 3), (4, .iload_n 1, 1), (5, .invokestatic 30, 3), (8, .invokevirtual 34, 3), (11, .iload_n 1, 1), (12, .invokestatic 40, 3), (15, .bipush 28, 2), (17, .iadd, 1), (18, .invokestatic 49, 3), (21, .ireturn, 1)]
theorem tv_X7_firstTable : Tv cX7_firstTable tb_X7_firstTable := by
  unfold Tv
  decide +kernel
theorem w_963 : Cond.methodLink "LedgerFiles$Nodes" 49 yX2_two ∈ TB := tp_4 97 (by decide +kernel) rfl
theorem cw_X7_49 : Cw RX7 49 yX2_two cX2_two 2 (some .int) 2 := ⟨w_963, w_879, w_149, by decide +kernel, by decide +kernel, by decide⟩
def d_X7_firstTable (N : Nat) (V : Nat → Rw) (D : CfT) (a0 : Int32) : Option (Int32) := bnd (d_X7_home N V D a0) (fun v21 => seeB N V v21 (fun y23 => bnd (d_X7_start N V D a0) (fun v24 => bnd (d_X2_two N V D y23 128 ((v24) + ((28 : Int32)))) (fun v25 => some v25))))
set_option maxRecDepth 100000 in
set_option maxHeartbeats 4000000 in
theorem k_X7_firstTable (E : gE) (f : Nat → va_E) (N B gr : Nat) (C D : CfT) (A : MS) (hz : CfZ E N B gr) (h : CfV E f N B gr C) (hD : Dq D C) (hA : AR N B gr A C) (a0 : Int32) (r : Int32) (hr : d_X7_firstTable N (vA A) D a0 = some r) : Ct E 3 yX7_firstTable cX7_firstTable 2 (some .int) [.ref (gAd E (37)), .int (a0)] f (fun v g => v = some (.int r) ∧ CfV E g N B gr C ∧ Fr CfK f g, fun _ _ => False) := by
  obtain ⟨z1, z2, z3, z4, z5, z6, z7⟩ := id hz
  refine Ct.of (by decide) (Nat.le_of_ble_eq_true rfl) (fun sz => ?_)
  refine G.eql [(0, .ref (gAd E (37))), (1, .int (a0))] rfl ?_
  unfold d_X7_firstTable at hr
  refine G.go tv_X7_firstTable 1 1 [(0, .ref (gAd E (37))), (1, .int (a0))] [.ref (gAd E (37))] rfl ?_
  refine G.getf cls_X7 (37) 0 (by omega) (h.q37) (by decide) rfl (tbd tv_X7_firstTable rfl) w_478 ?_
  refine G.go tv_X7_firstTable 1 5 [(0, .ref (gAd E (37))), (1, .int (a0))] [.int (a0), .ref (gAd E (25))] rfl ?_
  obtain ⟨v21, hv21, hr⟩ := bnd_s hr
  refine G.callS [.int (a0)] [.ref (gAd E (25))] (k_X7_home E _ N B gr C D A hz h hD hA a0 v21 hv21) cw_X7_30 w_907 (Nat.le_of_ble_eq_true rfl) rfl (Nat.le_of_ble_eq_true rfl) (tbd tv_X7_firstTable rfl) (fun v21w f21 q21 => ?_) (fun _ _ h => h.elim)
  obtain ⟨rfl, ha21, fa21⟩ := q21
  refine G.eqs [.int (v21), .ref (gAd E (25))] rfl ?_
  obtain ⟨y23, b23, e23, hr⟩ := seeB_s hr
  refine G.callV (25) [.int (v21)] [] (k_see E _ N B gr C A hz ha21 hA _ b23 _ e23) cls_X10 (by omega) (ha21.q25) cw_X7_34 w_910 w_911 (Nat.le_of_ble_eq_true rfl) rfl (Nat.le_of_ble_eq_true rfl) (tbd tv_X7_firstTable rfl) (fun v23w f23 q23 => ?_) (fun _ _ h => h.elim)
  obtain ⟨⟨k23, rfl, w23⟩, ha23, fa23⟩ := q23
  refine G.eqs [.ref (gAd E (k23))] rfl ?_
  refine G.go tv_X7_firstTable 1 12 [(0, .ref (gAd E (37))), (1, .int (a0))] [.int (a0), .ref (gAd E (k23))] rfl ?_
  obtain ⟨v24, hv24, hr⟩ := bnd_s hr
  refine G.callS [.int (a0)] [.ref (gAd E (k23))] (k_X7_start E _ N B gr C D A hz ha23 hD hA a0 v24 hv24) cw_X7_40 w_922 (Nat.le_of_ble_eq_true rfl) rfl (Nat.le_of_ble_eq_true rfl) (tbd tv_X7_firstTable rfl) (fun v24w f24 q24 => ?_) (fun _ _ h => h.elim)
  obtain ⟨rfl, ha24, fa24⟩ := q24
  refine G.eqs [.int (v24), .ref (gAd E (k23))] rfl ?_
  refine G.go tv_X7_firstTable 2 18 [(0, .ref (gAd E (37))), (1, .int (a0))] [.int ((v24) + ((28 : Int32))), .ref (gAd E (k23))] rfl ?_
  obtain ⟨v25, hv25, hr⟩ := bnd_s hr
  refine G.callS [.ref (gAd E (k23)), .int ((v24) + ((28 : Int32)))] [] (k_X2_two E _ N B gr C D A hz ha24 hD hA k23 128 y23 (w23) ((v24) + ((28 : Int32))) v25 hv25) cw_X7_49 w_878 (Nat.le_of_ble_eq_true rfl) rfl (Nat.le_of_ble_eq_true rfl) (tbd tv_X7_firstTable rfl) (fun v25w f25 q25 => ?_) (fun _ _ h => h.elim)
  obtain ⟨rfl, ha25, fa25⟩ := q25
  refine G.eqs [.int (v25)] rfl ?_
  cases hr
  exact G.iret rfl rfl ⟨rfl, ha25, ((((Fr.rf.tr fa21 (fun _ h => h)).tr fa23 (fun _ h => h)).tr fa24 (fun _ h => h)).tr fa25 (fun _ h => h))⟩ (tbd tv_X7_firstTable rfl)
def tb_X7_secondTable : List (Nat × Instr × Nat) := [(0, .aload_n 0, 1), (1, .getfield 18, 3), (4, .iload_n 1, 1), (5, .invokestatic 30, 3), (8, .invokevirtual 34, 3), (11, .iload_n 1, 1), (12, .invokestatic 40, 3), (15, .bipush 30, 2), (17, .iadd, 1), (18, .invokestatic 49, 3), (21, .ireturn, 1)]
theorem tv_X7_secondTable : Tv cX7_secondTable tb_X7_secondTable := by
  unfold Tv
  decide +kernel
def d_X7_secondTable (N : Nat) (V : Nat → Rw) (D : CfT) (a0 : Int32) : Option (Int32) := bnd (d_X7_home N V D a0) (fun v26 => seeB N V v26 (fun y28 => bnd (d_X7_start N V D a0) (fun v29 => bnd (d_X2_two N V D y28 128 ((v29) + ((30 : Int32)))) (fun v30 => some v30))))
set_option maxRecDepth 100000 in
set_option maxHeartbeats 4000000 in
theorem k_X7_secondTable (E : gE) (f : Nat → va_E) (N B gr : Nat) (C D : CfT) (A : MS) (hz : CfZ E N B gr) (h : CfV E f N B gr C) (hD : Dq D C) (hA : AR N B gr A C) (a0 : Int32) (r : Int32) (hr : d_X7_secondTable N (vA A) D a0 = some r) : Ct E 3 yX7_secondTable cX7_secondTable 2 (some .int) [.ref (gAd E (37)), .int (a0)] f (fun v g => v = some (.int r) ∧ CfV E g N B gr C ∧ Fr CfK f g, fun _ _ => False) := by
  obtain ⟨z1, z2, z3, z4, z5, z6, z7⟩ := id hz
  refine Ct.of (by decide) (Nat.le_of_ble_eq_true rfl) (fun sz => ?_)
  refine G.eql [(0, .ref (gAd E (37))), (1, .int (a0))] rfl ?_
  unfold d_X7_secondTable at hr
  refine G.go tv_X7_secondTable 1 1 [(0, .ref (gAd E (37))), (1, .int (a0))] [.ref (gAd E (37))] rfl ?_
  refine G.getf cls_X7 (37) 0 (by omega) (h.q37) (by decide) rfl (tbd tv_X7_secondTable rfl) w_478 ?_
  refine G.go tv_X7_secondTable 1 5 [(0, .ref (gAd E (37))), (1, .int (a0))] [.int (a0), .ref (gAd E (25))] rfl ?_
  obtain ⟨v26, hv26, hr⟩ := bnd_s hr
  refine G.callS [.int (a0)] [.ref (gAd E (25))] (k_X7_home E _ N B gr C D A hz h hD hA a0 v26 hv26) cw_X7_30 w_907 (Nat.le_of_ble_eq_true rfl) rfl (Nat.le_of_ble_eq_true rfl) (tbd tv_X7_secondTable rfl) (fun v26w f26 q26 => ?_) (fun _ _ h => h.elim)
  obtain ⟨rfl, ha26, fa26⟩ := q26
  refine G.eqs [.int (v26), .ref (gAd E (25))] rfl ?_
  obtain ⟨y28, b28, e28, hr⟩ := seeB_s hr
  refine G.callV (25) [.int (v26)] [] (k_see E _ N B gr C A hz ha26 hA _ b28 _ e28) cls_X10 (by omega) (ha26.q25) cw_X7_34 w_910 w_911 (Nat.le_of_ble_eq_true rfl) rfl (Nat.le_of_ble_eq_true rfl) (tbd tv_X7_secondTable rfl) (fun v28w f28 q28 => ?_) (fun _ _ h => h.elim)
  obtain ⟨⟨k28, rfl, w28⟩, ha28, fa28⟩ := q28
  refine G.eqs [.ref (gAd E (k28))] rfl ?_
  refine G.go tv_X7_secondTable 1 12 [(0, .ref (gAd E (37))), (1, .int (a0))] [.int (a0), .ref (gAd E (k28))] rfl ?_
  obtain ⟨v29, hv29, hr⟩ := bnd_s hr
  refine G.callS [.int (a0)] [.ref (gAd E (k28))] (k_X7_start E _ N B gr C D A hz ha28 hD hA a0 v29 hv29) cw_X7_40 w_922 (Nat.le_of_ble_eq_true rfl) rfl (Nat.le_of_ble_eq_true rfl) (tbd tv_X7_secondTable rfl) (fun v29w f29 q29 => ?_) (fun _ _ h => h.elim)
  obtain ⟨rfl, ha29, fa29⟩ := q29
  refine G.eqs [.int (v29), .ref (gAd E (k28))] rfl ?_
  refine G.go tv_X7_secondTable 2 18 [(0, .ref (gAd E (37))), (1, .int (a0))] [.int ((v29) + ((30 : Int32))), .ref (gAd E (k28))] rfl ?_
  obtain ⟨v30, hv30, hr⟩ := bnd_s hr
  refine G.callS [.ref (gAd E (k28)), .int ((v29) + ((30 : Int32)))] [] (k_X2_two E _ N B gr C D A hz ha29 hD hA k28 128 y28 (w28) ((v29) + ((30 : Int32))) v30 hv30) cw_X7_49 w_878 (Nat.le_of_ble_eq_true rfl) rfl (Nat.le_of_ble_eq_true rfl) (tbd tv_X7_secondTable rfl) (fun v30w f30 q30 => ?_) (fun _ _ h => h.elim)
  obtain ⟨rfl, ha30, fa30⟩ := q30
  refine G.eqs [.int (v30)] rfl ?_
  cases hr
  exact G.iret rfl rfl ⟨rfl, ha30, ((((Fr.rf.tr fa26 (fun _ h => h)).tr fa28 (fun _ h => h)).tr fa29 (fun _ h => h)).tr fa30 (fun _ h => h))⟩ (tbd tv_X7_secondTable rfl)
def tb_X7_tableOfSecond : List (Nat × Instr × Nat) := [(0, .iload_n 1, 1), (1, .ifCond .ne 7, 3), (4, .iconst 0, 1), (5, .goto 17, 3), (8, .aload_n 0, 1), (9, .getfield 18, 3), (12, .iload_n 1, 1), (13, .invokevirtual 34, 3), (16, .iconst 2, 1), (17, .iload_n 2, 1), (18, .imul, 1), (19, .invokestatic 49, 3), (22, .ireturn, 1)]
theorem tv_X7_tableOfSecond : Tv cX7_tableOfSecond tb_X7_tableOfSecond := by
  unfold Tv
  decide +kernel
def d_X7_tableOfSecond (N : Nat) (V : Nat → Rw) (D : CfT) (a0 : Int32) (a1 : Int32) : Option (Int32) := if a0 = 0 then some ((0 : Int32)) else seeB N V a0 (fun y32 => bnd (d_X2_two N V D y32 128 (((2 : Int32)) * (a1))) (fun v33 => some v33))
set_option maxRecDepth 100000 in
set_option maxHeartbeats 4000000 in
theorem k_X7_tableOfSecond (E : gE) (f : Nat → va_E) (N B gr : Nat) (C D : CfT) (A : MS) (hz : CfZ E N B gr) (h : CfV E f N B gr C) (hD : Dq D C) (hA : AR N B gr A C) (a0 : Int32) (a1 : Int32) (r : Int32) (hr : d_X7_tableOfSecond N (vA A) D a0 a1 = some r) : Ct E 3 yX7_tableOfSecond cX7_tableOfSecond 3 (some .int) [.ref (gAd E (37)), .int (a0), .int (a1)] f (fun v g => v = some (.int r) ∧ CfV E g N B gr C ∧ Fr CfK f g, fun _ _ => False) := by
  obtain ⟨z1, z2, z3, z4, z5, z6, z7⟩ := id hz
  refine Ct.of (by decide) (Nat.le_of_ble_eq_true rfl) (fun sz => ?_)
  refine G.eql [(0, .ref (gAd E (37))), (1, .int (a0)), (2, .int (a1))] rfl ?_
  unfold d_X7_tableOfSecond at hr
  refine G.go tv_X7_tableOfSecond 1 1 [(0, .ref (gAd E (37))), (1, .int (a0)), (2, .int (a1))] [.int (a0)] rfl ?_
  refine G.if_ne 8 (tbd tv_X7_tableOfSecond rfl) (by decide) (fun c1 => ?_) (fun c1 => ?_)
  · replace hr := ite_f c1 hr
    refine G.go tv_X7_tableOfSecond 1 9 [(0, .ref (gAd E (37))), (1, .int (a0)), (2, .int (a1))] [.ref (gAd E (37))] rfl ?_
    refine G.getf cls_X7 (37) 0 (by omega) (h.q37) (by decide) rfl (tbd tv_X7_tableOfSecond rfl) w_478 ?_
    refine G.go tv_X7_tableOfSecond 1 13 [(0, .ref (gAd E (37))), (1, .int (a0)), (2, .int (a1))] [.int (a0), .ref (gAd E (25))] rfl ?_
    obtain ⟨y32, b32, e32, hr⟩ := seeB_s hr
    refine G.callV (25) [.int (a0)] [] (k_see E _ N B gr C A hz h hA _ b32 _ e32) cls_X10 (by omega) (h.q25) cw_X7_34 w_910 w_911 (Nat.le_of_ble_eq_true rfl) rfl (Nat.le_of_ble_eq_true rfl) (tbd tv_X7_tableOfSecond rfl) (fun v32w f32 q32 => ?_) (fun _ _ h => h.elim)
    obtain ⟨⟨k32, rfl, w32⟩, ha32, fa32⟩ := q32
    refine G.eqs [.ref (gAd E (k32))] rfl ?_
    refine G.go tv_X7_tableOfSecond 3 19 [(0, .ref (gAd E (37))), (1, .int (a0)), (2, .int (a1))] [.int (((2 : Int32)) * (a1)), .ref (gAd E (k32))] rfl ?_
    obtain ⟨v33, hv33, hr⟩ := bnd_s hr
    refine G.callS [.ref (gAd E (k32)), .int (((2 : Int32)) * (a1))] [] (k_X2_two E _ N B gr C D A hz ha32 hD hA k32 128 y32 (w32) (((2 : Int32)) * (a1)) v33 hv33) cw_X7_49 w_878 (Nat.le_of_ble_eq_true rfl) rfl (Nat.le_of_ble_eq_true rfl) (tbd tv_X7_tableOfSecond rfl) (fun v33w f33 q33 => ?_) (fun _ _ h => h.elim)
    obtain ⟨rfl, ha33, fa33⟩ := q33
    refine G.eqs [.int (v33)] rfl ?_
    cases hr
    exact G.iret rfl rfl ⟨rfl, ha33, ((Fr.rf.tr fa32 (fun _ h => h)).tr fa33 (fun _ h => h))⟩ (tbd tv_X7_tableOfSecond rfl)
  · replace hr := ite_t c1 hr
    refine G.go tv_X7_tableOfSecond 2 22 [(0, .ref (gAd E (37))), (1, .int (a0)), (2, .int (a1))] [.int ((0 : Int32))] rfl ?_
    cases hr
    exact G.iret rfl rfl ⟨rfl, h, Fr.rf⟩ (tbd tv_X7_tableOfSecond rfl)
def tb_X7_faultOfFile : List (Nat × Instr × Nat) := [(0, .aload_n 0, 1), (1, .iload_n 1, 1), (2, .invokevirtual 59, 3), (5, .istore_n 2, 1), (6, .iload_n 2, 1), (7, .ifCond .ne 8, 3), (10, .bipush (-11), 2), (12, .goto 14, 3), (15, .iload_n 2, 1), (16, .iconst 2, 1), (17, .if_icmp .ne 8, 3), (20, .bipush (-4), 2), (22, .goto 4, 3), (25, .iconst 0, 1), (26, .ireturn, 1)]
theorem tv_X7_faultOfFile : Tv cX7_faultOfFile tb_X7_faultOfFile := by
  unfold Tv
  decide +kernel
theorem w_902 : Cond.methodLink "LedgerFiles$Nodes" 59 yX7_kind ∈ TB := tp_4 36 (by decide +kernel) rfl
theorem w_905 : Cond.code yX7_kind prog_9_method_5_code 2 (some .int) ∈ TB := tp_4 39 rfl rfl
theorem cw_X7_59 : Cw RX7 59 yX7_kind cX7_kind 2 (some .int) 1 := ⟨w_902, w_905, w_157, by decide +kernel, by decide +kernel, by decide⟩
theorem w_903 : Cond.instanceMethod yX7_kind ∈ TB := tp_4 37 (by decide +kernel) rfl
theorem w_904 : Cond.selects "LedgerFiles$Nodes" yX7_kind yX7_kind ∈ TB := tp_4 38 (by decide +kernel) rfl
def d_X7_faultOfFile (N : Nat) (V : Nat → Rw) (D : CfT) (a0 : Int32) : Option (Int32) := bnd (d_X7_kind N V D a0) (fun v34 => if v34 = 0 then some ((-11 : Int32)) else if v34 = ((2 : Int32)) then some ((-4 : Int32)) else some ((0 : Int32)))
set_option maxRecDepth 100000 in
set_option maxHeartbeats 4000000 in
theorem k_X7_faultOfFile (E : gE) (f : Nat → va_E) (N B gr : Nat) (C D : CfT) (A : MS) (hz : CfZ E N B gr) (h : CfV E f N B gr C) (hD : Dq D C) (hA : AR N B gr A C) (a0 : Int32) (r : Int32) (hr : d_X7_faultOfFile N (vA A) D a0 = some r) : Ct E 4 yX7_faultOfFile cX7_faultOfFile 3 (some .int) [.ref (gAd E (37)), .int (a0)] f (fun v g => v = some (.int r) ∧ CfV E g N B gr C ∧ Fr CfK f g, fun _ _ => False) := by
  obtain ⟨z1, z2, z3, z4, z5, z6, z7⟩ := id hz
  refine Ct.of (by decide) (Nat.le_of_ble_eq_true rfl) (fun sz => ?_)
  refine G.eql [(0, .ref (gAd E (37))), (1, .int (a0))] rfl ?_
  unfold d_X7_faultOfFile at hr
  refine G.go tv_X7_faultOfFile 2 2 [(0, .ref (gAd E (37))), (1, .int (a0))] [.int (a0), .ref (gAd E (37))] rfl ?_
  obtain ⟨v34, hv34, hr⟩ := bnd_s hr
  refine G.callV (37) [.int (a0)] [] (k_X7_kind E _ N B gr C D A hz h hD hA a0 v34 hv34) cls_X7 (by omega) (h.q37) cw_X7_59 w_903 w_904 (Nat.le_of_ble_eq_true rfl) rfl (Nat.le_of_ble_eq_true rfl) (tbd tv_X7_faultOfFile rfl) (fun v34w f34 q34 => ?_) (fun _ _ h => h.elim)
  obtain ⟨rfl, ha34, fa34⟩ := q34
  refine G.eqs [.int (v34)] rfl ?_
  refine G.go tv_X7_faultOfFile 2 7 [(0, .ref (gAd E (37))), (1, .int (a0)), (2, .int (v34))] [.int (v34)] rfl ?_
  refine G.if_ne 15 (tbd tv_X7_faultOfFile rfl) (by decide) (fun c7 => ?_) (fun c7 => ?_)
  · replace hr := ite_f c7 hr
    refine G.go tv_X7_faultOfFile 2 17 [(0, .ref (gAd E (37))), (1, .int (a0)), (2, .int (v34))] [.int ((2 : Int32)), .int (v34)] rfl ?_
    refine G.cmp_ne 25 (tbd tv_X7_faultOfFile rfl) (by decide) (fun c17 => ?_) (fun c17 => ?_)
    · replace hr := ite_f c17 hr
      refine G.go tv_X7_faultOfFile 1 26 [(0, .ref (gAd E (37))), (1, .int (a0)), (2, .int (v34))] [.int ((0 : Int32))] rfl ?_
      cases hr
      exact G.iret rfl rfl ⟨rfl, ha34, (Fr.rf.tr fa34 (fun _ h => h))⟩ (tbd tv_X7_faultOfFile rfl)
    · replace hr := ite_t c17 hr
      refine G.go tv_X7_faultOfFile 2 26 [(0, .ref (gAd E (37))), (1, .int (a0)), (2, .int (v34))] [.int ((-4 : Int32))] rfl ?_
      cases hr
      exact G.iret rfl rfl ⟨rfl, ha34, (Fr.rf.tr fa34 (fun _ h => h))⟩ (tbd tv_X7_faultOfFile rfl)
  · replace hr := ite_t c7 hr
    refine G.go tv_X7_faultOfFile 2 26 [(0, .ref (gAd E (37))), (1, .int (a0)), (2, .int (v34))] [.int ((-11 : Int32))] rfl ?_
    cases hr
    exact G.iret rfl rfl ⟨rfl, ha34, (Fr.rf.tr fa34 (fun _ h => h))⟩ (tbd tv_X7_faultOfFile rfl)
def tb_X7_isLost : List (Nat × Instr × Nat) := [(0, .aload_n 0, 1), (1, .iload_n 1, 1), (2, .invokevirtual 59, 3), (5, .ifCond .eq 15, 3), (8, .aload_n 0, 1), (9, .iload_n 1, 1), (10, .invokevirtual 62, 3), (13, .ifCond .ne 7, 3), (16, .iconst 1, 1), (17, .goto 4, 3), (20, .iconst 0, 1), (21, .ireturn, 1)]
theorem tv_X7_isLost : Tv cX7_isLost tb_X7_isLost := by
  unfold Tv
  decide +kernel
theorem w_924 : Cond.methodLink "LedgerFiles$Nodes" 62 yX7_links ∈ TB := tp_4 58 (by decide +kernel) rfl
theorem w_927 : Cond.code yX7_links prog_9_method_6_code 2 (some .int) ∈ TB := tp_4 61 rfl rfl
theorem cw_X7_62 : Cw RX7 62 yX7_links cX7_links 2 (some .int) 1 := ⟨w_924, w_927, w_157, by decide +kernel, by decide +kernel, by decide⟩
theorem w_925 : Cond.instanceMethod yX7_links ∈ TB := tp_4 59 (by decide +kernel) rfl
theorem w_926 : Cond.selects "LedgerFiles$Nodes" yX7_links yX7_links ∈ TB := tp_4 60 (by decide +kernel) rfl
def d_X7_isLost (N : Nat) (V : Nat → Rw) (D : CfT) (a0 : Int32) : Option (Int32) := bnd (d_X7_kind N V D a0) (fun v35 => if v35 = 0 then some ((0 : Int32)) else bnd (d_X7_links N V D a0) (fun v36 => if v36 = 0 then some ((1 : Int32)) else some ((0 : Int32))))
set_option maxRecDepth 100000 in
set_option maxHeartbeats 4000000 in
theorem k_X7_isLost (E : gE) (f : Nat → va_E) (N B gr : Nat) (C D : CfT) (A : MS) (hz : CfZ E N B gr) (h : CfV E f N B gr C) (hD : Dq D C) (hA : AR N B gr A C) (a0 : Int32) (r : Int32) (hr : d_X7_isLost N (vA A) D a0 = some r) : Ct E 4 yX7_isLost cX7_isLost 2 (some .boolean) [.ref (gAd E (37)), .int (a0)] f (fun v g => v = some (.int r) ∧ CfV E g N B gr C ∧ Fr CfK f g, fun _ _ => False) := by
  obtain ⟨z1, z2, z3, z4, z5, z6, z7⟩ := id hz
  refine Ct.of (by decide) (Nat.le_of_ble_eq_true rfl) (fun sz => ?_)
  refine G.eql [(0, .ref (gAd E (37))), (1, .int (a0))] rfl ?_
  unfold d_X7_isLost at hr
  refine G.go tv_X7_isLost 2 2 [(0, .ref (gAd E (37))), (1, .int (a0))] [.int (a0), .ref (gAd E (37))] rfl ?_
  obtain ⟨v35, hv35, hr⟩ := bnd_s hr
  refine G.callV (37) [.int (a0)] [] (k_X7_kind E _ N B gr C D A hz h hD hA a0 v35 hv35) cls_X7 (by omega) (h.q37) cw_X7_59 w_903 w_904 (Nat.le_of_ble_eq_true rfl) rfl (Nat.le_of_ble_eq_true rfl) (tbd tv_X7_isLost rfl) (fun v35w f35 q35 => ?_) (fun _ _ h => h.elim)
  obtain ⟨rfl, ha35, fa35⟩ := q35
  refine G.eqs [.int (v35)] rfl ?_
  refine G.if_eq 20 (tbd tv_X7_isLost rfl) (by decide) (fun c5 => ?_) (fun c5 => ?_)
  · replace hr := ite_t c5 hr
    refine G.go tv_X7_isLost 1 21 [(0, .ref (gAd E (37))), (1, .int (a0))] [.int ((0 : Int32))] rfl ?_
    cases hr
    exact G.iret rfl rfl ⟨rfl, ha35, (Fr.rf.tr fa35 (fun _ h => h))⟩ (tbd tv_X7_isLost rfl)
  · replace hr := ite_f c5 hr
    refine G.go tv_X7_isLost 2 10 [(0, .ref (gAd E (37))), (1, .int (a0))] [.int (a0), .ref (gAd E (37))] rfl ?_
    obtain ⟨v36, hv36, hr⟩ := bnd_s hr
    refine G.callV (37) [.int (a0)] [] (k_X7_links E _ N B gr C D A hz ha35 hD hA a0 v36 hv36) cls_X7 (by omega) (ha35.q37) cw_X7_62 w_925 w_926 (Nat.le_of_ble_eq_true rfl) rfl (Nat.le_of_ble_eq_true rfl) (tbd tv_X7_isLost rfl) (fun v36w f36 q36 => ?_) (fun _ _ h => h.elim)
    obtain ⟨rfl, ha36, fa36⟩ := q36
    refine G.eqs [.int (v36)] rfl ?_
    refine G.if_ne 20 (tbd tv_X7_isLost rfl) (by decide) (fun c13 => ?_) (fun c13 => ?_)
    · replace hr := ite_f c13 hr
      refine G.go tv_X7_isLost 1 21 [(0, .ref (gAd E (37))), (1, .int (a0))] [.int ((0 : Int32))] rfl ?_
      cases hr
      exact G.iret rfl rfl ⟨rfl, ha36, ((Fr.rf.tr fa35 (fun _ h => h)).tr fa36 (fun _ h => h))⟩ (tbd tv_X7_isLost rfl)
    · replace hr := ite_t c13 hr
      refine G.go tv_X7_isLost 2 21 [(0, .ref (gAd E (37))), (1, .int (a0))] [.int ((1 : Int32))] rfl ?_
      cases hr
      exact G.iret rfl rfl ⟨rfl, ha36, ((Fr.rf.tr fa35 (fun _ h => h)).tr fa36 (fun _ h => h))⟩ (tbd tv_X7_isLost rfl)
def tb_X7_lowestFree : List (Nat × Instr × Nat) := [(0, .iconst 1, 1), (1, .istore_n 1, 1), (2, .iload_n 1, 1), (3, .bipush 64, 2), (5, .if_icmp .gt 19, 3), (8, .aload_n 0, 1), (9, .iload_n 1, 1), (10, .invokevirtual 59, 3), (13, .ifCond .ne 5, 3), (16, .iload_n 1, 1), (17, .ireturn, 1), (18, .iinc 1 1, 3), (21, .goto (-19), 3), (24, .iconst (-1), 1), (25, .ireturn, 1)]
theorem tv_X7_lowestFree : Tv cX7_lowestFree tb_X7_lowestFree := by
  unfold Tv
  decide +kernel
def d_X7_lowestFree_2 (N : Nat) (V : Nat → Rw) (D : CfT) : Nat → Int32 → Option (Int32)
  | 0, _ => none
  | n + 1, x1 => if ((64 : Int32)) < x1 then some ((-1 : Int32)) else bnd (d_X7_kind N V D x1) (fun v37 => if v37 = 0 then some x1 else d_X7_lowestFree_2 N V D n (x1 + (1 : Int32)))
def d_X7_lowestFree (N : Nat) (V : Nat → Rw) (D : CfT) : Option (Int32) := d_X7_lowestFree_2 N V D fuL ((1 : Int32))
set_option maxRecDepth 100000 in
set_option maxHeartbeats 4000000 in
theorem l_X7_lowestFree_2 (E : gE) (f0 : Nat → va_E) (sz : Nat) (QA : Nat → Prop) (N B gr : Nat) (C D : CfT) (A : MS) (hz : CfZ E N B gr) (hD : Dq D C) (hA : AR N B gr A C) : ∀ (n : Nat), ∀ (x1 : Int32) (r : Int32) (hr : d_X7_lowestFree_2 N (vA A) D n x1 = some r) (f : Nat → va_E) (h : CfV E f N B gr C) (hf : Fr CfK f0 f), G E (4, yX7_lowestFree, 2, (some .int), sz, QA) cX7_lowestFree (gO E (4, yX7_lowestFree, 2, (some .int), sz, QA) (fun v g => v = some (.int r) ∧ CfV E g N B gr C ∧ Fr CfK f0 g, fun _ _ => False)) 2 [(0, .ref (gAd E (37))), (1, .int (x1))] [] f := by
  obtain ⟨z1, z2, z3, z4, z5, z6, z7⟩ := id hz
  intro n
  induction n with
  | zero =>
    intro x1 r hr f h hf
    cases hr
  | succ n ih =>
    intro x1 r hr f h hf
    unfold d_X7_lowestFree_2 at hr
    refine G.go tv_X7_lowestFree 2 5 [(0, .ref (gAd E (37))), (1, .int (x1))] [.int ((64 : Int32)), .int (x1)] rfl ?_
    refine G.cmp_gt 24 (tbd tv_X7_lowestFree rfl) (by decide) (fun c5 => ?_) (fun c5 => ?_)
    · replace hr := ite_t c5 hr
      refine G.go tv_X7_lowestFree 1 25 [(0, .ref (gAd E (37))), (1, .int (x1))] [.int ((-1 : Int32))] rfl ?_
      cases hr
      exact G.iret rfl rfl ⟨rfl, h, hf⟩ (tbd tv_X7_lowestFree rfl)
    · replace hr := ite_f c5 hr
      refine G.go tv_X7_lowestFree 2 10 [(0, .ref (gAd E (37))), (1, .int (x1))] [.int (x1), .ref (gAd E (37))] rfl ?_
      obtain ⟨v37, hv37, hr⟩ := bnd_s hr
      refine G.callV (37) [.int (x1)] [] (k_X7_kind E _ N B gr C D A hz h hD hA x1 v37 hv37) cls_X7 (by omega) (h.q37) cw_X7_59 w_903 w_904 (Nat.le_of_ble_eq_true rfl) rfl (Nat.le_of_ble_eq_true rfl) (tbd tv_X7_lowestFree rfl) (fun v37w f37 q37 => ?_) (fun _ _ h => h.elim)
      obtain ⟨rfl, ha37, fa37⟩ := q37
      refine G.eqs [.int (v37)] rfl ?_
      refine G.if_ne 18 (tbd tv_X7_lowestFree rfl) (by decide) (fun c13 => ?_) (fun c13 => ?_)
      · replace hr := ite_f c13 hr
        refine G.go tv_X7_lowestFree 2 2 [(0, .ref (gAd E (37))), (1, .int (x1 + (1 : Int32)))] [] rfl ?_
        refine G.less [(0, .ref (gAd E (37))), (1, .int (x1 + (1 : Int32)))] [0, 1] rfl ?_
        exact ih _ _ hr _ ha37 (hf.tr fa37 (fun _ h => h))
      · replace hr := ite_t c13 hr
        refine G.go tv_X7_lowestFree 1 17 [(0, .ref (gAd E (37))), (1, .int (x1))] [.int (x1)] rfl ?_
        cases hr
        exact G.iret rfl rfl ⟨rfl, ha37, (hf.tr fa37 (fun _ h => h))⟩ (tbd tv_X7_lowestFree rfl)
set_option maxRecDepth 100000 in
set_option maxHeartbeats 4000000 in
theorem k_X7_lowestFree (E : gE) (f : Nat → va_E) (N B gr : Nat) (C D : CfT) (A : MS) (hz : CfZ E N B gr) (h : CfV E f N B gr C) (hD : Dq D C) (hA : AR N B gr A C) (r : Int32) (hr : d_X7_lowestFree N (vA A) D = some r) : Ct E 4 yX7_lowestFree cX7_lowestFree 2 (some .int) [.ref (gAd E (37))] f (fun v g => v = some (.int r) ∧ CfV E g N B gr C ∧ Fr CfK f g, fun _ _ => False) := by
  obtain ⟨z1, z2, z3, z4, z5, z6, z7⟩ := id hz
  refine Ct.of (by decide) (Nat.le_of_ble_eq_true rfl) (fun sz => ?_)
  refine G.eql [(0, .ref (gAd E (37)))] rfl ?_
  unfold d_X7_lowestFree at hr
  refine G.go tv_X7_lowestFree 2 2 [(0, .ref (gAd E (37))), (1, .int ((1 : Int32)))] [] rfl ?_
  refine G.less [(0, .ref (gAd E (37))), (1, .int ((1 : Int32)))] [0, 1] rfl ?_
  exact l_X7_lowestFree_2 E f sz _ N B gr C D A hz hD hA _ _ _ hr _ h Fr.rf
def tb_X7_freeInodes : List (Nat × Instr × Nat) := [(0, .iconst 0, 1), (1, .istore_n 1, 1), (2, .iconst 1, 1), (3, .istore_n 2, 1), (4, .iload_n 2, 1), (5, .bipush 64, 2), (7, .if_icmp .gt 20, 3), (10, .aload_n 0, 1), (11, .iload_n 2, 1), (12, .invokevirtual 59, 3), (15, .ifCond .ne 6, 3), (18, .iinc 1 1, 3), (21, .iinc 2 1, 3), (24, .goto (-20), 3), (27, .iload_n 1, 1), (28, .ireturn, 1)]
theorem tv_X7_freeInodes : Tv cX7_freeInodes tb_X7_freeInodes := by
  unfold Tv
  decide +kernel
def d_X7_freeInodes_4 (N : Nat) (V : Nat → Rw) (D : CfT) : Nat → Int32 → Int32 → Option (Int32)
  | 0, _, _ => none
  | n + 1, x1, x2 => if ((64 : Int32)) < x2 then some x1 else bnd (d_X7_kind N V D x2) (fun v38 => if v38 = 0 then d_X7_freeInodes_4 N V D n (x1 + (1 : Int32)) (x2 + (1 : Int32)) else d_X7_freeInodes_4 N V D n x1 (x2 + (1 : Int32)))
def d_X7_freeInodes (N : Nat) (V : Nat → Rw) (D : CfT) : Option (Int32) := d_X7_freeInodes_4 N V D fuL ((0 : Int32)) ((1 : Int32))
set_option maxRecDepth 100000 in
set_option maxHeartbeats 4000000 in
theorem l_X7_freeInodes_4 (E : gE) (f0 : Nat → va_E) (sz : Nat) (QA : Nat → Prop) (N B gr : Nat) (C D : CfT) (A : MS) (hz : CfZ E N B gr) (hD : Dq D C) (hA : AR N B gr A C) : ∀ (n : Nat), ∀ (x1 : Int32) (x2 : Int32) (r : Int32) (hr : d_X7_freeInodes_4 N (vA A) D n x1 x2 = some r) (f : Nat → va_E) (h : CfV E f N B gr C) (hf : Fr CfK f0 f), G E (4, yX7_freeInodes, 3, (some .int), sz, QA) cX7_freeInodes (gO E (4, yX7_freeInodes, 3, (some .int), sz, QA) (fun v g => v = some (.int r) ∧ CfV E g N B gr C ∧ Fr CfK f0 g, fun _ _ => False)) 4 [(0, .ref (gAd E (37))), (1, .int (x1)), (2, .int (x2))] [] f := by
  obtain ⟨z1, z2, z3, z4, z5, z6, z7⟩ := id hz
  intro n
  induction n with
  | zero =>
    intro x1 x2 r hr f h hf
    cases hr
  | succ n ih =>
    intro x1 x2 r hr f h hf
    unfold d_X7_freeInodes_4 at hr
    refine G.go tv_X7_freeInodes 2 7 [(0, .ref (gAd E (37))), (1, .int (x1)), (2, .int (x2))] [.int ((64 : Int32)), .int (x2)] rfl ?_
    refine G.cmp_gt 27 (tbd tv_X7_freeInodes rfl) (by decide) (fun c7 => ?_) (fun c7 => ?_)
    · replace hr := ite_t c7 hr
      refine G.go tv_X7_freeInodes 1 28 [(0, .ref (gAd E (37))), (1, .int (x1)), (2, .int (x2))] [.int (x1)] rfl ?_
      cases hr
      exact G.iret rfl rfl ⟨rfl, h, hf⟩ (tbd tv_X7_freeInodes rfl)
    · replace hr := ite_f c7 hr
      refine G.go tv_X7_freeInodes 2 12 [(0, .ref (gAd E (37))), (1, .int (x1)), (2, .int (x2))] [.int (x2), .ref (gAd E (37))] rfl ?_
      obtain ⟨v38, hv38, hr⟩ := bnd_s hr
      refine G.callV (37) [.int (x2)] [] (k_X7_kind E _ N B gr C D A hz h hD hA x2 v38 hv38) cls_X7 (by omega) (h.q37) cw_X7_59 w_903 w_904 (Nat.le_of_ble_eq_true rfl) rfl (Nat.le_of_ble_eq_true rfl) (tbd tv_X7_freeInodes rfl) (fun v38w f38 q38 => ?_) (fun _ _ h => h.elim)
      obtain ⟨rfl, ha38, fa38⟩ := q38
      refine G.eqs [.int (v38)] rfl ?_
      refine G.if_ne 21 (tbd tv_X7_freeInodes rfl) (by decide) (fun c15 => ?_) (fun c15 => ?_)
      · replace hr := ite_f c15 hr
        refine G.go tv_X7_freeInodes 2 4 [(0, .ref (gAd E (37))), (1, .int (x1)), (2, .int (x2 + (1 : Int32)))] [] rfl ?_
        refine G.less [(0, .ref (gAd E (37))), (1, .int (x1)), (2, .int (x2 + (1 : Int32)))] [0, 1, 2] rfl ?_
        exact ih _ _ _ hr _ ha38 (hf.tr fa38 (fun _ h => h))
      · replace hr := ite_t c15 hr
        refine G.go tv_X7_freeInodes 3 4 [(0, .ref (gAd E (37))), (1, .int (x1 + (1 : Int32))), (2, .int (x2 + (1 : Int32)))] [] rfl ?_
        refine G.less [(0, .ref (gAd E (37))), (1, .int (x1 + (1 : Int32))), (2, .int (x2 + (1 : Int32)))] [0, 1, 2] rfl ?_
        exact ih _ _ _ hr _ ha38 (hf.tr fa38 (fun _ h => h))
set_option maxRecDepth 100000 in
set_option maxHeartbeats 4000000 in
theorem k_X7_freeInodes (E : gE) (f : Nat → va_E) (N B gr : Nat) (C D : CfT) (A : MS) (hz : CfZ E N B gr) (h : CfV E f N B gr C) (hD : Dq D C) (hA : AR N B gr A C) (r : Int32) (hr : d_X7_freeInodes N (vA A) D = some r) : Ct E 4 yX7_freeInodes cX7_freeInodes 3 (some .int) [.ref (gAd E (37))] f (fun v g => v = some (.int r) ∧ CfV E g N B gr C ∧ Fr CfK f g, fun _ _ => False) := by
  obtain ⟨z1, z2, z3, z4, z5, z6, z7⟩ := id hz
  refine Ct.of (by decide) (Nat.le_of_ble_eq_true rfl) (fun sz => ?_)
  refine G.eql [(0, .ref (gAd E (37)))] rfl ?_
  unfold d_X7_freeInodes at hr
  refine G.go tv_X7_freeInodes 4 4 [(0, .ref (gAd E (37))), (1, .int ((0 : Int32))), (2, .int ((1 : Int32)))] [] rfl ?_
  refine G.less [(0, .ref (gAd E (37))), (1, .int ((0 : Int32))), (2, .int ((1 : Int32)))] [0, 1, 2] rfl ?_
  exact l_X7_freeInodes_4 E f sz _ N B gr C D A hz hD hA _ _ _ _ hr _ h Fr.rf
def tb_X7_lostInodes : List (Nat × Instr × Nat) := [(0, .iconst 0, 1), (1, .istore_n 1, 1), (2, .iconst 1, 1), (3, .istore_n 2, 1), (4, .iload_n 2, 1), (5, .bipush 64, 2), (7, .if_icmp .gt 20, 3), (10, .aload_n 0, 1), (11, .iload_n 2, 1), (12, .invokevirtual 65, 3), (15, .ifCond .eq 6, 3), (18, .iinc 1 1, 3), (21, .iinc 2 1, 3), (24, .goto (-20), 3), (27, .iload_n 1, 1), (28, .ireturn, 1)]
theorem tv_X7_lostInodes : Tv cX7_lostInodes tb_X7_lostInodes := by
  unfold Tv
  decide +kernel
theorem w_2049 : Cond.methodLink "LedgerFiles$Nodes" 65 yX7_isLost ∈ TB := tp_8 223 (by decide +kernel) rfl
theorem w_901 : Cond.code yX7_isLost prog_9_method_16_code 2 (some .boolean) ∈ TB := tp_4 35 rfl rfl
theorem cw_X7_65 : Cw RX7 65 yX7_isLost cX7_isLost 2 (some .boolean) 1 := ⟨w_2049, w_901, w_157, by decide +kernel, by decide +kernel, by decide⟩
theorem w_899 : Cond.instanceMethod yX7_isLost ∈ TB := tp_4 33 (by decide +kernel) rfl
theorem w_900 : Cond.selects "LedgerFiles$Nodes" yX7_isLost yX7_isLost ∈ TB := tp_4 34 (by decide +kernel) rfl
def d_X7_lostInodes_4 (N : Nat) (V : Nat → Rw) (D : CfT) : Nat → Int32 → Int32 → Option (Int32)
  | 0, _, _ => none
  | n + 1, x1, x2 => if ((64 : Int32)) < x2 then some x1 else bnd (d_X7_isLost N V D x2) (fun v39 => if v39 = 0 then d_X7_lostInodes_4 N V D n x1 (x2 + (1 : Int32)) else d_X7_lostInodes_4 N V D n (x1 + (1 : Int32)) (x2 + (1 : Int32)))
def d_X7_lostInodes (N : Nat) (V : Nat → Rw) (D : CfT) : Option (Int32) := d_X7_lostInodes_4 N V D fuL ((0 : Int32)) ((1 : Int32))
set_option maxRecDepth 100000 in
set_option maxHeartbeats 4000000 in
theorem l_X7_lostInodes_4 (E : gE) (f0 : Nat → va_E) (sz : Nat) (QA : Nat → Prop) (N B gr : Nat) (C D : CfT) (A : MS) (hz : CfZ E N B gr) (hD : Dq D C) (hA : AR N B gr A C) : ∀ (n : Nat), ∀ (x1 : Int32) (x2 : Int32) (r : Int32) (hr : d_X7_lostInodes_4 N (vA A) D n x1 x2 = some r) (f : Nat → va_E) (h : CfV E f N B gr C) (hf : Fr CfK f0 f), G E (5, yX7_lostInodes, 3, (some .int), sz, QA) cX7_lostInodes (gO E (5, yX7_lostInodes, 3, (some .int), sz, QA) (fun v g => v = some (.int r) ∧ CfV E g N B gr C ∧ Fr CfK f0 g, fun _ _ => False)) 4 [(0, .ref (gAd E (37))), (1, .int (x1)), (2, .int (x2))] [] f := by
  obtain ⟨z1, z2, z3, z4, z5, z6, z7⟩ := id hz
  intro n
  induction n with
  | zero =>
    intro x1 x2 r hr f h hf
    cases hr
  | succ n ih =>
    intro x1 x2 r hr f h hf
    unfold d_X7_lostInodes_4 at hr
    refine G.go tv_X7_lostInodes 2 7 [(0, .ref (gAd E (37))), (1, .int (x1)), (2, .int (x2))] [.int ((64 : Int32)), .int (x2)] rfl ?_
    refine G.cmp_gt 27 (tbd tv_X7_lostInodes rfl) (by decide) (fun c7 => ?_) (fun c7 => ?_)
    · replace hr := ite_t c7 hr
      refine G.go tv_X7_lostInodes 1 28 [(0, .ref (gAd E (37))), (1, .int (x1)), (2, .int (x2))] [.int (x1)] rfl ?_
      cases hr
      exact G.iret rfl rfl ⟨rfl, h, hf⟩ (tbd tv_X7_lostInodes rfl)
    · replace hr := ite_f c7 hr
      refine G.go tv_X7_lostInodes 2 12 [(0, .ref (gAd E (37))), (1, .int (x1)), (2, .int (x2))] [.int (x2), .ref (gAd E (37))] rfl ?_
      obtain ⟨v39, hv39, hr⟩ := bnd_s hr
      refine G.callV (37) [.int (x2)] [] (k_X7_isLost E _ N B gr C D A hz h hD hA x2 v39 hv39) cls_X7 (by omega) (h.q37) cw_X7_65 w_899 w_900 (Nat.le_of_ble_eq_true rfl) rfl (Nat.le_of_ble_eq_true rfl) (tbd tv_X7_lostInodes rfl) (fun v39w f39 q39 => ?_) (fun _ _ h => h.elim)
      obtain ⟨rfl, ha39, fa39⟩ := q39
      refine G.eqs [.int (v39)] rfl ?_
      refine G.if_eq 21 (tbd tv_X7_lostInodes rfl) (by decide) (fun c15 => ?_) (fun c15 => ?_)
      · replace hr := ite_t c15 hr
        refine G.go tv_X7_lostInodes 2 4 [(0, .ref (gAd E (37))), (1, .int (x1)), (2, .int (x2 + (1 : Int32)))] [] rfl ?_
        refine G.less [(0, .ref (gAd E (37))), (1, .int (x1)), (2, .int (x2 + (1 : Int32)))] [0, 1, 2] rfl ?_
        exact ih _ _ _ hr _ ha39 (hf.tr fa39 (fun _ h => h))
      · replace hr := ite_f c15 hr
        refine G.go tv_X7_lostInodes 3 4 [(0, .ref (gAd E (37))), (1, .int (x1 + (1 : Int32))), (2, .int (x2 + (1 : Int32)))] [] rfl ?_
        refine G.less [(0, .ref (gAd E (37))), (1, .int (x1 + (1 : Int32))), (2, .int (x2 + (1 : Int32)))] [0, 1, 2] rfl ?_
        exact ih _ _ _ hr _ ha39 (hf.tr fa39 (fun _ h => h))
set_option maxRecDepth 100000 in
set_option maxHeartbeats 4000000 in
theorem k_X7_lostInodes (E : gE) (f : Nat → va_E) (N B gr : Nat) (C D : CfT) (A : MS) (hz : CfZ E N B gr) (h : CfV E f N B gr C) (hD : Dq D C) (hA : AR N B gr A C) (r : Int32) (hr : d_X7_lostInodes N (vA A) D = some r) : Ct E 5 yX7_lostInodes cX7_lostInodes 3 (some .int) [.ref (gAd E (37))] f (fun v g => v = some (.int r) ∧ CfV E g N B gr C ∧ Fr CfK f g, fun _ _ => False) := by
  obtain ⟨z1, z2, z3, z4, z5, z6, z7⟩ := id hz
  refine Ct.of (by decide) (Nat.le_of_ble_eq_true rfl) (fun sz => ?_)
  refine G.eql [(0, .ref (gAd E (37)))] rfl ?_
  unfold d_X7_lostInodes at hr
  refine G.go tv_X7_lostInodes 4 4 [(0, .ref (gAd E (37))), (1, .int ((0 : Int32))), (2, .int ((1 : Int32)))] [] rfl ?_
  refine G.less [(0, .ref (gAd E (37))), (1, .int ((0 : Int32))), (2, .int ((1 : Int32)))] [0, 1, 2] rfl ?_
  exact l_X7_lostInodes_4 E f sz _ N B gr C D A hz hD hA _ _ _ _ hr _ h Fr.rf
def tb_X7_levels : List (Nat × Instr × Nat) := [(0, .iload_n 0, 1), (1, .bipush 8, 2), (3, .if_icmp .ge 7, 3), (6, .iconst 1, 1), (7, .goto 14, 3), (10, .iload_n 0, 1), (11, .bipush 72, 2), (13, .if_icmp .ge 7, 3), (16, .iconst 2, 1), (17, .goto 4, 3), (20, .iconst 3, 1), (21, .ireturn, 1)]
theorem tv_X7_levels : Tv cX7_levels tb_X7_levels := by
  unfold Tv
  decide +kernel
def d_X7_levels (N : Nat) (V : Nat → Rw) (D : CfT) (a0 : Int32) : Option (Int32) := if ((8 : Int32)) ≤ a0 then if ((72 : Int32)) ≤ a0 then some ((3 : Int32)) else some ((2 : Int32)) else some ((1 : Int32))
set_option maxRecDepth 100000 in
set_option maxHeartbeats 4000000 in
theorem k_X7_levels (E : gE) (f : Nat → va_E) (N B gr : Nat) (C D : CfT) (A : MS) (hz : CfZ E N B gr) (h : CfV E f N B gr C) (hD : Dq D C) (hA : AR N B gr A C) (a0 : Int32) (r : Int32) (hr : d_X7_levels N (vA A) D a0 = some r) : Ct E 1 yX7_levels cX7_levels 1 (some .int) [.int (a0)] f (fun v g => v = some (.int r) ∧ CfV E g N B gr C ∧ Fr CfK f g, fun _ _ => False) := by
  obtain ⟨z1, z2, z3, z4, z5, z6, z7⟩ := id hz
  refine Ct.of (by decide) (Nat.le_of_ble_eq_true rfl) (fun sz => ?_)
  refine G.eql [(0, .int (a0))] rfl ?_
  unfold d_X7_levels at hr
  refine G.go tv_X7_levels 2 3 [(0, .int (a0))] [.int ((8 : Int32)), .int (a0)] rfl ?_
  refine G.cmp_ge 10 (tbd tv_X7_levels rfl) (by decide) (fun c3 => ?_) (fun c3 => ?_)
  · replace hr := ite_t c3 hr
    refine G.go tv_X7_levels 2 13 [(0, .int (a0))] [.int ((72 : Int32)), .int (a0)] rfl ?_
    refine G.cmp_ge 20 (tbd tv_X7_levels rfl) (by decide) (fun c13 => ?_) (fun c13 => ?_)
    · replace hr := ite_t c13 hr
      refine G.go tv_X7_levels 1 21 [(0, .int (a0))] [.int ((3 : Int32))] rfl ?_
      cases hr
      exact G.iret rfl rfl ⟨rfl, h, Fr.rf⟩ (tbd tv_X7_levels rfl)
    · replace hr := ite_f c13 hr
      refine G.go tv_X7_levels 2 21 [(0, .int (a0))] [.int ((2 : Int32))] rfl ?_
      cases hr
      exact G.iret rfl rfl ⟨rfl, h, Fr.rf⟩ (tbd tv_X7_levels rfl)
  · replace hr := ite_f c3 hr
    refine G.go tv_X7_levels 2 21 [(0, .int (a0))] [.int ((1 : Int32))] rfl ?_
    cases hr
    exact G.iret rfl rfl ⟨rfl, h, Fr.rf⟩ (tbd tv_X7_levels rfl)
def tb_X7_offset : List (Nat × Instr × Nat) := [(0, .iload_n 0, 1), (1, .bipush 8, 2), (3, .if_icmp .ge 10, 3), (6, .bipush 12, 2), (8, .iconst 2, 1), (9, .iload_n 0, 1), (10, .imul, 1), (11, .iadd, 1), (12, .ireturn, 1), (13, .iload_n 0, 1), (14, .bipush 72, 2), (16, .if_icmp .ge 19, 3), (19, .iload_n 1, 1), (20, .ifCond .ne 8, 3), (23, .bipush 28, 2), (25, .goto 9, 3), (28, .iconst 2, 1), (29, .iload_n 0, 1), (30, .bipush 8, 2), (32, .isub, 1), (33, .imul, 1), (34, .ireturn, 1), (35, .iload_n 0, 1), (36, .bipush 72, 2), (38, .isub, 1), (39, .istore_n 2, 1), (40, .iload_n 1, 1), (41, .ifCond .ne 8, 3), (44, .bipush 30, 2), (46, .goto 23, 3), (49, .iload_n 1, 1), (50, .iconst 1, 1), (51, .if_icmp .ne 12, 3), (54, .iconst 2, 1), (55, .iload_n 2, 1), (56, .bipush 64, 2), (58, .idiv, 1), (59, .imul, 1), (60, .goto 9, 3), (63, .iconst 2, 1), (64, .iload_n 2, 1), (65, .bipush 64, 2), (67, .irem, 1), (68, .imul, 1), (69, .ireturn, 1)]
theorem tv_X7_offset : Tv cX7_offset tb_X7_offset := by
  unfold Tv
  decide +kernel
def d_X7_offset (N : Nat) (V : Nat → Rw) (D : CfT) (a0 : Int32) (a1 : Int32) : Option (Int32) := if ((8 : Int32)) ≤ a0 then if ((72 : Int32)) ≤ a0 then if a1 = 0 then some ((30 : Int32)) else if a1 = ((1 : Int32)) then some (((2 : Int32)) * (((a0) - ((72 : Int32))) / ((64 : Int32)))) else some (((2 : Int32)) * (((a0) - ((72 : Int32))) - ((a0) - ((72 : Int32))) / ((64 : Int32)) * ((64 : Int32)))) else if a1 = 0 then some ((28 : Int32)) else some (((2 : Int32)) * ((a0) - ((8 : Int32)))) else some (((12 : Int32)) + (((2 : Int32)) * (a0)))
set_option maxRecDepth 100000 in
set_option maxHeartbeats 4000000 in
theorem k_X7_offset (E : gE) (f : Nat → va_E) (N B gr : Nat) (C D : CfT) (A : MS) (hz : CfZ E N B gr) (h : CfV E f N B gr C) (hD : Dq D C) (hA : AR N B gr A C) (a0 : Int32) (a1 : Int32) (r : Int32) (hr : d_X7_offset N (vA A) D a0 a1 = some r) : Ct E 1 yX7_offset cX7_offset 3 (some .int) [.int (a0), .int (a1)] f (fun v g => v = some (.int r) ∧ CfV E g N B gr C ∧ Fr CfK f g, fun _ _ => False) := by
  obtain ⟨z1, z2, z3, z4, z5, z6, z7⟩ := id hz
  refine Ct.of (by decide) (Nat.le_of_ble_eq_true rfl) (fun sz => ?_)
  refine G.eql [(0, .int (a0)), (1, .int (a1))] rfl ?_
  unfold d_X7_offset at hr
  refine G.go tv_X7_offset 2 3 [(0, .int (a0)), (1, .int (a1))] [.int ((8 : Int32)), .int (a0)] rfl ?_
  refine G.cmp_ge 13 (tbd tv_X7_offset rfl) (by decide) (fun c3 => ?_) (fun c3 => ?_)
  · replace hr := ite_t c3 hr
    refine G.go tv_X7_offset 2 16 [(0, .int (a0)), (1, .int (a1))] [.int ((72 : Int32)), .int (a0)] rfl ?_
    refine G.cmp_ge 35 (tbd tv_X7_offset rfl) (by decide) (fun c16 => ?_) (fun c16 => ?_)
    · replace hr := ite_t c16 hr
      refine G.go tv_X7_offset 5 41 [(0, .int (a0)), (1, .int (a1)), (2, .int ((a0) - ((72 : Int32))))] [.int (a1)] rfl ?_
      refine G.if_ne 49 (tbd tv_X7_offset rfl) (by decide) (fun c41 => ?_) (fun c41 => ?_)
      · replace hr := ite_f c41 hr
        refine G.go tv_X7_offset 2 51 [(0, .int (a0)), (1, .int (a1)), (2, .int ((a0) - ((72 : Int32))))] [.int ((1 : Int32)), .int (a1)] rfl ?_
        refine G.cmp_ne 63 (tbd tv_X7_offset rfl) (by decide) (fun c51 => ?_) (fun c51 => ?_)
        · replace hr := ite_f c51 hr
          refine G.go tv_X7_offset 3 67 [(0, .int (a0)), (1, .int (a1)), (2, .int ((a0) - ((72 : Int32))))] [.int ((64 : Int32)), .int ((a0) - ((72 : Int32))), .int ((2 : Int32))] rfl ?_
          refine G.irem (by decide) (tbd tv_X7_offset rfl) ?_
          refine G.go tv_X7_offset 1 69 [(0, .int (a0)), (1, .int (a1)), (2, .int ((a0) - ((72 : Int32))))] [.int (((2 : Int32)) * (((a0) - ((72 : Int32))) - ((a0) - ((72 : Int32))) / ((64 : Int32)) * ((64 : Int32))))] rfl ?_
          cases hr
          exact G.iret rfl rfl ⟨rfl, h, Fr.rf⟩ (tbd tv_X7_offset rfl)
        · replace hr := ite_t c51 hr
          refine G.go tv_X7_offset 3 58 [(0, .int (a0)), (1, .int (a1)), (2, .int ((a0) - ((72 : Int32))))] [.int ((64 : Int32)), .int ((a0) - ((72 : Int32))), .int ((2 : Int32))] rfl ?_
          refine G.idiv (by decide) (tbd tv_X7_offset rfl) ?_
          refine G.go tv_X7_offset 2 69 [(0, .int (a0)), (1, .int (a1)), (2, .int ((a0) - ((72 : Int32))))] [.int (((2 : Int32)) * (((a0) - ((72 : Int32))) / ((64 : Int32))))] rfl ?_
          cases hr
          exact G.iret rfl rfl ⟨rfl, h, Fr.rf⟩ (tbd tv_X7_offset rfl)
      · replace hr := ite_t c41 hr
        refine G.go tv_X7_offset 2 69 [(0, .int (a0)), (1, .int (a1)), (2, .int ((a0) - ((72 : Int32))))] [.int ((30 : Int32))] rfl ?_
        cases hr
        exact G.iret rfl rfl ⟨rfl, h, Fr.rf⟩ (tbd tv_X7_offset rfl)
    · replace hr := ite_f c16 hr
      refine G.go tv_X7_offset 1 20 [(0, .int (a0)), (1, .int (a1))] [.int (a1)] rfl ?_
      refine G.if_ne 28 (tbd tv_X7_offset rfl) (by decide) (fun c20 => ?_) (fun c20 => ?_)
      · replace hr := ite_f c20 hr
        refine G.go tv_X7_offset 5 34 [(0, .int (a0)), (1, .int (a1))] [.int (((2 : Int32)) * ((a0) - ((8 : Int32))))] rfl ?_
        cases hr
        exact G.iret rfl rfl ⟨rfl, h, Fr.rf⟩ (tbd tv_X7_offset rfl)
      · replace hr := ite_t c20 hr
        refine G.go tv_X7_offset 2 34 [(0, .int (a0)), (1, .int (a1))] [.int ((28 : Int32))] rfl ?_
        cases hr
        exact G.iret rfl rfl ⟨rfl, h, Fr.rf⟩ (tbd tv_X7_offset rfl)
  · replace hr := ite_f c3 hr
    refine G.go tv_X7_offset 5 12 [(0, .int (a0)), (1, .int (a1))] [.int (((12 : Int32)) + (((2 : Int32)) * (a0)))] rfl ?_
    cases hr
    exact G.iret rfl rfl ⟨rfl, h, Fr.rf⟩ (tbd tv_X7_offset rfl)
def tb_X7_lastBeside : List (Nat × Instr × Nat) := [(0, .iload_n 0, 1), (1, .bipush 8, 2), (3, .if_icmp .ge 6, 3), (6, .bipush 7, 2), (8, .ireturn, 1), (9, .iload_n 0, 1), (10, .iload_n 0, 1), (11, .bipush 8, 2), (13, .isub, 1), (14, .bipush 64, 2), (16, .irem, 1), (17, .isub, 1), (18, .bipush 64, 2), (20, .iadd, 1), (21, .iconst 1, 1), (22, .isub, 1), (23, .ireturn, 1)]
theorem tv_X7_lastBeside : Tv cX7_lastBeside tb_X7_lastBeside := by
  unfold Tv
  decide +kernel
def d_X7_lastBeside (N : Nat) (V : Nat → Rw) (D : CfT) (a0 : Int32) : Option (Int32) := if ((8 : Int32)) ≤ a0 then some ((((a0) - (((a0) - ((8 : Int32))) - ((a0) - ((8 : Int32))) / ((64 : Int32)) * ((64 : Int32)))) + ((64 : Int32))) - ((1 : Int32))) else some ((7 : Int32))
set_option maxRecDepth 100000 in
set_option maxHeartbeats 4000000 in
theorem k_X7_lastBeside (E : gE) (f : Nat → va_E) (N B gr : Nat) (C D : CfT) (A : MS) (hz : CfZ E N B gr) (h : CfV E f N B gr C) (hD : Dq D C) (hA : AR N B gr A C) (a0 : Int32) (r : Int32) (hr : d_X7_lastBeside N (vA A) D a0 = some r) : Ct E 1 yX7_lastBeside cX7_lastBeside 1 (some .int) [.int (a0)] f (fun v g => v = some (.int r) ∧ CfV E g N B gr C ∧ Fr CfK f g, fun _ _ => False) := by
  obtain ⟨z1, z2, z3, z4, z5, z6, z7⟩ := id hz
  refine Ct.of (by decide) (Nat.le_of_ble_eq_true rfl) (fun sz => ?_)
  refine G.eql [(0, .int (a0))] rfl ?_
  unfold d_X7_lastBeside at hr
  refine G.go tv_X7_lastBeside 2 3 [(0, .int (a0))] [.int ((8 : Int32)), .int (a0)] rfl ?_
  refine G.cmp_ge 9 (tbd tv_X7_lastBeside rfl) (by decide) (fun c3 => ?_) (fun c3 => ?_)
  · replace hr := ite_t c3 hr
    refine G.go tv_X7_lastBeside 5 16 [(0, .int (a0))] [.int ((64 : Int32)), .int ((a0) - ((8 : Int32))), .int (a0)] rfl ?_
    refine G.irem (by decide) (tbd tv_X7_lastBeside rfl) ?_
    refine G.go tv_X7_lastBeside 5 23 [(0, .int (a0))] [.int ((((a0) - (((a0) - ((8 : Int32))) - ((a0) - ((8 : Int32))) / ((64 : Int32)) * ((64 : Int32)))) + ((64 : Int32))) - ((1 : Int32)))] rfl ?_
    cases hr
    exact G.iret rfl rfl ⟨rfl, h, Fr.rf⟩ (tbd tv_X7_lastBeside rfl)
  · replace hr := ite_f c3 hr
    refine G.go tv_X7_lastBeside 1 8 [(0, .int (a0))] [.int ((7 : Int32))] rfl ?_
    cases hr
    exact G.iret rfl rfl ⟨rfl, h, Fr.rf⟩ (tbd tv_X7_lastBeside rfl)
def tb_X7_spot : List (Nat × Instr × Nat) := [(0, .iload_n 1, 1), (1, .iload_n 1, 1), (2, .invokestatic 105, 3), (5, .iconst 1, 1), (6, .isub, 1), (7, .invokestatic 108, 3), (10, .iload_n 1, 1), (11, .bipush 8, 2), (13, .if_icmp .ge 10, 3), (16, .iload_n 0, 1), (17, .invokestatic 40, 3), (20, .goto 4, 3), (23, .iconst 0, 1), (24, .iadd, 1), (25, .ireturn, 1)]
theorem tv_X7_spot : Tv cX7_spot tb_X7_spot := by
  unfold Tv
  decide +kernel
theorem w_960 : Cond.methodLink "LedgerFiles$Nodes" 105 yX7_levels ∈ TB := tp_4 94 (by decide +kernel) rfl
theorem w_962 : Cond.code yX7_levels prog_9_method_23_code 1 (some .int) ∈ TB := tp_4 96 rfl rfl
theorem cw_X7_105 : Cw RX7 105 yX7_levels cX7_levels 1 (some .int) 1 := ⟨w_960, w_962, w_157, by decide +kernel, by decide +kernel, by decide⟩
theorem w_961 : Cond.static yX7_levels ∈ TB := tp_4 95 (by decide +kernel) rfl
theorem w_957 : Cond.methodLink "LedgerFiles$Nodes" 108 yX7_offset ∈ TB := tp_4 91 (by decide +kernel) rfl
theorem w_959 : Cond.code yX7_offset prog_9_method_24_code 3 (some .int) ∈ TB := tp_4 93 rfl rfl
theorem cw_X7_108 : Cw RX7 108 yX7_offset cX7_offset 3 (some .int) 2 := ⟨w_957, w_959, w_157, by decide +kernel, by decide +kernel, by decide⟩
theorem w_958 : Cond.static yX7_offset ∈ TB := tp_4 92 (by decide +kernel) rfl
def d_X7_spot (N : Nat) (V : Nat → Rw) (D : CfT) (a0 : Int32) (a1 : Int32) : Option (Int32) := bnd (d_X7_levels N V D a1) (fun v40 => bnd (d_X7_offset N V D a1 ((v40) - ((1 : Int32)))) (fun v41 => if ((8 : Int32)) ≤ a1 then some ((v41) + ((0 : Int32))) else bnd (d_X7_start N V D a0) (fun v42 => some ((v41) + (v42)))))
set_option maxRecDepth 100000 in
set_option maxHeartbeats 4000000 in
theorem k_X7_spot (E : gE) (f : Nat → va_E) (N B gr : Nat) (C D : CfT) (A : MS) (hz : CfZ E N B gr) (h : CfV E f N B gr C) (hD : Dq D C) (hA : AR N B gr A C) (a0 : Int32) (a1 : Int32) (r : Int32) (hr : d_X7_spot N (vA A) D a0 a1 = some r) : Ct E 2 yX7_spot cX7_spot 2 (some .int) [.int (a0), .int (a1)] f (fun v g => v = some (.int r) ∧ CfV E g N B gr C ∧ Fr CfK f g, fun _ _ => False) := by
  obtain ⟨z1, z2, z3, z4, z5, z6, z7⟩ := id hz
  refine Ct.of (by decide) (Nat.le_of_ble_eq_true rfl) (fun sz => ?_)
  refine G.eql [(0, .int (a0)), (1, .int (a1))] rfl ?_
  unfold d_X7_spot at hr
  refine G.go tv_X7_spot 2 2 [(0, .int (a0)), (1, .int (a1))] [.int (a1), .int (a1)] rfl ?_
  obtain ⟨v40, hv40, hr⟩ := bnd_s hr
  refine G.callS [.int (a1)] [.int (a1)] (k_X7_levels E _ N B gr C D A hz h hD hA a1 v40 hv40) cw_X7_105 w_961 (Nat.le_of_ble_eq_true rfl) rfl (Nat.le_of_ble_eq_true rfl) (tbd tv_X7_spot rfl) (fun v40w f40 q40 => ?_) (fun _ _ h => h.elim)
  obtain ⟨rfl, ha40, fa40⟩ := q40
  refine G.eqs [.int (v40), .int (a1)] rfl ?_
  refine G.go tv_X7_spot 2 7 [(0, .int (a0)), (1, .int (a1))] [.int ((v40) - ((1 : Int32))), .int (a1)] rfl ?_
  obtain ⟨v41, hv41, hr⟩ := bnd_s hr
  refine G.callS [.int (a1), .int ((v40) - ((1 : Int32)))] [] (k_X7_offset E _ N B gr C D A hz ha40 hD hA a1 ((v40) - ((1 : Int32))) v41 hv41) cw_X7_108 w_958 (Nat.le_of_ble_eq_true rfl) rfl (Nat.le_of_ble_eq_true rfl) (tbd tv_X7_spot rfl) (fun v41w f41 q41 => ?_) (fun _ _ h => h.elim)
  obtain ⟨rfl, ha41, fa41⟩ := q41
  refine G.eqs [.int (v41)] rfl ?_
  refine G.go tv_X7_spot 2 13 [(0, .int (a0)), (1, .int (a1))] [.int ((8 : Int32)), .int (a1), .int (v41)] rfl ?_
  refine G.cmp_ge 23 (tbd tv_X7_spot rfl) (by decide) (fun c13 => ?_) (fun c13 => ?_)
  · replace hr := ite_t c13 hr
    refine G.go tv_X7_spot 2 25 [(0, .int (a0)), (1, .int (a1))] [.int ((v41) + ((0 : Int32)))] rfl ?_
    cases hr
    exact G.iret rfl rfl ⟨rfl, ha41, ((Fr.rf.tr fa40 (fun _ h => h)).tr fa41 (fun _ h => h))⟩ (tbd tv_X7_spot rfl)
  · replace hr := ite_f c13 hr
    refine G.go tv_X7_spot 1 17 [(0, .int (a0)), (1, .int (a1))] [.int (a0), .int (v41)] rfl ?_
    obtain ⟨v42, hv42, hr⟩ := bnd_s hr
    refine G.callS [.int (a0)] [.int (v41)] (k_X7_start E _ N B gr C D A hz ha41 hD hA a0 v42 hv42) cw_X7_40 w_922 (Nat.le_of_ble_eq_true rfl) rfl (Nat.le_of_ble_eq_true rfl) (tbd tv_X7_spot rfl) (fun v42w f42 q42 => ?_) (fun _ _ h => h.elim)
    obtain ⟨rfl, ha42, fa42⟩ := q42
    refine G.eqs [.int (v42), .int (v41)] rfl ?_
    refine G.go tv_X7_spot 2 25 [(0, .int (a0)), (1, .int (a1))] [.int ((v41) + (v42))] rfl ?_
    cases hr
    exact G.iret rfl rfl ⟨rfl, ha42, (((Fr.rf.tr fa40 (fun _ h => h)).tr fa41 (fun _ h => h)).tr fa42 (fun _ h => h))⟩ (tbd tv_X7_spot rfl)
def tb_X7_reach : List (Nat × Instr × Nat) := [(0, .iload_n 1, 1), (1, .invokestatic 30, 3), (4, .istore 4, 2), (6, .iload_n 1, 1), (7, .invokestatic 40, 3), (10, .iload_n 2, 1), (11, .iconst 0, 1), (12, .invokestatic 108, 3), (15, .iadd, 1), (16, .istore 5, 2), (18, .iload_n 2, 1), (19, .invokestatic 105, 3), (22, .iload_n 3, 1), (23, .isub, 1), (24, .istore 6, 2), (26, .iconst 0, 1), (27, .istore 7, 2), (29, .iload 7, 2), (31, .iload 6, 2), (33, .if_icmp .ge 40, 3), (36, .iload 4, 2), (38, .ifCond .eq 35, 3), (41, .aload_n 0, 1), (42, .getfield 18, 3), (45, .iload 4, 2), (47, .invokevirtual 34, 3), (50, .iload 5, 2), (52, .invokestatic 49, 3), (55, .istore 4, 2), (57, .iload_n 2, 1), (58, .iload 7, 2), (60, .iconst 1, 1), (61, .iadd, 1), (62, .invokestatic 108, 3), (65, .istore 5, 2), (67, .iinc 7 1, 3), (70, .goto (-41), 3), (73, .iload 4, 2), (75, .ireturn, 1)]
theorem tv_X7_reach : Tv cX7_reach tb_X7_reach := by
  unfold Tv
  decide +kernel
def d_X7_reach_29 (N : Nat) (V : Nat → Rw) (D : CfT) : Nat → Int32 → Int32 → Int32 → Int32 → Int32 → Option (Int32)
  | 0, _, _, _, _, _ => none
  | n + 1, x2, x4, x5, x6, x7 => if x6 ≤ x7 then some x4 else if x4 = 0 then some x4 else seeB N V x4 (fun y48 => bnd (d_X2_two N V D y48 128 x5) (fun v49 => bnd (d_X7_offset N V D x2 ((x7) + ((1 : Int32)))) (fun v50 => d_X7_reach_29 N V D n x2 v49 v50 x6 (x7 + (1 : Int32)))))
def d_X7_reach (N : Nat) (V : Nat → Rw) (D : CfT) (a0 : Int32) (a1 : Int32) (a2 : Int32) : Option (Int32) := bnd (d_X7_home N V D a0) (fun v43 => bnd (d_X7_start N V D a0) (fun v44 => bnd (d_X7_offset N V D a1 ((0 : Int32))) (fun v45 => bnd (d_X7_levels N V D a1) (fun v46 => d_X7_reach_29 N V D fuL a1 v43 ((v44) + (v45)) ((v46) - (a2)) ((0 : Int32))))))
set_option maxRecDepth 100000 in
set_option maxHeartbeats 4000000 in
theorem l_X7_reach_29 (E : gE) (f0 : Nat → va_E) (sz : Nat) (QA : Nat → Prop) (N B gr : Nat) (C D : CfT) (A : MS) (hz : CfZ E N B gr) (hD : Dq D C) (hA : AR N B gr A C) : ∀ (n : Nat), ∀ (x2 : Int32) (x4 : Int32) (x5 : Int32) (x6 : Int32) (x7 : Int32) (r : Int32) (hr : d_X7_reach_29 N (vA A) D n x2 x4 x5 x6 x7 = some r) (f : Nat → va_E) (h : CfV E f N B gr C) (hf : Fr CfK f0 f), G E (3, yX7_reach, 8, (some .int), sz, QA) cX7_reach (gO E (3, yX7_reach, 8, (some .int), sz, QA) (fun v g => v = some (.int r) ∧ CfV E g N B gr C ∧ Fr CfK f0 g, fun _ _ => False)) 29 [(0, .ref (gAd E (37))), (2, .int (x2)), (4, .int (x4)), (5, .int (x5)), (6, .int (x6)), (7, .int (x7))] [] f := by
  obtain ⟨z1, z2, z3, z4, z5, z6, z7⟩ := id hz
  intro n
  induction n with
  | zero =>
    intro x2 x4 x5 x6 x7 r hr f h hf
    cases hr
  | succ n ih =>
    intro x2 x4 x5 x6 x7 r hr f h hf
    unfold d_X7_reach_29 at hr
    refine G.go tv_X7_reach 2 33 [(0, .ref (gAd E (37))), (2, .int (x2)), (4, .int (x4)), (5, .int (x5)), (6, .int (x6)), (7, .int (x7))] [.int (x6), .int (x7)] rfl ?_
    refine G.cmp_ge 73 (tbd tv_X7_reach rfl) (by decide) (fun c33 => ?_) (fun c33 => ?_)
    · replace hr := ite_t c33 hr
      refine G.go tv_X7_reach 1 75 [(0, .ref (gAd E (37))), (2, .int (x2)), (4, .int (x4)), (5, .int (x5)), (6, .int (x6)), (7, .int (x7))] [.int (x4)] rfl ?_
      cases hr
      exact G.iret rfl rfl ⟨rfl, h, hf⟩ (tbd tv_X7_reach rfl)
    · replace hr := ite_f c33 hr
      refine G.go tv_X7_reach 1 38 [(0, .ref (gAd E (37))), (2, .int (x2)), (4, .int (x4)), (5, .int (x5)), (6, .int (x6)), (7, .int (x7))] [.int (x4)] rfl ?_
      refine G.if_eq 73 (tbd tv_X7_reach rfl) (by decide) (fun c38 => ?_) (fun c38 => ?_)
      · replace hr := ite_t c38 hr
        refine G.go tv_X7_reach 1 75 [(0, .ref (gAd E (37))), (2, .int (x2)), (4, .int (x4)), (5, .int (x5)), (6, .int (x6)), (7, .int (x7))] [.int (x4)] rfl ?_
        cases hr
        exact G.iret rfl rfl ⟨rfl, h, hf⟩ (tbd tv_X7_reach rfl)
      · replace hr := ite_f c38 hr
        refine G.go tv_X7_reach 1 42 [(0, .ref (gAd E (37))), (2, .int (x2)), (4, .int (x4)), (5, .int (x5)), (6, .int (x6)), (7, .int (x7))] [.ref (gAd E (37))] rfl ?_
        refine G.getf cls_X7 (37) 0 (by omega) (h.q37) (by decide) rfl (tbd tv_X7_reach rfl) w_478 ?_
        refine G.go tv_X7_reach 1 47 [(0, .ref (gAd E (37))), (2, .int (x2)), (4, .int (x4)), (5, .int (x5)), (6, .int (x6)), (7, .int (x7))] [.int (x4), .ref (gAd E (25))] rfl ?_
        obtain ⟨y48, b48, e48, hr⟩ := seeB_s hr
        refine G.callV (25) [.int (x4)] [] (k_see E _ N B gr C A hz h hA _ b48 _ e48) cls_X10 (by omega) (h.q25) cw_X7_34 w_910 w_911 (Nat.le_of_ble_eq_true rfl) rfl (Nat.le_of_ble_eq_true rfl) (tbd tv_X7_reach rfl) (fun v48w f48 q48 => ?_) (fun _ _ h => h.elim)
        obtain ⟨⟨k48, rfl, w48⟩, ha48, fa48⟩ := q48
        refine G.eqs [.ref (gAd E (k48))] rfl ?_
        refine G.go tv_X7_reach 1 52 [(0, .ref (gAd E (37))), (2, .int (x2)), (4, .int (x4)), (5, .int (x5)), (6, .int (x6)), (7, .int (x7))] [.int (x5), .ref (gAd E (k48))] rfl ?_
        obtain ⟨v49, hv49, hr⟩ := bnd_s hr
        refine G.callS [.ref (gAd E (k48)), .int (x5)] [] (k_X2_two E _ N B gr C D A hz ha48 hD hA k48 128 y48 (w48) x5 v49 hv49) cw_X7_49 w_878 (Nat.le_of_ble_eq_true rfl) rfl (Nat.le_of_ble_eq_true rfl) (tbd tv_X7_reach rfl) (fun v49w f49 q49 => ?_) (fun _ _ h => h.elim)
        obtain ⟨rfl, ha49, fa49⟩ := q49
        refine G.eqs [.int (v49)] rfl ?_
        refine G.go tv_X7_reach 5 62 [(0, .ref (gAd E (37))), (2, .int (x2)), (4, .int (v49)), (5, .int (x5)), (6, .int (x6)), (7, .int (x7))] [.int ((x7) + ((1 : Int32))), .int (x2)] rfl ?_
        obtain ⟨v50, hv50, hr⟩ := bnd_s hr
        refine G.callS [.int (x2), .int ((x7) + ((1 : Int32)))] [] (k_X7_offset E _ N B gr C D A hz ha49 hD hA x2 ((x7) + ((1 : Int32))) v50 hv50) cw_X7_108 w_958 (Nat.le_of_ble_eq_true rfl) rfl (Nat.le_of_ble_eq_true rfl) (tbd tv_X7_reach rfl) (fun v50w f50 q50 => ?_) (fun _ _ h => h.elim)
        obtain ⟨rfl, ha50, fa50⟩ := q50
        refine G.eqs [.int (v50)] rfl ?_
        refine G.go tv_X7_reach 3 29 [(0, .ref (gAd E (37))), (2, .int (x2)), (4, .int (v49)), (5, .int (v50)), (6, .int (x6)), (7, .int (x7 + (1 : Int32)))] [] rfl ?_
        refine G.less [(0, .ref (gAd E (37))), (2, .int (x2)), (4, .int (v49)), (5, .int (v50)), (6, .int (x6)), (7, .int (x7 + (1 : Int32)))] [0, 1, 2, 3, 4, 5] rfl ?_
        exact ih _ _ _ _ _ _ hr _ ha50 (((hf.tr fa48 (fun _ h => h)).tr fa49 (fun _ h => h)).tr fa50 (fun _ h => h))
set_option maxRecDepth 100000 in
set_option maxHeartbeats 4000000 in
theorem k_X7_reach (E : gE) (f : Nat → va_E) (N B gr : Nat) (C D : CfT) (A : MS) (hz : CfZ E N B gr) (h : CfV E f N B gr C) (hD : Dq D C) (hA : AR N B gr A C) (a0 : Int32) (a1 : Int32) (a2 : Int32) (r : Int32) (hr : d_X7_reach N (vA A) D a0 a1 a2 = some r) : Ct E 3 yX7_reach cX7_reach 8 (some .int) [.ref (gAd E (37)), .int (a0), .int (a1), .int (a2)] f (fun v g => v = some (.int r) ∧ CfV E g N B gr C ∧ Fr CfK f g, fun _ _ => False) := by
  obtain ⟨z1, z2, z3, z4, z5, z6, z7⟩ := id hz
  refine Ct.of (by decide) (Nat.le_of_ble_eq_true rfl) (fun sz => ?_)
  refine G.eql [(0, .ref (gAd E (37))), (1, .int (a0)), (2, .int (a1)), (3, .int (a2))] rfl ?_
  unfold d_X7_reach at hr
  refine G.go tv_X7_reach 1 1 [(0, .ref (gAd E (37))), (1, .int (a0)), (2, .int (a1)), (3, .int (a2))] [.int (a0)] rfl ?_
  obtain ⟨v43, hv43, hr⟩ := bnd_s hr
  refine G.callS [.int (a0)] [] (k_X7_home E _ N B gr C D A hz h hD hA a0 v43 hv43) cw_X7_30 w_907 (Nat.le_of_ble_eq_true rfl) rfl (Nat.le_of_ble_eq_true rfl) (tbd tv_X7_reach rfl) (fun v43w f43 q43 => ?_) (fun _ _ h => h.elim)
  obtain ⟨rfl, ha43, fa43⟩ := q43
  refine G.eqs [.int (v43)] rfl ?_
  refine G.go tv_X7_reach 2 7 [(0, .ref (gAd E (37))), (1, .int (a0)), (2, .int (a1)), (3, .int (a2)), (4, .int (v43))] [.int (a0)] rfl ?_
  obtain ⟨v44, hv44, hr⟩ := bnd_s hr
  refine G.callS [.int (a0)] [] (k_X7_start E _ N B gr C D A hz ha43 hD hA a0 v44 hv44) cw_X7_40 w_922 (Nat.le_of_ble_eq_true rfl) rfl (Nat.le_of_ble_eq_true rfl) (tbd tv_X7_reach rfl) (fun v44w f44 q44 => ?_) (fun _ _ h => h.elim)
  obtain ⟨rfl, ha44, fa44⟩ := q44
  refine G.eqs [.int (v44)] rfl ?_
  refine G.go tv_X7_reach 2 12 [(0, .ref (gAd E (37))), (1, .int (a0)), (2, .int (a1)), (3, .int (a2)), (4, .int (v43))] [.int ((0 : Int32)), .int (a1), .int (v44)] rfl ?_
  obtain ⟨v45, hv45, hr⟩ := bnd_s hr
  refine G.callS [.int (a1), .int ((0 : Int32))] [.int (v44)] (k_X7_offset E _ N B gr C D A hz ha44 hD hA a1 ((0 : Int32)) v45 hv45) cw_X7_108 w_958 (Nat.le_of_ble_eq_true rfl) rfl (Nat.le_of_ble_eq_true rfl) (tbd tv_X7_reach rfl) (fun v45w f45 q45 => ?_) (fun _ _ h => h.elim)
  obtain ⟨rfl, ha45, fa45⟩ := q45
  refine G.eqs [.int (v45), .int (v44)] rfl ?_
  refine G.go tv_X7_reach 3 19 [(0, .ref (gAd E (37))), (1, .int (a0)), (2, .int (a1)), (3, .int (a2)), (4, .int (v43)), (5, .int ((v44) + (v45)))] [.int (a1)] rfl ?_
  obtain ⟨v46, hv46, hr⟩ := bnd_s hr
  refine G.callS [.int (a1)] [] (k_X7_levels E _ N B gr C D A hz ha45 hD hA a1 v46 hv46) cw_X7_105 w_961 (Nat.le_of_ble_eq_true rfl) rfl (Nat.le_of_ble_eq_true rfl) (tbd tv_X7_reach rfl) (fun v46w f46 q46 => ?_) (fun _ _ h => h.elim)
  obtain ⟨rfl, ha46, fa46⟩ := q46
  refine G.eqs [.int (v46)] rfl ?_
  refine G.go tv_X7_reach 5 29 [(0, .ref (gAd E (37))), (1, .int (a0)), (2, .int (a1)), (3, .int (a2)), (4, .int (v43)), (5, .int ((v44) + (v45))), (6, .int ((v46) - (a2))), (7, .int ((0 : Int32)))] [] rfl ?_
  refine G.less [(0, .ref (gAd E (37))), (2, .int (a1)), (4, .int (v43)), (5, .int ((v44) + (v45))), (6, .int ((v46) - (a2))), (7, .int ((0 : Int32)))] [0, 2, 4, 5, 6, 7] rfl ?_
  exact l_X7_reach_29 E f sz _ N B gr C D A hz hD hA _ _ _ _ _ _ _ hr _ ha46 ((((Fr.rf.tr fa43 (fun _ h => h)).tr fa44 (fun _ h => h)).tr fa45 (fun _ h => h)).tr fa46 (fun _ h => h))
def tb_X7_missing : List (Nat × Instr × Nat) := [(0, .iconst 0, 1), (1, .istore_n 3, 1), (2, .iload_n 3, 1), (3, .iload_n 2, 1), (4, .invokestatic 105, 3), (7, .if_icmp .ge 19, 3), (10, .aload_n 0, 1), (11, .iload_n 1, 1), (12, .iload_n 2, 1), (13, .iload_n 3, 1), (14, .invokevirtual 112, 3), (17, .ifCond .ne 9, 3), (20, .iinc 3 1, 3), (23, .goto (-21), 3), (26, .iload_n 3, 1), (27, .ireturn, 1)]
theorem tv_X7_missing : Tv cX7_missing tb_X7_missing := by
  unfold Tv
  decide +kernel
theorem w_953 : Cond.methodLink "LedgerFiles$Nodes" 112 yX7_reach ∈ TB := tp_4 87 (by decide +kernel) rfl
theorem w_956 : Cond.code yX7_reach prog_9_method_27_code 8 (some .int) ∈ TB := tp_4 90 rfl rfl
theorem cw_X7_112 : Cw RX7 112 yX7_reach cX7_reach 8 (some .int) 3 := ⟨w_953, w_956, w_157, by decide +kernel, by decide +kernel, by decide⟩
theorem w_954 : Cond.instanceMethod yX7_reach ∈ TB := tp_4 88 (by decide +kernel) rfl
theorem w_955 : Cond.selects "LedgerFiles$Nodes" yX7_reach yX7_reach ∈ TB := tp_4 89 (by decide +kernel) rfl
def d_X7_missing_2 (N : Nat) (V : Nat → Rw) (D : CfT) : Nat → Int32 → Int32 → Int32 → Option (Int32)
  | 0, _, _, _ => none
  | n + 1, x1, x2, x3 => bnd (d_X7_levels N V D x2) (fun v51 => if v51 ≤ x3 then some x3 else bnd (d_X7_reach N V D x1 x2 x3) (fun v52 => if v52 = 0 then d_X7_missing_2 N V D n x1 x2 (x3 + (1 : Int32)) else some x3))
def d_X7_missing (N : Nat) (V : Nat → Rw) (D : CfT) (a0 : Int32) (a1 : Int32) : Option (Int32) := d_X7_missing_2 N V D fuL a0 a1 ((0 : Int32))
set_option maxRecDepth 100000 in
set_option maxHeartbeats 4000000 in
theorem l_X7_missing_2 (E : gE) (f0 : Nat → va_E) (sz : Nat) (QA : Nat → Prop) (N B gr : Nat) (C D : CfT) (A : MS) (hz : CfZ E N B gr) (hD : Dq D C) (hA : AR N B gr A C) : ∀ (n : Nat), ∀ (x1 : Int32) (x2 : Int32) (x3 : Int32) (r : Int32) (hr : d_X7_missing_2 N (vA A) D n x1 x2 x3 = some r) (f : Nat → va_E) (h : CfV E f N B gr C) (hf : Fr CfK f0 f), G E (4, yX7_missing, 4, (some .int), sz, QA) cX7_missing (gO E (4, yX7_missing, 4, (some .int), sz, QA) (fun v g => v = some (.int r) ∧ CfV E g N B gr C ∧ Fr CfK f0 g, fun _ _ => False)) 2 [(0, .ref (gAd E (37))), (1, .int (x1)), (2, .int (x2)), (3, .int (x3))] [] f := by
  obtain ⟨z1, z2, z3, z4, z5, z6, z7⟩ := id hz
  intro n
  induction n with
  | zero =>
    intro x1 x2 x3 r hr f h hf
    cases hr
  | succ n ih =>
    intro x1 x2 x3 r hr f h hf
    unfold d_X7_missing_2 at hr
    refine G.go tv_X7_missing 2 4 [(0, .ref (gAd E (37))), (1, .int (x1)), (2, .int (x2)), (3, .int (x3))] [.int (x2), .int (x3)] rfl ?_
    obtain ⟨v51, hv51, hr⟩ := bnd_s hr
    refine G.callS [.int (x2)] [.int (x3)] (k_X7_levels E _ N B gr C D A hz h hD hA x2 v51 hv51) cw_X7_105 w_961 (Nat.le_of_ble_eq_true rfl) rfl (Nat.le_of_ble_eq_true rfl) (tbd tv_X7_missing rfl) (fun v51w f51 q51 => ?_) (fun _ _ h => h.elim)
    obtain ⟨rfl, ha51, fa51⟩ := q51
    refine G.eqs [.int (v51), .int (x3)] rfl ?_
    refine G.cmp_ge 26 (tbd tv_X7_missing rfl) (by decide) (fun c7 => ?_) (fun c7 => ?_)
    · replace hr := ite_t c7 hr
      refine G.go tv_X7_missing 1 27 [(0, .ref (gAd E (37))), (1, .int (x1)), (2, .int (x2)), (3, .int (x3))] [.int (x3)] rfl ?_
      cases hr
      exact G.iret rfl rfl ⟨rfl, ha51, (hf.tr fa51 (fun _ h => h))⟩ (tbd tv_X7_missing rfl)
    · replace hr := ite_f c7 hr
      refine G.go tv_X7_missing 4 14 [(0, .ref (gAd E (37))), (1, .int (x1)), (2, .int (x2)), (3, .int (x3))] [.int (x3), .int (x2), .int (x1), .ref (gAd E (37))] rfl ?_
      obtain ⟨v52, hv52, hr⟩ := bnd_s hr
      refine G.callV (37) [.int (x1), .int (x2), .int (x3)] [] (k_X7_reach E _ N B gr C D A hz ha51 hD hA x1 x2 x3 v52 hv52) cls_X7 (by omega) (ha51.q37) cw_X7_112 w_954 w_955 (Nat.le_of_ble_eq_true rfl) rfl (Nat.le_of_ble_eq_true rfl) (tbd tv_X7_missing rfl) (fun v52w f52 q52 => ?_) (fun _ _ h => h.elim)
      obtain ⟨rfl, ha52, fa52⟩ := q52
      refine G.eqs [.int (v52)] rfl ?_
      refine G.if_ne 26 (tbd tv_X7_missing rfl) (by decide) (fun c17 => ?_) (fun c17 => ?_)
      · replace hr := ite_f c17 hr
        refine G.go tv_X7_missing 1 27 [(0, .ref (gAd E (37))), (1, .int (x1)), (2, .int (x2)), (3, .int (x3))] [.int (x3)] rfl ?_
        cases hr
        exact G.iret rfl rfl ⟨rfl, ha52, ((hf.tr fa51 (fun _ h => h)).tr fa52 (fun _ h => h))⟩ (tbd tv_X7_missing rfl)
      · replace hr := ite_t c17 hr
        refine G.go tv_X7_missing 2 2 [(0, .ref (gAd E (37))), (1, .int (x1)), (2, .int (x2)), (3, .int (x3 + (1 : Int32)))] [] rfl ?_
        refine G.less [(0, .ref (gAd E (37))), (1, .int (x1)), (2, .int (x2)), (3, .int (x3 + (1 : Int32)))] [0, 1, 2, 3] rfl ?_
        exact ih _ _ _ _ hr _ ha52 ((hf.tr fa51 (fun _ h => h)).tr fa52 (fun _ h => h))
set_option maxRecDepth 100000 in
set_option maxHeartbeats 4000000 in
theorem k_X7_missing (E : gE) (f : Nat → va_E) (N B gr : Nat) (C D : CfT) (A : MS) (hz : CfZ E N B gr) (h : CfV E f N B gr C) (hD : Dq D C) (hA : AR N B gr A C) (a0 : Int32) (a1 : Int32) (r : Int32) (hr : d_X7_missing N (vA A) D a0 a1 = some r) : Ct E 4 yX7_missing cX7_missing 4 (some .int) [.ref (gAd E (37)), .int (a0), .int (a1)] f (fun v g => v = some (.int r) ∧ CfV E g N B gr C ∧ Fr CfK f g, fun _ _ => False) := by
  obtain ⟨z1, z2, z3, z4, z5, z6, z7⟩ := id hz
  refine Ct.of (by decide) (Nat.le_of_ble_eq_true rfl) (fun sz => ?_)
  refine G.eql [(0, .ref (gAd E (37))), (1, .int (a0)), (2, .int (a1))] rfl ?_
  unfold d_X7_missing at hr
  refine G.go tv_X7_missing 2 2 [(0, .ref (gAd E (37))), (1, .int (a0)), (2, .int (a1)), (3, .int ((0 : Int32)))] [] rfl ?_
  refine G.less [(0, .ref (gAd E (37))), (1, .int (a0)), (2, .int (a1)), (3, .int ((0 : Int32)))] [0, 1, 2, 3] rfl ?_
  exact l_X7_missing_2 E f sz _ N B gr C D A hz hD hA _ _ _ _ _ hr _ h Fr.rf
def tb_X7_newTables : List (Nat × Instr × Nat) := [(0, .iconst 0, 1), (1, .istore_n 3, 1), (2, .iload_n 2, 1), (3, .iconst 1, 1), (4, .if_icmp .le 22, 3), (7, .iload_n 0, 1), (8, .iconst (-1), 1), (9, .if_icmp .eq 14, 3), (12, .iload_n 0, 1), (13, .invokestatic 116, 3), (16, .iload_n 1, 1), (17, .invokestatic 116, 3), (20, .if_icmp .eq 6, 3), (23, .iinc 3 1, 3), (26, .iload_n 2, 1), (27, .iconst 2, 1), (28, .if_icmp .le 12, 3), (31, .iload_n 0, 1), (32, .bipush 72, 2), (34, .if_icmp .ge 6, 3), (37, .iinc 3 1, 3), (40, .iload_n 3, 1), (41, .ireturn, 1)]
theorem tv_X7_newTables : Tv cX7_newTables tb_X7_newTables := by
  unfold Tv
  decide +kernel
theorem w_964 : Cond.methodLink "LedgerFiles$Nodes" 116 yX7_lastBeside ∈ TB := tp_4 98 (by decide +kernel) rfl
theorem w_966 : Cond.code yX7_lastBeside prog_9_method_25_code 1 (some .int) ∈ TB := tp_4 100 rfl rfl
theorem cw_X7_116 : Cw RX7 116 yX7_lastBeside cX7_lastBeside 1 (some .int) 1 := ⟨w_964, w_966, w_157, by decide +kernel, by decide +kernel, by decide⟩
theorem w_965 : Cond.static yX7_lastBeside ∈ TB := tp_4 99 (by decide +kernel) rfl
def d_X7_newTables_26 (N : Nat) (V : Nat → Rw) (D : CfT) (x0 : Int32) (x2 : Int32) (x3 : Int32) : Option (Int32) := if x2 ≤ ((2 : Int32)) then some x3 else if ((72 : Int32)) ≤ x0 then some x3 else some (x3 + (1 : Int32))
def d_X7_newTables (N : Nat) (V : Nat → Rw) (D : CfT) (a0 : Int32) (a1 : Int32) (a2 : Int32) : Option (Int32) := if a2 ≤ ((1 : Int32)) then d_X7_newTables_26 N V D a0 a2 ((0 : Int32)) else if a0 = ((-1 : Int32)) then d_X7_newTables_26 N V D a0 a2 ((0 : Int32) + (1 : Int32)) else bnd (d_X7_lastBeside N V D a0) (fun v53 => bnd (d_X7_lastBeside N V D a1) (fun v54 => if v53 = v54 then d_X7_newTables_26 N V D a0 a2 ((0 : Int32)) else d_X7_newTables_26 N V D a0 a2 ((0 : Int32) + (1 : Int32))))
set_option maxRecDepth 100000 in
set_option maxHeartbeats 4000000 in
theorem l_X7_newTables_26 (E : gE) (f0 : Nat → va_E) (sz : Nat) (QA : Nat → Prop) (N B gr : Nat) (C D : CfT) (A : MS) (hz : CfZ E N B gr) (hD : Dq D C) (hA : AR N B gr A C) : ∀ (x0 : Int32) (x2 : Int32) (x3 : Int32) (r : Int32) (hr : d_X7_newTables_26 N (vA A) D x0 x2 x3 = some r) (f : Nat → va_E) (h : CfV E f N B gr C) (hf : Fr CfK f0 f), G E (2, yX7_newTables, 4, (some .int), sz, QA) cX7_newTables (gO E (2, yX7_newTables, 4, (some .int), sz, QA) (fun v g => v = some (.int r) ∧ CfV E g N B gr C ∧ Fr CfK f0 g, fun _ _ => False)) 26 [(0, .int (x0)), (2, .int (x2)), (3, .int (x3))] [] f := by
  obtain ⟨z1, z2, z3, z4, z5, z6, z7⟩ := id hz
  intro x0 x2 x3 r hr f h hf
  unfold d_X7_newTables_26 at hr
  refine G.go tv_X7_newTables 2 28 [(0, .int (x0)), (2, .int (x2)), (3, .int (x3))] [.int ((2 : Int32)), .int (x2)] rfl ?_
  refine G.cmp_le 40 (tbd tv_X7_newTables rfl) (by decide) (fun c28 => ?_) (fun c28 => ?_)
  · replace hr := ite_t c28 hr
    refine G.go tv_X7_newTables 1 41 [(0, .int (x0)), (2, .int (x2)), (3, .int (x3))] [.int (x3)] rfl ?_
    cases hr
    exact G.iret rfl rfl ⟨rfl, h, hf⟩ (tbd tv_X7_newTables rfl)
  · replace hr := ite_f c28 hr
    refine G.go tv_X7_newTables 2 34 [(0, .int (x0)), (2, .int (x2)), (3, .int (x3))] [.int ((72 : Int32)), .int (x0)] rfl ?_
    refine G.cmp_ge 40 (tbd tv_X7_newTables rfl) (by decide) (fun c34 => ?_) (fun c34 => ?_)
    · replace hr := ite_t c34 hr
      refine G.go tv_X7_newTables 1 41 [(0, .int (x0)), (2, .int (x2)), (3, .int (x3))] [.int (x3)] rfl ?_
      cases hr
      exact G.iret rfl rfl ⟨rfl, h, hf⟩ (tbd tv_X7_newTables rfl)
    · replace hr := ite_f c34 hr
      refine G.go tv_X7_newTables 2 41 [(0, .int (x0)), (2, .int (x2)), (3, .int (x3 + (1 : Int32)))] [.int (x3 + (1 : Int32))] rfl ?_
      cases hr
      exact G.iret rfl rfl ⟨rfl, h, hf⟩ (tbd tv_X7_newTables rfl)
set_option maxRecDepth 100000 in
set_option maxHeartbeats 4000000 in
theorem k_X7_newTables (E : gE) (f : Nat → va_E) (N B gr : Nat) (C D : CfT) (A : MS) (hz : CfZ E N B gr) (h : CfV E f N B gr C) (hD : Dq D C) (hA : AR N B gr A C) (a0 : Int32) (a1 : Int32) (a2 : Int32) (r : Int32) (hr : d_X7_newTables N (vA A) D a0 a1 a2 = some r) : Ct E 2 yX7_newTables cX7_newTables 4 (some .int) [.int (a0), .int (a1), .int (a2)] f (fun v g => v = some (.int r) ∧ CfV E g N B gr C ∧ Fr CfK f g, fun _ _ => False) := by
  obtain ⟨z1, z2, z3, z4, z5, z6, z7⟩ := id hz
  refine Ct.of (by decide) (Nat.le_of_ble_eq_true rfl) (fun sz => ?_)
  refine G.eql [(0, .int (a0)), (1, .int (a1)), (2, .int (a2))] rfl ?_
  unfold d_X7_newTables at hr
  refine G.go tv_X7_newTables 4 4 [(0, .int (a0)), (1, .int (a1)), (2, .int (a2)), (3, .int ((0 : Int32)))] [.int ((1 : Int32)), .int (a2)] rfl ?_
  refine G.cmp_le 26 (tbd tv_X7_newTables rfl) (by decide) (fun c4 => ?_) (fun c4 => ?_)
  · replace hr := ite_t c4 hr
    refine G.less [(0, .int (a0)), (2, .int (a2)), (3, .int ((0 : Int32)))] [0, 2, 3] rfl ?_
    exact l_X7_newTables_26 E f sz _ N B gr C D A hz hD hA _ _ _ _ hr _ h Fr.rf
  · replace hr := ite_f c4 hr
    refine G.go tv_X7_newTables 2 9 [(0, .int (a0)), (1, .int (a1)), (2, .int (a2)), (3, .int ((0 : Int32)))] [.int ((-1 : Int32)), .int (a0)] rfl ?_
    refine G.cmp_eq 23 (tbd tv_X7_newTables rfl) (by decide) (fun c9 => ?_) (fun c9 => ?_)
    · replace hr := ite_t c9 hr
      refine G.go tv_X7_newTables 1 26 [(0, .int (a0)), (1, .int (a1)), (2, .int (a2)), (3, .int ((0 : Int32) + (1 : Int32)))] [] rfl ?_
      refine G.less [(0, .int (a0)), (2, .int (a2)), (3, .int ((0 : Int32) + (1 : Int32)))] [0, 2, 3] rfl ?_
      exact l_X7_newTables_26 E f sz _ N B gr C D A hz hD hA _ _ _ _ hr _ h Fr.rf
    · replace hr := ite_f c9 hr
      refine G.go tv_X7_newTables 1 13 [(0, .int (a0)), (1, .int (a1)), (2, .int (a2)), (3, .int ((0 : Int32)))] [.int (a0)] rfl ?_
      obtain ⟨v53, hv53, hr⟩ := bnd_s hr
      refine G.callS [.int (a0)] [] (k_X7_lastBeside E _ N B gr C D A hz h hD hA a0 v53 hv53) cw_X7_116 w_965 (Nat.le_of_ble_eq_true rfl) rfl (Nat.le_of_ble_eq_true rfl) (tbd tv_X7_newTables rfl) (fun v53w f53 q53 => ?_) (fun _ _ h => h.elim)
      obtain ⟨rfl, ha53, fa53⟩ := q53
      refine G.eqs [.int (v53)] rfl ?_
      refine G.go tv_X7_newTables 1 17 [(0, .int (a0)), (1, .int (a1)), (2, .int (a2)), (3, .int ((0 : Int32)))] [.int (a1), .int (v53)] rfl ?_
      obtain ⟨v54, hv54, hr⟩ := bnd_s hr
      refine G.callS [.int (a1)] [.int (v53)] (k_X7_lastBeside E _ N B gr C D A hz ha53 hD hA a1 v54 hv54) cw_X7_116 w_965 (Nat.le_of_ble_eq_true rfl) rfl (Nat.le_of_ble_eq_true rfl) (tbd tv_X7_newTables rfl) (fun v54w f54 q54 => ?_) (fun _ _ h => h.elim)
      obtain ⟨rfl, ha54, fa54⟩ := q54
      refine G.eqs [.int (v54), .int (v53)] rfl ?_
      refine G.cmp_eq 26 (tbd tv_X7_newTables rfl) (by decide) (fun c20 => ?_) (fun c20 => ?_)
      · replace hr := ite_t c20 hr
        refine G.less [(0, .int (a0)), (2, .int (a2)), (3, .int ((0 : Int32)))] [0, 2, 3] rfl ?_
        exact l_X7_newTables_26 E f sz _ N B gr C D A hz hD hA _ _ _ _ hr _ ha54 ((Fr.rf.tr fa53 (fun _ h => h)).tr fa54 (fun _ h => h))
      · replace hr := ite_f c20 hr
        refine G.go tv_X7_newTables 1 26 [(0, .int (a0)), (1, .int (a1)), (2, .int (a2)), (3, .int ((0 : Int32) + (1 : Int32)))] [] rfl ?_
        refine G.less [(0, .int (a0)), (2, .int (a2)), (3, .int ((0 : Int32) + (1 : Int32)))] [0, 2, 3] rfl ?_
        exact l_X7_newTables_26 E f sz _ N B gr C D A hz hD hA _ _ _ _ hr _ ha54 ((Fr.rf.tr fa53 (fun _ h => h)).tr fa54 (fun _ h => h))
def tb_X7_wanted : List (Nat × Instr × Nat) := [(0, .iconst 0, 1), (1, .istore 4, 2), (3, .iconst (-1), 1), (4, .istore 5, 2), (6, .iload_n 2, 1), (7, .istore 6, 2), (9, .iload 6, 2), (11, .iload_n 3, 1), (12, .if_icmp .gt 43, 3), (15, .aload_n 0, 1), (16, .iload_n 1, 1), (17, .iload 6, 2), (19, .invokevirtual 119, 3), (22, .istore 7, 2), (24, .iload 4, 2), (26, .iload 7, 2), (28, .iconst 1, 1), (29, .invokestatic 122, 3), (32, .iload 5, 2), (34, .iload 6, 2), (36, .iload 7, 2), (38, .invokestatic 127, 3), (41, .iadd, 1), (42, .iadd, 1), (43, .istore 4, 2), (45, .iload 6, 2), (47, .istore 5, 2), (49, .iinc 6 1, 3), (52, .goto (-43), 3), (55, .iload 4, 2), (57, .ireturn, 1)]
theorem tv_X7_wanted : Tv cX7_wanted tb_X7_wanted := by
  unfold Tv
  decide +kernel
theorem w_1614 : Cond.methodLink "LedgerFiles$Nodes" 119 yX7_missing ∈ TB := tp_7 28 (by decide +kernel) rfl
theorem w_1407 : Cond.code yX7_missing prog_9_method_28_code 4 (some .int) ∈ TB := tp_6 61 rfl rfl
theorem cw_X7_119 : Cw RX7 119 yX7_missing cX7_missing 4 (some .int) 2 := ⟨w_1614, w_1407, w_157, by decide +kernel, by decide +kernel, by decide⟩
theorem w_1405 : Cond.instanceMethod yX7_missing ∈ TB := tp_6 59 (by decide +kernel) rfl
theorem w_1406 : Cond.selects "LedgerFiles$Nodes" yX7_missing yX7_missing ∈ TB := tp_6 60 (by decide +kernel) rfl
theorem w_952 : Cond.methodLink "LedgerFiles$Nodes" 122 yJ9_min_7cf53 ∈ TB := tp_4 86 (by decide +kernel) rfl
theorem w_1553 : Cond.methodLink "LedgerFiles$Nodes" 127 yX7_newTables ∈ TB := tp_6 207 (by decide +kernel) rfl
theorem w_1555 : Cond.code yX7_newTables prog_9_method_29_code 4 (some .int) ∈ TB := tp_6 209 rfl rfl
theorem cw_X7_127 : Cw RX7 127 yX7_newTables cX7_newTables 4 (some .int) 3 := ⟨w_1553, w_1555, w_157, by decide +kernel, by decide +kernel, by decide⟩
theorem w_1554 : Cond.static yX7_newTables ∈ TB := tp_6 208 (by decide +kernel) rfl
def d_X7_wanted_9 (N : Nat) (V : Nat → Rw) (D : CfT) : Nat → Int32 → Int32 → Int32 → Int32 → Int32 → Option (Int32)
  | 0, _, _, _, _, _ => none
  | n + 1, x1, x3, x4, x5, x6 => if x3 < x6 then some x4 else bnd (d_X7_missing N V D x1 x6) (fun v55 => nm (if ((1 : Int32)) < v55 then ((1 : Int32)) else v55) (fun v56 => bnd (d_X7_newTables N V D x5 x6 v55) (fun v57 => d_X7_wanted_9 N V D n x1 x3 ((x4) + ((v56) + (v57))) x6 (x6 + (1 : Int32)))))
def d_X7_wanted (N : Nat) (V : Nat → Rw) (D : CfT) (a0 : Int32) (a1 : Int32) (a2 : Int32) : Option (Int32) := d_X7_wanted_9 N V D fuL a0 a2 ((0 : Int32)) ((-1 : Int32)) a1
set_option maxRecDepth 100000 in
set_option maxHeartbeats 4000000 in
theorem l_X7_wanted_9 (E : gE) (f0 : Nat → va_E) (sz : Nat) (QA : Nat → Prop) (N B gr : Nat) (C D : CfT) (A : MS) (hz : CfZ E N B gr) (hD : Dq D C) (hA : AR N B gr A C) : ∀ (n : Nat), ∀ (x1 : Int32) (x3 : Int32) (x4 : Int32) (x5 : Int32) (x6 : Int32) (r : Int32) (hr : d_X7_wanted_9 N (vA A) D n x1 x3 x4 x5 x6 = some r) (f : Nat → va_E) (h : CfV E f N B gr C) (hf : Fr CfK f0 f), G E (5, yX7_wanted, 8, (some .int), sz, QA) cX7_wanted (gO E (5, yX7_wanted, 8, (some .int), sz, QA) (fun v g => v = some (.int r) ∧ CfV E g N B gr C ∧ Fr CfK f0 g, fun _ _ => False)) 9 [(0, .ref (gAd E (37))), (1, .int (x1)), (3, .int (x3)), (4, .int (x4)), (5, .int (x5)), (6, .int (x6))] [] f := by
  obtain ⟨z1, z2, z3, z4, z5, z6, z7⟩ := id hz
  intro n
  induction n with
  | zero =>
    intro x1 x3 x4 x5 x6 r hr f h hf
    cases hr
  | succ n ih =>
    intro x1 x3 x4 x5 x6 r hr f h hf
    unfold d_X7_wanted_9 at hr
    refine G.go tv_X7_wanted 2 12 [(0, .ref (gAd E (37))), (1, .int (x1)), (3, .int (x3)), (4, .int (x4)), (5, .int (x5)), (6, .int (x6))] [.int (x3), .int (x6)] rfl ?_
    refine G.cmp_gt 55 (tbd tv_X7_wanted rfl) (by decide) (fun c12 => ?_) (fun c12 => ?_)
    · replace hr := ite_t c12 hr
      refine G.go tv_X7_wanted 1 57 [(0, .ref (gAd E (37))), (1, .int (x1)), (3, .int (x3)), (4, .int (x4)), (5, .int (x5)), (6, .int (x6))] [.int (x4)] rfl ?_
      cases hr
      exact G.iret rfl rfl ⟨rfl, h, hf⟩ (tbd tv_X7_wanted rfl)
    · replace hr := ite_f c12 hr
      refine G.go tv_X7_wanted 3 19 [(0, .ref (gAd E (37))), (1, .int (x1)), (3, .int (x3)), (4, .int (x4)), (5, .int (x5)), (6, .int (x6))] [.int (x6), .int (x1), .ref (gAd E (37))] rfl ?_
      obtain ⟨v55, hv55, hr⟩ := bnd_s hr
      refine G.callV (37) [.int (x1), .int (x6)] [] (k_X7_missing E _ N B gr C D A hz h hD hA x1 x6 v55 hv55) cls_X7 (by omega) (h.q37) cw_X7_119 w_1405 w_1406 (Nat.le_of_ble_eq_true rfl) rfl (Nat.le_of_ble_eq_true rfl) (tbd tv_X7_wanted rfl) (fun v55w f55 q55 => ?_) (fun _ _ h => h.elim)
      obtain ⟨rfl, ha55, fa55⟩ := q55
      refine G.eqs [.int (v55)] rfl ?_
      refine G.go tv_X7_wanted 4 29 [(0, .ref (gAd E (37))), (1, .int (x1)), (3, .int (x3)), (4, .int (x4)), (5, .int (x5)), (6, .int (x6)), (7, .int (v55))] [.int ((1 : Int32)), .int (v55), .int (x4)] rfl ?_
      refine G.mmin w_952 w_214 w_150 w_215 (Nat.le_of_ble_eq_true rfl) (Nat.le_of_ble_eq_true rfl) (by show _ ≤ _; first | exact Nat.zero_le _ | exact Nat.le_of_ble_eq_true rfl) (by show _ ≤ _; first | exact Nat.zero_le _ | exact Nat.le_of_ble_eq_true rfl) (tbd tv_X7_wanted rfl) ?_
      obtain ⟨v56, e56, hr⟩ := nm_s hr
      refine G.eq1 (b := v56) e56 ?_
      refine G.go tv_X7_wanted 3 38 [(0, .ref (gAd E (37))), (1, .int (x1)), (3, .int (x3)), (4, .int (x4)), (5, .int (x5)), (6, .int (x6)), (7, .int (v55))] [.int (v55), .int (x6), .int (x5), .int (v56), .int (x4)] rfl ?_
      obtain ⟨v57, hv57, hr⟩ := bnd_s hr
      refine G.callS [.int (x5), .int (x6), .int (v55)] [.int (v56), .int (x4)] (k_X7_newTables E _ N B gr C D A hz ha55 hD hA x5 x6 v55 v57 hv57) cw_X7_127 w_1554 (Nat.le_of_ble_eq_true rfl) rfl (Nat.le_of_ble_eq_true rfl) (tbd tv_X7_wanted rfl) (fun v57w f57 q57 => ?_) (fun _ _ h => h.elim)
      obtain ⟨rfl, ha57, fa57⟩ := q57
      refine G.eqs [.int (v57), .int (v56), .int (x4)] rfl ?_
      refine G.go tv_X7_wanted 7 9 [(0, .ref (gAd E (37))), (1, .int (x1)), (3, .int (x3)), (4, .int ((x4) + ((v56) + (v57)))), (5, .int (x6)), (6, .int (x6 + (1 : Int32))), (7, .int (v55))] [] rfl ?_
      refine G.less [(0, .ref (gAd E (37))), (1, .int (x1)), (3, .int (x3)), (4, .int ((x4) + ((v56) + (v57)))), (5, .int (x6)), (6, .int (x6 + (1 : Int32)))] [0, 1, 2, 3, 4, 5] rfl ?_
      exact ih _ _ _ _ _ _ hr _ ha57 ((hf.tr fa55 (fun _ h => h)).tr fa57 (fun _ h => h))
set_option maxRecDepth 100000 in
set_option maxHeartbeats 4000000 in
theorem k_X7_wanted (E : gE) (f : Nat → va_E) (N B gr : Nat) (C D : CfT) (A : MS) (hz : CfZ E N B gr) (h : CfV E f N B gr C) (hD : Dq D C) (hA : AR N B gr A C) (a0 : Int32) (a1 : Int32) (a2 : Int32) (r : Int32) (hr : d_X7_wanted N (vA A) D a0 a1 a2 = some r) : Ct E 5 yX7_wanted cX7_wanted 8 (some .int) [.ref (gAd E (37)), .int (a0), .int (a1), .int (a2)] f (fun v g => v = some (.int r) ∧ CfV E g N B gr C ∧ Fr CfK f g, fun _ _ => False) := by
  obtain ⟨z1, z2, z3, z4, z5, z6, z7⟩ := id hz
  refine Ct.of (by decide) (Nat.le_of_ble_eq_true rfl) (fun sz => ?_)
  refine G.eql [(0, .ref (gAd E (37))), (1, .int (a0)), (2, .int (a1)), (3, .int (a2))] rfl ?_
  unfold d_X7_wanted at hr
  refine G.go tv_X7_wanted 6 9 [(0, .ref (gAd E (37))), (1, .int (a0)), (2, .int (a1)), (3, .int (a2)), (4, .int ((0 : Int32))), (5, .int ((-1 : Int32))), (6, .int (a1))] [] rfl ?_
  refine G.less [(0, .ref (gAd E (37))), (1, .int (a0)), (3, .int (a2)), (4, .int ((0 : Int32))), (5, .int ((-1 : Int32))), (6, .int (a1))] [0, 1, 3, 4, 5, 6] rfl ?_
  exact l_X7_wanted_9 E f sz _ N B gr C D A hz hD hA _ _ _ _ _ _ _ hr _ h Fr.rf
def tb_X7_hasGathered : List (Nat × Instr × Nat) := [(0, .iconst 0, 1), (1, .istore_n 2, 1), (2, .iload_n 2, 1), (3, .aload_n 0, 1), (4, .getfield 145, 3), (7, .if_icmp .ge 21, 3), (10, .aload_n 0, 1), (11, .getfield 15, 3), (14, .iload_n 2, 1), (15, .iaload, 1), (16, .iload_n 1, 1), (17, .if_icmp .ne 5, 3), (20, .iconst 1, 1), (21, .ireturn, 1), (22, .iinc 2 1, 3), (25, .goto (-23), 3), (28, .iconst 0, 1), (29, .ireturn, 1)]
theorem tv_X7_hasGathered : Tv cX7_hasGathered tb_X7_hasGathered := by
  unfold Tv
  decide +kernel
theorem w_489 : Cond.fieldLink "LedgerFiles$Nodes" 145 "LedgerFiles$Nodes" "found" "I" ∈ TB := tp_2 103 (by decide +kernel) rfl
def d_X7_hasGathered_2 (N : Nat) (V : Nat → Rw) (D : CfT) : Nat → Int32 → Int32 → Option (Int32)
  | 0, _, _ => none
  | n + 1, x1, x2 => if (cS D 3705) ≤ x2 then some ((0 : Int32)) else ld (cA D 39) 4168 x2 (fun v58 => if v58 = x1 then some ((1 : Int32)) else d_X7_hasGathered_2 N V D n x1 (x2 + (1 : Int32)))
def d_X7_hasGathered (N : Nat) (V : Nat → Rw) (D : CfT) (a0 : Int32) : Option (Int32) := d_X7_hasGathered_2 N V D fuL a0 ((0 : Int32))
set_option maxRecDepth 100000 in
set_option maxHeartbeats 4000000 in
theorem l_X7_hasGathered_2 (E : gE) (f0 : Nat → va_E) (sz : Nat) (QA : Nat → Prop) (N B gr : Nat) (C D : CfT) (A : MS) (hz : CfZ E N B gr) (hD : Dq D C) (hA : AR N B gr A C) : ∀ (n : Nat), ∀ (x1 : Int32) (x2 : Int32) (r : Int32) (hr : d_X7_hasGathered_2 N (vA A) D n x1 x2 = some r) (f : Nat → va_E) (h : CfV E f N B gr C) (hf : Fr CfK f0 f), G E (1, yX7_hasGathered, 3, (some .boolean), sz, QA) cX7_hasGathered (gO E (1, yX7_hasGathered, 3, (some .boolean), sz, QA) (fun v g => v = some (.int r) ∧ CfV E g N B gr C ∧ Fr CfK f0 g, fun _ _ => False)) 2 [(0, .ref (gAd E (37))), (1, .int (x1)), (2, .int (x2))] [] f := by
  obtain ⟨z1, z2, z3, z4, z5, z6, z7⟩ := id hz
  intro n
  induction n with
  | zero =>
    intro x1 x2 r hr f h hf
    cases hr
  | succ n ih =>
    intro x1 x2 r hr f h hf
    unfold d_X7_hasGathered_2 at hr
    refine G.go tv_X7_hasGathered 2 4 [(0, .ref (gAd E (37))), (1, .int (x1)), (2, .int (x2))] [.ref (gAd E (37)), .int (x2)] rfl ?_
    refine G.getf cls_X7 (37) 5 (by omega) (h.q37) (by decide) rfl (tbd tv_X7_hasGathered rfl) w_489 ?_
    refine G.eq1 (b := cS D 3705) (hD.1 3705 (by decide)) ?_
    refine G.cmp_ge 28 (tbd tv_X7_hasGathered rfl) (by decide) (fun c7 => ?_) (fun c7 => ?_)
    · replace hr := ite_t c7 hr
      refine G.go tv_X7_hasGathered 1 29 [(0, .ref (gAd E (37))), (1, .int (x1)), (2, .int (x2))] [.int ((0 : Int32))] rfl ?_
      cases hr
      exact G.iret rfl rfl ⟨rfl, h, hf⟩ (tbd tv_X7_hasGathered rfl)
    · replace hr := ite_f c7 hr
      refine G.go tv_X7_hasGathered 1 11 [(0, .ref (gAd E (37))), (1, .int (x1)), (2, .int (x2))] [.ref (gAd E (37))] rfl ?_
      refine G.getf cls_X7 (37) 4 (by omega) (h.q37) (by decide) rfl (tbd tv_X7_hasGathered rfl) w_483 ?_
      refine G.go tv_X7_hasGathered 1 15 [(0, .ref (gAd E (37))), (1, .int (x1)), (2, .int (x2))] [.int (x2), .ref (gAd E (39))] rfl ?_
      obtain ⟨v58, b58, e58, hr⟩ := ld_s hr
      refine G.ialdE (39) (by omega) ((h.q39).trans (congrArg (oI (gDA E) (4168)) (hD.2 39 (by decide)))) b58 e58 (tbd tv_X7_hasGathered rfl) ?_
      refine G.go tv_X7_hasGathered 1 17 [(0, .ref (gAd E (37))), (1, .int (x1)), (2, .int (x2))] [.int (x1), .int (v58)] rfl ?_
      refine G.cmp_ne 22 (tbd tv_X7_hasGathered rfl) (by decide) (fun c17 => ?_) (fun c17 => ?_)
      · replace hr := ite_f c17 hr
        refine G.go tv_X7_hasGathered 2 2 [(0, .ref (gAd E (37))), (1, .int (x1)), (2, .int (x2 + (1 : Int32)))] [] rfl ?_
        refine G.less [(0, .ref (gAd E (37))), (1, .int (x1)), (2, .int (x2 + (1 : Int32)))] [0, 1, 2] rfl ?_
        exact ih _ _ _ hr _ h hf
      · replace hr := ite_t c17 hr
        refine G.go tv_X7_hasGathered 1 21 [(0, .ref (gAd E (37))), (1, .int (x1)), (2, .int (x2))] [.int ((1 : Int32))] rfl ?_
        cases hr
        exact G.iret rfl rfl ⟨rfl, h, hf⟩ (tbd tv_X7_hasGathered rfl)
set_option maxRecDepth 100000 in
set_option maxHeartbeats 4000000 in
theorem k_X7_hasGathered (E : gE) (f : Nat → va_E) (N B gr : Nat) (C D : CfT) (A : MS) (hz : CfZ E N B gr) (h : CfV E f N B gr C) (hD : Dq D C) (hA : AR N B gr A C) (a0 : Int32) (r : Int32) (hr : d_X7_hasGathered N (vA A) D a0 = some r) : Ct E 1 yX7_hasGathered cX7_hasGathered 3 (some .boolean) [.ref (gAd E (37)), .int (a0)] f (fun v g => v = some (.int r) ∧ CfV E g N B gr C ∧ Fr CfK f g, fun _ _ => False) := by
  obtain ⟨z1, z2, z3, z4, z5, z6, z7⟩ := id hz
  refine Ct.of (by decide) (Nat.le_of_ble_eq_true rfl) (fun sz => ?_)
  refine G.eql [(0, .ref (gAd E (37))), (1, .int (a0))] rfl ?_
  unfold d_X7_hasGathered at hr
  refine G.go tv_X7_hasGathered 2 2 [(0, .ref (gAd E (37))), (1, .int (a0)), (2, .int ((0 : Int32)))] [] rfl ?_
  refine G.less [(0, .ref (gAd E (37))), (1, .int (a0)), (2, .int ((0 : Int32)))] [0, 1, 2] rfl ?_
  exact l_X7_hasGathered_2 E f sz _ N B gr C D A hz hD hA _ _ _ _ hr _ h Fr.rf
def tb_X7_tablesTelling : List (Nat × Instr × Nat) := [(0, .iconst 0, 1), (1, .istore 4, 2), (3, .iload_n 3, 1), (4, .aload_n 0, 1), (5, .iload_n 1, 1), (6, .invokevirtual 86, 3), (9, .invokestatic 89, 3), (12, .invokestatic 122, 3), (15, .istore 5, 2), (17, .iload_n 2, 1), (18, .bipush 8, 2), (20, .invokestatic 164, 3), (23, .istore 6, 2), (25, .iload 6, 2), (27, .iload 5, 2), (29, .if_icmp .ge 67, 3), (32, .aload_n 0, 1), (33, .iload_n 1, 1), (34, .iload 6, 2), (36, .iconst 1, 1), (37, .invokevirtual 112, 3), (40, .istore 7, 2), (42, .iload 7, 2), (44, .ifCond .eq 24, 3), (47, .aload_n 0, 1), (48, .getfield 18, 3), (51, .iload 7, 2), (53, .invokevirtual 34, 3), (56, .iload_n 1, 1), (57, .iload 6, 2), (59, .invokestatic 149, 3), (62, .invokestatic 49, 3), (65, .ifCond .eq 25, 3), (68, .iload 4, 2), (70, .iload 7, 2), (72, .ifCond .ne 7, 3), (75, .iconst 0, 1), (76, .goto 4, 3), (79, .iconst 1, 1), (80, .iadd, 1), (81, .istore 4, 2), (83, .iload 6, 2), (85, .invokestatic 116, 3), (88, .istore 6, 2), (90, .iinc 6 1, 3), (93, .goto (-68), 3), (96, .iload 4, 2), (98, .ireturn, 1)]
theorem tv_X7_tablesTelling : Tv cX7_tablesTelling tb_X7_tablesTelling := by
  unfold Tv
  decide +kernel
theorem w_940 : Cond.methodLink "LedgerFiles$Nodes" 86 yX7_size ∈ TB := tp_4 74 (by decide +kernel) rfl
theorem w_943 : Cond.code yX7_size prog_9_method_7_code 2 (some .int) ∈ TB := tp_4 77 rfl rfl
theorem cw_X7_86 : Cw RX7 86 yX7_size cX7_size 2 (some .int) 1 := ⟨w_940, w_943, w_157, by decide +kernel, by decide +kernel, by decide⟩
theorem w_941 : Cond.instanceMethod yX7_size ∈ TB := tp_4 75 (by decide +kernel) rfl
theorem w_942 : Cond.selects "LedgerFiles$Nodes" yX7_size yX7_size ∈ TB := tp_4 76 (by decide +kernel) rfl
theorem w_945 : Cond.methodLink "LedgerFiles$Nodes" 89 yX7_blocksFor ∈ TB := tp_4 79 (by decide +kernel) rfl
theorem w_947 : Cond.code yX7_blocksFor prog_9_method_2_code 1 (some .int) ∈ TB := tp_4 81 rfl rfl
theorem cw_X7_89 : Cw RX7 89 yX7_blocksFor cX7_blocksFor 1 (some .int) 1 := ⟨w_945, w_947, w_157, by decide +kernel, by decide +kernel, by decide⟩
theorem w_946 : Cond.static yX7_blocksFor ∈ TB := tp_4 80 (by decide +kernel) rfl
theorem w_1665 : Cond.methodLink "LedgerFiles$Nodes" 164 yJ9_max_7cf53 ∈ TB := tp_7 79 (by decide +kernel) rfl
theorem w_967 : Cond.methodLink "LedgerFiles$Nodes" 149 yX7_spot ∈ TB := tp_4 101 (by decide +kernel) rfl
theorem w_969 : Cond.code yX7_spot prog_9_method_26_code 2 (some .int) ∈ TB := tp_4 103 rfl rfl
theorem cw_X7_149 : Cw RX7 149 yX7_spot cX7_spot 2 (some .int) 2 := ⟨w_967, w_969, w_157, by decide +kernel, by decide +kernel, by decide⟩
theorem w_968 : Cond.static yX7_spot ∈ TB := tp_4 102 (by decide +kernel) rfl
def d_X7_tablesTelling_83 (N : Nat) (V : Nat → Rw) (D : CfT) (self25 : Int32 → Int32 → Int32 → Int32 → Option (Int32)) (x1 : Int32) (x4 : Int32) (x5 : Int32) (x6 : Int32) : Option (Int32) := bnd (d_X7_lastBeside N V D x6) (fun v68 => self25 x1 x4 x5 (v68 + (1 : Int32)))
def d_X7_tablesTelling_25 (N : Nat) (V : Nat → Rw) (D : CfT) : Nat → Int32 → Int32 → Int32 → Int32 → Option (Int32)
  | 0, _, _, _, _ => none
  | n + 1, x1, x4, x5, x6 => if x5 ≤ x6 then some x4 else bnd (d_X7_reach N V D x1 x6 ((1 : Int32))) (fun v63 => if v63 = 0 then if v63 = 0 then d_X7_tablesTelling_83 N V D (d_X7_tablesTelling_25 N V D n) x1 ((x4) + ((0 : Int32))) x5 x6 else d_X7_tablesTelling_83 N V D (d_X7_tablesTelling_25 N V D n) x1 ((x4) + ((1 : Int32))) x5 x6 else seeB N V v63 (fun y65 => bnd (d_X7_spot N V D x1 x6) (fun v66 => bnd (d_X2_two N V D y65 128 v66) (fun v67 => if v67 = 0 then d_X7_tablesTelling_25 N V D n x1 x4 x5 (x6 + (1 : Int32)) else if v63 = 0 then d_X7_tablesTelling_83 N V D (d_X7_tablesTelling_25 N V D n) x1 ((x4) + ((0 : Int32))) x5 x6 else d_X7_tablesTelling_83 N V D (d_X7_tablesTelling_25 N V D n) x1 ((x4) + ((1 : Int32))) x5 x6))))
def d_X7_tablesTelling (N : Nat) (V : Nat → Rw) (D : CfT) (a0 : Int32) (a1 : Int32) (a2 : Int32) : Option (Int32) := bnd (d_X7_size N V D a0) (fun v59 => bnd (d_X7_blocksFor N V D v59) (fun v60 => nm (if v60 < a2 then v60 else a2) (fun v61 => nm (if a1 < ((8 : Int32)) then ((8 : Int32)) else a1) (fun v62 => d_X7_tablesTelling_25 N V D fuL a0 ((0 : Int32)) v61 v62))))
set_option maxRecDepth 100000 in
set_option maxHeartbeats 4000000 in
theorem l_X7_tablesTelling_83 (E : gE) (f0 : Nat → va_E) (sz : Nat) (QA : Nat → Prop) (N B gr : Nat) (C D : CfT) (A : MS) (hz : CfZ E N B gr) (hD : Dq D C) (hA : AR N B gr A C) (self25 : Int32 → Int32 → Int32 → Int32 → Option (Int32)) (hs25 : ∀ (x1 : Int32) (x4 : Int32) (x5 : Int32) (x6 : Int32) (r : Int32) (hr : self25 x1 x4 x5 x6 = some r) (f : Nat → va_E) (h : CfV E f N B gr C) (hf : Fr CfK f0 f), G E (4, yX7_tablesTelling, 8, (some .int), sz, QA) cX7_tablesTelling (gO E (4, yX7_tablesTelling, 8, (some .int), sz, QA) (fun v g => v = some (.int r) ∧ CfV E g N B gr C ∧ Fr CfK f0 g, fun _ _ => False)) 25 [(0, .ref (gAd E (37))), (1, .int (x1)), (4, .int (x4)), (5, .int (x5)), (6, .int (x6))] [] f) : ∀ (x1 : Int32) (x4 : Int32) (x5 : Int32) (x6 : Int32) (r : Int32) (hr : d_X7_tablesTelling_83 N (vA A) D self25 x1 x4 x5 x6 = some r) (f : Nat → va_E) (h : CfV E f N B gr C) (hf : Fr CfK f0 f), G E (4, yX7_tablesTelling, 8, (some .int), sz, QA) cX7_tablesTelling (gO E (4, yX7_tablesTelling, 8, (some .int), sz, QA) (fun v g => v = some (.int r) ∧ CfV E g N B gr C ∧ Fr CfK f0 g, fun _ _ => False)) 83 [(0, .ref (gAd E (37))), (1, .int (x1)), (4, .int (x4)), (5, .int (x5)), (6, .int (x6))] [] f := by
  obtain ⟨z1, z2, z3, z4, z5, z6, z7⟩ := id hz
  intro x1 x4 x5 x6 r hr f h hf
  unfold d_X7_tablesTelling_83 at hr
  refine G.go tv_X7_tablesTelling 1 85 [(0, .ref (gAd E (37))), (1, .int (x1)), (4, .int (x4)), (5, .int (x5)), (6, .int (x6))] [.int (x6)] rfl ?_
  obtain ⟨v68, hv68, hr⟩ := bnd_s hr
  refine G.callS [.int (x6)] [] (k_X7_lastBeside E _ N B gr C D A hz h hD hA x6 v68 hv68) cw_X7_116 w_965 (Nat.le_of_ble_eq_true rfl) rfl (Nat.le_of_ble_eq_true rfl) (tbd tv_X7_tablesTelling rfl) (fun v68w f68 q68 => ?_) (fun _ _ h => h.elim)
  obtain ⟨rfl, ha68, fa68⟩ := q68
  refine G.eqs [.int (v68)] rfl ?_
  refine G.go tv_X7_tablesTelling 3 25 [(0, .ref (gAd E (37))), (1, .int (x1)), (4, .int (x4)), (5, .int (x5)), (6, .int (v68 + (1 : Int32)))] [] rfl ?_
  refine G.less [(0, .ref (gAd E (37))), (1, .int (x1)), (4, .int (x4)), (5, .int (x5)), (6, .int (v68 + (1 : Int32)))] [0, 1, 2, 3, 4] rfl ?_
  exact hs25 _ _ _ _ _ hr _ ha68 (hf.tr fa68 (fun _ h => h))
set_option maxRecDepth 100000 in
set_option maxHeartbeats 4000000 in
theorem l_X7_tablesTelling_25 (E : gE) (f0 : Nat → va_E) (sz : Nat) (QA : Nat → Prop) (N B gr : Nat) (C D : CfT) (A : MS) (hz : CfZ E N B gr) (hD : Dq D C) (hA : AR N B gr A C) : ∀ (n : Nat), ∀ (x1 : Int32) (x4 : Int32) (x5 : Int32) (x6 : Int32) (r : Int32) (hr : d_X7_tablesTelling_25 N (vA A) D n x1 x4 x5 x6 = some r) (f : Nat → va_E) (h : CfV E f N B gr C) (hf : Fr CfK f0 f), G E (4, yX7_tablesTelling, 8, (some .int), sz, QA) cX7_tablesTelling (gO E (4, yX7_tablesTelling, 8, (some .int), sz, QA) (fun v g => v = some (.int r) ∧ CfV E g N B gr C ∧ Fr CfK f0 g, fun _ _ => False)) 25 [(0, .ref (gAd E (37))), (1, .int (x1)), (4, .int (x4)), (5, .int (x5)), (6, .int (x6))] [] f := by
  obtain ⟨z1, z2, z3, z4, z5, z6, z7⟩ := id hz
  intro n
  induction n with
  | zero =>
    intro x1 x4 x5 x6 r hr f h hf
    cases hr
  | succ n ih =>
    intro x1 x4 x5 x6 r hr f h hf
    unfold d_X7_tablesTelling_25 at hr
    refine G.go tv_X7_tablesTelling 2 29 [(0, .ref (gAd E (37))), (1, .int (x1)), (4, .int (x4)), (5, .int (x5)), (6, .int (x6))] [.int (x5), .int (x6)] rfl ?_
    refine G.cmp_ge 96 (tbd tv_X7_tablesTelling rfl) (by decide) (fun c29 => ?_) (fun c29 => ?_)
    · replace hr := ite_t c29 hr
      refine G.go tv_X7_tablesTelling 1 98 [(0, .ref (gAd E (37))), (1, .int (x1)), (4, .int (x4)), (5, .int (x5)), (6, .int (x6))] [.int (x4)] rfl ?_
      cases hr
      exact G.iret rfl rfl ⟨rfl, h, hf⟩ (tbd tv_X7_tablesTelling rfl)
    · replace hr := ite_f c29 hr
      refine G.go tv_X7_tablesTelling 4 37 [(0, .ref (gAd E (37))), (1, .int (x1)), (4, .int (x4)), (5, .int (x5)), (6, .int (x6))] [.int ((1 : Int32)), .int (x6), .int (x1), .ref (gAd E (37))] rfl ?_
      obtain ⟨v63, hv63, hr⟩ := bnd_s hr
      refine G.callV (37) [.int (x1), .int (x6), .int ((1 : Int32))] [] (k_X7_reach E _ N B gr C D A hz h hD hA x1 x6 ((1 : Int32)) v63 hv63) cls_X7 (by omega) (h.q37) cw_X7_112 w_954 w_955 (Nat.le_of_ble_eq_true rfl) rfl (Nat.le_of_ble_eq_true rfl) (tbd tv_X7_tablesTelling rfl) (fun v63w f63 q63 => ?_) (fun _ _ h => h.elim)
      obtain ⟨rfl, ha63, fa63⟩ := q63
      refine G.eqs [.int (v63)] rfl ?_
      refine G.go tv_X7_tablesTelling 2 44 [(0, .ref (gAd E (37))), (1, .int (x1)), (4, .int (x4)), (5, .int (x5)), (6, .int (x6)), (7, .int (v63))] [.int (v63)] rfl ?_
      refine G.if_eq 68 (tbd tv_X7_tablesTelling rfl) (by decide) (fun c44 => ?_) (fun c44 => ?_)
      · replace hr := ite_t c44 hr
        refine G.go tv_X7_tablesTelling 2 72 [(0, .ref (gAd E (37))), (1, .int (x1)), (4, .int (x4)), (5, .int (x5)), (6, .int (x6)), (7, .int (v63))] [.int (v63), .int (x4)] rfl ?_
        refine G.if_ne 79 (tbd tv_X7_tablesTelling rfl) (by decide) (fun c72 => ?_) (fun c72 => ?_)
        · replace hr := ite_f c72 hr
          refine G.go tv_X7_tablesTelling 3 83 [(0, .ref (gAd E (37))), (1, .int (x1)), (4, .int ((x4) + ((1 : Int32)))), (5, .int (x5)), (6, .int (x6)), (7, .int (v63))] [] rfl ?_
          refine G.less [(0, .ref (gAd E (37))), (1, .int (x1)), (4, .int ((x4) + ((1 : Int32)))), (5, .int (x5)), (6, .int (x6))] [0, 1, 2, 3, 4] rfl ?_
          exact l_X7_tablesTelling_83 E f0 sz QA N B gr C D A hz hD hA _ ih _ _ _ _ _ hr _ ha63 (hf.tr fa63 (fun _ h => h))
        · replace hr := ite_t c72 hr
          refine G.go tv_X7_tablesTelling 4 83 [(0, .ref (gAd E (37))), (1, .int (x1)), (4, .int ((x4) + ((0 : Int32)))), (5, .int (x5)), (6, .int (x6)), (7, .int (v63))] [] rfl ?_
          refine G.less [(0, .ref (gAd E (37))), (1, .int (x1)), (4, .int ((x4) + ((0 : Int32)))), (5, .int (x5)), (6, .int (x6))] [0, 1, 2, 3, 4] rfl ?_
          exact l_X7_tablesTelling_83 E f0 sz QA N B gr C D A hz hD hA _ ih _ _ _ _ _ hr _ ha63 (hf.tr fa63 (fun _ h => h))
      · replace hr := ite_f c44 hr
        refine G.go tv_X7_tablesTelling 1 48 [(0, .ref (gAd E (37))), (1, .int (x1)), (4, .int (x4)), (5, .int (x5)), (6, .int (x6)), (7, .int (v63))] [.ref (gAd E (37))] rfl ?_
        refine G.getf cls_X7 (37) 0 (by omega) (ha63.q37) (by decide) rfl (tbd tv_X7_tablesTelling rfl) w_478 ?_
        refine G.go tv_X7_tablesTelling 1 53 [(0, .ref (gAd E (37))), (1, .int (x1)), (4, .int (x4)), (5, .int (x5)), (6, .int (x6)), (7, .int (v63))] [.int (v63), .ref (gAd E (25))] rfl ?_
        obtain ⟨y65, b65, e65, hr⟩ := seeB_s hr
        refine G.callV (25) [.int (v63)] [] (k_see E _ N B gr C A hz ha63 hA _ b65 _ e65) cls_X10 (by omega) (ha63.q25) cw_X7_34 w_910 w_911 (Nat.le_of_ble_eq_true rfl) rfl (Nat.le_of_ble_eq_true rfl) (tbd tv_X7_tablesTelling rfl) (fun v65w f65 q65 => ?_) (fun _ _ h => h.elim)
        obtain ⟨⟨k65, rfl, w65⟩, ha65, fa65⟩ := q65
        refine G.eqs [.ref (gAd E (k65))] rfl ?_
        refine G.go tv_X7_tablesTelling 2 59 [(0, .ref (gAd E (37))), (1, .int (x1)), (4, .int (x4)), (5, .int (x5)), (6, .int (x6)), (7, .int (v63))] [.int (x6), .int (x1), .ref (gAd E (k65))] rfl ?_
        obtain ⟨v66, hv66, hr⟩ := bnd_s hr
        refine G.callS [.int (x1), .int (x6)] [.ref (gAd E (k65))] (k_X7_spot E _ N B gr C D A hz ha65 hD hA x1 x6 v66 hv66) cw_X7_149 w_968 (Nat.le_of_ble_eq_true rfl) rfl (Nat.le_of_ble_eq_true rfl) (tbd tv_X7_tablesTelling rfl) (fun v66w f66 q66 => ?_) (fun _ _ h => h.elim)
        obtain ⟨rfl, ha66, fa66⟩ := q66
        refine G.eqs [.int (v66), .ref (gAd E (k65))] rfl ?_
        obtain ⟨v67, hv67, hr⟩ := bnd_s hr
        refine G.callS [.ref (gAd E (k65)), .int (v66)] [] (k_X2_two E _ N B gr C D A hz ha66 hD hA k65 128 y65 (w65) v66 v67 hv67) cw_X7_49 w_878 (Nat.le_of_ble_eq_true rfl) rfl (Nat.le_of_ble_eq_true rfl) (tbd tv_X7_tablesTelling rfl) (fun v67w f67 q67 => ?_) (fun _ _ h => h.elim)
        obtain ⟨rfl, ha67, fa67⟩ := q67
        refine G.eqs [.int (v67)] rfl ?_
        refine G.if_eq 90 (tbd tv_X7_tablesTelling rfl) (by decide) (fun c65 => ?_) (fun c65 => ?_)
        · replace hr := ite_t c65 hr
          refine G.go tv_X7_tablesTelling 2 25 [(0, .ref (gAd E (37))), (1, .int (x1)), (4, .int (x4)), (5, .int (x5)), (6, .int (x6 + (1 : Int32))), (7, .int (v63))] [] rfl ?_
          refine G.less [(0, .ref (gAd E (37))), (1, .int (x1)), (4, .int (x4)), (5, .int (x5)), (6, .int (x6 + (1 : Int32)))] [0, 1, 2, 3, 4] rfl ?_
          exact ih _ _ _ _ _ hr _ ha67 ((((hf.tr fa63 (fun _ h => h)).tr fa65 (fun _ h => h)).tr fa66 (fun _ h => h)).tr fa67 (fun _ h => h))
        · replace hr := ite_f c65 hr
          refine G.go tv_X7_tablesTelling 2 72 [(0, .ref (gAd E (37))), (1, .int (x1)), (4, .int (x4)), (5, .int (x5)), (6, .int (x6)), (7, .int (v63))] [.int (v63), .int (x4)] rfl ?_
          refine G.if_ne 79 (tbd tv_X7_tablesTelling rfl) (by decide) (fun c72 => ?_) (fun c72 => ?_)
          · replace hr := ite_f c72 hr
            refine G.go tv_X7_tablesTelling 3 83 [(0, .ref (gAd E (37))), (1, .int (x1)), (4, .int ((x4) + ((1 : Int32)))), (5, .int (x5)), (6, .int (x6)), (7, .int (v63))] [] rfl ?_
            refine G.less [(0, .ref (gAd E (37))), (1, .int (x1)), (4, .int ((x4) + ((1 : Int32)))), (5, .int (x5)), (6, .int (x6))] [0, 1, 2, 3, 4] rfl ?_
            exact l_X7_tablesTelling_83 E f0 sz QA N B gr C D A hz hD hA _ ih _ _ _ _ _ hr _ ha67 ((((hf.tr fa63 (fun _ h => h)).tr fa65 (fun _ h => h)).tr fa66 (fun _ h => h)).tr fa67 (fun _ h => h))
          · replace hr := ite_t c72 hr
            refine G.go tv_X7_tablesTelling 4 83 [(0, .ref (gAd E (37))), (1, .int (x1)), (4, .int ((x4) + ((0 : Int32)))), (5, .int (x5)), (6, .int (x6)), (7, .int (v63))] [] rfl ?_
            refine G.less [(0, .ref (gAd E (37))), (1, .int (x1)), (4, .int ((x4) + ((0 : Int32)))), (5, .int (x5)), (6, .int (x6))] [0, 1, 2, 3, 4] rfl ?_
            exact l_X7_tablesTelling_83 E f0 sz QA N B gr C D A hz hD hA _ ih _ _ _ _ _ hr _ ha67 ((((hf.tr fa63 (fun _ h => h)).tr fa65 (fun _ h => h)).tr fa66 (fun _ h => h)).tr fa67 (fun _ h => h))
set_option maxRecDepth 100000 in
set_option maxHeartbeats 4000000 in
theorem k_X7_tablesTelling (E : gE) (f : Nat → va_E) (N B gr : Nat) (C D : CfT) (A : MS) (hz : CfZ E N B gr) (h : CfV E f N B gr C) (hD : Dq D C) (hA : AR N B gr A C) (a0 : Int32) (a1 : Int32) (a2 : Int32) (r : Int32) (hr : d_X7_tablesTelling N (vA A) D a0 a1 a2 = some r) : Ct E 4 yX7_tablesTelling cX7_tablesTelling 8 (some .int) [.ref (gAd E (37)), .int (a0), .int (a1), .int (a2)] f (fun v g => v = some (.int r) ∧ CfV E g N B gr C ∧ Fr CfK f g, fun _ _ => False) := by
  obtain ⟨z1, z2, z3, z4, z5, z6, z7⟩ := id hz
  refine Ct.of (by decide) (Nat.le_of_ble_eq_true rfl) (fun sz => ?_)
  refine G.eql [(0, .ref (gAd E (37))), (1, .int (a0)), (2, .int (a1)), (3, .int (a2))] rfl ?_
  unfold d_X7_tablesTelling at hr
  refine G.go tv_X7_tablesTelling 5 6 [(0, .ref (gAd E (37))), (1, .int (a0)), (2, .int (a1)), (3, .int (a2)), (4, .int ((0 : Int32)))] [.int (a0), .ref (gAd E (37)), .int (a2)] rfl ?_
  obtain ⟨v59, hv59, hr⟩ := bnd_s hr
  refine G.callV (37) [.int (a0)] [.int (a2)] (k_X7_size E _ N B gr C D A hz h hD hA a0 v59 hv59) cls_X7 (by omega) (h.q37) cw_X7_86 w_941 w_942 (Nat.le_of_ble_eq_true rfl) rfl (Nat.le_of_ble_eq_true rfl) (tbd tv_X7_tablesTelling rfl) (fun v59w f59 q59 => ?_) (fun _ _ h => h.elim)
  obtain ⟨rfl, ha59, fa59⟩ := q59
  refine G.eqs [.int (v59), .int (a2)] rfl ?_
  obtain ⟨v60, hv60, hr⟩ := bnd_s hr
  refine G.callS [.int (v59)] [.int (a2)] (k_X7_blocksFor E _ N B gr C D A hz ha59 hD hA v59 v60 hv60) cw_X7_89 w_946 (Nat.le_of_ble_eq_true rfl) rfl (Nat.le_of_ble_eq_true rfl) (tbd tv_X7_tablesTelling rfl) (fun v60w f60 q60 => ?_) (fun _ _ h => h.elim)
  obtain ⟨rfl, ha60, fa60⟩ := q60
  refine G.eqs [.int (v60), .int (a2)] rfl ?_
  refine G.mmin w_952 w_214 w_150 w_215 (Nat.le_of_ble_eq_true rfl) (Nat.le_of_ble_eq_true rfl) (by show _ ≤ _; first | exact Nat.zero_le _ | exact Nat.le_of_ble_eq_true rfl) (by show _ ≤ _; first | exact Nat.zero_le _ | exact Nat.le_of_ble_eq_true rfl) (tbd tv_X7_tablesTelling rfl) ?_
  obtain ⟨v61, e61, hr⟩ := nm_s hr
  refine G.eq1 (b := v61) e61 ?_
  refine G.go tv_X7_tablesTelling 3 20 [(0, .ref (gAd E (37))), (1, .int (a0)), (2, .int (a1)), (3, .int (a2)), (4, .int ((0 : Int32))), (5, .int (v61))] [.int ((8 : Int32)), .int (a1)] rfl ?_
  refine G.mmax w_1665 w_211 w_150 w_212 (Nat.le_of_ble_eq_true rfl) (Nat.le_of_ble_eq_true rfl) (by show _ ≤ _; first | exact Nat.zero_le _ | exact Nat.le_of_ble_eq_true rfl) (by show _ ≤ _; first | exact Nat.zero_le _ | exact Nat.le_of_ble_eq_true rfl) (tbd tv_X7_tablesTelling rfl) ?_
  obtain ⟨v62, e62, hr⟩ := nm_s hr
  refine G.eq1 (b := v62) e62 ?_
  refine G.go tv_X7_tablesTelling 1 25 [(0, .ref (gAd E (37))), (1, .int (a0)), (2, .int (a1)), (3, .int (a2)), (4, .int ((0 : Int32))), (5, .int (v61)), (6, .int (v62))] [] rfl ?_
  refine G.less [(0, .ref (gAd E (37))), (1, .int (a0)), (4, .int ((0 : Int32))), (5, .int (v61)), (6, .int (v62))] [0, 1, 4, 5, 6] rfl ?_
  exact l_X7_tablesTelling_25 E f sz _ N B gr C D A hz hD hA _ _ _ _ _ _ hr _ ha60 ((Fr.rf.tr fa59 (fun _ h => h)).tr fa60 (fun _ h => h))
def tb_X7_tableStays : List (Nat × Instr × Nat) := [(0, .iload_n 0, 1), (1, .bipush 8, 2), (3, .if_icmp .lt 16, 3), (6, .iload_n 1, 1), (7, .iload_n 0, 1), (8, .iload_n 0, 1), (9, .bipush 8, 2), (11, .isub, 1), (12, .bipush 64, 2), (14, .irem, 1), (15, .isub, 1), (16, .if_icmp .le 7, 3), (19, .iconst 1, 1), (20, .goto 4, 3), (23, .iconst 0, 1), (24, .ireturn, 1)]
theorem tv_X7_tableStays : Tv cX7_tableStays tb_X7_tableStays := by
  unfold Tv
  decide +kernel
def d_X7_tableStays (N : Nat) (V : Nat → Rw) (D : CfT) (a0 : Int32) (a1 : Int32) : Option (Int32) := if a0 < ((8 : Int32)) then some ((1 : Int32)) else if a1 ≤ ((a0) - (((a0) - ((8 : Int32))) - ((a0) - ((8 : Int32))) / ((64 : Int32)) * ((64 : Int32)))) then some ((0 : Int32)) else some ((1 : Int32))
set_option maxRecDepth 100000 in
set_option maxHeartbeats 4000000 in
theorem k_X7_tableStays (E : gE) (f : Nat → va_E) (N B gr : Nat) (C D : CfT) (A : MS) (hz : CfZ E N B gr) (h : CfV E f N B gr C) (hD : Dq D C) (hA : AR N B gr A C) (a0 : Int32) (a1 : Int32) (r : Int32) (hr : d_X7_tableStays N (vA A) D a0 a1 = some r) : Ct E 1 yX7_tableStays cX7_tableStays 2 (some .boolean) [.int (a0), .int (a1)] f (fun v g => v = some (.int r) ∧ CfV E g N B gr C ∧ Fr CfK f g, fun _ _ => False) := by
  obtain ⟨z1, z2, z3, z4, z5, z6, z7⟩ := id hz
  refine Ct.of (by decide) (Nat.le_of_ble_eq_true rfl) (fun sz => ?_)
  refine G.eql [(0, .int (a0)), (1, .int (a1))] rfl ?_
  unfold d_X7_tableStays at hr
  refine G.go tv_X7_tableStays 2 3 [(0, .int (a0)), (1, .int (a1))] [.int ((8 : Int32)), .int (a0)] rfl ?_
  refine G.cmp_lt 19 (tbd tv_X7_tableStays rfl) (by decide) (fun c3 => ?_) (fun c3 => ?_)
  · replace hr := ite_t c3 hr
    refine G.go tv_X7_tableStays 2 24 [(0, .int (a0)), (1, .int (a1))] [.int ((1 : Int32))] rfl ?_
    cases hr
    exact G.iret rfl rfl ⟨rfl, h, Fr.rf⟩ (tbd tv_X7_tableStays rfl)
  · replace hr := ite_f c3 hr
    refine G.go tv_X7_tableStays 6 14 [(0, .int (a0)), (1, .int (a1))] [.int ((64 : Int32)), .int ((a0) - ((8 : Int32))), .int (a0), .int (a1)] rfl ?_
    refine G.irem (by decide) (tbd tv_X7_tableStays rfl) ?_
    refine G.go tv_X7_tableStays 1 16 [(0, .int (a0)), (1, .int (a1))] [.int ((a0) - (((a0) - ((8 : Int32))) - ((a0) - ((8 : Int32))) / ((64 : Int32)) * ((64 : Int32)))), .int (a1)] rfl ?_
    refine G.cmp_le 23 (tbd tv_X7_tableStays rfl) (by decide) (fun c16 => ?_) (fun c16 => ?_)
    · replace hr := ite_t c16 hr
      refine G.go tv_X7_tableStays 1 24 [(0, .int (a0)), (1, .int (a1))] [.int ((0 : Int32))] rfl ?_
      cases hr
      exact G.iret rfl rfl ⟨rfl, h, Fr.rf⟩ (tbd tv_X7_tableStays rfl)
    · replace hr := ite_f c16 hr
      refine G.go tv_X7_tableStays 2 24 [(0, .int (a0)), (1, .int (a1))] [.int ((1 : Int32))] rfl ?_
      cases hr
      exact G.iret rfl rfl ⟨rfl, h, Fr.rf⟩ (tbd tv_X7_tableStays rfl)
