noncomputable def d_X11_unmount_23 (N B gr : Nat) (A : MS) (D : CfT) : Option (FR Unit) := bndF (d_X11_commitLost N B gr A D ((1 : Int32))) (fun v4 A4 D4 => bndF (fFl N B gr A4 D4) (fun v5 A5 D5 => bndF (fAp N B gr A5 D5) (fun v6 A6 D6 => bndF (fSe N B gr A6 D6) (fun v7 A7 D7 => ptS D7 2 ((0 : Int32)) (fun D8 => some (.inl ((), A7, D8)))))))
noncomputable def d_X11_unmount (N B gr : Nat) (A : MS) (D : CfT) : Option (FR Unit) := bndF (d_X11_needMounted N B gr A D) (fun v1 A1 D1 => if (gpI A1) = 0 then d_X11_unmount_23 N B gr A1 D1 else bnd2 (d_X11_dropGroup N A1 D1) (fun A2 D2 => bndF (d_X11_commitLost N B gr A2 D2 ((0 : Int32))) (fun v3 A3 D3 => d_X11_unmount_23 N B gr A3 D3)))
set_option maxRecDepth 100000 in
set_option maxHeartbeats 4000000 in
theorem l_X11_unmount_23 (E : gE) (f0 : Nat → va_E) (sz : Nat) (QA : Nat → Prop) (N B gr : Nat) (C0 : CfT) (hz : CfZ E N B gr) : ∀ (A : MS) (D : CfT) (r : FR Unit) (hr : d_X11_unmount_23 N B gr A D = some r) (f : Nat → va_E) (C : CfT) (h : CfV E f N B gr C) (hD : Dq D C) (hA : AR N B gr A C) (hf : Fr CfK f0 f), G E (13, yX11_unmount, 1, none, sz, QA) cX11_unmount (gO E (13, yX11_unmount, 1, none, sz, QA) (FQ E N B gr f0 (fun _ => none) r)) 23 [(0, .ref (gAd E (0)))] [] f := by
  obtain ⟨z1, z2, z3, z4, z5, z6, z7⟩ := id hz
  intro A D r hr f C h hD hA hf
  unfold d_X11_unmount_23 at hr
  refine G.go tv_X11_unmount 2 25 [(0, .ref (gAd E (0)))] [.int ((1 : Int32)), .ref (gAd E (0))] rfl ?_
  rcases bndF_s hr with ⟨v4, A4, D4, hv4, hr⟩ | ⟨ex4, A4, D4, hv4, rfl⟩
  rotate_left
  · skip
    refine G.callV (0) [.int ((1 : Int32))] [] (k_X11_commitLost E _ N B gr C D A hz h hD hA ((1 : Int32)) _ hv4) cls_X11 (by omega) (h.q0) cw_X11_217 w_896 w_15 (Nat.le_of_ble_eq_true rfl) rfl (Nat.le_of_ble_eq_true rfl) (tbd tv_X11_unmount rfl) (fun v4w f4 q4 => ?_) (fun X g q => FQ.fr q hf)
    exact q4.elim
  refine G.callV (0) [.int ((1 : Int32))] [] (k_X11_commitLost E _ N B gr C D A hz h hD hA ((1 : Int32)) _ hv4) cls_X11 (by omega) (h.q0) cw_X11_217 w_896 w_15 (Nat.le_of_ble_eq_true rfl) rfl (Nat.le_of_ble_eq_true rfl) (tbd tv_X11_unmount rfl) (fun v4w f4 q4 => ?_) (fun _ _ h => h.elim)
  obtain ⟨rfl, C4, ha4, hD4, hA4, fa4⟩ := q4
  refine G.eqs [] rfl ?_
  refine G.go tv_X11_unmount 1 29 [(0, .ref (gAd E (0)))] [.ref (gAd E (0))] rfl ?_
  refine G.getf cls_X11 (0) 6 (by omega) (ha4.q0) (by decide) rfl (tbd tv_X11_unmount rfl) w_569 ?_
  rcases bndF_s hr with ⟨v5, A5, D5, hv5, hr⟩ | ⟨ex5, A5, D5, hv5, rfl⟩
  rotate_left
  · skip
    refine G.callV (17) [] [] (k_X9_flushAll E _ N B gr C4 D4 A4 hz ha4 hD4 hA4 _ hv5) cls_X9 (by omega) (ha4.q17) cw_X11_230 w_1274 w_1275 (Nat.le_of_ble_eq_true rfl) rfl (Nat.le_of_ble_eq_true rfl) (tbd tv_X11_unmount rfl) (fun v5w f5 q5 => ?_) (fun X g q => FQ.fr q (hf.tr fa4 (fun _ h => h)))
    exact q5.elim
  refine G.callV (17) [] [] (k_X9_flushAll E _ N B gr C4 D4 A4 hz ha4 hD4 hA4 _ hv5) cls_X9 (by omega) (ha4.q17) cw_X11_230 w_1274 w_1275 (Nat.le_of_ble_eq_true rfl) rfl (Nat.le_of_ble_eq_true rfl) (tbd tv_X11_unmount rfl) (fun v5w f5 q5 => ?_) (fun _ _ h => h.elim)
  obtain ⟨rfl, C5, ha5, hD5, hA5, fa5⟩ := q5
  refine G.eqs [.int (v5)] rfl ?_
  refine G.go tv_X11_unmount 2 37 [(0, .ref (gAd E (0)))] [.ref (gAd E (0))] rfl ?_
  refine G.getf cls_X11 (0) 5 (by omega) (ha5.q0) (by decide) rfl (tbd tv_X11_unmount rfl) w_568 ?_
  rcases bndF_s hr with ⟨v6, A6, D6, hv6, hr⟩ | ⟨ex6, A6, D6, hv6, rfl⟩
  rotate_left
  · skip
    refine G.callV (13) [] [] (k_X6_applyAll E _ N B gr C5 D5 A5 hz ha5 hD5 hA5 _ hv6) cls_X6 (by omega) (ha5.q13) cw_X11_214 w_886 w_887 (Nat.le_of_ble_eq_true rfl) rfl (Nat.le_of_ble_eq_true rfl) (tbd tv_X11_unmount rfl) (fun v6w f6 q6 => ?_) (fun X g q => FQ.fr q ((hf.tr fa4 (fun _ h => h)).tr fa5 (fun _ h => h)))
    exact q6.elim
  refine G.callV (13) [] [] (k_X6_applyAll E _ N B gr C5 D5 A5 hz ha5 hD5 hA5 _ hv6) cls_X6 (by omega) (ha5.q13) cw_X11_214 w_886 w_887 (Nat.le_of_ble_eq_true rfl) rfl (Nat.le_of_ble_eq_true rfl) (tbd tv_X11_unmount rfl) (fun v6w f6 q6 => ?_) (fun _ _ h => h.elim)
  obtain ⟨rfl, C6, ha6, hD6, hA6, fa6⟩ := q6
  refine G.eqs [] rfl ?_
  refine G.go tv_X11_unmount 1 44 [(0, .ref (gAd E (0)))] [.ref (gAd E (0))] rfl ?_
  refine G.getf cls_X11 (0) 4 (by omega) (ha6.q0) (by decide) rfl (tbd tv_X11_unmount rfl) w_567 ?_
  rcases bndF_s hr with ⟨v7, A7, D7, hv7, hr⟩ | ⟨ex7, A7, D7, hv7, rfl⟩
  rotate_left
  · skip
    refine G.callV (8) [] [] (k_X0_settle E _ N B gr C6 D6 A6 hz ha6 hD6 hA6 _ hv7) cls_X0 (by omega) (ha6.q8) cw_X11_172 w_762 w_763 (Nat.le_of_ble_eq_true rfl) rfl (Nat.le_of_ble_eq_true rfl) (tbd tv_X11_unmount rfl) (fun v7w f7 q7 => ?_) (fun X g q => FQ.fr q (((hf.tr fa4 (fun _ h => h)).tr fa5 (fun _ h => h)).tr fa6 (fun _ h => h)))
    exact q7.elim
  refine G.callV (8) [] [] (k_X0_settle E _ N B gr C6 D6 A6 hz ha6 hD6 hA6 _ hv7) cls_X0 (by omega) (ha6.q8) cw_X11_172 w_762 w_763 (Nat.le_of_ble_eq_true rfl) rfl (Nat.le_of_ble_eq_true rfl) (tbd tv_X11_unmount rfl) (fun v7w f7 q7 => ?_) (fun _ _ h => h.elim)
  obtain ⟨rfl, C7, ha7, hD7, hA7, fa7⟩ := q7
  refine G.eqs [] rfl ?_
  refine G.go tv_X11_unmount 2 52 [(0, .ref (gAd E (0)))] [.int ((0 : Int32)), .ref (gAd E (0))] rfl ?_
  obtain ⟨D8, eD8, hr⟩ := ptS_s hr
  refine G.putfS cls_X11 (0) 2 [.ref (gAd E 1), .int (cS C7 1), .int ((0 : Int32)), .ref (gAd E 2), .ref (gAd E 8), .ref (gAd E 13), .ref (gAd E 17), .ref (gAd E 25), .ref (gAd E 37), .ref (gAd E 32), .ref (gAd E 40), .ref (gAd E 41), .ref (gAd E 44), .ref (gAd E 47), .ref (gAd E 50), .ref (gAd E 53), .ref (gAd E 54), .ref (gAd E 55)] (by omega) (ha7.q0) rfl (by decide) rfl rfl rfl (Nat.le_of_ble_eq_true rfl) (tbd tv_X11_unmount rfl) w_565 ?_
  refine G.gen (P := SN E N B gr f0 A7 D8) ⟨sS C7 2 ((0 : Int32)), ha7.s2 _, (by rw [eD8]; exact hD7.ss), hA7.sm (Sd.s (by decide) : Sd C7 (sS C7 2 ((0 : Int32)))), Fr.c ((((hf.tr fa4 (fun _ h => h)).tr fa5 (fun _ h => h)).tr fa6 (fun _ h => h)).tr fa7 (fun _ h => h)) (by first | exact Or.inl (by decide) | exact Or.inr (by omega))⟩ (fun u8 p8 => ?_)
  obtain ⟨C8, h8, hD8, hA8, k8⟩ := p8
  cases hr
  exact G.vret rfl (FQ.ok rfl ⟨C8, h8, hD8, hA8, k8⟩) (tbd tv_X11_unmount rfl)
set_option maxRecDepth 100000 in
set_option maxHeartbeats 4000000 in
theorem k_X11_unmount (E : gE) (f : Nat → va_E) (N B gr : Nat) (C D : CfT) (A : MS) (hz : CfZ E N B gr) (h : CfV E f N B gr C) (hD : Dq D C) (hA : AR N B gr A C) (r : FR Unit) (hr : d_X11_unmount N B gr A D = some r) : Ct E 13 yX11_unmount cX11_unmount 1 none [.ref (gAd E (0))] f (FQ E N B gr f (fun _ => none) r) := by
  obtain ⟨z1, z2, z3, z4, z5, z6, z7⟩ := id hz
  refine Ct.of (by decide) (Nat.le_of_ble_eq_true rfl) (fun sz => ?_)
  refine G.eql [(0, .ref (gAd E (0)))] rfl ?_
  unfold d_X11_unmount at hr
  refine G.go tv_X11_unmount 1 1 [(0, .ref (gAd E (0)))] [.ref (gAd E (0))] rfl ?_
  rcases bndF_s hr with ⟨v1, A1, D1, hv1, hr⟩ | ⟨ex1, A1, D1, hv1, rfl⟩
  rotate_left
  · skip
    refine G.callV (0) [] [] (k_X11_needMounted E _ N B gr C D A hz h hD hA _ hv1) cls_X11 (by omega) (h.q0) cw_X11_221 w_1320 w_27 (Nat.le_of_ble_eq_true rfl) rfl (Nat.le_of_ble_eq_true rfl) (tbd tv_X11_unmount rfl) (fun v1w f1 q1 => ?_) (fun X g q => FQ.fr q Fr.rf)
    exact q1.elim
  refine G.callV (0) [] [] (k_X11_needMounted E _ N B gr C D A hz h hD hA _ hv1) cls_X11 (by omega) (h.q0) cw_X11_221 w_1320 w_27 (Nat.le_of_ble_eq_true rfl) rfl (Nat.le_of_ble_eq_true rfl) (tbd tv_X11_unmount rfl) (fun v1w f1 q1 => ?_) (fun _ _ h => h.elim)
  obtain ⟨rfl, C1, ha1, hD1, hA1, fa1⟩ := q1
  refine G.eqs [] rfl ?_
  refine G.go tv_X11_unmount 1 5 [(0, .ref (gAd E (0)))] [.ref (gAd E (0))] rfl ?_
  refine G.getf cls_X11 (0) 7 (by omega) (ha1.q0) (by decide) rfl (tbd tv_X11_unmount rfl) w_570 ?_
  refine G.getf cls_X10 (25) 11 (by omega) (ha1.q25) (by decide) rfl (tbd tv_X11_unmount rfl) w_423 ?_
  refine G.eq1 (b := gpI A1) (hA1.gp) ?_
  refine G.if_eq 23 (tbd tv_X11_unmount rfl) (by decide) (fun c11 => ?_) (fun c11 => ?_)
  · replace hr := ite_t c11 hr
    refine G.less [(0, .ref (gAd E (0)))] [0] rfl ?_
    exact l_X11_unmount_23 E f sz _ N B gr C hz _ _ _ hr _ _ ha1 hD1 hA1 (Fr.rf.tr fa1 (fun _ h => h))
  · replace hr := ite_f c11 hr
    refine G.go tv_X11_unmount 1 15 [(0, .ref (gAd E (0)))] [.ref (gAd E (0))] rfl ?_
    obtain ⟨A2, D2, hv2, hr⟩ := bnd2_s hr
    refine G.callV (0) [] [] (k_X11_dropGroup E _ N B gr C1 D1 A1 hz ha1 hD1 hA1 A2 D2 hv2) cls_X11 (by omega) (ha1.q0) cw_X11_227 w_1325 w_28 (Nat.le_of_ble_eq_true rfl) rfl (Nat.le_of_ble_eq_true rfl) (tbd tv_X11_unmount rfl) (fun v2w f2 q2 => ?_) (fun _ _ h => h.elim)
    obtain ⟨rfl, C2, ha2, hD2, hA2, fa2⟩ := q2
    refine G.eqs [] rfl ?_
    refine G.go tv_X11_unmount 2 20 [(0, .ref (gAd E (0)))] [.int ((0 : Int32)), .ref (gAd E (0))] rfl ?_
    rcases bndF_s hr with ⟨v3, A3, D3, hv3, hr⟩ | ⟨ex3, A3, D3, hv3, rfl⟩
    rotate_left
    · skip
      refine G.callV (0) [.int ((0 : Int32))] [] (k_X11_commitLost E _ N B gr C2 D2 A2 hz ha2 hD2 hA2 ((0 : Int32)) _ hv3) cls_X11 (by omega) (ha2.q0) cw_X11_217 w_896 w_15 (Nat.le_of_ble_eq_true rfl) rfl (Nat.le_of_ble_eq_true rfl) (tbd tv_X11_unmount rfl) (fun v3w f3 q3 => ?_) (fun X g q => FQ.fr q ((Fr.rf.tr fa1 (fun _ h => h)).tr fa2 (fun _ h => h)))
      exact q3.elim
    refine G.callV (0) [.int ((0 : Int32))] [] (k_X11_commitLost E _ N B gr C2 D2 A2 hz ha2 hD2 hA2 ((0 : Int32)) _ hv3) cls_X11 (by omega) (ha2.q0) cw_X11_217 w_896 w_15 (Nat.le_of_ble_eq_true rfl) rfl (Nat.le_of_ble_eq_true rfl) (tbd tv_X11_unmount rfl) (fun v3w f3 q3 => ?_) (fun _ _ h => h.elim)
    obtain ⟨rfl, C3, ha3, hD3, hA3, fa3⟩ := q3
    refine G.eqs [] rfl ?_
    refine G.less [(0, .ref (gAd E (0)))] [0] rfl ?_
    exact l_X11_unmount_23 E f sz _ N B gr C hz _ _ _ hr _ _ ha3 hD3 hA3 (((Fr.rf.tr fa1 (fun _ h => h)).tr fa2 (fun _ h => h)).tr fa3 (fun _ h => h))
theorem w_2036 : Cond.methodLink "LedgerFiles" 512 yX11_countMounted ∈ TB := tp_8 210 (by decide +kernel) rfl
theorem w_2039 : Cond.code yX11_countMounted prog_1_method_63_code 2 (some .int) ∈ TB := tp_8 213 rfl rfl
theorem cw_X11_512 : Cw RX11 512 yX11_countMounted cX11_countMounted 2 (some .int) 1 := ⟨w_2036, w_2039, w_147, by decide +kernel, by decide +kernel, by decide⟩
theorem w_2038 : Cond.instanceMethod yX11_countMounted ∈ TB := tp_8 212 (by decide +kernel) rfl
theorem w_52 : Cond.selects "LedgerFiles" yX11_countMounted yX11_countMounted ∈ TB := tp_0 52 (by decide +kernel) rfl
noncomputable def d_X11_count (N B gr : Nat) (A : MS) (D : CfT) (a0 : Int32) : Option (FR Int32) := if a0 < 0 then some (.inr (2, A, D)) else if a0 ≤ ((17 : Int32)) then if a0 ≤ ((5 : Int32)) then if (cS D 2) = 0 then some (.inl ((0 : Int32), A, D)) else bndF (d_X11_countMounted N B gr A D a0) (fun v9 A9 D9 => some (.inl (v9, A9, D9))) else if a0 < ((15 : Int32)) then if a0 = (6 : Int32) then some (.inl (nI A.1.2.1.2.1, A, D)) else if a0 = (7 : Int32) then some (.inl (nI A.1.1.2.length, A, D)) else if a0 = (8 : Int32) then some (.inl (A.1.2.2.2.1, A, D)) else if a0 = (9 : Int32) then some (.inl (A.1.2.2.2.2, A, D)) else if a0 = (10 : Int32) then some (.inl (A.1.2.2.1, A, D)) else if a0 = (11 : Int32) then some (.inl (A.1.2.1.2.2.2, A, D)) else if a0 = (12 : Int32) then some (.inl (cS D 1, A, D)) else if a0 = (13 : Int32) then if (cS D 2) = 0 then some (.inl ((0 : Int32), A, D)) else some (.inl ((1 : Int32), A, D)) else some (.inl ((1 : Int32), A, D)) else if (cS D 2) = 0 then some (.inl ((0 : Int32), A, D)) else bndF (d_X11_countMounted N B gr A D a0) (fun v10 A10 D10 => some (.inl (v10, A10, D10))) else some (.inr (2, A, D))
set_option maxRecDepth 100000 in
set_option maxHeartbeats 4000000 in
theorem k_X11_count (E : gE) (f : Nat → va_E) (N B gr : Nat) (C D : CfT) (A : MS) (hz : CfZ E N B gr) (h : CfV E f N B gr C) (hD : Dq D C) (hA : AR N B gr A C) (a0 : Int32) (r : FR Int32) (hr : d_X11_count N B gr A D a0 = some r) : Ct E 7 yX11_count cX11_count 2 (some .int) [.ref (gAd E (0)), .int (a0)] f (FQ E N B gr f (fun r => some (.int r)) r) := by
  obtain ⟨z1, z2, z3, z4, z5, z6, z7⟩ := id hz
  refine Ct.of (by decide) (Nat.le_of_ble_eq_true rfl) (fun sz => ?_)
  refine G.eql [(0, .ref (gAd E (0))), (1, .int (a0))] rfl ?_
  unfold d_X11_count at hr
  refine G.go tv_X11_count 1 1 [(0, .ref (gAd E (0))), (1, .int (a0))] [.int (a0)] rfl ?_
  refine G.if_lt 10 (tbd tv_X11_count rfl) (by decide) (fun c1 => ?_) (fun c1 => ?_)
  · replace hr := ite_t c1 hr
    cases hr
    exact G.thrW (cls := "java/lang/IllegalArgumentException") (text := "what is not 0 .. 17") (names := ["java/lang/RuntimeException", "java/lang/Exception"]) (by decide +kernel) (by decide +kernel) w_828 w_168 (own := "LedgerFiles") rfl (by decide +kernel) (by decide +kernel) at_X11_205 (tbd tv_X11_count rfl) (tbd tv_X11_count rfl) (tbd tv_X11_count rfl) (tbd tv_X11_count rfl) (tbd tv_X11_count rfl) (Nat.le_of_ble_eq_true rfl) (Nat.le_of_ble_eq_true rfl) (FQ.th (e := 1) rfl ⟨C, h, hD, hA, Fr.rf⟩)
  · replace hr := ite_f c1 hr
    refine G.go tv_X11_count 2 7 [(0, .ref (gAd E (0))), (1, .int (a0))] [.int ((17 : Int32)), .int (a0)] rfl ?_
    refine G.cmp_le 21 (tbd tv_X11_count rfl) (by decide) (fun c7 => ?_) (fun c7 => ?_)
    · replace hr := ite_t c7 hr
      refine G.go tv_X11_count 2 23 [(0, .ref (gAd E (0))), (1, .int (a0))] [.int ((5 : Int32)), .int (a0)] rfl ?_
      refine G.cmp_le 32 (tbd tv_X11_count rfl) (by decide) (fun c23 => ?_) (fun c23 => ?_)
      · replace hr := ite_t c23 hr
        refine G.go tv_X11_count 1 33 [(0, .ref (gAd E (0))), (1, .int (a0))] [.ref (gAd E (0))] rfl ?_
        refine G.getf cls_X11 (0) 2 (by omega) (h.q0) (by decide) rfl (tbd tv_X11_count rfl) w_565 ?_
        refine G.eq1 (b := cS D 2) (hD.1 2 (by decide)) ?_
        refine G.if_eq 57 (tbd tv_X11_count rfl) (by decide) (fun c36 => ?_) (fun c36 => ?_)
        · replace hr := ite_t c36 hr
          refine G.go tv_X11_count 1 58 [(0, .ref (gAd E (0))), (1, .int (a0))] [.int ((0 : Int32))] rfl ?_
          cases hr
          exact G.iret rfl rfl (FQ.ok rfl ⟨C, h, hD, hA, Fr.rf⟩) (tbd tv_X11_count rfl)
        · replace hr := ite_f c36 hr
          refine G.go tv_X11_count 1 40 [(0, .ref (gAd E (0))), (1, .int (a0))] [.ref (gAd E (0))] rfl ?_
          refine G.getf cls_X11 (0) 3 (by omega) (h.q0) (by decide) rfl (tbd tv_X11_count rfl) w_566 ?_
          refine G.getf cls_X2 (2) 8 (by omega) (h.q2) (by decide) rfl (tbd tv_X11_count rfl) w_243 ?_
          refine G.eq1 (b := (1 : Int32)) (hA.1.2.2) ?_
          refine G.if_eq 57 (tbd tv_X11_count rfl) (by decide) (fun c46 => absurd c46 (by decide)) (fun c46 => ?_)
          refine G.go tv_X11_count 2 51 [(0, .ref (gAd E (0))), (1, .int (a0))] [.int (a0), .ref (gAd E (0))] rfl ?_
          rcases bndF_s hr with ⟨v9, A9, D9, hv9, hr⟩ | ⟨ex9, A9, D9, hv9, rfl⟩
          rotate_left
          · skip
            refine G.callV (0) [.int (a0)] [] (k_X11_countMounted E _ N B gr C D A hz h hD hA a0 _ hv9) cls_X11 (by omega) (h.q0) cw_X11_512 w_2038 w_52 (Nat.le_of_ble_eq_true rfl) rfl (Nat.le_of_ble_eq_true rfl) (tbd tv_X11_count rfl) (fun v9w f9 q9 => ?_) (fun X g q => FQ.fr q Fr.rf)
            exact q9.elim
          refine G.callV (0) [.int (a0)] [] (k_X11_countMounted E _ N B gr C D A hz h hD hA a0 _ hv9) cls_X11 (by omega) (h.q0) cw_X11_512 w_2038 w_52 (Nat.le_of_ble_eq_true rfl) rfl (Nat.le_of_ble_eq_true rfl) (tbd tv_X11_count rfl) (fun v9w f9 q9 => ?_) (fun _ _ h => h.elim)
          obtain ⟨rfl, C9, ha9, hD9, hA9, fa9⟩ := q9
          refine G.eqs [.int (v9)] rfl ?_
          refine G.go tv_X11_count 1 58 [(0, .ref (gAd E (0))), (1, .int (a0))] [.int (v9)] rfl ?_
          cases hr
          exact G.iret rfl rfl (FQ.ok rfl ⟨C9, ha9, hD9, hA9, (Fr.rf.tr fa9 (fun _ h => h))⟩) (tbd tv_X11_count rfl)
      · replace hr := ite_f c23 hr
        refine G.go tv_X11_count 2 29 [(0, .ref (gAd E (0))), (1, .int (a0))] [.int ((15 : Int32)), .int (a0)] rfl ?_
        refine G.cmp_lt 59 (tbd tv_X11_count rfl) (by decide) (fun c29 => ?_) (fun c29 => ?_)
        · replace hr := ite_t c29 hr
          refine G.go tv_X11_count 1 60 [(0, .ref (gAd E (0))), (1, .int (a0))] [.int (a0)] rfl ?_
          by_cases c60_6 : a0 = (6 : Int32)
          · replace hr := ite_t c60_6 hr
            refine G.tswI 108 (48) (tbd tv_X11_count rfl) (by rw [c60_6]; decide) (by rw [c60_6]; decide) (by rw [c60_6]; decide) (by decide) ?_
            refine G.go tv_X11_count 1 109 [(0, .ref (gAd E (0))), (1, .int (a0))] [.ref (gAd E (0))] rfl ?_
            refine G.getf cls_X11 (0) 3 (by omega) (h.q0) (by decide) rfl (tbd tv_X11_count rfl) w_566 ?_
            refine G.getf cls_X2 (2) 8 (by omega) (h.q2) (by decide) rfl (tbd tv_X11_count rfl) w_243 ?_
            refine G.eq1 (b := (1 : Int32)) (hA.1.2.2) ?_
            refine G.if_eq 128 (tbd tv_X11_count rfl) (by decide) (fun c115 => absurd c115 (by decide)) (fun c115 => ?_)
            refine G.go tv_X11_count 1 119 [(0, .ref (gAd E (0))), (1, .int (a0))] [.ref (gAd E (0))] rfl ?_
            refine G.getf cls_X11 (0) 4 (by omega) (h.q0) (by decide) rfl (tbd tv_X11_count rfl) w_567 ?_
            refine G.getf cls_X0 (8) 6 (by omega) (h.q8) (by decide) rfl (tbd tv_X11_count rfl) w_292 ?_
            refine G.eq1 (b := nI A.1.2.1.2.1) (hA.1.num.2.2.2.2.1) ?_
            refine G.go tv_X11_count 1 129 [(0, .ref (gAd E (0))), (1, .int (a0))] [.int (nI A.1.2.1.2.1)] rfl ?_
            cases hr
            exact G.iret rfl rfl (FQ.ok rfl ⟨C, h, hD, hA, Fr.rf⟩) (tbd tv_X11_count rfl)
          replace hr := ite_f c60_6 hr
          by_cases c60_7 : a0 = (7 : Int32)
          · replace hr := ite_t c60_7 hr
            refine G.tswI 130 (70) (tbd tv_X11_count rfl) (by rw [c60_7]; decide) (by rw [c60_7]; decide) (by rw [c60_7]; decide) (by decide) ?_
            refine G.go tv_X11_count 1 131 [(0, .ref (gAd E (0))), (1, .int (a0))] [.ref (gAd E (0))] rfl ?_
            refine G.getf cls_X11 (0) 3 (by omega) (h.q0) (by decide) rfl (tbd tv_X11_count rfl) w_566 ?_
            refine G.getf cls_X2 (2) 7 (by omega) (h.q2) (by decide) rfl (tbd tv_X11_count rfl) w_241 ?_
            refine G.eq1 (b := nI A.1.1.2.length) (hA.1.num.2.2.2.2.2) ?_
            cases hr
            exact G.iret rfl rfl (FQ.ok rfl ⟨C, h, hD, hA, Fr.rf⟩) (tbd tv_X11_count rfl)
          replace hr := ite_f c60_7 hr
          by_cases c60_8 : a0 = (8 : Int32)
          · replace hr := ite_t c60_8 hr
            refine G.tswI 138 (78) (tbd tv_X11_count rfl) (by rw [c60_8]; decide) (by rw [c60_8]; decide) (by rw [c60_8]; decide) (by decide) ?_
            refine G.go tv_X11_count 1 139 [(0, .ref (gAd E (0))), (1, .int (a0))] [.ref (gAd E (0))] rfl ?_
            refine G.getf cls_X11 (0) 3 (by omega) (h.q0) (by decide) rfl (tbd tv_X11_count rfl) w_566 ?_
            refine G.getf cls_X2 (2) 10 (by omega) (h.q2) (by decide) rfl (tbd tv_X11_count rfl) w_247 ?_
            refine G.eq1 (b := A.1.2.2.2.1) (hA.1.num.2.1) ?_
            cases hr
            exact G.iret rfl rfl (FQ.ok rfl ⟨C, h, hD, hA, Fr.rf⟩) (tbd tv_X11_count rfl)
          replace hr := ite_f c60_8 hr
          by_cases c60_9 : a0 = (9 : Int32)
          · replace hr := ite_t c60_9 hr
            refine G.tswI 146 (86) (tbd tv_X11_count rfl) (by rw [c60_9]; decide) (by rw [c60_9]; decide) (by rw [c60_9]; decide) (by decide) ?_
            refine G.go tv_X11_count 1 147 [(0, .ref (gAd E (0))), (1, .int (a0))] [.ref (gAd E (0))] rfl ?_
            refine G.getf cls_X11 (0) 3 (by omega) (h.q0) (by decide) rfl (tbd tv_X11_count rfl) w_566 ?_
            refine G.getf cls_X2 (2) 11 (by omega) (h.q2) (by decide) rfl (tbd tv_X11_count rfl) w_249 ?_
            refine G.eq1 (b := A.1.2.2.2.2) (hA.1.num.2.2.1) ?_
            cases hr
            exact G.iret rfl rfl (FQ.ok rfl ⟨C, h, hD, hA, Fr.rf⟩) (tbd tv_X11_count rfl)
          replace hr := ite_f c60_9 hr
          by_cases c60_10 : a0 = (10 : Int32)
          · replace hr := ite_t c60_10 hr
            refine G.tswI 154 (94) (tbd tv_X11_count rfl) (by rw [c60_10]; decide) (by rw [c60_10]; decide) (by rw [c60_10]; decide) (by decide) ?_
            refine G.go tv_X11_count 1 155 [(0, .ref (gAd E (0))), (1, .int (a0))] [.ref (gAd E (0))] rfl ?_
            refine G.getf cls_X11 (0) 3 (by omega) (h.q0) (by decide) rfl (tbd tv_X11_count rfl) w_566 ?_
            refine G.getf cls_X2 (2) 9 (by omega) (h.q2) (by decide) rfl (tbd tv_X11_count rfl) w_245 ?_
            refine G.eq1 (b := A.1.2.2.1) (hA.1.num.1) ?_
            cases hr
            exact G.iret rfl rfl (FQ.ok rfl ⟨C, h, hD, hA, Fr.rf⟩) (tbd tv_X11_count rfl)
          replace hr := ite_f c60_10 hr
          by_cases c60_11 : a0 = (11 : Int32)
          · replace hr := ite_t c60_11 hr
            refine G.tswI 162 (102) (tbd tv_X11_count rfl) (by rw [c60_11]; decide) (by rw [c60_11]; decide) (by rw [c60_11]; decide) (by decide) ?_
            refine G.go tv_X11_count 1 163 [(0, .ref (gAd E (0))), (1, .int (a0))] [.ref (gAd E (0))] rfl ?_
            refine G.getf cls_X11 (0) 4 (by omega) (h.q0) (by decide) rfl (tbd tv_X11_count rfl) w_567 ?_
            refine G.getf cls_X0 (8) 7 (by omega) (h.q8) (by decide) rfl (tbd tv_X11_count rfl) w_294 ?_
            refine G.eq1 (b := A.1.2.1.2.2.2) (hA.1.num.2.2.2.1) ?_
            cases hr
            exact G.iret rfl rfl (FQ.ok rfl ⟨C, h, hD, hA, Fr.rf⟩) (tbd tv_X11_count rfl)
          replace hr := ite_f c60_11 hr
          by_cases c60_12 : a0 = (12 : Int32)
          · replace hr := ite_t c60_12 hr
            refine G.tswI 170 (110) (tbd tv_X11_count rfl) (by rw [c60_12]; decide) (by rw [c60_12]; decide) (by rw [c60_12]; decide) (by decide) ?_
            refine G.go tv_X11_count 1 171 [(0, .ref (gAd E (0))), (1, .int (a0))] [.ref (gAd E (0))] rfl ?_
            refine G.getf cls_X11 (0) 1 (by omega) (h.q0) (by decide) rfl (tbd tv_X11_count rfl) w_564 ?_
            refine G.eq1 (b := cS D 1) (hD.1 1 (by decide)) ?_
            cases hr
            exact G.iret rfl rfl (FQ.ok rfl ⟨C, h, hD, hA, Fr.rf⟩) (tbd tv_X11_count rfl)
          replace hr := ite_f c60_12 hr
          by_cases c60_13 : a0 = (13 : Int32)
          · replace hr := ite_t c60_13 hr
            refine G.tswI 175 (115) (tbd tv_X11_count rfl) (by rw [c60_13]; decide) (by rw [c60_13]; decide) (by rw [c60_13]; decide) (by decide) ?_
            refine G.go tv_X11_count 1 176 [(0, .ref (gAd E (0))), (1, .int (a0))] [.ref (gAd E (0))] rfl ?_
            refine G.getf cls_X11 (0) 2 (by omega) (h.q0) (by decide) rfl (tbd tv_X11_count rfl) w_565 ?_
            refine G.eq1 (b := cS D 2) (hD.1 2 (by decide)) ?_
            refine G.if_eq 196 (tbd tv_X11_count rfl) (by decide) (fun c179 => ?_) (fun c179 => ?_)
            · replace hr := ite_t c179 hr
              refine G.go tv_X11_count 1 197 [(0, .ref (gAd E (0))), (1, .int (a0))] [.int ((0 : Int32))] rfl ?_
              cases hr
              exact G.iret rfl rfl (FQ.ok rfl ⟨C, h, hD, hA, Fr.rf⟩) (tbd tv_X11_count rfl)
            · replace hr := ite_f c179 hr
              refine G.go tv_X11_count 1 183 [(0, .ref (gAd E (0))), (1, .int (a0))] [.ref (gAd E (0))] rfl ?_
              refine G.getf cls_X11 (0) 3 (by omega) (h.q0) (by decide) rfl (tbd tv_X11_count rfl) w_566 ?_
              refine G.getf cls_X2 (2) 8 (by omega) (h.q2) (by decide) rfl (tbd tv_X11_count rfl) w_243 ?_
              refine G.eq1 (b := (1 : Int32)) (hA.1.2.2) ?_
              refine G.if_eq 196 (tbd tv_X11_count rfl) (by decide) (fun c189 => absurd c189 (by decide)) (fun c189 => ?_)
              refine G.go tv_X11_count 2 197 [(0, .ref (gAd E (0))), (1, .int (a0))] [.int ((1 : Int32))] rfl ?_
              cases hr
              exact G.iret rfl rfl (FQ.ok rfl ⟨C, h, hD, hA, Fr.rf⟩) (tbd tv_X11_count rfl)
          replace hr := ite_f c60_13 hr
          have nc60_6 : a0.toInt ≠ 6 := fun e => c60_6 (Int32.toInt_inj.mp (e.trans (by decide)))
          have nc60_7 : a0.toInt ≠ 7 := fun e => c60_7 (Int32.toInt_inj.mp (e.trans (by decide)))
          have nc60_8 : a0.toInt ≠ 8 := fun e => c60_8 (Int32.toInt_inj.mp (e.trans (by decide)))
          have nc60_9 : a0.toInt ≠ 9 := fun e => c60_9 (Int32.toInt_inj.mp (e.trans (by decide)))
          have nc60_10 : a0.toInt ≠ 10 := fun e => c60_10 (Int32.toInt_inj.mp (e.trans (by decide)))
          have nc60_11 : a0.toInt ≠ 11 := fun e => c60_11 (Int32.toInt_inj.mp (e.trans (by decide)))
          have nc60_12 : a0.toInt ≠ 12 := fun e => c60_12 (Int32.toInt_inj.mp (e.trans (by decide)))
          have nc60_13 : a0.toInt ≠ 13 := fun e => c60_13 (Int32.toInt_inj.mp (e.trans (by decide)))
          refine G.tswO 198 (tbd tv_X11_count rfl) (by omega) (by decide) ?_
          refine G.go tv_X11_count 1 199 [(0, .ref (gAd E (0))), (1, .int (a0))] [.ref (gAd E (0))] rfl ?_
          refine G.getf cls_X11 (0) 3 (by omega) (h.q0) (by decide) rfl (tbd tv_X11_count rfl) w_566 ?_
          refine G.getf cls_X2 (2) 8 (by omega) (h.q2) (by decide) rfl (tbd tv_X11_count rfl) w_243 ?_
          refine G.eq1 (b := (1 : Int32)) (hA.1.2.2) ?_
          refine G.if_eq 212 (tbd tv_X11_count rfl) (by decide) (fun c205 => absurd c205 (by decide)) (fun c205 => ?_)
          refine G.go tv_X11_count 2 213 [(0, .ref (gAd E (0))), (1, .int (a0))] [.int ((1 : Int32))] rfl ?_
          cases hr
          exact G.iret rfl rfl (FQ.ok rfl ⟨C, h, hD, hA, Fr.rf⟩) (tbd tv_X11_count rfl)
        · replace hr := ite_f c29 hr
          refine G.go tv_X11_count 1 33 [(0, .ref (gAd E (0))), (1, .int (a0))] [.ref (gAd E (0))] rfl ?_
          refine G.getf cls_X11 (0) 2 (by omega) (h.q0) (by decide) rfl (tbd tv_X11_count rfl) w_565 ?_
          refine G.eq1 (b := cS D 2) (hD.1 2 (by decide)) ?_
          refine G.if_eq 57 (tbd tv_X11_count rfl) (by decide) (fun c36 => ?_) (fun c36 => ?_)
          · replace hr := ite_t c36 hr
            refine G.go tv_X11_count 1 58 [(0, .ref (gAd E (0))), (1, .int (a0))] [.int ((0 : Int32))] rfl ?_
            cases hr
            exact G.iret rfl rfl (FQ.ok rfl ⟨C, h, hD, hA, Fr.rf⟩) (tbd tv_X11_count rfl)
          · replace hr := ite_f c36 hr
            refine G.go tv_X11_count 1 40 [(0, .ref (gAd E (0))), (1, .int (a0))] [.ref (gAd E (0))] rfl ?_
            refine G.getf cls_X11 (0) 3 (by omega) (h.q0) (by decide) rfl (tbd tv_X11_count rfl) w_566 ?_
            refine G.getf cls_X2 (2) 8 (by omega) (h.q2) (by decide) rfl (tbd tv_X11_count rfl) w_243 ?_
            refine G.eq1 (b := (1 : Int32)) (hA.1.2.2) ?_
            refine G.if_eq 57 (tbd tv_X11_count rfl) (by decide) (fun c46 => absurd c46 (by decide)) (fun c46 => ?_)
            refine G.go tv_X11_count 2 51 [(0, .ref (gAd E (0))), (1, .int (a0))] [.int (a0), .ref (gAd E (0))] rfl ?_
            rcases bndF_s hr with ⟨v10, A10, D10, hv10, hr⟩ | ⟨ex10, A10, D10, hv10, rfl⟩
            rotate_left
            · skip
              refine G.callV (0) [.int (a0)] [] (k_X11_countMounted E _ N B gr C D A hz h hD hA a0 _ hv10) cls_X11 (by omega) (h.q0) cw_X11_512 w_2038 w_52 (Nat.le_of_ble_eq_true rfl) rfl (Nat.le_of_ble_eq_true rfl) (tbd tv_X11_count rfl) (fun v10w f10 q10 => ?_) (fun X g q => FQ.fr q Fr.rf)
              exact q10.elim
            refine G.callV (0) [.int (a0)] [] (k_X11_countMounted E _ N B gr C D A hz h hD hA a0 _ hv10) cls_X11 (by omega) (h.q0) cw_X11_512 w_2038 w_52 (Nat.le_of_ble_eq_true rfl) rfl (Nat.le_of_ble_eq_true rfl) (tbd tv_X11_count rfl) (fun v10w f10 q10 => ?_) (fun _ _ h => h.elim)
            obtain ⟨rfl, C10, ha10, hD10, hA10, fa10⟩ := q10
            refine G.eqs [.int (v10)] rfl ?_
            refine G.go tv_X11_count 1 58 [(0, .ref (gAd E (0))), (1, .int (a0))] [.int (v10)] rfl ?_
            cases hr
            exact G.iret rfl rfl (FQ.ok rfl ⟨C10, ha10, hD10, hA10, (Fr.rf.tr fa10 (fun _ h => h))⟩) (tbd tv_X11_count rfl)
    · replace hr := ite_f c7 hr
      cases hr
      exact G.thrW (cls := "java/lang/IllegalArgumentException") (text := "what is not 0 .. 17") (names := ["java/lang/RuntimeException", "java/lang/Exception"]) (by decide +kernel) (by decide +kernel) w_828 w_168 (own := "LedgerFiles") rfl (by decide +kernel) (by decide +kernel) at_X11_205 (tbd tv_X11_count rfl) (tbd tv_X11_count rfl) (tbd tv_X11_count rfl) (tbd tv_X11_count rfl) (tbd tv_X11_count rfl) (Nat.le_of_ble_eq_true rfl) (Nat.le_of_ble_eq_true rfl) (FQ.th (e := 1) rfl ⟨C, h, hD, hA, Fr.rf⟩)
