theorem w_1766 : Cond.methodLink "LedgerFiles" 421 yX5_lowestFree ∈ TB := tp_7 180 (by decide +kernel) rfl
theorem w_1769 : Cond.code yX5_lowestFree prog_7_method_7_code 2 (some .int) ∈ TB := tp_7 183 rfl rfl
theorem cw_X11_421 : Cw RX11 421 yX5_lowestFree cX5_lowestFree 2 (some .int) 0 := ⟨w_1766, w_1769, w_156, by decide +kernel, by decide +kernel, by decide⟩
theorem w_1767 : Cond.instanceMethod yX5_lowestFree ∈ TB := tp_7 181 (by decide +kernel) rfl
theorem w_1768 : Cond.selects "LedgerFiles$Holders" yX5_lowestFree yX5_lowestFree ∈ TB := tp_7 182 (by decide +kernel) rfl
theorem w_1770 : Cond.methodLink "LedgerFiles" 422 yX5_grip ∈ TB := tp_7 184 (by decide +kernel) rfl
theorem w_1773 : Cond.code yX5_grip prog_7_method_8_code 4 none ∈ TB := tp_7 187 rfl rfl
theorem cw_X11_422 : Cw RX11 422 yX5_grip cX5_grip 4 none 3 := ⟨w_1770, w_1773, w_156, by decide +kernel, by decide +kernel, by decide⟩
theorem w_1771 : Cond.instanceMethod yX5_grip ∈ TB := tp_7 185 (by decide +kernel) rfl
theorem w_1772 : Cond.selects "LedgerFiles$Holders" yX5_grip yX5_grip ∈ TB := tp_7 186 (by decide +kernel) rfl
noncomputable def d_X11_open_260 (N B gr : Nat) (A : MS) (D : CfT) (x1 : Int32) (x4 : Int32) (x7 : Int32) : Option (FR Int32) := bnd (d_X5_grip N (vA A) D x7 x4 ((x1) &&& ((3 : Int32)))) (fun D12 => bndF (d_X10_finish N B gr A D12) (fun v13 A13 D13 => some (.inl (x7, A13, D13))))
noncomputable def d_X11_open_179 (N B gr : Nat) (A : MS) (D : CfT) (x1 : Int32) (x3 : Int32) (x4 : Int32) (x5 : Int32) (x6 : Int32) : Option (FR Int32) := bnd (d_X5_lowestFree N (vA A) D) (fun v7 => if v7 = ((-1 : Int32)) then some (.inl ((-9 : Int32), A, D)) else if x5 = 0 then if x3 = 0 then d_X11_open_260 N B gr A D x1 x4 v7 else bnd2 (d_X7_resize N A D x4 ((0 : Int32))) (fun A8 D8 => d_X11_open_260 N B gr A8 D8 x1 x4 v7) else bnd (d_X11_faultOfNew N (vA A) A.2.2.2.2.1 D x6) (fun v9 => if 0 ≤ v9 then bnd3 (d_X7_create N A D ((1 : Int32))) (fun v10 A10 D10 => bndF (d_X4_addName_47 N B gr A10 D10 x6 v10) (fun v11 A11 D11 => d_X11_open_260 N B gr A11 D11 x1 v10 v7)) else some (.inl (v9, A, D))))
noncomputable def d_X11_open_150 (N B gr : Nat) (A : MS) (D : CfT) (x1 : Int32) (x3 : Int32) (x4 : Int32) (x5 : Int32) (x6 : Int32) : Option (FR Int32) := if 0 ≤ x6 then if x5 = 0 then bnd (d_X7_kind N (vA A) D x4) (fun v6 => if v6 = ((2 : Int32)) then some (.inl ((-4 : Int32), A, D)) else d_X11_open_179 N B gr A D x1 x3 x4 x5 x6) else d_X11_open_179 N B gr A D x1 x3 x4 x5 x6 else some (.inl (x6, A, D))
noncomputable def d_X11_open_118 (N B gr : Nat) (A : MS) (D : CfT) (x1 : Int32) (x3 : Int32) (x4 : Int32) (x5 : Int32) : Option (FR Int32) := if x5 = 0 then d_X11_open_150 N B gr A D x1 x3 x4 x5 x4 else bnd (d_X4_walk_47 N (vA A) D ((cS D 4702) - ((1 : Int32)))) (fun v5 => d_X11_open_150 N B gr A D x1 x3 x4 x5 v5)
noncomputable def d_X11_open_115 (N B gr : Nat) (A : MS) (D : CfT) (x1 : Int32) (x3 : Int32) (x4 : Int32) : Option (FR Int32) := d_X11_open_118 N B gr A D x1 x3 x4 ((0 : Int32))
noncomputable def d_X11_open_60 (N B gr : Nat) (A : MS) (D : CfT) (x1 : Int32) (x2 : Int32) (x3 : Int32) : Option (FR Int32) := bnd2 (d_X8_parse_47 N (vA A) D ((0 : Int32)) x2) (fun v3 D3 => if v3 = 0 then some (.inl ((-6 : Int32), A, D3)) else bnd (d_X4_walk_47 N (vA A) D3 (cS D3 4702)) (fun v4 => if v4 = ((-1 : Int32)) then if ((x1) &&& ((4 : Int32))) = 0 then d_X11_open_115 N B gr A D3 x1 x3 v4 else d_X11_open_118 N B gr A D3 x1 x3 v4 ((1 : Int32)) else d_X11_open_115 N B gr A D3 x1 x3 v4))
noncomputable def d_X11_open_49 (N B gr : Nat) (A : MS) (D : CfT) : Option (FR Int32) := some (.inr (2, A, D))
noncomputable def d_X11_open_22 (N B gr : Nat) (A : MS) (D : CfT) (x1 : Int32) (x2 : Int32) (x3 : Int32) : Option (FR Int32) := if x1 < 0 then d_X11_open_49 N B gr A D else if ((15 : Int32)) < x1 then d_X11_open_49 N B gr A D else if ((x1) &&& ((3 : Int32))) = ((3 : Int32)) then d_X11_open_49 N B gr A D else if x3 = 0 then d_X11_open_60 N B gr A D x1 x2 x3 else if ((x1) &&& ((3 : Int32))) = 0 then d_X11_open_49 N B gr A D else d_X11_open_60 N B gr A D x1 x2 x3
noncomputable def d_X11_open (N B gr : Nat) (A : MS) (D : CfT) (a0 : Int32) : Option (FR Int32) := bnd2 (d_X11_useTape N (vA A) D) (fun v1 D1 => bndF (d_X11_needMounted N B gr A D1) (fun v2 A2 D2 => if ((a0) &&& ((8 : Int32))) = 0 then d_X11_open_22 N B gr A2 D2 a0 v1 ((0 : Int32)) else d_X11_open_22 N B gr A2 D2 a0 v1 ((1 : Int32))))
set_option maxRecDepth 100000 in
set_option maxHeartbeats 4000000 in
theorem l_X11_open_260 (E : gE) (f0 : Nat → va_E) (sz : Nat) (QA : Nat → Prop) (N B gr : Nat) (C0 : CfT) (hz : CfZ E N B gr) : ∀ (A : MS) (D : CfT) (x1 : Int32) (x4 : Int32) (x7 : Int32) (r : FR Int32) (hr : d_X11_open_260 N B gr A D x1 x4 x7 = some r) (f : Nat → va_E) (C : CfT) (h : CfV E f N B gr C) (hD : Dq D C) (hA : AR N B gr A C) (hf : Fr CfK f0 f), G E (13, yX11_open, 9, (some .int), sz, QA) cX11_open (gO E (13, yX11_open, 9, (some .int), sz, QA) (FQ E N B gr f0 (fun r => some (.int r)) r)) 260 [(0, .ref (gAd E (0))), (1, .int (x1)), (4, .int (x4)), (7, .int (x7))] [] f := by
  obtain ⟨z1, z2, z3, z4, z5, z6, z7⟩ := id hz
  intro A D x1 x4 x7 r hr f C h hD hA hf
  unfold d_X11_open_260 at hr
  refine G.go tv_X11_open 1 261 [(0, .ref (gAd E (0))), (1, .int (x1)), (4, .int (x4)), (7, .int (x7))] [.ref (gAd E (0))] rfl ?_
  refine G.getf cls_X11 (0) 9 (by omega) (h.q0) (by decide) rfl (tbd tv_X11_open rfl) w_572 ?_
  refine G.go tv_X11_open 5 271 [(0, .ref (gAd E (0))), (1, .int (x1)), (4, .int (x4)), (7, .int (x7))] [.int ((x1) &&& ((3 : Int32))), .int (x4), .int (x7), .ref (gAd E (32))] rfl ?_
  obtain ⟨D12, hv12, hr⟩ := bnd_s hr
  refine G.callV (32) [.int (x7), .int (x4), .int ((x1) &&& ((3 : Int32)))] [] (k_X5_grip E _ N B gr C D A hz h hD hA x7 x4 ((x1) &&& ((3 : Int32))) D12 hv12) cls_X5 (by omega) (h.q32) cw_X11_422 w_1771 w_1772 (Nat.le_of_ble_eq_true rfl) rfl (Nat.le_of_ble_eq_true rfl) (tbd tv_X11_open rfl) (fun v12w f12 q12 => ?_) (fun _ _ h => h.elim)
  obtain ⟨rfl, C12, ha12, hD12, hA12, hR12, fa12⟩ := q12
  refine G.eqs [] rfl ?_
  refine G.go tv_X11_open 1 275 [(0, .ref (gAd E (0))), (1, .int (x1)), (4, .int (x4)), (7, .int (x7))] [.ref (gAd E (0))] rfl ?_
  refine G.getf cls_X11 (0) 7 (by omega) (ha12.q0) (by decide) rfl (tbd tv_X11_open rfl) w_570 ?_
  rcases bndF_s hr with ⟨v13, A13, D13, hv13, hr⟩ | ⟨ex13, A13, D13, hv13, rfl⟩
  rotate_left
  · skip
    refine G.callV (25) [] [] (k_X10_finish E _ N B gr C12 D12 A hz ha12 hD12 hA12 _ hv13) cls_X10 (by omega) (ha12.q25) cw_X11_244 w_1247 w_1248 (Nat.le_of_ble_eq_true rfl) rfl (Nat.le_of_ble_eq_true rfl) (tbd tv_X11_open rfl) (fun v13w f13 q13 => ?_) (fun X g q => FQ.fr q (hf.tr fa12 (fun _ h => h)))
    exact q13.elim
  refine G.callV (25) [] [] (k_X10_finish E _ N B gr C12 D12 A hz ha12 hD12 hA12 _ hv13) cls_X10 (by omega) (ha12.q25) cw_X11_244 w_1247 w_1248 (Nat.le_of_ble_eq_true rfl) rfl (Nat.le_of_ble_eq_true rfl) (tbd tv_X11_open rfl) (fun v13w f13 q13 => ?_) (fun _ _ h => h.elim)
  obtain ⟨rfl, C13, ha13, hD13, hA13, fa13⟩ := q13
  refine G.eqs [] rfl ?_
  refine G.go tv_X11_open 1 283 [(0, .ref (gAd E (0))), (1, .int (x1)), (4, .int (x4)), (7, .int (x7))] [.int (x7)] rfl ?_
  cases hr
  exact G.iret rfl rfl (FQ.ok rfl ⟨C13, ha13, hD13, hA13, ((hf.tr fa12 (fun _ h => h)).tr fa13 (fun _ h => h))⟩) (tbd tv_X11_open rfl)
set_option maxRecDepth 100000 in
set_option maxHeartbeats 4000000 in
theorem l_X11_open_179 (E : gE) (f0 : Nat → va_E) (sz : Nat) (QA : Nat → Prop) (N B gr : Nat) (C0 : CfT) (hz : CfZ E N B gr) : ∀ (A : MS) (D : CfT) (x1 : Int32) (x3 : Int32) (x4 : Int32) (x5 : Int32) (x6 : Int32) (r : FR Int32) (hr : d_X11_open_179 N B gr A D x1 x3 x4 x5 x6 = some r) (f : Nat → va_E) (C : CfT) (h : CfV E f N B gr C) (hD : Dq D C) (hA : AR N B gr A C) (hf : Fr CfK f0 f), G E (13, yX11_open, 9, (some .int), sz, QA) cX11_open (gO E (13, yX11_open, 9, (some .int), sz, QA) (FQ E N B gr f0 (fun r => some (.int r)) r)) 179 [(0, .ref (gAd E (0))), (1, .int (x1)), (3, .int (x3)), (4, .int (x4)), (5, .int (x5)), (6, .int (x6))] [] f := by
  obtain ⟨z1, z2, z3, z4, z5, z6, z7⟩ := id hz
  intro A D x1 x3 x4 x5 x6 r hr f C h hD hA hf
  unfold d_X11_open_179 at hr
  refine G.go tv_X11_open 1 180 [(0, .ref (gAd E (0))), (1, .int (x1)), (3, .int (x3)), (4, .int (x4)), (5, .int (x5)), (6, .int (x6))] [.ref (gAd E (0))] rfl ?_
  refine G.getf cls_X11 (0) 9 (by omega) (h.q0) (by decide) rfl (tbd tv_X11_open rfl) w_572 ?_
  obtain ⟨v7, hv7, hr⟩ := bnd_s hr
  refine G.callV (32) [] [] (k_X5_lowestFree E _ N B gr C D A hz h hD hA v7 hv7) cls_X5 (by omega) (h.q32) cw_X11_421 w_1767 w_1768 (Nat.le_of_ble_eq_true rfl) rfl (Nat.le_of_ble_eq_true rfl) (tbd tv_X11_open rfl) (fun v7w f7 q7 => ?_) (fun _ _ h => h.elim)
  obtain ⟨rfl, ha7, fa7⟩ := q7
  refine G.eqs [.int (v7)] rfl ?_
  refine G.go tv_X11_open 3 191 [(0, .ref (gAd E (0))), (1, .int (x1)), (3, .int (x3)), (4, .int (x4)), (5, .int (x5)), (6, .int (x6)), (7, .int (v7))] [.int ((-1 : Int32)), .int (v7)] rfl ?_
  refine G.cmp_ne 197 (tbd tv_X11_open rfl) (by decide) (fun c191 => ?_) (fun c191 => ?_)
  · replace hr := ite_f c191 hr
    refine G.go tv_X11_open 1 199 [(0, .ref (gAd E (0))), (1, .int (x1)), (3, .int (x3)), (4, .int (x4)), (5, .int (x5)), (6, .int (x6)), (7, .int (v7))] [.int (x5)] rfl ?_
    refine G.if_eq 246 (tbd tv_X11_open rfl) (by decide) (fun c199 => ?_) (fun c199 => ?_)
    · replace hr := ite_t c199 hr
      refine G.go tv_X11_open 1 247 [(0, .ref (gAd E (0))), (1, .int (x1)), (3, .int (x3)), (4, .int (x4)), (5, .int (x5)), (6, .int (x6)), (7, .int (v7))] [.int (x3)] rfl ?_
      refine G.if_eq 260 (tbd tv_X11_open rfl) (by decide) (fun c247 => ?_) (fun c247 => ?_)
      · replace hr := ite_t c247 hr
        refine G.less [(0, .ref (gAd E (0))), (1, .int (x1)), (4, .int (x4)), (7, .int (v7))] [0, 1, 3, 6] rfl ?_
        exact l_X11_open_260 E f0 sz QA N B gr C0 hz _ _ _ _ _ _ hr _ _ ha7 hD hA (hf.tr fa7 (fun _ h => h))
      · replace hr := ite_f c247 hr
        refine G.go tv_X11_open 1 251 [(0, .ref (gAd E (0))), (1, .int (x1)), (3, .int (x3)), (4, .int (x4)), (5, .int (x5)), (6, .int (x6)), (7, .int (v7))] [.ref (gAd E (0))] rfl ?_
        refine G.getf cls_X11 (0) 8 (by omega) (ha7.q0) (by decide) rfl (tbd tv_X11_open rfl) w_571 ?_
        refine G.go tv_X11_open 2 257 [(0, .ref (gAd E (0))), (1, .int (x1)), (3, .int (x3)), (4, .int (x4)), (5, .int (x5)), (6, .int (x6)), (7, .int (v7))] [.int ((0 : Int32)), .int (x4), .ref (gAd E (37))] rfl ?_
        obtain ⟨A8, D8, hv8, hr⟩ := bnd2_s hr
        refine G.callV (37) [.int (x4), .int ((0 : Int32))] [] (k_X7_resize E _ N B gr C D A hz ha7 hD hA x4 ((0 : Int32)) A8 D8 hv8) cls_X7 (by omega) (ha7.q37) cw_X11_365 w_1636 w_1637 (Nat.le_of_ble_eq_true rfl) rfl (Nat.le_of_ble_eq_true rfl) (tbd tv_X11_open rfl) (fun v8w f8 q8 => ?_) (fun _ _ h => h.elim)
        obtain ⟨rfl, C8, ha8, hD8, hA8, fa8⟩ := q8
        refine G.eqs [] rfl ?_
        refine G.less [(0, .ref (gAd E (0))), (1, .int (x1)), (4, .int (x4)), (7, .int (v7))] [0, 1, 3, 6] rfl ?_
        exact l_X11_open_260 E f0 sz QA N B gr C0 hz _ _ _ _ _ _ hr _ _ ha8 hD8 hA8 ((hf.tr fa7 (fun _ h => h)).tr fa8 (fun _ h => h))
    · replace hr := ite_f c199 hr
      refine G.go tv_X11_open 2 205 [(0, .ref (gAd E (0))), (1, .int (x1)), (3, .int (x3)), (4, .int (x4)), (5, .int (x5)), (6, .int (x6)), (7, .int (v7))] [.int (x6), .ref (gAd E (0))] rfl ?_
      obtain ⟨v9, hv9, hr⟩ := bnd_s hr
      refine G.callV (0) [.int (x6)] [] (k_X11_faultOfNew E _ N B gr C D A hz ha7 hD hA x6 v9 hv9) cls_X11 (by omega) (ha7.q0) cw_X11_286 w_1390 w_32 (Nat.le_of_ble_eq_true rfl) rfl (Nat.le_of_ble_eq_true rfl) (tbd tv_X11_open rfl) (fun v9w f9 q9 => ?_) (fun _ _ h => h.elim)
      obtain ⟨rfl, ha9, fa9⟩ := q9
      refine G.eqs [.int (v9)] rfl ?_
      refine G.go tv_X11_open 2 212 [(0, .ref (gAd E (0))), (1, .int (x1)), (3, .int (x3)), (4, .int (x4)), (5, .int (x5)), (6, .int (x6)), (7, .int (v7)), (8, .int (v9))] [.int (v9)] rfl ?_
      refine G.if_ge 218 (tbd tv_X11_open rfl) (by decide) (fun c212 => ?_) (fun c212 => ?_)
      · replace hr := ite_t c212 hr
        refine G.go tv_X11_open 1 219 [(0, .ref (gAd E (0))), (1, .int (x1)), (3, .int (x3)), (4, .int (x4)), (5, .int (x5)), (6, .int (x6)), (7, .int (v7)), (8, .int (v9))] [.ref (gAd E (0))] rfl ?_
        refine G.getf cls_X11 (0) 8 (by omega) (ha9.q0) (by decide) rfl (tbd tv_X11_open rfl) w_571 ?_
        refine G.go tv_X11_open 1 223 [(0, .ref (gAd E (0))), (1, .int (x1)), (3, .int (x3)), (4, .int (x4)), (5, .int (x5)), (6, .int (x6)), (7, .int (v7)), (8, .int (v9))] [.int ((1 : Int32)), .ref (gAd E (37))] rfl ?_
        obtain ⟨v10, A10, D10, hv10, hr⟩ := bnd3_s hr
        refine G.callV (37) [.int ((1 : Int32))] [] (k_X7_create E _ N B gr C D A hz ha9 hD hA ((1 : Int32)) v10 A10 D10 hv10) cls_X7 (by omega) (ha9.q37) cw_X11_289 w_1427 w_1428 (Nat.le_of_ble_eq_true rfl) rfl (Nat.le_of_ble_eq_true rfl) (tbd tv_X11_open rfl) (fun v10w f10 q10 => ?_) (fun _ _ h => h.elim)
        obtain ⟨rfl, C10, ha10, hD10, hA10, fa10⟩ := q10
        refine G.eqs [.int (v10)] rfl ?_
        refine G.go tv_X11_open 2 229 [(0, .ref (gAd E (0))), (1, .int (x1)), (3, .int (x3)), (4, .int (v10)), (5, .int (x5)), (6, .int (x6)), (7, .int (v7)), (8, .int (v9))] [.ref (gAd E (0))] rfl ?_
        refine G.getf cls_X11 (0) 10 (by omega) (ha10.q0) (by decide) rfl (tbd tv_X11_open rfl) w_573 ?_
        refine G.go tv_X11_open 2 235 [(0, .ref (gAd E (0))), (1, .int (x1)), (3, .int (x3)), (4, .int (v10)), (5, .int (x5)), (6, .int (x6)), (7, .int (v7)), (8, .int (v9))] [.ref (gAd E (0)), .int (x6), .ref (gAd E (40))] rfl ?_
        refine G.getf cls_X11 (0) 13 (by omega) (ha10.q0) (by decide) rfl (tbd tv_X11_open rfl) w_576 ?_
        refine G.go tv_X11_open 1 240 [(0, .ref (gAd E (0))), (1, .int (x1)), (3, .int (x3)), (4, .int (v10)), (5, .int (x5)), (6, .int (x6)), (7, .int (v7)), (8, .int (v9))] [.int (v10), .ref (gAd E (47)), .int (x6), .ref (gAd E (40))] rfl ?_
        rcases bndF_s hr with ⟨v11, A11, D11, hv11, hr⟩ | ⟨ex11, A11, D11, hv11, rfl⟩
        rotate_left
        · skip
          refine G.callV (40) [.int (x6), .ref (gAd E (47)), .int (v10)] [] (k_X4_addName_47 E _ N B gr C10 D10 A10 hz ha10 hD10 hA10 x6 v10 _ hv11) cls_X4 (by omega) (ha10.q40) cw_X11_292 w_1436 w_1437 (Nat.le_of_ble_eq_true rfl) rfl (Nat.le_of_ble_eq_true rfl) (tbd tv_X11_open rfl) (fun v11w f11 q11 => ?_) (fun X g q => FQ.fr q (((hf.tr fa7 (fun _ h => h)).tr fa9 (fun _ h => h)).tr fa10 (fun _ h => h)))
          exact q11.elim
        refine G.callV (40) [.int (x6), .ref (gAd E (47)), .int (v10)] [] (k_X4_addName_47 E _ N B gr C10 D10 A10 hz ha10 hD10 hA10 x6 v10 _ hv11) cls_X4 (by omega) (ha10.q40) cw_X11_292 w_1436 w_1437 (Nat.le_of_ble_eq_true rfl) rfl (Nat.le_of_ble_eq_true rfl) (tbd tv_X11_open rfl) (fun v11w f11 q11 => ?_) (fun _ _ h => h.elim)
        obtain ⟨rfl, C11, ha11, hD11, hA11, fa11⟩ := q11
        refine G.eqs [] rfl ?_
        refine G.go tv_X11_open 1 260 [(0, .ref (gAd E (0))), (1, .int (x1)), (3, .int (x3)), (4, .int (v10)), (5, .int (x5)), (6, .int (x6)), (7, .int (v7)), (8, .int (v9))] [] rfl ?_
        refine G.less [(0, .ref (gAd E (0))), (1, .int (x1)), (4, .int (v10)), (7, .int (v7))] [0, 1, 3, 6] rfl ?_
        exact l_X11_open_260 E f0 sz QA N B gr C0 hz _ _ _ _ _ _ hr _ _ ha11 hD11 hA11 ((((hf.tr fa7 (fun _ h => h)).tr fa9 (fun _ h => h)).tr fa10 (fun _ h => h)).tr fa11 (fun _ h => h))
      · replace hr := ite_f c212 hr
        refine G.go tv_X11_open 1 217 [(0, .ref (gAd E (0))), (1, .int (x1)), (3, .int (x3)), (4, .int (x4)), (5, .int (x5)), (6, .int (x6)), (7, .int (v7)), (8, .int (v9))] [.int (v9)] rfl ?_
        cases hr
        exact G.iret rfl rfl (FQ.ok rfl ⟨C, ha9, hD, hA, ((hf.tr fa7 (fun _ h => h)).tr fa9 (fun _ h => h))⟩) (tbd tv_X11_open rfl)
  · replace hr := ite_t c191 hr
    refine G.go tv_X11_open 1 196 [(0, .ref (gAd E (0))), (1, .int (x1)), (3, .int (x3)), (4, .int (x4)), (5, .int (x5)), (6, .int (x6)), (7, .int (v7))] [.int ((-9 : Int32))] rfl ?_
    cases hr
    exact G.iret rfl rfl (FQ.ok rfl ⟨C, ha7, hD, hA, (hf.tr fa7 (fun _ h => h))⟩) (tbd tv_X11_open rfl)
set_option maxRecDepth 100000 in
set_option maxHeartbeats 4000000 in
theorem l_X11_open_150 (E : gE) (f0 : Nat → va_E) (sz : Nat) (QA : Nat → Prop) (N B gr : Nat) (C0 : CfT) (hz : CfZ E N B gr) : ∀ (A : MS) (D : CfT) (x1 : Int32) (x3 : Int32) (x4 : Int32) (x5 : Int32) (x6 : Int32) (r : FR Int32) (hr : d_X11_open_150 N B gr A D x1 x3 x4 x5 x6 = some r) (f : Nat → va_E) (C : CfT) (h : CfV E f N B gr C) (hD : Dq D C) (hA : AR N B gr A C) (hf : Fr CfK f0 f), G E (13, yX11_open, 9, (some .int), sz, QA) cX11_open (gO E (13, yX11_open, 9, (some .int), sz, QA) (FQ E N B gr f0 (fun r => some (.int r)) r)) 150 [(0, .ref (gAd E (0))), (1, .int (x1)), (3, .int (x3)), (4, .int (x4)), (5, .int (x5)), (6, .int (x6))] [] f := by
  obtain ⟨z1, z2, z3, z4, z5, z6, z7⟩ := id hz
  intro A D x1 x3 x4 x5 x6 r hr f C h hD hA hf
  unfold d_X11_open_150 at hr
  refine G.go tv_X11_open 1 152 [(0, .ref (gAd E (0))), (1, .int (x1)), (3, .int (x3)), (4, .int (x4)), (5, .int (x5)), (6, .int (x6))] [.int (x6)] rfl ?_
  refine G.if_ge 158 (tbd tv_X11_open rfl) (by decide) (fun c152 => ?_) (fun c152 => ?_)
  · replace hr := ite_t c152 hr
    refine G.go tv_X11_open 1 160 [(0, .ref (gAd E (0))), (1, .int (x1)), (3, .int (x3)), (4, .int (x4)), (5, .int (x5)), (6, .int (x6))] [.int (x5)] rfl ?_
    refine G.if_ne 179 (tbd tv_X11_open rfl) (by decide) (fun c160 => ?_) (fun c160 => ?_)
    · replace hr := ite_f c160 hr
      refine G.less [(0, .ref (gAd E (0))), (1, .int (x1)), (3, .int (x3)), (4, .int (x4)), (5, .int (x5)), (6, .int (x6))] [0, 1, 2, 3, 4, 5] rfl ?_
      exact l_X11_open_179 E f0 sz QA N B gr C0 hz _ _ _ _ _ _ _ _ hr _ _ h hD hA hf
    · replace hr := ite_t c160 hr
      refine G.go tv_X11_open 1 164 [(0, .ref (gAd E (0))), (1, .int (x1)), (3, .int (x3)), (4, .int (x4)), (5, .int (x5)), (6, .int (x6))] [.ref (gAd E (0))] rfl ?_
      refine G.getf cls_X11 (0) 8 (by omega) (h.q0) (by decide) rfl (tbd tv_X11_open rfl) w_571 ?_
      refine G.go tv_X11_open 1 169 [(0, .ref (gAd E (0))), (1, .int (x1)), (3, .int (x3)), (4, .int (x4)), (5, .int (x5)), (6, .int (x6))] [.int (x4), .ref (gAd E (37))] rfl ?_
      obtain ⟨v6, hv6, hr⟩ := bnd_s hr
      refine G.callV (37) [.int (x4)] [] (k_X7_kind E _ N B gr C D A hz h hD hA x4 v6 hv6) cls_X7 (by omega) (h.q37) cw_X11_250 w_903 w_904 (Nat.le_of_ble_eq_true rfl) rfl (Nat.le_of_ble_eq_true rfl) (tbd tv_X11_open rfl) (fun v6w f6 q6 => ?_) (fun _ _ h => h.elim)
      obtain ⟨rfl, ha6, fa6⟩ := q6
      refine G.eqs [.int (v6)] rfl ?_
      refine G.go tv_X11_open 1 173 [(0, .ref (gAd E (0))), (1, .int (x1)), (3, .int (x3)), (4, .int (x4)), (5, .int (x5)), (6, .int (x6))] [.int ((2 : Int32)), .int (v6)] rfl ?_
      refine G.cmp_ne 179 (tbd tv_X11_open rfl) (by decide) (fun c173 => ?_) (fun c173 => ?_)
      · replace hr := ite_f c173 hr
        refine G.less [(0, .ref (gAd E (0))), (1, .int (x1)), (3, .int (x3)), (4, .int (x4)), (5, .int (x5)), (6, .int (x6))] [0, 1, 2, 3, 4, 5] rfl ?_
        exact l_X11_open_179 E f0 sz QA N B gr C0 hz _ _ _ _ _ _ _ _ hr _ _ ha6 hD hA (hf.tr fa6 (fun _ h => h))
      · replace hr := ite_t c173 hr
        refine G.go tv_X11_open 1 178 [(0, .ref (gAd E (0))), (1, .int (x1)), (3, .int (x3)), (4, .int (x4)), (5, .int (x5)), (6, .int (x6))] [.int ((-4 : Int32))] rfl ?_
        cases hr
        exact G.iret rfl rfl (FQ.ok rfl ⟨C, ha6, hD, hA, (hf.tr fa6 (fun _ h => h))⟩) (tbd tv_X11_open rfl)
  · replace hr := ite_f c152 hr
    refine G.go tv_X11_open 1 157 [(0, .ref (gAd E (0))), (1, .int (x1)), (3, .int (x3)), (4, .int (x4)), (5, .int (x5)), (6, .int (x6))] [.int (x6)] rfl ?_
    cases hr
    exact G.iret rfl rfl (FQ.ok rfl ⟨C, h, hD, hA, hf⟩) (tbd tv_X11_open rfl)
set_option maxRecDepth 100000 in
set_option maxHeartbeats 4000000 in
theorem l_X11_open_118 (E : gE) (f0 : Nat → va_E) (sz : Nat) (QA : Nat → Prop) (N B gr : Nat) (C0 : CfT) (hz : CfZ E N B gr) : ∀ (A : MS) (D : CfT) (x1 : Int32) (x3 : Int32) (x4 : Int32) (x5 : Int32) (r : FR Int32) (hr : d_X11_open_118 N B gr A D x1 x3 x4 x5 = some r) (f : Nat → va_E) (C : CfT) (h : CfV E f N B gr C) (hD : Dq D C) (hA : AR N B gr A C) (hf : Fr CfK f0 f), G E (13, yX11_open, 9, (some .int), sz, QA) cX11_open (gO E (13, yX11_open, 9, (some .int), sz, QA) (FQ E N B gr f0 (fun r => some (.int r)) r)) 118 [(0, .ref (gAd E (0))), (1, .int (x1)), (3, .int (x3)), (4, .int (x4)), (5, .int (x5))] [] f := by
  obtain ⟨z1, z2, z3, z4, z5, z6, z7⟩ := id hz
  intro A D x1 x3 x4 x5 r hr f C h hD hA hf
  unfold d_X11_open_118 at hr
  refine G.go tv_X11_open 1 120 [(0, .ref (gAd E (0))), (1, .int (x1)), (3, .int (x3)), (4, .int (x4)), (5, .int (x5))] [.int (x5)] rfl ?_
  refine G.if_eq 146 (tbd tv_X11_open rfl) (by decide) (fun c120 => ?_) (fun c120 => ?_)
  · replace hr := ite_t c120 hr
    refine G.go tv_X11_open 2 150 [(0, .ref (gAd E (0))), (1, .int (x1)), (3, .int (x3)), (4, .int (x4)), (5, .int (x5)), (6, .int (x4))] [] rfl ?_
    refine G.less [(0, .ref (gAd E (0))), (1, .int (x1)), (3, .int (x3)), (4, .int (x4)), (5, .int (x5)), (6, .int (x4))] [0, 1, 2, 3, 4, 5] rfl ?_
    exact l_X11_open_150 E f0 sz QA N B gr C0 hz _ _ _ _ _ _ _ _ hr _ _ h hD hA hf
  · replace hr := ite_f c120 hr
    refine G.go tv_X11_open 1 124 [(0, .ref (gAd E (0))), (1, .int (x1)), (3, .int (x3)), (4, .int (x4)), (5, .int (x5))] [.ref (gAd E (0))] rfl ?_
    refine G.getf cls_X11 (0) 10 (by omega) (h.q0) (by decide) rfl (tbd tv_X11_open rfl) w_573 ?_
    refine G.go tv_X11_open 1 128 [(0, .ref (gAd E (0))), (1, .int (x1)), (3, .int (x3)), (4, .int (x4)), (5, .int (x5))] [.ref (gAd E (0)), .ref (gAd E (40))] rfl ?_
    refine G.getf cls_X11 (0) 13 (by omega) (h.q0) (by decide) rfl (tbd tv_X11_open rfl) w_576 ?_
    refine G.go tv_X11_open 1 132 [(0, .ref (gAd E (0))), (1, .int (x1)), (3, .int (x3)), (4, .int (x4)), (5, .int (x5))] [.ref (gAd E (0)), .ref (gAd E (47)), .ref (gAd E (40))] rfl ?_
    refine G.getf cls_X11 (0) 13 (by omega) (h.q0) (by decide) rfl (tbd tv_X11_open rfl) w_576 ?_
    refine G.getf cls_X8 (47) 2 (by omega) (h.q47) (by decide) rfl (tbd tv_X11_open rfl) w_198 ?_
    refine G.eq1 (b := cS D 4702) (hD.1 4702 (by decide)) ?_
    refine G.go tv_X11_open 2 140 [(0, .ref (gAd E (0))), (1, .int (x1)), (3, .int (x3)), (4, .int (x4)), (5, .int (x5))] [.int ((cS D 4702) - ((1 : Int32))), .ref (gAd E (47)), .ref (gAd E (40))] rfl ?_
    obtain ⟨v5, hv5, hr⟩ := bnd_s hr
    refine G.callV (40) [.ref (gAd E (47)), .int ((cS D 4702) - ((1 : Int32)))] [] (k_X4_walk_47 E _ N B gr C D A hz h hD hA ((cS D 4702) - ((1 : Int32))) v5 hv5) cls_X4 (by omega) (h.q40) cw_X11_278 w_1356 w_1357 (Nat.le_of_ble_eq_true rfl) rfl (Nat.le_of_ble_eq_true rfl) (tbd tv_X11_open rfl) (fun v5w f5 q5 => ?_) (fun _ _ h => h.elim)
    obtain ⟨rfl, ha5, fa5⟩ := q5
    refine G.eqs [.int (v5)] rfl ?_
    refine G.go tv_X11_open 2 150 [(0, .ref (gAd E (0))), (1, .int (x1)), (3, .int (x3)), (4, .int (x4)), (5, .int (x5)), (6, .int (v5))] [] rfl ?_
    refine G.less [(0, .ref (gAd E (0))), (1, .int (x1)), (3, .int (x3)), (4, .int (x4)), (5, .int (x5)), (6, .int (v5))] [0, 1, 2, 3, 4, 5] rfl ?_
    exact l_X11_open_150 E f0 sz QA N B gr C0 hz _ _ _ _ _ _ _ _ hr _ _ ha5 hD hA (hf.tr fa5 (fun _ h => h))
set_option maxRecDepth 100000 in
set_option maxHeartbeats 4000000 in
theorem l_X11_open_115 (E : gE) (f0 : Nat → va_E) (sz : Nat) (QA : Nat → Prop) (N B gr : Nat) (C0 : CfT) (hz : CfZ E N B gr) : ∀ (A : MS) (D : CfT) (x1 : Int32) (x3 : Int32) (x4 : Int32) (r : FR Int32) (hr : d_X11_open_115 N B gr A D x1 x3 x4 = some r) (f : Nat → va_E) (C : CfT) (h : CfV E f N B gr C) (hD : Dq D C) (hA : AR N B gr A C) (hf : Fr CfK f0 f), G E (13, yX11_open, 9, (some .int), sz, QA) cX11_open (gO E (13, yX11_open, 9, (some .int), sz, QA) (FQ E N B gr f0 (fun r => some (.int r)) r)) 115 [(0, .ref (gAd E (0))), (1, .int (x1)), (3, .int (x3)), (4, .int (x4))] [] f := by
  obtain ⟨z1, z2, z3, z4, z5, z6, z7⟩ := id hz
  intro A D x1 x3 x4 r hr f C h hD hA hf
  unfold d_X11_open_115 at hr
  refine G.go tv_X11_open 2 118 [(0, .ref (gAd E (0))), (1, .int (x1)), (3, .int (x3)), (4, .int (x4)), (5, .int ((0 : Int32)))] [] rfl ?_
  refine G.less [(0, .ref (gAd E (0))), (1, .int (x1)), (3, .int (x3)), (4, .int (x4)), (5, .int ((0 : Int32)))] [0, 1, 2, 3, 4] rfl ?_
  exact l_X11_open_118 E f0 sz QA N B gr C0 hz _ _ _ _ _ _ _ hr _ _ h hD hA hf
set_option maxRecDepth 100000 in
set_option maxHeartbeats 4000000 in
theorem l_X11_open_60 (E : gE) (f0 : Nat → va_E) (sz : Nat) (QA : Nat → Prop) (N B gr : Nat) (C0 : CfT) (hz : CfZ E N B gr) : ∀ (A : MS) (D : CfT) (x1 : Int32) (x2 : Int32) (x3 : Int32) (r : FR Int32) (hr : d_X11_open_60 N B gr A D x1 x2 x3 = some r) (f : Nat → va_E) (C : CfT) (h : CfV E f N B gr C) (hD : Dq D C) (hA : AR N B gr A C) (hf : Fr CfK f0 f), G E (13, yX11_open, 9, (some .int), sz, QA) cX11_open (gO E (13, yX11_open, 9, (some .int), sz, QA) (FQ E N B gr f0 (fun r => some (.int r)) r)) 60 [(0, .ref (gAd E (0))), (1, .int (x1)), (2, .int (x2)), (3, .int (x3))] [] f := by
  obtain ⟨z1, z2, z3, z4, z5, z6, z7⟩ := id hz
  intro A D x1 x2 x3 r hr f C h hD hA hf
  unfold d_X11_open_60 at hr
  refine G.go tv_X11_open 1 61 [(0, .ref (gAd E (0))), (1, .int (x1)), (2, .int (x2)), (3, .int (x3))] [.ref (gAd E (0))] rfl ?_
  refine G.getf cls_X11 (0) 13 (by omega) (h.q0) (by decide) rfl (tbd tv_X11_open rfl) w_576 ?_
  refine G.go tv_X11_open 1 65 [(0, .ref (gAd E (0))), (1, .int (x1)), (2, .int (x2)), (3, .int (x3))] [.ref (gAd E (0)), .ref (gAd E (47))] rfl ?_
  refine G.getf cls_X11 (0) 0 (by omega) (h.q0) (by decide) rfl (tbd tv_X11_open rfl) w_563 ?_
  refine G.go tv_X11_open 2 70 [(0, .ref (gAd E (0))), (1, .int (x1)), (2, .int (x2)), (3, .int (x3))] [.int (x2), .int ((0 : Int32)), .ref (gAd E (1)), .ref (gAd E (47))] rfl ?_
  obtain ⟨v3, D3, hv3, hr⟩ := bnd2_s hr
  refine G.callV (47) [.ref (gAd E (1)), .int ((0 : Int32)), .int (x2)] [] (k_X8_parse_47 E _ N B gr C D A hz h hD hA ((0 : Int32)) x2 v3 D3 hv3) cls_X8 (by omega) (h.q47) cw_X11_259 w_1346 w_1347 (Nat.le_of_ble_eq_true rfl) rfl (Nat.le_of_ble_eq_true rfl) (tbd tv_X11_open rfl) (fun v3w f3 q3 => ?_) (fun _ _ h => h.elim)
  obtain ⟨rfl, C3, ha3, hD3, hA3, hR3, fa3⟩ := q3
  refine G.eqs [.int (v3)] rfl ?_
  refine G.if_ne 79 (tbd tv_X11_open rfl) (by decide) (fun c73 => ?_) (fun c73 => ?_)
  · replace hr := ite_f c73 hr
    refine G.go tv_X11_open 1 80 [(0, .ref (gAd E (0))), (1, .int (x1)), (2, .int (x2)), (3, .int (x3))] [.ref (gAd E (0))] rfl ?_
    refine G.getf cls_X11 (0) 10 (by omega) (ha3.q0) (by decide) rfl (tbd tv_X11_open rfl) w_573 ?_
    refine G.go tv_X11_open 1 84 [(0, .ref (gAd E (0))), (1, .int (x1)), (2, .int (x2)), (3, .int (x3))] [.ref (gAd E (0)), .ref (gAd E (40))] rfl ?_
    refine G.getf cls_X11 (0) 13 (by omega) (ha3.q0) (by decide) rfl (tbd tv_X11_open rfl) w_576 ?_
    refine G.go tv_X11_open 1 88 [(0, .ref (gAd E (0))), (1, .int (x1)), (2, .int (x2)), (3, .int (x3))] [.ref (gAd E (0)), .ref (gAd E (47)), .ref (gAd E (40))] rfl ?_
    refine G.getf cls_X11 (0) 13 (by omega) (ha3.q0) (by decide) rfl (tbd tv_X11_open rfl) w_576 ?_
    refine G.getf cls_X8 (47) 2 (by omega) (ha3.q47) (by decide) rfl (tbd tv_X11_open rfl) w_198 ?_
    refine G.eq1 (b := cS D3 4702) (hD3.1 4702 (by decide)) ?_
    obtain ⟨v4, hv4, hr⟩ := bnd_s hr
    refine G.callV (40) [.ref (gAd E (47)), .int (cS D3 4702)] [] (k_X4_walk_47 E _ N B gr C3 D3 A hz ha3 hD3 hA3 (cS D3 4702) v4 hv4) cls_X4 (by omega) (ha3.q40) cw_X11_278 w_1356 w_1357 (Nat.le_of_ble_eq_true rfl) rfl (Nat.le_of_ble_eq_true rfl) (tbd tv_X11_open rfl) (fun v4w f4 q4 => ?_) (fun _ _ h => h.elim)
    obtain ⟨rfl, ha4, fa4⟩ := q4
    refine G.eqs [.int (v4)] rfl ?_
    refine G.go tv_X11_open 3 102 [(0, .ref (gAd E (0))), (1, .int (x1)), (2, .int (x2)), (3, .int (x3)), (4, .int (v4))] [.int ((-1 : Int32)), .int (v4)] rfl ?_
    refine G.cmp_ne 115 (tbd tv_X11_open rfl) (by decide) (fun c102 => ?_) (fun c102 => ?_)
    · replace hr := ite_f c102 hr
      refine G.less [(0, .ref (gAd E (0))), (1, .int (x1)), (3, .int (x3)), (4, .int (v4))] [0, 1, 3, 4] rfl ?_
      exact l_X11_open_115 E f0 sz QA N B gr C0 hz _ _ _ _ _ _ hr _ _ ha4 hD3 hA3 ((hf.tr fa3 (fun _ h => h)).tr fa4 (fun _ h => h))
    · replace hr := ite_t c102 hr
      refine G.go tv_X11_open 3 108 [(0, .ref (gAd E (0))), (1, .int (x1)), (2, .int (x2)), (3, .int (x3)), (4, .int (v4))] [.int ((x1) &&& ((4 : Int32)))] rfl ?_
      refine G.if_eq 115 (tbd tv_X11_open rfl) (by decide) (fun c108 => ?_) (fun c108 => ?_)
      · replace hr := ite_t c108 hr
        refine G.less [(0, .ref (gAd E (0))), (1, .int (x1)), (3, .int (x3)), (4, .int (v4))] [0, 1, 3, 4] rfl ?_
        exact l_X11_open_115 E f0 sz QA N B gr C0 hz _ _ _ _ _ _ hr _ _ ha4 hD3 hA3 ((hf.tr fa3 (fun _ h => h)).tr fa4 (fun _ h => h))
      · replace hr := ite_f c108 hr
        refine G.go tv_X11_open 3 118 [(0, .ref (gAd E (0))), (1, .int (x1)), (2, .int (x2)), (3, .int (x3)), (4, .int (v4)), (5, .int ((1 : Int32)))] [] rfl ?_
        refine G.less [(0, .ref (gAd E (0))), (1, .int (x1)), (3, .int (x3)), (4, .int (v4)), (5, .int ((1 : Int32)))] [0, 1, 3, 4, 5] rfl ?_
        exact l_X11_open_118 E f0 sz QA N B gr C0 hz _ _ _ _ _ _ _ hr _ _ ha4 hD3 hA3 ((hf.tr fa3 (fun _ h => h)).tr fa4 (fun _ h => h))
  · replace hr := ite_t c73 hr
    refine G.go tv_X11_open 1 78 [(0, .ref (gAd E (0))), (1, .int (x1)), (2, .int (x2)), (3, .int (x3))] [.int ((-6 : Int32))] rfl ?_
    cases hr
    exact G.iret rfl rfl (FQ.ok rfl ⟨C3, ha3, hD3, hA3, (hf.tr fa3 (fun _ h => h))⟩) (tbd tv_X11_open rfl)
set_option maxRecDepth 100000 in
set_option maxHeartbeats 4000000 in
theorem l_X11_open_49 (E : gE) (f0 : Nat → va_E) (sz : Nat) (QA : Nat → Prop) (N B gr : Nat) (C0 : CfT) (hz : CfZ E N B gr) : ∀ (A : MS) (D : CfT) (r : FR Int32) (hr : d_X11_open_49 N B gr A D = some r) (f : Nat → va_E) (C : CfT) (h : CfV E f N B gr C) (hD : Dq D C) (hA : AR N B gr A C) (hf : Fr CfK f0 f), G E (13, yX11_open, 9, (some .int), sz, QA) cX11_open (gO E (13, yX11_open, 9, (some .int), sz, QA) (FQ E N B gr f0 (fun r => some (.int r)) r)) 49 [] [] f := by
  obtain ⟨z1, z2, z3, z4, z5, z6, z7⟩ := id hz
  intro A D r hr f C h hD hA hf
  unfold d_X11_open_49 at hr
  cases hr
  exact G.thrW (cls := "java/lang/IllegalArgumentException") (text := "no such way") (names := ["java/lang/RuntimeException", "java/lang/Exception"]) (by decide +kernel) (by decide +kernel) w_828 w_168 (own := "LedgerFiles") rfl (by decide +kernel) (by decide +kernel) at_X11_205 (tbd tv_X11_open rfl) (tbd tv_X11_open rfl) (tbd tv_X11_open rfl) (tbd tv_X11_open rfl) (tbd tv_X11_open rfl) (Nat.le_of_ble_eq_true rfl) (Nat.le_of_ble_eq_true rfl) (FQ.th (e := 1) rfl ⟨C, h, hD, hA, hf⟩)
set_option maxRecDepth 100000 in
set_option maxHeartbeats 4000000 in
theorem l_X11_open_22 (E : gE) (f0 : Nat → va_E) (sz : Nat) (QA : Nat → Prop) (N B gr : Nat) (C0 : CfT) (hz : CfZ E N B gr) : ∀ (A : MS) (D : CfT) (x1 : Int32) (x2 : Int32) (x3 : Int32) (r : FR Int32) (hr : d_X11_open_22 N B gr A D x1 x2 x3 = some r) (f : Nat → va_E) (C : CfT) (h : CfV E f N B gr C) (hD : Dq D C) (hA : AR N B gr A C) (hf : Fr CfK f0 f), G E (13, yX11_open, 9, (some .int), sz, QA) cX11_open (gO E (13, yX11_open, 9, (some .int), sz, QA) (FQ E N B gr f0 (fun r => some (.int r)) r)) 22 [(0, .ref (gAd E (0))), (1, .int (x1)), (2, .int (x2)), (3, .int (x3))] [] f := by
  obtain ⟨z1, z2, z3, z4, z5, z6, z7⟩ := id hz
  intro A D x1 x2 x3 r hr f C h hD hA hf
  unfold d_X11_open_22 at hr
  refine G.go tv_X11_open 1 23 [(0, .ref (gAd E (0))), (1, .int (x1)), (2, .int (x2)), (3, .int (x3))] [.int (x1)] rfl ?_
  refine G.if_lt 49 (tbd tv_X11_open rfl) (by decide) (fun c23 => ?_) (fun c23 => ?_)
  · replace hr := ite_t c23 hr
    refine G.less [] [] rfl ?_
    exact l_X11_open_49 E f0 sz QA N B gr C0 hz _ _ _ hr _ _ h hD hA hf
  · replace hr := ite_f c23 hr
    refine G.go tv_X11_open 2 29 [(0, .ref (gAd E (0))), (1, .int (x1)), (2, .int (x2)), (3, .int (x3))] [.int ((15 : Int32)), .int (x1)] rfl ?_
    refine G.cmp_gt 49 (tbd tv_X11_open rfl) (by decide) (fun c29 => ?_) (fun c29 => ?_)
    · replace hr := ite_t c29 hr
      refine G.less [] [] rfl ?_
      exact l_X11_open_49 E f0 sz QA N B gr C0 hz _ _ _ hr _ _ h hD hA hf
    · replace hr := ite_f c29 hr
      refine G.go tv_X11_open 4 36 [(0, .ref (gAd E (0))), (1, .int (x1)), (2, .int (x2)), (3, .int (x3))] [.int ((3 : Int32)), .int ((x1) &&& ((3 : Int32)))] rfl ?_
      refine G.cmp_eq 49 (tbd tv_X11_open rfl) (by decide) (fun c36 => ?_) (fun c36 => ?_)
      · replace hr := ite_t c36 hr
        refine G.less [] [] rfl ?_
        exact l_X11_open_49 E f0 sz QA N B gr C0 hz _ _ _ hr _ _ h hD hA hf
      · replace hr := ite_f c36 hr
        refine G.go tv_X11_open 1 40 [(0, .ref (gAd E (0))), (1, .int (x1)), (2, .int (x2)), (3, .int (x3))] [.int (x3)] rfl ?_
        refine G.if_eq 60 (tbd tv_X11_open rfl) (by decide) (fun c40 => ?_) (fun c40 => ?_)
        · replace hr := ite_t c40 hr
          refine G.less [(0, .ref (gAd E (0))), (1, .int (x1)), (2, .int (x2)), (3, .int (x3))] [0, 1, 2, 3] rfl ?_
          exact l_X11_open_60 E f0 sz QA N B gr C0 hz _ _ _ _ _ _ hr _ _ h hD hA hf
        · replace hr := ite_f c40 hr
          refine G.go tv_X11_open 3 46 [(0, .ref (gAd E (0))), (1, .int (x1)), (2, .int (x2)), (3, .int (x3))] [.int ((x1) &&& ((3 : Int32)))] rfl ?_
          refine G.if_ne 60 (tbd tv_X11_open rfl) (by decide) (fun c46 => ?_) (fun c46 => ?_)
          · replace hr := ite_f c46 hr
            refine G.less [(0, .ref (gAd E (0))), (1, .int (x1)), (2, .int (x2)), (3, .int (x3))] [0, 1, 2, 3] rfl ?_
            exact l_X11_open_60 E f0 sz QA N B gr C0 hz _ _ _ _ _ _ hr _ _ h hD hA hf
          · replace hr := ite_t c46 hr
            refine G.less [] [] rfl ?_
            exact l_X11_open_49 E f0 sz QA N B gr C0 hz _ _ _ hr _ _ h hD hA hf
set_option maxRecDepth 100000 in
set_option maxHeartbeats 4000000 in
theorem k_X11_open (E : gE) (f : Nat → va_E) (N B gr : Nat) (C D : CfT) (A : MS) (hz : CfZ E N B gr) (h : CfV E f N B gr C) (hD : Dq D C) (hA : AR N B gr A C) (a0 : Int32) (r : FR Int32) (hr : d_X11_open N B gr A D a0 = some r) : Ct E 13 yX11_open cX11_open 9 (some .int) [.ref (gAd E (0)), .int (a0)] f (FQ E N B gr f (fun r => some (.int r)) r) := by
  obtain ⟨z1, z2, z3, z4, z5, z6, z7⟩ := id hz
  refine Ct.of (by decide) (Nat.le_of_ble_eq_true rfl) (fun sz => ?_)
  refine G.eql [(0, .ref (gAd E (0))), (1, .int (a0))] rfl ?_
  unfold d_X11_open at hr
  refine G.go tv_X11_open 1 1 [(0, .ref (gAd E (0))), (1, .int (a0))] [.ref (gAd E (0))] rfl ?_
  obtain ⟨v1, D1, hv1, hr⟩ := bnd2_s hr
  refine G.callV (0) [] [] (k_X11_useTape E _ N B gr C D A hz h hD hA v1 D1 hv1) cls_X11 (by omega) (h.q0) cw_X11_272 w_1343 w_29 (Nat.le_of_ble_eq_true rfl) rfl (Nat.le_of_ble_eq_true rfl) (tbd tv_X11_open rfl) (fun v1w f1 q1 => ?_) (fun _ _ h => h.elim)
  obtain ⟨rfl, C1, ha1, hD1, hA1, hR1, fa1⟩ := q1
  refine G.eqs [.int (v1)] rfl ?_
  refine G.go tv_X11_open 2 6 [(0, .ref (gAd E (0))), (1, .int (a0)), (2, .int (v1))] [.ref (gAd E (0))] rfl ?_
  rcases bndF_s hr with ⟨v2, A2, D2, hv2, hr⟩ | ⟨ex2, A2, D2, hv2, rfl⟩
  rotate_left
  · skip
    refine G.callV (0) [] [] (k_X11_needMounted E _ N B gr C1 D1 A hz ha1 hD1 hA1 _ hv2) cls_X11 (by omega) (ha1.q0) cw_X11_221 w_1320 w_27 (Nat.le_of_ble_eq_true rfl) rfl (Nat.le_of_ble_eq_true rfl) (tbd tv_X11_open rfl) (fun v2w f2 q2 => ?_) (fun X g q => FQ.fr q (Fr.rf.tr fa1 (fun _ h => h)))
    exact q2.elim
  refine G.callV (0) [] [] (k_X11_needMounted E _ N B gr C1 D1 A hz ha1 hD1 hA1 _ hv2) cls_X11 (by omega) (ha1.q0) cw_X11_221 w_1320 w_27 (Nat.le_of_ble_eq_true rfl) rfl (Nat.le_of_ble_eq_true rfl) (tbd tv_X11_open rfl) (fun v2w f2 q2 => ?_) (fun _ _ h => h.elim)
  obtain ⟨rfl, C2, ha2, hD2, hA2, fa2⟩ := q2
  refine G.eqs [] rfl ?_
  refine G.go tv_X11_open 3 13 [(0, .ref (gAd E (0))), (1, .int (a0)), (2, .int (v1))] [.int ((a0) &&& ((8 : Int32)))] rfl ?_
  refine G.if_eq 20 (tbd tv_X11_open rfl) (by decide) (fun c13 => ?_) (fun c13 => ?_)
  · replace hr := ite_t c13 hr
    refine G.go tv_X11_open 2 22 [(0, .ref (gAd E (0))), (1, .int (a0)), (2, .int (v1)), (3, .int ((0 : Int32)))] [] rfl ?_
    refine G.less [(0, .ref (gAd E (0))), (1, .int (a0)), (2, .int (v1)), (3, .int ((0 : Int32)))] [0, 1, 2, 3] rfl ?_
    exact l_X11_open_22 E f sz _ N B gr C hz _ _ _ _ _ _ hr _ _ ha2 hD2 hA2 ((Fr.rf.tr fa1 (fun _ h => h)).tr fa2 (fun _ h => h))
  · replace hr := ite_f c13 hr
    refine G.go tv_X11_open 3 22 [(0, .ref (gAd E (0))), (1, .int (a0)), (2, .int (v1)), (3, .int ((1 : Int32)))] [] rfl ?_
    refine G.less [(0, .ref (gAd E (0))), (1, .int (a0)), (2, .int (v1)), (3, .int ((1 : Int32)))] [0, 1, 2, 3] rfl ?_
    exact l_X11_open_22 E f sz _ N B gr C hz _ _ _ _ _ _ hr _ _ ha2 hD2 hA2 ((Fr.rf.tr fa1 (fun _ h => h)).tr fa2 (fun _ h => h))
theorem w_1781 : Cond.methodLink "LedgerFiles" 425 yX5_isOpen ∈ TB := tp_7 195 (by decide +kernel) rfl
theorem w_1784 : Cond.code yX5_isOpen prog_7_method_3_code 2 (some .boolean) ∈ TB := tp_7 198 rfl rfl
theorem cw_X11_425 : Cw RX11 425 yX5_isOpen cX5_isOpen 2 (some .boolean) 1 := ⟨w_1781, w_1784, w_156, by decide +kernel, by decide +kernel, by decide⟩
theorem w_1782 : Cond.instanceMethod yX5_isOpen ∈ TB := tp_7 196 (by decide +kernel) rfl
theorem w_1783 : Cond.selects "LedgerFiles$Holders" yX5_isOpen yX5_isOpen ∈ TB := tp_7 197 (by decide +kernel) rfl
theorem w_458 : Cond.fieldLink "LedgerFiles" 428 "LedgerFiles$Holders" "inodes" "[I" ∈ TB := tp_2 72 (by decide +kernel) rfl
noncomputable def d_X11_close (N B gr : Nat) (A : MS) (D : CfT) (a0 : Int32) : Option (FR Int32) := bndF (d_X11_needMounted N B gr A D) (fun v14 A14 D14 => bnd (d_X5_isOpen N (vA A14) D14 a0) (fun v15 => if v15 = 0 then some (.inl ((-13 : Int32), A14, D14)) else ld (cA D14 34) 32 a0 (fun v16 => stA D14 34 32 a0 ((0 : Int32)) (fun D17 => bndF (d_X11_goIfForsaken N B gr A14 D17 v16) (fun v18 A18 D18 => some (.inl ((0 : Int32), A18, D18)))))))
set_option maxRecDepth 100000 in
set_option maxHeartbeats 4000000 in
theorem k_X11_close (E : gE) (f : Nat → va_E) (N B gr : Nat) (C D : CfT) (A : MS) (hz : CfZ E N B gr) (h : CfV E f N B gr C) (hD : Dq D C) (hA : AR N B gr A C) (a0 : Int32) (r : FR Int32) (hr : d_X11_close N B gr A D a0 = some r) : Ct E 13 yX11_close cX11_close 3 (some .int) [.ref (gAd E (0)), .int (a0)] f (FQ E N B gr f (fun r => some (.int r)) r) := by
  obtain ⟨z1, z2, z3, z4, z5, z6, z7⟩ := id hz
  refine Ct.of (by decide) (Nat.le_of_ble_eq_true rfl) (fun sz => ?_)
  refine G.eql [(0, .ref (gAd E (0))), (1, .int (a0))] rfl ?_
  unfold d_X11_close at hr
  refine G.go tv_X11_close 1 1 [(0, .ref (gAd E (0))), (1, .int (a0))] [.ref (gAd E (0))] rfl ?_
  rcases bndF_s hr with ⟨v14, A14, D14, hv14, hr⟩ | ⟨ex14, A14, D14, hv14, rfl⟩
  rotate_left
  · skip
    refine G.callV (0) [] [] (k_X11_needMounted E _ N B gr C D A hz h hD hA _ hv14) cls_X11 (by omega) (h.q0) cw_X11_221 w_1320 w_27 (Nat.le_of_ble_eq_true rfl) rfl (Nat.le_of_ble_eq_true rfl) (tbd tv_X11_close rfl) (fun v14w f14 q14 => ?_) (fun X g q => FQ.fr q Fr.rf)
    exact q14.elim
  refine G.callV (0) [] [] (k_X11_needMounted E _ N B gr C D A hz h hD hA _ hv14) cls_X11 (by omega) (h.q0) cw_X11_221 w_1320 w_27 (Nat.le_of_ble_eq_true rfl) rfl (Nat.le_of_ble_eq_true rfl) (tbd tv_X11_close rfl) (fun v14w f14 q14 => ?_) (fun _ _ h => h.elim)
  obtain ⟨rfl, C14, ha14, hD14, hA14, fa14⟩ := q14
  refine G.eqs [] rfl ?_
  refine G.go tv_X11_close 1 5 [(0, .ref (gAd E (0))), (1, .int (a0))] [.ref (gAd E (0))] rfl ?_
  refine G.getf cls_X11 (0) 9 (by omega) (ha14.q0) (by decide) rfl (tbd tv_X11_close rfl) w_572 ?_
  refine G.go tv_X11_close 1 9 [(0, .ref (gAd E (0))), (1, .int (a0))] [.int (a0), .ref (gAd E (32))] rfl ?_
  obtain ⟨v15, hv15, hr⟩ := bnd_s hr
  refine G.callV (32) [.int (a0)] [] (k_X5_isOpen E _ N B gr C14 D14 A14 hz ha14 hD14 hA14 a0 v15 hv15) cls_X5 (by omega) (ha14.q32) cw_X11_425 w_1782 w_1783 (Nat.le_of_ble_eq_true rfl) rfl (Nat.le_of_ble_eq_true rfl) (tbd tv_X11_close rfl) (fun v15w f15 q15 => ?_) (fun _ _ h => h.elim)
  obtain ⟨rfl, ha15, fa15⟩ := q15
  refine G.eqs [.int (v15)] rfl ?_
  refine G.if_ne 18 (tbd tv_X11_close rfl) (by decide) (fun c12 => ?_) (fun c12 => ?_)
  · replace hr := ite_f c12 hr
    refine G.go tv_X11_close 1 19 [(0, .ref (gAd E (0))), (1, .int (a0))] [.ref (gAd E (0))] rfl ?_
    refine G.getf cls_X11 (0) 9 (by omega) (ha15.q0) (by decide) rfl (tbd tv_X11_close rfl) w_572 ?_
    refine G.getf cls_X5 (32) 1 (by omega) (ha15.q32) (by decide) rfl (tbd tv_X11_close rfl) w_458 ?_
    refine G.go tv_X11_close 1 26 [(0, .ref (gAd E (0))), (1, .int (a0))] [.int (a0), .ref (gAd E (34))] rfl ?_
    obtain ⟨v16, b16, e16, hr⟩ := ld_s hr
    refine G.ialdE (34) (by omega) ((ha15.q34).trans (congrArg (oI (gDA E) (32)) (hD14.2 34 (by decide)))) b16 e16 (tbd tv_X11_close rfl) ?_
    refine G.go tv_X11_close 2 29 [(0, .ref (gAd E (0))), (1, .int (a0)), (2, .int (v16))] [.ref (gAd E (0))] rfl ?_
    refine G.getf cls_X11 (0) 9 (by omega) (ha15.q0) (by decide) rfl (tbd tv_X11_close rfl) w_572 ?_
    refine G.getf cls_X5 (32) 1 (by omega) (ha15.q32) (by decide) rfl (tbd tv_X11_close rfl) w_458 ?_
    refine G.go tv_X11_close 2 37 [(0, .ref (gAd E (0))), (1, .int (a0)), (2, .int (v16))] [.int ((0 : Int32)), .int (a0), .ref (gAd E (34))] rfl ?_
    obtain ⟨D17, b17, eD17, hr⟩ := stA_s hr
    refine G.iast (34) (by omega) (ha15.q34) b17 (tbd tv_X11_close rfl) ?_
    refine G.gen (P := SN E N B gr f A14 D17) ⟨sA C14 34 (upd (cA C14 34) a0.toNatClampNeg ((0 : Int32))), ha15.p34 _, (by rw [eD17]; exact hD14.au (by decide)), hA14.sm (Sd.a (by decide) : Sd C14 (sA C14 34 (upd (cA C14 34) a0.toNatClampNeg ((0 : Int32))))), Fr.c ((Fr.rf.tr fa14 (fun _ h => h)).tr fa15 (fun _ h => h)) (by first | exact Or.inl (by decide) | exact Or.inr (by omega))⟩ (fun u17 p17 => ?_)
    obtain ⟨C17, h17, hD17, hA17, k17⟩ := p17
    refine G.go tv_X11_close 2 40 [(0, .ref (gAd E (0))), (1, .int (a0)), (2, .int (v16))] [.int (v16), .ref (gAd E (0))] rfl ?_
    rcases bndF_s hr with ⟨v18, A18, D18, hv18, hr⟩ | ⟨ex18, A18, D18, hv18, rfl⟩
    rotate_left
    · skip
      refine G.callV (0) [.int (v16)] [] (k_X11_goIfForsaken E _ N B gr C17 D17 A14 hz h17 hD17 hA17 v16 _ hv18) cls_X11 (by omega) (h17.q0) cw_X11_387 w_1683 w_40 (Nat.le_of_ble_eq_true rfl) rfl (Nat.le_of_ble_eq_true rfl) (tbd tv_X11_close rfl) (fun v18w f18 q18 => ?_) (fun X g q => FQ.fr q k17)
      exact q18.elim
    refine G.callV (0) [.int (v16)] [] (k_X11_goIfForsaken E _ N B gr C17 D17 A14 hz h17 hD17 hA17 v16 _ hv18) cls_X11 (by omega) (h17.q0) cw_X11_387 w_1683 w_40 (Nat.le_of_ble_eq_true rfl) rfl (Nat.le_of_ble_eq_true rfl) (tbd tv_X11_close rfl) (fun v18w f18 q18 => ?_) (fun _ _ h => h.elim)
    obtain ⟨rfl, C18, ha18, hD18, hA18, fa18⟩ := q18
    refine G.eqs [] rfl ?_
    refine G.go tv_X11_close 1 44 [(0, .ref (gAd E (0))), (1, .int (a0)), (2, .int (v16))] [.int ((0 : Int32))] rfl ?_
    cases hr
    exact G.iret rfl rfl (FQ.ok rfl ⟨C18, ha18, hD18, hA18, (k17.tr fa18 (fun _ h => h))⟩) (tbd tv_X11_close rfl)
  · replace hr := ite_t c12 hr
    refine G.go tv_X11_close 1 17 [(0, .ref (gAd E (0))), (1, .int (a0))] [.int ((-13 : Int32))] rfl ?_
    cases hr
    exact G.iret rfl rfl (FQ.ok rfl ⟨C14, ha15, hD14, hA14, ((Fr.rf.tr fa14 (fun _ h => h)).tr fa15 (fun _ h => h))⟩) (tbd tv_X11_close rfl)
theorem w_462 : Cond.fieldLink "LedgerFiles" 431 "LedgerFiles$Holders" "ways" "[I" ∈ TB := tp_2 76 (by decide +kernel) rfl
theorem w_460 : Cond.fieldLink "LedgerFiles" 434 "LedgerFiles$Holders" "places" "[I" ∈ TB := tp_2 74 (by decide +kernel) rfl
noncomputable def d_X11_put_83 (N B gr : Nat) (A : MS) (D : CfT) (x1 : Int32) (x2 : Int32) (x3 : Int32) (x4 : Int32) : Option (FR Int32) := bndF (d_X3_store_1 N B gr A D x3 x4 x2) (fun v27 A27 D27 => if v27 ≤ 0 then some (.inl (v27, A27, D27)) else stA D27 35 32 x1 ((x4) + (v27)) (fun D28 => some (.inl (v27, A27, D28))))
noncomputable def d_X11_put (N B gr : Nat) (A : MS) (D : CfT) (a0 : Int32) : Option (FR Int32) := bnd2 (d_X11_useTape N (vA A) D) (fun v19 D19 => bndF (d_X11_needMounted N B gr A D19) (fun v20 A20 D20 => bnd (d_X5_isOpen N (vA A20) D20 a0) (fun v21 => if v21 = 0 then some (.inl ((-13 : Int32), A20, D20)) else ld (cA D20 36) 32 a0 (fun v22 => if v22 = 0 then some (.inl ((-9 : Int32), A20, D20)) else ld (cA D20 34) 32 a0 (fun v23 => ld (cA D20 36) 32 a0 (fun v24 => if v24 = ((2 : Int32)) then bnd (d_X7_size N (vA A20) D20 v23) (fun v26 => d_X11_put_83 N B gr A20 D20 a0 v19 v23 v26) else ld (cA D20 35) 32 a0 (fun v25 => d_X11_put_83 N B gr A20 D20 a0 v19 v23 v25)))))))
set_option maxRecDepth 100000 in
set_option maxHeartbeats 4000000 in
theorem l_X11_put_83 (E : gE) (f0 : Nat → va_E) (sz : Nat) (QA : Nat → Prop) (N B gr : Nat) (C0 : CfT) (hz : CfZ E N B gr) : ∀ (A : MS) (D : CfT) (x1 : Int32) (x2 : Int32) (x3 : Int32) (x4 : Int32) (r : FR Int32) (hr : d_X11_put_83 N B gr A D x1 x2 x3 x4 = some r) (f : Nat → va_E) (C : CfT) (h : CfV E f N B gr C) (hD : Dq D C) (hA : AR N B gr A C) (hf : Fr CfK f0 f), G E (13, yX11_put, 6, (some .int), sz, QA) cX11_put (gO E (13, yX11_put, 6, (some .int), sz, QA) (FQ E N B gr f0 (fun r => some (.int r)) r)) 83 [(0, .ref (gAd E (0))), (1, .int (x1)), (2, .int (x2)), (3, .int (x3)), (4, .int (x4))] [] f := by
  obtain ⟨z1, z2, z3, z4, z5, z6, z7⟩ := id hz
  intro A D x1 x2 x3 x4 r hr f C h hD hA hf
  unfold d_X11_put_83 at hr
  refine G.go tv_X11_put 1 84 [(0, .ref (gAd E (0))), (1, .int (x1)), (2, .int (x2)), (3, .int (x3)), (4, .int (x4))] [.ref (gAd E (0))] rfl ?_
  refine G.getf cls_X11 (0) 11 (by omega) (h.q0) (by decide) rfl (tbd tv_X11_put rfl) w_574 ?_
  refine G.go tv_X11_put 3 91 [(0, .ref (gAd E (0))), (1, .int (x1)), (2, .int (x2)), (3, .int (x3)), (4, .int (x4))] [.ref (gAd E (0)), .int (x4), .int (x3), .ref (gAd E (41))] rfl ?_
  refine G.getf cls_X11 (0) 0 (by omega) (h.q0) (by decide) rfl (tbd tv_X11_put rfl) w_563 ?_
  refine G.go tv_X11_put 1 95 [(0, .ref (gAd E (0))), (1, .int (x1)), (2, .int (x2)), (3, .int (x3)), (4, .int (x4))] [.int (x2), .ref (gAd E (1)), .int (x4), .int (x3), .ref (gAd E (41))] rfl ?_
  rcases bndF_s hr with ⟨v27, A27, D27, hv27, hr⟩ | ⟨ex27, A27, D27, hv27, rfl⟩
  rotate_left
  · skip
    refine G.callV (41) [.int (x3), .int (x4), .ref (gAd E (1)), .int (x2)] [] (k_X3_store_1 E _ N B gr C D A hz h hD hA x3 x4 x2 _ hv27) cls_X3 (by omega) (h.q41) cw_X11_355 w_1606 w_1607 (Nat.le_of_ble_eq_true rfl) rfl (Nat.le_of_ble_eq_true rfl) (tbd tv_X11_put rfl) (fun v27w f27 q27 => ?_) (fun X g q => FQ.fr q hf)
    exact q27.elim
  refine G.callV (41) [.int (x3), .int (x4), .ref (gAd E (1)), .int (x2)] [] (k_X3_store_1 E _ N B gr C D A hz h hD hA x3 x4 x2 _ hv27) cls_X3 (by omega) (h.q41) cw_X11_355 w_1606 w_1607 (Nat.le_of_ble_eq_true rfl) rfl (Nat.le_of_ble_eq_true rfl) (tbd tv_X11_put rfl) (fun v27w f27 q27 => ?_) (fun _ _ h => h.elim)
  obtain ⟨rfl, C27, ha27, hD27, hA27, fa27⟩ := q27
  refine G.eqs [.int (v27)] rfl ?_
  refine G.go tv_X11_put 2 102 [(0, .ref (gAd E (0))), (1, .int (x1)), (2, .int (x2)), (3, .int (x3)), (4, .int (x4)), (5, .int (v27))] [.int (v27)] rfl ?_
  refine G.if_le 119 (tbd tv_X11_put rfl) (by decide) (fun c102 => ?_) (fun c102 => ?_)
  · replace hr := ite_t c102 hr
    refine G.go tv_X11_put 1 121 [(0, .ref (gAd E (0))), (1, .int (x1)), (2, .int (x2)), (3, .int (x3)), (4, .int (x4)), (5, .int (v27))] [.int (v27)] rfl ?_
    cases hr
    exact G.iret rfl rfl (FQ.ok rfl ⟨C27, ha27, hD27, hA27, (hf.tr fa27 (fun _ h => h))⟩) (tbd tv_X11_put rfl)
  · replace hr := ite_f c102 hr
    refine G.go tv_X11_put 1 106 [(0, .ref (gAd E (0))), (1, .int (x1)), (2, .int (x2)), (3, .int (x3)), (4, .int (x4)), (5, .int (v27))] [.ref (gAd E (0))] rfl ?_
    refine G.getf cls_X11 (0) 9 (by omega) (ha27.q0) (by decide) rfl (tbd tv_X11_put rfl) w_572 ?_
    refine G.getf cls_X5 (32) 2 (by omega) (ha27.q32) (by decide) rfl (tbd tv_X11_put rfl) w_460 ?_
    refine G.go tv_X11_put 4 118 [(0, .ref (gAd E (0))), (1, .int (x1)), (2, .int (x2)), (3, .int (x3)), (4, .int (x4)), (5, .int (v27))] [.int ((x4) + (v27)), .int (x1), .ref (gAd E (35))] rfl ?_
    obtain ⟨D28, b28, eD28, hr⟩ := stA_s hr
    refine G.iast (35) (by omega) (ha27.q35) b28 (tbd tv_X11_put rfl) ?_
    refine G.gen (P := SN E N B gr f0 A27 D28) ⟨sA C27 35 (upd (cA C27 35) x1.toNatClampNeg ((x4) + (v27))), ha27.p35 _, (by rw [eD28]; exact hD27.au (by decide)), hA27.sm (Sd.a (by decide) : Sd C27 (sA C27 35 (upd (cA C27 35) x1.toNatClampNeg ((x4) + (v27))))), Fr.c (hf.tr fa27 (fun _ h => h)) (by first | exact Or.inl (by decide) | exact Or.inr (by omega))⟩ (fun u28 p28 => ?_)
    obtain ⟨C28, h28, hD28, hA28, k28⟩ := p28
    refine G.go tv_X11_put 1 121 [(0, .ref (gAd E (0))), (1, .int (x1)), (2, .int (x2)), (3, .int (x3)), (4, .int (x4)), (5, .int (v27))] [.int (v27)] rfl ?_
    cases hr
    exact G.iret rfl rfl (FQ.ok rfl ⟨C28, h28, hD28, hA28, k28⟩) (tbd tv_X11_put rfl)
set_option maxRecDepth 100000 in
set_option maxHeartbeats 4000000 in
theorem k_X11_put (E : gE) (f : Nat → va_E) (N B gr : Nat) (C D : CfT) (A : MS) (hz : CfZ E N B gr) (h : CfV E f N B gr C) (hD : Dq D C) (hA : AR N B gr A C) (a0 : Int32) (r : FR Int32) (hr : d_X11_put N B gr A D a0 = some r) : Ct E 13 yX11_put cX11_put 6 (some .int) [.ref (gAd E (0)), .int (a0)] f (FQ E N B gr f (fun r => some (.int r)) r) := by
  obtain ⟨z1, z2, z3, z4, z5, z6, z7⟩ := id hz
  refine Ct.of (by decide) (Nat.le_of_ble_eq_true rfl) (fun sz => ?_)
  refine G.eql [(0, .ref (gAd E (0))), (1, .int (a0))] rfl ?_
  unfold d_X11_put at hr
  refine G.go tv_X11_put 1 1 [(0, .ref (gAd E (0))), (1, .int (a0))] [.ref (gAd E (0))] rfl ?_
  obtain ⟨v19, D19, hv19, hr⟩ := bnd2_s hr
  refine G.callV (0) [] [] (k_X11_useTape E _ N B gr C D A hz h hD hA v19 D19 hv19) cls_X11 (by omega) (h.q0) cw_X11_272 w_1343 w_29 (Nat.le_of_ble_eq_true rfl) rfl (Nat.le_of_ble_eq_true rfl) (tbd tv_X11_put rfl) (fun v19w f19 q19 => ?_) (fun _ _ h => h.elim)
  obtain ⟨rfl, C19, ha19, hD19, hA19, hR19, fa19⟩ := q19
  refine G.eqs [.int (v19)] rfl ?_
  refine G.go tv_X11_put 2 6 [(0, .ref (gAd E (0))), (1, .int (a0)), (2, .int (v19))] [.ref (gAd E (0))] rfl ?_
  rcases bndF_s hr with ⟨v20, A20, D20, hv20, hr⟩ | ⟨ex20, A20, D20, hv20, rfl⟩
  rotate_left
  · skip
    refine G.callV (0) [] [] (k_X11_needMounted E _ N B gr C19 D19 A hz ha19 hD19 hA19 _ hv20) cls_X11 (by omega) (ha19.q0) cw_X11_221 w_1320 w_27 (Nat.le_of_ble_eq_true rfl) rfl (Nat.le_of_ble_eq_true rfl) (tbd tv_X11_put rfl) (fun v20w f20 q20 => ?_) (fun X g q => FQ.fr q (Fr.rf.tr fa19 (fun _ h => h)))
    exact q20.elim
  refine G.callV (0) [] [] (k_X11_needMounted E _ N B gr C19 D19 A hz ha19 hD19 hA19 _ hv20) cls_X11 (by omega) (ha19.q0) cw_X11_221 w_1320 w_27 (Nat.le_of_ble_eq_true rfl) rfl (Nat.le_of_ble_eq_true rfl) (tbd tv_X11_put rfl) (fun v20w f20 q20 => ?_) (fun _ _ h => h.elim)
  obtain ⟨rfl, C20, ha20, hD20, hA20, fa20⟩ := q20
  refine G.eqs [] rfl ?_
  refine G.go tv_X11_put 1 10 [(0, .ref (gAd E (0))), (1, .int (a0)), (2, .int (v19))] [.ref (gAd E (0))] rfl ?_
  refine G.getf cls_X11 (0) 9 (by omega) (ha20.q0) (by decide) rfl (tbd tv_X11_put rfl) w_572 ?_
  refine G.go tv_X11_put 1 14 [(0, .ref (gAd E (0))), (1, .int (a0)), (2, .int (v19))] [.int (a0), .ref (gAd E (32))] rfl ?_
  obtain ⟨v21, hv21, hr⟩ := bnd_s hr
  refine G.callV (32) [.int (a0)] [] (k_X5_isOpen E _ N B gr C20 D20 A20 hz ha20 hD20 hA20 a0 v21 hv21) cls_X5 (by omega) (ha20.q32) cw_X11_425 w_1782 w_1783 (Nat.le_of_ble_eq_true rfl) rfl (Nat.le_of_ble_eq_true rfl) (tbd tv_X11_put rfl) (fun v21w f21 q21 => ?_) (fun _ _ h => h.elim)
  obtain ⟨rfl, ha21, fa21⟩ := q21
  refine G.eqs [.int (v21)] rfl ?_
  refine G.if_ne 23 (tbd tv_X11_put rfl) (by decide) (fun c17 => ?_) (fun c17 => ?_)
  · replace hr := ite_f c17 hr
    refine G.go tv_X11_put 1 24 [(0, .ref (gAd E (0))), (1, .int (a0)), (2, .int (v19))] [.ref (gAd E (0))] rfl ?_
    refine G.getf cls_X11 (0) 9 (by omega) (ha21.q0) (by decide) rfl (tbd tv_X11_put rfl) w_572 ?_
    refine G.getf cls_X5 (32) 3 (by omega) (ha21.q32) (by decide) rfl (tbd tv_X11_put rfl) w_462 ?_
    refine G.go tv_X11_put 1 31 [(0, .ref (gAd E (0))), (1, .int (a0)), (2, .int (v19))] [.int (a0), .ref (gAd E (36))] rfl ?_
    obtain ⟨v22, b22, e22, hr⟩ := ld_s hr
    refine G.ialdE (36) (by omega) ((ha21.q36).trans (congrArg (oI (gDA E) (32)) (hD20.2 36 (by decide)))) b22 e22 (tbd tv_X11_put rfl) ?_
    refine G.if_ne 38 (tbd tv_X11_put rfl) (by decide) (fun c32 => ?_) (fun c32 => ?_)
    · replace hr := ite_f c32 hr
      refine G.go tv_X11_put 1 39 [(0, .ref (gAd E (0))), (1, .int (a0)), (2, .int (v19))] [.ref (gAd E (0))] rfl ?_
      refine G.getf cls_X11 (0) 9 (by omega) (ha21.q0) (by decide) rfl (tbd tv_X11_put rfl) w_572 ?_
      refine G.getf cls_X5 (32) 1 (by omega) (ha21.q32) (by decide) rfl (tbd tv_X11_put rfl) w_458 ?_
      refine G.go tv_X11_put 1 46 [(0, .ref (gAd E (0))), (1, .int (a0)), (2, .int (v19))] [.int (a0), .ref (gAd E (34))] rfl ?_
      obtain ⟨v23, b23, e23, hr⟩ := ld_s hr
      refine G.ialdE (34) (by omega) ((ha21.q34).trans (congrArg (oI (gDA E) (32)) (hD20.2 34 (by decide)))) b23 e23 (tbd tv_X11_put rfl) ?_
      refine G.go tv_X11_put 2 49 [(0, .ref (gAd E (0))), (1, .int (a0)), (2, .int (v19)), (3, .int (v23))] [.ref (gAd E (0))] rfl ?_
      refine G.getf cls_X11 (0) 9 (by omega) (ha21.q0) (by decide) rfl (tbd tv_X11_put rfl) w_572 ?_
      refine G.getf cls_X5 (32) 3 (by omega) (ha21.q32) (by decide) rfl (tbd tv_X11_put rfl) w_462 ?_
      refine G.go tv_X11_put 1 56 [(0, .ref (gAd E (0))), (1, .int (a0)), (2, .int (v19)), (3, .int (v23))] [.int (a0), .ref (gAd E (36))] rfl ?_
      obtain ⟨v24, b24, e24, hr⟩ := ld_s hr
      refine G.ialdE (36) (by omega) ((ha21.q36).trans (congrArg (oI (gDA E) (32)) (hD20.2 36 (by decide)))) b24 e24 (tbd tv_X11_put rfl) ?_
      refine G.go tv_X11_put 1 58 [(0, .ref (gAd E (0))), (1, .int (a0)), (2, .int (v19)), (3, .int (v23))] [.int ((2 : Int32)), .int (v24)] rfl ?_
      refine G.cmp_ne 72 (tbd tv_X11_put rfl) (by decide) (fun c58 => ?_) (fun c58 => ?_)
      · replace hr := ite_f c58 hr
        refine G.go tv_X11_put 1 73 [(0, .ref (gAd E (0))), (1, .int (a0)), (2, .int (v19)), (3, .int (v23))] [.ref (gAd E (0))] rfl ?_
        refine G.getf cls_X11 (0) 9 (by omega) (ha21.q0) (by decide) rfl (tbd tv_X11_put rfl) w_572 ?_
        refine G.getf cls_X5 (32) 2 (by omega) (ha21.q32) (by decide) rfl (tbd tv_X11_put rfl) w_460 ?_
        refine G.go tv_X11_put 1 80 [(0, .ref (gAd E (0))), (1, .int (a0)), (2, .int (v19)), (3, .int (v23))] [.int (a0), .ref (gAd E (35))] rfl ?_
        obtain ⟨v25, b25, e25, hr⟩ := ld_s hr
        refine G.ialdE (35) (by omega) ((ha21.q35).trans (congrArg (oI (gDA E) (32)) (hD20.2 35 (by decide)))) b25 e25 (tbd tv_X11_put rfl) ?_
        refine G.go tv_X11_put 1 83 [(0, .ref (gAd E (0))), (1, .int (a0)), (2, .int (v19)), (3, .int (v23)), (4, .int (v25))] [] rfl ?_
        refine G.less [(0, .ref (gAd E (0))), (1, .int (a0)), (2, .int (v19)), (3, .int (v23)), (4, .int (v25))] [0, 1, 2, 3, 4] rfl ?_
        exact l_X11_put_83 E f sz _ N B gr C hz _ _ _ _ _ _ _ hr _ _ ha21 hD20 hA20 (((Fr.rf.tr fa19 (fun _ h => h)).tr fa20 (fun _ h => h)).tr fa21 (fun _ h => h))
      · replace hr := ite_t c58 hr
        refine G.go tv_X11_put 1 62 [(0, .ref (gAd E (0))), (1, .int (a0)), (2, .int (v19)), (3, .int (v23))] [.ref (gAd E (0))] rfl ?_
        refine G.getf cls_X11 (0) 8 (by omega) (ha21.q0) (by decide) rfl (tbd tv_X11_put rfl) w_571 ?_
        refine G.go tv_X11_put 1 66 [(0, .ref (gAd E (0))), (1, .int (a0)), (2, .int (v19)), (3, .int (v23))] [.int (v23), .ref (gAd E (37))] rfl ?_
        obtain ⟨v26, hv26, hr⟩ := bnd_s hr
        refine G.callV (37) [.int (v23)] [] (k_X7_size E _ N B gr C20 D20 A20 hz ha21 hD20 hA20 v23 v26 hv26) cls_X7 (by omega) (ha21.q37) cw_X11_362 w_941 w_942 (Nat.le_of_ble_eq_true rfl) rfl (Nat.le_of_ble_eq_true rfl) (tbd tv_X11_put rfl) (fun v26w f26 q26 => ?_) (fun _ _ h => h.elim)
        obtain ⟨rfl, ha26, fa26⟩ := q26
        refine G.eqs [.int (v26)] rfl ?_
        refine G.go tv_X11_put 2 83 [(0, .ref (gAd E (0))), (1, .int (a0)), (2, .int (v19)), (3, .int (v23)), (4, .int (v26))] [] rfl ?_
        refine G.less [(0, .ref (gAd E (0))), (1, .int (a0)), (2, .int (v19)), (3, .int (v23)), (4, .int (v26))] [0, 1, 2, 3, 4] rfl ?_
        exact l_X11_put_83 E f sz _ N B gr C hz _ _ _ _ _ _ _ hr _ _ ha26 hD20 hA20 ((((Fr.rf.tr fa19 (fun _ h => h)).tr fa20 (fun _ h => h)).tr fa21 (fun _ h => h)).tr fa26 (fun _ h => h))
    · replace hr := ite_t c32 hr
      refine G.go tv_X11_put 1 37 [(0, .ref (gAd E (0))), (1, .int (a0)), (2, .int (v19))] [.int ((-9 : Int32))] rfl ?_
      cases hr
      exact G.iret rfl rfl (FQ.ok rfl ⟨C20, ha21, hD20, hA20, (((Fr.rf.tr fa19 (fun _ h => h)).tr fa20 (fun _ h => h)).tr fa21 (fun _ h => h))⟩) (tbd tv_X11_put rfl)
  · replace hr := ite_t c17 hr
    refine G.go tv_X11_put 1 22 [(0, .ref (gAd E (0))), (1, .int (a0)), (2, .int (v19))] [.int ((-13 : Int32))] rfl ?_
    cases hr
    exact G.iret rfl rfl (FQ.ok rfl ⟨C20, ha21, hD20, hA20, (((Fr.rf.tr fa19 (fun _ h => h)).tr fa20 (fun _ h => h)).tr fa21 (fun _ h => h))⟩) (tbd tv_X11_put rfl)
noncomputable def d_X11_get (N B gr : Nat) (A : MS) (D : CfT) (a0 : Int32) : Option (FR Int32) := bndF (d_X11_needMounted N B gr A D) (fun v29 A29 D29 => bnd (d_X5_isOpen N (vA A29) D29 a0) (fun v30 => if v30 = 0 then some (.inl ((-13 : Int32), A29, D29)) else ld (cA D29 34) 32 a0 (fun v31 => ld (cA D29 35) 32 a0 (fun v32 => bnd (d_X3_byteOf N (vA A29) D29 v31 v32) (fun v33 => if v33 = ((-1 : Int32)) then some (.inl (v33, A29, D29)) else ld (cA D29 35) 32 a0 (fun v34 => stA D29 35 32 a0 ((v34) + ((1 : Int32))) (fun D35 => some (.inl (v33, A29, D35)))))))))
set_option maxRecDepth 100000 in
set_option maxHeartbeats 4000000 in
theorem k_X11_get (E : gE) (f : Nat → va_E) (N B gr : Nat) (C D : CfT) (A : MS) (hz : CfZ E N B gr) (h : CfV E f N B gr C) (hD : Dq D C) (hA : AR N B gr A C) (a0 : Int32) (r : FR Int32) (hr : d_X11_get N B gr A D a0 = some r) : Ct E 8 yX11_get cX11_get 3 (some .int) [.ref (gAd E (0)), .int (a0)] f (FQ E N B gr f (fun r => some (.int r)) r) := by
  obtain ⟨z1, z2, z3, z4, z5, z6, z7⟩ := id hz
  refine Ct.of (by decide) (Nat.le_of_ble_eq_true rfl) (fun sz => ?_)
  refine G.eql [(0, .ref (gAd E (0))), (1, .int (a0))] rfl ?_
  unfold d_X11_get at hr
  refine G.go tv_X11_get 1 1 [(0, .ref (gAd E (0))), (1, .int (a0))] [.ref (gAd E (0))] rfl ?_
  rcases bndF_s hr with ⟨v29, A29, D29, hv29, hr⟩ | ⟨ex29, A29, D29, hv29, rfl⟩
  rotate_left
  · skip
    refine G.callV (0) [] [] (k_X11_needMounted E _ N B gr C D A hz h hD hA _ hv29) cls_X11 (by omega) (h.q0) cw_X11_221 w_1320 w_27 (Nat.le_of_ble_eq_true rfl) rfl (Nat.le_of_ble_eq_true rfl) (tbd tv_X11_get rfl) (fun v29w f29 q29 => ?_) (fun X g q => FQ.fr q Fr.rf)
    exact q29.elim
  refine G.callV (0) [] [] (k_X11_needMounted E _ N B gr C D A hz h hD hA _ hv29) cls_X11 (by omega) (h.q0) cw_X11_221 w_1320 w_27 (Nat.le_of_ble_eq_true rfl) rfl (Nat.le_of_ble_eq_true rfl) (tbd tv_X11_get rfl) (fun v29w f29 q29 => ?_) (fun _ _ h => h.elim)
  obtain ⟨rfl, C29, ha29, hD29, hA29, fa29⟩ := q29
  refine G.eqs [] rfl ?_
  refine G.go tv_X11_get 1 5 [(0, .ref (gAd E (0))), (1, .int (a0))] [.ref (gAd E (0))] rfl ?_
  refine G.getf cls_X11 (0) 9 (by omega) (ha29.q0) (by decide) rfl (tbd tv_X11_get rfl) w_572 ?_
  refine G.go tv_X11_get 1 9 [(0, .ref (gAd E (0))), (1, .int (a0))] [.int (a0), .ref (gAd E (32))] rfl ?_
  obtain ⟨v30, hv30, hr⟩ := bnd_s hr
  refine G.callV (32) [.int (a0)] [] (k_X5_isOpen E _ N B gr C29 D29 A29 hz ha29 hD29 hA29 a0 v30 hv30) cls_X5 (by omega) (ha29.q32) cw_X11_425 w_1782 w_1783 (Nat.le_of_ble_eq_true rfl) rfl (Nat.le_of_ble_eq_true rfl) (tbd tv_X11_get rfl) (fun v30w f30 q30 => ?_) (fun _ _ h => h.elim)
  obtain ⟨rfl, ha30, fa30⟩ := q30
  refine G.eqs [.int (v30)] rfl ?_
  refine G.if_ne 18 (tbd tv_X11_get rfl) (by decide) (fun c12 => ?_) (fun c12 => ?_)
  · replace hr := ite_f c12 hr
    refine G.go tv_X11_get 1 19 [(0, .ref (gAd E (0))), (1, .int (a0))] [.ref (gAd E (0))] rfl ?_
    refine G.getf cls_X11 (0) 11 (by omega) (ha30.q0) (by decide) rfl (tbd tv_X11_get rfl) w_574 ?_
    refine G.go tv_X11_get 1 23 [(0, .ref (gAd E (0))), (1, .int (a0))] [.ref (gAd E (0)), .ref (gAd E (41))] rfl ?_
    refine G.getf cls_X11 (0) 9 (by omega) (ha30.q0) (by decide) rfl (tbd tv_X11_get rfl) w_572 ?_
    refine G.getf cls_X5 (32) 1 (by omega) (ha30.q32) (by decide) rfl (tbd tv_X11_get rfl) w_458 ?_
    refine G.go tv_X11_get 1 30 [(0, .ref (gAd E (0))), (1, .int (a0))] [.int (a0), .ref (gAd E (34)), .ref (gAd E (41))] rfl ?_
    obtain ⟨v31, b31, e31, hr⟩ := ld_s hr
    refine G.ialdE (34) (by omega) ((ha30.q34).trans (congrArg (oI (gDA E) (32)) (hD29.2 34 (by decide)))) b31 e31 (tbd tv_X11_get rfl) ?_
    refine G.go tv_X11_get 1 32 [(0, .ref (gAd E (0))), (1, .int (a0))] [.ref (gAd E (0)), .int (v31), .ref (gAd E (41))] rfl ?_
    refine G.getf cls_X11 (0) 9 (by omega) (ha30.q0) (by decide) rfl (tbd tv_X11_get rfl) w_572 ?_
    refine G.getf cls_X5 (32) 2 (by omega) (ha30.q32) (by decide) rfl (tbd tv_X11_get rfl) w_460 ?_
    refine G.go tv_X11_get 1 39 [(0, .ref (gAd E (0))), (1, .int (a0))] [.int (a0), .ref (gAd E (35)), .int (v31), .ref (gAd E (41))] rfl ?_
    obtain ⟨v32, b32, e32, hr⟩ := ld_s hr
    refine G.ialdE (35) (by omega) ((ha30.q35).trans (congrArg (oI (gDA E) (32)) (hD29.2 35 (by decide)))) b32 e32 (tbd tv_X11_get rfl) ?_
    obtain ⟨v33, hv33, hr⟩ := bnd_s hr
    refine G.callV (41) [.int (v31), .int (v32)] [] (k_X3_byteOf E _ N B gr C29 D29 A29 hz ha30 hD29 hA29 v31 v32 v33 hv33) cls_X3 (by omega) (ha30.q41) cw_X11_390 w_1693 w_1694 (Nat.le_of_ble_eq_true rfl) rfl (Nat.le_of_ble_eq_true rfl) (tbd tv_X11_get rfl) (fun v33w f33 q33 => ?_) (fun _ _ h => h.elim)
    obtain ⟨rfl, ha33, fa33⟩ := q33
    refine G.eqs [.int (v33)] rfl ?_
    refine G.go tv_X11_get 3 46 [(0, .ref (gAd E (0))), (1, .int (a0)), (2, .int (v33))] [.int ((-1 : Int32)), .int (v33)] rfl ?_
    refine G.cmp_eq 62 (tbd tv_X11_get rfl) (by decide) (fun c46 => ?_) (fun c46 => ?_)
    · replace hr := ite_t c46 hr
      refine G.go tv_X11_get 1 63 [(0, .ref (gAd E (0))), (1, .int (a0)), (2, .int (v33))] [.int (v33)] rfl ?_
      cases hr
      exact G.iret rfl rfl (FQ.ok rfl ⟨C29, ha33, hD29, hA29, (((Fr.rf.tr fa29 (fun _ h => h)).tr fa30 (fun _ h => h)).tr fa33 (fun _ h => h))⟩) (tbd tv_X11_get rfl)
    · replace hr := ite_f c46 hr
      refine G.go tv_X11_get 1 50 [(0, .ref (gAd E (0))), (1, .int (a0)), (2, .int (v33))] [.ref (gAd E (0))] rfl ?_
      refine G.getf cls_X11 (0) 9 (by omega) (ha33.q0) (by decide) rfl (tbd tv_X11_get rfl) w_572 ?_
      refine G.getf cls_X5 (32) 2 (by omega) (ha33.q32) (by decide) rfl (tbd tv_X11_get rfl) w_460 ?_
      refine G.go tv_X11_get 2 58 [(0, .ref (gAd E (0))), (1, .int (a0)), (2, .int (v33))] [.int (a0), .ref (gAd E (35)), .int (a0), .ref (gAd E (35))] rfl ?_
      obtain ⟨v34, b34, e34, hr⟩ := ld_s hr
      refine G.ialdE (35) (by omega) ((ha33.q35).trans (congrArg (oI (gDA E) (32)) (hD29.2 35 (by decide)))) b34 e34 (tbd tv_X11_get rfl) ?_
      refine G.go tv_X11_get 2 61 [(0, .ref (gAd E (0))), (1, .int (a0)), (2, .int (v33))] [.int ((v34) + ((1 : Int32))), .int (a0), .ref (gAd E (35))] rfl ?_
      obtain ⟨D35, b35, eD35, hr⟩ := stA_s hr
      refine G.iast (35) (by omega) (ha33.q35) b35 (tbd tv_X11_get rfl) ?_
      refine G.gen (P := SN E N B gr f A29 D35) ⟨sA C29 35 (upd (cA C29 35) a0.toNatClampNeg ((v34) + ((1 : Int32)))), ha33.p35 _, (by rw [eD35]; exact hD29.au (by decide)), hA29.sm (Sd.a (by decide) : Sd C29 (sA C29 35 (upd (cA C29 35) a0.toNatClampNeg ((v34) + ((1 : Int32)))))), Fr.c (((Fr.rf.tr fa29 (fun _ h => h)).tr fa30 (fun _ h => h)).tr fa33 (fun _ h => h)) (by first | exact Or.inl (by decide) | exact Or.inr (by omega))⟩ (fun u35 p35 => ?_)
      obtain ⟨C35, h35, hD35, hA35, k35⟩ := p35
      refine G.go tv_X11_get 1 63 [(0, .ref (gAd E (0))), (1, .int (a0)), (2, .int (v33))] [.int (v33)] rfl ?_
      cases hr
      exact G.iret rfl rfl (FQ.ok rfl ⟨C35, h35, hD35, hA35, k35⟩) (tbd tv_X11_get rfl)
  · replace hr := ite_t c12 hr
    refine G.go tv_X11_get 1 17 [(0, .ref (gAd E (0))), (1, .int (a0))] [.int ((-13 : Int32))] rfl ?_
    cases hr
    exact G.iret rfl rfl (FQ.ok rfl ⟨C29, ha30, hD29, hA29, ((Fr.rf.tr fa29 (fun _ h => h)).tr fa30 (fun _ h => h))⟩) (tbd tv_X11_get rfl)
noncomputable def d_X11_seek (N B gr : Nat) (A : MS) (D : CfT) (a0 : Int32) (a1 : Int32) : Option (FR Int32) := bndF (d_X11_needMounted N B gr A D) (fun v36 A36 D36 => bnd (d_X5_isOpen N (vA A36) D36 a0) (fun v37 => if v37 = 0 then some (.inl ((-13 : Int32), A36, D36)) else if a1 < 0 then some (.inl ((-10 : Int32), A36, D36)) else if a1 ≤ ((400000 : Int32)) then ld (cA D36 35) 32 a0 (fun v38 => stA D36 35 32 a0 a1 (fun D39 => some (.inl (v38, A36, D39)))) else some (.inl ((-10 : Int32), A36, D36))))
set_option maxRecDepth 100000 in
set_option maxHeartbeats 4000000 in
theorem k_X11_seek (E : gE) (f : Nat → va_E) (N B gr : Nat) (C D : CfT) (A : MS) (hz : CfZ E N B gr) (h : CfV E f N B gr C) (hD : Dq D C) (hA : AR N B gr A C) (a0 : Int32) (a1 : Int32) (r : FR Int32) (hr : d_X11_seek N B gr A D a0 a1 = some r) : Ct E 8 yX11_seek cX11_seek 4 (some .int) [.ref (gAd E (0)), .int (a0), .int (a1)] f (FQ E N B gr f (fun r => some (.int r)) r) := by
  obtain ⟨z1, z2, z3, z4, z5, z6, z7⟩ := id hz
  refine Ct.of (by decide) (Nat.le_of_ble_eq_true rfl) (fun sz => ?_)
  refine G.eql [(0, .ref (gAd E (0))), (1, .int (a0)), (2, .int (a1))] rfl ?_
  unfold d_X11_seek at hr
  refine G.go tv_X11_seek 1 1 [(0, .ref (gAd E (0))), (1, .int (a0)), (2, .int (a1))] [.ref (gAd E (0))] rfl ?_
  rcases bndF_s hr with ⟨v36, A36, D36, hv36, hr⟩ | ⟨ex36, A36, D36, hv36, rfl⟩
  rotate_left
  · skip
    refine G.callV (0) [] [] (k_X11_needMounted E _ N B gr C D A hz h hD hA _ hv36) cls_X11 (by omega) (h.q0) cw_X11_221 w_1320 w_27 (Nat.le_of_ble_eq_true rfl) rfl (Nat.le_of_ble_eq_true rfl) (tbd tv_X11_seek rfl) (fun v36w f36 q36 => ?_) (fun X g q => FQ.fr q Fr.rf)
    exact q36.elim
  refine G.callV (0) [] [] (k_X11_needMounted E _ N B gr C D A hz h hD hA _ hv36) cls_X11 (by omega) (h.q0) cw_X11_221 w_1320 w_27 (Nat.le_of_ble_eq_true rfl) rfl (Nat.le_of_ble_eq_true rfl) (tbd tv_X11_seek rfl) (fun v36w f36 q36 => ?_) (fun _ _ h => h.elim)
  obtain ⟨rfl, C36, ha36, hD36, hA36, fa36⟩ := q36
  refine G.eqs [] rfl ?_
  refine G.go tv_X11_seek 1 5 [(0, .ref (gAd E (0))), (1, .int (a0)), (2, .int (a1))] [.ref (gAd E (0))] rfl ?_
  refine G.getf cls_X11 (0) 9 (by omega) (ha36.q0) (by decide) rfl (tbd tv_X11_seek rfl) w_572 ?_
  refine G.go tv_X11_seek 1 9 [(0, .ref (gAd E (0))), (1, .int (a0)), (2, .int (a1))] [.int (a0), .ref (gAd E (32))] rfl ?_
  obtain ⟨v37, hv37, hr⟩ := bnd_s hr
  refine G.callV (32) [.int (a0)] [] (k_X5_isOpen E _ N B gr C36 D36 A36 hz ha36 hD36 hA36 a0 v37 hv37) cls_X5 (by omega) (ha36.q32) cw_X11_425 w_1782 w_1783 (Nat.le_of_ble_eq_true rfl) rfl (Nat.le_of_ble_eq_true rfl) (tbd tv_X11_seek rfl) (fun v37w f37 q37 => ?_) (fun _ _ h => h.elim)
  obtain ⟨rfl, ha37, fa37⟩ := q37
  refine G.eqs [.int (v37)] rfl ?_
  refine G.if_ne 18 (tbd tv_X11_seek rfl) (by decide) (fun c12 => ?_) (fun c12 => ?_)
  · replace hr := ite_f c12 hr
    refine G.go tv_X11_seek 1 19 [(0, .ref (gAd E (0))), (1, .int (a0)), (2, .int (a1))] [.int (a1)] rfl ?_
    refine G.if_lt 29 (tbd tv_X11_seek rfl) (by decide) (fun c19 => ?_) (fun c19 => ?_)
    · replace hr := ite_t c19 hr
      refine G.go tv_X11_seek 1 31 [(0, .ref (gAd E (0))), (1, .int (a0)), (2, .int (a1))] [.int ((-10 : Int32))] rfl ?_
      cases hr
      exact G.iret rfl rfl (FQ.ok rfl ⟨C36, ha37, hD36, hA36, ((Fr.rf.tr fa36 (fun _ h => h)).tr fa37 (fun _ h => h))⟩) (tbd tv_X11_seek rfl)
    · replace hr := ite_f c19 hr
      refine G.go tv_X11_seek 1 23 [(0, .ref (gAd E (0))), (1, .int (a0)), (2, .int (a1))] [.int (a1)] rfl ?_
      refine G.ldcw (400000) (tbd tv_X11_seek rfl) w_1633 ?_
      refine G.cmp_le 32 (tbd tv_X11_seek rfl) (by decide) (fun c26 => ?_) (fun c26 => ?_)
      · replace hr := ite_t c26 hr
        refine G.go tv_X11_seek 1 33 [(0, .ref (gAd E (0))), (1, .int (a0)), (2, .int (a1))] [.ref (gAd E (0))] rfl ?_
        refine G.getf cls_X11 (0) 9 (by omega) (ha37.q0) (by decide) rfl (tbd tv_X11_seek rfl) w_572 ?_
        refine G.getf cls_X5 (32) 2 (by omega) (ha37.q32) (by decide) rfl (tbd tv_X11_seek rfl) w_460 ?_
        refine G.go tv_X11_seek 1 40 [(0, .ref (gAd E (0))), (1, .int (a0)), (2, .int (a1))] [.int (a0), .ref (gAd E (35))] rfl ?_
        obtain ⟨v38, b38, e38, hr⟩ := ld_s hr
        refine G.ialdE (35) (by omega) ((ha37.q35).trans (congrArg (oI (gDA E) (32)) (hD36.2 35 (by decide)))) b38 e38 (tbd tv_X11_seek rfl) ?_
        refine G.go tv_X11_seek 2 43 [(0, .ref (gAd E (0))), (1, .int (a0)), (2, .int (a1)), (3, .int (v38))] [.ref (gAd E (0))] rfl ?_
        refine G.getf cls_X11 (0) 9 (by omega) (ha37.q0) (by decide) rfl (tbd tv_X11_seek rfl) w_572 ?_
        refine G.getf cls_X5 (32) 2 (by omega) (ha37.q32) (by decide) rfl (tbd tv_X11_seek rfl) w_460 ?_
        refine G.go tv_X11_seek 2 51 [(0, .ref (gAd E (0))), (1, .int (a0)), (2, .int (a1)), (3, .int (v38))] [.int (a1), .int (a0), .ref (gAd E (35))] rfl ?_
        obtain ⟨D39, b39, eD39, hr⟩ := stA_s hr
        refine G.iast (35) (by omega) (ha37.q35) b39 (tbd tv_X11_seek rfl) ?_
        refine G.gen (P := SN E N B gr f A36 D39) ⟨sA C36 35 (upd (cA C36 35) a0.toNatClampNeg a1), ha37.p35 _, (by rw [eD39]; exact hD36.au (by decide)), hA36.sm (Sd.a (by decide) : Sd C36 (sA C36 35 (upd (cA C36 35) a0.toNatClampNeg a1))), Fr.c ((Fr.rf.tr fa36 (fun _ h => h)).tr fa37 (fun _ h => h)) (by first | exact Or.inl (by decide) | exact Or.inr (by omega))⟩ (fun u39 p39 => ?_)
        obtain ⟨C39, h39, hD39, hA39, k39⟩ := p39
        refine G.go tv_X11_seek 1 53 [(0, .ref (gAd E (0))), (1, .int (a0)), (2, .int (a1)), (3, .int (v38))] [.int (v38)] rfl ?_
        cases hr
        exact G.iret rfl rfl (FQ.ok rfl ⟨C39, h39, hD39, hA39, k39⟩) (tbd tv_X11_seek rfl)
      · replace hr := ite_f c26 hr
        refine G.go tv_X11_seek 1 31 [(0, .ref (gAd E (0))), (1, .int (a0)), (2, .int (a1))] [.int ((-10 : Int32))] rfl ?_
        cases hr
        exact G.iret rfl rfl (FQ.ok rfl ⟨C36, ha37, hD36, hA36, ((Fr.rf.tr fa36 (fun _ h => h)).tr fa37 (fun _ h => h))⟩) (tbd tv_X11_seek rfl)
  · replace hr := ite_t c12 hr
    refine G.go tv_X11_seek 1 17 [(0, .ref (gAd E (0))), (1, .int (a0)), (2, .int (a1))] [.int ((-13 : Int32))] rfl ?_
    cases hr
    exact G.iret rfl rfl (FQ.ok rfl ⟨C36, ha37, hD36, hA36, ((Fr.rf.tr fa36 (fun _ h => h)).tr fa37 (fun _ h => h))⟩) (tbd tv_X11_seek rfl)
noncomputable def d_X11_look (N B gr : Nat) (A : MS) (D : CfT) (a0 : Int32) (a1 : Int32) : Option (FR Int32) := bndF (d_X11_needMounted N B gr A D) (fun v40 A40 D40 => if a1 < 0 then some (.inr (2, A40, D40)) else if a1 ≤ ((2 : Int32)) then bnd (d_X5_isOpen N (vA A40) D40 a0) (fun v41 => if v41 = 0 then some (.inl ((-13 : Int32), A40, D40)) else if a1 = (0 : Int32) then ld (cA D40 34) 32 a0 (fun v42 => some (.inl (v42, A40, D40))) else if a1 = (1 : Int32) then ld (cA D40 35) 32 a0 (fun v43 => some (.inl (v43, A40, D40))) else ld (cA D40 36) 32 a0 (fun v44 => some (.inl (v44, A40, D40)))) else some (.inr (2, A40, D40)))
set_option maxRecDepth 100000 in
set_option maxHeartbeats 4000000 in
theorem k_X11_look (E : gE) (f : Nat → va_E) (N B gr : Nat) (C D : CfT) (A : MS) (hz : CfZ E N B gr) (h : CfV E f N B gr C) (hD : Dq D C) (hA : AR N B gr A C) (a0 : Int32) (a1 : Int32) (r : FR Int32) (hr : d_X11_look N B gr A D a0 a1 = some r) : Ct E 8 yX11_look cX11_look 3 (some .int) [.ref (gAd E (0)), .int (a0), .int (a1)] f (FQ E N B gr f (fun r => some (.int r)) r) := by
  obtain ⟨z1, z2, z3, z4, z5, z6, z7⟩ := id hz
  refine Ct.of (by decide) (Nat.le_of_ble_eq_true rfl) (fun sz => ?_)
  refine G.eql [(0, .ref (gAd E (0))), (1, .int (a0)), (2, .int (a1))] rfl ?_
  unfold d_X11_look at hr
  refine G.go tv_X11_look 1 1 [(0, .ref (gAd E (0))), (1, .int (a0)), (2, .int (a1))] [.ref (gAd E (0))] rfl ?_
  rcases bndF_s hr with ⟨v40, A40, D40, hv40, hr⟩ | ⟨ex40, A40, D40, hv40, rfl⟩
  rotate_left
  · skip
    refine G.callV (0) [] [] (k_X11_needMounted E _ N B gr C D A hz h hD hA _ hv40) cls_X11 (by omega) (h.q0) cw_X11_221 w_1320 w_27 (Nat.le_of_ble_eq_true rfl) rfl (Nat.le_of_ble_eq_true rfl) (tbd tv_X11_look rfl) (fun v40w f40 q40 => ?_) (fun X g q => FQ.fr q Fr.rf)
    exact q40.elim
  refine G.callV (0) [] [] (k_X11_needMounted E _ N B gr C D A hz h hD hA _ hv40) cls_X11 (by omega) (h.q0) cw_X11_221 w_1320 w_27 (Nat.le_of_ble_eq_true rfl) rfl (Nat.le_of_ble_eq_true rfl) (tbd tv_X11_look rfl) (fun v40w f40 q40 => ?_) (fun _ _ h => h.elim)
  obtain ⟨rfl, C40, ha40, hD40, hA40, fa40⟩ := q40
  refine G.eqs [] rfl ?_
  refine G.go tv_X11_look 1 5 [(0, .ref (gAd E (0))), (1, .int (a0)), (2, .int (a1))] [.int (a1)] rfl ?_
  refine G.if_lt 13 (tbd tv_X11_look rfl) (by decide) (fun c5 => ?_) (fun c5 => ?_)
  · replace hr := ite_t c5 hr
    cases hr
    exact G.thrW (cls := "java/lang/IllegalArgumentException") (text := "what is not 0 .. 2") (names := ["java/lang/RuntimeException", "java/lang/Exception"]) (by decide +kernel) (by decide +kernel) w_828 w_168 (own := "LedgerFiles") rfl (by decide +kernel) (by decide +kernel) at_X11_205 (tbd tv_X11_look rfl) (tbd tv_X11_look rfl) (tbd tv_X11_look rfl) (tbd tv_X11_look rfl) (tbd tv_X11_look rfl) (Nat.le_of_ble_eq_true rfl) (Nat.le_of_ble_eq_true rfl) (FQ.th (e := 1) rfl ⟨C40, ha40, hD40, hA40, (Fr.rf.tr fa40 (fun _ h => h))⟩)
  · replace hr := ite_f c5 hr
    refine G.go tv_X11_look 2 10 [(0, .ref (gAd E (0))), (1, .int (a0)), (2, .int (a1))] [.int ((2 : Int32)), .int (a1)] rfl ?_
    refine G.cmp_le 24 (tbd tv_X11_look rfl) (by decide) (fun c10 => ?_) (fun c10 => ?_)
    · replace hr := ite_t c10 hr
      refine G.go tv_X11_look 1 25 [(0, .ref (gAd E (0))), (1, .int (a0)), (2, .int (a1))] [.ref (gAd E (0))] rfl ?_
      refine G.getf cls_X11 (0) 9 (by omega) (ha40.q0) (by decide) rfl (tbd tv_X11_look rfl) w_572 ?_
      refine G.go tv_X11_look 1 29 [(0, .ref (gAd E (0))), (1, .int (a0)), (2, .int (a1))] [.int (a0), .ref (gAd E (32))] rfl ?_
      obtain ⟨v41, hv41, hr⟩ := bnd_s hr
      refine G.callV (32) [.int (a0)] [] (k_X5_isOpen E _ N B gr C40 D40 A40 hz ha40 hD40 hA40 a0 v41 hv41) cls_X5 (by omega) (ha40.q32) cw_X11_425 w_1782 w_1783 (Nat.le_of_ble_eq_true rfl) rfl (Nat.le_of_ble_eq_true rfl) (tbd tv_X11_look rfl) (fun v41w f41 q41 => ?_) (fun _ _ h => h.elim)
      obtain ⟨rfl, ha41, fa41⟩ := q41
      refine G.eqs [.int (v41)] rfl ?_
      refine G.if_ne 38 (tbd tv_X11_look rfl) (by decide) (fun c32 => ?_) (fun c32 => ?_)
      · replace hr := ite_f c32 hr
        refine G.go tv_X11_look 1 39 [(0, .ref (gAd E (0))), (1, .int (a0)), (2, .int (a1))] [.int (a1)] rfl ?_
        by_cases c39_0 : a1 = (0 : Int32)
        · replace hr := ite_t c39_0 hr
          refine G.lsw 64 (25) (tbd tv_X11_look rfl) (by decide) (by rw [c39_0]; decide) (by decide) ?_
          refine G.go tv_X11_look 1 65 [(0, .ref (gAd E (0))), (1, .int (a0)), (2, .int (a1))] [.ref (gAd E (0))] rfl ?_
          refine G.getf cls_X11 (0) 9 (by omega) (ha41.q0) (by decide) rfl (tbd tv_X11_look rfl) w_572 ?_
          refine G.getf cls_X5 (32) 1 (by omega) (ha41.q32) (by decide) rfl (tbd tv_X11_look rfl) w_458 ?_
          refine G.go tv_X11_look 1 72 [(0, .ref (gAd E (0))), (1, .int (a0)), (2, .int (a1))] [.int (a0), .ref (gAd E (34))] rfl ?_
          obtain ⟨v42, b42, e42, hr⟩ := ld_s hr
          refine G.ialdE (34) (by omega) ((ha41.q34).trans (congrArg (oI (gDA E) (32)) (hD40.2 34 (by decide)))) b42 e42 (tbd tv_X11_look rfl) ?_
          cases hr
          exact G.iret rfl rfl (FQ.ok rfl ⟨C40, ha41, hD40, hA40, ((Fr.rf.tr fa40 (fun _ h => h)).tr fa41 (fun _ h => h))⟩) (tbd tv_X11_look rfl)
        replace hr := ite_f c39_0 hr
        by_cases c39_1 : a1 = (1 : Int32)
        · replace hr := ite_t c39_1 hr
          refine G.lsw 74 (35) (tbd tv_X11_look rfl) (by decide) (by rw [c39_1]; decide) (by decide) ?_
          refine G.go tv_X11_look 1 75 [(0, .ref (gAd E (0))), (1, .int (a0)), (2, .int (a1))] [.ref (gAd E (0))] rfl ?_
          refine G.getf cls_X11 (0) 9 (by omega) (ha41.q0) (by decide) rfl (tbd tv_X11_look rfl) w_572 ?_
          refine G.getf cls_X5 (32) 2 (by omega) (ha41.q32) (by decide) rfl (tbd tv_X11_look rfl) w_460 ?_
          refine G.go tv_X11_look 1 82 [(0, .ref (gAd E (0))), (1, .int (a0)), (2, .int (a1))] [.int (a0), .ref (gAd E (35))] rfl ?_
          obtain ⟨v43, b43, e43, hr⟩ := ld_s hr
          refine G.ialdE (35) (by omega) ((ha41.q35).trans (congrArg (oI (gDA E) (32)) (hD40.2 35 (by decide)))) b43 e43 (tbd tv_X11_look rfl) ?_
          cases hr
          exact G.iret rfl rfl (FQ.ok rfl ⟨C40, ha41, hD40, hA40, ((Fr.rf.tr fa40 (fun _ h => h)).tr fa41 (fun _ h => h))⟩) (tbd tv_X11_look rfl)
        replace hr := ite_f c39_1 hr
        refine G.lsw 84 (45) (tbd tv_X11_look rfl) (by decide) ((lv_osw c39_0 (by decide)).trans ((lv_osw c39_1 (by decide)).trans rfl)) (by decide) ?_
        refine G.go tv_X11_look 1 85 [(0, .ref (gAd E (0))), (1, .int (a0)), (2, .int (a1))] [.ref (gAd E (0))] rfl ?_
        refine G.getf cls_X11 (0) 9 (by omega) (ha41.q0) (by decide) rfl (tbd tv_X11_look rfl) w_572 ?_
        refine G.getf cls_X5 (32) 3 (by omega) (ha41.q32) (by decide) rfl (tbd tv_X11_look rfl) w_462 ?_
        refine G.go tv_X11_look 1 92 [(0, .ref (gAd E (0))), (1, .int (a0)), (2, .int (a1))] [.int (a0), .ref (gAd E (36))] rfl ?_
        obtain ⟨v44, b44, e44, hr⟩ := ld_s hr
        refine G.ialdE (36) (by omega) ((ha41.q36).trans (congrArg (oI (gDA E) (32)) (hD40.2 36 (by decide)))) b44 e44 (tbd tv_X11_look rfl) ?_
        cases hr
        exact G.iret rfl rfl (FQ.ok rfl ⟨C40, ha41, hD40, hA40, ((Fr.rf.tr fa40 (fun _ h => h)).tr fa41 (fun _ h => h))⟩) (tbd tv_X11_look rfl)
      · replace hr := ite_t c32 hr
        refine G.go tv_X11_look 1 37 [(0, .ref (gAd E (0))), (1, .int (a0)), (2, .int (a1))] [.int ((-13 : Int32))] rfl ?_
        cases hr
        exact G.iret rfl rfl (FQ.ok rfl ⟨C40, ha41, hD40, hA40, ((Fr.rf.tr fa40 (fun _ h => h)).tr fa41 (fun _ h => h))⟩) (tbd tv_X11_look rfl)
    · replace hr := ite_f c10 hr
      cases hr
      exact G.thrW (cls := "java/lang/IllegalArgumentException") (text := "what is not 0 .. 2") (names := ["java/lang/RuntimeException", "java/lang/Exception"]) (by decide +kernel) (by decide +kernel) w_828 w_168 (own := "LedgerFiles") rfl (by decide +kernel) (by decide +kernel) at_X11_205 (tbd tv_X11_look rfl) (tbd tv_X11_look rfl) (tbd tv_X11_look rfl) (tbd tv_X11_look rfl) (tbd tv_X11_look rfl) (Nat.le_of_ble_eq_true rfl) (Nat.le_of_ble_eq_true rfl) (FQ.th (e := 1) rfl ⟨C40, ha40, hD40, hA40, (Fr.rf.tr fa40 (fun _ h => h))⟩)
noncomputable def d_X11_begin (N B gr : Nat) (A : MS) (D : CfT) : Option (FR Int32) := bndF (d_X11_needMounted N B gr A D) (fun v45 A45 D45 => if (gpI A45) = 0 then bnd (gpO A45 true) (fun A46 => some (.inl ((1 : Int32), A46, D45))) else some (.inl ((0 : Int32), A45, D45)))
set_option maxRecDepth 100000 in
set_option maxHeartbeats 4000000 in
theorem k_X11_begin (E : gE) (f : Nat → va_E) (N B gr : Nat) (C D : CfT) (A : MS) (hz : CfZ E N B gr) (h : CfV E f N B gr C) (hD : Dq D C) (hA : AR N B gr A C) (r : FR Int32) (hr : d_X11_begin N B gr A D = some r) : Ct E 8 yX11_begin cX11_begin 1 (some .boolean) [.ref (gAd E (0))] f (FQ E N B gr f (fun r => some (.int r)) r) := by
  obtain ⟨z1, z2, z3, z4, z5, z6, z7⟩ := id hz
  refine Ct.of (by decide) (Nat.le_of_ble_eq_true rfl) (fun sz => ?_)
  refine G.eql [(0, .ref (gAd E (0)))] rfl ?_
  unfold d_X11_begin at hr
  refine G.go tv_X11_begin 1 1 [(0, .ref (gAd E (0)))] [.ref (gAd E (0))] rfl ?_
  rcases bndF_s hr with ⟨v45, A45, D45, hv45, hr⟩ | ⟨ex45, A45, D45, hv45, rfl⟩
  rotate_left
  · skip
    refine G.callV (0) [] [] (k_X11_needMounted E _ N B gr C D A hz h hD hA _ hv45) cls_X11 (by omega) (h.q0) cw_X11_221 w_1320 w_27 (Nat.le_of_ble_eq_true rfl) rfl (Nat.le_of_ble_eq_true rfl) (tbd tv_X11_begin rfl) (fun v45w f45 q45 => ?_) (fun X g q => FQ.fr q Fr.rf)
    exact q45.elim
  refine G.callV (0) [] [] (k_X11_needMounted E _ N B gr C D A hz h hD hA _ hv45) cls_X11 (by omega) (h.q0) cw_X11_221 w_1320 w_27 (Nat.le_of_ble_eq_true rfl) rfl (Nat.le_of_ble_eq_true rfl) (tbd tv_X11_begin rfl) (fun v45w f45 q45 => ?_) (fun _ _ h => h.elim)
  obtain ⟨rfl, C45, ha45, hD45, hA45, fa45⟩ := q45
  refine G.eqs [] rfl ?_
  refine G.go tv_X11_begin 1 5 [(0, .ref (gAd E (0)))] [.ref (gAd E (0))] rfl ?_
  refine G.getf cls_X11 (0) 7 (by omega) (ha45.q0) (by decide) rfl (tbd tv_X11_begin rfl) w_570 ?_
  refine G.getf cls_X10 (25) 11 (by omega) (ha45.q25) (by decide) rfl (tbd tv_X11_begin rfl) w_423 ?_
  refine G.eq1 (b := gpI A45) (hA45.gp) ?_
  refine G.if_eq 16 (tbd tv_X11_begin rfl) (by decide) (fun c11 => ?_) (fun c11 => ?_)
  · replace hr := ite_t c11 hr
    refine G.go tv_X11_begin 1 17 [(0, .ref (gAd E (0)))] [.ref (gAd E (0))] rfl ?_
    refine G.getf cls_X11 (0) 7 (by omega) (ha45.q0) (by decide) rfl (tbd tv_X11_begin rfl) w_570 ?_
    refine G.go tv_X11_begin 1 21 [(0, .ref (gAd E (0)))] [.int ((1 : Int32)), .ref (gAd E (25))] rfl ?_
    obtain ⟨A46, hv46, hr⟩ := bnd_s hr
    refine G.putfS cls_X10 (25) 11 [.ref (gAd E 2), .ref (gAd E 8), .ref (gAd E 13), .ref (gAd E 17), .ref (gAd E 26), .ref (gAd E 27), .ref (gAd E 28), .ref (gAd E 29), .int (cS C45 2508), .ref (gAd E 30), .ref (gAd E 31), .int ((1 : Int32))] (by omega) (ha45.q25) rfl (by decide) rfl rfl rfl (Nat.le_of_ble_eq_true rfl) (tbd tv_X11_begin rfl) w_423 ?_
    refine G.gen (P := SN E N B gr f A46 D45) (SN.gp hA45 hD45 (Fr.rf.tr fa45 (fun _ h => h)) hv46 rfl (ha45.s2511 _)) (fun u46 p46 => ?_)
    obtain ⟨C46, h46, hD46, hA46, k46⟩ := p46
    refine G.go tv_X11_begin 1 25 [(0, .ref (gAd E (0)))] [.int ((1 : Int32))] rfl ?_
    cases hr
    exact G.iret rfl rfl (FQ.ok rfl ⟨C46, h46, hD46, hA46, k46⟩) (tbd tv_X11_begin rfl)
  · replace hr := ite_f c11 hr
    refine G.go tv_X11_begin 1 15 [(0, .ref (gAd E (0)))] [.int ((0 : Int32))] rfl ?_
    cases hr
    exact G.iret rfl rfl (FQ.ok rfl ⟨C45, ha45, hD45, hA45, (Fr.rf.tr fa45 (fun _ h => h))⟩) (tbd tv_X11_begin rfl)
theorem w_1323 : Cond.methodLink "LedgerFiles" 227 yX11_dropGroup ∈ TB := tp_5 217 (by decide +kernel) rfl
theorem w_1326 : Cond.code yX11_dropGroup prog_1_method_14_code 3 none ∈ TB := tp_5 220 rfl rfl
theorem cw_X11_227 : Cw RX11 227 yX11_dropGroup cX11_dropGroup 3 none 0 := ⟨w_1323, w_1326, w_147, by decide +kernel, by decide +kernel, by decide⟩
theorem w_1325 : Cond.instanceMethod yX11_dropGroup ∈ TB := tp_5 219 (by decide +kernel) rfl
theorem w_28 : Cond.selects "LedgerFiles" yX11_dropGroup yX11_dropGroup ∈ TB := tp_0 28 (by decide +kernel) rfl
theorem w_894 : Cond.methodLink "LedgerFiles" 217 yX11_commitLost ∈ TB := tp_4 28 (by decide +kernel) rfl
theorem w_897 : Cond.code yX11_commitLost prog_1_method_13_code 3 none ∈ TB := tp_4 31 rfl rfl
theorem cw_X11_217 : Cw RX11 217 yX11_commitLost cX11_commitLost 3 none 1 := ⟨w_894, w_897, w_147, by decide +kernel, by decide +kernel, by decide⟩
theorem w_896 : Cond.instanceMethod yX11_commitLost ∈ TB := tp_4 30 (by decide +kernel) rfl
theorem w_15 : Cond.selects "LedgerFiles" yX11_commitLost yX11_commitLost ∈ TB := tp_0 15 (by decide +kernel) rfl
noncomputable def d_X11_end (N B gr : Nat) (A : MS) (D : CfT) : Option (FR Int32) := bndF (d_X11_needMounted N B gr A D) (fun v47 A47 D47 => if (gpI A47) = 0 then some (.inl ((-9 : Int32), A47, D47)) else bnd3 (d_X10_trim N A47 D47 ((1 : Int32))) (fun v48 A48 D48 => if v48 ≤ ((40 : Int32)) then bnd (gpO A48 false) (fun A49 => bndF (d_X10_finish N B gr A49 D48) (fun v50 A50 D50 => some (.inl (v48, A50, D50)))) else bnd2 (d_X11_dropGroup N A48 D48) (fun A51 D51 => bndF (d_X11_commitLost N B gr A51 D51 ((0 : Int32))) (fun v52 A52 D52 => some (.inl ((-12 : Int32), A52, D52))))))
set_option maxRecDepth 100000 in
set_option maxHeartbeats 4000000 in
theorem k_X11_end (E : gE) (f : Nat → va_E) (N B gr : Nat) (C D : CfT) (A : MS) (hz : CfZ E N B gr) (h : CfV E f N B gr C) (hD : Dq D C) (hA : AR N B gr A C) (r : FR Int32) (hr : d_X11_end N B gr A D = some r) : Ct E 13 yX11_end cX11_end 2 (some .int) [.ref (gAd E (0))] f (FQ E N B gr f (fun r => some (.int r)) r) := by
  obtain ⟨z1, z2, z3, z4, z5, z6, z7⟩ := id hz
  refine Ct.of (by decide) (Nat.le_of_ble_eq_true rfl) (fun sz => ?_)
  refine G.eql [(0, .ref (gAd E (0)))] rfl ?_
  unfold d_X11_end at hr
  refine G.go tv_X11_end 1 1 [(0, .ref (gAd E (0)))] [.ref (gAd E (0))] rfl ?_
  rcases bndF_s hr with ⟨v47, A47, D47, hv47, hr⟩ | ⟨ex47, A47, D47, hv47, rfl⟩
  rotate_left
  · skip
    refine G.callV (0) [] [] (k_X11_needMounted E _ N B gr C D A hz h hD hA _ hv47) cls_X11 (by omega) (h.q0) cw_X11_221 w_1320 w_27 (Nat.le_of_ble_eq_true rfl) rfl (Nat.le_of_ble_eq_true rfl) (tbd tv_X11_end rfl) (fun v47w f47 q47 => ?_) (fun X g q => FQ.fr q Fr.rf)
    exact q47.elim
  refine G.callV (0) [] [] (k_X11_needMounted E _ N B gr C D A hz h hD hA _ hv47) cls_X11 (by omega) (h.q0) cw_X11_221 w_1320 w_27 (Nat.le_of_ble_eq_true rfl) rfl (Nat.le_of_ble_eq_true rfl) (tbd tv_X11_end rfl) (fun v47w f47 q47 => ?_) (fun _ _ h => h.elim)
  obtain ⟨rfl, C47, ha47, hD47, hA47, fa47⟩ := q47
  refine G.eqs [] rfl ?_
  refine G.go tv_X11_end 1 5 [(0, .ref (gAd E (0)))] [.ref (gAd E (0))] rfl ?_
  refine G.getf cls_X11 (0) 7 (by omega) (ha47.q0) (by decide) rfl (tbd tv_X11_end rfl) w_570 ?_
  refine G.getf cls_X10 (25) 11 (by omega) (ha47.q25) (by decide) rfl (tbd tv_X11_end rfl) w_423 ?_
  refine G.eq1 (b := gpI A47) (hA47.gp) ?_
  refine G.if_ne 17 (tbd tv_X11_end rfl) (by decide) (fun c11 => ?_) (fun c11 => ?_)
  · replace hr := ite_f c11 hr
    refine G.go tv_X11_end 1 18 [(0, .ref (gAd E (0)))] [.ref (gAd E (0))] rfl ?_
    refine G.getf cls_X11 (0) 7 (by omega) (ha47.q0) (by decide) rfl (tbd tv_X11_end rfl) w_570 ?_
    refine G.go tv_X11_end 1 22 [(0, .ref (gAd E (0)))] [.int ((1 : Int32)), .ref (gAd E (25))] rfl ?_
    obtain ⟨v48, A48, D48, hv48, hr⟩ := bnd3_s hr
    refine G.callV (25) [.int ((1 : Int32))] [] (k_X10_trim E _ N B gr C47 D47 A47 hz ha47 hD47 hA47 ((1 : Int32)) v48 A48 D48 hv48) cls_X10 (by omega) (ha47.q25) cw_X11_339 w_1251 w_1252 (Nat.le_of_ble_eq_true rfl) rfl (Nat.le_of_ble_eq_true rfl) (tbd tv_X11_end rfl) (fun v48w f48 q48 => ?_) (fun _ _ h => h.elim)
    obtain ⟨rfl, C48, ha48, hD48, hA48, fa48⟩ := q48
    refine G.eqs [.int (v48)] rfl ?_
    refine G.go tv_X11_end 3 29 [(0, .ref (gAd E (0))), (1, .int (v48))] [.int ((40 : Int32)), .int (v48)] rfl ?_
    refine G.cmp_le 44 (tbd tv_X11_end rfl) (by decide) (fun c29 => ?_) (fun c29 => ?_)
    · replace hr := ite_t c29 hr
      refine G.go tv_X11_end 1 45 [(0, .ref (gAd E (0))), (1, .int (v48))] [.ref (gAd E (0))] rfl ?_
      refine G.getf cls_X11 (0) 7 (by omega) (ha48.q0) (by decide) rfl (tbd tv_X11_end rfl) w_570 ?_
      refine G.go tv_X11_end 1 49 [(0, .ref (gAd E (0))), (1, .int (v48))] [.int ((0 : Int32)), .ref (gAd E (25))] rfl ?_
      obtain ⟨A49, hv49, hr⟩ := bnd_s hr
      refine G.putfS cls_X10 (25) 11 [.ref (gAd E 2), .ref (gAd E 8), .ref (gAd E 13), .ref (gAd E 17), .ref (gAd E 26), .ref (gAd E 27), .ref (gAd E 28), .ref (gAd E 29), .int (cS C48 2508), .ref (gAd E 30), .ref (gAd E 31), .int ((0 : Int32))] (by omega) (ha48.q25) rfl (by decide) rfl rfl rfl (Nat.le_of_ble_eq_true rfl) (tbd tv_X11_end rfl) w_423 ?_
      refine G.gen (P := SN E N B gr f A49 D48) (SN.gp hA48 hD48 ((Fr.rf.tr fa47 (fun _ h => h)).tr fa48 (fun _ h => h)) hv49 rfl (ha48.s2511 _)) (fun u49 p49 => ?_)
      obtain ⟨C49, h49, hD49, hA49, k49⟩ := p49
      refine G.go tv_X11_end 1 53 [(0, .ref (gAd E (0))), (1, .int (v48))] [.ref (gAd E (0))] rfl ?_
      refine G.getf cls_X11 (0) 7 (by omega) (h49.q0) (by decide) rfl (tbd tv_X11_end rfl) w_570 ?_
      rcases bndF_s hr with ⟨v50, A50, D50, hv50, hr⟩ | ⟨ex50, A50, D50, hv50, rfl⟩
      rotate_left
      · skip
        refine G.callV (25) [] [] (k_X10_finish E _ N B gr C49 D48 A49 hz h49 hD49 hA49 _ hv50) cls_X10 (by omega) (h49.q25) cw_X11_244 w_1247 w_1248 (Nat.le_of_ble_eq_true rfl) rfl (Nat.le_of_ble_eq_true rfl) (tbd tv_X11_end rfl) (fun v50w f50 q50 => ?_) (fun X g q => FQ.fr q k49)
        exact q50.elim
      refine G.callV (25) [] [] (k_X10_finish E _ N B gr C49 D48 A49 hz h49 hD49 hA49 _ hv50) cls_X10 (by omega) (h49.q25) cw_X11_244 w_1247 w_1248 (Nat.le_of_ble_eq_true rfl) rfl (Nat.le_of_ble_eq_true rfl) (tbd tv_X11_end rfl) (fun v50w f50 q50 => ?_) (fun _ _ h => h.elim)
      obtain ⟨rfl, C50, ha50, hD50, hA50, fa50⟩ := q50
      refine G.eqs [] rfl ?_
      refine G.go tv_X11_end 1 60 [(0, .ref (gAd E (0))), (1, .int (v48))] [.int (v48)] rfl ?_
      cases hr
      exact G.iret rfl rfl (FQ.ok rfl ⟨C50, ha50, hD50, hA50, (k49.tr fa50 (fun _ h => h))⟩) (tbd tv_X11_end rfl)
    · replace hr := ite_f c29 hr
      refine G.go tv_X11_end 1 33 [(0, .ref (gAd E (0))), (1, .int (v48))] [.ref (gAd E (0))] rfl ?_
      obtain ⟨A51, D51, hv51, hr⟩ := bnd2_s hr
      refine G.callV (0) [] [] (k_X11_dropGroup E _ N B gr C48 D48 A48 hz ha48 hD48 hA48 A51 D51 hv51) cls_X11 (by omega) (ha48.q0) cw_X11_227 w_1325 w_28 (Nat.le_of_ble_eq_true rfl) rfl (Nat.le_of_ble_eq_true rfl) (tbd tv_X11_end rfl) (fun v51w f51 q51 => ?_) (fun _ _ h => h.elim)
      obtain ⟨rfl, C51, ha51, hD51, hA51, fa51⟩ := q51
      refine G.eqs [] rfl ?_
      refine G.go tv_X11_end 2 38 [(0, .ref (gAd E (0))), (1, .int (v48))] [.int ((0 : Int32)), .ref (gAd E (0))] rfl ?_
      rcases bndF_s hr with ⟨v52, A52, D52, hv52, hr⟩ | ⟨ex52, A52, D52, hv52, rfl⟩
      rotate_left
      · skip
        refine G.callV (0) [.int ((0 : Int32))] [] (k_X11_commitLost E _ N B gr C51 D51 A51 hz ha51 hD51 hA51 ((0 : Int32)) _ hv52) cls_X11 (by omega) (ha51.q0) cw_X11_217 w_896 w_15 (Nat.le_of_ble_eq_true rfl) rfl (Nat.le_of_ble_eq_true rfl) (tbd tv_X11_end rfl) (fun v52w f52 q52 => ?_) (fun X g q => FQ.fr q (((Fr.rf.tr fa47 (fun _ h => h)).tr fa48 (fun _ h => h)).tr fa51 (fun _ h => h)))
        exact q52.elim
      refine G.callV (0) [.int ((0 : Int32))] [] (k_X11_commitLost E _ N B gr C51 D51 A51 hz ha51 hD51 hA51 ((0 : Int32)) _ hv52) cls_X11 (by omega) (ha51.q0) cw_X11_217 w_896 w_15 (Nat.le_of_ble_eq_true rfl) rfl (Nat.le_of_ble_eq_true rfl) (tbd tv_X11_end rfl) (fun v52w f52 q52 => ?_) (fun _ _ h => h.elim)
      obtain ⟨rfl, C52, ha52, hD52, hA52, fa52⟩ := q52
      refine G.eqs [] rfl ?_
      refine G.go tv_X11_end 1 43 [(0, .ref (gAd E (0))), (1, .int (v48))] [.int ((-12 : Int32))] rfl ?_
      cases hr
      exact G.iret rfl rfl (FQ.ok rfl ⟨C52, ha52, hD52, hA52, ((((Fr.rf.tr fa47 (fun _ h => h)).tr fa48 (fun _ h => h)).tr fa51 (fun _ h => h)).tr fa52 (fun _ h => h))⟩) (tbd tv_X11_end rfl)
  · replace hr := ite_t c11 hr
    refine G.go tv_X11_end 1 16 [(0, .ref (gAd E (0)))] [.int ((-9 : Int32))] rfl ?_
    cases hr
    exact G.iret rfl rfl (FQ.ok rfl ⟨C47, ha47, hD47, hA47, (Fr.rf.tr fa47 (fun _ h => h))⟩) (tbd tv_X11_end rfl)
noncomputable def d_X11_undo (N B gr : Nat) (A : MS) (D : CfT) : Option (FR Int32) := bndF (d_X11_needMounted N B gr A D) (fun v53 A53 D53 => if (gpI A53) = 0 then some (.inl ((-9 : Int32), A53, D53)) else bnd2 (d_X11_dropGroup N A53 D53) (fun A54 D54 => bndF (d_X11_commitLost N B gr A54 D54 ((0 : Int32))) (fun v55 A55 D55 => some (.inl ((0 : Int32), A55, D55)))))
set_option maxRecDepth 100000 in
set_option maxHeartbeats 4000000 in
theorem k_X11_undo (E : gE) (f : Nat → va_E) (N B gr : Nat) (C D : CfT) (A : MS) (hz : CfZ E N B gr) (h : CfV E f N B gr C) (hD : Dq D C) (hA : AR N B gr A C) (r : FR Int32) (hr : d_X11_undo N B gr A D = some r) : Ct E 13 yX11_undo cX11_undo 1 (some .int) [.ref (gAd E (0))] f (FQ E N B gr f (fun r => some (.int r)) r) := by
  obtain ⟨z1, z2, z3, z4, z5, z6, z7⟩ := id hz
  refine Ct.of (by decide) (Nat.le_of_ble_eq_true rfl) (fun sz => ?_)
  refine G.eql [(0, .ref (gAd E (0)))] rfl ?_
  unfold d_X11_undo at hr
  refine G.go tv_X11_undo 1 1 [(0, .ref (gAd E (0)))] [.ref (gAd E (0))] rfl ?_
  rcases bndF_s hr with ⟨v53, A53, D53, hv53, hr⟩ | ⟨ex53, A53, D53, hv53, rfl⟩
  rotate_left
  · skip
    refine G.callV (0) [] [] (k_X11_needMounted E _ N B gr C D A hz h hD hA _ hv53) cls_X11 (by omega) (h.q0) cw_X11_221 w_1320 w_27 (Nat.le_of_ble_eq_true rfl) rfl (Nat.le_of_ble_eq_true rfl) (tbd tv_X11_undo rfl) (fun v53w f53 q53 => ?_) (fun X g q => FQ.fr q Fr.rf)
    exact q53.elim
  refine G.callV (0) [] [] (k_X11_needMounted E _ N B gr C D A hz h hD hA _ hv53) cls_X11 (by omega) (h.q0) cw_X11_221 w_1320 w_27 (Nat.le_of_ble_eq_true rfl) rfl (Nat.le_of_ble_eq_true rfl) (tbd tv_X11_undo rfl) (fun v53w f53 q53 => ?_) (fun _ _ h => h.elim)
  obtain ⟨rfl, C53, ha53, hD53, hA53, fa53⟩ := q53
  refine G.eqs [] rfl ?_
  refine G.go tv_X11_undo 1 5 [(0, .ref (gAd E (0)))] [.ref (gAd E (0))] rfl ?_
  refine G.getf cls_X11 (0) 7 (by omega) (ha53.q0) (by decide) rfl (tbd tv_X11_undo rfl) w_570 ?_
  refine G.getf cls_X10 (25) 11 (by omega) (ha53.q25) (by decide) rfl (tbd tv_X11_undo rfl) w_423 ?_
  refine G.eq1 (b := gpI A53) (hA53.gp) ?_
  refine G.if_ne 17 (tbd tv_X11_undo rfl) (by decide) (fun c11 => ?_) (fun c11 => ?_)
  · replace hr := ite_f c11 hr
    refine G.go tv_X11_undo 1 18 [(0, .ref (gAd E (0)))] [.ref (gAd E (0))] rfl ?_
    obtain ⟨A54, D54, hv54, hr⟩ := bnd2_s hr
    refine G.callV (0) [] [] (k_X11_dropGroup E _ N B gr C53 D53 A53 hz ha53 hD53 hA53 A54 D54 hv54) cls_X11 (by omega) (ha53.q0) cw_X11_227 w_1325 w_28 (Nat.le_of_ble_eq_true rfl) rfl (Nat.le_of_ble_eq_true rfl) (tbd tv_X11_undo rfl) (fun v54w f54 q54 => ?_) (fun _ _ h => h.elim)
    obtain ⟨rfl, C54, ha54, hD54, hA54, fa54⟩ := q54
    refine G.eqs [] rfl ?_
    refine G.go tv_X11_undo 2 23 [(0, .ref (gAd E (0)))] [.int ((0 : Int32)), .ref (gAd E (0))] rfl ?_
    rcases bndF_s hr with ⟨v55, A55, D55, hv55, hr⟩ | ⟨ex55, A55, D55, hv55, rfl⟩
    rotate_left
    · skip
      refine G.callV (0) [.int ((0 : Int32))] [] (k_X11_commitLost E _ N B gr C54 D54 A54 hz ha54 hD54 hA54 ((0 : Int32)) _ hv55) cls_X11 (by omega) (ha54.q0) cw_X11_217 w_896 w_15 (Nat.le_of_ble_eq_true rfl) rfl (Nat.le_of_ble_eq_true rfl) (tbd tv_X11_undo rfl) (fun v55w f55 q55 => ?_) (fun X g q => FQ.fr q ((Fr.rf.tr fa53 (fun _ h => h)).tr fa54 (fun _ h => h)))
      exact q55.elim
    refine G.callV (0) [.int ((0 : Int32))] [] (k_X11_commitLost E _ N B gr C54 D54 A54 hz ha54 hD54 hA54 ((0 : Int32)) _ hv55) cls_X11 (by omega) (ha54.q0) cw_X11_217 w_896 w_15 (Nat.le_of_ble_eq_true rfl) rfl (Nat.le_of_ble_eq_true rfl) (tbd tv_X11_undo rfl) (fun v55w f55 q55 => ?_) (fun _ _ h => h.elim)
    obtain ⟨rfl, C55, ha55, hD55, hA55, fa55⟩ := q55
    refine G.eqs [] rfl ?_
    refine G.go tv_X11_undo 1 27 [(0, .ref (gAd E (0)))] [.int ((0 : Int32))] rfl ?_
    cases hr
    exact G.iret rfl rfl (FQ.ok rfl ⟨C55, ha55, hD55, hA55, (((Fr.rf.tr fa53 (fun _ h => h)).tr fa54 (fun _ h => h)).tr fa55 (fun _ h => h))⟩) (tbd tv_X11_undo rfl)
  · replace hr := ite_t c11 hr
    refine G.go tv_X11_undo 1 16 [(0, .ref (gAd E (0)))] [.int ((-9 : Int32))] rfl ?_
    cases hr
    exact G.iret rfl rfl (FQ.ok rfl ⟨C53, ha53, hD53, hA53, (Fr.rf.tr fa53 (fun _ h => h))⟩) (tbd tv_X11_undo rfl)
theorem w_1333 : Cond.methodLink "LedgerFiles" 230 yX9_flushAll ∈ TB := tp_5 227 (by decide +kernel) rfl
theorem cw_X11_230 : Cw RX11 230 yX9_flushAll cX9_flushAll 3 (some .int) 0 := ⟨w_1333, w_1276, w_154, by decide +kernel, by decide +kernel, by decide⟩
noncomputable def d_X11_flush (N B gr : Nat) (A : MS) (D : CfT) : Option (FR Int32) := bndF (d_X11_needMounted N B gr A D) (fun v56 A56 D56 => bndF (fFl N B gr A56 D56) (fun v57 A57 D57 => some (.inl (v57, A57, D57))))
set_option maxRecDepth 100000 in
set_option maxHeartbeats 4000000 in
theorem k_X11_flush (E : gE) (f : Nat → va_E) (N B gr : Nat) (C D : CfT) (A : MS) (hz : CfZ E N B gr) (h : CfV E f N B gr C) (hD : Dq D C) (hA : AR N B gr A C) (r : FR Int32) (hr : d_X11_flush N B gr A D = some r) : Ct E 11 yX11_flush cX11_flush 1 (some .int) [.ref (gAd E (0))] f (FQ E N B gr f (fun r => some (.int r)) r) := by
  obtain ⟨z1, z2, z3, z4, z5, z6, z7⟩ := id hz
  refine Ct.of (by decide) (Nat.le_of_ble_eq_true rfl) (fun sz => ?_)
  refine G.eql [(0, .ref (gAd E (0)))] rfl ?_
  unfold d_X11_flush at hr
  refine G.go tv_X11_flush 1 1 [(0, .ref (gAd E (0)))] [.ref (gAd E (0))] rfl ?_
  rcases bndF_s hr with ⟨v56, A56, D56, hv56, hr⟩ | ⟨ex56, A56, D56, hv56, rfl⟩
  rotate_left
  · skip
    refine G.callV (0) [] [] (k_X11_needMounted E _ N B gr C D A hz h hD hA _ hv56) cls_X11 (by omega) (h.q0) cw_X11_221 w_1320 w_27 (Nat.le_of_ble_eq_true rfl) rfl (Nat.le_of_ble_eq_true rfl) (tbd tv_X11_flush rfl) (fun v56w f56 q56 => ?_) (fun X g q => FQ.fr q Fr.rf)
    exact q56.elim
  refine G.callV (0) [] [] (k_X11_needMounted E _ N B gr C D A hz h hD hA _ hv56) cls_X11 (by omega) (h.q0) cw_X11_221 w_1320 w_27 (Nat.le_of_ble_eq_true rfl) rfl (Nat.le_of_ble_eq_true rfl) (tbd tv_X11_flush rfl) (fun v56w f56 q56 => ?_) (fun _ _ h => h.elim)
  obtain ⟨rfl, C56, ha56, hD56, hA56, fa56⟩ := q56
  refine G.eqs [] rfl ?_
  refine G.go tv_X11_flush 1 5 [(0, .ref (gAd E (0)))] [.ref (gAd E (0))] rfl ?_
  refine G.getf cls_X11 (0) 6 (by omega) (ha56.q0) (by decide) rfl (tbd tv_X11_flush rfl) w_569 ?_
  rcases bndF_s hr with ⟨v57, A57, D57, hv57, hr⟩ | ⟨ex57, A57, D57, hv57, rfl⟩
  rotate_left
  · skip
    refine G.callV (17) [] [] (k_X9_flushAll E _ N B gr C56 D56 A56 hz ha56 hD56 hA56 _ hv57) cls_X9 (by omega) (ha56.q17) cw_X11_230 w_1274 w_1275 (Nat.le_of_ble_eq_true rfl) rfl (Nat.le_of_ble_eq_true rfl) (tbd tv_X11_flush rfl) (fun v57w f57 q57 => ?_) (fun X g q => FQ.fr q (Fr.rf.tr fa56 (fun _ h => h)))
    exact q57.elim
  refine G.callV (17) [] [] (k_X9_flushAll E _ N B gr C56 D56 A56 hz ha56 hD56 hA56 _ hv57) cls_X9 (by omega) (ha56.q17) cw_X11_230 w_1274 w_1275 (Nat.le_of_ble_eq_true rfl) rfl (Nat.le_of_ble_eq_true rfl) (tbd tv_X11_flush rfl) (fun v57w f57 q57 => ?_) (fun _ _ h => h.elim)
  obtain ⟨rfl, C57, ha57, hD57, hA57, fa57⟩ := q57
  refine G.eqs [.int (v57)] rfl ?_
  cases hr
  exact G.iret rfl rfl (FQ.ok rfl ⟨C57, ha57, hD57, hA57, ((Fr.rf.tr fa56 (fun _ h => h)).tr fa57 (fun _ h => h))⟩) (tbd tv_X11_flush rfl)
theorem w_327 : Cond.fieldLink "LedgerFiles" 457 "LedgerFiles$Log" "entries" "I" ∈ TB := tp_1 181 (by decide +kernel) rfl
theorem w_885 : Cond.methodLink "LedgerFiles" 214 yX6_applyAll ∈ TB := tp_4 19 (by decide +kernel) rfl
theorem cw_X11_214 : Cw RX11 214 yX6_applyAll cX6_applyAll 3 none 0 := ⟨w_885, w_888, w_153, by decide +kernel, by decide +kernel, by decide⟩
noncomputable def d_X11_apply (N B gr : Nat) (A : MS) (D : CfT) : Option (FR Int32) := bndF (d_X11_needMounted N B gr A D) (fun v58 A58 D58 => bndF (fFl N B gr A58 D58) (fun v59 A59 D59 => bndF (fAp N B gr A59 D59) (fun v60 A60 D60 => some (.inl (nI A59.2.1.length, A60, D60)))))
set_option maxRecDepth 100000 in
set_option maxHeartbeats 4000000 in
theorem k_X11_apply (E : gE) (f : Nat → va_E) (N B gr : Nat) (C D : CfT) (A : MS) (hz : CfZ E N B gr) (h : CfV E f N B gr C) (hD : Dq D C) (hA : AR N B gr A C) (r : FR Int32) (hr : d_X11_apply N B gr A D = some r) : Ct E 11 yX11_apply cX11_apply 2 (some .int) [.ref (gAd E (0))] f (FQ E N B gr f (fun r => some (.int r)) r) := by
  obtain ⟨z1, z2, z3, z4, z5, z6, z7⟩ := id hz
  refine Ct.of (by decide) (Nat.le_of_ble_eq_true rfl) (fun sz => ?_)
  refine G.eql [(0, .ref (gAd E (0)))] rfl ?_
  unfold d_X11_apply at hr
  refine G.go tv_X11_apply 1 1 [(0, .ref (gAd E (0)))] [.ref (gAd E (0))] rfl ?_
  rcases bndF_s hr with ⟨v58, A58, D58, hv58, hr⟩ | ⟨ex58, A58, D58, hv58, rfl⟩
  rotate_left
  · skip
    refine G.callV (0) [] [] (k_X11_needMounted E _ N B gr C D A hz h hD hA _ hv58) cls_X11 (by omega) (h.q0) cw_X11_221 w_1320 w_27 (Nat.le_of_ble_eq_true rfl) rfl (Nat.le_of_ble_eq_true rfl) (tbd tv_X11_apply rfl) (fun v58w f58 q58 => ?_) (fun X g q => FQ.fr q Fr.rf)
    exact q58.elim
  refine G.callV (0) [] [] (k_X11_needMounted E _ N B gr C D A hz h hD hA _ hv58) cls_X11 (by omega) (h.q0) cw_X11_221 w_1320 w_27 (Nat.le_of_ble_eq_true rfl) rfl (Nat.le_of_ble_eq_true rfl) (tbd tv_X11_apply rfl) (fun v58w f58 q58 => ?_) (fun _ _ h => h.elim)
  obtain ⟨rfl, C58, ha58, hD58, hA58, fa58⟩ := q58
  refine G.eqs [] rfl ?_
  refine G.go tv_X11_apply 1 5 [(0, .ref (gAd E (0)))] [.ref (gAd E (0))] rfl ?_
  refine G.getf cls_X11 (0) 6 (by omega) (ha58.q0) (by decide) rfl (tbd tv_X11_apply rfl) w_569 ?_
  rcases bndF_s hr with ⟨v59, A59, D59, hv59, hr⟩ | ⟨ex59, A59, D59, hv59, rfl⟩
  rotate_left
  · skip
    refine G.callV (17) [] [] (k_X9_flushAll E _ N B gr C58 D58 A58 hz ha58 hD58 hA58 _ hv59) cls_X9 (by omega) (ha58.q17) cw_X11_230 w_1274 w_1275 (Nat.le_of_ble_eq_true rfl) rfl (Nat.le_of_ble_eq_true rfl) (tbd tv_X11_apply rfl) (fun v59w f59 q59 => ?_) (fun X g q => FQ.fr q (Fr.rf.tr fa58 (fun _ h => h)))
    exact q59.elim
  refine G.callV (17) [] [] (k_X9_flushAll E _ N B gr C58 D58 A58 hz ha58 hD58 hA58 _ hv59) cls_X9 (by omega) (ha58.q17) cw_X11_230 w_1274 w_1275 (Nat.le_of_ble_eq_true rfl) rfl (Nat.le_of_ble_eq_true rfl) (tbd tv_X11_apply rfl) (fun v59w f59 q59 => ?_) (fun _ _ h => h.elim)
  obtain ⟨rfl, C59, ha59, hD59, hA59, fa59⟩ := q59
  refine G.eqs [.int (v59)] rfl ?_
  refine G.go tv_X11_apply 2 13 [(0, .ref (gAd E (0)))] [.ref (gAd E (0))] rfl ?_
  refine G.getf cls_X11 (0) 5 (by omega) (ha59.q0) (by decide) rfl (tbd tv_X11_apply rfl) w_568 ?_
  refine G.getf cls_X6 (13) 5 (by omega) (ha59.q13) (by decide) rfl (tbd tv_X11_apply rfl) w_327 ?_
  refine G.eq1 (b := nI A59.2.1.length) (hA59.2.2.1.1) ?_
  refine G.go tv_X11_apply 2 21 [(0, .ref (gAd E (0))), (1, .int (nI A59.2.1.length))] [.ref (gAd E (0))] rfl ?_
  refine G.getf cls_X11 (0) 5 (by omega) (ha59.q0) (by decide) rfl (tbd tv_X11_apply rfl) w_568 ?_
  rcases bndF_s hr with ⟨v60, A60, D60, hv60, hr⟩ | ⟨ex60, A60, D60, hv60, rfl⟩
  rotate_left
  · skip
    refine G.callV (13) [] [] (k_X6_applyAll E _ N B gr C59 D59 A59 hz ha59 hD59 hA59 _ hv60) cls_X6 (by omega) (ha59.q13) cw_X11_214 w_886 w_887 (Nat.le_of_ble_eq_true rfl) rfl (Nat.le_of_ble_eq_true rfl) (tbd tv_X11_apply rfl) (fun v60w f60 q60 => ?_) (fun X g q => FQ.fr q ((Fr.rf.tr fa58 (fun _ h => h)).tr fa59 (fun _ h => h)))
    exact q60.elim
  refine G.callV (13) [] [] (k_X6_applyAll E _ N B gr C59 D59 A59 hz ha59 hD59 hA59 _ hv60) cls_X6 (by omega) (ha59.q13) cw_X11_214 w_886 w_887 (Nat.le_of_ble_eq_true rfl) rfl (Nat.le_of_ble_eq_true rfl) (tbd tv_X11_apply rfl) (fun v60w f60 q60 => ?_) (fun _ _ h => h.elim)
  obtain ⟨rfl, C60, ha60, hD60, hA60, fa60⟩ := q60
  refine G.eqs [] rfl ?_
  refine G.go tv_X11_apply 1 28 [(0, .ref (gAd E (0))), (1, .int (nI A59.2.1.length))] [.int (nI A59.2.1.length)] rfl ?_
  cases hr
  exact G.iret rfl rfl (FQ.ok rfl ⟨C60, ha60, hD60, hA60, (((Fr.rf.tr fa58 (fun _ h => h)).tr fa59 (fun _ h => h)).tr fa60 (fun _ h => h))⟩) (tbd tv_X11_apply rfl)
noncomputable def d_X11_needByte_26 (N B gr : Nat) (A : MS) (D : CfT) : Option (FR Unit) := some (.inr (3, A, D))
noncomputable def d_X11_needByte (N B gr : Nat) (A : MS) (D : CfT) (a0 : Int32) (a1 : Int32) : Option (FR Unit) := if a0 < 0 then d_X11_needByte_26 N B gr A D else if (nI N) ≤ a0 then d_X11_needByte_26 N B gr A D else if a1 < 0 then d_X11_needByte_26 N B gr A D else if a1 < ((128 : Int32)) then some (.inl ((), A, D)) else d_X11_needByte_26 N B gr A D
set_option maxRecDepth 100000 in
set_option maxHeartbeats 4000000 in
theorem l_X11_needByte_26 (E : gE) (f0 : Nat → va_E) (sz : Nat) (QA : Nat → Prop) (N B gr : Nat) (C0 : CfT) (hz : CfZ E N B gr) : ∀ (A : MS) (D : CfT) (r : FR Unit) (hr : d_X11_needByte_26 N B gr A D = some r) (f : Nat → va_E) (C : CfT) (h : CfV E f N B gr C) (hD : Dq D C) (hA : AR N B gr A C) (hf : Fr CfK f0 f), G E (7, yX11_needByte, 3, none, sz, QA) cX11_needByte (gO E (7, yX11_needByte, 3, none, sz, QA) (FQ E N B gr f0 (fun _ => none) r)) 26 [] [] f := by
  obtain ⟨z1, z2, z3, z4, z5, z6, z7⟩ := id hz
  intro A D r hr f C h hD hA hf
  unfold d_X11_needByte_26 at hr
  cases hr
  exact G.thrX (cls := "java/util/NoSuchElementException") (Yn := "java/lang/RuntimeException") (text := "no such block or byte") (r := ["java/lang/Exception"]) (ix := 13) (rx := prog_31_method_4_code) (by decide +kernel) (by decide +kernel) (by decide +kernel) (by decide +kernel) (by decide +kernel) (by decide +kernel) (by decide +kernel) w_1730 w_177 (own := "LedgerFiles") rfl (by decide +kernel) (by decide +kernel) at_X11_413 (tbd tv_X11_needByte rfl) (tbd tv_X11_needByte rfl) (tbd tv_X11_needByte rfl) (tbd tv_X11_needByte rfl) (tbd tv_X11_needByte rfl) (Nat.le_of_ble_eq_true rfl) (Nat.le_of_ble_eq_true rfl) (FQ.th (e := 2) rfl ⟨C, h, hD, hA, hf⟩)
set_option maxRecDepth 100000 in
set_option maxHeartbeats 4000000 in
theorem k_X11_needByte (E : gE) (f : Nat → va_E) (N B gr : Nat) (C D : CfT) (A : MS) (hz : CfZ E N B gr) (h : CfV E f N B gr C) (hD : Dq D C) (hA : AR N B gr A C) (a0 : Int32) (a1 : Int32) (r : FR Unit) (hr : d_X11_needByte N B gr A D a0 a1 = some r) : Ct E 7 yX11_needByte cX11_needByte 3 none [.ref (gAd E (0)), .int (a0), .int (a1)] f (FQ E N B gr f (fun _ => none) r) := by
  obtain ⟨z1, z2, z3, z4, z5, z6, z7⟩ := id hz
  refine Ct.of (by decide) (Nat.le_of_ble_eq_true rfl) (fun sz => ?_)
  refine G.eql [(0, .ref (gAd E (0))), (1, .int (a0)), (2, .int (a1))] rfl ?_
  unfold d_X11_needByte at hr
  refine G.go tv_X11_needByte 1 1 [(0, .ref (gAd E (0))), (1, .int (a0)), (2, .int (a1))] [.int (a0)] rfl ?_
  refine G.if_lt 26 (tbd tv_X11_needByte rfl) (by decide) (fun c1 => ?_) (fun c1 => ?_)
  · replace hr := ite_t c1 hr
    refine G.less [] [] rfl ?_
    exact l_X11_needByte_26 E f sz _ N B gr C hz _ _ _ hr _ _ h hD hA Fr.rf
  · replace hr := ite_f c1 hr
    refine G.go tv_X11_needByte 2 6 [(0, .ref (gAd E (0))), (1, .int (a0)), (2, .int (a1))] [.ref (gAd E (0)), .int (a0)] rfl ?_
    refine G.getf cls_X11 (0) 3 (by omega) (h.q0) (by decide) rfl (tbd tv_X11_needByte rfl) w_566 ?_
    refine G.getf cls_X2 (2) 0 (by omega) (h.q2) (by decide) rfl (tbd tv_X11_needByte rfl) w_229 ?_
    refine G.cmp_ge 26 (tbd tv_X11_needByte rfl) (by decide) (fun c12 => ?_) (fun c12 => ?_)
    · replace hr := ite_t c12 hr
      refine G.less [] [] rfl ?_
      exact l_X11_needByte_26 E f sz _ N B gr C hz _ _ _ hr _ _ h hD hA Fr.rf
    · replace hr := ite_f c12 hr
      refine G.go tv_X11_needByte 1 16 [(0, .ref (gAd E (0))), (1, .int (a0)), (2, .int (a1))] [.int (a1)] rfl ?_
      refine G.if_lt 26 (tbd tv_X11_needByte rfl) (by decide) (fun c16 => ?_) (fun c16 => ?_)
      · replace hr := ite_t c16 hr
        refine G.less [] [] rfl ?_
        exact l_X11_needByte_26 E f sz _ N B gr C hz _ _ _ hr _ _ h hD hA Fr.rf
      · replace hr := ite_f c16 hr
        refine G.go tv_X11_needByte 2 23 [(0, .ref (gAd E (0))), (1, .int (a0)), (2, .int (a1))] [.int ((128 : Int32)), .int (a1)] rfl ?_
        refine G.cmp_lt 37 (tbd tv_X11_needByte rfl) (by decide) (fun c23 => ?_) (fun c23 => ?_)
        · replace hr := ite_t c23 hr
          cases hr
          exact G.vret rfl (FQ.ok rfl ⟨C, h, hD, hA, Fr.rf⟩) (tbd tv_X11_needByte rfl)
        · replace hr := ite_f c23 hr
          refine G.less [] [] rfl ?_
          exact l_X11_needByte_26 E f sz _ N B gr C hz _ _ _ hr _ _ h hD hA Fr.rf
theorem w_1939 : Cond.methodLink "LedgerFiles" 490 yX10_see ∈ TB := tp_8 113 (by decide +kernel) rfl
theorem cw_X11_490 : Cw RX11 490 yX10_see cX10_see 2 (some (.array .byte)) 1 := ⟨w_1939, w_912, w_155, by decide +kernel, by decide +kernel, by decide⟩
noncomputable def d_X11_seen (N B gr : Nat) (A : MS) (D : CfT) (a0 : Int32) (a1 : Int32) : Option (FR Int32) := bndF (d_X11_needMounted N B gr A D) (fun v61 A61 D61 => bndF (d_X11_needByte N B gr A61 D61 a0 a1) (fun v62 A62 D62 => seeB N (vA A62) a0 (fun y64 => ld y64 128 a1 (fun v65 => some (.inl ((v65) &&& ((255 : Int32)), A62, D62))))))
set_option maxRecDepth 100000 in
set_option maxHeartbeats 4000000 in
theorem k_X11_seen (E : gE) (f : Nat → va_E) (N B gr : Nat) (C D : CfT) (A : MS) (hz : CfZ E N B gr) (h : CfV E f N B gr C) (hD : Dq D C) (hA : AR N B gr A C) (a0 : Int32) (a1 : Int32) (r : FR Int32) (hr : d_X11_seen N B gr A D a0 a1 = some r) : Ct E 8 yX11_seen cX11_seen 3 (some .int) [.ref (gAd E (0)), .int (a0), .int (a1)] f (FQ E N B gr f (fun r => some (.int r)) r) := by
  obtain ⟨z1, z2, z3, z4, z5, z6, z7⟩ := id hz
  refine Ct.of (by decide) (Nat.le_of_ble_eq_true rfl) (fun sz => ?_)
  refine G.eql [(0, .ref (gAd E (0))), (1, .int (a0)), (2, .int (a1))] rfl ?_
  unfold d_X11_seen at hr
  refine G.go tv_X11_seen 1 1 [(0, .ref (gAd E (0))), (1, .int (a0)), (2, .int (a1))] [.ref (gAd E (0))] rfl ?_
  rcases bndF_s hr with ⟨v61, A61, D61, hv61, hr⟩ | ⟨ex61, A61, D61, hv61, rfl⟩
  rotate_left
  · skip
    refine G.callV (0) [] [] (k_X11_needMounted E _ N B gr C D A hz h hD hA _ hv61) cls_X11 (by omega) (h.q0) cw_X11_221 w_1320 w_27 (Nat.le_of_ble_eq_true rfl) rfl (Nat.le_of_ble_eq_true rfl) (tbd tv_X11_seen rfl) (fun v61w f61 q61 => ?_) (fun X g q => FQ.fr q Fr.rf)
    exact q61.elim
  refine G.callV (0) [] [] (k_X11_needMounted E _ N B gr C D A hz h hD hA _ hv61) cls_X11 (by omega) (h.q0) cw_X11_221 w_1320 w_27 (Nat.le_of_ble_eq_true rfl) rfl (Nat.le_of_ble_eq_true rfl) (tbd tv_X11_seen rfl) (fun v61w f61 q61 => ?_) (fun _ _ h => h.elim)
  obtain ⟨rfl, C61, ha61, hD61, hA61, fa61⟩ := q61
  refine G.eqs [] rfl ?_
  refine G.go tv_X11_seen 3 7 [(0, .ref (gAd E (0))), (1, .int (a0)), (2, .int (a1))] [.int (a1), .int (a0), .ref (gAd E (0))] rfl ?_
  rcases bndF_s hr with ⟨v62, A62, D62, hv62, hr⟩ | ⟨ex62, A62, D62, hv62, rfl⟩
  rotate_left
  · skip
    refine G.callV (0) [.int (a0), .int (a1)] [] (k_X11_needByte E _ N B gr C61 D61 A61 hz ha61 hD61 hA61 a0 a1 _ hv62) cls_X11 (by omega) (ha61.q0) cw_X11_484 w_1922 w_43 (Nat.le_of_ble_eq_true rfl) rfl (Nat.le_of_ble_eq_true rfl) (tbd tv_X11_seen rfl) (fun v62w f62 q62 => ?_) (fun X g q => FQ.fr q (Fr.rf.tr fa61 (fun _ h => h)))
    exact q62.elim
  refine G.callV (0) [.int (a0), .int (a1)] [] (k_X11_needByte E _ N B gr C61 D61 A61 hz ha61 hD61 hA61 a0 a1 _ hv62) cls_X11 (by omega) (ha61.q0) cw_X11_484 w_1922 w_43 (Nat.le_of_ble_eq_true rfl) rfl (Nat.le_of_ble_eq_true rfl) (tbd tv_X11_seen rfl) (fun v62w f62 q62 => ?_) (fun _ _ h => h.elim)
  obtain ⟨rfl, C62, ha62, hD62, hA62, fa62⟩ := q62
  refine G.eqs [] rfl ?_
  refine G.go tv_X11_seen 1 11 [(0, .ref (gAd E (0))), (1, .int (a0)), (2, .int (a1))] [.ref (gAd E (0))] rfl ?_
  refine G.getf cls_X11 (0) 7 (by omega) (ha62.q0) (by decide) rfl (tbd tv_X11_seen rfl) w_570 ?_
  refine G.go tv_X11_seen 1 15 [(0, .ref (gAd E (0))), (1, .int (a0)), (2, .int (a1))] [.int (a0), .ref (gAd E (25))] rfl ?_
  obtain ⟨y64, b64, e64, hr⟩ := seeB_s hr
  refine G.callV (25) [.int (a0)] [] (k_see E _ N B gr C62 A62 hz ha62 hA62 _ b64 _ e64) cls_X10 (by omega) (ha62.q25) cw_X11_490 w_910 w_911 (Nat.le_of_ble_eq_true rfl) rfl (Nat.le_of_ble_eq_true rfl) (tbd tv_X11_seen rfl) (fun v64w f64 q64 => ?_) (fun _ _ h => h.elim)
  obtain ⟨⟨k64, rfl, w64⟩, ha64, fa64⟩ := q64
  refine G.eqs [.ref (gAd E (k64))] rfl ?_
  refine G.go tv_X11_seen 1 19 [(0, .ref (gAd E (0))), (1, .int (a0)), (2, .int (a1))] [.int (a1), .ref (gAd E (k64))] rfl ?_
  obtain ⟨v65, b65, e65, hr⟩ := ld_s hr
  refine G.arld hz ha64 (w64) b65 e65 (tbd tv_X11_seen rfl) ?_
  refine G.go tv_X11_seen 2 24 [(0, .ref (gAd E (0))), (1, .int (a0)), (2, .int (a1))] [.int ((v65) &&& ((255 : Int32)))] rfl ?_
  cases hr
  exact G.iret rfl rfl (FQ.ok rfl ⟨C62, ha64, hD62, hA62, (((Fr.rf.tr fa61 (fun _ h => h)).tr fa62 (fun _ h => h)).tr fa64 (fun _ h => h))⟩) (tbd tv_X11_seen rfl)
theorem w_1947 : Cond.constantLong "LedgerFiles" 493 (17 : Int64) ∈ TB := tp_8 121 (by decide +kernel) rfl
theorem w_1950 : Cond.methodLink "LedgerFiles" 499 yX4_hashName ∈ TB := tp_8 124 (by decide +kernel) rfl
theorem w_1953 : Cond.code yX4_hashName prog_6_method_8_code 8 (some .long) ∈ TB := tp_8 127 rfl rfl
theorem cw_X11_499 : Cw RX11 499 yX4_hashName cX4_hashName 8 (some .long) 3 := ⟨w_1950, w_1953, w_158, by decide +kernel, by decide +kernel, by decide⟩
theorem w_1951 : Cond.instanceMethod yX4_hashName ∈ TB := tp_8 125 (by decide +kernel) rfl
theorem w_1952 : Cond.selects "LedgerFiles$Folders" yX4_hashName yX4_hashName ∈ TB := tp_8 126 (by decide +kernel) rfl
theorem w_1948 : Cond.constantLong "LedgerFiles" 495 (31 : Int64) ∈ TB := tp_8 122 (by decide +kernel) rfl
theorem w_1955 : Cond.methodLink "LedgerFiles" 503 yX3_hashBytes ∈ TB := tp_8 129 (by decide +kernel) rfl
theorem w_1958 : Cond.code yX3_hashBytes prog_5_method_8_code 10 (some .long) ∈ TB := tp_8 132 rfl rfl
theorem cw_X11_503 : Cw RX11 503 yX3_hashBytes cX3_hashBytes 10 (some .long) 2 := ⟨w_1955, w_1958, w_159, by decide +kernel, by decide +kernel, by decide⟩
theorem w_1956 : Cond.instanceMethod yX3_hashBytes ∈ TB := tp_8 130 (by decide +kernel) rfl
theorem w_1957 : Cond.selects "LedgerFiles$Files" yX3_hashBytes yX3_hashBytes ∈ TB := tp_8 131 (by decide +kernel) rfl
theorem w_1949 : Cond.constantLong "LedgerFiles" 497 (3 : Int64) ∈ TB := tp_8 123 (by decide +kernel) rfl
noncomputable def d_X11_tree_240 (N B gr : Nat) (self28 : MS → CfT → Int32 → Int64 → Int32 → Int32 → Option (FR Int64)) (A : MS) (D : CfT) (x1 : Int32) (x2 : Int64) (x4 : Int32) (x5 : Int32) : Option (FR Int64) := self28 A D x1 x2 x4 (x5 + (1 : Int32))
noncomputable def d_X11_tree_28 (N B gr : Nat) : Nat → MS → CfT → Int32 → Int64 → Int32 → Int32 → Option (FR Int64)
  | 0, _, _, _, _, _, _ => none
  | n + 1, A, D, x1, x2, x4, x5 => if x4 < 0 then some (.inl (x2, A, D)) else if ((1000000 : Int32)) ≤ x5 then some (.inl (x2, A, D)) else ld (cA D 54) 65 x4 (fun v69 => ld (cA D 55) 65 x4 (fun v70 => bnd (d_X4_slots N (vA A) D v69) (fun v71 => if v70 < v71 then ld (cA D 55) 65 x4 (fun v72 => stA D 55 65 x4 ((v72) + ((1 : Int32))) (fun D73 => bnd (d_X4_inodeAt N (vA A) D73 v69 v70) (fun v74 => if v74 = 0 then d_X11_tree_240 N B gr (d_X11_tree_28 N B gr n) A D73 x1 x2 x4 x5 else bnd (d_X7_kind N (vA A) D73 v74) (fun v75 => bnd (d_X4_hashName N (vA A) D73 x2 v69 v70) (fun v76 => bnd (d_X7_size N (vA A) D73 v74) (fun v77 => bnd (d_X7_markOf N (vA A) D73 v74) (fun v78 => if v75 = ((2 : Int32)) then if ((64 : Int32)) ≤ x4 then if v75 = ((1 : Int32)) then if x1 = 0 then d_X11_tree_240 N B gr (d_X11_tree_28 N B gr n) A D73 x1 ((((((v76) + ((v75 : Int32).toInt64)) * ((31 : Int64))) + ((v77 : Int32).toInt64)) * ((31 : Int64))) + ((v78 : Int32).toInt64)) x4 x5 else bnd2 (d_X3_hashBytes N (vA A) D73 ((((((v76) + ((v75 : Int32).toInt64)) * ((31 : Int64))) + ((v77 : Int32).toInt64)) * ((31 : Int64))) + ((v78 : Int32).toInt64)) v74) (fun v80 D80 => d_X11_tree_240 N B gr (d_X11_tree_28 N B gr n) A D80 x1 v80 x4 x5) else d_X11_tree_240 N B gr (d_X11_tree_28 N B gr n) A D73 x1 ((((((v76) + ((v75 : Int32).toInt64)) * ((31 : Int64))) + ((v77 : Int32).toInt64)) * ((31 : Int64))) + ((v78 : Int32).toInt64)) x4 x5 else stA D73 54 65 (x4 + (1 : Int32)) v74 (fun D81 => stA D81 55 65 (x4 + (1 : Int32)) ((0 : Int32)) (fun D82 => d_X11_tree_240 N B gr (d_X11_tree_28 N B gr n) A D82 x1 ((((((v76) + ((v75 : Int32).toInt64)) * ((31 : Int64))) + ((v77 : Int32).toInt64)) * ((31 : Int64))) + ((v78 : Int32).toInt64)) (x4 + (1 : Int32)) x5)) else if v75 = ((1 : Int32)) then if x1 = 0 then d_X11_tree_240 N B gr (d_X11_tree_28 N B gr n) A D73 x1 ((((((v76) + ((v75 : Int32).toInt64)) * ((31 : Int64))) + ((v77 : Int32).toInt64)) * ((31 : Int64))) + ((v78 : Int32).toInt64)) x4 x5 else bnd2 (d_X3_hashBytes N (vA A) D73 ((((((v76) + ((v75 : Int32).toInt64)) * ((31 : Int64))) + ((v77 : Int32).toInt64)) * ((31 : Int64))) + ((v78 : Int32).toInt64)) v74) (fun v79 D79 => d_X11_tree_240 N B gr (d_X11_tree_28 N B gr n) A D79 x1 v79 x4 x5) else d_X11_tree_240 N B gr (d_X11_tree_28 N B gr n) A D73 x1 ((((((v76) + ((v75 : Int32).toInt64)) * ((31 : Int64))) + ((v77 : Int32).toInt64)) * ((31 : Int64))) + ((v78 : Int32).toInt64)) x4 x5))))))) else d_X11_tree_240 N B gr (d_X11_tree_28 N B gr n) A D x1 (((x2) * ((31 : Int64))) + ((3 : Int64))) (x4 + (-1 : Int32)) x5)))
noncomputable def d_X11_tree (N B gr : Nat) (A : MS) (D : CfT) (a0 : Int32) : Option (FR Int64) := bndF (d_X11_needMounted N B gr A D) (fun v66 A66 D66 => stA D66 54 65 ((0 : Int32)) ((1 : Int32)) (fun D67 => stA D67 55 65 ((0 : Int32)) ((0 : Int32)) (fun D68 => d_X11_tree_28 N B gr fuL A66 D68 a0 ((17 : Int64)) ((0 : Int32)) ((0 : Int32)))))
set_option maxRecDepth 100000 in
set_option maxHeartbeats 4000000 in
theorem l_X11_tree_240 (E : gE) (f0 : Nat → va_E) (sz : Nat) (QA : Nat → Prop) (N B gr : Nat) (C0 : CfT) (hz : CfZ E N B gr) (self28 : MS → CfT → Int32 → Int64 → Int32 → Int32 → Option (FR Int64)) (hs28 : ∀ (A : MS) (D : CfT) (x1 : Int32) (x2 : Int64) (x4 : Int32) (x5 : Int32) (r : FR Int64) (hr : self28 A D x1 x2 x4 x5 = some r) (f : Nat → va_E) (C : CfT) (h : CfV E f N B gr C) (hD : Dq D C) (hA : AR N B gr A C) (hf : Fr CfK f0 f), G E (8, yX11_tree, 10, (some .long), sz, QA) cX11_tree (gO E (8, yX11_tree, 10, (some .long), sz, QA) (FQ E N B gr f0 (fun r => some (.long r)) r)) 28 [(0, .ref (gAd E (0))), (1, .int (x1)), (2, .long (x2)), (4, .int (x4)), (5, .int (x5))] [] f) : ∀ (A : MS) (D : CfT) (x1 : Int32) (x2 : Int64) (x4 : Int32) (x5 : Int32) (r : FR Int64) (hr : d_X11_tree_240 N B gr self28 A D x1 x2 x4 x5 = some r) (f : Nat → va_E) (C : CfT) (h : CfV E f N B gr C) (hD : Dq D C) (hA : AR N B gr A C) (hf : Fr CfK f0 f), G E (8, yX11_tree, 10, (some .long), sz, QA) cX11_tree (gO E (8, yX11_tree, 10, (some .long), sz, QA) (FQ E N B gr f0 (fun r => some (.long r)) r)) 240 [(0, .ref (gAd E (0))), (1, .int (x1)), (2, .long (x2)), (4, .int (x4)), (5, .int (x5))] [] f := by
  obtain ⟨z1, z2, z3, z4, z5, z6, z7⟩ := id hz
  intro A D x1 x2 x4 x5 r hr f C h hD hA hf
  unfold d_X11_tree_240 at hr
  refine G.go tv_X11_tree 2 28 [(0, .ref (gAd E (0))), (1, .int (x1)), (2, .long (x2)), (4, .int (x4)), (5, .int (x5 + (1 : Int32)))] [] rfl ?_
  refine G.less [(0, .ref (gAd E (0))), (1, .int (x1)), (2, .long (x2)), (4, .int (x4)), (5, .int (x5 + (1 : Int32)))] [0, 1, 2, 3, 4] rfl ?_
  exact hs28 _ _ _ _ _ _ _ hr _ _ h hD hA hf
set_option maxRecDepth 100000 in
set_option maxHeartbeats 4000000 in
theorem l_X11_tree_28 (E : gE) (f0 : Nat → va_E) (sz : Nat) (QA : Nat → Prop) (N B gr : Nat) (C0 : CfT) (hz : CfZ E N B gr) : ∀ (n : Nat), ∀ (A : MS) (D : CfT) (x1 : Int32) (x2 : Int64) (x4 : Int32) (x5 : Int32) (r : FR Int64) (hr : d_X11_tree_28 N B gr n A D x1 x2 x4 x5 = some r) (f : Nat → va_E) (C : CfT) (h : CfV E f N B gr C) (hD : Dq D C) (hA : AR N B gr A C) (hf : Fr CfK f0 f), G E (8, yX11_tree, 10, (some .long), sz, QA) cX11_tree (gO E (8, yX11_tree, 10, (some .long), sz, QA) (FQ E N B gr f0 (fun r => some (.long r)) r)) 28 [(0, .ref (gAd E (0))), (1, .int (x1)), (2, .long (x2)), (4, .int (x4)), (5, .int (x5))] [] f := by
  obtain ⟨z1, z2, z3, z4, z5, z6, z7⟩ := id hz
  intro n
  induction n with
  | zero =>
    intro A D x1 x2 x4 x5 r hr f C h hD hA hf
    cases hr
  | succ n ih =>
    intro A D x1 x2 x4 x5 r hr f C h hD hA hf
    unfold d_X11_tree_28 at hr
    refine G.go tv_X11_tree 1 30 [(0, .ref (gAd E (0))), (1, .int (x1)), (2, .long (x2)), (4, .int (x4)), (5, .int (x5))] [.int (x4)] rfl ?_
    refine G.if_lt 246 (tbd tv_X11_tree rfl) (by decide) (fun c30 => ?_) (fun c30 => ?_)
    · replace hr := ite_t c30 hr
      refine G.go tv_X11_tree 1 247 [(0, .ref (gAd E (0))), (1, .int (x1)), (2, .long (x2)), (4, .int (x4)), (5, .int (x5))] [.long (x2)] rfl ?_
      cases hr
      exact G.lret rfl (FQ.ok rfl ⟨C, h, hD, hA, hf⟩) (tbd tv_X11_tree rfl)
    · replace hr := ite_f c30 hr
      refine G.go tv_X11_tree 1 35 [(0, .ref (gAd E (0))), (1, .int (x1)), (2, .long (x2)), (4, .int (x4)), (5, .int (x5))] [.int (x5)] rfl ?_
      refine G.ldcw (1000000) (tbd tv_X11_tree rfl) w_1535 ?_
      refine G.cmp_ge 246 (tbd tv_X11_tree rfl) (by decide) (fun c38 => ?_) (fun c38 => ?_)
      · replace hr := ite_t c38 hr
        refine G.go tv_X11_tree 1 247 [(0, .ref (gAd E (0))), (1, .int (x1)), (2, .long (x2)), (4, .int (x4)), (5, .int (x5))] [.long (x2)] rfl ?_
        cases hr
        exact G.lret rfl (FQ.ok rfl ⟨C, h, hD, hA, hf⟩) (tbd tv_X11_tree rfl)
      · replace hr := ite_f c38 hr
        refine G.go tv_X11_tree 1 42 [(0, .ref (gAd E (0))), (1, .int (x1)), (2, .long (x2)), (4, .int (x4)), (5, .int (x5))] [.ref (gAd E (0))] rfl ?_
        refine G.getf cls_X11 (0) 16 (by omega) (h.q0) (by decide) rfl (tbd tv_X11_tree rfl) w_579 ?_
        refine G.go tv_X11_tree 1 47 [(0, .ref (gAd E (0))), (1, .int (x1)), (2, .long (x2)), (4, .int (x4)), (5, .int (x5))] [.int (x4), .ref (gAd E (54))] rfl ?_
        obtain ⟨v69, b69, e69, hr⟩ := ld_s hr
        refine G.ialdE (54) (by omega) ((h.q54).trans (congrArg (oI (gDA E) (65)) (hD.2 54 (by decide)))) b69 e69 (tbd tv_X11_tree rfl) ?_
        refine G.go tv_X11_tree 2 51 [(0, .ref (gAd E (0))), (1, .int (x1)), (2, .long (x2)), (4, .int (x4)), (5, .int (x5)), (6, .int (v69))] [.ref (gAd E (0))] rfl ?_
        refine G.getf cls_X11 (0) 17 (by omega) (h.q0) (by decide) rfl (tbd tv_X11_tree rfl) w_580 ?_
        refine G.go tv_X11_tree 1 56 [(0, .ref (gAd E (0))), (1, .int (x1)), (2, .long (x2)), (4, .int (x4)), (5, .int (x5)), (6, .int (v69))] [.int (x4), .ref (gAd E (55))] rfl ?_
        obtain ⟨v70, b70, e70, hr⟩ := ld_s hr
        refine G.ialdE (55) (by omega) ((h.q55).trans (congrArg (oI (gDA E) (65)) (hD.2 55 (by decide)))) b70 e70 (tbd tv_X11_tree rfl) ?_
        refine G.go tv_X11_tree 3 62 [(0, .ref (gAd E (0))), (1, .int (x1)), (2, .long (x2)), (4, .int (x4)), (5, .int (x5)), (6, .int (v69)), (7, .int (v70))] [.ref (gAd E (0)), .int (v70)] rfl ?_
        refine G.getf cls_X11 (0) 10 (by omega) (h.q0) (by decide) rfl (tbd tv_X11_tree rfl) w_573 ?_
        refine G.go tv_X11_tree 1 67 [(0, .ref (gAd E (0))), (1, .int (x1)), (2, .long (x2)), (4, .int (x4)), (5, .int (x5)), (6, .int (v69)), (7, .int (v70))] [.int (v69), .ref (gAd E (40)), .int (v70)] rfl ?_
        obtain ⟨v71, hv71, hr⟩ := bnd_s hr
        refine G.callV (40) [.int (v69)] [.int (v70)] (k_X4_slots E _ N B gr C D A hz h hD hA v69 v71 hv71) cls_X4 (by omega) (h.q40) cw_X11_336 w_1365 w_1366 (Nat.le_of_ble_eq_true rfl) rfl (Nat.le_of_ble_eq_true rfl) (tbd tv_X11_tree rfl) (fun v71w f71 q71 => ?_) (fun _ _ h => h.elim)
        obtain ⟨rfl, ha71, fa71⟩ := q71
        refine G.eqs [.int (v71), .int (v70)] rfl ?_
        refine G.cmp_lt 89 (tbd tv_X11_tree rfl) (by decide) (fun c70 => ?_) (fun c70 => ?_)
        · replace hr := ite_t c70 hr
          refine G.go tv_X11_tree 1 90 [(0, .ref (gAd E (0))), (1, .int (x1)), (2, .long (x2)), (4, .int (x4)), (5, .int (x5)), (6, .int (v69)), (7, .int (v70))] [.ref (gAd E (0))] rfl ?_
          refine G.getf cls_X11 (0) 17 (by omega) (ha71.q0) (by decide) rfl (tbd tv_X11_tree rfl) w_580 ?_
          refine G.go tv_X11_tree 2 96 [(0, .ref (gAd E (0))), (1, .int (x1)), (2, .long (x2)), (4, .int (x4)), (5, .int (x5)), (6, .int (v69)), (7, .int (v70))] [.int (x4), .ref (gAd E (55)), .int (x4), .ref (gAd E (55))] rfl ?_
          obtain ⟨v72, b72, e72, hr⟩ := ld_s hr
          refine G.ialdE (55) (by omega) ((ha71.q55).trans (congrArg (oI (gDA E) (65)) (hD.2 55 (by decide)))) b72 e72 (tbd tv_X11_tree rfl) ?_
          refine G.go tv_X11_tree 2 99 [(0, .ref (gAd E (0))), (1, .int (x1)), (2, .long (x2)), (4, .int (x4)), (5, .int (x5)), (6, .int (v69)), (7, .int (v70))] [.int ((v72) + ((1 : Int32))), .int (x4), .ref (gAd E (55))] rfl ?_
          obtain ⟨D73, b73, eD73, hr⟩ := stA_s hr
          refine G.iast (55) (by omega) (ha71.q55) b73 (tbd tv_X11_tree rfl) ?_
          refine G.gen (P := SN E N B gr f0 A D73) ⟨sA C 55 (upd (cA C 55) x4.toNatClampNeg ((v72) + ((1 : Int32)))), ha71.p55 _, (by rw [eD73]; exact hD.au (by decide)), hA.sm (Sd.a (by decide) : Sd C (sA C 55 (upd (cA C 55) x4.toNatClampNeg ((v72) + ((1 : Int32)))))), Fr.c (hf.tr fa71 (fun _ h => h)) (by first | exact Or.inl (by decide) | exact Or.inr (by omega))⟩ (fun u73 p73 => ?_)
          obtain ⟨C73, h73, hD73, hA73, k73⟩ := p73
          refine G.go tv_X11_tree 1 101 [(0, .ref (gAd E (0))), (1, .int (x1)), (2, .long (x2)), (4, .int (x4)), (5, .int (x5)), (6, .int (v69)), (7, .int (v70))] [.ref (gAd E (0))] rfl ?_
          refine G.getf cls_X11 (0) 10 (by omega) (h73.q0) (by decide) rfl (tbd tv_X11_tree rfl) w_573 ?_
          refine G.go tv_X11_tree 2 108 [(0, .ref (gAd E (0))), (1, .int (x1)), (2, .long (x2)), (4, .int (x4)), (5, .int (x5)), (6, .int (v69)), (7, .int (v70))] [.int (v70), .int (v69), .ref (gAd E (40))] rfl ?_
          obtain ⟨v74, hv74, hr⟩ := bnd_s hr
          refine G.callV (40) [.int (v69), .int (v70)] [] (k_X4_inodeAt E _ N B gr C73 D73 A hz h73 hD73 hA73 v69 v70 v74 hv74) cls_X4 (by omega) (h73.q40) cw_X11_316 w_1380 w_1381 (Nat.le_of_ble_eq_true rfl) rfl (Nat.le_of_ble_eq_true rfl) (tbd tv_X11_tree rfl) (fun v74w f74 q74 => ?_) (fun _ _ h => h.elim)
          obtain ⟨rfl, ha74, fa74⟩ := q74
          refine G.eqs [.int (v74)] rfl ?_
          refine G.go tv_X11_tree 2 115 [(0, .ref (gAd E (0))), (1, .int (x1)), (2, .long (x2)), (4, .int (x4)), (5, .int (x5)), (6, .int (v69)), (7, .int (v70)), (8, .int (v74))] [.int (v74)] rfl ?_
          refine G.if_ne 121 (tbd tv_X11_tree rfl) (by decide) (fun c115 => ?_) (fun c115 => ?_)
          · replace hr := ite_f c115 hr
            refine G.go tv_X11_tree 1 122 [(0, .ref (gAd E (0))), (1, .int (x1)), (2, .long (x2)), (4, .int (x4)), (5, .int (x5)), (6, .int (v69)), (7, .int (v70)), (8, .int (v74))] [.ref (gAd E (0))] rfl ?_
            refine G.getf cls_X11 (0) 8 (by omega) (ha74.q0) (by decide) rfl (tbd tv_X11_tree rfl) w_571 ?_
            refine G.go tv_X11_tree 1 127 [(0, .ref (gAd E (0))), (1, .int (x1)), (2, .long (x2)), (4, .int (x4)), (5, .int (x5)), (6, .int (v69)), (7, .int (v70)), (8, .int (v74))] [.int (v74), .ref (gAd E (37))] rfl ?_
            obtain ⟨v75, hv75, hr⟩ := bnd_s hr
            refine G.callV (37) [.int (v74)] [] (k_X7_kind E _ N B gr C73 D73 A hz ha74 hD73 hA73 v74 v75 hv75) cls_X7 (by omega) (ha74.q37) cw_X11_250 w_903 w_904 (Nat.le_of_ble_eq_true rfl) rfl (Nat.le_of_ble_eq_true rfl) (tbd tv_X11_tree rfl) (fun v75w f75 q75 => ?_) (fun _ _ h => h.elim)
            obtain ⟨rfl, ha75, fa75⟩ := q75
            refine G.eqs [.int (v75)] rfl ?_
            refine G.go tv_X11_tree 2 133 [(0, .ref (gAd E (0))), (1, .int (x1)), (2, .long (x2)), (4, .int (x4)), (5, .int (x5)), (6, .int (v69)), (7, .int (v70)), (8, .int (v74)), (9, .int (v75))] [.ref (gAd E (0))] rfl ?_
            refine G.getf cls_X11 (0) 10 (by omega) (ha75.q0) (by decide) rfl (tbd tv_X11_tree rfl) w_573 ?_
            refine G.go tv_X11_tree 3 141 [(0, .ref (gAd E (0))), (1, .int (x1)), (2, .long (x2)), (4, .int (x4)), (5, .int (x5)), (6, .int (v69)), (7, .int (v70)), (8, .int (v74)), (9, .int (v75))] [.int (v70), .int (v69), .long (x2), .ref (gAd E (40))] rfl ?_
            obtain ⟨v76, hv76, hr⟩ := bnd_s hr
            refine G.callV (40) [.long (x2), .int (v69), .int (v70)] [] (k_X4_hashName E _ N B gr C73 D73 A hz ha75 hD73 hA73 x2 v69 v70 v76 hv76) cls_X4 (by omega) (ha75.q40) cw_X11_499 w_1951 w_1952 (Nat.le_of_ble_eq_true rfl) rfl (Nat.le_of_ble_eq_true rfl) (tbd tv_X11_tree rfl) (fun v76w f76 q76 => ?_) (fun _ _ h => h.elim)
            obtain ⟨rfl, ha76, fa76⟩ := q76
            refine G.eqs [.long (v76)] rfl ?_
            refine G.go tv_X11_tree 5 150 [(0, .ref (gAd E (0))), (1, .int (x1)), (2, .long ((v76) + ((v75 : Int32).toInt64))), (4, .int (x4)), (5, .int (x5)), (6, .int (v69)), (7, .int (v70)), (8, .int (v74)), (9, .int (v75))] [.long ((v76) + ((v75 : Int32).toInt64))] rfl ?_
            refine G.ldc2 (31) (tbd tv_X11_tree rfl) w_1948 ?_
            refine G.go tv_X11_tree 2 155 [(0, .ref (gAd E (0))), (1, .int (x1)), (2, .long ((v76) + ((v75 : Int32).toInt64))), (4, .int (x4)), (5, .int (x5)), (6, .int (v69)), (7, .int (v70)), (8, .int (v74)), (9, .int (v75))] [.ref (gAd E (0)), .long (((v76) + ((v75 : Int32).toInt64)) * ((31 : Int64)))] rfl ?_
            refine G.getf cls_X11 (0) 8 (by omega) (ha76.q0) (by decide) rfl (tbd tv_X11_tree rfl) w_571 ?_
            refine G.go tv_X11_tree 1 160 [(0, .ref (gAd E (0))), (1, .int (x1)), (2, .long ((v76) + ((v75 : Int32).toInt64))), (4, .int (x4)), (5, .int (x5)), (6, .int (v69)), (7, .int (v70)), (8, .int (v74)), (9, .int (v75))] [.int (v74), .ref (gAd E (37)), .long (((v76) + ((v75 : Int32).toInt64)) * ((31 : Int64)))] rfl ?_
            obtain ⟨v77, hv77, hr⟩ := bnd_s hr
            refine G.callV (37) [.int (v74)] [.long (((v76) + ((v75 : Int32).toInt64)) * ((31 : Int64)))] (k_X7_size E _ N B gr C73 D73 A hz ha76 hD73 hA73 v74 v77 hv77) cls_X7 (by omega) (ha76.q37) cw_X11_362 w_941 w_942 (Nat.le_of_ble_eq_true rfl) rfl (Nat.le_of_ble_eq_true rfl) (tbd tv_X11_tree rfl) (fun v77w f77 q77 => ?_) (fun _ _ h => h.elim)
            obtain ⟨rfl, ha77, fa77⟩ := q77
            refine G.eqs [.int (v77), .long (((v76) + ((v75 : Int32).toInt64)) * ((31 : Int64)))] rfl ?_
            refine G.go tv_X11_tree 4 167 [(0, .ref (gAd E (0))), (1, .int (x1)), (2, .long ((((v76) + ((v75 : Int32).toInt64)) * ((31 : Int64))) + ((v77 : Int32).toInt64))), (4, .int (x4)), (5, .int (x5)), (6, .int (v69)), (7, .int (v70)), (8, .int (v74)), (9, .int (v75))] [.long ((((v76) + ((v75 : Int32).toInt64)) * ((31 : Int64))) + ((v77 : Int32).toInt64))] rfl ?_
            refine G.ldc2 (31) (tbd tv_X11_tree rfl) w_1948 ?_
            refine G.go tv_X11_tree 2 172 [(0, .ref (gAd E (0))), (1, .int (x1)), (2, .long ((((v76) + ((v75 : Int32).toInt64)) * ((31 : Int64))) + ((v77 : Int32).toInt64))), (4, .int (x4)), (5, .int (x5)), (6, .int (v69)), (7, .int (v70)), (8, .int (v74)), (9, .int (v75))] [.ref (gAd E (0)), .long (((((v76) + ((v75 : Int32).toInt64)) * ((31 : Int64))) + ((v77 : Int32).toInt64)) * ((31 : Int64)))] rfl ?_
            refine G.getf cls_X11 (0) 8 (by omega) (ha77.q0) (by decide) rfl (tbd tv_X11_tree rfl) w_571 ?_
            refine G.go tv_X11_tree 1 177 [(0, .ref (gAd E (0))), (1, .int (x1)), (2, .long ((((v76) + ((v75 : Int32).toInt64)) * ((31 : Int64))) + ((v77 : Int32).toInt64))), (4, .int (x4)), (5, .int (x5)), (6, .int (v69)), (7, .int (v70)), (8, .int (v74)), (9, .int (v75))] [.int (v74), .ref (gAd E (37)), .long (((((v76) + ((v75 : Int32).toInt64)) * ((31 : Int64))) + ((v77 : Int32).toInt64)) * ((31 : Int64)))] rfl ?_
            obtain ⟨v78, hv78, hr⟩ := bnd_s hr
            refine G.callV (37) [.int (v74)] [.long (((((v76) + ((v75 : Int32).toInt64)) * ((31 : Int64))) + ((v77 : Int32).toInt64)) * ((31 : Int64)))] (k_X7_markOf E _ N B gr C73 D73 A hz ha77 hD73 hA73 v74 v78 hv78) cls_X7 (by omega) (ha77.q37) cw_X11_395 w_1563 w_1564 (Nat.le_of_ble_eq_true rfl) rfl (Nat.le_of_ble_eq_true rfl) (tbd tv_X11_tree rfl) (fun v78w f78 q78 => ?_) (fun _ _ h => h.elim)
            obtain ⟨rfl, ha78, fa78⟩ := q78
            refine G.eqs [.int (v78), .long (((((v76) + ((v75 : Int32).toInt64)) * ((31 : Int64))) + ((v77 : Int32).toInt64)) * ((31 : Int64)))] rfl ?_
            refine G.go tv_X11_tree 5 186 [(0, .ref (gAd E (0))), (1, .int (x1)), (2, .long ((((((v76) + ((v75 : Int32).toInt64)) * ((31 : Int64))) + ((v77 : Int32).toInt64)) * ((31 : Int64))) + ((v78 : Int32).toInt64))), (4, .int (x4)), (5, .int (x5)), (6, .int (v69)), (7, .int (v70)), (8, .int (v74)), (9, .int (v75))] [.int ((2 : Int32)), .int (v75)] rfl ?_
            refine G.cmp_ne 219 (tbd tv_X11_tree rfl) (by decide) (fun c186 => ?_) (fun c186 => ?_)
            · replace hr := ite_f c186 hr
              refine G.go tv_X11_tree 2 222 [(0, .ref (gAd E (0))), (1, .int (x1)), (2, .long ((((((v76) + ((v75 : Int32).toInt64)) * ((31 : Int64))) + ((v77 : Int32).toInt64)) * ((31 : Int64))) + ((v78 : Int32).toInt64))), (4, .int (x4)), (5, .int (x5)), (6, .int (v69)), (7, .int (v70)), (8, .int (v74)), (9, .int (v75))] [.int ((1 : Int32)), .int (v75)] rfl ?_
              refine G.cmp_ne 240 (tbd tv_X11_tree rfl) (by decide) (fun c222 => ?_) (fun c222 => ?_)
              · replace hr := ite_f c222 hr
                refine G.less [(0, .ref (gAd E (0))), (1, .int (x1)), (2, .long ((((((v76) + ((v75 : Int32).toInt64)) * ((31 : Int64))) + ((v77 : Int32).toInt64)) * ((31 : Int64))) + ((v78 : Int32).toInt64))), (4, .int (x4)), (5, .int (x5))] [0, 1, 2, 3, 4] rfl ?_
                exact l_X11_tree_240 E f0 sz QA N B gr C0 hz _ ih _ _ _ _ _ _ _ hr _ _ ha78 hD73 hA73 (((((k73.tr fa74 (fun _ h => h)).tr fa75 (fun _ h => h)).tr fa76 (fun _ h => h)).tr fa77 (fun _ h => h)).tr fa78 (fun _ h => h))
              · replace hr := ite_t c222 hr
                refine G.go tv_X11_tree 1 226 [(0, .ref (gAd E (0))), (1, .int (x1)), (2, .long ((((((v76) + ((v75 : Int32).toInt64)) * ((31 : Int64))) + ((v77 : Int32).toInt64)) * ((31 : Int64))) + ((v78 : Int32).toInt64))), (4, .int (x4)), (5, .int (x5)), (6, .int (v69)), (7, .int (v70)), (8, .int (v74)), (9, .int (v75))] [.int (x1)] rfl ?_
                refine G.if_eq 240 (tbd tv_X11_tree rfl) (by decide) (fun c226 => ?_) (fun c226 => ?_)
                · replace hr := ite_t c226 hr
                  refine G.less [(0, .ref (gAd E (0))), (1, .int (x1)), (2, .long ((((((v76) + ((v75 : Int32).toInt64)) * ((31 : Int64))) + ((v77 : Int32).toInt64)) * ((31 : Int64))) + ((v78 : Int32).toInt64))), (4, .int (x4)), (5, .int (x5))] [0, 1, 2, 3, 4] rfl ?_
                  exact l_X11_tree_240 E f0 sz QA N B gr C0 hz _ ih _ _ _ _ _ _ _ hr _ _ ha78 hD73 hA73 (((((k73.tr fa74 (fun _ h => h)).tr fa75 (fun _ h => h)).tr fa76 (fun _ h => h)).tr fa77 (fun _ h => h)).tr fa78 (fun _ h => h))
                · replace hr := ite_f c226 hr
                  refine G.go tv_X11_tree 1 230 [(0, .ref (gAd E (0))), (1, .int (x1)), (2, .long ((((((v76) + ((v75 : Int32).toInt64)) * ((31 : Int64))) + ((v77 : Int32).toInt64)) * ((31 : Int64))) + ((v78 : Int32).toInt64))), (4, .int (x4)), (5, .int (x5)), (6, .int (v69)), (7, .int (v70)), (8, .int (v74)), (9, .int (v75))] [.ref (gAd E (0))] rfl ?_
                  refine G.getf cls_X11 (0) 11 (by omega) (ha78.q0) (by decide) rfl (tbd tv_X11_tree rfl) w_574 ?_
                  refine G.go tv_X11_tree 2 236 [(0, .ref (gAd E (0))), (1, .int (x1)), (2, .long ((((((v76) + ((v75 : Int32).toInt64)) * ((31 : Int64))) + ((v77 : Int32).toInt64)) * ((31 : Int64))) + ((v78 : Int32).toInt64))), (4, .int (x4)), (5, .int (x5)), (6, .int (v69)), (7, .int (v70)), (8, .int (v74)), (9, .int (v75))] [.int (v74), .long ((((((v76) + ((v75 : Int32).toInt64)) * ((31 : Int64))) + ((v77 : Int32).toInt64)) * ((31 : Int64))) + ((v78 : Int32).toInt64)), .ref (gAd E (41))] rfl ?_
                  obtain ⟨v79, D79, hv79, hr⟩ := bnd2_s hr
                  refine G.callV (41) [.long ((((((v76) + ((v75 : Int32).toInt64)) * ((31 : Int64))) + ((v77 : Int32).toInt64)) * ((31 : Int64))) + ((v78 : Int32).toInt64)), .int (v74)] [] (k_X3_hashBytes E _ N B gr C73 D73 A hz ha78 hD73 hA73 ((((((v76) + ((v75 : Int32).toInt64)) * ((31 : Int64))) + ((v77 : Int32).toInt64)) * ((31 : Int64))) + ((v78 : Int32).toInt64)) v74 v79 D79 hv79) cls_X3 (by omega) (ha78.q41) cw_X11_503 w_1956 w_1957 (Nat.le_of_ble_eq_true rfl) rfl (Nat.le_of_ble_eq_true rfl) (tbd tv_X11_tree rfl) (fun v79w f79 q79 => ?_) (fun _ _ h => h.elim)
                  obtain ⟨rfl, C79, ha79, hD79, hA79, hR79, fa79⟩ := q79
                  refine G.eqs [.long (v79)] rfl ?_
                  refine G.go tv_X11_tree 1 240 [(0, .ref (gAd E (0))), (1, .int (x1)), (2, .long (v79)), (4, .int (x4)), (5, .int (x5)), (6, .int (v69)), (7, .int (v70)), (8, .int (v74)), (9, .int (v75))] [] rfl ?_
                  refine G.less [(0, .ref (gAd E (0))), (1, .int (x1)), (2, .long (v79)), (4, .int (x4)), (5, .int (x5))] [0, 1, 2, 3, 4] rfl ?_
                  exact l_X11_tree_240 E f0 sz QA N B gr C0 hz _ ih _ _ _ _ _ _ _ hr _ _ ha79 hD79 hA79 ((((((k73.tr fa74 (fun _ h => h)).tr fa75 (fun _ h => h)).tr fa76 (fun _ h => h)).tr fa77 (fun _ h => h)).tr fa78 (fun _ h => h)).tr fa79 (fun _ h => h))
            · replace hr := ite_t c186 hr
              refine G.go tv_X11_tree 2 193 [(0, .ref (gAd E (0))), (1, .int (x1)), (2, .long ((((((v76) + ((v75 : Int32).toInt64)) * ((31 : Int64))) + ((v77 : Int32).toInt64)) * ((31 : Int64))) + ((v78 : Int32).toInt64))), (4, .int (x4)), (5, .int (x5)), (6, .int (v69)), (7, .int (v70)), (8, .int (v74)), (9, .int (v75))] [.int ((64 : Int32)), .int (x4)] rfl ?_
              refine G.cmp_ge 219 (tbd tv_X11_tree rfl) (by decide) (fun c193 => ?_) (fun c193 => ?_)
              · replace hr := ite_t c193 hr
                refine G.go tv_X11_tree 2 222 [(0, .ref (gAd E (0))), (1, .int (x1)), (2, .long ((((((v76) + ((v75 : Int32).toInt64)) * ((31 : Int64))) + ((v77 : Int32).toInt64)) * ((31 : Int64))) + ((v78 : Int32).toInt64))), (4, .int (x4)), (5, .int (x5)), (6, .int (v69)), (7, .int (v70)), (8, .int (v74)), (9, .int (v75))] [.int ((1 : Int32)), .int (v75)] rfl ?_
                refine G.cmp_ne 240 (tbd tv_X11_tree rfl) (by decide) (fun c222 => ?_) (fun c222 => ?_)
                · replace hr := ite_f c222 hr
                  refine G.less [(0, .ref (gAd E (0))), (1, .int (x1)), (2, .long ((((((v76) + ((v75 : Int32).toInt64)) * ((31 : Int64))) + ((v77 : Int32).toInt64)) * ((31 : Int64))) + ((v78 : Int32).toInt64))), (4, .int (x4)), (5, .int (x5))] [0, 1, 2, 3, 4] rfl ?_
                  exact l_X11_tree_240 E f0 sz QA N B gr C0 hz _ ih _ _ _ _ _ _ _ hr _ _ ha78 hD73 hA73 (((((k73.tr fa74 (fun _ h => h)).tr fa75 (fun _ h => h)).tr fa76 (fun _ h => h)).tr fa77 (fun _ h => h)).tr fa78 (fun _ h => h))
                · replace hr := ite_t c222 hr
                  refine G.go tv_X11_tree 1 226 [(0, .ref (gAd E (0))), (1, .int (x1)), (2, .long ((((((v76) + ((v75 : Int32).toInt64)) * ((31 : Int64))) + ((v77 : Int32).toInt64)) * ((31 : Int64))) + ((v78 : Int32).toInt64))), (4, .int (x4)), (5, .int (x5)), (6, .int (v69)), (7, .int (v70)), (8, .int (v74)), (9, .int (v75))] [.int (x1)] rfl ?_
                  refine G.if_eq 240 (tbd tv_X11_tree rfl) (by decide) (fun c226 => ?_) (fun c226 => ?_)
                  · replace hr := ite_t c226 hr
                    refine G.less [(0, .ref (gAd E (0))), (1, .int (x1)), (2, .long ((((((v76) + ((v75 : Int32).toInt64)) * ((31 : Int64))) + ((v77 : Int32).toInt64)) * ((31 : Int64))) + ((v78 : Int32).toInt64))), (4, .int (x4)), (5, .int (x5))] [0, 1, 2, 3, 4] rfl ?_
                    exact l_X11_tree_240 E f0 sz QA N B gr C0 hz _ ih _ _ _ _ _ _ _ hr _ _ ha78 hD73 hA73 (((((k73.tr fa74 (fun _ h => h)).tr fa75 (fun _ h => h)).tr fa76 (fun _ h => h)).tr fa77 (fun _ h => h)).tr fa78 (fun _ h => h))
                  · replace hr := ite_f c226 hr
                    refine G.go tv_X11_tree 1 230 [(0, .ref (gAd E (0))), (1, .int (x1)), (2, .long ((((((v76) + ((v75 : Int32).toInt64)) * ((31 : Int64))) + ((v77 : Int32).toInt64)) * ((31 : Int64))) + ((v78 : Int32).toInt64))), (4, .int (x4)), (5, .int (x5)), (6, .int (v69)), (7, .int (v70)), (8, .int (v74)), (9, .int (v75))] [.ref (gAd E (0))] rfl ?_
                    refine G.getf cls_X11 (0) 11 (by omega) (ha78.q0) (by decide) rfl (tbd tv_X11_tree rfl) w_574 ?_
                    refine G.go tv_X11_tree 2 236 [(0, .ref (gAd E (0))), (1, .int (x1)), (2, .long ((((((v76) + ((v75 : Int32).toInt64)) * ((31 : Int64))) + ((v77 : Int32).toInt64)) * ((31 : Int64))) + ((v78 : Int32).toInt64))), (4, .int (x4)), (5, .int (x5)), (6, .int (v69)), (7, .int (v70)), (8, .int (v74)), (9, .int (v75))] [.int (v74), .long ((((((v76) + ((v75 : Int32).toInt64)) * ((31 : Int64))) + ((v77 : Int32).toInt64)) * ((31 : Int64))) + ((v78 : Int32).toInt64)), .ref (gAd E (41))] rfl ?_
                    obtain ⟨v80, D80, hv80, hr⟩ := bnd2_s hr
                    refine G.callV (41) [.long ((((((v76) + ((v75 : Int32).toInt64)) * ((31 : Int64))) + ((v77 : Int32).toInt64)) * ((31 : Int64))) + ((v78 : Int32).toInt64)), .int (v74)] [] (k_X3_hashBytes E _ N B gr C73 D73 A hz ha78 hD73 hA73 ((((((v76) + ((v75 : Int32).toInt64)) * ((31 : Int64))) + ((v77 : Int32).toInt64)) * ((31 : Int64))) + ((v78 : Int32).toInt64)) v74 v80 D80 hv80) cls_X3 (by omega) (ha78.q41) cw_X11_503 w_1956 w_1957 (Nat.le_of_ble_eq_true rfl) rfl (Nat.le_of_ble_eq_true rfl) (tbd tv_X11_tree rfl) (fun v80w f80 q80 => ?_) (fun _ _ h => h.elim)
                    obtain ⟨rfl, C80, ha80, hD80, hA80, hR80, fa80⟩ := q80
                    refine G.eqs [.long (v80)] rfl ?_
                    refine G.go tv_X11_tree 1 240 [(0, .ref (gAd E (0))), (1, .int (x1)), (2, .long (v80)), (4, .int (x4)), (5, .int (x5)), (6, .int (v69)), (7, .int (v70)), (8, .int (v74)), (9, .int (v75))] [] rfl ?_
                    refine G.less [(0, .ref (gAd E (0))), (1, .int (x1)), (2, .long (v80)), (4, .int (x4)), (5, .int (x5))] [0, 1, 2, 3, 4] rfl ?_
                    exact l_X11_tree_240 E f0 sz QA N B gr C0 hz _ ih _ _ _ _ _ _ _ hr _ _ ha80 hD80 hA80 ((((((k73.tr fa74 (fun _ h => h)).tr fa75 (fun _ h => h)).tr fa76 (fun _ h => h)).tr fa77 (fun _ h => h)).tr fa78 (fun _ h => h)).tr fa80 (fun _ h => h))
              · replace hr := ite_f c193 hr
                refine G.go tv_X11_tree 2 200 [(0, .ref (gAd E (0))), (1, .int (x1)), (2, .long ((((((v76) + ((v75 : Int32).toInt64)) * ((31 : Int64))) + ((v77 : Int32).toInt64)) * ((31 : Int64))) + ((v78 : Int32).toInt64))), (4, .int (x4 + (1 : Int32))), (5, .int (x5)), (6, .int (v69)), (7, .int (v70)), (8, .int (v74)), (9, .int (v75))] [.ref (gAd E (0))] rfl ?_
                refine G.getf cls_X11 (0) 16 (by omega) (ha78.q0) (by decide) rfl (tbd tv_X11_tree rfl) w_579 ?_
                refine G.go tv_X11_tree 2 207 [(0, .ref (gAd E (0))), (1, .int (x1)), (2, .long ((((((v76) + ((v75 : Int32).toInt64)) * ((31 : Int64))) + ((v77 : Int32).toInt64)) * ((31 : Int64))) + ((v78 : Int32).toInt64))), (4, .int (x4 + (1 : Int32))), (5, .int (x5)), (6, .int (v69)), (7, .int (v70)), (8, .int (v74)), (9, .int (v75))] [.int (v74), .int (x4 + (1 : Int32)), .ref (gAd E (54))] rfl ?_
                obtain ⟨D81, b81, eD81, hr⟩ := stA_s hr
                refine G.iast (54) (by omega) (ha78.q54) b81 (tbd tv_X11_tree rfl) ?_
                refine G.gen (P := SN E N B gr f0 A D81) ⟨sA C73 54 (upd (cA C73 54) (x4 + (1 : Int32)).toNatClampNeg v74), ha78.p54 _, (by rw [eD81]; exact hD73.au (by decide)), hA73.sm (Sd.a (by decide) : Sd C73 (sA C73 54 (upd (cA C73 54) (x4 + (1 : Int32)).toNatClampNeg v74))), Fr.c (((((k73.tr fa74 (fun _ h => h)).tr fa75 (fun _ h => h)).tr fa76 (fun _ h => h)).tr fa77 (fun _ h => h)).tr fa78 (fun _ h => h)) (by first | exact Or.inl (by decide) | exact Or.inr (by omega))⟩ (fun u81 p81 => ?_)
                obtain ⟨C81, h81, hD81, hA81, k81⟩ := p81
                refine G.go tv_X11_tree 1 209 [(0, .ref (gAd E (0))), (1, .int (x1)), (2, .long ((((((v76) + ((v75 : Int32).toInt64)) * ((31 : Int64))) + ((v77 : Int32).toInt64)) * ((31 : Int64))) + ((v78 : Int32).toInt64))), (4, .int (x4 + (1 : Int32))), (5, .int (x5)), (6, .int (v69)), (7, .int (v70)), (8, .int (v74)), (9, .int (v75))] [.ref (gAd E (0))] rfl ?_
                refine G.getf cls_X11 (0) 17 (by omega) (h81.q0) (by decide) rfl (tbd tv_X11_tree rfl) w_580 ?_
                refine G.go tv_X11_tree 2 215 [(0, .ref (gAd E (0))), (1, .int (x1)), (2, .long ((((((v76) + ((v75 : Int32).toInt64)) * ((31 : Int64))) + ((v77 : Int32).toInt64)) * ((31 : Int64))) + ((v78 : Int32).toInt64))), (4, .int (x4 + (1 : Int32))), (5, .int (x5)), (6, .int (v69)), (7, .int (v70)), (8, .int (v74)), (9, .int (v75))] [.int ((0 : Int32)), .int (x4 + (1 : Int32)), .ref (gAd E (55))] rfl ?_
                obtain ⟨D82, b82, eD82, hr⟩ := stA_s hr
                refine G.iast (55) (by omega) (h81.q55) b82 (tbd tv_X11_tree rfl) ?_
                refine G.gen (P := SN E N B gr f0 A D82) ⟨sA C81 55 (upd (cA C81 55) (x4 + (1 : Int32)).toNatClampNeg ((0 : Int32))), h81.p55 _, (by rw [eD82]; exact hD81.au (by decide)), hA81.sm (Sd.a (by decide) : Sd C81 (sA C81 55 (upd (cA C81 55) (x4 + (1 : Int32)).toNatClampNeg ((0 : Int32))))), Fr.c k81 (by first | exact Or.inl (by decide) | exact Or.inr (by omega))⟩ (fun u82 p82 => ?_)
                obtain ⟨C82, h82, hD82, hA82, k82⟩ := p82
                refine G.go tv_X11_tree 1 240 [(0, .ref (gAd E (0))), (1, .int (x1)), (2, .long ((((((v76) + ((v75 : Int32).toInt64)) * ((31 : Int64))) + ((v77 : Int32).toInt64)) * ((31 : Int64))) + ((v78 : Int32).toInt64))), (4, .int (x4 + (1 : Int32))), (5, .int (x5)), (6, .int (v69)), (7, .int (v70)), (8, .int (v74)), (9, .int (v75))] [] rfl ?_
                refine G.less [(0, .ref (gAd E (0))), (1, .int (x1)), (2, .long ((((((v76) + ((v75 : Int32).toInt64)) * ((31 : Int64))) + ((v77 : Int32).toInt64)) * ((31 : Int64))) + ((v78 : Int32).toInt64))), (4, .int (x4 + (1 : Int32))), (5, .int (x5))] [0, 1, 2, 3, 4] rfl ?_
                exact l_X11_tree_240 E f0 sz QA N B gr C0 hz _ ih _ _ _ _ _ _ _ hr _ _ h82 hD82 hA82 k82
          · replace hr := ite_t c115 hr
            refine G.go tv_X11_tree 1 240 [(0, .ref (gAd E (0))), (1, .int (x1)), (2, .long (x2)), (4, .int (x4)), (5, .int (x5)), (6, .int (v69)), (7, .int (v70)), (8, .int (v74))] [] rfl ?_
            refine G.less [(0, .ref (gAd E (0))), (1, .int (x1)), (2, .long (x2)), (4, .int (x4)), (5, .int (x5))] [0, 1, 2, 3, 4] rfl ?_
            exact l_X11_tree_240 E f0 sz QA N B gr C0 hz _ ih _ _ _ _ _ _ _ hr _ _ ha74 hD73 hA73 (k73.tr fa74 (fun _ h => h))
        · replace hr := ite_f c70 hr
          refine G.go tv_X11_tree 1 74 [(0, .ref (gAd E (0))), (1, .int (x1)), (2, .long (x2)), (4, .int (x4)), (5, .int (x5)), (6, .int (v69)), (7, .int (v70))] [.long (x2)] rfl ?_
          refine G.ldc2 (31) (tbd tv_X11_tree rfl) w_1948 ?_
          refine G.go tv_X11_tree 1 78 [(0, .ref (gAd E (0))), (1, .int (x1)), (2, .long (x2)), (4, .int (x4)), (5, .int (x5)), (6, .int (v69)), (7, .int (v70))] [.long ((x2) * ((31 : Int64)))] rfl ?_
          refine G.ldc2 (3) (tbd tv_X11_tree rfl) w_1949 ?_
          refine G.go tv_X11_tree 4 240 [(0, .ref (gAd E (0))), (1, .int (x1)), (2, .long (((x2) * ((31 : Int64))) + ((3 : Int64)))), (4, .int (x4 + (-1 : Int32))), (5, .int (x5)), (6, .int (v69)), (7, .int (v70))] [] rfl ?_
          refine G.less [(0, .ref (gAd E (0))), (1, .int (x1)), (2, .long (((x2) * ((31 : Int64))) + ((3 : Int64)))), (4, .int (x4 + (-1 : Int32))), (5, .int (x5))] [0, 1, 2, 3, 4] rfl ?_
          exact l_X11_tree_240 E f0 sz QA N B gr C0 hz _ ih _ _ _ _ _ _ _ hr _ _ ha71 hD hA (hf.tr fa71 (fun _ h => h))
set_option maxRecDepth 100000 in
set_option maxHeartbeats 4000000 in
theorem k_X11_tree (E : gE) (f : Nat → va_E) (N B gr : Nat) (C D : CfT) (A : MS) (hz : CfZ E N B gr) (h : CfV E f N B gr C) (hD : Dq D C) (hA : AR N B gr A C) (a0 : Int32) (r : FR Int64) (hr : d_X11_tree N B gr A D a0 = some r) : Ct E 8 yX11_tree cX11_tree 10 (some .long) [.ref (gAd E (0)), .int (a0)] f (FQ E N B gr f (fun r => some (.long r)) r) := by
  obtain ⟨z1, z2, z3, z4, z5, z6, z7⟩ := id hz
  refine Ct.of (by decide) (Nat.le_of_ble_eq_true rfl) (fun sz => ?_)
  refine G.eql [(0, .ref (gAd E (0))), (1, .int (a0))] rfl ?_
  unfold d_X11_tree at hr
  refine G.go tv_X11_tree 1 1 [(0, .ref (gAd E (0))), (1, .int (a0))] [.ref (gAd E (0))] rfl ?_
  rcases bndF_s hr with ⟨v66, A66, D66, hv66, hr⟩ | ⟨ex66, A66, D66, hv66, rfl⟩
  rotate_left
  · skip
    refine G.callV (0) [] [] (k_X11_needMounted E _ N B gr C D A hz h hD hA _ hv66) cls_X11 (by omega) (h.q0) cw_X11_221 w_1320 w_27 (Nat.le_of_ble_eq_true rfl) rfl (Nat.le_of_ble_eq_true rfl) (tbd tv_X11_tree rfl) (fun v66w f66 q66 => ?_) (fun X g q => FQ.fr q Fr.rf)
    exact q66.elim
  refine G.callV (0) [] [] (k_X11_needMounted E _ N B gr C D A hz h hD hA _ hv66) cls_X11 (by omega) (h.q0) cw_X11_221 w_1320 w_27 (Nat.le_of_ble_eq_true rfl) rfl (Nat.le_of_ble_eq_true rfl) (tbd tv_X11_tree rfl) (fun v66w f66 q66 => ?_) (fun _ _ h => h.elim)
  obtain ⟨rfl, C66, ha66, hD66, hA66, fa66⟩ := q66
  refine G.eqs [] rfl ?_
  refine G.ldc2 (17) (tbd tv_X11_tree rfl) w_1947 ?_
  refine G.go tv_X11_tree 4 12 [(0, .ref (gAd E (0))), (1, .int (a0)), (2, .long ((17 : Int64))), (4, .int ((0 : Int32)))] [.ref (gAd E (0))] rfl ?_
  refine G.getf cls_X11 (0) 16 (by omega) (ha66.q0) (by decide) rfl (tbd tv_X11_tree rfl) w_579 ?_
  refine G.go tv_X11_tree 2 17 [(0, .ref (gAd E (0))), (1, .int (a0)), (2, .long ((17 : Int64))), (4, .int ((0 : Int32)))] [.int ((1 : Int32)), .int ((0 : Int32)), .ref (gAd E (54))] rfl ?_
  obtain ⟨D67, b67, eD67, hr⟩ := stA_s hr
  refine G.iast (54) (by omega) (ha66.q54) b67 (tbd tv_X11_tree rfl) ?_
  refine G.gen (P := SN E N B gr f A66 D67) ⟨sA C66 54 (upd (cA C66 54) ((0 : Int32)).toNatClampNeg ((1 : Int32))), ha66.p54 _, (by rw [eD67]; exact hD66.au (by decide)), hA66.sm (Sd.a (by decide) : Sd C66 (sA C66 54 (upd (cA C66 54) ((0 : Int32)).toNatClampNeg ((1 : Int32))))), Fr.c (Fr.rf.tr fa66 (fun _ h => h)) (by first | exact Or.inl (by decide) | exact Or.inr (by omega))⟩ (fun u67 p67 => ?_)
  obtain ⟨C67, h67, hD67, hA67, k67⟩ := p67
  refine G.go tv_X11_tree 1 19 [(0, .ref (gAd E (0))), (1, .int (a0)), (2, .long ((17 : Int64))), (4, .int ((0 : Int32)))] [.ref (gAd E (0))] rfl ?_
  refine G.getf cls_X11 (0) 17 (by omega) (h67.q0) (by decide) rfl (tbd tv_X11_tree rfl) w_580 ?_
  refine G.go tv_X11_tree 2 24 [(0, .ref (gAd E (0))), (1, .int (a0)), (2, .long ((17 : Int64))), (4, .int ((0 : Int32)))] [.int ((0 : Int32)), .int ((0 : Int32)), .ref (gAd E (55))] rfl ?_
  obtain ⟨D68, b68, eD68, hr⟩ := stA_s hr
  refine G.iast (55) (by omega) (h67.q55) b68 (tbd tv_X11_tree rfl) ?_
  refine G.gen (P := SN E N B gr f A66 D68) ⟨sA C67 55 (upd (cA C67 55) ((0 : Int32)).toNatClampNeg ((0 : Int32))), h67.p55 _, (by rw [eD68]; exact hD67.au (by decide)), hA67.sm (Sd.a (by decide) : Sd C67 (sA C67 55 (upd (cA C67 55) ((0 : Int32)).toNatClampNeg ((0 : Int32))))), Fr.c k67 (by first | exact Or.inl (by decide) | exact Or.inr (by omega))⟩ (fun u68 p68 => ?_)
  obtain ⟨C68, h68, hD68, hA68, k68⟩ := p68
  refine G.go tv_X11_tree 2 28 [(0, .ref (gAd E (0))), (1, .int (a0)), (2, .long ((17 : Int64))), (4, .int ((0 : Int32))), (5, .int ((0 : Int32)))] [] rfl ?_
  refine G.less [(0, .ref (gAd E (0))), (1, .int (a0)), (2, .long ((17 : Int64))), (4, .int ((0 : Int32))), (5, .int ((0 : Int32)))] [0, 1, 2, 3, 4] rfl ?_
  exact l_X11_tree_28 E f sz _ N B gr C hz _ _ _ _ _ _ _ _ hr _ _ h68 hD68 hA68 k68
theorem w_1971 : Cond.methodLink "LedgerFiles" 507 yX1_faults ∈ TB := tp_8 145 (by decide +kernel) rfl
theorem w_1974 : Cond.code yX1_faults prog_3_method_3_code 2 (some .int) ∈ TB := tp_8 148 rfl rfl
theorem cw_X11_507 : Cw RX11 507 yX1_faults cX1_faults 2 (some .int) 0 := ⟨w_1971, w_1974, w_160, by decide +kernel, by decide +kernel, by decide⟩
theorem w_1972 : Cond.instanceMethod yX1_faults ∈ TB := tp_8 146 (by decide +kernel) rfl
theorem w_1973 : Cond.selects "LedgerFiles$Checker" yX1_faults yX1_faults ∈ TB := tp_8 147 (by decide +kernel) rfl
noncomputable def d_X11_check (N B gr : Nat) (A : MS) (D : CfT) : Option (FR Int32) := bndF (d_X11_needMounted N B gr A D) (fun v83 A83 D83 => bnd2 (d_X1_faults N (vA A83) D83) (fun v84 D84 => some (.inl (v84, A83, D84))))
set_option maxRecDepth 100000 in
set_option maxHeartbeats 4000000 in
theorem k_X11_check (E : gE) (f : Nat → va_E) (N B gr : Nat) (C D : CfT) (A : MS) (hz : CfZ E N B gr) (h : CfV E f N B gr C) (hD : Dq D C) (hA : AR N B gr A C) (r : FR Int32) (hr : d_X11_check N B gr A D = some r) : Ct E 8 yX11_check cX11_check 1 (some .int) [.ref (gAd E (0))] f (FQ E N B gr f (fun r => some (.int r)) r) := by
  obtain ⟨z1, z2, z3, z4, z5, z6, z7⟩ := id hz
  refine Ct.of (by decide) (Nat.le_of_ble_eq_true rfl) (fun sz => ?_)
  refine G.eql [(0, .ref (gAd E (0)))] rfl ?_
  unfold d_X11_check at hr
  refine G.go tv_X11_check 1 1 [(0, .ref (gAd E (0)))] [.ref (gAd E (0))] rfl ?_
  rcases bndF_s hr with ⟨v83, A83, D83, hv83, hr⟩ | ⟨ex83, A83, D83, hv83, rfl⟩
  rotate_left
  · skip
    refine G.callV (0) [] [] (k_X11_needMounted E _ N B gr C D A hz h hD hA _ hv83) cls_X11 (by omega) (h.q0) cw_X11_221 w_1320 w_27 (Nat.le_of_ble_eq_true rfl) rfl (Nat.le_of_ble_eq_true rfl) (tbd tv_X11_check rfl) (fun v83w f83 q83 => ?_) (fun X g q => FQ.fr q Fr.rf)
    exact q83.elim
  refine G.callV (0) [] [] (k_X11_needMounted E _ N B gr C D A hz h hD hA _ hv83) cls_X11 (by omega) (h.q0) cw_X11_221 w_1320 w_27 (Nat.le_of_ble_eq_true rfl) rfl (Nat.le_of_ble_eq_true rfl) (tbd tv_X11_check rfl) (fun v83w f83 q83 => ?_) (fun _ _ h => h.elim)
  obtain ⟨rfl, C83, ha83, hD83, hA83, fa83⟩ := q83
  refine G.eqs [] rfl ?_
  refine G.go tv_X11_check 1 5 [(0, .ref (gAd E (0)))] [.ref (gAd E (0))] rfl ?_
  refine G.getf cls_X11 (0) 12 (by omega) (ha83.q0) (by decide) rfl (tbd tv_X11_check rfl) w_575 ?_
  obtain ⟨v84, D84, hv84, hr⟩ := bnd2_s hr
  refine G.callV (44) [] [] (k_X1_faults E _ N B gr C83 D83 A83 hz ha83 hD83 hA83 v84 D84 hv84) cls_X1 (by omega) (ha83.q44) cw_X11_507 w_1972 w_1973 (Nat.le_of_ble_eq_true rfl) rfl (Nat.le_of_ble_eq_true rfl) (tbd tv_X11_check rfl) (fun v84w f84 q84 => ?_) (fun _ _ h => h.elim)
  obtain ⟨rfl, C84, ha84, hD84, hA84, hR84, fa84⟩ := q84
  refine G.eqs [.int (v84)] rfl ?_
  cases hr
  exact G.iret rfl rfl (FQ.ok rfl ⟨C84, ha84, hD84, hA84, ((Fr.rf.tr fa83 (fun _ h => h)).tr fa84 (fun _ h => h))⟩) (tbd tv_X11_check rfl)
def tb_X11_countMounted : List (Nat × Instr × Nat) := [(0, .iload_n 1, 1), (1, .tableswitch 155 0 16 #[83, 91, 99, 107, 115, 123, 155, 155, 155, 155, 155, 155, 155, 155, 155, 131, 139], 83), (84, .aload_n 0, 1), (85, .getfield 87, 3), (88, .invokevirtual 525, 3), (91, .ireturn, 1), (92, .aload_n 0, 1), (93, .getfield 103, 3), (96, .invokevirtual 528, 3), (99, .ireturn, 1), (100, .aload_n 0, 1), (101, .getfield 78, 3), (104, .getfield 531, 3), (107, .ireturn, 1), (108, .aload_n 0, 1), (109, .getfield 78, 3), (112, .getfield 534, 3), (115, .ireturn, 1), (116, .aload_n 0, 1), (117, .getfield 65, 3), (120, .getfield 457, 3), (123, .ireturn, 1), (124, .aload_n 0, 1), (125, .getfield 65, 3), (128, .getfield 535, 3), (131, .ireturn, 1), (132, .aload_n 0, 1), (133, .getfield 103, 3), (136, .invokevirtual 538, 3), (139, .ireturn, 1), (140, .aload_n 0, 1), (141, .getfield 87, 3), (144, .getfield 224, 3), (147, .ifCond .eq 7, 3), (150, .iconst 1, 1), (151, .goto 4, 3), (154, .iconst 0, 1), (155, .ireturn, 1), (156, .aload_n 0, 1), (157, .getfield 94, 3), (160, .invokevirtual 541, 3), (163, .ireturn, 1)]
theorem tv_X11_countMounted : Tv cX11_countMounted tb_X11_countMounted := by
  unfold Tv
  decide +kernel
theorem w_2040 : Cond.methodLink "LedgerFiles" 525 yX10_freeBlocks ∈ TB := tp_8 214 (by decide +kernel) rfl
theorem cw_X11_525 : Cw RX11 525 yX10_freeBlocks cX10_freeBlocks 4 (some .int) 0 := ⟨w_2040, w_1415, w_155, by decide +kernel, by decide +kernel, by decide⟩
theorem w_2041 : Cond.methodLink "LedgerFiles" 528 yX7_freeInodes ∈ TB := tp_8 215 (by decide +kernel) rfl
theorem w_2044 : Cond.code yX7_freeInodes prog_9_method_18_code 3 (some .int) ∈ TB := tp_8 218 rfl rfl
theorem cw_X11_528 : Cw RX11 528 yX7_freeInodes cX7_freeInodes 3 (some .int) 0 := ⟨w_2041, w_2044, w_157, by decide +kernel, by decide +kernel, by decide⟩
theorem w_2042 : Cond.instanceMethod yX7_freeInodes ∈ TB := tp_8 216 (by decide +kernel) rfl
theorem w_2043 : Cond.selects "LedgerFiles$Nodes" yX7_freeInodes yX7_freeInodes ∈ TB := tp_8 217 (by decide +kernel) rfl
theorem w_373 : Cond.fieldLink "LedgerFiles" 531 "LedgerFiles$Queue" "restCount" "I" ∈ TB := tp_1 227 (by decide +kernel) rfl
theorem w_368 : Cond.fieldLink "LedgerFiles" 534 "LedgerFiles$Queue" "held" "I" ∈ TB := tp_1 222 (by decide +kernel) rfl
theorem w_329 : Cond.fieldLink "LedgerFiles" 535 "LedgerFiles$Log" "turn" "I" ∈ TB := tp_1 183 (by decide +kernel) rfl
theorem w_2045 : Cond.methodLink "LedgerFiles" 538 yX7_lostInodes ∈ TB := tp_8 219 (by decide +kernel) rfl
theorem w_2048 : Cond.code yX7_lostInodes prog_9_method_19_code 3 (some .int) ∈ TB := tp_8 222 rfl rfl
theorem cw_X11_538 : Cw RX11 538 yX7_lostInodes cX7_lostInodes 3 (some .int) 0 := ⟨w_2045, w_2048, w_157, by decide +kernel, by decide +kernel, by decide⟩
theorem w_2046 : Cond.instanceMethod yX7_lostInodes ∈ TB := tp_8 220 (by decide +kernel) rfl
theorem w_2047 : Cond.selects "LedgerFiles$Nodes" yX7_lostInodes yX7_lostInodes ∈ TB := tp_8 221 (by decide +kernel) rfl
theorem w_2050 : Cond.methodLink "LedgerFiles" 541 yX5_openHandles ∈ TB := tp_8 224 (by decide +kernel) rfl
theorem w_2053 : Cond.code yX5_openHandles prog_7_method_6_code 1 (some .int) ∈ TB := tp_8 227 rfl rfl
theorem cw_X11_541 : Cw RX11 541 yX5_openHandles cX5_openHandles 1 (some .int) 0 := ⟨w_2050, w_2053, w_156, by decide +kernel, by decide +kernel, by decide⟩
theorem w_2051 : Cond.instanceMethod yX5_openHandles ∈ TB := tp_8 225 (by decide +kernel) rfl
theorem w_2052 : Cond.selects "LedgerFiles$Holders" yX5_openHandles yX5_openHandles ∈ TB := tp_8 226 (by decide +kernel) rfl
noncomputable def d_X11_countMounted_156 (N B gr : Nat) (A : MS) (D : CfT) : Option (FR Int32) := bnd (d_X5_openHandles N (vA A) D) (fun v88 => some (.inl (v88, A, D)))
noncomputable def d_X11_countMounted (N B gr : Nat) (A : MS) (D : CfT) (a0 : Int32) : Option (FR Int32) := if a0 = (0 : Int32) then bnd (d_X10_freeBlocks N (vA A) D) (fun v85 => some (.inl (v85, A, D))) else if a0 = (1 : Int32) then bnd (d_X7_freeInodes N (vA A) D) (fun v86 => some (.inl (v86, A, D))) else if a0 = (2 : Int32) then some (.inl (nI (rsT A.2.2.2.2.1 N), A, D)) else if a0 = (3 : Int32) then some (.inl (nI A.2.2.2.1.length, A, D)) else if a0 = (4 : Int32) then some (.inl (nI A.2.1.length, A, D)) else if a0 = (5 : Int32) then some (.inl (A.2.2.1, A, D)) else if a0 = (6 : Int32) then d_X11_countMounted_156 N B gr A D else if a0 = (7 : Int32) then d_X11_countMounted_156 N B gr A D else if a0 = (8 : Int32) then d_X11_countMounted_156 N B gr A D else if a0 = (9 : Int32) then d_X11_countMounted_156 N B gr A D else if a0 = (10 : Int32) then d_X11_countMounted_156 N B gr A D else if a0 = (11 : Int32) then d_X11_countMounted_156 N B gr A D else if a0 = (12 : Int32) then d_X11_countMounted_156 N B gr A D else if a0 = (13 : Int32) then d_X11_countMounted_156 N B gr A D else if a0 = (14 : Int32) then d_X11_countMounted_156 N B gr A D else if a0 = (15 : Int32) then bnd (d_X7_lostInodes N (vA A) D) (fun v87 => some (.inl (v87, A, D))) else if a0 = (16 : Int32) then if (gpI A) = 0 then some (.inl ((0 : Int32), A, D)) else some (.inl ((1 : Int32), A, D)) else d_X11_countMounted_156 N B gr A D
set_option maxRecDepth 100000 in
set_option maxHeartbeats 4000000 in
theorem l_X11_countMounted_156 (E : gE) (f0 : Nat → va_E) (sz : Nat) (QA : Nat → Prop) (N B gr : Nat) (C0 : CfT) (hz : CfZ E N B gr) : ∀ (A : MS) (D : CfT) (r : FR Int32) (hr : d_X11_countMounted_156 N B gr A D = some r) (f : Nat → va_E) (C : CfT) (h : CfV E f N B gr C) (hD : Dq D C) (hA : AR N B gr A C) (hf : Fr CfK f0 f), G E (6, yX11_countMounted, 2, (some .int), sz, QA) cX11_countMounted (gO E (6, yX11_countMounted, 2, (some .int), sz, QA) (FQ E N B gr f0 (fun r => some (.int r)) r)) 156 [(0, .ref (gAd E (0)))] [] f := by
  obtain ⟨z1, z2, z3, z4, z5, z6, z7⟩ := id hz
  intro A D r hr f C h hD hA hf
  unfold d_X11_countMounted_156 at hr
  refine G.go tv_X11_countMounted 1 157 [(0, .ref (gAd E (0)))] [.ref (gAd E (0))] rfl ?_
  refine G.getf cls_X11 (0) 9 (by omega) (h.q0) (by decide) rfl (tbd tv_X11_countMounted rfl) w_572 ?_
  obtain ⟨v88, hv88, hr⟩ := bnd_s hr
  refine G.callV (32) [] [] (k_X5_openHandles E _ N B gr C D A hz h hD hA v88 hv88) cls_X5 (by omega) (h.q32) cw_X11_541 w_2051 w_2052 (Nat.le_of_ble_eq_true rfl) rfl (Nat.le_of_ble_eq_true rfl) (tbd tv_X11_countMounted rfl) (fun v88w f88 q88 => ?_) (fun _ _ h => h.elim)
  obtain ⟨rfl, ha88, fa88⟩ := q88
  refine G.eqs [.int (v88)] rfl ?_
  cases hr
  exact G.iret rfl rfl (FQ.ok rfl ⟨C, ha88, hD, hA, (hf.tr fa88 (fun _ h => h))⟩) (tbd tv_X11_countMounted rfl)
set_option maxRecDepth 100000 in
set_option maxHeartbeats 4000000 in
theorem k_X11_countMounted (E : gE) (f : Nat → va_E) (N B gr : Nat) (C D : CfT) (A : MS) (hz : CfZ E N B gr) (h : CfV E f N B gr C) (hD : Dq D C) (hA : AR N B gr A C) (a0 : Int32) (r : FR Int32) (hr : d_X11_countMounted N B gr A D a0 = some r) : Ct E 6 yX11_countMounted cX11_countMounted 2 (some .int) [.ref (gAd E (0)), .int (a0)] f (FQ E N B gr f (fun r => some (.int r)) r) := by
  obtain ⟨z1, z2, z3, z4, z5, z6, z7⟩ := id hz
  refine Ct.of (by decide) (Nat.le_of_ble_eq_true rfl) (fun sz => ?_)
  refine G.eql [(0, .ref (gAd E (0))), (1, .int (a0))] rfl ?_
  unfold d_X11_countMounted at hr
  refine G.go tv_X11_countMounted 1 1 [(0, .ref (gAd E (0))), (1, .int (a0))] [.int (a0)] rfl ?_
  by_cases c1_0 : a0 = (0 : Int32)
  · replace hr := ite_t c1_0 hr
    refine G.tswI 84 (83) (tbd tv_X11_countMounted rfl) (by rw [c1_0]; decide) (by rw [c1_0]; decide) (by rw [c1_0]; decide) (by decide) ?_
    refine G.go tv_X11_countMounted 1 85 [(0, .ref (gAd E (0))), (1, .int (a0))] [.ref (gAd E (0))] rfl ?_
    refine G.getf cls_X11 (0) 7 (by omega) (h.q0) (by decide) rfl (tbd tv_X11_countMounted rfl) w_570 ?_
    obtain ⟨v85, hv85, hr⟩ := bnd_s hr
    refine G.callV (25) [] [] (k_X10_freeBlocks E _ N B gr C D A hz h hD hA v85 hv85) cls_X10 (by omega) (h.q25) cw_X11_525 w_1413 w_1414 (Nat.le_of_ble_eq_true rfl) rfl (Nat.le_of_ble_eq_true rfl) (tbd tv_X11_countMounted rfl) (fun v85w f85 q85 => ?_) (fun _ _ h => h.elim)
    obtain ⟨rfl, ha85, fa85⟩ := q85
    refine G.eqs [.int (v85)] rfl ?_
    cases hr
    exact G.iret rfl rfl (FQ.ok rfl ⟨C, ha85, hD, hA, (Fr.rf.tr fa85 (fun _ h => h))⟩) (tbd tv_X11_countMounted rfl)
  replace hr := ite_f c1_0 hr
  by_cases c1_1 : a0 = (1 : Int32)
  · replace hr := ite_t c1_1 hr
    refine G.tswI 92 (91) (tbd tv_X11_countMounted rfl) (by rw [c1_1]; decide) (by rw [c1_1]; decide) (by rw [c1_1]; decide) (by decide) ?_
    refine G.go tv_X11_countMounted 1 93 [(0, .ref (gAd E (0))), (1, .int (a0))] [.ref (gAd E (0))] rfl ?_
    refine G.getf cls_X11 (0) 8 (by omega) (h.q0) (by decide) rfl (tbd tv_X11_countMounted rfl) w_571 ?_
    obtain ⟨v86, hv86, hr⟩ := bnd_s hr
    refine G.callV (37) [] [] (k_X7_freeInodes E _ N B gr C D A hz h hD hA v86 hv86) cls_X7 (by omega) (h.q37) cw_X11_528 w_2042 w_2043 (Nat.le_of_ble_eq_true rfl) rfl (Nat.le_of_ble_eq_true rfl) (tbd tv_X11_countMounted rfl) (fun v86w f86 q86 => ?_) (fun _ _ h => h.elim)
    obtain ⟨rfl, ha86, fa86⟩ := q86
    refine G.eqs [.int (v86)] rfl ?_
    cases hr
    exact G.iret rfl rfl (FQ.ok rfl ⟨C, ha86, hD, hA, (Fr.rf.tr fa86 (fun _ h => h))⟩) (tbd tv_X11_countMounted rfl)
  replace hr := ite_f c1_1 hr
  by_cases c1_2 : a0 = (2 : Int32)
  · replace hr := ite_t c1_2 hr
    refine G.tswI 100 (99) (tbd tv_X11_countMounted rfl) (by rw [c1_2]; decide) (by rw [c1_2]; decide) (by rw [c1_2]; decide) (by decide) ?_
    refine G.go tv_X11_countMounted 1 101 [(0, .ref (gAd E (0))), (1, .int (a0))] [.ref (gAd E (0))] rfl ?_
    refine G.getf cls_X11 (0) 6 (by omega) (h.q0) (by decide) rfl (tbd tv_X11_countMounted rfl) w_569 ?_
    refine G.getf cls_X9 (17) 11 (by omega) (h.q17) (by decide) rfl (tbd tv_X11_countMounted rfl) w_373 ?_
    refine G.eq1 (b := nI (rsT A.2.2.2.2.1 N)) (hA.s1711 z2) ?_
    cases hr
    exact G.iret rfl rfl (FQ.ok rfl ⟨C, h, hD, hA, Fr.rf⟩) (tbd tv_X11_countMounted rfl)
  replace hr := ite_f c1_2 hr
  by_cases c1_3 : a0 = (3 : Int32)
  · replace hr := ite_t c1_3 hr
    refine G.tswI 108 (107) (tbd tv_X11_countMounted rfl) (by rw [c1_3]; decide) (by rw [c1_3]; decide) (by rw [c1_3]; decide) (by decide) ?_
    refine G.go tv_X11_countMounted 1 109 [(0, .ref (gAd E (0))), (1, .int (a0))] [.ref (gAd E (0))] rfl ?_
    refine G.getf cls_X11 (0) 6 (by omega) (h.q0) (by decide) rfl (tbd tv_X11_countMounted rfl) w_569 ?_
    refine G.getf cls_X9 (17) 8 (by omega) (h.q17) (by decide) rfl (tbd tv_X11_countMounted rfl) w_368 ?_
    refine G.eq1 (b := nI A.2.2.2.1.length) (hA.s1708) ?_
    cases hr
    exact G.iret rfl rfl (FQ.ok rfl ⟨C, h, hD, hA, Fr.rf⟩) (tbd tv_X11_countMounted rfl)
  replace hr := ite_f c1_3 hr
  by_cases c1_4 : a0 = (4 : Int32)
  · replace hr := ite_t c1_4 hr
    refine G.tswI 116 (115) (tbd tv_X11_countMounted rfl) (by rw [c1_4]; decide) (by rw [c1_4]; decide) (by rw [c1_4]; decide) (by decide) ?_
    refine G.go tv_X11_countMounted 1 117 [(0, .ref (gAd E (0))), (1, .int (a0))] [.ref (gAd E (0))] rfl ?_
    refine G.getf cls_X11 (0) 5 (by omega) (h.q0) (by decide) rfl (tbd tv_X11_countMounted rfl) w_568 ?_
    refine G.getf cls_X6 (13) 5 (by omega) (h.q13) (by decide) rfl (tbd tv_X11_countMounted rfl) w_327 ?_
    refine G.eq1 (b := nI A.2.1.length) (hA.2.2.1.1) ?_
    cases hr
    exact G.iret rfl rfl (FQ.ok rfl ⟨C, h, hD, hA, Fr.rf⟩) (tbd tv_X11_countMounted rfl)
  replace hr := ite_f c1_4 hr
  by_cases c1_5 : a0 = (5 : Int32)
  · replace hr := ite_t c1_5 hr
    refine G.tswI 124 (123) (tbd tv_X11_countMounted rfl) (by rw [c1_5]; decide) (by rw [c1_5]; decide) (by rw [c1_5]; decide) (by decide) ?_
    refine G.go tv_X11_countMounted 1 125 [(0, .ref (gAd E (0))), (1, .int (a0))] [.ref (gAd E (0))] rfl ?_
    refine G.getf cls_X11 (0) 5 (by omega) (h.q0) (by decide) rfl (tbd tv_X11_countMounted rfl) w_568 ?_
    refine G.getf cls_X6 (13) 6 (by omega) (h.q13) (by decide) rfl (tbd tv_X11_countMounted rfl) w_329 ?_
    refine G.eq1 (b := A.2.2.1) (hA.2.2.1.2.2.1) ?_
    cases hr
    exact G.iret rfl rfl (FQ.ok rfl ⟨C, h, hD, hA, Fr.rf⟩) (tbd tv_X11_countMounted rfl)
  replace hr := ite_f c1_5 hr
  by_cases c1_6 : a0 = (6 : Int32)
  · replace hr := ite_t c1_6 hr
    refine G.tswI 156 (155) (tbd tv_X11_countMounted rfl) (by rw [c1_6]; decide) (by rw [c1_6]; decide) (by rw [c1_6]; decide) (by decide) ?_
    refine G.less [(0, .ref (gAd E (0)))] [0] rfl ?_
    exact l_X11_countMounted_156 E f sz _ N B gr C hz _ _ _ hr _ _ h hD hA Fr.rf
  replace hr := ite_f c1_6 hr
  by_cases c1_7 : a0 = (7 : Int32)
  · replace hr := ite_t c1_7 hr
    refine G.tswI 156 (155) (tbd tv_X11_countMounted rfl) (by rw [c1_7]; decide) (by rw [c1_7]; decide) (by rw [c1_7]; decide) (by decide) ?_
    refine G.less [(0, .ref (gAd E (0)))] [0] rfl ?_
    exact l_X11_countMounted_156 E f sz _ N B gr C hz _ _ _ hr _ _ h hD hA Fr.rf
  replace hr := ite_f c1_7 hr
  by_cases c1_8 : a0 = (8 : Int32)
  · replace hr := ite_t c1_8 hr
    refine G.tswI 156 (155) (tbd tv_X11_countMounted rfl) (by rw [c1_8]; decide) (by rw [c1_8]; decide) (by rw [c1_8]; decide) (by decide) ?_
    refine G.less [(0, .ref (gAd E (0)))] [0] rfl ?_
    exact l_X11_countMounted_156 E f sz _ N B gr C hz _ _ _ hr _ _ h hD hA Fr.rf
  replace hr := ite_f c1_8 hr
  by_cases c1_9 : a0 = (9 : Int32)
  · replace hr := ite_t c1_9 hr
    refine G.tswI 156 (155) (tbd tv_X11_countMounted rfl) (by rw [c1_9]; decide) (by rw [c1_9]; decide) (by rw [c1_9]; decide) (by decide) ?_
    refine G.less [(0, .ref (gAd E (0)))] [0] rfl ?_
    exact l_X11_countMounted_156 E f sz _ N B gr C hz _ _ _ hr _ _ h hD hA Fr.rf
  replace hr := ite_f c1_9 hr
  by_cases c1_10 : a0 = (10 : Int32)
  · replace hr := ite_t c1_10 hr
    refine G.tswI 156 (155) (tbd tv_X11_countMounted rfl) (by rw [c1_10]; decide) (by rw [c1_10]; decide) (by rw [c1_10]; decide) (by decide) ?_
    refine G.less [(0, .ref (gAd E (0)))] [0] rfl ?_
    exact l_X11_countMounted_156 E f sz _ N B gr C hz _ _ _ hr _ _ h hD hA Fr.rf
  replace hr := ite_f c1_10 hr
  by_cases c1_11 : a0 = (11 : Int32)
  · replace hr := ite_t c1_11 hr
    refine G.tswI 156 (155) (tbd tv_X11_countMounted rfl) (by rw [c1_11]; decide) (by rw [c1_11]; decide) (by rw [c1_11]; decide) (by decide) ?_
    refine G.less [(0, .ref (gAd E (0)))] [0] rfl ?_
    exact l_X11_countMounted_156 E f sz _ N B gr C hz _ _ _ hr _ _ h hD hA Fr.rf
  replace hr := ite_f c1_11 hr
  by_cases c1_12 : a0 = (12 : Int32)
  · replace hr := ite_t c1_12 hr
    refine G.tswI 156 (155) (tbd tv_X11_countMounted rfl) (by rw [c1_12]; decide) (by rw [c1_12]; decide) (by rw [c1_12]; decide) (by decide) ?_
    refine G.less [(0, .ref (gAd E (0)))] [0] rfl ?_
    exact l_X11_countMounted_156 E f sz _ N B gr C hz _ _ _ hr _ _ h hD hA Fr.rf
  replace hr := ite_f c1_12 hr
  by_cases c1_13 : a0 = (13 : Int32)
  · replace hr := ite_t c1_13 hr
    refine G.tswI 156 (155) (tbd tv_X11_countMounted rfl) (by rw [c1_13]; decide) (by rw [c1_13]; decide) (by rw [c1_13]; decide) (by decide) ?_
    refine G.less [(0, .ref (gAd E (0)))] [0] rfl ?_
    exact l_X11_countMounted_156 E f sz _ N B gr C hz _ _ _ hr _ _ h hD hA Fr.rf
  replace hr := ite_f c1_13 hr
  by_cases c1_14 : a0 = (14 : Int32)
  · replace hr := ite_t c1_14 hr
    refine G.tswI 156 (155) (tbd tv_X11_countMounted rfl) (by rw [c1_14]; decide) (by rw [c1_14]; decide) (by rw [c1_14]; decide) (by decide) ?_
    refine G.less [(0, .ref (gAd E (0)))] [0] rfl ?_
    exact l_X11_countMounted_156 E f sz _ N B gr C hz _ _ _ hr _ _ h hD hA Fr.rf
  replace hr := ite_f c1_14 hr
  by_cases c1_15 : a0 = (15 : Int32)
  · replace hr := ite_t c1_15 hr
    refine G.tswI 132 (131) (tbd tv_X11_countMounted rfl) (by rw [c1_15]; decide) (by rw [c1_15]; decide) (by rw [c1_15]; decide) (by decide) ?_
    refine G.go tv_X11_countMounted 1 133 [(0, .ref (gAd E (0))), (1, .int (a0))] [.ref (gAd E (0))] rfl ?_
    refine G.getf cls_X11 (0) 8 (by omega) (h.q0) (by decide) rfl (tbd tv_X11_countMounted rfl) w_571 ?_
    obtain ⟨v87, hv87, hr⟩ := bnd_s hr
    refine G.callV (37) [] [] (k_X7_lostInodes E _ N B gr C D A hz h hD hA v87 hv87) cls_X7 (by omega) (h.q37) cw_X11_538 w_2046 w_2047 (Nat.le_of_ble_eq_true rfl) rfl (Nat.le_of_ble_eq_true rfl) (tbd tv_X11_countMounted rfl) (fun v87w f87 q87 => ?_) (fun _ _ h => h.elim)
    obtain ⟨rfl, ha87, fa87⟩ := q87
    refine G.eqs [.int (v87)] rfl ?_
    cases hr
    exact G.iret rfl rfl (FQ.ok rfl ⟨C, ha87, hD, hA, (Fr.rf.tr fa87 (fun _ h => h))⟩) (tbd tv_X11_countMounted rfl)
  replace hr := ite_f c1_15 hr
  by_cases c1_16 : a0 = (16 : Int32)
  · replace hr := ite_t c1_16 hr
    refine G.tswI 140 (139) (tbd tv_X11_countMounted rfl) (by rw [c1_16]; decide) (by rw [c1_16]; decide) (by rw [c1_16]; decide) (by decide) ?_
    refine G.go tv_X11_countMounted 1 141 [(0, .ref (gAd E (0))), (1, .int (a0))] [.ref (gAd E (0))] rfl ?_
    refine G.getf cls_X11 (0) 7 (by omega) (h.q0) (by decide) rfl (tbd tv_X11_countMounted rfl) w_570 ?_
    refine G.getf cls_X10 (25) 11 (by omega) (h.q25) (by decide) rfl (tbd tv_X11_countMounted rfl) w_423 ?_
    refine G.eq1 (b := gpI A) (hA.gp) ?_
    refine G.if_eq 154 (tbd tv_X11_countMounted rfl) (by decide) (fun c147 => ?_) (fun c147 => ?_)
    · replace hr := ite_t c147 hr
      refine G.go tv_X11_countMounted 1 155 [(0, .ref (gAd E (0))), (1, .int (a0))] [.int ((0 : Int32))] rfl ?_
      cases hr
      exact G.iret rfl rfl (FQ.ok rfl ⟨C, h, hD, hA, Fr.rf⟩) (tbd tv_X11_countMounted rfl)
    · replace hr := ite_f c147 hr
      refine G.go tv_X11_countMounted 2 155 [(0, .ref (gAd E (0))), (1, .int (a0))] [.int ((1 : Int32))] rfl ?_
      cases hr
      exact G.iret rfl rfl (FQ.ok rfl ⟨C, h, hD, hA, Fr.rf⟩) (tbd tv_X11_countMounted rfl)
  replace hr := ite_f c1_16 hr
  have nc1_0 : a0.toInt ≠ 0 := fun e => c1_0 (Int32.toInt_inj.mp (e.trans (by decide)))
  have nc1_1 : a0.toInt ≠ 1 := fun e => c1_1 (Int32.toInt_inj.mp (e.trans (by decide)))
  have nc1_2 : a0.toInt ≠ 2 := fun e => c1_2 (Int32.toInt_inj.mp (e.trans (by decide)))
  have nc1_3 : a0.toInt ≠ 3 := fun e => c1_3 (Int32.toInt_inj.mp (e.trans (by decide)))
  have nc1_4 : a0.toInt ≠ 4 := fun e => c1_4 (Int32.toInt_inj.mp (e.trans (by decide)))
  have nc1_5 : a0.toInt ≠ 5 := fun e => c1_5 (Int32.toInt_inj.mp (e.trans (by decide)))
  have nc1_6 : a0.toInt ≠ 6 := fun e => c1_6 (Int32.toInt_inj.mp (e.trans (by decide)))
  have nc1_7 : a0.toInt ≠ 7 := fun e => c1_7 (Int32.toInt_inj.mp (e.trans (by decide)))
  have nc1_8 : a0.toInt ≠ 8 := fun e => c1_8 (Int32.toInt_inj.mp (e.trans (by decide)))
  have nc1_9 : a0.toInt ≠ 9 := fun e => c1_9 (Int32.toInt_inj.mp (e.trans (by decide)))
  have nc1_10 : a0.toInt ≠ 10 := fun e => c1_10 (Int32.toInt_inj.mp (e.trans (by decide)))
  have nc1_11 : a0.toInt ≠ 11 := fun e => c1_11 (Int32.toInt_inj.mp (e.trans (by decide)))
  have nc1_12 : a0.toInt ≠ 12 := fun e => c1_12 (Int32.toInt_inj.mp (e.trans (by decide)))
  have nc1_13 : a0.toInt ≠ 13 := fun e => c1_13 (Int32.toInt_inj.mp (e.trans (by decide)))
  have nc1_14 : a0.toInt ≠ 14 := fun e => c1_14 (Int32.toInt_inj.mp (e.trans (by decide)))
  have nc1_15 : a0.toInt ≠ 15 := fun e => c1_15 (Int32.toInt_inj.mp (e.trans (by decide)))
  have nc1_16 : a0.toInt ≠ 16 := fun e => c1_16 (Int32.toInt_inj.mp (e.trans (by decide)))
  refine G.tswO 156 (tbd tv_X11_countMounted rfl) (by omega) (by decide) ?_
  refine G.less [(0, .ref (gAd E (0)))] [0] rfl ?_
  exact l_X11_countMounted_156 E f sz _ N B gr C hz _ _ _ hr _ _ h hD hA Fr.rf
