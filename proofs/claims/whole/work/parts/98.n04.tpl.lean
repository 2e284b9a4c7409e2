theorem w_1849 : Cond.methodLink "LedgerFiles" 439 yX7_gather ∈ TB := tp_8 23 (by decide +kernel) rfl
theorem cw_X11_439 : Cw RX11 439 yX7_gather cX7_gather 6 none 1 := ⟨w_1849, w_1552, w_157, by decide +kernel, by decide +kernel, by decide⟩
theorem w_1850 : Cond.methodLink "LedgerFiles" 442 yX0_nextAbove ∈ TB := tp_8 24 (by decide +kernel) rfl
theorem cw_X11_442 : Cw RX11 442 yX0_nextAbove cX0_nextAbove 4 (some .int) 1 := ⟨w_1850, w_768, w_152, by decide +kernel, by decide +kernel, by decide⟩
theorem w_1859 : Cond.methodLink "LedgerFiles" 454 yX2_syncAll ∈ TB := tp_8 33 (by decide +kernel) rfl
theorem cw_X11_454 : Cw RX11 454 yX2_syncAll cX2_syncAll 2 none 0 := ⟨w_1859, w_772, w_149, by decide +kernel, by decide +kernel, by decide⟩
theorem w_1851 : Cond.methodLink "LedgerFiles" 448 yX7_hasGathered ∈ TB := tp_8 25 (by decide +kernel) rfl
theorem w_1854 : Cond.code yX7_hasGathered prog_9_method_33_code 3 (some .boolean) ∈ TB := tp_8 28 rfl rfl
theorem cw_X11_448 : Cw RX11 448 yX7_hasGathered cX7_hasGathered 3 (some .boolean) 1 := ⟨w_1851, w_1854, w_157, by decide +kernel, by decide +kernel, by decide⟩
theorem w_1852 : Cond.instanceMethod yX7_hasGathered ∈ TB := tp_8 26 (by decide +kernel) rfl
theorem w_1853 : Cond.selects "LedgerFiles$Nodes" yX7_hasGathered yX7_hasGathered ∈ TB := tp_8 27 (by decide +kernel) rfl
theorem w_1855 : Cond.methodLink "LedgerFiles" 451 yX0_writeOut ∈ TB := tp_8 29 (by decide +kernel) rfl
theorem w_1858 : Cond.code yX0_writeOut prog_2_method_6_code 2 none ∈ TB := tp_8 32 rfl rfl
theorem cw_X11_451 : Cw RX11 451 yX0_writeOut cX0_writeOut 2 none 1 := ⟨w_1855, w_1858, w_152, by decide +kernel, by decide +kernel, by decide⟩
theorem w_1856 : Cond.instanceMethod yX0_writeOut ∈ TB := tp_8 30 (by decide +kernel) rfl
theorem w_1857 : Cond.selects "LedgerFiles$Buffer" yX0_writeOut yX0_writeOut ∈ TB := tp_8 31 (by decide +kernel) rfl
noncomputable def d_X11_sync_48 (N B gr : Nat) : Nat → MS → CfT → Int32 → Int32 → Int32 → Option (FR Int32)
  | 0, _, _, _, _, _ => none
  | n + 1, A, D, x3, x4, x5 => if x5 ≤ 0 then bndF (fSn N B gr A D) (fun v5 A5 D5 => some (.inl (x3, A5, D5))) else if x4 = ((-1 : Int32)) then bndF (fSn N B gr A D) (fun v6 A6 D6 => some (.inl (x3, A6, D6))) else bnd (d_X7_hasGathered N (vA A) D x4) (fun v7 => if v7 = 0 then bndF (fNx N B gr A D x4) (fun v8 A8 D8 => d_X11_sync_48 N B gr n A8 D8 x3 v8 (x5 + (-1 : Int32))) else bndF (fWo N B gr A D x4) (fun v9 A9 D9 => bndF (fNx N B gr A9 D9 x4) (fun v10 A10 D10 => d_X11_sync_48 N B gr n A10 D10 (x3 + (1 : Int32)) v10 (x5 + (-1 : Int32)))))
noncomputable def d_X11_sync (N B gr : Nat) (A : MS) (D : CfT) (a0 : Int32) : Option (FR Int32) := bndF (d_X11_needMounted N B gr A D) (fun v1 A1 D1 => bnd (d_X7_faultOfFile N (vA A1) D1 a0) (fun v2 => if 0 ≤ v2 then bnd (d_X7_gather N (vA A1) D1 a0) (fun D3 => bndF (fNx N B gr A1 D3 ((-1 : Int32))) (fun v4 A4 D4 => d_X11_sync_48 N B gr fuL A4 D4 ((0 : Int32)) v4 (nI A4.1.2.1.2.1))) else some (.inl (v2, A1, D1))))
set_option maxRecDepth 100000 in
set_option maxHeartbeats 4000000 in
theorem l_X11_sync_48 (E : gE) (f0 : Nat → va_E) (sz : Nat) (QA : Nat → Prop) (N B gr : Nat) (C0 : CfT) (hz : CfZ E N B gr) : ∀ (n : Nat), ∀ (A : MS) (D : CfT) (x3 : Int32) (x4 : Int32) (x5 : Int32) (r : FR Int32) (hr : d_X11_sync_48 N B gr n A D x3 x4 x5 = some r) (f : Nat → va_E) (C : CfT) (h : CfV E f N B gr C) (hD : Dq D C) (hA : AR N B gr A C) (hf : Fr CfK f0 f), G E (9, yX11_sync, 6, (some .int), sz, QA) cX11_sync (gO E (9, yX11_sync, 6, (some .int), sz, QA) (FQ E N B gr f0 (fun r => some (.int r)) r)) 48 [(0, .ref (gAd E (0))), (3, .int (x3)), (4, .int (x4)), (5, .int (x5))] [] f := by
  obtain ⟨z1, z2, z3, z4, z5, z6, z7⟩ := id hz
  intro n
  induction n with
  | zero =>
    intro A D x3 x4 x5 r hr f C h hD hA hf
    cases hr
  | succ n ih =>
    intro A D x3 x4 x5 r hr f C h hD hA hf
    unfold d_X11_sync_48 at hr
    refine G.go tv_X11_sync 1 50 [(0, .ref (gAd E (0))), (3, .int (x3)), (4, .int (x4)), (5, .int (x5))] [.int (x5)] rfl ?_
    refine G.if_le 100 (tbd tv_X11_sync rfl) (by decide) (fun c50 => ?_) (fun c50 => ?_)
    · replace hr := ite_t c50 hr
      refine G.go tv_X11_sync 1 101 [(0, .ref (gAd E (0))), (3, .int (x3)), (4, .int (x4)), (5, .int (x5))] [.ref (gAd E (0))] rfl ?_
      refine G.getf cls_X11 (0) 3 (by omega) (h.q0) (by decide) rfl (tbd tv_X11_sync rfl) w_566 ?_
      rcases bndF_s hr with ⟨v5, A5, D5, hv5, hr⟩ | ⟨ex5, A5, D5, hv5, rfl⟩
      rotate_left
      · skip
        refine G.callV (2) [] [] (k_X2_syncAll E _ N B gr C D A hz h hD hA _ hv5) cls_X2 (by omega) (h.q2) cw_X11_454 w_770 w_771 (Nat.le_of_ble_eq_true rfl) rfl (Nat.le_of_ble_eq_true rfl) (tbd tv_X11_sync rfl) (fun v5w f5 q5 => ?_) (fun X g q => FQ.fr q hf)
        exact q5.elim
      refine G.callV (2) [] [] (k_X2_syncAll E _ N B gr C D A hz h hD hA _ hv5) cls_X2 (by omega) (h.q2) cw_X11_454 w_770 w_771 (Nat.le_of_ble_eq_true rfl) rfl (Nat.le_of_ble_eq_true rfl) (tbd tv_X11_sync rfl) (fun v5w f5 q5 => ?_) (fun _ _ h => h.elim)
      obtain ⟨rfl, C5, ha5, hD5, hA5, fa5⟩ := q5
      refine G.eqs [] rfl ?_
      refine G.go tv_X11_sync 1 108 [(0, .ref (gAd E (0))), (3, .int (x3)), (4, .int (x4)), (5, .int (x5))] [.int (x3)] rfl ?_
      cases hr
      exact G.iret rfl rfl (FQ.ok rfl ⟨C5, ha5, hD5, hA5, (hf.tr fa5 (fun _ h => h))⟩) (tbd tv_X11_sync rfl)
    · replace hr := ite_f c50 hr
      refine G.go tv_X11_sync 2 56 [(0, .ref (gAd E (0))), (3, .int (x3)), (4, .int (x4)), (5, .int (x5))] [.int ((-1 : Int32)), .int (x4)] rfl ?_
      refine G.cmp_eq 100 (tbd tv_X11_sync rfl) (by decide) (fun c56 => ?_) (fun c56 => ?_)
      · replace hr := ite_t c56 hr
        refine G.go tv_X11_sync 1 101 [(0, .ref (gAd E (0))), (3, .int (x3)), (4, .int (x4)), (5, .int (x5))] [.ref (gAd E (0))] rfl ?_
        refine G.getf cls_X11 (0) 3 (by omega) (h.q0) (by decide) rfl (tbd tv_X11_sync rfl) w_566 ?_
        rcases bndF_s hr with ⟨v6, A6, D6, hv6, hr⟩ | ⟨ex6, A6, D6, hv6, rfl⟩
        rotate_left
        · skip
          refine G.callV (2) [] [] (k_X2_syncAll E _ N B gr C D A hz h hD hA _ hv6) cls_X2 (by omega) (h.q2) cw_X11_454 w_770 w_771 (Nat.le_of_ble_eq_true rfl) rfl (Nat.le_of_ble_eq_true rfl) (tbd tv_X11_sync rfl) (fun v6w f6 q6 => ?_) (fun X g q => FQ.fr q hf)
          exact q6.elim
        refine G.callV (2) [] [] (k_X2_syncAll E _ N B gr C D A hz h hD hA _ hv6) cls_X2 (by omega) (h.q2) cw_X11_454 w_770 w_771 (Nat.le_of_ble_eq_true rfl) rfl (Nat.le_of_ble_eq_true rfl) (tbd tv_X11_sync rfl) (fun v6w f6 q6 => ?_) (fun _ _ h => h.elim)
        obtain ⟨rfl, C6, ha6, hD6, hA6, fa6⟩ := q6
        refine G.eqs [] rfl ?_
        refine G.go tv_X11_sync 1 108 [(0, .ref (gAd E (0))), (3, .int (x3)), (4, .int (x4)), (5, .int (x5))] [.int (x3)] rfl ?_
        cases hr
        exact G.iret rfl rfl (FQ.ok rfl ⟨C6, ha6, hD6, hA6, (hf.tr fa6 (fun _ h => h))⟩) (tbd tv_X11_sync rfl)
      · replace hr := ite_f c56 hr
        refine G.go tv_X11_sync 1 60 [(0, .ref (gAd E (0))), (3, .int (x3)), (4, .int (x4)), (5, .int (x5))] [.ref (gAd E (0))] rfl ?_
        refine G.getf cls_X11 (0) 8 (by omega) (h.q0) (by decide) rfl (tbd tv_X11_sync rfl) w_571 ?_
        refine G.go tv_X11_sync 1 65 [(0, .ref (gAd E (0))), (3, .int (x3)), (4, .int (x4)), (5, .int (x5))] [.int (x4), .ref (gAd E (37))] rfl ?_
        obtain ⟨v7, hv7, hr⟩ := bnd_s hr
        refine G.callV (37) [.int (x4)] [] (k_X7_hasGathered E _ N B gr C D A hz h hD hA x4 v7 hv7) cls_X7 (by omega) (h.q37) cw_X11_448 w_1852 w_1853 (Nat.le_of_ble_eq_true rfl) rfl (Nat.le_of_ble_eq_true rfl) (tbd tv_X11_sync rfl) (fun v7w f7 q7 => ?_) (fun _ _ h => h.elim)
        obtain ⟨rfl, ha7, fa7⟩ := q7
        refine G.eqs [.int (v7)] rfl ?_
        refine G.if_eq 83 (tbd tv_X11_sync rfl) (by decide) (fun c68 => ?_) (fun c68 => ?_)
        · replace hr := ite_t c68 hr
          refine G.go tv_X11_sync 1 84 [(0, .ref (gAd E (0))), (3, .int (x3)), (4, .int (x4)), (5, .int (x5))] [.ref (gAd E (0))] rfl ?_
          refine G.getf cls_X11 (0) 4 (by omega) (ha7.q0) (by decide) rfl (tbd tv_X11_sync rfl) w_567 ?_
          refine G.go tv_X11_sync 1 89 [(0, .ref (gAd E (0))), (3, .int (x3)), (4, .int (x4)), (5, .int (x5))] [.int (x4), .ref (gAd E (8))] rfl ?_
          rcases bndF_s hr with ⟨v8, A8, D8, hv8, hr⟩ | ⟨ex8, A8, D8, hv8, rfl⟩
          rotate_left
          · skip
            refine G.callV (8) [.int (x4)] [] (k_X0_nextAbove E _ N B gr C D A hz ha7 hD hA x4 _ hv8) cls_X0 (by omega) (ha7.q8) cw_X11_442 w_766 w_767 (Nat.le_of_ble_eq_true rfl) rfl (Nat.le_of_ble_eq_true rfl) (tbd tv_X11_sync rfl) (fun v8w f8 q8 => ?_) (fun X g q => FQ.fr q (hf.tr fa7 (fun _ h => h)))
            exact q8.elim
          refine G.callV (8) [.int (x4)] [] (k_X0_nextAbove E _ N B gr C D A hz ha7 hD hA x4 _ hv8) cls_X0 (by omega) (ha7.q8) cw_X11_442 w_766 w_767 (Nat.le_of_ble_eq_true rfl) rfl (Nat.le_of_ble_eq_true rfl) (tbd tv_X11_sync rfl) (fun v8w f8 q8 => ?_) (fun _ _ h => h.elim)
          obtain ⟨rfl, C8, ha8, hD8, hA8, fa8⟩ := q8
          refine G.eqs [.int (v8)] rfl ?_
          refine G.go tv_X11_sync 3 48 [(0, .ref (gAd E (0))), (3, .int (x3)), (4, .int (v8)), (5, .int (x5 + (-1 : Int32)))] [] rfl ?_
          refine G.less [(0, .ref (gAd E (0))), (3, .int (x3)), (4, .int (v8)), (5, .int (x5 + (-1 : Int32)))] [0, 1, 2, 3] rfl ?_
          exact ih _ _ _ _ _ _ hr _ _ ha8 hD8 hA8 ((hf.tr fa7 (fun _ h => h)).tr fa8 (fun _ h => h))
        · replace hr := ite_f c68 hr
          refine G.go tv_X11_sync 1 72 [(0, .ref (gAd E (0))), (3, .int (x3)), (4, .int (x4)), (5, .int (x5))] [.ref (gAd E (0))] rfl ?_
          refine G.getf cls_X11 (0) 4 (by omega) (ha7.q0) (by decide) rfl (tbd tv_X11_sync rfl) w_567 ?_
          refine G.go tv_X11_sync 1 77 [(0, .ref (gAd E (0))), (3, .int (x3)), (4, .int (x4)), (5, .int (x5))] [.int (x4), .ref (gAd E (8))] rfl ?_
          rcases bndF_s hr with ⟨v9, A9, D9, hv9, hr⟩ | ⟨ex9, A9, D9, hv9, rfl⟩
          rotate_left
          · skip
            refine G.callV (8) [.int (x4)] [] (k_X0_writeOut E _ N B gr C D A hz ha7 hD hA x4 _ hv9) cls_X0 (by omega) (ha7.q8) cw_X11_451 w_1856 w_1857 (Nat.le_of_ble_eq_true rfl) rfl (Nat.le_of_ble_eq_true rfl) (tbd tv_X11_sync rfl) (fun v9w f9 q9 => ?_) (fun X g q => FQ.fr q (hf.tr fa7 (fun _ h => h)))
            exact q9.elim
          refine G.callV (8) [.int (x4)] [] (k_X0_writeOut E _ N B gr C D A hz ha7 hD hA x4 _ hv9) cls_X0 (by omega) (ha7.q8) cw_X11_451 w_1856 w_1857 (Nat.le_of_ble_eq_true rfl) rfl (Nat.le_of_ble_eq_true rfl) (tbd tv_X11_sync rfl) (fun v9w f9 q9 => ?_) (fun _ _ h => h.elim)
          obtain ⟨rfl, C9, ha9, hD9, hA9, fa9⟩ := q9
          refine G.eqs [] rfl ?_
          refine G.go tv_X11_sync 2 84 [(0, .ref (gAd E (0))), (3, .int (x3 + (1 : Int32))), (4, .int (x4)), (5, .int (x5))] [.ref (gAd E (0))] rfl ?_
          refine G.getf cls_X11 (0) 4 (by omega) (ha9.q0) (by decide) rfl (tbd tv_X11_sync rfl) w_567 ?_
          refine G.go tv_X11_sync 1 89 [(0, .ref (gAd E (0))), (3, .int (x3 + (1 : Int32))), (4, .int (x4)), (5, .int (x5))] [.int (x4), .ref (gAd E (8))] rfl ?_
          rcases bndF_s hr with ⟨v10, A10, D10, hv10, hr⟩ | ⟨ex10, A10, D10, hv10, rfl⟩
          rotate_left
          · skip
            refine G.callV (8) [.int (x4)] [] (k_X0_nextAbove E _ N B gr C9 D9 A9 hz ha9 hD9 hA9 x4 _ hv10) cls_X0 (by omega) (ha9.q8) cw_X11_442 w_766 w_767 (Nat.le_of_ble_eq_true rfl) rfl (Nat.le_of_ble_eq_true rfl) (tbd tv_X11_sync rfl) (fun v10w f10 q10 => ?_) (fun X g q => FQ.fr q ((hf.tr fa7 (fun _ h => h)).tr fa9 (fun _ h => h)))
            exact q10.elim
          refine G.callV (8) [.int (x4)] [] (k_X0_nextAbove E _ N B gr C9 D9 A9 hz ha9 hD9 hA9 x4 _ hv10) cls_X0 (by omega) (ha9.q8) cw_X11_442 w_766 w_767 (Nat.le_of_ble_eq_true rfl) rfl (Nat.le_of_ble_eq_true rfl) (tbd tv_X11_sync rfl) (fun v10w f10 q10 => ?_) (fun _ _ h => h.elim)
          obtain ⟨rfl, C10, ha10, hD10, hA10, fa10⟩ := q10
          refine G.eqs [.int (v10)] rfl ?_
          refine G.go tv_X11_sync 3 48 [(0, .ref (gAd E (0))), (3, .int (x3 + (1 : Int32))), (4, .int (v10)), (5, .int (x5 + (-1 : Int32)))] [] rfl ?_
          refine G.less [(0, .ref (gAd E (0))), (3, .int (x3 + (1 : Int32))), (4, .int (v10)), (5, .int (x5 + (-1 : Int32)))] [0, 1, 2, 3] rfl ?_
          exact ih _ _ _ _ _ _ hr _ _ ha10 hD10 hA10 (((hf.tr fa7 (fun _ h => h)).tr fa9 (fun _ h => h)).tr fa10 (fun _ h => h))
set_option maxRecDepth 100000 in
set_option maxHeartbeats 4000000 in
theorem k_X11_sync (E : gE) (f : Nat → va_E) (N B gr : Nat) (C D : CfT) (A : MS) (hz : CfZ E N B gr) (h : CfV E f N B gr C) (hD : Dq D C) (hA : AR N B gr A C) (a0 : Int32) (r : FR Int32) (hr : d_X11_sync N B gr A D a0 = some r) : Ct E 9 yX11_sync cX11_sync 6 (some .int) [.ref (gAd E (0)), .int (a0)] f (FQ E N B gr f (fun r => some (.int r)) r) := by
  obtain ⟨z1, z2, z3, z4, z5, z6, z7⟩ := id hz
  refine Ct.of (by decide) (Nat.le_of_ble_eq_true rfl) (fun sz => ?_)
  refine G.eql [(0, .ref (gAd E (0))), (1, .int (a0))] rfl ?_
  unfold d_X11_sync at hr
  refine G.go tv_X11_sync 1 1 [(0, .ref (gAd E (0))), (1, .int (a0))] [.ref (gAd E (0))] rfl ?_
  rcases bndF_s hr with ⟨v1, A1, D1, hv1, hr⟩ | ⟨ex1, A1, D1, hv1, rfl⟩
  rotate_left
  · skip
    refine G.callV (0) [] [] (k_X11_needMounted E _ N B gr C D A hz h hD hA _ hv1) cls_X11 (by omega) (h.q0) cw_X11_221 w_1320 w_27 (Nat.le_of_ble_eq_true rfl) rfl (Nat.le_of_ble_eq_true rfl) (tbd tv_X11_sync rfl) (fun v1w f1 q1 => ?_) (fun X g q => FQ.fr q Fr.rf)
    exact q1.elim
  refine G.callV (0) [] [] (k_X11_needMounted E _ N B gr C D A hz h hD hA _ hv1) cls_X11 (by omega) (h.q0) cw_X11_221 w_1320 w_27 (Nat.le_of_ble_eq_true rfl) rfl (Nat.le_of_ble_eq_true rfl) (tbd tv_X11_sync rfl) (fun v1w f1 q1 => ?_) (fun _ _ h => h.elim)
  obtain ⟨rfl, C1, ha1, hD1, hA1, fa1⟩ := q1
  refine G.eqs [] rfl ?_
  refine G.go tv_X11_sync 1 5 [(0, .ref (gAd E (0))), (1, .int (a0))] [.ref (gAd E (0))] rfl ?_
  refine G.getf cls_X11 (0) 8 (by omega) (ha1.q0) (by decide) rfl (tbd tv_X11_sync rfl) w_571 ?_
  refine G.go tv_X11_sync 1 9 [(0, .ref (gAd E (0))), (1, .int (a0))] [.int (a0), .ref (gAd E (37))] rfl ?_
  obtain ⟨v2, hv2, hr⟩ := bnd_s hr
  refine G.callV (37) [.int (a0)] [] (k_X7_faultOfFile E _ N B gr C1 D1 A1 hz ha1 hD1 hA1 a0 v2 hv2) cls_X7 (by omega) (ha1.q37) cw_X11_352 w_1602 w_1603 (Nat.le_of_ble_eq_true rfl) rfl (Nat.le_of_ble_eq_true rfl) (tbd tv_X11_sync rfl) (fun v2w f2 q2 => ?_) (fun _ _ h => h.elim)
  obtain ⟨rfl, ha2, fa2⟩ := q2
  refine G.eqs [.int (v2)] rfl ?_
  refine G.go tv_X11_sync 2 14 [(0, .ref (gAd E (0))), (1, .int (a0)), (2, .int (v2))] [.int (v2)] rfl ?_
  refine G.if_ge 19 (tbd tv_X11_sync rfl) (by decide) (fun c14 => ?_) (fun c14 => ?_)
  · replace hr := ite_t c14 hr
    refine G.go tv_X11_sync 1 20 [(0, .ref (gAd E (0))), (1, .int (a0)), (2, .int (v2))] [.ref (gAd E (0))] rfl ?_
    refine G.getf cls_X11 (0) 8 (by omega) (ha2.q0) (by decide) rfl (tbd tv_X11_sync rfl) w_571 ?_
    refine G.go tv_X11_sync 1 24 [(0, .ref (gAd E (0))), (1, .int (a0)), (2, .int (v2))] [.int (a0), .ref (gAd E (37))] rfl ?_
    obtain ⟨D3, hv3, hr⟩ := bnd_s hr
    refine G.callV (37) [.int (a0)] [] (k_X7_gather E _ N B gr C1 D1 A1 hz ha2 hD1 hA1 a0 D3 hv3) cls_X7 (by omega) (ha2.q37) cw_X11_439 w_1550 w_1551 (Nat.le_of_ble_eq_true rfl) rfl (Nat.le_of_ble_eq_true rfl) (tbd tv_X11_sync rfl) (fun v3w f3 q3 => ?_) (fun _ _ h => h.elim)
    obtain ⟨rfl, C3, ha3, hD3, hA3, hR3, fa3⟩ := q3
    refine G.eqs [] rfl ?_
    refine G.go tv_X11_sync 3 30 [(0, .ref (gAd E (0))), (1, .int (a0)), (2, .int (v2)), (3, .int ((0 : Int32)))] [.ref (gAd E (0))] rfl ?_
    refine G.getf cls_X11 (0) 4 (by omega) (ha3.q0) (by decide) rfl (tbd tv_X11_sync rfl) w_567 ?_
    refine G.go tv_X11_sync 1 34 [(0, .ref (gAd E (0))), (1, .int (a0)), (2, .int (v2)), (3, .int ((0 : Int32)))] [.int ((-1 : Int32)), .ref (gAd E (8))] rfl ?_
    rcases bndF_s hr with ⟨v4, A4, D4, hv4, hr⟩ | ⟨ex4, A4, D4, hv4, rfl⟩
    rotate_left
    · skip
      refine G.callV (8) [.int ((-1 : Int32))] [] (k_X0_nextAbove E _ N B gr C3 D3 A1 hz ha3 hD3 hA3 ((-1 : Int32)) _ hv4) cls_X0 (by omega) (ha3.q8) cw_X11_442 w_766 w_767 (Nat.le_of_ble_eq_true rfl) rfl (Nat.le_of_ble_eq_true rfl) (tbd tv_X11_sync rfl) (fun v4w f4 q4 => ?_) (fun X g q => FQ.fr q (((Fr.rf.tr fa1 (fun _ h => h)).tr fa2 (fun _ h => h)).tr fa3 (fun _ h => h)))
      exact q4.elim
    refine G.callV (8) [.int ((-1 : Int32))] [] (k_X0_nextAbove E _ N B gr C3 D3 A1 hz ha3 hD3 hA3 ((-1 : Int32)) _ hv4) cls_X0 (by omega) (ha3.q8) cw_X11_442 w_766 w_767 (Nat.le_of_ble_eq_true rfl) rfl (Nat.le_of_ble_eq_true rfl) (tbd tv_X11_sync rfl) (fun v4w f4 q4 => ?_) (fun _ _ h => h.elim)
    obtain ⟨rfl, C4, ha4, hD4, hA4, fa4⟩ := q4
    refine G.eqs [.int (v4)] rfl ?_
    refine G.go tv_X11_sync 2 40 [(0, .ref (gAd E (0))), (1, .int (a0)), (2, .int (v2)), (3, .int ((0 : Int32))), (4, .int (v4))] [.ref (gAd E (0))] rfl ?_
    refine G.getf cls_X11 (0) 4 (by omega) (ha4.q0) (by decide) rfl (tbd tv_X11_sync rfl) w_567 ?_
    refine G.getf cls_X0 (8) 6 (by omega) (ha4.q8) (by decide) rfl (tbd tv_X11_sync rfl) w_292 ?_
    refine G.eq1 (b := nI A4.1.2.1.2.1) (hA4.1.num.2.2.2.2.1) ?_
    refine G.go tv_X11_sync 1 48 [(0, .ref (gAd E (0))), (1, .int (a0)), (2, .int (v2)), (3, .int ((0 : Int32))), (4, .int (v4)), (5, .int (nI A4.1.2.1.2.1))] [] rfl ?_
    refine G.less [(0, .ref (gAd E (0))), (3, .int ((0 : Int32))), (4, .int (v4)), (5, .int (nI A4.1.2.1.2.1))] [0, 3, 4, 5] rfl ?_
    exact l_X11_sync_48 E f sz _ N B gr C hz _ _ _ _ _ _ _ hr _ _ ha4 hD4 hA4 ((((Fr.rf.tr fa1 (fun _ h => h)).tr fa2 (fun _ h => h)).tr fa3 (fun _ h => h)).tr fa4 (fun _ h => h))
  · replace hr := ite_f c14 hr
    refine G.go tv_X11_sync 1 18 [(0, .ref (gAd E (0))), (1, .int (a0)), (2, .int (v2))] [.int (v2)] rfl ?_
    cases hr
    exact G.iret rfl rfl (FQ.ok rfl ⟨C1, ha2, hD1, hA1, ((Fr.rf.tr fa1 (fun _ h => h)).tr fa2 (fun _ h => h))⟩) (tbd tv_X11_sync rfl)
