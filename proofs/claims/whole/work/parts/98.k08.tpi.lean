theorem w_1535 : Cond.constant "LedgerFiles" 335 (1000000 : Int32) ∈ TB := tp_6 189 (by decide +kernel) rfl
theorem w_1536 : Cond.methodLink "LedgerFiles" 336 yX4_slots ∈ TB := tp_6 190 (by decide +kernel) rfl
theorem cw_X11_336 : Cw RX11 336 yX4_slots cX4_slots 2 (some .int) 1 := ⟨w_1536, w_1367, w_158, by decide +kernel, by decide +kernel, by decide⟩
theorem w_1537 : Cond.methodLink "LedgerFiles" 339 yX10_trim ∈ TB := tp_6 191 (by decide +kernel) rfl
theorem cw_X11_339 : Cw RX11 339 yX10_trim cX10_trim 6 (some .int) 1 := ⟨w_1537, w_1253, w_155, by decide +kernel, by decide +kernel, by decide⟩
noncomputable def d_X11_clear_263 (N B gr : Nat) (A : MS) (D : CfT) (x4 : Int32) : Option (FR Int32) := if (gpI A) = 0 then bnd3 (d_X10_trim N A D ((1 : Int32))) (fun v13 A13 D13 => if v13 ≤ ((40 : Int32)) then bndF (d_X10_finish N B gr A13 D13) (fun v14 A14 D14 => some (.inl (x4, A14, D14))) else bnd2 (d_X10_discard N A13 D13) (fun A15 D15 => some (.inl ((-12 : Int32), A15, D15)))) else bndF (d_X10_finish N B gr A D) (fun v12 A12 D12 => some (.inl (x4, A12, D12)))
noncomputable def d_X11_clear_240 (N B gr : Nat) (self90 : MS → CfT → Int32 → Int32 → Int32 → Int32 → Option (FR Int32)) (A : MS) (D : CfT) (x3 : Int32) (x4 : Int32) (x5 : Int32) (x6 : Int32) : Option (FR Int32) := if x3 = 0 then d_X11_clear_263 N B gr A D x4 else ld (cA D 55) 65 x3 (fun v26 => stA D 55 65 x3 ((v26) + ((1 : Int32))) (fun D27 => self90 A D27 x3 x4 x5 (x6 + (1 : Int32))))
noncomputable def d_X11_clear_201 (N B gr : Nat) (self90 : MS → CfT → Int32 → Int32 → Int32 → Int32 → Option (FR Int32)) (A : MS) (D : CfT) (x3 : Int32) (x4 : Int32) (x6 : Int32) (x7 : Int32) : Option (FR Int32) := if x7 = 0 then d_X11_clear_240 N B gr self90 A D x3 x4 ((0 : Int32)) x6 else ld (cA D 54) 65 x3 (fun v22 => ld (cA D 55) 65 x3 (fun v23 => bnd2 (d_X4_wipe N A D v22 v23) (fun A24 D24 => bnd2 (d_X7_loseName N A24 D24 x7) (fun A25 D25 => d_X11_clear_240 N B gr self90 A25 D25 x3 (x4 + (1 : Int32)) ((0 : Int32)) x6))))
noncomputable def d_X11_clear_130 (N B gr : Nat) (self90 : MS → CfT → Int32 → Int32 → Int32 → Int32 → Option (FR Int32)) (A : MS) (D : CfT) (x3 : Int32) (x4 : Int32) (x5 : Int32) (x6 : Int32) : Option (FR Int32) := ld (cA D 54) 65 x3 (fun v16 => ld (cA D 55) 65 x3 (fun v17 => bnd (d_X4_inodeAt N (vA A) D v16 v17) (fun v18 => if v18 = 0 then d_X11_clear_201 N B gr self90 A D x3 x4 x6 v18 else if x5 = 0 then bnd (d_X7_kind N (vA A) D v18) (fun v19 => if v19 = ((2 : Int32)) then if ((64 : Int32)) ≤ x3 then d_X11_clear_201 N B gr self90 A D x3 x4 x6 v18 else stA D 54 65 (x3 + (1 : Int32)) v18 (fun D20 => stA D20 55 65 (x3 + (1 : Int32)) ((0 : Int32)) (fun D21 => self90 A D21 (x3 + (1 : Int32)) x4 x5 (x6 + (1 : Int32)))) else d_X11_clear_201 N B gr self90 A D x3 x4 x6 v18) else d_X11_clear_201 N B gr self90 A D x3 x4 x6 v18)))
noncomputable def d_X11_clear_90 (N B gr : Nat) : Nat → MS → CfT → Int32 → Int32 → Int32 → Int32 → Option (FR Int32)
  | 0, _, _, _, _, _, _ => none
  | n + 1, A, D, x3, x4, x5, x6 => if ((1000000 : Int32)) ≤ x6 then d_X11_clear_263 N B gr A D x4 else if x3 ≤ 0 then d_X11_clear_130 N B gr (d_X11_clear_90 N B gr n) A D x3 x4 x5 x6 else ld (cA D 55) 65 x3 (fun v9 => ld (cA D 54) 65 x3 (fun v10 => bnd (d_X4_slots N (vA A) D v10) (fun v11 => if v9 < v11 then d_X11_clear_130 N B gr (d_X11_clear_90 N B gr n) A D x3 x4 x5 x6 else d_X11_clear_130 N B gr (d_X11_clear_90 N B gr n) A D (x3 + (-1 : Int32)) x4 ((1 : Int32)) x6)))
noncomputable def d_X11_clear (N B gr : Nat) (A : MS) (D : CfT) : Option (FR Int32) := bnd2 (d_X11_useTape N (vA A) D) (fun v1 D1 => bndF (d_X11_needMounted N B gr A D1) (fun v2 A2 D2 => bnd2 (d_X11_inodeBelowRoot N (vA A2) D2 v1) (fun v3 D3 => if 0 ≤ v3 then bnd (d_X4_walk_47 N (vA A2) D3 ((cS D3 4702) - ((1 : Int32)))) (fun v4 => stA D3 54 65 ((0 : Int32)) v4 (fun D5 => ld (cA D5 54) 65 ((0 : Int32)) (fun v6 => bnd (d_X4_slotOf_47 N (vA A2) D5 v6 ((cS D5 4702) - ((1 : Int32)))) (fun v7 => stA D5 55 65 ((0 : Int32)) v7 (fun D8 => d_X11_clear_90 N B gr fuL A2 D8 ((0 : Int32)) ((0 : Int32)) ((0 : Int32)) ((0 : Int32))))))) else some (.inl (v3, A2, D3)))))
set_option maxRecDepth 100000 in
set_option maxHeartbeats 4000000 in
theorem l_X11_clear_263 (E : gE) (f0 : Nat → va_E) (sz : Nat) (QA : Nat → Prop) (N B gr : Nat) (C0 : CfT) (hz : CfZ E N B gr) : ∀ (A : MS) (D : CfT) (x4 : Int32) (r : FR Int32) (hr : d_X11_clear_263 N B gr A D x4 = some r) (f : Nat → va_E) (C : CfT) (h : CfV E f N B gr C) (hD : Dq D C) (hA : AR N B gr A C) (hf : Fr CfK f0 f), G E (12, yX11_clear, 8, (some .int), sz, QA) cX11_clear (gO E (12, yX11_clear, 8, (some .int), sz, QA) (FQ E N B gr f0 (fun r => some (.int r)) r)) 263 [(0, .ref (gAd E (0))), (4, .int (x4))] [] f := by
  obtain ⟨z1, z2, z3, z4, z5, z6, z7⟩ := id hz
  intro A D x4 r hr f C h hD hA hf
  unfold d_X11_clear_263 at hr
  refine G.go tv_X11_clear 1 264 [(0, .ref (gAd E (0))), (4, .int (x4))] [.ref (gAd E (0))] rfl ?_
  refine G.getf cls_X11 (0) 7 (by omega) (h.q0) (by decide) rfl (tbd tv_X11_clear rfl) w_570 ?_
  refine G.getf cls_X10 (25) 11 (by omega) (h.q25) (by decide) rfl (tbd tv_X11_clear rfl) w_423 ?_
  refine G.eq1 (b := gpI A) (hA.gp) ?_
  refine G.if_ne 296 (tbd tv_X11_clear rfl) (by decide) (fun c270 => ?_) (fun c270 => ?_)
  · replace hr := ite_f c270 hr
    refine G.go tv_X11_clear 1 297 [(0, .ref (gAd E (0))), (4, .int (x4))] [.ref (gAd E (0))] rfl ?_
    refine G.getf cls_X11 (0) 7 (by omega) (h.q0) (by decide) rfl (tbd tv_X11_clear rfl) w_570 ?_
    rcases bndF_s hr with ⟨v12, A12, D12, hv12, hr⟩ | ⟨ex12, A12, D12, hv12, rfl⟩
    rotate_left
    · skip
      refine G.callV (25) [] [] (k_X10_finish E _ N B gr C D A hz h hD hA _ hv12) cls_X10 (by omega) (h.q25) cw_X11_244 w_1247 w_1248 (Nat.le_of_ble_eq_true rfl) rfl (Nat.le_of_ble_eq_true rfl) (tbd tv_X11_clear rfl) (fun v12w f12 q12 => ?_) (fun X g q => FQ.fr q hf)
      exact q12.elim
    refine G.callV (25) [] [] (k_X10_finish E _ N B gr C D A hz h hD hA _ hv12) cls_X10 (by omega) (h.q25) cw_X11_244 w_1247 w_1248 (Nat.le_of_ble_eq_true rfl) rfl (Nat.le_of_ble_eq_true rfl) (tbd tv_X11_clear rfl) (fun v12w f12 q12 => ?_) (fun _ _ h => h.elim)
    obtain ⟨rfl, C12, ha12, hD12, hA12, fa12⟩ := q12
    refine G.eqs [] rfl ?_
    refine G.go tv_X11_clear 1 305 [(0, .ref (gAd E (0))), (4, .int (x4))] [.int (x4)] rfl ?_
    cases hr
    exact G.iret rfl rfl (FQ.ok rfl ⟨C12, ha12, hD12, hA12, (hf.tr fa12 (fun _ h => h))⟩) (tbd tv_X11_clear rfl)
  · replace hr := ite_t c270 hr
    refine G.go tv_X11_clear 1 274 [(0, .ref (gAd E (0))), (4, .int (x4))] [.ref (gAd E (0))] rfl ?_
    refine G.getf cls_X11 (0) 7 (by omega) (h.q0) (by decide) rfl (tbd tv_X11_clear rfl) w_570 ?_
    refine G.go tv_X11_clear 1 278 [(0, .ref (gAd E (0))), (4, .int (x4))] [.int ((1 : Int32)), .ref (gAd E (25))] rfl ?_
    obtain ⟨v13, A13, D13, hv13, hr⟩ := bnd3_s hr
    refine G.callV (25) [.int ((1 : Int32))] [] (k_X10_trim E _ N B gr C D A hz h hD hA ((1 : Int32)) v13 A13 D13 hv13) cls_X10 (by omega) (h.q25) cw_X11_339 w_1251 w_1252 (Nat.le_of_ble_eq_true rfl) rfl (Nat.le_of_ble_eq_true rfl) (tbd tv_X11_clear rfl) (fun v13w f13 q13 => ?_) (fun _ _ h => h.elim)
    obtain ⟨rfl, C13, ha13, hD13, hA13, fa13⟩ := q13
    refine G.eqs [.int (v13)] rfl ?_
    refine G.go tv_X11_clear 1 283 [(0, .ref (gAd E (0))), (4, .int (x4))] [.int ((40 : Int32)), .int (v13)] rfl ?_
    refine G.cmp_le 296 (tbd tv_X11_clear rfl) (by decide) (fun c283 => ?_) (fun c283 => ?_)
    · replace hr := ite_t c283 hr
      refine G.go tv_X11_clear 1 297 [(0, .ref (gAd E (0))), (4, .int (x4))] [.ref (gAd E (0))] rfl ?_
      refine G.getf cls_X11 (0) 7 (by omega) (ha13.q0) (by decide) rfl (tbd tv_X11_clear rfl) w_570 ?_
      rcases bndF_s hr with ⟨v14, A14, D14, hv14, hr⟩ | ⟨ex14, A14, D14, hv14, rfl⟩
      rotate_left
      · skip
        refine G.callV (25) [] [] (k_X10_finish E _ N B gr C13 D13 A13 hz ha13 hD13 hA13 _ hv14) cls_X10 (by omega) (ha13.q25) cw_X11_244 w_1247 w_1248 (Nat.le_of_ble_eq_true rfl) rfl (Nat.le_of_ble_eq_true rfl) (tbd tv_X11_clear rfl) (fun v14w f14 q14 => ?_) (fun X g q => FQ.fr q (hf.tr fa13 (fun _ h => h)))
        exact q14.elim
      refine G.callV (25) [] [] (k_X10_finish E _ N B gr C13 D13 A13 hz ha13 hD13 hA13 _ hv14) cls_X10 (by omega) (ha13.q25) cw_X11_244 w_1247 w_1248 (Nat.le_of_ble_eq_true rfl) rfl (Nat.le_of_ble_eq_true rfl) (tbd tv_X11_clear rfl) (fun v14w f14 q14 => ?_) (fun _ _ h => h.elim)
      obtain ⟨rfl, C14, ha14, hD14, hA14, fa14⟩ := q14
      refine G.eqs [] rfl ?_
      refine G.go tv_X11_clear 1 305 [(0, .ref (gAd E (0))), (4, .int (x4))] [.int (x4)] rfl ?_
      cases hr
      exact G.iret rfl rfl (FQ.ok rfl ⟨C14, ha14, hD14, hA14, ((hf.tr fa13 (fun _ h => h)).tr fa14 (fun _ h => h))⟩) (tbd tv_X11_clear rfl)
    · replace hr := ite_f c283 hr
      refine G.go tv_X11_clear 1 287 [(0, .ref (gAd E (0))), (4, .int (x4))] [.ref (gAd E (0))] rfl ?_
      refine G.getf cls_X11 (0) 7 (by omega) (ha13.q0) (by decide) rfl (tbd tv_X11_clear rfl) w_570 ?_
      obtain ⟨A15, D15, hv15, hr⟩ := bnd2_s hr
      refine G.callV (25) [] [] (k_X10_discard E _ N B gr C13 D13 A13 hz ha13 hD13 hA13 A15 D15 hv15) cls_X10 (by omega) (ha13.q25) cw_X11_247 w_849 w_850 (Nat.le_of_ble_eq_true rfl) rfl (Nat.le_of_ble_eq_true rfl) (tbd tv_X11_clear rfl) (fun v15w f15 q15 => ?_) (fun _ _ h => h.elim)
      obtain ⟨rfl, C15, ha15, hD15, hA15, fa15⟩ := q15
      refine G.eqs [] rfl ?_
      refine G.go tv_X11_clear 1 295 [(0, .ref (gAd E (0))), (4, .int (x4))] [.int ((-12 : Int32))] rfl ?_
      cases hr
      exact G.iret rfl rfl (FQ.ok rfl ⟨C15, ha15, hD15, hA15, ((hf.tr fa13 (fun _ h => h)).tr fa15 (fun _ h => h))⟩) (tbd tv_X11_clear rfl)
set_option maxRecDepth 100000 in
set_option maxHeartbeats 4000000 in
theorem l_X11_clear_240 (E : gE) (f0 : Nat → va_E) (sz : Nat) (QA : Nat → Prop) (N B gr : Nat) (C0 : CfT) (hz : CfZ E N B gr) (self90 : MS → CfT → Int32 → Int32 → Int32 → Int32 → Option (FR Int32)) (hs90 : ∀ (A : MS) (D : CfT) (x3 : Int32) (x4 : Int32) (x5 : Int32) (x6 : Int32) (r : FR Int32) (hr : self90 A D x3 x4 x5 x6 = some r) (f : Nat → va_E) (C : CfT) (h : CfV E f N B gr C) (hD : Dq D C) (hA : AR N B gr A C) (hf : Fr CfK f0 f), G E (12, yX11_clear, 8, (some .int), sz, QA) cX11_clear (gO E (12, yX11_clear, 8, (some .int), sz, QA) (FQ E N B gr f0 (fun r => some (.int r)) r)) 90 [(0, .ref (gAd E (0))), (3, .int (x3)), (4, .int (x4)), (5, .int (x5)), (6, .int (x6))] [] f) : ∀ (A : MS) (D : CfT) (x3 : Int32) (x4 : Int32) (x5 : Int32) (x6 : Int32) (r : FR Int32) (hr : d_X11_clear_240 N B gr self90 A D x3 x4 x5 x6 = some r) (f : Nat → va_E) (C : CfT) (h : CfV E f N B gr C) (hD : Dq D C) (hA : AR N B gr A C) (hf : Fr CfK f0 f), G E (12, yX11_clear, 8, (some .int), sz, QA) cX11_clear (gO E (12, yX11_clear, 8, (some .int), sz, QA) (FQ E N B gr f0 (fun r => some (.int r)) r)) 240 [(0, .ref (gAd E (0))), (3, .int (x3)), (4, .int (x4)), (5, .int (x5)), (6, .int (x6))] [] f := by
  obtain ⟨z1, z2, z3, z4, z5, z6, z7⟩ := id hz
  intro A D x3 x4 x5 x6 r hr f C h hD hA hf
  unfold d_X11_clear_240 at hr
  refine G.go tv_X11_clear 1 241 [(0, .ref (gAd E (0))), (3, .int (x3)), (4, .int (x4)), (5, .int (x5)), (6, .int (x6))] [.int (x3)] rfl ?_
  refine G.if_ne 247 (tbd tv_X11_clear rfl) (by decide) (fun c241 => ?_) (fun c241 => ?_)
  · replace hr := ite_f c241 hr
    refine G.go tv_X11_clear 1 248 [(0, .ref (gAd E (0))), (3, .int (x3)), (4, .int (x4)), (5, .int (x5)), (6, .int (x6))] [.ref (gAd E (0))] rfl ?_
    refine G.getf cls_X11 (0) 17 (by omega) (h.q0) (by decide) rfl (tbd tv_X11_clear rfl) w_580 ?_
    refine G.go tv_X11_clear 2 253 [(0, .ref (gAd E (0))), (3, .int (x3)), (4, .int (x4)), (5, .int (x5)), (6, .int (x6))] [.int (x3), .ref (gAd E (55)), .int (x3), .ref (gAd E (55))] rfl ?_
    obtain ⟨v26, b26, e26, hr⟩ := ld_s hr
    refine G.ialdE (55) (by omega) ((h.q55).trans (congrArg (oI (gDA E) (65)) (hD.2 55 (by decide)))) b26 e26 (tbd tv_X11_clear rfl) ?_
    refine G.go tv_X11_clear 2 256 [(0, .ref (gAd E (0))), (3, .int (x3)), (4, .int (x4)), (5, .int (x5)), (6, .int (x6))] [.int ((v26) + ((1 : Int32))), .int (x3), .ref (gAd E (55))] rfl ?_
    obtain ⟨D27, b27, eD27, hr⟩ := stA_s hr
    refine G.iast (55) (by omega) (h.q55) b27 (tbd tv_X11_clear rfl) ?_
    refine G.gen (P := SN E N B gr f0 A D27) ⟨sA C 55 (upd (cA C 55) x3.toNatClampNeg ((v26) + ((1 : Int32)))), h.p55 _, (by rw [eD27]; exact hD.au (by decide)), hA.sm (Sd.a (by decide) : Sd C (sA C 55 (upd (cA C 55) x3.toNatClampNeg ((v26) + ((1 : Int32)))))), Fr.c hf (by first | exact Or.inl (by decide) | exact Or.inr (by omega))⟩ (fun u27 p27 => ?_)
    obtain ⟨C27, h27, hD27, hA27, k27⟩ := p27
    refine G.go tv_X11_clear 2 90 [(0, .ref (gAd E (0))), (3, .int (x3)), (4, .int (x4)), (5, .int (x5)), (6, .int (x6 + (1 : Int32)))] [] rfl ?_
    refine G.less [(0, .ref (gAd E (0))), (3, .int (x3)), (4, .int (x4)), (5, .int (x5)), (6, .int (x6 + (1 : Int32)))] [0, 1, 2, 3, 4] rfl ?_
    exact hs90 _ _ _ _ _ _ _ hr _ _ h27 hD27 hA27 k27
  · replace hr := ite_t c241 hr
    refine G.go tv_X11_clear 1 263 [(0, .ref (gAd E (0))), (3, .int (x3)), (4, .int (x4)), (5, .int (x5)), (6, .int (x6))] [] rfl ?_
    refine G.less [(0, .ref (gAd E (0))), (4, .int (x4))] [0, 2] rfl ?_
    exact l_X11_clear_263 E f0 sz QA N B gr C0 hz _ _ _ _ hr _ _ h hD hA hf
set_option maxRecDepth 100000 in
set_option maxHeartbeats 4000000 in
theorem l_X11_clear_201 (E : gE) (f0 : Nat → va_E) (sz : Nat) (QA : Nat → Prop) (N B gr : Nat) (C0 : CfT) (hz : CfZ E N B gr) (self90 : MS → CfT → Int32 → Int32 → Int32 → Int32 → Option (FR Int32)) (hs90 : ∀ (A : MS) (D : CfT) (x3 : Int32) (x4 : Int32) (x5 : Int32) (x6 : Int32) (r : FR Int32) (hr : self90 A D x3 x4 x5 x6 = some r) (f : Nat → va_E) (C : CfT) (h : CfV E f N B gr C) (hD : Dq D C) (hA : AR N B gr A C) (hf : Fr CfK f0 f), G E (12, yX11_clear, 8, (some .int), sz, QA) cX11_clear (gO E (12, yX11_clear, 8, (some .int), sz, QA) (FQ E N B gr f0 (fun r => some (.int r)) r)) 90 [(0, .ref (gAd E (0))), (3, .int (x3)), (4, .int (x4)), (5, .int (x5)), (6, .int (x6))] [] f) : ∀ (A : MS) (D : CfT) (x3 : Int32) (x4 : Int32) (x6 : Int32) (x7 : Int32) (r : FR Int32) (hr : d_X11_clear_201 N B gr self90 A D x3 x4 x6 x7 = some r) (f : Nat → va_E) (C : CfT) (h : CfV E f N B gr C) (hD : Dq D C) (hA : AR N B gr A C) (hf : Fr CfK f0 f), G E (12, yX11_clear, 8, (some .int), sz, QA) cX11_clear (gO E (12, yX11_clear, 8, (some .int), sz, QA) (FQ E N B gr f0 (fun r => some (.int r)) r)) 201 [(0, .ref (gAd E (0))), (3, .int (x3)), (4, .int (x4)), (6, .int (x6)), (7, .int (x7))] [] f := by
  obtain ⟨z1, z2, z3, z4, z5, z6, z7⟩ := id hz
  intro A D x3 x4 x6 x7 r hr f C h hD hA hf
  unfold d_X11_clear_201 at hr
  refine G.go tv_X11_clear 3 206 [(0, .ref (gAd E (0))), (3, .int (x3)), (4, .int (x4)), (6, .int (x6)), (7, .int (x7)), (5, .int ((0 : Int32)))] [.int (x7)] rfl ?_
  refine G.if_eq 240 (tbd tv_X11_clear rfl) (by decide) (fun c206 => ?_) (fun c206 => ?_)
  · replace hr := ite_t c206 hr
    refine G.less [(0, .ref (gAd E (0))), (3, .int (x3)), (4, .int (x4)), (5, .int ((0 : Int32))), (6, .int (x6))] [0, 1, 2, 5, 3] rfl ?_
    exact l_X11_clear_240 E f0 sz QA N B gr C0 hz _ hs90 _ _ _ _ _ _ _ hr _ _ h hD hA hf
  · replace hr := ite_f c206 hr
    refine G.go tv_X11_clear 1 210 [(0, .ref (gAd E (0))), (3, .int (x3)), (4, .int (x4)), (6, .int (x6)), (7, .int (x7)), (5, .int ((0 : Int32)))] [.ref (gAd E (0))] rfl ?_
    refine G.getf cls_X11 (0) 10 (by omega) (h.q0) (by decide) rfl (tbd tv_X11_clear rfl) w_573 ?_
    refine G.go tv_X11_clear 1 214 [(0, .ref (gAd E (0))), (3, .int (x3)), (4, .int (x4)), (6, .int (x6)), (7, .int (x7)), (5, .int ((0 : Int32)))] [.ref (gAd E (0)), .ref (gAd E (40))] rfl ?_
    refine G.getf cls_X11 (0) 16 (by omega) (h.q0) (by decide) rfl (tbd tv_X11_clear rfl) w_579 ?_
    refine G.go tv_X11_clear 1 218 [(0, .ref (gAd E (0))), (3, .int (x3)), (4, .int (x4)), (6, .int (x6)), (7, .int (x7)), (5, .int ((0 : Int32)))] [.int (x3), .ref (gAd E (54)), .ref (gAd E (40))] rfl ?_
    obtain ⟨v22, b22, e22, hr⟩ := ld_s hr
    refine G.ialdE (54) (by omega) ((h.q54).trans (congrArg (oI (gDA E) (65)) (hD.2 54 (by decide)))) b22 e22 (tbd tv_X11_clear rfl) ?_
    refine G.go tv_X11_clear 1 220 [(0, .ref (gAd E (0))), (3, .int (x3)), (4, .int (x4)), (6, .int (x6)), (7, .int (x7)), (5, .int ((0 : Int32)))] [.ref (gAd E (0)), .int (v22), .ref (gAd E (40))] rfl ?_
    refine G.getf cls_X11 (0) 17 (by omega) (h.q0) (by decide) rfl (tbd tv_X11_clear rfl) w_580 ?_
    refine G.go tv_X11_clear 1 224 [(0, .ref (gAd E (0))), (3, .int (x3)), (4, .int (x4)), (6, .int (x6)), (7, .int (x7)), (5, .int ((0 : Int32)))] [.int (x3), .ref (gAd E (55)), .int (v22), .ref (gAd E (40))] rfl ?_
    obtain ⟨v23, b23, e23, hr⟩ := ld_s hr
    refine G.ialdE (55) (by omega) ((h.q55).trans (congrArg (oI (gDA E) (65)) (hD.2 55 (by decide)))) b23 e23 (tbd tv_X11_clear rfl) ?_
    obtain ⟨A24, D24, hv24, hr⟩ := bnd2_s hr
    refine G.callV (40) [.int (v22), .int (v23)] [] (k_X4_wipe E _ N B gr C D A hz h hD hA v22 v23 A24 D24 hv24) cls_X4 (by omega) (h.q40) cw_X11_302 w_1481 w_1482 (Nat.le_of_ble_eq_true rfl) rfl (Nat.le_of_ble_eq_true rfl) (tbd tv_X11_clear rfl) (fun v24w f24 q24 => ?_) (fun _ _ h => h.elim)
    obtain ⟨rfl, C24, ha24, hD24, hA24, fa24⟩ := q24
    refine G.eqs [] rfl ?_
    refine G.go tv_X11_clear 1 229 [(0, .ref (gAd E (0))), (3, .int (x3)), (4, .int (x4)), (6, .int (x6)), (7, .int (x7)), (5, .int ((0 : Int32)))] [.ref (gAd E (0))] rfl ?_
    refine G.getf cls_X11 (0) 8 (by omega) (ha24.q0) (by decide) rfl (tbd tv_X11_clear rfl) w_571 ?_
    refine G.go tv_X11_clear 1 234 [(0, .ref (gAd E (0))), (3, .int (x3)), (4, .int (x4)), (6, .int (x6)), (7, .int (x7)), (5, .int ((0 : Int32)))] [.int (x7), .ref (gAd E (37))] rfl ?_
    obtain ⟨A25, D25, hv25, hr⟩ := bnd2_s hr
    refine G.callV (37) [.int (x7)] [] (k_X7_loseName E _ N B gr C24 D24 A24 hz ha24 hD24 hA24 x7 A25 D25 hv25) cls_X7 (by omega) (ha24.q37) cw_X11_306 w_1486 w_1487 (Nat.le_of_ble_eq_true rfl) rfl (Nat.le_of_ble_eq_true rfl) (tbd tv_X11_clear rfl) (fun v25w f25 q25 => ?_) (fun _ _ h => h.elim)
    obtain ⟨rfl, C25, ha25, hD25, hA25, fa25⟩ := q25
    refine G.eqs [] rfl ?_
    refine G.go tv_X11_clear 1 240 [(0, .ref (gAd E (0))), (3, .int (x3)), (4, .int (x4 + (1 : Int32))), (6, .int (x6)), (7, .int (x7)), (5, .int ((0 : Int32)))] [] rfl ?_
    refine G.less [(0, .ref (gAd E (0))), (3, .int (x3)), (4, .int (x4 + (1 : Int32))), (5, .int ((0 : Int32))), (6, .int (x6))] [0, 1, 2, 5, 3] rfl ?_
    exact l_X11_clear_240 E f0 sz QA N B gr C0 hz _ hs90 _ _ _ _ _ _ _ hr _ _ ha25 hD25 hA25 ((hf.tr fa24 (fun _ h => h)).tr fa25 (fun _ h => h))
set_option maxRecDepth 100000 in
set_option maxHeartbeats 4000000 in
theorem l_X11_clear_130 (E : gE) (f0 : Nat → va_E) (sz : Nat) (QA : Nat → Prop) (N B gr : Nat) (C0 : CfT) (hz : CfZ E N B gr) (self90 : MS → CfT → Int32 → Int32 → Int32 → Int32 → Option (FR Int32)) (hs90 : ∀ (A : MS) (D : CfT) (x3 : Int32) (x4 : Int32) (x5 : Int32) (x6 : Int32) (r : FR Int32) (hr : self90 A D x3 x4 x5 x6 = some r) (f : Nat → va_E) (C : CfT) (h : CfV E f N B gr C) (hD : Dq D C) (hA : AR N B gr A C) (hf : Fr CfK f0 f), G E (12, yX11_clear, 8, (some .int), sz, QA) cX11_clear (gO E (12, yX11_clear, 8, (some .int), sz, QA) (FQ E N B gr f0 (fun r => some (.int r)) r)) 90 [(0, .ref (gAd E (0))), (3, .int (x3)), (4, .int (x4)), (5, .int (x5)), (6, .int (x6))] [] f) : ∀ (A : MS) (D : CfT) (x3 : Int32) (x4 : Int32) (x5 : Int32) (x6 : Int32) (r : FR Int32) (hr : d_X11_clear_130 N B gr self90 A D x3 x4 x5 x6 = some r) (f : Nat → va_E) (C : CfT) (h : CfV E f N B gr C) (hD : Dq D C) (hA : AR N B gr A C) (hf : Fr CfK f0 f), G E (12, yX11_clear, 8, (some .int), sz, QA) cX11_clear (gO E (12, yX11_clear, 8, (some .int), sz, QA) (FQ E N B gr f0 (fun r => some (.int r)) r)) 130 [(0, .ref (gAd E (0))), (3, .int (x3)), (4, .int (x4)), (5, .int (x5)), (6, .int (x6))] [] f := by
  obtain ⟨z1, z2, z3, z4, z5, z6, z7⟩ := id hz
  intro A D x3 x4 x5 x6 r hr f C h hD hA hf
  unfold d_X11_clear_130 at hr
  refine G.go tv_X11_clear 1 131 [(0, .ref (gAd E (0))), (3, .int (x3)), (4, .int (x4)), (5, .int (x5)), (6, .int (x6))] [.ref (gAd E (0))] rfl ?_
  refine G.getf cls_X11 (0) 10 (by omega) (h.q0) (by decide) rfl (tbd tv_X11_clear rfl) w_573 ?_
  refine G.go tv_X11_clear 1 135 [(0, .ref (gAd E (0))), (3, .int (x3)), (4, .int (x4)), (5, .int (x5)), (6, .int (x6))] [.ref (gAd E (0)), .ref (gAd E (40))] rfl ?_
  refine G.getf cls_X11 (0) 16 (by omega) (h.q0) (by decide) rfl (tbd tv_X11_clear rfl) w_579 ?_
  refine G.go tv_X11_clear 1 139 [(0, .ref (gAd E (0))), (3, .int (x3)), (4, .int (x4)), (5, .int (x5)), (6, .int (x6))] [.int (x3), .ref (gAd E (54)), .ref (gAd E (40))] rfl ?_
  obtain ⟨v16, b16, e16, hr⟩ := ld_s hr
  refine G.ialdE (54) (by omega) ((h.q54).trans (congrArg (oI (gDA E) (65)) (hD.2 54 (by decide)))) b16 e16 (tbd tv_X11_clear rfl) ?_
  refine G.go tv_X11_clear 1 141 [(0, .ref (gAd E (0))), (3, .int (x3)), (4, .int (x4)), (5, .int (x5)), (6, .int (x6))] [.ref (gAd E (0)), .int (v16), .ref (gAd E (40))] rfl ?_
  refine G.getf cls_X11 (0) 17 (by omega) (h.q0) (by decide) rfl (tbd tv_X11_clear rfl) w_580 ?_
  refine G.go tv_X11_clear 1 145 [(0, .ref (gAd E (0))), (3, .int (x3)), (4, .int (x4)), (5, .int (x5)), (6, .int (x6))] [.int (x3), .ref (gAd E (55)), .int (v16), .ref (gAd E (40))] rfl ?_
  obtain ⟨v17, b17, e17, hr⟩ := ld_s hr
  refine G.ialdE (55) (by omega) ((h.q55).trans (congrArg (oI (gDA E) (65)) (hD.2 55 (by decide)))) b17 e17 (tbd tv_X11_clear rfl) ?_
  obtain ⟨v18, hv18, hr⟩ := bnd_s hr
  refine G.callV (40) [.int (v16), .int (v17)] [] (k_X4_inodeAt E _ N B gr C D A hz h hD hA v16 v17 v18 hv18) cls_X4 (by omega) (h.q40) cw_X11_316 w_1380 w_1381 (Nat.le_of_ble_eq_true rfl) rfl (Nat.le_of_ble_eq_true rfl) (tbd tv_X11_clear rfl) (fun v18w f18 q18 => ?_) (fun _ _ h => h.elim)
  obtain ⟨rfl, ha18, fa18⟩ := q18
  refine G.eqs [.int (v18)] rfl ?_
  refine G.go tv_X11_clear 2 153 [(0, .ref (gAd E (0))), (3, .int (x3)), (4, .int (x4)), (5, .int (x5)), (6, .int (x6)), (7, .int (v18))] [.int (v18)] rfl ?_
  refine G.if_eq 201 (tbd tv_X11_clear rfl) (by decide) (fun c153 => ?_) (fun c153 => ?_)
  · replace hr := ite_t c153 hr
    refine G.less [(0, .ref (gAd E (0))), (3, .int (x3)), (4, .int (x4)), (6, .int (x6)), (7, .int (v18))] [0, 1, 2, 4, 5] rfl ?_
    exact l_X11_clear_201 E f0 sz QA N B gr C0 hz _ hs90 _ _ _ _ _ _ _ hr _ _ ha18 hD hA (hf.tr fa18 (fun _ h => h))
  · replace hr := ite_f c153 hr
    refine G.go tv_X11_clear 1 158 [(0, .ref (gAd E (0))), (3, .int (x3)), (4, .int (x4)), (5, .int (x5)), (6, .int (x6)), (7, .int (v18))] [.int (x5)] rfl ?_
    refine G.if_ne 201 (tbd tv_X11_clear rfl) (by decide) (fun c158 => ?_) (fun c158 => ?_)
    · replace hr := ite_f c158 hr
      refine G.less [(0, .ref (gAd E (0))), (3, .int (x3)), (4, .int (x4)), (6, .int (x6)), (7, .int (v18))] [0, 1, 2, 4, 5] rfl ?_
      exact l_X11_clear_201 E f0 sz QA N B gr C0 hz _ hs90 _ _ _ _ _ _ _ hr _ _ ha18 hD hA (hf.tr fa18 (fun _ h => h))
    · replace hr := ite_t c158 hr
      refine G.go tv_X11_clear 1 162 [(0, .ref (gAd E (0))), (3, .int (x3)), (4, .int (x4)), (5, .int (x5)), (6, .int (x6)), (7, .int (v18))] [.ref (gAd E (0))] rfl ?_
      refine G.getf cls_X11 (0) 8 (by omega) (ha18.q0) (by decide) rfl (tbd tv_X11_clear rfl) w_571 ?_
      refine G.go tv_X11_clear 1 167 [(0, .ref (gAd E (0))), (3, .int (x3)), (4, .int (x4)), (5, .int (x5)), (6, .int (x6)), (7, .int (v18))] [.int (v18), .ref (gAd E (37))] rfl ?_
      obtain ⟨v19, hv19, hr⟩ := bnd_s hr
      refine G.callV (37) [.int (v18)] [] (k_X7_kind E _ N B gr C D A hz ha18 hD hA v18 v19 hv19) cls_X7 (by omega) (ha18.q37) cw_X11_250 w_903 w_904 (Nat.le_of_ble_eq_true rfl) rfl (Nat.le_of_ble_eq_true rfl) (tbd tv_X11_clear rfl) (fun v19w f19 q19 => ?_) (fun _ _ h => h.elim)
      obtain ⟨rfl, ha19, fa19⟩ := q19
      refine G.eqs [.int (v19)] rfl ?_
      refine G.go tv_X11_clear 1 171 [(0, .ref (gAd E (0))), (3, .int (x3)), (4, .int (x4)), (5, .int (x5)), (6, .int (x6)), (7, .int (v18))] [.int ((2 : Int32)), .int (v19)] rfl ?_
      refine G.cmp_ne 201 (tbd tv_X11_clear rfl) (by decide) (fun c171 => ?_) (fun c171 => ?_)
      · replace hr := ite_f c171 hr
        refine G.less [(0, .ref (gAd E (0))), (3, .int (x3)), (4, .int (x4)), (6, .int (x6)), (7, .int (v18))] [0, 1, 2, 4, 5] rfl ?_
        exact l_X11_clear_201 E f0 sz QA N B gr C0 hz _ hs90 _ _ _ _ _ _ _ hr _ _ ha19 hD hA ((hf.tr fa18 (fun _ h => h)).tr fa19 (fun _ h => h))
      · replace hr := ite_t c171 hr
        refine G.go tv_X11_clear 2 177 [(0, .ref (gAd E (0))), (3, .int (x3)), (4, .int (x4)), (5, .int (x5)), (6, .int (x6)), (7, .int (v18))] [.int ((64 : Int32)), .int (x3)] rfl ?_
        refine G.cmp_ge 201 (tbd tv_X11_clear rfl) (by decide) (fun c177 => ?_) (fun c177 => ?_)
        · replace hr := ite_t c177 hr
          refine G.less [(0, .ref (gAd E (0))), (3, .int (x3)), (4, .int (x4)), (6, .int (x6)), (7, .int (v18))] [0, 1, 2, 4, 5] rfl ?_
          exact l_X11_clear_201 E f0 sz QA N B gr C0 hz _ hs90 _ _ _ _ _ _ _ hr _ _ ha19 hD hA ((hf.tr fa18 (fun _ h => h)).tr fa19 (fun _ h => h))
        · replace hr := ite_f c177 hr
          refine G.go tv_X11_clear 2 184 [(0, .ref (gAd E (0))), (3, .int (x3 + (1 : Int32))), (4, .int (x4)), (5, .int (x5)), (6, .int (x6)), (7, .int (v18))] [.ref (gAd E (0))] rfl ?_
          refine G.getf cls_X11 (0) 16 (by omega) (ha19.q0) (by decide) rfl (tbd tv_X11_clear rfl) w_579 ?_
          refine G.go tv_X11_clear 2 190 [(0, .ref (gAd E (0))), (3, .int (x3 + (1 : Int32))), (4, .int (x4)), (5, .int (x5)), (6, .int (x6)), (7, .int (v18))] [.int (v18), .int (x3 + (1 : Int32)), .ref (gAd E (54))] rfl ?_
          obtain ⟨D20, b20, eD20, hr⟩ := stA_s hr
          refine G.iast (54) (by omega) (ha19.q54) b20 (tbd tv_X11_clear rfl) ?_
          refine G.gen (P := SN E N B gr f0 A D20) ⟨sA C 54 (upd (cA C 54) (x3 + (1 : Int32)).toNatClampNeg v18), ha19.p54 _, (by rw [eD20]; exact hD.au (by decide)), hA.sm (Sd.a (by decide) : Sd C (sA C 54 (upd (cA C 54) (x3 + (1 : Int32)).toNatClampNeg v18))), Fr.c ((hf.tr fa18 (fun _ h => h)).tr fa19 (fun _ h => h)) (by first | exact Or.inl (by decide) | exact Or.inr (by omega))⟩ (fun u20 p20 => ?_)
          obtain ⟨C20, h20, hD20, hA20, k20⟩ := p20
          refine G.go tv_X11_clear 1 192 [(0, .ref (gAd E (0))), (3, .int (x3 + (1 : Int32))), (4, .int (x4)), (5, .int (x5)), (6, .int (x6)), (7, .int (v18))] [.ref (gAd E (0))] rfl ?_
          refine G.getf cls_X11 (0) 17 (by omega) (h20.q0) (by decide) rfl (tbd tv_X11_clear rfl) w_580 ?_
          refine G.go tv_X11_clear 2 197 [(0, .ref (gAd E (0))), (3, .int (x3 + (1 : Int32))), (4, .int (x4)), (5, .int (x5)), (6, .int (x6)), (7, .int (v18))] [.int ((0 : Int32)), .int (x3 + (1 : Int32)), .ref (gAd E (55))] rfl ?_
          obtain ⟨D21, b21, eD21, hr⟩ := stA_s hr
          refine G.iast (55) (by omega) (h20.q55) b21 (tbd tv_X11_clear rfl) ?_
          refine G.gen (P := SN E N B gr f0 A D21) ⟨sA C20 55 (upd (cA C20 55) (x3 + (1 : Int32)).toNatClampNeg ((0 : Int32))), h20.p55 _, (by rw [eD21]; exact hD20.au (by decide)), hA20.sm (Sd.a (by decide) : Sd C20 (sA C20 55 (upd (cA C20 55) (x3 + (1 : Int32)).toNatClampNeg ((0 : Int32))))), Fr.c k20 (by first | exact Or.inl (by decide) | exact Or.inr (by omega))⟩ (fun u21 p21 => ?_)
          obtain ⟨C21, h21, hD21, hA21, k21⟩ := p21
          refine G.go tv_X11_clear 3 90 [(0, .ref (gAd E (0))), (3, .int (x3 + (1 : Int32))), (4, .int (x4)), (5, .int (x5)), (6, .int (x6 + (1 : Int32))), (7, .int (v18))] [] rfl ?_
          refine G.less [(0, .ref (gAd E (0))), (3, .int (x3 + (1 : Int32))), (4, .int (x4)), (5, .int (x5)), (6, .int (x6 + (1 : Int32)))] [0, 1, 2, 3, 4] rfl ?_
          exact hs90 _ _ _ _ _ _ _ hr _ _ h21 hD21 hA21 k21
set_option maxRecDepth 100000 in
set_option maxHeartbeats 4000000 in
theorem l_X11_clear_90 (E : gE) (f0 : Nat → va_E) (sz : Nat) (QA : Nat → Prop) (N B gr : Nat) (C0 : CfT) (hz : CfZ E N B gr) : ∀ (n : Nat), ∀ (A : MS) (D : CfT) (x3 : Int32) (x4 : Int32) (x5 : Int32) (x6 : Int32) (r : FR Int32) (hr : d_X11_clear_90 N B gr n A D x3 x4 x5 x6 = some r) (f : Nat → va_E) (C : CfT) (h : CfV E f N B gr C) (hD : Dq D C) (hA : AR N B gr A C) (hf : Fr CfK f0 f), G E (12, yX11_clear, 8, (some .int), sz, QA) cX11_clear (gO E (12, yX11_clear, 8, (some .int), sz, QA) (FQ E N B gr f0 (fun r => some (.int r)) r)) 90 [(0, .ref (gAd E (0))), (3, .int (x3)), (4, .int (x4)), (5, .int (x5)), (6, .int (x6))] [] f := by
  obtain ⟨z1, z2, z3, z4, z5, z6, z7⟩ := id hz
  intro n
  induction n with
  | zero =>
    intro A D x3 x4 x5 x6 r hr f C h hD hA hf
    cases hr
  | succ n ih =>
    intro A D x3 x4 x5 x6 r hr f C h hD hA hf
    unfold d_X11_clear_90 at hr
    refine G.go tv_X11_clear 1 92 [(0, .ref (gAd E (0))), (3, .int (x3)), (4, .int (x4)), (5, .int (x5)), (6, .int (x6))] [.int (x6)] rfl ?_
    refine G.ldcw (1000000) (tbd tv_X11_clear rfl) w_1535 ?_
    refine G.cmp_ge 263 (tbd tv_X11_clear rfl) (by decide) (fun c95 => ?_) (fun c95 => ?_)
    · replace hr := ite_t c95 hr
      refine G.less [(0, .ref (gAd E (0))), (4, .int (x4))] [0, 2] rfl ?_
      exact l_X11_clear_263 E f0 sz QA N B gr C0 hz _ _ _ _ hr _ _ h hD hA hf
    · replace hr := ite_f c95 hr
      refine G.go tv_X11_clear 1 99 [(0, .ref (gAd E (0))), (3, .int (x3)), (4, .int (x4)), (5, .int (x5)), (6, .int (x6))] [.int (x3)] rfl ?_
      refine G.if_le 130 (tbd tv_X11_clear rfl) (by decide) (fun c99 => ?_) (fun c99 => ?_)
      · replace hr := ite_t c99 hr
        refine G.less [(0, .ref (gAd E (0))), (3, .int (x3)), (4, .int (x4)), (5, .int (x5)), (6, .int (x6))] [0, 1, 2, 3, 4] rfl ?_
        exact l_X11_clear_130 E f0 sz QA N B gr C0 hz _ ih _ _ _ _ _ _ _ hr _ _ h hD hA hf
      · replace hr := ite_f c99 hr
        refine G.go tv_X11_clear 1 103 [(0, .ref (gAd E (0))), (3, .int (x3)), (4, .int (x4)), (5, .int (x5)), (6, .int (x6))] [.ref (gAd E (0))] rfl ?_
        refine G.getf cls_X11 (0) 17 (by omega) (h.q0) (by decide) rfl (tbd tv_X11_clear rfl) w_580 ?_
        refine G.go tv_X11_clear 1 107 [(0, .ref (gAd E (0))), (3, .int (x3)), (4, .int (x4)), (5, .int (x5)), (6, .int (x6))] [.int (x3), .ref (gAd E (55))] rfl ?_
        obtain ⟨v9, b9, e9, hr⟩ := ld_s hr
        refine G.ialdE (55) (by omega) ((h.q55).trans (congrArg (oI (gDA E) (65)) (hD.2 55 (by decide)))) b9 e9 (tbd tv_X11_clear rfl) ?_
        refine G.go tv_X11_clear 1 109 [(0, .ref (gAd E (0))), (3, .int (x3)), (4, .int (x4)), (5, .int (x5)), (6, .int (x6))] [.ref (gAd E (0)), .int (v9)] rfl ?_
        refine G.getf cls_X11 (0) 10 (by omega) (h.q0) (by decide) rfl (tbd tv_X11_clear rfl) w_573 ?_
        refine G.go tv_X11_clear 1 113 [(0, .ref (gAd E (0))), (3, .int (x3)), (4, .int (x4)), (5, .int (x5)), (6, .int (x6))] [.ref (gAd E (0)), .ref (gAd E (40)), .int (v9)] rfl ?_
        refine G.getf cls_X11 (0) 16 (by omega) (h.q0) (by decide) rfl (tbd tv_X11_clear rfl) w_579 ?_
        refine G.go tv_X11_clear 1 117 [(0, .ref (gAd E (0))), (3, .int (x3)), (4, .int (x4)), (5, .int (x5)), (6, .int (x6))] [.int (x3), .ref (gAd E (54)), .ref (gAd E (40)), .int (v9)] rfl ?_
        obtain ⟨v10, b10, e10, hr⟩ := ld_s hr
        refine G.ialdE (54) (by omega) ((h.q54).trans (congrArg (oI (gDA E) (65)) (hD.2 54 (by decide)))) b10 e10 (tbd tv_X11_clear rfl) ?_
        obtain ⟨v11, hv11, hr⟩ := bnd_s hr
        refine G.callV (40) [.int (v10)] [.int (v9)] (k_X4_slots E _ N B gr C D A hz h hD hA v10 v11 hv11) cls_X4 (by omega) (h.q40) cw_X11_336 w_1365 w_1366 (Nat.le_of_ble_eq_true rfl) rfl (Nat.le_of_ble_eq_true rfl) (tbd tv_X11_clear rfl) (fun v11w f11 q11 => ?_) (fun _ _ h => h.elim)
        obtain ⟨rfl, ha11, fa11⟩ := q11
        refine G.eqs [.int (v11), .int (v9)] rfl ?_
        refine G.cmp_lt 130 (tbd tv_X11_clear rfl) (by decide) (fun c121 => ?_) (fun c121 => ?_)
        · replace hr := ite_t c121 hr
          refine G.less [(0, .ref (gAd E (0))), (3, .int (x3)), (4, .int (x4)), (5, .int (x5)), (6, .int (x6))] [0, 1, 2, 3, 4] rfl ?_
          exact l_X11_clear_130 E f0 sz QA N B gr C0 hz _ ih _ _ _ _ _ _ _ hr _ _ ha11 hD hA (hf.tr fa11 (fun _ h => h))
        · replace hr := ite_f c121 hr
          refine G.go tv_X11_clear 3 130 [(0, .ref (gAd E (0))), (3, .int (x3 + (-1 : Int32))), (4, .int (x4)), (5, .int ((1 : Int32))), (6, .int (x6))] [] rfl ?_
          refine G.less [(0, .ref (gAd E (0))), (3, .int (x3 + (-1 : Int32))), (4, .int (x4)), (5, .int ((1 : Int32))), (6, .int (x6))] [0, 1, 2, 3, 4] rfl ?_
          exact l_X11_clear_130 E f0 sz QA N B gr C0 hz _ ih _ _ _ _ _ _ _ hr _ _ ha11 hD hA (hf.tr fa11 (fun _ h => h))
set_option maxRecDepth 100000 in
set_option maxHeartbeats 4000000 in
theorem k_X11_clear (E : gE) (f : Nat → va_E) (N B gr : Nat) (C D : CfT) (A : MS) (hz : CfZ E N B gr) (h : CfV E f N B gr C) (hD : Dq D C) (hA : AR N B gr A C) (r : FR Int32) (hr : d_X11_clear N B gr A D = some r) : Ct E 12 yX11_clear cX11_clear 8 (some .int) [.ref (gAd E (0))] f (FQ E N B gr f (fun r => some (.int r)) r) := by
  obtain ⟨z1, z2, z3, z4, z5, z6, z7⟩ := id hz
  refine Ct.of (by decide) (Nat.le_of_ble_eq_true rfl) (fun sz => ?_)
  refine G.eql [(0, .ref (gAd E (0)))] rfl ?_
  unfold d_X11_clear at hr
  refine G.go tv_X11_clear 1 1 [(0, .ref (gAd E (0)))] [.ref (gAd E (0))] rfl ?_
  obtain ⟨v1, D1, hv1, hr⟩ := bnd2_s hr
  refine G.callV (0) [] [] (k_X11_useTape E _ N B gr C D A hz h hD hA v1 D1 hv1) cls_X11 (by omega) (h.q0) cw_X11_272 w_1343 w_29 (Nat.le_of_ble_eq_true rfl) rfl (Nat.le_of_ble_eq_true rfl) (tbd tv_X11_clear rfl) (fun v1w f1 q1 => ?_) (fun _ _ h => h.elim)
  obtain ⟨rfl, C1, ha1, hD1, hA1, hR1, fa1⟩ := q1
  refine G.eqs [.int (v1)] rfl ?_
  refine G.go tv_X11_clear 2 6 [(0, .ref (gAd E (0))), (1, .int (v1))] [.ref (gAd E (0))] rfl ?_
  rcases bndF_s hr with ⟨v2, A2, D2, hv2, hr⟩ | ⟨ex2, A2, D2, hv2, rfl⟩
  rotate_left
  · skip
    refine G.callV (0) [] [] (k_X11_needMounted E _ N B gr C1 D1 A hz ha1 hD1 hA1 _ hv2) cls_X11 (by omega) (ha1.q0) cw_X11_221 w_1320 w_27 (Nat.le_of_ble_eq_true rfl) rfl (Nat.le_of_ble_eq_true rfl) (tbd tv_X11_clear rfl) (fun v2w f2 q2 => ?_) (fun X g q => FQ.fr q (Fr.rf.tr fa1 (fun _ h => h)))
    exact q2.elim
  refine G.callV (0) [] [] (k_X11_needMounted E _ N B gr C1 D1 A hz ha1 hD1 hA1 _ hv2) cls_X11 (by omega) (ha1.q0) cw_X11_221 w_1320 w_27 (Nat.le_of_ble_eq_true rfl) rfl (Nat.le_of_ble_eq_true rfl) (tbd tv_X11_clear rfl) (fun v2w f2 q2 => ?_) (fun _ _ h => h.elim)
  obtain ⟨rfl, C2, ha2, hD2, hA2, fa2⟩ := q2
  refine G.eqs [] rfl ?_
  refine G.go tv_X11_clear 2 11 [(0, .ref (gAd E (0))), (1, .int (v1))] [.int (v1), .ref (gAd E (0))] rfl ?_
  obtain ⟨v3, D3, hv3, hr⟩ := bnd2_s hr
  refine G.callV (0) [.int (v1)] [] (k_X11_inodeBelowRoot E _ N B gr C2 D2 A2 hz ha2 hD2 hA2 v1 v3 D3 hv3) cls_X11 (by omega) (ha2.q0) cw_X11_296 w_1474 w_35 (Nat.le_of_ble_eq_true rfl) rfl (Nat.le_of_ble_eq_true rfl) (tbd tv_X11_clear rfl) (fun v3w f3 q3 => ?_) (fun _ _ h => h.elim)
  obtain ⟨rfl, C3, ha3, hD3, hA3, hR3, fa3⟩ := q3
  refine G.eqs [.int (v3)] rfl ?_
  refine G.go tv_X11_clear 2 16 [(0, .ref (gAd E (0))), (1, .int (v1)), (2, .int (v3))] [.int (v3)] rfl ?_
  refine G.if_ge 21 (tbd tv_X11_clear rfl) (by decide) (fun c16 => ?_) (fun c16 => ?_)
  · replace hr := ite_t c16 hr
    refine G.go tv_X11_clear 1 22 [(0, .ref (gAd E (0))), (1, .int (v1)), (2, .int (v3))] [.ref (gAd E (0))] rfl ?_
    refine G.getf cls_X11 (0) 16 (by omega) (ha3.q0) (by decide) rfl (tbd tv_X11_clear rfl) w_579 ?_
    refine G.go tv_X11_clear 2 27 [(0, .ref (gAd E (0))), (1, .int (v1)), (2, .int (v3))] [.ref (gAd E (0)), .int ((0 : Int32)), .ref (gAd E (54))] rfl ?_
    refine G.getf cls_X11 (0) 10 (by omega) (ha3.q0) (by decide) rfl (tbd tv_X11_clear rfl) w_573 ?_
    refine G.go tv_X11_clear 1 31 [(0, .ref (gAd E (0))), (1, .int (v1)), (2, .int (v3))] [.ref (gAd E (0)), .ref (gAd E (40)), .int ((0 : Int32)), .ref (gAd E (54))] rfl ?_
    refine G.getf cls_X11 (0) 13 (by omega) (ha3.q0) (by decide) rfl (tbd tv_X11_clear rfl) w_576 ?_
    refine G.go tv_X11_clear 1 35 [(0, .ref (gAd E (0))), (1, .int (v1)), (2, .int (v3))] [.ref (gAd E (0)), .ref (gAd E (47)), .ref (gAd E (40)), .int ((0 : Int32)), .ref (gAd E (54))] rfl ?_
    refine G.getf cls_X11 (0) 13 (by omega) (ha3.q0) (by decide) rfl (tbd tv_X11_clear rfl) w_576 ?_
    refine G.getf cls_X8 (47) 2 (by omega) (ha3.q47) (by decide) rfl (tbd tv_X11_clear rfl) w_198 ?_
    refine G.eq1 (b := cS D3 4702) (hD3.1 4702 (by decide)) ?_
    refine G.go tv_X11_clear 2 43 [(0, .ref (gAd E (0))), (1, .int (v1)), (2, .int (v3))] [.int ((cS D3 4702) - ((1 : Int32))), .ref (gAd E (47)), .ref (gAd E (40)), .int ((0 : Int32)), .ref (gAd E (54))] rfl ?_
    obtain ⟨v4, hv4, hr⟩ := bnd_s hr
    refine G.callV (40) [.ref (gAd E (47)), .int ((cS D3 4702) - ((1 : Int32)))] [.int ((0 : Int32)), .ref (gAd E (54))] (k_X4_walk_47 E _ N B gr C3 D3 A2 hz ha3 hD3 hA3 ((cS D3 4702) - ((1 : Int32))) v4 hv4) cls_X4 (by omega) (ha3.q40) cw_X11_278 w_1356 w_1357 (Nat.le_of_ble_eq_true rfl) rfl (Nat.le_of_ble_eq_true rfl) (tbd tv_X11_clear rfl) (fun v4w f4 q4 => ?_) (fun _ _ h => h.elim)
    obtain ⟨rfl, ha4, fa4⟩ := q4
    refine G.eqs [.int (v4), .int ((0 : Int32)), .ref (gAd E (54))] rfl ?_
    obtain ⟨D5, b5, eD5, hr⟩ := stA_s hr
    refine G.iast (54) (by omega) (ha4.q54) b5 (tbd tv_X11_clear rfl) ?_
    refine G.gen (P := SN E N B gr f A2 D5) ⟨sA C3 54 (upd (cA C3 54) ((0 : Int32)).toNatClampNeg v4), ha4.p54 _, (by rw [eD5]; exact hD3.au (by decide)), hA3.sm (Sd.a (by decide) : Sd C3 (sA C3 54 (upd (cA C3 54) ((0 : Int32)).toNatClampNeg v4))), Fr.c ((((Fr.rf.tr fa1 (fun _ h => h)).tr fa2 (fun _ h => h)).tr fa3 (fun _ h => h)).tr fa4 (fun _ h => h)) (by first | exact Or.inl (by decide) | exact Or.inr (by omega))⟩ (fun u5 p5 => ?_)
    obtain ⟨C5, h5, hD5, hA5, k5⟩ := p5
    refine G.go tv_X11_clear 1 48 [(0, .ref (gAd E (0))), (1, .int (v1)), (2, .int (v3))] [.ref (gAd E (0))] rfl ?_
    refine G.getf cls_X11 (0) 17 (by omega) (h5.q0) (by decide) rfl (tbd tv_X11_clear rfl) w_580 ?_
    refine G.go tv_X11_clear 2 53 [(0, .ref (gAd E (0))), (1, .int (v1)), (2, .int (v3))] [.ref (gAd E (0)), .int ((0 : Int32)), .ref (gAd E (55))] rfl ?_
    refine G.getf cls_X11 (0) 10 (by omega) (h5.q0) (by decide) rfl (tbd tv_X11_clear rfl) w_573 ?_
    refine G.go tv_X11_clear 1 57 [(0, .ref (gAd E (0))), (1, .int (v1)), (2, .int (v3))] [.ref (gAd E (0)), .ref (gAd E (40)), .int ((0 : Int32)), .ref (gAd E (55))] rfl ?_
    refine G.getf cls_X11 (0) 16 (by omega) (h5.q0) (by decide) rfl (tbd tv_X11_clear rfl) w_579 ?_
    refine G.go tv_X11_clear 1 61 [(0, .ref (gAd E (0))), (1, .int (v1)), (2, .int (v3))] [.int ((0 : Int32)), .ref (gAd E (54)), .ref (gAd E (40)), .int ((0 : Int32)), .ref (gAd E (55))] rfl ?_
    obtain ⟨v6, b6, e6, hr⟩ := ld_s hr
    refine G.ialdE (54) (by omega) ((h5.q54).trans (congrArg (oI (gDA E) (65)) (hD5.2 54 (by decide)))) b6 e6 (tbd tv_X11_clear rfl) ?_
    refine G.go tv_X11_clear 1 63 [(0, .ref (gAd E (0))), (1, .int (v1)), (2, .int (v3))] [.ref (gAd E (0)), .int (v6), .ref (gAd E (40)), .int ((0 : Int32)), .ref (gAd E (55))] rfl ?_
    refine G.getf cls_X11 (0) 13 (by omega) (h5.q0) (by decide) rfl (tbd tv_X11_clear rfl) w_576 ?_
    refine G.go tv_X11_clear 1 67 [(0, .ref (gAd E (0))), (1, .int (v1)), (2, .int (v3))] [.ref (gAd E (0)), .ref (gAd E (47)), .int (v6), .ref (gAd E (40)), .int ((0 : Int32)), .ref (gAd E (55))] rfl ?_
    refine G.getf cls_X11 (0) 13 (by omega) (h5.q0) (by decide) rfl (tbd tv_X11_clear rfl) w_576 ?_
    refine G.getf cls_X8 (47) 2 (by omega) (h5.q47) (by decide) rfl (tbd tv_X11_clear rfl) w_198 ?_
    refine G.eq1 (b := cS D5 4702) (hD5.1 4702 (by decide)) ?_
    refine G.go tv_X11_clear 2 75 [(0, .ref (gAd E (0))), (1, .int (v1)), (2, .int (v3))] [.int ((cS D5 4702) - ((1 : Int32))), .ref (gAd E (47)), .int (v6), .ref (gAd E (40)), .int ((0 : Int32)), .ref (gAd E (55))] rfl ?_
    obtain ⟨v7, hv7, hr⟩ := bnd_s hr
    refine G.callV (40) [.int (v6), .ref (gAd E (47)), .int ((cS D5 4702) - ((1 : Int32)))] [.int ((0 : Int32)), .ref (gAd E (55))] (k_X4_slotOf_47 E _ N B gr C5 D5 A2 hz h5 hD5 hA5 v6 ((cS D5 4702) - ((1 : Int32))) v7 hv7) cls_X4 (by omega) (h5.q40) cw_X11_282 w_1361 w_1362 (Nat.le_of_ble_eq_true rfl) rfl (Nat.le_of_ble_eq_true rfl) (tbd tv_X11_clear rfl) (fun v7w f7 q7 => ?_) (fun _ _ h => h.elim)
    obtain ⟨rfl, ha7, fa7⟩ := q7
    refine G.eqs [.int (v7), .int ((0 : Int32)), .ref (gAd E (55))] rfl ?_
    obtain ⟨D8, b8, eD8, hr⟩ := stA_s hr
    refine G.iast (55) (by omega) (ha7.q55) b8 (tbd tv_X11_clear rfl) ?_
    refine G.gen (P := SN E N B gr f A2 D8) ⟨sA C5 55 (upd (cA C5 55) ((0 : Int32)).toNatClampNeg v7), ha7.p55 _, (by rw [eD8]; exact hD5.au (by decide)), hA5.sm (Sd.a (by decide) : Sd C5 (sA C5 55 (upd (cA C5 55) ((0 : Int32)).toNatClampNeg v7))), Fr.c (k5.tr fa7 (fun _ h => h)) (by first | exact Or.inl (by decide) | exact Or.inr (by omega))⟩ (fun u8 p8 => ?_)
    obtain ⟨C8, h8, hD8, hA8, k8⟩ := p8
    refine G.go tv_X11_clear 8 90 [(0, .ref (gAd E (0))), (1, .int (v1)), (2, .int (v3)), (3, .int ((0 : Int32))), (4, .int ((0 : Int32))), (5, .int ((0 : Int32))), (6, .int ((0 : Int32)))] [] rfl ?_
    refine G.less [(0, .ref (gAd E (0))), (3, .int ((0 : Int32))), (4, .int ((0 : Int32))), (5, .int ((0 : Int32))), (6, .int ((0 : Int32)))] [0, 3, 4, 5, 6] rfl ?_
    exact l_X11_clear_90 E f sz _ N B gr C hz _ _ _ _ _ _ _ _ hr _ _ h8 hD8 hA8 k8
  · replace hr := ite_f c16 hr
    refine G.go tv_X11_clear 1 20 [(0, .ref (gAd E (0))), (1, .int (v1)), (2, .int (v3))] [.int (v3)] rfl ?_
    cases hr
    exact G.iret rfl rfl (FQ.ok rfl ⟨C3, ha3, hD3, hA3, (((Fr.rf.tr fa1 (fun _ h => h)).tr fa2 (fun _ h => h)).tr fa3 (fun _ h => h))⟩) (tbd tv_X11_clear rfl)
theorem w_1601 : Cond.methodLink "LedgerFiles" 352 yX7_faultOfFile ∈ TB := tp_7 15 (by decide +kernel) rfl
theorem w_1604 : Cond.code yX7_faultOfFile prog_9_method_15_code 3 (some .int) ∈ TB := tp_7 18 rfl rfl
theorem cw_X11_352 : Cw RX11 352 yX7_faultOfFile cX7_faultOfFile 3 (some .int) 1 := ⟨w_1601, w_1604, w_157, by decide +kernel, by decide +kernel, by decide⟩
theorem w_1602 : Cond.instanceMethod yX7_faultOfFile ∈ TB := tp_7 16 (by decide +kernel) rfl
theorem w_1603 : Cond.selects "LedgerFiles$Nodes" yX7_faultOfFile yX7_faultOfFile ∈ TB := tp_7 17 (by decide +kernel) rfl
theorem w_1605 : Cond.methodLink "LedgerFiles" 355 yX3_store ∈ TB := tp_7 19 (by decide +kernel) rfl
theorem w_1608 : Cond.code yX3_store prog_5_method_2_code 12 (some .int) ∈ TB := tp_7 22 rfl rfl
theorem cw_X11_355 : Cw RX11 355 yX3_store cX3_store 12 (some .int) 4 := ⟨w_1605, w_1608, w_159, by decide +kernel, by decide +kernel, by decide⟩
theorem w_1606 : Cond.instanceMethod yX3_store ∈ TB := tp_7 20 (by decide +kernel) rfl
theorem w_1607 : Cond.selects "LedgerFiles$Files" yX3_store yX3_store ∈ TB := tp_7 21 (by decide +kernel) rfl
noncomputable def d_X11_write (N B gr : Nat) (A : MS) (D : CfT) (a0 : Int32) (a1 : Int32) : Option (FR Int32) := bnd2 (d_X11_useTape N (vA A) D) (fun v28 D28 => bndF (d_X11_needMounted N B gr A D28) (fun v29 A29 D29 => bnd (d_X7_faultOfFile N (vA A29) D29 a0) (fun v30 => if 0 ≤ v30 then bndF (d_X3_store_1 N B gr A29 D29 a0 a1 v28) (fun v31 A31 D31 => some (.inl (v31, A31, D31))) else some (.inl (v30, A29, D29)))))
set_option maxRecDepth 100000 in
set_option maxHeartbeats 4000000 in
theorem k_X11_write (E : gE) (f : Nat → va_E) (N B gr : Nat) (C D : CfT) (A : MS) (hz : CfZ E N B gr) (h : CfV E f N B gr C) (hD : Dq D C) (hA : AR N B gr A C) (a0 : Int32) (a1 : Int32) (r : FR Int32) (hr : d_X11_write N B gr A D a0 a1 = some r) : Ct E 13 yX11_write cX11_write 5 (some .int) [.ref (gAd E (0)), .int (a0), .int (a1)] f (FQ E N B gr f (fun r => some (.int r)) r) := by
  obtain ⟨z1, z2, z3, z4, z5, z6, z7⟩ := id hz
  refine Ct.of (by decide) (Nat.le_of_ble_eq_true rfl) (fun sz => ?_)
  refine G.eql [(0, .ref (gAd E (0))), (1, .int (a0)), (2, .int (a1))] rfl ?_
  unfold d_X11_write at hr
  refine G.go tv_X11_write 1 1 [(0, .ref (gAd E (0))), (1, .int (a0)), (2, .int (a1))] [.ref (gAd E (0))] rfl ?_
  obtain ⟨v28, D28, hv28, hr⟩ := bnd2_s hr
  refine G.callV (0) [] [] (k_X11_useTape E _ N B gr C D A hz h hD hA v28 D28 hv28) cls_X11 (by omega) (h.q0) cw_X11_272 w_1343 w_29 (Nat.le_of_ble_eq_true rfl) rfl (Nat.le_of_ble_eq_true rfl) (tbd tv_X11_write rfl) (fun v28w f28 q28 => ?_) (fun _ _ h => h.elim)
  obtain ⟨rfl, C28, ha28, hD28, hA28, hR28, fa28⟩ := q28
  refine G.eqs [.int (v28)] rfl ?_
  refine G.go tv_X11_write 2 6 [(0, .ref (gAd E (0))), (1, .int (a0)), (2, .int (a1)), (3, .int (v28))] [.ref (gAd E (0))] rfl ?_
  rcases bndF_s hr with ⟨v29, A29, D29, hv29, hr⟩ | ⟨ex29, A29, D29, hv29, rfl⟩
  rotate_left
  · skip
    refine G.callV (0) [] [] (k_X11_needMounted E _ N B gr C28 D28 A hz ha28 hD28 hA28 _ hv29) cls_X11 (by omega) (ha28.q0) cw_X11_221 w_1320 w_27 (Nat.le_of_ble_eq_true rfl) rfl (Nat.le_of_ble_eq_true rfl) (tbd tv_X11_write rfl) (fun v29w f29 q29 => ?_) (fun X g q => FQ.fr q (Fr.rf.tr fa28 (fun _ h => h)))
    exact q29.elim
  refine G.callV (0) [] [] (k_X11_needMounted E _ N B gr C28 D28 A hz ha28 hD28 hA28 _ hv29) cls_X11 (by omega) (ha28.q0) cw_X11_221 w_1320 w_27 (Nat.le_of_ble_eq_true rfl) rfl (Nat.le_of_ble_eq_true rfl) (tbd tv_X11_write rfl) (fun v29w f29 q29 => ?_) (fun _ _ h => h.elim)
  obtain ⟨rfl, C29, ha29, hD29, hA29, fa29⟩ := q29
  refine G.eqs [] rfl ?_
  refine G.go tv_X11_write 1 10 [(0, .ref (gAd E (0))), (1, .int (a0)), (2, .int (a1)), (3, .int (v28))] [.ref (gAd E (0))] rfl ?_
  refine G.getf cls_X11 (0) 8 (by omega) (ha29.q0) (by decide) rfl (tbd tv_X11_write rfl) w_571 ?_
  refine G.go tv_X11_write 1 14 [(0, .ref (gAd E (0))), (1, .int (a0)), (2, .int (a1)), (3, .int (v28))] [.int (a0), .ref (gAd E (37))] rfl ?_
  obtain ⟨v30, hv30, hr⟩ := bnd_s hr
  refine G.callV (37) [.int (a0)] [] (k_X7_faultOfFile E _ N B gr C29 D29 A29 hz ha29 hD29 hA29 a0 v30 hv30) cls_X7 (by omega) (ha29.q37) cw_X11_352 w_1602 w_1603 (Nat.le_of_ble_eq_true rfl) rfl (Nat.le_of_ble_eq_true rfl) (tbd tv_X11_write rfl) (fun v30w f30 q30 => ?_) (fun _ _ h => h.elim)
  obtain ⟨rfl, ha30, fa30⟩ := q30
  refine G.eqs [.int (v30)] rfl ?_
  refine G.go tv_X11_write 2 21 [(0, .ref (gAd E (0))), (1, .int (a0)), (2, .int (a1)), (3, .int (v28)), (4, .int (v30))] [.int (v30)] rfl ?_
  refine G.if_ge 29 (tbd tv_X11_write rfl) (by decide) (fun c21 => ?_) (fun c21 => ?_)
  · replace hr := ite_t c21 hr
    refine G.go tv_X11_write 1 30 [(0, .ref (gAd E (0))), (1, .int (a0)), (2, .int (a1)), (3, .int (v28)), (4, .int (v30))] [.ref (gAd E (0))] rfl ?_
    refine G.getf cls_X11 (0) 11 (by omega) (ha30.q0) (by decide) rfl (tbd tv_X11_write rfl) w_574 ?_
    refine G.go tv_X11_write 3 36 [(0, .ref (gAd E (0))), (1, .int (a0)), (2, .int (a1)), (3, .int (v28)), (4, .int (v30))] [.ref (gAd E (0)), .int (a1), .int (a0), .ref (gAd E (41))] rfl ?_
    refine G.getf cls_X11 (0) 0 (by omega) (ha30.q0) (by decide) rfl (tbd tv_X11_write rfl) w_563 ?_
    refine G.go tv_X11_write 1 40 [(0, .ref (gAd E (0))), (1, .int (a0)), (2, .int (a1)), (3, .int (v28)), (4, .int (v30))] [.int (v28), .ref (gAd E (1)), .int (a1), .int (a0), .ref (gAd E (41))] rfl ?_
    rcases bndF_s hr with ⟨v31, A31, D31, hv31, hr⟩ | ⟨ex31, A31, D31, hv31, rfl⟩
    rotate_left
    · skip
      refine G.callV (41) [.int (a0), .int (a1), .ref (gAd E (1)), .int (v28)] [] (k_X3_store_1 E _ N B gr C29 D29 A29 hz ha30 hD29 hA29 a0 a1 v28 _ hv31) cls_X3 (by omega) (ha30.q41) cw_X11_355 w_1606 w_1607 (Nat.le_of_ble_eq_true rfl) rfl (Nat.le_of_ble_eq_true rfl) (tbd tv_X11_write rfl) (fun v31w f31 q31 => ?_) (fun X g q => FQ.fr q (((Fr.rf.tr fa28 (fun _ h => h)).tr fa29 (fun _ h => h)).tr fa30 (fun _ h => h)))
      exact q31.elim
    refine G.callV (41) [.int (a0), .int (a1), .ref (gAd E (1)), .int (v28)] [] (k_X3_store_1 E _ N B gr C29 D29 A29 hz ha30 hD29 hA29 a0 a1 v28 _ hv31) cls_X3 (by omega) (ha30.q41) cw_X11_355 w_1606 w_1607 (Nat.le_of_ble_eq_true rfl) rfl (Nat.le_of_ble_eq_true rfl) (tbd tv_X11_write rfl) (fun v31w f31 q31 => ?_) (fun _ _ h => h.elim)
    obtain ⟨rfl, C31, ha31, hD31, hA31, fa31⟩ := q31
    refine G.eqs [.int (v31)] rfl ?_
    cases hr
    exact G.iret rfl rfl (FQ.ok rfl ⟨C31, ha31, hD31, hA31, ((((Fr.rf.tr fa28 (fun _ h => h)).tr fa29 (fun _ h => h)).tr fa30 (fun _ h => h)).tr fa31 (fun _ h => h))⟩) (tbd tv_X11_write rfl)
  · replace hr := ite_f c21 hr
    refine G.go tv_X11_write 2 43 [(0, .ref (gAd E (0))), (1, .int (a0)), (2, .int (a1)), (3, .int (v28)), (4, .int (v30))] [.int (v30)] rfl ?_
    cases hr
    exact G.iret rfl rfl (FQ.ok rfl ⟨C29, ha30, hD29, hA29, (((Fr.rf.tr fa28 (fun _ h => h)).tr fa29 (fun _ h => h)).tr fa30 (fun _ h => h))⟩) (tbd tv_X11_write rfl)
noncomputable def d_X11_fill_47 (N B gr : Nat) : Nat → MS → CfT → Int32 → Int32 → Int32 → Int32 → Int32 → Option (FR Int32)
  | 0, _, _, _, _, _, _, _ => none
  | n + 1, A, D, x1, x2, x3, x4, x6 => if x3 ≤ x6 then bndF (d_X3_store_53 N B gr A D x1 x2 x3) (fun v34 A34 D34 => some (.inl (v34, A34, D34))) else stA D 53 2000 x6 (vp_nar .byte ((((x4) + ((x6) * (x6))) + ((x6) >>> (((5 : Int32)) &&& 31)) : Int32).toInt8.toInt32)) (fun D35 => d_X11_fill_47 N B gr n A D35 x1 x2 x3 x4 (x6 + (1 : Int32)))
noncomputable def d_X11_fill (N B gr : Nat) (A : MS) (D : CfT) (a0 : Int32) (a1 : Int32) (a2 : Int32) (a3 : Int32) : Option (FR Int32) := bndF (d_X11_needMounted N B gr A D) (fun v32 A32 D32 => if a2 < 0 then some (.inr (2, A32, D32)) else if a2 ≤ ((2000 : Int32)) then bnd (d_X7_faultOfFile N (vA A32) D32 a0) (fun v33 => if 0 ≤ v33 then d_X11_fill_47 N B gr fuL A32 D32 a0 a1 a2 a3 ((0 : Int32)) else some (.inl (v33, A32, D32))) else some (.inr (2, A32, D32)))
set_option maxRecDepth 100000 in
set_option maxHeartbeats 4000000 in
theorem l_X11_fill_47 (E : gE) (f0 : Nat → va_E) (sz : Nat) (QA : Nat → Prop) (N B gr : Nat) (C0 : CfT) (hz : CfZ E N B gr) : ∀ (n : Nat), ∀ (A : MS) (D : CfT) (x1 : Int32) (x2 : Int32) (x3 : Int32) (x4 : Int32) (x6 : Int32) (r : FR Int32) (hr : d_X11_fill_47 N B gr n A D x1 x2 x3 x4 x6 = some r) (f : Nat → va_E) (C : CfT) (h : CfV E f N B gr C) (hD : Dq D C) (hA : AR N B gr A C) (hf : Fr CfK f0 f), G E (13, yX11_fill, 7, (some .int), sz, QA) cX11_fill (gO E (13, yX11_fill, 7, (some .int), sz, QA) (FQ E N B gr f0 (fun r => some (.int r)) r)) 47 [(0, .ref (gAd E (0))), (1, .int (x1)), (2, .int (x2)), (3, .int (x3)), (4, .int (x4)), (6, .int (x6))] [] f := by
  obtain ⟨z1, z2, z3, z4, z5, z6, z7⟩ := id hz
  intro n
  induction n with
  | zero =>
    intro A D x1 x2 x3 x4 x6 r hr f C h hD hA hf
    cases hr
  | succ n ih =>
    intro A D x1 x2 x3 x4 x6 r hr f C h hD hA hf
    unfold d_X11_fill_47 at hr
    refine G.go tv_X11_fill 2 50 [(0, .ref (gAd E (0))), (1, .int (x1)), (2, .int (x2)), (3, .int (x3)), (4, .int (x4)), (6, .int (x6))] [.int (x3), .int (x6)] rfl ?_
    refine G.cmp_ge 80 (tbd tv_X11_fill rfl) (by decide) (fun c50 => ?_) (fun c50 => ?_)
    · replace hr := ite_t c50 hr
      refine G.go tv_X11_fill 1 81 [(0, .ref (gAd E (0))), (1, .int (x1)), (2, .int (x2)), (3, .int (x3)), (4, .int (x4)), (6, .int (x6))] [.ref (gAd E (0))] rfl ?_
      refine G.getf cls_X11 (0) 11 (by omega) (h.q0) (by decide) rfl (tbd tv_X11_fill rfl) w_574 ?_
      refine G.go tv_X11_fill 3 87 [(0, .ref (gAd E (0))), (1, .int (x1)), (2, .int (x2)), (3, .int (x3)), (4, .int (x4)), (6, .int (x6))] [.ref (gAd E (0)), .int (x2), .int (x1), .ref (gAd E (41))] rfl ?_
      refine G.getf cls_X11 (0) 15 (by omega) (h.q0) (by decide) rfl (tbd tv_X11_fill rfl) w_578 ?_
      refine G.go tv_X11_fill 1 91 [(0, .ref (gAd E (0))), (1, .int (x1)), (2, .int (x2)), (3, .int (x3)), (4, .int (x4)), (6, .int (x6))] [.int (x3), .ref (gAd E (53)), .int (x2), .int (x1), .ref (gAd E (41))] rfl ?_
      rcases bndF_s hr with ⟨v34, A34, D34, hv34, hr⟩ | ⟨ex34, A34, D34, hv34, rfl⟩
      rotate_left
      · skip
        refine G.callV (41) [.int (x1), .int (x2), .ref (gAd E (53)), .int (x3)] [] (k_X3_store_53 E _ N B gr C D A hz h hD hA x1 x2 x3 _ hv34) cls_X3 (by omega) (h.q41) cw_X11_355 w_1606 w_1607 (Nat.le_of_ble_eq_true rfl) rfl (Nat.le_of_ble_eq_true rfl) (tbd tv_X11_fill rfl) (fun v34w f34 q34 => ?_) (fun X g q => FQ.fr q hf)
        exact q34.elim
      refine G.callV (41) [.int (x1), .int (x2), .ref (gAd E (53)), .int (x3)] [] (k_X3_store_53 E _ N B gr C D A hz h hD hA x1 x2 x3 _ hv34) cls_X3 (by omega) (h.q41) cw_X11_355 w_1606 w_1607 (Nat.le_of_ble_eq_true rfl) rfl (Nat.le_of_ble_eq_true rfl) (tbd tv_X11_fill rfl) (fun v34w f34 q34 => ?_) (fun _ _ h => h.elim)
      obtain ⟨rfl, C34, ha34, hD34, hA34, fa34⟩ := q34
      refine G.eqs [.int (v34)] rfl ?_
      cases hr
      exact G.iret rfl rfl (FQ.ok rfl ⟨C34, ha34, hD34, hA34, (hf.tr fa34 (fun _ h => h))⟩) (tbd tv_X11_fill rfl)
    · replace hr := ite_f c50 hr
      refine G.go tv_X11_fill 1 54 [(0, .ref (gAd E (0))), (1, .int (x1)), (2, .int (x2)), (3, .int (x3)), (4, .int (x4)), (6, .int (x6))] [.ref (gAd E (0))] rfl ?_
      refine G.getf cls_X11 (0) 15 (by omega) (h.q0) (by decide) rfl (tbd tv_X11_fill rfl) w_578 ?_
      refine G.go tv_X11_fill 11 73 [(0, .ref (gAd E (0))), (1, .int (x1)), (2, .int (x2)), (3, .int (x3)), (4, .int (x4)), (6, .int (x6))] [.int ((((x4) + ((x6) * (x6))) + ((x6) >>> (((5 : Int32)) &&& 31)) : Int32).toInt8.toInt32), .int (x6), .ref (gAd E (53))] rfl ?_
      obtain ⟨D35, b35, eD35, hr⟩ := stA_s hr
      refine G.bast (53) (by omega) (h.q53) b35 (tbd tv_X11_fill rfl) ?_
      refine G.gen (P := SN E N B gr f0 A D35) ⟨sA C 53 (upd (cA C 53) x6.toNatClampNeg (vp_nar .byte ((((x4) + ((x6) * (x6))) + ((x6) >>> (((5 : Int32)) &&& 31)) : Int32).toInt8.toInt32))), h.p53 _, (by rw [eD35]; exact hD.au (by decide)), hA.sm (Sd.a (by decide) : Sd C (sA C 53 (upd (cA C 53) x6.toNatClampNeg (vp_nar .byte ((((x4) + ((x6) * (x6))) + ((x6) >>> (((5 : Int32)) &&& 31)) : Int32).toInt8.toInt32))))), Fr.c hf (by first | exact Or.inl (by decide) | exact Or.inr (by omega))⟩ (fun u35 p35 => ?_)
      obtain ⟨C35, h35, hD35, hA35, k35⟩ := p35
      refine G.go tv_X11_fill 2 47 [(0, .ref (gAd E (0))), (1, .int (x1)), (2, .int (x2)), (3, .int (x3)), (4, .int (x4)), (6, .int (x6 + (1 : Int32)))] [] rfl ?_
      refine G.less [(0, .ref (gAd E (0))), (1, .int (x1)), (2, .int (x2)), (3, .int (x3)), (4, .int (x4)), (6, .int (x6 + (1 : Int32)))] [0, 1, 2, 3, 4, 5] rfl ?_
      exact ih _ _ _ _ _ _ _ _ hr _ _ h35 hD35 hA35 k35
set_option maxRecDepth 100000 in
set_option maxHeartbeats 4000000 in
theorem k_X11_fill (E : gE) (f : Nat → va_E) (N B gr : Nat) (C D : CfT) (A : MS) (hz : CfZ E N B gr) (h : CfV E f N B gr C) (hD : Dq D C) (hA : AR N B gr A C) (a0 : Int32) (a1 : Int32) (a2 : Int32) (a3 : Int32) (r : FR Int32) (hr : d_X11_fill N B gr A D a0 a1 a2 a3 = some r) : Ct E 13 yX11_fill cX11_fill 7 (some .int) [.ref (gAd E (0)), .int (a0), .int (a1), .int (a2), .int (a3)] f (FQ E N B gr f (fun r => some (.int r)) r) := by
  obtain ⟨z1, z2, z3, z4, z5, z6, z7⟩ := id hz
  refine Ct.of (by decide) (Nat.le_of_ble_eq_true rfl) (fun sz => ?_)
  refine G.eql [(0, .ref (gAd E (0))), (1, .int (a0)), (2, .int (a1)), (3, .int (a2)), (4, .int (a3))] rfl ?_
  unfold d_X11_fill at hr
  refine G.go tv_X11_fill 1 1 [(0, .ref (gAd E (0))), (1, .int (a0)), (2, .int (a1)), (3, .int (a2)), (4, .int (a3))] [.ref (gAd E (0))] rfl ?_
  rcases bndF_s hr with ⟨v32, A32, D32, hv32, hr⟩ | ⟨ex32, A32, D32, hv32, rfl⟩
  rotate_left
  · skip
    refine G.callV (0) [] [] (k_X11_needMounted E _ N B gr C D A hz h hD hA _ hv32) cls_X11 (by omega) (h.q0) cw_X11_221 w_1320 w_27 (Nat.le_of_ble_eq_true rfl) rfl (Nat.le_of_ble_eq_true rfl) (tbd tv_X11_fill rfl) (fun v32w f32 q32 => ?_) (fun X g q => FQ.fr q Fr.rf)
    exact q32.elim
  refine G.callV (0) [] [] (k_X11_needMounted E _ N B gr C D A hz h hD hA _ hv32) cls_X11 (by omega) (h.q0) cw_X11_221 w_1320 w_27 (Nat.le_of_ble_eq_true rfl) rfl (Nat.le_of_ble_eq_true rfl) (tbd tv_X11_fill rfl) (fun v32w f32 q32 => ?_) (fun _ _ h => h.elim)
  obtain ⟨rfl, C32, ha32, hD32, hA32, fa32⟩ := q32
  refine G.eqs [] rfl ?_
  refine G.go tv_X11_fill 1 5 [(0, .ref (gAd E (0))), (1, .int (a0)), (2, .int (a1)), (3, .int (a2)), (4, .int (a3))] [.int (a2)] rfl ?_
  refine G.if_lt 15 (tbd tv_X11_fill rfl) (by decide) (fun c5 => ?_) (fun c5 => ?_)
  · replace hr := ite_t c5 hr
    cases hr
    exact G.thrW (cls := "java/lang/IllegalArgumentException") (text := "n is not 0 .. 2000") (names := ["java/lang/RuntimeException", "java/lang/Exception"]) (by decide +kernel) (by decide +kernel) w_828 w_168 (own := "LedgerFiles") rfl (by decide +kernel) (by decide +kernel) at_X11_205 (tbd tv_X11_fill rfl) (tbd tv_X11_fill rfl) (tbd tv_X11_fill rfl) (tbd tv_X11_fill rfl) (tbd tv_X11_fill rfl) (Nat.le_of_ble_eq_true rfl) (Nat.le_of_ble_eq_true rfl) (FQ.th (e := 1) rfl ⟨C32, ha32, hD32, hA32, (Fr.rf.tr fa32 (fun _ h => h))⟩)
  · replace hr := ite_f c5 hr
    refine G.go tv_X11_fill 2 12 [(0, .ref (gAd E (0))), (1, .int (a0)), (2, .int (a1)), (3, .int (a2)), (4, .int (a3))] [.int ((2000 : Int32)), .int (a2)] rfl ?_
    refine G.cmp_le 26 (tbd tv_X11_fill rfl) (by decide) (fun c12 => ?_) (fun c12 => ?_)
    · replace hr := ite_t c12 hr
      refine G.go tv_X11_fill 1 27 [(0, .ref (gAd E (0))), (1, .int (a0)), (2, .int (a1)), (3, .int (a2)), (4, .int (a3))] [.ref (gAd E (0))] rfl ?_
      refine G.getf cls_X11 (0) 8 (by omega) (ha32.q0) (by decide) rfl (tbd tv_X11_fill rfl) w_571 ?_
      refine G.go tv_X11_fill 1 31 [(0, .ref (gAd E (0))), (1, .int (a0)), (2, .int (a1)), (3, .int (a2)), (4, .int (a3))] [.int (a0), .ref (gAd E (37))] rfl ?_
      obtain ⟨v33, hv33, hr⟩ := bnd_s hr
      refine G.callV (37) [.int (a0)] [] (k_X7_faultOfFile E _ N B gr C32 D32 A32 hz ha32 hD32 hA32 a0 v33 hv33) cls_X7 (by omega) (ha32.q37) cw_X11_352 w_1602 w_1603 (Nat.le_of_ble_eq_true rfl) rfl (Nat.le_of_ble_eq_true rfl) (tbd tv_X11_fill rfl) (fun v33w f33 q33 => ?_) (fun _ _ h => h.elim)
      obtain ⟨rfl, ha33, fa33⟩ := q33
      refine G.eqs [.int (v33)] rfl ?_
      refine G.go tv_X11_fill 2 38 [(0, .ref (gAd E (0))), (1, .int (a0)), (2, .int (a1)), (3, .int (a2)), (4, .int (a3)), (5, .int (v33))] [.int (v33)] rfl ?_
      refine G.if_ge 44 (tbd tv_X11_fill rfl) (by decide) (fun c38 => ?_) (fun c38 => ?_)
      · replace hr := ite_t c38 hr
        refine G.go tv_X11_fill 2 47 [(0, .ref (gAd E (0))), (1, .int (a0)), (2, .int (a1)), (3, .int (a2)), (4, .int (a3)), (5, .int (v33)), (6, .int ((0 : Int32)))] [] rfl ?_
        refine G.less [(0, .ref (gAd E (0))), (1, .int (a0)), (2, .int (a1)), (3, .int (a2)), (4, .int (a3)), (6, .int ((0 : Int32)))] [0, 1, 2, 3, 4, 6] rfl ?_
        exact l_X11_fill_47 E f sz _ N B gr C hz _ _ _ _ _ _ _ _ _ hr _ _ ha33 hD32 hA32 ((Fr.rf.tr fa32 (fun _ h => h)).tr fa33 (fun _ h => h))
      · replace hr := ite_f c38 hr
        refine G.go tv_X11_fill 1 43 [(0, .ref (gAd E (0))), (1, .int (a0)), (2, .int (a1)), (3, .int (a2)), (4, .int (a3)), (5, .int (v33))] [.int (v33)] rfl ?_
        cases hr
        exact G.iret rfl rfl (FQ.ok rfl ⟨C32, ha33, hD32, hA32, ((Fr.rf.tr fa32 (fun _ h => h)).tr fa33 (fun _ h => h))⟩) (tbd tv_X11_fill rfl)
    · replace hr := ite_f c12 hr
      cases hr
      exact G.thrW (cls := "java/lang/IllegalArgumentException") (text := "n is not 0 .. 2000") (names := ["java/lang/RuntimeException", "java/lang/Exception"]) (by decide +kernel) (by decide +kernel) w_828 w_168 (own := "LedgerFiles") rfl (by decide +kernel) (by decide +kernel) at_X11_205 (tbd tv_X11_fill rfl) (tbd tv_X11_fill rfl) (tbd tv_X11_fill rfl) (tbd tv_X11_fill rfl) (tbd tv_X11_fill rfl) (Nat.le_of_ble_eq_true rfl) (Nat.le_of_ble_eq_true rfl) (FQ.th (e := 1) rfl ⟨C32, ha32, hD32, hA32, (Fr.rf.tr fa32 (fun _ h => h))⟩)
theorem w_1633 : Cond.constant "LedgerFiles" 361 (400000 : Int32) ∈ TB := tp_7 47 (by decide +kernel) rfl
theorem w_1634 : Cond.methodLink "LedgerFiles" 362 yX7_size ∈ TB := tp_7 48 (by decide +kernel) rfl
theorem cw_X11_362 : Cw RX11 362 yX7_size cX7_size 2 (some .int) 1 := ⟨w_1634, w_943, w_157, by decide +kernel, by decide +kernel, by decide⟩
theorem w_1635 : Cond.methodLink "LedgerFiles" 365 yX7_resize ∈ TB := tp_7 49 (by decide +kernel) rfl
theorem w_1638 : Cond.code yX7_resize prog_9_method_40_code 5 none ∈ TB := tp_7 52 rfl rfl
theorem cw_X11_365 : Cw RX11 365 yX7_resize cX7_resize 5 none 2 := ⟨w_1635, w_1638, w_157, by decide +kernel, by decide +kernel, by decide⟩
theorem w_1636 : Cond.instanceMethod yX7_resize ∈ TB := tp_7 50 (by decide +kernel) rfl
theorem w_1637 : Cond.selects "LedgerFiles$Nodes" yX7_resize yX7_resize ∈ TB := tp_7 51 (by decide +kernel) rfl
theorem w_1640 : Cond.methodLink "LedgerFiles" 368 yX7_blocksFor ∈ TB := tp_7 54 (by decide +kernel) rfl
theorem cw_X11_368 : Cw RX11 368 yX7_blocksFor cX7_blocksFor 1 (some .int) 1 := ⟨w_1640, w_947, w_157, by decide +kernel, by decide +kernel, by decide⟩
theorem w_1641 : Cond.methodLink "LedgerFiles" 371 yX3_blank ∈ TB := tp_7 55 (by decide +kernel) rfl
theorem w_1644 : Cond.code yX3_blank prog_5_method_4_code 6 none ∈ TB := tp_7 58 rfl rfl
theorem cw_X11_371 : Cw RX11 371 yX3_blank cX3_blank 6 none 3 := ⟨w_1641, w_1644, w_159, by decide +kernel, by decide +kernel, by decide⟩
theorem w_1642 : Cond.instanceMethod yX3_blank ∈ TB := tp_7 56 (by decide +kernel) rfl
theorem w_1643 : Cond.selects "LedgerFiles$Files" yX3_blank yX3_blank ∈ TB := tp_7 57 (by decide +kernel) rfl
noncomputable def d_X11_truncate (N B gr : Nat) (A : MS) (D : CfT) (a0 : Int32) (a1 : Int32) : Option (FR Int32) := bndF (d_X11_needMounted N B gr A D) (fun v36 A36 D36 => bnd (d_X7_faultOfFile N (vA A36) D36 a0) (fun v37 => if 0 ≤ v37 then if a1 < 0 then some (.inl ((-10 : Int32), A36, D36)) else if a1 ≤ ((400000 : Int32)) then bnd (d_X7_size N (vA A36) D36 a0) (fun v38 => bnd2 (d_X7_resize N A36 D36 a0 a1) (fun A39 D39 => if v38 ≤ a1 then bndF (d_X10_finish N B gr A39 D39) (fun v40 A40 D40 => some (.inl ((0 : Int32), A40, D40))) else bnd (d_X7_blocksFor N (vA A39) D39 a1) (fun v41 => bndF (d_X3_blank N B gr A39 D39 a0 a1 ((v41) * ((128 : Int32)))) (fun v42 A42 D42 => bndF (d_X10_finish N B gr A42 D42) (fun v43 A43 D43 => some (.inl ((0 : Int32), A43, D43))))))) else some (.inl ((-10 : Int32), A36, D36)) else some (.inl (v37, A36, D36))))
set_option maxRecDepth 100000 in
set_option maxHeartbeats 4000000 in
theorem k_X11_truncate (E : gE) (f : Nat → va_E) (N B gr : Nat) (C D : CfT) (A : MS) (hz : CfZ E N B gr) (h : CfV E f N B gr C) (hD : Dq D C) (hA : AR N B gr A C) (a0 : Int32) (a1 : Int32) (r : FR Int32) (hr : d_X11_truncate N B gr A D a0 a1 = some r) : Ct E 13 yX11_truncate cX11_truncate 5 (some .int) [.ref (gAd E (0)), .int (a0), .int (a1)] f (FQ E N B gr f (fun r => some (.int r)) r) := by
  obtain ⟨z1, z2, z3, z4, z5, z6, z7⟩ := id hz
  refine Ct.of (by decide) (Nat.le_of_ble_eq_true rfl) (fun sz => ?_)
  refine G.eql [(0, .ref (gAd E (0))), (1, .int (a0)), (2, .int (a1))] rfl ?_
  unfold d_X11_truncate at hr
  refine G.go tv_X11_truncate 1 1 [(0, .ref (gAd E (0))), (1, .int (a0)), (2, .int (a1))] [.ref (gAd E (0))] rfl ?_
  rcases bndF_s hr with ⟨v36, A36, D36, hv36, hr⟩ | ⟨ex36, A36, D36, hv36, rfl⟩
  rotate_left
  · skip
    refine G.callV (0) [] [] (k_X11_needMounted E _ N B gr C D A hz h hD hA _ hv36) cls_X11 (by omega) (h.q0) cw_X11_221 w_1320 w_27 (Nat.le_of_ble_eq_true rfl) rfl (Nat.le_of_ble_eq_true rfl) (tbd tv_X11_truncate rfl) (fun v36w f36 q36 => ?_) (fun X g q => FQ.fr q Fr.rf)
    exact q36.elim
  refine G.callV (0) [] [] (k_X11_needMounted E _ N B gr C D A hz h hD hA _ hv36) cls_X11 (by omega) (h.q0) cw_X11_221 w_1320 w_27 (Nat.le_of_ble_eq_true rfl) rfl (Nat.le_of_ble_eq_true rfl) (tbd tv_X11_truncate rfl) (fun v36w f36 q36 => ?_) (fun _ _ h => h.elim)
  obtain ⟨rfl, C36, ha36, hD36, hA36, fa36⟩ := q36
  refine G.eqs [] rfl ?_
  refine G.go tv_X11_truncate 1 5 [(0, .ref (gAd E (0))), (1, .int (a0)), (2, .int (a1))] [.ref (gAd E (0))] rfl ?_
  refine G.getf cls_X11 (0) 8 (by omega) (ha36.q0) (by decide) rfl (tbd tv_X11_truncate rfl) w_571 ?_
  refine G.go tv_X11_truncate 1 9 [(0, .ref (gAd E (0))), (1, .int (a0)), (2, .int (a1))] [.int (a0), .ref (gAd E (37))] rfl ?_
  obtain ⟨v37, hv37, hr⟩ := bnd_s hr
  refine G.callV (37) [.int (a0)] [] (k_X7_faultOfFile E _ N B gr C36 D36 A36 hz ha36 hD36 hA36 a0 v37 hv37) cls_X7 (by omega) (ha36.q37) cw_X11_352 w_1602 w_1603 (Nat.le_of_ble_eq_true rfl) rfl (Nat.le_of_ble_eq_true rfl) (tbd tv_X11_truncate rfl) (fun v37w f37 q37 => ?_) (fun _ _ h => h.elim)
  obtain ⟨rfl, ha37, fa37⟩ := q37
  refine G.eqs [.int (v37)] rfl ?_
  refine G.go tv_X11_truncate 2 14 [(0, .ref (gAd E (0))), (1, .int (a0)), (2, .int (a1)), (3, .int (v37))] [.int (v37)] rfl ?_
  refine G.if_ge 19 (tbd tv_X11_truncate rfl) (by decide) (fun c14 => ?_) (fun c14 => ?_)
  · replace hr := ite_t c14 hr
    refine G.go tv_X11_truncate 1 20 [(0, .ref (gAd E (0))), (1, .int (a0)), (2, .int (a1)), (3, .int (v37))] [.int (a1)] rfl ?_
    refine G.if_lt 30 (tbd tv_X11_truncate rfl) (by decide) (fun c20 => ?_) (fun c20 => ?_)
    · replace hr := ite_t c20 hr
      refine G.go tv_X11_truncate 1 32 [(0, .ref (gAd E (0))), (1, .int (a0)), (2, .int (a1)), (3, .int (v37))] [.int ((-10 : Int32))] rfl ?_
      cases hr
      exact G.iret rfl rfl (FQ.ok rfl ⟨C36, ha37, hD36, hA36, ((Fr.rf.tr fa36 (fun _ h => h)).tr fa37 (fun _ h => h))⟩) (tbd tv_X11_truncate rfl)
    · replace hr := ite_f c20 hr
      refine G.go tv_X11_truncate 1 24 [(0, .ref (gAd E (0))), (1, .int (a0)), (2, .int (a1)), (3, .int (v37))] [.int (a1)] rfl ?_
      refine G.ldcw (400000) (tbd tv_X11_truncate rfl) w_1633 ?_
      refine G.cmp_le 33 (tbd tv_X11_truncate rfl) (by decide) (fun c27 => ?_) (fun c27 => ?_)
      · replace hr := ite_t c27 hr
        refine G.go tv_X11_truncate 1 34 [(0, .ref (gAd E (0))), (1, .int (a0)), (2, .int (a1)), (3, .int (v37))] [.ref (gAd E (0))] rfl ?_
        refine G.getf cls_X11 (0) 8 (by omega) (ha37.q0) (by decide) rfl (tbd tv_X11_truncate rfl) w_571 ?_
        refine G.go tv_X11_truncate 1 38 [(0, .ref (gAd E (0))), (1, .int (a0)), (2, .int (a1)), (3, .int (v37))] [.int (a0), .ref (gAd E (37))] rfl ?_
        obtain ⟨v38, hv38, hr⟩ := bnd_s hr
        refine G.callV (37) [.int (a0)] [] (k_X7_size E _ N B gr C36 D36 A36 hz ha37 hD36 hA36 a0 v38 hv38) cls_X7 (by omega) (ha37.q37) cw_X11_362 w_941 w_942 (Nat.le_of_ble_eq_true rfl) rfl (Nat.le_of_ble_eq_true rfl) (tbd tv_X11_truncate rfl) (fun v38w f38 q38 => ?_) (fun _ _ h => h.elim)
        obtain ⟨rfl, ha38, fa38⟩ := q38
        refine G.eqs [.int (v38)] rfl ?_
        refine G.go tv_X11_truncate 2 44 [(0, .ref (gAd E (0))), (1, .int (a0)), (2, .int (a1)), (3, .int (v37)), (4, .int (v38))] [.ref (gAd E (0))] rfl ?_
        refine G.getf cls_X11 (0) 8 (by omega) (ha38.q0) (by decide) rfl (tbd tv_X11_truncate rfl) w_571 ?_
        refine G.go tv_X11_truncate 2 49 [(0, .ref (gAd E (0))), (1, .int (a0)), (2, .int (a1)), (3, .int (v37)), (4, .int (v38))] [.int (a1), .int (a0), .ref (gAd E (37))] rfl ?_
        obtain ⟨A39, D39, hv39, hr⟩ := bnd2_s hr
        refine G.callV (37) [.int (a0), .int (a1)] [] (k_X7_resize E _ N B gr C36 D36 A36 hz ha38 hD36 hA36 a0 a1 A39 D39 hv39) cls_X7 (by omega) (ha38.q37) cw_X11_365 w_1636 w_1637 (Nat.le_of_ble_eq_true rfl) rfl (Nat.le_of_ble_eq_true rfl) (tbd tv_X11_truncate rfl) (fun v39w f39 q39 => ?_) (fun _ _ h => h.elim)
        obtain ⟨rfl, C39, ha39, hD39, hA39, fa39⟩ := q39
        refine G.eqs [] rfl ?_
        refine G.go tv_X11_truncate 2 55 [(0, .ref (gAd E (0))), (1, .int (a0)), (2, .int (a1)), (3, .int (v37)), (4, .int (v38))] [.int (v38), .int (a1)] rfl ?_
        refine G.cmp_ge 75 (tbd tv_X11_truncate rfl) (by decide) (fun c55 => ?_) (fun c55 => ?_)
        · replace hr := ite_t c55 hr
          refine G.go tv_X11_truncate 1 76 [(0, .ref (gAd E (0))), (1, .int (a0)), (2, .int (a1)), (3, .int (v37)), (4, .int (v38))] [.ref (gAd E (0))] rfl ?_
          refine G.getf cls_X11 (0) 7 (by omega) (ha39.q0) (by decide) rfl (tbd tv_X11_truncate rfl) w_570 ?_
          rcases bndF_s hr with ⟨v40, A40, D40, hv40, hr⟩ | ⟨ex40, A40, D40, hv40, rfl⟩
          rotate_left
          · skip
            refine G.callV (25) [] [] (k_X10_finish E _ N B gr C39 D39 A39 hz ha39 hD39 hA39 _ hv40) cls_X10 (by omega) (ha39.q25) cw_X11_244 w_1247 w_1248 (Nat.le_of_ble_eq_true rfl) rfl (Nat.le_of_ble_eq_true rfl) (tbd tv_X11_truncate rfl) (fun v40w f40 q40 => ?_) (fun X g q => FQ.fr q ((((Fr.rf.tr fa36 (fun _ h => h)).tr fa37 (fun _ h => h)).tr fa38 (fun _ h => h)).tr fa39 (fun _ h => h)))
            exact q40.elim
          refine G.callV (25) [] [] (k_X10_finish E _ N B gr C39 D39 A39 hz ha39 hD39 hA39 _ hv40) cls_X10 (by omega) (ha39.q25) cw_X11_244 w_1247 w_1248 (Nat.le_of_ble_eq_true rfl) rfl (Nat.le_of_ble_eq_true rfl) (tbd tv_X11_truncate rfl) (fun v40w f40 q40 => ?_) (fun _ _ h => h.elim)
          obtain ⟨rfl, C40, ha40, hD40, hA40, fa40⟩ := q40
          refine G.eqs [] rfl ?_
          refine G.go tv_X11_truncate 1 83 [(0, .ref (gAd E (0))), (1, .int (a0)), (2, .int (a1)), (3, .int (v37)), (4, .int (v38))] [.int ((0 : Int32))] rfl ?_
          cases hr
          exact G.iret rfl rfl (FQ.ok rfl ⟨C40, ha40, hD40, hA40, (((((Fr.rf.tr fa36 (fun _ h => h)).tr fa37 (fun _ h => h)).tr fa38 (fun _ h => h)).tr fa39 (fun _ h => h)).tr fa40 (fun _ h => h))⟩) (tbd tv_X11_truncate rfl)
        · replace hr := ite_f c55 hr
          refine G.go tv_X11_truncate 1 59 [(0, .ref (gAd E (0))), (1, .int (a0)), (2, .int (a1)), (3, .int (v37)), (4, .int (v38))] [.ref (gAd E (0))] rfl ?_
          refine G.getf cls_X11 (0) 11 (by omega) (ha39.q0) (by decide) rfl (tbd tv_X11_truncate rfl) w_574 ?_
          refine G.go tv_X11_truncate 3 65 [(0, .ref (gAd E (0))), (1, .int (a0)), (2, .int (a1)), (3, .int (v37)), (4, .int (v38))] [.int (a1), .int (a1), .int (a0), .ref (gAd E (41))] rfl ?_
          obtain ⟨v41, hv41, hr⟩ := bnd_s hr
          refine G.callS [.int (a1)] [.int (a1), .int (a0), .ref (gAd E (41))] (k_X7_blocksFor E _ N B gr C39 D39 A39 hz ha39 hD39 hA39 a1 v41 hv41) cw_X11_368 w_946 (Nat.le_of_ble_eq_true rfl) rfl (Nat.le_of_ble_eq_true rfl) (tbd tv_X11_truncate rfl) (fun v41w f41 q41 => ?_) (fun _ _ h => h.elim)
          obtain ⟨rfl, ha41, fa41⟩ := q41
          refine G.eqs [.int (v41), .int (a1), .int (a0), .ref (gAd E (41))] rfl ?_
          refine G.go tv_X11_truncate 2 72 [(0, .ref (gAd E (0))), (1, .int (a0)), (2, .int (a1)), (3, .int (v37)), (4, .int (v38))] [.int ((v41) * ((128 : Int32))), .int (a1), .int (a0), .ref (gAd E (41))] rfl ?_
          rcases bndF_s hr with ⟨v42, A42, D42, hv42, hr⟩ | ⟨ex42, A42, D42, hv42, rfl⟩
          rotate_left
          · skip
            refine G.callV (41) [.int (a0), .int (a1), .int ((v41) * ((128 : Int32)))] [] (k_X3_blank E _ N B gr C39 D39 A39 hz ha41 hD39 hA39 a0 a1 ((v41) * ((128 : Int32))) _ hv42) cls_X3 (by omega) (ha41.q41) cw_X11_371 w_1642 w_1643 (Nat.le_of_ble_eq_true rfl) rfl (Nat.le_of_ble_eq_true rfl) (tbd tv_X11_truncate rfl) (fun v42w f42 q42 => ?_) (fun X g q => FQ.fr q (((((Fr.rf.tr fa36 (fun _ h => h)).tr fa37 (fun _ h => h)).tr fa38 (fun _ h => h)).tr fa39 (fun _ h => h)).tr fa41 (fun _ h => h)))
            exact q42.elim
          refine G.callV (41) [.int (a0), .int (a1), .int ((v41) * ((128 : Int32)))] [] (k_X3_blank E _ N B gr C39 D39 A39 hz ha41 hD39 hA39 a0 a1 ((v41) * ((128 : Int32))) _ hv42) cls_X3 (by omega) (ha41.q41) cw_X11_371 w_1642 w_1643 (Nat.le_of_ble_eq_true rfl) rfl (Nat.le_of_ble_eq_true rfl) (tbd tv_X11_truncate rfl) (fun v42w f42 q42 => ?_) (fun _ _ h => h.elim)
          obtain ⟨rfl, C42, ha42, hD42, hA42, fa42⟩ := q42
          refine G.eqs [] rfl ?_
          refine G.go tv_X11_truncate 1 76 [(0, .ref (gAd E (0))), (1, .int (a0)), (2, .int (a1)), (3, .int (v37)), (4, .int (v38))] [.ref (gAd E (0))] rfl ?_
          refine G.getf cls_X11 (0) 7 (by omega) (ha42.q0) (by decide) rfl (tbd tv_X11_truncate rfl) w_570 ?_
          rcases bndF_s hr with ⟨v43, A43, D43, hv43, hr⟩ | ⟨ex43, A43, D43, hv43, rfl⟩
          rotate_left
          · skip
            refine G.callV (25) [] [] (k_X10_finish E _ N B gr C42 D42 A42 hz ha42 hD42 hA42 _ hv43) cls_X10 (by omega) (ha42.q25) cw_X11_244 w_1247 w_1248 (Nat.le_of_ble_eq_true rfl) rfl (Nat.le_of_ble_eq_true rfl) (tbd tv_X11_truncate rfl) (fun v43w f43 q43 => ?_) (fun X g q => FQ.fr q ((((((Fr.rf.tr fa36 (fun _ h => h)).tr fa37 (fun _ h => h)).tr fa38 (fun _ h => h)).tr fa39 (fun _ h => h)).tr fa41 (fun _ h => h)).tr fa42 (fun _ h => h)))
            exact q43.elim
          refine G.callV (25) [] [] (k_X10_finish E _ N B gr C42 D42 A42 hz ha42 hD42 hA42 _ hv43) cls_X10 (by omega) (ha42.q25) cw_X11_244 w_1247 w_1248 (Nat.le_of_ble_eq_true rfl) rfl (Nat.le_of_ble_eq_true rfl) (tbd tv_X11_truncate rfl) (fun v43w f43 q43 => ?_) (fun _ _ h => h.elim)
          obtain ⟨rfl, C43, ha43, hD43, hA43, fa43⟩ := q43
          refine G.eqs [] rfl ?_
          refine G.go tv_X11_truncate 1 83 [(0, .ref (gAd E (0))), (1, .int (a0)), (2, .int (a1)), (3, .int (v37)), (4, .int (v38))] [.int ((0 : Int32))] rfl ?_
          cases hr
          exact G.iret rfl rfl (FQ.ok rfl ⟨C43, ha43, hD43, hA43, (((((((Fr.rf.tr fa36 (fun _ h => h)).tr fa37 (fun _ h => h)).tr fa38 (fun _ h => h)).tr fa39 (fun _ h => h)).tr fa41 (fun _ h => h)).tr fa42 (fun _ h => h)).tr fa43 (fun _ h => h))⟩) (tbd tv_X11_truncate rfl)
      · replace hr := ite_f c27 hr
        refine G.go tv_X11_truncate 1 32 [(0, .ref (gAd E (0))), (1, .int (a0)), (2, .int (a1)), (3, .int (v37))] [.int ((-10 : Int32))] rfl ?_
        cases hr
        exact G.iret rfl rfl (FQ.ok rfl ⟨C36, ha37, hD36, hA36, ((Fr.rf.tr fa36 (fun _ h => h)).tr fa37 (fun _ h => h))⟩) (tbd tv_X11_truncate rfl)
  · replace hr := ite_f c14 hr
    refine G.go tv_X11_truncate 1 18 [(0, .ref (gAd E (0))), (1, .int (a0)), (2, .int (a1)), (3, .int (v37))] [.int (v37)] rfl ?_
    cases hr
    exact G.iret rfl rfl (FQ.ok rfl ⟨C36, ha37, hD36, hA36, ((Fr.rf.tr fa36 (fun _ h => h)).tr fa37 (fun _ h => h))⟩) (tbd tv_X11_truncate rfl)
theorem w_1652 : Cond.methodLink "LedgerFiles" 374 yX7_setMark ∈ TB := tp_7 66 (by decide +kernel) rfl
theorem cw_X11_374 : Cw RX11 374 yX7_setMark cX7_setMark 3 none 2 := ⟨w_1652, w_1569, w_157, by decide +kernel, by decide +kernel, by decide⟩
noncomputable def d_X11_mark (N B gr : Nat) (A : MS) (D : CfT) (a0 : Int32) (a1 : Int32) : Option (FR Int32) := bndF (d_X11_needMounted N B gr A D) (fun v44 A44 D44 => bnd (d_X7_kind N (vA A44) D44 a0) (fun v45 => if v45 = 0 then some (.inl ((-11 : Int32), A44, D44)) else bnd2 (d_X7_setMark N A44 D44 a0 a1) (fun A46 D46 => bndF (d_X10_finish N B gr A46 D46) (fun v47 A47 D47 => some (.inl ((0 : Int32), A47, D47))))))
set_option maxRecDepth 100000 in
set_option maxHeartbeats 4000000 in
theorem k_X11_mark (E : gE) (f : Nat → va_E) (N B gr : Nat) (C D : CfT) (A : MS) (hz : CfZ E N B gr) (h : CfV E f N B gr C) (hD : Dq D C) (hA : AR N B gr A C) (a0 : Int32) (a1 : Int32) (r : FR Int32) (hr : d_X11_mark N B gr A D a0 a1 = some r) : Ct E 12 yX11_mark cX11_mark 3 (some .int) [.ref (gAd E (0)), .int (a0), .int (a1)] f (FQ E N B gr f (fun r => some (.int r)) r) := by
  obtain ⟨z1, z2, z3, z4, z5, z6, z7⟩ := id hz
  refine Ct.of (by decide) (Nat.le_of_ble_eq_true rfl) (fun sz => ?_)
  refine G.eql [(0, .ref (gAd E (0))), (1, .int (a0)), (2, .int (a1))] rfl ?_
  unfold d_X11_mark at hr
  refine G.go tv_X11_mark 1 1 [(0, .ref (gAd E (0))), (1, .int (a0)), (2, .int (a1))] [.ref (gAd E (0))] rfl ?_
  rcases bndF_s hr with ⟨v44, A44, D44, hv44, hr⟩ | ⟨ex44, A44, D44, hv44, rfl⟩
  rotate_left
  · skip
    refine G.callV (0) [] [] (k_X11_needMounted E _ N B gr C D A hz h hD hA _ hv44) cls_X11 (by omega) (h.q0) cw_X11_221 w_1320 w_27 (Nat.le_of_ble_eq_true rfl) rfl (Nat.le_of_ble_eq_true rfl) (tbd tv_X11_mark rfl) (fun v44w f44 q44 => ?_) (fun X g q => FQ.fr q Fr.rf)
    exact q44.elim
  refine G.callV (0) [] [] (k_X11_needMounted E _ N B gr C D A hz h hD hA _ hv44) cls_X11 (by omega) (h.q0) cw_X11_221 w_1320 w_27 (Nat.le_of_ble_eq_true rfl) rfl (Nat.le_of_ble_eq_true rfl) (tbd tv_X11_mark rfl) (fun v44w f44 q44 => ?_) (fun _ _ h => h.elim)
  obtain ⟨rfl, C44, ha44, hD44, hA44, fa44⟩ := q44
  refine G.eqs [] rfl ?_
  refine G.go tv_X11_mark 1 5 [(0, .ref (gAd E (0))), (1, .int (a0)), (2, .int (a1))] [.ref (gAd E (0))] rfl ?_
  refine G.getf cls_X11 (0) 8 (by omega) (ha44.q0) (by decide) rfl (tbd tv_X11_mark rfl) w_571 ?_
  refine G.go tv_X11_mark 1 9 [(0, .ref (gAd E (0))), (1, .int (a0)), (2, .int (a1))] [.int (a0), .ref (gAd E (37))] rfl ?_
  obtain ⟨v45, hv45, hr⟩ := bnd_s hr
  refine G.callV (37) [.int (a0)] [] (k_X7_kind E _ N B gr C44 D44 A44 hz ha44 hD44 hA44 a0 v45 hv45) cls_X7 (by omega) (ha44.q37) cw_X11_250 w_903 w_904 (Nat.le_of_ble_eq_true rfl) rfl (Nat.le_of_ble_eq_true rfl) (tbd tv_X11_mark rfl) (fun v45w f45 q45 => ?_) (fun _ _ h => h.elim)
  obtain ⟨rfl, ha45, fa45⟩ := q45
  refine G.eqs [.int (v45)] rfl ?_
  refine G.if_ne 18 (tbd tv_X11_mark rfl) (by decide) (fun c12 => ?_) (fun c12 => ?_)
  · replace hr := ite_f c12 hr
    refine G.go tv_X11_mark 1 19 [(0, .ref (gAd E (0))), (1, .int (a0)), (2, .int (a1))] [.ref (gAd E (0))] rfl ?_
    refine G.getf cls_X11 (0) 8 (by omega) (ha45.q0) (by decide) rfl (tbd tv_X11_mark rfl) w_571 ?_
    refine G.go tv_X11_mark 2 24 [(0, .ref (gAd E (0))), (1, .int (a0)), (2, .int (a1))] [.int (a1), .int (a0), .ref (gAd E (37))] rfl ?_
    obtain ⟨A46, D46, hv46, hr⟩ := bnd2_s hr
    refine G.callV (37) [.int (a0), .int (a1)] [] (k_X7_setMark E _ N B gr C44 D44 A44 hz ha45 hD44 hA44 a0 a1 A46 D46 hv46) cls_X7 (by omega) (ha45.q37) cw_X11_374 w_1567 w_1568 (Nat.le_of_ble_eq_true rfl) rfl (Nat.le_of_ble_eq_true rfl) (tbd tv_X11_mark rfl) (fun v46w f46 q46 => ?_) (fun _ _ h => h.elim)
    obtain ⟨rfl, C46, ha46, hD46, hA46, fa46⟩ := q46
    refine G.eqs [] rfl ?_
    refine G.go tv_X11_mark 1 28 [(0, .ref (gAd E (0))), (1, .int (a0)), (2, .int (a1))] [.ref (gAd E (0))] rfl ?_
    refine G.getf cls_X11 (0) 7 (by omega) (ha46.q0) (by decide) rfl (tbd tv_X11_mark rfl) w_570 ?_
    rcases bndF_s hr with ⟨v47, A47, D47, hv47, hr⟩ | ⟨ex47, A47, D47, hv47, rfl⟩
    rotate_left
    · skip
      refine G.callV (25) [] [] (k_X10_finish E _ N B gr C46 D46 A46 hz ha46 hD46 hA46 _ hv47) cls_X10 (by omega) (ha46.q25) cw_X11_244 w_1247 w_1248 (Nat.le_of_ble_eq_true rfl) rfl (Nat.le_of_ble_eq_true rfl) (tbd tv_X11_mark rfl) (fun v47w f47 q47 => ?_) (fun X g q => FQ.fr q (((Fr.rf.tr fa44 (fun _ h => h)).tr fa45 (fun _ h => h)).tr fa46 (fun _ h => h)))
      exact q47.elim
    refine G.callV (25) [] [] (k_X10_finish E _ N B gr C46 D46 A46 hz ha46 hD46 hA46 _ hv47) cls_X10 (by omega) (ha46.q25) cw_X11_244 w_1247 w_1248 (Nat.le_of_ble_eq_true rfl) rfl (Nat.le_of_ble_eq_true rfl) (tbd tv_X11_mark rfl) (fun v47w f47 q47 => ?_) (fun _ _ h => h.elim)
    obtain ⟨rfl, C47, ha47, hD47, hA47, fa47⟩ := q47
    refine G.eqs [] rfl ?_
    refine G.go tv_X11_mark 1 35 [(0, .ref (gAd E (0))), (1, .int (a0)), (2, .int (a1))] [.int ((0 : Int32))] rfl ?_
    cases hr
    exact G.iret rfl rfl (FQ.ok rfl ⟨C47, ha47, hD47, hA47, ((((Fr.rf.tr fa44 (fun _ h => h)).tr fa45 (fun _ h => h)).tr fa46 (fun _ h => h)).tr fa47 (fun _ h => h))⟩) (tbd tv_X11_mark rfl)
  · replace hr := ite_t c12 hr
    refine G.go tv_X11_mark 1 17 [(0, .ref (gAd E (0))), (1, .int (a0)), (2, .int (a1))] [.int ((-11 : Int32))] rfl ?_
    cases hr
    exact G.iret rfl rfl (FQ.ok rfl ⟨C44, ha45, hD44, hA44, ((Fr.rf.tr fa44 (fun _ h => h)).tr fa45 (fun _ h => h))⟩) (tbd tv_X11_mark rfl)
theorem w_1660 : Cond.constantLong "LedgerFiles" 377 (400000 : Int64) ∈ TB := tp_7 74 (by decide +kernel) rfl
theorem w_1661 : Cond.methodLink "LedgerFiles" 379 yX7_tablesTelling ∈ TB := tp_7 75 (by decide +kernel) rfl
theorem w_1664 : Cond.code yX7_tablesTelling prog_9_method_36_code 8 (some .int) ∈ TB := tp_7 78 rfl rfl
theorem cw_X11_379 : Cw RX11 379 yX7_tablesTelling cX7_tablesTelling 8 (some .int) 3 := ⟨w_1661, w_1664, w_157, by decide +kernel, by decide +kernel, by decide⟩
theorem w_1662 : Cond.instanceMethod yX7_tablesTelling ∈ TB := tp_7 76 (by decide +kernel) rfl
theorem w_1663 : Cond.selects "LedgerFiles$Nodes" yX7_tablesTelling yX7_tablesTelling ∈ TB := tp_7 77 (by decide +kernel) rfl
theorem w_1666 : Cond.methodLink "LedgerFiles" 383 yX7_cutBlocks ∈ TB := tp_7 80 (by decide +kernel) rfl
theorem cw_X11_383 : Cw RX11 383 yX7_cutBlocks cX7_cutBlocks 10 (some .int) 4 := ⟨w_1666, w_951, w_157, by decide +kernel, by decide +kernel, by decide⟩
noncomputable def d_X11_punch (N B gr : Nat) (A : MS) (D : CfT) (a0 : Int32) (a1 : Int32) (a2 : Int32) : Option (FR Int32) := bndF (d_X11_needMounted N B gr A D) (fun v48 A48 D48 => bnd (d_X7_faultOfFile N (vA A48) D48 a0) (fun v49 => if 0 ≤ v49 then if a1 < 0 then some (.inl ((-10 : Int32), A48, D48)) else if a2 < 0 then some (.inl ((-10 : Int32), A48, D48)) else if (lg_cmp (((a1 : Int32).toInt64) + ((a2 : Int32).toInt64)) ((400000 : Int64))) ≤ 0 then bnd (d_X7_blocksFor N (vA A48) D48 a1) (fun v50 => bnd (d_X7_tablesTelling N (vA A48) D48 a0 v50 (((a1) + (a2)) / ((128 : Int32)))) (fun v51 => if v51 ≤ ((32 : Int32)) then bnd3 (d_X7_cutBlocks N A48 D48 a0 v50 (((a1) + (a2)) / ((128 : Int32))) ((4168 : Int32))) (fun v52 A52 D52 => bnd (d_X7_size N (vA A52) D52 a0) (fun v53 => nm (if ((v50) * ((128 : Int32))) < ((a1) + (a2)) then ((v50) * ((128 : Int32))) else ((a1) + (a2))) (fun v54 => nm (if v53 < v54 then v53 else v54) (fun v55 => bndF (d_X3_blank N B gr A52 D52 a0 a1 v55) (fun v56 A56 D56 => if ((((a1) + (a2)) / ((128 : Int32))) * ((128 : Int32))) < v54 then bndF (d_X10_finish N B gr A56 D56) (fun v57 A57 D57 => some (.inl (v52, A57, D57))) else nm (if v53 < ((a1) + (a2)) then v53 else ((a1) + (a2))) (fun v58 => bndF (d_X3_blank N B gr A56 D56 a0 ((((a1) + (a2)) / ((128 : Int32))) * ((128 : Int32))) v58) (fun v59 A59 D59 => bndF (d_X10_finish N B gr A59 D59) (fun v60 A60 D60 => some (.inl (v52, A60, D60)))))))))) else some (.inl ((-12 : Int32), A48, D48)))) else some (.inl ((-10 : Int32), A48, D48)) else some (.inl (v49, A48, D48))))
set_option maxRecDepth 100000 in
set_option maxHeartbeats 4000000 in
theorem k_X11_punch (E : gE) (f : Nat → va_E) (N B gr : Nat) (C D : CfT) (A : MS) (hz : CfZ E N B gr) (h : CfV E f N B gr C) (hD : Dq D C) (hA : AR N B gr A C) (a0 : Int32) (a1 : Int32) (a2 : Int32) (r : FR Int32) (hr : d_X11_punch N B gr A D a0 a1 a2 = some r) : Ct E 13 yX11_punch cX11_punch 11 (some .int) [.ref (gAd E (0)), .int (a0), .int (a1), .int (a2)] f (FQ E N B gr f (fun r => some (.int r)) r) := by
  obtain ⟨z1, z2, z3, z4, z5, z6, z7⟩ := id hz
  refine Ct.of (by decide) (Nat.le_of_ble_eq_true rfl) (fun sz => ?_)
  refine G.eql [(0, .ref (gAd E (0))), (1, .int (a0)), (2, .int (a1)), (3, .int (a2))] rfl ?_
  unfold d_X11_punch at hr
  refine G.go tv_X11_punch 1 1 [(0, .ref (gAd E (0))), (1, .int (a0)), (2, .int (a1)), (3, .int (a2))] [.ref (gAd E (0))] rfl ?_
  rcases bndF_s hr with ⟨v48, A48, D48, hv48, hr⟩ | ⟨ex48, A48, D48, hv48, rfl⟩
  rotate_left
  · skip
    refine G.callV (0) [] [] (k_X11_needMounted E _ N B gr C D A hz h hD hA _ hv48) cls_X11 (by omega) (h.q0) cw_X11_221 w_1320 w_27 (Nat.le_of_ble_eq_true rfl) rfl (Nat.le_of_ble_eq_true rfl) (tbd tv_X11_punch rfl) (fun v48w f48 q48 => ?_) (fun X g q => FQ.fr q Fr.rf)
    exact q48.elim
  refine G.callV (0) [] [] (k_X11_needMounted E _ N B gr C D A hz h hD hA _ hv48) cls_X11 (by omega) (h.q0) cw_X11_221 w_1320 w_27 (Nat.le_of_ble_eq_true rfl) rfl (Nat.le_of_ble_eq_true rfl) (tbd tv_X11_punch rfl) (fun v48w f48 q48 => ?_) (fun _ _ h => h.elim)
  obtain ⟨rfl, C48, ha48, hD48, hA48, fa48⟩ := q48
  refine G.eqs [] rfl ?_
  refine G.go tv_X11_punch 1 5 [(0, .ref (gAd E (0))), (1, .int (a0)), (2, .int (a1)), (3, .int (a2))] [.ref (gAd E (0))] rfl ?_
  refine G.getf cls_X11 (0) 8 (by omega) (ha48.q0) (by decide) rfl (tbd tv_X11_punch rfl) w_571 ?_
  refine G.go tv_X11_punch 1 9 [(0, .ref (gAd E (0))), (1, .int (a0)), (2, .int (a1)), (3, .int (a2))] [.int (a0), .ref (gAd E (37))] rfl ?_
  obtain ⟨v49, hv49, hr⟩ := bnd_s hr
  refine G.callV (37) [.int (a0)] [] (k_X7_faultOfFile E _ N B gr C48 D48 A48 hz ha48 hD48 hA48 a0 v49 hv49) cls_X7 (by omega) (ha48.q37) cw_X11_352 w_1602 w_1603 (Nat.le_of_ble_eq_true rfl) rfl (Nat.le_of_ble_eq_true rfl) (tbd tv_X11_punch rfl) (fun v49w f49 q49 => ?_) (fun _ _ h => h.elim)
  obtain ⟨rfl, ha49, fa49⟩ := q49
  refine G.eqs [.int (v49)] rfl ?_
  refine G.go tv_X11_punch 2 16 [(0, .ref (gAd E (0))), (1, .int (a0)), (2, .int (a1)), (3, .int (a2)), (4, .int (v49))] [.int (v49)] rfl ?_
  refine G.if_ge 22 (tbd tv_X11_punch rfl) (by decide) (fun c16 => ?_) (fun c16 => ?_)
  · replace hr := ite_t c16 hr
    refine G.go tv_X11_punch 1 23 [(0, .ref (gAd E (0))), (1, .int (a0)), (2, .int (a1)), (3, .int (a2)), (4, .int (v49))] [.int (a1)] rfl ?_
    refine G.if_lt 42 (tbd tv_X11_punch rfl) (by decide) (fun c23 => ?_) (fun c23 => ?_)
    · replace hr := ite_t c23 hr
      refine G.go tv_X11_punch 1 44 [(0, .ref (gAd E (0))), (1, .int (a0)), (2, .int (a1)), (3, .int (a2)), (4, .int (v49))] [.int ((-10 : Int32))] rfl ?_
      cases hr
      exact G.iret rfl rfl (FQ.ok rfl ⟨C48, ha49, hD48, hA48, ((Fr.rf.tr fa48 (fun _ h => h)).tr fa49 (fun _ h => h))⟩) (tbd tv_X11_punch rfl)
    · replace hr := ite_f c23 hr
      refine G.go tv_X11_punch 1 27 [(0, .ref (gAd E (0))), (1, .int (a0)), (2, .int (a1)), (3, .int (a2)), (4, .int (v49))] [.int (a2)] rfl ?_
      refine G.if_lt 42 (tbd tv_X11_punch rfl) (by decide) (fun c27 => ?_) (fun c27 => ?_)
      · replace hr := ite_t c27 hr
        refine G.go tv_X11_punch 1 44 [(0, .ref (gAd E (0))), (1, .int (a0)), (2, .int (a1)), (3, .int (a2)), (4, .int (v49))] [.int ((-10 : Int32))] rfl ?_
        cases hr
        exact G.iret rfl rfl (FQ.ok rfl ⟨C48, ha49, hD48, hA48, ((Fr.rf.tr fa48 (fun _ h => h)).tr fa49 (fun _ h => h))⟩) (tbd tv_X11_punch rfl)
      · replace hr := ite_f c27 hr
        refine G.go tv_X11_punch 5 35 [(0, .ref (gAd E (0))), (1, .int (a0)), (2, .int (a1)), (3, .int (a2)), (4, .int (v49))] [.long (((a1 : Int32).toInt64) + ((a2 : Int32).toInt64))] rfl ?_
        refine G.ldc2 (400000) (tbd tv_X11_punch rfl) w_1660 ?_
        refine G.go tv_X11_punch 1 39 [(0, .ref (gAd E (0))), (1, .int (a0)), (2, .int (a1)), (3, .int (a2)), (4, .int (v49))] [.int (lg_cmp (((a1 : Int32).toInt64) + ((a2 : Int32).toInt64)) ((400000 : Int64)))] rfl ?_
        refine G.if_le 45 (tbd tv_X11_punch rfl) (by decide) (fun c39 => ?_) (fun c39 => ?_)
        · replace hr := ite_t c39 hr
          refine G.go tv_X11_punch 5 51 [(0, .ref (gAd E (0))), (1, .int (a0)), (2, .int (a1)), (3, .int (a2)), (4, .int (v49)), (5, .int ((a1) + (a2)))] [.int (a1)] rfl ?_
          obtain ⟨v50, hv50, hr⟩ := bnd_s hr
          refine G.callS [.int (a1)] [] (k_X7_blocksFor E _ N B gr C48 D48 A48 hz ha49 hD48 hA48 a1 v50 hv50) cw_X11_368 w_946 (Nat.le_of_ble_eq_true rfl) rfl (Nat.le_of_ble_eq_true rfl) (tbd tv_X11_punch rfl) (fun v50w f50 q50 => ?_) (fun _ _ h => h.elim)
          obtain ⟨rfl, ha50, fa50⟩ := q50
          refine G.eqs [.int (v50)] rfl ?_
          refine G.go tv_X11_punch 3 61 [(0, .ref (gAd E (0))), (1, .int (a0)), (2, .int (a1)), (3, .int (a2)), (4, .int (v49)), (5, .int ((a1) + (a2))), (6, .int (v50))] [.int ((128 : Int32)), .int ((a1) + (a2))] rfl ?_
          refine G.idiv (by decide) (tbd tv_X11_punch rfl) ?_
          refine G.go tv_X11_punch 2 65 [(0, .ref (gAd E (0))), (1, .int (a0)), (2, .int (a1)), (3, .int (a2)), (4, .int (v49)), (5, .int ((a1) + (a2))), (6, .int (v50)), (7, .int (((a1) + (a2)) / ((128 : Int32))))] [.ref (gAd E (0))] rfl ?_
          refine G.getf cls_X11 (0) 8 (by omega) (ha50.q0) (by decide) rfl (tbd tv_X11_punch rfl) w_571 ?_
          refine G.go tv_X11_punch 3 73 [(0, .ref (gAd E (0))), (1, .int (a0)), (2, .int (a1)), (3, .int (a2)), (4, .int (v49)), (5, .int ((a1) + (a2))), (6, .int (v50)), (7, .int (((a1) + (a2)) / ((128 : Int32))))] [.int (((a1) + (a2)) / ((128 : Int32))), .int (v50), .int (a0), .ref (gAd E (37))] rfl ?_
          obtain ⟨v51, hv51, hr⟩ := bnd_s hr
          refine G.callV (37) [.int (a0), .int (v50), .int (((a1) + (a2)) / ((128 : Int32)))] [] (k_X7_tablesTelling E _ N B gr C48 D48 A48 hz ha50 hD48 hA48 a0 v50 (((a1) + (a2)) / ((128 : Int32))) v51 hv51) cls_X7 (by omega) (ha50.q37) cw_X11_379 w_1662 w_1663 (Nat.le_of_ble_eq_true rfl) rfl (Nat.le_of_ble_eq_true rfl) (tbd tv_X11_punch rfl) (fun v51w f51 q51 => ?_) (fun _ _ h => h.elim)
          obtain ⟨rfl, ha51, fa51⟩ := q51
          refine G.eqs [.int (v51)] rfl ?_
          refine G.go tv_X11_punch 1 78 [(0, .ref (gAd E (0))), (1, .int (a0)), (2, .int (a1)), (3, .int (a2)), (4, .int (v49)), (5, .int ((a1) + (a2))), (6, .int (v50)), (7, .int (((a1) + (a2)) / ((128 : Int32))))] [.int ((32 : Int32)), .int (v51)] rfl ?_
          refine G.cmp_le 84 (tbd tv_X11_punch rfl) (by decide) (fun c78 => ?_) (fun c78 => ?_)
          · replace hr := ite_t c78 hr
            refine G.go tv_X11_punch 1 85 [(0, .ref (gAd E (0))), (1, .int (a0)), (2, .int (a1)), (3, .int (a2)), (4, .int (v49)), (5, .int ((a1) + (a2))), (6, .int (v50)), (7, .int (((a1) + (a2)) / ((128 : Int32))))] [.ref (gAd E (0))] rfl ?_
            refine G.getf cls_X11 (0) 8 (by omega) (ha51.q0) (by decide) rfl (tbd tv_X11_punch rfl) w_571 ?_
            refine G.go tv_X11_punch 4 96 [(0, .ref (gAd E (0))), (1, .int (a0)), (2, .int (a1)), (3, .int (a2)), (4, .int (v49)), (5, .int ((a1) + (a2))), (6, .int (v50)), (7, .int (((a1) + (a2)) / ((128 : Int32))))] [.int ((4168 : Int32)), .int (((a1) + (a2)) / ((128 : Int32))), .int (v50), .int (a0), .ref (gAd E (37))] rfl ?_
            obtain ⟨v52, A52, D52, hv52, hr⟩ := bnd3_s hr
            refine G.callV (37) [.int (a0), .int (v50), .int (((a1) + (a2)) / ((128 : Int32))), .int ((4168 : Int32))] [] (k_X7_cutBlocks E _ N B gr C48 D48 A48 hz ha51 hD48 hA48 a0 v50 (((a1) + (a2)) / ((128 : Int32))) ((4168 : Int32)) v52 A52 D52 hv52) cls_X7 (by omega) (ha51.q37) cw_X11_383 w_949 w_950 (Nat.le_of_ble_eq_true rfl) rfl (Nat.le_of_ble_eq_true rfl) (tbd tv_X11_punch rfl) (fun v52w f52 q52 => ?_) (fun _ _ h => h.elim)
            obtain ⟨rfl, C52, ha52, hD52, hA52, fa52⟩ := q52
            refine G.eqs [.int (v52)] rfl ?_
            refine G.go tv_X11_punch 2 102 [(0, .ref (gAd E (0))), (1, .int (a0)), (2, .int (a1)), (3, .int (a2)), (4, .int (v49)), (5, .int ((a1) + (a2))), (6, .int (v50)), (7, .int (((a1) + (a2)) / ((128 : Int32)))), (8, .int (v52))] [.ref (gAd E (0))] rfl ?_
            refine G.getf cls_X11 (0) 8 (by omega) (ha52.q0) (by decide) rfl (tbd tv_X11_punch rfl) w_571 ?_
            refine G.go tv_X11_punch 1 106 [(0, .ref (gAd E (0))), (1, .int (a0)), (2, .int (a1)), (3, .int (a2)), (4, .int (v49)), (5, .int ((a1) + (a2))), (6, .int (v50)), (7, .int (((a1) + (a2)) / ((128 : Int32)))), (8, .int (v52))] [.int (a0), .ref (gAd E (37))] rfl ?_
            obtain ⟨v53, hv53, hr⟩ := bnd_s hr
            refine G.callV (37) [.int (a0)] [] (k_X7_size E _ N B gr C52 D52 A52 hz ha52 hD52 hA52 a0 v53 hv53) cls_X7 (by omega) (ha52.q37) cw_X11_362 w_941 w_942 (Nat.le_of_ble_eq_true rfl) rfl (Nat.le_of_ble_eq_true rfl) (tbd tv_X11_punch rfl) (fun v53w f53 q53 => ?_) (fun _ _ h => h.elim)
            obtain ⟨rfl, ha53, fa53⟩ := q53
            refine G.eqs [.int (v53)] rfl ?_
            refine G.go tv_X11_punch 5 119 [(0, .ref (gAd E (0))), (1, .int (a0)), (2, .int (a1)), (3, .int (a2)), (4, .int (v49)), (5, .int ((a1) + (a2))), (6, .int (v50)), (7, .int (((a1) + (a2)) / ((128 : Int32)))), (8, .int (v52)), (9, .int (v53))] [.int ((v50) * ((128 : Int32))), .int ((a1) + (a2))] rfl ?_
            refine G.mmin w_213 w_214 w_150 w_215 (Nat.le_of_ble_eq_true rfl) (Nat.le_of_ble_eq_true rfl) (by show _ ≤ _; first | exact Nat.zero_le _ | exact Nat.le_of_ble_eq_true rfl) (by show _ ≤ _; first | exact Nat.zero_le _ | exact Nat.le_of_ble_eq_true rfl) (tbd tv_X11_punch rfl) ?_
            obtain ⟨v54, e54, hr⟩ := nm_s hr
            refine G.eq1 (b := v54) e54 ?_
            refine G.go tv_X11_punch 2 125 [(0, .ref (gAd E (0))), (1, .int (a0)), (2, .int (a1)), (3, .int (a2)), (4, .int (v49)), (5, .int ((a1) + (a2))), (6, .int (v50)), (7, .int (((a1) + (a2)) / ((128 : Int32)))), (8, .int (v52)), (9, .int (v53)), (10, .int (v54))] [.ref (gAd E (0))] rfl ?_
            refine G.getf cls_X11 (0) 11 (by omega) (ha53.q0) (by decide) rfl (tbd tv_X11_punch rfl) w_574 ?_
            refine G.go tv_X11_punch 4 134 [(0, .ref (gAd E (0))), (1, .int (a0)), (2, .int (a1)), (3, .int (a2)), (4, .int (v49)), (5, .int ((a1) + (a2))), (6, .int (v50)), (7, .int (((a1) + (a2)) / ((128 : Int32)))), (8, .int (v52)), (9, .int (v53)), (10, .int (v54))] [.int (v53), .int (v54), .int (a1), .int (a0), .ref (gAd E (41))] rfl ?_
            refine G.mmin w_213 w_214 w_150 w_215 (Nat.le_of_ble_eq_true rfl) (Nat.le_of_ble_eq_true rfl) (by show _ ≤ _; first | exact Nat.zero_le _ | exact Nat.le_of_ble_eq_true rfl) (by show _ ≤ _; first | exact Nat.zero_le _ | exact Nat.le_of_ble_eq_true rfl) (tbd tv_X11_punch rfl) ?_
            obtain ⟨v55, e55, hr⟩ := nm_s hr
            refine G.eq1 (b := v55) e55 ?_
            rcases bndF_s hr with ⟨v56, A56, D56, hv56, hr⟩ | ⟨ex56, A56, D56, hv56, rfl⟩
            rotate_left
            · skip
              refine G.callV (41) [.int (a0), .int (a1), .int (v55)] [] (k_X3_blank E _ N B gr C52 D52 A52 hz ha53 hD52 hA52 a0 a1 v55 _ hv56) cls_X3 (by omega) (ha53.q41) cw_X11_371 w_1642 w_1643 (Nat.le_of_ble_eq_true rfl) rfl (Nat.le_of_ble_eq_true rfl) (tbd tv_X11_punch rfl) (fun v56w f56 q56 => ?_) (fun X g q => FQ.fr q ((((((Fr.rf.tr fa48 (fun _ h => h)).tr fa49 (fun _ h => h)).tr fa50 (fun _ h => h)).tr fa51 (fun _ h => h)).tr fa52 (fun _ h => h)).tr fa53 (fun _ h => h)))
              exact q56.elim
            refine G.callV (41) [.int (a0), .int (a1), .int (v55)] [] (k_X3_blank E _ N B gr C52 D52 A52 hz ha53 hD52 hA52 a0 a1 v55 _ hv56) cls_X3 (by omega) (ha53.q41) cw_X11_371 w_1642 w_1643 (Nat.le_of_ble_eq_true rfl) rfl (Nat.le_of_ble_eq_true rfl) (tbd tv_X11_punch rfl) (fun v56w f56 q56 => ?_) (fun _ _ h => h.elim)
            obtain ⟨rfl, C56, ha56, hD56, hA56, fa56⟩ := q56
            refine G.eqs [] rfl ?_
            refine G.go tv_X11_punch 4 148 [(0, .ref (gAd E (0))), (1, .int (a0)), (2, .int (a1)), (3, .int (a2)), (4, .int (v49)), (5, .int ((a1) + (a2))), (6, .int (v50)), (7, .int (((a1) + (a2)) / ((128 : Int32)))), (8, .int (v52)), (9, .int (v53)), (10, .int (v54))] [.int (v54), .int ((((a1) + (a2)) / ((128 : Int32))) * ((128 : Int32)))] rfl ?_
            refine G.cmp_lt 172 (tbd tv_X11_punch rfl) (by decide) (fun c148 => ?_) (fun c148 => ?_)
            · replace hr := ite_t c148 hr
              refine G.go tv_X11_punch 1 173 [(0, .ref (gAd E (0))), (1, .int (a0)), (2, .int (a1)), (3, .int (a2)), (4, .int (v49)), (5, .int ((a1) + (a2))), (6, .int (v50)), (7, .int (((a1) + (a2)) / ((128 : Int32)))), (8, .int (v52)), (9, .int (v53)), (10, .int (v54))] [.ref (gAd E (0))] rfl ?_
              refine G.getf cls_X11 (0) 7 (by omega) (ha56.q0) (by decide) rfl (tbd tv_X11_punch rfl) w_570 ?_
              rcases bndF_s hr with ⟨v57, A57, D57, hv57, hr⟩ | ⟨ex57, A57, D57, hv57, rfl⟩
              rotate_left
              · skip
                refine G.callV (25) [] [] (k_X10_finish E _ N B gr C56 D56 A56 hz ha56 hD56 hA56 _ hv57) cls_X10 (by omega) (ha56.q25) cw_X11_244 w_1247 w_1248 (Nat.le_of_ble_eq_true rfl) rfl (Nat.le_of_ble_eq_true rfl) (tbd tv_X11_punch rfl) (fun v57w f57 q57 => ?_) (fun X g q => FQ.fr q (((((((Fr.rf.tr fa48 (fun _ h => h)).tr fa49 (fun _ h => h)).tr fa50 (fun _ h => h)).tr fa51 (fun _ h => h)).tr fa52 (fun _ h => h)).tr fa53 (fun _ h => h)).tr fa56 (fun _ h => h)))
                exact q57.elim
              refine G.callV (25) [] [] (k_X10_finish E _ N B gr C56 D56 A56 hz ha56 hD56 hA56 _ hv57) cls_X10 (by omega) (ha56.q25) cw_X11_244 w_1247 w_1248 (Nat.le_of_ble_eq_true rfl) rfl (Nat.le_of_ble_eq_true rfl) (tbd tv_X11_punch rfl) (fun v57w f57 q57 => ?_) (fun _ _ h => h.elim)
              obtain ⟨rfl, C57, ha57, hD57, hA57, fa57⟩ := q57
              refine G.eqs [] rfl ?_
              refine G.go tv_X11_punch 1 181 [(0, .ref (gAd E (0))), (1, .int (a0)), (2, .int (a1)), (3, .int (a2)), (4, .int (v49)), (5, .int ((a1) + (a2))), (6, .int (v50)), (7, .int (((a1) + (a2)) / ((128 : Int32)))), (8, .int (v52)), (9, .int (v53)), (10, .int (v54))] [.int (v52)] rfl ?_
              cases hr
              exact G.iret rfl rfl (FQ.ok rfl ⟨C57, ha57, hD57, hA57, ((((((((Fr.rf.tr fa48 (fun _ h => h)).tr fa49 (fun _ h => h)).tr fa50 (fun _ h => h)).tr fa51 (fun _ h => h)).tr fa52 (fun _ h => h)).tr fa53 (fun _ h => h)).tr fa56 (fun _ h => h)).tr fa57 (fun _ h => h))⟩) (tbd tv_X11_punch rfl)
            · replace hr := ite_f c148 hr
              refine G.go tv_X11_punch 1 152 [(0, .ref (gAd E (0))), (1, .int (a0)), (2, .int (a1)), (3, .int (a2)), (4, .int (v49)), (5, .int ((a1) + (a2))), (6, .int (v50)), (7, .int (((a1) + (a2)) / ((128 : Int32)))), (8, .int (v52)), (9, .int (v53)), (10, .int (v54))] [.ref (gAd E (0))] rfl ?_
              refine G.getf cls_X11 (0) 11 (by omega) (ha56.q0) (by decide) rfl (tbd tv_X11_punch rfl) w_574 ?_
              refine G.go tv_X11_punch 6 166 [(0, .ref (gAd E (0))), (1, .int (a0)), (2, .int (a1)), (3, .int (a2)), (4, .int (v49)), (5, .int ((a1) + (a2))), (6, .int (v50)), (7, .int (((a1) + (a2)) / ((128 : Int32)))), (8, .int (v52)), (9, .int (v53)), (10, .int (v54))] [.int (v53), .int ((a1) + (a2)), .int ((((a1) + (a2)) / ((128 : Int32))) * ((128 : Int32))), .int (a0), .ref (gAd E (41))] rfl ?_
              refine G.mmin w_213 w_214 w_150 w_215 (Nat.le_of_ble_eq_true rfl) (Nat.le_of_ble_eq_true rfl) (by show _ ≤ _; first | exact Nat.zero_le _ | exact Nat.le_of_ble_eq_true rfl) (by show _ ≤ _; first | exact Nat.zero_le _ | exact Nat.le_of_ble_eq_true rfl) (tbd tv_X11_punch rfl) ?_
              obtain ⟨v58, e58, hr⟩ := nm_s hr
              refine G.eq1 (b := v58) e58 ?_
              rcases bndF_s hr with ⟨v59, A59, D59, hv59, hr⟩ | ⟨ex59, A59, D59, hv59, rfl⟩
              rotate_left
              · skip
                refine G.callV (41) [.int (a0), .int ((((a1) + (a2)) / ((128 : Int32))) * ((128 : Int32))), .int (v58)] [] (k_X3_blank E _ N B gr C56 D56 A56 hz ha56 hD56 hA56 a0 ((((a1) + (a2)) / ((128 : Int32))) * ((128 : Int32))) v58 _ hv59) cls_X3 (by omega) (ha56.q41) cw_X11_371 w_1642 w_1643 (Nat.le_of_ble_eq_true rfl) rfl (Nat.le_of_ble_eq_true rfl) (tbd tv_X11_punch rfl) (fun v59w f59 q59 => ?_) (fun X g q => FQ.fr q (((((((Fr.rf.tr fa48 (fun _ h => h)).tr fa49 (fun _ h => h)).tr fa50 (fun _ h => h)).tr fa51 (fun _ h => h)).tr fa52 (fun _ h => h)).tr fa53 (fun _ h => h)).tr fa56 (fun _ h => h)))
                exact q59.elim
              refine G.callV (41) [.int (a0), .int ((((a1) + (a2)) / ((128 : Int32))) * ((128 : Int32))), .int (v58)] [] (k_X3_blank E _ N B gr C56 D56 A56 hz ha56 hD56 hA56 a0 ((((a1) + (a2)) / ((128 : Int32))) * ((128 : Int32))) v58 _ hv59) cls_X3 (by omega) (ha56.q41) cw_X11_371 w_1642 w_1643 (Nat.le_of_ble_eq_true rfl) rfl (Nat.le_of_ble_eq_true rfl) (tbd tv_X11_punch rfl) (fun v59w f59 q59 => ?_) (fun _ _ h => h.elim)
              obtain ⟨rfl, C59, ha59, hD59, hA59, fa59⟩ := q59
              refine G.eqs [] rfl ?_
              refine G.go tv_X11_punch 1 173 [(0, .ref (gAd E (0))), (1, .int (a0)), (2, .int (a1)), (3, .int (a2)), (4, .int (v49)), (5, .int ((a1) + (a2))), (6, .int (v50)), (7, .int (((a1) + (a2)) / ((128 : Int32)))), (8, .int (v52)), (9, .int (v53)), (10, .int (v54))] [.ref (gAd E (0))] rfl ?_
              refine G.getf cls_X11 (0) 7 (by omega) (ha59.q0) (by decide) rfl (tbd tv_X11_punch rfl) w_570 ?_
              rcases bndF_s hr with ⟨v60, A60, D60, hv60, hr⟩ | ⟨ex60, A60, D60, hv60, rfl⟩
              rotate_left
              · skip
                refine G.callV (25) [] [] (k_X10_finish E _ N B gr C59 D59 A59 hz ha59 hD59 hA59 _ hv60) cls_X10 (by omega) (ha59.q25) cw_X11_244 w_1247 w_1248 (Nat.le_of_ble_eq_true rfl) rfl (Nat.le_of_ble_eq_true rfl) (tbd tv_X11_punch rfl) (fun v60w f60 q60 => ?_) (fun X g q => FQ.fr q ((((((((Fr.rf.tr fa48 (fun _ h => h)).tr fa49 (fun _ h => h)).tr fa50 (fun _ h => h)).tr fa51 (fun _ h => h)).tr fa52 (fun _ h => h)).tr fa53 (fun _ h => h)).tr fa56 (fun _ h => h)).tr fa59 (fun _ h => h)))
                exact q60.elim
              refine G.callV (25) [] [] (k_X10_finish E _ N B gr C59 D59 A59 hz ha59 hD59 hA59 _ hv60) cls_X10 (by omega) (ha59.q25) cw_X11_244 w_1247 w_1248 (Nat.le_of_ble_eq_true rfl) rfl (Nat.le_of_ble_eq_true rfl) (tbd tv_X11_punch rfl) (fun v60w f60 q60 => ?_) (fun _ _ h => h.elim)
              obtain ⟨rfl, C60, ha60, hD60, hA60, fa60⟩ := q60
              refine G.eqs [] rfl ?_
              refine G.go tv_X11_punch 1 181 [(0, .ref (gAd E (0))), (1, .int (a0)), (2, .int (a1)), (3, .int (a2)), (4, .int (v49)), (5, .int ((a1) + (a2))), (6, .int (v50)), (7, .int (((a1) + (a2)) / ((128 : Int32)))), (8, .int (v52)), (9, .int (v53)), (10, .int (v54))] [.int (v52)] rfl ?_
              cases hr
              exact G.iret rfl rfl (FQ.ok rfl ⟨C60, ha60, hD60, hA60, (((((((((Fr.rf.tr fa48 (fun _ h => h)).tr fa49 (fun _ h => h)).tr fa50 (fun _ h => h)).tr fa51 (fun _ h => h)).tr fa52 (fun _ h => h)).tr fa53 (fun _ h => h)).tr fa56 (fun _ h => h)).tr fa59 (fun _ h => h)).tr fa60 (fun _ h => h))⟩) (tbd tv_X11_punch rfl)
          · replace hr := ite_f c78 hr
            refine G.go tv_X11_punch 1 83 [(0, .ref (gAd E (0))), (1, .int (a0)), (2, .int (a1)), (3, .int (a2)), (4, .int (v49)), (5, .int ((a1) + (a2))), (6, .int (v50)), (7, .int (((a1) + (a2)) / ((128 : Int32))))] [.int ((-12 : Int32))] rfl ?_
            cases hr
            exact G.iret rfl rfl (FQ.ok rfl ⟨C48, ha51, hD48, hA48, ((((Fr.rf.tr fa48 (fun _ h => h)).tr fa49 (fun _ h => h)).tr fa50 (fun _ h => h)).tr fa51 (fun _ h => h))⟩) (tbd tv_X11_punch rfl)
        · replace hr := ite_f c39 hr
          refine G.go tv_X11_punch 1 44 [(0, .ref (gAd E (0))), (1, .int (a0)), (2, .int (a1)), (3, .int (a2)), (4, .int (v49))] [.int ((-10 : Int32))] rfl ?_
          cases hr
          exact G.iret rfl rfl (FQ.ok rfl ⟨C48, ha49, hD48, hA48, ((Fr.rf.tr fa48 (fun _ h => h)).tr fa49 (fun _ h => h))⟩) (tbd tv_X11_punch rfl)
  · replace hr := ite_f c16 hr
    refine G.go tv_X11_punch 1 21 [(0, .ref (gAd E (0))), (1, .int (a0)), (2, .int (a1)), (3, .int (a2)), (4, .int (v49))] [.int (v49)] rfl ?_
    cases hr
    exact G.iret rfl rfl (FQ.ok rfl ⟨C48, ha49, hD48, hA48, ((Fr.rf.tr fa48 (fun _ h => h)).tr fa49 (fun _ h => h))⟩) (tbd tv_X11_punch rfl)
noncomputable def d_X11_hold (N B gr : Nat) (A : MS) (D : CfT) (a0 : Int32) : Option (FR Int32) := bndF (d_X11_needMounted N B gr A D) (fun v61 A61 D61 => bnd (d_X7_kind N (vA A61) D61 a0) (fun v62 => if v62 = 0 then some (.inl ((-11 : Int32), A61, D61)) else ld (cA D61 33) 65 a0 (fun v63 => if v63 < ((100 : Int32)) then ld (cA D61 33) 65 a0 (fun v64 => stA D61 33 65 a0 ((v64) + ((1 : Int32))) (fun D65 => ld (cA D65 33) 65 a0 (fun v66 => some (.inl (v66, A61, D65))))) else some (.inl ((-9 : Int32), A61, D61)))))
set_option maxRecDepth 100000 in
set_option maxHeartbeats 4000000 in
theorem k_X11_hold (E : gE) (f : Nat → va_E) (N B gr : Nat) (C D : CfT) (A : MS) (hz : CfZ E N B gr) (h : CfV E f N B gr C) (hD : Dq D C) (hA : AR N B gr A C) (a0 : Int32) (r : FR Int32) (hr : d_X11_hold N B gr A D a0 = some r) : Ct E 8 yX11_hold cX11_hold 2 (some .int) [.ref (gAd E (0)), .int (a0)] f (FQ E N B gr f (fun r => some (.int r)) r) := by
  obtain ⟨z1, z2, z3, z4, z5, z6, z7⟩ := id hz
  refine Ct.of (by decide) (Nat.le_of_ble_eq_true rfl) (fun sz => ?_)
  refine G.eql [(0, .ref (gAd E (0))), (1, .int (a0))] rfl ?_
  unfold d_X11_hold at hr
  refine G.go tv_X11_hold 1 1 [(0, .ref (gAd E (0))), (1, .int (a0))] [.ref (gAd E (0))] rfl ?_
  rcases bndF_s hr with ⟨v61, A61, D61, hv61, hr⟩ | ⟨ex61, A61, D61, hv61, rfl⟩
  rotate_left
  · skip
    refine G.callV (0) [] [] (k_X11_needMounted E _ N B gr C D A hz h hD hA _ hv61) cls_X11 (by omega) (h.q0) cw_X11_221 w_1320 w_27 (Nat.le_of_ble_eq_true rfl) rfl (Nat.le_of_ble_eq_true rfl) (tbd tv_X11_hold rfl) (fun v61w f61 q61 => ?_) (fun X g q => FQ.fr q Fr.rf)
    exact q61.elim
  refine G.callV (0) [] [] (k_X11_needMounted E _ N B gr C D A hz h hD hA _ hv61) cls_X11 (by omega) (h.q0) cw_X11_221 w_1320 w_27 (Nat.le_of_ble_eq_true rfl) rfl (Nat.le_of_ble_eq_true rfl) (tbd tv_X11_hold rfl) (fun v61w f61 q61 => ?_) (fun _ _ h => h.elim)
  obtain ⟨rfl, C61, ha61, hD61, hA61, fa61⟩ := q61
  refine G.eqs [] rfl ?_
  refine G.go tv_X11_hold 1 5 [(0, .ref (gAd E (0))), (1, .int (a0))] [.ref (gAd E (0))] rfl ?_
  refine G.getf cls_X11 (0) 8 (by omega) (ha61.q0) (by decide) rfl (tbd tv_X11_hold rfl) w_571 ?_
  refine G.go tv_X11_hold 1 9 [(0, .ref (gAd E (0))), (1, .int (a0))] [.int (a0), .ref (gAd E (37))] rfl ?_
  obtain ⟨v62, hv62, hr⟩ := bnd_s hr
  refine G.callV (37) [.int (a0)] [] (k_X7_kind E _ N B gr C61 D61 A61 hz ha61 hD61 hA61 a0 v62 hv62) cls_X7 (by omega) (ha61.q37) cw_X11_250 w_903 w_904 (Nat.le_of_ble_eq_true rfl) rfl (Nat.le_of_ble_eq_true rfl) (tbd tv_X11_hold rfl) (fun v62w f62 q62 => ?_) (fun _ _ h => h.elim)
  obtain ⟨rfl, ha62, fa62⟩ := q62
  refine G.eqs [.int (v62)] rfl ?_
  refine G.if_ne 18 (tbd tv_X11_hold rfl) (by decide) (fun c12 => ?_) (fun c12 => ?_)
  · replace hr := ite_f c12 hr
    refine G.go tv_X11_hold 1 19 [(0, .ref (gAd E (0))), (1, .int (a0))] [.ref (gAd E (0))] rfl ?_
    refine G.getf cls_X11 (0) 9 (by omega) (ha62.q0) (by decide) rfl (tbd tv_X11_hold rfl) w_572 ?_
    refine G.getf cls_X5 (32) 0 (by omega) (ha62.q32) (by decide) rfl (tbd tv_X11_hold rfl) w_456 ?_
    refine G.go tv_X11_hold 1 26 [(0, .ref (gAd E (0))), (1, .int (a0))] [.int (a0), .ref (gAd E (33))] rfl ?_
    obtain ⟨v63, b63, e63, hr⟩ := ld_s hr
    refine G.ialdE (33) (by omega) ((ha62.q33).trans (congrArg (oI (gDA E) (65)) (hD61.2 33 (by decide)))) b63 e63 (tbd tv_X11_hold rfl) ?_
    refine G.go tv_X11_hold 1 29 [(0, .ref (gAd E (0))), (1, .int (a0))] [.int ((100 : Int32)), .int (v63)] rfl ?_
    refine G.cmp_lt 35 (tbd tv_X11_hold rfl) (by decide) (fun c29 => ?_) (fun c29 => ?_)
    · replace hr := ite_t c29 hr
      refine G.go tv_X11_hold 1 36 [(0, .ref (gAd E (0))), (1, .int (a0))] [.ref (gAd E (0))] rfl ?_
      refine G.getf cls_X11 (0) 9 (by omega) (ha62.q0) (by decide) rfl (tbd tv_X11_hold rfl) w_572 ?_
      refine G.getf cls_X5 (32) 0 (by omega) (ha62.q32) (by decide) rfl (tbd tv_X11_hold rfl) w_456 ?_
      refine G.go tv_X11_hold 2 44 [(0, .ref (gAd E (0))), (1, .int (a0))] [.int (a0), .ref (gAd E (33)), .int (a0), .ref (gAd E (33))] rfl ?_
      obtain ⟨v64, b64, e64, hr⟩ := ld_s hr
      refine G.ialdE (33) (by omega) ((ha62.q33).trans (congrArg (oI (gDA E) (65)) (hD61.2 33 (by decide)))) b64 e64 (tbd tv_X11_hold rfl) ?_
      refine G.go tv_X11_hold 2 47 [(0, .ref (gAd E (0))), (1, .int (a0))] [.int ((v64) + ((1 : Int32))), .int (a0), .ref (gAd E (33))] rfl ?_
      obtain ⟨D65, b65, eD65, hr⟩ := stA_s hr
      refine G.iast (33) (by omega) (ha62.q33) b65 (tbd tv_X11_hold rfl) ?_
      refine G.gen (P := SN E N B gr f A61 D65) ⟨sA C61 33 (upd (cA C61 33) a0.toNatClampNeg ((v64) + ((1 : Int32)))), ha62.p33 _, (by rw [eD65]; exact hD61.au (by decide)), hA61.sm (Sd.a (by decide) : Sd C61 (sA C61 33 (upd (cA C61 33) a0.toNatClampNeg ((v64) + ((1 : Int32)))))), Fr.c ((Fr.rf.tr fa61 (fun _ h => h)).tr fa62 (fun _ h => h)) (by first | exact Or.inl (by decide) | exact Or.inr (by omega))⟩ (fun u65 p65 => ?_)
      obtain ⟨C65, h65, hD65, hA65, k65⟩ := p65
      refine G.go tv_X11_hold 1 49 [(0, .ref (gAd E (0))), (1, .int (a0))] [.ref (gAd E (0))] rfl ?_
      refine G.getf cls_X11 (0) 9 (by omega) (h65.q0) (by decide) rfl (tbd tv_X11_hold rfl) w_572 ?_
      refine G.getf cls_X5 (32) 0 (by omega) (h65.q32) (by decide) rfl (tbd tv_X11_hold rfl) w_456 ?_
      refine G.go tv_X11_hold 1 56 [(0, .ref (gAd E (0))), (1, .int (a0))] [.int (a0), .ref (gAd E (33))] rfl ?_
      obtain ⟨v66, b66, e66, hr⟩ := ld_s hr
      refine G.ialdE (33) (by omega) ((h65.q33).trans (congrArg (oI (gDA E) (65)) (hD65.2 33 (by decide)))) b66 e66 (tbd tv_X11_hold rfl) ?_
      cases hr
      exact G.iret rfl rfl (FQ.ok rfl ⟨C65, h65, hD65, hA65, k65⟩) (tbd tv_X11_hold rfl)
    · replace hr := ite_f c29 hr
      refine G.go tv_X11_hold 1 34 [(0, .ref (gAd E (0))), (1, .int (a0))] [.int ((-9 : Int32))] rfl ?_
      cases hr
      exact G.iret rfl rfl (FQ.ok rfl ⟨C61, ha62, hD61, hA61, ((Fr.rf.tr fa61 (fun _ h => h)).tr fa62 (fun _ h => h))⟩) (tbd tv_X11_hold rfl)
  · replace hr := ite_t c12 hr
    refine G.go tv_X11_hold 1 17 [(0, .ref (gAd E (0))), (1, .int (a0))] [.int ((-11 : Int32))] rfl ?_
    cases hr
    exact G.iret rfl rfl (FQ.ok rfl ⟨C61, ha62, hD61, hA61, ((Fr.rf.tr fa61 (fun _ h => h)).tr fa62 (fun _ h => h))⟩) (tbd tv_X11_hold rfl)
theorem w_1681 : Cond.methodLink "LedgerFiles" 387 yX11_goIfForsaken ∈ TB := tp_7 95 (by decide +kernel) rfl
theorem w_1684 : Cond.code yX11_goIfForsaken prog_1_method_34_code 2 none ∈ TB := tp_7 98 rfl rfl
theorem cw_X11_387 : Cw RX11 387 yX11_goIfForsaken cX11_goIfForsaken 2 none 1 := ⟨w_1681, w_1684, w_147, by decide +kernel, by decide +kernel, by decide⟩
theorem w_1683 : Cond.instanceMethod yX11_goIfForsaken ∈ TB := tp_7 97 (by decide +kernel) rfl
theorem w_40 : Cond.selects "LedgerFiles" yX11_goIfForsaken yX11_goIfForsaken ∈ TB := tp_0 40 (by decide +kernel) rfl
noncomputable def d_X11_release (N B gr : Nat) (A : MS) (D : CfT) (a0 : Int32) : Option (FR Int32) := bndF (d_X11_needMounted N B gr A D) (fun v67 A67 D67 => bnd (d_X7_kind N (vA A67) D67 a0) (fun v68 => if v68 = 0 then some (.inl ((-11 : Int32), A67, D67)) else ld (cA D67 33) 65 a0 (fun v69 => if v69 = 0 then some (.inl ((-9 : Int32), A67, D67)) else ld (cA D67 33) 65 a0 (fun v70 => stA D67 33 65 a0 ((v70) - ((1 : Int32))) (fun D71 => ld (cA D71 33) 65 a0 (fun v72 => bndF (d_X11_goIfForsaken N B gr A67 D71 a0) (fun v73 A73 D73 => some (.inl (v72, A73, D73)))))))))
set_option maxRecDepth 100000 in
set_option maxHeartbeats 4000000 in
theorem k_X11_release (E : gE) (f : Nat → va_E) (N B gr : Nat) (C D : CfT) (A : MS) (hz : CfZ E N B gr) (h : CfV E f N B gr C) (hD : Dq D C) (hA : AR N B gr A C) (a0 : Int32) (r : FR Int32) (hr : d_X11_release N B gr A D a0 = some r) : Ct E 13 yX11_release cX11_release 3 (some .int) [.ref (gAd E (0)), .int (a0)] f (FQ E N B gr f (fun r => some (.int r)) r) := by
  obtain ⟨z1, z2, z3, z4, z5, z6, z7⟩ := id hz
  refine Ct.of (by decide) (Nat.le_of_ble_eq_true rfl) (fun sz => ?_)
  refine G.eql [(0, .ref (gAd E (0))), (1, .int (a0))] rfl ?_
  unfold d_X11_release at hr
  refine G.go tv_X11_release 1 1 [(0, .ref (gAd E (0))), (1, .int (a0))] [.ref (gAd E (0))] rfl ?_
  rcases bndF_s hr with ⟨v67, A67, D67, hv67, hr⟩ | ⟨ex67, A67, D67, hv67, rfl⟩
  rotate_left
  · skip
    refine G.callV (0) [] [] (k_X11_needMounted E _ N B gr C D A hz h hD hA _ hv67) cls_X11 (by omega) (h.q0) cw_X11_221 w_1320 w_27 (Nat.le_of_ble_eq_true rfl) rfl (Nat.le_of_ble_eq_true rfl) (tbd tv_X11_release rfl) (fun v67w f67 q67 => ?_) (fun X g q => FQ.fr q Fr.rf)
    exact q67.elim
  refine G.callV (0) [] [] (k_X11_needMounted E _ N B gr C D A hz h hD hA _ hv67) cls_X11 (by omega) (h.q0) cw_X11_221 w_1320 w_27 (Nat.le_of_ble_eq_true rfl) rfl (Nat.le_of_ble_eq_true rfl) (tbd tv_X11_release rfl) (fun v67w f67 q67 => ?_) (fun _ _ h => h.elim)
  obtain ⟨rfl, C67, ha67, hD67, hA67, fa67⟩ := q67
  refine G.eqs [] rfl ?_
  refine G.go tv_X11_release 1 5 [(0, .ref (gAd E (0))), (1, .int (a0))] [.ref (gAd E (0))] rfl ?_
  refine G.getf cls_X11 (0) 8 (by omega) (ha67.q0) (by decide) rfl (tbd tv_X11_release rfl) w_571 ?_
  refine G.go tv_X11_release 1 9 [(0, .ref (gAd E (0))), (1, .int (a0))] [.int (a0), .ref (gAd E (37))] rfl ?_
  obtain ⟨v68, hv68, hr⟩ := bnd_s hr
  refine G.callV (37) [.int (a0)] [] (k_X7_kind E _ N B gr C67 D67 A67 hz ha67 hD67 hA67 a0 v68 hv68) cls_X7 (by omega) (ha67.q37) cw_X11_250 w_903 w_904 (Nat.le_of_ble_eq_true rfl) rfl (Nat.le_of_ble_eq_true rfl) (tbd tv_X11_release rfl) (fun v68w f68 q68 => ?_) (fun _ _ h => h.elim)
  obtain ⟨rfl, ha68, fa68⟩ := q68
  refine G.eqs [.int (v68)] rfl ?_
  refine G.if_ne 18 (tbd tv_X11_release rfl) (by decide) (fun c12 => ?_) (fun c12 => ?_)
  · replace hr := ite_f c12 hr
    refine G.go tv_X11_release 1 19 [(0, .ref (gAd E (0))), (1, .int (a0))] [.ref (gAd E (0))] rfl ?_
    refine G.getf cls_X11 (0) 9 (by omega) (ha68.q0) (by decide) rfl (tbd tv_X11_release rfl) w_572 ?_
    refine G.getf cls_X5 (32) 0 (by omega) (ha68.q32) (by decide) rfl (tbd tv_X11_release rfl) w_456 ?_
    refine G.go tv_X11_release 1 26 [(0, .ref (gAd E (0))), (1, .int (a0))] [.int (a0), .ref (gAd E (33))] rfl ?_
    obtain ⟨v69, b69, e69, hr⟩ := ld_s hr
    refine G.ialdE (33) (by omega) ((ha68.q33).trans (congrArg (oI (gDA E) (65)) (hD67.2 33 (by decide)))) b69 e69 (tbd tv_X11_release rfl) ?_
    refine G.if_ne 33 (tbd tv_X11_release rfl) (by decide) (fun c27 => ?_) (fun c27 => ?_)
    · replace hr := ite_f c27 hr
      refine G.go tv_X11_release 1 34 [(0, .ref (gAd E (0))), (1, .int (a0))] [.ref (gAd E (0))] rfl ?_
      refine G.getf cls_X11 (0) 9 (by omega) (ha68.q0) (by decide) rfl (tbd tv_X11_release rfl) w_572 ?_
      refine G.getf cls_X5 (32) 0 (by omega) (ha68.q32) (by decide) rfl (tbd tv_X11_release rfl) w_456 ?_
      refine G.go tv_X11_release 2 42 [(0, .ref (gAd E (0))), (1, .int (a0))] [.int (a0), .ref (gAd E (33)), .int (a0), .ref (gAd E (33))] rfl ?_
      obtain ⟨v70, b70, e70, hr⟩ := ld_s hr
      refine G.ialdE (33) (by omega) ((ha68.q33).trans (congrArg (oI (gDA E) (65)) (hD67.2 33 (by decide)))) b70 e70 (tbd tv_X11_release rfl) ?_
      refine G.go tv_X11_release 2 45 [(0, .ref (gAd E (0))), (1, .int (a0))] [.int ((v70) - ((1 : Int32))), .int (a0), .ref (gAd E (33))] rfl ?_
      obtain ⟨D71, b71, eD71, hr⟩ := stA_s hr
      refine G.iast (33) (by omega) (ha68.q33) b71 (tbd tv_X11_release rfl) ?_
      refine G.gen (P := SN E N B gr f A67 D71) ⟨sA C67 33 (upd (cA C67 33) a0.toNatClampNeg ((v70) - ((1 : Int32)))), ha68.p33 _, (by rw [eD71]; exact hD67.au (by decide)), hA67.sm (Sd.a (by decide) : Sd C67 (sA C67 33 (upd (cA C67 33) a0.toNatClampNeg ((v70) - ((1 : Int32)))))), Fr.c ((Fr.rf.tr fa67 (fun _ h => h)).tr fa68 (fun _ h => h)) (by first | exact Or.inl (by decide) | exact Or.inr (by omega))⟩ (fun u71 p71 => ?_)
      obtain ⟨C71, h71, hD71, hA71, k71⟩ := p71
      refine G.go tv_X11_release 1 47 [(0, .ref (gAd E (0))), (1, .int (a0))] [.ref (gAd E (0))] rfl ?_
      refine G.getf cls_X11 (0) 9 (by omega) (h71.q0) (by decide) rfl (tbd tv_X11_release rfl) w_572 ?_
      refine G.getf cls_X5 (32) 0 (by omega) (h71.q32) (by decide) rfl (tbd tv_X11_release rfl) w_456 ?_
      refine G.go tv_X11_release 1 54 [(0, .ref (gAd E (0))), (1, .int (a0))] [.int (a0), .ref (gAd E (33))] rfl ?_
      obtain ⟨v72, b72, e72, hr⟩ := ld_s hr
      refine G.ialdE (33) (by omega) ((h71.q33).trans (congrArg (oI (gDA E) (65)) (hD71.2 33 (by decide)))) b72 e72 (tbd tv_X11_release rfl) ?_
      refine G.go tv_X11_release 3 58 [(0, .ref (gAd E (0))), (1, .int (a0)), (2, .int (v72))] [.int (a0), .ref (gAd E (0))] rfl ?_
      rcases bndF_s hr with ⟨v73, A73, D73, hv73, hr⟩ | ⟨ex73, A73, D73, hv73, rfl⟩
      rotate_left
      · skip
        refine G.callV (0) [.int (a0)] [] (k_X11_goIfForsaken E _ N B gr C71 D71 A67 hz h71 hD71 hA71 a0 _ hv73) cls_X11 (by omega) (h71.q0) cw_X11_387 w_1683 w_40 (Nat.le_of_ble_eq_true rfl) rfl (Nat.le_of_ble_eq_true rfl) (tbd tv_X11_release rfl) (fun v73w f73 q73 => ?_) (fun X g q => FQ.fr q k71)
        exact q73.elim
      refine G.callV (0) [.int (a0)] [] (k_X11_goIfForsaken E _ N B gr C71 D71 A67 hz h71 hD71 hA71 a0 _ hv73) cls_X11 (by omega) (h71.q0) cw_X11_387 w_1683 w_40 (Nat.le_of_ble_eq_true rfl) rfl (Nat.le_of_ble_eq_true rfl) (tbd tv_X11_release rfl) (fun v73w f73 q73 => ?_) (fun _ _ h => h.elim)
      obtain ⟨rfl, C73, ha73, hD73, hA73, fa73⟩ := q73
      refine G.eqs [] rfl ?_
      refine G.go tv_X11_release 1 62 [(0, .ref (gAd E (0))), (1, .int (a0)), (2, .int (v72))] [.int (v72)] rfl ?_
      cases hr
      exact G.iret rfl rfl (FQ.ok rfl ⟨C73, ha73, hD73, hA73, (k71.tr fa73 (fun _ h => h))⟩) (tbd tv_X11_release rfl)
    · replace hr := ite_t c27 hr
      refine G.go tv_X11_release 1 32 [(0, .ref (gAd E (0))), (1, .int (a0))] [.int ((-9 : Int32))] rfl ?_
      cases hr
      exact G.iret rfl rfl (FQ.ok rfl ⟨C67, ha68, hD67, hA67, ((Fr.rf.tr fa67 (fun _ h => h)).tr fa68 (fun _ h => h))⟩) (tbd tv_X11_release rfl)
  · replace hr := ite_t c12 hr
    refine G.go tv_X11_release 1 17 [(0, .ref (gAd E (0))), (1, .int (a0))] [.int ((-11 : Int32))] rfl ?_
    cases hr
    exact G.iret rfl rfl (FQ.ok rfl ⟨C67, ha68, hD67, hA67, ((Fr.rf.tr fa67 (fun _ h => h)).tr fa68 (fun _ h => h))⟩) (tbd tv_X11_release rfl)
theorem w_1692 : Cond.methodLink "LedgerFiles" 390 yX3_byteOf ∈ TB := tp_7 106 (by decide +kernel) rfl
theorem w_1695 : Cond.code yX3_byteOf prog_5_method_6_code 4 (some .int) ∈ TB := tp_7 109 rfl rfl
theorem cw_X11_390 : Cw RX11 390 yX3_byteOf cX3_byteOf 4 (some .int) 2 := ⟨w_1692, w_1695, w_159, by decide +kernel, by decide +kernel, by decide⟩
theorem w_1693 : Cond.instanceMethod yX3_byteOf ∈ TB := tp_7 107 (by decide +kernel) rfl
theorem w_1694 : Cond.selects "LedgerFiles$Files" yX3_byteOf yX3_byteOf ∈ TB := tp_7 108 (by decide +kernel) rfl
noncomputable def d_X11_read (N B gr : Nat) (A : MS) (D : CfT) (a0 : Int32) (a1 : Int32) : Option (FR Int32) := bndF (d_X11_needMounted N B gr A D) (fun v74 A74 D74 => bnd (d_X7_kind N (vA A74) D74 a0) (fun v75 => if v75 = ((1 : Int32)) then bnd (d_X3_byteOf N (vA A74) D74 a0 a1) (fun v76 => some (.inl (v76, A74, D74))) else some (.inl ((-1 : Int32), A74, D74))))
set_option maxRecDepth 100000 in
set_option maxHeartbeats 4000000 in
theorem k_X11_read (E : gE) (f : Nat → va_E) (N B gr : Nat) (C D : CfT) (A : MS) (hz : CfZ E N B gr) (h : CfV E f N B gr C) (hD : Dq D C) (hA : AR N B gr A C) (a0 : Int32) (a1 : Int32) (r : FR Int32) (hr : d_X11_read N B gr A D a0 a1 = some r) : Ct E 8 yX11_read cX11_read 3 (some .int) [.ref (gAd E (0)), .int (a0), .int (a1)] f (FQ E N B gr f (fun r => some (.int r)) r) := by
  obtain ⟨z1, z2, z3, z4, z5, z6, z7⟩ := id hz
  refine Ct.of (by decide) (Nat.le_of_ble_eq_true rfl) (fun sz => ?_)
  refine G.eql [(0, .ref (gAd E (0))), (1, .int (a0)), (2, .int (a1))] rfl ?_
  unfold d_X11_read at hr
  refine G.go tv_X11_read 1 1 [(0, .ref (gAd E (0))), (1, .int (a0)), (2, .int (a1))] [.ref (gAd E (0))] rfl ?_
  rcases bndF_s hr with ⟨v74, A74, D74, hv74, hr⟩ | ⟨ex74, A74, D74, hv74, rfl⟩
  rotate_left
  · skip
    refine G.callV (0) [] [] (k_X11_needMounted E _ N B gr C D A hz h hD hA _ hv74) cls_X11 (by omega) (h.q0) cw_X11_221 w_1320 w_27 (Nat.le_of_ble_eq_true rfl) rfl (Nat.le_of_ble_eq_true rfl) (tbd tv_X11_read rfl) (fun v74w f74 q74 => ?_) (fun X g q => FQ.fr q Fr.rf)
    exact q74.elim
  refine G.callV (0) [] [] (k_X11_needMounted E _ N B gr C D A hz h hD hA _ hv74) cls_X11 (by omega) (h.q0) cw_X11_221 w_1320 w_27 (Nat.le_of_ble_eq_true rfl) rfl (Nat.le_of_ble_eq_true rfl) (tbd tv_X11_read rfl) (fun v74w f74 q74 => ?_) (fun _ _ h => h.elim)
  obtain ⟨rfl, C74, ha74, hD74, hA74, fa74⟩ := q74
  refine G.eqs [] rfl ?_
  refine G.go tv_X11_read 1 5 [(0, .ref (gAd E (0))), (1, .int (a0)), (2, .int (a1))] [.ref (gAd E (0))] rfl ?_
  refine G.getf cls_X11 (0) 8 (by omega) (ha74.q0) (by decide) rfl (tbd tv_X11_read rfl) w_571 ?_
  refine G.go tv_X11_read 1 9 [(0, .ref (gAd E (0))), (1, .int (a0)), (2, .int (a1))] [.int (a0), .ref (gAd E (37))] rfl ?_
  obtain ⟨v75, hv75, hr⟩ := bnd_s hr
  refine G.callV (37) [.int (a0)] [] (k_X7_kind E _ N B gr C74 D74 A74 hz ha74 hD74 hA74 a0 v75 hv75) cls_X7 (by omega) (ha74.q37) cw_X11_250 w_903 w_904 (Nat.le_of_ble_eq_true rfl) rfl (Nat.le_of_ble_eq_true rfl) (tbd tv_X11_read rfl) (fun v75w f75 q75 => ?_) (fun _ _ h => h.elim)
  obtain ⟨rfl, ha75, fa75⟩ := q75
  refine G.eqs [.int (v75)] rfl ?_
  refine G.go tv_X11_read 1 13 [(0, .ref (gAd E (0))), (1, .int (a0)), (2, .int (a1))] [.int ((1 : Int32)), .int (v75)] rfl ?_
  refine G.cmp_ne 28 (tbd tv_X11_read rfl) (by decide) (fun c13 => ?_) (fun c13 => ?_)
  · replace hr := ite_f c13 hr
    refine G.go tv_X11_read 1 29 [(0, .ref (gAd E (0))), (1, .int (a0)), (2, .int (a1))] [.int ((-1 : Int32))] rfl ?_
    cases hr
    exact G.iret rfl rfl (FQ.ok rfl ⟨C74, ha75, hD74, hA74, ((Fr.rf.tr fa74 (fun _ h => h)).tr fa75 (fun _ h => h))⟩) (tbd tv_X11_read rfl)
  · replace hr := ite_t c13 hr
    refine G.go tv_X11_read 1 17 [(0, .ref (gAd E (0))), (1, .int (a0)), (2, .int (a1))] [.ref (gAd E (0))] rfl ?_
    refine G.getf cls_X11 (0) 11 (by omega) (ha75.q0) (by decide) rfl (tbd tv_X11_read rfl) w_574 ?_
    refine G.go tv_X11_read 2 22 [(0, .ref (gAd E (0))), (1, .int (a0)), (2, .int (a1))] [.int (a1), .int (a0), .ref (gAd E (41))] rfl ?_
    obtain ⟨v76, hv76, hr⟩ := bnd_s hr
    refine G.callV (41) [.int (a0), .int (a1)] [] (k_X3_byteOf E _ N B gr C74 D74 A74 hz ha75 hD74 hA74 a0 a1 v76 hv76) cls_X3 (by omega) (ha75.q41) cw_X11_390 w_1693 w_1694 (Nat.le_of_ble_eq_true rfl) rfl (Nat.le_of_ble_eq_true rfl) (tbd tv_X11_read rfl) (fun v76w f76 q76 => ?_) (fun _ _ h => h.elim)
    obtain ⟨rfl, ha76, fa76⟩ := q76
    refine G.eqs [.int (v76)] rfl ?_
    refine G.go tv_X11_read 1 29 [(0, .ref (gAd E (0))), (1, .int (a0)), (2, .int (a1))] [.int (v76)] rfl ?_
    cases hr
    exact G.iret rfl rfl (FQ.ok rfl ⟨C74, ha76, hD74, hA74, (((Fr.rf.tr fa74 (fun _ h => h)).tr fa75 (fun _ h => h)).tr fa76 (fun _ h => h))⟩) (tbd tv_X11_read rfl)
theorem w_1704 : Cond.methodLink "LedgerFiles" 395 yX7_markOf ∈ TB := tp_7 118 (by decide +kernel) rfl
theorem cw_X11_395 : Cw RX11 395 yX7_markOf cX7_markOf 2 (some .int) 1 := ⟨w_1704, w_1565, w_157, by decide +kernel, by decide +kernel, by decide⟩
theorem w_1705 : Cond.methodLink "LedgerFiles" 398 yX7_blocksAndTables ∈ TB := tp_7 119 (by decide +kernel) rfl
theorem w_1708 : Cond.code yX7_blocksAndTables prog_9_method_35_code 5 (some .int) ∈ TB := tp_7 122 rfl rfl
theorem cw_X11_398 : Cw RX11 398 yX7_blocksAndTables cX7_blocksAndTables 5 (some .int) 1 := ⟨w_1705, w_1708, w_157, by decide +kernel, by decide +kernel, by decide⟩
theorem w_1706 : Cond.instanceMethod yX7_blocksAndTables ∈ TB := tp_7 120 (by decide +kernel) rfl
theorem w_1707 : Cond.selects "LedgerFiles$Nodes" yX7_blocksAndTables yX7_blocksAndTables ∈ TB := tp_7 121 (by decide +kernel) rfl
noncomputable def d_X11_about (N B gr : Nat) (A : MS) (D : CfT) (a0 : Int32) (a1 : Int32) : Option (FR Int32) := bndF (d_X11_needMounted N B gr A D) (fun v77 A77 D77 => if a1 < 0 then some (.inr (2, A77, D77)) else if a1 ≤ ((6 : Int32)) then bnd (d_X7_kind N (vA A77) D77 a0) (fun v78 => if v78 = 0 then some (.inl ((-11 : Int32), A77, D77)) else if a1 = (0 : Int32) then some (.inl (v78, A77, D77)) else if a1 = (1 : Int32) then bnd (d_X7_size N (vA A77) D77 a0) (fun v79 => some (.inl (v79, A77, D77))) else if a1 = (2 : Int32) then bnd (d_X7_markOf N (vA A77) D77 a0) (fun v80 => some (.inl (v80, A77, D77))) else if a1 = (3 : Int32) then bnd2 (d_X7_blocksAndTables N (vA A77) D77 a0) (fun v81 D81 => some (.inl (v81, A77, D81))) else if a1 = (4 : Int32) then bnd (d_X4_names N (vA A77) D77 a0) (fun v82 => some (.inl (v82, A77, D77))) else if a1 = (5 : Int32) then bnd (d_X7_links N (vA A77) D77 a0) (fun v83 => some (.inl (v83, A77, D77))) else bnd (d_X5_times N (vA A77) D77 a0) (fun v84 => some (.inl (v84, A77, D77)))) else some (.inr (2, A77, D77)))
set_option maxRecDepth 100000 in
set_option maxHeartbeats 4000000 in
theorem k_X11_about (E : gE) (f : Nat → va_E) (N B gr : Nat) (C D : CfT) (A : MS) (hz : CfZ E N B gr) (h : CfV E f N B gr C) (hD : Dq D C) (hA : AR N B gr A C) (a0 : Int32) (a1 : Int32) (r : FR Int32) (hr : d_X11_about N B gr A D a0 a1 = some r) : Ct E 8 yX11_about cX11_about 4 (some .int) [.ref (gAd E (0)), .int (a0), .int (a1)] f (FQ E N B gr f (fun r => some (.int r)) r) := by
  obtain ⟨z1, z2, z3, z4, z5, z6, z7⟩ := id hz
  refine Ct.of (by decide) (Nat.le_of_ble_eq_true rfl) (fun sz => ?_)
  refine G.eql [(0, .ref (gAd E (0))), (1, .int (a0)), (2, .int (a1))] rfl ?_
  unfold d_X11_about at hr
  refine G.go tv_X11_about 1 1 [(0, .ref (gAd E (0))), (1, .int (a0)), (2, .int (a1))] [.ref (gAd E (0))] rfl ?_
  rcases bndF_s hr with ⟨v77, A77, D77, hv77, hr⟩ | ⟨ex77, A77, D77, hv77, rfl⟩
  rotate_left
  · skip
    refine G.callV (0) [] [] (k_X11_needMounted E _ N B gr C D A hz h hD hA _ hv77) cls_X11 (by omega) (h.q0) cw_X11_221 w_1320 w_27 (Nat.le_of_ble_eq_true rfl) rfl (Nat.le_of_ble_eq_true rfl) (tbd tv_X11_about rfl) (fun v77w f77 q77 => ?_) (fun X g q => FQ.fr q Fr.rf)
    exact q77.elim
  refine G.callV (0) [] [] (k_X11_needMounted E _ N B gr C D A hz h hD hA _ hv77) cls_X11 (by omega) (h.q0) cw_X11_221 w_1320 w_27 (Nat.le_of_ble_eq_true rfl) rfl (Nat.le_of_ble_eq_true rfl) (tbd tv_X11_about rfl) (fun v77w f77 q77 => ?_) (fun _ _ h => h.elim)
  obtain ⟨rfl, C77, ha77, hD77, hA77, fa77⟩ := q77
  refine G.eqs [] rfl ?_
  refine G.go tv_X11_about 1 5 [(0, .ref (gAd E (0))), (1, .int (a0)), (2, .int (a1))] [.int (a1)] rfl ?_
  refine G.if_lt 14 (tbd tv_X11_about rfl) (by decide) (fun c5 => ?_) (fun c5 => ?_)
  · replace hr := ite_t c5 hr
    cases hr
    exact G.thrW (cls := "java/lang/IllegalArgumentException") (text := "what is not 0 .. 6") (names := ["java/lang/RuntimeException", "java/lang/Exception"]) (by decide +kernel) (by decide +kernel) w_828 w_168 (own := "LedgerFiles") rfl (by decide +kernel) (by decide +kernel) at_X11_205 (tbd tv_X11_about rfl) (tbd tv_X11_about rfl) (tbd tv_X11_about rfl) (tbd tv_X11_about rfl) (tbd tv_X11_about rfl) (Nat.le_of_ble_eq_true rfl) (Nat.le_of_ble_eq_true rfl) (FQ.th (e := 1) rfl ⟨C77, ha77, hD77, hA77, (Fr.rf.tr fa77 (fun _ h => h))⟩)
  · replace hr := ite_f c5 hr
    refine G.go tv_X11_about 2 11 [(0, .ref (gAd E (0))), (1, .int (a0)), (2, .int (a1))] [.int ((6 : Int32)), .int (a1)] rfl ?_
    refine G.cmp_le 25 (tbd tv_X11_about rfl) (by decide) (fun c11 => ?_) (fun c11 => ?_)
    · replace hr := ite_t c11 hr
      refine G.go tv_X11_about 1 26 [(0, .ref (gAd E (0))), (1, .int (a0)), (2, .int (a1))] [.ref (gAd E (0))] rfl ?_
      refine G.getf cls_X11 (0) 8 (by omega) (ha77.q0) (by decide) rfl (tbd tv_X11_about rfl) w_571 ?_
      refine G.go tv_X11_about 1 30 [(0, .ref (gAd E (0))), (1, .int (a0)), (2, .int (a1))] [.int (a0), .ref (gAd E (37))] rfl ?_
      obtain ⟨v78, hv78, hr⟩ := bnd_s hr
      refine G.callV (37) [.int (a0)] [] (k_X7_kind E _ N B gr C77 D77 A77 hz ha77 hD77 hA77 a0 v78 hv78) cls_X7 (by omega) (ha77.q37) cw_X11_250 w_903 w_904 (Nat.le_of_ble_eq_true rfl) rfl (Nat.le_of_ble_eq_true rfl) (tbd tv_X11_about rfl) (fun v78w f78 q78 => ?_) (fun _ _ h => h.elim)
      obtain ⟨rfl, ha78, fa78⟩ := q78
      refine G.eqs [.int (v78)] rfl ?_
      refine G.go tv_X11_about 2 35 [(0, .ref (gAd E (0))), (1, .int (a0)), (2, .int (a1)), (3, .int (v78))] [.int (v78)] rfl ?_
      refine G.if_ne 41 (tbd tv_X11_about rfl) (by decide) (fun c35 => ?_) (fun c35 => ?_)
      · replace hr := ite_f c35 hr
        refine G.go tv_X11_about 1 42 [(0, .ref (gAd E (0))), (1, .int (a0)), (2, .int (a1)), (3, .int (v78))] [.int (a1)] rfl ?_
        by_cases c42_0 : a1 = (0 : Int32)
        · replace hr := ite_t c42_0 hr
          refine G.tswI 80 (38) (tbd tv_X11_about rfl) (by rw [c42_0]; decide) (by rw [c42_0]; decide) (by rw [c42_0]; decide) (by decide) ?_
          refine G.go tv_X11_about 1 81 [(0, .ref (gAd E (0))), (1, .int (a0)), (2, .int (a1)), (3, .int (v78))] [.int (v78)] rfl ?_
          cases hr
          exact G.iret rfl rfl (FQ.ok rfl ⟨C77, ha78, hD77, hA77, ((Fr.rf.tr fa77 (fun _ h => h)).tr fa78 (fun _ h => h))⟩) (tbd tv_X11_about rfl)
        replace hr := ite_f c42_0 hr
        by_cases c42_1 : a1 = (1 : Int32)
        · replace hr := ite_t c42_1 hr
          refine G.tswI 82 (40) (tbd tv_X11_about rfl) (by rw [c42_1]; decide) (by rw [c42_1]; decide) (by rw [c42_1]; decide) (by decide) ?_
          refine G.go tv_X11_about 1 83 [(0, .ref (gAd E (0))), (1, .int (a0)), (2, .int (a1)), (3, .int (v78))] [.ref (gAd E (0))] rfl ?_
          refine G.getf cls_X11 (0) 8 (by omega) (ha78.q0) (by decide) rfl (tbd tv_X11_about rfl) w_571 ?_
          refine G.go tv_X11_about 1 87 [(0, .ref (gAd E (0))), (1, .int (a0)), (2, .int (a1)), (3, .int (v78))] [.int (a0), .ref (gAd E (37))] rfl ?_
          obtain ⟨v79, hv79, hr⟩ := bnd_s hr
          refine G.callV (37) [.int (a0)] [] (k_X7_size E _ N B gr C77 D77 A77 hz ha78 hD77 hA77 a0 v79 hv79) cls_X7 (by omega) (ha78.q37) cw_X11_362 w_941 w_942 (Nat.le_of_ble_eq_true rfl) rfl (Nat.le_of_ble_eq_true rfl) (tbd tv_X11_about rfl) (fun v79w f79 q79 => ?_) (fun _ _ h => h.elim)
          obtain ⟨rfl, ha79, fa79⟩ := q79
          refine G.eqs [.int (v79)] rfl ?_
          cases hr
          exact G.iret rfl rfl (FQ.ok rfl ⟨C77, ha79, hD77, hA77, (((Fr.rf.tr fa77 (fun _ h => h)).tr fa78 (fun _ h => h)).tr fa79 (fun _ h => h))⟩) (tbd tv_X11_about rfl)
        replace hr := ite_f c42_1 hr
        by_cases c42_2 : a1 = (2 : Int32)
        · replace hr := ite_t c42_2 hr
          refine G.tswI 91 (49) (tbd tv_X11_about rfl) (by rw [c42_2]; decide) (by rw [c42_2]; decide) (by rw [c42_2]; decide) (by decide) ?_
          refine G.go tv_X11_about 1 92 [(0, .ref (gAd E (0))), (1, .int (a0)), (2, .int (a1)), (3, .int (v78))] [.ref (gAd E (0))] rfl ?_
          refine G.getf cls_X11 (0) 8 (by omega) (ha78.q0) (by decide) rfl (tbd tv_X11_about rfl) w_571 ?_
          refine G.go tv_X11_about 1 96 [(0, .ref (gAd E (0))), (1, .int (a0)), (2, .int (a1)), (3, .int (v78))] [.int (a0), .ref (gAd E (37))] rfl ?_
          obtain ⟨v80, hv80, hr⟩ := bnd_s hr
          refine G.callV (37) [.int (a0)] [] (k_X7_markOf E _ N B gr C77 D77 A77 hz ha78 hD77 hA77 a0 v80 hv80) cls_X7 (by omega) (ha78.q37) cw_X11_395 w_1563 w_1564 (Nat.le_of_ble_eq_true rfl) rfl (Nat.le_of_ble_eq_true rfl) (tbd tv_X11_about rfl) (fun v80w f80 q80 => ?_) (fun _ _ h => h.elim)
          obtain ⟨rfl, ha80, fa80⟩ := q80
          refine G.eqs [.int (v80)] rfl ?_
          cases hr
          exact G.iret rfl rfl (FQ.ok rfl ⟨C77, ha80, hD77, hA77, (((Fr.rf.tr fa77 (fun _ h => h)).tr fa78 (fun _ h => h)).tr fa80 (fun _ h => h))⟩) (tbd tv_X11_about rfl)
        replace hr := ite_f c42_2 hr
        by_cases c42_3 : a1 = (3 : Int32)
        · replace hr := ite_t c42_3 hr
          refine G.tswI 100 (58) (tbd tv_X11_about rfl) (by rw [c42_3]; decide) (by rw [c42_3]; decide) (by rw [c42_3]; decide) (by decide) ?_
          refine G.go tv_X11_about 1 101 [(0, .ref (gAd E (0))), (1, .int (a0)), (2, .int (a1)), (3, .int (v78))] [.ref (gAd E (0))] rfl ?_
          refine G.getf cls_X11 (0) 8 (by omega) (ha78.q0) (by decide) rfl (tbd tv_X11_about rfl) w_571 ?_
          refine G.go tv_X11_about 1 105 [(0, .ref (gAd E (0))), (1, .int (a0)), (2, .int (a1)), (3, .int (v78))] [.int (a0), .ref (gAd E (37))] rfl ?_
          obtain ⟨v81, D81, hv81, hr⟩ := bnd2_s hr
          refine G.callV (37) [.int (a0)] [] (k_X7_blocksAndTables E _ N B gr C77 D77 A77 hz ha78 hD77 hA77 a0 v81 D81 hv81) cls_X7 (by omega) (ha78.q37) cw_X11_398 w_1706 w_1707 (Nat.le_of_ble_eq_true rfl) rfl (Nat.le_of_ble_eq_true rfl) (tbd tv_X11_about rfl) (fun v81w f81 q81 => ?_) (fun _ _ h => h.elim)
          obtain ⟨rfl, C81, ha81, hD81, hA81, hR81, fa81⟩ := q81
          refine G.eqs [.int (v81)] rfl ?_
          cases hr
          exact G.iret rfl rfl (FQ.ok rfl ⟨C81, ha81, hD81, hA81, (((Fr.rf.tr fa77 (fun _ h => h)).tr fa78 (fun _ h => h)).tr fa81 (fun _ h => h))⟩) (tbd tv_X11_about rfl)
        replace hr := ite_f c42_3 hr
        by_cases c42_4 : a1 = (4 : Int32)
        · replace hr := ite_t c42_4 hr
          refine G.tswI 109 (67) (tbd tv_X11_about rfl) (by rw [c42_4]; decide) (by rw [c42_4]; decide) (by rw [c42_4]; decide) (by decide) ?_
          refine G.go tv_X11_about 1 110 [(0, .ref (gAd E (0))), (1, .int (a0)), (2, .int (a1)), (3, .int (v78))] [.ref (gAd E (0))] rfl ?_
          refine G.getf cls_X11 (0) 10 (by omega) (ha78.q0) (by decide) rfl (tbd tv_X11_about rfl) w_573 ?_
          refine G.go tv_X11_about 1 114 [(0, .ref (gAd E (0))), (1, .int (a0)), (2, .int (a1)), (3, .int (v78))] [.int (a0), .ref (gAd E (40))] rfl ?_
          obtain ⟨v82, hv82, hr⟩ := bnd_s hr
          refine G.callV (40) [.int (a0)] [] (k_X4_names E _ N B gr C77 D77 A77 hz ha78 hD77 hA77 a0 v82 hv82) cls_X4 (by omega) (ha78.q40) cw_X11_299 w_1477 w_1478 (Nat.le_of_ble_eq_true rfl) rfl (Nat.le_of_ble_eq_true rfl) (tbd tv_X11_about rfl) (fun v82w f82 q82 => ?_) (fun _ _ h => h.elim)
          obtain ⟨rfl, ha82, fa82⟩ := q82
          refine G.eqs [.int (v82)] rfl ?_
          cases hr
          exact G.iret rfl rfl (FQ.ok rfl ⟨C77, ha82, hD77, hA77, (((Fr.rf.tr fa77 (fun _ h => h)).tr fa78 (fun _ h => h)).tr fa82 (fun _ h => h))⟩) (tbd tv_X11_about rfl)
        replace hr := ite_f c42_4 hr
        by_cases c42_5 : a1 = (5 : Int32)
        · replace hr := ite_t c42_5 hr
          refine G.tswI 118 (76) (tbd tv_X11_about rfl) (by rw [c42_5]; decide) (by rw [c42_5]; decide) (by rw [c42_5]; decide) (by decide) ?_
          refine G.go tv_X11_about 1 119 [(0, .ref (gAd E (0))), (1, .int (a0)), (2, .int (a1)), (3, .int (v78))] [.ref (gAd E (0))] rfl ?_
          refine G.getf cls_X11 (0) 8 (by omega) (ha78.q0) (by decide) rfl (tbd tv_X11_about rfl) w_571 ?_
          refine G.go tv_X11_about 1 123 [(0, .ref (gAd E (0))), (1, .int (a0)), (2, .int (a1)), (3, .int (v78))] [.int (a0), .ref (gAd E (37))] rfl ?_
          obtain ⟨v83, hv83, hr⟩ := bnd_s hr
          refine G.callV (37) [.int (a0)] [] (k_X7_links E _ N B gr C77 D77 A77 hz ha78 hD77 hA77 a0 v83 hv83) cls_X7 (by omega) (ha78.q37) cw_X11_329 w_925 w_926 (Nat.le_of_ble_eq_true rfl) rfl (Nat.le_of_ble_eq_true rfl) (tbd tv_X11_about rfl) (fun v83w f83 q83 => ?_) (fun _ _ h => h.elim)
          obtain ⟨rfl, ha83, fa83⟩ := q83
          refine G.eqs [.int (v83)] rfl ?_
          cases hr
          exact G.iret rfl rfl (FQ.ok rfl ⟨C77, ha83, hD77, hA77, (((Fr.rf.tr fa77 (fun _ h => h)).tr fa78 (fun _ h => h)).tr fa83 (fun _ h => h))⟩) (tbd tv_X11_about rfl)
        replace hr := ite_f c42_5 hr
        have nc42_0 : a1.toInt ≠ 0 := fun e => c42_0 (Int32.toInt_inj.mp (e.trans (by decide)))
        have nc42_1 : a1.toInt ≠ 1 := fun e => c42_1 (Int32.toInt_inj.mp (e.trans (by decide)))
        have nc42_2 : a1.toInt ≠ 2 := fun e => c42_2 (Int32.toInt_inj.mp (e.trans (by decide)))
        have nc42_3 : a1.toInt ≠ 3 := fun e => c42_3 (Int32.toInt_inj.mp (e.trans (by decide)))
        have nc42_4 : a1.toInt ≠ 4 := fun e => c42_4 (Int32.toInt_inj.mp (e.trans (by decide)))
        have nc42_5 : a1.toInt ≠ 5 := fun e => c42_5 (Int32.toInt_inj.mp (e.trans (by decide)))
        refine G.tswO 127 (tbd tv_X11_about rfl) (by omega) (by decide) ?_
        refine G.go tv_X11_about 1 128 [(0, .ref (gAd E (0))), (1, .int (a0)), (2, .int (a1)), (3, .int (v78))] [.ref (gAd E (0))] rfl ?_
        refine G.getf cls_X11 (0) 9 (by omega) (ha78.q0) (by decide) rfl (tbd tv_X11_about rfl) w_572 ?_
        refine G.go tv_X11_about 1 132 [(0, .ref (gAd E (0))), (1, .int (a0)), (2, .int (a1)), (3, .int (v78))] [.int (a0), .ref (gAd E (32))] rfl ?_
        obtain ⟨v84, hv84, hr⟩ := bnd_s hr
        refine G.callV (32) [.int (a0)] [] (k_X5_times E _ N B gr C77 D77 A77 hz ha78 hD77 hA77 a0 v84 hv84) cls_X5 (by omega) (ha78.q32) cw_X11_237 w_929 w_930 (Nat.le_of_ble_eq_true rfl) rfl (Nat.le_of_ble_eq_true rfl) (tbd tv_X11_about rfl) (fun v84w f84 q84 => ?_) (fun _ _ h => h.elim)
        obtain ⟨rfl, ha84, fa84⟩ := q84
        refine G.eqs [.int (v84)] rfl ?_
        cases hr
        exact G.iret rfl rfl (FQ.ok rfl ⟨C77, ha84, hD77, hA77, (((Fr.rf.tr fa77 (fun _ h => h)).tr fa78 (fun _ h => h)).tr fa84 (fun _ h => h))⟩) (tbd tv_X11_about rfl)
      · replace hr := ite_t c35 hr
        refine G.go tv_X11_about 1 40 [(0, .ref (gAd E (0))), (1, .int (a0)), (2, .int (a1)), (3, .int (v78))] [.int ((-11 : Int32))] rfl ?_
        cases hr
        exact G.iret rfl rfl (FQ.ok rfl ⟨C77, ha78, hD77, hA77, ((Fr.rf.tr fa77 (fun _ h => h)).tr fa78 (fun _ h => h))⟩) (tbd tv_X11_about rfl)
    · replace hr := ite_f c11 hr
      cases hr
      exact G.thrW (cls := "java/lang/IllegalArgumentException") (text := "what is not 0 .. 6") (names := ["java/lang/RuntimeException", "java/lang/Exception"]) (by decide +kernel) (by decide +kernel) w_828 w_168 (own := "LedgerFiles") rfl (by decide +kernel) (by decide +kernel) at_X11_205 (tbd tv_X11_about rfl) (tbd tv_X11_about rfl) (tbd tv_X11_about rfl) (tbd tv_X11_about rfl) (tbd tv_X11_about rfl) (Nat.le_of_ble_eq_true rfl) (Nat.le_of_ble_eq_true rfl) (FQ.th (e := 1) rfl ⟨C77, ha77, hD77, hA77, (Fr.rf.tr fa77 (fun _ h => h))⟩)
theorem w_1717 : Cond.methodLink "LedgerFiles" 403 yX7_reach ∈ TB := tp_7 131 (by decide +kernel) rfl
theorem cw_X11_403 : Cw RX11 403 yX7_reach cX7_reach 8 (some .int) 3 := ⟨w_1717, w_956, w_157, by decide +kernel, by decide +kernel, by decide⟩
noncomputable def d_X11_where (N B gr : Nat) (A : MS) (D : CfT) (a0 : Int32) (a1 : Int32) : Option (FR Int32) := bndF (d_X11_needMounted N B gr A D) (fun v85 A85 D85 => if a1 < 0 then some (.inr (2, A85, D85)) else if a1 < ((4168 : Int32)) then bnd (d_X7_kind N (vA A85) D85 a0) (fun v86 => if v86 = 0 then some (.inl ((-11 : Int32), A85, D85)) else bnd (d_X7_size N (vA A85) D85 a0) (fun v87 => bnd (d_X7_blocksFor N (vA A85) D85 v87) (fun v88 => if v88 ≤ a1 then some (.inl ((0 : Int32), A85, D85)) else bnd (d_X7_reach N (vA A85) D85 a0 a1 ((0 : Int32))) (fun v89 => some (.inl (v89, A85, D85)))))) else some (.inr (2, A85, D85)))
set_option maxRecDepth 100000 in
set_option maxHeartbeats 4000000 in
theorem k_X11_where (E : gE) (f : Nat → va_E) (N B gr : Nat) (C D : CfT) (A : MS) (hz : CfZ E N B gr) (h : CfV E f N B gr C) (hD : Dq D C) (hA : AR N B gr A C) (a0 : Int32) (a1 : Int32) (r : FR Int32) (hr : d_X11_where N B gr A D a0 a1 = some r) : Ct E 8 yX11_where cX11_where 3 (some .int) [.ref (gAd E (0)), .int (a0), .int (a1)] f (FQ E N B gr f (fun r => some (.int r)) r) := by
  obtain ⟨z1, z2, z3, z4, z5, z6, z7⟩ := id hz
  refine Ct.of (by decide) (Nat.le_of_ble_eq_true rfl) (fun sz => ?_)
  refine G.eql [(0, .ref (gAd E (0))), (1, .int (a0)), (2, .int (a1))] rfl ?_
  unfold d_X11_where at hr
  refine G.go tv_X11_where 1 1 [(0, .ref (gAd E (0))), (1, .int (a0)), (2, .int (a1))] [.ref (gAd E (0))] rfl ?_
  rcases bndF_s hr with ⟨v85, A85, D85, hv85, hr⟩ | ⟨ex85, A85, D85, hv85, rfl⟩
  rotate_left
  · skip
    refine G.callV (0) [] [] (k_X11_needMounted E _ N B gr C D A hz h hD hA _ hv85) cls_X11 (by omega) (h.q0) cw_X11_221 w_1320 w_27 (Nat.le_of_ble_eq_true rfl) rfl (Nat.le_of_ble_eq_true rfl) (tbd tv_X11_where rfl) (fun v85w f85 q85 => ?_) (fun X g q => FQ.fr q Fr.rf)
    exact q85.elim
  refine G.callV (0) [] [] (k_X11_needMounted E _ N B gr C D A hz h hD hA _ hv85) cls_X11 (by omega) (h.q0) cw_X11_221 w_1320 w_27 (Nat.le_of_ble_eq_true rfl) rfl (Nat.le_of_ble_eq_true rfl) (tbd tv_X11_where rfl) (fun v85w f85 q85 => ?_) (fun _ _ h => h.elim)
  obtain ⟨rfl, C85, ha85, hD85, hA85, fa85⟩ := q85
  refine G.eqs [] rfl ?_
  refine G.go tv_X11_where 1 5 [(0, .ref (gAd E (0))), (1, .int (a0)), (2, .int (a1))] [.int (a1)] rfl ?_
  refine G.if_lt 15 (tbd tv_X11_where rfl) (by decide) (fun c5 => ?_) (fun c5 => ?_)
  · replace hr := ite_t c5 hr
    cases hr
    exact G.thrW (cls := "java/lang/IllegalArgumentException") (text := "k is not 0 .. 4167") (names := ["java/lang/RuntimeException", "java/lang/Exception"]) (by decide +kernel) (by decide +kernel) w_828 w_168 (own := "LedgerFiles") rfl (by decide +kernel) (by decide +kernel) at_X11_205 (tbd tv_X11_where rfl) (tbd tv_X11_where rfl) (tbd tv_X11_where rfl) (tbd tv_X11_where rfl) (tbd tv_X11_where rfl) (Nat.le_of_ble_eq_true rfl) (Nat.le_of_ble_eq_true rfl) (FQ.th (e := 1) rfl ⟨C85, ha85, hD85, hA85, (Fr.rf.tr fa85 (fun _ h => h))⟩)
  · replace hr := ite_f c5 hr
    refine G.go tv_X11_where 2 12 [(0, .ref (gAd E (0))), (1, .int (a0)), (2, .int (a1))] [.int ((4168 : Int32)), .int (a1)] rfl ?_
    refine G.cmp_lt 26 (tbd tv_X11_where rfl) (by decide) (fun c12 => ?_) (fun c12 => ?_)
    · replace hr := ite_t c12 hr
      refine G.go tv_X11_where 1 27 [(0, .ref (gAd E (0))), (1, .int (a0)), (2, .int (a1))] [.ref (gAd E (0))] rfl ?_
      refine G.getf cls_X11 (0) 8 (by omega) (ha85.q0) (by decide) rfl (tbd tv_X11_where rfl) w_571 ?_
      refine G.go tv_X11_where 1 31 [(0, .ref (gAd E (0))), (1, .int (a0)), (2, .int (a1))] [.int (a0), .ref (gAd E (37))] rfl ?_
      obtain ⟨v86, hv86, hr⟩ := bnd_s hr
      refine G.callV (37) [.int (a0)] [] (k_X7_kind E _ N B gr C85 D85 A85 hz ha85 hD85 hA85 a0 v86 hv86) cls_X7 (by omega) (ha85.q37) cw_X11_250 w_903 w_904 (Nat.le_of_ble_eq_true rfl) rfl (Nat.le_of_ble_eq_true rfl) (tbd tv_X11_where rfl) (fun v86w f86 q86 => ?_) (fun _ _ h => h.elim)
      obtain ⟨rfl, ha86, fa86⟩ := q86
      refine G.eqs [.int (v86)] rfl ?_
      refine G.if_ne 40 (tbd tv_X11_where rfl) (by decide) (fun c34 => ?_) (fun c34 => ?_)
      · replace hr := ite_f c34 hr
        refine G.go tv_X11_where 2 42 [(0, .ref (gAd E (0))), (1, .int (a0)), (2, .int (a1))] [.ref (gAd E (0)), .int (a1)] rfl ?_
        refine G.getf cls_X11 (0) 8 (by omega) (ha86.q0) (by decide) rfl (tbd tv_X11_where rfl) w_571 ?_
        refine G.go tv_X11_where 1 46 [(0, .ref (gAd E (0))), (1, .int (a0)), (2, .int (a1))] [.int (a0), .ref (gAd E (37)), .int (a1)] rfl ?_
        obtain ⟨v87, hv87, hr⟩ := bnd_s hr
        refine G.callV (37) [.int (a0)] [.int (a1)] (k_X7_size E _ N B gr C85 D85 A85 hz ha86 hD85 hA85 a0 v87 hv87) cls_X7 (by omega) (ha86.q37) cw_X11_362 w_941 w_942 (Nat.le_of_ble_eq_true rfl) rfl (Nat.le_of_ble_eq_true rfl) (tbd tv_X11_where rfl) (fun v87w f87 q87 => ?_) (fun _ _ h => h.elim)
        obtain ⟨rfl, ha87, fa87⟩ := q87
        refine G.eqs [.int (v87), .int (a1)] rfl ?_
        obtain ⟨v88, hv88, hr⟩ := bnd_s hr
        refine G.callS [.int (v87)] [.int (a1)] (k_X7_blocksFor E _ N B gr C85 D85 A85 hz ha87 hD85 hA85 v87 v88 hv88) cw_X11_368 w_946 (Nat.le_of_ble_eq_true rfl) rfl (Nat.le_of_ble_eq_true rfl) (tbd tv_X11_where rfl) (fun v88w f88 q88 => ?_) (fun _ _ h => h.elim)
        obtain ⟨rfl, ha88, fa88⟩ := q88
        refine G.eqs [.int (v88), .int (a1)] rfl ?_
        refine G.cmp_ge 68 (tbd tv_X11_where rfl) (by decide) (fun c52 => ?_) (fun c52 => ?_)
        · replace hr := ite_t c52 hr
          refine G.go tv_X11_where 1 69 [(0, .ref (gAd E (0))), (1, .int (a0)), (2, .int (a1))] [.int ((0 : Int32))] rfl ?_
          cases hr
          exact G.iret rfl rfl (FQ.ok rfl ⟨C85, ha88, hD85, hA85, ((((Fr.rf.tr fa85 (fun _ h => h)).tr fa86 (fun _ h => h)).tr fa87 (fun _ h => h)).tr fa88 (fun _ h => h))⟩) (tbd tv_X11_where rfl)
        · replace hr := ite_f c52 hr
          refine G.go tv_X11_where 1 56 [(0, .ref (gAd E (0))), (1, .int (a0)), (2, .int (a1))] [.ref (gAd E (0))] rfl ?_
          refine G.getf cls_X11 (0) 8 (by omega) (ha88.q0) (by decide) rfl (tbd tv_X11_where rfl) w_571 ?_
          refine G.go tv_X11_where 3 62 [(0, .ref (gAd E (0))), (1, .int (a0)), (2, .int (a1))] [.int ((0 : Int32)), .int (a1), .int (a0), .ref (gAd E (37))] rfl ?_
          obtain ⟨v89, hv89, hr⟩ := bnd_s hr
          refine G.callV (37) [.int (a0), .int (a1), .int ((0 : Int32))] [] (k_X7_reach E _ N B gr C85 D85 A85 hz ha88 hD85 hA85 a0 a1 ((0 : Int32)) v89 hv89) cls_X7 (by omega) (ha88.q37) cw_X11_403 w_954 w_955 (Nat.le_of_ble_eq_true rfl) rfl (Nat.le_of_ble_eq_true rfl) (tbd tv_X11_where rfl) (fun v89w f89 q89 => ?_) (fun _ _ h => h.elim)
          obtain ⟨rfl, ha89, fa89⟩ := q89
          refine G.eqs [.int (v89)] rfl ?_
          refine G.go tv_X11_where 1 69 [(0, .ref (gAd E (0))), (1, .int (a0)), (2, .int (a1))] [.int (v89)] rfl ?_
          cases hr
          exact G.iret rfl rfl (FQ.ok rfl ⟨C85, ha89, hD85, hA85, (((((Fr.rf.tr fa85 (fun _ h => h)).tr fa86 (fun _ h => h)).tr fa87 (fun _ h => h)).tr fa88 (fun _ h => h)).tr fa89 (fun _ h => h))⟩) (tbd tv_X11_where rfl)
      · replace hr := ite_t c34 hr
        refine G.go tv_X11_where 1 39 [(0, .ref (gAd E (0))), (1, .int (a0)), (2, .int (a1))] [.int ((-11 : Int32))] rfl ?_
        cases hr
        exact G.iret rfl rfl (FQ.ok rfl ⟨C85, ha86, hD85, hA85, ((Fr.rf.tr fa85 (fun _ h => h)).tr fa86 (fun _ h => h))⟩) (tbd tv_X11_where rfl)
    · replace hr := ite_f c12 hr
      cases hr
      exact G.thrW (cls := "java/lang/IllegalArgumentException") (text := "k is not 0 .. 4167") (names := ["java/lang/RuntimeException", "java/lang/Exception"]) (by decide +kernel) (by decide +kernel) w_828 w_168 (own := "LedgerFiles") rfl (by decide +kernel) (by decide +kernel) at_X11_205 (tbd tv_X11_where rfl) (tbd tv_X11_where rfl) (tbd tv_X11_where rfl) (tbd tv_X11_where rfl) (tbd tv_X11_where rfl) (Nat.le_of_ble_eq_true rfl) (Nat.le_of_ble_eq_true rfl) (FQ.th (e := 1) rfl ⟨C85, ha85, hD85, hA85, (Fr.rf.tr fa85 (fun _ h => h))⟩)
theorem w_1726 : Cond.methodLink "LedgerFiles" 406 yX4_slotOfName ∈ TB := tp_7 140 (by decide +kernel) rfl
theorem w_1729 : Cond.code yX4_slotOfName prog_6_method_9_code 6 (some .int) ∈ TB := tp_7 143 rfl rfl
theorem cw_X11_406 : Cw RX11 406 yX4_slotOfName cX4_slotOfName 6 (some .int) 2 := ⟨w_1726, w_1729, w_158, by decide +kernel, by decide +kernel, by decide⟩
theorem w_1727 : Cond.instanceMethod yX4_slotOfName ∈ TB := tp_7 141 (by decide +kernel) rfl
theorem w_1728 : Cond.selects "LedgerFiles$Folders" yX4_slotOfName yX4_slotOfName ∈ TB := tp_7 142 (by decide +kernel) rfl
noncomputable def d_X11_entry (N B gr : Nat) (A : MS) (D : CfT) (a0 : Int32) (a1 : Int32) : Option (FR Int32) := bndF (d_X11_needMounted N B gr A D) (fun v90 A90 D90 => bnd (d_X4_slotOfName N (vA A90) D90 a0 a1) (fun v91 => if v91 = ((-1 : Int32)) then some (.inr (3, A90, D90)) else bnd (d_X4_inodeAt N (vA A90) D90 a0 v91) (fun v92 => some (.inl (v92, A90, D90)))))
set_option maxRecDepth 100000 in
set_option maxHeartbeats 4000000 in
theorem k_X11_entry (E : gE) (f : Nat → va_E) (N B gr : Nat) (C D : CfT) (A : MS) (hz : CfZ E N B gr) (h : CfV E f N B gr C) (hD : Dq D C) (hA : AR N B gr A C) (a0 : Int32) (a1 : Int32) (r : FR Int32) (hr : d_X11_entry N B gr A D a0 a1 = some r) : Ct E 8 yX11_entry cX11_entry 4 (some .int) [.ref (gAd E (0)), .int (a0), .int (a1)] f (FQ E N B gr f (fun r => some (.int r)) r) := by
  obtain ⟨z1, z2, z3, z4, z5, z6, z7⟩ := id hz
  refine Ct.of (by decide) (Nat.le_of_ble_eq_true rfl) (fun sz => ?_)
  refine G.eql [(0, .ref (gAd E (0))), (1, .int (a0)), (2, .int (a1))] rfl ?_
  unfold d_X11_entry at hr
  refine G.go tv_X11_entry 1 1 [(0, .ref (gAd E (0))), (1, .int (a0)), (2, .int (a1))] [.ref (gAd E (0))] rfl ?_
  rcases bndF_s hr with ⟨v90, A90, D90, hv90, hr⟩ | ⟨ex90, A90, D90, hv90, rfl⟩
  rotate_left
  · skip
    refine G.callV (0) [] [] (k_X11_needMounted E _ N B gr C D A hz h hD hA _ hv90) cls_X11 (by omega) (h.q0) cw_X11_221 w_1320 w_27 (Nat.le_of_ble_eq_true rfl) rfl (Nat.le_of_ble_eq_true rfl) (tbd tv_X11_entry rfl) (fun v90w f90 q90 => ?_) (fun X g q => FQ.fr q Fr.rf)
    exact q90.elim
  refine G.callV (0) [] [] (k_X11_needMounted E _ N B gr C D A hz h hD hA _ hv90) cls_X11 (by omega) (h.q0) cw_X11_221 w_1320 w_27 (Nat.le_of_ble_eq_true rfl) rfl (Nat.le_of_ble_eq_true rfl) (tbd tv_X11_entry rfl) (fun v90w f90 q90 => ?_) (fun _ _ h => h.elim)
  obtain ⟨rfl, C90, ha90, hD90, hA90, fa90⟩ := q90
  refine G.eqs [] rfl ?_
  refine G.go tv_X11_entry 1 5 [(0, .ref (gAd E (0))), (1, .int (a0)), (2, .int (a1))] [.ref (gAd E (0))] rfl ?_
  refine G.getf cls_X11 (0) 10 (by omega) (ha90.q0) (by decide) rfl (tbd tv_X11_entry rfl) w_573 ?_
  refine G.go tv_X11_entry 2 10 [(0, .ref (gAd E (0))), (1, .int (a0)), (2, .int (a1))] [.int (a1), .int (a0), .ref (gAd E (40))] rfl ?_
  obtain ⟨v91, hv91, hr⟩ := bnd_s hr
  refine G.callV (40) [.int (a0), .int (a1)] [] (k_X4_slotOfName E _ N B gr C90 D90 A90 hz ha90 hD90 hA90 a0 a1 v91 hv91) cls_X4 (by omega) (ha90.q40) cw_X11_406 w_1727 w_1728 (Nat.le_of_ble_eq_true rfl) rfl (Nat.le_of_ble_eq_true rfl) (tbd tv_X11_entry rfl) (fun v91w f91 q91 => ?_) (fun _ _ h => h.elim)
  obtain ⟨rfl, ha91, fa91⟩ := q91
  refine G.eqs [.int (v91)] rfl ?_
  refine G.go tv_X11_entry 3 16 [(0, .ref (gAd E (0))), (1, .int (a0)), (2, .int (a1)), (3, .int (v91))] [.int ((-1 : Int32)), .int (v91)] rfl ?_
  refine G.cmp_ne 30 (tbd tv_X11_entry rfl) (by decide) (fun c16 => ?_) (fun c16 => ?_)
  · replace hr := ite_f c16 hr
    refine G.go tv_X11_entry 1 31 [(0, .ref (gAd E (0))), (1, .int (a0)), (2, .int (a1)), (3, .int (v91))] [.ref (gAd E (0))] rfl ?_
    refine G.getf cls_X11 (0) 10 (by omega) (ha91.q0) (by decide) rfl (tbd tv_X11_entry rfl) w_573 ?_
    refine G.go tv_X11_entry 2 36 [(0, .ref (gAd E (0))), (1, .int (a0)), (2, .int (a1)), (3, .int (v91))] [.int (v91), .int (a0), .ref (gAd E (40))] rfl ?_
    obtain ⟨v92, hv92, hr⟩ := bnd_s hr
    refine G.callV (40) [.int (a0), .int (v91)] [] (k_X4_inodeAt E _ N B gr C90 D90 A90 hz ha91 hD90 hA90 a0 v91 v92 hv92) cls_X4 (by omega) (ha91.q40) cw_X11_316 w_1380 w_1381 (Nat.le_of_ble_eq_true rfl) rfl (Nat.le_of_ble_eq_true rfl) (tbd tv_X11_entry rfl) (fun v92w f92 q92 => ?_) (fun _ _ h => h.elim)
    obtain ⟨rfl, ha92, fa92⟩ := q92
    refine G.eqs [.int (v92)] rfl ?_
    cases hr
    exact G.iret rfl rfl (FQ.ok rfl ⟨C90, ha92, hD90, hA90, (((Fr.rf.tr fa90 (fun _ h => h)).tr fa91 (fun _ h => h)).tr fa92 (fun _ h => h))⟩) (tbd tv_X11_entry rfl)
  · replace hr := ite_t c16 hr
    cases hr
    exact G.thrX (cls := "java/util/NoSuchElementException") (Yn := "java/lang/RuntimeException") (text := "no such name") (r := ["java/lang/Exception"]) (ix := 13) (rx := prog_31_method_4_code) (by decide +kernel) (by decide +kernel) (by decide +kernel) (by decide +kernel) (by decide +kernel) (by decide +kernel) (by decide +kernel) w_1730 w_177 (own := "LedgerFiles") rfl (by decide +kernel) (by decide +kernel) at_X11_413 (tbd tv_X11_entry rfl) (tbd tv_X11_entry rfl) (tbd tv_X11_entry rfl) (tbd tv_X11_entry rfl) (tbd tv_X11_entry rfl) (Nat.le_of_ble_eq_true rfl) (Nat.le_of_ble_eq_true rfl) (FQ.th (e := 2) rfl ⟨C90, ha91, hD90, hA90, ((Fr.rf.tr fa90 (fun _ h => h)).tr fa91 (fun _ h => h))⟩)
theorem w_1754 : Cond.methodLink "LedgerFiles" 416 yX4_letterAt ∈ TB := tp_7 168 (by decide +kernel) rfl
theorem w_1757 : Cond.code yX4_letterAt prog_6_method_7_code 6 (some .int) ∈ TB := tp_7 171 rfl rfl
theorem cw_X11_416 : Cw RX11 416 yX4_letterAt cX4_letterAt 6 (some .int) 3 := ⟨w_1754, w_1757, w_158, by decide +kernel, by decide +kernel, by decide⟩
theorem w_1755 : Cond.instanceMethod yX4_letterAt ∈ TB := tp_7 169 (by decide +kernel) rfl
theorem w_1756 : Cond.selects "LedgerFiles$Folders" yX4_letterAt yX4_letterAt ∈ TB := tp_7 170 (by decide +kernel) rfl
noncomputable def d_X11_letter (N B gr : Nat) (A : MS) (D : CfT) (a0 : Int32) (a1 : Int32) (a2 : Int32) : Option (FR Int32) := bndF (d_X11_needMounted N B gr A D) (fun v93 A93 D93 => bnd (d_X4_slotOfName N (vA A93) D93 a0 a1) (fun v94 => if v94 = ((-1 : Int32)) then some (.inr (3, A93, D93)) else if 0 ≤ a2 then bnd (d_X4_letterAt N (vA A93) D93 a0 v94 a2) (fun v95 => some (.inl (v95, A93, D93))) else some (.inr (3, A93, D93))))
set_option maxRecDepth 100000 in
set_option maxHeartbeats 4000000 in
theorem k_X11_letter (E : gE) (f : Nat → va_E) (N B gr : Nat) (C D : CfT) (A : MS) (hz : CfZ E N B gr) (h : CfV E f N B gr C) (hD : Dq D C) (hA : AR N B gr A C) (a0 : Int32) (a1 : Int32) (a2 : Int32) (r : FR Int32) (hr : d_X11_letter N B gr A D a0 a1 a2 = some r) : Ct E 8 yX11_letter cX11_letter 5 (some .int) [.ref (gAd E (0)), .int (a0), .int (a1), .int (a2)] f (FQ E N B gr f (fun r => some (.int r)) r) := by
  obtain ⟨z1, z2, z3, z4, z5, z6, z7⟩ := id hz
  refine Ct.of (by decide) (Nat.le_of_ble_eq_true rfl) (fun sz => ?_)
  refine G.eql [(0, .ref (gAd E (0))), (1, .int (a0)), (2, .int (a1)), (3, .int (a2))] rfl ?_
  unfold d_X11_letter at hr
  refine G.go tv_X11_letter 1 1 [(0, .ref (gAd E (0))), (1, .int (a0)), (2, .int (a1)), (3, .int (a2))] [.ref (gAd E (0))] rfl ?_
  rcases bndF_s hr with ⟨v93, A93, D93, hv93, hr⟩ | ⟨ex93, A93, D93, hv93, rfl⟩
  rotate_left
  · skip
    refine G.callV (0) [] [] (k_X11_needMounted E _ N B gr C D A hz h hD hA _ hv93) cls_X11 (by omega) (h.q0) cw_X11_221 w_1320 w_27 (Nat.le_of_ble_eq_true rfl) rfl (Nat.le_of_ble_eq_true rfl) (tbd tv_X11_letter rfl) (fun v93w f93 q93 => ?_) (fun X g q => FQ.fr q Fr.rf)
    exact q93.elim
  refine G.callV (0) [] [] (k_X11_needMounted E _ N B gr C D A hz h hD hA _ hv93) cls_X11 (by omega) (h.q0) cw_X11_221 w_1320 w_27 (Nat.le_of_ble_eq_true rfl) rfl (Nat.le_of_ble_eq_true rfl) (tbd tv_X11_letter rfl) (fun v93w f93 q93 => ?_) (fun _ _ h => h.elim)
  obtain ⟨rfl, C93, ha93, hD93, hA93, fa93⟩ := q93
  refine G.eqs [] rfl ?_
  refine G.go tv_X11_letter 1 5 [(0, .ref (gAd E (0))), (1, .int (a0)), (2, .int (a1)), (3, .int (a2))] [.ref (gAd E (0))] rfl ?_
  refine G.getf cls_X11 (0) 10 (by omega) (ha93.q0) (by decide) rfl (tbd tv_X11_letter rfl) w_573 ?_
  refine G.go tv_X11_letter 2 10 [(0, .ref (gAd E (0))), (1, .int (a0)), (2, .int (a1)), (3, .int (a2))] [.int (a1), .int (a0), .ref (gAd E (40))] rfl ?_
  obtain ⟨v94, hv94, hr⟩ := bnd_s hr
  refine G.callV (40) [.int (a0), .int (a1)] [] (k_X4_slotOfName E _ N B gr C93 D93 A93 hz ha93 hD93 hA93 a0 a1 v94 hv94) cls_X4 (by omega) (ha93.q40) cw_X11_406 w_1727 w_1728 (Nat.le_of_ble_eq_true rfl) rfl (Nat.le_of_ble_eq_true rfl) (tbd tv_X11_letter rfl) (fun v94w f94 q94 => ?_) (fun _ _ h => h.elim)
  obtain ⟨rfl, ha94, fa94⟩ := q94
  refine G.eqs [.int (v94)] rfl ?_
  refine G.go tv_X11_letter 3 18 [(0, .ref (gAd E (0))), (1, .int (a0)), (2, .int (a1)), (3, .int (a2)), (4, .int (v94))] [.int ((-1 : Int32)), .int (v94)] rfl ?_
  refine G.cmp_eq 25 (tbd tv_X11_letter rfl) (by decide) (fun c18 => ?_) (fun c18 => ?_)
  · replace hr := ite_t c18 hr
    cases hr
    exact G.thrX (cls := "java/util/NoSuchElementException") (Yn := "java/lang/RuntimeException") (text := "no such name or byte") (r := ["java/lang/Exception"]) (ix := 13) (rx := prog_31_method_4_code) (by decide +kernel) (by decide +kernel) (by decide +kernel) (by decide +kernel) (by decide +kernel) (by decide +kernel) (by decide +kernel) w_1730 w_177 (own := "LedgerFiles") rfl (by decide +kernel) (by decide +kernel) at_X11_413 (tbd tv_X11_letter rfl) (tbd tv_X11_letter rfl) (tbd tv_X11_letter rfl) (tbd tv_X11_letter rfl) (tbd tv_X11_letter rfl) (Nat.le_of_ble_eq_true rfl) (Nat.le_of_ble_eq_true rfl) (FQ.th (e := 2) rfl ⟨C93, ha94, hD93, hA93, ((Fr.rf.tr fa93 (fun _ h => h)).tr fa94 (fun _ h => h))⟩)
  · replace hr := ite_f c18 hr
    refine G.go tv_X11_letter 1 22 [(0, .ref (gAd E (0))), (1, .int (a0)), (2, .int (a1)), (3, .int (a2)), (4, .int (v94))] [.int (a2)] rfl ?_
    refine G.if_ge 36 (tbd tv_X11_letter rfl) (by decide) (fun c22 => ?_) (fun c22 => ?_)
    · replace hr := ite_t c22 hr
      refine G.go tv_X11_letter 1 37 [(0, .ref (gAd E (0))), (1, .int (a0)), (2, .int (a1)), (3, .int (a2)), (4, .int (v94))] [.ref (gAd E (0))] rfl ?_
      refine G.getf cls_X11 (0) 10 (by omega) (ha94.q0) (by decide) rfl (tbd tv_X11_letter rfl) w_573 ?_
      refine G.go tv_X11_letter 3 44 [(0, .ref (gAd E (0))), (1, .int (a0)), (2, .int (a1)), (3, .int (a2)), (4, .int (v94))] [.int (a2), .int (v94), .int (a0), .ref (gAd E (40))] rfl ?_
      obtain ⟨v95, hv95, hr⟩ := bnd_s hr
      refine G.callV (40) [.int (a0), .int (v94), .int (a2)] [] (k_X4_letterAt E _ N B gr C93 D93 A93 hz ha94 hD93 hA93 a0 v94 a2 v95 hv95) cls_X4 (by omega) (ha94.q40) cw_X11_416 w_1755 w_1756 (Nat.le_of_ble_eq_true rfl) rfl (Nat.le_of_ble_eq_true rfl) (tbd tv_X11_letter rfl) (fun v95w f95 q95 => ?_) (fun _ _ h => h.elim)
      obtain ⟨rfl, ha95, fa95⟩ := q95
      refine G.eqs [.int (v95)] rfl ?_
      cases hr
      exact G.iret rfl rfl (FQ.ok rfl ⟨C93, ha95, hD93, hA93, (((Fr.rf.tr fa93 (fun _ h => h)).tr fa94 (fun _ h => h)).tr fa95 (fun _ h => h))⟩) (tbd tv_X11_letter rfl)
    · replace hr := ite_f c22 hr
      cases hr
      exact G.thrX (cls := "java/util/NoSuchElementException") (Yn := "java/lang/RuntimeException") (text := "no such name or byte") (r := ["java/lang/Exception"]) (ix := 13) (rx := prog_31_method_4_code) (by decide +kernel) (by decide +kernel) (by decide +kernel) (by decide +kernel) (by decide +kernel) (by decide +kernel) (by decide +kernel) w_1730 w_177 (own := "LedgerFiles") rfl (by decide +kernel) (by decide +kernel) at_X11_413 (tbd tv_X11_letter rfl) (tbd tv_X11_letter rfl) (tbd tv_X11_letter rfl) (tbd tv_X11_letter rfl) (tbd tv_X11_letter rfl) (Nat.le_of_ble_eq_true rfl) (Nat.le_of_ble_eq_true rfl) (FQ.th (e := 2) rfl ⟨C93, ha94, hD93, hA93, ((Fr.rf.tr fa93 (fun _ h => h)).tr fa94 (fun _ h => h))⟩)
