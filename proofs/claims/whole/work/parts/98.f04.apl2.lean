section CLD
/-- what applying makes of the log -/
def lApl (L : List En) (tu : Int32) : List En × Int32 := if L.length = 0 then (L, tu) else ([], tu + 1)
def aApl (N B : Nat) (L : List En) (tu : Int32) (h : Hw) : Bool × Hw := if L.length = 0 then (true, h) else mAply N B L tu h
theorem LgR.clr {N : Nat} {C : CfT} {L : List En} {tu : Int32} (h : LgR N C L tu) : LgR N (sA (sS C 1305 0) 16 (flt (cA C 16) 0 N (-1))) [] tu := by
  obtain ⟨h1, h2, h3, h4, h5, h6⟩ := h
  refine ⟨rfl, by decide, h3, fun k hk => absurd hk (Nat.not_lt_zero k), fun b hb => Or.inl ⟨?_, fun k hk => absurd hk (Nat.not_lt_zero k)⟩, h6⟩
  show flt (cA C 16) 0 N (-1) b = -1
  unfold flt
  rw [if_pos ⟨Nat.zero_le b, hb⟩]
theorem mAply_1 {N B : Nat} {L : List En} {tu : Int32} {h : Hw} (e : (mHome N B L N 0 h).1 = false) : mAply N B L tu h = mHome N B L N 0 h := by
  unfold mAply
  rw [hB_f e, hB_f e, hB_f e]
theorem mAply_2 {N B : Nat} {L : List En} {tu : Int32} {h h1 : Hw} (e : mHome N B L N 0 h = (true, h1)) : mAply N B L tu h = hB (hB (aSe N h1) (aPl N B 1 (mHd [] (tu + 1)))) (aSe N) := by
  unfold mAply
  rw [e, hB_t (o := (true, h1)) rfl]
end CLD
theorem m1_lt {n : Nat} (h : n < 2 ^ 31) : (-1 : Int32) < nI n := Int32.lt_of_lt_of_le (by decide) (nI_le (a := 0) (Nat.zero_le n) h)
set_option maxRecDepth 100000 in
set_option maxHeartbeats 4000000 in
theorem r_apply1 (E : gE) (f : Nat → va_E) (N B gr : Nat) (C : CfT) (hz : CfZ E N B gr) (h : CfV E f N B gr C) (hw : Hw) (hh : HwR N B 1 hw C) (hok : HOk N B hw) (hsp : hSp hw + 100 < 2 ^ 31) (L : List En) (tu : Int32) (hl : LgR N C L tu) (hld : LgD hw L) (h0 : 0 < L.length) : Ct E 9 yX6_applyAll cX6_applyAll 3 none [.ref (gAd E (13))] f (Rz E N B gr f (mAply N B L tu hw) (fun C' => LgR N C' [] (tu + 1) ∧ Sm [0, 1] C C') (fun C' => Sm [0, 1] C C' ∧ Byt (cA C' 15))) := by
  obtain ⟨z1, z2, z3, z4, z5, z6, z7⟩ := id hz
  refine Ct.of (by decide) (Nat.le_of_ble_eq_true rfl) (fun sz => ?_)
  refine G.eql [(0, .ref (gAd E (13)))] rfl ?_
  refine G.go tv_X6_applyAll 1 1 [(0, .ref (gAd E (13)))] [.ref (gAd E (13))] rfl ?_
  refine G.getf cls_X6 (13) 5 (by omega) (h.q13) (by decide) rfl (tbd tv_X6_applyAll rfl) w_325 ?_
  refine G.eqs [.int (nI L.length)] (by rw [hl.1]) ?_
  refine G.if_ne 8 (tbd tv_X6_applyAll rfl) (by decide) (fun c4 => ?_) (fun c4 => absurd c4 (fun z => by have := nI_inj (a := L.length) (b := 0) (by have := hl.2.1; omega) (by decide) z; omega))
  refine G.go tv_X6_applyAll 2 10 [(0, .ref (gAd E (13)))] [.int ((-1 : Int32)), .ref (gAd E (13))] rfl ?_
  refine G.callV (13) [.int ((-1 : Int32))] [] (k_nextAbove E _ N B gr C hz h (-1) L.length hl.1 hl.2.1) cls_X6 (by omega) (h.q13) cw_X6_112 w_891 w_14 (Nat.le_of_ble_eq_true rfl) rfl (Nat.le_of_ble_eq_true rfl) (tbd tv_X6_applyAll rfl) (fun v1 f1 q1 => ?_) (fun _ _ h => h.elim)
  obtain ⟨rfl, ha1, fa1⟩ := q1
  refine G.eqs [.int (lgNx (cA C 14) (-1) L.length)] rfl ?_
  refine G.go tv_X6_applyAll 3 16 [(0, .ref (gAd E (13))), (1, .int (lgNx (cA C 14) (-1) L.length)), (2, .int ((0 : Int32)))] [] rfl ?_
  refine G.eql [(0, .ref (gAd E (13))), (1, .int (lgNx (cA C 14) (-1) L.length)), (2, .int (nI (lNum L 0)))] rfl ?_
  refine aa_l E f _ _ (Rz E N B gr f (mAply N B L tu hw) (fun C' => LgR N C' [] (tu + 1) ∧ Sm [0, 1] C C') (fun C' => Sm [0, 1] C C' ∧ Byt (cA C' 15))) N B gr C hz L tu hw hsp (fun g C1 hw1 h1 hf1 hh1 hl1 hs1 ho1 hsp1 hok1 hld1 => ?_) (fun g C9 q1 q2 q3 q4 q5 q6 => ⟨rfl, by rw [mAply_1 q6]; exact q6, ⟨C9, q1, by rw [mAply_1 q6]; exact q3, q4, q5⟩, q2⟩) N 0 (by omega) _ C hw _ ha1 fa1 hh hl Sm.rf rfl (Nat.le_add_right _ _) hok hld (hl.nx z2 (-1) 0 (fun u hu => ⟨fun _ => Nat.zero_le u, fun _ => m1_lt (by omega)⟩))
  have ho3 := mAply_2 (tu := tu) ho1
  have hln := lNum_le L N
  have h40 := hl.2.1
  refine G.go tv_X6_applyAll 1 65 [(0, .ref (gAd E (13))), (1, .int ((-1 : Int32))), (2, .int (nI (lNum L N)))] [.ref (gAd E (13))] rfl ?_
  refine G.getf cls_X6 (13) 1 (by omega) (h1.q13) (by decide) rfl (tbd tv_X6_applyAll rfl) w_320 ?_
  refine G.callV (8) [] [] (r_se E _ N B gr C1 hz h1 hw1 hh1) cls_X0 (by omega) (h1.q8) cw_X6_109 w_762 w_763 (Nat.le_of_ble_eq_true rfl) rfl (Nat.le_of_ble_eq_true rfl) (tbd tv_X6_applyAll rfl) (fun v11 f11 q11 => ?_) (fun X g q => by obtain ⟨rfl, q2, ⟨C9, q3, q4, q5⟩, q6⟩ := q; have e9 := ho3.trans (by rw [hB_f q2, hB_f q2]); exact ⟨rfl, by rw [e9]; exact q2, ⟨C9, q3, by rw [e9]; exact q4, hs1.tr (q5.wk (by decide)), by have e15 : cA C9 15 = cA C1 15 := q5.2.1 15 (by decide); rw [e15]; exact hl1.2.2.2.2.2⟩, (hf1.tr q6 (fun _ h => h))⟩)
  obtain ⟨rfl, ht11, ⟨C11, hc11, hh11, hs11⟩, fa11⟩ := q11
  refine G.eqs [] rfl ?_
  have hl4 := hl1.sm hs11 (by decide)
  have hs4 := hs1.tr (hs11.wk (by decide))
  have ho4 := ho3.trans (by rw [hB_t ht11])
  obtain ⟨s1, s2, s3, s4, s5⟩ := aSe_all (N := N) (B := B) hw1
  have hp3 : hSp (aSe N hw1).2 + 40 < 2 ^ 31 := by omega
  generalize hgw4 : aSe N hw1 = o4 at ht11 hh11 hp3 ho4
  refine G.go tv_X6_applyAll 1 72 [(0, .ref (gAd E (13))), (1, .int ((-1 : Int32))), (2, .int (nI (lNum L N)))] [.ref (gAd E (13))] rfl ?_
  refine G.callV (13) [] [] (k_forgetEntries E _ N B gr C11 hz hc11) cls_X6 (by omega) (hc11.q13) cw_X6_70 w_779 w_7 (Nat.le_of_ble_eq_true rfl) rfl (Nat.le_of_ble_eq_true rfl) (tbd tv_X6_applyAll rfl) (fun v12 f12 q12 => ?_) (fun _ _ h => h.elim)
  obtain ⟨rfl, ha12, fa12⟩ := q12
  refine G.eqs [] rfl ?_
  have hl4b := hl4.clr
  have hs4c : Sm [1] C11 (sA (sS C11 1305 0) 16 (flt (cA C11 16) 0 N (-1))) := (Sm.s (by decide)).tr (Sm.a (by decide))
  have hh4b := hh11.sm hs4c (by decide)
  have hs4b := hs4.tr (hs4c.wk (by decide))
  generalize hge4 : sA (sS C11 1305 0) 16 (flt (cA C11 16) 0 N (-1)) = C4 at hl4b hh4b hs4b ha12
  have e6 : cS C4 1306 = tu := hl4b.2.2.1
  refine G.go tv_X6_applyAll 2 77 [(0, .ref (gAd E (13))), (1, .int ((-1 : Int32))), (2, .int (nI (lNum L N)))] [.ref (gAd E (13)), .ref (gAd E (13))] rfl ?_
  refine G.getf cls_X6 (13) 6 (by omega) (ha12.q13) (by decide) rfl (tbd tv_X6_applyAll rfl) w_328 ?_
  refine G.eqs [.int (tu), .ref (gAd E (13))] (by rw [e6]) ?_
  refine G.go tv_X6_applyAll 2 82 [(0, .ref (gAd E (13))), (1, .int ((-1 : Int32))), (2, .int (nI (lNum L N)))] [.int ((tu) + ((1 : Int32))), .ref (gAd E (13))] rfl ?_
  refine G.putfS cls_X6 (13) 6 [.ref (gAd E 2), .ref (gAd E 8), .ref (gAd E 14), .ref (gAd E 15), .ref (gAd E 16), .int (cS C4 1305), .int ((tu) + ((1 : Int32)))] (by omega) (ha12.q13) rfl (by decide) rfl rfl rfl (Nat.le_of_ble_eq_true rfl) (tbd tv_X6_applyAll rfl) w_328 ?_
  refine G.gen (P := fun w9 => CfV E w9 N B gr (sS (C4) 1306 ((tu) + ((1 : Int32)))) ∧ Fr CfK f w9) ⟨ha12.s1306 _, Fr.c ((hf1.tr fa11 (fun _ h => h)).tr fa12 (fun _ h => h)) (by first | exact Or.inl (by decide) | exact Or.inr (by omega))⟩ (fun u1 p1 => ?_)
  obtain ⟨h1, k1⟩ := p1
  refine G.go tv_X6_applyAll 1 86 [(0, .ref (gAd E (13))), (1, .int ((-1 : Int32))), (2, .int (nI (lNum L N)))] [.ref (gAd E (13))] rfl ?_
  refine G.getf cls_X6 (13) 1 (by omega) (h1.q13) (by decide) rfl (tbd tv_X6_applyAll rfl) w_320 ?_
  refine G.go tv_X6_applyAll 2 91 [(0, .ref (gAd E (13))), (1, .int ((-1 : Int32))), (2, .int (nI (lNum L N)))] [.ref (gAd E (13)), .int ((1 : Int32)), .ref (gAd E (8))] rfl ?_
  have hl5 := (hl4b.turn (v := tu + 1))
  have hh5 := hh4b.sm (C' := sS C4 1306 (tu + 1)) (L := [1]) (Sm.s (by decide)) (by decide)
  have hs5 := hs4b.tr ((Sm.s (by decide) : Sm [1] C4 (sS C4 1306 (tu + 1))).wk (by decide))
  have hc5 := h1
  generalize hge5 : sS C4 1306 (tu + 1) = C5 at hl5 hh5 hs5 hc5
  have hlen5 : (cS C5 1305).toNatClampNeg = ([] : List En).length := by rw [hl5.1]; exact nI_clamp (by decide)
  refine G.callV (13) [] [.int ((1 : Int32)), .ref (gAd E (8))] (k_head E _ N B gr C5 hz hc5 hh5.1 hh5.2.1.2.2.1 hl5.lz) cls_X6 (by omega) (hc5.q13) cw_X6_73 w_783 w_8 (Nat.le_of_ble_eq_true rfl) rfl (Nat.le_of_ble_eq_true rfl) (tbd tv_X6_applyAll rfl) (fun v13 f13 q13 => ?_) (fun _ _ h => h.elim)
  obtain ⟨rfl, ha13, fa13⟩ := q13
  refine G.eqs [.ref (gAd E (15)), .int ((1 : Int32)), .ref (gAd E (8))] rfl ?_
  have hl6 := hl5.scr (hdRow_byt (d := dkOf C5) (nt := (cS C5 1305).toNatClampNeg) (tu := cS C5 1306) hl5.2.2.2.2.2)
  have hh6 := hh5.sm (C' := sA C5 15 (hdRow (dkOf C5) (cS C5 1305).toNatClampNeg (cS C5 1306) (cA C5 15))) (L := [1]) (Sm.a (by decide)) (by decide)
  have hs6 := hs5.tr ((Sm.a (by decide) : Sm [1] C5 (sA C5 15 (hdRow (dkOf C5) (cS C5 1305).toNatClampNeg (cS C5 1306) (cA C5 15)))).wk (by decide))
  have hhd : nr (hdRow (dkOf C5) (cS C5 1305).toNatClampNeg (cS C5 1306) (cA C5 15)) = mHd [] (tu + 1) := by rw [hlen5, hl5.2.2.1]; exact hdRow_eq (by decide) (fun z => absurd rfl z) (fun k hk => absurd hk (Nat.not_lt_zero k))
  generalize hge6 : sA C5 15 (hdRow (dkOf C5) (cS C5 1305).toNatClampNeg (cS C5 1306) (cA C5 15)) = C6 at hl6 hh6 hs6 ha13
  have hhd : nr (cA C6 15) = mHd [] (tu + 1) := by rw [← hge6]; exact hhd
  refine G.eqs [.ref (gAd E (15)), .int (nI 1), .ref (gAd E (8))] rfl ?_
  refine G.callV (8) [.int (nI 1), .ref (gAd E (15))] [] (r_plY E _ N B gr C6 hz ha13 o4.2 hh6 (show hSp o4.2 + 1 < 2 ^ 31 by omega) 1 15 (cA C6 15) (mHd [] (tu + 1)) hhd (by omega) (by omega) (ha13.q15) hl6.2.2.2.2.2 (by unfold DBK DkK BfK; omega)) cls_X0 (by omega) (ha13.q8) cw_X6_77 w_718 w_719 (Nat.le_of_ble_eq_true rfl) rfl (Nat.le_of_ble_eq_true rfl) (tbd tv_X6_applyAll rfl) (fun v14 f14 q14 => ?_) (fun X g q => by obtain ⟨rfl, q2, ⟨C9, q3, q4, q5⟩, q6⟩ := q; have e9 := ho4.trans (hB_f q2); exact ⟨rfl, by rw [e9]; exact q2, ⟨C9, q3, by rw [e9]; exact q4, hs6.tr (q5.wk (by decide)), by have e15 : cA C9 15 = cA C6 15 := q5.2.1 15 (by decide); rw [e15]; exact hl6.2.2.2.2.2⟩, ((k1.tr fa13 (fun _ h => h)).tr q6 (fun _ h => h))⟩)
  obtain ⟨rfl, ht14, ⟨C14, hc14, hh14, hs14⟩, fa14⟩ := q14
  refine G.eqs [] rfl ?_
  have hl7 := hl6.sm hs14 (by decide)
  have hs7 := hs6.tr (hs14.wk (by decide))
  have ho7 := ho4.trans (hB_t ht14)
  refine G.go tv_X6_applyAll 1 98 [(0, .ref (gAd E (13))), (1, .int ((-1 : Int32))), (2, .int (nI (lNum L N)))] [.ref (gAd E (13))] rfl ?_
  refine G.getf cls_X6 (13) 1 (by omega) (hc14.q13) (by decide) rfl (tbd tv_X6_applyAll rfl) w_320 ?_
  refine G.callV (8) [] [] (r_se E _ N B gr C14 hz hc14 _ hh14) cls_X0 (by omega) (hc14.q8) cw_X6_109 w_762 w_763 (Nat.le_of_ble_eq_true rfl) rfl (Nat.le_of_ble_eq_true rfl) (tbd tv_X6_applyAll rfl) (fun v15 f15 q15 => ?_) (fun X g q => by obtain ⟨rfl, q2, ⟨C9, q3, q4, q5⟩, q6⟩ := q; have e9 := ho7; exact ⟨rfl, by rw [e9]; exact q2, ⟨C9, q3, by rw [e9]; exact q4, hs7.tr (q5.wk (by decide)), by have e15 : cA C9 15 = cA C14 15 := q5.2.1 15 (by decide); rw [e15]; exact hl7.2.2.2.2.2⟩, (((k1.tr fa13 (fun _ h => h)).tr fa14 (fun _ h => h)).tr q6 (fun _ h => h))⟩)
  obtain ⟨rfl, ht15, ⟨C15, hc15, hh15, hs15⟩, fa15⟩ := q15
  refine G.eqs [] rfl ?_
  exact G.vret rfl ⟨rfl, by rw [ho7]; exact ht15, ⟨C15, hc15, by rw [ho7]; exact hh15, hl7.sm hs15 (by decide), hs7.tr (hs15.wk (by decide))⟩, (((k1.tr fa13 (fun _ h => h)).tr fa14 (fun _ h => h)).tr fa15 (fun _ h => h))⟩ (tbd tv_X6_applyAll rfl)
set_option maxRecDepth 100000 in
set_option maxHeartbeats 4000000 in
theorem r_apply0 (E : gE) (f : Nat → va_E) (N B gr : Nat) (C : CfT) (hz : CfZ E N B gr) (h : CfV E f N B gr C) (hw : Hw) (hh : HwR N B 1 hw C) (hok : HOk N B hw) (hsp : hSp hw + 100 < 2 ^ 31) (L : List En) (tu : Int32) (hl : LgR N C L tu) (hld : LgD hw L) (h0 : L.length = 0) : Ct E 9 yX6_applyAll cX6_applyAll 3 none [.ref (gAd E (13))] f (Rz E N B gr f (true, hw) (fun C' => LgR N C' L tu ∧ Sm [0, 1] C C') (fun C' => Sm [0, 1] C C' ∧ Byt (cA C' 15))) := by
  obtain ⟨z1, z2, z3, z4, z5, z6, z7⟩ := id hz
  refine Ct.of (by decide) (Nat.le_of_ble_eq_true rfl) (fun sz => ?_)
  refine G.eql [(0, .ref (gAd E (13)))] rfl ?_
  refine G.go tv_X6_applyAll 1 1 [(0, .ref (gAd E (13)))] [.ref (gAd E (13))] rfl ?_
  refine G.getf cls_X6 (13) 5 (by omega) (h.q13) (by decide) rfl (tbd tv_X6_applyAll rfl) w_325 ?_
  refine G.eqs [.int (nI L.length)] (by rw [hl.1]) ?_
  refine G.if_ne 8 (tbd tv_X6_applyAll rfl) (by decide) (fun c4 => absurd ((by rw [h0]; rfl : nI L.length = 0)) c4) (fun c4 => ?_)
  exact G.vret rfl ⟨rfl, rfl, ⟨C, h, hh, hl, Sm.rf⟩, Fr.rf⟩ (tbd tv_X6_applyAll rfl)
theorem r_applyAll (E : gE) (f : Nat → va_E) (N B gr : Nat) (C : CfT) (hz : CfZ E N B gr) (h : CfV E f N B gr C) (hw : Hw) (hh : HwR N B 1 hw C) (hok : HOk N B hw) (hsp : hSp hw + 100 < 2 ^ 31) (L : List En) (tu : Int32) (hl : LgR N C L tu) (hld : LgD hw L) : Ct E 9 yX6_applyAll cX6_applyAll 3 none [.ref (gAd E (13))] f (Rz E N B gr f (aApl N B L tu hw) (fun C' => LgR N C' (lApl L tu).1 (lApl L tu).2 ∧ Sm [0, 1] C C') (fun C' => Sm [0, 1] C C' ∧ Byt (cA C' 15))) := by
  unfold aApl lApl
  by_cases c : L.length = 0
  · rw [if_pos c, if_pos c]
    exact r_apply0 E f N B gr C hz h hw hh hok hsp L tu hl hld c
  · rw [if_neg c, if_neg c]
    exact r_apply1 E f N B gr C hz h hw hh hok hsp L tu hl hld (by omega)
