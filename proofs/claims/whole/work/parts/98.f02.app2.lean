section CLB
theorem LgR.turn {N : Nat} {C : CfT} {L : List En} {tu v : Int32} (h : LgR N C L tu) : LgR N (sS C 1306 v) L v := by
  obtain ⟨h1, h2, h3, h4, h5, h6⟩ := h
  exact ⟨h1, h2, rfl, h4, h5, h6⟩
theorem LgR.scr {N : Nat} {C : CfT} {L : List En} {tu : Int32} {x : Nat → Int32} (h : LgR N C L tu) (hx : Byt x) : LgR N (sA C 15 x) L tu := by
  obtain ⟨h1, h2, h3, h4, h5, h6⟩ := h
  exact ⟨h1, h2, h3, h4, h5, hx⟩
theorem mVals_all {N B : Nat} (hN : 61 ≤ N) : ∀ (bt : List En) (e : Nat) (h : Hw), e + bt.length ≤ 40 → HOk N B h → HOk N B (mVals N B e bt h).2 ∧ hSp (mVals N B e bt h).2 ≤ hSp h + bt.length ∧ ((mVals N B e bt h).1 = true → ∀ u, hSee (mVals N B e bt h).2 u = if 3 + e ≤ u ∧ u < 3 + e + bt.length then (lAt bt (u - 3 - e)).2 else hSee h u)
  | [], e, h, _, ho => ⟨ho, Nat.le_refl _, fun _ u => by rw [if_neg (by show ¬ (_ ∧ u < 3 + e + 0); omega)]; rfl⟩
  | p :: l, e, h, hl, ho => by
    have hl : e + (l.length + 1) ≤ 40 := hl
    have ok1 := aPl_ok (x := p.2) ho (show 3 + e < N by omega)
    have sp1 := aPl_sp (N := N) (B := B) (t := 3 + e) (x := p.2) (h := h)
    have sp1 : hSp (aPl N B (3 + e) p.2 h).2 ≤ hSp h + 1 := sp1
    cases c : (aPl N B (3 + e) p.2 h).1 with
    | false =>
      have q : mVals N B e (p :: l) h = aPl N B (3 + e) p.2 h := hB_f c
      rw [q]
      exact ⟨ok1, by show _ ≤ hSp h + (l.length + 1); omega, fun z => by rw [c] at z; cases z⟩
    | true =>
      have q : mVals N B e (p :: l) h = mVals N B (e + 1) l (aPl N B (3 + e) p.2 h).2 := hB_t c
      rw [q]
      obtain ⟨a1, a2, a3⟩ := mVals_all hN l (e + 1) (aPl N B (3 + e) p.2 h).2 (by omega) ok1
      refine ⟨a1, by show _ ≤ hSp h + (l.length + 1); omega, fun z u => ?_⟩
      rw [a3 z u, aPl_see ho c]
      show (if 3 + (e + 1) ≤ u ∧ u < 3 + (e + 1) + l.length then (lAt l (u - 3 - (e + 1))).2 else if u = 3 + e then p.2 else hSee h u) = if 3 + e ≤ u ∧ u < 3 + e + (l.length + 1) then (lAt (p :: l) (u - 3 - e)).2 else hSee h u
      by_cases c1 : 3 + (e + 1) ≤ u ∧ u < 3 + (e + 1) + l.length
      · rw [if_pos c1, if_pos (by omega), show u - 3 - e = (u - 3 - (e + 1)) + 1 by omega]
        rfl
      · rw [if_neg c1]
        by_cases c2 : u = 3 + e
        · rw [if_pos c2, if_pos (by omega), show u - 3 - e = 0 by omega]
          rfl
        · rw [if_neg c2, if_neg (by omega)]
/-- an outcome: it went on, or the power failed -/
def Rz (E : gE) (N B gr : Nat) (f : Nat → va_E) (o : Bool × Hw) (Rn Rx : CfT → Prop) : gQ := (fun v g => v = none ∧ o.1 = true ∧ (∃ C', CfV E g N B gr C' ∧ HwR N B 1 o.2 C' ∧ Rn C') ∧ Fr CfK f g, fun X g => X = "java/lang/UnsupportedOperationException" ∧ o.1 = false ∧ (∃ C', CfV E g N B gr C' ∧ HwR N B 0 (hFl o.2) C' ∧ Rx C') ∧ Fr CfK f g)
theorem r_plY (E : gE) (f : Nat → va_E) (N B gr : Nat) (C : CfT) (hz : CfZ E N B gr) (h : CfV E f N B gr C) (hw : Hw) (hh : HwR N B 1 hw C) (hm : hw.2.1.2.2.1 + 1 < 2 ^ 31) (t kv : Nat) (x : Nat → Int32) (y : Rw) (hy : nr x = y) (ht : t < N) (hk : kv < gN E) (hv : f kv = oB (gDA E) 128 x) (hx : Byt x) (hkv : ¬ DBK N B kv) : Ct E 8 yX0_place cX0_place 4 none [.ref (gAd E (8)), .int (nI t), .ref (gAd E (kv))] f (Rs E N B gr f (aPl N B t y hw) (Sm [0] C)) := by
  subst hy
  exact r_pl E f N B gr C hz h hw hh hm t kv x ht hk hv hx hkv
theorem HwR.rd {N B : Nat} {on : Int32} {h : Hw} {C : CfT} (c : HwR N B on h C) (hN : N ≤ 1024) {t : Nat} (ht : t < N) : nr (dRead (dkOf C) t) = aRd h.1 t := CDk.read (show CDk N h.1 (dkOf C) from c.2.1.1) hN ht
theorem HwR.qrd {N B : Nat} {on : Int32} {h : Hw} {C : CfT} (c : HwR N B on h C) (hN : N ≤ 1024) (q : Quiet N h) {t : Nat} (ht : t < N) : nr (dRead (dkOf C) t) = hSee h t := by
  rw [c.rd hN ht, hSee_n (q.2 t ht)]
end CLB
theorem mApp_1 {N B : Nat} {L bt : List En} {tu : Int32} {h : Hw} (e : (mVals N B L.length bt h).1 = false) : mApp N B L tu bt h = mVals N B L.length bt h := by
  unfold mApp
  rw [hB_f e, hB_f e, hB_f e, hB_f e]
theorem mApp_2 {N B : Nat} {L bt : List En} {tu : Int32} {h h1 : Hw} (e : mVals N B L.length bt h = (true, h1)) (e2 : (aPl N B 2 (mNm (L ++ bt)) h1).1 = false) : mApp N B L tu bt h = aPl N B 2 (mNm (L ++ bt)) h1 := by
  unfold mApp
  rw [e, hB_t (o := (true, h1)) rfl, hB_f e2, hB_f e2, hB_f e2]
theorem mApp_3 {N B : Nat} {L bt : List En} {tu : Int32} {h h1 : Hw} (e : mVals N B L.length bt h = (true, h1)) (e2 : (aPl N B 2 (mNm (L ++ bt)) h1).1 = true) : mApp N B L tu bt h = hB (hB (aSe N (aPl N B 2 (mNm (L ++ bt)) h1).2) (aPl N B 1 (mHd (L ++ bt) (tu + 1)))) (aSe N) := by
  unfold mApp
  rw [e, hB_t (o := (true, h1)) rfl, hB_t e2]
theorem w_1303 : Cond.methodLink "LedgerFiles$Log" 106 yX6_numbers ∈ TB := tp_5 197 (by decide +kernel) rfl
theorem w_1306 : Cond.code yX6_numbers prog_8_method_7_code 2 (some (.array .byte)) ∈ TB := tp_5 200 rfl rfl
theorem cw_X6_106 : Cw RX6 106 yX6_numbers cX6_numbers 2 (some (.array .byte)) 0 := ⟨w_1303, w_1306, w_153, by decide +kernel, by decide +kernel, by decide⟩
theorem w_1305 : Cond.instanceMethod yX6_numbers ∈ TB := tp_5 199 (by decide +kernel) rfl
theorem w_25 : Cond.selects "LedgerFiles$Log" yX6_numbers yX6_numbers ∈ TB := tp_0 25 (by decide +kernel) rfl
theorem w_893 : Cond.methodLink "LedgerFiles$Log" 109 yX0_settle ∈ TB := tp_4 27 (by decide +kernel) rfl
theorem cw_X6_109 : Cw RX6 109 yX0_settle cX0_settle 3 none 0 := ⟨w_893, w_764, w_152, by decide +kernel, by decide +kernel, by decide⟩
set_option maxRecDepth 100000 in
set_option maxHeartbeats 4000000 in
theorem r_append (E : gE) (f : Nat → va_E) (N B gr : Nat) (C : CfT) (hz : CfZ E N B gr) (h : CfV E f N B gr C) (hw : Hw) (hh : HwR N B 1 hw C) (hok : HOk N B hw) (hsp : hSp hw + 50 < 2 ^ 31) (L bt : List En) (tu : Int32) (r : Nat → Nat) (hl : LgR N C L tu) (hdk : ∀ k, k < L.length → hSee hw (3 + k) = (lAt L k).2) (hb : BtR N gr C bt r) (hlen : L.length + bt.length ≤ 40) : Ct E 9 yX6_append cX6_append 4 none [.ref (gAd E (13)), .ref (gAd E (17))] f (Rz E N B gr f (mApp N B L tu bt hw) (fun C' => LgR N C' (L ++ bt) (tu + 1) ∧ Sm [0, 1] C C') (fun C' => Sm [0, 1] C C' ∧ Byt (cA C' 15))) := by
  obtain ⟨z1, z2, z3, z4, z5, z6, z7⟩ := id hz
  refine Ct.of (by decide) (Nat.le_of_ble_eq_true rfl) (fun sz => ?_)
  refine G.eql [(0, .ref (gAd E (13))), (1, .ref (gAd E (17)))] rfl ?_
  refine G.go tv_X6_append 2 2 [(0, .ref (gAd E (13))), (1, .ref (gAd E (17))), (2, .int ((0 : Int32)))] [] rfl ?_
  refine G.eql [(0, .ref (gAd E (13))), (1, .ref (gAd E (17))), (2, .int (nI (0)))] rfl ?_
  refine ap_l E f _ _ (Rz E N B gr f (mApp N B L tu bt hw) (fun C' => LgR N C' (L ++ bt) (tu + 1) ∧ Sm [0, 1] C C') (fun C' => Sm [0, 1] C C' ∧ Byt (cA C' 15))) N B gr C hz L bt tu hw r hb hlen hsp (fun g C1 hw1 h1 hf1 hh1 hl1 hs1 ho1 hsp1 => ?_) (fun g C9 q1 q2 q3 q4 q5 q6 => ⟨rfl, by rw [mApp_1 q6]; exact q6, ⟨C9, q1, by rw [mApp_1 q6]; exact q3, q4, q5⟩, q2⟩) bt.length 0 (by omega) _ C hw h Fr.rf hh (by rw [List.take_zero, List.append_nil]; exact hl) Sm.rf rfl (Nat.le_refl _)
  obtain ⟨v1, v2, v3⟩ := mVals_all (N := N) (B := B) (by omega) bt L.length hw hlen hok
  rw [ho1] at v1 v2 v3
  have hok1 : HOk N B hw1 := v1
  have v3 := v3 rfl
  have hval : ∀ k, k < (L ++ bt).length → hSee hw1 (3 + k) = (lAt (L ++ bt) k).2 := fun k hk => by
    rw [List.length_append] at hk
    rw [v3 (3 + k)]
    by_cases ck : k < L.length
    · rw [if_neg (by omega), lAt_app ck]
      exact hdk k ck
    · rw [if_pos (by omega), show 3 + k - 3 - L.length = k - L.length by omega]
      have e := lAt_end (L := L) (M := bt) (k := k - L.length)
      rw [show L.length + (k - L.length) = k by omega] at e
      rw [e]
  refine G.go tv_X6_append 1 53 [(0, .ref (gAd E (13))), (1, .ref (gAd E (17))), (2, .int (nI (bt.length)))] [.ref (gAd E (13))] rfl ?_
  refine G.getf cls_X6 (13) 1 (by omega) (h1.q13) (by decide) rfl (tbd tv_X6_append rfl) w_320 ?_
  refine G.go tv_X6_append 2 58 [(0, .ref (gAd E (13))), (1, .ref (gAd E (17))), (2, .int (nI (bt.length)))] [.ref (gAd E (13)), .int ((2 : Int32)), .ref (gAd E (8))] rfl ?_
  refine G.callV (13) [] [.int ((2 : Int32)), .ref (gAd E (8))] (k_numbers E _ N B gr C1 hz h1 (L ++ bt).length hl1.1 hl1.2.1) cls_X6 (by omega) (h1.q13) cw_X6_106 w_1305 w_25 (Nat.le_of_ble_eq_true rfl) rfl (Nat.le_of_ble_eq_true rfl) (tbd tv_X6_append rfl) (fun v11 f11 q11 => ?_) (fun _ _ h => h.elim)
  obtain ⟨rfl, ha11, fa11⟩ := q11
  refine G.eqs [.ref (gAd E (15)), .int ((2 : Int32)), .ref (gAd E (8))] rfl ?_
  have hby : Byt (nmR (cA C1 14) (flt (cA C1 15) 0 128 (vp_nar .byte ((0 : Int32)))) (L ++ bt).length) := nmR_b (Byt_flt hl1.2.2.2.2.2 rfl) _
  have hl2 := hl1.scr hby
  have hh2 := hh1.sm (C' := sA C1 15 (nmR (cA C1 14) (flt (cA C1 15) 0 128 (vp_nar .byte ((0 : Int32)))) (L ++ bt).length)) (L := [1]) (Sm.a (by decide)) (by decide)
  have hs2 := hs1.tr ((Sm.a (by decide) : Sm [1] C1 (sA C1 15 (nmR (cA C1 14) (flt (cA C1 15) 0 128 (vp_nar .byte ((0 : Int32)))) (L ++ bt).length))).wk (by decide))
  generalize hge2 : (sA C1 15 (nmR (cA C1 14) (flt (cA C1 15) 0 128 (vp_nar .byte ((0 : Int32)))) (L ++ bt).length)) = C2 at hl2 hh2 hs2 ha11
  have h15 : cA C2 15 = nmR (cA C1 14) (flt (cA C1 15) 0 128 (vp_nar .byte ((0 : Int32)))) (L ++ bt).length := by rw [← hge2]; rfl
  have hnm : nr (cA C2 15) = mNm (L ++ bt) := by rw [h15]; exact hl1.nums
  refine G.eqs [.ref (gAd E (15)), .int (nI 2), .ref (gAd E (8))] rfl ?_
  refine G.callV (8) [.int (nI 2), .ref (gAd E (15))] [] (r_plY E _ N B gr C2 hz ha11 hw1 hh2 (show hSp hw1 + 1 < 2 ^ 31 by omega) 2 15 (cA C2 15) (mNm (L ++ bt)) hnm (by omega) (by omega) (ha11.q15) hl2.2.2.2.2.2 (by unfold DBK DkK BfK; omega)) cls_X0 (by omega) (ha11.q8) cw_X6_77 w_718 w_719 (Nat.le_of_ble_eq_true rfl) rfl (Nat.le_of_ble_eq_true rfl) (tbd tv_X6_append rfl) (fun v12 f12 q12 => ?_) (fun X g q => by obtain ⟨rfl, q2, ⟨C9, q3, q4, q5⟩, q6⟩ := q; have e9 := mApp_2 (tu := tu) ho1 q2; exact ⟨rfl, by rw [e9]; exact q2, ⟨C9, q3, by rw [e9]; exact q4, hs2.tr (q5.wk (by decide)), by have e15 : cA C9 15 = cA C2 15 := q5.2.1 15 (by decide); rw [e15]; exact hl2.2.2.2.2.2⟩, ((hf1.tr fa11 (fun _ h => h)).tr q6 (fun _ h => h))⟩)
  obtain ⟨rfl, ht12, ⟨C12, hc12, hh12, hs12⟩, fa12⟩ := q12
  refine G.eqs [] rfl ?_
  have hl3 := hl2.sm hs12 (by decide)
  have hs3 := hs2.tr (hs12.wk (by decide))
  have ho3 := mApp_3 (tu := tu) ho1 ht12
  have hok2 := aPl_ok (x := mNm (L ++ bt)) hok1 (show 2 < N by omega)
  have hse2 := fun u => aPl_see (u := u) hok1 ht12
  have hp2 := aPl_sp (N := N) (B := B) (t := 2) (x := mNm (L ++ bt)) (h := hw1)
  have hp2 : hSp (aPl N B 2 (mNm (L ++ bt)) hw1).2 ≤ hSp hw1 + 1 := hp2
  generalize hgw2 : (aPl N B 2 (mNm (L ++ bt)) hw1) = o2 at ht12 hh12 hok2 hse2 hp2 ho3
  refine G.go tv_X6_append 1 65 [(0, .ref (gAd E (13))), (1, .ref (gAd E (17))), (2, .int (nI (bt.length)))] [.ref (gAd E (13))] rfl ?_
  refine G.getf cls_X6 (13) 1 (by omega) (hc12.q13) (by decide) rfl (tbd tv_X6_append rfl) w_320 ?_
  refine G.callV (8) [] [] (r_se E _ N B gr C12 hz hc12 o2.2 hh12) cls_X0 (by omega) (hc12.q8) cw_X6_109 w_762 w_763 (Nat.le_of_ble_eq_true rfl) rfl (Nat.le_of_ble_eq_true rfl) (tbd tv_X6_append rfl) (fun v13 f13 q13 => ?_) (fun X g q => by obtain ⟨rfl, q2, ⟨C9, q3, q4, q5⟩, q6⟩ := q; have e9 := ho3.trans (by rw [hB_f q2, hB_f q2]); exact ⟨rfl, by rw [e9]; exact q2, ⟨C9, q3, by rw [e9]; exact q4, hs3.tr (q5.wk (by decide)), by have e15 : cA C9 15 = cA C12 15 := q5.2.1 15 (by decide); rw [e15]; exact hl3.2.2.2.2.2⟩, (((hf1.tr fa11 (fun _ h => h)).tr fa12 (fun _ h => h)).tr q6 (fun _ h => h))⟩)
  obtain ⟨rfl, ht13, ⟨C13, hc13, hh13, hs13⟩, fa13⟩ := q13
  refine G.eqs [] rfl ?_
  have hl4 := hl3.sm hs13 (by decide)
  have hs4 := hs3.tr (hs13.wk (by decide))
  have ho4 : mApp N B L tu bt hw = hB (aPl N B 1 (mHd (L ++ bt) (tu + 1)) (aSe N o2.2).2) (aSe N) := ho3.trans (by rw [hB_t ht13])
  obtain ⟨s1, s2, s3, s4, s5⟩ := aSe_all (N := N) (B := B) o2.2
  have hqu : Quiet N (aSe N o2.2).2 := s5 ht13
  have hse3 : ∀ u, hSee (aSe N o2.2).2 u = if u = 2 then mNm (L ++ bt) else hSee hw1 u := fun u => (s1 u).trans (hse2 u)
  have hp3 : hSp (aSe N o2.2).2 ≤ hSp hw1 + 1 := by omega
  generalize hgw4 : aSe N o2.2 = o4 at ht13 hh13 hqu hse3 hp3 ho4
  have e6 : cS C13 1306 = tu := hl4.2.2.1
  refine G.go tv_X6_append 2 73 [(0, .ref (gAd E (13))), (1, .ref (gAd E (17))), (2, .int (nI (bt.length)))] [.ref (gAd E (13)), .ref (gAd E (13))] rfl ?_
  refine G.getf cls_X6 (13) 6 (by omega) (hc13.q13) (by decide) rfl (tbd tv_X6_append rfl) w_328 ?_
  refine G.eqs [.int (tu), .ref (gAd E (13))] (by rw [e6]) ?_
  refine G.go tv_X6_append 2 78 [(0, .ref (gAd E (13))), (1, .ref (gAd E (17))), (2, .int (nI (bt.length)))] [.int ((tu) + ((1 : Int32))), .ref (gAd E (13))] rfl ?_
  refine G.putfS cls_X6 (13) 6 [.ref (gAd E 2), .ref (gAd E 8), .ref (gAd E 14), .ref (gAd E 15), .ref (gAd E 16), .int (cS C13 1305), .int ((tu) + ((1 : Int32)))] (by omega) (hc13.q13) rfl (by decide) rfl rfl rfl (Nat.le_of_ble_eq_true rfl) (tbd tv_X6_append rfl) w_328 ?_
  refine G.gen (P := fun w9 => CfV E w9 N B gr (sS (C13) 1306 ((tu) + ((1 : Int32)))) ∧ Fr CfK f w9) ⟨hc13.s1306 _, Fr.c (((hf1.tr fa11 (fun _ h => h)).tr fa12 (fun _ h => h)).tr fa13 (fun _ h => h)) (by first | exact Or.inl (by decide) | exact Or.inr (by omega))⟩ (fun u1 p1 => ?_)
  obtain ⟨h1, k1⟩ := p1
  refine G.go tv_X6_append 1 82 [(0, .ref (gAd E (13))), (1, .ref (gAd E (17))), (2, .int (nI (bt.length)))] [.ref (gAd E (13))] rfl ?_
  refine G.getf cls_X6 (13) 1 (by omega) (h1.q13) (by decide) rfl (tbd tv_X6_append rfl) w_320 ?_
  refine G.go tv_X6_append 2 87 [(0, .ref (gAd E (13))), (1, .ref (gAd E (17))), (2, .int (nI (bt.length)))] [.ref (gAd E (13)), .int ((1 : Int32)), .ref (gAd E (8))] rfl ?_
  have hl5 := (hl4.turn (v := tu + 1))
  have hh5 := hh13.sm (C' := sS C13 1306 (tu + 1)) (L := [1]) (Sm.s (by decide)) (by decide)
  have hs5 := hs4.tr ((Sm.s (by decide) : Sm [1] C13 (sS C13 1306 (tu + 1))).wk (by decide))
  have hc5 := h1
  generalize hge5 : sS C13 1306 (tu + 1) = C5 at hl5 hh5 hs5 hc5
  have hlen5 : (cS C5 1305).toNatClampNeg = (L ++ bt).length := by rw [hl5.1]; exact nI_clamp (by have := hl5.2.1; omega)
  refine G.callV (13) [] [.int ((1 : Int32)), .ref (gAd E (8))] (k_head E _ N B gr C5 hz hc5 hh5.1 hh5.2.1.2.2.1 hl5.lz) cls_X6 (by omega) (hc5.q13) cw_X6_73 w_783 w_8 (Nat.le_of_ble_eq_true rfl) rfl (Nat.le_of_ble_eq_true rfl) (tbd tv_X6_append rfl) (fun v14 f14 q14 => ?_) (fun _ _ h => h.elim)
  obtain ⟨rfl, ha14, fa14⟩ := q14
  refine G.eqs [.ref (gAd E (15)), .int ((1 : Int32)), .ref (gAd E (8))] rfl ?_
  have hl6 := hl5.scr (hdRow_byt (d := dkOf C5) (nt := (cS C5 1305).toNatClampNeg) (tu := cS C5 1306) hl5.2.2.2.2.2)
  have hh6 := hh5.sm (C' := sA C5 15 (hdRow (dkOf C5) (cS C5 1305).toNatClampNeg (cS C5 1306) (cA C5 15))) (L := [1]) (Sm.a (by decide)) (by decide)
  have hs6 := hs5.tr ((Sm.a (by decide) : Sm [1] C5 (sA C5 15 (hdRow (dkOf C5) (cS C5 1305).toNatClampNeg (cS C5 1306) (cA C5 15)))).wk (by decide))
  have hhd : nr (hdRow (dkOf C5) (cS C5 1305).toNatClampNeg (cS C5 1306) (cA C5 15)) = mHd (L ++ bt) (tu + 1) := by rw [hlen5, hl5.2.2.1]; exact hdRow_eq hl5.2.1 (fun _ => by rw [hh5.qrd z2 hqu (by omega), hse3, if_pos rfl]) (fun k hk => by rw [hh5.qrd z2 hqu (by have := hl5.2.1; omega), hse3, if_neg (by omega)]; exact hval k hk)
  generalize hge6 : sA C5 15 (hdRow (dkOf C5) (cS C5 1305).toNatClampNeg (cS C5 1306) (cA C5 15)) = C6 at hl6 hh6 hs6 ha14
  have hhd : nr (cA C6 15) = mHd (L ++ bt) (tu + 1) := by rw [← hge6]; exact hhd
  have ho5 := ho4
  refine G.eqs [.ref (gAd E (15)), .int (nI 1), .ref (gAd E (8))] rfl ?_
  refine G.callV (8) [.int (nI 1), .ref (gAd E (15))] [] (r_plY E _ N B gr C6 hz ha14 o4.2 hh6 (show hSp o4.2 + 1 < 2 ^ 31 by omega) 1 15 (cA C6 15) (mHd (L ++ bt) (tu + 1)) hhd (by omega) (by omega) (ha14.q15) hl6.2.2.2.2.2 (by unfold DBK DkK BfK; omega)) cls_X0 (by omega) (ha14.q8) cw_X6_77 w_718 w_719 (Nat.le_of_ble_eq_true rfl) rfl (Nat.le_of_ble_eq_true rfl) (tbd tv_X6_append rfl) (fun v15 f15 q15 => ?_) (fun X g q => by obtain ⟨rfl, q2, ⟨C9, q3, q4, q5⟩, q6⟩ := q; have e9 := ho5.trans (hB_f q2); exact ⟨rfl, by rw [e9]; exact q2, ⟨C9, q3, by rw [e9]; exact q4, hs6.tr (q5.wk (by decide)), by have e15 : cA C9 15 = cA C6 15 := q5.2.1 15 (by decide); rw [e15]; exact hl6.2.2.2.2.2⟩, ((k1.tr fa14 (fun _ h => h)).tr q6 (fun _ h => h))⟩)
  obtain ⟨rfl, ht15, ⟨C15, hc15, hh15, hs15⟩, fa15⟩ := q15
  refine G.eqs [] rfl ?_
  have hl7 := hl6.sm hs15 (by decide)
  have hs7 := hs6.tr (hs15.wk (by decide))
  have ho7 := ho5.trans (hB_t ht15)
  refine G.go tv_X6_append 1 94 [(0, .ref (gAd E (13))), (1, .ref (gAd E (17))), (2, .int (nI (bt.length)))] [.ref (gAd E (13))] rfl ?_
  refine G.getf cls_X6 (13) 1 (by omega) (hc15.q13) (by decide) rfl (tbd tv_X6_append rfl) w_320 ?_
  refine G.callV (8) [] [] (r_se E _ N B gr C15 hz hc15 _ hh15) cls_X0 (by omega) (hc15.q8) cw_X6_109 w_762 w_763 (Nat.le_of_ble_eq_true rfl) rfl (Nat.le_of_ble_eq_true rfl) (tbd tv_X6_append rfl) (fun v16 f16 q16 => ?_) (fun X g q => by obtain ⟨rfl, q2, ⟨C9, q3, q4, q5⟩, q6⟩ := q; have e9 := ho7; exact ⟨rfl, by rw [e9]; exact q2, ⟨C9, q3, by rw [e9]; exact q4, hs7.tr (q5.wk (by decide)), by have e15 : cA C9 15 = cA C15 15 := q5.2.1 15 (by decide); rw [e15]; exact hl7.2.2.2.2.2⟩, (((k1.tr fa14 (fun _ h => h)).tr fa15 (fun _ h => h)).tr q6 (fun _ h => h))⟩)
  obtain ⟨rfl, ht16, ⟨C16, hc16, hh16, hs16⟩, fa16⟩ := q16
  refine G.eqs [] rfl ?_
  exact G.vret rfl ⟨rfl, by rw [ho7]; exact ht16, ⟨C16, hc16, by rw [ho7]; exact hh16, hl7.sm hs16 (by decide), hs7.tr (hs16.wk (by decide))⟩, (((k1.tr fa14 (fun _ h => h)).tr fa15 (fun _ h => h)).tr fa16 (fun _ h => h))⟩ (tbd tv_X6_append rfl)
