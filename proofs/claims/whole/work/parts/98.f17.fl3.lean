theorem w_1307 : Cond.methodLink "LedgerFiles$Queue" 107 yX9_wakeForQueue ∈ TB := tp_5 201 (by decide +kernel) rfl
theorem w_1310 : Cond.code yX9_wakeForQueue prog_11_method_9_code 2 none ∈ TB := tp_5 204 rfl rfl
theorem cw_X9_107 : Cw RX9 107 yX9_wakeForQueue cX9_wakeForQueue 2 none 0 := ⟨w_1307, w_1310, w_154, by decide +kernel, by decide +kernel, by decide⟩
theorem w_1309 : Cond.instanceMethod yX9_wakeForQueue ∈ TB := tp_5 203 (by decide +kernel) rfl
theorem w_26 : Cond.selects "LedgerFiles$Queue" yX9_wakeForQueue yX9_wakeForQueue ∈ TB := tp_0 26 (by decide +kernel) rfl
set_option maxRecDepth 100000 in
set_option maxHeartbeats 4000000 in
theorem r_flushAll (E : gE) (f : Nat → va_E) (N B gr : Nat) (C : CfT) (hz : CfZ E N B gr) (h : CfV E f N B gr C) (hw : Hw) (hh : HwR N B 1 hw C) (hok : HOk N B hw) (L : List En) (tu : Int32) (hl : LgR N C L tu) (hld : LgD hw L) (qs : List QC) (en : Nat → Nat) (hq : QeR N gr C qs en) (rs : Nat → Nat) (hrs : RsR N C rs) (hsp : hSp hw + 100 * qs.length + 200 < 2 ^ 31) : Ct E 10 yX9_flushAll cX9_flushAll 3 (some .int) [.ref (gAd E (17))] f (fun v g => v = some (.int (nI qs.length)) ∧ (mFl N B qs.length qs (hw, L, tu)).1 = true ∧ (∃ C', CfV E g N B gr C' ∧ HwR N B 1 (mFl N B qs.length qs (hw, L, tu)).2.1 C' ∧ LgR N C' (mFl N B qs.length qs (hw, L, tu)).2.2.1 (mFl N B qs.length qs (hw, L, tu)).2.2.2 ∧ LgD (mFl N B qs.length qs (hw, L, tu)).2.1 (mFl N B qs.length qs (hw, L, tu)).2.2.1 ∧ HOk N B (mFl N B qs.length qs (hw, L, tu)).2.1 ∧ QeR N gr C' [] (fun _ => 0) ∧ RsR N C' (fun b => if rs b = 1 then 0 else rs b) ∧ Sm [0, 1, 2] C C' ∧ C'.2.2 4 = C.2.2 4) ∧ Fr CfK f g, fun X g => X = "java/lang/UnsupportedOperationException" ∧ (mFl N B qs.length qs (hw, L, tu)).1 = false ∧ (∃ C', CfV E g N B gr C' ∧ HwR N B 0 (hFl (mFl N B qs.length qs (hw, L, tu)).2.1) C' ∧ Byt (cA C' 15) ∧ SmQ C C') ∧ Fr CfK f g) := by
  obtain ⟨z1, z2, z3, z4, z5, z6, z7⟩ := id hz
  refine Ct.of (by decide) (Nat.le_of_ble_eq_true rfl) (fun sz => ?_)
  refine G.eql [(0, .ref (gAd E (17)))] rfl ?_
  refine G.go tv_X9_flushAll 1 1 [(0, .ref (gAd E (17)))] [.ref (gAd E (17))] rfl ?_
  refine G.getf cls_X9 (17) 8 (by omega) (h.q17) (by decide) rfl (tbd tv_X9_flushAll rfl) w_367 ?_
  refine G.eqs [.int (nI qs.length)] (by rw [hq.2.1]) ?_
  refine G.go tv_X9_flushAll 3 7 [(0, .ref (gAd E (17))), (1, .int (nI qs.length)), (2, .int ((0 : Int32)))] [] rfl ?_
  refine G.eql [(0, .ref (gAd E (17))), (1, .int (nI qs.length)), (2, .int (nI (0)))] rfl ?_
  refine fl_l E f _ _ (fun v g => v = some (.int (nI qs.length)) ∧ (mFl N B qs.length qs (hw, L, tu)).1 = true ∧ (∃ C', CfV E g N B gr C' ∧ HwR N B 1 (mFl N B qs.length qs (hw, L, tu)).2.1 C' ∧ LgR N C' (mFl N B qs.length qs (hw, L, tu)).2.2.1 (mFl N B qs.length qs (hw, L, tu)).2.2.2 ∧ LgD (mFl N B qs.length qs (hw, L, tu)).2.1 (mFl N B qs.length qs (hw, L, tu)).2.2.1 ∧ HOk N B (mFl N B qs.length qs (hw, L, tu)).2.1 ∧ QeR N gr C' [] (fun _ => 0) ∧ RsR N C' (fun b => if rs b = 1 then 0 else rs b) ∧ Sm [0, 1, 2] C C' ∧ C'.2.2 4 = C.2.2 4) ∧ Fr CfK f g, fun X g => X = "java/lang/UnsupportedOperationException" ∧ (mFl N B qs.length qs (hw, L, tu)).1 = false ∧ (∃ C', CfV E g N B gr C' ∧ HwR N B 0 (hFl (mFl N B qs.length qs (hw, L, tu)).2.1) C' ∧ Byt (cA C' 15) ∧ SmQ C C') ∧ Fr CfK f g) N B gr C hz qs en hq (mFl N B qs.length qs (hw, L, tu)) (fun g C1 s1 h1 hf1 hh1 hok1 hl1 hld1 hs1 hO1 => ?_) (fun g C9 q1 q2 q3 q4 q5 q6 => ⟨rfl, q6, ⟨C9, q1, q3, q5, q4⟩, q2⟩) qs.length 0 (by omega) (by omega) _ C hw L tu h Fr.rf hh hok hl hld SmQ.rf rfl hsp
  have hr1 := hrs.smq hs1
  refine G.go tv_X9_flushAll 2 61 [(0, .ref (gAd E (17))), (1, .int (nI qs.length)), (2, .int (nI (qs.length)))] [.int ((0 : Int32)), .ref (gAd E (17))] rfl ?_
  refine G.putfS cls_X9 (17) 7 [.ref (gAd E 13), .ref (gAd E 18), .ref (gAd E 19), .ref (gAd E 20), .ref (gAd E 21), .int (cS C1 1705), .ref (gAd E 22), .int ((0 : Int32)), .int (cS C1 1708), .ref (gAd E 23), .ref (gAd E 24), .int (cS C1 1711), .int (cS C1 1712)] (by omega) (h1.q17) rfl (by decide) rfl rfl rfl (Nat.le_of_ble_eq_true rfl) (tbd tv_X9_flushAll rfl) w_366 ?_
  refine G.gen (P := fun w9 => CfV E w9 N B gr (sS (C1) 1707 ((0 : Int32))) ∧ Fr CfK f w9) ⟨h1.s1707 _, Fr.c hf1 (by first | exact Or.inl (by decide) | exact Or.inr (by omega))⟩ (fun u1 p1 => ?_)
  obtain ⟨h1, k1⟩ := p1
  refine G.go tv_X9_flushAll 2 66 [(0, .ref (gAd E (17))), (1, .int (nI qs.length)), (2, .int (nI (qs.length)))] [.int ((0 : Int32)), .ref (gAd E (17))] rfl ?_
  refine G.putfS cls_X9 (17) 8 [.ref (gAd E 13), .ref (gAd E 18), .ref (gAd E 19), .ref (gAd E 20), .ref (gAd E 21), .int (cS (sS (C1) 1707 ((0 : Int32))) 1705), .ref (gAd E 22), .int (cS (sS (C1) 1707 ((0 : Int32))) 1707), .int ((0 : Int32)), .ref (gAd E 23), .ref (gAd E 24), .int (cS (sS (C1) 1707 ((0 : Int32))) 1711), .int (cS (sS (C1) 1707 ((0 : Int32))) 1712)] (by omega) (h1.q17) rfl (by decide) rfl rfl rfl (Nat.le_of_ble_eq_true rfl) (tbd tv_X9_flushAll rfl) w_367 ?_
  refine G.gen (P := fun w9 => CfV E w9 N B gr (sS (sS (C1) 1707 ((0 : Int32))) 1708 ((0 : Int32))) ∧ Fr CfK f w9) ⟨h1.s1708 _, Fr.c k1 (by first | exact Or.inl (by decide) | exact Or.inr (by omega))⟩ (fun u2 p2 => ?_)
  obtain ⟨h2, k2⟩ := p2
  refine G.go tv_X9_flushAll 1 70 [(0, .ref (gAd E (17))), (1, .int (nI qs.length)), (2, .int (nI (qs.length)))] [.ref (gAd E (17))] rfl ?_
  refine G.getf cls_X9 (17) 3 (by omega) (h2.q17) (by decide) rfl (tbd tv_X9_flushAll rfl) w_359 ?_
  refine G.go tv_X9_flushAll 1 74 [(0, .ref (gAd E (17))), (1, .int (nI qs.length)), (2, .int (nI (qs.length)))] [.int ((-1 : Int32)), .ref (gAd E (20))] rfl ?_
  refine G.callS [.ref (gAd E (20)), .int ((-1 : Int32))] [] (c_J7_fill_53178 E _ (20) (N) (cA C1 20) ((-1 : Int32)) (by omega) (h2.q20) (by omega)) cw_X9_33 w_223 (Nat.le_of_ble_eq_true rfl) rfl (Nat.le_of_ble_eq_true rfl) (tbd tv_X9_flushAll rfl) (fun v11 f11 q11 => ?_) (fun _ _ h => h.elim)
  obtain ⟨rfl, rfl⟩ := q11
  refine G.eqs [] rfl ?_
  refine G.gen (P := fun w9 => CfV E w9 N B gr (sA (sS (sS (C1) 1707 ((0 : Int32))) 1708 ((0 : Int32))) 20 (flt (cA C1 20) 0 (N) ((-1 : Int32)))) ∧ Fr CfK f w9) ⟨h2.p20 _, Fr.c k2 (by first | exact Or.inl (by decide) | exact Or.inr (by omega))⟩ (fun u3 p3 => ?_)
  obtain ⟨h3, k3⟩ := p3
  refine G.go tv_X9_flushAll 1 78 [(0, .ref (gAd E (17))), (1, .int (nI qs.length)), (2, .int (nI (qs.length)))] [.ref (gAd E (17))] rfl ?_
  have hx : CfV E u3 N B gr (sA (sS (sS C1 1707 (0 : Int32)) 1708 (0 : Int32)) 20 (flt (cA C1 20) 0 N (-1 : Int32))) := h3
  have hrX : RsR N (sA (sS (sS C1 1707 (0 : Int32)) 1708 (0 : Int32)) 20 (flt (cA C1 20) 0 N (-1 : Int32))) rs := hr1.sm rfl rfl rfl rfl
  have hsX : Sm [2] C1 (sA (sS (sS C1 1707 (0 : Int32)) 1708 (0 : Int32)) 20 (flt (cA C1 20) 0 N (-1 : Int32))) := ((Sm.s (by decide)).tr (Sm.s (by decide))).tr (Sm.a (by decide))
  have hqX : QeR N gr (sA (sS (sS C1 1707 (0 : Int32)) 1708 (0 : Int32)) 20 (flt (cA C1 20) 0 N (-1 : Int32))) [] (fun _ => 0) := ⟨rfl, rfl, Nat.zero_le _, rfl, fun i hi => absurd hi (Nat.not_lt_zero i), fun b hb => Or.inl ⟨if_pos ⟨Nat.zero_le b, hb⟩, rfl⟩⟩
  have h4X : (sA (sS (sS C1 1707 (0 : Int32)) 1708 (0 : Int32)) 20 (flt (cA C1 20) 0 N (-1 : Int32))).2.2 4 = C1.2.2 4 := rfl
  generalize hgX : sA (sS (sS C1 1707 (0 : Int32)) 1708 (0 : Int32)) 20 (flt (cA C1 20) 0 N (-1 : Int32)) = CX at hx hrX hsX hqX h4X
  obtain ⟨q, n, w1, w2, w3, w4, w5, w6, w7⟩ := id hrX
  refine G.callV (17) [] [] (c_X9_wakeForQueue E _ N B gr CX hz hx q n w3 w4 w1 w2 (fun i hi => by obtain ⟨b, b1, b2, _⟩ := w5 i hi; exact ⟨b, b1, b2⟩)) cls_X9 (by omega) (hx.q17) cw_X9_107 w_1309 w_26 (Nat.le_of_ble_eq_true rfl) rfl (Nat.le_of_ble_eq_true rfl) (tbd tv_X9_flushAll rfl) (fun v12 f12 q12 => ?_) (fun _ _ h => h.elim)
  obtain ⟨rfl, ha12, fa12⟩ := q12
  refine G.eqs [] rfl ?_
  have hsW : Sm [2] CX (sS (sS (sA (sA CX 23 (wkR (cA CX 23) (cA CX 24) 0 q)) 24 (va_cpy (cA CX 24) (cA CX 24) q 0 (n - q))) 1711 ((nI n) - (nI q))) 1712 ((0 : Int32))) := (((Sm.a (by decide)).tr (Sm.a (by decide))).tr (Sm.s (by decide))).tr (Sm.s (by decide))
  refine G.go tv_X9_flushAll 1 82 [(0, .ref (gAd E (17))), (1, .int (nI qs.length)), (2, .int (nI (qs.length)))] [.int (nI qs.length)] rfl ?_
  exact G.iret rfl rfl (⟨rfl, by rw [hO1], ⟨_, ha12, by rw [hO1]; exact (hh1.sm hsX (by decide)).sm hsW (by decide), by rw [hO1]; exact (hl1.sm hsX (by decide)).sm hsW (by decide), by rw [hO1]; exact hld1, by rw [hO1]; exact hok1, hqX.2.2.2.2.2 |> fun _ => ⟨hqX.1, hqX.2.1, hqX.2.2.1, hqX.2.2.2.1, fun i hi => absurd hi (Nat.not_lt_zero i), hqX.2.2.2.2.2⟩, RsR.que z2 hrX w3 w4 (by omega) (by omega), ⟨fun j zz => ((hsW.wk (by decide : ∀ m, m ∈ [2] → m ∈ [0, 1, 2])).1 j zz).trans (((hsX.wk (by decide : ∀ m, m ∈ [2] → m ∈ [0, 1, 2])).1 j zz).trans (hs1.1 j (fun z9 => zz (by revert z9; exact fun z9 => List.mem_append_left [2] z9)) (fun z9 => zz (by rw [z9]; decide)))), fun j zz => ((hsW.wk (by decide : ∀ m, m ∈ [2] → m ∈ [0, 1, 2])).2.1 j zz).trans (((hsX.wk (by decide : ∀ m, m ∈ [2] → m ∈ [0, 1, 2])).2.1 j zz).trans (hs1.2.1 j (fun z9 => zz (List.mem_append_left [2] z9)) (fun z9 => zz (by rw [z9]; decide)))), fun j zz => ((hsW.wk (by decide : ∀ m, m ∈ [2] → m ∈ [0, 1, 2])).2.2 j zz).trans (((hsX.wk (by decide : ∀ m, m ∈ [2] → m ∈ [0, 1, 2])).2.2 j zz).trans (hs1.2.2 j (fun z9 => zz (List.mem_append_left [2] z9))))⟩, h4X.trans (hs1.2.2 4 (by decide))⟩, (k3.tr fa12 (fun _ h => h))⟩) (tbd tv_X9_flushAll rfl)
