theorem rSeL_1 : ∀ (d : Nat) (R : RfT), rS (rSeL d R) 1 = rS R 1
  | 0, R => rfl
  | d + 1, R => by
    have a : ∀ X : RfT, ∀ k, rS (rWr X k) 1 = rS X 1 := fun X k => rWrt_S (by decide) (by decide) (by decide) (by decide)
    have b : ∀ X : RfT, ∀ k, rS (rLe X k) 1 = rS X 1 := fun X k => rLv_S (by decide)
    unfold rSeL
    split
    · rfl
    · split
      · rw [rSeL_1 d, b, a]
      · rfl
theorem rSett_1 {R : RfT} : rS (rSett R) 1 = rS R 1 := by
  unfold rSett
  split
  · exact rSeL_1 _ R
  · unfold rNo
    split
    · exact rSeL_1 _ R
    · exact rSeL_1 _ R
/-- the power is on, and no failure is told -/
def rStd (R : RfT) : Prop := ¬ rS R 11 = 0 ∧ rS R 12 = -1
theorem rStd.can {R : RfT} (h : rStd R) : rCan R := ⟨h.1, by rw [h.2]; decide⟩
theorem rSt_12 {R : RfT} (h : rS R 12 = -1) : (if 0 < rS R 12 then rS R 12 - 1 else rS R 12) = -1 := by
  rw [h]
  decide
theorem rWr_std {R : RfT} {k : Nat} (h : rStd R) : rStd (rWr R k) := by
  refine ⟨?_, ?_⟩
  · rw [show rS (rWr R k) 11 = rS R 11 from rWrt_S (by decide) (by decide) (by decide) (by decide)]
    exact h.1
  · unfold rWr rWrt
    split
    · unfold rPush rPop
      generalize decide (rA R 40 (rA R 7 (nF R)).toNatClampNeg = nI (nF R)) = q
      cases q
      · exact rSt_12 h.2
      · exact rSt_12 h.2
    · exact rSt_12 h.2
theorem rLe_std {R : RfT} {k : Nat} (h : rStd R) : rStd (rLe R k) := by
  refine ⟨?_, ?_⟩
  · rw [show rS (rLe R k) 11 = rS R 11 from rLv_S (by decide)]
    exact h.1
  · rw [show rS (rLe R k) 12 = rS R 12 from rLv_S (by decide)]
    exact h.2
theorem rSeL_std : ∀ (d : Nat) {R : RfT}, rStd R → rStd (rSeL d R)
  | 0, R, h => h
  | d + 1, R, h => by
    unfold rSeL
    rw [if_neg h.1, if_pos h.can]
    exact rSeL_std d (rLe_std (rWr_std h))
theorem rSett_std {R : RfT} (h : rStd R) : rStd (rSett R) := by
  have q := rSeL_std (nH R) h
  unfold rSett
  rw [if_pos q.can]
  exact ⟨q.1, rSt_12 q.2⟩
theorem rHand_std {R : RfT} {j a t : Nat} (h : rStd R) : rStd (rHand R j a t) := by
  unfold rHand
  rw [if_neg h.1]
  split
  · split
    · rw [if_pos h.can]
      have q : rStd (setS (rWr R (rOld (rLW R) (nH R - 1))) 20 (rS R 20 + 1)) := rWr_std (k := rOld (rLW R) (nH R - 1)) h
      have q2 := rLe_std (k := rOld (rLW R) (nH R - 1)) q
      exact q2
    · exact h
  · exact h
theorem rGo_std {R : RfT} {t : Nat} (h : rStd R) : rStd (rGo R t) := rHand_std h
theorem rPz_std {R : RfT} {t : Nat} (h : rStd R) : rStd (rPz R t) := rGo_std (R := rEm R) h
theorem rPzs_std {X : RfT} (h : rStd X) : ∀ j, rStd (rPzs X j)
  | 0 => h
  | j + 1 => rPz_std (rPzs_std h j)
theorem fmE1_std {X : RfT} (h : rStd X) : rStd (fmE1 X) := by
  unfold fmE1
  rw [if_neg h.1]
  exact rSett_std h
theorem fmE2_std {X : RfT} (h : rStd X) : rStd (fmE2 X) := by
  unfold fmE2
  rw [if_neg h.1]
  exact rGo_std (R := rHd X) h
theorem fmF_std {X : RfT} {N : Nat} (h : rStd X) : rStd (fmF X N) := by
  unfold fmF
  rw [if_neg h.1]
  exact rPzs_std (rGo_std (R := fmC2 _) (rGo_std (R := fmC1 _) (rGo_std (R := fmA _ N) (rGo_std (R := setA (setS X 22 0) 44 _) h)))) 15
theorem fmZ_std {R : RfT} {N : Nat} (h : rStd R) : rStd (fmZ R N) := fmE1_std (fmE2_std (fmE1_std (fmF_std (rSett_std (rPz_std (R := setS R 0 0) h)))))
theorem w_2337 : Cond.methodLink "LedgerFilesModel" 389 yX12_answer ∈ TB := tp_10 31 (by decide +kernel) rfl
theorem w_2340 : Cond.code yX12_answer prog_14_method_77_code 2 (some .int) ∈ TB := tp_10 34 rfl rfl
theorem cw_X12_389 : Cw RX12 389 yX12_answer cX12_answer 2 (some .int) 1 := ⟨w_2337, w_2340, w_161, by decide +kernel, by decide +kernel, by decide⟩
theorem w_2339 : Cond.instanceMethod yX12_answer ∈ TB := tp_10 33 (by decide +kernel) rfl
theorem w_69 : Cond.selects "LedgerFilesModel" yX12_answer yX12_answer ∈ TB := tp_0 69 (by decide +kernel) rfl
set_option maxRecDepth 100000 in
set_option maxHeartbeats 4000000 in
theorem fm_t1 (E : gE) (f0 : Nat → va_E) (sz : Nat) (A : Nat → Prop) (hE : 94 ≤ gN E) (R : RfT) (N : Nat) (hc : rS R 21 = 0 ∧ ¬ rS R 11 = 0) (hN1 : rS (fmZ R N) 1 = nI N) (x : Int32) (f : Nat → va_E) (r : RfV E f (fmZ R N)) (hf : Fr RfK f0 f) : G E (7, yX12_format, 2, (some .int), sz, A) cX12_format (gO E (7, yX12_format, 2, (some .int), sz, A) (fun v g => (((¬ rS R 21 = 0 ∨ rS R 11 = 0) ∧ v = some (.int 0) ∧ RfV E g (setS R 0 1)) ∨ ((rS R 21 = 0 ∧ ¬ rS R 11 = 0) ∧ v = some (.int (if rS (fmZ R N) 11 = 0 then 0 else nI N - 61)) ∧ RfV E g (rFmt R N))) ∧ Fr RfK f0 g, fun _ _ => False)) 235 [(0, .ref (gAd E (56))), (1, .int (x))] [] f := by
  refine G.go tv_X12_format 2 237 [(0, .ref (gAd E (56))), (1, .int (x))] [.ref (gAd E (56)), .ref (gAd E (56))] rfl ?_
  refine G.rg r hE 1 (.int (rS (fmZ R N) 1)) (by decide) rfl (tbd tv_X12_format rfl) w_2066 ?_
  refine G.go tv_X12_format 2 243 [(0, .ref (gAd E (56))), (1, .int (x))] [.int ((rS (fmZ R N) 1) - ((61 : Int32))), .ref (gAd E (56))] rfl ?_
  refine G.callV (56) [.int ((rS (fmZ R N) 1) - ((61 : Int32)))] [] (c_X12_answer E _ (fmZ R N) hE r ((rS (fmZ R N) 1) - ((61 : Int32)))) cls_X12 (by omega) (r.o) cw_X12_389 w_2339 w_69 (Nat.le_of_ble_eq_true rfl) rfl (Nat.le_of_ble_eq_true rfl) (tbd tv_X12_format rfl) (fun v1 f1 q1 => ?_) (fun _ _ h => h.elim)
  obtain ⟨rfl, ra1, fa1⟩ := q1
  refine G.eqs [.int (if rS (fmZ R N) 11 = 0 then 0 else (rS (fmZ R N) 1) - ((61 : Int32)))] rfl ?_
  exact G.iret rfl rfl (⟨Or.inr ⟨hc, by rw [← hN1], by unfold rFmt; exact ra1⟩, (hf).tr fa1 (fun _ h => h)⟩) (tbd tv_X12_format rfl)
set_option maxRecDepth 100000 in
set_option maxHeartbeats 4000000 in
theorem fm_t0 (E : gE) (f0 : Nat → va_E) (sz : Nat) (A : Nat → Prop) (hE : 94 ≤ gN E) (R : RfT) (N : Nat) (hc : rS R 21 = 0 ∧ ¬ rS R 11 = 0) (hN1 : rS (fmZ R N) 1 = nI N)  (f : Nat → va_E) (r : RfV E f (fmZ R N)) (hf : Fr RfK f0 f) : G E (7, yX12_format, 2, (some .int), sz, A) cX12_format (gO E (7, yX12_format, 2, (some .int), sz, A) (fun v g => (((¬ rS R 21 = 0 ∨ rS R 11 = 0) ∧ v = some (.int 0) ∧ RfV E g (setS R 0 1)) ∨ ((rS R 21 = 0 ∧ ¬ rS R 11 = 0) ∧ v = some (.int (if rS (fmZ R N) 11 = 0 then 0 else nI N - 61)) ∧ RfV E g (rFmt R N))) ∧ Fr RfK f0 g, fun _ _ => False)) 235 [(0, .ref (gAd E (56)))] [] f := by
  refine G.go tv_X12_format 2 237 [(0, .ref (gAd E (56)))] [.ref (gAd E (56)), .ref (gAd E (56))] rfl ?_
  refine G.rg r hE 1 (.int (rS (fmZ R N) 1)) (by decide) rfl (tbd tv_X12_format rfl) w_2066 ?_
  refine G.go tv_X12_format 2 243 [(0, .ref (gAd E (56)))] [.int ((rS (fmZ R N) 1) - ((61 : Int32))), .ref (gAd E (56))] rfl ?_
  refine G.callV (56) [.int ((rS (fmZ R N) 1) - ((61 : Int32)))] [] (c_X12_answer E _ (fmZ R N) hE r ((rS (fmZ R N) 1) - ((61 : Int32)))) cls_X12 (by omega) (r.o) cw_X12_389 w_2339 w_69 (Nat.le_of_ble_eq_true rfl) rfl (Nat.le_of_ble_eq_true rfl) (tbd tv_X12_format rfl) (fun v1 f1 q1 => ?_) (fun _ _ h => h.elim)
  obtain ⟨rfl, ra1, fa1⟩ := q1
  refine G.eqs [.int (if rS (fmZ R N) 11 = 0 then 0 else (rS (fmZ R N) 1) - ((61 : Int32)))] rfl ?_
  exact G.iret rfl rfl (⟨Or.inr ⟨hc, by rw [← hN1], by unfold rFmt; exact ra1⟩, (hf).tr fa1 (fun _ h => h)⟩) (tbd tv_X12_format rfl)
theorem fmE1_1 {X : RfT} : rS (fmE1 X) 1 = rS X 1 := by
  unfold fmE1
  split
  · rfl
  · exact rSett_1
theorem fmE2_1 {X : RfT} : rS (fmE2 X) 1 = rS X 1 := by
  unfold fmE2
  split
  · rfl
  · exact rGo_1 (R := rHd X)
theorem rPzs_1 {X : RfT} : ∀ j, rS (rPzs X j) 1 = rS X 1
  | 0 => rfl
  | j + 1 => (rGo_1 (R := rEm (rPzs X j))).trans (rPzs_1 j)
theorem fmF_1 {X : RfT} {N : Nat} : rS (fmF X N) 1 = rS X 1 := by
  unfold fmF
  split
  · rfl
  · rw [rPzs_1]
    unfold fmC
    rw [rGo_1]
    show rS (rGo (fmC1 _) 44) 1 = _
    rw [rGo_1]
    show rS (rGo (fmA _ N) 43) 1 = _
    rw [rGo_1]
    show rS (rGo (setA (setS X 22 0) 44 _) 1) 1 = _
    rw [rGo_1]
    rfl
theorem fmZ_1 {R : RfT} {N : Nat} : rS (fmZ R N) 1 = rS R 1 := by
  unfold fmZ
  rw [fmE1_1, fmE2_1, fmE1_1, fmF_1, rSett_1]
  exact rGo_1 (R := rEm (setS R 0 0))
set_option maxRecDepth 100000 in
set_option maxHeartbeats 4000000 in
theorem fm_z0 (E : gE) (f0 : Nat → va_E) (sz : Nat) (A : Nat → Prop) (hE : 94 ≤ gN E) (R : RfT) (N : Nat) (hc : rS R 21 = 0 ∧ ¬ rS R 11 = 0) (hN1 : rS (fmZ R N) 1 = nI N) (X : RfT) (z : rS X 11 = 0) (eZ : fmZ R N = X) (f : Nat → va_E) (r : RfV E f X) (hf : Fr RfK f0 f) : G E (7, yX12_format, 2, (some .int), sz, A) cX12_format (gO E (7, yX12_format, 2, (some .int), sz, A) (fun v g => (((¬ rS R 21 = 0 ∨ rS R 11 = 0) ∧ v = some (.int 0) ∧ RfV E g (setS R 0 1)) ∨ ((rS R 21 = 0 ∧ ¬ rS R 11 = 0) ∧ v = some (.int (if rS (fmZ R N) 11 = 0 then 0 else nI N - 61)) ∧ RfV E g (rFmt R N))) ∧ Fr RfK f0 g, fun _ _ => False)) 192 [(0, .ref (gAd E (56)))] [] f := by
  refine G.go tv_X12_format 1 193 [(0, .ref (gAd E (56)))] [.ref (gAd E (56))] rfl ?_
  refine G.rg r hE 11 (.int (rS X 11)) (by decide) rfl (tbd tv_X12_format rfl) w_2076 ?_
  refine G.if_eq 203 (tbd tv_X12_format rfl) (by decide) (fun c196 => ?_) (fun c196 => absurd (z) c196)
  refine G.go tv_X12_format 1 204 [(0, .ref (gAd E (56)))] [.ref (gAd E (56))] rfl ?_
  refine G.rg r hE 11 (.int (rS X 11)) (by decide) rfl (tbd tv_X12_format rfl) w_2076 ?_
  refine G.if_eq 224 (tbd tv_X12_format rfl) (by decide) (fun c207 => ?_) (fun c207 => absurd (z) c207)
  refine G.go tv_X12_format 1 225 [(0, .ref (gAd E (56)))] [.ref (gAd E (56))] rfl ?_
  refine G.rg r hE 11 (.int (rS X 11)) (by decide) rfl (tbd tv_X12_format rfl) w_2076 ?_
  refine G.if_eq 235 (tbd tv_X12_format rfl) (by decide) (fun c228 => ?_) (fun c228 => absurd (z) c228)
  exact fm_t0 E f0 _ _ hE R N hc hN1 _ (eZ ▸ r) (hf)
theorem fmF_ok {X : RfT} {B N : Nat} (h : rOk X B) : rOk (fmF X N) B := by
  unfold fmF
  split
  · exact h
  · exact rPzs_ok (fmC_ok (fmA_ok (rPh_ok h))) 15 (by decide)
set_option maxRecDepth 100000 in
set_option maxHeartbeats 4000000 in
theorem c_X12_format (E : gE) (f : Nat → va_E) (R : RfT) (B : Nat) (hok : rOk R B) (hE : 94 ≤ gN E) (r : RfV E f R) (N : Nat) (hN : rS R 1 = nI N) (hN2 : N ≤ 1024) : Ct E 7 yX12_format cX12_format 2 (some .int) [.ref (gAd E (56))] f (fun v g => (((¬ rS R 21 = 0 ∨ rS R 11 = 0) ∧ v = some (.int 0) ∧ RfV E g (setS R 0 1)) ∨ ((rS R 21 = 0 ∧ ¬ rS R 11 = 0) ∧ v = some (.int (if rS (fmZ R N) 11 = 0 then 0 else nI N - 61)) ∧ RfV E g (rFmt R N))) ∧ Fr RfK f g, fun _ _ => False) := by
  refine Ct.of (by decide) (Nat.le_of_ble_eq_true rfl) (fun sz => ?_)
  refine G.eql [(0, .ref (gAd E (56)))] rfl ?_
  refine G.go tv_X12_format 2 2 [(0, .ref (gAd E (56)))] [.ref (gAd E (56)), .ref (gAd E (56))] rfl ?_
  refine G.rg r hE 21 (.int (rS R 21)) (by decide) rfl (tbd tv_X12_format rfl) w_2086 ?_
  refine G.if_ne 15 (tbd tv_X12_format rfl) (by decide) (fun c5 => ?_) (fun c5 => ?_)
  · skip
    refine G.go tv_X12_format 3 21 [(0, .ref (gAd E (56)))] [.int ((1 : Int32)), .int ((1 : Int32)), .ref (gAd E (56))] rfl ?_
    refine G.callV (56) [.int ((1 : Int32)), .int ((1 : Int32))] [] (c_X12_refuse E _ (R) hE r ((1 : Int32)) ((1 : Int32)) (Or.inr rfl)) cls_X12 (by omega) (r.o) cw_X12_385 w_2268 w_53 (Nat.le_of_ble_eq_true rfl) rfl (Nat.le_of_ble_eq_true rfl) (tbd tv_X12_format rfl) (fun v1 f1 q1 => ?_) (fun _ _ h => h.elim)
    obtain ⟨rfl, ra1, fa1⟩ := q1
    refine G.eqs [.int ((1 : Int32))] rfl ?_
    refine G.if_eq 29 (tbd tv_X12_format rfl) (by decide) (fun c24 => absurd c24 (by decide)) (fun c24 => ?_)
    refine G.go tv_X12_format 1 28 [(0, .ref (gAd E (56)))] [.int ((0 : Int32))] rfl ?_
    exact G.iret rfl rfl (⟨Or.inl ⟨by first | exact Or.inl c5 | exact Or.inr c12, rfl, ra1⟩, fa1⟩) (tbd tv_X12_format rfl)
  · skip
    refine G.go tv_X12_format 1 9 [(0, .ref (gAd E (56)))] [.ref (gAd E (56)), .ref (gAd E (56))] rfl ?_
    refine G.rg r hE 11 (.int (rS R 11)) (by decide) rfl (tbd tv_X12_format rfl) w_2076 ?_
    refine G.if_ne 19 (tbd tv_X12_format rfl) (by decide) (fun c12 => ?_) (fun c12 => ?_)
    · skip
      refine G.go tv_X12_format 2 21 [(0, .ref (gAd E (56)))] [.int ((1 : Int32)), .int ((0 : Int32)), .ref (gAd E (56))] rfl ?_
      refine G.callV (56) [.int ((0 : Int32)), .int ((1 : Int32))] [] (c_X12_refuse E _ (R) hE r ((0 : Int32)) ((1 : Int32)) (Or.inl rfl)) cls_X12 (by omega) (r.o) cw_X12_385 w_2268 w_53 (Nat.le_of_ble_eq_true rfl) rfl (Nat.le_of_ble_eq_true rfl) (tbd tv_X12_format rfl) (fun v2 f2 q2 => ?_) (fun _ _ h => h.elim)
      obtain ⟨rfl, ra2, fa2⟩ := q2
      refine G.eqs [.int ((0 : Int32))] rfl ?_
      refine G.if_eq 29 (tbd tv_X12_format rfl) (by decide) (fun c24 => ?_) (fun c24 => absurd (by decide) c24)
      refine G.go tv_X12_format 2 31 [(0, .ref (gAd E (56)))] [.int ((0 : Int32)), .ref (gAd E (56))] rfl ?_
      refine G.eqs [.int (nI 0), .ref (gAd E (56))] rfl ?_
      refine G.callV (56) [.int (nI 0)] [] (c_X12_putZero E _ (setS (R) 0 0) B (rOk_0 hok) hE ra2 0 (by decide)) cls_X12 (by omega) (ra2.o) cw_X12_392 w_2272 w_54 (Nat.le_of_ble_eq_true rfl) rfl (Nat.le_of_ble_eq_true rfl) (tbd tv_X12_format rfl) (fun v3 f3 q3 => ?_) (fun _ _ h => h.elim)
      obtain ⟨rfl, ra3, fa3⟩ := q3
      refine G.eqs [] rfl ?_
      refine G.go tv_X12_format 1 35 [(0, .ref (gAd E (56)))] [.ref (gAd E (56))] rfl ?_
      refine G.callV (56) [] [] (c_X12_settle E _ (rPz (setS (R) 0 0) 0) B (rPz_ok (rOk_0 hok) (by decide)) hE ra3) cls_X12 (by omega) (ra3.o) cw_X12_255 w_2315 w_64 (Nat.le_of_ble_eq_true rfl) rfl (Nat.le_of_ble_eq_true rfl) (tbd tv_X12_format rfl) (fun v4 f4 q4 => ?_) (fun _ _ h => h.elim)
      obtain ⟨rfl, ra4, fa4⟩ := q4
      refine G.eqs [] rfl ?_
      have hok1 : rOk (rSett (rPz (setS R 0 0) 0)) B := (rSett_ok (rPz_ok (rOk_0 hok) (by decide)))
      have hN1 : rS (rSett (rPz (setS R 0 0) 0)) 1 = nI N := by rw [rSett_1]; exact (rGo_1 (R := rEm (setS R 0 0))).trans hN
      have hZ1 : rS (fmZ R N) 1 = nI N := fmZ_1.trans hN
      have hokF : rOk (fmF (rSett (rPz (setS R 0 0) 0)) N) B := fmF_ok hok1
      have hc : rS R 21 = 0 ∧ ¬ rS R 11 = 0 := ⟨c5, c12⟩
      refine fm_f E f _ _ _ hE (rSett (rPz (setS R 0 0) 0)) B hok1 N hN1 hN2 _ ra4 (((fa2).tr fa3 (fun _ h => h)).tr fa4 (fun _ h => h)) (fun g x r1 h1 => ?_) (fun z r1 h1 => ?_)
      · refine fm_e1 E f _ _ _ hE (fmF (rSett (rPz (setS R 0 0) 0)) N) B hokF x _ r1 h1 (fun g r2 h2 => ?_)
        refine fm_e2 E f _ _ _ hE _ B (fmE1_ok hokF) x _ r2 h2 (fun g r3 h3 => ?_)
        refine fm_e3 E f _ _ _ hE _ B (fmE2_ok (fmE1_ok hokF)) x _ r3 h3 (fun g r4 h4 => ?_)
        exact fm_t1 E f _ _ hE R N hc hZ1 x _ r4 h4
      · have e1 : fmF (rSett (rPz (setS R 0 0) 0)) N = rSett (rPz (setS R 0 0) 0) := by unfold fmF; rw [if_pos z]
        have e2 : fmE1 (rSett (rPz (setS R 0 0) 0)) = rSett (rPz (setS R 0 0) 0) := by unfold fmE1; rw [if_pos z]
        have e3 : fmE2 (rSett (rPz (setS R 0 0) 0)) = rSett (rPz (setS R 0 0) 0) := by unfold fmE2; rw [if_pos z]
        have eZ : fmZ R N = rSett (rPz (setS R 0 0) 0) := by unfold fmZ; rw [e1, e2, e3, e2]
        rw [e1] at r1
        exact fm_z0 E f _ _ hE R N hc hZ1 (rSett (rPz (setS R 0 0) 0)) z eZ _ r1 h1
    · skip
      refine G.go tv_X12_format 3 21 [(0, .ref (gAd E (56)))] [.int ((1 : Int32)), .int ((1 : Int32)), .ref (gAd E (56))] rfl ?_
      refine G.callV (56) [.int ((1 : Int32)), .int ((1 : Int32))] [] (c_X12_refuse E _ (R) hE r ((1 : Int32)) ((1 : Int32)) (Or.inr rfl)) cls_X12 (by omega) (r.o) cw_X12_385 w_2268 w_53 (Nat.le_of_ble_eq_true rfl) rfl (Nat.le_of_ble_eq_true rfl) (tbd tv_X12_format rfl) (fun v5 f5 q5 => ?_) (fun _ _ h => h.elim)
      obtain ⟨rfl, ra5, fa5⟩ := q5
      refine G.eqs [.int ((1 : Int32))] rfl ?_
      refine G.if_eq 29 (tbd tv_X12_format rfl) (by decide) (fun c24 => absurd c24 (by decide)) (fun c24 => ?_)
      refine G.go tv_X12_format 1 28 [(0, .ref (gAd E (56)))] [.int ((0 : Int32))] rfl ?_
      exact G.iret rfl rfl (⟨Or.inl ⟨by first | exact Or.inl c5 | exact Or.inr c12, rfl, ra5⟩, fa5⟩) (tbd tv_X12_format rfl)
def tb_X12_mount : List (Nat × Instr × Nat) := [(0, .aload_n 0, 1), (1, .aload_n 0, 1), (2, .getfield 156, 3), (5, .ifCond .ne 10, 3), (8, .aload_n 0, 1), (9, .getfield 25, 3), (12, .ifCond .ne 7, 3), (15, .iconst 1, 1), (16, .goto 4, 3), (19, .iconst 0, 1), (20, .iconst 1, 1), (21, .invokevirtual 385, 3), (24, .ifCond .eq 5, 3), (27, .iconst 0, 1), (28, .ireturn, 1), (29, .aload_n 0, 1), (30, .invokevirtual 395, 3), (33, .aload_n 0, 1), (34, .iconst 0, 1), (35, .aload_n 0, 1), (36, .getfield 86, 3), (39, .invokevirtual 399, 3), (42, .aload_n 0, 1), (43, .aload_n 0, 1), (44, .getfield 86, 3), (47, .iconst 0, 1), (48, .aload_n 0, 1), (49, .getfield 89, 3), (52, .iconst 0, 1), (53, .invokestatic 280, 3), (56, .ifCond .ne 7, 3), (59, .iconst 1, 1), (60, .goto 4, 3), (63, .iconst 0, 1), (64, .iconst 3, 1), (65, .invokevirtual 385, 3), (68, .ifCond .eq 5, 3), (71, .iconst 0, 1), (72, .ireturn, 1), (73, .aload_n 0, 1), (74, .iconst 1, 1), (75, .aload_n 0, 1), (76, .getfield 86, 3), (79, .invokevirtual 399, 3), (82, .aload_n 0, 1), (83, .getfield 86, 3), (86, .iconst 0, 1), (87, .iconst 2, 1), (88, .invokestatic 232, 3), (91, .istore_n 1, 1), (92, .aload_n 0, 1), (93, .getfield 86, 3), (96, .bipush 6, 2), (98, .iconst 4, 1), (99, .invokestatic 232, 3), (102, .istore_n 2, 1), (103, .aload_n 0, 1), (104, .aload_n 0, 1), (105, .getfield 86, 3), (108, .iconst 2, 1), (109, .iconst 4, 1), (110, .invokestatic 232, 3), (113, .putfield 246, 3), (116, .bipush 7, 2), (118, .istore_n 3, 1), (119, .iconst 0, 1), (120, .istore 4, 2), (122, .iload 4, 2), (124, .bipush 6, 2), (126, .if_icmp .ge 26, 3), (129, .iload_n 3, 1), (130, .bipush 31, 2), (132, .imul, 1), (133, .aload_n 0, 1), (134, .getfield 86, 3), (137, .iload 4, 2), (139, .baload, 1), (140, .sipush 255, 3), (143, .iand, 1), (144, .iadd, 1), (145, .istore_n 3, 1), (146, .iinc 4 1, 3), (149, .goto (-27), 3), (152, .iload_n 1, 1), (153, .iconst 1, 1), (154, .if_icmp .lt 13, 3), (157, .iload_n 1, 1), (158, .bipush 40, 2), (160, .if_icmp .gt 7, 3), (163, .iconst 1, 1), (164, .goto 4, 3), (167, .iconst 0, 1), (168, .istore 4, 2), (170, .iload 4, 2), (172, .ifCond .eq 7, 3), (175, .iload_n 1, 1), (176, .goto 4, 3), (179, .iconst 0, 1), (180, .istore_n 1, 1), (181, .aload_n 0, 1), (182, .iconst 2, 1), (183, .aload_n 0, 1), (184, .getfield 86, 3), (187, .invokevirtual 399, 3), (190, .iconst 0, 1), (191, .istore 5, 2), (193, .iload 5, 2), (195, .iconst 2, 1), (196, .iload_n 1, 1), (197, .imul, 1), (198, .if_icmp .ge 26, 3), (201, .iload_n 3, 1), (202, .bipush 31, 2), (204, .imul, 1), (205, .aload_n 0, 1), (206, .getfield 86, 3), (209, .iload 5, 2), (211, .baload, 1), (212, .sipush 255, 3), (215, .iand, 1), (216, .iadd, 1), (217, .istore_n 3, 1), (218, .iinc 5 1, 3), (221, .goto (-28), 3), (224, .iconst 0, 1), (225, .istore 5, 2), (227, .iload 5, 2), (229, .iload_n 1, 1), (230, .if_icmp .ge 28, 3), (233, .aload_n 0, 1), (234, .getfield 43, 3), (237, .iload 5, 2), (239, .aload_n 0, 1), (240, .getfield 86, 3), (243, .iconst 2, 1), (244, .iload 5, 2), (246, .imul, 1), (247, .iconst 2, 1), (248, .invokestatic 232, 3), (251, .iastore, 1), (252, .iinc 5 1, 3), (255, .goto (-28), 3), (258, .iconst 0, 1), (259, .istore 5, 2), (261, .iload 5, 2), (263, .iload_n 1, 1), (264, .if_icmp .ge 39, 3), (267, .aload_n 0, 1), (268, .iconst 3, 1), (269, .iload 5, 2), (271, .iadd, 1), (272, .aload_n 0, 1), (273, .getfield 86, 3), (276, .invokevirtual 399, 3), (279, .aload_n 0, 1), (280, .getfield 86, 3), (283, .iconst 0, 1), (284, .aload_n 0, 1), (285, .getfield 46, 3), (288, .sipush 128, 3), (291, .iload 5, 2), (293, .imul, 1), (294, .invokestatic 190, 3), (297, .iinc 5 1, 3), (300, .goto (-39), 3), (303, .iconst 0, 1), (304, .istore 5, 2), (306, .iload 5, 2), (308, .sipush 128, 3), (311, .iload_n 1, 1), (312, .imul, 1), (313, .if_icmp .ge 26, 3), (316, .iload_n 3, 1), (317, .bipush 31, 2), (319, .imul, 1), (320, .aload_n 0, 1), (321, .getfield 46, 3), (324, .iload 5, 2), (326, .baload, 1), (327, .sipush 255, 3), (330, .iand, 1), (331, .iadd, 1), (332, .istore_n 3, 1), (333, .iinc 5 1, 3), (336, .goto (-30), 3), (339, .aload_n 0, 1), (340, .iload 4, 2), (342, .ifCond .eq 12, 3), (345, .iload_n 3, 1), (346, .iload_n 2, 1), (347, .if_icmp .ne 7, 3), (350, .iload_n 1, 1), (351, .goto 4, 3), (354, .iconst 0, 1), (355, .putfield 162, 3), (358, .aload_n 0, 1), (359, .getfield 77, 3), (362, .invokestatic 140, 3), (365, .iconst 0, 1), (366, .istore 5, 2), (368, .iload 5, 2), (370, .aload_n 0, 1), (371, .getfield 162, 3), (374, .if_icmp .ge 36, 3), (377, .aload_n 0, 1), (378, .getfield 43, 3), (381, .iload 5, 2), (383, .iaload, 1), (384, .sipush 1024, 3), (387, .if_icmp .ge 17, 3), (390, .aload_n 0, 1), (391, .getfield 77, 3), (394, .aload_n 0, 1), (395, .getfield 43, 3), (398, .iload 5, 2), (400, .iaload, 1), (401, .iload 5, 2), (403, .iastore, 1), (404, .iinc 5 1, 3), (407, .goto (-39), 3), (410, .aload_n 0, 1), (411, .getfield 162, 3), (414, .istore 5, 2), (416, .aload_n 0, 1), (417, .iconst 1, 1), (418, .putfield 156, 3), (421, .aload_n 0, 1), (422, .invokevirtual 168, 3), (425, .aload_n 0, 1), (426, .iconst 0, 1), (427, .putfield 165, 3), (430, .aload_n 0, 1), (431, .invokevirtual 171, 3), (434, .aload_n 0, 1), (435, .invokevirtual 268, 3), (438, .aload_n 0, 1), (439, .getfield 25, 3), (442, .ifCond .eq 7, 3), (445, .aload_n 0, 1), (446, .invokevirtual 382, 3), (449, .aload_n 0, 1), (450, .iload 5, 2), (452, .invokevirtual 389, 3), (455, .ireturn, 1)]
theorem tv_X12_mount : Tv cX12_mount tb_X12_mount := by
  unfold Tv
  decide +kernel
theorem w_2349 : Cond.methodLink "LedgerFilesModel" 280 yX12_same ∈ TB := tp_10 43 (by decide +kernel) rfl
theorem w_2351 : Cond.code yX12_same prog_14_method_35_code 6 (some .boolean) ∈ TB := tp_10 45 rfl rfl
theorem cw_X12_280 : Cw RX12 280 yX12_same cX12_same 6 (some .boolean) 4 := ⟨w_2349, w_2351, w_161, by decide +kernel, by decide +kernel, by decide⟩
theorem w_2350 : Cond.static yX12_same ∈ TB := tp_10 44 (by decide +kernel) rfl
set_option maxRecDepth 100000 in
set_option maxHeartbeats 4000000 in
theorem c_X12_mountBad (E : gE) (f : Nat → va_E) (R : RfT) (B : Nat) (hok : rOk R B) (hE : 94 ≤ gN E) (r : RfV E f R) (hbad : rS R 21 = 0 → ¬ rS R 11 = 0 → smV (rRd (rHd (setS R 0 0)) 0) (rHdO (setS R 0 0)) 0 0 128 = 0) : Ct E 3 yX12_mount cX12_mount 6 (some .int) [.ref (gAd E (56))] f (fun v g => (((¬ rS R 21 = 0 ∨ rS R 11 = 0) ∧ v = some (.int 0) ∧ RfV E g (setS R 0 1)) ∨ ((rS R 21 = 0 ∧ ¬ rS R 11 = 0) ∧ v = some (.int 0) ∧ RfV E g (setS (setA (rHd (setS R 0 0)) 43 (rRd (rHd (setS R 0 0)) 0)) 0 3))) ∧ Fr RfK f g, fun _ _ => False) := by
  refine Ct.of (by decide) (Nat.le_of_ble_eq_true rfl) (fun sz => ?_)
  refine G.eql [(0, .ref (gAd E (56)))] rfl ?_
  refine G.go tv_X12_mount 2 2 [(0, .ref (gAd E (56)))] [.ref (gAd E (56)), .ref (gAd E (56))] rfl ?_
  refine G.rg r hE 21 (.int (rS R 21)) (by decide) rfl (tbd tv_X12_mount rfl) w_2086 ?_
  refine G.if_ne 15 (tbd tv_X12_mount rfl) (by decide) (fun c5 => ?_) (fun c5 => ?_)
  · skip
    refine G.go tv_X12_mount 3 21 [(0, .ref (gAd E (56)))] [.int ((1 : Int32)), .int ((1 : Int32)), .ref (gAd E (56))] rfl ?_
    refine G.callV (56) [.int ((1 : Int32)), .int ((1 : Int32))] [] (c_X12_refuse E _ (R) hE r ((1 : Int32)) ((1 : Int32)) (Or.inr rfl)) cls_X12 (by omega) (r.o) cw_X12_385 w_2268 w_53 (Nat.le_of_ble_eq_true rfl) rfl (Nat.le_of_ble_eq_true rfl) (tbd tv_X12_mount rfl) (fun v1 f1 q1 => ?_) (fun _ _ h => h.elim)
    obtain ⟨rfl, ra1, fa1⟩ := q1
    refine G.eqs [.int ((1 : Int32))] rfl ?_
    refine G.if_eq 29 (tbd tv_X12_mount rfl) (by decide) (fun c24 => absurd c24 (by decide)) (fun c24 => ?_)
    refine G.go tv_X12_mount 1 28 [(0, .ref (gAd E (56)))] [.int ((0 : Int32))] rfl ?_
    exact G.iret rfl rfl (⟨Or.inl ⟨by first | exact Or.inl c5 | exact Or.inr c12, rfl, ra1⟩, fa1⟩) (tbd tv_X12_mount rfl)
  · skip
    refine G.go tv_X12_mount 1 9 [(0, .ref (gAd E (56)))] [.ref (gAd E (56)), .ref (gAd E (56))] rfl ?_
    refine G.rg r hE 11 (.int (rS R 11)) (by decide) rfl (tbd tv_X12_mount rfl) w_2076 ?_
    refine G.if_ne 19 (tbd tv_X12_mount rfl) (by decide) (fun c12 => ?_) (fun c12 => ?_)
    · skip
      refine G.go tv_X12_mount 2 21 [(0, .ref (gAd E (56)))] [.int ((1 : Int32)), .int ((0 : Int32)), .ref (gAd E (56))] rfl ?_
      refine G.callV (56) [.int ((0 : Int32)), .int ((1 : Int32))] [] (c_X12_refuse E _ (R) hE r ((0 : Int32)) ((1 : Int32)) (Or.inl rfl)) cls_X12 (by omega) (r.o) cw_X12_385 w_2268 w_53 (Nat.le_of_ble_eq_true rfl) rfl (Nat.le_of_ble_eq_true rfl) (tbd tv_X12_mount rfl) (fun v2 f2 q2 => ?_) (fun _ _ h => h.elim)
      obtain ⟨rfl, ra2, fa2⟩ := q2
      refine G.eqs [.int ((0 : Int32))] rfl ?_
      refine G.if_eq 29 (tbd tv_X12_mount rfl) (by decide) (fun c24 => ?_) (fun c24 => absurd (by decide) c24)
      refine G.go tv_X12_mount 1 30 [(0, .ref (gAd E (56)))] [.ref (gAd E (56))] rfl ?_
      refine G.callV (56) [] [] (c_X12_head E _ (setS (R) 0 0) B (rOk_0 hok) hE ra2) cls_X12 (by omega) (ra2.o) cw_X12_395 w_2334 w_68 (Nat.le_of_ble_eq_true rfl) rfl (Nat.le_of_ble_eq_true rfl) (tbd tv_X12_mount rfl) (fun v3 f3 q3 => ?_) (fun _ _ h => h.elim)
      obtain ⟨rfl, ra3, fa3⟩ := q3
      refine G.eqs [] rfl ?_
      refine G.go tv_X12_mount 3 36 [(0, .ref (gAd E (56)))] [.ref (gAd E (56)), .int ((0 : Int32)), .ref (gAd E (56))] rfl ?_
      refine G.rg ra3 hE 43 (.ref (gAd E (78))) (by decide) rfl (tbd tv_X12_mount rfl) w_2108 ?_
      refine G.eqs [.ref (gAd E (78)), .int (nI 0), .ref (gAd E (56))] rfl ?_
      obtain ⟨wf9, w9, hd9, n9, hdb9, -⟩ := id (rHd_ok (rOk_0 hok))
      refine G.callV (56) [.int (nI 0), .ref (gAd E (78))] [] (c_X12_readDisk E _ (rHd (setS (R) 0 0)) 0 (by decide) (hdb9.2.2.1 0 (by decide)) hdb9.2.2.2.1.1 hdb9.2.2.2.1.2.1 hE ra3) cls_X12 (by omega) (ra3.o) cw_X12_399 w_2347 w_70 (Nat.le_of_ble_eq_true rfl) rfl (Nat.le_of_ble_eq_true rfl) (tbd tv_X12_mount rfl) (fun v4 f4 q4 => ?_) (fun _ _ h => h.elim)
      obtain ⟨rfl, ra4, fa4⟩ := q4
      refine G.eqs [] rfl ?_
      refine G.go tv_X12_mount 2 44 [(0, .ref (gAd E (56)))] [.ref (gAd E (56)), .ref (gAd E (56))] rfl ?_
      refine G.rg ra4 hE 43 (.ref (gAd E (78))) (by decide) rfl (tbd tv_X12_mount rfl) w_2108 ?_
      refine G.go tv_X12_mount 2 49 [(0, .ref (gAd E (56)))] [.ref (gAd E (56)), .int ((0 : Int32)), .ref (gAd E (78)), .ref (gAd E (56))] rfl ?_
      refine G.rg ra4 hE 44 (.ref (gAd E (79))) (by decide) rfl (tbd tv_X12_mount rfl) w_2109 ?_
      refine G.go tv_X12_mount 1 53 [(0, .ref (gAd E (56)))] [.int ((0 : Int32)), .ref (gAd E (79)), .int ((0 : Int32)), .ref (gAd E (78)), .ref (gAd E (56))] rfl ?_
      refine G.eqs [.int (nI 0), .ref (gAd E (79)), .int (nI 0), .ref (gAd E (78)), .ref (gAd E (56))] rfl ?_
      refine G.callS [.ref (gAd E (78)), .int (nI 0), .ref (gAd E (79)), .int (nI 0)] [.ref (gAd E (56))] (c_X12_same E _ 78 128 79 128 (rA (setA (rHd (setS (R) 0 0)) 43 (rRd (rHd (setS (R) 0 0)) 0)) 43) (rA (setA (rHd (setS (R) 0 0)) 43 (rRd (rHd (setS (R) 0 0)) 0)) 44) 0 0 (by omega) (by omega) (ra4.a43) (ra4.a44) (by decide) (by decide) (by decide) (by decide)) cw_X12_280 w_2350 (Nat.le_of_ble_eq_true rfl) rfl (Nat.le_of_ble_eq_true rfl) (tbd tv_X12_mount rfl) (fun v5 f5 q5 => ?_) (fun _ _ h => h.elim)
      obtain ⟨rfl, rfl⟩ := q5
      refine G.eqs [.int (smV (rA (setA (rHd (setS (R) 0 0)) 43 (rRd (rHd (setS (R) 0 0)) 0)) 43) (rA (setA (rHd (setS (R) 0 0)) 43 (rRd (rHd (setS (R) 0 0)) 0)) 44) 0 0 128), .ref (gAd E (56))] rfl ?_
      refine G.if_ne 63 (tbd tv_X12_mount rfl) (by decide) (fun c56 => absurd (hbad c5 c12) c56) (fun c56 => ?_)
      refine G.go tv_X12_mount 3 65 [(0, .ref (gAd E (56)))] [.int ((3 : Int32)), .int ((1 : Int32)), .ref (gAd E (56))] rfl ?_
      refine G.callV (56) [.int ((1 : Int32)), .int ((3 : Int32))] [] (c_X12_refuse E _ (setA (rHd (setS (R) 0 0)) 43 (rRd (rHd (setS (R) 0 0)) 0)) hE ra4 ((1 : Int32)) ((3 : Int32)) (Or.inr rfl)) cls_X12 (by omega) (ra4.o) cw_X12_385 w_2268 w_53 (Nat.le_of_ble_eq_true rfl) rfl (Nat.le_of_ble_eq_true rfl) (tbd tv_X12_mount rfl) (fun v6 f6 q6 => ?_) (fun _ _ h => h.elim)
      obtain ⟨rfl, ra6, fa6⟩ := q6
      refine G.eqs [.int ((1 : Int32))] rfl ?_
      refine G.if_eq 73 (tbd tv_X12_mount rfl) (by decide) (fun c68 => absurd c68 (by decide)) (fun c68 => ?_)
      refine G.go tv_X12_mount 1 72 [(0, .ref (gAd E (56)))] [.int ((0 : Int32))] rfl ?_
      exact G.iret rfl rfl (⟨Or.inr ⟨⟨c5, c12⟩, rfl, ra6⟩, (((fa2).tr fa3 (fun _ h => h)).tr fa4 (fun _ h => h)).tr fa6 (fun _ h => h)⟩) (tbd tv_X12_mount rfl)
    · skip
      refine G.go tv_X12_mount 3 21 [(0, .ref (gAd E (56)))] [.int ((1 : Int32)), .int ((1 : Int32)), .ref (gAd E (56))] rfl ?_
      refine G.callV (56) [.int ((1 : Int32)), .int ((1 : Int32))] [] (c_X12_refuse E _ (R) hE r ((1 : Int32)) ((1 : Int32)) (Or.inr rfl)) cls_X12 (by omega) (r.o) cw_X12_385 w_2268 w_53 (Nat.le_of_ble_eq_true rfl) rfl (Nat.le_of_ble_eq_true rfl) (tbd tv_X12_mount rfl) (fun v7 f7 q7 => ?_) (fun _ _ h => h.elim)
      obtain ⟨rfl, ra7, fa7⟩ := q7
      refine G.eqs [.int ((1 : Int32))] rfl ?_
      refine G.if_eq 29 (tbd tv_X12_mount rfl) (by decide) (fun c24 => absurd c24 (by decide)) (fun c24 => ?_)
      refine G.go tv_X12_mount 1 28 [(0, .ref (gAd E (56)))] [.int ((0 : Int32))] rfl ?_
      exact G.iret rfl rfl (⟨Or.inl ⟨by first | exact Or.inl c5 | exact Or.inr c12, rfl, ra7⟩, fa7⟩) (tbd tv_X12_mount rfl)
