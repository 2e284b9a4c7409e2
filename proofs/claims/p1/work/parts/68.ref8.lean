theorem rFl_ok {R : RfT} {wf w B hd n : Nat} (h : rDb R wf w B hd) : rDb (rFl R n) wf w B 0 := by
  obtain ⟨⟨a1, a2, a3, a4⟩, b, c, ⟨d1, d2, d3, d4⟩, ⟨e1, e2, e3, e4, e5⟩, f, g⟩ := h
  refine ⟨⟨a1, a2, a3, a4⟩, b, c, ⟨d1, d2, d3, d4⟩, ⟨e1, e2, e3, rfl, by omega⟩, f, fun t ht => Or.inl ?_⟩
  show flt (rA R 39) 0 1024 (-1) t = -1
  unfold flt
  rw [if_pos ⟨by omega, ht⟩]
theorem rFl_wk {R : RfT} {n : Nat} : rWk (rFl R n) 0 := ⟨by omega, rfl, fun k hk => absurd hk (by omega)⟩
theorem rNo_wk {R : RfT} {n : Nat} (h : rWk R n) : ∃ m, rWk (rNo R n) m := by
  unfold rNo
  split
  · exact ⟨n, h⟩
  · exact ⟨0, rFl_wk⟩
/-- all held values are written, the lowest block first -/
def rSeL : Nat → RfT → RfT
  | 0, R => R
  | d + 1, R => if rS R 11 = 0 then R else if rCan R then rSeL d (rLe (rWr R (rLow (rA R 15) (nH R)).toNatClampNeg) (rLow (rA R 15) (nH R)).toNatClampNeg) else rFl R (nK R)
def rSett (R : RfT) : RfT := if rCan (rSeL (nH R) R) then rSyn (rSeL (nH R) R) (nF (rSeL (nH R) R)) (nW (rSeL (nH R) R)) else rNo (rSeL (nH R) R) (nK (rSeL (nH R) R))
def rOk (R : RfT) (B : Nat) : Prop := ∃ wf w hd n, rDb R wf w B hd ∧ rWk R n
theorem rStep_ok {R : RfT} {wf w B hd n m : Nat} (h : rDb R wf w B hd) (hk : rWk R n) (hm : m < hd) : rDb (rLe (rWr R m) m) (if w = 256 then (wf + 1) % 256 else wf) (if w = 256 then 256 else w + 1) B (hd - 1) ∧ rWk (rLe (rWr R m) m) n := by
  obtain ⟨⟨hwf, hwf2, hnw, hnw2⟩, h7, h40, ⟨hb6, hb8, hb17, hb44⟩, ⟨hB, hB4, hB64, hh, hhB⟩, h15, h39⟩ := id h
  obtain ⟨b, hb1, hb⟩ := h7 wf hwf2
  obtain ⟨t, ht1, ht⟩ := h15 m (by omega)
  obtain ⟨t2, ht2, hl⟩ := h15 (hd - 1) (by omega)
  have d1 := rWrt_ok (b := b) (q := m) h ht1
  rw [rWr_eq h hb hb1 ht ht1] at d1
  have eA : rA (rWr R m) 15 = rA R 15 := rWrt_A (by decide) (by decide) (by decide) (by decide)
  have a1 : rA (rWr R m) 15 m = nI t := by rw [eA]; exact ht
  have a2 : rA (rWr R m) 15 (hd - 1) = nI t2 := by rw [eA]; exact hl
  have d2 := rLv_ok d1 hm a1 ht1 a2 ht2
  rw [rLe_eq d1 a1 ht1 a2 ht2] at d2
  exact ⟨d2, rWk_lv (rWk_wrt hk)⟩
theorem rSeL_ok {B : Nat} : ∀ (hd : Nat) {R : RfT} {wf w n : Nat}, rDb R wf w B hd → rWk R n → rOk (rSeL hd R) B
  | 0, R, wf, w, n, h, hk => ⟨wf, w, 0, n, h, hk⟩
  | hd + 1, R, wf, w, n, h, hk => by
    unfold rSeL
    split
    · exact ⟨wf, w, hd + 1, n, h, hk⟩
    · split
      · have hlen : hd + 1 ≤ 64 := by
          obtain ⟨-, -, -, -, ⟨-, -, e3, -, e5⟩, -, -⟩ := h
          omega
        obtain ⟨m, hm, e⟩ := rLow_some (rA R 15) (i := hd + 1) (by omega) (by omega)
        rw [h.n.2.2, e, nI_clamp (by omega)]
        have d := rStep_ok h hk hm
        exact rSeL_ok hd d.1 d.2
      · exact ⟨_, _, _, _, rFl_ok h, rFl_wk⟩
theorem rSett_ok {R : RfT} {B : Nat} (h : rOk R B) : rOk (rSett R) B := by
  obtain ⟨wf, w, hd, n, h, hk⟩ := h
  have h1 := rSeL_ok hd h hk
  unfold rSett
  rw [h.n.2.2]
  obtain ⟨wf1, w1, hd1, n1, h1, k1⟩ := h1
  split
  · rw [h1.n.1, h1.n.2.1]
    exact ⟨_, _, _, n1, rSyn_ok h1, ⟨k1.1, k1.2.1, k1.2.2⟩⟩
  · unfold rNo
    split
    · exact ⟨_, _, _, _, h1, k1⟩
    · exact ⟨_, _, _, _, rFl_ok h1, rFl_wk⟩
theorem rHand_ok {R : RfT} {B j a t : Nat} (h : rOk R B) (ht : t < 1024) (hj : Byt (rA R j)) (j39 : j ≠ 39) (j15 : j ≠ 15) (j17 : j ≠ 17) (j6 : j ≠ 6) (j7 : j ≠ 7) (j8 : j ≠ 8) (j40 : j ≠ 40) : rOk (rHand R j a t) B := by
  obtain ⟨wf, w, hd, n, h, hk⟩ := h
  obtain ⟨e1, e2, e3⟩ := h.n
  obtain ⟨⟨hwf, hwf2, hnw, hnw2⟩, h7, h40, ⟨hb6, hb8, hb17, hb44⟩, ⟨hB, hB4, hB64, hh, hhB⟩, h15, h39⟩ := id h
  have keep : ∀ {X : RfT} {k u i b : Nat}, rWk X n → rWk (rHn X k u i b) n := fun h => ⟨h.1, h.2.1, h.2.2⟩
  unfold rHand
  rw [e3, hB, nI_clamp (by omega)]
  split
  · exact ⟨_, _, _, _, h, hk⟩
  · split
    · split
      · next hf =>
        split
        · have ho := rOld_le (rLW R) (hd - 1)
          obtain ⟨b, hb1, hb⟩ := h7 wf hwf2
          obtain ⟨bo, hbo1, hbo⟩ := h15 (rOld (rLW R) (hd - 1)) (by omega)
          obtain ⟨bl, hbl1, hbl⟩ := h15 (hd - 1) (by omega)
          have d1 := rDb_20 (v := rS R 20 + 1) (rWrt_ok (b := b) (q := rOld (rLW R) (hd - 1)) h hbo1)
          rw [rWr_eq h hb hb1 hbo hbo1] at d1
          have eA : ∀ i, i ≠ 6 → i ≠ 7 → i ≠ 8 → i ≠ 40 → rA (setS (rWr R (rOld (rLW R) (hd - 1))) 20 (rS R 20 + 1)) i = rA R i := fun i a b c d => rWrt_A a b c d
          have a1 : rA (setS (rWr R (rOld (rLW R) (hd - 1))) 20 (rS R 20 + 1)) 15 (rOld (rLW R) (hd - 1)) = nI bo := by rw [eA 15 (by decide) (by decide) (by decide) (by decide)]; exact hbo
          have a2 : rA (setS (rWr R (rOld (rLW R) (hd - 1))) 20 (rS R 20 + 1)) 15 (hd - 1) = nI bl := by rw [eA 15 (by decide) (by decide) (by decide) (by decide)]; exact hbl
          have d2 := rLv_ok d1 (by omega) a1 hbo1 a2 hbl1
          have hj2 : Byt (rA (rLv (setS (rWr R (rOld (rLW R) (hd - 1))) 20 (rS R 20 + 1)) hd (rOld (rLW R) (hd - 1)) bo bl) j) := by
            rw [rLv_A j39 j15 j17, eA j j6 j7 j8 j40]
            exact hj
          have k2 : rWk (rLv (setS (rWr R (rOld (rLW R) (hd - 1))) 20 (rS R 20 + 1)) hd (rOld (rLW R) (hd - 1)) bo bl) n := rWk_lv (by
            have := rWk_wrt (wf := nF R) (w := nW R) (b := (rA R 7 (nF R)).toNatClampNeg) (t := nBl R (rOld (rLW R) (hd - 1))) (q := rOld (rLW R) (hd - 1)) hk
            exact ⟨this.1, this.2.1, this.2.2⟩)
          rw [rLe_eq d1 a1 hbo1 a2 hbl1] at d2 hj2 k2
          exact ⟨_, _, _, n, rHn_new d2 (by omega) ht hj2, ⟨k2.1, k2.2.1, k2.2.2⟩⟩
        · exact ⟨_, _, _, _, rFl_ok h, rFl_wk⟩
      · exact ⟨_, _, _, n, rHn_new h (by omega) ht hj, ⟨hk.1, hk.2.1, hk.2.2⟩⟩
    · next hne =>
      obtain ⟨k, k1, k2, k3⟩ := (h39 t ht).resolve_left hne
      rw [k2, nI_clamp (by omega)]
      exact ⟨_, _, _, n, rHn_old h k1 k3 ht hj, ⟨hk.1, hk.2.1, hk.2.2⟩⟩
def tb_X12_settle : List (Nat × Instr × Nat) := [(0, .aload_n 0, 1), (1, .iconst 0, 1), (2, .invokevirtual 216, 3), (5, .istore_n 1, 1), (6, .aload_n 0, 1), (7, .getfield 25, 3), (10, .ifCond .eq 48, 3), (13, .iload_n 1, 1), (14, .iconst (-1), 1), (15, .if_icmp .eq 43, 3), (18, .aload_n 0, 1), (19, .aload_n 0, 1), (20, .getfield 33, 3), (23, .iload_n 1, 1), (24, .iaload, 1), (25, .aload_n 0, 1), (26, .getfield 40, 3), (29, .sipush 128, 3), (32, .iload_n 1, 1), (33, .imul, 1), (34, .invokevirtual 201, 3), (37, .aload_n 0, 1), (38, .getfield 25, 3), (41, .ifCond .eq 8, 3), (44, .aload_n 0, 1), (45, .iload_n 1, 1), (46, .invokevirtual 208, 3), (49, .aload_n 0, 1), (50, .iconst 0, 1), (51, .invokevirtual 216, 3), (54, .istore_n 1, 1), (55, .goto (-49), 3), (58, .aload_n 0, 1), (59, .invokevirtual 219, 3), (62, .return_, 1)]
theorem tv_X12_settle : Tv cX12_settle tb_X12_settle := by
  unfold Tv
  decide +kernel
set_option maxRecDepth 100000 in
set_option maxHeartbeats 4000000 in
theorem se_zero (E : gE) (f0 : Nat → va_E) (sz : Nat) (A : Nat → Prop) (Q : gQ) (hE : 94 ≤ gN E) (R : RfT) (f : Nat → va_E) (r : RfV E f R) (hf : Fr RfK f0 f) (kq : ∀ g x, RfV E g (R) → Fr RfK f0 g → G E (6, yX12_settle, 2, none, sz, A) cX12_settle (gO E (6, yX12_settle, 2, none, sz, A) Q) 58 [(0, .ref (gAd E (56))), (1, .int (x))] [] g) : G E (6, yX12_settle, 2, none, sz, A) cX12_settle (gO E (6, yX12_settle, 2, none, sz, A) Q) 6 [(0, .ref (gAd E (56))), (1, .int ((-1 : Int32)))] [] f := by
  refine G.go tv_X12_settle 1 7 [(0, .ref (gAd E (56))), (1, .int ((-1 : Int32)))] [.ref (gAd E (56))] rfl ?_
  refine G.rg r hE 11 (.int (rS R 11)) (by decide) rfl (tbd tv_X12_settle rfl) w_2076 ?_
  refine G.if_eq 58 (tbd tv_X12_settle rfl) (by decide) (fun c10 => ?_) (fun c10 => ?_)
  · skip
    exact kq _ _ r hf
  · skip
    refine G.go tv_X12_settle 2 15 [(0, .ref (gAd E (56))), (1, .int ((-1 : Int32)))] [.int ((-1 : Int32)), .int ((-1 : Int32))] rfl ?_
    refine G.cmp_eq 58 (tbd tv_X12_settle rfl) (by decide) (fun c15 => ?_) (fun c15 => absurd (rfl) c15)
    exact kq _ _ r hf
theorem w_2317 : Cond.methodLink "LedgerFilesModel" 216 yX12_lowestHeld ∈ TB := tp_10 11 (by decide +kernel) rfl
theorem w_2320 : Cond.code yX12_lowestHeld prog_14_method_18_code 4 (some .int) ∈ TB := tp_10 14 rfl rfl
theorem cw_X12_216 : Cw RX12 216 yX12_lowestHeld cX12_lowestHeld 4 (some .int) 1 := ⟨w_2317, w_2320, w_161, by decide +kernel, by decide +kernel, by decide⟩
theorem w_2319 : Cond.instanceMethod yX12_lowestHeld ∈ TB := tp_10 13 (by decide +kernel) rfl
theorem w_65 : Cond.selects "LedgerFilesModel" yX12_lowestHeld yX12_lowestHeld ∈ TB := tp_0 65 (by decide +kernel) rfl
set_option maxRecDepth 100000 in
set_option maxHeartbeats 4000000 in
theorem rse_loop (E : gE) (f0 : Nat → va_E) (sz : Nat) (A : Nat → Prop) (Q : gQ) (B : Nat) (hE : 94 ≤ gN E) : ∀ (hd : Nat) (R : RfT) (wf w n : Nat) (f : Nat → va_E), rDb R wf w B hd → rWk R n → RfV E f R → Fr RfK f0 f → (∀ g x, RfV E g (rSeL hd R) → Fr RfK f0 g → G E (6, yX12_settle, 2, none, sz, A) cX12_settle (gO E (6, yX12_settle, 2, none, sz, A) Q) 58 [(0, .ref (gAd E (56))), (1, .int (x))] [] g) → G E (6, yX12_settle, 2, none, sz, A) cX12_settle (gO E (6, yX12_settle, 2, none, sz, A) Q) 6 [(0, .ref (gAd E (56))), (1, .int (rLow (rA R 15) hd))] [] f := by
  intro hd
  induction hd with
  | zero =>
    intro R wf w n f hd0 hk0 r hf kq
    exact se_zero E f0 _ _ _ hE R f r hf kq
  | succ hd ih =>
    intro R wf w n f hd0 hk0 r hf kq
    obtain ⟨⟨hwf, hwf2, hnw, hnw2⟩, h7, h40, ⟨hb6, hb8, hb17, hb44⟩, ⟨hB, hB4, hB64, hh, hhB⟩, h15, h39⟩ := id hd0
    obtain ⟨m, hm, hlo⟩ := rLow_some (rA R 15) (i := hd + 1) (by omega) (by omega)
    have hne : ¬ nI m = -1 := fun q => by
      have := nI_pos (n := m) (by omega)
      rw [q] at this
      exact this (by decide)
    obtain ⟨b, hb1, hb⟩ := h7 wf hwf2
    obtain ⟨t, ht1, ht⟩ := h15 m (by omega)
    obtain ⟨t2, ht2, ht3⟩ := h15 (hd + 1 - 1) (by omega)
    rw [hlo]
    refine G.go tv_X12_settle 1 7 [(0, .ref (gAd E (56))), (1, .int (nI m))] [.ref (gAd E (56))] rfl ?_
    refine G.rg r hE 11 (.int (rS R 11)) (by decide) rfl (tbd tv_X12_settle rfl) w_2076 ?_
    refine G.if_eq 58 (tbd tv_X12_settle rfl) (by decide) (fun c10 => ?_) (fun c10 => ?_)
    · skip
      exact kq _ _ (by unfold rSeL; rw [if_pos c10]; exact r) (hf)
    · skip
      refine G.go tv_X12_settle 2 15 [(0, .ref (gAd E (56))), (1, .int (nI m))] [.int ((-1 : Int32)), .int (nI m)] rfl ?_
      refine G.cmp_eq 58 (tbd tv_X12_settle rfl) (by decide) (fun c15 => absurd c15 (hne)) (fun c15 => ?_)
      refine G.go tv_X12_settle 2 20 [(0, .ref (gAd E (56))), (1, .int (nI m))] [.ref (gAd E (56)), .ref (gAd E (56))] rfl ?_
      refine G.rg r hE 15 (.ref (gAd E (61))) (by decide) rfl (tbd tv_X12_settle rfl) w_2080 ?_
      refine G.go tv_X12_settle 1 24 [(0, .ref (gAd E (56))), (1, .int (nI m))] [.int (nI m), .ref (gAd E (61)), .ref (gAd E (56))] rfl ?_
      refine G.ialdN (61) (m) (by omega) (r.a15) (by omega) (by decide) (tbd tv_X12_settle rfl) ?_
      refine G.eqs [.int ((rA R 15) (m)), .ref (gAd E (56))] rfl ?_
      refine G.eqs [.int (nI t), .ref (gAd E (56))] (by rw [ht]) ?_
      refine G.go tv_X12_settle 1 26 [(0, .ref (gAd E (56))), (1, .int (nI m))] [.ref (gAd E (56)), .int (nI t), .ref (gAd E (56))] rfl ?_
      refine G.rg r hE 17 (.ref (gAd E (63))) (by decide) rfl (tbd tv_X12_settle rfl) w_2082 ?_
      refine G.go tv_X12_settle 3 34 [(0, .ref (gAd E (56))), (1, .int (nI m))] [.int (((128 : Int32)) * (nI m)), .ref (gAd E (63)), .int (nI t), .ref (gAd E (56))] rfl ?_
      refine G.eqs [.int (nI (128 * m)), .ref (gAd E (63)), .int (nI t), .ref (gAd E (56))] (by rw [show (128 : Int32) = nI 128 from rfl, pk_mul]) ?_
      refine G.callV (56) [.int (nI t), .ref (gAd E (63)), .int (nI (128 * m))] [] (c_X12_writeDisk E _ R wf w B (hd + 1) n hd0 hk0 hE r b t m hb1 hb ht1 (by omega)) cls_X12 (by omega) (r.o) cw_X12_201 w_2288 w_58 (Nat.le_of_ble_eq_true rfl) rfl (Nat.le_of_ble_eq_true rfl) (tbd tv_X12_settle rfl) (fun v1 f1 q1 => ?_) (fun _ _ h => h.elim)
      rcases q1 with ⟨hc, rfl, ra1, fa1⟩ | ⟨hc, rfl, ra1, fa1⟩
      · skip
        have rb1 : RfV E f1 (rFl R n) := by unfold rNo at ra1; rw [if_neg c10] at ra1; exact ra1
        refine G.eqs [] rfl ?_
        refine G.go tv_X12_settle 1 38 [(0, .ref (gAd E (56))), (1, .int (nI m))] [.ref (gAd E (56))] rfl ?_
        refine G.rg rb1 hE 11 (.int (rS (rFl R n) 11)) (by decide) rfl (tbd tv_X12_settle rfl) w_2076 ?_
        refine G.if_eq 49 (tbd tv_X12_settle rfl) (by decide) (fun c41 => ?_) (fun c41 => absurd (rfl) c41)
        refine G.go tv_X12_settle 2 51 [(0, .ref (gAd E (56))), (1, .int (nI m))] [.int ((0 : Int32)), .ref (gAd E (56))] rfl ?_
        refine G.callV (56) [.int ((0 : Int32))] [] (c_X12_lowestHeld E _ (rFl R n) _ _ B 0 (rFl_ok hd0) hE rb1) cls_X12 (by omega) (rb1.o) cw_X12_216 w_2319 w_65 (Nat.le_of_ble_eq_true rfl) rfl (Nat.le_of_ble_eq_true rfl) (tbd tv_X12_settle rfl) (fun v2 f2 q2 => ?_) (fun _ _ h => h.elim)
        obtain ⟨rfl, ra2, fa2⟩ := q2
        refine G.eqs [.int ((-1 : Int32))] rfl ?_
        refine G.go tv_X12_settle 2 6 [(0, .ref (gAd E (56))), (1, .int ((-1 : Int32)))] [] rfl ?_
        exact se_zero E f0 _ _ _ hE (rFl R n) _ ra2 (((hf).tr fa1 (fun _ h => h)).tr fa2 (fun _ h => h)) (fun g x q => kq g x (by unfold rSeL; rw [if_neg c10, if_neg hc, hk0.n]; exact q))
      · skip
        have rb1 := ra1
        have d1 : rDb (rWrt R wf w b t m) _ _ B (hd + 1) := rWrt_ok hd0 ht1
        have a1 : rA (rWrt R wf w b t m) 15 m = nI t := (congrFun (rWrt_A (by decide) (by decide) (by decide) (by decide)) _).trans ht
        have a2 : rA (rWrt R wf w b t m) 15 (hd + 1 - 1) = nI t2 := (congrFun (rWrt_A (by decide) (by decide) (by decide) (by decide)) _).trans ht3
        refine G.eqs [] rfl ?_
        refine G.go tv_X12_settle 1 38 [(0, .ref (gAd E (56))), (1, .int (nI m))] [.ref (gAd E (56))] rfl ?_
        refine G.rg rb1 hE 11 (.int (rS (rWrt R wf w b t m) 11)) (by decide) rfl (tbd tv_X12_settle rfl) w_2076 ?_
        refine G.if_eq 49 (tbd tv_X12_settle rfl) (by decide) (fun c41 => absurd c41 (by rw [rWrt_S (by decide) (by decide) (by decide) (by decide)]; exact c10)) (fun c41 => ?_)
        refine G.go tv_X12_settle 2 46 [(0, .ref (gAd E (56))), (1, .int (nI m))] [.int (nI m), .ref (gAd E (56))] rfl ?_
        refine G.callV (56) [.int (nI m)] [] (c_X12_leave E _ (rWrt R wf w b t m) _ _ B (hd + 1) d1 hE rb1 m t t2 hm a1 ht1 a2 ht2) cls_X12 (by omega) (rb1.o) cw_X12_208 w_2311 w_63 (Nat.le_of_ble_eq_true rfl) rfl (Nat.le_of_ble_eq_true rfl) (tbd tv_X12_settle rfl) (fun v3 f3 q3 => ?_) (fun _ _ h => h.elim)
        obtain ⟨rfl, ra3, fa3⟩ := q3
        refine G.eqs [] rfl ?_
        have d2 := rLv_ok d1 hm a1 ht1 a2 ht2
        refine G.go tv_X12_settle 2 51 [(0, .ref (gAd E (56))), (1, .int (nI m))] [.int ((0 : Int32)), .ref (gAd E (56))] rfl ?_
        refine G.callV (56) [.int ((0 : Int32))] [] (c_X12_lowestHeld E _ (rLv (rWrt R wf w b t m) (hd + 1) m t t2) _ _ B hd d2 hE ra3) cls_X12 (by omega) (ra3.o) cw_X12_216 w_2319 w_65 (Nat.le_of_ble_eq_true rfl) rfl (Nat.le_of_ble_eq_true rfl) (tbd tv_X12_settle rfl) (fun v4 f4 q4 => ?_) (fun _ _ h => h.elim)
        obtain ⟨rfl, ra4, fa4⟩ := q4
        refine G.eqs [.int (rLow (rA (rLv (rWrt R wf w b t m) (hd + 1) m t t2) 15) hd)] rfl ?_
        refine G.go tv_X12_settle 2 6 [(0, .ref (gAd E (56))), (1, .int (rLow (rA (rLv (rWrt R wf w b t m) (hd + 1) m t t2) 15) hd))] [] rfl ?_
        rw [rWr_eq hd0 hb hb1 ht ht1] at d1 a1 a2 d2 ra4
        rw [rLe_eq d1 a1 ht1 a2 ht2] at d2 ra4
        rw [rWr_eq hd0 hb hb1 ht ht1, rLe_eq d1 a1 ht1 a2 ht2]
        exact ih (rLe (rWr R m) m) _ _ n _ d2 (rStep_ok hd0 hk0 hm).2 ra4 ((((hf).tr fa1 (fun _ h => h)).tr fa3 (fun _ h => h)).tr fa4 (fun _ h => h)) (fun g x q => kq g x (by unfold rSeL; rw [if_neg c10, if_pos hc, hd0.n.2.2, hlo, nI_clamp (by omega)]; exact q))
theorem w_2321 : Cond.methodLink "LedgerFilesModel" 219 yX12_syncDisk ∈ TB := tp_10 15 (by decide +kernel) rfl
theorem w_2324 : Cond.code yX12_syncDisk prog_14_method_13_code 3 none ∈ TB := tp_10 18 rfl rfl
theorem cw_X12_219 : Cw RX12 219 yX12_syncDisk cX12_syncDisk 3 none 0 := ⟨w_2321, w_2324, w_161, by decide +kernel, by decide +kernel, by decide⟩
theorem w_2323 : Cond.instanceMethod yX12_syncDisk ∈ TB := tp_10 17 (by decide +kernel) rfl
theorem w_66 : Cond.selects "LedgerFilesModel" yX12_syncDisk yX12_syncDisk ∈ TB := tp_0 66 (by decide +kernel) rfl
set_option maxRecDepth 100000 in
set_option maxHeartbeats 4000000 in
theorem c_X12_settle (E : gE) (f : Nat → va_E) (R : RfT) (B : Nat) (hok : rOk R B) (hE : 94 ≤ gN E) (r : RfV E f R) : Ct E 6 yX12_settle cX12_settle 2 none [.ref (gAd E (56))] f (fun v g => v = none ∧ RfV E g (rSett R) ∧ Fr RfK f g, fun _ _ => False) := by
  obtain ⟨wf, w, hd, n, hd0, hk0⟩ := id hok
  refine Ct.of (by decide) (Nat.le_of_ble_eq_true rfl) (fun sz => ?_)
  refine G.eql [(0, .ref (gAd E (56)))] rfl ?_
  refine G.go tv_X12_settle 2 2 [(0, .ref (gAd E (56)))] [.int ((0 : Int32)), .ref (gAd E (56))] rfl ?_
  refine G.callV (56) [.int ((0 : Int32))] [] (c_X12_lowestHeld E _ R wf w B hd hd0 hE r) cls_X12 (by omega) (r.o) cw_X12_216 w_2319 w_65 (Nat.le_of_ble_eq_true rfl) rfl (Nat.le_of_ble_eq_true rfl) (tbd tv_X12_settle rfl) (fun v1 f1 q1 => ?_) (fun _ _ h => h.elim)
  obtain ⟨rfl, ra1, fa1⟩ := q1
  refine G.eqs [.int (rLow (rA R 15) hd)] rfl ?_
  refine G.go tv_X12_settle 1 6 [(0, .ref (gAd E (56))), (1, .int (rLow (rA R 15) hd))] [] rfl ?_
  refine rse_loop E f _ _ _ B hE hd R wf w n _ hd0 hk0 ra1 (fa1) ?_
  intro u0 x r0 h0
  obtain ⟨wf1, w1, hd1, n1, d1, k1⟩ := rSeL_ok hd hd0 hk0
  refine G.go tv_X12_settle 1 59 [(0, .ref (gAd E (56))), (1, .int (x))] [.ref (gAd E (56))] rfl ?_
  refine G.callV (56) [] [] (c_X12_syncDisk E _ (rSeL hd R) wf1 w1 B hd1 n1 d1 k1 hE r0) cls_X12 (by omega) (r0.o) cw_X12_219 w_2323 w_66 (Nat.le_of_ble_eq_true rfl) rfl (Nat.le_of_ble_eq_true rfl) (tbd tv_X12_settle rfl) (fun v51 f51 q51 => ?_) (fun _ _ h => h.elim)
  rcases q51 with ⟨hc, rfl, ra51, fa51⟩ | ⟨hc, rfl, ra51, fa51⟩
  · skip
    refine G.eqs [] rfl ?_
    exact G.vret rfl ⟨rfl, by unfold rSett; rw [hd0.n.2.2, if_neg hc, k1.n]; exact ra51, (h0).tr fa51 (fun _ h => h)⟩ (tbd tv_X12_settle rfl)
  · skip
    refine G.eqs [] rfl ?_
    exact G.vret rfl ⟨rfl, by unfold rSett; rw [hd0.n.2.2, if_pos hc, d1.n.1, d1.n.2.1]; exact ra51, (h0).tr fa51 (fun _ h => h)⟩ (tbd tv_X12_settle rfl)
theorem fits8 (x : Int32) : fits .byte (.int (vp_nar .byte x)) = true := by
  rw [vp_nar_byte]
  have a := Int8.le_toInt x.toInt8
  have b := Int8.toInt_lt x.toInt8
  simp only [fits, Bool.and_eq_true, decide_eq_true_eq]
  constructor
  · apply Int32.le_iff_toInt_le.mpr
    rw [Int8.toInt_toInt32]
    exact a
  · apply Int32.le_iff_toInt_le.mpr
    rw [Int8.toInt_toInt32]
    show x.toInt8.toInt ≤ 127
    omega
theorem Byt.upd8 {g : Nat → Int32} {k : Nat} {x : Int32} (h : Byt g) : Byt (upd g k (vp_nar .byte x)) := by
  intro i
  by_cases e : i = k
  · rw [e, pk_us]
    exact fits8 x
  · rw [pk_un e]
    exact h i
/-- a number's lowest n bytes -/
def stV (g : Nat → Int32) (a : Nat) (v : Int32) : Nat → Nat → Int32
  | 0 => g
  | k + 1 => upd (stV g a v k) (a + k) (vp_nar .byte ((v.toUInt32 >>> (((8 : Int32) * nI k).toUInt32 &&& Int32.toUInt32 31)).toInt32.toInt8.toInt32))
theorem stV_b {g : Nat → Int32} {a : Nat} {v : Int32} (h : Byt g) : ∀ n, Byt (stV g a v n)
  | 0 => h
  | n + 1 => (stV_b h n).upd8
def tb_X12_set : List (Nat × Instr × Nat) := [(0, .iconst 0, 1), (1, .istore 4, 2), (3, .iload 4, 2), (5, .iload_n 2, 1), (6, .if_icmp .ge 23, 3), (9, .aload_n 0, 1), (10, .iload_n 1, 1), (11, .iload 4, 2), (13, .iadd, 1), (14, .iload_n 3, 1), (15, .bipush 8, 2), (17, .iload 4, 2), (19, .imul, 1), (20, .iushr, 1), (21, .i2b, 1), (22, .bastore, 1), (23, .iinc 4 1, 3), (26, .goto (-23), 3), (29, .return_, 1)]
theorem tv_X12_set : Tv cX12_set tb_X12_set := by
  unfold Tv
  decide +kernel
set_option maxRecDepth 100000 in
set_option maxHeartbeats 4000000 in
theorem rst_loop (E : gE) (f : Nat → va_E) (sz : Nat) (A : Nat → Prop) (Q : gQ) (kt nt : Nat) (gt : Nat → Int32) (a n : Nat) (v : Int32) (hkt : kt < gN E) (hnt : nt < 2 ^ 31) (ha : a + n ≤ nt) (hq : Q.1 none (va_up f kt (oB (gDA E) nt (stV gt a v (n))))) : ∀ (d j : Nat), j + d = n → G E (1, yX12_set, 5, none, sz, A) cX12_set (gO E (1, yX12_set, 5, none, sz, A) Q) 3 [(0, .ref (gAd E (kt))), (1, .int (nI a)), (2, .int (nI n)), (3, .int (v)), (4, .int (nI (j)))] [] (va_up f kt (oB (gDA E) nt (stV gt a v (j)))) := by
  intro d
  induction d with
  | zero =>
    intro j e
    have e : j = n := e
    have hq : Q.1 none (va_up f kt (oB (gDA E) nt (stV gt a v (j)))) := by rw [e]; exact hq
    refine G.go tv_X12_set 2 6 [(0, .ref (gAd E (kt))), (1, .int (nI a)), (2, .int (nI n)), (3, .int (v)), (4, .int (nI (j)))] [.int (nI n), .int (nI (j))] rfl ?_
    refine G.cmp_ge 29 (tbd tv_X12_set rfl) (by decide) (fun c6 => ?_) (fun c6 => absurd (by rw [e]; exact nI_le (Nat.le_refl _) (by omega)) c6)
    exact G.vret rfl hq (tbd tv_X12_set rfl)
  | succ d ih =>
    intro j e
    refine G.go tv_X12_set 2 6 [(0, .ref (gAd E (kt))), (1, .int (nI a)), (2, .int (nI n)), (3, .int (v)), (4, .int (nI (j)))] [.int (nI n), .int (nI (j))] rfl ?_
    refine G.cmp_ge 29 (tbd tv_X12_set rfl) (by decide) (fun c6 => absurd c6 (nI_ge (by omega) (by omega))) (fun c6 => ?_)
    refine G.go tv_X12_set 10 22 [(0, .ref (gAd E (kt))), (1, .int (nI a)), (2, .int (nI n)), (3, .int (v)), (4, .int (nI (j)))] [.int ((((v : Int32).toUInt32 >>> ((((8 : Int32)) * (nI (j)) : Int32).toUInt32 &&& Int32.toUInt32 31)).toInt32 : Int32).toInt8.toInt32), .int ((nI a) + (nI (j))), .ref (gAd E (kt))] rfl ?_
    refine G.eqs [.int ((((v : Int32).toUInt32 >>> ((((8 : Int32)) * (nI (j)) : Int32).toUInt32 &&& Int32.toUInt32 31)).toInt32 : Int32).toInt8.toInt32), .int (nI (a + j)), .ref (gAd E (kt))] (by rw [nI_add]) ?_
    refine G.bastN (kt) (a + j) hkt (up_e) (by omega) (hnt) (tbd tv_X12_set rfl) ?_
    refine G.go tv_X12_set 2 3 [(0, .ref (gAd E (kt))), (1, .int (nI a)), (2, .int (nI n)), (3, .int (v)), (4, .int (nI (j) + (1 : Int32)))] [] rfl ?_
    refine G.eql [(0, .ref (gAd E (kt))), (1, .int (nI a)), (2, .int (nI n)), (3, .int (v)), (4, .int (nI (j + 1)))] (by rw [nI_1]) ?_
    refine G.eqf (va_up f kt (oB (gDA E) nt (stV gt a v (j + 1)))) (by rw [bx_uu]; rfl) ?_
    exact ih (j + 1) (by omega)
set_option maxRecDepth 100000 in
set_option maxHeartbeats 4000000 in
theorem c_X12_set (E : gE) (f : Nat → va_E) (kt nt : Nat) (gt : Nat → Int32) (a n : Nat) (v : Int32) (hkt : kt < gN E) (hnt : nt < 2 ^ 31) (ha : a + n ≤ nt) (het : f kt = oB (gDA E) nt gt) : Ct E 1 yX12_set cX12_set 5 none [.ref (gAd E (kt)), .int (nI a), .int (nI n), .int (v)] f (fun r h => r = none ∧ (va_up f kt (oB (gDA E) nt (stV gt a v (n)))) = h, fun _ _ => False) := by
  refine Ct.of (by decide) (Nat.le_of_ble_eq_true rfl) (fun sz => ?_)
  refine G.eql [(0, .ref (gAd E (kt))), (1, .int (nI a)), (2, .int (nI n)), (3, .int (v))] rfl ?_
  refine G.go tv_X12_set 2 3 [(0, .ref (gAd E (kt))), (1, .int (nI a)), (2, .int (nI n)), (3, .int (v)), (4, .int ((0 : Int32)))] [] rfl ?_
  refine G.eqf (va_up f kt (oB (gDA E) nt (stV gt a v (0)))) (up_id het) ?_
  refine rst_loop E f _ _ _ kt nt gt a n v hkt hnt ha ?_ n 0 (by omega)
  exact ⟨rfl, rfl⟩
def rEm (R : RfT) : RfT := setA R 44 (flt (rA R 44) 0 128 0)
def tb_X12_empty : List (Nat × Instr × Nat) := [(0, .iconst 0, 1), (1, .istore_n 1, 1), (2, .iload_n 1, 1), (3, .sipush 128, 3), (6, .if_icmp .ge 16, 3), (9, .aload_n 0, 1), (10, .getfield 89, 3), (13, .iload_n 1, 1), (14, .iconst 0, 1), (15, .bastore, 1), (16, .iinc 1 1, 3), (19, .goto (-17), 3), (22, .return_, 1)]
theorem tv_X12_empty : Tv cX12_empty tb_X12_empty := by
  unfold Tv
  decide +kernel
theorem w_2109 : Cond.fieldLink "LedgerFilesModel" 89 "LedgerFilesModel" "out" "[B" ∈ TB := tp_9 43 (by decide +kernel) rfl
set_option maxRecDepth 100000 in
set_option maxHeartbeats 4000000 in
theorem em_loop (E : gE) (f0 : Nat → va_E) (sz : Nat) (A : Nat → Prop) (Q : gQ) (hE : 94 ≤ gN E) (R : RfT) (kq : ∀ g, RfV E g (setA R 44 (flt (rA R 44) 0 (128) 0)) → Fr RfK f0 g → G E (1, yX12_empty, 2, none, sz, A) cX12_empty (gO E (1, yX12_empty, 2, none, sz, A) Q) 22 [(0, .ref (gAd E (56))), (1, .int (nI (128)))] [] g) : ∀ (d j : Nat), j + d = 128 → ∀ f, RfV E f (setA R 44 (flt (rA R 44) 0 (j) 0)) → Fr RfK f0 f → G E (1, yX12_empty, 2, none, sz, A) cX12_empty (gO E (1, yX12_empty, 2, none, sz, A) Q) 2 [(0, .ref (gAd E (56))), (1, .int (nI (j)))] [] f := by
  intro d
  induction d with
  | zero =>
    intro j e f r hf
    have e : j = 128 := e
    refine G.go tv_X12_empty 2 6 [(0, .ref (gAd E (56))), (1, .int (nI (j)))] [.int ((128 : Int32)), .int (nI (j))] rfl ?_
    refine G.cmp_ge 22 (tbd tv_X12_empty rfl) (by decide) (fun c6 => ?_) (fun c6 => absurd (by rw [e]; exact (nI_le (Nat.le_refl _) (by omega) : nI 128 ≤ nI 128)) c6)
    refine G.eql [(0, .ref (gAd E (56))), (1, .int (nI (128)))] (by rw [e]) ?_
    exact kq _ (by first | exact r | exact e ▸ r) (hf)
  | succ d ih =>
    intro j e f r hf
    refine G.go tv_X12_empty 2 6 [(0, .ref (gAd E (56))), (1, .int (nI (j)))] [.int ((128 : Int32)), .int (nI (j))] rfl ?_
    refine G.cmp_ge 22 (tbd tv_X12_empty rfl) (by decide) (fun c6 => absurd c6 ((nI_ge (by omega) (by omega) : ¬ nI 128 ≤ nI j))) (fun c6 => ?_)
    refine G.go tv_X12_empty 1 10 [(0, .ref (gAd E (56))), (1, .int (nI (j)))] [.ref (gAd E (56))] rfl ?_
    refine G.rg r hE 44 (.ref (gAd E (79))) (by decide) rfl (tbd tv_X12_empty rfl) w_2109 ?_
    refine G.go tv_X12_empty 2 15 [(0, .ref (gAd E (56))), (1, .int (nI (j)))] [.int ((0 : Int32)), .int (nI (j)), .ref (gAd E (79))] rfl ?_
    refine G.raB (j) hE ⟨by decide, by decide⟩ r.a44 (r.p44 _) (by omega) (by decide) (tbd tv_X12_empty rfl) (fun u1 r1 h1 => ?_)
    refine G.go tv_X12_empty 2 2 [(0, .ref (gAd E (56))), (1, .int (nI (j) + (1 : Int32)))] [] rfl ?_
    refine G.eql [(0, .ref (gAd E (56))), (1, .int (nI (j + 1)))] (by rw [nI_1]) ?_
    exact ih (j + 1) (by omega) _ (by have q : RfV E u1 (setA (setA R 44 (flt (rA R 44) 0 (j) 0)) 44 (upd (flt (rA R 44) 0 (j) 0) (j) (vp_nar .byte ((0 : Int32))))) := r1; rw [setA_A, show vp_nar .byte (0 : Int32) = 0 from rfl, flt_s (Nat.zero_le j)] at q; exact q) ((hf).tr h1 (fun _ h => h))
set_option maxRecDepth 100000 in
set_option maxHeartbeats 4000000 in
theorem c_X12_empty (E : gE) (f : Nat → va_E) (R : RfT) (hE : 94 ≤ gN E) (r : RfV E f R) : Ct E 1 yX12_empty cX12_empty 2 none [.ref (gAd E (56))] f (fun v g => v = none ∧ RfV E g (rEm R) ∧ Fr RfK f g, fun _ _ => False) := by
  refine Ct.of (by decide) (Nat.le_of_ble_eq_true rfl) (fun sz => ?_)
  refine G.eql [(0, .ref (gAd E (56)))] rfl ?_
  refine G.go tv_X12_empty 2 2 [(0, .ref (gAd E (56))), (1, .int ((0 : Int32)))] [] rfl ?_
  refine em_loop E f _ _ _ hE R ?_ 128 0 (by omega) f (by rw [flt_0, setA_id]; exact r) Fr.rf
  intro u0 r0 h0
  exact G.vret rfl (⟨rfl, r0, h0⟩) (tbd tv_X12_empty rfl)
