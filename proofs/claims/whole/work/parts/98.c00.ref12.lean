set_option maxRecDepth 100000 in
set_option maxHeartbeats 4000000 in
theorem hl_loop_logValue (E : gE) (f0 : Nat → va_E) (sz : Nat) (A : Nat → Prop) (Q : gQ) (hE : 94 ≤ gN E) (R : RfT) (wf w B hd : Nat) (hd0 : rDb R wf w B hd) (t a : Nat) (h1 : 0 < hd) (kq : ∀ g, RfV E g (R) → Fr RfK f0 g → G E (5, yX12_hand, 7, none, sz, A) cX12_hand (gO E (5, yX12_hand, 7, none, sz, A) Q) 80 [(0, .ref (gAd E (56))), (1, .int (nI t)), (2, .ref (gAd E (65))), (3, .int (nI (a))), (4, .int ((-1 : Int32))), (5, .int (nI (rOld (rLW R) (hd - 1)))), (6, .int (nI ((hd - 1) + 1)))] [] g) : ∀ (d j : Nat), j + d = hd - 1 → ∀ f, RfV E f (R) → Fr RfK f0 f → G E (5, yX12_hand, 7, none, sz, A) cX12_hand (gO E (5, yX12_hand, 7, none, sz, A) Q) 38 [(0, .ref (gAd E (56))), (1, .int (nI t)), (2, .ref (gAd E (65))), (3, .int (nI (a))), (4, .int ((-1 : Int32))), (5, .int (nI (rOld (rLW R) (j)))), (6, .int (nI ((j) + 1)))] [] f := by
  obtain ⟨⟨hwf, hwf2, hnw, hnw2⟩, h7, h40, ⟨hb6, hb8, hb17, hb44⟩, ⟨hB, hB4, hB64, hh, hhB⟩, h15, h39⟩ := id hd0
  intro d
  induction d with
  | zero =>
    intro j e f r hf
    have e : j = hd - 1 := e
    refine G.go tv_X12_hand 2 41 [(0, .ref (gAd E (56))), (1, .int (nI t)), (2, .ref (gAd E (65))), (3, .int (nI (a))), (4, .int ((-1 : Int32))), (5, .int (nI (rOld (rLW R) (j)))), (6, .int (nI ((j) + 1)))] [.ref (gAd E (56)), .int (nI ((j) + 1))] rfl ?_
    refine G.rg r hE 18 (.int (rS R 18)) (by decide) rfl (tbd tv_X12_hand rfl) w_2083 ?_
    refine G.eqs [.int (nI hd), .int (nI ((j) + 1))] (by rw [hh]) ?_
    refine G.cmp_ge 80 (tbd tv_X12_hand rfl) (by decide) (fun c44 => ?_) (fun c44 => absurd (by rw [e]; exact nI_le (by omega) (by omega)) c44)
    refine G.eql [(0, .ref (gAd E (56))), (1, .int (nI t)), (2, .ref (gAd E (65))), (3, .int (nI (a))), (4, .int ((-1 : Int32))), (5, .int (nI (rOld (rLW R) (hd - 1)))), (6, .int (nI ((hd - 1) + 1)))] (by rw [e]) ?_
    exact kq _ (by first | exact r | exact e ▸ r) (hf)
  | succ d ih =>
    intro j e f r hf
    refine G.go tv_X12_hand 2 41 [(0, .ref (gAd E (56))), (1, .int (nI t)), (2, .ref (gAd E (65))), (3, .int (nI (a))), (4, .int ((-1 : Int32))), (5, .int (nI (rOld (rLW R) (j)))), (6, .int (nI ((j) + 1)))] [.ref (gAd E (56)), .int (nI ((j) + 1))] rfl ?_
    refine G.rg r hE 18 (.int (rS R 18)) (by decide) rfl (tbd tv_X12_hand rfl) w_2083 ?_
    refine G.eqs [.int (nI hd), .int (nI ((j) + 1))] (by rw [hh]) ?_
    refine G.cmp_ge 80 (tbd tv_X12_hand rfl) (by decide) (fun c44 => absurd c44 (nI_ge (by omega) (by omega))) (fun c44 => ?_)
    refine G.go tv_X12_hand 1 48 [(0, .ref (gAd E (56))), (1, .int (nI t)), (2, .ref (gAd E (65))), (3, .int (nI (a))), (4, .int ((-1 : Int32))), (5, .int (nI (rOld (rLW R) (j)))), (6, .int (nI ((j) + 1)))] [.ref (gAd E (56))] rfl ?_
    refine G.rg r hE 16 (.ref (gAd E (62))) (by decide) rfl (tbd tv_X12_hand rfl) w_2081 ?_
    refine G.go tv_X12_hand 1 53 [(0, .ref (gAd E (56))), (1, .int (nI t)), (2, .ref (gAd E (65))), (3, .int (nI (a))), (4, .int ((-1 : Int32))), (5, .int (nI (rOld (rLW R) (j)))), (6, .int (nI ((j) + 1)))] [.int (nI ((j) + 1)), .ref (gAd E (62))] rfl ?_
    refine G.laldN (62) (j + 1) (by omega) (r.a16) (by omega) (by decide) (tbd tv_X12_hand rfl) ?_
    refine G.go tv_X12_hand 1 55 [(0, .ref (gAd E (56))), (1, .int (nI t)), (2, .ref (gAd E (65))), (3, .int (nI (a))), (4, .int ((-1 : Int32))), (5, .int (nI (rOld (rLW R) (j)))), (6, .int (nI ((j) + 1)))] [.ref (gAd E (56)), .long ((rLW R) (j + 1))] rfl ?_
    refine G.rg r hE 16 (.ref (gAd E (62))) (by decide) rfl (tbd tv_X12_hand rfl) w_2081 ?_
    refine G.go tv_X12_hand 1 60 [(0, .ref (gAd E (56))), (1, .int (nI t)), (2, .ref (gAd E (65))), (3, .int (nI (a))), (4, .int ((-1 : Int32))), (5, .int (nI (rOld (rLW R) (j)))), (6, .int (nI ((j) + 1)))] [.int (nI (rOld (rLW R) (j))), .ref (gAd E (62)), .long ((rLW R) (j + 1))] rfl ?_
    refine G.laldN (62) (rOld (rLW R) j) (by omega) (r.a16) (by have := rOld_le (rLW R) j; omega) (by decide) (tbd tv_X12_hand rfl) ?_
    refine G.go tv_X12_hand 1 62 [(0, .ref (gAd E (56))), (1, .int (nI t)), (2, .ref (gAd E (65))), (3, .int (nI (a))), (4, .int ((-1 : Int32))), (5, .int (nI (rOld (rLW R) (j)))), (6, .int (nI ((j) + 1)))] [.int (lg_cmp ((rLW R) (j + 1)) ((rLW R) (rOld (rLW R) j)))] rfl ?_
    refine G.if_ge 70 (tbd tv_X12_hand rfl) (by decide) (fun c62 => ?_) (fun c62 => ?_)
    · skip
      refine G.go tv_X12_hand 4 38 [(0, .ref (gAd E (56))), (1, .int (nI t)), (2, .ref (gAd E (65))), (3, .int (nI (a))), (4, .int ((-1 : Int32))), (5, .int (nI (rOld (rLW R) (j)))), (6, .int (nI ((j) + 1) + (1 : Int32)))] [] rfl ?_
      refine G.eql [(0, .ref (gAd E (56))), (1, .int (nI t)), (2, .ref (gAd E (65))), (3, .int (nI (a))), (4, .int ((-1 : Int32))), (5, .int (nI (rOld (rLW R) (j + 1)))), (6, .int (nI ((j + 1) + 1)))] (by rw [show rOld (rLW R) (j + 1) = rOld (rLW R) j from if_pos c62, nI_1]) ?_
      exact ih (j + 1) (by omega) _ (r) (hf)
    · skip
      refine G.go tv_X12_hand 5 38 [(0, .ref (gAd E (56))), (1, .int (nI t)), (2, .ref (gAd E (65))), (3, .int (nI (a))), (4, .int ((-1 : Int32))), (5, .int (nI ((j) + 1))), (6, .int (nI ((j) + 1) + (1 : Int32)))] [] rfl ?_
      refine G.eql [(0, .ref (gAd E (56))), (1, .int (nI t)), (2, .ref (gAd E (65))), (3, .int (nI (a))), (4, .int ((-1 : Int32))), (5, .int (nI (rOld (rLW R) (j + 1)))), (6, .int (nI ((j + 1) + 1)))] (by rw [show rOld (rLW R) (j + 1) = j + 1 from if_neg c62, nI_1]) ?_
      exact ih (j + 1) (by omega) _ (r) (hf)
set_option maxRecDepth 100000 in
set_option maxHeartbeats 4000000 in
theorem c_X12_hand_logValue (E : gE) (f : Nat → va_E) (R : RfT) (wf w B hd n : Nat) (hd0 : rDb R wf w B hd) (hk0 : rWk R n) (hE : 94 ≤ gN E) (r : RfV E f R) (t a : Nat) (ht : t < 1024) (hby : Byt (rA R 24)) (ha : a + 128 ≤ 5120) : Ct E 5 yX12_hand cX12_hand 7 none [.ref (gAd E (56)), .int (nI t), .ref (gAd E (65)), .int (nI (a))] f (fun v g => v = none ∧ RfV E g (rHand R 24 (a) t) ∧ Fr RfK f g, fun _ _ => False) := by
  obtain ⟨⟨hwf, hwf2, hnw, hnw2⟩, h7, h40, ⟨hb6, hb8, hb17, hb44⟩, ⟨hB, hB4, hB64, hh, hhB⟩, h15, h39⟩ := id hd0
  obtain ⟨hn, hwn, hwb⟩ := id hk0
  obtain ⟨e1, e2, e3⟩ := hd0.n
  obtain ⟨b, hb1, hb⟩ := h7 wf hwf2
  obtain ⟨bo, hbo1, hbo⟩ := h15 (rOld (rLW R) (hd - 1)) (by have := rOld_le (rLW R) (hd - 1); omega)
  obtain ⟨bl, hbl1, hbl⟩ := h15 (hd - 1) (by omega)
  refine Ct.of (by decide) (Nat.le_of_ble_eq_true rfl) (fun sz => ?_)
  refine G.eql [(0, .ref (gAd E (56))), (1, .int (nI t)), (2, .ref (gAd E (65))), (3, .int (nI (a)))] rfl ?_
  rcases h39 t ht with hA | ⟨k, hk1, hk2, hk3⟩
  · skip
    refine G.go tv_X12_hand 1 1 [(0, .ref (gAd E (56))), (1, .int (nI t)), (2, .ref (gAd E (65))), (3, .int (nI (a)))] [.ref (gAd E (56))] rfl ?_
    refine G.rg r hE 11 (.int (rS R 11)) (by decide) rfl (tbd tv_X12_hand rfl) w_2076 ?_
    refine G.if_ne 8 (tbd tv_X12_hand rfl) (by decide) (fun c4 => ?_) (fun c4 => ?_)
    · skip
      refine G.go tv_X12_hand 2 10 [(0, .ref (gAd E (56))), (1, .int (nI t)), (2, .ref (gAd E (65))), (3, .int (nI (a)))] [.int (nI t), .ref (gAd E (56))] rfl ?_
      refine G.callV (56) [.int (nI t)] [] (c_X12_heldAt E _ (R) hE r t ht) cls_X12 (by omega) (r.o) cw_X12_197 w_2284 w_57 (Nat.le_of_ble_eq_true rfl) rfl (Nat.le_of_ble_eq_true rfl) (tbd tv_X12_hand rfl) (fun v1 f1 q1 => ?_) (fun _ _ h => h.elim)
      obtain ⟨rfl, ra1, fa1⟩ := q1
      refine G.eqs [.int (rA R 39 t)] rfl ?_
      refine G.eqs [.int ((-1 : Int32))] (by rw [hA]) ?_
      refine G.go tv_X12_hand 3 18 [(0, .ref (gAd E (56))), (1, .int (nI t)), (2, .ref (gAd E (65))), (3, .int (nI (a))), (4, .int ((-1 : Int32)))] [.int ((-1 : Int32)), .int ((-1 : Int32))] rfl ?_
      refine G.cmp_ne 125 (tbd tv_X12_hand rfl) (by decide) (fun c18 => absurd (rfl) c18) (fun c18 => ?_)
      refine G.go tv_X12_hand 1 22 [(0, .ref (gAd E (56))), (1, .int (nI t)), (2, .ref (gAd E (65))), (3, .int (nI (a))), (4, .int ((-1 : Int32)))] [.ref (gAd E (56))] rfl ?_
      refine G.rg ra1 hE 18 (.int (rS R 18)) (by decide) rfl (tbd tv_X12_hand rfl) w_2083 ?_
      refine G.eqs [.int (nI hd)] (by rw [hh]) ?_
      refine G.go tv_X12_hand 1 26 [(0, .ref (gAd E (56))), (1, .int (nI t)), (2, .ref (gAd E (65))), (3, .int (nI (a))), (4, .int ((-1 : Int32)))] [.ref (gAd E (56)), .int (nI hd)] rfl ?_
      refine G.rg ra1 hE 2 (.int (rS R 2)) (by decide) rfl (tbd tv_X12_hand rfl) w_2067 ?_
      refine G.eqs [.int (nI B), .int (nI hd)] (by rw [hB]) ?_
      refine G.cmp_ne 125 (tbd tv_X12_hand rfl) (by decide) (fun c29 => ?_) (fun c29 => ?_)
      · skip
        have hfull : ¬ hd = B := fun q => c29 (by rw [q])
        refine G.go tv_X12_hand 2 128 [(0, .ref (gAd E (56))), (1, .int (nI t)), (2, .ref (gAd E (65))), (3, .int (nI (a))), (4, .int ((-1 : Int32)))] [.int ((-1 : Int32)), .int ((-1 : Int32))] rfl ?_
        refine G.cmp_ne 147 (tbd tv_X12_hand rfl) (by decide) (fun c128 => absurd (rfl) c128) (fun c128 => ?_)
        refine G.go tv_X12_hand 1 132 [(0, .ref (gAd E (56))), (1, .int (nI t)), (2, .ref (gAd E (65))), (3, .int (nI (a))), (4, .int ((-1 : Int32)))] [.ref (gAd E (56))] rfl ?_
        refine G.rg ra1 hE 18 (.int (rS R 18)) (by decide) rfl (tbd tv_X12_hand rfl) w_2083 ?_
        refine G.eqs [.int (nI hd)] (by rw [hh]) ?_
        refine G.go tv_X12_hand 3 139 [(0, .ref (gAd E (56))), (1, .int (nI t)), (2, .ref (gAd E (65))), (3, .int (nI (a))), (4, .int (nI hd))] [.ref (gAd E (56)), .ref (gAd E (56))] rfl ?_
        refine G.rg ra1 hE 18 (.int (rS R 18)) (by decide) rfl (tbd tv_X12_hand rfl) w_2083 ?_
        refine G.eqs [.int (nI hd), .ref (gAd E (56))] (by rw [hh]) ?_
        refine G.go tv_X12_hand 2 144 [(0, .ref (gAd E (56))), (1, .int (nI t)), (2, .ref (gAd E (65))), (3, .int (nI (a))), (4, .int (nI hd))] [.int ((nI hd) + ((1 : Int32))), .ref (gAd E (56))] rfl ?_
        refine G.eqs [.int (nI (hd + 1)), .ref (gAd E (56))] (by rw [nI_1]) ?_
        refine G.rp ra1 hE 18 (setS (R) 18 (nI (hd + 1))) rfl rfl (by decide) rfl rfl rfl (tbd tv_X12_hand rfl) w_2083 (fun u5 r5 h5 => ?_)
        refine G.go tv_X12_hand 1 148 [(0, .ref (gAd E (56))), (1, .int (nI t)), (2, .ref (gAd E (65))), (3, .int (nI (a))), (4, .int (nI hd))] [.ref (gAd E (56))] rfl ?_
        refine G.rg r5 hE 15 (.ref (gAd E (61))) (by decide) rfl (tbd tv_X12_hand rfl) w_2080 ?_
        refine G.go tv_X12_hand 2 154 [(0, .ref (gAd E (56))), (1, .int (nI t)), (2, .ref (gAd E (65))), (3, .int (nI (a))), (4, .int (nI hd))] [.int (nI t), .int (nI hd), .ref (gAd E (61))] rfl ?_
        refine G.raI (hd) hE ⟨by decide, by decide⟩ r5.a15 (r5.p15 _) (by omega) (by decide) (tbd tv_X12_hand rfl) (fun u6 r6 h6 => ?_)
        refine G.go tv_X12_hand 1 156 [(0, .ref (gAd E (56))), (1, .int (nI t)), (2, .ref (gAd E (65))), (3, .int (nI (a))), (4, .int (nI hd))] [.ref (gAd E (56))] rfl ?_
        refine G.rg r6 hE 39 (.ref (gAd E (76))) (by decide) rfl (tbd tv_X12_hand rfl) w_2104 ?_
        refine G.go tv_X12_hand 2 162 [(0, .ref (gAd E (56))), (1, .int (nI t)), (2, .ref (gAd E (65))), (3, .int (nI (a))), (4, .int (nI hd))] [.int (nI hd), .int (nI t), .ref (gAd E (76))] rfl ?_
        refine G.raI (t) hE ⟨by decide, by decide⟩ r6.a39 (r6.p39 _) (ht) (by decide) (tbd tv_X12_hand rfl) (fun u7 r7 h7 => ?_)
        refine G.go tv_X12_hand 1 164 [(0, .ref (gAd E (56))), (1, .int (nI t)), (2, .ref (gAd E (65))), (3, .int (nI (a))), (4, .int (nI hd))] [.ref (gAd E (56))] rfl ?_
        refine G.rg r7 hE 16 (.ref (gAd E (62))) (by decide) rfl (tbd tv_X12_hand rfl) w_2081 ?_
        refine G.go tv_X12_hand 2 170 [(0, .ref (gAd E (56))), (1, .int (nI t)), (2, .ref (gAd E (65))), (3, .int (nI (a))), (4, .int (nI hd))] [.ref (gAd E (56)), .int (nI hd), .ref (gAd E (62))] rfl ?_
        refine G.rg r7 hE 19 (.long (rWh R)) (by decide) rfl (tbd tv_X12_hand rfl) w_2084 ?_
        refine G.raJ (hd) hE ⟨by decide, by decide⟩ r7.a16 (r7.p16 _) (by omega) (by decide) (tbd tv_X12_hand rfl) (fun u8 r8 h8 => ?_)
        refine G.go tv_X12_hand 2 176 [(0, .ref (gAd E (56))), (1, .int (nI t)), (2, .ref (gAd E (65))), (3, .int (nI (a))), (4, .int (nI hd))] [.ref (gAd E (56)), .ref (gAd E (56))] rfl ?_
        refine G.rg r8 hE 19 (.long (rWh R)) (by decide) rfl (tbd tv_X12_hand rfl) w_2084 ?_
        refine G.go tv_X12_hand 2 181 [(0, .ref (gAd E (56))), (1, .int (nI t)), (2, .ref (gAd E (65))), (3, .int (nI (a))), (4, .int (nI hd))] [.long ((rWh R) + ((1 : Int64))), .ref (gAd E (56))] rfl ?_
        refine G.rp r8 hE 19 (setWh (setLW (setA (setA (setS (R) 18 (nI (hd + 1))) 15 (upd (rA R 15) (hd) (nI t))) 39 (upd (rA R 39) (t) (nI hd))) (vp_updL (rLW R) (hd) (rWh R))) ((rWh R) + ((1 : Int64)))) rfl rfl (by decide) rfl rfl rfl (tbd tv_X12_hand rfl) w_2084 (fun u9 r9 h9 => ?_)
        refine G.go tv_X12_hand 3 187 [(0, .ref (gAd E (56))), (1, .int (nI t)), (2, .ref (gAd E (65))), (3, .int (nI (a))), (4, .int (nI hd))] [.ref (gAd E (56)), .int (nI (a)), .ref (gAd E (65))] rfl ?_
        refine G.rg r9 hE 17 (.ref (gAd E (63))) (by decide) rfl (tbd tv_X12_hand rfl) w_2082 ?_
        refine G.go tv_X12_hand 3 196 [(0, .ref (gAd E (56))), (1, .int (nI t)), (2, .ref (gAd E (65))), (3, .int (nI (a))), (4, .int (nI hd))] [.int (((128 : Int32)) * (nI hd)), .ref (gAd E (63)), .int (nI (a)), .ref (gAd E (65))] rfl ?_
        refine G.eqs [.int (nI (128 * (hd))), .ref (gAd E (63)), .int (nI (a)), .ref (gAd E (65))] (by rw [show (128 : Int32) = nI 128 from rfl, pk_mul]) ?_
        refine G.callS [.ref (gAd E (65)), .int (nI (a)), .ref (gAd E (63)), .int (nI (128 * (hd)))] [] (c_X12_move E _ 65 5120 63 8192 (rA R 24) (rA R 17) (a) (128 * (hd)) (by omega) (by omega) (by decide) r9.a24 (by decide) (by decide) (by omega) (by omega) hby r9.a17) cw_X12_190 w_2307 (Nat.le_of_ble_eq_true rfl) rfl (Nat.le_of_ble_eq_true rfl) (tbd tv_X12_hand rfl) (fun v2 f2 q2 => ?_) (fun _ _ h => h.elim)
        obtain ⟨rfl, ea2⟩ := q2
        refine G.eqs [] rfl ?_
        have ra2 : RfV E f2 (setA (setWh (setLW (setA (setA (setS (R) 18 (nI (hd + 1))) 15 (upd (rA R 15) (hd) (nI t))) 39 (upd (rA R 39) (t) (nI hd))) (vp_updL (rLW R) (hd) (rWh R))) ((rWh R) + ((1 : Int64)))) 17 (va_cpy (rA R 24) (rA R 17) (a) (128 * (hd)) 128)) := RfV.ar (r9.p17 _) ea2
        have fa2 : Fr RfK u9 f2 := Fr.ar ⟨by decide, by decide⟩ ea2
        exact G.vret rfl ⟨rfl, by unfold rHand; rw [if_neg c4, if_pos hA, e3, hB, nI_clamp (by omega), if_neg hfull]; exact ra2, ((((((fa1).tr h5 (fun _ h => h)).tr h6 (fun _ h => h)).tr h7 (fun _ h => h)).tr h8 (fun _ h => h)).tr h9 (fun _ h => h)).tr fa2 (fun _ h => h)⟩ (tbd tv_X12_hand rfl)
      · skip
        have hfull : hd = B := (nI_eq (by omega) (by omega)).mp c29
        refine G.go tv_X12_hand 4 38 [(0, .ref (gAd E (56))), (1, .int (nI t)), (2, .ref (gAd E (65))), (3, .int (nI (a))), (4, .int ((-1 : Int32))), (5, .int ((0 : Int32))), (6, .int ((1 : Int32)))] [] rfl ?_
        refine hl_loop_logValue E f _ _ _ hE R wf w B hd hd0 t a (by omega) ?_ (hd - 1) 0 (by omega) _ ra1 (fa1)
        intro u0 r0 h0
        refine G.go tv_X12_hand 2 82 [(0, .ref (gAd E (56))), (1, .int (nI t)), (2, .ref (gAd E (65))), (3, .int (nI (a))), (4, .int ((-1 : Int32))), (5, .int (nI (rOld (rLW R) (hd - 1)))), (6, .int (nI ((hd - 1) + 1)))] [.ref (gAd E (56)), .ref (gAd E (56))] rfl ?_
        refine G.rg r0 hE 15 (.ref (gAd E (61))) (by decide) rfl (tbd tv_X12_hand rfl) w_2080 ?_
        refine G.go tv_X12_hand 1 87 [(0, .ref (gAd E (56))), (1, .int (nI t)), (2, .ref (gAd E (65))), (3, .int (nI (a))), (4, .int ((-1 : Int32))), (5, .int (nI (rOld (rLW R) (hd - 1)))), (6, .int (nI ((hd - 1) + 1)))] [.int (nI (rOld (rLW R) (hd - 1))), .ref (gAd E (61)), .ref (gAd E (56))] rfl ?_
        refine G.ialdN (61) (rOld (rLW R) (hd - 1)) (by omega) (r0.a15) (by have := rOld_le (rLW R) (hd - 1); omega) (by decide) (tbd tv_X12_hand rfl) ?_
        refine G.eqs [.int ((rA R 15) (rOld (rLW R) (hd - 1))), .ref (gAd E (56))] rfl ?_
        refine G.eqs [.int (nI bo), .ref (gAd E (56))] (by rw [hbo]) ?_
        refine G.go tv_X12_hand 1 89 [(0, .ref (gAd E (56))), (1, .int (nI t)), (2, .ref (gAd E (65))), (3, .int (nI (a))), (4, .int ((-1 : Int32))), (5, .int (nI (rOld (rLW R) (hd - 1)))), (6, .int (nI ((hd - 1) + 1)))] [.ref (gAd E (56)), .int (nI bo), .ref (gAd E (56))] rfl ?_
        refine G.rg r0 hE 17 (.ref (gAd E (63))) (by decide) rfl (tbd tv_X12_hand rfl) w_2082 ?_
        refine G.go tv_X12_hand 3 98 [(0, .ref (gAd E (56))), (1, .int (nI t)), (2, .ref (gAd E (65))), (3, .int (nI (a))), (4, .int ((-1 : Int32))), (5, .int (nI (rOld (rLW R) (hd - 1)))), (6, .int (nI ((hd - 1) + 1)))] [.int (((128 : Int32)) * (nI (rOld (rLW R) (hd - 1)))), .ref (gAd E (63)), .int (nI bo), .ref (gAd E (56))] rfl ?_
        refine G.eqs [.int (nI (128 * (rOld (rLW R) (hd - 1)))), .ref (gAd E (63)), .int (nI bo), .ref (gAd E (56))] (by rw [show (128 : Int32) = nI 128 from rfl, pk_mul]) ?_
        refine G.callV (56) [.int (nI bo), .ref (gAd E (63)), .int (nI (128 * (rOld (rLW R) (hd - 1))))] [] (c_X12_writeDisk E _ R wf w B hd n hd0 hk0 hE r0 b bo (rOld (rLW R) (hd - 1)) hb1 hb hbo1 (by have := rOld_le (rLW R) (hd - 1); omega)) cls_X12 (by omega) (r0.o) cw_X12_201 w_2288 w_58 (Nat.le_of_ble_eq_true rfl) rfl (Nat.le_of_ble_eq_true rfl) (tbd tv_X12_hand rfl) (fun v3 f3 q3 => ?_) (fun _ _ h => h.elim)
        rcases q3 with ⟨hc, rfl, ra3, fa3⟩ | ⟨hc, rfl, ra3, fa3⟩
        · skip
          refine G.eqs [] rfl ?_
          refine G.go tv_X12_hand 1 102 [(0, .ref (gAd E (56))), (1, .int (nI t)), (2, .ref (gAd E (65))), (3, .int (nI (a))), (4, .int ((-1 : Int32))), (5, .int (nI (rOld (rLW R) (hd - 1)))), (6, .int (nI ((hd - 1) + 1)))] [.ref (gAd E (56))] rfl ?_
          refine G.rg ra3 hE 11 (.int (rS (rNo R n) 11)) (by decide) rfl (tbd tv_X12_hand rfl) w_2076 ?_
          refine G.if_ne 109 (tbd tv_X12_hand rfl) (by decide) (fun c105 => absurd (by unfold rNo; rw [if_neg c4]; rfl) c105) (fun c105 => ?_)
          exact G.vret rfl ⟨rfl, by unfold rHand; rw [if_neg c4, if_pos hA, e3, hB, nI_clamp (by omega), if_pos hfull, if_neg hc, hk0.n]; unfold rNo at ra3; rw [if_neg c4] at ra3; exact ra3, (h0).tr fa3 (fun _ h => h)⟩ (tbd tv_X12_hand rfl)
        · skip
          have d1 : rDb (setS (rWrt R wf w b bo (rOld (rLW R) (hd - 1))) 20 (rS R 20 + 1)) _ _ B hd := rDb_20 (rWrt_ok hd0 hbo1)
          have hbo2 : rA (setS (rWrt R wf w b bo (rOld (rLW R) (hd - 1))) 20 (rS R 20 + 1)) 15 (rOld (rLW R) (hd - 1)) = nI bo := (congrFun (rWrt_A (by decide) (by decide) (by decide) (by decide)) _).trans hbo
          have hbl2 : rA (setS (rWrt R wf w b bo (rOld (rLW R) (hd - 1))) 20 (rS R 20 + 1)) 15 (hd - 1) = nI bl := (congrFun (rWrt_A (by decide) (by decide) (by decide) (by decide)) _).trans hbl
          have e20 : rS (rWrt R wf w b bo (rOld (rLW R) (hd - 1))) 20 = rS R 20 := rWrt_S (by decide) (by decide) (by decide) (by decide)
          refine G.eqs [] rfl ?_
          refine G.go tv_X12_hand 1 102 [(0, .ref (gAd E (56))), (1, .int (nI t)), (2, .ref (gAd E (65))), (3, .int (nI (a))), (4, .int ((-1 : Int32))), (5, .int (nI (rOld (rLW R) (hd - 1)))), (6, .int (nI ((hd - 1) + 1)))] [.ref (gAd E (56))] rfl ?_
          refine G.rg ra3 hE 11 (.int (rS (rWrt R wf w b bo (rOld (rLW R) (hd - 1))) 11)) (by decide) rfl (tbd tv_X12_hand rfl) w_2076 ?_
          refine G.if_ne 109 (tbd tv_X12_hand rfl) (by decide) (fun c105 => ?_) (fun c105 => absurd c105 (by rw [rWrt_S (by decide) (by decide) (by decide) (by decide)]; exact c4))
          refine G.go tv_X12_hand 2 111 [(0, .ref (gAd E (56))), (1, .int (nI t)), (2, .ref (gAd E (65))), (3, .int (nI (a))), (4, .int ((-1 : Int32))), (5, .int (nI (rOld (rLW R) (hd - 1)))), (6, .int (nI ((hd - 1) + 1)))] [.ref (gAd E (56)), .ref (gAd E (56))] rfl ?_
          refine G.rg ra3 hE 20 (.int (rS (rWrt R wf w b bo (rOld (rLW R) (hd - 1))) 20)) (by decide) rfl (tbd tv_X12_hand rfl) w_2085 ?_
          refine G.go tv_X12_hand 2 116 [(0, .ref (gAd E (56))), (1, .int (nI t)), (2, .ref (gAd E (65))), (3, .int (nI (a))), (4, .int ((-1 : Int32))), (5, .int (nI (rOld (rLW R) (hd - 1)))), (6, .int (nI ((hd - 1) + 1)))] [.int ((rS (rWrt R wf w b bo (rOld (rLW R) (hd - 1))) 20) + ((1 : Int32))), .ref (gAd E (56))] rfl ?_
          refine G.eqs [.int (rS R 20 + 1), .ref (gAd E (56))] (by rw [e20]) ?_
          refine G.rp ra3 hE 20 (setS (rWrt R wf w b bo (rOld (rLW R) (hd - 1))) 20 (rS R 20 + 1)) rfl rfl (by decide) rfl rfl rfl (tbd tv_X12_hand rfl) w_2085 (fun u10 r10 h10 => ?_)
          refine G.go tv_X12_hand 2 122 [(0, .ref (gAd E (56))), (1, .int (nI t)), (2, .ref (gAd E (65))), (3, .int (nI (a))), (4, .int ((-1 : Int32))), (5, .int (nI (rOld (rLW R) (hd - 1)))), (6, .int (nI ((hd - 1) + 1)))] [.int (nI (rOld (rLW R) (hd - 1))), .ref (gAd E (56))] rfl ?_
          refine G.callV (56) [.int (nI (rOld (rLW R) (hd - 1)))] [] (c_X12_leave E _ (setS (rWrt R wf w b bo (rOld (rLW R) (hd - 1))) 20 (rS R 20 + 1)) _ _ B hd d1 hE r10 (rOld (rLW R) (hd - 1)) bo bl (by have := rOld_le (rLW R) (hd - 1); omega) hbo2 hbo1 hbl2 hbl1) cls_X12 (by omega) (r10.o) cw_X12_208 w_2311 w_63 (Nat.le_of_ble_eq_true rfl) rfl (Nat.le_of_ble_eq_true rfl) (tbd tv_X12_hand rfl) (fun v4 f4 q4 => ?_) (fun _ _ h => h.elim)
          obtain ⟨rfl, ra4, fa4⟩ := q4
          have d2 := rLv_ok d1 (by have := rOld_le (rLW R) (hd - 1); omega) hbo2 hbo1 hbl2 hbl1
          have h182 : rS (rLv (setS (rWrt R wf w b bo (rOld (rLW R) (hd - 1))) 20 (rS R 20 + 1)) hd (rOld (rLW R) (hd - 1)) bo bl) 18 = nI (hd - 1) := d2.2.2.2.2.1.2.2.2.1
          have hby2 : Byt (rA (rLv (setS (rWrt R wf w b bo (rOld (rLW R) (hd - 1))) 20 (rS R 20 + 1)) hd (rOld (rLW R) (hd - 1)) bo bl) 24) := by rw [rLv_A (by decide) (by decide) (by decide)]; show Byt (rA (rWrt R wf w b bo (rOld (rLW R) (hd - 1))) 24); rw [rWrt_A (by decide) (by decide) (by decide) (by decide)]; exact hby
          refine G.eqs [] rfl ?_
          refine G.go tv_X12_hand 2 128 [(0, .ref (gAd E (56))), (1, .int (nI t)), (2, .ref (gAd E (65))), (3, .int (nI (a))), (4, .int ((-1 : Int32))), (5, .int (nI (rOld (rLW R) (hd - 1)))), (6, .int (nI ((hd - 1) + 1)))] [.int ((-1 : Int32)), .int ((-1 : Int32))] rfl ?_
          refine G.cmp_ne 147 (tbd tv_X12_hand rfl) (by decide) (fun c128 => absurd (rfl) c128) (fun c128 => ?_)
          refine G.go tv_X12_hand 1 132 [(0, .ref (gAd E (56))), (1, .int (nI t)), (2, .ref (gAd E (65))), (3, .int (nI (a))), (4, .int ((-1 : Int32))), (5, .int (nI (rOld (rLW R) (hd - 1)))), (6, .int (nI ((hd - 1) + 1)))] [.ref (gAd E (56))] rfl ?_
          refine G.rg ra4 hE 18 (.int (rS (rLv (setS (rWrt R wf w b bo (rOld (rLW R) (hd - 1))) 20 (rS R 20 + 1)) hd (rOld (rLW R) (hd - 1)) bo bl) 18)) (by decide) rfl (tbd tv_X12_hand rfl) w_2083 ?_
          refine G.eqs [.int (nI (hd - 1))] (by rw [h182]) ?_
          refine G.go tv_X12_hand 3 139 [(0, .ref (gAd E (56))), (1, .int (nI t)), (2, .ref (gAd E (65))), (3, .int (nI (a))), (4, .int (nI (hd - 1))), (5, .int (nI (rOld (rLW R) (hd - 1)))), (6, .int (nI ((hd - 1) + 1)))] [.ref (gAd E (56)), .ref (gAd E (56))] rfl ?_
          refine G.rg ra4 hE 18 (.int (rS (rLv (setS (rWrt R wf w b bo (rOld (rLW R) (hd - 1))) 20 (rS R 20 + 1)) hd (rOld (rLW R) (hd - 1)) bo bl) 18)) (by decide) rfl (tbd tv_X12_hand rfl) w_2083 ?_
          refine G.eqs [.int (nI (hd - 1)), .ref (gAd E (56))] (by rw [h182]) ?_
          refine G.go tv_X12_hand 2 144 [(0, .ref (gAd E (56))), (1, .int (nI t)), (2, .ref (gAd E (65))), (3, .int (nI (a))), (4, .int (nI (hd - 1))), (5, .int (nI (rOld (rLW R) (hd - 1)))), (6, .int (nI ((hd - 1) + 1)))] [.int ((nI (hd - 1)) + ((1 : Int32))), .ref (gAd E (56))] rfl ?_
          refine G.eqs [.int (nI (hd - 1 + 1)), .ref (gAd E (56))] (by rw [nI_1]) ?_
          refine G.rp ra4 hE 18 (setS (rLv (setS (rWrt R wf w b bo (rOld (rLW R) (hd - 1))) 20 (rS R 20 + 1)) hd (rOld (rLW R) (hd - 1)) bo bl) 18 (nI (hd - 1 + 1))) rfl rfl (by decide) rfl rfl rfl (tbd tv_X12_hand rfl) w_2083 (fun u11 r11 h11 => ?_)
          refine G.go tv_X12_hand 1 148 [(0, .ref (gAd E (56))), (1, .int (nI t)), (2, .ref (gAd E (65))), (3, .int (nI (a))), (4, .int (nI (hd - 1))), (5, .int (nI (rOld (rLW R) (hd - 1)))), (6, .int (nI ((hd - 1) + 1)))] [.ref (gAd E (56))] rfl ?_
          refine G.rg r11 hE 15 (.ref (gAd E (61))) (by decide) rfl (tbd tv_X12_hand rfl) w_2080 ?_
          refine G.go tv_X12_hand 2 154 [(0, .ref (gAd E (56))), (1, .int (nI t)), (2, .ref (gAd E (65))), (3, .int (nI (a))), (4, .int (nI (hd - 1))), (5, .int (nI (rOld (rLW R) (hd - 1)))), (6, .int (nI ((hd - 1) + 1)))] [.int (nI t), .int (nI (hd - 1)), .ref (gAd E (61))] rfl ?_
          refine G.raI (hd - 1) hE ⟨by decide, by decide⟩ r11.a15 (r11.p15 _) (by omega) (by decide) (tbd tv_X12_hand rfl) (fun u12 r12 h12 => ?_)
          refine G.go tv_X12_hand 1 156 [(0, .ref (gAd E (56))), (1, .int (nI t)), (2, .ref (gAd E (65))), (3, .int (nI (a))), (4, .int (nI (hd - 1))), (5, .int (nI (rOld (rLW R) (hd - 1)))), (6, .int (nI ((hd - 1) + 1)))] [.ref (gAd E (56))] rfl ?_
          refine G.rg r12 hE 39 (.ref (gAd E (76))) (by decide) rfl (tbd tv_X12_hand rfl) w_2104 ?_
          refine G.go tv_X12_hand 2 162 [(0, .ref (gAd E (56))), (1, .int (nI t)), (2, .ref (gAd E (65))), (3, .int (nI (a))), (4, .int (nI (hd - 1))), (5, .int (nI (rOld (rLW R) (hd - 1)))), (6, .int (nI ((hd - 1) + 1)))] [.int (nI (hd - 1)), .int (nI t), .ref (gAd E (76))] rfl ?_
          refine G.raI (t) hE ⟨by decide, by decide⟩ r12.a39 (r12.p39 _) (ht) (by decide) (tbd tv_X12_hand rfl) (fun u13 r13 h13 => ?_)
          refine G.go tv_X12_hand 1 164 [(0, .ref (gAd E (56))), (1, .int (nI t)), (2, .ref (gAd E (65))), (3, .int (nI (a))), (4, .int (nI (hd - 1))), (5, .int (nI (rOld (rLW R) (hd - 1)))), (6, .int (nI ((hd - 1) + 1)))] [.ref (gAd E (56))] rfl ?_
          refine G.rg r13 hE 16 (.ref (gAd E (62))) (by decide) rfl (tbd tv_X12_hand rfl) w_2081 ?_
          refine G.go tv_X12_hand 2 170 [(0, .ref (gAd E (56))), (1, .int (nI t)), (2, .ref (gAd E (65))), (3, .int (nI (a))), (4, .int (nI (hd - 1))), (5, .int (nI (rOld (rLW R) (hd - 1)))), (6, .int (nI ((hd - 1) + 1)))] [.ref (gAd E (56)), .int (nI (hd - 1)), .ref (gAd E (62))] rfl ?_
          refine G.rg r13 hE 19 (.long (rWh (rLv (setS (rWrt R wf w b bo (rOld (rLW R) (hd - 1))) 20 (rS R 20 + 1)) hd (rOld (rLW R) (hd - 1)) bo bl))) (by decide) rfl (tbd tv_X12_hand rfl) w_2084 ?_
          refine G.raJ (hd - 1) hE ⟨by decide, by decide⟩ r13.a16 (r13.p16 _) (by omega) (by decide) (tbd tv_X12_hand rfl) (fun u14 r14 h14 => ?_)
          refine G.go tv_X12_hand 2 176 [(0, .ref (gAd E (56))), (1, .int (nI t)), (2, .ref (gAd E (65))), (3, .int (nI (a))), (4, .int (nI (hd - 1))), (5, .int (nI (rOld (rLW R) (hd - 1)))), (6, .int (nI ((hd - 1) + 1)))] [.ref (gAd E (56)), .ref (gAd E (56))] rfl ?_
          refine G.rg r14 hE 19 (.long (rWh (rLv (setS (rWrt R wf w b bo (rOld (rLW R) (hd - 1))) 20 (rS R 20 + 1)) hd (rOld (rLW R) (hd - 1)) bo bl))) (by decide) rfl (tbd tv_X12_hand rfl) w_2084 ?_
          refine G.go tv_X12_hand 2 181 [(0, .ref (gAd E (56))), (1, .int (nI t)), (2, .ref (gAd E (65))), (3, .int (nI (a))), (4, .int (nI (hd - 1))), (5, .int (nI (rOld (rLW R) (hd - 1)))), (6, .int (nI ((hd - 1) + 1)))] [.long ((rWh (rLv (setS (rWrt R wf w b bo (rOld (rLW R) (hd - 1))) 20 (rS R 20 + 1)) hd (rOld (rLW R) (hd - 1)) bo bl)) + ((1 : Int64))), .ref (gAd E (56))] rfl ?_
          refine G.rp r14 hE 19 (setWh (setLW (setA (setA (setS (rLv (setS (rWrt R wf w b bo (rOld (rLW R) (hd - 1))) 20 (rS R 20 + 1)) hd (rOld (rLW R) (hd - 1)) bo bl) 18 (nI (hd - 1 + 1))) 15 (upd (rA (rLv (setS (rWrt R wf w b bo (rOld (rLW R) (hd - 1))) 20 (rS R 20 + 1)) hd (rOld (rLW R) (hd - 1)) bo bl) 15) (hd - 1) (nI t))) 39 (upd (rA (rLv (setS (rWrt R wf w b bo (rOld (rLW R) (hd - 1))) 20 (rS R 20 + 1)) hd (rOld (rLW R) (hd - 1)) bo bl) 39) (t) (nI (hd - 1)))) (vp_updL (rLW (rLv (setS (rWrt R wf w b bo (rOld (rLW R) (hd - 1))) 20 (rS R 20 + 1)) hd (rOld (rLW R) (hd - 1)) bo bl)) (hd - 1) (rWh (rLv (setS (rWrt R wf w b bo (rOld (rLW R) (hd - 1))) 20 (rS R 20 + 1)) hd (rOld (rLW R) (hd - 1)) bo bl)))) ((rWh (rLv (setS (rWrt R wf w b bo (rOld (rLW R) (hd - 1))) 20 (rS R 20 + 1)) hd (rOld (rLW R) (hd - 1)) bo bl)) + ((1 : Int64)))) rfl rfl (by decide) rfl rfl rfl (tbd tv_X12_hand rfl) w_2084 (fun u15 r15 h15 => ?_)
          refine G.go tv_X12_hand 3 187 [(0, .ref (gAd E (56))), (1, .int (nI t)), (2, .ref (gAd E (65))), (3, .int (nI (a))), (4, .int (nI (hd - 1))), (5, .int (nI (rOld (rLW R) (hd - 1)))), (6, .int (nI ((hd - 1) + 1)))] [.ref (gAd E (56)), .int (nI (a)), .ref (gAd E (65))] rfl ?_
          refine G.rg r15 hE 17 (.ref (gAd E (63))) (by decide) rfl (tbd tv_X12_hand rfl) w_2082 ?_
          refine G.go tv_X12_hand 3 196 [(0, .ref (gAd E (56))), (1, .int (nI t)), (2, .ref (gAd E (65))), (3, .int (nI (a))), (4, .int (nI (hd - 1))), (5, .int (nI (rOld (rLW R) (hd - 1)))), (6, .int (nI ((hd - 1) + 1)))] [.int (((128 : Int32)) * (nI (hd - 1))), .ref (gAd E (63)), .int (nI (a)), .ref (gAd E (65))] rfl ?_
          refine G.eqs [.int (nI (128 * (hd - 1))), .ref (gAd E (63)), .int (nI (a)), .ref (gAd E (65))] (by rw [show (128 : Int32) = nI 128 from rfl, pk_mul]) ?_
          refine G.callS [.ref (gAd E (65)), .int (nI (a)), .ref (gAd E (63)), .int (nI (128 * (hd - 1)))] [] (c_X12_move E _ 65 5120 63 8192 (rA (rLv (setS (rWrt R wf w b bo (rOld (rLW R) (hd - 1))) 20 (rS R 20 + 1)) hd (rOld (rLW R) (hd - 1)) bo bl) 24) (rA (rLv (setS (rWrt R wf w b bo (rOld (rLW R) (hd - 1))) 20 (rS R 20 + 1)) hd (rOld (rLW R) (hd - 1)) bo bl) 17) (a) (128 * (hd - 1)) (by omega) (by omega) (by decide) r15.a24 (by decide) (by decide) (by omega) (by omega) hby2 r15.a17) cw_X12_190 w_2307 (Nat.le_of_ble_eq_true rfl) rfl (Nat.le_of_ble_eq_true rfl) (tbd tv_X12_hand rfl) (fun v5 f5 q5 => ?_) (fun _ _ h => h.elim)
          obtain ⟨rfl, ea5⟩ := q5
          refine G.eqs [] rfl ?_
          have ra5 : RfV E f5 (setA (setWh (setLW (setA (setA (setS (rLv (setS (rWrt R wf w b bo (rOld (rLW R) (hd - 1))) 20 (rS R 20 + 1)) hd (rOld (rLW R) (hd - 1)) bo bl) 18 (nI (hd - 1 + 1))) 15 (upd (rA (rLv (setS (rWrt R wf w b bo (rOld (rLW R) (hd - 1))) 20 (rS R 20 + 1)) hd (rOld (rLW R) (hd - 1)) bo bl) 15) (hd - 1) (nI t))) 39 (upd (rA (rLv (setS (rWrt R wf w b bo (rOld (rLW R) (hd - 1))) 20 (rS R 20 + 1)) hd (rOld (rLW R) (hd - 1)) bo bl) 39) (t) (nI (hd - 1)))) (vp_updL (rLW (rLv (setS (rWrt R wf w b bo (rOld (rLW R) (hd - 1))) 20 (rS R 20 + 1)) hd (rOld (rLW R) (hd - 1)) bo bl)) (hd - 1) (rWh (rLv (setS (rWrt R wf w b bo (rOld (rLW R) (hd - 1))) 20 (rS R 20 + 1)) hd (rOld (rLW R) (hd - 1)) bo bl)))) ((rWh (rLv (setS (rWrt R wf w b bo (rOld (rLW R) (hd - 1))) 20 (rS R 20 + 1)) hd (rOld (rLW R) (hd - 1)) bo bl)) + ((1 : Int64)))) 17 (va_cpy (rA (rLv (setS (rWrt R wf w b bo (rOld (rLW R) (hd - 1))) 20 (rS R 20 + 1)) hd (rOld (rLW R) (hd - 1)) bo bl) 24) (rA (rLv (setS (rWrt R wf w b bo (rOld (rLW R) (hd - 1))) 20 (rS R 20 + 1)) hd (rOld (rLW R) (hd - 1)) bo bl) 17) (a) (128 * (hd - 1)) 128)) := RfV.ar (r15.p17 _) ea5
          have fa5 : Fr RfK u15 f5 := Fr.ar ⟨by decide, by decide⟩ ea5
          exact G.vret rfl ⟨rfl, by unfold rHand; rw [if_neg c4, if_pos hA, e3, hB, nI_clamp (by omega), if_pos hfull, if_pos hc, ← rWr_eq hd0 hb hb1 hbo hbo1, ← rLe_eq d1 hbo2 hbo1 hbl2 hbl1]; exact ra5, (((((((((h0).tr fa3 (fun _ h => h)).tr h10 (fun _ h => h)).tr fa4 (fun _ h => h)).tr h11 (fun _ h => h)).tr h12 (fun _ h => h)).tr h13 (fun _ h => h)).tr h14 (fun _ h => h)).tr h15 (fun _ h => h)).tr fa5 (fun _ h => h)⟩ (tbd tv_X12_hand rfl)
    · skip
      exact G.vret rfl ⟨rfl, by unfold rHand; rw [if_pos c4]; exact r, Fr.rf⟩ (tbd tv_X12_hand rfl)
  · have hne : ¬ nI k = -1 := fun q => by
      have := nI_pos (n := k) (by omega)
      rw [q] at this
      exact this (by decide)
    refine G.go tv_X12_hand 1 1 [(0, .ref (gAd E (56))), (1, .int (nI t)), (2, .ref (gAd E (65))), (3, .int (nI (a)))] [.ref (gAd E (56))] rfl ?_
    refine G.rg r hE 11 (.int (rS R 11)) (by decide) rfl (tbd tv_X12_hand rfl) w_2076 ?_
    refine G.if_ne 8 (tbd tv_X12_hand rfl) (by decide) (fun c4 => ?_) (fun c4 => ?_)
    · skip
      refine G.go tv_X12_hand 2 10 [(0, .ref (gAd E (56))), (1, .int (nI t)), (2, .ref (gAd E (65))), (3, .int (nI (a)))] [.int (nI t), .ref (gAd E (56))] rfl ?_
      refine G.callV (56) [.int (nI t)] [] (c_X12_heldAt E _ (R) hE r t ht) cls_X12 (by omega) (r.o) cw_X12_197 w_2284 w_57 (Nat.le_of_ble_eq_true rfl) rfl (Nat.le_of_ble_eq_true rfl) (tbd tv_X12_hand rfl) (fun v1 f1 q1 => ?_) (fun _ _ h => h.elim)
      obtain ⟨rfl, ra1, fa1⟩ := q1
      refine G.eqs [.int (rA R 39 t)] rfl ?_
      refine G.eqs [.int (nI k)] (by rw [hk2]) ?_
      refine G.go tv_X12_hand 3 18 [(0, .ref (gAd E (56))), (1, .int (nI t)), (2, .ref (gAd E (65))), (3, .int (nI (a))), (4, .int (nI k))] [.int ((-1 : Int32)), .int (nI k)] rfl ?_
      refine G.cmp_ne 125 (tbd tv_X12_hand rfl) (by decide) (fun c18 => ?_) (fun c18 => absurd c18 (hne))
      refine G.go tv_X12_hand 2 128 [(0, .ref (gAd E (56))), (1, .int (nI t)), (2, .ref (gAd E (65))), (3, .int (nI (a))), (4, .int (nI k))] [.int ((-1 : Int32)), .int (nI k)] rfl ?_
      refine G.cmp_ne 147 (tbd tv_X12_hand rfl) (by decide) (fun c128 => ?_) (fun c128 => absurd c128 (hne))
      refine G.go tv_X12_hand 1 148 [(0, .ref (gAd E (56))), (1, .int (nI t)), (2, .ref (gAd E (65))), (3, .int (nI (a))), (4, .int (nI k))] [.ref (gAd E (56))] rfl ?_
      refine G.rg ra1 hE 15 (.ref (gAd E (61))) (by decide) rfl (tbd tv_X12_hand rfl) w_2080 ?_
      refine G.go tv_X12_hand 2 154 [(0, .ref (gAd E (56))), (1, .int (nI t)), (2, .ref (gAd E (65))), (3, .int (nI (a))), (4, .int (nI k))] [.int (nI t), .int (nI k), .ref (gAd E (61))] rfl ?_
      refine G.raI (k) hE ⟨by decide, by decide⟩ ra1.a15 (ra1.p15 _) (by omega) (by decide) (tbd tv_X12_hand rfl) (fun u1 r1 h1 => ?_)
      refine G.go tv_X12_hand 1 156 [(0, .ref (gAd E (56))), (1, .int (nI t)), (2, .ref (gAd E (65))), (3, .int (nI (a))), (4, .int (nI k))] [.ref (gAd E (56))] rfl ?_
      refine G.rg r1 hE 39 (.ref (gAd E (76))) (by decide) rfl (tbd tv_X12_hand rfl) w_2104 ?_
      refine G.go tv_X12_hand 2 162 [(0, .ref (gAd E (56))), (1, .int (nI t)), (2, .ref (gAd E (65))), (3, .int (nI (a))), (4, .int (nI k))] [.int (nI k), .int (nI t), .ref (gAd E (76))] rfl ?_
      refine G.raI (t) hE ⟨by decide, by decide⟩ r1.a39 (r1.p39 _) (ht) (by decide) (tbd tv_X12_hand rfl) (fun u2 r2 h2 => ?_)
      refine G.go tv_X12_hand 1 164 [(0, .ref (gAd E (56))), (1, .int (nI t)), (2, .ref (gAd E (65))), (3, .int (nI (a))), (4, .int (nI k))] [.ref (gAd E (56))] rfl ?_
      refine G.rg r2 hE 16 (.ref (gAd E (62))) (by decide) rfl (tbd tv_X12_hand rfl) w_2081 ?_
      refine G.go tv_X12_hand 2 170 [(0, .ref (gAd E (56))), (1, .int (nI t)), (2, .ref (gAd E (65))), (3, .int (nI (a))), (4, .int (nI k))] [.ref (gAd E (56)), .int (nI k), .ref (gAd E (62))] rfl ?_
      refine G.rg r2 hE 19 (.long (rWh R)) (by decide) rfl (tbd tv_X12_hand rfl) w_2084 ?_
      refine G.raJ (k) hE ⟨by decide, by decide⟩ r2.a16 (r2.p16 _) (by omega) (by decide) (tbd tv_X12_hand rfl) (fun u3 r3 h3 => ?_)
      refine G.go tv_X12_hand 2 176 [(0, .ref (gAd E (56))), (1, .int (nI t)), (2, .ref (gAd E (65))), (3, .int (nI (a))), (4, .int (nI k))] [.ref (gAd E (56)), .ref (gAd E (56))] rfl ?_
      refine G.rg r3 hE 19 (.long (rWh R)) (by decide) rfl (tbd tv_X12_hand rfl) w_2084 ?_
      refine G.go tv_X12_hand 2 181 [(0, .ref (gAd E (56))), (1, .int (nI t)), (2, .ref (gAd E (65))), (3, .int (nI (a))), (4, .int (nI k))] [.long ((rWh R) + ((1 : Int64))), .ref (gAd E (56))] rfl ?_
      refine G.rp r3 hE 19 (setWh (setLW (setA (setA (R) 15 (upd (rA R 15) (k) (nI t))) 39 (upd (rA R 39) (t) (nI k))) (vp_updL (rLW R) (k) (rWh R))) ((rWh R) + ((1 : Int64)))) rfl rfl (by decide) rfl rfl rfl (tbd tv_X12_hand rfl) w_2084 (fun u4 r4 h4 => ?_)
      refine G.go tv_X12_hand 3 187 [(0, .ref (gAd E (56))), (1, .int (nI t)), (2, .ref (gAd E (65))), (3, .int (nI (a))), (4, .int (nI k))] [.ref (gAd E (56)), .int (nI (a)), .ref (gAd E (65))] rfl ?_
      refine G.rg r4 hE 17 (.ref (gAd E (63))) (by decide) rfl (tbd tv_X12_hand rfl) w_2082 ?_
      refine G.go tv_X12_hand 3 196 [(0, .ref (gAd E (56))), (1, .int (nI t)), (2, .ref (gAd E (65))), (3, .int (nI (a))), (4, .int (nI k))] [.int (((128 : Int32)) * (nI k)), .ref (gAd E (63)), .int (nI (a)), .ref (gAd E (65))] rfl ?_
      refine G.eqs [.int (nI (128 * (k))), .ref (gAd E (63)), .int (nI (a)), .ref (gAd E (65))] (by rw [show (128 : Int32) = nI 128 from rfl, pk_mul]) ?_
      refine G.callS [.ref (gAd E (65)), .int (nI (a)), .ref (gAd E (63)), .int (nI (128 * (k)))] [] (c_X12_move E _ 65 5120 63 8192 (rA R 24) (rA R 17) (a) (128 * (k)) (by omega) (by omega) (by decide) r4.a24 (by decide) (by decide) (by omega) (by omega) hby r4.a17) cw_X12_190 w_2307 (Nat.le_of_ble_eq_true rfl) rfl (Nat.le_of_ble_eq_true rfl) (tbd tv_X12_hand rfl) (fun v2 f2 q2 => ?_) (fun _ _ h => h.elim)
      obtain ⟨rfl, ea2⟩ := q2
      refine G.eqs [] rfl ?_
      have ra2 : RfV E f2 (setA (setWh (setLW (setA (setA (R) 15 (upd (rA R 15) (k) (nI t))) 39 (upd (rA R 39) (t) (nI k))) (vp_updL (rLW R) (k) (rWh R))) ((rWh R) + ((1 : Int64)))) 17 (va_cpy (rA R 24) (rA R 17) (a) (128 * (k)) 128)) := RfV.ar (r4.p17 _) ea2
      have fa2 : Fr RfK u4 f2 := Fr.ar ⟨by decide, by decide⟩ ea2
      exact G.vret rfl ⟨rfl, by unfold rHand; rw [if_neg c4, if_neg (by rw [hk2]; exact hne), hk2, nI_clamp (by omega)]; exact ra2, (((((fa1).tr h1 (fun _ h => h)).tr h2 (fun _ h => h)).tr h3 (fun _ h => h)).tr h4 (fun _ h => h)).tr fa2 (fun _ h => h)⟩ (tbd tv_X12_hand rfl)
    · skip
      exact G.vret rfl ⟨rfl, by unfold rHand; rw [if_pos c4]; exact r, Fr.rf⟩ (tbd tv_X12_hand rfl)
set_option maxRecDepth 100000 in
set_option maxHeartbeats 4000000 in
theorem hl_loop_batchValue (E : gE) (f0 : Nat → va_E) (sz : Nat) (A : Nat → Prop) (Q : gQ) (hE : 94 ≤ gN E) (R : RfT) (wf w B hd : Nat) (hd0 : rDb R wf w B hd) (t a : Nat) (h1 : 0 < hd) (kq : ∀ g, RfV E g (R) → Fr RfK f0 g → G E (5, yX12_hand, 7, none, sz, A) cX12_hand (gO E (5, yX12_hand, 7, none, sz, A) Q) 80 [(0, .ref (gAd E (56))), (1, .int (nI t)), (2, .ref (gAd E (81))), (3, .int (nI (a))), (4, .int ((-1 : Int32))), (5, .int (nI (rOld (rLW R) (hd - 1)))), (6, .int (nI ((hd - 1) + 1)))] [] g) : ∀ (d j : Nat), j + d = hd - 1 → ∀ f, RfV E f (R) → Fr RfK f0 f → G E (5, yX12_hand, 7, none, sz, A) cX12_hand (gO E (5, yX12_hand, 7, none, sz, A) Q) 38 [(0, .ref (gAd E (56))), (1, .int (nI t)), (2, .ref (gAd E (81))), (3, .int (nI (a))), (4, .int ((-1 : Int32))), (5, .int (nI (rOld (rLW R) (j)))), (6, .int (nI ((j) + 1)))] [] f := by
  obtain ⟨⟨hwf, hwf2, hnw, hnw2⟩, h7, h40, ⟨hb6, hb8, hb17, hb44⟩, ⟨hB, hB4, hB64, hh, hhB⟩, h15, h39⟩ := id hd0
  intro d
  induction d with
  | zero =>
    intro j e f r hf
    have e : j = hd - 1 := e
    refine G.go tv_X12_hand 2 41 [(0, .ref (gAd E (56))), (1, .int (nI t)), (2, .ref (gAd E (81))), (3, .int (nI (a))), (4, .int ((-1 : Int32))), (5, .int (nI (rOld (rLW R) (j)))), (6, .int (nI ((j) + 1)))] [.ref (gAd E (56)), .int (nI ((j) + 1))] rfl ?_
    refine G.rg r hE 18 (.int (rS R 18)) (by decide) rfl (tbd tv_X12_hand rfl) w_2083 ?_
    refine G.eqs [.int (nI hd), .int (nI ((j) + 1))] (by rw [hh]) ?_
    refine G.cmp_ge 80 (tbd tv_X12_hand rfl) (by decide) (fun c44 => ?_) (fun c44 => absurd (by rw [e]; exact nI_le (by omega) (by omega)) c44)
    refine G.eql [(0, .ref (gAd E (56))), (1, .int (nI t)), (2, .ref (gAd E (81))), (3, .int (nI (a))), (4, .int ((-1 : Int32))), (5, .int (nI (rOld (rLW R) (hd - 1)))), (6, .int (nI ((hd - 1) + 1)))] (by rw [e]) ?_
    exact kq _ (by first | exact r | exact e ▸ r) (hf)
  | succ d ih =>
    intro j e f r hf
    refine G.go tv_X12_hand 2 41 [(0, .ref (gAd E (56))), (1, .int (nI t)), (2, .ref (gAd E (81))), (3, .int (nI (a))), (4, .int ((-1 : Int32))), (5, .int (nI (rOld (rLW R) (j)))), (6, .int (nI ((j) + 1)))] [.ref (gAd E (56)), .int (nI ((j) + 1))] rfl ?_
    refine G.rg r hE 18 (.int (rS R 18)) (by decide) rfl (tbd tv_X12_hand rfl) w_2083 ?_
    refine G.eqs [.int (nI hd), .int (nI ((j) + 1))] (by rw [hh]) ?_
    refine G.cmp_ge 80 (tbd tv_X12_hand rfl) (by decide) (fun c44 => absurd c44 (nI_ge (by omega) (by omega))) (fun c44 => ?_)
    refine G.go tv_X12_hand 1 48 [(0, .ref (gAd E (56))), (1, .int (nI t)), (2, .ref (gAd E (81))), (3, .int (nI (a))), (4, .int ((-1 : Int32))), (5, .int (nI (rOld (rLW R) (j)))), (6, .int (nI ((j) + 1)))] [.ref (gAd E (56))] rfl ?_
    refine G.rg r hE 16 (.ref (gAd E (62))) (by decide) rfl (tbd tv_X12_hand rfl) w_2081 ?_
    refine G.go tv_X12_hand 1 53 [(0, .ref (gAd E (56))), (1, .int (nI t)), (2, .ref (gAd E (81))), (3, .int (nI (a))), (4, .int ((-1 : Int32))), (5, .int (nI (rOld (rLW R) (j)))), (6, .int (nI ((j) + 1)))] [.int (nI ((j) + 1)), .ref (gAd E (62))] rfl ?_
    refine G.laldN (62) (j + 1) (by omega) (r.a16) (by omega) (by decide) (tbd tv_X12_hand rfl) ?_
    refine G.go tv_X12_hand 1 55 [(0, .ref (gAd E (56))), (1, .int (nI t)), (2, .ref (gAd E (81))), (3, .int (nI (a))), (4, .int ((-1 : Int32))), (5, .int (nI (rOld (rLW R) (j)))), (6, .int (nI ((j) + 1)))] [.ref (gAd E (56)), .long ((rLW R) (j + 1))] rfl ?_
    refine G.rg r hE 16 (.ref (gAd E (62))) (by decide) rfl (tbd tv_X12_hand rfl) w_2081 ?_
    refine G.go tv_X12_hand 1 60 [(0, .ref (gAd E (56))), (1, .int (nI t)), (2, .ref (gAd E (81))), (3, .int (nI (a))), (4, .int ((-1 : Int32))), (5, .int (nI (rOld (rLW R) (j)))), (6, .int (nI ((j) + 1)))] [.int (nI (rOld (rLW R) (j))), .ref (gAd E (62)), .long ((rLW R) (j + 1))] rfl ?_
    refine G.laldN (62) (rOld (rLW R) j) (by omega) (r.a16) (by have := rOld_le (rLW R) j; omega) (by decide) (tbd tv_X12_hand rfl) ?_
    refine G.go tv_X12_hand 1 62 [(0, .ref (gAd E (56))), (1, .int (nI t)), (2, .ref (gAd E (81))), (3, .int (nI (a))), (4, .int ((-1 : Int32))), (5, .int (nI (rOld (rLW R) (j)))), (6, .int (nI ((j) + 1)))] [.int (lg_cmp ((rLW R) (j + 1)) ((rLW R) (rOld (rLW R) j)))] rfl ?_
    refine G.if_ge 70 (tbd tv_X12_hand rfl) (by decide) (fun c62 => ?_) (fun c62 => ?_)
    · skip
      refine G.go tv_X12_hand 4 38 [(0, .ref (gAd E (56))), (1, .int (nI t)), (2, .ref (gAd E (81))), (3, .int (nI (a))), (4, .int ((-1 : Int32))), (5, .int (nI (rOld (rLW R) (j)))), (6, .int (nI ((j) + 1) + (1 : Int32)))] [] rfl ?_
      refine G.eql [(0, .ref (gAd E (56))), (1, .int (nI t)), (2, .ref (gAd E (81))), (3, .int (nI (a))), (4, .int ((-1 : Int32))), (5, .int (nI (rOld (rLW R) (j + 1)))), (6, .int (nI ((j + 1) + 1)))] (by rw [show rOld (rLW R) (j + 1) = rOld (rLW R) j from if_pos c62, nI_1]) ?_
      exact ih (j + 1) (by omega) _ (r) (hf)
    · skip
      refine G.go tv_X12_hand 5 38 [(0, .ref (gAd E (56))), (1, .int (nI t)), (2, .ref (gAd E (81))), (3, .int (nI (a))), (4, .int ((-1 : Int32))), (5, .int (nI ((j) + 1))), (6, .int (nI ((j) + 1) + (1 : Int32)))] [] rfl ?_
      refine G.eql [(0, .ref (gAd E (56))), (1, .int (nI t)), (2, .ref (gAd E (81))), (3, .int (nI (a))), (4, .int ((-1 : Int32))), (5, .int (nI (rOld (rLW R) (j + 1)))), (6, .int (nI ((j + 1) + 1)))] (by rw [show rOld (rLW R) (j + 1) = j + 1 from if_neg c62, nI_1]) ?_
      exact ih (j + 1) (by omega) _ (r) (hf)
set_option maxRecDepth 100000 in
set_option maxHeartbeats 4000000 in
theorem c_X12_hand_batchValue (E : gE) (f : Nat → va_E) (R : RfT) (wf w B hd n : Nat) (hd0 : rDb R wf w B hd) (hk0 : rWk R n) (hE : 94 ≤ gN E) (r : RfV E f R) (t a : Nat) (ht : t < 1024) (hby : Byt (rA R 46)) (ha : a + 128 ≤ 5120) : Ct E 5 yX12_hand cX12_hand 7 none [.ref (gAd E (56)), .int (nI t), .ref (gAd E (81)), .int (nI (a))] f (fun v g => v = none ∧ RfV E g (rHand R 46 (a) t) ∧ Fr RfK f g, fun _ _ => False) := by
  obtain ⟨⟨hwf, hwf2, hnw, hnw2⟩, h7, h40, ⟨hb6, hb8, hb17, hb44⟩, ⟨hB, hB4, hB64, hh, hhB⟩, h15, h39⟩ := id hd0
  obtain ⟨hn, hwn, hwb⟩ := id hk0
  obtain ⟨e1, e2, e3⟩ := hd0.n
  obtain ⟨b, hb1, hb⟩ := h7 wf hwf2
  obtain ⟨bo, hbo1, hbo⟩ := h15 (rOld (rLW R) (hd - 1)) (by have := rOld_le (rLW R) (hd - 1); omega)
  obtain ⟨bl, hbl1, hbl⟩ := h15 (hd - 1) (by omega)
  refine Ct.of (by decide) (Nat.le_of_ble_eq_true rfl) (fun sz => ?_)
  refine G.eql [(0, .ref (gAd E (56))), (1, .int (nI t)), (2, .ref (gAd E (81))), (3, .int (nI (a)))] rfl ?_
  rcases h39 t ht with hA | ⟨k, hk1, hk2, hk3⟩
  · skip
    refine G.go tv_X12_hand 1 1 [(0, .ref (gAd E (56))), (1, .int (nI t)), (2, .ref (gAd E (81))), (3, .int (nI (a)))] [.ref (gAd E (56))] rfl ?_
    refine G.rg r hE 11 (.int (rS R 11)) (by decide) rfl (tbd tv_X12_hand rfl) w_2076 ?_
    refine G.if_ne 8 (tbd tv_X12_hand rfl) (by decide) (fun c4 => ?_) (fun c4 => ?_)
    · skip
      refine G.go tv_X12_hand 2 10 [(0, .ref (gAd E (56))), (1, .int (nI t)), (2, .ref (gAd E (81))), (3, .int (nI (a)))] [.int (nI t), .ref (gAd E (56))] rfl ?_
      refine G.callV (56) [.int (nI t)] [] (c_X12_heldAt E _ (R) hE r t ht) cls_X12 (by omega) (r.o) cw_X12_197 w_2284 w_57 (Nat.le_of_ble_eq_true rfl) rfl (Nat.le_of_ble_eq_true rfl) (tbd tv_X12_hand rfl) (fun v1 f1 q1 => ?_) (fun _ _ h => h.elim)
      obtain ⟨rfl, ra1, fa1⟩ := q1
      refine G.eqs [.int (rA R 39 t)] rfl ?_
      refine G.eqs [.int ((-1 : Int32))] (by rw [hA]) ?_
      refine G.go tv_X12_hand 3 18 [(0, .ref (gAd E (56))), (1, .int (nI t)), (2, .ref (gAd E (81))), (3, .int (nI (a))), (4, .int ((-1 : Int32)))] [.int ((-1 : Int32)), .int ((-1 : Int32))] rfl ?_
      refine G.cmp_ne 125 (tbd tv_X12_hand rfl) (by decide) (fun c18 => absurd (rfl) c18) (fun c18 => ?_)
      refine G.go tv_X12_hand 1 22 [(0, .ref (gAd E (56))), (1, .int (nI t)), (2, .ref (gAd E (81))), (3, .int (nI (a))), (4, .int ((-1 : Int32)))] [.ref (gAd E (56))] rfl ?_
      refine G.rg ra1 hE 18 (.int (rS R 18)) (by decide) rfl (tbd tv_X12_hand rfl) w_2083 ?_
      refine G.eqs [.int (nI hd)] (by rw [hh]) ?_
      refine G.go tv_X12_hand 1 26 [(0, .ref (gAd E (56))), (1, .int (nI t)), (2, .ref (gAd E (81))), (3, .int (nI (a))), (4, .int ((-1 : Int32)))] [.ref (gAd E (56)), .int (nI hd)] rfl ?_
      refine G.rg ra1 hE 2 (.int (rS R 2)) (by decide) rfl (tbd tv_X12_hand rfl) w_2067 ?_
      refine G.eqs [.int (nI B), .int (nI hd)] (by rw [hB]) ?_
      refine G.cmp_ne 125 (tbd tv_X12_hand rfl) (by decide) (fun c29 => ?_) (fun c29 => ?_)
      · skip
        have hfull : ¬ hd = B := fun q => c29 (by rw [q])
        refine G.go tv_X12_hand 2 128 [(0, .ref (gAd E (56))), (1, .int (nI t)), (2, .ref (gAd E (81))), (3, .int (nI (a))), (4, .int ((-1 : Int32)))] [.int ((-1 : Int32)), .int ((-1 : Int32))] rfl ?_
        refine G.cmp_ne 147 (tbd tv_X12_hand rfl) (by decide) (fun c128 => absurd (rfl) c128) (fun c128 => ?_)
        refine G.go tv_X12_hand 1 132 [(0, .ref (gAd E (56))), (1, .int (nI t)), (2, .ref (gAd E (81))), (3, .int (nI (a))), (4, .int ((-1 : Int32)))] [.ref (gAd E (56))] rfl ?_
        refine G.rg ra1 hE 18 (.int (rS R 18)) (by decide) rfl (tbd tv_X12_hand rfl) w_2083 ?_
        refine G.eqs [.int (nI hd)] (by rw [hh]) ?_
        refine G.go tv_X12_hand 3 139 [(0, .ref (gAd E (56))), (1, .int (nI t)), (2, .ref (gAd E (81))), (3, .int (nI (a))), (4, .int (nI hd))] [.ref (gAd E (56)), .ref (gAd E (56))] rfl ?_
        refine G.rg ra1 hE 18 (.int (rS R 18)) (by decide) rfl (tbd tv_X12_hand rfl) w_2083 ?_
        refine G.eqs [.int (nI hd), .ref (gAd E (56))] (by rw [hh]) ?_
        refine G.go tv_X12_hand 2 144 [(0, .ref (gAd E (56))), (1, .int (nI t)), (2, .ref (gAd E (81))), (3, .int (nI (a))), (4, .int (nI hd))] [.int ((nI hd) + ((1 : Int32))), .ref (gAd E (56))] rfl ?_
        refine G.eqs [.int (nI (hd + 1)), .ref (gAd E (56))] (by rw [nI_1]) ?_
        refine G.rp ra1 hE 18 (setS (R) 18 (nI (hd + 1))) rfl rfl (by decide) rfl rfl rfl (tbd tv_X12_hand rfl) w_2083 (fun u20 r20 h20 => ?_)
        refine G.go tv_X12_hand 1 148 [(0, .ref (gAd E (56))), (1, .int (nI t)), (2, .ref (gAd E (81))), (3, .int (nI (a))), (4, .int (nI hd))] [.ref (gAd E (56))] rfl ?_
        refine G.rg r20 hE 15 (.ref (gAd E (61))) (by decide) rfl (tbd tv_X12_hand rfl) w_2080 ?_
        refine G.go tv_X12_hand 2 154 [(0, .ref (gAd E (56))), (1, .int (nI t)), (2, .ref (gAd E (81))), (3, .int (nI (a))), (4, .int (nI hd))] [.int (nI t), .int (nI hd), .ref (gAd E (61))] rfl ?_
        refine G.raI (hd) hE ⟨by decide, by decide⟩ r20.a15 (r20.p15 _) (by omega) (by decide) (tbd tv_X12_hand rfl) (fun u21 r21 h21 => ?_)
        refine G.go tv_X12_hand 1 156 [(0, .ref (gAd E (56))), (1, .int (nI t)), (2, .ref (gAd E (81))), (3, .int (nI (a))), (4, .int (nI hd))] [.ref (gAd E (56))] rfl ?_
        refine G.rg r21 hE 39 (.ref (gAd E (76))) (by decide) rfl (tbd tv_X12_hand rfl) w_2104 ?_
        refine G.go tv_X12_hand 2 162 [(0, .ref (gAd E (56))), (1, .int (nI t)), (2, .ref (gAd E (81))), (3, .int (nI (a))), (4, .int (nI hd))] [.int (nI hd), .int (nI t), .ref (gAd E (76))] rfl ?_
        refine G.raI (t) hE ⟨by decide, by decide⟩ r21.a39 (r21.p39 _) (ht) (by decide) (tbd tv_X12_hand rfl) (fun u22 r22 h22 => ?_)
        refine G.go tv_X12_hand 1 164 [(0, .ref (gAd E (56))), (1, .int (nI t)), (2, .ref (gAd E (81))), (3, .int (nI (a))), (4, .int (nI hd))] [.ref (gAd E (56))] rfl ?_
        refine G.rg r22 hE 16 (.ref (gAd E (62))) (by decide) rfl (tbd tv_X12_hand rfl) w_2081 ?_
        refine G.go tv_X12_hand 2 170 [(0, .ref (gAd E (56))), (1, .int (nI t)), (2, .ref (gAd E (81))), (3, .int (nI (a))), (4, .int (nI hd))] [.ref (gAd E (56)), .int (nI hd), .ref (gAd E (62))] rfl ?_
        refine G.rg r22 hE 19 (.long (rWh R)) (by decide) rfl (tbd tv_X12_hand rfl) w_2084 ?_
        refine G.raJ (hd) hE ⟨by decide, by decide⟩ r22.a16 (r22.p16 _) (by omega) (by decide) (tbd tv_X12_hand rfl) (fun u23 r23 h23 => ?_)
        refine G.go tv_X12_hand 2 176 [(0, .ref (gAd E (56))), (1, .int (nI t)), (2, .ref (gAd E (81))), (3, .int (nI (a))), (4, .int (nI hd))] [.ref (gAd E (56)), .ref (gAd E (56))] rfl ?_
        refine G.rg r23 hE 19 (.long (rWh R)) (by decide) rfl (tbd tv_X12_hand rfl) w_2084 ?_
        refine G.go tv_X12_hand 2 181 [(0, .ref (gAd E (56))), (1, .int (nI t)), (2, .ref (gAd E (81))), (3, .int (nI (a))), (4, .int (nI hd))] [.long ((rWh R) + ((1 : Int64))), .ref (gAd E (56))] rfl ?_
        refine G.rp r23 hE 19 (setWh (setLW (setA (setA (setS (R) 18 (nI (hd + 1))) 15 (upd (rA R 15) (hd) (nI t))) 39 (upd (rA R 39) (t) (nI hd))) (vp_updL (rLW R) (hd) (rWh R))) ((rWh R) + ((1 : Int64)))) rfl rfl (by decide) rfl rfl rfl (tbd tv_X12_hand rfl) w_2084 (fun u24 r24 h24 => ?_)
        refine G.go tv_X12_hand 3 187 [(0, .ref (gAd E (56))), (1, .int (nI t)), (2, .ref (gAd E (81))), (3, .int (nI (a))), (4, .int (nI hd))] [.ref (gAd E (56)), .int (nI (a)), .ref (gAd E (81))] rfl ?_
        refine G.rg r24 hE 17 (.ref (gAd E (63))) (by decide) rfl (tbd tv_X12_hand rfl) w_2082 ?_
        refine G.go tv_X12_hand 3 196 [(0, .ref (gAd E (56))), (1, .int (nI t)), (2, .ref (gAd E (81))), (3, .int (nI (a))), (4, .int (nI hd))] [.int (((128 : Int32)) * (nI hd)), .ref (gAd E (63)), .int (nI (a)), .ref (gAd E (81))] rfl ?_
        refine G.eqs [.int (nI (128 * (hd))), .ref (gAd E (63)), .int (nI (a)), .ref (gAd E (81))] (by rw [show (128 : Int32) = nI 128 from rfl, pk_mul]) ?_
        refine G.callS [.ref (gAd E (81)), .int (nI (a)), .ref (gAd E (63)), .int (nI (128 * (hd)))] [] (c_X12_move E _ 81 5120 63 8192 (rA R 46) (rA R 17) (a) (128 * (hd)) (by omega) (by omega) (by decide) r24.a46 (by decide) (by decide) (by omega) (by omega) hby r24.a17) cw_X12_190 w_2307 (Nat.le_of_ble_eq_true rfl) rfl (Nat.le_of_ble_eq_true rfl) (tbd tv_X12_hand rfl) (fun v2 f2 q2 => ?_) (fun _ _ h => h.elim)
        obtain ⟨rfl, ea2⟩ := q2
        refine G.eqs [] rfl ?_
        have ra2 : RfV E f2 (setA (setWh (setLW (setA (setA (setS (R) 18 (nI (hd + 1))) 15 (upd (rA R 15) (hd) (nI t))) 39 (upd (rA R 39) (t) (nI hd))) (vp_updL (rLW R) (hd) (rWh R))) ((rWh R) + ((1 : Int64)))) 17 (va_cpy (rA R 46) (rA R 17) (a) (128 * (hd)) 128)) := RfV.ar (r24.p17 _) ea2
        have fa2 : Fr RfK u24 f2 := Fr.ar ⟨by decide, by decide⟩ ea2
        exact G.vret rfl ⟨rfl, by unfold rHand; rw [if_neg c4, if_pos hA, e3, hB, nI_clamp (by omega), if_neg hfull]; exact ra2, ((((((fa1).tr h20 (fun _ h => h)).tr h21 (fun _ h => h)).tr h22 (fun _ h => h)).tr h23 (fun _ h => h)).tr h24 (fun _ h => h)).tr fa2 (fun _ h => h)⟩ (tbd tv_X12_hand rfl)
      · skip
        have hfull : hd = B := (nI_eq (by omega) (by omega)).mp c29
        refine G.go tv_X12_hand 4 38 [(0, .ref (gAd E (56))), (1, .int (nI t)), (2, .ref (gAd E (81))), (3, .int (nI (a))), (4, .int ((-1 : Int32))), (5, .int ((0 : Int32))), (6, .int ((1 : Int32)))] [] rfl ?_
        refine hl_loop_batchValue E f _ _ _ hE R wf w B hd hd0 t a (by omega) ?_ (hd - 1) 0 (by omega) _ ra1 (fa1)
        intro u0 r0 h0
        refine G.go tv_X12_hand 2 82 [(0, .ref (gAd E (56))), (1, .int (nI t)), (2, .ref (gAd E (81))), (3, .int (nI (a))), (4, .int ((-1 : Int32))), (5, .int (nI (rOld (rLW R) (hd - 1)))), (6, .int (nI ((hd - 1) + 1)))] [.ref (gAd E (56)), .ref (gAd E (56))] rfl ?_
        refine G.rg r0 hE 15 (.ref (gAd E (61))) (by decide) rfl (tbd tv_X12_hand rfl) w_2080 ?_
        refine G.go tv_X12_hand 1 87 [(0, .ref (gAd E (56))), (1, .int (nI t)), (2, .ref (gAd E (81))), (3, .int (nI (a))), (4, .int ((-1 : Int32))), (5, .int (nI (rOld (rLW R) (hd - 1)))), (6, .int (nI ((hd - 1) + 1)))] [.int (nI (rOld (rLW R) (hd - 1))), .ref (gAd E (61)), .ref (gAd E (56))] rfl ?_
        refine G.ialdN (61) (rOld (rLW R) (hd - 1)) (by omega) (r0.a15) (by have := rOld_le (rLW R) (hd - 1); omega) (by decide) (tbd tv_X12_hand rfl) ?_
        refine G.eqs [.int ((rA R 15) (rOld (rLW R) (hd - 1))), .ref (gAd E (56))] rfl ?_
        refine G.eqs [.int (nI bo), .ref (gAd E (56))] (by rw [hbo]) ?_
        refine G.go tv_X12_hand 1 89 [(0, .ref (gAd E (56))), (1, .int (nI t)), (2, .ref (gAd E (81))), (3, .int (nI (a))), (4, .int ((-1 : Int32))), (5, .int (nI (rOld (rLW R) (hd - 1)))), (6, .int (nI ((hd - 1) + 1)))] [.ref (gAd E (56)), .int (nI bo), .ref (gAd E (56))] rfl ?_
        refine G.rg r0 hE 17 (.ref (gAd E (63))) (by decide) rfl (tbd tv_X12_hand rfl) w_2082 ?_
        refine G.go tv_X12_hand 3 98 [(0, .ref (gAd E (56))), (1, .int (nI t)), (2, .ref (gAd E (81))), (3, .int (nI (a))), (4, .int ((-1 : Int32))), (5, .int (nI (rOld (rLW R) (hd - 1)))), (6, .int (nI ((hd - 1) + 1)))] [.int (((128 : Int32)) * (nI (rOld (rLW R) (hd - 1)))), .ref (gAd E (63)), .int (nI bo), .ref (gAd E (56))] rfl ?_
        refine G.eqs [.int (nI (128 * (rOld (rLW R) (hd - 1)))), .ref (gAd E (63)), .int (nI bo), .ref (gAd E (56))] (by rw [show (128 : Int32) = nI 128 from rfl, pk_mul]) ?_
        refine G.callV (56) [.int (nI bo), .ref (gAd E (63)), .int (nI (128 * (rOld (rLW R) (hd - 1))))] [] (c_X12_writeDisk E _ R wf w B hd n hd0 hk0 hE r0 b bo (rOld (rLW R) (hd - 1)) hb1 hb hbo1 (by have := rOld_le (rLW R) (hd - 1); omega)) cls_X12 (by omega) (r0.o) cw_X12_201 w_2288 w_58 (Nat.le_of_ble_eq_true rfl) rfl (Nat.le_of_ble_eq_true rfl) (tbd tv_X12_hand rfl) (fun v3 f3 q3 => ?_) (fun _ _ h => h.elim)
        rcases q3 with ⟨hc, rfl, ra3, fa3⟩ | ⟨hc, rfl, ra3, fa3⟩
        · skip
          refine G.eqs [] rfl ?_
          refine G.go tv_X12_hand 1 102 [(0, .ref (gAd E (56))), (1, .int (nI t)), (2, .ref (gAd E (81))), (3, .int (nI (a))), (4, .int ((-1 : Int32))), (5, .int (nI (rOld (rLW R) (hd - 1)))), (6, .int (nI ((hd - 1) + 1)))] [.ref (gAd E (56))] rfl ?_
          refine G.rg ra3 hE 11 (.int (rS (rNo R n) 11)) (by decide) rfl (tbd tv_X12_hand rfl) w_2076 ?_
          refine G.if_ne 109 (tbd tv_X12_hand rfl) (by decide) (fun c105 => absurd (by unfold rNo; rw [if_neg c4]; rfl) c105) (fun c105 => ?_)
          exact G.vret rfl ⟨rfl, by unfold rHand; rw [if_neg c4, if_pos hA, e3, hB, nI_clamp (by omega), if_pos hfull, if_neg hc, hk0.n]; unfold rNo at ra3; rw [if_neg c4] at ra3; exact ra3, (h0).tr fa3 (fun _ h => h)⟩ (tbd tv_X12_hand rfl)
        · skip
          have d1 : rDb (setS (rWrt R wf w b bo (rOld (rLW R) (hd - 1))) 20 (rS R 20 + 1)) _ _ B hd := rDb_20 (rWrt_ok hd0 hbo1)
          have hbo2 : rA (setS (rWrt R wf w b bo (rOld (rLW R) (hd - 1))) 20 (rS R 20 + 1)) 15 (rOld (rLW R) (hd - 1)) = nI bo := (congrFun (rWrt_A (by decide) (by decide) (by decide) (by decide)) _).trans hbo
          have hbl2 : rA (setS (rWrt R wf w b bo (rOld (rLW R) (hd - 1))) 20 (rS R 20 + 1)) 15 (hd - 1) = nI bl := (congrFun (rWrt_A (by decide) (by decide) (by decide) (by decide)) _).trans hbl
          have e20 : rS (rWrt R wf w b bo (rOld (rLW R) (hd - 1))) 20 = rS R 20 := rWrt_S (by decide) (by decide) (by decide) (by decide)
          refine G.eqs [] rfl ?_
          refine G.go tv_X12_hand 1 102 [(0, .ref (gAd E (56))), (1, .int (nI t)), (2, .ref (gAd E (81))), (3, .int (nI (a))), (4, .int ((-1 : Int32))), (5, .int (nI (rOld (rLW R) (hd - 1)))), (6, .int (nI ((hd - 1) + 1)))] [.ref (gAd E (56))] rfl ?_
          refine G.rg ra3 hE 11 (.int (rS (rWrt R wf w b bo (rOld (rLW R) (hd - 1))) 11)) (by decide) rfl (tbd tv_X12_hand rfl) w_2076 ?_
          refine G.if_ne 109 (tbd tv_X12_hand rfl) (by decide) (fun c105 => ?_) (fun c105 => absurd c105 (by rw [rWrt_S (by decide) (by decide) (by decide) (by decide)]; exact c4))
          refine G.go tv_X12_hand 2 111 [(0, .ref (gAd E (56))), (1, .int (nI t)), (2, .ref (gAd E (81))), (3, .int (nI (a))), (4, .int ((-1 : Int32))), (5, .int (nI (rOld (rLW R) (hd - 1)))), (6, .int (nI ((hd - 1) + 1)))] [.ref (gAd E (56)), .ref (gAd E (56))] rfl ?_
          refine G.rg ra3 hE 20 (.int (rS (rWrt R wf w b bo (rOld (rLW R) (hd - 1))) 20)) (by decide) rfl (tbd tv_X12_hand rfl) w_2085 ?_
          refine G.go tv_X12_hand 2 116 [(0, .ref (gAd E (56))), (1, .int (nI t)), (2, .ref (gAd E (81))), (3, .int (nI (a))), (4, .int ((-1 : Int32))), (5, .int (nI (rOld (rLW R) (hd - 1)))), (6, .int (nI ((hd - 1) + 1)))] [.int ((rS (rWrt R wf w b bo (rOld (rLW R) (hd - 1))) 20) + ((1 : Int32))), .ref (gAd E (56))] rfl ?_
          refine G.eqs [.int (rS R 20 + 1), .ref (gAd E (56))] (by rw [e20]) ?_
          refine G.rp ra3 hE 20 (setS (rWrt R wf w b bo (rOld (rLW R) (hd - 1))) 20 (rS R 20 + 1)) rfl rfl (by decide) rfl rfl rfl (tbd tv_X12_hand rfl) w_2085 (fun u25 r25 h25 => ?_)
          refine G.go tv_X12_hand 2 122 [(0, .ref (gAd E (56))), (1, .int (nI t)), (2, .ref (gAd E (81))), (3, .int (nI (a))), (4, .int ((-1 : Int32))), (5, .int (nI (rOld (rLW R) (hd - 1)))), (6, .int (nI ((hd - 1) + 1)))] [.int (nI (rOld (rLW R) (hd - 1))), .ref (gAd E (56))] rfl ?_
          refine G.callV (56) [.int (nI (rOld (rLW R) (hd - 1)))] [] (c_X12_leave E _ (setS (rWrt R wf w b bo (rOld (rLW R) (hd - 1))) 20 (rS R 20 + 1)) _ _ B hd d1 hE r25 (rOld (rLW R) (hd - 1)) bo bl (by have := rOld_le (rLW R) (hd - 1); omega) hbo2 hbo1 hbl2 hbl1) cls_X12 (by omega) (r25.o) cw_X12_208 w_2311 w_63 (Nat.le_of_ble_eq_true rfl) rfl (Nat.le_of_ble_eq_true rfl) (tbd tv_X12_hand rfl) (fun v4 f4 q4 => ?_) (fun _ _ h => h.elim)
          obtain ⟨rfl, ra4, fa4⟩ := q4
          have d2 := rLv_ok d1 (by have := rOld_le (rLW R) (hd - 1); omega) hbo2 hbo1 hbl2 hbl1
          have h182 : rS (rLv (setS (rWrt R wf w b bo (rOld (rLW R) (hd - 1))) 20 (rS R 20 + 1)) hd (rOld (rLW R) (hd - 1)) bo bl) 18 = nI (hd - 1) := d2.2.2.2.2.1.2.2.2.1
          have hby2 : Byt (rA (rLv (setS (rWrt R wf w b bo (rOld (rLW R) (hd - 1))) 20 (rS R 20 + 1)) hd (rOld (rLW R) (hd - 1)) bo bl) 46) := by rw [rLv_A (by decide) (by decide) (by decide)]; show Byt (rA (rWrt R wf w b bo (rOld (rLW R) (hd - 1))) 46); rw [rWrt_A (by decide) (by decide) (by decide) (by decide)]; exact hby
          refine G.eqs [] rfl ?_
          refine G.go tv_X12_hand 2 128 [(0, .ref (gAd E (56))), (1, .int (nI t)), (2, .ref (gAd E (81))), (3, .int (nI (a))), (4, .int ((-1 : Int32))), (5, .int (nI (rOld (rLW R) (hd - 1)))), (6, .int (nI ((hd - 1) + 1)))] [.int ((-1 : Int32)), .int ((-1 : Int32))] rfl ?_
          refine G.cmp_ne 147 (tbd tv_X12_hand rfl) (by decide) (fun c128 => absurd (rfl) c128) (fun c128 => ?_)
          refine G.go tv_X12_hand 1 132 [(0, .ref (gAd E (56))), (1, .int (nI t)), (2, .ref (gAd E (81))), (3, .int (nI (a))), (4, .int ((-1 : Int32))), (5, .int (nI (rOld (rLW R) (hd - 1)))), (6, .int (nI ((hd - 1) + 1)))] [.ref (gAd E (56))] rfl ?_
          refine G.rg ra4 hE 18 (.int (rS (rLv (setS (rWrt R wf w b bo (rOld (rLW R) (hd - 1))) 20 (rS R 20 + 1)) hd (rOld (rLW R) (hd - 1)) bo bl) 18)) (by decide) rfl (tbd tv_X12_hand rfl) w_2083 ?_
          refine G.eqs [.int (nI (hd - 1))] (by rw [h182]) ?_
          refine G.go tv_X12_hand 3 139 [(0, .ref (gAd E (56))), (1, .int (nI t)), (2, .ref (gAd E (81))), (3, .int (nI (a))), (4, .int (nI (hd - 1))), (5, .int (nI (rOld (rLW R) (hd - 1)))), (6, .int (nI ((hd - 1) + 1)))] [.ref (gAd E (56)), .ref (gAd E (56))] rfl ?_
          refine G.rg ra4 hE 18 (.int (rS (rLv (setS (rWrt R wf w b bo (rOld (rLW R) (hd - 1))) 20 (rS R 20 + 1)) hd (rOld (rLW R) (hd - 1)) bo bl) 18)) (by decide) rfl (tbd tv_X12_hand rfl) w_2083 ?_
          refine G.eqs [.int (nI (hd - 1)), .ref (gAd E (56))] (by rw [h182]) ?_
          refine G.go tv_X12_hand 2 144 [(0, .ref (gAd E (56))), (1, .int (nI t)), (2, .ref (gAd E (81))), (3, .int (nI (a))), (4, .int (nI (hd - 1))), (5, .int (nI (rOld (rLW R) (hd - 1)))), (6, .int (nI ((hd - 1) + 1)))] [.int ((nI (hd - 1)) + ((1 : Int32))), .ref (gAd E (56))] rfl ?_
          refine G.eqs [.int (nI (hd - 1 + 1)), .ref (gAd E (56))] (by rw [nI_1]) ?_
          refine G.rp ra4 hE 18 (setS (rLv (setS (rWrt R wf w b bo (rOld (rLW R) (hd - 1))) 20 (rS R 20 + 1)) hd (rOld (rLW R) (hd - 1)) bo bl) 18 (nI (hd - 1 + 1))) rfl rfl (by decide) rfl rfl rfl (tbd tv_X12_hand rfl) w_2083 (fun u26 r26 h26 => ?_)
          refine G.go tv_X12_hand 1 148 [(0, .ref (gAd E (56))), (1, .int (nI t)), (2, .ref (gAd E (81))), (3, .int (nI (a))), (4, .int (nI (hd - 1))), (5, .int (nI (rOld (rLW R) (hd - 1)))), (6, .int (nI ((hd - 1) + 1)))] [.ref (gAd E (56))] rfl ?_
          refine G.rg r26 hE 15 (.ref (gAd E (61))) (by decide) rfl (tbd tv_X12_hand rfl) w_2080 ?_
          refine G.go tv_X12_hand 2 154 [(0, .ref (gAd E (56))), (1, .int (nI t)), (2, .ref (gAd E (81))), (3, .int (nI (a))), (4, .int (nI (hd - 1))), (5, .int (nI (rOld (rLW R) (hd - 1)))), (6, .int (nI ((hd - 1) + 1)))] [.int (nI t), .int (nI (hd - 1)), .ref (gAd E (61))] rfl ?_
          refine G.raI (hd - 1) hE ⟨by decide, by decide⟩ r26.a15 (r26.p15 _) (by omega) (by decide) (tbd tv_X12_hand rfl) (fun u27 r27 h27 => ?_)
          refine G.go tv_X12_hand 1 156 [(0, .ref (gAd E (56))), (1, .int (nI t)), (2, .ref (gAd E (81))), (3, .int (nI (a))), (4, .int (nI (hd - 1))), (5, .int (nI (rOld (rLW R) (hd - 1)))), (6, .int (nI ((hd - 1) + 1)))] [.ref (gAd E (56))] rfl ?_
          refine G.rg r27 hE 39 (.ref (gAd E (76))) (by decide) rfl (tbd tv_X12_hand rfl) w_2104 ?_
          refine G.go tv_X12_hand 2 162 [(0, .ref (gAd E (56))), (1, .int (nI t)), (2, .ref (gAd E (81))), (3, .int (nI (a))), (4, .int (nI (hd - 1))), (5, .int (nI (rOld (rLW R) (hd - 1)))), (6, .int (nI ((hd - 1) + 1)))] [.int (nI (hd - 1)), .int (nI t), .ref (gAd E (76))] rfl ?_
          refine G.raI (t) hE ⟨by decide, by decide⟩ r27.a39 (r27.p39 _) (ht) (by decide) (tbd tv_X12_hand rfl) (fun u28 r28 h28 => ?_)
          refine G.go tv_X12_hand 1 164 [(0, .ref (gAd E (56))), (1, .int (nI t)), (2, .ref (gAd E (81))), (3, .int (nI (a))), (4, .int (nI (hd - 1))), (5, .int (nI (rOld (rLW R) (hd - 1)))), (6, .int (nI ((hd - 1) + 1)))] [.ref (gAd E (56))] rfl ?_
          refine G.rg r28 hE 16 (.ref (gAd E (62))) (by decide) rfl (tbd tv_X12_hand rfl) w_2081 ?_
          refine G.go tv_X12_hand 2 170 [(0, .ref (gAd E (56))), (1, .int (nI t)), (2, .ref (gAd E (81))), (3, .int (nI (a))), (4, .int (nI (hd - 1))), (5, .int (nI (rOld (rLW R) (hd - 1)))), (6, .int (nI ((hd - 1) + 1)))] [.ref (gAd E (56)), .int (nI (hd - 1)), .ref (gAd E (62))] rfl ?_
          refine G.rg r28 hE 19 (.long (rWh (rLv (setS (rWrt R wf w b bo (rOld (rLW R) (hd - 1))) 20 (rS R 20 + 1)) hd (rOld (rLW R) (hd - 1)) bo bl))) (by decide) rfl (tbd tv_X12_hand rfl) w_2084 ?_
          refine G.raJ (hd - 1) hE ⟨by decide, by decide⟩ r28.a16 (r28.p16 _) (by omega) (by decide) (tbd tv_X12_hand rfl) (fun u29 r29 h29 => ?_)
          refine G.go tv_X12_hand 2 176 [(0, .ref (gAd E (56))), (1, .int (nI t)), (2, .ref (gAd E (81))), (3, .int (nI (a))), (4, .int (nI (hd - 1))), (5, .int (nI (rOld (rLW R) (hd - 1)))), (6, .int (nI ((hd - 1) + 1)))] [.ref (gAd E (56)), .ref (gAd E (56))] rfl ?_
          refine G.rg r29 hE 19 (.long (rWh (rLv (setS (rWrt R wf w b bo (rOld (rLW R) (hd - 1))) 20 (rS R 20 + 1)) hd (rOld (rLW R) (hd - 1)) bo bl))) (by decide) rfl (tbd tv_X12_hand rfl) w_2084 ?_
          refine G.go tv_X12_hand 2 181 [(0, .ref (gAd E (56))), (1, .int (nI t)), (2, .ref (gAd E (81))), (3, .int (nI (a))), (4, .int (nI (hd - 1))), (5, .int (nI (rOld (rLW R) (hd - 1)))), (6, .int (nI ((hd - 1) + 1)))] [.long ((rWh (rLv (setS (rWrt R wf w b bo (rOld (rLW R) (hd - 1))) 20 (rS R 20 + 1)) hd (rOld (rLW R) (hd - 1)) bo bl)) + ((1 : Int64))), .ref (gAd E (56))] rfl ?_
          refine G.rp r29 hE 19 (setWh (setLW (setA (setA (setS (rLv (setS (rWrt R wf w b bo (rOld (rLW R) (hd - 1))) 20 (rS R 20 + 1)) hd (rOld (rLW R) (hd - 1)) bo bl) 18 (nI (hd - 1 + 1))) 15 (upd (rA (rLv (setS (rWrt R wf w b bo (rOld (rLW R) (hd - 1))) 20 (rS R 20 + 1)) hd (rOld (rLW R) (hd - 1)) bo bl) 15) (hd - 1) (nI t))) 39 (upd (rA (rLv (setS (rWrt R wf w b bo (rOld (rLW R) (hd - 1))) 20 (rS R 20 + 1)) hd (rOld (rLW R) (hd - 1)) bo bl) 39) (t) (nI (hd - 1)))) (vp_updL (rLW (rLv (setS (rWrt R wf w b bo (rOld (rLW R) (hd - 1))) 20 (rS R 20 + 1)) hd (rOld (rLW R) (hd - 1)) bo bl)) (hd - 1) (rWh (rLv (setS (rWrt R wf w b bo (rOld (rLW R) (hd - 1))) 20 (rS R 20 + 1)) hd (rOld (rLW R) (hd - 1)) bo bl)))) ((rWh (rLv (setS (rWrt R wf w b bo (rOld (rLW R) (hd - 1))) 20 (rS R 20 + 1)) hd (rOld (rLW R) (hd - 1)) bo bl)) + ((1 : Int64)))) rfl rfl (by decide) rfl rfl rfl (tbd tv_X12_hand rfl) w_2084 (fun u30 r30 h30 => ?_)
          refine G.go tv_X12_hand 3 187 [(0, .ref (gAd E (56))), (1, .int (nI t)), (2, .ref (gAd E (81))), (3, .int (nI (a))), (4, .int (nI (hd - 1))), (5, .int (nI (rOld (rLW R) (hd - 1)))), (6, .int (nI ((hd - 1) + 1)))] [.ref (gAd E (56)), .int (nI (a)), .ref (gAd E (81))] rfl ?_
          refine G.rg r30 hE 17 (.ref (gAd E (63))) (by decide) rfl (tbd tv_X12_hand rfl) w_2082 ?_
          refine G.go tv_X12_hand 3 196 [(0, .ref (gAd E (56))), (1, .int (nI t)), (2, .ref (gAd E (81))), (3, .int (nI (a))), (4, .int (nI (hd - 1))), (5, .int (nI (rOld (rLW R) (hd - 1)))), (6, .int (nI ((hd - 1) + 1)))] [.int (((128 : Int32)) * (nI (hd - 1))), .ref (gAd E (63)), .int (nI (a)), .ref (gAd E (81))] rfl ?_
          refine G.eqs [.int (nI (128 * (hd - 1))), .ref (gAd E (63)), .int (nI (a)), .ref (gAd E (81))] (by rw [show (128 : Int32) = nI 128 from rfl, pk_mul]) ?_
          refine G.callS [.ref (gAd E (81)), .int (nI (a)), .ref (gAd E (63)), .int (nI (128 * (hd - 1)))] [] (c_X12_move E _ 81 5120 63 8192 (rA (rLv (setS (rWrt R wf w b bo (rOld (rLW R) (hd - 1))) 20 (rS R 20 + 1)) hd (rOld (rLW R) (hd - 1)) bo bl) 46) (rA (rLv (setS (rWrt R wf w b bo (rOld (rLW R) (hd - 1))) 20 (rS R 20 + 1)) hd (rOld (rLW R) (hd - 1)) bo bl) 17) (a) (128 * (hd - 1)) (by omega) (by omega) (by decide) r30.a46 (by decide) (by decide) (by omega) (by omega) hby2 r30.a17) cw_X12_190 w_2307 (Nat.le_of_ble_eq_true rfl) rfl (Nat.le_of_ble_eq_true rfl) (tbd tv_X12_hand rfl) (fun v5 f5 q5 => ?_) (fun _ _ h => h.elim)
          obtain ⟨rfl, ea5⟩ := q5
          refine G.eqs [] rfl ?_
          have ra5 : RfV E f5 (setA (setWh (setLW (setA (setA (setS (rLv (setS (rWrt R wf w b bo (rOld (rLW R) (hd - 1))) 20 (rS R 20 + 1)) hd (rOld (rLW R) (hd - 1)) bo bl) 18 (nI (hd - 1 + 1))) 15 (upd (rA (rLv (setS (rWrt R wf w b bo (rOld (rLW R) (hd - 1))) 20 (rS R 20 + 1)) hd (rOld (rLW R) (hd - 1)) bo bl) 15) (hd - 1) (nI t))) 39 (upd (rA (rLv (setS (rWrt R wf w b bo (rOld (rLW R) (hd - 1))) 20 (rS R 20 + 1)) hd (rOld (rLW R) (hd - 1)) bo bl) 39) (t) (nI (hd - 1)))) (vp_updL (rLW (rLv (setS (rWrt R wf w b bo (rOld (rLW R) (hd - 1))) 20 (rS R 20 + 1)) hd (rOld (rLW R) (hd - 1)) bo bl)) (hd - 1) (rWh (rLv (setS (rWrt R wf w b bo (rOld (rLW R) (hd - 1))) 20 (rS R 20 + 1)) hd (rOld (rLW R) (hd - 1)) bo bl)))) ((rWh (rLv (setS (rWrt R wf w b bo (rOld (rLW R) (hd - 1))) 20 (rS R 20 + 1)) hd (rOld (rLW R) (hd - 1)) bo bl)) + ((1 : Int64)))) 17 (va_cpy (rA (rLv (setS (rWrt R wf w b bo (rOld (rLW R) (hd - 1))) 20 (rS R 20 + 1)) hd (rOld (rLW R) (hd - 1)) bo bl) 46) (rA (rLv (setS (rWrt R wf w b bo (rOld (rLW R) (hd - 1))) 20 (rS R 20 + 1)) hd (rOld (rLW R) (hd - 1)) bo bl) 17) (a) (128 * (hd - 1)) 128)) := RfV.ar (r30.p17 _) ea5
          have fa5 : Fr RfK u30 f5 := Fr.ar ⟨by decide, by decide⟩ ea5
          exact G.vret rfl ⟨rfl, by unfold rHand; rw [if_neg c4, if_pos hA, e3, hB, nI_clamp (by omega), if_pos hfull, if_pos hc, ← rWr_eq hd0 hb hb1 hbo hbo1, ← rLe_eq d1 hbo2 hbo1 hbl2 hbl1]; exact ra5, (((((((((h0).tr fa3 (fun _ h => h)).tr h25 (fun _ h => h)).tr fa4 (fun _ h => h)).tr h26 (fun _ h => h)).tr h27 (fun _ h => h)).tr h28 (fun _ h => h)).tr h29 (fun _ h => h)).tr h30 (fun _ h => h)).tr fa5 (fun _ h => h)⟩ (tbd tv_X12_hand rfl)
    · skip
      exact G.vret rfl ⟨rfl, by unfold rHand; rw [if_pos c4]; exact r, Fr.rf⟩ (tbd tv_X12_hand rfl)
  · have hne : ¬ nI k = -1 := fun q => by
      have := nI_pos (n := k) (by omega)
      rw [q] at this
      exact this (by decide)
    refine G.go tv_X12_hand 1 1 [(0, .ref (gAd E (56))), (1, .int (nI t)), (2, .ref (gAd E (81))), (3, .int (nI (a)))] [.ref (gAd E (56))] rfl ?_
    refine G.rg r hE 11 (.int (rS R 11)) (by decide) rfl (tbd tv_X12_hand rfl) w_2076 ?_
    refine G.if_ne 8 (tbd tv_X12_hand rfl) (by decide) (fun c4 => ?_) (fun c4 => ?_)
    · skip
      refine G.go tv_X12_hand 2 10 [(0, .ref (gAd E (56))), (1, .int (nI t)), (2, .ref (gAd E (81))), (3, .int (nI (a)))] [.int (nI t), .ref (gAd E (56))] rfl ?_
      refine G.callV (56) [.int (nI t)] [] (c_X12_heldAt E _ (R) hE r t ht) cls_X12 (by omega) (r.o) cw_X12_197 w_2284 w_57 (Nat.le_of_ble_eq_true rfl) rfl (Nat.le_of_ble_eq_true rfl) (tbd tv_X12_hand rfl) (fun v1 f1 q1 => ?_) (fun _ _ h => h.elim)
      obtain ⟨rfl, ra1, fa1⟩ := q1
      refine G.eqs [.int (rA R 39 t)] rfl ?_
      refine G.eqs [.int (nI k)] (by rw [hk2]) ?_
      refine G.go tv_X12_hand 3 18 [(0, .ref (gAd E (56))), (1, .int (nI t)), (2, .ref (gAd E (81))), (3, .int (nI (a))), (4, .int (nI k))] [.int ((-1 : Int32)), .int (nI k)] rfl ?_
      refine G.cmp_ne 125 (tbd tv_X12_hand rfl) (by decide) (fun c18 => ?_) (fun c18 => absurd c18 (hne))
      refine G.go tv_X12_hand 2 128 [(0, .ref (gAd E (56))), (1, .int (nI t)), (2, .ref (gAd E (81))), (3, .int (nI (a))), (4, .int (nI k))] [.int ((-1 : Int32)), .int (nI k)] rfl ?_
      refine G.cmp_ne 147 (tbd tv_X12_hand rfl) (by decide) (fun c128 => ?_) (fun c128 => absurd c128 (hne))
      refine G.go tv_X12_hand 1 148 [(0, .ref (gAd E (56))), (1, .int (nI t)), (2, .ref (gAd E (81))), (3, .int (nI (a))), (4, .int (nI k))] [.ref (gAd E (56))] rfl ?_
      refine G.rg ra1 hE 15 (.ref (gAd E (61))) (by decide) rfl (tbd tv_X12_hand rfl) w_2080 ?_
      refine G.go tv_X12_hand 2 154 [(0, .ref (gAd E (56))), (1, .int (nI t)), (2, .ref (gAd E (81))), (3, .int (nI (a))), (4, .int (nI k))] [.int (nI t), .int (nI k), .ref (gAd E (61))] rfl ?_
      refine G.raI (k) hE ⟨by decide, by decide⟩ ra1.a15 (ra1.p15 _) (by omega) (by decide) (tbd tv_X12_hand rfl) (fun u16 r16 h16 => ?_)
      refine G.go tv_X12_hand 1 156 [(0, .ref (gAd E (56))), (1, .int (nI t)), (2, .ref (gAd E (81))), (3, .int (nI (a))), (4, .int (nI k))] [.ref (gAd E (56))] rfl ?_
      refine G.rg r16 hE 39 (.ref (gAd E (76))) (by decide) rfl (tbd tv_X12_hand rfl) w_2104 ?_
      refine G.go tv_X12_hand 2 162 [(0, .ref (gAd E (56))), (1, .int (nI t)), (2, .ref (gAd E (81))), (3, .int (nI (a))), (4, .int (nI k))] [.int (nI k), .int (nI t), .ref (gAd E (76))] rfl ?_
      refine G.raI (t) hE ⟨by decide, by decide⟩ r16.a39 (r16.p39 _) (ht) (by decide) (tbd tv_X12_hand rfl) (fun u17 r17 h17 => ?_)
      refine G.go tv_X12_hand 1 164 [(0, .ref (gAd E (56))), (1, .int (nI t)), (2, .ref (gAd E (81))), (3, .int (nI (a))), (4, .int (nI k))] [.ref (gAd E (56))] rfl ?_
      refine G.rg r17 hE 16 (.ref (gAd E (62))) (by decide) rfl (tbd tv_X12_hand rfl) w_2081 ?_
      refine G.go tv_X12_hand 2 170 [(0, .ref (gAd E (56))), (1, .int (nI t)), (2, .ref (gAd E (81))), (3, .int (nI (a))), (4, .int (nI k))] [.ref (gAd E (56)), .int (nI k), .ref (gAd E (62))] rfl ?_
      refine G.rg r17 hE 19 (.long (rWh R)) (by decide) rfl (tbd tv_X12_hand rfl) w_2084 ?_
      refine G.raJ (k) hE ⟨by decide, by decide⟩ r17.a16 (r17.p16 _) (by omega) (by decide) (tbd tv_X12_hand rfl) (fun u18 r18 h18 => ?_)
      refine G.go tv_X12_hand 2 176 [(0, .ref (gAd E (56))), (1, .int (nI t)), (2, .ref (gAd E (81))), (3, .int (nI (a))), (4, .int (nI k))] [.ref (gAd E (56)), .ref (gAd E (56))] rfl ?_
      refine G.rg r18 hE 19 (.long (rWh R)) (by decide) rfl (tbd tv_X12_hand rfl) w_2084 ?_
      refine G.go tv_X12_hand 2 181 [(0, .ref (gAd E (56))), (1, .int (nI t)), (2, .ref (gAd E (81))), (3, .int (nI (a))), (4, .int (nI k))] [.long ((rWh R) + ((1 : Int64))), .ref (gAd E (56))] rfl ?_
      refine G.rp r18 hE 19 (setWh (setLW (setA (setA (R) 15 (upd (rA R 15) (k) (nI t))) 39 (upd (rA R 39) (t) (nI k))) (vp_updL (rLW R) (k) (rWh R))) ((rWh R) + ((1 : Int64)))) rfl rfl (by decide) rfl rfl rfl (tbd tv_X12_hand rfl) w_2084 (fun u19 r19 h19 => ?_)
      refine G.go tv_X12_hand 3 187 [(0, .ref (gAd E (56))), (1, .int (nI t)), (2, .ref (gAd E (81))), (3, .int (nI (a))), (4, .int (nI k))] [.ref (gAd E (56)), .int (nI (a)), .ref (gAd E (81))] rfl ?_
      refine G.rg r19 hE 17 (.ref (gAd E (63))) (by decide) rfl (tbd tv_X12_hand rfl) w_2082 ?_
      refine G.go tv_X12_hand 3 196 [(0, .ref (gAd E (56))), (1, .int (nI t)), (2, .ref (gAd E (81))), (3, .int (nI (a))), (4, .int (nI k))] [.int (((128 : Int32)) * (nI k)), .ref (gAd E (63)), .int (nI (a)), .ref (gAd E (81))] rfl ?_
      refine G.eqs [.int (nI (128 * (k))), .ref (gAd E (63)), .int (nI (a)), .ref (gAd E (81))] (by rw [show (128 : Int32) = nI 128 from rfl, pk_mul]) ?_
      refine G.callS [.ref (gAd E (81)), .int (nI (a)), .ref (gAd E (63)), .int (nI (128 * (k)))] [] (c_X12_move E _ 81 5120 63 8192 (rA R 46) (rA R 17) (a) (128 * (k)) (by omega) (by omega) (by decide) r19.a46 (by decide) (by decide) (by omega) (by omega) hby r19.a17) cw_X12_190 w_2307 (Nat.le_of_ble_eq_true rfl) rfl (Nat.le_of_ble_eq_true rfl) (tbd tv_X12_hand rfl) (fun v2 f2 q2 => ?_) (fun _ _ h => h.elim)
      obtain ⟨rfl, ea2⟩ := q2
      refine G.eqs [] rfl ?_
      have ra2 : RfV E f2 (setA (setWh (setLW (setA (setA (R) 15 (upd (rA R 15) (k) (nI t))) 39 (upd (rA R 39) (t) (nI k))) (vp_updL (rLW R) (k) (rWh R))) ((rWh R) + ((1 : Int64)))) 17 (va_cpy (rA R 46) (rA R 17) (a) (128 * (k)) 128)) := RfV.ar (r19.p17 _) ea2
      have fa2 : Fr RfK u19 f2 := Fr.ar ⟨by decide, by decide⟩ ea2
      exact G.vret rfl ⟨rfl, by unfold rHand; rw [if_neg c4, if_neg (by rw [hk2]; exact hne), hk2, nI_clamp (by omega)]; exact ra2, (((((fa1).tr h16 (fun _ h => h)).tr h17 (fun _ h => h)).tr h18 (fun _ h => h)).tr h19 (fun _ h => h)).tr fa2 (fun _ h => h)⟩ (tbd tv_X12_hand rfl)
    · skip
      exact G.vret rfl ⟨rfl, by unfold rHand; rw [if_pos c4]; exact r, Fr.rf⟩ (tbd tv_X12_hand rfl)
