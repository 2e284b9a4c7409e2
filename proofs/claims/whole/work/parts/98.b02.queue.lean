/-! ===== the queue: its rows, what rests ===== -/
def quF (C : CfT) (gr : Nat) : Int32 := if cS C 1708 = nI gr then 1 else 0
def tb_X9_isFull : List (Nat × Instr × Nat) := [(0, .aload_n 0, 1), (1, .getfield 50, 3), (4, .aload_n 0, 1), (5, .getfield 27, 3), (8, .arraylength, 1), (9, .if_icmp .ne 7, 3), (12, .iconst 1, 1), (13, .goto 4, 3), (16, .iconst 0, 1), (17, .ireturn, 1)]
theorem tv_X9_isFull : Tv cX9_isFull tb_X9_isFull := by
  unfold Tv
  decide +kernel
theorem w_367 : Cond.fieldLink "LedgerFiles$Queue" 50 "LedgerFiles$Queue" "held" "I" ∈ TB := tp_1 221 (by decide +kernel) rfl
set_option maxRecDepth 100000 in
set_option maxHeartbeats 4000000 in
theorem c_X9_isFull (E : gE) (f : Nat → va_E) (N B gr : Nat) (C : CfT) (hz : CfZ E N B gr) (h : CfV E f N B gr C)  : Ct E 1 yX9_isFull cX9_isFull 1 (some .boolean) [.ref (gAd E (17))] f (fun v g => v = some (.int (quF C gr)) ∧ CfV E g N B gr (C) ∧ Fr CfK f g, fun _ _ => False) := by
  obtain ⟨z1, z2, z3, z4, z5, z6, z7⟩ := id hz
  refine Ct.of (by decide) (Nat.le_of_ble_eq_true rfl) (fun sz => ?_)
  refine G.eql [(0, .ref (gAd E (17)))] rfl ?_
  refine G.go tv_X9_isFull 1 1 [(0, .ref (gAd E (17)))] [.ref (gAd E (17))] rfl ?_
  refine G.getf cls_X9 (17) 8 (by omega) (h.q17) (by decide) rfl (tbd tv_X9_isFull rfl) w_367 ?_
  refine G.go tv_X9_isFull 1 5 [(0, .ref (gAd E (17)))] [.ref (gAd E (17)), .int (cS C 1708)] rfl ?_
  refine G.getf cls_X9 (17) 6 (by omega) (h.q17) (by decide) rfl (tbd tv_X9_isFull rfl) w_365 ?_
  refine G.alen (22) 1 (by omega) (h.q22) rfl rfl (tbd tv_X9_isFull rfl) ?_
  refine G.eqs [.int (nI (gr)), .int (cS C 1708)] rfl ?_
  refine G.cmp_ne 16 (tbd tv_X9_isFull rfl) (by decide) (fun c9 => ?_) (fun c9 => ?_)
  · skip
    refine G.go tv_X9_isFull 1 17 [(0, .ref (gAd E (17)))] [.int ((0 : Int32))] rfl ?_
    exact G.iret rfl rfl (⟨by unfold quF; first | rw [if_neg c9] | rw [if_pos c9], h, Fr.rf⟩) (tbd tv_X9_isFull rfl)
  · skip
    refine G.go tv_X9_isFull 2 17 [(0, .ref (gAd E (17)))] [.int ((1 : Int32))] rfl ?_
    exact G.iret rfl rfl (⟨by unfold quF; first | rw [if_neg c9] | rw [if_pos c9], h, Fr.rf⟩) (tbd tv_X9_isFull rfl)
def tb_X9_restingForNone : List (Nat × Instr × Nat) := [(0, .aload_n 0, 1), (1, .getfield 65, 3), (4, .aload_n 0, 1), (5, .getfield 53, 3), (8, .isub, 1), (9, .ireturn, 1)]
theorem tv_X9_restingForNone : Tv cX9_restingForNone tb_X9_restingForNone := by
  unfold Tv
  decide +kernel
theorem w_372 : Cond.fieldLink "LedgerFiles$Queue" 65 "LedgerFiles$Queue" "restCount" "I" ∈ TB := tp_1 226 (by decide +kernel) rfl
theorem w_374 : Cond.fieldLink "LedgerFiles$Queue" 53 "LedgerFiles$Queue" "restForQueue" "I" ∈ TB := tp_1 228 (by decide +kernel) rfl
set_option maxRecDepth 100000 in
set_option maxHeartbeats 4000000 in
theorem c_X9_restingForNone (E : gE) (f : Nat → va_E) (N B gr : Nat) (C : CfT) (hz : CfZ E N B gr) (h : CfV E f N B gr C)  : Ct E 1 yX9_restingForNone cX9_restingForNone 1 (some .int) [.ref (gAd E (17))] f (fun v g => v = some (.int (cS C 1711 - cS C 1712)) ∧ CfV E g N B gr (C) ∧ Fr CfK f g, fun _ _ => False) := by
  obtain ⟨z1, z2, z3, z4, z5, z6, z7⟩ := id hz
  refine Ct.of (by decide) (Nat.le_of_ble_eq_true rfl) (fun sz => ?_)
  refine G.eql [(0, .ref (gAd E (17)))] rfl ?_
  refine G.go tv_X9_restingForNone 1 1 [(0, .ref (gAd E (17)))] [.ref (gAd E (17))] rfl ?_
  refine G.getf cls_X9 (17) 11 (by omega) (h.q17) (by decide) rfl (tbd tv_X9_restingForNone rfl) w_372 ?_
  refine G.go tv_X9_restingForNone 1 5 [(0, .ref (gAd E (17)))] [.ref (gAd E (17)), .int (cS C 1711)] rfl ?_
  refine G.getf cls_X9 (17) 12 (by omega) (h.q17) (by decide) rfl (tbd tv_X9_restingForNone rfl) w_374 ?_
  refine G.go tv_X9_restingForNone 1 9 [(0, .ref (gAd E (17)))] [.int ((cS C 1711) - (cS C 1712))] rfl ?_
  exact G.iret rfl rfl (⟨rfl, h, Fr.rf⟩) (tbd tv_X9_restingForNone rfl)
def tb_X9_addChange : List (Nat × Instr × Nat) := [(0, .aload_n 0, 1), (1, .getfield 50, 3), (4, .aload_n 0, 1), (5, .getfield 27, 3), (8, .arraylength, 1), (9, .if_icmp .ge 26, 3), (12, .aload_n 0, 1), (13, .getfield 27, 3), (16, .aload_n 0, 1), (17, .getfield 50, 3), (20, .aload_n 0, 1), (21, .getfield 46, 3), (24, .iastore, 1), (25, .aload_n 0, 1), (26, .dup, 1), (27, .getfield 50, 3), (30, .iconst 1, 1), (31, .iadd, 1), (32, .putfield 50, 3), (35, .aload_n 0, 1), (36, .aload_n 0, 1), (37, .getfield 65, 3), (40, .putfield 53, 3), (43, .return_, 1)]
theorem tv_X9_addChange : Tv cX9_addChange tb_X9_addChange := by
  unfold Tv
  decide +kernel
theorem w_366 : Cond.fieldLink "LedgerFiles$Queue" 46 "LedgerFiles$Queue" "used" "I" ∈ TB := tp_1 220 (by decide +kernel) rfl
set_option maxRecDepth 100000 in
set_option maxHeartbeats 4000000 in
theorem c_X9_addChange (E : gE) (f : Nat → va_E) (N B gr : Nat) (C : CfT) (hz : CfZ E N B gr) (h : CfV E f N B gr C) (hd u m : Nat) (hh : cS C 1708 = nI hd) (hu : cS C 1707 = nI u) (hm : cS C 1711 = nI m) (hg : hd < gr) : Ct E 1 yX9_addChange cX9_addChange 1 none [.ref (gAd E (17))] f (fun v g => v = none ∧ CfV E g N B gr (sS (sS (sA C 22 (upd (cA C 22) hd (nI u))) 1708 ((nI hd) + ((1 : Int32)))) 1712 (nI m)) ∧ Fr CfK f g, fun _ _ => False) := by
  obtain ⟨z1, z2, z3, z4, z5, z6, z7⟩ := id hz
  refine Ct.of (by decide) (Nat.le_of_ble_eq_true rfl) (fun sz => ?_)
  refine G.eql [(0, .ref (gAd E (17)))] rfl ?_
  refine G.go tv_X9_addChange 1 1 [(0, .ref (gAd E (17)))] [.ref (gAd E (17))] rfl ?_
  refine G.getf cls_X9 (17) 8 (by omega) (h.q17) (by decide) rfl (tbd tv_X9_addChange rfl) w_367 ?_
  refine G.eqs [.int (nI hd)] (by rw [hh]) ?_
  refine G.go tv_X9_addChange 1 5 [(0, .ref (gAd E (17)))] [.ref (gAd E (17)), .int (nI hd)] rfl ?_
  refine G.getf cls_X9 (17) 6 (by omega) (h.q17) (by decide) rfl (tbd tv_X9_addChange rfl) w_365 ?_
  refine G.alen (22) 1 (by omega) (h.q22) rfl rfl (tbd tv_X9_addChange rfl) ?_
  refine G.eqs [.int (nI (gr)), .int (nI hd)] rfl ?_
  refine G.cmp_ge 35 (tbd tv_X9_addChange rfl) (by decide) (fun c9 => absurd c9 ((nI_ge hg (by omega) : ¬ nI gr ≤ nI hd))) (fun c9 => ?_)
  refine G.go tv_X9_addChange 1 13 [(0, .ref (gAd E (17)))] [.ref (gAd E (17))] rfl ?_
  refine G.getf cls_X9 (17) 6 (by omega) (h.q17) (by decide) rfl (tbd tv_X9_addChange rfl) w_365 ?_
  refine G.go tv_X9_addChange 1 17 [(0, .ref (gAd E (17)))] [.ref (gAd E (17)), .ref (gAd E (22))] rfl ?_
  refine G.getf cls_X9 (17) 8 (by omega) (h.q17) (by decide) rfl (tbd tv_X9_addChange rfl) w_367 ?_
  refine G.eqs [.int (nI hd), .ref (gAd E (22))] (by rw [hh]) ?_
  refine G.go tv_X9_addChange 1 21 [(0, .ref (gAd E (17)))] [.ref (gAd E (17)), .int (nI hd), .ref (gAd E (22))] rfl ?_
  refine G.getf cls_X9 (17) 7 (by omega) (h.q17) (by decide) rfl (tbd tv_X9_addChange rfl) w_366 ?_
  refine G.eqs [.int (nI u), .int (nI hd), .ref (gAd E (22))] (by rw [hu]) ?_
  refine G.iastN (22) (hd) (by omega) (h.q22) (hg) (by omega) (tbd tv_X9_addChange rfl) ?_
  refine G.gen (P := fun w9 => CfV E w9 N B gr (sA (C) 22 (upd (cA C 22) (hd) (nI u))) ∧ Fr CfK f w9) ⟨h.p22 _, Fr.c Fr.rf (by first | exact Or.inl (by decide) | exact Or.inr (by omega))⟩ (fun u1 p1 => ?_)
  obtain ⟨h1, k1⟩ := p1
  refine G.go tv_X9_addChange 2 27 [(0, .ref (gAd E (17)))] [.ref (gAd E (17)), .ref (gAd E (17))] rfl ?_
  refine G.getf cls_X9 (17) 8 (by omega) (h1.q17) (by decide) rfl (tbd tv_X9_addChange rfl) w_367 ?_
  refine G.eqs [.int (cS C 1708), .ref (gAd E (17))] rfl ?_
  refine G.eqs [.int (nI hd), .ref (gAd E (17))] (by rw [hh]) ?_
  refine G.go tv_X9_addChange 2 32 [(0, .ref (gAd E (17)))] [.int ((nI hd) + ((1 : Int32))), .ref (gAd E (17))] rfl ?_
  refine G.putfS cls_X9 (17) 8 [.ref (gAd E 13), .ref (gAd E 18), .ref (gAd E 19), .ref (gAd E 20), .ref (gAd E 21), .int (cS (sA (C) 22 (upd (cA C 22) (hd) (nI u))) 1705), .ref (gAd E 22), .int (cS (sA (C) 22 (upd (cA C 22) (hd) (nI u))) 1707), .int ((nI hd) + ((1 : Int32))), .ref (gAd E 23), .ref (gAd E 24), .int (cS (sA (C) 22 (upd (cA C 22) (hd) (nI u))) 1711), .int (cS (sA (C) 22 (upd (cA C 22) (hd) (nI u))) 1712)] (by omega) (h1.q17) rfl (by decide) rfl rfl rfl (Nat.le_of_ble_eq_true rfl) (tbd tv_X9_addChange rfl) w_367 ?_
  refine G.gen (P := fun w9 => CfV E w9 N B gr (sS (sA (C) 22 (upd (cA C 22) (hd) (nI u))) 1708 ((nI hd) + ((1 : Int32)))) ∧ Fr CfK f w9) ⟨h1.s1708 _, Fr.c k1 (by first | exact Or.inl (by decide) | exact Or.inr (by omega))⟩ (fun u2 p2 => ?_)
  obtain ⟨h2, k2⟩ := p2
  refine G.go tv_X9_addChange 2 37 [(0, .ref (gAd E (17)))] [.ref (gAd E (17)), .ref (gAd E (17))] rfl ?_
  refine G.getf cls_X9 (17) 11 (by omega) (h2.q17) (by decide) rfl (tbd tv_X9_addChange rfl) w_372 ?_
  refine G.eqs [.int (cS C 1711), .ref (gAd E (17))] rfl ?_
  refine G.eqs [.int (nI m), .ref (gAd E (17))] (by rw [hm]) ?_
  refine G.putfS cls_X9 (17) 12 [.ref (gAd E 13), .ref (gAd E 18), .ref (gAd E 19), .ref (gAd E 20), .ref (gAd E 21), .int (cS (sS (sA (C) 22 (upd (cA C 22) (hd) (nI u))) 1708 ((nI hd) + ((1 : Int32)))) 1705), .ref (gAd E 22), .int (cS (sS (sA (C) 22 (upd (cA C 22) (hd) (nI u))) 1708 ((nI hd) + ((1 : Int32)))) 1707), .int (cS (sS (sA (C) 22 (upd (cA C 22) (hd) (nI u))) 1708 ((nI hd) + ((1 : Int32)))) 1708), .ref (gAd E 23), .ref (gAd E 24), .int (cS (sS (sA (C) 22 (upd (cA C 22) (hd) (nI u))) 1708 ((nI hd) + ((1 : Int32)))) 1711), .int (nI m)] (by omega) (h2.q17) rfl (by decide) rfl rfl rfl (Nat.le_of_ble_eq_true rfl) (tbd tv_X9_addChange rfl) w_374 ?_
  refine G.gen (P := fun w9 => CfV E w9 N B gr (sS (sS (sA (C) 22 (upd (cA C 22) (hd) (nI u))) 1708 ((nI hd) + ((1 : Int32)))) 1712 (nI m)) ∧ Fr CfK f w9) ⟨h2.s1712 _, Fr.c k2 (by first | exact Or.inl (by decide) | exact Or.inr (by omega))⟩ (fun u3 p3 => ?_)
  obtain ⟨h3, k3⟩ := p3
  exact G.vret rfl (⟨rfl, h3, k3⟩) (tbd tv_X9_addChange rfl)
def tb_X9_addRest : List (Nat × Instr × Nat) := [(0, .aload_n 0, 1), (1, .getfield 39, 3), (4, .iload_n 1, 1), (5, .baload, 1), (6, .ifCond .ne 42, 3), (9, .aload_n 0, 1), (10, .getfield 65, 3), (13, .aload_n 0, 1), (14, .getfield 43, 3), (17, .arraylength, 1), (18, .if_icmp .ge 30, 3), (21, .aload_n 0, 1), (22, .getfield 39, 3), (25, .iload_n 1, 1), (26, .iconst 1, 1), (27, .bastore, 1), (28, .aload_n 0, 1), (29, .getfield 43, 3), (32, .aload_n 0, 1), (33, .getfield 65, 3), (36, .iload_n 1, 1), (37, .iastore, 1), (38, .aload_n 0, 1), (39, .dup, 1), (40, .getfield 65, 3), (43, .iconst 1, 1), (44, .iadd, 1), (45, .putfield 65, 3), (48, .return_, 1)]
theorem tv_X9_addRest : Tv cX9_addRest tb_X9_addRest := by
  unfold Tv
  decide +kernel
set_option maxRecDepth 100000 in
set_option maxHeartbeats 4000000 in
theorem c_X9_addRest (E : gE) (f : Nat → va_E) (N B gr : Nat) (C : CfT) (hz : CfZ E N B gr) (h : CfV E f N B gr C) (t m : Nat) (ht : t < N) (hm : cS C 1711 = nI m) (hmN : m < N) (hr : cA C 23 t = 0) : Ct E 1 yX9_addRest cX9_addRest 2 none [.ref (gAd E (17)), .int (nI t)] f (fun v g => v = none ∧ CfV E g N B gr (sS (sA (sA C 23 (upd (cA C 23) t (vp_nar .boolean ((1 : Int32))))) 24 (upd (cA C 24) m (nI t))) 1711 ((nI m) + ((1 : Int32)))) ∧ Fr CfK f g, fun _ _ => False) := by
  obtain ⟨z1, z2, z3, z4, z5, z6, z7⟩ := id hz
  refine Ct.of (by decide) (Nat.le_of_ble_eq_true rfl) (fun sz => ?_)
  refine G.eql [(0, .ref (gAd E (17))), (1, .int (nI t))] rfl ?_
  refine G.go tv_X9_addRest 1 1 [(0, .ref (gAd E (17))), (1, .int (nI t))] [.ref (gAd E (17))] rfl ?_
  refine G.getf cls_X9 (17) 9 (by omega) (h.q17) (by decide) rfl (tbd tv_X9_addRest rfl) w_369 ?_
  refine G.go tv_X9_addRest 1 5 [(0, .ref (gAd E (17))), (1, .int (nI t))] [.int (nI t), .ref (gAd E (23))] rfl ?_
  refine G.zaldN (23) (t) (by omega) (h.q23) (ht) (by omega) (tbd tv_X9_addRest rfl) ?_
  refine G.if_ne 48 (tbd tv_X9_addRest rfl) (by decide) (fun c6 => absurd (hr) c6) (fun c6 => ?_)
  refine G.go tv_X9_addRest 1 10 [(0, .ref (gAd E (17))), (1, .int (nI t))] [.ref (gAd E (17))] rfl ?_
  refine G.getf cls_X9 (17) 11 (by omega) (h.q17) (by decide) rfl (tbd tv_X9_addRest rfl) w_372 ?_
  refine G.eqs [.int (nI m)] (by rw [hm]) ?_
  refine G.go tv_X9_addRest 1 14 [(0, .ref (gAd E (17))), (1, .int (nI t))] [.ref (gAd E (17)), .int (nI m)] rfl ?_
  refine G.getf cls_X9 (17) 10 (by omega) (h.q17) (by decide) rfl (tbd tv_X9_addRest rfl) w_371 ?_
  refine G.alen (24) 1 (by omega) (h.q24) rfl rfl (tbd tv_X9_addRest rfl) ?_
  refine G.eqs [.int (nI (N)), .int (nI m)] rfl ?_
  refine G.cmp_ge 48 (tbd tv_X9_addRest rfl) (by decide) (fun c18 => absurd c18 ((nI_ge hmN (by omega) : ¬ nI N ≤ nI m))) (fun c18 => ?_)
  refine G.go tv_X9_addRest 1 22 [(0, .ref (gAd E (17))), (1, .int (nI t))] [.ref (gAd E (17))] rfl ?_
  refine G.getf cls_X9 (17) 9 (by omega) (h.q17) (by decide) rfl (tbd tv_X9_addRest rfl) w_369 ?_
  refine G.go tv_X9_addRest 2 27 [(0, .ref (gAd E (17))), (1, .int (nI t))] [.int ((1 : Int32)), .int (nI t), .ref (gAd E (23))] rfl ?_
  refine G.zastN (23) (t) (by omega) (h.q23) (ht) (by omega) (tbd tv_X9_addRest rfl) ?_
  refine G.gen (P := fun w9 => CfV E w9 N B gr (sA (C) 23 (upd (cA C 23) (t) (vp_nar .boolean ((1 : Int32))))) ∧ Fr CfK f w9) ⟨h.p23 _, Fr.c Fr.rf (by first | exact Or.inl (by decide) | exact Or.inr (by omega))⟩ (fun u4 p4 => ?_)
  obtain ⟨h4, k4⟩ := p4
  refine G.go tv_X9_addRest 1 29 [(0, .ref (gAd E (17))), (1, .int (nI t))] [.ref (gAd E (17))] rfl ?_
  refine G.getf cls_X9 (17) 10 (by omega) (h4.q17) (by decide) rfl (tbd tv_X9_addRest rfl) w_371 ?_
  refine G.go tv_X9_addRest 1 33 [(0, .ref (gAd E (17))), (1, .int (nI t))] [.ref (gAd E (17)), .ref (gAd E (24))] rfl ?_
  refine G.getf cls_X9 (17) 11 (by omega) (h4.q17) (by decide) rfl (tbd tv_X9_addRest rfl) w_372 ?_
  refine G.eqs [.int (cS C 1711), .ref (gAd E (24))] rfl ?_
  refine G.eqs [.int (nI m), .ref (gAd E (24))] (by rw [hm]) ?_
  refine G.go tv_X9_addRest 1 37 [(0, .ref (gAd E (17))), (1, .int (nI t))] [.int (nI t), .int (nI m), .ref (gAd E (24))] rfl ?_
  refine G.iastN (24) (m) (by omega) (h4.q24) (hmN) (by omega) (tbd tv_X9_addRest rfl) ?_
  refine G.gen (P := fun w9 => CfV E w9 N B gr (sA (sA (C) 23 (upd (cA C 23) (t) (vp_nar .boolean ((1 : Int32))))) 24 (upd (cA C 24) (m) (nI t))) ∧ Fr CfK f w9) ⟨h4.p24 _, Fr.c k4 (by first | exact Or.inl (by decide) | exact Or.inr (by omega))⟩ (fun u5 p5 => ?_)
  obtain ⟨h5, k5⟩ := p5
  refine G.go tv_X9_addRest 2 40 [(0, .ref (gAd E (17))), (1, .int (nI t))] [.ref (gAd E (17)), .ref (gAd E (17))] rfl ?_
  refine G.getf cls_X9 (17) 11 (by omega) (h5.q17) (by decide) rfl (tbd tv_X9_addRest rfl) w_372 ?_
  refine G.eqs [.int (cS C 1711), .ref (gAd E (17))] rfl ?_
  refine G.eqs [.int (nI m), .ref (gAd E (17))] (by rw [hm]) ?_
  refine G.go tv_X9_addRest 2 45 [(0, .ref (gAd E (17))), (1, .int (nI t))] [.int ((nI m) + ((1 : Int32))), .ref (gAd E (17))] rfl ?_
  refine G.putfS cls_X9 (17) 11 [.ref (gAd E 13), .ref (gAd E 18), .ref (gAd E 19), .ref (gAd E 20), .ref (gAd E 21), .int (cS (sA (sA (C) 23 (upd (cA C 23) (t) (vp_nar .boolean ((1 : Int32))))) 24 (upd (cA C 24) (m) (nI t))) 1705), .ref (gAd E 22), .int (cS (sA (sA (C) 23 (upd (cA C 23) (t) (vp_nar .boolean ((1 : Int32))))) 24 (upd (cA C 24) (m) (nI t))) 1707), .int (cS (sA (sA (C) 23 (upd (cA C 23) (t) (vp_nar .boolean ((1 : Int32))))) 24 (upd (cA C 24) (m) (nI t))) 1708), .ref (gAd E 23), .ref (gAd E 24), .int ((nI m) + ((1 : Int32))), .int (cS (sA (sA (C) 23 (upd (cA C 23) (t) (vp_nar .boolean ((1 : Int32))))) 24 (upd (cA C 24) (m) (nI t))) 1712)] (by omega) (h5.q17) rfl (by decide) rfl rfl rfl (Nat.le_of_ble_eq_true rfl) (tbd tv_X9_addRest rfl) w_372 ?_
  refine G.gen (P := fun w9 => CfV E w9 N B gr (sS (sA (sA (C) 23 (upd (cA C 23) (t) (vp_nar .boolean ((1 : Int32))))) 24 (upd (cA C 24) (m) (nI t))) 1711 ((nI m) + ((1 : Int32)))) ∧ Fr CfK f w9) ⟨h5.s1711 _, Fr.c k5 (by first | exact Or.inl (by decide) | exact Or.inr (by omega))⟩ (fun u6 p6 => ?_)
  obtain ⟨h6, k6⟩ := p6
  exact G.vret rfl (⟨rfl, h6, k6⟩) (tbd tv_X9_addRest rfl)
def tb_X9_addBlock : List (Nat × Instr × Nat) := [(0, .aload_n 0, 1), (1, .getfield 46, 3), (4, .aload_n 0, 1), (5, .getfield 21, 3), (8, .arraylength, 1), (9, .if_icmp .ge 51, 3), (12, .aload_n 2, 1), (13, .iconst 0, 1), (14, .aload_n 0, 1), (15, .getfield 21, 3), (18, .aload_n 0, 1), (19, .getfield 46, 3), (22, .aaload, 1), (23, .iconst 0, 1), (24, .sipush 128, 3), (27, .invokestatic 59, 3), (30, .aload_n 0, 1), (31, .getfield 24, 3), (34, .aload_n 0, 1), (35, .getfield 46, 3), (38, .iload_n 1, 1), (39, .iastore, 1), (40, .aload_n 0, 1), (41, .getfield 30, 3), (44, .iload_n 1, 1), (45, .aload_n 0, 1), (46, .getfield 46, 3), (49, .iastore, 1), (50, .aload_n 0, 1), (51, .dup, 1), (52, .getfield 46, 3), (55, .iconst 1, 1), (56, .iadd, 1), (57, .putfield 46, 3), (60, .return_, 1)]
theorem tv_X9_addBlock : Tv cX9_addBlock tb_X9_addBlock := by
  unfold Tv
  decide +kernel
theorem w_1264 : Cond.methodLink "LedgerFiles$Queue" 59 ⟨"java/lang/System", "arraycopy", "(Ljava/lang/Object;ILjava/lang/Object;II)V"⟩ ∈ TB := tp_5 158 (by decide +kernel) rfl
set_option maxRecDepth 100000 in
set_option maxHeartbeats 4000000 in
theorem c_X9_addBlock (E : gE) (f : Nat → va_E) (N B gr : Nat) (C : CfT) (hz : CfZ E N B gr) (h : CfV E f N B gr C) (t u : Nat) (ht : t < N) (hu : cS C 1707 = nI u) (hu2 : u < gr * 40) (hx : Byt (cR C 2 t)) : Ct E 1 yX9_addBlock cX9_addBlock 3 none [.ref (gAd E (17)), .int (nI t), .ref (gAd E (350 + N + (t)))] f (fun v g => v = none ∧ CfV E g N B gr (sS (sA (sA (sR C 4 u (va_cpy (cR C 2 t) (cR C 4 u) 0 0 128)) 19 (upd (cA C 19) u (nI t))) 20 (upd (cA C 20) t (nI u))) 1707 ((nI u) + ((1 : Int32)))) ∧ Fr CfK f g, fun _ _ => False) := by
  obtain ⟨z1, z2, z3, z4, z5, z6, z7⟩ := id hz
  refine Ct.of (by decide) (Nat.le_of_ble_eq_true rfl) (fun sz => ?_)
  refine G.eql [(0, .ref (gAd E (17))), (1, .int (nI t)), (2, .ref (gAd E (350 + N + (t))))] rfl ?_
  refine G.go tv_X9_addBlock 1 1 [(0, .ref (gAd E (17))), (1, .int (nI t)), (2, .ref (gAd E (350 + N + (t))))] [.ref (gAd E (17))] rfl ?_
  refine G.getf cls_X9 (17) 7 (by omega) (h.q17) (by decide) rfl (tbd tv_X9_addBlock rfl) w_366 ?_
  refine G.eqs [.int (nI u)] (by rw [hu]) ?_
  refine G.go tv_X9_addBlock 1 5 [(0, .ref (gAd E (17))), (1, .int (nI t)), (2, .ref (gAd E (350 + N + (t))))] [.ref (gAd E (17)), .int (nI u)] rfl ?_
  refine G.getf cls_X9 (17) 1 (by omega) (h.q17) (by decide) rfl (tbd tv_X9_addBlock rfl) w_354 ?_
  refine G.alen (18) 4 (by omega) (h.q18) rfl rfl (tbd tv_X9_addBlock rfl) ?_
  refine G.eqs [.int (nI (gr * 40)), .int (nI u)] rfl ?_
  refine G.cmp_ge 60 (tbd tv_X9_addBlock rfl) (by decide) (fun c9 => absurd c9 ((nI_ge hu2 (by omega) : ¬ nI (gr * 40) ≤ nI u))) (fun c9 => ?_)
  refine G.go tv_X9_addBlock 3 15 [(0, .ref (gAd E (17))), (1, .int (nI t)), (2, .ref (gAd E (350 + N + (t))))] [.ref (gAd E (17)), .int ((0 : Int32)), .ref (gAd E (350 + N + (t)))] rfl ?_
  refine G.getf cls_X9 (17) 1 (by omega) (h.q17) (by decide) rfl (tbd tv_X9_addBlock rfl) w_354 ?_
  refine G.go tv_X9_addBlock 1 19 [(0, .ref (gAd E (17))), (1, .int (nI t)), (2, .ref (gAd E (350 + N + (t))))] [.ref (gAd E (17)), .ref (gAd E (18)), .int ((0 : Int32)), .ref (gAd E (350 + N + (t)))] rfl ?_
  refine G.getf cls_X9 (17) 7 (by omega) (h.q17) (by decide) rfl (tbd tv_X9_addBlock rfl) w_366 ?_
  refine G.eqs [.int (nI u), .ref (gAd E (18)), .int ((0 : Int32)), .ref (gAd E (350 + N + (t)))] (by rw [hu]) ?_
  refine G.aaldN (18) (u) (by omega) (h.q18) (hu2) (by omega) (tbd tv_X9_addBlock rfl) ?_
  refine G.eqs [.ref (gAd E (350 + 2 * N + B + (u))), .int ((0 : Int32)), .ref (gAd E (350 + N + (t)))] (by rw [rwA_at (hu2)]; rfl) ?_
  refine G.go tv_X9_addBlock 2 27 [(0, .ref (gAd E (17))), (1, .int (nI t)), (2, .ref (gAd E (350 + N + (t))))] [.int ((128 : Int32)), .int ((0 : Int32)), .ref (gAd E (350 + 2 * N + B + (u))), .int ((0 : Int32)), .ref (gAd E (350 + N + (t)))] rfl ?_
  refine G.copyB (350 + N + (t)) (350 + 2 * N + B + (u)) (by omega) (h.r2 (t) (ht)) (by omega) (h.r4 (u) (hu2)) w_1264 w_755 w_754 w_167 (by decide) (by decide) (by decide) (by decide) (by decide) (fun _ _ => hx _) (Nat.le_of_ble_eq_true rfl) (Nat.le_of_ble_eq_true rfl) (tbd tv_X9_addBlock rfl) ?_
  refine G.gen (P := fun w9 => CfV E w9 N B gr (sR (C) 4 (u) (va_cpy (cR C 2 (t)) (cR C 4 (u)) 0 0 128)) ∧ Fr CfK f w9) ⟨h.w4 (u) (hu2) _, Fr.c Fr.rf (by first | exact Or.inl (by decide) | exact Or.inr (by omega))⟩ (fun u7 p7 => ?_)
  obtain ⟨h7, k7⟩ := p7
  refine G.go tv_X9_addBlock 1 31 [(0, .ref (gAd E (17))), (1, .int (nI t)), (2, .ref (gAd E (350 + N + (t))))] [.ref (gAd E (17))] rfl ?_
  refine G.getf cls_X9 (17) 2 (by omega) (h7.q17) (by decide) rfl (tbd tv_X9_addBlock rfl) w_357 ?_
  refine G.go tv_X9_addBlock 1 35 [(0, .ref (gAd E (17))), (1, .int (nI t)), (2, .ref (gAd E (350 + N + (t))))] [.ref (gAd E (17)), .ref (gAd E (19))] rfl ?_
  refine G.getf cls_X9 (17) 7 (by omega) (h7.q17) (by decide) rfl (tbd tv_X9_addBlock rfl) w_366 ?_
  refine G.eqs [.int (cS C 1707), .ref (gAd E (19))] rfl ?_
  refine G.eqs [.int (nI u), .ref (gAd E (19))] (by rw [hu]) ?_
  refine G.go tv_X9_addBlock 1 39 [(0, .ref (gAd E (17))), (1, .int (nI t)), (2, .ref (gAd E (350 + N + (t))))] [.int (nI t), .int (nI u), .ref (gAd E (19))] rfl ?_
  refine G.iastN (19) (u) (by omega) (h7.q19) (hu2) (by omega) (tbd tv_X9_addBlock rfl) ?_
  refine G.gen (P := fun w9 => CfV E w9 N B gr (sA (sR (C) 4 (u) (va_cpy (cR C 2 (t)) (cR C 4 (u)) 0 0 128)) 19 (upd (cA C 19) (u) (nI t))) ∧ Fr CfK f w9) ⟨h7.p19 _, Fr.c k7 (by first | exact Or.inl (by decide) | exact Or.inr (by omega))⟩ (fun u8 p8 => ?_)
  obtain ⟨h8, k8⟩ := p8
  refine G.go tv_X9_addBlock 1 41 [(0, .ref (gAd E (17))), (1, .int (nI t)), (2, .ref (gAd E (350 + N + (t))))] [.ref (gAd E (17))] rfl ?_
  refine G.getf cls_X9 (17) 3 (by omega) (h8.q17) (by decide) rfl (tbd tv_X9_addBlock rfl) w_359 ?_
  refine G.go tv_X9_addBlock 2 46 [(0, .ref (gAd E (17))), (1, .int (nI t)), (2, .ref (gAd E (350 + N + (t))))] [.ref (gAd E (17)), .int (nI t), .ref (gAd E (20))] rfl ?_
  refine G.getf cls_X9 (17) 7 (by omega) (h8.q17) (by decide) rfl (tbd tv_X9_addBlock rfl) w_366 ?_
  refine G.eqs [.int (cS C 1707), .int (nI t), .ref (gAd E (20))] rfl ?_
  refine G.eqs [.int (nI u), .int (nI t), .ref (gAd E (20))] (by rw [hu]) ?_
  refine G.iastN (20) (t) (by omega) (h8.q20) (ht) (by omega) (tbd tv_X9_addBlock rfl) ?_
  refine G.gen (P := fun w9 => CfV E w9 N B gr (sA (sA (sR (C) 4 (u) (va_cpy (cR C 2 (t)) (cR C 4 (u)) 0 0 128)) 19 (upd (cA C 19) (u) (nI t))) 20 (upd (cA C 20) (t) (nI u))) ∧ Fr CfK f w9) ⟨h8.p20 _, Fr.c k8 (by first | exact Or.inl (by decide) | exact Or.inr (by omega))⟩ (fun u9 p9 => ?_)
  obtain ⟨h9, k9⟩ := p9
  refine G.go tv_X9_addBlock 2 52 [(0, .ref (gAd E (17))), (1, .int (nI t)), (2, .ref (gAd E (350 + N + (t))))] [.ref (gAd E (17)), .ref (gAd E (17))] rfl ?_
  refine G.getf cls_X9 (17) 7 (by omega) (h9.q17) (by decide) rfl (tbd tv_X9_addBlock rfl) w_366 ?_
  refine G.eqs [.int (cS C 1707), .ref (gAd E (17))] rfl ?_
  refine G.eqs [.int (nI u), .ref (gAd E (17))] (by rw [hu]) ?_
  refine G.go tv_X9_addBlock 2 57 [(0, .ref (gAd E (17))), (1, .int (nI t)), (2, .ref (gAd E (350 + N + (t))))] [.int ((nI u) + ((1 : Int32))), .ref (gAd E (17))] rfl ?_
  refine G.putfS cls_X9 (17) 7 [.ref (gAd E 13), .ref (gAd E 18), .ref (gAd E 19), .ref (gAd E 20), .ref (gAd E 21), .int (cS (sA (sA (sR (C) 4 (u) (va_cpy (cR C 2 (t)) (cR C 4 (u)) 0 0 128)) 19 (upd (cA C 19) (u) (nI t))) 20 (upd (cA C 20) (t) (nI u))) 1705), .ref (gAd E 22), .int ((nI u) + ((1 : Int32))), .int (cS (sA (sA (sR (C) 4 (u) (va_cpy (cR C 2 (t)) (cR C 4 (u)) 0 0 128)) 19 (upd (cA C 19) (u) (nI t))) 20 (upd (cA C 20) (t) (nI u))) 1708), .ref (gAd E 23), .ref (gAd E 24), .int (cS (sA (sA (sR (C) 4 (u) (va_cpy (cR C 2 (t)) (cR C 4 (u)) 0 0 128)) 19 (upd (cA C 19) (u) (nI t))) 20 (upd (cA C 20) (t) (nI u))) 1711), .int (cS (sA (sA (sR (C) 4 (u) (va_cpy (cR C 2 (t)) (cR C 4 (u)) 0 0 128)) 19 (upd (cA C 19) (u) (nI t))) 20 (upd (cA C 20) (t) (nI u))) 1712)] (by omega) (h9.q17) rfl (by decide) rfl rfl rfl (Nat.le_of_ble_eq_true rfl) (tbd tv_X9_addBlock rfl) w_366 ?_
  refine G.gen (P := fun w9 => CfV E w9 N B gr (sS (sA (sA (sR (C) 4 (u) (va_cpy (cR C 2 (t)) (cR C 4 (u)) 0 0 128)) 19 (upd (cA C 19) (u) (nI t))) 20 (upd (cA C 20) (t) (nI u))) 1707 ((nI u) + ((1 : Int32)))) ∧ Fr CfK f w9) ⟨h9.s1707 _, Fr.c k9 (by first | exact Or.inl (by decide) | exact Or.inr (by omega))⟩ (fun u10 p10 => ?_)
  obtain ⟨h10, k10⟩ := p10
  exact G.vret rfl (⟨rfl, h10, k10⟩) (tbd tv_X9_addBlock rfl)
/-- those that rest from place p on, k of them, wake -/
def wkR (rs rg : Nat → Int32) (p : Nat) : Nat → Nat → Int32
  | 0 => rs
  | k + 1 => upd (wkR rs rg p k) (rg (p + k)).toNatClampNeg (vp_nar .boolean ((0 : Int32)))
def tb_X9_wakeForNone : List (Nat × Instr × Nat) := [(0, .aload_n 0, 1), (1, .getfield 53, 3), (4, .istore_n 1, 1), (5, .iload_n 1, 1), (6, .aload_n 0, 1), (7, .getfield 65, 3), (10, .if_icmp .ge 21, 3), (13, .aload_n 0, 1), (14, .getfield 39, 3), (17, .aload_n 0, 1), (18, .getfield 43, 3), (21, .iload_n 1, 1), (22, .iaload, 1), (23, .iconst 0, 1), (24, .bastore, 1), (25, .iinc 1 1, 3), (28, .goto (-23), 3), (31, .aload_n 0, 1), (32, .aload_n 0, 1), (33, .getfield 53, 3), (36, .putfield 65, 3), (39, .return_, 1)]
theorem tv_X9_wakeForNone : Tv cX9_wakeForNone tb_X9_wakeForNone := by
  unfold Tv
  decide +kernel
set_option maxRecDepth 100000 in
set_option maxHeartbeats 4000000 in
theorem wn_l (E : gE) (f0 : Nat → va_E) (sz : Nat) (A : Nat → Prop) (Q : gQ) (N B gr : Nat) (C : CfT) (hz : CfZ E N B gr) (q m : Nat) (hq : cS C 1712 = nI q) (hm : cS C 1711 = nI m) (hqm : q ≤ m) (hmN : m ≤ N) (hr : ∀ i, i < m → ∃ t, t < N ∧ cA C 24 i = nI t) (kq : ∀ g, CfV E g N B gr (sA C 23 (wkR (cA C 23) (cA C 24) (q) (m - q))) → Fr CfK f0 g → G E (1, yX9_wakeForNone, 2, none, sz, A) cX9_wakeForNone (gO E (1, yX9_wakeForNone, 2, none, sz, A) Q) 31 [(0, .ref (gAd E (17))), (1, .int (nI (q + (m - q))))] [] g) : ∀ (d j : Nat), j + d = m - q → ∀ f, CfV E f N B gr (sA C 23 (wkR (cA C 23) (cA C 24) (q) (j))) → Fr CfK f0 f → G E (1, yX9_wakeForNone, 2, none, sz, A) cX9_wakeForNone (gO E (1, yX9_wakeForNone, 2, none, sz, A) Q) 5 [(0, .ref (gAd E (17))), (1, .int (nI (q + (j))))] [] f := by
  obtain ⟨z1, z2, z3, z4, z5, z6, z7⟩ := id hz
  intro d
  induction d with
  | zero =>
    intro j e f h hf
    have e : j = m - q := e
    refine G.go tv_X9_wakeForNone 2 7 [(0, .ref (gAd E (17))), (1, .int (nI (q + (j))))] [.ref (gAd E (17)), .int (nI (q + (j)))] rfl ?_
    refine G.getf cls_X9 (17) 11 (by omega) (h.q17) (by decide) rfl (tbd tv_X9_wakeForNone rfl) w_372 ?_
    refine G.eqs [.int (cS C 1711), .int (nI (q + (j)))] rfl ?_
    refine G.eqs [.int (nI m), .int (nI (q + (j)))] (by rw [hm]) ?_
    refine G.cmp_ge 31 (tbd tv_X9_wakeForNone rfl) (by decide) (fun c10 => ?_) (fun c10 => absurd (by rw [show q + j = m from by omega]; exact (nI_le (Nat.le_refl _) (by omega))) c10)
    refine G.eql [(0, .ref (gAd E (17))), (1, .int (nI (q + (m - q))))] (by rw [e]) ?_
    exact kq _ (by have q9 := h; first | (rw [e] at q9; exact q9) | exact q9) (hf)
  | succ d ih =>
    intro j e f h hf
    obtain ⟨t9, ht9, het⟩ := hr (q + j) (by omega)
    refine G.go tv_X9_wakeForNone 2 7 [(0, .ref (gAd E (17))), (1, .int (nI (q + (j))))] [.ref (gAd E (17)), .int (nI (q + (j)))] rfl ?_
    refine G.getf cls_X9 (17) 11 (by omega) (h.q17) (by decide) rfl (tbd tv_X9_wakeForNone rfl) w_372 ?_
    refine G.eqs [.int (cS C 1711), .int (nI (q + (j)))] rfl ?_
    refine G.eqs [.int (nI m), .int (nI (q + (j)))] (by rw [hm]) ?_
    refine G.cmp_ge 31 (tbd tv_X9_wakeForNone rfl) (by decide) (fun c10 => absurd c10 ((nI_ge (by omega) (by omega)))) (fun c10 => ?_)
    refine G.go tv_X9_wakeForNone 1 14 [(0, .ref (gAd E (17))), (1, .int (nI (q + (j))))] [.ref (gAd E (17))] rfl ?_
    refine G.getf cls_X9 (17) 9 (by omega) (h.q17) (by decide) rfl (tbd tv_X9_wakeForNone rfl) w_369 ?_
    refine G.go tv_X9_wakeForNone 1 18 [(0, .ref (gAd E (17))), (1, .int (nI (q + (j))))] [.ref (gAd E (17)), .ref (gAd E (23))] rfl ?_
    refine G.getf cls_X9 (17) 10 (by omega) (h.q17) (by decide) rfl (tbd tv_X9_wakeForNone rfl) w_371 ?_
    refine G.go tv_X9_wakeForNone 1 22 [(0, .ref (gAd E (17))), (1, .int (nI (q + (j))))] [.int (nI (q + (j))), .ref (gAd E (24)), .ref (gAd E (23))] rfl ?_
    refine G.ialdN (24) (q + j) (by omega) (h.q24) (by omega) (by omega) (tbd tv_X9_wakeForNone rfl) ?_
    refine G.eqs [.int ((cA C 24) (q + j)), .ref (gAd E (23))] rfl ?_
    refine G.eqs [.int (nI t9), .ref (gAd E (23))] (by rw [het]) ?_
    refine G.go tv_X9_wakeForNone 1 24 [(0, .ref (gAd E (17))), (1, .int (nI (q + (j))))] [.int ((0 : Int32)), .int (nI t9), .ref (gAd E (23))] rfl ?_
    refine G.zastN (23) (t9) (by omega) (h.q23) (ht9) (by omega) (tbd tv_X9_wakeForNone rfl) ?_
    refine G.gen (P := fun w9 => CfV E w9 N B gr (sA (sA C 23 (wkR (cA C 23) (cA C 24) (q) (j))) 23 (upd (wkR (cA C 23) (cA C 24) (q) (j)) (t9) (vp_nar .boolean ((0 : Int32))))) ∧ Fr CfK f0 w9) ⟨h.p23 _, Fr.c hf (by first | exact Or.inl (by decide) | exact Or.inr (by omega))⟩ (fun u11 p11 => ?_)
    obtain ⟨h11, k11⟩ := p11
    refine G.go tv_X9_wakeForNone 2 5 [(0, .ref (gAd E (17))), (1, .int (nI (q + (j)) + (1 : Int32)))] [] rfl ?_
    refine G.eql [(0, .ref (gAd E (17))), (1, .int (nI (q + (j + 1))))] (by rw [nI_1] <;> rfl) ?_
    exact ih (j + 1) (by omega) _ (by have q9 := h11; rw [show wkR (cA C 23) (cA C 24) (q) (j + 1) = upd (wkR (cA C 23) (cA C 24) (q) j) t9 (vp_nar .boolean ((0 : Int32))) from by show upd _ (cA C 24 (q + j)).toNatClampNeg _ = _; rw [het, nI_clamp (by omega)]]; exact q9) (k11)
set_option maxRecDepth 100000 in
set_option maxHeartbeats 4000000 in
theorem c_X9_wakeForNone (E : gE) (f : Nat → va_E) (N B gr : Nat) (C : CfT) (hz : CfZ E N B gr) (h : CfV E f N B gr C) (q m : Nat) (hq : cS C 1712 = nI q) (hm : cS C 1711 = nI m) (hqm : q ≤ m) (hmN : m ≤ N) (hr : ∀ i, i < m → ∃ t, t < N ∧ cA C 24 i = nI t) : Ct E 1 yX9_wakeForNone cX9_wakeForNone 2 none [.ref (gAd E (17))] f (fun v g => v = none ∧ CfV E g N B gr (sS (sA C 23 (wkR (cA C 23) (cA C 24) q (m - q))) 1711 (nI q)) ∧ Fr CfK f g, fun _ _ => False) := by
  obtain ⟨z1, z2, z3, z4, z5, z6, z7⟩ := id hz
  refine Ct.of (by decide) (Nat.le_of_ble_eq_true rfl) (fun sz => ?_)
  refine G.eql [(0, .ref (gAd E (17)))] rfl ?_
  refine G.go tv_X9_wakeForNone 1 1 [(0, .ref (gAd E (17)))] [.ref (gAd E (17))] rfl ?_
  refine G.getf cls_X9 (17) 12 (by omega) (h.q17) (by decide) rfl (tbd tv_X9_wakeForNone rfl) w_374 ?_
  refine G.eqs [.int (nI q)] (by rw [hq]) ?_
  refine G.go tv_X9_wakeForNone 1 5 [(0, .ref (gAd E (17))), (1, .int (nI q))] [] rfl ?_
  refine G.eql [(0, .ref (gAd E (17))), (1, .int (nI (q + (0))))] rfl ?_
  refine wn_l E f _ _ _ N B gr C hz q m hq hm hqm hmN hr (fun g h1 hf1 => ?_) (m - q) 0 (by omega) _ (show CfV E _ N B gr (sA C 23 (wkR (cA C 23) (cA C 24) q 0)) from by rw [show sA C 23 (wkR (cA C 23) (cA C 24) q 0) = C from sA_id]; exact h) Fr.rf
  refine G.go tv_X9_wakeForNone 2 33 [(0, .ref (gAd E (17))), (1, .int (nI (q + (m - q))))] [.ref (gAd E (17)), .ref (gAd E (17))] rfl ?_
  refine G.getf cls_X9 (17) 12 (by omega) (h1.q17) (by decide) rfl (tbd tv_X9_wakeForNone rfl) w_374 ?_
  refine G.eqs [.int (cS C 1712), .ref (gAd E (17))] rfl ?_
  refine G.eqs [.int (nI q), .ref (gAd E (17))] (by rw [hq]) ?_
  refine G.putfS cls_X9 (17) 11 [.ref (gAd E 13), .ref (gAd E 18), .ref (gAd E 19), .ref (gAd E 20), .ref (gAd E 21), .int (cS (sA C 23 (wkR (cA C 23) (cA C 24) q (m - q))) 1705), .ref (gAd E 22), .int (cS (sA C 23 (wkR (cA C 23) (cA C 24) q (m - q))) 1707), .int (cS (sA C 23 (wkR (cA C 23) (cA C 24) q (m - q))) 1708), .ref (gAd E 23), .ref (gAd E 24), .int (nI q), .int (cS (sA C 23 (wkR (cA C 23) (cA C 24) q (m - q))) 1712)] (by omega) (h1.q17) rfl (by decide) rfl rfl rfl (Nat.le_of_ble_eq_true rfl) (tbd tv_X9_wakeForNone rfl) w_372 ?_
  refine G.gen (P := fun w9 => CfV E w9 N B gr (sS (sA C 23 (wkR (cA C 23) (cA C 24) q (m - q))) 1711 (nI q)) ∧ Fr CfK f w9) ⟨h1.s1711 _, Fr.c hf1 (by first | exact Or.inl (by decide) | exact Or.inr (by omega))⟩ (fun u12 p12 => ?_)
  obtain ⟨h12, k12⟩ := p12
  exact G.vret rfl (⟨rfl, h12, k12⟩) (tbd tv_X9_wakeForNone rfl)
def tb_X9_wakeForQueue : List (Nat × Instr × Nat) := [(0, .iconst 0, 1), (1, .istore_n 1, 1), (2, .iload_n 1, 1), (3, .aload_n 0, 1), (4, .getfield 53, 3), (7, .if_icmp .ge 21, 3), (10, .aload_n 0, 1), (11, .getfield 39, 3), (14, .aload_n 0, 1), (15, .getfield 43, 3), (18, .iload_n 1, 1), (19, .iaload, 1), (20, .iconst 0, 1), (21, .bastore, 1), (22, .iinc 1 1, 3), (25, .goto (-23), 3), (28, .aload_n 0, 1), (29, .getfield 43, 3), (32, .aload_n 0, 1), (33, .getfield 53, 3), (36, .aload_n 0, 1), (37, .getfield 43, 3), (40, .iconst 0, 1), (41, .aload_n 0, 1), (42, .getfield 65, 3), (45, .aload_n 0, 1), (46, .getfield 53, 3), (49, .isub, 1), (50, .invokestatic 59, 3), (53, .aload_n 0, 1), (54, .dup, 1), (55, .getfield 65, 3), (58, .aload_n 0, 1), (59, .getfield 53, 3), (62, .isub, 1), (63, .putfield 65, 3), (66, .aload_n 0, 1), (67, .iconst 0, 1), (68, .putfield 53, 3), (71, .return_, 1)]
theorem tv_X9_wakeForQueue : Tv cX9_wakeForQueue tb_X9_wakeForQueue := by
  unfold Tv
  decide +kernel
set_option maxRecDepth 100000 in
set_option maxHeartbeats 4000000 in
theorem wq_l (E : gE) (f0 : Nat → va_E) (sz : Nat) (A : Nat → Prop) (Q : gQ) (N B gr : Nat) (C : CfT) (hz : CfZ E N B gr) (q m : Nat) (hq : cS C 1712 = nI q) (hm : cS C 1711 = nI m) (hqm : q ≤ m) (hmN : m ≤ N) (hr : ∀ i, i < m → ∃ t, t < N ∧ cA C 24 i = nI t) (kq : ∀ g, CfV E g N B gr (sA C 23 (wkR (cA C 23) (cA C 24) (0) (q))) → Fr CfK f0 g → G E (1, yX9_wakeForQueue, 2, none, sz, A) cX9_wakeForQueue (gO E (1, yX9_wakeForQueue, 2, none, sz, A) Q) 28 [(0, .ref (gAd E (17))), (1, .int (nI (q)))] [] g) : ∀ (d j : Nat), j + d = q → ∀ f, CfV E f N B gr (sA C 23 (wkR (cA C 23) (cA C 24) (0) (j))) → Fr CfK f0 f → G E (1, yX9_wakeForQueue, 2, none, sz, A) cX9_wakeForQueue (gO E (1, yX9_wakeForQueue, 2, none, sz, A) Q) 2 [(0, .ref (gAd E (17))), (1, .int (nI (j)))] [] f := by
  obtain ⟨z1, z2, z3, z4, z5, z6, z7⟩ := id hz
  intro d
  induction d with
  | zero =>
    intro j e f h hf
    have e : j = q := e
    refine G.go tv_X9_wakeForQueue 2 4 [(0, .ref (gAd E (17))), (1, .int (nI (j)))] [.ref (gAd E (17)), .int (nI (j))] rfl ?_
    refine G.getf cls_X9 (17) 12 (by omega) (h.q17) (by decide) rfl (tbd tv_X9_wakeForQueue rfl) w_374 ?_
    refine G.eqs [.int (cS C 1712), .int (nI (j))] rfl ?_
    refine G.eqs [.int (nI q), .int (nI (j))] (by rw [hq]) ?_
    refine G.cmp_ge 28 (tbd tv_X9_wakeForQueue rfl) (by decide) (fun c7 => ?_) (fun c7 => absurd (by rw [e]; exact (nI_le (Nat.le_refl _) (by omega))) c7)
    refine G.eql [(0, .ref (gAd E (17))), (1, .int (nI (q)))] (by rw [e]) ?_
    exact kq _ (by have q9 := h; first | (rw [e] at q9; exact q9) | exact q9) (hf)
  | succ d ih =>
    intro j e f h hf
    obtain ⟨t9, ht9, het⟩ := hr j (by omega)
    refine G.go tv_X9_wakeForQueue 2 4 [(0, .ref (gAd E (17))), (1, .int (nI (j)))] [.ref (gAd E (17)), .int (nI (j))] rfl ?_
    refine G.getf cls_X9 (17) 12 (by omega) (h.q17) (by decide) rfl (tbd tv_X9_wakeForQueue rfl) w_374 ?_
    refine G.eqs [.int (cS C 1712), .int (nI (j))] rfl ?_
    refine G.eqs [.int (nI q), .int (nI (j))] (by rw [hq]) ?_
    refine G.cmp_ge 28 (tbd tv_X9_wakeForQueue rfl) (by decide) (fun c7 => absurd c7 ((nI_ge (by omega) (by omega)))) (fun c7 => ?_)
    refine G.go tv_X9_wakeForQueue 1 11 [(0, .ref (gAd E (17))), (1, .int (nI (j)))] [.ref (gAd E (17))] rfl ?_
    refine G.getf cls_X9 (17) 9 (by omega) (h.q17) (by decide) rfl (tbd tv_X9_wakeForQueue rfl) w_369 ?_
    refine G.go tv_X9_wakeForQueue 1 15 [(0, .ref (gAd E (17))), (1, .int (nI (j)))] [.ref (gAd E (17)), .ref (gAd E (23))] rfl ?_
    refine G.getf cls_X9 (17) 10 (by omega) (h.q17) (by decide) rfl (tbd tv_X9_wakeForQueue rfl) w_371 ?_
    refine G.go tv_X9_wakeForQueue 1 19 [(0, .ref (gAd E (17))), (1, .int (nI (j)))] [.int (nI (j)), .ref (gAd E (24)), .ref (gAd E (23))] rfl ?_
    refine G.ialdN (24) (j) (by omega) (h.q24) (by omega) (by omega) (tbd tv_X9_wakeForQueue rfl) ?_
    refine G.eqs [.int ((cA C 24) (j)), .ref (gAd E (23))] rfl ?_
    refine G.eqs [.int (nI t9), .ref (gAd E (23))] (by rw [het]) ?_
    refine G.go tv_X9_wakeForQueue 1 21 [(0, .ref (gAd E (17))), (1, .int (nI (j)))] [.int ((0 : Int32)), .int (nI t9), .ref (gAd E (23))] rfl ?_
    refine G.zastN (23) (t9) (by omega) (h.q23) (ht9) (by omega) (tbd tv_X9_wakeForQueue rfl) ?_
    refine G.gen (P := fun w9 => CfV E w9 N B gr (sA (sA C 23 (wkR (cA C 23) (cA C 24) (0) (j))) 23 (upd (wkR (cA C 23) (cA C 24) (0) (j)) (t9) (vp_nar .boolean ((0 : Int32))))) ∧ Fr CfK f0 w9) ⟨h.p23 _, Fr.c hf (by first | exact Or.inl (by decide) | exact Or.inr (by omega))⟩ (fun u13 p13 => ?_)
    obtain ⟨h13, k13⟩ := p13
    refine G.go tv_X9_wakeForQueue 2 2 [(0, .ref (gAd E (17))), (1, .int (nI (j) + (1 : Int32)))] [] rfl ?_
    refine G.eql [(0, .ref (gAd E (17))), (1, .int (nI (j + 1)))] (by rw [nI_1] <;> rfl) ?_
    exact ih (j + 1) (by omega) _ (by have q9 := h13; rw [show wkR (cA C 23) (cA C 24) (0) (j + 1) = upd (wkR (cA C 23) (cA C 24) (0) j) t9 (vp_nar .boolean ((0 : Int32))) from by show upd _ (cA C 24 (0 + j)).toNatClampNeg _ = _; rw [Nat.zero_add, het, nI_clamp (by omega)]]; exact q9) (k13)
set_option maxRecDepth 100000 in
set_option maxHeartbeats 4000000 in
theorem c_X9_wakeForQueue (E : gE) (f : Nat → va_E) (N B gr : Nat) (C : CfT) (hz : CfZ E N B gr) (h : CfV E f N B gr C) (q m : Nat) (hq : cS C 1712 = nI q) (hm : cS C 1711 = nI m) (hqm : q ≤ m) (hmN : m ≤ N) (hr : ∀ i, i < m → ∃ t, t < N ∧ cA C 24 i = nI t) : Ct E 1 yX9_wakeForQueue cX9_wakeForQueue 2 none [.ref (gAd E (17))] f (fun v g => v = none ∧ CfV E g N B gr (sS (sS (sA (sA C 23 (wkR (cA C 23) (cA C 24) 0 q)) 24 (va_cpy (cA C 24) (cA C 24) q 0 (m - q))) 1711 ((nI m) - (nI q))) 1712 ((0 : Int32))) ∧ Fr CfK f g, fun _ _ => False) := by
  obtain ⟨z1, z2, z3, z4, z5, z6, z7⟩ := id hz
  refine Ct.of (by decide) (Nat.le_of_ble_eq_true rfl) (fun sz => ?_)
  refine G.eql [(0, .ref (gAd E (17)))] rfl ?_
  refine G.go tv_X9_wakeForQueue 2 2 [(0, .ref (gAd E (17))), (1, .int ((0 : Int32)))] [] rfl ?_
  refine G.eql [(0, .ref (gAd E (17))), (1, .int (nI (0)))] rfl ?_
  refine wq_l E f _ _ _ N B gr C hz q m hq hm hqm hmN hr (fun g h1 hf1 => ?_) q 0 (by omega) _ (show CfV E _ N B gr (sA C 23 (wkR (cA C 23) (cA C 24) 0 0)) from by rw [show sA C 23 (wkR (cA C 23) (cA C 24) 0 0) = C from sA_id]; exact h) Fr.rf
  refine G.go tv_X9_wakeForQueue 1 29 [(0, .ref (gAd E (17))), (1, .int (nI (q)))] [.ref (gAd E (17))] rfl ?_
  refine G.getf cls_X9 (17) 10 (by omega) (h1.q17) (by decide) rfl (tbd tv_X9_wakeForQueue rfl) w_371 ?_
  refine G.go tv_X9_wakeForQueue 1 33 [(0, .ref (gAd E (17))), (1, .int (nI (q)))] [.ref (gAd E (17)), .ref (gAd E (24))] rfl ?_
  refine G.getf cls_X9 (17) 12 (by omega) (h1.q17) (by decide) rfl (tbd tv_X9_wakeForQueue rfl) w_374 ?_
  refine G.eqs [.int (cS C 1712), .ref (gAd E (24))] rfl ?_
  refine G.eqs [.int (nI q), .ref (gAd E (24))] (by rw [hq]) ?_
  refine G.go tv_X9_wakeForQueue 1 37 [(0, .ref (gAd E (17))), (1, .int (nI (q)))] [.ref (gAd E (17)), .int (nI q), .ref (gAd E (24))] rfl ?_
  refine G.getf cls_X9 (17) 10 (by omega) (h1.q17) (by decide) rfl (tbd tv_X9_wakeForQueue rfl) w_371 ?_
  refine G.go tv_X9_wakeForQueue 2 42 [(0, .ref (gAd E (17))), (1, .int (nI (q)))] [.ref (gAd E (17)), .int ((0 : Int32)), .ref (gAd E (24)), .int (nI q), .ref (gAd E (24))] rfl ?_
  refine G.getf cls_X9 (17) 11 (by omega) (h1.q17) (by decide) rfl (tbd tv_X9_wakeForQueue rfl) w_372 ?_
  refine G.eqs [.int (cS C 1711), .int ((0 : Int32)), .ref (gAd E (24)), .int (nI q), .ref (gAd E (24))] rfl ?_
  refine G.eqs [.int (nI m), .int ((0 : Int32)), .ref (gAd E (24)), .int (nI q), .ref (gAd E (24))] (by rw [hm]) ?_
  refine G.go tv_X9_wakeForQueue 1 46 [(0, .ref (gAd E (17))), (1, .int (nI (q)))] [.ref (gAd E (17)), .int (nI m), .int ((0 : Int32)), .ref (gAd E (24)), .int (nI q), .ref (gAd E (24))] rfl ?_
  refine G.getf cls_X9 (17) 12 (by omega) (h1.q17) (by decide) rfl (tbd tv_X9_wakeForQueue rfl) w_374 ?_
  refine G.eqs [.int (cS C 1712), .int (nI m), .int ((0 : Int32)), .ref (gAd E (24)), .int (nI q), .ref (gAd E (24))] rfl ?_
  refine G.eqs [.int (nI q), .int (nI m), .int ((0 : Int32)), .ref (gAd E (24)), .int (nI q), .ref (gAd E (24))] (by rw [hq]) ?_
  refine G.go tv_X9_wakeForQueue 1 50 [(0, .ref (gAd E (17))), (1, .int (nI (q)))] [.int ((nI m) - (nI q)), .int ((0 : Int32)), .ref (gAd E (24)), .int (nI q), .ref (gAd E (24))] rfl ?_
  refine G.eqs [.int (nI (m - q)), .int (nI (0)), .ref (gAd E (24)), .int (nI (q)), .ref (gAd E (24))] (by rw [pk_sub hqm]; rfl) ?_
  refine G.copyIN (24) (24) (q) (0) (m - q) (by omega) (h1.q24) (by omega) (h1.q24) w_1264 w_755 w_754 w_167 (by omega) (by omega) (by omega) (by omega) (Nat.le_of_ble_eq_true rfl) (Nat.le_of_ble_eq_true rfl) (tbd tv_X9_wakeForQueue rfl) ?_
  refine G.gen (P := fun w9 => CfV E w9 N B gr (sA (sA C 23 (wkR (cA C 23) (cA C 24) 0 q)) 24 (va_cpy (cA C 24) (cA C 24) (q) (0) (m - q))) ∧ Fr CfK f w9) ⟨h1.p24 _, Fr.c hf1 (by first | exact Or.inl (by decide) | exact Or.inr (by omega))⟩ (fun u14 p14 => ?_)
  obtain ⟨h14, k14⟩ := p14
  refine G.go tv_X9_wakeForQueue 2 55 [(0, .ref (gAd E (17))), (1, .int (nI (q)))] [.ref (gAd E (17)), .ref (gAd E (17))] rfl ?_
  refine G.getf cls_X9 (17) 11 (by omega) (h14.q17) (by decide) rfl (tbd tv_X9_wakeForQueue rfl) w_372 ?_
  refine G.eqs [.int (cS C 1711), .ref (gAd E (17))] rfl ?_
  refine G.eqs [.int (nI m), .ref (gAd E (17))] (by rw [hm]) ?_
  refine G.go tv_X9_wakeForQueue 1 59 [(0, .ref (gAd E (17))), (1, .int (nI (q)))] [.ref (gAd E (17)), .int (nI m), .ref (gAd E (17))] rfl ?_
  refine G.getf cls_X9 (17) 12 (by omega) (h14.q17) (by decide) rfl (tbd tv_X9_wakeForQueue rfl) w_374 ?_
  refine G.eqs [.int (cS C 1712), .int (nI m), .ref (gAd E (17))] rfl ?_
  refine G.eqs [.int (nI q), .int (nI m), .ref (gAd E (17))] (by rw [hq]) ?_
  refine G.go tv_X9_wakeForQueue 1 63 [(0, .ref (gAd E (17))), (1, .int (nI (q)))] [.int ((nI m) - (nI q)), .ref (gAd E (17))] rfl ?_
  refine G.putfS cls_X9 (17) 11 [.ref (gAd E 13), .ref (gAd E 18), .ref (gAd E 19), .ref (gAd E 20), .ref (gAd E 21), .int (cS (sA (sA C 23 (wkR (cA C 23) (cA C 24) 0 q)) 24 (va_cpy (cA C 24) (cA C 24) (q) (0) (m - q))) 1705), .ref (gAd E 22), .int (cS (sA (sA C 23 (wkR (cA C 23) (cA C 24) 0 q)) 24 (va_cpy (cA C 24) (cA C 24) (q) (0) (m - q))) 1707), .int (cS (sA (sA C 23 (wkR (cA C 23) (cA C 24) 0 q)) 24 (va_cpy (cA C 24) (cA C 24) (q) (0) (m - q))) 1708), .ref (gAd E 23), .ref (gAd E 24), .int ((nI m) - (nI q)), .int (cS (sA (sA C 23 (wkR (cA C 23) (cA C 24) 0 q)) 24 (va_cpy (cA C 24) (cA C 24) (q) (0) (m - q))) 1712)] (by omega) (h14.q17) rfl (by decide) rfl rfl rfl (Nat.le_of_ble_eq_true rfl) (tbd tv_X9_wakeForQueue rfl) w_372 ?_
  refine G.gen (P := fun w9 => CfV E w9 N B gr (sS (sA (sA C 23 (wkR (cA C 23) (cA C 24) 0 q)) 24 (va_cpy (cA C 24) (cA C 24) (q) (0) (m - q))) 1711 ((nI m) - (nI q))) ∧ Fr CfK f w9) ⟨h14.s1711 _, Fr.c k14 (by first | exact Or.inl (by decide) | exact Or.inr (by omega))⟩ (fun u15 p15 => ?_)
  obtain ⟨h15, k15⟩ := p15
  refine G.go tv_X9_wakeForQueue 2 68 [(0, .ref (gAd E (17))), (1, .int (nI (q)))] [.int ((0 : Int32)), .ref (gAd E (17))] rfl ?_
  refine G.putfS cls_X9 (17) 12 [.ref (gAd E 13), .ref (gAd E 18), .ref (gAd E 19), .ref (gAd E 20), .ref (gAd E 21), .int (cS (sS (sA (sA C 23 (wkR (cA C 23) (cA C 24) 0 q)) 24 (va_cpy (cA C 24) (cA C 24) (q) (0) (m - q))) 1711 ((nI m) - (nI q))) 1705), .ref (gAd E 22), .int (cS (sS (sA (sA C 23 (wkR (cA C 23) (cA C 24) 0 q)) 24 (va_cpy (cA C 24) (cA C 24) (q) (0) (m - q))) 1711 ((nI m) - (nI q))) 1707), .int (cS (sS (sA (sA C 23 (wkR (cA C 23) (cA C 24) 0 q)) 24 (va_cpy (cA C 24) (cA C 24) (q) (0) (m - q))) 1711 ((nI m) - (nI q))) 1708), .ref (gAd E 23), .ref (gAd E 24), .int (cS (sS (sA (sA C 23 (wkR (cA C 23) (cA C 24) 0 q)) 24 (va_cpy (cA C 24) (cA C 24) (q) (0) (m - q))) 1711 ((nI m) - (nI q))) 1711), .int ((0 : Int32))] (by omega) (h15.q17) rfl (by decide) rfl rfl rfl (Nat.le_of_ble_eq_true rfl) (tbd tv_X9_wakeForQueue rfl) w_374 ?_
  refine G.gen (P := fun w9 => CfV E w9 N B gr (sS (sS (sA (sA C 23 (wkR (cA C 23) (cA C 24) 0 q)) 24 (va_cpy (cA C 24) (cA C 24) (q) (0) (m - q))) 1711 ((nI m) - (nI q))) 1712 ((0 : Int32))) ∧ Fr CfK f w9) ⟨h15.s1712 _, Fr.c k15 (by first | exact Or.inl (by decide) | exact Or.inr (by omega))⟩ (fun u16 p16 => ?_)
  obtain ⟨h16, k16⟩ := p16
  exact G.vret rfl (⟨rfl, h16, k16⟩) (tbd tv_X9_wakeForQueue rfl)
def quFg (C : CfT) (N m : Nat) : CfT := sS (sA (sS (sS (sS (sA C 20 (flt (cA C 20) 0 N (-1))) 1707 0) 1708 0) 1712 0) 23 (wkR (cA C 23) (cA C 24) 0 m)) 1711 (nI 0)
def tb_X9_forget : List (Nat × Instr × Nat) := [(0, .aload_n 0, 1), (1, .getfield 30, 3), (4, .iconst (-1), 1), (5, .invokestatic 33, 3), (8, .aload_n 0, 1), (9, .iconst 0, 1), (10, .putfield 46, 3), (13, .aload_n 0, 1), (14, .iconst 0, 1), (15, .putfield 50, 3), (18, .aload_n 0, 1), (19, .iconst 0, 1), (20, .putfield 53, 3), (23, .aload_n 0, 1), (24, .invokevirtual 56, 3), (27, .return_, 1)]
theorem tv_X9_forget : Tv cX9_forget tb_X9_forget := by
  unfold Tv
  decide +kernel
theorem w_864 : Cond.methodLink "LedgerFiles$Queue" 56 yX9_wakeForNone ∈ TB := tp_3 238 (by decide +kernel) rfl
theorem w_859 : Cond.code yX9_wakeForNone prog_11_method_8_code 2 none ∈ TB := tp_3 233 rfl rfl
theorem cw_X9_56 : Cw RX9 56 yX9_wakeForNone cX9_wakeForNone 2 none 0 := ⟨w_864, w_859, w_154, by decide +kernel, by decide +kernel, by decide⟩
theorem w_857 : Cond.instanceMethod yX9_wakeForNone ∈ TB := tp_3 231 (by decide +kernel) rfl
theorem w_858 : Cond.selects "LedgerFiles$Queue" yX9_wakeForNone yX9_wakeForNone ∈ TB := tp_3 232 (by decide +kernel) rfl
set_option maxRecDepth 100000 in
set_option maxHeartbeats 4000000 in
theorem c_X9_forget (E : gE) (f : Nat → va_E) (N B gr : Nat) (C : CfT) (hz : CfZ E N B gr) (h : CfV E f N B gr C) (m : Nat) (hm : cS C 1711 = nI m) (hmN : m ≤ N) (hr : ∀ i, i < m → ∃ t, t < N ∧ cA C 24 i = nI t) : Ct E 2 yX9_forget cX9_forget 1 none [.ref (gAd E (17))] f (fun v g => v = none ∧ CfV E g N B gr (quFg C N m) ∧ Fr CfK f g, fun _ _ => False) := by
  obtain ⟨z1, z2, z3, z4, z5, z6, z7⟩ := id hz
  refine Ct.of (by decide) (Nat.le_of_ble_eq_true rfl) (fun sz => ?_)
  refine G.eql [(0, .ref (gAd E (17)))] rfl ?_
  refine G.go tv_X9_forget 1 1 [(0, .ref (gAd E (17)))] [.ref (gAd E (17))] rfl ?_
  refine G.getf cls_X9 (17) 3 (by omega) (h.q17) (by decide) rfl (tbd tv_X9_forget rfl) w_359 ?_
  refine G.go tv_X9_forget 1 5 [(0, .ref (gAd E (17)))] [.int ((-1 : Int32)), .ref (gAd E (20))] rfl ?_
  refine G.callS [.ref (gAd E (20)), .int ((-1 : Int32))] [] (c_J7_fill_53178 E _ (20) (N) (cA C 20) ((-1 : Int32)) (by omega) (h.q20) (by omega)) cw_X9_33 w_223 (Nat.le_of_ble_eq_true rfl) rfl (Nat.le_of_ble_eq_true rfl) (tbd tv_X9_forget rfl) (fun v1 f1 q1 => ?_) (fun _ _ h => h.elim)
  obtain ⟨rfl, rfl⟩ := q1
  refine G.eqs [] rfl ?_
  refine G.gen (P := fun w9 => CfV E w9 N B gr (sA (C) 20 (flt (cA C 20) 0 (N) ((-1 : Int32)))) ∧ Fr CfK f w9) ⟨h.p20 _, Fr.c Fr.rf (by first | exact Or.inl (by decide) | exact Or.inr (by omega))⟩ (fun u17 p17 => ?_)
  obtain ⟨h17, k17⟩ := p17
  refine G.go tv_X9_forget 2 10 [(0, .ref (gAd E (17)))] [.int ((0 : Int32)), .ref (gAd E (17))] rfl ?_
  refine G.putfS cls_X9 (17) 7 [.ref (gAd E 13), .ref (gAd E 18), .ref (gAd E 19), .ref (gAd E 20), .ref (gAd E 21), .int (cS (sA (C) 20 (flt (cA C 20) 0 (N) ((-1 : Int32)))) 1705), .ref (gAd E 22), .int ((0 : Int32)), .int (cS (sA (C) 20 (flt (cA C 20) 0 (N) ((-1 : Int32)))) 1708), .ref (gAd E 23), .ref (gAd E 24), .int (cS (sA (C) 20 (flt (cA C 20) 0 (N) ((-1 : Int32)))) 1711), .int (cS (sA (C) 20 (flt (cA C 20) 0 (N) ((-1 : Int32)))) 1712)] (by omega) (h17.q17) rfl (by decide) rfl rfl rfl (Nat.le_of_ble_eq_true rfl) (tbd tv_X9_forget rfl) w_366 ?_
  refine G.gen (P := fun w9 => CfV E w9 N B gr (sS (sA (C) 20 (flt (cA C 20) 0 (N) ((-1 : Int32)))) 1707 ((0 : Int32))) ∧ Fr CfK f w9) ⟨h17.s1707 _, Fr.c k17 (by first | exact Or.inl (by decide) | exact Or.inr (by omega))⟩ (fun u18 p18 => ?_)
  obtain ⟨h18, k18⟩ := p18
  refine G.go tv_X9_forget 2 15 [(0, .ref (gAd E (17)))] [.int ((0 : Int32)), .ref (gAd E (17))] rfl ?_
  refine G.putfS cls_X9 (17) 8 [.ref (gAd E 13), .ref (gAd E 18), .ref (gAd E 19), .ref (gAd E 20), .ref (gAd E 21), .int (cS (sS (sA (C) 20 (flt (cA C 20) 0 (N) ((-1 : Int32)))) 1707 ((0 : Int32))) 1705), .ref (gAd E 22), .int (cS (sS (sA (C) 20 (flt (cA C 20) 0 (N) ((-1 : Int32)))) 1707 ((0 : Int32))) 1707), .int ((0 : Int32)), .ref (gAd E 23), .ref (gAd E 24), .int (cS (sS (sA (C) 20 (flt (cA C 20) 0 (N) ((-1 : Int32)))) 1707 ((0 : Int32))) 1711), .int (cS (sS (sA (C) 20 (flt (cA C 20) 0 (N) ((-1 : Int32)))) 1707 ((0 : Int32))) 1712)] (by omega) (h18.q17) rfl (by decide) rfl rfl rfl (Nat.le_of_ble_eq_true rfl) (tbd tv_X9_forget rfl) w_367 ?_
  refine G.gen (P := fun w9 => CfV E w9 N B gr (sS (sS (sA (C) 20 (flt (cA C 20) 0 (N) ((-1 : Int32)))) 1707 ((0 : Int32))) 1708 ((0 : Int32))) ∧ Fr CfK f w9) ⟨h18.s1708 _, Fr.c k18 (by first | exact Or.inl (by decide) | exact Or.inr (by omega))⟩ (fun u19 p19 => ?_)
  obtain ⟨h19, k19⟩ := p19
  refine G.go tv_X9_forget 2 20 [(0, .ref (gAd E (17)))] [.int ((0 : Int32)), .ref (gAd E (17))] rfl ?_
  refine G.putfS cls_X9 (17) 12 [.ref (gAd E 13), .ref (gAd E 18), .ref (gAd E 19), .ref (gAd E 20), .ref (gAd E 21), .int (cS (sS (sS (sA (C) 20 (flt (cA C 20) 0 (N) ((-1 : Int32)))) 1707 ((0 : Int32))) 1708 ((0 : Int32))) 1705), .ref (gAd E 22), .int (cS (sS (sS (sA (C) 20 (flt (cA C 20) 0 (N) ((-1 : Int32)))) 1707 ((0 : Int32))) 1708 ((0 : Int32))) 1707), .int (cS (sS (sS (sA (C) 20 (flt (cA C 20) 0 (N) ((-1 : Int32)))) 1707 ((0 : Int32))) 1708 ((0 : Int32))) 1708), .ref (gAd E 23), .ref (gAd E 24), .int (cS (sS (sS (sA (C) 20 (flt (cA C 20) 0 (N) ((-1 : Int32)))) 1707 ((0 : Int32))) 1708 ((0 : Int32))) 1711), .int ((0 : Int32))] (by omega) (h19.q17) rfl (by decide) rfl rfl rfl (Nat.le_of_ble_eq_true rfl) (tbd tv_X9_forget rfl) w_374 ?_
  refine G.gen (P := fun w9 => CfV E w9 N B gr (sS (sS (sS (sA (C) 20 (flt (cA C 20) 0 (N) ((-1 : Int32)))) 1707 ((0 : Int32))) 1708 ((0 : Int32))) 1712 ((0 : Int32))) ∧ Fr CfK f w9) ⟨h19.s1712 _, Fr.c k19 (by first | exact Or.inl (by decide) | exact Or.inr (by omega))⟩ (fun u20 p20 => ?_)
  obtain ⟨h20, k20⟩ := p20
  refine G.go tv_X9_forget 1 24 [(0, .ref (gAd E (17)))] [.ref (gAd E (17))] rfl ?_
  refine G.callV (17) [] [] (c_X9_wakeForNone E _ N B gr (sS (sS (sS (sA (C) 20 (flt (cA C 20) 0 (N) ((-1 : Int32)))) 1707 ((0 : Int32))) 1708 ((0 : Int32))) 1712 ((0 : Int32))) hz h20 0 m rfl hm (by omega) hmN hr) cls_X9 (by omega) (h20.q17) cw_X9_56 w_857 w_858 (Nat.le_of_ble_eq_true rfl) rfl (Nat.le_of_ble_eq_true rfl) (tbd tv_X9_forget rfl) (fun v2 f2 q2 => ?_) (fun _ _ h => h.elim)
  obtain ⟨rfl, ha2, fa2⟩ := q2
  refine G.eqs [] rfl ?_
  exact G.vret rfl (⟨rfl, ha2, (k20.tr fa2 (fun _ h => h))⟩) (tbd tv_X9_forget rfl)
