/-! ===== who holds inodes ===== -/
def CfZ (E : gE) (N B gr : Nat) : Prop := 128 ≤ N ∧ N ≤ 1024 ∧ 4 ≤ B ∧ B ≤ 64 ∧ 1 ≤ gr ∧ gr ≤ 16 ∧ gN E = 350 + 2 * N + B + gr * 40
/-- how many of the first k are x -/
def cnN (g : Nat → Int32) (x : Int32) : Nat → Nat
  | 0 => 0
  | k + 1 => cnN g x k + (if g k = x then 1 else 0)
theorem cnN_y {g : Nat → Int32} {x : Int32} {k : Nat} (h : g k = x) : cnN g x (k + 1) = cnN g x k + 1 := by
  show cnN g x k + (if g k = x then 1 else 0) = _
  rw [if_pos h]
theorem cnN_n {g : Nat → Int32} {x : Int32} {k : Nat} (h : ¬ g k = x) : cnN g x (k + 1) = cnN g x k := by
  show cnN g x k + (if g k = x then 1 else 0) = _
  rw [if_neg h]
  rfl
theorem cnN_le (g : Nat → Int32) (x : Int32) : ∀ k, cnN g x k ≤ k
  | 0 => Nat.le_refl 0
  | k + 1 => by
    have := cnN_le g x k
    show cnN g x k + (if g k = x then 1 else 0) ≤ k + 1
    split <;> omega
/-- the first below k that is x, k if none is -/
def fsN (g : Nat → Int32) (x : Int32) : Nat → Nat
  | 0 => 0
  | k + 1 => if fsN g x k < k then fsN g x k else if g k = x then k else k + 1
def hOp (g : Nat → Int32) (x : Int32) : Int32 := if x < 0 then 0 else if 32 ≤ x then 0 else if g x.toNatClampNeg = 0 then 0 else 1
def tb_X5_isOpen : List (Nat × Instr × Nat) := [(0, .iload_n 1, 1), (1, .ifCond .lt 22, 3), (4, .iload_n 1, 1), (5, .bipush 32, 2), (7, .if_icmp .ge 16, 3), (10, .aload_n 0, 1), (11, .getfield 15, 3), (14, .iload_n 1, 1), (15, .iaload, 1), (16, .ifCond .eq 7, 3), (19, .iconst 1, 1), (20, .goto 4, 3), (23, .iconst 0, 1), (24, .ireturn, 1)]
theorem tv_X5_isOpen : Tv cX5_isOpen tb_X5_isOpen := by
  unfold Tv
  decide +kernel
set_option maxRecDepth 100000 in
set_option maxHeartbeats 4000000 in
theorem c_X5_isOpen (E : gE) (f : Nat → va_E) (N B gr : Nat) (C : CfT) (hz : CfZ E N B gr) (h : CfV E f N B gr C) (x : Int32) : Ct E 1 yX5_isOpen cX5_isOpen 2 (some .boolean) [.ref (gAd E (32)), .int (x)] f (fun v g => v = some (.int (hOp (cA C 34) x)) ∧ CfV E g N B gr (C) ∧ Fr CfK f g, fun _ _ => False) := by
  obtain ⟨z1, z2, z3, z4, z5, z6, z7⟩ := id hz
  refine Ct.of (by decide) (Nat.le_of_ble_eq_true rfl) (fun sz => ?_)
  refine G.eql [(0, .ref (gAd E (32))), (1, .int (x))] rfl ?_
  refine G.go tv_X5_isOpen 1 1 [(0, .ref (gAd E (32))), (1, .int (x))] [.int (x)] rfl ?_
  refine G.if_lt 23 (tbd tv_X5_isOpen rfl) (by decide) (fun c1 => ?_) (fun c1 => ?_)
  · skip
    refine G.go tv_X5_isOpen 1 24 [(0, .ref (gAd E (32))), (1, .int (x))] [.int ((0 : Int32))] rfl ?_
    exact G.iret rfl rfl (⟨by unfold hOp; first | rw [if_pos c1] | rw [if_neg c1, if_pos c7] | rw [if_neg c1, if_neg c7, hxt, if_pos c16] | rw [if_neg c1, if_neg c7, hxt, if_neg c16], h, Fr.rf⟩) (tbd tv_X5_isOpen rfl)
  · skip
    refine G.go tv_X5_isOpen 2 7 [(0, .ref (gAd E (32))), (1, .int (x))] [.int ((32 : Int32)), .int (x)] rfl ?_
    refine G.cmp_ge 23 (tbd tv_X5_isOpen rfl) (by decide) (fun c7 => ?_) (fun c7 => ?_)
    · skip
      refine G.go tv_X5_isOpen 1 24 [(0, .ref (gAd E (32))), (1, .int (x))] [.int ((0 : Int32))] rfl ?_
      exact G.iret rfl rfl (⟨by unfold hOp; first | rw [if_pos c1] | rw [if_neg c1, if_pos c7] | rw [if_neg c1, if_neg c7, hxt, if_pos c16] | rw [if_neg c1, if_neg c7, hxt, if_neg c16], h, Fr.rf⟩) (tbd tv_X5_isOpen rfl)
    · skip
      obtain ⟨t, ht31, hx⟩ := nI_of c1
      have ht : t < 32 := by rw [hx] at c7; exact Nat.not_le.mp (fun q => c7 (nI_le q (by omega) : nI 32 ≤ nI t))
      have hxt : x.toNatClampNeg = t := by rw [hx]; exact nI_clamp (by omega)
      refine G.go tv_X5_isOpen 1 11 [(0, .ref (gAd E (32))), (1, .int (x))] [.ref (gAd E (32))] rfl ?_
      refine G.getf cls_X5 (32) 1 (by omega) (h.q32) (by decide) rfl (tbd tv_X5_isOpen rfl) w_457 ?_
      refine G.go tv_X5_isOpen 1 15 [(0, .ref (gAd E (32))), (1, .int (x))] [.int (x), .ref (gAd E (34))] rfl ?_
      refine G.eqs [.int (nI (t)), .ref (gAd E (34))] (by rw [hx]) ?_
      refine G.ialdN (34) (t) (by omega) (h.q34) (ht) (by omega) (tbd tv_X5_isOpen rfl) ?_
      refine G.if_eq 23 (tbd tv_X5_isOpen rfl) (by decide) (fun c16 => ?_) (fun c16 => ?_)
      · skip
        refine G.go tv_X5_isOpen 1 24 [(0, .ref (gAd E (32))), (1, .int (x))] [.int ((0 : Int32))] rfl ?_
        exact G.iret rfl rfl (⟨by unfold hOp; first | rw [if_pos c1] | rw [if_neg c1, if_pos c7] | rw [if_neg c1, if_neg c7, hxt, if_pos c16] | rw [if_neg c1, if_neg c7, hxt, if_neg c16], h, Fr.rf⟩) (tbd tv_X5_isOpen rfl)
      · skip
        refine G.go tv_X5_isOpen 2 24 [(0, .ref (gAd E (32))), (1, .int (x))] [.int ((1 : Int32))] rfl ?_
        exact G.iret rfl rfl (⟨by unfold hOp; first | rw [if_pos c1] | rw [if_neg c1, if_pos c7] | rw [if_neg c1, if_neg c7, hxt, if_pos c16] | rw [if_neg c1, if_neg c7, hxt, if_neg c16], h, Fr.rf⟩) (tbd tv_X5_isOpen rfl)
def tb_X5_handlesOn : List (Nat × Instr × Nat) := [(0, .iconst 0, 1), (1, .istore_n 2, 1), (2, .iconst 0, 1), (3, .istore_n 3, 1), (4, .iload_n 3, 1), (5, .bipush 32, 2), (7, .if_icmp .ge 22, 3), (10, .aload_n 0, 1), (11, .getfield 15, 3), (14, .iload_n 3, 1), (15, .iaload, 1), (16, .iload_n 1, 1), (17, .if_icmp .ne 6, 3), (20, .iinc 2 1, 3), (23, .iinc 3 1, 3), (26, .goto (-22), 3), (29, .iload_n 2, 1), (30, .ireturn, 1)]
theorem tv_X5_handlesOn : Tv cX5_handlesOn tb_X5_handlesOn := by
  unfold Tv
  decide +kernel
set_option maxRecDepth 100000 in
set_option maxHeartbeats 4000000 in
theorem ho_l (E : gE) (f0 : Nat → va_E) (sz : Nat) (A : Nat → Prop) (Q : gQ) (N B gr : Nat) (C : CfT) (hz : CfZ E N B gr) (x : Int32) (kq : ∀ g, CfV E g N B gr (C) → Fr CfK f0 g → G E (1, yX5_handlesOn, 4, (some .int), sz, A) cX5_handlesOn (gO E (1, yX5_handlesOn, 4, (some .int), sz, A) Q) 29 [(0, .ref (gAd E (32))), (1, .int (x)), (2, .int (nI (cnN (cA C 34) x (32)))), (3, .int (nI (32)))] [] g) : ∀ (d j : Nat), j + d = 32 → ∀ f, CfV E f N B gr (C) → Fr CfK f0 f → G E (1, yX5_handlesOn, 4, (some .int), sz, A) cX5_handlesOn (gO E (1, yX5_handlesOn, 4, (some .int), sz, A) Q) 4 [(0, .ref (gAd E (32))), (1, .int (x)), (2, .int (nI (cnN (cA C 34) x (j)))), (3, .int (nI (j)))] [] f := by
  obtain ⟨z1, z2, z3, z4, z5, z6, z7⟩ := id hz
  intro d
  induction d with
  | zero =>
    intro j e f h hf
    have e : j = 32 := e
    refine G.go tv_X5_handlesOn 2 7 [(0, .ref (gAd E (32))), (1, .int (x)), (2, .int (nI (cnN (cA C 34) x (j)))), (3, .int (nI (j)))] [.int ((32 : Int32)), .int (nI (j))] rfl ?_
    refine G.cmp_ge 29 (tbd tv_X5_handlesOn rfl) (by decide) (fun c7 => ?_) (fun c7 => absurd (by rw [e]; exact (nI_le (Nat.le_refl _) (by omega) : nI 32 ≤ nI 32)) c7)
    refine G.eql [(0, .ref (gAd E (32))), (1, .int (x)), (2, .int (nI (cnN (cA C 34) x (32)))), (3, .int (nI (32)))] (by rw [e]) ?_
    exact kq _ (by have q9 := h; first | (rw [e] at q9; exact q9) | exact q9) (hf)
  | succ d ih =>
    intro j e f h hf
    refine G.go tv_X5_handlesOn 2 7 [(0, .ref (gAd E (32))), (1, .int (x)), (2, .int (nI (cnN (cA C 34) x (j)))), (3, .int (nI (j)))] [.int ((32 : Int32)), .int (nI (j))] rfl ?_
    refine G.cmp_ge 29 (tbd tv_X5_handlesOn rfl) (by decide) (fun c7 => absurd c7 ((nI_ge (by omega) (by omega) : ¬ nI 32 ≤ nI j))) (fun c7 => ?_)
    refine G.go tv_X5_handlesOn 1 11 [(0, .ref (gAd E (32))), (1, .int (x)), (2, .int (nI (cnN (cA C 34) x (j)))), (3, .int (nI (j)))] [.ref (gAd E (32))] rfl ?_
    refine G.getf cls_X5 (32) 1 (by omega) (h.q32) (by decide) rfl (tbd tv_X5_handlesOn rfl) w_457 ?_
    refine G.go tv_X5_handlesOn 1 15 [(0, .ref (gAd E (32))), (1, .int (x)), (2, .int (nI (cnN (cA C 34) x (j)))), (3, .int (nI (j)))] [.int (nI (j)), .ref (gAd E (34))] rfl ?_
    refine G.ialdN (34) (j) (by omega) (h.q34) (by omega) (by omega) (tbd tv_X5_handlesOn rfl) ?_
    refine G.go tv_X5_handlesOn 1 17 [(0, .ref (gAd E (32))), (1, .int (x)), (2, .int (nI (cnN (cA C 34) x (j)))), (3, .int (nI (j)))] [.int (x), .int ((cA C 34) (j))] rfl ?_
    refine G.cmp_ne 23 (tbd tv_X5_handlesOn rfl) (by decide) (fun c17 => ?_) (fun c17 => ?_)
    · skip
      refine G.go tv_X5_handlesOn 2 4 [(0, .ref (gAd E (32))), (1, .int (x)), (2, .int (nI (cnN (cA C 34) x (j)))), (3, .int (nI (j) + (1 : Int32)))] [] rfl ?_
      refine G.eql [(0, .ref (gAd E (32))), (1, .int (x)), (2, .int (nI (cnN (cA C 34) x (j + 1)))), (3, .int (nI (j + 1)))] (by first | rw [cnN_n c17, nI_1] | rw [cnN_y c17, nI_1, nI_1]) ?_
      exact ih (j + 1) (by omega) _ (h) (hf)
    · skip
      refine G.go tv_X5_handlesOn 3 4 [(0, .ref (gAd E (32))), (1, .int (x)), (2, .int (nI (cnN (cA C 34) x (j)) + (1 : Int32))), (3, .int (nI (j) + (1 : Int32)))] [] rfl ?_
      refine G.eql [(0, .ref (gAd E (32))), (1, .int (x)), (2, .int (nI (cnN (cA C 34) x (j + 1)))), (3, .int (nI (j + 1)))] (by first | rw [cnN_n c17, nI_1] | rw [cnN_y c17, nI_1, nI_1]) ?_
      exact ih (j + 1) (by omega) _ (h) (hf)
set_option maxRecDepth 100000 in
set_option maxHeartbeats 4000000 in
theorem c_X5_handlesOn (E : gE) (f : Nat → va_E) (N B gr : Nat) (C : CfT) (hz : CfZ E N B gr) (h : CfV E f N B gr C) (x : Int32) : Ct E 1 yX5_handlesOn cX5_handlesOn 4 (some .int) [.ref (gAd E (32)), .int (x)] f (fun v g => v = some (.int (nI (cnN (cA C 34) x 32))) ∧ CfV E g N B gr (C) ∧ Fr CfK f g, fun _ _ => False) := by
  obtain ⟨z1, z2, z3, z4, z5, z6, z7⟩ := id hz
  refine Ct.of (by decide) (Nat.le_of_ble_eq_true rfl) (fun sz => ?_)
  refine G.eql [(0, .ref (gAd E (32))), (1, .int (x))] rfl ?_
  refine G.go tv_X5_handlesOn 4 4 [(0, .ref (gAd E (32))), (1, .int (x)), (2, .int ((0 : Int32))), (3, .int ((0 : Int32)))] [] rfl ?_
  refine G.eql [(0, .ref (gAd E (32))), (1, .int (x)), (2, .int (nI (cnN (cA C 34) x (0)))), (3, .int (nI (0)))] rfl ?_
  refine ho_l E f _ _ _ N B gr C hz x (fun g h1 hf1 => ?_) 32 0 (by omega) _ h Fr.rf
  refine G.go tv_X5_handlesOn 1 30 [(0, .ref (gAd E (32))), (1, .int (x)), (2, .int (nI (cnN (cA C 34) x (32)))), (3, .int (nI (32)))] [.int (nI (cnN (cA C 34) x (32)))] rfl ?_
  exact G.iret rfl rfl (⟨rfl, h1, hf1⟩) (tbd tv_X5_handlesOn rfl)
def tb_X5_times : List (Nat × Instr × Nat) := [(0, .aload_n 0, 1), (1, .getfield 9, 3), (4, .iload_n 1, 1), (5, .iaload, 1), (6, .aload_n 0, 1), (7, .iload_n 1, 1), (8, .invokevirtual 30, 3), (11, .iadd, 1), (12, .ireturn, 1)]
theorem tv_X5_times : Tv cX5_times tb_X5_times := by
  unfold Tv
  decide +kernel
theorem w_932 : Cond.methodLink "LedgerFiles$Holders" 30 yX5_handlesOn ∈ TB := tp_4 66 (by decide +kernel) rfl
theorem w_935 : Cond.code yX5_handlesOn prog_7_method_4_code 4 (some .int) ∈ TB := tp_4 69 rfl rfl
theorem cw_X5_30 : Cw RX5 30 yX5_handlesOn cX5_handlesOn 4 (some .int) 1 := ⟨w_932, w_935, w_156, by decide +kernel, by decide +kernel, by decide⟩
theorem w_934 : Cond.instanceMethod yX5_handlesOn ∈ TB := tp_4 68 (by decide +kernel) rfl
theorem w_17 : Cond.selects "LedgerFiles$Holders" yX5_handlesOn yX5_handlesOn ∈ TB := tp_0 17 (by decide +kernel) rfl
set_option maxRecDepth 100000 in
set_option maxHeartbeats 4000000 in
theorem c_X5_times (E : gE) (f : Nat → va_E) (N B gr : Nat) (C : CfT) (hz : CfZ E N B gr) (h : CfV E f N B gr C) (t : Nat) (ht : t < 65) : Ct E 2 yX5_times cX5_times 2 (some .int) [.ref (gAd E (32)), .int (nI t)] f (fun v g => v = some (.int (cA C 33 t + nI (cnN (cA C 34) (nI t) 32))) ∧ CfV E g N B gr (C) ∧ Fr CfK f g, fun _ _ => False) := by
  obtain ⟨z1, z2, z3, z4, z5, z6, z7⟩ := id hz
  refine Ct.of (by decide) (Nat.le_of_ble_eq_true rfl) (fun sz => ?_)
  refine G.eql [(0, .ref (gAd E (32))), (1, .int (nI t))] rfl ?_
  refine G.go tv_X5_times 1 1 [(0, .ref (gAd E (32))), (1, .int (nI t))] [.ref (gAd E (32))] rfl ?_
  refine G.getf cls_X5 (32) 0 (by omega) (h.q32) (by decide) rfl (tbd tv_X5_times rfl) w_455 ?_
  refine G.go tv_X5_times 1 5 [(0, .ref (gAd E (32))), (1, .int (nI t))] [.int (nI t), .ref (gAd E (33))] rfl ?_
  refine G.ialdN (33) (t) (by omega) (h.q33) (ht) (by omega) (tbd tv_X5_times rfl) ?_
  refine G.go tv_X5_times 2 8 [(0, .ref (gAd E (32))), (1, .int (nI t))] [.int (nI t), .ref (gAd E (32)), .int ((cA C 33) (t))] rfl ?_
  refine G.callV (32) [.int (nI t)] [.int ((cA C 33) (t))] (c_X5_handlesOn E _ N B gr (C) hz h (nI t)) cls_X5 (by omega) (h.q32) cw_X5_30 w_934 w_17 (Nat.le_of_ble_eq_true rfl) rfl (Nat.le_of_ble_eq_true rfl) (tbd tv_X5_times rfl) (fun v1 f1 q1 => ?_) (fun _ _ h => h.elim)
  obtain ⟨rfl, ha1, fa1⟩ := q1
  refine G.eqs [.int (nI (cnN (cA C 34) (nI t) 32)), .int ((cA C 33) (t))] rfl ?_
  refine G.go tv_X5_times 1 12 [(0, .ref (gAd E (32))), (1, .int (nI t))] [.int (((cA C 33) (t)) + (nI (cnN (cA C 34) (nI t) 32)))] rfl ?_
  exact G.iret rfl rfl (⟨rfl, ha1, fa1⟩) (tbd tv_X5_times rfl)
def tb_X5_openHandles : List (Nat × Instr × Nat) := [(0, .bipush 32, 2), (2, .aload_n 0, 1), (3, .iconst 0, 1), (4, .invokevirtual 30, 3), (7, .isub, 1), (8, .ireturn, 1)]
theorem tv_X5_openHandles : Tv cX5_openHandles tb_X5_openHandles := by
  unfold Tv
  decide +kernel
set_option maxRecDepth 100000 in
set_option maxHeartbeats 4000000 in
theorem c_X5_openHandles (E : gE) (f : Nat → va_E) (N B gr : Nat) (C : CfT) (hz : CfZ E N B gr) (h : CfV E f N B gr C)  : Ct E 2 yX5_openHandles cX5_openHandles 1 (some .int) [.ref (gAd E (32))] f (fun v g => v = some (.int (32 - nI (cnN (cA C 34) 0 32))) ∧ CfV E g N B gr (C) ∧ Fr CfK f g, fun _ _ => False) := by
  obtain ⟨z1, z2, z3, z4, z5, z6, z7⟩ := id hz
  refine Ct.of (by decide) (Nat.le_of_ble_eq_true rfl) (fun sz => ?_)
  refine G.eql [(0, .ref (gAd E (32)))] rfl ?_
  refine G.go tv_X5_openHandles 3 4 [(0, .ref (gAd E (32)))] [.int ((0 : Int32)), .ref (gAd E (32)), .int ((32 : Int32))] rfl ?_
  refine G.callV (32) [.int ((0 : Int32))] [.int ((32 : Int32))] (c_X5_handlesOn E _ N B gr (C) hz h ((0 : Int32))) cls_X5 (by omega) (h.q32) cw_X5_30 w_934 w_17 (Nat.le_of_ble_eq_true rfl) rfl (Nat.le_of_ble_eq_true rfl) (tbd tv_X5_openHandles rfl) (fun v1 f1 q1 => ?_) (fun _ _ h => h.elim)
  obtain ⟨rfl, ha1, fa1⟩ := q1
  refine G.eqs [.int (nI (cnN (cA C 34) ((0 : Int32)) 32)), .int ((32 : Int32))] rfl ?_
  refine G.go tv_X5_openHandles 1 8 [(0, .ref (gAd E (32)))] [.int (((32 : Int32)) - (nI (cnN (cA C 34) ((0 : Int32)) 32)))] rfl ?_
  exact G.iret rfl rfl (⟨rfl, ha1, fa1⟩) (tbd tv_X5_openHandles rfl)
/-- the first from j on that is 0, below 32; -1 if there is none -/
def hLow (g : Nat → Int32) : Nat → Nat → Int32
  | 0, _ => -1
  | d + 1, j => if g j = 0 then nI j else hLow g d (j + 1)
def tb_X5_lowestFree : List (Nat × Instr × Nat) := [(0, .iconst 0, 1), (1, .istore_n 1, 1), (2, .iload_n 1, 1), (3, .bipush 32, 2), (5, .if_icmp .ge 20, 3), (8, .aload_n 0, 1), (9, .getfield 15, 3), (12, .iload_n 1, 1), (13, .iaload, 1), (14, .ifCond .ne 5, 3), (17, .iload_n 1, 1), (18, .ireturn, 1), (19, .iinc 1 1, 3), (22, .goto (-20), 3), (25, .iconst (-1), 1), (26, .ireturn, 1)]
theorem tv_X5_lowestFree : Tv cX5_lowestFree tb_X5_lowestFree := by
  unfold Tv
  decide +kernel
set_option maxRecDepth 100000 in
set_option maxHeartbeats 4000000 in
theorem hl_l (E : gE) (f0 : Nat → va_E) (sz : Nat) (A : Nat → Prop) (N B gr : Nat) (C : CfT) (hz : CfZ E N B gr) (z : Int32) : ∀ (d j : Nat), j + d = 32 → hLow (cA C 34) d j = z → ∀ f, CfV E f N B gr (C) → Fr CfK f0 f → G E (1, yX5_lowestFree, 2, (some .int), sz, A) cX5_lowestFree (gO E (1, yX5_lowestFree, 2, (some .int), sz, A) (fun v g => v = some (.int (z)) ∧ CfV E g N B gr C ∧ Fr CfK f0 g, fun _ _ => False)) 2 [(0, .ref (gAd E (32))), (1, .int (nI (j)))] [] f := by
  obtain ⟨z1, z2, z3, z4, z5, z6, z7⟩ := id hz
  intro d
  induction d with
  | zero =>
    intro j e ez f h hf
    have e : j = 32 := e
    refine G.go tv_X5_lowestFree 2 5 [(0, .ref (gAd E (32))), (1, .int (nI (j)))] [.int ((32 : Int32)), .int (nI (j))] rfl ?_
    refine G.cmp_ge 25 (tbd tv_X5_lowestFree rfl) (by decide) (fun c5 => ?_) (fun c5 => absurd (by rw [e]; exact (nI_le (Nat.le_refl _) (by omega) : nI 32 ≤ nI 32)) c5)
    refine G.go tv_X5_lowestFree 1 26 [(0, .ref (gAd E (32))), (1, .int (nI (j)))] [.int ((-1 : Int32))] rfl ?_
    exact G.iret rfl rfl (⟨by rw [← ez]; first | rfl | rw [show hLow (cA C 34) (d + 1) j = nI j from if_pos c14], h, hf⟩) (tbd tv_X5_lowestFree rfl)
  | succ d ih =>
    intro j e ez f h hf
    refine G.go tv_X5_lowestFree 2 5 [(0, .ref (gAd E (32))), (1, .int (nI (j)))] [.int ((32 : Int32)), .int (nI (j))] rfl ?_
    refine G.cmp_ge 25 (tbd tv_X5_lowestFree rfl) (by decide) (fun c5 => absurd c5 ((nI_ge (by omega) (by omega) : ¬ nI 32 ≤ nI j))) (fun c5 => ?_)
    refine G.go tv_X5_lowestFree 1 9 [(0, .ref (gAd E (32))), (1, .int (nI (j)))] [.ref (gAd E (32))] rfl ?_
    refine G.getf cls_X5 (32) 1 (by omega) (h.q32) (by decide) rfl (tbd tv_X5_lowestFree rfl) w_457 ?_
    refine G.go tv_X5_lowestFree 1 13 [(0, .ref (gAd E (32))), (1, .int (nI (j)))] [.int (nI (j)), .ref (gAd E (34))] rfl ?_
    refine G.ialdN (34) (j) (by omega) (h.q34) (by omega) (by omega) (tbd tv_X5_lowestFree rfl) ?_
    refine G.if_ne 19 (tbd tv_X5_lowestFree rfl) (by decide) (fun c14 => ?_) (fun c14 => ?_)
    · skip
      refine G.go tv_X5_lowestFree 2 2 [(0, .ref (gAd E (32))), (1, .int (nI (j) + (1 : Int32)))] [] rfl ?_
      refine G.eql [(0, .ref (gAd E (32))), (1, .int (nI (j + 1)))] (by rw [nI_1]) ?_
      exact ih (j + 1) (by omega) ((if_neg c14).symm.trans ez) _ (h) (hf)
    · skip
      refine G.go tv_X5_lowestFree 1 18 [(0, .ref (gAd E (32))), (1, .int (nI (j)))] [.int (nI (j))] rfl ?_
      exact G.iret rfl rfl (⟨by rw [← ez]; first | rfl | rw [show hLow (cA C 34) (d + 1) j = nI j from if_pos c14], h, hf⟩) (tbd tv_X5_lowestFree rfl)
set_option maxRecDepth 100000 in
set_option maxHeartbeats 4000000 in
theorem c_X5_lowestFree (E : gE) (f : Nat → va_E) (N B gr : Nat) (C : CfT) (hz : CfZ E N B gr) (h : CfV E f N B gr C)  : Ct E 1 yX5_lowestFree cX5_lowestFree 2 (some .int) [.ref (gAd E (32))] f (fun v g => v = some (.int (hLow (cA C 34) 32 0)) ∧ CfV E g N B gr (C) ∧ Fr CfK f g, fun _ _ => False) := by
  obtain ⟨z1, z2, z3, z4, z5, z6, z7⟩ := id hz
  refine Ct.of (by decide) (Nat.le_of_ble_eq_true rfl) (fun sz => ?_)
  refine G.eql [(0, .ref (gAd E (32)))] rfl ?_
  refine G.go tv_X5_lowestFree 2 2 [(0, .ref (gAd E (32))), (1, .int ((0 : Int32)))] [] rfl ?_
  refine G.eql [(0, .ref (gAd E (32))), (1, .int (nI (0)))] rfl ?_
  exact hl_l E f _ _ N B gr C hz _ 32 0 (by omega) rfl _ h Fr.rf
def tb_X5_grip : List (Nat × Instr × Nat) := [(0, .aload_n 0, 1), (1, .getfield 15, 3), (4, .iload_n 1, 1), (5, .iload_n 2, 1), (6, .iastore, 1), (7, .aload_n 0, 1), (8, .getfield 18, 3), (11, .iload_n 1, 1), (12, .iconst 0, 1), (13, .iastore, 1), (14, .aload_n 0, 1), (15, .getfield 21, 3), (18, .iload_n 1, 1), (19, .iload_n 3, 1), (20, .iastore, 1), (21, .return_, 1)]
theorem tv_X5_grip : Tv cX5_grip tb_X5_grip := by
  unfold Tv
  decide +kernel
set_option maxRecDepth 100000 in
set_option maxHeartbeats 4000000 in
theorem c_X5_grip (E : gE) (f : Nat → va_E) (N B gr : Nat) (C : CfT) (hz : CfZ E N B gr) (h : CfV E f N B gr C) (t : Nat) (ht : t < 32) (i w : Int32) : Ct E 1 yX5_grip cX5_grip 4 none [.ref (gAd E (32)), .int (nI t), .int (i), .int (w)] f (fun v g => v = none ∧ CfV E g N B gr (sA (sA (sA C 34 (upd (cA C 34) t i)) 35 (upd (cA C 35) t 0)) 36 (upd (cA C 36) t w)) ∧ Fr CfK f g, fun _ _ => False) := by
  obtain ⟨z1, z2, z3, z4, z5, z6, z7⟩ := id hz
  refine Ct.of (by decide) (Nat.le_of_ble_eq_true rfl) (fun sz => ?_)
  refine G.eql [(0, .ref (gAd E (32))), (1, .int (nI t)), (2, .int (i)), (3, .int (w))] rfl ?_
  refine G.go tv_X5_grip 1 1 [(0, .ref (gAd E (32))), (1, .int (nI t)), (2, .int (i)), (3, .int (w))] [.ref (gAd E (32))] rfl ?_
  refine G.getf cls_X5 (32) 1 (by omega) (h.q32) (by decide) rfl (tbd tv_X5_grip rfl) w_457 ?_
  refine G.go tv_X5_grip 2 6 [(0, .ref (gAd E (32))), (1, .int (nI t)), (2, .int (i)), (3, .int (w))] [.int (i), .int (nI t), .ref (gAd E (34))] rfl ?_
  refine G.iastN (34) (t) (by omega) (h.q34) (ht) (by omega) (tbd tv_X5_grip rfl) ?_
  refine G.gen (P := fun u => CfV E u N B gr (sA (C) 34 (upd (cA C 34) (t) (i))) ∧ Fr CfK f u) ⟨h.p34 _, Fr.c Fr.rf (by first | exact Or.inl (by decide) | exact Or.inr (by omega))⟩ (fun u1 p1 => ?_)
  obtain ⟨h1, k1⟩ := p1
  refine G.go tv_X5_grip 1 8 [(0, .ref (gAd E (32))), (1, .int (nI t)), (2, .int (i)), (3, .int (w))] [.ref (gAd E (32))] rfl ?_
  refine G.getf cls_X5 (32) 2 (by omega) (h1.q32) (by decide) rfl (tbd tv_X5_grip rfl) w_459 ?_
  refine G.go tv_X5_grip 2 13 [(0, .ref (gAd E (32))), (1, .int (nI t)), (2, .int (i)), (3, .int (w))] [.int ((0 : Int32)), .int (nI t), .ref (gAd E (35))] rfl ?_
  refine G.iastN (35) (t) (by omega) (h1.q35) (ht) (by omega) (tbd tv_X5_grip rfl) ?_
  refine G.gen (P := fun u => CfV E u N B gr (sA (sA (C) 34 (upd (cA C 34) (t) (i))) 35 (upd (cA C 35) (t) ((0 : Int32)))) ∧ Fr CfK f u) ⟨h1.p35 _, Fr.c k1 (by first | exact Or.inl (by decide) | exact Or.inr (by omega))⟩ (fun u2 p2 => ?_)
  obtain ⟨h2, k2⟩ := p2
  refine G.go tv_X5_grip 1 15 [(0, .ref (gAd E (32))), (1, .int (nI t)), (2, .int (i)), (3, .int (w))] [.ref (gAd E (32))] rfl ?_
  refine G.getf cls_X5 (32) 3 (by omega) (h2.q32) (by decide) rfl (tbd tv_X5_grip rfl) w_461 ?_
  refine G.go tv_X5_grip 2 20 [(0, .ref (gAd E (32))), (1, .int (nI t)), (2, .int (i)), (3, .int (w))] [.int (w), .int (nI t), .ref (gAd E (36))] rfl ?_
  refine G.iastN (36) (t) (by omega) (h2.q36) (ht) (by omega) (tbd tv_X5_grip rfl) ?_
  refine G.gen (P := fun u => CfV E u N B gr (sA (sA (sA (C) 34 (upd (cA C 34) (t) (i))) 35 (upd (cA C 35) (t) ((0 : Int32)))) 36 (upd (cA C 36) (t) (w))) ∧ Fr CfK f u) ⟨h2.p36 _, Fr.c k2 (by first | exact Or.inl (by decide) | exact Or.inr (by omega))⟩ (fun u3 p3 => ?_)
  obtain ⟨h3, k3⟩ := p3
  exact G.vret rfl (⟨rfl, h3, k3⟩) (tbd tv_X5_grip rfl)
/-- the first k that are x become 0 -/
def rpN (g : Nat → Int32) (x : Int32) : Nat → Nat → Int32
  | 0 => g
  | k + 1 => if g k = x then upd (rpN g x k) k 0 else rpN g x k
theorem rpN_at (g : Nat → Int32) (x : Int32) : ∀ k i, k ≤ i → rpN g x k i = g i
  | 0, i, _ => rfl
  | k + 1, i, h => by
    show (if g k = x then upd (rpN g x k) k 0 else rpN g x k) i = g i
    split
    · rw [pk_un (by omega)]
      exact rpN_at g x k i (by omega)
    · exact rpN_at g x k i (by omega)
def tb_X5_freeHandlesOn : List (Nat × Instr × Nat) := [(0, .iconst 0, 1), (1, .istore_n 2, 1), (2, .iload_n 2, 1), (3, .bipush 32, 2), (5, .if_icmp .ge 26, 3), (8, .aload_n 0, 1), (9, .getfield 15, 3), (12, .iload_n 2, 1), (13, .iaload, 1), (14, .iload_n 1, 1), (15, .if_icmp .ne 10, 3), (18, .aload_n 0, 1), (19, .getfield 15, 3), (22, .iload_n 2, 1), (23, .iconst 0, 1), (24, .iastore, 1), (25, .iinc 2 1, 3), (28, .goto (-26), 3), (31, .return_, 1)]
theorem tv_X5_freeHandlesOn : Tv cX5_freeHandlesOn tb_X5_freeHandlesOn := by
  unfold Tv
  decide +kernel
set_option maxRecDepth 100000 in
set_option maxHeartbeats 4000000 in
theorem fh_l (E : gE) (f0 : Nat → va_E) (sz : Nat) (A : Nat → Prop) (Q : gQ) (N B gr : Nat) (C : CfT) (hz : CfZ E N B gr) (x : Int32) (kq : ∀ g, CfV E g N B gr (sA C 34 (rpN (cA C 34) x (32))) → Fr CfK f0 g → G E (1, yX5_freeHandlesOn, 3, none, sz, A) cX5_freeHandlesOn (gO E (1, yX5_freeHandlesOn, 3, none, sz, A) Q) 31 [(0, .ref (gAd E (32))), (1, .int (x)), (2, .int (nI (32)))] [] g) : ∀ (d j : Nat), j + d = 32 → ∀ f, CfV E f N B gr (sA C 34 (rpN (cA C 34) x (j))) → Fr CfK f0 f → G E (1, yX5_freeHandlesOn, 3, none, sz, A) cX5_freeHandlesOn (gO E (1, yX5_freeHandlesOn, 3, none, sz, A) Q) 2 [(0, .ref (gAd E (32))), (1, .int (x)), (2, .int (nI (j)))] [] f := by
  obtain ⟨z1, z2, z3, z4, z5, z6, z7⟩ := id hz
  intro d
  induction d with
  | zero =>
    intro j e f h hf
    have e : j = 32 := e
    refine G.go tv_X5_freeHandlesOn 2 5 [(0, .ref (gAd E (32))), (1, .int (x)), (2, .int (nI (j)))] [.int ((32 : Int32)), .int (nI (j))] rfl ?_
    refine G.cmp_ge 31 (tbd tv_X5_freeHandlesOn rfl) (by decide) (fun c5 => ?_) (fun c5 => absurd (by rw [e]; exact (nI_le (Nat.le_refl _) (by omega) : nI 32 ≤ nI 32)) c5)
    refine G.eql [(0, .ref (gAd E (32))), (1, .int (x)), (2, .int (nI (32)))] (by rw [e]) ?_
    exact kq _ (by have q9 := h; first | (rw [e] at q9; exact q9) | exact q9) (hf)
  | succ d ih =>
    intro j e f h hf
    refine G.go tv_X5_freeHandlesOn 2 5 [(0, .ref (gAd E (32))), (1, .int (x)), (2, .int (nI (j)))] [.int ((32 : Int32)), .int (nI (j))] rfl ?_
    refine G.cmp_ge 31 (tbd tv_X5_freeHandlesOn rfl) (by decide) (fun c5 => absurd c5 ((nI_ge (by omega) (by omega) : ¬ nI 32 ≤ nI j))) (fun c5 => ?_)
    refine G.go tv_X5_freeHandlesOn 1 9 [(0, .ref (gAd E (32))), (1, .int (x)), (2, .int (nI (j)))] [.ref (gAd E (32))] rfl ?_
    refine G.getf cls_X5 (32) 1 (by omega) (h.q32) (by decide) rfl (tbd tv_X5_freeHandlesOn rfl) w_457 ?_
    refine G.go tv_X5_freeHandlesOn 1 13 [(0, .ref (gAd E (32))), (1, .int (x)), (2, .int (nI (j)))] [.int (nI (j)), .ref (gAd E (34))] rfl ?_
    refine G.ialdN (34) (j) (by omega) (h.q34) (by omega) (by omega) (tbd tv_X5_freeHandlesOn rfl) ?_
    refine G.eqs [.int ((rpN (cA C 34) x (j)) (j))] rfl ?_
    refine G.eqs [.int (cA C 34 j)] (by rw [rpN_at _ _ j j (Nat.le_refl _)]) ?_
    refine G.go tv_X5_freeHandlesOn 1 15 [(0, .ref (gAd E (32))), (1, .int (x)), (2, .int (nI (j)))] [.int (x), .int (cA C 34 j)] rfl ?_
    refine G.cmp_ne 25 (tbd tv_X5_freeHandlesOn rfl) (by decide) (fun c15 => ?_) (fun c15 => ?_)
    · skip
      refine G.go tv_X5_freeHandlesOn 2 2 [(0, .ref (gAd E (32))), (1, .int (x)), (2, .int (nI (j) + (1 : Int32)))] [] rfl ?_
      refine G.eql [(0, .ref (gAd E (32))), (1, .int (x)), (2, .int (nI (j + 1)))] (by rw [nI_1]) ?_
      exact ih (j + 1) (by omega) _ (by have q := h; rw [show rpN (cA C 34) x (j + 1) = _ from if_neg c15]; exact q) (hf)
    · skip
      refine G.go tv_X5_freeHandlesOn 1 19 [(0, .ref (gAd E (32))), (1, .int (x)), (2, .int (nI (j)))] [.ref (gAd E (32))] rfl ?_
      refine G.getf cls_X5 (32) 1 (by omega) (h.q32) (by decide) rfl (tbd tv_X5_freeHandlesOn rfl) w_457 ?_
      refine G.go tv_X5_freeHandlesOn 2 24 [(0, .ref (gAd E (32))), (1, .int (x)), (2, .int (nI (j)))] [.int ((0 : Int32)), .int (nI (j)), .ref (gAd E (34))] rfl ?_
      refine G.iastN (34) (j) (by omega) (h.q34) (by omega) (by omega) (tbd tv_X5_freeHandlesOn rfl) ?_
      refine G.gen (P := fun u => CfV E u N B gr (sA (sA C 34 (rpN (cA C 34) x (j))) 34 (upd (rpN (cA C 34) x (j)) (j) ((0 : Int32)))) ∧ Fr CfK f0 u) ⟨h.p34 _, Fr.c hf (by first | exact Or.inl (by decide) | exact Or.inr (by omega))⟩ (fun u4 p4 => ?_)
      obtain ⟨h4, k4⟩ := p4
      refine G.go tv_X5_freeHandlesOn 2 2 [(0, .ref (gAd E (32))), (1, .int (x)), (2, .int (nI (j) + (1 : Int32)))] [] rfl ?_
      refine G.eql [(0, .ref (gAd E (32))), (1, .int (x)), (2, .int (nI (j + 1)))] (by rw [nI_1]) ?_
      exact ih (j + 1) (by omega) _ (by have q := h4; rw [show rpN (cA C 34) x (j + 1) = _ from if_pos c15]; exact q) (k4)
theorem sA_id {C : CfT} {k : Nat} : sA C k (cA C k) = C := by
  obtain ⟨a, b, c⟩ := C
  show (a, va_up b k (b k), c) = (a, b, c)
  congr 2
  funext i
  show (if i = k then b k else b i) = b i
  split
  · next e => rw [e]
  · rfl
set_option maxRecDepth 100000 in
set_option maxHeartbeats 4000000 in
theorem c_X5_freeHandlesOn (E : gE) (f : Nat → va_E) (N B gr : Nat) (C : CfT) (hz : CfZ E N B gr) (h : CfV E f N B gr C) (x : Int32) : Ct E 1 yX5_freeHandlesOn cX5_freeHandlesOn 3 none [.ref (gAd E (32)), .int (x)] f (fun v g => v = none ∧ CfV E g N B gr (sA C 34 (rpN (cA C 34) x 32)) ∧ Fr CfK f g, fun _ _ => False) := by
  obtain ⟨z1, z2, z3, z4, z5, z6, z7⟩ := id hz
  refine Ct.of (by decide) (Nat.le_of_ble_eq_true rfl) (fun sz => ?_)
  refine G.eql [(0, .ref (gAd E (32))), (1, .int (x))] rfl ?_
  refine G.go tv_X5_freeHandlesOn 2 2 [(0, .ref (gAd E (32))), (1, .int (x)), (2, .int ((0 : Int32)))] [] rfl ?_
  refine G.eql [(0, .ref (gAd E (32))), (1, .int (x)), (2, .int (nI (0)))] rfl ?_
  refine fh_l E f _ _ _ N B gr C hz x (fun g h1 hf1 => ?_) 32 0 (by omega) _ (show CfV E _ N B gr (sA C 34 (rpN (cA C 34) x 0)) from by rw [show sA C 34 (rpN (cA C 34) x 0) = C from sA_id]; exact h) Fr.rf
  exact G.vret rfl (⟨rfl, h1, hf1⟩) (tbd tv_X5_freeHandlesOn rfl)
def tb_X5_reset : List (Nat × Instr × Nat) := [(0, .aload_n 0, 1), (1, .getfield 9, 3), (4, .iconst 0, 1), (5, .invokestatic 24, 3), (8, .aload_n 0, 1), (9, .getfield 15, 3), (12, .iconst 0, 1), (13, .invokestatic 24, 3), (16, .return_, 1)]
theorem tv_X5_reset : Tv cX5_reset tb_X5_reset := by
  unfold Tv
  decide +kernel
theorem w_869 : Cond.methodLink "LedgerFiles$Holders" 24 yJ7_fill_53178 ∈ TB := tp_4 3 (by decide +kernel) rfl
theorem cw_X5_24 : Cw RX5 24 yJ7_fill_53178 cJ7_fill_53178 4 none 2 := ⟨w_869, w_224, w_151, by decide +kernel, by decide +kernel, by decide⟩
set_option maxRecDepth 100000 in
set_option maxHeartbeats 4000000 in
theorem c_X5_reset (E : gE) (f : Nat → va_E) (N B gr : Nat) (C : CfT) (hz : CfZ E N B gr) (h : CfV E f N B gr C)  : Ct E 2 yX5_reset cX5_reset 1 none [.ref (gAd E (32))] f (fun v g => v = none ∧ CfV E g N B gr (sA (sA C 33 (flt (cA C 33) 0 65 0)) 34 (flt (cA C 34) 0 32 0)) ∧ Fr CfK f g, fun _ _ => False) := by
  obtain ⟨z1, z2, z3, z4, z5, z6, z7⟩ := id hz
  refine Ct.of (by decide) (Nat.le_of_ble_eq_true rfl) (fun sz => ?_)
  refine G.eql [(0, .ref (gAd E (32)))] rfl ?_
  refine G.go tv_X5_reset 1 1 [(0, .ref (gAd E (32)))] [.ref (gAd E (32))] rfl ?_
  refine G.getf cls_X5 (32) 0 (by omega) (h.q32) (by decide) rfl (tbd tv_X5_reset rfl) w_455 ?_
  refine G.go tv_X5_reset 1 5 [(0, .ref (gAd E (32)))] [.int ((0 : Int32)), .ref (gAd E (33))] rfl ?_
  refine G.callS [.ref (gAd E (33)), .int ((0 : Int32))] [] (c_J7_fill_53178 E _ (33) (65) (cA C 33) ((0 : Int32)) (by omega) (h.q33) (by omega)) cw_X5_24 w_223 (Nat.le_of_ble_eq_true rfl) rfl (Nat.le_of_ble_eq_true rfl) (tbd tv_X5_reset rfl) (fun v1 f1 q1 => ?_) (fun _ _ h => h.elim)
  obtain ⟨rfl, rfl⟩ := q1
  refine G.eqs [] rfl ?_
  refine G.gen (P := fun u => CfV E u N B gr (sA (C) 33 (flt (cA C 33) 0 (65) ((0 : Int32)))) ∧ Fr CfK f u) ⟨h.p33 _, Fr.c Fr.rf (by first | exact Or.inl (by decide) | exact Or.inr (by omega))⟩ (fun u5 p5 => ?_)
  obtain ⟨h5, k5⟩ := p5
  refine G.go tv_X5_reset 1 9 [(0, .ref (gAd E (32)))] [.ref (gAd E (32))] rfl ?_
  refine G.getf cls_X5 (32) 1 (by omega) (h5.q32) (by decide) rfl (tbd tv_X5_reset rfl) w_457 ?_
  refine G.go tv_X5_reset 1 13 [(0, .ref (gAd E (32)))] [.int ((0 : Int32)), .ref (gAd E (34))] rfl ?_
  refine G.callS [.ref (gAd E (34)), .int ((0 : Int32))] [] (c_J7_fill_53178 E _ (34) (32) (cA C 34) ((0 : Int32)) (by omega) (h5.q34) (by omega)) cw_X5_24 w_223 (Nat.le_of_ble_eq_true rfl) rfl (Nat.le_of_ble_eq_true rfl) (tbd tv_X5_reset rfl) (fun v2 f2 q2 => ?_) (fun _ _ h => h.elim)
  obtain ⟨rfl, rfl⟩ := q2
  refine G.eqs [] rfl ?_
  refine G.gen (P := fun u => CfV E u N B gr (sA (sA (C) 33 (flt (cA C 33) 0 (65) ((0 : Int32)))) 34 (flt (cA C 34) 0 (32) ((0 : Int32)))) ∧ Fr CfK f u) ⟨h5.p34 _, Fr.c k5 (by first | exact Or.inl (by decide) | exact Or.inr (by omega))⟩ (fun u6 p6 => ?_)
  obtain ⟨h6, k6⟩ := p6
  exact G.vret rfl (⟨rfl, h6, k6⟩) (tbd tv_X5_reset rfl)
