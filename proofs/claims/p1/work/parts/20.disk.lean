/-- the number in two bytes, in four -/
def v_two (g : Nat → Int32) (t : Nat) : Int32 := (g t &&& 255) ||| ((g (t + 1) &&& 255) <<< ((8 : Int32) &&& 31))
def v_four (g : Nat → Int32) (t : Nat) : Int32 := v_two g t ||| (v_two g (t + 2) <<< ((16 : Int32) &&& 31))
/-- two bytes set, four -/
def s_two (g : Nat → Int32) (t : Nat) (v : Int32) : Nat → Int32 := upd (upd g t (vp_nar .byte v.toInt8.toInt32)) (t + 1) (vp_nar .byte (v >>> ((8 : Int32) &&& 31)).toInt8.toInt32)
def s_four (g : Nat → Int32) (t : Nat) (v : Int32) : Nat → Int32 := s_two (s_two g t v) (t + 2) (v >>> ((16 : Int32) &&& 31))
def tb_X2_two : List (Nat × Instr × Nat) := [(0, .iload_n 1, 1), (1, .ifCond .lt 11, 3), (4, .iload_n 1, 1), (5, .iconst 1, 1), (6, .iadd, 1), (7, .aload_n 0, 1), (8, .arraylength, 1), (9, .if_icmp .lt 7, 3), (12, .iconst 0, 1), (13, .goto 23, 3), (16, .aload_n 0, 1), (17, .iload_n 1, 1), (18, .baload, 1), (19, .sipush 255, 3), (22, .iand, 1), (23, .aload_n 0, 1), (24, .iload_n 1, 1), (25, .iconst 1, 1), (26, .iadd, 1), (27, .baload, 1), (28, .sipush 255, 3), (31, .iand, 1), (32, .bipush 8, 2), (34, .ishl, 1), (35, .ior, 1), (36, .ireturn, 1)]
theorem tv_X2_two : Tv cX2_two tb_X2_two := by
  unfold Tv
  decide +kernel
set_option maxRecDepth 100000 in
set_option maxHeartbeats 4000000 in
theorem c_X2_two (E : gE) (f : Nat → va_E) (k t n : Nat) (g : Nat → Int32) (hk : k < gN E) (he : f k = oB (gDA E) n g) (ht : t + 1 < n) (hn : n < 2 ^ 31) : Ct E 1 yX2_two cX2_two 2 (some .int) [.ref (gAd E (k)), .int (nI t)] f (fun v f' => f = f' ∧ v = some (.int (v_two g t)), fun _ _ => False) := by
  refine Ct.of (by decide) (Nat.le_of_ble_eq_true rfl) (fun sz => ?_)
  refine G.eql [(0, .ref (gAd E (k))), (1, .int (nI t))] rfl ?_
  refine G.go tv_X2_two 1 1 [(0, .ref (gAd E (k))), (1, .int (nI t))] [.int (nI t)] rfl ?_
  refine G.if_lt 12 (tbd tv_X2_two rfl) (by decide) (fun c1 => absurd c1 (nI_pos (by omega))) (fun c1 => ?_)
  refine G.go tv_X2_two 4 8 [(0, .ref (gAd E (k))), (1, .int (nI t))] [.ref (gAd E (k)), .int ((nI t) + ((1 : Int32)))] rfl ?_
  refine G.alen (k) 0 hk (he) rfl rfl (tbd tv_X2_two rfl) ?_
  refine G.cmp_lt 16 (tbd tv_X2_two rfl) (by decide) (fun c9 => ?_) (fun c9 => absurd (by rw [nI_1]; exact nI_lt (by omega) (by omega)) c9)
  refine G.go tv_X2_two 2 18 [(0, .ref (gAd E (k))), (1, .int (nI t))] [.int (nI t), .ref (gAd E (k))] rfl ?_
  refine G.baldN (k) (t) hk (he) (by omega) (hn) (tbd tv_X2_two rfl) ?_
  refine G.go tv_X2_two 6 27 [(0, .ref (gAd E (k))), (1, .int (nI t))] [.int ((nI t) + ((1 : Int32))), .ref (gAd E (k)), .int (((g) (t)) &&& ((255 : Int32)))] rfl ?_
  refine G.eqs [.int (nI (t + 1)), .ref (gAd E (k)), .int (((g) (t)) &&& ((255 : Int32)))] (by rw [nI_1]) ?_
  refine G.baldN (k) (t + 1) hk (he) (by omega) (hn) (tbd tv_X2_two rfl) ?_
  refine G.go tv_X2_two 5 36 [(0, .ref (gAd E (k))), (1, .int (nI t))] [.int ((((g) (t)) &&& ((255 : Int32))) ||| ((((g) (t + 1)) &&& ((255 : Int32))) <<< (((8 : Int32)) &&& 31)))] rfl ?_
  exact G.iret rfl rfl (⟨rfl, rfl⟩) (tbd tv_X2_two rfl)
def tb_X2_four : List (Nat × Instr × Nat) := [(0, .aload_n 0, 1), (1, .iload_n 1, 1), (2, .invokestatic 46, 3), (5, .aload_n 0, 1), (6, .iload_n 1, 1), (7, .iconst 2, 1), (8, .iadd, 1), (9, .invokestatic 46, 3), (12, .bipush 16, 2), (14, .ishl, 1), (15, .ior, 1), (16, .ireturn, 1)]
theorem tv_X2_four : Tv cX2_four tb_X2_four := by
  unfold Tv
  decide +kernel
theorem w_877 : Cond.methodLink "LedgerFiles$Disk" 46 yX2_two ∈ TB := tp_4 11 (by decide +kernel) rfl
theorem w_879 : Cond.code yX2_two prog_4_method_2_code 2 (some .int) ∈ TB := tp_4 13 rfl rfl
theorem w_149 : Cond.initialized "LedgerFiles$Disk" ∈ TB := tp_1 3 (by decide +kernel) rfl
theorem cw_X2_46 : Cw RX2 46 yX2_two cX2_two 2 (some .int) 2 := ⟨w_877, w_879, w_149, by decide +kernel, by decide +kernel, by decide⟩
theorem w_878 : Cond.static yX2_two ∈ TB := tp_4 12 (by decide +kernel) rfl
set_option maxRecDepth 100000 in
set_option maxHeartbeats 4000000 in
theorem c_X2_four (E : gE) (f : Nat → va_E) (k t n : Nat) (g : Nat → Int32) (hk : k < gN E) (he : f k = oB (gDA E) n g) (ht : t + 3 < n) (hn : n < 2 ^ 31) : Ct E 2 yX2_four cX2_four 2 (some .int) [.ref (gAd E (k)), .int (nI t)] f (fun v f' => f = f' ∧ v = some (.int (v_four g t)), fun _ _ => False) := by
  refine Ct.of (by decide) (Nat.le_of_ble_eq_true rfl) (fun sz => ?_)
  refine G.eql [(0, .ref (gAd E (k))), (1, .int (nI t))] rfl ?_
  refine G.go tv_X2_four 2 2 [(0, .ref (gAd E (k))), (1, .int (nI t))] [.int (nI t), .ref (gAd E (k))] rfl ?_
  refine G.callS [.ref (gAd E (k)), .int (nI t)] [] (c_X2_two E f k t n g hk he (by omega) hn) cw_X2_46 w_878 (Nat.le_of_ble_eq_true rfl) rfl (Nat.le_of_ble_eq_true rfl) (tbd tv_X2_four rfl) (fun v1 f1 q1 => ?_) (fun _ _ h => h.elim)
  obtain ⟨rfl, rfl⟩ := q1
  refine G.eqs [.int (v_two g t)] rfl ?_
  refine G.go tv_X2_four 4 9 [(0, .ref (gAd E (k))), (1, .int (nI t))] [.int ((nI t) + ((2 : Int32))), .ref (gAd E (k)), .int (v_two g t)] rfl ?_
  refine G.eqs [.int (nI (t + 2)), .ref (gAd E (k)), .int (v_two g t)] (by rw [show nI t + 2 = nI (t + 2) from nI_add t 2]) ?_
  refine G.callS [.ref (gAd E (k)), .int (nI (t + 2))] [.int (v_two g t)] (c_X2_two E f k (t + 2) n g hk he (by omega) hn) cw_X2_46 w_878 (Nat.le_of_ble_eq_true rfl) rfl (Nat.le_of_ble_eq_true rfl) (tbd tv_X2_four rfl) (fun v2 f2 q2 => ?_) (fun _ _ h => h.elim)
  obtain ⟨rfl, rfl⟩ := q2
  refine G.eqs [.int (v_two g (t + 2)), .int (v_two g t)] rfl ?_
  refine G.go tv_X2_four 3 16 [(0, .ref (gAd E (k))), (1, .int (nI t))] [.int ((v_two g t) ||| ((v_two g (t + 2)) <<< (((16 : Int32)) &&& 31)))] rfl ?_
  exact G.iret rfl rfl (⟨rfl, rfl⟩) (tbd tv_X2_four rfl)
def tb_X2_setTwo : List (Nat × Instr × Nat) := [(0, .iload_n 1, 1), (1, .ifCond .lt 26, 3), (4, .iload_n 1, 1), (5, .iconst 1, 1), (6, .iadd, 1), (7, .aload_n 0, 1), (8, .arraylength, 1), (9, .if_icmp .ge 18, 3), (12, .aload_n 0, 1), (13, .iload_n 1, 1), (14, .iload_n 2, 1), (15, .i2b, 1), (16, .bastore, 1), (17, .aload_n 0, 1), (18, .iload_n 1, 1), (19, .iconst 1, 1), (20, .iadd, 1), (21, .iload_n 2, 1), (22, .bipush 8, 2), (24, .ishr, 1), (25, .i2b, 1), (26, .bastore, 1), (27, .return_, 1)]
theorem tv_X2_setTwo : Tv cX2_setTwo tb_X2_setTwo := by
  unfold Tv
  decide +kernel
set_option maxRecDepth 100000 in
set_option maxHeartbeats 4000000 in
theorem c_X2_setTwo (E : gE) (f : Nat → va_E) (k t n : Nat) (g : Nat → Int32) (hk : k < gN E) (he : f k = oB (gDA E) n g) (ht : t + 1 < n) (hn : n < 2 ^ 31) (v : Int32) : Ct E 1 yX2_setTwo cX2_setTwo 3 none [.ref (gAd E (k)), .int (nI t), .int (v)] f (fun r f' => r = none ∧ f' = va_up f k (oB (gDA E) n (s_two g t v)), fun _ _ => False) := by
  refine Ct.of (by decide) (Nat.le_of_ble_eq_true rfl) (fun sz => ?_)
  refine G.eql [(0, .ref (gAd E (k))), (1, .int (nI t)), (2, .int (v))] rfl ?_
  refine G.go tv_X2_setTwo 1 1 [(0, .ref (gAd E (k))), (1, .int (nI t)), (2, .int (v))] [.int (nI t)] rfl ?_
  refine G.if_lt 27 (tbd tv_X2_setTwo rfl) (by decide) (fun c1 => absurd c1 (nI_pos (by omega))) (fun c1 => ?_)
  refine G.go tv_X2_setTwo 4 8 [(0, .ref (gAd E (k))), (1, .int (nI t)), (2, .int (v))] [.ref (gAd E (k)), .int ((nI t) + ((1 : Int32)))] rfl ?_
  refine G.alen (k) 0 hk (he) rfl rfl (tbd tv_X2_setTwo rfl) ?_
  refine G.cmp_ge 27 (tbd tv_X2_setTwo rfl) (by decide) (fun c9 => absurd c9 (by rw [nI_1]; exact nI_ge (by omega) (by omega))) (fun c9 => ?_)
  refine G.go tv_X2_setTwo 4 16 [(0, .ref (gAd E (k))), (1, .int (nI t)), (2, .int (v))] [.int ((v : Int32).toInt8.toInt32), .int (nI t), .ref (gAd E (k))] rfl ?_
  refine G.bastN (k) (t) hk (he) (by omega) (hn) (tbd tv_X2_setTwo rfl) ?_
  refine G.go tv_X2_setTwo 8 26 [(0, .ref (gAd E (k))), (1, .int (nI t)), (2, .int (v))] [.int (((v) >>> (((8 : Int32)) &&& 31) : Int32).toInt8.toInt32), .int ((nI t) + ((1 : Int32))), .ref (gAd E (k))] rfl ?_
  refine G.eqs [.int (((v) >>> (((8 : Int32)) &&& 31) : Int32).toInt8.toInt32), .int (nI (t + 1)), .ref (gAd E (k))] (by rw [nI_1]) ?_
  refine G.bastN (k) (t + 1) hk (up_e) (by omega) (hn) (tbd tv_X2_setTwo rfl) ?_
  exact G.vret rfl (⟨rfl, bx_uu _ _ _ _⟩) (tbd tv_X2_setTwo rfl)
def tb_X2_setFour : List (Nat × Instr × Nat) := [(0, .aload_n 0, 1), (1, .iload_n 1, 1), (2, .iload_n 2, 1), (3, .invokestatic 50, 3), (6, .aload_n 0, 1), (7, .iload_n 1, 1), (8, .iconst 2, 1), (9, .iadd, 1), (10, .iload_n 2, 1), (11, .bipush 16, 2), (13, .ishr, 1), (14, .invokestatic 50, 3), (17, .return_, 1)]
theorem tv_X2_setFour : Tv cX2_setFour tb_X2_setFour := by
  unfold Tv
  decide +kernel
theorem w_792 : Cond.methodLink "LedgerFiles$Disk" 50 yX2_setTwo ∈ TB := tp_3 166 (by decide +kernel) rfl
theorem w_788 : Cond.code yX2_setTwo prog_4_method_4_code 3 none ∈ TB := tp_3 162 rfl rfl
theorem cw_X2_50 : Cw RX2 50 yX2_setTwo cX2_setTwo 3 none 3 := ⟨w_792, w_788, w_149, by decide +kernel, by decide +kernel, by decide⟩
theorem w_787 : Cond.static yX2_setTwo ∈ TB := tp_3 161 (by decide +kernel) rfl
set_option maxRecDepth 100000 in
set_option maxHeartbeats 4000000 in
theorem c_X2_setFour (E : gE) (f : Nat → va_E) (k t n : Nat) (g : Nat → Int32) (hk : k < gN E) (he : f k = oB (gDA E) n g) (ht : t + 3 < n) (hn : n < 2 ^ 31) (v : Int32) : Ct E 2 yX2_setFour cX2_setFour 3 none [.ref (gAd E (k)), .int (nI t), .int (v)] f (fun r f' => r = none ∧ f' = va_up f k (oB (gDA E) n (s_four g t v)), fun _ _ => False) := by
  refine Ct.of (by decide) (Nat.le_of_ble_eq_true rfl) (fun sz => ?_)
  refine G.eql [(0, .ref (gAd E (k))), (1, .int (nI t)), (2, .int (v))] rfl ?_
  refine G.go tv_X2_setFour 3 3 [(0, .ref (gAd E (k))), (1, .int (nI t)), (2, .int (v))] [.int (v), .int (nI t), .ref (gAd E (k))] rfl ?_
  refine G.callS [.ref (gAd E (k)), .int (nI t), .int (v)] [] (c_X2_setTwo E f k t n g hk he (by omega) hn v) cw_X2_50 w_787 (Nat.le_of_ble_eq_true rfl) rfl (Nat.le_of_ble_eq_true rfl) (tbd tv_X2_setFour rfl) (fun v1 f1 q1 => ?_) (fun _ _ h => h.elim)
  obtain ⟨rfl, rfl⟩ := q1
  refine G.eqs [] rfl ?_
  refine G.go tv_X2_setFour 7 14 [(0, .ref (gAd E (k))), (1, .int (nI t)), (2, .int (v))] [.int ((v) >>> (((16 : Int32)) &&& 31)), .int ((nI t) + ((2 : Int32))), .ref (gAd E (k))] rfl ?_
  refine G.eqs [.int ((v) >>> (((16 : Int32)) &&& 31)), .int (nI (t + 2)), .ref (gAd E (k))] (by rw [show nI t + 2 = nI (t + 2) from nI_add t 2]) ?_
  refine G.callS [.ref (gAd E (k)), .int (nI (t + 2)), .int ((v) >>> (((16 : Int32)) &&& 31))] [] (c_X2_setTwo E _ k (t + 2) n _ hk up_e (by omega) hn _) cw_X2_50 w_787 (Nat.le_of_ble_eq_true rfl) rfl (Nat.le_of_ble_eq_true rfl) (tbd tv_X2_setFour rfl) (fun v2 f2 q2 => ?_) (fun _ _ h => h.elim)
  obtain ⟨rfl, rfl⟩ := q2
  refine G.eqs [] rfl ?_
  exact G.vret rfl (⟨rfl, bx_uu _ _ _ _⟩) (tbd tv_X2_setFour rfl)
