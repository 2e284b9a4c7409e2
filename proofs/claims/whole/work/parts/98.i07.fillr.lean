def tb_J7_rangeCheck_23922 : List (Nat × Instr × Nat) := [(0, .iload_n 1, 1), (1, .iload_n 2, 1), (2, .if_icmp .le 44, 3), (5, .new 43, 3), (8, .dup, 1), (9, .new 45, 3), (12, .dup, 1), (13, .invokespecial 47, 3), (16, .ldc 48, 2), (18, .invokevirtual 50, 3), (21, .iload_n 1, 1), (22, .invokevirtual 54, 3), (25, .ldc 57, 2), (27, .invokevirtual 50, 3), (30, .iload_n 2, 1), (31, .invokevirtual 54, 3), (34, .ldc 59, 2), (36, .invokevirtual 50, 3), (39, .invokevirtual 61, 3), (42, .invokespecial 65, 3), (45, .athrow, 1), (46, .iload_n 1, 1), (47, .ifCond .ge 12, 3), (50, .new 68, 3), (53, .dup, 1), (54, .iload_n 1, 1), (55, .invokespecial 70, 3), (58, .athrow, 1), (59, .iload_n 2, 1), (60, .iload_n 0, 1), (61, .if_icmp .le 12, 3), (64, .new 68, 3), (67, .dup, 1), (68, .iload_n 2, 1), (69, .invokespecial 70, 3), (72, .athrow, 1), (73, .return_, 1)]
theorem tv_J7_rangeCheck_23922 : Tv cJ7_rangeCheck_23922 tb_J7_rangeCheck_23922 := by
  unfold Tv
  decide +kernel
set_option maxRecDepth 100000 in
set_option maxHeartbeats 4000000 in
theorem c_J7_rangeCheck_23922 (E : gE) (f : Nat → va_E) (n a z : Nat) (h1 : a ≤ z) (h2 : z ≤ n) (hn : n < 2 ^ 31) : Ct E 1 yJ7_rangeCheck_23922 cJ7_rangeCheck_23922 3 none [.int (nI n), .int (nI a), .int (nI z)] f (fun v f' => v = none ∧ f = f', fun _ _ => False) := by
  refine Ct.of (by decide) (Nat.le_of_ble_eq_true rfl) (fun sz => ?_)
  refine G.eql [(0, .int (nI n)), (1, .int (nI a)), (2, .int (nI z))] rfl ?_
  refine G.go tv_J7_rangeCheck_23922 2 2 [(0, .int (nI n)), (1, .int (nI a)), (2, .int (nI z))] [.int (nI z), .int (nI a)] rfl ?_
  refine G.cmp_le 46 (tbd tv_J7_rangeCheck_23922 rfl) (by decide) (fun c2 => ?_) (fun c2 => absurd (nI_le h1 (by omega)) c2)
  refine G.go tv_J7_rangeCheck_23922 1 47 [(0, .int (nI n)), (1, .int (nI a)), (2, .int (nI z))] [.int (nI a)] rfl ?_
  refine G.if_ge 59 (tbd tv_J7_rangeCheck_23922 rfl) (by decide) (fun c47 => ?_) (fun c47 => absurd (nI_le (Nat.zero_le _) (by omega)) c47)
  refine G.go tv_J7_rangeCheck_23922 2 61 [(0, .int (nI n)), (1, .int (nI a)), (2, .int (nI z))] [.int (nI n), .int (nI z)] rfl ?_
  refine G.cmp_le 73 (tbd tv_J7_rangeCheck_23922 rfl) (by decide) (fun c61 => ?_) (fun c61 => absurd (nI_le h2 (by omega)) c61)
  exact G.vret rfl ⟨rfl, rfl⟩ (tbd tv_J7_rangeCheck_23922 rfl)
def tb_J7_fill_fda19 : List (Nat × Instr × Nat) := [(0, .aload_n 0, 1), (1, .arraylength, 1), (2, .iload_n 1, 1), (3, .iload_n 2, 1), (4, .invokestatic 13, 3), (7, .iload_n 1, 1), (8, .istore 4, 2), (10, .iload 4, 2), (12, .iload_n 2, 1), (13, .if_icmp .ge 14, 3), (16, .aload_n 0, 1), (17, .iload 4, 2), (19, .iload_n 3, 1), (20, .iastore, 1), (21, .iinc 4 1, 3), (24, .goto (-14), 3), (27, .return_, 1)]
theorem tv_J7_fill_fda19 : Tv cJ7_fill_fda19 tb_J7_fill_fda19 := by
  unfold Tv
  decide +kernel
set_option maxRecDepth 100000 in
set_option maxHeartbeats 4000000 in
theorem fl_J7_fill_fda19 (E : gE) (f : Nat → va_E) (sz : Nat) (A : Nat → Prop) (Q : gQ) (k n a z : Nat) (g : Nat → Int32) (x : Int32) (hk : k < gN E) (hn : n < 2 ^ 31) (hz : z ≤ n) (hq : Q.1 none (va_up f k (oI (gDA E) n (flt g a z (x))))) : ∀ (d j : Nat), j + d = z → a ≤ j → G E (2, yJ7_fill_fda19, 5, none, sz, A) cJ7_fill_fda19 (gO E (2, yJ7_fill_fda19, 5, none, sz, A) Q) 10 [(0, .ref (gAd E (k))), (1, .int (nI a)), (2, .int (nI z)), (3, .int (x)), (4, .int (nI (j)))] [] (va_up f k (oI (gDA E) n (flt g a j (x)))) := by
  intro d
  induction d with
  | zero =>
    intro j e ha
    have e : z = j := e.symm
    have hq : Q.1 none (va_up f k (oI (gDA E) n (flt g a j (x)))) := by rw [e] at hq; exact hq
    refine G.go tv_J7_fill_fda19 2 13 [(0, .ref (gAd E (k))), (1, .int (nI a)), (2, .int (nI z)), (3, .int (x)), (4, .int (nI (j)))] [.int (nI z), .int (nI (j))] rfl ?_
    refine G.cmp_ge 27 (tbd tv_J7_fill_fda19 rfl) (by decide) (fun c13 => ?_) (fun c13 => absurd (by rw [e]; exact nI_le (Nat.le_refl _) (by omega)) c13)
    exact G.vret rfl hq (tbd tv_J7_fill_fda19 rfl)
  | succ d ih =>
    intro j e ha
    refine G.go tv_J7_fill_fda19 2 13 [(0, .ref (gAd E (k))), (1, .int (nI a)), (2, .int (nI z)), (3, .int (x)), (4, .int (nI (j)))] [.int (nI z), .int (nI (j))] rfl ?_
    refine G.cmp_ge 27 (tbd tv_J7_fill_fda19 rfl) (by decide) (fun c13 => absurd c13 (nI_ge (by omega) (by omega))) (fun c13 => ?_)
    refine G.go tv_J7_fill_fda19 3 20 [(0, .ref (gAd E (k))), (1, .int (nI a)), (2, .int (nI z)), (3, .int (x)), (4, .int (nI (j)))] [.int (x), .int (nI (j)), .ref (gAd E (k))] rfl ?_
    refine G.iastN (k) (j) hk (up_e) (by omega) (hn) (tbd tv_J7_fill_fda19 rfl) ?_
    refine G.go tv_J7_fill_fda19 2 10 [(0, .ref (gAd E (k))), (1, .int (nI a)), (2, .int (nI z)), (3, .int (x)), (4, .int (nI (j) + (1 : Int32)))] [] rfl ?_
    refine G.eql [(0, .ref (gAd E (k))), (1, .int (nI a)), (2, .int (nI z)), (3, .int (x)), (4, .int (nI (j + 1)))] (by rw [nI_1]) ?_
    refine G.eqf (va_up f k (oI (gDA E) n (flt g a (j + 1) (x)))) (by rw [bx_uu, flt_s (by omega)]) ?_
    exact ih (j + 1) (by omega) (by omega)
theorem w_1007 : Cond.methodLink "java/util/Arrays" 13 yJ7_rangeCheck_23922 ∈ TB := tp_4 141 (by decide +kernel) rfl
theorem w_1009 : Cond.code yJ7_rangeCheck_23922 prog_30_method_30_code 3 none ∈ TB := tp_4 143 rfl rfl
theorem cw_J7_13 : Cw RJ7 13 yJ7_rangeCheck_23922 cJ7_rangeCheck_23922 3 none 3 := ⟨w_1007, w_1009, w_151, by decide +kernel, by decide +kernel, by decide⟩
theorem w_1008 : Cond.static yJ7_rangeCheck_23922 ∈ TB := tp_4 142 (by decide +kernel) rfl
set_option maxRecDepth 100000 in
set_option maxHeartbeats 4000000 in
theorem c_J7_fill_fda19 (E : gE) (f : Nat → va_E) (k n a z : Nat) (g : Nat → Int32) (x : Int32) (hk : k < gN E) (he : f k = oI (gDA E) n g) (hn : n < 2 ^ 31) (h1 : a ≤ z) (h2 : z ≤ n) : Ct E 2 yJ7_fill_fda19 cJ7_fill_fda19 5 none [.ref (gAd E (k)), .int (nI a), .int (nI z), .int (x)] f (fun v f' => v = none ∧ f' = va_up f k (oI (gDA E) n (flt g a z (x))), fun _ _ => False) := by
  refine Ct.of (by decide) (Nat.le_of_ble_eq_true rfl) (fun sz => ?_)
  refine G.eql [(0, .ref (gAd E (k))), (1, .int (nI a)), (2, .int (nI z)), (3, .int (x))] rfl ?_
  refine G.go tv_J7_fill_fda19 1 1 [(0, .ref (gAd E (k))), (1, .int (nI a)), (2, .int (nI z)), (3, .int (x))] [.ref (gAd E (k))] rfl ?_
  refine G.alen (k) 1 hk (he) rfl rfl (tbd tv_J7_fill_fda19 rfl) ?_
  refine G.go tv_J7_fill_fda19 2 4 [(0, .ref (gAd E (k))), (1, .int (nI a)), (2, .int (nI z)), (3, .int (x))] [.int (nI z), .int (nI a), .int (nI (n))] rfl ?_
  refine G.callS [.int (nI (n)), .int (nI a), .int (nI z)] [] (c_J7_rangeCheck_23922 E _ n a z h1 h2 hn) cw_J7_13 w_1008 (Nat.le_of_ble_eq_true rfl) rfl (Nat.le_of_ble_eq_true rfl) (tbd tv_J7_fill_fda19 rfl) (fun v1 f1 q1 => ?_) (fun _ _ h => h.elim)
  obtain ⟨rfl, rfl⟩ := q1
  refine G.eqs [] rfl ?_
  refine G.go tv_J7_fill_fda19 2 10 [(0, .ref (gAd E (k))), (1, .int (nI a)), (2, .int (nI z)), (3, .int (x)), (4, .int (nI a))] [] rfl ?_
  refine G.eqf (va_up f k (oI (gDA E) n (flt g a a (x)))) (by rw [flt_0]; exact up_id he) ?_
  refine fl_J7_fill_fda19 E f _ _ _ k n a z g x hk hn h2 ?_ (z - a) a (by omega) (Nat.le_refl _)
  exact ⟨rfl, rfl⟩
def tb_J7_fill_eb02e : List (Nat × Instr × Nat) := [(0, .aload_n 0, 1), (1, .arraylength, 1), (2, .iload_n 1, 1), (3, .iload_n 2, 1), (4, .invokestatic 13, 3), (7, .iload_n 1, 1), (8, .istore 4, 2), (10, .iload 4, 2), (12, .iload_n 2, 1), (13, .if_icmp .ge 14, 3), (16, .aload_n 0, 1), (17, .iload 4, 2), (19, .iload_n 3, 1), (20, .bastore, 1), (21, .iinc 4 1, 3), (24, .goto (-14), 3), (27, .return_, 1)]
theorem tv_J7_fill_eb02e : Tv cJ7_fill_eb02e tb_J7_fill_eb02e := by
  unfold Tv
  decide +kernel
set_option maxRecDepth 100000 in
set_option maxHeartbeats 4000000 in
theorem fl_J7_fill_eb02e (E : gE) (f : Nat → va_E) (sz : Nat) (A : Nat → Prop) (Q : gQ) (k n a z : Nat) (g : Nat → Int32) (x : Int32) (hk : k < gN E) (hn : n < 2 ^ 31) (hz : z ≤ n) (hq : Q.1 none (va_up f k (oB (gDA E) n (flt g a z (vp_nar .byte x))))) : ∀ (d j : Nat), j + d = z → a ≤ j → G E (2, yJ7_fill_eb02e, 5, none, sz, A) cJ7_fill_eb02e (gO E (2, yJ7_fill_eb02e, 5, none, sz, A) Q) 10 [(0, .ref (gAd E (k))), (1, .int (nI a)), (2, .int (nI z)), (3, .int (x)), (4, .int (nI (j)))] [] (va_up f k (oB (gDA E) n (flt g a j (vp_nar .byte x)))) := by
  intro d
  induction d with
  | zero =>
    intro j e ha
    have e : z = j := e.symm
    have hq : Q.1 none (va_up f k (oB (gDA E) n (flt g a j (vp_nar .byte x)))) := by rw [e] at hq; exact hq
    refine G.go tv_J7_fill_eb02e 2 13 [(0, .ref (gAd E (k))), (1, .int (nI a)), (2, .int (nI z)), (3, .int (x)), (4, .int (nI (j)))] [.int (nI z), .int (nI (j))] rfl ?_
    refine G.cmp_ge 27 (tbd tv_J7_fill_eb02e rfl) (by decide) (fun c13 => ?_) (fun c13 => absurd (by rw [e]; exact nI_le (Nat.le_refl _) (by omega)) c13)
    exact G.vret rfl hq (tbd tv_J7_fill_eb02e rfl)
  | succ d ih =>
    intro j e ha
    refine G.go tv_J7_fill_eb02e 2 13 [(0, .ref (gAd E (k))), (1, .int (nI a)), (2, .int (nI z)), (3, .int (x)), (4, .int (nI (j)))] [.int (nI z), .int (nI (j))] rfl ?_
    refine G.cmp_ge 27 (tbd tv_J7_fill_eb02e rfl) (by decide) (fun c13 => absurd c13 (nI_ge (by omega) (by omega))) (fun c13 => ?_)
    refine G.go tv_J7_fill_eb02e 3 20 [(0, .ref (gAd E (k))), (1, .int (nI a)), (2, .int (nI z)), (3, .int (x)), (4, .int (nI (j)))] [.int (x), .int (nI (j)), .ref (gAd E (k))] rfl ?_
    refine G.bastN (k) (j) hk (up_e) (by omega) (hn) (tbd tv_J7_fill_eb02e rfl) ?_
    refine G.go tv_J7_fill_eb02e 2 10 [(0, .ref (gAd E (k))), (1, .int (nI a)), (2, .int (nI z)), (3, .int (x)), (4, .int (nI (j) + (1 : Int32)))] [] rfl ?_
    refine G.eql [(0, .ref (gAd E (k))), (1, .int (nI a)), (2, .int (nI z)), (3, .int (x)), (4, .int (nI (j + 1)))] (by rw [nI_1]) ?_
    refine G.eqf (va_up f k (oB (gDA E) n (flt g a (j + 1) (vp_nar .byte x)))) (by rw [bx_uu, flt_s (by omega)]) ?_
    exact ih (j + 1) (by omega) (by omega)
set_option maxRecDepth 100000 in
set_option maxHeartbeats 4000000 in
theorem c_J7_fill_eb02e (E : gE) (f : Nat → va_E) (k n a z : Nat) (g : Nat → Int32) (x : Int32) (hk : k < gN E) (he : f k = oB (gDA E) n g) (hn : n < 2 ^ 31) (h1 : a ≤ z) (h2 : z ≤ n) : Ct E 2 yJ7_fill_eb02e cJ7_fill_eb02e 5 none [.ref (gAd E (k)), .int (nI a), .int (nI z), .int (x)] f (fun v f' => v = none ∧ f' = va_up f k (oB (gDA E) n (flt g a z (vp_nar .byte x))), fun _ _ => False) := by
  refine Ct.of (by decide) (Nat.le_of_ble_eq_true rfl) (fun sz => ?_)
  refine G.eql [(0, .ref (gAd E (k))), (1, .int (nI a)), (2, .int (nI z)), (3, .int (x))] rfl ?_
  refine G.go tv_J7_fill_eb02e 1 1 [(0, .ref (gAd E (k))), (1, .int (nI a)), (2, .int (nI z)), (3, .int (x))] [.ref (gAd E (k))] rfl ?_
  refine G.alen (k) 0 hk (he) rfl rfl (tbd tv_J7_fill_eb02e rfl) ?_
  refine G.go tv_J7_fill_eb02e 2 4 [(0, .ref (gAd E (k))), (1, .int (nI a)), (2, .int (nI z)), (3, .int (x))] [.int (nI z), .int (nI a), .int (nI (n))] rfl ?_
  refine G.callS [.int (nI (n)), .int (nI a), .int (nI z)] [] (c_J7_rangeCheck_23922 E _ n a z h1 h2 hn) cw_J7_13 w_1008 (Nat.le_of_ble_eq_true rfl) rfl (Nat.le_of_ble_eq_true rfl) (tbd tv_J7_fill_eb02e rfl) (fun v1 f1 q1 => ?_) (fun _ _ h => h.elim)
  obtain ⟨rfl, rfl⟩ := q1
  refine G.eqs [] rfl ?_
  refine G.go tv_J7_fill_eb02e 2 10 [(0, .ref (gAd E (k))), (1, .int (nI a)), (2, .int (nI z)), (3, .int (x)), (4, .int (nI a))] [] rfl ?_
  refine G.eqf (va_up f k (oB (gDA E) n (flt g a a (vp_nar .byte x)))) (by rw [flt_0]; exact up_id he) ?_
  refine fl_J7_fill_eb02e E f _ _ _ k n a z g x hk hn h2 ?_ (z - a) a (by omega) (Nat.le_refl _)
  exact ⟨rfl, rfl⟩
