def tb_X12_slotOf : List (Nat × Instr × Nat) := [(0, .aload_n 0, 1), (1, .iload_n 1, 1), (2, .invokevirtual 344, 3), (5, .bipush 16, 2), (7, .idiv, 1), (8, .istore 4, 2), (10, .iconst 0, 1), (11, .istore 5, 2), (13, .iload 5, 2), (15, .iload 4, 2), (17, .if_icmp .ge 126, 3), (20, .aload_n 0, 1), (21, .aload_n 0, 1), (22, .iload_n 1, 1), (23, .iload 5, 2), (25, .bipush 8, 2), (27, .idiv, 1), (28, .invokevirtual 323, 3), (31, .iconst 1, 1), (32, .invokevirtual 236, 3), (35, .bipush 16, 2), (37, .iload 5, 2), (39, .bipush 8, 2), (41, .irem, 1), (42, .imul, 1), (43, .istore 6, 2), (45, .aload_n 0, 1), (46, .getfield 86, 3), (49, .iload 6, 2), (51, .iconst 2, 1), (52, .invokestatic 232, 3), (55, .ifCond .eq 20, 3), (58, .aload_n 0, 1), (59, .getfield 86, 3), (62, .iload 6, 2), (64, .iconst 2, 1), (65, .iadd, 1), (66, .baload, 1), (67, .iload_n 3, 1), (68, .if_icmp .ne 7, 3), (71, .iconst 1, 1), (72, .goto 4, 3), (75, .iconst 0, 1), (76, .istore 7, 2), (78, .iconst 0, 1), (79, .istore 8, 2), (81, .iload 8, 2), (83, .iload_n 3, 1), (84, .if_icmp .ge 45, 3), (87, .iload 7, 2), (89, .ifCond .eq 40, 3), (92, .aload_n 0, 1), (93, .getfield 86, 3), (96, .iload 6, 2), (98, .iconst 3, 1), (99, .iadd, 1), (100, .iload 8, 2), (102, .iadd, 1), (103, .baload, 1), (104, .aload_n 0, 1), (105, .getfield 7, 3), (108, .iload_n 2, 1), (109, .iload 8, 2), (111, .iadd, 1), (112, .baload, 1), (113, .if_icmp .ne 7, 3), (116, .iconst 1, 1), (117, .goto 4, 3), (120, .iconst 0, 1), (121, .istore 7, 2), (123, .iinc 8 1, 3), (126, .goto (-45), 3), (129, .iload 7, 2), (131, .ifCond .eq 6, 3), (134, .iload 5, 2), (136, .ireturn, 1), (137, .iinc 5 1, 3), (140, .goto (-127), 3), (143, .iconst (-1), 1), (144, .ireturn, 1)]
theorem tv_X12_slotOf : Tv cX12_slotOf tb_X12_slotOf := by
  unfold Tv
  decide +kernel
def e_slotOf_81  (self13 : RfT → Int32 → Int32 → Int32 → Int32 → Int32 → Option (Int32 × RfT)) : Nat → RfT → Int32 → Int32 → Int32 → Int32 → Int32 → Int32 → Int32 → Int32 → Option (Int32 × RfT)
  | 0, _, _, _, _, _, _, _, _, _ => none
  | n + 1, R, x1, x2, x3, x4, x5, x6, x7, x8 => if x3 ≤ x8 then if x7 = 0 then self13 R x1 x2 x3 x4 (x5 + (1 : Int32)) else some (x5, R) else if x7 = 0 then if x7 = 0 then self13 R x1 x2 x3 x4 (x5 + (1 : Int32)) else some (x5, R) else ld (rA R 43) 128 (((x6) + ((3 : Int32))) + (x8)) (fun v7 => ld (rA R 4) 1024 ((x2) + (x8)) (fun v8 => if v7 = v8 then e_slotOf_81  self13 n R x1 x2 x3 x4 x5 x6 ((1 : Int32)) (x8 + (1 : Int32)) else e_slotOf_81  self13 n R x1 x2 x3 x4 x5 x6 ((0 : Int32)) (x8 + (1 : Int32))))
def e_slotOf_13  : Nat → RfT → Int32 → Int32 → Int32 → Int32 → Int32 → Option (Int32 × RfT)
  | 0, _, _, _, _, _, _ => none
  | n + 1, R, x1, x2, x3, x4, x5 => if x4 ≤ x5 then some ((-1 : Int32), R) else bnd (e_blockOf R x1 ((x5) / ((8 : Int32)))) (fun v2 => bnd (e_see R v2 ((1 : Int32))) (fun R3 => nm (((16 : Int32)) * ((x5) - (x5) / ((8 : Int32)) * ((8 : Int32)))) (fun v4 => bnd (e_number_78 R3 v4 ((2 : Int32))) (fun v5 => if v5 = 0 then e_slotOf_81  (e_slotOf_13  n) fuL R3 x1 x2 x3 x4 x5 v4 ((0 : Int32)) ((0 : Int32)) else ld (rA R3 43) 128 ((v4) + ((2 : Int32))) (fun v6 => if v6 = x3 then e_slotOf_81  (e_slotOf_13  n) fuL R3 x1 x2 x3 x4 x5 v4 ((1 : Int32)) ((0 : Int32)) else e_slotOf_81  (e_slotOf_13  n) fuL R3 x1 x2 x3 x4 x5 v4 ((0 : Int32)) ((0 : Int32)))))))
def e_slotOf  (R : RfT) (a0 : Int32) (a1 : Int32) (a2 : Int32) : Option (Int32 × RfT) := bnd (e_size R a0) (fun v1 => e_slotOf_13  fuL R a0 a1 a2 ((v1) / ((16 : Int32))) ((0 : Int32)))
set_option maxRecDepth 100000 in
set_option maxHeartbeats 4000000 in
theorem l_X12_slotOf_81 (E : gE) (f0 : Nat → va_E) (sz : Nat) (QA : Nat → Prop) (hE : 94 ≤ gN E) (self13 : RfT → Int32 → Int32 → Int32 → Int32 → Int32 → Option (Int32 × RfT)) (hs13 : ∀ (R : RfT) (x1 : Int32) (x2 : Int32) (x3 : Int32) (x4 : Int32) (x5 : Int32) (r : Int32) (R9 : RfT) (hr : self13 R x1 x2 x3 x4 x5 = some (r, R9)) (f : Nat → va_E) (w : RW E f R) (hf : Fr RfK f0 f), G E (6, yX12_slotOf, 9, (some .int), sz, QA) cX12_slotOf (gO E (6, yX12_slotOf, 9, (some .int), sz, QA) (fun v g => v = some (.int r) ∧ RW E g R9 ∧ Fr RfK f0 g, fun _ _ => False)) 13 [(0, .ref (gAd E (56))), (1, .int (x1)), (2, .int (x2)), (3, .int (x3)), (4, .int (x4)), (5, .int (x5))] [] f) : ∀ (n : Nat), ∀ (R : RfT) (x1 : Int32) (x2 : Int32) (x3 : Int32) (x4 : Int32) (x5 : Int32) (x6 : Int32) (x7 : Int32) (x8 : Int32) (r : Int32) (R9 : RfT) (hr : e_slotOf_81  self13 n R x1 x2 x3 x4 x5 x6 x7 x8 = some (r, R9)) (f : Nat → va_E) (w : RW E f R) (hf : Fr RfK f0 f), G E (6, yX12_slotOf, 9, (some .int), sz, QA) cX12_slotOf (gO E (6, yX12_slotOf, 9, (some .int), sz, QA) (fun v g => v = some (.int r) ∧ RW E g R9 ∧ Fr RfK f0 g, fun _ _ => False)) 81 [(0, .ref (gAd E (56))), (1, .int (x1)), (2, .int (x2)), (3, .int (x3)), (4, .int (x4)), (5, .int (x5)), (6, .int (x6)), (7, .int (x7)), (8, .int (x8))] [] f := by
  intro n
  induction n with
  | zero =>
    intro R x1 x2 x3 x4 x5 x6 x7 x8 r R9 hr f w hf
    cases hr
  | succ n ih =>
    intro R x1 x2 x3 x4 x5 x6 x7 x8 r R9 hr f w hf
    obtain ⟨az, sy, r0⟩ := w
    unfold e_slotOf_81 at hr
    refine G.go tv_X12_slotOf 2 84 [(0, .ref (gAd E (56))), (1, .int (x1)), (2, .int (x2)), (3, .int (x3)), (4, .int (x4)), (5, .int (x5)), (6, .int (x6)), (7, .int (x7)), (8, .int (x8))] [.int (x3), .int (x8)] rfl ?_
    refine G.cmp_ge 129 (tbd tv_X12_slotOf rfl) (by decide) (fun c84 => ?_) (fun c84 => ?_)
    · replace hr := ite_t c84 hr
      refine G.go tv_X12_slotOf 1 131 [(0, .ref (gAd E (56))), (1, .int (x1)), (2, .int (x2)), (3, .int (x3)), (4, .int (x4)), (5, .int (x5)), (6, .int (x6)), (7, .int (x7)), (8, .int (x8))] [.int (x7)] rfl ?_
      refine G.if_eq 137 (tbd tv_X12_slotOf rfl) (by decide) (fun c131 => ?_) (fun c131 => ?_)
      · replace hr := ite_t c131 hr
        refine G.go tv_X12_slotOf 2 13 [(0, .ref (gAd E (56))), (1, .int (x1)), (2, .int (x2)), (3, .int (x3)), (4, .int (x4)), (5, .int (x5 + (1 : Int32))), (6, .int (x6)), (7, .int (x7)), (8, .int (x8))] [] rfl ?_
        refine G.less [(0, .ref (gAd E (56))), (1, .int (x1)), (2, .int (x2)), (3, .int (x3)), (4, .int (x4)), (5, .int (x5 + (1 : Int32)))] [0, 1, 2, 3, 4, 5] rfl ?_
        exact hs13 _ _ _ _ _ _ _ _ hr _ ⟨_, _, r0⟩ hf
      · replace hr := ite_f c131 hr
        refine G.go tv_X12_slotOf 1 136 [(0, .ref (gAd E (56))), (1, .int (x1)), (2, .int (x2)), (3, .int (x3)), (4, .int (x4)), (5, .int (x5)), (6, .int (x6)), (7, .int (x7)), (8, .int (x8))] [.int (x5)] rfl ?_
        cases hr
        exact G.iret rfl rfl ⟨rfl, ⟨_, _, r0⟩, hf⟩ (tbd tv_X12_slotOf rfl)
    · replace hr := ite_f c84 hr
      refine G.go tv_X12_slotOf 1 89 [(0, .ref (gAd E (56))), (1, .int (x1)), (2, .int (x2)), (3, .int (x3)), (4, .int (x4)), (5, .int (x5)), (6, .int (x6)), (7, .int (x7)), (8, .int (x8))] [.int (x7)] rfl ?_
      refine G.if_eq 129 (tbd tv_X12_slotOf rfl) (by decide) (fun c89 => ?_) (fun c89 => ?_)
      · replace hr := ite_t c89 hr
        refine G.go tv_X12_slotOf 1 131 [(0, .ref (gAd E (56))), (1, .int (x1)), (2, .int (x2)), (3, .int (x3)), (4, .int (x4)), (5, .int (x5)), (6, .int (x6)), (7, .int (x7)), (8, .int (x8))] [.int (x7)] rfl ?_
        refine G.if_eq 137 (tbd tv_X12_slotOf rfl) (by decide) (fun c131 => ?_) (fun c131 => ?_)
        · replace hr := ite_t c131 hr
          refine G.go tv_X12_slotOf 2 13 [(0, .ref (gAd E (56))), (1, .int (x1)), (2, .int (x2)), (3, .int (x3)), (4, .int (x4)), (5, .int (x5 + (1 : Int32))), (6, .int (x6)), (7, .int (x7)), (8, .int (x8))] [] rfl ?_
          refine G.less [(0, .ref (gAd E (56))), (1, .int (x1)), (2, .int (x2)), (3, .int (x3)), (4, .int (x4)), (5, .int (x5 + (1 : Int32)))] [0, 1, 2, 3, 4, 5] rfl ?_
          exact hs13 _ _ _ _ _ _ _ _ hr _ ⟨_, _, r0⟩ hf
        · replace hr := ite_f c131 hr
          refine G.go tv_X12_slotOf 1 136 [(0, .ref (gAd E (56))), (1, .int (x1)), (2, .int (x2)), (3, .int (x3)), (4, .int (x4)), (5, .int (x5)), (6, .int (x6)), (7, .int (x7)), (8, .int (x8))] [.int (x5)] rfl ?_
          cases hr
          exact G.iret rfl rfl ⟨rfl, ⟨_, _, r0⟩, hf⟩ (tbd tv_X12_slotOf rfl)
      · replace hr := ite_f c89 hr
        refine G.go tv_X12_slotOf 1 93 [(0, .ref (gAd E (56))), (1, .int (x1)), (2, .int (x2)), (3, .int (x3)), (4, .int (x4)), (5, .int (x5)), (6, .int (x6)), (7, .int (x7)), (8, .int (x8))] [.ref (gAd E (56))] rfl ?_
        refine G.rg r0 hE 43 (.ref (gAd E (78))) (by decide) rfl (tbd tv_X12_slotOf rfl) w_2108 ?_
        refine G.go tv_X12_slotOf 5 103 [(0, .ref (gAd E (56))), (1, .int (x1)), (2, .int (x2)), (3, .int (x3)), (4, .int (x4)), (5, .int (x5)), (6, .int (x6)), (7, .int (x7)), (8, .int (x8))] [.int (((x6) + ((3 : Int32))) + (x8)), .ref (gAd E (78))] rfl ?_
        obtain ⟨v7, b7, e7, hr⟩ := ld_s hr
        refine G.baldE (78) (by omega) (r0.a43) b7 e7 (tbd tv_X12_slotOf rfl) ?_
        refine G.go tv_X12_slotOf 1 105 [(0, .ref (gAd E (56))), (1, .int (x1)), (2, .int (x2)), (3, .int (x3)), (4, .int (x4)), (5, .int (x5)), (6, .int (x6)), (7, .int (x7)), (8, .int (x8))] [.ref (gAd E (56)), .int (v7)] rfl ?_
        refine G.rg r0 hE 4 (.ref (gAd E (57))) (by decide) rfl (tbd tv_X12_slotOf rfl) w_2069 ?_
        refine G.go tv_X12_slotOf 3 112 [(0, .ref (gAd E (56))), (1, .int (x1)), (2, .int (x2)), (3, .int (x3)), (4, .int (x4)), (5, .int (x5)), (6, .int (x6)), (7, .int (x7)), (8, .int (x8))] [.int ((x2) + (x8)), .ref (gAd E (57)), .int (v7)] rfl ?_
        obtain ⟨v8, b8, e8, hr⟩ := ld_s hr
        refine G.baldE (57) (by omega) (r0.a4) b8 e8 (tbd tv_X12_slotOf rfl) ?_
        refine G.cmp_ne 120 (tbd tv_X12_slotOf rfl) (by decide) (fun c113 => ?_) (fun c113 => ?_)
        · replace hr := ite_f c113 hr
          refine G.go tv_X12_slotOf 4 81 [(0, .ref (gAd E (56))), (1, .int (x1)), (2, .int (x2)), (3, .int (x3)), (4, .int (x4)), (5, .int (x5)), (6, .int (x6)), (7, .int ((0 : Int32))), (8, .int (x8 + (1 : Int32)))] [] rfl ?_
          refine G.less [(0, .ref (gAd E (56))), (1, .int (x1)), (2, .int (x2)), (3, .int (x3)), (4, .int (x4)), (5, .int (x5)), (6, .int (x6)), (7, .int ((0 : Int32))), (8, .int (x8 + (1 : Int32)))] [0, 1, 2, 3, 4, 5, 6, 7, 8] rfl ?_
          exact ih _ _ _ _ _ _ _ _ _ _ _ hr _ ⟨_, _, r0⟩ hf
        · replace hr := ite_t c113 hr
          refine G.go tv_X12_slotOf 5 81 [(0, .ref (gAd E (56))), (1, .int (x1)), (2, .int (x2)), (3, .int (x3)), (4, .int (x4)), (5, .int (x5)), (6, .int (x6)), (7, .int ((1 : Int32))), (8, .int (x8 + (1 : Int32)))] [] rfl ?_
          refine G.less [(0, .ref (gAd E (56))), (1, .int (x1)), (2, .int (x2)), (3, .int (x3)), (4, .int (x4)), (5, .int (x5)), (6, .int (x6)), (7, .int ((1 : Int32))), (8, .int (x8 + (1 : Int32)))] [0, 1, 2, 3, 4, 5, 6, 7, 8] rfl ?_
          exact ih _ _ _ _ _ _ _ _ _ _ _ hr _ ⟨_, _, r0⟩ hf
set_option maxRecDepth 100000 in
set_option maxHeartbeats 4000000 in
theorem l_X12_slotOf_13 (E : gE) (f0 : Nat → va_E) (sz : Nat) (QA : Nat → Prop) (hE : 94 ≤ gN E) : ∀ (n : Nat), ∀ (R : RfT) (x1 : Int32) (x2 : Int32) (x3 : Int32) (x4 : Int32) (x5 : Int32) (r : Int32) (R9 : RfT) (hr : e_slotOf_13  n R x1 x2 x3 x4 x5 = some (r, R9)) (f : Nat → va_E) (w : RW E f R) (hf : Fr RfK f0 f), G E (6, yX12_slotOf, 9, (some .int), sz, QA) cX12_slotOf (gO E (6, yX12_slotOf, 9, (some .int), sz, QA) (fun v g => v = some (.int r) ∧ RW E g R9 ∧ Fr RfK f0 g, fun _ _ => False)) 13 [(0, .ref (gAd E (56))), (1, .int (x1)), (2, .int (x2)), (3, .int (x3)), (4, .int (x4)), (5, .int (x5))] [] f := by
  intro n
  induction n with
  | zero =>
    intro R x1 x2 x3 x4 x5 r R9 hr f w hf
    cases hr
  | succ n ih =>
    intro R x1 x2 x3 x4 x5 r R9 hr f w hf
    obtain ⟨az, sy, r0⟩ := w
    unfold e_slotOf_13 at hr
    refine G.go tv_X12_slotOf 2 17 [(0, .ref (gAd E (56))), (1, .int (x1)), (2, .int (x2)), (3, .int (x3)), (4, .int (x4)), (5, .int (x5))] [.int (x4), .int (x5)] rfl ?_
    refine G.cmp_ge 143 (tbd tv_X12_slotOf rfl) (by decide) (fun c17 => ?_) (fun c17 => ?_)
    · replace hr := ite_t c17 hr
      refine G.go tv_X12_slotOf 1 144 [(0, .ref (gAd E (56))), (1, .int (x1)), (2, .int (x2)), (3, .int (x3)), (4, .int (x4)), (5, .int (x5))] [.int ((-1 : Int32))] rfl ?_
      cases hr
      exact G.iret rfl rfl ⟨rfl, ⟨_, _, r0⟩, hf⟩ (tbd tv_X12_slotOf rfl)
    · replace hr := ite_f c17 hr
      refine G.go tv_X12_slotOf 5 27 [(0, .ref (gAd E (56))), (1, .int (x1)), (2, .int (x2)), (3, .int (x3)), (4, .int (x4)), (5, .int (x5))] [.int ((8 : Int32)), .int (x5), .int (x1), .ref (gAd E (56)), .ref (gAd E (56))] rfl ?_
      refine G.idiv (by decide) (tbd tv_X12_slotOf rfl) ?_
      obtain ⟨v2, hv2, hr⟩ := bnd_s hr
      refine G.callV (56) [.int (x1), .int ((x5) / ((8 : Int32)))] [.ref (gAd E (56))] (k_X12_blockOf E _ hE R ⟨_, _, r0⟩ x1 ((x5) / ((8 : Int32))) v2 hv2) cls_X12 (by omega) (r0.o) cw_X12_323 w_2507 w_105 (Nat.le_of_ble_eq_true rfl) rfl (Nat.le_of_ble_eq_true rfl) (tbd tv_X12_slotOf rfl) (fun v2w f2 q2 => ?_) (fun _ _ h => h.elim)
      obtain ⟨rfl, ⟨az2, sy2, r2⟩, fa2⟩ := q2
      refine G.eqs [.int (v2), .ref (gAd E (56))] rfl ?_
      refine G.go tv_X12_slotOf 1 32 [(0, .ref (gAd E (56))), (1, .int (x1)), (2, .int (x2)), (3, .int (x3)), (4, .int (x4)), (5, .int (x5))] [.int ((1 : Int32)), .int (v2), .ref (gAd E (56))] rfl ?_
      obtain ⟨R3, hv3, hr⟩ := bnd_s hr
      refine G.callV (56) [.int (v2), .int ((1 : Int32))] [] (k_X12_see E _ hE R ⟨_, _, r2⟩ v2 ((1 : Int32)) R3 hv3) cls_X12 (by omega) (r2.o) cw_X12_236 w_2420 w_86 (Nat.le_of_ble_eq_true rfl) rfl (Nat.le_of_ble_eq_true rfl) (tbd tv_X12_slotOf rfl) (fun v3w f3 q3 => ?_) (fun _ _ h => h.elim)
      obtain ⟨rfl, ⟨az3, sy3, r3⟩, fa3⟩ := q3
      refine G.eqs [] rfl ?_
      refine G.go tv_X12_slotOf 3 41 [(0, .ref (gAd E (56))), (1, .int (x1)), (2, .int (x2)), (3, .int (x3)), (4, .int (x4)), (5, .int (x5))] [.int ((8 : Int32)), .int (x5), .int ((16 : Int32))] rfl ?_
      refine G.irem (by decide) (tbd tv_X12_slotOf rfl) ?_
      refine G.go tv_X12_slotOf 2 45 [(0, .ref (gAd E (56))), (1, .int (x1)), (2, .int (x2)), (3, .int (x3)), (4, .int (x4)), (5, .int (x5)), (6, .int (((16 : Int32)) * ((x5) - (x5) / ((8 : Int32)) * ((8 : Int32)))))] [] rfl ?_
      obtain ⟨v4, e4, hr⟩ := nm_s hr
      refine G.eql [(0, .ref (gAd E (56))), (1, .int (x1)), (2, .int (x2)), (3, .int (x3)), (4, .int (x4)), (5, .int (x5)), (6, .int (v4))] (by rw [e4]) ?_
      refine G.go tv_X12_slotOf 1 46 [(0, .ref (gAd E (56))), (1, .int (x1)), (2, .int (x2)), (3, .int (x3)), (4, .int (x4)), (5, .int (x5)), (6, .int (v4))] [.ref (gAd E (56))] rfl ?_
      refine G.rg r3 hE 43 (.ref (gAd E (78))) (by decide) rfl (tbd tv_X12_slotOf rfl) w_2108 ?_
      refine G.go tv_X12_slotOf 2 52 [(0, .ref (gAd E (56))), (1, .int (x1)), (2, .int (x2)), (3, .int (x3)), (4, .int (x4)), (5, .int (x5)), (6, .int (v4))] [.int ((2 : Int32)), .int (v4), .ref (gAd E (78))] rfl ?_
      obtain ⟨v5, hv5, hr⟩ := bnd_s hr
      refine G.callS [.ref (gAd E (78)), .int (v4), .int ((2 : Int32))] [] (k_X12_number_78 E _ hE R3 ⟨_, _, r3⟩ v4 ((2 : Int32)) v5 hv5) cw_X12_232 w_2353 (Nat.le_of_ble_eq_true rfl) rfl (Nat.le_of_ble_eq_true rfl) (tbd tv_X12_slotOf rfl) (fun v5w f5 q5 => ?_) (fun _ _ h => h.elim)
      obtain ⟨rfl, ⟨az5, sy5, r5⟩, fa5⟩ := q5
      refine G.eqs [.int (v5)] rfl ?_
      refine G.if_eq 75 (tbd tv_X12_slotOf rfl) (by decide) (fun c55 => ?_) (fun c55 => ?_)
      · replace hr := ite_t c55 hr
        refine G.go tv_X12_slotOf 4 81 [(0, .ref (gAd E (56))), (1, .int (x1)), (2, .int (x2)), (3, .int (x3)), (4, .int (x4)), (5, .int (x5)), (6, .int (v4)), (7, .int ((0 : Int32))), (8, .int ((0 : Int32)))] [] rfl ?_
        refine G.less [(0, .ref (gAd E (56))), (1, .int (x1)), (2, .int (x2)), (3, .int (x3)), (4, .int (x4)), (5, .int (x5)), (6, .int (v4)), (7, .int ((0 : Int32))), (8, .int ((0 : Int32)))] [0, 1, 2, 3, 4, 5, 6, 7, 8] rfl ?_
        exact l_X12_slotOf_81 E f0 sz QA hE _ ih _ _ _ _ _ _ _ _ _ _ _ _ hr _ ⟨_, _, r5⟩ (((hf.tr fa2 (fun _ h => h)).tr fa3 (fun _ h => h)).tr fa5 (fun _ h => h))
      · replace hr := ite_f c55 hr
        refine G.go tv_X12_slotOf 1 59 [(0, .ref (gAd E (56))), (1, .int (x1)), (2, .int (x2)), (3, .int (x3)), (4, .int (x4)), (5, .int (x5)), (6, .int (v4))] [.ref (gAd E (56))] rfl ?_
        refine G.rg r5 hE 43 (.ref (gAd E (78))) (by decide) rfl (tbd tv_X12_slotOf rfl) w_2108 ?_
        refine G.go tv_X12_slotOf 3 66 [(0, .ref (gAd E (56))), (1, .int (x1)), (2, .int (x2)), (3, .int (x3)), (4, .int (x4)), (5, .int (x5)), (6, .int (v4))] [.int ((v4) + ((2 : Int32))), .ref (gAd E (78))] rfl ?_
        obtain ⟨v6, b6, e6, hr⟩ := ld_s hr
        refine G.baldE (78) (by omega) (r5.a43) b6 e6 (tbd tv_X12_slotOf rfl) ?_
        refine G.go tv_X12_slotOf 1 68 [(0, .ref (gAd E (56))), (1, .int (x1)), (2, .int (x2)), (3, .int (x3)), (4, .int (x4)), (5, .int (x5)), (6, .int (v4))] [.int (x3), .int (v6)] rfl ?_
        refine G.cmp_ne 75 (tbd tv_X12_slotOf rfl) (by decide) (fun c68 => ?_) (fun c68 => ?_)
        · replace hr := ite_f c68 hr
          refine G.go tv_X12_slotOf 4 81 [(0, .ref (gAd E (56))), (1, .int (x1)), (2, .int (x2)), (3, .int (x3)), (4, .int (x4)), (5, .int (x5)), (6, .int (v4)), (7, .int ((0 : Int32))), (8, .int ((0 : Int32)))] [] rfl ?_
          refine G.less [(0, .ref (gAd E (56))), (1, .int (x1)), (2, .int (x2)), (3, .int (x3)), (4, .int (x4)), (5, .int (x5)), (6, .int (v4)), (7, .int ((0 : Int32))), (8, .int ((0 : Int32)))] [0, 1, 2, 3, 4, 5, 6, 7, 8] rfl ?_
          exact l_X12_slotOf_81 E f0 sz QA hE _ ih _ _ _ _ _ _ _ _ _ _ _ _ hr _ ⟨_, _, r5⟩ (((hf.tr fa2 (fun _ h => h)).tr fa3 (fun _ h => h)).tr fa5 (fun _ h => h))
        · replace hr := ite_t c68 hr
          refine G.go tv_X12_slotOf 5 81 [(0, .ref (gAd E (56))), (1, .int (x1)), (2, .int (x2)), (3, .int (x3)), (4, .int (x4)), (5, .int (x5)), (6, .int (v4)), (7, .int ((1 : Int32))), (8, .int ((0 : Int32)))] [] rfl ?_
          refine G.less [(0, .ref (gAd E (56))), (1, .int (x1)), (2, .int (x2)), (3, .int (x3)), (4, .int (x4)), (5, .int (x5)), (6, .int (v4)), (7, .int ((1 : Int32))), (8, .int ((0 : Int32)))] [0, 1, 2, 3, 4, 5, 6, 7, 8] rfl ?_
          exact l_X12_slotOf_81 E f0 sz QA hE _ ih _ _ _ _ _ _ _ _ _ _ _ _ hr _ ⟨_, _, r5⟩ (((hf.tr fa2 (fun _ h => h)).tr fa3 (fun _ h => h)).tr fa5 (fun _ h => h))
set_option maxRecDepth 100000 in
set_option maxHeartbeats 4000000 in
theorem k_X12_slotOf (E : gE) (f : Nat → va_E) (hE : 94 ≤ gN E) (R : RfT) (w : RW E f R) (a0 : Int32) (a1 : Int32) (a2 : Int32) (r : Int32) (R9 : RfT) (hr : e_slotOf R a0 a1 a2 = some (r, R9)) : Ct E 6 yX12_slotOf cX12_slotOf 9 (some .int) [.ref (gAd E (56)), .int (a0), .int (a1), .int (a2)] f (fun v g => v = some (.int r) ∧ RW E g R9 ∧ Fr RfK f g, fun _ _ => False) := by
  obtain ⟨az, sy, r0⟩ := w
  refine Ct.of (by decide) (Nat.le_of_ble_eq_true rfl) (fun sz => ?_)
  refine G.eql [(0, .ref (gAd E (56))), (1, .int (a0)), (2, .int (a1)), (3, .int (a2))] rfl ?_
  unfold e_slotOf at hr
  refine G.go tv_X12_slotOf 2 2 [(0, .ref (gAd E (56))), (1, .int (a0)), (2, .int (a1)), (3, .int (a2))] [.int (a0), .ref (gAd E (56))] rfl ?_
  obtain ⟨v1, hv1, hr⟩ := bnd_s hr
  refine G.callV (56) [.int (a0)] [] (k_X12_size E _ hE R ⟨_, _, r0⟩ a0 v1 hv1) cls_X12 (by omega) (r0.o) cw_X12_344 w_2503 w_104 (Nat.le_of_ble_eq_true rfl) rfl (Nat.le_of_ble_eq_true rfl) (tbd tv_X12_slotOf rfl) (fun v1w f1 q1 => ?_) (fun _ _ h => h.elim)
  obtain ⟨rfl, ⟨az1, sy1, r1⟩, fa1⟩ := q1
  refine G.eqs [.int (v1)] rfl ?_
  refine G.go tv_X12_slotOf 1 7 [(0, .ref (gAd E (56))), (1, .int (a0)), (2, .int (a1)), (3, .int (a2))] [.int ((16 : Int32)), .int (v1)] rfl ?_
  refine G.idiv (by decide) (tbd tv_X12_slotOf rfl) ?_
  refine G.go tv_X12_slotOf 3 13 [(0, .ref (gAd E (56))), (1, .int (a0)), (2, .int (a1)), (3, .int (a2)), (4, .int ((v1) / ((16 : Int32)))), (5, .int ((0 : Int32)))] [] rfl ?_
  refine G.less [(0, .ref (gAd E (56))), (1, .int (a0)), (2, .int (a1)), (3, .int (a2)), (4, .int ((v1) / ((16 : Int32)))), (5, .int ((0 : Int32)))] [0, 1, 2, 3, 4, 5] rfl ?_
  exact l_X12_slotOf_13 E f sz _ hE _ _ _ _ _ _ _ _ _ hr _ ⟨_, _, r1⟩ (Fr.rf.tr fa1 (fun _ h => h))
def tb_X12_walk : List (Nat × Instr × Nat) := [(0, .iconst 1, 1), (1, .istore_n 3, 1), (2, .iconst 0, 1), (3, .istore 4, 2), (5, .iload 4, 2), (7, .iload_n 2, 1), (8, .if_icmp .ge 64, 3), (11, .aload_n 0, 1), (12, .iload_n 3, 1), (13, .invokevirtual 326, 3), (16, .iconst 2, 1), (17, .if_icmp .eq 6, 3), (20, .bipush (-3), 2), (22, .ireturn, 1), (23, .aload_n 0, 1), (24, .iload_n 3, 1), (25, .aload_n 0, 1), (26, .getfield 104, 3), (29, .iload_n 1, 1), (30, .iload 4, 2), (32, .iadd, 1), (33, .iaload, 1), (34, .aload_n 0, 1), (35, .getfield 107, 3), (38, .iload_n 1, 1), (39, .iload 4, 2), (41, .iadd, 1), (42, .iaload, 1), (43, .invokevirtual 361, 3), (46, .istore 5, 2), (48, .iload 5, 2), (50, .iconst (-1), 1), (51, .if_icmp .ne 5, 3), (54, .iconst (-1), 1), (55, .ireturn, 1), (56, .aload_n 0, 1), (57, .iload_n 3, 1), (58, .iload 5, 2), (60, .iconst 0, 1), (61, .iconst 2, 1), (62, .invokevirtual 347, 3), (65, .istore_n 3, 1), (66, .iinc 4 1, 3), (69, .goto (-64), 3), (72, .iload_n 3, 1), (73, .ireturn, 1)]
theorem tv_X12_walk : Tv cX12_walk tb_X12_walk := by
  unfold Tv
  decide +kernel
theorem w_2497 : Cond.methodLink "LedgerFilesModel" 361 yX12_slotOf ∈ TB := tp_10 191 (by decide +kernel) rfl
theorem w_2500 : Cond.code yX12_slotOf prog_14_method_60_code 9 (some .int) ∈ TB := tp_10 194 rfl rfl
theorem cw_X12_361 : Cw RX12 361 yX12_slotOf cX12_slotOf 9 (some .int) 3 := ⟨w_2497, w_2500, w_161, by decide +kernel, by decide +kernel, by decide⟩
theorem w_2499 : Cond.instanceMethod yX12_slotOf ∈ TB := tp_10 193 (by decide +kernel) rfl
theorem w_103 : Cond.selects "LedgerFilesModel" yX12_slotOf yX12_slotOf ∈ TB := tp_0 103 (by decide +kernel) rfl
def e_walk_5  : Nat → RfT → Int32 → Int32 → Int32 → Int32 → Option (Int32 × RfT)
  | 0, _, _, _, _, _ => none
  | n + 1, R, x1, x2, x3, x4 => if x2 ≤ x4 then some (x3, R) else bnd (e_kind R x3) (fun v9 => if v9 = ((2 : Int32)) then ld (rA R 50) 32 ((x1) + (x4)) (fun v10 => ld (rA R 51) 32 ((x1) + (x4)) (fun v11 => bnd2 (e_slotOf R x3 v10 v11) (fun v12 R12 => if v12 = ((-1 : Int32)) then some ((-1 : Int32), R12) else bnd (e_slotNumber R12 x3 v12 ((0 : Int32)) ((2 : Int32))) (fun v13 => e_walk_5  n R12 x1 x2 v13 (x4 + (1 : Int32)))))) else some ((-3 : Int32), R))
def e_walk  (R : RfT) (a0 : Int32) (a1 : Int32) : Option (Int32 × RfT) := e_walk_5  fuL R a0 a1 ((1 : Int32)) ((0 : Int32))
set_option maxRecDepth 100000 in
set_option maxHeartbeats 4000000 in
theorem l_X12_walk_5 (E : gE) (f0 : Nat → va_E) (sz : Nat) (QA : Nat → Prop) (hE : 94 ≤ gN E) : ∀ (n : Nat), ∀ (R : RfT) (x1 : Int32) (x2 : Int32) (x3 : Int32) (x4 : Int32) (r : Int32) (R9 : RfT) (hr : e_walk_5  n R x1 x2 x3 x4 = some (r, R9)) (f : Nat → va_E) (w : RW E f R) (hf : Fr RfK f0 f), G E (7, yX12_walk, 6, (some .int), sz, QA) cX12_walk (gO E (7, yX12_walk, 6, (some .int), sz, QA) (fun v g => v = some (.int r) ∧ RW E g R9 ∧ Fr RfK f0 g, fun _ _ => False)) 5 [(0, .ref (gAd E (56))), (1, .int (x1)), (2, .int (x2)), (3, .int (x3)), (4, .int (x4))] [] f := by
  intro n
  induction n with
  | zero =>
    intro R x1 x2 x3 x4 r R9 hr f w hf
    cases hr
  | succ n ih =>
    intro R x1 x2 x3 x4 r R9 hr f w hf
    obtain ⟨az, sy, r0⟩ := w
    unfold e_walk_5 at hr
    refine G.go tv_X12_walk 2 8 [(0, .ref (gAd E (56))), (1, .int (x1)), (2, .int (x2)), (3, .int (x3)), (4, .int (x4))] [.int (x2), .int (x4)] rfl ?_
    refine G.cmp_ge 72 (tbd tv_X12_walk rfl) (by decide) (fun c8 => ?_) (fun c8 => ?_)
    · replace hr := ite_t c8 hr
      refine G.go tv_X12_walk 1 73 [(0, .ref (gAd E (56))), (1, .int (x1)), (2, .int (x2)), (3, .int (x3)), (4, .int (x4))] [.int (x3)] rfl ?_
      cases hr
      exact G.iret rfl rfl ⟨rfl, ⟨_, _, r0⟩, hf⟩ (tbd tv_X12_walk rfl)
    · replace hr := ite_f c8 hr
      refine G.go tv_X12_walk 2 13 [(0, .ref (gAd E (56))), (1, .int (x1)), (2, .int (x2)), (3, .int (x3)), (4, .int (x4))] [.int (x3), .ref (gAd E (56))] rfl ?_
      obtain ⟨v9, hv9, hr⟩ := bnd_s hr
      refine G.callV (56) [.int (x3)] [] (k_X12_kind E _ hE R ⟨_, _, r0⟩ x3 v9 hv9) cls_X12 (by omega) (r0.o) cw_X12_326 w_2369 w_74 (Nat.le_of_ble_eq_true rfl) rfl (Nat.le_of_ble_eq_true rfl) (tbd tv_X12_walk rfl) (fun v9w f9 q9 => ?_) (fun _ _ h => h.elim)
      obtain ⟨rfl, ⟨az9, sy9, r9⟩, fa9⟩ := q9
      refine G.eqs [.int (v9)] rfl ?_
      refine G.go tv_X12_walk 1 17 [(0, .ref (gAd E (56))), (1, .int (x1)), (2, .int (x2)), (3, .int (x3)), (4, .int (x4))] [.int ((2 : Int32)), .int (v9)] rfl ?_
      refine G.cmp_eq 23 (tbd tv_X12_walk rfl) (by decide) (fun c17 => ?_) (fun c17 => ?_)
      · replace hr := ite_t c17 hr
        refine G.go tv_X12_walk 3 26 [(0, .ref (gAd E (56))), (1, .int (x1)), (2, .int (x2)), (3, .int (x3)), (4, .int (x4))] [.ref (gAd E (56)), .int (x3), .ref (gAd E (56))] rfl ?_
        refine G.rg r9 hE 50 (.ref (gAd E (84))) (by decide) rfl (tbd tv_X12_walk rfl) w_2115 ?_
        refine G.go tv_X12_walk 3 33 [(0, .ref (gAd E (56))), (1, .int (x1)), (2, .int (x2)), (3, .int (x3)), (4, .int (x4))] [.int ((x1) + (x4)), .ref (gAd E (84)), .int (x3), .ref (gAd E (56))] rfl ?_
        obtain ⟨v10, b10, e10, hr⟩ := ld_s hr
        refine G.ialdE (84) (by omega) (r9.a50) b10 e10 (tbd tv_X12_walk rfl) ?_
        refine G.go tv_X12_walk 1 35 [(0, .ref (gAd E (56))), (1, .int (x1)), (2, .int (x2)), (3, .int (x3)), (4, .int (x4))] [.ref (gAd E (56)), .int (v10), .int (x3), .ref (gAd E (56))] rfl ?_
        refine G.rg r9 hE 51 (.ref (gAd E (85))) (by decide) rfl (tbd tv_X12_walk rfl) w_2116 ?_
        refine G.go tv_X12_walk 3 42 [(0, .ref (gAd E (56))), (1, .int (x1)), (2, .int (x2)), (3, .int (x3)), (4, .int (x4))] [.int ((x1) + (x4)), .ref (gAd E (85)), .int (v10), .int (x3), .ref (gAd E (56))] rfl ?_
        obtain ⟨v11, b11, e11, hr⟩ := ld_s hr
        refine G.ialdE (85) (by omega) (r9.a51) b11 e11 (tbd tv_X12_walk rfl) ?_
        obtain ⟨v12, R12, hv12, hr⟩ := bnd2_s hr
        refine G.callV (56) [.int (x3), .int (v10), .int (v11)] [] (k_X12_slotOf E _ hE R ⟨_, _, r9⟩ x3 v10 v11 v12 R12 hv12) cls_X12 (by omega) (r9.o) cw_X12_361 w_2499 w_103 (Nat.le_of_ble_eq_true rfl) rfl (Nat.le_of_ble_eq_true rfl) (tbd tv_X12_walk rfl) (fun v12w f12 q12 => ?_) (fun _ _ h => h.elim)
        obtain ⟨rfl, ⟨az12, sy12, r12⟩, fa12⟩ := q12
        refine G.eqs [.int (v12)] rfl ?_
        refine G.go tv_X12_walk 3 51 [(0, .ref (gAd E (56))), (1, .int (x1)), (2, .int (x2)), (3, .int (x3)), (4, .int (x4)), (5, .int (v12))] [.int ((-1 : Int32)), .int (v12)] rfl ?_
        refine G.cmp_ne 56 (tbd tv_X12_walk rfl) (by decide) (fun c51 => ?_) (fun c51 => ?_)
        · replace hr := ite_f c51 hr
          refine G.go tv_X12_walk 5 62 [(0, .ref (gAd E (56))), (1, .int (x1)), (2, .int (x2)), (3, .int (x3)), (4, .int (x4)), (5, .int (v12))] [.int ((2 : Int32)), .int ((0 : Int32)), .int (v12), .int (x3), .ref (gAd E (56))] rfl ?_
          obtain ⟨v13, hv13, hr⟩ := bnd_s hr
          refine G.callV (56) [.int (x3), .int (v12), .int ((0 : Int32)), .int ((2 : Int32))] [] (k_X12_slotNumber E _ hE R12 ⟨_, _, r12⟩ x3 v12 ((0 : Int32)) ((2 : Int32)) v13 hv13) cls_X12 (by omega) (r12.o) cw_X12_347 w_2515 w_107 (Nat.le_of_ble_eq_true rfl) rfl (Nat.le_of_ble_eq_true rfl) (tbd tv_X12_walk rfl) (fun v13w f13 q13 => ?_) (fun _ _ h => h.elim)
          obtain ⟨rfl, ⟨az13, sy13, r13⟩, fa13⟩ := q13
          refine G.eqs [.int (v13)] rfl ?_
          refine G.go tv_X12_walk 3 5 [(0, .ref (gAd E (56))), (1, .int (x1)), (2, .int (x2)), (3, .int (v13)), (4, .int (x4 + (1 : Int32))), (5, .int (v12))] [] rfl ?_
          refine G.less [(0, .ref (gAd E (56))), (1, .int (x1)), (2, .int (x2)), (3, .int (v13)), (4, .int (x4 + (1 : Int32)))] [0, 1, 2, 3, 4] rfl ?_
          exact ih _ _ _ _ _ _ _ hr _ ⟨_, _, r13⟩ (((hf.tr fa9 (fun _ h => h)).tr fa12 (fun _ h => h)).tr fa13 (fun _ h => h))
        · replace hr := ite_t c51 hr
          refine G.go tv_X12_walk 1 55 [(0, .ref (gAd E (56))), (1, .int (x1)), (2, .int (x2)), (3, .int (x3)), (4, .int (x4)), (5, .int (v12))] [.int ((-1 : Int32))] rfl ?_
          cases hr
          exact G.iret rfl rfl ⟨rfl, ⟨_, _, r12⟩, ((hf.tr fa9 (fun _ h => h)).tr fa12 (fun _ h => h))⟩ (tbd tv_X12_walk rfl)
      · replace hr := ite_f c17 hr
        refine G.go tv_X12_walk 1 22 [(0, .ref (gAd E (56))), (1, .int (x1)), (2, .int (x2)), (3, .int (x3)), (4, .int (x4))] [.int ((-3 : Int32))] rfl ?_
        cases hr
        exact G.iret rfl rfl ⟨rfl, ⟨_, _, r9⟩, (hf.tr fa9 (fun _ h => h))⟩ (tbd tv_X12_walk rfl)
set_option maxRecDepth 100000 in
set_option maxHeartbeats 4000000 in
theorem k_X12_walk (E : gE) (f : Nat → va_E) (hE : 94 ≤ gN E) (R : RfT) (w : RW E f R) (a0 : Int32) (a1 : Int32) (r : Int32) (R9 : RfT) (hr : e_walk R a0 a1 = some (r, R9)) : Ct E 7 yX12_walk cX12_walk 6 (some .int) [.ref (gAd E (56)), .int (a0), .int (a1)] f (fun v g => v = some (.int r) ∧ RW E g R9 ∧ Fr RfK f g, fun _ _ => False) := by
  obtain ⟨az, sy, r0⟩ := w
  refine Ct.of (by decide) (Nat.le_of_ble_eq_true rfl) (fun sz => ?_)
  refine G.eql [(0, .ref (gAd E (56))), (1, .int (a0)), (2, .int (a1))] rfl ?_
  unfold e_walk at hr
  refine G.go tv_X12_walk 4 5 [(0, .ref (gAd E (56))), (1, .int (a0)), (2, .int (a1)), (3, .int ((1 : Int32))), (4, .int ((0 : Int32)))] [] rfl ?_
  refine G.less [(0, .ref (gAd E (56))), (1, .int (a0)), (2, .int (a1)), (3, .int ((1 : Int32))), (4, .int ((0 : Int32)))] [0, 1, 2, 3, 4] rfl ?_
  exact l_X12_walk_5 E f sz _ hE _ _ _ _ _ _ _ _ hr _ ⟨_, _, r0⟩ Fr.rf
def tb_X12_walkAhead : List (Nat × Instr × Nat) := [(0, .aload_n 0, 1), (1, .iload_n 1, 1), (2, .iload_n 2, 1), (3, .invokevirtual 364, 3), (6, .istore_n 3, 1), (7, .iload_n 3, 1), (8, .ifCond .le 17, 3), (11, .aload_n 0, 1), (12, .iload_n 3, 1), (13, .invokevirtual 326, 3), (16, .iconst 2, 1), (17, .if_icmp .eq 8, 3), (20, .bipush (-3), 2), (22, .goto 4, 3), (25, .iload_n 3, 1), (26, .ireturn, 1)]
theorem tv_X12_walkAhead : Tv cX12_walkAhead tb_X12_walkAhead := by
  unfold Tv
  decide +kernel
theorem w_2493 : Cond.methodLink "LedgerFilesModel" 364 yX12_walk ∈ TB := tp_10 187 (by decide +kernel) rfl
theorem w_2496 : Cond.code yX12_walk prog_14_method_67_code 6 (some .int) ∈ TB := tp_10 190 rfl rfl
theorem cw_X12_364 : Cw RX12 364 yX12_walk cX12_walk 6 (some .int) 2 := ⟨w_2493, w_2496, w_161, by decide +kernel, by decide +kernel, by decide⟩
theorem w_2495 : Cond.instanceMethod yX12_walk ∈ TB := tp_10 189 (by decide +kernel) rfl
theorem w_102 : Cond.selects "LedgerFilesModel" yX12_walk yX12_walk ∈ TB := tp_0 102 (by decide +kernel) rfl
def e_walkAhead  (R : RfT) (a0 : Int32) (a1 : Int32) : Option (Int32 × RfT) := bnd2 (e_walk R a0 a1) (fun v14 R14 => if v14 ≤ 0 then some (v14, R14) else bnd (e_kind R14 v14) (fun v15 => if v15 = ((2 : Int32)) then some (v14, R14) else some ((-3 : Int32), R14)))
set_option maxRecDepth 100000 in
set_option maxHeartbeats 4000000 in
theorem k_X12_walkAhead (E : gE) (f : Nat → va_E) (hE : 94 ≤ gN E) (R : RfT) (w : RW E f R) (a0 : Int32) (a1 : Int32) (r : Int32) (R9 : RfT) (hr : e_walkAhead R a0 a1 = some (r, R9)) : Ct E 8 yX12_walkAhead cX12_walkAhead 4 (some .int) [.ref (gAd E (56)), .int (a0), .int (a1)] f (fun v g => v = some (.int r) ∧ RW E g R9 ∧ Fr RfK f g, fun _ _ => False) := by
  obtain ⟨az, sy, r0⟩ := w
  refine Ct.of (by decide) (Nat.le_of_ble_eq_true rfl) (fun sz => ?_)
  refine G.eql [(0, .ref (gAd E (56))), (1, .int (a0)), (2, .int (a1))] rfl ?_
  unfold e_walkAhead at hr
  refine G.go tv_X12_walkAhead 3 3 [(0, .ref (gAd E (56))), (1, .int (a0)), (2, .int (a1))] [.int (a1), .int (a0), .ref (gAd E (56))] rfl ?_
  obtain ⟨v14, R14, hv14, hr⟩ := bnd2_s hr
  refine G.callV (56) [.int (a0), .int (a1)] [] (k_X12_walk E _ hE R ⟨_, _, r0⟩ a0 a1 v14 R14 hv14) cls_X12 (by omega) (r0.o) cw_X12_364 w_2495 w_102 (Nat.le_of_ble_eq_true rfl) rfl (Nat.le_of_ble_eq_true rfl) (tbd tv_X12_walkAhead rfl) (fun v14w f14 q14 => ?_) (fun _ _ h => h.elim)
  obtain ⟨rfl, ⟨az14, sy14, r14⟩, fa14⟩ := q14
  refine G.eqs [.int (v14)] rfl ?_
  refine G.go tv_X12_walkAhead 2 8 [(0, .ref (gAd E (56))), (1, .int (a0)), (2, .int (a1)), (3, .int (v14))] [.int (v14)] rfl ?_
  refine G.if_le 25 (tbd tv_X12_walkAhead rfl) (by decide) (fun c8 => ?_) (fun c8 => ?_)
  · replace hr := ite_t c8 hr
    refine G.go tv_X12_walkAhead 1 26 [(0, .ref (gAd E (56))), (1, .int (a0)), (2, .int (a1)), (3, .int (v14))] [.int (v14)] rfl ?_
    cases hr
    exact G.iret rfl rfl ⟨rfl, ⟨_, _, r14⟩, (Fr.rf.tr fa14 (fun _ h => h))⟩ (tbd tv_X12_walkAhead rfl)
  · replace hr := ite_f c8 hr
    refine G.go tv_X12_walkAhead 2 13 [(0, .ref (gAd E (56))), (1, .int (a0)), (2, .int (a1)), (3, .int (v14))] [.int (v14), .ref (gAd E (56))] rfl ?_
    obtain ⟨v15, hv15, hr⟩ := bnd_s hr
    refine G.callV (56) [.int (v14)] [] (k_X12_kind E _ hE R14 ⟨_, _, r14⟩ v14 v15 hv15) cls_X12 (by omega) (r14.o) cw_X12_326 w_2369 w_74 (Nat.le_of_ble_eq_true rfl) rfl (Nat.le_of_ble_eq_true rfl) (tbd tv_X12_walkAhead rfl) (fun v15w f15 q15 => ?_) (fun _ _ h => h.elim)
    obtain ⟨rfl, ⟨az15, sy15, r15⟩, fa15⟩ := q15
    refine G.eqs [.int (v15)] rfl ?_
    refine G.go tv_X12_walkAhead 1 17 [(0, .ref (gAd E (56))), (1, .int (a0)), (2, .int (a1)), (3, .int (v14))] [.int ((2 : Int32)), .int (v15)] rfl ?_
    refine G.cmp_eq 25 (tbd tv_X12_walkAhead rfl) (by decide) (fun c17 => ?_) (fun c17 => ?_)
    · replace hr := ite_t c17 hr
      refine G.go tv_X12_walkAhead 1 26 [(0, .ref (gAd E (56))), (1, .int (a0)), (2, .int (a1)), (3, .int (v14))] [.int (v14)] rfl ?_
      cases hr
      exact G.iret rfl rfl ⟨rfl, ⟨_, _, r15⟩, ((Fr.rf.tr fa14 (fun _ h => h)).tr fa15 (fun _ h => h))⟩ (tbd tv_X12_walkAhead rfl)
    · replace hr := ite_f c17 hr
      refine G.go tv_X12_walkAhead 2 26 [(0, .ref (gAd E (56))), (1, .int (a0)), (2, .int (a1)), (3, .int (v14))] [.int ((-3 : Int32))] rfl ?_
      cases hr
      exact G.iret rfl rfl ⟨rfl, ⟨_, _, r15⟩, ((Fr.rf.tr fa14 (fun _ h => h)).tr fa15 (fun _ h => h))⟩ (tbd tv_X12_walkAhead rfl)
def tb_X12_path : List (Nat × Instr × Nat) := [(0, .iload_n 2, 1), (1, .iload_n 1, 1), (2, .isub, 1), (3, .iconst 1, 1), (4, .if_icmp .lt 23, 3), (7, .iload_n 2, 1), (8, .iload_n 1, 1), (9, .isub, 1), (10, .sipush 255, 3), (13, .if_icmp .gt 14, 3), (16, .aload_n 0, 1), (17, .getfield 7, 3), (20, .iload_n 1, 1), (21, .baload, 1), (22, .bipush 47, 2), (24, .if_icmp .eq 5, 3), (27, .iconst (-1), 1), (28, .ireturn, 1), (29, .iload_n 2, 1), (30, .iload_n 1, 1), (31, .isub, 1), (32, .iconst 1, 1), (33, .if_icmp .ne 5, 3), (36, .iconst 0, 1), (37, .ireturn, 1), (38, .iconst 0, 1), (39, .istore 4, 2), (41, .iload_n 1, 1), (42, .istore 5, 2), (44, .iload 5, 2), (46, .iload_n 2, 1), (47, .if_icmp .ge 166, 3), (50, .iload 5, 2), (52, .iconst 1, 1), (53, .iadd, 1), (54, .istore 6, 2), (56, .iload 6, 2), (58, .istore 7, 2), (60, .iload 7, 2), (62, .iload_n 2, 1), (63, .if_icmp .ge 22, 3), (66, .aload_n 0, 1), (67, .getfield 7, 3), (70, .iload 7, 2), (72, .baload, 1), (73, .invokestatic 358, 3), (76, .ifCond .eq 9, 3), (79, .iinc 7 1, 3), (82, .goto (-22), 3), (85, .iload 7, 2), (87, .iload 6, 2), (89, .isub, 1), (90, .istore 8, 2), (92, .iload 8, 2), (94, .ifCond .le 39, 3), (97, .iload 8, 2), (99, .iconst 3, 1), (100, .if_icmp .ge 33, 3), (103, .aload_n 0, 1), (104, .getfield 7, 3), (107, .iload 6, 2), (109, .baload, 1), (110, .bipush 46, 2), (112, .if_icmp .ne 21, 3), (115, .aload_n 0, 1), (116, .getfield 7, 3), (119, .iload 7, 2), (121, .iconst 1, 1), (122, .isub, 1), (123, .baload, 1), (124, .bipush 46, 2), (126, .if_icmp .ne 7, 3), (129, .iconst 1, 1), (130, .goto 4, 3), (133, .iconst 0, 1), (134, .istore 9, 2), (136, .iload 4, 2), (138, .bipush 16, 2), (140, .if_icmp .eq 39, 3), (143, .iload 8, 2), (145, .iconst 1, 1), (146, .if_icmp .lt 33, 3), (149, .iload 8, 2), (151, .bipush 13, 2), (153, .if_icmp .gt 26, 3), (156, .iload 9, 2), (158, .ifCond .ne 21, 3), (161, .iload 7, 2), (163, .iload_n 2, 1), (164, .if_icmp .ge 17, 3), (167, .aload_n 0, 1), (168, .getfield 7, 3), (171, .iload 7, 2), (173, .baload, 1), (174, .bipush 47, 2), (176, .if_icmp .eq 5, 3), (179, .iconst (-1), 1), (180, .ireturn, 1), (181, .aload_n 0, 1), (182, .getfield 104, 3), (185, .iload_n 3, 1), (186, .iload 4, 2), (188, .iadd, 1), (189, .iload 6, 2), (191, .iastore, 1), (192, .aload_n 0, 1), (193, .getfield 107, 3), (196, .iload_n 3, 1), (197, .iload 4, 2), (199, .iadd, 1), (200, .iload 8, 2), (202, .iastore, 1), (203, .iinc 4 1, 3), (206, .iload 7, 2), (208, .istore 5, 2), (210, .goto (-166), 3), (213, .iload 4, 2), (215, .ireturn, 1)]
theorem tv_X12_path : Tv cX12_path tb_X12_path := by
  unfold Tv
  decide +kernel
theorem w_2486 : Cond.methodLink "LedgerFilesModel" 358 yX12_isLetter ∈ TB := tp_10 180 (by decide +kernel) rfl
theorem w_2488 : Cond.code yX12_isLetter prog_14_method_65_code 1 (some .boolean) ∈ TB := tp_10 182 rfl rfl
theorem cw_X12_358 : Cw RX12 358 yX12_isLetter cX12_isLetter 1 (some .boolean) 1 := ⟨w_2486, w_2488, w_161, by decide +kernel, by decide +kernel, by decide⟩
theorem w_2487 : Cond.static yX12_isLetter ∈ TB := tp_10 181 (by decide +kernel) rfl
def e_path_181  (self44 : RfT → Int32 → Int32 → Int32 → Int32 → Option (Int32 × RfT)) (R : RfT) (x2 : Int32) (x3 : Int32) (x4 : Int32) (x6 : Int32) (x7 : Int32) (x8 : Int32) : Option (Int32 × RfT) := stR R 50 32 ((x3) + (x4)) x6 (fun R22 => stR R22 51 32 ((x3) + (x4)) x8 (fun R23 => self44 R23 x2 x3 (x4 + (1 : Int32)) x7))
def e_path_136  (self44 : RfT → Int32 → Int32 → Int32 → Int32 → Option (Int32 × RfT)) (R : RfT) (x2 : Int32) (x3 : Int32) (x4 : Int32) (x6 : Int32) (x7 : Int32) (x8 : Int32) (x9 : Int32) : Option (Int32 × RfT) := if x4 = ((16 : Int32)) then some ((-1 : Int32), R) else if x8 < ((1 : Int32)) then some ((-1 : Int32), R) else if ((13 : Int32)) < x8 then some ((-1 : Int32), R) else if x9 = 0 then if x2 ≤ x7 then e_path_181  self44 R x2 x3 x4 x6 x7 x8 else ld (rA R 4) 1024 x7 (fun v21 => if v21 = ((47 : Int32)) then e_path_181  self44 R x2 x3 x4 x6 x7 x8 else some ((-1 : Int32), R)) else some ((-1 : Int32), R)
def e_path_133  (self44 : RfT → Int32 → Int32 → Int32 → Int32 → Option (Int32 × RfT)) (R : RfT) (x2 : Int32) (x3 : Int32) (x4 : Int32) (x6 : Int32) (x7 : Int32) (x8 : Int32) : Option (Int32 × RfT) := e_path_136  self44 R x2 x3 x4 x6 x7 x8 ((0 : Int32))
def e_path_85  (self44 : RfT → Int32 → Int32 → Int32 → Int32 → Option (Int32 × RfT)) (R : RfT) (x2 : Int32) (x3 : Int32) (x4 : Int32) (x6 : Int32) (x7 : Int32) : Option (Int32 × RfT) := if ((x7) - (x6)) ≤ 0 then e_path_133  self44 R x2 x3 x4 x6 x7 ((x7) - (x6)) else if ((3 : Int32)) ≤ ((x7) - (x6)) then e_path_133  self44 R x2 x3 x4 x6 x7 ((x7) - (x6)) else ld (rA R 4) 1024 x6 (fun v19 => if v19 = ((46 : Int32)) then ld (rA R 4) 1024 ((x7) - ((1 : Int32))) (fun v20 => if v20 = ((46 : Int32)) then e_path_136  self44 R x2 x3 x4 x6 x7 ((x7) - (x6)) ((1 : Int32)) else e_path_133  self44 R x2 x3 x4 x6 x7 ((x7) - (x6))) else e_path_133  self44 R x2 x3 x4 x6 x7 ((x7) - (x6)))
def e_path_60  (self44 : RfT → Int32 → Int32 → Int32 → Int32 → Option (Int32 × RfT)) : Nat → RfT → Int32 → Int32 → Int32 → Int32 → Int32 → Option (Int32 × RfT)
  | 0, _, _, _, _, _, _ => none
  | n + 1, R, x2, x3, x4, x6, x7 => if x2 ≤ x7 then e_path_85  self44 R x2 x3 x4 x6 x7 else ld (rA R 4) 1024 x7 (fun v17 => bnd (e_isLetter R v17) (fun v18 => if v18 = 0 then e_path_85  self44 R x2 x3 x4 x6 x7 else e_path_60  self44 n R x2 x3 x4 x6 (x7 + (1 : Int32))))
def e_path_44  : Nat → RfT → Int32 → Int32 → Int32 → Int32 → Option (Int32 × RfT)
  | 0, _, _, _, _, _ => none
  | n + 1, R, x2, x3, x4, x5 => if x2 ≤ x5 then some (x4, R) else e_path_60  (e_path_44  n) fuL R x2 x3 x4 ((x5) + ((1 : Int32))) ((x5) + ((1 : Int32)))
def e_path  (R : RfT) (a0 : Int32) (a1 : Int32) (a2 : Int32) : Option (Int32 × RfT) := if ((a1) - (a0)) < ((1 : Int32)) then some ((-1 : Int32), R) else if ((255 : Int32)) < ((a1) - (a0)) then some ((-1 : Int32), R) else ld (rA R 4) 1024 a0 (fun v16 => if v16 = ((47 : Int32)) then if ((a1) - (a0)) = ((1 : Int32)) then some ((0 : Int32), R) else e_path_44  fuL R a1 a2 ((0 : Int32)) a0 else some ((-1 : Int32), R))
set_option maxRecDepth 100000 in
set_option maxHeartbeats 4000000 in
theorem l_X12_path_181 (E : gE) (f0 : Nat → va_E) (sz : Nat) (QA : Nat → Prop) (hE : 94 ≤ gN E) (self44 : RfT → Int32 → Int32 → Int32 → Int32 → Option (Int32 × RfT)) (hs44 : ∀ (R : RfT) (x2 : Int32) (x3 : Int32) (x4 : Int32) (x5 : Int32) (r : Int32) (R9 : RfT) (hr : self44 R x2 x3 x4 x5 = some (r, R9)) (f : Nat → va_E) (w : RW E f R) (hf : Fr RfK f0 f), G E (2, yX12_path, 10, (some .int), sz, QA) cX12_path (gO E (2, yX12_path, 10, (some .int), sz, QA) (fun v g => v = some (.int r) ∧ RW E g R9 ∧ Fr RfK f0 g, fun _ _ => False)) 44 [(0, .ref (gAd E (56))), (2, .int (x2)), (3, .int (x3)), (4, .int (x4)), (5, .int (x5))] [] f) : ∀ (R : RfT) (x2 : Int32) (x3 : Int32) (x4 : Int32) (x6 : Int32) (x7 : Int32) (x8 : Int32) (r : Int32) (R9 : RfT) (hr : e_path_181  self44 R x2 x3 x4 x6 x7 x8 = some (r, R9)) (f : Nat → va_E) (w : RW E f R) (hf : Fr RfK f0 f), G E (2, yX12_path, 10, (some .int), sz, QA) cX12_path (gO E (2, yX12_path, 10, (some .int), sz, QA) (fun v g => v = some (.int r) ∧ RW E g R9 ∧ Fr RfK f0 g, fun _ _ => False)) 181 [(0, .ref (gAd E (56))), (2, .int (x2)), (3, .int (x3)), (4, .int (x4)), (6, .int (x6)), (7, .int (x7)), (8, .int (x8))] [] f := by
  intro R x2 x3 x4 x6 x7 x8 r R9 hr f w hf
  obtain ⟨az, sy, r0⟩ := w
  unfold e_path_181 at hr
  refine G.go tv_X12_path 1 182 [(0, .ref (gAd E (56))), (2, .int (x2)), (3, .int (x3)), (4, .int (x4)), (6, .int (x6)), (7, .int (x7)), (8, .int (x8))] [.ref (gAd E (56))] rfl ?_
  refine G.rg r0 hE 50 (.ref (gAd E (84))) (by decide) rfl (tbd tv_X12_path rfl) w_2115 ?_
  refine G.go tv_X12_path 4 191 [(0, .ref (gAd E (56))), (2, .int (x2)), (3, .int (x3)), (4, .int (x4)), (6, .int (x6)), (7, .int (x7)), (8, .int (x8))] [.int (x6), .int ((x3) + (x4)), .ref (gAd E (84))] rfl ?_
  obtain ⟨R22, b22, eR22, hr⟩ := stR_s hr
  refine G.iast (84) (by omega) (r0.a50) b22 (tbd tv_X12_path rfl) ?_
  refine G.gen (P := fun w9 => RfV E w9 (setSr (setS R22 42 az) sy) ∧ Fr RfK f0 w9) ⟨by rw [eR22]; exact r0.p50 _, Fr.up hf ⟨by decide, by decide⟩⟩ (fun u22 p22 => ?_)
  obtain ⟨r22, h22⟩ := p22
  refine G.go tv_X12_path 1 193 [(0, .ref (gAd E (56))), (2, .int (x2)), (3, .int (x3)), (4, .int (x4)), (6, .int (x6)), (7, .int (x7)), (8, .int (x8))] [.ref (gAd E (56))] rfl ?_
  refine G.rg r22 hE 51 (.ref (gAd E (85))) (by decide) rfl (tbd tv_X12_path rfl) w_2116 ?_
  refine G.go tv_X12_path 4 202 [(0, .ref (gAd E (56))), (2, .int (x2)), (3, .int (x3)), (4, .int (x4)), (6, .int (x6)), (7, .int (x7)), (8, .int (x8))] [.int (x8), .int ((x3) + (x4)), .ref (gAd E (85))] rfl ?_
  obtain ⟨R23, b23, eR23, hr⟩ := stR_s hr
  refine G.iast (85) (by omega) (r22.a51) b23 (tbd tv_X12_path rfl) ?_
  refine G.gen (P := fun w9 => RfV E w9 (setSr (setS R23 42 az) sy) ∧ Fr RfK f0 w9) ⟨by rw [eR23]; exact r22.p51 _, Fr.up h22 ⟨by decide, by decide⟩⟩ (fun u23 p23 => ?_)
  obtain ⟨r23, h23⟩ := p23
  refine G.go tv_X12_path 4 44 [(0, .ref (gAd E (56))), (2, .int (x2)), (3, .int (x3)), (4, .int (x4 + (1 : Int32))), (6, .int (x6)), (7, .int (x7)), (8, .int (x8)), (5, .int (x7))] [] rfl ?_
  refine G.less [(0, .ref (gAd E (56))), (2, .int (x2)), (3, .int (x3)), (4, .int (x4 + (1 : Int32))), (5, .int (x7))] [0, 1, 2, 3, 7] rfl ?_
  exact hs44 _ _ _ _ _ _ _ hr _ ⟨_, _, r23⟩ h23
set_option maxRecDepth 100000 in
set_option maxHeartbeats 4000000 in
theorem l_X12_path_136 (E : gE) (f0 : Nat → va_E) (sz : Nat) (QA : Nat → Prop) (hE : 94 ≤ gN E) (self44 : RfT → Int32 → Int32 → Int32 → Int32 → Option (Int32 × RfT)) (hs44 : ∀ (R : RfT) (x2 : Int32) (x3 : Int32) (x4 : Int32) (x5 : Int32) (r : Int32) (R9 : RfT) (hr : self44 R x2 x3 x4 x5 = some (r, R9)) (f : Nat → va_E) (w : RW E f R) (hf : Fr RfK f0 f), G E (2, yX12_path, 10, (some .int), sz, QA) cX12_path (gO E (2, yX12_path, 10, (some .int), sz, QA) (fun v g => v = some (.int r) ∧ RW E g R9 ∧ Fr RfK f0 g, fun _ _ => False)) 44 [(0, .ref (gAd E (56))), (2, .int (x2)), (3, .int (x3)), (4, .int (x4)), (5, .int (x5))] [] f) : ∀ (R : RfT) (x2 : Int32) (x3 : Int32) (x4 : Int32) (x6 : Int32) (x7 : Int32) (x8 : Int32) (x9 : Int32) (r : Int32) (R9 : RfT) (hr : e_path_136  self44 R x2 x3 x4 x6 x7 x8 x9 = some (r, R9)) (f : Nat → va_E) (w : RW E f R) (hf : Fr RfK f0 f), G E (2, yX12_path, 10, (some .int), sz, QA) cX12_path (gO E (2, yX12_path, 10, (some .int), sz, QA) (fun v g => v = some (.int r) ∧ RW E g R9 ∧ Fr RfK f0 g, fun _ _ => False)) 136 [(0, .ref (gAd E (56))), (2, .int (x2)), (3, .int (x3)), (4, .int (x4)), (6, .int (x6)), (7, .int (x7)), (8, .int (x8)), (9, .int (x9))] [] f := by
  intro R x2 x3 x4 x6 x7 x8 x9 r R9 hr f w hf
  obtain ⟨az, sy, r0⟩ := w
  unfold e_path_136 at hr
  refine G.go tv_X12_path 2 140 [(0, .ref (gAd E (56))), (2, .int (x2)), (3, .int (x3)), (4, .int (x4)), (6, .int (x6)), (7, .int (x7)), (8, .int (x8)), (9, .int (x9))] [.int ((16 : Int32)), .int (x4)] rfl ?_
  refine G.cmp_eq 179 (tbd tv_X12_path rfl) (by decide) (fun c140 => ?_) (fun c140 => ?_)
  · replace hr := ite_t c140 hr
    refine G.go tv_X12_path 1 180 [(0, .ref (gAd E (56))), (2, .int (x2)), (3, .int (x3)), (4, .int (x4)), (6, .int (x6)), (7, .int (x7)), (8, .int (x8)), (9, .int (x9))] [.int ((-1 : Int32))] rfl ?_
    cases hr
    exact G.iret rfl rfl ⟨rfl, ⟨_, _, r0⟩, hf⟩ (tbd tv_X12_path rfl)
  · replace hr := ite_f c140 hr
    refine G.go tv_X12_path 2 146 [(0, .ref (gAd E (56))), (2, .int (x2)), (3, .int (x3)), (4, .int (x4)), (6, .int (x6)), (7, .int (x7)), (8, .int (x8)), (9, .int (x9))] [.int ((1 : Int32)), .int (x8)] rfl ?_
    refine G.cmp_lt 179 (tbd tv_X12_path rfl) (by decide) (fun c146 => ?_) (fun c146 => ?_)
    · replace hr := ite_t c146 hr
      refine G.go tv_X12_path 1 180 [(0, .ref (gAd E (56))), (2, .int (x2)), (3, .int (x3)), (4, .int (x4)), (6, .int (x6)), (7, .int (x7)), (8, .int (x8)), (9, .int (x9))] [.int ((-1 : Int32))] rfl ?_
      cases hr
      exact G.iret rfl rfl ⟨rfl, ⟨_, _, r0⟩, hf⟩ (tbd tv_X12_path rfl)
    · replace hr := ite_f c146 hr
      refine G.go tv_X12_path 2 153 [(0, .ref (gAd E (56))), (2, .int (x2)), (3, .int (x3)), (4, .int (x4)), (6, .int (x6)), (7, .int (x7)), (8, .int (x8)), (9, .int (x9))] [.int ((13 : Int32)), .int (x8)] rfl ?_
      refine G.cmp_gt 179 (tbd tv_X12_path rfl) (by decide) (fun c153 => ?_) (fun c153 => ?_)
      · replace hr := ite_t c153 hr
        refine G.go tv_X12_path 1 180 [(0, .ref (gAd E (56))), (2, .int (x2)), (3, .int (x3)), (4, .int (x4)), (6, .int (x6)), (7, .int (x7)), (8, .int (x8)), (9, .int (x9))] [.int ((-1 : Int32))] rfl ?_
        cases hr
        exact G.iret rfl rfl ⟨rfl, ⟨_, _, r0⟩, hf⟩ (tbd tv_X12_path rfl)
      · replace hr := ite_f c153 hr
        refine G.go tv_X12_path 1 158 [(0, .ref (gAd E (56))), (2, .int (x2)), (3, .int (x3)), (4, .int (x4)), (6, .int (x6)), (7, .int (x7)), (8, .int (x8)), (9, .int (x9))] [.int (x9)] rfl ?_
        refine G.if_ne 179 (tbd tv_X12_path rfl) (by decide) (fun c158 => ?_) (fun c158 => ?_)
        · replace hr := ite_f c158 hr
          refine G.go tv_X12_path 1 180 [(0, .ref (gAd E (56))), (2, .int (x2)), (3, .int (x3)), (4, .int (x4)), (6, .int (x6)), (7, .int (x7)), (8, .int (x8)), (9, .int (x9))] [.int ((-1 : Int32))] rfl ?_
          cases hr
          exact G.iret rfl rfl ⟨rfl, ⟨_, _, r0⟩, hf⟩ (tbd tv_X12_path rfl)
        · replace hr := ite_t c158 hr
          refine G.go tv_X12_path 2 164 [(0, .ref (gAd E (56))), (2, .int (x2)), (3, .int (x3)), (4, .int (x4)), (6, .int (x6)), (7, .int (x7)), (8, .int (x8)), (9, .int (x9))] [.int (x2), .int (x7)] rfl ?_
          refine G.cmp_ge 181 (tbd tv_X12_path rfl) (by decide) (fun c164 => ?_) (fun c164 => ?_)
          · replace hr := ite_t c164 hr
            refine G.less [(0, .ref (gAd E (56))), (2, .int (x2)), (3, .int (x3)), (4, .int (x4)), (6, .int (x6)), (7, .int (x7)), (8, .int (x8))] [0, 1, 2, 3, 4, 5, 6] rfl ?_
            exact l_X12_path_181 E f0 sz QA hE _ hs44 _ _ _ _ _ _ _ _ _ hr _ ⟨_, _, r0⟩ hf
          · replace hr := ite_f c164 hr
            refine G.go tv_X12_path 1 168 [(0, .ref (gAd E (56))), (2, .int (x2)), (3, .int (x3)), (4, .int (x4)), (6, .int (x6)), (7, .int (x7)), (8, .int (x8)), (9, .int (x9))] [.ref (gAd E (56))] rfl ?_
            refine G.rg r0 hE 4 (.ref (gAd E (57))) (by decide) rfl (tbd tv_X12_path rfl) w_2069 ?_
            refine G.go tv_X12_path 1 173 [(0, .ref (gAd E (56))), (2, .int (x2)), (3, .int (x3)), (4, .int (x4)), (6, .int (x6)), (7, .int (x7)), (8, .int (x8)), (9, .int (x9))] [.int (x7), .ref (gAd E (57))] rfl ?_
            obtain ⟨v21, b21, e21, hr⟩ := ld_s hr
            refine G.baldE (57) (by omega) (r0.a4) b21 e21 (tbd tv_X12_path rfl) ?_
            refine G.go tv_X12_path 1 176 [(0, .ref (gAd E (56))), (2, .int (x2)), (3, .int (x3)), (4, .int (x4)), (6, .int (x6)), (7, .int (x7)), (8, .int (x8)), (9, .int (x9))] [.int ((47 : Int32)), .int (v21)] rfl ?_
            refine G.cmp_eq 181 (tbd tv_X12_path rfl) (by decide) (fun c176 => ?_) (fun c176 => ?_)
            · replace hr := ite_t c176 hr
              refine G.less [(0, .ref (gAd E (56))), (2, .int (x2)), (3, .int (x3)), (4, .int (x4)), (6, .int (x6)), (7, .int (x7)), (8, .int (x8))] [0, 1, 2, 3, 4, 5, 6] rfl ?_
              exact l_X12_path_181 E f0 sz QA hE _ hs44 _ _ _ _ _ _ _ _ _ hr _ ⟨_, _, r0⟩ hf
            · replace hr := ite_f c176 hr
              refine G.go tv_X12_path 1 180 [(0, .ref (gAd E (56))), (2, .int (x2)), (3, .int (x3)), (4, .int (x4)), (6, .int (x6)), (7, .int (x7)), (8, .int (x8)), (9, .int (x9))] [.int ((-1 : Int32))] rfl ?_
              cases hr
              exact G.iret rfl rfl ⟨rfl, ⟨_, _, r0⟩, hf⟩ (tbd tv_X12_path rfl)
set_option maxRecDepth 100000 in
set_option maxHeartbeats 4000000 in
theorem l_X12_path_133 (E : gE) (f0 : Nat → va_E) (sz : Nat) (QA : Nat → Prop) (hE : 94 ≤ gN E) (self44 : RfT → Int32 → Int32 → Int32 → Int32 → Option (Int32 × RfT)) (hs44 : ∀ (R : RfT) (x2 : Int32) (x3 : Int32) (x4 : Int32) (x5 : Int32) (r : Int32) (R9 : RfT) (hr : self44 R x2 x3 x4 x5 = some (r, R9)) (f : Nat → va_E) (w : RW E f R) (hf : Fr RfK f0 f), G E (2, yX12_path, 10, (some .int), sz, QA) cX12_path (gO E (2, yX12_path, 10, (some .int), sz, QA) (fun v g => v = some (.int r) ∧ RW E g R9 ∧ Fr RfK f0 g, fun _ _ => False)) 44 [(0, .ref (gAd E (56))), (2, .int (x2)), (3, .int (x3)), (4, .int (x4)), (5, .int (x5))] [] f) : ∀ (R : RfT) (x2 : Int32) (x3 : Int32) (x4 : Int32) (x6 : Int32) (x7 : Int32) (x8 : Int32) (r : Int32) (R9 : RfT) (hr : e_path_133  self44 R x2 x3 x4 x6 x7 x8 = some (r, R9)) (f : Nat → va_E) (w : RW E f R) (hf : Fr RfK f0 f), G E (2, yX12_path, 10, (some .int), sz, QA) cX12_path (gO E (2, yX12_path, 10, (some .int), sz, QA) (fun v g => v = some (.int r) ∧ RW E g R9 ∧ Fr RfK f0 g, fun _ _ => False)) 133 [(0, .ref (gAd E (56))), (2, .int (x2)), (3, .int (x3)), (4, .int (x4)), (6, .int (x6)), (7, .int (x7)), (8, .int (x8))] [] f := by
  intro R x2 x3 x4 x6 x7 x8 r R9 hr f w hf
  obtain ⟨az, sy, r0⟩ := w
  unfold e_path_133 at hr
  refine G.go tv_X12_path 2 136 [(0, .ref (gAd E (56))), (2, .int (x2)), (3, .int (x3)), (4, .int (x4)), (6, .int (x6)), (7, .int (x7)), (8, .int (x8)), (9, .int ((0 : Int32)))] [] rfl ?_
  refine G.less [(0, .ref (gAd E (56))), (2, .int (x2)), (3, .int (x3)), (4, .int (x4)), (6, .int (x6)), (7, .int (x7)), (8, .int (x8)), (9, .int ((0 : Int32)))] [0, 1, 2, 3, 4, 5, 6, 7] rfl ?_
  exact l_X12_path_136 E f0 sz QA hE _ hs44 _ _ _ _ _ _ _ _ _ _ hr _ ⟨_, _, r0⟩ hf
set_option maxRecDepth 100000 in
set_option maxHeartbeats 4000000 in
theorem l_X12_path_85 (E : gE) (f0 : Nat → va_E) (sz : Nat) (QA : Nat → Prop) (hE : 94 ≤ gN E) (self44 : RfT → Int32 → Int32 → Int32 → Int32 → Option (Int32 × RfT)) (hs44 : ∀ (R : RfT) (x2 : Int32) (x3 : Int32) (x4 : Int32) (x5 : Int32) (r : Int32) (R9 : RfT) (hr : self44 R x2 x3 x4 x5 = some (r, R9)) (f : Nat → va_E) (w : RW E f R) (hf : Fr RfK f0 f), G E (2, yX12_path, 10, (some .int), sz, QA) cX12_path (gO E (2, yX12_path, 10, (some .int), sz, QA) (fun v g => v = some (.int r) ∧ RW E g R9 ∧ Fr RfK f0 g, fun _ _ => False)) 44 [(0, .ref (gAd E (56))), (2, .int (x2)), (3, .int (x3)), (4, .int (x4)), (5, .int (x5))] [] f) : ∀ (R : RfT) (x2 : Int32) (x3 : Int32) (x4 : Int32) (x6 : Int32) (x7 : Int32) (r : Int32) (R9 : RfT) (hr : e_path_85  self44 R x2 x3 x4 x6 x7 = some (r, R9)) (f : Nat → va_E) (w : RW E f R) (hf : Fr RfK f0 f), G E (2, yX12_path, 10, (some .int), sz, QA) cX12_path (gO E (2, yX12_path, 10, (some .int), sz, QA) (fun v g => v = some (.int r) ∧ RW E g R9 ∧ Fr RfK f0 g, fun _ _ => False)) 85 [(0, .ref (gAd E (56))), (2, .int (x2)), (3, .int (x3)), (4, .int (x4)), (6, .int (x6)), (7, .int (x7))] [] f := by
  intro R x2 x3 x4 x6 x7 r R9 hr f w hf
  obtain ⟨az, sy, r0⟩ := w
  unfold e_path_85 at hr
  refine G.go tv_X12_path 5 94 [(0, .ref (gAd E (56))), (2, .int (x2)), (3, .int (x3)), (4, .int (x4)), (6, .int (x6)), (7, .int (x7)), (8, .int ((x7) - (x6)))] [.int ((x7) - (x6))] rfl ?_
  refine G.if_le 133 (tbd tv_X12_path rfl) (by decide) (fun c94 => ?_) (fun c94 => ?_)
  · replace hr := ite_t c94 hr
    refine G.less [(0, .ref (gAd E (56))), (2, .int (x2)), (3, .int (x3)), (4, .int (x4)), (6, .int (x6)), (7, .int (x7)), (8, .int ((x7) - (x6)))] [0, 1, 2, 3, 4, 5, 6] rfl ?_
    exact l_X12_path_133 E f0 sz QA hE _ hs44 _ _ _ _ _ _ _ _ _ hr _ ⟨_, _, r0⟩ hf
  · replace hr := ite_f c94 hr
    refine G.go tv_X12_path 2 100 [(0, .ref (gAd E (56))), (2, .int (x2)), (3, .int (x3)), (4, .int (x4)), (6, .int (x6)), (7, .int (x7)), (8, .int ((x7) - (x6)))] [.int ((3 : Int32)), .int ((x7) - (x6))] rfl ?_
    refine G.cmp_ge 133 (tbd tv_X12_path rfl) (by decide) (fun c100 => ?_) (fun c100 => ?_)
    · replace hr := ite_t c100 hr
      refine G.less [(0, .ref (gAd E (56))), (2, .int (x2)), (3, .int (x3)), (4, .int (x4)), (6, .int (x6)), (7, .int (x7)), (8, .int ((x7) - (x6)))] [0, 1, 2, 3, 4, 5, 6] rfl ?_
      exact l_X12_path_133 E f0 sz QA hE _ hs44 _ _ _ _ _ _ _ _ _ hr _ ⟨_, _, r0⟩ hf
    · replace hr := ite_f c100 hr
      refine G.go tv_X12_path 1 104 [(0, .ref (gAd E (56))), (2, .int (x2)), (3, .int (x3)), (4, .int (x4)), (6, .int (x6)), (7, .int (x7)), (8, .int ((x7) - (x6)))] [.ref (gAd E (56))] rfl ?_
      refine G.rg r0 hE 4 (.ref (gAd E (57))) (by decide) rfl (tbd tv_X12_path rfl) w_2069 ?_
      refine G.go tv_X12_path 1 109 [(0, .ref (gAd E (56))), (2, .int (x2)), (3, .int (x3)), (4, .int (x4)), (6, .int (x6)), (7, .int (x7)), (8, .int ((x7) - (x6)))] [.int (x6), .ref (gAd E (57))] rfl ?_
      obtain ⟨v19, b19, e19, hr⟩ := ld_s hr
      refine G.baldE (57) (by omega) (r0.a4) b19 e19 (tbd tv_X12_path rfl) ?_
      refine G.go tv_X12_path 1 112 [(0, .ref (gAd E (56))), (2, .int (x2)), (3, .int (x3)), (4, .int (x4)), (6, .int (x6)), (7, .int (x7)), (8, .int ((x7) - (x6)))] [.int ((46 : Int32)), .int (v19)] rfl ?_
      refine G.cmp_ne 133 (tbd tv_X12_path rfl) (by decide) (fun c112 => ?_) (fun c112 => ?_)
      · replace hr := ite_f c112 hr
        refine G.less [(0, .ref (gAd E (56))), (2, .int (x2)), (3, .int (x3)), (4, .int (x4)), (6, .int (x6)), (7, .int (x7)), (8, .int ((x7) - (x6)))] [0, 1, 2, 3, 4, 5, 6] rfl ?_
        exact l_X12_path_133 E f0 sz QA hE _ hs44 _ _ _ _ _ _ _ _ _ hr _ ⟨_, _, r0⟩ hf
      · replace hr := ite_t c112 hr
        refine G.go tv_X12_path 1 116 [(0, .ref (gAd E (56))), (2, .int (x2)), (3, .int (x3)), (4, .int (x4)), (6, .int (x6)), (7, .int (x7)), (8, .int ((x7) - (x6)))] [.ref (gAd E (56))] rfl ?_
        refine G.rg r0 hE 4 (.ref (gAd E (57))) (by decide) rfl (tbd tv_X12_path rfl) w_2069 ?_
        refine G.go tv_X12_path 3 123 [(0, .ref (gAd E (56))), (2, .int (x2)), (3, .int (x3)), (4, .int (x4)), (6, .int (x6)), (7, .int (x7)), (8, .int ((x7) - (x6)))] [.int ((x7) - ((1 : Int32))), .ref (gAd E (57))] rfl ?_
        obtain ⟨v20, b20, e20, hr⟩ := ld_s hr
        refine G.baldE (57) (by omega) (r0.a4) b20 e20 (tbd tv_X12_path rfl) ?_
        refine G.go tv_X12_path 1 126 [(0, .ref (gAd E (56))), (2, .int (x2)), (3, .int (x3)), (4, .int (x4)), (6, .int (x6)), (7, .int (x7)), (8, .int ((x7) - (x6)))] [.int ((46 : Int32)), .int (v20)] rfl ?_
        refine G.cmp_ne 133 (tbd tv_X12_path rfl) (by decide) (fun c126 => ?_) (fun c126 => ?_)
        · replace hr := ite_f c126 hr
          refine G.less [(0, .ref (gAd E (56))), (2, .int (x2)), (3, .int (x3)), (4, .int (x4)), (6, .int (x6)), (7, .int (x7)), (8, .int ((x7) - (x6)))] [0, 1, 2, 3, 4, 5, 6] rfl ?_
          exact l_X12_path_133 E f0 sz QA hE _ hs44 _ _ _ _ _ _ _ _ _ hr _ ⟨_, _, r0⟩ hf
        · replace hr := ite_t c126 hr
          refine G.go tv_X12_path 3 136 [(0, .ref (gAd E (56))), (2, .int (x2)), (3, .int (x3)), (4, .int (x4)), (6, .int (x6)), (7, .int (x7)), (8, .int ((x7) - (x6))), (9, .int ((1 : Int32)))] [] rfl ?_
          refine G.less [(0, .ref (gAd E (56))), (2, .int (x2)), (3, .int (x3)), (4, .int (x4)), (6, .int (x6)), (7, .int (x7)), (8, .int ((x7) - (x6))), (9, .int ((1 : Int32)))] [0, 1, 2, 3, 4, 5, 6, 7] rfl ?_
          exact l_X12_path_136 E f0 sz QA hE _ hs44 _ _ _ _ _ _ _ _ _ _ hr _ ⟨_, _, r0⟩ hf
set_option maxRecDepth 100000 in
set_option maxHeartbeats 4000000 in
theorem l_X12_path_60 (E : gE) (f0 : Nat → va_E) (sz : Nat) (QA : Nat → Prop) (hE : 94 ≤ gN E) (self44 : RfT → Int32 → Int32 → Int32 → Int32 → Option (Int32 × RfT)) (hs44 : ∀ (R : RfT) (x2 : Int32) (x3 : Int32) (x4 : Int32) (x5 : Int32) (r : Int32) (R9 : RfT) (hr : self44 R x2 x3 x4 x5 = some (r, R9)) (f : Nat → va_E) (w : RW E f R) (hf : Fr RfK f0 f), G E (2, yX12_path, 10, (some .int), sz, QA) cX12_path (gO E (2, yX12_path, 10, (some .int), sz, QA) (fun v g => v = some (.int r) ∧ RW E g R9 ∧ Fr RfK f0 g, fun _ _ => False)) 44 [(0, .ref (gAd E (56))), (2, .int (x2)), (3, .int (x3)), (4, .int (x4)), (5, .int (x5))] [] f) : ∀ (n : Nat), ∀ (R : RfT) (x2 : Int32) (x3 : Int32) (x4 : Int32) (x6 : Int32) (x7 : Int32) (r : Int32) (R9 : RfT) (hr : e_path_60  self44 n R x2 x3 x4 x6 x7 = some (r, R9)) (f : Nat → va_E) (w : RW E f R) (hf : Fr RfK f0 f), G E (2, yX12_path, 10, (some .int), sz, QA) cX12_path (gO E (2, yX12_path, 10, (some .int), sz, QA) (fun v g => v = some (.int r) ∧ RW E g R9 ∧ Fr RfK f0 g, fun _ _ => False)) 60 [(0, .ref (gAd E (56))), (2, .int (x2)), (3, .int (x3)), (4, .int (x4)), (6, .int (x6)), (7, .int (x7))] [] f := by
  intro n
  induction n with
  | zero =>
    intro R x2 x3 x4 x6 x7 r R9 hr f w hf
    cases hr
  | succ n ih =>
    intro R x2 x3 x4 x6 x7 r R9 hr f w hf
    obtain ⟨az, sy, r0⟩ := w
    unfold e_path_60 at hr
    refine G.go tv_X12_path 2 63 [(0, .ref (gAd E (56))), (2, .int (x2)), (3, .int (x3)), (4, .int (x4)), (6, .int (x6)), (7, .int (x7))] [.int (x2), .int (x7)] rfl ?_
    refine G.cmp_ge 85 (tbd tv_X12_path rfl) (by decide) (fun c63 => ?_) (fun c63 => ?_)
    · replace hr := ite_t c63 hr
      refine G.less [(0, .ref (gAd E (56))), (2, .int (x2)), (3, .int (x3)), (4, .int (x4)), (6, .int (x6)), (7, .int (x7))] [0, 1, 2, 3, 4, 5] rfl ?_
      exact l_X12_path_85 E f0 sz QA hE _ hs44 _ _ _ _ _ _ _ _ hr _ ⟨_, _, r0⟩ hf
    · replace hr := ite_f c63 hr
      refine G.go tv_X12_path 1 67 [(0, .ref (gAd E (56))), (2, .int (x2)), (3, .int (x3)), (4, .int (x4)), (6, .int (x6)), (7, .int (x7))] [.ref (gAd E (56))] rfl ?_
      refine G.rg r0 hE 4 (.ref (gAd E (57))) (by decide) rfl (tbd tv_X12_path rfl) w_2069 ?_
      refine G.go tv_X12_path 1 72 [(0, .ref (gAd E (56))), (2, .int (x2)), (3, .int (x3)), (4, .int (x4)), (6, .int (x6)), (7, .int (x7))] [.int (x7), .ref (gAd E (57))] rfl ?_
      obtain ⟨v17, b17, e17, hr⟩ := ld_s hr
      refine G.baldE (57) (by omega) (r0.a4) b17 e17 (tbd tv_X12_path rfl) ?_
      obtain ⟨v18, hv18, hr⟩ := bnd_s hr
      refine G.callS [.int (v17)] [] (k_X12_isLetter E _ hE R ⟨_, _, r0⟩ v17 v18 hv18) cw_X12_358 w_2487 (Nat.le_of_ble_eq_true rfl) rfl (Nat.le_of_ble_eq_true rfl) (tbd tv_X12_path rfl) (fun v18w f18 q18 => ?_) (fun _ _ h => h.elim)
      obtain ⟨rfl, ⟨az18, sy18, r18⟩, fa18⟩ := q18
      refine G.eqs [.int (v18)] rfl ?_
      refine G.if_eq 85 (tbd tv_X12_path rfl) (by decide) (fun c76 => ?_) (fun c76 => ?_)
      · replace hr := ite_t c76 hr
        refine G.less [(0, .ref (gAd E (56))), (2, .int (x2)), (3, .int (x3)), (4, .int (x4)), (6, .int (x6)), (7, .int (x7))] [0, 1, 2, 3, 4, 5] rfl ?_
        exact l_X12_path_85 E f0 sz QA hE _ hs44 _ _ _ _ _ _ _ _ hr _ ⟨_, _, r18⟩ (hf.tr fa18 (fun _ h => h))
      · replace hr := ite_f c76 hr
        refine G.go tv_X12_path 2 60 [(0, .ref (gAd E (56))), (2, .int (x2)), (3, .int (x3)), (4, .int (x4)), (6, .int (x6)), (7, .int (x7 + (1 : Int32)))] [] rfl ?_
        refine G.less [(0, .ref (gAd E (56))), (2, .int (x2)), (3, .int (x3)), (4, .int (x4)), (6, .int (x6)), (7, .int (x7 + (1 : Int32)))] [0, 1, 2, 3, 4, 5] rfl ?_
        exact ih _ _ _ _ _ _ _ _ hr _ ⟨_, _, r18⟩ (hf.tr fa18 (fun _ h => h))
set_option maxRecDepth 100000 in
set_option maxHeartbeats 4000000 in
theorem l_X12_path_44 (E : gE) (f0 : Nat → va_E) (sz : Nat) (QA : Nat → Prop) (hE : 94 ≤ gN E) : ∀ (n : Nat), ∀ (R : RfT) (x2 : Int32) (x3 : Int32) (x4 : Int32) (x5 : Int32) (r : Int32) (R9 : RfT) (hr : e_path_44  n R x2 x3 x4 x5 = some (r, R9)) (f : Nat → va_E) (w : RW E f R) (hf : Fr RfK f0 f), G E (2, yX12_path, 10, (some .int), sz, QA) cX12_path (gO E (2, yX12_path, 10, (some .int), sz, QA) (fun v g => v = some (.int r) ∧ RW E g R9 ∧ Fr RfK f0 g, fun _ _ => False)) 44 [(0, .ref (gAd E (56))), (2, .int (x2)), (3, .int (x3)), (4, .int (x4)), (5, .int (x5))] [] f := by
  intro n
  induction n with
  | zero =>
    intro R x2 x3 x4 x5 r R9 hr f w hf
    cases hr
  | succ n ih =>
    intro R x2 x3 x4 x5 r R9 hr f w hf
    obtain ⟨az, sy, r0⟩ := w
    unfold e_path_44 at hr
    refine G.go tv_X12_path 2 47 [(0, .ref (gAd E (56))), (2, .int (x2)), (3, .int (x3)), (4, .int (x4)), (5, .int (x5))] [.int (x2), .int (x5)] rfl ?_
    refine G.cmp_ge 213 (tbd tv_X12_path rfl) (by decide) (fun c47 => ?_) (fun c47 => ?_)
    · replace hr := ite_t c47 hr
      refine G.go tv_X12_path 1 215 [(0, .ref (gAd E (56))), (2, .int (x2)), (3, .int (x3)), (4, .int (x4)), (5, .int (x5))] [.int (x4)] rfl ?_
      cases hr
      exact G.iret rfl rfl ⟨rfl, ⟨_, _, r0⟩, hf⟩ (tbd tv_X12_path rfl)
    · replace hr := ite_f c47 hr
      refine G.go tv_X12_path 6 60 [(0, .ref (gAd E (56))), (2, .int (x2)), (3, .int (x3)), (4, .int (x4)), (5, .int (x5)), (6, .int ((x5) + ((1 : Int32)))), (7, .int ((x5) + ((1 : Int32))))] [] rfl ?_
      refine G.less [(0, .ref (gAd E (56))), (2, .int (x2)), (3, .int (x3)), (4, .int (x4)), (6, .int ((x5) + ((1 : Int32)))), (7, .int ((x5) + ((1 : Int32))))] [0, 1, 2, 3, 5, 6] rfl ?_
      exact l_X12_path_60 E f0 sz QA hE _ ih _ _ _ _ _ _ _ _ _ hr _ ⟨_, _, r0⟩ hf
set_option maxRecDepth 100000 in
set_option maxHeartbeats 4000000 in
theorem k_X12_path (E : gE) (f : Nat → va_E) (hE : 94 ≤ gN E) (R : RfT) (w : RW E f R) (a0 : Int32) (a1 : Int32) (a2 : Int32) (r : Int32) (R9 : RfT) (hr : e_path R a0 a1 a2 = some (r, R9)) : Ct E 2 yX12_path cX12_path 10 (some .int) [.ref (gAd E (56)), .int (a0), .int (a1), .int (a2)] f (fun v g => v = some (.int r) ∧ RW E g R9 ∧ Fr RfK f g, fun _ _ => False) := by
  obtain ⟨az, sy, r0⟩ := w
  refine Ct.of (by decide) (Nat.le_of_ble_eq_true rfl) (fun sz => ?_)
  refine G.eql [(0, .ref (gAd E (56))), (1, .int (a0)), (2, .int (a1)), (3, .int (a2))] rfl ?_
  unfold e_path at hr
  refine G.go tv_X12_path 4 4 [(0, .ref (gAd E (56))), (1, .int (a0)), (2, .int (a1)), (3, .int (a2))] [.int ((1 : Int32)), .int ((a1) - (a0))] rfl ?_
  refine G.cmp_lt 27 (tbd tv_X12_path rfl) (by decide) (fun c4 => ?_) (fun c4 => ?_)
  · replace hr := ite_t c4 hr
    refine G.go tv_X12_path 1 28 [(0, .ref (gAd E (56))), (1, .int (a0)), (2, .int (a1)), (3, .int (a2))] [.int ((-1 : Int32))] rfl ?_
    cases hr
    exact G.iret rfl rfl ⟨rfl, ⟨_, _, r0⟩, Fr.rf⟩ (tbd tv_X12_path rfl)
  · replace hr := ite_f c4 hr
    refine G.go tv_X12_path 4 13 [(0, .ref (gAd E (56))), (1, .int (a0)), (2, .int (a1)), (3, .int (a2))] [.int ((255 : Int32)), .int ((a1) - (a0))] rfl ?_
    refine G.cmp_gt 27 (tbd tv_X12_path rfl) (by decide) (fun c13 => ?_) (fun c13 => ?_)
    · replace hr := ite_t c13 hr
      refine G.go tv_X12_path 1 28 [(0, .ref (gAd E (56))), (1, .int (a0)), (2, .int (a1)), (3, .int (a2))] [.int ((-1 : Int32))] rfl ?_
      cases hr
      exact G.iret rfl rfl ⟨rfl, ⟨_, _, r0⟩, Fr.rf⟩ (tbd tv_X12_path rfl)
    · replace hr := ite_f c13 hr
      refine G.go tv_X12_path 1 17 [(0, .ref (gAd E (56))), (1, .int (a0)), (2, .int (a1)), (3, .int (a2))] [.ref (gAd E (56))] rfl ?_
      refine G.rg r0 hE 4 (.ref (gAd E (57))) (by decide) rfl (tbd tv_X12_path rfl) w_2069 ?_
      refine G.go tv_X12_path 1 21 [(0, .ref (gAd E (56))), (1, .int (a0)), (2, .int (a1)), (3, .int (a2))] [.int (a0), .ref (gAd E (57))] rfl ?_
      obtain ⟨v16, b16, e16, hr⟩ := ld_s hr
      refine G.baldE (57) (by omega) (r0.a4) b16 e16 (tbd tv_X12_path rfl) ?_
      refine G.go tv_X12_path 1 24 [(0, .ref (gAd E (56))), (1, .int (a0)), (2, .int (a1)), (3, .int (a2))] [.int ((47 : Int32)), .int (v16)] rfl ?_
      refine G.cmp_eq 29 (tbd tv_X12_path rfl) (by decide) (fun c24 => ?_) (fun c24 => ?_)
      · replace hr := ite_t c24 hr
        refine G.go tv_X12_path 4 33 [(0, .ref (gAd E (56))), (1, .int (a0)), (2, .int (a1)), (3, .int (a2))] [.int ((1 : Int32)), .int ((a1) - (a0))] rfl ?_
        refine G.cmp_ne 38 (tbd tv_X12_path rfl) (by decide) (fun c33 => ?_) (fun c33 => ?_)
        · replace hr := ite_f c33 hr
          refine G.go tv_X12_path 4 44 [(0, .ref (gAd E (56))), (1, .int (a0)), (2, .int (a1)), (3, .int (a2)), (4, .int ((0 : Int32))), (5, .int (a0))] [] rfl ?_
          refine G.less [(0, .ref (gAd E (56))), (2, .int (a1)), (3, .int (a2)), (4, .int ((0 : Int32))), (5, .int (a0))] [0, 2, 3, 4, 5] rfl ?_
          exact l_X12_path_44 E f sz _ hE _ _ _ _ _ _ _ _ hr _ ⟨_, _, r0⟩ Fr.rf
        · replace hr := ite_t c33 hr
          refine G.go tv_X12_path 1 37 [(0, .ref (gAd E (56))), (1, .int (a0)), (2, .int (a1)), (3, .int (a2))] [.int ((0 : Int32))] rfl ?_
          cases hr
          exact G.iret rfl rfl ⟨rfl, ⟨_, _, r0⟩, Fr.rf⟩ (tbd tv_X12_path rfl)
      · replace hr := ite_f c24 hr
        refine G.go tv_X12_path 1 28 [(0, .ref (gAd E (56))), (1, .int (a0)), (2, .int (a1)), (3, .int (a2))] [.int ((-1 : Int32))] rfl ?_
        cases hr
        exact G.iret rfl rfl ⟨rfl, ⟨_, _, r0⟩, Fr.rf⟩ (tbd tv_X12_path rfl)
def tb_X12_twoPaths : List (Nat × Instr × Nat) := [(0, .iconst (-1), 1), (1, .istore_n 2, 1), (2, .iconst 0, 1), (3, .istore_n 3, 1), (4, .iload_n 3, 1), (5, .iload_n 1, 1), (6, .if_icmp .ge 27, 3), (9, .aload_n 0, 1), (10, .getfield 7, 3), (13, .iload_n 3, 1), (14, .baload, 1), (15, .ifCond .ne 12, 3), (18, .iload_n 2, 1), (19, .iconst (-1), 1), (20, .if_icmp .eq 5, 3), (23, .iconst (-1), 1), (24, .ireturn, 1), (25, .iload_n 3, 1), (26, .istore_n 2, 1), (27, .iinc 3 1, 3), (30, .goto (-26), 3), (33, .iload_n 2, 1), (34, .iconst (-1), 1), (35, .if_icmp .ne 5, 3), (38, .iconst (-1), 1), (39, .ireturn, 1), (40, .aload_n 0, 1), (41, .aload_n 0, 1), (42, .iconst 0, 1), (43, .iload_n 2, 1), (44, .iconst 0, 1), (45, .invokevirtual 421, 3), (48, .putfield 448, 3), (51, .aload_n 0, 1), (52, .getfield 448, 3), (55, .iconst (-1), 1), (56, .if_icmp .ne 7, 3), (59, .iconst (-1), 1), (60, .goto 13, 3), (63, .aload_n 0, 1), (64, .iload_n 2, 1), (65, .iconst 1, 1), (66, .iadd, 1), (67, .iload_n 1, 1), (68, .bipush 16, 2), (70, .invokevirtual 421, 3), (73, .ireturn, 1)]
theorem tv_X12_twoPaths : Tv cX12_twoPaths tb_X12_twoPaths := by
  unfold Tv
  decide +kernel
theorem w_2482 : Cond.methodLink "LedgerFilesModel" 421 yX12_path ∈ TB := tp_10 176 (by decide +kernel) rfl
theorem w_2485 : Cond.code yX12_path prog_14_method_66_code 10 (some .int) ∈ TB := tp_10 179 rfl rfl
theorem cw_X12_421 : Cw RX12 421 yX12_path cX12_path 10 (some .int) 3 := ⟨w_2482, w_2485, w_161, by decide +kernel, by decide +kernel, by decide⟩
theorem w_2484 : Cond.instanceMethod yX12_path ∈ TB := tp_10 178 (by decide +kernel) rfl
theorem w_100 : Cond.selects "LedgerFilesModel" yX12_path yX12_path ∈ TB := tp_0 100 (by decide +kernel) rfl
theorem w_2121 : Cond.fieldLink "LedgerFilesModel" 448 "LedgerFilesModel" "firstMany" "I" ∈ TB := tp_9 55 (by decide +kernel) rfl
def e_twoPaths_4  : Nat → RfT → Int32 → Int32 → Int32 → Option (Int32 × RfT)
  | 0, _, _, _, _ => none
  | n + 1, R, x1, x2, x3 => if x1 ≤ x3 then if x2 = ((-1 : Int32)) then some ((-1 : Int32), R) else bnd2 (e_path R ((0 : Int32)) x2 ((0 : Int32))) (fun v24 R24 => ptR R24 56 v24 (fun R25 => if (rS R25 56) = ((-1 : Int32)) then some ((-1 : Int32), R25) else bnd2 (e_path R25 ((x2) + ((1 : Int32))) x1 ((16 : Int32))) (fun v26 R26 => some (v26, R26)))) else ld (rA R 4) 1024 x3 (fun v27 => if v27 = 0 then if x2 = ((-1 : Int32)) then e_twoPaths_4  n R x1 x3 (x3 + (1 : Int32)) else some ((-1 : Int32), R) else e_twoPaths_4  n R x1 x2 (x3 + (1 : Int32)))
def e_twoPaths  (R : RfT) (a0 : Int32) : Option (Int32 × RfT) := e_twoPaths_4  fuL R a0 ((-1 : Int32)) ((0 : Int32))
set_option maxRecDepth 100000 in
set_option maxHeartbeats 4000000 in
theorem l_X12_twoPaths_4 (E : gE) (f0 : Nat → va_E) (sz : Nat) (QA : Nat → Prop) (hE : 94 ≤ gN E) : ∀ (n : Nat), ∀ (R : RfT) (x1 : Int32) (x2 : Int32) (x3 : Int32) (r : Int32) (R9 : RfT) (hr : e_twoPaths_4  n R x1 x2 x3 = some (r, R9)) (f : Nat → va_E) (w : RW E f R) (hf : Fr RfK f0 f), G E (3, yX12_twoPaths, 4, (some .int), sz, QA) cX12_twoPaths (gO E (3, yX12_twoPaths, 4, (some .int), sz, QA) (fun v g => v = some (.int r) ∧ RW E g R9 ∧ Fr RfK f0 g, fun _ _ => False)) 4 [(0, .ref (gAd E (56))), (1, .int (x1)), (2, .int (x2)), (3, .int (x3))] [] f := by
  intro n
  induction n with
  | zero =>
    intro R x1 x2 x3 r R9 hr f w hf
    cases hr
  | succ n ih =>
    intro R x1 x2 x3 r R9 hr f w hf
    obtain ⟨az, sy, r0⟩ := w
    unfold e_twoPaths_4 at hr
    refine G.go tv_X12_twoPaths 2 6 [(0, .ref (gAd E (56))), (1, .int (x1)), (2, .int (x2)), (3, .int (x3))] [.int (x1), .int (x3)] rfl ?_
    refine G.cmp_ge 33 (tbd tv_X12_twoPaths rfl) (by decide) (fun c6 => ?_) (fun c6 => ?_)
    · replace hr := ite_t c6 hr
      refine G.go tv_X12_twoPaths 2 35 [(0, .ref (gAd E (56))), (1, .int (x1)), (2, .int (x2)), (3, .int (x3))] [.int ((-1 : Int32)), .int (x2)] rfl ?_
      refine G.cmp_ne 40 (tbd tv_X12_twoPaths rfl) (by decide) (fun c35 => ?_) (fun c35 => ?_)
      · replace hr := ite_f c35 hr
        refine G.go tv_X12_twoPaths 5 45 [(0, .ref (gAd E (56))), (1, .int (x1)), (2, .int (x2)), (3, .int (x3))] [.int ((0 : Int32)), .int (x2), .int ((0 : Int32)), .ref (gAd E (56)), .ref (gAd E (56))] rfl ?_
        obtain ⟨v24, R24, hv24, hr⟩ := bnd2_s hr
        refine G.callV (56) [.int ((0 : Int32)), .int (x2), .int ((0 : Int32))] [.ref (gAd E (56))] (k_X12_path E _ hE R ⟨_, _, r0⟩ ((0 : Int32)) x2 ((0 : Int32)) v24 R24 hv24) cls_X12 (by omega) (r0.o) cw_X12_421 w_2484 w_100 (Nat.le_of_ble_eq_true rfl) rfl (Nat.le_of_ble_eq_true rfl) (tbd tv_X12_twoPaths rfl) (fun v24w f24 q24 => ?_) (fun _ _ h => h.elim)
        obtain ⟨rfl, ⟨az24, sy24, r24⟩, fa24⟩ := q24
        refine G.eqs [.int (v24), .ref (gAd E (56))] rfl ?_
        obtain ⟨R25, eR25, hr⟩ := ptR_s hr
        refine G.rpW r24 hE 56 eR25 (by decide) rfl (by decide) rfl rfl rfl (tbd tv_X12_twoPaths rfl) w_2121 (fun u25 r25 h25 => ?_)
        refine G.go tv_X12_twoPaths 1 52 [(0, .ref (gAd E (56))), (1, .int (x1)), (2, .int (x2)), (3, .int (x3))] [.ref (gAd E (56))] rfl ?_
        refine G.rg r25 hE 56 (.int (rS R25 56)) (by decide) rfl (tbd tv_X12_twoPaths rfl) w_2121 ?_
        refine G.go tv_X12_twoPaths 1 56 [(0, .ref (gAd E (56))), (1, .int (x1)), (2, .int (x2)), (3, .int (x3))] [.int ((-1 : Int32)), .int (rS R25 56)] rfl ?_
        refine G.cmp_ne 63 (tbd tv_X12_twoPaths rfl) (by decide) (fun c56 => ?_) (fun c56 => ?_)
        · replace hr := ite_f c56 hr
          refine G.go tv_X12_twoPaths 6 70 [(0, .ref (gAd E (56))), (1, .int (x1)), (2, .int (x2)), (3, .int (x3))] [.int ((16 : Int32)), .int (x1), .int ((x2) + ((1 : Int32))), .ref (gAd E (56))] rfl ?_
          obtain ⟨v26, R26, hv26, hr⟩ := bnd2_s hr
          refine G.callV (56) [.int ((x2) + ((1 : Int32))), .int (x1), .int ((16 : Int32))] [] (k_X12_path E _ hE R25 ⟨_, _, r25⟩ ((x2) + ((1 : Int32))) x1 ((16 : Int32)) v26 R26 hv26) cls_X12 (by omega) (r25.o) cw_X12_421 w_2484 w_100 (Nat.le_of_ble_eq_true rfl) rfl (Nat.le_of_ble_eq_true rfl) (tbd tv_X12_twoPaths rfl) (fun v26w f26 q26 => ?_) (fun _ _ h => h.elim)
          obtain ⟨rfl, ⟨az26, sy26, r26⟩, fa26⟩ := q26
          refine G.eqs [.int (v26)] rfl ?_
          cases hr
          exact G.iret rfl rfl ⟨rfl, ⟨_, _, r26⟩, (((hf.tr fa24 (fun _ h => h)).tr h25 (fun _ h => h)).tr fa26 (fun _ h => h))⟩ (tbd tv_X12_twoPaths rfl)
        · replace hr := ite_t c56 hr
          refine G.go tv_X12_twoPaths 2 73 [(0, .ref (gAd E (56))), (1, .int (x1)), (2, .int (x2)), (3, .int (x3))] [.int ((-1 : Int32))] rfl ?_
          cases hr
          exact G.iret rfl rfl ⟨rfl, ⟨_, _, r25⟩, ((hf.tr fa24 (fun _ h => h)).tr h25 (fun _ h => h))⟩ (tbd tv_X12_twoPaths rfl)
      · replace hr := ite_t c35 hr
        refine G.go tv_X12_twoPaths 1 39 [(0, .ref (gAd E (56))), (1, .int (x1)), (2, .int (x2)), (3, .int (x3))] [.int ((-1 : Int32))] rfl ?_
        cases hr
        exact G.iret rfl rfl ⟨rfl, ⟨_, _, r0⟩, hf⟩ (tbd tv_X12_twoPaths rfl)
    · replace hr := ite_f c6 hr
      refine G.go tv_X12_twoPaths 1 10 [(0, .ref (gAd E (56))), (1, .int (x1)), (2, .int (x2)), (3, .int (x3))] [.ref (gAd E (56))] rfl ?_
      refine G.rg r0 hE 4 (.ref (gAd E (57))) (by decide) rfl (tbd tv_X12_twoPaths rfl) w_2069 ?_
      refine G.go tv_X12_twoPaths 1 14 [(0, .ref (gAd E (56))), (1, .int (x1)), (2, .int (x2)), (3, .int (x3))] [.int (x3), .ref (gAd E (57))] rfl ?_
      obtain ⟨v27, b27, e27, hr⟩ := ld_s hr
      refine G.baldE (57) (by omega) (r0.a4) b27 e27 (tbd tv_X12_twoPaths rfl) ?_
      refine G.if_ne 27 (tbd tv_X12_twoPaths rfl) (by decide) (fun c15 => ?_) (fun c15 => ?_)
      · replace hr := ite_f c15 hr
        refine G.go tv_X12_twoPaths 2 4 [(0, .ref (gAd E (56))), (1, .int (x1)), (2, .int (x2)), (3, .int (x3 + (1 : Int32)))] [] rfl ?_
        refine G.less [(0, .ref (gAd E (56))), (1, .int (x1)), (2, .int (x2)), (3, .int (x3 + (1 : Int32)))] [0, 1, 2, 3] rfl ?_
        exact ih _ _ _ _ _ _ hr _ ⟨_, _, r0⟩ hf
      · replace hr := ite_t c15 hr
        refine G.go tv_X12_twoPaths 2 20 [(0, .ref (gAd E (56))), (1, .int (x1)), (2, .int (x2)), (3, .int (x3))] [.int ((-1 : Int32)), .int (x2)] rfl ?_
        refine G.cmp_eq 25 (tbd tv_X12_twoPaths rfl) (by decide) (fun c20 => ?_) (fun c20 => ?_)
        · replace hr := ite_t c20 hr
          refine G.go tv_X12_twoPaths 4 4 [(0, .ref (gAd E (56))), (1, .int (x1)), (2, .int (x3)), (3, .int (x3 + (1 : Int32)))] [] rfl ?_
          refine G.less [(0, .ref (gAd E (56))), (1, .int (x1)), (2, .int (x3)), (3, .int (x3 + (1 : Int32)))] [0, 1, 2, 3] rfl ?_
          exact ih _ _ _ _ _ _ hr _ ⟨_, _, r0⟩ hf
        · replace hr := ite_f c20 hr
          refine G.go tv_X12_twoPaths 1 24 [(0, .ref (gAd E (56))), (1, .int (x1)), (2, .int (x2)), (3, .int (x3))] [.int ((-1 : Int32))] rfl ?_
          cases hr
          exact G.iret rfl rfl ⟨rfl, ⟨_, _, r0⟩, hf⟩ (tbd tv_X12_twoPaths rfl)
set_option maxRecDepth 100000 in
set_option maxHeartbeats 4000000 in
theorem k_X12_twoPaths (E : gE) (f : Nat → va_E) (hE : 94 ≤ gN E) (R : RfT) (w : RW E f R) (a0 : Int32) (r : Int32) (R9 : RfT) (hr : e_twoPaths R a0 = some (r, R9)) : Ct E 3 yX12_twoPaths cX12_twoPaths 4 (some .int) [.ref (gAd E (56)), .int (a0)] f (fun v g => v = some (.int r) ∧ RW E g R9 ∧ Fr RfK f g, fun _ _ => False) := by
  obtain ⟨az, sy, r0⟩ := w
  refine Ct.of (by decide) (Nat.le_of_ble_eq_true rfl) (fun sz => ?_)
  refine G.eql [(0, .ref (gAd E (56))), (1, .int (a0))] rfl ?_
  unfold e_twoPaths at hr
  refine G.go tv_X12_twoPaths 4 4 [(0, .ref (gAd E (56))), (1, .int (a0)), (2, .int ((-1 : Int32))), (3, .int ((0 : Int32)))] [] rfl ?_
  refine G.less [(0, .ref (gAd E (56))), (1, .int (a0)), (2, .int ((-1 : Int32))), (3, .int ((0 : Int32)))] [0, 1, 2, 3] rfl ?_
  exact l_X12_twoPaths_4 E f sz _ hE _ _ _ _ _ _ _ hr _ ⟨_, _, r0⟩ Fr.rf
def tb_X12_isBelow : List (Nat × Instr × Nat) := [(0, .iload_n 1, 1), (1, .aload_n 0, 1), (2, .getfield 448, 3), (5, .if_icmp .le 7, 3), (8, .iconst 1, 1), (9, .goto 4, 3), (12, .iconst 0, 1), (13, .istore_n 2, 1), (14, .iconst 0, 1), (15, .istore_n 3, 1), (16, .iload_n 3, 1), (17, .aload_n 0, 1), (18, .getfield 448, 3), (21, .if_icmp .ge 101, 3), (24, .iload_n 2, 1), (25, .ifCond .eq 97, 3), (28, .aload_n 0, 1), (29, .getfield 107, 3), (32, .iload_n 3, 1), (33, .iaload, 1), (34, .aload_n 0, 1), (35, .getfield 107, 3), (38, .bipush 16, 2), (40, .iload_n 3, 1), (41, .iadd, 1), (42, .iaload, 1), (43, .if_icmp .ne 7, 3), (46, .iconst 1, 1), (47, .goto 4, 3), (50, .iconst 0, 1), (51, .istore_n 2, 1), (52, .iconst 0, 1), (53, .istore 4, 2), (55, .iload 4, 2), (57, .aload_n 0, 1), (58, .getfield 107, 3), (61, .iload_n 3, 1), (62, .iaload, 1), (63, .if_icmp .ge 53, 3), (66, .iload_n 2, 1), (67, .ifCond .eq 49, 3), (70, .aload_n 0, 1), (71, .getfield 7, 3), (74, .aload_n 0, 1), (75, .getfield 104, 3), (78, .iload_n 3, 1), (79, .iaload, 1), (80, .iload 4, 2), (82, .iadd, 1), (83, .baload, 1), (84, .aload_n 0, 1), (85, .getfield 7, 3), (88, .aload_n 0, 1), (89, .getfield 104, 3), (92, .bipush 16, 2), (94, .iload_n 3, 1), (95, .iadd, 1), (96, .iaload, 1), (97, .iload 4, 2), (99, .iadd, 1), (100, .baload, 1), (101, .if_icmp .ne 7, 3), (104, .iconst 1, 1), (105, .goto 4, 3), (108, .iconst 0, 1), (109, .istore_n 2, 1), (110, .iinc 4 1, 3), (113, .goto (-58), 3), (116, .iinc 3 1, 3), (119, .goto (-103), 3), (122, .iload_n 2, 1), (123, .ireturn, 1)]
theorem tv_X12_isBelow : Tv cX12_isBelow tb_X12_isBelow := by
  unfold Tv
  decide +kernel
def e_isBelow_55 (R : RfT) (self16 : Int32 → Int32 → Option (Int32)) : Nat → Int32 → Int32 → Int32 → Option (Int32)
  | 0, _, _, _ => none
  | n + 1, x2, x3, x4 => ld (rA R 51) 32 x3 (fun v30 => if v30 ≤ x4 then self16 x2 (x3 + (1 : Int32)) else if x2 = 0 then self16 x2 (x3 + (1 : Int32)) else ld (rA R 50) 32 x3 (fun v31 => ld (rA R 4) 1024 ((v31) + (x4)) (fun v32 => ld (rA R 50) 32 (((16 : Int32)) + (x3)) (fun v33 => ld (rA R 4) 1024 ((v33) + (x4)) (fun v34 => if v32 = v34 then e_isBelow_55 R self16 n ((1 : Int32)) x3 (x4 + (1 : Int32)) else e_isBelow_55 R self16 n ((0 : Int32)) x3 (x4 + (1 : Int32)))))))
def e_isBelow_16 (R : RfT) : Nat → Int32 → Int32 → Option (Int32)
  | 0, _, _ => none
  | n + 1, x2, x3 => if (rS R 56) ≤ x3 then rtZ x2 (some x2) else if x2 = 0 then rtZ x2 (some x2) else ld (rA R 51) 32 x3 (fun v28 => ld (rA R 51) 32 (((16 : Int32)) + (x3)) (fun v29 => if v28 = v29 then e_isBelow_55 R (e_isBelow_16 R n) fuL ((1 : Int32)) x3 ((0 : Int32)) else e_isBelow_55 R (e_isBelow_16 R n) fuL ((0 : Int32)) x3 ((0 : Int32))))
def e_isBelow (R : RfT) (a0 : Int32) : Option (Int32) := if a0 ≤ (rS R 56) then e_isBelow_16 R fuL ((0 : Int32)) ((0 : Int32)) else e_isBelow_16 R fuL ((1 : Int32)) ((0 : Int32))
set_option maxRecDepth 100000 in
set_option maxHeartbeats 4000000 in
theorem l_X12_isBelow_55 (E : gE) (f0 : Nat → va_E) (sz : Nat) (QA : Nat → Prop) (hE : 94 ≤ gN E) (R : RfT) (self16 : Int32 → Int32 → Option (Int32)) (hs16 : ∀ (x2 : Int32) (x3 : Int32) (r : Int32) (hr : self16 x2 x3 = some r) (f : Nat → va_E) (w : RW E f R) (hf : Fr RfK f0 f), G E (1, yX12_isBelow, 5, (some .boolean), sz, QA) cX12_isBelow (gO E (1, yX12_isBelow, 5, (some .boolean), sz, QA) (fun v g => v = some (.int r) ∧ RW E g R ∧ Fr RfK f0 g, fun _ _ => False)) 16 [(0, .ref (gAd E (56))), (2, .int (x2)), (3, .int (x3))] [] f) : ∀ (n : Nat), ∀ (x2 : Int32) (x3 : Int32) (x4 : Int32) (r : Int32) (hr : e_isBelow_55 R self16 n x2 x3 x4 = some r) (f : Nat → va_E) (w : RW E f R) (hf : Fr RfK f0 f), G E (1, yX12_isBelow, 5, (some .boolean), sz, QA) cX12_isBelow (gO E (1, yX12_isBelow, 5, (some .boolean), sz, QA) (fun v g => v = some (.int r) ∧ RW E g R ∧ Fr RfK f0 g, fun _ _ => False)) 55 [(0, .ref (gAd E (56))), (2, .int (x2)), (3, .int (x3)), (4, .int (x4))] [] f := by
  intro n
  induction n with
  | zero =>
    intro x2 x3 x4 r hr f w hf
    cases hr
  | succ n ih =>
    intro x2 x3 x4 r hr f w hf
    obtain ⟨az, sy, r0⟩ := w
    unfold e_isBelow_55 at hr
    refine G.go tv_X12_isBelow 2 58 [(0, .ref (gAd E (56))), (2, .int (x2)), (3, .int (x3)), (4, .int (x4))] [.ref (gAd E (56)), .int (x4)] rfl ?_
    refine G.rg r0 hE 51 (.ref (gAd E (85))) (by decide) rfl (tbd tv_X12_isBelow rfl) w_2116 ?_
    refine G.go tv_X12_isBelow 1 62 [(0, .ref (gAd E (56))), (2, .int (x2)), (3, .int (x3)), (4, .int (x4))] [.int (x3), .ref (gAd E (85)), .int (x4)] rfl ?_
    obtain ⟨v30, b30, e30, hr⟩ := ld_s hr
    refine G.ialdE (85) (by omega) (r0.a51) b30 e30 (tbd tv_X12_isBelow rfl) ?_
    refine G.cmp_ge 116 (tbd tv_X12_isBelow rfl) (by decide) (fun c63 => ?_) (fun c63 => ?_)
    · replace hr := ite_t c63 hr
      refine G.go tv_X12_isBelow 2 16 [(0, .ref (gAd E (56))), (2, .int (x2)), (3, .int (x3 + (1 : Int32))), (4, .int (x4))] [] rfl ?_
      refine G.less [(0, .ref (gAd E (56))), (2, .int (x2)), (3, .int (x3 + (1 : Int32)))] [0, 1, 2] rfl ?_
      exact hs16 _ _ _ hr _ ⟨_, _, r0⟩ hf
    · replace hr := ite_f c63 hr
      refine G.go tv_X12_isBelow 1 67 [(0, .ref (gAd E (56))), (2, .int (x2)), (3, .int (x3)), (4, .int (x4))] [.int (x2)] rfl ?_
      refine G.if_eq 116 (tbd tv_X12_isBelow rfl) (by decide) (fun c67 => ?_) (fun c67 => ?_)
      · replace hr := ite_t c67 hr
        refine G.go tv_X12_isBelow 2 16 [(0, .ref (gAd E (56))), (2, .int (x2)), (3, .int (x3 + (1 : Int32))), (4, .int (x4))] [] rfl ?_
        refine G.less [(0, .ref (gAd E (56))), (2, .int (x2)), (3, .int (x3 + (1 : Int32)))] [0, 1, 2] rfl ?_
        exact hs16 _ _ _ hr _ ⟨_, _, r0⟩ hf
      · replace hr := ite_f c67 hr
        refine G.go tv_X12_isBelow 1 71 [(0, .ref (gAd E (56))), (2, .int (x2)), (3, .int (x3)), (4, .int (x4))] [.ref (gAd E (56))] rfl ?_
        refine G.rg r0 hE 4 (.ref (gAd E (57))) (by decide) rfl (tbd tv_X12_isBelow rfl) w_2069 ?_
        refine G.go tv_X12_isBelow 1 75 [(0, .ref (gAd E (56))), (2, .int (x2)), (3, .int (x3)), (4, .int (x4))] [.ref (gAd E (56)), .ref (gAd E (57))] rfl ?_
        refine G.rg r0 hE 50 (.ref (gAd E (84))) (by decide) rfl (tbd tv_X12_isBelow rfl) w_2115 ?_
        refine G.go tv_X12_isBelow 1 79 [(0, .ref (gAd E (56))), (2, .int (x2)), (3, .int (x3)), (4, .int (x4))] [.int (x3), .ref (gAd E (84)), .ref (gAd E (57))] rfl ?_
        obtain ⟨v31, b31, e31, hr⟩ := ld_s hr
        refine G.ialdE (84) (by omega) (r0.a50) b31 e31 (tbd tv_X12_isBelow rfl) ?_
        refine G.go tv_X12_isBelow 2 83 [(0, .ref (gAd E (56))), (2, .int (x2)), (3, .int (x3)), (4, .int (x4))] [.int ((v31) + (x4)), .ref (gAd E (57))] rfl ?_
        obtain ⟨v32, b32, e32, hr⟩ := ld_s hr
        refine G.baldE (57) (by omega) (r0.a4) b32 e32 (tbd tv_X12_isBelow rfl) ?_
        refine G.go tv_X12_isBelow 1 85 [(0, .ref (gAd E (56))), (2, .int (x2)), (3, .int (x3)), (4, .int (x4))] [.ref (gAd E (56)), .int (v32)] rfl ?_
        refine G.rg r0 hE 4 (.ref (gAd E (57))) (by decide) rfl (tbd tv_X12_isBelow rfl) w_2069 ?_
        refine G.go tv_X12_isBelow 1 89 [(0, .ref (gAd E (56))), (2, .int (x2)), (3, .int (x3)), (4, .int (x4))] [.ref (gAd E (56)), .ref (gAd E (57)), .int (v32)] rfl ?_
        refine G.rg r0 hE 50 (.ref (gAd E (84))) (by decide) rfl (tbd tv_X12_isBelow rfl) w_2115 ?_
        refine G.go tv_X12_isBelow 3 96 [(0, .ref (gAd E (56))), (2, .int (x2)), (3, .int (x3)), (4, .int (x4))] [.int (((16 : Int32)) + (x3)), .ref (gAd E (84)), .ref (gAd E (57)), .int (v32)] rfl ?_
        obtain ⟨v33, b33, e33, hr⟩ := ld_s hr
        refine G.ialdE (84) (by omega) (r0.a50) b33 e33 (tbd tv_X12_isBelow rfl) ?_
        refine G.go tv_X12_isBelow 2 100 [(0, .ref (gAd E (56))), (2, .int (x2)), (3, .int (x3)), (4, .int (x4))] [.int ((v33) + (x4)), .ref (gAd E (57)), .int (v32)] rfl ?_
        obtain ⟨v34, b34, e34, hr⟩ := ld_s hr
        refine G.baldE (57) (by omega) (r0.a4) b34 e34 (tbd tv_X12_isBelow rfl) ?_
        refine G.cmp_ne 108 (tbd tv_X12_isBelow rfl) (by decide) (fun c101 => ?_) (fun c101 => ?_)
        · replace hr := ite_f c101 hr
          refine G.go tv_X12_isBelow 4 55 [(0, .ref (gAd E (56))), (2, .int ((0 : Int32))), (3, .int (x3)), (4, .int (x4 + (1 : Int32)))] [] rfl ?_
          refine G.less [(0, .ref (gAd E (56))), (2, .int ((0 : Int32))), (3, .int (x3)), (4, .int (x4 + (1 : Int32)))] [0, 1, 2, 3] rfl ?_
          exact ih _ _ _ _ hr _ ⟨_, _, r0⟩ hf
        · replace hr := ite_t c101 hr
          refine G.go tv_X12_isBelow 5 55 [(0, .ref (gAd E (56))), (2, .int ((1 : Int32))), (3, .int (x3)), (4, .int (x4 + (1 : Int32)))] [] rfl ?_
          refine G.less [(0, .ref (gAd E (56))), (2, .int ((1 : Int32))), (3, .int (x3)), (4, .int (x4 + (1 : Int32)))] [0, 1, 2, 3] rfl ?_
          exact ih _ _ _ _ hr _ ⟨_, _, r0⟩ hf
set_option maxRecDepth 100000 in
set_option maxHeartbeats 4000000 in
theorem l_X12_isBelow_16 (E : gE) (f0 : Nat → va_E) (sz : Nat) (QA : Nat → Prop) (hE : 94 ≤ gN E) (R : RfT) : ∀ (n : Nat), ∀ (x2 : Int32) (x3 : Int32) (r : Int32) (hr : e_isBelow_16 R n x2 x3 = some r) (f : Nat → va_E) (w : RW E f R) (hf : Fr RfK f0 f), G E (1, yX12_isBelow, 5, (some .boolean), sz, QA) cX12_isBelow (gO E (1, yX12_isBelow, 5, (some .boolean), sz, QA) (fun v g => v = some (.int r) ∧ RW E g R ∧ Fr RfK f0 g, fun _ _ => False)) 16 [(0, .ref (gAd E (56))), (2, .int (x2)), (3, .int (x3))] [] f := by
  intro n
  induction n with
  | zero =>
    intro x2 x3 r hr f w hf
    cases hr
  | succ n ih =>
    intro x2 x3 r hr f w hf
    obtain ⟨az, sy, r0⟩ := w
    unfold e_isBelow_16 at hr
    refine G.go tv_X12_isBelow 2 18 [(0, .ref (gAd E (56))), (2, .int (x2)), (3, .int (x3))] [.ref (gAd E (56)), .int (x3)] rfl ?_
    refine G.rg r0 hE 56 (.int (rS R 56)) (by decide) rfl (tbd tv_X12_isBelow rfl) w_2121 ?_
    refine G.cmp_ge 122 (tbd tv_X12_isBelow rfl) (by decide) (fun c21 => ?_) (fun c21 => ?_)
    · replace hr := ite_t c21 hr
      refine G.go tv_X12_isBelow 1 123 [(0, .ref (gAd E (56))), (2, .int (x2)), (3, .int (x3))] [.int (x2)] rfl ?_
      obtain ⟨hz01, hr⟩ := rtZ_s hr
      cases hr
      exact G.iret rfl (nar_z hz01) ⟨rfl, ⟨_, _, r0⟩, hf⟩ (tbd tv_X12_isBelow rfl)
    · replace hr := ite_f c21 hr
      refine G.go tv_X12_isBelow 1 25 [(0, .ref (gAd E (56))), (2, .int (x2)), (3, .int (x3))] [.int (x2)] rfl ?_
      refine G.if_eq 122 (tbd tv_X12_isBelow rfl) (by decide) (fun c25 => ?_) (fun c25 => ?_)
      · replace hr := ite_t c25 hr
        refine G.go tv_X12_isBelow 1 123 [(0, .ref (gAd E (56))), (2, .int (x2)), (3, .int (x3))] [.int (x2)] rfl ?_
        obtain ⟨hz01, hr⟩ := rtZ_s hr
        cases hr
        exact G.iret rfl (nar_z hz01) ⟨rfl, ⟨_, _, r0⟩, hf⟩ (tbd tv_X12_isBelow rfl)
      · replace hr := ite_f c25 hr
        refine G.go tv_X12_isBelow 1 29 [(0, .ref (gAd E (56))), (2, .int (x2)), (3, .int (x3))] [.ref (gAd E (56))] rfl ?_
        refine G.rg r0 hE 51 (.ref (gAd E (85))) (by decide) rfl (tbd tv_X12_isBelow rfl) w_2116 ?_
        refine G.go tv_X12_isBelow 1 33 [(0, .ref (gAd E (56))), (2, .int (x2)), (3, .int (x3))] [.int (x3), .ref (gAd E (85))] rfl ?_
        obtain ⟨v28, b28, e28, hr⟩ := ld_s hr
        refine G.ialdE (85) (by omega) (r0.a51) b28 e28 (tbd tv_X12_isBelow rfl) ?_
        refine G.go tv_X12_isBelow 1 35 [(0, .ref (gAd E (56))), (2, .int (x2)), (3, .int (x3))] [.ref (gAd E (56)), .int (v28)] rfl ?_
        refine G.rg r0 hE 51 (.ref (gAd E (85))) (by decide) rfl (tbd tv_X12_isBelow rfl) w_2116 ?_
        refine G.go tv_X12_isBelow 3 42 [(0, .ref (gAd E (56))), (2, .int (x2)), (3, .int (x3))] [.int (((16 : Int32)) + (x3)), .ref (gAd E (85)), .int (v28)] rfl ?_
        obtain ⟨v29, b29, e29, hr⟩ := ld_s hr
        refine G.ialdE (85) (by omega) (r0.a51) b29 e29 (tbd tv_X12_isBelow rfl) ?_
        refine G.cmp_ne 50 (tbd tv_X12_isBelow rfl) (by decide) (fun c43 => ?_) (fun c43 => ?_)
        · replace hr := ite_f c43 hr
          refine G.go tv_X12_isBelow 4 55 [(0, .ref (gAd E (56))), (2, .int ((0 : Int32))), (3, .int (x3)), (4, .int ((0 : Int32)))] [] rfl ?_
          refine G.less [(0, .ref (gAd E (56))), (2, .int ((0 : Int32))), (3, .int (x3)), (4, .int ((0 : Int32)))] [0, 1, 2, 3] rfl ?_
          exact l_X12_isBelow_55 E f0 sz QA hE R _ ih _ _ _ _ _ hr _ ⟨_, _, r0⟩ hf
        · replace hr := ite_t c43 hr
          refine G.go tv_X12_isBelow 5 55 [(0, .ref (gAd E (56))), (2, .int ((1 : Int32))), (3, .int (x3)), (4, .int ((0 : Int32)))] [] rfl ?_
          refine G.less [(0, .ref (gAd E (56))), (2, .int ((1 : Int32))), (3, .int (x3)), (4, .int ((0 : Int32)))] [0, 1, 2, 3] rfl ?_
          exact l_X12_isBelow_55 E f0 sz QA hE R _ ih _ _ _ _ _ hr _ ⟨_, _, r0⟩ hf
set_option maxRecDepth 100000 in
set_option maxHeartbeats 4000000 in
theorem k_X12_isBelow (E : gE) (f : Nat → va_E) (hE : 94 ≤ gN E) (R : RfT) (w : RW E f R) (a0 : Int32) (r : Int32) (hr : e_isBelow R a0 = some r) : Ct E 1 yX12_isBelow cX12_isBelow 5 (some .boolean) [.ref (gAd E (56)), .int (a0)] f (fun v g => v = some (.int r) ∧ RW E g R ∧ Fr RfK f g, fun _ _ => False) := by
  obtain ⟨az, sy, r0⟩ := w
  refine Ct.of (by decide) (Nat.le_of_ble_eq_true rfl) (fun sz => ?_)
  refine G.eql [(0, .ref (gAd E (56))), (1, .int (a0))] rfl ?_
  unfold e_isBelow at hr
  refine G.go tv_X12_isBelow 2 2 [(0, .ref (gAd E (56))), (1, .int (a0))] [.ref (gAd E (56)), .int (a0)] rfl ?_
  refine G.rg r0 hE 56 (.int (rS R 56)) (by decide) rfl (tbd tv_X12_isBelow rfl) w_2121 ?_
  refine G.cmp_le 12 (tbd tv_X12_isBelow rfl) (by decide) (fun c5 => ?_) (fun c5 => ?_)
  · replace hr := ite_t c5 hr
    refine G.go tv_X12_isBelow 4 16 [(0, .ref (gAd E (56))), (1, .int (a0)), (2, .int ((0 : Int32))), (3, .int ((0 : Int32)))] [] rfl ?_
    refine G.less [(0, .ref (gAd E (56))), (2, .int ((0 : Int32))), (3, .int ((0 : Int32)))] [0, 2, 3] rfl ?_
    exact l_X12_isBelow_16 E f sz _ hE R _ _ _ _ hr _ ⟨_, _, r0⟩ Fr.rf
  · replace hr := ite_f c5 hr
    refine G.go tv_X12_isBelow 5 16 [(0, .ref (gAd E (56))), (1, .int (a0)), (2, .int ((1 : Int32))), (3, .int ((0 : Int32)))] [] rfl ?_
    refine G.less [(0, .ref (gAd E (56))), (2, .int ((1 : Int32))), (3, .int ((0 : Int32)))] [0, 2, 3] rfl ?_
    exact l_X12_isBelow_16 E f sz _ hE R _ _ _ _ hr _ ⟨_, _, r0⟩ Fr.rf
def e_useTape  (R : RfT) : Option (Int32 × RfT) := ptR R 5 ((0 : Int32)) (fun R35 => some (rS R 5, R35))
set_option maxRecDepth 100000 in
set_option maxHeartbeats 4000000 in
theorem k_X12_useTape (E : gE) (f : Nat → va_E) (hE : 94 ≤ gN E) (R : RfT) (w : RW E f R) (r : Int32) (R9 : RfT) (hr : e_useTape R = some (r, R9)) : Ct E 1 yX12_useTape cX12_useTape 2 (some .int) [.ref (gAd E (56))] f (fun v g => v = some (.int r) ∧ RW E g R9 ∧ Fr RfK f g, fun _ _ => False) := by
  obtain ⟨az, sy, r0⟩ := w
  refine Ct.of (by decide) (Nat.le_of_ble_eq_true rfl) (fun sz => ?_)
  refine G.eql [(0, .ref (gAd E (56)))] rfl ?_
  unfold e_useTape at hr
  refine G.go tv_X12_useTape 1 1 [(0, .ref (gAd E (56)))] [.ref (gAd E (56))] rfl ?_
  refine G.rg r0 hE 5 (.int (rS R 5)) (by decide) rfl (tbd tv_X12_useTape rfl) w_2070 ?_
  refine G.go tv_X12_useTape 3 7 [(0, .ref (gAd E (56))), (1, .int (rS R 5))] [.int ((0 : Int32)), .ref (gAd E (56))] rfl ?_
  obtain ⟨R35, eR35, hr⟩ := ptR_s hr
  refine G.rpW r0 hE 5 eR35 (by decide) rfl (by decide) rfl rfl rfl (tbd tv_X12_useTape rfl) w_2070 (fun u35 r35 h35 => ?_)
  refine G.go tv_X12_useTape 1 11 [(0, .ref (gAd E (56))), (1, .int (rS R 5))] [.int (rS R 5)] rfl ?_
  cases hr
  exact G.iret rfl rfl ⟨rfl, ⟨_, _, r35⟩, (Fr.rf.tr h35 (fun _ h => h))⟩ (tbd tv_X12_useTape rfl)
def e_refuse  (R : RfT) (a0 : Int32) (a1 : Int32) : Option (Int32 × RfT) := if a0 = 0 then ptR R 0 ((0 : Int32)) (fun R36 => rtZ a0 (some (a0, R36))) else ptR R 0 a1 (fun R37 => rtZ a0 (some (a0, R37)))
set_option maxRecDepth 100000 in
set_option maxHeartbeats 4000000 in
theorem k_X12_refuse (E : gE) (f : Nat → va_E) (hE : 94 ≤ gN E) (R : RfT) (w : RW E f R) (a0 : Int32) (a1 : Int32) (r : Int32) (R9 : RfT) (hr : e_refuse R a0 a1 = some (r, R9)) : Ct E 1 yX12_refuse cX12_refuse 3 (some .boolean) [.ref (gAd E (56)), .int (a0), .int (a1)] f (fun v g => v = some (.int r) ∧ RW E g R9 ∧ Fr RfK f g, fun _ _ => False) := by
  obtain ⟨az, sy, r0⟩ := w
  refine Ct.of (by decide) (Nat.le_of_ble_eq_true rfl) (fun sz => ?_)
  refine G.eql [(0, .ref (gAd E (56))), (1, .int (a0)), (2, .int (a1))] rfl ?_
  unfold e_refuse at hr
  refine G.go tv_X12_refuse 2 2 [(0, .ref (gAd E (56))), (1, .int (a0)), (2, .int (a1))] [.int (a0), .ref (gAd E (56))] rfl ?_
  refine G.if_eq 9 (tbd tv_X12_refuse rfl) (by decide) (fun c2 => ?_) (fun c2 => ?_)
  · replace hr := ite_t c2 hr
    refine G.go tv_X12_refuse 1 10 [(0, .ref (gAd E (56))), (1, .int (a0)), (2, .int (a1))] [.int ((0 : Int32)), .ref (gAd E (56))] rfl ?_
    obtain ⟨R36, eR36, hr⟩ := ptR_s hr
    refine G.rpW r0 hE 0 eR36 (by decide) rfl (by decide) rfl rfl rfl (tbd tv_X12_refuse rfl) w_2065 (fun u36 r36 h36 => ?_)
    refine G.go tv_X12_refuse 1 14 [(0, .ref (gAd E (56))), (1, .int (a0)), (2, .int (a1))] [.int (a0)] rfl ?_
    obtain ⟨hz01, hr⟩ := rtZ_s hr
    cases hr
    exact G.iret rfl (nar_z hz01) ⟨rfl, ⟨_, _, r36⟩, (Fr.rf.tr h36 (fun _ h => h))⟩ (tbd tv_X12_refuse rfl)
  · replace hr := ite_f c2 hr
    refine G.go tv_X12_refuse 2 10 [(0, .ref (gAd E (56))), (1, .int (a0)), (2, .int (a1))] [.int (a1), .ref (gAd E (56))] rfl ?_
    obtain ⟨R37, eR37, hr⟩ := ptR_s hr
    refine G.rpW r0 hE 0 eR37 (by decide) rfl (by decide) rfl rfl rfl (tbd tv_X12_refuse rfl) w_2065 (fun u37 r37 h37 => ?_)
    refine G.go tv_X12_refuse 1 14 [(0, .ref (gAd E (56))), (1, .int (a0)), (2, .int (a1))] [.int (a0)] rfl ?_
    obtain ⟨hz01, hr⟩ := rtZ_s hr
    cases hr
    exact G.iret rfl (nar_z hz01) ⟨rfl, ⟨_, _, r37⟩, (Fr.rf.tr h37 (fun _ h => h))⟩ (tbd tv_X12_refuse rfl)
def e_answer  (R : RfT) (a0 : Int32) : Option (Int32 × RfT) := if (rS R 11) = 0 then ptR R 0 ((2 : Int32)) (fun R38 => if (rS R38 11) = 0 then some ((0 : Int32), R38) else some (a0, R38)) else ptR R 0 ((0 : Int32)) (fun R39 => if (rS R39 11) = 0 then some ((0 : Int32), R39) else some (a0, R39))
set_option maxRecDepth 100000 in
set_option maxHeartbeats 4000000 in
theorem k_X12_answer (E : gE) (f : Nat → va_E) (hE : 94 ≤ gN E) (R : RfT) (w : RW E f R) (a0 : Int32) (r : Int32) (R9 : RfT) (hr : e_answer R a0 = some (r, R9)) : Ct E 1 yX12_answer cX12_answer 2 (some .int) [.ref (gAd E (56)), .int (a0)] f (fun v g => v = some (.int r) ∧ RW E g R9 ∧ Fr RfK f g, fun _ _ => False) := by
  obtain ⟨az, sy, r0⟩ := w
  refine Ct.of (by decide) (Nat.le_of_ble_eq_true rfl) (fun sz => ?_)
  refine G.eql [(0, .ref (gAd E (56))), (1, .int (a0))] rfl ?_
  unfold e_answer at hr
  refine G.go tv_X12_answer 2 2 [(0, .ref (gAd E (56))), (1, .int (a0))] [.ref (gAd E (56)), .ref (gAd E (56))] rfl ?_
  refine G.rg r0 hE 11 (.int (rS R 11)) (by decide) rfl (tbd tv_X12_answer rfl) w_2076 ?_
  refine G.if_eq 12 (tbd tv_X12_answer rfl) (by decide) (fun c5 => ?_) (fun c5 => ?_)
  · replace hr := ite_t c5 hr
    refine G.go tv_X12_answer 1 13 [(0, .ref (gAd E (56))), (1, .int (a0))] [.int ((2 : Int32)), .ref (gAd E (56))] rfl ?_
    obtain ⟨R38, eR38, hr⟩ := ptR_s hr
    refine G.rpW r0 hE 0 eR38 (by decide) rfl (by decide) rfl rfl rfl (tbd tv_X12_answer rfl) w_2065 (fun u38 r38 h38 => ?_)
    refine G.go tv_X12_answer 1 17 [(0, .ref (gAd E (56))), (1, .int (a0))] [.ref (gAd E (56))] rfl ?_
    refine G.rg r38 hE 11 (.int (rS R38 11)) (by decide) rfl (tbd tv_X12_answer rfl) w_2076 ?_
    refine G.if_eq 27 (tbd tv_X12_answer rfl) (by decide) (fun c20 => ?_) (fun c20 => ?_)
    · replace hr := ite_t c20 hr
      refine G.go tv_X12_answer 1 28 [(0, .ref (gAd E (56))), (1, .int (a0))] [.int ((0 : Int32))] rfl ?_
      cases hr
      exact G.iret rfl rfl ⟨rfl, ⟨_, _, r38⟩, (Fr.rf.tr h38 (fun _ h => h))⟩ (tbd tv_X12_answer rfl)
    · replace hr := ite_f c20 hr
      refine G.go tv_X12_answer 2 28 [(0, .ref (gAd E (56))), (1, .int (a0))] [.int (a0)] rfl ?_
      cases hr
      exact G.iret rfl rfl ⟨rfl, ⟨_, _, r38⟩, (Fr.rf.tr h38 (fun _ h => h))⟩ (tbd tv_X12_answer rfl)
  · replace hr := ite_f c5 hr
    refine G.go tv_X12_answer 2 13 [(0, .ref (gAd E (56))), (1, .int (a0))] [.int ((0 : Int32)), .ref (gAd E (56))] rfl ?_
    obtain ⟨R39, eR39, hr⟩ := ptR_s hr
    refine G.rpW r0 hE 0 eR39 (by decide) rfl (by decide) rfl rfl rfl (tbd tv_X12_answer rfl) w_2065 (fun u39 r39 h39 => ?_)
    refine G.go tv_X12_answer 1 17 [(0, .ref (gAd E (56))), (1, .int (a0))] [.ref (gAd E (56))] rfl ?_
    refine G.rg r39 hE 11 (.int (rS R39 11)) (by decide) rfl (tbd tv_X12_answer rfl) w_2076 ?_
    refine G.if_eq 27 (tbd tv_X12_answer rfl) (by decide) (fun c20 => ?_) (fun c20 => ?_)
    · replace hr := ite_t c20 hr
      refine G.go tv_X12_answer 1 28 [(0, .ref (gAd E (56))), (1, .int (a0))] [.int ((0 : Int32))] rfl ?_
      cases hr
      exact G.iret rfl rfl ⟨rfl, ⟨_, _, r39⟩, (Fr.rf.tr h39 (fun _ h => h))⟩ (tbd tv_X12_answer rfl)
    · replace hr := ite_f c20 hr
      refine G.go tv_X12_answer 2 28 [(0, .ref (gAd E (56))), (1, .int (a0))] [.int (a0)] rfl ?_
      cases hr
      exact G.iret rfl rfl ⟨rfl, ⟨_, _, r39⟩, (Fr.rf.tr h39 (fun _ h => h))⟩ (tbd tv_X12_answer rfl)
def e_noWorks_2  : Nat → RfT → Int32 → Option (RfT)
  | 0, _, _ => none
  | n + 1, R, x1 => if (rS R 33) ≤ x1 then ptR R 33 ((0 : Int32)) (fun R40 => some R40) else ld (rA R 30) 1024 x1 (fun v41 => stR R 36 1024 v41 ((-1 : Int32)) (fun R42 => e_noWorks_2  n R42 (x1 + (1 : Int32))))
def e_noWorks  (R : RfT) : Option (RfT) := e_noWorks_2  fuL R ((0 : Int32))
set_option maxRecDepth 100000 in
set_option maxHeartbeats 4000000 in
theorem l_X12_noWorks_2 (E : gE) (f0 : Nat → va_E) (sz : Nat) (QA : Nat → Prop) (hE : 94 ≤ gN E) : ∀ (n : Nat), ∀ (R : RfT) (x1 : Int32) (R9 : RfT) (hr : e_noWorks_2  n R x1 = some R9) (f : Nat → va_E) (w : RW E f R) (hf : Fr RfK f0 f), G E (1, yX12_noWorks, 2, none, sz, QA) cX12_noWorks (gO E (1, yX12_noWorks, 2, none, sz, QA) (fun v g => v = none ∧ RW E g R9 ∧ Fr RfK f0 g, fun _ _ => False)) 2 [(0, .ref (gAd E (56))), (1, .int (x1))] [] f := by
  intro n
  induction n with
  | zero =>
    intro R x1 R9 hr f w hf
    cases hr
  | succ n ih =>
    intro R x1 R9 hr f w hf
    obtain ⟨az, sy, r0⟩ := w
    unfold e_noWorks_2 at hr
    refine G.go tv_X12_noWorks 2 4 [(0, .ref (gAd E (56))), (1, .int (x1))] [.ref (gAd E (56)), .int (x1)] rfl ?_
    refine G.rg r0 hE 33 (.int (rS R 33)) (by decide) rfl (tbd tv_X12_noWorks rfl) w_2098 ?_
    refine G.cmp_ge 28 (tbd tv_X12_noWorks rfl) (by decide) (fun c7 => ?_) (fun c7 => ?_)
    · replace hr := ite_t c7 hr
      refine G.go tv_X12_noWorks 2 30 [(0, .ref (gAd E (56))), (1, .int (x1))] [.int ((0 : Int32)), .ref (gAd E (56))] rfl ?_
      obtain ⟨R40, eR40, hr⟩ := ptR_s hr
      refine G.rpW r0 hE 33 eR40 (by decide) rfl (by decide) rfl rfl rfl (tbd tv_X12_noWorks rfl) w_2098 (fun u40 r40 h40 => ?_)
      cases hr
      exact G.vret rfl ⟨rfl, ⟨_, _, r40⟩, (hf.tr h40 (fun _ h => h))⟩ (tbd tv_X12_noWorks rfl)
    · replace hr := ite_f c7 hr
      refine G.go tv_X12_noWorks 1 11 [(0, .ref (gAd E (56))), (1, .int (x1))] [.ref (gAd E (56))] rfl ?_
      refine G.rg r0 hE 36 (.ref (gAd E (73))) (by decide) rfl (tbd tv_X12_noWorks rfl) w_2101 ?_
      refine G.go tv_X12_noWorks 1 15 [(0, .ref (gAd E (56))), (1, .int (x1))] [.ref (gAd E (56)), .ref (gAd E (73))] rfl ?_
      refine G.rg r0 hE 30 (.ref (gAd E (69))) (by decide) rfl (tbd tv_X12_noWorks rfl) w_2095 ?_
      refine G.go tv_X12_noWorks 1 19 [(0, .ref (gAd E (56))), (1, .int (x1))] [.int (x1), .ref (gAd E (69)), .ref (gAd E (73))] rfl ?_
      obtain ⟨v41, b41, e41, hr⟩ := ld_s hr
      refine G.ialdE (69) (by omega) (r0.a30) b41 e41 (tbd tv_X12_noWorks rfl) ?_
      refine G.go tv_X12_noWorks 1 21 [(0, .ref (gAd E (56))), (1, .int (x1))] [.int ((-1 : Int32)), .int (v41), .ref (gAd E (73))] rfl ?_
      obtain ⟨R42, b42, eR42, hr⟩ := stR_s hr
      refine G.iast (73) (by omega) (r0.a36) b42 (tbd tv_X12_noWorks rfl) ?_
      refine G.gen (P := fun w9 => RfV E w9 (setSr (setS R42 42 az) sy) ∧ Fr RfK f0 w9) ⟨by rw [eR42]; exact r0.p36 _, Fr.up hf ⟨by decide, by decide⟩⟩ (fun u42 p42 => ?_)
      obtain ⟨r42, h42⟩ := p42
      refine G.go tv_X12_noWorks 2 2 [(0, .ref (gAd E (56))), (1, .int (x1 + (1 : Int32)))] [] rfl ?_
      refine G.less [(0, .ref (gAd E (56))), (1, .int (x1 + (1 : Int32)))] [0, 1] rfl ?_
      exact ih _ _ _ hr _ ⟨_, _, r42⟩ h42
set_option maxRecDepth 100000 in
set_option maxHeartbeats 4000000 in
theorem k_X12_noWorks (E : gE) (f : Nat → va_E) (hE : 94 ≤ gN E) (R : RfT) (w : RW E f R) (R9 : RfT) (hr : e_noWorks R = some R9) : Ct E 1 yX12_noWorks cX12_noWorks 2 none [.ref (gAd E (56))] f (fun v g => v = none ∧ RW E g R9 ∧ Fr RfK f g, fun _ _ => False) := by
  obtain ⟨az, sy, r0⟩ := w
  refine Ct.of (by decide) (Nat.le_of_ble_eq_true rfl) (fun sz => ?_)
  refine G.eql [(0, .ref (gAd E (56)))] rfl ?_
  unfold e_noWorks at hr
  refine G.go tv_X12_noWorks 2 2 [(0, .ref (gAd E (56))), (1, .int ((0 : Int32)))] [] rfl ?_
  refine G.less [(0, .ref (gAd E (56))), (1, .int ((0 : Int32)))] [0, 1] rfl ?_
  exact l_X12_noWorks_2 E f sz _ hE _ _ _ _ hr _ ⟨_, _, r0⟩ Fr.rf
def e_notMounted_2  : Nat → RfT → Int32 → Option (Int32 × RfT)
  | 0, _, _ => none
  | n + 1, R, x1 => if ((1024 : Int32)) ≤ x1 then if (rS R 34) = 0 then bnd (e_noWorks R) (fun R45 => if (rS R45 21) = 0 then bnd2 (e_refuse R45 ((1 : Int32)) ((1 : Int32))) (fun v47 R47 => rtZ v47 (some (v47, R47))) else bnd2 (e_refuse R45 ((0 : Int32)) ((1 : Int32))) (fun v46 R46 => rtZ v46 (some (v46, R46)))) else if (rS R 21) = 0 then bnd2 (e_refuse R ((1 : Int32)) ((1 : Int32))) (fun v44 R44 => rtZ v44 (some (v44, R44))) else bnd2 (e_refuse R ((0 : Int32)) ((1 : Int32))) (fun v43 R43 => rtZ v43 (some (v43, R43))) else stR R 49 1024 x1 (vp_nar .boolean ((0 : Int32))) (fun R48 => e_notMounted_2  n R48 (x1 + (1 : Int32)))
def e_notMounted  (R : RfT) : Option (Int32 × RfT) := e_notMounted_2  fuL R ((0 : Int32))
set_option maxRecDepth 100000 in
set_option maxHeartbeats 4000000 in
theorem l_X12_notMounted_2 (E : gE) (f0 : Nat → va_E) (sz : Nat) (QA : Nat → Prop) (hE : 94 ≤ gN E) : ∀ (n : Nat), ∀ (R : RfT) (x1 : Int32) (r : Int32) (R9 : RfT) (hr : e_notMounted_2  n R x1 = some (r, R9)) (f : Nat → va_E) (w : RW E f R) (hf : Fr RfK f0 f), G E (2, yX12_notMounted, 2, (some .boolean), sz, QA) cX12_notMounted (gO E (2, yX12_notMounted, 2, (some .boolean), sz, QA) (fun v g => v = some (.int r) ∧ RW E g R9 ∧ Fr RfK f0 g, fun _ _ => False)) 2 [(0, .ref (gAd E (56))), (1, .int (x1))] [] f := by
  intro n
  induction n with
  | zero =>
    intro R x1 r R9 hr f w hf
    cases hr
  | succ n ih =>
    intro R x1 r R9 hr f w hf
    obtain ⟨az, sy, r0⟩ := w
    unfold e_notMounted_2 at hr
    refine G.go tv_X12_notMounted 2 6 [(0, .ref (gAd E (56))), (1, .int (x1))] [.int ((1024 : Int32)), .int (x1)] rfl ?_
    refine G.cmp_ge 22 (tbd tv_X12_notMounted rfl) (by decide) (fun c6 => ?_) (fun c6 => ?_)
    · replace hr := ite_t c6 hr
      refine G.go tv_X12_notMounted 1 23 [(0, .ref (gAd E (56))), (1, .int (x1))] [.ref (gAd E (56))] rfl ?_
      refine G.rg r0 hE 34 (.int (rS R 34)) (by decide) rfl (tbd tv_X12_notMounted rfl) w_2099 ?_
      refine G.if_ne 33 (tbd tv_X12_notMounted rfl) (by decide) (fun c26 => ?_) (fun c26 => ?_)
      · replace hr := ite_f c26 hr
        refine G.go tv_X12_notMounted 2 35 [(0, .ref (gAd E (56))), (1, .int (x1))] [.ref (gAd E (56)), .ref (gAd E (56))] rfl ?_
        refine G.rg r0 hE 21 (.int (rS R 21)) (by decide) rfl (tbd tv_X12_notMounted rfl) w_2086 ?_
        refine G.if_ne 45 (tbd tv_X12_notMounted rfl) (by decide) (fun c38 => ?_) (fun c38 => ?_)
        · replace hr := ite_f c38 hr
          refine G.go tv_X12_notMounted 2 47 [(0, .ref (gAd E (56))), (1, .int (x1))] [.int ((1 : Int32)), .int ((0 : Int32)), .ref (gAd E (56))] rfl ?_
          obtain ⟨v43, R43, hv43, hr⟩ := bnd2_s hr
          refine G.callV (56) [.int ((0 : Int32)), .int ((1 : Int32))] [] (k_X12_refuse E _ hE R ⟨_, _, r0⟩ ((0 : Int32)) ((1 : Int32)) v43 R43 hv43) cls_X12 (by omega) (r0.o) cw_X12_385 w_2268 w_53 (Nat.le_of_ble_eq_true rfl) rfl (Nat.le_of_ble_eq_true rfl) (tbd tv_X12_notMounted rfl) (fun v43w f43 q43 => ?_) (fun _ _ h => h.elim)
          obtain ⟨rfl, ⟨az43, sy43, r43⟩, fa43⟩ := q43
          refine G.eqs [.int (v43)] rfl ?_
          obtain ⟨hz01, hr⟩ := rtZ_s hr
          cases hr
          exact G.iret rfl (nar_z hz01) ⟨rfl, ⟨_, _, r43⟩, (hf.tr fa43 (fun _ h => h))⟩ (tbd tv_X12_notMounted rfl)
        · replace hr := ite_t c38 hr
          refine G.go tv_X12_notMounted 3 47 [(0, .ref (gAd E (56))), (1, .int (x1))] [.int ((1 : Int32)), .int ((1 : Int32)), .ref (gAd E (56))] rfl ?_
          obtain ⟨v44, R44, hv44, hr⟩ := bnd2_s hr
          refine G.callV (56) [.int ((1 : Int32)), .int ((1 : Int32))] [] (k_X12_refuse E _ hE R ⟨_, _, r0⟩ ((1 : Int32)) ((1 : Int32)) v44 R44 hv44) cls_X12 (by omega) (r0.o) cw_X12_385 w_2268 w_53 (Nat.le_of_ble_eq_true rfl) rfl (Nat.le_of_ble_eq_true rfl) (tbd tv_X12_notMounted rfl) (fun v44w f44 q44 => ?_) (fun _ _ h => h.elim)
          obtain ⟨rfl, ⟨az44, sy44, r44⟩, fa44⟩ := q44
          refine G.eqs [.int (v44)] rfl ?_
          obtain ⟨hz01, hr⟩ := rtZ_s hr
          cases hr
          exact G.iret rfl (nar_z hz01) ⟨rfl, ⟨_, _, r44⟩, (hf.tr fa44 (fun _ h => h))⟩ (tbd tv_X12_notMounted rfl)
      · replace hr := ite_t c26 hr
        refine G.go tv_X12_notMounted 1 30 [(0, .ref (gAd E (56))), (1, .int (x1))] [.ref (gAd E (56))] rfl ?_
        obtain ⟨R45, hv45, hr⟩ := bnd_s hr
        refine G.callV (56) [] [] (k_X12_noWorks E _ hE R ⟨_, _, r0⟩ R45 hv45) cls_X12 (by omega) (r0.o) cw_X12_168 w_2300 w_61 (Nat.le_of_ble_eq_true rfl) rfl (Nat.le_of_ble_eq_true rfl) (tbd tv_X12_notMounted rfl) (fun v45w f45 q45 => ?_) (fun _ _ h => h.elim)
        obtain ⟨rfl, ⟨az45, sy45, r45⟩, fa45⟩ := q45
        refine G.eqs [] rfl ?_
        refine G.go tv_X12_notMounted 2 35 [(0, .ref (gAd E (56))), (1, .int (x1))] [.ref (gAd E (56)), .ref (gAd E (56))] rfl ?_
        refine G.rg r45 hE 21 (.int (rS R45 21)) (by decide) rfl (tbd tv_X12_notMounted rfl) w_2086 ?_
        refine G.if_ne 45 (tbd tv_X12_notMounted rfl) (by decide) (fun c38 => ?_) (fun c38 => ?_)
        · replace hr := ite_f c38 hr
          refine G.go tv_X12_notMounted 2 47 [(0, .ref (gAd E (56))), (1, .int (x1))] [.int ((1 : Int32)), .int ((0 : Int32)), .ref (gAd E (56))] rfl ?_
          obtain ⟨v46, R46, hv46, hr⟩ := bnd2_s hr
          refine G.callV (56) [.int ((0 : Int32)), .int ((1 : Int32))] [] (k_X12_refuse E _ hE R45 ⟨_, _, r45⟩ ((0 : Int32)) ((1 : Int32)) v46 R46 hv46) cls_X12 (by omega) (r45.o) cw_X12_385 w_2268 w_53 (Nat.le_of_ble_eq_true rfl) rfl (Nat.le_of_ble_eq_true rfl) (tbd tv_X12_notMounted rfl) (fun v46w f46 q46 => ?_) (fun _ _ h => h.elim)
          obtain ⟨rfl, ⟨az46, sy46, r46⟩, fa46⟩ := q46
          refine G.eqs [.int (v46)] rfl ?_
          obtain ⟨hz01, hr⟩ := rtZ_s hr
          cases hr
          exact G.iret rfl (nar_z hz01) ⟨rfl, ⟨_, _, r46⟩, ((hf.tr fa45 (fun _ h => h)).tr fa46 (fun _ h => h))⟩ (tbd tv_X12_notMounted rfl)
        · replace hr := ite_t c38 hr
          refine G.go tv_X12_notMounted 3 47 [(0, .ref (gAd E (56))), (1, .int (x1))] [.int ((1 : Int32)), .int ((1 : Int32)), .ref (gAd E (56))] rfl ?_
          obtain ⟨v47, R47, hv47, hr⟩ := bnd2_s hr
          refine G.callV (56) [.int ((1 : Int32)), .int ((1 : Int32))] [] (k_X12_refuse E _ hE R45 ⟨_, _, r45⟩ ((1 : Int32)) ((1 : Int32)) v47 R47 hv47) cls_X12 (by omega) (r45.o) cw_X12_385 w_2268 w_53 (Nat.le_of_ble_eq_true rfl) rfl (Nat.le_of_ble_eq_true rfl) (tbd tv_X12_notMounted rfl) (fun v47w f47 q47 => ?_) (fun _ _ h => h.elim)
          obtain ⟨rfl, ⟨az47, sy47, r47⟩, fa47⟩ := q47
          refine G.eqs [.int (v47)] rfl ?_
          obtain ⟨hz01, hr⟩ := rtZ_s hr
          cases hr
          exact G.iret rfl (nar_z hz01) ⟨rfl, ⟨_, _, r47⟩, ((hf.tr fa45 (fun _ h => h)).tr fa47 (fun _ h => h))⟩ (tbd tv_X12_notMounted rfl)
    · replace hr := ite_f c6 hr
      refine G.go tv_X12_notMounted 1 10 [(0, .ref (gAd E (56))), (1, .int (x1))] [.ref (gAd E (56))] rfl ?_
      refine G.rg r0 hE 49 (.ref (gAd E (83))) (by decide) rfl (tbd tv_X12_notMounted rfl) w_2114 ?_
      refine G.go tv_X12_notMounted 2 15 [(0, .ref (gAd E (56))), (1, .int (x1))] [.int ((0 : Int32)), .int (x1), .ref (gAd E (83))] rfl ?_
      obtain ⟨R48, b48, eR48, hr⟩ := stR_s hr
      refine G.zast (83) (by omega) (r0.a49) b48 (tbd tv_X12_notMounted rfl) ?_
      refine G.gen (P := fun w9 => RfV E w9 (setSr (setS R48 42 az) sy) ∧ Fr RfK f0 w9) ⟨by rw [eR48]; exact r0.p49 _, Fr.up hf ⟨by decide, by decide⟩⟩ (fun u48 p48 => ?_)
      obtain ⟨r48, h48⟩ := p48
      refine G.go tv_X12_notMounted 2 2 [(0, .ref (gAd E (56))), (1, .int (x1 + (1 : Int32)))] [] rfl ?_
      refine G.less [(0, .ref (gAd E (56))), (1, .int (x1 + (1 : Int32)))] [0, 1] rfl ?_
      exact ih _ _ _ _ hr _ ⟨_, _, r48⟩ h48
set_option maxRecDepth 100000 in
set_option maxHeartbeats 4000000 in
theorem k_X12_notMounted (E : gE) (f : Nat → va_E) (hE : 94 ≤ gN E) (R : RfT) (w : RW E f R) (r : Int32) (R9 : RfT) (hr : e_notMounted R = some (r, R9)) : Ct E 2 yX12_notMounted cX12_notMounted 2 (some .boolean) [.ref (gAd E (56))] f (fun v g => v = some (.int r) ∧ RW E g R9 ∧ Fr RfK f g, fun _ _ => False) := by
  obtain ⟨az, sy, r0⟩ := w
  refine Ct.of (by decide) (Nat.le_of_ble_eq_true rfl) (fun sz => ?_)
  refine G.eql [(0, .ref (gAd E (56)))] rfl ?_
  unfold e_notMounted at hr
  refine G.go tv_X12_notMounted 2 2 [(0, .ref (gAd E (56))), (1, .int ((0 : Int32)))] [] rfl ?_
  refine G.less [(0, .ref (gAd E (56))), (1, .int ((0 : Int32)))] [0, 1] rfl ?_
  exact l_X12_notMounted_2 E f sz _ hE _ _ _ _ _ hr _ ⟨_, _, r0⟩ Fr.rf
def tb_X12_hasNoRoom : List (Nat × Instr × Nat) := [(0, .aload_n 0, 1), (1, .iload_n 1, 1), (2, .invokevirtual 344, 3), (5, .sipush 128, 3), (8, .idiv, 1), (9, .istore_n 2, 1), (10, .aload_n 0, 1), (11, .iload_n 1, 1), (12, .invokevirtual 351, 3), (15, .iconst (-1), 1), (16, .if_icmp .ne 21, 3), (19, .aload_n 0, 1), (20, .iload_n 1, 1), (21, .iload_n 2, 1), (22, .iload_n 2, 1), (23, .invokevirtual 412, 3), (26, .aload_n 0, 1), (27, .invokevirtual 415, 3), (30, .if_icmp .le 7, 3), (33, .iconst 1, 1), (34, .goto 4, 3), (37, .iconst 0, 1), (38, .ireturn, 1)]
theorem tv_X12_hasNoRoom : Tv cX12_hasNoRoom tb_X12_hasNoRoom := by
  unfold Tv
  decide +kernel
theorem w_2525 : Cond.methodLink "LedgerFilesModel" 351 yX12_freeSlot ∈ TB := tp_10 219 (by decide +kernel) rfl
theorem w_2528 : Cond.code yX12_freeSlot prog_14_method_61_code 4 (some .int) ∈ TB := tp_10 222 rfl rfl
theorem cw_X12_351 : Cw RX12 351 yX12_freeSlot cX12_freeSlot 4 (some .int) 1 := ⟨w_2525, w_2528, w_161, by decide +kernel, by decide +kernel, by decide⟩
theorem w_2527 : Cond.instanceMethod yX12_freeSlot ∈ TB := tp_10 221 (by decide +kernel) rfl
theorem w_110 : Cond.selects "LedgerFilesModel" yX12_freeSlot yX12_freeSlot ∈ TB := tp_0 110 (by decide +kernel) rfl
theorem w_2529 : Cond.methodLink "LedgerFilesModel" 412 yX12_need ∈ TB := tp_10 223 (by decide +kernel) rfl
theorem w_2532 : Cond.code yX12_need prog_14_method_54_code 9 (some .int) ∈ TB := tp_10 226 rfl rfl
theorem cw_X12_412 : Cw RX12 412 yX12_need cX12_need 9 (some .int) 3 := ⟨w_2529, w_2532, w_161, by decide +kernel, by decide +kernel, by decide⟩
theorem w_2531 : Cond.instanceMethod yX12_need ∈ TB := tp_10 225 (by decide +kernel) rfl
theorem w_111 : Cond.selects "LedgerFilesModel" yX12_need yX12_need ∈ TB := tp_0 111 (by decide +kernel) rfl
theorem w_2533 : Cond.methodLink "LedgerFilesModel" 415 yX12_room ∈ TB := tp_10 227 (by decide +kernel) rfl
theorem w_2536 : Cond.code yX12_room prog_14_method_53_code 3 (some .int) ∈ TB := tp_10 230 rfl rfl
theorem cw_X12_415 : Cw RX12 415 yX12_room cX12_room 3 (some .int) 0 := ⟨w_2533, w_2536, w_161, by decide +kernel, by decide +kernel, by decide⟩
theorem w_2535 : Cond.instanceMethod yX12_room ∈ TB := tp_10 229 (by decide +kernel) rfl
theorem w_112 : Cond.selects "LedgerFilesModel" yX12_room yX12_room ∈ TB := tp_0 112 (by decide +kernel) rfl
def e_hasNoRoom  (R : RfT) (a0 : Int32) : Option (Int32 × RfT) := bnd (e_size R a0) (fun v49 => bnd (e_freeSlot R a0) (fun v50 => if v50 = ((-1 : Int32)) then bnd (e_need R a0 ((v49) / ((128 : Int32))) ((v49) / ((128 : Int32)))) (fun v51 => bnd2 (e_room R) (fun v52 R52 => if v51 ≤ v52 then some ((0 : Int32), R52) else some ((1 : Int32), R52))) else some ((0 : Int32), R)))
set_option maxRecDepth 100000 in
set_option maxHeartbeats 4000000 in
theorem k_X12_hasNoRoom (E : gE) (f : Nat → va_E) (hE : 94 ≤ gN E) (R : RfT) (w : RW E f R) (a0 : Int32) (r : Int32) (R9 : RfT) (hr : e_hasNoRoom R a0 = some (r, R9)) : Ct E 8 yX12_hasNoRoom cX12_hasNoRoom 3 (some .boolean) [.ref (gAd E (56)), .int (a0)] f (fun v g => v = some (.int r) ∧ RW E g R9 ∧ Fr RfK f g, fun _ _ => False) := by
  obtain ⟨az, sy, r0⟩ := w
  refine Ct.of (by decide) (Nat.le_of_ble_eq_true rfl) (fun sz => ?_)
  refine G.eql [(0, .ref (gAd E (56))), (1, .int (a0))] rfl ?_
  unfold e_hasNoRoom at hr
  refine G.go tv_X12_hasNoRoom 2 2 [(0, .ref (gAd E (56))), (1, .int (a0))] [.int (a0), .ref (gAd E (56))] rfl ?_
  obtain ⟨v49, hv49, hr⟩ := bnd_s hr
  refine G.callV (56) [.int (a0)] [] (k_X12_size E _ hE R ⟨_, _, r0⟩ a0 v49 hv49) cls_X12 (by omega) (r0.o) cw_X12_344 w_2503 w_104 (Nat.le_of_ble_eq_true rfl) rfl (Nat.le_of_ble_eq_true rfl) (tbd tv_X12_hasNoRoom rfl) (fun v49w f49 q49 => ?_) (fun _ _ h => h.elim)
  obtain ⟨rfl, ⟨az49, sy49, r49⟩, fa49⟩ := q49
  refine G.eqs [.int (v49)] rfl ?_
  refine G.go tv_X12_hasNoRoom 1 8 [(0, .ref (gAd E (56))), (1, .int (a0))] [.int ((128 : Int32)), .int (v49)] rfl ?_
  refine G.idiv (by decide) (tbd tv_X12_hasNoRoom rfl) ?_
  refine G.go tv_X12_hasNoRoom 3 12 [(0, .ref (gAd E (56))), (1, .int (a0)), (2, .int ((v49) / ((128 : Int32))))] [.int (a0), .ref (gAd E (56))] rfl ?_
  obtain ⟨v50, hv50, hr⟩ := bnd_s hr
  refine G.callV (56) [.int (a0)] [] (k_X12_freeSlot E _ hE R ⟨_, _, r49⟩ a0 v50 hv50) cls_X12 (by omega) (r49.o) cw_X12_351 w_2527 w_110 (Nat.le_of_ble_eq_true rfl) rfl (Nat.le_of_ble_eq_true rfl) (tbd tv_X12_hasNoRoom rfl) (fun v50w f50 q50 => ?_) (fun _ _ h => h.elim)
  obtain ⟨rfl, ⟨az50, sy50, r50⟩, fa50⟩ := q50
  refine G.eqs [.int (v50)] rfl ?_
  refine G.go tv_X12_hasNoRoom 1 16 [(0, .ref (gAd E (56))), (1, .int (a0)), (2, .int ((v49) / ((128 : Int32))))] [.int ((-1 : Int32)), .int (v50)] rfl ?_
  refine G.cmp_ne 37 (tbd tv_X12_hasNoRoom rfl) (by decide) (fun c16 => ?_) (fun c16 => ?_)
  · replace hr := ite_f c16 hr
    refine G.go tv_X12_hasNoRoom 1 38 [(0, .ref (gAd E (56))), (1, .int (a0)), (2, .int ((v49) / ((128 : Int32))))] [.int ((0 : Int32))] rfl ?_
    cases hr
    exact G.iret rfl rfl ⟨rfl, ⟨_, _, r50⟩, ((Fr.rf.tr fa49 (fun _ h => h)).tr fa50 (fun _ h => h))⟩ (tbd tv_X12_hasNoRoom rfl)
  · replace hr := ite_t c16 hr
    refine G.go tv_X12_hasNoRoom 4 23 [(0, .ref (gAd E (56))), (1, .int (a0)), (2, .int ((v49) / ((128 : Int32))))] [.int ((v49) / ((128 : Int32))), .int ((v49) / ((128 : Int32))), .int (a0), .ref (gAd E (56))] rfl ?_
    obtain ⟨v51, hv51, hr⟩ := bnd_s hr
    refine G.callV (56) [.int (a0), .int ((v49) / ((128 : Int32))), .int ((v49) / ((128 : Int32)))] [] (k_X12_need E _ hE R ⟨_, _, r50⟩ a0 ((v49) / ((128 : Int32))) ((v49) / ((128 : Int32))) v51 hv51) cls_X12 (by omega) (r50.o) cw_X12_412 w_2531 w_111 (Nat.le_of_ble_eq_true rfl) rfl (Nat.le_of_ble_eq_true rfl) (tbd tv_X12_hasNoRoom rfl) (fun v51w f51 q51 => ?_) (fun _ _ h => h.elim)
    obtain ⟨rfl, ⟨az51, sy51, r51⟩, fa51⟩ := q51
    refine G.eqs [.int (v51)] rfl ?_
    refine G.go tv_X12_hasNoRoom 1 27 [(0, .ref (gAd E (56))), (1, .int (a0)), (2, .int ((v49) / ((128 : Int32))))] [.ref (gAd E (56)), .int (v51)] rfl ?_
    obtain ⟨v52, R52, hv52, hr⟩ := bnd2_s hr
    refine G.callV (56) [] [.int (v51)] (k_X12_room E _ hE R ⟨_, _, r51⟩ v52 R52 hv52) cls_X12 (by omega) (r51.o) cw_X12_415 w_2535 w_112 (Nat.le_of_ble_eq_true rfl) rfl (Nat.le_of_ble_eq_true rfl) (tbd tv_X12_hasNoRoom rfl) (fun v52w f52 q52 => ?_) (fun _ _ h => h.elim)
    obtain ⟨rfl, ⟨az52, sy52, r52⟩, fa52⟩ := q52
    refine G.eqs [.int (v52), .int (v51)] rfl ?_
    refine G.cmp_le 37 (tbd tv_X12_hasNoRoom rfl) (by decide) (fun c30 => ?_) (fun c30 => ?_)
    · replace hr := ite_t c30 hr
      refine G.go tv_X12_hasNoRoom 1 38 [(0, .ref (gAd E (56))), (1, .int (a0)), (2, .int ((v49) / ((128 : Int32))))] [.int ((0 : Int32))] rfl ?_
      cases hr
      exact G.iret rfl rfl ⟨rfl, ⟨_, _, r52⟩, ((((Fr.rf.tr fa49 (fun _ h => h)).tr fa50 (fun _ h => h)).tr fa51 (fun _ h => h)).tr fa52 (fun _ h => h))⟩ (tbd tv_X12_hasNoRoom rfl)
    · replace hr := ite_f c30 hr
      refine G.go tv_X12_hasNoRoom 2 38 [(0, .ref (gAd E (56))), (1, .int (a0)), (2, .int ((v49) / ((128 : Int32))))] [.int ((1 : Int32))] rfl ?_
      cases hr
      exact G.iret rfl rfl ⟨rfl, ⟨_, _, r52⟩, ((((Fr.rf.tr fa49 (fun _ h => h)).tr fa50 (fun _ h => h)).tr fa51 (fun _ h => h)).tr fa52 (fun _ h => h))⟩ (tbd tv_X12_hasNoRoom rfl)
def tb_X12_work : List (Nat × Instr × Nat) := [(0, .aload_n 0, 1), (1, .getfield 71, 3), (4, .iload_n 1, 1), (5, .iaload, 1), (6, .iconst (-1), 1), (7, .if_icmp .eq 14, 3), (10, .sipush 128, 3), (13, .aload_n 0, 1), (14, .getfield 71, 3), (17, .iload_n 1, 1), (18, .iaload, 1), (19, .imul, 1), (20, .ireturn, 1), (21, .aload_n 0, 1), (22, .iload_n 1, 1), (23, .iconst 1, 1), (24, .invokevirtual 236, 3), (27, .aload_n 0, 1), (28, .getfield 71, 3), (31, .iload_n 1, 1), (32, .aload_n 0, 1), (33, .getfield 144, 3), (36, .iastore, 1), (37, .aload_n 0, 1), (38, .getfield 58, 3), (41, .aload_n 0, 1), (42, .getfield 144, 3), (45, .iload_n 1, 1), (46, .iastore, 1), (47, .aload_n 0, 1), (48, .getfield 61, 3), (51, .aload_n 0, 1), (52, .getfield 144, 3), (55, .iconst 0, 1), (56, .bastore, 1), (57, .aload_n 0, 1), (58, .getfield 86, 3), (61, .iconst 0, 1), (62, .aload_n 0, 1), (63, .getfield 65, 3), (66, .sipush 128, 3), (69, .aload_n 0, 1), (70, .getfield 144, 3), (73, .imul, 1), (74, .invokestatic 190, 3), (77, .aload_n 0, 1), (78, .dup, 1), (79, .getfield 144, 3), (82, .iconst 1, 1), (83, .iadd, 1), (84, .putfield 144, 3), (87, .sipush 128, 3), (90, .aload_n 0, 1), (91, .getfield 144, 3), (94, .iconst 1, 1), (95, .isub, 1), (96, .imul, 1), (97, .ireturn, 1)]
theorem tv_X12_work : Tv cX12_work tb_X12_work := by
  unfold Tv
  decide +kernel
def e_move_78_71_3  : Nat → RfT → Int32 → Int32 → Int32 → Option (RfT)
  | 0, _, _, _, _ => none
  | n + 1, R, x1, x3, x4 => if ((128 : Int32)) ≤ x4 then some R else ld (rA R 43) 128 ((x1) + (x4)) (fun v59 => stR R 32 131072 ((x3) + (x4)) (vp_nar .byte v59) (fun R60 => e_move_78_71_3  n R60 x1 x3 (x4 + (1 : Int32))))
def e_move_78_71  (R : RfT) (a1 : Int32) (a3 : Int32) : Option (RfT) := e_move_78_71_3  fuL R a1 a3 ((0 : Int32))
set_option maxRecDepth 100000 in
set_option maxHeartbeats 4000000 in
theorem l_X12_move_78_71_3 (E : gE) (f0 : Nat → va_E) (sz : Nat) (QA : Nat → Prop) (hE : 94 ≤ gN E) : ∀ (n : Nat), ∀ (R : RfT) (x1 : Int32) (x3 : Int32) (x4 : Int32) (R9 : RfT) (hr : e_move_78_71_3  n R x1 x3 x4 = some R9) (f : Nat → va_E) (w : RW E f R) (hf : Fr RfK f0 f), G E (1, yX12_move, 5, none, sz, QA) cX12_move (gO E (1, yX12_move, 5, none, sz, QA) (fun v g => v = none ∧ RW E g R9 ∧ Fr RfK f0 g, fun _ _ => False)) 3 [(0, .ref (gAd E (78))), (1, .int (x1)), (2, .ref (gAd E (71))), (3, .int (x3)), (4, .int (x4))] [] f := by
  intro n
  induction n with
  | zero =>
    intro R x1 x3 x4 R9 hr f w hf
    cases hr
  | succ n ih =>
    intro R x1 x3 x4 R9 hr f w hf
    obtain ⟨az, sy, r0⟩ := w
    unfold e_move_78_71_3 at hr
    refine G.go tv_X12_move 2 8 [(0, .ref (gAd E (78))), (1, .int (x1)), (2, .ref (gAd E (71))), (3, .int (x3)), (4, .int (x4))] [.int ((128 : Int32)), .int (x4)] rfl ?_
    refine G.cmp_ge 29 (tbd tv_X12_move rfl) (by decide) (fun c8 => ?_) (fun c8 => ?_)
    · replace hr := ite_t c8 hr
      cases hr
      exact G.vret rfl ⟨rfl, ⟨_, _, r0⟩, hf⟩ (tbd tv_X12_move rfl)
    · replace hr := ite_f c8 hr
      refine G.go tv_X12_move 8 21 [(0, .ref (gAd E (78))), (1, .int (x1)), (2, .ref (gAd E (71))), (3, .int (x3)), (4, .int (x4))] [.int ((x1) + (x4)), .ref (gAd E (78)), .int ((x3) + (x4)), .ref (gAd E (71))] rfl ?_
      obtain ⟨v59, b59, e59, hr⟩ := ld_s hr
      refine G.baldE (78) (by omega) (r0.a43) b59 e59 (tbd tv_X12_move rfl) ?_
      obtain ⟨R60, b60, eR60, hr⟩ := stR_s hr
      refine G.bast (71) (by omega) (r0.a32) b60 (tbd tv_X12_move rfl) ?_
      refine G.gen (P := fun w9 => RfV E w9 (setSr (setS R60 42 az) sy) ∧ Fr RfK f0 w9) ⟨by rw [eR60]; exact r0.p32 _, Fr.up hf ⟨by decide, by decide⟩⟩ (fun u60 p60 => ?_)
      obtain ⟨r60, h60⟩ := p60
      refine G.go tv_X12_move 2 3 [(0, .ref (gAd E (78))), (1, .int (x1)), (2, .ref (gAd E (71))), (3, .int (x3)), (4, .int (x4 + (1 : Int32)))] [] rfl ?_
      refine G.less [(0, .ref (gAd E (78))), (1, .int (x1)), (2, .ref (gAd E (71))), (3, .int (x3)), (4, .int (x4 + (1 : Int32)))] [0, 1, 2, 3, 4] rfl ?_
      exact ih _ _ _ _ _ hr _ ⟨_, _, r60⟩ h60
set_option maxRecDepth 100000 in
set_option maxHeartbeats 4000000 in
theorem k_X12_move_78_71 (E : gE) (f : Nat → va_E) (hE : 94 ≤ gN E) (R : RfT) (w : RW E f R) (a1 : Int32) (a3 : Int32) (R9 : RfT) (hr : e_move_78_71 R a1 a3 = some R9) : Ct E 1 yX12_move cX12_move 5 none [.ref (gAd E (78)), .int (a1), .ref (gAd E (71)), .int (a3)] f (fun v g => v = none ∧ RW E g R9 ∧ Fr RfK f g, fun _ _ => False) := by
  obtain ⟨az, sy, r0⟩ := w
  refine Ct.of (by decide) (Nat.le_of_ble_eq_true rfl) (fun sz => ?_)
  refine G.eql [(0, .ref (gAd E (78))), (1, .int (a1)), (2, .ref (gAd E (71))), (3, .int (a3))] rfl ?_
  unfold e_move_78_71 at hr
  refine G.go tv_X12_move 2 3 [(0, .ref (gAd E (78))), (1, .int (a1)), (2, .ref (gAd E (71))), (3, .int (a3)), (4, .int ((0 : Int32)))] [] rfl ?_
  refine G.less [(0, .ref (gAd E (78))), (1, .int (a1)), (2, .ref (gAd E (71))), (3, .int (a3)), (4, .int ((0 : Int32)))] [0, 1, 2, 3, 4] rfl ?_
  exact l_X12_move_78_71_3 E f sz _ hE _ _ _ _ _ _ hr _ ⟨_, _, r0⟩ Fr.rf
def e_work  (R : RfT) (a0 : Int32) : Option (Int32 × RfT) := ld (rA R 36) 1024 a0 (fun v53 => if v53 = ((-1 : Int32)) then bnd (e_see R a0 ((1 : Int32))) (fun R54 => stR R54 36 1024 a0 (rS R54 33) (fun R55 => stR R55 30 1024 (rS R55 33) a0 (fun R56 => stR R56 31 1024 (rS R56 33) (vp_nar .boolean ((0 : Int32))) (fun R57 => bnd (e_move_78_71 R57 ((0 : Int32)) (((128 : Int32)) * (rS R57 33))) (fun R58 => ptR R58 33 ((rS R58 33) + ((1 : Int32))) (fun R61 => some (((128 : Int32)) * ((rS R61 33) - ((1 : Int32))), R61))))))) else ld (rA R 36) 1024 a0 (fun v62 => some (((128 : Int32)) * (v62), R)))
set_option maxRecDepth 100000 in
set_option maxHeartbeats 4000000 in
theorem k_X12_work (E : gE) (f : Nat → va_E) (hE : 94 ≤ gN E) (R : RfT) (w : RW E f R) (a0 : Int32) (r : Int32) (R9 : RfT) (hr : e_work R a0 = some (r, R9)) : Ct E 3 yX12_work cX12_work 2 (some .int) [.ref (gAd E (56)), .int (a0)] f (fun v g => v = some (.int r) ∧ RW E g R9 ∧ Fr RfK f g, fun _ _ => False) := by
  obtain ⟨az, sy, r0⟩ := w
  refine Ct.of (by decide) (Nat.le_of_ble_eq_true rfl) (fun sz => ?_)
  refine G.eql [(0, .ref (gAd E (56))), (1, .int (a0))] rfl ?_
  unfold e_work at hr
  refine G.go tv_X12_work 1 1 [(0, .ref (gAd E (56))), (1, .int (a0))] [.ref (gAd E (56))] rfl ?_
  refine G.rg r0 hE 36 (.ref (gAd E (73))) (by decide) rfl (tbd tv_X12_work rfl) w_2101 ?_
  refine G.go tv_X12_work 1 5 [(0, .ref (gAd E (56))), (1, .int (a0))] [.int (a0), .ref (gAd E (73))] rfl ?_
  obtain ⟨v53, b53, e53, hr⟩ := ld_s hr
  refine G.ialdE (73) (by omega) (r0.a36) b53 e53 (tbd tv_X12_work rfl) ?_
  refine G.go tv_X12_work 1 7 [(0, .ref (gAd E (56))), (1, .int (a0))] [.int ((-1 : Int32)), .int (v53)] rfl ?_
  refine G.cmp_eq 21 (tbd tv_X12_work rfl) (by decide) (fun c7 => ?_) (fun c7 => ?_)
  · replace hr := ite_t c7 hr
    refine G.go tv_X12_work 3 24 [(0, .ref (gAd E (56))), (1, .int (a0))] [.int ((1 : Int32)), .int (a0), .ref (gAd E (56))] rfl ?_
    obtain ⟨R54, hv54, hr⟩ := bnd_s hr
    refine G.callV (56) [.int (a0), .int ((1 : Int32))] [] (k_X12_see E _ hE R ⟨_, _, r0⟩ a0 ((1 : Int32)) R54 hv54) cls_X12 (by omega) (r0.o) cw_X12_236 w_2420 w_86 (Nat.le_of_ble_eq_true rfl) rfl (Nat.le_of_ble_eq_true rfl) (tbd tv_X12_work rfl) (fun v54w f54 q54 => ?_) (fun _ _ h => h.elim)
    obtain ⟨rfl, ⟨az54, sy54, r54⟩, fa54⟩ := q54
    refine G.eqs [] rfl ?_
    refine G.go tv_X12_work 1 28 [(0, .ref (gAd E (56))), (1, .int (a0))] [.ref (gAd E (56))] rfl ?_
    refine G.rg r54 hE 36 (.ref (gAd E (73))) (by decide) rfl (tbd tv_X12_work rfl) w_2101 ?_
    refine G.go tv_X12_work 2 33 [(0, .ref (gAd E (56))), (1, .int (a0))] [.ref (gAd E (56)), .int (a0), .ref (gAd E (73))] rfl ?_
    refine G.rg r54 hE 33 (.int (rS R54 33)) (by decide) rfl (tbd tv_X12_work rfl) w_2098 ?_
    obtain ⟨R55, b55, eR55, hr⟩ := stR_s hr
    refine G.iast (73) (by omega) (r54.a36) b55 (tbd tv_X12_work rfl) ?_
    refine G.gen (P := fun w9 => RfV E w9 (setSr (setS R55 42 az54) sy54) ∧ Fr RfK f w9) ⟨by rw [eR55]; exact r54.p36 _, Fr.up (Fr.rf.tr fa54 (fun _ h => h)) ⟨by decide, by decide⟩⟩ (fun u55 p55 => ?_)
    obtain ⟨r55, h55⟩ := p55
    refine G.go tv_X12_work 1 38 [(0, .ref (gAd E (56))), (1, .int (a0))] [.ref (gAd E (56))] rfl ?_
    refine G.rg r55 hE 30 (.ref (gAd E (69))) (by decide) rfl (tbd tv_X12_work rfl) w_2095 ?_
    refine G.go tv_X12_work 1 42 [(0, .ref (gAd E (56))), (1, .int (a0))] [.ref (gAd E (56)), .ref (gAd E (69))] rfl ?_
    refine G.rg r55 hE 33 (.int (rS R55 33)) (by decide) rfl (tbd tv_X12_work rfl) w_2098 ?_
    refine G.go tv_X12_work 1 46 [(0, .ref (gAd E (56))), (1, .int (a0))] [.int (a0), .int (rS R55 33), .ref (gAd E (69))] rfl ?_
    obtain ⟨R56, b56, eR56, hr⟩ := stR_s hr
    refine G.iast (69) (by omega) (r55.a30) b56 (tbd tv_X12_work rfl) ?_
    refine G.gen (P := fun w9 => RfV E w9 (setSr (setS R56 42 az54) sy54) ∧ Fr RfK f w9) ⟨by rw [eR56]; exact r55.p30 _, Fr.up h55 ⟨by decide, by decide⟩⟩ (fun u56 p56 => ?_)
    obtain ⟨r56, h56⟩ := p56
    refine G.go tv_X12_work 1 48 [(0, .ref (gAd E (56))), (1, .int (a0))] [.ref (gAd E (56))] rfl ?_
    refine G.rg r56 hE 31 (.ref (gAd E (70))) (by decide) rfl (tbd tv_X12_work rfl) w_2096 ?_
    refine G.go tv_X12_work 1 52 [(0, .ref (gAd E (56))), (1, .int (a0))] [.ref (gAd E (56)), .ref (gAd E (70))] rfl ?_
    refine G.rg r56 hE 33 (.int (rS R56 33)) (by decide) rfl (tbd tv_X12_work rfl) w_2098 ?_
    refine G.go tv_X12_work 1 56 [(0, .ref (gAd E (56))), (1, .int (a0))] [.int ((0 : Int32)), .int (rS R56 33), .ref (gAd E (70))] rfl ?_
    obtain ⟨R57, b57, eR57, hr⟩ := stR_s hr
    refine G.zast (70) (by omega) (r56.a31) b57 (tbd tv_X12_work rfl) ?_
    refine G.gen (P := fun w9 => RfV E w9 (setSr (setS R57 42 az54) sy54) ∧ Fr RfK f w9) ⟨by rw [eR57]; exact r56.p31 _, Fr.up h56 ⟨by decide, by decide⟩⟩ (fun u57 p57 => ?_)
    obtain ⟨r57, h57⟩ := p57
    refine G.go tv_X12_work 1 58 [(0, .ref (gAd E (56))), (1, .int (a0))] [.ref (gAd E (56))] rfl ?_
    refine G.rg r57 hE 43 (.ref (gAd E (78))) (by decide) rfl (tbd tv_X12_work rfl) w_2108 ?_
    refine G.go tv_X12_work 2 63 [(0, .ref (gAd E (56))), (1, .int (a0))] [.ref (gAd E (56)), .int ((0 : Int32)), .ref (gAd E (78))] rfl ?_
    refine G.rg r57 hE 32 (.ref (gAd E (71))) (by decide) rfl (tbd tv_X12_work rfl) w_2097 ?_
    refine G.go tv_X12_work 2 70 [(0, .ref (gAd E (56))), (1, .int (a0))] [.ref (gAd E (56)), .int ((128 : Int32)), .ref (gAd E (71)), .int ((0 : Int32)), .ref (gAd E (78))] rfl ?_
    refine G.rg r57 hE 33 (.int (rS R57 33)) (by decide) rfl (tbd tv_X12_work rfl) w_2098 ?_
    refine G.go tv_X12_work 1 74 [(0, .ref (gAd E (56))), (1, .int (a0))] [.int (((128 : Int32)) * (rS R57 33)), .ref (gAd E (71)), .int ((0 : Int32)), .ref (gAd E (78))] rfl ?_
    obtain ⟨R58, hv58, hr⟩ := bnd_s hr
    refine G.callS [.ref (gAd E (78)), .int ((0 : Int32)), .ref (gAd E (71)), .int (((128 : Int32)) * (rS R57 33))] [] (k_X12_move_78_71 E _ hE R57 ⟨_, _, r57⟩ ((0 : Int32)) (((128 : Int32)) * (rS R57 33)) R58 hv58) cw_X12_190 w_2307 (Nat.le_of_ble_eq_true rfl) rfl (Nat.le_of_ble_eq_true rfl) (tbd tv_X12_work rfl) (fun v58w f58 q58 => ?_) (fun _ _ h => h.elim)
    obtain ⟨rfl, ⟨az58, sy58, r58⟩, fa58⟩ := q58
    refine G.eqs [] rfl ?_
    refine G.go tv_X12_work 2 79 [(0, .ref (gAd E (56))), (1, .int (a0))] [.ref (gAd E (56)), .ref (gAd E (56))] rfl ?_
    refine G.rg r58 hE 33 (.int (rS R58 33)) (by decide) rfl (tbd tv_X12_work rfl) w_2098 ?_
    refine G.go tv_X12_work 2 84 [(0, .ref (gAd E (56))), (1, .int (a0))] [.int ((rS R58 33) + ((1 : Int32))), .ref (gAd E (56))] rfl ?_
    obtain ⟨R61, eR61, hr⟩ := ptR_s hr
    refine G.rpW r58 hE 33 eR61 (by decide) rfl (by decide) rfl rfl rfl (tbd tv_X12_work rfl) w_2098 (fun u61 r61 h61 => ?_)
    refine G.go tv_X12_work 2 91 [(0, .ref (gAd E (56))), (1, .int (a0))] [.ref (gAd E (56)), .int ((128 : Int32))] rfl ?_
    refine G.rg r61 hE 33 (.int (rS R61 33)) (by decide) rfl (tbd tv_X12_work rfl) w_2098 ?_
    refine G.go tv_X12_work 3 97 [(0, .ref (gAd E (56))), (1, .int (a0))] [.int (((128 : Int32)) * ((rS R61 33) - ((1 : Int32))))] rfl ?_
    cases hr
    exact G.iret rfl rfl ⟨rfl, ⟨_, _, r61⟩, ((h57.tr fa58 (fun _ h => h)).tr h61 (fun _ h => h))⟩ (tbd tv_X12_work rfl)
  · replace hr := ite_f c7 hr
    refine G.go tv_X12_work 2 14 [(0, .ref (gAd E (56))), (1, .int (a0))] [.ref (gAd E (56)), .int ((128 : Int32))] rfl ?_
    refine G.rg r0 hE 36 (.ref (gAd E (73))) (by decide) rfl (tbd tv_X12_work rfl) w_2101 ?_
    refine G.go tv_X12_work 1 18 [(0, .ref (gAd E (56))), (1, .int (a0))] [.int (a0), .ref (gAd E (73)), .int ((128 : Int32))] rfl ?_
    obtain ⟨v62, b62, e62, hr⟩ := ld_s hr
    refine G.ialdE (73) (by omega) (r0.a36) b62 e62 (tbd tv_X12_work rfl) ?_
    refine G.go tv_X12_work 1 20 [(0, .ref (gAd E (56))), (1, .int (a0))] [.int (((128 : Int32)) * (v62))] rfl ?_
    cases hr
    exact G.iret rfl rfl ⟨rfl, ⟨_, _, r0⟩, Fr.rf⟩ (tbd tv_X12_work rfl)
def tb_X12_setNumber : List (Nat × Instr × Nat) := [(0, .aload_n 0, 1), (1, .iload_n 1, 1), (2, .invokevirtual 239, 3), (5, .istore 5, 2), (7, .aload_n 0, 1), (8, .getfield 65, 3), (11, .iload 5, 2), (13, .iload_n 2, 1), (14, .iadd, 1), (15, .iload_n 3, 1), (16, .iload 4, 2), (18, .invokestatic 242, 3), (21, .return_, 1)]
theorem tv_X12_setNumber : Tv cX12_setNumber tb_X12_setNumber := by
  unfold Tv
  decide +kernel
theorem w_2414 : Cond.methodLink "LedgerFilesModel" 239 yX12_work ∈ TB := tp_10 108 (by decide +kernel) rfl
theorem w_2417 : Cond.code yX12_work prog_14_method_26_code 2 (some .int) ∈ TB := tp_10 111 rfl rfl
theorem cw_X12_239 : Cw RX12 239 yX12_work cX12_work 2 (some .int) 1 := ⟨w_2414, w_2417, w_161, by decide +kernel, by decide +kernel, by decide⟩
theorem w_2416 : Cond.instanceMethod yX12_work ∈ TB := tp_10 110 (by decide +kernel) rfl
theorem w_85 : Cond.selects "LedgerFilesModel" yX12_work yX12_work ∈ TB := tp_0 85 (by decide +kernel) rfl
def e_set_71_3  : Nat → RfT → Int32 → Int32 → Int32 → Int32 → Option (RfT)
  | 0, _, _, _, _, _ => none
  | n + 1, R, x1, x2, x3, x4 => if x2 ≤ x4 then some R else stR R 32 131072 ((x1) + (x4)) (vp_nar .byte ((((x3 : Int32).toUInt32 >>> ((((8 : Int32)) * (x4) : Int32).toUInt32 &&& Int32.toUInt32 31)).toInt32 : Int32).toInt8.toInt32)) (fun R65 => e_set_71_3  n R65 x1 x2 x3 (x4 + (1 : Int32)))
def e_set_71  (R : RfT) (a1 : Int32) (a2 : Int32) (a3 : Int32) : Option (RfT) := e_set_71_3  fuL R a1 a2 a3 ((0 : Int32))
set_option maxRecDepth 100000 in
set_option maxHeartbeats 4000000 in
theorem l_X12_set_71_3 (E : gE) (f0 : Nat → va_E) (sz : Nat) (QA : Nat → Prop) (hE : 94 ≤ gN E) : ∀ (n : Nat), ∀ (R : RfT) (x1 : Int32) (x2 : Int32) (x3 : Int32) (x4 : Int32) (R9 : RfT) (hr : e_set_71_3  n R x1 x2 x3 x4 = some R9) (f : Nat → va_E) (w : RW E f R) (hf : Fr RfK f0 f), G E (1, yX12_set, 5, none, sz, QA) cX12_set (gO E (1, yX12_set, 5, none, sz, QA) (fun v g => v = none ∧ RW E g R9 ∧ Fr RfK f0 g, fun _ _ => False)) 3 [(0, .ref (gAd E (71))), (1, .int (x1)), (2, .int (x2)), (3, .int (x3)), (4, .int (x4))] [] f := by
  intro n
  induction n with
  | zero =>
    intro R x1 x2 x3 x4 R9 hr f w hf
    cases hr
  | succ n ih =>
    intro R x1 x2 x3 x4 R9 hr f w hf
    obtain ⟨az, sy, r0⟩ := w
    unfold e_set_71_3 at hr
    refine G.go tv_X12_set 2 6 [(0, .ref (gAd E (71))), (1, .int (x1)), (2, .int (x2)), (3, .int (x3)), (4, .int (x4))] [.int (x2), .int (x4)] rfl ?_
    refine G.cmp_ge 29 (tbd tv_X12_set rfl) (by decide) (fun c6 => ?_) (fun c6 => ?_)
    · replace hr := ite_t c6 hr
      cases hr
      exact G.vret rfl ⟨rfl, ⟨_, _, r0⟩, hf⟩ (tbd tv_X12_set rfl)
    · replace hr := ite_f c6 hr
      refine G.go tv_X12_set 10 22 [(0, .ref (gAd E (71))), (1, .int (x1)), (2, .int (x2)), (3, .int (x3)), (4, .int (x4))] [.int ((((x3 : Int32).toUInt32 >>> ((((8 : Int32)) * (x4) : Int32).toUInt32 &&& Int32.toUInt32 31)).toInt32 : Int32).toInt8.toInt32), .int ((x1) + (x4)), .ref (gAd E (71))] rfl ?_
      obtain ⟨R65, b65, eR65, hr⟩ := stR_s hr
      refine G.bast (71) (by omega) (r0.a32) b65 (tbd tv_X12_set rfl) ?_
      refine G.gen (P := fun w9 => RfV E w9 (setSr (setS R65 42 az) sy) ∧ Fr RfK f0 w9) ⟨by rw [eR65]; exact r0.p32 _, Fr.up hf ⟨by decide, by decide⟩⟩ (fun u65 p65 => ?_)
      obtain ⟨r65, h65⟩ := p65
      refine G.go tv_X12_set 2 3 [(0, .ref (gAd E (71))), (1, .int (x1)), (2, .int (x2)), (3, .int (x3)), (4, .int (x4 + (1 : Int32)))] [] rfl ?_
      refine G.less [(0, .ref (gAd E (71))), (1, .int (x1)), (2, .int (x2)), (3, .int (x3)), (4, .int (x4 + (1 : Int32)))] [0, 1, 2, 3, 4] rfl ?_
      exact ih _ _ _ _ _ _ hr _ ⟨_, _, r65⟩ h65
set_option maxRecDepth 100000 in
set_option maxHeartbeats 4000000 in
theorem k_X12_set_71 (E : gE) (f : Nat → va_E) (hE : 94 ≤ gN E) (R : RfT) (w : RW E f R) (a1 : Int32) (a2 : Int32) (a3 : Int32) (R9 : RfT) (hr : e_set_71 R a1 a2 a3 = some R9) : Ct E 1 yX12_set cX12_set 5 none [.ref (gAd E (71)), .int (a1), .int (a2), .int (a3)] f (fun v g => v = none ∧ RW E g R9 ∧ Fr RfK f g, fun _ _ => False) := by
  obtain ⟨az, sy, r0⟩ := w
  refine Ct.of (by decide) (Nat.le_of_ble_eq_true rfl) (fun sz => ?_)
  refine G.eql [(0, .ref (gAd E (71))), (1, .int (a1)), (2, .int (a2)), (3, .int (a3))] rfl ?_
  unfold e_set_71 at hr
  refine G.go tv_X12_set 2 3 [(0, .ref (gAd E (71))), (1, .int (a1)), (2, .int (a2)), (3, .int (a3)), (4, .int ((0 : Int32)))] [] rfl ?_
  refine G.less [(0, .ref (gAd E (71))), (1, .int (a1)), (2, .int (a2)), (3, .int (a3)), (4, .int ((0 : Int32)))] [0, 1, 2, 3, 4] rfl ?_
  exact l_X12_set_71_3 E f sz _ hE _ _ _ _ _ _ _ hr _ ⟨_, _, r0⟩ Fr.rf
def e_setNumber  (R : RfT) (a0 : Int32) (a1 : Int32) (a2 : Int32) (a3 : Int32) : Option (RfT) := bnd2 (e_work R a0) (fun v63 R63 => bnd (e_set_71 R63 ((v63) + (a1)) a2 a3) (fun R64 => some R64))
set_option maxRecDepth 100000 in
set_option maxHeartbeats 4000000 in
theorem k_X12_setNumber (E : gE) (f : Nat → va_E) (hE : 94 ≤ gN E) (R : RfT) (w : RW E f R) (a0 : Int32) (a1 : Int32) (a2 : Int32) (a3 : Int32) (R9 : RfT) (hr : e_setNumber R a0 a1 a2 a3 = some R9) : Ct E 4 yX12_setNumber cX12_setNumber 6 none [.ref (gAd E (56)), .int (a0), .int (a1), .int (a2), .int (a3)] f (fun v g => v = none ∧ RW E g R9 ∧ Fr RfK f g, fun _ _ => False) := by
  obtain ⟨az, sy, r0⟩ := w
  refine Ct.of (by decide) (Nat.le_of_ble_eq_true rfl) (fun sz => ?_)
  refine G.eql [(0, .ref (gAd E (56))), (1, .int (a0)), (2, .int (a1)), (3, .int (a2)), (4, .int (a3))] rfl ?_
  unfold e_setNumber at hr
  refine G.go tv_X12_setNumber 2 2 [(0, .ref (gAd E (56))), (1, .int (a0)), (2, .int (a1)), (3, .int (a2)), (4, .int (a3))] [.int (a0), .ref (gAd E (56))] rfl ?_
  obtain ⟨v63, R63, hv63, hr⟩ := bnd2_s hr
  refine G.callV (56) [.int (a0)] [] (k_X12_work E _ hE R ⟨_, _, r0⟩ a0 v63 R63 hv63) cls_X12 (by omega) (r0.o) cw_X12_239 w_2416 w_85 (Nat.le_of_ble_eq_true rfl) rfl (Nat.le_of_ble_eq_true rfl) (tbd tv_X12_setNumber rfl) (fun v63w f63 q63 => ?_) (fun _ _ h => h.elim)
  obtain ⟨rfl, ⟨az63, sy63, r63⟩, fa63⟩ := q63
  refine G.eqs [.int (v63)] rfl ?_
  refine G.go tv_X12_setNumber 2 8 [(0, .ref (gAd E (56))), (1, .int (a0)), (2, .int (a1)), (3, .int (a2)), (4, .int (a3)), (5, .int (v63))] [.ref (gAd E (56))] rfl ?_
  refine G.rg r63 hE 32 (.ref (gAd E (71))) (by decide) rfl (tbd tv_X12_setNumber rfl) w_2097 ?_
  refine G.go tv_X12_setNumber 5 18 [(0, .ref (gAd E (56))), (1, .int (a0)), (2, .int (a1)), (3, .int (a2)), (4, .int (a3)), (5, .int (v63))] [.int (a3), .int (a2), .int ((v63) + (a1)), .ref (gAd E (71))] rfl ?_
  obtain ⟨R64, hv64, hr⟩ := bnd_s hr
  refine G.callS [.ref (gAd E (71)), .int ((v63) + (a1)), .int (a2), .int (a3)] [] (k_X12_set_71 E _ hE R63 ⟨_, _, r63⟩ ((v63) + (a1)) a2 a3 R64 hv64) cw_X12_242 w_2330 (Nat.le_of_ble_eq_true rfl) rfl (Nat.le_of_ble_eq_true rfl) (tbd tv_X12_setNumber rfl) (fun v64w f64 q64 => ?_) (fun _ _ h => h.elim)
  obtain ⟨rfl, ⟨az64, sy64, r64⟩, fa64⟩ := q64
  refine G.eqs [] rfl ?_
  cases hr
  exact G.vret rfl ⟨rfl, ⟨_, _, r64⟩, ((Fr.rf.tr fa63 (fun _ h => h)).tr fa64 (fun _ h => h))⟩ (tbd tv_X12_setNumber rfl)
def tb_X12_setField : List (Nat × Instr × Nat) := [(0, .aload_n 0, 1), (1, .iload_n 1, 1), (2, .invokestatic 292, 3), (5, .bipush 32, 2), (7, .iload_n 1, 1), (8, .iconst 1, 1), (9, .isub, 1), (10, .iconst 4, 1), (11, .irem, 1), (12, .imul, 1), (13, .iload_n 2, 1), (14, .iadd, 1), (15, .iload_n 3, 1), (16, .iload 4, 2), (18, .invokevirtual 299, 3), (21, .return_, 1)]
theorem tv_X12_setField : Tv cX12_setField tb_X12_setField := by
  unfold Tv
  decide +kernel
theorem w_2410 : Cond.methodLink "LedgerFilesModel" 299 yX12_setNumber ∈ TB := tp_10 104 (by decide +kernel) rfl
theorem w_2413 : Cond.code yX12_setNumber prog_14_method_27_code 6 none ∈ TB := tp_10 107 rfl rfl
theorem cw_X12_299 : Cw RX12 299 yX12_setNumber cX12_setNumber 6 none 4 := ⟨w_2410, w_2413, w_161, by decide +kernel, by decide +kernel, by decide⟩
theorem w_2412 : Cond.instanceMethod yX12_setNumber ∈ TB := tp_10 106 (by decide +kernel) rfl
theorem w_84 : Cond.selects "LedgerFilesModel" yX12_setNumber yX12_setNumber ∈ TB := tp_0 84 (by decide +kernel) rfl
def e_setField  (R : RfT) (a0 : Int32) (a1 : Int32) (a2 : Int32) (a3 : Int32) : Option (RfT) := bnd (e_inodeBlock R a0) (fun v66 => bnd (e_setNumber R v66 ((((32 : Int32)) * (((a0) - ((1 : Int32))) - ((a0) - ((1 : Int32))) / ((4 : Int32)) * ((4 : Int32)))) + (a1)) a2 a3) (fun R67 => some R67))
set_option maxRecDepth 100000 in
set_option maxHeartbeats 4000000 in
theorem k_X12_setField (E : gE) (f : Nat → va_E) (hE : 94 ≤ gN E) (R : RfT) (w : RW E f R) (a0 : Int32) (a1 : Int32) (a2 : Int32) (a3 : Int32) (R9 : RfT) (hr : e_setField R a0 a1 a2 a3 = some R9) : Ct E 5 yX12_setField cX12_setField 5 none [.ref (gAd E (56)), .int (a0), .int (a1), .int (a2), .int (a3)] f (fun v g => v = none ∧ RW E g R9 ∧ Fr RfK f g, fun _ _ => False) := by
  obtain ⟨az, sy, r0⟩ := w
  refine Ct.of (by decide) (Nat.le_of_ble_eq_true rfl) (fun sz => ?_)
  refine G.eql [(0, .ref (gAd E (56))), (1, .int (a0)), (2, .int (a1)), (3, .int (a2)), (4, .int (a3))] rfl ?_
  unfold e_setField at hr
  refine G.go tv_X12_setField 2 2 [(0, .ref (gAd E (56))), (1, .int (a0)), (2, .int (a1)), (3, .int (a2)), (4, .int (a3))] [.int (a0), .ref (gAd E (56))] rfl ?_
  obtain ⟨v66, hv66, hr⟩ := bnd_s hr
  refine G.callS [.int (a0)] [.ref (gAd E (56))] (k_X12_inodeBlock E _ hE R ⟨_, _, r0⟩ a0 v66 hv66) cw_X12_292 w_2376 (Nat.le_of_ble_eq_true rfl) rfl (Nat.le_of_ble_eq_true rfl) (tbd tv_X12_setField rfl) (fun v66w f66 q66 => ?_) (fun _ _ h => h.elim)
  obtain ⟨rfl, ⟨az66, sy66, r66⟩, fa66⟩ := q66
  refine G.eqs [.int (v66), .ref (gAd E (56))] rfl ?_
  refine G.go tv_X12_setField 5 11 [(0, .ref (gAd E (56))), (1, .int (a0)), (2, .int (a1)), (3, .int (a2)), (4, .int (a3))] [.int ((4 : Int32)), .int ((a0) - ((1 : Int32))), .int ((32 : Int32)), .int (v66), .ref (gAd E (56))] rfl ?_
  refine G.irem (by decide) (tbd tv_X12_setField rfl) ?_
  refine G.go tv_X12_setField 5 18 [(0, .ref (gAd E (56))), (1, .int (a0)), (2, .int (a1)), (3, .int (a2)), (4, .int (a3))] [.int (a3), .int (a2), .int ((((32 : Int32)) * (((a0) - ((1 : Int32))) - ((a0) - ((1 : Int32))) / ((4 : Int32)) * ((4 : Int32)))) + (a1)), .int (v66), .ref (gAd E (56))] rfl ?_
  obtain ⟨R67, hv67, hr⟩ := bnd_s hr
  refine G.callV (56) [.int (v66), .int ((((32 : Int32)) * (((a0) - ((1 : Int32))) - ((a0) - ((1 : Int32))) / ((4 : Int32)) * ((4 : Int32)))) + (a1)), .int (a2), .int (a3)] [] (k_X12_setNumber E _ hE R ⟨_, _, r66⟩ v66 ((((32 : Int32)) * (((a0) - ((1 : Int32))) - ((a0) - ((1 : Int32))) / ((4 : Int32)) * ((4 : Int32)))) + (a1)) a2 a3 R67 hv67) cls_X12 (by omega) (r66.o) cw_X12_299 w_2412 w_84 (Nat.le_of_ble_eq_true rfl) rfl (Nat.le_of_ble_eq_true rfl) (tbd tv_X12_setField rfl) (fun v67w f67 q67 => ?_) (fun _ _ h => h.elim)
  obtain ⟨rfl, ⟨az67, sy67, r67⟩, fa67⟩ := q67
  refine G.eqs [] rfl ?_
  cases hr
  exact G.vret rfl ⟨rfl, ⟨_, _, r67⟩, ((Fr.rf.tr fa66 (fun _ h => h)).tr fa67 (fun _ h => h))⟩ (tbd tv_X12_setField rfl)
def tb_X12_setBit : List (Nat × Instr × Nat) := [(0, .aload_n 0, 1), (1, .iload_n 1, 1), (2, .iload_n 2, 1), (3, .bipush 8, 2), (5, .idiv, 1), (6, .iconst 1, 1), (7, .invokevirtual 295, 3), (10, .istore 4, 2), (12, .iconst 1, 1), (13, .iload_n 2, 1), (14, .bipush 8, 2), (16, .irem, 1), (17, .ishl, 1), (18, .istore 5, 2), (20, .aload_n 0, 1), (21, .iload_n 1, 1), (22, .iload_n 2, 1), (23, .bipush 8, 2), (25, .idiv, 1), (26, .iconst 1, 1), (27, .iload_n 3, 1), (28, .ifCond .eq 11, 3), (31, .iload 4, 2), (33, .iload 5, 2), (35, .ior, 1), (36, .goto 10, 3), (39, .iload 4, 2), (41, .iload 5, 2), (43, .iconst (-1), 1), (44, .ixor, 1), (45, .iand, 1), (46, .invokevirtual 299, 3), (49, .return_, 1)]
theorem tv_X12_setBit : Tv cX12_setBit tb_X12_setBit := by
  unfold Tv
  decide +kernel
def e_setBit  (R : RfT) (a0 : Int32) (a1 : Int32) (a2 : Int32) : Option (RfT) := bnd (e_seenNumber R a0 ((a1) / ((8 : Int32))) ((1 : Int32))) (fun v68 => nm (((1 : Int32)) <<< (((a1) - (a1) / ((8 : Int32)) * ((8 : Int32))) &&& 31)) (fun v69 => if a2 = 0 then bnd (e_setNumber R a0 ((a1) / ((8 : Int32))) ((1 : Int32)) ((v68) &&& ((v69) ^^^ ((-1 : Int32))))) (fun R70 => some R70) else bnd (e_setNumber R a0 ((a1) / ((8 : Int32))) ((1 : Int32)) ((v68) ||| (v69))) (fun R71 => some R71)))
set_option maxRecDepth 100000 in
set_option maxHeartbeats 4000000 in
theorem k_X12_setBit (E : gE) (f : Nat → va_E) (hE : 94 ≤ gN E) (R : RfT) (w : RW E f R) (a0 : Int32) (a1 : Int32) (a2 : Int32) (R9 : RfT) (hr : e_setBit R a0 a1 a2 = some R9) : Ct E 5 yX12_setBit cX12_setBit 6 none [.ref (gAd E (56)), .int (a0), .int (a1), .int (a2)] f (fun v g => v = none ∧ RW E g R9 ∧ Fr RfK f g, fun _ _ => False) := by
  obtain ⟨az, sy, r0⟩ := w
  refine Ct.of (by decide) (Nat.le_of_ble_eq_true rfl) (fun sz => ?_)
  refine G.eql [(0, .ref (gAd E (56))), (1, .int (a0)), (2, .int (a1)), (3, .int (a2))] rfl ?_
  unfold e_setBit at hr
  refine G.go tv_X12_setBit 4 5 [(0, .ref (gAd E (56))), (1, .int (a0)), (2, .int (a1)), (3, .int (a2))] [.int ((8 : Int32)), .int (a1), .int (a0), .ref (gAd E (56))] rfl ?_
  refine G.idiv (by decide) (tbd tv_X12_setBit rfl) ?_
  refine G.go tv_X12_setBit 1 7 [(0, .ref (gAd E (56))), (1, .int (a0)), (2, .int (a1)), (3, .int (a2))] [.int ((1 : Int32)), .int ((a1) / ((8 : Int32))), .int (a0), .ref (gAd E (56))] rfl ?_
  obtain ⟨v68, hv68, hr⟩ := bnd_s hr
  refine G.callV (56) [.int (a0), .int ((a1) / ((8 : Int32))), .int ((1 : Int32))] [] (k_X12_seenNumber E _ hE R ⟨_, _, r0⟩ a0 ((a1) / ((8 : Int32))) ((1 : Int32)) v68 hv68) cls_X12 (by omega) (r0.o) cw_X12_295 w_2380 w_76 (Nat.le_of_ble_eq_true rfl) rfl (Nat.le_of_ble_eq_true rfl) (tbd tv_X12_setBit rfl) (fun v68w f68 q68 => ?_) (fun _ _ h => h.elim)
  obtain ⟨rfl, ⟨az68, sy68, r68⟩, fa68⟩ := q68
  refine G.eqs [.int (v68)] rfl ?_
  refine G.go tv_X12_setBit 4 16 [(0, .ref (gAd E (56))), (1, .int (a0)), (2, .int (a1)), (3, .int (a2)), (4, .int (v68))] [.int ((8 : Int32)), .int (a1), .int ((1 : Int32))] rfl ?_
  refine G.irem (by decide) (tbd tv_X12_setBit rfl) ?_
  refine G.go tv_X12_setBit 2 20 [(0, .ref (gAd E (56))), (1, .int (a0)), (2, .int (a1)), (3, .int (a2)), (4, .int (v68)), (5, .int (((1 : Int32)) <<< (((a1) - (a1) / ((8 : Int32)) * ((8 : Int32))) &&& 31)))] [] rfl ?_
  obtain ⟨v69, e69, hr⟩ := nm_s hr
  refine G.eql [(0, .ref (gAd E (56))), (1, .int (a0)), (2, .int (a1)), (3, .int (a2)), (4, .int (v68)), (5, .int (v69))] (by rw [e69]) ?_
  refine G.go tv_X12_setBit 4 25 [(0, .ref (gAd E (56))), (1, .int (a0)), (2, .int (a1)), (3, .int (a2)), (4, .int (v68)), (5, .int (v69))] [.int ((8 : Int32)), .int (a1), .int (a0), .ref (gAd E (56))] rfl ?_
  refine G.idiv (by decide) (tbd tv_X12_setBit rfl) ?_
  refine G.go tv_X12_setBit 2 28 [(0, .ref (gAd E (56))), (1, .int (a0)), (2, .int (a1)), (3, .int (a2)), (4, .int (v68)), (5, .int (v69))] [.int (a2), .int ((1 : Int32)), .int ((a1) / ((8 : Int32))), .int (a0), .ref (gAd E (56))] rfl ?_
  refine G.if_eq 39 (tbd tv_X12_setBit rfl) (by decide) (fun c28 => ?_) (fun c28 => ?_)
  · replace hr := ite_t c28 hr
    refine G.go tv_X12_setBit 5 46 [(0, .ref (gAd E (56))), (1, .int (a0)), (2, .int (a1)), (3, .int (a2)), (4, .int (v68)), (5, .int (v69))] [.int ((v68) &&& ((v69) ^^^ ((-1 : Int32)))), .int ((1 : Int32)), .int ((a1) / ((8 : Int32))), .int (a0), .ref (gAd E (56))] rfl ?_
    obtain ⟨R70, hv70, hr⟩ := bnd_s hr
    refine G.callV (56) [.int (a0), .int ((a1) / ((8 : Int32))), .int ((1 : Int32)), .int ((v68) &&& ((v69) ^^^ ((-1 : Int32))))] [] (k_X12_setNumber E _ hE R ⟨_, _, r68⟩ a0 ((a1) / ((8 : Int32))) ((1 : Int32)) ((v68) &&& ((v69) ^^^ ((-1 : Int32)))) R70 hv70) cls_X12 (by omega) (r68.o) cw_X12_299 w_2412 w_84 (Nat.le_of_ble_eq_true rfl) rfl (Nat.le_of_ble_eq_true rfl) (tbd tv_X12_setBit rfl) (fun v70w f70 q70 => ?_) (fun _ _ h => h.elim)
    obtain ⟨rfl, ⟨az70, sy70, r70⟩, fa70⟩ := q70
    refine G.eqs [] rfl ?_
    cases hr
    exact G.vret rfl ⟨rfl, ⟨_, _, r70⟩, ((Fr.rf.tr fa68 (fun _ h => h)).tr fa70 (fun _ h => h))⟩ (tbd tv_X12_setBit rfl)
  · replace hr := ite_f c28 hr
    refine G.go tv_X12_setBit 4 46 [(0, .ref (gAd E (56))), (1, .int (a0)), (2, .int (a1)), (3, .int (a2)), (4, .int (v68)), (5, .int (v69))] [.int ((v68) ||| (v69)), .int ((1 : Int32)), .int ((a1) / ((8 : Int32))), .int (a0), .ref (gAd E (56))] rfl ?_
    obtain ⟨R71, hv71, hr⟩ := bnd_s hr
    refine G.callV (56) [.int (a0), .int ((a1) / ((8 : Int32))), .int ((1 : Int32)), .int ((v68) ||| (v69))] [] (k_X12_setNumber E _ hE R ⟨_, _, r68⟩ a0 ((a1) / ((8 : Int32))) ((1 : Int32)) ((v68) ||| (v69)) R71 hv71) cls_X12 (by omega) (r68.o) cw_X12_299 w_2412 w_84 (Nat.le_of_ble_eq_true rfl) rfl (Nat.le_of_ble_eq_true rfl) (tbd tv_X12_setBit rfl) (fun v71w f71 q71 => ?_) (fun _ _ h => h.elim)
    obtain ⟨rfl, ⟨az71, sy71, r71⟩, fa71⟩ := q71
    refine G.eqs [] rfl ?_
    cases hr
    exact G.vret rfl ⟨rfl, ⟨_, _, r71⟩, ((Fr.rf.tr fa68 (fun _ h => h)).tr fa71 (fun _ h => h))⟩ (tbd tv_X12_setBit rfl)
def tb_X12_free : List (Nat × Instr × Nat) := [(0, .aload_n 0, 1), (1, .bipush 43, 2), (3, .iload_n 1, 1), (4, .iconst 0, 1), (5, .invokevirtual 313, 3), (8, .aload_n 0, 1), (9, .getfield 68, 3), (12, .iload_n 1, 1), (13, .iconst 2, 1), (14, .bastore, 1), (15, .aload_n 0, 1), (16, .getfield 71, 3), (19, .iload_n 1, 1), (20, .iaload, 1), (21, .istore_n 2, 1), (22, .iload_n 2, 1), (23, .iconst (-1), 1), (24, .if_icmp .eq 94, 3), (27, .aload_n 0, 1), (28, .getfield 71, 3), (31, .iload_n 1, 1), (32, .iconst (-1), 1), (33, .iastore, 1), (34, .aload_n 0, 1), (35, .dup, 1), (36, .getfield 144, 3), (39, .iconst 1, 1), (40, .isub, 1), (41, .putfield 144, 3), (44, .iload_n 2, 1), (45, .aload_n 0, 1), (46, .getfield 144, 3), (49, .if_icmp .ge 69, 3), (52, .aload_n 0, 1), (53, .getfield 58, 3), (56, .iload_n 2, 1), (57, .aload_n 0, 1), (58, .getfield 58, 3), (61, .aload_n 0, 1), (62, .getfield 144, 3), (65, .iaload, 1), (66, .iastore, 1), (67, .aload_n 0, 1), (68, .getfield 61, 3), (71, .iload_n 2, 1), (72, .aload_n 0, 1), (73, .getfield 61, 3), (76, .aload_n 0, 1), (77, .getfield 144, 3), (80, .baload, 1), (81, .bastore, 1), (82, .aload_n 0, 1), (83, .getfield 65, 3), (86, .sipush 128, 3), (89, .aload_n 0, 1), (90, .getfield 144, 3), (93, .imul, 1), (94, .aload_n 0, 1), (95, .getfield 65, 3), (98, .sipush 128, 3), (101, .iload_n 2, 1), (102, .imul, 1), (103, .invokestatic 190, 3), (106, .aload_n 0, 1), (107, .getfield 71, 3), (110, .aload_n 0, 1), (111, .getfield 58, 3), (114, .iload_n 2, 1), (115, .iaload, 1), (116, .iload_n 2, 1), (117, .iastore, 1), (118, .return_, 1)]
theorem tv_X12_free : Tv cX12_free tb_X12_free := by
  unfold Tv
  decide +kernel
theorem w_2406 : Cond.methodLink "LedgerFilesModel" 313 yX12_setBit ∈ TB := tp_10 100 (by decide +kernel) rfl
theorem w_2409 : Cond.code yX12_setBit prog_14_method_48_code 6 none ∈ TB := tp_10 103 rfl rfl
theorem cw_X12_313 : Cw RX12 313 yX12_setBit cX12_setBit 6 none 3 := ⟨w_2406, w_2409, w_161, by decide +kernel, by decide +kernel, by decide⟩
theorem w_2408 : Cond.instanceMethod yX12_setBit ∈ TB := tp_10 102 (by decide +kernel) rfl
theorem w_83 : Cond.selects "LedgerFilesModel" yX12_setBit yX12_setBit ∈ TB := tp_0 83 (by decide +kernel) rfl
def e_move_71_71_3  : Nat → RfT → Int32 → Int32 → Int32 → Option (RfT)
  | 0, _, _, _, _ => none
  | n + 1, R, x1, x3, x4 => if ((128 : Int32)) ≤ x4 then some R else ld (rA R 32) 131072 ((x1) + (x4)) (fun v82 => stR R 32 131072 ((x3) + (x4)) (vp_nar .byte v82) (fun R83 => e_move_71_71_3  n R83 x1 x3 (x4 + (1 : Int32))))
def e_move_71_71  (R : RfT) (a1 : Int32) (a3 : Int32) : Option (RfT) := e_move_71_71_3  fuL R a1 a3 ((0 : Int32))
set_option maxRecDepth 100000 in
set_option maxHeartbeats 4000000 in
theorem l_X12_move_71_71_3 (E : gE) (f0 : Nat → va_E) (sz : Nat) (QA : Nat → Prop) (hE : 94 ≤ gN E) : ∀ (n : Nat), ∀ (R : RfT) (x1 : Int32) (x3 : Int32) (x4 : Int32) (R9 : RfT) (hr : e_move_71_71_3  n R x1 x3 x4 = some R9) (f : Nat → va_E) (w : RW E f R) (hf : Fr RfK f0 f), G E (1, yX12_move, 5, none, sz, QA) cX12_move (gO E (1, yX12_move, 5, none, sz, QA) (fun v g => v = none ∧ RW E g R9 ∧ Fr RfK f0 g, fun _ _ => False)) 3 [(0, .ref (gAd E (71))), (1, .int (x1)), (2, .ref (gAd E (71))), (3, .int (x3)), (4, .int (x4))] [] f := by
  intro n
  induction n with
  | zero =>
    intro R x1 x3 x4 R9 hr f w hf
    cases hr
  | succ n ih =>
    intro R x1 x3 x4 R9 hr f w hf
    obtain ⟨az, sy, r0⟩ := w
    unfold e_move_71_71_3 at hr
    refine G.go tv_X12_move 2 8 [(0, .ref (gAd E (71))), (1, .int (x1)), (2, .ref (gAd E (71))), (3, .int (x3)), (4, .int (x4))] [.int ((128 : Int32)), .int (x4)] rfl ?_
    refine G.cmp_ge 29 (tbd tv_X12_move rfl) (by decide) (fun c8 => ?_) (fun c8 => ?_)
    · replace hr := ite_t c8 hr
      cases hr
      exact G.vret rfl ⟨rfl, ⟨_, _, r0⟩, hf⟩ (tbd tv_X12_move rfl)
    · replace hr := ite_f c8 hr
      refine G.go tv_X12_move 8 21 [(0, .ref (gAd E (71))), (1, .int (x1)), (2, .ref (gAd E (71))), (3, .int (x3)), (4, .int (x4))] [.int ((x1) + (x4)), .ref (gAd E (71)), .int ((x3) + (x4)), .ref (gAd E (71))] rfl ?_
      obtain ⟨v82, b82, e82, hr⟩ := ld_s hr
      refine G.baldE (71) (by omega) (r0.a32) b82 e82 (tbd tv_X12_move rfl) ?_
      obtain ⟨R83, b83, eR83, hr⟩ := stR_s hr
      refine G.bast (71) (by omega) (r0.a32) b83 (tbd tv_X12_move rfl) ?_
      refine G.gen (P := fun w9 => RfV E w9 (setSr (setS R83 42 az) sy) ∧ Fr RfK f0 w9) ⟨by rw [eR83]; exact r0.p32 _, Fr.up hf ⟨by decide, by decide⟩⟩ (fun u83 p83 => ?_)
      obtain ⟨r83, h83⟩ := p83
      refine G.go tv_X12_move 2 3 [(0, .ref (gAd E (71))), (1, .int (x1)), (2, .ref (gAd E (71))), (3, .int (x3)), (4, .int (x4 + (1 : Int32)))] [] rfl ?_
      refine G.less [(0, .ref (gAd E (71))), (1, .int (x1)), (2, .ref (gAd E (71))), (3, .int (x3)), (4, .int (x4 + (1 : Int32)))] [0, 1, 2, 3, 4] rfl ?_
      exact ih _ _ _ _ _ hr _ ⟨_, _, r83⟩ h83
set_option maxRecDepth 100000 in
set_option maxHeartbeats 4000000 in
theorem k_X12_move_71_71 (E : gE) (f : Nat → va_E) (hE : 94 ≤ gN E) (R : RfT) (w : RW E f R) (a1 : Int32) (a3 : Int32) (R9 : RfT) (hr : e_move_71_71 R a1 a3 = some R9) : Ct E 1 yX12_move cX12_move 5 none [.ref (gAd E (71)), .int (a1), .ref (gAd E (71)), .int (a3)] f (fun v g => v = none ∧ RW E g R9 ∧ Fr RfK f g, fun _ _ => False) := by
  obtain ⟨az, sy, r0⟩ := w
  refine Ct.of (by decide) (Nat.le_of_ble_eq_true rfl) (fun sz => ?_)
  refine G.eql [(0, .ref (gAd E (71))), (1, .int (a1)), (2, .ref (gAd E (71))), (3, .int (a3))] rfl ?_
  unfold e_move_71_71 at hr
  refine G.go tv_X12_move 2 3 [(0, .ref (gAd E (71))), (1, .int (a1)), (2, .ref (gAd E (71))), (3, .int (a3)), (4, .int ((0 : Int32)))] [] rfl ?_
  refine G.less [(0, .ref (gAd E (71))), (1, .int (a1)), (2, .ref (gAd E (71))), (3, .int (a3)), (4, .int ((0 : Int32)))] [0, 1, 2, 3, 4] rfl ?_
  exact l_X12_move_71_71_3 E f sz _ hE _ _ _ _ _ _ hr _ ⟨_, _, r0⟩ Fr.rf
def e_free  (R : RfT) (a0 : Int32) : Option (RfT) := bnd (e_setBit R ((43 : Int32)) a0 ((0 : Int32))) (fun R72 => stR R72 35 1024 a0 (vp_nar .byte ((2 : Int32))) (fun R73 => ld (rA R73 36) 1024 a0 (fun v74 => if v74 = ((-1 : Int32)) then some R73 else stR R73 36 1024 a0 ((-1 : Int32)) (fun R75 => ptR R75 33 ((rS R75 33) - ((1 : Int32))) (fun R76 => if (rS R76 33) ≤ v74 then some R76 else ld (rA R76 30) 1024 (rS R76 33) (fun v77 => stR R76 30 1024 v74 v77 (fun R78 => ld (rA R78 31) 1024 (rS R78 33) (fun v79 => stR R78 31 1024 v74 (vp_nar .boolean v79) (fun R80 => bnd (e_move_71_71 R80 (((128 : Int32)) * (rS R80 33)) (((128 : Int32)) * (v74))) (fun R81 => ld (rA R81 30) 1024 v74 (fun v84 => stR R81 36 1024 v84 v74 (fun R85 => some R85))))))))))))
set_option maxRecDepth 100000 in
set_option maxHeartbeats 4000000 in
theorem k_X12_free (E : gE) (f : Nat → va_E) (hE : 94 ≤ gN E) (R : RfT) (w : RW E f R) (a0 : Int32) (R9 : RfT) (hr : e_free R a0 = some R9) : Ct E 6 yX12_free cX12_free 3 none [.ref (gAd E (56)), .int (a0)] f (fun v g => v = none ∧ RW E g R9 ∧ Fr RfK f g, fun _ _ => False) := by
  obtain ⟨az, sy, r0⟩ := w
  refine Ct.of (by decide) (Nat.le_of_ble_eq_true rfl) (fun sz => ?_)
  refine G.eql [(0, .ref (gAd E (56))), (1, .int (a0))] rfl ?_
  unfold e_free at hr
  refine G.go tv_X12_free 4 5 [(0, .ref (gAd E (56))), (1, .int (a0))] [.int ((0 : Int32)), .int (a0), .int ((43 : Int32)), .ref (gAd E (56))] rfl ?_
  obtain ⟨R72, hv72, hr⟩ := bnd_s hr
  refine G.callV (56) [.int ((43 : Int32)), .int (a0), .int ((0 : Int32))] [] (k_X12_setBit E _ hE R ⟨_, _, r0⟩ ((43 : Int32)) a0 ((0 : Int32)) R72 hv72) cls_X12 (by omega) (r0.o) cw_X12_313 w_2408 w_83 (Nat.le_of_ble_eq_true rfl) rfl (Nat.le_of_ble_eq_true rfl) (tbd tv_X12_free rfl) (fun v72w f72 q72 => ?_) (fun _ _ h => h.elim)
  obtain ⟨rfl, ⟨az72, sy72, r72⟩, fa72⟩ := q72
  refine G.eqs [] rfl ?_
  refine G.go tv_X12_free 1 9 [(0, .ref (gAd E (56))), (1, .int (a0))] [.ref (gAd E (56))] rfl ?_
  refine G.rg r72 hE 35 (.ref (gAd E (72))) (by decide) rfl (tbd tv_X12_free rfl) w_2100 ?_
  refine G.go tv_X12_free 2 14 [(0, .ref (gAd E (56))), (1, .int (a0))] [.int ((2 : Int32)), .int (a0), .ref (gAd E (72))] rfl ?_
  obtain ⟨R73, b73, eR73, hr⟩ := stR_s hr
  refine G.bast (72) (by omega) (r72.a35) b73 (tbd tv_X12_free rfl) ?_
  refine G.gen (P := fun w9 => RfV E w9 (setSr (setS R73 42 az72) sy72) ∧ Fr RfK f w9) ⟨by rw [eR73]; exact r72.p35 _, Fr.up (Fr.rf.tr fa72 (fun _ h => h)) ⟨by decide, by decide⟩⟩ (fun u73 p73 => ?_)
  obtain ⟨r73, h73⟩ := p73
  refine G.go tv_X12_free 1 16 [(0, .ref (gAd E (56))), (1, .int (a0))] [.ref (gAd E (56))] rfl ?_
  refine G.rg r73 hE 36 (.ref (gAd E (73))) (by decide) rfl (tbd tv_X12_free rfl) w_2101 ?_
  refine G.go tv_X12_free 1 20 [(0, .ref (gAd E (56))), (1, .int (a0))] [.int (a0), .ref (gAd E (73))] rfl ?_
  obtain ⟨v74, b74, e74, hr⟩ := ld_s hr
  refine G.ialdE (73) (by omega) (r73.a36) b74 e74 (tbd tv_X12_free rfl) ?_
  refine G.go tv_X12_free 3 24 [(0, .ref (gAd E (56))), (1, .int (a0)), (2, .int (v74))] [.int ((-1 : Int32)), .int (v74)] rfl ?_
  refine G.cmp_eq 118 (tbd tv_X12_free rfl) (by decide) (fun c24 => ?_) (fun c24 => ?_)
  · replace hr := ite_t c24 hr
    cases hr
    exact G.vret rfl ⟨rfl, ⟨_, _, r73⟩, h73⟩ (tbd tv_X12_free rfl)
  · replace hr := ite_f c24 hr
    refine G.go tv_X12_free 1 28 [(0, .ref (gAd E (56))), (1, .int (a0)), (2, .int (v74))] [.ref (gAd E (56))] rfl ?_
    refine G.rg r73 hE 36 (.ref (gAd E (73))) (by decide) rfl (tbd tv_X12_free rfl) w_2101 ?_
    refine G.go tv_X12_free 2 33 [(0, .ref (gAd E (56))), (1, .int (a0)), (2, .int (v74))] [.int ((-1 : Int32)), .int (a0), .ref (gAd E (73))] rfl ?_
    obtain ⟨R75, b75, eR75, hr⟩ := stR_s hr
    refine G.iast (73) (by omega) (r73.a36) b75 (tbd tv_X12_free rfl) ?_
    refine G.gen (P := fun w9 => RfV E w9 (setSr (setS R75 42 az72) sy72) ∧ Fr RfK f w9) ⟨by rw [eR75]; exact r73.p36 _, Fr.up h73 ⟨by decide, by decide⟩⟩ (fun u75 p75 => ?_)
    obtain ⟨r75, h75⟩ := p75
    refine G.go tv_X12_free 2 36 [(0, .ref (gAd E (56))), (1, .int (a0)), (2, .int (v74))] [.ref (gAd E (56)), .ref (gAd E (56))] rfl ?_
    refine G.rg r75 hE 33 (.int (rS R75 33)) (by decide) rfl (tbd tv_X12_free rfl) w_2098 ?_
    refine G.go tv_X12_free 2 41 [(0, .ref (gAd E (56))), (1, .int (a0)), (2, .int (v74))] [.int ((rS R75 33) - ((1 : Int32))), .ref (gAd E (56))] rfl ?_
    obtain ⟨R76, eR76, hr⟩ := ptR_s hr
    refine G.rpW r75 hE 33 eR76 (by decide) rfl (by decide) rfl rfl rfl (tbd tv_X12_free rfl) w_2098 (fun u76 r76 h76 => ?_)
    refine G.go tv_X12_free 2 46 [(0, .ref (gAd E (56))), (1, .int (a0)), (2, .int (v74))] [.ref (gAd E (56)), .int (v74)] rfl ?_
    refine G.rg r76 hE 33 (.int (rS R76 33)) (by decide) rfl (tbd tv_X12_free rfl) w_2098 ?_
    refine G.cmp_ge 118 (tbd tv_X12_free rfl) (by decide) (fun c49 => ?_) (fun c49 => ?_)
    · replace hr := ite_t c49 hr
      cases hr
      exact G.vret rfl ⟨rfl, ⟨_, _, r76⟩, (h75.tr h76 (fun _ h => h))⟩ (tbd tv_X12_free rfl)
    · replace hr := ite_f c49 hr
      refine G.go tv_X12_free 1 53 [(0, .ref (gAd E (56))), (1, .int (a0)), (2, .int (v74))] [.ref (gAd E (56))] rfl ?_
      refine G.rg r76 hE 30 (.ref (gAd E (69))) (by decide) rfl (tbd tv_X12_free rfl) w_2095 ?_
      refine G.go tv_X12_free 2 58 [(0, .ref (gAd E (56))), (1, .int (a0)), (2, .int (v74))] [.ref (gAd E (56)), .int (v74), .ref (gAd E (69))] rfl ?_
      refine G.rg r76 hE 30 (.ref (gAd E (69))) (by decide) rfl (tbd tv_X12_free rfl) w_2095 ?_
      refine G.go tv_X12_free 1 62 [(0, .ref (gAd E (56))), (1, .int (a0)), (2, .int (v74))] [.ref (gAd E (56)), .ref (gAd E (69)), .int (v74), .ref (gAd E (69))] rfl ?_
      refine G.rg r76 hE 33 (.int (rS R76 33)) (by decide) rfl (tbd tv_X12_free rfl) w_2098 ?_
      obtain ⟨v77, b77, e77, hr⟩ := ld_s hr
      refine G.ialdE (69) (by omega) (r76.a30) b77 e77 (tbd tv_X12_free rfl) ?_
      obtain ⟨R78, b78, eR78, hr⟩ := stR_s hr
      refine G.iast (69) (by omega) (r76.a30) b78 (tbd tv_X12_free rfl) ?_
      refine G.gen (P := fun w9 => RfV E w9 (setSr (setS R78 42 az72) sy72) ∧ Fr RfK f w9) ⟨by rw [eR78]; exact r76.p30 _, Fr.up (h75.tr h76 (fun _ h => h)) ⟨by decide, by decide⟩⟩ (fun u78 p78 => ?_)
      obtain ⟨r78, h78⟩ := p78
      refine G.go tv_X12_free 1 68 [(0, .ref (gAd E (56))), (1, .int (a0)), (2, .int (v74))] [.ref (gAd E (56))] rfl ?_
      refine G.rg r78 hE 31 (.ref (gAd E (70))) (by decide) rfl (tbd tv_X12_free rfl) w_2096 ?_
      refine G.go tv_X12_free 2 73 [(0, .ref (gAd E (56))), (1, .int (a0)), (2, .int (v74))] [.ref (gAd E (56)), .int (v74), .ref (gAd E (70))] rfl ?_
      refine G.rg r78 hE 31 (.ref (gAd E (70))) (by decide) rfl (tbd tv_X12_free rfl) w_2096 ?_
      refine G.go tv_X12_free 1 77 [(0, .ref (gAd E (56))), (1, .int (a0)), (2, .int (v74))] [.ref (gAd E (56)), .ref (gAd E (70)), .int (v74), .ref (gAd E (70))] rfl ?_
      refine G.rg r78 hE 33 (.int (rS R78 33)) (by decide) rfl (tbd tv_X12_free rfl) w_2098 ?_
      obtain ⟨v79, b79, e79, hr⟩ := ld_s hr
      refine G.zaldE (70) (by omega) (r78.a31) b79 e79 (tbd tv_X12_free rfl) ?_
      obtain ⟨R80, b80, eR80, hr⟩ := stR_s hr
      refine G.zast (70) (by omega) (r78.a31) b80 (tbd tv_X12_free rfl) ?_
      refine G.gen (P := fun w9 => RfV E w9 (setSr (setS R80 42 az72) sy72) ∧ Fr RfK f w9) ⟨by rw [eR80]; exact r78.p31 _, Fr.up h78 ⟨by decide, by decide⟩⟩ (fun u80 p80 => ?_)
      obtain ⟨r80, h80⟩ := p80
      refine G.go tv_X12_free 1 83 [(0, .ref (gAd E (56))), (1, .int (a0)), (2, .int (v74))] [.ref (gAd E (56))] rfl ?_
      refine G.rg r80 hE 32 (.ref (gAd E (71))) (by decide) rfl (tbd tv_X12_free rfl) w_2097 ?_
      refine G.go tv_X12_free 2 90 [(0, .ref (gAd E (56))), (1, .int (a0)), (2, .int (v74))] [.ref (gAd E (56)), .int ((128 : Int32)), .ref (gAd E (71))] rfl ?_
      refine G.rg r80 hE 33 (.int (rS R80 33)) (by decide) rfl (tbd tv_X12_free rfl) w_2098 ?_
      refine G.go tv_X12_free 2 95 [(0, .ref (gAd E (56))), (1, .int (a0)), (2, .int (v74))] [.ref (gAd E (56)), .int (((128 : Int32)) * (rS R80 33)), .ref (gAd E (71))] rfl ?_
      refine G.rg r80 hE 32 (.ref (gAd E (71))) (by decide) rfl (tbd tv_X12_free rfl) w_2097 ?_
      refine G.go tv_X12_free 3 103 [(0, .ref (gAd E (56))), (1, .int (a0)), (2, .int (v74))] [.int (((128 : Int32)) * (v74)), .ref (gAd E (71)), .int (((128 : Int32)) * (rS R80 33)), .ref (gAd E (71))] rfl ?_
      obtain ⟨R81, hv81, hr⟩ := bnd_s hr
      refine G.callS [.ref (gAd E (71)), .int (((128 : Int32)) * (rS R80 33)), .ref (gAd E (71)), .int (((128 : Int32)) * (v74))] [] (k_X12_move_71_71 E _ hE R80 ⟨_, _, r80⟩ (((128 : Int32)) * (rS R80 33)) (((128 : Int32)) * (v74)) R81 hv81) cw_X12_190 w_2307 (Nat.le_of_ble_eq_true rfl) rfl (Nat.le_of_ble_eq_true rfl) (tbd tv_X12_free rfl) (fun v81w f81 q81 => ?_) (fun _ _ h => h.elim)
      obtain ⟨rfl, ⟨az81, sy81, r81⟩, fa81⟩ := q81
      refine G.eqs [] rfl ?_
      refine G.go tv_X12_free 1 107 [(0, .ref (gAd E (56))), (1, .int (a0)), (2, .int (v74))] [.ref (gAd E (56))] rfl ?_
      refine G.rg r81 hE 36 (.ref (gAd E (73))) (by decide) rfl (tbd tv_X12_free rfl) w_2101 ?_
      refine G.go tv_X12_free 1 111 [(0, .ref (gAd E (56))), (1, .int (a0)), (2, .int (v74))] [.ref (gAd E (56)), .ref (gAd E (73))] rfl ?_
      refine G.rg r81 hE 30 (.ref (gAd E (69))) (by decide) rfl (tbd tv_X12_free rfl) w_2095 ?_
      refine G.go tv_X12_free 1 115 [(0, .ref (gAd E (56))), (1, .int (a0)), (2, .int (v74))] [.int (v74), .ref (gAd E (69)), .ref (gAd E (73))] rfl ?_
      obtain ⟨v84, b84, e84, hr⟩ := ld_s hr
      refine G.ialdE (69) (by omega) (r81.a30) b84 e84 (tbd tv_X12_free rfl) ?_
      refine G.go tv_X12_free 1 117 [(0, .ref (gAd E (56))), (1, .int (a0)), (2, .int (v74))] [.int (v74), .int (v84), .ref (gAd E (73))] rfl ?_
      obtain ⟨R85, b85, eR85, hr⟩ := stR_s hr
      refine G.iast (73) (by omega) (r81.a36) b85 (tbd tv_X12_free rfl) ?_
      refine G.gen (P := fun w9 => RfV E w9 (setSr (setS R85 42 az81) sy81) ∧ Fr RfK f w9) ⟨by rw [eR85]; exact r81.p36 _, Fr.up (h80.tr fa81 (fun _ h => h)) ⟨by decide, by decide⟩⟩ (fun u85 p85 => ?_)
      obtain ⟨r85, h85⟩ := p85
      cases hr
      exact G.vret rfl ⟨rfl, ⟨_, _, r85⟩, h85⟩ (tbd tv_X12_free rfl)
def tb_X12_setHole : List (Nat × Instr × Nat) := [(0, .iload_n 2, 1), (1, .bipush 8, 2), (3, .if_icmp .ge 19, 3), (6, .aload_n 0, 1), (7, .iload_n 1, 1), (8, .bipush 12, 2), (10, .iconst 2, 1), (11, .iload_n 2, 1), (12, .imul, 1), (13, .iadd, 1), (14, .iconst 2, 1), (15, .iconst 0, 1), (16, .invokevirtual 332, 3), (19, .goto 37, 3), (22, .aload_n 0, 1), (23, .aload_n 0, 1), (24, .iload_n 1, 1), (25, .iload_n 2, 1), (26, .invokevirtual 306, 3), (29, .iconst 2, 1), (30, .iload_n 2, 1), (31, .bipush 72, 2), (33, .if_icmp .ge 10, 3), (36, .iload_n 2, 1), (37, .bipush 8, 2), (39, .isub, 1), (40, .goto 10, 3), (43, .iload_n 2, 1), (44, .bipush 72, 2), (46, .isub, 1), (47, .bipush 64, 2), (49, .irem, 1), (50, .imul, 1), (51, .iconst 2, 1), (52, .iconst 0, 1), (53, .invokevirtual 299, 3), (56, .return_, 1)]
theorem tv_X12_setHole : Tv cX12_setHole tb_X12_setHole := by
  unfold Tv
  decide +kernel
theorem w_2422 : Cond.methodLink "LedgerFilesModel" 332 yX12_setField ∈ TB := tp_10 116 (by decide +kernel) rfl
theorem w_2425 : Cond.code yX12_setField prog_14_method_42_code 5 none ∈ TB := tp_10 119 rfl rfl
theorem cw_X12_332 : Cw RX12 332 yX12_setField cX12_setField 5 none 4 := ⟨w_2422, w_2425, w_161, by decide +kernel, by decide +kernel, by decide⟩
theorem w_2424 : Cond.instanceMethod yX12_setField ∈ TB := tp_10 118 (by decide +kernel) rfl
theorem w_87 : Cond.selects "LedgerFilesModel" yX12_setField yX12_setField ∈ TB := tp_0 87 (by decide +kernel) rfl
def e_setHole  (R : RfT) (a0 : Int32) (a1 : Int32) : Option (RfT) := if ((8 : Int32)) ≤ a1 then bnd (e_tableOf R a0 a1) (fun v86 => if ((72 : Int32)) ≤ a1 then bnd (e_setNumber R v86 (((2 : Int32)) * (((a1) - ((72 : Int32))) - ((a1) - ((72 : Int32))) / ((64 : Int32)) * ((64 : Int32)))) ((2 : Int32)) ((0 : Int32))) (fun R87 => some R87) else bnd (e_setNumber R v86 (((2 : Int32)) * ((a1) - ((8 : Int32)))) ((2 : Int32)) ((0 : Int32))) (fun R88 => some R88)) else bnd (e_setField R a0 (((12 : Int32)) + (((2 : Int32)) * (a1))) ((2 : Int32)) ((0 : Int32))) (fun R89 => some R89)
set_option maxRecDepth 100000 in
set_option maxHeartbeats 4000000 in
theorem k_X12_setHole (E : gE) (f : Nat → va_E) (hE : 94 ≤ gN E) (R : RfT) (w : RW E f R) (a0 : Int32) (a1 : Int32) (R9 : RfT) (hr : e_setHole R a0 a1 = some R9) : Ct E 6 yX12_setHole cX12_setHole 3 none [.ref (gAd E (56)), .int (a0), .int (a1)] f (fun v g => v = none ∧ RW E g R9 ∧ Fr RfK f g, fun _ _ => False) := by
  obtain ⟨az, sy, r0⟩ := w
  refine Ct.of (by decide) (Nat.le_of_ble_eq_true rfl) (fun sz => ?_)
  refine G.eql [(0, .ref (gAd E (56))), (1, .int (a0)), (2, .int (a1))] rfl ?_
  unfold e_setHole at hr
  refine G.go tv_X12_setHole 2 3 [(0, .ref (gAd E (56))), (1, .int (a0)), (2, .int (a1))] [.int ((8 : Int32)), .int (a1)] rfl ?_
  refine G.cmp_ge 22 (tbd tv_X12_setHole rfl) (by decide) (fun c3 => ?_) (fun c3 => ?_)
  · replace hr := ite_t c3 hr
    refine G.go tv_X12_setHole 4 26 [(0, .ref (gAd E (56))), (1, .int (a0)), (2, .int (a1))] [.int (a1), .int (a0), .ref (gAd E (56)), .ref (gAd E (56))] rfl ?_
    obtain ⟨v86, hv86, hr⟩ := bnd_s hr
    refine G.callV (56) [.int (a0), .int (a1)] [.ref (gAd E (56))] (k_X12_tableOf E _ hE R ⟨_, _, r0⟩ a0 a1 v86 hv86) cls_X12 (by omega) (r0.o) cw_X12_306 w_2511 w_106 (Nat.le_of_ble_eq_true rfl) rfl (Nat.le_of_ble_eq_true rfl) (tbd tv_X12_setHole rfl) (fun v86w f86 q86 => ?_) (fun _ _ h => h.elim)
    obtain ⟨rfl, ⟨az86, sy86, r86⟩, fa86⟩ := q86
    refine G.eqs [.int (v86), .ref (gAd E (56))] rfl ?_
    refine G.go tv_X12_setHole 3 33 [(0, .ref (gAd E (56))), (1, .int (a0)), (2, .int (a1))] [.int ((72 : Int32)), .int (a1), .int ((2 : Int32)), .int (v86), .ref (gAd E (56))] rfl ?_
    refine G.cmp_ge 43 (tbd tv_X12_setHole rfl) (by decide) (fun c33 => ?_) (fun c33 => ?_)
    · replace hr := ite_t c33 hr
      refine G.go tv_X12_setHole 4 49 [(0, .ref (gAd E (56))), (1, .int (a0)), (2, .int (a1))] [.int ((64 : Int32)), .int ((a1) - ((72 : Int32))), .int ((2 : Int32)), .int (v86), .ref (gAd E (56))] rfl ?_
      refine G.irem (by decide) (tbd tv_X12_setHole rfl) ?_
      refine G.go tv_X12_setHole 3 53 [(0, .ref (gAd E (56))), (1, .int (a0)), (2, .int (a1))] [.int ((0 : Int32)), .int ((2 : Int32)), .int (((2 : Int32)) * (((a1) - ((72 : Int32))) - ((a1) - ((72 : Int32))) / ((64 : Int32)) * ((64 : Int32)))), .int (v86), .ref (gAd E (56))] rfl ?_
      obtain ⟨R87, hv87, hr⟩ := bnd_s hr
      refine G.callV (56) [.int (v86), .int (((2 : Int32)) * (((a1) - ((72 : Int32))) - ((a1) - ((72 : Int32))) / ((64 : Int32)) * ((64 : Int32)))), .int ((2 : Int32)), .int ((0 : Int32))] [] (k_X12_setNumber E _ hE R ⟨_, _, r86⟩ v86 (((2 : Int32)) * (((a1) - ((72 : Int32))) - ((a1) - ((72 : Int32))) / ((64 : Int32)) * ((64 : Int32)))) ((2 : Int32)) ((0 : Int32)) R87 hv87) cls_X12 (by omega) (r86.o) cw_X12_299 w_2412 w_84 (Nat.le_of_ble_eq_true rfl) rfl (Nat.le_of_ble_eq_true rfl) (tbd tv_X12_setHole rfl) (fun v87w f87 q87 => ?_) (fun _ _ h => h.elim)
      obtain ⟨rfl, ⟨az87, sy87, r87⟩, fa87⟩ := q87
      refine G.eqs [] rfl ?_
      cases hr
      exact G.vret rfl ⟨rfl, ⟨_, _, r87⟩, ((Fr.rf.tr fa86 (fun _ h => h)).tr fa87 (fun _ h => h))⟩ (tbd tv_X12_setHole rfl)
    · replace hr := ite_f c33 hr
      refine G.go tv_X12_setHole 7 53 [(0, .ref (gAd E (56))), (1, .int (a0)), (2, .int (a1))] [.int ((0 : Int32)), .int ((2 : Int32)), .int (((2 : Int32)) * ((a1) - ((8 : Int32)))), .int (v86), .ref (gAd E (56))] rfl ?_
      obtain ⟨R88, hv88, hr⟩ := bnd_s hr
      refine G.callV (56) [.int (v86), .int (((2 : Int32)) * ((a1) - ((8 : Int32)))), .int ((2 : Int32)), .int ((0 : Int32))] [] (k_X12_setNumber E _ hE R ⟨_, _, r86⟩ v86 (((2 : Int32)) * ((a1) - ((8 : Int32)))) ((2 : Int32)) ((0 : Int32)) R88 hv88) cls_X12 (by omega) (r86.o) cw_X12_299 w_2412 w_84 (Nat.le_of_ble_eq_true rfl) rfl (Nat.le_of_ble_eq_true rfl) (tbd tv_X12_setHole rfl) (fun v88w f88 q88 => ?_) (fun _ _ h => h.elim)
      obtain ⟨rfl, ⟨az88, sy88, r88⟩, fa88⟩ := q88
      refine G.eqs [] rfl ?_
      cases hr
      exact G.vret rfl ⟨rfl, ⟨_, _, r88⟩, ((Fr.rf.tr fa86 (fun _ h => h)).tr fa88 (fun _ h => h))⟩ (tbd tv_X12_setHole rfl)
  · replace hr := ite_f c3 hr
    refine G.go tv_X12_setHole 9 16 [(0, .ref (gAd E (56))), (1, .int (a0)), (2, .int (a1))] [.int ((0 : Int32)), .int ((2 : Int32)), .int (((12 : Int32)) + (((2 : Int32)) * (a1))), .int (a0), .ref (gAd E (56))] rfl ?_
    obtain ⟨R89, hv89, hr⟩ := bnd_s hr
    refine G.callV (56) [.int (a0), .int (((12 : Int32)) + (((2 : Int32)) * (a1))), .int ((2 : Int32)), .int ((0 : Int32))] [] (k_X12_setField E _ hE R ⟨_, _, r0⟩ a0 (((12 : Int32)) + (((2 : Int32)) * (a1))) ((2 : Int32)) ((0 : Int32)) R89 hv89) cls_X12 (by omega) (r0.o) cw_X12_332 w_2424 w_87 (Nat.le_of_ble_eq_true rfl) rfl (Nat.le_of_ble_eq_true rfl) (tbd tv_X12_setHole rfl) (fun v89w f89 q89 => ?_) (fun _ _ h => h.elim)
    obtain ⟨rfl, ⟨az89, sy89, r89⟩, fa89⟩ := q89
    refine G.eqs [] rfl ?_
    refine G.go tv_X12_setHole 1 56 [(0, .ref (gAd E (56))), (1, .int (a0)), (2, .int (a1))] [] rfl ?_
    cases hr
    exact G.vret rfl ⟨rfl, ⟨_, _, r89⟩, (Fr.rf.tr fa89 (fun _ h => h))⟩ (tbd tv_X12_setHole rfl)
def tb_X12_freeTold : List (Nat × Instr × Nat) := [(0, .iload_n 2, 1), (1, .istore 4, 2), (3, .iload 4, 2), (5, .bipush 64, 2), (7, .if_icmp .ge 47, 3), (10, .aload_n 0, 1), (11, .iload_n 1, 1), (12, .iconst 2, 1), (13, .iload 4, 2), (15, .imul, 1), (16, .iconst 2, 1), (17, .invokevirtual 295, 3), (20, .istore 5, 2), (22, .iload 5, 2), (24, .ifCond .eq 24, 3), (27, .aload_n 0, 1), (28, .iload 5, 2), (30, .invokevirtual 335, 3), (33, .iload_n 3, 1), (34, .ifCond .eq 14, 3), (37, .aload_n 0, 1), (38, .iload_n 1, 1), (39, .iconst 2, 1), (40, .iload 4, 2), (42, .imul, 1), (43, .iconst 2, 1), (44, .iconst 0, 1), (45, .invokevirtual 299, 3), (48, .iinc 4 1, 3), (51, .goto (-48), 3), (54, .return_, 1)]
theorem tv_X12_freeTold : Tv cX12_freeTold tb_X12_freeTold := by
  unfold Tv
  decide +kernel
theorem w_2402 : Cond.methodLink "LedgerFilesModel" 335 yX12_free ∈ TB := tp_10 96 (by decide +kernel) rfl
theorem w_2405 : Cond.code yX12_free prog_14_method_52_code 3 none ∈ TB := tp_10 99 rfl rfl
theorem cw_X12_335 : Cw RX12 335 yX12_free cX12_free 3 none 1 := ⟨w_2402, w_2405, w_161, by decide +kernel, by decide +kernel, by decide⟩
theorem w_2404 : Cond.instanceMethod yX12_free ∈ TB := tp_10 98 (by decide +kernel) rfl
theorem w_82 : Cond.selects "LedgerFilesModel" yX12_free yX12_free ∈ TB := tp_0 82 (by decide +kernel) rfl
def e_freeTold_3  : Nat → RfT → Int32 → Int32 → Int32 → Option (RfT)
  | 0, _, _, _, _ => none
  | n + 1, R, x1, x3, x4 => if ((64 : Int32)) ≤ x4 then some R else bnd (e_seenNumber R x1 (((2 : Int32)) * (x4)) ((2 : Int32))) (fun v90 => if v90 = 0 then e_freeTold_3  n R x1 x3 (x4 + (1 : Int32)) else bnd (e_free R v90) (fun R91 => if x3 = 0 then e_freeTold_3  n R91 x1 x3 (x4 + (1 : Int32)) else bnd (e_setNumber R91 x1 (((2 : Int32)) * (x4)) ((2 : Int32)) ((0 : Int32))) (fun R92 => e_freeTold_3  n R92 x1 x3 (x4 + (1 : Int32)))))
def e_freeTold  (R : RfT) (a0 : Int32) (a1 : Int32) (a2 : Int32) : Option (RfT) := e_freeTold_3  fuL R a0 a2 a1
set_option maxRecDepth 100000 in
set_option maxHeartbeats 4000000 in
theorem l_X12_freeTold_3 (E : gE) (f0 : Nat → va_E) (sz : Nat) (QA : Nat → Prop) (hE : 94 ≤ gN E) : ∀ (n : Nat), ∀ (R : RfT) (x1 : Int32) (x3 : Int32) (x4 : Int32) (R9 : RfT) (hr : e_freeTold_3  n R x1 x3 x4 = some R9) (f : Nat → va_E) (w : RW E f R) (hf : Fr RfK f0 f), G E (7, yX12_freeTold, 6, none, sz, QA) cX12_freeTold (gO E (7, yX12_freeTold, 6, none, sz, QA) (fun v g => v = none ∧ RW E g R9 ∧ Fr RfK f0 g, fun _ _ => False)) 3 [(0, .ref (gAd E (56))), (1, .int (x1)), (3, .int (x3)), (4, .int (x4))] [] f := by
  intro n
  induction n with
  | zero =>
    intro R x1 x3 x4 R9 hr f w hf
    cases hr
  | succ n ih =>
    intro R x1 x3 x4 R9 hr f w hf
    obtain ⟨az, sy, r0⟩ := w
    unfold e_freeTold_3 at hr
    refine G.go tv_X12_freeTold 2 7 [(0, .ref (gAd E (56))), (1, .int (x1)), (3, .int (x3)), (4, .int (x4))] [.int ((64 : Int32)), .int (x4)] rfl ?_
    refine G.cmp_ge 54 (tbd tv_X12_freeTold rfl) (by decide) (fun c7 => ?_) (fun c7 => ?_)
    · replace hr := ite_t c7 hr
      cases hr
      exact G.vret rfl ⟨rfl, ⟨_, _, r0⟩, hf⟩ (tbd tv_X12_freeTold rfl)
    · replace hr := ite_f c7 hr
      refine G.go tv_X12_freeTold 6 17 [(0, .ref (gAd E (56))), (1, .int (x1)), (3, .int (x3)), (4, .int (x4))] [.int ((2 : Int32)), .int (((2 : Int32)) * (x4)), .int (x1), .ref (gAd E (56))] rfl ?_
      obtain ⟨v90, hv90, hr⟩ := bnd_s hr
      refine G.callV (56) [.int (x1), .int (((2 : Int32)) * (x4)), .int ((2 : Int32))] [] (k_X12_seenNumber E _ hE R ⟨_, _, r0⟩ x1 (((2 : Int32)) * (x4)) ((2 : Int32)) v90 hv90) cls_X12 (by omega) (r0.o) cw_X12_295 w_2380 w_76 (Nat.le_of_ble_eq_true rfl) rfl (Nat.le_of_ble_eq_true rfl) (tbd tv_X12_freeTold rfl) (fun v90w f90 q90 => ?_) (fun _ _ h => h.elim)
      obtain ⟨rfl, ⟨az90, sy90, r90⟩, fa90⟩ := q90
      refine G.eqs [.int (v90)] rfl ?_
      refine G.go tv_X12_freeTold 2 24 [(0, .ref (gAd E (56))), (1, .int (x1)), (3, .int (x3)), (4, .int (x4)), (5, .int (v90))] [.int (v90)] rfl ?_
      refine G.if_eq 48 (tbd tv_X12_freeTold rfl) (by decide) (fun c24 => ?_) (fun c24 => ?_)
      · replace hr := ite_t c24 hr
        refine G.go tv_X12_freeTold 2 3 [(0, .ref (gAd E (56))), (1, .int (x1)), (3, .int (x3)), (4, .int (x4 + (1 : Int32))), (5, .int (v90))] [] rfl ?_
        refine G.less [(0, .ref (gAd E (56))), (1, .int (x1)), (3, .int (x3)), (4, .int (x4 + (1 : Int32)))] [0, 1, 2, 3] rfl ?_
        exact ih _ _ _ _ _ hr _ ⟨_, _, r90⟩ (hf.tr fa90 (fun _ h => h))
      · replace hr := ite_f c24 hr
        refine G.go tv_X12_freeTold 2 30 [(0, .ref (gAd E (56))), (1, .int (x1)), (3, .int (x3)), (4, .int (x4)), (5, .int (v90))] [.int (v90), .ref (gAd E (56))] rfl ?_
        obtain ⟨R91, hv91, hr⟩ := bnd_s hr
        refine G.callV (56) [.int (v90)] [] (k_X12_free E _ hE R ⟨_, _, r90⟩ v90 R91 hv91) cls_X12 (by omega) (r90.o) cw_X12_335 w_2404 w_82 (Nat.le_of_ble_eq_true rfl) rfl (Nat.le_of_ble_eq_true rfl) (tbd tv_X12_freeTold rfl) (fun v91w f91 q91 => ?_) (fun _ _ h => h.elim)
        obtain ⟨rfl, ⟨az91, sy91, r91⟩, fa91⟩ := q91
        refine G.eqs [] rfl ?_
        refine G.go tv_X12_freeTold 1 34 [(0, .ref (gAd E (56))), (1, .int (x1)), (3, .int (x3)), (4, .int (x4)), (5, .int (v90))] [.int (x3)] rfl ?_
        refine G.if_eq 48 (tbd tv_X12_freeTold rfl) (by decide) (fun c34 => ?_) (fun c34 => ?_)
        · replace hr := ite_t c34 hr
          refine G.go tv_X12_freeTold 2 3 [(0, .ref (gAd E (56))), (1, .int (x1)), (3, .int (x3)), (4, .int (x4 + (1 : Int32))), (5, .int (v90))] [] rfl ?_
          refine G.less [(0, .ref (gAd E (56))), (1, .int (x1)), (3, .int (x3)), (4, .int (x4 + (1 : Int32)))] [0, 1, 2, 3] rfl ?_
          exact ih _ _ _ _ _ hr _ ⟨_, _, r91⟩ ((hf.tr fa90 (fun _ h => h)).tr fa91 (fun _ h => h))
        · replace hr := ite_f c34 hr
          refine G.go tv_X12_freeTold 7 45 [(0, .ref (gAd E (56))), (1, .int (x1)), (3, .int (x3)), (4, .int (x4)), (5, .int (v90))] [.int ((0 : Int32)), .int ((2 : Int32)), .int (((2 : Int32)) * (x4)), .int (x1), .ref (gAd E (56))] rfl ?_
          obtain ⟨R92, hv92, hr⟩ := bnd_s hr
          refine G.callV (56) [.int (x1), .int (((2 : Int32)) * (x4)), .int ((2 : Int32)), .int ((0 : Int32))] [] (k_X12_setNumber E _ hE R91 ⟨_, _, r91⟩ x1 (((2 : Int32)) * (x4)) ((2 : Int32)) ((0 : Int32)) R92 hv92) cls_X12 (by omega) (r91.o) cw_X12_299 w_2412 w_84 (Nat.le_of_ble_eq_true rfl) rfl (Nat.le_of_ble_eq_true rfl) (tbd tv_X12_freeTold rfl) (fun v92w f92 q92 => ?_) (fun _ _ h => h.elim)
          obtain ⟨rfl, ⟨az92, sy92, r92⟩, fa92⟩ := q92
          refine G.eqs [] rfl ?_
          refine G.go tv_X12_freeTold 2 3 [(0, .ref (gAd E (56))), (1, .int (x1)), (3, .int (x3)), (4, .int (x4 + (1 : Int32))), (5, .int (v90))] [] rfl ?_
          refine G.less [(0, .ref (gAd E (56))), (1, .int (x1)), (3, .int (x3)), (4, .int (x4 + (1 : Int32)))] [0, 1, 2, 3] rfl ?_
          exact ih _ _ _ _ _ hr _ ⟨_, _, r92⟩ (((hf.tr fa90 (fun _ h => h)).tr fa91 (fun _ h => h)).tr fa92 (fun _ h => h))
set_option maxRecDepth 100000 in
set_option maxHeartbeats 4000000 in
theorem k_X12_freeTold (E : gE) (f : Nat → va_E) (hE : 94 ≤ gN E) (R : RfT) (w : RW E f R) (a0 : Int32) (a1 : Int32) (a2 : Int32) (R9 : RfT) (hr : e_freeTold R a0 a1 a2 = some R9) : Ct E 7 yX12_freeTold cX12_freeTold 6 none [.ref (gAd E (56)), .int (a0), .int (a1), .int (a2)] f (fun v g => v = none ∧ RW E g R9 ∧ Fr RfK f g, fun _ _ => False) := by
  obtain ⟨az, sy, r0⟩ := w
  refine Ct.of (by decide) (Nat.le_of_ble_eq_true rfl) (fun sz => ?_)
  refine G.eql [(0, .ref (gAd E (56))), (1, .int (a0)), (2, .int (a1)), (3, .int (a2))] rfl ?_
  unfold e_freeTold at hr
  refine G.go tv_X12_freeTold 2 3 [(0, .ref (gAd E (56))), (1, .int (a0)), (2, .int (a1)), (3, .int (a2)), (4, .int (a1))] [] rfl ?_
  refine G.less [(0, .ref (gAd E (56))), (1, .int (a0)), (3, .int (a2)), (4, .int (a1))] [0, 1, 3, 4] rfl ?_
  exact l_X12_freeTold_3 E f sz _ hE _ _ _ _ _ _ hr _ ⟨_, _, r0⟩ Fr.rf
def tb_X12_freeFrom : List (Nat × Instr × Nat) := [(0, .iload_n 2, 1), (1, .istore_n 3, 1), (2, .iload_n 3, 1), (3, .bipush 8, 2), (5, .if_icmp .ge 47, 3), (8, .aload_n 0, 1), (9, .iload_n 1, 1), (10, .bipush 12, 2), (12, .iconst 2, 1), (13, .iload_n 3, 1), (14, .imul, 1), (15, .iadd, 1), (16, .iconst 2, 1), (17, .invokevirtual 303, 3), (20, .istore 4, 2), (22, .iload 4, 2), (24, .ifCond .eq 22, 3), (27, .aload_n 0, 1), (28, .iload 4, 2), (30, .invokevirtual 335, 3), (33, .aload_n 0, 1), (34, .iload_n 1, 1), (35, .bipush 12, 2), (37, .iconst 2, 1), (38, .iload_n 3, 1), (39, .imul, 1), (40, .iadd, 1), (41, .iconst 2, 1), (42, .iconst 0, 1), (43, .invokevirtual 332, 3), (46, .iinc 3 1, 3), (49, .goto (-47), 3), (52, .aload_n 0, 1), (53, .iload_n 1, 1), (54, .bipush 28, 2), (56, .iconst 2, 1), (57, .invokevirtual 303, 3), (60, .istore_n 3, 1), (61, .iload_n 3, 1), (62, .ifCond .eq 59, 3), (65, .iload_n 2, 1), (66, .bipush 72, 2), (68, .if_icmp .ge 53, 3), (71, .aload_n 0, 1), (72, .iload_n 3, 1), (73, .iload_n 2, 1), (74, .bipush 8, 2), (76, .if_icmp .gt 7, 3), (79, .iconst 0, 1), (80, .goto 7, 3), (83, .iload_n 2, 1), (84, .bipush 8, 2), (86, .isub, 1), (87, .iload_n 2, 1), (88, .bipush 8, 2), (90, .if_icmp .le 7, 3), (93, .iconst 1, 1), (94, .goto 4, 3), (97, .iconst 0, 1), (98, .invokevirtual 338, 3), (101, .iload_n 2, 1), (102, .bipush 8, 2), (104, .if_icmp .gt 17, 3), (107, .aload_n 0, 1), (108, .iload_n 3, 1), (109, .invokevirtual 335, 3), (112, .aload_n 0, 1), (113, .iload_n 1, 1), (114, .bipush 28, 2), (116, .iconst 2, 1), (117, .iconst 0, 1), (118, .invokevirtual 332, 3), (121, .aload_n 0, 1), (122, .iload_n 1, 1), (123, .bipush 30, 2), (125, .iconst 2, 1), (126, .invokevirtual 303, 3), (129, .istore 4, 2), (131, .iconst 0, 1), (132, .istore 5, 2), (134, .iload 4, 2), (136, .ifCond .eq 114, 3), (139, .iload 5, 2), (141, .bipush 64, 2), (143, .if_icmp .ge 107, 3), (146, .aload_n 0, 1), (147, .iload 4, 2), (149, .iconst 2, 1), (150, .iload 5, 2), (152, .imul, 1), (153, .iconst 2, 1), (154, .invokevirtual 295, 3), (157, .istore 6, 2), (159, .bipush 72, 2), (161, .bipush 64, 2), (163, .iload 5, 2), (165, .imul, 1), (166, .iadd, 1), (167, .istore 7, 2), (169, .iload 6, 2), (171, .ifCond .eq 73, 3), (174, .iload 7, 2), (176, .bipush 64, 2), (178, .iadd, 1), (179, .iload_n 2, 1), (180, .if_icmp .le 64, 3), (183, .aload_n 0, 1), (184, .iload 6, 2), (186, .iload 7, 2), (188, .iload_n 2, 1), (189, .if_icmp .lt 7, 3), (192, .iconst 0, 1), (193, .goto 7, 3), (196, .iload_n 2, 1), (197, .iload 7, 2), (199, .isub, 1), (200, .iload 7, 2), (202, .iload_n 2, 1), (203, .if_icmp .ge 7, 3), (206, .iconst 1, 1), (207, .goto 4, 3), (210, .iconst 0, 1), (211, .invokevirtual 338, 3), (214, .iload 7, 2), (216, .iload_n 2, 1), (217, .if_icmp .lt 27, 3), (220, .aload_n 0, 1), (221, .iload 6, 2), (223, .invokevirtual 335, 3), (226, .iload_n 2, 1), (227, .bipush 72, 2), (229, .if_icmp .le 15, 3), (232, .aload_n 0, 1), (233, .iload 4, 2), (235, .iconst 2, 1), (236, .iload 5, 2), (238, .imul, 1), (239, .iconst 2, 1), (240, .iconst 0, 1), (241, .invokevirtual 299, 3), (244, .iinc 5 1, 3), (247, .goto (-113), 3), (250, .iload 4, 2), (252, .ifCond .eq 24, 3), (255, .iload_n 2, 1), (256, .bipush 72, 2), (258, .if_icmp .gt 18, 3), (261, .aload_n 0, 1), (262, .iload 4, 2), (264, .invokevirtual 335, 3), (267, .aload_n 0, 1), (268, .iload_n 1, 1), (269, .bipush 30, 2), (271, .iconst 2, 1), (272, .iconst 0, 1), (273, .invokevirtual 332, 3), (276, .return_, 1)]
theorem tv_X12_freeFrom : Tv cX12_freeFrom tb_X12_freeFrom := by
  unfold Tv
  decide +kernel
theorem w_2426 : Cond.methodLink "LedgerFilesModel" 338 yX12_freeTold ∈ TB := tp_10 120 (by decide +kernel) rfl
theorem w_2429 : Cond.code yX12_freeTold prog_14_method_56_code 6 none ∈ TB := tp_10 123 rfl rfl
theorem cw_X12_338 : Cw RX12 338 yX12_freeTold cX12_freeTold 6 none 3 := ⟨w_2426, w_2429, w_161, by decide +kernel, by decide +kernel, by decide⟩
theorem w_2428 : Cond.instanceMethod yX12_freeTold ∈ TB := tp_10 122 (by decide +kernel) rfl
theorem w_88 : Cond.selects "LedgerFilesModel" yX12_freeTold yX12_freeTold ∈ TB := tp_0 88 (by decide +kernel) rfl
def e_freeFrom_250  (R : RfT) (x1 : Int32) (x2 : Int32) (x4 : Int32) : Option (RfT) := if x4 = 0 then some R else if ((72 : Int32)) < x2 then some R else bnd (e_free R x4) (fun R109 => bnd (e_setField R109 x1 ((30 : Int32)) ((2 : Int32)) ((0 : Int32))) (fun R110 => some R110))
def e_freeFrom_214  (self134 : RfT → Int32 → Int32 → Int32 → Int32 → Option (RfT)) (R : RfT) (x1 : Int32) (x2 : Int32) (x4 : Int32) (x5 : Int32) (x6 : Int32) (x7 : Int32) : Option (RfT) := if x7 < x2 then self134 R x1 x2 x4 (x5 + (1 : Int32)) else bnd (e_free R x6) (fun R111 => if x2 ≤ ((72 : Int32)) then self134 R111 x1 x2 x4 (x5 + (1 : Int32)) else bnd (e_setNumber R111 x4 (((2 : Int32)) * (x5)) ((2 : Int32)) ((0 : Int32))) (fun R112 => self134 R112 x1 x2 x4 (x5 + (1 : Int32))))
def e_freeFrom_134  : Nat → RfT → Int32 → Int32 → Int32 → Int32 → Option (RfT)
  | 0, _, _, _, _, _ => none
  | n + 1, R, x1, x2, x4, x5 => if x4 = 0 then e_freeFrom_250  R x1 x2 x4 else if ((64 : Int32)) ≤ x5 then e_freeFrom_250  R x1 x2 x4 else bnd (e_seenNumber R x4 (((2 : Int32)) * (x5)) ((2 : Int32))) (fun v104 => if v104 = 0 then e_freeFrom_134  n R x1 x2 x4 (x5 + (1 : Int32)) else if ((((72 : Int32)) + (((64 : Int32)) * (x5))) + ((64 : Int32))) ≤ x2 then e_freeFrom_134  n R x1 x2 x4 (x5 + (1 : Int32)) else if (((72 : Int32)) + (((64 : Int32)) * (x5))) < x2 then if x2 ≤ (((72 : Int32)) + (((64 : Int32)) * (x5))) then bnd (e_freeTold R v104 ((x2) - (((72 : Int32)) + (((64 : Int32)) * (x5)))) ((0 : Int32))) (fun R105 => e_freeFrom_214  (e_freeFrom_134  n) R105 x1 x2 x4 x5 v104 (((72 : Int32)) + (((64 : Int32)) * (x5)))) else bnd (e_freeTold R v104 ((x2) - (((72 : Int32)) + (((64 : Int32)) * (x5)))) ((1 : Int32))) (fun R106 => e_freeFrom_214  (e_freeFrom_134  n) R106 x1 x2 x4 x5 v104 (((72 : Int32)) + (((64 : Int32)) * (x5)))) else if x2 ≤ (((72 : Int32)) + (((64 : Int32)) * (x5))) then bnd (e_freeTold R v104 ((0 : Int32)) ((0 : Int32))) (fun R107 => e_freeFrom_214  (e_freeFrom_134  n) R107 x1 x2 x4 x5 v104 (((72 : Int32)) + (((64 : Int32)) * (x5)))) else bnd (e_freeTold R v104 ((0 : Int32)) ((1 : Int32))) (fun R108 => e_freeFrom_214  (e_freeFrom_134  n) R108 x1 x2 x4 x5 v104 (((72 : Int32)) + (((64 : Int32)) * (x5)))))
def e_freeFrom_121  (R : RfT) (x1 : Int32) (x2 : Int32) : Option (RfT) := bnd (e_field R x1 ((30 : Int32)) ((2 : Int32))) (fun v101 => e_freeFrom_134  fuL R x1 x2 v101 ((0 : Int32)))
def e_freeFrom_101  (R : RfT) (x1 : Int32) (x2 : Int32) (x3 : Int32) : Option (RfT) := if ((8 : Int32)) < x2 then e_freeFrom_121  R x1 x2 else bnd (e_free R x3) (fun R102 => bnd (e_setField R102 x1 ((28 : Int32)) ((2 : Int32)) ((0 : Int32))) (fun R103 => e_freeFrom_121  R103 x1 x2))
def e_freeFrom_2  : Nat → RfT → Int32 → Int32 → Int32 → Option (RfT)
  | 0, _, _, _, _ => none
  | n + 1, R, x1, x2, x3 => if ((8 : Int32)) ≤ x3 then bnd (e_field R x1 ((28 : Int32)) ((2 : Int32))) (fun v93 => if v93 = 0 then e_freeFrom_121  R x1 x2 else if ((72 : Int32)) ≤ x2 then e_freeFrom_121  R x1 x2 else if ((8 : Int32)) < x2 then if x2 ≤ ((8 : Int32)) then bnd (e_freeTold R v93 ((x2) - ((8 : Int32))) ((0 : Int32))) (fun R94 => e_freeFrom_101  R94 x1 x2 v93) else bnd (e_freeTold R v93 ((x2) - ((8 : Int32))) ((1 : Int32))) (fun R95 => e_freeFrom_101  R95 x1 x2 v93) else if x2 ≤ ((8 : Int32)) then bnd (e_freeTold R v93 ((0 : Int32)) ((0 : Int32))) (fun R96 => e_freeFrom_101  R96 x1 x2 v93) else bnd (e_freeTold R v93 ((0 : Int32)) ((1 : Int32))) (fun R97 => e_freeFrom_101  R97 x1 x2 v93)) else bnd (e_field R x1 (((12 : Int32)) + (((2 : Int32)) * (x3))) ((2 : Int32))) (fun v98 => if v98 = 0 then e_freeFrom_2  n R x1 x2 (x3 + (1 : Int32)) else bnd (e_free R v98) (fun R99 => bnd (e_setField R99 x1 (((12 : Int32)) + (((2 : Int32)) * (x3))) ((2 : Int32)) ((0 : Int32))) (fun R100 => e_freeFrom_2  n R100 x1 x2 (x3 + (1 : Int32)))))
def e_freeFrom  (R : RfT) (a0 : Int32) (a1 : Int32) : Option (RfT) := e_freeFrom_2  fuL R a0 a1 a1
set_option maxRecDepth 100000 in
set_option maxHeartbeats 4000000 in
theorem l_X12_freeFrom_250 (E : gE) (f0 : Nat → va_E) (sz : Nat) (QA : Nat → Prop) (hE : 94 ≤ gN E) : ∀ (R : RfT) (x1 : Int32) (x2 : Int32) (x4 : Int32) (R9 : RfT) (hr : e_freeFrom_250  R x1 x2 x4 = some R9) (f : Nat → va_E) (w : RW E f R) (hf : Fr RfK f0 f), G E (8, yX12_freeFrom, 8, none, sz, QA) cX12_freeFrom (gO E (8, yX12_freeFrom, 8, none, sz, QA) (fun v g => v = none ∧ RW E g R9 ∧ Fr RfK f0 g, fun _ _ => False)) 250 [(0, .ref (gAd E (56))), (1, .int (x1)), (2, .int (x2)), (4, .int (x4))] [] f := by
  intro R x1 x2 x4 R9 hr f w hf
  obtain ⟨az, sy, r0⟩ := w
  unfold e_freeFrom_250 at hr
  refine G.go tv_X12_freeFrom 1 252 [(0, .ref (gAd E (56))), (1, .int (x1)), (2, .int (x2)), (4, .int (x4))] [.int (x4)] rfl ?_
  refine G.if_eq 276 (tbd tv_X12_freeFrom rfl) (by decide) (fun c252 => ?_) (fun c252 => ?_)
  · replace hr := ite_t c252 hr
    cases hr
    exact G.vret rfl ⟨rfl, ⟨_, _, r0⟩, hf⟩ (tbd tv_X12_freeFrom rfl)
  · replace hr := ite_f c252 hr
    refine G.go tv_X12_freeFrom 2 258 [(0, .ref (gAd E (56))), (1, .int (x1)), (2, .int (x2)), (4, .int (x4))] [.int ((72 : Int32)), .int (x2)] rfl ?_
    refine G.cmp_gt 276 (tbd tv_X12_freeFrom rfl) (by decide) (fun c258 => ?_) (fun c258 => ?_)
    · replace hr := ite_t c258 hr
      cases hr
      exact G.vret rfl ⟨rfl, ⟨_, _, r0⟩, hf⟩ (tbd tv_X12_freeFrom rfl)
    · replace hr := ite_f c258 hr
      refine G.go tv_X12_freeFrom 2 264 [(0, .ref (gAd E (56))), (1, .int (x1)), (2, .int (x2)), (4, .int (x4))] [.int (x4), .ref (gAd E (56))] rfl ?_
      obtain ⟨R109, hv109, hr⟩ := bnd_s hr
      refine G.callV (56) [.int (x4)] [] (k_X12_free E _ hE R ⟨_, _, r0⟩ x4 R109 hv109) cls_X12 (by omega) (r0.o) cw_X12_335 w_2404 w_82 (Nat.le_of_ble_eq_true rfl) rfl (Nat.le_of_ble_eq_true rfl) (tbd tv_X12_freeFrom rfl) (fun v109w f109 q109 => ?_) (fun _ _ h => h.elim)
      obtain ⟨rfl, ⟨az109, sy109, r109⟩, fa109⟩ := q109
      refine G.eqs [] rfl ?_
      refine G.go tv_X12_freeFrom 5 273 [(0, .ref (gAd E (56))), (1, .int (x1)), (2, .int (x2)), (4, .int (x4))] [.int ((0 : Int32)), .int ((2 : Int32)), .int ((30 : Int32)), .int (x1), .ref (gAd E (56))] rfl ?_
      obtain ⟨R110, hv110, hr⟩ := bnd_s hr
      refine G.callV (56) [.int (x1), .int ((30 : Int32)), .int ((2 : Int32)), .int ((0 : Int32))] [] (k_X12_setField E _ hE R109 ⟨_, _, r109⟩ x1 ((30 : Int32)) ((2 : Int32)) ((0 : Int32)) R110 hv110) cls_X12 (by omega) (r109.o) cw_X12_332 w_2424 w_87 (Nat.le_of_ble_eq_true rfl) rfl (Nat.le_of_ble_eq_true rfl) (tbd tv_X12_freeFrom rfl) (fun v110w f110 q110 => ?_) (fun _ _ h => h.elim)
      obtain ⟨rfl, ⟨az110, sy110, r110⟩, fa110⟩ := q110
      refine G.eqs [] rfl ?_
      cases hr
      exact G.vret rfl ⟨rfl, ⟨_, _, r110⟩, ((hf.tr fa109 (fun _ h => h)).tr fa110 (fun _ h => h))⟩ (tbd tv_X12_freeFrom rfl)
set_option maxRecDepth 100000 in
set_option maxHeartbeats 4000000 in
theorem l_X12_freeFrom_214 (E : gE) (f0 : Nat → va_E) (sz : Nat) (QA : Nat → Prop) (hE : 94 ≤ gN E) (self134 : RfT → Int32 → Int32 → Int32 → Int32 → Option (RfT)) (hs134 : ∀ (R : RfT) (x1 : Int32) (x2 : Int32) (x4 : Int32) (x5 : Int32) (R9 : RfT) (hr : self134 R x1 x2 x4 x5 = some R9) (f : Nat → va_E) (w : RW E f R) (hf : Fr RfK f0 f), G E (8, yX12_freeFrom, 8, none, sz, QA) cX12_freeFrom (gO E (8, yX12_freeFrom, 8, none, sz, QA) (fun v g => v = none ∧ RW E g R9 ∧ Fr RfK f0 g, fun _ _ => False)) 134 [(0, .ref (gAd E (56))), (1, .int (x1)), (2, .int (x2)), (4, .int (x4)), (5, .int (x5))] [] f) : ∀ (R : RfT) (x1 : Int32) (x2 : Int32) (x4 : Int32) (x5 : Int32) (x6 : Int32) (x7 : Int32) (R9 : RfT) (hr : e_freeFrom_214  self134 R x1 x2 x4 x5 x6 x7 = some R9) (f : Nat → va_E) (w : RW E f R) (hf : Fr RfK f0 f), G E (8, yX12_freeFrom, 8, none, sz, QA) cX12_freeFrom (gO E (8, yX12_freeFrom, 8, none, sz, QA) (fun v g => v = none ∧ RW E g R9 ∧ Fr RfK f0 g, fun _ _ => False)) 214 [(0, .ref (gAd E (56))), (1, .int (x1)), (2, .int (x2)), (4, .int (x4)), (5, .int (x5)), (6, .int (x6)), (7, .int (x7))] [] f := by
  intro R x1 x2 x4 x5 x6 x7 R9 hr f w hf
  obtain ⟨az, sy, r0⟩ := w
  unfold e_freeFrom_214 at hr
  refine G.go tv_X12_freeFrom 2 217 [(0, .ref (gAd E (56))), (1, .int (x1)), (2, .int (x2)), (4, .int (x4)), (5, .int (x5)), (6, .int (x6)), (7, .int (x7))] [.int (x2), .int (x7)] rfl ?_
  refine G.cmp_lt 244 (tbd tv_X12_freeFrom rfl) (by decide) (fun c217 => ?_) (fun c217 => ?_)
  · replace hr := ite_t c217 hr
    refine G.go tv_X12_freeFrom 2 134 [(0, .ref (gAd E (56))), (1, .int (x1)), (2, .int (x2)), (4, .int (x4)), (5, .int (x5 + (1 : Int32))), (6, .int (x6)), (7, .int (x7))] [] rfl ?_
    refine G.less [(0, .ref (gAd E (56))), (1, .int (x1)), (2, .int (x2)), (4, .int (x4)), (5, .int (x5 + (1 : Int32)))] [0, 1, 2, 3, 4] rfl ?_
    exact hs134 _ _ _ _ _ _ hr _ ⟨_, _, r0⟩ hf
  · replace hr := ite_f c217 hr
    refine G.go tv_X12_freeFrom 2 223 [(0, .ref (gAd E (56))), (1, .int (x1)), (2, .int (x2)), (4, .int (x4)), (5, .int (x5)), (6, .int (x6)), (7, .int (x7))] [.int (x6), .ref (gAd E (56))] rfl ?_
    obtain ⟨R111, hv111, hr⟩ := bnd_s hr
    refine G.callV (56) [.int (x6)] [] (k_X12_free E _ hE R ⟨_, _, r0⟩ x6 R111 hv111) cls_X12 (by omega) (r0.o) cw_X12_335 w_2404 w_82 (Nat.le_of_ble_eq_true rfl) rfl (Nat.le_of_ble_eq_true rfl) (tbd tv_X12_freeFrom rfl) (fun v111w f111 q111 => ?_) (fun _ _ h => h.elim)
    obtain ⟨rfl, ⟨az111, sy111, r111⟩, fa111⟩ := q111
    refine G.eqs [] rfl ?_
    refine G.go tv_X12_freeFrom 2 229 [(0, .ref (gAd E (56))), (1, .int (x1)), (2, .int (x2)), (4, .int (x4)), (5, .int (x5)), (6, .int (x6)), (7, .int (x7))] [.int ((72 : Int32)), .int (x2)] rfl ?_
    refine G.cmp_le 244 (tbd tv_X12_freeFrom rfl) (by decide) (fun c229 => ?_) (fun c229 => ?_)
    · replace hr := ite_t c229 hr
      refine G.go tv_X12_freeFrom 2 134 [(0, .ref (gAd E (56))), (1, .int (x1)), (2, .int (x2)), (4, .int (x4)), (5, .int (x5 + (1 : Int32))), (6, .int (x6)), (7, .int (x7))] [] rfl ?_
      refine G.less [(0, .ref (gAd E (56))), (1, .int (x1)), (2, .int (x2)), (4, .int (x4)), (5, .int (x5 + (1 : Int32)))] [0, 1, 2, 3, 4] rfl ?_
      exact hs134 _ _ _ _ _ _ hr _ ⟨_, _, r111⟩ (hf.tr fa111 (fun _ h => h))
    · replace hr := ite_f c229 hr
      refine G.go tv_X12_freeFrom 7 241 [(0, .ref (gAd E (56))), (1, .int (x1)), (2, .int (x2)), (4, .int (x4)), (5, .int (x5)), (6, .int (x6)), (7, .int (x7))] [.int ((0 : Int32)), .int ((2 : Int32)), .int (((2 : Int32)) * (x5)), .int (x4), .ref (gAd E (56))] rfl ?_
      obtain ⟨R112, hv112, hr⟩ := bnd_s hr
      refine G.callV (56) [.int (x4), .int (((2 : Int32)) * (x5)), .int ((2 : Int32)), .int ((0 : Int32))] [] (k_X12_setNumber E _ hE R111 ⟨_, _, r111⟩ x4 (((2 : Int32)) * (x5)) ((2 : Int32)) ((0 : Int32)) R112 hv112) cls_X12 (by omega) (r111.o) cw_X12_299 w_2412 w_84 (Nat.le_of_ble_eq_true rfl) rfl (Nat.le_of_ble_eq_true rfl) (tbd tv_X12_freeFrom rfl) (fun v112w f112 q112 => ?_) (fun _ _ h => h.elim)
      obtain ⟨rfl, ⟨az112, sy112, r112⟩, fa112⟩ := q112
      refine G.eqs [] rfl ?_
      refine G.go tv_X12_freeFrom 2 134 [(0, .ref (gAd E (56))), (1, .int (x1)), (2, .int (x2)), (4, .int (x4)), (5, .int (x5 + (1 : Int32))), (6, .int (x6)), (7, .int (x7))] [] rfl ?_
      refine G.less [(0, .ref (gAd E (56))), (1, .int (x1)), (2, .int (x2)), (4, .int (x4)), (5, .int (x5 + (1 : Int32)))] [0, 1, 2, 3, 4] rfl ?_
      exact hs134 _ _ _ _ _ _ hr _ ⟨_, _, r112⟩ ((hf.tr fa111 (fun _ h => h)).tr fa112 (fun _ h => h))
set_option maxRecDepth 100000 in
set_option maxHeartbeats 4000000 in
theorem l_X12_freeFrom_134 (E : gE) (f0 : Nat → va_E) (sz : Nat) (QA : Nat → Prop) (hE : 94 ≤ gN E) : ∀ (n : Nat), ∀ (R : RfT) (x1 : Int32) (x2 : Int32) (x4 : Int32) (x5 : Int32) (R9 : RfT) (hr : e_freeFrom_134  n R x1 x2 x4 x5 = some R9) (f : Nat → va_E) (w : RW E f R) (hf : Fr RfK f0 f), G E (8, yX12_freeFrom, 8, none, sz, QA) cX12_freeFrom (gO E (8, yX12_freeFrom, 8, none, sz, QA) (fun v g => v = none ∧ RW E g R9 ∧ Fr RfK f0 g, fun _ _ => False)) 134 [(0, .ref (gAd E (56))), (1, .int (x1)), (2, .int (x2)), (4, .int (x4)), (5, .int (x5))] [] f := by
  intro n
  induction n with
  | zero =>
    intro R x1 x2 x4 x5 R9 hr f w hf
    cases hr
  | succ n ih =>
    intro R x1 x2 x4 x5 R9 hr f w hf
    obtain ⟨az, sy, r0⟩ := w
    unfold e_freeFrom_134 at hr
    refine G.go tv_X12_freeFrom 1 136 [(0, .ref (gAd E (56))), (1, .int (x1)), (2, .int (x2)), (4, .int (x4)), (5, .int (x5))] [.int (x4)] rfl ?_
    refine G.if_eq 250 (tbd tv_X12_freeFrom rfl) (by decide) (fun c136 => ?_) (fun c136 => ?_)
    · replace hr := ite_t c136 hr
      refine G.less [(0, .ref (gAd E (56))), (1, .int (x1)), (2, .int (x2)), (4, .int (x4))] [0, 1, 2, 3] rfl ?_
      exact l_X12_freeFrom_250 E f0 sz QA hE _ _ _ _ _ hr _ ⟨_, _, r0⟩ hf
    · replace hr := ite_f c136 hr
      refine G.go tv_X12_freeFrom 2 143 [(0, .ref (gAd E (56))), (1, .int (x1)), (2, .int (x2)), (4, .int (x4)), (5, .int (x5))] [.int ((64 : Int32)), .int (x5)] rfl ?_
      refine G.cmp_ge 250 (tbd tv_X12_freeFrom rfl) (by decide) (fun c143 => ?_) (fun c143 => ?_)
      · replace hr := ite_t c143 hr
        refine G.less [(0, .ref (gAd E (56))), (1, .int (x1)), (2, .int (x2)), (4, .int (x4))] [0, 1, 2, 3] rfl ?_
        exact l_X12_freeFrom_250 E f0 sz QA hE _ _ _ _ _ hr _ ⟨_, _, r0⟩ hf
      · replace hr := ite_f c143 hr
        refine G.go tv_X12_freeFrom 6 154 [(0, .ref (gAd E (56))), (1, .int (x1)), (2, .int (x2)), (4, .int (x4)), (5, .int (x5))] [.int ((2 : Int32)), .int (((2 : Int32)) * (x5)), .int (x4), .ref (gAd E (56))] rfl ?_
        obtain ⟨v104, hv104, hr⟩ := bnd_s hr
        refine G.callV (56) [.int (x4), .int (((2 : Int32)) * (x5)), .int ((2 : Int32))] [] (k_X12_seenNumber E _ hE R ⟨_, _, r0⟩ x4 (((2 : Int32)) * (x5)) ((2 : Int32)) v104 hv104) cls_X12 (by omega) (r0.o) cw_X12_295 w_2380 w_76 (Nat.le_of_ble_eq_true rfl) rfl (Nat.le_of_ble_eq_true rfl) (tbd tv_X12_freeFrom rfl) (fun v104w f104 q104 => ?_) (fun _ _ h => h.elim)
        obtain ⟨rfl, ⟨az104, sy104, r104⟩, fa104⟩ := q104
        refine G.eqs [.int (v104)] rfl ?_
        refine G.go tv_X12_freeFrom 8 171 [(0, .ref (gAd E (56))), (1, .int (x1)), (2, .int (x2)), (4, .int (x4)), (5, .int (x5)), (6, .int (v104)), (7, .int (((72 : Int32)) + (((64 : Int32)) * (x5))))] [.int (v104)] rfl ?_
        refine G.if_eq 244 (tbd tv_X12_freeFrom rfl) (by decide) (fun c171 => ?_) (fun c171 => ?_)
        · replace hr := ite_t c171 hr
          refine G.go tv_X12_freeFrom 2 134 [(0, .ref (gAd E (56))), (1, .int (x1)), (2, .int (x2)), (4, .int (x4)), (5, .int (x5 + (1 : Int32))), (6, .int (v104)), (7, .int (((72 : Int32)) + (((64 : Int32)) * (x5))))] [] rfl ?_
          refine G.less [(0, .ref (gAd E (56))), (1, .int (x1)), (2, .int (x2)), (4, .int (x4)), (5, .int (x5 + (1 : Int32)))] [0, 1, 2, 3, 4] rfl ?_
          exact ih _ _ _ _ _ _ hr _ ⟨_, _, r104⟩ (hf.tr fa104 (fun _ h => h))
        · replace hr := ite_f c171 hr
          refine G.go tv_X12_freeFrom 4 180 [(0, .ref (gAd E (56))), (1, .int (x1)), (2, .int (x2)), (4, .int (x4)), (5, .int (x5)), (6, .int (v104)), (7, .int (((72 : Int32)) + (((64 : Int32)) * (x5))))] [.int (x2), .int ((((72 : Int32)) + (((64 : Int32)) * (x5))) + ((64 : Int32)))] rfl ?_
          refine G.cmp_le 244 (tbd tv_X12_freeFrom rfl) (by decide) (fun c180 => ?_) (fun c180 => ?_)
          · replace hr := ite_t c180 hr
            refine G.go tv_X12_freeFrom 2 134 [(0, .ref (gAd E (56))), (1, .int (x1)), (2, .int (x2)), (4, .int (x4)), (5, .int (x5 + (1 : Int32))), (6, .int (v104)), (7, .int (((72 : Int32)) + (((64 : Int32)) * (x5))))] [] rfl ?_
            refine G.less [(0, .ref (gAd E (56))), (1, .int (x1)), (2, .int (x2)), (4, .int (x4)), (5, .int (x5 + (1 : Int32)))] [0, 1, 2, 3, 4] rfl ?_
            exact ih _ _ _ _ _ _ hr _ ⟨_, _, r104⟩ (hf.tr fa104 (fun _ h => h))
          · replace hr := ite_f c180 hr
            refine G.go tv_X12_freeFrom 4 189 [(0, .ref (gAd E (56))), (1, .int (x1)), (2, .int (x2)), (4, .int (x4)), (5, .int (x5)), (6, .int (v104)), (7, .int (((72 : Int32)) + (((64 : Int32)) * (x5))))] [.int (x2), .int (((72 : Int32)) + (((64 : Int32)) * (x5))), .int (v104), .ref (gAd E (56))] rfl ?_
            refine G.cmp_lt 196 (tbd tv_X12_freeFrom rfl) (by decide) (fun c189 => ?_) (fun c189 => ?_)
            · replace hr := ite_t c189 hr
              refine G.go tv_X12_freeFrom 5 203 [(0, .ref (gAd E (56))), (1, .int (x1)), (2, .int (x2)), (4, .int (x4)), (5, .int (x5)), (6, .int (v104)), (7, .int (((72 : Int32)) + (((64 : Int32)) * (x5))))] [.int (x2), .int (((72 : Int32)) + (((64 : Int32)) * (x5))), .int ((x2) - (((72 : Int32)) + (((64 : Int32)) * (x5)))), .int (v104), .ref (gAd E (56))] rfl ?_
              refine G.cmp_ge 210 (tbd tv_X12_freeFrom rfl) (by decide) (fun c203 => ?_) (fun c203 => ?_)
              · replace hr := ite_t c203 hr
                refine G.go tv_X12_freeFrom 1 211 [(0, .ref (gAd E (56))), (1, .int (x1)), (2, .int (x2)), (4, .int (x4)), (5, .int (x5)), (6, .int (v104)), (7, .int (((72 : Int32)) + (((64 : Int32)) * (x5))))] [.int ((0 : Int32)), .int ((x2) - (((72 : Int32)) + (((64 : Int32)) * (x5)))), .int (v104), .ref (gAd E (56))] rfl ?_
                obtain ⟨R105, hv105, hr⟩ := bnd_s hr
                refine G.callV (56) [.int (v104), .int ((x2) - (((72 : Int32)) + (((64 : Int32)) * (x5)))), .int ((0 : Int32))] [] (k_X12_freeTold E _ hE R ⟨_, _, r104⟩ v104 ((x2) - (((72 : Int32)) + (((64 : Int32)) * (x5)))) ((0 : Int32)) R105 hv105) cls_X12 (by omega) (r104.o) cw_X12_338 w_2428 w_88 (Nat.le_of_ble_eq_true rfl) rfl (Nat.le_of_ble_eq_true rfl) (tbd tv_X12_freeFrom rfl) (fun v105w f105 q105 => ?_) (fun _ _ h => h.elim)
                obtain ⟨rfl, ⟨az105, sy105, r105⟩, fa105⟩ := q105
                refine G.eqs [] rfl ?_
                refine G.less [(0, .ref (gAd E (56))), (1, .int (x1)), (2, .int (x2)), (4, .int (x4)), (5, .int (x5)), (6, .int (v104)), (7, .int (((72 : Int32)) + (((64 : Int32)) * (x5))))] [0, 1, 2, 3, 4, 5, 6] rfl ?_
                exact l_X12_freeFrom_214 E f0 sz QA hE _ ih _ _ _ _ _ _ _ _ hr _ ⟨_, _, r105⟩ ((hf.tr fa104 (fun _ h => h)).tr fa105 (fun _ h => h))
              · replace hr := ite_f c203 hr
                refine G.go tv_X12_freeFrom 2 211 [(0, .ref (gAd E (56))), (1, .int (x1)), (2, .int (x2)), (4, .int (x4)), (5, .int (x5)), (6, .int (v104)), (7, .int (((72 : Int32)) + (((64 : Int32)) * (x5))))] [.int ((1 : Int32)), .int ((x2) - (((72 : Int32)) + (((64 : Int32)) * (x5)))), .int (v104), .ref (gAd E (56))] rfl ?_
                obtain ⟨R106, hv106, hr⟩ := bnd_s hr
                refine G.callV (56) [.int (v104), .int ((x2) - (((72 : Int32)) + (((64 : Int32)) * (x5)))), .int ((1 : Int32))] [] (k_X12_freeTold E _ hE R ⟨_, _, r104⟩ v104 ((x2) - (((72 : Int32)) + (((64 : Int32)) * (x5)))) ((1 : Int32)) R106 hv106) cls_X12 (by omega) (r104.o) cw_X12_338 w_2428 w_88 (Nat.le_of_ble_eq_true rfl) rfl (Nat.le_of_ble_eq_true rfl) (tbd tv_X12_freeFrom rfl) (fun v106w f106 q106 => ?_) (fun _ _ h => h.elim)
                obtain ⟨rfl, ⟨az106, sy106, r106⟩, fa106⟩ := q106
                refine G.eqs [] rfl ?_
                refine G.less [(0, .ref (gAd E (56))), (1, .int (x1)), (2, .int (x2)), (4, .int (x4)), (5, .int (x5)), (6, .int (v104)), (7, .int (((72 : Int32)) + (((64 : Int32)) * (x5))))] [0, 1, 2, 3, 4, 5, 6] rfl ?_
                exact l_X12_freeFrom_214 E f0 sz QA hE _ ih _ _ _ _ _ _ _ _ hr _ ⟨_, _, r106⟩ ((hf.tr fa104 (fun _ h => h)).tr fa106 (fun _ h => h))
            · replace hr := ite_f c189 hr
              refine G.go tv_X12_freeFrom 4 203 [(0, .ref (gAd E (56))), (1, .int (x1)), (2, .int (x2)), (4, .int (x4)), (5, .int (x5)), (6, .int (v104)), (7, .int (((72 : Int32)) + (((64 : Int32)) * (x5))))] [.int (x2), .int (((72 : Int32)) + (((64 : Int32)) * (x5))), .int ((0 : Int32)), .int (v104), .ref (gAd E (56))] rfl ?_
              refine G.cmp_ge 210 (tbd tv_X12_freeFrom rfl) (by decide) (fun c203 => ?_) (fun c203 => ?_)
              · replace hr := ite_t c203 hr
                refine G.go tv_X12_freeFrom 1 211 [(0, .ref (gAd E (56))), (1, .int (x1)), (2, .int (x2)), (4, .int (x4)), (5, .int (x5)), (6, .int (v104)), (7, .int (((72 : Int32)) + (((64 : Int32)) * (x5))))] [.int ((0 : Int32)), .int ((0 : Int32)), .int (v104), .ref (gAd E (56))] rfl ?_
                obtain ⟨R107, hv107, hr⟩ := bnd_s hr
                refine G.callV (56) [.int (v104), .int ((0 : Int32)), .int ((0 : Int32))] [] (k_X12_freeTold E _ hE R ⟨_, _, r104⟩ v104 ((0 : Int32)) ((0 : Int32)) R107 hv107) cls_X12 (by omega) (r104.o) cw_X12_338 w_2428 w_88 (Nat.le_of_ble_eq_true rfl) rfl (Nat.le_of_ble_eq_true rfl) (tbd tv_X12_freeFrom rfl) (fun v107w f107 q107 => ?_) (fun _ _ h => h.elim)
                obtain ⟨rfl, ⟨az107, sy107, r107⟩, fa107⟩ := q107
                refine G.eqs [] rfl ?_
                refine G.less [(0, .ref (gAd E (56))), (1, .int (x1)), (2, .int (x2)), (4, .int (x4)), (5, .int (x5)), (6, .int (v104)), (7, .int (((72 : Int32)) + (((64 : Int32)) * (x5))))] [0, 1, 2, 3, 4, 5, 6] rfl ?_
                exact l_X12_freeFrom_214 E f0 sz QA hE _ ih _ _ _ _ _ _ _ _ hr _ ⟨_, _, r107⟩ ((hf.tr fa104 (fun _ h => h)).tr fa107 (fun _ h => h))
              · replace hr := ite_f c203 hr
                refine G.go tv_X12_freeFrom 2 211 [(0, .ref (gAd E (56))), (1, .int (x1)), (2, .int (x2)), (4, .int (x4)), (5, .int (x5)), (6, .int (v104)), (7, .int (((72 : Int32)) + (((64 : Int32)) * (x5))))] [.int ((1 : Int32)), .int ((0 : Int32)), .int (v104), .ref (gAd E (56))] rfl ?_
                obtain ⟨R108, hv108, hr⟩ := bnd_s hr
                refine G.callV (56) [.int (v104), .int ((0 : Int32)), .int ((1 : Int32))] [] (k_X12_freeTold E _ hE R ⟨_, _, r104⟩ v104 ((0 : Int32)) ((1 : Int32)) R108 hv108) cls_X12 (by omega) (r104.o) cw_X12_338 w_2428 w_88 (Nat.le_of_ble_eq_true rfl) rfl (Nat.le_of_ble_eq_true rfl) (tbd tv_X12_freeFrom rfl) (fun v108w f108 q108 => ?_) (fun _ _ h => h.elim)
                obtain ⟨rfl, ⟨az108, sy108, r108⟩, fa108⟩ := q108
                refine G.eqs [] rfl ?_
                refine G.less [(0, .ref (gAd E (56))), (1, .int (x1)), (2, .int (x2)), (4, .int (x4)), (5, .int (x5)), (6, .int (v104)), (7, .int (((72 : Int32)) + (((64 : Int32)) * (x5))))] [0, 1, 2, 3, 4, 5, 6] rfl ?_
                exact l_X12_freeFrom_214 E f0 sz QA hE _ ih _ _ _ _ _ _ _ _ hr _ ⟨_, _, r108⟩ ((hf.tr fa104 (fun _ h => h)).tr fa108 (fun _ h => h))
set_option maxRecDepth 100000 in
set_option maxHeartbeats 4000000 in
theorem l_X12_freeFrom_121 (E : gE) (f0 : Nat → va_E) (sz : Nat) (QA : Nat → Prop) (hE : 94 ≤ gN E) : ∀ (R : RfT) (x1 : Int32) (x2 : Int32) (R9 : RfT) (hr : e_freeFrom_121  R x1 x2 = some R9) (f : Nat → va_E) (w : RW E f R) (hf : Fr RfK f0 f), G E (8, yX12_freeFrom, 8, none, sz, QA) cX12_freeFrom (gO E (8, yX12_freeFrom, 8, none, sz, QA) (fun v g => v = none ∧ RW E g R9 ∧ Fr RfK f0 g, fun _ _ => False)) 121 [(0, .ref (gAd E (56))), (1, .int (x1)), (2, .int (x2))] [] f := by
  intro R x1 x2 R9 hr f w hf
  obtain ⟨az, sy, r0⟩ := w
  unfold e_freeFrom_121 at hr
  refine G.go tv_X12_freeFrom 4 126 [(0, .ref (gAd E (56))), (1, .int (x1)), (2, .int (x2))] [.int ((2 : Int32)), .int ((30 : Int32)), .int (x1), .ref (gAd E (56))] rfl ?_
  obtain ⟨v101, hv101, hr⟩ := bnd_s hr
  refine G.callV (56) [.int (x1), .int ((30 : Int32)), .int ((2 : Int32))] [] (k_X12_field E _ hE R ⟨_, _, r0⟩ x1 ((30 : Int32)) ((2 : Int32)) v101 hv101) cls_X12 (by omega) (r0.o) cw_X12_303 w_2373 w_75 (Nat.le_of_ble_eq_true rfl) rfl (Nat.le_of_ble_eq_true rfl) (tbd tv_X12_freeFrom rfl) (fun v101w f101 q101 => ?_) (fun _ _ h => h.elim)
  obtain ⟨rfl, ⟨az101, sy101, r101⟩, fa101⟩ := q101
  refine G.eqs [.int (v101)] rfl ?_
  refine G.go tv_X12_freeFrom 3 134 [(0, .ref (gAd E (56))), (1, .int (x1)), (2, .int (x2)), (4, .int (v101)), (5, .int ((0 : Int32)))] [] rfl ?_
  refine G.less [(0, .ref (gAd E (56))), (1, .int (x1)), (2, .int (x2)), (4, .int (v101)), (5, .int ((0 : Int32)))] [0, 1, 2, 3, 4] rfl ?_
  exact l_X12_freeFrom_134 E f0 sz QA hE _ _ _ _ _ _ _ hr _ ⟨_, _, r101⟩ (hf.tr fa101 (fun _ h => h))
set_option maxRecDepth 100000 in
set_option maxHeartbeats 4000000 in
theorem l_X12_freeFrom_101 (E : gE) (f0 : Nat → va_E) (sz : Nat) (QA : Nat → Prop) (hE : 94 ≤ gN E) : ∀ (R : RfT) (x1 : Int32) (x2 : Int32) (x3 : Int32) (R9 : RfT) (hr : e_freeFrom_101  R x1 x2 x3 = some R9) (f : Nat → va_E) (w : RW E f R) (hf : Fr RfK f0 f), G E (8, yX12_freeFrom, 8, none, sz, QA) cX12_freeFrom (gO E (8, yX12_freeFrom, 8, none, sz, QA) (fun v g => v = none ∧ RW E g R9 ∧ Fr RfK f0 g, fun _ _ => False)) 101 [(0, .ref (gAd E (56))), (1, .int (x1)), (2, .int (x2)), (3, .int (x3))] [] f := by
  intro R x1 x2 x3 R9 hr f w hf
  obtain ⟨az, sy, r0⟩ := w
  unfold e_freeFrom_101 at hr
  refine G.go tv_X12_freeFrom 2 104 [(0, .ref (gAd E (56))), (1, .int (x1)), (2, .int (x2)), (3, .int (x3))] [.int ((8 : Int32)), .int (x2)] rfl ?_
  refine G.cmp_gt 121 (tbd tv_X12_freeFrom rfl) (by decide) (fun c104 => ?_) (fun c104 => ?_)
  · replace hr := ite_t c104 hr
    refine G.less [(0, .ref (gAd E (56))), (1, .int (x1)), (2, .int (x2))] [0, 1, 2] rfl ?_
    exact l_X12_freeFrom_121 E f0 sz QA hE _ _ _ _ hr _ ⟨_, _, r0⟩ hf
  · replace hr := ite_f c104 hr
    refine G.go tv_X12_freeFrom 2 109 [(0, .ref (gAd E (56))), (1, .int (x1)), (2, .int (x2)), (3, .int (x3))] [.int (x3), .ref (gAd E (56))] rfl ?_
    obtain ⟨R102, hv102, hr⟩ := bnd_s hr
    refine G.callV (56) [.int (x3)] [] (k_X12_free E _ hE R ⟨_, _, r0⟩ x3 R102 hv102) cls_X12 (by omega) (r0.o) cw_X12_335 w_2404 w_82 (Nat.le_of_ble_eq_true rfl) rfl (Nat.le_of_ble_eq_true rfl) (tbd tv_X12_freeFrom rfl) (fun v102w f102 q102 => ?_) (fun _ _ h => h.elim)
    obtain ⟨rfl, ⟨az102, sy102, r102⟩, fa102⟩ := q102
    refine G.eqs [] rfl ?_
    refine G.go tv_X12_freeFrom 5 118 [(0, .ref (gAd E (56))), (1, .int (x1)), (2, .int (x2)), (3, .int (x3))] [.int ((0 : Int32)), .int ((2 : Int32)), .int ((28 : Int32)), .int (x1), .ref (gAd E (56))] rfl ?_
    obtain ⟨R103, hv103, hr⟩ := bnd_s hr
    refine G.callV (56) [.int (x1), .int ((28 : Int32)), .int ((2 : Int32)), .int ((0 : Int32))] [] (k_X12_setField E _ hE R102 ⟨_, _, r102⟩ x1 ((28 : Int32)) ((2 : Int32)) ((0 : Int32)) R103 hv103) cls_X12 (by omega) (r102.o) cw_X12_332 w_2424 w_87 (Nat.le_of_ble_eq_true rfl) rfl (Nat.le_of_ble_eq_true rfl) (tbd tv_X12_freeFrom rfl) (fun v103w f103 q103 => ?_) (fun _ _ h => h.elim)
    obtain ⟨rfl, ⟨az103, sy103, r103⟩, fa103⟩ := q103
    refine G.eqs [] rfl ?_
    refine G.less [(0, .ref (gAd E (56))), (1, .int (x1)), (2, .int (x2))] [0, 1, 2] rfl ?_
    exact l_X12_freeFrom_121 E f0 sz QA hE _ _ _ _ hr _ ⟨_, _, r103⟩ ((hf.tr fa102 (fun _ h => h)).tr fa103 (fun _ h => h))
set_option maxRecDepth 100000 in
set_option maxHeartbeats 4000000 in
theorem l_X12_freeFrom_2 (E : gE) (f0 : Nat → va_E) (sz : Nat) (QA : Nat → Prop) (hE : 94 ≤ gN E) : ∀ (n : Nat), ∀ (R : RfT) (x1 : Int32) (x2 : Int32) (x3 : Int32) (R9 : RfT) (hr : e_freeFrom_2  n R x1 x2 x3 = some R9) (f : Nat → va_E) (w : RW E f R) (hf : Fr RfK f0 f), G E (8, yX12_freeFrom, 8, none, sz, QA) cX12_freeFrom (gO E (8, yX12_freeFrom, 8, none, sz, QA) (fun v g => v = none ∧ RW E g R9 ∧ Fr RfK f0 g, fun _ _ => False)) 2 [(0, .ref (gAd E (56))), (1, .int (x1)), (2, .int (x2)), (3, .int (x3))] [] f := by
  intro n
  induction n with
  | zero =>
    intro R x1 x2 x3 R9 hr f w hf
    cases hr
  | succ n ih =>
    intro R x1 x2 x3 R9 hr f w hf
    obtain ⟨az, sy, r0⟩ := w
    unfold e_freeFrom_2 at hr
    refine G.go tv_X12_freeFrom 2 5 [(0, .ref (gAd E (56))), (1, .int (x1)), (2, .int (x2)), (3, .int (x3))] [.int ((8 : Int32)), .int (x3)] rfl ?_
    refine G.cmp_ge 52 (tbd tv_X12_freeFrom rfl) (by decide) (fun c5 => ?_) (fun c5 => ?_)
    · replace hr := ite_t c5 hr
      refine G.go tv_X12_freeFrom 4 57 [(0, .ref (gAd E (56))), (1, .int (x1)), (2, .int (x2)), (3, .int (x3))] [.int ((2 : Int32)), .int ((28 : Int32)), .int (x1), .ref (gAd E (56))] rfl ?_
      obtain ⟨v93, hv93, hr⟩ := bnd_s hr
      refine G.callV (56) [.int (x1), .int ((28 : Int32)), .int ((2 : Int32))] [] (k_X12_field E _ hE R ⟨_, _, r0⟩ x1 ((28 : Int32)) ((2 : Int32)) v93 hv93) cls_X12 (by omega) (r0.o) cw_X12_303 w_2373 w_75 (Nat.le_of_ble_eq_true rfl) rfl (Nat.le_of_ble_eq_true rfl) (tbd tv_X12_freeFrom rfl) (fun v93w f93 q93 => ?_) (fun _ _ h => h.elim)
      obtain ⟨rfl, ⟨az93, sy93, r93⟩, fa93⟩ := q93
      refine G.eqs [.int (v93)] rfl ?_
      refine G.go tv_X12_freeFrom 2 62 [(0, .ref (gAd E (56))), (1, .int (x1)), (2, .int (x2)), (3, .int (v93))] [.int (v93)] rfl ?_
      refine G.if_eq 121 (tbd tv_X12_freeFrom rfl) (by decide) (fun c62 => ?_) (fun c62 => ?_)
      · replace hr := ite_t c62 hr
        refine G.less [(0, .ref (gAd E (56))), (1, .int (x1)), (2, .int (x2))] [0, 1, 2] rfl ?_
        exact l_X12_freeFrom_121 E f0 sz QA hE _ _ _ _ hr _ ⟨_, _, r93⟩ (hf.tr fa93 (fun _ h => h))
      · replace hr := ite_f c62 hr
        refine G.go tv_X12_freeFrom 2 68 [(0, .ref (gAd E (56))), (1, .int (x1)), (2, .int (x2)), (3, .int (v93))] [.int ((72 : Int32)), .int (x2)] rfl ?_
        refine G.cmp_ge 121 (tbd tv_X12_freeFrom rfl) (by decide) (fun c68 => ?_) (fun c68 => ?_)
        · replace hr := ite_t c68 hr
          refine G.less [(0, .ref (gAd E (56))), (1, .int (x1)), (2, .int (x2))] [0, 1, 2] rfl ?_
          exact l_X12_freeFrom_121 E f0 sz QA hE _ _ _ _ hr _ ⟨_, _, r93⟩ (hf.tr fa93 (fun _ h => h))
        · replace hr := ite_f c68 hr
          refine G.go tv_X12_freeFrom 4 76 [(0, .ref (gAd E (56))), (1, .int (x1)), (2, .int (x2)), (3, .int (v93))] [.int ((8 : Int32)), .int (x2), .int (v93), .ref (gAd E (56))] rfl ?_
          refine G.cmp_gt 83 (tbd tv_X12_freeFrom rfl) (by decide) (fun c76 => ?_) (fun c76 => ?_)
          · replace hr := ite_t c76 hr
            refine G.go tv_X12_freeFrom 5 90 [(0, .ref (gAd E (56))), (1, .int (x1)), (2, .int (x2)), (3, .int (v93))] [.int ((8 : Int32)), .int (x2), .int ((x2) - ((8 : Int32))), .int (v93), .ref (gAd E (56))] rfl ?_
            refine G.cmp_le 97 (tbd tv_X12_freeFrom rfl) (by decide) (fun c90 => ?_) (fun c90 => ?_)
            · replace hr := ite_t c90 hr
              refine G.go tv_X12_freeFrom 1 98 [(0, .ref (gAd E (56))), (1, .int (x1)), (2, .int (x2)), (3, .int (v93))] [.int ((0 : Int32)), .int ((x2) - ((8 : Int32))), .int (v93), .ref (gAd E (56))] rfl ?_
              obtain ⟨R94, hv94, hr⟩ := bnd_s hr
              refine G.callV (56) [.int (v93), .int ((x2) - ((8 : Int32))), .int ((0 : Int32))] [] (k_X12_freeTold E _ hE R ⟨_, _, r93⟩ v93 ((x2) - ((8 : Int32))) ((0 : Int32)) R94 hv94) cls_X12 (by omega) (r93.o) cw_X12_338 w_2428 w_88 (Nat.le_of_ble_eq_true rfl) rfl (Nat.le_of_ble_eq_true rfl) (tbd tv_X12_freeFrom rfl) (fun v94w f94 q94 => ?_) (fun _ _ h => h.elim)
              obtain ⟨rfl, ⟨az94, sy94, r94⟩, fa94⟩ := q94
              refine G.eqs [] rfl ?_
              refine G.less [(0, .ref (gAd E (56))), (1, .int (x1)), (2, .int (x2)), (3, .int (v93))] [0, 1, 2, 3] rfl ?_
              exact l_X12_freeFrom_101 E f0 sz QA hE _ _ _ _ _ hr _ ⟨_, _, r94⟩ ((hf.tr fa93 (fun _ h => h)).tr fa94 (fun _ h => h))
            · replace hr := ite_f c90 hr
              refine G.go tv_X12_freeFrom 2 98 [(0, .ref (gAd E (56))), (1, .int (x1)), (2, .int (x2)), (3, .int (v93))] [.int ((1 : Int32)), .int ((x2) - ((8 : Int32))), .int (v93), .ref (gAd E (56))] rfl ?_
              obtain ⟨R95, hv95, hr⟩ := bnd_s hr
              refine G.callV (56) [.int (v93), .int ((x2) - ((8 : Int32))), .int ((1 : Int32))] [] (k_X12_freeTold E _ hE R ⟨_, _, r93⟩ v93 ((x2) - ((8 : Int32))) ((1 : Int32)) R95 hv95) cls_X12 (by omega) (r93.o) cw_X12_338 w_2428 w_88 (Nat.le_of_ble_eq_true rfl) rfl (Nat.le_of_ble_eq_true rfl) (tbd tv_X12_freeFrom rfl) (fun v95w f95 q95 => ?_) (fun _ _ h => h.elim)
              obtain ⟨rfl, ⟨az95, sy95, r95⟩, fa95⟩ := q95
              refine G.eqs [] rfl ?_
              refine G.less [(0, .ref (gAd E (56))), (1, .int (x1)), (2, .int (x2)), (3, .int (v93))] [0, 1, 2, 3] rfl ?_
              exact l_X12_freeFrom_101 E f0 sz QA hE _ _ _ _ _ hr _ ⟨_, _, r95⟩ ((hf.tr fa93 (fun _ h => h)).tr fa95 (fun _ h => h))
          · replace hr := ite_f c76 hr
            refine G.go tv_X12_freeFrom 4 90 [(0, .ref (gAd E (56))), (1, .int (x1)), (2, .int (x2)), (3, .int (v93))] [.int ((8 : Int32)), .int (x2), .int ((0 : Int32)), .int (v93), .ref (gAd E (56))] rfl ?_
            refine G.cmp_le 97 (tbd tv_X12_freeFrom rfl) (by decide) (fun c90 => ?_) (fun c90 => ?_)
            · replace hr := ite_t c90 hr
              refine G.go tv_X12_freeFrom 1 98 [(0, .ref (gAd E (56))), (1, .int (x1)), (2, .int (x2)), (3, .int (v93))] [.int ((0 : Int32)), .int ((0 : Int32)), .int (v93), .ref (gAd E (56))] rfl ?_
              obtain ⟨R96, hv96, hr⟩ := bnd_s hr
              refine G.callV (56) [.int (v93), .int ((0 : Int32)), .int ((0 : Int32))] [] (k_X12_freeTold E _ hE R ⟨_, _, r93⟩ v93 ((0 : Int32)) ((0 : Int32)) R96 hv96) cls_X12 (by omega) (r93.o) cw_X12_338 w_2428 w_88 (Nat.le_of_ble_eq_true rfl) rfl (Nat.le_of_ble_eq_true rfl) (tbd tv_X12_freeFrom rfl) (fun v96w f96 q96 => ?_) (fun _ _ h => h.elim)
              obtain ⟨rfl, ⟨az96, sy96, r96⟩, fa96⟩ := q96
              refine G.eqs [] rfl ?_
              refine G.less [(0, .ref (gAd E (56))), (1, .int (x1)), (2, .int (x2)), (3, .int (v93))] [0, 1, 2, 3] rfl ?_
              exact l_X12_freeFrom_101 E f0 sz QA hE _ _ _ _ _ hr _ ⟨_, _, r96⟩ ((hf.tr fa93 (fun _ h => h)).tr fa96 (fun _ h => h))
            · replace hr := ite_f c90 hr
              refine G.go tv_X12_freeFrom 2 98 [(0, .ref (gAd E (56))), (1, .int (x1)), (2, .int (x2)), (3, .int (v93))] [.int ((1 : Int32)), .int ((0 : Int32)), .int (v93), .ref (gAd E (56))] rfl ?_
              obtain ⟨R97, hv97, hr⟩ := bnd_s hr
              refine G.callV (56) [.int (v93), .int ((0 : Int32)), .int ((1 : Int32))] [] (k_X12_freeTold E _ hE R ⟨_, _, r93⟩ v93 ((0 : Int32)) ((1 : Int32)) R97 hv97) cls_X12 (by omega) (r93.o) cw_X12_338 w_2428 w_88 (Nat.le_of_ble_eq_true rfl) rfl (Nat.le_of_ble_eq_true rfl) (tbd tv_X12_freeFrom rfl) (fun v97w f97 q97 => ?_) (fun _ _ h => h.elim)
              obtain ⟨rfl, ⟨az97, sy97, r97⟩, fa97⟩ := q97
              refine G.eqs [] rfl ?_
              refine G.less [(0, .ref (gAd E (56))), (1, .int (x1)), (2, .int (x2)), (3, .int (v93))] [0, 1, 2, 3] rfl ?_
              exact l_X12_freeFrom_101 E f0 sz QA hE _ _ _ _ _ hr _ ⟨_, _, r97⟩ ((hf.tr fa93 (fun _ h => h)).tr fa97 (fun _ h => h))
    · replace hr := ite_f c5 hr
      refine G.go tv_X12_freeFrom 8 17 [(0, .ref (gAd E (56))), (1, .int (x1)), (2, .int (x2)), (3, .int (x3))] [.int ((2 : Int32)), .int (((12 : Int32)) + (((2 : Int32)) * (x3))), .int (x1), .ref (gAd E (56))] rfl ?_
      obtain ⟨v98, hv98, hr⟩ := bnd_s hr
      refine G.callV (56) [.int (x1), .int (((12 : Int32)) + (((2 : Int32)) * (x3))), .int ((2 : Int32))] [] (k_X12_field E _ hE R ⟨_, _, r0⟩ x1 (((12 : Int32)) + (((2 : Int32)) * (x3))) ((2 : Int32)) v98 hv98) cls_X12 (by omega) (r0.o) cw_X12_303 w_2373 w_75 (Nat.le_of_ble_eq_true rfl) rfl (Nat.le_of_ble_eq_true rfl) (tbd tv_X12_freeFrom rfl) (fun v98w f98 q98 => ?_) (fun _ _ h => h.elim)
      obtain ⟨rfl, ⟨az98, sy98, r98⟩, fa98⟩ := q98
      refine G.eqs [.int (v98)] rfl ?_
      refine G.go tv_X12_freeFrom 2 24 [(0, .ref (gAd E (56))), (1, .int (x1)), (2, .int (x2)), (3, .int (x3)), (4, .int (v98))] [.int (v98)] rfl ?_
      refine G.if_eq 46 (tbd tv_X12_freeFrom rfl) (by decide) (fun c24 => ?_) (fun c24 => ?_)
      · replace hr := ite_t c24 hr
        refine G.go tv_X12_freeFrom 2 2 [(0, .ref (gAd E (56))), (1, .int (x1)), (2, .int (x2)), (3, .int (x3 + (1 : Int32))), (4, .int (v98))] [] rfl ?_
        refine G.less [(0, .ref (gAd E (56))), (1, .int (x1)), (2, .int (x2)), (3, .int (x3 + (1 : Int32)))] [0, 1, 2, 3] rfl ?_
        exact ih _ _ _ _ _ hr _ ⟨_, _, r98⟩ (hf.tr fa98 (fun _ h => h))
      · replace hr := ite_f c24 hr
        refine G.go tv_X12_freeFrom 2 30 [(0, .ref (gAd E (56))), (1, .int (x1)), (2, .int (x2)), (3, .int (x3)), (4, .int (v98))] [.int (v98), .ref (gAd E (56))] rfl ?_
        obtain ⟨R99, hv99, hr⟩ := bnd_s hr
        refine G.callV (56) [.int (v98)] [] (k_X12_free E _ hE R ⟨_, _, r98⟩ v98 R99 hv99) cls_X12 (by omega) (r98.o) cw_X12_335 w_2404 w_82 (Nat.le_of_ble_eq_true rfl) rfl (Nat.le_of_ble_eq_true rfl) (tbd tv_X12_freeFrom rfl) (fun v99w f99 q99 => ?_) (fun _ _ h => h.elim)
        obtain ⟨rfl, ⟨az99, sy99, r99⟩, fa99⟩ := q99
        refine G.eqs [] rfl ?_
        refine G.go tv_X12_freeFrom 9 43 [(0, .ref (gAd E (56))), (1, .int (x1)), (2, .int (x2)), (3, .int (x3)), (4, .int (v98))] [.int ((0 : Int32)), .int ((2 : Int32)), .int (((12 : Int32)) + (((2 : Int32)) * (x3))), .int (x1), .ref (gAd E (56))] rfl ?_
        obtain ⟨R100, hv100, hr⟩ := bnd_s hr
        refine G.callV (56) [.int (x1), .int (((12 : Int32)) + (((2 : Int32)) * (x3))), .int ((2 : Int32)), .int ((0 : Int32))] [] (k_X12_setField E _ hE R99 ⟨_, _, r99⟩ x1 (((12 : Int32)) + (((2 : Int32)) * (x3))) ((2 : Int32)) ((0 : Int32)) R100 hv100) cls_X12 (by omega) (r99.o) cw_X12_332 w_2424 w_87 (Nat.le_of_ble_eq_true rfl) rfl (Nat.le_of_ble_eq_true rfl) (tbd tv_X12_freeFrom rfl) (fun v100w f100 q100 => ?_) (fun _ _ h => h.elim)
        obtain ⟨rfl, ⟨az100, sy100, r100⟩, fa100⟩ := q100
        refine G.eqs [] rfl ?_
        refine G.go tv_X12_freeFrom 2 2 [(0, .ref (gAd E (56))), (1, .int (x1)), (2, .int (x2)), (3, .int (x3 + (1 : Int32))), (4, .int (v98))] [] rfl ?_
        refine G.less [(0, .ref (gAd E (56))), (1, .int (x1)), (2, .int (x2)), (3, .int (x3 + (1 : Int32)))] [0, 1, 2, 3] rfl ?_
        exact ih _ _ _ _ _ hr _ ⟨_, _, r100⟩ (((hf.tr fa98 (fun _ h => h)).tr fa99 (fun _ h => h)).tr fa100 (fun _ h => h))
set_option maxRecDepth 100000 in
set_option maxHeartbeats 4000000 in
theorem k_X12_freeFrom (E : gE) (f : Nat → va_E) (hE : 94 ≤ gN E) (R : RfT) (w : RW E f R) (a0 : Int32) (a1 : Int32) (R9 : RfT) (hr : e_freeFrom R a0 a1 = some R9) : Ct E 8 yX12_freeFrom cX12_freeFrom 8 none [.ref (gAd E (56)), .int (a0), .int (a1)] f (fun v g => v = none ∧ RW E g R9 ∧ Fr RfK f g, fun _ _ => False) := by
  obtain ⟨az, sy, r0⟩ := w
  refine Ct.of (by decide) (Nat.le_of_ble_eq_true rfl) (fun sz => ?_)
  refine G.eql [(0, .ref (gAd E (56))), (1, .int (a0)), (2, .int (a1))] rfl ?_
  unfold e_freeFrom at hr
  refine G.go tv_X12_freeFrom 2 2 [(0, .ref (gAd E (56))), (1, .int (a0)), (2, .int (a1)), (3, .int (a1))] [] rfl ?_
  refine G.less [(0, .ref (gAd E (56))), (1, .int (a0)), (2, .int (a1)), (3, .int (a1))] [0, 1, 2, 3] rfl ?_
  exact l_X12_freeFrom_2 E f sz _ hE _ _ _ _ _ _ hr _ ⟨_, _, r0⟩ Fr.rf
def tb_X12_removeInode : List (Nat × Instr × Nat) := [(0, .aload_n 0, 1), (1, .iload_n 1, 1), (2, .iconst 0, 1), (3, .invokevirtual 341, 3), (6, .iconst 0, 1), (7, .istore_n 2, 1), (8, .iload_n 2, 1), (9, .bipush 32, 2), (11, .if_icmp .ge 17, 3), (14, .aload_n 0, 1), (15, .iload_n 1, 1), (16, .iload_n 2, 1), (17, .iconst 1, 1), (18, .iconst 0, 1), (19, .invokevirtual 332, 3), (22, .iinc 2 1, 3), (25, .goto (-17), 3), (28, .aload_n 0, 1), (29, .bipush 44, 2), (31, .iload_n 1, 1), (32, .iconst 1, 1), (33, .isub, 1), (34, .iconst 0, 1), (35, .invokevirtual 313, 3), (38, .return_, 1)]
theorem tv_X12_removeInode : Tv cX12_removeInode tb_X12_removeInode := by
  unfold Tv
  decide +kernel
theorem w_2398 : Cond.methodLink "LedgerFilesModel" 341 yX12_freeFrom ∈ TB := tp_10 92 (by decide +kernel) rfl
theorem w_2401 : Cond.code yX12_freeFrom prog_14_method_57_code 8 none ∈ TB := tp_10 95 rfl rfl
theorem cw_X12_341 : Cw RX12 341 yX12_freeFrom cX12_freeFrom 8 none 2 := ⟨w_2398, w_2401, w_161, by decide +kernel, by decide +kernel, by decide⟩
theorem w_2400 : Cond.instanceMethod yX12_freeFrom ∈ TB := tp_10 94 (by decide +kernel) rfl
theorem w_81 : Cond.selects "LedgerFilesModel" yX12_freeFrom yX12_freeFrom ∈ TB := tp_0 81 (by decide +kernel) rfl
def e_removeInode_8  : Nat → RfT → Int32 → Int32 → Option (RfT)
  | 0, _, _, _ => none
  | n + 1, R, x1, x2 => if ((32 : Int32)) ≤ x2 then bnd (e_setBit R ((44 : Int32)) ((x1) - ((1 : Int32))) ((0 : Int32))) (fun R114 => some R114) else bnd (e_setField R x1 x2 ((1 : Int32)) ((0 : Int32))) (fun R115 => e_removeInode_8  n R115 x1 (x2 + (1 : Int32)))
def e_removeInode  (R : RfT) (a0 : Int32) : Option (RfT) := bnd (e_freeFrom R a0 ((0 : Int32))) (fun R113 => e_removeInode_8  fuL R113 a0 ((0 : Int32)))
set_option maxRecDepth 100000 in
set_option maxHeartbeats 4000000 in
theorem l_X12_removeInode_8 (E : gE) (f0 : Nat → va_E) (sz : Nat) (QA : Nat → Prop) (hE : 94 ≤ gN E) : ∀ (n : Nat), ∀ (R : RfT) (x1 : Int32) (x2 : Int32) (R9 : RfT) (hr : e_removeInode_8  n R x1 x2 = some R9) (f : Nat → va_E) (w : RW E f R) (hf : Fr RfK f0 f), G E (9, yX12_removeInode, 3, none, sz, QA) cX12_removeInode (gO E (9, yX12_removeInode, 3, none, sz, QA) (fun v g => v = none ∧ RW E g R9 ∧ Fr RfK f0 g, fun _ _ => False)) 8 [(0, .ref (gAd E (56))), (1, .int (x1)), (2, .int (x2))] [] f := by
  intro n
  induction n with
  | zero =>
    intro R x1 x2 R9 hr f w hf
    cases hr
  | succ n ih =>
    intro R x1 x2 R9 hr f w hf
    obtain ⟨az, sy, r0⟩ := w
    unfold e_removeInode_8 at hr
    refine G.go tv_X12_removeInode 2 11 [(0, .ref (gAd E (56))), (1, .int (x1)), (2, .int (x2))] [.int ((32 : Int32)), .int (x2)] rfl ?_
    refine G.cmp_ge 28 (tbd tv_X12_removeInode rfl) (by decide) (fun c11 => ?_) (fun c11 => ?_)
    · replace hr := ite_t c11 hr
      refine G.go tv_X12_removeInode 6 35 [(0, .ref (gAd E (56))), (1, .int (x1)), (2, .int (x2))] [.int ((0 : Int32)), .int ((x1) - ((1 : Int32))), .int ((44 : Int32)), .ref (gAd E (56))] rfl ?_
      obtain ⟨R114, hv114, hr⟩ := bnd_s hr
      refine G.callV (56) [.int ((44 : Int32)), .int ((x1) - ((1 : Int32))), .int ((0 : Int32))] [] (k_X12_setBit E _ hE R ⟨_, _, r0⟩ ((44 : Int32)) ((x1) - ((1 : Int32))) ((0 : Int32)) R114 hv114) cls_X12 (by omega) (r0.o) cw_X12_313 w_2408 w_83 (Nat.le_of_ble_eq_true rfl) rfl (Nat.le_of_ble_eq_true rfl) (tbd tv_X12_removeInode rfl) (fun v114w f114 q114 => ?_) (fun _ _ h => h.elim)
      obtain ⟨rfl, ⟨az114, sy114, r114⟩, fa114⟩ := q114
      refine G.eqs [] rfl ?_
      cases hr
      exact G.vret rfl ⟨rfl, ⟨_, _, r114⟩, (hf.tr fa114 (fun _ h => h))⟩ (tbd tv_X12_removeInode rfl)
    · replace hr := ite_f c11 hr
      refine G.go tv_X12_removeInode 5 19 [(0, .ref (gAd E (56))), (1, .int (x1)), (2, .int (x2))] [.int ((0 : Int32)), .int ((1 : Int32)), .int (x2), .int (x1), .ref (gAd E (56))] rfl ?_
      obtain ⟨R115, hv115, hr⟩ := bnd_s hr
      refine G.callV (56) [.int (x1), .int (x2), .int ((1 : Int32)), .int ((0 : Int32))] [] (k_X12_setField E _ hE R ⟨_, _, r0⟩ x1 x2 ((1 : Int32)) ((0 : Int32)) R115 hv115) cls_X12 (by omega) (r0.o) cw_X12_332 w_2424 w_87 (Nat.le_of_ble_eq_true rfl) rfl (Nat.le_of_ble_eq_true rfl) (tbd tv_X12_removeInode rfl) (fun v115w f115 q115 => ?_) (fun _ _ h => h.elim)
      obtain ⟨rfl, ⟨az115, sy115, r115⟩, fa115⟩ := q115
      refine G.eqs [] rfl ?_
      refine G.go tv_X12_removeInode 2 8 [(0, .ref (gAd E (56))), (1, .int (x1)), (2, .int (x2 + (1 : Int32)))] [] rfl ?_
      refine G.less [(0, .ref (gAd E (56))), (1, .int (x1)), (2, .int (x2 + (1 : Int32)))] [0, 1, 2] rfl ?_
      exact ih _ _ _ _ hr _ ⟨_, _, r115⟩ (hf.tr fa115 (fun _ h => h))
set_option maxRecDepth 100000 in
set_option maxHeartbeats 4000000 in
theorem k_X12_removeInode (E : gE) (f : Nat → va_E) (hE : 94 ≤ gN E) (R : RfT) (w : RW E f R) (a0 : Int32) (R9 : RfT) (hr : e_removeInode R a0 = some R9) : Ct E 9 yX12_removeInode cX12_removeInode 3 none [.ref (gAd E (56)), .int (a0)] f (fun v g => v = none ∧ RW E g R9 ∧ Fr RfK f g, fun _ _ => False) := by
  obtain ⟨az, sy, r0⟩ := w
  refine Ct.of (by decide) (Nat.le_of_ble_eq_true rfl) (fun sz => ?_)
  refine G.eql [(0, .ref (gAd E (56))), (1, .int (a0))] rfl ?_
  unfold e_removeInode at hr
  refine G.go tv_X12_removeInode 3 3 [(0, .ref (gAd E (56))), (1, .int (a0))] [.int ((0 : Int32)), .int (a0), .ref (gAd E (56))] rfl ?_
  obtain ⟨R113, hv113, hr⟩ := bnd_s hr
  refine G.callV (56) [.int (a0), .int ((0 : Int32))] [] (k_X12_freeFrom E _ hE R ⟨_, _, r0⟩ a0 ((0 : Int32)) R113 hv113) cls_X12 (by omega) (r0.o) cw_X12_341 w_2400 w_81 (Nat.le_of_ble_eq_true rfl) rfl (Nat.le_of_ble_eq_true rfl) (tbd tv_X12_removeInode rfl) (fun v113w f113 q113 => ?_) (fun _ _ h => h.elim)
  obtain ⟨rfl, ⟨az113, sy113, r113⟩, fa113⟩ := q113
  refine G.eqs [] rfl ?_
  refine G.go tv_X12_removeInode 2 8 [(0, .ref (gAd E (56))), (1, .int (a0)), (2, .int ((0 : Int32)))] [] rfl ?_
  refine G.less [(0, .ref (gAd E (56))), (1, .int (a0)), (2, .int ((0 : Int32)))] [0, 1, 2] rfl ?_
  exact l_X12_removeInode_8 E f sz _ hE _ _ _ _ _ hr _ ⟨_, _, r113⟩ (Fr.rf.tr fa113 (fun _ h => h))
def tb_X12_clearSlot : List (Nat × Instr × Nat) := [(0, .aload_n 0, 1), (1, .iload_n 1, 1), (2, .iload_n 2, 1), (3, .bipush 8, 2), (5, .idiv, 1), (6, .invokevirtual 323, 3), (9, .istore_n 3, 1), (10, .iconst 0, 1), (11, .istore 4, 2), (13, .iload 4, 2), (15, .bipush 16, 2), (17, .if_icmp .ge 26, 3), (20, .aload_n 0, 1), (21, .iload_n 3, 1), (22, .bipush 16, 2), (24, .iload_n 2, 1), (25, .bipush 8, 2), (27, .irem, 1), (28, .imul, 1), (29, .iload 4, 2), (31, .iadd, 1), (32, .iconst 1, 1), (33, .iconst 0, 1), (34, .invokevirtual 299, 3), (37, .iinc 4 1, 3), (40, .goto (-27), 3), (43, .return_, 1)]
theorem tv_X12_clearSlot : Tv cX12_clearSlot tb_X12_clearSlot := by
  unfold Tv
  decide +kernel
def e_clearSlot_13  : Nat → RfT → Int32 → Int32 → Int32 → Option (RfT)
  | 0, _, _, _, _ => none
  | n + 1, R, x2, x3, x4 => if ((16 : Int32)) ≤ x4 then some R else bnd (e_setNumber R x3 ((((16 : Int32)) * ((x2) - (x2) / ((8 : Int32)) * ((8 : Int32)))) + (x4)) ((1 : Int32)) ((0 : Int32))) (fun R117 => e_clearSlot_13  n R117 x2 x3 (x4 + (1 : Int32)))
def e_clearSlot  (R : RfT) (a0 : Int32) (a1 : Int32) : Option (RfT) := bnd (e_blockOf R a0 ((a1) / ((8 : Int32)))) (fun v116 => e_clearSlot_13  fuL R a1 v116 ((0 : Int32)))
set_option maxRecDepth 100000 in
set_option maxHeartbeats 4000000 in
theorem l_X12_clearSlot_13 (E : gE) (f0 : Nat → va_E) (sz : Nat) (QA : Nat → Prop) (hE : 94 ≤ gN E) : ∀ (n : Nat), ∀ (R : RfT) (x2 : Int32) (x3 : Int32) (x4 : Int32) (R9 : RfT) (hr : e_clearSlot_13  n R x2 x3 x4 = some R9) (f : Nat → va_E) (w : RW E f R) (hf : Fr RfK f0 f), G E (6, yX12_clearSlot, 5, none, sz, QA) cX12_clearSlot (gO E (6, yX12_clearSlot, 5, none, sz, QA) (fun v g => v = none ∧ RW E g R9 ∧ Fr RfK f0 g, fun _ _ => False)) 13 [(0, .ref (gAd E (56))), (2, .int (x2)), (3, .int (x3)), (4, .int (x4))] [] f := by
  intro n
  induction n with
  | zero =>
    intro R x2 x3 x4 R9 hr f w hf
    cases hr
  | succ n ih =>
    intro R x2 x3 x4 R9 hr f w hf
    obtain ⟨az, sy, r0⟩ := w
    unfold e_clearSlot_13 at hr
    refine G.go tv_X12_clearSlot 2 17 [(0, .ref (gAd E (56))), (2, .int (x2)), (3, .int (x3)), (4, .int (x4))] [.int ((16 : Int32)), .int (x4)] rfl ?_
    refine G.cmp_ge 43 (tbd tv_X12_clearSlot rfl) (by decide) (fun c17 => ?_) (fun c17 => ?_)
    · replace hr := ite_t c17 hr
      cases hr
      exact G.vret rfl ⟨rfl, ⟨_, _, r0⟩, hf⟩ (tbd tv_X12_clearSlot rfl)
    · replace hr := ite_f c17 hr
      refine G.go tv_X12_clearSlot 5 27 [(0, .ref (gAd E (56))), (2, .int (x2)), (3, .int (x3)), (4, .int (x4))] [.int ((8 : Int32)), .int (x2), .int ((16 : Int32)), .int (x3), .ref (gAd E (56))] rfl ?_
      refine G.irem (by decide) (tbd tv_X12_clearSlot rfl) ?_
      refine G.go tv_X12_clearSlot 5 34 [(0, .ref (gAd E (56))), (2, .int (x2)), (3, .int (x3)), (4, .int (x4))] [.int ((0 : Int32)), .int ((1 : Int32)), .int ((((16 : Int32)) * ((x2) - (x2) / ((8 : Int32)) * ((8 : Int32)))) + (x4)), .int (x3), .ref (gAd E (56))] rfl ?_
      obtain ⟨R117, hv117, hr⟩ := bnd_s hr
      refine G.callV (56) [.int (x3), .int ((((16 : Int32)) * ((x2) - (x2) / ((8 : Int32)) * ((8 : Int32)))) + (x4)), .int ((1 : Int32)), .int ((0 : Int32))] [] (k_X12_setNumber E _ hE R ⟨_, _, r0⟩ x3 ((((16 : Int32)) * ((x2) - (x2) / ((8 : Int32)) * ((8 : Int32)))) + (x4)) ((1 : Int32)) ((0 : Int32)) R117 hv117) cls_X12 (by omega) (r0.o) cw_X12_299 w_2412 w_84 (Nat.le_of_ble_eq_true rfl) rfl (Nat.le_of_ble_eq_true rfl) (tbd tv_X12_clearSlot rfl) (fun v117w f117 q117 => ?_) (fun _ _ h => h.elim)
      obtain ⟨rfl, ⟨az117, sy117, r117⟩, fa117⟩ := q117
      refine G.eqs [] rfl ?_
      refine G.go tv_X12_clearSlot 2 13 [(0, .ref (gAd E (56))), (2, .int (x2)), (3, .int (x3)), (4, .int (x4 + (1 : Int32)))] [] rfl ?_
      refine G.less [(0, .ref (gAd E (56))), (2, .int (x2)), (3, .int (x3)), (4, .int (x4 + (1 : Int32)))] [0, 1, 2, 3] rfl ?_
      exact ih _ _ _ _ _ hr _ ⟨_, _, r117⟩ (hf.tr fa117 (fun _ h => h))
set_option maxRecDepth 100000 in
set_option maxHeartbeats 4000000 in
theorem k_X12_clearSlot (E : gE) (f : Nat → va_E) (hE : 94 ≤ gN E) (R : RfT) (w : RW E f R) (a0 : Int32) (a1 : Int32) (R9 : RfT) (hr : e_clearSlot R a0 a1 = some R9) : Ct E 6 yX12_clearSlot cX12_clearSlot 5 none [.ref (gAd E (56)), .int (a0), .int (a1)] f (fun v g => v = none ∧ RW E g R9 ∧ Fr RfK f g, fun _ _ => False) := by
  obtain ⟨az, sy, r0⟩ := w
  refine Ct.of (by decide) (Nat.le_of_ble_eq_true rfl) (fun sz => ?_)
  refine G.eql [(0, .ref (gAd E (56))), (1, .int (a0)), (2, .int (a1))] rfl ?_
  unfold e_clearSlot at hr
  refine G.go tv_X12_clearSlot 4 5 [(0, .ref (gAd E (56))), (1, .int (a0)), (2, .int (a1))] [.int ((8 : Int32)), .int (a1), .int (a0), .ref (gAd E (56))] rfl ?_
  refine G.idiv (by decide) (tbd tv_X12_clearSlot rfl) ?_
  obtain ⟨v116, hv116, hr⟩ := bnd_s hr
  refine G.callV (56) [.int (a0), .int ((a1) / ((8 : Int32)))] [] (k_X12_blockOf E _ hE R ⟨_, _, r0⟩ a0 ((a1) / ((8 : Int32))) v116 hv116) cls_X12 (by omega) (r0.o) cw_X12_323 w_2507 w_105 (Nat.le_of_ble_eq_true rfl) rfl (Nat.le_of_ble_eq_true rfl) (tbd tv_X12_clearSlot rfl) (fun v116w f116 q116 => ?_) (fun _ _ h => h.elim)
  obtain ⟨rfl, ⟨az116, sy116, r116⟩, fa116⟩ := q116
  refine G.eqs [.int (v116)] rfl ?_
  refine G.go tv_X12_clearSlot 3 13 [(0, .ref (gAd E (56))), (1, .int (a0)), (2, .int (a1)), (3, .int (v116)), (4, .int ((0 : Int32)))] [] rfl ?_
  refine G.less [(0, .ref (gAd E (56))), (2, .int (a1)), (3, .int (v116)), (4, .int ((0 : Int32)))] [0, 2, 3, 4] rfl ?_
  exact l_X12_clearSlot_13 E f sz _ hE _ _ _ _ _ _ hr _ ⟨_, _, r116⟩ (Fr.rf.tr fa116 (fun _ h => h))
def tb_X12_lose : List (Nat × Instr × Nat) := [(0, .aload_n 0, 1), (1, .iload_n 1, 1), (2, .iconst 1, 1), (3, .iconst 1, 1), (4, .invokevirtual 303, 3), (7, .iconst 1, 1), (8, .isub, 1), (9, .istore_n 2, 1), (10, .aload_n 0, 1), (11, .iload_n 1, 1), (12, .iconst 1, 1), (13, .iconst 1, 1), (14, .iload_n 2, 1), (15, .invokevirtual 332, 3), (18, .iload_n 2, 1), (19, .ifCond .ne 16, 3), (22, .aload_n 0, 1), (23, .iload_n 1, 1), (24, .invokevirtual 373, 3), (27, .ifCond .ne 8, 3), (30, .aload_n 0, 1), (31, .iload_n 1, 1), (32, .invokevirtual 376, 3), (35, .return_, 1)]
theorem tv_X12_lose : Tv cX12_lose tb_X12_lose := by
  unfold Tv
  decide +kernel
theorem w_2386 : Cond.methodLink "LedgerFilesModel" 373 yX12_isHeld ∈ TB := tp_10 80 (by decide +kernel) rfl
theorem w_2389 : Cond.code yX12_isHeld prog_14_method_70_code 2 (some .boolean) ∈ TB := tp_10 83 rfl rfl
theorem cw_X12_373 : Cw RX12 373 yX12_isHeld cX12_isHeld 2 (some .boolean) 1 := ⟨w_2386, w_2389, w_161, by decide +kernel, by decide +kernel, by decide⟩
theorem w_2388 : Cond.instanceMethod yX12_isHeld ∈ TB := tp_10 82 (by decide +kernel) rfl
theorem w_78 : Cond.selects "LedgerFilesModel" yX12_isHeld yX12_isHeld ∈ TB := tp_0 78 (by decide +kernel) rfl
theorem w_2394 : Cond.methodLink "LedgerFilesModel" 376 yX12_removeInode ∈ TB := tp_10 88 (by decide +kernel) rfl
theorem w_2397 : Cond.code yX12_removeInode prog_14_method_58_code 3 none ∈ TB := tp_10 91 rfl rfl
theorem cw_X12_376 : Cw RX12 376 yX12_removeInode cX12_removeInode 3 none 1 := ⟨w_2394, w_2397, w_161, by decide +kernel, by decide +kernel, by decide⟩
theorem w_2396 : Cond.instanceMethod yX12_removeInode ∈ TB := tp_10 90 (by decide +kernel) rfl
theorem w_80 : Cond.selects "LedgerFilesModel" yX12_removeInode yX12_removeInode ∈ TB := tp_0 80 (by decide +kernel) rfl
def e_lose  (R : RfT) (a0 : Int32) : Option (RfT) := bnd (e_field R a0 ((1 : Int32)) ((1 : Int32))) (fun v118 => bnd (e_setField R a0 ((1 : Int32)) ((1 : Int32)) ((v118) - ((1 : Int32)))) (fun R119 => if ((v118) - ((1 : Int32))) = 0 then bnd (e_isHeld R119 a0) (fun v120 => if v120 = 0 then bnd (e_removeInode R119 a0) (fun R121 => some R121) else some R119) else some R119))
set_option maxRecDepth 100000 in
set_option maxHeartbeats 4000000 in
theorem k_X12_lose (E : gE) (f : Nat → va_E) (hE : 94 ≤ gN E) (R : RfT) (w : RW E f R) (a0 : Int32) (R9 : RfT) (hr : e_lose R a0 = some R9) : Ct E 10 yX12_lose cX12_lose 3 none [.ref (gAd E (56)), .int (a0)] f (fun v g => v = none ∧ RW E g R9 ∧ Fr RfK f g, fun _ _ => False) := by
  obtain ⟨az, sy, r0⟩ := w
  refine Ct.of (by decide) (Nat.le_of_ble_eq_true rfl) (fun sz => ?_)
  refine G.eql [(0, .ref (gAd E (56))), (1, .int (a0))] rfl ?_
  unfold e_lose at hr
  refine G.go tv_X12_lose 4 4 [(0, .ref (gAd E (56))), (1, .int (a0))] [.int ((1 : Int32)), .int ((1 : Int32)), .int (a0), .ref (gAd E (56))] rfl ?_
  obtain ⟨v118, hv118, hr⟩ := bnd_s hr
  refine G.callV (56) [.int (a0), .int ((1 : Int32)), .int ((1 : Int32))] [] (k_X12_field E _ hE R ⟨_, _, r0⟩ a0 ((1 : Int32)) ((1 : Int32)) v118 hv118) cls_X12 (by omega) (r0.o) cw_X12_303 w_2373 w_75 (Nat.le_of_ble_eq_true rfl) rfl (Nat.le_of_ble_eq_true rfl) (tbd tv_X12_lose rfl) (fun v118w f118 q118 => ?_) (fun _ _ h => h.elim)
  obtain ⟨rfl, ⟨az118, sy118, r118⟩, fa118⟩ := q118
  refine G.eqs [.int (v118)] rfl ?_
  refine G.go tv_X12_lose 8 15 [(0, .ref (gAd E (56))), (1, .int (a0)), (2, .int ((v118) - ((1 : Int32))))] [.int ((v118) - ((1 : Int32))), .int ((1 : Int32)), .int ((1 : Int32)), .int (a0), .ref (gAd E (56))] rfl ?_
  obtain ⟨R119, hv119, hr⟩ := bnd_s hr
  refine G.callV (56) [.int (a0), .int ((1 : Int32)), .int ((1 : Int32)), .int ((v118) - ((1 : Int32)))] [] (k_X12_setField E _ hE R ⟨_, _, r118⟩ a0 ((1 : Int32)) ((1 : Int32)) ((v118) - ((1 : Int32))) R119 hv119) cls_X12 (by omega) (r118.o) cw_X12_332 w_2424 w_87 (Nat.le_of_ble_eq_true rfl) rfl (Nat.le_of_ble_eq_true rfl) (tbd tv_X12_lose rfl) (fun v119w f119 q119 => ?_) (fun _ _ h => h.elim)
  obtain ⟨rfl, ⟨az119, sy119, r119⟩, fa119⟩ := q119
  refine G.eqs [] rfl ?_
  refine G.go tv_X12_lose 1 19 [(0, .ref (gAd E (56))), (1, .int (a0)), (2, .int ((v118) - ((1 : Int32))))] [.int ((v118) - ((1 : Int32)))] rfl ?_
  refine G.if_ne 35 (tbd tv_X12_lose rfl) (by decide) (fun c19 => ?_) (fun c19 => ?_)
  · replace hr := ite_f c19 hr
    cases hr
    exact G.vret rfl ⟨rfl, ⟨_, _, r119⟩, ((Fr.rf.tr fa118 (fun _ h => h)).tr fa119 (fun _ h => h))⟩ (tbd tv_X12_lose rfl)
  · replace hr := ite_t c19 hr
    refine G.go tv_X12_lose 2 24 [(0, .ref (gAd E (56))), (1, .int (a0)), (2, .int ((v118) - ((1 : Int32))))] [.int (a0), .ref (gAd E (56))] rfl ?_
    obtain ⟨v120, hv120, hr⟩ := bnd_s hr
    refine G.callV (56) [.int (a0)] [] (k_X12_isHeld E _ hE R119 ⟨_, _, r119⟩ a0 v120 hv120) cls_X12 (by omega) (r119.o) cw_X12_373 w_2388 w_78 (Nat.le_of_ble_eq_true rfl) rfl (Nat.le_of_ble_eq_true rfl) (tbd tv_X12_lose rfl) (fun v120w f120 q120 => ?_) (fun _ _ h => h.elim)
    obtain ⟨rfl, ⟨az120, sy120, r120⟩, fa120⟩ := q120
    refine G.eqs [.int (v120)] rfl ?_
    refine G.if_ne 35 (tbd tv_X12_lose rfl) (by decide) (fun c27 => ?_) (fun c27 => ?_)
    · replace hr := ite_f c27 hr
      cases hr
      exact G.vret rfl ⟨rfl, ⟨_, _, r120⟩, (((Fr.rf.tr fa118 (fun _ h => h)).tr fa119 (fun _ h => h)).tr fa120 (fun _ h => h))⟩ (tbd tv_X12_lose rfl)
    · replace hr := ite_t c27 hr
      refine G.go tv_X12_lose 2 32 [(0, .ref (gAd E (56))), (1, .int (a0)), (2, .int ((v118) - ((1 : Int32))))] [.int (a0), .ref (gAd E (56))] rfl ?_
      obtain ⟨R121, hv121, hr⟩ := bnd_s hr
      refine G.callV (56) [.int (a0)] [] (k_X12_removeInode E _ hE R119 ⟨_, _, r120⟩ a0 R121 hv121) cls_X12 (by omega) (r120.o) cw_X12_376 w_2396 w_80 (Nat.le_of_ble_eq_true rfl) rfl (Nat.le_of_ble_eq_true rfl) (tbd tv_X12_lose rfl) (fun v121w f121 q121 => ?_) (fun _ _ h => h.elim)
      obtain ⟨rfl, ⟨az121, sy121, r121⟩, fa121⟩ := q121
      refine G.eqs [] rfl ?_
      cases hr
      exact G.vret rfl ⟨rfl, ⟨_, _, r121⟩, ((((Fr.rf.tr fa118 (fun _ h => h)).tr fa119 (fun _ h => h)).tr fa120 (fun _ h => h)).tr fa121 (fun _ h => h))⟩ (tbd tv_X12_lose rfl)
def tb_X12_loseSlot : List (Nat × Instr × Nat) := [(0, .aload_n 0, 1), (1, .iload_n 1, 1), (2, .iload_n 2, 1), (3, .iconst 0, 1), (4, .iconst 2, 1), (5, .invokevirtual 347, 3), (8, .istore_n 3, 1), (9, .aload_n 0, 1), (10, .iload_n 1, 1), (11, .iload_n 2, 1), (12, .invokevirtual 442, 3), (15, .aload_n 0, 1), (16, .iload_n 3, 1), (17, .invokevirtual 445, 3), (20, .return_, 1)]
theorem tv_X12_loseSlot : Tv cX12_loseSlot tb_X12_loseSlot := by
  unfold Tv
  decide +kernel
theorem w_2573 : Cond.methodLink "LedgerFilesModel" 442 yX12_clearSlot ∈ TB := tp_11 27 (by decide +kernel) rfl
theorem w_2576 : Cond.code yX12_clearSlot prog_14_method_63_code 5 none ∈ TB := tp_11 30 rfl rfl
theorem cw_X12_442 : Cw RX12 442 yX12_clearSlot cX12_clearSlot 5 none 2 := ⟨w_2573, w_2576, w_161, by decide +kernel, by decide +kernel, by decide⟩
theorem w_2575 : Cond.instanceMethod yX12_clearSlot ∈ TB := tp_11 29 (by decide +kernel) rfl
theorem w_121 : Cond.selects "LedgerFilesModel" yX12_clearSlot yX12_clearSlot ∈ TB := tp_0 121 (by decide +kernel) rfl
theorem w_2577 : Cond.methodLink "LedgerFilesModel" 445 yX12_lose ∈ TB := tp_11 31 (by decide +kernel) rfl
theorem w_2580 : Cond.code yX12_lose prog_14_method_75_code 3 none ∈ TB := tp_11 34 rfl rfl
theorem cw_X12_445 : Cw RX12 445 yX12_lose cX12_lose 3 none 1 := ⟨w_2577, w_2580, w_161, by decide +kernel, by decide +kernel, by decide⟩
theorem w_2579 : Cond.instanceMethod yX12_lose ∈ TB := tp_11 33 (by decide +kernel) rfl
theorem w_122 : Cond.selects "LedgerFilesModel" yX12_lose yX12_lose ∈ TB := tp_0 122 (by decide +kernel) rfl
def e_loseSlot  (R : RfT) (a0 : Int32) (a1 : Int32) : Option (RfT) := bnd (e_slotNumber R a0 a1 ((0 : Int32)) ((2 : Int32))) (fun v122 => bnd (e_clearSlot R a0 a1) (fun R123 => bnd (e_lose R123 v122) (fun R124 => some R124)))
set_option maxRecDepth 100000 in
set_option maxHeartbeats 4000000 in
theorem k_X12_loseSlot (E : gE) (f : Nat → va_E) (hE : 94 ≤ gN E) (R : RfT) (w : RW E f R) (a0 : Int32) (a1 : Int32) (R9 : RfT) (hr : e_loseSlot R a0 a1 = some R9) : Ct E 11 yX12_loseSlot cX12_loseSlot 4 none [.ref (gAd E (56)), .int (a0), .int (a1)] f (fun v g => v = none ∧ RW E g R9 ∧ Fr RfK f g, fun _ _ => False) := by
  obtain ⟨az, sy, r0⟩ := w
  refine Ct.of (by decide) (Nat.le_of_ble_eq_true rfl) (fun sz => ?_)
  refine G.eql [(0, .ref (gAd E (56))), (1, .int (a0)), (2, .int (a1))] rfl ?_
  unfold e_loseSlot at hr
  refine G.go tv_X12_loseSlot 5 5 [(0, .ref (gAd E (56))), (1, .int (a0)), (2, .int (a1))] [.int ((2 : Int32)), .int ((0 : Int32)), .int (a1), .int (a0), .ref (gAd E (56))] rfl ?_
  obtain ⟨v122, hv122, hr⟩ := bnd_s hr
  refine G.callV (56) [.int (a0), .int (a1), .int ((0 : Int32)), .int ((2 : Int32))] [] (k_X12_slotNumber E _ hE R ⟨_, _, r0⟩ a0 a1 ((0 : Int32)) ((2 : Int32)) v122 hv122) cls_X12 (by omega) (r0.o) cw_X12_347 w_2515 w_107 (Nat.le_of_ble_eq_true rfl) rfl (Nat.le_of_ble_eq_true rfl) (tbd tv_X12_loseSlot rfl) (fun v122w f122 q122 => ?_) (fun _ _ h => h.elim)
  obtain ⟨rfl, ⟨az122, sy122, r122⟩, fa122⟩ := q122
  refine G.eqs [.int (v122)] rfl ?_
  refine G.go tv_X12_loseSlot 4 12 [(0, .ref (gAd E (56))), (1, .int (a0)), (2, .int (a1)), (3, .int (v122))] [.int (a1), .int (a0), .ref (gAd E (56))] rfl ?_
  obtain ⟨R123, hv123, hr⟩ := bnd_s hr
  refine G.callV (56) [.int (a0), .int (a1)] [] (k_X12_clearSlot E _ hE R ⟨_, _, r122⟩ a0 a1 R123 hv123) cls_X12 (by omega) (r122.o) cw_X12_442 w_2575 w_121 (Nat.le_of_ble_eq_true rfl) rfl (Nat.le_of_ble_eq_true rfl) (tbd tv_X12_loseSlot rfl) (fun v123w f123 q123 => ?_) (fun _ _ h => h.elim)
  obtain ⟨rfl, ⟨az123, sy123, r123⟩, fa123⟩ := q123
  refine G.eqs [] rfl ?_
  refine G.go tv_X12_loseSlot 2 17 [(0, .ref (gAd E (56))), (1, .int (a0)), (2, .int (a1)), (3, .int (v122))] [.int (v122), .ref (gAd E (56))] rfl ?_
  obtain ⟨R124, hv124, hr⟩ := bnd_s hr
  refine G.callV (56) [.int (v122)] [] (k_X12_lose E _ hE R123 ⟨_, _, r123⟩ v122 R124 hv124) cls_X12 (by omega) (r123.o) cw_X12_445 w_2579 w_122 (Nat.le_of_ble_eq_true rfl) rfl (Nat.le_of_ble_eq_true rfl) (tbd tv_X12_loseSlot rfl) (fun v124w f124 q124 => ?_) (fun _ _ h => h.elim)
  obtain ⟨rfl, ⟨az124, sy124, r124⟩, fa124⟩ := q124
  refine G.eqs [] rfl ?_
  cases hr
  exact G.vret rfl ⟨rfl, ⟨_, _, r124⟩, (((Fr.rf.tr fa122 (fun _ h => h)).tr fa123 (fun _ h => h)).tr fa124 (fun _ h => h))⟩ (tbd tv_X12_loseSlot rfl)
def tb_X12_clearBelow : List (Nat × Instr × Nat) := [(0, .iconst 0, 1), (1, .istore_n 2, 1), (2, .iconst 0, 1), (3, .istore_n 3, 1), (4, .aload_n 0, 1), (5, .getfield 122, 3), (8, .iconst 0, 1), (9, .iload_n 1, 1), (10, .iastore, 1), (11, .aload_n 0, 1), (12, .getfield 125, 3), (15, .iconst 0, 1), (16, .iconst 0, 1), (17, .iastore, 1), (18, .iload_n 2, 1), (19, .ifCond .lt 170, 3), (22, .aload_n 0, 1), (23, .getfield 122, 3), (26, .iload_n 2, 1), (27, .iaload, 1), (28, .istore 4, 2), (30, .aload_n 0, 1), (31, .getfield 125, 3), (34, .iload_n 2, 1), (35, .iaload, 1), (36, .istore 5, 2), (38, .bipush 16, 2), (40, .iload 5, 2), (42, .imul, 1), (43, .aload_n 0, 1), (44, .iload 4, 2), (46, .invokevirtual 344, 3), (49, .if_icmp .lt 7, 3), (52, .iconst 1, 1), (53, .goto 4, 3), (56, .iconst 0, 1), (57, .istore 6, 2), (59, .iload 6, 2), (61, .ifCond .eq 7, 3), (64, .iconst 0, 1), (65, .goto 13, 3), (68, .aload_n 0, 1), (69, .iload 4, 2), (71, .iload 5, 2), (73, .iconst 0, 1), (74, .iconst 2, 1), (75, .invokevirtual 347, 3), (78, .istore 7, 2), (80, .iload 6, 2), (82, .ifCond .eq 42, 3), (85, .iinc 2 (-1), 3), (88, .iload_n 2, 1), (89, .ifCond .lt 97, 3), (92, .aload_n 0, 1), (93, .aload_n 0, 1), (94, .getfield 122, 3), (97, .iload_n 2, 1), (98, .iaload, 1), (99, .aload_n 0, 1), (100, .getfield 125, 3), (103, .iload_n 2, 1), (104, .iaload, 1), (105, .invokevirtual 457, 3), (108, .iinc 3 1, 3), (111, .aload_n 0, 1), (112, .getfield 125, 3), (115, .iload_n 2, 1), (116, .dup2, 1), (117, .iaload, 1), (118, .iconst 1, 1), (119, .iadd, 1), (120, .iastore, 1), (121, .goto 65, 3), (124, .iload 7, 2), (126, .ifCond .eq 34, 3), (129, .aload_n 0, 1), (130, .iload 7, 2), (132, .invokevirtual 326, 3), (135, .iconst 2, 1), (136, .if_icmp .ne 24, 3), (139, .iinc 2 1, 3), (142, .aload_n 0, 1), (143, .getfield 122, 3), (146, .iload_n 2, 1), (147, .iload 7, 2), (149, .iastore, 1), (150, .aload_n 0, 1), (151, .getfield 125, 3), (154, .iload_n 2, 1), (155, .iconst 0, 1), (156, .iastore, 1), (157, .goto 29, 3), (160, .iload 7, 2), (162, .ifCond .eq 14, 3), (165, .aload_n 0, 1), (166, .iload 4, 2), (168, .iload 5, 2), (170, .invokevirtual 457, 3), (173, .iinc 3 1, 3), (176, .aload_n 0, 1), (177, .getfield 125, 3), (180, .iload_n 2, 1), (181, .dup2, 1), (182, .iaload, 1), (183, .iconst 1, 1), (184, .iadd, 1), (185, .iastore, 1), (186, .goto (-168), 3), (189, .iload_n 3, 1), (190, .ireturn, 1)]
theorem tv_X12_clearBelow : Tv cX12_clearBelow tb_X12_clearBelow := by
  unfold Tv
  decide +kernel
theorem w_2605 : Cond.methodLink "LedgerFilesModel" 457 yX12_loseSlot ∈ TB := tp_11 59 (by decide +kernel) rfl
theorem w_2608 : Cond.code yX12_loseSlot prog_14_method_92_code 4 none ∈ TB := tp_11 62 rfl rfl
theorem cw_X12_457 : Cw RX12 457 yX12_loseSlot cX12_loseSlot 4 none 2 := ⟨w_2605, w_2608, w_161, by decide +kernel, by decide +kernel, by decide⟩
theorem w_2607 : Cond.instanceMethod yX12_loseSlot ∈ TB := tp_11 61 (by decide +kernel) rfl
theorem w_126 : Cond.selects "LedgerFilesModel" yX12_loseSlot yX12_loseSlot ∈ TB := tp_0 126 (by decide +kernel) rfl
def e_clearBelow_160  (self18 : RfT → Int32 → Int32 → Option (Int32 × RfT)) (R : RfT) (x2 : Int32) (x3 : Int32) (x4 : Int32) (x5 : Int32) (x7 : Int32) : Option (Int32 × RfT) := if x7 = 0 then ld (rA R 58) 70 x2 (fun v139 => stR R 58 70 x2 ((v139) + ((1 : Int32))) (fun R140 => self18 R140 x2 x3)) else bnd (e_loseSlot R x4 x5) (fun R141 => ld (rA R141 58) 70 x2 (fun v142 => stR R141 58 70 x2 ((v142) + ((1 : Int32))) (fun R143 => self18 R143 x2 (x3 + (1 : Int32)))))
def e_clearBelow_80  (self18 : RfT → Int32 → Int32 → Option (Int32 × RfT)) (R : RfT) (x2 : Int32) (x3 : Int32) (x4 : Int32) (x5 : Int32) (x6 : Int32) (x7 : Int32) : Option (Int32 × RfT) := if x6 = 0 then if x7 = 0 then e_clearBelow_160  self18 R x2 x3 x4 x5 x7 else bnd (e_kind R x7) (fun v131 => if v131 = ((2 : Int32)) then stR R 57 70 (x2 + (1 : Int32)) x7 (fun R132 => stR R132 58 70 (x2 + (1 : Int32)) ((0 : Int32)) (fun R133 => self18 R133 (x2 + (1 : Int32)) x3)) else e_clearBelow_160  self18 R x2 x3 x4 x5 x7) else if (x2 + (-1 : Int32)) < 0 then self18 R (x2 + (-1 : Int32)) x3 else ld (rA R 57) 70 (x2 + (-1 : Int32)) (fun v134 => ld (rA R 58) 70 (x2 + (-1 : Int32)) (fun v135 => bnd (e_loseSlot R v134 v135) (fun R136 => ld (rA R136 58) 70 (x2 + (-1 : Int32)) (fun v137 => stR R136 58 70 (x2 + (-1 : Int32)) ((v137) + ((1 : Int32))) (fun R138 => self18 R138 (x2 + (-1 : Int32)) (x3 + (1 : Int32)))))))
def e_clearBelow_59  (self18 : RfT → Int32 → Int32 → Option (Int32 × RfT)) (R : RfT) (x2 : Int32) (x3 : Int32) (x4 : Int32) (x5 : Int32) (x6 : Int32) : Option (Int32 × RfT) := if x6 = 0 then bnd (e_slotNumber R x4 x5 ((0 : Int32)) ((2 : Int32))) (fun v130 => e_clearBelow_80  self18 R x2 x3 x4 x5 x6 v130) else e_clearBelow_80  self18 R x2 x3 x4 x5 x6 ((0 : Int32))
def e_clearBelow_18  : Nat → RfT → Int32 → Int32 → Option (Int32 × RfT)
  | 0, _, _, _ => none
  | n + 1, R, x2, x3 => if x2 < 0 then some (x3, R) else ld (rA R 57) 70 x2 (fun v127 => ld (rA R 58) 70 x2 (fun v128 => bnd (e_size R v127) (fun v129 => if (((16 : Int32)) * (v128)) < v129 then e_clearBelow_59  (e_clearBelow_18  n) R x2 x3 v127 v128 ((0 : Int32)) else e_clearBelow_59  (e_clearBelow_18  n) R x2 x3 v127 v128 ((1 : Int32)))))
def e_clearBelow  (R : RfT) (a0 : Int32) : Option (Int32 × RfT) := stR R 57 70 ((0 : Int32)) a0 (fun R125 => stR R125 58 70 ((0 : Int32)) ((0 : Int32)) (fun R126 => e_clearBelow_18  fuL R126 ((0 : Int32)) ((0 : Int32))))
set_option maxRecDepth 100000 in
set_option maxHeartbeats 4000000 in
theorem l_X12_clearBelow_160 (E : gE) (f0 : Nat → va_E) (sz : Nat) (QA : Nat → Prop) (hE : 94 ≤ gN E) (self18 : RfT → Int32 → Int32 → Option (Int32 × RfT)) (hs18 : ∀ (R : RfT) (x2 : Int32) (x3 : Int32) (r : Int32) (R9 : RfT) (hr : self18 R x2 x3 = some (r, R9)) (f : Nat → va_E) (w : RW E f R) (hf : Fr RfK f0 f), G E (12, yX12_clearBelow, 8, (some .int), sz, QA) cX12_clearBelow (gO E (12, yX12_clearBelow, 8, (some .int), sz, QA) (fun v g => v = some (.int r) ∧ RW E g R9 ∧ Fr RfK f0 g, fun _ _ => False)) 18 [(0, .ref (gAd E (56))), (2, .int (x2)), (3, .int (x3))] [] f) : ∀ (R : RfT) (x2 : Int32) (x3 : Int32) (x4 : Int32) (x5 : Int32) (x7 : Int32) (r : Int32) (R9 : RfT) (hr : e_clearBelow_160  self18 R x2 x3 x4 x5 x7 = some (r, R9)) (f : Nat → va_E) (w : RW E f R) (hf : Fr RfK f0 f), G E (12, yX12_clearBelow, 8, (some .int), sz, QA) cX12_clearBelow (gO E (12, yX12_clearBelow, 8, (some .int), sz, QA) (fun v g => v = some (.int r) ∧ RW E g R9 ∧ Fr RfK f0 g, fun _ _ => False)) 160 [(0, .ref (gAd E (56))), (2, .int (x2)), (3, .int (x3)), (4, .int (x4)), (5, .int (x5)), (7, .int (x7))] [] f := by
  intro R x2 x3 x4 x5 x7 r R9 hr f w hf
  obtain ⟨az, sy, r0⟩ := w
  unfold e_clearBelow_160 at hr
  refine G.go tv_X12_clearBelow 1 162 [(0, .ref (gAd E (56))), (2, .int (x2)), (3, .int (x3)), (4, .int (x4)), (5, .int (x5)), (7, .int (x7))] [.int (x7)] rfl ?_
  refine G.if_eq 176 (tbd tv_X12_clearBelow rfl) (by decide) (fun c162 => ?_) (fun c162 => ?_)
  · replace hr := ite_t c162 hr
    refine G.go tv_X12_clearBelow 1 177 [(0, .ref (gAd E (56))), (2, .int (x2)), (3, .int (x3)), (4, .int (x4)), (5, .int (x5)), (7, .int (x7))] [.ref (gAd E (56))] rfl ?_
    refine G.rg r0 hE 58 (.ref (gAd E (91))) (by decide) rfl (tbd tv_X12_clearBelow rfl) w_2123 ?_
    refine G.go tv_X12_clearBelow 2 182 [(0, .ref (gAd E (56))), (2, .int (x2)), (3, .int (x3)), (4, .int (x4)), (5, .int (x5)), (7, .int (x7))] [.int (x2), .ref (gAd E (91)), .int (x2), .ref (gAd E (91))] rfl ?_
    obtain ⟨v139, b139, e139, hr⟩ := ld_s hr
    refine G.ialdE (91) (by omega) (r0.a58) b139 e139 (tbd tv_X12_clearBelow rfl) ?_
    refine G.go tv_X12_clearBelow 2 185 [(0, .ref (gAd E (56))), (2, .int (x2)), (3, .int (x3)), (4, .int (x4)), (5, .int (x5)), (7, .int (x7))] [.int ((v139) + ((1 : Int32))), .int (x2), .ref (gAd E (91))] rfl ?_
    obtain ⟨R140, b140, eR140, hr⟩ := stR_s hr
    refine G.iast (91) (by omega) (r0.a58) b140 (tbd tv_X12_clearBelow rfl) ?_
    refine G.gen (P := fun w9 => RfV E w9 (setSr (setS R140 42 az) sy) ∧ Fr RfK f0 w9) ⟨by rw [eR140]; exact r0.p58 _, Fr.up hf ⟨by decide, by decide⟩⟩ (fun u140 p140 => ?_)
    obtain ⟨r140, h140⟩ := p140
    refine G.go tv_X12_clearBelow 1 18 [(0, .ref (gAd E (56))), (2, .int (x2)), (3, .int (x3)), (4, .int (x4)), (5, .int (x5)), (7, .int (x7))] [] rfl ?_
    refine G.less [(0, .ref (gAd E (56))), (2, .int (x2)), (3, .int (x3))] [0, 1, 2] rfl ?_
    exact hs18 _ _ _ _ _ hr _ ⟨_, _, r140⟩ h140
  · replace hr := ite_f c162 hr
    refine G.go tv_X12_clearBelow 3 170 [(0, .ref (gAd E (56))), (2, .int (x2)), (3, .int (x3)), (4, .int (x4)), (5, .int (x5)), (7, .int (x7))] [.int (x5), .int (x4), .ref (gAd E (56))] rfl ?_
    obtain ⟨R141, hv141, hr⟩ := bnd_s hr
    refine G.callV (56) [.int (x4), .int (x5)] [] (k_X12_loseSlot E _ hE R ⟨_, _, r0⟩ x4 x5 R141 hv141) cls_X12 (by omega) (r0.o) cw_X12_457 w_2607 w_126 (Nat.le_of_ble_eq_true rfl) rfl (Nat.le_of_ble_eq_true rfl) (tbd tv_X12_clearBelow rfl) (fun v141w f141 q141 => ?_) (fun _ _ h => h.elim)
    obtain ⟨rfl, ⟨az141, sy141, r141⟩, fa141⟩ := q141
    refine G.eqs [] rfl ?_
    refine G.go tv_X12_clearBelow 2 177 [(0, .ref (gAd E (56))), (2, .int (x2)), (3, .int (x3 + (1 : Int32))), (4, .int (x4)), (5, .int (x5)), (7, .int (x7))] [.ref (gAd E (56))] rfl ?_
    refine G.rg r141 hE 58 (.ref (gAd E (91))) (by decide) rfl (tbd tv_X12_clearBelow rfl) w_2123 ?_
    refine G.go tv_X12_clearBelow 2 182 [(0, .ref (gAd E (56))), (2, .int (x2)), (3, .int (x3 + (1 : Int32))), (4, .int (x4)), (5, .int (x5)), (7, .int (x7))] [.int (x2), .ref (gAd E (91)), .int (x2), .ref (gAd E (91))] rfl ?_
    obtain ⟨v142, b142, e142, hr⟩ := ld_s hr
    refine G.ialdE (91) (by omega) (r141.a58) b142 e142 (tbd tv_X12_clearBelow rfl) ?_
    refine G.go tv_X12_clearBelow 2 185 [(0, .ref (gAd E (56))), (2, .int (x2)), (3, .int (x3 + (1 : Int32))), (4, .int (x4)), (5, .int (x5)), (7, .int (x7))] [.int ((v142) + ((1 : Int32))), .int (x2), .ref (gAd E (91))] rfl ?_
    obtain ⟨R143, b143, eR143, hr⟩ := stR_s hr
    refine G.iast (91) (by omega) (r141.a58) b143 (tbd tv_X12_clearBelow rfl) ?_
    refine G.gen (P := fun w9 => RfV E w9 (setSr (setS R143 42 az141) sy141) ∧ Fr RfK f0 w9) ⟨by rw [eR143]; exact r141.p58 _, Fr.up (hf.tr fa141 (fun _ h => h)) ⟨by decide, by decide⟩⟩ (fun u143 p143 => ?_)
    obtain ⟨r143, h143⟩ := p143
    refine G.go tv_X12_clearBelow 1 18 [(0, .ref (gAd E (56))), (2, .int (x2)), (3, .int (x3 + (1 : Int32))), (4, .int (x4)), (5, .int (x5)), (7, .int (x7))] [] rfl ?_
    refine G.less [(0, .ref (gAd E (56))), (2, .int (x2)), (3, .int (x3 + (1 : Int32)))] [0, 1, 2] rfl ?_
    exact hs18 _ _ _ _ _ hr _ ⟨_, _, r143⟩ h143
set_option maxRecDepth 100000 in
set_option maxHeartbeats 4000000 in
theorem l_X12_clearBelow_80 (E : gE) (f0 : Nat → va_E) (sz : Nat) (QA : Nat → Prop) (hE : 94 ≤ gN E) (self18 : RfT → Int32 → Int32 → Option (Int32 × RfT)) (hs18 : ∀ (R : RfT) (x2 : Int32) (x3 : Int32) (r : Int32) (R9 : RfT) (hr : self18 R x2 x3 = some (r, R9)) (f : Nat → va_E) (w : RW E f R) (hf : Fr RfK f0 f), G E (12, yX12_clearBelow, 8, (some .int), sz, QA) cX12_clearBelow (gO E (12, yX12_clearBelow, 8, (some .int), sz, QA) (fun v g => v = some (.int r) ∧ RW E g R9 ∧ Fr RfK f0 g, fun _ _ => False)) 18 [(0, .ref (gAd E (56))), (2, .int (x2)), (3, .int (x3))] [] f) : ∀ (R : RfT) (x2 : Int32) (x3 : Int32) (x4 : Int32) (x5 : Int32) (x6 : Int32) (x7 : Int32) (r : Int32) (R9 : RfT) (hr : e_clearBelow_80  self18 R x2 x3 x4 x5 x6 x7 = some (r, R9)) (f : Nat → va_E) (w : RW E f R) (hf : Fr RfK f0 f), G E (12, yX12_clearBelow, 8, (some .int), sz, QA) cX12_clearBelow (gO E (12, yX12_clearBelow, 8, (some .int), sz, QA) (fun v g => v = some (.int r) ∧ RW E g R9 ∧ Fr RfK f0 g, fun _ _ => False)) 80 [(0, .ref (gAd E (56))), (2, .int (x2)), (3, .int (x3)), (4, .int (x4)), (5, .int (x5)), (6, .int (x6)), (7, .int (x7))] [] f := by
  intro R x2 x3 x4 x5 x6 x7 r R9 hr f w hf
  obtain ⟨az, sy, r0⟩ := w
  unfold e_clearBelow_80 at hr
  refine G.go tv_X12_clearBelow 1 82 [(0, .ref (gAd E (56))), (2, .int (x2)), (3, .int (x3)), (4, .int (x4)), (5, .int (x5)), (6, .int (x6)), (7, .int (x7))] [.int (x6)] rfl ?_
  refine G.if_eq 124 (tbd tv_X12_clearBelow rfl) (by decide) (fun c82 => ?_) (fun c82 => ?_)
  · replace hr := ite_t c82 hr
    refine G.go tv_X12_clearBelow 1 126 [(0, .ref (gAd E (56))), (2, .int (x2)), (3, .int (x3)), (4, .int (x4)), (5, .int (x5)), (6, .int (x6)), (7, .int (x7))] [.int (x7)] rfl ?_
    refine G.if_eq 160 (tbd tv_X12_clearBelow rfl) (by decide) (fun c126 => ?_) (fun c126 => ?_)
    · replace hr := ite_t c126 hr
      refine G.less [(0, .ref (gAd E (56))), (2, .int (x2)), (3, .int (x3)), (4, .int (x4)), (5, .int (x5)), (7, .int (x7))] [0, 1, 2, 3, 4, 6] rfl ?_
      exact l_X12_clearBelow_160 E f0 sz QA hE _ hs18 _ _ _ _ _ _ _ _ hr _ ⟨_, _, r0⟩ hf
    · replace hr := ite_f c126 hr
      refine G.go tv_X12_clearBelow 2 132 [(0, .ref (gAd E (56))), (2, .int (x2)), (3, .int (x3)), (4, .int (x4)), (5, .int (x5)), (6, .int (x6)), (7, .int (x7))] [.int (x7), .ref (gAd E (56))] rfl ?_
      obtain ⟨v131, hv131, hr⟩ := bnd_s hr
      refine G.callV (56) [.int (x7)] [] (k_X12_kind E _ hE R ⟨_, _, r0⟩ x7 v131 hv131) cls_X12 (by omega) (r0.o) cw_X12_326 w_2369 w_74 (Nat.le_of_ble_eq_true rfl) rfl (Nat.le_of_ble_eq_true rfl) (tbd tv_X12_clearBelow rfl) (fun v131w f131 q131 => ?_) (fun _ _ h => h.elim)
      obtain ⟨rfl, ⟨az131, sy131, r131⟩, fa131⟩ := q131
      refine G.eqs [.int (v131)] rfl ?_
      refine G.go tv_X12_clearBelow 1 136 [(0, .ref (gAd E (56))), (2, .int (x2)), (3, .int (x3)), (4, .int (x4)), (5, .int (x5)), (6, .int (x6)), (7, .int (x7))] [.int ((2 : Int32)), .int (v131)] rfl ?_
      refine G.cmp_ne 160 (tbd tv_X12_clearBelow rfl) (by decide) (fun c136 => ?_) (fun c136 => ?_)
      · replace hr := ite_f c136 hr
        refine G.less [(0, .ref (gAd E (56))), (2, .int (x2)), (3, .int (x3)), (4, .int (x4)), (5, .int (x5)), (7, .int (x7))] [0, 1, 2, 3, 4, 6] rfl ?_
        exact l_X12_clearBelow_160 E f0 sz QA hE _ hs18 _ _ _ _ _ _ _ _ hr _ ⟨_, _, r131⟩ (hf.tr fa131 (fun _ h => h))
      · replace hr := ite_t c136 hr
        refine G.go tv_X12_clearBelow 2 143 [(0, .ref (gAd E (56))), (2, .int (x2 + (1 : Int32))), (3, .int (x3)), (4, .int (x4)), (5, .int (x5)), (6, .int (x6)), (7, .int (x7))] [.ref (gAd E (56))] rfl ?_
        refine G.rg r131 hE 57 (.ref (gAd E (90))) (by decide) rfl (tbd tv_X12_clearBelow rfl) w_2122 ?_
        refine G.go tv_X12_clearBelow 2 149 [(0, .ref (gAd E (56))), (2, .int (x2 + (1 : Int32))), (3, .int (x3)), (4, .int (x4)), (5, .int (x5)), (6, .int (x6)), (7, .int (x7))] [.int (x7), .int (x2 + (1 : Int32)), .ref (gAd E (90))] rfl ?_
        obtain ⟨R132, b132, eR132, hr⟩ := stR_s hr
        refine G.iast (90) (by omega) (r131.a57) b132 (tbd tv_X12_clearBelow rfl) ?_
        refine G.gen (P := fun w9 => RfV E w9 (setSr (setS R132 42 az131) sy131) ∧ Fr RfK f0 w9) ⟨by rw [eR132]; exact r131.p57 _, Fr.up (hf.tr fa131 (fun _ h => h)) ⟨by decide, by decide⟩⟩ (fun u132 p132 => ?_)
        obtain ⟨r132, h132⟩ := p132
        refine G.go tv_X12_clearBelow 1 151 [(0, .ref (gAd E (56))), (2, .int (x2 + (1 : Int32))), (3, .int (x3)), (4, .int (x4)), (5, .int (x5)), (6, .int (x6)), (7, .int (x7))] [.ref (gAd E (56))] rfl ?_
        refine G.rg r132 hE 58 (.ref (gAd E (91))) (by decide) rfl (tbd tv_X12_clearBelow rfl) w_2123 ?_
        refine G.go tv_X12_clearBelow 2 156 [(0, .ref (gAd E (56))), (2, .int (x2 + (1 : Int32))), (3, .int (x3)), (4, .int (x4)), (5, .int (x5)), (6, .int (x6)), (7, .int (x7))] [.int ((0 : Int32)), .int (x2 + (1 : Int32)), .ref (gAd E (91))] rfl ?_
        obtain ⟨R133, b133, eR133, hr⟩ := stR_s hr
        refine G.iast (91) (by omega) (r132.a58) b133 (tbd tv_X12_clearBelow rfl) ?_
        refine G.gen (P := fun w9 => RfV E w9 (setSr (setS R133 42 az131) sy131) ∧ Fr RfK f0 w9) ⟨by rw [eR133]; exact r132.p58 _, Fr.up h132 ⟨by decide, by decide⟩⟩ (fun u133 p133 => ?_)
        obtain ⟨r133, h133⟩ := p133
        refine G.go tv_X12_clearBelow 2 18 [(0, .ref (gAd E (56))), (2, .int (x2 + (1 : Int32))), (3, .int (x3)), (4, .int (x4)), (5, .int (x5)), (6, .int (x6)), (7, .int (x7))] [] rfl ?_
        refine G.less [(0, .ref (gAd E (56))), (2, .int (x2 + (1 : Int32))), (3, .int (x3))] [0, 1, 2] rfl ?_
        exact hs18 _ _ _ _ _ hr _ ⟨_, _, r133⟩ h133
  · replace hr := ite_f c82 hr
    refine G.go tv_X12_clearBelow 2 89 [(0, .ref (gAd E (56))), (2, .int (x2 + (-1 : Int32))), (3, .int (x3)), (4, .int (x4)), (5, .int (x5)), (6, .int (x6)), (7, .int (x7))] [.int (x2 + (-1 : Int32))] rfl ?_
    refine G.if_lt 186 (tbd tv_X12_clearBelow rfl) (by decide) (fun c89 => ?_) (fun c89 => ?_)
    · replace hr := ite_t c89 hr
      refine G.go tv_X12_clearBelow 1 18 [(0, .ref (gAd E (56))), (2, .int (x2 + (-1 : Int32))), (3, .int (x3)), (4, .int (x4)), (5, .int (x5)), (6, .int (x6)), (7, .int (x7))] [] rfl ?_
      refine G.less [(0, .ref (gAd E (56))), (2, .int (x2 + (-1 : Int32))), (3, .int (x3))] [0, 1, 2] rfl ?_
      exact hs18 _ _ _ _ _ hr _ ⟨_, _, r0⟩ hf
    · replace hr := ite_f c89 hr
      refine G.go tv_X12_clearBelow 2 94 [(0, .ref (gAd E (56))), (2, .int (x2 + (-1 : Int32))), (3, .int (x3)), (4, .int (x4)), (5, .int (x5)), (6, .int (x6)), (7, .int (x7))] [.ref (gAd E (56)), .ref (gAd E (56))] rfl ?_
      refine G.rg r0 hE 57 (.ref (gAd E (90))) (by decide) rfl (tbd tv_X12_clearBelow rfl) w_2122 ?_
      refine G.go tv_X12_clearBelow 1 98 [(0, .ref (gAd E (56))), (2, .int (x2 + (-1 : Int32))), (3, .int (x3)), (4, .int (x4)), (5, .int (x5)), (6, .int (x6)), (7, .int (x7))] [.int (x2 + (-1 : Int32)), .ref (gAd E (90)), .ref (gAd E (56))] rfl ?_
      obtain ⟨v134, b134, e134, hr⟩ := ld_s hr
      refine G.ialdE (90) (by omega) (r0.a57) b134 e134 (tbd tv_X12_clearBelow rfl) ?_
      refine G.go tv_X12_clearBelow 1 100 [(0, .ref (gAd E (56))), (2, .int (x2 + (-1 : Int32))), (3, .int (x3)), (4, .int (x4)), (5, .int (x5)), (6, .int (x6)), (7, .int (x7))] [.ref (gAd E (56)), .int (v134), .ref (gAd E (56))] rfl ?_
      refine G.rg r0 hE 58 (.ref (gAd E (91))) (by decide) rfl (tbd tv_X12_clearBelow rfl) w_2123 ?_
      refine G.go tv_X12_clearBelow 1 104 [(0, .ref (gAd E (56))), (2, .int (x2 + (-1 : Int32))), (3, .int (x3)), (4, .int (x4)), (5, .int (x5)), (6, .int (x6)), (7, .int (x7))] [.int (x2 + (-1 : Int32)), .ref (gAd E (91)), .int (v134), .ref (gAd E (56))] rfl ?_
      obtain ⟨v135, b135, e135, hr⟩ := ld_s hr
      refine G.ialdE (91) (by omega) (r0.a58) b135 e135 (tbd tv_X12_clearBelow rfl) ?_
      obtain ⟨R136, hv136, hr⟩ := bnd_s hr
      refine G.callV (56) [.int (v134), .int (v135)] [] (k_X12_loseSlot E _ hE R ⟨_, _, r0⟩ v134 v135 R136 hv136) cls_X12 (by omega) (r0.o) cw_X12_457 w_2607 w_126 (Nat.le_of_ble_eq_true rfl) rfl (Nat.le_of_ble_eq_true rfl) (tbd tv_X12_clearBelow rfl) (fun v136w f136 q136 => ?_) (fun _ _ h => h.elim)
      obtain ⟨rfl, ⟨az136, sy136, r136⟩, fa136⟩ := q136
      refine G.eqs [] rfl ?_
      refine G.go tv_X12_clearBelow 2 112 [(0, .ref (gAd E (56))), (2, .int (x2 + (-1 : Int32))), (3, .int (x3 + (1 : Int32))), (4, .int (x4)), (5, .int (x5)), (6, .int (x6)), (7, .int (x7))] [.ref (gAd E (56))] rfl ?_
      refine G.rg r136 hE 58 (.ref (gAd E (91))) (by decide) rfl (tbd tv_X12_clearBelow rfl) w_2123 ?_
      refine G.go tv_X12_clearBelow 2 117 [(0, .ref (gAd E (56))), (2, .int (x2 + (-1 : Int32))), (3, .int (x3 + (1 : Int32))), (4, .int (x4)), (5, .int (x5)), (6, .int (x6)), (7, .int (x7))] [.int (x2 + (-1 : Int32)), .ref (gAd E (91)), .int (x2 + (-1 : Int32)), .ref (gAd E (91))] rfl ?_
      obtain ⟨v137, b137, e137, hr⟩ := ld_s hr
      refine G.ialdE (91) (by omega) (r136.a58) b137 e137 (tbd tv_X12_clearBelow rfl) ?_
      refine G.go tv_X12_clearBelow 2 120 [(0, .ref (gAd E (56))), (2, .int (x2 + (-1 : Int32))), (3, .int (x3 + (1 : Int32))), (4, .int (x4)), (5, .int (x5)), (6, .int (x6)), (7, .int (x7))] [.int ((v137) + ((1 : Int32))), .int (x2 + (-1 : Int32)), .ref (gAd E (91))] rfl ?_
      obtain ⟨R138, b138, eR138, hr⟩ := stR_s hr
      refine G.iast (91) (by omega) (r136.a58) b138 (tbd tv_X12_clearBelow rfl) ?_
      refine G.gen (P := fun w9 => RfV E w9 (setSr (setS R138 42 az136) sy136) ∧ Fr RfK f0 w9) ⟨by rw [eR138]; exact r136.p58 _, Fr.up (hf.tr fa136 (fun _ h => h)) ⟨by decide, by decide⟩⟩ (fun u138 p138 => ?_)
      obtain ⟨r138, h138⟩ := p138
      refine G.go tv_X12_clearBelow 2 18 [(0, .ref (gAd E (56))), (2, .int (x2 + (-1 : Int32))), (3, .int (x3 + (1 : Int32))), (4, .int (x4)), (5, .int (x5)), (6, .int (x6)), (7, .int (x7))] [] rfl ?_
      refine G.less [(0, .ref (gAd E (56))), (2, .int (x2 + (-1 : Int32))), (3, .int (x3 + (1 : Int32)))] [0, 1, 2] rfl ?_
      exact hs18 _ _ _ _ _ hr _ ⟨_, _, r138⟩ h138
set_option maxRecDepth 100000 in
set_option maxHeartbeats 4000000 in
theorem l_X12_clearBelow_59 (E : gE) (f0 : Nat → va_E) (sz : Nat) (QA : Nat → Prop) (hE : 94 ≤ gN E) (self18 : RfT → Int32 → Int32 → Option (Int32 × RfT)) (hs18 : ∀ (R : RfT) (x2 : Int32) (x3 : Int32) (r : Int32) (R9 : RfT) (hr : self18 R x2 x3 = some (r, R9)) (f : Nat → va_E) (w : RW E f R) (hf : Fr RfK f0 f), G E (12, yX12_clearBelow, 8, (some .int), sz, QA) cX12_clearBelow (gO E (12, yX12_clearBelow, 8, (some .int), sz, QA) (fun v g => v = some (.int r) ∧ RW E g R9 ∧ Fr RfK f0 g, fun _ _ => False)) 18 [(0, .ref (gAd E (56))), (2, .int (x2)), (3, .int (x3))] [] f) : ∀ (R : RfT) (x2 : Int32) (x3 : Int32) (x4 : Int32) (x5 : Int32) (x6 : Int32) (r : Int32) (R9 : RfT) (hr : e_clearBelow_59  self18 R x2 x3 x4 x5 x6 = some (r, R9)) (f : Nat → va_E) (w : RW E f R) (hf : Fr RfK f0 f), G E (12, yX12_clearBelow, 8, (some .int), sz, QA) cX12_clearBelow (gO E (12, yX12_clearBelow, 8, (some .int), sz, QA) (fun v g => v = some (.int r) ∧ RW E g R9 ∧ Fr RfK f0 g, fun _ _ => False)) 59 [(0, .ref (gAd E (56))), (2, .int (x2)), (3, .int (x3)), (4, .int (x4)), (5, .int (x5)), (6, .int (x6))] [] f := by
  intro R x2 x3 x4 x5 x6 r R9 hr f w hf
  obtain ⟨az, sy, r0⟩ := w
  unfold e_clearBelow_59 at hr
  refine G.go tv_X12_clearBelow 1 61 [(0, .ref (gAd E (56))), (2, .int (x2)), (3, .int (x3)), (4, .int (x4)), (5, .int (x5)), (6, .int (x6))] [.int (x6)] rfl ?_
  refine G.if_eq 68 (tbd tv_X12_clearBelow rfl) (by decide) (fun c61 => ?_) (fun c61 => ?_)
  · replace hr := ite_t c61 hr
    refine G.go tv_X12_clearBelow 5 75 [(0, .ref (gAd E (56))), (2, .int (x2)), (3, .int (x3)), (4, .int (x4)), (5, .int (x5)), (6, .int (x6))] [.int ((2 : Int32)), .int ((0 : Int32)), .int (x5), .int (x4), .ref (gAd E (56))] rfl ?_
    obtain ⟨v130, hv130, hr⟩ := bnd_s hr
    refine G.callV (56) [.int (x4), .int (x5), .int ((0 : Int32)), .int ((2 : Int32))] [] (k_X12_slotNumber E _ hE R ⟨_, _, r0⟩ x4 x5 ((0 : Int32)) ((2 : Int32)) v130 hv130) cls_X12 (by omega) (r0.o) cw_X12_347 w_2515 w_107 (Nat.le_of_ble_eq_true rfl) rfl (Nat.le_of_ble_eq_true rfl) (tbd tv_X12_clearBelow rfl) (fun v130w f130 q130 => ?_) (fun _ _ h => h.elim)
    obtain ⟨rfl, ⟨az130, sy130, r130⟩, fa130⟩ := q130
    refine G.eqs [.int (v130)] rfl ?_
    refine G.go tv_X12_clearBelow 1 80 [(0, .ref (gAd E (56))), (2, .int (x2)), (3, .int (x3)), (4, .int (x4)), (5, .int (x5)), (6, .int (x6)), (7, .int (v130))] [] rfl ?_
    refine G.less [(0, .ref (gAd E (56))), (2, .int (x2)), (3, .int (x3)), (4, .int (x4)), (5, .int (x5)), (6, .int (x6)), (7, .int (v130))] [0, 1, 2, 3, 4, 5, 6] rfl ?_
    exact l_X12_clearBelow_80 E f0 sz QA hE _ hs18 _ _ _ _ _ _ _ _ _ hr _ ⟨_, _, r130⟩ (hf.tr fa130 (fun _ h => h))
  · replace hr := ite_f c61 hr
    refine G.go tv_X12_clearBelow 3 80 [(0, .ref (gAd E (56))), (2, .int (x2)), (3, .int (x3)), (4, .int (x4)), (5, .int (x5)), (6, .int (x6)), (7, .int ((0 : Int32)))] [] rfl ?_
    refine G.less [(0, .ref (gAd E (56))), (2, .int (x2)), (3, .int (x3)), (4, .int (x4)), (5, .int (x5)), (6, .int (x6)), (7, .int ((0 : Int32)))] [0, 1, 2, 3, 4, 5, 6] rfl ?_
    exact l_X12_clearBelow_80 E f0 sz QA hE _ hs18 _ _ _ _ _ _ _ _ _ hr _ ⟨_, _, r0⟩ hf
set_option maxRecDepth 100000 in
set_option maxHeartbeats 4000000 in
theorem l_X12_clearBelow_18 (E : gE) (f0 : Nat → va_E) (sz : Nat) (QA : Nat → Prop) (hE : 94 ≤ gN E) : ∀ (n : Nat), ∀ (R : RfT) (x2 : Int32) (x3 : Int32) (r : Int32) (R9 : RfT) (hr : e_clearBelow_18  n R x2 x3 = some (r, R9)) (f : Nat → va_E) (w : RW E f R) (hf : Fr RfK f0 f), G E (12, yX12_clearBelow, 8, (some .int), sz, QA) cX12_clearBelow (gO E (12, yX12_clearBelow, 8, (some .int), sz, QA) (fun v g => v = some (.int r) ∧ RW E g R9 ∧ Fr RfK f0 g, fun _ _ => False)) 18 [(0, .ref (gAd E (56))), (2, .int (x2)), (3, .int (x3))] [] f := by
  intro n
  induction n with
  | zero =>
    intro R x2 x3 r R9 hr f w hf
    cases hr
  | succ n ih =>
    intro R x2 x3 r R9 hr f w hf
    obtain ⟨az, sy, r0⟩ := w
    unfold e_clearBelow_18 at hr
    refine G.go tv_X12_clearBelow 1 19 [(0, .ref (gAd E (56))), (2, .int (x2)), (3, .int (x3))] [.int (x2)] rfl ?_
    refine G.if_lt 189 (tbd tv_X12_clearBelow rfl) (by decide) (fun c19 => ?_) (fun c19 => ?_)
    · replace hr := ite_t c19 hr
      refine G.go tv_X12_clearBelow 1 190 [(0, .ref (gAd E (56))), (2, .int (x2)), (3, .int (x3))] [.int (x3)] rfl ?_
      cases hr
      exact G.iret rfl rfl ⟨rfl, ⟨_, _, r0⟩, hf⟩ (tbd tv_X12_clearBelow rfl)
    · replace hr := ite_f c19 hr
      refine G.go tv_X12_clearBelow 1 23 [(0, .ref (gAd E (56))), (2, .int (x2)), (3, .int (x3))] [.ref (gAd E (56))] rfl ?_
      refine G.rg r0 hE 57 (.ref (gAd E (90))) (by decide) rfl (tbd tv_X12_clearBelow rfl) w_2122 ?_
      refine G.go tv_X12_clearBelow 1 27 [(0, .ref (gAd E (56))), (2, .int (x2)), (3, .int (x3))] [.int (x2), .ref (gAd E (90))] rfl ?_
      obtain ⟨v127, b127, e127, hr⟩ := ld_s hr
      refine G.ialdE (90) (by omega) (r0.a57) b127 e127 (tbd tv_X12_clearBelow rfl) ?_
      refine G.go tv_X12_clearBelow 2 31 [(0, .ref (gAd E (56))), (2, .int (x2)), (3, .int (x3)), (4, .int (v127))] [.ref (gAd E (56))] rfl ?_
      refine G.rg r0 hE 58 (.ref (gAd E (91))) (by decide) rfl (tbd tv_X12_clearBelow rfl) w_2123 ?_
      refine G.go tv_X12_clearBelow 1 35 [(0, .ref (gAd E (56))), (2, .int (x2)), (3, .int (x3)), (4, .int (v127))] [.int (x2), .ref (gAd E (91))] rfl ?_
      obtain ⟨v128, b128, e128, hr⟩ := ld_s hr
      refine G.ialdE (91) (by omega) (r0.a58) b128 e128 (tbd tv_X12_clearBelow rfl) ?_
      refine G.go tv_X12_clearBelow 6 46 [(0, .ref (gAd E (56))), (2, .int (x2)), (3, .int (x3)), (4, .int (v127)), (5, .int (v128))] [.int (v127), .ref (gAd E (56)), .int (((16 : Int32)) * (v128))] rfl ?_
      obtain ⟨v129, hv129, hr⟩ := bnd_s hr
      refine G.callV (56) [.int (v127)] [.int (((16 : Int32)) * (v128))] (k_X12_size E _ hE R ⟨_, _, r0⟩ v127 v129 hv129) cls_X12 (by omega) (r0.o) cw_X12_344 w_2503 w_104 (Nat.le_of_ble_eq_true rfl) rfl (Nat.le_of_ble_eq_true rfl) (tbd tv_X12_clearBelow rfl) (fun v129w f129 q129 => ?_) (fun _ _ h => h.elim)
      obtain ⟨rfl, ⟨az129, sy129, r129⟩, fa129⟩ := q129
      refine G.eqs [.int (v129), .int (((16 : Int32)) * (v128))] rfl ?_
      refine G.cmp_lt 56 (tbd tv_X12_clearBelow rfl) (by decide) (fun c49 => ?_) (fun c49 => ?_)
      · replace hr := ite_t c49 hr
        refine G.go tv_X12_clearBelow 2 59 [(0, .ref (gAd E (56))), (2, .int (x2)), (3, .int (x3)), (4, .int (v127)), (5, .int (v128)), (6, .int ((0 : Int32)))] [] rfl ?_
        refine G.less [(0, .ref (gAd E (56))), (2, .int (x2)), (3, .int (x3)), (4, .int (v127)), (5, .int (v128)), (6, .int ((0 : Int32)))] [0, 1, 2, 3, 4, 5] rfl ?_
        exact l_X12_clearBelow_59 E f0 sz QA hE _ ih _ _ _ _ _ _ _ _ hr _ ⟨_, _, r129⟩ (hf.tr fa129 (fun _ h => h))
      · replace hr := ite_f c49 hr
        refine G.go tv_X12_clearBelow 3 59 [(0, .ref (gAd E (56))), (2, .int (x2)), (3, .int (x3)), (4, .int (v127)), (5, .int (v128)), (6, .int ((1 : Int32)))] [] rfl ?_
        refine G.less [(0, .ref (gAd E (56))), (2, .int (x2)), (3, .int (x3)), (4, .int (v127)), (5, .int (v128)), (6, .int ((1 : Int32)))] [0, 1, 2, 3, 4, 5] rfl ?_
        exact l_X12_clearBelow_59 E f0 sz QA hE _ ih _ _ _ _ _ _ _ _ hr _ ⟨_, _, r129⟩ (hf.tr fa129 (fun _ h => h))
set_option maxRecDepth 100000 in
set_option maxHeartbeats 4000000 in
theorem k_X12_clearBelow (E : gE) (f : Nat → va_E) (hE : 94 ≤ gN E) (R : RfT) (w : RW E f R) (a0 : Int32) (r : Int32) (R9 : RfT) (hr : e_clearBelow R a0 = some (r, R9)) : Ct E 12 yX12_clearBelow cX12_clearBelow 8 (some .int) [.ref (gAd E (56)), .int (a0)] f (fun v g => v = some (.int r) ∧ RW E g R9 ∧ Fr RfK f g, fun _ _ => False) := by
  obtain ⟨az, sy, r0⟩ := w
  refine Ct.of (by decide) (Nat.le_of_ble_eq_true rfl) (fun sz => ?_)
  refine G.eql [(0, .ref (gAd E (56))), (1, .int (a0))] rfl ?_
  unfold e_clearBelow at hr
  refine G.go tv_X12_clearBelow 5 5 [(0, .ref (gAd E (56))), (1, .int (a0)), (2, .int ((0 : Int32))), (3, .int ((0 : Int32)))] [.ref (gAd E (56))] rfl ?_
  refine G.rg r0 hE 57 (.ref (gAd E (90))) (by decide) rfl (tbd tv_X12_clearBelow rfl) w_2122 ?_
  refine G.go tv_X12_clearBelow 2 10 [(0, .ref (gAd E (56))), (1, .int (a0)), (2, .int ((0 : Int32))), (3, .int ((0 : Int32)))] [.int (a0), .int ((0 : Int32)), .ref (gAd E (90))] rfl ?_
  obtain ⟨R125, b125, eR125, hr⟩ := stR_s hr
  refine G.iast (90) (by omega) (r0.a57) b125 (tbd tv_X12_clearBelow rfl) ?_
  refine G.gen (P := fun w9 => RfV E w9 (setSr (setS R125 42 az) sy) ∧ Fr RfK f w9) ⟨by rw [eR125]; exact r0.p57 _, Fr.up Fr.rf ⟨by decide, by decide⟩⟩ (fun u125 p125 => ?_)
  obtain ⟨r125, h125⟩ := p125
  refine G.go tv_X12_clearBelow 1 12 [(0, .ref (gAd E (56))), (1, .int (a0)), (2, .int ((0 : Int32))), (3, .int ((0 : Int32)))] [.ref (gAd E (56))] rfl ?_
  refine G.rg r125 hE 58 (.ref (gAd E (91))) (by decide) rfl (tbd tv_X12_clearBelow rfl) w_2123 ?_
  refine G.go tv_X12_clearBelow 2 17 [(0, .ref (gAd E (56))), (1, .int (a0)), (2, .int ((0 : Int32))), (3, .int ((0 : Int32)))] [.int ((0 : Int32)), .int ((0 : Int32)), .ref (gAd E (91))] rfl ?_
  obtain ⟨R126, b126, eR126, hr⟩ := stR_s hr
  refine G.iast (91) (by omega) (r125.a58) b126 (tbd tv_X12_clearBelow rfl) ?_
  refine G.gen (P := fun w9 => RfV E w9 (setSr (setS R126 42 az) sy) ∧ Fr RfK f w9) ⟨by rw [eR126]; exact r125.p58 _, Fr.up h125 ⟨by decide, by decide⟩⟩ (fun u126 p126 => ?_)
  obtain ⟨r126, h126⟩ := p126
  refine G.less [(0, .ref (gAd E (56))), (2, .int ((0 : Int32))), (3, .int ((0 : Int32)))] [0, 2, 3] rfl ?_
  exact l_X12_clearBelow_18 E f sz _ hE _ _ _ _ _ _ hr _ ⟨_, _, r126⟩ h126
def tb_X12_isChanged : List (Nat × Instr × Nat) := [(0, .aload_n 0, 1), (1, .aload_n 0, 1), (2, .getfield 58, 3), (5, .iload_n 1, 1), (6, .iaload, 1), (7, .iconst 0, 1), (8, .invokevirtual 236, 3), (11, .aload_n 0, 1), (12, .getfield 61, 3), (15, .iload_n 1, 1), (16, .baload, 1), (17, .ifCond .ne 23, 3), (20, .aload_n 0, 1), (21, .getfield 65, 3), (24, .sipush 128, 3), (27, .iload_n 1, 1), (28, .imul, 1), (29, .aload_n 0, 1), (30, .getfield 86, 3), (33, .iconst 0, 1), (34, .invokestatic 280, 3), (37, .ifCond .ne 7, 3), (40, .iconst 1, 1), (41, .goto 4, 3), (44, .iconst 0, 1), (45, .ireturn, 1)]
theorem tv_X12_isChanged : Tv cX12_isChanged tb_X12_isChanged := by
  unfold Tv
  decide +kernel
def e_same_71_78_6 (R : RfT) : Nat → Int32 → Int32 → Int32 → Int32 → Option (Int32)
  | 0, _, _, _, _ => none
  | n + 1, x1, x3, x4, x5 => if ((128 : Int32)) ≤ x5 then rtZ x4 (some x4) else if x4 = 0 then e_same_71_78_6 R n x1 x3 ((0 : Int32)) (x5 + (1 : Int32)) else ld (rA R 32) 131072 ((x1) + (x5)) (fun v148 => ld (rA R 43) 128 ((x3) + (x5)) (fun v149 => if v148 = v149 then e_same_71_78_6 R n x1 x3 ((1 : Int32)) (x5 + (1 : Int32)) else e_same_71_78_6 R n x1 x3 ((0 : Int32)) (x5 + (1 : Int32))))
def e_same_71_78 (R : RfT) (a1 : Int32) (a3 : Int32) : Option (Int32) := e_same_71_78_6 R fuL a1 a3 ((1 : Int32)) ((0 : Int32))
set_option maxRecDepth 100000 in
set_option maxHeartbeats 4000000 in
theorem l_X12_same_71_78_6 (E : gE) (f0 : Nat → va_E) (sz : Nat) (QA : Nat → Prop) (hE : 94 ≤ gN E) (R : RfT) : ∀ (n : Nat), ∀ (x1 : Int32) (x3 : Int32) (x4 : Int32) (x5 : Int32) (r : Int32) (hr : e_same_71_78_6 R n x1 x3 x4 x5 = some r) (f : Nat → va_E) (w : RW E f R) (hf : Fr RfK f0 f), G E (1, yX12_same, 6, (some .boolean), sz, QA) cX12_same (gO E (1, yX12_same, 6, (some .boolean), sz, QA) (fun v g => v = some (.int r) ∧ RW E g R ∧ Fr RfK f0 g, fun _ _ => False)) 6 [(0, .ref (gAd E (71))), (1, .int (x1)), (2, .ref (gAd E (78))), (3, .int (x3)), (4, .int (x4)), (5, .int (x5))] [] f := by
  intro n
  induction n with
  | zero =>
    intro x1 x3 x4 x5 r hr f w hf
    cases hr
  | succ n ih =>
    intro x1 x3 x4 x5 r hr f w hf
    obtain ⟨az, sy, r0⟩ := w
    unfold e_same_71_78_6 at hr
    refine G.go tv_X12_same 2 11 [(0, .ref (gAd E (71))), (1, .int (x1)), (2, .ref (gAd E (78))), (3, .int (x3)), (4, .int (x4)), (5, .int (x5))] [.int ((128 : Int32)), .int (x5)] rfl ?_
    refine G.cmp_ge 47 (tbd tv_X12_same rfl) (by decide) (fun c11 => ?_) (fun c11 => ?_)
    · replace hr := ite_t c11 hr
      refine G.go tv_X12_same 1 49 [(0, .ref (gAd E (71))), (1, .int (x1)), (2, .ref (gAd E (78))), (3, .int (x3)), (4, .int (x4)), (5, .int (x5))] [.int (x4)] rfl ?_
      obtain ⟨hz01, hr⟩ := rtZ_s hr
      cases hr
      exact G.iret rfl (nar_z hz01) ⟨rfl, ⟨_, _, r0⟩, hf⟩ (tbd tv_X12_same rfl)
    · replace hr := ite_f c11 hr
      refine G.go tv_X12_same 1 16 [(0, .ref (gAd E (71))), (1, .int (x1)), (2, .ref (gAd E (78))), (3, .int (x3)), (4, .int (x4)), (5, .int (x5))] [.int (x4)] rfl ?_
      refine G.if_eq 38 (tbd tv_X12_same rfl) (by decide) (fun c16 => ?_) (fun c16 => ?_)
      · replace hr := ite_t c16 hr
        refine G.go tv_X12_same 4 6 [(0, .ref (gAd E (71))), (1, .int (x1)), (2, .ref (gAd E (78))), (3, .int (x3)), (4, .int ((0 : Int32))), (5, .int (x5 + (1 : Int32)))] [] rfl ?_
        refine G.less [(0, .ref (gAd E (71))), (1, .int (x1)), (2, .ref (gAd E (78))), (3, .int (x3)), (4, .int ((0 : Int32))), (5, .int (x5 + (1 : Int32)))] [0, 1, 2, 3, 4, 5] rfl ?_
        exact ih _ _ _ _ _ hr _ ⟨_, _, r0⟩ hf
      · replace hr := ite_f c16 hr
        refine G.go tv_X12_same 4 24 [(0, .ref (gAd E (71))), (1, .int (x1)), (2, .ref (gAd E (78))), (3, .int (x3)), (4, .int (x4)), (5, .int (x5))] [.int ((x1) + (x5)), .ref (gAd E (71))] rfl ?_
        obtain ⟨v148, b148, e148, hr⟩ := ld_s hr
        refine G.baldE (71) (by omega) (r0.a32) b148 e148 (tbd tv_X12_same rfl) ?_
        refine G.go tv_X12_same 4 30 [(0, .ref (gAd E (71))), (1, .int (x1)), (2, .ref (gAd E (78))), (3, .int (x3)), (4, .int (x4)), (5, .int (x5))] [.int ((x3) + (x5)), .ref (gAd E (78)), .int (v148)] rfl ?_
        obtain ⟨v149, b149, e149, hr⟩ := ld_s hr
        refine G.baldE (78) (by omega) (r0.a43) b149 e149 (tbd tv_X12_same rfl) ?_
        refine G.cmp_ne 38 (tbd tv_X12_same rfl) (by decide) (fun c31 => ?_) (fun c31 => ?_)
        · replace hr := ite_f c31 hr
          refine G.go tv_X12_same 4 6 [(0, .ref (gAd E (71))), (1, .int (x1)), (2, .ref (gAd E (78))), (3, .int (x3)), (4, .int ((0 : Int32))), (5, .int (x5 + (1 : Int32)))] [] rfl ?_
          refine G.less [(0, .ref (gAd E (71))), (1, .int (x1)), (2, .ref (gAd E (78))), (3, .int (x3)), (4, .int ((0 : Int32))), (5, .int (x5 + (1 : Int32)))] [0, 1, 2, 3, 4, 5] rfl ?_
          exact ih _ _ _ _ _ hr _ ⟨_, _, r0⟩ hf
        · replace hr := ite_t c31 hr
          refine G.go tv_X12_same 5 6 [(0, .ref (gAd E (71))), (1, .int (x1)), (2, .ref (gAd E (78))), (3, .int (x3)), (4, .int ((1 : Int32))), (5, .int (x5 + (1 : Int32)))] [] rfl ?_
          refine G.less [(0, .ref (gAd E (71))), (1, .int (x1)), (2, .ref (gAd E (78))), (3, .int (x3)), (4, .int ((1 : Int32))), (5, .int (x5 + (1 : Int32)))] [0, 1, 2, 3, 4, 5] rfl ?_
          exact ih _ _ _ _ _ hr _ ⟨_, _, r0⟩ hf
set_option maxRecDepth 100000 in
set_option maxHeartbeats 4000000 in
theorem k_X12_same_71_78 (E : gE) (f : Nat → va_E) (hE : 94 ≤ gN E) (R : RfT) (w : RW E f R) (a1 : Int32) (a3 : Int32) (r : Int32) (hr : e_same_71_78 R a1 a3 = some r) : Ct E 1 yX12_same cX12_same 6 (some .boolean) [.ref (gAd E (71)), .int (a1), .ref (gAd E (78)), .int (a3)] f (fun v g => v = some (.int r) ∧ RW E g R ∧ Fr RfK f g, fun _ _ => False) := by
  obtain ⟨az, sy, r0⟩ := w
  refine Ct.of (by decide) (Nat.le_of_ble_eq_true rfl) (fun sz => ?_)
  refine G.eql [(0, .ref (gAd E (71))), (1, .int (a1)), (2, .ref (gAd E (78))), (3, .int (a3))] rfl ?_
  unfold e_same_71_78 at hr
  refine G.go tv_X12_same 4 6 [(0, .ref (gAd E (71))), (1, .int (a1)), (2, .ref (gAd E (78))), (3, .int (a3)), (4, .int ((1 : Int32))), (5, .int ((0 : Int32)))] [] rfl ?_
  refine G.less [(0, .ref (gAd E (71))), (1, .int (a1)), (2, .ref (gAd E (78))), (3, .int (a3)), (4, .int ((1 : Int32))), (5, .int ((0 : Int32)))] [0, 1, 2, 3, 4, 5] rfl ?_
  exact l_X12_same_71_78_6 E f sz _ hE R _ _ _ _ _ _ hr _ ⟨_, _, r0⟩ Fr.rf
def e_isChanged  (R : RfT) (a0 : Int32) : Option (Int32 × RfT) := ld (rA R 30) 1024 a0 (fun v144 => bnd (e_see R v144 ((0 : Int32))) (fun R145 => ld (rA R145 31) 1024 a0 (fun v146 => if v146 = 0 then bnd (e_same_71_78 R145 (((128 : Int32)) * (a0)) ((0 : Int32))) (fun v147 => if v147 = 0 then some ((1 : Int32), R145) else some ((0 : Int32), R145)) else some ((1 : Int32), R145))))
set_option maxRecDepth 100000 in
set_option maxHeartbeats 4000000 in
theorem k_X12_isChanged (E : gE) (f : Nat → va_E) (hE : 94 ≤ gN E) (R : RfT) (w : RW E f R) (a0 : Int32) (r : Int32) (R9 : RfT) (hr : e_isChanged R a0 = some (r, R9)) : Ct E 3 yX12_isChanged cX12_isChanged 2 (some .boolean) [.ref (gAd E (56)), .int (a0)] f (fun v g => v = some (.int r) ∧ RW E g R9 ∧ Fr RfK f g, fun _ _ => False) := by
  obtain ⟨az, sy, r0⟩ := w
  refine Ct.of (by decide) (Nat.le_of_ble_eq_true rfl) (fun sz => ?_)
  refine G.eql [(0, .ref (gAd E (56))), (1, .int (a0))] rfl ?_
  unfold e_isChanged at hr
  refine G.go tv_X12_isChanged 2 2 [(0, .ref (gAd E (56))), (1, .int (a0))] [.ref (gAd E (56)), .ref (gAd E (56))] rfl ?_
  refine G.rg r0 hE 30 (.ref (gAd E (69))) (by decide) rfl (tbd tv_X12_isChanged rfl) w_2095 ?_
  refine G.go tv_X12_isChanged 1 6 [(0, .ref (gAd E (56))), (1, .int (a0))] [.int (a0), .ref (gAd E (69)), .ref (gAd E (56))] rfl ?_
  obtain ⟨v144, b144, e144, hr⟩ := ld_s hr
  refine G.ialdE (69) (by omega) (r0.a30) b144 e144 (tbd tv_X12_isChanged rfl) ?_
  refine G.go tv_X12_isChanged 1 8 [(0, .ref (gAd E (56))), (1, .int (a0))] [.int ((0 : Int32)), .int (v144), .ref (gAd E (56))] rfl ?_
  obtain ⟨R145, hv145, hr⟩ := bnd_s hr
  refine G.callV (56) [.int (v144), .int ((0 : Int32))] [] (k_X12_see E _ hE R ⟨_, _, r0⟩ v144 ((0 : Int32)) R145 hv145) cls_X12 (by omega) (r0.o) cw_X12_236 w_2420 w_86 (Nat.le_of_ble_eq_true rfl) rfl (Nat.le_of_ble_eq_true rfl) (tbd tv_X12_isChanged rfl) (fun v145w f145 q145 => ?_) (fun _ _ h => h.elim)
  obtain ⟨rfl, ⟨az145, sy145, r145⟩, fa145⟩ := q145
  refine G.eqs [] rfl ?_
  refine G.go tv_X12_isChanged 1 12 [(0, .ref (gAd E (56))), (1, .int (a0))] [.ref (gAd E (56))] rfl ?_
  refine G.rg r145 hE 31 (.ref (gAd E (70))) (by decide) rfl (tbd tv_X12_isChanged rfl) w_2096 ?_
  refine G.go tv_X12_isChanged 1 16 [(0, .ref (gAd E (56))), (1, .int (a0))] [.int (a0), .ref (gAd E (70))] rfl ?_
  obtain ⟨v146, b146, e146, hr⟩ := ld_s hr
  refine G.zaldE (70) (by omega) (r145.a31) b146 e146 (tbd tv_X12_isChanged rfl) ?_
  refine G.if_ne 40 (tbd tv_X12_isChanged rfl) (by decide) (fun c17 => ?_) (fun c17 => ?_)
  · replace hr := ite_f c17 hr
    refine G.go tv_X12_isChanged 2 45 [(0, .ref (gAd E (56))), (1, .int (a0))] [.int ((1 : Int32))] rfl ?_
    cases hr
    exact G.iret rfl rfl ⟨rfl, ⟨_, _, r145⟩, (Fr.rf.tr fa145 (fun _ h => h))⟩ (tbd tv_X12_isChanged rfl)
  · replace hr := ite_t c17 hr
    refine G.go tv_X12_isChanged 1 21 [(0, .ref (gAd E (56))), (1, .int (a0))] [.ref (gAd E (56))] rfl ?_
    refine G.rg r145 hE 32 (.ref (gAd E (71))) (by decide) rfl (tbd tv_X12_isChanged rfl) w_2097 ?_
    refine G.go tv_X12_isChanged 4 30 [(0, .ref (gAd E (56))), (1, .int (a0))] [.ref (gAd E (56)), .int (((128 : Int32)) * (a0)), .ref (gAd E (71))] rfl ?_
    refine G.rg r145 hE 43 (.ref (gAd E (78))) (by decide) rfl (tbd tv_X12_isChanged rfl) w_2108 ?_
    refine G.go tv_X12_isChanged 1 34 [(0, .ref (gAd E (56))), (1, .int (a0))] [.int ((0 : Int32)), .ref (gAd E (78)), .int (((128 : Int32)) * (a0)), .ref (gAd E (71))] rfl ?_
    obtain ⟨v147, hv147, hr⟩ := bnd_s hr
    refine G.callS [.ref (gAd E (71)), .int (((128 : Int32)) * (a0)), .ref (gAd E (78)), .int ((0 : Int32))] [] (k_X12_same_71_78 E _ hE R145 ⟨_, _, r145⟩ (((128 : Int32)) * (a0)) ((0 : Int32)) v147 hv147) cw_X12_280 w_2350 (Nat.le_of_ble_eq_true rfl) rfl (Nat.le_of_ble_eq_true rfl) (tbd tv_X12_isChanged rfl) (fun v147w f147 q147 => ?_) (fun _ _ h => h.elim)
    obtain ⟨rfl, ⟨az147, sy147, r147⟩, fa147⟩ := q147
    refine G.eqs [.int (v147)] rfl ?_
    refine G.if_ne 44 (tbd tv_X12_isChanged rfl) (by decide) (fun c37 => ?_) (fun c37 => ?_)
    · replace hr := ite_f c37 hr
      refine G.go tv_X12_isChanged 1 45 [(0, .ref (gAd E (56))), (1, .int (a0))] [.int ((0 : Int32))] rfl ?_
      cases hr
      exact G.iret rfl rfl ⟨rfl, ⟨_, _, r147⟩, ((Fr.rf.tr fa145 (fun _ h => h)).tr fa147 (fun _ h => h))⟩ (tbd tv_X12_isChanged rfl)
    · replace hr := ite_t c37 hr
      refine G.go tv_X12_isChanged 2 45 [(0, .ref (gAd E (56))), (1, .int (a0))] [.int ((1 : Int32))] rfl ?_
      cases hr
      exact G.iret rfl rfl ⟨rfl, ⟨_, _, r147⟩, ((Fr.rf.tr fa145 (fun _ h => h)).tr fa147 (fun _ h => h))⟩ (tbd tv_X12_isChanged rfl)
def tb_X12_changed : List (Nat × Instr × Nat) := [(0, .iconst 0, 1), (1, .istore_n 1, 1), (2, .iconst 0, 1), (3, .istore_n 2, 1), (4, .iload_n 2, 1), (5, .aload_n 0, 1), (6, .getfield 144, 3), (9, .if_icmp .ge 25, 3), (12, .aload_n 0, 1), (13, .iload_n 2, 1), (14, .invokevirtual 284, 3), (17, .ifCond .eq 9, 3), (20, .iload_n 1, 1), (21, .iconst 1, 1), (22, .iadd, 1), (23, .goto 4, 3), (26, .iload_n 1, 1), (27, .istore_n 1, 1), (28, .iinc 2 1, 3), (31, .goto (-27), 3), (34, .iload_n 1, 1), (35, .ireturn, 1)]
theorem tv_X12_changed : Tv cX12_changed tb_X12_changed := by
  unfold Tv
  decide +kernel
theorem w_2434 : Cond.methodLink "LedgerFilesModel" 284 yX12_isChanged ∈ TB := tp_10 128 (by decide +kernel) rfl
theorem w_2437 : Cond.code yX12_isChanged prog_14_method_36_code 2 (some .boolean) ∈ TB := tp_10 131 rfl rfl
theorem cw_X12_284 : Cw RX12 284 yX12_isChanged cX12_isChanged 2 (some .boolean) 1 := ⟨w_2434, w_2437, w_161, by decide +kernel, by decide +kernel, by decide⟩
theorem w_2436 : Cond.instanceMethod yX12_isChanged ∈ TB := tp_10 130 (by decide +kernel) rfl
theorem w_90 : Cond.selects "LedgerFilesModel" yX12_isChanged yX12_isChanged ∈ TB := tp_0 90 (by decide +kernel) rfl
def e_changed_4  : Nat → RfT → Int32 → Int32 → Option (Int32 × RfT)
  | 0, _, _, _ => none
  | n + 1, R, x1, x2 => if (rS R 33) ≤ x2 then some (x1, R) else bnd2 (e_isChanged R x2) (fun v150 R150 => if v150 = 0 then e_changed_4  n R150 x1 (x2 + (1 : Int32)) else e_changed_4  n R150 ((x1) + ((1 : Int32))) (x2 + (1 : Int32)))
def e_changed  (R : RfT) : Option (Int32 × RfT) := e_changed_4  fuL R ((0 : Int32)) ((0 : Int32))
set_option maxRecDepth 100000 in
set_option maxHeartbeats 4000000 in
theorem l_X12_changed_4 (E : gE) (f0 : Nat → va_E) (sz : Nat) (QA : Nat → Prop) (hE : 94 ≤ gN E) : ∀ (n : Nat), ∀ (R : RfT) (x1 : Int32) (x2 : Int32) (r : Int32) (R9 : RfT) (hr : e_changed_4  n R x1 x2 = some (r, R9)) (f : Nat → va_E) (w : RW E f R) (hf : Fr RfK f0 f), G E (4, yX12_changed, 3, (some .int), sz, QA) cX12_changed (gO E (4, yX12_changed, 3, (some .int), sz, QA) (fun v g => v = some (.int r) ∧ RW E g R9 ∧ Fr RfK f0 g, fun _ _ => False)) 4 [(0, .ref (gAd E (56))), (1, .int (x1)), (2, .int (x2))] [] f := by
  intro n
  induction n with
  | zero =>
    intro R x1 x2 r R9 hr f w hf
    cases hr
  | succ n ih =>
    intro R x1 x2 r R9 hr f w hf
    obtain ⟨az, sy, r0⟩ := w
    unfold e_changed_4 at hr
    refine G.go tv_X12_changed 2 6 [(0, .ref (gAd E (56))), (1, .int (x1)), (2, .int (x2))] [.ref (gAd E (56)), .int (x2)] rfl ?_
    refine G.rg r0 hE 33 (.int (rS R 33)) (by decide) rfl (tbd tv_X12_changed rfl) w_2098 ?_
    refine G.cmp_ge 34 (tbd tv_X12_changed rfl) (by decide) (fun c9 => ?_) (fun c9 => ?_)
    · replace hr := ite_t c9 hr
      refine G.go tv_X12_changed 1 35 [(0, .ref (gAd E (56))), (1, .int (x1)), (2, .int (x2))] [.int (x1)] rfl ?_
      cases hr
      exact G.iret rfl rfl ⟨rfl, ⟨_, _, r0⟩, hf⟩ (tbd tv_X12_changed rfl)
    · replace hr := ite_f c9 hr
      refine G.go tv_X12_changed 2 14 [(0, .ref (gAd E (56))), (1, .int (x1)), (2, .int (x2))] [.int (x2), .ref (gAd E (56))] rfl ?_
      obtain ⟨v150, R150, hv150, hr⟩ := bnd2_s hr
      refine G.callV (56) [.int (x2)] [] (k_X12_isChanged E _ hE R ⟨_, _, r0⟩ x2 v150 R150 hv150) cls_X12 (by omega) (r0.o) cw_X12_284 w_2436 w_90 (Nat.le_of_ble_eq_true rfl) rfl (Nat.le_of_ble_eq_true rfl) (tbd tv_X12_changed rfl) (fun v150w f150 q150 => ?_) (fun _ _ h => h.elim)
      obtain ⟨rfl, ⟨az150, sy150, r150⟩, fa150⟩ := q150
      refine G.eqs [.int (v150)] rfl ?_
      refine G.if_eq 26 (tbd tv_X12_changed rfl) (by decide) (fun c17 => ?_) (fun c17 => ?_)
      · replace hr := ite_t c17 hr
        refine G.go tv_X12_changed 4 4 [(0, .ref (gAd E (56))), (1, .int (x1)), (2, .int (x2 + (1 : Int32)))] [] rfl ?_
        refine G.less [(0, .ref (gAd E (56))), (1, .int (x1)), (2, .int (x2 + (1 : Int32)))] [0, 1, 2] rfl ?_
        exact ih _ _ _ _ _ hr _ ⟨_, _, r150⟩ (hf.tr fa150 (fun _ h => h))
      · replace hr := ite_f c17 hr
        refine G.go tv_X12_changed 7 4 [(0, .ref (gAd E (56))), (1, .int ((x1) + ((1 : Int32)))), (2, .int (x2 + (1 : Int32)))] [] rfl ?_
        refine G.less [(0, .ref (gAd E (56))), (1, .int ((x1) + ((1 : Int32)))), (2, .int (x2 + (1 : Int32)))] [0, 1, 2] rfl ?_
        exact ih _ _ _ _ _ hr _ ⟨_, _, r150⟩ (hf.tr fa150 (fun _ h => h))
set_option maxRecDepth 100000 in
set_option maxHeartbeats 4000000 in
theorem k_X12_changed (E : gE) (f : Nat → va_E) (hE : 94 ≤ gN E) (R : RfT) (w : RW E f R) (r : Int32) (R9 : RfT) (hr : e_changed R = some (r, R9)) : Ct E 4 yX12_changed cX12_changed 3 (some .int) [.ref (gAd E (56))] f (fun v g => v = some (.int r) ∧ RW E g R9 ∧ Fr RfK f g, fun _ _ => False) := by
  obtain ⟨az, sy, r0⟩ := w
  refine Ct.of (by decide) (Nat.le_of_ble_eq_true rfl) (fun sz => ?_)
  refine G.eql [(0, .ref (gAd E (56)))] rfl ?_
  unfold e_changed at hr
  refine G.go tv_X12_changed 4 4 [(0, .ref (gAd E (56))), (1, .int ((0 : Int32))), (2, .int ((0 : Int32)))] [] rfl ?_
  refine G.less [(0, .ref (gAd E (56))), (1, .int ((0 : Int32))), (2, .int ((0 : Int32)))] [0, 1, 2] rfl ?_
  exact l_X12_changed_4 E f sz _ hE _ _ _ _ _ _ hr _ ⟨_, _, r0⟩ Fr.rf
