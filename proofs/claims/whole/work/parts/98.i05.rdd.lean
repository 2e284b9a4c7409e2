def tb_X8_parse : List (Nat × Instr × Nat) := [(0, .aload_n 0, 1), (1, .iconst 0, 1), (2, .putfield 20, 3), (5, .iload_n 3, 1), (6, .iload_n 2, 1), (7, .isub, 1), (8, .iconst 1, 1), (9, .if_icmp .lt 20, 3), (12, .iload_n 3, 1), (13, .iload_n 2, 1), (14, .isub, 1), (15, .sipush 255, 3), (18, .if_icmp .gt 11, 3), (21, .aload_n 1, 1), (22, .iload_n 2, 1), (23, .baload, 1), (24, .bipush 47, 2), (26, .if_icmp .eq 5, 3), (29, .iconst 0, 1), (30, .ireturn, 1), (31, .iload_n 3, 1), (32, .iload_n 2, 1), (33, .isub, 1), (34, .iconst 1, 1), (35, .if_icmp .ne 5, 3), (38, .iconst 1, 1), (39, .ireturn, 1), (40, .iload_n 2, 1), (41, .iconst 1, 1), (42, .iadd, 1), (43, .istore 4, 2), (45, .iload 4, 2), (47, .istore 5, 2), (49, .iload 5, 2), (51, .iload_n 3, 1), (52, .if_icmp .gt 90, 3), (55, .iload 5, 2), (57, .iload_n 3, 1), (58, .if_icmp .eq 12, 3), (61, .aload_n 1, 1), (62, .iload 5, 2), (64, .baload, 1), (65, .bipush 47, 2), (67, .if_icmp .ne 69, 3), (70, .aload_n 0, 1), (71, .getfield 20, 3), (74, .bipush 16, 2), (76, .if_icmp .eq 17, 3), (79, .aload_n 1, 1), (80, .iload 4, 2), (82, .iload 5, 2), (84, .iload 4, 2), (86, .isub, 1), (87, .invokestatic 24, 3), (90, .ifCond .ne 5, 3), (93, .iconst 0, 1), (94, .ireturn, 1), (95, .aload_n 0, 1), (96, .getfield 9, 3), (99, .aload_n 0, 1), (100, .getfield 20, 3), (103, .iload 4, 2), (105, .iastore, 1), (106, .aload_n 0, 1), (107, .getfield 13, 3), (110, .aload_n 0, 1), (111, .getfield 20, 3), (114, .iload 5, 2), (116, .iload 4, 2), (118, .isub, 1), (119, .iastore, 1), (120, .aload_n 0, 1), (121, .dup, 1), (122, .getfield 20, 3), (125, .iconst 1, 1), (126, .iadd, 1), (127, .putfield 20, 3), (130, .iload 5, 2), (132, .iconst 1, 1), (133, .iadd, 1), (134, .istore 4, 2), (136, .iinc 5 1, 3), (139, .goto (-90), 3), (142, .iconst 1, 1), (143, .ireturn, 1)]
theorem tv_X8_parse : Tv cX8_parse tb_X8_parse := by
  unfold Tv
  decide +kernel
theorem w_1349 : Cond.methodLink "LedgerFiles$Path" 24 yX8_isName ∈ TB := tp_6 3 (by decide +kernel) rfl
theorem w_1351 : Cond.code yX8_isName prog_10_method_3_code 5 (some .boolean) ∈ TB := tp_6 5 rfl rfl
theorem cw_X8_24 : Cw RX8 24 yX8_isName cX8_isName 5 (some .boolean) 3 := ⟨w_1349, w_1351, w_148, by decide +kernel, by decide +kernel, by decide⟩
theorem w_1350 : Cond.static yX8_isName ∈ TB := tp_6 4 (by decide +kernel) rfl
def d_X8_parse_47_70 (N : Nat) (V : Nat → Rw) (self49 : CfT → Int32 → Int32 → Int32 → Option (Int32 × CfT)) (D : CfT) (x3 : Int32) (x4 : Int32) (x5 : Int32) : Option (Int32 × CfT) := if (cS D 4702) = ((16 : Int32)) then some ((0 : Int32), D) else bnd (d_X8_isName N V D (cA D 1) 1024 x4 ((x5) - (x4))) (fun v4 => if v4 = 0 then some ((0 : Int32), D) else stA D 48 16 (cS D 4702) x4 (fun D5 => stA D5 49 16 (cS D5 4702) ((x5) - (x4)) (fun D6 => ptS D6 4702 ((cS D6 4702) + ((1 : Int32))) (fun D7 => self49 D7 x3 ((x5) + ((1 : Int32))) (x5 + (1 : Int32))))))
def d_X8_parse_47_49 (N : Nat) (V : Nat → Rw) : Nat → CfT → Int32 → Int32 → Int32 → Option (Int32 × CfT)
  | 0, _, _, _, _ => none
  | n + 1, D, x3, x4, x5 => if x3 < x5 then some ((1 : Int32), D) else if x5 = x3 then d_X8_parse_47_70 N V (d_X8_parse_47_49 N V n) D x3 x4 x5 else ld (cA D 1) 1024 x5 (fun v3 => if v3 = ((47 : Int32)) then d_X8_parse_47_70 N V (d_X8_parse_47_49 N V n) D x3 x4 x5 else d_X8_parse_47_49 N V n D x3 x4 (x5 + (1 : Int32)))
def d_X8_parse_47 (N : Nat) (V : Nat → Rw) (D : CfT) (a1 : Int32) (a2 : Int32) : Option (Int32 × CfT) := ptS D 4702 ((0 : Int32)) (fun D1 => if ((a2) - (a1)) < ((1 : Int32)) then some ((0 : Int32), D1) else if ((255 : Int32)) < ((a2) - (a1)) then some ((0 : Int32), D1) else ld (cA D1 1) 1024 a1 (fun v2 => if v2 = ((47 : Int32)) then if ((a2) - (a1)) = ((1 : Int32)) then some ((1 : Int32), D1) else d_X8_parse_47_49 N V fuL D1 a2 ((a1) + ((1 : Int32))) ((a1) + ((1 : Int32))) else some ((0 : Int32), D1)))
set_option maxRecDepth 100000 in
set_option maxHeartbeats 4000000 in
theorem l_X8_parse_47_70 (E : gE) (f0 : Nat → va_E) (sz : Nat) (QA : Nat → Prop) (N B gr : Nat) (C0 : CfT) (A : MS) (hz : CfZ E N B gr) (self49 : CfT → Int32 → Int32 → Int32 → Option (Int32 × CfT)) (hs49 : ∀ (D : CfT) (x3 : Int32) (x4 : Int32) (x5 : Int32) (r : Int32) (D9 : CfT) (hr : self49 D x3 x4 x5 = some (r, D9)) (f : Nat → va_E) (C : CfT) (h : CfV E f N B gr C) (hD : Dq D C) (hA : AR N B gr A C) (hR : Rq C0 C) (hf : Fr CfK f0 f), G E (3, yX8_parse, 6, (some .boolean), sz, QA) cX8_parse (gO E (3, yX8_parse, 6, (some .boolean), sz, QA) (fun v g => v = some (.int r) ∧ ST E N B gr f0 C0 A D9 g, fun _ _ => False)) 49 [(0, .ref (gAd E (47))), (1, .ref (gAd E (1))), (3, .int (x3)), (4, .int (x4)), (5, .int (x5))] [] f) : ∀ (D : CfT) (x3 : Int32) (x4 : Int32) (x5 : Int32) (r : Int32) (D9 : CfT) (hr : d_X8_parse_47_70 N (vA A) self49 D x3 x4 x5 = some (r, D9)) (f : Nat → va_E) (C : CfT) (h : CfV E f N B gr C) (hD : Dq D C) (hA : AR N B gr A C) (hR : Rq C0 C) (hf : Fr CfK f0 f), G E (3, yX8_parse, 6, (some .boolean), sz, QA) cX8_parse (gO E (3, yX8_parse, 6, (some .boolean), sz, QA) (fun v g => v = some (.int r) ∧ ST E N B gr f0 C0 A D9 g, fun _ _ => False)) 70 [(0, .ref (gAd E (47))), (1, .ref (gAd E (1))), (3, .int (x3)), (4, .int (x4)), (5, .int (x5))] [] f := by
  obtain ⟨z1, z2, z3, z4, z5, z6, z7⟩ := id hz
  intro D x3 x4 x5 r D9 hr f C h hD hA hR hf
  unfold d_X8_parse_47_70 at hr
  refine G.go tv_X8_parse 1 71 [(0, .ref (gAd E (47))), (1, .ref (gAd E (1))), (3, .int (x3)), (4, .int (x4)), (5, .int (x5))] [.ref (gAd E (47))] rfl ?_
  refine G.getf cls_X8 (47) 2 (by omega) (h.q47) (by decide) rfl (tbd tv_X8_parse rfl) w_196 ?_
  refine G.eq1 (b := cS D 4702) (hD.1 4702 (by decide)) ?_
  refine G.go tv_X8_parse 1 76 [(0, .ref (gAd E (47))), (1, .ref (gAd E (1))), (3, .int (x3)), (4, .int (x4)), (5, .int (x5))] [.int ((16 : Int32)), .int (cS D 4702)] rfl ?_
  refine G.cmp_eq 93 (tbd tv_X8_parse rfl) (by decide) (fun c76 => ?_) (fun c76 => ?_)
  · replace hr := ite_t c76 hr
    refine G.go tv_X8_parse 1 94 [(0, .ref (gAd E (47))), (1, .ref (gAd E (1))), (3, .int (x3)), (4, .int (x4)), (5, .int (x5))] [.int ((0 : Int32))] rfl ?_
    cases hr
    exact G.iret rfl rfl ⟨rfl, C, h, hD, hA, hR, hf⟩ (tbd tv_X8_parse rfl)
  · replace hr := ite_f c76 hr
    refine G.go tv_X8_parse 5 87 [(0, .ref (gAd E (47))), (1, .ref (gAd E (1))), (3, .int (x3)), (4, .int (x4)), (5, .int (x5))] [.int ((x5) - (x4)), .int (x4), .ref (gAd E (1))] rfl ?_
    obtain ⟨v4, hv4, hr⟩ := bnd_s hr
    refine G.callS [.ref (gAd E (1)), .int (x4), .int ((x5) - (x4))] [] (k_X8_isName E _ N B gr C D A hz h hD hA 1 1024 (cA D 1) ((ArK.tp hD)) x4 ((x5) - (x4)) v4 hv4) cw_X8_24 w_1350 (Nat.le_of_ble_eq_true rfl) rfl (Nat.le_of_ble_eq_true rfl) (tbd tv_X8_parse rfl) (fun v4w f4 q4 => ?_) (fun _ _ h => h.elim)
    obtain ⟨rfl, ha4, fa4⟩ := q4
    refine G.eqs [.int (v4)] rfl ?_
    refine G.if_ne 95 (tbd tv_X8_parse rfl) (by decide) (fun c90 => ?_) (fun c90 => ?_)
    · replace hr := ite_f c90 hr
      refine G.go tv_X8_parse 1 96 [(0, .ref (gAd E (47))), (1, .ref (gAd E (1))), (3, .int (x3)), (4, .int (x4)), (5, .int (x5))] [.ref (gAd E (47))] rfl ?_
      refine G.getf cls_X8 (47) 0 (by omega) (ha4.q47) (by decide) rfl (tbd tv_X8_parse rfl) w_192 ?_
      refine G.go tv_X8_parse 1 100 [(0, .ref (gAd E (47))), (1, .ref (gAd E (1))), (3, .int (x3)), (4, .int (x4)), (5, .int (x5))] [.ref (gAd E (47)), .ref (gAd E (48))] rfl ?_
      refine G.getf cls_X8 (47) 2 (by omega) (ha4.q47) (by decide) rfl (tbd tv_X8_parse rfl) w_196 ?_
      refine G.eq1 (b := cS D 4702) (hD.1 4702 (by decide)) ?_
      refine G.go tv_X8_parse 1 105 [(0, .ref (gAd E (47))), (1, .ref (gAd E (1))), (3, .int (x3)), (4, .int (x4)), (5, .int (x5))] [.int (x4), .int (cS D 4702), .ref (gAd E (48))] rfl ?_
      obtain ⟨D5, b5, eD5, hr⟩ := stA_s hr
      refine G.iast (48) (by omega) (ha4.q48) b5 (tbd tv_X8_parse rfl) ?_
      refine G.gen (P := ST E N B gr f0 C0 A D5) ⟨sA C 48 (upd (cA C 48) (cS D 4702).toNatClampNeg x4), ha4.p48 _, (by rw [eD5]; exact hD.au (by decide)), hA.sm (Sd.a (by decide) : Sd C (sA C 48 (upd (cA C 48) (cS D 4702).toNatClampNeg x4))), hR.tr ⟨rfl, rfl⟩, Fr.c (hf.tr fa4 (fun _ h => h)) (by first | exact Or.inl (by decide) | exact Or.inr (by omega))⟩ (fun u5 p5 => ?_)
      obtain ⟨C5, h5, hD5, hA5, hR5, k5⟩ := p5
      refine G.go tv_X8_parse 1 107 [(0, .ref (gAd E (47))), (1, .ref (gAd E (1))), (3, .int (x3)), (4, .int (x4)), (5, .int (x5))] [.ref (gAd E (47))] rfl ?_
      refine G.getf cls_X8 (47) 1 (by omega) (h5.q47) (by decide) rfl (tbd tv_X8_parse rfl) w_194 ?_
      refine G.go tv_X8_parse 1 111 [(0, .ref (gAd E (47))), (1, .ref (gAd E (1))), (3, .int (x3)), (4, .int (x4)), (5, .int (x5))] [.ref (gAd E (47)), .ref (gAd E (49))] rfl ?_
      refine G.getf cls_X8 (47) 2 (by omega) (h5.q47) (by decide) rfl (tbd tv_X8_parse rfl) w_196 ?_
      refine G.eq1 (b := cS D5 4702) (hD5.1 4702 (by decide)) ?_
      refine G.go tv_X8_parse 3 119 [(0, .ref (gAd E (47))), (1, .ref (gAd E (1))), (3, .int (x3)), (4, .int (x4)), (5, .int (x5))] [.int ((x5) - (x4)), .int (cS D5 4702), .ref (gAd E (49))] rfl ?_
      obtain ⟨D6, b6, eD6, hr⟩ := stA_s hr
      refine G.iast (49) (by omega) (h5.q49) b6 (tbd tv_X8_parse rfl) ?_
      refine G.gen (P := ST E N B gr f0 C0 A D6) ⟨sA C5 49 (upd (cA C5 49) (cS D5 4702).toNatClampNeg ((x5) - (x4))), h5.p49 _, (by rw [eD6]; exact hD5.au (by decide)), hA5.sm (Sd.a (by decide) : Sd C5 (sA C5 49 (upd (cA C5 49) (cS D5 4702).toNatClampNeg ((x5) - (x4))))), hR5.tr ⟨rfl, rfl⟩, Fr.c k5 (by first | exact Or.inl (by decide) | exact Or.inr (by omega))⟩ (fun u6 p6 => ?_)
      obtain ⟨C6, h6, hD6, hA6, hR6, k6⟩ := p6
      refine G.go tv_X8_parse 2 122 [(0, .ref (gAd E (47))), (1, .ref (gAd E (1))), (3, .int (x3)), (4, .int (x4)), (5, .int (x5))] [.ref (gAd E (47)), .ref (gAd E (47))] rfl ?_
      refine G.getf cls_X8 (47) 2 (by omega) (h6.q47) (by decide) rfl (tbd tv_X8_parse rfl) w_196 ?_
      refine G.eq1 (b := cS D6 4702) (hD6.1 4702 (by decide)) ?_
      refine G.go tv_X8_parse 2 127 [(0, .ref (gAd E (47))), (1, .ref (gAd E (1))), (3, .int (x3)), (4, .int (x4)), (5, .int (x5))] [.int ((cS D6 4702) + ((1 : Int32))), .ref (gAd E (47))] rfl ?_
      obtain ⟨D7, eD7, hr⟩ := ptS_s hr
      refine G.putfS cls_X8 (47) 2 [.ref (gAd E 48), .ref (gAd E 49), .int ((cS D6 4702) + ((1 : Int32)))] (by omega) (h6.q47) rfl (by decide) rfl rfl rfl (Nat.le_of_ble_eq_true rfl) (tbd tv_X8_parse rfl) w_196 ?_
      refine G.gen (P := ST E N B gr f0 C0 A D7) ⟨sS C6 4702 ((cS D6 4702) + ((1 : Int32))), h6.s4702 _, (by rw [eD7]; exact hD6.ss), hA6.sm (Sd.s (by decide) : Sd C6 (sS C6 4702 ((cS D6 4702) + ((1 : Int32))))), hR6.tr ⟨rfl, rfl⟩, Fr.c k6 (by first | exact Or.inl (by decide) | exact Or.inr (by omega))⟩ (fun u7 p7 => ?_)
      obtain ⟨C7, h7, hD7, hA7, hR7, k7⟩ := p7
      refine G.go tv_X8_parse 6 49 [(0, .ref (gAd E (47))), (1, .ref (gAd E (1))), (3, .int (x3)), (4, .int ((x5) + ((1 : Int32)))), (5, .int (x5 + (1 : Int32)))] [] rfl ?_
      refine G.less [(0, .ref (gAd E (47))), (1, .ref (gAd E (1))), (3, .int (x3)), (4, .int ((x5) + ((1 : Int32)))), (5, .int (x5 + (1 : Int32)))] [0, 1, 2, 3, 4] rfl ?_
      exact hs49 _ _ _ _ _ _ hr _ _ h7 hD7 hA7 hR7 k7
    · replace hr := ite_t c90 hr
      refine G.go tv_X8_parse 1 94 [(0, .ref (gAd E (47))), (1, .ref (gAd E (1))), (3, .int (x3)), (4, .int (x4)), (5, .int (x5))] [.int ((0 : Int32))] rfl ?_
      cases hr
      exact G.iret rfl rfl ⟨rfl, C, ha4, hD, hA, hR, (hf.tr fa4 (fun _ h => h))⟩ (tbd tv_X8_parse rfl)
set_option maxRecDepth 100000 in
set_option maxHeartbeats 4000000 in
theorem l_X8_parse_47_49 (E : gE) (f0 : Nat → va_E) (sz : Nat) (QA : Nat → Prop) (N B gr : Nat) (C0 : CfT) (A : MS) (hz : CfZ E N B gr) : ∀ (n : Nat), ∀ (D : CfT) (x3 : Int32) (x4 : Int32) (x5 : Int32) (r : Int32) (D9 : CfT) (hr : d_X8_parse_47_49 N (vA A) n D x3 x4 x5 = some (r, D9)) (f : Nat → va_E) (C : CfT) (h : CfV E f N B gr C) (hD : Dq D C) (hA : AR N B gr A C) (hR : Rq C0 C) (hf : Fr CfK f0 f), G E (3, yX8_parse, 6, (some .boolean), sz, QA) cX8_parse (gO E (3, yX8_parse, 6, (some .boolean), sz, QA) (fun v g => v = some (.int r) ∧ ST E N B gr f0 C0 A D9 g, fun _ _ => False)) 49 [(0, .ref (gAd E (47))), (1, .ref (gAd E (1))), (3, .int (x3)), (4, .int (x4)), (5, .int (x5))] [] f := by
  obtain ⟨z1, z2, z3, z4, z5, z6, z7⟩ := id hz
  intro n
  induction n with
  | zero =>
    intro D x3 x4 x5 r D9 hr f C h hD hA hR hf
    cases hr
  | succ n ih =>
    intro D x3 x4 x5 r D9 hr f C h hD hA hR hf
    unfold d_X8_parse_47_49 at hr
    refine G.go tv_X8_parse 2 52 [(0, .ref (gAd E (47))), (1, .ref (gAd E (1))), (3, .int (x3)), (4, .int (x4)), (5, .int (x5))] [.int (x3), .int (x5)] rfl ?_
    refine G.cmp_gt 142 (tbd tv_X8_parse rfl) (by decide) (fun c52 => ?_) (fun c52 => ?_)
    · replace hr := ite_t c52 hr
      refine G.go tv_X8_parse 1 143 [(0, .ref (gAd E (47))), (1, .ref (gAd E (1))), (3, .int (x3)), (4, .int (x4)), (5, .int (x5))] [.int ((1 : Int32))] rfl ?_
      cases hr
      exact G.iret rfl rfl ⟨rfl, C, h, hD, hA, hR, hf⟩ (tbd tv_X8_parse rfl)
    · replace hr := ite_f c52 hr
      refine G.go tv_X8_parse 2 58 [(0, .ref (gAd E (47))), (1, .ref (gAd E (1))), (3, .int (x3)), (4, .int (x4)), (5, .int (x5))] [.int (x3), .int (x5)] rfl ?_
      refine G.cmp_eq 70 (tbd tv_X8_parse rfl) (by decide) (fun c58 => ?_) (fun c58 => ?_)
      · replace hr := ite_t c58 hr
        refine G.less [(0, .ref (gAd E (47))), (1, .ref (gAd E (1))), (3, .int (x3)), (4, .int (x4)), (5, .int (x5))] [0, 1, 2, 3, 4] rfl ?_
        exact l_X8_parse_47_70 E f0 sz QA N B gr C0 A hz _ ih _ _ _ _ _ _ hr _ _ h hD hA hR hf
      · replace hr := ite_f c58 hr
        refine G.go tv_X8_parse 2 64 [(0, .ref (gAd E (47))), (1, .ref (gAd E (1))), (3, .int (x3)), (4, .int (x4)), (5, .int (x5))] [.int (x5), .ref (gAd E (1))] rfl ?_
        obtain ⟨v3, b3, e3, hr⟩ := ld_s hr
        refine G.baldE (1) (by omega) ((h.q1).trans (congrArg (oB (gDA E) (1024)) (hD.2 1 (by decide)))) b3 e3 (tbd tv_X8_parse rfl) ?_
        refine G.go tv_X8_parse 1 67 [(0, .ref (gAd E (47))), (1, .ref (gAd E (1))), (3, .int (x3)), (4, .int (x4)), (5, .int (x5))] [.int ((47 : Int32)), .int (v3)] rfl ?_
        refine G.cmp_ne 136 (tbd tv_X8_parse rfl) (by decide) (fun c67 => ?_) (fun c67 => ?_)
        · replace hr := ite_f c67 hr
          refine G.go tv_X8_parse 2 49 [(0, .ref (gAd E (47))), (1, .ref (gAd E (1))), (3, .int (x3)), (4, .int (x4)), (5, .int (x5 + (1 : Int32)))] [] rfl ?_
          refine G.less [(0, .ref (gAd E (47))), (1, .ref (gAd E (1))), (3, .int (x3)), (4, .int (x4)), (5, .int (x5 + (1 : Int32)))] [0, 1, 2, 3, 4] rfl ?_
          exact ih _ _ _ _ _ _ hr _ _ h hD hA hR hf
        · replace hr := ite_t c67 hr
          refine G.less [(0, .ref (gAd E (47))), (1, .ref (gAd E (1))), (3, .int (x3)), (4, .int (x4)), (5, .int (x5))] [0, 1, 2, 3, 4] rfl ?_
          exact l_X8_parse_47_70 E f0 sz QA N B gr C0 A hz _ ih _ _ _ _ _ _ hr _ _ h hD hA hR hf
set_option maxRecDepth 100000 in
set_option maxHeartbeats 4000000 in
theorem k_X8_parse_47 (E : gE) (f : Nat → va_E) (N B gr : Nat) (C D : CfT) (A : MS) (hz : CfZ E N B gr) (h : CfV E f N B gr C) (hD : Dq D C) (hA : AR N B gr A C) (a1 : Int32) (a2 : Int32) (r : Int32) (D9 : CfT) (hr : d_X8_parse_47 N (vA A) D a1 a2 = some (r, D9)) : Ct E 3 yX8_parse cX8_parse 6 (some .boolean) [.ref (gAd E (47)), .ref (gAd E (1)), .int (a1), .int (a2)] f (fun v g => v = some (.int r) ∧ ST E N B gr f C A D9 g, fun _ _ => False) := by
  obtain ⟨z1, z2, z3, z4, z5, z6, z7⟩ := id hz
  refine Ct.of (by decide) (Nat.le_of_ble_eq_true rfl) (fun sz => ?_)
  refine G.eql [(0, .ref (gAd E (47))), (1, .ref (gAd E (1))), (2, .int (a1)), (3, .int (a2))] rfl ?_
  unfold d_X8_parse_47 at hr
  refine G.go tv_X8_parse 2 2 [(0, .ref (gAd E (47))), (1, .ref (gAd E (1))), (2, .int (a1)), (3, .int (a2))] [.int ((0 : Int32)), .ref (gAd E (47))] rfl ?_
  obtain ⟨D1, eD1, hr⟩ := ptS_s hr
  refine G.putfS cls_X8 (47) 2 [.ref (gAd E 48), .ref (gAd E 49), .int ((0 : Int32))] (by omega) (h.q47) rfl (by decide) rfl rfl rfl (Nat.le_of_ble_eq_true rfl) (tbd tv_X8_parse rfl) w_196 ?_
  refine G.gen (P := ST E N B gr f C A D1) ⟨sS C 4702 ((0 : Int32)), h.s4702 _, (by rw [eD1]; exact hD.ss), hA.sm (Sd.s (by decide) : Sd C (sS C 4702 ((0 : Int32)))), Rq.rf.tr ⟨rfl, rfl⟩, Fr.c Fr.rf (by first | exact Or.inl (by decide) | exact Or.inr (by omega))⟩ (fun u1 p1 => ?_)
  obtain ⟨C1, h1, hD1, hA1, hR1, k1⟩ := p1
  refine G.go tv_X8_parse 4 9 [(0, .ref (gAd E (47))), (1, .ref (gAd E (1))), (2, .int (a1)), (3, .int (a2))] [.int ((1 : Int32)), .int ((a2) - (a1))] rfl ?_
  refine G.cmp_lt 29 (tbd tv_X8_parse rfl) (by decide) (fun c9 => ?_) (fun c9 => ?_)
  · replace hr := ite_t c9 hr
    refine G.go tv_X8_parse 1 30 [(0, .ref (gAd E (47))), (1, .ref (gAd E (1))), (2, .int (a1)), (3, .int (a2))] [.int ((0 : Int32))] rfl ?_
    cases hr
    exact G.iret rfl rfl ⟨rfl, C1, h1, hD1, hA1, hR1, k1⟩ (tbd tv_X8_parse rfl)
  · replace hr := ite_f c9 hr
    refine G.go tv_X8_parse 4 18 [(0, .ref (gAd E (47))), (1, .ref (gAd E (1))), (2, .int (a1)), (3, .int (a2))] [.int ((255 : Int32)), .int ((a2) - (a1))] rfl ?_
    refine G.cmp_gt 29 (tbd tv_X8_parse rfl) (by decide) (fun c18 => ?_) (fun c18 => ?_)
    · replace hr := ite_t c18 hr
      refine G.go tv_X8_parse 1 30 [(0, .ref (gAd E (47))), (1, .ref (gAd E (1))), (2, .int (a1)), (3, .int (a2))] [.int ((0 : Int32))] rfl ?_
      cases hr
      exact G.iret rfl rfl ⟨rfl, C1, h1, hD1, hA1, hR1, k1⟩ (tbd tv_X8_parse rfl)
    · replace hr := ite_f c18 hr
      refine G.go tv_X8_parse 2 23 [(0, .ref (gAd E (47))), (1, .ref (gAd E (1))), (2, .int (a1)), (3, .int (a2))] [.int (a1), .ref (gAd E (1))] rfl ?_
      obtain ⟨v2, b2, e2, hr⟩ := ld_s hr
      refine G.baldE (1) (by omega) ((h1.q1).trans (congrArg (oB (gDA E) (1024)) (hD1.2 1 (by decide)))) b2 e2 (tbd tv_X8_parse rfl) ?_
      refine G.go tv_X8_parse 1 26 [(0, .ref (gAd E (47))), (1, .ref (gAd E (1))), (2, .int (a1)), (3, .int (a2))] [.int ((47 : Int32)), .int (v2)] rfl ?_
      refine G.cmp_eq 31 (tbd tv_X8_parse rfl) (by decide) (fun c26 => ?_) (fun c26 => ?_)
      · replace hr := ite_t c26 hr
        refine G.go tv_X8_parse 4 35 [(0, .ref (gAd E (47))), (1, .ref (gAd E (1))), (2, .int (a1)), (3, .int (a2))] [.int ((1 : Int32)), .int ((a2) - (a1))] rfl ?_
        refine G.cmp_ne 40 (tbd tv_X8_parse rfl) (by decide) (fun c35 => ?_) (fun c35 => ?_)
        · replace hr := ite_f c35 hr
          refine G.go tv_X8_parse 6 49 [(0, .ref (gAd E (47))), (1, .ref (gAd E (1))), (2, .int (a1)), (3, .int (a2)), (4, .int ((a1) + ((1 : Int32)))), (5, .int ((a1) + ((1 : Int32))))] [] rfl ?_
          refine G.less [(0, .ref (gAd E (47))), (1, .ref (gAd E (1))), (3, .int (a2)), (4, .int ((a1) + ((1 : Int32)))), (5, .int ((a1) + ((1 : Int32))))] [0, 1, 3, 4, 5] rfl ?_
          exact l_X8_parse_47_49 E f sz _ N B gr C A hz _ _ _ _ _ _ _ hr _ _ h1 hD1 hA1 hR1 k1
        · replace hr := ite_t c35 hr
          refine G.go tv_X8_parse 1 39 [(0, .ref (gAd E (47))), (1, .ref (gAd E (1))), (2, .int (a1)), (3, .int (a2))] [.int ((1 : Int32))] rfl ?_
          cases hr
          exact G.iret rfl rfl ⟨rfl, C1, h1, hD1, hA1, hR1, k1⟩ (tbd tv_X8_parse rfl)
      · replace hr := ite_f c26 hr
        refine G.go tv_X8_parse 1 30 [(0, .ref (gAd E (47))), (1, .ref (gAd E (1))), (2, .int (a1)), (3, .int (a2))] [.int ((0 : Int32))] rfl ?_
        cases hr
        exact G.iret rfl rfl ⟨rfl, C1, h1, hD1, hA1, hR1, k1⟩ (tbd tv_X8_parse rfl)
def d_X8_parse_50_70 (N : Nat) (V : Nat → Rw) (self49 : CfT → Int32 → Int32 → Int32 → Option (Int32 × CfT)) (D : CfT) (x3 : Int32) (x4 : Int32) (x5 : Int32) : Option (Int32 × CfT) := if (cS D 5002) = ((16 : Int32)) then some ((0 : Int32), D) else bnd (d_X8_isName N V D (cA D 1) 1024 x4 ((x5) - (x4))) (fun v11 => if v11 = 0 then some ((0 : Int32), D) else stA D 51 16 (cS D 5002) x4 (fun D12 => stA D12 52 16 (cS D12 5002) ((x5) - (x4)) (fun D13 => ptS D13 5002 ((cS D13 5002) + ((1 : Int32))) (fun D14 => self49 D14 x3 ((x5) + ((1 : Int32))) (x5 + (1 : Int32))))))
def d_X8_parse_50_49 (N : Nat) (V : Nat → Rw) : Nat → CfT → Int32 → Int32 → Int32 → Option (Int32 × CfT)
  | 0, _, _, _, _ => none
  | n + 1, D, x3, x4, x5 => if x3 < x5 then some ((1 : Int32), D) else if x5 = x3 then d_X8_parse_50_70 N V (d_X8_parse_50_49 N V n) D x3 x4 x5 else ld (cA D 1) 1024 x5 (fun v10 => if v10 = ((47 : Int32)) then d_X8_parse_50_70 N V (d_X8_parse_50_49 N V n) D x3 x4 x5 else d_X8_parse_50_49 N V n D x3 x4 (x5 + (1 : Int32)))
def d_X8_parse_50 (N : Nat) (V : Nat → Rw) (D : CfT) (a1 : Int32) (a2 : Int32) : Option (Int32 × CfT) := ptS D 5002 ((0 : Int32)) (fun D8 => if ((a2) - (a1)) < ((1 : Int32)) then some ((0 : Int32), D8) else if ((255 : Int32)) < ((a2) - (a1)) then some ((0 : Int32), D8) else ld (cA D8 1) 1024 a1 (fun v9 => if v9 = ((47 : Int32)) then if ((a2) - (a1)) = ((1 : Int32)) then some ((1 : Int32), D8) else d_X8_parse_50_49 N V fuL D8 a2 ((a1) + ((1 : Int32))) ((a1) + ((1 : Int32))) else some ((0 : Int32), D8)))
set_option maxRecDepth 100000 in
set_option maxHeartbeats 4000000 in
theorem l_X8_parse_50_70 (E : gE) (f0 : Nat → va_E) (sz : Nat) (QA : Nat → Prop) (N B gr : Nat) (C0 : CfT) (A : MS) (hz : CfZ E N B gr) (self49 : CfT → Int32 → Int32 → Int32 → Option (Int32 × CfT)) (hs49 : ∀ (D : CfT) (x3 : Int32) (x4 : Int32) (x5 : Int32) (r : Int32) (D9 : CfT) (hr : self49 D x3 x4 x5 = some (r, D9)) (f : Nat → va_E) (C : CfT) (h : CfV E f N B gr C) (hD : Dq D C) (hA : AR N B gr A C) (hR : Rq C0 C) (hf : Fr CfK f0 f), G E (3, yX8_parse, 6, (some .boolean), sz, QA) cX8_parse (gO E (3, yX8_parse, 6, (some .boolean), sz, QA) (fun v g => v = some (.int r) ∧ ST E N B gr f0 C0 A D9 g, fun _ _ => False)) 49 [(0, .ref (gAd E (50))), (1, .ref (gAd E (1))), (3, .int (x3)), (4, .int (x4)), (5, .int (x5))] [] f) : ∀ (D : CfT) (x3 : Int32) (x4 : Int32) (x5 : Int32) (r : Int32) (D9 : CfT) (hr : d_X8_parse_50_70 N (vA A) self49 D x3 x4 x5 = some (r, D9)) (f : Nat → va_E) (C : CfT) (h : CfV E f N B gr C) (hD : Dq D C) (hA : AR N B gr A C) (hR : Rq C0 C) (hf : Fr CfK f0 f), G E (3, yX8_parse, 6, (some .boolean), sz, QA) cX8_parse (gO E (3, yX8_parse, 6, (some .boolean), sz, QA) (fun v g => v = some (.int r) ∧ ST E N B gr f0 C0 A D9 g, fun _ _ => False)) 70 [(0, .ref (gAd E (50))), (1, .ref (gAd E (1))), (3, .int (x3)), (4, .int (x4)), (5, .int (x5))] [] f := by
  obtain ⟨z1, z2, z3, z4, z5, z6, z7⟩ := id hz
  intro D x3 x4 x5 r D9 hr f C h hD hA hR hf
  unfold d_X8_parse_50_70 at hr
  refine G.go tv_X8_parse 1 71 [(0, .ref (gAd E (50))), (1, .ref (gAd E (1))), (3, .int (x3)), (4, .int (x4)), (5, .int (x5))] [.ref (gAd E (50))] rfl ?_
  refine G.getf cls_X8 (50) 2 (by omega) (h.q50) (by decide) rfl (tbd tv_X8_parse rfl) w_196 ?_
  refine G.eq1 (b := cS D 5002) (hD.1 5002 (by decide)) ?_
  refine G.go tv_X8_parse 1 76 [(0, .ref (gAd E (50))), (1, .ref (gAd E (1))), (3, .int (x3)), (4, .int (x4)), (5, .int (x5))] [.int ((16 : Int32)), .int (cS D 5002)] rfl ?_
  refine G.cmp_eq 93 (tbd tv_X8_parse rfl) (by decide) (fun c76 => ?_) (fun c76 => ?_)
  · replace hr := ite_t c76 hr
    refine G.go tv_X8_parse 1 94 [(0, .ref (gAd E (50))), (1, .ref (gAd E (1))), (3, .int (x3)), (4, .int (x4)), (5, .int (x5))] [.int ((0 : Int32))] rfl ?_
    cases hr
    exact G.iret rfl rfl ⟨rfl, C, h, hD, hA, hR, hf⟩ (tbd tv_X8_parse rfl)
  · replace hr := ite_f c76 hr
    refine G.go tv_X8_parse 5 87 [(0, .ref (gAd E (50))), (1, .ref (gAd E (1))), (3, .int (x3)), (4, .int (x4)), (5, .int (x5))] [.int ((x5) - (x4)), .int (x4), .ref (gAd E (1))] rfl ?_
    obtain ⟨v11, hv11, hr⟩ := bnd_s hr
    refine G.callS [.ref (gAd E (1)), .int (x4), .int ((x5) - (x4))] [] (k_X8_isName E _ N B gr C D A hz h hD hA 1 1024 (cA D 1) ((ArK.tp hD)) x4 ((x5) - (x4)) v11 hv11) cw_X8_24 w_1350 (Nat.le_of_ble_eq_true rfl) rfl (Nat.le_of_ble_eq_true rfl) (tbd tv_X8_parse rfl) (fun v11w f11 q11 => ?_) (fun _ _ h => h.elim)
    obtain ⟨rfl, ha11, fa11⟩ := q11
    refine G.eqs [.int (v11)] rfl ?_
    refine G.if_ne 95 (tbd tv_X8_parse rfl) (by decide) (fun c90 => ?_) (fun c90 => ?_)
    · replace hr := ite_f c90 hr
      refine G.go tv_X8_parse 1 96 [(0, .ref (gAd E (50))), (1, .ref (gAd E (1))), (3, .int (x3)), (4, .int (x4)), (5, .int (x5))] [.ref (gAd E (50))] rfl ?_
      refine G.getf cls_X8 (50) 0 (by omega) (ha11.q50) (by decide) rfl (tbd tv_X8_parse rfl) w_192 ?_
      refine G.go tv_X8_parse 1 100 [(0, .ref (gAd E (50))), (1, .ref (gAd E (1))), (3, .int (x3)), (4, .int (x4)), (5, .int (x5))] [.ref (gAd E (50)), .ref (gAd E (51))] rfl ?_
      refine G.getf cls_X8 (50) 2 (by omega) (ha11.q50) (by decide) rfl (tbd tv_X8_parse rfl) w_196 ?_
      refine G.eq1 (b := cS D 5002) (hD.1 5002 (by decide)) ?_
      refine G.go tv_X8_parse 1 105 [(0, .ref (gAd E (50))), (1, .ref (gAd E (1))), (3, .int (x3)), (4, .int (x4)), (5, .int (x5))] [.int (x4), .int (cS D 5002), .ref (gAd E (51))] rfl ?_
      obtain ⟨D12, b12, eD12, hr⟩ := stA_s hr
      refine G.iast (51) (by omega) (ha11.q51) b12 (tbd tv_X8_parse rfl) ?_
      refine G.gen (P := ST E N B gr f0 C0 A D12) ⟨sA C 51 (upd (cA C 51) (cS D 5002).toNatClampNeg x4), ha11.p51 _, (by rw [eD12]; exact hD.au (by decide)), hA.sm (Sd.a (by decide) : Sd C (sA C 51 (upd (cA C 51) (cS D 5002).toNatClampNeg x4))), hR.tr ⟨rfl, rfl⟩, Fr.c (hf.tr fa11 (fun _ h => h)) (by first | exact Or.inl (by decide) | exact Or.inr (by omega))⟩ (fun u12 p12 => ?_)
      obtain ⟨C12, h12, hD12, hA12, hR12, k12⟩ := p12
      refine G.go tv_X8_parse 1 107 [(0, .ref (gAd E (50))), (1, .ref (gAd E (1))), (3, .int (x3)), (4, .int (x4)), (5, .int (x5))] [.ref (gAd E (50))] rfl ?_
      refine G.getf cls_X8 (50) 1 (by omega) (h12.q50) (by decide) rfl (tbd tv_X8_parse rfl) w_194 ?_
      refine G.go tv_X8_parse 1 111 [(0, .ref (gAd E (50))), (1, .ref (gAd E (1))), (3, .int (x3)), (4, .int (x4)), (5, .int (x5))] [.ref (gAd E (50)), .ref (gAd E (52))] rfl ?_
      refine G.getf cls_X8 (50) 2 (by omega) (h12.q50) (by decide) rfl (tbd tv_X8_parse rfl) w_196 ?_
      refine G.eq1 (b := cS D12 5002) (hD12.1 5002 (by decide)) ?_
      refine G.go tv_X8_parse 3 119 [(0, .ref (gAd E (50))), (1, .ref (gAd E (1))), (3, .int (x3)), (4, .int (x4)), (5, .int (x5))] [.int ((x5) - (x4)), .int (cS D12 5002), .ref (gAd E (52))] rfl ?_
      obtain ⟨D13, b13, eD13, hr⟩ := stA_s hr
      refine G.iast (52) (by omega) (h12.q52) b13 (tbd tv_X8_parse rfl) ?_
      refine G.gen (P := ST E N B gr f0 C0 A D13) ⟨sA C12 52 (upd (cA C12 52) (cS D12 5002).toNatClampNeg ((x5) - (x4))), h12.p52 _, (by rw [eD13]; exact hD12.au (by decide)), hA12.sm (Sd.a (by decide) : Sd C12 (sA C12 52 (upd (cA C12 52) (cS D12 5002).toNatClampNeg ((x5) - (x4))))), hR12.tr ⟨rfl, rfl⟩, Fr.c k12 (by first | exact Or.inl (by decide) | exact Or.inr (by omega))⟩ (fun u13 p13 => ?_)
      obtain ⟨C13, h13, hD13, hA13, hR13, k13⟩ := p13
      refine G.go tv_X8_parse 2 122 [(0, .ref (gAd E (50))), (1, .ref (gAd E (1))), (3, .int (x3)), (4, .int (x4)), (5, .int (x5))] [.ref (gAd E (50)), .ref (gAd E (50))] rfl ?_
      refine G.getf cls_X8 (50) 2 (by omega) (h13.q50) (by decide) rfl (tbd tv_X8_parse rfl) w_196 ?_
      refine G.eq1 (b := cS D13 5002) (hD13.1 5002 (by decide)) ?_
      refine G.go tv_X8_parse 2 127 [(0, .ref (gAd E (50))), (1, .ref (gAd E (1))), (3, .int (x3)), (4, .int (x4)), (5, .int (x5))] [.int ((cS D13 5002) + ((1 : Int32))), .ref (gAd E (50))] rfl ?_
      obtain ⟨D14, eD14, hr⟩ := ptS_s hr
      refine G.putfS cls_X8 (50) 2 [.ref (gAd E 51), .ref (gAd E 52), .int ((cS D13 5002) + ((1 : Int32)))] (by omega) (h13.q50) rfl (by decide) rfl rfl rfl (Nat.le_of_ble_eq_true rfl) (tbd tv_X8_parse rfl) w_196 ?_
      refine G.gen (P := ST E N B gr f0 C0 A D14) ⟨sS C13 5002 ((cS D13 5002) + ((1 : Int32))), h13.s5002 _, (by rw [eD14]; exact hD13.ss), hA13.sm (Sd.s (by decide) : Sd C13 (sS C13 5002 ((cS D13 5002) + ((1 : Int32))))), hR13.tr ⟨rfl, rfl⟩, Fr.c k13 (by first | exact Or.inl (by decide) | exact Or.inr (by omega))⟩ (fun u14 p14 => ?_)
      obtain ⟨C14, h14, hD14, hA14, hR14, k14⟩ := p14
      refine G.go tv_X8_parse 6 49 [(0, .ref (gAd E (50))), (1, .ref (gAd E (1))), (3, .int (x3)), (4, .int ((x5) + ((1 : Int32)))), (5, .int (x5 + (1 : Int32)))] [] rfl ?_
      refine G.less [(0, .ref (gAd E (50))), (1, .ref (gAd E (1))), (3, .int (x3)), (4, .int ((x5) + ((1 : Int32)))), (5, .int (x5 + (1 : Int32)))] [0, 1, 2, 3, 4] rfl ?_
      exact hs49 _ _ _ _ _ _ hr _ _ h14 hD14 hA14 hR14 k14
    · replace hr := ite_t c90 hr
      refine G.go tv_X8_parse 1 94 [(0, .ref (gAd E (50))), (1, .ref (gAd E (1))), (3, .int (x3)), (4, .int (x4)), (5, .int (x5))] [.int ((0 : Int32))] rfl ?_
      cases hr
      exact G.iret rfl rfl ⟨rfl, C, ha11, hD, hA, hR, (hf.tr fa11 (fun _ h => h))⟩ (tbd tv_X8_parse rfl)
set_option maxRecDepth 100000 in
set_option maxHeartbeats 4000000 in
theorem l_X8_parse_50_49 (E : gE) (f0 : Nat → va_E) (sz : Nat) (QA : Nat → Prop) (N B gr : Nat) (C0 : CfT) (A : MS) (hz : CfZ E N B gr) : ∀ (n : Nat), ∀ (D : CfT) (x3 : Int32) (x4 : Int32) (x5 : Int32) (r : Int32) (D9 : CfT) (hr : d_X8_parse_50_49 N (vA A) n D x3 x4 x5 = some (r, D9)) (f : Nat → va_E) (C : CfT) (h : CfV E f N B gr C) (hD : Dq D C) (hA : AR N B gr A C) (hR : Rq C0 C) (hf : Fr CfK f0 f), G E (3, yX8_parse, 6, (some .boolean), sz, QA) cX8_parse (gO E (3, yX8_parse, 6, (some .boolean), sz, QA) (fun v g => v = some (.int r) ∧ ST E N B gr f0 C0 A D9 g, fun _ _ => False)) 49 [(0, .ref (gAd E (50))), (1, .ref (gAd E (1))), (3, .int (x3)), (4, .int (x4)), (5, .int (x5))] [] f := by
  obtain ⟨z1, z2, z3, z4, z5, z6, z7⟩ := id hz
  intro n
  induction n with
  | zero =>
    intro D x3 x4 x5 r D9 hr f C h hD hA hR hf
    cases hr
  | succ n ih =>
    intro D x3 x4 x5 r D9 hr f C h hD hA hR hf
    unfold d_X8_parse_50_49 at hr
    refine G.go tv_X8_parse 2 52 [(0, .ref (gAd E (50))), (1, .ref (gAd E (1))), (3, .int (x3)), (4, .int (x4)), (5, .int (x5))] [.int (x3), .int (x5)] rfl ?_
    refine G.cmp_gt 142 (tbd tv_X8_parse rfl) (by decide) (fun c52 => ?_) (fun c52 => ?_)
    · replace hr := ite_t c52 hr
      refine G.go tv_X8_parse 1 143 [(0, .ref (gAd E (50))), (1, .ref (gAd E (1))), (3, .int (x3)), (4, .int (x4)), (5, .int (x5))] [.int ((1 : Int32))] rfl ?_
      cases hr
      exact G.iret rfl rfl ⟨rfl, C, h, hD, hA, hR, hf⟩ (tbd tv_X8_parse rfl)
    · replace hr := ite_f c52 hr
      refine G.go tv_X8_parse 2 58 [(0, .ref (gAd E (50))), (1, .ref (gAd E (1))), (3, .int (x3)), (4, .int (x4)), (5, .int (x5))] [.int (x3), .int (x5)] rfl ?_
      refine G.cmp_eq 70 (tbd tv_X8_parse rfl) (by decide) (fun c58 => ?_) (fun c58 => ?_)
      · replace hr := ite_t c58 hr
        refine G.less [(0, .ref (gAd E (50))), (1, .ref (gAd E (1))), (3, .int (x3)), (4, .int (x4)), (5, .int (x5))] [0, 1, 2, 3, 4] rfl ?_
        exact l_X8_parse_50_70 E f0 sz QA N B gr C0 A hz _ ih _ _ _ _ _ _ hr _ _ h hD hA hR hf
      · replace hr := ite_f c58 hr
        refine G.go tv_X8_parse 2 64 [(0, .ref (gAd E (50))), (1, .ref (gAd E (1))), (3, .int (x3)), (4, .int (x4)), (5, .int (x5))] [.int (x5), .ref (gAd E (1))] rfl ?_
        obtain ⟨v10, b10, e10, hr⟩ := ld_s hr
        refine G.baldE (1) (by omega) ((h.q1).trans (congrArg (oB (gDA E) (1024)) (hD.2 1 (by decide)))) b10 e10 (tbd tv_X8_parse rfl) ?_
        refine G.go tv_X8_parse 1 67 [(0, .ref (gAd E (50))), (1, .ref (gAd E (1))), (3, .int (x3)), (4, .int (x4)), (5, .int (x5))] [.int ((47 : Int32)), .int (v10)] rfl ?_
        refine G.cmp_ne 136 (tbd tv_X8_parse rfl) (by decide) (fun c67 => ?_) (fun c67 => ?_)
        · replace hr := ite_f c67 hr
          refine G.go tv_X8_parse 2 49 [(0, .ref (gAd E (50))), (1, .ref (gAd E (1))), (3, .int (x3)), (4, .int (x4)), (5, .int (x5 + (1 : Int32)))] [] rfl ?_
          refine G.less [(0, .ref (gAd E (50))), (1, .ref (gAd E (1))), (3, .int (x3)), (4, .int (x4)), (5, .int (x5 + (1 : Int32)))] [0, 1, 2, 3, 4] rfl ?_
          exact ih _ _ _ _ _ _ hr _ _ h hD hA hR hf
        · replace hr := ite_t c67 hr
          refine G.less [(0, .ref (gAd E (50))), (1, .ref (gAd E (1))), (3, .int (x3)), (4, .int (x4)), (5, .int (x5))] [0, 1, 2, 3, 4] rfl ?_
          exact l_X8_parse_50_70 E f0 sz QA N B gr C0 A hz _ ih _ _ _ _ _ _ hr _ _ h hD hA hR hf
set_option maxRecDepth 100000 in
set_option maxHeartbeats 4000000 in
theorem k_X8_parse_50 (E : gE) (f : Nat → va_E) (N B gr : Nat) (C D : CfT) (A : MS) (hz : CfZ E N B gr) (h : CfV E f N B gr C) (hD : Dq D C) (hA : AR N B gr A C) (a1 : Int32) (a2 : Int32) (r : Int32) (D9 : CfT) (hr : d_X8_parse_50 N (vA A) D a1 a2 = some (r, D9)) : Ct E 3 yX8_parse cX8_parse 6 (some .boolean) [.ref (gAd E (50)), .ref (gAd E (1)), .int (a1), .int (a2)] f (fun v g => v = some (.int r) ∧ ST E N B gr f C A D9 g, fun _ _ => False) := by
  obtain ⟨z1, z2, z3, z4, z5, z6, z7⟩ := id hz
  refine Ct.of (by decide) (Nat.le_of_ble_eq_true rfl) (fun sz => ?_)
  refine G.eql [(0, .ref (gAd E (50))), (1, .ref (gAd E (1))), (2, .int (a1)), (3, .int (a2))] rfl ?_
  unfold d_X8_parse_50 at hr
  refine G.go tv_X8_parse 2 2 [(0, .ref (gAd E (50))), (1, .ref (gAd E (1))), (2, .int (a1)), (3, .int (a2))] [.int ((0 : Int32)), .ref (gAd E (50))] rfl ?_
  obtain ⟨D8, eD8, hr⟩ := ptS_s hr
  refine G.putfS cls_X8 (50) 2 [.ref (gAd E 51), .ref (gAd E 52), .int ((0 : Int32))] (by omega) (h.q50) rfl (by decide) rfl rfl rfl (Nat.le_of_ble_eq_true rfl) (tbd tv_X8_parse rfl) w_196 ?_
  refine G.gen (P := ST E N B gr f C A D8) ⟨sS C 5002 ((0 : Int32)), h.s5002 _, (by rw [eD8]; exact hD.ss), hA.sm (Sd.s (by decide) : Sd C (sS C 5002 ((0 : Int32)))), Rq.rf.tr ⟨rfl, rfl⟩, Fr.c Fr.rf (by first | exact Or.inl (by decide) | exact Or.inr (by omega))⟩ (fun u8 p8 => ?_)
  obtain ⟨C8, h8, hD8, hA8, hR8, k8⟩ := p8
  refine G.go tv_X8_parse 4 9 [(0, .ref (gAd E (50))), (1, .ref (gAd E (1))), (2, .int (a1)), (3, .int (a2))] [.int ((1 : Int32)), .int ((a2) - (a1))] rfl ?_
  refine G.cmp_lt 29 (tbd tv_X8_parse rfl) (by decide) (fun c9 => ?_) (fun c9 => ?_)
  · replace hr := ite_t c9 hr
    refine G.go tv_X8_parse 1 30 [(0, .ref (gAd E (50))), (1, .ref (gAd E (1))), (2, .int (a1)), (3, .int (a2))] [.int ((0 : Int32))] rfl ?_
    cases hr
    exact G.iret rfl rfl ⟨rfl, C8, h8, hD8, hA8, hR8, k8⟩ (tbd tv_X8_parse rfl)
  · replace hr := ite_f c9 hr
    refine G.go tv_X8_parse 4 18 [(0, .ref (gAd E (50))), (1, .ref (gAd E (1))), (2, .int (a1)), (3, .int (a2))] [.int ((255 : Int32)), .int ((a2) - (a1))] rfl ?_
    refine G.cmp_gt 29 (tbd tv_X8_parse rfl) (by decide) (fun c18 => ?_) (fun c18 => ?_)
    · replace hr := ite_t c18 hr
      refine G.go tv_X8_parse 1 30 [(0, .ref (gAd E (50))), (1, .ref (gAd E (1))), (2, .int (a1)), (3, .int (a2))] [.int ((0 : Int32))] rfl ?_
      cases hr
      exact G.iret rfl rfl ⟨rfl, C8, h8, hD8, hA8, hR8, k8⟩ (tbd tv_X8_parse rfl)
    · replace hr := ite_f c18 hr
      refine G.go tv_X8_parse 2 23 [(0, .ref (gAd E (50))), (1, .ref (gAd E (1))), (2, .int (a1)), (3, .int (a2))] [.int (a1), .ref (gAd E (1))] rfl ?_
      obtain ⟨v9, b9, e9, hr⟩ := ld_s hr
      refine G.baldE (1) (by omega) ((h8.q1).trans (congrArg (oB (gDA E) (1024)) (hD8.2 1 (by decide)))) b9 e9 (tbd tv_X8_parse rfl) ?_
      refine G.go tv_X8_parse 1 26 [(0, .ref (gAd E (50))), (1, .ref (gAd E (1))), (2, .int (a1)), (3, .int (a2))] [.int ((47 : Int32)), .int (v9)] rfl ?_
      refine G.cmp_eq 31 (tbd tv_X8_parse rfl) (by decide) (fun c26 => ?_) (fun c26 => ?_)
      · replace hr := ite_t c26 hr
        refine G.go tv_X8_parse 4 35 [(0, .ref (gAd E (50))), (1, .ref (gAd E (1))), (2, .int (a1)), (3, .int (a2))] [.int ((1 : Int32)), .int ((a2) - (a1))] rfl ?_
        refine G.cmp_ne 40 (tbd tv_X8_parse rfl) (by decide) (fun c35 => ?_) (fun c35 => ?_)
        · replace hr := ite_f c35 hr
          refine G.go tv_X8_parse 6 49 [(0, .ref (gAd E (50))), (1, .ref (gAd E (1))), (2, .int (a1)), (3, .int (a2)), (4, .int ((a1) + ((1 : Int32)))), (5, .int ((a1) + ((1 : Int32))))] [] rfl ?_
          refine G.less [(0, .ref (gAd E (50))), (1, .ref (gAd E (1))), (3, .int (a2)), (4, .int ((a1) + ((1 : Int32)))), (5, .int ((a1) + ((1 : Int32))))] [0, 1, 3, 4, 5] rfl ?_
          exact l_X8_parse_50_49 E f sz _ N B gr C A hz _ _ _ _ _ _ _ hr _ _ h8 hD8 hA8 hR8 k8
        · replace hr := ite_t c35 hr
          refine G.go tv_X8_parse 1 39 [(0, .ref (gAd E (50))), (1, .ref (gAd E (1))), (2, .int (a1)), (3, .int (a2))] [.int ((1 : Int32))] rfl ?_
          cases hr
          exact G.iret rfl rfl ⟨rfl, C8, h8, hD8, hA8, hR8, k8⟩ (tbd tv_X8_parse rfl)
      · replace hr := ite_f c26 hr
        refine G.go tv_X8_parse 1 30 [(0, .ref (gAd E (50))), (1, .ref (gAd E (1))), (2, .int (a1)), (3, .int (a2))] [.int ((0 : Int32))] rfl ?_
        cases hr
        exact G.iret rfl rfl ⟨rfl, C8, h8, hD8, hA8, hR8, k8⟩ (tbd tv_X8_parse rfl)
def tb_X7_gather : List (Nat × Instr × Nat) := [(0, .aload_n 0, 1), (1, .iconst 0, 1), (2, .putfield 145, 3), (5, .aload_n 0, 1), (6, .iload_n 1, 1), (7, .invokevirtual 86, 3), (10, .invokestatic 89, 3), (13, .istore_n 2, 1), (14, .iconst 0, 1), (15, .istore_n 3, 1), (16, .iload_n 3, 1), (17, .iload_n 2, 1), (18, .if_icmp .ge 93, 3), (21, .iload_n 3, 1), (22, .sipush 4168, 3), (25, .if_icmp .ge 86, 3), (28, .aload_n 0, 1), (29, .iload_n 1, 1), (30, .iload_n 3, 1), (31, .iconst 1, 1), (32, .invokevirtual 112, 3), (35, .istore 4, 2), (37, .iload 4, 2), (39, .ifCond .ne 11, 3), (42, .iload_n 3, 1), (43, .invokestatic 116, 3), (46, .istore_n 3, 1), (47, .goto 58, 3), (50, .aload_n 0, 1), (51, .getfield 18, 3), (54, .iload 4, 2), (56, .invokevirtual 34, 3), (59, .iload_n 1, 1), (60, .iload_n 3, 1), (61, .invokestatic 149, 3), (64, .invokestatic 49, 3), (67, .istore 5, 2), (69, .iload 5, 2), (71, .ifCond .eq 34, 3), (74, .aload_n 0, 1), (75, .getfield 9, 3), (78, .aload_n 0, 1), (79, .getfield 145, 3), (82, .iload_n 3, 1), (83, .iastore, 1), (84, .aload_n 0, 1), (85, .getfield 15, 3), (88, .aload_n 0, 1), (89, .getfield 145, 3), (92, .iload 5, 2), (94, .iastore, 1), (95, .aload_n 0, 1), (96, .dup, 1), (97, .getfield 145, 3), (100, .iconst 1, 1), (101, .iadd, 1), (102, .putfield 145, 3), (105, .iinc 3 1, 3), (108, .goto (-92), 3), (111, .return_, 1)]
theorem tv_X7_gather : Tv cX7_gather tb_X7_gather := by
  unfold Tv
  decide +kernel
def d_X7_gather_16 (N : Nat) (V : Nat → Rw) : Nat → CfT → Int32 → Int32 → Int32 → Option (CfT)
  | 0, _, _, _, _ => none
  | n + 1, D, x1, x2, x3 => if x2 ≤ x3 then some D else if ((4168 : Int32)) ≤ x3 then some D else bnd (d_X7_reach N V D x1 x3 ((1 : Int32))) (fun v18 => if v18 = 0 then bnd (d_X7_lastBeside N V D x3) (fun v26 => d_X7_gather_16 N V n D x1 x2 (v26 + (1 : Int32))) else seeB N V v18 (fun y20 => bnd (d_X7_spot N V D x1 x3) (fun v21 => bnd (d_X2_two N V D y20 128 v21) (fun v22 => if v22 = 0 then d_X7_gather_16 N V n D x1 x2 (x3 + (1 : Int32)) else stA D 38 4168 (cS D 3705) x3 (fun D23 => stA D23 39 4168 (cS D23 3705) v22 (fun D24 => ptS D24 3705 ((cS D24 3705) + ((1 : Int32))) (fun D25 => d_X7_gather_16 N V n D25 x1 x2 (x3 + (1 : Int32)))))))))
def d_X7_gather (N : Nat) (V : Nat → Rw) (D : CfT) (a0 : Int32) : Option (CfT) := ptS D 3705 ((0 : Int32)) (fun D15 => bnd (d_X7_size N V D15 a0) (fun v16 => bnd (d_X7_blocksFor N V D15 v16) (fun v17 => d_X7_gather_16 N V fuL D15 a0 v17 ((0 : Int32)))))
set_option maxRecDepth 100000 in
set_option maxHeartbeats 4000000 in
theorem l_X7_gather_16 (E : gE) (f0 : Nat → va_E) (sz : Nat) (QA : Nat → Prop) (N B gr : Nat) (C0 : CfT) (A : MS) (hz : CfZ E N B gr) : ∀ (n : Nat), ∀ (D : CfT) (x1 : Int32) (x2 : Int32) (x3 : Int32) (D9 : CfT) (hr : d_X7_gather_16 N (vA A) n D x1 x2 x3 = some D9) (f : Nat → va_E) (C : CfT) (h : CfV E f N B gr C) (hD : Dq D C) (hA : AR N B gr A C) (hR : Rq C0 C) (hf : Fr CfK f0 f), G E (4, yX7_gather, 6, none, sz, QA) cX7_gather (gO E (4, yX7_gather, 6, none, sz, QA) (fun v g => v = none ∧ ST E N B gr f0 C0 A D9 g, fun _ _ => False)) 16 [(0, .ref (gAd E (37))), (1, .int (x1)), (2, .int (x2)), (3, .int (x3))] [] f := by
  obtain ⟨z1, z2, z3, z4, z5, z6, z7⟩ := id hz
  intro n
  induction n with
  | zero =>
    intro D x1 x2 x3 D9 hr f C h hD hA hR hf
    cases hr
  | succ n ih =>
    intro D x1 x2 x3 D9 hr f C h hD hA hR hf
    unfold d_X7_gather_16 at hr
    refine G.go tv_X7_gather 2 18 [(0, .ref (gAd E (37))), (1, .int (x1)), (2, .int (x2)), (3, .int (x3))] [.int (x2), .int (x3)] rfl ?_
    refine G.cmp_ge 111 (tbd tv_X7_gather rfl) (by decide) (fun c18 => ?_) (fun c18 => ?_)
    · replace hr := ite_t c18 hr
      cases hr
      exact G.vret rfl ⟨rfl, C, h, hD, hA, hR, hf⟩ (tbd tv_X7_gather rfl)
    · replace hr := ite_f c18 hr
      refine G.go tv_X7_gather 2 25 [(0, .ref (gAd E (37))), (1, .int (x1)), (2, .int (x2)), (3, .int (x3))] [.int ((4168 : Int32)), .int (x3)] rfl ?_
      refine G.cmp_ge 111 (tbd tv_X7_gather rfl) (by decide) (fun c25 => ?_) (fun c25 => ?_)
      · replace hr := ite_t c25 hr
        cases hr
        exact G.vret rfl ⟨rfl, C, h, hD, hA, hR, hf⟩ (tbd tv_X7_gather rfl)
      · replace hr := ite_f c25 hr
        refine G.go tv_X7_gather 4 32 [(0, .ref (gAd E (37))), (1, .int (x1)), (2, .int (x2)), (3, .int (x3))] [.int ((1 : Int32)), .int (x3), .int (x1), .ref (gAd E (37))] rfl ?_
        obtain ⟨v18, hv18, hr⟩ := bnd_s hr
        refine G.callV (37) [.int (x1), .int (x3), .int ((1 : Int32))] [] (k_X7_reach E _ N B gr C D A hz h hD hA x1 x3 ((1 : Int32)) v18 hv18) cls_X7 (by omega) (h.q37) cw_X7_112 w_954 w_955 (Nat.le_of_ble_eq_true rfl) rfl (Nat.le_of_ble_eq_true rfl) (tbd tv_X7_gather rfl) (fun v18w f18 q18 => ?_) (fun _ _ h => h.elim)
        obtain ⟨rfl, ha18, fa18⟩ := q18
        refine G.eqs [.int (v18)] rfl ?_
        refine G.go tv_X7_gather 2 39 [(0, .ref (gAd E (37))), (1, .int (x1)), (2, .int (x2)), (3, .int (x3)), (4, .int (v18))] [.int (v18)] rfl ?_
        refine G.if_ne 50 (tbd tv_X7_gather rfl) (by decide) (fun c39 => ?_) (fun c39 => ?_)
        · replace hr := ite_f c39 hr
          refine G.go tv_X7_gather 1 51 [(0, .ref (gAd E (37))), (1, .int (x1)), (2, .int (x2)), (3, .int (x3)), (4, .int (v18))] [.ref (gAd E (37))] rfl ?_
          refine G.getf cls_X7 (37) 0 (by omega) (ha18.q37) (by decide) rfl (tbd tv_X7_gather rfl) w_478 ?_
          refine G.go tv_X7_gather 1 56 [(0, .ref (gAd E (37))), (1, .int (x1)), (2, .int (x2)), (3, .int (x3)), (4, .int (v18))] [.int (v18), .ref (gAd E (25))] rfl ?_
          obtain ⟨y20, b20, e20, hr⟩ := seeB_s hr
          refine G.callV (25) [.int (v18)] [] (k_see E _ N B gr C A hz ha18 hA _ b20 _ e20) cls_X10 (by omega) (ha18.q25) cw_X7_34 w_910 w_911 (Nat.le_of_ble_eq_true rfl) rfl (Nat.le_of_ble_eq_true rfl) (tbd tv_X7_gather rfl) (fun v20w f20 q20 => ?_) (fun _ _ h => h.elim)
          obtain ⟨⟨k20, rfl, w20⟩, ha20, fa20⟩ := q20
          refine G.eqs [.ref (gAd E (k20))] rfl ?_
          refine G.go tv_X7_gather 2 61 [(0, .ref (gAd E (37))), (1, .int (x1)), (2, .int (x2)), (3, .int (x3)), (4, .int (v18))] [.int (x3), .int (x1), .ref (gAd E (k20))] rfl ?_
          obtain ⟨v21, hv21, hr⟩ := bnd_s hr
          refine G.callS [.int (x1), .int (x3)] [.ref (gAd E (k20))] (k_X7_spot E _ N B gr C D A hz ha20 hD hA x1 x3 v21 hv21) cw_X7_149 w_968 (Nat.le_of_ble_eq_true rfl) rfl (Nat.le_of_ble_eq_true rfl) (tbd tv_X7_gather rfl) (fun v21w f21 q21 => ?_) (fun _ _ h => h.elim)
          obtain ⟨rfl, ha21, fa21⟩ := q21
          refine G.eqs [.int (v21), .ref (gAd E (k20))] rfl ?_
          obtain ⟨v22, hv22, hr⟩ := bnd_s hr
          refine G.callS [.ref (gAd E (k20)), .int (v21)] [] (k_X2_two E _ N B gr C D A hz ha21 hD hA k20 128 y20 (w20) v21 v22 hv22) cw_X7_49 w_878 (Nat.le_of_ble_eq_true rfl) rfl (Nat.le_of_ble_eq_true rfl) (tbd tv_X7_gather rfl) (fun v22w f22 q22 => ?_) (fun _ _ h => h.elim)
          obtain ⟨rfl, ha22, fa22⟩ := q22
          refine G.eqs [.int (v22)] rfl ?_
          refine G.go tv_X7_gather 2 71 [(0, .ref (gAd E (37))), (1, .int (x1)), (2, .int (x2)), (3, .int (x3)), (4, .int (v18)), (5, .int (v22))] [.int (v22)] rfl ?_
          refine G.if_eq 105 (tbd tv_X7_gather rfl) (by decide) (fun c71 => ?_) (fun c71 => ?_)
          · replace hr := ite_t c71 hr
            refine G.go tv_X7_gather 2 16 [(0, .ref (gAd E (37))), (1, .int (x1)), (2, .int (x2)), (3, .int (x3 + (1 : Int32))), (4, .int (v18)), (5, .int (v22))] [] rfl ?_
            refine G.less [(0, .ref (gAd E (37))), (1, .int (x1)), (2, .int (x2)), (3, .int (x3 + (1 : Int32)))] [0, 1, 2, 3] rfl ?_
            exact ih _ _ _ _ _ hr _ _ ha22 hD hA hR ((((hf.tr fa18 (fun _ h => h)).tr fa20 (fun _ h => h)).tr fa21 (fun _ h => h)).tr fa22 (fun _ h => h))
          · replace hr := ite_f c71 hr
            refine G.go tv_X7_gather 1 75 [(0, .ref (gAd E (37))), (1, .int (x1)), (2, .int (x2)), (3, .int (x3)), (4, .int (v18)), (5, .int (v22))] [.ref (gAd E (37))] rfl ?_
            refine G.getf cls_X7 (37) 3 (by omega) (ha22.q37) (by decide) rfl (tbd tv_X7_gather rfl) w_481 ?_
            refine G.go tv_X7_gather 1 79 [(0, .ref (gAd E (37))), (1, .int (x1)), (2, .int (x2)), (3, .int (x3)), (4, .int (v18)), (5, .int (v22))] [.ref (gAd E (37)), .ref (gAd E (38))] rfl ?_
            refine G.getf cls_X7 (37) 5 (by omega) (ha22.q37) (by decide) rfl (tbd tv_X7_gather rfl) w_489 ?_
            refine G.eq1 (b := cS D 3705) (hD.1 3705 (by decide)) ?_
            refine G.go tv_X7_gather 1 83 [(0, .ref (gAd E (37))), (1, .int (x1)), (2, .int (x2)), (3, .int (x3)), (4, .int (v18)), (5, .int (v22))] [.int (x3), .int (cS D 3705), .ref (gAd E (38))] rfl ?_
            obtain ⟨D23, b23, eD23, hr⟩ := stA_s hr
            refine G.iast (38) (by omega) (ha22.q38) b23 (tbd tv_X7_gather rfl) ?_
            refine G.gen (P := ST E N B gr f0 C0 A D23) ⟨sA C 38 (upd (cA C 38) (cS D 3705).toNatClampNeg x3), ha22.p38 _, (by rw [eD23]; exact hD.au (by decide)), hA.sm (Sd.a (by decide) : Sd C (sA C 38 (upd (cA C 38) (cS D 3705).toNatClampNeg x3))), hR.tr ⟨rfl, rfl⟩, Fr.c ((((hf.tr fa18 (fun _ h => h)).tr fa20 (fun _ h => h)).tr fa21 (fun _ h => h)).tr fa22 (fun _ h => h)) (by first | exact Or.inl (by decide) | exact Or.inr (by omega))⟩ (fun u23 p23 => ?_)
            obtain ⟨C23, h23, hD23, hA23, hR23, k23⟩ := p23
            refine G.go tv_X7_gather 1 85 [(0, .ref (gAd E (37))), (1, .int (x1)), (2, .int (x2)), (3, .int (x3)), (4, .int (v18)), (5, .int (v22))] [.ref (gAd E (37))] rfl ?_
            refine G.getf cls_X7 (37) 4 (by omega) (h23.q37) (by decide) rfl (tbd tv_X7_gather rfl) w_483 ?_
            refine G.go tv_X7_gather 1 89 [(0, .ref (gAd E (37))), (1, .int (x1)), (2, .int (x2)), (3, .int (x3)), (4, .int (v18)), (5, .int (v22))] [.ref (gAd E (37)), .ref (gAd E (39))] rfl ?_
            refine G.getf cls_X7 (37) 5 (by omega) (h23.q37) (by decide) rfl (tbd tv_X7_gather rfl) w_489 ?_
            refine G.eq1 (b := cS D23 3705) (hD23.1 3705 (by decide)) ?_
            refine G.go tv_X7_gather 1 94 [(0, .ref (gAd E (37))), (1, .int (x1)), (2, .int (x2)), (3, .int (x3)), (4, .int (v18)), (5, .int (v22))] [.int (v22), .int (cS D23 3705), .ref (gAd E (39))] rfl ?_
            obtain ⟨D24, b24, eD24, hr⟩ := stA_s hr
            refine G.iast (39) (by omega) (h23.q39) b24 (tbd tv_X7_gather rfl) ?_
            refine G.gen (P := ST E N B gr f0 C0 A D24) ⟨sA C23 39 (upd (cA C23 39) (cS D23 3705).toNatClampNeg v22), h23.p39 _, (by rw [eD24]; exact hD23.au (by decide)), hA23.sm (Sd.a (by decide) : Sd C23 (sA C23 39 (upd (cA C23 39) (cS D23 3705).toNatClampNeg v22))), hR23.tr ⟨rfl, rfl⟩, Fr.c k23 (by first | exact Or.inl (by decide) | exact Or.inr (by omega))⟩ (fun u24 p24 => ?_)
            obtain ⟨C24, h24, hD24, hA24, hR24, k24⟩ := p24
            refine G.go tv_X7_gather 2 97 [(0, .ref (gAd E (37))), (1, .int (x1)), (2, .int (x2)), (3, .int (x3)), (4, .int (v18)), (5, .int (v22))] [.ref (gAd E (37)), .ref (gAd E (37))] rfl ?_
            refine G.getf cls_X7 (37) 5 (by omega) (h24.q37) (by decide) rfl (tbd tv_X7_gather rfl) w_489 ?_
            refine G.eq1 (b := cS D24 3705) (hD24.1 3705 (by decide)) ?_
            refine G.go tv_X7_gather 2 102 [(0, .ref (gAd E (37))), (1, .int (x1)), (2, .int (x2)), (3, .int (x3)), (4, .int (v18)), (5, .int (v22))] [.int ((cS D24 3705) + ((1 : Int32))), .ref (gAd E (37))] rfl ?_
            obtain ⟨D25, eD25, hr⟩ := ptS_s hr
            refine G.putfS cls_X7 (37) 5 [.ref (gAd E 25), .ref (gAd E 17), .ref (gAd E 32), .ref (gAd E 38), .ref (gAd E 39), .int ((cS D24 3705) + ((1 : Int32)))] (by omega) (h24.q37) rfl (by decide) rfl rfl rfl (Nat.le_of_ble_eq_true rfl) (tbd tv_X7_gather rfl) w_489 ?_
            refine G.gen (P := ST E N B gr f0 C0 A D25) ⟨sS C24 3705 ((cS D24 3705) + ((1 : Int32))), h24.s3705 _, (by rw [eD25]; exact hD24.ss), hA24.sm (Sd.s (by decide) : Sd C24 (sS C24 3705 ((cS D24 3705) + ((1 : Int32))))), hR24.tr ⟨rfl, rfl⟩, Fr.c k24 (by first | exact Or.inl (by decide) | exact Or.inr (by omega))⟩ (fun u25 p25 => ?_)
            obtain ⟨C25, h25, hD25, hA25, hR25, k25⟩ := p25
            refine G.go tv_X7_gather 2 16 [(0, .ref (gAd E (37))), (1, .int (x1)), (2, .int (x2)), (3, .int (x3 + (1 : Int32))), (4, .int (v18)), (5, .int (v22))] [] rfl ?_
            refine G.less [(0, .ref (gAd E (37))), (1, .int (x1)), (2, .int (x2)), (3, .int (x3 + (1 : Int32)))] [0, 1, 2, 3] rfl ?_
            exact ih _ _ _ _ _ hr _ _ h25 hD25 hA25 hR25 k25
        · replace hr := ite_t c39 hr
          refine G.go tv_X7_gather 1 43 [(0, .ref (gAd E (37))), (1, .int (x1)), (2, .int (x2)), (3, .int (x3)), (4, .int (v18))] [.int (x3)] rfl ?_
          obtain ⟨v26, hv26, hr⟩ := bnd_s hr
          refine G.callS [.int (x3)] [] (k_X7_lastBeside E _ N B gr C D A hz ha18 hD hA x3 v26 hv26) cw_X7_116 w_965 (Nat.le_of_ble_eq_true rfl) rfl (Nat.le_of_ble_eq_true rfl) (tbd tv_X7_gather rfl) (fun v26w f26 q26 => ?_) (fun _ _ h => h.elim)
          obtain ⟨rfl, ha26, fa26⟩ := q26
          refine G.eqs [.int (v26)] rfl ?_
          refine G.go tv_X7_gather 4 16 [(0, .ref (gAd E (37))), (1, .int (x1)), (2, .int (x2)), (3, .int (v26 + (1 : Int32))), (4, .int (v18))] [] rfl ?_
          refine G.less [(0, .ref (gAd E (37))), (1, .int (x1)), (2, .int (x2)), (3, .int (v26 + (1 : Int32)))] [0, 1, 2, 3] rfl ?_
          exact ih _ _ _ _ _ hr _ _ ha26 hD hA hR ((hf.tr fa18 (fun _ h => h)).tr fa26 (fun _ h => h))
set_option maxRecDepth 100000 in
set_option maxHeartbeats 4000000 in
theorem k_X7_gather (E : gE) (f : Nat → va_E) (N B gr : Nat) (C D : CfT) (A : MS) (hz : CfZ E N B gr) (h : CfV E f N B gr C) (hD : Dq D C) (hA : AR N B gr A C) (a0 : Int32) (D9 : CfT) (hr : d_X7_gather N (vA A) D a0 = some D9) : Ct E 4 yX7_gather cX7_gather 6 none [.ref (gAd E (37)), .int (a0)] f (fun v g => v = none ∧ ST E N B gr f C A D9 g, fun _ _ => False) := by
  obtain ⟨z1, z2, z3, z4, z5, z6, z7⟩ := id hz
  refine Ct.of (by decide) (Nat.le_of_ble_eq_true rfl) (fun sz => ?_)
  refine G.eql [(0, .ref (gAd E (37))), (1, .int (a0))] rfl ?_
  unfold d_X7_gather at hr
  refine G.go tv_X7_gather 2 2 [(0, .ref (gAd E (37))), (1, .int (a0))] [.int ((0 : Int32)), .ref (gAd E (37))] rfl ?_
  obtain ⟨D15, eD15, hr⟩ := ptS_s hr
  refine G.putfS cls_X7 (37) 5 [.ref (gAd E 25), .ref (gAd E 17), .ref (gAd E 32), .ref (gAd E 38), .ref (gAd E 39), .int ((0 : Int32))] (by omega) (h.q37) rfl (by decide) rfl rfl rfl (Nat.le_of_ble_eq_true rfl) (tbd tv_X7_gather rfl) w_489 ?_
  refine G.gen (P := ST E N B gr f C A D15) ⟨sS C 3705 ((0 : Int32)), h.s3705 _, (by rw [eD15]; exact hD.ss), hA.sm (Sd.s (by decide) : Sd C (sS C 3705 ((0 : Int32)))), Rq.rf.tr ⟨rfl, rfl⟩, Fr.c Fr.rf (by first | exact Or.inl (by decide) | exact Or.inr (by omega))⟩ (fun u15 p15 => ?_)
  obtain ⟨C15, h15, hD15, hA15, hR15, k15⟩ := p15
  refine G.go tv_X7_gather 2 7 [(0, .ref (gAd E (37))), (1, .int (a0))] [.int (a0), .ref (gAd E (37))] rfl ?_
  obtain ⟨v16, hv16, hr⟩ := bnd_s hr
  refine G.callV (37) [.int (a0)] [] (k_X7_size E _ N B gr C15 D15 A hz h15 hD15 hA15 a0 v16 hv16) cls_X7 (by omega) (h15.q37) cw_X7_86 w_941 w_942 (Nat.le_of_ble_eq_true rfl) rfl (Nat.le_of_ble_eq_true rfl) (tbd tv_X7_gather rfl) (fun v16w f16 q16 => ?_) (fun _ _ h => h.elim)
  obtain ⟨rfl, ha16, fa16⟩ := q16
  refine G.eqs [.int (v16)] rfl ?_
  obtain ⟨v17, hv17, hr⟩ := bnd_s hr
  refine G.callS [.int (v16)] [] (k_X7_blocksFor E _ N B gr C15 D15 A hz ha16 hD15 hA15 v16 v17 hv17) cw_X7_89 w_946 (Nat.le_of_ble_eq_true rfl) rfl (Nat.le_of_ble_eq_true rfl) (tbd tv_X7_gather rfl) (fun v17w f17 q17 => ?_) (fun _ _ h => h.elim)
  obtain ⟨rfl, ha17, fa17⟩ := q17
  refine G.eqs [.int (v17)] rfl ?_
  refine G.go tv_X7_gather 3 16 [(0, .ref (gAd E (37))), (1, .int (a0)), (2, .int (v17)), (3, .int ((0 : Int32)))] [] rfl ?_
  refine G.less [(0, .ref (gAd E (37))), (1, .int (a0)), (2, .int (v17)), (3, .int ((0 : Int32)))] [0, 1, 2, 3] rfl ?_
  exact l_X7_gather_16 E f sz _ N B gr C A hz _ _ _ _ _ _ hr _ _ ha17 hD15 hA15 hR15 ((k15.tr fa16 (fun _ h => h)).tr fa17 (fun _ h => h))
def tb_X7_tablesOfCopy : List (Nat × Instr × Nat) := [(0, .aload_n 0, 1), (1, .iload_n 1, 1), (2, .invokevirtual 152, 3), (5, .iconst 0, 1), (6, .istore_n 2, 1), (7, .iconst 0, 1), (8, .istore_n 3, 1), (9, .iload_n 3, 1), (10, .aload_n 0, 1), (11, .getfield 145, 3), (14, .if_icmp .ge 46, 3), (17, .iload_n 2, 1), (18, .iload_n 3, 1), (19, .ifCond .ne 7, 3), (22, .iconst (-1), 1), (23, .goto 11, 3), (26, .aload_n 0, 1), (27, .getfield 9, 3), (30, .iload_n 3, 1), (31, .iconst 1, 1), (32, .isub, 1), (33, .iaload, 1), (34, .aload_n 0, 1), (35, .getfield 9, 3), (38, .iload_n 3, 1), (39, .iaload, 1), (40, .aload_n 0, 1), (41, .getfield 9, 3), (44, .iload_n 3, 1), (45, .iaload, 1), (46, .invokestatic 105, 3), (49, .invokestatic 127, 3), (52, .iadd, 1), (53, .istore_n 2, 1), (54, .iinc 3 1, 3), (57, .goto (-48), 3), (60, .iload_n 2, 1), (61, .ireturn, 1)]
theorem tv_X7_tablesOfCopy : Tv cX7_tablesOfCopy tb_X7_tablesOfCopy := by
  unfold Tv
  decide +kernel
theorem w_1549 : Cond.methodLink "LedgerFiles$Nodes" 152 yX7_gather ∈ TB := tp_6 203 (by decide +kernel) rfl
theorem w_1552 : Cond.code yX7_gather prog_9_method_32_code 6 none ∈ TB := tp_6 206 rfl rfl
theorem cw_X7_152 : Cw RX7 152 yX7_gather cX7_gather 6 none 1 := ⟨w_1549, w_1552, w_157, by decide +kernel, by decide +kernel, by decide⟩
theorem w_1550 : Cond.instanceMethod yX7_gather ∈ TB := tp_6 204 (by decide +kernel) rfl
theorem w_1551 : Cond.selects "LedgerFiles$Nodes" yX7_gather yX7_gather ∈ TB := tp_6 205 (by decide +kernel) rfl
def d_X7_tablesOfCopy_9 (N : Nat) (V : Nat → Rw) : Nat → CfT → Int32 → Int32 → Option (Int32 × CfT)
  | 0, _, _, _ => none
  | n + 1, D, x2, x3 => if (cS D 3705) ≤ x3 then some (x2, D) else if x3 = 0 then ld (cA D 38) 4168 x3 (fun v33 => ld (cA D 38) 4168 x3 (fun v34 => bnd (d_X7_levels N V D v34) (fun v35 => bnd (d_X7_newTables N V D ((-1 : Int32)) v33 v35) (fun v36 => d_X7_tablesOfCopy_9 N V n D ((x2) + (v36)) (x3 + (1 : Int32)))))) else ld (cA D 38) 4168 ((x3) - ((1 : Int32))) (fun v28 => ld (cA D 38) 4168 x3 (fun v29 => ld (cA D 38) 4168 x3 (fun v30 => bnd (d_X7_levels N V D v30) (fun v31 => bnd (d_X7_newTables N V D v28 v29 v31) (fun v32 => d_X7_tablesOfCopy_9 N V n D ((x2) + (v32)) (x3 + (1 : Int32)))))))
def d_X7_tablesOfCopy (N : Nat) (V : Nat → Rw) (D : CfT) (a0 : Int32) : Option (Int32 × CfT) := bnd (d_X7_gather N V D a0) (fun D27 => d_X7_tablesOfCopy_9 N V fuL D27 ((0 : Int32)) ((0 : Int32)))
set_option maxRecDepth 100000 in
set_option maxHeartbeats 4000000 in
theorem l_X7_tablesOfCopy_9 (E : gE) (f0 : Nat → va_E) (sz : Nat) (QA : Nat → Prop) (N B gr : Nat) (C0 : CfT) (A : MS) (hz : CfZ E N B gr) : ∀ (n : Nat), ∀ (D : CfT) (x2 : Int32) (x3 : Int32) (r : Int32) (D9 : CfT) (hr : d_X7_tablesOfCopy_9 N (vA A) n D x2 x3 = some (r, D9)) (f : Nat → va_E) (C : CfT) (h : CfV E f N B gr C) (hD : Dq D C) (hA : AR N B gr A C) (hR : Rq C0 C) (hf : Fr CfK f0 f), G E (5, yX7_tablesOfCopy, 4, (some .int), sz, QA) cX7_tablesOfCopy (gO E (5, yX7_tablesOfCopy, 4, (some .int), sz, QA) (fun v g => v = some (.int r) ∧ ST E N B gr f0 C0 A D9 g, fun _ _ => False)) 9 [(0, .ref (gAd E (37))), (2, .int (x2)), (3, .int (x3))] [] f := by
  obtain ⟨z1, z2, z3, z4, z5, z6, z7⟩ := id hz
  intro n
  induction n with
  | zero =>
    intro D x2 x3 r D9 hr f C h hD hA hR hf
    cases hr
  | succ n ih =>
    intro D x2 x3 r D9 hr f C h hD hA hR hf
    unfold d_X7_tablesOfCopy_9 at hr
    refine G.go tv_X7_tablesOfCopy 2 11 [(0, .ref (gAd E (37))), (2, .int (x2)), (3, .int (x3))] [.ref (gAd E (37)), .int (x3)] rfl ?_
    refine G.getf cls_X7 (37) 5 (by omega) (h.q37) (by decide) rfl (tbd tv_X7_tablesOfCopy rfl) w_489 ?_
    refine G.eq1 (b := cS D 3705) (hD.1 3705 (by decide)) ?_
    refine G.cmp_ge 60 (tbd tv_X7_tablesOfCopy rfl) (by decide) (fun c14 => ?_) (fun c14 => ?_)
    · replace hr := ite_t c14 hr
      refine G.go tv_X7_tablesOfCopy 1 61 [(0, .ref (gAd E (37))), (2, .int (x2)), (3, .int (x3))] [.int (x2)] rfl ?_
      cases hr
      exact G.iret rfl rfl ⟨rfl, C, h, hD, hA, hR, hf⟩ (tbd tv_X7_tablesOfCopy rfl)
    · replace hr := ite_f c14 hr
      refine G.go tv_X7_tablesOfCopy 2 19 [(0, .ref (gAd E (37))), (2, .int (x2)), (3, .int (x3))] [.int (x3), .int (x2)] rfl ?_
      refine G.if_ne 26 (tbd tv_X7_tablesOfCopy rfl) (by decide) (fun c19 => ?_) (fun c19 => ?_)
      · replace hr := ite_f c19 hr
        refine G.go tv_X7_tablesOfCopy 1 27 [(0, .ref (gAd E (37))), (2, .int (x2)), (3, .int (x3))] [.ref (gAd E (37)), .int (x2)] rfl ?_
        refine G.getf cls_X7 (37) 3 (by omega) (h.q37) (by decide) rfl (tbd tv_X7_tablesOfCopy rfl) w_481 ?_
        refine G.go tv_X7_tablesOfCopy 3 33 [(0, .ref (gAd E (37))), (2, .int (x2)), (3, .int (x3))] [.int ((x3) - ((1 : Int32))), .ref (gAd E (38)), .int (x2)] rfl ?_
        obtain ⟨v28, b28, e28, hr⟩ := ld_s hr
        refine G.ialdE (38) (by omega) ((h.q38).trans (congrArg (oI (gDA E) (4168)) (hD.2 38 (by decide)))) b28 e28 (tbd tv_X7_tablesOfCopy rfl) ?_
        refine G.go tv_X7_tablesOfCopy 1 35 [(0, .ref (gAd E (37))), (2, .int (x2)), (3, .int (x3))] [.ref (gAd E (37)), .int (v28), .int (x2)] rfl ?_
        refine G.getf cls_X7 (37) 3 (by omega) (h.q37) (by decide) rfl (tbd tv_X7_tablesOfCopy rfl) w_481 ?_
        refine G.go tv_X7_tablesOfCopy 1 39 [(0, .ref (gAd E (37))), (2, .int (x2)), (3, .int (x3))] [.int (x3), .ref (gAd E (38)), .int (v28), .int (x2)] rfl ?_
        obtain ⟨v29, b29, e29, hr⟩ := ld_s hr
        refine G.ialdE (38) (by omega) ((h.q38).trans (congrArg (oI (gDA E) (4168)) (hD.2 38 (by decide)))) b29 e29 (tbd tv_X7_tablesOfCopy rfl) ?_
        refine G.go tv_X7_tablesOfCopy 1 41 [(0, .ref (gAd E (37))), (2, .int (x2)), (3, .int (x3))] [.ref (gAd E (37)), .int (v29), .int (v28), .int (x2)] rfl ?_
        refine G.getf cls_X7 (37) 3 (by omega) (h.q37) (by decide) rfl (tbd tv_X7_tablesOfCopy rfl) w_481 ?_
        refine G.go tv_X7_tablesOfCopy 1 45 [(0, .ref (gAd E (37))), (2, .int (x2)), (3, .int (x3))] [.int (x3), .ref (gAd E (38)), .int (v29), .int (v28), .int (x2)] rfl ?_
        obtain ⟨v30, b30, e30, hr⟩ := ld_s hr
        refine G.ialdE (38) (by omega) ((h.q38).trans (congrArg (oI (gDA E) (4168)) (hD.2 38 (by decide)))) b30 e30 (tbd tv_X7_tablesOfCopy rfl) ?_
        obtain ⟨v31, hv31, hr⟩ := bnd_s hr
        refine G.callS [.int (v30)] [.int (v29), .int (v28), .int (x2)] (k_X7_levels E _ N B gr C D A hz h hD hA v30 v31 hv31) cw_X7_105 w_961 (Nat.le_of_ble_eq_true rfl) rfl (Nat.le_of_ble_eq_true rfl) (tbd tv_X7_tablesOfCopy rfl) (fun v31w f31 q31 => ?_) (fun _ _ h => h.elim)
        obtain ⟨rfl, ha31, fa31⟩ := q31
        refine G.eqs [.int (v31), .int (v29), .int (v28), .int (x2)] rfl ?_
        obtain ⟨v32, hv32, hr⟩ := bnd_s hr
        refine G.callS [.int (v28), .int (v29), .int (v31)] [.int (x2)] (k_X7_newTables E _ N B gr C D A hz ha31 hD hA v28 v29 v31 v32 hv32) cw_X7_127 w_1554 (Nat.le_of_ble_eq_true rfl) rfl (Nat.le_of_ble_eq_true rfl) (tbd tv_X7_tablesOfCopy rfl) (fun v32w f32 q32 => ?_) (fun _ _ h => h.elim)
        obtain ⟨rfl, ha32, fa32⟩ := q32
        refine G.eqs [.int (v32), .int (x2)] rfl ?_
        refine G.go tv_X7_tablesOfCopy 4 9 [(0, .ref (gAd E (37))), (2, .int ((x2) + (v32))), (3, .int (x3 + (1 : Int32)))] [] rfl ?_
        refine G.less [(0, .ref (gAd E (37))), (2, .int ((x2) + (v32))), (3, .int (x3 + (1 : Int32)))] [0, 1, 2] rfl ?_
        exact ih _ _ _ _ _ hr _ _ ha32 hD hA hR ((hf.tr fa31 (fun _ h => h)).tr fa32 (fun _ h => h))
      · replace hr := ite_t c19 hr
        refine G.go tv_X7_tablesOfCopy 3 35 [(0, .ref (gAd E (37))), (2, .int (x2)), (3, .int (x3))] [.ref (gAd E (37)), .int ((-1 : Int32)), .int (x2)] rfl ?_
        refine G.getf cls_X7 (37) 3 (by omega) (h.q37) (by decide) rfl (tbd tv_X7_tablesOfCopy rfl) w_481 ?_
        refine G.go tv_X7_tablesOfCopy 1 39 [(0, .ref (gAd E (37))), (2, .int (x2)), (3, .int (x3))] [.int (x3), .ref (gAd E (38)), .int ((-1 : Int32)), .int (x2)] rfl ?_
        obtain ⟨v33, b33, e33, hr⟩ := ld_s hr
        refine G.ialdE (38) (by omega) ((h.q38).trans (congrArg (oI (gDA E) (4168)) (hD.2 38 (by decide)))) b33 e33 (tbd tv_X7_tablesOfCopy rfl) ?_
        refine G.go tv_X7_tablesOfCopy 1 41 [(0, .ref (gAd E (37))), (2, .int (x2)), (3, .int (x3))] [.ref (gAd E (37)), .int (v33), .int ((-1 : Int32)), .int (x2)] rfl ?_
        refine G.getf cls_X7 (37) 3 (by omega) (h.q37) (by decide) rfl (tbd tv_X7_tablesOfCopy rfl) w_481 ?_
        refine G.go tv_X7_tablesOfCopy 1 45 [(0, .ref (gAd E (37))), (2, .int (x2)), (3, .int (x3))] [.int (x3), .ref (gAd E (38)), .int (v33), .int ((-1 : Int32)), .int (x2)] rfl ?_
        obtain ⟨v34, b34, e34, hr⟩ := ld_s hr
        refine G.ialdE (38) (by omega) ((h.q38).trans (congrArg (oI (gDA E) (4168)) (hD.2 38 (by decide)))) b34 e34 (tbd tv_X7_tablesOfCopy rfl) ?_
        obtain ⟨v35, hv35, hr⟩ := bnd_s hr
        refine G.callS [.int (v34)] [.int (v33), .int ((-1 : Int32)), .int (x2)] (k_X7_levels E _ N B gr C D A hz h hD hA v34 v35 hv35) cw_X7_105 w_961 (Nat.le_of_ble_eq_true rfl) rfl (Nat.le_of_ble_eq_true rfl) (tbd tv_X7_tablesOfCopy rfl) (fun v35w f35 q35 => ?_) (fun _ _ h => h.elim)
        obtain ⟨rfl, ha35, fa35⟩ := q35
        refine G.eqs [.int (v35), .int (v33), .int ((-1 : Int32)), .int (x2)] rfl ?_
        obtain ⟨v36, hv36, hr⟩ := bnd_s hr
        refine G.callS [.int ((-1 : Int32)), .int (v33), .int (v35)] [.int (x2)] (k_X7_newTables E _ N B gr C D A hz ha35 hD hA ((-1 : Int32)) v33 v35 v36 hv36) cw_X7_127 w_1554 (Nat.le_of_ble_eq_true rfl) rfl (Nat.le_of_ble_eq_true rfl) (tbd tv_X7_tablesOfCopy rfl) (fun v36w f36 q36 => ?_) (fun _ _ h => h.elim)
        obtain ⟨rfl, ha36, fa36⟩ := q36
        refine G.eqs [.int (v36), .int (x2)] rfl ?_
        refine G.go tv_X7_tablesOfCopy 4 9 [(0, .ref (gAd E (37))), (2, .int ((x2) + (v36))), (3, .int (x3 + (1 : Int32)))] [] rfl ?_
        refine G.less [(0, .ref (gAd E (37))), (2, .int ((x2) + (v36))), (3, .int (x3 + (1 : Int32)))] [0, 1, 2] rfl ?_
        exact ih _ _ _ _ _ hr _ _ ha36 hD hA hR ((hf.tr fa35 (fun _ h => h)).tr fa36 (fun _ h => h))
set_option maxRecDepth 100000 in
set_option maxHeartbeats 4000000 in
theorem k_X7_tablesOfCopy (E : gE) (f : Nat → va_E) (N B gr : Nat) (C D : CfT) (A : MS) (hz : CfZ E N B gr) (h : CfV E f N B gr C) (hD : Dq D C) (hA : AR N B gr A C) (a0 : Int32) (r : Int32) (D9 : CfT) (hr : d_X7_tablesOfCopy N (vA A) D a0 = some (r, D9)) : Ct E 5 yX7_tablesOfCopy cX7_tablesOfCopy 4 (some .int) [.ref (gAd E (37)), .int (a0)] f (fun v g => v = some (.int r) ∧ ST E N B gr f C A D9 g, fun _ _ => False) := by
  obtain ⟨z1, z2, z3, z4, z5, z6, z7⟩ := id hz
  refine Ct.of (by decide) (Nat.le_of_ble_eq_true rfl) (fun sz => ?_)
  refine G.eql [(0, .ref (gAd E (37))), (1, .int (a0))] rfl ?_
  unfold d_X7_tablesOfCopy at hr
  refine G.go tv_X7_tablesOfCopy 2 2 [(0, .ref (gAd E (37))), (1, .int (a0))] [.int (a0), .ref (gAd E (37))] rfl ?_
  obtain ⟨D27, hv27, hr⟩ := bnd_s hr
  refine G.callV (37) [.int (a0)] [] (k_X7_gather E _ N B gr C D A hz h hD hA a0 D27 hv27) cls_X7 (by omega) (h.q37) cw_X7_152 w_1550 w_1551 (Nat.le_of_ble_eq_true rfl) rfl (Nat.le_of_ble_eq_true rfl) (tbd tv_X7_tablesOfCopy rfl) (fun v27w f27 q27 => ?_) (fun _ _ h => h.elim)
  obtain ⟨rfl, C27, ha27, hD27, hA27, hR27, fa27⟩ := q27
  refine G.eqs [] rfl ?_
  refine G.go tv_X7_tablesOfCopy 4 9 [(0, .ref (gAd E (37))), (1, .int (a0)), (2, .int ((0 : Int32))), (3, .int ((0 : Int32)))] [] rfl ?_
  refine G.less [(0, .ref (gAd E (37))), (2, .int ((0 : Int32))), (3, .int ((0 : Int32)))] [0, 2, 3] rfl ?_
  exact l_X7_tablesOfCopy_9 E f sz _ N B gr C A hz _ _ _ _ _ _ hr _ _ ha27 hD27 hA27 (Rq.rf.tr hR27) (Fr.rf.tr fa27 (fun _ h => h))
def tb_X7_blocksAndTables : List (Nat × Instr × Nat) := [(0, .aload_n 0, 1), (1, .iload_n 1, 1), (2, .invokevirtual 152, 3), (5, .aload_n 0, 1), (6, .getfield 145, 3), (9, .aload_n 0, 1), (10, .iload_n 1, 1), (11, .invokevirtual 155, 3), (14, .ifCond .ne 7, 3), (17, .iconst 0, 1), (18, .goto 4, 3), (21, .iconst 1, 1), (22, .iadd, 1), (23, .istore_n 2, 1), (24, .aload_n 0, 1), (25, .iload_n 1, 1), (26, .invokevirtual 158, 3), (29, .istore_n 3, 1), (30, .iload_n 3, 1), (31, .ifCond .ne 5, 3), (34, .iload_n 2, 1), (35, .ireturn, 1), (36, .iconst 0, 1), (37, .istore 4, 2), (39, .iload 4, 2), (41, .bipush 64, 2), (43, .if_icmp .ge 22, 3), (46, .aload_n 0, 1), (47, .iload_n 3, 1), (48, .iload 4, 2), (50, .invokevirtual 161, 3), (53, .ifCond .eq 6, 3), (56, .iinc 2 1, 3), (59, .iinc 4 1, 3), (62, .goto (-23), 3), (65, .iload_n 2, 1), (66, .iconst 1, 1), (67, .iadd, 1), (68, .ireturn, 1)]
theorem tv_X7_blocksAndTables : Tv cX7_blocksAndTables tb_X7_blocksAndTables := by
  unfold Tv
  decide +kernel
theorem w_992 : Cond.methodLink "LedgerFiles$Nodes" 155 yX7_firstTable ∈ TB := tp_4 126 (by decide +kernel) rfl
theorem w_995 : Cond.code yX7_firstTable prog_9_method_9_code 2 (some .int) ∈ TB := tp_4 129 rfl rfl
theorem cw_X7_155 : Cw RX7 155 yX7_firstTable cX7_firstTable 2 (some .int) 1 := ⟨w_992, w_995, w_157, by decide +kernel, by decide +kernel, by decide⟩
theorem w_993 : Cond.instanceMethod yX7_firstTable ∈ TB := tp_4 127 (by decide +kernel) rfl
theorem w_994 : Cond.selects "LedgerFiles$Nodes" yX7_firstTable yX7_firstTable ∈ TB := tp_4 128 (by decide +kernel) rfl
theorem w_996 : Cond.methodLink "LedgerFiles$Nodes" 158 yX7_secondTable ∈ TB := tp_4 130 (by decide +kernel) rfl
theorem w_999 : Cond.code yX7_secondTable prog_9_method_10_code 2 (some .int) ∈ TB := tp_4 133 rfl rfl
theorem cw_X7_158 : Cw RX7 158 yX7_secondTable cX7_secondTable 2 (some .int) 1 := ⟨w_996, w_999, w_157, by decide +kernel, by decide +kernel, by decide⟩
theorem w_997 : Cond.instanceMethod yX7_secondTable ∈ TB := tp_4 131 (by decide +kernel) rfl
theorem w_998 : Cond.selects "LedgerFiles$Nodes" yX7_secondTable yX7_secondTable ∈ TB := tp_4 132 (by decide +kernel) rfl
theorem w_1000 : Cond.methodLink "LedgerFiles$Nodes" 161 yX7_tableOfSecond ∈ TB := tp_4 134 (by decide +kernel) rfl
theorem w_1003 : Cond.code yX7_tableOfSecond prog_9_method_11_code 3 (some .int) ∈ TB := tp_4 137 rfl rfl
theorem cw_X7_161 : Cw RX7 161 yX7_tableOfSecond cX7_tableOfSecond 3 (some .int) 2 := ⟨w_1000, w_1003, w_157, by decide +kernel, by decide +kernel, by decide⟩
theorem w_1001 : Cond.instanceMethod yX7_tableOfSecond ∈ TB := tp_4 135 (by decide +kernel) rfl
theorem w_1002 : Cond.selects "LedgerFiles$Nodes" yX7_tableOfSecond yX7_tableOfSecond ∈ TB := tp_4 136 (by decide +kernel) rfl
def d_X7_blocksAndTables_39 (N : Nat) (V : Nat → Rw) : Nat → CfT → Int32 → Int32 → Int32 → Option (Int32 × CfT)
  | 0, _, _, _, _ => none
  | n + 1, D, x2, x3, x4 => if ((64 : Int32)) ≤ x4 then some ((x2) + ((1 : Int32)), D) else bnd (d_X7_tableOfSecond N V D x3 x4) (fun v41 => if v41 = 0 then d_X7_blocksAndTables_39 N V n D x2 x3 (x4 + (1 : Int32)) else d_X7_blocksAndTables_39 N V n D (x2 + (1 : Int32)) x3 (x4 + (1 : Int32)))
def d_X7_blocksAndTables (N : Nat) (V : Nat → Rw) (D : CfT) (a0 : Int32) : Option (Int32 × CfT) := bnd (d_X7_gather N V D a0) (fun D37 => bnd (d_X7_firstTable N V D37 a0) (fun v38 => if v38 = 0 then bnd (d_X7_secondTable N V D37 a0) (fun v40 => if v40 = 0 then some ((cS D37 3705) + ((0 : Int32)), D37) else d_X7_blocksAndTables_39 N V fuL D37 ((cS D37 3705) + ((0 : Int32))) v40 ((0 : Int32))) else bnd (d_X7_secondTable N V D37 a0) (fun v39 => if v39 = 0 then some ((cS D37 3705) + ((1 : Int32)), D37) else d_X7_blocksAndTables_39 N V fuL D37 ((cS D37 3705) + ((1 : Int32))) v39 ((0 : Int32)))))
set_option maxRecDepth 100000 in
set_option maxHeartbeats 4000000 in
theorem l_X7_blocksAndTables_39 (E : gE) (f0 : Nat → va_E) (sz : Nat) (QA : Nat → Prop) (N B gr : Nat) (C0 : CfT) (A : MS) (hz : CfZ E N B gr) : ∀ (n : Nat), ∀ (D : CfT) (x2 : Int32) (x3 : Int32) (x4 : Int32) (r : Int32) (D9 : CfT) (hr : d_X7_blocksAndTables_39 N (vA A) n D x2 x3 x4 = some (r, D9)) (f : Nat → va_E) (C : CfT) (h : CfV E f N B gr C) (hD : Dq D C) (hA : AR N B gr A C) (hR : Rq C0 C) (hf : Fr CfK f0 f), G E (5, yX7_blocksAndTables, 5, (some .int), sz, QA) cX7_blocksAndTables (gO E (5, yX7_blocksAndTables, 5, (some .int), sz, QA) (fun v g => v = some (.int r) ∧ ST E N B gr f0 C0 A D9 g, fun _ _ => False)) 39 [(0, .ref (gAd E (37))), (2, .int (x2)), (3, .int (x3)), (4, .int (x4))] [] f := by
  obtain ⟨z1, z2, z3, z4, z5, z6, z7⟩ := id hz
  intro n
  induction n with
  | zero =>
    intro D x2 x3 x4 r D9 hr f C h hD hA hR hf
    cases hr
  | succ n ih =>
    intro D x2 x3 x4 r D9 hr f C h hD hA hR hf
    unfold d_X7_blocksAndTables_39 at hr
    refine G.go tv_X7_blocksAndTables 2 43 [(0, .ref (gAd E (37))), (2, .int (x2)), (3, .int (x3)), (4, .int (x4))] [.int ((64 : Int32)), .int (x4)] rfl ?_
    refine G.cmp_ge 65 (tbd tv_X7_blocksAndTables rfl) (by decide) (fun c43 => ?_) (fun c43 => ?_)
    · replace hr := ite_t c43 hr
      refine G.go tv_X7_blocksAndTables 3 68 [(0, .ref (gAd E (37))), (2, .int (x2)), (3, .int (x3)), (4, .int (x4))] [.int ((x2) + ((1 : Int32)))] rfl ?_
      cases hr
      exact G.iret rfl rfl ⟨rfl, C, h, hD, hA, hR, hf⟩ (tbd tv_X7_blocksAndTables rfl)
    · replace hr := ite_f c43 hr
      refine G.go tv_X7_blocksAndTables 3 50 [(0, .ref (gAd E (37))), (2, .int (x2)), (3, .int (x3)), (4, .int (x4))] [.int (x4), .int (x3), .ref (gAd E (37))] rfl ?_
      obtain ⟨v41, hv41, hr⟩ := bnd_s hr
      refine G.callV (37) [.int (x3), .int (x4)] [] (k_X7_tableOfSecond E _ N B gr C D A hz h hD hA x3 x4 v41 hv41) cls_X7 (by omega) (h.q37) cw_X7_161 w_1001 w_1002 (Nat.le_of_ble_eq_true rfl) rfl (Nat.le_of_ble_eq_true rfl) (tbd tv_X7_blocksAndTables rfl) (fun v41w f41 q41 => ?_) (fun _ _ h => h.elim)
      obtain ⟨rfl, ha41, fa41⟩ := q41
      refine G.eqs [.int (v41)] rfl ?_
      refine G.if_eq 59 (tbd tv_X7_blocksAndTables rfl) (by decide) (fun c53 => ?_) (fun c53 => ?_)
      · replace hr := ite_t c53 hr
        refine G.go tv_X7_blocksAndTables 2 39 [(0, .ref (gAd E (37))), (2, .int (x2)), (3, .int (x3)), (4, .int (x4 + (1 : Int32)))] [] rfl ?_
        refine G.less [(0, .ref (gAd E (37))), (2, .int (x2)), (3, .int (x3)), (4, .int (x4 + (1 : Int32)))] [0, 1, 2, 3] rfl ?_
        exact ih _ _ _ _ _ _ hr _ _ ha41 hD hA hR (hf.tr fa41 (fun _ h => h))
      · replace hr := ite_f c53 hr
        refine G.go tv_X7_blocksAndTables 3 39 [(0, .ref (gAd E (37))), (2, .int (x2 + (1 : Int32))), (3, .int (x3)), (4, .int (x4 + (1 : Int32)))] [] rfl ?_
        refine G.less [(0, .ref (gAd E (37))), (2, .int (x2 + (1 : Int32))), (3, .int (x3)), (4, .int (x4 + (1 : Int32)))] [0, 1, 2, 3] rfl ?_
        exact ih _ _ _ _ _ _ hr _ _ ha41 hD hA hR (hf.tr fa41 (fun _ h => h))
set_option maxRecDepth 100000 in
set_option maxHeartbeats 4000000 in
theorem k_X7_blocksAndTables (E : gE) (f : Nat → va_E) (N B gr : Nat) (C D : CfT) (A : MS) (hz : CfZ E N B gr) (h : CfV E f N B gr C) (hD : Dq D C) (hA : AR N B gr A C) (a0 : Int32) (r : Int32) (D9 : CfT) (hr : d_X7_blocksAndTables N (vA A) D a0 = some (r, D9)) : Ct E 5 yX7_blocksAndTables cX7_blocksAndTables 5 (some .int) [.ref (gAd E (37)), .int (a0)] f (fun v g => v = some (.int r) ∧ ST E N B gr f C A D9 g, fun _ _ => False) := by
  obtain ⟨z1, z2, z3, z4, z5, z6, z7⟩ := id hz
  refine Ct.of (by decide) (Nat.le_of_ble_eq_true rfl) (fun sz => ?_)
  refine G.eql [(0, .ref (gAd E (37))), (1, .int (a0))] rfl ?_
  unfold d_X7_blocksAndTables at hr
  refine G.go tv_X7_blocksAndTables 2 2 [(0, .ref (gAd E (37))), (1, .int (a0))] [.int (a0), .ref (gAd E (37))] rfl ?_
  obtain ⟨D37, hv37, hr⟩ := bnd_s hr
  refine G.callV (37) [.int (a0)] [] (k_X7_gather E _ N B gr C D A hz h hD hA a0 D37 hv37) cls_X7 (by omega) (h.q37) cw_X7_152 w_1550 w_1551 (Nat.le_of_ble_eq_true rfl) rfl (Nat.le_of_ble_eq_true rfl) (tbd tv_X7_blocksAndTables rfl) (fun v37w f37 q37 => ?_) (fun _ _ h => h.elim)
  obtain ⟨rfl, C37, ha37, hD37, hA37, hR37, fa37⟩ := q37
  refine G.eqs [] rfl ?_
  refine G.go tv_X7_blocksAndTables 1 6 [(0, .ref (gAd E (37))), (1, .int (a0))] [.ref (gAd E (37))] rfl ?_
  refine G.getf cls_X7 (37) 5 (by omega) (ha37.q37) (by decide) rfl (tbd tv_X7_blocksAndTables rfl) w_489 ?_
  refine G.eq1 (b := cS D37 3705) (hD37.1 3705 (by decide)) ?_
  refine G.go tv_X7_blocksAndTables 2 11 [(0, .ref (gAd E (37))), (1, .int (a0))] [.int (a0), .ref (gAd E (37)), .int (cS D37 3705)] rfl ?_
  obtain ⟨v38, hv38, hr⟩ := bnd_s hr
  refine G.callV (37) [.int (a0)] [.int (cS D37 3705)] (k_X7_firstTable E _ N B gr C37 D37 A hz ha37 hD37 hA37 a0 v38 hv38) cls_X7 (by omega) (ha37.q37) cw_X7_155 w_993 w_994 (Nat.le_of_ble_eq_true rfl) rfl (Nat.le_of_ble_eq_true rfl) (tbd tv_X7_blocksAndTables rfl) (fun v38w f38 q38 => ?_) (fun _ _ h => h.elim)
  obtain ⟨rfl, ha38, fa38⟩ := q38
  refine G.eqs [.int (v38), .int (cS D37 3705)] rfl ?_
  refine G.if_ne 21 (tbd tv_X7_blocksAndTables rfl) (by decide) (fun c14 => ?_) (fun c14 => ?_)
  · replace hr := ite_f c14 hr
    refine G.go tv_X7_blocksAndTables 5 26 [(0, .ref (gAd E (37))), (1, .int (a0)), (2, .int ((cS D37 3705) + ((1 : Int32))))] [.int (a0), .ref (gAd E (37))] rfl ?_
    obtain ⟨v39, hv39, hr⟩ := bnd_s hr
    refine G.callV (37) [.int (a0)] [] (k_X7_secondTable E _ N B gr C37 D37 A hz ha38 hD37 hA37 a0 v39 hv39) cls_X7 (by omega) (ha38.q37) cw_X7_158 w_997 w_998 (Nat.le_of_ble_eq_true rfl) rfl (Nat.le_of_ble_eq_true rfl) (tbd tv_X7_blocksAndTables rfl) (fun v39w f39 q39 => ?_) (fun _ _ h => h.elim)
    obtain ⟨rfl, ha39, fa39⟩ := q39
    refine G.eqs [.int (v39)] rfl ?_
    refine G.go tv_X7_blocksAndTables 2 31 [(0, .ref (gAd E (37))), (1, .int (a0)), (2, .int ((cS D37 3705) + ((1 : Int32)))), (3, .int (v39))] [.int (v39)] rfl ?_
    refine G.if_ne 36 (tbd tv_X7_blocksAndTables rfl) (by decide) (fun c31 => ?_) (fun c31 => ?_)
    · replace hr := ite_f c31 hr
      refine G.go tv_X7_blocksAndTables 2 39 [(0, .ref (gAd E (37))), (1, .int (a0)), (2, .int ((cS D37 3705) + ((1 : Int32)))), (3, .int (v39)), (4, .int ((0 : Int32)))] [] rfl ?_
      refine G.less [(0, .ref (gAd E (37))), (2, .int ((cS D37 3705) + ((1 : Int32)))), (3, .int (v39)), (4, .int ((0 : Int32)))] [0, 2, 3, 4] rfl ?_
      exact l_X7_blocksAndTables_39 E f sz _ N B gr C A hz _ _ _ _ _ _ _ hr _ _ ha39 hD37 hA37 (Rq.rf.tr hR37) (((Fr.rf.tr fa37 (fun _ h => h)).tr fa38 (fun _ h => h)).tr fa39 (fun _ h => h))
    · replace hr := ite_t c31 hr
      refine G.go tv_X7_blocksAndTables 1 35 [(0, .ref (gAd E (37))), (1, .int (a0)), (2, .int ((cS D37 3705) + ((1 : Int32)))), (3, .int (v39))] [.int ((cS D37 3705) + ((1 : Int32)))] rfl ?_
      cases hr
      exact G.iret rfl rfl ⟨rfl, C37, ha39, hD37, hA37, (Rq.rf.tr hR37), (((Fr.rf.tr fa37 (fun _ h => h)).tr fa38 (fun _ h => h)).tr fa39 (fun _ h => h))⟩ (tbd tv_X7_blocksAndTables rfl)
  · replace hr := ite_t c14 hr
    refine G.go tv_X7_blocksAndTables 6 26 [(0, .ref (gAd E (37))), (1, .int (a0)), (2, .int ((cS D37 3705) + ((0 : Int32))))] [.int (a0), .ref (gAd E (37))] rfl ?_
    obtain ⟨v40, hv40, hr⟩ := bnd_s hr
    refine G.callV (37) [.int (a0)] [] (k_X7_secondTable E _ N B gr C37 D37 A hz ha38 hD37 hA37 a0 v40 hv40) cls_X7 (by omega) (ha38.q37) cw_X7_158 w_997 w_998 (Nat.le_of_ble_eq_true rfl) rfl (Nat.le_of_ble_eq_true rfl) (tbd tv_X7_blocksAndTables rfl) (fun v40w f40 q40 => ?_) (fun _ _ h => h.elim)
    obtain ⟨rfl, ha40, fa40⟩ := q40
    refine G.eqs [.int (v40)] rfl ?_
    refine G.go tv_X7_blocksAndTables 2 31 [(0, .ref (gAd E (37))), (1, .int (a0)), (2, .int ((cS D37 3705) + ((0 : Int32)))), (3, .int (v40))] [.int (v40)] rfl ?_
    refine G.if_ne 36 (tbd tv_X7_blocksAndTables rfl) (by decide) (fun c31 => ?_) (fun c31 => ?_)
    · replace hr := ite_f c31 hr
      refine G.go tv_X7_blocksAndTables 2 39 [(0, .ref (gAd E (37))), (1, .int (a0)), (2, .int ((cS D37 3705) + ((0 : Int32)))), (3, .int (v40)), (4, .int ((0 : Int32)))] [] rfl ?_
      refine G.less [(0, .ref (gAd E (37))), (2, .int ((cS D37 3705) + ((0 : Int32)))), (3, .int (v40)), (4, .int ((0 : Int32)))] [0, 2, 3, 4] rfl ?_
      exact l_X7_blocksAndTables_39 E f sz _ N B gr C A hz _ _ _ _ _ _ _ hr _ _ ha40 hD37 hA37 (Rq.rf.tr hR37) (((Fr.rf.tr fa37 (fun _ h => h)).tr fa38 (fun _ h => h)).tr fa40 (fun _ h => h))
    · replace hr := ite_t c31 hr
      refine G.go tv_X7_blocksAndTables 1 35 [(0, .ref (gAd E (37))), (1, .int (a0)), (2, .int ((cS D37 3705) + ((0 : Int32)))), (3, .int (v40))] [.int ((cS D37 3705) + ((0 : Int32)))] rfl ?_
      cases hr
      exact G.iret rfl rfl ⟨rfl, C37, ha40, hD37, hA37, (Rq.rf.tr hR37), (((Fr.rf.tr fa37 (fun _ h => h)).tr fa38 (fun _ h => h)).tr fa40 (fun _ h => h))⟩ (tbd tv_X7_blocksAndTables rfl)
def tb_X3_hashBytes : List (Nat × Instr × Nat) := [(0, .aload_n 0, 1), (1, .getfield 23, 3), (4, .iload_n 3, 1), (5, .invokevirtual 71, 3), (8, .istore 4, 2), (10, .iconst 0, 1), (11, .istore 5, 2), (13, .aload_n 0, 1), (14, .getfield 23, 3), (17, .iload_n 3, 1), (18, .invokevirtual 114, 3), (21, .iconst 0, 1), (22, .istore 6, 2), (24, .iload 6, 2), (26, .aload_n 0, 1), (27, .getfield 23, 3), (30, .getfield 101, 3), (33, .if_icmp .ge 104, 3), (36, .aload_n 0, 1), (37, .getfield 23, 3), (40, .getfield 105, 3), (43, .iload 6, 2), (45, .iaload, 1), (46, .sipush 128, 3), (49, .imul, 1), (50, .istore 7, 2), (52, .lload_n 1, 1), (53, .iload 7, 2), (55, .iload 5, 2), (57, .isub, 1), (58, .invokestatic 118, 3), (61, .lmul, 1), (62, .lstore_n 1, 1), (63, .iload 4, 2), (65, .iload 7, 2), (67, .sipush 128, 3), (70, .iadd, 1), (71, .invokestatic 58, 3), (74, .istore 5, 2), (76, .aload_n 0, 1), (77, .getfield 19, 3), (80, .aload_n 0, 1), (81, .getfield 23, 3), (84, .getfield 109, 3), (87, .iload 6, 2), (89, .iaload, 1), (90, .invokevirtual 88, 3), (93, .astore 8, 2), (95, .iconst 0, 1), (96, .istore 9, 2), (98, .iload 9, 2), (100, .iload 5, 2), (102, .iload 7, 2), (104, .isub, 1), (105, .if_icmp .ge 26, 3), (108, .lload_n 1, 1), (109, .ldc2_w 112, 3), (112, .lmul, 1), (113, .aload 8, 2), (115, .iload 9, 2), (117, .baload, 1), (118, .sipush 255, 3), (121, .iand, 1), (122, .i2l, 1), (123, .ladd, 1), (124, .lstore_n 1, 1), (125, .iinc 9 1, 3), (128, .goto (-30), 3), (131, .iinc 6 1, 3), (134, .goto (-110), 3), (137, .lload_n 1, 1), (138, .iload 4, 2), (140, .iload 5, 2), (142, .isub, 1), (143, .invokestatic 118, 3), (146, .lmul, 1), (147, .lreturn, 1)]
theorem tv_X3_hashBytes : Tv cX3_hashBytes tb_X3_hashBytes := by
  unfold Tv
  decide +kernel
theorem w_1959 : Cond.methodLink "LedgerFiles$Files" 114 yX7_gather ∈ TB := tp_8 133 (by decide +kernel) rfl
theorem cw_X3_114 : Cw RX3 114 yX7_gather cX7_gather 6 none 1 := ⟨w_1959, w_1552, w_157, by decide +kernel, by decide +kernel, by decide⟩
theorem w_487 : Cond.fieldLink "LedgerFiles$Files" 101 "LedgerFiles$Nodes" "found" "I" ∈ TB := tp_2 101 (by decide +kernel) rfl
theorem w_1960 : Cond.methodLink "LedgerFiles$Files" 118 yX3_powerOf31 ∈ TB := tp_8 134 (by decide +kernel) rfl
theorem w_1962 : Cond.code yX3_powerOf31 prog_5_method_7_code 6 (some .long) ∈ TB := tp_8 136 rfl rfl
theorem cw_X3_118 : Cw RX3 118 yX3_powerOf31 cX3_powerOf31 6 (some .long) 1 := ⟨w_1960, w_1962, w_159, by decide +kernel, by decide +kernel, by decide⟩
theorem w_1961 : Cond.static yX3_powerOf31 ∈ TB := tp_8 135 (by decide +kernel) rfl
theorem w_482 : Cond.fieldLink "LedgerFiles$Files" 105 "LedgerFiles$Nodes" "places" "[I" ∈ TB := tp_2 96 (by decide +kernel) rfl
theorem w_1578 : Cond.methodLink "LedgerFiles$Files" 58 yJ9_min_7cf53 ∈ TB := tp_6 232 (by decide +kernel) rfl
theorem w_485 : Cond.fieldLink "LedgerFiles$Files" 109 "LedgerFiles$Nodes" "blocks" "[I" ∈ TB := tp_2 99 (by decide +kernel) rfl
def d_X3_hashBytes_98 (N : Nat) (V : Nat → Rw) (self24 : CfT → Int64 → Int32 → Int32 → Int32 → Option (Int64 × CfT)) : Nat → CfT → Int64 → Int32 → Int32 → Int32 → Int32 → (Nat → Int32) → Nat → Int32 → Option (Int64 × CfT)
  | 0, _, _, _, _, _, _, _, _, _ => none
  | n + 1, D, x1, x4, x5, x6, x7, ga8, na8, x9 => if ((x5) - (x7)) ≤ x9 then self24 D x1 x4 x5 (x6 + (1 : Int32)) else ld ga8 na8 x9 (fun v51 => d_X3_hashBytes_98 N V self24 n D (((x1) * ((31 : Int64))) + (((v51) &&& ((255 : Int32)) : Int32).toInt64)) x4 x5 x6 x7 ga8 na8 (x9 + (1 : Int32)))
def d_X3_hashBytes_24 (N : Nat) (V : Nat → Rw) : Nat → CfT → Int64 → Int32 → Int32 → Int32 → Option (Int64 × CfT)
  | 0, _, _, _, _, _ => none
  | n + 1, D, x1, x4, x5, x6 => if (cS D 3705) ≤ x6 then bnd (d_X3_powerOf31 N V D ((x4) - (x5))) (fun v44 => some ((x1) * (v44), D)) else ld (cA D 38) 4168 x6 (fun v45 => bnd (d_X3_powerOf31 N V D (((v45) * ((128 : Int32))) - (x5))) (fun v46 => nm (if (((v45) * ((128 : Int32))) + ((128 : Int32))) < x4 then (((v45) * ((128 : Int32))) + ((128 : Int32))) else x4) (fun v47 => ld (cA D 39) 4168 x6 (fun v48 => seeB N V v48 (fun y50 => d_X3_hashBytes_98 N V (d_X3_hashBytes_24 N V n) fuL D ((x1) * (v46)) x4 v47 x6 ((v45) * ((128 : Int32))) y50 128 ((0 : Int32)))))))
def d_X3_hashBytes (N : Nat) (V : Nat → Rw) (D : CfT) (a0 : Int64) (a1 : Int32) : Option (Int64 × CfT) := bnd (d_X7_size N V D a1) (fun v42 => bnd (d_X7_gather N V D a1) (fun D43 => d_X3_hashBytes_24 N V fuL D43 a0 v42 ((0 : Int32)) ((0 : Int32))))
set_option maxRecDepth 100000 in
set_option maxHeartbeats 4000000 in
theorem l_X3_hashBytes_98 (E : gE) (f0 : Nat → va_E) (sz : Nat) (QA : Nat → Prop) (N B gr : Nat) (C0 : CfT) (A : MS) (hz : CfZ E N B gr) (self24 : CfT → Int64 → Int32 → Int32 → Int32 → Option (Int64 × CfT)) (hs24 : ∀ (D : CfT) (x1 : Int64) (x4 : Int32) (x5 : Int32) (x6 : Int32) (r : Int64) (D9 : CfT) (hr : self24 D x1 x4 x5 x6 = some (r, D9)) (f : Nat → va_E) (C : CfT) (h : CfV E f N B gr C) (hD : Dq D C) (hA : AR N B gr A C) (hR : Rq C0 C) (hf : Fr CfK f0 f), G E (5, yX3_hashBytes, 10, (some .long), sz, QA) cX3_hashBytes (gO E (5, yX3_hashBytes, 10, (some .long), sz, QA) (fun v g => v = some (.long r) ∧ ST E N B gr f0 C0 A D9 g, fun _ _ => False)) 24 [(0, .ref (gAd E (41))), (1, .long (x1)), (4, .int (x4)), (5, .int (x5)), (6, .int (x6))] [] f) : ∀ (n : Nat), ∀ (D : CfT) (x1 : Int64) (x4 : Int32) (x5 : Int32) (x6 : Int32) (x7 : Int32) (ga8 : Nat → Int32) (na8 : Nat) (x9 : Int32) (r : Int64) (D9 : CfT) (hr : d_X3_hashBytes_98 N (vA A) self24 n D x1 x4 x5 x6 x7 ga8 na8 x9 = some (r, D9)) (f : Nat → va_E) (C : CfT) (h : CfV E f N B gr C) (hD : Dq D C) (hA : AR N B gr A C) (hR : Rq C0 C) (hf : Fr CfK f0 f) (ka8 : Nat) (wa8 : ArK N B gr C ka8 na8 ga8), G E (5, yX3_hashBytes, 10, (some .long), sz, QA) cX3_hashBytes (gO E (5, yX3_hashBytes, 10, (some .long), sz, QA) (fun v g => v = some (.long r) ∧ ST E N B gr f0 C0 A D9 g, fun _ _ => False)) 98 [(0, .ref (gAd E (41))), (1, .long (x1)), (4, .int (x4)), (5, .int (x5)), (6, .int (x6)), (7, .int (x7)), (8, .ref (gAd E (ka8))), (9, .int (x9))] [] f := by
  obtain ⟨z1, z2, z3, z4, z5, z6, z7⟩ := id hz
  intro n
  induction n with
  | zero =>
    intro D x1 x4 x5 x6 x7 ga8 na8 x9 r D9 hr f C h hD hA hR hf ka8 wa8
    cases hr
  | succ n ih =>
    intro D x1 x4 x5 x6 x7 ga8 na8 x9 r D9 hr f C h hD hA hR hf ka8 wa8
    unfold d_X3_hashBytes_98 at hr
    refine G.go tv_X3_hashBytes 4 105 [(0, .ref (gAd E (41))), (1, .long (x1)), (4, .int (x4)), (5, .int (x5)), (6, .int (x6)), (7, .int (x7)), (8, .ref (gAd E (ka8))), (9, .int (x9))] [.int ((x5) - (x7)), .int (x9)] rfl ?_
    refine G.cmp_ge 131 (tbd tv_X3_hashBytes rfl) (by decide) (fun c105 => ?_) (fun c105 => ?_)
    · replace hr := ite_t c105 hr
      refine G.go tv_X3_hashBytes 2 24 [(0, .ref (gAd E (41))), (1, .long (x1)), (4, .int (x4)), (5, .int (x5)), (6, .int (x6 + (1 : Int32))), (7, .int (x7)), (8, .ref (gAd E (ka8))), (9, .int (x9))] [] rfl ?_
      refine G.less [(0, .ref (gAd E (41))), (1, .long (x1)), (4, .int (x4)), (5, .int (x5)), (6, .int (x6 + (1 : Int32)))] [0, 1, 2, 3, 4] rfl ?_
      exact hs24 _ _ _ _ _ _ _ hr _ _ h hD hA hR hf
    · replace hr := ite_f c105 hr
      refine G.go tv_X3_hashBytes 1 109 [(0, .ref (gAd E (41))), (1, .long (x1)), (4, .int (x4)), (5, .int (x5)), (6, .int (x6)), (7, .int (x7)), (8, .ref (gAd E (ka8))), (9, .int (x9))] [.long (x1)] rfl ?_
      refine G.ldc2 (31) (tbd tv_X3_hashBytes rfl) w_1963 ?_
      refine G.go tv_X3_hashBytes 3 117 [(0, .ref (gAd E (41))), (1, .long (x1)), (4, .int (x4)), (5, .int (x5)), (6, .int (x6)), (7, .int (x7)), (8, .ref (gAd E (ka8))), (9, .int (x9))] [.int (x9), .ref (gAd E (ka8)), .long ((x1) * ((31 : Int64)))] rfl ?_
      obtain ⟨v51, b51, e51, hr⟩ := ld_s hr
      refine G.arld hz h (wa8) b51 e51 (tbd tv_X3_hashBytes rfl) ?_
      refine G.go tv_X3_hashBytes 7 98 [(0, .ref (gAd E (41))), (1, .long (((x1) * ((31 : Int64))) + (((v51) &&& ((255 : Int32)) : Int32).toInt64))), (4, .int (x4)), (5, .int (x5)), (6, .int (x6)), (7, .int (x7)), (8, .ref (gAd E (ka8))), (9, .int (x9 + (1 : Int32)))] [] rfl ?_
      refine G.less [(0, .ref (gAd E (41))), (1, .long (((x1) * ((31 : Int64))) + (((v51) &&& ((255 : Int32)) : Int32).toInt64))), (4, .int (x4)), (5, .int (x5)), (6, .int (x6)), (7, .int (x7)), (8, .ref (gAd E (ka8))), (9, .int (x9 + (1 : Int32)))] [0, 1, 2, 3, 4, 5, 6, 7] rfl ?_
      exact ih _ _ _ _ _ _ _ _ _ _ _ hr _ _ h hD hA hR hf ka8 wa8
set_option maxRecDepth 100000 in
set_option maxHeartbeats 4000000 in
theorem l_X3_hashBytes_24 (E : gE) (f0 : Nat → va_E) (sz : Nat) (QA : Nat → Prop) (N B gr : Nat) (C0 : CfT) (A : MS) (hz : CfZ E N B gr) : ∀ (n : Nat), ∀ (D : CfT) (x1 : Int64) (x4 : Int32) (x5 : Int32) (x6 : Int32) (r : Int64) (D9 : CfT) (hr : d_X3_hashBytes_24 N (vA A) n D x1 x4 x5 x6 = some (r, D9)) (f : Nat → va_E) (C : CfT) (h : CfV E f N B gr C) (hD : Dq D C) (hA : AR N B gr A C) (hR : Rq C0 C) (hf : Fr CfK f0 f), G E (5, yX3_hashBytes, 10, (some .long), sz, QA) cX3_hashBytes (gO E (5, yX3_hashBytes, 10, (some .long), sz, QA) (fun v g => v = some (.long r) ∧ ST E N B gr f0 C0 A D9 g, fun _ _ => False)) 24 [(0, .ref (gAd E (41))), (1, .long (x1)), (4, .int (x4)), (5, .int (x5)), (6, .int (x6))] [] f := by
  obtain ⟨z1, z2, z3, z4, z5, z6, z7⟩ := id hz
  intro n
  induction n with
  | zero =>
    intro D x1 x4 x5 x6 r D9 hr f C h hD hA hR hf
    cases hr
  | succ n ih =>
    intro D x1 x4 x5 x6 r D9 hr f C h hD hA hR hf
    unfold d_X3_hashBytes_24 at hr
    refine G.go tv_X3_hashBytes 2 27 [(0, .ref (gAd E (41))), (1, .long (x1)), (4, .int (x4)), (5, .int (x5)), (6, .int (x6))] [.ref (gAd E (41)), .int (x6)] rfl ?_
    refine G.getf cls_X3 (41) 1 (by omega) (h.q41) (by decide) rfl (tbd tv_X3_hashBytes rfl) w_526 ?_
    refine G.getf cls_X7 (37) 5 (by omega) (h.q37) (by decide) rfl (tbd tv_X3_hashBytes rfl) w_487 ?_
    refine G.eq1 (b := cS D 3705) (hD.1 3705 (by decide)) ?_
    refine G.cmp_ge 137 (tbd tv_X3_hashBytes rfl) (by decide) (fun c33 => ?_) (fun c33 => ?_)
    · replace hr := ite_t c33 hr
      refine G.go tv_X3_hashBytes 4 143 [(0, .ref (gAd E (41))), (1, .long (x1)), (4, .int (x4)), (5, .int (x5)), (6, .int (x6))] [.int ((x4) - (x5)), .long (x1)] rfl ?_
      obtain ⟨v44, hv44, hr⟩ := bnd_s hr
      refine G.callS [.int ((x4) - (x5))] [.long (x1)] (k_X3_powerOf31 E _ N B gr C D A hz h hD hA ((x4) - (x5)) v44 hv44) cw_X3_118 w_1961 (Nat.le_of_ble_eq_true rfl) rfl (Nat.le_of_ble_eq_true rfl) (tbd tv_X3_hashBytes rfl) (fun v44w f44 q44 => ?_) (fun _ _ h => h.elim)
      obtain ⟨rfl, ha44, fa44⟩ := q44
      refine G.eqs [.long (v44), .long (x1)] rfl ?_
      refine G.go tv_X3_hashBytes 1 147 [(0, .ref (gAd E (41))), (1, .long (x1)), (4, .int (x4)), (5, .int (x5)), (6, .int (x6))] [.long ((x1) * (v44))] rfl ?_
      cases hr
      exact G.lret rfl ⟨rfl, C, ha44, hD, hA, hR, (hf.tr fa44 (fun _ h => h))⟩ (tbd tv_X3_hashBytes rfl)
    · replace hr := ite_f c33 hr
      refine G.go tv_X3_hashBytes 1 37 [(0, .ref (gAd E (41))), (1, .long (x1)), (4, .int (x4)), (5, .int (x5)), (6, .int (x6))] [.ref (gAd E (41))] rfl ?_
      refine G.getf cls_X3 (41) 1 (by omega) (h.q41) (by decide) rfl (tbd tv_X3_hashBytes rfl) w_526 ?_
      refine G.getf cls_X7 (37) 3 (by omega) (h.q37) (by decide) rfl (tbd tv_X3_hashBytes rfl) w_482 ?_
      refine G.go tv_X3_hashBytes 1 45 [(0, .ref (gAd E (41))), (1, .long (x1)), (4, .int (x4)), (5, .int (x5)), (6, .int (x6))] [.int (x6), .ref (gAd E (38))] rfl ?_
      obtain ⟨v45, b45, e45, hr⟩ := ld_s hr
      refine G.ialdE (38) (by omega) ((h.q38).trans (congrArg (oI (gDA E) (4168)) (hD.2 38 (by decide)))) b45 e45 (tbd tv_X3_hashBytes rfl) ?_
      refine G.go tv_X3_hashBytes 7 58 [(0, .ref (gAd E (41))), (1, .long (x1)), (4, .int (x4)), (5, .int (x5)), (6, .int (x6)), (7, .int ((v45) * ((128 : Int32))))] [.int (((v45) * ((128 : Int32))) - (x5)), .long (x1)] rfl ?_
      obtain ⟨v46, hv46, hr⟩ := bnd_s hr
      refine G.callS [.int (((v45) * ((128 : Int32))) - (x5))] [.long (x1)] (k_X3_powerOf31 E _ N B gr C D A hz h hD hA (((v45) * ((128 : Int32))) - (x5)) v46 hv46) cw_X3_118 w_1961 (Nat.le_of_ble_eq_true rfl) rfl (Nat.le_of_ble_eq_true rfl) (tbd tv_X3_hashBytes rfl) (fun v46w f46 q46 => ?_) (fun _ _ h => h.elim)
      obtain ⟨rfl, ha46, fa46⟩ := q46
      refine G.eqs [.long (v46), .long (x1)] rfl ?_
      refine G.go tv_X3_hashBytes 6 71 [(0, .ref (gAd E (41))), (1, .long ((x1) * (v46))), (4, .int (x4)), (5, .int (x5)), (6, .int (x6)), (7, .int ((v45) * ((128 : Int32))))] [.int (((v45) * ((128 : Int32))) + ((128 : Int32))), .int (x4)] rfl ?_
      refine G.mmin w_1578 w_214 w_150 w_215 (Nat.le_of_ble_eq_true rfl) (Nat.le_of_ble_eq_true rfl) (by show _ ≤ _; first | exact Nat.zero_le _ | exact Nat.le_of_ble_eq_true rfl) (by show _ ≤ _; first | exact Nat.zero_le _ | exact Nat.le_of_ble_eq_true rfl) (tbd tv_X3_hashBytes rfl) ?_
      obtain ⟨v47, e47, hr⟩ := nm_s hr
      refine G.eq1 (b := v47) e47 ?_
      refine G.go tv_X3_hashBytes 2 77 [(0, .ref (gAd E (41))), (1, .long ((x1) * (v46))), (4, .int (x4)), (5, .int (v47)), (6, .int (x6)), (7, .int ((v45) * ((128 : Int32))))] [.ref (gAd E (41))] rfl ?_
      refine G.getf cls_X3 (41) 0 (by omega) (ha46.q41) (by decide) rfl (tbd tv_X3_hashBytes rfl) w_525 ?_
      refine G.go tv_X3_hashBytes 1 81 [(0, .ref (gAd E (41))), (1, .long ((x1) * (v46))), (4, .int (x4)), (5, .int (v47)), (6, .int (x6)), (7, .int ((v45) * ((128 : Int32))))] [.ref (gAd E (41)), .ref (gAd E (25))] rfl ?_
      refine G.getf cls_X3 (41) 1 (by omega) (ha46.q41) (by decide) rfl (tbd tv_X3_hashBytes rfl) w_526 ?_
      refine G.getf cls_X7 (37) 4 (by omega) (ha46.q37) (by decide) rfl (tbd tv_X3_hashBytes rfl) w_485 ?_
      refine G.go tv_X3_hashBytes 1 89 [(0, .ref (gAd E (41))), (1, .long ((x1) * (v46))), (4, .int (x4)), (5, .int (v47)), (6, .int (x6)), (7, .int ((v45) * ((128 : Int32))))] [.int (x6), .ref (gAd E (39)), .ref (gAd E (25))] rfl ?_
      obtain ⟨v48, b48, e48, hr⟩ := ld_s hr
      refine G.ialdE (39) (by omega) ((ha46.q39).trans (congrArg (oI (gDA E) (4168)) (hD.2 39 (by decide)))) b48 e48 (tbd tv_X3_hashBytes rfl) ?_
      obtain ⟨y50, b50, e50, hr⟩ := seeB_s hr
      refine G.callV (25) [.int (v48)] [] (k_see E _ N B gr C A hz ha46 hA _ b50 _ e50) cls_X10 (by omega) (ha46.q25) cw_X3_88 w_910 w_911 (Nat.le_of_ble_eq_true rfl) rfl (Nat.le_of_ble_eq_true rfl) (tbd tv_X3_hashBytes rfl) (fun v50w f50 q50 => ?_) (fun _ _ h => h.elim)
      obtain ⟨⟨k50, rfl, w50⟩, ha50, fa50⟩ := q50
      refine G.eqs [.ref (gAd E (k50))] rfl ?_
      refine G.go tv_X3_hashBytes 3 98 [(0, .ref (gAd E (41))), (1, .long ((x1) * (v46))), (4, .int (x4)), (5, .int (v47)), (6, .int (x6)), (7, .int ((v45) * ((128 : Int32)))), (8, .ref (gAd E (k50))), (9, .int ((0 : Int32)))] [] rfl ?_
      refine G.less [(0, .ref (gAd E (41))), (1, .long ((x1) * (v46))), (4, .int (x4)), (5, .int (v47)), (6, .int (x6)), (7, .int ((v45) * ((128 : Int32)))), (8, .ref (gAd E (k50))), (9, .int ((0 : Int32)))] [0, 1, 2, 3, 4, 5, 6, 7] rfl ?_
      exact l_X3_hashBytes_98 E f0 sz QA N B gr C0 A hz _ ih _ _ _ _ _ _ _ _ _ _ _ _ hr _ _ ha50 hD hA hR ((hf.tr fa46 (fun _ h => h)).tr fa50 (fun _ h => h)) k50 w50
set_option maxRecDepth 100000 in
set_option maxHeartbeats 4000000 in
theorem k_X3_hashBytes (E : gE) (f : Nat → va_E) (N B gr : Nat) (C D : CfT) (A : MS) (hz : CfZ E N B gr) (h : CfV E f N B gr C) (hD : Dq D C) (hA : AR N B gr A C) (a0 : Int64) (a1 : Int32) (r : Int64) (D9 : CfT) (hr : d_X3_hashBytes N (vA A) D a0 a1 = some (r, D9)) : Ct E 5 yX3_hashBytes cX3_hashBytes 10 (some .long) [.ref (gAd E (41)), .long (a0), .int (a1)] f (fun v g => v = some (.long r) ∧ ST E N B gr f C A D9 g, fun _ _ => False) := by
  obtain ⟨z1, z2, z3, z4, z5, z6, z7⟩ := id hz
  refine Ct.of (by decide) (Nat.le_of_ble_eq_true rfl) (fun sz => ?_)
  refine G.eql [(0, .ref (gAd E (41))), (1, .long (a0)), (3, .int (a1))] rfl ?_
  unfold d_X3_hashBytes at hr
  refine G.go tv_X3_hashBytes 1 1 [(0, .ref (gAd E (41))), (1, .long (a0)), (3, .int (a1))] [.ref (gAd E (41))] rfl ?_
  refine G.getf cls_X3 (41) 1 (by omega) (h.q41) (by decide) rfl (tbd tv_X3_hashBytes rfl) w_526 ?_
  refine G.go tv_X3_hashBytes 1 5 [(0, .ref (gAd E (41))), (1, .long (a0)), (3, .int (a1))] [.int (a1), .ref (gAd E (37))] rfl ?_
  obtain ⟨v42, hv42, hr⟩ := bnd_s hr
  refine G.callV (37) [.int (a1)] [] (k_X7_size E _ N B gr C D A hz h hD hA a1 v42 hv42) cls_X7 (by omega) (h.q37) cw_X3_71 w_941 w_942 (Nat.le_of_ble_eq_true rfl) rfl (Nat.le_of_ble_eq_true rfl) (tbd tv_X3_hashBytes rfl) (fun v42w f42 q42 => ?_) (fun _ _ h => h.elim)
  obtain ⟨rfl, ha42, fa42⟩ := q42
  refine G.eqs [.int (v42)] rfl ?_
  refine G.go tv_X3_hashBytes 4 14 [(0, .ref (gAd E (41))), (1, .long (a0)), (3, .int (a1)), (4, .int (v42)), (5, .int ((0 : Int32)))] [.ref (gAd E (41))] rfl ?_
  refine G.getf cls_X3 (41) 1 (by omega) (ha42.q41) (by decide) rfl (tbd tv_X3_hashBytes rfl) w_526 ?_
  refine G.go tv_X3_hashBytes 1 18 [(0, .ref (gAd E (41))), (1, .long (a0)), (3, .int (a1)), (4, .int (v42)), (5, .int ((0 : Int32)))] [.int (a1), .ref (gAd E (37))] rfl ?_
  obtain ⟨D43, hv43, hr⟩ := bnd_s hr
  refine G.callV (37) [.int (a1)] [] (k_X7_gather E _ N B gr C D A hz ha42 hD hA a1 D43 hv43) cls_X7 (by omega) (ha42.q37) cw_X3_114 w_1550 w_1551 (Nat.le_of_ble_eq_true rfl) rfl (Nat.le_of_ble_eq_true rfl) (tbd tv_X3_hashBytes rfl) (fun v43w f43 q43 => ?_) (fun _ _ h => h.elim)
  obtain ⟨rfl, C43, ha43, hD43, hA43, hR43, fa43⟩ := q43
  refine G.eqs [] rfl ?_
  refine G.go tv_X3_hashBytes 2 24 [(0, .ref (gAd E (41))), (1, .long (a0)), (3, .int (a1)), (4, .int (v42)), (5, .int ((0 : Int32))), (6, .int ((0 : Int32)))] [] rfl ?_
  refine G.less [(0, .ref (gAd E (41))), (1, .long (a0)), (4, .int (v42)), (5, .int ((0 : Int32))), (6, .int ((0 : Int32)))] [0, 1, 3, 4, 5] rfl ?_
  exact l_X3_hashBytes_24 E f sz _ N B gr C A hz _ _ _ _ _ _ _ _ hr _ _ ha43 hD43 hA43 (Rq.rf.tr hR43) ((Fr.rf.tr fa42 (fun _ h => h)).tr fa43 (fun _ h => h))
def d_X5_grip (N : Nat) (V : Nat → Rw) (D : CfT) (a0 : Int32) (a1 : Int32) (a2 : Int32) : Option (CfT) := stA D 34 32 a0 a1 (fun D52 => stA D52 35 32 a0 ((0 : Int32)) (fun D53 => stA D53 36 32 a0 a2 (fun D54 => some D54)))
set_option maxRecDepth 100000 in
set_option maxHeartbeats 4000000 in
theorem k_X5_grip (E : gE) (f : Nat → va_E) (N B gr : Nat) (C D : CfT) (A : MS) (hz : CfZ E N B gr) (h : CfV E f N B gr C) (hD : Dq D C) (hA : AR N B gr A C) (a0 : Int32) (a1 : Int32) (a2 : Int32) (D9 : CfT) (hr : d_X5_grip N (vA A) D a0 a1 a2 = some D9) : Ct E 1 yX5_grip cX5_grip 4 none [.ref (gAd E (32)), .int (a0), .int (a1), .int (a2)] f (fun v g => v = none ∧ ST E N B gr f C A D9 g, fun _ _ => False) := by
  obtain ⟨z1, z2, z3, z4, z5, z6, z7⟩ := id hz
  refine Ct.of (by decide) (Nat.le_of_ble_eq_true rfl) (fun sz => ?_)
  refine G.eql [(0, .ref (gAd E (32))), (1, .int (a0)), (2, .int (a1)), (3, .int (a2))] rfl ?_
  unfold d_X5_grip at hr
  refine G.go tv_X5_grip 1 1 [(0, .ref (gAd E (32))), (1, .int (a0)), (2, .int (a1)), (3, .int (a2))] [.ref (gAd E (32))] rfl ?_
  refine G.getf cls_X5 (32) 1 (by omega) (h.q32) (by decide) rfl (tbd tv_X5_grip rfl) w_457 ?_
  refine G.go tv_X5_grip 2 6 [(0, .ref (gAd E (32))), (1, .int (a0)), (2, .int (a1)), (3, .int (a2))] [.int (a1), .int (a0), .ref (gAd E (34))] rfl ?_
  obtain ⟨D52, b52, eD52, hr⟩ := stA_s hr
  refine G.iast (34) (by omega) (h.q34) b52 (tbd tv_X5_grip rfl) ?_
  refine G.gen (P := ST E N B gr f C A D52) ⟨sA C 34 (upd (cA C 34) a0.toNatClampNeg a1), h.p34 _, (by rw [eD52]; exact hD.au (by decide)), hA.sm (Sd.a (by decide) : Sd C (sA C 34 (upd (cA C 34) a0.toNatClampNeg a1))), Rq.rf.tr ⟨rfl, rfl⟩, Fr.c Fr.rf (by first | exact Or.inl (by decide) | exact Or.inr (by omega))⟩ (fun u52 p52 => ?_)
  obtain ⟨C52, h52, hD52, hA52, hR52, k52⟩ := p52
  refine G.go tv_X5_grip 1 8 [(0, .ref (gAd E (32))), (1, .int (a0)), (2, .int (a1)), (3, .int (a2))] [.ref (gAd E (32))] rfl ?_
  refine G.getf cls_X5 (32) 2 (by omega) (h52.q32) (by decide) rfl (tbd tv_X5_grip rfl) w_459 ?_
  refine G.go tv_X5_grip 2 13 [(0, .ref (gAd E (32))), (1, .int (a0)), (2, .int (a1)), (3, .int (a2))] [.int ((0 : Int32)), .int (a0), .ref (gAd E (35))] rfl ?_
  obtain ⟨D53, b53, eD53, hr⟩ := stA_s hr
  refine G.iast (35) (by omega) (h52.q35) b53 (tbd tv_X5_grip rfl) ?_
  refine G.gen (P := ST E N B gr f C A D53) ⟨sA C52 35 (upd (cA C52 35) a0.toNatClampNeg ((0 : Int32))), h52.p35 _, (by rw [eD53]; exact hD52.au (by decide)), hA52.sm (Sd.a (by decide) : Sd C52 (sA C52 35 (upd (cA C52 35) a0.toNatClampNeg ((0 : Int32))))), hR52.tr ⟨rfl, rfl⟩, Fr.c k52 (by first | exact Or.inl (by decide) | exact Or.inr (by omega))⟩ (fun u53 p53 => ?_)
  obtain ⟨C53, h53, hD53, hA53, hR53, k53⟩ := p53
  refine G.go tv_X5_grip 1 15 [(0, .ref (gAd E (32))), (1, .int (a0)), (2, .int (a1)), (3, .int (a2))] [.ref (gAd E (32))] rfl ?_
  refine G.getf cls_X5 (32) 3 (by omega) (h53.q32) (by decide) rfl (tbd tv_X5_grip rfl) w_461 ?_
  refine G.go tv_X5_grip 2 20 [(0, .ref (gAd E (32))), (1, .int (a0)), (2, .int (a1)), (3, .int (a2))] [.int (a2), .int (a0), .ref (gAd E (36))] rfl ?_
  obtain ⟨D54, b54, eD54, hr⟩ := stA_s hr
  refine G.iast (36) (by omega) (h53.q36) b54 (tbd tv_X5_grip rfl) ?_
  refine G.gen (P := ST E N B gr f C A D54) ⟨sA C53 36 (upd (cA C53 36) a0.toNatClampNeg a2), h53.p36 _, (by rw [eD54]; exact hD53.au (by decide)), hA53.sm (Sd.a (by decide) : Sd C53 (sA C53 36 (upd (cA C53 36) a0.toNatClampNeg a2))), hR53.tr ⟨rfl, rfl⟩, Fr.c k53 (by first | exact Or.inl (by decide) | exact Or.inr (by omega))⟩ (fun u54 p54 => ?_)
  obtain ⟨C54, h54, hD54, hA54, hR54, k54⟩ := p54
  cases hr
  exact G.vret rfl ⟨rfl, C54, h54, hD54, hA54, hR54, k54⟩ (tbd tv_X5_grip rfl)
def d_X5_freeHandlesOn_2 (N : Nat) (V : Nat → Rw) : Nat → CfT → Int32 → Int32 → Option (CfT)
  | 0, _, _, _ => none
  | n + 1, D, x1, x2 => if ((32 : Int32)) ≤ x2 then some D else ld (cA D 34) 32 x2 (fun v55 => if v55 = x1 then stA D 34 32 x2 ((0 : Int32)) (fun D56 => d_X5_freeHandlesOn_2 N V n D56 x1 (x2 + (1 : Int32))) else d_X5_freeHandlesOn_2 N V n D x1 (x2 + (1 : Int32)))
def d_X5_freeHandlesOn (N : Nat) (V : Nat → Rw) (D : CfT) (a0 : Int32) : Option (CfT) := d_X5_freeHandlesOn_2 N V fuL D a0 ((0 : Int32))
set_option maxRecDepth 100000 in
set_option maxHeartbeats 4000000 in
theorem l_X5_freeHandlesOn_2 (E : gE) (f0 : Nat → va_E) (sz : Nat) (QA : Nat → Prop) (N B gr : Nat) (C0 : CfT) (A : MS) (hz : CfZ E N B gr) : ∀ (n : Nat), ∀ (D : CfT) (x1 : Int32) (x2 : Int32) (D9 : CfT) (hr : d_X5_freeHandlesOn_2 N (vA A) n D x1 x2 = some D9) (f : Nat → va_E) (C : CfT) (h : CfV E f N B gr C) (hD : Dq D C) (hA : AR N B gr A C) (hR : Rq C0 C) (hf : Fr CfK f0 f), G E (1, yX5_freeHandlesOn, 3, none, sz, QA) cX5_freeHandlesOn (gO E (1, yX5_freeHandlesOn, 3, none, sz, QA) (fun v g => v = none ∧ ST E N B gr f0 C0 A D9 g, fun _ _ => False)) 2 [(0, .ref (gAd E (32))), (1, .int (x1)), (2, .int (x2))] [] f := by
  obtain ⟨z1, z2, z3, z4, z5, z6, z7⟩ := id hz
  intro n
  induction n with
  | zero =>
    intro D x1 x2 D9 hr f C h hD hA hR hf
    cases hr
  | succ n ih =>
    intro D x1 x2 D9 hr f C h hD hA hR hf
    unfold d_X5_freeHandlesOn_2 at hr
    refine G.go tv_X5_freeHandlesOn 2 5 [(0, .ref (gAd E (32))), (1, .int (x1)), (2, .int (x2))] [.int ((32 : Int32)), .int (x2)] rfl ?_
    refine G.cmp_ge 31 (tbd tv_X5_freeHandlesOn rfl) (by decide) (fun c5 => ?_) (fun c5 => ?_)
    · replace hr := ite_t c5 hr
      cases hr
      exact G.vret rfl ⟨rfl, C, h, hD, hA, hR, hf⟩ (tbd tv_X5_freeHandlesOn rfl)
    · replace hr := ite_f c5 hr
      refine G.go tv_X5_freeHandlesOn 1 9 [(0, .ref (gAd E (32))), (1, .int (x1)), (2, .int (x2))] [.ref (gAd E (32))] rfl ?_
      refine G.getf cls_X5 (32) 1 (by omega) (h.q32) (by decide) rfl (tbd tv_X5_freeHandlesOn rfl) w_457 ?_
      refine G.go tv_X5_freeHandlesOn 1 13 [(0, .ref (gAd E (32))), (1, .int (x1)), (2, .int (x2))] [.int (x2), .ref (gAd E (34))] rfl ?_
      obtain ⟨v55, b55, e55, hr⟩ := ld_s hr
      refine G.ialdE (34) (by omega) ((h.q34).trans (congrArg (oI (gDA E) (32)) (hD.2 34 (by decide)))) b55 e55 (tbd tv_X5_freeHandlesOn rfl) ?_
      refine G.go tv_X5_freeHandlesOn 1 15 [(0, .ref (gAd E (32))), (1, .int (x1)), (2, .int (x2))] [.int (x1), .int (v55)] rfl ?_
      refine G.cmp_ne 25 (tbd tv_X5_freeHandlesOn rfl) (by decide) (fun c15 => ?_) (fun c15 => ?_)
      · replace hr := ite_f c15 hr
        refine G.go tv_X5_freeHandlesOn 2 2 [(0, .ref (gAd E (32))), (1, .int (x1)), (2, .int (x2 + (1 : Int32)))] [] rfl ?_
        refine G.less [(0, .ref (gAd E (32))), (1, .int (x1)), (2, .int (x2 + (1 : Int32)))] [0, 1, 2] rfl ?_
        exact ih _ _ _ _ hr _ _ h hD hA hR hf
      · replace hr := ite_t c15 hr
        refine G.go tv_X5_freeHandlesOn 1 19 [(0, .ref (gAd E (32))), (1, .int (x1)), (2, .int (x2))] [.ref (gAd E (32))] rfl ?_
        refine G.getf cls_X5 (32) 1 (by omega) (h.q32) (by decide) rfl (tbd tv_X5_freeHandlesOn rfl) w_457 ?_
        refine G.go tv_X5_freeHandlesOn 2 24 [(0, .ref (gAd E (32))), (1, .int (x1)), (2, .int (x2))] [.int ((0 : Int32)), .int (x2), .ref (gAd E (34))] rfl ?_
        obtain ⟨D56, b56, eD56, hr⟩ := stA_s hr
        refine G.iast (34) (by omega) (h.q34) b56 (tbd tv_X5_freeHandlesOn rfl) ?_
        refine G.gen (P := ST E N B gr f0 C0 A D56) ⟨sA C 34 (upd (cA C 34) x2.toNatClampNeg ((0 : Int32))), h.p34 _, (by rw [eD56]; exact hD.au (by decide)), hA.sm (Sd.a (by decide) : Sd C (sA C 34 (upd (cA C 34) x2.toNatClampNeg ((0 : Int32))))), hR.tr ⟨rfl, rfl⟩, Fr.c hf (by first | exact Or.inl (by decide) | exact Or.inr (by omega))⟩ (fun u56 p56 => ?_)
        obtain ⟨C56, h56, hD56, hA56, hR56, k56⟩ := p56
        refine G.go tv_X5_freeHandlesOn 2 2 [(0, .ref (gAd E (32))), (1, .int (x1)), (2, .int (x2 + (1 : Int32)))] [] rfl ?_
        refine G.less [(0, .ref (gAd E (32))), (1, .int (x1)), (2, .int (x2 + (1 : Int32)))] [0, 1, 2] rfl ?_
        exact ih _ _ _ _ hr _ _ h56 hD56 hA56 hR56 k56
set_option maxRecDepth 100000 in
set_option maxHeartbeats 4000000 in
theorem k_X5_freeHandlesOn (E : gE) (f : Nat → va_E) (N B gr : Nat) (C D : CfT) (A : MS) (hz : CfZ E N B gr) (h : CfV E f N B gr C) (hD : Dq D C) (hA : AR N B gr A C) (a0 : Int32) (D9 : CfT) (hr : d_X5_freeHandlesOn N (vA A) D a0 = some D9) : Ct E 1 yX5_freeHandlesOn cX5_freeHandlesOn 3 none [.ref (gAd E (32)), .int (a0)] f (fun v g => v = none ∧ ST E N B gr f C A D9 g, fun _ _ => False) := by
  obtain ⟨z1, z2, z3, z4, z5, z6, z7⟩ := id hz
  refine Ct.of (by decide) (Nat.le_of_ble_eq_true rfl) (fun sz => ?_)
  refine G.eql [(0, .ref (gAd E (32))), (1, .int (a0))] rfl ?_
  unfold d_X5_freeHandlesOn at hr
  refine G.go tv_X5_freeHandlesOn 2 2 [(0, .ref (gAd E (32))), (1, .int (a0)), (2, .int ((0 : Int32)))] [] rfl ?_
  refine G.less [(0, .ref (gAd E (32))), (1, .int (a0)), (2, .int ((0 : Int32)))] [0, 1, 2] rfl ?_
  exact l_X5_freeHandlesOn_2 E f sz _ N B gr C A hz _ _ _ _ _ hr _ _ h hD hA Rq.rf Fr.rf
