def d_X11_useTape (N : Nat) (V : Nat → Rw) (D : CfT) : Option (Int32 × CfT) := ptS D 1 ((0 : Int32)) (fun D1 => some (cS D 1, D1))
set_option maxRecDepth 100000 in
set_option maxHeartbeats 4000000 in
theorem k_X11_useTape (E : gE) (f : Nat → va_E) (N B gr : Nat) (C D : CfT) (A : MS) (hz : CfZ E N B gr) (h : CfV E f N B gr C) (hD : Dq D C) (hA : AR N B gr A C) (r : Int32) (D9 : CfT) (hr : d_X11_useTape N (vA A) D = some (r, D9)) : Ct E 1 yX11_useTape cX11_useTape 2 (some .int) [.ref (gAd E (0))] f (fun v g => v = some (.int r) ∧ ST E N B gr f C A D9 g, fun _ _ => False) := by
  obtain ⟨z1, z2, z3, z4, z5, z6, z7⟩ := id hz
  refine Ct.of (by decide) (Nat.le_of_ble_eq_true rfl) (fun sz => ?_)
  refine G.eql [(0, .ref (gAd E (0)))] rfl ?_
  unfold d_X11_useTape at hr
  refine G.go tv_X11_useTape 1 1 [(0, .ref (gAd E (0)))] [.ref (gAd E (0))] rfl ?_
  refine G.getf cls_X11 (0) 1 (by omega) (h.q0) (by decide) rfl (tbd tv_X11_useTape rfl) w_564 ?_
  refine G.eq1 (b := cS D 1) (hD.1 1 (by decide)) ?_
  refine G.go tv_X11_useTape 3 7 [(0, .ref (gAd E (0))), (1, .int (cS D 1))] [.int ((0 : Int32)), .ref (gAd E (0))] rfl ?_
  obtain ⟨D1, eD1, hr⟩ := ptS_s hr
  refine G.putfS cls_X11 (0) 1 [.ref (gAd E 1), .int ((0 : Int32)), .int (cS C 2), .ref (gAd E 2), .ref (gAd E 8), .ref (gAd E 13), .ref (gAd E 17), .ref (gAd E 25), .ref (gAd E 37), .ref (gAd E 32), .ref (gAd E 40), .ref (gAd E 41), .ref (gAd E 44), .ref (gAd E 47), .ref (gAd E 50), .ref (gAd E 53), .ref (gAd E 54), .ref (gAd E 55)] (by omega) (h.q0) rfl (by decide) rfl rfl rfl (Nat.le_of_ble_eq_true rfl) (tbd tv_X11_useTape rfl) w_564 ?_
  refine G.gen (P := ST E N B gr f C A D1) ⟨sS C 1 ((0 : Int32)), h.s1 _, (by rw [eD1]; exact hD.ss), hA.sm (Sd.s (by decide) : Sd C (sS C 1 ((0 : Int32)))), Rq.rf.tr ⟨rfl, rfl⟩, Fr.c Fr.rf (by first | exact Or.inl (by decide) | exact Or.inr (by omega))⟩ (fun u1 p1 => ?_)
  obtain ⟨C1, h1, hD1, hA1, hR1, k1⟩ := p1
  refine G.go tv_X11_useTape 1 11 [(0, .ref (gAd E (0))), (1, .int (cS D 1))] [.int (cS D 1)] rfl ?_
  cases hr
  exact G.iret rfl rfl ⟨rfl, C1, h1, hD1, hA1, hR1, k1⟩ (tbd tv_X11_useTape rfl)
noncomputable def d_X11_needMounted (N B gr : Nat) (A : MS) (D : CfT) : Option (FR Unit) := if (cS D 2) = 0 then some (.inr (1, A, D)) else some (.inl ((), A, D))
set_option maxRecDepth 100000 in
set_option maxHeartbeats 4000000 in
theorem k_X11_needMounted (E : gE) (f : Nat → va_E) (N B gr : Nat) (C D : CfT) (A : MS) (hz : CfZ E N B gr) (h : CfV E f N B gr C) (hD : Dq D C) (hA : AR N B gr A C) (r : FR Unit) (hr : d_X11_needMounted N B gr A D = some r) : Ct E 7 yX11_needMounted cX11_needMounted 1 none [.ref (gAd E (0))] f (FQ E N B gr f (fun _ => none) r) := by
  obtain ⟨z1, z2, z3, z4, z5, z6, z7⟩ := id hz
  refine Ct.of (by decide) (Nat.le_of_ble_eq_true rfl) (fun sz => ?_)
  refine G.eql [(0, .ref (gAd E (0)))] rfl ?_
  unfold d_X11_needMounted at hr
  refine G.go tv_X11_needMounted 1 1 [(0, .ref (gAd E (0)))] [.ref (gAd E (0))] rfl ?_
  refine G.getf cls_X11 (0) 2 (by omega) (h.q0) (by decide) rfl (tbd tv_X11_needMounted rfl) w_565 ?_
  refine G.eq1 (b := cS D 2) (hD.1 2 (by decide)) ?_
  refine G.if_eq 17 (tbd tv_X11_needMounted rfl) (by decide) (fun c4 => ?_) (fun c4 => ?_)
  · replace hr := ite_t c4 hr
    cases hr
    exact G.thr (cls := "java/lang/IllegalStateException") (text := "not mounted") (names := ["java/lang/RuntimeException", "java/lang/Exception"]) (by decide +kernel) (by decide +kernel) w_646 w_165 (own := "LedgerFiles") rfl (by decide +kernel) (by decide +kernel) at_X11_151 (tbd tv_X11_needMounted rfl) (tbd tv_X11_needMounted rfl) (tbd tv_X11_needMounted rfl) (tbd tv_X11_needMounted rfl) (tbd tv_X11_needMounted rfl) (Nat.le_of_ble_eq_true rfl) (Nat.le_of_ble_eq_true rfl) (FQ.th (e := 0) rfl ⟨C, h, hD, hA, Fr.rf⟩)
  · replace hr := ite_f c4 hr
    refine G.go tv_X11_needMounted 1 8 [(0, .ref (gAd E (0)))] [.ref (gAd E (0))] rfl ?_
    refine G.getf cls_X11 (0) 3 (by omega) (h.q0) (by decide) rfl (tbd tv_X11_needMounted rfl) w_566 ?_
    refine G.getf cls_X2 (2) 8 (by omega) (h.q2) (by decide) rfl (tbd tv_X11_needMounted rfl) w_243 ?_
    refine G.eq1 (b := (1 : Int32)) (hA.1.2.2) ?_
    refine G.if_ne 27 (tbd tv_X11_needMounted rfl) (by decide) (fun c14 => ?_) (fun c14 => absurd c14 (by decide))
    cases hr
    exact G.vret rfl (FQ.ok rfl ⟨C, h, hD, hA, Fr.rf⟩) (tbd tv_X11_needMounted rfl)
def tb_X11_splitTape : List (Nat × Instr × Nat) := [(0, .iconst 0, 1), (1, .istore_n 2, 1), (2, .iload_n 2, 1), (3, .iload_n 1, 1), (4, .if_icmp .ge 18, 3), (7, .aload_n 0, 1), (8, .getfield 9, 3), (11, .iload_n 2, 1), (12, .baload, 1), (13, .ifCond .eq 9, 3), (16, .iinc 2 1, 3), (19, .goto (-17), 3), (22, .iload_n 2, 1), (23, .iload_n 1, 1), (24, .if_icmp .ge 41, 3), (27, .aload_n 0, 1), (28, .getfield 16, 3), (31, .aload_n 0, 1), (32, .getfield 9, 3), (35, .iconst 0, 1), (36, .iload_n 2, 1), (37, .invokevirtual 259, 3), (40, .ifCond .eq 25, 3), (43, .aload_n 0, 1), (44, .getfield 20, 3), (47, .aload_n 0, 1), (48, .getfield 9, 3), (51, .iload_n 2, 1), (52, .iconst 1, 1), (53, .iadd, 1), (54, .iload_n 1, 1), (55, .invokevirtual 259, 3), (58, .ifCond .eq 7, 3), (61, .iconst 1, 1), (62, .goto 4, 3), (65, .iconst 0, 1), (66, .ireturn, 1)]
theorem tv_X11_splitTape : Tv cX11_splitTape tb_X11_splitTape := by
  unfold Tv
  decide +kernel
theorem w_1345 : Cond.methodLink "LedgerFiles" 259 yX8_parse ∈ TB := tp_5 239 (by decide +kernel) rfl
theorem w_1348 : Cond.code yX8_parse prog_10_method_4_code 6 (some .boolean) ∈ TB := tp_6 2 rfl rfl
theorem cw_X11_259 : Cw RX11 259 yX8_parse cX8_parse 6 (some .boolean) 3 := ⟨w_1345, w_1348, w_148, by decide +kernel, by decide +kernel, by decide⟩
theorem w_1346 : Cond.instanceMethod yX8_parse ∈ TB := tp_6 0 (by decide +kernel) rfl
theorem w_1347 : Cond.selects "LedgerFiles$Path" yX8_parse yX8_parse ∈ TB := tp_6 1 (by decide +kernel) rfl
def d_X11_splitTape_22 (N : Nat) (V : Nat → Rw) (D : CfT) (x1 : Int32) (x2 : Int32) : Option (Int32 × CfT) := if x1 ≤ x2 then some ((0 : Int32), D) else bnd2 (d_X8_parse_47 N V D ((0 : Int32)) x2) (fun v3 D3 => if v3 = 0 then some ((0 : Int32), D3) else bnd2 (d_X8_parse_50 N V D3 ((x2) + ((1 : Int32))) x1) (fun v4 D4 => if v4 = 0 then some ((0 : Int32), D4) else some ((1 : Int32), D4)))
def d_X11_splitTape_2 (N : Nat) (V : Nat → Rw) : Nat → CfT → Int32 → Int32 → Option (Int32 × CfT)
  | 0, _, _, _ => none
  | n + 1, D, x1, x2 => if x1 ≤ x2 then d_X11_splitTape_22 N V D x1 x2 else ld (cA D 1) 1024 x2 (fun v2 => if v2 = 0 then d_X11_splitTape_22 N V D x1 x2 else d_X11_splitTape_2 N V n D x1 (x2 + (1 : Int32)))
def d_X11_splitTape (N : Nat) (V : Nat → Rw) (D : CfT) (a0 : Int32) : Option (Int32 × CfT) := d_X11_splitTape_2 N V fuL D a0 ((0 : Int32))
set_option maxRecDepth 100000 in
set_option maxHeartbeats 4000000 in
theorem l_X11_splitTape_22 (E : gE) (f0 : Nat → va_E) (sz : Nat) (QA : Nat → Prop) (N B gr : Nat) (C0 : CfT) (A : MS) (hz : CfZ E N B gr) : ∀ (D : CfT) (x1 : Int32) (x2 : Int32) (r : Int32) (D9 : CfT) (hr : d_X11_splitTape_22 N (vA A) D x1 x2 = some (r, D9)) (f : Nat → va_E) (C : CfT) (h : CfV E f N B gr C) (hD : Dq D C) (hA : AR N B gr A C) (hR : Rq C0 C) (hf : Fr CfK f0 f), G E (4, yX11_splitTape, 3, (some .boolean), sz, QA) cX11_splitTape (gO E (4, yX11_splitTape, 3, (some .boolean), sz, QA) (fun v g => v = some (.int r) ∧ ST E N B gr f0 C0 A D9 g, fun _ _ => False)) 22 [(0, .ref (gAd E (0))), (1, .int (x1)), (2, .int (x2))] [] f := by
  obtain ⟨z1, z2, z3, z4, z5, z6, z7⟩ := id hz
  intro D x1 x2 r D9 hr f C h hD hA hR hf
  unfold d_X11_splitTape_22 at hr
  refine G.go tv_X11_splitTape 2 24 [(0, .ref (gAd E (0))), (1, .int (x1)), (2, .int (x2))] [.int (x1), .int (x2)] rfl ?_
  refine G.cmp_ge 65 (tbd tv_X11_splitTape rfl) (by decide) (fun c24 => ?_) (fun c24 => ?_)
  · replace hr := ite_t c24 hr
    refine G.go tv_X11_splitTape 1 66 [(0, .ref (gAd E (0))), (1, .int (x1)), (2, .int (x2))] [.int ((0 : Int32))] rfl ?_
    cases hr
    exact G.iret rfl rfl ⟨rfl, C, h, hD, hA, hR, hf⟩ (tbd tv_X11_splitTape rfl)
  · replace hr := ite_f c24 hr
    refine G.go tv_X11_splitTape 1 28 [(0, .ref (gAd E (0))), (1, .int (x1)), (2, .int (x2))] [.ref (gAd E (0))] rfl ?_
    refine G.getf cls_X11 (0) 13 (by omega) (h.q0) (by decide) rfl (tbd tv_X11_splitTape rfl) w_576 ?_
    refine G.go tv_X11_splitTape 1 32 [(0, .ref (gAd E (0))), (1, .int (x1)), (2, .int (x2))] [.ref (gAd E (0)), .ref (gAd E (47))] rfl ?_
    refine G.getf cls_X11 (0) 0 (by omega) (h.q0) (by decide) rfl (tbd tv_X11_splitTape rfl) w_563 ?_
    refine G.go tv_X11_splitTape 2 37 [(0, .ref (gAd E (0))), (1, .int (x1)), (2, .int (x2))] [.int (x2), .int ((0 : Int32)), .ref (gAd E (1)), .ref (gAd E (47))] rfl ?_
    obtain ⟨v3, D3, hv3, hr⟩ := bnd2_s hr
    refine G.callV (47) [.ref (gAd E (1)), .int ((0 : Int32)), .int (x2)] [] (k_X8_parse_47 E _ N B gr C D A hz h hD hA ((0 : Int32)) x2 v3 D3 hv3) cls_X8 (by omega) (h.q47) cw_X11_259 w_1346 w_1347 (Nat.le_of_ble_eq_true rfl) rfl (Nat.le_of_ble_eq_true rfl) (tbd tv_X11_splitTape rfl) (fun v3w f3 q3 => ?_) (fun _ _ h => h.elim)
    obtain ⟨rfl, C3, ha3, hD3, hA3, hR3, fa3⟩ := q3
    refine G.eqs [.int (v3)] rfl ?_
    refine G.if_eq 65 (tbd tv_X11_splitTape rfl) (by decide) (fun c40 => ?_) (fun c40 => ?_)
    · replace hr := ite_t c40 hr
      refine G.go tv_X11_splitTape 1 66 [(0, .ref (gAd E (0))), (1, .int (x1)), (2, .int (x2))] [.int ((0 : Int32))] rfl ?_
      cases hr
      exact G.iret rfl rfl ⟨rfl, C3, ha3, hD3, hA3, (hR.tr hR3), (hf.tr fa3 (fun _ h => h))⟩ (tbd tv_X11_splitTape rfl)
    · replace hr := ite_f c40 hr
      refine G.go tv_X11_splitTape 1 44 [(0, .ref (gAd E (0))), (1, .int (x1)), (2, .int (x2))] [.ref (gAd E (0))] rfl ?_
      refine G.getf cls_X11 (0) 14 (by omega) (ha3.q0) (by decide) rfl (tbd tv_X11_splitTape rfl) w_577 ?_
      refine G.go tv_X11_splitTape 1 48 [(0, .ref (gAd E (0))), (1, .int (x1)), (2, .int (x2))] [.ref (gAd E (0)), .ref (gAd E (50))] rfl ?_
      refine G.getf cls_X11 (0) 0 (by omega) (ha3.q0) (by decide) rfl (tbd tv_X11_splitTape rfl) w_563 ?_
      refine G.go tv_X11_splitTape 4 55 [(0, .ref (gAd E (0))), (1, .int (x1)), (2, .int (x2))] [.int (x1), .int ((x2) + ((1 : Int32))), .ref (gAd E (1)), .ref (gAd E (50))] rfl ?_
      obtain ⟨v4, D4, hv4, hr⟩ := bnd2_s hr
      refine G.callV (50) [.ref (gAd E (1)), .int ((x2) + ((1 : Int32))), .int (x1)] [] (k_X8_parse_50 E _ N B gr C3 D3 A hz ha3 hD3 hA3 ((x2) + ((1 : Int32))) x1 v4 D4 hv4) cls_X8 (by omega) (ha3.q50) cw_X11_259 w_1346 w_1347 (Nat.le_of_ble_eq_true rfl) rfl (Nat.le_of_ble_eq_true rfl) (tbd tv_X11_splitTape rfl) (fun v4w f4 q4 => ?_) (fun _ _ h => h.elim)
      obtain ⟨rfl, C4, ha4, hD4, hA4, hR4, fa4⟩ := q4
      refine G.eqs [.int (v4)] rfl ?_
      refine G.if_eq 65 (tbd tv_X11_splitTape rfl) (by decide) (fun c58 => ?_) (fun c58 => ?_)
      · replace hr := ite_t c58 hr
        refine G.go tv_X11_splitTape 1 66 [(0, .ref (gAd E (0))), (1, .int (x1)), (2, .int (x2))] [.int ((0 : Int32))] rfl ?_
        cases hr
        exact G.iret rfl rfl ⟨rfl, C4, ha4, hD4, hA4, ((hR.tr hR3).tr hR4), ((hf.tr fa3 (fun _ h => h)).tr fa4 (fun _ h => h))⟩ (tbd tv_X11_splitTape rfl)
      · replace hr := ite_f c58 hr
        refine G.go tv_X11_splitTape 2 66 [(0, .ref (gAd E (0))), (1, .int (x1)), (2, .int (x2))] [.int ((1 : Int32))] rfl ?_
        cases hr
        exact G.iret rfl rfl ⟨rfl, C4, ha4, hD4, hA4, ((hR.tr hR3).tr hR4), ((hf.tr fa3 (fun _ h => h)).tr fa4 (fun _ h => h))⟩ (tbd tv_X11_splitTape rfl)
set_option maxRecDepth 100000 in
set_option maxHeartbeats 4000000 in
theorem l_X11_splitTape_2 (E : gE) (f0 : Nat → va_E) (sz : Nat) (QA : Nat → Prop) (N B gr : Nat) (C0 : CfT) (A : MS) (hz : CfZ E N B gr) : ∀ (n : Nat), ∀ (D : CfT) (x1 : Int32) (x2 : Int32) (r : Int32) (D9 : CfT) (hr : d_X11_splitTape_2 N (vA A) n D x1 x2 = some (r, D9)) (f : Nat → va_E) (C : CfT) (h : CfV E f N B gr C) (hD : Dq D C) (hA : AR N B gr A C) (hR : Rq C0 C) (hf : Fr CfK f0 f), G E (4, yX11_splitTape, 3, (some .boolean), sz, QA) cX11_splitTape (gO E (4, yX11_splitTape, 3, (some .boolean), sz, QA) (fun v g => v = some (.int r) ∧ ST E N B gr f0 C0 A D9 g, fun _ _ => False)) 2 [(0, .ref (gAd E (0))), (1, .int (x1)), (2, .int (x2))] [] f := by
  obtain ⟨z1, z2, z3, z4, z5, z6, z7⟩ := id hz
  intro n
  induction n with
  | zero =>
    intro D x1 x2 r D9 hr f C h hD hA hR hf
    cases hr
  | succ n ih =>
    intro D x1 x2 r D9 hr f C h hD hA hR hf
    unfold d_X11_splitTape_2 at hr
    refine G.go tv_X11_splitTape 2 4 [(0, .ref (gAd E (0))), (1, .int (x1)), (2, .int (x2))] [.int (x1), .int (x2)] rfl ?_
    refine G.cmp_ge 22 (tbd tv_X11_splitTape rfl) (by decide) (fun c4 => ?_) (fun c4 => ?_)
    · replace hr := ite_t c4 hr
      refine G.less [(0, .ref (gAd E (0))), (1, .int (x1)), (2, .int (x2))] [0, 1, 2] rfl ?_
      exact l_X11_splitTape_22 E f0 sz QA N B gr C0 A hz _ _ _ _ _ hr _ _ h hD hA hR hf
    · replace hr := ite_f c4 hr
      refine G.go tv_X11_splitTape 1 8 [(0, .ref (gAd E (0))), (1, .int (x1)), (2, .int (x2))] [.ref (gAd E (0))] rfl ?_
      refine G.getf cls_X11 (0) 0 (by omega) (h.q0) (by decide) rfl (tbd tv_X11_splitTape rfl) w_563 ?_
      refine G.go tv_X11_splitTape 1 12 [(0, .ref (gAd E (0))), (1, .int (x1)), (2, .int (x2))] [.int (x2), .ref (gAd E (1))] rfl ?_
      obtain ⟨v2, b2, e2, hr⟩ := ld_s hr
      refine G.baldE (1) (by omega) ((h.q1).trans (congrArg (oB (gDA E) (1024)) (hD.2 1 (by decide)))) b2 e2 (tbd tv_X11_splitTape rfl) ?_
      refine G.if_eq 22 (tbd tv_X11_splitTape rfl) (by decide) (fun c13 => ?_) (fun c13 => ?_)
      · replace hr := ite_t c13 hr
        refine G.less [(0, .ref (gAd E (0))), (1, .int (x1)), (2, .int (x2))] [0, 1, 2] rfl ?_
        exact l_X11_splitTape_22 E f0 sz QA N B gr C0 A hz _ _ _ _ _ hr _ _ h hD hA hR hf
      · replace hr := ite_f c13 hr
        refine G.go tv_X11_splitTape 2 2 [(0, .ref (gAd E (0))), (1, .int (x1)), (2, .int (x2 + (1 : Int32)))] [] rfl ?_
        refine G.less [(0, .ref (gAd E (0))), (1, .int (x1)), (2, .int (x2 + (1 : Int32)))] [0, 1, 2] rfl ?_
        exact ih _ _ _ _ _ hr _ _ h hD hA hR hf
set_option maxRecDepth 100000 in
set_option maxHeartbeats 4000000 in
theorem k_X11_splitTape (E : gE) (f : Nat → va_E) (N B gr : Nat) (C D : CfT) (A : MS) (hz : CfZ E N B gr) (h : CfV E f N B gr C) (hD : Dq D C) (hA : AR N B gr A C) (a0 : Int32) (r : Int32) (D9 : CfT) (hr : d_X11_splitTape N (vA A) D a0 = some (r, D9)) : Ct E 4 yX11_splitTape cX11_splitTape 3 (some .boolean) [.ref (gAd E (0)), .int (a0)] f (fun v g => v = some (.int r) ∧ ST E N B gr f C A D9 g, fun _ _ => False) := by
  obtain ⟨z1, z2, z3, z4, z5, z6, z7⟩ := id hz
  refine Ct.of (by decide) (Nat.le_of_ble_eq_true rfl) (fun sz => ?_)
  refine G.eql [(0, .ref (gAd E (0))), (1, .int (a0))] rfl ?_
  unfold d_X11_splitTape at hr
  refine G.go tv_X11_splitTape 2 2 [(0, .ref (gAd E (0))), (1, .int (a0)), (2, .int ((0 : Int32)))] [] rfl ?_
  refine G.less [(0, .ref (gAd E (0))), (1, .int (a0)), (2, .int ((0 : Int32)))] [0, 1, 2] rfl ?_
  exact l_X11_splitTape_2 E f sz _ N B gr C A hz _ _ _ _ _ _ hr _ _ h hD hA Rq.rf Fr.rf
def tb_X11_faultOfNew : List (Nat × Instr × Nat) := [(0, .aload_n 0, 1), (1, .getfield 103, 3), (4, .invokevirtual 263, 3), (7, .iconst (-1), 1), (8, .if_icmp .ne 6, 3), (11, .bipush (-8), 2), (13, .ireturn, 1), (14, .aload_n 0, 1), (15, .getfield 112, 3), (18, .iload_n 1, 1), (19, .invokevirtual 266, 3), (22, .aload_n 0, 1), (23, .getfield 87, 3), (26, .invokevirtual 269, 3), (29, .if_icmp .le 8, 3), (32, .bipush (-7), 2), (34, .goto 4, 3), (37, .iconst 0, 1), (38, .ireturn, 1)]
theorem tv_X11_faultOfNew : Tv cX11_faultOfNew tb_X11_faultOfNew := by
  unfold Tv
  decide +kernel
theorem w_1392 : Cond.methodLink "LedgerFiles" 263 yX7_lowestFree ∈ TB := tp_6 46 (by decide +kernel) rfl
theorem cw_X11_263 : Cw RX11 263 yX7_lowestFree cX7_lowestFree 2 (some .int) 0 := ⟨w_1392, w_1395, w_157, by decide +kernel, by decide +kernel, by decide⟩
theorem w_1396 : Cond.methodLink "LedgerFiles" 266 yX4_wants ∈ TB := tp_6 50 (by decide +kernel) rfl
theorem w_1399 : Cond.code yX4_wants prog_6_method_15_code 2 (some .int) ∈ TB := tp_6 53 rfl rfl
theorem cw_X11_266 : Cw RX11 266 yX4_wants cX4_wants 2 (some .int) 1 := ⟨w_1396, w_1399, w_158, by decide +kernel, by decide +kernel, by decide⟩
theorem w_1397 : Cond.instanceMethod yX4_wants ∈ TB := tp_6 51 (by decide +kernel) rfl
theorem w_1398 : Cond.selects "LedgerFiles$Folders" yX4_wants yX4_wants ∈ TB := tp_6 52 (by decide +kernel) rfl
theorem w_1408 : Cond.methodLink "LedgerFiles" 269 yX10_available ∈ TB := tp_6 62 (by decide +kernel) rfl
theorem cw_X11_269 : Cw RX11 269 yX10_available cX10_available 1 (some .int) 0 := ⟨w_1408, w_1411, w_155, by decide +kernel, by decide +kernel, by decide⟩
def d_X11_faultOfNew (N : Nat) (V : Nat → Rw) (rs : Nat → Nat) (D : CfT) (a0 : Int32) : Option (Int32) := bnd (d_X7_lowestFree N V D) (fun v5 => if v5 = ((-1 : Int32)) then some ((-8 : Int32)) else bnd (d_X4_wants N V D a0) (fun v6 => bnd (d_X10_available N V rs D) (fun v7 => if v6 ≤ v7 then some ((0 : Int32)) else some ((-7 : Int32)))))
set_option maxRecDepth 100000 in
set_option maxHeartbeats 4000000 in
theorem k_X11_faultOfNew (E : gE) (f : Nat → va_E) (N B gr : Nat) (C D : CfT) (A : MS) (hz : CfZ E N B gr) (h : CfV E f N B gr C) (hD : Dq D C) (hA : AR N B gr A C) (a0 : Int32) (r : Int32) (hr : d_X11_faultOfNew N (vA A) A.2.2.2.2.1 D a0 = some r) : Ct E 7 yX11_faultOfNew cX11_faultOfNew 2 (some .int) [.ref (gAd E (0)), .int (a0)] f (fun v g => v = some (.int r) ∧ CfV E g N B gr C ∧ Fr CfK f g, fun _ _ => False) := by
  obtain ⟨z1, z2, z3, z4, z5, z6, z7⟩ := id hz
  refine Ct.of (by decide) (Nat.le_of_ble_eq_true rfl) (fun sz => ?_)
  refine G.eql [(0, .ref (gAd E (0))), (1, .int (a0))] rfl ?_
  unfold d_X11_faultOfNew at hr
  refine G.go tv_X11_faultOfNew 1 1 [(0, .ref (gAd E (0))), (1, .int (a0))] [.ref (gAd E (0))] rfl ?_
  refine G.getf cls_X11 (0) 8 (by omega) (h.q0) (by decide) rfl (tbd tv_X11_faultOfNew rfl) w_571 ?_
  obtain ⟨v5, hv5, hr⟩ := bnd_s hr
  refine G.callV (37) [] [] (k_X7_lowestFree E _ N B gr C D A hz h hD hA v5 hv5) cls_X7 (by omega) (h.q37) cw_X11_263 w_1393 w_1394 (Nat.le_of_ble_eq_true rfl) rfl (Nat.le_of_ble_eq_true rfl) (tbd tv_X11_faultOfNew rfl) (fun v5w f5 q5 => ?_) (fun _ _ h => h.elim)
  obtain ⟨rfl, ha5, fa5⟩ := q5
  refine G.eqs [.int (v5)] rfl ?_
  refine G.go tv_X11_faultOfNew 1 8 [(0, .ref (gAd E (0))), (1, .int (a0))] [.int ((-1 : Int32)), .int (v5)] rfl ?_
  refine G.cmp_ne 14 (tbd tv_X11_faultOfNew rfl) (by decide) (fun c8 => ?_) (fun c8 => ?_)
  · replace hr := ite_f c8 hr
    refine G.go tv_X11_faultOfNew 1 15 [(0, .ref (gAd E (0))), (1, .int (a0))] [.ref (gAd E (0))] rfl ?_
    refine G.getf cls_X11 (0) 10 (by omega) (ha5.q0) (by decide) rfl (tbd tv_X11_faultOfNew rfl) w_573 ?_
    refine G.go tv_X11_faultOfNew 1 19 [(0, .ref (gAd E (0))), (1, .int (a0))] [.int (a0), .ref (gAd E (40))] rfl ?_
    obtain ⟨v6, hv6, hr⟩ := bnd_s hr
    refine G.callV (40) [.int (a0)] [] (k_X4_wants E _ N B gr C D A hz ha5 hD hA a0 v6 hv6) cls_X4 (by omega) (ha5.q40) cw_X11_266 w_1397 w_1398 (Nat.le_of_ble_eq_true rfl) rfl (Nat.le_of_ble_eq_true rfl) (tbd tv_X11_faultOfNew rfl) (fun v6w f6 q6 => ?_) (fun _ _ h => h.elim)
    obtain ⟨rfl, ha6, fa6⟩ := q6
    refine G.eqs [.int (v6)] rfl ?_
    refine G.go tv_X11_faultOfNew 1 23 [(0, .ref (gAd E (0))), (1, .int (a0))] [.ref (gAd E (0)), .int (v6)] rfl ?_
    refine G.getf cls_X11 (0) 7 (by omega) (ha6.q0) (by decide) rfl (tbd tv_X11_faultOfNew rfl) w_570 ?_
    obtain ⟨v7, hv7, hr⟩ := bnd_s hr
    refine G.callV (25) [] [.int (v6)] (k_X10_available E _ N B gr C D A hz ha6 hD hA v7 hv7) cls_X10 (by omega) (ha6.q25) cw_X11_269 w_1409 w_1410 (Nat.le_of_ble_eq_true rfl) rfl (Nat.le_of_ble_eq_true rfl) (tbd tv_X11_faultOfNew rfl) (fun v7w f7 q7 => ?_) (fun _ _ h => h.elim)
    obtain ⟨rfl, ha7, fa7⟩ := q7
    refine G.eqs [.int (v7), .int (v6)] rfl ?_
    refine G.cmp_le 37 (tbd tv_X11_faultOfNew rfl) (by decide) (fun c29 => ?_) (fun c29 => ?_)
    · replace hr := ite_t c29 hr
      refine G.go tv_X11_faultOfNew 1 38 [(0, .ref (gAd E (0))), (1, .int (a0))] [.int ((0 : Int32))] rfl ?_
      cases hr
      exact G.iret rfl rfl ⟨rfl, ha7, (((Fr.rf.tr fa5 (fun _ h => h)).tr fa6 (fun _ h => h)).tr fa7 (fun _ h => h))⟩ (tbd tv_X11_faultOfNew rfl)
    · replace hr := ite_f c29 hr
      refine G.go tv_X11_faultOfNew 2 38 [(0, .ref (gAd E (0))), (1, .int (a0))] [.int ((-7 : Int32))] rfl ?_
      cases hr
      exact G.iret rfl rfl ⟨rfl, ha7, (((Fr.rf.tr fa5 (fun _ h => h)).tr fa6 (fun _ h => h)).tr fa7 (fun _ h => h))⟩ (tbd tv_X11_faultOfNew rfl)
  · replace hr := ite_t c8 hr
    refine G.go tv_X11_faultOfNew 1 13 [(0, .ref (gAd E (0))), (1, .int (a0))] [.int ((-8 : Int32))] rfl ?_
    cases hr
    exact G.iret rfl rfl ⟨rfl, ha5, (Fr.rf.tr fa5 (fun _ h => h))⟩ (tbd tv_X11_faultOfNew rfl)
def tb_X11_inodeBelowRoot : List (Nat × Instr × Nat) := [(0, .aload_n 0, 1), (1, .getfield 16, 3), (4, .aload_n 0, 1), (5, .getfield 9, 3), (8, .iconst 0, 1), (9, .iload_n 1, 1), (10, .invokevirtual 259, 3), (13, .ifCond .ne 6, 3), (16, .bipush (-6), 2), (18, .ireturn, 1), (19, .aload_n 0, 1), (20, .getfield 16, 3), (23, .getfield 275, 3), (26, .ifCond .ne 8, 3), (29, .bipush (-9), 2), (31, .goto 21, 3), (34, .aload_n 0, 1), (35, .getfield 112, 3), (38, .aload_n 0, 1), (39, .getfield 16, 3), (42, .aload_n 0, 1), (43, .getfield 16, 3), (46, .getfield 275, 3), (49, .invokevirtual 278, 3), (52, .ireturn, 1)]
theorem tv_X11_inodeBelowRoot : Tv cX11_inodeBelowRoot tb_X11_inodeBelowRoot := by
  unfold Tv
  decide +kernel
theorem w_198 : Cond.fieldLink "LedgerFiles" 275 "LedgerFiles$Path" "depth" "I" ∈ TB := tp_1 52 (by decide +kernel) rfl
theorem w_1355 : Cond.methodLink "LedgerFiles" 278 yX4_walk ∈ TB := tp_6 9 (by decide +kernel) rfl
theorem w_1358 : Cond.code yX4_walk prog_6_method_14_code 6 (some .int) ∈ TB := tp_6 12 rfl rfl
theorem cw_X11_278 : Cw RX11 278 yX4_walk cX4_walk 6 (some .int) 2 := ⟨w_1355, w_1358, w_158, by decide +kernel, by decide +kernel, by decide⟩
theorem w_1356 : Cond.instanceMethod yX4_walk ∈ TB := tp_6 10 (by decide +kernel) rfl
theorem w_1357 : Cond.selects "LedgerFiles$Folders" yX4_walk yX4_walk ∈ TB := tp_6 11 (by decide +kernel) rfl
def d_X11_inodeBelowRoot (N : Nat) (V : Nat → Rw) (D : CfT) (a0 : Int32) : Option (Int32 × CfT) := bnd2 (d_X8_parse_47 N V D ((0 : Int32)) a0) (fun v8 D8 => if v8 = 0 then some ((-6 : Int32), D8) else if (cS D8 4702) = 0 then some ((-9 : Int32), D8) else bnd (d_X4_walk_47 N V D8 (cS D8 4702)) (fun v9 => some (v9, D8)))
set_option maxRecDepth 100000 in
set_option maxHeartbeats 4000000 in
theorem k_X11_inodeBelowRoot (E : gE) (f : Nat → va_E) (N B gr : Nat) (C D : CfT) (A : MS) (hz : CfZ E N B gr) (h : CfV E f N B gr C) (hD : Dq D C) (hA : AR N B gr A C) (a0 : Int32) (r : Int32) (D9 : CfT) (hr : d_X11_inodeBelowRoot N (vA A) D a0 = some (r, D9)) : Ct E 7 yX11_inodeBelowRoot cX11_inodeBelowRoot 2 (some .int) [.ref (gAd E (0)), .int (a0)] f (fun v g => v = some (.int r) ∧ ST E N B gr f C A D9 g, fun _ _ => False) := by
  obtain ⟨z1, z2, z3, z4, z5, z6, z7⟩ := id hz
  refine Ct.of (by decide) (Nat.le_of_ble_eq_true rfl) (fun sz => ?_)
  refine G.eql [(0, .ref (gAd E (0))), (1, .int (a0))] rfl ?_
  unfold d_X11_inodeBelowRoot at hr
  refine G.go tv_X11_inodeBelowRoot 1 1 [(0, .ref (gAd E (0))), (1, .int (a0))] [.ref (gAd E (0))] rfl ?_
  refine G.getf cls_X11 (0) 13 (by omega) (h.q0) (by decide) rfl (tbd tv_X11_inodeBelowRoot rfl) w_576 ?_
  refine G.go tv_X11_inodeBelowRoot 1 5 [(0, .ref (gAd E (0))), (1, .int (a0))] [.ref (gAd E (0)), .ref (gAd E (47))] rfl ?_
  refine G.getf cls_X11 (0) 0 (by omega) (h.q0) (by decide) rfl (tbd tv_X11_inodeBelowRoot rfl) w_563 ?_
  refine G.go tv_X11_inodeBelowRoot 2 10 [(0, .ref (gAd E (0))), (1, .int (a0))] [.int (a0), .int ((0 : Int32)), .ref (gAd E (1)), .ref (gAd E (47))] rfl ?_
  obtain ⟨v8, D8, hv8, hr⟩ := bnd2_s hr
  refine G.callV (47) [.ref (gAd E (1)), .int ((0 : Int32)), .int (a0)] [] (k_X8_parse_47 E _ N B gr C D A hz h hD hA ((0 : Int32)) a0 v8 D8 hv8) cls_X8 (by omega) (h.q47) cw_X11_259 w_1346 w_1347 (Nat.le_of_ble_eq_true rfl) rfl (Nat.le_of_ble_eq_true rfl) (tbd tv_X11_inodeBelowRoot rfl) (fun v8w f8 q8 => ?_) (fun _ _ h => h.elim)
  obtain ⟨rfl, C8, ha8, hD8, hA8, hR8, fa8⟩ := q8
  refine G.eqs [.int (v8)] rfl ?_
  refine G.if_ne 19 (tbd tv_X11_inodeBelowRoot rfl) (by decide) (fun c13 => ?_) (fun c13 => ?_)
  · replace hr := ite_f c13 hr
    refine G.go tv_X11_inodeBelowRoot 1 20 [(0, .ref (gAd E (0))), (1, .int (a0))] [.ref (gAd E (0))] rfl ?_
    refine G.getf cls_X11 (0) 13 (by omega) (ha8.q0) (by decide) rfl (tbd tv_X11_inodeBelowRoot rfl) w_576 ?_
    refine G.getf cls_X8 (47) 2 (by omega) (ha8.q47) (by decide) rfl (tbd tv_X11_inodeBelowRoot rfl) w_198 ?_
    refine G.eq1 (b := cS D8 4702) (hD8.1 4702 (by decide)) ?_
    refine G.if_ne 34 (tbd tv_X11_inodeBelowRoot rfl) (by decide) (fun c26 => ?_) (fun c26 => ?_)
    · replace hr := ite_f c26 hr
      refine G.go tv_X11_inodeBelowRoot 1 35 [(0, .ref (gAd E (0))), (1, .int (a0))] [.ref (gAd E (0))] rfl ?_
      refine G.getf cls_X11 (0) 10 (by omega) (ha8.q0) (by decide) rfl (tbd tv_X11_inodeBelowRoot rfl) w_573 ?_
      refine G.go tv_X11_inodeBelowRoot 1 39 [(0, .ref (gAd E (0))), (1, .int (a0))] [.ref (gAd E (0)), .ref (gAd E (40))] rfl ?_
      refine G.getf cls_X11 (0) 13 (by omega) (ha8.q0) (by decide) rfl (tbd tv_X11_inodeBelowRoot rfl) w_576 ?_
      refine G.go tv_X11_inodeBelowRoot 1 43 [(0, .ref (gAd E (0))), (1, .int (a0))] [.ref (gAd E (0)), .ref (gAd E (47)), .ref (gAd E (40))] rfl ?_
      refine G.getf cls_X11 (0) 13 (by omega) (ha8.q0) (by decide) rfl (tbd tv_X11_inodeBelowRoot rfl) w_576 ?_
      refine G.getf cls_X8 (47) 2 (by omega) (ha8.q47) (by decide) rfl (tbd tv_X11_inodeBelowRoot rfl) w_198 ?_
      refine G.eq1 (b := cS D8 4702) (hD8.1 4702 (by decide)) ?_
      obtain ⟨v9, hv9, hr⟩ := bnd_s hr
      refine G.callV (40) [.ref (gAd E (47)), .int (cS D8 4702)] [] (k_X4_walk_47 E _ N B gr C8 D8 A hz ha8 hD8 hA8 (cS D8 4702) v9 hv9) cls_X4 (by omega) (ha8.q40) cw_X11_278 w_1356 w_1357 (Nat.le_of_ble_eq_true rfl) rfl (Nat.le_of_ble_eq_true rfl) (tbd tv_X11_inodeBelowRoot rfl) (fun v9w f9 q9 => ?_) (fun _ _ h => h.elim)
      obtain ⟨rfl, ha9, fa9⟩ := q9
      refine G.eqs [.int (v9)] rfl ?_
      cases hr
      exact G.iret rfl rfl ⟨rfl, C8, ha9, hD8, hA8, (Rq.rf.tr hR8), ((Fr.rf.tr fa8 (fun _ h => h)).tr fa9 (fun _ h => h))⟩ (tbd tv_X11_inodeBelowRoot rfl)
    · replace hr := ite_t c26 hr
      refine G.go tv_X11_inodeBelowRoot 2 52 [(0, .ref (gAd E (0))), (1, .int (a0))] [.int ((-9 : Int32))] rfl ?_
      cases hr
      exact G.iret rfl rfl ⟨rfl, C8, ha8, hD8, hA8, (Rq.rf.tr hR8), (Fr.rf.tr fa8 (fun _ h => h))⟩ (tbd tv_X11_inodeBelowRoot rfl)
  · replace hr := ite_t c13 hr
    refine G.go tv_X11_inodeBelowRoot 1 18 [(0, .ref (gAd E (0))), (1, .int (a0))] [.int ((-6 : Int32))] rfl ?_
    cases hr
    exact G.iret rfl rfl ⟨rfl, C8, ha8, hD8, hA8, (Rq.rf.tr hR8), (Fr.rf.tr fa8 (fun _ h => h))⟩ (tbd tv_X11_inodeBelowRoot rfl)
def tb_X11_faultOfReplacing : List (Nat × Instr × Nat) := [(0, .aload_n 0, 1), (1, .getfield 103, 3), (4, .iload_n 1, 1), (5, .invokevirtual 250, 3), (8, .iconst 2, 1), (9, .if_icmp .ne 7, 3), (12, .iconst 1, 1), (13, .goto 4, 3), (16, .iconst 0, 1), (17, .istore_n 3, 1), (18, .aload_n 0, 1), (19, .getfield 103, 3), (22, .iload_n 2, 1), (23, .invokevirtual 250, 3), (26, .iconst 2, 1), (27, .if_icmp .ne 7, 3), (30, .iconst 1, 1), (31, .goto 4, 3), (34, .iconst 0, 1), (35, .istore 4, 2), (37, .iload_n 3, 1), (38, .ifCond .eq 11, 3), (41, .iload 4, 2), (43, .ifCond .ne 6, 3), (46, .bipush (-3), 2), (48, .ireturn, 1), (49, .iload_n 3, 1), (50, .ifCond .ne 11, 3), (53, .iload 4, 2), (55, .ifCond .eq 6, 3), (58, .bipush (-4), 2), (60, .ireturn, 1), (61, .aload_n 0, 1), (62, .getfield 112, 3), (65, .iload_n 2, 1), (66, .invokevirtual 299, 3), (69, .ifCond .le 8, 3), (72, .bipush (-5), 2), (74, .goto 4, 3), (77, .iconst 0, 1), (78, .ireturn, 1)]
theorem tv_X11_faultOfReplacing : Tv cX11_faultOfReplacing tb_X11_faultOfReplacing := by
  unfold Tv
  decide +kernel
theorem w_1328 : Cond.methodLink "LedgerFiles" 250 yX7_kind ∈ TB := tp_5 222 (by decide +kernel) rfl
theorem cw_X11_250 : Cw RX11 250 yX7_kind cX7_kind 2 (some .int) 1 := ⟨w_1328, w_905, w_157, by decide +kernel, by decide +kernel, by decide⟩
theorem w_1476 : Cond.methodLink "LedgerFiles" 299 yX4_names ∈ TB := tp_6 130 (by decide +kernel) rfl
theorem w_1479 : Cond.code yX4_names prog_6_method_10_code 5 (some .int) ∈ TB := tp_6 133 rfl rfl
theorem cw_X11_299 : Cw RX11 299 yX4_names cX4_names 5 (some .int) 1 := ⟨w_1476, w_1479, w_158, by decide +kernel, by decide +kernel, by decide⟩
theorem w_1477 : Cond.instanceMethod yX4_names ∈ TB := tp_6 131 (by decide +kernel) rfl
theorem w_1478 : Cond.selects "LedgerFiles$Folders" yX4_names yX4_names ∈ TB := tp_6 132 (by decide +kernel) rfl
def d_X11_faultOfReplacing_49 (N : Nat) (V : Nat → Rw) (D : CfT) (x2 : Int32) (x3 : Int32) (x4 : Int32) : Option (Int32) := if x3 = 0 then if x4 = 0 then bnd (d_X4_names N V D x2) (fun v13 => if v13 ≤ 0 then some ((0 : Int32)) else some ((-5 : Int32))) else some ((-4 : Int32)) else bnd (d_X4_names N V D x2) (fun v12 => if v12 ≤ 0 then some ((0 : Int32)) else some ((-5 : Int32)))
def d_X11_faultOfReplacing_37 (N : Nat) (V : Nat → Rw) (D : CfT) (x2 : Int32) (x3 : Int32) (x4 : Int32) : Option (Int32) := if x3 = 0 then d_X11_faultOfReplacing_49 N V D x2 x3 x4 else if x4 = 0 then some ((-3 : Int32)) else d_X11_faultOfReplacing_49 N V D x2 x3 x4
def d_X11_faultOfReplacing_18 (N : Nat) (V : Nat → Rw) (D : CfT) (x2 : Int32) (x3 : Int32) : Option (Int32) := bnd (d_X7_kind N V D x2) (fun v11 => if v11 = ((2 : Int32)) then d_X11_faultOfReplacing_37 N V D x2 x3 ((1 : Int32)) else d_X11_faultOfReplacing_37 N V D x2 x3 ((0 : Int32)))
def d_X11_faultOfReplacing (N : Nat) (V : Nat → Rw) (D : CfT) (a0 : Int32) (a1 : Int32) : Option (Int32) := bnd (d_X7_kind N V D a0) (fun v10 => if v10 = ((2 : Int32)) then d_X11_faultOfReplacing_18 N V D a1 ((1 : Int32)) else d_X11_faultOfReplacing_18 N V D a1 ((0 : Int32)))
set_option maxRecDepth 100000 in
set_option maxHeartbeats 4000000 in
theorem l_X11_faultOfReplacing_49 (E : gE) (f0 : Nat → va_E) (sz : Nat) (QA : Nat → Prop) (N B gr : Nat) (C D : CfT) (A : MS) (hz : CfZ E N B gr) (hD : Dq D C) (hA : AR N B gr A C) : ∀ (x2 : Int32) (x3 : Int32) (x4 : Int32) (r : Int32) (hr : d_X11_faultOfReplacing_49 N (vA A) D x2 x3 x4 = some r) (f : Nat → va_E) (h : CfV E f N B gr C) (hf : Fr CfK f0 f), G E (7, yX11_faultOfReplacing, 5, (some .int), sz, QA) cX11_faultOfReplacing (gO E (7, yX11_faultOfReplacing, 5, (some .int), sz, QA) (fun v g => v = some (.int r) ∧ CfV E g N B gr C ∧ Fr CfK f0 g, fun _ _ => False)) 49 [(0, .ref (gAd E (0))), (2, .int (x2)), (3, .int (x3)), (4, .int (x4))] [] f := by
  obtain ⟨z1, z2, z3, z4, z5, z6, z7⟩ := id hz
  intro x2 x3 x4 r hr f h hf
  unfold d_X11_faultOfReplacing_49 at hr
  refine G.go tv_X11_faultOfReplacing 1 50 [(0, .ref (gAd E (0))), (2, .int (x2)), (3, .int (x3)), (4, .int (x4))] [.int (x3)] rfl ?_
  refine G.if_ne 61 (tbd tv_X11_faultOfReplacing rfl) (by decide) (fun c50 => ?_) (fun c50 => ?_)
  · replace hr := ite_f c50 hr
    refine G.go tv_X11_faultOfReplacing 1 62 [(0, .ref (gAd E (0))), (2, .int (x2)), (3, .int (x3)), (4, .int (x4))] [.ref (gAd E (0))] rfl ?_
    refine G.getf cls_X11 (0) 10 (by omega) (h.q0) (by decide) rfl (tbd tv_X11_faultOfReplacing rfl) w_573 ?_
    refine G.go tv_X11_faultOfReplacing 1 66 [(0, .ref (gAd E (0))), (2, .int (x2)), (3, .int (x3)), (4, .int (x4))] [.int (x2), .ref (gAd E (40))] rfl ?_
    obtain ⟨v12, hv12, hr⟩ := bnd_s hr
    refine G.callV (40) [.int (x2)] [] (k_X4_names E _ N B gr C D A hz h hD hA x2 v12 hv12) cls_X4 (by omega) (h.q40) cw_X11_299 w_1477 w_1478 (Nat.le_of_ble_eq_true rfl) rfl (Nat.le_of_ble_eq_true rfl) (tbd tv_X11_faultOfReplacing rfl) (fun v12w f12 q12 => ?_) (fun _ _ h => h.elim)
    obtain ⟨rfl, ha12, fa12⟩ := q12
    refine G.eqs [.int (v12)] rfl ?_
    refine G.if_le 77 (tbd tv_X11_faultOfReplacing rfl) (by decide) (fun c69 => ?_) (fun c69 => ?_)
    · replace hr := ite_t c69 hr
      refine G.go tv_X11_faultOfReplacing 1 78 [(0, .ref (gAd E (0))), (2, .int (x2)), (3, .int (x3)), (4, .int (x4))] [.int ((0 : Int32))] rfl ?_
      cases hr
      exact G.iret rfl rfl ⟨rfl, ha12, (hf.tr fa12 (fun _ h => h))⟩ (tbd tv_X11_faultOfReplacing rfl)
    · replace hr := ite_f c69 hr
      refine G.go tv_X11_faultOfReplacing 2 78 [(0, .ref (gAd E (0))), (2, .int (x2)), (3, .int (x3)), (4, .int (x4))] [.int ((-5 : Int32))] rfl ?_
      cases hr
      exact G.iret rfl rfl ⟨rfl, ha12, (hf.tr fa12 (fun _ h => h))⟩ (tbd tv_X11_faultOfReplacing rfl)
  · replace hr := ite_t c50 hr
    refine G.go tv_X11_faultOfReplacing 1 55 [(0, .ref (gAd E (0))), (2, .int (x2)), (3, .int (x3)), (4, .int (x4))] [.int (x4)] rfl ?_
    refine G.if_eq 61 (tbd tv_X11_faultOfReplacing rfl) (by decide) (fun c55 => ?_) (fun c55 => ?_)
    · replace hr := ite_t c55 hr
      refine G.go tv_X11_faultOfReplacing 1 62 [(0, .ref (gAd E (0))), (2, .int (x2)), (3, .int (x3)), (4, .int (x4))] [.ref (gAd E (0))] rfl ?_
      refine G.getf cls_X11 (0) 10 (by omega) (h.q0) (by decide) rfl (tbd tv_X11_faultOfReplacing rfl) w_573 ?_
      refine G.go tv_X11_faultOfReplacing 1 66 [(0, .ref (gAd E (0))), (2, .int (x2)), (3, .int (x3)), (4, .int (x4))] [.int (x2), .ref (gAd E (40))] rfl ?_
      obtain ⟨v13, hv13, hr⟩ := bnd_s hr
      refine G.callV (40) [.int (x2)] [] (k_X4_names E _ N B gr C D A hz h hD hA x2 v13 hv13) cls_X4 (by omega) (h.q40) cw_X11_299 w_1477 w_1478 (Nat.le_of_ble_eq_true rfl) rfl (Nat.le_of_ble_eq_true rfl) (tbd tv_X11_faultOfReplacing rfl) (fun v13w f13 q13 => ?_) (fun _ _ h => h.elim)
      obtain ⟨rfl, ha13, fa13⟩ := q13
      refine G.eqs [.int (v13)] rfl ?_
      refine G.if_le 77 (tbd tv_X11_faultOfReplacing rfl) (by decide) (fun c69 => ?_) (fun c69 => ?_)
      · replace hr := ite_t c69 hr
        refine G.go tv_X11_faultOfReplacing 1 78 [(0, .ref (gAd E (0))), (2, .int (x2)), (3, .int (x3)), (4, .int (x4))] [.int ((0 : Int32))] rfl ?_
        cases hr
        exact G.iret rfl rfl ⟨rfl, ha13, (hf.tr fa13 (fun _ h => h))⟩ (tbd tv_X11_faultOfReplacing rfl)
      · replace hr := ite_f c69 hr
        refine G.go tv_X11_faultOfReplacing 2 78 [(0, .ref (gAd E (0))), (2, .int (x2)), (3, .int (x3)), (4, .int (x4))] [.int ((-5 : Int32))] rfl ?_
        cases hr
        exact G.iret rfl rfl ⟨rfl, ha13, (hf.tr fa13 (fun _ h => h))⟩ (tbd tv_X11_faultOfReplacing rfl)
    · replace hr := ite_f c55 hr
      refine G.go tv_X11_faultOfReplacing 1 60 [(0, .ref (gAd E (0))), (2, .int (x2)), (3, .int (x3)), (4, .int (x4))] [.int ((-4 : Int32))] rfl ?_
      cases hr
      exact G.iret rfl rfl ⟨rfl, h, hf⟩ (tbd tv_X11_faultOfReplacing rfl)
set_option maxRecDepth 100000 in
set_option maxHeartbeats 4000000 in
theorem l_X11_faultOfReplacing_37 (E : gE) (f0 : Nat → va_E) (sz : Nat) (QA : Nat → Prop) (N B gr : Nat) (C D : CfT) (A : MS) (hz : CfZ E N B gr) (hD : Dq D C) (hA : AR N B gr A C) : ∀ (x2 : Int32) (x3 : Int32) (x4 : Int32) (r : Int32) (hr : d_X11_faultOfReplacing_37 N (vA A) D x2 x3 x4 = some r) (f : Nat → va_E) (h : CfV E f N B gr C) (hf : Fr CfK f0 f), G E (7, yX11_faultOfReplacing, 5, (some .int), sz, QA) cX11_faultOfReplacing (gO E (7, yX11_faultOfReplacing, 5, (some .int), sz, QA) (fun v g => v = some (.int r) ∧ CfV E g N B gr C ∧ Fr CfK f0 g, fun _ _ => False)) 37 [(0, .ref (gAd E (0))), (2, .int (x2)), (3, .int (x3)), (4, .int (x4))] [] f := by
  obtain ⟨z1, z2, z3, z4, z5, z6, z7⟩ := id hz
  intro x2 x3 x4 r hr f h hf
  unfold d_X11_faultOfReplacing_37 at hr
  refine G.go tv_X11_faultOfReplacing 1 38 [(0, .ref (gAd E (0))), (2, .int (x2)), (3, .int (x3)), (4, .int (x4))] [.int (x3)] rfl ?_
  refine G.if_eq 49 (tbd tv_X11_faultOfReplacing rfl) (by decide) (fun c38 => ?_) (fun c38 => ?_)
  · replace hr := ite_t c38 hr
    refine G.less [(0, .ref (gAd E (0))), (2, .int (x2)), (3, .int (x3)), (4, .int (x4))] [0, 1, 2, 3] rfl ?_
    exact l_X11_faultOfReplacing_49 E f0 sz QA N B gr C D A hz hD hA _ _ _ _ hr _ h hf
  · replace hr := ite_f c38 hr
    refine G.go tv_X11_faultOfReplacing 1 43 [(0, .ref (gAd E (0))), (2, .int (x2)), (3, .int (x3)), (4, .int (x4))] [.int (x4)] rfl ?_
    refine G.if_ne 49 (tbd tv_X11_faultOfReplacing rfl) (by decide) (fun c43 => ?_) (fun c43 => ?_)
    · replace hr := ite_f c43 hr
      refine G.less [(0, .ref (gAd E (0))), (2, .int (x2)), (3, .int (x3)), (4, .int (x4))] [0, 1, 2, 3] rfl ?_
      exact l_X11_faultOfReplacing_49 E f0 sz QA N B gr C D A hz hD hA _ _ _ _ hr _ h hf
    · replace hr := ite_t c43 hr
      refine G.go tv_X11_faultOfReplacing 1 48 [(0, .ref (gAd E (0))), (2, .int (x2)), (3, .int (x3)), (4, .int (x4))] [.int ((-3 : Int32))] rfl ?_
      cases hr
      exact G.iret rfl rfl ⟨rfl, h, hf⟩ (tbd tv_X11_faultOfReplacing rfl)
set_option maxRecDepth 100000 in
set_option maxHeartbeats 4000000 in
theorem l_X11_faultOfReplacing_18 (E : gE) (f0 : Nat → va_E) (sz : Nat) (QA : Nat → Prop) (N B gr : Nat) (C D : CfT) (A : MS) (hz : CfZ E N B gr) (hD : Dq D C) (hA : AR N B gr A C) : ∀ (x2 : Int32) (x3 : Int32) (r : Int32) (hr : d_X11_faultOfReplacing_18 N (vA A) D x2 x3 = some r) (f : Nat → va_E) (h : CfV E f N B gr C) (hf : Fr CfK f0 f), G E (7, yX11_faultOfReplacing, 5, (some .int), sz, QA) cX11_faultOfReplacing (gO E (7, yX11_faultOfReplacing, 5, (some .int), sz, QA) (fun v g => v = some (.int r) ∧ CfV E g N B gr C ∧ Fr CfK f0 g, fun _ _ => False)) 18 [(0, .ref (gAd E (0))), (2, .int (x2)), (3, .int (x3))] [] f := by
  obtain ⟨z1, z2, z3, z4, z5, z6, z7⟩ := id hz
  intro x2 x3 r hr f h hf
  unfold d_X11_faultOfReplacing_18 at hr
  refine G.go tv_X11_faultOfReplacing 1 19 [(0, .ref (gAd E (0))), (2, .int (x2)), (3, .int (x3))] [.ref (gAd E (0))] rfl ?_
  refine G.getf cls_X11 (0) 8 (by omega) (h.q0) (by decide) rfl (tbd tv_X11_faultOfReplacing rfl) w_571 ?_
  refine G.go tv_X11_faultOfReplacing 1 23 [(0, .ref (gAd E (0))), (2, .int (x2)), (3, .int (x3))] [.int (x2), .ref (gAd E (37))] rfl ?_
  obtain ⟨v11, hv11, hr⟩ := bnd_s hr
  refine G.callV (37) [.int (x2)] [] (k_X7_kind E _ N B gr C D A hz h hD hA x2 v11 hv11) cls_X7 (by omega) (h.q37) cw_X11_250 w_903 w_904 (Nat.le_of_ble_eq_true rfl) rfl (Nat.le_of_ble_eq_true rfl) (tbd tv_X11_faultOfReplacing rfl) (fun v11w f11 q11 => ?_) (fun _ _ h => h.elim)
  obtain ⟨rfl, ha11, fa11⟩ := q11
  refine G.eqs [.int (v11)] rfl ?_
  refine G.go tv_X11_faultOfReplacing 1 27 [(0, .ref (gAd E (0))), (2, .int (x2)), (3, .int (x3))] [.int ((2 : Int32)), .int (v11)] rfl ?_
  refine G.cmp_ne 34 (tbd tv_X11_faultOfReplacing rfl) (by decide) (fun c27 => ?_) (fun c27 => ?_)
  · replace hr := ite_f c27 hr
    refine G.go tv_X11_faultOfReplacing 2 37 [(0, .ref (gAd E (0))), (2, .int (x2)), (3, .int (x3)), (4, .int ((0 : Int32)))] [] rfl ?_
    refine G.less [(0, .ref (gAd E (0))), (2, .int (x2)), (3, .int (x3)), (4, .int ((0 : Int32)))] [0, 1, 2, 3] rfl ?_
    exact l_X11_faultOfReplacing_37 E f0 sz QA N B gr C D A hz hD hA _ _ _ _ hr _ ha11 (hf.tr fa11 (fun _ h => h))
  · replace hr := ite_t c27 hr
    refine G.go tv_X11_faultOfReplacing 3 37 [(0, .ref (gAd E (0))), (2, .int (x2)), (3, .int (x3)), (4, .int ((1 : Int32)))] [] rfl ?_
    refine G.less [(0, .ref (gAd E (0))), (2, .int (x2)), (3, .int (x3)), (4, .int ((1 : Int32)))] [0, 1, 2, 3] rfl ?_
    exact l_X11_faultOfReplacing_37 E f0 sz QA N B gr C D A hz hD hA _ _ _ _ hr _ ha11 (hf.tr fa11 (fun _ h => h))
set_option maxRecDepth 100000 in
set_option maxHeartbeats 4000000 in
theorem k_X11_faultOfReplacing (E : gE) (f : Nat → va_E) (N B gr : Nat) (C D : CfT) (A : MS) (hz : CfZ E N B gr) (h : CfV E f N B gr C) (hD : Dq D C) (hA : AR N B gr A C) (a0 : Int32) (a1 : Int32) (r : Int32) (hr : d_X11_faultOfReplacing N (vA A) D a0 a1 = some r) : Ct E 7 yX11_faultOfReplacing cX11_faultOfReplacing 5 (some .int) [.ref (gAd E (0)), .int (a0), .int (a1)] f (fun v g => v = some (.int r) ∧ CfV E g N B gr C ∧ Fr CfK f g, fun _ _ => False) := by
  obtain ⟨z1, z2, z3, z4, z5, z6, z7⟩ := id hz
  refine Ct.of (by decide) (Nat.le_of_ble_eq_true rfl) (fun sz => ?_)
  refine G.eql [(0, .ref (gAd E (0))), (1, .int (a0)), (2, .int (a1))] rfl ?_
  unfold d_X11_faultOfReplacing at hr
  refine G.go tv_X11_faultOfReplacing 1 1 [(0, .ref (gAd E (0))), (1, .int (a0)), (2, .int (a1))] [.ref (gAd E (0))] rfl ?_
  refine G.getf cls_X11 (0) 8 (by omega) (h.q0) (by decide) rfl (tbd tv_X11_faultOfReplacing rfl) w_571 ?_
  refine G.go tv_X11_faultOfReplacing 1 5 [(0, .ref (gAd E (0))), (1, .int (a0)), (2, .int (a1))] [.int (a0), .ref (gAd E (37))] rfl ?_
  obtain ⟨v10, hv10, hr⟩ := bnd_s hr
  refine G.callV (37) [.int (a0)] [] (k_X7_kind E _ N B gr C D A hz h hD hA a0 v10 hv10) cls_X7 (by omega) (h.q37) cw_X11_250 w_903 w_904 (Nat.le_of_ble_eq_true rfl) rfl (Nat.le_of_ble_eq_true rfl) (tbd tv_X11_faultOfReplacing rfl) (fun v10w f10 q10 => ?_) (fun _ _ h => h.elim)
  obtain ⟨rfl, ha10, fa10⟩ := q10
  refine G.eqs [.int (v10)] rfl ?_
  refine G.go tv_X11_faultOfReplacing 1 9 [(0, .ref (gAd E (0))), (1, .int (a0)), (2, .int (a1))] [.int ((2 : Int32)), .int (v10)] rfl ?_
  refine G.cmp_ne 16 (tbd tv_X11_faultOfReplacing rfl) (by decide) (fun c9 => ?_) (fun c9 => ?_)
  · replace hr := ite_f c9 hr
    refine G.go tv_X11_faultOfReplacing 2 18 [(0, .ref (gAd E (0))), (1, .int (a0)), (2, .int (a1)), (3, .int ((0 : Int32)))] [] rfl ?_
    refine G.less [(0, .ref (gAd E (0))), (2, .int (a1)), (3, .int ((0 : Int32)))] [0, 2, 3] rfl ?_
    exact l_X11_faultOfReplacing_18 E f sz _ N B gr C D A hz hD hA _ _ _ hr _ ha10 (Fr.rf.tr fa10 (fun _ h => h))
  · replace hr := ite_t c9 hr
    refine G.go tv_X11_faultOfReplacing 3 18 [(0, .ref (gAd E (0))), (1, .int (a0)), (2, .int (a1)), (3, .int ((1 : Int32)))] [] rfl ?_
    refine G.less [(0, .ref (gAd E (0))), (2, .int (a1)), (3, .int ((1 : Int32)))] [0, 2, 3] rfl ?_
    exact l_X11_faultOfReplacing_18 E f sz _ N B gr C D A hz hD hA _ _ _ hr _ ha10 (Fr.rf.tr fa10 (fun _ h => h))
def tb_X11_fileForNewName : List (Nat × Instr × Nat) := [(0, .aload_n 0, 1), (1, .iload_n 1, 1), (2, .invokevirtual 309, 3), (5, .ifCond .ne 6, 3), (8, .bipush (-6), 2), (10, .ireturn, 1), (11, .aload_n 0, 1), (12, .getfield 112, 3), (15, .aload_n 0, 1), (16, .getfield 16, 3), (19, .aload_n 0, 1), (20, .getfield 16, 3), (23, .getfield 275, 3), (26, .invokevirtual 278, 3), (29, .istore_n 2, 1), (30, .iload_n 2, 1), (31, .ifCond .ge 5, 3), (34, .iload_n 2, 1), (35, .ireturn, 1), (36, .aload_n 0, 1), (37, .getfield 103, 3), (40, .iload_n 2, 1), (41, .invokevirtual 250, 3), (44, .iconst 2, 1), (45, .if_icmp .ne 6, 3), (48, .bipush (-4), 2), (50, .ireturn, 1), (51, .aload_n 0, 1), (52, .getfield 20, 3), (55, .getfield 275, 3), (58, .ifCond .ne 6, 3), (61, .bipush (-9), 2), (63, .ireturn, 1), (64, .aload_n 0, 1), (65, .getfield 112, 3), (68, .aload_n 0, 1), (69, .getfield 20, 3), (72, .aload_n 0, 1), (73, .getfield 20, 3), (76, .getfield 275, 3), (79, .iconst 1, 1), (80, .isub, 1), (81, .invokevirtual 278, 3), (84, .istore_n 3, 1), (85, .iload_n 3, 1), (86, .ifCond .ge 5, 3), (89, .iload_n 3, 1), (90, .ireturn, 1), (91, .aload_n 0, 1), (92, .getfield 112, 3), (95, .iload_n 3, 1), (96, .aload_n 0, 1), (97, .getfield 20, 3), (100, .aload_n 0, 1), (101, .getfield 20, 3), (104, .getfield 275, 3), (107, .iconst 1, 1), (108, .isub, 1), (109, .invokevirtual 282, 3), (112, .iconst (-1), 1), (113, .if_icmp .eq 8, 3), (116, .bipush (-2), 2), (118, .goto 4, 3), (121, .iload_n 2, 1), (122, .ireturn, 1)]
theorem tv_X11_fileForNewName : Tv cX11_fileForNewName tb_X11_fileForNewName := by
  unfold Tv
  decide +kernel
theorem w_1498 : Cond.methodLink "LedgerFiles" 309 yX11_splitTape ∈ TB := tp_6 152 (by decide +kernel) rfl
theorem w_1501 : Cond.code yX11_splitTape prog_1_method_15_code 3 (some .boolean) ∈ TB := tp_6 155 rfl rfl
theorem cw_X11_309 : Cw RX11 309 yX11_splitTape cX11_splitTape 3 (some .boolean) 1 := ⟨w_1498, w_1501, w_147, by decide +kernel, by decide +kernel, by decide⟩
theorem w_1500 : Cond.instanceMethod yX11_splitTape ∈ TB := tp_6 154 (by decide +kernel) rfl
theorem w_36 : Cond.selects "LedgerFiles" yX11_splitTape yX11_splitTape ∈ TB := tp_0 36 (by decide +kernel) rfl
theorem w_1387 : Cond.methodLink "LedgerFiles" 282 yX4_slotOf ∈ TB := tp_6 41 (by decide +kernel) rfl
theorem cw_X11_282 : Cw RX11 282 yX4_slotOf cX4_slotOf 7 (some .int) 3 := ⟨w_1387, w_1363, w_158, by decide +kernel, by decide +kernel, by decide⟩
def d_X11_fileForNewName (N : Nat) (V : Nat → Rw) (D : CfT) (a0 : Int32) : Option (Int32 × CfT) := bnd2 (d_X11_splitTape N V D a0) (fun v14 D14 => if v14 = 0 then some ((-6 : Int32), D14) else bnd (d_X4_walk_47 N V D14 (cS D14 4702)) (fun v15 => if 0 ≤ v15 then bnd (d_X7_kind N V D14 v15) (fun v16 => if v16 = ((2 : Int32)) then some ((-4 : Int32), D14) else if (cS D14 5002) = 0 then some ((-9 : Int32), D14) else bnd (d_X4_walk_50 N V D14 ((cS D14 5002) - ((1 : Int32)))) (fun v17 => if 0 ≤ v17 then bnd (d_X4_slotOf_50 N V D14 v17 ((cS D14 5002) - ((1 : Int32)))) (fun v18 => if v18 = ((-1 : Int32)) then some (v15, D14) else some ((-2 : Int32), D14)) else some (v17, D14))) else some (v15, D14)))
set_option maxRecDepth 100000 in
set_option maxHeartbeats 4000000 in
theorem k_X11_fileForNewName (E : gE) (f : Nat → va_E) (N B gr : Nat) (C D : CfT) (A : MS) (hz : CfZ E N B gr) (h : CfV E f N B gr C) (hD : Dq D C) (hA : AR N B gr A C) (a0 : Int32) (r : Int32) (D9 : CfT) (hr : d_X11_fileForNewName N (vA A) D a0 = some (r, D9)) : Ct E 7 yX11_fileForNewName cX11_fileForNewName 4 (some .int) [.ref (gAd E (0)), .int (a0)] f (fun v g => v = some (.int r) ∧ ST E N B gr f C A D9 g, fun _ _ => False) := by
  obtain ⟨z1, z2, z3, z4, z5, z6, z7⟩ := id hz
  refine Ct.of (by decide) (Nat.le_of_ble_eq_true rfl) (fun sz => ?_)
  refine G.eql [(0, .ref (gAd E (0))), (1, .int (a0))] rfl ?_
  unfold d_X11_fileForNewName at hr
  refine G.go tv_X11_fileForNewName 2 2 [(0, .ref (gAd E (0))), (1, .int (a0))] [.int (a0), .ref (gAd E (0))] rfl ?_
  obtain ⟨v14, D14, hv14, hr⟩ := bnd2_s hr
  refine G.callV (0) [.int (a0)] [] (k_X11_splitTape E _ N B gr C D A hz h hD hA a0 v14 D14 hv14) cls_X11 (by omega) (h.q0) cw_X11_309 w_1500 w_36 (Nat.le_of_ble_eq_true rfl) rfl (Nat.le_of_ble_eq_true rfl) (tbd tv_X11_fileForNewName rfl) (fun v14w f14 q14 => ?_) (fun _ _ h => h.elim)
  obtain ⟨rfl, C14, ha14, hD14, hA14, hR14, fa14⟩ := q14
  refine G.eqs [.int (v14)] rfl ?_
  refine G.if_ne 11 (tbd tv_X11_fileForNewName rfl) (by decide) (fun c5 => ?_) (fun c5 => ?_)
  · replace hr := ite_f c5 hr
    refine G.go tv_X11_fileForNewName 1 12 [(0, .ref (gAd E (0))), (1, .int (a0))] [.ref (gAd E (0))] rfl ?_
    refine G.getf cls_X11 (0) 10 (by omega) (ha14.q0) (by decide) rfl (tbd tv_X11_fileForNewName rfl) w_573 ?_
    refine G.go tv_X11_fileForNewName 1 16 [(0, .ref (gAd E (0))), (1, .int (a0))] [.ref (gAd E (0)), .ref (gAd E (40))] rfl ?_
    refine G.getf cls_X11 (0) 13 (by omega) (ha14.q0) (by decide) rfl (tbd tv_X11_fileForNewName rfl) w_576 ?_
    refine G.go tv_X11_fileForNewName 1 20 [(0, .ref (gAd E (0))), (1, .int (a0))] [.ref (gAd E (0)), .ref (gAd E (47)), .ref (gAd E (40))] rfl ?_
    refine G.getf cls_X11 (0) 13 (by omega) (ha14.q0) (by decide) rfl (tbd tv_X11_fileForNewName rfl) w_576 ?_
    refine G.getf cls_X8 (47) 2 (by omega) (ha14.q47) (by decide) rfl (tbd tv_X11_fileForNewName rfl) w_198 ?_
    refine G.eq1 (b := cS D14 4702) (hD14.1 4702 (by decide)) ?_
    obtain ⟨v15, hv15, hr⟩ := bnd_s hr
    refine G.callV (40) [.ref (gAd E (47)), .int (cS D14 4702)] [] (k_X4_walk_47 E _ N B gr C14 D14 A hz ha14 hD14 hA14 (cS D14 4702) v15 hv15) cls_X4 (by omega) (ha14.q40) cw_X11_278 w_1356 w_1357 (Nat.le_of_ble_eq_true rfl) rfl (Nat.le_of_ble_eq_true rfl) (tbd tv_X11_fileForNewName rfl) (fun v15w f15 q15 => ?_) (fun _ _ h => h.elim)
    obtain ⟨rfl, ha15, fa15⟩ := q15
    refine G.eqs [.int (v15)] rfl ?_
    refine G.go tv_X11_fileForNewName 2 31 [(0, .ref (gAd E (0))), (1, .int (a0)), (2, .int (v15))] [.int (v15)] rfl ?_
    refine G.if_ge 36 (tbd tv_X11_fileForNewName rfl) (by decide) (fun c31 => ?_) (fun c31 => ?_)
    · replace hr := ite_t c31 hr
      refine G.go tv_X11_fileForNewName 1 37 [(0, .ref (gAd E (0))), (1, .int (a0)), (2, .int (v15))] [.ref (gAd E (0))] rfl ?_
      refine G.getf cls_X11 (0) 8 (by omega) (ha15.q0) (by decide) rfl (tbd tv_X11_fileForNewName rfl) w_571 ?_
      refine G.go tv_X11_fileForNewName 1 41 [(0, .ref (gAd E (0))), (1, .int (a0)), (2, .int (v15))] [.int (v15), .ref (gAd E (37))] rfl ?_
      obtain ⟨v16, hv16, hr⟩ := bnd_s hr
      refine G.callV (37) [.int (v15)] [] (k_X7_kind E _ N B gr C14 D14 A hz ha15 hD14 hA14 v15 v16 hv16) cls_X7 (by omega) (ha15.q37) cw_X11_250 w_903 w_904 (Nat.le_of_ble_eq_true rfl) rfl (Nat.le_of_ble_eq_true rfl) (tbd tv_X11_fileForNewName rfl) (fun v16w f16 q16 => ?_) (fun _ _ h => h.elim)
      obtain ⟨rfl, ha16, fa16⟩ := q16
      refine G.eqs [.int (v16)] rfl ?_
      refine G.go tv_X11_fileForNewName 1 45 [(0, .ref (gAd E (0))), (1, .int (a0)), (2, .int (v15))] [.int ((2 : Int32)), .int (v16)] rfl ?_
      refine G.cmp_ne 51 (tbd tv_X11_fileForNewName rfl) (by decide) (fun c45 => ?_) (fun c45 => ?_)
      · replace hr := ite_f c45 hr
        refine G.go tv_X11_fileForNewName 1 52 [(0, .ref (gAd E (0))), (1, .int (a0)), (2, .int (v15))] [.ref (gAd E (0))] rfl ?_
        refine G.getf cls_X11 (0) 14 (by omega) (ha16.q0) (by decide) rfl (tbd tv_X11_fileForNewName rfl) w_577 ?_
        refine G.getf cls_X8 (50) 2 (by omega) (ha16.q50) (by decide) rfl (tbd tv_X11_fileForNewName rfl) w_198 ?_
        refine G.eq1 (b := cS D14 5002) (hD14.1 5002 (by decide)) ?_
        refine G.if_ne 64 (tbd tv_X11_fileForNewName rfl) (by decide) (fun c58 => ?_) (fun c58 => ?_)
        · replace hr := ite_f c58 hr
          refine G.go tv_X11_fileForNewName 1 65 [(0, .ref (gAd E (0))), (1, .int (a0)), (2, .int (v15))] [.ref (gAd E (0))] rfl ?_
          refine G.getf cls_X11 (0) 10 (by omega) (ha16.q0) (by decide) rfl (tbd tv_X11_fileForNewName rfl) w_573 ?_
          refine G.go tv_X11_fileForNewName 1 69 [(0, .ref (gAd E (0))), (1, .int (a0)), (2, .int (v15))] [.ref (gAd E (0)), .ref (gAd E (40))] rfl ?_
          refine G.getf cls_X11 (0) 14 (by omega) (ha16.q0) (by decide) rfl (tbd tv_X11_fileForNewName rfl) w_577 ?_
          refine G.go tv_X11_fileForNewName 1 73 [(0, .ref (gAd E (0))), (1, .int (a0)), (2, .int (v15))] [.ref (gAd E (0)), .ref (gAd E (50)), .ref (gAd E (40))] rfl ?_
          refine G.getf cls_X11 (0) 14 (by omega) (ha16.q0) (by decide) rfl (tbd tv_X11_fileForNewName rfl) w_577 ?_
          refine G.getf cls_X8 (50) 2 (by omega) (ha16.q50) (by decide) rfl (tbd tv_X11_fileForNewName rfl) w_198 ?_
          refine G.eq1 (b := cS D14 5002) (hD14.1 5002 (by decide)) ?_
          refine G.go tv_X11_fileForNewName 2 81 [(0, .ref (gAd E (0))), (1, .int (a0)), (2, .int (v15))] [.int ((cS D14 5002) - ((1 : Int32))), .ref (gAd E (50)), .ref (gAd E (40))] rfl ?_
          obtain ⟨v17, hv17, hr⟩ := bnd_s hr
          refine G.callV (40) [.ref (gAd E (50)), .int ((cS D14 5002) - ((1 : Int32)))] [] (k_X4_walk_50 E _ N B gr C14 D14 A hz ha16 hD14 hA14 ((cS D14 5002) - ((1 : Int32))) v17 hv17) cls_X4 (by omega) (ha16.q40) cw_X11_278 w_1356 w_1357 (Nat.le_of_ble_eq_true rfl) rfl (Nat.le_of_ble_eq_true rfl) (tbd tv_X11_fileForNewName rfl) (fun v17w f17 q17 => ?_) (fun _ _ h => h.elim)
          obtain ⟨rfl, ha17, fa17⟩ := q17
          refine G.eqs [.int (v17)] rfl ?_
          refine G.go tv_X11_fileForNewName 2 86 [(0, .ref (gAd E (0))), (1, .int (a0)), (2, .int (v15)), (3, .int (v17))] [.int (v17)] rfl ?_
          refine G.if_ge 91 (tbd tv_X11_fileForNewName rfl) (by decide) (fun c86 => ?_) (fun c86 => ?_)
          · replace hr := ite_t c86 hr
            refine G.go tv_X11_fileForNewName 1 92 [(0, .ref (gAd E (0))), (1, .int (a0)), (2, .int (v15)), (3, .int (v17))] [.ref (gAd E (0))] rfl ?_
            refine G.getf cls_X11 (0) 10 (by omega) (ha17.q0) (by decide) rfl (tbd tv_X11_fileForNewName rfl) w_573 ?_
            refine G.go tv_X11_fileForNewName 2 97 [(0, .ref (gAd E (0))), (1, .int (a0)), (2, .int (v15)), (3, .int (v17))] [.ref (gAd E (0)), .int (v17), .ref (gAd E (40))] rfl ?_
            refine G.getf cls_X11 (0) 14 (by omega) (ha17.q0) (by decide) rfl (tbd tv_X11_fileForNewName rfl) w_577 ?_
            refine G.go tv_X11_fileForNewName 1 101 [(0, .ref (gAd E (0))), (1, .int (a0)), (2, .int (v15)), (3, .int (v17))] [.ref (gAd E (0)), .ref (gAd E (50)), .int (v17), .ref (gAd E (40))] rfl ?_
            refine G.getf cls_X11 (0) 14 (by omega) (ha17.q0) (by decide) rfl (tbd tv_X11_fileForNewName rfl) w_577 ?_
            refine G.getf cls_X8 (50) 2 (by omega) (ha17.q50) (by decide) rfl (tbd tv_X11_fileForNewName rfl) w_198 ?_
            refine G.eq1 (b := cS D14 5002) (hD14.1 5002 (by decide)) ?_
            refine G.go tv_X11_fileForNewName 2 109 [(0, .ref (gAd E (0))), (1, .int (a0)), (2, .int (v15)), (3, .int (v17))] [.int ((cS D14 5002) - ((1 : Int32))), .ref (gAd E (50)), .int (v17), .ref (gAd E (40))] rfl ?_
            obtain ⟨v18, hv18, hr⟩ := bnd_s hr
            refine G.callV (40) [.int (v17), .ref (gAd E (50)), .int ((cS D14 5002) - ((1 : Int32)))] [] (k_X4_slotOf_50 E _ N B gr C14 D14 A hz ha17 hD14 hA14 v17 ((cS D14 5002) - ((1 : Int32))) v18 hv18) cls_X4 (by omega) (ha17.q40) cw_X11_282 w_1361 w_1362 (Nat.le_of_ble_eq_true rfl) rfl (Nat.le_of_ble_eq_true rfl) (tbd tv_X11_fileForNewName rfl) (fun v18w f18 q18 => ?_) (fun _ _ h => h.elim)
            obtain ⟨rfl, ha18, fa18⟩ := q18
            refine G.eqs [.int (v18)] rfl ?_
            refine G.go tv_X11_fileForNewName 1 113 [(0, .ref (gAd E (0))), (1, .int (a0)), (2, .int (v15)), (3, .int (v17))] [.int ((-1 : Int32)), .int (v18)] rfl ?_
            refine G.cmp_eq 121 (tbd tv_X11_fileForNewName rfl) (by decide) (fun c113 => ?_) (fun c113 => ?_)
            · replace hr := ite_t c113 hr
              refine G.go tv_X11_fileForNewName 1 122 [(0, .ref (gAd E (0))), (1, .int (a0)), (2, .int (v15)), (3, .int (v17))] [.int (v15)] rfl ?_
              cases hr
              exact G.iret rfl rfl ⟨rfl, C14, ha18, hD14, hA14, (Rq.rf.tr hR14), (((((Fr.rf.tr fa14 (fun _ h => h)).tr fa15 (fun _ h => h)).tr fa16 (fun _ h => h)).tr fa17 (fun _ h => h)).tr fa18 (fun _ h => h))⟩ (tbd tv_X11_fileForNewName rfl)
            · replace hr := ite_f c113 hr
              refine G.go tv_X11_fileForNewName 2 122 [(0, .ref (gAd E (0))), (1, .int (a0)), (2, .int (v15)), (3, .int (v17))] [.int ((-2 : Int32))] rfl ?_
              cases hr
              exact G.iret rfl rfl ⟨rfl, C14, ha18, hD14, hA14, (Rq.rf.tr hR14), (((((Fr.rf.tr fa14 (fun _ h => h)).tr fa15 (fun _ h => h)).tr fa16 (fun _ h => h)).tr fa17 (fun _ h => h)).tr fa18 (fun _ h => h))⟩ (tbd tv_X11_fileForNewName rfl)
          · replace hr := ite_f c86 hr
            refine G.go tv_X11_fileForNewName 1 90 [(0, .ref (gAd E (0))), (1, .int (a0)), (2, .int (v15)), (3, .int (v17))] [.int (v17)] rfl ?_
            cases hr
            exact G.iret rfl rfl ⟨rfl, C14, ha17, hD14, hA14, (Rq.rf.tr hR14), ((((Fr.rf.tr fa14 (fun _ h => h)).tr fa15 (fun _ h => h)).tr fa16 (fun _ h => h)).tr fa17 (fun _ h => h))⟩ (tbd tv_X11_fileForNewName rfl)
        · replace hr := ite_t c58 hr
          refine G.go tv_X11_fileForNewName 1 63 [(0, .ref (gAd E (0))), (1, .int (a0)), (2, .int (v15))] [.int ((-9 : Int32))] rfl ?_
          cases hr
          exact G.iret rfl rfl ⟨rfl, C14, ha16, hD14, hA14, (Rq.rf.tr hR14), (((Fr.rf.tr fa14 (fun _ h => h)).tr fa15 (fun _ h => h)).tr fa16 (fun _ h => h))⟩ (tbd tv_X11_fileForNewName rfl)
      · replace hr := ite_t c45 hr
        refine G.go tv_X11_fileForNewName 1 50 [(0, .ref (gAd E (0))), (1, .int (a0)), (2, .int (v15))] [.int ((-4 : Int32))] rfl ?_
        cases hr
        exact G.iret rfl rfl ⟨rfl, C14, ha16, hD14, hA14, (Rq.rf.tr hR14), (((Fr.rf.tr fa14 (fun _ h => h)).tr fa15 (fun _ h => h)).tr fa16 (fun _ h => h))⟩ (tbd tv_X11_fileForNewName rfl)
    · replace hr := ite_f c31 hr
      refine G.go tv_X11_fileForNewName 1 35 [(0, .ref (gAd E (0))), (1, .int (a0)), (2, .int (v15))] [.int (v15)] rfl ?_
      cases hr
      exact G.iret rfl rfl ⟨rfl, C14, ha15, hD14, hA14, (Rq.rf.tr hR14), ((Fr.rf.tr fa14 (fun _ h => h)).tr fa15 (fun _ h => h))⟩ (tbd tv_X11_fileForNewName rfl)
  · replace hr := ite_t c5 hr
    refine G.go tv_X11_fileForNewName 1 10 [(0, .ref (gAd E (0))), (1, .int (a0))] [.int ((-6 : Int32))] rfl ?_
    cases hr
    exact G.iret rfl rfl ⟨rfl, C14, ha14, hD14, hA14, (Rq.rf.tr hR14), (Fr.rf.tr fa14 (fun _ h => h))⟩ (tbd tv_X11_fileForNewName rfl)
def tb_X11_commitLost : List (Nat × Instr × Nat) := [(0, .iconst 1, 1), (1, .istore_n 2, 1), (2, .iload_n 2, 1), (3, .bipush 64, 2), (5, .if_icmp .gt 43, 3), (8, .aload_n 0, 1), (9, .getfield 103, 3), (12, .iload_n 2, 1), (13, .invokevirtual 233, 3), (16, .ifCond .eq 26, 3), (19, .iload_n 1, 1), (20, .ifCond .ne 14, 3), (23, .aload_n 0, 1), (24, .getfield 94, 3), (27, .iload_n 2, 1), (28, .invokevirtual 237, 3), (31, .ifCond .ne 11, 3), (34, .aload_n 0, 1), (35, .getfield 103, 3), (38, .iload_n 2, 1), (39, .invokevirtual 241, 3), (42, .iinc 2 1, 3), (45, .goto (-43), 3), (48, .aload_n 0, 1), (49, .getfield 87, 3), (52, .invokevirtual 244, 3), (55, .return_, 1)]
theorem tv_X11_commitLost : Tv cX11_commitLost tb_X11_commitLost := by
  unfold Tv
  decide +kernel
theorem w_1246 : Cond.methodLink "LedgerFiles" 244 yX10_finish ∈ TB := tp_5 140 (by decide +kernel) rfl
theorem cw_X11_244 : Cw RX11 244 yX10_finish cX10_finish 2 none 0 := ⟨w_1246, w_1249, w_155, by decide +kernel, by decide +kernel, by decide⟩
theorem w_898 : Cond.methodLink "LedgerFiles" 233 yX7_isLost ∈ TB := tp_4 32 (by decide +kernel) rfl
theorem cw_X11_233 : Cw RX11 233 yX7_isLost cX7_isLost 2 (some .boolean) 1 := ⟨w_898, w_901, w_157, by decide +kernel, by decide +kernel, by decide⟩
theorem w_936 : Cond.methodLink "LedgerFiles" 241 yX7_goes ∈ TB := tp_4 70 (by decide +kernel) rfl
theorem cw_X11_241 : Cw RX11 241 yX7_goes cX7_goes 2 none 1 := ⟨w_936, w_939, w_157, by decide +kernel, by decide +kernel, by decide⟩
theorem w_928 : Cond.methodLink "LedgerFiles" 237 yX5_times ∈ TB := tp_4 62 (by decide +kernel) rfl
theorem cw_X11_237 : Cw RX11 237 yX5_times cX5_times 2 (some .int) 1 := ⟨w_928, w_931, w_156, by decide +kernel, by decide +kernel, by decide⟩
noncomputable def d_X11_commitLost_2 (N B gr : Nat) : Nat → MS → CfT → Int32 → Int32 → Option (FR Unit)
  | 0, _, _, _, _ => none
  | n + 1, A, D, x1, x2 => if ((64 : Int32)) < x2 then bndF (d_X10_finish N B gr A D) (fun v19 A19 D19 => some (.inl ((), A19, D19))) else bnd (d_X7_isLost N (vA A) D x2) (fun v20 => if v20 = 0 then d_X11_commitLost_2 N B gr n A D x1 (x2 + (1 : Int32)) else if x1 = 0 then bnd (d_X5_times N (vA A) D x2) (fun v22 => if v22 = 0 then bnd2 (d_X7_goes N A D x2) (fun A23 D23 => d_X11_commitLost_2 N B gr n A23 D23 x1 (x2 + (1 : Int32))) else d_X11_commitLost_2 N B gr n A D x1 (x2 + (1 : Int32))) else bnd2 (d_X7_goes N A D x2) (fun A21 D21 => d_X11_commitLost_2 N B gr n A21 D21 x1 (x2 + (1 : Int32))))
noncomputable def d_X11_commitLost (N B gr : Nat) (A : MS) (D : CfT) (a0 : Int32) : Option (FR Unit) := d_X11_commitLost_2 N B gr fuL A D a0 ((1 : Int32))
set_option maxRecDepth 100000 in
set_option maxHeartbeats 4000000 in
theorem l_X11_commitLost_2 (E : gE) (f0 : Nat → va_E) (sz : Nat) (QA : Nat → Prop) (N B gr : Nat) (C0 : CfT) (hz : CfZ E N B gr) : ∀ (n : Nat), ∀ (A : MS) (D : CfT) (x1 : Int32) (x2 : Int32) (r : FR Unit) (hr : d_X11_commitLost_2 N B gr n A D x1 x2 = some r) (f : Nat → va_E) (C : CfT) (h : CfV E f N B gr C) (hD : Dq D C) (hA : AR N B gr A C) (hf : Fr CfK f0 f), G E (12, yX11_commitLost, 3, none, sz, QA) cX11_commitLost (gO E (12, yX11_commitLost, 3, none, sz, QA) (FQ E N B gr f0 (fun _ => none) r)) 2 [(0, .ref (gAd E (0))), (1, .int (x1)), (2, .int (x2))] [] f := by
  obtain ⟨z1, z2, z3, z4, z5, z6, z7⟩ := id hz
  intro n
  induction n with
  | zero =>
    intro A D x1 x2 r hr f C h hD hA hf
    cases hr
  | succ n ih =>
    intro A D x1 x2 r hr f C h hD hA hf
    unfold d_X11_commitLost_2 at hr
    refine G.go tv_X11_commitLost 2 5 [(0, .ref (gAd E (0))), (1, .int (x1)), (2, .int (x2))] [.int ((64 : Int32)), .int (x2)] rfl ?_
    refine G.cmp_gt 48 (tbd tv_X11_commitLost rfl) (by decide) (fun c5 => ?_) (fun c5 => ?_)
    · replace hr := ite_t c5 hr
      refine G.go tv_X11_commitLost 1 49 [(0, .ref (gAd E (0))), (1, .int (x1)), (2, .int (x2))] [.ref (gAd E (0))] rfl ?_
      refine G.getf cls_X11 (0) 7 (by omega) (h.q0) (by decide) rfl (tbd tv_X11_commitLost rfl) w_570 ?_
      rcases bndF_s hr with ⟨v19, A19, D19, hv19, hr⟩ | ⟨ex19, A19, D19, hv19, rfl⟩
      rotate_left
      · skip
        refine G.callV (25) [] [] (k_X10_finish E _ N B gr C D A hz h hD hA _ hv19) cls_X10 (by omega) (h.q25) cw_X11_244 w_1247 w_1248 (Nat.le_of_ble_eq_true rfl) rfl (Nat.le_of_ble_eq_true rfl) (tbd tv_X11_commitLost rfl) (fun v19w f19 q19 => ?_) (fun X g q => FQ.fr q hf)
        exact q19.elim
      refine G.callV (25) [] [] (k_X10_finish E _ N B gr C D A hz h hD hA _ hv19) cls_X10 (by omega) (h.q25) cw_X11_244 w_1247 w_1248 (Nat.le_of_ble_eq_true rfl) rfl (Nat.le_of_ble_eq_true rfl) (tbd tv_X11_commitLost rfl) (fun v19w f19 q19 => ?_) (fun _ _ h => h.elim)
      obtain ⟨rfl, C19, ha19, hD19, hA19, fa19⟩ := q19
      refine G.eqs [] rfl ?_
      cases hr
      exact G.vret rfl (FQ.ok rfl ⟨C19, ha19, hD19, hA19, (hf.tr fa19 (fun _ h => h))⟩) (tbd tv_X11_commitLost rfl)
    · replace hr := ite_f c5 hr
      refine G.go tv_X11_commitLost 1 9 [(0, .ref (gAd E (0))), (1, .int (x1)), (2, .int (x2))] [.ref (gAd E (0))] rfl ?_
      refine G.getf cls_X11 (0) 8 (by omega) (h.q0) (by decide) rfl (tbd tv_X11_commitLost rfl) w_571 ?_
      refine G.go tv_X11_commitLost 1 13 [(0, .ref (gAd E (0))), (1, .int (x1)), (2, .int (x2))] [.int (x2), .ref (gAd E (37))] rfl ?_
      obtain ⟨v20, hv20, hr⟩ := bnd_s hr
      refine G.callV (37) [.int (x2)] [] (k_X7_isLost E _ N B gr C D A hz h hD hA x2 v20 hv20) cls_X7 (by omega) (h.q37) cw_X11_233 w_899 w_900 (Nat.le_of_ble_eq_true rfl) rfl (Nat.le_of_ble_eq_true rfl) (tbd tv_X11_commitLost rfl) (fun v20w f20 q20 => ?_) (fun _ _ h => h.elim)
      obtain ⟨rfl, ha20, fa20⟩ := q20
      refine G.eqs [.int (v20)] rfl ?_
      refine G.if_eq 42 (tbd tv_X11_commitLost rfl) (by decide) (fun c16 => ?_) (fun c16 => ?_)
      · replace hr := ite_t c16 hr
        refine G.go tv_X11_commitLost 2 2 [(0, .ref (gAd E (0))), (1, .int (x1)), (2, .int (x2 + (1 : Int32)))] [] rfl ?_
        refine G.less [(0, .ref (gAd E (0))), (1, .int (x1)), (2, .int (x2 + (1 : Int32)))] [0, 1, 2] rfl ?_
        exact ih _ _ _ _ _ hr _ _ ha20 hD hA (hf.tr fa20 (fun _ h => h))
      · replace hr := ite_f c16 hr
        refine G.go tv_X11_commitLost 1 20 [(0, .ref (gAd E (0))), (1, .int (x1)), (2, .int (x2))] [.int (x1)] rfl ?_
        refine G.if_ne 34 (tbd tv_X11_commitLost rfl) (by decide) (fun c20 => ?_) (fun c20 => ?_)
        · replace hr := ite_f c20 hr
          refine G.go tv_X11_commitLost 1 35 [(0, .ref (gAd E (0))), (1, .int (x1)), (2, .int (x2))] [.ref (gAd E (0))] rfl ?_
          refine G.getf cls_X11 (0) 8 (by omega) (ha20.q0) (by decide) rfl (tbd tv_X11_commitLost rfl) w_571 ?_
          refine G.go tv_X11_commitLost 1 39 [(0, .ref (gAd E (0))), (1, .int (x1)), (2, .int (x2))] [.int (x2), .ref (gAd E (37))] rfl ?_
          obtain ⟨A21, D21, hv21, hr⟩ := bnd2_s hr
          refine G.callV (37) [.int (x2)] [] (k_X7_goes E _ N B gr C D A hz ha20 hD hA x2 A21 D21 hv21) cls_X7 (by omega) (ha20.q37) cw_X11_241 w_937 w_938 (Nat.le_of_ble_eq_true rfl) rfl (Nat.le_of_ble_eq_true rfl) (tbd tv_X11_commitLost rfl) (fun v21w f21 q21 => ?_) (fun _ _ h => h.elim)
          obtain ⟨rfl, C21, ha21, hD21, hA21, fa21⟩ := q21
          refine G.eqs [] rfl ?_
          refine G.go tv_X11_commitLost 2 2 [(0, .ref (gAd E (0))), (1, .int (x1)), (2, .int (x2 + (1 : Int32)))] [] rfl ?_
          refine G.less [(0, .ref (gAd E (0))), (1, .int (x1)), (2, .int (x2 + (1 : Int32)))] [0, 1, 2] rfl ?_
          exact ih _ _ _ _ _ hr _ _ ha21 hD21 hA21 ((hf.tr fa20 (fun _ h => h)).tr fa21 (fun _ h => h))
        · replace hr := ite_t c20 hr
          refine G.go tv_X11_commitLost 1 24 [(0, .ref (gAd E (0))), (1, .int (x1)), (2, .int (x2))] [.ref (gAd E (0))] rfl ?_
          refine G.getf cls_X11 (0) 9 (by omega) (ha20.q0) (by decide) rfl (tbd tv_X11_commitLost rfl) w_572 ?_
          refine G.go tv_X11_commitLost 1 28 [(0, .ref (gAd E (0))), (1, .int (x1)), (2, .int (x2))] [.int (x2), .ref (gAd E (32))] rfl ?_
          obtain ⟨v22, hv22, hr⟩ := bnd_s hr
          refine G.callV (32) [.int (x2)] [] (k_X5_times E _ N B gr C D A hz ha20 hD hA x2 v22 hv22) cls_X5 (by omega) (ha20.q32) cw_X11_237 w_929 w_930 (Nat.le_of_ble_eq_true rfl) rfl (Nat.le_of_ble_eq_true rfl) (tbd tv_X11_commitLost rfl) (fun v22w f22 q22 => ?_) (fun _ _ h => h.elim)
          obtain ⟨rfl, ha22, fa22⟩ := q22
          refine G.eqs [.int (v22)] rfl ?_
          refine G.if_ne 42 (tbd tv_X11_commitLost rfl) (by decide) (fun c31 => ?_) (fun c31 => ?_)
          · replace hr := ite_f c31 hr
            refine G.go tv_X11_commitLost 2 2 [(0, .ref (gAd E (0))), (1, .int (x1)), (2, .int (x2 + (1 : Int32)))] [] rfl ?_
            refine G.less [(0, .ref (gAd E (0))), (1, .int (x1)), (2, .int (x2 + (1 : Int32)))] [0, 1, 2] rfl ?_
            exact ih _ _ _ _ _ hr _ _ ha22 hD hA ((hf.tr fa20 (fun _ h => h)).tr fa22 (fun _ h => h))
          · replace hr := ite_t c31 hr
            refine G.go tv_X11_commitLost 1 35 [(0, .ref (gAd E (0))), (1, .int (x1)), (2, .int (x2))] [.ref (gAd E (0))] rfl ?_
            refine G.getf cls_X11 (0) 8 (by omega) (ha22.q0) (by decide) rfl (tbd tv_X11_commitLost rfl) w_571 ?_
            refine G.go tv_X11_commitLost 1 39 [(0, .ref (gAd E (0))), (1, .int (x1)), (2, .int (x2))] [.int (x2), .ref (gAd E (37))] rfl ?_
            obtain ⟨A23, D23, hv23, hr⟩ := bnd2_s hr
            refine G.callV (37) [.int (x2)] [] (k_X7_goes E _ N B gr C D A hz ha22 hD hA x2 A23 D23 hv23) cls_X7 (by omega) (ha22.q37) cw_X11_241 w_937 w_938 (Nat.le_of_ble_eq_true rfl) rfl (Nat.le_of_ble_eq_true rfl) (tbd tv_X11_commitLost rfl) (fun v23w f23 q23 => ?_) (fun _ _ h => h.elim)
            obtain ⟨rfl, C23, ha23, hD23, hA23, fa23⟩ := q23
            refine G.eqs [] rfl ?_
            refine G.go tv_X11_commitLost 2 2 [(0, .ref (gAd E (0))), (1, .int (x1)), (2, .int (x2 + (1 : Int32)))] [] rfl ?_
            refine G.less [(0, .ref (gAd E (0))), (1, .int (x1)), (2, .int (x2 + (1 : Int32)))] [0, 1, 2] rfl ?_
            exact ih _ _ _ _ _ hr _ _ ha23 hD23 hA23 (((hf.tr fa20 (fun _ h => h)).tr fa22 (fun _ h => h)).tr fa23 (fun _ h => h))
set_option maxRecDepth 100000 in
set_option maxHeartbeats 4000000 in
theorem k_X11_commitLost (E : gE) (f : Nat → va_E) (N B gr : Nat) (C D : CfT) (A : MS) (hz : CfZ E N B gr) (h : CfV E f N B gr C) (hD : Dq D C) (hA : AR N B gr A C) (a0 : Int32) (r : FR Unit) (hr : d_X11_commitLost N B gr A D a0 = some r) : Ct E 12 yX11_commitLost cX11_commitLost 3 none [.ref (gAd E (0)), .int (a0)] f (FQ E N B gr f (fun _ => none) r) := by
  obtain ⟨z1, z2, z3, z4, z5, z6, z7⟩ := id hz
  refine Ct.of (by decide) (Nat.le_of_ble_eq_true rfl) (fun sz => ?_)
  refine G.eql [(0, .ref (gAd E (0))), (1, .int (a0))] rfl ?_
  unfold d_X11_commitLost at hr
  refine G.go tv_X11_commitLost 2 2 [(0, .ref (gAd E (0))), (1, .int (a0)), (2, .int ((1 : Int32)))] [] rfl ?_
  refine G.less [(0, .ref (gAd E (0))), (1, .int (a0)), (2, .int ((1 : Int32)))] [0, 1, 2] rfl ?_
  exact l_X11_commitLost_2 E f sz _ N B gr C hz _ _ _ _ _ _ hr _ _ h hD hA Fr.rf
def tb_X11_dropGroup : List (Nat × Instr × Nat) := [(0, .aload_n 0, 1), (1, .getfield 87, 3), (4, .invokevirtual 247, 3), (7, .aload_n 0, 1), (8, .getfield 87, 3), (11, .iconst 0, 1), (12, .putfield 224, 3), (15, .iconst 1, 1), (16, .istore_n 1, 1), (17, .iload_n 1, 1), (18, .bipush 64, 2), (20, .if_icmp .gt 45, 3), (23, .aload_n 0, 1), (24, .getfield 103, 3), (27, .iload_n 1, 1), (28, .invokevirtual 250, 3), (31, .istore_n 2, 1), (32, .iload_n 2, 1), (33, .ifCond .ne 13, 3), (36, .aload_n 0, 1), (37, .getfield 94, 3), (40, .getfield 253, 3), (43, .iload_n 1, 1), (44, .iconst 0, 1), (45, .iastore, 1), (46, .iload_n 2, 1), (47, .iconst 1, 1), (48, .if_icmp .eq 11, 3), (51, .aload_n 0, 1), (52, .getfield 94, 3), (55, .iload_n 1, 1), (56, .invokevirtual 256, 3), (59, .iinc 1 1, 3), (62, .goto (-45), 3), (65, .return_, 1)]
theorem tv_X11_dropGroup : Tv cX11_dropGroup tb_X11_dropGroup := by
  unfold Tv
  decide +kernel
theorem w_1327 : Cond.methodLink "LedgerFiles" 247 yX10_discard ∈ TB := tp_5 221 (by decide +kernel) rfl
theorem cw_X11_247 : Cw RX11 247 yX10_discard cX10_discard 1 none 0 := ⟨w_1327, w_851, w_155, by decide +kernel, by decide +kernel, by decide⟩
theorem w_423 : Cond.fieldLink "LedgerFiles" 224 "LedgerFiles$View" "group" "Z" ∈ TB := tp_2 37 (by decide +kernel) rfl
theorem w_1329 : Cond.methodLink "LedgerFiles" 256 yX5_freeHandlesOn ∈ TB := tp_5 223 (by decide +kernel) rfl
theorem w_1332 : Cond.code yX5_freeHandlesOn prog_7_method_9_code 3 none ∈ TB := tp_5 226 rfl rfl
theorem cw_X11_256 : Cw RX11 256 yX5_freeHandlesOn cX5_freeHandlesOn 3 none 1 := ⟨w_1329, w_1332, w_156, by decide +kernel, by decide +kernel, by decide⟩
theorem w_1330 : Cond.instanceMethod yX5_freeHandlesOn ∈ TB := tp_5 224 (by decide +kernel) rfl
theorem w_1331 : Cond.selects "LedgerFiles$Holders" yX5_freeHandlesOn yX5_freeHandlesOn ∈ TB := tp_5 225 (by decide +kernel) rfl
theorem w_456 : Cond.fieldLink "LedgerFiles" 253 "LedgerFiles$Holders" "holds" "[I" ∈ TB := tp_2 70 (by decide +kernel) rfl
def d_X11_dropGroup_17 (N : Nat) : Nat → MS → CfT → Int32 → Option (MS × CfT)
  | 0, _, _, _ => none
  | n + 1, A, D, x1 => if ((64 : Int32)) < x1 then some (A, D) else bnd (d_X7_kind N (vA A) D x1) (fun v26 => if v26 = 0 then stA D 33 65 x1 ((0 : Int32)) (fun D28 => if v26 = ((1 : Int32)) then d_X11_dropGroup_17 N n A D28 (x1 + (1 : Int32)) else bnd (d_X5_freeHandlesOn N (vA A) D28 x1) (fun D29 => d_X11_dropGroup_17 N n A D29 (x1 + (1 : Int32)))) else if v26 = ((1 : Int32)) then d_X11_dropGroup_17 N n A D (x1 + (1 : Int32)) else bnd (d_X5_freeHandlesOn N (vA A) D x1) (fun D27 => d_X11_dropGroup_17 N n A D27 (x1 + (1 : Int32))))
def d_X11_dropGroup (N : Nat) (A : MS) (D : CfT) : Option (MS × CfT) := bnd2 (d_X10_discard N A D) (fun A24 D24 => bnd (gpO A24 false) (fun A25 => d_X11_dropGroup_17 N fuL A25 D24 ((1 : Int32))))
set_option maxRecDepth 100000 in
set_option maxHeartbeats 4000000 in
theorem l_X11_dropGroup_17 (E : gE) (f0 : Nat → va_E) (sz : Nat) (QA : Nat → Prop) (N B gr : Nat) (C0 : CfT) (hz : CfZ E N B gr) : ∀ (n : Nat), ∀ (A : MS) (D : CfT) (x1 : Int32) (A9 : MS) (D9 : CfT) (hr : d_X11_dropGroup_17 N n A D x1 = some (A9, D9)) (f : Nat → va_E) (C : CfT) (h : CfV E f N B gr C) (hD : Dq D C) (hA : AR N B gr A C) (hf : Fr CfK f0 f), G E (4, yX11_dropGroup, 3, none, sz, QA) cX11_dropGroup (gO E (4, yX11_dropGroup, 3, none, sz, QA) (fun v g => v = none ∧ SN E N B gr f0 A9 D9 g, fun _ _ => False)) 17 [(0, .ref (gAd E (0))), (1, .int (x1))] [] f := by
  obtain ⟨z1, z2, z3, z4, z5, z6, z7⟩ := id hz
  intro n
  induction n with
  | zero =>
    intro A D x1 A9 D9 hr f C h hD hA hf
    cases hr
  | succ n ih =>
    intro A D x1 A9 D9 hr f C h hD hA hf
    unfold d_X11_dropGroup_17 at hr
    refine G.go tv_X11_dropGroup 2 20 [(0, .ref (gAd E (0))), (1, .int (x1))] [.int ((64 : Int32)), .int (x1)] rfl ?_
    refine G.cmp_gt 65 (tbd tv_X11_dropGroup rfl) (by decide) (fun c20 => ?_) (fun c20 => ?_)
    · replace hr := ite_t c20 hr
      cases hr
      exact G.vret rfl ⟨rfl, C, h, hD, hA, hf⟩ (tbd tv_X11_dropGroup rfl)
    · replace hr := ite_f c20 hr
      refine G.go tv_X11_dropGroup 1 24 [(0, .ref (gAd E (0))), (1, .int (x1))] [.ref (gAd E (0))] rfl ?_
      refine G.getf cls_X11 (0) 8 (by omega) (h.q0) (by decide) rfl (tbd tv_X11_dropGroup rfl) w_571 ?_
      refine G.go tv_X11_dropGroup 1 28 [(0, .ref (gAd E (0))), (1, .int (x1))] [.int (x1), .ref (gAd E (37))] rfl ?_
      obtain ⟨v26, hv26, hr⟩ := bnd_s hr
      refine G.callV (37) [.int (x1)] [] (k_X7_kind E _ N B gr C D A hz h hD hA x1 v26 hv26) cls_X7 (by omega) (h.q37) cw_X11_250 w_903 w_904 (Nat.le_of_ble_eq_true rfl) rfl (Nat.le_of_ble_eq_true rfl) (tbd tv_X11_dropGroup rfl) (fun v26w f26 q26 => ?_) (fun _ _ h => h.elim)
      obtain ⟨rfl, ha26, fa26⟩ := q26
      refine G.eqs [.int (v26)] rfl ?_
      refine G.go tv_X11_dropGroup 2 33 [(0, .ref (gAd E (0))), (1, .int (x1)), (2, .int (v26))] [.int (v26)] rfl ?_
      refine G.if_ne 46 (tbd tv_X11_dropGroup rfl) (by decide) (fun c33 => ?_) (fun c33 => ?_)
      · replace hr := ite_f c33 hr
        refine G.go tv_X11_dropGroup 2 48 [(0, .ref (gAd E (0))), (1, .int (x1)), (2, .int (v26))] [.int ((1 : Int32)), .int (v26)] rfl ?_
        refine G.cmp_eq 59 (tbd tv_X11_dropGroup rfl) (by decide) (fun c48 => ?_) (fun c48 => ?_)
        · replace hr := ite_t c48 hr
          refine G.go tv_X11_dropGroup 2 17 [(0, .ref (gAd E (0))), (1, .int (x1 + (1 : Int32))), (2, .int (v26))] [] rfl ?_
          refine G.less [(0, .ref (gAd E (0))), (1, .int (x1 + (1 : Int32)))] [0, 1] rfl ?_
          exact ih _ _ _ _ _ hr _ _ ha26 hD hA (hf.tr fa26 (fun _ h => h))
        · replace hr := ite_f c48 hr
          refine G.go tv_X11_dropGroup 1 52 [(0, .ref (gAd E (0))), (1, .int (x1)), (2, .int (v26))] [.ref (gAd E (0))] rfl ?_
          refine G.getf cls_X11 (0) 9 (by omega) (ha26.q0) (by decide) rfl (tbd tv_X11_dropGroup rfl) w_572 ?_
          refine G.go tv_X11_dropGroup 1 56 [(0, .ref (gAd E (0))), (1, .int (x1)), (2, .int (v26))] [.int (x1), .ref (gAd E (32))] rfl ?_
          obtain ⟨D27, hv27, hr⟩ := bnd_s hr
          refine G.callV (32) [.int (x1)] [] (k_X5_freeHandlesOn E _ N B gr C D A hz ha26 hD hA x1 D27 hv27) cls_X5 (by omega) (ha26.q32) cw_X11_256 w_1330 w_1331 (Nat.le_of_ble_eq_true rfl) rfl (Nat.le_of_ble_eq_true rfl) (tbd tv_X11_dropGroup rfl) (fun v27w f27 q27 => ?_) (fun _ _ h => h.elim)
          obtain ⟨rfl, C27, ha27, hD27, hA27, hR27, fa27⟩ := q27
          refine G.eqs [] rfl ?_
          refine G.go tv_X11_dropGroup 2 17 [(0, .ref (gAd E (0))), (1, .int (x1 + (1 : Int32))), (2, .int (v26))] [] rfl ?_
          refine G.less [(0, .ref (gAd E (0))), (1, .int (x1 + (1 : Int32)))] [0, 1] rfl ?_
          exact ih _ _ _ _ _ hr _ _ ha27 hD27 hA27 ((hf.tr fa26 (fun _ h => h)).tr fa27 (fun _ h => h))
      · replace hr := ite_t c33 hr
        refine G.go tv_X11_dropGroup 1 37 [(0, .ref (gAd E (0))), (1, .int (x1)), (2, .int (v26))] [.ref (gAd E (0))] rfl ?_
        refine G.getf cls_X11 (0) 9 (by omega) (ha26.q0) (by decide) rfl (tbd tv_X11_dropGroup rfl) w_572 ?_
        refine G.getf cls_X5 (32) 0 (by omega) (ha26.q32) (by decide) rfl (tbd tv_X11_dropGroup rfl) w_456 ?_
        refine G.go tv_X11_dropGroup 2 45 [(0, .ref (gAd E (0))), (1, .int (x1)), (2, .int (v26))] [.int ((0 : Int32)), .int (x1), .ref (gAd E (33))] rfl ?_
        obtain ⟨D28, b28, eD28, hr⟩ := stA_s hr
        refine G.iast (33) (by omega) (ha26.q33) b28 (tbd tv_X11_dropGroup rfl) ?_
        refine G.gen (P := SN E N B gr f0 A D28) ⟨sA C 33 (upd (cA C 33) x1.toNatClampNeg ((0 : Int32))), ha26.p33 _, (by rw [eD28]; exact hD.au (by decide)), hA.sm (Sd.a (by decide) : Sd C (sA C 33 (upd (cA C 33) x1.toNatClampNeg ((0 : Int32))))), Fr.c (hf.tr fa26 (fun _ h => h)) (by first | exact Or.inl (by decide) | exact Or.inr (by omega))⟩ (fun u28 p28 => ?_)
        obtain ⟨C28, h28, hD28, hA28, k28⟩ := p28
        refine G.go tv_X11_dropGroup 2 48 [(0, .ref (gAd E (0))), (1, .int (x1)), (2, .int (v26))] [.int ((1 : Int32)), .int (v26)] rfl ?_
        refine G.cmp_eq 59 (tbd tv_X11_dropGroup rfl) (by decide) (fun c48 => ?_) (fun c48 => ?_)
        · replace hr := ite_t c48 hr
          refine G.go tv_X11_dropGroup 2 17 [(0, .ref (gAd E (0))), (1, .int (x1 + (1 : Int32))), (2, .int (v26))] [] rfl ?_
          refine G.less [(0, .ref (gAd E (0))), (1, .int (x1 + (1 : Int32)))] [0, 1] rfl ?_
          exact ih _ _ _ _ _ hr _ _ h28 hD28 hA28 k28
        · replace hr := ite_f c48 hr
          refine G.go tv_X11_dropGroup 1 52 [(0, .ref (gAd E (0))), (1, .int (x1)), (2, .int (v26))] [.ref (gAd E (0))] rfl ?_
          refine G.getf cls_X11 (0) 9 (by omega) (h28.q0) (by decide) rfl (tbd tv_X11_dropGroup rfl) w_572 ?_
          refine G.go tv_X11_dropGroup 1 56 [(0, .ref (gAd E (0))), (1, .int (x1)), (2, .int (v26))] [.int (x1), .ref (gAd E (32))] rfl ?_
          obtain ⟨D29, hv29, hr⟩ := bnd_s hr
          refine G.callV (32) [.int (x1)] [] (k_X5_freeHandlesOn E _ N B gr C28 D28 A hz h28 hD28 hA28 x1 D29 hv29) cls_X5 (by omega) (h28.q32) cw_X11_256 w_1330 w_1331 (Nat.le_of_ble_eq_true rfl) rfl (Nat.le_of_ble_eq_true rfl) (tbd tv_X11_dropGroup rfl) (fun v29w f29 q29 => ?_) (fun _ _ h => h.elim)
          obtain ⟨rfl, C29, ha29, hD29, hA29, hR29, fa29⟩ := q29
          refine G.eqs [] rfl ?_
          refine G.go tv_X11_dropGroup 2 17 [(0, .ref (gAd E (0))), (1, .int (x1 + (1 : Int32))), (2, .int (v26))] [] rfl ?_
          refine G.less [(0, .ref (gAd E (0))), (1, .int (x1 + (1 : Int32)))] [0, 1] rfl ?_
          exact ih _ _ _ _ _ hr _ _ ha29 hD29 hA29 (k28.tr fa29 (fun _ h => h))
set_option maxRecDepth 100000 in
set_option maxHeartbeats 4000000 in
theorem k_X11_dropGroup (E : gE) (f : Nat → va_E) (N B gr : Nat) (C D : CfT) (A : MS) (hz : CfZ E N B gr) (h : CfV E f N B gr C) (hD : Dq D C) (hA : AR N B gr A C) (A9 : MS) (D9 : CfT) (hr : d_X11_dropGroup N A D = some (A9, D9)) : Ct E 4 yX11_dropGroup cX11_dropGroup 3 none [.ref (gAd E (0))] f (fun v g => v = none ∧ SN E N B gr f A9 D9 g, fun _ _ => False) := by
  obtain ⟨z1, z2, z3, z4, z5, z6, z7⟩ := id hz
  refine Ct.of (by decide) (Nat.le_of_ble_eq_true rfl) (fun sz => ?_)
  refine G.eql [(0, .ref (gAd E (0)))] rfl ?_
  unfold d_X11_dropGroup at hr
  refine G.go tv_X11_dropGroup 1 1 [(0, .ref (gAd E (0)))] [.ref (gAd E (0))] rfl ?_
  refine G.getf cls_X11 (0) 7 (by omega) (h.q0) (by decide) rfl (tbd tv_X11_dropGroup rfl) w_570 ?_
  obtain ⟨A24, D24, hv24, hr⟩ := bnd2_s hr
  refine G.callV (25) [] [] (k_X10_discard E _ N B gr C D A hz h hD hA A24 D24 hv24) cls_X10 (by omega) (h.q25) cw_X11_247 w_849 w_850 (Nat.le_of_ble_eq_true rfl) rfl (Nat.le_of_ble_eq_true rfl) (tbd tv_X11_dropGroup rfl) (fun v24w f24 q24 => ?_) (fun _ _ h => h.elim)
  obtain ⟨rfl, C24, ha24, hD24, hA24, fa24⟩ := q24
  refine G.eqs [] rfl ?_
  refine G.go tv_X11_dropGroup 1 8 [(0, .ref (gAd E (0)))] [.ref (gAd E (0))] rfl ?_
  refine G.getf cls_X11 (0) 7 (by omega) (ha24.q0) (by decide) rfl (tbd tv_X11_dropGroup rfl) w_570 ?_
  refine G.go tv_X11_dropGroup 1 12 [(0, .ref (gAd E (0)))] [.int ((0 : Int32)), .ref (gAd E (25))] rfl ?_
  obtain ⟨A25, hv25, hr⟩ := bnd_s hr
  refine G.putfS cls_X10 (25) 11 [.ref (gAd E 2), .ref (gAd E 8), .ref (gAd E 13), .ref (gAd E 17), .ref (gAd E 26), .ref (gAd E 27), .ref (gAd E 28), .ref (gAd E 29), .int (cS C24 2508), .ref (gAd E 30), .ref (gAd E 31), .int ((0 : Int32))] (by omega) (ha24.q25) rfl (by decide) rfl rfl rfl (Nat.le_of_ble_eq_true rfl) (tbd tv_X11_dropGroup rfl) w_423 ?_
  refine G.gen (P := SN E N B gr f A25 D24) (SN.gp hA24 hD24 (Fr.rf.tr fa24 (fun _ h => h)) hv25 rfl (ha24.s2511 _)) (fun u25 p25 => ?_)
  obtain ⟨C25, h25, hD25, hA25, k25⟩ := p25
  refine G.go tv_X11_dropGroup 2 17 [(0, .ref (gAd E (0))), (1, .int ((1 : Int32)))] [] rfl ?_
  refine G.less [(0, .ref (gAd E (0))), (1, .int ((1 : Int32)))] [0, 1] rfl ?_
  exact l_X11_dropGroup_17 E f sz _ N B gr C hz _ _ _ _ _ _ hr _ _ h25 hD25 hA25 k25
def tb_X11_goIfForsaken : List (Nat × Instr × Nat) := [(0, .aload_n 0, 1), (1, .getfield 103, 3), (4, .iload_n 1, 1), (5, .invokevirtual 233, 3), (8, .ifCond .eq 29, 3), (11, .aload_n 0, 1), (12, .getfield 94, 3), (15, .iload_n 1, 1), (16, .invokevirtual 237, 3), (19, .ifCond .ne 18, 3), (22, .aload_n 0, 1), (23, .getfield 103, 3), (26, .iload_n 1, 1), (27, .invokevirtual 241, 3), (30, .aload_n 0, 1), (31, .getfield 87, 3), (34, .invokevirtual 244, 3), (37, .return_, 1)]
theorem tv_X11_goIfForsaken : Tv cX11_goIfForsaken tb_X11_goIfForsaken := by
  unfold Tv
  decide +kernel
noncomputable def d_X11_goIfForsaken (N B gr : Nat) (A : MS) (D : CfT) (a0 : Int32) : Option (FR Unit) := bnd (d_X7_isLost N (vA A) D a0) (fun v30 => if v30 = 0 then some (.inl ((), A, D)) else bnd (d_X5_times N (vA A) D a0) (fun v31 => if v31 = 0 then bnd2 (d_X7_goes N A D a0) (fun A32 D32 => bndF (d_X10_finish N B gr A32 D32) (fun v33 A33 D33 => some (.inl ((), A33, D33)))) else some (.inl ((), A, D))))
set_option maxRecDepth 100000 in
set_option maxHeartbeats 4000000 in
theorem k_X11_goIfForsaken (E : gE) (f : Nat → va_E) (N B gr : Nat) (C D : CfT) (A : MS) (hz : CfZ E N B gr) (h : CfV E f N B gr C) (hD : Dq D C) (hA : AR N B gr A C) (a0 : Int32) (r : FR Unit) (hr : d_X11_goIfForsaken N B gr A D a0 = some r) : Ct E 12 yX11_goIfForsaken cX11_goIfForsaken 2 none [.ref (gAd E (0)), .int (a0)] f (FQ E N B gr f (fun _ => none) r) := by
  obtain ⟨z1, z2, z3, z4, z5, z6, z7⟩ := id hz
  refine Ct.of (by decide) (Nat.le_of_ble_eq_true rfl) (fun sz => ?_)
  refine G.eql [(0, .ref (gAd E (0))), (1, .int (a0))] rfl ?_
  unfold d_X11_goIfForsaken at hr
  refine G.go tv_X11_goIfForsaken 1 1 [(0, .ref (gAd E (0))), (1, .int (a0))] [.ref (gAd E (0))] rfl ?_
  refine G.getf cls_X11 (0) 8 (by omega) (h.q0) (by decide) rfl (tbd tv_X11_goIfForsaken rfl) w_571 ?_
  refine G.go tv_X11_goIfForsaken 1 5 [(0, .ref (gAd E (0))), (1, .int (a0))] [.int (a0), .ref (gAd E (37))] rfl ?_
  obtain ⟨v30, hv30, hr⟩ := bnd_s hr
  refine G.callV (37) [.int (a0)] [] (k_X7_isLost E _ N B gr C D A hz h hD hA a0 v30 hv30) cls_X7 (by omega) (h.q37) cw_X11_233 w_899 w_900 (Nat.le_of_ble_eq_true rfl) rfl (Nat.le_of_ble_eq_true rfl) (tbd tv_X11_goIfForsaken rfl) (fun v30w f30 q30 => ?_) (fun _ _ h => h.elim)
  obtain ⟨rfl, ha30, fa30⟩ := q30
  refine G.eqs [.int (v30)] rfl ?_
  refine G.if_eq 37 (tbd tv_X11_goIfForsaken rfl) (by decide) (fun c8 => ?_) (fun c8 => ?_)
  · replace hr := ite_t c8 hr
    cases hr
    exact G.vret rfl (FQ.ok rfl ⟨C, ha30, hD, hA, (Fr.rf.tr fa30 (fun _ h => h))⟩) (tbd tv_X11_goIfForsaken rfl)
  · replace hr := ite_f c8 hr
    refine G.go tv_X11_goIfForsaken 1 12 [(0, .ref (gAd E (0))), (1, .int (a0))] [.ref (gAd E (0))] rfl ?_
    refine G.getf cls_X11 (0) 9 (by omega) (ha30.q0) (by decide) rfl (tbd tv_X11_goIfForsaken rfl) w_572 ?_
    refine G.go tv_X11_goIfForsaken 1 16 [(0, .ref (gAd E (0))), (1, .int (a0))] [.int (a0), .ref (gAd E (32))] rfl ?_
    obtain ⟨v31, hv31, hr⟩ := bnd_s hr
    refine G.callV (32) [.int (a0)] [] (k_X5_times E _ N B gr C D A hz ha30 hD hA a0 v31 hv31) cls_X5 (by omega) (ha30.q32) cw_X11_237 w_929 w_930 (Nat.le_of_ble_eq_true rfl) rfl (Nat.le_of_ble_eq_true rfl) (tbd tv_X11_goIfForsaken rfl) (fun v31w f31 q31 => ?_) (fun _ _ h => h.elim)
    obtain ⟨rfl, ha31, fa31⟩ := q31
    refine G.eqs [.int (v31)] rfl ?_
    refine G.if_ne 37 (tbd tv_X11_goIfForsaken rfl) (by decide) (fun c19 => ?_) (fun c19 => ?_)
    · replace hr := ite_f c19 hr
      cases hr
      exact G.vret rfl (FQ.ok rfl ⟨C, ha31, hD, hA, ((Fr.rf.tr fa30 (fun _ h => h)).tr fa31 (fun _ h => h))⟩) (tbd tv_X11_goIfForsaken rfl)
    · replace hr := ite_t c19 hr
      refine G.go tv_X11_goIfForsaken 1 23 [(0, .ref (gAd E (0))), (1, .int (a0))] [.ref (gAd E (0))] rfl ?_
      refine G.getf cls_X11 (0) 8 (by omega) (ha31.q0) (by decide) rfl (tbd tv_X11_goIfForsaken rfl) w_571 ?_
      refine G.go tv_X11_goIfForsaken 1 27 [(0, .ref (gAd E (0))), (1, .int (a0))] [.int (a0), .ref (gAd E (37))] rfl ?_
      obtain ⟨A32, D32, hv32, hr⟩ := bnd2_s hr
      refine G.callV (37) [.int (a0)] [] (k_X7_goes E _ N B gr C D A hz ha31 hD hA a0 A32 D32 hv32) cls_X7 (by omega) (ha31.q37) cw_X11_241 w_937 w_938 (Nat.le_of_ble_eq_true rfl) rfl (Nat.le_of_ble_eq_true rfl) (tbd tv_X11_goIfForsaken rfl) (fun v32w f32 q32 => ?_) (fun _ _ h => h.elim)
      obtain ⟨rfl, C32, ha32, hD32, hA32, fa32⟩ := q32
      refine G.eqs [] rfl ?_
      refine G.go tv_X11_goIfForsaken 1 31 [(0, .ref (gAd E (0))), (1, .int (a0))] [.ref (gAd E (0))] rfl ?_
      refine G.getf cls_X11 (0) 7 (by omega) (ha32.q0) (by decide) rfl (tbd tv_X11_goIfForsaken rfl) w_570 ?_
      rcases bndF_s hr with ⟨v33, A33, D33, hv33, hr⟩ | ⟨ex33, A33, D33, hv33, rfl⟩
      rotate_left
      · skip
        refine G.callV (25) [] [] (k_X10_finish E _ N B gr C32 D32 A32 hz ha32 hD32 hA32 _ hv33) cls_X10 (by omega) (ha32.q25) cw_X11_244 w_1247 w_1248 (Nat.le_of_ble_eq_true rfl) rfl (Nat.le_of_ble_eq_true rfl) (tbd tv_X11_goIfForsaken rfl) (fun v33w f33 q33 => ?_) (fun X g q => FQ.fr q (((Fr.rf.tr fa30 (fun _ h => h)).tr fa31 (fun _ h => h)).tr fa32 (fun _ h => h)))
        exact q33.elim
      refine G.callV (25) [] [] (k_X10_finish E _ N B gr C32 D32 A32 hz ha32 hD32 hA32 _ hv33) cls_X10 (by omega) (ha32.q25) cw_X11_244 w_1247 w_1248 (Nat.le_of_ble_eq_true rfl) rfl (Nat.le_of_ble_eq_true rfl) (tbd tv_X11_goIfForsaken rfl) (fun v33w f33 q33 => ?_) (fun _ _ h => h.elim)
      obtain ⟨rfl, C33, ha33, hD33, hA33, fa33⟩ := q33
      refine G.eqs [] rfl ?_
      cases hr
      exact G.vret rfl (FQ.ok rfl ⟨C33, ha33, hD33, hA33, ((((Fr.rf.tr fa30 (fun _ h => h)).tr fa31 (fun _ h => h)).tr fa32 (fun _ h => h)).tr fa33 (fun _ h => h))⟩) (tbd tv_X11_goIfForsaken rfl)
theorem w_1388 : Cond.methodLink "LedgerFiles" 286 yX11_faultOfNew ∈ TB := tp_6 42 (by decide +kernel) rfl
theorem w_1391 : Cond.code yX11_faultOfNew prog_1_method_16_code 2 (some .int) ∈ TB := tp_6 45 rfl rfl
theorem cw_X11_286 : Cw RX11 286 yX11_faultOfNew cX11_faultOfNew 2 (some .int) 1 := ⟨w_1388, w_1391, w_147, by decide +kernel, by decide +kernel, by decide⟩
theorem w_1390 : Cond.instanceMethod yX11_faultOfNew ∈ TB := tp_6 44 (by decide +kernel) rfl
theorem w_32 : Cond.selects "LedgerFiles" yX11_faultOfNew yX11_faultOfNew ∈ TB := tp_0 32 (by decide +kernel) rfl
theorem w_1426 : Cond.methodLink "LedgerFiles" 289 yX7_create ∈ TB := tp_6 80 (by decide +kernel) rfl
theorem w_1429 : Cond.code yX7_create prog_9_method_20_code 3 (some .int) ∈ TB := tp_6 83 rfl rfl
theorem cw_X11_289 : Cw RX11 289 yX7_create cX7_create 3 (some .int) 1 := ⟨w_1426, w_1429, w_157, by decide +kernel, by decide +kernel, by decide⟩
theorem w_1427 : Cond.instanceMethod yX7_create ∈ TB := tp_6 81 (by decide +kernel) rfl
theorem w_1428 : Cond.selects "LedgerFiles$Nodes" yX7_create yX7_create ∈ TB := tp_6 82 (by decide +kernel) rfl
theorem w_1435 : Cond.methodLink "LedgerFiles" 292 yX4_addName ∈ TB := tp_6 89 (by decide +kernel) rfl
theorem w_1438 : Cond.code yX4_addName prog_6_method_16_code 8 none ∈ TB := tp_6 92 rfl rfl
theorem cw_X11_292 : Cw RX11 292 yX4_addName cX4_addName 8 none 3 := ⟨w_1435, w_1438, w_158, by decide +kernel, by decide +kernel, by decide⟩
theorem w_1436 : Cond.instanceMethod yX4_addName ∈ TB := tp_6 90 (by decide +kernel) rfl
theorem w_1437 : Cond.selects "LedgerFiles$Folders" yX4_addName yX4_addName ∈ TB := tp_6 91 (by decide +kernel) rfl
noncomputable def d_X11_make (N B gr : Nat) (A : MS) (D : CfT) (a0 : Int32) : Option (FR Int32) := bnd2 (d_X11_useTape N (vA A) D) (fun v34 D34 => bndF (d_X11_needMounted N B gr A D34) (fun v35 A35 D35 => bnd2 (d_X8_parse_47 N (vA A35) D35 ((0 : Int32)) v34) (fun v36 D36 => if v36 = 0 then some (.inl ((-6 : Int32), A35, D36)) else if (cS D36 4702) = 0 then some (.inl ((-2 : Int32), A35, D36)) else bnd (d_X4_walk_47 N (vA A35) D36 ((cS D36 4702) - ((1 : Int32)))) (fun v37 => if 0 ≤ v37 then bnd (d_X4_slotOf_47 N (vA A35) D36 v37 ((cS D36 4702) - ((1 : Int32)))) (fun v38 => if v38 = ((-1 : Int32)) then bnd (d_X11_faultOfNew N (vA A35) A35.2.2.2.2.1 D36 v37) (fun v39 => if 0 ≤ v39 then if a0 = 0 then bnd3 (d_X7_create N A35 D36 ((1 : Int32))) (fun v40 A40 D40 => bndF (d_X4_addName_47 N B gr A40 D40 v37 v40) (fun v41 A41 D41 => bndF (d_X10_finish N B gr A41 D41) (fun v42 A42 D42 => some (.inl (v40, A42, D42))))) else bnd3 (d_X7_create N A35 D36 ((2 : Int32))) (fun v43 A43 D43 => bndF (d_X4_addName_47 N B gr A43 D43 v37 v43) (fun v44 A44 D44 => bndF (d_X10_finish N B gr A44 D44) (fun v45 A45 D45 => some (.inl (v43, A45, D45))))) else some (.inl (v39, A35, D36))) else some (.inl ((-2 : Int32), A35, D36))) else some (.inl (v37, A35, D36))))))
set_option maxRecDepth 100000 in
set_option maxHeartbeats 4000000 in
theorem k_X11_make (E : gE) (f : Nat → va_E) (N B gr : Nat) (C D : CfT) (A : MS) (hz : CfZ E N B gr) (h : CfV E f N B gr C) (hD : Dq D C) (hA : AR N B gr A C) (a0 : Int32) (r : FR Int32) (hr : d_X11_make N B gr A D a0 = some r) : Ct E 13 yX11_make cX11_make 6 (some .int) [.ref (gAd E (0)), .int (a0)] f (FQ E N B gr f (fun r => some (.int r)) r) := by
  obtain ⟨z1, z2, z3, z4, z5, z6, z7⟩ := id hz
  refine Ct.of (by decide) (Nat.le_of_ble_eq_true rfl) (fun sz => ?_)
  refine G.eql [(0, .ref (gAd E (0))), (1, .int (a0))] rfl ?_
  unfold d_X11_make at hr
  refine G.go tv_X11_make 1 1 [(0, .ref (gAd E (0))), (1, .int (a0))] [.ref (gAd E (0))] rfl ?_
  obtain ⟨v34, D34, hv34, hr⟩ := bnd2_s hr
  refine G.callV (0) [] [] (k_X11_useTape E _ N B gr C D A hz h hD hA v34 D34 hv34) cls_X11 (by omega) (h.q0) cw_X11_272 w_1343 w_29 (Nat.le_of_ble_eq_true rfl) rfl (Nat.le_of_ble_eq_true rfl) (tbd tv_X11_make rfl) (fun v34w f34 q34 => ?_) (fun _ _ h => h.elim)
  obtain ⟨rfl, C34, ha34, hD34, hA34, hR34, fa34⟩ := q34
  refine G.eqs [.int (v34)] rfl ?_
  refine G.go tv_X11_make 2 6 [(0, .ref (gAd E (0))), (1, .int (a0)), (2, .int (v34))] [.ref (gAd E (0))] rfl ?_
  rcases bndF_s hr with ⟨v35, A35, D35, hv35, hr⟩ | ⟨ex35, A35, D35, hv35, rfl⟩
  rotate_left
  · skip
    refine G.callV (0) [] [] (k_X11_needMounted E _ N B gr C34 D34 A hz ha34 hD34 hA34 _ hv35) cls_X11 (by omega) (ha34.q0) cw_X11_221 w_1320 w_27 (Nat.le_of_ble_eq_true rfl) rfl (Nat.le_of_ble_eq_true rfl) (tbd tv_X11_make rfl) (fun v35w f35 q35 => ?_) (fun X g q => FQ.fr q (Fr.rf.tr fa34 (fun _ h => h)))
    exact q35.elim
  refine G.callV (0) [] [] (k_X11_needMounted E _ N B gr C34 D34 A hz ha34 hD34 hA34 _ hv35) cls_X11 (by omega) (ha34.q0) cw_X11_221 w_1320 w_27 (Nat.le_of_ble_eq_true rfl) rfl (Nat.le_of_ble_eq_true rfl) (tbd tv_X11_make rfl) (fun v35w f35 q35 => ?_) (fun _ _ h => h.elim)
  obtain ⟨rfl, C35, ha35, hD35, hA35, fa35⟩ := q35
  refine G.eqs [] rfl ?_
  refine G.go tv_X11_make 1 10 [(0, .ref (gAd E (0))), (1, .int (a0)), (2, .int (v34))] [.ref (gAd E (0))] rfl ?_
  refine G.getf cls_X11 (0) 13 (by omega) (ha35.q0) (by decide) rfl (tbd tv_X11_make rfl) w_576 ?_
  refine G.go tv_X11_make 1 14 [(0, .ref (gAd E (0))), (1, .int (a0)), (2, .int (v34))] [.ref (gAd E (0)), .ref (gAd E (47))] rfl ?_
  refine G.getf cls_X11 (0) 0 (by omega) (ha35.q0) (by decide) rfl (tbd tv_X11_make rfl) w_563 ?_
  refine G.go tv_X11_make 2 19 [(0, .ref (gAd E (0))), (1, .int (a0)), (2, .int (v34))] [.int (v34), .int ((0 : Int32)), .ref (gAd E (1)), .ref (gAd E (47))] rfl ?_
  obtain ⟨v36, D36, hv36, hr⟩ := bnd2_s hr
  refine G.callV (47) [.ref (gAd E (1)), .int ((0 : Int32)), .int (v34)] [] (k_X8_parse_47 E _ N B gr C35 D35 A35 hz ha35 hD35 hA35 ((0 : Int32)) v34 v36 D36 hv36) cls_X8 (by omega) (ha35.q47) cw_X11_259 w_1346 w_1347 (Nat.le_of_ble_eq_true rfl) rfl (Nat.le_of_ble_eq_true rfl) (tbd tv_X11_make rfl) (fun v36w f36 q36 => ?_) (fun _ _ h => h.elim)
  obtain ⟨rfl, C36, ha36, hD36, hA36, hR36, fa36⟩ := q36
  refine G.eqs [.int (v36)] rfl ?_
  refine G.if_ne 28 (tbd tv_X11_make rfl) (by decide) (fun c22 => ?_) (fun c22 => ?_)
  · replace hr := ite_f c22 hr
    refine G.go tv_X11_make 1 29 [(0, .ref (gAd E (0))), (1, .int (a0)), (2, .int (v34))] [.ref (gAd E (0))] rfl ?_
    refine G.getf cls_X11 (0) 13 (by omega) (ha36.q0) (by decide) rfl (tbd tv_X11_make rfl) w_576 ?_
    refine G.getf cls_X8 (47) 2 (by omega) (ha36.q47) (by decide) rfl (tbd tv_X11_make rfl) w_198 ?_
    refine G.eq1 (b := cS D36 4702) (hD36.1 4702 (by decide)) ?_
    refine G.if_ne 41 (tbd tv_X11_make rfl) (by decide) (fun c35 => ?_) (fun c35 => ?_)
    · replace hr := ite_f c35 hr
      refine G.go tv_X11_make 1 42 [(0, .ref (gAd E (0))), (1, .int (a0)), (2, .int (v34))] [.ref (gAd E (0))] rfl ?_
      refine G.getf cls_X11 (0) 10 (by omega) (ha36.q0) (by decide) rfl (tbd tv_X11_make rfl) w_573 ?_
      refine G.go tv_X11_make 1 46 [(0, .ref (gAd E (0))), (1, .int (a0)), (2, .int (v34))] [.ref (gAd E (0)), .ref (gAd E (40))] rfl ?_
      refine G.getf cls_X11 (0) 13 (by omega) (ha36.q0) (by decide) rfl (tbd tv_X11_make rfl) w_576 ?_
      refine G.go tv_X11_make 1 50 [(0, .ref (gAd E (0))), (1, .int (a0)), (2, .int (v34))] [.ref (gAd E (0)), .ref (gAd E (47)), .ref (gAd E (40))] rfl ?_
      refine G.getf cls_X11 (0) 13 (by omega) (ha36.q0) (by decide) rfl (tbd tv_X11_make rfl) w_576 ?_
      refine G.getf cls_X8 (47) 2 (by omega) (ha36.q47) (by decide) rfl (tbd tv_X11_make rfl) w_198 ?_
      refine G.eq1 (b := cS D36 4702) (hD36.1 4702 (by decide)) ?_
      refine G.go tv_X11_make 2 58 [(0, .ref (gAd E (0))), (1, .int (a0)), (2, .int (v34))] [.int ((cS D36 4702) - ((1 : Int32))), .ref (gAd E (47)), .ref (gAd E (40))] rfl ?_
      obtain ⟨v37, hv37, hr⟩ := bnd_s hr
      refine G.callV (40) [.ref (gAd E (47)), .int ((cS D36 4702) - ((1 : Int32)))] [] (k_X4_walk_47 E _ N B gr C36 D36 A35 hz ha36 hD36 hA36 ((cS D36 4702) - ((1 : Int32))) v37 hv37) cls_X4 (by omega) (ha36.q40) cw_X11_278 w_1356 w_1357 (Nat.le_of_ble_eq_true rfl) rfl (Nat.le_of_ble_eq_true rfl) (tbd tv_X11_make rfl) (fun v37w f37 q37 => ?_) (fun _ _ h => h.elim)
      obtain ⟨rfl, ha37, fa37⟩ := q37
      refine G.eqs [.int (v37)] rfl ?_
      refine G.go tv_X11_make 2 63 [(0, .ref (gAd E (0))), (1, .int (a0)), (2, .int (v34)), (3, .int (v37))] [.int (v37)] rfl ?_
      refine G.if_ge 68 (tbd tv_X11_make rfl) (by decide) (fun c63 => ?_) (fun c63 => ?_)
      · replace hr := ite_t c63 hr
        refine G.go tv_X11_make 1 69 [(0, .ref (gAd E (0))), (1, .int (a0)), (2, .int (v34)), (3, .int (v37))] [.ref (gAd E (0))] rfl ?_
        refine G.getf cls_X11 (0) 10 (by omega) (ha37.q0) (by decide) rfl (tbd tv_X11_make rfl) w_573 ?_
        refine G.go tv_X11_make 2 74 [(0, .ref (gAd E (0))), (1, .int (a0)), (2, .int (v34)), (3, .int (v37))] [.ref (gAd E (0)), .int (v37), .ref (gAd E (40))] rfl ?_
        refine G.getf cls_X11 (0) 13 (by omega) (ha37.q0) (by decide) rfl (tbd tv_X11_make rfl) w_576 ?_
        refine G.go tv_X11_make 1 78 [(0, .ref (gAd E (0))), (1, .int (a0)), (2, .int (v34)), (3, .int (v37))] [.ref (gAd E (0)), .ref (gAd E (47)), .int (v37), .ref (gAd E (40))] rfl ?_
        refine G.getf cls_X11 (0) 13 (by omega) (ha37.q0) (by decide) rfl (tbd tv_X11_make rfl) w_576 ?_
        refine G.getf cls_X8 (47) 2 (by omega) (ha37.q47) (by decide) rfl (tbd tv_X11_make rfl) w_198 ?_
        refine G.eq1 (b := cS D36 4702) (hD36.1 4702 (by decide)) ?_
        refine G.go tv_X11_make 2 86 [(0, .ref (gAd E (0))), (1, .int (a0)), (2, .int (v34)), (3, .int (v37))] [.int ((cS D36 4702) - ((1 : Int32))), .ref (gAd E (47)), .int (v37), .ref (gAd E (40))] rfl ?_
        obtain ⟨v38, hv38, hr⟩ := bnd_s hr
        refine G.callV (40) [.int (v37), .ref (gAd E (47)), .int ((cS D36 4702) - ((1 : Int32)))] [] (k_X4_slotOf_47 E _ N B gr C36 D36 A35 hz ha37 hD36 hA36 v37 ((cS D36 4702) - ((1 : Int32))) v38 hv38) cls_X4 (by omega) (ha37.q40) cw_X11_282 w_1361 w_1362 (Nat.le_of_ble_eq_true rfl) rfl (Nat.le_of_ble_eq_true rfl) (tbd tv_X11_make rfl) (fun v38w f38 q38 => ?_) (fun _ _ h => h.elim)
        obtain ⟨rfl, ha38, fa38⟩ := q38
        refine G.eqs [.int (v38)] rfl ?_
        refine G.go tv_X11_make 1 90 [(0, .ref (gAd E (0))), (1, .int (a0)), (2, .int (v34)), (3, .int (v37))] [.int ((-1 : Int32)), .int (v38)] rfl ?_
        refine G.cmp_eq 96 (tbd tv_X11_make rfl) (by decide) (fun c90 => ?_) (fun c90 => ?_)
        · replace hr := ite_t c90 hr
          refine G.go tv_X11_make 2 98 [(0, .ref (gAd E (0))), (1, .int (a0)), (2, .int (v34)), (3, .int (v37))] [.int (v37), .ref (gAd E (0))] rfl ?_
          obtain ⟨v39, hv39, hr⟩ := bnd_s hr
          refine G.callV (0) [.int (v37)] [] (k_X11_faultOfNew E _ N B gr C36 D36 A35 hz ha38 hD36 hA36 v37 v39 hv39) cls_X11 (by omega) (ha38.q0) cw_X11_286 w_1390 w_32 (Nat.le_of_ble_eq_true rfl) rfl (Nat.le_of_ble_eq_true rfl) (tbd tv_X11_make rfl) (fun v39w f39 q39 => ?_) (fun _ _ h => h.elim)
          obtain ⟨rfl, ha39, fa39⟩ := q39
          refine G.eqs [.int (v39)] rfl ?_
          refine G.go tv_X11_make 2 105 [(0, .ref (gAd E (0))), (1, .int (a0)), (2, .int (v34)), (3, .int (v37)), (4, .int (v39))] [.int (v39)] rfl ?_
          refine G.if_ge 111 (tbd tv_X11_make rfl) (by decide) (fun c105 => ?_) (fun c105 => ?_)
          · replace hr := ite_t c105 hr
            refine G.go tv_X11_make 1 112 [(0, .ref (gAd E (0))), (1, .int (a0)), (2, .int (v34)), (3, .int (v37)), (4, .int (v39))] [.ref (gAd E (0))] rfl ?_
            refine G.getf cls_X11 (0) 8 (by omega) (ha39.q0) (by decide) rfl (tbd tv_X11_make rfl) w_571 ?_
            refine G.go tv_X11_make 1 116 [(0, .ref (gAd E (0))), (1, .int (a0)), (2, .int (v34)), (3, .int (v37)), (4, .int (v39))] [.int (a0), .ref (gAd E (37))] rfl ?_
            refine G.if_eq 123 (tbd tv_X11_make rfl) (by decide) (fun c116 => ?_) (fun c116 => ?_)
            · replace hr := ite_t c116 hr
              refine G.go tv_X11_make 1 124 [(0, .ref (gAd E (0))), (1, .int (a0)), (2, .int (v34)), (3, .int (v37)), (4, .int (v39))] [.int ((1 : Int32)), .ref (gAd E (37))] rfl ?_
              obtain ⟨v40, A40, D40, hv40, hr⟩ := bnd3_s hr
              refine G.callV (37) [.int ((1 : Int32))] [] (k_X7_create E _ N B gr C36 D36 A35 hz ha39 hD36 hA36 ((1 : Int32)) v40 A40 D40 hv40) cls_X7 (by omega) (ha39.q37) cw_X11_289 w_1427 w_1428 (Nat.le_of_ble_eq_true rfl) rfl (Nat.le_of_ble_eq_true rfl) (tbd tv_X11_make rfl) (fun v40w f40 q40 => ?_) (fun _ _ h => h.elim)
              obtain ⟨rfl, C40, ha40, hD40, hA40, fa40⟩ := q40
              refine G.eqs [.int (v40)] rfl ?_
              refine G.go tv_X11_make 2 130 [(0, .ref (gAd E (0))), (1, .int (a0)), (2, .int (v34)), (3, .int (v37)), (4, .int (v39)), (5, .int (v40))] [.ref (gAd E (0))] rfl ?_
              refine G.getf cls_X11 (0) 10 (by omega) (ha40.q0) (by decide) rfl (tbd tv_X11_make rfl) w_573 ?_
              refine G.go tv_X11_make 2 135 [(0, .ref (gAd E (0))), (1, .int (a0)), (2, .int (v34)), (3, .int (v37)), (4, .int (v39)), (5, .int (v40))] [.ref (gAd E (0)), .int (v37), .ref (gAd E (40))] rfl ?_
              refine G.getf cls_X11 (0) 13 (by omega) (ha40.q0) (by decide) rfl (tbd tv_X11_make rfl) w_576 ?_
              refine G.go tv_X11_make 1 140 [(0, .ref (gAd E (0))), (1, .int (a0)), (2, .int (v34)), (3, .int (v37)), (4, .int (v39)), (5, .int (v40))] [.int (v40), .ref (gAd E (47)), .int (v37), .ref (gAd E (40))] rfl ?_
              rcases bndF_s hr with ⟨v41, A41, D41, hv41, hr⟩ | ⟨ex41, A41, D41, hv41, rfl⟩
              rotate_left
              · skip
                refine G.callV (40) [.int (v37), .ref (gAd E (47)), .int (v40)] [] (k_X4_addName_47 E _ N B gr C40 D40 A40 hz ha40 hD40 hA40 v37 v40 _ hv41) cls_X4 (by omega) (ha40.q40) cw_X11_292 w_1436 w_1437 (Nat.le_of_ble_eq_true rfl) rfl (Nat.le_of_ble_eq_true rfl) (tbd tv_X11_make rfl) (fun v41w f41 q41 => ?_) (fun X g q => FQ.fr q (((((((Fr.rf.tr fa34 (fun _ h => h)).tr fa35 (fun _ h => h)).tr fa36 (fun _ h => h)).tr fa37 (fun _ h => h)).tr fa38 (fun _ h => h)).tr fa39 (fun _ h => h)).tr fa40 (fun _ h => h)))
                exact q41.elim
              refine G.callV (40) [.int (v37), .ref (gAd E (47)), .int (v40)] [] (k_X4_addName_47 E _ N B gr C40 D40 A40 hz ha40 hD40 hA40 v37 v40 _ hv41) cls_X4 (by omega) (ha40.q40) cw_X11_292 w_1436 w_1437 (Nat.le_of_ble_eq_true rfl) rfl (Nat.le_of_ble_eq_true rfl) (tbd tv_X11_make rfl) (fun v41w f41 q41 => ?_) (fun _ _ h => h.elim)
              obtain ⟨rfl, C41, ha41, hD41, hA41, fa41⟩ := q41
              refine G.eqs [] rfl ?_
              refine G.go tv_X11_make 1 144 [(0, .ref (gAd E (0))), (1, .int (a0)), (2, .int (v34)), (3, .int (v37)), (4, .int (v39)), (5, .int (v40))] [.ref (gAd E (0))] rfl ?_
              refine G.getf cls_X11 (0) 7 (by omega) (ha41.q0) (by decide) rfl (tbd tv_X11_make rfl) w_570 ?_
              rcases bndF_s hr with ⟨v42, A42, D42, hv42, hr⟩ | ⟨ex42, A42, D42, hv42, rfl⟩
              rotate_left
              · skip
                refine G.callV (25) [] [] (k_X10_finish E _ N B gr C41 D41 A41 hz ha41 hD41 hA41 _ hv42) cls_X10 (by omega) (ha41.q25) cw_X11_244 w_1247 w_1248 (Nat.le_of_ble_eq_true rfl) rfl (Nat.le_of_ble_eq_true rfl) (tbd tv_X11_make rfl) (fun v42w f42 q42 => ?_) (fun X g q => FQ.fr q ((((((((Fr.rf.tr fa34 (fun _ h => h)).tr fa35 (fun _ h => h)).tr fa36 (fun _ h => h)).tr fa37 (fun _ h => h)).tr fa38 (fun _ h => h)).tr fa39 (fun _ h => h)).tr fa40 (fun _ h => h)).tr fa41 (fun _ h => h)))
                exact q42.elim
              refine G.callV (25) [] [] (k_X10_finish E _ N B gr C41 D41 A41 hz ha41 hD41 hA41 _ hv42) cls_X10 (by omega) (ha41.q25) cw_X11_244 w_1247 w_1248 (Nat.le_of_ble_eq_true rfl) rfl (Nat.le_of_ble_eq_true rfl) (tbd tv_X11_make rfl) (fun v42w f42 q42 => ?_) (fun _ _ h => h.elim)
              obtain ⟨rfl, C42, ha42, hD42, hA42, fa42⟩ := q42
              refine G.eqs [] rfl ?_
              refine G.go tv_X11_make 1 152 [(0, .ref (gAd E (0))), (1, .int (a0)), (2, .int (v34)), (3, .int (v37)), (4, .int (v39)), (5, .int (v40))] [.int (v40)] rfl ?_
              cases hr
              exact G.iret rfl rfl (FQ.ok rfl ⟨C42, ha42, hD42, hA42, (((((((((Fr.rf.tr fa34 (fun _ h => h)).tr fa35 (fun _ h => h)).tr fa36 (fun _ h => h)).tr fa37 (fun _ h => h)).tr fa38 (fun _ h => h)).tr fa39 (fun _ h => h)).tr fa40 (fun _ h => h)).tr fa41 (fun _ h => h)).tr fa42 (fun _ h => h))⟩) (tbd tv_X11_make rfl)
            · replace hr := ite_f c116 hr
              refine G.go tv_X11_make 2 124 [(0, .ref (gAd E (0))), (1, .int (a0)), (2, .int (v34)), (3, .int (v37)), (4, .int (v39))] [.int ((2 : Int32)), .ref (gAd E (37))] rfl ?_
              obtain ⟨v43, A43, D43, hv43, hr⟩ := bnd3_s hr
              refine G.callV (37) [.int ((2 : Int32))] [] (k_X7_create E _ N B gr C36 D36 A35 hz ha39 hD36 hA36 ((2 : Int32)) v43 A43 D43 hv43) cls_X7 (by omega) (ha39.q37) cw_X11_289 w_1427 w_1428 (Nat.le_of_ble_eq_true rfl) rfl (Nat.le_of_ble_eq_true rfl) (tbd tv_X11_make rfl) (fun v43w f43 q43 => ?_) (fun _ _ h => h.elim)
              obtain ⟨rfl, C43, ha43, hD43, hA43, fa43⟩ := q43
              refine G.eqs [.int (v43)] rfl ?_
              refine G.go tv_X11_make 2 130 [(0, .ref (gAd E (0))), (1, .int (a0)), (2, .int (v34)), (3, .int (v37)), (4, .int (v39)), (5, .int (v43))] [.ref (gAd E (0))] rfl ?_
              refine G.getf cls_X11 (0) 10 (by omega) (ha43.q0) (by decide) rfl (tbd tv_X11_make rfl) w_573 ?_
              refine G.go tv_X11_make 2 135 [(0, .ref (gAd E (0))), (1, .int (a0)), (2, .int (v34)), (3, .int (v37)), (4, .int (v39)), (5, .int (v43))] [.ref (gAd E (0)), .int (v37), .ref (gAd E (40))] rfl ?_
              refine G.getf cls_X11 (0) 13 (by omega) (ha43.q0) (by decide) rfl (tbd tv_X11_make rfl) w_576 ?_
              refine G.go tv_X11_make 1 140 [(0, .ref (gAd E (0))), (1, .int (a0)), (2, .int (v34)), (3, .int (v37)), (4, .int (v39)), (5, .int (v43))] [.int (v43), .ref (gAd E (47)), .int (v37), .ref (gAd E (40))] rfl ?_
              rcases bndF_s hr with ⟨v44, A44, D44, hv44, hr⟩ | ⟨ex44, A44, D44, hv44, rfl⟩
              rotate_left
              · skip
                refine G.callV (40) [.int (v37), .ref (gAd E (47)), .int (v43)] [] (k_X4_addName_47 E _ N B gr C43 D43 A43 hz ha43 hD43 hA43 v37 v43 _ hv44) cls_X4 (by omega) (ha43.q40) cw_X11_292 w_1436 w_1437 (Nat.le_of_ble_eq_true rfl) rfl (Nat.le_of_ble_eq_true rfl) (tbd tv_X11_make rfl) (fun v44w f44 q44 => ?_) (fun X g q => FQ.fr q (((((((Fr.rf.tr fa34 (fun _ h => h)).tr fa35 (fun _ h => h)).tr fa36 (fun _ h => h)).tr fa37 (fun _ h => h)).tr fa38 (fun _ h => h)).tr fa39 (fun _ h => h)).tr fa43 (fun _ h => h)))
                exact q44.elim
              refine G.callV (40) [.int (v37), .ref (gAd E (47)), .int (v43)] [] (k_X4_addName_47 E _ N B gr C43 D43 A43 hz ha43 hD43 hA43 v37 v43 _ hv44) cls_X4 (by omega) (ha43.q40) cw_X11_292 w_1436 w_1437 (Nat.le_of_ble_eq_true rfl) rfl (Nat.le_of_ble_eq_true rfl) (tbd tv_X11_make rfl) (fun v44w f44 q44 => ?_) (fun _ _ h => h.elim)
              obtain ⟨rfl, C44, ha44, hD44, hA44, fa44⟩ := q44
              refine G.eqs [] rfl ?_
              refine G.go tv_X11_make 1 144 [(0, .ref (gAd E (0))), (1, .int (a0)), (2, .int (v34)), (3, .int (v37)), (4, .int (v39)), (5, .int (v43))] [.ref (gAd E (0))] rfl ?_
              refine G.getf cls_X11 (0) 7 (by omega) (ha44.q0) (by decide) rfl (tbd tv_X11_make rfl) w_570 ?_
              rcases bndF_s hr with ⟨v45, A45, D45, hv45, hr⟩ | ⟨ex45, A45, D45, hv45, rfl⟩
              rotate_left
              · skip
                refine G.callV (25) [] [] (k_X10_finish E _ N B gr C44 D44 A44 hz ha44 hD44 hA44 _ hv45) cls_X10 (by omega) (ha44.q25) cw_X11_244 w_1247 w_1248 (Nat.le_of_ble_eq_true rfl) rfl (Nat.le_of_ble_eq_true rfl) (tbd tv_X11_make rfl) (fun v45w f45 q45 => ?_) (fun X g q => FQ.fr q ((((((((Fr.rf.tr fa34 (fun _ h => h)).tr fa35 (fun _ h => h)).tr fa36 (fun _ h => h)).tr fa37 (fun _ h => h)).tr fa38 (fun _ h => h)).tr fa39 (fun _ h => h)).tr fa43 (fun _ h => h)).tr fa44 (fun _ h => h)))
                exact q45.elim
              refine G.callV (25) [] [] (k_X10_finish E _ N B gr C44 D44 A44 hz ha44 hD44 hA44 _ hv45) cls_X10 (by omega) (ha44.q25) cw_X11_244 w_1247 w_1248 (Nat.le_of_ble_eq_true rfl) rfl (Nat.le_of_ble_eq_true rfl) (tbd tv_X11_make rfl) (fun v45w f45 q45 => ?_) (fun _ _ h => h.elim)
              obtain ⟨rfl, C45, ha45, hD45, hA45, fa45⟩ := q45
              refine G.eqs [] rfl ?_
              refine G.go tv_X11_make 1 152 [(0, .ref (gAd E (0))), (1, .int (a0)), (2, .int (v34)), (3, .int (v37)), (4, .int (v39)), (5, .int (v43))] [.int (v43)] rfl ?_
              cases hr
              exact G.iret rfl rfl (FQ.ok rfl ⟨C45, ha45, hD45, hA45, (((((((((Fr.rf.tr fa34 (fun _ h => h)).tr fa35 (fun _ h => h)).tr fa36 (fun _ h => h)).tr fa37 (fun _ h => h)).tr fa38 (fun _ h => h)).tr fa39 (fun _ h => h)).tr fa43 (fun _ h => h)).tr fa44 (fun _ h => h)).tr fa45 (fun _ h => h))⟩) (tbd tv_X11_make rfl)
          · replace hr := ite_f c105 hr
            refine G.go tv_X11_make 1 110 [(0, .ref (gAd E (0))), (1, .int (a0)), (2, .int (v34)), (3, .int (v37)), (4, .int (v39))] [.int (v39)] rfl ?_
            cases hr
            exact G.iret rfl rfl (FQ.ok rfl ⟨C36, ha39, hD36, hA36, ((((((Fr.rf.tr fa34 (fun _ h => h)).tr fa35 (fun _ h => h)).tr fa36 (fun _ h => h)).tr fa37 (fun _ h => h)).tr fa38 (fun _ h => h)).tr fa39 (fun _ h => h))⟩) (tbd tv_X11_make rfl)
        · replace hr := ite_f c90 hr
          refine G.go tv_X11_make 1 95 [(0, .ref (gAd E (0))), (1, .int (a0)), (2, .int (v34)), (3, .int (v37))] [.int ((-2 : Int32))] rfl ?_
          cases hr
          exact G.iret rfl rfl (FQ.ok rfl ⟨C36, ha38, hD36, hA36, (((((Fr.rf.tr fa34 (fun _ h => h)).tr fa35 (fun _ h => h)).tr fa36 (fun _ h => h)).tr fa37 (fun _ h => h)).tr fa38 (fun _ h => h))⟩) (tbd tv_X11_make rfl)
      · replace hr := ite_f c63 hr
        refine G.go tv_X11_make 1 67 [(0, .ref (gAd E (0))), (1, .int (a0)), (2, .int (v34)), (3, .int (v37))] [.int (v37)] rfl ?_
        cases hr
        exact G.iret rfl rfl (FQ.ok rfl ⟨C36, ha37, hD36, hA36, ((((Fr.rf.tr fa34 (fun _ h => h)).tr fa35 (fun _ h => h)).tr fa36 (fun _ h => h)).tr fa37 (fun _ h => h))⟩) (tbd tv_X11_make rfl)
    · replace hr := ite_t c35 hr
      refine G.go tv_X11_make 1 40 [(0, .ref (gAd E (0))), (1, .int (a0)), (2, .int (v34))] [.int ((-2 : Int32))] rfl ?_
      cases hr
      exact G.iret rfl rfl (FQ.ok rfl ⟨C36, ha36, hD36, hA36, (((Fr.rf.tr fa34 (fun _ h => h)).tr fa35 (fun _ h => h)).tr fa36 (fun _ h => h))⟩) (tbd tv_X11_make rfl)
  · replace hr := ite_t c22 hr
    refine G.go tv_X11_make 1 27 [(0, .ref (gAd E (0))), (1, .int (a0)), (2, .int (v34))] [.int ((-6 : Int32))] rfl ?_
    cases hr
    exact G.iret rfl rfl (FQ.ok rfl ⟨C36, ha36, hD36, hA36, (((Fr.rf.tr fa34 (fun _ h => h)).tr fa35 (fun _ h => h)).tr fa36 (fun _ h => h))⟩) (tbd tv_X11_make rfl)
theorem w_1472 : Cond.methodLink "LedgerFiles" 296 yX11_inodeBelowRoot ∈ TB := tp_6 126 (by decide +kernel) rfl
theorem w_1475 : Cond.code yX11_inodeBelowRoot prog_1_method_18_code 2 (some .int) ∈ TB := tp_6 129 rfl rfl
theorem cw_X11_296 : Cw RX11 296 yX11_inodeBelowRoot cX11_inodeBelowRoot 2 (some .int) 1 := ⟨w_1472, w_1475, w_147, by decide +kernel, by decide +kernel, by decide⟩
theorem w_1474 : Cond.instanceMethod yX11_inodeBelowRoot ∈ TB := tp_6 128 (by decide +kernel) rfl
theorem w_35 : Cond.selects "LedgerFiles" yX11_inodeBelowRoot yX11_inodeBelowRoot ∈ TB := tp_0 35 (by decide +kernel) rfl
theorem w_1480 : Cond.methodLink "LedgerFiles" 302 yX4_wipe ∈ TB := tp_6 134 (by decide +kernel) rfl
theorem w_1483 : Cond.code yX4_wipe prog_6_method_18_code 3 none ∈ TB := tp_6 137 rfl rfl
theorem cw_X11_302 : Cw RX11 302 yX4_wipe cX4_wipe 3 none 2 := ⟨w_1480, w_1483, w_158, by decide +kernel, by decide +kernel, by decide⟩
theorem w_1481 : Cond.instanceMethod yX4_wipe ∈ TB := tp_6 135 (by decide +kernel) rfl
theorem w_1482 : Cond.selects "LedgerFiles$Folders" yX4_wipe yX4_wipe ∈ TB := tp_6 136 (by decide +kernel) rfl
theorem w_1485 : Cond.methodLink "LedgerFiles" 306 yX7_loseName ∈ TB := tp_6 139 (by decide +kernel) rfl
theorem w_1488 : Cond.code yX7_loseName prog_9_method_21_code 2 none ∈ TB := tp_6 142 rfl rfl
theorem cw_X11_306 : Cw RX11 306 yX7_loseName cX7_loseName 2 none 1 := ⟨w_1485, w_1488, w_157, by decide +kernel, by decide +kernel, by decide⟩
theorem w_1486 : Cond.instanceMethod yX7_loseName ∈ TB := tp_6 140 (by decide +kernel) rfl
theorem w_1487 : Cond.selects "LedgerFiles$Nodes" yX7_loseName yX7_loseName ∈ TB := tp_6 141 (by decide +kernel) rfl
noncomputable def d_X11_remove (N B gr : Nat) (A : MS) (D : CfT) : Option (FR Int32) := bnd2 (d_X11_useTape N (vA A) D) (fun v46 D46 => bndF (d_X11_needMounted N B gr A D46) (fun v47 A47 D47 => bnd2 (d_X11_inodeBelowRoot N (vA A47) D47 v46) (fun v48 D48 => if 0 ≤ v48 then bnd (d_X4_names N (vA A47) D48 v48) (fun v49 => if v49 ≤ 0 then bnd (d_X4_walk_47 N (vA A47) D48 ((cS D48 4702) - ((1 : Int32)))) (fun v50 => bnd (d_X4_slotOf_47 N (vA A47) D48 v50 ((cS D48 4702) - ((1 : Int32)))) (fun v51 => bnd2 (d_X4_wipe N A47 D48 v50 v51) (fun A52 D52 => bnd2 (d_X7_loseName N A52 D52 v48) (fun A53 D53 => bndF (d_X10_finish N B gr A53 D53) (fun v54 A54 D54 => some (.inl ((0 : Int32), A54, D54))))))) else some (.inl ((-5 : Int32), A47, D48))) else some (.inl (v48, A47, D48)))))
set_option maxRecDepth 100000 in
set_option maxHeartbeats 4000000 in
theorem k_X11_remove (E : gE) (f : Nat → va_E) (N B gr : Nat) (C D : CfT) (A : MS) (hz : CfZ E N B gr) (h : CfV E f N B gr C) (hD : Dq D C) (hA : AR N B gr A C) (r : FR Int32) (hr : d_X11_remove N B gr A D = some r) : Ct E 12 yX11_remove cX11_remove 4 (some .int) [.ref (gAd E (0))] f (FQ E N B gr f (fun r => some (.int r)) r) := by
  obtain ⟨z1, z2, z3, z4, z5, z6, z7⟩ := id hz
  refine Ct.of (by decide) (Nat.le_of_ble_eq_true rfl) (fun sz => ?_)
  refine G.eql [(0, .ref (gAd E (0)))] rfl ?_
  unfold d_X11_remove at hr
  refine G.go tv_X11_remove 1 1 [(0, .ref (gAd E (0)))] [.ref (gAd E (0))] rfl ?_
  obtain ⟨v46, D46, hv46, hr⟩ := bnd2_s hr
  refine G.callV (0) [] [] (k_X11_useTape E _ N B gr C D A hz h hD hA v46 D46 hv46) cls_X11 (by omega) (h.q0) cw_X11_272 w_1343 w_29 (Nat.le_of_ble_eq_true rfl) rfl (Nat.le_of_ble_eq_true rfl) (tbd tv_X11_remove rfl) (fun v46w f46 q46 => ?_) (fun _ _ h => h.elim)
  obtain ⟨rfl, C46, ha46, hD46, hA46, hR46, fa46⟩ := q46
  refine G.eqs [.int (v46)] rfl ?_
  refine G.go tv_X11_remove 2 6 [(0, .ref (gAd E (0))), (1, .int (v46))] [.ref (gAd E (0))] rfl ?_
  rcases bndF_s hr with ⟨v47, A47, D47, hv47, hr⟩ | ⟨ex47, A47, D47, hv47, rfl⟩
  rotate_left
  · skip
    refine G.callV (0) [] [] (k_X11_needMounted E _ N B gr C46 D46 A hz ha46 hD46 hA46 _ hv47) cls_X11 (by omega) (ha46.q0) cw_X11_221 w_1320 w_27 (Nat.le_of_ble_eq_true rfl) rfl (Nat.le_of_ble_eq_true rfl) (tbd tv_X11_remove rfl) (fun v47w f47 q47 => ?_) (fun X g q => FQ.fr q (Fr.rf.tr fa46 (fun _ h => h)))
    exact q47.elim
  refine G.callV (0) [] [] (k_X11_needMounted E _ N B gr C46 D46 A hz ha46 hD46 hA46 _ hv47) cls_X11 (by omega) (ha46.q0) cw_X11_221 w_1320 w_27 (Nat.le_of_ble_eq_true rfl) rfl (Nat.le_of_ble_eq_true rfl) (tbd tv_X11_remove rfl) (fun v47w f47 q47 => ?_) (fun _ _ h => h.elim)
  obtain ⟨rfl, C47, ha47, hD47, hA47, fa47⟩ := q47
  refine G.eqs [] rfl ?_
  refine G.go tv_X11_remove 2 11 [(0, .ref (gAd E (0))), (1, .int (v46))] [.int (v46), .ref (gAd E (0))] rfl ?_
  obtain ⟨v48, D48, hv48, hr⟩ := bnd2_s hr
  refine G.callV (0) [.int (v46)] [] (k_X11_inodeBelowRoot E _ N B gr C47 D47 A47 hz ha47 hD47 hA47 v46 v48 D48 hv48) cls_X11 (by omega) (ha47.q0) cw_X11_296 w_1474 w_35 (Nat.le_of_ble_eq_true rfl) rfl (Nat.le_of_ble_eq_true rfl) (tbd tv_X11_remove rfl) (fun v48w f48 q48 => ?_) (fun _ _ h => h.elim)
  obtain ⟨rfl, C48, ha48, hD48, hA48, hR48, fa48⟩ := q48
  refine G.eqs [.int (v48)] rfl ?_
  refine G.go tv_X11_remove 2 16 [(0, .ref (gAd E (0))), (1, .int (v46)), (2, .int (v48))] [.int (v48)] rfl ?_
  refine G.if_ge 21 (tbd tv_X11_remove rfl) (by decide) (fun c16 => ?_) (fun c16 => ?_)
  · replace hr := ite_t c16 hr
    refine G.go tv_X11_remove 1 22 [(0, .ref (gAd E (0))), (1, .int (v46)), (2, .int (v48))] [.ref (gAd E (0))] rfl ?_
    refine G.getf cls_X11 (0) 10 (by omega) (ha48.q0) (by decide) rfl (tbd tv_X11_remove rfl) w_573 ?_
    refine G.go tv_X11_remove 1 26 [(0, .ref (gAd E (0))), (1, .int (v46)), (2, .int (v48))] [.int (v48), .ref (gAd E (40))] rfl ?_
    obtain ⟨v49, hv49, hr⟩ := bnd_s hr
    refine G.callV (40) [.int (v48)] [] (k_X4_names E _ N B gr C48 D48 A47 hz ha48 hD48 hA48 v48 v49 hv49) cls_X4 (by omega) (ha48.q40) cw_X11_299 w_1477 w_1478 (Nat.le_of_ble_eq_true rfl) rfl (Nat.le_of_ble_eq_true rfl) (tbd tv_X11_remove rfl) (fun v49w f49 q49 => ?_) (fun _ _ h => h.elim)
    obtain ⟨rfl, ha49, fa49⟩ := q49
    refine G.eqs [.int (v49)] rfl ?_
    refine G.if_le 35 (tbd tv_X11_remove rfl) (by decide) (fun c29 => ?_) (fun c29 => ?_)
    · replace hr := ite_t c29 hr
      refine G.go tv_X11_remove 1 36 [(0, .ref (gAd E (0))), (1, .int (v46)), (2, .int (v48))] [.ref (gAd E (0))] rfl ?_
      refine G.getf cls_X11 (0) 10 (by omega) (ha49.q0) (by decide) rfl (tbd tv_X11_remove rfl) w_573 ?_
      refine G.go tv_X11_remove 1 40 [(0, .ref (gAd E (0))), (1, .int (v46)), (2, .int (v48))] [.ref (gAd E (0)), .ref (gAd E (40))] rfl ?_
      refine G.getf cls_X11 (0) 13 (by omega) (ha49.q0) (by decide) rfl (tbd tv_X11_remove rfl) w_576 ?_
      refine G.go tv_X11_remove 1 44 [(0, .ref (gAd E (0))), (1, .int (v46)), (2, .int (v48))] [.ref (gAd E (0)), .ref (gAd E (47)), .ref (gAd E (40))] rfl ?_
      refine G.getf cls_X11 (0) 13 (by omega) (ha49.q0) (by decide) rfl (tbd tv_X11_remove rfl) w_576 ?_
      refine G.getf cls_X8 (47) 2 (by omega) (ha49.q47) (by decide) rfl (tbd tv_X11_remove rfl) w_198 ?_
      refine G.eq1 (b := cS D48 4702) (hD48.1 4702 (by decide)) ?_
      refine G.go tv_X11_remove 2 52 [(0, .ref (gAd E (0))), (1, .int (v46)), (2, .int (v48))] [.int ((cS D48 4702) - ((1 : Int32))), .ref (gAd E (47)), .ref (gAd E (40))] rfl ?_
      obtain ⟨v50, hv50, hr⟩ := bnd_s hr
      refine G.callV (40) [.ref (gAd E (47)), .int ((cS D48 4702) - ((1 : Int32)))] [] (k_X4_walk_47 E _ N B gr C48 D48 A47 hz ha49 hD48 hA48 ((cS D48 4702) - ((1 : Int32))) v50 hv50) cls_X4 (by omega) (ha49.q40) cw_X11_278 w_1356 w_1357 (Nat.le_of_ble_eq_true rfl) rfl (Nat.le_of_ble_eq_true rfl) (tbd tv_X11_remove rfl) (fun v50w f50 q50 => ?_) (fun _ _ h => h.elim)
      obtain ⟨rfl, ha50, fa50⟩ := q50
      refine G.eqs [.int (v50)] rfl ?_
      refine G.go tv_X11_remove 2 57 [(0, .ref (gAd E (0))), (1, .int (v46)), (2, .int (v48)), (3, .int (v50))] [.ref (gAd E (0))] rfl ?_
      refine G.getf cls_X11 (0) 10 (by omega) (ha50.q0) (by decide) rfl (tbd tv_X11_remove rfl) w_573 ?_
      refine G.go tv_X11_remove 2 62 [(0, .ref (gAd E (0))), (1, .int (v46)), (2, .int (v48)), (3, .int (v50))] [.ref (gAd E (0)), .int (v50), .ref (gAd E (40))] rfl ?_
      refine G.getf cls_X11 (0) 10 (by omega) (ha50.q0) (by decide) rfl (tbd tv_X11_remove rfl) w_573 ?_
      refine G.go tv_X11_remove 2 67 [(0, .ref (gAd E (0))), (1, .int (v46)), (2, .int (v48)), (3, .int (v50))] [.ref (gAd E (0)), .int (v50), .ref (gAd E (40)), .int (v50), .ref (gAd E (40))] rfl ?_
      refine G.getf cls_X11 (0) 13 (by omega) (ha50.q0) (by decide) rfl (tbd tv_X11_remove rfl) w_576 ?_
      refine G.go tv_X11_remove 1 71 [(0, .ref (gAd E (0))), (1, .int (v46)), (2, .int (v48)), (3, .int (v50))] [.ref (gAd E (0)), .ref (gAd E (47)), .int (v50), .ref (gAd E (40)), .int (v50), .ref (gAd E (40))] rfl ?_
      refine G.getf cls_X11 (0) 13 (by omega) (ha50.q0) (by decide) rfl (tbd tv_X11_remove rfl) w_576 ?_
      refine G.getf cls_X8 (47) 2 (by omega) (ha50.q47) (by decide) rfl (tbd tv_X11_remove rfl) w_198 ?_
      refine G.eq1 (b := cS D48 4702) (hD48.1 4702 (by decide)) ?_
      refine G.go tv_X11_remove 2 79 [(0, .ref (gAd E (0))), (1, .int (v46)), (2, .int (v48)), (3, .int (v50))] [.int ((cS D48 4702) - ((1 : Int32))), .ref (gAd E (47)), .int (v50), .ref (gAd E (40)), .int (v50), .ref (gAd E (40))] rfl ?_
      obtain ⟨v51, hv51, hr⟩ := bnd_s hr
      refine G.callV (40) [.int (v50), .ref (gAd E (47)), .int ((cS D48 4702) - ((1 : Int32)))] [.int (v50), .ref (gAd E (40))] (k_X4_slotOf_47 E _ N B gr C48 D48 A47 hz ha50 hD48 hA48 v50 ((cS D48 4702) - ((1 : Int32))) v51 hv51) cls_X4 (by omega) (ha50.q40) cw_X11_282 w_1361 w_1362 (Nat.le_of_ble_eq_true rfl) rfl (Nat.le_of_ble_eq_true rfl) (tbd tv_X11_remove rfl) (fun v51w f51 q51 => ?_) (fun _ _ h => h.elim)
      obtain ⟨rfl, ha51, fa51⟩ := q51
      refine G.eqs [.int (v51), .int (v50), .ref (gAd E (40))] rfl ?_
      obtain ⟨A52, D52, hv52, hr⟩ := bnd2_s hr
      refine G.callV (40) [.int (v50), .int (v51)] [] (k_X4_wipe E _ N B gr C48 D48 A47 hz ha51 hD48 hA48 v50 v51 A52 D52 hv52) cls_X4 (by omega) (ha51.q40) cw_X11_302 w_1481 w_1482 (Nat.le_of_ble_eq_true rfl) rfl (Nat.le_of_ble_eq_true rfl) (tbd tv_X11_remove rfl) (fun v52w f52 q52 => ?_) (fun _ _ h => h.elim)
      obtain ⟨rfl, C52, ha52, hD52, hA52, fa52⟩ := q52
      refine G.eqs [] rfl ?_
      refine G.go tv_X11_remove 1 86 [(0, .ref (gAd E (0))), (1, .int (v46)), (2, .int (v48)), (3, .int (v50))] [.ref (gAd E (0))] rfl ?_
      refine G.getf cls_X11 (0) 8 (by omega) (ha52.q0) (by decide) rfl (tbd tv_X11_remove rfl) w_571 ?_
      refine G.go tv_X11_remove 1 90 [(0, .ref (gAd E (0))), (1, .int (v46)), (2, .int (v48)), (3, .int (v50))] [.int (v48), .ref (gAd E (37))] rfl ?_
      obtain ⟨A53, D53, hv53, hr⟩ := bnd2_s hr
      refine G.callV (37) [.int (v48)] [] (k_X7_loseName E _ N B gr C52 D52 A52 hz ha52 hD52 hA52 v48 A53 D53 hv53) cls_X7 (by omega) (ha52.q37) cw_X11_306 w_1486 w_1487 (Nat.le_of_ble_eq_true rfl) rfl (Nat.le_of_ble_eq_true rfl) (tbd tv_X11_remove rfl) (fun v53w f53 q53 => ?_) (fun _ _ h => h.elim)
      obtain ⟨rfl, C53, ha53, hD53, hA53, fa53⟩ := q53
      refine G.eqs [] rfl ?_
      refine G.go tv_X11_remove 1 94 [(0, .ref (gAd E (0))), (1, .int (v46)), (2, .int (v48)), (3, .int (v50))] [.ref (gAd E (0))] rfl ?_
      refine G.getf cls_X11 (0) 7 (by omega) (ha53.q0) (by decide) rfl (tbd tv_X11_remove rfl) w_570 ?_
      rcases bndF_s hr with ⟨v54, A54, D54, hv54, hr⟩ | ⟨ex54, A54, D54, hv54, rfl⟩
      rotate_left
      · skip
        refine G.callV (25) [] [] (k_X10_finish E _ N B gr C53 D53 A53 hz ha53 hD53 hA53 _ hv54) cls_X10 (by omega) (ha53.q25) cw_X11_244 w_1247 w_1248 (Nat.le_of_ble_eq_true rfl) rfl (Nat.le_of_ble_eq_true rfl) (tbd tv_X11_remove rfl) (fun v54w f54 q54 => ?_) (fun X g q => FQ.fr q ((((((((Fr.rf.tr fa46 (fun _ h => h)).tr fa47 (fun _ h => h)).tr fa48 (fun _ h => h)).tr fa49 (fun _ h => h)).tr fa50 (fun _ h => h)).tr fa51 (fun _ h => h)).tr fa52 (fun _ h => h)).tr fa53 (fun _ h => h)))
        exact q54.elim
      refine G.callV (25) [] [] (k_X10_finish E _ N B gr C53 D53 A53 hz ha53 hD53 hA53 _ hv54) cls_X10 (by omega) (ha53.q25) cw_X11_244 w_1247 w_1248 (Nat.le_of_ble_eq_true rfl) rfl (Nat.le_of_ble_eq_true rfl) (tbd tv_X11_remove rfl) (fun v54w f54 q54 => ?_) (fun _ _ h => h.elim)
      obtain ⟨rfl, C54, ha54, hD54, hA54, fa54⟩ := q54
      refine G.eqs [] rfl ?_
      refine G.go tv_X11_remove 1 101 [(0, .ref (gAd E (0))), (1, .int (v46)), (2, .int (v48)), (3, .int (v50))] [.int ((0 : Int32))] rfl ?_
      cases hr
      exact G.iret rfl rfl (FQ.ok rfl ⟨C54, ha54, hD54, hA54, (((((((((Fr.rf.tr fa46 (fun _ h => h)).tr fa47 (fun _ h => h)).tr fa48 (fun _ h => h)).tr fa49 (fun _ h => h)).tr fa50 (fun _ h => h)).tr fa51 (fun _ h => h)).tr fa52 (fun _ h => h)).tr fa53 (fun _ h => h)).tr fa54 (fun _ h => h))⟩) (tbd tv_X11_remove rfl)
    · replace hr := ite_f c29 hr
      refine G.go tv_X11_remove 1 34 [(0, .ref (gAd E (0))), (1, .int (v46)), (2, .int (v48))] [.int ((-5 : Int32))] rfl ?_
      cases hr
      exact G.iret rfl rfl (FQ.ok rfl ⟨C48, ha49, hD48, hA48, ((((Fr.rf.tr fa46 (fun _ h => h)).tr fa47 (fun _ h => h)).tr fa48 (fun _ h => h)).tr fa49 (fun _ h => h))⟩) (tbd tv_X11_remove rfl)
  · replace hr := ite_f c16 hr
    refine G.go tv_X11_remove 1 20 [(0, .ref (gAd E (0))), (1, .int (v46)), (2, .int (v48))] [.int (v48)] rfl ?_
    cases hr
    exact G.iret rfl rfl (FQ.ok rfl ⟨C48, ha48, hD48, hA48, (((Fr.rf.tr fa46 (fun _ h => h)).tr fa47 (fun _ h => h)).tr fa48 (fun _ h => h))⟩) (tbd tv_X11_remove rfl)
theorem w_1502 : Cond.methodLink "LedgerFiles" 312 yX8_isBelow ∈ TB := tp_6 156 (by decide +kernel) rfl
theorem w_1505 : Cond.code yX8_isBelow prog_10_method_5_code 5 (some .boolean) ∈ TB := tp_6 159 rfl rfl
theorem cw_X11_312 : Cw RX11 312 yX8_isBelow cX8_isBelow 5 (some .boolean) 2 := ⟨w_1502, w_1505, w_148, by decide +kernel, by decide +kernel, by decide⟩
theorem w_1503 : Cond.instanceMethod yX8_isBelow ∈ TB := tp_6 157 (by decide +kernel) rfl
theorem w_1504 : Cond.selects "LedgerFiles$Path" yX8_isBelow yX8_isBelow ∈ TB := tp_6 158 (by decide +kernel) rfl
theorem w_1506 : Cond.methodLink "LedgerFiles" 316 yX4_inodeAt ∈ TB := tp_6 160 (by decide +kernel) rfl
theorem cw_X11_316 : Cw RX11 316 yX4_inodeAt cX4_inodeAt 3 (some .int) 2 := ⟨w_1506, w_1382, w_158, by decide +kernel, by decide +kernel, by decide⟩
theorem w_1507 : Cond.methodLink "LedgerFiles" 319 yX11_faultOfReplacing ∈ TB := tp_6 161 (by decide +kernel) rfl
theorem w_1510 : Cond.code yX11_faultOfReplacing prog_1_method_21_code 5 (some .int) ∈ TB := tp_6 164 rfl rfl
theorem cw_X11_319 : Cw RX11 319 yX11_faultOfReplacing cX11_faultOfReplacing 5 (some .int) 2 := ⟨w_1507, w_1510, w_147, by decide +kernel, by decide +kernel, by decide⟩
theorem w_1509 : Cond.instanceMethod yX11_faultOfReplacing ∈ TB := tp_6 163 (by decide +kernel) rfl
theorem w_37 : Cond.selects "LedgerFiles" yX11_faultOfReplacing yX11_faultOfReplacing ∈ TB := tp_0 37 (by decide +kernel) rfl
theorem w_1511 : Cond.methodLink "LedgerFiles" 322 yX4_point ∈ TB := tp_6 165 (by decide +kernel) rfl
theorem w_1514 : Cond.code yX4_point prog_6_method_17_code 4 none ∈ TB := tp_6 168 rfl rfl
theorem cw_X11_322 : Cw RX11 322 yX4_point cX4_point 4 none 3 := ⟨w_1511, w_1514, w_158, by decide +kernel, by decide +kernel, by decide⟩
theorem w_1512 : Cond.instanceMethod yX4_point ∈ TB := tp_6 166 (by decide +kernel) rfl
theorem w_1513 : Cond.selects "LedgerFiles$Folders" yX4_point yX4_point ∈ TB := tp_6 167 (by decide +kernel) rfl
noncomputable def d_X11_rename_279 (N B gr : Nat) (A : MS) (D : CfT) (x2 : Int32) (x3 : Int32) (x4 : Int32) (x5 : Int32) (x6 : Int32) (x7 : Int32) (x8 : Int32) : Option (FR Int32) := if x7 = x2 then some (.inl (x8, A, D)) else if 0 ≤ x8 then bnd2 (d_X4_point N A D x3 x6 x2) (fun A68 D68 => bnd2 (d_X4_wipe N A68 D68 x4 x5) (fun A69 D69 => bnd2 (d_X7_loseName N A69 D69 x7) (fun A70 D70 => bndF (d_X10_finish N B gr A70 D70) (fun v71 A71 D71 => some (.inl ((0 : Int32), A71, D71)))))) else some (.inl (x8, A, D))
noncomputable def d_X11_rename_215 (N B gr : Nat) (A : MS) (D : CfT) (x2 : Int32) (x3 : Int32) (x4 : Int32) (x5 : Int32) : Option (FR Int32) := bnd2 (d_X4_wipe N A D x4 x5) (fun A72 D72 => bndF (d_X4_addName_50 N B gr A72 D72 x3 x2) (fun v73 A73 D73 => bndF (d_X10_finish N B gr A73 D73) (fun v74 A74 D74 => some (.inl ((0 : Int32), A74, D74)))))
noncomputable def d_X11_rename (N B gr : Nat) (A : MS) (D : CfT) : Option (FR Int32) := bnd2 (d_X11_useTape N (vA A) D) (fun v55 D55 => bndF (d_X11_needMounted N B gr A D55) (fun v56 A56 D56 => bnd2 (d_X11_splitTape N (vA A56) D56 v55) (fun v57 D57 => if v57 = 0 then some (.inl ((-6 : Int32), A56, D57)) else bnd (d_X4_walk_47 N (vA A56) D57 (cS D57 4702)) (fun v58 => if 0 ≤ v58 then if (cS D57 4702) = 0 then some (.inl ((-9 : Int32), A56, D57)) else if (cS D57 5002) = 0 then some (.inl ((-9 : Int32), A56, D57)) else bnd (d_X8_isBelow_50 N (vA A56) D57) (fun v59 => if v59 = 0 then bnd (d_X4_walk_50 N (vA A56) D57 ((cS D57 5002) - ((1 : Int32)))) (fun v60 => if 0 ≤ v60 then bnd (d_X4_walk_47 N (vA A56) D57 ((cS D57 4702) - ((1 : Int32)))) (fun v61 => bnd (d_X4_slotOf_47 N (vA A56) D57 v61 ((cS D57 4702) - ((1 : Int32)))) (fun v62 => bnd (d_X4_slotOf_50 N (vA A56) D57 v60 ((cS D57 5002) - ((1 : Int32)))) (fun v63 => if v63 = ((-1 : Int32)) then if v60 = v61 then d_X11_rename_215 N B gr A56 D57 v58 v60 v61 v62 else bnd (d_X4_wants N (vA A56) D57 v60) (fun v66 => bnd (d_X10_available N (vA A56) A56.2.2.2.2.1 D57) (fun v67 => if v66 ≤ v67 then d_X11_rename_215 N B gr A56 D57 v58 v60 v61 v62 else some (.inl ((-7 : Int32), A56, D57)))) else bnd (d_X4_inodeAt N (vA A56) D57 v60 v63) (fun v64 => if v64 = v58 then d_X11_rename_279 N B gr A56 D57 v58 v60 v61 v62 v63 v64 ((0 : Int32)) else bnd (d_X11_faultOfReplacing N (vA A56) D57 v58 v64) (fun v65 => d_X11_rename_279 N B gr A56 D57 v58 v60 v61 v62 v63 v64 v65))))) else some (.inl (v60, A56, D57))) else some (.inl ((-9 : Int32), A56, D57))) else some (.inl (v58, A56, D57))))))
set_option maxRecDepth 100000 in
set_option maxHeartbeats 4000000 in
theorem l_X11_rename_279 (E : gE) (f0 : Nat → va_E) (sz : Nat) (QA : Nat → Prop) (N B gr : Nat) (C0 : CfT) (hz : CfZ E N B gr) : ∀ (A : MS) (D : CfT) (x2 : Int32) (x3 : Int32) (x4 : Int32) (x5 : Int32) (x6 : Int32) (x7 : Int32) (x8 : Int32) (r : FR Int32) (hr : d_X11_rename_279 N B gr A D x2 x3 x4 x5 x6 x7 x8 = some r) (f : Nat → va_E) (C : CfT) (h : CfV E f N B gr C) (hD : Dq D C) (hA : AR N B gr A C) (hf : Fr CfK f0 f), G E (13, yX11_rename, 9, (some .int), sz, QA) cX11_rename (gO E (13, yX11_rename, 9, (some .int), sz, QA) (FQ E N B gr f0 (fun r => some (.int r)) r)) 279 [(0, .ref (gAd E (0))), (2, .int (x2)), (3, .int (x3)), (4, .int (x4)), (5, .int (x5)), (6, .int (x6)), (7, .int (x7)), (8, .int (x8))] [] f := by
  obtain ⟨z1, z2, z3, z4, z5, z6, z7⟩ := id hz
  intro A D x2 x3 x4 x5 x6 x7 x8 r hr f C h hD hA hf
  unfold d_X11_rename_279 at hr
  refine G.go tv_X11_rename 2 282 [(0, .ref (gAd E (0))), (2, .int (x2)), (3, .int (x3)), (4, .int (x4)), (5, .int (x5)), (6, .int (x6)), (7, .int (x7)), (8, .int (x8))] [.int (x2), .int (x7)] rfl ?_
  refine G.cmp_eq 290 (tbd tv_X11_rename rfl) (by decide) (fun c282 => ?_) (fun c282 => ?_)
  · replace hr := ite_t c282 hr
    refine G.go tv_X11_rename 1 292 [(0, .ref (gAd E (0))), (2, .int (x2)), (3, .int (x3)), (4, .int (x4)), (5, .int (x5)), (6, .int (x6)), (7, .int (x7)), (8, .int (x8))] [.int (x8)] rfl ?_
    cases hr
    exact G.iret rfl rfl (FQ.ok rfl ⟨C, h, hD, hA, hf⟩) (tbd tv_X11_rename rfl)
  · replace hr := ite_f c282 hr
    refine G.go tv_X11_rename 1 287 [(0, .ref (gAd E (0))), (2, .int (x2)), (3, .int (x3)), (4, .int (x4)), (5, .int (x5)), (6, .int (x6)), (7, .int (x7)), (8, .int (x8))] [.int (x8)] rfl ?_
    refine G.if_ge 293 (tbd tv_X11_rename rfl) (by decide) (fun c287 => ?_) (fun c287 => ?_)
    · replace hr := ite_t c287 hr
      refine G.go tv_X11_rename 1 294 [(0, .ref (gAd E (0))), (2, .int (x2)), (3, .int (x3)), (4, .int (x4)), (5, .int (x5)), (6, .int (x6)), (7, .int (x7)), (8, .int (x8))] [.ref (gAd E (0))] rfl ?_
      refine G.getf cls_X11 (0) 10 (by omega) (h.q0) (by decide) rfl (tbd tv_X11_rename rfl) w_573 ?_
      refine G.go tv_X11_rename 3 301 [(0, .ref (gAd E (0))), (2, .int (x2)), (3, .int (x3)), (4, .int (x4)), (5, .int (x5)), (6, .int (x6)), (7, .int (x7)), (8, .int (x8))] [.int (x2), .int (x6), .int (x3), .ref (gAd E (40))] rfl ?_
      obtain ⟨A68, D68, hv68, hr⟩ := bnd2_s hr
      refine G.callV (40) [.int (x3), .int (x6), .int (x2)] [] (k_X4_point E _ N B gr C D A hz h hD hA x3 x6 x2 A68 D68 hv68) cls_X4 (by omega) (h.q40) cw_X11_322 w_1512 w_1513 (Nat.le_of_ble_eq_true rfl) rfl (Nat.le_of_ble_eq_true rfl) (tbd tv_X11_rename rfl) (fun v68w f68 q68 => ?_) (fun _ _ h => h.elim)
      obtain ⟨rfl, C68, ha68, hD68, hA68, fa68⟩ := q68
      refine G.eqs [] rfl ?_
      refine G.go tv_X11_rename 1 305 [(0, .ref (gAd E (0))), (2, .int (x2)), (3, .int (x3)), (4, .int (x4)), (5, .int (x5)), (6, .int (x6)), (7, .int (x7)), (8, .int (x8))] [.ref (gAd E (0))] rfl ?_
      refine G.getf cls_X11 (0) 10 (by omega) (ha68.q0) (by decide) rfl (tbd tv_X11_rename rfl) w_573 ?_
      refine G.go tv_X11_rename 2 312 [(0, .ref (gAd E (0))), (2, .int (x2)), (3, .int (x3)), (4, .int (x4)), (5, .int (x5)), (6, .int (x6)), (7, .int (x7)), (8, .int (x8))] [.int (x5), .int (x4), .ref (gAd E (40))] rfl ?_
      obtain ⟨A69, D69, hv69, hr⟩ := bnd2_s hr
      refine G.callV (40) [.int (x4), .int (x5)] [] (k_X4_wipe E _ N B gr C68 D68 A68 hz ha68 hD68 hA68 x4 x5 A69 D69 hv69) cls_X4 (by omega) (ha68.q40) cw_X11_302 w_1481 w_1482 (Nat.le_of_ble_eq_true rfl) rfl (Nat.le_of_ble_eq_true rfl) (tbd tv_X11_rename rfl) (fun v69w f69 q69 => ?_) (fun _ _ h => h.elim)
      obtain ⟨rfl, C69, ha69, hD69, hA69, fa69⟩ := q69
      refine G.eqs [] rfl ?_
      refine G.go tv_X11_rename 1 316 [(0, .ref (gAd E (0))), (2, .int (x2)), (3, .int (x3)), (4, .int (x4)), (5, .int (x5)), (6, .int (x6)), (7, .int (x7)), (8, .int (x8))] [.ref (gAd E (0))] rfl ?_
      refine G.getf cls_X11 (0) 8 (by omega) (ha69.q0) (by decide) rfl (tbd tv_X11_rename rfl) w_571 ?_
      refine G.go tv_X11_rename 1 321 [(0, .ref (gAd E (0))), (2, .int (x2)), (3, .int (x3)), (4, .int (x4)), (5, .int (x5)), (6, .int (x6)), (7, .int (x7)), (8, .int (x8))] [.int (x7), .ref (gAd E (37))] rfl ?_
      obtain ⟨A70, D70, hv70, hr⟩ := bnd2_s hr
      refine G.callV (37) [.int (x7)] [] (k_X7_loseName E _ N B gr C69 D69 A69 hz ha69 hD69 hA69 x7 A70 D70 hv70) cls_X7 (by omega) (ha69.q37) cw_X11_306 w_1486 w_1487 (Nat.le_of_ble_eq_true rfl) rfl (Nat.le_of_ble_eq_true rfl) (tbd tv_X11_rename rfl) (fun v70w f70 q70 => ?_) (fun _ _ h => h.elim)
      obtain ⟨rfl, C70, ha70, hD70, hA70, fa70⟩ := q70
      refine G.eqs [] rfl ?_
      refine G.go tv_X11_rename 1 325 [(0, .ref (gAd E (0))), (2, .int (x2)), (3, .int (x3)), (4, .int (x4)), (5, .int (x5)), (6, .int (x6)), (7, .int (x7)), (8, .int (x8))] [.ref (gAd E (0))] rfl ?_
      refine G.getf cls_X11 (0) 7 (by omega) (ha70.q0) (by decide) rfl (tbd tv_X11_rename rfl) w_570 ?_
      rcases bndF_s hr with ⟨v71, A71, D71, hv71, hr⟩ | ⟨ex71, A71, D71, hv71, rfl⟩
      rotate_left
      · skip
        refine G.callV (25) [] [] (k_X10_finish E _ N B gr C70 D70 A70 hz ha70 hD70 hA70 _ hv71) cls_X10 (by omega) (ha70.q25) cw_X11_244 w_1247 w_1248 (Nat.le_of_ble_eq_true rfl) rfl (Nat.le_of_ble_eq_true rfl) (tbd tv_X11_rename rfl) (fun v71w f71 q71 => ?_) (fun X g q => FQ.fr q (((hf.tr fa68 (fun _ h => h)).tr fa69 (fun _ h => h)).tr fa70 (fun _ h => h)))
        exact q71.elim
      refine G.callV (25) [] [] (k_X10_finish E _ N B gr C70 D70 A70 hz ha70 hD70 hA70 _ hv71) cls_X10 (by omega) (ha70.q25) cw_X11_244 w_1247 w_1248 (Nat.le_of_ble_eq_true rfl) rfl (Nat.le_of_ble_eq_true rfl) (tbd tv_X11_rename rfl) (fun v71w f71 q71 => ?_) (fun _ _ h => h.elim)
      obtain ⟨rfl, C71, ha71, hD71, hA71, fa71⟩ := q71
      refine G.eqs [] rfl ?_
      refine G.go tv_X11_rename 1 332 [(0, .ref (gAd E (0))), (2, .int (x2)), (3, .int (x3)), (4, .int (x4)), (5, .int (x5)), (6, .int (x6)), (7, .int (x7)), (8, .int (x8))] [.int ((0 : Int32))] rfl ?_
      cases hr
      exact G.iret rfl rfl (FQ.ok rfl ⟨C71, ha71, hD71, hA71, ((((hf.tr fa68 (fun _ h => h)).tr fa69 (fun _ h => h)).tr fa70 (fun _ h => h)).tr fa71 (fun _ h => h))⟩) (tbd tv_X11_rename rfl)
    · replace hr := ite_f c287 hr
      refine G.go tv_X11_rename 1 292 [(0, .ref (gAd E (0))), (2, .int (x2)), (3, .int (x3)), (4, .int (x4)), (5, .int (x5)), (6, .int (x6)), (7, .int (x7)), (8, .int (x8))] [.int (x8)] rfl ?_
      cases hr
      exact G.iret rfl rfl (FQ.ok rfl ⟨C, h, hD, hA, hf⟩) (tbd tv_X11_rename rfl)
set_option maxRecDepth 100000 in
set_option maxHeartbeats 4000000 in
theorem l_X11_rename_215 (E : gE) (f0 : Nat → va_E) (sz : Nat) (QA : Nat → Prop) (N B gr : Nat) (C0 : CfT) (hz : CfZ E N B gr) : ∀ (A : MS) (D : CfT) (x2 : Int32) (x3 : Int32) (x4 : Int32) (x5 : Int32) (r : FR Int32) (hr : d_X11_rename_215 N B gr A D x2 x3 x4 x5 = some r) (f : Nat → va_E) (C : CfT) (h : CfV E f N B gr C) (hD : Dq D C) (hA : AR N B gr A C) (hf : Fr CfK f0 f), G E (13, yX11_rename, 9, (some .int), sz, QA) cX11_rename (gO E (13, yX11_rename, 9, (some .int), sz, QA) (FQ E N B gr f0 (fun r => some (.int r)) r)) 215 [(0, .ref (gAd E (0))), (2, .int (x2)), (3, .int (x3)), (4, .int (x4)), (5, .int (x5))] [] f := by
  obtain ⟨z1, z2, z3, z4, z5, z6, z7⟩ := id hz
  intro A D x2 x3 x4 x5 r hr f C h hD hA hf
  unfold d_X11_rename_215 at hr
  refine G.go tv_X11_rename 1 216 [(0, .ref (gAd E (0))), (2, .int (x2)), (3, .int (x3)), (4, .int (x4)), (5, .int (x5))] [.ref (gAd E (0))] rfl ?_
  refine G.getf cls_X11 (0) 10 (by omega) (h.q0) (by decide) rfl (tbd tv_X11_rename rfl) w_573 ?_
  refine G.go tv_X11_rename 2 223 [(0, .ref (gAd E (0))), (2, .int (x2)), (3, .int (x3)), (4, .int (x4)), (5, .int (x5))] [.int (x5), .int (x4), .ref (gAd E (40))] rfl ?_
  obtain ⟨A72, D72, hv72, hr⟩ := bnd2_s hr
  refine G.callV (40) [.int (x4), .int (x5)] [] (k_X4_wipe E _ N B gr C D A hz h hD hA x4 x5 A72 D72 hv72) cls_X4 (by omega) (h.q40) cw_X11_302 w_1481 w_1482 (Nat.le_of_ble_eq_true rfl) rfl (Nat.le_of_ble_eq_true rfl) (tbd tv_X11_rename rfl) (fun v72w f72 q72 => ?_) (fun _ _ h => h.elim)
  obtain ⟨rfl, C72, ha72, hD72, hA72, fa72⟩ := q72
  refine G.eqs [] rfl ?_
  refine G.go tv_X11_rename 1 227 [(0, .ref (gAd E (0))), (2, .int (x2)), (3, .int (x3)), (4, .int (x4)), (5, .int (x5))] [.ref (gAd E (0))] rfl ?_
  refine G.getf cls_X11 (0) 10 (by omega) (ha72.q0) (by decide) rfl (tbd tv_X11_rename rfl) w_573 ?_
  refine G.go tv_X11_rename 2 232 [(0, .ref (gAd E (0))), (2, .int (x2)), (3, .int (x3)), (4, .int (x4)), (5, .int (x5))] [.ref (gAd E (0)), .int (x3), .ref (gAd E (40))] rfl ?_
  refine G.getf cls_X11 (0) 14 (by omega) (ha72.q0) (by decide) rfl (tbd tv_X11_rename rfl) w_577 ?_
  refine G.go tv_X11_rename 1 236 [(0, .ref (gAd E (0))), (2, .int (x2)), (3, .int (x3)), (4, .int (x4)), (5, .int (x5))] [.int (x2), .ref (gAd E (50)), .int (x3), .ref (gAd E (40))] rfl ?_
  rcases bndF_s hr with ⟨v73, A73, D73, hv73, hr⟩ | ⟨ex73, A73, D73, hv73, rfl⟩
  rotate_left
  · skip
    refine G.callV (40) [.int (x3), .ref (gAd E (50)), .int (x2)] [] (k_X4_addName_50 E _ N B gr C72 D72 A72 hz ha72 hD72 hA72 x3 x2 _ hv73) cls_X4 (by omega) (ha72.q40) cw_X11_292 w_1436 w_1437 (Nat.le_of_ble_eq_true rfl) rfl (Nat.le_of_ble_eq_true rfl) (tbd tv_X11_rename rfl) (fun v73w f73 q73 => ?_) (fun X g q => FQ.fr q (hf.tr fa72 (fun _ h => h)))
    exact q73.elim
  refine G.callV (40) [.int (x3), .ref (gAd E (50)), .int (x2)] [] (k_X4_addName_50 E _ N B gr C72 D72 A72 hz ha72 hD72 hA72 x3 x2 _ hv73) cls_X4 (by omega) (ha72.q40) cw_X11_292 w_1436 w_1437 (Nat.le_of_ble_eq_true rfl) rfl (Nat.le_of_ble_eq_true rfl) (tbd tv_X11_rename rfl) (fun v73w f73 q73 => ?_) (fun _ _ h => h.elim)
  obtain ⟨rfl, C73, ha73, hD73, hA73, fa73⟩ := q73
  refine G.eqs [] rfl ?_
  refine G.go tv_X11_rename 1 240 [(0, .ref (gAd E (0))), (2, .int (x2)), (3, .int (x3)), (4, .int (x4)), (5, .int (x5))] [.ref (gAd E (0))] rfl ?_
  refine G.getf cls_X11 (0) 7 (by omega) (ha73.q0) (by decide) rfl (tbd tv_X11_rename rfl) w_570 ?_
  rcases bndF_s hr with ⟨v74, A74, D74, hv74, hr⟩ | ⟨ex74, A74, D74, hv74, rfl⟩
  rotate_left
  · skip
    refine G.callV (25) [] [] (k_X10_finish E _ N B gr C73 D73 A73 hz ha73 hD73 hA73 _ hv74) cls_X10 (by omega) (ha73.q25) cw_X11_244 w_1247 w_1248 (Nat.le_of_ble_eq_true rfl) rfl (Nat.le_of_ble_eq_true rfl) (tbd tv_X11_rename rfl) (fun v74w f74 q74 => ?_) (fun X g q => FQ.fr q ((hf.tr fa72 (fun _ h => h)).tr fa73 (fun _ h => h)))
    exact q74.elim
  refine G.callV (25) [] [] (k_X10_finish E _ N B gr C73 D73 A73 hz ha73 hD73 hA73 _ hv74) cls_X10 (by omega) (ha73.q25) cw_X11_244 w_1247 w_1248 (Nat.le_of_ble_eq_true rfl) rfl (Nat.le_of_ble_eq_true rfl) (tbd tv_X11_rename rfl) (fun v74w f74 q74 => ?_) (fun _ _ h => h.elim)
  obtain ⟨rfl, C74, ha74, hD74, hA74, fa74⟩ := q74
  refine G.eqs [] rfl ?_
  refine G.go tv_X11_rename 1 247 [(0, .ref (gAd E (0))), (2, .int (x2)), (3, .int (x3)), (4, .int (x4)), (5, .int (x5))] [.int ((0 : Int32))] rfl ?_
  cases hr
  exact G.iret rfl rfl (FQ.ok rfl ⟨C74, ha74, hD74, hA74, (((hf.tr fa72 (fun _ h => h)).tr fa73 (fun _ h => h)).tr fa74 (fun _ h => h))⟩) (tbd tv_X11_rename rfl)
set_option maxRecDepth 100000 in
set_option maxHeartbeats 4000000 in
theorem k_X11_rename (E : gE) (f : Nat → va_E) (N B gr : Nat) (C D : CfT) (A : MS) (hz : CfZ E N B gr) (h : CfV E f N B gr C) (hD : Dq D C) (hA : AR N B gr A C) (r : FR Int32) (hr : d_X11_rename N B gr A D = some r) : Ct E 13 yX11_rename cX11_rename 9 (some .int) [.ref (gAd E (0))] f (FQ E N B gr f (fun r => some (.int r)) r) := by
  obtain ⟨z1, z2, z3, z4, z5, z6, z7⟩ := id hz
  refine Ct.of (by decide) (Nat.le_of_ble_eq_true rfl) (fun sz => ?_)
  refine G.eql [(0, .ref (gAd E (0)))] rfl ?_
  unfold d_X11_rename at hr
  refine G.go tv_X11_rename 1 1 [(0, .ref (gAd E (0)))] [.ref (gAd E (0))] rfl ?_
  obtain ⟨v55, D55, hv55, hr⟩ := bnd2_s hr
  refine G.callV (0) [] [] (k_X11_useTape E _ N B gr C D A hz h hD hA v55 D55 hv55) cls_X11 (by omega) (h.q0) cw_X11_272 w_1343 w_29 (Nat.le_of_ble_eq_true rfl) rfl (Nat.le_of_ble_eq_true rfl) (tbd tv_X11_rename rfl) (fun v55w f55 q55 => ?_) (fun _ _ h => h.elim)
  obtain ⟨rfl, C55, ha55, hD55, hA55, hR55, fa55⟩ := q55
  refine G.eqs [.int (v55)] rfl ?_
  refine G.go tv_X11_rename 2 6 [(0, .ref (gAd E (0))), (1, .int (v55))] [.ref (gAd E (0))] rfl ?_
  rcases bndF_s hr with ⟨v56, A56, D56, hv56, hr⟩ | ⟨ex56, A56, D56, hv56, rfl⟩
  rotate_left
  · skip
    refine G.callV (0) [] [] (k_X11_needMounted E _ N B gr C55 D55 A hz ha55 hD55 hA55 _ hv56) cls_X11 (by omega) (ha55.q0) cw_X11_221 w_1320 w_27 (Nat.le_of_ble_eq_true rfl) rfl (Nat.le_of_ble_eq_true rfl) (tbd tv_X11_rename rfl) (fun v56w f56 q56 => ?_) (fun X g q => FQ.fr q (Fr.rf.tr fa55 (fun _ h => h)))
    exact q56.elim
  refine G.callV (0) [] [] (k_X11_needMounted E _ N B gr C55 D55 A hz ha55 hD55 hA55 _ hv56) cls_X11 (by omega) (ha55.q0) cw_X11_221 w_1320 w_27 (Nat.le_of_ble_eq_true rfl) rfl (Nat.le_of_ble_eq_true rfl) (tbd tv_X11_rename rfl) (fun v56w f56 q56 => ?_) (fun _ _ h => h.elim)
  obtain ⟨rfl, C56, ha56, hD56, hA56, fa56⟩ := q56
  refine G.eqs [] rfl ?_
  refine G.go tv_X11_rename 2 11 [(0, .ref (gAd E (0))), (1, .int (v55))] [.int (v55), .ref (gAd E (0))] rfl ?_
  obtain ⟨v57, D57, hv57, hr⟩ := bnd2_s hr
  refine G.callV (0) [.int (v55)] [] (k_X11_splitTape E _ N B gr C56 D56 A56 hz ha56 hD56 hA56 v55 v57 D57 hv57) cls_X11 (by omega) (ha56.q0) cw_X11_309 w_1500 w_36 (Nat.le_of_ble_eq_true rfl) rfl (Nat.le_of_ble_eq_true rfl) (tbd tv_X11_rename rfl) (fun v57w f57 q57 => ?_) (fun _ _ h => h.elim)
  obtain ⟨rfl, C57, ha57, hD57, hA57, hR57, fa57⟩ := q57
  refine G.eqs [.int (v57)] rfl ?_
  refine G.if_ne 20 (tbd tv_X11_rename rfl) (by decide) (fun c14 => ?_) (fun c14 => ?_)
  · replace hr := ite_f c14 hr
    refine G.go tv_X11_rename 1 21 [(0, .ref (gAd E (0))), (1, .int (v55))] [.ref (gAd E (0))] rfl ?_
    refine G.getf cls_X11 (0) 10 (by omega) (ha57.q0) (by decide) rfl (tbd tv_X11_rename rfl) w_573 ?_
    refine G.go tv_X11_rename 1 25 [(0, .ref (gAd E (0))), (1, .int (v55))] [.ref (gAd E (0)), .ref (gAd E (40))] rfl ?_
    refine G.getf cls_X11 (0) 13 (by omega) (ha57.q0) (by decide) rfl (tbd tv_X11_rename rfl) w_576 ?_
    refine G.go tv_X11_rename 1 29 [(0, .ref (gAd E (0))), (1, .int (v55))] [.ref (gAd E (0)), .ref (gAd E (47)), .ref (gAd E (40))] rfl ?_
    refine G.getf cls_X11 (0) 13 (by omega) (ha57.q0) (by decide) rfl (tbd tv_X11_rename rfl) w_576 ?_
    refine G.getf cls_X8 (47) 2 (by omega) (ha57.q47) (by decide) rfl (tbd tv_X11_rename rfl) w_198 ?_
    refine G.eq1 (b := cS D57 4702) (hD57.1 4702 (by decide)) ?_
    obtain ⟨v58, hv58, hr⟩ := bnd_s hr
    refine G.callV (40) [.ref (gAd E (47)), .int (cS D57 4702)] [] (k_X4_walk_47 E _ N B gr C57 D57 A56 hz ha57 hD57 hA57 (cS D57 4702) v58 hv58) cls_X4 (by omega) (ha57.q40) cw_X11_278 w_1356 w_1357 (Nat.le_of_ble_eq_true rfl) rfl (Nat.le_of_ble_eq_true rfl) (tbd tv_X11_rename rfl) (fun v58w f58 q58 => ?_) (fun _ _ h => h.elim)
    obtain ⟨rfl, ha58, fa58⟩ := q58
    refine G.eqs [.int (v58)] rfl ?_
    refine G.go tv_X11_rename 2 40 [(0, .ref (gAd E (0))), (1, .int (v55)), (2, .int (v58))] [.int (v58)] rfl ?_
    refine G.if_ge 45 (tbd tv_X11_rename rfl) (by decide) (fun c40 => ?_) (fun c40 => ?_)
    · replace hr := ite_t c40 hr
      refine G.go tv_X11_rename 1 46 [(0, .ref (gAd E (0))), (1, .int (v55)), (2, .int (v58))] [.ref (gAd E (0))] rfl ?_
      refine G.getf cls_X11 (0) 13 (by omega) (ha58.q0) (by decide) rfl (tbd tv_X11_rename rfl) w_576 ?_
      refine G.getf cls_X8 (47) 2 (by omega) (ha58.q47) (by decide) rfl (tbd tv_X11_rename rfl) w_198 ?_
      refine G.eq1 (b := cS D57 4702) (hD57.1 4702 (by decide)) ?_
      refine G.if_eq 83 (tbd tv_X11_rename rfl) (by decide) (fun c52 => ?_) (fun c52 => ?_)
      · replace hr := ite_t c52 hr
        refine G.go tv_X11_rename 1 85 [(0, .ref (gAd E (0))), (1, .int (v55)), (2, .int (v58))] [.int ((-9 : Int32))] rfl ?_
        cases hr
        exact G.iret rfl rfl (FQ.ok rfl ⟨C57, ha58, hD57, hA57, ((((Fr.rf.tr fa55 (fun _ h => h)).tr fa56 (fun _ h => h)).tr fa57 (fun _ h => h)).tr fa58 (fun _ h => h))⟩) (tbd tv_X11_rename rfl)
      · replace hr := ite_f c52 hr
        refine G.go tv_X11_rename 1 56 [(0, .ref (gAd E (0))), (1, .int (v55)), (2, .int (v58))] [.ref (gAd E (0))] rfl ?_
        refine G.getf cls_X11 (0) 14 (by omega) (ha58.q0) (by decide) rfl (tbd tv_X11_rename rfl) w_577 ?_
        refine G.getf cls_X8 (50) 2 (by omega) (ha58.q50) (by decide) rfl (tbd tv_X11_rename rfl) w_198 ?_
        refine G.eq1 (b := cS D57 5002) (hD57.1 5002 (by decide)) ?_
        refine G.if_eq 83 (tbd tv_X11_rename rfl) (by decide) (fun c62 => ?_) (fun c62 => ?_)
        · replace hr := ite_t c62 hr
          refine G.go tv_X11_rename 1 85 [(0, .ref (gAd E (0))), (1, .int (v55)), (2, .int (v58))] [.int ((-9 : Int32))] rfl ?_
          cases hr
          exact G.iret rfl rfl (FQ.ok rfl ⟨C57, ha58, hD57, hA57, ((((Fr.rf.tr fa55 (fun _ h => h)).tr fa56 (fun _ h => h)).tr fa57 (fun _ h => h)).tr fa58 (fun _ h => h))⟩) (tbd tv_X11_rename rfl)
        · replace hr := ite_f c62 hr
          refine G.go tv_X11_rename 1 66 [(0, .ref (gAd E (0))), (1, .int (v55)), (2, .int (v58))] [.ref (gAd E (0))] rfl ?_
          refine G.getf cls_X11 (0) 14 (by omega) (ha58.q0) (by decide) rfl (tbd tv_X11_rename rfl) w_577 ?_
          refine G.go tv_X11_rename 1 70 [(0, .ref (gAd E (0))), (1, .int (v55)), (2, .int (v58))] [.ref (gAd E (0)), .ref (gAd E (50))] rfl ?_
          refine G.getf cls_X11 (0) 13 (by omega) (ha58.q0) (by decide) rfl (tbd tv_X11_rename rfl) w_576 ?_
          refine G.go tv_X11_rename 1 74 [(0, .ref (gAd E (0))), (1, .int (v55)), (2, .int (v58))] [.ref (gAd E (0)), .ref (gAd E (47)), .ref (gAd E (50))] rfl ?_
          refine G.getf cls_X11 (0) 0 (by omega) (ha58.q0) (by decide) rfl (tbd tv_X11_rename rfl) w_563 ?_
          obtain ⟨v59, hv59, hr⟩ := bnd_s hr
          refine G.callV (50) [.ref (gAd E (47)), .ref (gAd E (1))] [] (k_X8_isBelow_50 E _ N B gr C57 D57 A56 hz ha58 hD57 hA57 v59 hv59) cls_X8 (by omega) (ha58.q50) cw_X11_312 w_1503 w_1504 (Nat.le_of_ble_eq_true rfl) rfl (Nat.le_of_ble_eq_true rfl) (tbd tv_X11_rename rfl) (fun v59w f59 q59 => ?_) (fun _ _ h => h.elim)
          obtain ⟨rfl, ha59, fa59⟩ := q59
          refine G.eqs [.int (v59)] rfl ?_
          refine G.if_eq 86 (tbd tv_X11_rename rfl) (by decide) (fun c80 => ?_) (fun c80 => ?_)
          · replace hr := ite_t c80 hr
            refine G.go tv_X11_rename 1 87 [(0, .ref (gAd E (0))), (1, .int (v55)), (2, .int (v58))] [.ref (gAd E (0))] rfl ?_
            refine G.getf cls_X11 (0) 10 (by omega) (ha59.q0) (by decide) rfl (tbd tv_X11_rename rfl) w_573 ?_
            refine G.go tv_X11_rename 1 91 [(0, .ref (gAd E (0))), (1, .int (v55)), (2, .int (v58))] [.ref (gAd E (0)), .ref (gAd E (40))] rfl ?_
            refine G.getf cls_X11 (0) 14 (by omega) (ha59.q0) (by decide) rfl (tbd tv_X11_rename rfl) w_577 ?_
            refine G.go tv_X11_rename 1 95 [(0, .ref (gAd E (0))), (1, .int (v55)), (2, .int (v58))] [.ref (gAd E (0)), .ref (gAd E (50)), .ref (gAd E (40))] rfl ?_
            refine G.getf cls_X11 (0) 14 (by omega) (ha59.q0) (by decide) rfl (tbd tv_X11_rename rfl) w_577 ?_
            refine G.getf cls_X8 (50) 2 (by omega) (ha59.q50) (by decide) rfl (tbd tv_X11_rename rfl) w_198 ?_
            refine G.eq1 (b := cS D57 5002) (hD57.1 5002 (by decide)) ?_
            refine G.go tv_X11_rename 2 103 [(0, .ref (gAd E (0))), (1, .int (v55)), (2, .int (v58))] [.int ((cS D57 5002) - ((1 : Int32))), .ref (gAd E (50)), .ref (gAd E (40))] rfl ?_
            obtain ⟨v60, hv60, hr⟩ := bnd_s hr
            refine G.callV (40) [.ref (gAd E (50)), .int ((cS D57 5002) - ((1 : Int32)))] [] (k_X4_walk_50 E _ N B gr C57 D57 A56 hz ha59 hD57 hA57 ((cS D57 5002) - ((1 : Int32))) v60 hv60) cls_X4 (by omega) (ha59.q40) cw_X11_278 w_1356 w_1357 (Nat.le_of_ble_eq_true rfl) rfl (Nat.le_of_ble_eq_true rfl) (tbd tv_X11_rename rfl) (fun v60w f60 q60 => ?_) (fun _ _ h => h.elim)
            obtain ⟨rfl, ha60, fa60⟩ := q60
            refine G.eqs [.int (v60)] rfl ?_
            refine G.go tv_X11_rename 2 108 [(0, .ref (gAd E (0))), (1, .int (v55)), (2, .int (v58)), (3, .int (v60))] [.int (v60)] rfl ?_
            refine G.if_ge 113 (tbd tv_X11_rename rfl) (by decide) (fun c108 => ?_) (fun c108 => ?_)
            · replace hr := ite_t c108 hr
              refine G.go tv_X11_rename 1 114 [(0, .ref (gAd E (0))), (1, .int (v55)), (2, .int (v58)), (3, .int (v60))] [.ref (gAd E (0))] rfl ?_
              refine G.getf cls_X11 (0) 10 (by omega) (ha60.q0) (by decide) rfl (tbd tv_X11_rename rfl) w_573 ?_
              refine G.go tv_X11_rename 1 118 [(0, .ref (gAd E (0))), (1, .int (v55)), (2, .int (v58)), (3, .int (v60))] [.ref (gAd E (0)), .ref (gAd E (40))] rfl ?_
              refine G.getf cls_X11 (0) 13 (by omega) (ha60.q0) (by decide) rfl (tbd tv_X11_rename rfl) w_576 ?_
              refine G.go tv_X11_rename 1 122 [(0, .ref (gAd E (0))), (1, .int (v55)), (2, .int (v58)), (3, .int (v60))] [.ref (gAd E (0)), .ref (gAd E (47)), .ref (gAd E (40))] rfl ?_
              refine G.getf cls_X11 (0) 13 (by omega) (ha60.q0) (by decide) rfl (tbd tv_X11_rename rfl) w_576 ?_
              refine G.getf cls_X8 (47) 2 (by omega) (ha60.q47) (by decide) rfl (tbd tv_X11_rename rfl) w_198 ?_
              refine G.eq1 (b := cS D57 4702) (hD57.1 4702 (by decide)) ?_
              refine G.go tv_X11_rename 2 130 [(0, .ref (gAd E (0))), (1, .int (v55)), (2, .int (v58)), (3, .int (v60))] [.int ((cS D57 4702) - ((1 : Int32))), .ref (gAd E (47)), .ref (gAd E (40))] rfl ?_
              obtain ⟨v61, hv61, hr⟩ := bnd_s hr
              refine G.callV (40) [.ref (gAd E (47)), .int ((cS D57 4702) - ((1 : Int32)))] [] (k_X4_walk_47 E _ N B gr C57 D57 A56 hz ha60 hD57 hA57 ((cS D57 4702) - ((1 : Int32))) v61 hv61) cls_X4 (by omega) (ha60.q40) cw_X11_278 w_1356 w_1357 (Nat.le_of_ble_eq_true rfl) rfl (Nat.le_of_ble_eq_true rfl) (tbd tv_X11_rename rfl) (fun v61w f61 q61 => ?_) (fun _ _ h => h.elim)
              obtain ⟨rfl, ha61, fa61⟩ := q61
              refine G.eqs [.int (v61)] rfl ?_
              refine G.go tv_X11_rename 2 136 [(0, .ref (gAd E (0))), (1, .int (v55)), (2, .int (v58)), (3, .int (v60)), (4, .int (v61))] [.ref (gAd E (0))] rfl ?_
              refine G.getf cls_X11 (0) 10 (by omega) (ha61.q0) (by decide) rfl (tbd tv_X11_rename rfl) w_573 ?_
              refine G.go tv_X11_rename 2 142 [(0, .ref (gAd E (0))), (1, .int (v55)), (2, .int (v58)), (3, .int (v60)), (4, .int (v61))] [.ref (gAd E (0)), .int (v61), .ref (gAd E (40))] rfl ?_
              refine G.getf cls_X11 (0) 13 (by omega) (ha61.q0) (by decide) rfl (tbd tv_X11_rename rfl) w_576 ?_
              refine G.go tv_X11_rename 1 146 [(0, .ref (gAd E (0))), (1, .int (v55)), (2, .int (v58)), (3, .int (v60)), (4, .int (v61))] [.ref (gAd E (0)), .ref (gAd E (47)), .int (v61), .ref (gAd E (40))] rfl ?_
              refine G.getf cls_X11 (0) 13 (by omega) (ha61.q0) (by decide) rfl (tbd tv_X11_rename rfl) w_576 ?_
              refine G.getf cls_X8 (47) 2 (by omega) (ha61.q47) (by decide) rfl (tbd tv_X11_rename rfl) w_198 ?_
              refine G.eq1 (b := cS D57 4702) (hD57.1 4702 (by decide)) ?_
              refine G.go tv_X11_rename 2 154 [(0, .ref (gAd E (0))), (1, .int (v55)), (2, .int (v58)), (3, .int (v60)), (4, .int (v61))] [.int ((cS D57 4702) - ((1 : Int32))), .ref (gAd E (47)), .int (v61), .ref (gAd E (40))] rfl ?_
              obtain ⟨v62, hv62, hr⟩ := bnd_s hr
              refine G.callV (40) [.int (v61), .ref (gAd E (47)), .int ((cS D57 4702) - ((1 : Int32)))] [] (k_X4_slotOf_47 E _ N B gr C57 D57 A56 hz ha61 hD57 hA57 v61 ((cS D57 4702) - ((1 : Int32))) v62 hv62) cls_X4 (by omega) (ha61.q40) cw_X11_282 w_1361 w_1362 (Nat.le_of_ble_eq_true rfl) rfl (Nat.le_of_ble_eq_true rfl) (tbd tv_X11_rename rfl) (fun v62w f62 q62 => ?_) (fun _ _ h => h.elim)
              obtain ⟨rfl, ha62, fa62⟩ := q62
              refine G.eqs [.int (v62)] rfl ?_
              refine G.go tv_X11_rename 2 160 [(0, .ref (gAd E (0))), (1, .int (v55)), (2, .int (v58)), (3, .int (v60)), (4, .int (v61)), (5, .int (v62))] [.ref (gAd E (0))] rfl ?_
              refine G.getf cls_X11 (0) 10 (by omega) (ha62.q0) (by decide) rfl (tbd tv_X11_rename rfl) w_573 ?_
              refine G.go tv_X11_rename 2 165 [(0, .ref (gAd E (0))), (1, .int (v55)), (2, .int (v58)), (3, .int (v60)), (4, .int (v61)), (5, .int (v62))] [.ref (gAd E (0)), .int (v60), .ref (gAd E (40))] rfl ?_
              refine G.getf cls_X11 (0) 14 (by omega) (ha62.q0) (by decide) rfl (tbd tv_X11_rename rfl) w_577 ?_
              refine G.go tv_X11_rename 1 169 [(0, .ref (gAd E (0))), (1, .int (v55)), (2, .int (v58)), (3, .int (v60)), (4, .int (v61)), (5, .int (v62))] [.ref (gAd E (0)), .ref (gAd E (50)), .int (v60), .ref (gAd E (40))] rfl ?_
              refine G.getf cls_X11 (0) 14 (by omega) (ha62.q0) (by decide) rfl (tbd tv_X11_rename rfl) w_577 ?_
              refine G.getf cls_X8 (50) 2 (by omega) (ha62.q50) (by decide) rfl (tbd tv_X11_rename rfl) w_198 ?_
              refine G.eq1 (b := cS D57 5002) (hD57.1 5002 (by decide)) ?_
              refine G.go tv_X11_rename 2 177 [(0, .ref (gAd E (0))), (1, .int (v55)), (2, .int (v58)), (3, .int (v60)), (4, .int (v61)), (5, .int (v62))] [.int ((cS D57 5002) - ((1 : Int32))), .ref (gAd E (50)), .int (v60), .ref (gAd E (40))] rfl ?_
              obtain ⟨v63, hv63, hr⟩ := bnd_s hr
              refine G.callV (40) [.int (v60), .ref (gAd E (50)), .int ((cS D57 5002) - ((1 : Int32)))] [] (k_X4_slotOf_50 E _ N B gr C57 D57 A56 hz ha62 hD57 hA57 v60 ((cS D57 5002) - ((1 : Int32))) v63 hv63) cls_X4 (by omega) (ha62.q40) cw_X11_282 w_1361 w_1362 (Nat.le_of_ble_eq_true rfl) rfl (Nat.le_of_ble_eq_true rfl) (tbd tv_X11_rename rfl) (fun v63w f63 q63 => ?_) (fun _ _ h => h.elim)
              obtain ⟨rfl, ha63, fa63⟩ := q63
              refine G.eqs [.int (v63)] rfl ?_
              refine G.go tv_X11_rename 3 185 [(0, .ref (gAd E (0))), (1, .int (v55)), (2, .int (v58)), (3, .int (v60)), (4, .int (v61)), (5, .int (v62)), (6, .int (v63))] [.int ((-1 : Int32)), .int (v63)] rfl ?_
              refine G.cmp_ne 248 (tbd tv_X11_rename rfl) (by decide) (fun c185 => ?_) (fun c185 => ?_)
              · replace hr := ite_f c185 hr
                refine G.go tv_X11_rename 1 249 [(0, .ref (gAd E (0))), (1, .int (v55)), (2, .int (v58)), (3, .int (v60)), (4, .int (v61)), (5, .int (v62)), (6, .int (v63))] [.ref (gAd E (0))] rfl ?_
                refine G.getf cls_X11 (0) 10 (by omega) (ha63.q0) (by decide) rfl (tbd tv_X11_rename rfl) w_573 ?_
                refine G.go tv_X11_rename 2 255 [(0, .ref (gAd E (0))), (1, .int (v55)), (2, .int (v58)), (3, .int (v60)), (4, .int (v61)), (5, .int (v62)), (6, .int (v63))] [.int (v63), .int (v60), .ref (gAd E (40))] rfl ?_
                obtain ⟨v64, hv64, hr⟩ := bnd_s hr
                refine G.callV (40) [.int (v60), .int (v63)] [] (k_X4_inodeAt E _ N B gr C57 D57 A56 hz ha63 hD57 hA57 v60 v63 v64 hv64) cls_X4 (by omega) (ha63.q40) cw_X11_316 w_1380 w_1381 (Nat.le_of_ble_eq_true rfl) rfl (Nat.le_of_ble_eq_true rfl) (tbd tv_X11_rename rfl) (fun v64w f64 q64 => ?_) (fun _ _ h => h.elim)
                obtain ⟨rfl, ha64, fa64⟩ := q64
                refine G.eqs [.int (v64)] rfl ?_
                refine G.go tv_X11_rename 3 263 [(0, .ref (gAd E (0))), (1, .int (v55)), (2, .int (v58)), (3, .int (v60)), (4, .int (v61)), (5, .int (v62)), (6, .int (v63)), (7, .int (v64))] [.int (v58), .int (v64)] rfl ?_
                refine G.cmp_ne 270 (tbd tv_X11_rename rfl) (by decide) (fun c263 => ?_) (fun c263 => ?_)
                · replace hr := ite_f c263 hr
                  refine G.go tv_X11_rename 3 274 [(0, .ref (gAd E (0))), (1, .int (v55)), (2, .int (v58)), (3, .int (v60)), (4, .int (v61)), (5, .int (v62)), (6, .int (v63)), (7, .int (v64))] [.int (v64), .int (v58), .ref (gAd E (0))] rfl ?_
                  obtain ⟨v65, hv65, hr⟩ := bnd_s hr
                  refine G.callV (0) [.int (v58), .int (v64)] [] (k_X11_faultOfReplacing E _ N B gr C57 D57 A56 hz ha64 hD57 hA57 v58 v64 v65 hv65) cls_X11 (by omega) (ha64.q0) cw_X11_319 w_1509 w_37 (Nat.le_of_ble_eq_true rfl) rfl (Nat.le_of_ble_eq_true rfl) (tbd tv_X11_rename rfl) (fun v65w f65 q65 => ?_) (fun _ _ h => h.elim)
                  obtain ⟨rfl, ha65, fa65⟩ := q65
                  refine G.eqs [.int (v65)] rfl ?_
                  refine G.go tv_X11_rename 1 279 [(0, .ref (gAd E (0))), (1, .int (v55)), (2, .int (v58)), (3, .int (v60)), (4, .int (v61)), (5, .int (v62)), (6, .int (v63)), (7, .int (v64)), (8, .int (v65))] [] rfl ?_
                  refine G.less [(0, .ref (gAd E (0))), (2, .int (v58)), (3, .int (v60)), (4, .int (v61)), (5, .int (v62)), (6, .int (v63)), (7, .int (v64)), (8, .int (v65))] [0, 2, 3, 4, 5, 6, 7, 8] rfl ?_
                  exact l_X11_rename_279 E f sz _ N B gr C hz _ _ _ _ _ _ _ _ _ _ hr _ _ ha65 hD57 hA57 (((((((((((Fr.rf.tr fa55 (fun _ h => h)).tr fa56 (fun _ h => h)).tr fa57 (fun _ h => h)).tr fa58 (fun _ h => h)).tr fa59 (fun _ h => h)).tr fa60 (fun _ h => h)).tr fa61 (fun _ h => h)).tr fa62 (fun _ h => h)).tr fa63 (fun _ h => h)).tr fa64 (fun _ h => h)).tr fa65 (fun _ h => h))
                · replace hr := ite_t c263 hr
                  refine G.go tv_X11_rename 3 279 [(0, .ref (gAd E (0))), (1, .int (v55)), (2, .int (v58)), (3, .int (v60)), (4, .int (v61)), (5, .int (v62)), (6, .int (v63)), (7, .int (v64)), (8, .int ((0 : Int32)))] [] rfl ?_
                  refine G.less [(0, .ref (gAd E (0))), (2, .int (v58)), (3, .int (v60)), (4, .int (v61)), (5, .int (v62)), (6, .int (v63)), (7, .int (v64)), (8, .int ((0 : Int32)))] [0, 2, 3, 4, 5, 6, 7, 8] rfl ?_
                  exact l_X11_rename_279 E f sz _ N B gr C hz _ _ _ _ _ _ _ _ _ _ hr _ _ ha64 hD57 hA57 ((((((((((Fr.rf.tr fa55 (fun _ h => h)).tr fa56 (fun _ h => h)).tr fa57 (fun _ h => h)).tr fa58 (fun _ h => h)).tr fa59 (fun _ h => h)).tr fa60 (fun _ h => h)).tr fa61 (fun _ h => h)).tr fa62 (fun _ h => h)).tr fa63 (fun _ h => h)).tr fa64 (fun _ h => h))
              · replace hr := ite_t c185 hr
                refine G.go tv_X11_rename 2 191 [(0, .ref (gAd E (0))), (1, .int (v55)), (2, .int (v58)), (3, .int (v60)), (4, .int (v61)), (5, .int (v62)), (6, .int (v63))] [.int (v61), .int (v60)] rfl ?_
                refine G.cmp_eq 215 (tbd tv_X11_rename rfl) (by decide) (fun c191 => ?_) (fun c191 => ?_)
                · replace hr := ite_t c191 hr
                  refine G.less [(0, .ref (gAd E (0))), (2, .int (v58)), (3, .int (v60)), (4, .int (v61)), (5, .int (v62))] [0, 2, 3, 4, 5] rfl ?_
                  exact l_X11_rename_215 E f sz _ N B gr C hz _ _ _ _ _ _ _ hr _ _ ha63 hD57 hA57 (((((((((Fr.rf.tr fa55 (fun _ h => h)).tr fa56 (fun _ h => h)).tr fa57 (fun _ h => h)).tr fa58 (fun _ h => h)).tr fa59 (fun _ h => h)).tr fa60 (fun _ h => h)).tr fa61 (fun _ h => h)).tr fa62 (fun _ h => h)).tr fa63 (fun _ h => h))
                · replace hr := ite_f c191 hr
                  refine G.go tv_X11_rename 1 195 [(0, .ref (gAd E (0))), (1, .int (v55)), (2, .int (v58)), (3, .int (v60)), (4, .int (v61)), (5, .int (v62)), (6, .int (v63))] [.ref (gAd E (0))] rfl ?_
                  refine G.getf cls_X11 (0) 10 (by omega) (ha63.q0) (by decide) rfl (tbd tv_X11_rename rfl) w_573 ?_
                  refine G.go tv_X11_rename 1 199 [(0, .ref (gAd E (0))), (1, .int (v55)), (2, .int (v58)), (3, .int (v60)), (4, .int (v61)), (5, .int (v62)), (6, .int (v63))] [.int (v60), .ref (gAd E (40))] rfl ?_
                  obtain ⟨v66, hv66, hr⟩ := bnd_s hr
                  refine G.callV (40) [.int (v60)] [] (k_X4_wants E _ N B gr C57 D57 A56 hz ha63 hD57 hA57 v60 v66 hv66) cls_X4 (by omega) (ha63.q40) cw_X11_266 w_1397 w_1398 (Nat.le_of_ble_eq_true rfl) rfl (Nat.le_of_ble_eq_true rfl) (tbd tv_X11_rename rfl) (fun v66w f66 q66 => ?_) (fun _ _ h => h.elim)
                  obtain ⟨rfl, ha66, fa66⟩ := q66
                  refine G.eqs [.int (v66)] rfl ?_
                  refine G.go tv_X11_rename 1 203 [(0, .ref (gAd E (0))), (1, .int (v55)), (2, .int (v58)), (3, .int (v60)), (4, .int (v61)), (5, .int (v62)), (6, .int (v63))] [.ref (gAd E (0)), .int (v66)] rfl ?_
                  refine G.getf cls_X11 (0) 7 (by omega) (ha66.q0) (by decide) rfl (tbd tv_X11_rename rfl) w_570 ?_
                  obtain ⟨v67, hv67, hr⟩ := bnd_s hr
                  refine G.callV (25) [] [.int (v66)] (k_X10_available E _ N B gr C57 D57 A56 hz ha66 hD57 hA57 v67 hv67) cls_X10 (by omega) (ha66.q25) cw_X11_269 w_1409 w_1410 (Nat.le_of_ble_eq_true rfl) rfl (Nat.le_of_ble_eq_true rfl) (tbd tv_X11_rename rfl) (fun v67w f67 q67 => ?_) (fun _ _ h => h.elim)
                  obtain ⟨rfl, ha67, fa67⟩ := q67
                  refine G.eqs [.int (v67), .int (v66)] rfl ?_
                  refine G.cmp_le 215 (tbd tv_X11_rename rfl) (by decide) (fun c209 => ?_) (fun c209 => ?_)
                  · replace hr := ite_t c209 hr
                    refine G.less [(0, .ref (gAd E (0))), (2, .int (v58)), (3, .int (v60)), (4, .int (v61)), (5, .int (v62))] [0, 2, 3, 4, 5] rfl ?_
                    exact l_X11_rename_215 E f sz _ N B gr C hz _ _ _ _ _ _ _ hr _ _ ha67 hD57 hA57 (((((((((((Fr.rf.tr fa55 (fun _ h => h)).tr fa56 (fun _ h => h)).tr fa57 (fun _ h => h)).tr fa58 (fun _ h => h)).tr fa59 (fun _ h => h)).tr fa60 (fun _ h => h)).tr fa61 (fun _ h => h)).tr fa62 (fun _ h => h)).tr fa63 (fun _ h => h)).tr fa66 (fun _ h => h)).tr fa67 (fun _ h => h))
                  · replace hr := ite_f c209 hr
                    refine G.go tv_X11_rename 1 214 [(0, .ref (gAd E (0))), (1, .int (v55)), (2, .int (v58)), (3, .int (v60)), (4, .int (v61)), (5, .int (v62)), (6, .int (v63))] [.int ((-7 : Int32))] rfl ?_
                    cases hr
                    exact G.iret rfl rfl (FQ.ok rfl ⟨C57, ha67, hD57, hA57, (((((((((((Fr.rf.tr fa55 (fun _ h => h)).tr fa56 (fun _ h => h)).tr fa57 (fun _ h => h)).tr fa58 (fun _ h => h)).tr fa59 (fun _ h => h)).tr fa60 (fun _ h => h)).tr fa61 (fun _ h => h)).tr fa62 (fun _ h => h)).tr fa63 (fun _ h => h)).tr fa66 (fun _ h => h)).tr fa67 (fun _ h => h))⟩) (tbd tv_X11_rename rfl)
            · replace hr := ite_f c108 hr
              refine G.go tv_X11_rename 1 112 [(0, .ref (gAd E (0))), (1, .int (v55)), (2, .int (v58)), (3, .int (v60))] [.int (v60)] rfl ?_
              cases hr
              exact G.iret rfl rfl (FQ.ok rfl ⟨C57, ha60, hD57, hA57, ((((((Fr.rf.tr fa55 (fun _ h => h)).tr fa56 (fun _ h => h)).tr fa57 (fun _ h => h)).tr fa58 (fun _ h => h)).tr fa59 (fun _ h => h)).tr fa60 (fun _ h => h))⟩) (tbd tv_X11_rename rfl)
          · replace hr := ite_f c80 hr
            refine G.go tv_X11_rename 1 85 [(0, .ref (gAd E (0))), (1, .int (v55)), (2, .int (v58))] [.int ((-9 : Int32))] rfl ?_
            cases hr
            exact G.iret rfl rfl (FQ.ok rfl ⟨C57, ha59, hD57, hA57, (((((Fr.rf.tr fa55 (fun _ h => h)).tr fa56 (fun _ h => h)).tr fa57 (fun _ h => h)).tr fa58 (fun _ h => h)).tr fa59 (fun _ h => h))⟩) (tbd tv_X11_rename rfl)
    · replace hr := ite_f c40 hr
      refine G.go tv_X11_rename 1 44 [(0, .ref (gAd E (0))), (1, .int (v55)), (2, .int (v58))] [.int (v58)] rfl ?_
      cases hr
      exact G.iret rfl rfl (FQ.ok rfl ⟨C57, ha58, hD57, hA57, ((((Fr.rf.tr fa55 (fun _ h => h)).tr fa56 (fun _ h => h)).tr fa57 (fun _ h => h)).tr fa58 (fun _ h => h))⟩) (tbd tv_X11_rename rfl)
  · replace hr := ite_t c14 hr
    refine G.go tv_X11_rename 1 19 [(0, .ref (gAd E (0))), (1, .int (v55))] [.int ((-6 : Int32))] rfl ?_
    cases hr
    exact G.iret rfl rfl (FQ.ok rfl ⟨C57, ha57, hD57, hA57, (((Fr.rf.tr fa55 (fun _ h => h)).tr fa56 (fun _ h => h)).tr fa57 (fun _ h => h))⟩) (tbd tv_X11_rename rfl)
theorem w_1522 : Cond.methodLink "LedgerFiles" 326 yX11_fileForNewName ∈ TB := tp_6 176 (by decide +kernel) rfl
theorem w_1525 : Cond.code yX11_fileForNewName prog_1_method_22_code 4 (some .int) ∈ TB := tp_6 179 rfl rfl
theorem cw_X11_326 : Cw RX11 326 yX11_fileForNewName cX11_fileForNewName 4 (some .int) 1 := ⟨w_1522, w_1525, w_147, by decide +kernel, by decide +kernel, by decide⟩
theorem w_1524 : Cond.instanceMethod yX11_fileForNewName ∈ TB := tp_6 178 (by decide +kernel) rfl
theorem w_38 : Cond.selects "LedgerFiles" yX11_fileForNewName yX11_fileForNewName ∈ TB := tp_0 38 (by decide +kernel) rfl
theorem w_1526 : Cond.methodLink "LedgerFiles" 329 yX7_links ∈ TB := tp_6 180 (by decide +kernel) rfl
theorem cw_X11_329 : Cw RX11 329 yX7_links cX7_links 2 (some .int) 1 := ⟨w_1526, w_927, w_157, by decide +kernel, by decide +kernel, by decide⟩
theorem w_1527 : Cond.methodLink "LedgerFiles" 332 yX7_setLinks ∈ TB := tp_6 181 (by decide +kernel) rfl
theorem cw_X11_332 : Cw RX11 332 yX7_setLinks cX7_setLinks 3 none 2 := ⟨w_1527, w_1434, w_157, by decide +kernel, by decide +kernel, by decide⟩
noncomputable def d_X11_link (N B gr : Nat) (A : MS) (D : CfT) : Option (FR Int32) := bnd2 (d_X11_useTape N (vA A) D) (fun v75 D75 => bndF (d_X11_needMounted N B gr A D75) (fun v76 A76 D76 => bnd2 (d_X11_fileForNewName N (vA A76) D76 v75) (fun v77 D77 => if 0 ≤ v77 then bnd (d_X7_links N (vA A76) D77 v77) (fun v78 => if v78 < ((255 : Int32)) then bnd (d_X4_walk_50 N (vA A76) D77 ((cS D77 5002) - ((1 : Int32)))) (fun v79 => bnd (d_X4_wants N (vA A76) D77 v79) (fun v80 => bnd (d_X10_available N (vA A76) A76.2.2.2.2.1 D77) (fun v81 => if v80 ≤ v81 then bnd2 (d_X7_setLinks N A76 D77 v77 ((v78) + ((1 : Int32)))) (fun A82 D82 => bndF (d_X4_addName_50 N B gr A82 D82 v79 v77) (fun v83 A83 D83 => bndF (d_X10_finish N B gr A83 D83) (fun v84 A84 D84 => some (.inl ((v78) + ((1 : Int32)), A84, D84))))) else some (.inl ((-7 : Int32), A76, D77))))) else some (.inl ((-9 : Int32), A76, D77))) else some (.inl (v77, A76, D77)))))
set_option maxRecDepth 100000 in
set_option maxHeartbeats 4000000 in
theorem k_X11_link (E : gE) (f : Nat → va_E) (N B gr : Nat) (C D : CfT) (A : MS) (hz : CfZ E N B gr) (h : CfV E f N B gr C) (hD : Dq D C) (hA : AR N B gr A C) (r : FR Int32) (hr : d_X11_link N B gr A D = some r) : Ct E 13 yX11_link cX11_link 5 (some .int) [.ref (gAd E (0))] f (FQ E N B gr f (fun r => some (.int r)) r) := by
  obtain ⟨z1, z2, z3, z4, z5, z6, z7⟩ := id hz
  refine Ct.of (by decide) (Nat.le_of_ble_eq_true rfl) (fun sz => ?_)
  refine G.eql [(0, .ref (gAd E (0)))] rfl ?_
  unfold d_X11_link at hr
  refine G.go tv_X11_link 1 1 [(0, .ref (gAd E (0)))] [.ref (gAd E (0))] rfl ?_
  obtain ⟨v75, D75, hv75, hr⟩ := bnd2_s hr
  refine G.callV (0) [] [] (k_X11_useTape E _ N B gr C D A hz h hD hA v75 D75 hv75) cls_X11 (by omega) (h.q0) cw_X11_272 w_1343 w_29 (Nat.le_of_ble_eq_true rfl) rfl (Nat.le_of_ble_eq_true rfl) (tbd tv_X11_link rfl) (fun v75w f75 q75 => ?_) (fun _ _ h => h.elim)
  obtain ⟨rfl, C75, ha75, hD75, hA75, hR75, fa75⟩ := q75
  refine G.eqs [.int (v75)] rfl ?_
  refine G.go tv_X11_link 2 6 [(0, .ref (gAd E (0))), (1, .int (v75))] [.ref (gAd E (0))] rfl ?_
  rcases bndF_s hr with ⟨v76, A76, D76, hv76, hr⟩ | ⟨ex76, A76, D76, hv76, rfl⟩
  rotate_left
  · skip
    refine G.callV (0) [] [] (k_X11_needMounted E _ N B gr C75 D75 A hz ha75 hD75 hA75 _ hv76) cls_X11 (by omega) (ha75.q0) cw_X11_221 w_1320 w_27 (Nat.le_of_ble_eq_true rfl) rfl (Nat.le_of_ble_eq_true rfl) (tbd tv_X11_link rfl) (fun v76w f76 q76 => ?_) (fun X g q => FQ.fr q (Fr.rf.tr fa75 (fun _ h => h)))
    exact q76.elim
  refine G.callV (0) [] [] (k_X11_needMounted E _ N B gr C75 D75 A hz ha75 hD75 hA75 _ hv76) cls_X11 (by omega) (ha75.q0) cw_X11_221 w_1320 w_27 (Nat.le_of_ble_eq_true rfl) rfl (Nat.le_of_ble_eq_true rfl) (tbd tv_X11_link rfl) (fun v76w f76 q76 => ?_) (fun _ _ h => h.elim)
  obtain ⟨rfl, C76, ha76, hD76, hA76, fa76⟩ := q76
  refine G.eqs [] rfl ?_
  refine G.go tv_X11_link 2 11 [(0, .ref (gAd E (0))), (1, .int (v75))] [.int (v75), .ref (gAd E (0))] rfl ?_
  obtain ⟨v77, D77, hv77, hr⟩ := bnd2_s hr
  refine G.callV (0) [.int (v75)] [] (k_X11_fileForNewName E _ N B gr C76 D76 A76 hz ha76 hD76 hA76 v75 v77 D77 hv77) cls_X11 (by omega) (ha76.q0) cw_X11_326 w_1524 w_38 (Nat.le_of_ble_eq_true rfl) rfl (Nat.le_of_ble_eq_true rfl) (tbd tv_X11_link rfl) (fun v77w f77 q77 => ?_) (fun _ _ h => h.elim)
  obtain ⟨rfl, C77, ha77, hD77, hA77, hR77, fa77⟩ := q77
  refine G.eqs [.int (v77)] rfl ?_
  refine G.go tv_X11_link 2 16 [(0, .ref (gAd E (0))), (1, .int (v75)), (2, .int (v77))] [.int (v77)] rfl ?_
  refine G.if_ge 21 (tbd tv_X11_link rfl) (by decide) (fun c16 => ?_) (fun c16 => ?_)
  · replace hr := ite_t c16 hr
    refine G.go tv_X11_link 1 22 [(0, .ref (gAd E (0))), (1, .int (v75)), (2, .int (v77))] [.ref (gAd E (0))] rfl ?_
    refine G.getf cls_X11 (0) 8 (by omega) (ha77.q0) (by decide) rfl (tbd tv_X11_link rfl) w_571 ?_
    refine G.go tv_X11_link 1 26 [(0, .ref (gAd E (0))), (1, .int (v75)), (2, .int (v77))] [.int (v77), .ref (gAd E (37))] rfl ?_
    obtain ⟨v78, hv78, hr⟩ := bnd_s hr
    refine G.callV (37) [.int (v77)] [] (k_X7_links E _ N B gr C77 D77 A76 hz ha77 hD77 hA77 v77 v78 hv78) cls_X7 (by omega) (ha77.q37) cw_X11_329 w_925 w_926 (Nat.le_of_ble_eq_true rfl) rfl (Nat.le_of_ble_eq_true rfl) (tbd tv_X11_link rfl) (fun v78w f78 q78 => ?_) (fun _ _ h => h.elim)
    obtain ⟨rfl, ha78, fa78⟩ := q78
    refine G.eqs [.int (v78)] rfl ?_
    refine G.go tv_X11_link 3 34 [(0, .ref (gAd E (0))), (1, .int (v75)), (2, .int (v77)), (3, .int (v78))] [.int ((255 : Int32)), .int (v78)] rfl ?_
    refine G.cmp_lt 40 (tbd tv_X11_link rfl) (by decide) (fun c34 => ?_) (fun c34 => ?_)
    · replace hr := ite_t c34 hr
      refine G.go tv_X11_link 1 41 [(0, .ref (gAd E (0))), (1, .int (v75)), (2, .int (v77)), (3, .int (v78))] [.ref (gAd E (0))] rfl ?_
      refine G.getf cls_X11 (0) 10 (by omega) (ha78.q0) (by decide) rfl (tbd tv_X11_link rfl) w_573 ?_
      refine G.go tv_X11_link 1 45 [(0, .ref (gAd E (0))), (1, .int (v75)), (2, .int (v77)), (3, .int (v78))] [.ref (gAd E (0)), .ref (gAd E (40))] rfl ?_
      refine G.getf cls_X11 (0) 14 (by omega) (ha78.q0) (by decide) rfl (tbd tv_X11_link rfl) w_577 ?_
      refine G.go tv_X11_link 1 49 [(0, .ref (gAd E (0))), (1, .int (v75)), (2, .int (v77)), (3, .int (v78))] [.ref (gAd E (0)), .ref (gAd E (50)), .ref (gAd E (40))] rfl ?_
      refine G.getf cls_X11 (0) 14 (by omega) (ha78.q0) (by decide) rfl (tbd tv_X11_link rfl) w_577 ?_
      refine G.getf cls_X8 (50) 2 (by omega) (ha78.q50) (by decide) rfl (tbd tv_X11_link rfl) w_198 ?_
      refine G.eq1 (b := cS D77 5002) (hD77.1 5002 (by decide)) ?_
      refine G.go tv_X11_link 2 57 [(0, .ref (gAd E (0))), (1, .int (v75)), (2, .int (v77)), (3, .int (v78))] [.int ((cS D77 5002) - ((1 : Int32))), .ref (gAd E (50)), .ref (gAd E (40))] rfl ?_
      obtain ⟨v79, hv79, hr⟩ := bnd_s hr
      refine G.callV (40) [.ref (gAd E (50)), .int ((cS D77 5002) - ((1 : Int32)))] [] (k_X4_walk_50 E _ N B gr C77 D77 A76 hz ha78 hD77 hA77 ((cS D77 5002) - ((1 : Int32))) v79 hv79) cls_X4 (by omega) (ha78.q40) cw_X11_278 w_1356 w_1357 (Nat.le_of_ble_eq_true rfl) rfl (Nat.le_of_ble_eq_true rfl) (tbd tv_X11_link rfl) (fun v79w f79 q79 => ?_) (fun _ _ h => h.elim)
      obtain ⟨rfl, ha79, fa79⟩ := q79
      refine G.eqs [.int (v79)] rfl ?_
      refine G.go tv_X11_link 2 63 [(0, .ref (gAd E (0))), (1, .int (v75)), (2, .int (v77)), (3, .int (v78)), (4, .int (v79))] [.ref (gAd E (0))] rfl ?_
      refine G.getf cls_X11 (0) 10 (by omega) (ha79.q0) (by decide) rfl (tbd tv_X11_link rfl) w_573 ?_
      refine G.go tv_X11_link 1 68 [(0, .ref (gAd E (0))), (1, .int (v75)), (2, .int (v77)), (3, .int (v78)), (4, .int (v79))] [.int (v79), .ref (gAd E (40))] rfl ?_
      obtain ⟨v80, hv80, hr⟩ := bnd_s hr
      refine G.callV (40) [.int (v79)] [] (k_X4_wants E _ N B gr C77 D77 A76 hz ha79 hD77 hA77 v79 v80 hv80) cls_X4 (by omega) (ha79.q40) cw_X11_266 w_1397 w_1398 (Nat.le_of_ble_eq_true rfl) rfl (Nat.le_of_ble_eq_true rfl) (tbd tv_X11_link rfl) (fun v80w f80 q80 => ?_) (fun _ _ h => h.elim)
      obtain ⟨rfl, ha80, fa80⟩ := q80
      refine G.eqs [.int (v80)] rfl ?_
      refine G.go tv_X11_link 1 72 [(0, .ref (gAd E (0))), (1, .int (v75)), (2, .int (v77)), (3, .int (v78)), (4, .int (v79))] [.ref (gAd E (0)), .int (v80)] rfl ?_
      refine G.getf cls_X11 (0) 7 (by omega) (ha80.q0) (by decide) rfl (tbd tv_X11_link rfl) w_570 ?_
      obtain ⟨v81, hv81, hr⟩ := bnd_s hr
      refine G.callV (25) [] [.int (v80)] (k_X10_available E _ N B gr C77 D77 A76 hz ha80 hD77 hA77 v81 hv81) cls_X10 (by omega) (ha80.q25) cw_X11_269 w_1409 w_1410 (Nat.le_of_ble_eq_true rfl) rfl (Nat.le_of_ble_eq_true rfl) (tbd tv_X11_link rfl) (fun v81w f81 q81 => ?_) (fun _ _ h => h.elim)
      obtain ⟨rfl, ha81, fa81⟩ := q81
      refine G.eqs [.int (v81), .int (v80)] rfl ?_
      refine G.cmp_le 84 (tbd tv_X11_link rfl) (by decide) (fun c78 => ?_) (fun c78 => ?_)
      · replace hr := ite_t c78 hr
        refine G.go tv_X11_link 1 85 [(0, .ref (gAd E (0))), (1, .int (v75)), (2, .int (v77)), (3, .int (v78)), (4, .int (v79))] [.ref (gAd E (0))] rfl ?_
        refine G.getf cls_X11 (0) 8 (by omega) (ha81.q0) (by decide) rfl (tbd tv_X11_link rfl) w_571 ?_
        refine G.go tv_X11_link 4 92 [(0, .ref (gAd E (0))), (1, .int (v75)), (2, .int (v77)), (3, .int (v78)), (4, .int (v79))] [.int ((v78) + ((1 : Int32))), .int (v77), .ref (gAd E (37))] rfl ?_
        obtain ⟨A82, D82, hv82, hr⟩ := bnd2_s hr
        refine G.callV (37) [.int (v77), .int ((v78) + ((1 : Int32)))] [] (k_X7_setLinks E _ N B gr C77 D77 A76 hz ha81 hD77 hA77 v77 ((v78) + ((1 : Int32))) A82 D82 hv82) cls_X7 (by omega) (ha81.q37) cw_X11_332 w_1432 w_1433 (Nat.le_of_ble_eq_true rfl) rfl (Nat.le_of_ble_eq_true rfl) (tbd tv_X11_link rfl) (fun v82w f82 q82 => ?_) (fun _ _ h => h.elim)
        obtain ⟨rfl, C82, ha82, hD82, hA82, fa82⟩ := q82
        refine G.eqs [] rfl ?_
        refine G.go tv_X11_link 1 96 [(0, .ref (gAd E (0))), (1, .int (v75)), (2, .int (v77)), (3, .int (v78)), (4, .int (v79))] [.ref (gAd E (0))] rfl ?_
        refine G.getf cls_X11 (0) 10 (by omega) (ha82.q0) (by decide) rfl (tbd tv_X11_link rfl) w_573 ?_
        refine G.go tv_X11_link 2 102 [(0, .ref (gAd E (0))), (1, .int (v75)), (2, .int (v77)), (3, .int (v78)), (4, .int (v79))] [.ref (gAd E (0)), .int (v79), .ref (gAd E (40))] rfl ?_
        refine G.getf cls_X11 (0) 14 (by omega) (ha82.q0) (by decide) rfl (tbd tv_X11_link rfl) w_577 ?_
        refine G.go tv_X11_link 1 106 [(0, .ref (gAd E (0))), (1, .int (v75)), (2, .int (v77)), (3, .int (v78)), (4, .int (v79))] [.int (v77), .ref (gAd E (50)), .int (v79), .ref (gAd E (40))] rfl ?_
        rcases bndF_s hr with ⟨v83, A83, D83, hv83, hr⟩ | ⟨ex83, A83, D83, hv83, rfl⟩
        rotate_left
        · skip
          refine G.callV (40) [.int (v79), .ref (gAd E (50)), .int (v77)] [] (k_X4_addName_50 E _ N B gr C82 D82 A82 hz ha82 hD82 hA82 v79 v77 _ hv83) cls_X4 (by omega) (ha82.q40) cw_X11_292 w_1436 w_1437 (Nat.le_of_ble_eq_true rfl) rfl (Nat.le_of_ble_eq_true rfl) (tbd tv_X11_link rfl) (fun v83w f83 q83 => ?_) (fun X g q => FQ.fr q ((((((((Fr.rf.tr fa75 (fun _ h => h)).tr fa76 (fun _ h => h)).tr fa77 (fun _ h => h)).tr fa78 (fun _ h => h)).tr fa79 (fun _ h => h)).tr fa80 (fun _ h => h)).tr fa81 (fun _ h => h)).tr fa82 (fun _ h => h)))
          exact q83.elim
        refine G.callV (40) [.int (v79), .ref (gAd E (50)), .int (v77)] [] (k_X4_addName_50 E _ N B gr C82 D82 A82 hz ha82 hD82 hA82 v79 v77 _ hv83) cls_X4 (by omega) (ha82.q40) cw_X11_292 w_1436 w_1437 (Nat.le_of_ble_eq_true rfl) rfl (Nat.le_of_ble_eq_true rfl) (tbd tv_X11_link rfl) (fun v83w f83 q83 => ?_) (fun _ _ h => h.elim)
        obtain ⟨rfl, C83, ha83, hD83, hA83, fa83⟩ := q83
        refine G.eqs [] rfl ?_
        refine G.go tv_X11_link 1 110 [(0, .ref (gAd E (0))), (1, .int (v75)), (2, .int (v77)), (3, .int (v78)), (4, .int (v79))] [.ref (gAd E (0))] rfl ?_
        refine G.getf cls_X11 (0) 7 (by omega) (ha83.q0) (by decide) rfl (tbd tv_X11_link rfl) w_570 ?_
        rcases bndF_s hr with ⟨v84, A84, D84, hv84, hr⟩ | ⟨ex84, A84, D84, hv84, rfl⟩
        rotate_left
        · skip
          refine G.callV (25) [] [] (k_X10_finish E _ N B gr C83 D83 A83 hz ha83 hD83 hA83 _ hv84) cls_X10 (by omega) (ha83.q25) cw_X11_244 w_1247 w_1248 (Nat.le_of_ble_eq_true rfl) rfl (Nat.le_of_ble_eq_true rfl) (tbd tv_X11_link rfl) (fun v84w f84 q84 => ?_) (fun X g q => FQ.fr q (((((((((Fr.rf.tr fa75 (fun _ h => h)).tr fa76 (fun _ h => h)).tr fa77 (fun _ h => h)).tr fa78 (fun _ h => h)).tr fa79 (fun _ h => h)).tr fa80 (fun _ h => h)).tr fa81 (fun _ h => h)).tr fa82 (fun _ h => h)).tr fa83 (fun _ h => h)))
          exact q84.elim
        refine G.callV (25) [] [] (k_X10_finish E _ N B gr C83 D83 A83 hz ha83 hD83 hA83 _ hv84) cls_X10 (by omega) (ha83.q25) cw_X11_244 w_1247 w_1248 (Nat.le_of_ble_eq_true rfl) rfl (Nat.le_of_ble_eq_true rfl) (tbd tv_X11_link rfl) (fun v84w f84 q84 => ?_) (fun _ _ h => h.elim)
        obtain ⟨rfl, C84, ha84, hD84, hA84, fa84⟩ := q84
        refine G.eqs [] rfl ?_
        refine G.go tv_X11_link 3 119 [(0, .ref (gAd E (0))), (1, .int (v75)), (2, .int (v77)), (3, .int (v78)), (4, .int (v79))] [.int ((v78) + ((1 : Int32)))] rfl ?_
        cases hr
        exact G.iret rfl rfl (FQ.ok rfl ⟨C84, ha84, hD84, hA84, ((((((((((Fr.rf.tr fa75 (fun _ h => h)).tr fa76 (fun _ h => h)).tr fa77 (fun _ h => h)).tr fa78 (fun _ h => h)).tr fa79 (fun _ h => h)).tr fa80 (fun _ h => h)).tr fa81 (fun _ h => h)).tr fa82 (fun _ h => h)).tr fa83 (fun _ h => h)).tr fa84 (fun _ h => h))⟩) (tbd tv_X11_link rfl)
      · replace hr := ite_f c78 hr
        refine G.go tv_X11_link 1 83 [(0, .ref (gAd E (0))), (1, .int (v75)), (2, .int (v77)), (3, .int (v78)), (4, .int (v79))] [.int ((-7 : Int32))] rfl ?_
        cases hr
        exact G.iret rfl rfl (FQ.ok rfl ⟨C77, ha81, hD77, hA77, (((((((Fr.rf.tr fa75 (fun _ h => h)).tr fa76 (fun _ h => h)).tr fa77 (fun _ h => h)).tr fa78 (fun _ h => h)).tr fa79 (fun _ h => h)).tr fa80 (fun _ h => h)).tr fa81 (fun _ h => h))⟩) (tbd tv_X11_link rfl)
    · replace hr := ite_f c34 hr
      refine G.go tv_X11_link 1 39 [(0, .ref (gAd E (0))), (1, .int (v75)), (2, .int (v77)), (3, .int (v78))] [.int ((-9 : Int32))] rfl ?_
      cases hr
      exact G.iret rfl rfl (FQ.ok rfl ⟨C77, ha78, hD77, hA77, ((((Fr.rf.tr fa75 (fun _ h => h)).tr fa76 (fun _ h => h)).tr fa77 (fun _ h => h)).tr fa78 (fun _ h => h))⟩) (tbd tv_X11_link rfl)
  · replace hr := ite_f c16 hr
    refine G.go tv_X11_link 1 20 [(0, .ref (gAd E (0))), (1, .int (v75)), (2, .int (v77))] [.int (v77)] rfl ?_
    cases hr
    exact G.iret rfl rfl (FQ.ok rfl ⟨C77, ha77, hD77, hA77, (((Fr.rf.tr fa75 (fun _ h => h)).tr fa76 (fun _ h => h)).tr fa77 (fun _ h => h))⟩) (tbd tv_X11_link rfl)
theorem w_1545 : Cond.methodLink "LedgerFiles" 343 yX7_tablesOfCopy ∈ TB := tp_6 199 (by decide +kernel) rfl
theorem w_1548 : Cond.code yX7_tablesOfCopy prog_9_method_34_code 4 (some .int) ∈ TB := tp_6 202 rfl rfl
theorem cw_X11_343 : Cw RX11 343 yX7_tablesOfCopy cX7_tablesOfCopy 4 (some .int) 1 := ⟨w_1545, w_1548, w_157, by decide +kernel, by decide +kernel, by decide⟩
theorem w_1546 : Cond.instanceMethod yX7_tablesOfCopy ∈ TB := tp_6 200 (by decide +kernel) rfl
theorem w_1547 : Cond.selects "LedgerFiles$Nodes" yX7_tablesOfCopy yX7_tablesOfCopy ∈ TB := tp_6 201 (by decide +kernel) rfl
theorem w_488 : Cond.fieldLink "LedgerFiles" 346 "LedgerFiles$Nodes" "found" "I" ∈ TB := tp_2 102 (by decide +kernel) rfl
theorem w_1556 : Cond.methodLink "LedgerFiles" 349 yX3_fillCopy ∈ TB := tp_6 210 (by decide +kernel) rfl
theorem w_1559 : Cond.code yX3_fillCopy prog_5_method_5_code 6 none ∈ TB := tp_6 213 rfl rfl
theorem cw_X11_349 : Cw RX11 349 yX3_fillCopy cX3_fillCopy 6 none 2 := ⟨w_1556, w_1559, w_159, by decide +kernel, by decide +kernel, by decide⟩
theorem w_1557 : Cond.instanceMethod yX3_fillCopy ∈ TB := tp_6 211 (by decide +kernel) rfl
theorem w_1558 : Cond.selects "LedgerFiles$Files" yX3_fillCopy yX3_fillCopy ∈ TB := tp_6 212 (by decide +kernel) rfl
noncomputable def d_X11_copy (N B gr : Nat) (A : MS) (D : CfT) : Option (FR Int32) := bnd2 (d_X11_useTape N (vA A) D) (fun v85 D85 => bndF (d_X11_needMounted N B gr A D85) (fun v86 A86 D86 => bnd2 (d_X11_fileForNewName N (vA A86) D86 v85) (fun v87 D87 => if 0 ≤ v87 then bnd2 (d_X7_tablesOfCopy N (vA A86) D87 v87) (fun v88 D88 => if v88 ≤ ((32 : Int32)) then bnd (d_X7_lowestFree N (vA A86) D88) (fun v89 => if v89 = ((-1 : Int32)) then some (.inl ((-8 : Int32), A86, D88)) else bnd (d_X4_walk_50 N (vA A86) D88 ((cS D88 5002) - ((1 : Int32)))) (fun v90 => bnd (d_X4_wants N (vA A86) D88 v90) (fun v91 => bnd (d_X10_available N (vA A86) A86.2.2.2.2.1 D88) (fun v92 => if (((v91) + (cS D88 3705)) + (v88)) ≤ v92 then bnd3 (d_X7_create N A86 D88 ((1 : Int32))) (fun v93 A93 D93 => bndF (d_X4_addName_50 N B gr A93 D93 v90 v93) (fun v94 A94 D94 => bndF (d_X3_fillCopy N B gr A94 D94 v87 v93) (fun v95 A95 D95 => bndF (d_X10_finish N B gr A95 D95) (fun v96 A96 D96 => some (.inl (v93, A96, D96)))))) else some (.inl ((-7 : Int32), A86, D88)))))) else some (.inl ((-12 : Int32), A86, D88))) else some (.inl (v87, A86, D87)))))
set_option maxRecDepth 100000 in
set_option maxHeartbeats 4000000 in
theorem k_X11_copy (E : gE) (f : Nat → va_E) (N B gr : Nat) (C D : CfT) (A : MS) (hz : CfZ E N B gr) (h : CfV E f N B gr C) (hD : Dq D C) (hA : AR N B gr A C) (r : FR Int32) (hr : d_X11_copy N B gr A D = some r) : Ct E 13 yX11_copy cX11_copy 6 (some .int) [.ref (gAd E (0))] f (FQ E N B gr f (fun r => some (.int r)) r) := by
  obtain ⟨z1, z2, z3, z4, z5, z6, z7⟩ := id hz
  refine Ct.of (by decide) (Nat.le_of_ble_eq_true rfl) (fun sz => ?_)
  refine G.eql [(0, .ref (gAd E (0)))] rfl ?_
  unfold d_X11_copy at hr
  refine G.go tv_X11_copy 1 1 [(0, .ref (gAd E (0)))] [.ref (gAd E (0))] rfl ?_
  obtain ⟨v85, D85, hv85, hr⟩ := bnd2_s hr
  refine G.callV (0) [] [] (k_X11_useTape E _ N B gr C D A hz h hD hA v85 D85 hv85) cls_X11 (by omega) (h.q0) cw_X11_272 w_1343 w_29 (Nat.le_of_ble_eq_true rfl) rfl (Nat.le_of_ble_eq_true rfl) (tbd tv_X11_copy rfl) (fun v85w f85 q85 => ?_) (fun _ _ h => h.elim)
  obtain ⟨rfl, C85, ha85, hD85, hA85, hR85, fa85⟩ := q85
  refine G.eqs [.int (v85)] rfl ?_
  refine G.go tv_X11_copy 2 6 [(0, .ref (gAd E (0))), (1, .int (v85))] [.ref (gAd E (0))] rfl ?_
  rcases bndF_s hr with ⟨v86, A86, D86, hv86, hr⟩ | ⟨ex86, A86, D86, hv86, rfl⟩
  rotate_left
  · skip
    refine G.callV (0) [] [] (k_X11_needMounted E _ N B gr C85 D85 A hz ha85 hD85 hA85 _ hv86) cls_X11 (by omega) (ha85.q0) cw_X11_221 w_1320 w_27 (Nat.le_of_ble_eq_true rfl) rfl (Nat.le_of_ble_eq_true rfl) (tbd tv_X11_copy rfl) (fun v86w f86 q86 => ?_) (fun X g q => FQ.fr q (Fr.rf.tr fa85 (fun _ h => h)))
    exact q86.elim
  refine G.callV (0) [] [] (k_X11_needMounted E _ N B gr C85 D85 A hz ha85 hD85 hA85 _ hv86) cls_X11 (by omega) (ha85.q0) cw_X11_221 w_1320 w_27 (Nat.le_of_ble_eq_true rfl) rfl (Nat.le_of_ble_eq_true rfl) (tbd tv_X11_copy rfl) (fun v86w f86 q86 => ?_) (fun _ _ h => h.elim)
  obtain ⟨rfl, C86, ha86, hD86, hA86, fa86⟩ := q86
  refine G.eqs [] rfl ?_
  refine G.go tv_X11_copy 2 11 [(0, .ref (gAd E (0))), (1, .int (v85))] [.int (v85), .ref (gAd E (0))] rfl ?_
  obtain ⟨v87, D87, hv87, hr⟩ := bnd2_s hr
  refine G.callV (0) [.int (v85)] [] (k_X11_fileForNewName E _ N B gr C86 D86 A86 hz ha86 hD86 hA86 v85 v87 D87 hv87) cls_X11 (by omega) (ha86.q0) cw_X11_326 w_1524 w_38 (Nat.le_of_ble_eq_true rfl) rfl (Nat.le_of_ble_eq_true rfl) (tbd tv_X11_copy rfl) (fun v87w f87 q87 => ?_) (fun _ _ h => h.elim)
  obtain ⟨rfl, C87, ha87, hD87, hA87, hR87, fa87⟩ := q87
  refine G.eqs [.int (v87)] rfl ?_
  refine G.go tv_X11_copy 2 16 [(0, .ref (gAd E (0))), (1, .int (v85)), (2, .int (v87))] [.int (v87)] rfl ?_
  refine G.if_ge 21 (tbd tv_X11_copy rfl) (by decide) (fun c16 => ?_) (fun c16 => ?_)
  · replace hr := ite_t c16 hr
    refine G.go tv_X11_copy 1 22 [(0, .ref (gAd E (0))), (1, .int (v85)), (2, .int (v87))] [.ref (gAd E (0))] rfl ?_
    refine G.getf cls_X11 (0) 8 (by omega) (ha87.q0) (by decide) rfl (tbd tv_X11_copy rfl) w_571 ?_
    refine G.go tv_X11_copy 1 26 [(0, .ref (gAd E (0))), (1, .int (v85)), (2, .int (v87))] [.int (v87), .ref (gAd E (37))] rfl ?_
    obtain ⟨v88, D88, hv88, hr⟩ := bnd2_s hr
    refine G.callV (37) [.int (v87)] [] (k_X7_tablesOfCopy E _ N B gr C87 D87 A86 hz ha87 hD87 hA87 v87 v88 D88 hv88) cls_X7 (by omega) (ha87.q37) cw_X11_343 w_1546 w_1547 (Nat.le_of_ble_eq_true rfl) rfl (Nat.le_of_ble_eq_true rfl) (tbd tv_X11_copy rfl) (fun v88w f88 q88 => ?_) (fun _ _ h => h.elim)
    obtain ⟨rfl, C88, ha88, hD88, hA88, hR88, fa88⟩ := q88
    refine G.eqs [.int (v88)] rfl ?_
    refine G.go tv_X11_copy 3 33 [(0, .ref (gAd E (0))), (1, .int (v85)), (2, .int (v87)), (3, .int (v88))] [.int ((32 : Int32)), .int (v88)] rfl ?_
    refine G.cmp_le 39 (tbd tv_X11_copy rfl) (by decide) (fun c33 => ?_) (fun c33 => ?_)
    · replace hr := ite_t c33 hr
      refine G.go tv_X11_copy 1 40 [(0, .ref (gAd E (0))), (1, .int (v85)), (2, .int (v87)), (3, .int (v88))] [.ref (gAd E (0))] rfl ?_
      refine G.getf cls_X11 (0) 8 (by omega) (ha88.q0) (by decide) rfl (tbd tv_X11_copy rfl) w_571 ?_
      obtain ⟨v89, hv89, hr⟩ := bnd_s hr
      refine G.callV (37) [] [] (k_X7_lowestFree E _ N B gr C88 D88 A86 hz ha88 hD88 hA88 v89 hv89) cls_X7 (by omega) (ha88.q37) cw_X11_263 w_1393 w_1394 (Nat.le_of_ble_eq_true rfl) rfl (Nat.le_of_ble_eq_true rfl) (tbd tv_X11_copy rfl) (fun v89w f89 q89 => ?_) (fun _ _ h => h.elim)
      obtain ⟨rfl, ha89, fa89⟩ := q89
      refine G.eqs [.int (v89)] rfl ?_
      refine G.go tv_X11_copy 1 47 [(0, .ref (gAd E (0))), (1, .int (v85)), (2, .int (v87)), (3, .int (v88))] [.int ((-1 : Int32)), .int (v89)] rfl ?_
      refine G.cmp_ne 53 (tbd tv_X11_copy rfl) (by decide) (fun c47 => ?_) (fun c47 => ?_)
      · replace hr := ite_f c47 hr
        refine G.go tv_X11_copy 1 54 [(0, .ref (gAd E (0))), (1, .int (v85)), (2, .int (v87)), (3, .int (v88))] [.ref (gAd E (0))] rfl ?_
        refine G.getf cls_X11 (0) 10 (by omega) (ha89.q0) (by decide) rfl (tbd tv_X11_copy rfl) w_573 ?_
        refine G.go tv_X11_copy 1 58 [(0, .ref (gAd E (0))), (1, .int (v85)), (2, .int (v87)), (3, .int (v88))] [.ref (gAd E (0)), .ref (gAd E (40))] rfl ?_
        refine G.getf cls_X11 (0) 14 (by omega) (ha89.q0) (by decide) rfl (tbd tv_X11_copy rfl) w_577 ?_
        refine G.go tv_X11_copy 1 62 [(0, .ref (gAd E (0))), (1, .int (v85)), (2, .int (v87)), (3, .int (v88))] [.ref (gAd E (0)), .ref (gAd E (50)), .ref (gAd E (40))] rfl ?_
        refine G.getf cls_X11 (0) 14 (by omega) (ha89.q0) (by decide) rfl (tbd tv_X11_copy rfl) w_577 ?_
        refine G.getf cls_X8 (50) 2 (by omega) (ha89.q50) (by decide) rfl (tbd tv_X11_copy rfl) w_198 ?_
        refine G.eq1 (b := cS D88 5002) (hD88.1 5002 (by decide)) ?_
        refine G.go tv_X11_copy 2 70 [(0, .ref (gAd E (0))), (1, .int (v85)), (2, .int (v87)), (3, .int (v88))] [.int ((cS D88 5002) - ((1 : Int32))), .ref (gAd E (50)), .ref (gAd E (40))] rfl ?_
        obtain ⟨v90, hv90, hr⟩ := bnd_s hr
        refine G.callV (40) [.ref (gAd E (50)), .int ((cS D88 5002) - ((1 : Int32)))] [] (k_X4_walk_50 E _ N B gr C88 D88 A86 hz ha89 hD88 hA88 ((cS D88 5002) - ((1 : Int32))) v90 hv90) cls_X4 (by omega) (ha89.q40) cw_X11_278 w_1356 w_1357 (Nat.le_of_ble_eq_true rfl) rfl (Nat.le_of_ble_eq_true rfl) (tbd tv_X11_copy rfl) (fun v90w f90 q90 => ?_) (fun _ _ h => h.elim)
        obtain ⟨rfl, ha90, fa90⟩ := q90
        refine G.eqs [.int (v90)] rfl ?_
        refine G.go tv_X11_copy 2 76 [(0, .ref (gAd E (0))), (1, .int (v85)), (2, .int (v87)), (3, .int (v88)), (4, .int (v90))] [.ref (gAd E (0))] rfl ?_
        refine G.getf cls_X11 (0) 10 (by omega) (ha90.q0) (by decide) rfl (tbd tv_X11_copy rfl) w_573 ?_
        refine G.go tv_X11_copy 1 81 [(0, .ref (gAd E (0))), (1, .int (v85)), (2, .int (v87)), (3, .int (v88)), (4, .int (v90))] [.int (v90), .ref (gAd E (40))] rfl ?_
        obtain ⟨v91, hv91, hr⟩ := bnd_s hr
        refine G.callV (40) [.int (v90)] [] (k_X4_wants E _ N B gr C88 D88 A86 hz ha90 hD88 hA88 v90 v91 hv91) cls_X4 (by omega) (ha90.q40) cw_X11_266 w_1397 w_1398 (Nat.le_of_ble_eq_true rfl) rfl (Nat.le_of_ble_eq_true rfl) (tbd tv_X11_copy rfl) (fun v91w f91 q91 => ?_) (fun _ _ h => h.elim)
        obtain ⟨rfl, ha91, fa91⟩ := q91
        refine G.eqs [.int (v91)] rfl ?_
        refine G.go tv_X11_copy 1 85 [(0, .ref (gAd E (0))), (1, .int (v85)), (2, .int (v87)), (3, .int (v88)), (4, .int (v90))] [.ref (gAd E (0)), .int (v91)] rfl ?_
        refine G.getf cls_X11 (0) 8 (by omega) (ha91.q0) (by decide) rfl (tbd tv_X11_copy rfl) w_571 ?_
        refine G.getf cls_X7 (37) 5 (by omega) (ha91.q37) (by decide) rfl (tbd tv_X11_copy rfl) w_488 ?_
        refine G.eq1 (b := cS D88 3705) (hD88.1 3705 (by decide)) ?_
        refine G.go tv_X11_copy 4 95 [(0, .ref (gAd E (0))), (1, .int (v85)), (2, .int (v87)), (3, .int (v88)), (4, .int (v90))] [.ref (gAd E (0)), .int (((v91) + (cS D88 3705)) + (v88))] rfl ?_
        refine G.getf cls_X11 (0) 7 (by omega) (ha91.q0) (by decide) rfl (tbd tv_X11_copy rfl) w_570 ?_
        obtain ⟨v92, hv92, hr⟩ := bnd_s hr
        refine G.callV (25) [] [.int (((v91) + (cS D88 3705)) + (v88))] (k_X10_available E _ N B gr C88 D88 A86 hz ha91 hD88 hA88 v92 hv92) cls_X10 (by omega) (ha91.q25) cw_X11_269 w_1409 w_1410 (Nat.le_of_ble_eq_true rfl) rfl (Nat.le_of_ble_eq_true rfl) (tbd tv_X11_copy rfl) (fun v92w f92 q92 => ?_) (fun _ _ h => h.elim)
        obtain ⟨rfl, ha92, fa92⟩ := q92
        refine G.eqs [.int (v92), .int (((v91) + (cS D88 3705)) + (v88))] rfl ?_
        refine G.cmp_le 107 (tbd tv_X11_copy rfl) (by decide) (fun c101 => ?_) (fun c101 => ?_)
        · replace hr := ite_t c101 hr
          refine G.go tv_X11_copy 1 108 [(0, .ref (gAd E (0))), (1, .int (v85)), (2, .int (v87)), (3, .int (v88)), (4, .int (v90))] [.ref (gAd E (0))] rfl ?_
          refine G.getf cls_X11 (0) 8 (by omega) (ha92.q0) (by decide) rfl (tbd tv_X11_copy rfl) w_571 ?_
          refine G.go tv_X11_copy 1 112 [(0, .ref (gAd E (0))), (1, .int (v85)), (2, .int (v87)), (3, .int (v88)), (4, .int (v90))] [.int ((1 : Int32)), .ref (gAd E (37))] rfl ?_
          obtain ⟨v93, A93, D93, hv93, hr⟩ := bnd3_s hr
          refine G.callV (37) [.int ((1 : Int32))] [] (k_X7_create E _ N B gr C88 D88 A86 hz ha92 hD88 hA88 ((1 : Int32)) v93 A93 D93 hv93) cls_X7 (by omega) (ha92.q37) cw_X11_289 w_1427 w_1428 (Nat.le_of_ble_eq_true rfl) rfl (Nat.le_of_ble_eq_true rfl) (tbd tv_X11_copy rfl) (fun v93w f93 q93 => ?_) (fun _ _ h => h.elim)
          obtain ⟨rfl, C93, ha93, hD93, hA93, fa93⟩ := q93
          refine G.eqs [.int (v93)] rfl ?_
          refine G.go tv_X11_copy 2 118 [(0, .ref (gAd E (0))), (1, .int (v85)), (2, .int (v87)), (3, .int (v88)), (4, .int (v90)), (5, .int (v93))] [.ref (gAd E (0))] rfl ?_
          refine G.getf cls_X11 (0) 10 (by omega) (ha93.q0) (by decide) rfl (tbd tv_X11_copy rfl) w_573 ?_
          refine G.go tv_X11_copy 2 124 [(0, .ref (gAd E (0))), (1, .int (v85)), (2, .int (v87)), (3, .int (v88)), (4, .int (v90)), (5, .int (v93))] [.ref (gAd E (0)), .int (v90), .ref (gAd E (40))] rfl ?_
          refine G.getf cls_X11 (0) 14 (by omega) (ha93.q0) (by decide) rfl (tbd tv_X11_copy rfl) w_577 ?_
          refine G.go tv_X11_copy 1 129 [(0, .ref (gAd E (0))), (1, .int (v85)), (2, .int (v87)), (3, .int (v88)), (4, .int (v90)), (5, .int (v93))] [.int (v93), .ref (gAd E (50)), .int (v90), .ref (gAd E (40))] rfl ?_
          rcases bndF_s hr with ⟨v94, A94, D94, hv94, hr⟩ | ⟨ex94, A94, D94, hv94, rfl⟩
          rotate_left
          · skip
            refine G.callV (40) [.int (v90), .ref (gAd E (50)), .int (v93)] [] (k_X4_addName_50 E _ N B gr C93 D93 A93 hz ha93 hD93 hA93 v90 v93 _ hv94) cls_X4 (by omega) (ha93.q40) cw_X11_292 w_1436 w_1437 (Nat.le_of_ble_eq_true rfl) rfl (Nat.le_of_ble_eq_true rfl) (tbd tv_X11_copy rfl) (fun v94w f94 q94 => ?_) (fun X g q => FQ.fr q (((((((((Fr.rf.tr fa85 (fun _ h => h)).tr fa86 (fun _ h => h)).tr fa87 (fun _ h => h)).tr fa88 (fun _ h => h)).tr fa89 (fun _ h => h)).tr fa90 (fun _ h => h)).tr fa91 (fun _ h => h)).tr fa92 (fun _ h => h)).tr fa93 (fun _ h => h)))
            exact q94.elim
          refine G.callV (40) [.int (v90), .ref (gAd E (50)), .int (v93)] [] (k_X4_addName_50 E _ N B gr C93 D93 A93 hz ha93 hD93 hA93 v90 v93 _ hv94) cls_X4 (by omega) (ha93.q40) cw_X11_292 w_1436 w_1437 (Nat.le_of_ble_eq_true rfl) rfl (Nat.le_of_ble_eq_true rfl) (tbd tv_X11_copy rfl) (fun v94w f94 q94 => ?_) (fun _ _ h => h.elim)
          obtain ⟨rfl, C94, ha94, hD94, hA94, fa94⟩ := q94
          refine G.eqs [] rfl ?_
          refine G.go tv_X11_copy 1 133 [(0, .ref (gAd E (0))), (1, .int (v85)), (2, .int (v87)), (3, .int (v88)), (4, .int (v90)), (5, .int (v93))] [.ref (gAd E (0))] rfl ?_
          refine G.getf cls_X11 (0) 11 (by omega) (ha94.q0) (by decide) rfl (tbd tv_X11_copy rfl) w_574 ?_
          refine G.go tv_X11_copy 2 139 [(0, .ref (gAd E (0))), (1, .int (v85)), (2, .int (v87)), (3, .int (v88)), (4, .int (v90)), (5, .int (v93))] [.int (v93), .int (v87), .ref (gAd E (41))] rfl ?_
          rcases bndF_s hr with ⟨v95, A95, D95, hv95, hr⟩ | ⟨ex95, A95, D95, hv95, rfl⟩
          rotate_left
          · skip
            refine G.callV (41) [.int (v87), .int (v93)] [] (k_X3_fillCopy E _ N B gr C94 D94 A94 hz ha94 hD94 hA94 v87 v93 _ hv95) cls_X3 (by omega) (ha94.q41) cw_X11_349 w_1557 w_1558 (Nat.le_of_ble_eq_true rfl) rfl (Nat.le_of_ble_eq_true rfl) (tbd tv_X11_copy rfl) (fun v95w f95 q95 => ?_) (fun X g q => FQ.fr q ((((((((((Fr.rf.tr fa85 (fun _ h => h)).tr fa86 (fun _ h => h)).tr fa87 (fun _ h => h)).tr fa88 (fun _ h => h)).tr fa89 (fun _ h => h)).tr fa90 (fun _ h => h)).tr fa91 (fun _ h => h)).tr fa92 (fun _ h => h)).tr fa93 (fun _ h => h)).tr fa94 (fun _ h => h)))
            exact q95.elim
          refine G.callV (41) [.int (v87), .int (v93)] [] (k_X3_fillCopy E _ N B gr C94 D94 A94 hz ha94 hD94 hA94 v87 v93 _ hv95) cls_X3 (by omega) (ha94.q41) cw_X11_349 w_1557 w_1558 (Nat.le_of_ble_eq_true rfl) rfl (Nat.le_of_ble_eq_true rfl) (tbd tv_X11_copy rfl) (fun v95w f95 q95 => ?_) (fun _ _ h => h.elim)
          obtain ⟨rfl, C95, ha95, hD95, hA95, fa95⟩ := q95
          refine G.eqs [] rfl ?_
          refine G.go tv_X11_copy 1 143 [(0, .ref (gAd E (0))), (1, .int (v85)), (2, .int (v87)), (3, .int (v88)), (4, .int (v90)), (5, .int (v93))] [.ref (gAd E (0))] rfl ?_
          refine G.getf cls_X11 (0) 7 (by omega) (ha95.q0) (by decide) rfl (tbd tv_X11_copy rfl) w_570 ?_
          rcases bndF_s hr with ⟨v96, A96, D96, hv96, hr⟩ | ⟨ex96, A96, D96, hv96, rfl⟩
          rotate_left
          · skip
            refine G.callV (25) [] [] (k_X10_finish E _ N B gr C95 D95 A95 hz ha95 hD95 hA95 _ hv96) cls_X10 (by omega) (ha95.q25) cw_X11_244 w_1247 w_1248 (Nat.le_of_ble_eq_true rfl) rfl (Nat.le_of_ble_eq_true rfl) (tbd tv_X11_copy rfl) (fun v96w f96 q96 => ?_) (fun X g q => FQ.fr q (((((((((((Fr.rf.tr fa85 (fun _ h => h)).tr fa86 (fun _ h => h)).tr fa87 (fun _ h => h)).tr fa88 (fun _ h => h)).tr fa89 (fun _ h => h)).tr fa90 (fun _ h => h)).tr fa91 (fun _ h => h)).tr fa92 (fun _ h => h)).tr fa93 (fun _ h => h)).tr fa94 (fun _ h => h)).tr fa95 (fun _ h => h)))
            exact q96.elim
          refine G.callV (25) [] [] (k_X10_finish E _ N B gr C95 D95 A95 hz ha95 hD95 hA95 _ hv96) cls_X10 (by omega) (ha95.q25) cw_X11_244 w_1247 w_1248 (Nat.le_of_ble_eq_true rfl) rfl (Nat.le_of_ble_eq_true rfl) (tbd tv_X11_copy rfl) (fun v96w f96 q96 => ?_) (fun _ _ h => h.elim)
          obtain ⟨rfl, C96, ha96, hD96, hA96, fa96⟩ := q96
          refine G.eqs [] rfl ?_
          refine G.go tv_X11_copy 1 151 [(0, .ref (gAd E (0))), (1, .int (v85)), (2, .int (v87)), (3, .int (v88)), (4, .int (v90)), (5, .int (v93))] [.int (v93)] rfl ?_
          cases hr
          exact G.iret rfl rfl (FQ.ok rfl ⟨C96, ha96, hD96, hA96, ((((((((((((Fr.rf.tr fa85 (fun _ h => h)).tr fa86 (fun _ h => h)).tr fa87 (fun _ h => h)).tr fa88 (fun _ h => h)).tr fa89 (fun _ h => h)).tr fa90 (fun _ h => h)).tr fa91 (fun _ h => h)).tr fa92 (fun _ h => h)).tr fa93 (fun _ h => h)).tr fa94 (fun _ h => h)).tr fa95 (fun _ h => h)).tr fa96 (fun _ h => h))⟩) (tbd tv_X11_copy rfl)
        · replace hr := ite_f c101 hr
          refine G.go tv_X11_copy 1 106 [(0, .ref (gAd E (0))), (1, .int (v85)), (2, .int (v87)), (3, .int (v88)), (4, .int (v90))] [.int ((-7 : Int32))] rfl ?_
          cases hr
          exact G.iret rfl rfl (FQ.ok rfl ⟨C88, ha92, hD88, hA88, ((((((((Fr.rf.tr fa85 (fun _ h => h)).tr fa86 (fun _ h => h)).tr fa87 (fun _ h => h)).tr fa88 (fun _ h => h)).tr fa89 (fun _ h => h)).tr fa90 (fun _ h => h)).tr fa91 (fun _ h => h)).tr fa92 (fun _ h => h))⟩) (tbd tv_X11_copy rfl)
      · replace hr := ite_t c47 hr
        refine G.go tv_X11_copy 1 52 [(0, .ref (gAd E (0))), (1, .int (v85)), (2, .int (v87)), (3, .int (v88))] [.int ((-8 : Int32))] rfl ?_
        cases hr
        exact G.iret rfl rfl (FQ.ok rfl ⟨C88, ha89, hD88, hA88, (((((Fr.rf.tr fa85 (fun _ h => h)).tr fa86 (fun _ h => h)).tr fa87 (fun _ h => h)).tr fa88 (fun _ h => h)).tr fa89 (fun _ h => h))⟩) (tbd tv_X11_copy rfl)
    · replace hr := ite_f c33 hr
      refine G.go tv_X11_copy 1 38 [(0, .ref (gAd E (0))), (1, .int (v85)), (2, .int (v87)), (3, .int (v88))] [.int ((-12 : Int32))] rfl ?_
      cases hr
      exact G.iret rfl rfl (FQ.ok rfl ⟨C88, ha88, hD88, hA88, ((((Fr.rf.tr fa85 (fun _ h => h)).tr fa86 (fun _ h => h)).tr fa87 (fun _ h => h)).tr fa88 (fun _ h => h))⟩) (tbd tv_X11_copy rfl)
  · replace hr := ite_f c16 hr
    refine G.go tv_X11_copy 1 20 [(0, .ref (gAd E (0))), (1, .int (v85)), (2, .int (v87))] [.int (v87)] rfl ?_
    cases hr
    exact G.iret rfl rfl (FQ.ok rfl ⟨C87, ha87, hD87, hA87, (((Fr.rf.tr fa85 (fun _ h => h)).tr fa86 (fun _ h => h)).tr fa87 (fun _ h => h))⟩) (tbd tv_X11_copy rfl)
noncomputable def d_X11_find (N B gr : Nat) (A : MS) (D : CfT) : Option (FR Int32) := bnd2 (d_X11_useTape N (vA A) D) (fun v97 D97 => bndF (d_X11_needMounted N B gr A D97) (fun v98 A98 D98 => bnd2 (d_X8_parse_47 N (vA A98) D98 ((0 : Int32)) v97) (fun v99 D99 => if v99 = 0 then some (.inl ((-6 : Int32), A98, D99)) else bnd (d_X4_walk_47 N (vA A98) D99 (cS D99 4702)) (fun v100 => some (.inl (v100, A98, D99))))))
set_option maxRecDepth 100000 in
set_option maxHeartbeats 4000000 in
theorem k_X11_find (E : gE) (f : Nat → va_E) (N B gr : Nat) (C D : CfT) (A : MS) (hz : CfZ E N B gr) (h : CfV E f N B gr C) (hD : Dq D C) (hA : AR N B gr A C) (r : FR Int32) (hr : d_X11_find N B gr A D = some r) : Ct E 8 yX11_find cX11_find 2 (some .int) [.ref (gAd E (0))] f (FQ E N B gr f (fun r => some (.int r)) r) := by
  obtain ⟨z1, z2, z3, z4, z5, z6, z7⟩ := id hz
  refine Ct.of (by decide) (Nat.le_of_ble_eq_true rfl) (fun sz => ?_)
  refine G.eql [(0, .ref (gAd E (0)))] rfl ?_
  unfold d_X11_find at hr
  refine G.go tv_X11_find 1 1 [(0, .ref (gAd E (0)))] [.ref (gAd E (0))] rfl ?_
  obtain ⟨v97, D97, hv97, hr⟩ := bnd2_s hr
  refine G.callV (0) [] [] (k_X11_useTape E _ N B gr C D A hz h hD hA v97 D97 hv97) cls_X11 (by omega) (h.q0) cw_X11_272 w_1343 w_29 (Nat.le_of_ble_eq_true rfl) rfl (Nat.le_of_ble_eq_true rfl) (tbd tv_X11_find rfl) (fun v97w f97 q97 => ?_) (fun _ _ h => h.elim)
  obtain ⟨rfl, C97, ha97, hD97, hA97, hR97, fa97⟩ := q97
  refine G.eqs [.int (v97)] rfl ?_
  refine G.go tv_X11_find 2 6 [(0, .ref (gAd E (0))), (1, .int (v97))] [.ref (gAd E (0))] rfl ?_
  rcases bndF_s hr with ⟨v98, A98, D98, hv98, hr⟩ | ⟨ex98, A98, D98, hv98, rfl⟩
  rotate_left
  · skip
    refine G.callV (0) [] [] (k_X11_needMounted E _ N B gr C97 D97 A hz ha97 hD97 hA97 _ hv98) cls_X11 (by omega) (ha97.q0) cw_X11_221 w_1320 w_27 (Nat.le_of_ble_eq_true rfl) rfl (Nat.le_of_ble_eq_true rfl) (tbd tv_X11_find rfl) (fun v98w f98 q98 => ?_) (fun X g q => FQ.fr q (Fr.rf.tr fa97 (fun _ h => h)))
    exact q98.elim
  refine G.callV (0) [] [] (k_X11_needMounted E _ N B gr C97 D97 A hz ha97 hD97 hA97 _ hv98) cls_X11 (by omega) (ha97.q0) cw_X11_221 w_1320 w_27 (Nat.le_of_ble_eq_true rfl) rfl (Nat.le_of_ble_eq_true rfl) (tbd tv_X11_find rfl) (fun v98w f98 q98 => ?_) (fun _ _ h => h.elim)
  obtain ⟨rfl, C98, ha98, hD98, hA98, fa98⟩ := q98
  refine G.eqs [] rfl ?_
  refine G.go tv_X11_find 1 10 [(0, .ref (gAd E (0))), (1, .int (v97))] [.ref (gAd E (0))] rfl ?_
  refine G.getf cls_X11 (0) 13 (by omega) (ha98.q0) (by decide) rfl (tbd tv_X11_find rfl) w_576 ?_
  refine G.go tv_X11_find 1 14 [(0, .ref (gAd E (0))), (1, .int (v97))] [.ref (gAd E (0)), .ref (gAd E (47))] rfl ?_
  refine G.getf cls_X11 (0) 0 (by omega) (ha98.q0) (by decide) rfl (tbd tv_X11_find rfl) w_563 ?_
  refine G.go tv_X11_find 2 19 [(0, .ref (gAd E (0))), (1, .int (v97))] [.int (v97), .int ((0 : Int32)), .ref (gAd E (1)), .ref (gAd E (47))] rfl ?_
  obtain ⟨v99, D99, hv99, hr⟩ := bnd2_s hr
  refine G.callV (47) [.ref (gAd E (1)), .int ((0 : Int32)), .int (v97)] [] (k_X8_parse_47 E _ N B gr C98 D98 A98 hz ha98 hD98 hA98 ((0 : Int32)) v97 v99 D99 hv99) cls_X8 (by omega) (ha98.q47) cw_X11_259 w_1346 w_1347 (Nat.le_of_ble_eq_true rfl) rfl (Nat.le_of_ble_eq_true rfl) (tbd tv_X11_find rfl) (fun v99w f99 q99 => ?_) (fun _ _ h => h.elim)
  obtain ⟨rfl, C99, ha99, hD99, hA99, hR99, fa99⟩ := q99
  refine G.eqs [.int (v99)] rfl ?_
  refine G.if_eq 46 (tbd tv_X11_find rfl) (by decide) (fun c22 => ?_) (fun c22 => ?_)
  · replace hr := ite_t c22 hr
    refine G.go tv_X11_find 1 48 [(0, .ref (gAd E (0))), (1, .int (v97))] [.int ((-6 : Int32))] rfl ?_
    cases hr
    exact G.iret rfl rfl (FQ.ok rfl ⟨C99, ha99, hD99, hA99, (((Fr.rf.tr fa97 (fun _ h => h)).tr fa98 (fun _ h => h)).tr fa99 (fun _ h => h))⟩) (tbd tv_X11_find rfl)
  · replace hr := ite_f c22 hr
    refine G.go tv_X11_find 1 26 [(0, .ref (gAd E (0))), (1, .int (v97))] [.ref (gAd E (0))] rfl ?_
    refine G.getf cls_X11 (0) 10 (by omega) (ha99.q0) (by decide) rfl (tbd tv_X11_find rfl) w_573 ?_
    refine G.go tv_X11_find 1 30 [(0, .ref (gAd E (0))), (1, .int (v97))] [.ref (gAd E (0)), .ref (gAd E (40))] rfl ?_
    refine G.getf cls_X11 (0) 13 (by omega) (ha99.q0) (by decide) rfl (tbd tv_X11_find rfl) w_576 ?_
    refine G.go tv_X11_find 1 34 [(0, .ref (gAd E (0))), (1, .int (v97))] [.ref (gAd E (0)), .ref (gAd E (47)), .ref (gAd E (40))] rfl ?_
    refine G.getf cls_X11 (0) 13 (by omega) (ha99.q0) (by decide) rfl (tbd tv_X11_find rfl) w_576 ?_
    refine G.getf cls_X8 (47) 2 (by omega) (ha99.q47) (by decide) rfl (tbd tv_X11_find rfl) w_198 ?_
    refine G.eq1 (b := cS D99 4702) (hD99.1 4702 (by decide)) ?_
    obtain ⟨v100, hv100, hr⟩ := bnd_s hr
    refine G.callV (40) [.ref (gAd E (47)), .int (cS D99 4702)] [] (k_X4_walk_47 E _ N B gr C99 D99 A98 hz ha99 hD99 hA99 (cS D99 4702) v100 hv100) cls_X4 (by omega) (ha99.q40) cw_X11_278 w_1356 w_1357 (Nat.le_of_ble_eq_true rfl) rfl (Nat.le_of_ble_eq_true rfl) (tbd tv_X11_find rfl) (fun v100w f100 q100 => ?_) (fun _ _ h => h.elim)
    obtain ⟨rfl, ha100, fa100⟩ := q100
    refine G.eqs [.int (v100)] rfl ?_
    refine G.go tv_X11_find 1 48 [(0, .ref (gAd E (0))), (1, .int (v97))] [.int (v100)] rfl ?_
    cases hr
    exact G.iret rfl rfl (FQ.ok rfl ⟨C99, ha100, hD99, hA99, ((((Fr.rf.tr fa97 (fun _ h => h)).tr fa98 (fun _ h => h)).tr fa99 (fun _ h => h)).tr fa100 (fun _ h => h))⟩) (tbd tv_X11_find rfl)
