def tb_X11_needMounted : List (Nat × Instr × Nat) := [(0, .aload_n 0, 1), (1, .getfield 140, 3), (4, .ifCond .eq 13, 3), (7, .aload_n 0, 1), (8, .getfield 47, 3), (11, .getfield 144, 3), (14, .ifCond .ne 13, 3), (17, .new 147, 3), (20, .dup, 1), (21, .ldc 149, 2), (23, .invokespecial 151, 3), (26, .athrow, 1), (27, .return_, 1)]
theorem tv_X11_needMounted : Tv cX11_needMounted tb_X11_needMounted := by
  unfold Tv
  decide +kernel
theorem w_565 : Cond.fieldLink "LedgerFiles" 140 "LedgerFiles" "mounted" "Z" ∈ TB := tp_2 179 (by decide +kernel) rfl
theorem w_646 : Cond.classLink "LedgerFiles" 147 "java/lang/IllegalStateException" ∈ TB := tp_3 20 (by decide +kernel) rfl
theorem w_165 : Cond.initialized "java/lang/IllegalStateException" ∈ TB := tp_1 19 (by decide +kernel) rfl
theorem at_X11_151 : ∀ w ∈ vx_atS RX11 151 "java/lang/IllegalStateException" ["java/lang/RuntimeException", "java/lang/Exception"], w ∈ TB ∨ w = .castable "java/lang/IllegalStateException" "java/lang/IllegalStateException" ∨ w ∈ gDcl.map Cond.declares := by
  have h1 : ∀ w ∈ vx_atS RX11 151 "java/lang/IllegalStateException" ["java/lang/RuntimeException", "java/lang/Exception"], w ∈ lw_tbl := by decide +kernel
  have h2 : ∀ w ∈ vx_atS RX11 151 "java/lang/IllegalStateException" ["java/lang/RuntimeException", "java/lang/Exception"], goodWord w = true ∨ w = .castable "java/lang/IllegalStateException" "java/lang/IllegalStateException" ∨ w ∈ gDcl.map Cond.declares := by decide +kernel
  exact fun w hw => (h2 w hw).elim (fun h => Or.inl (List.mem_filter.mpr ⟨h1 w hw, h⟩)) Or.inr
theorem w_566 : Cond.fieldLink "LedgerFiles" 47 "LedgerFiles" "disk" "LLedgerFiles$Disk;" ∈ TB := tp_2 180 (by decide +kernel) rfl
theorem w_243 : Cond.fieldLink "LedgerFiles" 144 "LedgerFiles$Disk" "on" "Z" ∈ TB := tp_1 97 (by decide +kernel) rfl
set_option maxRecDepth 100000 in
set_option maxHeartbeats 4000000 in
theorem c_X11_needMounted (E : gE) (f : Nat → va_E) (tp : Nat → Int32) (fd : Nat) (mo : Int32) (hE : 350 ≤ gN E) (hm : MnV E f tp fd mo) (hfd : fd ≤ 1024) (N : Nat) (d : DkT) (on le wr ss : Int32) (hE1 : 350 + N ≤ gN E) (hN : N ≤ 1024) (hdv : DkV E f N d on le wr ss) (hdo : dOk N d) : Ct E 6 yX11_needMounted cX11_needMounted 1 none [.ref (gAd E (0))] f (fun v g => v = none ∧ f = g ∧ ¬ mo = 0 ∧ ¬ on = 0, fun X g => X = "java/lang/IllegalStateException" ∧ f = g ∧ ¬ (¬ mo = 0 ∧ ¬ on = 0)) := by
  have hdv2 : f 2 = .inr (2, [.int (nI N), .ref (gAd E 3), .ref (gAd E 4), .ref (gAd E 5), .ref (gAd E 6), .ref (gAd E 7), .int (nI d.2.2.2.2.2.1), .int (nI d.2.2.2.2.2.2), .int on, .int le, .int wr, .int ss]) := by obtain ⟨dw, dla, dbo, dsy, dva, da, dn⟩ := d; exact hdv.1
  obtain ⟨m0, m1⟩ := id hm
  refine Ct.of (by decide) (Nat.le_of_ble_eq_true rfl) (fun sz => ?_)
  refine G.eql [(0, .ref (gAd E (0)))] rfl ?_
  refine G.go tv_X11_needMounted 1 1 [(0, .ref (gAd E (0)))] [.ref (gAd E (0))] rfl ?_
  refine G.getf cls_X11 (0) 2 (by omega) (m0) (by decide) rfl (tbd tv_X11_needMounted rfl) w_565 ?_
  refine G.if_eq 17 (tbd tv_X11_needMounted rfl) (by decide) (fun c4 => ?_) (fun c4 => ?_)
  · skip
    exact G.thr (cls := "java/lang/IllegalStateException") (text := "not mounted") (names := ["java/lang/RuntimeException", "java/lang/Exception"]) (by decide +kernel) (by decide +kernel) w_646 w_165 (own := "LedgerFiles") rfl (by decide +kernel) (by decide +kernel) at_X11_151 (tbd tv_X11_needMounted rfl) (tbd tv_X11_needMounted rfl) (tbd tv_X11_needMounted rfl) (tbd tv_X11_needMounted rfl) (tbd tv_X11_needMounted rfl) (Nat.le_of_ble_eq_true rfl) (Nat.le_of_ble_eq_true rfl) (⟨rfl, rfl, by intro q; first | exact q.1 c4 | exact q.2 c14⟩)
  · skip
    refine G.go tv_X11_needMounted 1 8 [(0, .ref (gAd E (0)))] [.ref (gAd E (0))] rfl ?_
    refine G.getf cls_X11 (0) 3 (by omega) (m0) (by decide) rfl (tbd tv_X11_needMounted rfl) w_566 ?_
    refine G.getf cls_X2 (2) 8 (by omega) (hdv2) (by decide) rfl (tbd tv_X11_needMounted rfl) w_243 ?_
    refine G.if_ne 27 (tbd tv_X11_needMounted rfl) (by decide) (fun c14 => ?_) (fun c14 => ?_)
    · skip
      exact G.vret rfl (⟨rfl, rfl, c4, c14⟩) (tbd tv_X11_needMounted rfl)
    · skip
      exact G.thr (cls := "java/lang/IllegalStateException") (text := "not mounted") (names := ["java/lang/RuntimeException", "java/lang/Exception"]) (by decide +kernel) (by decide +kernel) w_646 w_165 (own := "LedgerFiles") rfl (by decide +kernel) (by decide +kernel) at_X11_151 (tbd tv_X11_needMounted rfl) (tbd tv_X11_needMounted rfl) (tbd tv_X11_needMounted rfl) (tbd tv_X11_needMounted rfl) (tbd tv_X11_needMounted rfl) (Nat.le_of_ble_eq_true rfl) (Nat.le_of_ble_eq_true rfl) (⟨rfl, rfl, by intro q; first | exact q.1 c4 | exact q.2 c14⟩)
def tb_X11_needUnmounted : List (Nat × Instr × Nat) := [(0, .aload_n 0, 1), (1, .getfield 140, 3), (4, .ifCond .ne 13, 3), (7, .aload_n 0, 1), (8, .getfield 47, 3), (11, .getfield 144, 3), (14, .ifCond .ne 13, 3), (17, .new 147, 3), (20, .dup, 1), (21, .ldc 154, 2), (23, .invokespecial 151, 3), (26, .athrow, 1), (27, .return_, 1)]
theorem tv_X11_needUnmounted : Tv cX11_needUnmounted tb_X11_needUnmounted := by
  unfold Tv
  decide +kernel
set_option maxRecDepth 100000 in
set_option maxHeartbeats 4000000 in
theorem c_X11_needUnmounted (E : gE) (f : Nat → va_E) (tp : Nat → Int32) (fd : Nat) (mo : Int32) (hE : 350 ≤ gN E) (hm : MnV E f tp fd mo) (hfd : fd ≤ 1024) (N : Nat) (d : DkT) (on le wr ss : Int32) (hE1 : 350 + N ≤ gN E) (hN : N ≤ 1024) (hdv : DkV E f N d on le wr ss) (hdo : dOk N d) : Ct E 6 yX11_needUnmounted cX11_needUnmounted 1 none [.ref (gAd E (0))] f (fun v g => v = none ∧ f = g ∧ mo = 0 ∧ ¬ on = 0, fun X g => X = "java/lang/IllegalStateException" ∧ f = g ∧ ¬ (mo = 0 ∧ ¬ on = 0)) := by
  have hdv2 : f 2 = .inr (2, [.int (nI N), .ref (gAd E 3), .ref (gAd E 4), .ref (gAd E 5), .ref (gAd E 6), .ref (gAd E 7), .int (nI d.2.2.2.2.2.1), .int (nI d.2.2.2.2.2.2), .int on, .int le, .int wr, .int ss]) := by obtain ⟨dw, dla, dbo, dsy, dva, da, dn⟩ := d; exact hdv.1
  obtain ⟨m0, m1⟩ := id hm
  refine Ct.of (by decide) (Nat.le_of_ble_eq_true rfl) (fun sz => ?_)
  refine G.eql [(0, .ref (gAd E (0)))] rfl ?_
  refine G.go tv_X11_needUnmounted 1 1 [(0, .ref (gAd E (0)))] [.ref (gAd E (0))] rfl ?_
  refine G.getf cls_X11 (0) 2 (by omega) (m0) (by decide) rfl (tbd tv_X11_needUnmounted rfl) w_565 ?_
  refine G.if_ne 17 (tbd tv_X11_needUnmounted rfl) (by decide) (fun c4 => ?_) (fun c4 => ?_)
  · skip
    exact G.thr (cls := "java/lang/IllegalStateException") (text := "mounted, or without power") (names := ["java/lang/RuntimeException", "java/lang/Exception"]) (by decide +kernel) (by decide +kernel) w_646 w_165 (own := "LedgerFiles") rfl (by decide +kernel) (by decide +kernel) at_X11_151 (tbd tv_X11_needUnmounted rfl) (tbd tv_X11_needUnmounted rfl) (tbd tv_X11_needUnmounted rfl) (tbd tv_X11_needUnmounted rfl) (tbd tv_X11_needUnmounted rfl) (Nat.le_of_ble_eq_true rfl) (Nat.le_of_ble_eq_true rfl) (⟨rfl, rfl, by intro q; first | exact c4 q.1 | exact q.2 c14⟩)
  · skip
    refine G.go tv_X11_needUnmounted 1 8 [(0, .ref (gAd E (0)))] [.ref (gAd E (0))] rfl ?_
    refine G.getf cls_X11 (0) 3 (by omega) (m0) (by decide) rfl (tbd tv_X11_needUnmounted rfl) w_566 ?_
    refine G.getf cls_X2 (2) 8 (by omega) (hdv2) (by decide) rfl (tbd tv_X11_needUnmounted rfl) w_243 ?_
    refine G.if_ne 27 (tbd tv_X11_needUnmounted rfl) (by decide) (fun c14 => ?_) (fun c14 => ?_)
    · skip
      exact G.vret rfl (⟨rfl, rfl, c4, c14⟩) (tbd tv_X11_needUnmounted rfl)
    · skip
      exact G.thr (cls := "java/lang/IllegalStateException") (text := "mounted, or without power") (names := ["java/lang/RuntimeException", "java/lang/Exception"]) (by decide +kernel) (by decide +kernel) w_646 w_165 (own := "LedgerFiles") rfl (by decide +kernel) (by decide +kernel) at_X11_151 (tbd tv_X11_needUnmounted rfl) (tbd tv_X11_needUnmounted rfl) (tbd tv_X11_needUnmounted rfl) (tbd tv_X11_needUnmounted rfl) (tbd tv_X11_needUnmounted rfl) (Nat.le_of_ble_eq_true rfl) (Nat.le_of_ble_eq_true rfl) (⟨rfl, rfl, by intro q; first | exact c4 q.1 | exact q.2 c14⟩)
def tb_X11_needPower : List (Nat × Instr × Nat) := [(0, .aload_n 0, 1), (1, .getfield 47, 3), (4, .getfield 144, 3), (7, .ifCond .ne 14, 3), (10, .new 147, 3), (13, .dup, 1), (14, .ldc_w 460, 3), (17, .invokespecial 151, 3), (20, .athrow, 1), (21, .return_, 1)]
theorem tv_X11_needPower : Tv cX11_needPower tb_X11_needPower := by
  unfold Tv
  decide +kernel
set_option maxRecDepth 100000 in
set_option maxHeartbeats 4000000 in
theorem c_X11_needPower (E : gE) (f : Nat → va_E) (tp : Nat → Int32) (fd : Nat) (mo : Int32) (hE : 350 ≤ gN E) (hm : MnV E f tp fd mo) (hfd : fd ≤ 1024) (N : Nat) (d : DkT) (on le wr ss : Int32) (hE1 : 350 + N ≤ gN E) (hN : N ≤ 1024) (hdv : DkV E f N d on le wr ss) (hdo : dOk N d) : Ct E 6 yX11_needPower cX11_needPower 1 none [.ref (gAd E (0))] f (fun v g => v = none ∧ f = g ∧ ¬ on = 0, fun X g => X = "java/lang/IllegalStateException" ∧ f = g ∧ on = 0) := by
  have hdv2 : f 2 = .inr (2, [.int (nI N), .ref (gAd E 3), .ref (gAd E 4), .ref (gAd E 5), .ref (gAd E 6), .ref (gAd E 7), .int (nI d.2.2.2.2.2.1), .int (nI d.2.2.2.2.2.2), .int on, .int le, .int wr, .int ss]) := by obtain ⟨dw, dla, dbo, dsy, dva, da, dn⟩ := d; exact hdv.1
  obtain ⟨m0, m1⟩ := id hm
  refine Ct.of (by decide) (Nat.le_of_ble_eq_true rfl) (fun sz => ?_)
  refine G.eql [(0, .ref (gAd E (0)))] rfl ?_
  refine G.go tv_X11_needPower 1 1 [(0, .ref (gAd E (0)))] [.ref (gAd E (0))] rfl ?_
  refine G.getf cls_X11 (0) 3 (by omega) (m0) (by decide) rfl (tbd tv_X11_needPower rfl) w_566 ?_
  refine G.getf cls_X2 (2) 8 (by omega) (hdv2) (by decide) rfl (tbd tv_X11_needPower rfl) w_243 ?_
  refine G.if_ne 21 (tbd tv_X11_needPower rfl) (by decide) (fun c7 => ?_) (fun c7 => ?_)
  · skip
    exact G.vret rfl (⟨rfl, rfl, c7⟩) (tbd tv_X11_needPower rfl)
  · skip
    exact G.thrW (cls := "java/lang/IllegalStateException") (text := "without power") (names := ["java/lang/RuntimeException", "java/lang/Exception"]) (by decide +kernel) (by decide +kernel) w_646 w_165 (own := "LedgerFiles") rfl (by decide +kernel) (by decide +kernel) at_X11_151 (tbd tv_X11_needPower rfl) (tbd tv_X11_needPower rfl) (tbd tv_X11_needPower rfl) (tbd tv_X11_needPower rfl) (tbd tv_X11_needPower rfl) (Nat.le_of_ble_eq_true rfl) (Nat.le_of_ble_eq_true rfl) (⟨rfl, rfl, c7⟩)
def tb_X11_useTape : List (Nat × Instr × Nat) := [(0, .aload_n 0, 1), (1, .getfield 134, 3), (4, .istore_n 1, 1), (5, .aload_n 0, 1), (6, .iconst 0, 1), (7, .putfield 134, 3), (10, .iload_n 1, 1), (11, .ireturn, 1)]
theorem tv_X11_useTape : Tv cX11_useTape tb_X11_useTape := by
  unfold Tv
  decide +kernel
theorem w_564 : Cond.fieldLink "LedgerFiles" 134 "LedgerFiles" "fed" "I" ∈ TB := tp_2 178 (by decide +kernel) rfl
set_option maxRecDepth 100000 in
set_option maxHeartbeats 4000000 in
theorem c_X11_useTape (E : gE) (f : Nat → va_E) (tp : Nat → Int32) (fd : Nat) (mo : Int32) (hE : 350 ≤ gN E) (hm : MnV E f tp fd mo) (hfd : fd ≤ 1024) : Ct E 1 yX11_useTape cX11_useTape 2 (some .int) [.ref (gAd E (0))] f (fun v g => v = some (.int (nI fd)) ∧ MnV E g tp 0 mo ∧ Fr MnK f g, fun _ _ => False) := by
  obtain ⟨m0, m1⟩ := id hm
  refine Ct.of (by decide) (Nat.le_of_ble_eq_true rfl) (fun sz => ?_)
  refine G.eql [(0, .ref (gAd E (0)))] rfl ?_
  refine G.go tv_X11_useTape 1 1 [(0, .ref (gAd E (0)))] [.ref (gAd E (0))] rfl ?_
  refine G.getf cls_X11 (0) 1 (by omega) (m0) (by decide) rfl (tbd tv_X11_useTape rfl) w_564 ?_
  refine G.go tv_X11_useTape 3 7 [(0, .ref (gAd E (0))), (1, .int (nI fd))] [.int ((0 : Int32)), .ref (gAd E (0))] rfl ?_
  refine G.putfS cls_X11 (0) 1 [.ref (gAd E (1)), .int ((0 : Int32)), .int (mo), .ref (gAd E (2)), .ref (gAd E (8)), .ref (gAd E (13)), .ref (gAd E (17)), .ref (gAd E (25)), .ref (gAd E (37)), .ref (gAd E (32)), .ref (gAd E (40)), .ref (gAd E (41)), .ref (gAd E (44)), .ref (gAd E (47)), .ref (gAd E (50)), .ref (gAd E (53)), .ref (gAd E (54)), .ref (gAd E (55))] (by omega) (m0) rfl (by decide) rfl rfl rfl (Nat.le_of_ble_eq_true rfl) (tbd tv_X11_useTape rfl) w_564 ?_
  refine G.go tv_X11_useTape 1 11 [(0, .ref (gAd E (0))), (1, .int (nI fd))] [.int (nI fd)] rfl ?_
  exact G.iret rfl rfl (⟨rfl, ⟨up_e, up_n (by decide) (m1)⟩, Fr.up (Fr.rf) (by show _ ≤ _; decide)⟩) (tbd tv_X11_useTape rfl)
def tb_X11_back : List (Nat × Instr × Nat) := [(0, .iload_n 1, 1), (1, .ifCond .lt 11, 3), (4, .iload_n 1, 1), (5, .aload_n 0, 1), (6, .getfield 134, 3), (9, .if_icmp .le 5, 3), (12, .iconst (-1), 1), (13, .ireturn, 1), (14, .aload_n 0, 1), (15, .dup, 1), (16, .getfield 134, 3), (19, .iload_n 1, 1), (20, .isub, 1), (21, .putfield 134, 3), (24, .aload_n 0, 1), (25, .getfield 134, 3), (28, .ireturn, 1)]
theorem tv_X11_back : Tv cX11_back tb_X11_back := by
  unfold Tv
  decide +kernel
set_option maxRecDepth 100000 in
set_option maxHeartbeats 4000000 in
theorem c_X11_back (E : gE) (f : Nat → va_E) (tp : Nat → Int32) (fd : Nat) (mo : Int32) (hE : 350 ≤ gN E) (hm : MnV E f tp fd mo) (hfd : fd ≤ 1024) (x : Int32) : Ct E 1 yX11_back cX11_back 2 (some .int) [.ref (gAd E (0)), .int (x)] f (fun v g => ((x < 0 ∨ nI fd < x) ∧ v = some (.int (-1)) ∧ f = g) ∨ ∃ t, t ≤ fd ∧ x = nI t ∧ v = some (.int (nI (fd - t))) ∧ MnV E g tp (fd - t) mo ∧ Fr MnK f g, fun _ _ => False) := by
  obtain ⟨m0, m1⟩ := id hm
  refine Ct.of (by decide) (Nat.le_of_ble_eq_true rfl) (fun sz => ?_)
  refine G.eql [(0, .ref (gAd E (0))), (1, .int (x))] rfl ?_
  refine G.go tv_X11_back 1 1 [(0, .ref (gAd E (0))), (1, .int (x))] [.int (x)] rfl ?_
  refine G.if_lt 12 (tbd tv_X11_back rfl) (by decide) (fun c1 => ?_) (fun c1 => ?_)
  · skip
    refine G.go tv_X11_back 1 13 [(0, .ref (gAd E (0))), (1, .int (x))] [.int ((-1 : Int32))] rfl ?_
    exact G.iret rfl rfl (Or.inl ⟨Or.inl c1, rfl, rfl⟩) (tbd tv_X11_back rfl)
  · skip
    refine G.go tv_X11_back 2 6 [(0, .ref (gAd E (0))), (1, .int (x))] [.ref (gAd E (0)), .int (x)] rfl ?_
    refine G.getf cls_X11 (0) 1 (by omega) (m0) (by decide) rfl (tbd tv_X11_back rfl) w_564 ?_
    refine G.cmp_le 14 (tbd tv_X11_back rfl) (by decide) (fun c9 => ?_) (fun c9 => ?_)
    · obtain ⟨t, ht31, hxt⟩ := nI_of c1
      have htf : t ≤ fd := by rw [hxt] at c9; exact (nI_leI (by omega) (by omega)).mp c9
      refine G.go tv_X11_back 2 16 [(0, .ref (gAd E (0))), (1, .int (x))] [.ref (gAd E (0)), .ref (gAd E (0))] rfl ?_
      refine G.getf cls_X11 (0) 1 (by omega) (m0) (by decide) rfl (tbd tv_X11_back rfl) w_564 ?_
      refine G.go tv_X11_back 2 21 [(0, .ref (gAd E (0))), (1, .int (x))] [.int ((nI fd) - (x)), .ref (gAd E (0))] rfl ?_
      refine G.eqs [.int (nI (fd - t)), .ref (gAd E (0))] (by rw [hxt, pk_sub htf]) ?_
      refine G.putfS cls_X11 (0) 1 [.ref (gAd E (1)), .int (nI (fd - t)), .int (mo), .ref (gAd E (2)), .ref (gAd E (8)), .ref (gAd E (13)), .ref (gAd E (17)), .ref (gAd E (25)), .ref (gAd E (37)), .ref (gAd E (32)), .ref (gAd E (40)), .ref (gAd E (41)), .ref (gAd E (44)), .ref (gAd E (47)), .ref (gAd E (50)), .ref (gAd E (53)), .ref (gAd E (54)), .ref (gAd E (55))] (by omega) (m0) rfl (by decide) rfl rfl rfl (Nat.le_of_ble_eq_true rfl) (tbd tv_X11_back rfl) w_564 ?_
      refine G.go tv_X11_back 1 25 [(0, .ref (gAd E (0))), (1, .int (x))] [.ref (gAd E (0))] rfl ?_
      refine G.getf cls_X11 (0) 1 (by omega) (up_e) (by decide) rfl (tbd tv_X11_back rfl) w_564 ?_
      exact G.iret rfl rfl (Or.inr ⟨t, htf, hxt, rfl, ⟨up_e, up_n (by decide) (m1)⟩, Fr.up (Fr.rf) (by show _ ≤ _; decide)⟩) (tbd tv_X11_back rfl)
    · skip
      refine G.go tv_X11_back 1 13 [(0, .ref (gAd E (0))), (1, .int (x))] [.int ((-1 : Int32))] rfl ?_
      exact G.iret rfl rfl (Or.inl ⟨Or.inr (Int32.not_le.mp c9), rfl, rfl⟩) (tbd tv_X11_back rfl)
def tb_X11_feedInt : List (Nat × Instr × Nat) := [(0, .bipush 24, 2), (2, .istore_n 2, 1), (3, .iload_n 2, 1), (4, .ifCond .lt 42, 3), (7, .aload_n 0, 1), (8, .getfield 134, 3), (11, .sipush 1024, 3), (14, .if_icmp .ge 32, 3), (17, .aload_n 0, 1), (18, .getfield 9, 3), (21, .aload_n 0, 1), (22, .getfield 134, 3), (25, .iload_n 1, 1), (26, .iload_n 2, 1), (27, .ishr, 1), (28, .i2b, 1), (29, .bastore, 1), (30, .aload_n 0, 1), (31, .dup, 1), (32, .getfield 134, 3), (35, .iconst 1, 1), (36, .iadd, 1), (37, .putfield 134, 3), (40, .iinc 2 (-8), 3), (43, .goto (-40), 3), (46, .return_, 1)]
theorem tv_X11_feedInt : Tv cX11_feedInt tb_X11_feedInt := by
  unfold Tv
  decide +kernel
set_option maxRecDepth 100000 in
set_option maxHeartbeats 4000000 in
theorem w_563 : Cond.fieldLink "LedgerFiles" 9 "LedgerFiles" "tape" "[B" ∈ TB := tp_2 177 (by decide +kernel) rfl
/-- one byte of an int -/
theorem fi_one (E : gE) (f : Nat → va_E) (sz : Nat) (A : Nat → Prop) (Q : gQ) (tp : Nat → Int32) (fd : Nat) (mo : Int32) (hE : 350 ≤ gN E) (hm : MnV E f tp fd mo) (hfd : fd ≤ 1024) (v sh : Int32) (hs : ¬ sh < 0) (hlt : fd < 1024) (hq : ∀ g, MnV E g (upd tp fd (vp_nar .byte (v >>> (sh &&& 31)).toInt8.toInt32)) (fd + 1) mo → Fr MnK f g → G E (1, yX11_feedInt, 3, none, sz, A) cX11_feedInt (gO E (1, yX11_feedInt, 3, none, sz, A) Q) 3 [(0, .ref (gAd E (0))), (1, .int (v)), (2, .int (sh + (-8 : Int32)))] [] g) : G E (1, yX11_feedInt, 3, none, sz, A) cX11_feedInt (gO E (1, yX11_feedInt, 3, none, sz, A) Q) 3 [(0, .ref (gAd E (0))), (1, .int (v)), (2, .int (sh))] [] f := by
  obtain ⟨m0, m1⟩ := id hm
  refine G.go tv_X11_feedInt 1 4 [(0, .ref (gAd E (0))), (1, .int (v)), (2, .int (sh))] [.int (sh)] rfl ?_
  refine G.if_lt 46 (tbd tv_X11_feedInt rfl) (by decide) (fun c4 => absurd c4 (hs)) (fun c4 => ?_)
  refine G.go tv_X11_feedInt 1 8 [(0, .ref (gAd E (0))), (1, .int (v)), (2, .int (sh))] [.ref (gAd E (0))] rfl ?_
  refine G.getf cls_X11 (0) 1 (by omega) (m0) (by decide) rfl (tbd tv_X11_feedInt rfl) w_564 ?_
  refine G.go tv_X11_feedInt 1 14 [(0, .ref (gAd E (0))), (1, .int (v)), (2, .int (sh))] [.int ((1024 : Int32)), .int (nI fd)] rfl ?_
  refine G.cmp_ge 46 (tbd tv_X11_feedInt rfl) (by decide) (fun c14 => absurd c14 ((nI_ge (by omega) (by omega) : ¬ nI 1024 ≤ nI fd))) (fun c14 => ?_)
  refine G.go tv_X11_feedInt 1 18 [(0, .ref (gAd E (0))), (1, .int (v)), (2, .int (sh))] [.ref (gAd E (0))] rfl ?_
  refine G.getf cls_X11 (0) 0 (by omega) (m0) (by decide) rfl (tbd tv_X11_feedInt rfl) w_563 ?_
  refine G.go tv_X11_feedInt 1 22 [(0, .ref (gAd E (0))), (1, .int (v)), (2, .int (sh))] [.ref (gAd E (0)), .ref (gAd E (1))] rfl ?_
  refine G.getf cls_X11 (0) 1 (by omega) (m0) (by decide) rfl (tbd tv_X11_feedInt rfl) w_564 ?_
  refine G.go tv_X11_feedInt 4 29 [(0, .ref (gAd E (0))), (1, .int (v)), (2, .int (sh))] [.int (((v) >>> ((sh) &&& 31) : Int32).toInt8.toInt32), .int (nI fd), .ref (gAd E (1))] rfl ?_
  refine G.bastN (1) (fd) (by omega) (m1) (by omega) (by omega) (tbd tv_X11_feedInt rfl) ?_
  refine G.go tv_X11_feedInt 2 32 [(0, .ref (gAd E (0))), (1, .int (v)), (2, .int (sh))] [.ref (gAd E (0)), .ref (gAd E (0))] rfl ?_
  refine G.getf cls_X11 (0) 1 (by omega) (up_n (by decide) (m0)) (by decide) rfl (tbd tv_X11_feedInt rfl) w_564 ?_
  refine G.go tv_X11_feedInt 2 37 [(0, .ref (gAd E (0))), (1, .int (v)), (2, .int (sh))] [.int ((nI fd) + ((1 : Int32))), .ref (gAd E (0))] rfl ?_
  refine G.eqs [.int (nI (fd + 1)), .ref (gAd E (0))] (by rw [nI_1]) ?_
  refine G.putfS cls_X11 (0) 1 [.ref (gAd E (1)), .int (nI (fd + 1)), .int (mo), .ref (gAd E (2)), .ref (gAd E (8)), .ref (gAd E (13)), .ref (gAd E (17)), .ref (gAd E (25)), .ref (gAd E (37)), .ref (gAd E (32)), .ref (gAd E (40)), .ref (gAd E (41)), .ref (gAd E (44)), .ref (gAd E (47)), .ref (gAd E (50)), .ref (gAd E (53)), .ref (gAd E (54)), .ref (gAd E (55))] (by omega) (up_n (by decide) (m0)) rfl (by decide) rfl rfl rfl (Nat.le_of_ble_eq_true rfl) (tbd tv_X11_feedInt rfl) w_564 ?_
  refine G.go tv_X11_feedInt 2 3 [(0, .ref (gAd E (0))), (1, .int (v)), (2, .int (sh + (-8 : Int32)))] [] rfl ?_
  exact hq _ (⟨up_e, up_n (by decide) (up_e)⟩) (Fr.up (Fr.up (Fr.rf) (by show _ ≤ _; decide)) (by show _ ≤ _; decide))
set_option maxRecDepth 100000 in
set_option maxHeartbeats 4000000 in
theorem c_X11_feedInt (E : gE) (f : Nat → va_E) (tp : Nat → Int32) (fd : Nat) (mo : Int32) (hE : 350 ≤ gN E) (hm : MnV E f tp fd mo) (hfd : fd ≤ 1024) (v : Int32) (h4 : fd + 4 ≤ 1024) : Ct E 1 yX11_feedInt cX11_feedInt 3 none [.ref (gAd E (0)), .int (v)] f (fun r g => r = none ∧ MnV E g (fdI tp fd v) (fd + 4) mo ∧ Fr MnK f g, fun _ _ => False) := by
  obtain ⟨m0, m1⟩ := id hm
  refine Ct.of (by decide) (Nat.le_of_ble_eq_true rfl) (fun sz => ?_)
  refine G.eql [(0, .ref (gAd E (0))), (1, .int (v))] rfl ?_
  refine G.go tv_X11_feedInt 2 3 [(0, .ref (gAd E (0))), (1, .int (v)), (2, .int ((24 : Int32)))] [] rfl ?_
  refine fi_one E f _ _ _ tp fd mo hE hm hfd v 24 (by decide) (by omega) (fun g1 a1 b1 => ?_)
  refine fi_one E g1 _ _ _ _ (fd + 1) mo hE a1 (by omega) v _ (by decide) (by omega) (fun g2 a2 b2 => ?_)
  refine fi_one E g2 _ _ _ _ (fd + 1 + 1) mo hE a2 (by omega) v _ (by decide) (by omega) (fun g3 a3 b3 => ?_)
  refine fi_one E g3 _ _ _ _ (fd + 1 + 1 + 1) mo hE a3 (by omega) v _ (by decide) (by omega) (fun g4 a4 b4 => ?_)
  refine G.go tv_X11_feedInt 1 4 [(0, .ref (gAd E (0))), (1, .int (v)), (2, .int ((24 : Int32) + (-8 : Int32) + (-8 : Int32) + (-8 : Int32) + (-8 : Int32)))] [.int ((24 : Int32) + (-8 : Int32) + (-8 : Int32) + (-8 : Int32) + (-8 : Int32))] rfl ?_
  refine G.if_lt 46 (tbd tv_X11_feedInt rfl) (by decide) (fun _ => ?_) (fun q => absurd (by decide) q)
  exact G.vret rfl ⟨rfl, a4, ((b1.tr b2 (fun _ h => h)).tr b3 (fun _ h => h)).tr b4 (fun _ h => h)⟩ (tbd tv_X11_feedInt rfl)
def tb_X11_feed : List (Nat × Instr × Nat) := [(0, .aload_n 0, 1), (1, .getfield 134, 3), (4, .bipush 20, 2), (6, .iadd, 1), (7, .sipush 1024, 3), (10, .if_icmp .le 5, 3), (13, .iconst (-1), 1), (14, .ireturn, 1), (15, .aload_n 0, 1), (16, .iload_n 1, 1), (17, .invokevirtual 137, 3), (20, .aload_n 0, 1), (21, .iload_n 2, 1), (22, .invokevirtual 137, 3), (25, .aload_n 0, 1), (26, .iload_n 3, 1), (27, .invokevirtual 137, 3), (30, .aload_n 0, 1), (31, .iload 4, 2), (33, .invokevirtual 137, 3), (36, .aload_n 0, 1), (37, .iload 5, 2), (39, .invokevirtual 137, 3), (42, .aload_n 0, 1), (43, .getfield 134, 3), (46, .ireturn, 1)]
theorem tv_X11_feed : Tv cX11_feed tb_X11_feed := by
  unfold Tv
  decide +kernel
theorem w_622 : Cond.methodLink "LedgerFiles" 137 yX11_feedInt ∈ TB := tp_2 236 (by decide +kernel) rfl
theorem w_625 : Cond.code yX11_feedInt prog_1_method_3_code 3 none ∈ TB := tp_2 239 rfl rfl
theorem w_147 : Cond.initialized "LedgerFiles" ∈ TB := tp_1 1 (by decide +kernel) rfl
theorem cw_X11_137 : Cw RX11 137 yX11_feedInt cX11_feedInt 3 none 1 := ⟨w_622, w_625, w_147, by decide +kernel, by decide +kernel, by decide⟩
theorem w_624 : Cond.instanceMethod yX11_feedInt ∈ TB := tp_2 238 (by decide +kernel) rfl
theorem w_0 : Cond.selects "LedgerFiles" yX11_feedInt yX11_feedInt ∈ TB := tp_0 0 (by decide +kernel) rfl
set_option maxRecDepth 100000 in
set_option maxHeartbeats 4000000 in
theorem c_X11_feed (E : gE) (f : Nat → va_E) (tp : Nat → Int32) (fd : Nat) (mo : Int32) (hE : 350 ≤ gN E) (hm : MnV E f tp fd mo) (hfd : fd ≤ 1024) (a b c d e : Int32) : Ct E 2 yX11_feed cX11_feed 6 (some .int) [.ref (gAd E (0)), .int (a), .int (b), .int (c), .int (d), .int (e)] f (fun v g => (1024 < fd + 20 ∧ v = some (.int (-1)) ∧ f = g) ∨ (fd + 20 ≤ 1024 ∧ v = some (.int (nI (fd + 20))) ∧ MnV E g (fd5 tp fd a b c d e) (fd + 20) mo ∧ Fr MnK f g), fun _ _ => False) := by
  obtain ⟨m0, m1⟩ := id hm
  refine Ct.of (by decide) (Nat.le_of_ble_eq_true rfl) (fun sz => ?_)
  refine G.eql [(0, .ref (gAd E (0))), (1, .int (a)), (2, .int (b)), (3, .int (c)), (4, .int (d)), (5, .int (e))] rfl ?_
  refine G.go tv_X11_feed 1 1 [(0, .ref (gAd E (0))), (1, .int (a)), (2, .int (b)), (3, .int (c)), (4, .int (d)), (5, .int (e))] [.ref (gAd E (0))] rfl ?_
  refine G.getf cls_X11 (0) 1 (by omega) (m0) (by decide) rfl (tbd tv_X11_feed rfl) w_564 ?_
  refine G.go tv_X11_feed 3 10 [(0, .ref (gAd E (0))), (1, .int (a)), (2, .int (b)), (3, .int (c)), (4, .int (d)), (5, .int (e))] [.int ((1024 : Int32)), .int ((nI fd) + ((20 : Int32)))] rfl ?_
  refine G.cmp_le 15 (tbd tv_X11_feed rfl) (by decide) (fun c10 => ?_) (fun c10 => ?_)
  · have h20 : fd + 20 ≤ 1024 := by rw [show (20 : Int32) = nI 20 from rfl, nI_add, show (1024 : Int32) = nI 1024 from rfl] at c10; exact (nI_leI (by omega) (by omega)).mp c10
    refine G.go tv_X11_feed 2 17 [(0, .ref (gAd E (0))), (1, .int (a)), (2, .int (b)), (3, .int (c)), (4, .int (d)), (5, .int (e))] [.int (a), .ref (gAd E (0))] rfl ?_
    refine G.callV (0) [.int (a)] [] (c_X11_feedInt E f _ (fd) mo hE hm (by omega) (a) (by omega)) cls_X11 (by omega) (m0) cw_X11_137 w_624 w_0 (Nat.le_of_ble_eq_true rfl) rfl (Nat.le_of_ble_eq_true rfl) (tbd tv_X11_feed rfl) (fun v1 f1 q1 => ?_) (fun _ _ h => h.elim)
    obtain ⟨rfl, a1, b1⟩ := q1
    refine G.eqs [] rfl ?_
    have m01 := a1.1
    refine G.go tv_X11_feed 2 22 [(0, .ref (gAd E (0))), (1, .int (a)), (2, .int (b)), (3, .int (c)), (4, .int (d)), (5, .int (e))] [.int (b), .ref (gAd E (0))] rfl ?_
    refine G.callV (0) [.int (b)] [] (c_X11_feedInt E f1 _ (fd + 4) mo hE a1 (by omega) (b) (by omega)) cls_X11 (by omega) (m01) cw_X11_137 w_624 w_0 (Nat.le_of_ble_eq_true rfl) rfl (Nat.le_of_ble_eq_true rfl) (tbd tv_X11_feed rfl) (fun v2 f2 q2 => ?_) (fun _ _ h => h.elim)
    obtain ⟨rfl, a2, b2⟩ := q2
    refine G.eqs [] rfl ?_
    have m02 := a2.1
    refine G.go tv_X11_feed 2 27 [(0, .ref (gAd E (0))), (1, .int (a)), (2, .int (b)), (3, .int (c)), (4, .int (d)), (5, .int (e))] [.int (c), .ref (gAd E (0))] rfl ?_
    refine G.callV (0) [.int (c)] [] (c_X11_feedInt E f2 _ (fd + 8) mo hE a2 (by omega) (c) (by omega)) cls_X11 (by omega) (m02) cw_X11_137 w_624 w_0 (Nat.le_of_ble_eq_true rfl) rfl (Nat.le_of_ble_eq_true rfl) (tbd tv_X11_feed rfl) (fun v3 f3 q3 => ?_) (fun _ _ h => h.elim)
    obtain ⟨rfl, a3, b3⟩ := q3
    refine G.eqs [] rfl ?_
    have m03 := a3.1
    refine G.go tv_X11_feed 2 33 [(0, .ref (gAd E (0))), (1, .int (a)), (2, .int (b)), (3, .int (c)), (4, .int (d)), (5, .int (e))] [.int (d), .ref (gAd E (0))] rfl ?_
    refine G.callV (0) [.int (d)] [] (c_X11_feedInt E f3 _ (fd + 12) mo hE a3 (by omega) (d) (by omega)) cls_X11 (by omega) (m03) cw_X11_137 w_624 w_0 (Nat.le_of_ble_eq_true rfl) rfl (Nat.le_of_ble_eq_true rfl) (tbd tv_X11_feed rfl) (fun v4 f4 q4 => ?_) (fun _ _ h => h.elim)
    obtain ⟨rfl, a4, b4⟩ := q4
    refine G.eqs [] rfl ?_
    have m04 := a4.1
    refine G.go tv_X11_feed 2 39 [(0, .ref (gAd E (0))), (1, .int (a)), (2, .int (b)), (3, .int (c)), (4, .int (d)), (5, .int (e))] [.int (e), .ref (gAd E (0))] rfl ?_
    refine G.callV (0) [.int (e)] [] (c_X11_feedInt E f4 _ (fd + 16) mo hE a4 (by omega) (e) (by omega)) cls_X11 (by omega) (m04) cw_X11_137 w_624 w_0 (Nat.le_of_ble_eq_true rfl) rfl (Nat.le_of_ble_eq_true rfl) (tbd tv_X11_feed rfl) (fun v5 f5 q5 => ?_) (fun _ _ h => h.elim)
    obtain ⟨rfl, a5, b5⟩ := q5
    refine G.eqs [] rfl ?_
    have m05 := a5.1
    refine G.go tv_X11_feed 1 43 [(0, .ref (gAd E (0))), (1, .int (a)), (2, .int (b)), (3, .int (c)), (4, .int (d)), (5, .int (e))] [.ref (gAd E (0))] rfl ?_
    refine G.getf cls_X11 (0) 1 (by omega) (m05) (by decide) rfl (tbd tv_X11_feed rfl) w_564 ?_
    exact G.iret rfl rfl (Or.inr ⟨h20, rfl, a5, (((b1.tr b2 (fun _ h => h)).tr b3 (fun _ h => h)).tr b4 (fun _ h => h)).tr b5 (fun _ h => h)⟩) (tbd tv_X11_feed rfl)
  · skip
    refine G.go tv_X11_feed 1 14 [(0, .ref (gAd E (0))), (1, .int (a)), (2, .int (b)), (3, .int (c)), (4, .int (d)), (5, .int (e))] [.int ((-1 : Int32))] rfl ?_
    exact G.iret rfl rfl (Or.inl ⟨by have : ¬ fd + 20 ≤ 1024 := fun q => c10 (by rw [show (20 : Int32) = nI 20 from rfl, nI_add]; exact (nI_le q (by omega) : nI (fd + 20) ≤ nI 1024)); omega, rfl, rfl⟩) (tbd tv_X11_feed rfl)
