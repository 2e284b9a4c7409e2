def tb_X2_goDark : List (Nat × Instr × Nat) := [(0, .aload_n 0, 1), (1, .iconst 0, 1), (2, .putfield 20, 3), (5, .aload_n 0, 1), (6, .iconst (-1), 1), (7, .putfield 24, 3), (10, .return_, 1)]
theorem tv_X2_goDark : Tv cX2_goDark tb_X2_goDark := by
  unfold Tv
  decide +kernel
theorem w_242 : Cond.fieldLink "LedgerFiles$Disk" 20 "LedgerFiles$Disk" "on" "Z" ∈ TB := tp_1 96 (by decide +kernel) rfl
theorem w_244 : Cond.fieldLink "LedgerFiles$Disk" 24 "LedgerFiles$Disk" "left" "I" ∈ TB := tp_1 98 (by decide +kernel) rfl
set_option maxRecDepth 100000 in
set_option maxHeartbeats 4000000 in
theorem c_X2_goDark (E : gE) (f : Nat → va_E) (N : Nat) (w la bo : Nat → Int32) (sy va : Nat → Nat → Int32) (fi he on le wr ss : Int32) (hE : 350 + N ≤ gN E) (hN : N ≤ 1024) (hd : Dk E f N w la bo sy va fi he on le wr ss) : Ct E 1 yX2_goDark cX2_goDark 1 none [.ref (gAd E (2))] f (fun v g => v = none ∧ Dk E g N w la bo sy va fi he 0 (-1) wr ss ∧ Fr (DkK N) f g, fun _ _ => False) := by
  obtain ⟨h2, h3, h4, h5, h6, h7, hv, hs⟩ := id hd
  refine Ct.of (by decide) (Nat.le_of_ble_eq_true rfl) (fun sz => ?_)
  refine G.eql [(0, .ref (gAd E (2)))] rfl ?_
  refine G.go tv_X2_goDark 2 2 [(0, .ref (gAd E (2)))] [.int ((0 : Int32)), .ref (gAd E (2))] rfl ?_
  refine G.putfS cls_X2 (2) 8 [.int (nI N), .ref (gAd E (3)), .ref (gAd E (4)), .ref (gAd E (5)), .ref (gAd E (6)), .ref (gAd E (7)), .int (fi), .int (he), .int ((0 : Int32)), .int (le), .int (wr), .int (ss)] (by omega) (h2) rfl (by decide) rfl rfl rfl (Nat.le_of_ble_eq_true rfl) (tbd tv_X2_goDark rfl) w_242 ?_
  refine G.go tv_X2_goDark 2 7 [(0, .ref (gAd E (2)))] [.int ((-1 : Int32)), .ref (gAd E (2))] rfl ?_
  refine G.putfS cls_X2 (2) 9 [.int (nI N), .ref (gAd E (3)), .ref (gAd E (4)), .ref (gAd E (5)), .ref (gAd E (6)), .ref (gAd E (7)), .int (fi), .int (he), .int ((0 : Int32)), .int ((-1 : Int32)), .int (wr), .int (ss)] (by omega) (up_e) rfl (by decide) rfl rfl rfl (Nat.le_of_ble_eq_true rfl) (tbd tv_X2_goDark rfl) w_244 ?_
  exact G.vret rfl (⟨rfl, ⟨up_e, up_n (by decide) (up_n (by decide) (h3)), up_n (by decide) (up_n (by decide) (h4)), up_n (by decide) (up_n (by decide) (h5)), up_n (by decide) (up_n (by decide) (h6)), up_n (by decide) (up_n (by decide) (h7)), Rws.keep (Rws.keep (hv) (by omega)) (by omega), Rws.keep (Rws.keep (hs) (by omega)) (by omega)⟩, Fr.up (Fr.up (Fr.rf) (Or.inl ⟨by decide, by decide⟩)) (Or.inl ⟨by decide, by decide⟩)⟩) (tbd tv_X2_goDark rfl)
def tb_X2_step : List (Nat × Instr × Nat) := [(0, .aload_n 0, 1), (1, .getfield 24, 3), (4, .ifCond .ne 23, 3), (7, .aload_n 0, 1), (8, .iconst (-1), 1), (9, .putfield 24, 3), (12, .aload_n 0, 1), (13, .iconst 0, 1), (14, .putfield 20, 3), (17, .new 54, 3), (20, .dup, 1), (21, .ldc 56, 2), (23, .invokespecial 58, 3), (26, .athrow, 1), (27, .aload_n 0, 1), (28, .getfield 24, 3), (31, .ifCond .le 13, 3), (34, .aload_n 0, 1), (35, .dup, 1), (36, .getfield 24, 3), (39, .iconst 1, 1), (40, .isub, 1), (41, .putfield 24, 3), (44, .return_, 1)]
theorem tv_X2_step : Tv cX2_step tb_X2_step := by
  unfold Tv
  decide +kernel
theorem w_733 : Cond.classLink "LedgerFiles$Disk" 54 "java/lang/UnsupportedOperationException" ∈ TB := tp_3 107 (by decide +kernel) rfl
theorem w_166 : Cond.initialized "java/lang/UnsupportedOperationException" ∈ TB := tp_1 20 (by decide +kernel) rfl
theorem at_X2_58 : ∀ w ∈ vx_atS RX2 58 "java/lang/UnsupportedOperationException" ["java/lang/RuntimeException", "java/lang/Exception"], w ∈ TB ∨ w = .castable "java/lang/UnsupportedOperationException" "java/lang/UnsupportedOperationException" ∨ w ∈ gDcl.map Cond.declares := by
  have h1 : ∀ w ∈ vx_atS RX2 58 "java/lang/UnsupportedOperationException" ["java/lang/RuntimeException", "java/lang/Exception"], w ∈ lw_tbl := by decide +kernel
  have h2 : ∀ w ∈ vx_atS RX2 58 "java/lang/UnsupportedOperationException" ["java/lang/RuntimeException", "java/lang/Exception"], goodWord w = true ∨ w = .castable "java/lang/UnsupportedOperationException" "java/lang/UnsupportedOperationException" ∨ w ∈ gDcl.map Cond.declares := by decide +kernel
  exact fun w hw => (h2 w hw).elim (fun h => Or.inl (List.mem_filter.mpr ⟨h1 w hw, h⟩)) Or.inr
set_option maxRecDepth 100000 in
set_option maxHeartbeats 4000000 in
theorem c_X2_step (E : gE) (f : Nat → va_E) (N : Nat) (w la bo : Nat → Int32) (sy va : Nat → Nat → Int32) (fi he on le wr ss : Int32) (hE : 350 + N ≤ gN E) (hN : N ≤ 1024) (hd : Dk E f N w la bo sy va fi he on le wr ss) : Ct E 6 yX2_step cX2_step 1 none [.ref (gAd E (2))] f (fun v g => v = none ∧ ¬ le = 0 ∧ Dk E g N w la bo sy va fi he on (if 0 < le then le - 1 else le) wr ss ∧ Fr (DkK N) f g, fun X g => X = "java/lang/UnsupportedOperationException" ∧ le = 0 ∧ Dk E g N w la bo sy va fi he 0 (-1) wr ss ∧ Fr (DkK N) f g) := by
  obtain ⟨h2, h3, h4, h5, h6, h7, hv, hs⟩ := id hd
  refine Ct.of (by decide) (Nat.le_of_ble_eq_true rfl) (fun sz => ?_)
  refine G.eql [(0, .ref (gAd E (2)))] rfl ?_
  refine G.go tv_X2_step 1 1 [(0, .ref (gAd E (2)))] [.ref (gAd E (2))] rfl ?_
  refine G.getf cls_X2 (2) 9 (by omega) (h2) (by decide) rfl (tbd tv_X2_step rfl) w_244 ?_
  refine G.if_ne 27 (tbd tv_X2_step rfl) (by decide) (fun c4 => ?_) (fun c4 => ?_)
  · skip
    refine G.go tv_X2_step 1 28 [(0, .ref (gAd E (2)))] [.ref (gAd E (2))] rfl ?_
    refine G.getf cls_X2 (2) 9 (by omega) (h2) (by decide) rfl (tbd tv_X2_step rfl) w_244 ?_
    refine G.if_le 44 (tbd tv_X2_step rfl) (by decide) (fun c31 => ?_) (fun c31 => ?_)
    · skip
      exact G.vret rfl (⟨rfl, c4, by rw [if_neg (Int32.not_lt.mpr c31)]; exact hd, Fr.rf⟩) (tbd tv_X2_step rfl)
    · skip
      refine G.go tv_X2_step 2 36 [(0, .ref (gAd E (2)))] [.ref (gAd E (2)), .ref (gAd E (2))] rfl ?_
      refine G.getf cls_X2 (2) 9 (by omega) (h2) (by decide) rfl (tbd tv_X2_step rfl) w_244 ?_
      refine G.go tv_X2_step 2 41 [(0, .ref (gAd E (2)))] [.int ((le) - ((1 : Int32))), .ref (gAd E (2))] rfl ?_
      refine G.putfS cls_X2 (2) 9 [.int (nI N), .ref (gAd E (3)), .ref (gAd E (4)), .ref (gAd E (5)), .ref (gAd E (6)), .ref (gAd E (7)), .int (fi), .int (he), .int (on), .int ((le) - ((1 : Int32))), .int (wr), .int (ss)] (by omega) (h2) rfl (by decide) rfl rfl rfl (Nat.le_of_ble_eq_true rfl) (tbd tv_X2_step rfl) w_244 ?_
      exact G.vret rfl (⟨rfl, c4, by rw [if_pos (Int32.not_le.mp c31)]; exact ⟨up_e, up_n (by decide) (h3), up_n (by decide) (h4), up_n (by decide) (h5), up_n (by decide) (h6), up_n (by decide) (h7), Rws.keep (hv) (by omega), Rws.keep (hs) (by omega)⟩, Fr.up (Fr.rf) (Or.inl ⟨by decide, by decide⟩)⟩) (tbd tv_X2_step rfl)
  · skip
    refine G.go tv_X2_step 2 9 [(0, .ref (gAd E (2)))] [.int ((-1 : Int32)), .ref (gAd E (2))] rfl ?_
    refine G.putfS cls_X2 (2) 9 [.int (nI N), .ref (gAd E (3)), .ref (gAd E (4)), .ref (gAd E (5)), .ref (gAd E (6)), .ref (gAd E (7)), .int (fi), .int (he), .int (on), .int ((-1 : Int32)), .int (wr), .int (ss)] (by omega) (h2) rfl (by decide) rfl rfl rfl (Nat.le_of_ble_eq_true rfl) (tbd tv_X2_step rfl) w_244 ?_
    refine G.go tv_X2_step 2 14 [(0, .ref (gAd E (2)))] [.int ((0 : Int32)), .ref (gAd E (2))] rfl ?_
    refine G.putfS cls_X2 (2) 8 [.int (nI N), .ref (gAd E (3)), .ref (gAd E (4)), .ref (gAd E (5)), .ref (gAd E (6)), .ref (gAd E (7)), .int (fi), .int (he), .int ((0 : Int32)), .int ((-1 : Int32)), .int (wr), .int (ss)] (by omega) (up_e) rfl (by decide) rfl rfl rfl (Nat.le_of_ble_eq_true rfl) (tbd tv_X2_step rfl) w_242 ?_
    exact G.thr (cls := "java/lang/UnsupportedOperationException") (text := "the power failed") (names := ["java/lang/RuntimeException", "java/lang/Exception"]) (by decide +kernel) (by decide +kernel) w_733 w_166 (own := "LedgerFiles$Disk") rfl (by decide +kernel) (by decide +kernel) at_X2_58 (tbd tv_X2_step rfl) (tbd tv_X2_step rfl) (tbd tv_X2_step rfl) (tbd tv_X2_step rfl) (tbd tv_X2_step rfl) (Nat.le_of_ble_eq_true rfl) (Nat.le_of_ble_eq_true rfl) (⟨rfl, c4, ⟨up_e, up_n (by decide) (up_n (by decide) (h3)), up_n (by decide) (up_n (by decide) (h4)), up_n (by decide) (up_n (by decide) (h5)), up_n (by decide) (up_n (by decide) (h6)), up_n (by decide) (up_n (by decide) (h7)), Rws.keep (Rws.keep (hv) (by omega)) (by omega), Rws.keep (Rws.keep (hs) (by omega)) (by omega)⟩, Fr.up (Fr.up (Fr.rf) (Or.inl ⟨by decide, by decide⟩)) (Or.inl ⟨by decide, by decide⟩)⟩)
