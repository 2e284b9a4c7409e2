def tb_X9_placeInBatch : List (Nat × Instr × Nat) := [(0, .iconst 0, 1), (1, .istore_n 2, 1), (2, .iload_n 2, 1), (3, .aload_n 0, 1), (4, .getfield 68, 3), (7, .if_icmp .ge 24, 3), (10, .aload_n 0, 1), (11, .getfield 24, 3), (14, .aload_n 0, 1), (15, .getfield 9, 3), (18, .iload_n 2, 1), (19, .iaload, 1), (20, .iaload, 1), (21, .iload_n 1, 1), (22, .if_icmp .ge 9, 3), (25, .iinc 2 1, 3), (28, .goto (-26), 3), (31, .iload_n 2, 1), (32, .ireturn, 1)]
theorem tv_X9_placeInBatch : Tv cX9_placeInBatch tb_X9_placeInBatch := by
  unfold Tv
  decide +kernel
theorem w_363 : Cond.fieldLink "LedgerFiles$Queue" 68 "LedgerFiles$Queue" "batched" "I" ∈ TB := tp_1 217 (by decide +kernel) rfl
set_option maxRecDepth 100000 in
set_option maxHeartbeats 4000000 in
theorem pb_l (E : gE) (f0 : Nat → va_E) (sz : Nat) (A : Nat → Prop) (Q : gQ) (N B gr : Nat) (C : CfT) (hz : CfZ E N B gr) (bt : List En) (r : Nat → Nat) (hb : BtR N gr C bt r) (hn : bt.length ≤ 40) (b : Nat) (hbN : b < N) (kq : ∀ g, CfV E g N B gr (C) → Fr CfK f0 g → G E (1, yX9_placeInBatch, 3, (some .int), sz, A) cX9_placeInBatch (gO E (1, yX9_placeInBatch, 3, (some .int), sz, A) Q) 31 [(0, .ref (gAd E (17))), (1, .int (nI b)), (2, .int (nI (lPos b bt)))] [] g) : ∀ (d j : Nat), j + d = lPos b bt → ∀ f, CfV E f N B gr (C) → Fr CfK f0 f → G E (1, yX9_placeInBatch, 3, (some .int), sz, A) cX9_placeInBatch (gO E (1, yX9_placeInBatch, 3, (some .int), sz, A) Q) 2 [(0, .ref (gAd E (17))), (1, .int (nI b)), (2, .int (nI (j)))] [] f := by
  obtain ⟨z1, z2, z3, z4, z5, z6, z7⟩ := id hz
  have hpl := lPos_le (b := b) (L := bt)
  intro d
  induction d with
  | zero =>
    intro j e f h hf
    have e : j = lPos b bt := e
    refine G.go tv_X9_placeInBatch 2 4 [(0, .ref (gAd E (17))), (1, .int (nI b)), (2, .int (nI (j)))] [.ref (gAd E (17)), .int (nI (j))] rfl ?_
    refine G.getf cls_X9 (17) 5 (by omega) (h.q17) (by decide) rfl (tbd tv_X9_placeInBatch rfl) w_363 ?_
    refine G.eqs [.int (nI bt.length), .int (nI (j))] (by rw [hb.1]) ?_
    refine G.cmp_ge 31 (tbd tv_X9_placeInBatch rfl) (by decide) (fun c7 => ?_) (fun c7 => ?_)
    · skip
      refine G.eql [(0, .ref (gAd E (17))), (1, .int (nI b)), (2, .int (nI (lPos b bt)))] (by rw [e]) ?_
      exact kq _ (by have q9 := h; first | (rw [e] at q9; exact q9) | exact q9) (hf)
    · skip
      refine G.go tv_X9_placeInBatch 1 11 [(0, .ref (gAd E (17))), (1, .int (nI b)), (2, .int (nI (j)))] [.ref (gAd E (17))] rfl ?_
      refine G.getf cls_X9 (17) 2 (by omega) (h.q17) (by decide) rfl (tbd tv_X9_placeInBatch rfl) w_357 ?_
      refine G.go tv_X9_placeInBatch 1 15 [(0, .ref (gAd E (17))), (1, .int (nI b)), (2, .int (nI (j)))] [.ref (gAd E (17)), .ref (gAd E (19))] rfl ?_
      refine G.getf cls_X9 (17) 4 (by omega) (h.q17) (by decide) rfl (tbd tv_X9_placeInBatch rfl) w_361 ?_
      refine G.go tv_X9_placeInBatch 1 19 [(0, .ref (gAd E (17))), (1, .int (nI b)), (2, .int (nI (j)))] [.int (nI (j)), .ref (gAd E (21)), .ref (gAd E (19))] rfl ?_
      refine G.ialdN (21) (j) (by omega) (h.q21) (by have := (Nat.lt_of_not_le (fun z => c7 (nI_le z (by omega))) : j < bt.length); omega) (by omega) (tbd tv_X9_placeInBatch rfl) ?_
      refine G.eqs [.int (nI (r j)), .ref (gAd E (19))] (by rw [(hb.2 j (Nat.lt_of_not_le (fun z => c7 (nI_le z (by omega))) : j < bt.length)).2.1]) ?_
      refine G.ialdN (19) (r j) (by omega) (h.q19) ((hb.2 j (Nat.lt_of_not_le (fun z => c7 (nI_le z (by omega))) : j < bt.length)).1) (by omega) (tbd tv_X9_placeInBatch rfl) ?_
      refine G.go tv_X9_placeInBatch 1 22 [(0, .ref (gAd E (17))), (1, .int (nI b)), (2, .int (nI (j)))] [.int (nI b), .int ((cA C 19) (r j))] rfl ?_
      refine G.cmp_ge 31 (tbd tv_X9_placeInBatch rfl) (by decide) (fun c22 => ?_) (fun c22 => absurd ((by rw [(hb.2 j (Nat.lt_of_not_le (fun z => c7 (nI_le z (by omega))) : j < bt.length)).2.2.1]; exact nI_le (by have hj := (Nat.lt_of_not_le (fun z => c7 (nI_le z (by omega))) : j < bt.length); have := lPos_at (b := b) (L := bt) (by omega); rw [← e] at this; omega) (by have := (hb.2 j (Nat.lt_of_not_le (fun z => c7 (nI_le z (by omega))) : j < bt.length)).2.2.2.1; omega) : nI b ≤ cA C 19 (r j))) c22)
      refine G.eql [(0, .ref (gAd E (17))), (1, .int (nI b)), (2, .int (nI (lPos b bt)))] (by rw [e]) ?_
      exact kq _ (by have q9 := h; first | (rw [e] at q9; exact q9) | exact q9) (hf)
  | succ d ih =>
    intro j e f h hf
    refine G.go tv_X9_placeInBatch 2 4 [(0, .ref (gAd E (17))), (1, .int (nI b)), (2, .int (nI (j)))] [.ref (gAd E (17)), .int (nI (j))] rfl ?_
    refine G.getf cls_X9 (17) 5 (by omega) (h.q17) (by decide) rfl (tbd tv_X9_placeInBatch rfl) w_363 ?_
    refine G.eqs [.int (nI bt.length), .int (nI (j))] (by rw [hb.1]) ?_
    refine G.cmp_ge 31 (tbd tv_X9_placeInBatch rfl) (by decide) (fun c7 => absurd c7 (nI_ge (show j < bt.length by have := lPos_le (b := b) (L := bt); omega) (by omega))) (fun c7 => ?_)
    refine G.go tv_X9_placeInBatch 1 11 [(0, .ref (gAd E (17))), (1, .int (nI b)), (2, .int (nI (j)))] [.ref (gAd E (17))] rfl ?_
    refine G.getf cls_X9 (17) 2 (by omega) (h.q17) (by decide) rfl (tbd tv_X9_placeInBatch rfl) w_357 ?_
    refine G.go tv_X9_placeInBatch 1 15 [(0, .ref (gAd E (17))), (1, .int (nI b)), (2, .int (nI (j)))] [.ref (gAd E (17)), .ref (gAd E (19))] rfl ?_
    refine G.getf cls_X9 (17) 4 (by omega) (h.q17) (by decide) rfl (tbd tv_X9_placeInBatch rfl) w_361 ?_
    refine G.go tv_X9_placeInBatch 1 19 [(0, .ref (gAd E (17))), (1, .int (nI b)), (2, .int (nI (j)))] [.int (nI (j)), .ref (gAd E (21)), .ref (gAd E (19))] rfl ?_
    refine G.ialdN (21) (j) (by omega) (h.q21) (by have := (show j < bt.length by have := lPos_le (b := b) (L := bt); omega); omega) (by omega) (tbd tv_X9_placeInBatch rfl) ?_
    refine G.eqs [.int (nI (r j)), .ref (gAd E (19))] (by rw [(hb.2 j (show j < bt.length by have := lPos_le (b := b) (L := bt); omega)).2.1]) ?_
    refine G.ialdN (19) (r j) (by omega) (h.q19) ((hb.2 j (show j < bt.length by have := lPos_le (b := b) (L := bt); omega)).1) (by omega) (tbd tv_X9_placeInBatch rfl) ?_
    refine G.go tv_X9_placeInBatch 1 22 [(0, .ref (gAd E (17))), (1, .int (nI b)), (2, .int (nI (j)))] [.int (nI b), .int ((cA C 19) (r j))] rfl ?_
    refine G.cmp_ge 31 (tbd tv_X9_placeInBatch rfl) (by decide) (fun c22 => absurd c22 ((by rw [(hb.2 j (show j < bt.length by have := lPos_le (b := b) (L := bt); omega)).2.2.1]; exact nI_ge (lPos_in (by omega)) (by omega) : ¬ nI b ≤ cA C 19 (r j)))) (fun c22 => ?_)
    refine G.go tv_X9_placeInBatch 2 2 [(0, .ref (gAd E (17))), (1, .int (nI b)), (2, .int (nI (j) + (1 : Int32)))] [] rfl ?_
    refine G.eql [(0, .ref (gAd E (17))), (1, .int (nI b)), (2, .int (nI (j + 1)))] (by rw [nI_1]) ?_
    exact ih (j + 1) (by omega) _ (h) (hf)
set_option maxRecDepth 100000 in
set_option maxHeartbeats 4000000 in
theorem k_placeInBatch (E : gE) (f : Nat → va_E) (N B gr : Nat) (C : CfT) (hz : CfZ E N B gr) (h : CfV E f N B gr C) (bt : List En) (r : Nat → Nat) (hb : BtR N gr C bt r) (hn : bt.length ≤ 40) (b : Nat) (hbN : b < N) : Ct E 1 yX9_placeInBatch cX9_placeInBatch 3 (some .int) [.ref (gAd E (17)), .int (nI b)] f (fun v g => v = some (.int (nI (lPos b bt))) ∧ CfV E g N B gr (C) ∧ Fr CfK f g, fun _ _ => False) := by
  obtain ⟨z1, z2, z3, z4, z5, z6, z7⟩ := id hz
  refine Ct.of (by decide) (Nat.le_of_ble_eq_true rfl) (fun sz => ?_)
  refine G.eql [(0, .ref (gAd E (17))), (1, .int (nI b))] rfl ?_
  refine G.go tv_X9_placeInBatch 2 2 [(0, .ref (gAd E (17))), (1, .int (nI b)), (2, .int ((0 : Int32)))] [] rfl ?_
  refine G.eql [(0, .ref (gAd E (17))), (1, .int (nI b)), (2, .int (nI (0)))] rfl ?_
  refine pb_l E f _ _ _ N B gr C hz bt r hb hn b hbN (fun g h1 hf1 => ?_) (lPos b bt) 0 (by omega) _ h Fr.rf
  refine G.go tv_X9_placeInBatch 1 32 [(0, .ref (gAd E (17))), (1, .int (nI b)), (2, .int (nI (lPos b bt)))] [.int (nI (lPos b bt))] rfl ?_
  exact G.iret rfl rfl (⟨rfl, h1, hf1⟩) (tbd tv_X9_placeInBatch rfl)
/-- 1 if the list has block b -/
def lHas (bt : List En) (b : Nat) : Int32 := if lVal bt b = none then 0 else 1
theorem lHas_f {bt : List En} {b : Nat} (hs : Srt bt) (h : ¬ (lPos b bt < bt.length ∧ (lAt bt (lPos b bt)).1 = b)) : lHas bt b = 0 := if_pos (Classical.byContradiction fun z => h ((lPos_val hs).mp z))
theorem lHas_t {bt : List En} {b : Nat} (hs : Srt bt) (h : lPos b bt < bt.length ∧ (lAt bt (lPos b bt)).1 = b) : lHas bt b = 1 := if_neg ((lPos_val hs).mpr h)
def tb_X9_isInBatch : List (Nat × Instr × Nat) := [(0, .aload_n 0, 1), (1, .iload_n 1, 1), (2, .invokevirtual 71, 3), (5, .istore_n 2, 1), (6, .iload_n 2, 1), (7, .aload_n 0, 1), (8, .getfield 68, 3), (11, .if_icmp .ge 22, 3), (14, .aload_n 0, 1), (15, .getfield 24, 3), (18, .aload_n 0, 1), (19, .getfield 9, 3), (22, .iload_n 2, 1), (23, .iaload, 1), (24, .iaload, 1), (25, .iload_n 1, 1), (26, .if_icmp .ne 7, 3), (29, .iconst 1, 1), (30, .goto 4, 3), (33, .iconst 0, 1), (34, .ireturn, 1)]
theorem tv_X9_isInBatch : Tv cX9_isInBatch tb_X9_isInBatch := by
  unfold Tv
  decide +kernel
theorem w_1289 : Cond.methodLink "LedgerFiles$Queue" 71 yX9_placeInBatch ∈ TB := tp_5 183 (by decide +kernel) rfl
theorem w_1292 : Cond.code yX9_placeInBatch prog_11_method_10_code 3 (some .int) ∈ TB := tp_5 186 rfl rfl
theorem cw_X9_71 : Cw RX9 71 yX9_placeInBatch cX9_placeInBatch 3 (some .int) 1 := ⟨w_1289, w_1292, w_154, by decide +kernel, by decide +kernel, by decide⟩
theorem w_1291 : Cond.instanceMethod yX9_placeInBatch ∈ TB := tp_5 185 (by decide +kernel) rfl
theorem w_23 : Cond.selects "LedgerFiles$Queue" yX9_placeInBatch yX9_placeInBatch ∈ TB := tp_0 23 (by decide +kernel) rfl
set_option maxRecDepth 100000 in
set_option maxHeartbeats 4000000 in
theorem k_isInBatch (E : gE) (f : Nat → va_E) (N B gr : Nat) (C : CfT) (hz : CfZ E N B gr) (h : CfV E f N B gr C) (bt : List En) (r : Nat → Nat) (hb : BtR N gr C bt r) (hn : bt.length ≤ 40) (b : Nat) (hbN : b < N) (hs : Srt bt) : Ct E 2 yX9_isInBatch cX9_isInBatch 3 (some .boolean) [.ref (gAd E (17)), .int (nI b)] f (fun v g => v = some (.int (lHas bt b)) ∧ CfV E g N B gr (C) ∧ Fr CfK f g, fun _ _ => False) := by
  obtain ⟨z1, z2, z3, z4, z5, z6, z7⟩ := id hz
  refine Ct.of (by decide) (Nat.le_of_ble_eq_true rfl) (fun sz => ?_)
  refine G.eql [(0, .ref (gAd E (17))), (1, .int (nI b))] rfl ?_
  refine G.go tv_X9_isInBatch 2 2 [(0, .ref (gAd E (17))), (1, .int (nI b))] [.int (nI b), .ref (gAd E (17))] rfl ?_
  refine G.callV (17) [.int (nI b)] [] (k_placeInBatch E _ N B gr C hz h bt r hb hn b hbN) cls_X9 (by omega) (h.q17) cw_X9_71 w_1291 w_23 (Nat.le_of_ble_eq_true rfl) rfl (Nat.le_of_ble_eq_true rfl) (tbd tv_X9_isInBatch rfl) (fun v1 f1 q1 => ?_) (fun _ _ h => h.elim)
  obtain ⟨rfl, ha1, fa1⟩ := q1
  refine G.eqs [.int (nI (lPos b bt))] rfl ?_
  refine G.go tv_X9_isInBatch 3 8 [(0, .ref (gAd E (17))), (1, .int (nI b)), (2, .int (nI (lPos b bt)))] [.ref (gAd E (17)), .int (nI (lPos b bt))] rfl ?_
  refine G.getf cls_X9 (17) 5 (by omega) (ha1.q17) (by decide) rfl (tbd tv_X9_isInBatch rfl) w_363 ?_
  refine G.eqs [.int (nI bt.length), .int (nI (lPos b bt))] (by rw [hb.1]) ?_
  refine G.cmp_ge 33 (tbd tv_X9_isInBatch rfl) (by decide) (fun c11 => ?_) (fun c11 => ?_)
  · skip
    refine G.go tv_X9_isInBatch 1 34 [(0, .ref (gAd E (17))), (1, .int (nI b)), (2, .int (nI (lPos b bt)))] [.int ((0 : Int32))] rfl ?_
    exact G.iret rfl rfl (⟨by rw [lHas_f hs (fun z => by first | exact c26 (by rw [(hb.2 (lPos b bt) z.1).2.2.1, z.2]) | exact nI_ge z.1 (by omega) c11)], ha1, fa1⟩) (tbd tv_X9_isInBatch rfl)
  · skip
    refine G.go tv_X9_isInBatch 1 15 [(0, .ref (gAd E (17))), (1, .int (nI b)), (2, .int (nI (lPos b bt)))] [.ref (gAd E (17))] rfl ?_
    refine G.getf cls_X9 (17) 2 (by omega) (ha1.q17) (by decide) rfl (tbd tv_X9_isInBatch rfl) w_357 ?_
    refine G.go tv_X9_isInBatch 1 19 [(0, .ref (gAd E (17))), (1, .int (nI b)), (2, .int (nI (lPos b bt)))] [.ref (gAd E (17)), .ref (gAd E (19))] rfl ?_
    refine G.getf cls_X9 (17) 4 (by omega) (ha1.q17) (by decide) rfl (tbd tv_X9_isInBatch rfl) w_361 ?_
    refine G.go tv_X9_isInBatch 1 23 [(0, .ref (gAd E (17))), (1, .int (nI b)), (2, .int (nI (lPos b bt)))] [.int (nI (lPos b bt)), .ref (gAd E (21)), .ref (gAd E (19))] rfl ?_
    refine G.ialdN (21) (lPos b bt) (by omega) (ha1.q21) (by have := (Nat.lt_of_not_le (fun z => c11 (nI_le z (by have := lPos_le (b := b) (L := bt); omega))) : lPos b bt < bt.length); omega) (by omega) (tbd tv_X9_isInBatch rfl) ?_
    refine G.eqs [.int (nI (r (lPos b bt))), .ref (gAd E (19))] (by rw [(hb.2 (lPos b bt) (Nat.lt_of_not_le (fun z => c11 (nI_le z (by have := lPos_le (b := b) (L := bt); omega))) : lPos b bt < bt.length)).2.1]) ?_
    refine G.ialdN (19) (r (lPos b bt)) (by omega) (ha1.q19) ((hb.2 (lPos b bt) (Nat.lt_of_not_le (fun z => c11 (nI_le z (by have := lPos_le (b := b) (L := bt); omega))) : lPos b bt < bt.length)).1) (by omega) (tbd tv_X9_isInBatch rfl) ?_
    refine G.go tv_X9_isInBatch 1 26 [(0, .ref (gAd E (17))), (1, .int (nI b)), (2, .int (nI (lPos b bt)))] [.int (nI b), .int ((cA C 19) (r (lPos b bt)))] rfl ?_
    refine G.cmp_ne 33 (tbd tv_X9_isInBatch rfl) (by decide) (fun c26 => ?_) (fun c26 => ?_)
    · skip
      refine G.go tv_X9_isInBatch 1 34 [(0, .ref (gAd E (17))), (1, .int (nI b)), (2, .int (nI (lPos b bt)))] [.int ((0 : Int32))] rfl ?_
      exact G.iret rfl rfl (⟨by rw [lHas_f hs (fun z => by first | exact c26 (by rw [(hb.2 (lPos b bt) z.1).2.2.1, z.2]) | exact nI_ge z.1 (by omega) c11)], ha1, fa1⟩) (tbd tv_X9_isInBatch rfl)
    · skip
      refine G.go tv_X9_isInBatch 2 34 [(0, .ref (gAd E (17))), (1, .int (nI b)), (2, .int (nI (lPos b bt)))] [.int ((1 : Int32))] rfl ?_
      exact G.iret rfl rfl (⟨by rw [lHas_t hs ⟨(Nat.lt_of_not_le (fun z => c11 (nI_le z (by have := lPos_le (b := b) (L := bt); omega))) : lPos b bt < bt.length), nI_inj (by have := (hb.2 (lPos b bt) (Nat.lt_of_not_le (fun z => c11 (nI_le z (by have := lPos_le (b := b) (L := bt); omega))) : lPos b bt < bt.length)).2.2.2.1; omega) (by omega) (by rw [← (hb.2 (lPos b bt) (Nat.lt_of_not_le (fun z => c11 (nI_le z (by have := lPos_le (b := b) (L := bt); omega))) : lPos b bt < bt.length)).2.2.1]; exact c26)⟩], ha1, fa1⟩) (tbd tv_X9_isInBatch rfl)
