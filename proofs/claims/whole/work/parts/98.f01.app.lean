/-- the queue's batch stands for a list of entries -/
def BtR (N gr : Nat) (C : CfT) (bt : List En) (r : Nat → Nat) : Prop := cS C 1705 = nI bt.length ∧ ∀ k, k < bt.length → r k < gr * 40 ∧ cA C 21 k = nI (r k) ∧ cA C 19 (r k) = nI (lAt bt k).1 ∧ (lAt bt k).1 < N ∧ Byt (cR C 4 (r k)) ∧ nr (cR C 4 (r k)) = (lAt bt k).2
theorem lAt_drop {L : List En} {j : Nat} (h : j < L.length) : L.drop j = lAt L j :: L.drop (j + 1) := by
  rw [List.drop_eq_getElem_cons h]
  unfold lAt
  rw [List.getD_eq_getElem?_getD, List.getElem?_eq_getElem h]
  rfl
theorem lAt_take {L : List En} {j : Nat} (h : j < L.length) : L.take (j + 1) = L.take j ++ [lAt L j] := by
  rw [List.take_succ_eq_append_getElem h]
  unfold lAt
  rw [List.getD_eq_getElem?_getD, List.getElem?_eq_getElem h]
  rfl
def tb_X6_append : List (Nat × Instr × Nat) := [(0, .iconst 0, 1), (1, .istore_n 2, 1), (2, .iload_n 2, 1), (3, .aload_n 1, 1), (4, .getfield 93, 3), (7, .if_icmp .ge 45, 3), (10, .aload_n 1, 1), (11, .getfield 98, 3), (14, .iload_n 2, 1), (15, .iaload, 1), (16, .istore_n 3, 1), (17, .aload_n 0, 1), (18, .getfield 23, 3), (21, .iconst 3, 1), (22, .aload_n 0, 1), (23, .getfield 42, 3), (26, .iadd, 1), (27, .aload_n 1, 1), (28, .getfield 101, 3), (31, .iload_n 3, 1), (32, .aaload, 1), (33, .invokevirtual 77, 3), (36, .aload_n 0, 1), (37, .aload_n 1, 1), (38, .getfield 105, 3), (41, .iload_n 3, 1), (42, .iaload, 1), (43, .invokevirtual 89, 3), (46, .iinc 2 1, 3), (49, .goto (-47), 3), (52, .aload_n 0, 1), (53, .getfield 23, 3), (56, .iconst 2, 1), (57, .aload_n 0, 1), (58, .invokevirtual 106, 3), (61, .invokevirtual 77, 3), (64, .aload_n 0, 1), (65, .getfield 23, 3), (68, .invokevirtual 109, 3), (71, .aload_n 0, 1), (72, .dup, 1), (73, .getfield 60, 3), (76, .iconst 1, 1), (77, .iadd, 1), (78, .putfield 60, 3), (81, .aload_n 0, 1), (82, .getfield 23, 3), (85, .iconst 1, 1), (86, .aload_n 0, 1), (87, .invokevirtual 73, 3), (90, .invokevirtual 77, 3), (93, .aload_n 0, 1), (94, .getfield 23, 3), (97, .invokevirtual 109, 3), (100, .return_, 1)]
theorem tv_X6_append : Tv cX6_append tb_X6_append := by
  unfold Tv
  decide +kernel
theorem w_364 : Cond.fieldLink "LedgerFiles$Log" 93 "LedgerFiles$Queue" "batched" "I" ∈ TB := tp_1 218 (by decide +kernel) rfl
theorem w_362 : Cond.fieldLink "LedgerFiles$Log" 98 "LedgerFiles$Queue" "batch" "[I" ∈ TB := tp_1 216 (by decide +kernel) rfl
theorem w_356 : Cond.fieldLink "LedgerFiles$Log" 101 "LedgerFiles$Queue" "rows" "[[B" ∈ TB := tp_1 210 (by decide +kernel) rfl
theorem w_358 : Cond.fieldLink "LedgerFiles$Log" 105 "LedgerFiles$Queue" "blockOf" "[I" ∈ TB := tp_1 212 (by decide +kernel) rfl
theorem w_881 : Cond.methodLink "LedgerFiles$Log" 89 yX6_note ∈ TB := tp_4 15 (by decide +kernel) rfl
theorem w_884 : Cond.code yX6_note prog_8_method_3_code 2 none ∈ TB := tp_4 18 rfl rfl
theorem cw_X6_89 : Cw RX6 89 yX6_note cX6_note 2 none 1 := ⟨w_881, w_884, w_153, by decide +kernel, by decide +kernel, by decide⟩
theorem w_883 : Cond.instanceMethod yX6_note ∈ TB := tp_4 17 (by decide +kernel) rfl
theorem w_13 : Cond.selects "LedgerFiles$Log" yX6_note yX6_note ∈ TB := tp_0 13 (by decide +kernel) rfl
set_option maxRecDepth 100000 in
set_option maxHeartbeats 4000000 in
theorem ap_l (E : gE) (f0 : Nat → va_E) (sz : Nat) (A : Nat → Prop) (Q : gQ) (N B gr : Nat) (C0 : CfT) (hz : CfZ E N B gr) (L bt : List En) (tu : Int32) (h0 : Hw) (r : Nat → Nat) (hb : BtR N gr C0 bt r) (hlen : L.length + bt.length ≤ 40) (hb0 : hSp h0 + 50 < 2 ^ 31)
    (kq : ∀ g C hw, CfV E g N B gr C → Fr CfK f0 g → HwR N B 1 hw C → LgR N C (L ++ bt) tu → Sm [0, 1] C0 C → mVals N B L.length bt h0 = (true, hw) → hSp hw ≤ hSp h0 + bt.length → G E (9, yX6_append, 4, none, sz, A) cX6_append (gO E (9, yX6_append, 4, none, sz, A) Q) 52 [(0, .ref (gAd E (13))), (1, .ref (gAd E (17))), (2, .int (nI (bt.length)))] [] g)
    (hx : ∀ g C, CfV E g N B gr C → Fr CfK f0 g → HwR N B 0 (hFl (mVals N B L.length bt h0).2) C → Sm [0, 1] C0 C → Byt (cA C 15) → (mVals N B L.length bt h0).1 = false → Q.2 "java/lang/UnsupportedOperationException" g) :
    ∀ (d j : Nat), j + d = bt.length → ∀ f C hw, CfV E f N B gr C → Fr CfK f0 f → HwR N B 1 hw C → LgR N C (L ++ bt.take j) tu → Sm [0, 1] C0 C → mVals N B (L.length + j) (bt.drop j) hw = mVals N B L.length bt h0 → hSp hw ≤ hSp h0 + j → G E (9, yX6_append, 4, none, sz, A) cX6_append (gO E (9, yX6_append, 4, none, sz, A) Q) 2 [(0, .ref (gAd E (13))), (1, .ref (gAd E (17))), (2, .int (nI (j)))] [] f := by
  obtain ⟨z1, z2, z3, z4, z5, z6, z7⟩ := id hz
  obtain ⟨b1, b2⟩ := hb
  intro d
  induction d with
  | zero =>
    intro j e f C hw h hf hh hl hs ho hsp
    have e : j = bt.length := e
    subst e
    have e5 : cS C 1705 = nI bt.length := (hs.1 1705 (by decide)).trans b1
    refine G.go tv_X6_append 2 4 [(0, .ref (gAd E (13))), (1, .ref (gAd E (17))), (2, .int (nI (bt.length)))] [.ref (gAd E (17)), .int (nI (bt.length))] rfl ?_
    refine G.getf cls_X9 (17) 5 (by omega) (h.q17) (by decide) rfl (tbd tv_X6_append rfl) w_364 ?_
    refine G.eqs [.int (nI bt.length), .int (nI (bt.length))] (by rw [e5]) ?_
    refine G.cmp_ge 52 (tbd tv_X6_append rfl) (by decide) (fun c7 => ?_) (fun c7 => absurd (nI_le (Nat.le_refl _) (by omega)) c7)
    exact kq _ C hw h hf hh (by rw [List.take_length] at hl; exact hl) hs (by rw [← ho, List.drop_length]; rfl) hsp
  | succ d ih =>
    intro j e f C hw h hf hh hl hs ho hsp
    have hjl : j < bt.length := by omega
    obtain ⟨r1, r2, r3, r4, r5, r6⟩ := b2 j hjl
    have e5 : cS C 1705 = nI bt.length := (hs.1 1705 (by decide)).trans b1
    have e21 : cA C 21 = cA C0 21 := hs.2.1 21 (by decide)
    have e19 : cA C 19 = cA C0 19 := hs.2.1 19 (by decide)
    have e4 : cR C 4 (r j) = cR C0 4 (r j) := congrFun (hs.2.2 4 (by decide)) (r j)
    have r2 : cA C 21 j = nI (r j) := by rw [e21]; exact r2
    have r3 : cA C 19 (r j) = nI (lAt bt j).1 := by rw [e19]; exact r3
    have r5 : Byt (cR C 4 (r j)) := by rw [e4]; exact r5
    have r6 : nr (cR C 4 (r j)) = (lAt bt j).2 := by rw [e4]; exact r6
    have hll : (L ++ bt.take j).length = L.length + j := by rw [List.length_append, List.length_take]; omega
    have he : cS C 1305 = nI (L.length + j) := by rw [← hll]; exact hl.1
    have hov : mVals N B L.length bt h0 = hB (aPl N B (3 + (L.length + j)) (nr (cR C 4 (r j))) hw) (mVals N B (L.length + (j + 1)) (bt.drop (j + 1))) := by rw [← ho, lAt_drop hjl, r6]; rfl
    refine G.go tv_X6_append 2 4 [(0, .ref (gAd E (13))), (1, .ref (gAd E (17))), (2, .int (nI (j)))] [.ref (gAd E (17)), .int (nI (j))] rfl ?_
    refine G.getf cls_X9 (17) 5 (by omega) (h.q17) (by decide) rfl (tbd tv_X6_append rfl) w_364 ?_
    refine G.eqs [.int (nI bt.length), .int (nI (j))] (by rw [e5]) ?_
    refine G.cmp_ge 52 (tbd tv_X6_append rfl) (by decide) (fun c7 => absurd c7 (nI_ge (by omega) (by omega))) (fun c7 => ?_)
    refine G.go tv_X6_append 1 11 [(0, .ref (gAd E (13))), (1, .ref (gAd E (17))), (2, .int (nI (j)))] [.ref (gAd E (17))] rfl ?_
    refine G.getf cls_X9 (17) 4 (by omega) (h.q17) (by decide) rfl (tbd tv_X6_append rfl) w_362 ?_
    refine G.go tv_X6_append 1 15 [(0, .ref (gAd E (13))), (1, .ref (gAd E (17))), (2, .int (nI (j)))] [.int (nI (j)), .ref (gAd E (21))] rfl ?_
    refine G.ialdN (21) (j) (by omega) (h.q21) (by omega) (by omega) (tbd tv_X6_append rfl) ?_
    refine G.go tv_X6_append 2 18 [(0, .ref (gAd E (13))), (1, .ref (gAd E (17))), (2, .int (nI (j))), (3, .int ((cA C 21) (j)))] [.ref (gAd E (13))] rfl ?_
    refine G.getf cls_X6 (13) 1 (by omega) (h.q13) (by decide) rfl (tbd tv_X6_append rfl) w_320 ?_
    refine G.go tv_X6_append 2 23 [(0, .ref (gAd E (13))), (1, .ref (gAd E (17))), (2, .int (nI (j))), (3, .int ((cA C 21) (j)))] [.ref (gAd E (13)), .int ((3 : Int32)), .ref (gAd E (8))] rfl ?_
    refine G.getf cls_X6 (13) 5 (by omega) (h.q13) (by decide) rfl (tbd tv_X6_append rfl) w_325 ?_
    refine G.eqs [.int (nI (L.length + j)), .int ((3 : Int32)), .ref (gAd E (8))] (by rw [he]) ?_
    refine G.go tv_X6_append 2 28 [(0, .ref (gAd E (13))), (1, .ref (gAd E (17))), (2, .int (nI (j))), (3, .int ((cA C 21) (j)))] [.ref (gAd E (17)), .int (((3 : Int32)) + (nI (L.length + j))), .ref (gAd E (8))] rfl ?_
    refine G.getf cls_X9 (17) 1 (by omega) (h.q17) (by decide) rfl (tbd tv_X6_append rfl) w_356 ?_
    refine G.go tv_X6_append 1 32 [(0, .ref (gAd E (13))), (1, .ref (gAd E (17))), (2, .int (nI (j))), (3, .int ((cA C 21) (j)))] [.int ((cA C 21) (j)), .ref (gAd E (18)), .int (((3 : Int32)) + (nI (L.length + j))), .ref (gAd E (8))] rfl ?_
    refine G.eqs [.int (nI (r j)), .ref (gAd E (18)), .int (((3 : Int32)) + (nI (L.length + j))), .ref (gAd E (8))] (by rw [r2]) ?_
    refine G.aaldN (18) (r j) (by omega) (h.q18) (r1) (by omega) (tbd tv_X6_append rfl) ?_
    refine G.eqs [.ref (gAd E (350 + 2 * N + B + (r j))), .int (((3 : Int32)) + (nI (L.length + j))), .ref (gAd E (8))] (by rw [rwA_at (r1)]; rfl) ?_
    refine G.eqs [.ref (gAd E (350 + 2 * N + B + (r j))), .int (nI (3 + (L.length + j))), .ref (gAd E (8))] (by rw [show (3 : Int32) = nI 3 from rfl, nI_add]) ?_
    refine G.callV (8) [.int (nI (3 + (L.length + j))), .ref (gAd E (350 + 2 * N + B + (r j)))] [] (r_pl E _ N B gr C hz h hw hh (show hSp hw + 1 < 2 ^ 31 by omega) (3 + (L.length + j)) (350 + 2 * N + B + (r j)) (cR C 4 (r j)) (by omega) (by omega) (h.r4 (r j) r1) r5 (by unfold DBK DkK BfK; omega)) cls_X0 (by omega) (h.q8) cw_X6_77 w_718 w_719 (Nat.le_of_ble_eq_true rfl) rfl (Nat.le_of_ble_eq_true rfl) (tbd tv_X6_append rfl) (fun v1 f1 q1 => ?_) (fun X g q => by obtain ⟨rfl, q2, ⟨C9, q3, q4, q5⟩, q6⟩ := q; have e9 := hov.trans (hB_f q2); exact hx g C9 q3 (hf.tr q6 (fun _ h => h)) (by rw [e9]; exact q4) (hs.tr (q5.wk (by decide))) (by have e15 : cA C9 15 = cA C 15 := q5.2.1 15 (by decide); rw [e15]; exact hl.2.2.2.2.2) (by rw [e9]; exact q2))
    obtain ⟨rfl, ht1, ⟨C1, hc1, hh1, hs1⟩, fa1⟩ := q1
    refine G.eqs [] rfl ?_
    have hl1 := hl.sm hs1 (by decide)
    have he1 : cS C1 1305 = nI (L.length + j) := by rw [← hll]; exact hl1.1
    have e19b : cA C1 19 (r j) = nI (lAt bt j).1 := by have e : cA C1 19 = cA C 19 := hs1.2.1 19 (by decide); rw [e]; exact r3
    refine G.go tv_X6_append 2 38 [(0, .ref (gAd E (13))), (1, .ref (gAd E (17))), (2, .int (nI (j))), (3, .int ((cA C 21) (j)))] [.ref (gAd E (17)), .ref (gAd E (13))] rfl ?_
    refine G.getf cls_X9 (17) 2 (by omega) (hc1.q17) (by decide) rfl (tbd tv_X6_append rfl) w_358 ?_
    refine G.go tv_X6_append 1 42 [(0, .ref (gAd E (13))), (1, .ref (gAd E (17))), (2, .int (nI (j))), (3, .int ((cA C 21) (j)))] [.int ((cA C 21) (j)), .ref (gAd E (19)), .ref (gAd E (13))] rfl ?_
    refine G.eqs [.int (nI (r j)), .ref (gAd E (19)), .ref (gAd E (13))] (by rw [r2]) ?_
    refine G.ialdN (19) (r j) (by omega) (hc1.q19) (r1) (by omega) (tbd tv_X6_append rfl) ?_
    refine G.eqs [.int (nI (lAt bt j).1), .ref (gAd E (13))] (by rw [e19b]) ?_
    refine G.callV (13) [.int (nI (lAt bt j).1)] [] (k_note E _ N B gr C1 hz hc1 (lAt bt j).1 (L.length + j) r4 he1 (by omega)) cls_X6 (by omega) (hc1.q13) cw_X6_89 w_883 w_13 (Nat.le_of_ble_eq_true rfl) rfl (Nat.le_of_ble_eq_true rfl) (tbd tv_X6_append rfl) (fun v2 f2 q2 => ?_) (fun _ _ h => h.elim)
    obtain ⟨rfl, ha2, fa2⟩ := q2
    refine G.eqs [] rfl ?_
    refine G.go tv_X6_append 2 2 [(0, .ref (gAd E (13))), (1, .ref (gAd E (17))), (2, .int (nI (j) + (1 : Int32))), (3, .int ((cA C 21) (j)))] [] rfl ?_
    refine G.less [(0, .ref (gAd E (13))), (1, .ref (gAd E (17))), (2, .int (nI (j) + (1 : Int32)))] [0, 1, 2] rfl ?_
    refine G.eql [(0, .ref (gAd E (13))), (1, .ref (gAd E (17))), (2, .int (nI (j + 1)))] (by rw [nI_1]) ?_
    have hn := LgR.note (x := (lAt bt j).2) hl1 r4 (by rw [hll]; omega)
    rw [hll, List.append_assoc] at hn
    have htk : bt.take j ++ [((lAt bt j).1, (lAt bt j).2)] = bt.take (j + 1) := (lAt_take hjl).symm
    rw [htk] at hn
    exact ih (j + 1) (by omega) _ (sS (sA (sA C1 14 (upd (cA C1 14) (L.length + j) (nI (lAt bt j).1))) 16 (upd (cA C1 16) (lAt bt j).1 (nI (L.length + j)))) 1305 ((nI (L.length + j)) + ((1 : Int32)))) _ (ha2) (((hf.tr fa1 (fun _ h => h)).tr fa2 (fun _ h => h))) (HwR.sm hh1 (Sm.note) (by decide)) hn ((hs.tr (hs1.wk (by decide))).tr (Sm.note.wk (by decide))) ((hov.trans (hB_t ht1)).symm) (by have := aPl_sp (N := N) (B := B) (t := 3 + (L.length + j)) (x := nr (cR C 4 (r j))) (h := hw); unfold hSp at *; omega)
