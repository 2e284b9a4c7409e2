theorem DkK_LgK {N k : Nat} (h : DkK N k) : ¬ LgK k := by
  unfold DkK LgK at *
  omega
theorem BfK_LgK {N B k : Nat} (h : BfK N B k) : ¬ LgK k := by
  unfold BfK LgK at *
  omega
def LDB (N B k : Nat) : Prop := DBK N B k ∨ LgK k
def tb_X6_head : List (Nat × Instr × Nat) := [(0, .aload_n 0, 1), (1, .getfield 15, 3), (4, .iconst 0, 1), (5, .invokestatic 53, 3), (8, .aload_n 0, 1), (9, .getfield 15, 3), (12, .iconst 0, 1), (13, .aload_n 0, 1), (14, .getfield 42, 3), (17, .invokestatic 56, 3), (20, .aload_n 0, 1), (21, .getfield 15, 3), (24, .iconst 2, 1), (25, .aload_n 0, 1), (26, .getfield 60, 3), (29, .invokestatic 63, 3), (32, .aload_n 0, 1), (33, .getfield 15, 3), (36, .bipush 6, 2), (38, .aload_n 0, 1), (39, .aload_n 0, 1), (40, .getfield 15, 3), (43, .aload_n 0, 1), (44, .getfield 42, 3), (47, .invokevirtual 66, 3), (50, .invokestatic 63, 3), (53, .aload_n 0, 1), (54, .getfield 15, 3), (57, .areturn, 1)]
theorem tv_X6_head : Tv cX6_head tb_X6_head := by
  unfold Tv
  decide +kernel
theorem w_322 : Cond.fieldLink "LedgerFiles$Log" 15 "LedgerFiles$Log" "scratch" "[B" ∈ TB := tp_1 176 (by decide +kernel) rfl
theorem w_785 : Cond.methodLink "LedgerFiles$Log" 53 yJ7_fill_031fb ∈ TB := tp_3 159 (by decide +kernel) rfl
theorem w_716 : Cond.code yJ7_fill_031fb prog_30_method_109_code 4 none ∈ TB := tp_3 90 rfl rfl
theorem cw_X6_53 : Cw RX6 53 yJ7_fill_031fb cJ7_fill_031fb 4 none 2 := ⟨w_785, w_716, w_151, by decide +kernel, by decide +kernel, by decide⟩
theorem w_715 : Cond.static yJ7_fill_031fb ∈ TB := tp_3 89 (by decide +kernel) rfl
theorem w_786 : Cond.methodLink "LedgerFiles$Log" 56 yX2_setTwo ∈ TB := tp_3 160 (by decide +kernel) rfl
theorem cw_X6_56 : Cw RX6 56 yX2_setTwo cX2_setTwo 3 none 3 := ⟨w_786, w_788, w_149, by decide +kernel, by decide +kernel, by decide⟩
theorem w_328 : Cond.fieldLink "LedgerFiles$Log" 60 "LedgerFiles$Log" "turn" "I" ∈ TB := tp_1 182 (by decide +kernel) rfl
theorem w_789 : Cond.methodLink "LedgerFiles$Log" 63 yX2_setFour ∈ TB := tp_3 163 (by decide +kernel) rfl
theorem w_791 : Cond.code yX2_setFour prog_4_method_5_code 3 none ∈ TB := tp_3 165 rfl rfl
theorem cw_X6_63 : Cw RX6 63 yX2_setFour cX2_setFour 3 none 3 := ⟨w_789, w_791, w_149, by decide +kernel, by decide +kernel, by decide⟩
theorem w_790 : Cond.static yX2_setFour ∈ TB := tp_3 164 (by decide +kernel) rfl
theorem w_793 : Cond.methodLink "LedgerFiles$Log" 66 yX6_sum ∈ TB := tp_3 167 (by decide +kernel) rfl
theorem w_796 : Cond.code yX6_sum prog_8_method_5_code 5 (some .int) ∈ TB := tp_3 170 rfl rfl
theorem cw_X6_66 : Cw RX6 66 yX6_sum cX6_sum 5 (some .int) 2 := ⟨w_793, w_796, w_153, by decide +kernel, by decide +kernel, by decide⟩
theorem w_795 : Cond.instanceMethod yX6_sum ∈ TB := tp_3 169 (by decide +kernel) rfl
theorem w_9 : Cond.selects "LedgerFiles$Log" yX6_sum yX6_sum ∈ TB := tp_0 9 (by decide +kernel) rfl
set_option maxRecDepth 100000 in
set_option maxHeartbeats 4000000 in
theorem c_X6_head (E : gE) (f : Nat → va_E) (N : Nat) (l : LgT) (hE : 350 + N ≤ gN E) (hN : N ≤ 1024) (hl : LgV E f N l) (hlo : lOk N l) (d : DkT) (on le wr ss : Int32) (hdv : DkV E f N d on le wr ss) (hdo : dOk N d) (hN2 : 61 ≤ N) : Ct E 3 yX6_head cX6_head 1 (some (.array .byte)) [.ref (gAd E (13))] f (fun v g => v = some (.ref (gAd E 15)) ∧ LgV E g N (lHead d l) ∧ Fr LgK f g, fun _ _ => False) := by
  have hdv2 : f 2 = .inr (2, [.int (nI N), .ref (gAd E 3), .ref (gAd E 4), .ref (gAd E 5), .ref (gAd E 6), .ref (gAd E 7), .int (nI d.2.2.2.2.2.1), .int (nI d.2.2.2.2.2.2), .int on, .int le, .int wr, .int ss]) := by obtain ⟨dw, dla, dbo, dsy, dva, da, dn⟩ := d; exact hdv.1
  obtain ⟨bl, sc, en, nt, tu⟩ := l
  obtain ⟨l13, l14, l15, l16⟩ := id hl
  obtain ⟨p1, p2, p3, p4⟩ := id hlo
  refine Ct.of (by decide) (Nat.le_of_ble_eq_true rfl) (fun sz => ?_)
  refine G.eql [(0, .ref (gAd E (13)))] rfl ?_
  refine G.go tv_X6_head 1 1 [(0, .ref (gAd E (13)))] [.ref (gAd E (13))] rfl ?_
  refine G.getf cls_X6 (13) 3 (by omega) (l13) (by decide) rfl (tbd tv_X6_head rfl) w_322 ?_
  refine G.go tv_X6_head 1 5 [(0, .ref (gAd E (13)))] [.int ((0 : Int32)), .ref (gAd E (15))] rfl ?_
  refine G.callS [.ref (gAd E (15)), .int ((0 : Int32))] [] (c_J7_fill_031fb E _ 15 (128) (sc) ((0 : Int32)) (by omega) (l15) (by omega)) cw_X6_53 w_715 (Nat.le_of_ble_eq_true rfl) rfl (Nat.le_of_ble_eq_true rfl) (tbd tv_X6_head rfl) (fun v1 f1 q1 => ?_) (fun _ _ h => h.elim)
  obtain ⟨rfl, rfl⟩ := q1
  refine G.eqs [] rfl ?_
  refine G.go tv_X6_head 1 9 [(0, .ref (gAd E (13)))] [.ref (gAd E (13))] rfl ?_
  refine G.getf cls_X6 (13) 3 (by omega) (up_n (by decide) (l13)) (by decide) rfl (tbd tv_X6_head rfl) w_322 ?_
  refine G.go tv_X6_head 2 14 [(0, .ref (gAd E (13)))] [.ref (gAd E (13)), .int ((0 : Int32)), .ref (gAd E (15))] rfl ?_
  refine G.getf cls_X6 (13) 5 (by omega) (up_n (by decide) (l13)) (by decide) rfl (tbd tv_X6_head rfl) w_325 ?_
  refine G.eqs [.int (nI nt), .int (nI (0)), .ref (gAd E (15))] rfl ?_
  refine G.callS [.ref (gAd E (15)), .int (nI (0)), .int (nI nt)] [] (c_X2_setTwo E _ 15 (0) 128 (flt (sc) 0 (128) (0)) (by omega) (up_e) (by omega) (by omega) (nI nt)) cw_X6_56 w_787 (Nat.le_of_ble_eq_true rfl) rfl (Nat.le_of_ble_eq_true rfl) (tbd tv_X6_head rfl) (fun v2 f2 q2 => ?_) (fun _ _ h => h.elim)
  obtain ⟨rfl, rfl⟩ := q2
  refine G.eqs [] rfl ?_
  refine G.go tv_X6_head 1 21 [(0, .ref (gAd E (13)))] [.ref (gAd E (13))] rfl ?_
  refine G.getf cls_X6 (13) 3 (by omega) (up_n (by decide) (up_n (by decide) (l13))) (by decide) rfl (tbd tv_X6_head rfl) w_322 ?_
  refine G.go tv_X6_head 2 26 [(0, .ref (gAd E (13)))] [.ref (gAd E (13)), .int ((2 : Int32)), .ref (gAd E (15))] rfl ?_
  refine G.getf cls_X6 (13) 6 (by omega) (up_n (by decide) (up_n (by decide) (l13))) (by decide) rfl (tbd tv_X6_head rfl) w_328 ?_
  refine G.eqs [.int (tu), .int (nI (2)), .ref (gAd E (15))] rfl ?_
  refine G.callS [.ref (gAd E (15)), .int (nI (2)), .int (tu)] [] (c_X2_setFour E _ 15 (2) 128 (s_two (flt (sc) 0 (128) (0)) (0) (nI nt)) (by omega) (up_e) (by omega) (by omega) (tu)) cw_X6_63 w_790 (Nat.le_of_ble_eq_true rfl) rfl (Nat.le_of_ble_eq_true rfl) (tbd tv_X6_head rfl) (fun v3 f3 q3 => ?_) (fun _ _ h => h.elim)
  obtain ⟨rfl, rfl⟩ := q3
  refine G.eqs [] rfl ?_
  refine G.go tv_X6_head 1 33 [(0, .ref (gAd E (13)))] [.ref (gAd E (13))] rfl ?_
  refine G.getf cls_X6 (13) 3 (by omega) (up_n (by decide) (up_n (by decide) (up_n (by decide) (l13)))) (by decide) rfl (tbd tv_X6_head rfl) w_322 ?_
  refine G.go tv_X6_head 3 40 [(0, .ref (gAd E (13)))] [.ref (gAd E (13)), .ref (gAd E (13)), .int ((6 : Int32)), .ref (gAd E (15))] rfl ?_
  refine G.getf cls_X6 (13) 3 (by omega) (up_n (by decide) (up_n (by decide) (up_n (by decide) (l13)))) (by decide) rfl (tbd tv_X6_head rfl) w_322 ?_
  refine G.go tv_X6_head 1 44 [(0, .ref (gAd E (13)))] [.ref (gAd E (13)), .ref (gAd E (15)), .ref (gAd E (13)), .int ((6 : Int32)), .ref (gAd E (15))] rfl ?_
  refine G.getf cls_X6 (13) 5 (by omega) (up_n (by decide) (up_n (by decide) (up_n (by decide) (l13)))) (by decide) rfl (tbd tv_X6_head rfl) w_325 ?_
  refine G.callV (13) [.ref (gAd E (15)), .int (nI nt)] [.int ((6 : Int32)), .ref (gAd E (15))] (c_X6_sum E _ N (bl, s_four (s_two (flt (sc) 0 (128) (0)) (0) (nI nt)) (2) (tu), en, nt, tu) (by omega) hN (⟨up_n (by decide) (up_n (by decide) (up_n (by decide) (l13))), up_n (by decide) (up_n (by decide) (up_n (by decide) (l14))), up_e, up_n (by decide) (up_n (by decide) (up_n (by decide) (l16)))⟩) ⟨p1, p2, ((Byt_flt p3 rfl).s_two).s_four, p4⟩ d on le wr ss (hdv.of (fun k hk => (Fr.up (Fr.up (Fr.up (Fr.rf) (⟨by decide, by decide⟩)) (⟨by decide, by decide⟩)) (⟨by decide, by decide⟩) : Fr LgK f _) k (DkK_LgK hk))) hdo nt 15 (s_four (s_two (flt (sc) 0 (128) (0)) (0) (nI nt)) (2) (tu)) p1 hN2 (by omega) (up_e)) cls_X6 (by omega) (up_n (by decide) (up_n (by decide) (up_n (by decide) (l13)))) cw_X6_66 w_795 w_9 (Nat.le_of_ble_eq_true rfl) rfl (Nat.le_of_ble_eq_true rfl) (tbd tv_X6_head rfl) (fun v4 f4 q4 => ?_) (fun _ _ h => h.elim)
  obtain ⟨rfl, rfl⟩ := q4
  refine G.eqs [.int (lgSum d (s_four (s_two (flt (sc) 0 (128) (0)) (0) (nI nt)) (2) (tu)) nt), .int ((6 : Int32)), .ref (gAd E (15))] rfl ?_
  refine G.eqs [.int (lgSum d (s_four (s_two (flt (sc) 0 (128) (0)) (0) (nI nt)) (2) (tu)) nt), .int (nI (6)), .ref (gAd E (15))] rfl ?_
  refine G.callS [.ref (gAd E (15)), .int (nI (6)), .int (lgSum d (s_four (s_two (flt (sc) 0 (128) (0)) (0) (nI nt)) (2) (tu)) nt)] [] (c_X2_setFour E _ 15 (6) 128 (s_four (s_two (flt (sc) 0 (128) (0)) (0) (nI nt)) (2) (tu)) (by omega) (up_e) (by omega) (by omega) (lgSum d (s_four (s_two (flt (sc) 0 (128) (0)) (0) (nI nt)) (2) (tu)) nt)) cw_X6_63 w_790 (Nat.le_of_ble_eq_true rfl) rfl (Nat.le_of_ble_eq_true rfl) (tbd tv_X6_head rfl) (fun v5 f5 q5 => ?_) (fun _ _ h => h.elim)
  obtain ⟨rfl, rfl⟩ := q5
  refine G.eqs [] rfl ?_
  refine G.go tv_X6_head 1 54 [(0, .ref (gAd E (13)))] [.ref (gAd E (13))] rfl ?_
  refine G.getf cls_X6 (13) 3 (by omega) (up_n (by decide) (up_n (by decide) (up_n (by decide) (up_n (by decide) (l13))))) (by decide) rfl (tbd tv_X6_head rfl) w_322 ?_
  refine G.aret rfl ⟨rfl, ?_, Fr.up (Fr.up (Fr.up (Fr.up (Fr.rf) (⟨by decide, by decide⟩)) (⟨by decide, by decide⟩)) (⟨by decide, by decide⟩)) (⟨by decide, by decide⟩)⟩ (tbd tv_X6_head rfl)
  show LgV E _ N (bl, hdRow d nt tu sc, en, nt, tu)
  exact ⟨up_n (by decide) (up_n (by decide) (up_n (by decide) (up_n (by decide) (l13)))), up_n (by decide) (up_n (by decide) (up_n (by decide) (up_n (by decide) (l14)))), up_e, up_n (by decide) (up_n (by decide) (up_n (by decide) (up_n (by decide) (l16))))⟩
def tb_X6_startAnew : List (Nat × Instr × Nat) := [(0, .aload_n 0, 1), (1, .invokevirtual 70, 3), (4, .aload_n 0, 1), (5, .iconst 0, 1), (6, .putfield 60, 3), (9, .aload_n 0, 1), (10, .getfield 23, 3), (13, .iconst 1, 1), (14, .aload_n 0, 1), (15, .invokevirtual 73, 3), (18, .invokevirtual 77, 3), (21, .return_, 1)]
theorem tv_X6_startAnew : Tv cX6_startAnew tb_X6_startAnew := by
  unfold Tv
  decide +kernel
theorem w_777 : Cond.methodLink "LedgerFiles$Log" 70 yX6_forgetEntries ∈ TB := tp_3 151 (by decide +kernel) rfl
theorem w_780 : Cond.code yX6_forgetEntries prog_8_method_2_code 1 none ∈ TB := tp_3 154 rfl rfl
theorem cw_X6_70 : Cw RX6 70 yX6_forgetEntries cX6_forgetEntries 1 none 0 := ⟨w_777, w_780, w_153, by decide +kernel, by decide +kernel, by decide⟩
theorem w_779 : Cond.instanceMethod yX6_forgetEntries ∈ TB := tp_3 153 (by decide +kernel) rfl
theorem w_7 : Cond.selects "LedgerFiles$Log" yX6_forgetEntries yX6_forgetEntries ∈ TB := tp_0 7 (by decide +kernel) rfl
theorem w_320 : Cond.fieldLink "LedgerFiles$Log" 23 "LedgerFiles$Log" "buffer" "LLedgerFiles$Buffer;" ∈ TB := tp_1 174 (by decide +kernel) rfl
theorem w_781 : Cond.methodLink "LedgerFiles$Log" 73 yX6_head ∈ TB := tp_3 155 (by decide +kernel) rfl
theorem w_784 : Cond.code yX6_head prog_8_method_6_code 1 (some (.array .byte)) ∈ TB := tp_3 158 rfl rfl
theorem cw_X6_73 : Cw RX6 73 yX6_head cX6_head 1 (some (.array .byte)) 0 := ⟨w_781, w_784, w_153, by decide +kernel, by decide +kernel, by decide⟩
theorem w_783 : Cond.instanceMethod yX6_head ∈ TB := tp_3 157 (by decide +kernel) rfl
theorem w_8 : Cond.selects "LedgerFiles$Log" yX6_head yX6_head ∈ TB := tp_0 8 (by decide +kernel) rfl
theorem w_804 : Cond.methodLink "LedgerFiles$Log" 77 yX0_place ∈ TB := tp_3 178 (by decide +kernel) rfl
theorem w_720 : Cond.code yX0_place prog_2_method_2_code 4 none ∈ TB := tp_3 94 rfl rfl
theorem cw_X6_77 : Cw RX6 77 yX0_place cX0_place 4 none 2 := ⟨w_804, w_720, w_152, by decide +kernel, by decide +kernel, by decide⟩
theorem w_718 : Cond.instanceMethod yX0_place ∈ TB := tp_3 92 (by decide +kernel) rfl
theorem w_719 : Cond.selects "LedgerFiles$Buffer" yX0_place yX0_place ∈ TB := tp_3 93 (by decide +kernel) rfl
set_option maxRecDepth 100000 in
set_option maxHeartbeats 4000000 in
theorem c_X6_startAnew (E : gE) (f : Nat → va_E) (N : Nat) (l : LgT) (hE : 350 + N ≤ gN E) (hN : N ≤ 1024) (hl : LgV E f N l) (hlo : lOk N l) (d : DkT) (on le wr ss : Int32) (hdv : DkV E f N d on le wr ss) (hdo : dOk N d) (hN2 : 61 ≤ N) (B : Nat) (b : BfT) (hE2 : 350 + 2 * N + B ≤ gN E) (hb : BfV E f N B b) (hbo : bOk N B b) : Ct E 9 yX6_startAnew cX6_startAnew 1 none [.ref (gAd E (13))] f (fun v g => v = none ∧ ((b.1 1 = -1 ∧ 0 < b.2.2.1 (bSlot B b)) → ¬ le = 0) ∧ DkV E g N (plD B b d 1) on (plL B b 1 le) (plW B b 1 wr) ss ∧ BfV E g N B (bPlace B b 1 (hdRow d 0 0 l.2.1)) ∧ LgV E g N (lHead d (lTurn 0 (lClr N l))) ∧ Fr (LDB N B) f g, fun X g => X = "java/lang/UnsupportedOperationException" ∧ le = 0 ∧ (b.1 1 = -1 ∧ 0 < b.2.2.1 (bSlot B b)) ∧ DkV E g N d 0 (-1) wr ss ∧ BfV E g N B b ∧ LgV E g N (lHead d (lTurn 0 (lClr N l))) ∧ Fr (LDB N B) f g) := by
  have l13a : f 13 = .inr (6, [.ref (gAd E 2), .ref (gAd E 8), .ref (gAd E 14), .ref (gAd E 15), .ref (gAd E 16), .int (nI l.2.2.2.1), .int l.2.2.2.2]) := by obtain ⟨bl, sc, en, nt, tu⟩ := l; exact hl.1
  have hb8 : f 8 = .inr (0, [.ref (gAd E 2), .ref (gAd E 9), .ref (gAd E 10), .ref (gAd E 11), .ref (gAd E 12), .int (nI b.2.2.2.2.1), .int (nI b.2.2.2.2.2.1), .int b.2.2.2.2.2.2]) := by obtain ⟨so, bo, st, ro, sp, hd, pu⟩ := b; exact hb.1
  refine Ct.of (by decide) (Nat.le_of_ble_eq_true rfl) (fun sz => ?_)
  refine G.eql [(0, .ref (gAd E (13)))] rfl ?_
  refine G.go tv_X6_startAnew 1 1 [(0, .ref (gAd E (13)))] [.ref (gAd E (13))] rfl ?_
  refine G.callV (13) [] [] (c_X6_forgetEntries E f N l (by omega) hN hl hlo) cls_X6 (by omega) (l13a) cw_X6_70 w_779 w_7 (Nat.le_of_ble_eq_true rfl) rfl (Nat.le_of_ble_eq_true rfl) (tbd tv_X6_startAnew rfl) (fun v1 f1 q1 => ?_) (fun _ _ h => h.elim)
  obtain ⟨rfl, hl1, hf1⟩ := q1
  refine G.eqs [] rfl ?_
  have hlo1 := lClr_ok hlo
  have hps : hdRow d 0 0 l.2.1 = hdRow d (lClr N l).2.2.2.1 0 (lClr N l).2.1 := by obtain ⟨bl, sc, en, nt, tu⟩ := l; rfl
  generalize hge : lClr N l = l1 at hl1 hlo1 hps
  obtain ⟨bl, sc, en, nt, tu⟩ := l1
  obtain ⟨l13, l14, l15, l16⟩ := id hl1
  obtain ⟨p1, p2, p3, p4⟩ := id hlo1
  refine G.go tv_X6_startAnew 2 6 [(0, .ref (gAd E (13)))] [.int ((0 : Int32)), .ref (gAd E (13))] rfl ?_
  refine G.putfS cls_X6 (13) 6 [.ref (gAd E (2)), .ref (gAd E (8)), .ref (gAd E (14)), .ref (gAd E (15)), .ref (gAd E (16)), .int (nI nt), .int ((0 : Int32))] (by omega) (l13) rfl (by decide) rfl rfl rfl (Nat.le_of_ble_eq_true rfl) (tbd tv_X6_startAnew rfl) w_328 ?_
  refine G.go tv_X6_startAnew 1 10 [(0, .ref (gAd E (13)))] [.ref (gAd E (13))] rfl ?_
  refine G.getf cls_X6 (13) 1 (by omega) (up_e) (by decide) rfl (tbd tv_X6_startAnew rfl) w_320 ?_
  refine G.go tv_X6_startAnew 2 15 [(0, .ref (gAd E (13)))] [.ref (gAd E (13)), .int ((1 : Int32)), .ref (gAd E (8))] rfl ?_
  have hl2 : LgV E _ N (bl, sc, en, nt, 0) := (⟨up_e, up_n (by decide) (l14), up_n (by decide) (l15), up_n (by decide) (l16)⟩ : LgV E (va_up (f1) (13) (.inr (6, [.ref (gAd E (2)), .ref (gAd E (8)), .ref (gAd E (14)), .ref (gAd E (15)), .ref (gAd E (16)), .int (nI nt), .int ((0 : Int32))]))) N (bl, sc, en, nt, 0))
  have hf2 : Fr LgK f (va_up (f1) (13) (.inr (6, [.ref (gAd E (2)), .ref (gAd E (8)), .ref (gAd E (14)), .ref (gAd E (15)), .ref (gAd E (16)), .int (nI nt), .int ((0 : Int32))]))) := hf1.tr (Fr.up (Fr.rf) (⟨by decide, by decide⟩) : Fr LgK f1 _) (fun _ h => h)
  refine G.callV (13) [] [.int ((1 : Int32)), .ref (gAd E (8))] (c_X6_head E _ N (bl, sc, en, nt, 0) (by omega) hN hl2 hlo1 d on le wr ss (hdv.of (fun k hk => hf2 k (DkK_LgK hk))) hdo hN2) cls_X6 (by omega) (up_e) cw_X6_73 w_783 w_8 (Nat.le_of_ble_eq_true rfl) rfl (Nat.le_of_ble_eq_true rfl) (tbd tv_X6_startAnew rfl) (fun v2 f2 q2 => ?_) (fun _ _ h => h.elim)
  obtain ⟨rfl, hl3, hf3⟩ := q2
  refine G.eqs [.ref (gAd E (15)), .int ((1 : Int32)), .ref (gAd E (8))] rfl ?_
  have hf4 : Fr LgK f f2 := hf2.tr hf3 (fun _ h => h)
  refine G.eqs [.ref (gAd E (15)), .int (nI 1), .ref (gAd E (8))] rfl ?_
  refine G.callV (8) [.int (nI 1), .ref (gAd E (15))] [] (c_X0_place E f2 N B b hE2 hN (hb.of (fun k hk => hf4 k (BfK_LgK hk))) hbo d on le wr ss (hdv.of (fun k hk => hf4 k (DkK_LgK hk))) hdo 1 15 (hdRow d nt 0 sc) (by omega) (by omega) hl3.2.2.1 (hdRow_byt p3) (by unfold BfK; omega) (by unfold DkK; omega)) cls_X0 (by omega) ((hf4 8 (by unfold LgK; omega)).trans hb8) cw_X6_77 w_718 w_719 (Nat.le_of_ble_eq_true rfl) rfl (Nat.le_of_ble_eq_true rfl) (tbd tv_X6_startAnew rfl) (fun v3 f3 q3 => ?_) (fun X g h => ⟨h.1, h.2.1, h.2.2.1, h.2.2.2.1, h.2.2.2.2.1, hl3.of (fun k hk => h.2.2.2.2.2 k (LgK_DBK hk)), (hf4.wk (fun _ h => Or.inr h)).tr h.2.2.2.2.2 (fun _ h => Or.inl h)⟩)
  obtain ⟨rfl, q1, q2, q3, q4⟩ := q3
  refine G.eqs [] rfl ?_
  refine G.vret rfl ⟨rfl, q1, q2, ?_, ?_, (hf4.wk (fun _ h => Or.inr h)).tr q4 (fun _ h => Or.inl h)⟩ (tbd tv_X6_startAnew rfl)
  · rw [hps]
    exact q3
  · exact hl3.of (fun k hk => q4 k (LgK_DBK hk))
