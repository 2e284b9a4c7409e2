def tb_X6_forgetEntries : List (Nat × Instr × Nat) := [(0, .aload_n 0, 1), (1, .iconst 0, 1), (2, .putfield 42, 3), (5, .aload_n 0, 1), (6, .getfield 33, 3), (9, .iconst (-1), 1), (10, .invokestatic 36, 3), (13, .return_, 1)]
theorem tv_X6_forgetEntries : Tv cX6_forgetEntries tb_X6_forgetEntries := by
  unfold Tv
  decide +kernel
theorem w_325 : Cond.fieldLink "LedgerFiles$Log" 42 "LedgerFiles$Log" "entries" "I" ∈ TB := tp_1 179 (by decide +kernel) rfl
theorem w_323 : Cond.fieldLink "LedgerFiles$Log" 33 "LedgerFiles$Log" "entryOf" "[I" ∈ TB := tp_1 177 (by decide +kernel) rfl
theorem w_318 : Cond.methodLink "LedgerFiles$Log" 36 yJ7_fill_53178 ∈ TB := tp_1 172 (by decide +kernel) rfl
theorem w_224 : Cond.code yJ7_fill_53178 prog_30_method_103_code 4 none ∈ TB := tp_1 78 rfl rfl
theorem w_151 : Cond.initialized "java/util/Arrays" ∈ TB := tp_1 5 (by decide +kernel) rfl
theorem cw_X6_36 : Cw RX6 36 yJ7_fill_53178 cJ7_fill_53178 4 none 2 := ⟨w_318, w_224, w_151, by decide +kernel, by decide +kernel, by decide⟩
theorem w_223 : Cond.static yJ7_fill_53178 ∈ TB := tp_1 77 (by decide +kernel) rfl
set_option maxRecDepth 100000 in
set_option maxHeartbeats 4000000 in
theorem c_X6_forgetEntries (E : gE) (f : Nat → va_E) (N : Nat) (l : LgT) (hE : 350 + N ≤ gN E) (hN : N ≤ 1024) (hl : LgV E f N l) (hlo : lOk N l) : Ct E 2 yX6_forgetEntries cX6_forgetEntries 1 none [.ref (gAd E (13))] f (fun v g => v = none ∧ LgV E g N (lClr N l) ∧ Fr LgK f g, fun _ _ => False) := by
  obtain ⟨bl, sc, en, nt, tu⟩ := l
  obtain ⟨l13, l14, l15, l16⟩ := id hl
  obtain ⟨p1, p2, p3, p4⟩ := id hlo
  refine Ct.of (by decide) (Nat.le_of_ble_eq_true rfl) (fun sz => ?_)
  refine G.eql [(0, .ref (gAd E (13)))] rfl ?_
  refine G.go tv_X6_forgetEntries 2 2 [(0, .ref (gAd E (13)))] [.int ((0 : Int32)), .ref (gAd E (13))] rfl ?_
  refine G.putfS cls_X6 (13) 5 [.ref (gAd E (2)), .ref (gAd E (8)), .ref (gAd E (14)), .ref (gAd E (15)), .ref (gAd E (16)), .int ((0 : Int32)), .int (tu)] (by omega) (l13) rfl (by decide) rfl rfl rfl (Nat.le_of_ble_eq_true rfl) (tbd tv_X6_forgetEntries rfl) w_325 ?_
  refine G.go tv_X6_forgetEntries 1 6 [(0, .ref (gAd E (13)))] [.ref (gAd E (13))] rfl ?_
  refine G.getf cls_X6 (13) 4 (by omega) (up_e) (by decide) rfl (tbd tv_X6_forgetEntries rfl) w_323 ?_
  refine G.go tv_X6_forgetEntries 1 10 [(0, .ref (gAd E (13)))] [.int ((-1 : Int32)), .ref (gAd E (16))] rfl ?_
  refine G.callS [.ref (gAd E (16)), .int ((-1 : Int32))] [] (c_J7_fill_53178 E _ 16 (N) (en) ((-1 : Int32)) (by omega) (up_n (by decide) (l16)) (by omega)) cw_X6_36 w_223 (Nat.le_of_ble_eq_true rfl) rfl (Nat.le_of_ble_eq_true rfl) (tbd tv_X6_forgetEntries rfl) (fun v1 f1 q1 => ?_) (fun _ _ h => h.elim)
  obtain ⟨rfl, rfl⟩ := q1
  refine G.eqs [] rfl ?_
  refine G.vret rfl ⟨rfl, ?_, Fr.up (Fr.up (Fr.rf) (⟨by decide, by decide⟩)) (⟨by decide, by decide⟩)⟩ (tbd tv_X6_forgetEntries rfl)
  show LgV E _ N (bl, sc, flt en 0 N (-1), 0, tu)
  exact ⟨up_n (by decide) (up_e), up_n (by decide) (up_n (by decide) (l14)), up_n (by decide) (up_n (by decide) (l15)), up_e⟩
def tb_X6_note : List (Nat × Instr × Nat) := [(0, .aload_n 0, 1), (1, .getfield 42, 3), (4, .bipush 40, 2), (6, .if_icmp .ge 46, 3), (9, .iload_n 1, 1), (10, .ifCond .lt 42, 3), (13, .iload_n 1, 1), (14, .aload_n 0, 1), (15, .getfield 33, 3), (18, .arraylength, 1), (19, .if_icmp .ge 33, 3), (22, .aload_n 0, 1), (23, .getfield 9, 3), (26, .aload_n 0, 1), (27, .getfield 42, 3), (30, .iload_n 1, 1), (31, .iastore, 1), (32, .aload_n 0, 1), (33, .getfield 33, 3), (36, .iload_n 1, 1), (37, .aload_n 0, 1), (38, .getfield 42, 3), (41, .iastore, 1), (42, .aload_n 0, 1), (43, .dup, 1), (44, .getfield 42, 3), (47, .iconst 1, 1), (48, .iadd, 1), (49, .putfield 42, 3), (52, .return_, 1)]
theorem tv_X6_note : Tv cX6_note tb_X6_note := by
  unfold Tv
  decide +kernel
theorem w_321 : Cond.fieldLink "LedgerFiles$Log" 9 "LedgerFiles$Log" "blockOf" "[I" ∈ TB := tp_1 175 (by decide +kernel) rfl
set_option maxRecDepth 100000 in
set_option maxHeartbeats 4000000 in
theorem c_X6_note (E : gE) (f : Nat → va_E) (N : Nat) (l : LgT) (hE : 350 + N ≤ gN E) (hN : N ≤ 1024) (hl : LgV E f N l) (hlo : lOk N l) (t : Nat) (ht : t < N) (hnt : l.2.2.2.1 < 40) : Ct E 1 yX6_note cX6_note 2 none [.ref (gAd E (13)), .int (nI t)] f (fun v g => v = none ∧ LgV E g N (lNote l t) ∧ Fr LgK f g, fun _ _ => False) := by
  obtain ⟨bl, sc, en, nt, tu⟩ := l
  obtain ⟨l13, l14, l15, l16⟩ := id hl
  obtain ⟨p1, p2, p3, p4⟩ := id hlo
  have hnt : nt < 40 := hnt
  refine Ct.of (by decide) (Nat.le_of_ble_eq_true rfl) (fun sz => ?_)
  refine G.eql [(0, .ref (gAd E (13))), (1, .int (nI t))] rfl ?_
  refine G.go tv_X6_note 1 1 [(0, .ref (gAd E (13))), (1, .int (nI t))] [.ref (gAd E (13))] rfl ?_
  refine G.getf cls_X6 (13) 5 (by omega) (l13) (by decide) rfl (tbd tv_X6_note rfl) w_325 ?_
  refine G.go tv_X6_note 1 6 [(0, .ref (gAd E (13))), (1, .int (nI t))] [.int ((40 : Int32)), .int (nI nt)] rfl ?_
  refine G.cmp_ge 52 (tbd tv_X6_note rfl) (by decide) (fun c6 => absurd c6 ((nI_ge (by omega) (by omega) : ¬ nI 40 ≤ nI nt))) (fun c6 => ?_)
  refine G.go tv_X6_note 1 10 [(0, .ref (gAd E (13))), (1, .int (nI t))] [.int (nI t)] rfl ?_
  refine G.if_lt 52 (tbd tv_X6_note rfl) (by decide) (fun c10 => absurd c10 (nI_pos (by omega))) (fun c10 => ?_)
  refine G.go tv_X6_note 2 15 [(0, .ref (gAd E (13))), (1, .int (nI t))] [.ref (gAd E (13)), .int (nI t)] rfl ?_
  refine G.getf cls_X6 (13) 4 (by omega) (l13) (by decide) rfl (tbd tv_X6_note rfl) w_323 ?_
  refine G.alen (16) 1 (by omega) (l16) rfl rfl (tbd tv_X6_note rfl) ?_
  refine G.cmp_ge 52 (tbd tv_X6_note rfl) (by decide) (fun c19 => absurd c19 (nI_ge (by omega) (by omega))) (fun c19 => ?_)
  refine G.go tv_X6_note 1 23 [(0, .ref (gAd E (13))), (1, .int (nI t))] [.ref (gAd E (13))] rfl ?_
  refine G.getf cls_X6 (13) 2 (by omega) (l13) (by decide) rfl (tbd tv_X6_note rfl) w_321 ?_
  refine G.go tv_X6_note 1 27 [(0, .ref (gAd E (13))), (1, .int (nI t))] [.ref (gAd E (13)), .ref (gAd E (14))] rfl ?_
  refine G.getf cls_X6 (13) 5 (by omega) (l13) (by decide) rfl (tbd tv_X6_note rfl) w_325 ?_
  refine G.go tv_X6_note 1 31 [(0, .ref (gAd E (13))), (1, .int (nI t))] [.int (nI t), .int (nI nt), .ref (gAd E (14))] rfl ?_
  refine G.iastN (14) (nt) (by omega) (l14) (by omega) (by omega) (tbd tv_X6_note rfl) ?_
  refine G.go tv_X6_note 1 33 [(0, .ref (gAd E (13))), (1, .int (nI t))] [.ref (gAd E (13))] rfl ?_
  refine G.getf cls_X6 (13) 4 (by omega) (up_n (by decide) (l13)) (by decide) rfl (tbd tv_X6_note rfl) w_323 ?_
  refine G.go tv_X6_note 2 38 [(0, .ref (gAd E (13))), (1, .int (nI t))] [.ref (gAd E (13)), .int (nI t), .ref (gAd E (16))] rfl ?_
  refine G.getf cls_X6 (13) 5 (by omega) (up_n (by decide) (l13)) (by decide) rfl (tbd tv_X6_note rfl) w_325 ?_
  refine G.iastN (16) (t) (by omega) (up_n (by decide) (l16)) (by omega) (by omega) (tbd tv_X6_note rfl) ?_
  refine G.go tv_X6_note 2 44 [(0, .ref (gAd E (13))), (1, .int (nI t))] [.ref (gAd E (13)), .ref (gAd E (13))] rfl ?_
  refine G.getf cls_X6 (13) 5 (by omega) (up_n (by decide) (up_n (by decide) (l13))) (by decide) rfl (tbd tv_X6_note rfl) w_325 ?_
  refine G.go tv_X6_note 2 49 [(0, .ref (gAd E (13))), (1, .int (nI t))] [.int ((nI nt) + ((1 : Int32))), .ref (gAd E (13))] rfl ?_
  refine G.eqs [.int (nI (nt + 1)), .ref (gAd E (13))] (by rw [nI_1]) ?_
  refine G.putfS cls_X6 (13) 5 [.ref (gAd E (2)), .ref (gAd E (8)), .ref (gAd E (14)), .ref (gAd E (15)), .ref (gAd E (16)), .int (nI (nt + 1)), .int (tu)] (by omega) (up_n (by decide) (up_n (by decide) (l13))) rfl (by decide) rfl rfl rfl (Nat.le_of_ble_eq_true rfl) (tbd tv_X6_note rfl) w_325 ?_
  refine G.vret rfl ⟨rfl, ?_, Fr.up (Fr.up (Fr.up (Fr.rf) (⟨by decide, by decide⟩)) (⟨by decide, by decide⟩)) (⟨by decide, by decide⟩)⟩ (tbd tv_X6_note rfl)
  show LgV E _ N (upd bl nt (nI t), sc, upd en t (nI nt), nt + 1, tu)
  exact ⟨up_e, up_n (by decide) (up_n (by decide) (up_e)), up_n (by decide) (up_n (by decide) (up_n (by decide) (l15))), up_n (by decide) (up_e)⟩
def tb_X6_mix : List (Nat × Instr × Nat) := [(0, .iconst 0, 1), (1, .istore_n 3, 1), (2, .iload_n 3, 1), (3, .iload_n 2, 1), (4, .if_icmp .ge 28, 3), (7, .iload_n 3, 1), (8, .aload_n 1, 1), (9, .arraylength, 1), (10, .if_icmp .ge 22, 3), (13, .iload_n 0, 1), (14, .bipush 31, 2), (16, .imul, 1), (17, .aload_n 1, 1), (18, .iload_n 3, 1), (19, .baload, 1), (20, .sipush 255, 3), (23, .iand, 1), (24, .iadd, 1), (25, .istore_n 0, 1), (26, .iinc 3 1, 3), (29, .goto (-27), 3), (32, .iload_n 0, 1), (33, .ireturn, 1)]
theorem tv_X6_mix : Tv cX6_mix tb_X6_mix := by
  unfold Tv
  decide +kernel
set_option maxRecDepth 100000 in
set_option maxHeartbeats 4000000 in
theorem mx_loop (E : gE) (f : Nat → va_E) (sz : Nat) (A : Nat → Prop) (Q : gQ) (k q n : Nat) (g : Nat → Int32) (x : Int32) (hk : k < gN E) (he : f k = oB (gDA E) q g) (hn : n ≤ q) (hq31 : q < 2 ^ 31) (hq : Q.1 (some (.int (mixV x g n))) f) : ∀ (d j : Nat), j + d = n → G E (1, yX6_mix, 4, (some .int), sz, A) cX6_mix (gO E (1, yX6_mix, 4, (some .int), sz, A) Q) 2 [(0, .int (mixV x g j)), (1, .ref (gAd E (k))), (2, .int (nI n)), (3, .int (nI (j)))] [] f := by
  intro d
  induction d with
  | zero =>
    intro j e
    have e : n = j := e.symm
    have hq : Q.1 (some (.int (mixV x g j))) f := e ▸ hq
    refine G.go tv_X6_mix 2 4 [(0, .int (mixV x g j)), (1, .ref (gAd E (k))), (2, .int (nI n)), (3, .int (nI (j)))] [.int (nI n), .int (nI (j))] rfl ?_
    refine G.cmp_ge 32 (tbd tv_X6_mix rfl) (by decide) (fun c4 => ?_) (fun c4 => absurd (by rw [e]; exact nI_le (Nat.le_refl _) (by omega)) c4)
    refine G.go tv_X6_mix 1 33 [(0, .int (mixV x g j)), (1, .ref (gAd E (k))), (2, .int (nI n)), (3, .int (nI (j)))] [.int (mixV x g j)] rfl ?_
    exact G.iret rfl rfl (hq) (tbd tv_X6_mix rfl)
  | succ d ih =>
    intro j e
    refine G.go tv_X6_mix 2 4 [(0, .int (mixV x g j)), (1, .ref (gAd E (k))), (2, .int (nI n)), (3, .int (nI (j)))] [.int (nI n), .int (nI (j))] rfl ?_
    refine G.cmp_ge 32 (tbd tv_X6_mix rfl) (by decide) (fun c4 => absurd c4 (nI_ge (by omega) (by omega))) (fun c4 => ?_)
    refine G.go tv_X6_mix 2 9 [(0, .int (mixV x g j)), (1, .ref (gAd E (k))), (2, .int (nI n)), (3, .int (nI (j)))] [.ref (gAd E (k)), .int (nI (j))] rfl ?_
    refine G.alen (k) 0 hk (he) rfl rfl (tbd tv_X6_mix rfl) ?_
    refine G.cmp_ge 32 (tbd tv_X6_mix rfl) (by decide) (fun c10 => absurd c10 (nI_ge (by omega) (by omega))) (fun c10 => ?_)
    refine G.go tv_X6_mix 5 19 [(0, .int (mixV x g j)), (1, .ref (gAd E (k))), (2, .int (nI n)), (3, .int (nI (j)))] [.int (nI (j)), .ref (gAd E (k)), .int ((mixV x g j) * ((31 : Int32)))] rfl ?_
    refine G.baldN (k) (j) hk (he) (by omega) (hq31) (tbd tv_X6_mix rfl) ?_
    refine G.go tv_X6_mix 6 2 [(0, .int (((mixV x g j) * ((31 : Int32))) + (((g) (j)) &&& ((255 : Int32))))), (1, .ref (gAd E (k))), (2, .int (nI n)), (3, .int (nI (j) + (1 : Int32)))] [] rfl ?_
    refine G.eql [(0, .int (mixV x g (j + 1))), (1, .ref (gAd E (k))), (2, .int (nI n)), (3, .int (nI (j + 1)))] (by rw [nI_1]; rfl) ?_
    exact ih (j + 1) (by omega)
set_option maxRecDepth 100000 in
set_option maxHeartbeats 4000000 in
theorem c_X6_mix (E : gE) (f : Nat → va_E) (k q n : Nat) (g : Nat → Int32) (x : Int32) (hk : k < gN E) (he : f k = oB (gDA E) q g) (hn : n ≤ q) (hq31 : q < 2 ^ 31) : Ct E 1 yX6_mix cX6_mix 4 (some .int) [.int (x), .ref (gAd E (k)), .int (nI n)] f (fun v f' => f = f' ∧ v = some (.int (mixV x g n)), fun _ _ => False) := by
  refine Ct.of (by decide) (Nat.le_of_ble_eq_true rfl) (fun sz => ?_)
  refine G.eql [(0, .int (x)), (1, .ref (gAd E (k))), (2, .int (nI n))] rfl ?_
  refine G.go tv_X6_mix 2 2 [(0, .int (x)), (1, .ref (gAd E (k))), (2, .int (nI n)), (3, .int ((0 : Int32)))] [] rfl ?_
  refine mx_loop E f _ _ _ k q n g x hk he hn hq31 ?_ n 0 (by omega)
  exact ⟨rfl, rfl⟩
def tb_X6_sum : List (Nat × Instr × Nat) := [(0, .bipush 7, 2), (2, .aload_n 1, 1), (3, .bipush 6, 2), (5, .invokestatic 45, 3), (8, .istore_n 3, 1), (9, .iload_n 3, 1), (10, .aload_n 0, 1), (11, .getfield 19, 3), (14, .iconst 2, 1), (15, .invokevirtual 49, 3), (18, .iconst 2, 1), (19, .iload_n 2, 1), (20, .imul, 1), (21, .invokestatic 45, 3), (24, .istore_n 3, 1), (25, .iconst 0, 1), (26, .istore 4, 2), (28, .iload 4, 2), (30, .iload_n 2, 1), (31, .if_icmp .ge 28, 3), (34, .iload_n 3, 1), (35, .aload_n 0, 1), (36, .getfield 19, 3), (39, .iconst 3, 1), (40, .iload 4, 2), (42, .iadd, 1), (43, .invokevirtual 49, 3), (46, .sipush 128, 3), (49, .invokestatic 45, 3), (52, .istore_n 3, 1), (53, .iinc 4 1, 3), (56, .goto (-28), 3), (59, .iload_n 3, 1), (60, .ireturn, 1)]
theorem tv_X6_sum : Tv cX6_sum tb_X6_sum := by
  unfold Tv
  decide +kernel
theorem w_319 : Cond.fieldLink "LedgerFiles$Log" 19 "LedgerFiles$Log" "disk" "LLedgerFiles$Disk;" ∈ TB := tp_1 173 (by decide +kernel) rfl
theorem w_800 : Cond.methodLink "LedgerFiles$Log" 49 yX2_row ∈ TB := tp_3 174 (by decide +kernel) rfl
theorem w_803 : Cond.code yX2_row prog_4_method_7_code 2 (some (.array .byte)) ∈ TB := tp_3 177 rfl rfl
theorem cw_X6_49 : Cw RX6 49 yX2_row cX2_row 2 (some (.array .byte)) 1 := ⟨w_800, w_803, w_149, by decide +kernel, by decide +kernel, by decide⟩
theorem w_801 : Cond.instanceMethod yX2_row ∈ TB := tp_3 175 (by decide +kernel) rfl
theorem w_802 : Cond.selects "LedgerFiles$Disk" yX2_row yX2_row ∈ TB := tp_3 176 (by decide +kernel) rfl
theorem w_797 : Cond.methodLink "LedgerFiles$Log" 45 yX6_mix ∈ TB := tp_3 171 (by decide +kernel) rfl
theorem w_799 : Cond.code yX6_mix prog_8_method_4_code 4 (some .int) ∈ TB := tp_3 173 rfl rfl
theorem w_153 : Cond.initialized "LedgerFiles$Log" ∈ TB := tp_1 7 (by decide +kernel) rfl
theorem cw_X6_45 : Cw RX6 45 yX6_mix cX6_mix 4 (some .int) 3 := ⟨w_797, w_799, w_153, by decide +kernel, by decide +kernel, by decide⟩
theorem w_798 : Cond.static yX6_mix ∈ TB := tp_3 172 (by decide +kernel) rfl
set_option maxRecDepth 100000 in
set_option maxHeartbeats 4000000 in
theorem sm_loop (E : gE) (f : Nat → va_E) (sz : Nat) (A : Nat → Prop) (Q : gQ) (N : Nat) (l : LgT) (hE : 350 + N ≤ gN E) (hN : N ≤ 1024) (hl : LgV E f N l) (hlo : lOk N l) (d : DkT) (on le wr ss : Int32) (hdv : DkV E f N d on le wr ss) (hdo : dOk N d) (n kh : Nat) (hg : Nat → Int32) (hn : n ≤ 40) (hN2 : 61 ≤ N) (hkh : kh < gN E) (heh : f kh = oB (gDA E) 128 hg) (hq : Q.1 (some (.int (lgSum d hg n))) f) : ∀ (e0 j : Nat), j + e0 = n → G E (2, yX6_sum, 5, (some .int), sz, A) cX6_sum (gO E (2, yX6_sum, 5, (some .int), sz, A) Q) 28 [(0, .ref (gAd E (13))), (1, .ref (gAd E (kh))), (2, .int (nI n)), (3, .int (sumV d (mixV (mixV 7 hg 6) (dRead d 2) (2 * n)) j)), (4, .int (nI (j)))] [] f := by
  have hdv2 : f 2 = .inr (2, [.int (nI N), .ref (gAd E 3), .ref (gAd E 4), .ref (gAd E 5), .ref (gAd E 6), .ref (gAd E 7), .int (nI d.2.2.2.2.2.1), .int (nI d.2.2.2.2.2.2), .int on, .int le, .int wr, .int ss]) := by obtain ⟨dw, dla, dbo, dsy, dva, da, dn⟩ := d; exact hdv.1
  obtain ⟨bl, sc, en, nt, tu⟩ := l
  obtain ⟨l13, l14, l15, l16⟩ := id hl
  obtain ⟨p1, p2, p3, p4⟩ := id hlo
  intro e0
  induction e0 with
  | zero =>
    intro j e
    have e : n = j := e.symm
    have hq : Q.1 (some (.int (sumV d (mixV (mixV 7 hg 6) (dRead d 2) (2 * n)) j))) f := by rw [show sumV d (mixV (mixV 7 hg 6) (dRead d 2) (2 * n)) j = lgSum d hg n by rw [e]; rfl]; exact hq
    refine G.go tv_X6_sum 2 31 [(0, .ref (gAd E (13))), (1, .ref (gAd E (kh))), (2, .int (nI n)), (3, .int (sumV d (mixV (mixV 7 hg 6) (dRead d 2) (2 * n)) j)), (4, .int (nI (j)))] [.int (nI n), .int (nI (j))] rfl ?_
    refine G.cmp_ge 59 (tbd tv_X6_sum rfl) (by decide) (fun c31 => ?_) (fun c31 => absurd (by rw [e]; exact nI_le (Nat.le_refl _) (by omega)) c31)
    refine G.go tv_X6_sum 1 60 [(0, .ref (gAd E (13))), (1, .ref (gAd E (kh))), (2, .int (nI n)), (3, .int (sumV d (mixV (mixV 7 hg 6) (dRead d 2) (2 * n)) j)), (4, .int (nI (j)))] [.int (sumV d (mixV (mixV 7 hg 6) (dRead d 2) (2 * n)) j)] rfl ?_
    exact G.iret rfl rfl (hq) (tbd tv_X6_sum rfl)
  | succ e0 ih =>
    intro j e
    refine G.go tv_X6_sum 2 31 [(0, .ref (gAd E (13))), (1, .ref (gAd E (kh))), (2, .int (nI n)), (3, .int (sumV d (mixV (mixV 7 hg 6) (dRead d 2) (2 * n)) j)), (4, .int (nI (j)))] [.int (nI n), .int (nI (j))] rfl ?_
    refine G.cmp_ge 59 (tbd tv_X6_sum rfl) (by decide) (fun c31 => absurd c31 (nI_ge (by omega) (by omega))) (fun c31 => ?_)
    refine G.go tv_X6_sum 2 36 [(0, .ref (gAd E (13))), (1, .ref (gAd E (kh))), (2, .int (nI n)), (3, .int (sumV d (mixV (mixV 7 hg 6) (dRead d 2) (2 * n)) j)), (4, .int (nI (j)))] [.ref (gAd E (13)), .int (sumV d (mixV (mixV 7 hg 6) (dRead d 2) (2 * n)) j)] rfl ?_
    refine G.getf cls_X6 (13) 0 (by omega) (l13) (by decide) rfl (tbd tv_X6_sum rfl) w_319 ?_
    refine G.go tv_X6_sum 3 43 [(0, .ref (gAd E (13))), (1, .ref (gAd E (kh))), (2, .int (nI n)), (3, .int (sumV d (mixV (mixV 7 hg 6) (dRead d 2) (2 * n)) j)), (4, .int (nI (j)))] [.int (((3 : Int32)) + (nI (j))), .ref (gAd E (2)), .int (sumV d (mixV (mixV 7 hg 6) (dRead d 2) (2 * n)) j)] rfl ?_
    refine G.eqs [.int (nI (3 + j)), .ref (gAd E (2)), .int (sumV d (mixV (mixV 7 hg 6) (dRead d 2) (2 * n)) j)] (by rw [show (3 : Int32) = nI 3 from rfl, nI_add]) ?_
    refine G.callV (2) [.int (nI (3 + j))] [.int (sumV d (mixV (mixV 7 hg 6) (dRead d 2) (2 * n)) j)] (c_row E f N d on le wr ss (by omega) hN hdv hdo (3 + j) (by omega)) cls_X2 (by omega) (hdv2) cw_X6_49 w_801 w_802 (Nat.le_of_ble_eq_true rfl) rfl (Nat.le_of_ble_eq_true rfl) (tbd tv_X6_sum rfl) (fun v1 f1 q1 => ?_) (fun _ _ h => h.elim)
    obtain ⟨k1, rfl, rfl, lt1, -, rd1⟩ := q1
    refine G.eqs [.ref (gAd E (k1)), .int (sumV d (mixV (mixV 7 hg 6) (dRead d 2) (2 * n)) j)] rfl ?_
    refine G.go tv_X6_sum 1 49 [(0, .ref (gAd E (13))), (1, .ref (gAd E (kh))), (2, .int (nI n)), (3, .int (sumV d (mixV (mixV 7 hg 6) (dRead d 2) (2 * n)) j)), (4, .int (nI (j)))] [.int ((128 : Int32)), .ref (gAd E (k1)), .int (sumV d (mixV (mixV 7 hg 6) (dRead d 2) (2 * n)) j)] rfl ?_
    refine G.eqs [.int (nI (128)), .ref (gAd E (k1)), .int (sumV d (mixV (mixV 7 hg 6) (dRead d 2) (2 * n)) j)] (rfl) ?_
    refine G.callS [.int (sumV d (mixV (mixV 7 hg 6) (dRead d 2) (2 * n)) j), .ref (gAd E (k1)), .int (nI (128))] [] (c_X6_mix E f k1 128 (128) (dRead d (3 + j)) (sumV d (mixV (mixV 7 hg 6) (dRead d 2) (2 * n)) j) lt1 (rd1) (by omega) (by omega)) cw_X6_45 w_798 (Nat.le_of_ble_eq_true rfl) rfl (Nat.le_of_ble_eq_true rfl) (tbd tv_X6_sum rfl) (fun v2 f2 q2 => ?_) (fun _ _ h => h.elim)
    obtain ⟨rfl, rfl⟩ := q2
    refine G.eqs [.int (mixV (sumV d (mixV (mixV 7 hg 6) (dRead d 2) (2 * n)) j) (dRead d (3 + j)) (128))] rfl ?_
    refine G.go tv_X6_sum 3 28 [(0, .ref (gAd E (13))), (1, .ref (gAd E (kh))), (2, .int (nI n)), (3, .int (mixV (sumV d (mixV (mixV 7 hg 6) (dRead d 2) (2 * n)) j) (dRead d (3 + j)) (128))), (4, .int (nI (j) + (1 : Int32)))] [] rfl ?_
    refine G.eql [(0, .ref (gAd E (13))), (1, .ref (gAd E (kh))), (2, .int (nI n)), (3, .int (sumV d (mixV (mixV 7 hg 6) (dRead d 2) (2 * n)) (j + 1))), (4, .int (nI (j + 1)))] (by rw [nI_1]; rfl) ?_
    exact ih (j + 1) (by omega)
set_option maxRecDepth 100000 in
set_option maxHeartbeats 4000000 in
theorem c_X6_sum (E : gE) (f : Nat → va_E) (N : Nat) (l : LgT) (hE : 350 + N ≤ gN E) (hN : N ≤ 1024) (hl : LgV E f N l) (hlo : lOk N l) (d : DkT) (on le wr ss : Int32) (hdv : DkV E f N d on le wr ss) (hdo : dOk N d) (n kh : Nat) (hg : Nat → Int32) (hn : n ≤ 40) (hN2 : 61 ≤ N) (hkh : kh < gN E) (heh : f kh = oB (gDA E) 128 hg) : Ct E 2 yX6_sum cX6_sum 5 (some .int) [.ref (gAd E (13)), .ref (gAd E (kh)), .int (nI n)] f (fun v g => f = g ∧ v = some (.int (lgSum d hg n)), fun _ _ => False) := by
  have hdv2 : f 2 = .inr (2, [.int (nI N), .ref (gAd E 3), .ref (gAd E 4), .ref (gAd E 5), .ref (gAd E 6), .ref (gAd E 7), .int (nI d.2.2.2.2.2.1), .int (nI d.2.2.2.2.2.2), .int on, .int le, .int wr, .int ss]) := by obtain ⟨dw, dla, dbo, dsy, dva, da, dn⟩ := d; exact hdv.1
  obtain ⟨bl, sc, en, nt, tu⟩ := l
  obtain ⟨l13, l14, l15, l16⟩ := id hl
  obtain ⟨p1, p2, p3, p4⟩ := id hlo
  refine Ct.of (by decide) (Nat.le_of_ble_eq_true rfl) (fun sz => ?_)
  refine G.eql [(0, .ref (gAd E (13))), (1, .ref (gAd E (kh))), (2, .int (nI n))] rfl ?_
  refine G.go tv_X6_sum 3 5 [(0, .ref (gAd E (13))), (1, .ref (gAd E (kh))), (2, .int (nI n))] [.int ((6 : Int32)), .ref (gAd E (kh)), .int ((7 : Int32))] rfl ?_
  refine G.eqs [.int (nI (6)), .ref (gAd E (kh)), .int ((7 : Int32))] (rfl) ?_
  refine G.callS [.int ((7 : Int32)), .ref (gAd E (kh)), .int (nI (6))] [] (c_X6_mix E f kh 128 (6) (hg) ((7 : Int32)) hkh (heh) (by omega) (by omega)) cw_X6_45 w_798 (Nat.le_of_ble_eq_true rfl) rfl (Nat.le_of_ble_eq_true rfl) (tbd tv_X6_sum rfl) (fun v1 f1 q1 => ?_) (fun _ _ h => h.elim)
  obtain ⟨rfl, rfl⟩ := q1
  refine G.eqs [.int (mixV ((7 : Int32)) (hg) (6))] rfl ?_
  refine G.go tv_X6_sum 3 11 [(0, .ref (gAd E (13))), (1, .ref (gAd E (kh))), (2, .int (nI n)), (3, .int (mixV ((7 : Int32)) (hg) (6)))] [.ref (gAd E (13)), .int (mixV ((7 : Int32)) (hg) (6))] rfl ?_
  refine G.getf cls_X6 (13) 0 (by omega) (l13) (by decide) rfl (tbd tv_X6_sum rfl) w_319 ?_
  refine G.go tv_X6_sum 1 15 [(0, .ref (gAd E (13))), (1, .ref (gAd E (kh))), (2, .int (nI n)), (3, .int (mixV ((7 : Int32)) (hg) (6)))] [.int ((2 : Int32)), .ref (gAd E (2)), .int (mixV ((7 : Int32)) (hg) (6))] rfl ?_
  refine G.eqs [.int (nI (2)), .ref (gAd E (2)), .int (mixV ((7 : Int32)) (hg) (6))] (rfl) ?_
  refine G.callV (2) [.int (nI (2))] [.int (mixV ((7 : Int32)) (hg) (6))] (c_row E f N d on le wr ss (by omega) hN hdv hdo (2) (by omega)) cls_X2 (by omega) (hdv2) cw_X6_49 w_801 w_802 (Nat.le_of_ble_eq_true rfl) rfl (Nat.le_of_ble_eq_true rfl) (tbd tv_X6_sum rfl) (fun v2 f2 q2 => ?_) (fun _ _ h => h.elim)
  obtain ⟨k2, rfl, rfl, lt2, -, rd2⟩ := q2
  refine G.eqs [.ref (gAd E (k2)), .int (mixV ((7 : Int32)) (hg) (6))] rfl ?_
  refine G.go tv_X6_sum 3 21 [(0, .ref (gAd E (13))), (1, .ref (gAd E (kh))), (2, .int (nI n)), (3, .int (mixV ((7 : Int32)) (hg) (6)))] [.int (((2 : Int32)) * (nI n)), .ref (gAd E (k2)), .int (mixV ((7 : Int32)) (hg) (6))] rfl ?_
  refine G.eqs [.int (nI (2 * n)), .ref (gAd E (k2)), .int (mixV ((7 : Int32)) (hg) (6))] (by rw [show (2 : Int32) = nI 2 from rfl, pk_mul]) ?_
  refine G.callS [.int (mixV ((7 : Int32)) (hg) (6)), .ref (gAd E (k2)), .int (nI (2 * n))] [] (c_X6_mix E f k2 128 (2 * n) (dRead d (2)) (mixV ((7 : Int32)) (hg) (6)) lt2 (rd2) (by omega) (by omega)) cw_X6_45 w_798 (Nat.le_of_ble_eq_true rfl) rfl (Nat.le_of_ble_eq_true rfl) (tbd tv_X6_sum rfl) (fun v3 f3 q3 => ?_) (fun _ _ h => h.elim)
  obtain ⟨rfl, rfl⟩ := q3
  refine G.eqs [.int (mixV (mixV ((7 : Int32)) (hg) (6)) (dRead d (2)) (2 * n))] rfl ?_
  refine G.go tv_X6_sum 3 28 [(0, .ref (gAd E (13))), (1, .ref (gAd E (kh))), (2, .int (nI n)), (3, .int (mixV (mixV ((7 : Int32)) (hg) (6)) (dRead d (2)) (2 * n))), (4, .int ((0 : Int32)))] [] rfl ?_
  refine sm_loop E f _ _ _ N (bl, sc, en, nt, tu) hE hN hl hlo d on le wr ss hdv hdo n kh hg hn hN2 hkh heh ?_ n 0 (by omega)
  exact ⟨rfl, rfl⟩
