/-- what a place costs the disk -/
def plD (B : Nat) (b : BfT) (d : DkT) (t : Nat) : DkT := if b.1 t = -1 ∧ 0 < b.2.2.1 (bSlot B b) then dWrite d (b.2.1 (bSlot B b)).toNatClampNeg (b.2.2.2.1 (bSlot B b)) else d
def plL (B : Nat) (b : BfT) (t : Nat) (le : Int32) : Int32 := if b.1 t = -1 ∧ 0 < b.2.2.1 (bSlot B b) then (if 0 < le then le - 1 else le) else le
def plW (B : Nat) (b : BfT) (t : Nat) (wr : Int32) : Int32 := if b.1 t = -1 ∧ 0 < b.2.2.1 (bSlot B b) then wr + 1 else wr
def DBK (N B k : Nat) : Prop := DkK N k ∨ BfK N B k
def tb_X0_place : List (Nat × Instr × Nat) := [(0, .aload_n 0, 1), (1, .getfield 33, 3), (4, .iload_n 1, 1), (5, .iaload, 1), (6, .istore_n 3, 1), (7, .iload_n 3, 1), (8, .iconst (-1), 1), (9, .if_icmp .ne 75, 3), (12, .aload_n 0, 1), (13, .invokevirtual 42, 3), (16, .istore_n 3, 1), (17, .aload_n 0, 1), (18, .getfield 24, 3), (21, .iload_n 3, 1), (22, .iaload, 1), (23, .ifCond .le 37, 3), (26, .aload_n 0, 1), (27, .getfield 9, 3), (30, .aload_n 0, 1), (31, .getfield 20, 3), (34, .iload_n 3, 1), (35, .iaload, 1), (36, .aload_n 0, 1), (37, .getfield 17, 3), (40, .iload_n 3, 1), (41, .aaload, 1), (42, .invokevirtual 46, 3), (45, .aload_n 0, 1), (46, .iload_n 3, 1), (47, .invokevirtual 50, 3), (50, .aload_n 0, 1), (51, .dup, 1), (52, .getfield 54, 3), (55, .iconst 1, 1), (56, .iadd, 1), (57, .putfield 54, 3), (60, .aload_n 0, 1), (61, .getfield 33, 3), (64, .iload_n 1, 1), (65, .iload_n 3, 1), (66, .iastore, 1), (67, .aload_n 0, 1), (68, .getfield 20, 3), (71, .iload_n 3, 1), (72, .iload_n 1, 1), (73, .iastore, 1), (74, .aload_n 0, 1), (75, .dup, 1), (76, .getfield 57, 3), (79, .iconst 1, 1), (80, .iadd, 1), (81, .putfield 57, 3), (84, .aload_n 2, 1), (85, .iconst 0, 1), (86, .aload_n 0, 1), (87, .getfield 17, 3), (90, .iload_n 3, 1), (91, .aaload, 1), (92, .iconst 0, 1), (93, .sipush 128, 3), (96, .invokestatic 60, 3), (99, .aload_n 0, 1), (100, .dup, 1), (101, .getfield 66, 3), (104, .iconst 1, 1), (105, .iadd, 1), (106, .putfield 66, 3), (109, .aload_n 0, 1), (110, .getfield 24, 3), (113, .iload_n 3, 1), (114, .aload_n 0, 1), (115, .getfield 66, 3), (118, .iastore, 1), (119, .return_, 1)]
theorem tv_X0_place : Tv cX0_place tb_X0_place := by
  unfold Tv
  decide +kernel
theorem w_760 : Cond.methodLink "LedgerFiles$Buffer" 60 ⟨"java/lang/System", "arraycopy", "(Ljava/lang/Object;ILjava/lang/Object;II)V"⟩ ∈ TB := tp_3 134 (by decide +kernel) rfl
theorem w_290 : Cond.fieldLink "LedgerFiles$Buffer" 66 "LedgerFiles$Buffer" "stamp" "I" ∈ TB := tp_1 144 (by decide +kernel) rfl
set_option maxRecDepth 100000 in
set_option maxHeartbeats 4000000 in
theorem pl_tail (E : gE) (f : Nat → va_E) (sz : Nat) (A : Nat → Prop) (Q : gQ) (N B : Nat) (b : BfT) (hE : 350 + 2 * N + B ≤ gN E) (hN : N ≤ 1024) (hB : B ≤ 64) (hb : BfV E f N B b) (t s kv : Nat) (x : Nat → Int32) (ht : t < N) (hs : s < B) (hkv : kv < gN E) (hx : f kv = oB (gDA E) 128 x) (hxb : Byt x) (hkb : ¬ BfK N B kv) (hq : ∀ g, BfV E g N B (bTail b s x) → Fr (BfK N B) f g → Q.1 none g) : G E (8, yX0_place, 4, none, sz, A) cX0_place (gO E (8, yX0_place, 4, none, sz, A) Q) 84 [(0, .ref (gAd E (8))), (1, .int (nI t)), (2, .ref (gAd E (kv))), (3, .int (nI s))] [] f := by
  obtain ⟨so, bo, st, ro, sp, hd, pu⟩ := b
  obtain ⟨b8, b9, b10, b11, b12, br⟩ := id hb
  refine G.go tv_X0_place 3 87 [(0, .ref (gAd E (8))), (1, .int (nI t)), (2, .ref (gAd E (kv))), (3, .int (nI s))] [.ref (gAd E (8)), .int ((0 : Int32)), .ref (gAd E (kv))] rfl ?_
  refine G.getf cls_X0 (8) 1 (by omega) (b8) (by decide) rfl (tbd tv_X0_place rfl) w_284 ?_
  refine G.go tv_X0_place 1 91 [(0, .ref (gAd E (8))), (1, .int (nI t)), (2, .ref (gAd E (kv))), (3, .int (nI s))] [.int (nI s), .ref (gAd E (9)), .int ((0 : Int32)), .ref (gAd E (kv))] rfl ?_
  refine G.aaldN (9) (s) (by omega) (b9) (hs) (by omega) (tbd tv_X0_place rfl) ?_
  refine G.eqs [.ref (gAd E (350 + 2 * N + s)), .int ((0 : Int32)), .ref (gAd E (kv))] (by rw [rwA_at hs]; rfl) ?_
  refine G.go tv_X0_place 2 96 [(0, .ref (gAd E (8))), (1, .int (nI t)), (2, .ref (gAd E (kv))), (3, .int (nI s))] [.int ((128 : Int32)), .int ((0 : Int32)), .ref (gAd E (350 + 2 * N + s)), .int ((0 : Int32)), .ref (gAd E (kv))] rfl ?_
  refine G.copyB (kv) (350 + 2 * N + s) hkv (hx) (by omega) (br s hs) w_760 w_755 w_754 w_167 (by decide) (by decide) (by decide) (by decide) (by decide) (fun i _ => hxb _) (Nat.le_of_ble_eq_true rfl) (Nat.le_of_ble_eq_true rfl) (tbd tv_X0_place rfl) ?_
  refine G.go tv_X0_place 2 101 [(0, .ref (gAd E (8))), (1, .int (nI t)), (2, .ref (gAd E (kv))), (3, .int (nI s))] [.ref (gAd E (8)), .ref (gAd E (8))] rfl ?_
  refine G.getf cls_X0 (8) 5 (by omega) (up_n (by omega) (b8)) (by decide) rfl (tbd tv_X0_place rfl) w_290 ?_
  refine G.go tv_X0_place 2 106 [(0, .ref (gAd E (8))), (1, .int (nI t)), (2, .ref (gAd E (kv))), (3, .int (nI s))] [.int ((nI sp) + ((1 : Int32))), .ref (gAd E (8))] rfl ?_
  refine G.eqs [.int (nI (sp + 1)), .ref (gAd E (8))] (by rw [nI_1]) ?_
  refine G.putfS cls_X0 (8) 5 [.ref (gAd E (2)), .ref (gAd E (9)), .ref (gAd E (10)), .ref (gAd E (11)), .ref (gAd E (12)), .int (nI (sp + 1)), .int (nI hd), .int (pu)] (by omega) (up_n (by omega) (b8)) rfl (by decide) rfl rfl rfl (Nat.le_of_ble_eq_true rfl) (tbd tv_X0_place rfl) w_290 ?_
  refine G.go tv_X0_place 1 110 [(0, .ref (gAd E (8))), (1, .int (nI t)), (2, .ref (gAd E (kv))), (3, .int (nI s))] [.ref (gAd E (8))] rfl ?_
  refine G.getf cls_X0 (8) 4 (by omega) (up_e) (by decide) rfl (tbd tv_X0_place rfl) w_289 ?_
  refine G.go tv_X0_place 2 115 [(0, .ref (gAd E (8))), (1, .int (nI t)), (2, .ref (gAd E (kv))), (3, .int (nI s))] [.ref (gAd E (8)), .int (nI s), .ref (gAd E (12))] rfl ?_
  refine G.getf cls_X0 (8) 5 (by omega) (up_e) (by decide) rfl (tbd tv_X0_place rfl) w_290 ?_
  refine G.iastN (12) (s) (by omega) (up_n (by decide) (up_n (by omega) (b12))) (hs) (by omega) (tbd tv_X0_place rfl) ?_
  refine G.vret rfl (hq _ ?_ (Fr.up (Fr.up (Fr.up (Fr.rf) (Or.inr ⟨by omega, by omega⟩)) (Or.inl ⟨by decide, by decide⟩)) (Or.inl ⟨by decide, by decide⟩))) (tbd tv_X0_place rfl)
  show BfV E _ N B (so, bo, upd st s (nI (sp + 1)), va_up ro s (va_cpy x (ro s) 0 0 128), sp + 1, hd, pu)
  exact ⟨up_n (by decide) (up_e), up_n (by decide) (up_n (by decide) (up_n (by omega) (b9))), up_n (by decide) (up_n (by decide) (up_n (by omega) (b10))), up_n (by decide) (up_n (by decide) (up_n (by omega) (b11))), up_e, Rws.keep (Rws.keep (Rws.put _ (br)) (by omega)) (by omega)⟩
set_option maxRecDepth 100000 in
set_option maxHeartbeats 4000000 in
theorem pl_mid (E : gE) (f : Nat → va_E) (sz : Nat) (A : Nat → Prop) (Q : gQ) (N B : Nat) (b : BfT) (hE : 350 + 2 * N + B ≤ gN E) (hN : N ≤ 1024) (hB : B ≤ 64) (hb : BfV E f N B b) (t s kv : Nat) (x : Nat → Int32) (ht : t < N) (hs : s < B) (hkv : kv < gN E) (hx : f kv = oB (gDA E) 128 x) (hxb : Byt x) (hkb : ¬ BfK N B kv) (hq : ∀ g, BfV E g N B (bTail (bSeat b t s) s x) → Fr (BfK N B) f g → Q.1 none g) : G E (8, yX0_place, 4, none, sz, A) cX0_place (gO E (8, yX0_place, 4, none, sz, A) Q) 60 [(0, .ref (gAd E (8))), (1, .int (nI t)), (2, .ref (gAd E (kv))), (3, .int (nI s))] [] f := by
  obtain ⟨so, bo, st, ro, sp, hd, pu⟩ := b
  obtain ⟨b8, b9, b10, b11, b12, br⟩ := id hb
  refine G.go tv_X0_place 1 61 [(0, .ref (gAd E (8))), (1, .int (nI t)), (2, .ref (gAd E (kv))), (3, .int (nI s))] [.ref (gAd E (8))] rfl ?_
  refine G.getf cls_X0 (8) 2 (by omega) (b8) (by decide) rfl (tbd tv_X0_place rfl) w_286 ?_
  refine G.go tv_X0_place 2 66 [(0, .ref (gAd E (8))), (1, .int (nI t)), (2, .ref (gAd E (kv))), (3, .int (nI s))] [.int (nI s), .int (nI t), .ref (gAd E (10))] rfl ?_
  refine G.iastN (10) (t) (by omega) (b10) (ht) (by omega) (tbd tv_X0_place rfl) ?_
  refine G.go tv_X0_place 1 68 [(0, .ref (gAd E (8))), (1, .int (nI t)), (2, .ref (gAd E (kv))), (3, .int (nI s))] [.ref (gAd E (8))] rfl ?_
  refine G.getf cls_X0 (8) 3 (by omega) (up_n (by decide) (b8)) (by decide) rfl (tbd tv_X0_place rfl) w_288 ?_
  refine G.go tv_X0_place 2 73 [(0, .ref (gAd E (8))), (1, .int (nI t)), (2, .ref (gAd E (kv))), (3, .int (nI s))] [.int (nI t), .int (nI s), .ref (gAd E (11))] rfl ?_
  refine G.iastN (11) (s) (by omega) (up_n (by decide) (b11)) (hs) (by omega) (tbd tv_X0_place rfl) ?_
  refine G.go tv_X0_place 2 76 [(0, .ref (gAd E (8))), (1, .int (nI t)), (2, .ref (gAd E (kv))), (3, .int (nI s))] [.ref (gAd E (8)), .ref (gAd E (8))] rfl ?_
  refine G.getf cls_X0 (8) 6 (by omega) (up_n (by decide) (up_n (by decide) (b8))) (by decide) rfl (tbd tv_X0_place rfl) w_291 ?_
  refine G.go tv_X0_place 2 81 [(0, .ref (gAd E (8))), (1, .int (nI t)), (2, .ref (gAd E (kv))), (3, .int (nI s))] [.int ((nI hd) + ((1 : Int32))), .ref (gAd E (8))] rfl ?_
  refine G.eqs [.int (nI (hd + 1)), .ref (gAd E (8))] (by rw [nI_1]) ?_
  refine G.putfS cls_X0 (8) 6 [.ref (gAd E (2)), .ref (gAd E (9)), .ref (gAd E (10)), .ref (gAd E (11)), .ref (gAd E (12)), .int (nI sp), .int (nI (hd + 1)), .int (pu)] (by omega) (up_n (by decide) (up_n (by decide) (b8))) rfl (by decide) rfl rfl rfl (Nat.le_of_ble_eq_true rfl) (tbd tv_X0_place rfl) w_291 ?_
  refine pl_tail E _ _ _ _ N B (upd so t (nI s), upd bo s (nI t), st, ro, sp, hd + 1, pu) hE hN hB (⟨up_e, up_n (by decide) (up_n (by decide) (up_n (by decide) (b9))), up_n (by decide) (up_n (by decide) (up_e)), up_n (by decide) (up_e), up_n (by decide) (up_n (by decide) (up_n (by decide) (b12))), Rws.keep (Rws.keep (Rws.keep (br) (by omega)) (by omega)) (by omega)⟩) t s kv x ht hs hkv (up_n (fun q => hkb (by rw [q]; exact Or.inl ⟨by decide, by decide⟩)) (up_n (fun q => hkb (by rw [q]; exact Or.inl ⟨by decide, by decide⟩)) (up_n (fun q => hkb (by rw [q]; exact Or.inl ⟨by decide, by decide⟩)) (hx)))) hxb hkb (fun g h1 h2 => hq g h1 (Fr.tr (Fr.up (Fr.up (Fr.up (Fr.rf) (Or.inl ⟨by decide, by decide⟩)) (Or.inl ⟨by decide, by decide⟩)) (Or.inl ⟨by decide, by decide⟩)) h2 (fun _ h => h)))
theorem w_721 : Cond.methodLink "LedgerFiles$Buffer" 42 yX0_leastStamped ∈ TB := tp_3 95 (by decide +kernel) rfl
theorem w_724 : Cond.code yX0_leastStamped prog_2_method_3_code 3 (some .int) ∈ TB := tp_3 98 rfl rfl
theorem w_152 : Cond.initialized "LedgerFiles$Buffer" ∈ TB := tp_1 6 (by decide +kernel) rfl
theorem cw_X0_42 : Cw RX0 42 yX0_leastStamped cX0_leastStamped 3 (some .int) 0 := ⟨w_721, w_724, w_152, by decide +kernel, by decide +kernel, by decide⟩
theorem w_723 : Cond.instanceMethod yX0_leastStamped ∈ TB := tp_3 97 (by decide +kernel) rfl
theorem w_3 : Cond.selects "LedgerFiles$Buffer" yX0_leastStamped yX0_leastStamped ∈ TB := tp_0 3 (by decide +kernel) rfl
theorem w_283 : Cond.fieldLink "LedgerFiles$Buffer" 9 "LedgerFiles$Buffer" "disk" "LLedgerFiles$Disk;" ∈ TB := tp_1 137 (by decide +kernel) rfl
theorem w_725 : Cond.methodLink "LedgerFiles$Buffer" 46 yX2_writeBlock ∈ TB := tp_3 99 (by decide +kernel) rfl
theorem w_728 : Cond.code yX2_writeBlock prog_4_method_10_code 4 none ∈ TB := tp_3 102 rfl rfl
theorem cw_X0_46 : Cw RX0 46 yX2_writeBlock cX2_writeBlock 4 none 2 := ⟨w_725, w_728, w_149, by decide +kernel, by decide +kernel, by decide⟩
theorem w_726 : Cond.instanceMethod yX2_writeBlock ∈ TB := tp_3 100 (by decide +kernel) rfl
theorem w_727 : Cond.selects "LedgerFiles$Disk" yX2_writeBlock yX2_writeBlock ∈ TB := tp_3 101 (by decide +kernel) rfl
theorem w_756 : Cond.methodLink "LedgerFiles$Buffer" 50 yX0_drop ∈ TB := tp_3 130 (by decide +kernel) rfl
theorem w_759 : Cond.code yX0_drop prog_2_method_4_code 2 none ∈ TB := tp_3 133 rfl rfl
theorem cw_X0_50 : Cw RX0 50 yX0_drop cX0_drop 2 none 1 := ⟨w_756, w_759, w_152, by decide +kernel, by decide +kernel, by decide⟩
theorem w_758 : Cond.instanceMethod yX0_drop ∈ TB := tp_3 132 (by decide +kernel) rfl
theorem w_6 : Cond.selects "LedgerFiles$Buffer" yX0_drop yX0_drop ∈ TB := tp_0 6 (by decide +kernel) rfl
theorem w_293 : Cond.fieldLink "LedgerFiles$Buffer" 54 "LedgerFiles$Buffer" "pushedOut" "I" ∈ TB := tp_1 147 (by decide +kernel) rfl
set_option maxRecDepth 100000 in
set_option maxHeartbeats 4000000 in
/-- a value comes into the buffer -/
theorem c_X0_place (E : gE) (f : Nat → va_E) (N B : Nat) (b : BfT) (hE : 350 + 2 * N + B ≤ gN E) (hN : N ≤ 1024) (hb : BfV E f N B b) (ho : bOk N B b) (d : DkT) (on le wr ss : Int32) (hdv : DkV E f N d on le wr ss) (hdo : dOk N d) (t kv : Nat) (x : Nat → Int32) (ht : t < N) (hkv : kv < gN E) (hx : f kv = oB (gDA E) 128 x) (hxb : Byt x) (hkb : ¬ BfK N B kv) (hkd : ¬ DkK N kv) : Ct E 8 yX0_place cX0_place 4 none [.ref (gAd E (8)), .int (nI t), .ref (gAd E (kv))] f (fun v g => v = none ∧ ((b.1 t = -1 ∧ 0 < b.2.2.1 (bSlot B b)) → ¬ le = 0) ∧ DkV E g N (plD B b d t) on (plL B b t le) (plW B b t wr) ss ∧ BfV E g N B (bPlace B b t x) ∧ Fr (DBK N B) f g, fun X g => X = "java/lang/UnsupportedOperationException" ∧ le = 0 ∧ (b.1 t = -1 ∧ 0 < b.2.2.1 (bSlot B b)) ∧ DkV E g N d 0 (-1) wr ss ∧ BfV E g N B b ∧ Fr (DBK N B) f g) := by
  obtain ⟨so, bo, st, ro, sp, hd, pu⟩ := b
  obtain ⟨b8, b9, b10, b11, b12, br⟩ := id hb
  obtain ⟨o1, o2, o3, o4, o5, o6, o7, o8⟩ := id ho
  have hdv2 : f 2 = .inr (2, [.int (nI N), .ref (gAd E 3), .ref (gAd E 4), .ref (gAd E 5), .ref (gAd E 6), .ref (gAd E 7), .int (nI d.2.2.2.2.2.1), .int (nI d.2.2.2.2.2.2), .int on, .int le, .int wr, .int ss]) := by obtain ⟨dw, dla, dbo, dsy, dva, da, dn⟩ := d; exact hdv.1
  refine Ct.of (by decide) (Nat.le_of_ble_eq_true rfl) (fun sz => ?_)
  refine G.eql [(0, .ref (gAd E (8))), (1, .int (nI t)), (2, .ref (gAd E (kv)))] rfl ?_
  refine G.go tv_X0_place 1 1 [(0, .ref (gAd E (8))), (1, .int (nI t)), (2, .ref (gAd E (kv)))] [.ref (gAd E (8))] rfl ?_
  refine G.getf cls_X0 (8) 2 (by omega) (b8) (by decide) rfl (tbd tv_X0_place rfl) w_286 ?_
  refine G.go tv_X0_place 1 5 [(0, .ref (gAd E (8))), (1, .int (nI t)), (2, .ref (gAd E (kv)))] [.int (nI t), .ref (gAd E (10))] rfl ?_
  refine G.ialdN (10) (t) (by omega) (b10) (ht) (by omega) (tbd tv_X0_place rfl) ?_
  refine G.go tv_X0_place 3 9 [(0, .ref (gAd E (8))), (1, .int (nI t)), (2, .ref (gAd E (kv))), (3, .int ((so) (t)))] [.int ((-1 : Int32)), .int ((so) (t))] rfl ?_
  refine G.cmp_ne 84 (tbd tv_X0_place rfl) (by decide) (fun c9 => ?_) (fun c9 => ?_)
  · skip
    obtain ⟨s, hs, z1, z2, z3⟩ := (o6 t ht).resolve_left c9
    have hsc : (so t).toNatClampNeg = s := by rw [z1]; exact nI_clamp (by omega)
    refine G.eql [(0, .ref (gAd E (8))), (1, .int (nI t)), (2, .ref (gAd E (kv))), (3, .int (nI s))] (by rw [z1]) ?_
    refine pl_tail E f _ _ _ N B (so, bo, st, ro, sp, hd, pu) hE hN o2 hb t s kv x ht hs hkv hx hxb hkb (fun g h1 h2 => ⟨rfl, fun q => absurd q.1 c9, ?_, ?_, h2.wk (fun _ h => Or.inr h)⟩)
    · show DkV E g N (plD B (so, bo, st, ro, sp, hd, pu) d t) on (plL B (so, bo, st, ro, sp, hd, pu) t le) (plW B (so, bo, st, ro, sp, hd, pu) t wr) ss
      have hne : ¬ (so t = -1 ∧ 0 < st (bSlot B (so, bo, st, ro, sp, hd, pu))) := fun q => c9 q.1
      unfold plD plL plW
      rw [if_neg hne, if_neg hne, if_neg hne]
      exact hdv.of (fun k hk => h2 k (DkK_BfK hk))
    · show BfV E g N B (bPlace B (so, bo, st, ro, sp, hd, pu) t x)
      unfold bPlace
      rw [if_neg c9]
      show BfV E g N B (bTail (so, bo, st, ro, sp, hd, pu) (so t).toNatClampNeg x)
      rw [hsc]
      exact h1
  · skip
    refine G.go tv_X0_place 1 13 [(0, .ref (gAd E (8))), (1, .int (nI t)), (2, .ref (gAd E (kv))), (3, .int ((so) (t)))] [.ref (gAd E (8))] rfl ?_
    refine G.callV (8) [] [] (c_X0_leastStamped E f N B (so, bo, st, ro, sp, hd, pu) hE hN hb ho) cls_X0 (by omega) (b8) cw_X0_42 w_723 w_3 (Nat.le_of_ble_eq_true rfl) rfl (Nat.le_of_ble_eq_true rfl) (tbd tv_X0_place rfl) (fun v1 f1 q1 => ?_) (fun _ _ h => h.elim)
    obtain ⟨rfl, rfl⟩ := q1
    refine G.eqs [.int (nI (bLeast st (B - 1)))] rfl ?_
    obtain ⟨s, hse⟩ : ∃ s, s = bLeast st (B - 1) := ⟨_, rfl⟩
    rw [← hse]
    have hs : s < B := by rw [hse]; exact bSlot_lt ho
    have hse2 : bSlot B (so, bo, st, ro, sp, hd, pu) = s := hse.symm
    refine G.go tv_X0_place 2 18 [(0, .ref (gAd E (8))), (1, .int (nI t)), (2, .ref (gAd E (kv))), (3, .int (nI s))] [.ref (gAd E (8))] rfl ?_
    refine G.getf cls_X0 (8) 4 (by omega) (b8) (by decide) rfl (tbd tv_X0_place rfl) w_289 ?_
    refine G.go tv_X0_place 1 22 [(0, .ref (gAd E (8))), (1, .int (nI t)), (2, .ref (gAd E (kv))), (3, .int (nI s))] [.int (nI s), .ref (gAd E (12))] rfl ?_
    refine G.ialdN (12) (s) (by omega) (b12) (hs) (by omega) (tbd tv_X0_place rfl) ?_
    refine G.if_le 60 (tbd tv_X0_place rfl) (by decide) (fun c23 => ?_) (fun c23 => ?_)
    · skip
      have hz : ¬ 0 < st s := Int32.not_lt.mpr c23
      refine pl_mid E f _ _ _ N B (so, bo, st, ro, sp, hd, pu) hE hN o2 hb t s kv x ht hs hkv hx hxb hkb (fun g h1 h2 => ⟨rfl, fun q => absurd q.2 (by rw [hse2]; exact hz), ?_, ?_, h2.wk (fun _ h => Or.inr h)⟩)
      · show DkV E g N (plD B (so, bo, st, ro, sp, hd, pu) d t) on (plL B (so, bo, st, ro, sp, hd, pu) t le) (plW B (so, bo, st, ro, sp, hd, pu) t wr) ss
        have hne : ¬ (so t = -1 ∧ 0 < st (bSlot B (so, bo, st, ro, sp, hd, pu))) := fun q => hz (by rw [← hse2]; exact q.2)
        unfold plD plL plW
        rw [if_neg hne, if_neg hne, if_neg hne]
        exact hdv.of (fun k hk => h2 k (DkK_BfK hk))
      · show BfV E g N B (bPlace B (so, bo, st, ro, sp, hd, pu) t x)
        unfold bPlace
        rw [if_pos c9, if_neg (by rw [hse2]; exact hz), hse2]
        exact h1
    · skip
      refine G.go tv_X0_place 1 27 [(0, .ref (gAd E (8))), (1, .int (nI t)), (2, .ref (gAd E (kv))), (3, .int (nI s))] [.ref (gAd E (8))] rfl ?_
      refine G.getf cls_X0 (8) 0 (by omega) (b8) (by decide) rfl (tbd tv_X0_place rfl) w_283 ?_
      refine G.go tv_X0_place 1 31 [(0, .ref (gAd E (8))), (1, .int (nI t)), (2, .ref (gAd E (kv))), (3, .int (nI s))] [.ref (gAd E (8)), .ref (gAd E (2))] rfl ?_
      refine G.getf cls_X0 (8) 3 (by omega) (b8) (by decide) rfl (tbd tv_X0_place rfl) w_288 ?_
      refine G.go tv_X0_place 1 35 [(0, .ref (gAd E (8))), (1, .int (nI t)), (2, .ref (gAd E (kv))), (3, .int (nI s))] [.int (nI s), .ref (gAd E (11)), .ref (gAd E (2))] rfl ?_
      refine G.ialdN (11) (s) (by omega) (b11) (hs) (by omega) (tbd tv_X0_place rfl) ?_
      refine G.go tv_X0_place 1 37 [(0, .ref (gAd E (8))), (1, .int (nI t)), (2, .ref (gAd E (kv))), (3, .int (nI s))] [.ref (gAd E (8)), .int ((bo) (s)), .ref (gAd E (2))] rfl ?_
      refine G.getf cls_X0 (8) 1 (by omega) (b8) (by decide) rfl (tbd tv_X0_place rfl) w_284 ?_
      refine G.go tv_X0_place 1 41 [(0, .ref (gAd E (8))), (1, .int (nI t)), (2, .ref (gAd E (kv))), (3, .int (nI s))] [.int (nI s), .ref (gAd E (9)), .int ((bo) (s)), .ref (gAd E (2))] rfl ?_
      refine G.aaldN (9) (s) (by omega) (b9) (hs) (by omega) (tbd tv_X0_place rfl) ?_
      refine G.eqs [.ref (gAd E (350 + 2 * N + s)), .int ((bo) (s)), .ref (gAd E (2))] (by rw [rwA_at hs]; rfl) ?_
      obtain ⟨t0, ht0, hb0, hq0⟩ := o5 s hs
      have hbc : (bo s).toNatClampNeg = t0 := by rw [hb0]; exact nI_clamp (by omega)
      have hp : 0 < st s := Int32.not_le.mp c23
      have hev : so t = -1 ∧ 0 < st (bSlot B (so, bo, st, ro, sp, hd, pu)) := ⟨c9, by rw [hse2]; exact hp⟩
      refine G.eqs [.ref (gAd E (350 + 2 * N + s)), .int (nI t0), .ref (gAd E (2))] (by rw [hb0]) ?_
      refine G.callV (2) [.int (nI t0), .ref (gAd E (350 + 2 * N + s))] [] (c_X2_writeBlock E f N d on le wr ss (by omega) hN hdv hdo t0 (350 + 2 * N + s) (ro s) ht0 (by omega) (br s hs) (o7 s) (by unfold DkK; omega)) cls_X2 (by omega) (hdv2) cw_X0_46 w_726 w_727 (Nat.le_of_ble_eq_true rfl) rfl (Nat.le_of_ble_eq_true rfl) (tbd tv_X0_place rfl) (fun v2 f2 q2 => ?_) (fun X g h => ⟨h.1, h.2.1, hev, h.2.2.1, hb.of (fun k hk => h.2.2.2 k (fun q => DkK_BfK q hk)), h.2.2.2.wk (fun _ h => Or.inl h)⟩)
      obtain ⟨rfl, hle, hd1, hf1⟩ := q2
      refine G.eqs [] rfl ?_
      have hb1 : BfV E f2 N B (so, bo, st, ro, sp, hd, pu) := hb.of (fun k hk => hf1 k (fun q => DkK_BfK q hk))
      obtain ⟨g8, g9, g10, g11, g12, gr⟩ := id hb1
      refine G.go tv_X0_place 2 47 [(0, .ref (gAd E (8))), (1, .int (nI t)), (2, .ref (gAd E (kv))), (3, .int (nI s))] [.int (nI s), .ref (gAd E (8))] rfl ?_
      refine G.callV (8) [.int (nI s)] [] (c_X0_drop E f2 N B (so, bo, st, ro, sp, hd, pu) hE hN hb1 ho s hs (by show 1 ≤ hd; rw [o3]; exact bCnt_pos st s hp B hs)) cls_X0 (by omega) (g8) cw_X0_50 w_758 w_6 (Nat.le_of_ble_eq_true rfl) rfl (Nat.le_of_ble_eq_true rfl) (tbd tv_X0_place rfl) (fun v3 f3 q3 => ?_) (fun _ _ h => h.elim)
      obtain ⟨rfl, hb2, hf2⟩ := q3
      refine G.eqs [] rfl ?_
      obtain ⟨k8, k9, k10, k11, k12, kr⟩ := id hb2
      refine G.go tv_X0_place 2 52 [(0, .ref (gAd E (8))), (1, .int (nI t)), (2, .ref (gAd E (kv))), (3, .int (nI s))] [.ref (gAd E (8)), .ref (gAd E (8))] rfl ?_
      refine G.getf cls_X0 (8) 7 (by omega) (k8) (by decide) rfl (tbd tv_X0_place rfl) w_293 ?_
      refine G.go tv_X0_place 2 57 [(0, .ref (gAd E (8))), (1, .int (nI t)), (2, .ref (gAd E (kv))), (3, .int (nI s))] [.int ((pu) + ((1 : Int32))), .ref (gAd E (8))] rfl ?_
      refine G.putfS cls_X0 (8) 7 [.ref (gAd E (2)), .ref (gAd E (9)), .ref (gAd E (10)), .ref (gAd E (11)), .ref (gAd E (12)), .int (nI sp), .int (nI (hd - 1)), .int ((pu) + ((1 : Int32)))] (by omega) (k8) rfl (by decide) rfl rfl rfl (Nat.le_of_ble_eq_true rfl) (tbd tv_X0_place rfl) w_293 ?_
      have hb3 : BfV E _ N B (bPush (bDrop (so, bo, st, ro, sp, hd, pu) s)) := (⟨up_e, up_n (by decide) (k9), up_n (by decide) (k10), up_n (by decide) (k11), up_n (by decide) (k12), Rws.keep (kr) (by omega)⟩ : BfV E (va_up (f3) (8) (.inr (0, [.ref (gAd E (2)), .ref (gAd E (9)), .ref (gAd E (10)), .ref (gAd E (11)), .ref (gAd E (12)), .int (nI sp), .int (nI (hd - 1)), .int ((pu) + ((1 : Int32)))]))) N B (upd so (bo s).toNatClampNeg (-1), bo, upd st s 0, ro, sp, hd - 1, pu + 1))
      refine pl_mid E _ _ _ _ N B (bPush (bDrop (so, bo, st, ro, sp, hd, pu) s)) hE hN o2 hb3 t s kv x ht hs hkv (up_n (fun q => hkb (by rw [q]; exact Or.inl ⟨by decide, by decide⟩)) ((hf2 kv hkb).trans ((hf1 kv hkd).trans hx))) hxb hkb (fun g h1 h2 => ?_)
      have hfb : Fr (BfK N B) f2 g := (hf2.tr (Fr.up (Fr.rf) (Or.inl ⟨by decide, by decide⟩) : Fr (BfK N B) f3 _) (fun _ h => h)).tr h2 (fun _ h => h)
      refine ⟨rfl, fun _ => hle, ?_, ?_, (hf1.wk (fun _ h => Or.inl h)).tr hfb (fun _ h => Or.inr h)⟩
      · show DkV E g N (plD B (so, bo, st, ro, sp, hd, pu) d t) on (plL B (so, bo, st, ro, sp, hd, pu) t le) (plW B (so, bo, st, ro, sp, hd, pu) t wr) ss
        unfold plD plL plW
        rw [if_pos hev, if_pos hev, if_pos hev, hse2]
        show DkV E g N (dWrite d (bo s).toNatClampNeg (ro s)) on (if 0 < le then le - 1 else le) (wr + 1) ss
        rw [hbc]
        exact hd1.of (fun k hk => hfb k (DkK_BfK hk))
      · show BfV E g N B (bPlace B (so, bo, st, ro, sp, hd, pu) t x)
        unfold bPlace
        rw [if_pos c9, if_pos (by rw [hse2]; exact hp), hse2]
        exact h1
