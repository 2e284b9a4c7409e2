theorem G.tswI {E : gE} {K : gM} {cc : ByteArray} {Q : gU} {f : Nat → va_E} {pc : Nat} {lv : List (Nat × Value)} {st : List Value} {dflt lo hi : Int} {offs : Array Int} {len : Nat} {x : Int32} (tgt : Nat) (off : Int) (d : decode cc pc = .ok (.tableswitch dflt lo hi offs, len)) (h1 : ¬ x.toInt < lo) (h2 : ¬ hi < x.toInt) (ho : offs[(x.toInt - lo).toNat]? = some off) (ht : (pc : Int) + off = (tgt : Int)) (kk : G E K cc Q tgt lv st f) : G E K cc Q pc lv (.int x :: st) f := by
  intro p e s m args below meth c C H locs ls hP hD hS hl
  exact lv_tableIn C.1 C.2.1 d h1 h2 ho ht (kk p e s m args below meth c C H locs ls hP hD hS hl)
theorem G.tswO {E : gE} {K : gM} {cc : ByteArray} {Q : gU} {f : Nat → va_E} {pc : Nat} {lv : List (Nat × Value)} {st : List Value} {dflt lo hi : Int} {offs : Array Int} {len : Nat} {x : Int32} (tgt : Nat) (d : decode cc pc = .ok (.tableswitch dflt lo hi offs, len)) (h : x.toInt < lo ∨ hi < x.toInt) (ht : (pc : Int) + dflt = (tgt : Int)) (kk : G E K cc Q tgt lv st f) : G E K cc Q pc lv (.int x :: st) f := by
  intro p e s m args below meth c C H locs ls hP hD hS hl
  exact lv_tableOut C.1 C.2.1 d h ht (kk p e s m args below meth c C H locs ls hP hD hS hl)
def tb_X11_needByte : List (Nat × Instr × Nat) := [(0, .iload_n 1, 1), (1, .ifCond .lt 25, 3), (4, .iload_n 1, 1), (5, .aload_n 0, 1), (6, .getfield 47, 3), (9, .getfield 71, 3), (12, .if_icmp .ge 14, 3), (15, .iload_n 2, 1), (16, .ifCond .lt 10, 3), (19, .iload_n 2, 1), (20, .sipush 128, 3), (23, .if_icmp .lt 14, 3), (26, .new 409, 3), (29, .dup, 1), (30, .ldc_w 482, 3), (33, .invokespecial 413, 3), (36, .athrow, 1), (37, .return_, 1)]
theorem tv_X11_needByte : Tv cX11_needByte tb_X11_needByte := by
  unfold Tv
  decide +kernel
theorem w_1730 : Cond.classLink "LedgerFiles" 409 "java/util/NoSuchElementException" ∈ TB := tp_7 144 (by decide +kernel) rfl
theorem w_177 : Cond.initialized "java/util/NoSuchElementException" ∈ TB := tp_1 31 (by decide +kernel) rfl
theorem at_X11_413 : ∀ w ∈ (gxAt RX11 413 "java/util/NoSuchElementException" 13 prog_31_method_4_code "java/lang/RuntimeException" ["java/lang/Exception"]).filter vx_no, w ∈ TB ∨ w = .castable "java/util/NoSuchElementException" "java/util/NoSuchElementException" ∨ w ∈ gDcl.map Cond.declares := by
  have h1 : ∀ w ∈ (gxAt RX11 413 "java/util/NoSuchElementException" 13 prog_31_method_4_code "java/lang/RuntimeException" ["java/lang/Exception"]).filter vx_no, w ∈ lw_tbl := by decide +kernel
  have h2 : ∀ w ∈ (gxAt RX11 413 "java/util/NoSuchElementException" 13 prog_31_method_4_code "java/lang/RuntimeException" ["java/lang/Exception"]).filter vx_no, goodWord w = true ∨ w = .castable "java/util/NoSuchElementException" "java/util/NoSuchElementException" ∨ w ∈ gDcl.map Cond.declares := by decide +kernel
  exact fun w hw => (h2 w hw).elim (fun h => Or.inl (List.mem_filter.mpr ⟨h1 w hw, h⟩)) Or.inr
theorem w_229 : Cond.fieldLink "LedgerFiles" 71 "LedgerFiles$Disk" "blocks" "I" ∈ TB := tp_1 83 (by decide +kernel) rfl
set_option maxRecDepth 100000 in
set_option maxHeartbeats 4000000 in
theorem c_X11_needByte (E : gE) (f : Nat → va_E) (tp : Nat → Int32) (fd : Nat) (mo : Int32) (hE : 350 ≤ gN E) (hm : MnV E f tp fd mo) (hfd : fd ≤ 1024) (N : Nat) (d : DkT) (on le wr ss : Int32) (hE1 : 350 + N ≤ gN E) (hN : N ≤ 1024) (hdv : DkV E f N d on le wr ss) (hdo : dOk N d) (x i : Int32) : Ct E 6 yX11_needByte cX11_needByte 3 none [.ref (gAd E (0)), .int (x), .int (i)] f (fun v g => v = none ∧ f = g ∧ ¬ x < 0 ∧ x < nI N ∧ ¬ i < 0 ∧ i < 128, fun X g => X = "java/util/NoSuchElementException" ∧ f = g ∧ ¬ (¬ x < 0 ∧ x < nI N ∧ ¬ i < 0 ∧ i < 128)) := by
  have hdv2 : f 2 = .inr (2, [.int (nI N), .ref (gAd E 3), .ref (gAd E 4), .ref (gAd E 5), .ref (gAd E 6), .ref (gAd E 7), .int (nI d.2.2.2.2.2.1), .int (nI d.2.2.2.2.2.2), .int on, .int le, .int wr, .int ss]) := by obtain ⟨dw, dla, dbo, dsy, dva, da, dn⟩ := d; exact hdv.1
  have hdv3 : f 3 = oI (gDA E) N d.1 := by obtain ⟨dw, dla, dbo, dsy, dva, da, dn⟩ := d; exact hdv.2.1
  obtain ⟨m0, m1⟩ := id hm
  refine Ct.of (by decide) (Nat.le_of_ble_eq_true rfl) (fun sz => ?_)
  refine G.eql [(0, .ref (gAd E (0))), (1, .int (x)), (2, .int (i))] rfl ?_
  refine G.go tv_X11_needByte 1 1 [(0, .ref (gAd E (0))), (1, .int (x)), (2, .int (i))] [.int (x)] rfl ?_
  refine G.if_lt 26 (tbd tv_X11_needByte rfl) (by decide) (fun c1 => ?_) (fun c1 => ?_)
  · skip
    exact G.thrX (cls := "java/util/NoSuchElementException") (Yn := "java/lang/RuntimeException") (text := "no such block or byte") (r := ["java/lang/Exception"]) (ix := 13) (rx := prog_31_method_4_code) (by decide +kernel) (by decide +kernel) (by decide +kernel) (by decide +kernel) (by decide +kernel) (by decide +kernel) (by decide +kernel) w_1730 w_177 (own := "LedgerFiles") rfl (by decide +kernel) (by decide +kernel) at_X11_413 (tbd tv_X11_needByte rfl) (tbd tv_X11_needByte rfl) (tbd tv_X11_needByte rfl) (tbd tv_X11_needByte rfl) (tbd tv_X11_needByte rfl) (Nat.le_of_ble_eq_true rfl) (Nat.le_of_ble_eq_true rfl) (⟨rfl, rfl, by first | exact fun q => q.1 c1 | exact fun q => absurd q.2.1 (Int32.not_lt.mpr c12) | exact fun q => q.2.2.1 c16 | exact fun q => c23 q.2.2.2⟩)
  · skip
    refine G.go tv_X11_needByte 2 6 [(0, .ref (gAd E (0))), (1, .int (x)), (2, .int (i))] [.ref (gAd E (0)), .int (x)] rfl ?_
    refine G.getf cls_X11 (0) 3 (by omega) (m0) (by decide) rfl (tbd tv_X11_needByte rfl) w_566 ?_
    refine G.getf cls_X2 (2) 0 (by omega) (hdv2) (by decide) rfl (tbd tv_X11_needByte rfl) w_229 ?_
    refine G.cmp_ge 26 (tbd tv_X11_needByte rfl) (by decide) (fun c12 => ?_) (fun c12 => ?_)
    · skip
      exact G.thrX (cls := "java/util/NoSuchElementException") (Yn := "java/lang/RuntimeException") (text := "no such block or byte") (r := ["java/lang/Exception"]) (ix := 13) (rx := prog_31_method_4_code) (by decide +kernel) (by decide +kernel) (by decide +kernel) (by decide +kernel) (by decide +kernel) (by decide +kernel) (by decide +kernel) w_1730 w_177 (own := "LedgerFiles") rfl (by decide +kernel) (by decide +kernel) at_X11_413 (tbd tv_X11_needByte rfl) (tbd tv_X11_needByte rfl) (tbd tv_X11_needByte rfl) (tbd tv_X11_needByte rfl) (tbd tv_X11_needByte rfl) (Nat.le_of_ble_eq_true rfl) (Nat.le_of_ble_eq_true rfl) (⟨rfl, rfl, by first | exact fun q => q.1 c1 | exact fun q => absurd q.2.1 (Int32.not_lt.mpr c12) | exact fun q => q.2.2.1 c16 | exact fun q => c23 q.2.2.2⟩)
    · skip
      refine G.go tv_X11_needByte 1 16 [(0, .ref (gAd E (0))), (1, .int (x)), (2, .int (i))] [.int (i)] rfl ?_
      refine G.if_lt 26 (tbd tv_X11_needByte rfl) (by decide) (fun c16 => ?_) (fun c16 => ?_)
      · skip
        exact G.thrX (cls := "java/util/NoSuchElementException") (Yn := "java/lang/RuntimeException") (text := "no such block or byte") (r := ["java/lang/Exception"]) (ix := 13) (rx := prog_31_method_4_code) (by decide +kernel) (by decide +kernel) (by decide +kernel) (by decide +kernel) (by decide +kernel) (by decide +kernel) (by decide +kernel) w_1730 w_177 (own := "LedgerFiles") rfl (by decide +kernel) (by decide +kernel) at_X11_413 (tbd tv_X11_needByte rfl) (tbd tv_X11_needByte rfl) (tbd tv_X11_needByte rfl) (tbd tv_X11_needByte rfl) (tbd tv_X11_needByte rfl) (Nat.le_of_ble_eq_true rfl) (Nat.le_of_ble_eq_true rfl) (⟨rfl, rfl, by first | exact fun q => q.1 c1 | exact fun q => absurd q.2.1 (Int32.not_lt.mpr c12) | exact fun q => q.2.2.1 c16 | exact fun q => c23 q.2.2.2⟩)
      · skip
        refine G.go tv_X11_needByte 2 23 [(0, .ref (gAd E (0))), (1, .int (x)), (2, .int (i))] [.int ((128 : Int32)), .int (i)] rfl ?_
        refine G.cmp_lt 37 (tbd tv_X11_needByte rfl) (by decide) (fun c23 => ?_) (fun c23 => ?_)
        · skip
          exact G.vret rfl (⟨rfl, rfl, c1, Int32.not_le.mp c12, c16, c23⟩) (tbd tv_X11_needByte rfl)
        · skip
          exact G.thrX (cls := "java/util/NoSuchElementException") (Yn := "java/lang/RuntimeException") (text := "no such block or byte") (r := ["java/lang/Exception"]) (ix := 13) (rx := prog_31_method_4_code) (by decide +kernel) (by decide +kernel) (by decide +kernel) (by decide +kernel) (by decide +kernel) (by decide +kernel) (by decide +kernel) w_1730 w_177 (own := "LedgerFiles") rfl (by decide +kernel) (by decide +kernel) at_X11_413 (tbd tv_X11_needByte rfl) (tbd tv_X11_needByte rfl) (tbd tv_X11_needByte rfl) (tbd tv_X11_needByte rfl) (tbd tv_X11_needByte rfl) (Nat.le_of_ble_eq_true rfl) (Nat.le_of_ble_eq_true rfl) (⟨rfl, rfl, by first | exact fun q => q.1 c1 | exact fun q => absurd q.2.1 (Int32.not_lt.mpr c12) | exact fun q => q.2.2.1 c16 | exact fun q => c23 q.2.2.2⟩)
def tb_X11_waiting : List (Nat × Instr × Nat) := [(0, .aload_n 0, 1), (1, .iload_n 1, 1), (2, .iconst 0, 1), (3, .invokevirtual 484, 3), (6, .aload_n 0, 1), (7, .getfield 47, 3), (10, .getfield 487, 3), (13, .iload_n 1, 1), (14, .iaload, 1), (15, .ireturn, 1)]
theorem tv_X11_waiting : Tv cX11_waiting tb_X11_waiting := by
  unfold Tv
  decide +kernel
theorem w_1920 : Cond.methodLink "LedgerFiles" 484 yX11_needByte ∈ TB := tp_8 94 (by decide +kernel) rfl
theorem w_1923 : Cond.code yX11_needByte prog_1_method_56_code 3 none ∈ TB := tp_8 97 rfl rfl
theorem cw_X11_484 : Cw RX11 484 yX11_needByte cX11_needByte 3 none 2 := ⟨w_1920, w_1923, w_147, by decide +kernel, by decide +kernel, by decide⟩
theorem w_1922 : Cond.instanceMethod yX11_needByte ∈ TB := tp_8 96 (by decide +kernel) rfl
theorem w_43 : Cond.selects "LedgerFiles" yX11_needByte yX11_needByte ∈ TB := tp_0 43 (by decide +kernel) rfl
theorem w_231 : Cond.fieldLink "LedgerFiles" 487 "LedgerFiles$Disk" "waits" "[I" ∈ TB := tp_1 85 (by decide +kernel) rfl
set_option maxRecDepth 100000 in
set_option maxHeartbeats 4000000 in
theorem c_X11_waiting (E : gE) (f : Nat → va_E) (tp : Nat → Int32) (fd : Nat) (mo : Int32) (hE : 350 ≤ gN E) (hm : MnV E f tp fd mo) (hfd : fd ≤ 1024) (N : Nat) (d : DkT) (on le wr ss : Int32) (hE1 : 350 + N ≤ gN E) (hN : N ≤ 1024) (hdv : DkV E f N d on le wr ss) (hdo : dOk N d) (x : Int32) : Ct E 7 yX11_waiting cX11_waiting 2 (some .int) [.ref (gAd E (0)), .int (x)] f (fun v g => ∃ t, t < N ∧ x = nI t ∧ f = g ∧ v = some (.int (d.1 t)), fun X g => X = "java/util/NoSuchElementException" ∧ f = g ∧ ¬ (¬ x < 0 ∧ x < nI N ∧ ¬ (0 : Int32) < 0 ∧ (0 : Int32) < 128)) := by
  have hdv2 : f 2 = .inr (2, [.int (nI N), .ref (gAd E 3), .ref (gAd E 4), .ref (gAd E 5), .ref (gAd E 6), .ref (gAd E 7), .int (nI d.2.2.2.2.2.1), .int (nI d.2.2.2.2.2.2), .int on, .int le, .int wr, .int ss]) := by obtain ⟨dw, dla, dbo, dsy, dva, da, dn⟩ := d; exact hdv.1
  have hdv3 : f 3 = oI (gDA E) N d.1 := by obtain ⟨dw, dla, dbo, dsy, dva, da, dn⟩ := d; exact hdv.2.1
  obtain ⟨m0, m1⟩ := id hm
  refine Ct.of (by decide) (Nat.le_of_ble_eq_true rfl) (fun sz => ?_)
  refine G.eql [(0, .ref (gAd E (0))), (1, .int (x))] rfl ?_
  refine G.go tv_X11_waiting 3 3 [(0, .ref (gAd E (0))), (1, .int (x))] [.int ((0 : Int32)), .int (x), .ref (gAd E (0))] rfl ?_
  refine G.callV (0) [.int (x), .int ((0 : Int32))] [] (c_X11_needByte E f tp fd mo hE hm hfd N d on le wr ss hE1 hN hdv hdo (x) ((0 : Int32))) cls_X11 (by omega) (m0) cw_X11_484 w_1922 w_43 (Nat.le_of_ble_eq_true rfl) rfl (Nat.le_of_ble_eq_true rfl) (tbd tv_X11_waiting rfl) (fun v1 f1 q1 => ?_) (fun X g q => q)
  obtain ⟨rfl, rfl, q1, q2, q3, q4⟩ := q1
  refine G.eqs [] rfl ?_
  obtain ⟨t, ht31, rfl⟩ := nI_of q1
  have ht : t < N := (nI_ltI (by omega) (by omega)).mp q2
  refine G.go tv_X11_waiting 1 7 [(0, .ref (gAd E (0))), (1, .int (nI t))] [.ref (gAd E (0))] rfl ?_
  refine G.getf cls_X11 (0) 3 (by omega) (m0) (by decide) rfl (tbd tv_X11_waiting rfl) w_566 ?_
  refine G.getf cls_X2 (2) 1 (by omega) (hdv2) (by decide) rfl (tbd tv_X11_waiting rfl) w_231 ?_
  refine G.go tv_X11_waiting 1 14 [(0, .ref (gAd E (0))), (1, .int (nI t))] [.int (nI t), .ref (gAd E (3))] rfl ?_
  refine G.ialdN (3) (t) (by omega) (hdv3) (ht) (by omega) (tbd tv_X11_waiting rfl) ?_
  exact G.iret rfl rfl (⟨t, ht, rfl, rfl, rfl⟩) (tbd tv_X11_waiting rfl)
def tb_X11_byteAt : List (Nat × Instr × Nat) := [(0, .aload_n 0, 1), (1, .iload_n 1, 1), (2, .iload_n 2, 1), (3, .invokevirtual 484, 3), (6, .aload_n 0, 1), (7, .getfield 47, 3), (10, .iload_n 1, 1), (11, .invokevirtual 193, 3), (14, .iload_n 2, 1), (15, .baload, 1), (16, .sipush 255, 3), (19, .iand, 1), (20, .ireturn, 1)]
theorem tv_X11_byteAt : Tv cX11_byteAt tb_X11_byteAt := by
  unfold Tv
  decide +kernel
theorem w_824 : Cond.methodLink "LedgerFiles" 193 yX2_row ∈ TB := tp_3 198 (by decide +kernel) rfl
theorem cw_X11_193 : Cw RX11 193 yX2_row cX2_row 2 (some (.array .byte)) 1 := ⟨w_824, w_803, w_149, by decide +kernel, by decide +kernel, by decide⟩
set_option maxRecDepth 100000 in
set_option maxHeartbeats 4000000 in
theorem c_X11_byteAt (E : gE) (f : Nat → va_E) (tp : Nat → Int32) (fd : Nat) (mo : Int32) (hE : 350 ≤ gN E) (hm : MnV E f tp fd mo) (hfd : fd ≤ 1024) (N : Nat) (d : DkT) (on le wr ss : Int32) (hE1 : 350 + N ≤ gN E) (hN : N ≤ 1024) (hdv : DkV E f N d on le wr ss) (hdo : dOk N d) (x i : Int32) : Ct E 7 yX11_byteAt cX11_byteAt 3 (some .int) [.ref (gAd E (0)), .int (x), .int (i)] f (fun v g => ∃ t u, t < N ∧ u < 128 ∧ x = nI t ∧ i = nI u ∧ f = g ∧ v = some (.int (dRead d t u &&& 255)), fun X g => X = "java/util/NoSuchElementException" ∧ f = g ∧ ¬ (¬ x < 0 ∧ x < nI N ∧ ¬ i < 0 ∧ i < 128)) := by
  have hdv2 : f 2 = .inr (2, [.int (nI N), .ref (gAd E 3), .ref (gAd E 4), .ref (gAd E 5), .ref (gAd E 6), .ref (gAd E 7), .int (nI d.2.2.2.2.2.1), .int (nI d.2.2.2.2.2.2), .int on, .int le, .int wr, .int ss]) := by obtain ⟨dw, dla, dbo, dsy, dva, da, dn⟩ := d; exact hdv.1
  have hdv3 : f 3 = oI (gDA E) N d.1 := by obtain ⟨dw, dla, dbo, dsy, dva, da, dn⟩ := d; exact hdv.2.1
  obtain ⟨m0, m1⟩ := id hm
  refine Ct.of (by decide) (Nat.le_of_ble_eq_true rfl) (fun sz => ?_)
  refine G.eql [(0, .ref (gAd E (0))), (1, .int (x)), (2, .int (i))] rfl ?_
  refine G.go tv_X11_byteAt 3 3 [(0, .ref (gAd E (0))), (1, .int (x)), (2, .int (i))] [.int (i), .int (x), .ref (gAd E (0))] rfl ?_
  refine G.callV (0) [.int (x), .int (i)] [] (c_X11_needByte E f tp fd mo hE hm hfd N d on le wr ss hE1 hN hdv hdo (x) (i)) cls_X11 (by omega) (m0) cw_X11_484 w_1922 w_43 (Nat.le_of_ble_eq_true rfl) rfl (Nat.le_of_ble_eq_true rfl) (tbd tv_X11_byteAt rfl) (fun v1 f1 q1 => ?_) (fun X g q => q)
  obtain ⟨rfl, rfl, q1, q2, q3, q4⟩ := q1
  refine G.eqs [] rfl ?_
  obtain ⟨t, ht31, rfl⟩ := nI_of q1
  have ht : t < N := (nI_ltI (by omega) (by omega)).mp q2
  obtain ⟨u, hu31, rfl⟩ := nI_of q3
  have hu : u < 128 := (nI_ltI (by omega) (by omega) : nI u < nI 128 ↔ u < 128).mp q4
  refine G.go tv_X11_byteAt 1 7 [(0, .ref (gAd E (0))), (1, .int (nI t)), (2, .int (nI u))] [.ref (gAd E (0))] rfl ?_
  refine G.getf cls_X11 (0) 3 (by omega) (m0) (by decide) rfl (tbd tv_X11_byteAt rfl) w_566 ?_
  refine G.go tv_X11_byteAt 1 11 [(0, .ref (gAd E (0))), (1, .int (nI t)), (2, .int (nI u))] [.int (nI t), .ref (gAd E (2))] rfl ?_
  refine G.callV (2) [.int (nI t)] [] (c_row E f N d on le wr ss hE1 hN hdv hdo t ht) cls_X2 (by omega) (hdv2) cw_X11_193 w_801 w_802 (Nat.le_of_ble_eq_true rfl) rfl (Nat.le_of_ble_eq_true rfl) (tbd tv_X11_byteAt rfl) (fun v2 f2 q2 => ?_) (fun _ _ h => h.elim)
  obtain ⟨k, rfl, rfl, lt, -, rd⟩ := q2
  refine G.eqs [.ref (gAd E (k))] rfl ?_
  refine G.go tv_X11_byteAt 1 15 [(0, .ref (gAd E (0))), (1, .int (nI t)), (2, .int (nI u))] [.int (nI u), .ref (gAd E (k))] rfl ?_
  refine G.baldN (k) (u) lt (rd) (hu) (by omega) (tbd tv_X11_byteAt rfl) ?_
  refine G.go tv_X11_byteAt 2 20 [(0, .ref (gAd E (0))), (1, .int (nI t)), (2, .int (nI u))] [.int (((dRead d t) (u)) &&& ((255 : Int32)))] rfl ?_
  exact G.iret rfl rfl (⟨t, u, ht, hu, rfl, rfl, rfl, rfl⟩) (tbd tv_X11_byteAt rfl)
def tb_X11_power : List (Nat × Instr × Nat) := [(0, .aload_n 0, 1), (1, .invokevirtual 462, 3), (4, .iload_n 1, 1), (5, .iconst (-1), 1), (6, .if_icmp .ge 14, 3), (9, .new 201, 3), (12, .dup, 1), (13, .ldc_w 465, 3), (16, .invokespecial 205, 3), (19, .athrow, 1), (20, .aload_n 0, 1), (21, .getfield 47, 3), (24, .iload_n 1, 1), (25, .putfield 467, 3), (28, .return_, 1)]
theorem tv_X11_power : Tv cX11_power tb_X11_power := by
  unfold Tv
  decide +kernel
theorem w_1874 : Cond.methodLink "LedgerFiles" 462 yX11_needPower ∈ TB := tp_8 48 (by decide +kernel) rfl
theorem w_1877 : Cond.code yX11_needPower prog_1_method_52_code 1 none ∈ TB := tp_8 51 rfl rfl
theorem cw_X11_462 : Cw RX11 462 yX11_needPower cX11_needPower 1 none 0 := ⟨w_1874, w_1877, w_147, by decide +kernel, by decide +kernel, by decide⟩
theorem w_1876 : Cond.instanceMethod yX11_needPower ∈ TB := tp_8 50 (by decide +kernel) rfl
theorem w_41 : Cond.selects "LedgerFiles" yX11_needPower yX11_needPower ∈ TB := tp_0 41 (by decide +kernel) rfl
theorem w_245 : Cond.fieldLink "LedgerFiles" 467 "LedgerFiles$Disk" "left" "I" ∈ TB := tp_1 99 (by decide +kernel) rfl
theorem w_828 : Cond.classLink "LedgerFiles" 201 "java/lang/IllegalArgumentException" ∈ TB := tp_3 202 (by decide +kernel) rfl
theorem w_168 : Cond.initialized "java/lang/IllegalArgumentException" ∈ TB := tp_1 22 (by decide +kernel) rfl
theorem at_X11_205 : ∀ w ∈ vx_atS RX11 205 "java/lang/IllegalArgumentException" ["java/lang/RuntimeException", "java/lang/Exception"], w ∈ TB ∨ w = .castable "java/lang/IllegalArgumentException" "java/lang/IllegalArgumentException" ∨ w ∈ gDcl.map Cond.declares := by
  have h1 : ∀ w ∈ vx_atS RX11 205 "java/lang/IllegalArgumentException" ["java/lang/RuntimeException", "java/lang/Exception"], w ∈ lw_tbl := by decide +kernel
  have h2 : ∀ w ∈ vx_atS RX11 205 "java/lang/IllegalArgumentException" ["java/lang/RuntimeException", "java/lang/Exception"], goodWord w = true ∨ w = .castable "java/lang/IllegalArgumentException" "java/lang/IllegalArgumentException" ∨ w ∈ gDcl.map Cond.declares := by decide +kernel
  exact fun w hw => (h2 w hw).elim (fun h => Or.inl (List.mem_filter.mpr ⟨h1 w hw, h⟩)) Or.inr
set_option maxRecDepth 100000 in
set_option maxHeartbeats 4000000 in
theorem c_X11_power (E : gE) (f : Nat → va_E) (tp : Nat → Int32) (fd : Nat) (mo : Int32) (hE : 350 ≤ gN E) (hm : MnV E f tp fd mo) (hfd : fd ≤ 1024) (N : Nat) (d : DkT) (on le wr ss : Int32) (hE1 : 350 + N ≤ gN E) (hN : N ≤ 1024) (hdv : DkV E f N d on le wr ss) (hdo : dOk N d) (x : Int32) : Ct E 7 yX11_power cX11_power 2 none [.ref (gAd E (0)), .int (x)] f (fun v g => v = none ∧ ¬ on = 0 ∧ ¬ x < -1 ∧ DkV E g N d on x wr ss ∧ Fr (DkK N) f g, fun X g => (X = "java/lang/IllegalStateException" ∧ f = g ∧ on = 0) ∨ (X = "java/lang/IllegalArgumentException" ∧ f = g ∧ ¬ on = 0 ∧ x < -1)) := by
  have hdv2 : f 2 = .inr (2, [.int (nI N), .ref (gAd E 3), .ref (gAd E 4), .ref (gAd E 5), .ref (gAd E 6), .ref (gAd E 7), .int (nI d.2.2.2.2.2.1), .int (nI d.2.2.2.2.2.2), .int on, .int le, .int wr, .int ss]) := by obtain ⟨dw, dla, dbo, dsy, dva, da, dn⟩ := d; exact hdv.1
  have hdv3 : f 3 = oI (gDA E) N d.1 := by obtain ⟨dw, dla, dbo, dsy, dva, da, dn⟩ := d; exact hdv.2.1
  obtain ⟨m0, m1⟩ := id hm
  refine Ct.of (by decide) (Nat.le_of_ble_eq_true rfl) (fun sz => ?_)
  refine G.eql [(0, .ref (gAd E (0))), (1, .int (x))] rfl ?_
  refine G.go tv_X11_power 1 1 [(0, .ref (gAd E (0))), (1, .int (x))] [.ref (gAd E (0))] rfl ?_
  refine G.callV (0) [] [] (c_X11_needPower E f tp fd mo hE hm hfd N d on le wr ss hE1 hN hdv hdo) cls_X11 (by omega) (m0) cw_X11_462 w_1876 w_41 (Nat.le_of_ble_eq_true rfl) rfl (Nat.le_of_ble_eq_true rfl) (tbd tv_X11_power rfl) (fun v1 f1 q1 => ?_) (fun X g q => Or.inl q)
  obtain ⟨rfl, rfl, q1⟩ := q1
  refine G.eqs [] rfl ?_
  refine G.go tv_X11_power 2 6 [(0, .ref (gAd E (0))), (1, .int (x))] [.int ((-1 : Int32)), .int (x)] rfl ?_
  refine G.cmp_ge 20 (tbd tv_X11_power rfl) (by decide) (fun c6 => ?_) (fun c6 => ?_)
  · skip
    refine G.go tv_X11_power 1 21 [(0, .ref (gAd E (0))), (1, .int (x))] [.ref (gAd E (0))] rfl ?_
    refine G.getf cls_X11 (0) 3 (by omega) (m0) (by decide) rfl (tbd tv_X11_power rfl) w_566 ?_
    refine G.go tv_X11_power 1 25 [(0, .ref (gAd E (0))), (1, .int (x))] [.int (x), .ref (gAd E (2))] rfl ?_
    refine G.putfS cls_X2 (2) 9 [.int (nI N), .ref (gAd E (3)), .ref (gAd E (4)), .ref (gAd E (5)), .ref (gAd E (6)), .ref (gAd E (7)), .int (nI d.2.2.2.2.2.1), .int (nI d.2.2.2.2.2.2), .int (on), .int (x), .int (wr), .int (ss)] (by omega) (hdv2) rfl (by decide) rfl rfl rfl (Nat.le_of_ble_eq_true rfl) (tbd tv_X11_power rfl) w_245 ?_
    exact G.vret rfl ⟨rfl, q1, Int32.not_lt.mpr c6, by obtain ⟨dw, dla, dbo, dsy, dva, da, dn⟩ := d; exact ⟨up_e, hdv.2.1, hdv.2.2.1, hdv.2.2.2.1, hdv.2.2.2.2.1, hdv.2.2.2.2.2.1, hdv.2.2.2.2.2.2.1.keep (Or.inl (by decide)), hdv.2.2.2.2.2.2.2.keep (Or.inl (by decide))⟩, Fr.up Fr.rf (Or.inl ⟨by decide, by decide⟩)⟩ (tbd tv_X11_power rfl)
  · skip
    exact G.thrW (cls := "java/lang/IllegalArgumentException") (text := "steps is below -1") (names := ["java/lang/RuntimeException", "java/lang/Exception"]) (by decide +kernel) (by decide +kernel) w_828 w_168 (own := "LedgerFiles") rfl (by decide +kernel) (by decide +kernel) at_X11_205 (tbd tv_X11_power rfl) (tbd tv_X11_power rfl) (tbd tv_X11_power rfl) (tbd tv_X11_power rfl) (tbd tv_X11_power rfl) (Nat.le_of_ble_eq_true rfl) (Nat.le_of_ble_eq_true rfl) (Or.inr ⟨rfl, rfl, q1, Int32.not_le.mp c6⟩)
theorem c_dark (E : gE) (f : Nat → va_E) (N : Nat) (d : DkT) (on le wr ss : Int32) (hE : 350 + N ≤ gN E) (hN : N ≤ 1024) (hdv : DkV E f N d on le wr ss) : Ct E 1 yX2_goDark cX2_goDark 1 none [.ref (gAd E (2))] f (fun v g => v = none ∧ DkV E g N d 0 (-1) wr ss ∧ Fr (DkK N) f g, fun _ _ => False) := by
  obtain ⟨w, la, bo, sy, va, a, n⟩ := d
  exact c_X2_goDark E f N w la bo sy va (nI a) (nI n) on le wr ss hE hN hdv
def tb_X11_crash : List (Nat × Instr × Nat) := [(0, .aload_n 0, 1), (1, .invokevirtual 462, 3), (4, .aload_n 0, 1), (5, .getfield 47, 3), (8, .invokevirtual 470, 3), (11, .return_, 1)]
theorem tv_X11_crash : Tv cX11_crash tb_X11_crash := by
  unfold Tv
  decide +kernel
theorem w_1887 : Cond.methodLink "LedgerFiles" 470 yX2_goDark ∈ TB := tp_8 61 (by decide +kernel) rfl
theorem w_1890 : Cond.code yX2_goDark prog_4_method_8_code 1 none ∈ TB := tp_8 64 rfl rfl
theorem cw_X11_470 : Cw RX11 470 yX2_goDark cX2_goDark 1 none 0 := ⟨w_1887, w_1890, w_149, by decide +kernel, by decide +kernel, by decide⟩
theorem w_1888 : Cond.instanceMethod yX2_goDark ∈ TB := tp_8 62 (by decide +kernel) rfl
theorem w_1889 : Cond.selects "LedgerFiles$Disk" yX2_goDark yX2_goDark ∈ TB := tp_8 63 (by decide +kernel) rfl
set_option maxRecDepth 100000 in
set_option maxHeartbeats 4000000 in
theorem c_X11_crash (E : gE) (f : Nat → va_E) (tp : Nat → Int32) (fd : Nat) (mo : Int32) (hE : 350 ≤ gN E) (hm : MnV E f tp fd mo) (hfd : fd ≤ 1024) (N : Nat) (d : DkT) (on le wr ss : Int32) (hE1 : 350 + N ≤ gN E) (hN : N ≤ 1024) (hdv : DkV E f N d on le wr ss) (hdo : dOk N d) : Ct E 7 yX11_crash cX11_crash 1 none [.ref (gAd E (0))] f (fun v g => v = none ∧ ¬ on = 0 ∧ DkV E g N d 0 (-1) wr ss ∧ Fr (DkK N) f g, fun X g => X = "java/lang/IllegalStateException" ∧ f = g ∧ on = 0) := by
  have hdv2 : f 2 = .inr (2, [.int (nI N), .ref (gAd E 3), .ref (gAd E 4), .ref (gAd E 5), .ref (gAd E 6), .ref (gAd E 7), .int (nI d.2.2.2.2.2.1), .int (nI d.2.2.2.2.2.2), .int on, .int le, .int wr, .int ss]) := by obtain ⟨dw, dla, dbo, dsy, dva, da, dn⟩ := d; exact hdv.1
  have hdv3 : f 3 = oI (gDA E) N d.1 := by obtain ⟨dw, dla, dbo, dsy, dva, da, dn⟩ := d; exact hdv.2.1
  obtain ⟨m0, m1⟩ := id hm
  refine Ct.of (by decide) (Nat.le_of_ble_eq_true rfl) (fun sz => ?_)
  refine G.eql [(0, .ref (gAd E (0)))] rfl ?_
  refine G.go tv_X11_crash 1 1 [(0, .ref (gAd E (0)))] [.ref (gAd E (0))] rfl ?_
  refine G.callV (0) [] [] (c_X11_needPower E f tp fd mo hE hm hfd N d on le wr ss hE1 hN hdv hdo) cls_X11 (by omega) (m0) cw_X11_462 w_1876 w_41 (Nat.le_of_ble_eq_true rfl) rfl (Nat.le_of_ble_eq_true rfl) (tbd tv_X11_crash rfl) (fun v1 f1 q1 => ?_) (fun X g q => q)
  obtain ⟨rfl, rfl, q1⟩ := q1
  refine G.eqs [] rfl ?_
  refine G.go tv_X11_crash 1 5 [(0, .ref (gAd E (0)))] [.ref (gAd E (0))] rfl ?_
  refine G.getf cls_X11 (0) 3 (by omega) (m0) (by decide) rfl (tbd tv_X11_crash rfl) w_566 ?_
  refine G.callV (2) [] [] (c_dark E f N d on le wr ss hE1 hN hdv) cls_X2 (by omega) (hdv2) cw_X11_470 w_1888 w_1889 (Nat.le_of_ble_eq_true rfl) rfl (Nat.le_of_ble_eq_true rfl) (tbd tv_X11_crash rfl) (fun v2 f2 q2 => ?_) (fun _ _ h => h.elim)
  obtain ⟨rfl, a1, b1⟩ := q2
  refine G.eqs [] rfl ?_
  exact G.vret rfl (⟨rfl, q1, a1, b1⟩) (tbd tv_X11_crash rfl)
def tb_X11_restart : List (Nat × Instr × Nat) := [(0, .aload_n 0, 1), (1, .getfield 47, 3), (4, .getfield 144, 3), (7, .ifCond .eq 14, 3), (10, .new 147, 3), (13, .dup, 1), (14, .ldc_w 473, 3), (17, .invokespecial 151, 3), (20, .athrow, 1), (21, .aload_n 0, 1), (22, .iconst 0, 1), (23, .putfield 140, 3), (26, .aload_n 0, 1), (27, .getfield 56, 3), (30, .invokevirtual 475, 3), (33, .aload_n 0, 1), (34, .getfield 47, 3), (37, .lload_n 1, 1), (38, .invokevirtual 478, 3), (41, .ireturn, 1)]
theorem tv_X11_restart : Tv cX11_restart tb_X11_restart := by
  unfold Tv
  decide +kernel
set_option maxRecDepth 100000 in
set_option maxHeartbeats 4000000 in
theorem u_X11_restart (E : gE) (f : Nat → va_E) (tp : Nat → Int32) (fd : Nat) (mo : Int32) (hE : 350 ≤ gN E) (hm : MnV E f tp fd mo) (hfd : fd ≤ 1024) (N : Nat) (d : DkT) (on le wr ss : Int32) (hE1 : 350 + N ≤ gN E) (hN : N ≤ 1024) (hdv : DkV E f N d on le wr ss) (hdo : dOk N d) (hon : ¬ on = 0) (x : Int64) : Ct E 7 yX11_restart cX11_restart 3 (some .int) [.ref (gAd E (0)), .long (x)] f (fun v g => False, fun X g => X = "java/lang/IllegalStateException" ∧ f = g) := by
  have hdv2 : f 2 = .inr (2, [.int (nI N), .ref (gAd E 3), .ref (gAd E 4), .ref (gAd E 5), .ref (gAd E 6), .ref (gAd E 7), .int (nI d.2.2.2.2.2.1), .int (nI d.2.2.2.2.2.2), .int on, .int le, .int wr, .int ss]) := by obtain ⟨dw, dla, dbo, dsy, dva, da, dn⟩ := d; exact hdv.1
  have hdv3 : f 3 = oI (gDA E) N d.1 := by obtain ⟨dw, dla, dbo, dsy, dva, da, dn⟩ := d; exact hdv.2.1
  obtain ⟨m0, m1⟩ := id hm
  refine Ct.of (by decide) (Nat.le_of_ble_eq_true rfl) (fun sz => ?_)
  refine G.eql [(0, .ref (gAd E (0))), (1, .long (x))] rfl ?_
  refine G.go tv_X11_restart 1 1 [(0, .ref (gAd E (0))), (1, .long (x))] [.ref (gAd E (0))] rfl ?_
  refine G.getf cls_X11 (0) 3 (by omega) (m0) (by decide) rfl (tbd tv_X11_restart rfl) w_566 ?_
  refine G.getf cls_X2 (2) 8 (by omega) (hdv2) (by decide) rfl (tbd tv_X11_restart rfl) w_243 ?_
  refine G.if_eq 21 (tbd tv_X11_restart rfl) (by decide) (fun c7 => absurd c7 (hon)) (fun c7 => ?_)
  exact G.thrW (cls := "java/lang/IllegalStateException") (text := "the power is on") (names := ["java/lang/RuntimeException", "java/lang/Exception"]) (by decide +kernel) (by decide +kernel) w_646 w_165 (own := "LedgerFiles") rfl (by decide +kernel) (by decide +kernel) at_X11_151 (tbd tv_X11_restart rfl) (tbd tv_X11_restart rfl) (tbd tv_X11_restart rfl) (tbd tv_X11_restart rfl) (tbd tv_X11_restart rfl) (Nat.le_of_ble_eq_true rfl) (Nat.le_of_ble_eq_true rfl) (⟨rfl, rfl⟩)
/-- what count answers where nothing is mounted -/
def cntU (on he wr ss le pu : Int32) (bh fd : Nat) (x : Int32) : Int32 := if x = 6 then (if on = 0 then 0 else nI bh) else if x = 7 then he else if x = 8 then wr else if x = 9 then ss else if x = 10 then le else if x = 11 then pu else if x = 12 then nI fd else if x = 13 then 0 else if x = 14 then (if on = 0 then 0 else 1) else 0
theorem cnt_cases {x : Int32} (h1 : ¬ x ≤ 5) (h2 : x < 15) : x = 6 ∨ x = 7 ∨ x = 8 ∨ x = 9 ∨ x = 10 ∨ x = 11 ∨ x = 12 ∨ x = 13 ∨ x = 14 := by
  have h0 : ¬ x < 0 := fun q => h1 (Int32.le_of_lt (Int32.lt_of_lt_of_le q (by decide)))
  obtain ⟨t, ht, rfl⟩ := nI_of h0
  have a : ¬ t ≤ 5 := fun q => h1 (nI_le q (by omega) : nI t ≤ nI 5)
  have b : t < 15 := (nI_ltI (by omega) (by omega) : nI t < nI 15 ↔ t < 15).mp h2
  have e : t = 6 ∨ t = 7 ∨ t = 8 ∨ t = 9 ∨ t = 10 ∨ t = 11 ∨ t = 12 ∨ t = 13 ∨ t = 14 := by omega
  rcases e with rfl | rfl | rfl | rfl | rfl | rfl | rfl | rfl | rfl <;> simp [nI]
theorem cnt_out {x : Int32} (h : x ≤ 5 ∨ 15 ≤ x) {on he wr ss le pu : Int32} {bh fd : Nat} : cntU on he wr ss le pu bh fd x = 0 := by
  have n : ∀ y : Int32, 6 ≤ y → y ≤ 14 → ¬ x = y := by
    intro y h6 h14 e
    rw [e] at h
    rcases h with h | h
    · exact absurd (Int32.le_trans h6 h) (by decide)
    · exact absurd (Int32.le_trans h h14) (by decide)
  unfold cntU
  rw [if_neg (n 6 (by decide) (by decide)), if_neg (n 7 (by decide) (by decide)), if_neg (n 8 (by decide) (by decide)), if_neg (n 9 (by decide) (by decide)), if_neg (n 10 (by decide) (by decide)), if_neg (n 11 (by decide) (by decide)), if_neg (n 12 (by decide) (by decide)), if_neg (n 13 (by decide) (by decide)), if_neg (n 14 (by decide) (by decide))]
def tb_X11_count : List (Nat × Instr × Nat) := [(0, .iload_n 1, 1), (1, .ifCond .lt 9, 3), (4, .iload_n 1, 1), (5, .bipush 17, 2), (7, .if_icmp .le 14, 3), (10, .new 201, 3), (13, .dup, 1), (14, .ldc_w 510, 3), (17, .invokespecial 205, 3), (20, .athrow, 1), (21, .iload_n 1, 1), (22, .iconst 5, 1), (23, .if_icmp .le 9, 3), (26, .iload_n 1, 1), (27, .bipush 15, 2), (29, .if_icmp .lt 30, 3), (32, .aload_n 0, 1), (33, .getfield 140, 3), (36, .ifCond .eq 21, 3), (39, .aload_n 0, 1), (40, .getfield 47, 3), (43, .getfield 144, 3), (46, .ifCond .eq 11, 3), (49, .aload_n 0, 1), (50, .iload_n 1, 1), (51, .invokevirtual 512, 3), (54, .goto 4, 3), (57, .iconst 0, 1), (58, .ireturn, 1), (59, .iload_n 1, 1), (60, .tableswitch 138 6 13 #[48, 70, 78, 86, 94, 102, 110, 115], 48), (108, .aload_n 0, 1), (109, .getfield 47, 3), (112, .getfield 144, 3), (115, .ifCond .eq 13, 3), (118, .aload_n 0, 1), (119, .getfield 56, 3), (122, .getfield 445, 3), (125, .goto 4, 3), (128, .iconst 0, 1), (129, .ireturn, 1), (130, .aload_n 0, 1), (131, .getfield 47, 3), (134, .getfield 515, 3), (137, .ireturn, 1), (138, .aload_n 0, 1), (139, .getfield 47, 3), (142, .getfield 516, 3), (145, .ireturn, 1), (146, .aload_n 0, 1), (147, .getfield 47, 3), (150, .getfield 519, 3), (153, .ireturn, 1), (154, .aload_n 0, 1), (155, .getfield 47, 3), (158, .getfield 467, 3), (161, .ireturn, 1), (162, .aload_n 0, 1), (163, .getfield 56, 3), (166, .getfield 522, 3), (169, .ireturn, 1), (170, .aload_n 0, 1), (171, .getfield 134, 3), (174, .ireturn, 1), (175, .aload_n 0, 1), (176, .getfield 140, 3), (179, .ifCond .eq 17, 3), (182, .aload_n 0, 1), (183, .getfield 47, 3), (186, .getfield 144, 3), (189, .ifCond .eq 7, 3), (192, .iconst 1, 1), (193, .goto 4, 3), (196, .iconst 0, 1), (197, .ireturn, 1), (198, .aload_n 0, 1), (199, .getfield 47, 3), (202, .getfield 144, 3), (205, .ifCond .eq 7, 3), (208, .iconst 1, 1), (209, .goto 4, 3), (212, .iconst 0, 1), (213, .ireturn, 1)]
theorem tv_X11_count : Tv cX11_count tb_X11_count := by
  unfold Tv
  decide +kernel
theorem w_567 : Cond.fieldLink "LedgerFiles" 56 "LedgerFiles" "buffer" "LLedgerFiles$Buffer;" ∈ TB := tp_2 181 (by decide +kernel) rfl
theorem w_292 : Cond.fieldLink "LedgerFiles" 445 "LedgerFiles$Buffer" "held" "I" ∈ TB := tp_1 146 (by decide +kernel) rfl
theorem w_241 : Cond.fieldLink "LedgerFiles" 515 "LedgerFiles$Disk" "held" "I" ∈ TB := tp_1 95 (by decide +kernel) rfl
theorem w_247 : Cond.fieldLink "LedgerFiles" 516 "LedgerFiles$Disk" "writes" "I" ∈ TB := tp_1 101 (by decide +kernel) rfl
theorem w_249 : Cond.fieldLink "LedgerFiles" 519 "LedgerFiles$Disk" "syncs" "I" ∈ TB := tp_1 103 (by decide +kernel) rfl
theorem w_294 : Cond.fieldLink "LedgerFiles" 522 "LedgerFiles$Buffer" "pushedOut" "I" ∈ TB := tp_1 148 (by decide +kernel) rfl
set_option maxRecDepth 100000 in
set_option maxHeartbeats 4000000 in
theorem u_X11_count (E : gE) (f : Nat → va_E) (tp : Nat → Int32) (fd : Nat) (mo : Int32) (hE : 350 ≤ gN E) (hm : MnV E f tp fd mo) (hfd : fd ≤ 1024) (N : Nat) (d : DkT) (on le wr ss : Int32) (hE1 : 350 + N ≤ gN E) (hN : N ≤ 1024) (hdv : DkV E f N d on le wr ss) (hdo : dOk N d) (B : Nat) (b : BfT) (hbv : BfV E f N B b) (hun : ¬ (¬ mo = 0 ∧ ¬ on = 0)) (x : Int32) : Ct E 7 yX11_count cX11_count 2 (some .int) [.ref (gAd E (0)), .int (x)] f (fun v g => v = some (.int (cntU on (nI d.2.2.2.2.2.2) wr ss le b.2.2.2.2.2.2 b.2.2.2.2.2.1 fd x)) ∧ f = g, fun X g => X = "java/lang/IllegalArgumentException" ∧ f = g ∧ (x < 0 ∨ 17 < x)) := by
  have hdv2 : f 2 = .inr (2, [.int (nI N), .ref (gAd E 3), .ref (gAd E 4), .ref (gAd E 5), .ref (gAd E 6), .ref (gAd E 7), .int (nI d.2.2.2.2.2.1), .int (nI d.2.2.2.2.2.2), .int on, .int le, .int wr, .int ss]) := by obtain ⟨dw, dla, dbo, dsy, dva, da, dn⟩ := d; exact hdv.1
  have hdv3 : f 3 = oI (gDA E) N d.1 := by obtain ⟨dw, dla, dbo, dsy, dva, da, dn⟩ := d; exact hdv.2.1
  have hb8 : f 8 = .inr (0, [.ref (gAd E 2), .ref (gAd E 9), .ref (gAd E 10), .ref (gAd E 11), .ref (gAd E 12), .int (nI b.2.2.2.2.1), .int (nI b.2.2.2.2.2.1), .int b.2.2.2.2.2.2]) := by obtain ⟨so, bo, st, ro, sp, hd, pu⟩ := b; exact hbv.1
  obtain ⟨m0, m1⟩ := id hm
  refine Ct.of (by decide) (Nat.le_of_ble_eq_true rfl) (fun sz => ?_)
  refine G.eql [(0, .ref (gAd E (0))), (1, .int (x))] rfl ?_
  refine G.go tv_X11_count 1 1 [(0, .ref (gAd E (0))), (1, .int (x))] [.int (x)] rfl ?_
  refine G.if_lt 10 (tbd tv_X11_count rfl) (by decide) (fun c1 => ?_) (fun c1 => ?_)
  · skip
    exact G.thrW (cls := "java/lang/IllegalArgumentException") (text := "what is not 0 .. 17") (names := ["java/lang/RuntimeException", "java/lang/Exception"]) (by decide +kernel) (by decide +kernel) w_828 w_168 (own := "LedgerFiles") rfl (by decide +kernel) (by decide +kernel) at_X11_205 (tbd tv_X11_count rfl) (tbd tv_X11_count rfl) (tbd tv_X11_count rfl) (tbd tv_X11_count rfl) (tbd tv_X11_count rfl) (Nat.le_of_ble_eq_true rfl) (Nat.le_of_ble_eq_true rfl) (⟨rfl, rfl, by first | exact Or.inl c1 | exact Or.inr (Int32.not_le.mp c7)⟩)
  · skip
    refine G.go tv_X11_count 2 7 [(0, .ref (gAd E (0))), (1, .int (x))] [.int ((17 : Int32)), .int (x)] rfl ?_
    refine G.cmp_le 21 (tbd tv_X11_count rfl) (by decide) (fun c7 => ?_) (fun c7 => ?_)
    · skip
      refine G.go tv_X11_count 2 23 [(0, .ref (gAd E (0))), (1, .int (x))] [.int ((5 : Int32)), .int (x)] rfl ?_
      refine G.cmp_le 32 (tbd tv_X11_count rfl) (by decide) (fun c23 => ?_) (fun c23 => ?_)
      · skip
        refine G.go tv_X11_count 1 33 [(0, .ref (gAd E (0))), (1, .int (x))] [.ref (gAd E (0))] rfl ?_
        refine G.getf cls_X11 (0) 2 (by omega) (m0) (by decide) rfl (tbd tv_X11_count rfl) w_565 ?_
        refine G.if_eq 57 (tbd tv_X11_count rfl) (by decide) (fun c36 => ?_) (fun c36 => ?_)
        · skip
          refine G.go tv_X11_count 1 58 [(0, .ref (gAd E (0))), (1, .int (x))] [.int ((0 : Int32))] rfl ?_
          exact G.iret rfl rfl ⟨by rw [cnt_out (by first | exact Or.inl c23 | exact Or.inr (Int32.not_lt.mp c29))], rfl⟩ (tbd tv_X11_count rfl)
        · skip
          refine G.go tv_X11_count 1 40 [(0, .ref (gAd E (0))), (1, .int (x))] [.ref (gAd E (0))] rfl ?_
          refine G.getf cls_X11 (0) 3 (by omega) (m0) (by decide) rfl (tbd tv_X11_count rfl) w_566 ?_
          refine G.getf cls_X2 (2) 8 (by omega) (hdv2) (by decide) rfl (tbd tv_X11_count rfl) w_243 ?_
          refine G.if_eq 57 (tbd tv_X11_count rfl) (by decide) (fun c46 => ?_) (fun c46 => ?_)
          · skip
            refine G.go tv_X11_count 1 58 [(0, .ref (gAd E (0))), (1, .int (x))] [.int ((0 : Int32))] rfl ?_
            exact G.iret rfl rfl ⟨by rw [cnt_out (by first | exact Or.inl c23 | exact Or.inr (Int32.not_lt.mp c29))], rfl⟩ (tbd tv_X11_count rfl)
          · skip
            refine G.go tv_X11_count 2 51 [(0, .ref (gAd E (0))), (1, .int (x))] [.int (x), .ref (gAd E (0))] rfl ?_
            exact absurd ⟨c36, c46⟩ hun
      · skip
        refine G.go tv_X11_count 2 29 [(0, .ref (gAd E (0))), (1, .int (x))] [.int ((15 : Int32)), .int (x)] rfl ?_
        refine G.cmp_lt 59 (tbd tv_X11_count rfl) (by decide) (fun c29 => ?_) (fun c29 => ?_)
        · skip
          refine G.go tv_X11_count 1 60 [(0, .ref (gAd E (0))), (1, .int (x))] [.int (x)] rfl ?_
          rcases (cnt_cases c23 c29) with rfl | rfl | rfl | rfl | rfl | rfl | rfl | rfl | rfl
          · skip
            refine G.tswI 108 (48) (tbd tv_X11_count rfl) (by decide) (by decide) (by decide) (by decide) ?_
            refine G.go tv_X11_count 1 109 [(0, .ref (gAd E (0))), (1, .int ((6 : Int32)))] [.ref (gAd E (0))] rfl ?_
            refine G.getf cls_X11 (0) 3 (by omega) (m0) (by decide) rfl (tbd tv_X11_count rfl) w_566 ?_
            refine G.getf cls_X2 (2) 8 (by omega) (hdv2) (by decide) rfl (tbd tv_X11_count rfl) w_243 ?_
            refine G.if_eq 128 (tbd tv_X11_count rfl) (by decide) (fun c115 => ?_) (fun c115 => ?_)
            · skip
              refine G.go tv_X11_count 1 129 [(0, .ref (gAd E (0))), (1, .int ((6 : Int32)))] [.int ((0 : Int32))] rfl ?_
              exact G.iret rfl rfl ⟨by simp [cntU, c115], rfl⟩ (tbd tv_X11_count rfl)
            · skip
              refine G.go tv_X11_count 1 119 [(0, .ref (gAd E (0))), (1, .int ((6 : Int32)))] [.ref (gAd E (0))] rfl ?_
              refine G.getf cls_X11 (0) 4 (by omega) (m0) (by decide) rfl (tbd tv_X11_count rfl) w_567 ?_
              refine G.getf cls_X0 (8) 6 (by omega) (hb8) (by decide) rfl (tbd tv_X11_count rfl) w_292 ?_
              refine G.go tv_X11_count 1 129 [(0, .ref (gAd E (0))), (1, .int ((6 : Int32)))] [.int (nI b.2.2.2.2.2.1)] rfl ?_
              exact G.iret rfl rfl ⟨by simp [cntU, c115], rfl⟩ (tbd tv_X11_count rfl)
          · skip
            refine G.tswI 130 (70) (tbd tv_X11_count rfl) (by decide) (by decide) (by decide) (by decide) ?_
            refine G.go tv_X11_count 1 131 [(0, .ref (gAd E (0))), (1, .int ((7 : Int32)))] [.ref (gAd E (0))] rfl ?_
            refine G.getf cls_X11 (0) 3 (by omega) (m0) (by decide) rfl (tbd tv_X11_count rfl) w_566 ?_
            refine G.getf cls_X2 (2) 7 (by omega) (hdv2) (by decide) rfl (tbd tv_X11_count rfl) w_241 ?_
            exact G.iret rfl rfl ⟨by simp [cntU], rfl⟩ (tbd tv_X11_count rfl)
          · skip
            refine G.tswI 138 (78) (tbd tv_X11_count rfl) (by decide) (by decide) (by decide) (by decide) ?_
            refine G.go tv_X11_count 1 139 [(0, .ref (gAd E (0))), (1, .int ((8 : Int32)))] [.ref (gAd E (0))] rfl ?_
            refine G.getf cls_X11 (0) 3 (by omega) (m0) (by decide) rfl (tbd tv_X11_count rfl) w_566 ?_
            refine G.getf cls_X2 (2) 10 (by omega) (hdv2) (by decide) rfl (tbd tv_X11_count rfl) w_247 ?_
            exact G.iret rfl rfl ⟨by simp [cntU], rfl⟩ (tbd tv_X11_count rfl)
          · skip
            refine G.tswI 146 (86) (tbd tv_X11_count rfl) (by decide) (by decide) (by decide) (by decide) ?_
            refine G.go tv_X11_count 1 147 [(0, .ref (gAd E (0))), (1, .int ((9 : Int32)))] [.ref (gAd E (0))] rfl ?_
            refine G.getf cls_X11 (0) 3 (by omega) (m0) (by decide) rfl (tbd tv_X11_count rfl) w_566 ?_
            refine G.getf cls_X2 (2) 11 (by omega) (hdv2) (by decide) rfl (tbd tv_X11_count rfl) w_249 ?_
            exact G.iret rfl rfl ⟨by simp [cntU], rfl⟩ (tbd tv_X11_count rfl)
          · skip
            refine G.tswI 154 (94) (tbd tv_X11_count rfl) (by decide) (by decide) (by decide) (by decide) ?_
            refine G.go tv_X11_count 1 155 [(0, .ref (gAd E (0))), (1, .int ((10 : Int32)))] [.ref (gAd E (0))] rfl ?_
            refine G.getf cls_X11 (0) 3 (by omega) (m0) (by decide) rfl (tbd tv_X11_count rfl) w_566 ?_
            refine G.getf cls_X2 (2) 9 (by omega) (hdv2) (by decide) rfl (tbd tv_X11_count rfl) w_245 ?_
            exact G.iret rfl rfl ⟨by simp [cntU], rfl⟩ (tbd tv_X11_count rfl)
          · skip
            refine G.tswI 162 (102) (tbd tv_X11_count rfl) (by decide) (by decide) (by decide) (by decide) ?_
            refine G.go tv_X11_count 1 163 [(0, .ref (gAd E (0))), (1, .int ((11 : Int32)))] [.ref (gAd E (0))] rfl ?_
            refine G.getf cls_X11 (0) 4 (by omega) (m0) (by decide) rfl (tbd tv_X11_count rfl) w_567 ?_
            refine G.getf cls_X0 (8) 7 (by omega) (hb8) (by decide) rfl (tbd tv_X11_count rfl) w_294 ?_
            exact G.iret rfl rfl ⟨by simp [cntU], rfl⟩ (tbd tv_X11_count rfl)
          · skip
            refine G.tswI 170 (110) (tbd tv_X11_count rfl) (by decide) (by decide) (by decide) (by decide) ?_
            refine G.go tv_X11_count 1 171 [(0, .ref (gAd E (0))), (1, .int ((12 : Int32)))] [.ref (gAd E (0))] rfl ?_
            refine G.getf cls_X11 (0) 1 (by omega) (m0) (by decide) rfl (tbd tv_X11_count rfl) w_564 ?_
            exact G.iret rfl rfl ⟨by simp [cntU], rfl⟩ (tbd tv_X11_count rfl)
          · skip
            refine G.tswI 175 (115) (tbd tv_X11_count rfl) (by decide) (by decide) (by decide) (by decide) ?_
            refine G.go tv_X11_count 1 176 [(0, .ref (gAd E (0))), (1, .int ((13 : Int32)))] [.ref (gAd E (0))] rfl ?_
            refine G.getf cls_X11 (0) 2 (by omega) (m0) (by decide) rfl (tbd tv_X11_count rfl) w_565 ?_
            refine G.if_eq 196 (tbd tv_X11_count rfl) (by decide) (fun c179 => ?_) (fun c179 => ?_)
            · skip
              refine G.go tv_X11_count 1 197 [(0, .ref (gAd E (0))), (1, .int ((13 : Int32)))] [.int ((0 : Int32))] rfl ?_
              exact G.iret rfl rfl ⟨by simp [cntU], rfl⟩ (tbd tv_X11_count rfl)
            · skip
              refine G.go tv_X11_count 1 183 [(0, .ref (gAd E (0))), (1, .int ((13 : Int32)))] [.ref (gAd E (0))] rfl ?_
              refine G.getf cls_X11 (0) 3 (by omega) (m0) (by decide) rfl (tbd tv_X11_count rfl) w_566 ?_
              refine G.getf cls_X2 (2) 8 (by omega) (hdv2) (by decide) rfl (tbd tv_X11_count rfl) w_243 ?_
              refine G.if_eq 196 (tbd tv_X11_count rfl) (by decide) (fun c189 => ?_) (fun c189 => absurd (Classical.byContradiction (fun q => hun ⟨c179, q⟩)) c189)
              refine G.go tv_X11_count 1 197 [(0, .ref (gAd E (0))), (1, .int ((13 : Int32)))] [.int ((0 : Int32))] rfl ?_
              exact G.iret rfl rfl ⟨by simp [cntU], rfl⟩ (tbd tv_X11_count rfl)
          · skip
            refine G.tswO 198 (tbd tv_X11_count rfl) (by decide) (by decide) ?_
            refine G.go tv_X11_count 1 199 [(0, .ref (gAd E (0))), (1, .int ((14 : Int32)))] [.ref (gAd E (0))] rfl ?_
            refine G.getf cls_X11 (0) 3 (by omega) (m0) (by decide) rfl (tbd tv_X11_count rfl) w_566 ?_
            refine G.getf cls_X2 (2) 8 (by omega) (hdv2) (by decide) rfl (tbd tv_X11_count rfl) w_243 ?_
            refine G.if_eq 212 (tbd tv_X11_count rfl) (by decide) (fun c205 => ?_) (fun c205 => ?_)
            · skip
              refine G.go tv_X11_count 1 213 [(0, .ref (gAd E (0))), (1, .int ((14 : Int32)))] [.int ((0 : Int32))] rfl ?_
              exact G.iret rfl rfl ⟨by simp [cntU, c205], rfl⟩ (tbd tv_X11_count rfl)
            · skip
              refine G.go tv_X11_count 2 213 [(0, .ref (gAd E (0))), (1, .int ((14 : Int32)))] [.int ((1 : Int32))] rfl ?_
              exact G.iret rfl rfl ⟨by simp [cntU, c205], rfl⟩ (tbd tv_X11_count rfl)
        · skip
          refine G.go tv_X11_count 1 33 [(0, .ref (gAd E (0))), (1, .int (x))] [.ref (gAd E (0))] rfl ?_
          refine G.getf cls_X11 (0) 2 (by omega) (m0) (by decide) rfl (tbd tv_X11_count rfl) w_565 ?_
          refine G.if_eq 57 (tbd tv_X11_count rfl) (by decide) (fun c36 => ?_) (fun c36 => ?_)
          · skip
            refine G.go tv_X11_count 1 58 [(0, .ref (gAd E (0))), (1, .int (x))] [.int ((0 : Int32))] rfl ?_
            exact G.iret rfl rfl ⟨by rw [cnt_out (by first | exact Or.inl c23 | exact Or.inr (Int32.not_lt.mp c29))], rfl⟩ (tbd tv_X11_count rfl)
          · skip
            refine G.go tv_X11_count 1 40 [(0, .ref (gAd E (0))), (1, .int (x))] [.ref (gAd E (0))] rfl ?_
            refine G.getf cls_X11 (0) 3 (by omega) (m0) (by decide) rfl (tbd tv_X11_count rfl) w_566 ?_
            refine G.getf cls_X2 (2) 8 (by omega) (hdv2) (by decide) rfl (tbd tv_X11_count rfl) w_243 ?_
            refine G.if_eq 57 (tbd tv_X11_count rfl) (by decide) (fun c46 => ?_) (fun c46 => ?_)
            · skip
              refine G.go tv_X11_count 1 58 [(0, .ref (gAd E (0))), (1, .int (x))] [.int ((0 : Int32))] rfl ?_
              exact G.iret rfl rfl ⟨by rw [cnt_out (by first | exact Or.inl c23 | exact Or.inr (Int32.not_lt.mp c29))], rfl⟩ (tbd tv_X11_count rfl)
            · skip
              refine G.go tv_X11_count 2 51 [(0, .ref (gAd E (0))), (1, .int (x))] [.int (x), .ref (gAd E (0))] rfl ?_
              exact absurd ⟨c36, c46⟩ hun
    · skip
      exact G.thrW (cls := "java/lang/IllegalArgumentException") (text := "what is not 0 .. 17") (names := ["java/lang/RuntimeException", "java/lang/Exception"]) (by decide +kernel) (by decide +kernel) w_828 w_168 (own := "LedgerFiles") rfl (by decide +kernel) (by decide +kernel) at_X11_205 (tbd tv_X11_count rfl) (tbd tv_X11_count rfl) (tbd tv_X11_count rfl) (tbd tv_X11_count rfl) (tbd tv_X11_count rfl) (Nat.le_of_ble_eq_true rfl) (Nat.le_of_ble_eq_true rfl) (⟨rfl, rfl, by first | exact Or.inl c1 | exact Or.inr (Int32.not_le.mp c7)⟩)
