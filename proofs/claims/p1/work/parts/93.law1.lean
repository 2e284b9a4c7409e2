abbrev xI : String := "java/lang/IllegalStateException"
abbrev xU : String := "java/lang/UnsupportedOperationException"
abbrev xA : String := "java/lang/IllegalArgumentException"
abbrev xN : String := "java/util/NoSuchElementException"
theorem w_635 : Cond.codeWith yL_format method_3_code 3 (some .int) [(0, 8, 11, 13), (0, 8, 14, 15) ] ∈ TB := tp_3 9 (by decide +kernel) rfl
theorem w_636 : Cond.classLink "LedgerFilesLaw" 13 "java/lang/IllegalStateException" ∈ TB := tp_3 10 (by decide +kernel) rfl
theorem w_637 : Cond.classLink "LedgerFilesLaw" 15 "java/lang/UnsupportedOperationException" ∈ TB := tp_3 11 (by decide +kernel) rfl
def tb_L_format : List (Nat × Instr × Nat) := [(0, .aload_n 1, 1), (1, .iconst 0, 1), (2, .aload_n 0, 1), (3, .invokevirtual 7, 3), (6, .i2l, 1), (7, .lastore, 1), (8, .goto 9, 3), (11, .astore_n 2, 1), (12, .iconst 1, 1), (13, .ireturn, 1), (14, .astore_n 2, 1), (15, .iconst 2, 1), (16, .ireturn, 1), (17, .iconst 0, 1), (18, .ireturn, 1)]
theorem tv_L_format : Tv cL_format tb_L_format := by
  unfold Tv
  decide +kernel
theorem w_638 : Cond.methodLink "LedgerFilesLaw" 7 yX11_format ∈ TB := tp_3 12 (by decide +kernel) rfl
theorem w_641 : Cond.code yX11_format prog_1_method_8_code 3 (some .int) ∈ TB := tp_3 15 rfl rfl
theorem cw_L_7 : Cw RL 7 yX11_format cX11_format 3 (some .int) 0 := ⟨w_638, w_641, w_147, by decide +kernel, by decide +kernel, by decide⟩
theorem w_639 : Cond.instanceMethod yX11_format ∈ TB := tp_3 13 (by decide +kernel) rfl
theorem w_640 : Cond.selects "LedgerFiles" yX11_format yX11_format ∈ TB := tp_3 14 (by decide +kernel) rfl
set_option maxRecDepth 100000 in
set_option maxHeartbeats 4000000 in
theorem h_L_format (E : gE) (f : Nat → va_E) (hE : 94 ≤ gN E) {Q' : gQ} {h' : Nat}  (hM : Ct E h' yX11_format cX11_format 3 (some .int) [.ref (gAd E (0))] f Q') (hh : h' ≤ 110) {fs : List Value} (h0 : f 0 = .inr (11, fs)) (hn : ∀ v g, Q'.1 v g → ∃ (x : Int32) (o : Nat → Int64), v = some (.int x) ∧ g 93 = oJ (gDA E) 1 o) (hx : ∀ X g, Q'.2 X g → X = xI ∨ X = xU) : Ch E 120 yL_format cL_format 3 (some .int) [(0, 8, 11, 13), (0, 8, 14, 15)] [.ref (gAd E (0)), .ref (gAd E (93))] f (fun v g => (v = some (.int 0) ∧ ∃ x o g0, Q'.1 (some (.int x)) g0 ∧ g0 93 = oJ (gDA E) 1 o ∧ g = va_up g0 93 (oJ (gDA E) 1 (vp_updL o 0 x.toInt64))) ∨ (v = some (.int 1) ∧ Q'.2 xI g) ∨ (v = some (.int 2) ∧ Q'.2 xU g)) := by
  refine Ch.of (by decide) (by decide) (Nat.le_of_ble_eq_true rfl) (fun sz => ?_)
  refine G.eql [(0, .ref (gAd E (0))), (1, .ref (gAd E (93)))] rfl ?_
  refine G.go tv_L_format 3 3 [(0, .ref (gAd E (0))), (1, .ref (gAd E (93)))] [.ref (gAd E (0)), .int ((0 : Int32)), .ref (gAd E (93))] rfl ?_
  refine G.callVC 0 [] [.int ((0 : Int32)), .ref (gAd E (93))] hM cls_X11 (by omega) h0 cw_L_7 w_639 w_640 (by omega) rfl (Nat.le_of_ble_eq_true rfl) (tbd tv_L_format rfl) w_635 (fun v g q => ?_) (fun X g q => ?_)
  · skip
    obtain ⟨x, o, rfl, e93⟩ := hn v g q
    refine G.eqs [.int (x), .int ((0 : Int32)), .ref (gAd E (93))] rfl ?_
    refine G.go tv_L_format 1 7 [(0, .ref (gAd E (0))), (1, .ref (gAd E (93)))] [.long ((x : Int32).toInt64), .int ((0 : Int32)), .ref (gAd E (93))] rfl ?_
    refine G.eqs [.long ((x : Int32).toInt64), .int (nI (0)), .ref (gAd E (93))] (by rw [show (0 : Int32) = nI 0 from rfl]) ?_
    refine G.lastN (93) (0) (by omega) (e93) (by decide) (by decide) (tbd tv_L_format rfl) ?_
    refine G.go tv_L_format 2 18 [(0, .ref (gAd E (0))), (1, .ref (gAd E (93)))] [.int ((0 : Int32))] rfl ?_
    exact G.iretH rfl rfl (Or.inl ⟨rfl, x, o, g, q, e93, rfl⟩) (by decide) (by decide) (tbd tv_L_format rfl)
  · rcases hx X g q with rfl | rfl
    · refine ⟨11, ⟨by decide +kernel, (tableOf [(0, 8, 11, 13), (0, 8, 14, 15)]).take 0, (tableOf [(0, 8, 11, 13), (0, 8, 14, 15)])[0]'(by decide), (tableOf [(0, 8, 11, 13), (0, 8, 14, 15)]).drop 1, rfl, (fun z hz => nomatch hz), by decide, by decide, w_636, rfl⟩, fun r => ?_⟩
      refine G.go tv_L_format 2 13 [(0, .ref (gAd E (0))), (1, .ref (gAd E (93))), (2, .ref (r))] [.int ((1 : Int32))] rfl ?_
      exact G.iretH rfl rfl (Or.inr (Or.inl ⟨rfl, q⟩)) (by decide) (by decide) (tbd tv_L_format rfl)
    · refine ⟨14, ⟨by decide +kernel, (tableOf [(0, 8, 11, 13), (0, 8, 14, 15)]).take 1, (tableOf [(0, 8, 11, 13), (0, 8, 14, 15)])[1]'(by decide), (tableOf [(0, 8, 11, 13), (0, 8, 14, 15)]).drop 2, rfl, (fun z hz => by
        simp only [tableOf, List.map, List.take, List.mem_cons, List.not_mem_nil, or_false] at hz
        rcases hz with rfl
        · exact ⟨by decide, xI, by decide +kernel, by decide +kernel, w_636⟩), by decide, by decide, w_637, rfl⟩, fun r => ?_⟩
      refine G.go tv_L_format 2 16 [(0, .ref (gAd E (0))), (1, .ref (gAd E (93))), (2, .ref (r))] [.int ((2 : Int32))] rfl ?_
      exact G.iretH rfl rfl (Or.inr (Or.inr (⟨rfl, q⟩))) (by decide) (by decide) (tbd tv_L_format rfl)
theorem w_818 : Cond.codeWith yL_mount method_4_code 3 (some .int) [(0, 8, 11, 13), (0, 8, 14, 15) , (0, 8, 17, 20) ] ∈ TB := tp_3 192 (by decide +kernel) rfl
theorem w_819 : Cond.classLink "LedgerFilesLaw" 20 "java/lang/IllegalArgumentException" ∈ TB := tp_3 193 (by decide +kernel) rfl
def tb_L_mount : List (Nat × Instr × Nat) := [(0, .aload_n 1, 1), (1, .iconst 0, 1), (2, .aload_n 0, 1), (3, .invokevirtual 17, 3), (6, .i2l, 1), (7, .lastore, 1), (8, .goto 12, 3), (11, .astore_n 2, 1), (12, .iconst 1, 1), (13, .ireturn, 1), (14, .astore_n 2, 1), (15, .iconst 2, 1), (16, .ireturn, 1), (17, .astore_n 2, 1), (18, .iconst 3, 1), (19, .ireturn, 1), (20, .iconst 0, 1), (21, .ireturn, 1)]
theorem tv_L_mount : Tv cL_mount tb_L_mount := by
  unfold Tv
  decide +kernel
theorem w_820 : Cond.methodLink "LedgerFilesLaw" 17 yX11_mount ∈ TB := tp_3 194 (by decide +kernel) rfl
theorem w_823 : Cond.code yX11_mount prog_1_method_11_code 2 (some .int) ∈ TB := tp_3 197 rfl rfl
theorem cw_L_17 : Cw RL 17 yX11_mount cX11_mount 2 (some .int) 0 := ⟨w_820, w_823, w_147, by decide +kernel, by decide +kernel, by decide⟩
theorem w_821 : Cond.instanceMethod yX11_mount ∈ TB := tp_3 195 (by decide +kernel) rfl
theorem w_822 : Cond.selects "LedgerFiles" yX11_mount yX11_mount ∈ TB := tp_3 196 (by decide +kernel) rfl
set_option maxRecDepth 100000 in
set_option maxHeartbeats 4000000 in
theorem h_L_mount (E : gE) (f : Nat → va_E) (hE : 94 ≤ gN E) {Q' : gQ} {h' : Nat}  (hM : Ct E h' yX11_mount cX11_mount 2 (some .int) [.ref (gAd E (0))] f Q') (hh : h' ≤ 110) {fs : List Value} (h0 : f 0 = .inr (11, fs)) (hn : ∀ v g, Q'.1 v g → ∃ (x : Int32) (o : Nat → Int64), v = some (.int x) ∧ g 93 = oJ (gDA E) 1 o) (hx : ∀ X g, Q'.2 X g → X = xI ∨ X = xU ∨ X = xA) : Ch E 120 yL_mount cL_mount 3 (some .int) [(0, 8, 11, 13), (0, 8, 14, 15), (0, 8, 17, 20)] [.ref (gAd E (0)), .ref (gAd E (93))] f (fun v g => (v = some (.int 0) ∧ ∃ x o g0, Q'.1 (some (.int x)) g0 ∧ g0 93 = oJ (gDA E) 1 o ∧ g = va_up g0 93 (oJ (gDA E) 1 (vp_updL o 0 x.toInt64))) ∨ (v = some (.int 1) ∧ Q'.2 xI g) ∨ (v = some (.int 2) ∧ Q'.2 xU g) ∨ (v = some (.int 3) ∧ Q'.2 xA g)) := by
  refine Ch.of (by decide) (by decide) (Nat.le_of_ble_eq_true rfl) (fun sz => ?_)
  refine G.eql [(0, .ref (gAd E (0))), (1, .ref (gAd E (93)))] rfl ?_
  refine G.go tv_L_mount 3 3 [(0, .ref (gAd E (0))), (1, .ref (gAd E (93)))] [.ref (gAd E (0)), .int ((0 : Int32)), .ref (gAd E (93))] rfl ?_
  refine G.callVC 0 [] [.int ((0 : Int32)), .ref (gAd E (93))] hM cls_X11 (by omega) h0 cw_L_17 w_821 w_822 (by omega) rfl (Nat.le_of_ble_eq_true rfl) (tbd tv_L_mount rfl) w_818 (fun v g q => ?_) (fun X g q => ?_)
  · skip
    obtain ⟨x, o, rfl, e93⟩ := hn v g q
    refine G.eqs [.int (x), .int ((0 : Int32)), .ref (gAd E (93))] rfl ?_
    refine G.go tv_L_mount 1 7 [(0, .ref (gAd E (0))), (1, .ref (gAd E (93)))] [.long ((x : Int32).toInt64), .int ((0 : Int32)), .ref (gAd E (93))] rfl ?_
    refine G.eqs [.long ((x : Int32).toInt64), .int (nI (0)), .ref (gAd E (93))] (by rw [show (0 : Int32) = nI 0 from rfl]) ?_
    refine G.lastN (93) (0) (by omega) (e93) (by decide) (by decide) (tbd tv_L_mount rfl) ?_
    refine G.go tv_L_mount 2 21 [(0, .ref (gAd E (0))), (1, .ref (gAd E (93)))] [.int ((0 : Int32))] rfl ?_
    exact G.iretH rfl rfl (Or.inl ⟨rfl, x, o, g, q, e93, rfl⟩) (by decide) (by decide) (tbd tv_L_mount rfl)
  · rcases hx X g q with rfl | rfl | rfl
    · refine ⟨11, ⟨by decide +kernel, (tableOf [(0, 8, 11, 13), (0, 8, 14, 15), (0, 8, 17, 20)]).take 0, (tableOf [(0, 8, 11, 13), (0, 8, 14, 15), (0, 8, 17, 20)])[0]'(by decide), (tableOf [(0, 8, 11, 13), (0, 8, 14, 15), (0, 8, 17, 20)]).drop 1, rfl, (fun z hz => nomatch hz), by decide, by decide, w_636, rfl⟩, fun r => ?_⟩
      refine G.go tv_L_mount 2 13 [(0, .ref (gAd E (0))), (1, .ref (gAd E (93))), (2, .ref (r))] [.int ((1 : Int32))] rfl ?_
      exact G.iretH rfl rfl (Or.inr (Or.inl ⟨rfl, q⟩)) (by decide) (by decide) (tbd tv_L_mount rfl)
    · refine ⟨14, ⟨by decide +kernel, (tableOf [(0, 8, 11, 13), (0, 8, 14, 15), (0, 8, 17, 20)]).take 1, (tableOf [(0, 8, 11, 13), (0, 8, 14, 15), (0, 8, 17, 20)])[1]'(by decide), (tableOf [(0, 8, 11, 13), (0, 8, 14, 15), (0, 8, 17, 20)]).drop 2, rfl, (fun z hz => by
        simp only [tableOf, List.map, List.take, List.mem_cons, List.not_mem_nil, or_false] at hz
        rcases hz with rfl
        · exact ⟨by decide, xI, by decide +kernel, by decide +kernel, w_636⟩), by decide, by decide, w_637, rfl⟩, fun r => ?_⟩
      refine G.go tv_L_mount 2 16 [(0, .ref (gAd E (0))), (1, .ref (gAd E (93))), (2, .ref (r))] [.int ((2 : Int32))] rfl ?_
      exact G.iretH rfl rfl (Or.inr (Or.inr (Or.inl ⟨rfl, q⟩))) (by decide) (by decide) (tbd tv_L_mount rfl)
    · refine ⟨17, ⟨by decide +kernel, (tableOf [(0, 8, 11, 13), (0, 8, 14, 15), (0, 8, 17, 20)]).take 2, (tableOf [(0, 8, 11, 13), (0, 8, 14, 15), (0, 8, 17, 20)])[2]'(by decide), (tableOf [(0, 8, 11, 13), (0, 8, 14, 15), (0, 8, 17, 20)]).drop 3, rfl, (fun z hz => by
        simp only [tableOf, List.map, List.take, List.mem_cons, List.not_mem_nil, or_false] at hz
        rcases hz with rfl | rfl
        · exact ⟨by decide, xI, by decide +kernel, by decide +kernel, w_636⟩
        · exact ⟨by decide, xU, by decide +kernel, by decide +kernel, w_637⟩), by decide, by decide, w_819, rfl⟩, fun r => ?_⟩
      refine G.go tv_L_mount 2 19 [(0, .ref (gAd E (0))), (1, .ref (gAd E (93))), (2, .ref (r))] [.int ((3 : Int32))] rfl ?_
      exact G.iretH rfl rfl (Or.inr (Or.inr (Or.inr (⟨rfl, q⟩)))) (by decide) (by decide) (tbd tv_L_mount rfl)
theorem w_1313 : Cond.codeWith yL_unmount method_5_code 2 (some .int) [(0, 4, 7, 13), (0, 4, 10, 15) ] ∈ TB := tp_5 207 (by decide +kernel) rfl
def tb_L_unmount : List (Nat × Instr × Nat) := [(0, .aload_n 0, 1), (1, .invokevirtual 22, 3), (4, .goto 9, 3), (7, .astore_n 1, 1), (8, .iconst 1, 1), (9, .ireturn, 1), (10, .astore_n 1, 1), (11, .iconst 2, 1), (12, .ireturn, 1), (13, .iconst 0, 1), (14, .ireturn, 1)]
theorem tv_L_unmount : Tv cL_unmount tb_L_unmount := by
  unfold Tv
  decide +kernel
theorem w_1314 : Cond.methodLink "LedgerFilesLaw" 22 yX11_unmount ∈ TB := tp_5 208 (by decide +kernel) rfl
theorem w_1317 : Cond.code yX11_unmount prog_1_method_12_code 1 none ∈ TB := tp_5 211 rfl rfl
theorem cw_L_22 : Cw RL 22 yX11_unmount cX11_unmount 1 none 0 := ⟨w_1314, w_1317, w_147, by decide +kernel, by decide +kernel, by decide⟩
theorem w_1315 : Cond.instanceMethod yX11_unmount ∈ TB := tp_5 209 (by decide +kernel) rfl
theorem w_1316 : Cond.selects "LedgerFiles" yX11_unmount yX11_unmount ∈ TB := tp_5 210 (by decide +kernel) rfl
set_option maxRecDepth 100000 in
set_option maxHeartbeats 4000000 in
theorem h_L_unmount (E : gE) (f : Nat → va_E) (hE : 94 ≤ gN E) {Q' : gQ} {h' : Nat}  (hM : Ct E h' yX11_unmount cX11_unmount 1 none [.ref (gAd E (0))] f Q') (hh : h' ≤ 110) {fs : List Value} (h0 : f 0 = .inr (11, fs)) (hn : ∀ v g, Q'.1 v g → v = none) (hx : ∀ X g, Q'.2 X g → X = xI ∨ X = xU) : Ch E 120 yL_unmount cL_unmount 2 (some .int) [(0, 4, 7, 13), (0, 4, 10, 15)] [.ref (gAd E (0))] f (fun v g => (v = some (.int 0) ∧ Q'.1 none g) ∨ (v = some (.int 1) ∧ Q'.2 xI g) ∨ (v = some (.int 2) ∧ Q'.2 xU g)) := by
  refine Ch.of (by decide) (by decide) (Nat.le_of_ble_eq_true rfl) (fun sz => ?_)
  refine G.eql [(0, .ref (gAd E (0)))] rfl ?_
  refine G.go tv_L_unmount 1 1 [(0, .ref (gAd E (0)))] [.ref (gAd E (0))] rfl ?_
  refine G.callVC 0 [] [] hM cls_X11 (by omega) h0 cw_L_22 w_1315 w_1316 (by omega) rfl (Nat.le_of_ble_eq_true rfl) (tbd tv_L_unmount rfl) w_1313 (fun v g q => ?_) (fun X g q => ?_)
  · skip
    obtain rfl := hn v g q
    refine G.eqs [] rfl ?_
    refine G.go tv_L_unmount 2 14 [(0, .ref (gAd E (0)))] [.int ((0 : Int32))] rfl ?_
    exact G.iretH rfl rfl (Or.inl ⟨rfl, q⟩) (by decide) (by decide) (tbd tv_L_unmount rfl)
  · rcases hx X g q with rfl | rfl
    · refine ⟨7, ⟨by decide +kernel, (tableOf [(0, 4, 7, 13), (0, 4, 10, 15)]).take 0, (tableOf [(0, 4, 7, 13), (0, 4, 10, 15)])[0]'(by decide), (tableOf [(0, 4, 7, 13), (0, 4, 10, 15)]).drop 1, rfl, (fun z hz => nomatch hz), by decide, by decide, w_636, rfl⟩, fun r => ?_⟩
      refine G.go tv_L_unmount 2 9 [(0, .ref (gAd E (0))), (1, .ref (r))] [.int ((1 : Int32))] rfl ?_
      exact G.iretH rfl rfl (Or.inr (Or.inl ⟨rfl, q⟩)) (by decide) (by decide) (tbd tv_L_unmount rfl)
    · refine ⟨10, ⟨by decide +kernel, (tableOf [(0, 4, 7, 13), (0, 4, 10, 15)]).take 1, (tableOf [(0, 4, 7, 13), (0, 4, 10, 15)])[1]'(by decide), (tableOf [(0, 4, 7, 13), (0, 4, 10, 15)]).drop 2, rfl, (fun z hz => by
        simp only [tableOf, List.map, List.take, List.mem_cons, List.not_mem_nil, or_false] at hz
        rcases hz with rfl
        · exact ⟨by decide, xI, by decide +kernel, by decide +kernel, w_636⟩), by decide, by decide, w_637, rfl⟩, fun r => ?_⟩
      refine G.go tv_L_unmount 2 12 [(0, .ref (gAd E (0))), (1, .ref (r))] [.int ((2 : Int32))] rfl ?_
      exact G.iretH rfl rfl (Or.inr (Or.inr (⟨rfl, q⟩))) (by decide) (by decide) (tbd tv_L_unmount rfl)
theorem w_1336 : Cond.codeWith yL_make method_6_code 4 (some .int) [(0, 9, 12, 13), (0, 9, 15, 15) ] ∈ TB := tp_5 230 (by decide +kernel) rfl
def tb_L_make : List (Nat × Instr × Nat) := [(0, .aload_n 2, 1), (1, .iconst 0, 1), (2, .aload_n 0, 1), (3, .iload_n 1, 1), (4, .invokevirtual 25, 3), (7, .i2l, 1), (8, .lastore, 1), (9, .goto 9, 3), (12, .astore_n 3, 1), (13, .iconst 1, 1), (14, .ireturn, 1), (15, .astore_n 3, 1), (16, .iconst 2, 1), (17, .ireturn, 1), (18, .iconst 0, 1), (19, .ireturn, 1)]
theorem tv_L_make : Tv cL_make tb_L_make := by
  unfold Tv
  decide +kernel
theorem w_1337 : Cond.methodLink "LedgerFilesLaw" 25 yX11_make ∈ TB := tp_5 231 (by decide +kernel) rfl
theorem w_1340 : Cond.code yX11_make prog_1_method_17_code 6 (some .int) ∈ TB := tp_5 234 rfl rfl
theorem cw_L_25 : Cw RL 25 yX11_make cX11_make 6 (some .int) 1 := ⟨w_1337, w_1340, w_147, by decide +kernel, by decide +kernel, by decide⟩
theorem w_1338 : Cond.instanceMethod yX11_make ∈ TB := tp_5 232 (by decide +kernel) rfl
theorem w_1339 : Cond.selects "LedgerFiles" yX11_make yX11_make ∈ TB := tp_5 233 (by decide +kernel) rfl
set_option maxRecDepth 100000 in
set_option maxHeartbeats 4000000 in
theorem h_L_make (E : gE) (f : Nat → va_E) (hE : 94 ≤ gN E) {Q' : gQ} {h' : Nat} (a0 : Int32) (hM : Ct E h' yX11_make cX11_make 6 (some .int) [.ref (gAd E (0)), .int (a0)] f Q') (hh : h' ≤ 110) {fs : List Value} (h0 : f 0 = .inr (11, fs)) (hn : ∀ v g, Q'.1 v g → ∃ (x : Int32) (o : Nat → Int64), v = some (.int x) ∧ g 93 = oJ (gDA E) 1 o) (hx : ∀ X g, Q'.2 X g → X = xI ∨ X = xU) : Ch E 120 yL_make cL_make 4 (some .int) [(0, 9, 12, 13), (0, 9, 15, 15)] [.ref (gAd E (0)), .int (a0), .ref (gAd E (93))] f (fun v g => (v = some (.int 0) ∧ ∃ x o g0, Q'.1 (some (.int x)) g0 ∧ g0 93 = oJ (gDA E) 1 o ∧ g = va_up g0 93 (oJ (gDA E) 1 (vp_updL o 0 x.toInt64))) ∨ (v = some (.int 1) ∧ Q'.2 xI g) ∨ (v = some (.int 2) ∧ Q'.2 xU g)) := by
  refine Ch.of (by decide) (by decide) (Nat.le_of_ble_eq_true rfl) (fun sz => ?_)
  refine G.eql [(0, .ref (gAd E (0))), (1, .int (a0)), (2, .ref (gAd E (93)))] rfl ?_
  refine G.go tv_L_make 4 4 [(0, .ref (gAd E (0))), (1, .int (a0)), (2, .ref (gAd E (93)))] [.int (a0), .ref (gAd E (0)), .int ((0 : Int32)), .ref (gAd E (93))] rfl ?_
  refine G.callVC 0 [.int (a0)] [.int ((0 : Int32)), .ref (gAd E (93))] hM cls_X11 (by omega) h0 cw_L_25 w_1338 w_1339 (by omega) rfl (Nat.le_of_ble_eq_true rfl) (tbd tv_L_make rfl) w_1336 (fun v g q => ?_) (fun X g q => ?_)
  · skip
    obtain ⟨x, o, rfl, e93⟩ := hn v g q
    refine G.eqs [.int (x), .int ((0 : Int32)), .ref (gAd E (93))] rfl ?_
    refine G.go tv_L_make 1 8 [(0, .ref (gAd E (0))), (1, .int (a0)), (2, .ref (gAd E (93)))] [.long ((x : Int32).toInt64), .int ((0 : Int32)), .ref (gAd E (93))] rfl ?_
    refine G.eqs [.long ((x : Int32).toInt64), .int (nI (0)), .ref (gAd E (93))] (by rw [show (0 : Int32) = nI 0 from rfl]) ?_
    refine G.lastN (93) (0) (by omega) (e93) (by decide) (by decide) (tbd tv_L_make rfl) ?_
    refine G.go tv_L_make 2 19 [(0, .ref (gAd E (0))), (1, .int (a0)), (2, .ref (gAd E (93)))] [.int ((0 : Int32))] rfl ?_
    exact G.iretH rfl rfl (Or.inl ⟨rfl, x, o, g, q, e93, rfl⟩) (by decide) (by decide) (tbd tv_L_make rfl)
  · rcases hx X g q with rfl | rfl
    · refine ⟨12, ⟨by decide +kernel, (tableOf [(0, 9, 12, 13), (0, 9, 15, 15)]).take 0, (tableOf [(0, 9, 12, 13), (0, 9, 15, 15)])[0]'(by decide), (tableOf [(0, 9, 12, 13), (0, 9, 15, 15)]).drop 1, rfl, (fun z hz => nomatch hz), by decide, by decide, w_636, rfl⟩, fun r => ?_⟩
      refine G.go tv_L_make 2 14 [(0, .ref (gAd E (0))), (1, .int (a0)), (2, .ref (gAd E (93))), (3, .ref (r))] [.int ((1 : Int32))] rfl ?_
      exact G.iretH rfl rfl (Or.inr (Or.inl ⟨rfl, q⟩)) (by decide) (by decide) (tbd tv_L_make rfl)
    · refine ⟨15, ⟨by decide +kernel, (tableOf [(0, 9, 12, 13), (0, 9, 15, 15)]).take 1, (tableOf [(0, 9, 12, 13), (0, 9, 15, 15)])[1]'(by decide), (tableOf [(0, 9, 12, 13), (0, 9, 15, 15)]).drop 2, rfl, (fun z hz => by
        simp only [tableOf, List.map, List.take, List.mem_cons, List.not_mem_nil, or_false] at hz
        rcases hz with rfl
        · exact ⟨by decide, xI, by decide +kernel, by decide +kernel, w_636⟩), by decide, by decide, w_637, rfl⟩, fun r => ?_⟩
      refine G.go tv_L_make 2 17 [(0, .ref (gAd E (0))), (1, .int (a0)), (2, .ref (gAd E (93))), (3, .ref (r))] [.int ((2 : Int32))] rfl ?_
      exact G.iretH rfl rfl (Or.inr (Or.inr (⟨rfl, q⟩))) (by decide) (by decide) (tbd tv_L_make rfl)
theorem w_1467 : Cond.codeWith yL_remove method_7_code 3 (some .int) [(0, 8, 11, 13), (0, 8, 14, 15) ] ∈ TB := tp_6 121 (by decide +kernel) rfl
def tb_L_remove : List (Nat × Instr × Nat) := [(0, .aload_n 1, 1), (1, .iconst 0, 1), (2, .aload_n 0, 1), (3, .invokevirtual 29, 3), (6, .i2l, 1), (7, .lastore, 1), (8, .goto 9, 3), (11, .astore_n 2, 1), (12, .iconst 1, 1), (13, .ireturn, 1), (14, .astore_n 2, 1), (15, .iconst 2, 1), (16, .ireturn, 1), (17, .iconst 0, 1), (18, .ireturn, 1)]
theorem tv_L_remove : Tv cL_remove tb_L_remove := by
  unfold Tv
  decide +kernel
theorem w_1468 : Cond.methodLink "LedgerFilesLaw" 29 yX11_remove ∈ TB := tp_6 122 (by decide +kernel) rfl
theorem w_1471 : Cond.code yX11_remove prog_1_method_19_code 4 (some .int) ∈ TB := tp_6 125 rfl rfl
theorem cw_L_29 : Cw RL 29 yX11_remove cX11_remove 4 (some .int) 0 := ⟨w_1468, w_1471, w_147, by decide +kernel, by decide +kernel, by decide⟩
theorem w_1469 : Cond.instanceMethod yX11_remove ∈ TB := tp_6 123 (by decide +kernel) rfl
theorem w_1470 : Cond.selects "LedgerFiles" yX11_remove yX11_remove ∈ TB := tp_6 124 (by decide +kernel) rfl
set_option maxRecDepth 100000 in
set_option maxHeartbeats 4000000 in
theorem h_L_remove (E : gE) (f : Nat → va_E) (hE : 94 ≤ gN E) {Q' : gQ} {h' : Nat}  (hM : Ct E h' yX11_remove cX11_remove 4 (some .int) [.ref (gAd E (0))] f Q') (hh : h' ≤ 110) {fs : List Value} (h0 : f 0 = .inr (11, fs)) (hn : ∀ v g, Q'.1 v g → ∃ (x : Int32) (o : Nat → Int64), v = some (.int x) ∧ g 93 = oJ (gDA E) 1 o) (hx : ∀ X g, Q'.2 X g → X = xI ∨ X = xU) : Ch E 120 yL_remove cL_remove 3 (some .int) [(0, 8, 11, 13), (0, 8, 14, 15)] [.ref (gAd E (0)), .ref (gAd E (93))] f (fun v g => (v = some (.int 0) ∧ ∃ x o g0, Q'.1 (some (.int x)) g0 ∧ g0 93 = oJ (gDA E) 1 o ∧ g = va_up g0 93 (oJ (gDA E) 1 (vp_updL o 0 x.toInt64))) ∨ (v = some (.int 1) ∧ Q'.2 xI g) ∨ (v = some (.int 2) ∧ Q'.2 xU g)) := by
  refine Ch.of (by decide) (by decide) (Nat.le_of_ble_eq_true rfl) (fun sz => ?_)
  refine G.eql [(0, .ref (gAd E (0))), (1, .ref (gAd E (93)))] rfl ?_
  refine G.go tv_L_remove 3 3 [(0, .ref (gAd E (0))), (1, .ref (gAd E (93)))] [.ref (gAd E (0)), .int ((0 : Int32)), .ref (gAd E (93))] rfl ?_
  refine G.callVC 0 [] [.int ((0 : Int32)), .ref (gAd E (93))] hM cls_X11 (by omega) h0 cw_L_29 w_1469 w_1470 (by omega) rfl (Nat.le_of_ble_eq_true rfl) (tbd tv_L_remove rfl) w_1467 (fun v g q => ?_) (fun X g q => ?_)
  · skip
    obtain ⟨x, o, rfl, e93⟩ := hn v g q
    refine G.eqs [.int (x), .int ((0 : Int32)), .ref (gAd E (93))] rfl ?_
    refine G.go tv_L_remove 1 7 [(0, .ref (gAd E (0))), (1, .ref (gAd E (93)))] [.long ((x : Int32).toInt64), .int ((0 : Int32)), .ref (gAd E (93))] rfl ?_
    refine G.eqs [.long ((x : Int32).toInt64), .int (nI (0)), .ref (gAd E (93))] (by rw [show (0 : Int32) = nI 0 from rfl]) ?_
    refine G.lastN (93) (0) (by omega) (e93) (by decide) (by decide) (tbd tv_L_remove rfl) ?_
    refine G.go tv_L_remove 2 18 [(0, .ref (gAd E (0))), (1, .ref (gAd E (93)))] [.int ((0 : Int32))] rfl ?_
    exact G.iretH rfl rfl (Or.inl ⟨rfl, x, o, g, q, e93, rfl⟩) (by decide) (by decide) (tbd tv_L_remove rfl)
  · rcases hx X g q with rfl | rfl
    · refine ⟨11, ⟨by decide +kernel, (tableOf [(0, 8, 11, 13), (0, 8, 14, 15)]).take 0, (tableOf [(0, 8, 11, 13), (0, 8, 14, 15)])[0]'(by decide), (tableOf [(0, 8, 11, 13), (0, 8, 14, 15)]).drop 1, rfl, (fun z hz => nomatch hz), by decide, by decide, w_636, rfl⟩, fun r => ?_⟩
      refine G.go tv_L_remove 2 13 [(0, .ref (gAd E (0))), (1, .ref (gAd E (93))), (2, .ref (r))] [.int ((1 : Int32))] rfl ?_
      exact G.iretH rfl rfl (Or.inr (Or.inl ⟨rfl, q⟩)) (by decide) (by decide) (tbd tv_L_remove rfl)
    · refine ⟨14, ⟨by decide +kernel, (tableOf [(0, 8, 11, 13), (0, 8, 14, 15)]).take 1, (tableOf [(0, 8, 11, 13), (0, 8, 14, 15)])[1]'(by decide), (tableOf [(0, 8, 11, 13), (0, 8, 14, 15)]).drop 2, rfl, (fun z hz => by
        simp only [tableOf, List.map, List.take, List.mem_cons, List.not_mem_nil, or_false] at hz
        rcases hz with rfl
        · exact ⟨by decide, xI, by decide +kernel, by decide +kernel, w_636⟩), by decide, by decide, w_637, rfl⟩, fun r => ?_⟩
      refine G.go tv_L_remove 2 16 [(0, .ref (gAd E (0))), (1, .ref (gAd E (93))), (2, .ref (r))] [.int ((2 : Int32))] rfl ?_
      exact G.iretH rfl rfl (Or.inr (Or.inr (⟨rfl, q⟩))) (by decide) (by decide) (tbd tv_L_remove rfl)
theorem w_1493 : Cond.codeWith yL_rename method_8_code 3 (some .int) [(0, 8, 11, 13), (0, 8, 14, 15) ] ∈ TB := tp_6 147 (by decide +kernel) rfl
def tb_L_rename : List (Nat × Instr × Nat) := [(0, .aload_n 1, 1), (1, .iconst 0, 1), (2, .aload_n 0, 1), (3, .invokevirtual 32, 3), (6, .i2l, 1), (7, .lastore, 1), (8, .goto 9, 3), (11, .astore_n 2, 1), (12, .iconst 1, 1), (13, .ireturn, 1), (14, .astore_n 2, 1), (15, .iconst 2, 1), (16, .ireturn, 1), (17, .iconst 0, 1), (18, .ireturn, 1)]
theorem tv_L_rename : Tv cL_rename tb_L_rename := by
  unfold Tv
  decide +kernel
theorem w_1494 : Cond.methodLink "LedgerFilesLaw" 32 yX11_rename ∈ TB := tp_6 148 (by decide +kernel) rfl
theorem w_1497 : Cond.code yX11_rename prog_1_method_20_code 9 (some .int) ∈ TB := tp_6 151 rfl rfl
theorem cw_L_32 : Cw RL 32 yX11_rename cX11_rename 9 (some .int) 0 := ⟨w_1494, w_1497, w_147, by decide +kernel, by decide +kernel, by decide⟩
theorem w_1495 : Cond.instanceMethod yX11_rename ∈ TB := tp_6 149 (by decide +kernel) rfl
theorem w_1496 : Cond.selects "LedgerFiles" yX11_rename yX11_rename ∈ TB := tp_6 150 (by decide +kernel) rfl
set_option maxRecDepth 100000 in
set_option maxHeartbeats 4000000 in
theorem h_L_rename (E : gE) (f : Nat → va_E) (hE : 94 ≤ gN E) {Q' : gQ} {h' : Nat}  (hM : Ct E h' yX11_rename cX11_rename 9 (some .int) [.ref (gAd E (0))] f Q') (hh : h' ≤ 110) {fs : List Value} (h0 : f 0 = .inr (11, fs)) (hn : ∀ v g, Q'.1 v g → ∃ (x : Int32) (o : Nat → Int64), v = some (.int x) ∧ g 93 = oJ (gDA E) 1 o) (hx : ∀ X g, Q'.2 X g → X = xI ∨ X = xU) : Ch E 120 yL_rename cL_rename 3 (some .int) [(0, 8, 11, 13), (0, 8, 14, 15)] [.ref (gAd E (0)), .ref (gAd E (93))] f (fun v g => (v = some (.int 0) ∧ ∃ x o g0, Q'.1 (some (.int x)) g0 ∧ g0 93 = oJ (gDA E) 1 o ∧ g = va_up g0 93 (oJ (gDA E) 1 (vp_updL o 0 x.toInt64))) ∨ (v = some (.int 1) ∧ Q'.2 xI g) ∨ (v = some (.int 2) ∧ Q'.2 xU g)) := by
  refine Ch.of (by decide) (by decide) (Nat.le_of_ble_eq_true rfl) (fun sz => ?_)
  refine G.eql [(0, .ref (gAd E (0))), (1, .ref (gAd E (93)))] rfl ?_
  refine G.go tv_L_rename 3 3 [(0, .ref (gAd E (0))), (1, .ref (gAd E (93)))] [.ref (gAd E (0)), .int ((0 : Int32)), .ref (gAd E (93))] rfl ?_
  refine G.callVC 0 [] [.int ((0 : Int32)), .ref (gAd E (93))] hM cls_X11 (by omega) h0 cw_L_32 w_1495 w_1496 (by omega) rfl (Nat.le_of_ble_eq_true rfl) (tbd tv_L_rename rfl) w_1493 (fun v g q => ?_) (fun X g q => ?_)
  · skip
    obtain ⟨x, o, rfl, e93⟩ := hn v g q
    refine G.eqs [.int (x), .int ((0 : Int32)), .ref (gAd E (93))] rfl ?_
    refine G.go tv_L_rename 1 7 [(0, .ref (gAd E (0))), (1, .ref (gAd E (93)))] [.long ((x : Int32).toInt64), .int ((0 : Int32)), .ref (gAd E (93))] rfl ?_
    refine G.eqs [.long ((x : Int32).toInt64), .int (nI (0)), .ref (gAd E (93))] (by rw [show (0 : Int32) = nI 0 from rfl]) ?_
    refine G.lastN (93) (0) (by omega) (e93) (by decide) (by decide) (tbd tv_L_rename rfl) ?_
    refine G.go tv_L_rename 2 18 [(0, .ref (gAd E (0))), (1, .ref (gAd E (93)))] [.int ((0 : Int32))] rfl ?_
    exact G.iretH rfl rfl (Or.inl ⟨rfl, x, o, g, q, e93, rfl⟩) (by decide) (by decide) (tbd tv_L_rename rfl)
  · rcases hx X g q with rfl | rfl
    · refine ⟨11, ⟨by decide +kernel, (tableOf [(0, 8, 11, 13), (0, 8, 14, 15)]).take 0, (tableOf [(0, 8, 11, 13), (0, 8, 14, 15)])[0]'(by decide), (tableOf [(0, 8, 11, 13), (0, 8, 14, 15)]).drop 1, rfl, (fun z hz => nomatch hz), by decide, by decide, w_636, rfl⟩, fun r => ?_⟩
      refine G.go tv_L_rename 2 13 [(0, .ref (gAd E (0))), (1, .ref (gAd E (93))), (2, .ref (r))] [.int ((1 : Int32))] rfl ?_
      exact G.iretH rfl rfl (Or.inr (Or.inl ⟨rfl, q⟩)) (by decide) (by decide) (tbd tv_L_rename rfl)
    · refine ⟨14, ⟨by decide +kernel, (tableOf [(0, 8, 11, 13), (0, 8, 14, 15)]).take 1, (tableOf [(0, 8, 11, 13), (0, 8, 14, 15)])[1]'(by decide), (tableOf [(0, 8, 11, 13), (0, 8, 14, 15)]).drop 2, rfl, (fun z hz => by
        simp only [tableOf, List.map, List.take, List.mem_cons, List.not_mem_nil, or_false] at hz
        rcases hz with rfl
        · exact ⟨by decide, xI, by decide +kernel, by decide +kernel, w_636⟩), by decide, by decide, w_637, rfl⟩, fun r => ?_⟩
      refine G.go tv_L_rename 2 16 [(0, .ref (gAd E (0))), (1, .ref (gAd E (93))), (2, .ref (r))] [.int ((2 : Int32))] rfl ?_
      exact G.iretH rfl rfl (Or.inr (Or.inr (⟨rfl, q⟩))) (by decide) (by decide) (tbd tv_L_rename rfl)
theorem w_1517 : Cond.codeWith yL_link method_9_code 3 (some .int) [(0, 8, 11, 13), (0, 8, 14, 15) ] ∈ TB := tp_6 171 (by decide +kernel) rfl
def tb_L_link : List (Nat × Instr × Nat) := [(0, .aload_n 1, 1), (1, .iconst 0, 1), (2, .aload_n 0, 1), (3, .invokevirtual 35, 3), (6, .i2l, 1), (7, .lastore, 1), (8, .goto 9, 3), (11, .astore_n 2, 1), (12, .iconst 1, 1), (13, .ireturn, 1), (14, .astore_n 2, 1), (15, .iconst 2, 1), (16, .ireturn, 1), (17, .iconst 0, 1), (18, .ireturn, 1)]
theorem tv_L_link : Tv cL_link tb_L_link := by
  unfold Tv
  decide +kernel
theorem w_1518 : Cond.methodLink "LedgerFilesLaw" 35 yX11_link ∈ TB := tp_6 172 (by decide +kernel) rfl
theorem w_1521 : Cond.code yX11_link prog_1_method_23_code 5 (some .int) ∈ TB := tp_6 175 rfl rfl
theorem cw_L_35 : Cw RL 35 yX11_link cX11_link 5 (some .int) 0 := ⟨w_1518, w_1521, w_147, by decide +kernel, by decide +kernel, by decide⟩
theorem w_1519 : Cond.instanceMethod yX11_link ∈ TB := tp_6 173 (by decide +kernel) rfl
theorem w_1520 : Cond.selects "LedgerFiles" yX11_link yX11_link ∈ TB := tp_6 174 (by decide +kernel) rfl
set_option maxRecDepth 100000 in
set_option maxHeartbeats 4000000 in
theorem h_L_link (E : gE) (f : Nat → va_E) (hE : 94 ≤ gN E) {Q' : gQ} {h' : Nat}  (hM : Ct E h' yX11_link cX11_link 5 (some .int) [.ref (gAd E (0))] f Q') (hh : h' ≤ 110) {fs : List Value} (h0 : f 0 = .inr (11, fs)) (hn : ∀ v g, Q'.1 v g → ∃ (x : Int32) (o : Nat → Int64), v = some (.int x) ∧ g 93 = oJ (gDA E) 1 o) (hx : ∀ X g, Q'.2 X g → X = xI ∨ X = xU) : Ch E 120 yL_link cL_link 3 (some .int) [(0, 8, 11, 13), (0, 8, 14, 15)] [.ref (gAd E (0)), .ref (gAd E (93))] f (fun v g => (v = some (.int 0) ∧ ∃ x o g0, Q'.1 (some (.int x)) g0 ∧ g0 93 = oJ (gDA E) 1 o ∧ g = va_up g0 93 (oJ (gDA E) 1 (vp_updL o 0 x.toInt64))) ∨ (v = some (.int 1) ∧ Q'.2 xI g) ∨ (v = some (.int 2) ∧ Q'.2 xU g)) := by
  refine Ch.of (by decide) (by decide) (Nat.le_of_ble_eq_true rfl) (fun sz => ?_)
  refine G.eql [(0, .ref (gAd E (0))), (1, .ref (gAd E (93)))] rfl ?_
  refine G.go tv_L_link 3 3 [(0, .ref (gAd E (0))), (1, .ref (gAd E (93)))] [.ref (gAd E (0)), .int ((0 : Int32)), .ref (gAd E (93))] rfl ?_
  refine G.callVC 0 [] [.int ((0 : Int32)), .ref (gAd E (93))] hM cls_X11 (by omega) h0 cw_L_35 w_1519 w_1520 (by omega) rfl (Nat.le_of_ble_eq_true rfl) (tbd tv_L_link rfl) w_1517 (fun v g q => ?_) (fun X g q => ?_)
  · skip
    obtain ⟨x, o, rfl, e93⟩ := hn v g q
    refine G.eqs [.int (x), .int ((0 : Int32)), .ref (gAd E (93))] rfl ?_
    refine G.go tv_L_link 1 7 [(0, .ref (gAd E (0))), (1, .ref (gAd E (93)))] [.long ((x : Int32).toInt64), .int ((0 : Int32)), .ref (gAd E (93))] rfl ?_
    refine G.eqs [.long ((x : Int32).toInt64), .int (nI (0)), .ref (gAd E (93))] (by rw [show (0 : Int32) = nI 0 from rfl]) ?_
    refine G.lastN (93) (0) (by omega) (e93) (by decide) (by decide) (tbd tv_L_link rfl) ?_
    refine G.go tv_L_link 2 18 [(0, .ref (gAd E (0))), (1, .ref (gAd E (93)))] [.int ((0 : Int32))] rfl ?_
    exact G.iretH rfl rfl (Or.inl ⟨rfl, x, o, g, q, e93, rfl⟩) (by decide) (by decide) (tbd tv_L_link rfl)
  · rcases hx X g q with rfl | rfl
    · refine ⟨11, ⟨by decide +kernel, (tableOf [(0, 8, 11, 13), (0, 8, 14, 15)]).take 0, (tableOf [(0, 8, 11, 13), (0, 8, 14, 15)])[0]'(by decide), (tableOf [(0, 8, 11, 13), (0, 8, 14, 15)]).drop 1, rfl, (fun z hz => nomatch hz), by decide, by decide, w_636, rfl⟩, fun r => ?_⟩
      refine G.go tv_L_link 2 13 [(0, .ref (gAd E (0))), (1, .ref (gAd E (93))), (2, .ref (r))] [.int ((1 : Int32))] rfl ?_
      exact G.iretH rfl rfl (Or.inr (Or.inl ⟨rfl, q⟩)) (by decide) (by decide) (tbd tv_L_link rfl)
    · refine ⟨14, ⟨by decide +kernel, (tableOf [(0, 8, 11, 13), (0, 8, 14, 15)]).take 1, (tableOf [(0, 8, 11, 13), (0, 8, 14, 15)])[1]'(by decide), (tableOf [(0, 8, 11, 13), (0, 8, 14, 15)]).drop 2, rfl, (fun z hz => by
        simp only [tableOf, List.map, List.take, List.mem_cons, List.not_mem_nil, or_false] at hz
        rcases hz with rfl
        · exact ⟨by decide, xI, by decide +kernel, by decide +kernel, w_636⟩), by decide, by decide, w_637, rfl⟩, fun r => ?_⟩
      refine G.go tv_L_link 2 16 [(0, .ref (gAd E (0))), (1, .ref (gAd E (93))), (2, .ref (r))] [.int ((2 : Int32))] rfl ?_
      exact G.iretH rfl rfl (Or.inr (Or.inr (⟨rfl, q⟩))) (by decide) (by decide) (tbd tv_L_link rfl)
theorem w_1530 : Cond.codeWith yL_clear method_10_code 3 (some .int) [(0, 8, 11, 13), (0, 8, 14, 15) ] ∈ TB := tp_6 184 (by decide +kernel) rfl
def tb_L_clear : List (Nat × Instr × Nat) := [(0, .aload_n 1, 1), (1, .iconst 0, 1), (2, .aload_n 0, 1), (3, .invokevirtual 38, 3), (6, .i2l, 1), (7, .lastore, 1), (8, .goto 9, 3), (11, .astore_n 2, 1), (12, .iconst 1, 1), (13, .ireturn, 1), (14, .astore_n 2, 1), (15, .iconst 2, 1), (16, .ireturn, 1), (17, .iconst 0, 1), (18, .ireturn, 1)]
theorem tv_L_clear : Tv cL_clear tb_L_clear := by
  unfold Tv
  decide +kernel
theorem w_1531 : Cond.methodLink "LedgerFilesLaw" 38 yX11_clear ∈ TB := tp_6 185 (by decide +kernel) rfl
theorem w_1534 : Cond.code yX11_clear prog_1_method_24_code 8 (some .int) ∈ TB := tp_6 188 rfl rfl
theorem cw_L_38 : Cw RL 38 yX11_clear cX11_clear 8 (some .int) 0 := ⟨w_1531, w_1534, w_147, by decide +kernel, by decide +kernel, by decide⟩
theorem w_1532 : Cond.instanceMethod yX11_clear ∈ TB := tp_6 186 (by decide +kernel) rfl
theorem w_1533 : Cond.selects "LedgerFiles" yX11_clear yX11_clear ∈ TB := tp_6 187 (by decide +kernel) rfl
set_option maxRecDepth 100000 in
set_option maxHeartbeats 4000000 in
theorem h_L_clear (E : gE) (f : Nat → va_E) (hE : 94 ≤ gN E) {Q' : gQ} {h' : Nat}  (hM : Ct E h' yX11_clear cX11_clear 8 (some .int) [.ref (gAd E (0))] f Q') (hh : h' ≤ 110) {fs : List Value} (h0 : f 0 = .inr (11, fs)) (hn : ∀ v g, Q'.1 v g → ∃ (x : Int32) (o : Nat → Int64), v = some (.int x) ∧ g 93 = oJ (gDA E) 1 o) (hx : ∀ X g, Q'.2 X g → X = xI ∨ X = xU) : Ch E 120 yL_clear cL_clear 3 (some .int) [(0, 8, 11, 13), (0, 8, 14, 15)] [.ref (gAd E (0)), .ref (gAd E (93))] f (fun v g => (v = some (.int 0) ∧ ∃ x o g0, Q'.1 (some (.int x)) g0 ∧ g0 93 = oJ (gDA E) 1 o ∧ g = va_up g0 93 (oJ (gDA E) 1 (vp_updL o 0 x.toInt64))) ∨ (v = some (.int 1) ∧ Q'.2 xI g) ∨ (v = some (.int 2) ∧ Q'.2 xU g)) := by
  refine Ch.of (by decide) (by decide) (Nat.le_of_ble_eq_true rfl) (fun sz => ?_)
  refine G.eql [(0, .ref (gAd E (0))), (1, .ref (gAd E (93)))] rfl ?_
  refine G.go tv_L_clear 3 3 [(0, .ref (gAd E (0))), (1, .ref (gAd E (93)))] [.ref (gAd E (0)), .int ((0 : Int32)), .ref (gAd E (93))] rfl ?_
  refine G.callVC 0 [] [.int ((0 : Int32)), .ref (gAd E (93))] hM cls_X11 (by omega) h0 cw_L_38 w_1532 w_1533 (by omega) rfl (Nat.le_of_ble_eq_true rfl) (tbd tv_L_clear rfl) w_1530 (fun v g q => ?_) (fun X g q => ?_)
  · skip
    obtain ⟨x, o, rfl, e93⟩ := hn v g q
    refine G.eqs [.int (x), .int ((0 : Int32)), .ref (gAd E (93))] rfl ?_
    refine G.go tv_L_clear 1 7 [(0, .ref (gAd E (0))), (1, .ref (gAd E (93)))] [.long ((x : Int32).toInt64), .int ((0 : Int32)), .ref (gAd E (93))] rfl ?_
    refine G.eqs [.long ((x : Int32).toInt64), .int (nI (0)), .ref (gAd E (93))] (by rw [show (0 : Int32) = nI 0 from rfl]) ?_
    refine G.lastN (93) (0) (by omega) (e93) (by decide) (by decide) (tbd tv_L_clear rfl) ?_
    refine G.go tv_L_clear 2 18 [(0, .ref (gAd E (0))), (1, .ref (gAd E (93)))] [.int ((0 : Int32))] rfl ?_
    exact G.iretH rfl rfl (Or.inl ⟨rfl, x, o, g, q, e93, rfl⟩) (by decide) (by decide) (tbd tv_L_clear rfl)
  · rcases hx X g q with rfl | rfl
    · refine ⟨11, ⟨by decide +kernel, (tableOf [(0, 8, 11, 13), (0, 8, 14, 15)]).take 0, (tableOf [(0, 8, 11, 13), (0, 8, 14, 15)])[0]'(by decide), (tableOf [(0, 8, 11, 13), (0, 8, 14, 15)]).drop 1, rfl, (fun z hz => nomatch hz), by decide, by decide, w_636, rfl⟩, fun r => ?_⟩
      refine G.go tv_L_clear 2 13 [(0, .ref (gAd E (0))), (1, .ref (gAd E (93))), (2, .ref (r))] [.int ((1 : Int32))] rfl ?_
      exact G.iretH rfl rfl (Or.inr (Or.inl ⟨rfl, q⟩)) (by decide) (by decide) (tbd tv_L_clear rfl)
    · refine ⟨14, ⟨by decide +kernel, (tableOf [(0, 8, 11, 13), (0, 8, 14, 15)]).take 1, (tableOf [(0, 8, 11, 13), (0, 8, 14, 15)])[1]'(by decide), (tableOf [(0, 8, 11, 13), (0, 8, 14, 15)]).drop 2, rfl, (fun z hz => by
        simp only [tableOf, List.map, List.take, List.mem_cons, List.not_mem_nil, or_false] at hz
        rcases hz with rfl
        · exact ⟨by decide, xI, by decide +kernel, by decide +kernel, w_636⟩), by decide, by decide, w_637, rfl⟩, fun r => ?_⟩
      refine G.go tv_L_clear 2 16 [(0, .ref (gAd E (0))), (1, .ref (gAd E (93))), (2, .ref (r))] [.int ((2 : Int32))] rfl ?_
      exact G.iretH rfl rfl (Or.inr (Or.inr (⟨rfl, q⟩))) (by decide) (by decide) (tbd tv_L_clear rfl)
theorem w_1540 : Cond.codeWith yL_copy method_11_code 3 (some .int) [(0, 8, 11, 13), (0, 8, 14, 15) ] ∈ TB := tp_6 194 (by decide +kernel) rfl
def tb_L_copy : List (Nat × Instr × Nat) := [(0, .aload_n 1, 1), (1, .iconst 0, 1), (2, .aload_n 0, 1), (3, .invokevirtual 41, 3), (6, .i2l, 1), (7, .lastore, 1), (8, .goto 9, 3), (11, .astore_n 2, 1), (12, .iconst 1, 1), (13, .ireturn, 1), (14, .astore_n 2, 1), (15, .iconst 2, 1), (16, .ireturn, 1), (17, .iconst 0, 1), (18, .ireturn, 1)]
theorem tv_L_copy : Tv cL_copy tb_L_copy := by
  unfold Tv
  decide +kernel
theorem w_1541 : Cond.methodLink "LedgerFilesLaw" 41 yX11_copy ∈ TB := tp_6 195 (by decide +kernel) rfl
theorem w_1544 : Cond.code yX11_copy prog_1_method_25_code 6 (some .int) ∈ TB := tp_6 198 rfl rfl
theorem cw_L_41 : Cw RL 41 yX11_copy cX11_copy 6 (some .int) 0 := ⟨w_1541, w_1544, w_147, by decide +kernel, by decide +kernel, by decide⟩
theorem w_1542 : Cond.instanceMethod yX11_copy ∈ TB := tp_6 196 (by decide +kernel) rfl
theorem w_1543 : Cond.selects "LedgerFiles" yX11_copy yX11_copy ∈ TB := tp_6 197 (by decide +kernel) rfl
set_option maxRecDepth 100000 in
set_option maxHeartbeats 4000000 in
theorem h_L_copy (E : gE) (f : Nat → va_E) (hE : 94 ≤ gN E) {Q' : gQ} {h' : Nat}  (hM : Ct E h' yX11_copy cX11_copy 6 (some .int) [.ref (gAd E (0))] f Q') (hh : h' ≤ 110) {fs : List Value} (h0 : f 0 = .inr (11, fs)) (hn : ∀ v g, Q'.1 v g → ∃ (x : Int32) (o : Nat → Int64), v = some (.int x) ∧ g 93 = oJ (gDA E) 1 o) (hx : ∀ X g, Q'.2 X g → X = xI ∨ X = xU) : Ch E 120 yL_copy cL_copy 3 (some .int) [(0, 8, 11, 13), (0, 8, 14, 15)] [.ref (gAd E (0)), .ref (gAd E (93))] f (fun v g => (v = some (.int 0) ∧ ∃ x o g0, Q'.1 (some (.int x)) g0 ∧ g0 93 = oJ (gDA E) 1 o ∧ g = va_up g0 93 (oJ (gDA E) 1 (vp_updL o 0 x.toInt64))) ∨ (v = some (.int 1) ∧ Q'.2 xI g) ∨ (v = some (.int 2) ∧ Q'.2 xU g)) := by
  refine Ch.of (by decide) (by decide) (Nat.le_of_ble_eq_true rfl) (fun sz => ?_)
  refine G.eql [(0, .ref (gAd E (0))), (1, .ref (gAd E (93)))] rfl ?_
  refine G.go tv_L_copy 3 3 [(0, .ref (gAd E (0))), (1, .ref (gAd E (93)))] [.ref (gAd E (0)), .int ((0 : Int32)), .ref (gAd E (93))] rfl ?_
  refine G.callVC 0 [] [.int ((0 : Int32)), .ref (gAd E (93))] hM cls_X11 (by omega) h0 cw_L_41 w_1542 w_1543 (by omega) rfl (Nat.le_of_ble_eq_true rfl) (tbd tv_L_copy rfl) w_1540 (fun v g q => ?_) (fun X g q => ?_)
  · skip
    obtain ⟨x, o, rfl, e93⟩ := hn v g q
    refine G.eqs [.int (x), .int ((0 : Int32)), .ref (gAd E (93))] rfl ?_
    refine G.go tv_L_copy 1 7 [(0, .ref (gAd E (0))), (1, .ref (gAd E (93)))] [.long ((x : Int32).toInt64), .int ((0 : Int32)), .ref (gAd E (93))] rfl ?_
    refine G.eqs [.long ((x : Int32).toInt64), .int (nI (0)), .ref (gAd E (93))] (by rw [show (0 : Int32) = nI 0 from rfl]) ?_
    refine G.lastN (93) (0) (by omega) (e93) (by decide) (by decide) (tbd tv_L_copy rfl) ?_
    refine G.go tv_L_copy 2 18 [(0, .ref (gAd E (0))), (1, .ref (gAd E (93)))] [.int ((0 : Int32))] rfl ?_
    exact G.iretH rfl rfl (Or.inl ⟨rfl, x, o, g, q, e93, rfl⟩) (by decide) (by decide) (tbd tv_L_copy rfl)
  · rcases hx X g q with rfl | rfl
    · refine ⟨11, ⟨by decide +kernel, (tableOf [(0, 8, 11, 13), (0, 8, 14, 15)]).take 0, (tableOf [(0, 8, 11, 13), (0, 8, 14, 15)])[0]'(by decide), (tableOf [(0, 8, 11, 13), (0, 8, 14, 15)]).drop 1, rfl, (fun z hz => nomatch hz), by decide, by decide, w_636, rfl⟩, fun r => ?_⟩
      refine G.go tv_L_copy 2 13 [(0, .ref (gAd E (0))), (1, .ref (gAd E (93))), (2, .ref (r))] [.int ((1 : Int32))] rfl ?_
      exact G.iretH rfl rfl (Or.inr (Or.inl ⟨rfl, q⟩)) (by decide) (by decide) (tbd tv_L_copy rfl)
    · refine ⟨14, ⟨by decide +kernel, (tableOf [(0, 8, 11, 13), (0, 8, 14, 15)]).take 1, (tableOf [(0, 8, 11, 13), (0, 8, 14, 15)])[1]'(by decide), (tableOf [(0, 8, 11, 13), (0, 8, 14, 15)]).drop 2, rfl, (fun z hz => by
        simp only [tableOf, List.map, List.take, List.mem_cons, List.not_mem_nil, or_false] at hz
        rcases hz with rfl
        · exact ⟨by decide, xI, by decide +kernel, by decide +kernel, w_636⟩), by decide, by decide, w_637, rfl⟩, fun r => ?_⟩
      refine G.go tv_L_copy 2 16 [(0, .ref (gAd E (0))), (1, .ref (gAd E (93))), (2, .ref (r))] [.int ((2 : Int32))] rfl ?_
      exact G.iretH rfl rfl (Or.inr (Or.inr (⟨rfl, q⟩))) (by decide) (by decide) (tbd tv_L_copy rfl)
theorem w_1589 : Cond.codeWith yL_find method_12_code 3 (some .int) [(0, 8, 11, 13)] ∈ TB := tp_7 3 (by decide +kernel) rfl
def tb_L_find : List (Nat × Instr × Nat) := [(0, .aload_n 1, 1), (1, .iconst 0, 1), (2, .aload_n 0, 1), (3, .invokevirtual 44, 3), (6, .i2l, 1), (7, .lastore, 1), (8, .goto 6, 3), (11, .astore_n 2, 1), (12, .iconst 1, 1), (13, .ireturn, 1), (14, .iconst 0, 1), (15, .ireturn, 1)]
theorem tv_L_find : Tv cL_find tb_L_find := by
  unfold Tv
  decide +kernel
theorem w_1590 : Cond.methodLink "LedgerFilesLaw" 44 yX11_find ∈ TB := tp_7 4 (by decide +kernel) rfl
theorem w_1593 : Cond.code yX11_find prog_1_method_26_code 2 (some .int) ∈ TB := tp_7 7 rfl rfl
theorem cw_L_44 : Cw RL 44 yX11_find cX11_find 2 (some .int) 0 := ⟨w_1590, w_1593, w_147, by decide +kernel, by decide +kernel, by decide⟩
theorem w_1591 : Cond.instanceMethod yX11_find ∈ TB := tp_7 5 (by decide +kernel) rfl
theorem w_1592 : Cond.selects "LedgerFiles" yX11_find yX11_find ∈ TB := tp_7 6 (by decide +kernel) rfl
set_option maxRecDepth 100000 in
set_option maxHeartbeats 4000000 in
theorem h_L_find (E : gE) (f : Nat → va_E) (hE : 94 ≤ gN E) {Q' : gQ} {h' : Nat}  (hM : Ct E h' yX11_find cX11_find 2 (some .int) [.ref (gAd E (0))] f Q') (hh : h' ≤ 110) {fs : List Value} (h0 : f 0 = .inr (11, fs)) (hn : ∀ v g, Q'.1 v g → ∃ (x : Int32) (o : Nat → Int64), v = some (.int x) ∧ g 93 = oJ (gDA E) 1 o) (hx : ∀ X g, Q'.2 X g → X = xI) : Ch E 120 yL_find cL_find 3 (some .int) [(0, 8, 11, 13)] [.ref (gAd E (0)), .ref (gAd E (93))] f (fun v g => (v = some (.int 0) ∧ ∃ x o g0, Q'.1 (some (.int x)) g0 ∧ g0 93 = oJ (gDA E) 1 o ∧ g = va_up g0 93 (oJ (gDA E) 1 (vp_updL o 0 x.toInt64))) ∨ (v = some (.int 1) ∧ Q'.2 xI g)) := by
  refine Ch.of (by decide) (by decide) (Nat.le_of_ble_eq_true rfl) (fun sz => ?_)
  refine G.eql [(0, .ref (gAd E (0))), (1, .ref (gAd E (93)))] rfl ?_
  refine G.go tv_L_find 3 3 [(0, .ref (gAd E (0))), (1, .ref (gAd E (93)))] [.ref (gAd E (0)), .int ((0 : Int32)), .ref (gAd E (93))] rfl ?_
  refine G.callVC 0 [] [.int ((0 : Int32)), .ref (gAd E (93))] hM cls_X11 (by omega) h0 cw_L_44 w_1591 w_1592 (by omega) rfl (Nat.le_of_ble_eq_true rfl) (tbd tv_L_find rfl) w_1589 (fun v g q => ?_) (fun X g q => ?_)
  · skip
    obtain ⟨x, o, rfl, e93⟩ := hn v g q
    refine G.eqs [.int (x), .int ((0 : Int32)), .ref (gAd E (93))] rfl ?_
    refine G.go tv_L_find 1 7 [(0, .ref (gAd E (0))), (1, .ref (gAd E (93)))] [.long ((x : Int32).toInt64), .int ((0 : Int32)), .ref (gAd E (93))] rfl ?_
    refine G.eqs [.long ((x : Int32).toInt64), .int (nI (0)), .ref (gAd E (93))] (by rw [show (0 : Int32) = nI 0 from rfl]) ?_
    refine G.lastN (93) (0) (by omega) (e93) (by decide) (by decide) (tbd tv_L_find rfl) ?_
    refine G.go tv_L_find 2 15 [(0, .ref (gAd E (0))), (1, .ref (gAd E (93)))] [.int ((0 : Int32))] rfl ?_
    exact G.iretH rfl rfl (Or.inl ⟨rfl, x, o, g, q, e93, rfl⟩) (by decide) (by decide) (tbd tv_L_find rfl)
  · rcases hx X g q with rfl
    · refine ⟨11, ⟨by decide +kernel, (tableOf [(0, 8, 11, 13)]).take 0, (tableOf [(0, 8, 11, 13)])[0]'(by decide), (tableOf [(0, 8, 11, 13)]).drop 1, rfl, (fun z hz => nomatch hz), by decide, by decide, w_636, rfl⟩, fun r => ?_⟩
      refine G.go tv_L_find 2 13 [(0, .ref (gAd E (0))), (1, .ref (gAd E (93))), (2, .ref (r))] [.int ((1 : Int32))] rfl ?_
      exact G.iretH rfl rfl (Or.inr (⟨rfl, q⟩)) (by decide) (by decide) (tbd tv_L_find rfl)
theorem w_1596 : Cond.codeWith yL_write method_13_code 5 (some .int) [(0, 10, 13, 13), (0, 10, 17, 15) ] ∈ TB := tp_7 10 (by decide +kernel) rfl
def tb_L_write : List (Nat × Instr × Nat) := [(0, .aload_n 3, 1), (1, .iconst 0, 1), (2, .aload_n 0, 1), (3, .iload_n 1, 1), (4, .iload_n 2, 1), (5, .invokevirtual 47, 3), (8, .i2l, 1), (9, .lastore, 1), (10, .goto 11, 3), (13, .astore 4, 2), (15, .iconst 1, 1), (16, .ireturn, 1), (17, .astore 4, 2), (19, .iconst 2, 1), (20, .ireturn, 1), (21, .iconst 0, 1), (22, .ireturn, 1)]
theorem tv_L_write : Tv cL_write tb_L_write := by
  unfold Tv
  decide +kernel
theorem w_1597 : Cond.methodLink "LedgerFilesLaw" 47 yX11_write ∈ TB := tp_7 11 (by decide +kernel) rfl
theorem w_1600 : Cond.code yX11_write prog_1_method_27_code 5 (some .int) ∈ TB := tp_7 14 rfl rfl
theorem cw_L_47 : Cw RL 47 yX11_write cX11_write 5 (some .int) 2 := ⟨w_1597, w_1600, w_147, by decide +kernel, by decide +kernel, by decide⟩
theorem w_1598 : Cond.instanceMethod yX11_write ∈ TB := tp_7 12 (by decide +kernel) rfl
theorem w_1599 : Cond.selects "LedgerFiles" yX11_write yX11_write ∈ TB := tp_7 13 (by decide +kernel) rfl
set_option maxRecDepth 100000 in
set_option maxHeartbeats 4000000 in
theorem h_L_write (E : gE) (f : Nat → va_E) (hE : 94 ≤ gN E) {Q' : gQ} {h' : Nat} (a0 : Int32) (a1 : Int32) (hM : Ct E h' yX11_write cX11_write 5 (some .int) [.ref (gAd E (0)), .int (a0), .int (a1)] f Q') (hh : h' ≤ 110) {fs : List Value} (h0 : f 0 = .inr (11, fs)) (hn : ∀ v g, Q'.1 v g → ∃ (x : Int32) (o : Nat → Int64), v = some (.int x) ∧ g 93 = oJ (gDA E) 1 o) (hx : ∀ X g, Q'.2 X g → X = xI ∨ X = xU) : Ch E 120 yL_write cL_write 5 (some .int) [(0, 10, 13, 13), (0, 10, 17, 15)] [.ref (gAd E (0)), .int (a0), .int (a1), .ref (gAd E (93))] f (fun v g => (v = some (.int 0) ∧ ∃ x o g0, Q'.1 (some (.int x)) g0 ∧ g0 93 = oJ (gDA E) 1 o ∧ g = va_up g0 93 (oJ (gDA E) 1 (vp_updL o 0 x.toInt64))) ∨ (v = some (.int 1) ∧ Q'.2 xI g) ∨ (v = some (.int 2) ∧ Q'.2 xU g)) := by
  refine Ch.of (by decide) (by decide) (Nat.le_of_ble_eq_true rfl) (fun sz => ?_)
  refine G.eql [(0, .ref (gAd E (0))), (1, .int (a0)), (2, .int (a1)), (3, .ref (gAd E (93)))] rfl ?_
  refine G.go tv_L_write 5 5 [(0, .ref (gAd E (0))), (1, .int (a0)), (2, .int (a1)), (3, .ref (gAd E (93)))] [.int (a1), .int (a0), .ref (gAd E (0)), .int ((0 : Int32)), .ref (gAd E (93))] rfl ?_
  refine G.callVC 0 [.int (a0), .int (a1)] [.int ((0 : Int32)), .ref (gAd E (93))] hM cls_X11 (by omega) h0 cw_L_47 w_1598 w_1599 (by omega) rfl (Nat.le_of_ble_eq_true rfl) (tbd tv_L_write rfl) w_1596 (fun v g q => ?_) (fun X g q => ?_)
  · skip
    obtain ⟨x, o, rfl, e93⟩ := hn v g q
    refine G.eqs [.int (x), .int ((0 : Int32)), .ref (gAd E (93))] rfl ?_
    refine G.go tv_L_write 1 9 [(0, .ref (gAd E (0))), (1, .int (a0)), (2, .int (a1)), (3, .ref (gAd E (93)))] [.long ((x : Int32).toInt64), .int ((0 : Int32)), .ref (gAd E (93))] rfl ?_
    refine G.eqs [.long ((x : Int32).toInt64), .int (nI (0)), .ref (gAd E (93))] (by rw [show (0 : Int32) = nI 0 from rfl]) ?_
    refine G.lastN (93) (0) (by omega) (e93) (by decide) (by decide) (tbd tv_L_write rfl) ?_
    refine G.go tv_L_write 2 22 [(0, .ref (gAd E (0))), (1, .int (a0)), (2, .int (a1)), (3, .ref (gAd E (93)))] [.int ((0 : Int32))] rfl ?_
    exact G.iretH rfl rfl (Or.inl ⟨rfl, x, o, g, q, e93, rfl⟩) (by decide) (by decide) (tbd tv_L_write rfl)
  · rcases hx X g q with rfl | rfl
    · refine ⟨13, ⟨by decide +kernel, (tableOf [(0, 10, 13, 13), (0, 10, 17, 15)]).take 0, (tableOf [(0, 10, 13, 13), (0, 10, 17, 15)])[0]'(by decide), (tableOf [(0, 10, 13, 13), (0, 10, 17, 15)]).drop 1, rfl, (fun z hz => nomatch hz), by decide, by decide, w_636, rfl⟩, fun r => ?_⟩
      refine G.go tv_L_write 2 16 [(0, .ref (gAd E (0))), (1, .int (a0)), (2, .int (a1)), (3, .ref (gAd E (93))), (4, .ref (r))] [.int ((1 : Int32))] rfl ?_
      exact G.iretH rfl rfl (Or.inr (Or.inl ⟨rfl, q⟩)) (by decide) (by decide) (tbd tv_L_write rfl)
    · refine ⟨17, ⟨by decide +kernel, (tableOf [(0, 10, 13, 13), (0, 10, 17, 15)]).take 1, (tableOf [(0, 10, 13, 13), (0, 10, 17, 15)])[1]'(by decide), (tableOf [(0, 10, 13, 13), (0, 10, 17, 15)]).drop 2, rfl, (fun z hz => by
        simp only [tableOf, List.map, List.take, List.mem_cons, List.not_mem_nil, or_false] at hz
        rcases hz with rfl
        · exact ⟨by decide, xI, by decide +kernel, by decide +kernel, w_636⟩), by decide, by decide, w_637, rfl⟩, fun r => ?_⟩
      refine G.go tv_L_write 2 20 [(0, .ref (gAd E (0))), (1, .int (a0)), (2, .int (a1)), (3, .ref (gAd E (93))), (4, .ref (r))] [.int ((2 : Int32))] rfl ?_
      exact G.iretH rfl rfl (Or.inr (Or.inr (⟨rfl, q⟩))) (by decide) (by decide) (tbd tv_L_write rfl)
theorem w_1620 : Cond.codeWith yL_fill method_14_code 7 (some .int) [(0, 14, 17, 13), (0, 14, 21, 15) , (0, 14, 25, 20) ] ∈ TB := tp_7 34 (by decide +kernel) rfl
def tb_L_fill : List (Nat × Instr × Nat) := [(0, .aload 5, 2), (2, .iconst 0, 1), (3, .aload_n 0, 1), (4, .iload_n 1, 1), (5, .iload_n 2, 1), (6, .iload_n 3, 1), (7, .iload 4, 2), (9, .invokevirtual 51, 3), (12, .i2l, 1), (13, .lastore, 1), (14, .goto 15, 3), (17, .astore 6, 2), (19, .iconst 1, 1), (20, .ireturn, 1), (21, .astore 6, 2), (23, .iconst 2, 1), (24, .ireturn, 1), (25, .astore 6, 2), (27, .iconst 3, 1), (28, .ireturn, 1), (29, .iconst 0, 1), (30, .ireturn, 1)]
theorem tv_L_fill : Tv cL_fill tb_L_fill := by
  unfold Tv
  decide +kernel
theorem w_1621 : Cond.methodLink "LedgerFilesLaw" 51 yX11_fill ∈ TB := tp_7 35 (by decide +kernel) rfl
theorem w_1624 : Cond.code yX11_fill prog_1_method_28_code 7 (some .int) ∈ TB := tp_7 38 rfl rfl
theorem cw_L_51 : Cw RL 51 yX11_fill cX11_fill 7 (some .int) 4 := ⟨w_1621, w_1624, w_147, by decide +kernel, by decide +kernel, by decide⟩
theorem w_1622 : Cond.instanceMethod yX11_fill ∈ TB := tp_7 36 (by decide +kernel) rfl
theorem w_1623 : Cond.selects "LedgerFiles" yX11_fill yX11_fill ∈ TB := tp_7 37 (by decide +kernel) rfl
set_option maxRecDepth 100000 in
set_option maxHeartbeats 4000000 in
theorem h_L_fill (E : gE) (f : Nat → va_E) (hE : 94 ≤ gN E) {Q' : gQ} {h' : Nat} (a0 : Int32) (a1 : Int32) (a2 : Int32) (a3 : Int32) (hM : Ct E h' yX11_fill cX11_fill 7 (some .int) [.ref (gAd E (0)), .int (a0), .int (a1), .int (a2), .int (a3)] f Q') (hh : h' ≤ 110) {fs : List Value} (h0 : f 0 = .inr (11, fs)) (hn : ∀ v g, Q'.1 v g → ∃ (x : Int32) (o : Nat → Int64), v = some (.int x) ∧ g 93 = oJ (gDA E) 1 o) (hx : ∀ X g, Q'.2 X g → X = xI ∨ X = xU ∨ X = xA) : Ch E 120 yL_fill cL_fill 7 (some .int) [(0, 14, 17, 13), (0, 14, 21, 15), (0, 14, 25, 20)] [.ref (gAd E (0)), .int (a0), .int (a1), .int (a2), .int (a3), .ref (gAd E (93))] f (fun v g => (v = some (.int 0) ∧ ∃ x o g0, Q'.1 (some (.int x)) g0 ∧ g0 93 = oJ (gDA E) 1 o ∧ g = va_up g0 93 (oJ (gDA E) 1 (vp_updL o 0 x.toInt64))) ∨ (v = some (.int 1) ∧ Q'.2 xI g) ∨ (v = some (.int 2) ∧ Q'.2 xU g) ∨ (v = some (.int 3) ∧ Q'.2 xA g)) := by
  refine Ch.of (by decide) (by decide) (Nat.le_of_ble_eq_true rfl) (fun sz => ?_)
  refine G.eql [(0, .ref (gAd E (0))), (1, .int (a0)), (2, .int (a1)), (3, .int (a2)), (4, .int (a3)), (5, .ref (gAd E (93)))] rfl ?_
  refine G.go tv_L_fill 7 9 [(0, .ref (gAd E (0))), (1, .int (a0)), (2, .int (a1)), (3, .int (a2)), (4, .int (a3)), (5, .ref (gAd E (93)))] [.int (a3), .int (a2), .int (a1), .int (a0), .ref (gAd E (0)), .int ((0 : Int32)), .ref (gAd E (93))] rfl ?_
  refine G.callVC 0 [.int (a0), .int (a1), .int (a2), .int (a3)] [.int ((0 : Int32)), .ref (gAd E (93))] hM cls_X11 (by omega) h0 cw_L_51 w_1622 w_1623 (by omega) rfl (Nat.le_of_ble_eq_true rfl) (tbd tv_L_fill rfl) w_1620 (fun v g q => ?_) (fun X g q => ?_)
  · skip
    obtain ⟨x, o, rfl, e93⟩ := hn v g q
    refine G.eqs [.int (x), .int ((0 : Int32)), .ref (gAd E (93))] rfl ?_
    refine G.go tv_L_fill 1 13 [(0, .ref (gAd E (0))), (1, .int (a0)), (2, .int (a1)), (3, .int (a2)), (4, .int (a3)), (5, .ref (gAd E (93)))] [.long ((x : Int32).toInt64), .int ((0 : Int32)), .ref (gAd E (93))] rfl ?_
    refine G.eqs [.long ((x : Int32).toInt64), .int (nI (0)), .ref (gAd E (93))] (by rw [show (0 : Int32) = nI 0 from rfl]) ?_
    refine G.lastN (93) (0) (by omega) (e93) (by decide) (by decide) (tbd tv_L_fill rfl) ?_
    refine G.go tv_L_fill 2 30 [(0, .ref (gAd E (0))), (1, .int (a0)), (2, .int (a1)), (3, .int (a2)), (4, .int (a3)), (5, .ref (gAd E (93)))] [.int ((0 : Int32))] rfl ?_
    exact G.iretH rfl rfl (Or.inl ⟨rfl, x, o, g, q, e93, rfl⟩) (by decide) (by decide) (tbd tv_L_fill rfl)
  · rcases hx X g q with rfl | rfl | rfl
    · refine ⟨17, ⟨by decide +kernel, (tableOf [(0, 14, 17, 13), (0, 14, 21, 15), (0, 14, 25, 20)]).take 0, (tableOf [(0, 14, 17, 13), (0, 14, 21, 15), (0, 14, 25, 20)])[0]'(by decide), (tableOf [(0, 14, 17, 13), (0, 14, 21, 15), (0, 14, 25, 20)]).drop 1, rfl, (fun z hz => nomatch hz), by decide, by decide, w_636, rfl⟩, fun r => ?_⟩
      refine G.go tv_L_fill 2 20 [(0, .ref (gAd E (0))), (1, .int (a0)), (2, .int (a1)), (3, .int (a2)), (4, .int (a3)), (5, .ref (gAd E (93))), (6, .ref (r))] [.int ((1 : Int32))] rfl ?_
      exact G.iretH rfl rfl (Or.inr (Or.inl ⟨rfl, q⟩)) (by decide) (by decide) (tbd tv_L_fill rfl)
    · refine ⟨21, ⟨by decide +kernel, (tableOf [(0, 14, 17, 13), (0, 14, 21, 15), (0, 14, 25, 20)]).take 1, (tableOf [(0, 14, 17, 13), (0, 14, 21, 15), (0, 14, 25, 20)])[1]'(by decide), (tableOf [(0, 14, 17, 13), (0, 14, 21, 15), (0, 14, 25, 20)]).drop 2, rfl, (fun z hz => by
        simp only [tableOf, List.map, List.take, List.mem_cons, List.not_mem_nil, or_false] at hz
        rcases hz with rfl
        · exact ⟨by decide, xI, by decide +kernel, by decide +kernel, w_636⟩), by decide, by decide, w_637, rfl⟩, fun r => ?_⟩
      refine G.go tv_L_fill 2 24 [(0, .ref (gAd E (0))), (1, .int (a0)), (2, .int (a1)), (3, .int (a2)), (4, .int (a3)), (5, .ref (gAd E (93))), (6, .ref (r))] [.int ((2 : Int32))] rfl ?_
      exact G.iretH rfl rfl (Or.inr (Or.inr (Or.inl ⟨rfl, q⟩))) (by decide) (by decide) (tbd tv_L_fill rfl)
    · refine ⟨25, ⟨by decide +kernel, (tableOf [(0, 14, 17, 13), (0, 14, 21, 15), (0, 14, 25, 20)]).take 2, (tableOf [(0, 14, 17, 13), (0, 14, 21, 15), (0, 14, 25, 20)])[2]'(by decide), (tableOf [(0, 14, 17, 13), (0, 14, 21, 15), (0, 14, 25, 20)]).drop 3, rfl, (fun z hz => by
        simp only [tableOf, List.map, List.take, List.mem_cons, List.not_mem_nil, or_false] at hz
        rcases hz with rfl | rfl
        · exact ⟨by decide, xI, by decide +kernel, by decide +kernel, w_636⟩
        · exact ⟨by decide, xU, by decide +kernel, by decide +kernel, w_637⟩), by decide, by decide, w_819, rfl⟩, fun r => ?_⟩
      refine G.go tv_L_fill 2 28 [(0, .ref (gAd E (0))), (1, .int (a0)), (2, .int (a1)), (3, .int (a2)), (4, .int (a3)), (5, .ref (gAd E (93))), (6, .ref (r))] [.int ((3 : Int32))] rfl ?_
      exact G.iretH rfl rfl (Or.inr (Or.inr (Or.inr (⟨rfl, q⟩)))) (by decide) (by decide) (tbd tv_L_fill rfl)
theorem w_1628 : Cond.codeWith yL_truncate method_15_code 5 (some .int) [(0, 10, 13, 13), (0, 10, 17, 15) ] ∈ TB := tp_7 42 (by decide +kernel) rfl
def tb_L_truncate : List (Nat × Instr × Nat) := [(0, .aload_n 3, 1), (1, .iconst 0, 1), (2, .aload_n 0, 1), (3, .iload_n 1, 1), (4, .iload_n 2, 1), (5, .invokevirtual 55, 3), (8, .i2l, 1), (9, .lastore, 1), (10, .goto 11, 3), (13, .astore 4, 2), (15, .iconst 1, 1), (16, .ireturn, 1), (17, .astore 4, 2), (19, .iconst 2, 1), (20, .ireturn, 1), (21, .iconst 0, 1), (22, .ireturn, 1)]
theorem tv_L_truncate : Tv cL_truncate tb_L_truncate := by
  unfold Tv
  decide +kernel
theorem w_1629 : Cond.methodLink "LedgerFilesLaw" 55 yX11_truncate ∈ TB := tp_7 43 (by decide +kernel) rfl
theorem w_1632 : Cond.code yX11_truncate prog_1_method_29_code 5 (some .int) ∈ TB := tp_7 46 rfl rfl
theorem cw_L_55 : Cw RL 55 yX11_truncate cX11_truncate 5 (some .int) 2 := ⟨w_1629, w_1632, w_147, by decide +kernel, by decide +kernel, by decide⟩
theorem w_1630 : Cond.instanceMethod yX11_truncate ∈ TB := tp_7 44 (by decide +kernel) rfl
theorem w_1631 : Cond.selects "LedgerFiles" yX11_truncate yX11_truncate ∈ TB := tp_7 45 (by decide +kernel) rfl
set_option maxRecDepth 100000 in
set_option maxHeartbeats 4000000 in
theorem h_L_truncate (E : gE) (f : Nat → va_E) (hE : 94 ≤ gN E) {Q' : gQ} {h' : Nat} (a0 : Int32) (a1 : Int32) (hM : Ct E h' yX11_truncate cX11_truncate 5 (some .int) [.ref (gAd E (0)), .int (a0), .int (a1)] f Q') (hh : h' ≤ 110) {fs : List Value} (h0 : f 0 = .inr (11, fs)) (hn : ∀ v g, Q'.1 v g → ∃ (x : Int32) (o : Nat → Int64), v = some (.int x) ∧ g 93 = oJ (gDA E) 1 o) (hx : ∀ X g, Q'.2 X g → X = xI ∨ X = xU) : Ch E 120 yL_truncate cL_truncate 5 (some .int) [(0, 10, 13, 13), (0, 10, 17, 15)] [.ref (gAd E (0)), .int (a0), .int (a1), .ref (gAd E (93))] f (fun v g => (v = some (.int 0) ∧ ∃ x o g0, Q'.1 (some (.int x)) g0 ∧ g0 93 = oJ (gDA E) 1 o ∧ g = va_up g0 93 (oJ (gDA E) 1 (vp_updL o 0 x.toInt64))) ∨ (v = some (.int 1) ∧ Q'.2 xI g) ∨ (v = some (.int 2) ∧ Q'.2 xU g)) := by
  refine Ch.of (by decide) (by decide) (Nat.le_of_ble_eq_true rfl) (fun sz => ?_)
  refine G.eql [(0, .ref (gAd E (0))), (1, .int (a0)), (2, .int (a1)), (3, .ref (gAd E (93)))] rfl ?_
  refine G.go tv_L_truncate 5 5 [(0, .ref (gAd E (0))), (1, .int (a0)), (2, .int (a1)), (3, .ref (gAd E (93)))] [.int (a1), .int (a0), .ref (gAd E (0)), .int ((0 : Int32)), .ref (gAd E (93))] rfl ?_
  refine G.callVC 0 [.int (a0), .int (a1)] [.int ((0 : Int32)), .ref (gAd E (93))] hM cls_X11 (by omega) h0 cw_L_55 w_1630 w_1631 (by omega) rfl (Nat.le_of_ble_eq_true rfl) (tbd tv_L_truncate rfl) w_1628 (fun v g q => ?_) (fun X g q => ?_)
  · skip
    obtain ⟨x, o, rfl, e93⟩ := hn v g q
    refine G.eqs [.int (x), .int ((0 : Int32)), .ref (gAd E (93))] rfl ?_
    refine G.go tv_L_truncate 1 9 [(0, .ref (gAd E (0))), (1, .int (a0)), (2, .int (a1)), (3, .ref (gAd E (93)))] [.long ((x : Int32).toInt64), .int ((0 : Int32)), .ref (gAd E (93))] rfl ?_
    refine G.eqs [.long ((x : Int32).toInt64), .int (nI (0)), .ref (gAd E (93))] (by rw [show (0 : Int32) = nI 0 from rfl]) ?_
    refine G.lastN (93) (0) (by omega) (e93) (by decide) (by decide) (tbd tv_L_truncate rfl) ?_
    refine G.go tv_L_truncate 2 22 [(0, .ref (gAd E (0))), (1, .int (a0)), (2, .int (a1)), (3, .ref (gAd E (93)))] [.int ((0 : Int32))] rfl ?_
    exact G.iretH rfl rfl (Or.inl ⟨rfl, x, o, g, q, e93, rfl⟩) (by decide) (by decide) (tbd tv_L_truncate rfl)
  · rcases hx X g q with rfl | rfl
    · refine ⟨13, ⟨by decide +kernel, (tableOf [(0, 10, 13, 13), (0, 10, 17, 15)]).take 0, (tableOf [(0, 10, 13, 13), (0, 10, 17, 15)])[0]'(by decide), (tableOf [(0, 10, 13, 13), (0, 10, 17, 15)]).drop 1, rfl, (fun z hz => nomatch hz), by decide, by decide, w_636, rfl⟩, fun r => ?_⟩
      refine G.go tv_L_truncate 2 16 [(0, .ref (gAd E (0))), (1, .int (a0)), (2, .int (a1)), (3, .ref (gAd E (93))), (4, .ref (r))] [.int ((1 : Int32))] rfl ?_
      exact G.iretH rfl rfl (Or.inr (Or.inl ⟨rfl, q⟩)) (by decide) (by decide) (tbd tv_L_truncate rfl)
    · refine ⟨17, ⟨by decide +kernel, (tableOf [(0, 10, 13, 13), (0, 10, 17, 15)]).take 1, (tableOf [(0, 10, 13, 13), (0, 10, 17, 15)])[1]'(by decide), (tableOf [(0, 10, 13, 13), (0, 10, 17, 15)]).drop 2, rfl, (fun z hz => by
        simp only [tableOf, List.map, List.take, List.mem_cons, List.not_mem_nil, or_false] at hz
        rcases hz with rfl
        · exact ⟨by decide, xI, by decide +kernel, by decide +kernel, w_636⟩), by decide, by decide, w_637, rfl⟩, fun r => ?_⟩
      refine G.go tv_L_truncate 2 20 [(0, .ref (gAd E (0))), (1, .int (a0)), (2, .int (a1)), (3, .ref (gAd E (93))), (4, .ref (r))] [.int ((2 : Int32))] rfl ?_
      exact G.iretH rfl rfl (Or.inr (Or.inr (⟨rfl, q⟩))) (by decide) (by decide) (tbd tv_L_truncate rfl)
theorem w_1647 : Cond.codeWith yL_mark method_16_code 5 (some .int) [(0, 10, 13, 13), (0, 10, 17, 15) ] ∈ TB := tp_7 61 (by decide +kernel) rfl
def tb_L_mark : List (Nat × Instr × Nat) := [(0, .aload_n 3, 1), (1, .iconst 0, 1), (2, .aload_n 0, 1), (3, .iload_n 1, 1), (4, .iload_n 2, 1), (5, .invokevirtual 58, 3), (8, .i2l, 1), (9, .lastore, 1), (10, .goto 11, 3), (13, .astore 4, 2), (15, .iconst 1, 1), (16, .ireturn, 1), (17, .astore 4, 2), (19, .iconst 2, 1), (20, .ireturn, 1), (21, .iconst 0, 1), (22, .ireturn, 1)]
theorem tv_L_mark : Tv cL_mark tb_L_mark := by
  unfold Tv
  decide +kernel
theorem w_1648 : Cond.methodLink "LedgerFilesLaw" 58 yX11_mark ∈ TB := tp_7 62 (by decide +kernel) rfl
theorem w_1651 : Cond.code yX11_mark prog_1_method_30_code 3 (some .int) ∈ TB := tp_7 65 rfl rfl
theorem cw_L_58 : Cw RL 58 yX11_mark cX11_mark 3 (some .int) 2 := ⟨w_1648, w_1651, w_147, by decide +kernel, by decide +kernel, by decide⟩
theorem w_1649 : Cond.instanceMethod yX11_mark ∈ TB := tp_7 63 (by decide +kernel) rfl
theorem w_1650 : Cond.selects "LedgerFiles" yX11_mark yX11_mark ∈ TB := tp_7 64 (by decide +kernel) rfl
set_option maxRecDepth 100000 in
set_option maxHeartbeats 4000000 in
theorem h_L_mark (E : gE) (f : Nat → va_E) (hE : 94 ≤ gN E) {Q' : gQ} {h' : Nat} (a0 : Int32) (a1 : Int32) (hM : Ct E h' yX11_mark cX11_mark 3 (some .int) [.ref (gAd E (0)), .int (a0), .int (a1)] f Q') (hh : h' ≤ 110) {fs : List Value} (h0 : f 0 = .inr (11, fs)) (hn : ∀ v g, Q'.1 v g → ∃ (x : Int32) (o : Nat → Int64), v = some (.int x) ∧ g 93 = oJ (gDA E) 1 o) (hx : ∀ X g, Q'.2 X g → X = xI ∨ X = xU) : Ch E 120 yL_mark cL_mark 5 (some .int) [(0, 10, 13, 13), (0, 10, 17, 15)] [.ref (gAd E (0)), .int (a0), .int (a1), .ref (gAd E (93))] f (fun v g => (v = some (.int 0) ∧ ∃ x o g0, Q'.1 (some (.int x)) g0 ∧ g0 93 = oJ (gDA E) 1 o ∧ g = va_up g0 93 (oJ (gDA E) 1 (vp_updL o 0 x.toInt64))) ∨ (v = some (.int 1) ∧ Q'.2 xI g) ∨ (v = some (.int 2) ∧ Q'.2 xU g)) := by
  refine Ch.of (by decide) (by decide) (Nat.le_of_ble_eq_true rfl) (fun sz => ?_)
  refine G.eql [(0, .ref (gAd E (0))), (1, .int (a0)), (2, .int (a1)), (3, .ref (gAd E (93)))] rfl ?_
  refine G.go tv_L_mark 5 5 [(0, .ref (gAd E (0))), (1, .int (a0)), (2, .int (a1)), (3, .ref (gAd E (93)))] [.int (a1), .int (a0), .ref (gAd E (0)), .int ((0 : Int32)), .ref (gAd E (93))] rfl ?_
  refine G.callVC 0 [.int (a0), .int (a1)] [.int ((0 : Int32)), .ref (gAd E (93))] hM cls_X11 (by omega) h0 cw_L_58 w_1649 w_1650 (by omega) rfl (Nat.le_of_ble_eq_true rfl) (tbd tv_L_mark rfl) w_1647 (fun v g q => ?_) (fun X g q => ?_)
  · skip
    obtain ⟨x, o, rfl, e93⟩ := hn v g q
    refine G.eqs [.int (x), .int ((0 : Int32)), .ref (gAd E (93))] rfl ?_
    refine G.go tv_L_mark 1 9 [(0, .ref (gAd E (0))), (1, .int (a0)), (2, .int (a1)), (3, .ref (gAd E (93)))] [.long ((x : Int32).toInt64), .int ((0 : Int32)), .ref (gAd E (93))] rfl ?_
    refine G.eqs [.long ((x : Int32).toInt64), .int (nI (0)), .ref (gAd E (93))] (by rw [show (0 : Int32) = nI 0 from rfl]) ?_
    refine G.lastN (93) (0) (by omega) (e93) (by decide) (by decide) (tbd tv_L_mark rfl) ?_
    refine G.go tv_L_mark 2 22 [(0, .ref (gAd E (0))), (1, .int (a0)), (2, .int (a1)), (3, .ref (gAd E (93)))] [.int ((0 : Int32))] rfl ?_
    exact G.iretH rfl rfl (Or.inl ⟨rfl, x, o, g, q, e93, rfl⟩) (by decide) (by decide) (tbd tv_L_mark rfl)
  · rcases hx X g q with rfl | rfl
    · refine ⟨13, ⟨by decide +kernel, (tableOf [(0, 10, 13, 13), (0, 10, 17, 15)]).take 0, (tableOf [(0, 10, 13, 13), (0, 10, 17, 15)])[0]'(by decide), (tableOf [(0, 10, 13, 13), (0, 10, 17, 15)]).drop 1, rfl, (fun z hz => nomatch hz), by decide, by decide, w_636, rfl⟩, fun r => ?_⟩
      refine G.go tv_L_mark 2 16 [(0, .ref (gAd E (0))), (1, .int (a0)), (2, .int (a1)), (3, .ref (gAd E (93))), (4, .ref (r))] [.int ((1 : Int32))] rfl ?_
      exact G.iretH rfl rfl (Or.inr (Or.inl ⟨rfl, q⟩)) (by decide) (by decide) (tbd tv_L_mark rfl)
    · refine ⟨17, ⟨by decide +kernel, (tableOf [(0, 10, 13, 13), (0, 10, 17, 15)]).take 1, (tableOf [(0, 10, 13, 13), (0, 10, 17, 15)])[1]'(by decide), (tableOf [(0, 10, 13, 13), (0, 10, 17, 15)]).drop 2, rfl, (fun z hz => by
        simp only [tableOf, List.map, List.take, List.mem_cons, List.not_mem_nil, or_false] at hz
        rcases hz with rfl
        · exact ⟨by decide, xI, by decide +kernel, by decide +kernel, w_636⟩), by decide, by decide, w_637, rfl⟩, fun r => ?_⟩
      refine G.go tv_L_mark 2 20 [(0, .ref (gAd E (0))), (1, .int (a0)), (2, .int (a1)), (3, .ref (gAd E (93))), (4, .ref (r))] [.int ((2 : Int32))] rfl ?_
      exact G.iretH rfl rfl (Or.inr (Or.inr (⟨rfl, q⟩))) (by decide) (by decide) (tbd tv_L_mark rfl)
theorem w_1655 : Cond.codeWith yL_punch method_17_code 6 (some .int) [(0, 12, 15, 13), (0, 12, 19, 15) ] ∈ TB := tp_7 69 (by decide +kernel) rfl
def tb_L_punch : List (Nat × Instr × Nat) := [(0, .aload 4, 2), (2, .iconst 0, 1), (3, .aload_n 0, 1), (4, .iload_n 1, 1), (5, .iload_n 2, 1), (6, .iload_n 3, 1), (7, .invokevirtual 61, 3), (10, .i2l, 1), (11, .lastore, 1), (12, .goto 11, 3), (15, .astore 5, 2), (17, .iconst 1, 1), (18, .ireturn, 1), (19, .astore 5, 2), (21, .iconst 2, 1), (22, .ireturn, 1), (23, .iconst 0, 1), (24, .ireturn, 1)]
theorem tv_L_punch : Tv cL_punch tb_L_punch := by
  unfold Tv
  decide +kernel
theorem w_1656 : Cond.methodLink "LedgerFilesLaw" 61 yX11_punch ∈ TB := tp_7 70 (by decide +kernel) rfl
theorem w_1659 : Cond.code yX11_punch prog_1_method_31_code 11 (some .int) ∈ TB := tp_7 73 rfl rfl
theorem cw_L_61 : Cw RL 61 yX11_punch cX11_punch 11 (some .int) 3 := ⟨w_1656, w_1659, w_147, by decide +kernel, by decide +kernel, by decide⟩
theorem w_1657 : Cond.instanceMethod yX11_punch ∈ TB := tp_7 71 (by decide +kernel) rfl
theorem w_1658 : Cond.selects "LedgerFiles" yX11_punch yX11_punch ∈ TB := tp_7 72 (by decide +kernel) rfl
set_option maxRecDepth 100000 in
set_option maxHeartbeats 4000000 in
theorem h_L_punch (E : gE) (f : Nat → va_E) (hE : 94 ≤ gN E) {Q' : gQ} {h' : Nat} (a0 : Int32) (a1 : Int32) (a2 : Int32) (hM : Ct E h' yX11_punch cX11_punch 11 (some .int) [.ref (gAd E (0)), .int (a0), .int (a1), .int (a2)] f Q') (hh : h' ≤ 110) {fs : List Value} (h0 : f 0 = .inr (11, fs)) (hn : ∀ v g, Q'.1 v g → ∃ (x : Int32) (o : Nat → Int64), v = some (.int x) ∧ g 93 = oJ (gDA E) 1 o) (hx : ∀ X g, Q'.2 X g → X = xI ∨ X = xU) : Ch E 120 yL_punch cL_punch 6 (some .int) [(0, 12, 15, 13), (0, 12, 19, 15)] [.ref (gAd E (0)), .int (a0), .int (a1), .int (a2), .ref (gAd E (93))] f (fun v g => (v = some (.int 0) ∧ ∃ x o g0, Q'.1 (some (.int x)) g0 ∧ g0 93 = oJ (gDA E) 1 o ∧ g = va_up g0 93 (oJ (gDA E) 1 (vp_updL o 0 x.toInt64))) ∨ (v = some (.int 1) ∧ Q'.2 xI g) ∨ (v = some (.int 2) ∧ Q'.2 xU g)) := by
  refine Ch.of (by decide) (by decide) (Nat.le_of_ble_eq_true rfl) (fun sz => ?_)
  refine G.eql [(0, .ref (gAd E (0))), (1, .int (a0)), (2, .int (a1)), (3, .int (a2)), (4, .ref (gAd E (93)))] rfl ?_
  refine G.go tv_L_punch 6 7 [(0, .ref (gAd E (0))), (1, .int (a0)), (2, .int (a1)), (3, .int (a2)), (4, .ref (gAd E (93)))] [.int (a2), .int (a1), .int (a0), .ref (gAd E (0)), .int ((0 : Int32)), .ref (gAd E (93))] rfl ?_
  refine G.callVC 0 [.int (a0), .int (a1), .int (a2)] [.int ((0 : Int32)), .ref (gAd E (93))] hM cls_X11 (by omega) h0 cw_L_61 w_1657 w_1658 (by omega) rfl (Nat.le_of_ble_eq_true rfl) (tbd tv_L_punch rfl) w_1655 (fun v g q => ?_) (fun X g q => ?_)
  · skip
    obtain ⟨x, o, rfl, e93⟩ := hn v g q
    refine G.eqs [.int (x), .int ((0 : Int32)), .ref (gAd E (93))] rfl ?_
    refine G.go tv_L_punch 1 11 [(0, .ref (gAd E (0))), (1, .int (a0)), (2, .int (a1)), (3, .int (a2)), (4, .ref (gAd E (93)))] [.long ((x : Int32).toInt64), .int ((0 : Int32)), .ref (gAd E (93))] rfl ?_
    refine G.eqs [.long ((x : Int32).toInt64), .int (nI (0)), .ref (gAd E (93))] (by rw [show (0 : Int32) = nI 0 from rfl]) ?_
    refine G.lastN (93) (0) (by omega) (e93) (by decide) (by decide) (tbd tv_L_punch rfl) ?_
    refine G.go tv_L_punch 2 24 [(0, .ref (gAd E (0))), (1, .int (a0)), (2, .int (a1)), (3, .int (a2)), (4, .ref (gAd E (93)))] [.int ((0 : Int32))] rfl ?_
    exact G.iretH rfl rfl (Or.inl ⟨rfl, x, o, g, q, e93, rfl⟩) (by decide) (by decide) (tbd tv_L_punch rfl)
  · rcases hx X g q with rfl | rfl
    · refine ⟨15, ⟨by decide +kernel, (tableOf [(0, 12, 15, 13), (0, 12, 19, 15)]).take 0, (tableOf [(0, 12, 15, 13), (0, 12, 19, 15)])[0]'(by decide), (tableOf [(0, 12, 15, 13), (0, 12, 19, 15)]).drop 1, rfl, (fun z hz => nomatch hz), by decide, by decide, w_636, rfl⟩, fun r => ?_⟩
      refine G.go tv_L_punch 2 18 [(0, .ref (gAd E (0))), (1, .int (a0)), (2, .int (a1)), (3, .int (a2)), (4, .ref (gAd E (93))), (5, .ref (r))] [.int ((1 : Int32))] rfl ?_
      exact G.iretH rfl rfl (Or.inr (Or.inl ⟨rfl, q⟩)) (by decide) (by decide) (tbd tv_L_punch rfl)
    · refine ⟨19, ⟨by decide +kernel, (tableOf [(0, 12, 15, 13), (0, 12, 19, 15)]).take 1, (tableOf [(0, 12, 15, 13), (0, 12, 19, 15)])[1]'(by decide), (tableOf [(0, 12, 15, 13), (0, 12, 19, 15)]).drop 2, rfl, (fun z hz => by
        simp only [tableOf, List.map, List.take, List.mem_cons, List.not_mem_nil, or_false] at hz
        rcases hz with rfl
        · exact ⟨by decide, xI, by decide +kernel, by decide +kernel, w_636⟩), by decide, by decide, w_637, rfl⟩, fun r => ?_⟩
      refine G.go tv_L_punch 2 22 [(0, .ref (gAd E (0))), (1, .int (a0)), (2, .int (a1)), (3, .int (a2)), (4, .ref (gAd E (93))), (5, .ref (r))] [.int ((2 : Int32))] rfl ?_
      exact G.iretH rfl rfl (Or.inr (Or.inr (⟨rfl, q⟩))) (by decide) (by decide) (tbd tv_L_punch rfl)
theorem w_1669 : Cond.codeWith yL_hold method_18_code 4 (some .int) [(0, 9, 12, 13)] ∈ TB := tp_7 83 (by decide +kernel) rfl
def tb_L_hold : List (Nat × Instr × Nat) := [(0, .aload_n 2, 1), (1, .iconst 0, 1), (2, .aload_n 0, 1), (3, .iload_n 1, 1), (4, .invokevirtual 65, 3), (7, .i2l, 1), (8, .lastore, 1), (9, .goto 6, 3), (12, .astore_n 3, 1), (13, .iconst 1, 1), (14, .ireturn, 1), (15, .iconst 0, 1), (16, .ireturn, 1)]
theorem tv_L_hold : Tv cL_hold tb_L_hold := by
  unfold Tv
  decide +kernel
theorem w_1670 : Cond.methodLink "LedgerFilesLaw" 65 yX11_hold ∈ TB := tp_7 84 (by decide +kernel) rfl
theorem w_1673 : Cond.code yX11_hold prog_1_method_32_code 2 (some .int) ∈ TB := tp_7 87 rfl rfl
theorem cw_L_65 : Cw RL 65 yX11_hold cX11_hold 2 (some .int) 1 := ⟨w_1670, w_1673, w_147, by decide +kernel, by decide +kernel, by decide⟩
theorem w_1671 : Cond.instanceMethod yX11_hold ∈ TB := tp_7 85 (by decide +kernel) rfl
theorem w_1672 : Cond.selects "LedgerFiles" yX11_hold yX11_hold ∈ TB := tp_7 86 (by decide +kernel) rfl
set_option maxRecDepth 100000 in
set_option maxHeartbeats 4000000 in
theorem h_L_hold (E : gE) (f : Nat → va_E) (hE : 94 ≤ gN E) {Q' : gQ} {h' : Nat} (a0 : Int32) (hM : Ct E h' yX11_hold cX11_hold 2 (some .int) [.ref (gAd E (0)), .int (a0)] f Q') (hh : h' ≤ 110) {fs : List Value} (h0 : f 0 = .inr (11, fs)) (hn : ∀ v g, Q'.1 v g → ∃ (x : Int32) (o : Nat → Int64), v = some (.int x) ∧ g 93 = oJ (gDA E) 1 o) (hx : ∀ X g, Q'.2 X g → X = xI) : Ch E 120 yL_hold cL_hold 4 (some .int) [(0, 9, 12, 13)] [.ref (gAd E (0)), .int (a0), .ref (gAd E (93))] f (fun v g => (v = some (.int 0) ∧ ∃ x o g0, Q'.1 (some (.int x)) g0 ∧ g0 93 = oJ (gDA E) 1 o ∧ g = va_up g0 93 (oJ (gDA E) 1 (vp_updL o 0 x.toInt64))) ∨ (v = some (.int 1) ∧ Q'.2 xI g)) := by
  refine Ch.of (by decide) (by decide) (Nat.le_of_ble_eq_true rfl) (fun sz => ?_)
  refine G.eql [(0, .ref (gAd E (0))), (1, .int (a0)), (2, .ref (gAd E (93)))] rfl ?_
  refine G.go tv_L_hold 4 4 [(0, .ref (gAd E (0))), (1, .int (a0)), (2, .ref (gAd E (93)))] [.int (a0), .ref (gAd E (0)), .int ((0 : Int32)), .ref (gAd E (93))] rfl ?_
  refine G.callVC 0 [.int (a0)] [.int ((0 : Int32)), .ref (gAd E (93))] hM cls_X11 (by omega) h0 cw_L_65 w_1671 w_1672 (by omega) rfl (Nat.le_of_ble_eq_true rfl) (tbd tv_L_hold rfl) w_1669 (fun v g q => ?_) (fun X g q => ?_)
  · skip
    obtain ⟨x, o, rfl, e93⟩ := hn v g q
    refine G.eqs [.int (x), .int ((0 : Int32)), .ref (gAd E (93))] rfl ?_
    refine G.go tv_L_hold 1 8 [(0, .ref (gAd E (0))), (1, .int (a0)), (2, .ref (gAd E (93)))] [.long ((x : Int32).toInt64), .int ((0 : Int32)), .ref (gAd E (93))] rfl ?_
    refine G.eqs [.long ((x : Int32).toInt64), .int (nI (0)), .ref (gAd E (93))] (by rw [show (0 : Int32) = nI 0 from rfl]) ?_
    refine G.lastN (93) (0) (by omega) (e93) (by decide) (by decide) (tbd tv_L_hold rfl) ?_
    refine G.go tv_L_hold 2 16 [(0, .ref (gAd E (0))), (1, .int (a0)), (2, .ref (gAd E (93)))] [.int ((0 : Int32))] rfl ?_
    exact G.iretH rfl rfl (Or.inl ⟨rfl, x, o, g, q, e93, rfl⟩) (by decide) (by decide) (tbd tv_L_hold rfl)
  · rcases hx X g q with rfl
    · refine ⟨12, ⟨by decide +kernel, (tableOf [(0, 9, 12, 13)]).take 0, (tableOf [(0, 9, 12, 13)])[0]'(by decide), (tableOf [(0, 9, 12, 13)]).drop 1, rfl, (fun z hz => nomatch hz), by decide, by decide, w_636, rfl⟩, fun r => ?_⟩
      refine G.go tv_L_hold 2 14 [(0, .ref (gAd E (0))), (1, .int (a0)), (2, .ref (gAd E (93))), (3, .ref (r))] [.int ((1 : Int32))] rfl ?_
      exact G.iretH rfl rfl (Or.inr (⟨rfl, q⟩)) (by decide) (by decide) (tbd tv_L_hold rfl)
theorem w_1676 : Cond.codeWith yL_release method_19_code 4 (some .int) [(0, 9, 12, 13), (0, 9, 15, 15) ] ∈ TB := tp_7 90 (by decide +kernel) rfl
def tb_L_release : List (Nat × Instr × Nat) := [(0, .aload_n 2, 1), (1, .iconst 0, 1), (2, .aload_n 0, 1), (3, .iload_n 1, 1), (4, .invokevirtual 69, 3), (7, .i2l, 1), (8, .lastore, 1), (9, .goto 9, 3), (12, .astore_n 3, 1), (13, .iconst 1, 1), (14, .ireturn, 1), (15, .astore_n 3, 1), (16, .iconst 2, 1), (17, .ireturn, 1), (18, .iconst 0, 1), (19, .ireturn, 1)]
theorem tv_L_release : Tv cL_release tb_L_release := by
  unfold Tv
  decide +kernel
theorem w_1677 : Cond.methodLink "LedgerFilesLaw" 69 yX11_release ∈ TB := tp_7 91 (by decide +kernel) rfl
theorem w_1680 : Cond.code yX11_release prog_1_method_33_code 3 (some .int) ∈ TB := tp_7 94 rfl rfl
theorem cw_L_69 : Cw RL 69 yX11_release cX11_release 3 (some .int) 1 := ⟨w_1677, w_1680, w_147, by decide +kernel, by decide +kernel, by decide⟩
theorem w_1678 : Cond.instanceMethod yX11_release ∈ TB := tp_7 92 (by decide +kernel) rfl
theorem w_1679 : Cond.selects "LedgerFiles" yX11_release yX11_release ∈ TB := tp_7 93 (by decide +kernel) rfl
set_option maxRecDepth 100000 in
set_option maxHeartbeats 4000000 in
theorem h_L_release (E : gE) (f : Nat → va_E) (hE : 94 ≤ gN E) {Q' : gQ} {h' : Nat} (a0 : Int32) (hM : Ct E h' yX11_release cX11_release 3 (some .int) [.ref (gAd E (0)), .int (a0)] f Q') (hh : h' ≤ 110) {fs : List Value} (h0 : f 0 = .inr (11, fs)) (hn : ∀ v g, Q'.1 v g → ∃ (x : Int32) (o : Nat → Int64), v = some (.int x) ∧ g 93 = oJ (gDA E) 1 o) (hx : ∀ X g, Q'.2 X g → X = xI ∨ X = xU) : Ch E 120 yL_release cL_release 4 (some .int) [(0, 9, 12, 13), (0, 9, 15, 15)] [.ref (gAd E (0)), .int (a0), .ref (gAd E (93))] f (fun v g => (v = some (.int 0) ∧ ∃ x o g0, Q'.1 (some (.int x)) g0 ∧ g0 93 = oJ (gDA E) 1 o ∧ g = va_up g0 93 (oJ (gDA E) 1 (vp_updL o 0 x.toInt64))) ∨ (v = some (.int 1) ∧ Q'.2 xI g) ∨ (v = some (.int 2) ∧ Q'.2 xU g)) := by
  refine Ch.of (by decide) (by decide) (Nat.le_of_ble_eq_true rfl) (fun sz => ?_)
  refine G.eql [(0, .ref (gAd E (0))), (1, .int (a0)), (2, .ref (gAd E (93)))] rfl ?_
  refine G.go tv_L_release 4 4 [(0, .ref (gAd E (0))), (1, .int (a0)), (2, .ref (gAd E (93)))] [.int (a0), .ref (gAd E (0)), .int ((0 : Int32)), .ref (gAd E (93))] rfl ?_
  refine G.callVC 0 [.int (a0)] [.int ((0 : Int32)), .ref (gAd E (93))] hM cls_X11 (by omega) h0 cw_L_69 w_1678 w_1679 (by omega) rfl (Nat.le_of_ble_eq_true rfl) (tbd tv_L_release rfl) w_1676 (fun v g q => ?_) (fun X g q => ?_)
  · skip
    obtain ⟨x, o, rfl, e93⟩ := hn v g q
    refine G.eqs [.int (x), .int ((0 : Int32)), .ref (gAd E (93))] rfl ?_
    refine G.go tv_L_release 1 8 [(0, .ref (gAd E (0))), (1, .int (a0)), (2, .ref (gAd E (93)))] [.long ((x : Int32).toInt64), .int ((0 : Int32)), .ref (gAd E (93))] rfl ?_
    refine G.eqs [.long ((x : Int32).toInt64), .int (nI (0)), .ref (gAd E (93))] (by rw [show (0 : Int32) = nI 0 from rfl]) ?_
    refine G.lastN (93) (0) (by omega) (e93) (by decide) (by decide) (tbd tv_L_release rfl) ?_
    refine G.go tv_L_release 2 19 [(0, .ref (gAd E (0))), (1, .int (a0)), (2, .ref (gAd E (93)))] [.int ((0 : Int32))] rfl ?_
    exact G.iretH rfl rfl (Or.inl ⟨rfl, x, o, g, q, e93, rfl⟩) (by decide) (by decide) (tbd tv_L_release rfl)
  · rcases hx X g q with rfl | rfl
    · refine ⟨12, ⟨by decide +kernel, (tableOf [(0, 9, 12, 13), (0, 9, 15, 15)]).take 0, (tableOf [(0, 9, 12, 13), (0, 9, 15, 15)])[0]'(by decide), (tableOf [(0, 9, 12, 13), (0, 9, 15, 15)]).drop 1, rfl, (fun z hz => nomatch hz), by decide, by decide, w_636, rfl⟩, fun r => ?_⟩
      refine G.go tv_L_release 2 14 [(0, .ref (gAd E (0))), (1, .int (a0)), (2, .ref (gAd E (93))), (3, .ref (r))] [.int ((1 : Int32))] rfl ?_
      exact G.iretH rfl rfl (Or.inr (Or.inl ⟨rfl, q⟩)) (by decide) (by decide) (tbd tv_L_release rfl)
    · refine ⟨15, ⟨by decide +kernel, (tableOf [(0, 9, 12, 13), (0, 9, 15, 15)]).take 1, (tableOf [(0, 9, 12, 13), (0, 9, 15, 15)])[1]'(by decide), (tableOf [(0, 9, 12, 13), (0, 9, 15, 15)]).drop 2, rfl, (fun z hz => by
        simp only [tableOf, List.map, List.take, List.mem_cons, List.not_mem_nil, or_false] at hz
        rcases hz with rfl
        · exact ⟨by decide, xI, by decide +kernel, by decide +kernel, w_636⟩), by decide, by decide, w_637, rfl⟩, fun r => ?_⟩
      refine G.go tv_L_release 2 17 [(0, .ref (gAd E (0))), (1, .int (a0)), (2, .ref (gAd E (93))), (3, .ref (r))] [.int ((2 : Int32))] rfl ?_
      exact G.iretH rfl rfl (Or.inr (Or.inr (⟨rfl, q⟩))) (by decide) (by decide) (tbd tv_L_release rfl)
theorem w_1687 : Cond.codeWith yL_read method_20_code 5 (some .int) [(0, 10, 13, 13)] ∈ TB := tp_7 101 (by decide +kernel) rfl
def tb_L_read : List (Nat × Instr × Nat) := [(0, .aload_n 3, 1), (1, .iconst 0, 1), (2, .aload_n 0, 1), (3, .iload_n 1, 1), (4, .iload_n 2, 1), (5, .invokevirtual 72, 3), (8, .i2l, 1), (9, .lastore, 1), (10, .goto 7, 3), (13, .astore 4, 2), (15, .iconst 1, 1), (16, .ireturn, 1), (17, .iconst 0, 1), (18, .ireturn, 1)]
theorem tv_L_read : Tv cL_read tb_L_read := by
  unfold Tv
  decide +kernel
theorem w_1688 : Cond.methodLink "LedgerFilesLaw" 72 yX11_read ∈ TB := tp_7 102 (by decide +kernel) rfl
theorem w_1691 : Cond.code yX11_read prog_1_method_35_code 3 (some .int) ∈ TB := tp_7 105 rfl rfl
theorem cw_L_72 : Cw RL 72 yX11_read cX11_read 3 (some .int) 2 := ⟨w_1688, w_1691, w_147, by decide +kernel, by decide +kernel, by decide⟩
theorem w_1689 : Cond.instanceMethod yX11_read ∈ TB := tp_7 103 (by decide +kernel) rfl
theorem w_1690 : Cond.selects "LedgerFiles" yX11_read yX11_read ∈ TB := tp_7 104 (by decide +kernel) rfl
set_option maxRecDepth 100000 in
set_option maxHeartbeats 4000000 in
theorem h_L_read (E : gE) (f : Nat → va_E) (hE : 94 ≤ gN E) {Q' : gQ} {h' : Nat} (a0 : Int32) (a1 : Int32) (hM : Ct E h' yX11_read cX11_read 3 (some .int) [.ref (gAd E (0)), .int (a0), .int (a1)] f Q') (hh : h' ≤ 110) {fs : List Value} (h0 : f 0 = .inr (11, fs)) (hn : ∀ v g, Q'.1 v g → ∃ (x : Int32) (o : Nat → Int64), v = some (.int x) ∧ g 93 = oJ (gDA E) 1 o) (hx : ∀ X g, Q'.2 X g → X = xI) : Ch E 120 yL_read cL_read 5 (some .int) [(0, 10, 13, 13)] [.ref (gAd E (0)), .int (a0), .int (a1), .ref (gAd E (93))] f (fun v g => (v = some (.int 0) ∧ ∃ x o g0, Q'.1 (some (.int x)) g0 ∧ g0 93 = oJ (gDA E) 1 o ∧ g = va_up g0 93 (oJ (gDA E) 1 (vp_updL o 0 x.toInt64))) ∨ (v = some (.int 1) ∧ Q'.2 xI g)) := by
  refine Ch.of (by decide) (by decide) (Nat.le_of_ble_eq_true rfl) (fun sz => ?_)
  refine G.eql [(0, .ref (gAd E (0))), (1, .int (a0)), (2, .int (a1)), (3, .ref (gAd E (93)))] rfl ?_
  refine G.go tv_L_read 5 5 [(0, .ref (gAd E (0))), (1, .int (a0)), (2, .int (a1)), (3, .ref (gAd E (93)))] [.int (a1), .int (a0), .ref (gAd E (0)), .int ((0 : Int32)), .ref (gAd E (93))] rfl ?_
  refine G.callVC 0 [.int (a0), .int (a1)] [.int ((0 : Int32)), .ref (gAd E (93))] hM cls_X11 (by omega) h0 cw_L_72 w_1689 w_1690 (by omega) rfl (Nat.le_of_ble_eq_true rfl) (tbd tv_L_read rfl) w_1687 (fun v g q => ?_) (fun X g q => ?_)
  · skip
    obtain ⟨x, o, rfl, e93⟩ := hn v g q
    refine G.eqs [.int (x), .int ((0 : Int32)), .ref (gAd E (93))] rfl ?_
    refine G.go tv_L_read 1 9 [(0, .ref (gAd E (0))), (1, .int (a0)), (2, .int (a1)), (3, .ref (gAd E (93)))] [.long ((x : Int32).toInt64), .int ((0 : Int32)), .ref (gAd E (93))] rfl ?_
    refine G.eqs [.long ((x : Int32).toInt64), .int (nI (0)), .ref (gAd E (93))] (by rw [show (0 : Int32) = nI 0 from rfl]) ?_
    refine G.lastN (93) (0) (by omega) (e93) (by decide) (by decide) (tbd tv_L_read rfl) ?_
    refine G.go tv_L_read 2 18 [(0, .ref (gAd E (0))), (1, .int (a0)), (2, .int (a1)), (3, .ref (gAd E (93)))] [.int ((0 : Int32))] rfl ?_
    exact G.iretH rfl rfl (Or.inl ⟨rfl, x, o, g, q, e93, rfl⟩) (by decide) (by decide) (tbd tv_L_read rfl)
  · rcases hx X g q with rfl
    · refine ⟨13, ⟨by decide +kernel, (tableOf [(0, 10, 13, 13)]).take 0, (tableOf [(0, 10, 13, 13)])[0]'(by decide), (tableOf [(0, 10, 13, 13)]).drop 1, rfl, (fun z hz => nomatch hz), by decide, by decide, w_636, rfl⟩, fun r => ?_⟩
      refine G.go tv_L_read 2 16 [(0, .ref (gAd E (0))), (1, .int (a0)), (2, .int (a1)), (3, .ref (gAd E (93))), (4, .ref (r))] [.int ((1 : Int32))] rfl ?_
      exact G.iretH rfl rfl (Or.inr (⟨rfl, q⟩)) (by decide) (by decide) (tbd tv_L_read rfl)
theorem w_1698 : Cond.codeWith yL_about method_21_code 5 (some .int) [(0, 10, 13, 13), (0, 10, 17, 20) ] ∈ TB := tp_7 112 (by decide +kernel) rfl
def tb_L_about : List (Nat × Instr × Nat) := [(0, .aload_n 3, 1), (1, .iconst 0, 1), (2, .aload_n 0, 1), (3, .iload_n 1, 1), (4, .iload_n 2, 1), (5, .invokevirtual 75, 3), (8, .i2l, 1), (9, .lastore, 1), (10, .goto 11, 3), (13, .astore 4, 2), (15, .iconst 1, 1), (16, .ireturn, 1), (17, .astore 4, 2), (19, .iconst 2, 1), (20, .ireturn, 1), (21, .iconst 0, 1), (22, .ireturn, 1)]
theorem tv_L_about : Tv cL_about tb_L_about := by
  unfold Tv
  decide +kernel
theorem w_1699 : Cond.methodLink "LedgerFilesLaw" 75 yX11_about ∈ TB := tp_7 113 (by decide +kernel) rfl
theorem w_1702 : Cond.code yX11_about prog_1_method_36_code 4 (some .int) ∈ TB := tp_7 116 rfl rfl
theorem cw_L_75 : Cw RL 75 yX11_about cX11_about 4 (some .int) 2 := ⟨w_1699, w_1702, w_147, by decide +kernel, by decide +kernel, by decide⟩
theorem w_1700 : Cond.instanceMethod yX11_about ∈ TB := tp_7 114 (by decide +kernel) rfl
theorem w_1701 : Cond.selects "LedgerFiles" yX11_about yX11_about ∈ TB := tp_7 115 (by decide +kernel) rfl
set_option maxRecDepth 100000 in
set_option maxHeartbeats 4000000 in
theorem h_L_about (E : gE) (f : Nat → va_E) (hE : 94 ≤ gN E) {Q' : gQ} {h' : Nat} (a0 : Int32) (a1 : Int32) (hM : Ct E h' yX11_about cX11_about 4 (some .int) [.ref (gAd E (0)), .int (a0), .int (a1)] f Q') (hh : h' ≤ 110) {fs : List Value} (h0 : f 0 = .inr (11, fs)) (hn : ∀ v g, Q'.1 v g → ∃ (x : Int32) (o : Nat → Int64), v = some (.int x) ∧ g 93 = oJ (gDA E) 1 o) (hx : ∀ X g, Q'.2 X g → X = xI ∨ X = xA) : Ch E 120 yL_about cL_about 5 (some .int) [(0, 10, 13, 13), (0, 10, 17, 20)] [.ref (gAd E (0)), .int (a0), .int (a1), .ref (gAd E (93))] f (fun v g => (v = some (.int 0) ∧ ∃ x o g0, Q'.1 (some (.int x)) g0 ∧ g0 93 = oJ (gDA E) 1 o ∧ g = va_up g0 93 (oJ (gDA E) 1 (vp_updL o 0 x.toInt64))) ∨ (v = some (.int 1) ∧ Q'.2 xI g) ∨ (v = some (.int 2) ∧ Q'.2 xA g)) := by
  refine Ch.of (by decide) (by decide) (Nat.le_of_ble_eq_true rfl) (fun sz => ?_)
  refine G.eql [(0, .ref (gAd E (0))), (1, .int (a0)), (2, .int (a1)), (3, .ref (gAd E (93)))] rfl ?_
  refine G.go tv_L_about 5 5 [(0, .ref (gAd E (0))), (1, .int (a0)), (2, .int (a1)), (3, .ref (gAd E (93)))] [.int (a1), .int (a0), .ref (gAd E (0)), .int ((0 : Int32)), .ref (gAd E (93))] rfl ?_
  refine G.callVC 0 [.int (a0), .int (a1)] [.int ((0 : Int32)), .ref (gAd E (93))] hM cls_X11 (by omega) h0 cw_L_75 w_1700 w_1701 (by omega) rfl (Nat.le_of_ble_eq_true rfl) (tbd tv_L_about rfl) w_1698 (fun v g q => ?_) (fun X g q => ?_)
  · skip
    obtain ⟨x, o, rfl, e93⟩ := hn v g q
    refine G.eqs [.int (x), .int ((0 : Int32)), .ref (gAd E (93))] rfl ?_
    refine G.go tv_L_about 1 9 [(0, .ref (gAd E (0))), (1, .int (a0)), (2, .int (a1)), (3, .ref (gAd E (93)))] [.long ((x : Int32).toInt64), .int ((0 : Int32)), .ref (gAd E (93))] rfl ?_
    refine G.eqs [.long ((x : Int32).toInt64), .int (nI (0)), .ref (gAd E (93))] (by rw [show (0 : Int32) = nI 0 from rfl]) ?_
    refine G.lastN (93) (0) (by omega) (e93) (by decide) (by decide) (tbd tv_L_about rfl) ?_
    refine G.go tv_L_about 2 22 [(0, .ref (gAd E (0))), (1, .int (a0)), (2, .int (a1)), (3, .ref (gAd E (93)))] [.int ((0 : Int32))] rfl ?_
    exact G.iretH rfl rfl (Or.inl ⟨rfl, x, o, g, q, e93, rfl⟩) (by decide) (by decide) (tbd tv_L_about rfl)
  · rcases hx X g q with rfl | rfl
    · refine ⟨13, ⟨by decide +kernel, (tableOf [(0, 10, 13, 13), (0, 10, 17, 20)]).take 0, (tableOf [(0, 10, 13, 13), (0, 10, 17, 20)])[0]'(by decide), (tableOf [(0, 10, 13, 13), (0, 10, 17, 20)]).drop 1, rfl, (fun z hz => nomatch hz), by decide, by decide, w_636, rfl⟩, fun r => ?_⟩
      refine G.go tv_L_about 2 16 [(0, .ref (gAd E (0))), (1, .int (a0)), (2, .int (a1)), (3, .ref (gAd E (93))), (4, .ref (r))] [.int ((1 : Int32))] rfl ?_
      exact G.iretH rfl rfl (Or.inr (Or.inl ⟨rfl, q⟩)) (by decide) (by decide) (tbd tv_L_about rfl)
    · refine ⟨17, ⟨by decide +kernel, (tableOf [(0, 10, 13, 13), (0, 10, 17, 20)]).take 1, (tableOf [(0, 10, 13, 13), (0, 10, 17, 20)])[1]'(by decide), (tableOf [(0, 10, 13, 13), (0, 10, 17, 20)]).drop 2, rfl, (fun z hz => by
        simp only [tableOf, List.map, List.take, List.mem_cons, List.not_mem_nil, or_false] at hz
        rcases hz with rfl
        · exact ⟨by decide, xI, by decide +kernel, by decide +kernel, w_636⟩), by decide, by decide, w_819, rfl⟩, fun r => ?_⟩
      refine G.go tv_L_about 2 20 [(0, .ref (gAd E (0))), (1, .int (a0)), (2, .int (a1)), (3, .ref (gAd E (93))), (4, .ref (r))] [.int ((2 : Int32))] rfl ?_
      exact G.iretH rfl rfl (Or.inr (Or.inr (⟨rfl, q⟩))) (by decide) (by decide) (tbd tv_L_about rfl)
theorem w_1711 : Cond.codeWith yL_where method_22_code 5 (some .int) [(0, 10, 13, 13), (0, 10, 17, 20) ] ∈ TB := tp_7 125 (by decide +kernel) rfl
def tb_L_where : List (Nat × Instr × Nat) := [(0, .aload_n 3, 1), (1, .iconst 0, 1), (2, .aload_n 0, 1), (3, .iload_n 1, 1), (4, .iload_n 2, 1), (5, .invokevirtual 78, 3), (8, .i2l, 1), (9, .lastore, 1), (10, .goto 11, 3), (13, .astore 4, 2), (15, .iconst 1, 1), (16, .ireturn, 1), (17, .astore 4, 2), (19, .iconst 2, 1), (20, .ireturn, 1), (21, .iconst 0, 1), (22, .ireturn, 1)]
theorem tv_L_where : Tv cL_where tb_L_where := by
  unfold Tv
  decide +kernel
theorem w_1712 : Cond.methodLink "LedgerFilesLaw" 78 yX11_where ∈ TB := tp_7 126 (by decide +kernel) rfl
theorem w_1715 : Cond.code yX11_where prog_1_method_37_code 3 (some .int) ∈ TB := tp_7 129 rfl rfl
theorem cw_L_78 : Cw RL 78 yX11_where cX11_where 3 (some .int) 2 := ⟨w_1712, w_1715, w_147, by decide +kernel, by decide +kernel, by decide⟩
theorem w_1713 : Cond.instanceMethod yX11_where ∈ TB := tp_7 127 (by decide +kernel) rfl
theorem w_1714 : Cond.selects "LedgerFiles" yX11_where yX11_where ∈ TB := tp_7 128 (by decide +kernel) rfl
set_option maxRecDepth 100000 in
set_option maxHeartbeats 4000000 in
theorem h_L_where (E : gE) (f : Nat → va_E) (hE : 94 ≤ gN E) {Q' : gQ} {h' : Nat} (a0 : Int32) (a1 : Int32) (hM : Ct E h' yX11_where cX11_where 3 (some .int) [.ref (gAd E (0)), .int (a0), .int (a1)] f Q') (hh : h' ≤ 110) {fs : List Value} (h0 : f 0 = .inr (11, fs)) (hn : ∀ v g, Q'.1 v g → ∃ (x : Int32) (o : Nat → Int64), v = some (.int x) ∧ g 93 = oJ (gDA E) 1 o) (hx : ∀ X g, Q'.2 X g → X = xI ∨ X = xA) : Ch E 120 yL_where cL_where 5 (some .int) [(0, 10, 13, 13), (0, 10, 17, 20)] [.ref (gAd E (0)), .int (a0), .int (a1), .ref (gAd E (93))] f (fun v g => (v = some (.int 0) ∧ ∃ x o g0, Q'.1 (some (.int x)) g0 ∧ g0 93 = oJ (gDA E) 1 o ∧ g = va_up g0 93 (oJ (gDA E) 1 (vp_updL o 0 x.toInt64))) ∨ (v = some (.int 1) ∧ Q'.2 xI g) ∨ (v = some (.int 2) ∧ Q'.2 xA g)) := by
  refine Ch.of (by decide) (by decide) (Nat.le_of_ble_eq_true rfl) (fun sz => ?_)
  refine G.eql [(0, .ref (gAd E (0))), (1, .int (a0)), (2, .int (a1)), (3, .ref (gAd E (93)))] rfl ?_
  refine G.go tv_L_where 5 5 [(0, .ref (gAd E (0))), (1, .int (a0)), (2, .int (a1)), (3, .ref (gAd E (93)))] [.int (a1), .int (a0), .ref (gAd E (0)), .int ((0 : Int32)), .ref (gAd E (93))] rfl ?_
  refine G.callVC 0 [.int (a0), .int (a1)] [.int ((0 : Int32)), .ref (gAd E (93))] hM cls_X11 (by omega) h0 cw_L_78 w_1713 w_1714 (by omega) rfl (Nat.le_of_ble_eq_true rfl) (tbd tv_L_where rfl) w_1711 (fun v g q => ?_) (fun X g q => ?_)
  · skip
    obtain ⟨x, o, rfl, e93⟩ := hn v g q
    refine G.eqs [.int (x), .int ((0 : Int32)), .ref (gAd E (93))] rfl ?_
    refine G.go tv_L_where 1 9 [(0, .ref (gAd E (0))), (1, .int (a0)), (2, .int (a1)), (3, .ref (gAd E (93)))] [.long ((x : Int32).toInt64), .int ((0 : Int32)), .ref (gAd E (93))] rfl ?_
    refine G.eqs [.long ((x : Int32).toInt64), .int (nI (0)), .ref (gAd E (93))] (by rw [show (0 : Int32) = nI 0 from rfl]) ?_
    refine G.lastN (93) (0) (by omega) (e93) (by decide) (by decide) (tbd tv_L_where rfl) ?_
    refine G.go tv_L_where 2 22 [(0, .ref (gAd E (0))), (1, .int (a0)), (2, .int (a1)), (3, .ref (gAd E (93)))] [.int ((0 : Int32))] rfl ?_
    exact G.iretH rfl rfl (Or.inl ⟨rfl, x, o, g, q, e93, rfl⟩) (by decide) (by decide) (tbd tv_L_where rfl)
  · rcases hx X g q with rfl | rfl
    · refine ⟨13, ⟨by decide +kernel, (tableOf [(0, 10, 13, 13), (0, 10, 17, 20)]).take 0, (tableOf [(0, 10, 13, 13), (0, 10, 17, 20)])[0]'(by decide), (tableOf [(0, 10, 13, 13), (0, 10, 17, 20)]).drop 1, rfl, (fun z hz => nomatch hz), by decide, by decide, w_636, rfl⟩, fun r => ?_⟩
      refine G.go tv_L_where 2 16 [(0, .ref (gAd E (0))), (1, .int (a0)), (2, .int (a1)), (3, .ref (gAd E (93))), (4, .ref (r))] [.int ((1 : Int32))] rfl ?_
      exact G.iretH rfl rfl (Or.inr (Or.inl ⟨rfl, q⟩)) (by decide) (by decide) (tbd tv_L_where rfl)
    · refine ⟨17, ⟨by decide +kernel, (tableOf [(0, 10, 13, 13), (0, 10, 17, 20)]).take 1, (tableOf [(0, 10, 13, 13), (0, 10, 17, 20)])[1]'(by decide), (tableOf [(0, 10, 13, 13), (0, 10, 17, 20)]).drop 2, rfl, (fun z hz => by
        simp only [tableOf, List.map, List.take, List.mem_cons, List.not_mem_nil, or_false] at hz
        rcases hz with rfl
        · exact ⟨by decide, xI, by decide +kernel, by decide +kernel, w_636⟩), by decide, by decide, w_819, rfl⟩, fun r => ?_⟩
      refine G.go tv_L_where 2 20 [(0, .ref (gAd E (0))), (1, .int (a0)), (2, .int (a1)), (3, .ref (gAd E (93))), (4, .ref (r))] [.int ((2 : Int32))] rfl ?_
      exact G.iretH rfl rfl (Or.inr (Or.inr (⟨rfl, q⟩))) (by decide) (by decide) (tbd tv_L_where rfl)
theorem w_1720 : Cond.codeWith yL_entry method_23_code 5 (some .int) [(0, 10, 13, 13), (0, 10, 17, 84) ] ∈ TB := tp_7 134 (by decide +kernel) rfl
theorem w_1721 : Cond.classLink "LedgerFilesLaw" 84 "java/util/NoSuchElementException" ∈ TB := tp_7 135 (by decide +kernel) rfl
def tb_L_entry : List (Nat × Instr × Nat) := [(0, .aload_n 3, 1), (1, .iconst 0, 1), (2, .aload_n 0, 1), (3, .iload_n 1, 1), (4, .iload_n 2, 1), (5, .invokevirtual 81, 3), (8, .i2l, 1), (9, .lastore, 1), (10, .goto 11, 3), (13, .astore 4, 2), (15, .iconst 1, 1), (16, .ireturn, 1), (17, .astore 4, 2), (19, .iconst 2, 1), (20, .ireturn, 1), (21, .iconst 0, 1), (22, .ireturn, 1)]
theorem tv_L_entry : Tv cL_entry tb_L_entry := by
  unfold Tv
  decide +kernel
theorem w_1722 : Cond.methodLink "LedgerFilesLaw" 81 yX11_entry ∈ TB := tp_7 136 (by decide +kernel) rfl
theorem w_1725 : Cond.code yX11_entry prog_1_method_38_code 4 (some .int) ∈ TB := tp_7 139 rfl rfl
theorem cw_L_81 : Cw RL 81 yX11_entry cX11_entry 4 (some .int) 2 := ⟨w_1722, w_1725, w_147, by decide +kernel, by decide +kernel, by decide⟩
theorem w_1723 : Cond.instanceMethod yX11_entry ∈ TB := tp_7 137 (by decide +kernel) rfl
theorem w_1724 : Cond.selects "LedgerFiles" yX11_entry yX11_entry ∈ TB := tp_7 138 (by decide +kernel) rfl
set_option maxRecDepth 100000 in
set_option maxHeartbeats 4000000 in
theorem h_L_entry (E : gE) (f : Nat → va_E) (hE : 94 ≤ gN E) {Q' : gQ} {h' : Nat} (a0 : Int32) (a1 : Int32) (hM : Ct E h' yX11_entry cX11_entry 4 (some .int) [.ref (gAd E (0)), .int (a0), .int (a1)] f Q') (hh : h' ≤ 110) {fs : List Value} (h0 : f 0 = .inr (11, fs)) (hn : ∀ v g, Q'.1 v g → ∃ (x : Int32) (o : Nat → Int64), v = some (.int x) ∧ g 93 = oJ (gDA E) 1 o) (hx : ∀ X g, Q'.2 X g → X = xI ∨ X = xN) : Ch E 120 yL_entry cL_entry 5 (some .int) [(0, 10, 13, 13), (0, 10, 17, 84)] [.ref (gAd E (0)), .int (a0), .int (a1), .ref (gAd E (93))] f (fun v g => (v = some (.int 0) ∧ ∃ x o g0, Q'.1 (some (.int x)) g0 ∧ g0 93 = oJ (gDA E) 1 o ∧ g = va_up g0 93 (oJ (gDA E) 1 (vp_updL o 0 x.toInt64))) ∨ (v = some (.int 1) ∧ Q'.2 xI g) ∨ (v = some (.int 2) ∧ Q'.2 xN g)) := by
  refine Ch.of (by decide) (by decide) (Nat.le_of_ble_eq_true rfl) (fun sz => ?_)
  refine G.eql [(0, .ref (gAd E (0))), (1, .int (a0)), (2, .int (a1)), (3, .ref (gAd E (93)))] rfl ?_
  refine G.go tv_L_entry 5 5 [(0, .ref (gAd E (0))), (1, .int (a0)), (2, .int (a1)), (3, .ref (gAd E (93)))] [.int (a1), .int (a0), .ref (gAd E (0)), .int ((0 : Int32)), .ref (gAd E (93))] rfl ?_
  refine G.callVC 0 [.int (a0), .int (a1)] [.int ((0 : Int32)), .ref (gAd E (93))] hM cls_X11 (by omega) h0 cw_L_81 w_1723 w_1724 (by omega) rfl (Nat.le_of_ble_eq_true rfl) (tbd tv_L_entry rfl) w_1720 (fun v g q => ?_) (fun X g q => ?_)
  · skip
    obtain ⟨x, o, rfl, e93⟩ := hn v g q
    refine G.eqs [.int (x), .int ((0 : Int32)), .ref (gAd E (93))] rfl ?_
    refine G.go tv_L_entry 1 9 [(0, .ref (gAd E (0))), (1, .int (a0)), (2, .int (a1)), (3, .ref (gAd E (93)))] [.long ((x : Int32).toInt64), .int ((0 : Int32)), .ref (gAd E (93))] rfl ?_
    refine G.eqs [.long ((x : Int32).toInt64), .int (nI (0)), .ref (gAd E (93))] (by rw [show (0 : Int32) = nI 0 from rfl]) ?_
    refine G.lastN (93) (0) (by omega) (e93) (by decide) (by decide) (tbd tv_L_entry rfl) ?_
    refine G.go tv_L_entry 2 22 [(0, .ref (gAd E (0))), (1, .int (a0)), (2, .int (a1)), (3, .ref (gAd E (93)))] [.int ((0 : Int32))] rfl ?_
    exact G.iretH rfl rfl (Or.inl ⟨rfl, x, o, g, q, e93, rfl⟩) (by decide) (by decide) (tbd tv_L_entry rfl)
  · rcases hx X g q with rfl | rfl
    · refine ⟨13, ⟨by decide +kernel, (tableOf [(0, 10, 13, 13), (0, 10, 17, 84)]).take 0, (tableOf [(0, 10, 13, 13), (0, 10, 17, 84)])[0]'(by decide), (tableOf [(0, 10, 13, 13), (0, 10, 17, 84)]).drop 1, rfl, (fun z hz => nomatch hz), by decide, by decide, w_636, rfl⟩, fun r => ?_⟩
      refine G.go tv_L_entry 2 16 [(0, .ref (gAd E (0))), (1, .int (a0)), (2, .int (a1)), (3, .ref (gAd E (93))), (4, .ref (r))] [.int ((1 : Int32))] rfl ?_
      exact G.iretH rfl rfl (Or.inr (Or.inl ⟨rfl, q⟩)) (by decide) (by decide) (tbd tv_L_entry rfl)
    · refine ⟨17, ⟨by decide +kernel, (tableOf [(0, 10, 13, 13), (0, 10, 17, 84)]).take 1, (tableOf [(0, 10, 13, 13), (0, 10, 17, 84)])[1]'(by decide), (tableOf [(0, 10, 13, 13), (0, 10, 17, 84)]).drop 2, rfl, (fun z hz => by
        simp only [tableOf, List.map, List.take, List.mem_cons, List.not_mem_nil, or_false] at hz
        rcases hz with rfl
        · exact ⟨by decide, xI, by decide +kernel, by decide +kernel, w_636⟩), by decide, by decide, w_1721, rfl⟩, fun r => ?_⟩
      refine G.go tv_L_entry 2 20 [(0, .ref (gAd E (0))), (1, .int (a0)), (2, .int (a1)), (3, .ref (gAd E (93))), (4, .ref (r))] [.int ((2 : Int32))] rfl ?_
      exact G.iretH rfl rfl (Or.inr (Or.inr (⟨rfl, q⟩))) (by decide) (by decide) (tbd tv_L_entry rfl)
theorem w_1748 : Cond.codeWith yL_letter method_24_code 6 (some .int) [(0, 12, 15, 13), (0, 12, 19, 84) ] ∈ TB := tp_7 162 (by decide +kernel) rfl
def tb_L_letter : List (Nat × Instr × Nat) := [(0, .aload 4, 2), (2, .iconst 0, 1), (3, .aload_n 0, 1), (4, .iload_n 1, 1), (5, .iload_n 2, 1), (6, .iload_n 3, 1), (7, .invokevirtual 86, 3), (10, .i2l, 1), (11, .lastore, 1), (12, .goto 11, 3), (15, .astore 5, 2), (17, .iconst 1, 1), (18, .ireturn, 1), (19, .astore 5, 2), (21, .iconst 2, 1), (22, .ireturn, 1), (23, .iconst 0, 1), (24, .ireturn, 1)]
theorem tv_L_letter : Tv cL_letter tb_L_letter := by
  unfold Tv
  decide +kernel
theorem w_1749 : Cond.methodLink "LedgerFilesLaw" 86 yX11_letter ∈ TB := tp_7 163 (by decide +kernel) rfl
theorem w_1752 : Cond.code yX11_letter prog_1_method_39_code 5 (some .int) ∈ TB := tp_7 166 rfl rfl
theorem cw_L_86 : Cw RL 86 yX11_letter cX11_letter 5 (some .int) 3 := ⟨w_1749, w_1752, w_147, by decide +kernel, by decide +kernel, by decide⟩
theorem w_1750 : Cond.instanceMethod yX11_letter ∈ TB := tp_7 164 (by decide +kernel) rfl
theorem w_1751 : Cond.selects "LedgerFiles" yX11_letter yX11_letter ∈ TB := tp_7 165 (by decide +kernel) rfl
set_option maxRecDepth 100000 in
set_option maxHeartbeats 4000000 in
theorem h_L_letter (E : gE) (f : Nat → va_E) (hE : 94 ≤ gN E) {Q' : gQ} {h' : Nat} (a0 : Int32) (a1 : Int32) (a2 : Int32) (hM : Ct E h' yX11_letter cX11_letter 5 (some .int) [.ref (gAd E (0)), .int (a0), .int (a1), .int (a2)] f Q') (hh : h' ≤ 110) {fs : List Value} (h0 : f 0 = .inr (11, fs)) (hn : ∀ v g, Q'.1 v g → ∃ (x : Int32) (o : Nat → Int64), v = some (.int x) ∧ g 93 = oJ (gDA E) 1 o) (hx : ∀ X g, Q'.2 X g → X = xI ∨ X = xN) : Ch E 120 yL_letter cL_letter 6 (some .int) [(0, 12, 15, 13), (0, 12, 19, 84)] [.ref (gAd E (0)), .int (a0), .int (a1), .int (a2), .ref (gAd E (93))] f (fun v g => (v = some (.int 0) ∧ ∃ x o g0, Q'.1 (some (.int x)) g0 ∧ g0 93 = oJ (gDA E) 1 o ∧ g = va_up g0 93 (oJ (gDA E) 1 (vp_updL o 0 x.toInt64))) ∨ (v = some (.int 1) ∧ Q'.2 xI g) ∨ (v = some (.int 2) ∧ Q'.2 xN g)) := by
  refine Ch.of (by decide) (by decide) (Nat.le_of_ble_eq_true rfl) (fun sz => ?_)
  refine G.eql [(0, .ref (gAd E (0))), (1, .int (a0)), (2, .int (a1)), (3, .int (a2)), (4, .ref (gAd E (93)))] rfl ?_
  refine G.go tv_L_letter 6 7 [(0, .ref (gAd E (0))), (1, .int (a0)), (2, .int (a1)), (3, .int (a2)), (4, .ref (gAd E (93)))] [.int (a2), .int (a1), .int (a0), .ref (gAd E (0)), .int ((0 : Int32)), .ref (gAd E (93))] rfl ?_
  refine G.callVC 0 [.int (a0), .int (a1), .int (a2)] [.int ((0 : Int32)), .ref (gAd E (93))] hM cls_X11 (by omega) h0 cw_L_86 w_1750 w_1751 (by omega) rfl (Nat.le_of_ble_eq_true rfl) (tbd tv_L_letter rfl) w_1748 (fun v g q => ?_) (fun X g q => ?_)
  · skip
    obtain ⟨x, o, rfl, e93⟩ := hn v g q
    refine G.eqs [.int (x), .int ((0 : Int32)), .ref (gAd E (93))] rfl ?_
    refine G.go tv_L_letter 1 11 [(0, .ref (gAd E (0))), (1, .int (a0)), (2, .int (a1)), (3, .int (a2)), (4, .ref (gAd E (93)))] [.long ((x : Int32).toInt64), .int ((0 : Int32)), .ref (gAd E (93))] rfl ?_
    refine G.eqs [.long ((x : Int32).toInt64), .int (nI (0)), .ref (gAd E (93))] (by rw [show (0 : Int32) = nI 0 from rfl]) ?_
    refine G.lastN (93) (0) (by omega) (e93) (by decide) (by decide) (tbd tv_L_letter rfl) ?_
    refine G.go tv_L_letter 2 24 [(0, .ref (gAd E (0))), (1, .int (a0)), (2, .int (a1)), (3, .int (a2)), (4, .ref (gAd E (93)))] [.int ((0 : Int32))] rfl ?_
    exact G.iretH rfl rfl (Or.inl ⟨rfl, x, o, g, q, e93, rfl⟩) (by decide) (by decide) (tbd tv_L_letter rfl)
  · rcases hx X g q with rfl | rfl
    · refine ⟨15, ⟨by decide +kernel, (tableOf [(0, 12, 15, 13), (0, 12, 19, 84)]).take 0, (tableOf [(0, 12, 15, 13), (0, 12, 19, 84)])[0]'(by decide), (tableOf [(0, 12, 15, 13), (0, 12, 19, 84)]).drop 1, rfl, (fun z hz => nomatch hz), by decide, by decide, w_636, rfl⟩, fun r => ?_⟩
      refine G.go tv_L_letter 2 18 [(0, .ref (gAd E (0))), (1, .int (a0)), (2, .int (a1)), (3, .int (a2)), (4, .ref (gAd E (93))), (5, .ref (r))] [.int ((1 : Int32))] rfl ?_
      exact G.iretH rfl rfl (Or.inr (Or.inl ⟨rfl, q⟩)) (by decide) (by decide) (tbd tv_L_letter rfl)
    · refine ⟨19, ⟨by decide +kernel, (tableOf [(0, 12, 15, 13), (0, 12, 19, 84)]).take 1, (tableOf [(0, 12, 15, 13), (0, 12, 19, 84)])[1]'(by decide), (tableOf [(0, 12, 15, 13), (0, 12, 19, 84)]).drop 2, rfl, (fun z hz => by
        simp only [tableOf, List.map, List.take, List.mem_cons, List.not_mem_nil, or_false] at hz
        rcases hz with rfl
        · exact ⟨by decide, xI, by decide +kernel, by decide +kernel, w_636⟩), by decide, by decide, w_1721, rfl⟩, fun r => ?_⟩
      refine G.go tv_L_letter 2 22 [(0, .ref (gAd E (0))), (1, .int (a0)), (2, .int (a1)), (3, .int (a2)), (4, .ref (gAd E (93))), (5, .ref (r))] [.int ((2 : Int32))] rfl ?_
      exact G.iretH rfl rfl (Or.inr (Or.inr (⟨rfl, q⟩))) (by decide) (by decide) (tbd tv_L_letter rfl)
theorem w_1760 : Cond.codeWith yL_open method_25_code 4 (some .int) [(0, 9, 12, 13), (0, 9, 15, 15) , (0, 9, 18, 20) ] ∈ TB := tp_7 174 (by decide +kernel) rfl
def tb_L_open : List (Nat × Instr × Nat) := [(0, .aload_n 2, 1), (1, .iconst 0, 1), (2, .aload_n 0, 1), (3, .iload_n 1, 1), (4, .invokevirtual 89, 3), (7, .i2l, 1), (8, .lastore, 1), (9, .goto 12, 3), (12, .astore_n 3, 1), (13, .iconst 1, 1), (14, .ireturn, 1), (15, .astore_n 3, 1), (16, .iconst 2, 1), (17, .ireturn, 1), (18, .astore_n 3, 1), (19, .iconst 3, 1), (20, .ireturn, 1), (21, .iconst 0, 1), (22, .ireturn, 1)]
theorem tv_L_open : Tv cL_open tb_L_open := by
  unfold Tv
  decide +kernel
theorem w_1761 : Cond.methodLink "LedgerFilesLaw" 89 yX11_open ∈ TB := tp_7 175 (by decide +kernel) rfl
theorem w_1764 : Cond.code yX11_open prog_1_method_40_code 9 (some .int) ∈ TB := tp_7 178 rfl rfl
theorem cw_L_89 : Cw RL 89 yX11_open cX11_open 9 (some .int) 1 := ⟨w_1761, w_1764, w_147, by decide +kernel, by decide +kernel, by decide⟩
theorem w_1762 : Cond.instanceMethod yX11_open ∈ TB := tp_7 176 (by decide +kernel) rfl
theorem w_1763 : Cond.selects "LedgerFiles" yX11_open yX11_open ∈ TB := tp_7 177 (by decide +kernel) rfl
set_option maxRecDepth 100000 in
set_option maxHeartbeats 4000000 in
theorem h_L_open (E : gE) (f : Nat → va_E) (hE : 94 ≤ gN E) {Q' : gQ} {h' : Nat} (a0 : Int32) (hM : Ct E h' yX11_open cX11_open 9 (some .int) [.ref (gAd E (0)), .int (a0)] f Q') (hh : h' ≤ 110) {fs : List Value} (h0 : f 0 = .inr (11, fs)) (hn : ∀ v g, Q'.1 v g → ∃ (x : Int32) (o : Nat → Int64), v = some (.int x) ∧ g 93 = oJ (gDA E) 1 o) (hx : ∀ X g, Q'.2 X g → X = xI ∨ X = xU ∨ X = xA) : Ch E 120 yL_open cL_open 4 (some .int) [(0, 9, 12, 13), (0, 9, 15, 15), (0, 9, 18, 20)] [.ref (gAd E (0)), .int (a0), .ref (gAd E (93))] f (fun v g => (v = some (.int 0) ∧ ∃ x o g0, Q'.1 (some (.int x)) g0 ∧ g0 93 = oJ (gDA E) 1 o ∧ g = va_up g0 93 (oJ (gDA E) 1 (vp_updL o 0 x.toInt64))) ∨ (v = some (.int 1) ∧ Q'.2 xI g) ∨ (v = some (.int 2) ∧ Q'.2 xU g) ∨ (v = some (.int 3) ∧ Q'.2 xA g)) := by
  refine Ch.of (by decide) (by decide) (Nat.le_of_ble_eq_true rfl) (fun sz => ?_)
  refine G.eql [(0, .ref (gAd E (0))), (1, .int (a0)), (2, .ref (gAd E (93)))] rfl ?_
  refine G.go tv_L_open 4 4 [(0, .ref (gAd E (0))), (1, .int (a0)), (2, .ref (gAd E (93)))] [.int (a0), .ref (gAd E (0)), .int ((0 : Int32)), .ref (gAd E (93))] rfl ?_
  refine G.callVC 0 [.int (a0)] [.int ((0 : Int32)), .ref (gAd E (93))] hM cls_X11 (by omega) h0 cw_L_89 w_1762 w_1763 (by omega) rfl (Nat.le_of_ble_eq_true rfl) (tbd tv_L_open rfl) w_1760 (fun v g q => ?_) (fun X g q => ?_)
  · skip
    obtain ⟨x, o, rfl, e93⟩ := hn v g q
    refine G.eqs [.int (x), .int ((0 : Int32)), .ref (gAd E (93))] rfl ?_
    refine G.go tv_L_open 1 8 [(0, .ref (gAd E (0))), (1, .int (a0)), (2, .ref (gAd E (93)))] [.long ((x : Int32).toInt64), .int ((0 : Int32)), .ref (gAd E (93))] rfl ?_
    refine G.eqs [.long ((x : Int32).toInt64), .int (nI (0)), .ref (gAd E (93))] (by rw [show (0 : Int32) = nI 0 from rfl]) ?_
    refine G.lastN (93) (0) (by omega) (e93) (by decide) (by decide) (tbd tv_L_open rfl) ?_
    refine G.go tv_L_open 2 22 [(0, .ref (gAd E (0))), (1, .int (a0)), (2, .ref (gAd E (93)))] [.int ((0 : Int32))] rfl ?_
    exact G.iretH rfl rfl (Or.inl ⟨rfl, x, o, g, q, e93, rfl⟩) (by decide) (by decide) (tbd tv_L_open rfl)
  · rcases hx X g q with rfl | rfl | rfl
    · refine ⟨12, ⟨by decide +kernel, (tableOf [(0, 9, 12, 13), (0, 9, 15, 15), (0, 9, 18, 20)]).take 0, (tableOf [(0, 9, 12, 13), (0, 9, 15, 15), (0, 9, 18, 20)])[0]'(by decide), (tableOf [(0, 9, 12, 13), (0, 9, 15, 15), (0, 9, 18, 20)]).drop 1, rfl, (fun z hz => nomatch hz), by decide, by decide, w_636, rfl⟩, fun r => ?_⟩
      refine G.go tv_L_open 2 14 [(0, .ref (gAd E (0))), (1, .int (a0)), (2, .ref (gAd E (93))), (3, .ref (r))] [.int ((1 : Int32))] rfl ?_
      exact G.iretH rfl rfl (Or.inr (Or.inl ⟨rfl, q⟩)) (by decide) (by decide) (tbd tv_L_open rfl)
    · refine ⟨15, ⟨by decide +kernel, (tableOf [(0, 9, 12, 13), (0, 9, 15, 15), (0, 9, 18, 20)]).take 1, (tableOf [(0, 9, 12, 13), (0, 9, 15, 15), (0, 9, 18, 20)])[1]'(by decide), (tableOf [(0, 9, 12, 13), (0, 9, 15, 15), (0, 9, 18, 20)]).drop 2, rfl, (fun z hz => by
        simp only [tableOf, List.map, List.take, List.mem_cons, List.not_mem_nil, or_false] at hz
        rcases hz with rfl
        · exact ⟨by decide, xI, by decide +kernel, by decide +kernel, w_636⟩), by decide, by decide, w_637, rfl⟩, fun r => ?_⟩
      refine G.go tv_L_open 2 17 [(0, .ref (gAd E (0))), (1, .int (a0)), (2, .ref (gAd E (93))), (3, .ref (r))] [.int ((2 : Int32))] rfl ?_
      exact G.iretH rfl rfl (Or.inr (Or.inr (Or.inl ⟨rfl, q⟩))) (by decide) (by decide) (tbd tv_L_open rfl)
    · refine ⟨18, ⟨by decide +kernel, (tableOf [(0, 9, 12, 13), (0, 9, 15, 15), (0, 9, 18, 20)]).take 2, (tableOf [(0, 9, 12, 13), (0, 9, 15, 15), (0, 9, 18, 20)])[2]'(by decide), (tableOf [(0, 9, 12, 13), (0, 9, 15, 15), (0, 9, 18, 20)]).drop 3, rfl, (fun z hz => by
        simp only [tableOf, List.map, List.take, List.mem_cons, List.not_mem_nil, or_false] at hz
        rcases hz with rfl | rfl
        · exact ⟨by decide, xI, by decide +kernel, by decide +kernel, w_636⟩
        · exact ⟨by decide, xU, by decide +kernel, by decide +kernel, w_637⟩), by decide, by decide, w_819, rfl⟩, fun r => ?_⟩
      refine G.go tv_L_open 2 20 [(0, .ref (gAd E (0))), (1, .int (a0)), (2, .ref (gAd E (93))), (3, .ref (r))] [.int ((3 : Int32))] rfl ?_
      exact G.iretH rfl rfl (Or.inr (Or.inr (Or.inr (⟨rfl, q⟩)))) (by decide) (by decide) (tbd tv_L_open rfl)
theorem w_1776 : Cond.codeWith yL_close method_26_code 4 (some .int) [(0, 9, 12, 13), (0, 9, 15, 15) ] ∈ TB := tp_7 190 (by decide +kernel) rfl
def tb_L_close : List (Nat × Instr × Nat) := [(0, .aload_n 2, 1), (1, .iconst 0, 1), (2, .aload_n 0, 1), (3, .iload_n 1, 1), (4, .invokevirtual 92, 3), (7, .i2l, 1), (8, .lastore, 1), (9, .goto 9, 3), (12, .astore_n 3, 1), (13, .iconst 1, 1), (14, .ireturn, 1), (15, .astore_n 3, 1), (16, .iconst 2, 1), (17, .ireturn, 1), (18, .iconst 0, 1), (19, .ireturn, 1)]
theorem tv_L_close : Tv cL_close tb_L_close := by
  unfold Tv
  decide +kernel
theorem w_1777 : Cond.methodLink "LedgerFilesLaw" 92 yX11_close ∈ TB := tp_7 191 (by decide +kernel) rfl
theorem w_1780 : Cond.code yX11_close prog_1_method_41_code 3 (some .int) ∈ TB := tp_7 194 rfl rfl
theorem cw_L_92 : Cw RL 92 yX11_close cX11_close 3 (some .int) 1 := ⟨w_1777, w_1780, w_147, by decide +kernel, by decide +kernel, by decide⟩
theorem w_1778 : Cond.instanceMethod yX11_close ∈ TB := tp_7 192 (by decide +kernel) rfl
theorem w_1779 : Cond.selects "LedgerFiles" yX11_close yX11_close ∈ TB := tp_7 193 (by decide +kernel) rfl
set_option maxRecDepth 100000 in
set_option maxHeartbeats 4000000 in
theorem h_L_close (E : gE) (f : Nat → va_E) (hE : 94 ≤ gN E) {Q' : gQ} {h' : Nat} (a0 : Int32) (hM : Ct E h' yX11_close cX11_close 3 (some .int) [.ref (gAd E (0)), .int (a0)] f Q') (hh : h' ≤ 110) {fs : List Value} (h0 : f 0 = .inr (11, fs)) (hn : ∀ v g, Q'.1 v g → ∃ (x : Int32) (o : Nat → Int64), v = some (.int x) ∧ g 93 = oJ (gDA E) 1 o) (hx : ∀ X g, Q'.2 X g → X = xI ∨ X = xU) : Ch E 120 yL_close cL_close 4 (some .int) [(0, 9, 12, 13), (0, 9, 15, 15)] [.ref (gAd E (0)), .int (a0), .ref (gAd E (93))] f (fun v g => (v = some (.int 0) ∧ ∃ x o g0, Q'.1 (some (.int x)) g0 ∧ g0 93 = oJ (gDA E) 1 o ∧ g = va_up g0 93 (oJ (gDA E) 1 (vp_updL o 0 x.toInt64))) ∨ (v = some (.int 1) ∧ Q'.2 xI g) ∨ (v = some (.int 2) ∧ Q'.2 xU g)) := by
  refine Ch.of (by decide) (by decide) (Nat.le_of_ble_eq_true rfl) (fun sz => ?_)
  refine G.eql [(0, .ref (gAd E (0))), (1, .int (a0)), (2, .ref (gAd E (93)))] rfl ?_
  refine G.go tv_L_close 4 4 [(0, .ref (gAd E (0))), (1, .int (a0)), (2, .ref (gAd E (93)))] [.int (a0), .ref (gAd E (0)), .int ((0 : Int32)), .ref (gAd E (93))] rfl ?_
  refine G.callVC 0 [.int (a0)] [.int ((0 : Int32)), .ref (gAd E (93))] hM cls_X11 (by omega) h0 cw_L_92 w_1778 w_1779 (by omega) rfl (Nat.le_of_ble_eq_true rfl) (tbd tv_L_close rfl) w_1776 (fun v g q => ?_) (fun X g q => ?_)
  · skip
    obtain ⟨x, o, rfl, e93⟩ := hn v g q
    refine G.eqs [.int (x), .int ((0 : Int32)), .ref (gAd E (93))] rfl ?_
    refine G.go tv_L_close 1 8 [(0, .ref (gAd E (0))), (1, .int (a0)), (2, .ref (gAd E (93)))] [.long ((x : Int32).toInt64), .int ((0 : Int32)), .ref (gAd E (93))] rfl ?_
    refine G.eqs [.long ((x : Int32).toInt64), .int (nI (0)), .ref (gAd E (93))] (by rw [show (0 : Int32) = nI 0 from rfl]) ?_
    refine G.lastN (93) (0) (by omega) (e93) (by decide) (by decide) (tbd tv_L_close rfl) ?_
    refine G.go tv_L_close 2 19 [(0, .ref (gAd E (0))), (1, .int (a0)), (2, .ref (gAd E (93)))] [.int ((0 : Int32))] rfl ?_
    exact G.iretH rfl rfl (Or.inl ⟨rfl, x, o, g, q, e93, rfl⟩) (by decide) (by decide) (tbd tv_L_close rfl)
  · rcases hx X g q with rfl | rfl
    · refine ⟨12, ⟨by decide +kernel, (tableOf [(0, 9, 12, 13), (0, 9, 15, 15)]).take 0, (tableOf [(0, 9, 12, 13), (0, 9, 15, 15)])[0]'(by decide), (tableOf [(0, 9, 12, 13), (0, 9, 15, 15)]).drop 1, rfl, (fun z hz => nomatch hz), by decide, by decide, w_636, rfl⟩, fun r => ?_⟩
      refine G.go tv_L_close 2 14 [(0, .ref (gAd E (0))), (1, .int (a0)), (2, .ref (gAd E (93))), (3, .ref (r))] [.int ((1 : Int32))] rfl ?_
      exact G.iretH rfl rfl (Or.inr (Or.inl ⟨rfl, q⟩)) (by decide) (by decide) (tbd tv_L_close rfl)
    · refine ⟨15, ⟨by decide +kernel, (tableOf [(0, 9, 12, 13), (0, 9, 15, 15)]).take 1, (tableOf [(0, 9, 12, 13), (0, 9, 15, 15)])[1]'(by decide), (tableOf [(0, 9, 12, 13), (0, 9, 15, 15)]).drop 2, rfl, (fun z hz => by
        simp only [tableOf, List.map, List.take, List.mem_cons, List.not_mem_nil, or_false] at hz
        rcases hz with rfl
        · exact ⟨by decide, xI, by decide +kernel, by decide +kernel, w_636⟩), by decide, by decide, w_637, rfl⟩, fun r => ?_⟩
      refine G.go tv_L_close 2 17 [(0, .ref (gAd E (0))), (1, .int (a0)), (2, .ref (gAd E (93))), (3, .ref (r))] [.int ((2 : Int32))] rfl ?_
      exact G.iretH rfl rfl (Or.inr (Or.inr (⟨rfl, q⟩))) (by decide) (by decide) (tbd tv_L_close rfl)
theorem w_1787 : Cond.codeWith yL_put method_27_code 4 (some .int) [(0, 9, 12, 13), (0, 9, 15, 15) ] ∈ TB := tp_7 201 (by decide +kernel) rfl
def tb_L_put : List (Nat × Instr × Nat) := [(0, .aload_n 2, 1), (1, .iconst 0, 1), (2, .aload_n 0, 1), (3, .iload_n 1, 1), (4, .invokevirtual 95, 3), (7, .i2l, 1), (8, .lastore, 1), (9, .goto 9, 3), (12, .astore_n 3, 1), (13, .iconst 1, 1), (14, .ireturn, 1), (15, .astore_n 3, 1), (16, .iconst 2, 1), (17, .ireturn, 1), (18, .iconst 0, 1), (19, .ireturn, 1)]
theorem tv_L_put : Tv cL_put tb_L_put := by
  unfold Tv
  decide +kernel
theorem w_1788 : Cond.methodLink "LedgerFilesLaw" 95 yX11_put ∈ TB := tp_7 202 (by decide +kernel) rfl
theorem w_1791 : Cond.code yX11_put prog_1_method_42_code 6 (some .int) ∈ TB := tp_7 205 rfl rfl
theorem cw_L_95 : Cw RL 95 yX11_put cX11_put 6 (some .int) 1 := ⟨w_1788, w_1791, w_147, by decide +kernel, by decide +kernel, by decide⟩
theorem w_1789 : Cond.instanceMethod yX11_put ∈ TB := tp_7 203 (by decide +kernel) rfl
theorem w_1790 : Cond.selects "LedgerFiles" yX11_put yX11_put ∈ TB := tp_7 204 (by decide +kernel) rfl
set_option maxRecDepth 100000 in
set_option maxHeartbeats 4000000 in
theorem h_L_put (E : gE) (f : Nat → va_E) (hE : 94 ≤ gN E) {Q' : gQ} {h' : Nat} (a0 : Int32) (hM : Ct E h' yX11_put cX11_put 6 (some .int) [.ref (gAd E (0)), .int (a0)] f Q') (hh : h' ≤ 110) {fs : List Value} (h0 : f 0 = .inr (11, fs)) (hn : ∀ v g, Q'.1 v g → ∃ (x : Int32) (o : Nat → Int64), v = some (.int x) ∧ g 93 = oJ (gDA E) 1 o) (hx : ∀ X g, Q'.2 X g → X = xI ∨ X = xU) : Ch E 120 yL_put cL_put 4 (some .int) [(0, 9, 12, 13), (0, 9, 15, 15)] [.ref (gAd E (0)), .int (a0), .ref (gAd E (93))] f (fun v g => (v = some (.int 0) ∧ ∃ x o g0, Q'.1 (some (.int x)) g0 ∧ g0 93 = oJ (gDA E) 1 o ∧ g = va_up g0 93 (oJ (gDA E) 1 (vp_updL o 0 x.toInt64))) ∨ (v = some (.int 1) ∧ Q'.2 xI g) ∨ (v = some (.int 2) ∧ Q'.2 xU g)) := by
  refine Ch.of (by decide) (by decide) (Nat.le_of_ble_eq_true rfl) (fun sz => ?_)
  refine G.eql [(0, .ref (gAd E (0))), (1, .int (a0)), (2, .ref (gAd E (93)))] rfl ?_
  refine G.go tv_L_put 4 4 [(0, .ref (gAd E (0))), (1, .int (a0)), (2, .ref (gAd E (93)))] [.int (a0), .ref (gAd E (0)), .int ((0 : Int32)), .ref (gAd E (93))] rfl ?_
  refine G.callVC 0 [.int (a0)] [.int ((0 : Int32)), .ref (gAd E (93))] hM cls_X11 (by omega) h0 cw_L_95 w_1789 w_1790 (by omega) rfl (Nat.le_of_ble_eq_true rfl) (tbd tv_L_put rfl) w_1787 (fun v g q => ?_) (fun X g q => ?_)
  · skip
    obtain ⟨x, o, rfl, e93⟩ := hn v g q
    refine G.eqs [.int (x), .int ((0 : Int32)), .ref (gAd E (93))] rfl ?_
    refine G.go tv_L_put 1 8 [(0, .ref (gAd E (0))), (1, .int (a0)), (2, .ref (gAd E (93)))] [.long ((x : Int32).toInt64), .int ((0 : Int32)), .ref (gAd E (93))] rfl ?_
    refine G.eqs [.long ((x : Int32).toInt64), .int (nI (0)), .ref (gAd E (93))] (by rw [show (0 : Int32) = nI 0 from rfl]) ?_
    refine G.lastN (93) (0) (by omega) (e93) (by decide) (by decide) (tbd tv_L_put rfl) ?_
    refine G.go tv_L_put 2 19 [(0, .ref (gAd E (0))), (1, .int (a0)), (2, .ref (gAd E (93)))] [.int ((0 : Int32))] rfl ?_
    exact G.iretH rfl rfl (Or.inl ⟨rfl, x, o, g, q, e93, rfl⟩) (by decide) (by decide) (tbd tv_L_put rfl)
  · rcases hx X g q with rfl | rfl
    · refine ⟨12, ⟨by decide +kernel, (tableOf [(0, 9, 12, 13), (0, 9, 15, 15)]).take 0, (tableOf [(0, 9, 12, 13), (0, 9, 15, 15)])[0]'(by decide), (tableOf [(0, 9, 12, 13), (0, 9, 15, 15)]).drop 1, rfl, (fun z hz => nomatch hz), by decide, by decide, w_636, rfl⟩, fun r => ?_⟩
      refine G.go tv_L_put 2 14 [(0, .ref (gAd E (0))), (1, .int (a0)), (2, .ref (gAd E (93))), (3, .ref (r))] [.int ((1 : Int32))] rfl ?_
      exact G.iretH rfl rfl (Or.inr (Or.inl ⟨rfl, q⟩)) (by decide) (by decide) (tbd tv_L_put rfl)
    · refine ⟨15, ⟨by decide +kernel, (tableOf [(0, 9, 12, 13), (0, 9, 15, 15)]).take 1, (tableOf [(0, 9, 12, 13), (0, 9, 15, 15)])[1]'(by decide), (tableOf [(0, 9, 12, 13), (0, 9, 15, 15)]).drop 2, rfl, (fun z hz => by
        simp only [tableOf, List.map, List.take, List.mem_cons, List.not_mem_nil, or_false] at hz
        rcases hz with rfl
        · exact ⟨by decide, xI, by decide +kernel, by decide +kernel, w_636⟩), by decide, by decide, w_637, rfl⟩, fun r => ?_⟩
      refine G.go tv_L_put 2 17 [(0, .ref (gAd E (0))), (1, .int (a0)), (2, .ref (gAd E (93))), (3, .ref (r))] [.int ((2 : Int32))] rfl ?_
      exact G.iretH rfl rfl (Or.inr (Or.inr (⟨rfl, q⟩))) (by decide) (by decide) (tbd tv_L_put rfl)
theorem w_1794 : Cond.codeWith yL_get method_28_code 4 (some .int) [(0, 9, 12, 13)] ∈ TB := tp_7 208 (by decide +kernel) rfl
def tb_L_get : List (Nat × Instr × Nat) := [(0, .aload_n 2, 1), (1, .iconst 0, 1), (2, .aload_n 0, 1), (3, .iload_n 1, 1), (4, .invokevirtual 98, 3), (7, .i2l, 1), (8, .lastore, 1), (9, .goto 6, 3), (12, .astore_n 3, 1), (13, .iconst 1, 1), (14, .ireturn, 1), (15, .iconst 0, 1), (16, .ireturn, 1)]
theorem tv_L_get : Tv cL_get tb_L_get := by
  unfold Tv
  decide +kernel
theorem w_1795 : Cond.methodLink "LedgerFilesLaw" 98 yX11_get ∈ TB := tp_7 209 (by decide +kernel) rfl
theorem w_1798 : Cond.code yX11_get prog_1_method_43_code 3 (some .int) ∈ TB := tp_7 212 rfl rfl
theorem cw_L_98 : Cw RL 98 yX11_get cX11_get 3 (some .int) 1 := ⟨w_1795, w_1798, w_147, by decide +kernel, by decide +kernel, by decide⟩
theorem w_1796 : Cond.instanceMethod yX11_get ∈ TB := tp_7 210 (by decide +kernel) rfl
theorem w_1797 : Cond.selects "LedgerFiles" yX11_get yX11_get ∈ TB := tp_7 211 (by decide +kernel) rfl
set_option maxRecDepth 100000 in
set_option maxHeartbeats 4000000 in
theorem h_L_get (E : gE) (f : Nat → va_E) (hE : 94 ≤ gN E) {Q' : gQ} {h' : Nat} (a0 : Int32) (hM : Ct E h' yX11_get cX11_get 3 (some .int) [.ref (gAd E (0)), .int (a0)] f Q') (hh : h' ≤ 110) {fs : List Value} (h0 : f 0 = .inr (11, fs)) (hn : ∀ v g, Q'.1 v g → ∃ (x : Int32) (o : Nat → Int64), v = some (.int x) ∧ g 93 = oJ (gDA E) 1 o) (hx : ∀ X g, Q'.2 X g → X = xI) : Ch E 120 yL_get cL_get 4 (some .int) [(0, 9, 12, 13)] [.ref (gAd E (0)), .int (a0), .ref (gAd E (93))] f (fun v g => (v = some (.int 0) ∧ ∃ x o g0, Q'.1 (some (.int x)) g0 ∧ g0 93 = oJ (gDA E) 1 o ∧ g = va_up g0 93 (oJ (gDA E) 1 (vp_updL o 0 x.toInt64))) ∨ (v = some (.int 1) ∧ Q'.2 xI g)) := by
  refine Ch.of (by decide) (by decide) (Nat.le_of_ble_eq_true rfl) (fun sz => ?_)
  refine G.eql [(0, .ref (gAd E (0))), (1, .int (a0)), (2, .ref (gAd E (93)))] rfl ?_
  refine G.go tv_L_get 4 4 [(0, .ref (gAd E (0))), (1, .int (a0)), (2, .ref (gAd E (93)))] [.int (a0), .ref (gAd E (0)), .int ((0 : Int32)), .ref (gAd E (93))] rfl ?_
  refine G.callVC 0 [.int (a0)] [.int ((0 : Int32)), .ref (gAd E (93))] hM cls_X11 (by omega) h0 cw_L_98 w_1796 w_1797 (by omega) rfl (Nat.le_of_ble_eq_true rfl) (tbd tv_L_get rfl) w_1794 (fun v g q => ?_) (fun X g q => ?_)
  · skip
    obtain ⟨x, o, rfl, e93⟩ := hn v g q
    refine G.eqs [.int (x), .int ((0 : Int32)), .ref (gAd E (93))] rfl ?_
    refine G.go tv_L_get 1 8 [(0, .ref (gAd E (0))), (1, .int (a0)), (2, .ref (gAd E (93)))] [.long ((x : Int32).toInt64), .int ((0 : Int32)), .ref (gAd E (93))] rfl ?_
    refine G.eqs [.long ((x : Int32).toInt64), .int (nI (0)), .ref (gAd E (93))] (by rw [show (0 : Int32) = nI 0 from rfl]) ?_
    refine G.lastN (93) (0) (by omega) (e93) (by decide) (by decide) (tbd tv_L_get rfl) ?_
    refine G.go tv_L_get 2 16 [(0, .ref (gAd E (0))), (1, .int (a0)), (2, .ref (gAd E (93)))] [.int ((0 : Int32))] rfl ?_
    exact G.iretH rfl rfl (Or.inl ⟨rfl, x, o, g, q, e93, rfl⟩) (by decide) (by decide) (tbd tv_L_get rfl)
  · rcases hx X g q with rfl
    · refine ⟨12, ⟨by decide +kernel, (tableOf [(0, 9, 12, 13)]).take 0, (tableOf [(0, 9, 12, 13)])[0]'(by decide), (tableOf [(0, 9, 12, 13)]).drop 1, rfl, (fun z hz => nomatch hz), by decide, by decide, w_636, rfl⟩, fun r => ?_⟩
      refine G.go tv_L_get 2 14 [(0, .ref (gAd E (0))), (1, .int (a0)), (2, .ref (gAd E (93))), (3, .ref (r))] [.int ((1 : Int32))] rfl ?_
      exact G.iretH rfl rfl (Or.inr (⟨rfl, q⟩)) (by decide) (by decide) (tbd tv_L_get rfl)
theorem w_1801 : Cond.codeWith yL_seek method_29_code 5 (some .int) [(0, 10, 13, 13)] ∈ TB := tp_7 215 (by decide +kernel) rfl
def tb_L_seek : List (Nat × Instr × Nat) := [(0, .aload_n 3, 1), (1, .iconst 0, 1), (2, .aload_n 0, 1), (3, .iload_n 1, 1), (4, .iload_n 2, 1), (5, .invokevirtual 101, 3), (8, .i2l, 1), (9, .lastore, 1), (10, .goto 7, 3), (13, .astore 4, 2), (15, .iconst 1, 1), (16, .ireturn, 1), (17, .iconst 0, 1), (18, .ireturn, 1)]
theorem tv_L_seek : Tv cL_seek tb_L_seek := by
  unfold Tv
  decide +kernel
theorem w_1802 : Cond.methodLink "LedgerFilesLaw" 101 yX11_seek ∈ TB := tp_7 216 (by decide +kernel) rfl
theorem w_1805 : Cond.code yX11_seek prog_1_method_44_code 4 (some .int) ∈ TB := tp_7 219 rfl rfl
theorem cw_L_101 : Cw RL 101 yX11_seek cX11_seek 4 (some .int) 2 := ⟨w_1802, w_1805, w_147, by decide +kernel, by decide +kernel, by decide⟩
theorem w_1803 : Cond.instanceMethod yX11_seek ∈ TB := tp_7 217 (by decide +kernel) rfl
theorem w_1804 : Cond.selects "LedgerFiles" yX11_seek yX11_seek ∈ TB := tp_7 218 (by decide +kernel) rfl
set_option maxRecDepth 100000 in
set_option maxHeartbeats 4000000 in
theorem h_L_seek (E : gE) (f : Nat → va_E) (hE : 94 ≤ gN E) {Q' : gQ} {h' : Nat} (a0 : Int32) (a1 : Int32) (hM : Ct E h' yX11_seek cX11_seek 4 (some .int) [.ref (gAd E (0)), .int (a0), .int (a1)] f Q') (hh : h' ≤ 110) {fs : List Value} (h0 : f 0 = .inr (11, fs)) (hn : ∀ v g, Q'.1 v g → ∃ (x : Int32) (o : Nat → Int64), v = some (.int x) ∧ g 93 = oJ (gDA E) 1 o) (hx : ∀ X g, Q'.2 X g → X = xI) : Ch E 120 yL_seek cL_seek 5 (some .int) [(0, 10, 13, 13)] [.ref (gAd E (0)), .int (a0), .int (a1), .ref (gAd E (93))] f (fun v g => (v = some (.int 0) ∧ ∃ x o g0, Q'.1 (some (.int x)) g0 ∧ g0 93 = oJ (gDA E) 1 o ∧ g = va_up g0 93 (oJ (gDA E) 1 (vp_updL o 0 x.toInt64))) ∨ (v = some (.int 1) ∧ Q'.2 xI g)) := by
  refine Ch.of (by decide) (by decide) (Nat.le_of_ble_eq_true rfl) (fun sz => ?_)
  refine G.eql [(0, .ref (gAd E (0))), (1, .int (a0)), (2, .int (a1)), (3, .ref (gAd E (93)))] rfl ?_
  refine G.go tv_L_seek 5 5 [(0, .ref (gAd E (0))), (1, .int (a0)), (2, .int (a1)), (3, .ref (gAd E (93)))] [.int (a1), .int (a0), .ref (gAd E (0)), .int ((0 : Int32)), .ref (gAd E (93))] rfl ?_
  refine G.callVC 0 [.int (a0), .int (a1)] [.int ((0 : Int32)), .ref (gAd E (93))] hM cls_X11 (by omega) h0 cw_L_101 w_1803 w_1804 (by omega) rfl (Nat.le_of_ble_eq_true rfl) (tbd tv_L_seek rfl) w_1801 (fun v g q => ?_) (fun X g q => ?_)
  · skip
    obtain ⟨x, o, rfl, e93⟩ := hn v g q
    refine G.eqs [.int (x), .int ((0 : Int32)), .ref (gAd E (93))] rfl ?_
    refine G.go tv_L_seek 1 9 [(0, .ref (gAd E (0))), (1, .int (a0)), (2, .int (a1)), (3, .ref (gAd E (93)))] [.long ((x : Int32).toInt64), .int ((0 : Int32)), .ref (gAd E (93))] rfl ?_
    refine G.eqs [.long ((x : Int32).toInt64), .int (nI (0)), .ref (gAd E (93))] (by rw [show (0 : Int32) = nI 0 from rfl]) ?_
    refine G.lastN (93) (0) (by omega) (e93) (by decide) (by decide) (tbd tv_L_seek rfl) ?_
    refine G.go tv_L_seek 2 18 [(0, .ref (gAd E (0))), (1, .int (a0)), (2, .int (a1)), (3, .ref (gAd E (93)))] [.int ((0 : Int32))] rfl ?_
    exact G.iretH rfl rfl (Or.inl ⟨rfl, x, o, g, q, e93, rfl⟩) (by decide) (by decide) (tbd tv_L_seek rfl)
  · rcases hx X g q with rfl
    · refine ⟨13, ⟨by decide +kernel, (tableOf [(0, 10, 13, 13)]).take 0, (tableOf [(0, 10, 13, 13)])[0]'(by decide), (tableOf [(0, 10, 13, 13)]).drop 1, rfl, (fun z hz => nomatch hz), by decide, by decide, w_636, rfl⟩, fun r => ?_⟩
      refine G.go tv_L_seek 2 16 [(0, .ref (gAd E (0))), (1, .int (a0)), (2, .int (a1)), (3, .ref (gAd E (93))), (4, .ref (r))] [.int ((1 : Int32))] rfl ?_
      exact G.iretH rfl rfl (Or.inr (⟨rfl, q⟩)) (by decide) (by decide) (tbd tv_L_seek rfl)
theorem w_1808 : Cond.codeWith yL_look method_30_code 5 (some .int) [(0, 10, 13, 13), (0, 10, 17, 20) ] ∈ TB := tp_7 222 (by decide +kernel) rfl
def tb_L_look : List (Nat × Instr × Nat) := [(0, .aload_n 3, 1), (1, .iconst 0, 1), (2, .aload_n 0, 1), (3, .iload_n 1, 1), (4, .iload_n 2, 1), (5, .invokevirtual 104, 3), (8, .i2l, 1), (9, .lastore, 1), (10, .goto 11, 3), (13, .astore 4, 2), (15, .iconst 1, 1), (16, .ireturn, 1), (17, .astore 4, 2), (19, .iconst 2, 1), (20, .ireturn, 1), (21, .iconst 0, 1), (22, .ireturn, 1)]
theorem tv_L_look : Tv cL_look tb_L_look := by
  unfold Tv
  decide +kernel
theorem w_1809 : Cond.methodLink "LedgerFilesLaw" 104 yX11_look ∈ TB := tp_7 223 (by decide +kernel) rfl
theorem w_1812 : Cond.code yX11_look prog_1_method_45_code 3 (some .int) ∈ TB := tp_7 226 rfl rfl
theorem cw_L_104 : Cw RL 104 yX11_look cX11_look 3 (some .int) 2 := ⟨w_1809, w_1812, w_147, by decide +kernel, by decide +kernel, by decide⟩
theorem w_1810 : Cond.instanceMethod yX11_look ∈ TB := tp_7 224 (by decide +kernel) rfl
theorem w_1811 : Cond.selects "LedgerFiles" yX11_look yX11_look ∈ TB := tp_7 225 (by decide +kernel) rfl
set_option maxRecDepth 100000 in
set_option maxHeartbeats 4000000 in
theorem h_L_look (E : gE) (f : Nat → va_E) (hE : 94 ≤ gN E) {Q' : gQ} {h' : Nat} (a0 : Int32) (a1 : Int32) (hM : Ct E h' yX11_look cX11_look 3 (some .int) [.ref (gAd E (0)), .int (a0), .int (a1)] f Q') (hh : h' ≤ 110) {fs : List Value} (h0 : f 0 = .inr (11, fs)) (hn : ∀ v g, Q'.1 v g → ∃ (x : Int32) (o : Nat → Int64), v = some (.int x) ∧ g 93 = oJ (gDA E) 1 o) (hx : ∀ X g, Q'.2 X g → X = xI ∨ X = xA) : Ch E 120 yL_look cL_look 5 (some .int) [(0, 10, 13, 13), (0, 10, 17, 20)] [.ref (gAd E (0)), .int (a0), .int (a1), .ref (gAd E (93))] f (fun v g => (v = some (.int 0) ∧ ∃ x o g0, Q'.1 (some (.int x)) g0 ∧ g0 93 = oJ (gDA E) 1 o ∧ g = va_up g0 93 (oJ (gDA E) 1 (vp_updL o 0 x.toInt64))) ∨ (v = some (.int 1) ∧ Q'.2 xI g) ∨ (v = some (.int 2) ∧ Q'.2 xA g)) := by
  refine Ch.of (by decide) (by decide) (Nat.le_of_ble_eq_true rfl) (fun sz => ?_)
  refine G.eql [(0, .ref (gAd E (0))), (1, .int (a0)), (2, .int (a1)), (3, .ref (gAd E (93)))] rfl ?_
  refine G.go tv_L_look 5 5 [(0, .ref (gAd E (0))), (1, .int (a0)), (2, .int (a1)), (3, .ref (gAd E (93)))] [.int (a1), .int (a0), .ref (gAd E (0)), .int ((0 : Int32)), .ref (gAd E (93))] rfl ?_
  refine G.callVC 0 [.int (a0), .int (a1)] [.int ((0 : Int32)), .ref (gAd E (93))] hM cls_X11 (by omega) h0 cw_L_104 w_1810 w_1811 (by omega) rfl (Nat.le_of_ble_eq_true rfl) (tbd tv_L_look rfl) w_1808 (fun v g q => ?_) (fun X g q => ?_)
  · skip
    obtain ⟨x, o, rfl, e93⟩ := hn v g q
    refine G.eqs [.int (x), .int ((0 : Int32)), .ref (gAd E (93))] rfl ?_
    refine G.go tv_L_look 1 9 [(0, .ref (gAd E (0))), (1, .int (a0)), (2, .int (a1)), (3, .ref (gAd E (93)))] [.long ((x : Int32).toInt64), .int ((0 : Int32)), .ref (gAd E (93))] rfl ?_
    refine G.eqs [.long ((x : Int32).toInt64), .int (nI (0)), .ref (gAd E (93))] (by rw [show (0 : Int32) = nI 0 from rfl]) ?_
    refine G.lastN (93) (0) (by omega) (e93) (by decide) (by decide) (tbd tv_L_look rfl) ?_
    refine G.go tv_L_look 2 22 [(0, .ref (gAd E (0))), (1, .int (a0)), (2, .int (a1)), (3, .ref (gAd E (93)))] [.int ((0 : Int32))] rfl ?_
    exact G.iretH rfl rfl (Or.inl ⟨rfl, x, o, g, q, e93, rfl⟩) (by decide) (by decide) (tbd tv_L_look rfl)
  · rcases hx X g q with rfl | rfl
    · refine ⟨13, ⟨by decide +kernel, (tableOf [(0, 10, 13, 13), (0, 10, 17, 20)]).take 0, (tableOf [(0, 10, 13, 13), (0, 10, 17, 20)])[0]'(by decide), (tableOf [(0, 10, 13, 13), (0, 10, 17, 20)]).drop 1, rfl, (fun z hz => nomatch hz), by decide, by decide, w_636, rfl⟩, fun r => ?_⟩
      refine G.go tv_L_look 2 16 [(0, .ref (gAd E (0))), (1, .int (a0)), (2, .int (a1)), (3, .ref (gAd E (93))), (4, .ref (r))] [.int ((1 : Int32))] rfl ?_
      exact G.iretH rfl rfl (Or.inr (Or.inl ⟨rfl, q⟩)) (by decide) (by decide) (tbd tv_L_look rfl)
    · refine ⟨17, ⟨by decide +kernel, (tableOf [(0, 10, 13, 13), (0, 10, 17, 20)]).take 1, (tableOf [(0, 10, 13, 13), (0, 10, 17, 20)])[1]'(by decide), (tableOf [(0, 10, 13, 13), (0, 10, 17, 20)]).drop 2, rfl, (fun z hz => by
        simp only [tableOf, List.map, List.take, List.mem_cons, List.not_mem_nil, or_false] at hz
        rcases hz with rfl
        · exact ⟨by decide, xI, by decide +kernel, by decide +kernel, w_636⟩), by decide, by decide, w_819, rfl⟩, fun r => ?_⟩
      refine G.go tv_L_look 2 20 [(0, .ref (gAd E (0))), (1, .int (a0)), (2, .int (a1)), (3, .ref (gAd E (93))), (4, .ref (r))] [.int ((2 : Int32))] rfl ?_
      exact G.iretH rfl rfl (Or.inr (Or.inr (⟨rfl, q⟩))) (by decide) (by decide) (tbd tv_L_look rfl)
theorem w_1816 : Cond.codeWith yL_begin method_31_code 3 (some .int) [(0, 15, 18, 13)] ∈ TB := tp_7 230 (by decide +kernel) rfl
def tb_L_begin : List (Nat × Instr × Nat) := [(0, .aload_n 1, 1), (1, .iconst 0, 1), (2, .aload_n 0, 1), (3, .invokevirtual 107, 3), (6, .ifCond .eq 7, 3), (9, .lconst 1, 1), (10, .goto 4, 3), (13, .lconst 0, 1), (14, .lastore, 1), (15, .goto 6, 3), (18, .astore_n 2, 1), (19, .iconst 1, 1), (20, .ireturn, 1), (21, .iconst 0, 1), (22, .ireturn, 1)]
theorem tv_L_begin : Tv cL_begin tb_L_begin := by
  unfold Tv
  decide +kernel
theorem w_1817 : Cond.methodLink "LedgerFilesLaw" 107 yX11_begin ∈ TB := tp_7 231 (by decide +kernel) rfl
theorem w_1820 : Cond.code yX11_begin prog_1_method_46_code 1 (some .boolean) ∈ TB := tp_7 234 rfl rfl
theorem cw_L_107 : Cw RL 107 yX11_begin cX11_begin 1 (some .boolean) 0 := ⟨w_1817, w_1820, w_147, by decide +kernel, by decide +kernel, by decide⟩
theorem w_1818 : Cond.instanceMethod yX11_begin ∈ TB := tp_7 232 (by decide +kernel) rfl
theorem w_1819 : Cond.selects "LedgerFiles" yX11_begin yX11_begin ∈ TB := tp_7 233 (by decide +kernel) rfl
set_option maxRecDepth 100000 in
set_option maxHeartbeats 4000000 in
theorem h_L_begin (E : gE) (f : Nat → va_E) (hE : 94 ≤ gN E) {Q' : gQ} {h' : Nat}  (hM : Ct E h' yX11_begin cX11_begin 1 (some .boolean) [.ref (gAd E (0))] f Q') (hh : h' ≤ 110) {fs : List Value} (h0 : f 0 = .inr (11, fs)) (hn : ∀ v g, Q'.1 v g → ∃ (x : Int32) (o : Nat → Int64), v = some (.int x) ∧ g 93 = oJ (gDA E) 1 o) (hx : ∀ X g, Q'.2 X g → X = xI) : Ch E 120 yL_begin cL_begin 3 (some .int) [(0, 15, 18, 13)] [.ref (gAd E (0)), .ref (gAd E (93))] f (fun v g => (v = some (.int 0) ∧ ∃ x o g0, Q'.1 (some (.int x)) g0 ∧ g0 93 = oJ (gDA E) 1 o ∧ g = va_up g0 93 (oJ (gDA E) 1 (vp_updL o 0 (if x = 0 then 0 else 1)))) ∨ (v = some (.int 1) ∧ Q'.2 xI g)) := by
  refine Ch.of (by decide) (by decide) (Nat.le_of_ble_eq_true rfl) (fun sz => ?_)
  refine G.eql [(0, .ref (gAd E (0))), (1, .ref (gAd E (93)))] rfl ?_
  refine G.go tv_L_begin 3 3 [(0, .ref (gAd E (0))), (1, .ref (gAd E (93)))] [.ref (gAd E (0)), .int ((0 : Int32)), .ref (gAd E (93))] rfl ?_
  refine G.callVC 0 [] [.int ((0 : Int32)), .ref (gAd E (93))] hM cls_X11 (by omega) h0 cw_L_107 w_1818 w_1819 (by omega) rfl (Nat.le_of_ble_eq_true rfl) (tbd tv_L_begin rfl) w_1816 (fun v g q => ?_) (fun X g q => ?_)
  · skip
    obtain ⟨x, o, rfl, e93⟩ := hn v g q
    refine G.eqs [.int (x), .int ((0 : Int32)), .ref (gAd E (93))] rfl ?_
    refine G.if_eq 13 (tbd tv_L_begin rfl) (by decide) (fun c6 => ?_) (fun c6 => ?_)
    · skip
      refine G.go tv_L_begin 1 14 [(0, .ref (gAd E (0))), (1, .ref (gAd E (93)))] [.long ((0 : Int64)), .int ((0 : Int32)), .ref (gAd E (93))] rfl ?_
      refine G.eqs [.long ((0 : Int64)), .int (nI (0)), .ref (gAd E (93))] (by rw [show (0 : Int32) = nI 0 from rfl]) ?_
      refine G.lastN (93) (0) (by omega) (e93) (by decide) (by decide) (tbd tv_L_begin rfl) ?_
      refine G.go tv_L_begin 2 22 [(0, .ref (gAd E (0))), (1, .ref (gAd E (93)))] [.int ((0 : Int32))] rfl ?_
      exact G.iretH rfl rfl (Or.inl ⟨rfl, x, o, g, q, e93, by rw [if_pos c6]⟩) (by decide) (by decide) (tbd tv_L_begin rfl)
    · skip
      refine G.go tv_L_begin 2 14 [(0, .ref (gAd E (0))), (1, .ref (gAd E (93)))] [.long ((1 : Int64)), .int ((0 : Int32)), .ref (gAd E (93))] rfl ?_
      refine G.eqs [.long ((1 : Int64)), .int (nI (0)), .ref (gAd E (93))] (by rw [show (0 : Int32) = nI 0 from rfl]) ?_
      refine G.lastN (93) (0) (by omega) (e93) (by decide) (by decide) (tbd tv_L_begin rfl) ?_
      refine G.go tv_L_begin 2 22 [(0, .ref (gAd E (0))), (1, .ref (gAd E (93)))] [.int ((0 : Int32))] rfl ?_
      exact G.iretH rfl rfl (Or.inl ⟨rfl, x, o, g, q, e93, by rw [if_neg c6]⟩) (by decide) (by decide) (tbd tv_L_begin rfl)
  · rcases hx X g q with rfl
    · refine ⟨18, ⟨by decide +kernel, (tableOf [(0, 15, 18, 13)]).take 0, (tableOf [(0, 15, 18, 13)])[0]'(by decide), (tableOf [(0, 15, 18, 13)]).drop 1, rfl, (fun z hz => nomatch hz), by decide, by decide, w_636, rfl⟩, fun r => ?_⟩
      refine G.go tv_L_begin 2 20 [(0, .ref (gAd E (0))), (1, .ref (gAd E (93))), (2, .ref (r))] [.int ((1 : Int32))] rfl ?_
      exact G.iretH rfl rfl (Or.inr (⟨rfl, q⟩)) (by decide) (by decide) (tbd tv_L_begin rfl)
theorem w_1823 : Cond.codeWith yL_end method_32_code 3 (some .int) [(0, 8, 11, 13), (0, 8, 14, 15) ] ∈ TB := tp_7 237 (by decide +kernel) rfl
def tb_L_end : List (Nat × Instr × Nat) := [(0, .aload_n 1, 1), (1, .iconst 0, 1), (2, .aload_n 0, 1), (3, .invokevirtual 111, 3), (6, .i2l, 1), (7, .lastore, 1), (8, .goto 9, 3), (11, .astore_n 2, 1), (12, .iconst 1, 1), (13, .ireturn, 1), (14, .astore_n 2, 1), (15, .iconst 2, 1), (16, .ireturn, 1), (17, .iconst 0, 1), (18, .ireturn, 1)]
theorem tv_L_end : Tv cL_end tb_L_end := by
  unfold Tv
  decide +kernel
theorem w_1824 : Cond.methodLink "LedgerFilesLaw" 111 yX11_end ∈ TB := tp_7 238 (by decide +kernel) rfl
theorem w_1827 : Cond.code yX11_end prog_1_method_47_code 2 (some .int) ∈ TB := tp_8 1 rfl rfl
theorem cw_L_111 : Cw RL 111 yX11_end cX11_end 2 (some .int) 0 := ⟨w_1824, w_1827, w_147, by decide +kernel, by decide +kernel, by decide⟩
theorem w_1825 : Cond.instanceMethod yX11_end ∈ TB := tp_7 239 (by decide +kernel) rfl
theorem w_1826 : Cond.selects "LedgerFiles" yX11_end yX11_end ∈ TB := tp_8 0 (by decide +kernel) rfl
set_option maxRecDepth 100000 in
set_option maxHeartbeats 4000000 in
theorem h_L_end (E : gE) (f : Nat → va_E) (hE : 94 ≤ gN E) {Q' : gQ} {h' : Nat}  (hM : Ct E h' yX11_end cX11_end 2 (some .int) [.ref (gAd E (0))] f Q') (hh : h' ≤ 110) {fs : List Value} (h0 : f 0 = .inr (11, fs)) (hn : ∀ v g, Q'.1 v g → ∃ (x : Int32) (o : Nat → Int64), v = some (.int x) ∧ g 93 = oJ (gDA E) 1 o) (hx : ∀ X g, Q'.2 X g → X = xI ∨ X = xU) : Ch E 120 yL_end cL_end 3 (some .int) [(0, 8, 11, 13), (0, 8, 14, 15)] [.ref (gAd E (0)), .ref (gAd E (93))] f (fun v g => (v = some (.int 0) ∧ ∃ x o g0, Q'.1 (some (.int x)) g0 ∧ g0 93 = oJ (gDA E) 1 o ∧ g = va_up g0 93 (oJ (gDA E) 1 (vp_updL o 0 x.toInt64))) ∨ (v = some (.int 1) ∧ Q'.2 xI g) ∨ (v = some (.int 2) ∧ Q'.2 xU g)) := by
  refine Ch.of (by decide) (by decide) (Nat.le_of_ble_eq_true rfl) (fun sz => ?_)
  refine G.eql [(0, .ref (gAd E (0))), (1, .ref (gAd E (93)))] rfl ?_
  refine G.go tv_L_end 3 3 [(0, .ref (gAd E (0))), (1, .ref (gAd E (93)))] [.ref (gAd E (0)), .int ((0 : Int32)), .ref (gAd E (93))] rfl ?_
  refine G.callVC 0 [] [.int ((0 : Int32)), .ref (gAd E (93))] hM cls_X11 (by omega) h0 cw_L_111 w_1825 w_1826 (by omega) rfl (Nat.le_of_ble_eq_true rfl) (tbd tv_L_end rfl) w_1823 (fun v g q => ?_) (fun X g q => ?_)
  · skip
    obtain ⟨x, o, rfl, e93⟩ := hn v g q
    refine G.eqs [.int (x), .int ((0 : Int32)), .ref (gAd E (93))] rfl ?_
    refine G.go tv_L_end 1 7 [(0, .ref (gAd E (0))), (1, .ref (gAd E (93)))] [.long ((x : Int32).toInt64), .int ((0 : Int32)), .ref (gAd E (93))] rfl ?_
    refine G.eqs [.long ((x : Int32).toInt64), .int (nI (0)), .ref (gAd E (93))] (by rw [show (0 : Int32) = nI 0 from rfl]) ?_
    refine G.lastN (93) (0) (by omega) (e93) (by decide) (by decide) (tbd tv_L_end rfl) ?_
    refine G.go tv_L_end 2 18 [(0, .ref (gAd E (0))), (1, .ref (gAd E (93)))] [.int ((0 : Int32))] rfl ?_
    exact G.iretH rfl rfl (Or.inl ⟨rfl, x, o, g, q, e93, rfl⟩) (by decide) (by decide) (tbd tv_L_end rfl)
  · rcases hx X g q with rfl | rfl
    · refine ⟨11, ⟨by decide +kernel, (tableOf [(0, 8, 11, 13), (0, 8, 14, 15)]).take 0, (tableOf [(0, 8, 11, 13), (0, 8, 14, 15)])[0]'(by decide), (tableOf [(0, 8, 11, 13), (0, 8, 14, 15)]).drop 1, rfl, (fun z hz => nomatch hz), by decide, by decide, w_636, rfl⟩, fun r => ?_⟩
      refine G.go tv_L_end 2 13 [(0, .ref (gAd E (0))), (1, .ref (gAd E (93))), (2, .ref (r))] [.int ((1 : Int32))] rfl ?_
      exact G.iretH rfl rfl (Or.inr (Or.inl ⟨rfl, q⟩)) (by decide) (by decide) (tbd tv_L_end rfl)
    · refine ⟨14, ⟨by decide +kernel, (tableOf [(0, 8, 11, 13), (0, 8, 14, 15)]).take 1, (tableOf [(0, 8, 11, 13), (0, 8, 14, 15)])[1]'(by decide), (tableOf [(0, 8, 11, 13), (0, 8, 14, 15)]).drop 2, rfl, (fun z hz => by
        simp only [tableOf, List.map, List.take, List.mem_cons, List.not_mem_nil, or_false] at hz
        rcases hz with rfl
        · exact ⟨by decide, xI, by decide +kernel, by decide +kernel, w_636⟩), by decide, by decide, w_637, rfl⟩, fun r => ?_⟩
      refine G.go tv_L_end 2 16 [(0, .ref (gAd E (0))), (1, .ref (gAd E (93))), (2, .ref (r))] [.int ((2 : Int32))] rfl ?_
      exact G.iretH rfl rfl (Or.inr (Or.inr (⟨rfl, q⟩))) (by decide) (by decide) (tbd tv_L_end rfl)
theorem w_1830 : Cond.codeWith yL_undo method_33_code 3 (some .int) [(0, 8, 11, 13), (0, 8, 14, 15) ] ∈ TB := tp_8 4 (by decide +kernel) rfl
def tb_L_undo : List (Nat × Instr × Nat) := [(0, .aload_n 1, 1), (1, .iconst 0, 1), (2, .aload_n 0, 1), (3, .invokevirtual 114, 3), (6, .i2l, 1), (7, .lastore, 1), (8, .goto 9, 3), (11, .astore_n 2, 1), (12, .iconst 1, 1), (13, .ireturn, 1), (14, .astore_n 2, 1), (15, .iconst 2, 1), (16, .ireturn, 1), (17, .iconst 0, 1), (18, .ireturn, 1)]
theorem tv_L_undo : Tv cL_undo tb_L_undo := by
  unfold Tv
  decide +kernel
theorem w_1831 : Cond.methodLink "LedgerFilesLaw" 114 yX11_undo ∈ TB := tp_8 5 (by decide +kernel) rfl
theorem w_1834 : Cond.code yX11_undo prog_1_method_48_code 1 (some .int) ∈ TB := tp_8 8 rfl rfl
theorem cw_L_114 : Cw RL 114 yX11_undo cX11_undo 1 (some .int) 0 := ⟨w_1831, w_1834, w_147, by decide +kernel, by decide +kernel, by decide⟩
theorem w_1832 : Cond.instanceMethod yX11_undo ∈ TB := tp_8 6 (by decide +kernel) rfl
theorem w_1833 : Cond.selects "LedgerFiles" yX11_undo yX11_undo ∈ TB := tp_8 7 (by decide +kernel) rfl
set_option maxRecDepth 100000 in
set_option maxHeartbeats 4000000 in
theorem h_L_undo (E : gE) (f : Nat → va_E) (hE : 94 ≤ gN E) {Q' : gQ} {h' : Nat}  (hM : Ct E h' yX11_undo cX11_undo 1 (some .int) [.ref (gAd E (0))] f Q') (hh : h' ≤ 110) {fs : List Value} (h0 : f 0 = .inr (11, fs)) (hn : ∀ v g, Q'.1 v g → ∃ (x : Int32) (o : Nat → Int64), v = some (.int x) ∧ g 93 = oJ (gDA E) 1 o) (hx : ∀ X g, Q'.2 X g → X = xI ∨ X = xU) : Ch E 120 yL_undo cL_undo 3 (some .int) [(0, 8, 11, 13), (0, 8, 14, 15)] [.ref (gAd E (0)), .ref (gAd E (93))] f (fun v g => (v = some (.int 0) ∧ ∃ x o g0, Q'.1 (some (.int x)) g0 ∧ g0 93 = oJ (gDA E) 1 o ∧ g = va_up g0 93 (oJ (gDA E) 1 (vp_updL o 0 x.toInt64))) ∨ (v = some (.int 1) ∧ Q'.2 xI g) ∨ (v = some (.int 2) ∧ Q'.2 xU g)) := by
  refine Ch.of (by decide) (by decide) (Nat.le_of_ble_eq_true rfl) (fun sz => ?_)
  refine G.eql [(0, .ref (gAd E (0))), (1, .ref (gAd E (93)))] rfl ?_
  refine G.go tv_L_undo 3 3 [(0, .ref (gAd E (0))), (1, .ref (gAd E (93)))] [.ref (gAd E (0)), .int ((0 : Int32)), .ref (gAd E (93))] rfl ?_
  refine G.callVC 0 [] [.int ((0 : Int32)), .ref (gAd E (93))] hM cls_X11 (by omega) h0 cw_L_114 w_1832 w_1833 (by omega) rfl (Nat.le_of_ble_eq_true rfl) (tbd tv_L_undo rfl) w_1830 (fun v g q => ?_) (fun X g q => ?_)
  · skip
    obtain ⟨x, o, rfl, e93⟩ := hn v g q
    refine G.eqs [.int (x), .int ((0 : Int32)), .ref (gAd E (93))] rfl ?_
    refine G.go tv_L_undo 1 7 [(0, .ref (gAd E (0))), (1, .ref (gAd E (93)))] [.long ((x : Int32).toInt64), .int ((0 : Int32)), .ref (gAd E (93))] rfl ?_
    refine G.eqs [.long ((x : Int32).toInt64), .int (nI (0)), .ref (gAd E (93))] (by rw [show (0 : Int32) = nI 0 from rfl]) ?_
    refine G.lastN (93) (0) (by omega) (e93) (by decide) (by decide) (tbd tv_L_undo rfl) ?_
    refine G.go tv_L_undo 2 18 [(0, .ref (gAd E (0))), (1, .ref (gAd E (93)))] [.int ((0 : Int32))] rfl ?_
    exact G.iretH rfl rfl (Or.inl ⟨rfl, x, o, g, q, e93, rfl⟩) (by decide) (by decide) (tbd tv_L_undo rfl)
  · rcases hx X g q with rfl | rfl
    · refine ⟨11, ⟨by decide +kernel, (tableOf [(0, 8, 11, 13), (0, 8, 14, 15)]).take 0, (tableOf [(0, 8, 11, 13), (0, 8, 14, 15)])[0]'(by decide), (tableOf [(0, 8, 11, 13), (0, 8, 14, 15)]).drop 1, rfl, (fun z hz => nomatch hz), by decide, by decide, w_636, rfl⟩, fun r => ?_⟩
      refine G.go tv_L_undo 2 13 [(0, .ref (gAd E (0))), (1, .ref (gAd E (93))), (2, .ref (r))] [.int ((1 : Int32))] rfl ?_
      exact G.iretH rfl rfl (Or.inr (Or.inl ⟨rfl, q⟩)) (by decide) (by decide) (tbd tv_L_undo rfl)
    · refine ⟨14, ⟨by decide +kernel, (tableOf [(0, 8, 11, 13), (0, 8, 14, 15)]).take 1, (tableOf [(0, 8, 11, 13), (0, 8, 14, 15)])[1]'(by decide), (tableOf [(0, 8, 11, 13), (0, 8, 14, 15)]).drop 2, rfl, (fun z hz => by
        simp only [tableOf, List.map, List.take, List.mem_cons, List.not_mem_nil, or_false] at hz
        rcases hz with rfl
        · exact ⟨by decide, xI, by decide +kernel, by decide +kernel, w_636⟩), by decide, by decide, w_637, rfl⟩, fun r => ?_⟩
      refine G.go tv_L_undo 2 16 [(0, .ref (gAd E (0))), (1, .ref (gAd E (93))), (2, .ref (r))] [.int ((2 : Int32))] rfl ?_
      exact G.iretH rfl rfl (Or.inr (Or.inr (⟨rfl, q⟩))) (by decide) (by decide) (tbd tv_L_undo rfl)
theorem w_1837 : Cond.codeWith yL_flush method_34_code 3 (some .int) [(0, 8, 11, 13), (0, 8, 14, 15) ] ∈ TB := tp_8 11 (by decide +kernel) rfl
def tb_L_flush : List (Nat × Instr × Nat) := [(0, .aload_n 1, 1), (1, .iconst 0, 1), (2, .aload_n 0, 1), (3, .invokevirtual 117, 3), (6, .i2l, 1), (7, .lastore, 1), (8, .goto 9, 3), (11, .astore_n 2, 1), (12, .iconst 1, 1), (13, .ireturn, 1), (14, .astore_n 2, 1), (15, .iconst 2, 1), (16, .ireturn, 1), (17, .iconst 0, 1), (18, .ireturn, 1)]
theorem tv_L_flush : Tv cL_flush tb_L_flush := by
  unfold Tv
  decide +kernel
theorem w_1838 : Cond.methodLink "LedgerFilesLaw" 117 yX11_flush ∈ TB := tp_8 12 (by decide +kernel) rfl
theorem w_1841 : Cond.code yX11_flush prog_1_method_49_code 1 (some .int) ∈ TB := tp_8 15 rfl rfl
theorem cw_L_117 : Cw RL 117 yX11_flush cX11_flush 1 (some .int) 0 := ⟨w_1838, w_1841, w_147, by decide +kernel, by decide +kernel, by decide⟩
theorem w_1839 : Cond.instanceMethod yX11_flush ∈ TB := tp_8 13 (by decide +kernel) rfl
theorem w_1840 : Cond.selects "LedgerFiles" yX11_flush yX11_flush ∈ TB := tp_8 14 (by decide +kernel) rfl
set_option maxRecDepth 100000 in
set_option maxHeartbeats 4000000 in
theorem h_L_flush (E : gE) (f : Nat → va_E) (hE : 94 ≤ gN E) {Q' : gQ} {h' : Nat}  (hM : Ct E h' yX11_flush cX11_flush 1 (some .int) [.ref (gAd E (0))] f Q') (hh : h' ≤ 110) {fs : List Value} (h0 : f 0 = .inr (11, fs)) (hn : ∀ v g, Q'.1 v g → ∃ (x : Int32) (o : Nat → Int64), v = some (.int x) ∧ g 93 = oJ (gDA E) 1 o) (hx : ∀ X g, Q'.2 X g → X = xI ∨ X = xU) : Ch E 120 yL_flush cL_flush 3 (some .int) [(0, 8, 11, 13), (0, 8, 14, 15)] [.ref (gAd E (0)), .ref (gAd E (93))] f (fun v g => (v = some (.int 0) ∧ ∃ x o g0, Q'.1 (some (.int x)) g0 ∧ g0 93 = oJ (gDA E) 1 o ∧ g = va_up g0 93 (oJ (gDA E) 1 (vp_updL o 0 x.toInt64))) ∨ (v = some (.int 1) ∧ Q'.2 xI g) ∨ (v = some (.int 2) ∧ Q'.2 xU g)) := by
  refine Ch.of (by decide) (by decide) (Nat.le_of_ble_eq_true rfl) (fun sz => ?_)
  refine G.eql [(0, .ref (gAd E (0))), (1, .ref (gAd E (93)))] rfl ?_
  refine G.go tv_L_flush 3 3 [(0, .ref (gAd E (0))), (1, .ref (gAd E (93)))] [.ref (gAd E (0)), .int ((0 : Int32)), .ref (gAd E (93))] rfl ?_
  refine G.callVC 0 [] [.int ((0 : Int32)), .ref (gAd E (93))] hM cls_X11 (by omega) h0 cw_L_117 w_1839 w_1840 (by omega) rfl (Nat.le_of_ble_eq_true rfl) (tbd tv_L_flush rfl) w_1837 (fun v g q => ?_) (fun X g q => ?_)
  · skip
    obtain ⟨x, o, rfl, e93⟩ := hn v g q
    refine G.eqs [.int (x), .int ((0 : Int32)), .ref (gAd E (93))] rfl ?_
    refine G.go tv_L_flush 1 7 [(0, .ref (gAd E (0))), (1, .ref (gAd E (93)))] [.long ((x : Int32).toInt64), .int ((0 : Int32)), .ref (gAd E (93))] rfl ?_
    refine G.eqs [.long ((x : Int32).toInt64), .int (nI (0)), .ref (gAd E (93))] (by rw [show (0 : Int32) = nI 0 from rfl]) ?_
    refine G.lastN (93) (0) (by omega) (e93) (by decide) (by decide) (tbd tv_L_flush rfl) ?_
    refine G.go tv_L_flush 2 18 [(0, .ref (gAd E (0))), (1, .ref (gAd E (93)))] [.int ((0 : Int32))] rfl ?_
    exact G.iretH rfl rfl (Or.inl ⟨rfl, x, o, g, q, e93, rfl⟩) (by decide) (by decide) (tbd tv_L_flush rfl)
  · rcases hx X g q with rfl | rfl
    · refine ⟨11, ⟨by decide +kernel, (tableOf [(0, 8, 11, 13), (0, 8, 14, 15)]).take 0, (tableOf [(0, 8, 11, 13), (0, 8, 14, 15)])[0]'(by decide), (tableOf [(0, 8, 11, 13), (0, 8, 14, 15)]).drop 1, rfl, (fun z hz => nomatch hz), by decide, by decide, w_636, rfl⟩, fun r => ?_⟩
      refine G.go tv_L_flush 2 13 [(0, .ref (gAd E (0))), (1, .ref (gAd E (93))), (2, .ref (r))] [.int ((1 : Int32))] rfl ?_
      exact G.iretH rfl rfl (Or.inr (Or.inl ⟨rfl, q⟩)) (by decide) (by decide) (tbd tv_L_flush rfl)
    · refine ⟨14, ⟨by decide +kernel, (tableOf [(0, 8, 11, 13), (0, 8, 14, 15)]).take 1, (tableOf [(0, 8, 11, 13), (0, 8, 14, 15)])[1]'(by decide), (tableOf [(0, 8, 11, 13), (0, 8, 14, 15)]).drop 2, rfl, (fun z hz => by
        simp only [tableOf, List.map, List.take, List.mem_cons, List.not_mem_nil, or_false] at hz
        rcases hz with rfl
        · exact ⟨by decide, xI, by decide +kernel, by decide +kernel, w_636⟩), by decide, by decide, w_637, rfl⟩, fun r => ?_⟩
      refine G.go tv_L_flush 2 16 [(0, .ref (gAd E (0))), (1, .ref (gAd E (93))), (2, .ref (r))] [.int ((2 : Int32))] rfl ?_
      exact G.iretH rfl rfl (Or.inr (Or.inr (⟨rfl, q⟩))) (by decide) (by decide) (tbd tv_L_flush rfl)
theorem w_1844 : Cond.codeWith yL_sync method_35_code 4 (some .int) [(0, 9, 12, 13), (0, 9, 15, 15) ] ∈ TB := tp_8 18 (by decide +kernel) rfl
def tb_L_sync : List (Nat × Instr × Nat) := [(0, .aload_n 2, 1), (1, .iconst 0, 1), (2, .aload_n 0, 1), (3, .iload_n 1, 1), (4, .invokevirtual 120, 3), (7, .i2l, 1), (8, .lastore, 1), (9, .goto 9, 3), (12, .astore_n 3, 1), (13, .iconst 1, 1), (14, .ireturn, 1), (15, .astore_n 3, 1), (16, .iconst 2, 1), (17, .ireturn, 1), (18, .iconst 0, 1), (19, .ireturn, 1)]
theorem tv_L_sync : Tv cL_sync tb_L_sync := by
  unfold Tv
  decide +kernel
theorem w_1845 : Cond.methodLink "LedgerFilesLaw" 120 yX11_sync ∈ TB := tp_8 19 (by decide +kernel) rfl
theorem w_1848 : Cond.code yX11_sync prog_1_method_50_code 6 (some .int) ∈ TB := tp_8 22 rfl rfl
theorem cw_L_120 : Cw RL 120 yX11_sync cX11_sync 6 (some .int) 1 := ⟨w_1845, w_1848, w_147, by decide +kernel, by decide +kernel, by decide⟩
theorem w_1846 : Cond.instanceMethod yX11_sync ∈ TB := tp_8 20 (by decide +kernel) rfl
theorem w_1847 : Cond.selects "LedgerFiles" yX11_sync yX11_sync ∈ TB := tp_8 21 (by decide +kernel) rfl
set_option maxRecDepth 100000 in
set_option maxHeartbeats 4000000 in
theorem h_L_sync (E : gE) (f : Nat → va_E) (hE : 94 ≤ gN E) {Q' : gQ} {h' : Nat} (a0 : Int32) (hM : Ct E h' yX11_sync cX11_sync 6 (some .int) [.ref (gAd E (0)), .int (a0)] f Q') (hh : h' ≤ 110) {fs : List Value} (h0 : f 0 = .inr (11, fs)) (hn : ∀ v g, Q'.1 v g → ∃ (x : Int32) (o : Nat → Int64), v = some (.int x) ∧ g 93 = oJ (gDA E) 1 o) (hx : ∀ X g, Q'.2 X g → X = xI ∨ X = xU) : Ch E 120 yL_sync cL_sync 4 (some .int) [(0, 9, 12, 13), (0, 9, 15, 15)] [.ref (gAd E (0)), .int (a0), .ref (gAd E (93))] f (fun v g => (v = some (.int 0) ∧ ∃ x o g0, Q'.1 (some (.int x)) g0 ∧ g0 93 = oJ (gDA E) 1 o ∧ g = va_up g0 93 (oJ (gDA E) 1 (vp_updL o 0 x.toInt64))) ∨ (v = some (.int 1) ∧ Q'.2 xI g) ∨ (v = some (.int 2) ∧ Q'.2 xU g)) := by
  refine Ch.of (by decide) (by decide) (Nat.le_of_ble_eq_true rfl) (fun sz => ?_)
  refine G.eql [(0, .ref (gAd E (0))), (1, .int (a0)), (2, .ref (gAd E (93)))] rfl ?_
  refine G.go tv_L_sync 4 4 [(0, .ref (gAd E (0))), (1, .int (a0)), (2, .ref (gAd E (93)))] [.int (a0), .ref (gAd E (0)), .int ((0 : Int32)), .ref (gAd E (93))] rfl ?_
  refine G.callVC 0 [.int (a0)] [.int ((0 : Int32)), .ref (gAd E (93))] hM cls_X11 (by omega) h0 cw_L_120 w_1846 w_1847 (by omega) rfl (Nat.le_of_ble_eq_true rfl) (tbd tv_L_sync rfl) w_1844 (fun v g q => ?_) (fun X g q => ?_)
  · skip
    obtain ⟨x, o, rfl, e93⟩ := hn v g q
    refine G.eqs [.int (x), .int ((0 : Int32)), .ref (gAd E (93))] rfl ?_
    refine G.go tv_L_sync 1 8 [(0, .ref (gAd E (0))), (1, .int (a0)), (2, .ref (gAd E (93)))] [.long ((x : Int32).toInt64), .int ((0 : Int32)), .ref (gAd E (93))] rfl ?_
    refine G.eqs [.long ((x : Int32).toInt64), .int (nI (0)), .ref (gAd E (93))] (by rw [show (0 : Int32) = nI 0 from rfl]) ?_
    refine G.lastN (93) (0) (by omega) (e93) (by decide) (by decide) (tbd tv_L_sync rfl) ?_
    refine G.go tv_L_sync 2 19 [(0, .ref (gAd E (0))), (1, .int (a0)), (2, .ref (gAd E (93)))] [.int ((0 : Int32))] rfl ?_
    exact G.iretH rfl rfl (Or.inl ⟨rfl, x, o, g, q, e93, rfl⟩) (by decide) (by decide) (tbd tv_L_sync rfl)
  · rcases hx X g q with rfl | rfl
    · refine ⟨12, ⟨by decide +kernel, (tableOf [(0, 9, 12, 13), (0, 9, 15, 15)]).take 0, (tableOf [(0, 9, 12, 13), (0, 9, 15, 15)])[0]'(by decide), (tableOf [(0, 9, 12, 13), (0, 9, 15, 15)]).drop 1, rfl, (fun z hz => nomatch hz), by decide, by decide, w_636, rfl⟩, fun r => ?_⟩
      refine G.go tv_L_sync 2 14 [(0, .ref (gAd E (0))), (1, .int (a0)), (2, .ref (gAd E (93))), (3, .ref (r))] [.int ((1 : Int32))] rfl ?_
      exact G.iretH rfl rfl (Or.inr (Or.inl ⟨rfl, q⟩)) (by decide) (by decide) (tbd tv_L_sync rfl)
    · refine ⟨15, ⟨by decide +kernel, (tableOf [(0, 9, 12, 13), (0, 9, 15, 15)]).take 1, (tableOf [(0, 9, 12, 13), (0, 9, 15, 15)])[1]'(by decide), (tableOf [(0, 9, 12, 13), (0, 9, 15, 15)]).drop 2, rfl, (fun z hz => by
        simp only [tableOf, List.map, List.take, List.mem_cons, List.not_mem_nil, or_false] at hz
        rcases hz with rfl
        · exact ⟨by decide, xI, by decide +kernel, by decide +kernel, w_636⟩), by decide, by decide, w_637, rfl⟩, fun r => ?_⟩
      refine G.go tv_L_sync 2 17 [(0, .ref (gAd E (0))), (1, .int (a0)), (2, .ref (gAd E (93))), (3, .ref (r))] [.int ((2 : Int32))] rfl ?_
      exact G.iretH rfl rfl (Or.inr (Or.inr (⟨rfl, q⟩))) (by decide) (by decide) (tbd tv_L_sync rfl)
theorem w_1862 : Cond.codeWith yL_apply method_36_code 3 (some .int) [(0, 8, 11, 13), (0, 8, 14, 15) ] ∈ TB := tp_8 36 (by decide +kernel) rfl
def tb_L_apply : List (Nat × Instr × Nat) := [(0, .aload_n 1, 1), (1, .iconst 0, 1), (2, .aload_n 0, 1), (3, .invokevirtual 123, 3), (6, .i2l, 1), (7, .lastore, 1), (8, .goto 9, 3), (11, .astore_n 2, 1), (12, .iconst 1, 1), (13, .ireturn, 1), (14, .astore_n 2, 1), (15, .iconst 2, 1), (16, .ireturn, 1), (17, .iconst 0, 1), (18, .ireturn, 1)]
theorem tv_L_apply : Tv cL_apply tb_L_apply := by
  unfold Tv
  decide +kernel
theorem w_1863 : Cond.methodLink "LedgerFilesLaw" 123 yX11_apply ∈ TB := tp_8 37 (by decide +kernel) rfl
theorem w_1866 : Cond.code yX11_apply prog_1_method_51_code 2 (some .int) ∈ TB := tp_8 40 rfl rfl
theorem cw_L_123 : Cw RL 123 yX11_apply cX11_apply 2 (some .int) 0 := ⟨w_1863, w_1866, w_147, by decide +kernel, by decide +kernel, by decide⟩
theorem w_1864 : Cond.instanceMethod yX11_apply ∈ TB := tp_8 38 (by decide +kernel) rfl
theorem w_1865 : Cond.selects "LedgerFiles" yX11_apply yX11_apply ∈ TB := tp_8 39 (by decide +kernel) rfl
set_option maxRecDepth 100000 in
set_option maxHeartbeats 4000000 in
theorem h_L_apply (E : gE) (f : Nat → va_E) (hE : 94 ≤ gN E) {Q' : gQ} {h' : Nat}  (hM : Ct E h' yX11_apply cX11_apply 2 (some .int) [.ref (gAd E (0))] f Q') (hh : h' ≤ 110) {fs : List Value} (h0 : f 0 = .inr (11, fs)) (hn : ∀ v g, Q'.1 v g → ∃ (x : Int32) (o : Nat → Int64), v = some (.int x) ∧ g 93 = oJ (gDA E) 1 o) (hx : ∀ X g, Q'.2 X g → X = xI ∨ X = xU) : Ch E 120 yL_apply cL_apply 3 (some .int) [(0, 8, 11, 13), (0, 8, 14, 15)] [.ref (gAd E (0)), .ref (gAd E (93))] f (fun v g => (v = some (.int 0) ∧ ∃ x o g0, Q'.1 (some (.int x)) g0 ∧ g0 93 = oJ (gDA E) 1 o ∧ g = va_up g0 93 (oJ (gDA E) 1 (vp_updL o 0 x.toInt64))) ∨ (v = some (.int 1) ∧ Q'.2 xI g) ∨ (v = some (.int 2) ∧ Q'.2 xU g)) := by
  refine Ch.of (by decide) (by decide) (Nat.le_of_ble_eq_true rfl) (fun sz => ?_)
  refine G.eql [(0, .ref (gAd E (0))), (1, .ref (gAd E (93)))] rfl ?_
  refine G.go tv_L_apply 3 3 [(0, .ref (gAd E (0))), (1, .ref (gAd E (93)))] [.ref (gAd E (0)), .int ((0 : Int32)), .ref (gAd E (93))] rfl ?_
  refine G.callVC 0 [] [.int ((0 : Int32)), .ref (gAd E (93))] hM cls_X11 (by omega) h0 cw_L_123 w_1864 w_1865 (by omega) rfl (Nat.le_of_ble_eq_true rfl) (tbd tv_L_apply rfl) w_1862 (fun v g q => ?_) (fun X g q => ?_)
  · skip
    obtain ⟨x, o, rfl, e93⟩ := hn v g q
    refine G.eqs [.int (x), .int ((0 : Int32)), .ref (gAd E (93))] rfl ?_
    refine G.go tv_L_apply 1 7 [(0, .ref (gAd E (0))), (1, .ref (gAd E (93)))] [.long ((x : Int32).toInt64), .int ((0 : Int32)), .ref (gAd E (93))] rfl ?_
    refine G.eqs [.long ((x : Int32).toInt64), .int (nI (0)), .ref (gAd E (93))] (by rw [show (0 : Int32) = nI 0 from rfl]) ?_
    refine G.lastN (93) (0) (by omega) (e93) (by decide) (by decide) (tbd tv_L_apply rfl) ?_
    refine G.go tv_L_apply 2 18 [(0, .ref (gAd E (0))), (1, .ref (gAd E (93)))] [.int ((0 : Int32))] rfl ?_
    exact G.iretH rfl rfl (Or.inl ⟨rfl, x, o, g, q, e93, rfl⟩) (by decide) (by decide) (tbd tv_L_apply rfl)
  · rcases hx X g q with rfl | rfl
    · refine ⟨11, ⟨by decide +kernel, (tableOf [(0, 8, 11, 13), (0, 8, 14, 15)]).take 0, (tableOf [(0, 8, 11, 13), (0, 8, 14, 15)])[0]'(by decide), (tableOf [(0, 8, 11, 13), (0, 8, 14, 15)]).drop 1, rfl, (fun z hz => nomatch hz), by decide, by decide, w_636, rfl⟩, fun r => ?_⟩
      refine G.go tv_L_apply 2 13 [(0, .ref (gAd E (0))), (1, .ref (gAd E (93))), (2, .ref (r))] [.int ((1 : Int32))] rfl ?_
      exact G.iretH rfl rfl (Or.inr (Or.inl ⟨rfl, q⟩)) (by decide) (by decide) (tbd tv_L_apply rfl)
    · refine ⟨14, ⟨by decide +kernel, (tableOf [(0, 8, 11, 13), (0, 8, 14, 15)]).take 1, (tableOf [(0, 8, 11, 13), (0, 8, 14, 15)])[1]'(by decide), (tableOf [(0, 8, 11, 13), (0, 8, 14, 15)]).drop 2, rfl, (fun z hz => by
        simp only [tableOf, List.map, List.take, List.mem_cons, List.not_mem_nil, or_false] at hz
        rcases hz with rfl
        · exact ⟨by decide, xI, by decide +kernel, by decide +kernel, w_636⟩), by decide, by decide, w_637, rfl⟩, fun r => ?_⟩
      refine G.go tv_L_apply 2 16 [(0, .ref (gAd E (0))), (1, .ref (gAd E (93))), (2, .ref (r))] [.int ((2 : Int32))] rfl ?_
      exact G.iretH rfl rfl (Or.inr (Or.inr (⟨rfl, q⟩))) (by decide) (by decide) (tbd tv_L_apply rfl)
theorem w_1869 : Cond.codeWith yL_power method_37_code 3 (some .int) [(0, 5, 8, 13), (0, 5, 11, 20) ] ∈ TB := tp_8 43 (by decide +kernel) rfl
def tb_L_power : List (Nat × Instr × Nat) := [(0, .aload_n 0, 1), (1, .iload_n 1, 1), (2, .invokevirtual 126, 3), (5, .goto 9, 3), (8, .astore_n 2, 1), (9, .iconst 1, 1), (10, .ireturn, 1), (11, .astore_n 2, 1), (12, .iconst 2, 1), (13, .ireturn, 1), (14, .iconst 0, 1), (15, .ireturn, 1)]
theorem tv_L_power : Tv cL_power tb_L_power := by
  unfold Tv
  decide +kernel
theorem w_1870 : Cond.methodLink "LedgerFilesLaw" 126 yX11_power ∈ TB := tp_8 44 (by decide +kernel) rfl
theorem w_1873 : Cond.code yX11_power prog_1_method_53_code 2 none ∈ TB := tp_8 47 rfl rfl
theorem cw_L_126 : Cw RL 126 yX11_power cX11_power 2 none 1 := ⟨w_1870, w_1873, w_147, by decide +kernel, by decide +kernel, by decide⟩
theorem w_1871 : Cond.instanceMethod yX11_power ∈ TB := tp_8 45 (by decide +kernel) rfl
theorem w_1872 : Cond.selects "LedgerFiles" yX11_power yX11_power ∈ TB := tp_8 46 (by decide +kernel) rfl
set_option maxRecDepth 100000 in
set_option maxHeartbeats 4000000 in
theorem h_L_power (E : gE) (f : Nat → va_E) (hE : 94 ≤ gN E) {Q' : gQ} {h' : Nat} (a0 : Int32) (hM : Ct E h' yX11_power cX11_power 2 none [.ref (gAd E (0)), .int (a0)] f Q') (hh : h' ≤ 110) {fs : List Value} (h0 : f 0 = .inr (11, fs)) (hn : ∀ v g, Q'.1 v g → v = none) (hx : ∀ X g, Q'.2 X g → X = xI ∨ X = xA) : Ch E 120 yL_power cL_power 3 (some .int) [(0, 5, 8, 13), (0, 5, 11, 20)] [.ref (gAd E (0)), .int (a0)] f (fun v g => (v = some (.int 0) ∧ Q'.1 none g) ∨ (v = some (.int 1) ∧ Q'.2 xI g) ∨ (v = some (.int 2) ∧ Q'.2 xA g)) := by
  refine Ch.of (by decide) (by decide) (Nat.le_of_ble_eq_true rfl) (fun sz => ?_)
  refine G.eql [(0, .ref (gAd E (0))), (1, .int (a0))] rfl ?_
  refine G.go tv_L_power 2 2 [(0, .ref (gAd E (0))), (1, .int (a0))] [.int (a0), .ref (gAd E (0))] rfl ?_
  refine G.callVC 0 [.int (a0)] [] hM cls_X11 (by omega) h0 cw_L_126 w_1871 w_1872 (by omega) rfl (Nat.le_of_ble_eq_true rfl) (tbd tv_L_power rfl) w_1869 (fun v g q => ?_) (fun X g q => ?_)
  · skip
    obtain rfl := hn v g q
    refine G.eqs [] rfl ?_
    refine G.go tv_L_power 2 15 [(0, .ref (gAd E (0))), (1, .int (a0))] [.int ((0 : Int32))] rfl ?_
    exact G.iretH rfl rfl (Or.inl ⟨rfl, q⟩) (by decide) (by decide) (tbd tv_L_power rfl)
  · rcases hx X g q with rfl | rfl
    · refine ⟨8, ⟨by decide +kernel, (tableOf [(0, 5, 8, 13), (0, 5, 11, 20)]).take 0, (tableOf [(0, 5, 8, 13), (0, 5, 11, 20)])[0]'(by decide), (tableOf [(0, 5, 8, 13), (0, 5, 11, 20)]).drop 1, rfl, (fun z hz => nomatch hz), by decide, by decide, w_636, rfl⟩, fun r => ?_⟩
      refine G.go tv_L_power 2 10 [(0, .ref (gAd E (0))), (1, .int (a0)), (2, .ref (r))] [.int ((1 : Int32))] rfl ?_
      exact G.iretH rfl rfl (Or.inr (Or.inl ⟨rfl, q⟩)) (by decide) (by decide) (tbd tv_L_power rfl)
    · refine ⟨11, ⟨by decide +kernel, (tableOf [(0, 5, 8, 13), (0, 5, 11, 20)]).take 1, (tableOf [(0, 5, 8, 13), (0, 5, 11, 20)])[1]'(by decide), (tableOf [(0, 5, 8, 13), (0, 5, 11, 20)]).drop 2, rfl, (fun z hz => by
        simp only [tableOf, List.map, List.take, List.mem_cons, List.not_mem_nil, or_false] at hz
        rcases hz with rfl
        · exact ⟨by decide, xI, by decide +kernel, by decide +kernel, w_636⟩), by decide, by decide, w_819, rfl⟩, fun r => ?_⟩
      refine G.go tv_L_power 2 13 [(0, .ref (gAd E (0))), (1, .int (a0)), (2, .ref (r))] [.int ((2 : Int32))] rfl ?_
      exact G.iretH rfl rfl (Or.inr (Or.inr (⟨rfl, q⟩))) (by decide) (by decide) (tbd tv_L_power rfl)
theorem w_1882 : Cond.codeWith yL_crash method_38_code 2 (some .int) [(0, 4, 7, 13)] ∈ TB := tp_8 56 (by decide +kernel) rfl
def tb_L_crash : List (Nat × Instr × Nat) := [(0, .aload_n 0, 1), (1, .invokevirtual 130, 3), (4, .goto 6, 3), (7, .astore_n 1, 1), (8, .iconst 1, 1), (9, .ireturn, 1), (10, .iconst 0, 1), (11, .ireturn, 1)]
theorem tv_L_crash : Tv cL_crash tb_L_crash := by
  unfold Tv
  decide +kernel
theorem w_1883 : Cond.methodLink "LedgerFilesLaw" 130 yX11_crash ∈ TB := tp_8 57 (by decide +kernel) rfl
theorem w_1886 : Cond.code yX11_crash prog_1_method_54_code 1 none ∈ TB := tp_8 60 rfl rfl
theorem cw_L_130 : Cw RL 130 yX11_crash cX11_crash 1 none 0 := ⟨w_1883, w_1886, w_147, by decide +kernel, by decide +kernel, by decide⟩
theorem w_1884 : Cond.instanceMethod yX11_crash ∈ TB := tp_8 58 (by decide +kernel) rfl
theorem w_1885 : Cond.selects "LedgerFiles" yX11_crash yX11_crash ∈ TB := tp_8 59 (by decide +kernel) rfl
set_option maxRecDepth 100000 in
set_option maxHeartbeats 4000000 in
theorem h_L_crash (E : gE) (f : Nat → va_E) (hE : 94 ≤ gN E) {Q' : gQ} {h' : Nat}  (hM : Ct E h' yX11_crash cX11_crash 1 none [.ref (gAd E (0))] f Q') (hh : h' ≤ 110) {fs : List Value} (h0 : f 0 = .inr (11, fs)) (hn : ∀ v g, Q'.1 v g → v = none) (hx : ∀ X g, Q'.2 X g → X = xI) : Ch E 120 yL_crash cL_crash 2 (some .int) [(0, 4, 7, 13)] [.ref (gAd E (0))] f (fun v g => (v = some (.int 0) ∧ Q'.1 none g) ∨ (v = some (.int 1) ∧ Q'.2 xI g)) := by
  refine Ch.of (by decide) (by decide) (Nat.le_of_ble_eq_true rfl) (fun sz => ?_)
  refine G.eql [(0, .ref (gAd E (0)))] rfl ?_
  refine G.go tv_L_crash 1 1 [(0, .ref (gAd E (0)))] [.ref (gAd E (0))] rfl ?_
  refine G.callVC 0 [] [] hM cls_X11 (by omega) h0 cw_L_130 w_1884 w_1885 (by omega) rfl (Nat.le_of_ble_eq_true rfl) (tbd tv_L_crash rfl) w_1882 (fun v g q => ?_) (fun X g q => ?_)
  · skip
    obtain rfl := hn v g q
    refine G.eqs [] rfl ?_
    refine G.go tv_L_crash 2 11 [(0, .ref (gAd E (0)))] [.int ((0 : Int32))] rfl ?_
    exact G.iretH rfl rfl (Or.inl ⟨rfl, q⟩) (by decide) (by decide) (tbd tv_L_crash rfl)
  · rcases hx X g q with rfl
    · refine ⟨7, ⟨by decide +kernel, (tableOf [(0, 4, 7, 13)]).take 0, (tableOf [(0, 4, 7, 13)])[0]'(by decide), (tableOf [(0, 4, 7, 13)]).drop 1, rfl, (fun z hz => nomatch hz), by decide, by decide, w_636, rfl⟩, fun r => ?_⟩
      refine G.go tv_L_crash 2 9 [(0, .ref (gAd E (0))), (1, .ref (r))] [.int ((1 : Int32))] rfl ?_
      exact G.iretH rfl rfl (Or.inr (⟨rfl, q⟩)) (by decide) (by decide) (tbd tv_L_crash rfl)
theorem w_1893 : Cond.codeWith yL_restart method_39_code 5 (some .int) [(0, 9, 12, 13)] ∈ TB := tp_8 67 (by decide +kernel) rfl
def tb_L_restart : List (Nat × Instr × Nat) := [(0, .aload_n 3, 1), (1, .iconst 0, 1), (2, .aload_n 0, 1), (3, .lload_n 1, 1), (4, .invokevirtual 133, 3), (7, .i2l, 1), (8, .lastore, 1), (9, .goto 7, 3), (12, .astore 4, 2), (14, .iconst 1, 1), (15, .ireturn, 1), (16, .iconst 0, 1), (17, .ireturn, 1)]
theorem tv_L_restart : Tv cL_restart tb_L_restart := by
  unfold Tv
  decide +kernel
theorem w_1894 : Cond.methodLink "LedgerFilesLaw" 133 yX11_restart ∈ TB := tp_8 68 (by decide +kernel) rfl
theorem w_1897 : Cond.code yX11_restart prog_1_method_55_code 3 (some .int) ∈ TB := tp_8 71 rfl rfl
theorem cw_L_133 : Cw RL 133 yX11_restart cX11_restart 3 (some .int) 1 := ⟨w_1894, w_1897, w_147, by decide +kernel, by decide +kernel, by decide⟩
theorem w_1895 : Cond.instanceMethod yX11_restart ∈ TB := tp_8 69 (by decide +kernel) rfl
theorem w_1896 : Cond.selects "LedgerFiles" yX11_restart yX11_restart ∈ TB := tp_8 70 (by decide +kernel) rfl
set_option maxRecDepth 100000 in
set_option maxHeartbeats 4000000 in
theorem h_L_restart (E : gE) (f : Nat → va_E) (hE : 94 ≤ gN E) {Q' : gQ} {h' : Nat} (a0 : Int64) (hM : Ct E h' yX11_restart cX11_restart 3 (some .int) [.ref (gAd E (0)), .long (a0)] f Q') (hh : h' ≤ 110) {fs : List Value} (h0 : f 0 = .inr (11, fs)) (hn : ∀ v g, Q'.1 v g → ∃ (x : Int32) (o : Nat → Int64), v = some (.int x) ∧ g 93 = oJ (gDA E) 1 o) (hx : ∀ X g, Q'.2 X g → X = xI) : Ch E 120 yL_restart cL_restart 5 (some .int) [(0, 9, 12, 13)] [.ref (gAd E (0)), .long (a0), .ref (gAd E (93))] f (fun v g => (v = some (.int 0) ∧ ∃ x o g0, Q'.1 (some (.int x)) g0 ∧ g0 93 = oJ (gDA E) 1 o ∧ g = va_up g0 93 (oJ (gDA E) 1 (vp_updL o 0 x.toInt64))) ∨ (v = some (.int 1) ∧ Q'.2 xI g)) := by
  refine Ch.of (by decide) (by decide) (Nat.le_of_ble_eq_true rfl) (fun sz => ?_)
  refine G.eql [(0, .ref (gAd E (0))), (1, .long (a0)), (3, .ref (gAd E (93)))] rfl ?_
  refine G.go tv_L_restart 4 4 [(0, .ref (gAd E (0))), (1, .long (a0)), (3, .ref (gAd E (93)))] [.long (a0), .ref (gAd E (0)), .int ((0 : Int32)), .ref (gAd E (93))] rfl ?_
  refine G.callVC 0 [.long (a0)] [.int ((0 : Int32)), .ref (gAd E (93))] hM cls_X11 (by omega) h0 cw_L_133 w_1895 w_1896 (by omega) rfl (Nat.le_of_ble_eq_true rfl) (tbd tv_L_restart rfl) w_1893 (fun v g q => ?_) (fun X g q => ?_)
  · skip
    obtain ⟨x, o, rfl, e93⟩ := hn v g q
    refine G.eqs [.int (x), .int ((0 : Int32)), .ref (gAd E (93))] rfl ?_
    refine G.go tv_L_restart 1 8 [(0, .ref (gAd E (0))), (1, .long (a0)), (3, .ref (gAd E (93)))] [.long ((x : Int32).toInt64), .int ((0 : Int32)), .ref (gAd E (93))] rfl ?_
    refine G.eqs [.long ((x : Int32).toInt64), .int (nI (0)), .ref (gAd E (93))] (by rw [show (0 : Int32) = nI 0 from rfl]) ?_
    refine G.lastN (93) (0) (by omega) (e93) (by decide) (by decide) (tbd tv_L_restart rfl) ?_
    refine G.go tv_L_restart 2 17 [(0, .ref (gAd E (0))), (1, .long (a0)), (3, .ref (gAd E (93)))] [.int ((0 : Int32))] rfl ?_
    exact G.iretH rfl rfl (Or.inl ⟨rfl, x, o, g, q, e93, rfl⟩) (by decide) (by decide) (tbd tv_L_restart rfl)
  · rcases hx X g q with rfl
    · refine ⟨12, ⟨by decide +kernel, (tableOf [(0, 9, 12, 13)]).take 0, (tableOf [(0, 9, 12, 13)])[0]'(by decide), (tableOf [(0, 9, 12, 13)]).drop 1, rfl, (fun z hz => nomatch hz), by decide, by decide, w_636, rfl⟩, fun r => ?_⟩
      refine G.go tv_L_restart 2 15 [(0, .ref (gAd E (0))), (1, .long (a0)), (3, .ref (gAd E (93))), (4, .ref (r))] [.int ((1 : Int32))] rfl ?_
      exact G.iretH rfl rfl (Or.inr (⟨rfl, q⟩)) (by decide) (by decide) (tbd tv_L_restart rfl)
theorem w_1915 : Cond.codeWith yL_byteAt method_40_code 5 (some .int) [(0, 10, 13, 84)] ∈ TB := tp_8 89 (by decide +kernel) rfl
def tb_L_byteAt : List (Nat × Instr × Nat) := [(0, .aload_n 3, 1), (1, .iconst 0, 1), (2, .aload_n 0, 1), (3, .iload_n 1, 1), (4, .iload_n 2, 1), (5, .invokevirtual 137, 3), (8, .i2l, 1), (9, .lastore, 1), (10, .goto 7, 3), (13, .astore 4, 2), (15, .iconst 1, 1), (16, .ireturn, 1), (17, .iconst 0, 1), (18, .ireturn, 1)]
theorem tv_L_byteAt : Tv cL_byteAt tb_L_byteAt := by
  unfold Tv
  decide +kernel
theorem w_1916 : Cond.methodLink "LedgerFilesLaw" 137 yX11_byteAt ∈ TB := tp_8 90 (by decide +kernel) rfl
theorem w_1919 : Cond.code yX11_byteAt prog_1_method_57_code 3 (some .int) ∈ TB := tp_8 93 rfl rfl
theorem cw_L_137 : Cw RL 137 yX11_byteAt cX11_byteAt 3 (some .int) 2 := ⟨w_1916, w_1919, w_147, by decide +kernel, by decide +kernel, by decide⟩
theorem w_1917 : Cond.instanceMethod yX11_byteAt ∈ TB := tp_8 91 (by decide +kernel) rfl
theorem w_1918 : Cond.selects "LedgerFiles" yX11_byteAt yX11_byteAt ∈ TB := tp_8 92 (by decide +kernel) rfl
set_option maxRecDepth 100000 in
set_option maxHeartbeats 4000000 in
theorem h_L_byteAt (E : gE) (f : Nat → va_E) (hE : 94 ≤ gN E) {Q' : gQ} {h' : Nat} (a0 : Int32) (a1 : Int32) (hM : Ct E h' yX11_byteAt cX11_byteAt 3 (some .int) [.ref (gAd E (0)), .int (a0), .int (a1)] f Q') (hh : h' ≤ 110) {fs : List Value} (h0 : f 0 = .inr (11, fs)) (hn : ∀ v g, Q'.1 v g → ∃ (x : Int32) (o : Nat → Int64), v = some (.int x) ∧ g 93 = oJ (gDA E) 1 o) (hx : ∀ X g, Q'.2 X g → X = xN) : Ch E 120 yL_byteAt cL_byteAt 5 (some .int) [(0, 10, 13, 84)] [.ref (gAd E (0)), .int (a0), .int (a1), .ref (gAd E (93))] f (fun v g => (v = some (.int 0) ∧ ∃ x o g0, Q'.1 (some (.int x)) g0 ∧ g0 93 = oJ (gDA E) 1 o ∧ g = va_up g0 93 (oJ (gDA E) 1 (vp_updL o 0 x.toInt64))) ∨ (v = some (.int 1) ∧ Q'.2 xN g)) := by
  refine Ch.of (by decide) (by decide) (Nat.le_of_ble_eq_true rfl) (fun sz => ?_)
  refine G.eql [(0, .ref (gAd E (0))), (1, .int (a0)), (2, .int (a1)), (3, .ref (gAd E (93)))] rfl ?_
  refine G.go tv_L_byteAt 5 5 [(0, .ref (gAd E (0))), (1, .int (a0)), (2, .int (a1)), (3, .ref (gAd E (93)))] [.int (a1), .int (a0), .ref (gAd E (0)), .int ((0 : Int32)), .ref (gAd E (93))] rfl ?_
  refine G.callVC 0 [.int (a0), .int (a1)] [.int ((0 : Int32)), .ref (gAd E (93))] hM cls_X11 (by omega) h0 cw_L_137 w_1917 w_1918 (by omega) rfl (Nat.le_of_ble_eq_true rfl) (tbd tv_L_byteAt rfl) w_1915 (fun v g q => ?_) (fun X g q => ?_)
  · skip
    obtain ⟨x, o, rfl, e93⟩ := hn v g q
    refine G.eqs [.int (x), .int ((0 : Int32)), .ref (gAd E (93))] rfl ?_
    refine G.go tv_L_byteAt 1 9 [(0, .ref (gAd E (0))), (1, .int (a0)), (2, .int (a1)), (3, .ref (gAd E (93)))] [.long ((x : Int32).toInt64), .int ((0 : Int32)), .ref (gAd E (93))] rfl ?_
    refine G.eqs [.long ((x : Int32).toInt64), .int (nI (0)), .ref (gAd E (93))] (by rw [show (0 : Int32) = nI 0 from rfl]) ?_
    refine G.lastN (93) (0) (by omega) (e93) (by decide) (by decide) (tbd tv_L_byteAt rfl) ?_
    refine G.go tv_L_byteAt 2 18 [(0, .ref (gAd E (0))), (1, .int (a0)), (2, .int (a1)), (3, .ref (gAd E (93)))] [.int ((0 : Int32))] rfl ?_
    exact G.iretH rfl rfl (Or.inl ⟨rfl, x, o, g, q, e93, rfl⟩) (by decide) (by decide) (tbd tv_L_byteAt rfl)
  · rcases hx X g q with rfl
    · refine ⟨13, ⟨by decide +kernel, (tableOf [(0, 10, 13, 84)]).take 0, (tableOf [(0, 10, 13, 84)])[0]'(by decide), (tableOf [(0, 10, 13, 84)]).drop 1, rfl, (fun z hz => nomatch hz), by decide, by decide, w_1721, rfl⟩, fun r => ?_⟩
      refine G.go tv_L_byteAt 2 16 [(0, .ref (gAd E (0))), (1, .int (a0)), (2, .int (a1)), (3, .ref (gAd E (93))), (4, .ref (r))] [.int ((1 : Int32))] rfl ?_
      exact G.iretH rfl rfl (Or.inr (⟨rfl, q⟩)) (by decide) (by decide) (tbd tv_L_byteAt rfl)
theorem w_1927 : Cond.codeWith yL_waiting method_41_code 4 (some .int) [(0, 9, 12, 84)] ∈ TB := tp_8 101 (by decide +kernel) rfl
def tb_L_waiting : List (Nat × Instr × Nat) := [(0, .aload_n 2, 1), (1, .iconst 0, 1), (2, .aload_n 0, 1), (3, .iload_n 1, 1), (4, .invokevirtual 140, 3), (7, .i2l, 1), (8, .lastore, 1), (9, .goto 6, 3), (12, .astore_n 3, 1), (13, .iconst 1, 1), (14, .ireturn, 1), (15, .iconst 0, 1), (16, .ireturn, 1)]
theorem tv_L_waiting : Tv cL_waiting tb_L_waiting := by
  unfold Tv
  decide +kernel
theorem w_1928 : Cond.methodLink "LedgerFilesLaw" 140 yX11_waiting ∈ TB := tp_8 102 (by decide +kernel) rfl
theorem w_1931 : Cond.code yX11_waiting prog_1_method_58_code 2 (some .int) ∈ TB := tp_8 105 rfl rfl
theorem cw_L_140 : Cw RL 140 yX11_waiting cX11_waiting 2 (some .int) 1 := ⟨w_1928, w_1931, w_147, by decide +kernel, by decide +kernel, by decide⟩
theorem w_1929 : Cond.instanceMethod yX11_waiting ∈ TB := tp_8 103 (by decide +kernel) rfl
theorem w_1930 : Cond.selects "LedgerFiles" yX11_waiting yX11_waiting ∈ TB := tp_8 104 (by decide +kernel) rfl
set_option maxRecDepth 100000 in
set_option maxHeartbeats 4000000 in
theorem h_L_waiting (E : gE) (f : Nat → va_E) (hE : 94 ≤ gN E) {Q' : gQ} {h' : Nat} (a0 : Int32) (hM : Ct E h' yX11_waiting cX11_waiting 2 (some .int) [.ref (gAd E (0)), .int (a0)] f Q') (hh : h' ≤ 110) {fs : List Value} (h0 : f 0 = .inr (11, fs)) (hn : ∀ v g, Q'.1 v g → ∃ (x : Int32) (o : Nat → Int64), v = some (.int x) ∧ g 93 = oJ (gDA E) 1 o) (hx : ∀ X g, Q'.2 X g → X = xN) : Ch E 120 yL_waiting cL_waiting 4 (some .int) [(0, 9, 12, 84)] [.ref (gAd E (0)), .int (a0), .ref (gAd E (93))] f (fun v g => (v = some (.int 0) ∧ ∃ x o g0, Q'.1 (some (.int x)) g0 ∧ g0 93 = oJ (gDA E) 1 o ∧ g = va_up g0 93 (oJ (gDA E) 1 (vp_updL o 0 x.toInt64))) ∨ (v = some (.int 1) ∧ Q'.2 xN g)) := by
  refine Ch.of (by decide) (by decide) (Nat.le_of_ble_eq_true rfl) (fun sz => ?_)
  refine G.eql [(0, .ref (gAd E (0))), (1, .int (a0)), (2, .ref (gAd E (93)))] rfl ?_
  refine G.go tv_L_waiting 4 4 [(0, .ref (gAd E (0))), (1, .int (a0)), (2, .ref (gAd E (93)))] [.int (a0), .ref (gAd E (0)), .int ((0 : Int32)), .ref (gAd E (93))] rfl ?_
  refine G.callVC 0 [.int (a0)] [.int ((0 : Int32)), .ref (gAd E (93))] hM cls_X11 (by omega) h0 cw_L_140 w_1929 w_1930 (by omega) rfl (Nat.le_of_ble_eq_true rfl) (tbd tv_L_waiting rfl) w_1927 (fun v g q => ?_) (fun X g q => ?_)
  · skip
    obtain ⟨x, o, rfl, e93⟩ := hn v g q
    refine G.eqs [.int (x), .int ((0 : Int32)), .ref (gAd E (93))] rfl ?_
    refine G.go tv_L_waiting 1 8 [(0, .ref (gAd E (0))), (1, .int (a0)), (2, .ref (gAd E (93)))] [.long ((x : Int32).toInt64), .int ((0 : Int32)), .ref (gAd E (93))] rfl ?_
    refine G.eqs [.long ((x : Int32).toInt64), .int (nI (0)), .ref (gAd E (93))] (by rw [show (0 : Int32) = nI 0 from rfl]) ?_
    refine G.lastN (93) (0) (by omega) (e93) (by decide) (by decide) (tbd tv_L_waiting rfl) ?_
    refine G.go tv_L_waiting 2 16 [(0, .ref (gAd E (0))), (1, .int (a0)), (2, .ref (gAd E (93)))] [.int ((0 : Int32))] rfl ?_
    exact G.iretH rfl rfl (Or.inl ⟨rfl, x, o, g, q, e93, rfl⟩) (by decide) (by decide) (tbd tv_L_waiting rfl)
  · rcases hx X g q with rfl
    · refine ⟨12, ⟨by decide +kernel, (tableOf [(0, 9, 12, 84)]).take 0, (tableOf [(0, 9, 12, 84)])[0]'(by decide), (tableOf [(0, 9, 12, 84)]).drop 1, rfl, (fun z hz => nomatch hz), by decide, by decide, w_1721, rfl⟩, fun r => ?_⟩
      refine G.go tv_L_waiting 2 14 [(0, .ref (gAd E (0))), (1, .int (a0)), (2, .ref (gAd E (93))), (3, .ref (r))] [.int ((1 : Int32))] rfl ?_
      exact G.iretH rfl rfl (Or.inr (⟨rfl, q⟩)) (by decide) (by decide) (tbd tv_L_waiting rfl)
theorem w_1934 : Cond.codeWith yL_seen method_42_code 5 (some .int) [(0, 10, 13, 13), (0, 10, 17, 84) ] ∈ TB := tp_8 108 (by decide +kernel) rfl
def tb_L_seen : List (Nat × Instr × Nat) := [(0, .aload_n 3, 1), (1, .iconst 0, 1), (2, .aload_n 0, 1), (3, .iload_n 1, 1), (4, .iload_n 2, 1), (5, .invokevirtual 143, 3), (8, .i2l, 1), (9, .lastore, 1), (10, .goto 11, 3), (13, .astore 4, 2), (15, .iconst 1, 1), (16, .ireturn, 1), (17, .astore 4, 2), (19, .iconst 2, 1), (20, .ireturn, 1), (21, .iconst 0, 1), (22, .ireturn, 1)]
theorem tv_L_seen : Tv cL_seen tb_L_seen := by
  unfold Tv
  decide +kernel
theorem w_1935 : Cond.methodLink "LedgerFilesLaw" 143 yX11_seen ∈ TB := tp_8 109 (by decide +kernel) rfl
theorem w_1938 : Cond.code yX11_seen prog_1_method_59_code 3 (some .int) ∈ TB := tp_8 112 rfl rfl
theorem cw_L_143 : Cw RL 143 yX11_seen cX11_seen 3 (some .int) 2 := ⟨w_1935, w_1938, w_147, by decide +kernel, by decide +kernel, by decide⟩
theorem w_1936 : Cond.instanceMethod yX11_seen ∈ TB := tp_8 110 (by decide +kernel) rfl
theorem w_1937 : Cond.selects "LedgerFiles" yX11_seen yX11_seen ∈ TB := tp_8 111 (by decide +kernel) rfl
set_option maxRecDepth 100000 in
set_option maxHeartbeats 4000000 in
theorem h_L_seen (E : gE) (f : Nat → va_E) (hE : 94 ≤ gN E) {Q' : gQ} {h' : Nat} (a0 : Int32) (a1 : Int32) (hM : Ct E h' yX11_seen cX11_seen 3 (some .int) [.ref (gAd E (0)), .int (a0), .int (a1)] f Q') (hh : h' ≤ 110) {fs : List Value} (h0 : f 0 = .inr (11, fs)) (hn : ∀ v g, Q'.1 v g → ∃ (x : Int32) (o : Nat → Int64), v = some (.int x) ∧ g 93 = oJ (gDA E) 1 o) (hx : ∀ X g, Q'.2 X g → X = xI ∨ X = xN) : Ch E 120 yL_seen cL_seen 5 (some .int) [(0, 10, 13, 13), (0, 10, 17, 84)] [.ref (gAd E (0)), .int (a0), .int (a1), .ref (gAd E (93))] f (fun v g => (v = some (.int 0) ∧ ∃ x o g0, Q'.1 (some (.int x)) g0 ∧ g0 93 = oJ (gDA E) 1 o ∧ g = va_up g0 93 (oJ (gDA E) 1 (vp_updL o 0 x.toInt64))) ∨ (v = some (.int 1) ∧ Q'.2 xI g) ∨ (v = some (.int 2) ∧ Q'.2 xN g)) := by
  refine Ch.of (by decide) (by decide) (Nat.le_of_ble_eq_true rfl) (fun sz => ?_)
  refine G.eql [(0, .ref (gAd E (0))), (1, .int (a0)), (2, .int (a1)), (3, .ref (gAd E (93)))] rfl ?_
  refine G.go tv_L_seen 5 5 [(0, .ref (gAd E (0))), (1, .int (a0)), (2, .int (a1)), (3, .ref (gAd E (93)))] [.int (a1), .int (a0), .ref (gAd E (0)), .int ((0 : Int32)), .ref (gAd E (93))] rfl ?_
  refine G.callVC 0 [.int (a0), .int (a1)] [.int ((0 : Int32)), .ref (gAd E (93))] hM cls_X11 (by omega) h0 cw_L_143 w_1936 w_1937 (by omega) rfl (Nat.le_of_ble_eq_true rfl) (tbd tv_L_seen rfl) w_1934 (fun v g q => ?_) (fun X g q => ?_)
  · skip
    obtain ⟨x, o, rfl, e93⟩ := hn v g q
    refine G.eqs [.int (x), .int ((0 : Int32)), .ref (gAd E (93))] rfl ?_
    refine G.go tv_L_seen 1 9 [(0, .ref (gAd E (0))), (1, .int (a0)), (2, .int (a1)), (3, .ref (gAd E (93)))] [.long ((x : Int32).toInt64), .int ((0 : Int32)), .ref (gAd E (93))] rfl ?_
    refine G.eqs [.long ((x : Int32).toInt64), .int (nI (0)), .ref (gAd E (93))] (by rw [show (0 : Int32) = nI 0 from rfl]) ?_
    refine G.lastN (93) (0) (by omega) (e93) (by decide) (by decide) (tbd tv_L_seen rfl) ?_
    refine G.go tv_L_seen 2 22 [(0, .ref (gAd E (0))), (1, .int (a0)), (2, .int (a1)), (3, .ref (gAd E (93)))] [.int ((0 : Int32))] rfl ?_
    exact G.iretH rfl rfl (Or.inl ⟨rfl, x, o, g, q, e93, rfl⟩) (by decide) (by decide) (tbd tv_L_seen rfl)
  · rcases hx X g q with rfl | rfl
    · refine ⟨13, ⟨by decide +kernel, (tableOf [(0, 10, 13, 13), (0, 10, 17, 84)]).take 0, (tableOf [(0, 10, 13, 13), (0, 10, 17, 84)])[0]'(by decide), (tableOf [(0, 10, 13, 13), (0, 10, 17, 84)]).drop 1, rfl, (fun z hz => nomatch hz), by decide, by decide, w_636, rfl⟩, fun r => ?_⟩
      refine G.go tv_L_seen 2 16 [(0, .ref (gAd E (0))), (1, .int (a0)), (2, .int (a1)), (3, .ref (gAd E (93))), (4, .ref (r))] [.int ((1 : Int32))] rfl ?_
      exact G.iretH rfl rfl (Or.inr (Or.inl ⟨rfl, q⟩)) (by decide) (by decide) (tbd tv_L_seen rfl)
    · refine ⟨17, ⟨by decide +kernel, (tableOf [(0, 10, 13, 13), (0, 10, 17, 84)]).take 1, (tableOf [(0, 10, 13, 13), (0, 10, 17, 84)])[1]'(by decide), (tableOf [(0, 10, 13, 13), (0, 10, 17, 84)]).drop 2, rfl, (fun z hz => by
        simp only [tableOf, List.map, List.take, List.mem_cons, List.not_mem_nil, or_false] at hz
        rcases hz with rfl
        · exact ⟨by decide, xI, by decide +kernel, by decide +kernel, w_636⟩), by decide, by decide, w_1721, rfl⟩, fun r => ?_⟩
      refine G.go tv_L_seen 2 20 [(0, .ref (gAd E (0))), (1, .int (a0)), (2, .int (a1)), (3, .ref (gAd E (93))), (4, .ref (r))] [.int ((2 : Int32))] rfl ?_
      exact G.iretH rfl rfl (Or.inr (Or.inr (⟨rfl, q⟩))) (by decide) (by decide) (tbd tv_L_seen rfl)
theorem w_1942 : Cond.codeWith yL_tree method_43_code 4 (some .int) [(0, 8, 11, 13)] ∈ TB := tp_8 116 (by decide +kernel) rfl
def tb_L_tree : List (Nat × Instr × Nat) := [(0, .aload_n 2, 1), (1, .iconst 0, 1), (2, .aload_n 0, 1), (3, .iload_n 1, 1), (4, .invokevirtual 146, 3), (7, .lastore, 1), (8, .goto 6, 3), (11, .astore_n 3, 1), (12, .iconst 1, 1), (13, .ireturn, 1), (14, .iconst 0, 1), (15, .ireturn, 1)]
theorem tv_L_tree : Tv cL_tree tb_L_tree := by
  unfold Tv
  decide +kernel
theorem w_1943 : Cond.methodLink "LedgerFilesLaw" 146 yX11_tree ∈ TB := tp_8 117 (by decide +kernel) rfl
theorem w_1946 : Cond.code yX11_tree prog_1_method_60_code 10 (some .long) ∈ TB := tp_8 120 rfl rfl
theorem cw_L_146 : Cw RL 146 yX11_tree cX11_tree 10 (some .long) 1 := ⟨w_1943, w_1946, w_147, by decide +kernel, by decide +kernel, by decide⟩
theorem w_1944 : Cond.instanceMethod yX11_tree ∈ TB := tp_8 118 (by decide +kernel) rfl
theorem w_1945 : Cond.selects "LedgerFiles" yX11_tree yX11_tree ∈ TB := tp_8 119 (by decide +kernel) rfl
set_option maxRecDepth 100000 in
set_option maxHeartbeats 4000000 in
theorem h_L_tree (E : gE) (f : Nat → va_E) (hE : 94 ≤ gN E) {Q' : gQ} {h' : Nat} (a0 : Int32) (hM : Ct E h' yX11_tree cX11_tree 10 (some .long) [.ref (gAd E (0)), .int (a0)] f Q') (hh : h' ≤ 110) {fs : List Value} (h0 : f 0 = .inr (11, fs)) (hn : ∀ v g, Q'.1 v g → ∃ (x : Int64) (o : Nat → Int64), v = some (.long x) ∧ g 93 = oJ (gDA E) 1 o) (hx : ∀ X g, Q'.2 X g → X = xI) : Ch E 120 yL_tree cL_tree 4 (some .int) [(0, 8, 11, 13)] [.ref (gAd E (0)), .int (a0), .ref (gAd E (93))] f (fun v g => (v = some (.int 0) ∧ ∃ x o g0, Q'.1 (some (.long x)) g0 ∧ g0 93 = oJ (gDA E) 1 o ∧ g = va_up g0 93 (oJ (gDA E) 1 (vp_updL o 0 x))) ∨ (v = some (.int 1) ∧ Q'.2 xI g)) := by
  refine Ch.of (by decide) (by decide) (Nat.le_of_ble_eq_true rfl) (fun sz => ?_)
  refine G.eql [(0, .ref (gAd E (0))), (1, .int (a0)), (2, .ref (gAd E (93)))] rfl ?_
  refine G.go tv_L_tree 4 4 [(0, .ref (gAd E (0))), (1, .int (a0)), (2, .ref (gAd E (93)))] [.int (a0), .ref (gAd E (0)), .int ((0 : Int32)), .ref (gAd E (93))] rfl ?_
  refine G.callVC 0 [.int (a0)] [.int ((0 : Int32)), .ref (gAd E (93))] hM cls_X11 (by omega) h0 cw_L_146 w_1944 w_1945 (by omega) rfl (Nat.le_of_ble_eq_true rfl) (tbd tv_L_tree rfl) w_1942 (fun v g q => ?_) (fun X g q => ?_)
  · skip
    obtain ⟨x, o, rfl, e93⟩ := hn v g q
    refine G.eqs [.long (x), .int ((0 : Int32)), .ref (gAd E (93))] rfl ?_
    refine G.eqs [.long (x), .int (nI (0)), .ref (gAd E (93))] (by rw [show (0 : Int32) = nI 0 from rfl]) ?_
    refine G.lastN (93) (0) (by omega) (e93) (by decide) (by decide) (tbd tv_L_tree rfl) ?_
    refine G.go tv_L_tree 2 15 [(0, .ref (gAd E (0))), (1, .int (a0)), (2, .ref (gAd E (93)))] [.int ((0 : Int32))] rfl ?_
    exact G.iretH rfl rfl (Or.inl ⟨rfl, x, o, g, q, e93, rfl⟩) (by decide) (by decide) (tbd tv_L_tree rfl)
  · rcases hx X g q with rfl
    · refine ⟨11, ⟨by decide +kernel, (tableOf [(0, 8, 11, 13)]).take 0, (tableOf [(0, 8, 11, 13)])[0]'(by decide), (tableOf [(0, 8, 11, 13)]).drop 1, rfl, (fun z hz => nomatch hz), by decide, by decide, w_636, rfl⟩, fun r => ?_⟩
      refine G.go tv_L_tree 2 13 [(0, .ref (gAd E (0))), (1, .int (a0)), (2, .ref (gAd E (93))), (3, .ref (r))] [.int ((1 : Int32))] rfl ?_
      exact G.iretH rfl rfl (Or.inr (⟨rfl, q⟩)) (by decide) (by decide) (tbd tv_L_tree rfl)
theorem w_1966 : Cond.codeWith yL_check method_44_code 3 (some .int) [(0, 8, 11, 13)] ∈ TB := tp_8 140 (by decide +kernel) rfl
def tb_L_check : List (Nat × Instr × Nat) := [(0, .aload_n 1, 1), (1, .iconst 0, 1), (2, .aload_n 0, 1), (3, .invokevirtual 150, 3), (6, .i2l, 1), (7, .lastore, 1), (8, .goto 6, 3), (11, .astore_n 2, 1), (12, .iconst 1, 1), (13, .ireturn, 1), (14, .iconst 0, 1), (15, .ireturn, 1)]
theorem tv_L_check : Tv cL_check tb_L_check := by
  unfold Tv
  decide +kernel
theorem w_1967 : Cond.methodLink "LedgerFilesLaw" 150 yX11_check ∈ TB := tp_8 141 (by decide +kernel) rfl
theorem w_1970 : Cond.code yX11_check prog_1_method_61_code 1 (some .int) ∈ TB := tp_8 144 rfl rfl
theorem cw_L_150 : Cw RL 150 yX11_check cX11_check 1 (some .int) 0 := ⟨w_1967, w_1970, w_147, by decide +kernel, by decide +kernel, by decide⟩
theorem w_1968 : Cond.instanceMethod yX11_check ∈ TB := tp_8 142 (by decide +kernel) rfl
theorem w_1969 : Cond.selects "LedgerFiles" yX11_check yX11_check ∈ TB := tp_8 143 (by decide +kernel) rfl
set_option maxRecDepth 100000 in
set_option maxHeartbeats 4000000 in
theorem h_L_check (E : gE) (f : Nat → va_E) (hE : 94 ≤ gN E) {Q' : gQ} {h' : Nat}  (hM : Ct E h' yX11_check cX11_check 1 (some .int) [.ref (gAd E (0))] f Q') (hh : h' ≤ 110) {fs : List Value} (h0 : f 0 = .inr (11, fs)) (hn : ∀ v g, Q'.1 v g → ∃ (x : Int32) (o : Nat → Int64), v = some (.int x) ∧ g 93 = oJ (gDA E) 1 o) (hx : ∀ X g, Q'.2 X g → X = xI) : Ch E 120 yL_check cL_check 3 (some .int) [(0, 8, 11, 13)] [.ref (gAd E (0)), .ref (gAd E (93))] f (fun v g => (v = some (.int 0) ∧ ∃ x o g0, Q'.1 (some (.int x)) g0 ∧ g0 93 = oJ (gDA E) 1 o ∧ g = va_up g0 93 (oJ (gDA E) 1 (vp_updL o 0 x.toInt64))) ∨ (v = some (.int 1) ∧ Q'.2 xI g)) := by
  refine Ch.of (by decide) (by decide) (Nat.le_of_ble_eq_true rfl) (fun sz => ?_)
  refine G.eql [(0, .ref (gAd E (0))), (1, .ref (gAd E (93)))] rfl ?_
  refine G.go tv_L_check 3 3 [(0, .ref (gAd E (0))), (1, .ref (gAd E (93)))] [.ref (gAd E (0)), .int ((0 : Int32)), .ref (gAd E (93))] rfl ?_
  refine G.callVC 0 [] [.int ((0 : Int32)), .ref (gAd E (93))] hM cls_X11 (by omega) h0 cw_L_150 w_1968 w_1969 (by omega) rfl (Nat.le_of_ble_eq_true rfl) (tbd tv_L_check rfl) w_1966 (fun v g q => ?_) (fun X g q => ?_)
  · skip
    obtain ⟨x, o, rfl, e93⟩ := hn v g q
    refine G.eqs [.int (x), .int ((0 : Int32)), .ref (gAd E (93))] rfl ?_
    refine G.go tv_L_check 1 7 [(0, .ref (gAd E (0))), (1, .ref (gAd E (93)))] [.long ((x : Int32).toInt64), .int ((0 : Int32)), .ref (gAd E (93))] rfl ?_
    refine G.eqs [.long ((x : Int32).toInt64), .int (nI (0)), .ref (gAd E (93))] (by rw [show (0 : Int32) = nI 0 from rfl]) ?_
    refine G.lastN (93) (0) (by omega) (e93) (by decide) (by decide) (tbd tv_L_check rfl) ?_
    refine G.go tv_L_check 2 15 [(0, .ref (gAd E (0))), (1, .ref (gAd E (93)))] [.int ((0 : Int32))] rfl ?_
    exact G.iretH rfl rfl (Or.inl ⟨rfl, x, o, g, q, e93, rfl⟩) (by decide) (by decide) (tbd tv_L_check rfl)
  · rcases hx X g q with rfl
    · refine ⟨11, ⟨by decide +kernel, (tableOf [(0, 8, 11, 13)]).take 0, (tableOf [(0, 8, 11, 13)])[0]'(by decide), (tableOf [(0, 8, 11, 13)]).drop 1, rfl, (fun z hz => nomatch hz), by decide, by decide, w_636, rfl⟩, fun r => ?_⟩
      refine G.go tv_L_check 2 13 [(0, .ref (gAd E (0))), (1, .ref (gAd E (93))), (2, .ref (r))] [.int ((1 : Int32))] rfl ?_
      exact G.iretH rfl rfl (Or.inr (⟨rfl, q⟩)) (by decide) (by decide) (tbd tv_L_check rfl)
theorem w_2030 : Cond.codeWith yL_count method_45_code 4 (some .int) [(0, 9, 12, 20)] ∈ TB := tp_8 204 (by decide +kernel) rfl
def tb_L_count : List (Nat × Instr × Nat) := [(0, .aload_n 2, 1), (1, .iconst 0, 1), (2, .aload_n 0, 1), (3, .iload_n 1, 1), (4, .invokevirtual 153, 3), (7, .i2l, 1), (8, .lastore, 1), (9, .goto 6, 3), (12, .astore_n 3, 1), (13, .iconst 1, 1), (14, .ireturn, 1), (15, .iconst 0, 1), (16, .ireturn, 1)]
theorem tv_L_count : Tv cL_count tb_L_count := by
  unfold Tv
  decide +kernel
theorem w_2031 : Cond.methodLink "LedgerFilesLaw" 153 yX11_count ∈ TB := tp_8 205 (by decide +kernel) rfl
theorem w_2034 : Cond.code yX11_count prog_1_method_62_code 2 (some .int) ∈ TB := tp_8 208 rfl rfl
theorem cw_L_153 : Cw RL 153 yX11_count cX11_count 2 (some .int) 1 := ⟨w_2031, w_2034, w_147, by decide +kernel, by decide +kernel, by decide⟩
theorem w_2032 : Cond.instanceMethod yX11_count ∈ TB := tp_8 206 (by decide +kernel) rfl
theorem w_2033 : Cond.selects "LedgerFiles" yX11_count yX11_count ∈ TB := tp_8 207 (by decide +kernel) rfl
set_option maxRecDepth 100000 in
set_option maxHeartbeats 4000000 in
theorem h_L_count (E : gE) (f : Nat → va_E) (hE : 94 ≤ gN E) {Q' : gQ} {h' : Nat} (a0 : Int32) (hM : Ct E h' yX11_count cX11_count 2 (some .int) [.ref (gAd E (0)), .int (a0)] f Q') (hh : h' ≤ 110) {fs : List Value} (h0 : f 0 = .inr (11, fs)) (hn : ∀ v g, Q'.1 v g → ∃ (x : Int32) (o : Nat → Int64), v = some (.int x) ∧ g 93 = oJ (gDA E) 1 o) (hx : ∀ X g, Q'.2 X g → X = xA) : Ch E 120 yL_count cL_count 4 (some .int) [(0, 9, 12, 20)] [.ref (gAd E (0)), .int (a0), .ref (gAd E (93))] f (fun v g => (v = some (.int 0) ∧ ∃ x o g0, Q'.1 (some (.int x)) g0 ∧ g0 93 = oJ (gDA E) 1 o ∧ g = va_up g0 93 (oJ (gDA E) 1 (vp_updL o 0 x.toInt64))) ∨ (v = some (.int 1) ∧ Q'.2 xA g)) := by
  refine Ch.of (by decide) (by decide) (Nat.le_of_ble_eq_true rfl) (fun sz => ?_)
  refine G.eql [(0, .ref (gAd E (0))), (1, .int (a0)), (2, .ref (gAd E (93)))] rfl ?_
  refine G.go tv_L_count 4 4 [(0, .ref (gAd E (0))), (1, .int (a0)), (2, .ref (gAd E (93)))] [.int (a0), .ref (gAd E (0)), .int ((0 : Int32)), .ref (gAd E (93))] rfl ?_
  refine G.callVC 0 [.int (a0)] [.int ((0 : Int32)), .ref (gAd E (93))] hM cls_X11 (by omega) h0 cw_L_153 w_2032 w_2033 (by omega) rfl (Nat.le_of_ble_eq_true rfl) (tbd tv_L_count rfl) w_2030 (fun v g q => ?_) (fun X g q => ?_)
  · skip
    obtain ⟨x, o, rfl, e93⟩ := hn v g q
    refine G.eqs [.int (x), .int ((0 : Int32)), .ref (gAd E (93))] rfl ?_
    refine G.go tv_L_count 1 8 [(0, .ref (gAd E (0))), (1, .int (a0)), (2, .ref (gAd E (93)))] [.long ((x : Int32).toInt64), .int ((0 : Int32)), .ref (gAd E (93))] rfl ?_
    refine G.eqs [.long ((x : Int32).toInt64), .int (nI (0)), .ref (gAd E (93))] (by rw [show (0 : Int32) = nI 0 from rfl]) ?_
    refine G.lastN (93) (0) (by omega) (e93) (by decide) (by decide) (tbd tv_L_count rfl) ?_
    refine G.go tv_L_count 2 16 [(0, .ref (gAd E (0))), (1, .int (a0)), (2, .ref (gAd E (93)))] [.int ((0 : Int32))] rfl ?_
    exact G.iretH rfl rfl (Or.inl ⟨rfl, x, o, g, q, e93, rfl⟩) (by decide) (by decide) (tbd tv_L_count rfl)
  · rcases hx X g q with rfl
    · refine ⟨12, ⟨by decide +kernel, (tableOf [(0, 9, 12, 20)]).take 0, (tableOf [(0, 9, 12, 20)])[0]'(by decide), (tableOf [(0, 9, 12, 20)]).drop 1, rfl, (fun z hz => nomatch hz), by decide, by decide, w_819, rfl⟩, fun r => ?_⟩
      refine G.go tv_L_count 2 14 [(0, .ref (gAd E (0))), (1, .int (a0)), (2, .ref (gAd E (93))), (3, .ref (r))] [.int ((1 : Int32))] rfl ?_
      exact G.iretH rfl rfl (Or.inr (⟨rfl, q⟩)) (by decide) (by decide) (tbd tv_L_count rfl)
