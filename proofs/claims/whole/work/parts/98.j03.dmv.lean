def tb_X10_trim : List (Nat × Instr × Nat) := [(0, .iconst 0, 1), (1, .istore_n 2, 1), (2, .iconst 0, 1), (3, .istore_n 3, 1), (4, .iload_n 3, 1), (5, .aload_n 0, 1), (6, .getfield 108, 3), (9, .if_icmp .ge 101, 3), (12, .aload_n 0, 1), (13, .getfield 52, 3), (16, .iload_n 3, 1), (17, .iaload, 1), (18, .istore 4, 2), (20, .aload_n 0, 1), (21, .iload 4, 2), (23, .invokevirtual 153, 3), (26, .ifCond .eq 40, 3), (29, .iload_n 1, 1), (30, .ifCond .eq 32, 3), (33, .aload_n 0, 1), (34, .getfield 49, 3), (37, .iload 4, 2), (39, .baload, 1), (40, .ifCond .ne 22, 3), (43, .aload_n 0, 1), (44, .getfield 42, 3), (47, .iload 4, 2), (49, .aaload, 1), (50, .aload_n 0, 1), (51, .iload 4, 2), (53, .invokevirtual 98, 3), (56, .invokestatic 156, 3), (59, .ifCond .ne 7, 3), (62, .iconst 1, 1), (63, .goto 4, 3), (66, .iconst 0, 1), (67, .istore 5, 2), (69, .iload 5, 2), (71, .ifCond .eq 17, 3), (74, .aload_n 0, 1), (75, .getfield 52, 3), (78, .iload_n 2, 1), (79, .iload 4, 2), (81, .iastore, 1), (82, .iinc 2 1, 3), (85, .goto 19, 3), (88, .aload_n 0, 1), (89, .getfield 45, 3), (92, .iload 4, 2), (94, .iconst 0, 1), (95, .bastore, 1), (96, .aload_n 0, 1), (97, .getfield 49, 3), (100, .iload 4, 2), (102, .iconst 0, 1), (103, .bastore, 1), (104, .iinc 3 1, 3), (107, .goto (-103), 3), (110, .aload_n 0, 1), (111, .iload_n 2, 1), (112, .putfield 108, 3), (115, .iload_n 2, 1), (116, .ireturn, 1)]
theorem tv_X10_trim : Tv cX10_trim tb_X10_trim := by
  unfold Tv
  decide +kernel
theorem w_1254 : Cond.methodLink "LedgerFiles$View" 153 yX10_isUsed ∈ TB := tp_5 148 (by decide +kernel) rfl
theorem w_1257 : Cond.code yX10_isUsed prog_12_method_7_code 2 (some .boolean) ∈ TB := tp_5 151 rfl rfl
theorem cw_X10_153 : Cw RX10 153 yX10_isUsed cX10_isUsed 2 (some .boolean) 1 := ⟨w_1254, w_1257, w_155, by decide +kernel, by decide +kernel, by decide⟩
theorem w_1256 : Cond.instanceMethod yX10_isUsed ∈ TB := tp_5 150 (by decide +kernel) rfl
theorem w_19 : Cond.selects "LedgerFiles$View" yX10_isUsed yX10_isUsed ∈ TB := tp_0 19 (by decide +kernel) rfl
theorem w_1259 : Cond.methodLink "LedgerFiles$View" 156 yX2_same ∈ TB := tp_5 153 (by decide +kernel) rfl
theorem cw_X10_156 : Cw RX10 156 yX2_same cX2_same 3 (some .boolean) 2 := ⟨w_1259, w_827, w_149, by decide +kernel, by decide +kernel, by decide⟩
def d_X10_trim_69 (N : Nat) (self4 : MS → CfT → Int32 → Int32 → Int32 → Option (Int32 × MS × CfT)) (A : MS) (D : CfT) (x1 : Int32) (x2 : Int32) (x3 : Int32) (x4 : Int32) (x5 : Int32) : Option (Int32 × MS × CfT) := if x5 = 0 then bnd (unO N A x4) (fun A9 => bnd (tkO N A9 x4 false) (fun A10 => self4 A10 D x1 x2 (x3 + (1 : Int32)))) else stA D 29 N x2 x4 (fun D11 => self4 A D11 x1 (x2 + (1 : Int32)) (x3 + (1 : Int32)))
def d_X10_trim_66 (N : Nat) (self4 : MS → CfT → Int32 → Int32 → Int32 → Option (Int32 × MS × CfT)) (A : MS) (D : CfT) (x1 : Int32) (x2 : Int32) (x3 : Int32) (x4 : Int32) : Option (Int32 × MS × CfT) := d_X10_trim_69 N self4 A D x1 x2 x3 x4 ((0 : Int32))
def d_X10_trim_62 (N : Nat) (self4 : MS → CfT → Int32 → Int32 → Int32 → Option (Int32 × MS × CfT)) (A : MS) (D : CfT) (x1 : Int32) (x2 : Int32) (x3 : Int32) (x4 : Int32) : Option (Int32 × MS × CfT) := d_X10_trim_69 N self4 A D x1 x2 x3 x4 ((1 : Int32))
def d_X10_trim_4 (N : Nat) : Nat → MS → CfT → Int32 → Int32 → Int32 → Option (Int32 × MS × CfT)
  | 0, _, _, _, _, _ => none
  | n + 1, A, D, x1, x2, x3 => if (cS D 2508) ≤ x3 then ptS D 2508 x2 (fun D1 => some (x2, A, D1)) else ld (cA D 29) N x3 (fun v2 => bnd (d_X10_isUsed N (vA A) D v2) (fun v3 => if v3 = 0 then d_X10_trim_66 N (d_X10_trim_4 N n) A D x1 x2 x3 v2 else if x1 = 0 then d_X10_trim_62 N (d_X10_trim_4 N n) A D x1 x2 x3 v2 else ld (tkA A.2.2.2.2.2.2.1) N v2 (fun v4 => if v4 = 0 then bnd (mdO N A v2) (fun y5 => seeB N (bfA A) v2 (fun y7 => bnd (d_X2_same N (vA A) D y5 128 y7 128) (fun v8 => if v8 = 0 then d_X10_trim_62 N (d_X10_trim_4 N n) A D x1 x2 x3 v2 else d_X10_trim_66 N (d_X10_trim_4 N n) A D x1 x2 x3 v2))) else d_X10_trim_62 N (d_X10_trim_4 N n) A D x1 x2 x3 v2)))
def d_X10_trim (N : Nat) (A : MS) (D : CfT) (a0 : Int32) : Option (Int32 × MS × CfT) := d_X10_trim_4 N fuL A D a0 ((0 : Int32)) ((0 : Int32))
set_option maxRecDepth 100000 in
set_option maxHeartbeats 4000000 in
theorem l_X10_trim_69 (E : gE) (f0 : Nat → va_E) (sz : Nat) (QA : Nat → Prop) (N B gr : Nat) (C0 : CfT) (hz : CfZ E N B gr) (self4 : MS → CfT → Int32 → Int32 → Int32 → Option (Int32 × MS × CfT)) (hs4 : ∀ (A : MS) (D : CfT) (x1 : Int32) (x2 : Int32) (x3 : Int32) (r : Int32) (A9 : MS) (D9 : CfT) (hr : self4 A D x1 x2 x3 = some (r, A9, D9)) (f : Nat → va_E) (C : CfT) (h : CfV E f N B gr C) (hD : Dq D C) (hA : AR N B gr A C) (hf : Fr CfK f0 f), G E (4, yX10_trim, 6, (some .int), sz, QA) cX10_trim (gO E (4, yX10_trim, 6, (some .int), sz, QA) (fun v g => v = some (.int r) ∧ SN E N B gr f0 A9 D9 g, fun _ _ => False)) 4 [(0, .ref (gAd E (25))), (1, .int (x1)), (2, .int (x2)), (3, .int (x3))] [] f) : ∀ (A : MS) (D : CfT) (x1 : Int32) (x2 : Int32) (x3 : Int32) (x4 : Int32) (x5 : Int32) (r : Int32) (A9 : MS) (D9 : CfT) (hr : d_X10_trim_69 N self4 A D x1 x2 x3 x4 x5 = some (r, A9, D9)) (f : Nat → va_E) (C : CfT) (h : CfV E f N B gr C) (hD : Dq D C) (hA : AR N B gr A C) (hf : Fr CfK f0 f), G E (4, yX10_trim, 6, (some .int), sz, QA) cX10_trim (gO E (4, yX10_trim, 6, (some .int), sz, QA) (fun v g => v = some (.int r) ∧ SN E N B gr f0 A9 D9 g, fun _ _ => False)) 69 [(0, .ref (gAd E (25))), (1, .int (x1)), (2, .int (x2)), (3, .int (x3)), (4, .int (x4)), (5, .int (x5))] [] f := by
  obtain ⟨z1, z2, z3, z4, z5, z6, z7⟩ := id hz
  intro A D x1 x2 x3 x4 x5 r A9 D9 hr f C h hD hA hf
  unfold d_X10_trim_69 at hr
  refine G.go tv_X10_trim 1 71 [(0, .ref (gAd E (25))), (1, .int (x1)), (2, .int (x2)), (3, .int (x3)), (4, .int (x4)), (5, .int (x5))] [.int (x5)] rfl ?_
  refine G.if_eq 88 (tbd tv_X10_trim rfl) (by decide) (fun c71 => ?_) (fun c71 => ?_)
  · replace hr := ite_t c71 hr
    refine G.go tv_X10_trim 1 89 [(0, .ref (gAd E (25))), (1, .int (x1)), (2, .int (x2)), (3, .int (x3)), (4, .int (x4)), (5, .int (x5))] [.ref (gAd E (25))] rfl ?_
    refine G.getf cls_X10 (25) 5 (by omega) (h.q25) (by decide) rfl (tbd tv_X10_trim rfl) w_415 ?_
    refine G.go tv_X10_trim 2 95 [(0, .ref (gAd E (25))), (1, .int (x1)), (2, .int (x2)), (3, .int (x3)), (4, .int (x4)), (5, .int (x5))] [.int ((0 : Int32)), .int (x4), .ref (gAd E (27))] rfl ?_
    obtain ⟨A9, hv9, hr⟩ := bnd_s hr
    refine G.unst hz h hD hA hf hv9 (tbd tv_X10_trim rfl) (fun u9 p9 => ?_)
    obtain ⟨C9, h9, hD9, hA9, k9⟩ := p9
    refine G.go tv_X10_trim 1 97 [(0, .ref (gAd E (25))), (1, .int (x1)), (2, .int (x2)), (3, .int (x3)), (4, .int (x4)), (5, .int (x5))] [.ref (gAd E (25))] rfl ?_
    refine G.getf cls_X10 (25) 6 (by omega) (h9.q25) (by decide) rfl (tbd tv_X10_trim rfl) w_416 ?_
    refine G.go tv_X10_trim 2 103 [(0, .ref (gAd E (25))), (1, .int (x1)), (2, .int (x2)), (3, .int (x3)), (4, .int (x4)), (5, .int (x5))] [.int ((0 : Int32)), .int (x4), .ref (gAd E (28))] rfl ?_
    obtain ⟨A10, hv10, hr⟩ := bnd_s hr
    refine G.tkst hz h9 hD9 hA9 k9 hv10 (tbd tv_X10_trim rfl) (fun u10 p10 => ?_)
    obtain ⟨C10, h10, hD10, hA10, k10⟩ := p10
    refine G.go tv_X10_trim 2 4 [(0, .ref (gAd E (25))), (1, .int (x1)), (2, .int (x2)), (3, .int (x3 + (1 : Int32))), (4, .int (x4)), (5, .int (x5))] [] rfl ?_
    refine G.less [(0, .ref (gAd E (25))), (1, .int (x1)), (2, .int (x2)), (3, .int (x3 + (1 : Int32)))] [0, 1, 2, 3] rfl ?_
    exact hs4 _ _ _ _ _ _ _ _ hr _ _ h10 hD10 hA10 k10
  · replace hr := ite_f c71 hr
    refine G.go tv_X10_trim 1 75 [(0, .ref (gAd E (25))), (1, .int (x1)), (2, .int (x2)), (3, .int (x3)), (4, .int (x4)), (5, .int (x5))] [.ref (gAd E (25))] rfl ?_
    refine G.getf cls_X10 (25) 7 (by omega) (h.q25) (by decide) rfl (tbd tv_X10_trim rfl) w_417 ?_
    refine G.go tv_X10_trim 2 81 [(0, .ref (gAd E (25))), (1, .int (x1)), (2, .int (x2)), (3, .int (x3)), (4, .int (x4)), (5, .int (x5))] [.int (x4), .int (x2), .ref (gAd E (29))] rfl ?_
    obtain ⟨D11, b11, eD11, hr⟩ := stA_s hr
    refine G.iast (29) (by omega) (h.q29) b11 (tbd tv_X10_trim rfl) ?_
    refine G.gen (P := SN E N B gr f0 A D11) ⟨sA C 29 (upd (cA C 29) x2.toNatClampNeg x4), h.p29 _, (by rw [eD11]; exact hD.au (by decide)), hA.sm (Sd.a (by decide) : Sd C (sA C 29 (upd (cA C 29) x2.toNatClampNeg x4))), Fr.c hf (by first | exact Or.inl (by decide) | exact Or.inr (by omega))⟩ (fun u11 p11 => ?_)
    obtain ⟨C11, h11, hD11, hA11, k11⟩ := p11
    refine G.go tv_X10_trim 4 4 [(0, .ref (gAd E (25))), (1, .int (x1)), (2, .int (x2 + (1 : Int32))), (3, .int (x3 + (1 : Int32))), (4, .int (x4)), (5, .int (x5))] [] rfl ?_
    refine G.less [(0, .ref (gAd E (25))), (1, .int (x1)), (2, .int (x2 + (1 : Int32))), (3, .int (x3 + (1 : Int32)))] [0, 1, 2, 3] rfl ?_
    exact hs4 _ _ _ _ _ _ _ _ hr _ _ h11 hD11 hA11 k11
set_option maxRecDepth 100000 in
set_option maxHeartbeats 4000000 in
theorem l_X10_trim_66 (E : gE) (f0 : Nat → va_E) (sz : Nat) (QA : Nat → Prop) (N B gr : Nat) (C0 : CfT) (hz : CfZ E N B gr) (self4 : MS → CfT → Int32 → Int32 → Int32 → Option (Int32 × MS × CfT)) (hs4 : ∀ (A : MS) (D : CfT) (x1 : Int32) (x2 : Int32) (x3 : Int32) (r : Int32) (A9 : MS) (D9 : CfT) (hr : self4 A D x1 x2 x3 = some (r, A9, D9)) (f : Nat → va_E) (C : CfT) (h : CfV E f N B gr C) (hD : Dq D C) (hA : AR N B gr A C) (hf : Fr CfK f0 f), G E (4, yX10_trim, 6, (some .int), sz, QA) cX10_trim (gO E (4, yX10_trim, 6, (some .int), sz, QA) (fun v g => v = some (.int r) ∧ SN E N B gr f0 A9 D9 g, fun _ _ => False)) 4 [(0, .ref (gAd E (25))), (1, .int (x1)), (2, .int (x2)), (3, .int (x3))] [] f) : ∀ (A : MS) (D : CfT) (x1 : Int32) (x2 : Int32) (x3 : Int32) (x4 : Int32) (r : Int32) (A9 : MS) (D9 : CfT) (hr : d_X10_trim_66 N self4 A D x1 x2 x3 x4 = some (r, A9, D9)) (f : Nat → va_E) (C : CfT) (h : CfV E f N B gr C) (hD : Dq D C) (hA : AR N B gr A C) (hf : Fr CfK f0 f), G E (4, yX10_trim, 6, (some .int), sz, QA) cX10_trim (gO E (4, yX10_trim, 6, (some .int), sz, QA) (fun v g => v = some (.int r) ∧ SN E N B gr f0 A9 D9 g, fun _ _ => False)) 66 [(0, .ref (gAd E (25))), (1, .int (x1)), (2, .int (x2)), (3, .int (x3)), (4, .int (x4))] [] f := by
  obtain ⟨z1, z2, z3, z4, z5, z6, z7⟩ := id hz
  intro A D x1 x2 x3 x4 r A9 D9 hr f C h hD hA hf
  unfold d_X10_trim_66 at hr
  refine G.go tv_X10_trim 2 69 [(0, .ref (gAd E (25))), (1, .int (x1)), (2, .int (x2)), (3, .int (x3)), (4, .int (x4)), (5, .int ((0 : Int32)))] [] rfl ?_
  refine G.less [(0, .ref (gAd E (25))), (1, .int (x1)), (2, .int (x2)), (3, .int (x3)), (4, .int (x4)), (5, .int ((0 : Int32)))] [0, 1, 2, 3, 4, 5] rfl ?_
  exact l_X10_trim_69 E f0 sz QA N B gr C0 hz _ hs4 _ _ _ _ _ _ _ _ _ _ hr _ _ h hD hA hf
set_option maxRecDepth 100000 in
set_option maxHeartbeats 4000000 in
theorem l_X10_trim_62 (E : gE) (f0 : Nat → va_E) (sz : Nat) (QA : Nat → Prop) (N B gr : Nat) (C0 : CfT) (hz : CfZ E N B gr) (self4 : MS → CfT → Int32 → Int32 → Int32 → Option (Int32 × MS × CfT)) (hs4 : ∀ (A : MS) (D : CfT) (x1 : Int32) (x2 : Int32) (x3 : Int32) (r : Int32) (A9 : MS) (D9 : CfT) (hr : self4 A D x1 x2 x3 = some (r, A9, D9)) (f : Nat → va_E) (C : CfT) (h : CfV E f N B gr C) (hD : Dq D C) (hA : AR N B gr A C) (hf : Fr CfK f0 f), G E (4, yX10_trim, 6, (some .int), sz, QA) cX10_trim (gO E (4, yX10_trim, 6, (some .int), sz, QA) (fun v g => v = some (.int r) ∧ SN E N B gr f0 A9 D9 g, fun _ _ => False)) 4 [(0, .ref (gAd E (25))), (1, .int (x1)), (2, .int (x2)), (3, .int (x3))] [] f) : ∀ (A : MS) (D : CfT) (x1 : Int32) (x2 : Int32) (x3 : Int32) (x4 : Int32) (r : Int32) (A9 : MS) (D9 : CfT) (hr : d_X10_trim_62 N self4 A D x1 x2 x3 x4 = some (r, A9, D9)) (f : Nat → va_E) (C : CfT) (h : CfV E f N B gr C) (hD : Dq D C) (hA : AR N B gr A C) (hf : Fr CfK f0 f), G E (4, yX10_trim, 6, (some .int), sz, QA) cX10_trim (gO E (4, yX10_trim, 6, (some .int), sz, QA) (fun v g => v = some (.int r) ∧ SN E N B gr f0 A9 D9 g, fun _ _ => False)) 62 [(0, .ref (gAd E (25))), (1, .int (x1)), (2, .int (x2)), (3, .int (x3)), (4, .int (x4))] [] f := by
  obtain ⟨z1, z2, z3, z4, z5, z6, z7⟩ := id hz
  intro A D x1 x2 x3 x4 r A9 D9 hr f C h hD hA hf
  unfold d_X10_trim_62 at hr
  refine G.go tv_X10_trim 3 69 [(0, .ref (gAd E (25))), (1, .int (x1)), (2, .int (x2)), (3, .int (x3)), (4, .int (x4)), (5, .int ((1 : Int32)))] [] rfl ?_
  refine G.less [(0, .ref (gAd E (25))), (1, .int (x1)), (2, .int (x2)), (3, .int (x3)), (4, .int (x4)), (5, .int ((1 : Int32)))] [0, 1, 2, 3, 4, 5] rfl ?_
  exact l_X10_trim_69 E f0 sz QA N B gr C0 hz _ hs4 _ _ _ _ _ _ _ _ _ _ hr _ _ h hD hA hf
set_option maxRecDepth 100000 in
set_option maxHeartbeats 4000000 in
theorem l_X10_trim_4 (E : gE) (f0 : Nat → va_E) (sz : Nat) (QA : Nat → Prop) (N B gr : Nat) (C0 : CfT) (hz : CfZ E N B gr) : ∀ (n : Nat), ∀ (A : MS) (D : CfT) (x1 : Int32) (x2 : Int32) (x3 : Int32) (r : Int32) (A9 : MS) (D9 : CfT) (hr : d_X10_trim_4 N n A D x1 x2 x3 = some (r, A9, D9)) (f : Nat → va_E) (C : CfT) (h : CfV E f N B gr C) (hD : Dq D C) (hA : AR N B gr A C) (hf : Fr CfK f0 f), G E (4, yX10_trim, 6, (some .int), sz, QA) cX10_trim (gO E (4, yX10_trim, 6, (some .int), sz, QA) (fun v g => v = some (.int r) ∧ SN E N B gr f0 A9 D9 g, fun _ _ => False)) 4 [(0, .ref (gAd E (25))), (1, .int (x1)), (2, .int (x2)), (3, .int (x3))] [] f := by
  obtain ⟨z1, z2, z3, z4, z5, z6, z7⟩ := id hz
  intro n
  induction n with
  | zero =>
    intro A D x1 x2 x3 r A9 D9 hr f C h hD hA hf
    cases hr
  | succ n ih =>
    intro A D x1 x2 x3 r A9 D9 hr f C h hD hA hf
    unfold d_X10_trim_4 at hr
    refine G.go tv_X10_trim 2 6 [(0, .ref (gAd E (25))), (1, .int (x1)), (2, .int (x2)), (3, .int (x3))] [.ref (gAd E (25)), .int (x3)] rfl ?_
    refine G.getf cls_X10 (25) 8 (by omega) (h.q25) (by decide) rfl (tbd tv_X10_trim rfl) w_418 ?_
    refine G.eq1 (b := cS D 2508) (hD.1 2508 (by decide)) ?_
    refine G.cmp_ge 110 (tbd tv_X10_trim rfl) (by decide) (fun c9 => ?_) (fun c9 => ?_)
    · replace hr := ite_t c9 hr
      refine G.go tv_X10_trim 2 112 [(0, .ref (gAd E (25))), (1, .int (x1)), (2, .int (x2)), (3, .int (x3))] [.int (x2), .ref (gAd E (25))] rfl ?_
      obtain ⟨D1, eD1, hr⟩ := ptS_s hr
      refine G.putfS cls_X10 (25) 8 [.ref (gAd E 2), .ref (gAd E 8), .ref (gAd E 13), .ref (gAd E 17), .ref (gAd E 26), .ref (gAd E 27), .ref (gAd E 28), .ref (gAd E 29), .int (x2), .ref (gAd E 30), .ref (gAd E 31), .int (cS C 2511)] (by omega) (h.q25) rfl (by decide) rfl rfl rfl (Nat.le_of_ble_eq_true rfl) (tbd tv_X10_trim rfl) w_418 ?_
      refine G.gen (P := SN E N B gr f0 A D1) ⟨sS C 2508 x2, h.s2508 _, (by rw [eD1]; exact hD.ss), hA.sm (Sd.s (by decide) : Sd C (sS C 2508 x2)), Fr.c hf (by first | exact Or.inl (by decide) | exact Or.inr (by omega))⟩ (fun u1 p1 => ?_)
      obtain ⟨C1, h1, hD1, hA1, k1⟩ := p1
      refine G.go tv_X10_trim 1 116 [(0, .ref (gAd E (25))), (1, .int (x1)), (2, .int (x2)), (3, .int (x3))] [.int (x2)] rfl ?_
      cases hr
      exact G.iret rfl rfl ⟨rfl, C1, h1, hD1, hA1, k1⟩ (tbd tv_X10_trim rfl)
    · replace hr := ite_f c9 hr
      refine G.go tv_X10_trim 1 13 [(0, .ref (gAd E (25))), (1, .int (x1)), (2, .int (x2)), (3, .int (x3))] [.ref (gAd E (25))] rfl ?_
      refine G.getf cls_X10 (25) 7 (by omega) (h.q25) (by decide) rfl (tbd tv_X10_trim rfl) w_417 ?_
      refine G.go tv_X10_trim 1 17 [(0, .ref (gAd E (25))), (1, .int (x1)), (2, .int (x2)), (3, .int (x3))] [.int (x3), .ref (gAd E (29))] rfl ?_
      obtain ⟨v2, b2, e2, hr⟩ := ld_s hr
      refine G.ialdE (29) (by omega) ((h.q29).trans (congrArg (oI (gDA E) (N)) (hD.2 29 (by decide)))) b2 e2 (tbd tv_X10_trim rfl) ?_
      refine G.go tv_X10_trim 3 23 [(0, .ref (gAd E (25))), (1, .int (x1)), (2, .int (x2)), (3, .int (x3)), (4, .int (v2))] [.int (v2), .ref (gAd E (25))] rfl ?_
      obtain ⟨v3, hv3, hr⟩ := bnd_s hr
      refine G.callV (25) [.int (v2)] [] (k_X10_isUsed E _ N B gr C D A hz h hD hA v2 v3 hv3) cls_X10 (by omega) (h.q25) cw_X10_153 w_1256 w_19 (Nat.le_of_ble_eq_true rfl) rfl (Nat.le_of_ble_eq_true rfl) (tbd tv_X10_trim rfl) (fun v3w f3 q3 => ?_) (fun _ _ h => h.elim)
      obtain ⟨rfl, ha3, fa3⟩ := q3
      refine G.eqs [.int (v3)] rfl ?_
      refine G.if_eq 66 (tbd tv_X10_trim rfl) (by decide) (fun c26 => ?_) (fun c26 => ?_)
      · replace hr := ite_t c26 hr
        refine G.less [(0, .ref (gAd E (25))), (1, .int (x1)), (2, .int (x2)), (3, .int (x3)), (4, .int (v2))] [0, 1, 2, 3, 4] rfl ?_
        exact l_X10_trim_66 E f0 sz QA N B gr C0 hz _ ih _ _ _ _ _ _ _ _ _ hr _ _ ha3 hD hA (hf.tr fa3 (fun _ h => h))
      · replace hr := ite_f c26 hr
        refine G.go tv_X10_trim 1 30 [(0, .ref (gAd E (25))), (1, .int (x1)), (2, .int (x2)), (3, .int (x3)), (4, .int (v2))] [.int (x1)] rfl ?_
        refine G.if_eq 62 (tbd tv_X10_trim rfl) (by decide) (fun c30 => ?_) (fun c30 => ?_)
        · replace hr := ite_t c30 hr
          refine G.less [(0, .ref (gAd E (25))), (1, .int (x1)), (2, .int (x2)), (3, .int (x3)), (4, .int (v2))] [0, 1, 2, 3, 4] rfl ?_
          exact l_X10_trim_62 E f0 sz QA N B gr C0 hz _ ih _ _ _ _ _ _ _ _ _ hr _ _ ha3 hD hA (hf.tr fa3 (fun _ h => h))
        · replace hr := ite_f c30 hr
          refine G.go tv_X10_trim 1 34 [(0, .ref (gAd E (25))), (1, .int (x1)), (2, .int (x2)), (3, .int (x3)), (4, .int (v2))] [.ref (gAd E (25))] rfl ?_
          refine G.getf cls_X10 (25) 6 (by omega) (ha3.q25) (by decide) rfl (tbd tv_X10_trim rfl) w_416 ?_
          refine G.go tv_X10_trim 1 39 [(0, .ref (gAd E (25))), (1, .int (x1)), (2, .int (x2)), (3, .int (x3)), (4, .int (v2))] [.int (v2), .ref (gAd E (28))] rfl ?_
          obtain ⟨v4, b4, e4, hr⟩ := ld_s hr
          refine G.zaldP (28) (by omega) (ha3.q28) (hA.r28) b4 e4 (tbd tv_X10_trim rfl) ?_
          refine G.if_ne 62 (tbd tv_X10_trim rfl) (by decide) (fun c40 => ?_) (fun c40 => ?_)
          · replace hr := ite_f c40 hr
            refine G.less [(0, .ref (gAd E (25))), (1, .int (x1)), (2, .int (x2)), (3, .int (x3)), (4, .int (v2))] [0, 1, 2, 3, 4] rfl ?_
            exact l_X10_trim_62 E f0 sz QA N B gr C0 hz _ ih _ _ _ _ _ _ _ _ _ hr _ _ ha3 hD hA (hf.tr fa3 (fun _ h => h))
          · replace hr := ite_t c40 hr
            refine G.go tv_X10_trim 1 44 [(0, .ref (gAd E (25))), (1, .int (x1)), (2, .int (x2)), (3, .int (x3)), (4, .int (v2))] [.ref (gAd E (25))] rfl ?_
            refine G.getf cls_X10 (25) 4 (by omega) (ha3.q25) (by decide) rfl (tbd tv_X10_trim rfl) w_414 ?_
            refine G.go tv_X10_trim 1 49 [(0, .ref (gAd E (25))), (1, .int (x1)), (2, .int (x2)), (3, .int (x3)), (4, .int (v2))] [.int (v2), .ref (gAd E (26))] rfl ?_
            obtain ⟨y5, hv5, hr⟩ := bnd_s hr
            refine G.mdld hz ha3 hA hv5 (tbd tv_X10_trim rfl) (fun w5 => ?_)
            refine G.go tv_X10_trim 2 53 [(0, .ref (gAd E (25))), (1, .int (x1)), (2, .int (x2)), (3, .int (x3)), (4, .int (v2))] [.int (v2), .ref (gAd E (25)), .ref (gAd E (350 + N + v2.toNatClampNeg))] rfl ?_
            obtain ⟨y7, b7, e7, hr⟩ := seeB_s hr
            refine G.callV (25) [.int (v2)] [.ref (gAd E (350 + N + v2.toNatClampNeg))] (k_bef E _ N B gr C A hz ha3 hA _ b7 _ e7) cls_X10 (by omega) (ha3.q25) cw_X10_98 w_919 w_16 (Nat.le_of_ble_eq_true rfl) rfl (Nat.le_of_ble_eq_true rfl) (tbd tv_X10_trim rfl) (fun v7w f7 q7 => ?_) (fun _ _ h => h.elim)
            obtain ⟨⟨k7, rfl, w7⟩, ha7, fa7⟩ := q7
            refine G.eqs [.ref (gAd E (k7)), .ref (gAd E (350 + N + v2.toNatClampNeg))] rfl ?_
            obtain ⟨v8, hv8, hr⟩ := bnd_s hr
            refine G.callS [.ref (gAd E (350 + N + v2.toNatClampNeg)), .ref (gAd E (k7))] [] (k_X2_same E _ N B gr C D A hz ha7 hD hA (350 + N + v2.toNatClampNeg) 128 y5 (w5) k7 128 y7 (w7) v8 hv8) cw_X10_156 w_826 (Nat.le_of_ble_eq_true rfl) rfl (Nat.le_of_ble_eq_true rfl) (tbd tv_X10_trim rfl) (fun v8w f8 q8 => ?_) (fun _ _ h => h.elim)
            obtain ⟨rfl, ha8, fa8⟩ := q8
            refine G.eqs [.int (v8)] rfl ?_
            refine G.if_ne 66 (tbd tv_X10_trim rfl) (by decide) (fun c59 => ?_) (fun c59 => ?_)
            · replace hr := ite_f c59 hr
              refine G.less [(0, .ref (gAd E (25))), (1, .int (x1)), (2, .int (x2)), (3, .int (x3)), (4, .int (v2))] [0, 1, 2, 3, 4] rfl ?_
              exact l_X10_trim_66 E f0 sz QA N B gr C0 hz _ ih _ _ _ _ _ _ _ _ _ hr _ _ ha8 hD hA (((hf.tr fa3 (fun _ h => h)).tr fa7 (fun _ h => h)).tr fa8 (fun _ h => h))
            · replace hr := ite_t c59 hr
              refine G.less [(0, .ref (gAd E (25))), (1, .int (x1)), (2, .int (x2)), (3, .int (x3)), (4, .int (v2))] [0, 1, 2, 3, 4] rfl ?_
              exact l_X10_trim_62 E f0 sz QA N B gr C0 hz _ ih _ _ _ _ _ _ _ _ _ hr _ _ ha8 hD hA (((hf.tr fa3 (fun _ h => h)).tr fa7 (fun _ h => h)).tr fa8 (fun _ h => h))
set_option maxRecDepth 100000 in
set_option maxHeartbeats 4000000 in
theorem k_X10_trim (E : gE) (f : Nat → va_E) (N B gr : Nat) (C D : CfT) (A : MS) (hz : CfZ E N B gr) (h : CfV E f N B gr C) (hD : Dq D C) (hA : AR N B gr A C) (a0 : Int32) (r : Int32) (A9 : MS) (D9 : CfT) (hr : d_X10_trim N A D a0 = some (r, A9, D9)) : Ct E 4 yX10_trim cX10_trim 6 (some .int) [.ref (gAd E (25)), .int (a0)] f (fun v g => v = some (.int r) ∧ SN E N B gr f A9 D9 g, fun _ _ => False) := by
  obtain ⟨z1, z2, z3, z4, z5, z6, z7⟩ := id hz
  refine Ct.of (by decide) (Nat.le_of_ble_eq_true rfl) (fun sz => ?_)
  refine G.eql [(0, .ref (gAd E (25))), (1, .int (a0))] rfl ?_
  unfold d_X10_trim at hr
  refine G.go tv_X10_trim 4 4 [(0, .ref (gAd E (25))), (1, .int (a0)), (2, .int ((0 : Int32))), (3, .int ((0 : Int32)))] [] rfl ?_
  refine G.less [(0, .ref (gAd E (25))), (1, .int (a0)), (2, .int ((0 : Int32))), (3, .int ((0 : Int32)))] [0, 1, 2, 3] rfl ?_
  exact l_X10_trim_4 E f sz _ N B gr C hz _ _ _ _ _ _ _ _ _ hr _ _ h hD hA Fr.rf
def tb_X10_disown : List (Nat × Instr × Nat) := [(0, .iconst 0, 1), (1, .istore_n 1, 1), (2, .iload_n 1, 1), (3, .aload_n 0, 1), (4, .getfield 108, 3), (7, .if_icmp .ge 33, 3), (10, .aload_n 0, 1), (11, .getfield 45, 3), (14, .aload_n 0, 1), (15, .getfield 52, 3), (18, .iload_n 1, 1), (19, .iaload, 1), (20, .iconst 0, 1), (21, .bastore, 1), (22, .aload_n 0, 1), (23, .getfield 49, 3), (26, .aload_n 0, 1), (27, .getfield 52, 3), (30, .iload_n 1, 1), (31, .iaload, 1), (32, .iconst 0, 1), (33, .bastore, 1), (34, .iinc 1 1, 3), (37, .goto (-35), 3), (40, .aload_n 0, 1), (41, .iconst 0, 1), (42, .putfield 108, 3), (45, .return_, 1)]
theorem tv_X10_disown : Tv cX10_disown tb_X10_disown := by
  unfold Tv
  decide +kernel
def d_X10_disown_2 (N : Nat) : Nat → MS → CfT → Int32 → Option (MS × CfT)
  | 0, _, _, _ => none
  | n + 1, A, D, x1 => if (cS D 2508) ≤ x1 then ptS D 2508 ((0 : Int32)) (fun D12 => some (A, D12)) else ld (cA D 29) N x1 (fun v13 => bnd (unO N A v13) (fun A14 => ld (cA D 29) N x1 (fun v15 => bnd (tkO N A14 v15 false) (fun A16 => d_X10_disown_2 N n A16 D (x1 + (1 : Int32))))))
def d_X10_disown (N : Nat) (A : MS) (D : CfT) : Option (MS × CfT) := d_X10_disown_2 N fuL A D ((0 : Int32))
set_option maxRecDepth 100000 in
set_option maxHeartbeats 4000000 in
theorem l_X10_disown_2 (E : gE) (f0 : Nat → va_E) (sz : Nat) (QA : Nat → Prop) (N B gr : Nat) (C0 : CfT) (hz : CfZ E N B gr) : ∀ (n : Nat), ∀ (A : MS) (D : CfT) (x1 : Int32) (A9 : MS) (D9 : CfT) (hr : d_X10_disown_2 N n A D x1 = some (A9, D9)) (f : Nat → va_E) (C : CfT) (h : CfV E f N B gr C) (hD : Dq D C) (hA : AR N B gr A C) (hf : Fr CfK f0 f), G E (1, yX10_disown, 2, none, sz, QA) cX10_disown (gO E (1, yX10_disown, 2, none, sz, QA) (fun v g => v = none ∧ SN E N B gr f0 A9 D9 g, fun _ _ => False)) 2 [(0, .ref (gAd E (25))), (1, .int (x1))] [] f := by
  obtain ⟨z1, z2, z3, z4, z5, z6, z7⟩ := id hz
  intro n
  induction n with
  | zero =>
    intro A D x1 A9 D9 hr f C h hD hA hf
    cases hr
  | succ n ih =>
    intro A D x1 A9 D9 hr f C h hD hA hf
    unfold d_X10_disown_2 at hr
    refine G.go tv_X10_disown 2 4 [(0, .ref (gAd E (25))), (1, .int (x1))] [.ref (gAd E (25)), .int (x1)] rfl ?_
    refine G.getf cls_X10 (25) 8 (by omega) (h.q25) (by decide) rfl (tbd tv_X10_disown rfl) w_418 ?_
    refine G.eq1 (b := cS D 2508) (hD.1 2508 (by decide)) ?_
    refine G.cmp_ge 40 (tbd tv_X10_disown rfl) (by decide) (fun c7 => ?_) (fun c7 => ?_)
    · replace hr := ite_t c7 hr
      refine G.go tv_X10_disown 2 42 [(0, .ref (gAd E (25))), (1, .int (x1))] [.int ((0 : Int32)), .ref (gAd E (25))] rfl ?_
      obtain ⟨D12, eD12, hr⟩ := ptS_s hr
      refine G.putfS cls_X10 (25) 8 [.ref (gAd E 2), .ref (gAd E 8), .ref (gAd E 13), .ref (gAd E 17), .ref (gAd E 26), .ref (gAd E 27), .ref (gAd E 28), .ref (gAd E 29), .int ((0 : Int32)), .ref (gAd E 30), .ref (gAd E 31), .int (cS C 2511)] (by omega) (h.q25) rfl (by decide) rfl rfl rfl (Nat.le_of_ble_eq_true rfl) (tbd tv_X10_disown rfl) w_418 ?_
      refine G.gen (P := SN E N B gr f0 A D12) ⟨sS C 2508 ((0 : Int32)), h.s2508 _, (by rw [eD12]; exact hD.ss), hA.sm (Sd.s (by decide) : Sd C (sS C 2508 ((0 : Int32)))), Fr.c hf (by first | exact Or.inl (by decide) | exact Or.inr (by omega))⟩ (fun u12 p12 => ?_)
      obtain ⟨C12, h12, hD12, hA12, k12⟩ := p12
      cases hr
      exact G.vret rfl ⟨rfl, C12, h12, hD12, hA12, k12⟩ (tbd tv_X10_disown rfl)
    · replace hr := ite_f c7 hr
      refine G.go tv_X10_disown 1 11 [(0, .ref (gAd E (25))), (1, .int (x1))] [.ref (gAd E (25))] rfl ?_
      refine G.getf cls_X10 (25) 5 (by omega) (h.q25) (by decide) rfl (tbd tv_X10_disown rfl) w_415 ?_
      refine G.go tv_X10_disown 1 15 [(0, .ref (gAd E (25))), (1, .int (x1))] [.ref (gAd E (25)), .ref (gAd E (27))] rfl ?_
      refine G.getf cls_X10 (25) 7 (by omega) (h.q25) (by decide) rfl (tbd tv_X10_disown rfl) w_417 ?_
      refine G.go tv_X10_disown 1 19 [(0, .ref (gAd E (25))), (1, .int (x1))] [.int (x1), .ref (gAd E (29)), .ref (gAd E (27))] rfl ?_
      obtain ⟨v13, b13, e13, hr⟩ := ld_s hr
      refine G.ialdE (29) (by omega) ((h.q29).trans (congrArg (oI (gDA E) (N)) (hD.2 29 (by decide)))) b13 e13 (tbd tv_X10_disown rfl) ?_
      refine G.go tv_X10_disown 1 21 [(0, .ref (gAd E (25))), (1, .int (x1))] [.int ((0 : Int32)), .int (v13), .ref (gAd E (27))] rfl ?_
      obtain ⟨A14, hv14, hr⟩ := bnd_s hr
      refine G.unst hz h hD hA hf hv14 (tbd tv_X10_disown rfl) (fun u14 p14 => ?_)
      obtain ⟨C14, h14, hD14, hA14, k14⟩ := p14
      refine G.go tv_X10_disown 1 23 [(0, .ref (gAd E (25))), (1, .int (x1))] [.ref (gAd E (25))] rfl ?_
      refine G.getf cls_X10 (25) 6 (by omega) (h14.q25) (by decide) rfl (tbd tv_X10_disown rfl) w_416 ?_
      refine G.go tv_X10_disown 1 27 [(0, .ref (gAd E (25))), (1, .int (x1))] [.ref (gAd E (25)), .ref (gAd E (28))] rfl ?_
      refine G.getf cls_X10 (25) 7 (by omega) (h14.q25) (by decide) rfl (tbd tv_X10_disown rfl) w_417 ?_
      refine G.go tv_X10_disown 1 31 [(0, .ref (gAd E (25))), (1, .int (x1))] [.int (x1), .ref (gAd E (29)), .ref (gAd E (28))] rfl ?_
      obtain ⟨v15, b15, e15, hr⟩ := ld_s hr
      refine G.ialdE (29) (by omega) ((h14.q29).trans (congrArg (oI (gDA E) (N)) (hD14.2 29 (by decide)))) b15 e15 (tbd tv_X10_disown rfl) ?_
      refine G.go tv_X10_disown 1 33 [(0, .ref (gAd E (25))), (1, .int (x1))] [.int ((0 : Int32)), .int (v15), .ref (gAd E (28))] rfl ?_
      obtain ⟨A16, hv16, hr⟩ := bnd_s hr
      refine G.tkst hz h14 hD14 hA14 k14 hv16 (tbd tv_X10_disown rfl) (fun u16 p16 => ?_)
      obtain ⟨C16, h16, hD16, hA16, k16⟩ := p16
      refine G.go tv_X10_disown 2 2 [(0, .ref (gAd E (25))), (1, .int (x1 + (1 : Int32)))] [] rfl ?_
      refine G.less [(0, .ref (gAd E (25))), (1, .int (x1 + (1 : Int32)))] [0, 1] rfl ?_
      exact ih _ _ _ _ _ hr _ _ h16 hD16 hA16 k16
set_option maxRecDepth 100000 in
set_option maxHeartbeats 4000000 in
theorem k_X10_disown (E : gE) (f : Nat → va_E) (N B gr : Nat) (C D : CfT) (A : MS) (hz : CfZ E N B gr) (h : CfV E f N B gr C) (hD : Dq D C) (hA : AR N B gr A C) (A9 : MS) (D9 : CfT) (hr : d_X10_disown N A D = some (A9, D9)) : Ct E 1 yX10_disown cX10_disown 2 none [.ref (gAd E (25))] f (fun v g => v = none ∧ SN E N B gr f A9 D9 g, fun _ _ => False) := by
  obtain ⟨z1, z2, z3, z4, z5, z6, z7⟩ := id hz
  refine Ct.of (by decide) (Nat.le_of_ble_eq_true rfl) (fun sz => ?_)
  refine G.eql [(0, .ref (gAd E (25)))] rfl ?_
  unfold d_X10_disown at hr
  refine G.go tv_X10_disown 2 2 [(0, .ref (gAd E (25))), (1, .int ((0 : Int32)))] [] rfl ?_
  refine G.less [(0, .ref (gAd E (25))), (1, .int ((0 : Int32)))] [0, 1] rfl ?_
  exact l_X10_disown_2 E f sz _ N B gr C hz _ _ _ _ _ _ hr _ _ h hD hA Fr.rf
