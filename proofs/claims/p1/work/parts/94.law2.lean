section GLX
theorem G.drop {E : gE} {K : gM} {cc : ByteArray} {Q : gU} {f : Nat → va_E} {pc : Nat} {lv lv' : List (Nat × Value)} {st : List Value} (ks : List Nat) (h : lv_pick lv ks = lv') (kk : G E K cc Q pc lv' st f) : G E K cc Q pc lv st f :=
  fun p e s m args below meth c C H locs ls hP hD hS hl => kk p e s m args below meth c C H locs ls hP hD hS (lv_sub hl ks h)
theorem G.wide {E : gE} {K : gM} {cc : ByteArray} {R : Room} {cu su : Nat} (cu' su' : Nat) {Z : List Frame → Array Value → State → State → Prop} {f : Nat → va_E} {pc : Nat} {lv : List (Nat × Value)} {st : List Value} (hc : cu ≤ cu') (hs : su ≤ su') (kk : G E K cc (R, cu', su', Z) pc lv st f) : G E K cc (R, cu, su, Z) pc lv st f :=
  fun p e s m args below meth c C H locs ls hP hD hS hl => W.widen hc hs (kk p e s m args below meth c C H locs ls hP hD hS hl)
theorem RfV.uniq {E : gE} {f g : Nat → va_E} {R : RfT} (h1 : RfV E f R) (h2 : RfV E g R) (hf : Fr RfK f g) : g = f := by
  funext k
  by_cases hk : RfK k
  · obtain ⟨a, b⟩ := hk
    rcases (show k = 56 ∨ k = 57 ∨ k = 58 ∨ k = 59 ∨ k = 60 ∨ k = 61 ∨ k = 62 ∨ k = 63 ∨ k = 64 ∨ k = 65 ∨ k = 66 ∨ k = 67 ∨ k = 68 ∨ k = 69 ∨ k = 70 ∨ k = 71 ∨ k = 72 ∨ k = 73 ∨ k = 74 ∨ k = 75 ∨ k = 76 ∨ k = 77 ∨ k = 78 ∨ k = 79 ∨ k = 80 ∨ k = 81 ∨ k = 82 ∨ k = 83 ∨ k = 84 ∨ k = 85 ∨ k = 86 ∨ k = 87 ∨ k = 88 ∨ k = 89 ∨ k = 90 ∨ k = 91 ∨ k = 92 by omega) with rfl | rfl | rfl | rfl | rfl | rfl | rfl | rfl | rfl | rfl | rfl | rfl | rfl | rfl | rfl | rfl | rfl | rfl | rfl | rfl | rfl | rfl | rfl | rfl | rfl | rfl | rfl | rfl | rfl | rfl | rfl | rfl | rfl | rfl | rfl | rfl | rfl
    · exact (h2.o).trans (h1.o).symm
    · exact (h2.a4).trans (h1.a4).symm
    · exact (h2.a6).trans (h1.a6).symm
    · exact (h2.a7).trans (h1.a7).symm
    · exact (h2.a8).trans (h1.a8).symm
    · exact (h2.a15).trans (h1.a15).symm
    · exact (h2.a16).trans (h1.a16).symm
    · exact (h2.a17).trans (h1.a17).symm
    · exact (h2.a23).trans (h1.a23).symm
    · exact (h2.a24).trans (h1.a24).symm
    · exact (h2.a26).trans (h1.a26).symm
    · exact (h2.a27).trans (h1.a27).symm
    · exact (h2.a28).trans (h1.a28).symm
    · exact (h2.a30).trans (h1.a30).symm
    · exact (h2.a31).trans (h1.a31).symm
    · exact (h2.a32).trans (h1.a32).symm
    · exact (h2.a35).trans (h1.a35).symm
    · exact (h2.a36).trans (h1.a36).symm
    · exact (h2.a37).trans (h1.a37).symm
    · exact (h2.a38).trans (h1.a38).symm
    · exact (h2.a39).trans (h1.a39).symm
    · exact (h2.a40).trans (h1.a40).symm
    · exact (h2.a43).trans (h1.a43).symm
    · exact (h2.a44).trans (h1.a44).symm
    · exact (h2.a45).trans (h1.a45).symm
    · exact (h2.a46).trans (h1.a46).symm
    · exact (h2.a48).trans (h1.a48).symm
    · exact (h2.a49).trans (h1.a49).symm
    · exact (h2.a50).trans (h1.a50).symm
    · exact (h2.a51).trans (h1.a51).symm
    · exact (h2.a52).trans (h1.a52).symm
    · exact (h2.a53).trans (h1.a53).symm
    · exact (h2.a54).trans (h1.a54).symm
    · exact (h2.a55).trans (h1.a55).symm
    · exact (h2.a57).trans (h1.a57).symm
    · exact (h2.a58).trans (h1.a58).symm
    · exact (h2.a59).trans (h1.a59).symm
  · exact hf k hk
/-- the reference's turn: it tells the exception k; where that is 0, out[0] is its answer -/
def PmI (E : gE) (y : MethodName) (cc : ByteArray) (nL : Nat) (as : List Value) (g : Nat → va_E) (k : Int32) (Inv : (Nat → va_E) → Prop) : Prop := ∃ (h : Nat) (Q : gQ), Ct E h y cc nL (some .int) (.ref (gAd E 56) :: as) g Q ∧ h ≤ 110 ∧ (∃ fs, g 56 = .inr (12, fs)) ∧ (∀ X u, Q.2 X u → False) ∧ ∀ v u, Q.1 v u → ∃ (r : Int32) (R : RfT), v = some (.int r) ∧ RfV E u R ∧ rS R 0 = k ∧ (k = 0 → ∃ o, u 93 = oJ (gDA E) 1 o ∧ o 0 = r.toInt64) ∧ Inv u
/-- the reference's turn: it tells the exception k; where that is 0, out[0] is its answer -/
def PmB (E : gE) (y : MethodName) (cc : ByteArray) (nL : Nat) (as : List Value) (g : Nat → va_E) (k : Int32) (Inv : (Nat → va_E) → Prop) : Prop := ∃ (h : Nat) (Q : gQ), Ct E h y cc nL (some .boolean) (.ref (gAd E 56) :: as) g Q ∧ h ≤ 110 ∧ (∃ fs, g 56 = .inr (12, fs)) ∧ (∀ X u, Q.2 X u → False) ∧ ∀ v u, Q.1 v u → ∃ (r : Int32) (R : RfT), v = some (.int r) ∧ RfV E u R ∧ rS R 0 = k ∧ (k = 0 → ∃ o, u 93 = oJ (gDA E) 1 o ∧ o 0 = (if r = 0 then 0 else 1)) ∧ Inv u
/-- the reference's turn: it tells the exception k; where that is 0, out[0] is its answer -/
def PmJ (E : gE) (y : MethodName) (cc : ByteArray) (nL : Nat) (as : List Value) (g : Nat → va_E) (k : Int32) (Inv : (Nat → va_E) → Prop) : Prop := ∃ (h : Nat) (Q : gQ), Ct E h y cc nL (some .long) (.ref (gAd E 56) :: as) g Q ∧ h ≤ 110 ∧ (∃ fs, g 56 = .inr (12, fs)) ∧ (∀ X u, Q.2 X u → False) ∧ ∀ v u, Q.1 v u → ∃ (r : Int64) (R : RfT), v = some (.long r) ∧ RfV E u R ∧ rS R 0 = k ∧ (k = 0 → ∃ o, u 93 = oJ (gDA E) 1 o ∧ o 0 = r) ∧ Inv u
def PmV (E : gE) (y : MethodName) (cc : ByteArray) (nL : Nat) (as : List Value) (g : Nat → va_E) (k : Int32) (Inv : (Nat → va_E) → Prop) : Prop := ∃ (h : Nat) (Q : gQ), Ct E h y cc nL none (.ref (gAd E 56) :: as) g Q ∧ h ≤ 110 ∧ (∃ fs, g 56 = .inr (12, fs)) ∧ (∀ X u, Q.2 X u → False) ∧ ∀ v u, Q.1 v u → ∃ (R : RfT), v = none ∧ RfV E u R ∧ rS R 0 = k ∧ Inv u
theorem oJ_inj {dA : Nat → ClassId} {n : Nat} {g h : Nat → Int64} (e : oJ dA n g = oJ dA n h) : g = h := by
  injection e with e
  injection e with _ e
  injection e with _ e
  injection e with e
  injection e
/-- which exception has which number -/
def xk (xs : List String) (X : String) (P : Int32 → Prop) : Prop := ∃ k, xs[k]? = some X ∧ P (nI (k + 1))
theorem xk1 {X1 X : String} {P : Int32 → Prop} (h : xk [X1] X P) : X = X1 ∧ P 1 := by
  obtain ⟨k, h1, h2⟩ := h
  match k, h1, h2 with
  | 0, h1, h2 => exact ⟨(Option.some.inj h1).symm, h2⟩
  | k + 1, h1, _ => exact nomatch h1
theorem xk2 {X1 X2 X : String} {P : Int32 → Prop} (h : xk [X1, X2] X P) : (X = X1 ∧ P 1) ∨ (X = X2 ∧ P 2) := by
  obtain ⟨k, h1, h2⟩ := h
  match k, h1, h2 with
  | 0, h1, h2 => exact Or.inl ⟨(Option.some.inj h1).symm, h2⟩
  | 1, h1, h2 => exact Or.inr ⟨(Option.some.inj h1).symm, h2⟩
  | k + 2, h1, _ => exact nomatch h1
theorem xk3 {X1 X2 X3 X : String} {P : Int32 → Prop} (h : xk [X1, X2, X3] X P) : (X = X1 ∧ P 1) ∨ (X = X2 ∧ P 2) ∨ (X = X3 ∧ P 3) := by
  obtain ⟨k, h1, h2⟩ := h
  match k, h1, h2 with
  | 0, h1, h2 => exact Or.inl ⟨(Option.some.inj h1).symm, h2⟩
  | 1, h1, h2 => exact Or.inr (Or.inl ⟨(Option.some.inj h1).symm, h2⟩)
  | 2, h1, h2 => exact Or.inr (Or.inr ⟨(Option.some.inj h1).symm, h2⟩)
  | k + 3, h1, _ => exact nomatch h1
def CsI (E : gE) (f : Nat → va_E) (y : MethodName) (cc : ByteArray) (nL : Nat) (ym : MethodName) (ccm : ByteArray) (nLm : Nat) (as : List Value) (xs : List String) (Inv : (Nat → va_E) → Prop) : Prop := ∃ (h : Nat) (Q : gQ), Ct E h y cc nL (some .int) (.ref (gAd E 0) :: as) f Q ∧ h ≤ 110 ∧ (∃ fs, f 0 = .inr (11, fs)) ∧ (∀ v g, Q.1 v g → ∃ (x : Int32) (o : Nat → Int64), v = some (.int x) ∧ g 93 = oJ (gDA E) 1 o ∧ PmI E ym ccm nLm as (va_up g 93 (oJ (gDA E) 1 (vp_updL o 0 x.toInt64))) 0 Inv) ∧ ∀ X g, Q.2 X g → xk xs X (fun k => PmI E ym ccm nLm as g k Inv)
def CsB (E : gE) (f : Nat → va_E) (y : MethodName) (cc : ByteArray) (nL : Nat) (ym : MethodName) (ccm : ByteArray) (nLm : Nat) (as : List Value) (xs : List String) (Inv : (Nat → va_E) → Prop) : Prop := ∃ (h : Nat) (Q : gQ), Ct E h y cc nL (some .boolean) (.ref (gAd E 0) :: as) f Q ∧ h ≤ 110 ∧ (∃ fs, f 0 = .inr (11, fs)) ∧ (∀ v g, Q.1 v g → ∃ (x : Int32) (o : Nat → Int64), v = some (.int x) ∧ g 93 = oJ (gDA E) 1 o ∧ PmB E ym ccm nLm as (va_up g 93 (oJ (gDA E) 1 (vp_updL o 0 (if x = 0 then 0 else 1)))) 0 Inv) ∧ ∀ X g, Q.2 X g → xk xs X (fun k => PmB E ym ccm nLm as g k Inv)
def CsJ (E : gE) (f : Nat → va_E) (y : MethodName) (cc : ByteArray) (nL : Nat) (ym : MethodName) (ccm : ByteArray) (nLm : Nat) (as : List Value) (xs : List String) (Inv : (Nat → va_E) → Prop) : Prop := ∃ (h : Nat) (Q : gQ), Ct E h y cc nL (some .long) (.ref (gAd E 0) :: as) f Q ∧ h ≤ 110 ∧ (∃ fs, f 0 = .inr (11, fs)) ∧ (∀ v g, Q.1 v g → ∃ (x : Int64) (o : Nat → Int64), v = some (.long x) ∧ g 93 = oJ (gDA E) 1 o ∧ PmJ E ym ccm nLm as (va_up g 93 (oJ (gDA E) 1 (vp_updL o 0 x))) 0 Inv) ∧ ∀ X g, Q.2 X g → xk xs X (fun k => PmJ E ym ccm nLm as g k Inv)
def CsV (E : gE) (f : Nat → va_E) (y : MethodName) (cc : ByteArray) (nL : Nat) (ym : MethodName) (ccm : ByteArray) (nLm : Nat) (as : List Value) (xs : List String) (Inv : (Nat → va_E) → Prop) : Prop := ∃ (h : Nat) (Q : gQ), Ct E h y cc nL none (.ref (gAd E 0) :: as) f Q ∧ h ≤ 110 ∧ (∃ fs, f 0 = .inr (11, fs)) ∧ (∀ v g, Q.1 v g → v = none ∧ PmV E ym ccm nLm as g 0 Inv) ∧ ∀ X g, Q.2 X g → xk xs X (fun k => PmV E ym ccm nLm as g k Inv)
/-- two that don't throw: one answer -/
def CsF (E : gE) (f : Nat → va_E) (y : MethodName) (cc : ByteArray) (nL : Nat) (ym : MethodName) (ccm : ByteArray) (nLm : Nat) (as : List Value) (Inv : (Nat → va_E) → Prop) : Prop := ∃ (h : Nat) (Q : gQ), Ct E h y cc nL (some .int) (.ref (gAd E 0) :: as) f Q ∧ h ≤ 110 ∧ (∃ fs, f 0 = .inr (11, fs)) ∧ (∀ X g, Q.2 X g → False) ∧ ∀ v g, Q.1 v g → ∃ (x : Int32), v = some (.int x) ∧ ∃ (h2 : Nat) (Q2 : gQ), Ct E h2 ym ccm nLm (some .int) (.ref (gAd E 56) :: as) g Q2 ∧ h2 ≤ 110 ∧ (∃ fs, g 56 = .inr (12, fs)) ∧ (∀ X u, Q2.2 X u → False) ∧ ∀ v u, Q2.1 v u → v = some (.int x) ∧ Inv u
/-- a truth out of the script -/
abbrev sB (v : Int32) : Int32 := if v = 0 then 0 else 1
def tb_law_feed : List (Nat × Instr × Nat) := [(264, .aload_n 1, 1), (265, .aload_n 0, 1), (266, .iload 4, 2), (268, .iconst 1, 1), (269, .iadd, 1), (270, .iaload, 1), (271, .aload_n 0, 1), (272, .iload 4, 2), (274, .iconst 2, 1), (275, .iadd, 1), (276, .iaload, 1), (277, .aload_n 0, 1), (278, .iload 4, 2), (280, .iconst 3, 1), (281, .iadd, 1), (282, .iaload, 1), (283, .aload_n 0, 1), (284, .iload 4, 2), (286, .iconst 4, 1), (287, .iadd, 1), (288, .iaload, 1), (289, .aload_n 0, 1), (290, .iload 4, 2), (292, .iconst 5, 1), (293, .iadd, 1), (294, .iaload, 1), (295, .invokevirtual 168, 3), (298, .aload_n 2, 1), (299, .aload_n 0, 1), (300, .iload 4, 2), (302, .iconst 1, 1), (303, .iadd, 1), (304, .iaload, 1), (305, .aload_n 0, 1), (306, .iload 4, 2), (308, .iconst 2, 1), (309, .iadd, 1), (310, .iaload, 1), (311, .aload_n 0, 1), (312, .iload 4, 2), (314, .iconst 3, 1), (315, .iadd, 1), (316, .iaload, 1), (317, .aload_n 0, 1), (318, .iload 4, 2), (320, .iconst 4, 1), (321, .iadd, 1), (322, .iaload, 1), (323, .aload_n 0, 1), (324, .iload 4, 2), (326, .iconst 5, 1), (327, .iadd, 1), (328, .iaload, 1), (329, .invokevirtual 172, 3), (332, .if_icmp .eq 2472, 3), (335, .iconst 0, 1), (336, .ireturn, 1)]
theorem tv_law_feed : Tv code tb_law_feed := by
  unfold Tv
  decide +kernel
theorem w_618 : Cond.methodLink "LedgerFilesLaw" 168 yX11_feed ∈ TB := tp_2 232 (by decide +kernel) rfl
theorem w_621 : Cond.code yX11_feed prog_1_method_2_code 6 (some .int) ∈ TB := tp_2 235 rfl rfl
theorem cw_L_168 : Cw RL 168 yX11_feed cX11_feed 6 (some .int) 5 := ⟨w_618, w_621, w_147, by decide +kernel, by decide +kernel, by decide⟩
theorem w_619 : Cond.instanceMethod yX11_feed ∈ TB := tp_2 233 (by decide +kernel) rfl
theorem w_620 : Cond.selects "LedgerFiles" yX11_feed yX11_feed ∈ TB := tp_2 234 (by decide +kernel) rfl
theorem w_2254 : Cond.methodLink "LedgerFilesLaw" 172 yX12_feed ∈ TB := tp_9 188 (by decide +kernel) rfl
theorem w_2257 : Cond.code yX12_feed prog_14_method_6_code 8 (some .int) ∈ TB := tp_9 191 rfl rfl
theorem cw_L_172 : Cw RL 172 yX12_feed cX12_feed 8 (some .int) 5 := ⟨w_2254, w_2257, w_161, by decide +kernel, by decide +kernel, by decide⟩
theorem w_2255 : Cond.instanceMethod yX12_feed ∈ TB := tp_9 189 (by decide +kernel) rfl
theorem w_2256 : Cond.selects "LedgerFilesModel" yX12_feed yX12_feed ∈ TB := tp_9 190 (by decide +kernel) rfl
set_option maxRecDepth 100000 in
set_option maxHeartbeats 4000000 in
theorem k_feed (E : gE) (f : Nat → va_E) (hE : 94 ≤ gN E) (b L : Nat) (xs : Nat → Int32) (cu su h sz i : Nat) (hi : i + 5 < L) (hL2 : L < 2 ^ 31) (hcu : cu + 2 ≤ room_1.cells) (hsu : su + 12 ≤ room_1.slots) (Inv : (Nat → va_E) → Prop) (H : CsF E f yX11_feed cX11_feed 6 yX12_feed cX12_feed 8 [.int (xs (i + 1)), .int (xs (i + 2)), .int (xs (i + 3)), .int (xs (i + 4)), .int (xs (i + 5))] Inv) (kk : ∀ g, Inv g → G E (lwK h sz) code (gL b L xs (cu + 1) (su + 6)) 2804 [(0, .ref (b)), (1, .ref (gAd E (0))), (2, .ref (gAd E (56))), (3, .ref (gAd E (93))), (4, .int (nI i))] [] g) : G E (lwK h sz) code (gL b L xs cu su) 264 [(0, .ref (b)), (1, .ref (gAd E (0))), (2, .ref (gAd E (56))), (3, .ref (gAd E (93))), (4, .int (nI i))] [] f := by
  obtain ⟨hc, Q, hM, hh, ⟨fs, h0⟩, hno, hq⟩ := H
  refine G.go tv_law_feed 5 270 [(0, .ref (b)), (1, .ref (gAd E (0))), (2, .ref (gAd E (56))), (3, .ref (gAd E (93))), (4, .int (nI i))] [.int ((nI i) + ((1 : Int32))), .ref (b), .ref (gAd E (0))] rfl ?_
  refine G.eqs [.int (nI (i + 1)), .ref (b), .ref (gAd E (0))] (by rw [show (1 : Int32) = nI 1 from rfl, nI_add]) ?_
  refine G.sld lwY_S lwK_A (i + 1) (by omega) hL2 (tbd tv_law_feed rfl) ?_
  refine G.go tv_law_feed 4 276 [(0, .ref (b)), (1, .ref (gAd E (0))), (2, .ref (gAd E (56))), (3, .ref (gAd E (93))), (4, .int (nI i))] [.int ((nI i) + ((2 : Int32))), .ref (b), .int (xs (i + 1)), .ref (gAd E (0))] rfl ?_
  refine G.eqs [.int (nI (i + 2)), .ref (b), .int (xs (i + 1)), .ref (gAd E (0))] (by rw [show (2 : Int32) = nI 2 from rfl, nI_add]) ?_
  refine G.sld lwY_S lwK_A (i + 2) (by omega) hL2 (tbd tv_law_feed rfl) ?_
  refine G.go tv_law_feed 4 282 [(0, .ref (b)), (1, .ref (gAd E (0))), (2, .ref (gAd E (56))), (3, .ref (gAd E (93))), (4, .int (nI i))] [.int ((nI i) + ((3 : Int32))), .ref (b), .int (xs (i + 2)), .int (xs (i + 1)), .ref (gAd E (0))] rfl ?_
  refine G.eqs [.int (nI (i + 3)), .ref (b), .int (xs (i + 2)), .int (xs (i + 1)), .ref (gAd E (0))] (by rw [show (3 : Int32) = nI 3 from rfl, nI_add]) ?_
  refine G.sld lwY_S lwK_A (i + 3) (by omega) hL2 (tbd tv_law_feed rfl) ?_
  refine G.go tv_law_feed 4 288 [(0, .ref (b)), (1, .ref (gAd E (0))), (2, .ref (gAd E (56))), (3, .ref (gAd E (93))), (4, .int (nI i))] [.int ((nI i) + ((4 : Int32))), .ref (b), .int (xs (i + 3)), .int (xs (i + 2)), .int (xs (i + 1)), .ref (gAd E (0))] rfl ?_
  refine G.eqs [.int (nI (i + 4)), .ref (b), .int (xs (i + 3)), .int (xs (i + 2)), .int (xs (i + 1)), .ref (gAd E (0))] (by rw [show (4 : Int32) = nI 4 from rfl, nI_add]) ?_
  refine G.sld lwY_S lwK_A (i + 4) (by omega) hL2 (tbd tv_law_feed rfl) ?_
  refine G.go tv_law_feed 4 294 [(0, .ref (b)), (1, .ref (gAd E (0))), (2, .ref (gAd E (56))), (3, .ref (gAd E (93))), (4, .int (nI i))] [.int ((nI i) + ((5 : Int32))), .ref (b), .int (xs (i + 4)), .int (xs (i + 3)), .int (xs (i + 2)), .int (xs (i + 1)), .ref (gAd E (0))] rfl ?_
  refine G.eqs [.int (nI (i + 5)), .ref (b), .int (xs (i + 4)), .int (xs (i + 3)), .int (xs (i + 2)), .int (xs (i + 1)), .ref (gAd E (0))] (by rw [show (5 : Int32) = nI 5 from rfl, nI_add]) ?_
  refine G.sld lwY_S lwK_A (i + 5) (by omega) hL2 (tbd tv_law_feed rfl) ?_
  refine G.callVr 0 [.int (xs (i + 1)), .int (xs (i + 2)), .int (xs (i + 3)), .int (xs (i + 4)), .int (xs (i + 5))] [] hM cls_X11 (by omega) h0 cw_L_168 w_619 w_620 (Nat.le_trans (Nat.succ_le_succ hh) (Nat.le_of_ble_eq_true rfl)) (Nat.le_trans (Nat.mul_le_mul_left 64 (Nat.succ_le_succ hh)) (Nat.le_of_ble_eq_true rfl)) (by show cu + 1 ≤ room_1.cells; omega) (by show su + 6 ≤ room_1.slots; omega) rfl (Nat.le_of_ble_eq_true rfl) (tbd tv_law_feed rfl) (fun v g q => ?_) (fun X g q => hno X g q)
  obtain ⟨x, rfl, h2, Q2, hM2, hh2, ⟨fs2, h56⟩, hno2, hq2⟩ := hq v g q
  refine G.eqs [.int (x)] rfl ?_
  refine G.go tv_law_feed 5 304 [(0, .ref (b)), (1, .ref (gAd E (0))), (2, .ref (gAd E (56))), (3, .ref (gAd E (93))), (4, .int (nI i))] [.int ((nI i) + ((1 : Int32))), .ref (b), .ref (gAd E (56)), .int (x)] rfl ?_
  refine G.eqs [.int (nI (i + 1)), .ref (b), .ref (gAd E (56)), .int (x)] (by rw [show (1 : Int32) = nI 1 from rfl, nI_add]) ?_
  refine G.sld lwY_S lwK_A (i + 1) (by omega) hL2 (tbd tv_law_feed rfl) ?_
  refine G.go tv_law_feed 4 310 [(0, .ref (b)), (1, .ref (gAd E (0))), (2, .ref (gAd E (56))), (3, .ref (gAd E (93))), (4, .int (nI i))] [.int ((nI i) + ((2 : Int32))), .ref (b), .int (xs (i + 1)), .ref (gAd E (56)), .int (x)] rfl ?_
  refine G.eqs [.int (nI (i + 2)), .ref (b), .int (xs (i + 1)), .ref (gAd E (56)), .int (x)] (by rw [show (2 : Int32) = nI 2 from rfl, nI_add]) ?_
  refine G.sld lwY_S lwK_A (i + 2) (by omega) hL2 (tbd tv_law_feed rfl) ?_
  refine G.go tv_law_feed 4 316 [(0, .ref (b)), (1, .ref (gAd E (0))), (2, .ref (gAd E (56))), (3, .ref (gAd E (93))), (4, .int (nI i))] [.int ((nI i) + ((3 : Int32))), .ref (b), .int (xs (i + 2)), .int (xs (i + 1)), .ref (gAd E (56)), .int (x)] rfl ?_
  refine G.eqs [.int (nI (i + 3)), .ref (b), .int (xs (i + 2)), .int (xs (i + 1)), .ref (gAd E (56)), .int (x)] (by rw [show (3 : Int32) = nI 3 from rfl, nI_add]) ?_
  refine G.sld lwY_S lwK_A (i + 3) (by omega) hL2 (tbd tv_law_feed rfl) ?_
  refine G.go tv_law_feed 4 322 [(0, .ref (b)), (1, .ref (gAd E (0))), (2, .ref (gAd E (56))), (3, .ref (gAd E (93))), (4, .int (nI i))] [.int ((nI i) + ((4 : Int32))), .ref (b), .int (xs (i + 3)), .int (xs (i + 2)), .int (xs (i + 1)), .ref (gAd E (56)), .int (x)] rfl ?_
  refine G.eqs [.int (nI (i + 4)), .ref (b), .int (xs (i + 3)), .int (xs (i + 2)), .int (xs (i + 1)), .ref (gAd E (56)), .int (x)] (by rw [show (4 : Int32) = nI 4 from rfl, nI_add]) ?_
  refine G.sld lwY_S lwK_A (i + 4) (by omega) hL2 (tbd tv_law_feed rfl) ?_
  refine G.go tv_law_feed 4 328 [(0, .ref (b)), (1, .ref (gAd E (0))), (2, .ref (gAd E (56))), (3, .ref (gAd E (93))), (4, .int (nI i))] [.int ((nI i) + ((5 : Int32))), .ref (b), .int (xs (i + 4)), .int (xs (i + 3)), .int (xs (i + 2)), .int (xs (i + 1)), .ref (gAd E (56)), .int (x)] rfl ?_
  refine G.eqs [.int (nI (i + 5)), .ref (b), .int (xs (i + 4)), .int (xs (i + 3)), .int (xs (i + 2)), .int (xs (i + 1)), .ref (gAd E (56)), .int (x)] (by rw [show (5 : Int32) = nI 5 from rfl, nI_add]) ?_
  refine G.sld lwY_S lwK_A (i + 5) (by omega) hL2 (tbd tv_law_feed rfl) ?_
  refine G.callVr 56 [.int (xs (i + 1)), .int (xs (i + 2)), .int (xs (i + 3)), .int (xs (i + 4)), .int (xs (i + 5))] [.int (x)] hM2 cls_X12 (by omega) h56 cw_L_172 w_2255 w_2256 (Nat.le_trans (Nat.succ_le_succ hh2) (Nat.le_of_ble_eq_true rfl)) (Nat.le_trans (Nat.mul_le_mul_left 64 (Nat.succ_le_succ hh2)) (Nat.le_of_ble_eq_true rfl)) (by show cu + 1 ≤ room_1.cells; omega) (by show su + 6 ≤ room_1.slots; omega) rfl (Nat.le_of_ble_eq_true rfl) (tbd tv_law_feed rfl) (fun v u q => ?_) (fun X u q => hno2 X u q)
  obtain ⟨rfl, hI⟩ := hq2 v u q
  refine G.eqs [.int (x), .int (x)] rfl ?_
  refine G.cmp_eq 2804 (tbd tv_law_feed rfl) (by decide) (fun c332 => ?_) (fun c332 => absurd (rfl) c332)
  refine G.wide (cu + 1) (su + 6) (by show cu ≤ cu + 1; omega) (by show su ≤ su + 6; omega) ?_
  exact kk _ hI
def tb_law_back : List (Nat × Instr × Nat) := [(337, .aload_n 1, 1), (338, .aload_n 0, 1), (339, .iload 4, 2), (341, .iconst 1, 1), (342, .iadd, 1), (343, .iaload, 1), (344, .invokevirtual 173, 3), (347, .aload_n 2, 1), (348, .aload_n 0, 1), (349, .iload 4, 2), (351, .iconst 1, 1), (352, .iadd, 1), (353, .iaload, 1), (354, .invokevirtual 176, 3), (357, .if_icmp .eq 2447, 3), (360, .iconst 0, 1), (361, .ireturn, 1)]
theorem tv_law_back : Tv code tb_law_back := by
  unfold Tv
  decide +kernel
theorem w_626 : Cond.methodLink "LedgerFilesLaw" 173 yX11_back ∈ TB := tp_3 0 (by decide +kernel) rfl
theorem w_629 : Cond.code yX11_back prog_1_method_4_code 2 (some .int) ∈ TB := tp_3 3 rfl rfl
theorem cw_L_173 : Cw RL 173 yX11_back cX11_back 2 (some .int) 1 := ⟨w_626, w_629, w_147, by decide +kernel, by decide +kernel, by decide⟩
theorem w_627 : Cond.instanceMethod yX11_back ∈ TB := tp_3 1 (by decide +kernel) rfl
theorem w_628 : Cond.selects "LedgerFiles" yX11_back yX11_back ∈ TB := tp_3 2 (by decide +kernel) rfl
theorem w_2258 : Cond.methodLink "LedgerFilesLaw" 176 yX12_back ∈ TB := tp_9 192 (by decide +kernel) rfl
theorem w_2261 : Cond.code yX12_back prog_14_method_7_code 2 (some .int) ∈ TB := tp_9 195 rfl rfl
theorem cw_L_176 : Cw RL 176 yX12_back cX12_back 2 (some .int) 1 := ⟨w_2258, w_2261, w_161, by decide +kernel, by decide +kernel, by decide⟩
theorem w_2259 : Cond.instanceMethod yX12_back ∈ TB := tp_9 193 (by decide +kernel) rfl
theorem w_2260 : Cond.selects "LedgerFilesModel" yX12_back yX12_back ∈ TB := tp_9 194 (by decide +kernel) rfl
set_option maxRecDepth 100000 in
set_option maxHeartbeats 4000000 in
theorem k_back (E : gE) (f : Nat → va_E) (hE : 94 ≤ gN E) (b L : Nat) (xs : Nat → Int32) (cu su h sz i : Nat) (hi : i + 5 < L) (hL2 : L < 2 ^ 31) (hcu : cu + 2 ≤ room_1.cells) (hsu : su + 12 ≤ room_1.slots) (Inv : (Nat → va_E) → Prop) (H : CsF E f yX11_back cX11_back 2 yX12_back cX12_back 2 [.int (xs (i + 1))] Inv) (kk : ∀ g, Inv g → G E (lwK h sz) code (gL b L xs (cu + 1) (su + 6)) 2804 [(0, .ref (b)), (1, .ref (gAd E (0))), (2, .ref (gAd E (56))), (3, .ref (gAd E (93))), (4, .int (nI i))] [] g) : G E (lwK h sz) code (gL b L xs cu su) 337 [(0, .ref (b)), (1, .ref (gAd E (0))), (2, .ref (gAd E (56))), (3, .ref (gAd E (93))), (4, .int (nI i))] [] f := by
  obtain ⟨hc, Q, hM, hh, ⟨fs, h0⟩, hno, hq⟩ := H
  refine G.go tv_law_back 5 343 [(0, .ref (b)), (1, .ref (gAd E (0))), (2, .ref (gAd E (56))), (3, .ref (gAd E (93))), (4, .int (nI i))] [.int ((nI i) + ((1 : Int32))), .ref (b), .ref (gAd E (0))] rfl ?_
  refine G.eqs [.int (nI (i + 1)), .ref (b), .ref (gAd E (0))] (by rw [show (1 : Int32) = nI 1 from rfl, nI_add]) ?_
  refine G.sld lwY_S lwK_A (i + 1) (by omega) hL2 (tbd tv_law_back rfl) ?_
  refine G.callVr 0 [.int (xs (i + 1))] [] hM cls_X11 (by omega) h0 cw_L_173 w_627 w_628 (Nat.le_trans (Nat.succ_le_succ hh) (Nat.le_of_ble_eq_true rfl)) (Nat.le_trans (Nat.mul_le_mul_left 64 (Nat.succ_le_succ hh)) (Nat.le_of_ble_eq_true rfl)) (by show cu + 1 ≤ room_1.cells; omega) (by show su + 6 ≤ room_1.slots; omega) rfl (Nat.le_of_ble_eq_true rfl) (tbd tv_law_back rfl) (fun v g q => ?_) (fun X g q => hno X g q)
  obtain ⟨x, rfl, h2, Q2, hM2, hh2, ⟨fs2, h56⟩, hno2, hq2⟩ := hq v g q
  refine G.eqs [.int (x)] rfl ?_
  refine G.go tv_law_back 5 353 [(0, .ref (b)), (1, .ref (gAd E (0))), (2, .ref (gAd E (56))), (3, .ref (gAd E (93))), (4, .int (nI i))] [.int ((nI i) + ((1 : Int32))), .ref (b), .ref (gAd E (56)), .int (x)] rfl ?_
  refine G.eqs [.int (nI (i + 1)), .ref (b), .ref (gAd E (56)), .int (x)] (by rw [show (1 : Int32) = nI 1 from rfl, nI_add]) ?_
  refine G.sld lwY_S lwK_A (i + 1) (by omega) hL2 (tbd tv_law_back rfl) ?_
  refine G.callVr 56 [.int (xs (i + 1))] [.int (x)] hM2 cls_X12 (by omega) h56 cw_L_176 w_2259 w_2260 (Nat.le_trans (Nat.succ_le_succ hh2) (Nat.le_of_ble_eq_true rfl)) (Nat.le_trans (Nat.mul_le_mul_left 64 (Nat.succ_le_succ hh2)) (Nat.le_of_ble_eq_true rfl)) (by show cu + 1 ≤ room_1.cells; omega) (by show su + 6 ≤ room_1.slots; omega) rfl (Nat.le_of_ble_eq_true rfl) (tbd tv_law_back rfl) (fun v u q => ?_) (fun X u q => hno2 X u q)
  obtain ⟨rfl, hI⟩ := hq2 v u q
  refine G.eqs [.int (x), .int (x)] rfl ?_
  refine G.cmp_eq 2804 (tbd tv_law_back rfl) (by decide) (fun c357 => ?_) (fun c357 => absurd (rfl) c357)
  refine G.wide (cu + 1) (su + 6) (by show cu ≤ cu + 1; omega) (by show su ≤ su + 6; omega) ?_
  exact kk _ hI
def tb_law_format : List (Nat × Instr × Nat) := [(362, .aload_n 1, 1), (363, .aload_n 3, 1), (364, .invokestatic 177, 3), (367, .istore 5, 2), (369, .aload_n 2, 1), (370, .invokevirtual 180, 3), (373, .istore 6, 2), (375, .aload_n 2, 1), (376, .invokevirtual 181, 3), (379, .iload 5, 2), (381, .if_icmp .eq 5, 3), (384, .iconst 0, 1), (385, .ireturn, 1), (386, .iload 5, 2), (388, .ifCond .ne 15, 3), (391, .aload_n 3, 1), (392, .iconst 0, 1), (393, .laload, 1), (394, .iload 6, 2), (396, .i2l, 1), (397, .lcmp, 1), (398, .ifCond .eq 5, 3), (401, .iconst 0, 1), (402, .ireturn, 1), (403, .goto 2401, 3)]
theorem tv_law_format : Tv code tb_law_format := by
  unfold Tv
  decide +kernel
theorem w_2262 : Cond.methodLink "LedgerFilesLaw" 180 yX12_format ∈ TB := tp_9 196 (by decide +kernel) rfl
theorem w_2265 : Cond.code yX12_format prog_14_method_80_code 2 (some .int) ∈ TB := tp_9 199 rfl rfl
theorem cw_L_180 : Cw RL 180 yX12_format cX12_format 2 (some .int) 0 := ⟨w_2262, w_2265, w_161, by decide +kernel, by decide +kernel, by decide⟩
theorem w_2263 : Cond.instanceMethod yX12_format ∈ TB := tp_9 197 (by decide +kernel) rfl
theorem w_2264 : Cond.selects "LedgerFilesModel" yX12_format yX12_format ∈ TB := tp_9 198 (by decide +kernel) rfl
theorem w_2250 : Cond.methodLink "LedgerFilesLaw" 181 yX12_thrown ∈ TB := tp_9 184 (by decide +kernel) rfl
theorem w_2253 : Cond.code yX12_thrown prog_14_method_4_code 1 (some .int) ∈ TB := tp_9 187 rfl rfl
theorem cw_L_181 : Cw RL 181 yX12_thrown cX12_thrown 1 (some .int) 0 := ⟨w_2250, w_2253, w_161, by decide +kernel, by decide +kernel, by decide⟩
theorem w_2251 : Cond.instanceMethod yX12_thrown ∈ TB := tp_9 185 (by decide +kernel) rfl
theorem w_2252 : Cond.selects "LedgerFilesModel" yX12_thrown yX12_thrown ∈ TB := tp_9 186 (by decide +kernel) rfl
set_option maxRecDepth 100000 in
set_option maxHeartbeats 4000000 in
theorem lt_format (E : gE) (f : Nat → va_E) (hE : 94 ≤ gN E) (b L : Nat) (xs : Nat → Int32) (cu su h sz i : Nat) (hi : i + 5 < L) (hL2 : L < 2 ^ 31) (hcu : cu + 2 ≤ room_1.cells) (hsu : su + 12 ≤ room_1.slots) (Inv : (Nat → va_E) → Prop) (k : Int32) (H : PmI E yX12_format cX12_format 2 [] f k Inv) (kk : ∀ g, Inv g → G E (lwK h sz) code (gL b L xs (cu + 1) (su + 6)) 2804 [(0, .ref (b)), (1, .ref (gAd E (0))), (2, .ref (gAd E (56))), (3, .ref (gAd E (93))), (4, .int (nI i))] [] g) : G E (lwK h sz) code (gL b L xs (cu + 1) (su + 6)) 367 [(0, .ref (b)), (1, .ref (gAd E (0))), (2, .ref (gAd E (56))), (3, .ref (gAd E (93))), (4, .int (nI i))] [.int k] f := by
  obtain ⟨hc, Q, hM, hh, ⟨fs, h56⟩, hno, hq⟩ := H
  refine G.go tv_law_format 2 370 [(0, .ref (b)), (1, .ref (gAd E (0))), (2, .ref (gAd E (56))), (3, .ref (gAd E (93))), (4, .int (nI i)), (5, .int (k))] [.ref (gAd E (56))] rfl ?_
  refine G.callVr 56 [] [] hM cls_X12 (by omega) h56 cw_L_180 w_2263 w_2264 (Nat.le_trans (Nat.succ_le_succ hh) (Nat.le_of_ble_eq_true rfl)) (Nat.le_trans (Nat.mul_le_mul_left 64 (Nat.succ_le_succ hh)) (Nat.le_of_ble_eq_true rfl)) (by show (cu + 1) + 1 ≤ room_1.cells; omega) (by show (su + 6) + 6 ≤ room_1.slots; omega) rfl (Nat.le_of_ble_eq_true rfl) (tbd tv_law_format rfl) (fun v u q => ?_) (fun X u q => hno X u q)
  obtain ⟨r, R, rfl, rv, hk, ho, hI⟩ := hq v u q
  refine G.eqs [.int (r)] rfl ?_
  refine G.go tv_law_format 2 376 [(0, .ref (b)), (1, .ref (gAd E (0))), (2, .ref (gAd E (56))), (3, .ref (gAd E (93))), (4, .int (nI i)), (5, .int (k)), (6, .int (r))] [.ref (gAd E (56))] rfl ?_
  refine G.callVr 56 [] [] (c_X12_thrown E u R hE rv) cls_X12 (by omega) rv.o cw_L_181 w_2251 w_2252 (Nat.le_trans (Nat.succ_le_succ (show 1 ≤ 110 by decide)) (Nat.le_of_ble_eq_true rfl)) (Nat.le_trans (Nat.mul_le_mul_left 64 (Nat.succ_le_succ (show 1 ≤ 110 by decide))) (Nat.le_of_ble_eq_true rfl)) (by show (cu + 1) + 1 ≤ room_1.cells; omega) (by show (su + 6) + 6 ≤ room_1.slots; omega) rfl (Nat.le_of_ble_eq_true rfl) (tbd tv_law_format rfl) (fun v w q => ?_) (fun X w q => q)
  obtain ⟨rfl, rv2, fv2⟩ := q
  obtain rfl := RfV.uniq rv rv2 fv2
  refine G.eqs [.int (rS R 0)] rfl ?_
  refine G.go tv_law_format 1 381 [(0, .ref (b)), (1, .ref (gAd E (0))), (2, .ref (gAd E (56))), (3, .ref (gAd E (93))), (4, .int (nI i)), (5, .int (k)), (6, .int (r))] [.int (k), .int (rS R 0)] rfl ?_
  refine G.cmp_eq 386 (tbd tv_law_format rfl) (by decide) (fun c381 => ?_) (fun c381 => absurd (hk) c381)
  refine G.go tv_law_format 1 388 [(0, .ref (b)), (1, .ref (gAd E (0))), (2, .ref (gAd E (56))), (3, .ref (gAd E (93))), (4, .int (nI i)), (5, .int (k)), (6, .int (r))] [.int (k)] rfl ?_
  refine G.if_ne 403 (tbd tv_law_format rfl) (by decide) (fun c388 => ?_) (fun c388 => ?_)
  · skip
    refine G.go tv_law_format 1 2804 [(0, .ref (b)), (1, .ref (gAd E (0))), (2, .ref (gAd E (56))), (3, .ref (gAd E (93))), (4, .int (nI i)), (5, .int (k)), (6, .int (r))] [] rfl ?_
    refine G.drop [0, 1, 2, 3, 4] rfl ?_
    exact kk _ hI
  · skip
    obtain ⟨o, e93, eo⟩ := ho c388
    refine G.go tv_law_format 2 393 [(0, .ref (b)), (1, .ref (gAd E (0))), (2, .ref (gAd E (56))), (3, .ref (gAd E (93))), (4, .int (nI i)), (5, .int (k)), (6, .int (r))] [.int ((0 : Int32)), .ref (gAd E (93))] rfl ?_
    refine G.eqs [.int (nI (0)), .ref (gAd E (93))] (by rw [show (0 : Int32) = nI 0 from rfl]) ?_
    refine G.laldN (93) (0) (by omega) (e93) (by decide) (by decide) (tbd tv_law_format rfl) ?_
    refine G.go tv_law_format 3 398 [(0, .ref (b)), (1, .ref (gAd E (0))), (2, .ref (gAd E (56))), (3, .ref (gAd E (93))), (4, .int (nI i)), (5, .int (k)), (6, .int (r))] [.int (lg_cmp ((o) (0)) ((r : Int32).toInt64))] rfl ?_
    refine G.if_eq 403 (tbd tv_law_format rfl) (by decide) (fun c398 => ?_) (fun c398 => absurd ((lg_cmp_eq _ _).mpr (eo)) c398)
    refine G.go tv_law_format 1 2804 [(0, .ref (b)), (1, .ref (gAd E (0))), (2, .ref (gAd E (56))), (3, .ref (gAd E (93))), (4, .int (nI i)), (5, .int (k)), (6, .int (r))] [] rfl ?_
    refine G.drop [0, 1, 2, 3, 4] rfl ?_
    exact kk _ hI
theorem w_633 : Cond.methodLink "LedgerFilesLaw" 177 yL_format ∈ TB := tp_3 7 (by decide +kernel) rfl
theorem w_146 : Cond.initialized "LedgerFilesLaw" ∈ TB := tp_1 0 (by decide +kernel) rfl
theorem w_634 : Cond.static yL_format ∈ TB := tp_3 8 (by decide +kernel) rfl
theorem cwh_177 : CwH RL 177 yL_format cL_format 3 (some .int) [(0, 8, 11, 13), (0, 8, 14, 15)] 2 := ⟨w_633, w_635, w_146, by decide +kernel, by decide +kernel, by decide, w_634⟩
set_option maxRecDepth 100000 in
set_option maxHeartbeats 4000000 in
theorem k_format (E : gE) (f : Nat → va_E) (hE : 94 ≤ gN E) (b L : Nat) (xs : Nat → Int32) (cu su h sz i : Nat) (hi : i + 5 < L) (hL2 : L < 2 ^ 31) (hcu : cu + 2 ≤ room_1.cells) (hsu : su + 12 ≤ room_1.slots) (Inv : (Nat → va_E) → Prop) (H : CsI E f yX11_format cX11_format 3 yX12_format cX12_format 2 [] [xI, xU] Inv) (kk : ∀ g, Inv g → G E (lwK h sz) code (gL b L xs (cu + 1) (su + 6)) 2804 [(0, .ref (b)), (1, .ref (gAd E (0))), (2, .ref (gAd E (56))), (3, .ref (gAd E (93))), (4, .int (nI i))] [] g) : G E (lwK h sz) code (gL b L xs cu su) 362 [(0, .ref (b)), (1, .ref (gAd E (0))), (2, .ref (gAd E (56))), (3, .ref (gAd E (93))), (4, .int (nI i))] [] f := by
  obtain ⟨hc, Q, hM, hh, ⟨fs, h0⟩, hn, hx⟩ := H
  refine G.go tv_law_format 2 364 [(0, .ref (b)), (1, .ref (gAd E (0))), (2, .ref (gAd E (56))), (3, .ref (gAd E (93))), (4, .int (nI i))] [.ref (gAd E (93)), .ref (gAd E (0))] rfl ?_
  refine G.callH [.ref (gAd E (0)), .ref (gAd E (93))] [] (h_L_format E f hE  hM hh h0 (fun v g q => by obtain ⟨x, o, h1, h2, -⟩ := hn v g q; exact ⟨x, o, h1, h2⟩) (fun X g q => (xk2 (hx X g q)).elim (fun a => Or.inl a.1) (fun a => Or.inr a.1))) cwh_177 (Nat.le_of_ble_eq_true rfl) (Nat.le_of_ble_eq_true rfl) (by show cu + 1 ≤ room_1.cells; omega) (by show su + 6 ≤ room_1.slots; omega) rfl (Nat.le_of_ble_eq_true rfl) (tbd tv_law_format rfl) (fun v g q => ?_)
  rcases q with ⟨rfl, x, o, g0, q, e93, rfl⟩ | ⟨rfl, q⟩ | ⟨rfl, q⟩
  · refine G.eqs [.int 0] rfl ?_
    obtain ⟨x1, o1, e1, e2, hp⟩ := hn _ _ q
    cases e1
    obtain rfl := oJ_inj (e93.symm.trans e2)
    exact lt_format E _ hE b L xs cu su h sz i hi hL2 hcu hsu Inv 0 hp kk
  · refine G.eqs [.int 1] rfl ?_
    exact lt_format E _ hE b L xs cu su h sz i hi hL2 hcu hsu Inv 1 ((xk2 (hx _ _ q)).elim (fun a => a.2) (fun a => absurd a.1 (by decide))) kk
  · refine G.eqs [.int 2] rfl ?_
    exact lt_format E _ hE b L xs cu su h sz i hi hL2 hcu hsu Inv 2 ((xk2 (hx _ _ q)).elim (fun a => absurd a.1 (by decide)) (fun a => a.2)) kk
def tb_law_mount : List (Nat × Instr × Nat) := [(406, .aload_n 1, 1), (407, .aload_n 3, 1), (408, .invokestatic 184, 3), (411, .istore 5, 2), (413, .aload_n 2, 1), (414, .invokevirtual 186, 3), (417, .istore 6, 2), (419, .aload_n 2, 1), (420, .invokevirtual 181, 3), (423, .iload 5, 2), (425, .if_icmp .eq 5, 3), (428, .iconst 0, 1), (429, .ireturn, 1), (430, .iload 5, 2), (432, .ifCond .ne 15, 3), (435, .aload_n 3, 1), (436, .iconst 0, 1), (437, .laload, 1), (438, .iload 6, 2), (440, .i2l, 1), (441, .lcmp, 1), (442, .ifCond .eq 5, 3), (445, .iconst 0, 1), (446, .ireturn, 1), (447, .goto 2357, 3)]
theorem tv_law_mount : Tv code tb_law_mount := by
  unfold Tv
  decide +kernel
theorem w_2341 : Cond.methodLink "LedgerFilesLaw" 186 yX12_mount ∈ TB := tp_10 35 (by decide +kernel) rfl
theorem w_2344 : Cond.code yX12_mount prog_14_method_82_code 6 (some .int) ∈ TB := tp_10 38 rfl rfl
theorem cw_L_186 : Cw RL 186 yX12_mount cX12_mount 6 (some .int) 0 := ⟨w_2341, w_2344, w_161, by decide +kernel, by decide +kernel, by decide⟩
theorem w_2342 : Cond.instanceMethod yX12_mount ∈ TB := tp_10 36 (by decide +kernel) rfl
theorem w_2343 : Cond.selects "LedgerFilesModel" yX12_mount yX12_mount ∈ TB := tp_10 37 (by decide +kernel) rfl
set_option maxRecDepth 100000 in
set_option maxHeartbeats 4000000 in
theorem lt_mount (E : gE) (f : Nat → va_E) (hE : 94 ≤ gN E) (b L : Nat) (xs : Nat → Int32) (cu su h sz i : Nat) (hi : i + 5 < L) (hL2 : L < 2 ^ 31) (hcu : cu + 2 ≤ room_1.cells) (hsu : su + 12 ≤ room_1.slots) (Inv : (Nat → va_E) → Prop) (k : Int32) (H : PmI E yX12_mount cX12_mount 6 [] f k Inv) (kk : ∀ g, Inv g → G E (lwK h sz) code (gL b L xs (cu + 1) (su + 6)) 2804 [(0, .ref (b)), (1, .ref (gAd E (0))), (2, .ref (gAd E (56))), (3, .ref (gAd E (93))), (4, .int (nI i))] [] g) : G E (lwK h sz) code (gL b L xs (cu + 1) (su + 6)) 411 [(0, .ref (b)), (1, .ref (gAd E (0))), (2, .ref (gAd E (56))), (3, .ref (gAd E (93))), (4, .int (nI i))] [.int k] f := by
  obtain ⟨hc, Q, hM, hh, ⟨fs, h56⟩, hno, hq⟩ := H
  refine G.go tv_law_mount 2 414 [(0, .ref (b)), (1, .ref (gAd E (0))), (2, .ref (gAd E (56))), (3, .ref (gAd E (93))), (4, .int (nI i)), (5, .int (k))] [.ref (gAd E (56))] rfl ?_
  refine G.callVr 56 [] [] hM cls_X12 (by omega) h56 cw_L_186 w_2342 w_2343 (Nat.le_trans (Nat.succ_le_succ hh) (Nat.le_of_ble_eq_true rfl)) (Nat.le_trans (Nat.mul_le_mul_left 64 (Nat.succ_le_succ hh)) (Nat.le_of_ble_eq_true rfl)) (by show (cu + 1) + 1 ≤ room_1.cells; omega) (by show (su + 6) + 6 ≤ room_1.slots; omega) rfl (Nat.le_of_ble_eq_true rfl) (tbd tv_law_mount rfl) (fun v u q => ?_) (fun X u q => hno X u q)
  obtain ⟨r, R, rfl, rv, hk, ho, hI⟩ := hq v u q
  refine G.eqs [.int (r)] rfl ?_
  refine G.go tv_law_mount 2 420 [(0, .ref (b)), (1, .ref (gAd E (0))), (2, .ref (gAd E (56))), (3, .ref (gAd E (93))), (4, .int (nI i)), (5, .int (k)), (6, .int (r))] [.ref (gAd E (56))] rfl ?_
  refine G.callVr 56 [] [] (c_X12_thrown E u R hE rv) cls_X12 (by omega) rv.o cw_L_181 w_2251 w_2252 (Nat.le_trans (Nat.succ_le_succ (show 1 ≤ 110 by decide)) (Nat.le_of_ble_eq_true rfl)) (Nat.le_trans (Nat.mul_le_mul_left 64 (Nat.succ_le_succ (show 1 ≤ 110 by decide))) (Nat.le_of_ble_eq_true rfl)) (by show (cu + 1) + 1 ≤ room_1.cells; omega) (by show (su + 6) + 6 ≤ room_1.slots; omega) rfl (Nat.le_of_ble_eq_true rfl) (tbd tv_law_mount rfl) (fun v w q => ?_) (fun X w q => q)
  obtain ⟨rfl, rv2, fv2⟩ := q
  obtain rfl := RfV.uniq rv rv2 fv2
  refine G.eqs [.int (rS R 0)] rfl ?_
  refine G.go tv_law_mount 1 425 [(0, .ref (b)), (1, .ref (gAd E (0))), (2, .ref (gAd E (56))), (3, .ref (gAd E (93))), (4, .int (nI i)), (5, .int (k)), (6, .int (r))] [.int (k), .int (rS R 0)] rfl ?_
  refine G.cmp_eq 430 (tbd tv_law_mount rfl) (by decide) (fun c425 => ?_) (fun c425 => absurd (hk) c425)
  refine G.go tv_law_mount 1 432 [(0, .ref (b)), (1, .ref (gAd E (0))), (2, .ref (gAd E (56))), (3, .ref (gAd E (93))), (4, .int (nI i)), (5, .int (k)), (6, .int (r))] [.int (k)] rfl ?_
  refine G.if_ne 447 (tbd tv_law_mount rfl) (by decide) (fun c432 => ?_) (fun c432 => ?_)
  · skip
    refine G.go tv_law_mount 1 2804 [(0, .ref (b)), (1, .ref (gAd E (0))), (2, .ref (gAd E (56))), (3, .ref (gAd E (93))), (4, .int (nI i)), (5, .int (k)), (6, .int (r))] [] rfl ?_
    refine G.drop [0, 1, 2, 3, 4] rfl ?_
    exact kk _ hI
  · skip
    obtain ⟨o, e93, eo⟩ := ho c432
    refine G.go tv_law_mount 2 437 [(0, .ref (b)), (1, .ref (gAd E (0))), (2, .ref (gAd E (56))), (3, .ref (gAd E (93))), (4, .int (nI i)), (5, .int (k)), (6, .int (r))] [.int ((0 : Int32)), .ref (gAd E (93))] rfl ?_
    refine G.eqs [.int (nI (0)), .ref (gAd E (93))] (by rw [show (0 : Int32) = nI 0 from rfl]) ?_
    refine G.laldN (93) (0) (by omega) (e93) (by decide) (by decide) (tbd tv_law_mount rfl) ?_
    refine G.go tv_law_mount 3 442 [(0, .ref (b)), (1, .ref (gAd E (0))), (2, .ref (gAd E (56))), (3, .ref (gAd E (93))), (4, .int (nI i)), (5, .int (k)), (6, .int (r))] [.int (lg_cmp ((o) (0)) ((r : Int32).toInt64))] rfl ?_
    refine G.if_eq 447 (tbd tv_law_mount rfl) (by decide) (fun c442 => ?_) (fun c442 => absurd ((lg_cmp_eq _ _).mpr (eo)) c442)
    refine G.go tv_law_mount 1 2804 [(0, .ref (b)), (1, .ref (gAd E (0))), (2, .ref (gAd E (56))), (3, .ref (gAd E (93))), (4, .int (nI i)), (5, .int (k)), (6, .int (r))] [] rfl ?_
    refine G.drop [0, 1, 2, 3, 4] rfl ?_
    exact kk _ hI
theorem w_816 : Cond.methodLink "LedgerFilesLaw" 184 yL_mount ∈ TB := tp_3 190 (by decide +kernel) rfl
theorem w_817 : Cond.static yL_mount ∈ TB := tp_3 191 (by decide +kernel) rfl
theorem cwh_184 : CwH RL 184 yL_mount cL_mount 3 (some .int) [(0, 8, 11, 13), (0, 8, 14, 15), (0, 8, 17, 20)] 2 := ⟨w_816, w_818, w_146, by decide +kernel, by decide +kernel, by decide, w_817⟩
set_option maxRecDepth 100000 in
set_option maxHeartbeats 4000000 in
theorem k_mount (E : gE) (f : Nat → va_E) (hE : 94 ≤ gN E) (b L : Nat) (xs : Nat → Int32) (cu su h sz i : Nat) (hi : i + 5 < L) (hL2 : L < 2 ^ 31) (hcu : cu + 2 ≤ room_1.cells) (hsu : su + 12 ≤ room_1.slots) (Inv : (Nat → va_E) → Prop) (H : CsI E f yX11_mount cX11_mount 2 yX12_mount cX12_mount 6 [] [xI, xU, xA] Inv) (kk : ∀ g, Inv g → G E (lwK h sz) code (gL b L xs (cu + 1) (su + 6)) 2804 [(0, .ref (b)), (1, .ref (gAd E (0))), (2, .ref (gAd E (56))), (3, .ref (gAd E (93))), (4, .int (nI i))] [] g) : G E (lwK h sz) code (gL b L xs cu su) 406 [(0, .ref (b)), (1, .ref (gAd E (0))), (2, .ref (gAd E (56))), (3, .ref (gAd E (93))), (4, .int (nI i))] [] f := by
  obtain ⟨hc, Q, hM, hh, ⟨fs, h0⟩, hn, hx⟩ := H
  refine G.go tv_law_mount 2 408 [(0, .ref (b)), (1, .ref (gAd E (0))), (2, .ref (gAd E (56))), (3, .ref (gAd E (93))), (4, .int (nI i))] [.ref (gAd E (93)), .ref (gAd E (0))] rfl ?_
  refine G.callH [.ref (gAd E (0)), .ref (gAd E (93))] [] (h_L_mount E f hE  hM hh h0 (fun v g q => by obtain ⟨x, o, h1, h2, -⟩ := hn v g q; exact ⟨x, o, h1, h2⟩) (fun X g q => (xk3 (hx X g q)).elim (fun a => Or.inl a.1) (fun a => a.elim (fun a => Or.inr (Or.inl a.1)) (fun a => Or.inr (Or.inr a.1))))) cwh_184 (Nat.le_of_ble_eq_true rfl) (Nat.le_of_ble_eq_true rfl) (by show cu + 1 ≤ room_1.cells; omega) (by show su + 6 ≤ room_1.slots; omega) rfl (Nat.le_of_ble_eq_true rfl) (tbd tv_law_mount rfl) (fun v g q => ?_)
  rcases q with ⟨rfl, x, o, g0, q, e93, rfl⟩ | ⟨rfl, q⟩ | ⟨rfl, q⟩ | ⟨rfl, q⟩
  · refine G.eqs [.int 0] rfl ?_
    obtain ⟨x1, o1, e1, e2, hp⟩ := hn _ _ q
    cases e1
    obtain rfl := oJ_inj (e93.symm.trans e2)
    exact lt_mount E _ hE b L xs cu su h sz i hi hL2 hcu hsu Inv 0 hp kk
  · refine G.eqs [.int 1] rfl ?_
    exact lt_mount E _ hE b L xs cu su h sz i hi hL2 hcu hsu Inv 1 ((xk3 (hx _ _ q)).elim (fun a => a.2) (fun a => a.elim (fun a => absurd a.1 (by decide)) (fun a => absurd a.1 (by decide)))) kk
  · refine G.eqs [.int 2] rfl ?_
    exact lt_mount E _ hE b L xs cu su h sz i hi hL2 hcu hsu Inv 2 ((xk3 (hx _ _ q)).elim (fun a => absurd a.1 (by decide)) (fun a => a.elim (fun a => a.2) (fun a => absurd a.1 (by decide)))) kk
  · refine G.eqs [.int 3] rfl ?_
    exact lt_mount E _ hE b L xs cu su h sz i hi hL2 hcu hsu Inv 3 ((xk3 (hx _ _ q)).elim (fun a => absurd a.1 (by decide)) (fun a => a.elim (fun a => absurd a.1 (by decide)) (fun a => a.2))) kk
def tb_law_unmount : List (Nat × Instr × Nat) := [(450, .aload_n 1, 1), (451, .invokestatic 187, 3), (454, .istore 5, 2), (456, .aload_n 2, 1), (457, .invokevirtual 190, 3), (460, .aload_n 2, 1), (461, .invokevirtual 181, 3), (464, .iload 5, 2), (466, .if_icmp .eq 5, 3), (469, .iconst 0, 1), (470, .ireturn, 1), (471, .goto 2333, 3)]
theorem tv_law_unmount : Tv code tb_law_unmount := by
  unfold Tv
  decide +kernel
theorem w_2458 : Cond.methodLink "LedgerFilesLaw" 190 yX12_unmount ∈ TB := tp_10 152 (by decide +kernel) rfl
theorem w_2461 : Cond.code yX12_unmount prog_14_method_83_code 2 none ∈ TB := tp_10 155 rfl rfl
theorem cw_L_190 : Cw RL 190 yX12_unmount cX12_unmount 2 none 0 := ⟨w_2458, w_2461, w_161, by decide +kernel, by decide +kernel, by decide⟩
theorem w_2459 : Cond.instanceMethod yX12_unmount ∈ TB := tp_10 153 (by decide +kernel) rfl
theorem w_2460 : Cond.selects "LedgerFilesModel" yX12_unmount yX12_unmount ∈ TB := tp_10 154 (by decide +kernel) rfl
set_option maxRecDepth 100000 in
set_option maxHeartbeats 4000000 in
theorem lt_unmount (E : gE) (f : Nat → va_E) (hE : 94 ≤ gN E) (b L : Nat) (xs : Nat → Int32) (cu su h sz i : Nat) (hi : i + 5 < L) (hL2 : L < 2 ^ 31) (hcu : cu + 2 ≤ room_1.cells) (hsu : su + 12 ≤ room_1.slots) (Inv : (Nat → va_E) → Prop) (k : Int32) (H : PmV E yX12_unmount cX12_unmount 2 [] f k Inv) (kk : ∀ g, Inv g → G E (lwK h sz) code (gL b L xs (cu + 1) (su + 6)) 2804 [(0, .ref (b)), (1, .ref (gAd E (0))), (2, .ref (gAd E (56))), (3, .ref (gAd E (93))), (4, .int (nI i))] [] g) : G E (lwK h sz) code (gL b L xs (cu + 1) (su + 6)) 454 [(0, .ref (b)), (1, .ref (gAd E (0))), (2, .ref (gAd E (56))), (3, .ref (gAd E (93))), (4, .int (nI i))] [.int k] f := by
  obtain ⟨hc, Q, hM, hh, ⟨fs, h56⟩, hno, hq⟩ := H
  refine G.go tv_law_unmount 2 457 [(0, .ref (b)), (1, .ref (gAd E (0))), (2, .ref (gAd E (56))), (3, .ref (gAd E (93))), (4, .int (nI i)), (5, .int (k))] [.ref (gAd E (56))] rfl ?_
  refine G.callVr 56 [] [] hM cls_X12 (by omega) h56 cw_L_190 w_2459 w_2460 (Nat.le_trans (Nat.succ_le_succ hh) (Nat.le_of_ble_eq_true rfl)) (Nat.le_trans (Nat.mul_le_mul_left 64 (Nat.succ_le_succ hh)) (Nat.le_of_ble_eq_true rfl)) (by show (cu + 1) + 1 ≤ room_1.cells; omega) (by show (su + 6) + 6 ≤ room_1.slots; omega) rfl (Nat.le_of_ble_eq_true rfl) (tbd tv_law_unmount rfl) (fun v u q => ?_) (fun X u q => hno X u q)
  obtain ⟨R, rfl, rv, hk, hI⟩ := hq v u q
  refine G.eqs [] rfl ?_
  refine G.go tv_law_unmount 1 461 [(0, .ref (b)), (1, .ref (gAd E (0))), (2, .ref (gAd E (56))), (3, .ref (gAd E (93))), (4, .int (nI i)), (5, .int (k))] [.ref (gAd E (56))] rfl ?_
  refine G.callVr 56 [] [] (c_X12_thrown E u R hE rv) cls_X12 (by omega) rv.o cw_L_181 w_2251 w_2252 (Nat.le_trans (Nat.succ_le_succ (show 1 ≤ 110 by decide)) (Nat.le_of_ble_eq_true rfl)) (Nat.le_trans (Nat.mul_le_mul_left 64 (Nat.succ_le_succ (show 1 ≤ 110 by decide))) (Nat.le_of_ble_eq_true rfl)) (by show (cu + 1) + 1 ≤ room_1.cells; omega) (by show (su + 6) + 6 ≤ room_1.slots; omega) rfl (Nat.le_of_ble_eq_true rfl) (tbd tv_law_unmount rfl) (fun v w q => ?_) (fun X w q => q)
  obtain ⟨rfl, rv2, fv2⟩ := q
  obtain rfl := RfV.uniq rv rv2 fv2
  refine G.eqs [.int (rS R 0)] rfl ?_
  refine G.go tv_law_unmount 1 466 [(0, .ref (b)), (1, .ref (gAd E (0))), (2, .ref (gAd E (56))), (3, .ref (gAd E (93))), (4, .int (nI i)), (5, .int (k))] [.int (k), .int (rS R 0)] rfl ?_
  refine G.cmp_eq 471 (tbd tv_law_unmount rfl) (by decide) (fun c466 => ?_) (fun c466 => absurd (hk) c466)
  refine G.go tv_law_unmount 1 2804 [(0, .ref (b)), (1, .ref (gAd E (0))), (2, .ref (gAd E (56))), (3, .ref (gAd E (93))), (4, .int (nI i)), (5, .int (k))] [] rfl ?_
  refine G.drop [0, 1, 2, 3, 4] rfl ?_
  exact kk _ hI
theorem w_1311 : Cond.methodLink "LedgerFilesLaw" 187 yL_unmount ∈ TB := tp_5 205 (by decide +kernel) rfl
theorem w_1312 : Cond.static yL_unmount ∈ TB := tp_5 206 (by decide +kernel) rfl
theorem cwh_187 : CwH RL 187 yL_unmount cL_unmount 2 (some .int) [(0, 4, 7, 13), (0, 4, 10, 15)] 1 := ⟨w_1311, w_1313, w_146, by decide +kernel, by decide +kernel, by decide, w_1312⟩
set_option maxRecDepth 100000 in
set_option maxHeartbeats 4000000 in
theorem k_unmount (E : gE) (f : Nat → va_E) (hE : 94 ≤ gN E) (b L : Nat) (xs : Nat → Int32) (cu su h sz i : Nat) (hi : i + 5 < L) (hL2 : L < 2 ^ 31) (hcu : cu + 2 ≤ room_1.cells) (hsu : su + 12 ≤ room_1.slots) (Inv : (Nat → va_E) → Prop) (H : CsV E f yX11_unmount cX11_unmount 1 yX12_unmount cX12_unmount 2 [] [xI, xU] Inv) (kk : ∀ g, Inv g → G E (lwK h sz) code (gL b L xs (cu + 1) (su + 6)) 2804 [(0, .ref (b)), (1, .ref (gAd E (0))), (2, .ref (gAd E (56))), (3, .ref (gAd E (93))), (4, .int (nI i))] [] g) : G E (lwK h sz) code (gL b L xs cu su) 450 [(0, .ref (b)), (1, .ref (gAd E (0))), (2, .ref (gAd E (56))), (3, .ref (gAd E (93))), (4, .int (nI i))] [] f := by
  obtain ⟨hc, Q, hM, hh, ⟨fs, h0⟩, hn, hx⟩ := H
  refine G.go tv_law_unmount 1 451 [(0, .ref (b)), (1, .ref (gAd E (0))), (2, .ref (gAd E (56))), (3, .ref (gAd E (93))), (4, .int (nI i))] [.ref (gAd E (0))] rfl ?_
  refine G.callH [.ref (gAd E (0))] [] (h_L_unmount E f hE  hM hh h0 (fun v g q => (hn v g q).1) (fun X g q => (xk2 (hx X g q)).elim (fun a => Or.inl a.1) (fun a => Or.inr a.1))) cwh_187 (Nat.le_of_ble_eq_true rfl) (Nat.le_of_ble_eq_true rfl) (by show cu + 1 ≤ room_1.cells; omega) (by show su + 6 ≤ room_1.slots; omega) rfl (Nat.le_of_ble_eq_true rfl) (tbd tv_law_unmount rfl) (fun v g q => ?_)
  rcases q with ⟨rfl, q⟩ | ⟨rfl, q⟩ | ⟨rfl, q⟩
  · refine G.eqs [.int 0] rfl ?_
    exact lt_unmount E _ hE b L xs cu su h sz i hi hL2 hcu hsu Inv 0 (hn _ _ q).2 kk
  · refine G.eqs [.int 1] rfl ?_
    exact lt_unmount E _ hE b L xs cu su h sz i hi hL2 hcu hsu Inv 1 ((xk2 (hx _ _ q)).elim (fun a => a.2) (fun a => absurd a.1 (by decide))) kk
  · refine G.eqs [.int 2] rfl ?_
    exact lt_unmount E _ hE b L xs cu su h sz i hi hL2 hcu hsu Inv 2 ((xk2 (hx _ _ q)).elim (fun a => absurd a.1 (by decide)) (fun a => a.2)) kk
def tb_law_make : List (Nat × Instr × Nat) := [(474, .aload_n 1, 1), (475, .aload_n 0, 1), (476, .iload 4, 2), (478, .iconst 1, 1), (479, .iadd, 1), (480, .iaload, 1), (481, .ifCond .eq 7, 3), (484, .iconst 1, 1), (485, .goto 4, 3), (488, .iconst 0, 1), (489, .aload_n 3, 1), (490, .invokestatic 191, 3), (493, .istore 5, 2), (495, .aload_n 2, 1), (496, .aload_n 0, 1), (497, .iload 4, 2), (499, .iconst 1, 1), (500, .iadd, 1), (501, .iaload, 1), (502, .ifCond .eq 7, 3), (505, .iconst 1, 1), (506, .goto 4, 3), (509, .iconst 0, 1), (510, .invokevirtual 194, 3), (513, .istore 6, 2), (515, .aload_n 2, 1), (516, .invokevirtual 181, 3), (519, .iload 5, 2), (521, .if_icmp .eq 5, 3), (524, .iconst 0, 1), (525, .ireturn, 1), (526, .iload 5, 2), (528, .ifCond .ne 15, 3), (531, .aload_n 3, 1), (532, .iconst 0, 1), (533, .laload, 1), (534, .iload 6, 2), (536, .i2l, 1), (537, .lcmp, 1), (538, .ifCond .eq 5, 3), (541, .iconst 0, 1), (542, .ireturn, 1), (543, .goto 2261, 3)]
theorem tv_law_make : Tv code tb_law_make := by
  unfold Tv
  decide +kernel
theorem w_2474 : Cond.methodLink "LedgerFilesLaw" 194 yX12_make ∈ TB := tp_10 168 (by decide +kernel) rfl
theorem w_2477 : Cond.code yX12_make prog_14_method_86_code 8 (some .int) ∈ TB := tp_10 171 rfl rfl
theorem cw_L_194 : Cw RL 194 yX12_make cX12_make 8 (some .int) 1 := ⟨w_2474, w_2477, w_161, by decide +kernel, by decide +kernel, by decide⟩
theorem w_2475 : Cond.instanceMethod yX12_make ∈ TB := tp_10 169 (by decide +kernel) rfl
theorem w_2476 : Cond.selects "LedgerFilesModel" yX12_make yX12_make ∈ TB := tp_10 170 (by decide +kernel) rfl
set_option maxRecDepth 100000 in
set_option maxHeartbeats 4000000 in
theorem lt_make (E : gE) (f : Nat → va_E) (hE : 94 ≤ gN E) (b L : Nat) (xs : Nat → Int32) (cu su h sz i : Nat) (hi : i + 5 < L) (hL2 : L < 2 ^ 31) (hcu : cu + 2 ≤ room_1.cells) (hsu : su + 12 ≤ room_1.slots) (Inv : (Nat → va_E) → Prop) (k : Int32) (H : PmI E yX12_make cX12_make 8 [.int (sB (xs (i + 1)))] f k Inv) (kk : ∀ g, Inv g → G E (lwK h sz) code (gL b L xs (cu + 1) (su + 6)) 2804 [(0, .ref (b)), (1, .ref (gAd E (0))), (2, .ref (gAd E (56))), (3, .ref (gAd E (93))), (4, .int (nI i))] [] g) : G E (lwK h sz) code (gL b L xs (cu + 1) (su + 6)) 493 [(0, .ref (b)), (1, .ref (gAd E (0))), (2, .ref (gAd E (56))), (3, .ref (gAd E (93))), (4, .int (nI i))] [.int k] f := by
  obtain ⟨hc, Q, hM, hh, ⟨fs, h56⟩, hno, hq⟩ := H
  refine G.go tv_law_make 6 501 [(0, .ref (b)), (1, .ref (gAd E (0))), (2, .ref (gAd E (56))), (3, .ref (gAd E (93))), (4, .int (nI i)), (5, .int (k))] [.int ((nI i) + ((1 : Int32))), .ref (b), .ref (gAd E (56))] rfl ?_
  refine G.eqs [.int (nI (i + 1)), .ref (b), .ref (gAd E (56))] (by rw [show (1 : Int32) = nI 1 from rfl, nI_add]) ?_
  refine G.sld lwY_S lwK_A (i + 1) (by omega) hL2 (tbd tv_law_make rfl) ?_
  refine G.if_eq 509 (tbd tv_law_make rfl) (by decide) (fun c502 => ?_) (fun c502 => ?_)
  · skip
    rw [show sB (xs (i + 1)) = 0 from if_pos c502] at hM
    refine G.go tv_law_make 1 510 [(0, .ref (b)), (1, .ref (gAd E (0))), (2, .ref (gAd E (56))), (3, .ref (gAd E (93))), (4, .int (nI i)), (5, .int (k))] [.int ((0 : Int32)), .ref (gAd E (56))] rfl ?_
    refine G.callVr 56 [.int ((0 : Int32))] [] hM cls_X12 (by omega) h56 cw_L_194 w_2475 w_2476 (Nat.le_trans (Nat.succ_le_succ hh) (Nat.le_of_ble_eq_true rfl)) (Nat.le_trans (Nat.mul_le_mul_left 64 (Nat.succ_le_succ hh)) (Nat.le_of_ble_eq_true rfl)) (by show (cu + 1) + 1 ≤ room_1.cells; omega) (by show (su + 6) + 6 ≤ room_1.slots; omega) rfl (Nat.le_of_ble_eq_true rfl) (tbd tv_law_make rfl) (fun v u q => ?_) (fun X u q => hno X u q)
    obtain ⟨r, R, rfl, rv, hk, ho, hI⟩ := hq v u q
    refine G.eqs [.int (r)] rfl ?_
    refine G.go tv_law_make 2 516 [(0, .ref (b)), (1, .ref (gAd E (0))), (2, .ref (gAd E (56))), (3, .ref (gAd E (93))), (4, .int (nI i)), (5, .int (k)), (6, .int (r))] [.ref (gAd E (56))] rfl ?_
    refine G.callVr 56 [] [] (c_X12_thrown E u R hE rv) cls_X12 (by omega) rv.o cw_L_181 w_2251 w_2252 (Nat.le_trans (Nat.succ_le_succ (show 1 ≤ 110 by decide)) (Nat.le_of_ble_eq_true rfl)) (Nat.le_trans (Nat.mul_le_mul_left 64 (Nat.succ_le_succ (show 1 ≤ 110 by decide))) (Nat.le_of_ble_eq_true rfl)) (by show (cu + 1) + 1 ≤ room_1.cells; omega) (by show (su + 6) + 6 ≤ room_1.slots; omega) rfl (Nat.le_of_ble_eq_true rfl) (tbd tv_law_make rfl) (fun v w q => ?_) (fun X w q => q)
    obtain ⟨rfl, rv2, fv2⟩ := q
    obtain rfl := RfV.uniq rv rv2 fv2
    refine G.eqs [.int (rS R 0)] rfl ?_
    refine G.go tv_law_make 1 521 [(0, .ref (b)), (1, .ref (gAd E (0))), (2, .ref (gAd E (56))), (3, .ref (gAd E (93))), (4, .int (nI i)), (5, .int (k)), (6, .int (r))] [.int (k), .int (rS R 0)] rfl ?_
    refine G.cmp_eq 526 (tbd tv_law_make rfl) (by decide) (fun c521 => ?_) (fun c521 => absurd (hk) c521)
    refine G.go tv_law_make 1 528 [(0, .ref (b)), (1, .ref (gAd E (0))), (2, .ref (gAd E (56))), (3, .ref (gAd E (93))), (4, .int (nI i)), (5, .int (k)), (6, .int (r))] [.int (k)] rfl ?_
    refine G.if_ne 543 (tbd tv_law_make rfl) (by decide) (fun c528 => ?_) (fun c528 => ?_)
    · skip
      refine G.go tv_law_make 1 2804 [(0, .ref (b)), (1, .ref (gAd E (0))), (2, .ref (gAd E (56))), (3, .ref (gAd E (93))), (4, .int (nI i)), (5, .int (k)), (6, .int (r))] [] rfl ?_
      refine G.drop [0, 1, 2, 3, 4] rfl ?_
      exact kk _ hI
    · skip
      obtain ⟨o, e93, eo⟩ := ho c528
      refine G.go tv_law_make 2 533 [(0, .ref (b)), (1, .ref (gAd E (0))), (2, .ref (gAd E (56))), (3, .ref (gAd E (93))), (4, .int (nI i)), (5, .int (k)), (6, .int (r))] [.int ((0 : Int32)), .ref (gAd E (93))] rfl ?_
      refine G.eqs [.int (nI (0)), .ref (gAd E (93))] (by rw [show (0 : Int32) = nI 0 from rfl]) ?_
      refine G.laldN (93) (0) (by omega) (e93) (by decide) (by decide) (tbd tv_law_make rfl) ?_
      refine G.go tv_law_make 3 538 [(0, .ref (b)), (1, .ref (gAd E (0))), (2, .ref (gAd E (56))), (3, .ref (gAd E (93))), (4, .int (nI i)), (5, .int (k)), (6, .int (r))] [.int (lg_cmp ((o) (0)) ((r : Int32).toInt64))] rfl ?_
      refine G.if_eq 543 (tbd tv_law_make rfl) (by decide) (fun c538 => ?_) (fun c538 => absurd ((lg_cmp_eq _ _).mpr (eo)) c538)
      refine G.go tv_law_make 1 2804 [(0, .ref (b)), (1, .ref (gAd E (0))), (2, .ref (gAd E (56))), (3, .ref (gAd E (93))), (4, .int (nI i)), (5, .int (k)), (6, .int (r))] [] rfl ?_
      refine G.drop [0, 1, 2, 3, 4] rfl ?_
      exact kk _ hI
  · skip
    rw [show sB (xs (i + 1)) = 1 from if_neg c502] at hM
    refine G.go tv_law_make 2 510 [(0, .ref (b)), (1, .ref (gAd E (0))), (2, .ref (gAd E (56))), (3, .ref (gAd E (93))), (4, .int (nI i)), (5, .int (k))] [.int ((1 : Int32)), .ref (gAd E (56))] rfl ?_
    refine G.callVr 56 [.int ((1 : Int32))] [] hM cls_X12 (by omega) h56 cw_L_194 w_2475 w_2476 (Nat.le_trans (Nat.succ_le_succ hh) (Nat.le_of_ble_eq_true rfl)) (Nat.le_trans (Nat.mul_le_mul_left 64 (Nat.succ_le_succ hh)) (Nat.le_of_ble_eq_true rfl)) (by show (cu + 1) + 1 ≤ room_1.cells; omega) (by show (su + 6) + 6 ≤ room_1.slots; omega) rfl (Nat.le_of_ble_eq_true rfl) (tbd tv_law_make rfl) (fun v u q => ?_) (fun X u q => hno X u q)
    obtain ⟨r, R, rfl, rv, hk, ho, hI⟩ := hq v u q
    refine G.eqs [.int (r)] rfl ?_
    refine G.go tv_law_make 2 516 [(0, .ref (b)), (1, .ref (gAd E (0))), (2, .ref (gAd E (56))), (3, .ref (gAd E (93))), (4, .int (nI i)), (5, .int (k)), (6, .int (r))] [.ref (gAd E (56))] rfl ?_
    refine G.callVr 56 [] [] (c_X12_thrown E u R hE rv) cls_X12 (by omega) rv.o cw_L_181 w_2251 w_2252 (Nat.le_trans (Nat.succ_le_succ (show 1 ≤ 110 by decide)) (Nat.le_of_ble_eq_true rfl)) (Nat.le_trans (Nat.mul_le_mul_left 64 (Nat.succ_le_succ (show 1 ≤ 110 by decide))) (Nat.le_of_ble_eq_true rfl)) (by show (cu + 1) + 1 ≤ room_1.cells; omega) (by show (su + 6) + 6 ≤ room_1.slots; omega) rfl (Nat.le_of_ble_eq_true rfl) (tbd tv_law_make rfl) (fun v w q => ?_) (fun X w q => q)
    obtain ⟨rfl, rv2, fv2⟩ := q
    obtain rfl := RfV.uniq rv rv2 fv2
    refine G.eqs [.int (rS R 0)] rfl ?_
    refine G.go tv_law_make 1 521 [(0, .ref (b)), (1, .ref (gAd E (0))), (2, .ref (gAd E (56))), (3, .ref (gAd E (93))), (4, .int (nI i)), (5, .int (k)), (6, .int (r))] [.int (k), .int (rS R 0)] rfl ?_
    refine G.cmp_eq 526 (tbd tv_law_make rfl) (by decide) (fun c521 => ?_) (fun c521 => absurd (hk) c521)
    refine G.go tv_law_make 1 528 [(0, .ref (b)), (1, .ref (gAd E (0))), (2, .ref (gAd E (56))), (3, .ref (gAd E (93))), (4, .int (nI i)), (5, .int (k)), (6, .int (r))] [.int (k)] rfl ?_
    refine G.if_ne 543 (tbd tv_law_make rfl) (by decide) (fun c528 => ?_) (fun c528 => ?_)
    · skip
      refine G.go tv_law_make 1 2804 [(0, .ref (b)), (1, .ref (gAd E (0))), (2, .ref (gAd E (56))), (3, .ref (gAd E (93))), (4, .int (nI i)), (5, .int (k)), (6, .int (r))] [] rfl ?_
      refine G.drop [0, 1, 2, 3, 4] rfl ?_
      exact kk _ hI
    · skip
      obtain ⟨o, e93, eo⟩ := ho c528
      refine G.go tv_law_make 2 533 [(0, .ref (b)), (1, .ref (gAd E (0))), (2, .ref (gAd E (56))), (3, .ref (gAd E (93))), (4, .int (nI i)), (5, .int (k)), (6, .int (r))] [.int ((0 : Int32)), .ref (gAd E (93))] rfl ?_
      refine G.eqs [.int (nI (0)), .ref (gAd E (93))] (by rw [show (0 : Int32) = nI 0 from rfl]) ?_
      refine G.laldN (93) (0) (by omega) (e93) (by decide) (by decide) (tbd tv_law_make rfl) ?_
      refine G.go tv_law_make 3 538 [(0, .ref (b)), (1, .ref (gAd E (0))), (2, .ref (gAd E (56))), (3, .ref (gAd E (93))), (4, .int (nI i)), (5, .int (k)), (6, .int (r))] [.int (lg_cmp ((o) (0)) ((r : Int32).toInt64))] rfl ?_
      refine G.if_eq 543 (tbd tv_law_make rfl) (by decide) (fun c538 => ?_) (fun c538 => absurd ((lg_cmp_eq _ _).mpr (eo)) c538)
      refine G.go tv_law_make 1 2804 [(0, .ref (b)), (1, .ref (gAd E (0))), (2, .ref (gAd E (56))), (3, .ref (gAd E (93))), (4, .int (nI i)), (5, .int (k)), (6, .int (r))] [] rfl ?_
      refine G.drop [0, 1, 2, 3, 4] rfl ?_
      exact kk _ hI
theorem w_1334 : Cond.methodLink "LedgerFilesLaw" 191 yL_make ∈ TB := tp_5 228 (by decide +kernel) rfl
theorem w_1335 : Cond.static yL_make ∈ TB := tp_5 229 (by decide +kernel) rfl
theorem cwh_191 : CwH RL 191 yL_make cL_make 4 (some .int) [(0, 9, 12, 13), (0, 9, 15, 15)] 3 := ⟨w_1334, w_1336, w_146, by decide +kernel, by decide +kernel, by decide, w_1335⟩
set_option maxRecDepth 100000 in
set_option maxHeartbeats 4000000 in
theorem k_make (E : gE) (f : Nat → va_E) (hE : 94 ≤ gN E) (b L : Nat) (xs : Nat → Int32) (cu su h sz i : Nat) (hi : i + 5 < L) (hL2 : L < 2 ^ 31) (hcu : cu + 2 ≤ room_1.cells) (hsu : su + 12 ≤ room_1.slots) (Inv : (Nat → va_E) → Prop) (H : CsI E f yX11_make cX11_make 6 yX12_make cX12_make 8 [.int (sB (xs (i + 1)))] [xI, xU] Inv) (kk : ∀ g, Inv g → G E (lwK h sz) code (gL b L xs (cu + 1) (su + 6)) 2804 [(0, .ref (b)), (1, .ref (gAd E (0))), (2, .ref (gAd E (56))), (3, .ref (gAd E (93))), (4, .int (nI i))] [] g) : G E (lwK h sz) code (gL b L xs cu su) 474 [(0, .ref (b)), (1, .ref (gAd E (0))), (2, .ref (gAd E (56))), (3, .ref (gAd E (93))), (4, .int (nI i))] [] f := by
  obtain ⟨hc, Q, hM, hh, ⟨fs, h0⟩, hn, hx⟩ := H
  refine G.go tv_law_make 5 480 [(0, .ref (b)), (1, .ref (gAd E (0))), (2, .ref (gAd E (56))), (3, .ref (gAd E (93))), (4, .int (nI i))] [.int ((nI i) + ((1 : Int32))), .ref (b), .ref (gAd E (0))] rfl ?_
  refine G.eqs [.int (nI (i + 1)), .ref (b), .ref (gAd E (0))] (by rw [show (1 : Int32) = nI 1 from rfl, nI_add]) ?_
  refine G.sld lwY_S lwK_A (i + 1) (by omega) hL2 (tbd tv_law_make rfl) ?_
  refine G.if_eq 488 (tbd tv_law_make rfl) (by decide) (fun c481 => ?_) (fun c481 => ?_)
  · skip
    have hM : Ct E hc yX11_make cX11_make 6 (some .int) [.ref (gAd E 0), .int ((0 : Int32))] f Q := by have e := hM; rw [show sB (xs (i + 1)) = 0 from if_pos c481] at e; exact e
    refine G.go tv_law_make 2 490 [(0, .ref (b)), (1, .ref (gAd E (0))), (2, .ref (gAd E (56))), (3, .ref (gAd E (93))), (4, .int (nI i))] [.ref (gAd E (93)), .int ((0 : Int32)), .ref (gAd E (0))] rfl ?_
    refine G.callH [.ref (gAd E (0)), .int ((0 : Int32)), .ref (gAd E (93))] [] (h_L_make E f hE ((0 : Int32)) hM hh h0 (fun v g q => by obtain ⟨x, o, h1, h2, -⟩ := hn v g q; exact ⟨x, o, h1, h2⟩) (fun X g q => (xk2 (hx X g q)).elim (fun a => Or.inl a.1) (fun a => Or.inr a.1))) cwh_191 (Nat.le_of_ble_eq_true rfl) (Nat.le_of_ble_eq_true rfl) (by show cu + 1 ≤ room_1.cells; omega) (by show su + 6 ≤ room_1.slots; omega) rfl (Nat.le_of_ble_eq_true rfl) (tbd tv_law_make rfl) (fun v g q => ?_)
    rcases q with ⟨rfl, x, o, g0, q, e93, rfl⟩ | ⟨rfl, q⟩ | ⟨rfl, q⟩
    · refine G.eqs [.int 0] rfl ?_
      obtain ⟨x1, o1, e1, e2, hp⟩ := hn _ _ q
      cases e1
      obtain rfl := oJ_inj (e93.symm.trans e2)
      exact lt_make E _ hE b L xs cu su h sz i hi hL2 hcu hsu Inv 0 hp kk
    · refine G.eqs [.int 1] rfl ?_
      exact lt_make E _ hE b L xs cu su h sz i hi hL2 hcu hsu Inv 1 ((xk2 (hx _ _ q)).elim (fun a => a.2) (fun a => absurd a.1 (by decide))) kk
    · refine G.eqs [.int 2] rfl ?_
      exact lt_make E _ hE b L xs cu su h sz i hi hL2 hcu hsu Inv 2 ((xk2 (hx _ _ q)).elim (fun a => absurd a.1 (by decide)) (fun a => a.2)) kk
  · skip
    have hM : Ct E hc yX11_make cX11_make 6 (some .int) [.ref (gAd E 0), .int ((1 : Int32))] f Q := by have e := hM; rw [show sB (xs (i + 1)) = 1 from if_neg c481] at e; exact e
    refine G.go tv_law_make 3 490 [(0, .ref (b)), (1, .ref (gAd E (0))), (2, .ref (gAd E (56))), (3, .ref (gAd E (93))), (4, .int (nI i))] [.ref (gAd E (93)), .int ((1 : Int32)), .ref (gAd E (0))] rfl ?_
    refine G.callH [.ref (gAd E (0)), .int ((1 : Int32)), .ref (gAd E (93))] [] (h_L_make E f hE ((1 : Int32)) hM hh h0 (fun v g q => by obtain ⟨x, o, h1, h2, -⟩ := hn v g q; exact ⟨x, o, h1, h2⟩) (fun X g q => (xk2 (hx X g q)).elim (fun a => Or.inl a.1) (fun a => Or.inr a.1))) cwh_191 (Nat.le_of_ble_eq_true rfl) (Nat.le_of_ble_eq_true rfl) (by show cu + 1 ≤ room_1.cells; omega) (by show su + 6 ≤ room_1.slots; omega) rfl (Nat.le_of_ble_eq_true rfl) (tbd tv_law_make rfl) (fun v g q => ?_)
    rcases q with ⟨rfl, x, o, g0, q, e93, rfl⟩ | ⟨rfl, q⟩ | ⟨rfl, q⟩
    · refine G.eqs [.int 0] rfl ?_
      obtain ⟨x1, o1, e1, e2, hp⟩ := hn _ _ q
      cases e1
      obtain rfl := oJ_inj (e93.symm.trans e2)
      exact lt_make E _ hE b L xs cu su h sz i hi hL2 hcu hsu Inv 0 hp kk
    · refine G.eqs [.int 1] rfl ?_
      exact lt_make E _ hE b L xs cu su h sz i hi hL2 hcu hsu Inv 1 ((xk2 (hx _ _ q)).elim (fun a => a.2) (fun a => absurd a.1 (by decide))) kk
    · refine G.eqs [.int 2] rfl ?_
      exact lt_make E _ hE b L xs cu su h sz i hi hL2 hcu hsu Inv 2 ((xk2 (hx _ _ q)).elim (fun a => absurd a.1 (by decide)) (fun a => a.2)) kk
def tb_law_remove : List (Nat × Instr × Nat) := [(546, .aload_n 1, 1), (547, .aload_n 3, 1), (548, .invokestatic 195, 3), (551, .istore 5, 2), (553, .aload_n 2, 1), (554, .invokevirtual 197, 3), (557, .istore 6, 2), (559, .aload_n 2, 1), (560, .invokevirtual 181, 3), (563, .iload 5, 2), (565, .if_icmp .eq 5, 3), (568, .iconst 0, 1), (569, .ireturn, 1), (570, .iload 5, 2), (572, .ifCond .ne 15, 3), (575, .aload_n 3, 1), (576, .iconst 0, 1), (577, .laload, 1), (578, .iload 6, 2), (580, .i2l, 1), (581, .lcmp, 1), (582, .ifCond .eq 5, 3), (585, .iconst 0, 1), (586, .ireturn, 1), (587, .goto 2217, 3)]
theorem tv_law_remove : Tv code tb_law_remove := by
  unfold Tv
  decide +kernel
theorem w_2565 : Cond.methodLink "LedgerFilesLaw" 197 yX12_remove ∈ TB := tp_11 19 (by decide +kernel) rfl
theorem w_2568 : Cond.code yX12_remove prog_14_method_87_code 6 (some .int) ∈ TB := tp_11 22 rfl rfl
theorem cw_L_197 : Cw RL 197 yX12_remove cX12_remove 6 (some .int) 0 := ⟨w_2565, w_2568, w_161, by decide +kernel, by decide +kernel, by decide⟩
theorem w_2566 : Cond.instanceMethod yX12_remove ∈ TB := tp_11 20 (by decide +kernel) rfl
theorem w_2567 : Cond.selects "LedgerFilesModel" yX12_remove yX12_remove ∈ TB := tp_11 21 (by decide +kernel) rfl
set_option maxRecDepth 100000 in
set_option maxHeartbeats 4000000 in
theorem lt_remove (E : gE) (f : Nat → va_E) (hE : 94 ≤ gN E) (b L : Nat) (xs : Nat → Int32) (cu su h sz i : Nat) (hi : i + 5 < L) (hL2 : L < 2 ^ 31) (hcu : cu + 2 ≤ room_1.cells) (hsu : su + 12 ≤ room_1.slots) (Inv : (Nat → va_E) → Prop) (k : Int32) (H : PmI E yX12_remove cX12_remove 6 [] f k Inv) (kk : ∀ g, Inv g → G E (lwK h sz) code (gL b L xs (cu + 1) (su + 6)) 2804 [(0, .ref (b)), (1, .ref (gAd E (0))), (2, .ref (gAd E (56))), (3, .ref (gAd E (93))), (4, .int (nI i))] [] g) : G E (lwK h sz) code (gL b L xs (cu + 1) (su + 6)) 551 [(0, .ref (b)), (1, .ref (gAd E (0))), (2, .ref (gAd E (56))), (3, .ref (gAd E (93))), (4, .int (nI i))] [.int k] f := by
  obtain ⟨hc, Q, hM, hh, ⟨fs, h56⟩, hno, hq⟩ := H
  refine G.go tv_law_remove 2 554 [(0, .ref (b)), (1, .ref (gAd E (0))), (2, .ref (gAd E (56))), (3, .ref (gAd E (93))), (4, .int (nI i)), (5, .int (k))] [.ref (gAd E (56))] rfl ?_
  refine G.callVr 56 [] [] hM cls_X12 (by omega) h56 cw_L_197 w_2566 w_2567 (Nat.le_trans (Nat.succ_le_succ hh) (Nat.le_of_ble_eq_true rfl)) (Nat.le_trans (Nat.mul_le_mul_left 64 (Nat.succ_le_succ hh)) (Nat.le_of_ble_eq_true rfl)) (by show (cu + 1) + 1 ≤ room_1.cells; omega) (by show (su + 6) + 6 ≤ room_1.slots; omega) rfl (Nat.le_of_ble_eq_true rfl) (tbd tv_law_remove rfl) (fun v u q => ?_) (fun X u q => hno X u q)
  obtain ⟨r, R, rfl, rv, hk, ho, hI⟩ := hq v u q
  refine G.eqs [.int (r)] rfl ?_
  refine G.go tv_law_remove 2 560 [(0, .ref (b)), (1, .ref (gAd E (0))), (2, .ref (gAd E (56))), (3, .ref (gAd E (93))), (4, .int (nI i)), (5, .int (k)), (6, .int (r))] [.ref (gAd E (56))] rfl ?_
  refine G.callVr 56 [] [] (c_X12_thrown E u R hE rv) cls_X12 (by omega) rv.o cw_L_181 w_2251 w_2252 (Nat.le_trans (Nat.succ_le_succ (show 1 ≤ 110 by decide)) (Nat.le_of_ble_eq_true rfl)) (Nat.le_trans (Nat.mul_le_mul_left 64 (Nat.succ_le_succ (show 1 ≤ 110 by decide))) (Nat.le_of_ble_eq_true rfl)) (by show (cu + 1) + 1 ≤ room_1.cells; omega) (by show (su + 6) + 6 ≤ room_1.slots; omega) rfl (Nat.le_of_ble_eq_true rfl) (tbd tv_law_remove rfl) (fun v w q => ?_) (fun X w q => q)
  obtain ⟨rfl, rv2, fv2⟩ := q
  obtain rfl := RfV.uniq rv rv2 fv2
  refine G.eqs [.int (rS R 0)] rfl ?_
  refine G.go tv_law_remove 1 565 [(0, .ref (b)), (1, .ref (gAd E (0))), (2, .ref (gAd E (56))), (3, .ref (gAd E (93))), (4, .int (nI i)), (5, .int (k)), (6, .int (r))] [.int (k), .int (rS R 0)] rfl ?_
  refine G.cmp_eq 570 (tbd tv_law_remove rfl) (by decide) (fun c565 => ?_) (fun c565 => absurd (hk) c565)
  refine G.go tv_law_remove 1 572 [(0, .ref (b)), (1, .ref (gAd E (0))), (2, .ref (gAd E (56))), (3, .ref (gAd E (93))), (4, .int (nI i)), (5, .int (k)), (6, .int (r))] [.int (k)] rfl ?_
  refine G.if_ne 587 (tbd tv_law_remove rfl) (by decide) (fun c572 => ?_) (fun c572 => ?_)
  · skip
    refine G.go tv_law_remove 1 2804 [(0, .ref (b)), (1, .ref (gAd E (0))), (2, .ref (gAd E (56))), (3, .ref (gAd E (93))), (4, .int (nI i)), (5, .int (k)), (6, .int (r))] [] rfl ?_
    refine G.drop [0, 1, 2, 3, 4] rfl ?_
    exact kk _ hI
  · skip
    obtain ⟨o, e93, eo⟩ := ho c572
    refine G.go tv_law_remove 2 577 [(0, .ref (b)), (1, .ref (gAd E (0))), (2, .ref (gAd E (56))), (3, .ref (gAd E (93))), (4, .int (nI i)), (5, .int (k)), (6, .int (r))] [.int ((0 : Int32)), .ref (gAd E (93))] rfl ?_
    refine G.eqs [.int (nI (0)), .ref (gAd E (93))] (by rw [show (0 : Int32) = nI 0 from rfl]) ?_
    refine G.laldN (93) (0) (by omega) (e93) (by decide) (by decide) (tbd tv_law_remove rfl) ?_
    refine G.go tv_law_remove 3 582 [(0, .ref (b)), (1, .ref (gAd E (0))), (2, .ref (gAd E (56))), (3, .ref (gAd E (93))), (4, .int (nI i)), (5, .int (k)), (6, .int (r))] [.int (lg_cmp ((o) (0)) ((r : Int32).toInt64))] rfl ?_
    refine G.if_eq 587 (tbd tv_law_remove rfl) (by decide) (fun c582 => ?_) (fun c582 => absurd ((lg_cmp_eq _ _).mpr (eo)) c582)
    refine G.go tv_law_remove 1 2804 [(0, .ref (b)), (1, .ref (gAd E (0))), (2, .ref (gAd E (56))), (3, .ref (gAd E (93))), (4, .int (nI i)), (5, .int (k)), (6, .int (r))] [] rfl ?_
    refine G.drop [0, 1, 2, 3, 4] rfl ?_
    exact kk _ hI
theorem w_1465 : Cond.methodLink "LedgerFilesLaw" 195 yL_remove ∈ TB := tp_6 119 (by decide +kernel) rfl
theorem w_1466 : Cond.static yL_remove ∈ TB := tp_6 120 (by decide +kernel) rfl
theorem cwh_195 : CwH RL 195 yL_remove cL_remove 3 (some .int) [(0, 8, 11, 13), (0, 8, 14, 15)] 2 := ⟨w_1465, w_1467, w_146, by decide +kernel, by decide +kernel, by decide, w_1466⟩
set_option maxRecDepth 100000 in
set_option maxHeartbeats 4000000 in
theorem k_remove (E : gE) (f : Nat → va_E) (hE : 94 ≤ gN E) (b L : Nat) (xs : Nat → Int32) (cu su h sz i : Nat) (hi : i + 5 < L) (hL2 : L < 2 ^ 31) (hcu : cu + 2 ≤ room_1.cells) (hsu : su + 12 ≤ room_1.slots) (Inv : (Nat → va_E) → Prop) (H : CsI E f yX11_remove cX11_remove 4 yX12_remove cX12_remove 6 [] [xI, xU] Inv) (kk : ∀ g, Inv g → G E (lwK h sz) code (gL b L xs (cu + 1) (su + 6)) 2804 [(0, .ref (b)), (1, .ref (gAd E (0))), (2, .ref (gAd E (56))), (3, .ref (gAd E (93))), (4, .int (nI i))] [] g) : G E (lwK h sz) code (gL b L xs cu su) 546 [(0, .ref (b)), (1, .ref (gAd E (0))), (2, .ref (gAd E (56))), (3, .ref (gAd E (93))), (4, .int (nI i))] [] f := by
  obtain ⟨hc, Q, hM, hh, ⟨fs, h0⟩, hn, hx⟩ := H
  refine G.go tv_law_remove 2 548 [(0, .ref (b)), (1, .ref (gAd E (0))), (2, .ref (gAd E (56))), (3, .ref (gAd E (93))), (4, .int (nI i))] [.ref (gAd E (93)), .ref (gAd E (0))] rfl ?_
  refine G.callH [.ref (gAd E (0)), .ref (gAd E (93))] [] (h_L_remove E f hE  hM hh h0 (fun v g q => by obtain ⟨x, o, h1, h2, -⟩ := hn v g q; exact ⟨x, o, h1, h2⟩) (fun X g q => (xk2 (hx X g q)).elim (fun a => Or.inl a.1) (fun a => Or.inr a.1))) cwh_195 (Nat.le_of_ble_eq_true rfl) (Nat.le_of_ble_eq_true rfl) (by show cu + 1 ≤ room_1.cells; omega) (by show su + 6 ≤ room_1.slots; omega) rfl (Nat.le_of_ble_eq_true rfl) (tbd tv_law_remove rfl) (fun v g q => ?_)
  rcases q with ⟨rfl, x, o, g0, q, e93, rfl⟩ | ⟨rfl, q⟩ | ⟨rfl, q⟩
  · refine G.eqs [.int 0] rfl ?_
    obtain ⟨x1, o1, e1, e2, hp⟩ := hn _ _ q
    cases e1
    obtain rfl := oJ_inj (e93.symm.trans e2)
    exact lt_remove E _ hE b L xs cu su h sz i hi hL2 hcu hsu Inv 0 hp kk
  · refine G.eqs [.int 1] rfl ?_
    exact lt_remove E _ hE b L xs cu su h sz i hi hL2 hcu hsu Inv 1 ((xk2 (hx _ _ q)).elim (fun a => a.2) (fun a => absurd a.1 (by decide))) kk
  · refine G.eqs [.int 2] rfl ?_
    exact lt_remove E _ hE b L xs cu su h sz i hi hL2 hcu hsu Inv 2 ((xk2 (hx _ _ q)).elim (fun a => absurd a.1 (by decide)) (fun a => a.2)) kk
def tb_law_rename : List (Nat × Instr × Nat) := [(590, .aload_n 1, 1), (591, .aload_n 3, 1), (592, .invokestatic 198, 3), (595, .istore 5, 2), (597, .aload_n 2, 1), (598, .invokevirtual 200, 3), (601, .istore 6, 2), (603, .aload_n 2, 1), (604, .invokevirtual 181, 3), (607, .iload 5, 2), (609, .if_icmp .eq 5, 3), (612, .iconst 0, 1), (613, .ireturn, 1), (614, .iload 5, 2), (616, .ifCond .ne 15, 3), (619, .aload_n 3, 1), (620, .iconst 0, 1), (621, .laload, 1), (622, .iload 6, 2), (624, .i2l, 1), (625, .lcmp, 1), (626, .ifCond .eq 5, 3), (629, .iconst 0, 1), (630, .ireturn, 1), (631, .goto 2173, 3)]
theorem tv_law_rename : Tv code tb_law_rename := by
  unfold Tv
  decide +kernel
theorem w_2581 : Cond.methodLink "LedgerFilesLaw" 200 yX12_rename ∈ TB := tp_11 35 (by decide +kernel) rfl
theorem w_2584 : Cond.code yX12_rename prog_14_method_90_code 10 (some .int) ∈ TB := tp_11 38 rfl rfl
theorem cw_L_200 : Cw RL 200 yX12_rename cX12_rename 10 (some .int) 0 := ⟨w_2581, w_2584, w_161, by decide +kernel, by decide +kernel, by decide⟩
theorem w_2582 : Cond.instanceMethod yX12_rename ∈ TB := tp_11 36 (by decide +kernel) rfl
theorem w_2583 : Cond.selects "LedgerFilesModel" yX12_rename yX12_rename ∈ TB := tp_11 37 (by decide +kernel) rfl
set_option maxRecDepth 100000 in
set_option maxHeartbeats 4000000 in
theorem lt_rename (E : gE) (f : Nat → va_E) (hE : 94 ≤ gN E) (b L : Nat) (xs : Nat → Int32) (cu su h sz i : Nat) (hi : i + 5 < L) (hL2 : L < 2 ^ 31) (hcu : cu + 2 ≤ room_1.cells) (hsu : su + 12 ≤ room_1.slots) (Inv : (Nat → va_E) → Prop) (k : Int32) (H : PmI E yX12_rename cX12_rename 10 [] f k Inv) (kk : ∀ g, Inv g → G E (lwK h sz) code (gL b L xs (cu + 1) (su + 6)) 2804 [(0, .ref (b)), (1, .ref (gAd E (0))), (2, .ref (gAd E (56))), (3, .ref (gAd E (93))), (4, .int (nI i))] [] g) : G E (lwK h sz) code (gL b L xs (cu + 1) (su + 6)) 595 [(0, .ref (b)), (1, .ref (gAd E (0))), (2, .ref (gAd E (56))), (3, .ref (gAd E (93))), (4, .int (nI i))] [.int k] f := by
  obtain ⟨hc, Q, hM, hh, ⟨fs, h56⟩, hno, hq⟩ := H
  refine G.go tv_law_rename 2 598 [(0, .ref (b)), (1, .ref (gAd E (0))), (2, .ref (gAd E (56))), (3, .ref (gAd E (93))), (4, .int (nI i)), (5, .int (k))] [.ref (gAd E (56))] rfl ?_
  refine G.callVr 56 [] [] hM cls_X12 (by omega) h56 cw_L_200 w_2582 w_2583 (Nat.le_trans (Nat.succ_le_succ hh) (Nat.le_of_ble_eq_true rfl)) (Nat.le_trans (Nat.mul_le_mul_left 64 (Nat.succ_le_succ hh)) (Nat.le_of_ble_eq_true rfl)) (by show (cu + 1) + 1 ≤ room_1.cells; omega) (by show (su + 6) + 6 ≤ room_1.slots; omega) rfl (Nat.le_of_ble_eq_true rfl) (tbd tv_law_rename rfl) (fun v u q => ?_) (fun X u q => hno X u q)
  obtain ⟨r, R, rfl, rv, hk, ho, hI⟩ := hq v u q
  refine G.eqs [.int (r)] rfl ?_
  refine G.go tv_law_rename 2 604 [(0, .ref (b)), (1, .ref (gAd E (0))), (2, .ref (gAd E (56))), (3, .ref (gAd E (93))), (4, .int (nI i)), (5, .int (k)), (6, .int (r))] [.ref (gAd E (56))] rfl ?_
  refine G.callVr 56 [] [] (c_X12_thrown E u R hE rv) cls_X12 (by omega) rv.o cw_L_181 w_2251 w_2252 (Nat.le_trans (Nat.succ_le_succ (show 1 ≤ 110 by decide)) (Nat.le_of_ble_eq_true rfl)) (Nat.le_trans (Nat.mul_le_mul_left 64 (Nat.succ_le_succ (show 1 ≤ 110 by decide))) (Nat.le_of_ble_eq_true rfl)) (by show (cu + 1) + 1 ≤ room_1.cells; omega) (by show (su + 6) + 6 ≤ room_1.slots; omega) rfl (Nat.le_of_ble_eq_true rfl) (tbd tv_law_rename rfl) (fun v w q => ?_) (fun X w q => q)
  obtain ⟨rfl, rv2, fv2⟩ := q
  obtain rfl := RfV.uniq rv rv2 fv2
  refine G.eqs [.int (rS R 0)] rfl ?_
  refine G.go tv_law_rename 1 609 [(0, .ref (b)), (1, .ref (gAd E (0))), (2, .ref (gAd E (56))), (3, .ref (gAd E (93))), (4, .int (nI i)), (5, .int (k)), (6, .int (r))] [.int (k), .int (rS R 0)] rfl ?_
  refine G.cmp_eq 614 (tbd tv_law_rename rfl) (by decide) (fun c609 => ?_) (fun c609 => absurd (hk) c609)
  refine G.go tv_law_rename 1 616 [(0, .ref (b)), (1, .ref (gAd E (0))), (2, .ref (gAd E (56))), (3, .ref (gAd E (93))), (4, .int (nI i)), (5, .int (k)), (6, .int (r))] [.int (k)] rfl ?_
  refine G.if_ne 631 (tbd tv_law_rename rfl) (by decide) (fun c616 => ?_) (fun c616 => ?_)
  · skip
    refine G.go tv_law_rename 1 2804 [(0, .ref (b)), (1, .ref (gAd E (0))), (2, .ref (gAd E (56))), (3, .ref (gAd E (93))), (4, .int (nI i)), (5, .int (k)), (6, .int (r))] [] rfl ?_
    refine G.drop [0, 1, 2, 3, 4] rfl ?_
    exact kk _ hI
  · skip
    obtain ⟨o, e93, eo⟩ := ho c616
    refine G.go tv_law_rename 2 621 [(0, .ref (b)), (1, .ref (gAd E (0))), (2, .ref (gAd E (56))), (3, .ref (gAd E (93))), (4, .int (nI i)), (5, .int (k)), (6, .int (r))] [.int ((0 : Int32)), .ref (gAd E (93))] rfl ?_
    refine G.eqs [.int (nI (0)), .ref (gAd E (93))] (by rw [show (0 : Int32) = nI 0 from rfl]) ?_
    refine G.laldN (93) (0) (by omega) (e93) (by decide) (by decide) (tbd tv_law_rename rfl) ?_
    refine G.go tv_law_rename 3 626 [(0, .ref (b)), (1, .ref (gAd E (0))), (2, .ref (gAd E (56))), (3, .ref (gAd E (93))), (4, .int (nI i)), (5, .int (k)), (6, .int (r))] [.int (lg_cmp ((o) (0)) ((r : Int32).toInt64))] rfl ?_
    refine G.if_eq 631 (tbd tv_law_rename rfl) (by decide) (fun c626 => ?_) (fun c626 => absurd ((lg_cmp_eq _ _).mpr (eo)) c626)
    refine G.go tv_law_rename 1 2804 [(0, .ref (b)), (1, .ref (gAd E (0))), (2, .ref (gAd E (56))), (3, .ref (gAd E (93))), (4, .int (nI i)), (5, .int (k)), (6, .int (r))] [] rfl ?_
    refine G.drop [0, 1, 2, 3, 4] rfl ?_
    exact kk _ hI
theorem w_1491 : Cond.methodLink "LedgerFilesLaw" 198 yL_rename ∈ TB := tp_6 145 (by decide +kernel) rfl
theorem w_1492 : Cond.static yL_rename ∈ TB := tp_6 146 (by decide +kernel) rfl
theorem cwh_198 : CwH RL 198 yL_rename cL_rename 3 (some .int) [(0, 8, 11, 13), (0, 8, 14, 15)] 2 := ⟨w_1491, w_1493, w_146, by decide +kernel, by decide +kernel, by decide, w_1492⟩
set_option maxRecDepth 100000 in
set_option maxHeartbeats 4000000 in
theorem k_rename (E : gE) (f : Nat → va_E) (hE : 94 ≤ gN E) (b L : Nat) (xs : Nat → Int32) (cu su h sz i : Nat) (hi : i + 5 < L) (hL2 : L < 2 ^ 31) (hcu : cu + 2 ≤ room_1.cells) (hsu : su + 12 ≤ room_1.slots) (Inv : (Nat → va_E) → Prop) (H : CsI E f yX11_rename cX11_rename 9 yX12_rename cX12_rename 10 [] [xI, xU] Inv) (kk : ∀ g, Inv g → G E (lwK h sz) code (gL b L xs (cu + 1) (su + 6)) 2804 [(0, .ref (b)), (1, .ref (gAd E (0))), (2, .ref (gAd E (56))), (3, .ref (gAd E (93))), (4, .int (nI i))] [] g) : G E (lwK h sz) code (gL b L xs cu su) 590 [(0, .ref (b)), (1, .ref (gAd E (0))), (2, .ref (gAd E (56))), (3, .ref (gAd E (93))), (4, .int (nI i))] [] f := by
  obtain ⟨hc, Q, hM, hh, ⟨fs, h0⟩, hn, hx⟩ := H
  refine G.go tv_law_rename 2 592 [(0, .ref (b)), (1, .ref (gAd E (0))), (2, .ref (gAd E (56))), (3, .ref (gAd E (93))), (4, .int (nI i))] [.ref (gAd E (93)), .ref (gAd E (0))] rfl ?_
  refine G.callH [.ref (gAd E (0)), .ref (gAd E (93))] [] (h_L_rename E f hE  hM hh h0 (fun v g q => by obtain ⟨x, o, h1, h2, -⟩ := hn v g q; exact ⟨x, o, h1, h2⟩) (fun X g q => (xk2 (hx X g q)).elim (fun a => Or.inl a.1) (fun a => Or.inr a.1))) cwh_198 (Nat.le_of_ble_eq_true rfl) (Nat.le_of_ble_eq_true rfl) (by show cu + 1 ≤ room_1.cells; omega) (by show su + 6 ≤ room_1.slots; omega) rfl (Nat.le_of_ble_eq_true rfl) (tbd tv_law_rename rfl) (fun v g q => ?_)
  rcases q with ⟨rfl, x, o, g0, q, e93, rfl⟩ | ⟨rfl, q⟩ | ⟨rfl, q⟩
  · refine G.eqs [.int 0] rfl ?_
    obtain ⟨x1, o1, e1, e2, hp⟩ := hn _ _ q
    cases e1
    obtain rfl := oJ_inj (e93.symm.trans e2)
    exact lt_rename E _ hE b L xs cu su h sz i hi hL2 hcu hsu Inv 0 hp kk
  · refine G.eqs [.int 1] rfl ?_
    exact lt_rename E _ hE b L xs cu su h sz i hi hL2 hcu hsu Inv 1 ((xk2 (hx _ _ q)).elim (fun a => a.2) (fun a => absurd a.1 (by decide))) kk
  · refine G.eqs [.int 2] rfl ?_
    exact lt_rename E _ hE b L xs cu su h sz i hi hL2 hcu hsu Inv 2 ((xk2 (hx _ _ q)).elim (fun a => absurd a.1 (by decide)) (fun a => a.2)) kk
def tb_law_link : List (Nat × Instr × Nat) := [(634, .aload_n 1, 1), (635, .aload_n 3, 1), (636, .invokestatic 201, 3), (639, .istore 5, 2), (641, .aload_n 2, 1), (642, .invokevirtual 203, 3), (645, .istore 6, 2), (647, .aload_n 2, 1), (648, .invokevirtual 181, 3), (651, .iload 5, 2), (653, .if_icmp .eq 5, 3), (656, .iconst 0, 1), (657, .ireturn, 1), (658, .iload 5, 2), (660, .ifCond .ne 15, 3), (663, .aload_n 3, 1), (664, .iconst 0, 1), (665, .laload, 1), (666, .iload 6, 2), (668, .i2l, 1), (669, .lcmp, 1), (670, .ifCond .eq 5, 3), (673, .iconst 0, 1), (674, .ireturn, 1), (675, .goto 2129, 3)]
theorem tv_law_link : Tv code tb_law_link := by
  unfold Tv
  decide +kernel
theorem w_2593 : Cond.methodLink "LedgerFilesLaw" 203 yX12_link ∈ TB := tp_11 47 (by decide +kernel) rfl
theorem w_2596 : Cond.code yX12_link prog_14_method_91_code 6 (some .int) ∈ TB := tp_11 50 rfl rfl
theorem cw_L_203 : Cw RL 203 yX12_link cX12_link 6 (some .int) 0 := ⟨w_2593, w_2596, w_161, by decide +kernel, by decide +kernel, by decide⟩
theorem w_2594 : Cond.instanceMethod yX12_link ∈ TB := tp_11 48 (by decide +kernel) rfl
theorem w_2595 : Cond.selects "LedgerFilesModel" yX12_link yX12_link ∈ TB := tp_11 49 (by decide +kernel) rfl
set_option maxRecDepth 100000 in
set_option maxHeartbeats 4000000 in
theorem lt_link (E : gE) (f : Nat → va_E) (hE : 94 ≤ gN E) (b L : Nat) (xs : Nat → Int32) (cu su h sz i : Nat) (hi : i + 5 < L) (hL2 : L < 2 ^ 31) (hcu : cu + 2 ≤ room_1.cells) (hsu : su + 12 ≤ room_1.slots) (Inv : (Nat → va_E) → Prop) (k : Int32) (H : PmI E yX12_link cX12_link 6 [] f k Inv) (kk : ∀ g, Inv g → G E (lwK h sz) code (gL b L xs (cu + 1) (su + 6)) 2804 [(0, .ref (b)), (1, .ref (gAd E (0))), (2, .ref (gAd E (56))), (3, .ref (gAd E (93))), (4, .int (nI i))] [] g) : G E (lwK h sz) code (gL b L xs (cu + 1) (su + 6)) 639 [(0, .ref (b)), (1, .ref (gAd E (0))), (2, .ref (gAd E (56))), (3, .ref (gAd E (93))), (4, .int (nI i))] [.int k] f := by
  obtain ⟨hc, Q, hM, hh, ⟨fs, h56⟩, hno, hq⟩ := H
  refine G.go tv_law_link 2 642 [(0, .ref (b)), (1, .ref (gAd E (0))), (2, .ref (gAd E (56))), (3, .ref (gAd E (93))), (4, .int (nI i)), (5, .int (k))] [.ref (gAd E (56))] rfl ?_
  refine G.callVr 56 [] [] hM cls_X12 (by omega) h56 cw_L_203 w_2594 w_2595 (Nat.le_trans (Nat.succ_le_succ hh) (Nat.le_of_ble_eq_true rfl)) (Nat.le_trans (Nat.mul_le_mul_left 64 (Nat.succ_le_succ hh)) (Nat.le_of_ble_eq_true rfl)) (by show (cu + 1) + 1 ≤ room_1.cells; omega) (by show (su + 6) + 6 ≤ room_1.slots; omega) rfl (Nat.le_of_ble_eq_true rfl) (tbd tv_law_link rfl) (fun v u q => ?_) (fun X u q => hno X u q)
  obtain ⟨r, R, rfl, rv, hk, ho, hI⟩ := hq v u q
  refine G.eqs [.int (r)] rfl ?_
  refine G.go tv_law_link 2 648 [(0, .ref (b)), (1, .ref (gAd E (0))), (2, .ref (gAd E (56))), (3, .ref (gAd E (93))), (4, .int (nI i)), (5, .int (k)), (6, .int (r))] [.ref (gAd E (56))] rfl ?_
  refine G.callVr 56 [] [] (c_X12_thrown E u R hE rv) cls_X12 (by omega) rv.o cw_L_181 w_2251 w_2252 (Nat.le_trans (Nat.succ_le_succ (show 1 ≤ 110 by decide)) (Nat.le_of_ble_eq_true rfl)) (Nat.le_trans (Nat.mul_le_mul_left 64 (Nat.succ_le_succ (show 1 ≤ 110 by decide))) (Nat.le_of_ble_eq_true rfl)) (by show (cu + 1) + 1 ≤ room_1.cells; omega) (by show (su + 6) + 6 ≤ room_1.slots; omega) rfl (Nat.le_of_ble_eq_true rfl) (tbd tv_law_link rfl) (fun v w q => ?_) (fun X w q => q)
  obtain ⟨rfl, rv2, fv2⟩ := q
  obtain rfl := RfV.uniq rv rv2 fv2
  refine G.eqs [.int (rS R 0)] rfl ?_
  refine G.go tv_law_link 1 653 [(0, .ref (b)), (1, .ref (gAd E (0))), (2, .ref (gAd E (56))), (3, .ref (gAd E (93))), (4, .int (nI i)), (5, .int (k)), (6, .int (r))] [.int (k), .int (rS R 0)] rfl ?_
  refine G.cmp_eq 658 (tbd tv_law_link rfl) (by decide) (fun c653 => ?_) (fun c653 => absurd (hk) c653)
  refine G.go tv_law_link 1 660 [(0, .ref (b)), (1, .ref (gAd E (0))), (2, .ref (gAd E (56))), (3, .ref (gAd E (93))), (4, .int (nI i)), (5, .int (k)), (6, .int (r))] [.int (k)] rfl ?_
  refine G.if_ne 675 (tbd tv_law_link rfl) (by decide) (fun c660 => ?_) (fun c660 => ?_)
  · skip
    refine G.go tv_law_link 1 2804 [(0, .ref (b)), (1, .ref (gAd E (0))), (2, .ref (gAd E (56))), (3, .ref (gAd E (93))), (4, .int (nI i)), (5, .int (k)), (6, .int (r))] [] rfl ?_
    refine G.drop [0, 1, 2, 3, 4] rfl ?_
    exact kk _ hI
  · skip
    obtain ⟨o, e93, eo⟩ := ho c660
    refine G.go tv_law_link 2 665 [(0, .ref (b)), (1, .ref (gAd E (0))), (2, .ref (gAd E (56))), (3, .ref (gAd E (93))), (4, .int (nI i)), (5, .int (k)), (6, .int (r))] [.int ((0 : Int32)), .ref (gAd E (93))] rfl ?_
    refine G.eqs [.int (nI (0)), .ref (gAd E (93))] (by rw [show (0 : Int32) = nI 0 from rfl]) ?_
    refine G.laldN (93) (0) (by omega) (e93) (by decide) (by decide) (tbd tv_law_link rfl) ?_
    refine G.go tv_law_link 3 670 [(0, .ref (b)), (1, .ref (gAd E (0))), (2, .ref (gAd E (56))), (3, .ref (gAd E (93))), (4, .int (nI i)), (5, .int (k)), (6, .int (r))] [.int (lg_cmp ((o) (0)) ((r : Int32).toInt64))] rfl ?_
    refine G.if_eq 675 (tbd tv_law_link rfl) (by decide) (fun c670 => ?_) (fun c670 => absurd ((lg_cmp_eq _ _).mpr (eo)) c670)
    refine G.go tv_law_link 1 2804 [(0, .ref (b)), (1, .ref (gAd E (0))), (2, .ref (gAd E (56))), (3, .ref (gAd E (93))), (4, .int (nI i)), (5, .int (k)), (6, .int (r))] [] rfl ?_
    refine G.drop [0, 1, 2, 3, 4] rfl ?_
    exact kk _ hI
theorem w_1515 : Cond.methodLink "LedgerFilesLaw" 201 yL_link ∈ TB := tp_6 169 (by decide +kernel) rfl
theorem w_1516 : Cond.static yL_link ∈ TB := tp_6 170 (by decide +kernel) rfl
theorem cwh_201 : CwH RL 201 yL_link cL_link 3 (some .int) [(0, 8, 11, 13), (0, 8, 14, 15)] 2 := ⟨w_1515, w_1517, w_146, by decide +kernel, by decide +kernel, by decide, w_1516⟩
set_option maxRecDepth 100000 in
set_option maxHeartbeats 4000000 in
theorem k_link (E : gE) (f : Nat → va_E) (hE : 94 ≤ gN E) (b L : Nat) (xs : Nat → Int32) (cu su h sz i : Nat) (hi : i + 5 < L) (hL2 : L < 2 ^ 31) (hcu : cu + 2 ≤ room_1.cells) (hsu : su + 12 ≤ room_1.slots) (Inv : (Nat → va_E) → Prop) (H : CsI E f yX11_link cX11_link 5 yX12_link cX12_link 6 [] [xI, xU] Inv) (kk : ∀ g, Inv g → G E (lwK h sz) code (gL b L xs (cu + 1) (su + 6)) 2804 [(0, .ref (b)), (1, .ref (gAd E (0))), (2, .ref (gAd E (56))), (3, .ref (gAd E (93))), (4, .int (nI i))] [] g) : G E (lwK h sz) code (gL b L xs cu su) 634 [(0, .ref (b)), (1, .ref (gAd E (0))), (2, .ref (gAd E (56))), (3, .ref (gAd E (93))), (4, .int (nI i))] [] f := by
  obtain ⟨hc, Q, hM, hh, ⟨fs, h0⟩, hn, hx⟩ := H
  refine G.go tv_law_link 2 636 [(0, .ref (b)), (1, .ref (gAd E (0))), (2, .ref (gAd E (56))), (3, .ref (gAd E (93))), (4, .int (nI i))] [.ref (gAd E (93)), .ref (gAd E (0))] rfl ?_
  refine G.callH [.ref (gAd E (0)), .ref (gAd E (93))] [] (h_L_link E f hE  hM hh h0 (fun v g q => by obtain ⟨x, o, h1, h2, -⟩ := hn v g q; exact ⟨x, o, h1, h2⟩) (fun X g q => (xk2 (hx X g q)).elim (fun a => Or.inl a.1) (fun a => Or.inr a.1))) cwh_201 (Nat.le_of_ble_eq_true rfl) (Nat.le_of_ble_eq_true rfl) (by show cu + 1 ≤ room_1.cells; omega) (by show su + 6 ≤ room_1.slots; omega) rfl (Nat.le_of_ble_eq_true rfl) (tbd tv_law_link rfl) (fun v g q => ?_)
  rcases q with ⟨rfl, x, o, g0, q, e93, rfl⟩ | ⟨rfl, q⟩ | ⟨rfl, q⟩
  · refine G.eqs [.int 0] rfl ?_
    obtain ⟨x1, o1, e1, e2, hp⟩ := hn _ _ q
    cases e1
    obtain rfl := oJ_inj (e93.symm.trans e2)
    exact lt_link E _ hE b L xs cu su h sz i hi hL2 hcu hsu Inv 0 hp kk
  · refine G.eqs [.int 1] rfl ?_
    exact lt_link E _ hE b L xs cu su h sz i hi hL2 hcu hsu Inv 1 ((xk2 (hx _ _ q)).elim (fun a => a.2) (fun a => absurd a.1 (by decide))) kk
  · refine G.eqs [.int 2] rfl ?_
    exact lt_link E _ hE b L xs cu su h sz i hi hL2 hcu hsu Inv 2 ((xk2 (hx _ _ q)).elim (fun a => absurd a.1 (by decide)) (fun a => a.2)) kk
def tb_law_clear : List (Nat × Instr × Nat) := [(678, .aload_n 1, 1), (679, .aload_n 3, 1), (680, .invokestatic 204, 3), (683, .istore 5, 2), (685, .aload_n 2, 1), (686, .invokevirtual 206, 3), (689, .istore 6, 2), (691, .aload_n 2, 1), (692, .invokevirtual 181, 3), (695, .iload 5, 2), (697, .if_icmp .eq 5, 3), (700, .iconst 0, 1), (701, .ireturn, 1), (702, .iload 5, 2), (704, .ifCond .ne 15, 3), (707, .aload_n 3, 1), (708, .iconst 0, 1), (709, .laload, 1), (710, .iload 6, 2), (712, .i2l, 1), (713, .lcmp, 1), (714, .ifCond .eq 5, 3), (717, .iconst 0, 1), (718, .ireturn, 1), (719, .goto 2085, 3)]
theorem tv_law_clear : Tv code tb_law_clear := by
  unfold Tv
  decide +kernel
theorem w_2597 : Cond.methodLink "LedgerFilesLaw" 206 yX12_clear ∈ TB := tp_11 51 (by decide +kernel) rfl
theorem w_2600 : Cond.code yX12_clear prog_14_method_94_code 7 (some .int) ∈ TB := tp_11 54 rfl rfl
theorem cw_L_206 : Cw RL 206 yX12_clear cX12_clear 7 (some .int) 0 := ⟨w_2597, w_2600, w_161, by decide +kernel, by decide +kernel, by decide⟩
theorem w_2598 : Cond.instanceMethod yX12_clear ∈ TB := tp_11 52 (by decide +kernel) rfl
theorem w_2599 : Cond.selects "LedgerFilesModel" yX12_clear yX12_clear ∈ TB := tp_11 53 (by decide +kernel) rfl
set_option maxRecDepth 100000 in
set_option maxHeartbeats 4000000 in
theorem lt_clear (E : gE) (f : Nat → va_E) (hE : 94 ≤ gN E) (b L : Nat) (xs : Nat → Int32) (cu su h sz i : Nat) (hi : i + 5 < L) (hL2 : L < 2 ^ 31) (hcu : cu + 2 ≤ room_1.cells) (hsu : su + 12 ≤ room_1.slots) (Inv : (Nat → va_E) → Prop) (k : Int32) (H : PmI E yX12_clear cX12_clear 7 [] f k Inv) (kk : ∀ g, Inv g → G E (lwK h sz) code (gL b L xs (cu + 1) (su + 6)) 2804 [(0, .ref (b)), (1, .ref (gAd E (0))), (2, .ref (gAd E (56))), (3, .ref (gAd E (93))), (4, .int (nI i))] [] g) : G E (lwK h sz) code (gL b L xs (cu + 1) (su + 6)) 683 [(0, .ref (b)), (1, .ref (gAd E (0))), (2, .ref (gAd E (56))), (3, .ref (gAd E (93))), (4, .int (nI i))] [.int k] f := by
  obtain ⟨hc, Q, hM, hh, ⟨fs, h56⟩, hno, hq⟩ := H
  refine G.go tv_law_clear 2 686 [(0, .ref (b)), (1, .ref (gAd E (0))), (2, .ref (gAd E (56))), (3, .ref (gAd E (93))), (4, .int (nI i)), (5, .int (k))] [.ref (gAd E (56))] rfl ?_
  refine G.callVr 56 [] [] hM cls_X12 (by omega) h56 cw_L_206 w_2598 w_2599 (Nat.le_trans (Nat.succ_le_succ hh) (Nat.le_of_ble_eq_true rfl)) (Nat.le_trans (Nat.mul_le_mul_left 64 (Nat.succ_le_succ hh)) (Nat.le_of_ble_eq_true rfl)) (by show (cu + 1) + 1 ≤ room_1.cells; omega) (by show (su + 6) + 6 ≤ room_1.slots; omega) rfl (Nat.le_of_ble_eq_true rfl) (tbd tv_law_clear rfl) (fun v u q => ?_) (fun X u q => hno X u q)
  obtain ⟨r, R, rfl, rv, hk, ho, hI⟩ := hq v u q
  refine G.eqs [.int (r)] rfl ?_
  refine G.go tv_law_clear 2 692 [(0, .ref (b)), (1, .ref (gAd E (0))), (2, .ref (gAd E (56))), (3, .ref (gAd E (93))), (4, .int (nI i)), (5, .int (k)), (6, .int (r))] [.ref (gAd E (56))] rfl ?_
  refine G.callVr 56 [] [] (c_X12_thrown E u R hE rv) cls_X12 (by omega) rv.o cw_L_181 w_2251 w_2252 (Nat.le_trans (Nat.succ_le_succ (show 1 ≤ 110 by decide)) (Nat.le_of_ble_eq_true rfl)) (Nat.le_trans (Nat.mul_le_mul_left 64 (Nat.succ_le_succ (show 1 ≤ 110 by decide))) (Nat.le_of_ble_eq_true rfl)) (by show (cu + 1) + 1 ≤ room_1.cells; omega) (by show (su + 6) + 6 ≤ room_1.slots; omega) rfl (Nat.le_of_ble_eq_true rfl) (tbd tv_law_clear rfl) (fun v w q => ?_) (fun X w q => q)
  obtain ⟨rfl, rv2, fv2⟩ := q
  obtain rfl := RfV.uniq rv rv2 fv2
  refine G.eqs [.int (rS R 0)] rfl ?_
  refine G.go tv_law_clear 1 697 [(0, .ref (b)), (1, .ref (gAd E (0))), (2, .ref (gAd E (56))), (3, .ref (gAd E (93))), (4, .int (nI i)), (5, .int (k)), (6, .int (r))] [.int (k), .int (rS R 0)] rfl ?_
  refine G.cmp_eq 702 (tbd tv_law_clear rfl) (by decide) (fun c697 => ?_) (fun c697 => absurd (hk) c697)
  refine G.go tv_law_clear 1 704 [(0, .ref (b)), (1, .ref (gAd E (0))), (2, .ref (gAd E (56))), (3, .ref (gAd E (93))), (4, .int (nI i)), (5, .int (k)), (6, .int (r))] [.int (k)] rfl ?_
  refine G.if_ne 719 (tbd tv_law_clear rfl) (by decide) (fun c704 => ?_) (fun c704 => ?_)
  · skip
    refine G.go tv_law_clear 1 2804 [(0, .ref (b)), (1, .ref (gAd E (0))), (2, .ref (gAd E (56))), (3, .ref (gAd E (93))), (4, .int (nI i)), (5, .int (k)), (6, .int (r))] [] rfl ?_
    refine G.drop [0, 1, 2, 3, 4] rfl ?_
    exact kk _ hI
  · skip
    obtain ⟨o, e93, eo⟩ := ho c704
    refine G.go tv_law_clear 2 709 [(0, .ref (b)), (1, .ref (gAd E (0))), (2, .ref (gAd E (56))), (3, .ref (gAd E (93))), (4, .int (nI i)), (5, .int (k)), (6, .int (r))] [.int ((0 : Int32)), .ref (gAd E (93))] rfl ?_
    refine G.eqs [.int (nI (0)), .ref (gAd E (93))] (by rw [show (0 : Int32) = nI 0 from rfl]) ?_
    refine G.laldN (93) (0) (by omega) (e93) (by decide) (by decide) (tbd tv_law_clear rfl) ?_
    refine G.go tv_law_clear 3 714 [(0, .ref (b)), (1, .ref (gAd E (0))), (2, .ref (gAd E (56))), (3, .ref (gAd E (93))), (4, .int (nI i)), (5, .int (k)), (6, .int (r))] [.int (lg_cmp ((o) (0)) ((r : Int32).toInt64))] rfl ?_
    refine G.if_eq 719 (tbd tv_law_clear rfl) (by decide) (fun c714 => ?_) (fun c714 => absurd ((lg_cmp_eq _ _).mpr (eo)) c714)
    refine G.go tv_law_clear 1 2804 [(0, .ref (b)), (1, .ref (gAd E (0))), (2, .ref (gAd E (56))), (3, .ref (gAd E (93))), (4, .int (nI i)), (5, .int (k)), (6, .int (r))] [] rfl ?_
    refine G.drop [0, 1, 2, 3, 4] rfl ?_
    exact kk _ hI
theorem w_1528 : Cond.methodLink "LedgerFilesLaw" 204 yL_clear ∈ TB := tp_6 182 (by decide +kernel) rfl
theorem w_1529 : Cond.static yL_clear ∈ TB := tp_6 183 (by decide +kernel) rfl
theorem cwh_204 : CwH RL 204 yL_clear cL_clear 3 (some .int) [(0, 8, 11, 13), (0, 8, 14, 15)] 2 := ⟨w_1528, w_1530, w_146, by decide +kernel, by decide +kernel, by decide, w_1529⟩
set_option maxRecDepth 100000 in
set_option maxHeartbeats 4000000 in
theorem k_clear (E : gE) (f : Nat → va_E) (hE : 94 ≤ gN E) (b L : Nat) (xs : Nat → Int32) (cu su h sz i : Nat) (hi : i + 5 < L) (hL2 : L < 2 ^ 31) (hcu : cu + 2 ≤ room_1.cells) (hsu : su + 12 ≤ room_1.slots) (Inv : (Nat → va_E) → Prop) (H : CsI E f yX11_clear cX11_clear 8 yX12_clear cX12_clear 7 [] [xI, xU] Inv) (kk : ∀ g, Inv g → G E (lwK h sz) code (gL b L xs (cu + 1) (su + 6)) 2804 [(0, .ref (b)), (1, .ref (gAd E (0))), (2, .ref (gAd E (56))), (3, .ref (gAd E (93))), (4, .int (nI i))] [] g) : G E (lwK h sz) code (gL b L xs cu su) 678 [(0, .ref (b)), (1, .ref (gAd E (0))), (2, .ref (gAd E (56))), (3, .ref (gAd E (93))), (4, .int (nI i))] [] f := by
  obtain ⟨hc, Q, hM, hh, ⟨fs, h0⟩, hn, hx⟩ := H
  refine G.go tv_law_clear 2 680 [(0, .ref (b)), (1, .ref (gAd E (0))), (2, .ref (gAd E (56))), (3, .ref (gAd E (93))), (4, .int (nI i))] [.ref (gAd E (93)), .ref (gAd E (0))] rfl ?_
  refine G.callH [.ref (gAd E (0)), .ref (gAd E (93))] [] (h_L_clear E f hE  hM hh h0 (fun v g q => by obtain ⟨x, o, h1, h2, -⟩ := hn v g q; exact ⟨x, o, h1, h2⟩) (fun X g q => (xk2 (hx X g q)).elim (fun a => Or.inl a.1) (fun a => Or.inr a.1))) cwh_204 (Nat.le_of_ble_eq_true rfl) (Nat.le_of_ble_eq_true rfl) (by show cu + 1 ≤ room_1.cells; omega) (by show su + 6 ≤ room_1.slots; omega) rfl (Nat.le_of_ble_eq_true rfl) (tbd tv_law_clear rfl) (fun v g q => ?_)
  rcases q with ⟨rfl, x, o, g0, q, e93, rfl⟩ | ⟨rfl, q⟩ | ⟨rfl, q⟩
  · refine G.eqs [.int 0] rfl ?_
    obtain ⟨x1, o1, e1, e2, hp⟩ := hn _ _ q
    cases e1
    obtain rfl := oJ_inj (e93.symm.trans e2)
    exact lt_clear E _ hE b L xs cu su h sz i hi hL2 hcu hsu Inv 0 hp kk
  · refine G.eqs [.int 1] rfl ?_
    exact lt_clear E _ hE b L xs cu su h sz i hi hL2 hcu hsu Inv 1 ((xk2 (hx _ _ q)).elim (fun a => a.2) (fun a => absurd a.1 (by decide))) kk
  · refine G.eqs [.int 2] rfl ?_
    exact lt_clear E _ hE b L xs cu su h sz i hi hL2 hcu hsu Inv 2 ((xk2 (hx _ _ q)).elim (fun a => absurd a.1 (by decide)) (fun a => a.2)) kk
def tb_law_copy : List (Nat × Instr × Nat) := [(722, .aload_n 1, 1), (723, .aload_n 3, 1), (724, .invokestatic 207, 3), (727, .istore 5, 2), (729, .aload_n 2, 1), (730, .invokevirtual 209, 3), (733, .istore 6, 2), (735, .aload_n 2, 1), (736, .invokevirtual 181, 3), (739, .iload 5, 2), (741, .if_icmp .eq 5, 3), (744, .iconst 0, 1), (745, .ireturn, 1), (746, .iload 5, 2), (748, .ifCond .ne 15, 3), (751, .aload_n 3, 1), (752, .iconst 0, 1), (753, .laload, 1), (754, .iload 6, 2), (756, .i2l, 1), (757, .lcmp, 1), (758, .ifCond .eq 5, 3), (761, .iconst 0, 1), (762, .ireturn, 1), (763, .goto 2041, 3)]
theorem tv_law_copy : Tv code tb_law_copy := by
  unfold Tv
  decide +kernel
theorem w_2613 : Cond.methodLink "LedgerFilesLaw" 209 yX12_copy ∈ TB := tp_11 67 (by decide +kernel) rfl
theorem w_2616 : Cond.code yX12_copy prog_14_method_98_code 8 (some .int) ∈ TB := tp_11 70 rfl rfl
theorem cw_L_209 : Cw RL 209 yX12_copy cX12_copy 8 (some .int) 0 := ⟨w_2613, w_2616, w_161, by decide +kernel, by decide +kernel, by decide⟩
theorem w_2614 : Cond.instanceMethod yX12_copy ∈ TB := tp_11 68 (by decide +kernel) rfl
theorem w_2615 : Cond.selects "LedgerFilesModel" yX12_copy yX12_copy ∈ TB := tp_11 69 (by decide +kernel) rfl
set_option maxRecDepth 100000 in
set_option maxHeartbeats 4000000 in
theorem lt_copy (E : gE) (f : Nat → va_E) (hE : 94 ≤ gN E) (b L : Nat) (xs : Nat → Int32) (cu su h sz i : Nat) (hi : i + 5 < L) (hL2 : L < 2 ^ 31) (hcu : cu + 2 ≤ room_1.cells) (hsu : su + 12 ≤ room_1.slots) (Inv : (Nat → va_E) → Prop) (k : Int32) (H : PmI E yX12_copy cX12_copy 8 [] f k Inv) (kk : ∀ g, Inv g → G E (lwK h sz) code (gL b L xs (cu + 1) (su + 6)) 2804 [(0, .ref (b)), (1, .ref (gAd E (0))), (2, .ref (gAd E (56))), (3, .ref (gAd E (93))), (4, .int (nI i))] [] g) : G E (lwK h sz) code (gL b L xs (cu + 1) (su + 6)) 727 [(0, .ref (b)), (1, .ref (gAd E (0))), (2, .ref (gAd E (56))), (3, .ref (gAd E (93))), (4, .int (nI i))] [.int k] f := by
  obtain ⟨hc, Q, hM, hh, ⟨fs, h56⟩, hno, hq⟩ := H
  refine G.go tv_law_copy 2 730 [(0, .ref (b)), (1, .ref (gAd E (0))), (2, .ref (gAd E (56))), (3, .ref (gAd E (93))), (4, .int (nI i)), (5, .int (k))] [.ref (gAd E (56))] rfl ?_
  refine G.callVr 56 [] [] hM cls_X12 (by omega) h56 cw_L_209 w_2614 w_2615 (Nat.le_trans (Nat.succ_le_succ hh) (Nat.le_of_ble_eq_true rfl)) (Nat.le_trans (Nat.mul_le_mul_left 64 (Nat.succ_le_succ hh)) (Nat.le_of_ble_eq_true rfl)) (by show (cu + 1) + 1 ≤ room_1.cells; omega) (by show (su + 6) + 6 ≤ room_1.slots; omega) rfl (Nat.le_of_ble_eq_true rfl) (tbd tv_law_copy rfl) (fun v u q => ?_) (fun X u q => hno X u q)
  obtain ⟨r, R, rfl, rv, hk, ho, hI⟩ := hq v u q
  refine G.eqs [.int (r)] rfl ?_
  refine G.go tv_law_copy 2 736 [(0, .ref (b)), (1, .ref (gAd E (0))), (2, .ref (gAd E (56))), (3, .ref (gAd E (93))), (4, .int (nI i)), (5, .int (k)), (6, .int (r))] [.ref (gAd E (56))] rfl ?_
  refine G.callVr 56 [] [] (c_X12_thrown E u R hE rv) cls_X12 (by omega) rv.o cw_L_181 w_2251 w_2252 (Nat.le_trans (Nat.succ_le_succ (show 1 ≤ 110 by decide)) (Nat.le_of_ble_eq_true rfl)) (Nat.le_trans (Nat.mul_le_mul_left 64 (Nat.succ_le_succ (show 1 ≤ 110 by decide))) (Nat.le_of_ble_eq_true rfl)) (by show (cu + 1) + 1 ≤ room_1.cells; omega) (by show (su + 6) + 6 ≤ room_1.slots; omega) rfl (Nat.le_of_ble_eq_true rfl) (tbd tv_law_copy rfl) (fun v w q => ?_) (fun X w q => q)
  obtain ⟨rfl, rv2, fv2⟩ := q
  obtain rfl := RfV.uniq rv rv2 fv2
  refine G.eqs [.int (rS R 0)] rfl ?_
  refine G.go tv_law_copy 1 741 [(0, .ref (b)), (1, .ref (gAd E (0))), (2, .ref (gAd E (56))), (3, .ref (gAd E (93))), (4, .int (nI i)), (5, .int (k)), (6, .int (r))] [.int (k), .int (rS R 0)] rfl ?_
  refine G.cmp_eq 746 (tbd tv_law_copy rfl) (by decide) (fun c741 => ?_) (fun c741 => absurd (hk) c741)
  refine G.go tv_law_copy 1 748 [(0, .ref (b)), (1, .ref (gAd E (0))), (2, .ref (gAd E (56))), (3, .ref (gAd E (93))), (4, .int (nI i)), (5, .int (k)), (6, .int (r))] [.int (k)] rfl ?_
  refine G.if_ne 763 (tbd tv_law_copy rfl) (by decide) (fun c748 => ?_) (fun c748 => ?_)
  · skip
    refine G.go tv_law_copy 1 2804 [(0, .ref (b)), (1, .ref (gAd E (0))), (2, .ref (gAd E (56))), (3, .ref (gAd E (93))), (4, .int (nI i)), (5, .int (k)), (6, .int (r))] [] rfl ?_
    refine G.drop [0, 1, 2, 3, 4] rfl ?_
    exact kk _ hI
  · skip
    obtain ⟨o, e93, eo⟩ := ho c748
    refine G.go tv_law_copy 2 753 [(0, .ref (b)), (1, .ref (gAd E (0))), (2, .ref (gAd E (56))), (3, .ref (gAd E (93))), (4, .int (nI i)), (5, .int (k)), (6, .int (r))] [.int ((0 : Int32)), .ref (gAd E (93))] rfl ?_
    refine G.eqs [.int (nI (0)), .ref (gAd E (93))] (by rw [show (0 : Int32) = nI 0 from rfl]) ?_
    refine G.laldN (93) (0) (by omega) (e93) (by decide) (by decide) (tbd tv_law_copy rfl) ?_
    refine G.go tv_law_copy 3 758 [(0, .ref (b)), (1, .ref (gAd E (0))), (2, .ref (gAd E (56))), (3, .ref (gAd E (93))), (4, .int (nI i)), (5, .int (k)), (6, .int (r))] [.int (lg_cmp ((o) (0)) ((r : Int32).toInt64))] rfl ?_
    refine G.if_eq 763 (tbd tv_law_copy rfl) (by decide) (fun c758 => ?_) (fun c758 => absurd ((lg_cmp_eq _ _).mpr (eo)) c758)
    refine G.go tv_law_copy 1 2804 [(0, .ref (b)), (1, .ref (gAd E (0))), (2, .ref (gAd E (56))), (3, .ref (gAd E (93))), (4, .int (nI i)), (5, .int (k)), (6, .int (r))] [] rfl ?_
    refine G.drop [0, 1, 2, 3, 4] rfl ?_
    exact kk _ hI
theorem w_1538 : Cond.methodLink "LedgerFilesLaw" 207 yL_copy ∈ TB := tp_6 192 (by decide +kernel) rfl
theorem w_1539 : Cond.static yL_copy ∈ TB := tp_6 193 (by decide +kernel) rfl
theorem cwh_207 : CwH RL 207 yL_copy cL_copy 3 (some .int) [(0, 8, 11, 13), (0, 8, 14, 15)] 2 := ⟨w_1538, w_1540, w_146, by decide +kernel, by decide +kernel, by decide, w_1539⟩
set_option maxRecDepth 100000 in
set_option maxHeartbeats 4000000 in
theorem k_copy (E : gE) (f : Nat → va_E) (hE : 94 ≤ gN E) (b L : Nat) (xs : Nat → Int32) (cu su h sz i : Nat) (hi : i + 5 < L) (hL2 : L < 2 ^ 31) (hcu : cu + 2 ≤ room_1.cells) (hsu : su + 12 ≤ room_1.slots) (Inv : (Nat → va_E) → Prop) (H : CsI E f yX11_copy cX11_copy 6 yX12_copy cX12_copy 8 [] [xI, xU] Inv) (kk : ∀ g, Inv g → G E (lwK h sz) code (gL b L xs (cu + 1) (su + 6)) 2804 [(0, .ref (b)), (1, .ref (gAd E (0))), (2, .ref (gAd E (56))), (3, .ref (gAd E (93))), (4, .int (nI i))] [] g) : G E (lwK h sz) code (gL b L xs cu su) 722 [(0, .ref (b)), (1, .ref (gAd E (0))), (2, .ref (gAd E (56))), (3, .ref (gAd E (93))), (4, .int (nI i))] [] f := by
  obtain ⟨hc, Q, hM, hh, ⟨fs, h0⟩, hn, hx⟩ := H
  refine G.go tv_law_copy 2 724 [(0, .ref (b)), (1, .ref (gAd E (0))), (2, .ref (gAd E (56))), (3, .ref (gAd E (93))), (4, .int (nI i))] [.ref (gAd E (93)), .ref (gAd E (0))] rfl ?_
  refine G.callH [.ref (gAd E (0)), .ref (gAd E (93))] [] (h_L_copy E f hE  hM hh h0 (fun v g q => by obtain ⟨x, o, h1, h2, -⟩ := hn v g q; exact ⟨x, o, h1, h2⟩) (fun X g q => (xk2 (hx X g q)).elim (fun a => Or.inl a.1) (fun a => Or.inr a.1))) cwh_207 (Nat.le_of_ble_eq_true rfl) (Nat.le_of_ble_eq_true rfl) (by show cu + 1 ≤ room_1.cells; omega) (by show su + 6 ≤ room_1.slots; omega) rfl (Nat.le_of_ble_eq_true rfl) (tbd tv_law_copy rfl) (fun v g q => ?_)
  rcases q with ⟨rfl, x, o, g0, q, e93, rfl⟩ | ⟨rfl, q⟩ | ⟨rfl, q⟩
  · refine G.eqs [.int 0] rfl ?_
    obtain ⟨x1, o1, e1, e2, hp⟩ := hn _ _ q
    cases e1
    obtain rfl := oJ_inj (e93.symm.trans e2)
    exact lt_copy E _ hE b L xs cu su h sz i hi hL2 hcu hsu Inv 0 hp kk
  · refine G.eqs [.int 1] rfl ?_
    exact lt_copy E _ hE b L xs cu su h sz i hi hL2 hcu hsu Inv 1 ((xk2 (hx _ _ q)).elim (fun a => a.2) (fun a => absurd a.1 (by decide))) kk
  · refine G.eqs [.int 2] rfl ?_
    exact lt_copy E _ hE b L xs cu su h sz i hi hL2 hcu hsu Inv 2 ((xk2 (hx _ _ q)).elim (fun a => absurd a.1 (by decide)) (fun a => a.2)) kk
def tb_law_find : List (Nat × Instr × Nat) := [(766, .aload_n 1, 1), (767, .aload_n 3, 1), (768, .invokestatic 210, 3), (771, .istore 5, 2), (773, .aload_n 2, 1), (774, .invokevirtual 212, 3), (777, .istore 6, 2), (779, .aload_n 2, 1), (780, .invokevirtual 181, 3), (783, .iload 5, 2), (785, .if_icmp .eq 5, 3), (788, .iconst 0, 1), (789, .ireturn, 1), (790, .iload 5, 2), (792, .ifCond .ne 15, 3), (795, .aload_n 3, 1), (796, .iconst 0, 1), (797, .laload, 1), (798, .iload 6, 2), (800, .i2l, 1), (801, .lcmp, 1), (802, .ifCond .eq 5, 3), (805, .iconst 0, 1), (806, .ireturn, 1), (807, .goto 1997, 3)]
theorem tv_law_find : Tv code tb_law_find := by
  unfold Tv
  decide +kernel
theorem w_2633 : Cond.methodLink "LedgerFilesLaw" 212 yX12_find ∈ TB := tp_11 87 (by decide +kernel) rfl
theorem w_2636 : Cond.code yX12_find prog_14_method_100_code 3 (some .int) ∈ TB := tp_11 90 rfl rfl
theorem cw_L_212 : Cw RL 212 yX12_find cX12_find 3 (some .int) 0 := ⟨w_2633, w_2636, w_161, by decide +kernel, by decide +kernel, by decide⟩
theorem w_2634 : Cond.instanceMethod yX12_find ∈ TB := tp_11 88 (by decide +kernel) rfl
theorem w_2635 : Cond.selects "LedgerFilesModel" yX12_find yX12_find ∈ TB := tp_11 89 (by decide +kernel) rfl
set_option maxRecDepth 100000 in
set_option maxHeartbeats 4000000 in
theorem lt_find (E : gE) (f : Nat → va_E) (hE : 94 ≤ gN E) (b L : Nat) (xs : Nat → Int32) (cu su h sz i : Nat) (hi : i + 5 < L) (hL2 : L < 2 ^ 31) (hcu : cu + 2 ≤ room_1.cells) (hsu : su + 12 ≤ room_1.slots) (Inv : (Nat → va_E) → Prop) (k : Int32) (H : PmI E yX12_find cX12_find 3 [] f k Inv) (kk : ∀ g, Inv g → G E (lwK h sz) code (gL b L xs (cu + 1) (su + 6)) 2804 [(0, .ref (b)), (1, .ref (gAd E (0))), (2, .ref (gAd E (56))), (3, .ref (gAd E (93))), (4, .int (nI i))] [] g) : G E (lwK h sz) code (gL b L xs (cu + 1) (su + 6)) 771 [(0, .ref (b)), (1, .ref (gAd E (0))), (2, .ref (gAd E (56))), (3, .ref (gAd E (93))), (4, .int (nI i))] [.int k] f := by
  obtain ⟨hc, Q, hM, hh, ⟨fs, h56⟩, hno, hq⟩ := H
  refine G.go tv_law_find 2 774 [(0, .ref (b)), (1, .ref (gAd E (0))), (2, .ref (gAd E (56))), (3, .ref (gAd E (93))), (4, .int (nI i)), (5, .int (k))] [.ref (gAd E (56))] rfl ?_
  refine G.callVr 56 [] [] hM cls_X12 (by omega) h56 cw_L_212 w_2634 w_2635 (Nat.le_trans (Nat.succ_le_succ hh) (Nat.le_of_ble_eq_true rfl)) (Nat.le_trans (Nat.mul_le_mul_left 64 (Nat.succ_le_succ hh)) (Nat.le_of_ble_eq_true rfl)) (by show (cu + 1) + 1 ≤ room_1.cells; omega) (by show (su + 6) + 6 ≤ room_1.slots; omega) rfl (Nat.le_of_ble_eq_true rfl) (tbd tv_law_find rfl) (fun v u q => ?_) (fun X u q => hno X u q)
  obtain ⟨r, R, rfl, rv, hk, ho, hI⟩ := hq v u q
  refine G.eqs [.int (r)] rfl ?_
  refine G.go tv_law_find 2 780 [(0, .ref (b)), (1, .ref (gAd E (0))), (2, .ref (gAd E (56))), (3, .ref (gAd E (93))), (4, .int (nI i)), (5, .int (k)), (6, .int (r))] [.ref (gAd E (56))] rfl ?_
  refine G.callVr 56 [] [] (c_X12_thrown E u R hE rv) cls_X12 (by omega) rv.o cw_L_181 w_2251 w_2252 (Nat.le_trans (Nat.succ_le_succ (show 1 ≤ 110 by decide)) (Nat.le_of_ble_eq_true rfl)) (Nat.le_trans (Nat.mul_le_mul_left 64 (Nat.succ_le_succ (show 1 ≤ 110 by decide))) (Nat.le_of_ble_eq_true rfl)) (by show (cu + 1) + 1 ≤ room_1.cells; omega) (by show (su + 6) + 6 ≤ room_1.slots; omega) rfl (Nat.le_of_ble_eq_true rfl) (tbd tv_law_find rfl) (fun v w q => ?_) (fun X w q => q)
  obtain ⟨rfl, rv2, fv2⟩ := q
  obtain rfl := RfV.uniq rv rv2 fv2
  refine G.eqs [.int (rS R 0)] rfl ?_
  refine G.go tv_law_find 1 785 [(0, .ref (b)), (1, .ref (gAd E (0))), (2, .ref (gAd E (56))), (3, .ref (gAd E (93))), (4, .int (nI i)), (5, .int (k)), (6, .int (r))] [.int (k), .int (rS R 0)] rfl ?_
  refine G.cmp_eq 790 (tbd tv_law_find rfl) (by decide) (fun c785 => ?_) (fun c785 => absurd (hk) c785)
  refine G.go tv_law_find 1 792 [(0, .ref (b)), (1, .ref (gAd E (0))), (2, .ref (gAd E (56))), (3, .ref (gAd E (93))), (4, .int (nI i)), (5, .int (k)), (6, .int (r))] [.int (k)] rfl ?_
  refine G.if_ne 807 (tbd tv_law_find rfl) (by decide) (fun c792 => ?_) (fun c792 => ?_)
  · skip
    refine G.go tv_law_find 1 2804 [(0, .ref (b)), (1, .ref (gAd E (0))), (2, .ref (gAd E (56))), (3, .ref (gAd E (93))), (4, .int (nI i)), (5, .int (k)), (6, .int (r))] [] rfl ?_
    refine G.drop [0, 1, 2, 3, 4] rfl ?_
    exact kk _ hI
  · skip
    obtain ⟨o, e93, eo⟩ := ho c792
    refine G.go tv_law_find 2 797 [(0, .ref (b)), (1, .ref (gAd E (0))), (2, .ref (gAd E (56))), (3, .ref (gAd E (93))), (4, .int (nI i)), (5, .int (k)), (6, .int (r))] [.int ((0 : Int32)), .ref (gAd E (93))] rfl ?_
    refine G.eqs [.int (nI (0)), .ref (gAd E (93))] (by rw [show (0 : Int32) = nI 0 from rfl]) ?_
    refine G.laldN (93) (0) (by omega) (e93) (by decide) (by decide) (tbd tv_law_find rfl) ?_
    refine G.go tv_law_find 3 802 [(0, .ref (b)), (1, .ref (gAd E (0))), (2, .ref (gAd E (56))), (3, .ref (gAd E (93))), (4, .int (nI i)), (5, .int (k)), (6, .int (r))] [.int (lg_cmp ((o) (0)) ((r : Int32).toInt64))] rfl ?_
    refine G.if_eq 807 (tbd tv_law_find rfl) (by decide) (fun c802 => ?_) (fun c802 => absurd ((lg_cmp_eq _ _).mpr (eo)) c802)
    refine G.go tv_law_find 1 2804 [(0, .ref (b)), (1, .ref (gAd E (0))), (2, .ref (gAd E (56))), (3, .ref (gAd E (93))), (4, .int (nI i)), (5, .int (k)), (6, .int (r))] [] rfl ?_
    refine G.drop [0, 1, 2, 3, 4] rfl ?_
    exact kk _ hI
theorem w_1587 : Cond.methodLink "LedgerFilesLaw" 210 yL_find ∈ TB := tp_7 1 (by decide +kernel) rfl
theorem w_1588 : Cond.static yL_find ∈ TB := tp_7 2 (by decide +kernel) rfl
theorem cwh_210 : CwH RL 210 yL_find cL_find 3 (some .int) [(0, 8, 11, 13)] 2 := ⟨w_1587, w_1589, w_146, by decide +kernel, by decide +kernel, by decide, w_1588⟩
set_option maxRecDepth 100000 in
set_option maxHeartbeats 4000000 in
theorem k_find (E : gE) (f : Nat → va_E) (hE : 94 ≤ gN E) (b L : Nat) (xs : Nat → Int32) (cu su h sz i : Nat) (hi : i + 5 < L) (hL2 : L < 2 ^ 31) (hcu : cu + 2 ≤ room_1.cells) (hsu : su + 12 ≤ room_1.slots) (Inv : (Nat → va_E) → Prop) (H : CsI E f yX11_find cX11_find 2 yX12_find cX12_find 3 [] [xI] Inv) (kk : ∀ g, Inv g → G E (lwK h sz) code (gL b L xs (cu + 1) (su + 6)) 2804 [(0, .ref (b)), (1, .ref (gAd E (0))), (2, .ref (gAd E (56))), (3, .ref (gAd E (93))), (4, .int (nI i))] [] g) : G E (lwK h sz) code (gL b L xs cu su) 766 [(0, .ref (b)), (1, .ref (gAd E (0))), (2, .ref (gAd E (56))), (3, .ref (gAd E (93))), (4, .int (nI i))] [] f := by
  obtain ⟨hc, Q, hM, hh, ⟨fs, h0⟩, hn, hx⟩ := H
  refine G.go tv_law_find 2 768 [(0, .ref (b)), (1, .ref (gAd E (0))), (2, .ref (gAd E (56))), (3, .ref (gAd E (93))), (4, .int (nI i))] [.ref (gAd E (93)), .ref (gAd E (0))] rfl ?_
  refine G.callH [.ref (gAd E (0)), .ref (gAd E (93))] [] (h_L_find E f hE  hM hh h0 (fun v g q => by obtain ⟨x, o, h1, h2, -⟩ := hn v g q; exact ⟨x, o, h1, h2⟩) (fun X g q => (xk1 (hx X g q)).1)) cwh_210 (Nat.le_of_ble_eq_true rfl) (Nat.le_of_ble_eq_true rfl) (by show cu + 1 ≤ room_1.cells; omega) (by show su + 6 ≤ room_1.slots; omega) rfl (Nat.le_of_ble_eq_true rfl) (tbd tv_law_find rfl) (fun v g q => ?_)
  rcases q with ⟨rfl, x, o, g0, q, e93, rfl⟩ | ⟨rfl, q⟩
  · refine G.eqs [.int 0] rfl ?_
    obtain ⟨x1, o1, e1, e2, hp⟩ := hn _ _ q
    cases e1
    obtain rfl := oJ_inj (e93.symm.trans e2)
    exact lt_find E _ hE b L xs cu su h sz i hi hL2 hcu hsu Inv 0 hp kk
  · refine G.eqs [.int 1] rfl ?_
    exact lt_find E _ hE b L xs cu su h sz i hi hL2 hcu hsu Inv 1 (xk1 (hx _ _ q)).2 kk
def tb_law_write : List (Nat × Instr × Nat) := [(810, .aload_n 1, 1), (811, .aload_n 0, 1), (812, .iload 4, 2), (814, .iconst 1, 1), (815, .iadd, 1), (816, .iaload, 1), (817, .aload_n 0, 1), (818, .iload 4, 2), (820, .iconst 2, 1), (821, .iadd, 1), (822, .iaload, 1), (823, .aload_n 3, 1), (824, .invokestatic 213, 3), (827, .istore 5, 2), (829, .aload_n 2, 1), (830, .aload_n 0, 1), (831, .iload 4, 2), (833, .iconst 1, 1), (834, .iadd, 1), (835, .iaload, 1), (836, .aload_n 0, 1), (837, .iload 4, 2), (839, .iconst 2, 1), (840, .iadd, 1), (841, .iaload, 1), (842, .invokevirtual 216, 3), (845, .istore 6, 2), (847, .aload_n 2, 1), (848, .invokevirtual 181, 3), (851, .iload 5, 2), (853, .if_icmp .eq 5, 3), (856, .iconst 0, 1), (857, .ireturn, 1), (858, .iload 5, 2), (860, .ifCond .ne 15, 3), (863, .aload_n 3, 1), (864, .iconst 0, 1), (865, .laload, 1), (866, .iload 6, 2), (868, .i2l, 1), (869, .lcmp, 1), (870, .ifCond .eq 5, 3), (873, .iconst 0, 1), (874, .ireturn, 1), (875, .goto 1929, 3)]
theorem tv_law_write : Tv code tb_law_write := by
  unfold Tv
  decide +kernel
theorem w_2637 : Cond.methodLink "LedgerFilesLaw" 216 yX12_write ∈ TB := tp_11 91 (by decide +kernel) rfl
theorem w_2640 : Cond.code yX12_write prog_14_method_102_code 5 (some .int) ∈ TB := tp_11 94 rfl rfl
theorem cw_L_216 : Cw RL 216 yX12_write cX12_write 5 (some .int) 2 := ⟨w_2637, w_2640, w_161, by decide +kernel, by decide +kernel, by decide⟩
theorem w_2638 : Cond.instanceMethod yX12_write ∈ TB := tp_11 92 (by decide +kernel) rfl
theorem w_2639 : Cond.selects "LedgerFilesModel" yX12_write yX12_write ∈ TB := tp_11 93 (by decide +kernel) rfl
set_option maxRecDepth 100000 in
set_option maxHeartbeats 4000000 in
theorem lt_write (E : gE) (f : Nat → va_E) (hE : 94 ≤ gN E) (b L : Nat) (xs : Nat → Int32) (cu su h sz i : Nat) (hi : i + 5 < L) (hL2 : L < 2 ^ 31) (hcu : cu + 2 ≤ room_1.cells) (hsu : su + 12 ≤ room_1.slots) (Inv : (Nat → va_E) → Prop) (k : Int32) (H : PmI E yX12_write cX12_write 5 [.int (xs (i + 1)), .int (xs (i + 2))] f k Inv) (kk : ∀ g, Inv g → G E (lwK h sz) code (gL b L xs (cu + 1) (su + 6)) 2804 [(0, .ref (b)), (1, .ref (gAd E (0))), (2, .ref (gAd E (56))), (3, .ref (gAd E (93))), (4, .int (nI i))] [] g) : G E (lwK h sz) code (gL b L xs (cu + 1) (su + 6)) 827 [(0, .ref (b)), (1, .ref (gAd E (0))), (2, .ref (gAd E (56))), (3, .ref (gAd E (93))), (4, .int (nI i))] [.int k] f := by
  obtain ⟨hc, Q, hM, hh, ⟨fs, h56⟩, hno, hq⟩ := H
  refine G.go tv_law_write 6 835 [(0, .ref (b)), (1, .ref (gAd E (0))), (2, .ref (gAd E (56))), (3, .ref (gAd E (93))), (4, .int (nI i)), (5, .int (k))] [.int ((nI i) + ((1 : Int32))), .ref (b), .ref (gAd E (56))] rfl ?_
  refine G.eqs [.int (nI (i + 1)), .ref (b), .ref (gAd E (56))] (by rw [show (1 : Int32) = nI 1 from rfl, nI_add]) ?_
  refine G.sld lwY_S lwK_A (i + 1) (by omega) hL2 (tbd tv_law_write rfl) ?_
  refine G.go tv_law_write 4 841 [(0, .ref (b)), (1, .ref (gAd E (0))), (2, .ref (gAd E (56))), (3, .ref (gAd E (93))), (4, .int (nI i)), (5, .int (k))] [.int ((nI i) + ((2 : Int32))), .ref (b), .int (xs (i + 1)), .ref (gAd E (56))] rfl ?_
  refine G.eqs [.int (nI (i + 2)), .ref (b), .int (xs (i + 1)), .ref (gAd E (56))] (by rw [show (2 : Int32) = nI 2 from rfl, nI_add]) ?_
  refine G.sld lwY_S lwK_A (i + 2) (by omega) hL2 (tbd tv_law_write rfl) ?_
  refine G.callVr 56 [.int (xs (i + 1)), .int (xs (i + 2))] [] hM cls_X12 (by omega) h56 cw_L_216 w_2638 w_2639 (Nat.le_trans (Nat.succ_le_succ hh) (Nat.le_of_ble_eq_true rfl)) (Nat.le_trans (Nat.mul_le_mul_left 64 (Nat.succ_le_succ hh)) (Nat.le_of_ble_eq_true rfl)) (by show (cu + 1) + 1 ≤ room_1.cells; omega) (by show (su + 6) + 6 ≤ room_1.slots; omega) rfl (Nat.le_of_ble_eq_true rfl) (tbd tv_law_write rfl) (fun v u q => ?_) (fun X u q => hno X u q)
  obtain ⟨r, R, rfl, rv, hk, ho, hI⟩ := hq v u q
  refine G.eqs [.int (r)] rfl ?_
  refine G.go tv_law_write 2 848 [(0, .ref (b)), (1, .ref (gAd E (0))), (2, .ref (gAd E (56))), (3, .ref (gAd E (93))), (4, .int (nI i)), (5, .int (k)), (6, .int (r))] [.ref (gAd E (56))] rfl ?_
  refine G.callVr 56 [] [] (c_X12_thrown E u R hE rv) cls_X12 (by omega) rv.o cw_L_181 w_2251 w_2252 (Nat.le_trans (Nat.succ_le_succ (show 1 ≤ 110 by decide)) (Nat.le_of_ble_eq_true rfl)) (Nat.le_trans (Nat.mul_le_mul_left 64 (Nat.succ_le_succ (show 1 ≤ 110 by decide))) (Nat.le_of_ble_eq_true rfl)) (by show (cu + 1) + 1 ≤ room_1.cells; omega) (by show (su + 6) + 6 ≤ room_1.slots; omega) rfl (Nat.le_of_ble_eq_true rfl) (tbd tv_law_write rfl) (fun v w q => ?_) (fun X w q => q)
  obtain ⟨rfl, rv2, fv2⟩ := q
  obtain rfl := RfV.uniq rv rv2 fv2
  refine G.eqs [.int (rS R 0)] rfl ?_
  refine G.go tv_law_write 1 853 [(0, .ref (b)), (1, .ref (gAd E (0))), (2, .ref (gAd E (56))), (3, .ref (gAd E (93))), (4, .int (nI i)), (5, .int (k)), (6, .int (r))] [.int (k), .int (rS R 0)] rfl ?_
  refine G.cmp_eq 858 (tbd tv_law_write rfl) (by decide) (fun c853 => ?_) (fun c853 => absurd (hk) c853)
  refine G.go tv_law_write 1 860 [(0, .ref (b)), (1, .ref (gAd E (0))), (2, .ref (gAd E (56))), (3, .ref (gAd E (93))), (4, .int (nI i)), (5, .int (k)), (6, .int (r))] [.int (k)] rfl ?_
  refine G.if_ne 875 (tbd tv_law_write rfl) (by decide) (fun c860 => ?_) (fun c860 => ?_)
  · skip
    refine G.go tv_law_write 1 2804 [(0, .ref (b)), (1, .ref (gAd E (0))), (2, .ref (gAd E (56))), (3, .ref (gAd E (93))), (4, .int (nI i)), (5, .int (k)), (6, .int (r))] [] rfl ?_
    refine G.drop [0, 1, 2, 3, 4] rfl ?_
    exact kk _ hI
  · skip
    obtain ⟨o, e93, eo⟩ := ho c860
    refine G.go tv_law_write 2 865 [(0, .ref (b)), (1, .ref (gAd E (0))), (2, .ref (gAd E (56))), (3, .ref (gAd E (93))), (4, .int (nI i)), (5, .int (k)), (6, .int (r))] [.int ((0 : Int32)), .ref (gAd E (93))] rfl ?_
    refine G.eqs [.int (nI (0)), .ref (gAd E (93))] (by rw [show (0 : Int32) = nI 0 from rfl]) ?_
    refine G.laldN (93) (0) (by omega) (e93) (by decide) (by decide) (tbd tv_law_write rfl) ?_
    refine G.go tv_law_write 3 870 [(0, .ref (b)), (1, .ref (gAd E (0))), (2, .ref (gAd E (56))), (3, .ref (gAd E (93))), (4, .int (nI i)), (5, .int (k)), (6, .int (r))] [.int (lg_cmp ((o) (0)) ((r : Int32).toInt64))] rfl ?_
    refine G.if_eq 875 (tbd tv_law_write rfl) (by decide) (fun c870 => ?_) (fun c870 => absurd ((lg_cmp_eq _ _).mpr (eo)) c870)
    refine G.go tv_law_write 1 2804 [(0, .ref (b)), (1, .ref (gAd E (0))), (2, .ref (gAd E (56))), (3, .ref (gAd E (93))), (4, .int (nI i)), (5, .int (k)), (6, .int (r))] [] rfl ?_
    refine G.drop [0, 1, 2, 3, 4] rfl ?_
    exact kk _ hI
theorem w_1594 : Cond.methodLink "LedgerFilesLaw" 213 yL_write ∈ TB := tp_7 8 (by decide +kernel) rfl
theorem w_1595 : Cond.static yL_write ∈ TB := tp_7 9 (by decide +kernel) rfl
theorem cwh_213 : CwH RL 213 yL_write cL_write 5 (some .int) [(0, 10, 13, 13), (0, 10, 17, 15)] 4 := ⟨w_1594, w_1596, w_146, by decide +kernel, by decide +kernel, by decide, w_1595⟩
set_option maxRecDepth 100000 in
set_option maxHeartbeats 4000000 in
theorem k_write (E : gE) (f : Nat → va_E) (hE : 94 ≤ gN E) (b L : Nat) (xs : Nat → Int32) (cu su h sz i : Nat) (hi : i + 5 < L) (hL2 : L < 2 ^ 31) (hcu : cu + 2 ≤ room_1.cells) (hsu : su + 12 ≤ room_1.slots) (Inv : (Nat → va_E) → Prop) (H : CsI E f yX11_write cX11_write 5 yX12_write cX12_write 5 [.int (xs (i + 1)), .int (xs (i + 2))] [xI, xU] Inv) (kk : ∀ g, Inv g → G E (lwK h sz) code (gL b L xs (cu + 1) (su + 6)) 2804 [(0, .ref (b)), (1, .ref (gAd E (0))), (2, .ref (gAd E (56))), (3, .ref (gAd E (93))), (4, .int (nI i))] [] g) : G E (lwK h sz) code (gL b L xs cu su) 810 [(0, .ref (b)), (1, .ref (gAd E (0))), (2, .ref (gAd E (56))), (3, .ref (gAd E (93))), (4, .int (nI i))] [] f := by
  obtain ⟨hc, Q, hM, hh, ⟨fs, h0⟩, hn, hx⟩ := H
  refine G.go tv_law_write 5 816 [(0, .ref (b)), (1, .ref (gAd E (0))), (2, .ref (gAd E (56))), (3, .ref (gAd E (93))), (4, .int (nI i))] [.int ((nI i) + ((1 : Int32))), .ref (b), .ref (gAd E (0))] rfl ?_
  refine G.eqs [.int (nI (i + 1)), .ref (b), .ref (gAd E (0))] (by rw [show (1 : Int32) = nI 1 from rfl, nI_add]) ?_
  refine G.sld lwY_S lwK_A (i + 1) (by omega) hL2 (tbd tv_law_write rfl) ?_
  refine G.go tv_law_write 4 822 [(0, .ref (b)), (1, .ref (gAd E (0))), (2, .ref (gAd E (56))), (3, .ref (gAd E (93))), (4, .int (nI i))] [.int ((nI i) + ((2 : Int32))), .ref (b), .int (xs (i + 1)), .ref (gAd E (0))] rfl ?_
  refine G.eqs [.int (nI (i + 2)), .ref (b), .int (xs (i + 1)), .ref (gAd E (0))] (by rw [show (2 : Int32) = nI 2 from rfl, nI_add]) ?_
  refine G.sld lwY_S lwK_A (i + 2) (by omega) hL2 (tbd tv_law_write rfl) ?_
  refine G.go tv_law_write 1 824 [(0, .ref (b)), (1, .ref (gAd E (0))), (2, .ref (gAd E (56))), (3, .ref (gAd E (93))), (4, .int (nI i))] [.ref (gAd E (93)), .int (xs (i + 2)), .int (xs (i + 1)), .ref (gAd E (0))] rfl ?_
  refine G.callH [.ref (gAd E (0)), .int (xs (i + 1)), .int (xs (i + 2)), .ref (gAd E (93))] [] (h_L_write E f hE (xs (i + 1)) (xs (i + 2)) hM hh h0 (fun v g q => by obtain ⟨x, o, h1, h2, -⟩ := hn v g q; exact ⟨x, o, h1, h2⟩) (fun X g q => (xk2 (hx X g q)).elim (fun a => Or.inl a.1) (fun a => Or.inr a.1))) cwh_213 (Nat.le_of_ble_eq_true rfl) (Nat.le_of_ble_eq_true rfl) (by show cu + 1 ≤ room_1.cells; omega) (by show su + 6 ≤ room_1.slots; omega) rfl (Nat.le_of_ble_eq_true rfl) (tbd tv_law_write rfl) (fun v g q => ?_)
  rcases q with ⟨rfl, x, o, g0, q, e93, rfl⟩ | ⟨rfl, q⟩ | ⟨rfl, q⟩
  · refine G.eqs [.int 0] rfl ?_
    obtain ⟨x1, o1, e1, e2, hp⟩ := hn _ _ q
    cases e1
    obtain rfl := oJ_inj (e93.symm.trans e2)
    exact lt_write E _ hE b L xs cu su h sz i hi hL2 hcu hsu Inv 0 hp kk
  · refine G.eqs [.int 1] rfl ?_
    exact lt_write E _ hE b L xs cu su h sz i hi hL2 hcu hsu Inv 1 ((xk2 (hx _ _ q)).elim (fun a => a.2) (fun a => absurd a.1 (by decide))) kk
  · refine G.eqs [.int 2] rfl ?_
    exact lt_write E _ hE b L xs cu su h sz i hi hL2 hcu hsu Inv 2 ((xk2 (hx _ _ q)).elim (fun a => absurd a.1 (by decide)) (fun a => a.2)) kk
def tb_law_fill : List (Nat × Instr × Nat) := [(878, .aload_n 1, 1), (879, .aload_n 0, 1), (880, .iload 4, 2), (882, .iconst 1, 1), (883, .iadd, 1), (884, .iaload, 1), (885, .aload_n 0, 1), (886, .iload 4, 2), (888, .iconst 2, 1), (889, .iadd, 1), (890, .iaload, 1), (891, .aload_n 0, 1), (892, .iload 4, 2), (894, .iconst 3, 1), (895, .iadd, 1), (896, .iaload, 1), (897, .aload_n 0, 1), (898, .iload 4, 2), (900, .iconst 4, 1), (901, .iadd, 1), (902, .iaload, 1), (903, .aload_n 3, 1), (904, .invokestatic 217, 3), (907, .istore 5, 2), (909, .aload_n 2, 1), (910, .aload_n 0, 1), (911, .iload 4, 2), (913, .iconst 1, 1), (914, .iadd, 1), (915, .iaload, 1), (916, .aload_n 0, 1), (917, .iload 4, 2), (919, .iconst 2, 1), (920, .iadd, 1), (921, .iaload, 1), (922, .aload_n 0, 1), (923, .iload 4, 2), (925, .iconst 3, 1), (926, .iadd, 1), (927, .iaload, 1), (928, .aload_n 0, 1), (929, .iload 4, 2), (931, .iconst 4, 1), (932, .iadd, 1), (933, .iaload, 1), (934, .invokevirtual 220, 3), (937, .istore 6, 2), (939, .aload_n 2, 1), (940, .invokevirtual 181, 3), (943, .iload 5, 2), (945, .if_icmp .eq 5, 3), (948, .iconst 0, 1), (949, .ireturn, 1), (950, .iload 5, 2), (952, .ifCond .ne 15, 3), (955, .aload_n 3, 1), (956, .iconst 0, 1), (957, .laload, 1), (958, .iload 6, 2), (960, .i2l, 1), (961, .lcmp, 1), (962, .ifCond .eq 5, 3), (965, .iconst 0, 1), (966, .ireturn, 1), (967, .goto 1837, 3)]
theorem tv_law_fill : Tv code tb_law_fill := by
  unfold Tv
  decide +kernel
theorem w_2646 : Cond.methodLink "LedgerFilesLaw" 220 yX12_fill ∈ TB := tp_11 100 (by decide +kernel) rfl
theorem w_2649 : Cond.code yX12_fill prog_14_method_103_code 6 (some .int) ∈ TB := tp_11 103 rfl rfl
theorem cw_L_220 : Cw RL 220 yX12_fill cX12_fill 6 (some .int) 4 := ⟨w_2646, w_2649, w_161, by decide +kernel, by decide +kernel, by decide⟩
theorem w_2647 : Cond.instanceMethod yX12_fill ∈ TB := tp_11 101 (by decide +kernel) rfl
theorem w_2648 : Cond.selects "LedgerFilesModel" yX12_fill yX12_fill ∈ TB := tp_11 102 (by decide +kernel) rfl
set_option maxRecDepth 100000 in
set_option maxHeartbeats 4000000 in
theorem lt_fill (E : gE) (f : Nat → va_E) (hE : 94 ≤ gN E) (b L : Nat) (xs : Nat → Int32) (cu su h sz i : Nat) (hi : i + 5 < L) (hL2 : L < 2 ^ 31) (hcu : cu + 2 ≤ room_1.cells) (hsu : su + 12 ≤ room_1.slots) (Inv : (Nat → va_E) → Prop) (k : Int32) (H : PmI E yX12_fill cX12_fill 6 [.int (xs (i + 1)), .int (xs (i + 2)), .int (xs (i + 3)), .int (xs (i + 4))] f k Inv) (kk : ∀ g, Inv g → G E (lwK h sz) code (gL b L xs (cu + 1) (su + 6)) 2804 [(0, .ref (b)), (1, .ref (gAd E (0))), (2, .ref (gAd E (56))), (3, .ref (gAd E (93))), (4, .int (nI i))] [] g) : G E (lwK h sz) code (gL b L xs (cu + 1) (su + 6)) 907 [(0, .ref (b)), (1, .ref (gAd E (0))), (2, .ref (gAd E (56))), (3, .ref (gAd E (93))), (4, .int (nI i))] [.int k] f := by
  obtain ⟨hc, Q, hM, hh, ⟨fs, h56⟩, hno, hq⟩ := H
  refine G.go tv_law_fill 6 915 [(0, .ref (b)), (1, .ref (gAd E (0))), (2, .ref (gAd E (56))), (3, .ref (gAd E (93))), (4, .int (nI i)), (5, .int (k))] [.int ((nI i) + ((1 : Int32))), .ref (b), .ref (gAd E (56))] rfl ?_
  refine G.eqs [.int (nI (i + 1)), .ref (b), .ref (gAd E (56))] (by rw [show (1 : Int32) = nI 1 from rfl, nI_add]) ?_
  refine G.sld lwY_S lwK_A (i + 1) (by omega) hL2 (tbd tv_law_fill rfl) ?_
  refine G.go tv_law_fill 4 921 [(0, .ref (b)), (1, .ref (gAd E (0))), (2, .ref (gAd E (56))), (3, .ref (gAd E (93))), (4, .int (nI i)), (5, .int (k))] [.int ((nI i) + ((2 : Int32))), .ref (b), .int (xs (i + 1)), .ref (gAd E (56))] rfl ?_
  refine G.eqs [.int (nI (i + 2)), .ref (b), .int (xs (i + 1)), .ref (gAd E (56))] (by rw [show (2 : Int32) = nI 2 from rfl, nI_add]) ?_
  refine G.sld lwY_S lwK_A (i + 2) (by omega) hL2 (tbd tv_law_fill rfl) ?_
  refine G.go tv_law_fill 4 927 [(0, .ref (b)), (1, .ref (gAd E (0))), (2, .ref (gAd E (56))), (3, .ref (gAd E (93))), (4, .int (nI i)), (5, .int (k))] [.int ((nI i) + ((3 : Int32))), .ref (b), .int (xs (i + 2)), .int (xs (i + 1)), .ref (gAd E (56))] rfl ?_
  refine G.eqs [.int (nI (i + 3)), .ref (b), .int (xs (i + 2)), .int (xs (i + 1)), .ref (gAd E (56))] (by rw [show (3 : Int32) = nI 3 from rfl, nI_add]) ?_
  refine G.sld lwY_S lwK_A (i + 3) (by omega) hL2 (tbd tv_law_fill rfl) ?_
  refine G.go tv_law_fill 4 933 [(0, .ref (b)), (1, .ref (gAd E (0))), (2, .ref (gAd E (56))), (3, .ref (gAd E (93))), (4, .int (nI i)), (5, .int (k))] [.int ((nI i) + ((4 : Int32))), .ref (b), .int (xs (i + 3)), .int (xs (i + 2)), .int (xs (i + 1)), .ref (gAd E (56))] rfl ?_
  refine G.eqs [.int (nI (i + 4)), .ref (b), .int (xs (i + 3)), .int (xs (i + 2)), .int (xs (i + 1)), .ref (gAd E (56))] (by rw [show (4 : Int32) = nI 4 from rfl, nI_add]) ?_
  refine G.sld lwY_S lwK_A (i + 4) (by omega) hL2 (tbd tv_law_fill rfl) ?_
  refine G.callVr 56 [.int (xs (i + 1)), .int (xs (i + 2)), .int (xs (i + 3)), .int (xs (i + 4))] [] hM cls_X12 (by omega) h56 cw_L_220 w_2647 w_2648 (Nat.le_trans (Nat.succ_le_succ hh) (Nat.le_of_ble_eq_true rfl)) (Nat.le_trans (Nat.mul_le_mul_left 64 (Nat.succ_le_succ hh)) (Nat.le_of_ble_eq_true rfl)) (by show (cu + 1) + 1 ≤ room_1.cells; omega) (by show (su + 6) + 6 ≤ room_1.slots; omega) rfl (Nat.le_of_ble_eq_true rfl) (tbd tv_law_fill rfl) (fun v u q => ?_) (fun X u q => hno X u q)
  obtain ⟨r, R, rfl, rv, hk, ho, hI⟩ := hq v u q
  refine G.eqs [.int (r)] rfl ?_
  refine G.go tv_law_fill 2 940 [(0, .ref (b)), (1, .ref (gAd E (0))), (2, .ref (gAd E (56))), (3, .ref (gAd E (93))), (4, .int (nI i)), (5, .int (k)), (6, .int (r))] [.ref (gAd E (56))] rfl ?_
  refine G.callVr 56 [] [] (c_X12_thrown E u R hE rv) cls_X12 (by omega) rv.o cw_L_181 w_2251 w_2252 (Nat.le_trans (Nat.succ_le_succ (show 1 ≤ 110 by decide)) (Nat.le_of_ble_eq_true rfl)) (Nat.le_trans (Nat.mul_le_mul_left 64 (Nat.succ_le_succ (show 1 ≤ 110 by decide))) (Nat.le_of_ble_eq_true rfl)) (by show (cu + 1) + 1 ≤ room_1.cells; omega) (by show (su + 6) + 6 ≤ room_1.slots; omega) rfl (Nat.le_of_ble_eq_true rfl) (tbd tv_law_fill rfl) (fun v w q => ?_) (fun X w q => q)
  obtain ⟨rfl, rv2, fv2⟩ := q
  obtain rfl := RfV.uniq rv rv2 fv2
  refine G.eqs [.int (rS R 0)] rfl ?_
  refine G.go tv_law_fill 1 945 [(0, .ref (b)), (1, .ref (gAd E (0))), (2, .ref (gAd E (56))), (3, .ref (gAd E (93))), (4, .int (nI i)), (5, .int (k)), (6, .int (r))] [.int (k), .int (rS R 0)] rfl ?_
  refine G.cmp_eq 950 (tbd tv_law_fill rfl) (by decide) (fun c945 => ?_) (fun c945 => absurd (hk) c945)
  refine G.go tv_law_fill 1 952 [(0, .ref (b)), (1, .ref (gAd E (0))), (2, .ref (gAd E (56))), (3, .ref (gAd E (93))), (4, .int (nI i)), (5, .int (k)), (6, .int (r))] [.int (k)] rfl ?_
  refine G.if_ne 967 (tbd tv_law_fill rfl) (by decide) (fun c952 => ?_) (fun c952 => ?_)
  · skip
    refine G.go tv_law_fill 1 2804 [(0, .ref (b)), (1, .ref (gAd E (0))), (2, .ref (gAd E (56))), (3, .ref (gAd E (93))), (4, .int (nI i)), (5, .int (k)), (6, .int (r))] [] rfl ?_
    refine G.drop [0, 1, 2, 3, 4] rfl ?_
    exact kk _ hI
  · skip
    obtain ⟨o, e93, eo⟩ := ho c952
    refine G.go tv_law_fill 2 957 [(0, .ref (b)), (1, .ref (gAd E (0))), (2, .ref (gAd E (56))), (3, .ref (gAd E (93))), (4, .int (nI i)), (5, .int (k)), (6, .int (r))] [.int ((0 : Int32)), .ref (gAd E (93))] rfl ?_
    refine G.eqs [.int (nI (0)), .ref (gAd E (93))] (by rw [show (0 : Int32) = nI 0 from rfl]) ?_
    refine G.laldN (93) (0) (by omega) (e93) (by decide) (by decide) (tbd tv_law_fill rfl) ?_
    refine G.go tv_law_fill 3 962 [(0, .ref (b)), (1, .ref (gAd E (0))), (2, .ref (gAd E (56))), (3, .ref (gAd E (93))), (4, .int (nI i)), (5, .int (k)), (6, .int (r))] [.int (lg_cmp ((o) (0)) ((r : Int32).toInt64))] rfl ?_
    refine G.if_eq 967 (tbd tv_law_fill rfl) (by decide) (fun c962 => ?_) (fun c962 => absurd ((lg_cmp_eq _ _).mpr (eo)) c962)
    refine G.go tv_law_fill 1 2804 [(0, .ref (b)), (1, .ref (gAd E (0))), (2, .ref (gAd E (56))), (3, .ref (gAd E (93))), (4, .int (nI i)), (5, .int (k)), (6, .int (r))] [] rfl ?_
    refine G.drop [0, 1, 2, 3, 4] rfl ?_
    exact kk _ hI
theorem w_1618 : Cond.methodLink "LedgerFilesLaw" 217 yL_fill ∈ TB := tp_7 32 (by decide +kernel) rfl
theorem w_1619 : Cond.static yL_fill ∈ TB := tp_7 33 (by decide +kernel) rfl
theorem cwh_217 : CwH RL 217 yL_fill cL_fill 7 (some .int) [(0, 14, 17, 13), (0, 14, 21, 15), (0, 14, 25, 20)] 6 := ⟨w_1618, w_1620, w_146, by decide +kernel, by decide +kernel, by decide, w_1619⟩
set_option maxRecDepth 100000 in
set_option maxHeartbeats 4000000 in
theorem k_fill (E : gE) (f : Nat → va_E) (hE : 94 ≤ gN E) (b L : Nat) (xs : Nat → Int32) (cu su h sz i : Nat) (hi : i + 5 < L) (hL2 : L < 2 ^ 31) (hcu : cu + 2 ≤ room_1.cells) (hsu : su + 12 ≤ room_1.slots) (Inv : (Nat → va_E) → Prop) (H : CsI E f yX11_fill cX11_fill 7 yX12_fill cX12_fill 6 [.int (xs (i + 1)), .int (xs (i + 2)), .int (xs (i + 3)), .int (xs (i + 4))] [xI, xU, xA] Inv) (kk : ∀ g, Inv g → G E (lwK h sz) code (gL b L xs (cu + 1) (su + 6)) 2804 [(0, .ref (b)), (1, .ref (gAd E (0))), (2, .ref (gAd E (56))), (3, .ref (gAd E (93))), (4, .int (nI i))] [] g) : G E (lwK h sz) code (gL b L xs cu su) 878 [(0, .ref (b)), (1, .ref (gAd E (0))), (2, .ref (gAd E (56))), (3, .ref (gAd E (93))), (4, .int (nI i))] [] f := by
  obtain ⟨hc, Q, hM, hh, ⟨fs, h0⟩, hn, hx⟩ := H
  refine G.go tv_law_fill 5 884 [(0, .ref (b)), (1, .ref (gAd E (0))), (2, .ref (gAd E (56))), (3, .ref (gAd E (93))), (4, .int (nI i))] [.int ((nI i) + ((1 : Int32))), .ref (b), .ref (gAd E (0))] rfl ?_
  refine G.eqs [.int (nI (i + 1)), .ref (b), .ref (gAd E (0))] (by rw [show (1 : Int32) = nI 1 from rfl, nI_add]) ?_
  refine G.sld lwY_S lwK_A (i + 1) (by omega) hL2 (tbd tv_law_fill rfl) ?_
  refine G.go tv_law_fill 4 890 [(0, .ref (b)), (1, .ref (gAd E (0))), (2, .ref (gAd E (56))), (3, .ref (gAd E (93))), (4, .int (nI i))] [.int ((nI i) + ((2 : Int32))), .ref (b), .int (xs (i + 1)), .ref (gAd E (0))] rfl ?_
  refine G.eqs [.int (nI (i + 2)), .ref (b), .int (xs (i + 1)), .ref (gAd E (0))] (by rw [show (2 : Int32) = nI 2 from rfl, nI_add]) ?_
  refine G.sld lwY_S lwK_A (i + 2) (by omega) hL2 (tbd tv_law_fill rfl) ?_
  refine G.go tv_law_fill 4 896 [(0, .ref (b)), (1, .ref (gAd E (0))), (2, .ref (gAd E (56))), (3, .ref (gAd E (93))), (4, .int (nI i))] [.int ((nI i) + ((3 : Int32))), .ref (b), .int (xs (i + 2)), .int (xs (i + 1)), .ref (gAd E (0))] rfl ?_
  refine G.eqs [.int (nI (i + 3)), .ref (b), .int (xs (i + 2)), .int (xs (i + 1)), .ref (gAd E (0))] (by rw [show (3 : Int32) = nI 3 from rfl, nI_add]) ?_
  refine G.sld lwY_S lwK_A (i + 3) (by omega) hL2 (tbd tv_law_fill rfl) ?_
  refine G.go tv_law_fill 4 902 [(0, .ref (b)), (1, .ref (gAd E (0))), (2, .ref (gAd E (56))), (3, .ref (gAd E (93))), (4, .int (nI i))] [.int ((nI i) + ((4 : Int32))), .ref (b), .int (xs (i + 3)), .int (xs (i + 2)), .int (xs (i + 1)), .ref (gAd E (0))] rfl ?_
  refine G.eqs [.int (nI (i + 4)), .ref (b), .int (xs (i + 3)), .int (xs (i + 2)), .int (xs (i + 1)), .ref (gAd E (0))] (by rw [show (4 : Int32) = nI 4 from rfl, nI_add]) ?_
  refine G.sld lwY_S lwK_A (i + 4) (by omega) hL2 (tbd tv_law_fill rfl) ?_
  refine G.go tv_law_fill 1 904 [(0, .ref (b)), (1, .ref (gAd E (0))), (2, .ref (gAd E (56))), (3, .ref (gAd E (93))), (4, .int (nI i))] [.ref (gAd E (93)), .int (xs (i + 4)), .int (xs (i + 3)), .int (xs (i + 2)), .int (xs (i + 1)), .ref (gAd E (0))] rfl ?_
  refine G.callH [.ref (gAd E (0)), .int (xs (i + 1)), .int (xs (i + 2)), .int (xs (i + 3)), .int (xs (i + 4)), .ref (gAd E (93))] [] (h_L_fill E f hE (xs (i + 1)) (xs (i + 2)) (xs (i + 3)) (xs (i + 4)) hM hh h0 (fun v g q => by obtain ⟨x, o, h1, h2, -⟩ := hn v g q; exact ⟨x, o, h1, h2⟩) (fun X g q => (xk3 (hx X g q)).elim (fun a => Or.inl a.1) (fun a => a.elim (fun a => Or.inr (Or.inl a.1)) (fun a => Or.inr (Or.inr a.1))))) cwh_217 (Nat.le_of_ble_eq_true rfl) (Nat.le_of_ble_eq_true rfl) (by show cu + 1 ≤ room_1.cells; omega) (by show su + 6 ≤ room_1.slots; omega) rfl (Nat.le_of_ble_eq_true rfl) (tbd tv_law_fill rfl) (fun v g q => ?_)
  rcases q with ⟨rfl, x, o, g0, q, e93, rfl⟩ | ⟨rfl, q⟩ | ⟨rfl, q⟩ | ⟨rfl, q⟩
  · refine G.eqs [.int 0] rfl ?_
    obtain ⟨x1, o1, e1, e2, hp⟩ := hn _ _ q
    cases e1
    obtain rfl := oJ_inj (e93.symm.trans e2)
    exact lt_fill E _ hE b L xs cu su h sz i hi hL2 hcu hsu Inv 0 hp kk
  · refine G.eqs [.int 1] rfl ?_
    exact lt_fill E _ hE b L xs cu su h sz i hi hL2 hcu hsu Inv 1 ((xk3 (hx _ _ q)).elim (fun a => a.2) (fun a => a.elim (fun a => absurd a.1 (by decide)) (fun a => absurd a.1 (by decide)))) kk
  · refine G.eqs [.int 2] rfl ?_
    exact lt_fill E _ hE b L xs cu su h sz i hi hL2 hcu hsu Inv 2 ((xk3 (hx _ _ q)).elim (fun a => absurd a.1 (by decide)) (fun a => a.elim (fun a => a.2) (fun a => absurd a.1 (by decide)))) kk
  · refine G.eqs [.int 3] rfl ?_
    exact lt_fill E _ hE b L xs cu su h sz i hi hL2 hcu hsu Inv 3 ((xk3 (hx _ _ q)).elim (fun a => absurd a.1 (by decide)) (fun a => a.elim (fun a => absurd a.1 (by decide)) (fun a => a.2))) kk
def tb_law_truncate : List (Nat × Instr × Nat) := [(970, .aload_n 1, 1), (971, .aload_n 0, 1), (972, .iload 4, 2), (974, .iconst 1, 1), (975, .iadd, 1), (976, .iaload, 1), (977, .aload_n 0, 1), (978, .iload 4, 2), (980, .iconst 2, 1), (981, .iadd, 1), (982, .iaload, 1), (983, .aload_n 3, 1), (984, .invokestatic 221, 3), (987, .istore 5, 2), (989, .aload_n 2, 1), (990, .aload_n 0, 1), (991, .iload 4, 2), (993, .iconst 1, 1), (994, .iadd, 1), (995, .iaload, 1), (996, .aload_n 0, 1), (997, .iload 4, 2), (999, .iconst 2, 1), (1000, .iadd, 1), (1001, .iaload, 1), (1002, .invokevirtual 223, 3), (1005, .istore 6, 2), (1007, .aload_n 2, 1), (1008, .invokevirtual 181, 3), (1011, .iload 5, 2), (1013, .if_icmp .eq 5, 3), (1016, .iconst 0, 1), (1017, .ireturn, 1), (1018, .iload 5, 2), (1020, .ifCond .ne 15, 3), (1023, .aload_n 3, 1), (1024, .iconst 0, 1), (1025, .laload, 1), (1026, .iload 6, 2), (1028, .i2l, 1), (1029, .lcmp, 1), (1030, .ifCond .eq 5, 3), (1033, .iconst 0, 1), (1034, .ireturn, 1), (1035, .goto 1769, 3)]
theorem tv_law_truncate : Tv code tb_law_truncate := by
  unfold Tv
  decide +kernel
theorem w_2650 : Cond.methodLink "LedgerFilesLaw" 223 yX12_truncate ∈ TB := tp_11 104 (by decide +kernel) rfl
theorem w_2653 : Cond.code yX12_truncate prog_14_method_104_code 4 (some .int) ∈ TB := tp_11 107 rfl rfl
theorem cw_L_223 : Cw RL 223 yX12_truncate cX12_truncate 4 (some .int) 2 := ⟨w_2650, w_2653, w_161, by decide +kernel, by decide +kernel, by decide⟩
theorem w_2651 : Cond.instanceMethod yX12_truncate ∈ TB := tp_11 105 (by decide +kernel) rfl
theorem w_2652 : Cond.selects "LedgerFilesModel" yX12_truncate yX12_truncate ∈ TB := tp_11 106 (by decide +kernel) rfl
set_option maxRecDepth 100000 in
set_option maxHeartbeats 4000000 in
theorem lt_truncate (E : gE) (f : Nat → va_E) (hE : 94 ≤ gN E) (b L : Nat) (xs : Nat → Int32) (cu su h sz i : Nat) (hi : i + 5 < L) (hL2 : L < 2 ^ 31) (hcu : cu + 2 ≤ room_1.cells) (hsu : su + 12 ≤ room_1.slots) (Inv : (Nat → va_E) → Prop) (k : Int32) (H : PmI E yX12_truncate cX12_truncate 4 [.int (xs (i + 1)), .int (xs (i + 2))] f k Inv) (kk : ∀ g, Inv g → G E (lwK h sz) code (gL b L xs (cu + 1) (su + 6)) 2804 [(0, .ref (b)), (1, .ref (gAd E (0))), (2, .ref (gAd E (56))), (3, .ref (gAd E (93))), (4, .int (nI i))] [] g) : G E (lwK h sz) code (gL b L xs (cu + 1) (su + 6)) 987 [(0, .ref (b)), (1, .ref (gAd E (0))), (2, .ref (gAd E (56))), (3, .ref (gAd E (93))), (4, .int (nI i))] [.int k] f := by
  obtain ⟨hc, Q, hM, hh, ⟨fs, h56⟩, hno, hq⟩ := H
  refine G.go tv_law_truncate 6 995 [(0, .ref (b)), (1, .ref (gAd E (0))), (2, .ref (gAd E (56))), (3, .ref (gAd E (93))), (4, .int (nI i)), (5, .int (k))] [.int ((nI i) + ((1 : Int32))), .ref (b), .ref (gAd E (56))] rfl ?_
  refine G.eqs [.int (nI (i + 1)), .ref (b), .ref (gAd E (56))] (by rw [show (1 : Int32) = nI 1 from rfl, nI_add]) ?_
  refine G.sld lwY_S lwK_A (i + 1) (by omega) hL2 (tbd tv_law_truncate rfl) ?_
  refine G.go tv_law_truncate 4 1001 [(0, .ref (b)), (1, .ref (gAd E (0))), (2, .ref (gAd E (56))), (3, .ref (gAd E (93))), (4, .int (nI i)), (5, .int (k))] [.int ((nI i) + ((2 : Int32))), .ref (b), .int (xs (i + 1)), .ref (gAd E (56))] rfl ?_
  refine G.eqs [.int (nI (i + 2)), .ref (b), .int (xs (i + 1)), .ref (gAd E (56))] (by rw [show (2 : Int32) = nI 2 from rfl, nI_add]) ?_
  refine G.sld lwY_S lwK_A (i + 2) (by omega) hL2 (tbd tv_law_truncate rfl) ?_
  refine G.callVr 56 [.int (xs (i + 1)), .int (xs (i + 2))] [] hM cls_X12 (by omega) h56 cw_L_223 w_2651 w_2652 (Nat.le_trans (Nat.succ_le_succ hh) (Nat.le_of_ble_eq_true rfl)) (Nat.le_trans (Nat.mul_le_mul_left 64 (Nat.succ_le_succ hh)) (Nat.le_of_ble_eq_true rfl)) (by show (cu + 1) + 1 ≤ room_1.cells; omega) (by show (su + 6) + 6 ≤ room_1.slots; omega) rfl (Nat.le_of_ble_eq_true rfl) (tbd tv_law_truncate rfl) (fun v u q => ?_) (fun X u q => hno X u q)
  obtain ⟨r, R, rfl, rv, hk, ho, hI⟩ := hq v u q
  refine G.eqs [.int (r)] rfl ?_
  refine G.go tv_law_truncate 2 1008 [(0, .ref (b)), (1, .ref (gAd E (0))), (2, .ref (gAd E (56))), (3, .ref (gAd E (93))), (4, .int (nI i)), (5, .int (k)), (6, .int (r))] [.ref (gAd E (56))] rfl ?_
  refine G.callVr 56 [] [] (c_X12_thrown E u R hE rv) cls_X12 (by omega) rv.o cw_L_181 w_2251 w_2252 (Nat.le_trans (Nat.succ_le_succ (show 1 ≤ 110 by decide)) (Nat.le_of_ble_eq_true rfl)) (Nat.le_trans (Nat.mul_le_mul_left 64 (Nat.succ_le_succ (show 1 ≤ 110 by decide))) (Nat.le_of_ble_eq_true rfl)) (by show (cu + 1) + 1 ≤ room_1.cells; omega) (by show (su + 6) + 6 ≤ room_1.slots; omega) rfl (Nat.le_of_ble_eq_true rfl) (tbd tv_law_truncate rfl) (fun v w q => ?_) (fun X w q => q)
  obtain ⟨rfl, rv2, fv2⟩ := q
  obtain rfl := RfV.uniq rv rv2 fv2
  refine G.eqs [.int (rS R 0)] rfl ?_
  refine G.go tv_law_truncate 1 1013 [(0, .ref (b)), (1, .ref (gAd E (0))), (2, .ref (gAd E (56))), (3, .ref (gAd E (93))), (4, .int (nI i)), (5, .int (k)), (6, .int (r))] [.int (k), .int (rS R 0)] rfl ?_
  refine G.cmp_eq 1018 (tbd tv_law_truncate rfl) (by decide) (fun c1013 => ?_) (fun c1013 => absurd (hk) c1013)
  refine G.go tv_law_truncate 1 1020 [(0, .ref (b)), (1, .ref (gAd E (0))), (2, .ref (gAd E (56))), (3, .ref (gAd E (93))), (4, .int (nI i)), (5, .int (k)), (6, .int (r))] [.int (k)] rfl ?_
  refine G.if_ne 1035 (tbd tv_law_truncate rfl) (by decide) (fun c1020 => ?_) (fun c1020 => ?_)
  · skip
    refine G.go tv_law_truncate 1 2804 [(0, .ref (b)), (1, .ref (gAd E (0))), (2, .ref (gAd E (56))), (3, .ref (gAd E (93))), (4, .int (nI i)), (5, .int (k)), (6, .int (r))] [] rfl ?_
    refine G.drop [0, 1, 2, 3, 4] rfl ?_
    exact kk _ hI
  · skip
    obtain ⟨o, e93, eo⟩ := ho c1020
    refine G.go tv_law_truncate 2 1025 [(0, .ref (b)), (1, .ref (gAd E (0))), (2, .ref (gAd E (56))), (3, .ref (gAd E (93))), (4, .int (nI i)), (5, .int (k)), (6, .int (r))] [.int ((0 : Int32)), .ref (gAd E (93))] rfl ?_
    refine G.eqs [.int (nI (0)), .ref (gAd E (93))] (by rw [show (0 : Int32) = nI 0 from rfl]) ?_
    refine G.laldN (93) (0) (by omega) (e93) (by decide) (by decide) (tbd tv_law_truncate rfl) ?_
    refine G.go tv_law_truncate 3 1030 [(0, .ref (b)), (1, .ref (gAd E (0))), (2, .ref (gAd E (56))), (3, .ref (gAd E (93))), (4, .int (nI i)), (5, .int (k)), (6, .int (r))] [.int (lg_cmp ((o) (0)) ((r : Int32).toInt64))] rfl ?_
    refine G.if_eq 1035 (tbd tv_law_truncate rfl) (by decide) (fun c1030 => ?_) (fun c1030 => absurd ((lg_cmp_eq _ _).mpr (eo)) c1030)
    refine G.go tv_law_truncate 1 2804 [(0, .ref (b)), (1, .ref (gAd E (0))), (2, .ref (gAd E (56))), (3, .ref (gAd E (93))), (4, .int (nI i)), (5, .int (k)), (6, .int (r))] [] rfl ?_
    refine G.drop [0, 1, 2, 3, 4] rfl ?_
    exact kk _ hI
theorem w_1626 : Cond.methodLink "LedgerFilesLaw" 221 yL_truncate ∈ TB := tp_7 40 (by decide +kernel) rfl
theorem w_1627 : Cond.static yL_truncate ∈ TB := tp_7 41 (by decide +kernel) rfl
theorem cwh_221 : CwH RL 221 yL_truncate cL_truncate 5 (some .int) [(0, 10, 13, 13), (0, 10, 17, 15)] 4 := ⟨w_1626, w_1628, w_146, by decide +kernel, by decide +kernel, by decide, w_1627⟩
set_option maxRecDepth 100000 in
set_option maxHeartbeats 4000000 in
theorem k_truncate (E : gE) (f : Nat → va_E) (hE : 94 ≤ gN E) (b L : Nat) (xs : Nat → Int32) (cu su h sz i : Nat) (hi : i + 5 < L) (hL2 : L < 2 ^ 31) (hcu : cu + 2 ≤ room_1.cells) (hsu : su + 12 ≤ room_1.slots) (Inv : (Nat → va_E) → Prop) (H : CsI E f yX11_truncate cX11_truncate 5 yX12_truncate cX12_truncate 4 [.int (xs (i + 1)), .int (xs (i + 2))] [xI, xU] Inv) (kk : ∀ g, Inv g → G E (lwK h sz) code (gL b L xs (cu + 1) (su + 6)) 2804 [(0, .ref (b)), (1, .ref (gAd E (0))), (2, .ref (gAd E (56))), (3, .ref (gAd E (93))), (4, .int (nI i))] [] g) : G E (lwK h sz) code (gL b L xs cu su) 970 [(0, .ref (b)), (1, .ref (gAd E (0))), (2, .ref (gAd E (56))), (3, .ref (gAd E (93))), (4, .int (nI i))] [] f := by
  obtain ⟨hc, Q, hM, hh, ⟨fs, h0⟩, hn, hx⟩ := H
  refine G.go tv_law_truncate 5 976 [(0, .ref (b)), (1, .ref (gAd E (0))), (2, .ref (gAd E (56))), (3, .ref (gAd E (93))), (4, .int (nI i))] [.int ((nI i) + ((1 : Int32))), .ref (b), .ref (gAd E (0))] rfl ?_
  refine G.eqs [.int (nI (i + 1)), .ref (b), .ref (gAd E (0))] (by rw [show (1 : Int32) = nI 1 from rfl, nI_add]) ?_
  refine G.sld lwY_S lwK_A (i + 1) (by omega) hL2 (tbd tv_law_truncate rfl) ?_
  refine G.go tv_law_truncate 4 982 [(0, .ref (b)), (1, .ref (gAd E (0))), (2, .ref (gAd E (56))), (3, .ref (gAd E (93))), (4, .int (nI i))] [.int ((nI i) + ((2 : Int32))), .ref (b), .int (xs (i + 1)), .ref (gAd E (0))] rfl ?_
  refine G.eqs [.int (nI (i + 2)), .ref (b), .int (xs (i + 1)), .ref (gAd E (0))] (by rw [show (2 : Int32) = nI 2 from rfl, nI_add]) ?_
  refine G.sld lwY_S lwK_A (i + 2) (by omega) hL2 (tbd tv_law_truncate rfl) ?_
  refine G.go tv_law_truncate 1 984 [(0, .ref (b)), (1, .ref (gAd E (0))), (2, .ref (gAd E (56))), (3, .ref (gAd E (93))), (4, .int (nI i))] [.ref (gAd E (93)), .int (xs (i + 2)), .int (xs (i + 1)), .ref (gAd E (0))] rfl ?_
  refine G.callH [.ref (gAd E (0)), .int (xs (i + 1)), .int (xs (i + 2)), .ref (gAd E (93))] [] (h_L_truncate E f hE (xs (i + 1)) (xs (i + 2)) hM hh h0 (fun v g q => by obtain ⟨x, o, h1, h2, -⟩ := hn v g q; exact ⟨x, o, h1, h2⟩) (fun X g q => (xk2 (hx X g q)).elim (fun a => Or.inl a.1) (fun a => Or.inr a.1))) cwh_221 (Nat.le_of_ble_eq_true rfl) (Nat.le_of_ble_eq_true rfl) (by show cu + 1 ≤ room_1.cells; omega) (by show su + 6 ≤ room_1.slots; omega) rfl (Nat.le_of_ble_eq_true rfl) (tbd tv_law_truncate rfl) (fun v g q => ?_)
  rcases q with ⟨rfl, x, o, g0, q, e93, rfl⟩ | ⟨rfl, q⟩ | ⟨rfl, q⟩
  · refine G.eqs [.int 0] rfl ?_
    obtain ⟨x1, o1, e1, e2, hp⟩ := hn _ _ q
    cases e1
    obtain rfl := oJ_inj (e93.symm.trans e2)
    exact lt_truncate E _ hE b L xs cu su h sz i hi hL2 hcu hsu Inv 0 hp kk
  · refine G.eqs [.int 1] rfl ?_
    exact lt_truncate E _ hE b L xs cu su h sz i hi hL2 hcu hsu Inv 1 ((xk2 (hx _ _ q)).elim (fun a => a.2) (fun a => absurd a.1 (by decide))) kk
  · refine G.eqs [.int 2] rfl ?_
    exact lt_truncate E _ hE b L xs cu su h sz i hi hL2 hcu hsu Inv 2 ((xk2 (hx _ _ q)).elim (fun a => absurd a.1 (by decide)) (fun a => a.2)) kk
end GLX
