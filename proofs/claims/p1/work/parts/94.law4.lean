section GLX
def tb_law_begin : List (Nat × Instr × Nat) := [(2010, .aload_n 1, 1), (2011, .aload_n 3, 1), (2012, .invokestatic 271, 3), (2015, .istore 5, 2), (2017, .aload_n 2, 1), (2018, .invokevirtual 273, 3), (2021, .istore 6, 2), (2023, .aload_n 2, 1), (2024, .invokevirtual 181, 3), (2027, .iload 5, 2), (2029, .if_icmp .eq 5, 3), (2032, .iconst 0, 1), (2033, .ireturn, 1), (2034, .iload 5, 2), (2036, .ifCond .ne 22, 3), (2039, .aload_n 3, 1), (2040, .iconst 0, 1), (2041, .laload, 1), (2042, .iload 6, 2), (2044, .ifCond .eq 7, 3), (2047, .lconst 1, 1), (2048, .goto 4, 3), (2051, .lconst 0, 1), (2052, .lcmp, 1), (2053, .ifCond .eq 5, 3), (2056, .iconst 0, 1), (2057, .ireturn, 1), (2058, .goto 746, 3)]
theorem tv_law_begin : Tv code tb_law_begin := by
  unfold Tv
  decide +kernel
theorem w_2743 : Cond.methodLink "LedgerFilesLaw" 273 yX12_begin ∈ TB := tp_11 197 (by decide +kernel) rfl
theorem w_2746 : Cond.code yX12_begin prog_14_method_127_code 1 (some .boolean) ∈ TB := tp_11 200 rfl rfl
theorem cw_L_273 : Cw RL 273 yX12_begin cX12_begin 1 (some .boolean) 0 := ⟨w_2743, w_2746, w_161, by decide +kernel, by decide +kernel, by decide⟩
theorem w_2744 : Cond.instanceMethod yX12_begin ∈ TB := tp_11 198 (by decide +kernel) rfl
theorem w_2745 : Cond.selects "LedgerFilesModel" yX12_begin yX12_begin ∈ TB := tp_11 199 (by decide +kernel) rfl
set_option maxRecDepth 100000 in
set_option maxHeartbeats 4000000 in
theorem lt_begin (E : gE) (f : Nat → va_E) (hE : 94 ≤ gN E) (b L : Nat) (xs : Nat → Int32) (cu su h sz i : Nat) (hi : i + 5 < L) (hL2 : L < 2 ^ 31) (hcu : cu + 2 ≤ room_1.cells) (hsu : su + 12 ≤ room_1.slots) (Inv : (Nat → va_E) → Prop) (k : Int32) (H : PmB E yX12_begin cX12_begin 1 [] f k Inv) (kk : ∀ g, Inv g → G E (lwK h sz) code (gL b L xs (cu + 1) (su + 6)) 2804 [(0, .ref (b)), (1, .ref (gAd E (0))), (2, .ref (gAd E (56))), (3, .ref (gAd E (93))), (4, .int (nI i))] [] g) : G E (lwK h sz) code (gL b L xs (cu + 1) (su + 6)) 2015 [(0, .ref (b)), (1, .ref (gAd E (0))), (2, .ref (gAd E (56))), (3, .ref (gAd E (93))), (4, .int (nI i))] [.int k] f := by
  obtain ⟨hc, Q, hM, hh, ⟨fs, h56⟩, hno, hq⟩ := H
  refine G.go tv_law_begin 2 2018 [(0, .ref (b)), (1, .ref (gAd E (0))), (2, .ref (gAd E (56))), (3, .ref (gAd E (93))), (4, .int (nI i)), (5, .int (k))] [.ref (gAd E (56))] rfl ?_
  refine G.callVr 56 [] [] hM cls_X12 (by omega) h56 cw_L_273 w_2744 w_2745 (Nat.le_trans (Nat.succ_le_succ hh) (Nat.le_of_ble_eq_true rfl)) (Nat.le_trans (Nat.mul_le_mul_left 64 (Nat.succ_le_succ hh)) (Nat.le_of_ble_eq_true rfl)) (by show (cu + 1) + 1 ≤ room_1.cells; omega) (by show (su + 6) + 6 ≤ room_1.slots; omega) rfl (Nat.le_of_ble_eq_true rfl) (tbd tv_law_begin rfl) (fun v u q => ?_) (fun X u q => hno X u q)
  obtain ⟨r, R, rfl, rv, hk, ho, hI⟩ := hq v u q
  refine G.eqs [.int (r)] rfl ?_
  refine G.go tv_law_begin 2 2024 [(0, .ref (b)), (1, .ref (gAd E (0))), (2, .ref (gAd E (56))), (3, .ref (gAd E (93))), (4, .int (nI i)), (5, .int (k)), (6, .int (r))] [.ref (gAd E (56))] rfl ?_
  refine G.callVr 56 [] [] (c_X12_thrown E u R hE rv) cls_X12 (by omega) rv.o cw_L_181 w_2251 w_2252 (Nat.le_trans (Nat.succ_le_succ (show 1 ≤ 110 by decide)) (Nat.le_of_ble_eq_true rfl)) (Nat.le_trans (Nat.mul_le_mul_left 64 (Nat.succ_le_succ (show 1 ≤ 110 by decide))) (Nat.le_of_ble_eq_true rfl)) (by show (cu + 1) + 1 ≤ room_1.cells; omega) (by show (su + 6) + 6 ≤ room_1.slots; omega) rfl (Nat.le_of_ble_eq_true rfl) (tbd tv_law_begin rfl) (fun v w q => ?_) (fun X w q => q)
  obtain ⟨rfl, rv2, fv2⟩ := q
  obtain rfl := RfV.uniq rv rv2 fv2
  refine G.eqs [.int (rS R 0)] rfl ?_
  refine G.go tv_law_begin 1 2029 [(0, .ref (b)), (1, .ref (gAd E (0))), (2, .ref (gAd E (56))), (3, .ref (gAd E (93))), (4, .int (nI i)), (5, .int (k)), (6, .int (r))] [.int (k), .int (rS R 0)] rfl ?_
  refine G.cmp_eq 2034 (tbd tv_law_begin rfl) (by decide) (fun c2029 => ?_) (fun c2029 => absurd (hk) c2029)
  refine G.go tv_law_begin 1 2036 [(0, .ref (b)), (1, .ref (gAd E (0))), (2, .ref (gAd E (56))), (3, .ref (gAd E (93))), (4, .int (nI i)), (5, .int (k)), (6, .int (r))] [.int (k)] rfl ?_
  refine G.if_ne 2058 (tbd tv_law_begin rfl) (by decide) (fun c2036 => ?_) (fun c2036 => ?_)
  · skip
    refine G.go tv_law_begin 1 2804 [(0, .ref (b)), (1, .ref (gAd E (0))), (2, .ref (gAd E (56))), (3, .ref (gAd E (93))), (4, .int (nI i)), (5, .int (k)), (6, .int (r))] [] rfl ?_
    refine G.drop [0, 1, 2, 3, 4] rfl ?_
    exact kk _ hI
  · skip
    obtain ⟨o, e93, eo⟩ := ho c2036
    refine G.go tv_law_begin 2 2041 [(0, .ref (b)), (1, .ref (gAd E (0))), (2, .ref (gAd E (56))), (3, .ref (gAd E (93))), (4, .int (nI i)), (5, .int (k)), (6, .int (r))] [.int ((0 : Int32)), .ref (gAd E (93))] rfl ?_
    refine G.eqs [.int (nI (0)), .ref (gAd E (93))] (by rw [show (0 : Int32) = nI 0 from rfl]) ?_
    refine G.laldN (93) (0) (by omega) (e93) (by decide) (by decide) (tbd tv_law_begin rfl) ?_
    refine G.go tv_law_begin 1 2044 [(0, .ref (b)), (1, .ref (gAd E (0))), (2, .ref (gAd E (56))), (3, .ref (gAd E (93))), (4, .int (nI i)), (5, .int (k)), (6, .int (r))] [.int (r), .long ((o) (0))] rfl ?_
    refine G.if_eq 2051 (tbd tv_law_begin rfl) (by decide) (fun c2044 => ?_) (fun c2044 => ?_)
    · skip
      refine G.go tv_law_begin 2 2053 [(0, .ref (b)), (1, .ref (gAd E (0))), (2, .ref (gAd E (56))), (3, .ref (gAd E (93))), (4, .int (nI i)), (5, .int (k)), (6, .int (r))] [.int (lg_cmp ((o) (0)) ((0 : Int64)))] rfl ?_
      refine G.if_eq 2058 (tbd tv_law_begin rfl) (by decide) (fun c2053 => ?_) (fun c2053 => absurd ((lg_cmp_eq _ _).mpr (by rw [eo]; first | exact if_pos c2044 | exact if_neg c2044)) c2053)
      refine G.go tv_law_begin 1 2804 [(0, .ref (b)), (1, .ref (gAd E (0))), (2, .ref (gAd E (56))), (3, .ref (gAd E (93))), (4, .int (nI i)), (5, .int (k)), (6, .int (r))] [] rfl ?_
      refine G.drop [0, 1, 2, 3, 4] rfl ?_
      exact kk _ hI
    · skip
      refine G.go tv_law_begin 3 2053 [(0, .ref (b)), (1, .ref (gAd E (0))), (2, .ref (gAd E (56))), (3, .ref (gAd E (93))), (4, .int (nI i)), (5, .int (k)), (6, .int (r))] [.int (lg_cmp ((o) (0)) ((1 : Int64)))] rfl ?_
      refine G.if_eq 2058 (tbd tv_law_begin rfl) (by decide) (fun c2053 => ?_) (fun c2053 => absurd ((lg_cmp_eq _ _).mpr (by rw [eo]; first | exact if_pos c2044 | exact if_neg c2044)) c2053)
      refine G.go tv_law_begin 1 2804 [(0, .ref (b)), (1, .ref (gAd E (0))), (2, .ref (gAd E (56))), (3, .ref (gAd E (93))), (4, .int (nI i)), (5, .int (k)), (6, .int (r))] [] rfl ?_
      refine G.drop [0, 1, 2, 3, 4] rfl ?_
      exact kk _ hI
theorem w_1814 : Cond.methodLink "LedgerFilesLaw" 271 yL_begin ∈ TB := tp_7 228 (by decide +kernel) rfl
theorem w_1815 : Cond.static yL_begin ∈ TB := tp_7 229 (by decide +kernel) rfl
theorem cwh_271 : CwH RL 271 yL_begin cL_begin 3 (some .int) [(0, 15, 18, 13)] 2 := ⟨w_1814, w_1816, w_146, by decide +kernel, by decide +kernel, by decide, w_1815⟩
set_option maxRecDepth 100000 in
set_option maxHeartbeats 4000000 in
theorem k_begin (E : gE) (f : Nat → va_E) (hE : 94 ≤ gN E) (b L : Nat) (xs : Nat → Int32) (cu su h sz i : Nat) (hi : i + 5 < L) (hL2 : L < 2 ^ 31) (hcu : cu + 2 ≤ room_1.cells) (hsu : su + 12 ≤ room_1.slots) (Inv : (Nat → va_E) → Prop) (H : CsB E f yX11_begin cX11_begin 1 yX12_begin cX12_begin 1 [] [xI] Inv) (kk : ∀ g, Inv g → G E (lwK h sz) code (gL b L xs (cu + 1) (su + 6)) 2804 [(0, .ref (b)), (1, .ref (gAd E (0))), (2, .ref (gAd E (56))), (3, .ref (gAd E (93))), (4, .int (nI i))] [] g) : G E (lwK h sz) code (gL b L xs cu su) 2010 [(0, .ref (b)), (1, .ref (gAd E (0))), (2, .ref (gAd E (56))), (3, .ref (gAd E (93))), (4, .int (nI i))] [] f := by
  obtain ⟨hc, Q, hM, hh, ⟨fs, h0⟩, hn, hx⟩ := H
  refine G.go tv_law_begin 2 2012 [(0, .ref (b)), (1, .ref (gAd E (0))), (2, .ref (gAd E (56))), (3, .ref (gAd E (93))), (4, .int (nI i))] [.ref (gAd E (93)), .ref (gAd E (0))] rfl ?_
  refine G.callH [.ref (gAd E (0)), .ref (gAd E (93))] [] (h_L_begin E f hE  hM hh h0 (fun v g q => by obtain ⟨x, o, h1, h2, -⟩ := hn v g q; exact ⟨x, o, h1, h2⟩) (fun X g q => (xk1 (hx X g q)).1)) cwh_271 (Nat.le_of_ble_eq_true rfl) (Nat.le_of_ble_eq_true rfl) (by show cu + 1 ≤ room_1.cells; omega) (by show su + 6 ≤ room_1.slots; omega) rfl (Nat.le_of_ble_eq_true rfl) (tbd tv_law_begin rfl) (fun v g q => ?_)
  rcases q with ⟨rfl, x, o, g0, q, e93, rfl⟩ | ⟨rfl, q⟩
  · refine G.eqs [.int 0] rfl ?_
    obtain ⟨x1, o1, e1, e2, hp⟩ := hn _ _ q
    cases e1
    obtain rfl := oJ_inj (e93.symm.trans e2)
    exact lt_begin E _ hE b L xs cu su h sz i hi hL2 hcu hsu Inv 0 hp kk
  · refine G.eqs [.int 1] rfl ?_
    exact lt_begin E _ hE b L xs cu su h sz i hi hL2 hcu hsu Inv 1 (xk1 (hx _ _ q)).2 kk
def tb_law_end : List (Nat × Instr × Nat) := [(2061, .aload_n 1, 1), (2062, .aload_n 3, 1), (2063, .invokestatic 274, 3), (2066, .istore 5, 2), (2068, .aload_n 2, 1), (2069, .invokevirtual 276, 3), (2072, .istore 6, 2), (2074, .aload_n 2, 1), (2075, .invokevirtual 181, 3), (2078, .iload 5, 2), (2080, .if_icmp .eq 5, 3), (2083, .iconst 0, 1), (2084, .ireturn, 1), (2085, .iload 5, 2), (2087, .ifCond .ne 15, 3), (2090, .aload_n 3, 1), (2091, .iconst 0, 1), (2092, .laload, 1), (2093, .iload 6, 2), (2095, .i2l, 1), (2096, .lcmp, 1), (2097, .ifCond .eq 5, 3), (2100, .iconst 0, 1), (2101, .ireturn, 1), (2102, .goto 702, 3)]
theorem tv_law_end : Tv code tb_law_end := by
  unfold Tv
  decide +kernel
theorem w_2747 : Cond.methodLink "LedgerFilesLaw" 276 yX12_end ∈ TB := tp_11 201 (by decide +kernel) rfl
theorem w_2750 : Cond.code yX12_end prog_14_method_128_code 2 (some .int) ∈ TB := tp_11 204 rfl rfl
theorem cw_L_276 : Cw RL 276 yX12_end cX12_end 2 (some .int) 0 := ⟨w_2747, w_2750, w_161, by decide +kernel, by decide +kernel, by decide⟩
theorem w_2748 : Cond.instanceMethod yX12_end ∈ TB := tp_11 202 (by decide +kernel) rfl
theorem w_2749 : Cond.selects "LedgerFilesModel" yX12_end yX12_end ∈ TB := tp_11 203 (by decide +kernel) rfl
set_option maxRecDepth 100000 in
set_option maxHeartbeats 4000000 in
theorem lt_end (E : gE) (f : Nat → va_E) (hE : 94 ≤ gN E) (b L : Nat) (xs : Nat → Int32) (cu su h sz i : Nat) (hi : i + 5 < L) (hL2 : L < 2 ^ 31) (hcu : cu + 2 ≤ room_1.cells) (hsu : su + 12 ≤ room_1.slots) (Inv : (Nat → va_E) → Prop) (k : Int32) (H : PmI E yX12_end cX12_end 2 [] f k Inv) (kk : ∀ g, Inv g → G E (lwK h sz) code (gL b L xs (cu + 1) (su + 6)) 2804 [(0, .ref (b)), (1, .ref (gAd E (0))), (2, .ref (gAd E (56))), (3, .ref (gAd E (93))), (4, .int (nI i))] [] g) : G E (lwK h sz) code (gL b L xs (cu + 1) (su + 6)) 2066 [(0, .ref (b)), (1, .ref (gAd E (0))), (2, .ref (gAd E (56))), (3, .ref (gAd E (93))), (4, .int (nI i))] [.int k] f := by
  obtain ⟨hc, Q, hM, hh, ⟨fs, h56⟩, hno, hq⟩ := H
  refine G.go tv_law_end 2 2069 [(0, .ref (b)), (1, .ref (gAd E (0))), (2, .ref (gAd E (56))), (3, .ref (gAd E (93))), (4, .int (nI i)), (5, .int (k))] [.ref (gAd E (56))] rfl ?_
  refine G.callVr 56 [] [] hM cls_X12 (by omega) h56 cw_L_276 w_2748 w_2749 (Nat.le_trans (Nat.succ_le_succ hh) (Nat.le_of_ble_eq_true rfl)) (Nat.le_trans (Nat.mul_le_mul_left 64 (Nat.succ_le_succ hh)) (Nat.le_of_ble_eq_true rfl)) (by show (cu + 1) + 1 ≤ room_1.cells; omega) (by show (su + 6) + 6 ≤ room_1.slots; omega) rfl (Nat.le_of_ble_eq_true rfl) (tbd tv_law_end rfl) (fun v u q => ?_) (fun X u q => hno X u q)
  obtain ⟨r, R, rfl, rv, hk, ho, hI⟩ := hq v u q
  refine G.eqs [.int (r)] rfl ?_
  refine G.go tv_law_end 2 2075 [(0, .ref (b)), (1, .ref (gAd E (0))), (2, .ref (gAd E (56))), (3, .ref (gAd E (93))), (4, .int (nI i)), (5, .int (k)), (6, .int (r))] [.ref (gAd E (56))] rfl ?_
  refine G.callVr 56 [] [] (c_X12_thrown E u R hE rv) cls_X12 (by omega) rv.o cw_L_181 w_2251 w_2252 (Nat.le_trans (Nat.succ_le_succ (show 1 ≤ 110 by decide)) (Nat.le_of_ble_eq_true rfl)) (Nat.le_trans (Nat.mul_le_mul_left 64 (Nat.succ_le_succ (show 1 ≤ 110 by decide))) (Nat.le_of_ble_eq_true rfl)) (by show (cu + 1) + 1 ≤ room_1.cells; omega) (by show (su + 6) + 6 ≤ room_1.slots; omega) rfl (Nat.le_of_ble_eq_true rfl) (tbd tv_law_end rfl) (fun v w q => ?_) (fun X w q => q)
  obtain ⟨rfl, rv2, fv2⟩ := q
  obtain rfl := RfV.uniq rv rv2 fv2
  refine G.eqs [.int (rS R 0)] rfl ?_
  refine G.go tv_law_end 1 2080 [(0, .ref (b)), (1, .ref (gAd E (0))), (2, .ref (gAd E (56))), (3, .ref (gAd E (93))), (4, .int (nI i)), (5, .int (k)), (6, .int (r))] [.int (k), .int (rS R 0)] rfl ?_
  refine G.cmp_eq 2085 (tbd tv_law_end rfl) (by decide) (fun c2080 => ?_) (fun c2080 => absurd (hk) c2080)
  refine G.go tv_law_end 1 2087 [(0, .ref (b)), (1, .ref (gAd E (0))), (2, .ref (gAd E (56))), (3, .ref (gAd E (93))), (4, .int (nI i)), (5, .int (k)), (6, .int (r))] [.int (k)] rfl ?_
  refine G.if_ne 2102 (tbd tv_law_end rfl) (by decide) (fun c2087 => ?_) (fun c2087 => ?_)
  · skip
    refine G.go tv_law_end 1 2804 [(0, .ref (b)), (1, .ref (gAd E (0))), (2, .ref (gAd E (56))), (3, .ref (gAd E (93))), (4, .int (nI i)), (5, .int (k)), (6, .int (r))] [] rfl ?_
    refine G.drop [0, 1, 2, 3, 4] rfl ?_
    exact kk _ hI
  · skip
    obtain ⟨o, e93, eo⟩ := ho c2087
    refine G.go tv_law_end 2 2092 [(0, .ref (b)), (1, .ref (gAd E (0))), (2, .ref (gAd E (56))), (3, .ref (gAd E (93))), (4, .int (nI i)), (5, .int (k)), (6, .int (r))] [.int ((0 : Int32)), .ref (gAd E (93))] rfl ?_
    refine G.eqs [.int (nI (0)), .ref (gAd E (93))] (by rw [show (0 : Int32) = nI 0 from rfl]) ?_
    refine G.laldN (93) (0) (by omega) (e93) (by decide) (by decide) (tbd tv_law_end rfl) ?_
    refine G.go tv_law_end 3 2097 [(0, .ref (b)), (1, .ref (gAd E (0))), (2, .ref (gAd E (56))), (3, .ref (gAd E (93))), (4, .int (nI i)), (5, .int (k)), (6, .int (r))] [.int (lg_cmp ((o) (0)) ((r : Int32).toInt64))] rfl ?_
    refine G.if_eq 2102 (tbd tv_law_end rfl) (by decide) (fun c2097 => ?_) (fun c2097 => absurd ((lg_cmp_eq _ _).mpr (eo)) c2097)
    refine G.go tv_law_end 1 2804 [(0, .ref (b)), (1, .ref (gAd E (0))), (2, .ref (gAd E (56))), (3, .ref (gAd E (93))), (4, .int (nI i)), (5, .int (k)), (6, .int (r))] [] rfl ?_
    refine G.drop [0, 1, 2, 3, 4] rfl ?_
    exact kk _ hI
theorem w_1821 : Cond.methodLink "LedgerFilesLaw" 274 yL_end ∈ TB := tp_7 235 (by decide +kernel) rfl
theorem w_1822 : Cond.static yL_end ∈ TB := tp_7 236 (by decide +kernel) rfl
theorem cwh_274 : CwH RL 274 yL_end cL_end 3 (some .int) [(0, 8, 11, 13), (0, 8, 14, 15)] 2 := ⟨w_1821, w_1823, w_146, by decide +kernel, by decide +kernel, by decide, w_1822⟩
set_option maxRecDepth 100000 in
set_option maxHeartbeats 4000000 in
theorem k_end (E : gE) (f : Nat → va_E) (hE : 94 ≤ gN E) (b L : Nat) (xs : Nat → Int32) (cu su h sz i : Nat) (hi : i + 5 < L) (hL2 : L < 2 ^ 31) (hcu : cu + 2 ≤ room_1.cells) (hsu : su + 12 ≤ room_1.slots) (Inv : (Nat → va_E) → Prop) (H : CsI E f yX11_end cX11_end 2 yX12_end cX12_end 2 [] [xI, xU] Inv) (kk : ∀ g, Inv g → G E (lwK h sz) code (gL b L xs (cu + 1) (su + 6)) 2804 [(0, .ref (b)), (1, .ref (gAd E (0))), (2, .ref (gAd E (56))), (3, .ref (gAd E (93))), (4, .int (nI i))] [] g) : G E (lwK h sz) code (gL b L xs cu su) 2061 [(0, .ref (b)), (1, .ref (gAd E (0))), (2, .ref (gAd E (56))), (3, .ref (gAd E (93))), (4, .int (nI i))] [] f := by
  obtain ⟨hc, Q, hM, hh, ⟨fs, h0⟩, hn, hx⟩ := H
  refine G.go tv_law_end 2 2063 [(0, .ref (b)), (1, .ref (gAd E (0))), (2, .ref (gAd E (56))), (3, .ref (gAd E (93))), (4, .int (nI i))] [.ref (gAd E (93)), .ref (gAd E (0))] rfl ?_
  refine G.callH [.ref (gAd E (0)), .ref (gAd E (93))] [] (h_L_end E f hE  hM hh h0 (fun v g q => by obtain ⟨x, o, h1, h2, -⟩ := hn v g q; exact ⟨x, o, h1, h2⟩) (fun X g q => (xk2 (hx X g q)).elim (fun a => Or.inl a.1) (fun a => Or.inr a.1))) cwh_274 (Nat.le_of_ble_eq_true rfl) (Nat.le_of_ble_eq_true rfl) (by show cu + 1 ≤ room_1.cells; omega) (by show su + 6 ≤ room_1.slots; omega) rfl (Nat.le_of_ble_eq_true rfl) (tbd tv_law_end rfl) (fun v g q => ?_)
  rcases q with ⟨rfl, x, o, g0, q, e93, rfl⟩ | ⟨rfl, q⟩ | ⟨rfl, q⟩
  · refine G.eqs [.int 0] rfl ?_
    obtain ⟨x1, o1, e1, e2, hp⟩ := hn _ _ q
    cases e1
    obtain rfl := oJ_inj (e93.symm.trans e2)
    exact lt_end E _ hE b L xs cu su h sz i hi hL2 hcu hsu Inv 0 hp kk
  · refine G.eqs [.int 1] rfl ?_
    exact lt_end E _ hE b L xs cu su h sz i hi hL2 hcu hsu Inv 1 ((xk2 (hx _ _ q)).elim (fun a => a.2) (fun a => absurd a.1 (by decide))) kk
  · refine G.eqs [.int 2] rfl ?_
    exact lt_end E _ hE b L xs cu su h sz i hi hL2 hcu hsu Inv 2 ((xk2 (hx _ _ q)).elim (fun a => absurd a.1 (by decide)) (fun a => a.2)) kk
def tb_law_undo : List (Nat × Instr × Nat) := [(2105, .aload_n 1, 1), (2106, .aload_n 3, 1), (2107, .invokestatic 277, 3), (2110, .istore 5, 2), (2112, .aload_n 2, 1), (2113, .invokevirtual 279, 3), (2116, .istore 6, 2), (2118, .aload_n 2, 1), (2119, .invokevirtual 181, 3), (2122, .iload 5, 2), (2124, .if_icmp .eq 5, 3), (2127, .iconst 0, 1), (2128, .ireturn, 1), (2129, .iload 5, 2), (2131, .ifCond .ne 15, 3), (2134, .aload_n 3, 1), (2135, .iconst 0, 1), (2136, .laload, 1), (2137, .iload 6, 2), (2139, .i2l, 1), (2140, .lcmp, 1), (2141, .ifCond .eq 5, 3), (2144, .iconst 0, 1), (2145, .ireturn, 1), (2146, .goto 658, 3)]
theorem tv_law_undo : Tv code tb_law_undo := by
  unfold Tv
  decide +kernel
theorem w_2751 : Cond.methodLink "LedgerFilesLaw" 279 yX12_undo ∈ TB := tp_11 205 (by decide +kernel) rfl
theorem w_2754 : Cond.code yX12_undo prog_14_method_129_code 1 (some .int) ∈ TB := tp_11 208 rfl rfl
theorem cw_L_279 : Cw RL 279 yX12_undo cX12_undo 1 (some .int) 0 := ⟨w_2751, w_2754, w_161, by decide +kernel, by decide +kernel, by decide⟩
theorem w_2752 : Cond.instanceMethod yX12_undo ∈ TB := tp_11 206 (by decide +kernel) rfl
theorem w_2753 : Cond.selects "LedgerFilesModel" yX12_undo yX12_undo ∈ TB := tp_11 207 (by decide +kernel) rfl
set_option maxRecDepth 100000 in
set_option maxHeartbeats 4000000 in
theorem lt_undo (E : gE) (f : Nat → va_E) (hE : 94 ≤ gN E) (b L : Nat) (xs : Nat → Int32) (cu su h sz i : Nat) (hi : i + 5 < L) (hL2 : L < 2 ^ 31) (hcu : cu + 2 ≤ room_1.cells) (hsu : su + 12 ≤ room_1.slots) (Inv : (Nat → va_E) → Prop) (k : Int32) (H : PmI E yX12_undo cX12_undo 1 [] f k Inv) (kk : ∀ g, Inv g → G E (lwK h sz) code (gL b L xs (cu + 1) (su + 6)) 2804 [(0, .ref (b)), (1, .ref (gAd E (0))), (2, .ref (gAd E (56))), (3, .ref (gAd E (93))), (4, .int (nI i))] [] g) : G E (lwK h sz) code (gL b L xs (cu + 1) (su + 6)) 2110 [(0, .ref (b)), (1, .ref (gAd E (0))), (2, .ref (gAd E (56))), (3, .ref (gAd E (93))), (4, .int (nI i))] [.int k] f := by
  obtain ⟨hc, Q, hM, hh, ⟨fs, h56⟩, hno, hq⟩ := H
  refine G.go tv_law_undo 2 2113 [(0, .ref (b)), (1, .ref (gAd E (0))), (2, .ref (gAd E (56))), (3, .ref (gAd E (93))), (4, .int (nI i)), (5, .int (k))] [.ref (gAd E (56))] rfl ?_
  refine G.callVr 56 [] [] hM cls_X12 (by omega) h56 cw_L_279 w_2752 w_2753 (Nat.le_trans (Nat.succ_le_succ hh) (Nat.le_of_ble_eq_true rfl)) (Nat.le_trans (Nat.mul_le_mul_left 64 (Nat.succ_le_succ hh)) (Nat.le_of_ble_eq_true rfl)) (by show (cu + 1) + 1 ≤ room_1.cells; omega) (by show (su + 6) + 6 ≤ room_1.slots; omega) rfl (Nat.le_of_ble_eq_true rfl) (tbd tv_law_undo rfl) (fun v u q => ?_) (fun X u q => hno X u q)
  obtain ⟨r, R, rfl, rv, hk, ho, hI⟩ := hq v u q
  refine G.eqs [.int (r)] rfl ?_
  refine G.go tv_law_undo 2 2119 [(0, .ref (b)), (1, .ref (gAd E (0))), (2, .ref (gAd E (56))), (3, .ref (gAd E (93))), (4, .int (nI i)), (5, .int (k)), (6, .int (r))] [.ref (gAd E (56))] rfl ?_
  refine G.callVr 56 [] [] (c_X12_thrown E u R hE rv) cls_X12 (by omega) rv.o cw_L_181 w_2251 w_2252 (Nat.le_trans (Nat.succ_le_succ (show 1 ≤ 110 by decide)) (Nat.le_of_ble_eq_true rfl)) (Nat.le_trans (Nat.mul_le_mul_left 64 (Nat.succ_le_succ (show 1 ≤ 110 by decide))) (Nat.le_of_ble_eq_true rfl)) (by show (cu + 1) + 1 ≤ room_1.cells; omega) (by show (su + 6) + 6 ≤ room_1.slots; omega) rfl (Nat.le_of_ble_eq_true rfl) (tbd tv_law_undo rfl) (fun v w q => ?_) (fun X w q => q)
  obtain ⟨rfl, rv2, fv2⟩ := q
  obtain rfl := RfV.uniq rv rv2 fv2
  refine G.eqs [.int (rS R 0)] rfl ?_
  refine G.go tv_law_undo 1 2124 [(0, .ref (b)), (1, .ref (gAd E (0))), (2, .ref (gAd E (56))), (3, .ref (gAd E (93))), (4, .int (nI i)), (5, .int (k)), (6, .int (r))] [.int (k), .int (rS R 0)] rfl ?_
  refine G.cmp_eq 2129 (tbd tv_law_undo rfl) (by decide) (fun c2124 => ?_) (fun c2124 => absurd (hk) c2124)
  refine G.go tv_law_undo 1 2131 [(0, .ref (b)), (1, .ref (gAd E (0))), (2, .ref (gAd E (56))), (3, .ref (gAd E (93))), (4, .int (nI i)), (5, .int (k)), (6, .int (r))] [.int (k)] rfl ?_
  refine G.if_ne 2146 (tbd tv_law_undo rfl) (by decide) (fun c2131 => ?_) (fun c2131 => ?_)
  · skip
    refine G.go tv_law_undo 1 2804 [(0, .ref (b)), (1, .ref (gAd E (0))), (2, .ref (gAd E (56))), (3, .ref (gAd E (93))), (4, .int (nI i)), (5, .int (k)), (6, .int (r))] [] rfl ?_
    refine G.drop [0, 1, 2, 3, 4] rfl ?_
    exact kk _ hI
  · skip
    obtain ⟨o, e93, eo⟩ := ho c2131
    refine G.go tv_law_undo 2 2136 [(0, .ref (b)), (1, .ref (gAd E (0))), (2, .ref (gAd E (56))), (3, .ref (gAd E (93))), (4, .int (nI i)), (5, .int (k)), (6, .int (r))] [.int ((0 : Int32)), .ref (gAd E (93))] rfl ?_
    refine G.eqs [.int (nI (0)), .ref (gAd E (93))] (by rw [show (0 : Int32) = nI 0 from rfl]) ?_
    refine G.laldN (93) (0) (by omega) (e93) (by decide) (by decide) (tbd tv_law_undo rfl) ?_
    refine G.go tv_law_undo 3 2141 [(0, .ref (b)), (1, .ref (gAd E (0))), (2, .ref (gAd E (56))), (3, .ref (gAd E (93))), (4, .int (nI i)), (5, .int (k)), (6, .int (r))] [.int (lg_cmp ((o) (0)) ((r : Int32).toInt64))] rfl ?_
    refine G.if_eq 2146 (tbd tv_law_undo rfl) (by decide) (fun c2141 => ?_) (fun c2141 => absurd ((lg_cmp_eq _ _).mpr (eo)) c2141)
    refine G.go tv_law_undo 1 2804 [(0, .ref (b)), (1, .ref (gAd E (0))), (2, .ref (gAd E (56))), (3, .ref (gAd E (93))), (4, .int (nI i)), (5, .int (k)), (6, .int (r))] [] rfl ?_
    refine G.drop [0, 1, 2, 3, 4] rfl ?_
    exact kk _ hI
theorem w_1828 : Cond.methodLink "LedgerFilesLaw" 277 yL_undo ∈ TB := tp_8 2 (by decide +kernel) rfl
theorem w_1829 : Cond.static yL_undo ∈ TB := tp_8 3 (by decide +kernel) rfl
theorem cwh_277 : CwH RL 277 yL_undo cL_undo 3 (some .int) [(0, 8, 11, 13), (0, 8, 14, 15)] 2 := ⟨w_1828, w_1830, w_146, by decide +kernel, by decide +kernel, by decide, w_1829⟩
set_option maxRecDepth 100000 in
set_option maxHeartbeats 4000000 in
theorem k_undo (E : gE) (f : Nat → va_E) (hE : 94 ≤ gN E) (b L : Nat) (xs : Nat → Int32) (cu su h sz i : Nat) (hi : i + 5 < L) (hL2 : L < 2 ^ 31) (hcu : cu + 2 ≤ room_1.cells) (hsu : su + 12 ≤ room_1.slots) (Inv : (Nat → va_E) → Prop) (H : CsI E f yX11_undo cX11_undo 1 yX12_undo cX12_undo 1 [] [xI, xU] Inv) (kk : ∀ g, Inv g → G E (lwK h sz) code (gL b L xs (cu + 1) (su + 6)) 2804 [(0, .ref (b)), (1, .ref (gAd E (0))), (2, .ref (gAd E (56))), (3, .ref (gAd E (93))), (4, .int (nI i))] [] g) : G E (lwK h sz) code (gL b L xs cu su) 2105 [(0, .ref (b)), (1, .ref (gAd E (0))), (2, .ref (gAd E (56))), (3, .ref (gAd E (93))), (4, .int (nI i))] [] f := by
  obtain ⟨hc, Q, hM, hh, ⟨fs, h0⟩, hn, hx⟩ := H
  refine G.go tv_law_undo 2 2107 [(0, .ref (b)), (1, .ref (gAd E (0))), (2, .ref (gAd E (56))), (3, .ref (gAd E (93))), (4, .int (nI i))] [.ref (gAd E (93)), .ref (gAd E (0))] rfl ?_
  refine G.callH [.ref (gAd E (0)), .ref (gAd E (93))] [] (h_L_undo E f hE  hM hh h0 (fun v g q => by obtain ⟨x, o, h1, h2, -⟩ := hn v g q; exact ⟨x, o, h1, h2⟩) (fun X g q => (xk2 (hx X g q)).elim (fun a => Or.inl a.1) (fun a => Or.inr a.1))) cwh_277 (Nat.le_of_ble_eq_true rfl) (Nat.le_of_ble_eq_true rfl) (by show cu + 1 ≤ room_1.cells; omega) (by show su + 6 ≤ room_1.slots; omega) rfl (Nat.le_of_ble_eq_true rfl) (tbd tv_law_undo rfl) (fun v g q => ?_)
  rcases q with ⟨rfl, x, o, g0, q, e93, rfl⟩ | ⟨rfl, q⟩ | ⟨rfl, q⟩
  · refine G.eqs [.int 0] rfl ?_
    obtain ⟨x1, o1, e1, e2, hp⟩ := hn _ _ q
    cases e1
    obtain rfl := oJ_inj (e93.symm.trans e2)
    exact lt_undo E _ hE b L xs cu su h sz i hi hL2 hcu hsu Inv 0 hp kk
  · refine G.eqs [.int 1] rfl ?_
    exact lt_undo E _ hE b L xs cu su h sz i hi hL2 hcu hsu Inv 1 ((xk2 (hx _ _ q)).elim (fun a => a.2) (fun a => absurd a.1 (by decide))) kk
  · refine G.eqs [.int 2] rfl ?_
    exact lt_undo E _ hE b L xs cu su h sz i hi hL2 hcu hsu Inv 2 ((xk2 (hx _ _ q)).elim (fun a => absurd a.1 (by decide)) (fun a => a.2)) kk
def tb_law_flush : List (Nat × Instr × Nat) := [(2149, .aload_n 1, 1), (2150, .aload_n 3, 1), (2151, .invokestatic 280, 3), (2154, .istore 5, 2), (2156, .aload_n 2, 1), (2157, .invokevirtual 282, 3), (2160, .istore 6, 2), (2162, .aload_n 2, 1), (2163, .invokevirtual 181, 3), (2166, .iload 5, 2), (2168, .if_icmp .eq 5, 3), (2171, .iconst 0, 1), (2172, .ireturn, 1), (2173, .iload 5, 2), (2175, .ifCond .ne 15, 3), (2178, .aload_n 3, 1), (2179, .iconst 0, 1), (2180, .laload, 1), (2181, .iload 6, 2), (2183, .i2l, 1), (2184, .lcmp, 1), (2185, .ifCond .eq 5, 3), (2188, .iconst 0, 1), (2189, .ireturn, 1), (2190, .goto 614, 3)]
theorem tv_law_flush : Tv code tb_law_flush := by
  unfold Tv
  decide +kernel
theorem w_2755 : Cond.methodLink "LedgerFilesLaw" 282 yX12_flush ∈ TB := tp_11 209 (by decide +kernel) rfl
theorem w_2758 : Cond.code yX12_flush prog_14_method_130_code 1 (some .int) ∈ TB := tp_11 212 rfl rfl
theorem cw_L_282 : Cw RL 282 yX12_flush cX12_flush 1 (some .int) 0 := ⟨w_2755, w_2758, w_161, by decide +kernel, by decide +kernel, by decide⟩
theorem w_2756 : Cond.instanceMethod yX12_flush ∈ TB := tp_11 210 (by decide +kernel) rfl
theorem w_2757 : Cond.selects "LedgerFilesModel" yX12_flush yX12_flush ∈ TB := tp_11 211 (by decide +kernel) rfl
set_option maxRecDepth 100000 in
set_option maxHeartbeats 4000000 in
theorem lt_flush (E : gE) (f : Nat → va_E) (hE : 94 ≤ gN E) (b L : Nat) (xs : Nat → Int32) (cu su h sz i : Nat) (hi : i + 5 < L) (hL2 : L < 2 ^ 31) (hcu : cu + 2 ≤ room_1.cells) (hsu : su + 12 ≤ room_1.slots) (Inv : (Nat → va_E) → Prop) (k : Int32) (H : PmI E yX12_flush cX12_flush 1 [] f k Inv) (kk : ∀ g, Inv g → G E (lwK h sz) code (gL b L xs (cu + 1) (su + 6)) 2804 [(0, .ref (b)), (1, .ref (gAd E (0))), (2, .ref (gAd E (56))), (3, .ref (gAd E (93))), (4, .int (nI i))] [] g) : G E (lwK h sz) code (gL b L xs (cu + 1) (su + 6)) 2154 [(0, .ref (b)), (1, .ref (gAd E (0))), (2, .ref (gAd E (56))), (3, .ref (gAd E (93))), (4, .int (nI i))] [.int k] f := by
  obtain ⟨hc, Q, hM, hh, ⟨fs, h56⟩, hno, hq⟩ := H
  refine G.go tv_law_flush 2 2157 [(0, .ref (b)), (1, .ref (gAd E (0))), (2, .ref (gAd E (56))), (3, .ref (gAd E (93))), (4, .int (nI i)), (5, .int (k))] [.ref (gAd E (56))] rfl ?_
  refine G.callVr 56 [] [] hM cls_X12 (by omega) h56 cw_L_282 w_2756 w_2757 (Nat.le_trans (Nat.succ_le_succ hh) (Nat.le_of_ble_eq_true rfl)) (Nat.le_trans (Nat.mul_le_mul_left 64 (Nat.succ_le_succ hh)) (Nat.le_of_ble_eq_true rfl)) (by show (cu + 1) + 1 ≤ room_1.cells; omega) (by show (su + 6) + 6 ≤ room_1.slots; omega) rfl (Nat.le_of_ble_eq_true rfl) (tbd tv_law_flush rfl) (fun v u q => ?_) (fun X u q => hno X u q)
  obtain ⟨r, R, rfl, rv, hk, ho, hI⟩ := hq v u q
  refine G.eqs [.int (r)] rfl ?_
  refine G.go tv_law_flush 2 2163 [(0, .ref (b)), (1, .ref (gAd E (0))), (2, .ref (gAd E (56))), (3, .ref (gAd E (93))), (4, .int (nI i)), (5, .int (k)), (6, .int (r))] [.ref (gAd E (56))] rfl ?_
  refine G.callVr 56 [] [] (c_X12_thrown E u R hE rv) cls_X12 (by omega) rv.o cw_L_181 w_2251 w_2252 (Nat.le_trans (Nat.succ_le_succ (show 1 ≤ 110 by decide)) (Nat.le_of_ble_eq_true rfl)) (Nat.le_trans (Nat.mul_le_mul_left 64 (Nat.succ_le_succ (show 1 ≤ 110 by decide))) (Nat.le_of_ble_eq_true rfl)) (by show (cu + 1) + 1 ≤ room_1.cells; omega) (by show (su + 6) + 6 ≤ room_1.slots; omega) rfl (Nat.le_of_ble_eq_true rfl) (tbd tv_law_flush rfl) (fun v w q => ?_) (fun X w q => q)
  obtain ⟨rfl, rv2, fv2⟩ := q
  obtain rfl := RfV.uniq rv rv2 fv2
  refine G.eqs [.int (rS R 0)] rfl ?_
  refine G.go tv_law_flush 1 2168 [(0, .ref (b)), (1, .ref (gAd E (0))), (2, .ref (gAd E (56))), (3, .ref (gAd E (93))), (4, .int (nI i)), (5, .int (k)), (6, .int (r))] [.int (k), .int (rS R 0)] rfl ?_
  refine G.cmp_eq 2173 (tbd tv_law_flush rfl) (by decide) (fun c2168 => ?_) (fun c2168 => absurd (hk) c2168)
  refine G.go tv_law_flush 1 2175 [(0, .ref (b)), (1, .ref (gAd E (0))), (2, .ref (gAd E (56))), (3, .ref (gAd E (93))), (4, .int (nI i)), (5, .int (k)), (6, .int (r))] [.int (k)] rfl ?_
  refine G.if_ne 2190 (tbd tv_law_flush rfl) (by decide) (fun c2175 => ?_) (fun c2175 => ?_)
  · skip
    refine G.go tv_law_flush 1 2804 [(0, .ref (b)), (1, .ref (gAd E (0))), (2, .ref (gAd E (56))), (3, .ref (gAd E (93))), (4, .int (nI i)), (5, .int (k)), (6, .int (r))] [] rfl ?_
    refine G.drop [0, 1, 2, 3, 4] rfl ?_
    exact kk _ hI
  · skip
    obtain ⟨o, e93, eo⟩ := ho c2175
    refine G.go tv_law_flush 2 2180 [(0, .ref (b)), (1, .ref (gAd E (0))), (2, .ref (gAd E (56))), (3, .ref (gAd E (93))), (4, .int (nI i)), (5, .int (k)), (6, .int (r))] [.int ((0 : Int32)), .ref (gAd E (93))] rfl ?_
    refine G.eqs [.int (nI (0)), .ref (gAd E (93))] (by rw [show (0 : Int32) = nI 0 from rfl]) ?_
    refine G.laldN (93) (0) (by omega) (e93) (by decide) (by decide) (tbd tv_law_flush rfl) ?_
    refine G.go tv_law_flush 3 2185 [(0, .ref (b)), (1, .ref (gAd E (0))), (2, .ref (gAd E (56))), (3, .ref (gAd E (93))), (4, .int (nI i)), (5, .int (k)), (6, .int (r))] [.int (lg_cmp ((o) (0)) ((r : Int32).toInt64))] rfl ?_
    refine G.if_eq 2190 (tbd tv_law_flush rfl) (by decide) (fun c2185 => ?_) (fun c2185 => absurd ((lg_cmp_eq _ _).mpr (eo)) c2185)
    refine G.go tv_law_flush 1 2804 [(0, .ref (b)), (1, .ref (gAd E (0))), (2, .ref (gAd E (56))), (3, .ref (gAd E (93))), (4, .int (nI i)), (5, .int (k)), (6, .int (r))] [] rfl ?_
    refine G.drop [0, 1, 2, 3, 4] rfl ?_
    exact kk _ hI
theorem w_1835 : Cond.methodLink "LedgerFilesLaw" 280 yL_flush ∈ TB := tp_8 9 (by decide +kernel) rfl
theorem w_1836 : Cond.static yL_flush ∈ TB := tp_8 10 (by decide +kernel) rfl
theorem cwh_280 : CwH RL 280 yL_flush cL_flush 3 (some .int) [(0, 8, 11, 13), (0, 8, 14, 15)] 2 := ⟨w_1835, w_1837, w_146, by decide +kernel, by decide +kernel, by decide, w_1836⟩
set_option maxRecDepth 100000 in
set_option maxHeartbeats 4000000 in
theorem k_flush (E : gE) (f : Nat → va_E) (hE : 94 ≤ gN E) (b L : Nat) (xs : Nat → Int32) (cu su h sz i : Nat) (hi : i + 5 < L) (hL2 : L < 2 ^ 31) (hcu : cu + 2 ≤ room_1.cells) (hsu : su + 12 ≤ room_1.slots) (Inv : (Nat → va_E) → Prop) (H : CsI E f yX11_flush cX11_flush 1 yX12_flush cX12_flush 1 [] [xI, xU] Inv) (kk : ∀ g, Inv g → G E (lwK h sz) code (gL b L xs (cu + 1) (su + 6)) 2804 [(0, .ref (b)), (1, .ref (gAd E (0))), (2, .ref (gAd E (56))), (3, .ref (gAd E (93))), (4, .int (nI i))] [] g) : G E (lwK h sz) code (gL b L xs cu su) 2149 [(0, .ref (b)), (1, .ref (gAd E (0))), (2, .ref (gAd E (56))), (3, .ref (gAd E (93))), (4, .int (nI i))] [] f := by
  obtain ⟨hc, Q, hM, hh, ⟨fs, h0⟩, hn, hx⟩ := H
  refine G.go tv_law_flush 2 2151 [(0, .ref (b)), (1, .ref (gAd E (0))), (2, .ref (gAd E (56))), (3, .ref (gAd E (93))), (4, .int (nI i))] [.ref (gAd E (93)), .ref (gAd E (0))] rfl ?_
  refine G.callH [.ref (gAd E (0)), .ref (gAd E (93))] [] (h_L_flush E f hE  hM hh h0 (fun v g q => by obtain ⟨x, o, h1, h2, -⟩ := hn v g q; exact ⟨x, o, h1, h2⟩) (fun X g q => (xk2 (hx X g q)).elim (fun a => Or.inl a.1) (fun a => Or.inr a.1))) cwh_280 (Nat.le_of_ble_eq_true rfl) (Nat.le_of_ble_eq_true rfl) (by show cu + 1 ≤ room_1.cells; omega) (by show su + 6 ≤ room_1.slots; omega) rfl (Nat.le_of_ble_eq_true rfl) (tbd tv_law_flush rfl) (fun v g q => ?_)
  rcases q with ⟨rfl, x, o, g0, q, e93, rfl⟩ | ⟨rfl, q⟩ | ⟨rfl, q⟩
  · refine G.eqs [.int 0] rfl ?_
    obtain ⟨x1, o1, e1, e2, hp⟩ := hn _ _ q
    cases e1
    obtain rfl := oJ_inj (e93.symm.trans e2)
    exact lt_flush E _ hE b L xs cu su h sz i hi hL2 hcu hsu Inv 0 hp kk
  · refine G.eqs [.int 1] rfl ?_
    exact lt_flush E _ hE b L xs cu su h sz i hi hL2 hcu hsu Inv 1 ((xk2 (hx _ _ q)).elim (fun a => a.2) (fun a => absurd a.1 (by decide))) kk
  · refine G.eqs [.int 2] rfl ?_
    exact lt_flush E _ hE b L xs cu su h sz i hi hL2 hcu hsu Inv 2 ((xk2 (hx _ _ q)).elim (fun a => absurd a.1 (by decide)) (fun a => a.2)) kk
def tb_law_sync : List (Nat × Instr × Nat) := [(2193, .aload_n 1, 1), (2194, .aload_n 0, 1), (2195, .iload 4, 2), (2197, .iconst 1, 1), (2198, .iadd, 1), (2199, .iaload, 1), (2200, .aload_n 3, 1), (2201, .invokestatic 283, 3), (2204, .istore 5, 2), (2206, .aload_n 2, 1), (2207, .aload_n 0, 1), (2208, .iload 4, 2), (2210, .iconst 1, 1), (2211, .iadd, 1), (2212, .iaload, 1), (2213, .invokevirtual 285, 3), (2216, .istore 6, 2), (2218, .aload_n 2, 1), (2219, .invokevirtual 181, 3), (2222, .iload 5, 2), (2224, .if_icmp .eq 5, 3), (2227, .iconst 0, 1), (2228, .ireturn, 1), (2229, .iload 5, 2), (2231, .ifCond .ne 15, 3), (2234, .aload_n 3, 1), (2235, .iconst 0, 1), (2236, .laload, 1), (2237, .iload 6, 2), (2239, .i2l, 1), (2240, .lcmp, 1), (2241, .ifCond .eq 5, 3), (2244, .iconst 0, 1), (2245, .ireturn, 1), (2246, .goto 558, 3)]
theorem tv_law_sync : Tv code tb_law_sync := by
  unfold Tv
  decide +kernel
theorem w_2759 : Cond.methodLink "LedgerFilesLaw" 285 yX12_sync ∈ TB := tp_11 213 (by decide +kernel) rfl
theorem w_2762 : Cond.code yX12_sync prog_14_method_131_code 7 (some .int) ∈ TB := tp_11 216 rfl rfl
theorem cw_L_285 : Cw RL 285 yX12_sync cX12_sync 7 (some .int) 1 := ⟨w_2759, w_2762, w_161, by decide +kernel, by decide +kernel, by decide⟩
theorem w_2760 : Cond.instanceMethod yX12_sync ∈ TB := tp_11 214 (by decide +kernel) rfl
theorem w_2761 : Cond.selects "LedgerFilesModel" yX12_sync yX12_sync ∈ TB := tp_11 215 (by decide +kernel) rfl
set_option maxRecDepth 100000 in
set_option maxHeartbeats 4000000 in
theorem lt_sync (E : gE) (f : Nat → va_E) (hE : 94 ≤ gN E) (b L : Nat) (xs : Nat → Int32) (cu su h sz i : Nat) (hi : i + 5 < L) (hL2 : L < 2 ^ 31) (hcu : cu + 2 ≤ room_1.cells) (hsu : su + 12 ≤ room_1.slots) (Inv : (Nat → va_E) → Prop) (k : Int32) (H : PmI E yX12_sync cX12_sync 7 [.int (xs (i + 1))] f k Inv) (kk : ∀ g, Inv g → G E (lwK h sz) code (gL b L xs (cu + 1) (su + 6)) 2804 [(0, .ref (b)), (1, .ref (gAd E (0))), (2, .ref (gAd E (56))), (3, .ref (gAd E (93))), (4, .int (nI i))] [] g) : G E (lwK h sz) code (gL b L xs (cu + 1) (su + 6)) 2204 [(0, .ref (b)), (1, .ref (gAd E (0))), (2, .ref (gAd E (56))), (3, .ref (gAd E (93))), (4, .int (nI i))] [.int k] f := by
  obtain ⟨hc, Q, hM, hh, ⟨fs, h56⟩, hno, hq⟩ := H
  refine G.go tv_law_sync 6 2212 [(0, .ref (b)), (1, .ref (gAd E (0))), (2, .ref (gAd E (56))), (3, .ref (gAd E (93))), (4, .int (nI i)), (5, .int (k))] [.int ((nI i) + ((1 : Int32))), .ref (b), .ref (gAd E (56))] rfl ?_
  refine G.eqs [.int (nI (i + 1)), .ref (b), .ref (gAd E (56))] (by rw [show (1 : Int32) = nI 1 from rfl, nI_add]) ?_
  refine G.sld lwY_S lwK_A (i + 1) (by omega) hL2 (tbd tv_law_sync rfl) ?_
  refine G.callVr 56 [.int (xs (i + 1))] [] hM cls_X12 (by omega) h56 cw_L_285 w_2760 w_2761 (Nat.le_trans (Nat.succ_le_succ hh) (Nat.le_of_ble_eq_true rfl)) (Nat.le_trans (Nat.mul_le_mul_left 64 (Nat.succ_le_succ hh)) (Nat.le_of_ble_eq_true rfl)) (by show (cu + 1) + 1 ≤ room_1.cells; omega) (by show (su + 6) + 6 ≤ room_1.slots; omega) rfl (Nat.le_of_ble_eq_true rfl) (tbd tv_law_sync rfl) (fun v u q => ?_) (fun X u q => hno X u q)
  obtain ⟨r, R, rfl, rv, hk, ho, hI⟩ := hq v u q
  refine G.eqs [.int (r)] rfl ?_
  refine G.go tv_law_sync 2 2219 [(0, .ref (b)), (1, .ref (gAd E (0))), (2, .ref (gAd E (56))), (3, .ref (gAd E (93))), (4, .int (nI i)), (5, .int (k)), (6, .int (r))] [.ref (gAd E (56))] rfl ?_
  refine G.callVr 56 [] [] (c_X12_thrown E u R hE rv) cls_X12 (by omega) rv.o cw_L_181 w_2251 w_2252 (Nat.le_trans (Nat.succ_le_succ (show 1 ≤ 110 by decide)) (Nat.le_of_ble_eq_true rfl)) (Nat.le_trans (Nat.mul_le_mul_left 64 (Nat.succ_le_succ (show 1 ≤ 110 by decide))) (Nat.le_of_ble_eq_true rfl)) (by show (cu + 1) + 1 ≤ room_1.cells; omega) (by show (su + 6) + 6 ≤ room_1.slots; omega) rfl (Nat.le_of_ble_eq_true rfl) (tbd tv_law_sync rfl) (fun v w q => ?_) (fun X w q => q)
  obtain ⟨rfl, rv2, fv2⟩ := q
  obtain rfl := RfV.uniq rv rv2 fv2
  refine G.eqs [.int (rS R 0)] rfl ?_
  refine G.go tv_law_sync 1 2224 [(0, .ref (b)), (1, .ref (gAd E (0))), (2, .ref (gAd E (56))), (3, .ref (gAd E (93))), (4, .int (nI i)), (5, .int (k)), (6, .int (r))] [.int (k), .int (rS R 0)] rfl ?_
  refine G.cmp_eq 2229 (tbd tv_law_sync rfl) (by decide) (fun c2224 => ?_) (fun c2224 => absurd (hk) c2224)
  refine G.go tv_law_sync 1 2231 [(0, .ref (b)), (1, .ref (gAd E (0))), (2, .ref (gAd E (56))), (3, .ref (gAd E (93))), (4, .int (nI i)), (5, .int (k)), (6, .int (r))] [.int (k)] rfl ?_
  refine G.if_ne 2246 (tbd tv_law_sync rfl) (by decide) (fun c2231 => ?_) (fun c2231 => ?_)
  · skip
    refine G.go tv_law_sync 1 2804 [(0, .ref (b)), (1, .ref (gAd E (0))), (2, .ref (gAd E (56))), (3, .ref (gAd E (93))), (4, .int (nI i)), (5, .int (k)), (6, .int (r))] [] rfl ?_
    refine G.drop [0, 1, 2, 3, 4] rfl ?_
    exact kk _ hI
  · skip
    obtain ⟨o, e93, eo⟩ := ho c2231
    refine G.go tv_law_sync 2 2236 [(0, .ref (b)), (1, .ref (gAd E (0))), (2, .ref (gAd E (56))), (3, .ref (gAd E (93))), (4, .int (nI i)), (5, .int (k)), (6, .int (r))] [.int ((0 : Int32)), .ref (gAd E (93))] rfl ?_
    refine G.eqs [.int (nI (0)), .ref (gAd E (93))] (by rw [show (0 : Int32) = nI 0 from rfl]) ?_
    refine G.laldN (93) (0) (by omega) (e93) (by decide) (by decide) (tbd tv_law_sync rfl) ?_
    refine G.go tv_law_sync 3 2241 [(0, .ref (b)), (1, .ref (gAd E (0))), (2, .ref (gAd E (56))), (3, .ref (gAd E (93))), (4, .int (nI i)), (5, .int (k)), (6, .int (r))] [.int (lg_cmp ((o) (0)) ((r : Int32).toInt64))] rfl ?_
    refine G.if_eq 2246 (tbd tv_law_sync rfl) (by decide) (fun c2241 => ?_) (fun c2241 => absurd ((lg_cmp_eq _ _).mpr (eo)) c2241)
    refine G.go tv_law_sync 1 2804 [(0, .ref (b)), (1, .ref (gAd E (0))), (2, .ref (gAd E (56))), (3, .ref (gAd E (93))), (4, .int (nI i)), (5, .int (k)), (6, .int (r))] [] rfl ?_
    refine G.drop [0, 1, 2, 3, 4] rfl ?_
    exact kk _ hI
theorem w_1842 : Cond.methodLink "LedgerFilesLaw" 283 yL_sync ∈ TB := tp_8 16 (by decide +kernel) rfl
theorem w_1843 : Cond.static yL_sync ∈ TB := tp_8 17 (by decide +kernel) rfl
theorem cwh_283 : CwH RL 283 yL_sync cL_sync 4 (some .int) [(0, 9, 12, 13), (0, 9, 15, 15)] 3 := ⟨w_1842, w_1844, w_146, by decide +kernel, by decide +kernel, by decide, w_1843⟩
set_option maxRecDepth 100000 in
set_option maxHeartbeats 4000000 in
theorem k_sync (E : gE) (f : Nat → va_E) (hE : 94 ≤ gN E) (b L : Nat) (xs : Nat → Int32) (cu su h sz i : Nat) (hi : i + 5 < L) (hL2 : L < 2 ^ 31) (hcu : cu + 2 ≤ room_1.cells) (hsu : su + 12 ≤ room_1.slots) (Inv : (Nat → va_E) → Prop) (H : CsI E f yX11_sync cX11_sync 6 yX12_sync cX12_sync 7 [.int (xs (i + 1))] [xI, xU] Inv) (kk : ∀ g, Inv g → G E (lwK h sz) code (gL b L xs (cu + 1) (su + 6)) 2804 [(0, .ref (b)), (1, .ref (gAd E (0))), (2, .ref (gAd E (56))), (3, .ref (gAd E (93))), (4, .int (nI i))] [] g) : G E (lwK h sz) code (gL b L xs cu su) 2193 [(0, .ref (b)), (1, .ref (gAd E (0))), (2, .ref (gAd E (56))), (3, .ref (gAd E (93))), (4, .int (nI i))] [] f := by
  obtain ⟨hc, Q, hM, hh, ⟨fs, h0⟩, hn, hx⟩ := H
  refine G.go tv_law_sync 5 2199 [(0, .ref (b)), (1, .ref (gAd E (0))), (2, .ref (gAd E (56))), (3, .ref (gAd E (93))), (4, .int (nI i))] [.int ((nI i) + ((1 : Int32))), .ref (b), .ref (gAd E (0))] rfl ?_
  refine G.eqs [.int (nI (i + 1)), .ref (b), .ref (gAd E (0))] (by rw [show (1 : Int32) = nI 1 from rfl, nI_add]) ?_
  refine G.sld lwY_S lwK_A (i + 1) (by omega) hL2 (tbd tv_law_sync rfl) ?_
  refine G.go tv_law_sync 1 2201 [(0, .ref (b)), (1, .ref (gAd E (0))), (2, .ref (gAd E (56))), (3, .ref (gAd E (93))), (4, .int (nI i))] [.ref (gAd E (93)), .int (xs (i + 1)), .ref (gAd E (0))] rfl ?_
  refine G.callH [.ref (gAd E (0)), .int (xs (i + 1)), .ref (gAd E (93))] [] (h_L_sync E f hE (xs (i + 1)) hM hh h0 (fun v g q => by obtain ⟨x, o, h1, h2, -⟩ := hn v g q; exact ⟨x, o, h1, h2⟩) (fun X g q => (xk2 (hx X g q)).elim (fun a => Or.inl a.1) (fun a => Or.inr a.1))) cwh_283 (Nat.le_of_ble_eq_true rfl) (Nat.le_of_ble_eq_true rfl) (by show cu + 1 ≤ room_1.cells; omega) (by show su + 6 ≤ room_1.slots; omega) rfl (Nat.le_of_ble_eq_true rfl) (tbd tv_law_sync rfl) (fun v g q => ?_)
  rcases q with ⟨rfl, x, o, g0, q, e93, rfl⟩ | ⟨rfl, q⟩ | ⟨rfl, q⟩
  · refine G.eqs [.int 0] rfl ?_
    obtain ⟨x1, o1, e1, e2, hp⟩ := hn _ _ q
    cases e1
    obtain rfl := oJ_inj (e93.symm.trans e2)
    exact lt_sync E _ hE b L xs cu su h sz i hi hL2 hcu hsu Inv 0 hp kk
  · refine G.eqs [.int 1] rfl ?_
    exact lt_sync E _ hE b L xs cu su h sz i hi hL2 hcu hsu Inv 1 ((xk2 (hx _ _ q)).elim (fun a => a.2) (fun a => absurd a.1 (by decide))) kk
  · refine G.eqs [.int 2] rfl ?_
    exact lt_sync E _ hE b L xs cu su h sz i hi hL2 hcu hsu Inv 2 ((xk2 (hx _ _ q)).elim (fun a => absurd a.1 (by decide)) (fun a => a.2)) kk
def tb_law_apply : List (Nat × Instr × Nat) := [(2249, .aload_n 1, 1), (2250, .aload_n 3, 1), (2251, .invokestatic 286, 3), (2254, .istore 5, 2), (2256, .aload_n 2, 1), (2257, .invokevirtual 288, 3), (2260, .istore 6, 2), (2262, .aload_n 2, 1), (2263, .invokevirtual 181, 3), (2266, .iload 5, 2), (2268, .if_icmp .eq 5, 3), (2271, .iconst 0, 1), (2272, .ireturn, 1), (2273, .iload 5, 2), (2275, .ifCond .ne 15, 3), (2278, .aload_n 3, 1), (2279, .iconst 0, 1), (2280, .laload, 1), (2281, .iload 6, 2), (2283, .i2l, 1), (2284, .lcmp, 1), (2285, .ifCond .eq 5, 3), (2288, .iconst 0, 1), (2289, .ireturn, 1), (2290, .goto 514, 3)]
theorem tv_law_apply : Tv code tb_law_apply := by
  unfold Tv
  decide +kernel
theorem w_2763 : Cond.methodLink "LedgerFilesLaw" 288 yX12_apply ∈ TB := tp_11 217 (by decide +kernel) rfl
theorem w_2766 : Cond.code yX12_apply prog_14_method_132_code 2 (some .int) ∈ TB := tp_11 220 rfl rfl
theorem cw_L_288 : Cw RL 288 yX12_apply cX12_apply 2 (some .int) 0 := ⟨w_2763, w_2766, w_161, by decide +kernel, by decide +kernel, by decide⟩
theorem w_2764 : Cond.instanceMethod yX12_apply ∈ TB := tp_11 218 (by decide +kernel) rfl
theorem w_2765 : Cond.selects "LedgerFilesModel" yX12_apply yX12_apply ∈ TB := tp_11 219 (by decide +kernel) rfl
set_option maxRecDepth 100000 in
set_option maxHeartbeats 4000000 in
theorem lt_apply (E : gE) (f : Nat → va_E) (hE : 94 ≤ gN E) (b L : Nat) (xs : Nat → Int32) (cu su h sz i : Nat) (hi : i + 5 < L) (hL2 : L < 2 ^ 31) (hcu : cu + 2 ≤ room_1.cells) (hsu : su + 12 ≤ room_1.slots) (Inv : (Nat → va_E) → Prop) (k : Int32) (H : PmI E yX12_apply cX12_apply 2 [] f k Inv) (kk : ∀ g, Inv g → G E (lwK h sz) code (gL b L xs (cu + 1) (su + 6)) 2804 [(0, .ref (b)), (1, .ref (gAd E (0))), (2, .ref (gAd E (56))), (3, .ref (gAd E (93))), (4, .int (nI i))] [] g) : G E (lwK h sz) code (gL b L xs (cu + 1) (su + 6)) 2254 [(0, .ref (b)), (1, .ref (gAd E (0))), (2, .ref (gAd E (56))), (3, .ref (gAd E (93))), (4, .int (nI i))] [.int k] f := by
  obtain ⟨hc, Q, hM, hh, ⟨fs, h56⟩, hno, hq⟩ := H
  refine G.go tv_law_apply 2 2257 [(0, .ref (b)), (1, .ref (gAd E (0))), (2, .ref (gAd E (56))), (3, .ref (gAd E (93))), (4, .int (nI i)), (5, .int (k))] [.ref (gAd E (56))] rfl ?_
  refine G.callVr 56 [] [] hM cls_X12 (by omega) h56 cw_L_288 w_2764 w_2765 (Nat.le_trans (Nat.succ_le_succ hh) (Nat.le_of_ble_eq_true rfl)) (Nat.le_trans (Nat.mul_le_mul_left 64 (Nat.succ_le_succ hh)) (Nat.le_of_ble_eq_true rfl)) (by show (cu + 1) + 1 ≤ room_1.cells; omega) (by show (su + 6) + 6 ≤ room_1.slots; omega) rfl (Nat.le_of_ble_eq_true rfl) (tbd tv_law_apply rfl) (fun v u q => ?_) (fun X u q => hno X u q)
  obtain ⟨r, R, rfl, rv, hk, ho, hI⟩ := hq v u q
  refine G.eqs [.int (r)] rfl ?_
  refine G.go tv_law_apply 2 2263 [(0, .ref (b)), (1, .ref (gAd E (0))), (2, .ref (gAd E (56))), (3, .ref (gAd E (93))), (4, .int (nI i)), (5, .int (k)), (6, .int (r))] [.ref (gAd E (56))] rfl ?_
  refine G.callVr 56 [] [] (c_X12_thrown E u R hE rv) cls_X12 (by omega) rv.o cw_L_181 w_2251 w_2252 (Nat.le_trans (Nat.succ_le_succ (show 1 ≤ 110 by decide)) (Nat.le_of_ble_eq_true rfl)) (Nat.le_trans (Nat.mul_le_mul_left 64 (Nat.succ_le_succ (show 1 ≤ 110 by decide))) (Nat.le_of_ble_eq_true rfl)) (by show (cu + 1) + 1 ≤ room_1.cells; omega) (by show (su + 6) + 6 ≤ room_1.slots; omega) rfl (Nat.le_of_ble_eq_true rfl) (tbd tv_law_apply rfl) (fun v w q => ?_) (fun X w q => q)
  obtain ⟨rfl, rv2, fv2⟩ := q
  obtain rfl := RfV.uniq rv rv2 fv2
  refine G.eqs [.int (rS R 0)] rfl ?_
  refine G.go tv_law_apply 1 2268 [(0, .ref (b)), (1, .ref (gAd E (0))), (2, .ref (gAd E (56))), (3, .ref (gAd E (93))), (4, .int (nI i)), (5, .int (k)), (6, .int (r))] [.int (k), .int (rS R 0)] rfl ?_
  refine G.cmp_eq 2273 (tbd tv_law_apply rfl) (by decide) (fun c2268 => ?_) (fun c2268 => absurd (hk) c2268)
  refine G.go tv_law_apply 1 2275 [(0, .ref (b)), (1, .ref (gAd E (0))), (2, .ref (gAd E (56))), (3, .ref (gAd E (93))), (4, .int (nI i)), (5, .int (k)), (6, .int (r))] [.int (k)] rfl ?_
  refine G.if_ne 2290 (tbd tv_law_apply rfl) (by decide) (fun c2275 => ?_) (fun c2275 => ?_)
  · skip
    refine G.go tv_law_apply 1 2804 [(0, .ref (b)), (1, .ref (gAd E (0))), (2, .ref (gAd E (56))), (3, .ref (gAd E (93))), (4, .int (nI i)), (5, .int (k)), (6, .int (r))] [] rfl ?_
    refine G.drop [0, 1, 2, 3, 4] rfl ?_
    exact kk _ hI
  · skip
    obtain ⟨o, e93, eo⟩ := ho c2275
    refine G.go tv_law_apply 2 2280 [(0, .ref (b)), (1, .ref (gAd E (0))), (2, .ref (gAd E (56))), (3, .ref (gAd E (93))), (4, .int (nI i)), (5, .int (k)), (6, .int (r))] [.int ((0 : Int32)), .ref (gAd E (93))] rfl ?_
    refine G.eqs [.int (nI (0)), .ref (gAd E (93))] (by rw [show (0 : Int32) = nI 0 from rfl]) ?_
    refine G.laldN (93) (0) (by omega) (e93) (by decide) (by decide) (tbd tv_law_apply rfl) ?_
    refine G.go tv_law_apply 3 2285 [(0, .ref (b)), (1, .ref (gAd E (0))), (2, .ref (gAd E (56))), (3, .ref (gAd E (93))), (4, .int (nI i)), (5, .int (k)), (6, .int (r))] [.int (lg_cmp ((o) (0)) ((r : Int32).toInt64))] rfl ?_
    refine G.if_eq 2290 (tbd tv_law_apply rfl) (by decide) (fun c2285 => ?_) (fun c2285 => absurd ((lg_cmp_eq _ _).mpr (eo)) c2285)
    refine G.go tv_law_apply 1 2804 [(0, .ref (b)), (1, .ref (gAd E (0))), (2, .ref (gAd E (56))), (3, .ref (gAd E (93))), (4, .int (nI i)), (5, .int (k)), (6, .int (r))] [] rfl ?_
    refine G.drop [0, 1, 2, 3, 4] rfl ?_
    exact kk _ hI
theorem w_1860 : Cond.methodLink "LedgerFilesLaw" 286 yL_apply ∈ TB := tp_8 34 (by decide +kernel) rfl
theorem w_1861 : Cond.static yL_apply ∈ TB := tp_8 35 (by decide +kernel) rfl
theorem cwh_286 : CwH RL 286 yL_apply cL_apply 3 (some .int) [(0, 8, 11, 13), (0, 8, 14, 15)] 2 := ⟨w_1860, w_1862, w_146, by decide +kernel, by decide +kernel, by decide, w_1861⟩
set_option maxRecDepth 100000 in
set_option maxHeartbeats 4000000 in
theorem k_apply (E : gE) (f : Nat → va_E) (hE : 94 ≤ gN E) (b L : Nat) (xs : Nat → Int32) (cu su h sz i : Nat) (hi : i + 5 < L) (hL2 : L < 2 ^ 31) (hcu : cu + 2 ≤ room_1.cells) (hsu : su + 12 ≤ room_1.slots) (Inv : (Nat → va_E) → Prop) (H : CsI E f yX11_apply cX11_apply 2 yX12_apply cX12_apply 2 [] [xI, xU] Inv) (kk : ∀ g, Inv g → G E (lwK h sz) code (gL b L xs (cu + 1) (su + 6)) 2804 [(0, .ref (b)), (1, .ref (gAd E (0))), (2, .ref (gAd E (56))), (3, .ref (gAd E (93))), (4, .int (nI i))] [] g) : G E (lwK h sz) code (gL b L xs cu su) 2249 [(0, .ref (b)), (1, .ref (gAd E (0))), (2, .ref (gAd E (56))), (3, .ref (gAd E (93))), (4, .int (nI i))] [] f := by
  obtain ⟨hc, Q, hM, hh, ⟨fs, h0⟩, hn, hx⟩ := H
  refine G.go tv_law_apply 2 2251 [(0, .ref (b)), (1, .ref (gAd E (0))), (2, .ref (gAd E (56))), (3, .ref (gAd E (93))), (4, .int (nI i))] [.ref (gAd E (93)), .ref (gAd E (0))] rfl ?_
  refine G.callH [.ref (gAd E (0)), .ref (gAd E (93))] [] (h_L_apply E f hE  hM hh h0 (fun v g q => by obtain ⟨x, o, h1, h2, -⟩ := hn v g q; exact ⟨x, o, h1, h2⟩) (fun X g q => (xk2 (hx X g q)).elim (fun a => Or.inl a.1) (fun a => Or.inr a.1))) cwh_286 (Nat.le_of_ble_eq_true rfl) (Nat.le_of_ble_eq_true rfl) (by show cu + 1 ≤ room_1.cells; omega) (by show su + 6 ≤ room_1.slots; omega) rfl (Nat.le_of_ble_eq_true rfl) (tbd tv_law_apply rfl) (fun v g q => ?_)
  rcases q with ⟨rfl, x, o, g0, q, e93, rfl⟩ | ⟨rfl, q⟩ | ⟨rfl, q⟩
  · refine G.eqs [.int 0] rfl ?_
    obtain ⟨x1, o1, e1, e2, hp⟩ := hn _ _ q
    cases e1
    obtain rfl := oJ_inj (e93.symm.trans e2)
    exact lt_apply E _ hE b L xs cu su h sz i hi hL2 hcu hsu Inv 0 hp kk
  · refine G.eqs [.int 1] rfl ?_
    exact lt_apply E _ hE b L xs cu su h sz i hi hL2 hcu hsu Inv 1 ((xk2 (hx _ _ q)).elim (fun a => a.2) (fun a => absurd a.1 (by decide))) kk
  · refine G.eqs [.int 2] rfl ?_
    exact lt_apply E _ hE b L xs cu su h sz i hi hL2 hcu hsu Inv 2 ((xk2 (hx _ _ q)).elim (fun a => absurd a.1 (by decide)) (fun a => a.2)) kk
def tb_law_power : List (Nat × Instr × Nat) := [(2293, .aload_n 1, 1), (2294, .aload_n 0, 1), (2295, .iload 4, 2), (2297, .iconst 1, 1), (2298, .iadd, 1), (2299, .iaload, 1), (2300, .invokestatic 289, 3), (2303, .istore 5, 2), (2305, .aload_n 2, 1), (2306, .aload_n 0, 1), (2307, .iload 4, 2), (2309, .iconst 1, 1), (2310, .iadd, 1), (2311, .iaload, 1), (2312, .invokevirtual 292, 3), (2315, .aload_n 2, 1), (2316, .invokevirtual 181, 3), (2319, .iload 5, 2), (2321, .if_icmp .eq 5, 3), (2324, .iconst 0, 1), (2325, .ireturn, 1), (2326, .goto 478, 3)]
theorem tv_law_power : Tv code tb_law_power := by
  unfold Tv
  decide +kernel
theorem w_2767 : Cond.methodLink "LedgerFilesLaw" 292 yX12_power ∈ TB := tp_11 221 (by decide +kernel) rfl
theorem w_2770 : Cond.code yX12_power prog_14_method_133_code 2 none ∈ TB := tp_11 224 rfl rfl
theorem cw_L_292 : Cw RL 292 yX12_power cX12_power 2 none 1 := ⟨w_2767, w_2770, w_161, by decide +kernel, by decide +kernel, by decide⟩
theorem w_2768 : Cond.instanceMethod yX12_power ∈ TB := tp_11 222 (by decide +kernel) rfl
theorem w_2769 : Cond.selects "LedgerFilesModel" yX12_power yX12_power ∈ TB := tp_11 223 (by decide +kernel) rfl
set_option maxRecDepth 100000 in
set_option maxHeartbeats 4000000 in
theorem lt_power (E : gE) (f : Nat → va_E) (hE : 94 ≤ gN E) (b L : Nat) (xs : Nat → Int32) (cu su h sz i : Nat) (hi : i + 5 < L) (hL2 : L < 2 ^ 31) (hcu : cu + 2 ≤ room_1.cells) (hsu : su + 12 ≤ room_1.slots) (Inv : (Nat → va_E) → Prop) (k : Int32) (H : PmV E yX12_power cX12_power 2 [.int (xs (i + 1))] f k Inv) (kk : ∀ g, Inv g → G E (lwK h sz) code (gL b L xs (cu + 1) (su + 6)) 2804 [(0, .ref (b)), (1, .ref (gAd E (0))), (2, .ref (gAd E (56))), (3, .ref (gAd E (93))), (4, .int (nI i))] [] g) : G E (lwK h sz) code (gL b L xs (cu + 1) (su + 6)) 2303 [(0, .ref (b)), (1, .ref (gAd E (0))), (2, .ref (gAd E (56))), (3, .ref (gAd E (93))), (4, .int (nI i))] [.int k] f := by
  obtain ⟨hc, Q, hM, hh, ⟨fs, h56⟩, hno, hq⟩ := H
  refine G.go tv_law_power 6 2311 [(0, .ref (b)), (1, .ref (gAd E (0))), (2, .ref (gAd E (56))), (3, .ref (gAd E (93))), (4, .int (nI i)), (5, .int (k))] [.int ((nI i) + ((1 : Int32))), .ref (b), .ref (gAd E (56))] rfl ?_
  refine G.eqs [.int (nI (i + 1)), .ref (b), .ref (gAd E (56))] (by rw [show (1 : Int32) = nI 1 from rfl, nI_add]) ?_
  refine G.sld lwY_S lwK_A (i + 1) (by omega) hL2 (tbd tv_law_power rfl) ?_
  refine G.callVr 56 [.int (xs (i + 1))] [] hM cls_X12 (by omega) h56 cw_L_292 w_2768 w_2769 (Nat.le_trans (Nat.succ_le_succ hh) (Nat.le_of_ble_eq_true rfl)) (Nat.le_trans (Nat.mul_le_mul_left 64 (Nat.succ_le_succ hh)) (Nat.le_of_ble_eq_true rfl)) (by show (cu + 1) + 1 ≤ room_1.cells; omega) (by show (su + 6) + 6 ≤ room_1.slots; omega) rfl (Nat.le_of_ble_eq_true rfl) (tbd tv_law_power rfl) (fun v u q => ?_) (fun X u q => hno X u q)
  obtain ⟨R, rfl, rv, hk, hI⟩ := hq v u q
  refine G.eqs [] rfl ?_
  refine G.go tv_law_power 1 2316 [(0, .ref (b)), (1, .ref (gAd E (0))), (2, .ref (gAd E (56))), (3, .ref (gAd E (93))), (4, .int (nI i)), (5, .int (k))] [.ref (gAd E (56))] rfl ?_
  refine G.callVr 56 [] [] (c_X12_thrown E u R hE rv) cls_X12 (by omega) rv.o cw_L_181 w_2251 w_2252 (Nat.le_trans (Nat.succ_le_succ (show 1 ≤ 110 by decide)) (Nat.le_of_ble_eq_true rfl)) (Nat.le_trans (Nat.mul_le_mul_left 64 (Nat.succ_le_succ (show 1 ≤ 110 by decide))) (Nat.le_of_ble_eq_true rfl)) (by show (cu + 1) + 1 ≤ room_1.cells; omega) (by show (su + 6) + 6 ≤ room_1.slots; omega) rfl (Nat.le_of_ble_eq_true rfl) (tbd tv_law_power rfl) (fun v w q => ?_) (fun X w q => q)
  obtain ⟨rfl, rv2, fv2⟩ := q
  obtain rfl := RfV.uniq rv rv2 fv2
  refine G.eqs [.int (rS R 0)] rfl ?_
  refine G.go tv_law_power 1 2321 [(0, .ref (b)), (1, .ref (gAd E (0))), (2, .ref (gAd E (56))), (3, .ref (gAd E (93))), (4, .int (nI i)), (5, .int (k))] [.int (k), .int (rS R 0)] rfl ?_
  refine G.cmp_eq 2326 (tbd tv_law_power rfl) (by decide) (fun c2321 => ?_) (fun c2321 => absurd (hk) c2321)
  refine G.go tv_law_power 1 2804 [(0, .ref (b)), (1, .ref (gAd E (0))), (2, .ref (gAd E (56))), (3, .ref (gAd E (93))), (4, .int (nI i)), (5, .int (k))] [] rfl ?_
  refine G.drop [0, 1, 2, 3, 4] rfl ?_
  exact kk _ hI
theorem w_1867 : Cond.methodLink "LedgerFilesLaw" 289 yL_power ∈ TB := tp_8 41 (by decide +kernel) rfl
theorem w_1868 : Cond.static yL_power ∈ TB := tp_8 42 (by decide +kernel) rfl
theorem cwh_289 : CwH RL 289 yL_power cL_power 3 (some .int) [(0, 5, 8, 13), (0, 5, 11, 20)] 2 := ⟨w_1867, w_1869, w_146, by decide +kernel, by decide +kernel, by decide, w_1868⟩
set_option maxRecDepth 100000 in
set_option maxHeartbeats 4000000 in
theorem k_power (E : gE) (f : Nat → va_E) (hE : 94 ≤ gN E) (b L : Nat) (xs : Nat → Int32) (cu su h sz i : Nat) (hi : i + 5 < L) (hL2 : L < 2 ^ 31) (hcu : cu + 2 ≤ room_1.cells) (hsu : su + 12 ≤ room_1.slots) (Inv : (Nat → va_E) → Prop) (H : CsV E f yX11_power cX11_power 2 yX12_power cX12_power 2 [.int (xs (i + 1))] [xI, xA] Inv) (kk : ∀ g, Inv g → G E (lwK h sz) code (gL b L xs (cu + 1) (su + 6)) 2804 [(0, .ref (b)), (1, .ref (gAd E (0))), (2, .ref (gAd E (56))), (3, .ref (gAd E (93))), (4, .int (nI i))] [] g) : G E (lwK h sz) code (gL b L xs cu su) 2293 [(0, .ref (b)), (1, .ref (gAd E (0))), (2, .ref (gAd E (56))), (3, .ref (gAd E (93))), (4, .int (nI i))] [] f := by
  obtain ⟨hc, Q, hM, hh, ⟨fs, h0⟩, hn, hx⟩ := H
  refine G.go tv_law_power 5 2299 [(0, .ref (b)), (1, .ref (gAd E (0))), (2, .ref (gAd E (56))), (3, .ref (gAd E (93))), (4, .int (nI i))] [.int ((nI i) + ((1 : Int32))), .ref (b), .ref (gAd E (0))] rfl ?_
  refine G.eqs [.int (nI (i + 1)), .ref (b), .ref (gAd E (0))] (by rw [show (1 : Int32) = nI 1 from rfl, nI_add]) ?_
  refine G.sld lwY_S lwK_A (i + 1) (by omega) hL2 (tbd tv_law_power rfl) ?_
  refine G.callH [.ref (gAd E (0)), .int (xs (i + 1))] [] (h_L_power E f hE (xs (i + 1)) hM hh h0 (fun v g q => (hn v g q).1) (fun X g q => (xk2 (hx X g q)).elim (fun a => Or.inl a.1) (fun a => Or.inr a.1))) cwh_289 (Nat.le_of_ble_eq_true rfl) (Nat.le_of_ble_eq_true rfl) (by show cu + 1 ≤ room_1.cells; omega) (by show su + 6 ≤ room_1.slots; omega) rfl (Nat.le_of_ble_eq_true rfl) (tbd tv_law_power rfl) (fun v g q => ?_)
  rcases q with ⟨rfl, q⟩ | ⟨rfl, q⟩ | ⟨rfl, q⟩
  · refine G.eqs [.int 0] rfl ?_
    exact lt_power E _ hE b L xs cu su h sz i hi hL2 hcu hsu Inv 0 (hn _ _ q).2 kk
  · refine G.eqs [.int 1] rfl ?_
    exact lt_power E _ hE b L xs cu su h sz i hi hL2 hcu hsu Inv 1 ((xk2 (hx _ _ q)).elim (fun a => a.2) (fun a => absurd a.1 (by decide))) kk
  · refine G.eqs [.int 2] rfl ?_
    exact lt_power E _ hE b L xs cu su h sz i hi hL2 hcu hsu Inv 2 ((xk2 (hx _ _ q)).elim (fun a => absurd a.1 (by decide)) (fun a => a.2)) kk
def tb_law_crash : List (Nat × Instr × Nat) := [(2329, .aload_n 1, 1), (2330, .invokestatic 293, 3), (2333, .istore 5, 2), (2335, .aload_n 2, 1), (2336, .invokevirtual 295, 3), (2339, .aload_n 2, 1), (2340, .invokevirtual 181, 3), (2343, .iload 5, 2), (2345, .if_icmp .eq 5, 3), (2348, .iconst 0, 1), (2349, .ireturn, 1), (2350, .goto 454, 3)]
theorem tv_law_crash : Tv code tb_law_crash := by
  unfold Tv
  decide +kernel
theorem w_2771 : Cond.methodLink "LedgerFilesLaw" 295 yX12_crash ∈ TB := tp_11 225 (by decide +kernel) rfl
theorem w_2774 : Cond.code yX12_crash prog_14_method_134_code 1 none ∈ TB := tp_11 228 rfl rfl
theorem cw_L_295 : Cw RL 295 yX12_crash cX12_crash 1 none 0 := ⟨w_2771, w_2774, w_161, by decide +kernel, by decide +kernel, by decide⟩
theorem w_2772 : Cond.instanceMethod yX12_crash ∈ TB := tp_11 226 (by decide +kernel) rfl
theorem w_2773 : Cond.selects "LedgerFilesModel" yX12_crash yX12_crash ∈ TB := tp_11 227 (by decide +kernel) rfl
set_option maxRecDepth 100000 in
set_option maxHeartbeats 4000000 in
theorem lt_crash (E : gE) (f : Nat → va_E) (hE : 94 ≤ gN E) (b L : Nat) (xs : Nat → Int32) (cu su h sz i : Nat) (hi : i + 5 < L) (hL2 : L < 2 ^ 31) (hcu : cu + 2 ≤ room_1.cells) (hsu : su + 12 ≤ room_1.slots) (Inv : (Nat → va_E) → Prop) (k : Int32) (H : PmV E yX12_crash cX12_crash 1 [] f k Inv) (kk : ∀ g, Inv g → G E (lwK h sz) code (gL b L xs (cu + 1) (su + 6)) 2804 [(0, .ref (b)), (1, .ref (gAd E (0))), (2, .ref (gAd E (56))), (3, .ref (gAd E (93))), (4, .int (nI i))] [] g) : G E (lwK h sz) code (gL b L xs (cu + 1) (su + 6)) 2333 [(0, .ref (b)), (1, .ref (gAd E (0))), (2, .ref (gAd E (56))), (3, .ref (gAd E (93))), (4, .int (nI i))] [.int k] f := by
  obtain ⟨hc, Q, hM, hh, ⟨fs, h56⟩, hno, hq⟩ := H
  refine G.go tv_law_crash 2 2336 [(0, .ref (b)), (1, .ref (gAd E (0))), (2, .ref (gAd E (56))), (3, .ref (gAd E (93))), (4, .int (nI i)), (5, .int (k))] [.ref (gAd E (56))] rfl ?_
  refine G.callVr 56 [] [] hM cls_X12 (by omega) h56 cw_L_295 w_2772 w_2773 (Nat.le_trans (Nat.succ_le_succ hh) (Nat.le_of_ble_eq_true rfl)) (Nat.le_trans (Nat.mul_le_mul_left 64 (Nat.succ_le_succ hh)) (Nat.le_of_ble_eq_true rfl)) (by show (cu + 1) + 1 ≤ room_1.cells; omega) (by show (su + 6) + 6 ≤ room_1.slots; omega) rfl (Nat.le_of_ble_eq_true rfl) (tbd tv_law_crash rfl) (fun v u q => ?_) (fun X u q => hno X u q)
  obtain ⟨R, rfl, rv, hk, hI⟩ := hq v u q
  refine G.eqs [] rfl ?_
  refine G.go tv_law_crash 1 2340 [(0, .ref (b)), (1, .ref (gAd E (0))), (2, .ref (gAd E (56))), (3, .ref (gAd E (93))), (4, .int (nI i)), (5, .int (k))] [.ref (gAd E (56))] rfl ?_
  refine G.callVr 56 [] [] (c_X12_thrown E u R hE rv) cls_X12 (by omega) rv.o cw_L_181 w_2251 w_2252 (Nat.le_trans (Nat.succ_le_succ (show 1 ≤ 110 by decide)) (Nat.le_of_ble_eq_true rfl)) (Nat.le_trans (Nat.mul_le_mul_left 64 (Nat.succ_le_succ (show 1 ≤ 110 by decide))) (Nat.le_of_ble_eq_true rfl)) (by show (cu + 1) + 1 ≤ room_1.cells; omega) (by show (su + 6) + 6 ≤ room_1.slots; omega) rfl (Nat.le_of_ble_eq_true rfl) (tbd tv_law_crash rfl) (fun v w q => ?_) (fun X w q => q)
  obtain ⟨rfl, rv2, fv2⟩ := q
  obtain rfl := RfV.uniq rv rv2 fv2
  refine G.eqs [.int (rS R 0)] rfl ?_
  refine G.go tv_law_crash 1 2345 [(0, .ref (b)), (1, .ref (gAd E (0))), (2, .ref (gAd E (56))), (3, .ref (gAd E (93))), (4, .int (nI i)), (5, .int (k))] [.int (k), .int (rS R 0)] rfl ?_
  refine G.cmp_eq 2350 (tbd tv_law_crash rfl) (by decide) (fun c2345 => ?_) (fun c2345 => absurd (hk) c2345)
  refine G.go tv_law_crash 1 2804 [(0, .ref (b)), (1, .ref (gAd E (0))), (2, .ref (gAd E (56))), (3, .ref (gAd E (93))), (4, .int (nI i)), (5, .int (k))] [] rfl ?_
  refine G.drop [0, 1, 2, 3, 4] rfl ?_
  exact kk _ hI
theorem w_1880 : Cond.methodLink "LedgerFilesLaw" 293 yL_crash ∈ TB := tp_8 54 (by decide +kernel) rfl
theorem w_1881 : Cond.static yL_crash ∈ TB := tp_8 55 (by decide +kernel) rfl
theorem cwh_293 : CwH RL 293 yL_crash cL_crash 2 (some .int) [(0, 4, 7, 13)] 1 := ⟨w_1880, w_1882, w_146, by decide +kernel, by decide +kernel, by decide, w_1881⟩
set_option maxRecDepth 100000 in
set_option maxHeartbeats 4000000 in
theorem k_crash (E : gE) (f : Nat → va_E) (hE : 94 ≤ gN E) (b L : Nat) (xs : Nat → Int32) (cu su h sz i : Nat) (hi : i + 5 < L) (hL2 : L < 2 ^ 31) (hcu : cu + 2 ≤ room_1.cells) (hsu : su + 12 ≤ room_1.slots) (Inv : (Nat → va_E) → Prop) (H : CsV E f yX11_crash cX11_crash 1 yX12_crash cX12_crash 1 [] [xI] Inv) (kk : ∀ g, Inv g → G E (lwK h sz) code (gL b L xs (cu + 1) (su + 6)) 2804 [(0, .ref (b)), (1, .ref (gAd E (0))), (2, .ref (gAd E (56))), (3, .ref (gAd E (93))), (4, .int (nI i))] [] g) : G E (lwK h sz) code (gL b L xs cu su) 2329 [(0, .ref (b)), (1, .ref (gAd E (0))), (2, .ref (gAd E (56))), (3, .ref (gAd E (93))), (4, .int (nI i))] [] f := by
  obtain ⟨hc, Q, hM, hh, ⟨fs, h0⟩, hn, hx⟩ := H
  refine G.go tv_law_crash 1 2330 [(0, .ref (b)), (1, .ref (gAd E (0))), (2, .ref (gAd E (56))), (3, .ref (gAd E (93))), (4, .int (nI i))] [.ref (gAd E (0))] rfl ?_
  refine G.callH [.ref (gAd E (0))] [] (h_L_crash E f hE  hM hh h0 (fun v g q => (hn v g q).1) (fun X g q => (xk1 (hx X g q)).1)) cwh_293 (Nat.le_of_ble_eq_true rfl) (Nat.le_of_ble_eq_true rfl) (by show cu + 1 ≤ room_1.cells; omega) (by show su + 6 ≤ room_1.slots; omega) rfl (Nat.le_of_ble_eq_true rfl) (tbd tv_law_crash rfl) (fun v g q => ?_)
  rcases q with ⟨rfl, q⟩ | ⟨rfl, q⟩
  · refine G.eqs [.int 0] rfl ?_
    exact lt_crash E _ hE b L xs cu su h sz i hi hL2 hcu hsu Inv 0 (hn _ _ q).2 kk
  · refine G.eqs [.int 1] rfl ?_
    exact lt_crash E _ hE b L xs cu su h sz i hi hL2 hcu hsu Inv 1 (xk1 (hx _ _ q)).2 kk
def tb_law_restart : List (Nat × Instr × Nat) := [(2353, .aload_n 1, 1), (2354, .aload_n 0, 1), (2355, .iload 4, 2), (2357, .iconst 1, 1), (2358, .iadd, 1), (2359, .iaload, 1), (2360, .i2l, 1), (2361, .bipush 32, 2), (2363, .lshl, 1), (2364, .aload_n 0, 1), (2365, .iload 4, 2), (2367, .iconst 2, 1), (2368, .iadd, 1), (2369, .iaload, 1), (2370, .i2l, 1), (2371, .ldc2_w 296, 3), (2374, .land, 1), (2375, .lor, 1), (2376, .aload_n 3, 1), (2377, .invokestatic 298, 3), (2380, .istore 5, 2), (2382, .aload_n 2, 1), (2383, .aload_n 0, 1), (2384, .iload 4, 2), (2386, .iconst 1, 1), (2387, .iadd, 1), (2388, .iaload, 1), (2389, .i2l, 1), (2390, .bipush 32, 2), (2392, .lshl, 1), (2393, .aload_n 0, 1), (2394, .iload 4, 2), (2396, .iconst 2, 1), (2397, .iadd, 1), (2398, .iaload, 1), (2399, .i2l, 1), (2400, .ldc2_w 296, 3), (2403, .land, 1), (2404, .lor, 1), (2405, .invokevirtual 301, 3), (2408, .istore 6, 2), (2410, .aload_n 2, 1), (2411, .invokevirtual 181, 3), (2414, .iload 5, 2), (2416, .if_icmp .eq 5, 3), (2419, .iconst 0, 1), (2420, .ireturn, 1), (2421, .iload 5, 2), (2423, .ifCond .ne 15, 3), (2426, .aload_n 3, 1), (2427, .iconst 0, 1), (2428, .laload, 1), (2429, .iload 6, 2), (2431, .i2l, 1), (2432, .lcmp, 1), (2433, .ifCond .eq 5, 3), (2436, .iconst 0, 1), (2437, .ireturn, 1), (2438, .goto 366, 3)]
theorem tv_law_restart : Tv code tb_law_restart := by
  unfold Tv
  decide +kernel
theorem w_2832 : Cond.constantLong "LedgerFilesLaw" 296 (4294967295 : Int64) ∈ TB := tp_12 46 (by decide +kernel) rfl
theorem w_2775 : Cond.methodLink "LedgerFilesLaw" 301 yX12_restart ∈ TB := tp_11 229 (by decide +kernel) rfl
theorem w_2778 : Cond.code yX12_restart prog_14_method_136_code 12 (some .int) ∈ TB := tp_11 232 rfl rfl
theorem cw_L_301 : Cw RL 301 yX12_restart cX12_restart 12 (some .int) 1 := ⟨w_2775, w_2778, w_161, by decide +kernel, by decide +kernel, by decide⟩
theorem w_2776 : Cond.instanceMethod yX12_restart ∈ TB := tp_11 230 (by decide +kernel) rfl
theorem w_2777 : Cond.selects "LedgerFilesModel" yX12_restart yX12_restart ∈ TB := tp_11 231 (by decide +kernel) rfl
set_option maxRecDepth 100000 in
set_option maxHeartbeats 4000000 in
theorem lt_restart (E : gE) (f : Nat → va_E) (hE : 94 ≤ gN E) (b L : Nat) (xs : Nat → Int32) (cu su h sz i : Nat) (hi : i + 5 < L) (hL2 : L < 2 ^ 31) (hcu : cu + 2 ≤ room_1.cells) (hsu : su + 12 ≤ room_1.slots) (Inv : (Nat → va_E) → Prop) (k : Int32) (H : PmI E yX12_restart cX12_restart 12 [.long ((((xs (i + 1) : Int32).toInt64) <<< (((32 : Int32) : Int32).toInt64 &&& 63)) ||| (((xs (i + 2) : Int32).toInt64) &&& ((4294967295 : Int64))))] f k Inv) (kk : ∀ g, Inv g → G E (lwK h sz) code (gL b L xs (cu + 1) (su + 6)) 2804 [(0, .ref (b)), (1, .ref (gAd E (0))), (2, .ref (gAd E (56))), (3, .ref (gAd E (93))), (4, .int (nI i))] [] g) : G E (lwK h sz) code (gL b L xs (cu + 1) (su + 6)) 2380 [(0, .ref (b)), (1, .ref (gAd E (0))), (2, .ref (gAd E (56))), (3, .ref (gAd E (93))), (4, .int (nI i))] [.int k] f := by
  obtain ⟨hc, Q, hM, hh, ⟨fs, h56⟩, hno, hq⟩ := H
  refine G.go tv_law_restart 6 2388 [(0, .ref (b)), (1, .ref (gAd E (0))), (2, .ref (gAd E (56))), (3, .ref (gAd E (93))), (4, .int (nI i)), (5, .int (k))] [.int ((nI i) + ((1 : Int32))), .ref (b), .ref (gAd E (56))] rfl ?_
  refine G.eqs [.int (nI (i + 1)), .ref (b), .ref (gAd E (56))] (by rw [show (1 : Int32) = nI 1 from rfl, nI_add]) ?_
  refine G.sld lwY_S lwK_A (i + 1) (by omega) hL2 (tbd tv_law_restart rfl) ?_
  refine G.go tv_law_restart 7 2398 [(0, .ref (b)), (1, .ref (gAd E (0))), (2, .ref (gAd E (56))), (3, .ref (gAd E (93))), (4, .int (nI i)), (5, .int (k))] [.int ((nI i) + ((2 : Int32))), .ref (b), .long (((xs (i + 1) : Int32).toInt64) <<< (((32 : Int32) : Int32).toInt64 &&& 63)), .ref (gAd E (56))] rfl ?_
  refine G.eqs [.int (nI (i + 2)), .ref (b), .long (((xs (i + 1) : Int32).toInt64) <<< (((32 : Int32) : Int32).toInt64 &&& 63)), .ref (gAd E (56))] (by rw [show (2 : Int32) = nI 2 from rfl, nI_add]) ?_
  refine G.sld lwY_S lwK_A (i + 2) (by omega) hL2 (tbd tv_law_restart rfl) ?_
  refine G.go tv_law_restart 1 2400 [(0, .ref (b)), (1, .ref (gAd E (0))), (2, .ref (gAd E (56))), (3, .ref (gAd E (93))), (4, .int (nI i)), (5, .int (k))] [.long ((xs (i + 2) : Int32).toInt64), .long (((xs (i + 1) : Int32).toInt64) <<< (((32 : Int32) : Int32).toInt64 &&& 63)), .ref (gAd E (56))] rfl ?_
  refine G.ldc2 (4294967295) (tbd tv_law_restart rfl) w_2832 ?_
  refine G.go tv_law_restart 2 2405 [(0, .ref (b)), (1, .ref (gAd E (0))), (2, .ref (gAd E (56))), (3, .ref (gAd E (93))), (4, .int (nI i)), (5, .int (k))] [.long ((((xs (i + 1) : Int32).toInt64) <<< (((32 : Int32) : Int32).toInt64 &&& 63)) ||| (((xs (i + 2) : Int32).toInt64) &&& ((4294967295 : Int64)))), .ref (gAd E (56))] rfl ?_
  refine G.callVr 56 [.long ((((xs (i + 1) : Int32).toInt64) <<< (((32 : Int32) : Int32).toInt64 &&& 63)) ||| (((xs (i + 2) : Int32).toInt64) &&& ((4294967295 : Int64))))] [] hM cls_X12 (by omega) h56 cw_L_301 w_2776 w_2777 (Nat.le_trans (Nat.succ_le_succ hh) (Nat.le_of_ble_eq_true rfl)) (Nat.le_trans (Nat.mul_le_mul_left 64 (Nat.succ_le_succ hh)) (Nat.le_of_ble_eq_true rfl)) (by show (cu + 1) + 1 ≤ room_1.cells; omega) (by show (su + 6) + 6 ≤ room_1.slots; omega) rfl (Nat.le_of_ble_eq_true rfl) (tbd tv_law_restart rfl) (fun v u q => ?_) (fun X u q => hno X u q)
  obtain ⟨r, R, rfl, rv, hk, ho, hI⟩ := hq v u q
  refine G.eqs [.int (r)] rfl ?_
  refine G.go tv_law_restart 2 2411 [(0, .ref (b)), (1, .ref (gAd E (0))), (2, .ref (gAd E (56))), (3, .ref (gAd E (93))), (4, .int (nI i)), (5, .int (k)), (6, .int (r))] [.ref (gAd E (56))] rfl ?_
  refine G.callVr 56 [] [] (c_X12_thrown E u R hE rv) cls_X12 (by omega) rv.o cw_L_181 w_2251 w_2252 (Nat.le_trans (Nat.succ_le_succ (show 1 ≤ 110 by decide)) (Nat.le_of_ble_eq_true rfl)) (Nat.le_trans (Nat.mul_le_mul_left 64 (Nat.succ_le_succ (show 1 ≤ 110 by decide))) (Nat.le_of_ble_eq_true rfl)) (by show (cu + 1) + 1 ≤ room_1.cells; omega) (by show (su + 6) + 6 ≤ room_1.slots; omega) rfl (Nat.le_of_ble_eq_true rfl) (tbd tv_law_restart rfl) (fun v w q => ?_) (fun X w q => q)
  obtain ⟨rfl, rv2, fv2⟩ := q
  obtain rfl := RfV.uniq rv rv2 fv2
  refine G.eqs [.int (rS R 0)] rfl ?_
  refine G.go tv_law_restart 1 2416 [(0, .ref (b)), (1, .ref (gAd E (0))), (2, .ref (gAd E (56))), (3, .ref (gAd E (93))), (4, .int (nI i)), (5, .int (k)), (6, .int (r))] [.int (k), .int (rS R 0)] rfl ?_
  refine G.cmp_eq 2421 (tbd tv_law_restart rfl) (by decide) (fun c2416 => ?_) (fun c2416 => absurd (hk) c2416)
  refine G.go tv_law_restart 1 2423 [(0, .ref (b)), (1, .ref (gAd E (0))), (2, .ref (gAd E (56))), (3, .ref (gAd E (93))), (4, .int (nI i)), (5, .int (k)), (6, .int (r))] [.int (k)] rfl ?_
  refine G.if_ne 2438 (tbd tv_law_restart rfl) (by decide) (fun c2423 => ?_) (fun c2423 => ?_)
  · skip
    refine G.go tv_law_restart 1 2804 [(0, .ref (b)), (1, .ref (gAd E (0))), (2, .ref (gAd E (56))), (3, .ref (gAd E (93))), (4, .int (nI i)), (5, .int (k)), (6, .int (r))] [] rfl ?_
    refine G.drop [0, 1, 2, 3, 4] rfl ?_
    exact kk _ hI
  · skip
    obtain ⟨o, e93, eo⟩ := ho c2423
    refine G.go tv_law_restart 2 2428 [(0, .ref (b)), (1, .ref (gAd E (0))), (2, .ref (gAd E (56))), (3, .ref (gAd E (93))), (4, .int (nI i)), (5, .int (k)), (6, .int (r))] [.int ((0 : Int32)), .ref (gAd E (93))] rfl ?_
    refine G.eqs [.int (nI (0)), .ref (gAd E (93))] (by rw [show (0 : Int32) = nI 0 from rfl]) ?_
    refine G.laldN (93) (0) (by omega) (e93) (by decide) (by decide) (tbd tv_law_restart rfl) ?_
    refine G.go tv_law_restart 3 2433 [(0, .ref (b)), (1, .ref (gAd E (0))), (2, .ref (gAd E (56))), (3, .ref (gAd E (93))), (4, .int (nI i)), (5, .int (k)), (6, .int (r))] [.int (lg_cmp ((o) (0)) ((r : Int32).toInt64))] rfl ?_
    refine G.if_eq 2438 (tbd tv_law_restart rfl) (by decide) (fun c2433 => ?_) (fun c2433 => absurd ((lg_cmp_eq _ _).mpr (eo)) c2433)
    refine G.go tv_law_restart 1 2804 [(0, .ref (b)), (1, .ref (gAd E (0))), (2, .ref (gAd E (56))), (3, .ref (gAd E (93))), (4, .int (nI i)), (5, .int (k)), (6, .int (r))] [] rfl ?_
    refine G.drop [0, 1, 2, 3, 4] rfl ?_
    exact kk _ hI
theorem w_1891 : Cond.methodLink "LedgerFilesLaw" 298 yL_restart ∈ TB := tp_8 65 (by decide +kernel) rfl
theorem w_1892 : Cond.static yL_restart ∈ TB := tp_8 66 (by decide +kernel) rfl
theorem cwh_298 : CwH RL 298 yL_restart cL_restart 5 (some .int) [(0, 9, 12, 13)] 3 := ⟨w_1891, w_1893, w_146, by decide +kernel, by decide +kernel, by decide, w_1892⟩
set_option maxRecDepth 100000 in
set_option maxHeartbeats 4000000 in
theorem k_restart (E : gE) (f : Nat → va_E) (hE : 94 ≤ gN E) (b L : Nat) (xs : Nat → Int32) (cu su h sz i : Nat) (hi : i + 5 < L) (hL2 : L < 2 ^ 31) (hcu : cu + 2 ≤ room_1.cells) (hsu : su + 12 ≤ room_1.slots) (Inv : (Nat → va_E) → Prop) (H : CsI E f yX11_restart cX11_restart 3 yX12_restart cX12_restart 12 [.long ((((xs (i + 1) : Int32).toInt64) <<< (((32 : Int32) : Int32).toInt64 &&& 63)) ||| (((xs (i + 2) : Int32).toInt64) &&& ((4294967295 : Int64))))] [xI] Inv) (kk : ∀ g, Inv g → G E (lwK h sz) code (gL b L xs (cu + 1) (su + 6)) 2804 [(0, .ref (b)), (1, .ref (gAd E (0))), (2, .ref (gAd E (56))), (3, .ref (gAd E (93))), (4, .int (nI i))] [] g) : G E (lwK h sz) code (gL b L xs cu su) 2353 [(0, .ref (b)), (1, .ref (gAd E (0))), (2, .ref (gAd E (56))), (3, .ref (gAd E (93))), (4, .int (nI i))] [] f := by
  obtain ⟨hc, Q, hM, hh, ⟨fs, h0⟩, hn, hx⟩ := H
  refine G.go tv_law_restart 5 2359 [(0, .ref (b)), (1, .ref (gAd E (0))), (2, .ref (gAd E (56))), (3, .ref (gAd E (93))), (4, .int (nI i))] [.int ((nI i) + ((1 : Int32))), .ref (b), .ref (gAd E (0))] rfl ?_
  refine G.eqs [.int (nI (i + 1)), .ref (b), .ref (gAd E (0))] (by rw [show (1 : Int32) = nI 1 from rfl, nI_add]) ?_
  refine G.sld lwY_S lwK_A (i + 1) (by omega) hL2 (tbd tv_law_restart rfl) ?_
  refine G.go tv_law_restart 7 2369 [(0, .ref (b)), (1, .ref (gAd E (0))), (2, .ref (gAd E (56))), (3, .ref (gAd E (93))), (4, .int (nI i))] [.int ((nI i) + ((2 : Int32))), .ref (b), .long (((xs (i + 1) : Int32).toInt64) <<< (((32 : Int32) : Int32).toInt64 &&& 63)), .ref (gAd E (0))] rfl ?_
  refine G.eqs [.int (nI (i + 2)), .ref (b), .long (((xs (i + 1) : Int32).toInt64) <<< (((32 : Int32) : Int32).toInt64 &&& 63)), .ref (gAd E (0))] (by rw [show (2 : Int32) = nI 2 from rfl, nI_add]) ?_
  refine G.sld lwY_S lwK_A (i + 2) (by omega) hL2 (tbd tv_law_restart rfl) ?_
  refine G.go tv_law_restart 1 2371 [(0, .ref (b)), (1, .ref (gAd E (0))), (2, .ref (gAd E (56))), (3, .ref (gAd E (93))), (4, .int (nI i))] [.long ((xs (i + 2) : Int32).toInt64), .long (((xs (i + 1) : Int32).toInt64) <<< (((32 : Int32) : Int32).toInt64 &&& 63)), .ref (gAd E (0))] rfl ?_
  refine G.ldc2 (4294967295) (tbd tv_law_restart rfl) w_2832 ?_
  refine G.go tv_law_restart 3 2377 [(0, .ref (b)), (1, .ref (gAd E (0))), (2, .ref (gAd E (56))), (3, .ref (gAd E (93))), (4, .int (nI i))] [.ref (gAd E (93)), .long ((((xs (i + 1) : Int32).toInt64) <<< (((32 : Int32) : Int32).toInt64 &&& 63)) ||| (((xs (i + 2) : Int32).toInt64) &&& ((4294967295 : Int64)))), .ref (gAd E (0))] rfl ?_
  refine G.callH [.ref (gAd E (0)), .long ((((xs (i + 1) : Int32).toInt64) <<< (((32 : Int32) : Int32).toInt64 &&& 63)) ||| (((xs (i + 2) : Int32).toInt64) &&& ((4294967295 : Int64)))), .ref (gAd E (93))] [] (h_L_restart E f hE ((((xs (i + 1) : Int32).toInt64) <<< (((32 : Int32) : Int32).toInt64 &&& 63)) ||| (((xs (i + 2) : Int32).toInt64) &&& ((4294967295 : Int64)))) hM hh h0 (fun v g q => by obtain ⟨x, o, h1, h2, -⟩ := hn v g q; exact ⟨x, o, h1, h2⟩) (fun X g q => (xk1 (hx X g q)).1)) cwh_298 (Nat.le_of_ble_eq_true rfl) (Nat.le_of_ble_eq_true rfl) (by show cu + 1 ≤ room_1.cells; omega) (by show su + 6 ≤ room_1.slots; omega) rfl (Nat.le_of_ble_eq_true rfl) (tbd tv_law_restart rfl) (fun v g q => ?_)
  rcases q with ⟨rfl, x, o, g0, q, e93, rfl⟩ | ⟨rfl, q⟩
  · refine G.eqs [.int 0] rfl ?_
    obtain ⟨x1, o1, e1, e2, hp⟩ := hn _ _ q
    cases e1
    obtain rfl := oJ_inj (e93.symm.trans e2)
    exact lt_restart E _ hE b L xs cu su h sz i hi hL2 hcu hsu Inv 0 hp kk
  · refine G.eqs [.int 1] rfl ?_
    exact lt_restart E _ hE b L xs cu su h sz i hi hL2 hcu hsu Inv 1 (xk1 (hx _ _ q)).2 kk
def tb_law_byteAt : List (Nat × Instr × Nat) := [(2441, .aload_n 1, 1), (2442, .aload_n 0, 1), (2443, .iload 4, 2), (2445, .iconst 1, 1), (2446, .iadd, 1), (2447, .iaload, 1), (2448, .aload_n 0, 1), (2449, .iload 4, 2), (2451, .iconst 2, 1), (2452, .iadd, 1), (2453, .iaload, 1), (2454, .aload_n 3, 1), (2455, .invokestatic 302, 3), (2458, .istore 5, 2), (2460, .aload_n 2, 1), (2461, .aload_n 0, 1), (2462, .iload 4, 2), (2464, .iconst 1, 1), (2465, .iadd, 1), (2466, .iaload, 1), (2467, .aload_n 0, 1), (2468, .iload 4, 2), (2470, .iconst 2, 1), (2471, .iadd, 1), (2472, .iaload, 1), (2473, .invokevirtual 304, 3), (2476, .istore 6, 2), (2478, .aload_n 2, 1), (2479, .invokevirtual 181, 3), (2482, .iload 5, 2), (2484, .if_icmp .eq 5, 3), (2487, .iconst 0, 1), (2488, .ireturn, 1), (2489, .iload 5, 2), (2491, .ifCond .ne 15, 3), (2494, .aload_n 3, 1), (2495, .iconst 0, 1), (2496, .laload, 1), (2497, .iload 6, 2), (2499, .i2l, 1), (2500, .lcmp, 1), (2501, .ifCond .eq 5, 3), (2504, .iconst 0, 1), (2505, .ireturn, 1), (2506, .goto 298, 3)]
theorem tv_law_byteAt : Tv code tb_law_byteAt := by
  unfold Tv
  decide +kernel
theorem w_2785 : Cond.methodLink "LedgerFilesLaw" 304 yX12_byteAt ∈ TB := tp_11 239 (by decide +kernel) rfl
theorem w_2788 : Cond.code yX12_byteAt prog_14_method_138_code 3 (some .int) ∈ TB := tp_12 2 rfl rfl
theorem cw_L_304 : Cw RL 304 yX12_byteAt cX12_byteAt 3 (some .int) 2 := ⟨w_2785, w_2788, w_161, by decide +kernel, by decide +kernel, by decide⟩
theorem w_2786 : Cond.instanceMethod yX12_byteAt ∈ TB := tp_12 0 (by decide +kernel) rfl
theorem w_2787 : Cond.selects "LedgerFilesModel" yX12_byteAt yX12_byteAt ∈ TB := tp_12 1 (by decide +kernel) rfl
set_option maxRecDepth 100000 in
set_option maxHeartbeats 4000000 in
theorem lt_byteAt (E : gE) (f : Nat → va_E) (hE : 94 ≤ gN E) (b L : Nat) (xs : Nat → Int32) (cu su h sz i : Nat) (hi : i + 5 < L) (hL2 : L < 2 ^ 31) (hcu : cu + 2 ≤ room_1.cells) (hsu : su + 12 ≤ room_1.slots) (Inv : (Nat → va_E) → Prop) (k : Int32) (H : PmI E yX12_byteAt cX12_byteAt 3 [.int (xs (i + 1)), .int (xs (i + 2))] f k Inv) (kk : ∀ g, Inv g → G E (lwK h sz) code (gL b L xs (cu + 1) (su + 6)) 2804 [(0, .ref (b)), (1, .ref (gAd E (0))), (2, .ref (gAd E (56))), (3, .ref (gAd E (93))), (4, .int (nI i))] [] g) : G E (lwK h sz) code (gL b L xs (cu + 1) (su + 6)) 2458 [(0, .ref (b)), (1, .ref (gAd E (0))), (2, .ref (gAd E (56))), (3, .ref (gAd E (93))), (4, .int (nI i))] [.int k] f := by
  obtain ⟨hc, Q, hM, hh, ⟨fs, h56⟩, hno, hq⟩ := H
  refine G.go tv_law_byteAt 6 2466 [(0, .ref (b)), (1, .ref (gAd E (0))), (2, .ref (gAd E (56))), (3, .ref (gAd E (93))), (4, .int (nI i)), (5, .int (k))] [.int ((nI i) + ((1 : Int32))), .ref (b), .ref (gAd E (56))] rfl ?_
  refine G.eqs [.int (nI (i + 1)), .ref (b), .ref (gAd E (56))] (by rw [show (1 : Int32) = nI 1 from rfl, nI_add]) ?_
  refine G.sld lwY_S lwK_A (i + 1) (by omega) hL2 (tbd tv_law_byteAt rfl) ?_
  refine G.go tv_law_byteAt 4 2472 [(0, .ref (b)), (1, .ref (gAd E (0))), (2, .ref (gAd E (56))), (3, .ref (gAd E (93))), (4, .int (nI i)), (5, .int (k))] [.int ((nI i) + ((2 : Int32))), .ref (b), .int (xs (i + 1)), .ref (gAd E (56))] rfl ?_
  refine G.eqs [.int (nI (i + 2)), .ref (b), .int (xs (i + 1)), .ref (gAd E (56))] (by rw [show (2 : Int32) = nI 2 from rfl, nI_add]) ?_
  refine G.sld lwY_S lwK_A (i + 2) (by omega) hL2 (tbd tv_law_byteAt rfl) ?_
  refine G.callVr 56 [.int (xs (i + 1)), .int (xs (i + 2))] [] hM cls_X12 (by omega) h56 cw_L_304 w_2786 w_2787 (Nat.le_trans (Nat.succ_le_succ hh) (Nat.le_of_ble_eq_true rfl)) (Nat.le_trans (Nat.mul_le_mul_left 64 (Nat.succ_le_succ hh)) (Nat.le_of_ble_eq_true rfl)) (by show (cu + 1) + 1 ≤ room_1.cells; omega) (by show (su + 6) + 6 ≤ room_1.slots; omega) rfl (Nat.le_of_ble_eq_true rfl) (tbd tv_law_byteAt rfl) (fun v u q => ?_) (fun X u q => hno X u q)
  obtain ⟨r, R, rfl, rv, hk, ho, hI⟩ := hq v u q
  refine G.eqs [.int (r)] rfl ?_
  refine G.go tv_law_byteAt 2 2479 [(0, .ref (b)), (1, .ref (gAd E (0))), (2, .ref (gAd E (56))), (3, .ref (gAd E (93))), (4, .int (nI i)), (5, .int (k)), (6, .int (r))] [.ref (gAd E (56))] rfl ?_
  refine G.callVr 56 [] [] (c_X12_thrown E u R hE rv) cls_X12 (by omega) rv.o cw_L_181 w_2251 w_2252 (Nat.le_trans (Nat.succ_le_succ (show 1 ≤ 110 by decide)) (Nat.le_of_ble_eq_true rfl)) (Nat.le_trans (Nat.mul_le_mul_left 64 (Nat.succ_le_succ (show 1 ≤ 110 by decide))) (Nat.le_of_ble_eq_true rfl)) (by show (cu + 1) + 1 ≤ room_1.cells; omega) (by show (su + 6) + 6 ≤ room_1.slots; omega) rfl (Nat.le_of_ble_eq_true rfl) (tbd tv_law_byteAt rfl) (fun v w q => ?_) (fun X w q => q)
  obtain ⟨rfl, rv2, fv2⟩ := q
  obtain rfl := RfV.uniq rv rv2 fv2
  refine G.eqs [.int (rS R 0)] rfl ?_
  refine G.go tv_law_byteAt 1 2484 [(0, .ref (b)), (1, .ref (gAd E (0))), (2, .ref (gAd E (56))), (3, .ref (gAd E (93))), (4, .int (nI i)), (5, .int (k)), (6, .int (r))] [.int (k), .int (rS R 0)] rfl ?_
  refine G.cmp_eq 2489 (tbd tv_law_byteAt rfl) (by decide) (fun c2484 => ?_) (fun c2484 => absurd (hk) c2484)
  refine G.go tv_law_byteAt 1 2491 [(0, .ref (b)), (1, .ref (gAd E (0))), (2, .ref (gAd E (56))), (3, .ref (gAd E (93))), (4, .int (nI i)), (5, .int (k)), (6, .int (r))] [.int (k)] rfl ?_
  refine G.if_ne 2506 (tbd tv_law_byteAt rfl) (by decide) (fun c2491 => ?_) (fun c2491 => ?_)
  · skip
    refine G.go tv_law_byteAt 1 2804 [(0, .ref (b)), (1, .ref (gAd E (0))), (2, .ref (gAd E (56))), (3, .ref (gAd E (93))), (4, .int (nI i)), (5, .int (k)), (6, .int (r))] [] rfl ?_
    refine G.drop [0, 1, 2, 3, 4] rfl ?_
    exact kk _ hI
  · skip
    obtain ⟨o, e93, eo⟩ := ho c2491
    refine G.go tv_law_byteAt 2 2496 [(0, .ref (b)), (1, .ref (gAd E (0))), (2, .ref (gAd E (56))), (3, .ref (gAd E (93))), (4, .int (nI i)), (5, .int (k)), (6, .int (r))] [.int ((0 : Int32)), .ref (gAd E (93))] rfl ?_
    refine G.eqs [.int (nI (0)), .ref (gAd E (93))] (by rw [show (0 : Int32) = nI 0 from rfl]) ?_
    refine G.laldN (93) (0) (by omega) (e93) (by decide) (by decide) (tbd tv_law_byteAt rfl) ?_
    refine G.go tv_law_byteAt 3 2501 [(0, .ref (b)), (1, .ref (gAd E (0))), (2, .ref (gAd E (56))), (3, .ref (gAd E (93))), (4, .int (nI i)), (5, .int (k)), (6, .int (r))] [.int (lg_cmp ((o) (0)) ((r : Int32).toInt64))] rfl ?_
    refine G.if_eq 2506 (tbd tv_law_byteAt rfl) (by decide) (fun c2501 => ?_) (fun c2501 => absurd ((lg_cmp_eq _ _).mpr (eo)) c2501)
    refine G.go tv_law_byteAt 1 2804 [(0, .ref (b)), (1, .ref (gAd E (0))), (2, .ref (gAd E (56))), (3, .ref (gAd E (93))), (4, .int (nI i)), (5, .int (k)), (6, .int (r))] [] rfl ?_
    refine G.drop [0, 1, 2, 3, 4] rfl ?_
    exact kk _ hI
theorem w_1913 : Cond.methodLink "LedgerFilesLaw" 302 yL_byteAt ∈ TB := tp_8 87 (by decide +kernel) rfl
theorem w_1914 : Cond.static yL_byteAt ∈ TB := tp_8 88 (by decide +kernel) rfl
theorem cwh_302 : CwH RL 302 yL_byteAt cL_byteAt 5 (some .int) [(0, 10, 13, 84)] 4 := ⟨w_1913, w_1915, w_146, by decide +kernel, by decide +kernel, by decide, w_1914⟩
set_option maxRecDepth 100000 in
set_option maxHeartbeats 4000000 in
theorem k_byteAt (E : gE) (f : Nat → va_E) (hE : 94 ≤ gN E) (b L : Nat) (xs : Nat → Int32) (cu su h sz i : Nat) (hi : i + 5 < L) (hL2 : L < 2 ^ 31) (hcu : cu + 2 ≤ room_1.cells) (hsu : su + 12 ≤ room_1.slots) (Inv : (Nat → va_E) → Prop) (H : CsI E f yX11_byteAt cX11_byteAt 3 yX12_byteAt cX12_byteAt 3 [.int (xs (i + 1)), .int (xs (i + 2))] [xN] Inv) (kk : ∀ g, Inv g → G E (lwK h sz) code (gL b L xs (cu + 1) (su + 6)) 2804 [(0, .ref (b)), (1, .ref (gAd E (0))), (2, .ref (gAd E (56))), (3, .ref (gAd E (93))), (4, .int (nI i))] [] g) : G E (lwK h sz) code (gL b L xs cu su) 2441 [(0, .ref (b)), (1, .ref (gAd E (0))), (2, .ref (gAd E (56))), (3, .ref (gAd E (93))), (4, .int (nI i))] [] f := by
  obtain ⟨hc, Q, hM, hh, ⟨fs, h0⟩, hn, hx⟩ := H
  refine G.go tv_law_byteAt 5 2447 [(0, .ref (b)), (1, .ref (gAd E (0))), (2, .ref (gAd E (56))), (3, .ref (gAd E (93))), (4, .int (nI i))] [.int ((nI i) + ((1 : Int32))), .ref (b), .ref (gAd E (0))] rfl ?_
  refine G.eqs [.int (nI (i + 1)), .ref (b), .ref (gAd E (0))] (by rw [show (1 : Int32) = nI 1 from rfl, nI_add]) ?_
  refine G.sld lwY_S lwK_A (i + 1) (by omega) hL2 (tbd tv_law_byteAt rfl) ?_
  refine G.go tv_law_byteAt 4 2453 [(0, .ref (b)), (1, .ref (gAd E (0))), (2, .ref (gAd E (56))), (3, .ref (gAd E (93))), (4, .int (nI i))] [.int ((nI i) + ((2 : Int32))), .ref (b), .int (xs (i + 1)), .ref (gAd E (0))] rfl ?_
  refine G.eqs [.int (nI (i + 2)), .ref (b), .int (xs (i + 1)), .ref (gAd E (0))] (by rw [show (2 : Int32) = nI 2 from rfl, nI_add]) ?_
  refine G.sld lwY_S lwK_A (i + 2) (by omega) hL2 (tbd tv_law_byteAt rfl) ?_
  refine G.go tv_law_byteAt 1 2455 [(0, .ref (b)), (1, .ref (gAd E (0))), (2, .ref (gAd E (56))), (3, .ref (gAd E (93))), (4, .int (nI i))] [.ref (gAd E (93)), .int (xs (i + 2)), .int (xs (i + 1)), .ref (gAd E (0))] rfl ?_
  refine G.callH [.ref (gAd E (0)), .int (xs (i + 1)), .int (xs (i + 2)), .ref (gAd E (93))] [] (h_L_byteAt E f hE (xs (i + 1)) (xs (i + 2)) hM hh h0 (fun v g q => by obtain ⟨x, o, h1, h2, -⟩ := hn v g q; exact ⟨x, o, h1, h2⟩) (fun X g q => (xk1 (hx X g q)).1)) cwh_302 (Nat.le_of_ble_eq_true rfl) (Nat.le_of_ble_eq_true rfl) (by show cu + 1 ≤ room_1.cells; omega) (by show su + 6 ≤ room_1.slots; omega) rfl (Nat.le_of_ble_eq_true rfl) (tbd tv_law_byteAt rfl) (fun v g q => ?_)
  rcases q with ⟨rfl, x, o, g0, q, e93, rfl⟩ | ⟨rfl, q⟩
  · refine G.eqs [.int 0] rfl ?_
    obtain ⟨x1, o1, e1, e2, hp⟩ := hn _ _ q
    cases e1
    obtain rfl := oJ_inj (e93.symm.trans e2)
    exact lt_byteAt E _ hE b L xs cu su h sz i hi hL2 hcu hsu Inv 0 hp kk
  · refine G.eqs [.int 1] rfl ?_
    exact lt_byteAt E _ hE b L xs cu su h sz i hi hL2 hcu hsu Inv 1 (xk1 (hx _ _ q)).2 kk
def tb_law_waiting : List (Nat × Instr × Nat) := [(2509, .aload_n 1, 1), (2510, .aload_n 0, 1), (2511, .iload 4, 2), (2513, .iconst 1, 1), (2514, .iadd, 1), (2515, .iaload, 1), (2516, .aload_n 3, 1), (2517, .invokestatic 305, 3), (2520, .istore 5, 2), (2522, .aload_n 2, 1), (2523, .aload_n 0, 1), (2524, .iload 4, 2), (2526, .iconst 1, 1), (2527, .iadd, 1), (2528, .iaload, 1), (2529, .invokevirtual 307, 3), (2532, .istore 6, 2), (2534, .aload_n 2, 1), (2535, .invokevirtual 181, 3), (2538, .iload 5, 2), (2540, .if_icmp .eq 5, 3), (2543, .iconst 0, 1), (2544, .ireturn, 1), (2545, .iload 5, 2), (2547, .ifCond .ne 15, 3), (2550, .aload_n 3, 1), (2551, .iconst 0, 1), (2552, .laload, 1), (2553, .iload 6, 2), (2555, .i2l, 1), (2556, .lcmp, 1), (2557, .ifCond .eq 5, 3), (2560, .iconst 0, 1), (2561, .ireturn, 1), (2562, .goto 242, 3)]
theorem tv_law_waiting : Tv code tb_law_waiting := by
  unfold Tv
  decide +kernel
theorem w_2793 : Cond.methodLink "LedgerFilesLaw" 307 yX12_waiting ∈ TB := tp_12 7 (by decide +kernel) rfl
theorem w_2796 : Cond.code yX12_waiting prog_14_method_139_code 2 (some .int) ∈ TB := tp_12 10 rfl rfl
theorem cw_L_307 : Cw RL 307 yX12_waiting cX12_waiting 2 (some .int) 1 := ⟨w_2793, w_2796, w_161, by decide +kernel, by decide +kernel, by decide⟩
theorem w_2794 : Cond.instanceMethod yX12_waiting ∈ TB := tp_12 8 (by decide +kernel) rfl
theorem w_2795 : Cond.selects "LedgerFilesModel" yX12_waiting yX12_waiting ∈ TB := tp_12 9 (by decide +kernel) rfl
set_option maxRecDepth 100000 in
set_option maxHeartbeats 4000000 in
theorem lt_waiting (E : gE) (f : Nat → va_E) (hE : 94 ≤ gN E) (b L : Nat) (xs : Nat → Int32) (cu su h sz i : Nat) (hi : i + 5 < L) (hL2 : L < 2 ^ 31) (hcu : cu + 2 ≤ room_1.cells) (hsu : su + 12 ≤ room_1.slots) (Inv : (Nat → va_E) → Prop) (k : Int32) (H : PmI E yX12_waiting cX12_waiting 2 [.int (xs (i + 1))] f k Inv) (kk : ∀ g, Inv g → G E (lwK h sz) code (gL b L xs (cu + 1) (su + 6)) 2804 [(0, .ref (b)), (1, .ref (gAd E (0))), (2, .ref (gAd E (56))), (3, .ref (gAd E (93))), (4, .int (nI i))] [] g) : G E (lwK h sz) code (gL b L xs (cu + 1) (su + 6)) 2520 [(0, .ref (b)), (1, .ref (gAd E (0))), (2, .ref (gAd E (56))), (3, .ref (gAd E (93))), (4, .int (nI i))] [.int k] f := by
  obtain ⟨hc, Q, hM, hh, ⟨fs, h56⟩, hno, hq⟩ := H
  refine G.go tv_law_waiting 6 2528 [(0, .ref (b)), (1, .ref (gAd E (0))), (2, .ref (gAd E (56))), (3, .ref (gAd E (93))), (4, .int (nI i)), (5, .int (k))] [.int ((nI i) + ((1 : Int32))), .ref (b), .ref (gAd E (56))] rfl ?_
  refine G.eqs [.int (nI (i + 1)), .ref (b), .ref (gAd E (56))] (by rw [show (1 : Int32) = nI 1 from rfl, nI_add]) ?_
  refine G.sld lwY_S lwK_A (i + 1) (by omega) hL2 (tbd tv_law_waiting rfl) ?_
  refine G.callVr 56 [.int (xs (i + 1))] [] hM cls_X12 (by omega) h56 cw_L_307 w_2794 w_2795 (Nat.le_trans (Nat.succ_le_succ hh) (Nat.le_of_ble_eq_true rfl)) (Nat.le_trans (Nat.mul_le_mul_left 64 (Nat.succ_le_succ hh)) (Nat.le_of_ble_eq_true rfl)) (by show (cu + 1) + 1 ≤ room_1.cells; omega) (by show (su + 6) + 6 ≤ room_1.slots; omega) rfl (Nat.le_of_ble_eq_true rfl) (tbd tv_law_waiting rfl) (fun v u q => ?_) (fun X u q => hno X u q)
  obtain ⟨r, R, rfl, rv, hk, ho, hI⟩ := hq v u q
  refine G.eqs [.int (r)] rfl ?_
  refine G.go tv_law_waiting 2 2535 [(0, .ref (b)), (1, .ref (gAd E (0))), (2, .ref (gAd E (56))), (3, .ref (gAd E (93))), (4, .int (nI i)), (5, .int (k)), (6, .int (r))] [.ref (gAd E (56))] rfl ?_
  refine G.callVr 56 [] [] (c_X12_thrown E u R hE rv) cls_X12 (by omega) rv.o cw_L_181 w_2251 w_2252 (Nat.le_trans (Nat.succ_le_succ (show 1 ≤ 110 by decide)) (Nat.le_of_ble_eq_true rfl)) (Nat.le_trans (Nat.mul_le_mul_left 64 (Nat.succ_le_succ (show 1 ≤ 110 by decide))) (Nat.le_of_ble_eq_true rfl)) (by show (cu + 1) + 1 ≤ room_1.cells; omega) (by show (su + 6) + 6 ≤ room_1.slots; omega) rfl (Nat.le_of_ble_eq_true rfl) (tbd tv_law_waiting rfl) (fun v w q => ?_) (fun X w q => q)
  obtain ⟨rfl, rv2, fv2⟩ := q
  obtain rfl := RfV.uniq rv rv2 fv2
  refine G.eqs [.int (rS R 0)] rfl ?_
  refine G.go tv_law_waiting 1 2540 [(0, .ref (b)), (1, .ref (gAd E (0))), (2, .ref (gAd E (56))), (3, .ref (gAd E (93))), (4, .int (nI i)), (5, .int (k)), (6, .int (r))] [.int (k), .int (rS R 0)] rfl ?_
  refine G.cmp_eq 2545 (tbd tv_law_waiting rfl) (by decide) (fun c2540 => ?_) (fun c2540 => absurd (hk) c2540)
  refine G.go tv_law_waiting 1 2547 [(0, .ref (b)), (1, .ref (gAd E (0))), (2, .ref (gAd E (56))), (3, .ref (gAd E (93))), (4, .int (nI i)), (5, .int (k)), (6, .int (r))] [.int (k)] rfl ?_
  refine G.if_ne 2562 (tbd tv_law_waiting rfl) (by decide) (fun c2547 => ?_) (fun c2547 => ?_)
  · skip
    refine G.go tv_law_waiting 1 2804 [(0, .ref (b)), (1, .ref (gAd E (0))), (2, .ref (gAd E (56))), (3, .ref (gAd E (93))), (4, .int (nI i)), (5, .int (k)), (6, .int (r))] [] rfl ?_
    refine G.drop [0, 1, 2, 3, 4] rfl ?_
    exact kk _ hI
  · skip
    obtain ⟨o, e93, eo⟩ := ho c2547
    refine G.go tv_law_waiting 2 2552 [(0, .ref (b)), (1, .ref (gAd E (0))), (2, .ref (gAd E (56))), (3, .ref (gAd E (93))), (4, .int (nI i)), (5, .int (k)), (6, .int (r))] [.int ((0 : Int32)), .ref (gAd E (93))] rfl ?_
    refine G.eqs [.int (nI (0)), .ref (gAd E (93))] (by rw [show (0 : Int32) = nI 0 from rfl]) ?_
    refine G.laldN (93) (0) (by omega) (e93) (by decide) (by decide) (tbd tv_law_waiting rfl) ?_
    refine G.go tv_law_waiting 3 2557 [(0, .ref (b)), (1, .ref (gAd E (0))), (2, .ref (gAd E (56))), (3, .ref (gAd E (93))), (4, .int (nI i)), (5, .int (k)), (6, .int (r))] [.int (lg_cmp ((o) (0)) ((r : Int32).toInt64))] rfl ?_
    refine G.if_eq 2562 (tbd tv_law_waiting rfl) (by decide) (fun c2557 => ?_) (fun c2557 => absurd ((lg_cmp_eq _ _).mpr (eo)) c2557)
    refine G.go tv_law_waiting 1 2804 [(0, .ref (b)), (1, .ref (gAd E (0))), (2, .ref (gAd E (56))), (3, .ref (gAd E (93))), (4, .int (nI i)), (5, .int (k)), (6, .int (r))] [] rfl ?_
    refine G.drop [0, 1, 2, 3, 4] rfl ?_
    exact kk _ hI
theorem w_1925 : Cond.methodLink "LedgerFilesLaw" 305 yL_waiting ∈ TB := tp_8 99 (by decide +kernel) rfl
theorem w_1926 : Cond.static yL_waiting ∈ TB := tp_8 100 (by decide +kernel) rfl
theorem cwh_305 : CwH RL 305 yL_waiting cL_waiting 4 (some .int) [(0, 9, 12, 84)] 3 := ⟨w_1925, w_1927, w_146, by decide +kernel, by decide +kernel, by decide, w_1926⟩
set_option maxRecDepth 100000 in
set_option maxHeartbeats 4000000 in
theorem k_waiting (E : gE) (f : Nat → va_E) (hE : 94 ≤ gN E) (b L : Nat) (xs : Nat → Int32) (cu su h sz i : Nat) (hi : i + 5 < L) (hL2 : L < 2 ^ 31) (hcu : cu + 2 ≤ room_1.cells) (hsu : su + 12 ≤ room_1.slots) (Inv : (Nat → va_E) → Prop) (H : CsI E f yX11_waiting cX11_waiting 2 yX12_waiting cX12_waiting 2 [.int (xs (i + 1))] [xN] Inv) (kk : ∀ g, Inv g → G E (lwK h sz) code (gL b L xs (cu + 1) (su + 6)) 2804 [(0, .ref (b)), (1, .ref (gAd E (0))), (2, .ref (gAd E (56))), (3, .ref (gAd E (93))), (4, .int (nI i))] [] g) : G E (lwK h sz) code (gL b L xs cu su) 2509 [(0, .ref (b)), (1, .ref (gAd E (0))), (2, .ref (gAd E (56))), (3, .ref (gAd E (93))), (4, .int (nI i))] [] f := by
  obtain ⟨hc, Q, hM, hh, ⟨fs, h0⟩, hn, hx⟩ := H
  refine G.go tv_law_waiting 5 2515 [(0, .ref (b)), (1, .ref (gAd E (0))), (2, .ref (gAd E (56))), (3, .ref (gAd E (93))), (4, .int (nI i))] [.int ((nI i) + ((1 : Int32))), .ref (b), .ref (gAd E (0))] rfl ?_
  refine G.eqs [.int (nI (i + 1)), .ref (b), .ref (gAd E (0))] (by rw [show (1 : Int32) = nI 1 from rfl, nI_add]) ?_
  refine G.sld lwY_S lwK_A (i + 1) (by omega) hL2 (tbd tv_law_waiting rfl) ?_
  refine G.go tv_law_waiting 1 2517 [(0, .ref (b)), (1, .ref (gAd E (0))), (2, .ref (gAd E (56))), (3, .ref (gAd E (93))), (4, .int (nI i))] [.ref (gAd E (93)), .int (xs (i + 1)), .ref (gAd E (0))] rfl ?_
  refine G.callH [.ref (gAd E (0)), .int (xs (i + 1)), .ref (gAd E (93))] [] (h_L_waiting E f hE (xs (i + 1)) hM hh h0 (fun v g q => by obtain ⟨x, o, h1, h2, -⟩ := hn v g q; exact ⟨x, o, h1, h2⟩) (fun X g q => (xk1 (hx X g q)).1)) cwh_305 (Nat.le_of_ble_eq_true rfl) (Nat.le_of_ble_eq_true rfl) (by show cu + 1 ≤ room_1.cells; omega) (by show su + 6 ≤ room_1.slots; omega) rfl (Nat.le_of_ble_eq_true rfl) (tbd tv_law_waiting rfl) (fun v g q => ?_)
  rcases q with ⟨rfl, x, o, g0, q, e93, rfl⟩ | ⟨rfl, q⟩
  · refine G.eqs [.int 0] rfl ?_
    obtain ⟨x1, o1, e1, e2, hp⟩ := hn _ _ q
    cases e1
    obtain rfl := oJ_inj (e93.symm.trans e2)
    exact lt_waiting E _ hE b L xs cu su h sz i hi hL2 hcu hsu Inv 0 hp kk
  · refine G.eqs [.int 1] rfl ?_
    exact lt_waiting E _ hE b L xs cu su h sz i hi hL2 hcu hsu Inv 1 (xk1 (hx _ _ q)).2 kk
def tb_law_seen : List (Nat × Instr × Nat) := [(2565, .aload_n 1, 1), (2566, .aload_n 0, 1), (2567, .iload 4, 2), (2569, .iconst 1, 1), (2570, .iadd, 1), (2571, .iaload, 1), (2572, .aload_n 0, 1), (2573, .iload 4, 2), (2575, .iconst 2, 1), (2576, .iadd, 1), (2577, .iaload, 1), (2578, .aload_n 3, 1), (2579, .invokestatic 308, 3), (2582, .istore 5, 2), (2584, .aload_n 2, 1), (2585, .aload_n 0, 1), (2586, .iload 4, 2), (2588, .iconst 1, 1), (2589, .iadd, 1), (2590, .iaload, 1), (2591, .aload_n 0, 1), (2592, .iload 4, 2), (2594, .iconst 2, 1), (2595, .iadd, 1), (2596, .iaload, 1), (2597, .invokevirtual 310, 3), (2600, .istore 6, 2), (2602, .aload_n 2, 1), (2603, .invokevirtual 181, 3), (2606, .iload 5, 2), (2608, .if_icmp .eq 5, 3), (2611, .iconst 0, 1), (2612, .ireturn, 1), (2613, .iload 5, 2), (2615, .ifCond .ne 15, 3), (2618, .aload_n 3, 1), (2619, .iconst 0, 1), (2620, .laload, 1), (2621, .iload 6, 2), (2623, .i2l, 1), (2624, .lcmp, 1), (2625, .ifCond .eq 5, 3), (2628, .iconst 0, 1), (2629, .ireturn, 1), (2630, .goto 174, 3)]
theorem tv_law_seen : Tv code tb_law_seen := by
  unfold Tv
  decide +kernel
theorem w_2797 : Cond.methodLink "LedgerFilesLaw" 310 yX12_seen ∈ TB := tp_12 11 (by decide +kernel) rfl
theorem w_2800 : Cond.code yX12_seen prog_14_method_140_code 3 (some .int) ∈ TB := tp_12 14 rfl rfl
theorem cw_L_310 : Cw RL 310 yX12_seen cX12_seen 3 (some .int) 2 := ⟨w_2797, w_2800, w_161, by decide +kernel, by decide +kernel, by decide⟩
theorem w_2798 : Cond.instanceMethod yX12_seen ∈ TB := tp_12 12 (by decide +kernel) rfl
theorem w_2799 : Cond.selects "LedgerFilesModel" yX12_seen yX12_seen ∈ TB := tp_12 13 (by decide +kernel) rfl
set_option maxRecDepth 100000 in
set_option maxHeartbeats 4000000 in
theorem lt_seen (E : gE) (f : Nat → va_E) (hE : 94 ≤ gN E) (b L : Nat) (xs : Nat → Int32) (cu su h sz i : Nat) (hi : i + 5 < L) (hL2 : L < 2 ^ 31) (hcu : cu + 2 ≤ room_1.cells) (hsu : su + 12 ≤ room_1.slots) (Inv : (Nat → va_E) → Prop) (k : Int32) (H : PmI E yX12_seen cX12_seen 3 [.int (xs (i + 1)), .int (xs (i + 2))] f k Inv) (kk : ∀ g, Inv g → G E (lwK h sz) code (gL b L xs (cu + 1) (su + 6)) 2804 [(0, .ref (b)), (1, .ref (gAd E (0))), (2, .ref (gAd E (56))), (3, .ref (gAd E (93))), (4, .int (nI i))] [] g) : G E (lwK h sz) code (gL b L xs (cu + 1) (su + 6)) 2582 [(0, .ref (b)), (1, .ref (gAd E (0))), (2, .ref (gAd E (56))), (3, .ref (gAd E (93))), (4, .int (nI i))] [.int k] f := by
  obtain ⟨hc, Q, hM, hh, ⟨fs, h56⟩, hno, hq⟩ := H
  refine G.go tv_law_seen 6 2590 [(0, .ref (b)), (1, .ref (gAd E (0))), (2, .ref (gAd E (56))), (3, .ref (gAd E (93))), (4, .int (nI i)), (5, .int (k))] [.int ((nI i) + ((1 : Int32))), .ref (b), .ref (gAd E (56))] rfl ?_
  refine G.eqs [.int (nI (i + 1)), .ref (b), .ref (gAd E (56))] (by rw [show (1 : Int32) = nI 1 from rfl, nI_add]) ?_
  refine G.sld lwY_S lwK_A (i + 1) (by omega) hL2 (tbd tv_law_seen rfl) ?_
  refine G.go tv_law_seen 4 2596 [(0, .ref (b)), (1, .ref (gAd E (0))), (2, .ref (gAd E (56))), (3, .ref (gAd E (93))), (4, .int (nI i)), (5, .int (k))] [.int ((nI i) + ((2 : Int32))), .ref (b), .int (xs (i + 1)), .ref (gAd E (56))] rfl ?_
  refine G.eqs [.int (nI (i + 2)), .ref (b), .int (xs (i + 1)), .ref (gAd E (56))] (by rw [show (2 : Int32) = nI 2 from rfl, nI_add]) ?_
  refine G.sld lwY_S lwK_A (i + 2) (by omega) hL2 (tbd tv_law_seen rfl) ?_
  refine G.callVr 56 [.int (xs (i + 1)), .int (xs (i + 2))] [] hM cls_X12 (by omega) h56 cw_L_310 w_2798 w_2799 (Nat.le_trans (Nat.succ_le_succ hh) (Nat.le_of_ble_eq_true rfl)) (Nat.le_trans (Nat.mul_le_mul_left 64 (Nat.succ_le_succ hh)) (Nat.le_of_ble_eq_true rfl)) (by show (cu + 1) + 1 ≤ room_1.cells; omega) (by show (su + 6) + 6 ≤ room_1.slots; omega) rfl (Nat.le_of_ble_eq_true rfl) (tbd tv_law_seen rfl) (fun v u q => ?_) (fun X u q => hno X u q)
  obtain ⟨r, R, rfl, rv, hk, ho, hI⟩ := hq v u q
  refine G.eqs [.int (r)] rfl ?_
  refine G.go tv_law_seen 2 2603 [(0, .ref (b)), (1, .ref (gAd E (0))), (2, .ref (gAd E (56))), (3, .ref (gAd E (93))), (4, .int (nI i)), (5, .int (k)), (6, .int (r))] [.ref (gAd E (56))] rfl ?_
  refine G.callVr 56 [] [] (c_X12_thrown E u R hE rv) cls_X12 (by omega) rv.o cw_L_181 w_2251 w_2252 (Nat.le_trans (Nat.succ_le_succ (show 1 ≤ 110 by decide)) (Nat.le_of_ble_eq_true rfl)) (Nat.le_trans (Nat.mul_le_mul_left 64 (Nat.succ_le_succ (show 1 ≤ 110 by decide))) (Nat.le_of_ble_eq_true rfl)) (by show (cu + 1) + 1 ≤ room_1.cells; omega) (by show (su + 6) + 6 ≤ room_1.slots; omega) rfl (Nat.le_of_ble_eq_true rfl) (tbd tv_law_seen rfl) (fun v w q => ?_) (fun X w q => q)
  obtain ⟨rfl, rv2, fv2⟩ := q
  obtain rfl := RfV.uniq rv rv2 fv2
  refine G.eqs [.int (rS R 0)] rfl ?_
  refine G.go tv_law_seen 1 2608 [(0, .ref (b)), (1, .ref (gAd E (0))), (2, .ref (gAd E (56))), (3, .ref (gAd E (93))), (4, .int (nI i)), (5, .int (k)), (6, .int (r))] [.int (k), .int (rS R 0)] rfl ?_
  refine G.cmp_eq 2613 (tbd tv_law_seen rfl) (by decide) (fun c2608 => ?_) (fun c2608 => absurd (hk) c2608)
  refine G.go tv_law_seen 1 2615 [(0, .ref (b)), (1, .ref (gAd E (0))), (2, .ref (gAd E (56))), (3, .ref (gAd E (93))), (4, .int (nI i)), (5, .int (k)), (6, .int (r))] [.int (k)] rfl ?_
  refine G.if_ne 2630 (tbd tv_law_seen rfl) (by decide) (fun c2615 => ?_) (fun c2615 => ?_)
  · skip
    refine G.go tv_law_seen 1 2804 [(0, .ref (b)), (1, .ref (gAd E (0))), (2, .ref (gAd E (56))), (3, .ref (gAd E (93))), (4, .int (nI i)), (5, .int (k)), (6, .int (r))] [] rfl ?_
    refine G.drop [0, 1, 2, 3, 4] rfl ?_
    exact kk _ hI
  · skip
    obtain ⟨o, e93, eo⟩ := ho c2615
    refine G.go tv_law_seen 2 2620 [(0, .ref (b)), (1, .ref (gAd E (0))), (2, .ref (gAd E (56))), (3, .ref (gAd E (93))), (4, .int (nI i)), (5, .int (k)), (6, .int (r))] [.int ((0 : Int32)), .ref (gAd E (93))] rfl ?_
    refine G.eqs [.int (nI (0)), .ref (gAd E (93))] (by rw [show (0 : Int32) = nI 0 from rfl]) ?_
    refine G.laldN (93) (0) (by omega) (e93) (by decide) (by decide) (tbd tv_law_seen rfl) ?_
    refine G.go tv_law_seen 3 2625 [(0, .ref (b)), (1, .ref (gAd E (0))), (2, .ref (gAd E (56))), (3, .ref (gAd E (93))), (4, .int (nI i)), (5, .int (k)), (6, .int (r))] [.int (lg_cmp ((o) (0)) ((r : Int32).toInt64))] rfl ?_
    refine G.if_eq 2630 (tbd tv_law_seen rfl) (by decide) (fun c2625 => ?_) (fun c2625 => absurd ((lg_cmp_eq _ _).mpr (eo)) c2625)
    refine G.go tv_law_seen 1 2804 [(0, .ref (b)), (1, .ref (gAd E (0))), (2, .ref (gAd E (56))), (3, .ref (gAd E (93))), (4, .int (nI i)), (5, .int (k)), (6, .int (r))] [] rfl ?_
    refine G.drop [0, 1, 2, 3, 4] rfl ?_
    exact kk _ hI
theorem w_1932 : Cond.methodLink "LedgerFilesLaw" 308 yL_seen ∈ TB := tp_8 106 (by decide +kernel) rfl
theorem w_1933 : Cond.static yL_seen ∈ TB := tp_8 107 (by decide +kernel) rfl
theorem cwh_308 : CwH RL 308 yL_seen cL_seen 5 (some .int) [(0, 10, 13, 13), (0, 10, 17, 84)] 4 := ⟨w_1932, w_1934, w_146, by decide +kernel, by decide +kernel, by decide, w_1933⟩
set_option maxRecDepth 100000 in
set_option maxHeartbeats 4000000 in
theorem k_seen (E : gE) (f : Nat → va_E) (hE : 94 ≤ gN E) (b L : Nat) (xs : Nat → Int32) (cu su h sz i : Nat) (hi : i + 5 < L) (hL2 : L < 2 ^ 31) (hcu : cu + 2 ≤ room_1.cells) (hsu : su + 12 ≤ room_1.slots) (Inv : (Nat → va_E) → Prop) (H : CsI E f yX11_seen cX11_seen 3 yX12_seen cX12_seen 3 [.int (xs (i + 1)), .int (xs (i + 2))] [xI, xN] Inv) (kk : ∀ g, Inv g → G E (lwK h sz) code (gL b L xs (cu + 1) (su + 6)) 2804 [(0, .ref (b)), (1, .ref (gAd E (0))), (2, .ref (gAd E (56))), (3, .ref (gAd E (93))), (4, .int (nI i))] [] g) : G E (lwK h sz) code (gL b L xs cu su) 2565 [(0, .ref (b)), (1, .ref (gAd E (0))), (2, .ref (gAd E (56))), (3, .ref (gAd E (93))), (4, .int (nI i))] [] f := by
  obtain ⟨hc, Q, hM, hh, ⟨fs, h0⟩, hn, hx⟩ := H
  refine G.go tv_law_seen 5 2571 [(0, .ref (b)), (1, .ref (gAd E (0))), (2, .ref (gAd E (56))), (3, .ref (gAd E (93))), (4, .int (nI i))] [.int ((nI i) + ((1 : Int32))), .ref (b), .ref (gAd E (0))] rfl ?_
  refine G.eqs [.int (nI (i + 1)), .ref (b), .ref (gAd E (0))] (by rw [show (1 : Int32) = nI 1 from rfl, nI_add]) ?_
  refine G.sld lwY_S lwK_A (i + 1) (by omega) hL2 (tbd tv_law_seen rfl) ?_
  refine G.go tv_law_seen 4 2577 [(0, .ref (b)), (1, .ref (gAd E (0))), (2, .ref (gAd E (56))), (3, .ref (gAd E (93))), (4, .int (nI i))] [.int ((nI i) + ((2 : Int32))), .ref (b), .int (xs (i + 1)), .ref (gAd E (0))] rfl ?_
  refine G.eqs [.int (nI (i + 2)), .ref (b), .int (xs (i + 1)), .ref (gAd E (0))] (by rw [show (2 : Int32) = nI 2 from rfl, nI_add]) ?_
  refine G.sld lwY_S lwK_A (i + 2) (by omega) hL2 (tbd tv_law_seen rfl) ?_
  refine G.go tv_law_seen 1 2579 [(0, .ref (b)), (1, .ref (gAd E (0))), (2, .ref (gAd E (56))), (3, .ref (gAd E (93))), (4, .int (nI i))] [.ref (gAd E (93)), .int (xs (i + 2)), .int (xs (i + 1)), .ref (gAd E (0))] rfl ?_
  refine G.callH [.ref (gAd E (0)), .int (xs (i + 1)), .int (xs (i + 2)), .ref (gAd E (93))] [] (h_L_seen E f hE (xs (i + 1)) (xs (i + 2)) hM hh h0 (fun v g q => by obtain ⟨x, o, h1, h2, -⟩ := hn v g q; exact ⟨x, o, h1, h2⟩) (fun X g q => (xk2 (hx X g q)).elim (fun a => Or.inl a.1) (fun a => Or.inr a.1))) cwh_308 (Nat.le_of_ble_eq_true rfl) (Nat.le_of_ble_eq_true rfl) (by show cu + 1 ≤ room_1.cells; omega) (by show su + 6 ≤ room_1.slots; omega) rfl (Nat.le_of_ble_eq_true rfl) (tbd tv_law_seen rfl) (fun v g q => ?_)
  rcases q with ⟨rfl, x, o, g0, q, e93, rfl⟩ | ⟨rfl, q⟩ | ⟨rfl, q⟩
  · refine G.eqs [.int 0] rfl ?_
    obtain ⟨x1, o1, e1, e2, hp⟩ := hn _ _ q
    cases e1
    obtain rfl := oJ_inj (e93.symm.trans e2)
    exact lt_seen E _ hE b L xs cu su h sz i hi hL2 hcu hsu Inv 0 hp kk
  · refine G.eqs [.int 1] rfl ?_
    exact lt_seen E _ hE b L xs cu su h sz i hi hL2 hcu hsu Inv 1 ((xk2 (hx _ _ q)).elim (fun a => a.2) (fun a => absurd a.1 (by decide))) kk
  · refine G.eqs [.int 2] rfl ?_
    exact lt_seen E _ hE b L xs cu su h sz i hi hL2 hcu hsu Inv 2 ((xk2 (hx _ _ q)).elim (fun a => absurd a.1 (by decide)) (fun a => a.2)) kk
def tb_law_tree : List (Nat × Instr × Nat) := [(2633, .aload_n 1, 1), (2634, .aload_n 0, 1), (2635, .iload 4, 2), (2637, .iconst 1, 1), (2638, .iadd, 1), (2639, .iaload, 1), (2640, .ifCond .eq 7, 3), (2643, .iconst 1, 1), (2644, .goto 4, 3), (2647, .iconst 0, 1), (2648, .aload_n 3, 1), (2649, .invokestatic 311, 3), (2652, .istore 5, 2), (2654, .aload_n 2, 1), (2655, .aload_n 0, 1), (2656, .iload 4, 2), (2658, .iconst 1, 1), (2659, .iadd, 1), (2660, .iaload, 1), (2661, .ifCond .eq 7, 3), (2664, .iconst 1, 1), (2665, .goto 4, 3), (2668, .iconst 0, 1), (2669, .invokevirtual 313, 3), (2672, .lstore 6, 2), (2674, .aload_n 2, 1), (2675, .invokevirtual 181, 3), (2678, .iload 5, 2), (2680, .if_icmp .eq 5, 3), (2683, .iconst 0, 1), (2684, .ireturn, 1), (2685, .iload 5, 2), (2687, .ifCond .ne 14, 3), (2690, .aload_n 3, 1), (2691, .iconst 0, 1), (2692, .laload, 1), (2693, .lload 6, 2), (2695, .lcmp, 1), (2696, .ifCond .eq 5, 3), (2699, .iconst 0, 1), (2700, .ireturn, 1), (2701, .goto 103, 3)]
theorem tv_law_tree : Tv code tb_law_tree := by
  unfold Tv
  decide +kernel
theorem w_2801 : Cond.methodLink "LedgerFilesLaw" 313 yX12_tree ∈ TB := tp_12 15 (by decide +kernel) rfl
theorem w_2804 : Cond.code yX12_tree prog_14_method_144_code 2 (some .long) ∈ TB := tp_12 18 rfl rfl
theorem cw_L_313 : Cw RL 313 yX12_tree cX12_tree 2 (some .long) 1 := ⟨w_2801, w_2804, w_161, by decide +kernel, by decide +kernel, by decide⟩
theorem w_2802 : Cond.instanceMethod yX12_tree ∈ TB := tp_12 16 (by decide +kernel) rfl
theorem w_2803 : Cond.selects "LedgerFilesModel" yX12_tree yX12_tree ∈ TB := tp_12 17 (by decide +kernel) rfl
set_option maxRecDepth 100000 in
set_option maxHeartbeats 4000000 in
theorem lt_tree (E : gE) (f : Nat → va_E) (hE : 94 ≤ gN E) (b L : Nat) (xs : Nat → Int32) (cu su h sz i : Nat) (hi : i + 5 < L) (hL2 : L < 2 ^ 31) (hcu : cu + 2 ≤ room_1.cells) (hsu : su + 12 ≤ room_1.slots) (Inv : (Nat → va_E) → Prop) (k : Int32) (H : PmJ E yX12_tree cX12_tree 2 [.int (sB (xs (i + 1)))] f k Inv) (kk : ∀ g, Inv g → G E (lwK h sz) code (gL b L xs (cu + 1) (su + 6)) 2804 [(0, .ref (b)), (1, .ref (gAd E (0))), (2, .ref (gAd E (56))), (3, .ref (gAd E (93))), (4, .int (nI i))] [] g) : G E (lwK h sz) code (gL b L xs (cu + 1) (su + 6)) 2652 [(0, .ref (b)), (1, .ref (gAd E (0))), (2, .ref (gAd E (56))), (3, .ref (gAd E (93))), (4, .int (nI i))] [.int k] f := by
  obtain ⟨hc, Q, hM, hh, ⟨fs, h56⟩, hno, hq⟩ := H
  refine G.go tv_law_tree 6 2660 [(0, .ref (b)), (1, .ref (gAd E (0))), (2, .ref (gAd E (56))), (3, .ref (gAd E (93))), (4, .int (nI i)), (5, .int (k))] [.int ((nI i) + ((1 : Int32))), .ref (b), .ref (gAd E (56))] rfl ?_
  refine G.eqs [.int (nI (i + 1)), .ref (b), .ref (gAd E (56))] (by rw [show (1 : Int32) = nI 1 from rfl, nI_add]) ?_
  refine G.sld lwY_S lwK_A (i + 1) (by omega) hL2 (tbd tv_law_tree rfl) ?_
  refine G.if_eq 2668 (tbd tv_law_tree rfl) (by decide) (fun c2661 => ?_) (fun c2661 => ?_)
  · skip
    rw [show sB (xs (i + 1)) = 0 from if_pos c2661] at hM
    refine G.go tv_law_tree 1 2669 [(0, .ref (b)), (1, .ref (gAd E (0))), (2, .ref (gAd E (56))), (3, .ref (gAd E (93))), (4, .int (nI i)), (5, .int (k))] [.int ((0 : Int32)), .ref (gAd E (56))] rfl ?_
    refine G.callVr 56 [.int ((0 : Int32))] [] hM cls_X12 (by omega) h56 cw_L_313 w_2802 w_2803 (Nat.le_trans (Nat.succ_le_succ hh) (Nat.le_of_ble_eq_true rfl)) (Nat.le_trans (Nat.mul_le_mul_left 64 (Nat.succ_le_succ hh)) (Nat.le_of_ble_eq_true rfl)) (by show (cu + 1) + 1 ≤ room_1.cells; omega) (by show (su + 6) + 6 ≤ room_1.slots; omega) rfl (Nat.le_of_ble_eq_true rfl) (tbd tv_law_tree rfl) (fun v u q => ?_) (fun X u q => hno X u q)
    obtain ⟨r, R, rfl, rv, hk, ho, hI⟩ := hq v u q
    refine G.eqs [.long (r)] rfl ?_
    refine G.go tv_law_tree 2 2675 [(0, .ref (b)), (1, .ref (gAd E (0))), (2, .ref (gAd E (56))), (3, .ref (gAd E (93))), (4, .int (nI i)), (5, .int (k)), (6, .long (r))] [.ref (gAd E (56))] rfl ?_
    refine G.callVr 56 [] [] (c_X12_thrown E u R hE rv) cls_X12 (by omega) rv.o cw_L_181 w_2251 w_2252 (Nat.le_trans (Nat.succ_le_succ (show 1 ≤ 110 by decide)) (Nat.le_of_ble_eq_true rfl)) (Nat.le_trans (Nat.mul_le_mul_left 64 (Nat.succ_le_succ (show 1 ≤ 110 by decide))) (Nat.le_of_ble_eq_true rfl)) (by show (cu + 1) + 1 ≤ room_1.cells; omega) (by show (su + 6) + 6 ≤ room_1.slots; omega) rfl (Nat.le_of_ble_eq_true rfl) (tbd tv_law_tree rfl) (fun v w q => ?_) (fun X w q => q)
    obtain ⟨rfl, rv2, fv2⟩ := q
    obtain rfl := RfV.uniq rv rv2 fv2
    refine G.eqs [.int (rS R 0)] rfl ?_
    refine G.go tv_law_tree 1 2680 [(0, .ref (b)), (1, .ref (gAd E (0))), (2, .ref (gAd E (56))), (3, .ref (gAd E (93))), (4, .int (nI i)), (5, .int (k)), (6, .long (r))] [.int (k), .int (rS R 0)] rfl ?_
    refine G.cmp_eq 2685 (tbd tv_law_tree rfl) (by decide) (fun c2680 => ?_) (fun c2680 => absurd (hk) c2680)
    refine G.go tv_law_tree 1 2687 [(0, .ref (b)), (1, .ref (gAd E (0))), (2, .ref (gAd E (56))), (3, .ref (gAd E (93))), (4, .int (nI i)), (5, .int (k)), (6, .long (r))] [.int (k)] rfl ?_
    refine G.if_ne 2701 (tbd tv_law_tree rfl) (by decide) (fun c2687 => ?_) (fun c2687 => ?_)
    · skip
      refine G.go tv_law_tree 1 2804 [(0, .ref (b)), (1, .ref (gAd E (0))), (2, .ref (gAd E (56))), (3, .ref (gAd E (93))), (4, .int (nI i)), (5, .int (k)), (6, .long (r))] [] rfl ?_
      refine G.drop [0, 1, 2, 3, 4] rfl ?_
      exact kk _ hI
    · skip
      obtain ⟨o, e93, eo⟩ := ho c2687
      refine G.go tv_law_tree 2 2692 [(0, .ref (b)), (1, .ref (gAd E (0))), (2, .ref (gAd E (56))), (3, .ref (gAd E (93))), (4, .int (nI i)), (5, .int (k)), (6, .long (r))] [.int ((0 : Int32)), .ref (gAd E (93))] rfl ?_
      refine G.eqs [.int (nI (0)), .ref (gAd E (93))] (by rw [show (0 : Int32) = nI 0 from rfl]) ?_
      refine G.laldN (93) (0) (by omega) (e93) (by decide) (by decide) (tbd tv_law_tree rfl) ?_
      refine G.go tv_law_tree 2 2696 [(0, .ref (b)), (1, .ref (gAd E (0))), (2, .ref (gAd E (56))), (3, .ref (gAd E (93))), (4, .int (nI i)), (5, .int (k)), (6, .long (r))] [.int (lg_cmp ((o) (0)) (r))] rfl ?_
      refine G.if_eq 2701 (tbd tv_law_tree rfl) (by decide) (fun c2696 => ?_) (fun c2696 => absurd ((lg_cmp_eq _ _).mpr (eo)) c2696)
      refine G.go tv_law_tree 1 2804 [(0, .ref (b)), (1, .ref (gAd E (0))), (2, .ref (gAd E (56))), (3, .ref (gAd E (93))), (4, .int (nI i)), (5, .int (k)), (6, .long (r))] [] rfl ?_
      refine G.drop [0, 1, 2, 3, 4] rfl ?_
      exact kk _ hI
  · skip
    rw [show sB (xs (i + 1)) = 1 from if_neg c2661] at hM
    refine G.go tv_law_tree 2 2669 [(0, .ref (b)), (1, .ref (gAd E (0))), (2, .ref (gAd E (56))), (3, .ref (gAd E (93))), (4, .int (nI i)), (5, .int (k))] [.int ((1 : Int32)), .ref (gAd E (56))] rfl ?_
    refine G.callVr 56 [.int ((1 : Int32))] [] hM cls_X12 (by omega) h56 cw_L_313 w_2802 w_2803 (Nat.le_trans (Nat.succ_le_succ hh) (Nat.le_of_ble_eq_true rfl)) (Nat.le_trans (Nat.mul_le_mul_left 64 (Nat.succ_le_succ hh)) (Nat.le_of_ble_eq_true rfl)) (by show (cu + 1) + 1 ≤ room_1.cells; omega) (by show (su + 6) + 6 ≤ room_1.slots; omega) rfl (Nat.le_of_ble_eq_true rfl) (tbd tv_law_tree rfl) (fun v u q => ?_) (fun X u q => hno X u q)
    obtain ⟨r, R, rfl, rv, hk, ho, hI⟩ := hq v u q
    refine G.eqs [.long (r)] rfl ?_
    refine G.go tv_law_tree 2 2675 [(0, .ref (b)), (1, .ref (gAd E (0))), (2, .ref (gAd E (56))), (3, .ref (gAd E (93))), (4, .int (nI i)), (5, .int (k)), (6, .long (r))] [.ref (gAd E (56))] rfl ?_
    refine G.callVr 56 [] [] (c_X12_thrown E u R hE rv) cls_X12 (by omega) rv.o cw_L_181 w_2251 w_2252 (Nat.le_trans (Nat.succ_le_succ (show 1 ≤ 110 by decide)) (Nat.le_of_ble_eq_true rfl)) (Nat.le_trans (Nat.mul_le_mul_left 64 (Nat.succ_le_succ (show 1 ≤ 110 by decide))) (Nat.le_of_ble_eq_true rfl)) (by show (cu + 1) + 1 ≤ room_1.cells; omega) (by show (su + 6) + 6 ≤ room_1.slots; omega) rfl (Nat.le_of_ble_eq_true rfl) (tbd tv_law_tree rfl) (fun v w q => ?_) (fun X w q => q)
    obtain ⟨rfl, rv2, fv2⟩ := q
    obtain rfl := RfV.uniq rv rv2 fv2
    refine G.eqs [.int (rS R 0)] rfl ?_
    refine G.go tv_law_tree 1 2680 [(0, .ref (b)), (1, .ref (gAd E (0))), (2, .ref (gAd E (56))), (3, .ref (gAd E (93))), (4, .int (nI i)), (5, .int (k)), (6, .long (r))] [.int (k), .int (rS R 0)] rfl ?_
    refine G.cmp_eq 2685 (tbd tv_law_tree rfl) (by decide) (fun c2680 => ?_) (fun c2680 => absurd (hk) c2680)
    refine G.go tv_law_tree 1 2687 [(0, .ref (b)), (1, .ref (gAd E (0))), (2, .ref (gAd E (56))), (3, .ref (gAd E (93))), (4, .int (nI i)), (5, .int (k)), (6, .long (r))] [.int (k)] rfl ?_
    refine G.if_ne 2701 (tbd tv_law_tree rfl) (by decide) (fun c2687 => ?_) (fun c2687 => ?_)
    · skip
      refine G.go tv_law_tree 1 2804 [(0, .ref (b)), (1, .ref (gAd E (0))), (2, .ref (gAd E (56))), (3, .ref (gAd E (93))), (4, .int (nI i)), (5, .int (k)), (6, .long (r))] [] rfl ?_
      refine G.drop [0, 1, 2, 3, 4] rfl ?_
      exact kk _ hI
    · skip
      obtain ⟨o, e93, eo⟩ := ho c2687
      refine G.go tv_law_tree 2 2692 [(0, .ref (b)), (1, .ref (gAd E (0))), (2, .ref (gAd E (56))), (3, .ref (gAd E (93))), (4, .int (nI i)), (5, .int (k)), (6, .long (r))] [.int ((0 : Int32)), .ref (gAd E (93))] rfl ?_
      refine G.eqs [.int (nI (0)), .ref (gAd E (93))] (by rw [show (0 : Int32) = nI 0 from rfl]) ?_
      refine G.laldN (93) (0) (by omega) (e93) (by decide) (by decide) (tbd tv_law_tree rfl) ?_
      refine G.go tv_law_tree 2 2696 [(0, .ref (b)), (1, .ref (gAd E (0))), (2, .ref (gAd E (56))), (3, .ref (gAd E (93))), (4, .int (nI i)), (5, .int (k)), (6, .long (r))] [.int (lg_cmp ((o) (0)) (r))] rfl ?_
      refine G.if_eq 2701 (tbd tv_law_tree rfl) (by decide) (fun c2696 => ?_) (fun c2696 => absurd ((lg_cmp_eq _ _).mpr (eo)) c2696)
      refine G.go tv_law_tree 1 2804 [(0, .ref (b)), (1, .ref (gAd E (0))), (2, .ref (gAd E (56))), (3, .ref (gAd E (93))), (4, .int (nI i)), (5, .int (k)), (6, .long (r))] [] rfl ?_
      refine G.drop [0, 1, 2, 3, 4] rfl ?_
      exact kk _ hI
theorem w_1940 : Cond.methodLink "LedgerFilesLaw" 311 yL_tree ∈ TB := tp_8 114 (by decide +kernel) rfl
theorem w_1941 : Cond.static yL_tree ∈ TB := tp_8 115 (by decide +kernel) rfl
theorem cwh_311 : CwH RL 311 yL_tree cL_tree 4 (some .int) [(0, 8, 11, 13)] 3 := ⟨w_1940, w_1942, w_146, by decide +kernel, by decide +kernel, by decide, w_1941⟩
set_option maxRecDepth 100000 in
set_option maxHeartbeats 4000000 in
theorem k_tree (E : gE) (f : Nat → va_E) (hE : 94 ≤ gN E) (b L : Nat) (xs : Nat → Int32) (cu su h sz i : Nat) (hi : i + 5 < L) (hL2 : L < 2 ^ 31) (hcu : cu + 2 ≤ room_1.cells) (hsu : su + 12 ≤ room_1.slots) (Inv : (Nat → va_E) → Prop) (H : CsJ E f yX11_tree cX11_tree 10 yX12_tree cX12_tree 2 [.int (sB (xs (i + 1)))] [xI] Inv) (kk : ∀ g, Inv g → G E (lwK h sz) code (gL b L xs (cu + 1) (su + 6)) 2804 [(0, .ref (b)), (1, .ref (gAd E (0))), (2, .ref (gAd E (56))), (3, .ref (gAd E (93))), (4, .int (nI i))] [] g) : G E (lwK h sz) code (gL b L xs cu su) 2633 [(0, .ref (b)), (1, .ref (gAd E (0))), (2, .ref (gAd E (56))), (3, .ref (gAd E (93))), (4, .int (nI i))] [] f := by
  obtain ⟨hc, Q, hM, hh, ⟨fs, h0⟩, hn, hx⟩ := H
  refine G.go tv_law_tree 5 2639 [(0, .ref (b)), (1, .ref (gAd E (0))), (2, .ref (gAd E (56))), (3, .ref (gAd E (93))), (4, .int (nI i))] [.int ((nI i) + ((1 : Int32))), .ref (b), .ref (gAd E (0))] rfl ?_
  refine G.eqs [.int (nI (i + 1)), .ref (b), .ref (gAd E (0))] (by rw [show (1 : Int32) = nI 1 from rfl, nI_add]) ?_
  refine G.sld lwY_S lwK_A (i + 1) (by omega) hL2 (tbd tv_law_tree rfl) ?_
  refine G.if_eq 2647 (tbd tv_law_tree rfl) (by decide) (fun c2640 => ?_) (fun c2640 => ?_)
  · skip
    have hM : Ct E hc yX11_tree cX11_tree 10 (some .long) [.ref (gAd E 0), .int ((0 : Int32))] f Q := by have e := hM; rw [show sB (xs (i + 1)) = 0 from if_pos c2640] at e; exact e
    refine G.go tv_law_tree 2 2649 [(0, .ref (b)), (1, .ref (gAd E (0))), (2, .ref (gAd E (56))), (3, .ref (gAd E (93))), (4, .int (nI i))] [.ref (gAd E (93)), .int ((0 : Int32)), .ref (gAd E (0))] rfl ?_
    refine G.callH [.ref (gAd E (0)), .int ((0 : Int32)), .ref (gAd E (93))] [] (h_L_tree E f hE ((0 : Int32)) hM hh h0 (fun v g q => by obtain ⟨x, o, h1, h2, -⟩ := hn v g q; exact ⟨x, o, h1, h2⟩) (fun X g q => (xk1 (hx X g q)).1)) cwh_311 (Nat.le_of_ble_eq_true rfl) (Nat.le_of_ble_eq_true rfl) (by show cu + 1 ≤ room_1.cells; omega) (by show su + 6 ≤ room_1.slots; omega) rfl (Nat.le_of_ble_eq_true rfl) (tbd tv_law_tree rfl) (fun v g q => ?_)
    rcases q with ⟨rfl, x, o, g0, q, e93, rfl⟩ | ⟨rfl, q⟩
    · refine G.eqs [.int 0] rfl ?_
      obtain ⟨x1, o1, e1, e2, hp⟩ := hn _ _ q
      cases e1
      obtain rfl := oJ_inj (e93.symm.trans e2)
      exact lt_tree E _ hE b L xs cu su h sz i hi hL2 hcu hsu Inv 0 hp kk
    · refine G.eqs [.int 1] rfl ?_
      exact lt_tree E _ hE b L xs cu su h sz i hi hL2 hcu hsu Inv 1 (xk1 (hx _ _ q)).2 kk
  · skip
    have hM : Ct E hc yX11_tree cX11_tree 10 (some .long) [.ref (gAd E 0), .int ((1 : Int32))] f Q := by have e := hM; rw [show sB (xs (i + 1)) = 1 from if_neg c2640] at e; exact e
    refine G.go tv_law_tree 3 2649 [(0, .ref (b)), (1, .ref (gAd E (0))), (2, .ref (gAd E (56))), (3, .ref (gAd E (93))), (4, .int (nI i))] [.ref (gAd E (93)), .int ((1 : Int32)), .ref (gAd E (0))] rfl ?_
    refine G.callH [.ref (gAd E (0)), .int ((1 : Int32)), .ref (gAd E (93))] [] (h_L_tree E f hE ((1 : Int32)) hM hh h0 (fun v g q => by obtain ⟨x, o, h1, h2, -⟩ := hn v g q; exact ⟨x, o, h1, h2⟩) (fun X g q => (xk1 (hx X g q)).1)) cwh_311 (Nat.le_of_ble_eq_true rfl) (Nat.le_of_ble_eq_true rfl) (by show cu + 1 ≤ room_1.cells; omega) (by show su + 6 ≤ room_1.slots; omega) rfl (Nat.le_of_ble_eq_true rfl) (tbd tv_law_tree rfl) (fun v g q => ?_)
    rcases q with ⟨rfl, x, o, g0, q, e93, rfl⟩ | ⟨rfl, q⟩
    · refine G.eqs [.int 0] rfl ?_
      obtain ⟨x1, o1, e1, e2, hp⟩ := hn _ _ q
      cases e1
      obtain rfl := oJ_inj (e93.symm.trans e2)
      exact lt_tree E _ hE b L xs cu su h sz i hi hL2 hcu hsu Inv 0 hp kk
    · refine G.eqs [.int 1] rfl ?_
      exact lt_tree E _ hE b L xs cu su h sz i hi hL2 hcu hsu Inv 1 (xk1 (hx _ _ q)).2 kk
def tb_law_check : List (Nat × Instr × Nat) := [(2704, .aload_n 1, 1), (2705, .aload_n 3, 1), (2706, .invokestatic 314, 3), (2709, .istore 5, 2), (2711, .aload_n 2, 1), (2712, .invokevirtual 316, 3), (2715, .istore 6, 2), (2717, .aload_n 2, 1), (2718, .invokevirtual 181, 3), (2721, .iload 5, 2), (2723, .if_icmp .eq 5, 3), (2726, .iconst 0, 1), (2727, .ireturn, 1), (2728, .iload 5, 2), (2730, .ifCond .ne 15, 3), (2733, .aload_n 3, 1), (2734, .iconst 0, 1), (2735, .laload, 1), (2736, .iload 6, 2), (2738, .i2l, 1), (2739, .lcmp, 1), (2740, .ifCond .eq 5, 3), (2743, .iconst 0, 1), (2744, .ireturn, 1), (2745, .goto 59, 3)]
theorem tv_law_check : Tv code tb_law_check := by
  unfold Tv
  decide +kernel
theorem w_2820 : Cond.methodLink "LedgerFilesLaw" 316 yX12_check ∈ TB := tp_12 34 (by decide +kernel) rfl
theorem w_2823 : Cond.code yX12_check prog_14_method_145_code 2 (some .int) ∈ TB := tp_12 37 rfl rfl
theorem cw_L_316 : Cw RL 316 yX12_check cX12_check 2 (some .int) 0 := ⟨w_2820, w_2823, w_161, by decide +kernel, by decide +kernel, by decide⟩
theorem w_2821 : Cond.instanceMethod yX12_check ∈ TB := tp_12 35 (by decide +kernel) rfl
theorem w_2822 : Cond.selects "LedgerFilesModel" yX12_check yX12_check ∈ TB := tp_12 36 (by decide +kernel) rfl
set_option maxRecDepth 100000 in
set_option maxHeartbeats 4000000 in
theorem lt_check (E : gE) (f : Nat → va_E) (hE : 94 ≤ gN E) (b L : Nat) (xs : Nat → Int32) (cu su h sz i : Nat) (hi : i + 5 < L) (hL2 : L < 2 ^ 31) (hcu : cu + 2 ≤ room_1.cells) (hsu : su + 12 ≤ room_1.slots) (Inv : (Nat → va_E) → Prop) (k : Int32) (H : PmI E yX12_check cX12_check 2 [] f k Inv) (kk : ∀ g, Inv g → G E (lwK h sz) code (gL b L xs (cu + 1) (su + 6)) 2804 [(0, .ref (b)), (1, .ref (gAd E (0))), (2, .ref (gAd E (56))), (3, .ref (gAd E (93))), (4, .int (nI i))] [] g) : G E (lwK h sz) code (gL b L xs (cu + 1) (su + 6)) 2709 [(0, .ref (b)), (1, .ref (gAd E (0))), (2, .ref (gAd E (56))), (3, .ref (gAd E (93))), (4, .int (nI i))] [.int k] f := by
  obtain ⟨hc, Q, hM, hh, ⟨fs, h56⟩, hno, hq⟩ := H
  refine G.go tv_law_check 2 2712 [(0, .ref (b)), (1, .ref (gAd E (0))), (2, .ref (gAd E (56))), (3, .ref (gAd E (93))), (4, .int (nI i)), (5, .int (k))] [.ref (gAd E (56))] rfl ?_
  refine G.callVr 56 [] [] hM cls_X12 (by omega) h56 cw_L_316 w_2821 w_2822 (Nat.le_trans (Nat.succ_le_succ hh) (Nat.le_of_ble_eq_true rfl)) (Nat.le_trans (Nat.mul_le_mul_left 64 (Nat.succ_le_succ hh)) (Nat.le_of_ble_eq_true rfl)) (by show (cu + 1) + 1 ≤ room_1.cells; omega) (by show (su + 6) + 6 ≤ room_1.slots; omega) rfl (Nat.le_of_ble_eq_true rfl) (tbd tv_law_check rfl) (fun v u q => ?_) (fun X u q => hno X u q)
  obtain ⟨r, R, rfl, rv, hk, ho, hI⟩ := hq v u q
  refine G.eqs [.int (r)] rfl ?_
  refine G.go tv_law_check 2 2718 [(0, .ref (b)), (1, .ref (gAd E (0))), (2, .ref (gAd E (56))), (3, .ref (gAd E (93))), (4, .int (nI i)), (5, .int (k)), (6, .int (r))] [.ref (gAd E (56))] rfl ?_
  refine G.callVr 56 [] [] (c_X12_thrown E u R hE rv) cls_X12 (by omega) rv.o cw_L_181 w_2251 w_2252 (Nat.le_trans (Nat.succ_le_succ (show 1 ≤ 110 by decide)) (Nat.le_of_ble_eq_true rfl)) (Nat.le_trans (Nat.mul_le_mul_left 64 (Nat.succ_le_succ (show 1 ≤ 110 by decide))) (Nat.le_of_ble_eq_true rfl)) (by show (cu + 1) + 1 ≤ room_1.cells; omega) (by show (su + 6) + 6 ≤ room_1.slots; omega) rfl (Nat.le_of_ble_eq_true rfl) (tbd tv_law_check rfl) (fun v w q => ?_) (fun X w q => q)
  obtain ⟨rfl, rv2, fv2⟩ := q
  obtain rfl := RfV.uniq rv rv2 fv2
  refine G.eqs [.int (rS R 0)] rfl ?_
  refine G.go tv_law_check 1 2723 [(0, .ref (b)), (1, .ref (gAd E (0))), (2, .ref (gAd E (56))), (3, .ref (gAd E (93))), (4, .int (nI i)), (5, .int (k)), (6, .int (r))] [.int (k), .int (rS R 0)] rfl ?_
  refine G.cmp_eq 2728 (tbd tv_law_check rfl) (by decide) (fun c2723 => ?_) (fun c2723 => absurd (hk) c2723)
  refine G.go tv_law_check 1 2730 [(0, .ref (b)), (1, .ref (gAd E (0))), (2, .ref (gAd E (56))), (3, .ref (gAd E (93))), (4, .int (nI i)), (5, .int (k)), (6, .int (r))] [.int (k)] rfl ?_
  refine G.if_ne 2745 (tbd tv_law_check rfl) (by decide) (fun c2730 => ?_) (fun c2730 => ?_)
  · skip
    refine G.go tv_law_check 1 2804 [(0, .ref (b)), (1, .ref (gAd E (0))), (2, .ref (gAd E (56))), (3, .ref (gAd E (93))), (4, .int (nI i)), (5, .int (k)), (6, .int (r))] [] rfl ?_
    refine G.drop [0, 1, 2, 3, 4] rfl ?_
    exact kk _ hI
  · skip
    obtain ⟨o, e93, eo⟩ := ho c2730
    refine G.go tv_law_check 2 2735 [(0, .ref (b)), (1, .ref (gAd E (0))), (2, .ref (gAd E (56))), (3, .ref (gAd E (93))), (4, .int (nI i)), (5, .int (k)), (6, .int (r))] [.int ((0 : Int32)), .ref (gAd E (93))] rfl ?_
    refine G.eqs [.int (nI (0)), .ref (gAd E (93))] (by rw [show (0 : Int32) = nI 0 from rfl]) ?_
    refine G.laldN (93) (0) (by omega) (e93) (by decide) (by decide) (tbd tv_law_check rfl) ?_
    refine G.go tv_law_check 3 2740 [(0, .ref (b)), (1, .ref (gAd E (0))), (2, .ref (gAd E (56))), (3, .ref (gAd E (93))), (4, .int (nI i)), (5, .int (k)), (6, .int (r))] [.int (lg_cmp ((o) (0)) ((r : Int32).toInt64))] rfl ?_
    refine G.if_eq 2745 (tbd tv_law_check rfl) (by decide) (fun c2740 => ?_) (fun c2740 => absurd ((lg_cmp_eq _ _).mpr (eo)) c2740)
    refine G.go tv_law_check 1 2804 [(0, .ref (b)), (1, .ref (gAd E (0))), (2, .ref (gAd E (56))), (3, .ref (gAd E (93))), (4, .int (nI i)), (5, .int (k)), (6, .int (r))] [] rfl ?_
    refine G.drop [0, 1, 2, 3, 4] rfl ?_
    exact kk _ hI
theorem w_1964 : Cond.methodLink "LedgerFilesLaw" 314 yL_check ∈ TB := tp_8 138 (by decide +kernel) rfl
theorem w_1965 : Cond.static yL_check ∈ TB := tp_8 139 (by decide +kernel) rfl
theorem cwh_314 : CwH RL 314 yL_check cL_check 3 (some .int) [(0, 8, 11, 13)] 2 := ⟨w_1964, w_1966, w_146, by decide +kernel, by decide +kernel, by decide, w_1965⟩
set_option maxRecDepth 100000 in
set_option maxHeartbeats 4000000 in
theorem k_check (E : gE) (f : Nat → va_E) (hE : 94 ≤ gN E) (b L : Nat) (xs : Nat → Int32) (cu su h sz i : Nat) (hi : i + 5 < L) (hL2 : L < 2 ^ 31) (hcu : cu + 2 ≤ room_1.cells) (hsu : su + 12 ≤ room_1.slots) (Inv : (Nat → va_E) → Prop) (H : CsI E f yX11_check cX11_check 1 yX12_check cX12_check 2 [] [xI] Inv) (kk : ∀ g, Inv g → G E (lwK h sz) code (gL b L xs (cu + 1) (su + 6)) 2804 [(0, .ref (b)), (1, .ref (gAd E (0))), (2, .ref (gAd E (56))), (3, .ref (gAd E (93))), (4, .int (nI i))] [] g) : G E (lwK h sz) code (gL b L xs cu su) 2704 [(0, .ref (b)), (1, .ref (gAd E (0))), (2, .ref (gAd E (56))), (3, .ref (gAd E (93))), (4, .int (nI i))] [] f := by
  obtain ⟨hc, Q, hM, hh, ⟨fs, h0⟩, hn, hx⟩ := H
  refine G.go tv_law_check 2 2706 [(0, .ref (b)), (1, .ref (gAd E (0))), (2, .ref (gAd E (56))), (3, .ref (gAd E (93))), (4, .int (nI i))] [.ref (gAd E (93)), .ref (gAd E (0))] rfl ?_
  refine G.callH [.ref (gAd E (0)), .ref (gAd E (93))] [] (h_L_check E f hE  hM hh h0 (fun v g q => by obtain ⟨x, o, h1, h2, -⟩ := hn v g q; exact ⟨x, o, h1, h2⟩) (fun X g q => (xk1 (hx X g q)).1)) cwh_314 (Nat.le_of_ble_eq_true rfl) (Nat.le_of_ble_eq_true rfl) (by show cu + 1 ≤ room_1.cells; omega) (by show su + 6 ≤ room_1.slots; omega) rfl (Nat.le_of_ble_eq_true rfl) (tbd tv_law_check rfl) (fun v g q => ?_)
  rcases q with ⟨rfl, x, o, g0, q, e93, rfl⟩ | ⟨rfl, q⟩
  · refine G.eqs [.int 0] rfl ?_
    obtain ⟨x1, o1, e1, e2, hp⟩ := hn _ _ q
    cases e1
    obtain rfl := oJ_inj (e93.symm.trans e2)
    exact lt_check E _ hE b L xs cu su h sz i hi hL2 hcu hsu Inv 0 hp kk
  · refine G.eqs [.int 1] rfl ?_
    exact lt_check E _ hE b L xs cu su h sz i hi hL2 hcu hsu Inv 1 (xk1 (hx _ _ q)).2 kk
def tb_law_count : List (Nat × Instr × Nat) := [(2748, .aload_n 1, 1), (2749, .aload_n 0, 1), (2750, .iload 4, 2), (2752, .iconst 1, 1), (2753, .iadd, 1), (2754, .iaload, 1), (2755, .aload_n 3, 1), (2756, .invokestatic 317, 3), (2759, .istore 5, 2), (2761, .aload_n 2, 1), (2762, .aload_n 0, 1), (2763, .iload 4, 2), (2765, .iconst 1, 1), (2766, .iadd, 1), (2767, .iaload, 1), (2768, .invokevirtual 319, 3), (2771, .istore 6, 2), (2773, .aload_n 2, 1), (2774, .invokevirtual 181, 3), (2777, .iload 5, 2), (2779, .if_icmp .eq 5, 3), (2782, .iconst 0, 1), (2783, .ireturn, 1), (2784, .iload 5, 2), (2786, .ifCond .ne 15, 3), (2789, .aload_n 3, 1), (2790, .iconst 0, 1), (2791, .laload, 1), (2792, .iload 6, 2), (2794, .i2l, 1), (2795, .lcmp, 1), (2796, .ifCond .eq 5, 3), (2799, .iconst 0, 1), (2800, .ireturn, 1), (2801, .goto 3, 3)]
theorem tv_law_count : Tv code tb_law_count := by
  unfold Tv
  decide +kernel
theorem w_2824 : Cond.methodLink "LedgerFilesLaw" 319 yX12_count ∈ TB := tp_12 38 (by decide +kernel) rfl
theorem w_2827 : Cond.code yX12_count prog_14_method_147_code 2 (some .int) ∈ TB := tp_12 41 rfl rfl
theorem cw_L_319 : Cw RL 319 yX12_count cX12_count 2 (some .int) 1 := ⟨w_2824, w_2827, w_161, by decide +kernel, by decide +kernel, by decide⟩
theorem w_2825 : Cond.instanceMethod yX12_count ∈ TB := tp_12 39 (by decide +kernel) rfl
theorem w_2826 : Cond.selects "LedgerFilesModel" yX12_count yX12_count ∈ TB := tp_12 40 (by decide +kernel) rfl
set_option maxRecDepth 100000 in
set_option maxHeartbeats 4000000 in
theorem lt_count (E : gE) (f : Nat → va_E) (hE : 94 ≤ gN E) (b L : Nat) (xs : Nat → Int32) (cu su h sz i : Nat) (hi : i + 5 < L) (hL2 : L < 2 ^ 31) (hcu : cu + 2 ≤ room_1.cells) (hsu : su + 12 ≤ room_1.slots) (Inv : (Nat → va_E) → Prop) (k : Int32) (H : PmI E yX12_count cX12_count 2 [.int (xs (i + 1))] f k Inv) (kk : ∀ g, Inv g → G E (lwK h sz) code (gL b L xs (cu + 1) (su + 6)) 2804 [(0, .ref (b)), (1, .ref (gAd E (0))), (2, .ref (gAd E (56))), (3, .ref (gAd E (93))), (4, .int (nI i))] [] g) : G E (lwK h sz) code (gL b L xs (cu + 1) (su + 6)) 2759 [(0, .ref (b)), (1, .ref (gAd E (0))), (2, .ref (gAd E (56))), (3, .ref (gAd E (93))), (4, .int (nI i))] [.int k] f := by
  obtain ⟨hc, Q, hM, hh, ⟨fs, h56⟩, hno, hq⟩ := H
  refine G.go tv_law_count 6 2767 [(0, .ref (b)), (1, .ref (gAd E (0))), (2, .ref (gAd E (56))), (3, .ref (gAd E (93))), (4, .int (nI i)), (5, .int (k))] [.int ((nI i) + ((1 : Int32))), .ref (b), .ref (gAd E (56))] rfl ?_
  refine G.eqs [.int (nI (i + 1)), .ref (b), .ref (gAd E (56))] (by rw [show (1 : Int32) = nI 1 from rfl, nI_add]) ?_
  refine G.sld lwY_S lwK_A (i + 1) (by omega) hL2 (tbd tv_law_count rfl) ?_
  refine G.callVr 56 [.int (xs (i + 1))] [] hM cls_X12 (by omega) h56 cw_L_319 w_2825 w_2826 (Nat.le_trans (Nat.succ_le_succ hh) (Nat.le_of_ble_eq_true rfl)) (Nat.le_trans (Nat.mul_le_mul_left 64 (Nat.succ_le_succ hh)) (Nat.le_of_ble_eq_true rfl)) (by show (cu + 1) + 1 ≤ room_1.cells; omega) (by show (su + 6) + 6 ≤ room_1.slots; omega) rfl (Nat.le_of_ble_eq_true rfl) (tbd tv_law_count rfl) (fun v u q => ?_) (fun X u q => hno X u q)
  obtain ⟨r, R, rfl, rv, hk, ho, hI⟩ := hq v u q
  refine G.eqs [.int (r)] rfl ?_
  refine G.go tv_law_count 2 2774 [(0, .ref (b)), (1, .ref (gAd E (0))), (2, .ref (gAd E (56))), (3, .ref (gAd E (93))), (4, .int (nI i)), (5, .int (k)), (6, .int (r))] [.ref (gAd E (56))] rfl ?_
  refine G.callVr 56 [] [] (c_X12_thrown E u R hE rv) cls_X12 (by omega) rv.o cw_L_181 w_2251 w_2252 (Nat.le_trans (Nat.succ_le_succ (show 1 ≤ 110 by decide)) (Nat.le_of_ble_eq_true rfl)) (Nat.le_trans (Nat.mul_le_mul_left 64 (Nat.succ_le_succ (show 1 ≤ 110 by decide))) (Nat.le_of_ble_eq_true rfl)) (by show (cu + 1) + 1 ≤ room_1.cells; omega) (by show (su + 6) + 6 ≤ room_1.slots; omega) rfl (Nat.le_of_ble_eq_true rfl) (tbd tv_law_count rfl) (fun v w q => ?_) (fun X w q => q)
  obtain ⟨rfl, rv2, fv2⟩ := q
  obtain rfl := RfV.uniq rv rv2 fv2
  refine G.eqs [.int (rS R 0)] rfl ?_
  refine G.go tv_law_count 1 2779 [(0, .ref (b)), (1, .ref (gAd E (0))), (2, .ref (gAd E (56))), (3, .ref (gAd E (93))), (4, .int (nI i)), (5, .int (k)), (6, .int (r))] [.int (k), .int (rS R 0)] rfl ?_
  refine G.cmp_eq 2784 (tbd tv_law_count rfl) (by decide) (fun c2779 => ?_) (fun c2779 => absurd (hk) c2779)
  refine G.go tv_law_count 1 2786 [(0, .ref (b)), (1, .ref (gAd E (0))), (2, .ref (gAd E (56))), (3, .ref (gAd E (93))), (4, .int (nI i)), (5, .int (k)), (6, .int (r))] [.int (k)] rfl ?_
  refine G.if_ne 2801 (tbd tv_law_count rfl) (by decide) (fun c2786 => ?_) (fun c2786 => ?_)
  · skip
    refine G.go tv_law_count 1 2804 [(0, .ref (b)), (1, .ref (gAd E (0))), (2, .ref (gAd E (56))), (3, .ref (gAd E (93))), (4, .int (nI i)), (5, .int (k)), (6, .int (r))] [] rfl ?_
    refine G.drop [0, 1, 2, 3, 4] rfl ?_
    exact kk _ hI
  · skip
    obtain ⟨o, e93, eo⟩ := ho c2786
    refine G.go tv_law_count 2 2791 [(0, .ref (b)), (1, .ref (gAd E (0))), (2, .ref (gAd E (56))), (3, .ref (gAd E (93))), (4, .int (nI i)), (5, .int (k)), (6, .int (r))] [.int ((0 : Int32)), .ref (gAd E (93))] rfl ?_
    refine G.eqs [.int (nI (0)), .ref (gAd E (93))] (by rw [show (0 : Int32) = nI 0 from rfl]) ?_
    refine G.laldN (93) (0) (by omega) (e93) (by decide) (by decide) (tbd tv_law_count rfl) ?_
    refine G.go tv_law_count 3 2796 [(0, .ref (b)), (1, .ref (gAd E (0))), (2, .ref (gAd E (56))), (3, .ref (gAd E (93))), (4, .int (nI i)), (5, .int (k)), (6, .int (r))] [.int (lg_cmp ((o) (0)) ((r : Int32).toInt64))] rfl ?_
    refine G.if_eq 2801 (tbd tv_law_count rfl) (by decide) (fun c2796 => ?_) (fun c2796 => absurd ((lg_cmp_eq _ _).mpr (eo)) c2796)
    refine G.go tv_law_count 1 2804 [(0, .ref (b)), (1, .ref (gAd E (0))), (2, .ref (gAd E (56))), (3, .ref (gAd E (93))), (4, .int (nI i)), (5, .int (k)), (6, .int (r))] [] rfl ?_
    refine G.drop [0, 1, 2, 3, 4] rfl ?_
    exact kk _ hI
theorem w_2028 : Cond.methodLink "LedgerFilesLaw" 317 yL_count ∈ TB := tp_8 202 (by decide +kernel) rfl
theorem w_2029 : Cond.static yL_count ∈ TB := tp_8 203 (by decide +kernel) rfl
theorem cwh_317 : CwH RL 317 yL_count cL_count 4 (some .int) [(0, 9, 12, 20)] 3 := ⟨w_2028, w_2030, w_146, by decide +kernel, by decide +kernel, by decide, w_2029⟩
set_option maxRecDepth 100000 in
set_option maxHeartbeats 4000000 in
theorem k_count (E : gE) (f : Nat → va_E) (hE : 94 ≤ gN E) (b L : Nat) (xs : Nat → Int32) (cu su h sz i : Nat) (hi : i + 5 < L) (hL2 : L < 2 ^ 31) (hcu : cu + 2 ≤ room_1.cells) (hsu : su + 12 ≤ room_1.slots) (Inv : (Nat → va_E) → Prop) (H : CsI E f yX11_count cX11_count 2 yX12_count cX12_count 2 [.int (xs (i + 1))] [xA] Inv) (kk : ∀ g, Inv g → G E (lwK h sz) code (gL b L xs (cu + 1) (su + 6)) 2804 [(0, .ref (b)), (1, .ref (gAd E (0))), (2, .ref (gAd E (56))), (3, .ref (gAd E (93))), (4, .int (nI i))] [] g) : G E (lwK h sz) code (gL b L xs cu su) 2748 [(0, .ref (b)), (1, .ref (gAd E (0))), (2, .ref (gAd E (56))), (3, .ref (gAd E (93))), (4, .int (nI i))] [] f := by
  obtain ⟨hc, Q, hM, hh, ⟨fs, h0⟩, hn, hx⟩ := H
  refine G.go tv_law_count 5 2754 [(0, .ref (b)), (1, .ref (gAd E (0))), (2, .ref (gAd E (56))), (3, .ref (gAd E (93))), (4, .int (nI i))] [.int ((nI i) + ((1 : Int32))), .ref (b), .ref (gAd E (0))] rfl ?_
  refine G.eqs [.int (nI (i + 1)), .ref (b), .ref (gAd E (0))] (by rw [show (1 : Int32) = nI 1 from rfl, nI_add]) ?_
  refine G.sld lwY_S lwK_A (i + 1) (by omega) hL2 (tbd tv_law_count rfl) ?_
  refine G.go tv_law_count 1 2756 [(0, .ref (b)), (1, .ref (gAd E (0))), (2, .ref (gAd E (56))), (3, .ref (gAd E (93))), (4, .int (nI i))] [.ref (gAd E (93)), .int (xs (i + 1)), .ref (gAd E (0))] rfl ?_
  refine G.callH [.ref (gAd E (0)), .int (xs (i + 1)), .ref (gAd E (93))] [] (h_L_count E f hE (xs (i + 1)) hM hh h0 (fun v g q => by obtain ⟨x, o, h1, h2, -⟩ := hn v g q; exact ⟨x, o, h1, h2⟩) (fun X g q => (xk1 (hx X g q)).1)) cwh_317 (Nat.le_of_ble_eq_true rfl) (Nat.le_of_ble_eq_true rfl) (by show cu + 1 ≤ room_1.cells; omega) (by show su + 6 ≤ room_1.slots; omega) rfl (Nat.le_of_ble_eq_true rfl) (tbd tv_law_count rfl) (fun v g q => ?_)
  rcases q with ⟨rfl, x, o, g0, q, e93, rfl⟩ | ⟨rfl, q⟩
  · refine G.eqs [.int 0] rfl ?_
    obtain ⟨x1, o1, e1, e2, hp⟩ := hn _ _ q
    cases e1
    obtain rfl := oJ_inj (e93.symm.trans e2)
    exact lt_count E _ hE b L xs cu su h sz i hi hL2 hcu hsu Inv 0 hp kk
  · refine G.eqs [.int 1] rfl ?_
    exact lt_count E _ hE b L xs cu su h sz i hi hL2 hcu hsu Inv 1 (xk1 (hx _ _ q)).2 kk
end GLX
