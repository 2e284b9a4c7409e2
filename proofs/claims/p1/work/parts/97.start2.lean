theorem w_178 : Cond.classLink "LedgerFilesLaw" 8 "LedgerFiles" ∈ TB := tp_1 32 (by decide +kernel) rfl
theorem w_179 : Cond.instantiable "LedgerFiles" 18 ∈ TB := tp_1 33 (by decide +kernel) rfl
theorem w_2054 : Cond.classLink "LedgerFilesLaw" 165 "LedgerFilesModel" ∈ TB := tp_8 228 (by decide +kernel) rfl
theorem w_2055 : Cond.instantiable "LedgerFilesModel" 61 ∈ TB := tp_8 229 (by decide +kernel) rfl
theorem w_180 : Cond.methodLink "LedgerFilesLaw" 162 yX11_init ∈ TB := tp_1 34 (by decide +kernel) rfl
theorem w_182 : Cond.code yX11_init prog_1_method_1_code 4 none ∈ TB := tp_1 36 rfl rfl
theorem cw_L_162 : Cw RL 162 yX11_init cX11_init 4 none 3 := ⟨w_180, w_182, w_147, by decide +kernel, by decide +kernel, by decide⟩
theorem w_2056 : Cond.methodLink "LedgerFilesLaw" 167 yX12_init ∈ TB := tp_8 230 (by decide +kernel) rfl
theorem w_2058 : Cond.code yX12_init prog_14_method_1_code 4 none ∈ TB := tp_8 232 rfl rfl
theorem cw_L_167 : Cw RL 167 yX12_init cX12_init 4 none 3 := ⟨w_2056, w_2058, w_161, by decide +kernel, by decide +kernel, by decide⟩
theorem w_181 : Cond.instanceMethod yX11_init ∈ TB := tp_1 35 (by decide +kernel) rfl
theorem w_2057 : Cond.instanceMethod yX12_init ∈ TB := tp_8 231 (by decide +kernel) rfl
section GLT
set_option maxRecDepth 100000 in
set_option maxHeartbeats 4000000 in
theorem law_start (l : Launch) (D : va_G) (dA : Nat → ClassId) (ad : Nat → Nat) (f : Nat → va_E) (b L : Nat) (xs : Nat → Int32) (h sz : Nat) (hL2 : L < 2 ^ 31) (hrc : 12000 ≤ room_1.cells) (hrs : 2600000 ≤ room_1.slots)
    (Hl : ∀ (E : gE) (f : Nat → va_E) (N B gr : Nat), (128 ≤ N ∧ N ≤ 1024 ∧ 4 ≤ B ∧ B ≤ 64 ∧ 1 ≤ gr ∧ gr ≤ 16) → gN E = 350 + 2 * N + B + gr * 40 → FrV E f N B gr → G E (lwK h sz) code (gL b L xs 10000 2500000) 53 [(0, .ref b), (1, .ref (gAd E (0))), (2, .ref (gAd E (56))), (3, .ref (gAd E (93))), (4, .int (nI (3 + 6 * 0)))] [] f) :
    G (l, D, dA, 0, ad) (lwK h sz) code (gL b L xs 0 0) 0 [(0, .ref b)] [] f := by
  refine G.mkO (n0 := 0) (ad0 := ad) 1 rfl cls_X11 [.null, .int (0), .int (0), .null, .null, .null, .null, .null, .null, .null, .null, .null, .null, .null, .null, .null, .null, .null] (fun j hj => match j, hj with | 0, _ => rfl | 1, _ => rfl | 2, _ => rfl | 3, _ => rfl | 4, _ => rfl | 5, _ => rfl | 6, _ => rfl | 7, _ => rfl | 8, _ => rfl | 9, _ => rfl | 10, _ => rfl | 11, _ => rfl | 12, _ => rfl | 13, _ => rfl | 14, _ => rfl | 15, _ => rfl | 16, _ => rfl | 17, _ => rfl | j + 18, h => absurd h (by omega)) w_178 w_179 w_147 (by (try dsimp only); omega) (by (try dsimp only); omega) (tbd tv_law_head rfl) (fun ad1 f1 hA1 hF1 hX1 => ?_)
  change G (l, D, dA, 1, ad1) (lwK h sz) code (gL b L xs 1 18) 3 [(0, .ref b)] [.ref (ad1 0)] f1
  refine G.go tv_law_head 3 6 [(0, .ref b)] [.int (0 : Int32), .ref b, .ref (ad1 0), .ref (ad1 0)] rfl ?_
  refine G.cell 0 [.ref (ad1 0), .ref (ad1 0)] rfl (by decide) hL2 (by omega) (by omega) (Nat.le_of_ble_eq_true rfl) (tbd tv_law_head rfl) ?_
  refine G.go tv_law_head 2 11 [(0, .ref b)] [.int (1 : Int32), .ref b, .int (if 0 < L then xs 0 else 0), .ref (ad1 0), .ref (ad1 0)] rfl ?_
  refine G.cell 1 [.int (if 0 < L then xs 0 else 0), .ref (ad1 0), .ref (ad1 0)] rfl (by decide) hL2 (by omega) (by omega) (Nat.le_of_ble_eq_true rfl) (tbd tv_law_head rfl) ?_
  refine G.go tv_law_head 2 16 [(0, .ref b)] [.int (2 : Int32), .ref b, .int (if 1 < L then xs 1 else 0), .int (if 0 < L then xs 0 else 0), .ref (ad1 0), .ref (ad1 0)] rfl ?_
  refine G.cell 2 [.int (if 1 < L then xs 1 else 0), .int (if 0 < L then xs 0 else 0), .ref (ad1 0), .ref (ad1 0)] rfl (by decide) hL2 (by omega) (by omega) (Nat.le_of_ble_eq_true rfl) (tbd tv_law_head rfl) ?_
  generalize e0 : (if 0 < L then xs 0 else 0) = x0
  generalize e1 : (if 1 < L then xs 1 else 0) = x1
  generalize e2 : (if 2 < L then xs 2 else 0) = x2
  obtain ⟨N, hN1, hN2, hNi, hNj⟩ := cl_ex 128 1024 (by decide) (by decide) x0
  obtain ⟨B, hB1, hB2, hBi, hBj⟩ := cl_ex 4 64 (by decide) (by decide) x1
  obtain ⟨gr, hg1, hg2, hgi, hgj⟩ := cl_ex 1 16 (by decide) (by decide) x2
  refine G.kI (n0 := 1) (ad0 := ad1) (1 + 271 + N + 3 + B + 10 + (gr * 40) + 9 + N + 18) (ad1 0) [.int x0, .int x1, .int x2] [.ref (ad1 0)] (k_X11_init (l, D, dA, 1, ad1) f1 0 (by show 0 < 1; decide) hX1 x0 x1 x2 N B gr hN2 hB2 hg2 hNi hBi hgi) (fun _ _ _ h => h.1) cw_L_162 w_181 rfl (Nat.le_of_ble_eq_true rfl) (Nat.le_of_ble_eq_true rfl) (by (try dsimp only); omega) (by (try dsimp only); omega) rfl (Nat.le_of_ble_eq_true rfl) (tbd tv_law_head rfl) (fun ad2 f2 q2 hA2 => ?_)
  refine G.wide 5000 1500000 (by (try dsimp only); omega) (by (try dsimp only); omega) ?_
  change G (l, D, dA, 1 + 271 + N + 3 + B + 10 + (gr * 40) + 9 + N + 18, ad2) (lwK h sz) code (gL b L xs 5000 1500000) 22 [(0, .ref b)] [.ref (ad1 0)] f2
  refine G.go tv_law_head 1 23 [(0, .ref b), (1, .ref (ad1 0))] [] rfl ?_
  refine G.mkO (n0 := 1 + 271 + N + 3 + B + 10 + (gr * 40) + 9 + N + 18) (ad0 := ad2) (1 + 271 + N + 3 + B + 10 + (gr * 40) + 9 + N + 18 + 1) rfl cls_X12 [.int (0), .int (0), .int (0), .int (0), .null, .int (0), .null, .null, .null, .int (0), .int (0), .int (0), .int (0), .int (0), .int (0), .null, .null, .null, .int (0), .long (0), .int (0), .int (0), .int (0), .null, .null, .int (0), .null, .null, .null, .int (0), .null, .null, .null, .int (0), .int (0), .null, .null, .null, .null, .null, .null, .null, .int (0), .null, .null, .null, .null, .int (0), .null, .null, .null, .null, .null, .null, .null, .null, .int (0), .null, .null, .null, .long (0)] (fun j hj => match j, hj with | 0, _ => rfl | 1, _ => rfl | 2, _ => rfl | 3, _ => rfl | 4, _ => rfl | 5, _ => rfl | 6, _ => rfl | 7, _ => rfl | 8, _ => rfl | 9, _ => rfl | 10, _ => rfl | 11, _ => rfl | 12, _ => rfl | 13, _ => rfl | 14, _ => rfl | 15, _ => rfl | 16, _ => rfl | 17, _ => rfl | 18, _ => rfl | 19, _ => rfl | 20, _ => rfl | 21, _ => rfl | 22, _ => rfl | 23, _ => rfl | 24, _ => rfl | 25, _ => rfl | 26, _ => rfl | 27, _ => rfl | 28, _ => rfl | 29, _ => rfl | 30, _ => rfl | 31, _ => rfl | 32, _ => rfl | 33, _ => rfl | 34, _ => rfl | 35, _ => rfl | 36, _ => rfl | 37, _ => rfl | 38, _ => rfl | 39, _ => rfl | 40, _ => rfl | 41, _ => rfl | 42, _ => rfl | 43, _ => rfl | 44, _ => rfl | 45, _ => rfl | 46, _ => rfl | 47, _ => rfl | 48, _ => rfl | 49, _ => rfl | 50, _ => rfl | 51, _ => rfl | 52, _ => rfl | 53, _ => rfl | 54, _ => rfl | 55, _ => rfl | 56, _ => rfl | 57, _ => rfl | 58, _ => rfl | 59, _ => rfl | 60, _ => rfl | j + 61, h => absurd h (by omega)) w_2054 w_2055 w_161 (by (try dsimp only); omega) (by (try dsimp only); omega) (tbd tv_law_head rfl) (fun ad3 f3 hA3 hF3 hX3 => ?_)
  change G (l, D, dA, 1 + 271 + N + 3 + B + 10 + (gr * 40) + 9 + N + 18 + 1, ad3) (lwK h sz) code (gL b L xs 5001 1500061) 26 [(0, .ref b), (1, .ref (ad1 0))] [.ref (ad3 (1 + 271 + N + 3 + B + 10 + (gr * 40) + 9 + N + 18))] f3
  refine G.go tv_law_head 3 29 [(0, .ref b), (1, .ref (ad1 0))] [.int (0 : Int32), .ref b, .ref (ad3 (1 + 271 + N + 3 + B + 10 + (gr * 40) + 9 + N + 18)), .ref (ad3 (1 + 271 + N + 3 + B + 10 + (gr * 40) + 9 + N + 18))] rfl ?_
  refine G.cell 0 [.ref (ad3 (1 + 271 + N + 3 + B + 10 + (gr * 40) + 9 + N + 18)), .ref (ad3 (1 + 271 + N + 3 + B + 10 + (gr * 40) + 9 + N + 18))] rfl (by decide) hL2 (by omega) (by omega) (Nat.le_of_ble_eq_true rfl) (tbd tv_law_head rfl) ?_
  refine G.eqs [.int x0, .ref (ad3 (1 + 271 + N + 3 + B + 10 + (gr * 40) + 9 + N + 18)), .ref (ad3 (1 + 271 + N + 3 + B + 10 + (gr * 40) + 9 + N + 18))] (by rw [e0]) ?_
  refine G.go tv_law_head 2 34 [(0, .ref b), (1, .ref (ad1 0))] [.int (1 : Int32), .ref b, .int x0, .ref (ad3 (1 + 271 + N + 3 + B + 10 + (gr * 40) + 9 + N + 18)), .ref (ad3 (1 + 271 + N + 3 + B + 10 + (gr * 40) + 9 + N + 18))] rfl ?_
  refine G.cell 1 [.int x0, .ref (ad3 (1 + 271 + N + 3 + B + 10 + (gr * 40) + 9 + N + 18)), .ref (ad3 (1 + 271 + N + 3 + B + 10 + (gr * 40) + 9 + N + 18))] rfl (by decide) hL2 (by omega) (by omega) (Nat.le_of_ble_eq_true rfl) (tbd tv_law_head rfl) ?_
  refine G.eqs [.int x1, .int x0, .ref (ad3 (1 + 271 + N + 3 + B + 10 + (gr * 40) + 9 + N + 18)), .ref (ad3 (1 + 271 + N + 3 + B + 10 + (gr * 40) + 9 + N + 18))] (by rw [e1]) ?_
  refine G.go tv_law_head 2 39 [(0, .ref b), (1, .ref (ad1 0))] [.int (2 : Int32), .ref b, .int x1, .int x0, .ref (ad3 (1 + 271 + N + 3 + B + 10 + (gr * 40) + 9 + N + 18)), .ref (ad3 (1 + 271 + N + 3 + B + 10 + (gr * 40) + 9 + N + 18))] rfl ?_
  refine G.cell 2 [.int x1, .int x0, .ref (ad3 (1 + 271 + N + 3 + B + 10 + (gr * 40) + 9 + N + 18)), .ref (ad3 (1 + 271 + N + 3 + B + 10 + (gr * 40) + 9 + N + 18))] rfl (by decide) hL2 (by omega) (by omega) (Nat.le_of_ble_eq_true rfl) (tbd tv_law_head rfl) ?_
  refine G.eqs [.int x2, .int x1, .int x0, .ref (ad3 (1 + 271 + N + 3 + B + 10 + (gr * 40) + 9 + N + 18)), .ref (ad3 (1 + 271 + N + 3 + B + 10 + (gr * 40) + 9 + N + 18))] (by rw [e2]) ?_
  refine G.kI (n0 := 1 + 271 + N + 3 + B + 10 + (gr * 40) + 9 + N + 18 + 1) (ad0 := ad3) (1 + 271 + N + 3 + B + 10 + (gr * 40) + 9 + N + 18 + 1 + 36) (ad3 (1 + 271 + N + 3 + B + 10 + (gr * 40) + 9 + N + 18)) [.int x0, .int x1, .int x2] [.ref (ad3 (1 + 271 + N + 3 + B + 10 + (gr * 40) + 9 + N + 18))] (k_X12_init (l, D, dA, 1 + 271 + N + 3 + B + 10 + (gr * 40) + 9 + N + 18 + 1, ad3) f3 (1 + 271 + N + 3 + B + 10 + (gr * 40) + 9 + N + 18) (Nat.lt_succ_self _) hX3 x0 x1 x2 N B gr hNj hBj hgj) (fun _ _ _ h => h.1) cw_L_167 w_2057 rfl (Nat.le_of_ble_eq_true rfl) (Nat.le_of_ble_eq_true rfl) (by (try dsimp only); omega) (by (try dsimp only); omega) rfl (Nat.le_of_ble_eq_true rfl) (tbd tv_law_head rfl) (fun ad4 f4 q4 hA4 => ?_)
  refine G.go tv_law_head 2 47 [(0, .ref b), (1, .ref (ad1 0)), (2, .ref (ad3 (1 + 271 + N + 3 + B + 10 + (gr * 40) + 9 + N + 18)))] [.int (1 : Int32)] rfl ?_
  refine G.mkJ (n0 := 1 + 271 + N + 3 + B + 10 + (gr * 40) + 9 + N + 18 + 1 + 36) (ad0 := ad4) (N' := 1) (1 + 271 + N + 3 + B + 10 + (gr * 40) + 9 + N + 18 + 1 + 37) rfl w_2249 (by decide) rfl (by decide) (by (try dsimp only); omega) (by (try dsimp only); omega) (tbd tv_law_head rfl) (fun ad5 f5 hA5 hF5 hX5 => ?_)
  refine G.go tv_law_head 3 53 [(0, .ref b), (1, .ref (ad1 0)), (2, .ref (ad3 (1 + 271 + N + 3 + B + 10 + (gr * 40) + 9 + N + 18))), (3, .ref (ad5 (1 + 271 + N + 3 + B + 10 + (gr * 40) + 9 + N + 18 + 1 + 36))), (4, .int (3 : Int32))] [] rfl ?_
  refine G.wide 10000 2500000 (by (try dsimp only); omega) (by (try dsimp only); omega) ?_
  change G (l, D, dA, 1 + 271 + N + 3 + B + 10 + (gr * 40) + 9 + N + 18 + 1 + 37, ad5) (lwK h sz) code (gL b L xs 10000 2500000) 53 [(0, .ref b), (1, .ref (ad1 0)), (2, .ref (ad3 (1 + 271 + N + 3 + B + 10 + (gr * 40) + 9 + N + 18))), (3, .ref (ad5 (1 + 271 + N + 3 + B + 10 + (gr * 40) + 9 + N + 18 + 1 + 36))), (4, .int (3 : Int32))] [] f5
  refine G.perm (E := (l, D, dA, 1 + 271 + N + 3 + B + 10 + (gr * 40) + 9 + N + 18 + 1 + 37, ad5)) (350 + 2 * N + B + gr * 40) (lpi N B gr) (fun k hk => Nat.lt_of_lt_of_eq (lpi_lt hk) (by show 350 + 2 * N + B + gr * 40 = 1 + 271 + N + 3 + B + 10 + (gr * 40) + 9 + N + 18 + 1 + 37; omega)) (fun i j hi hj e => lpi_inj hg1 (by omega) hi hj e) ?_
  have a5 : ∀ k, k < 1 + 271 + N + 3 + B + 10 + (gr * 40) + 9 + N + 18 + 1 + 36 → ad5 k = ad4 k := hA5
  have a4 : ∀ k, k < 1 + 271 + N + 3 + B + 10 + (gr * 40) + 9 + N + 18 + 1 → ad4 k = ad3 k := hA4
  have a3 : ∀ k, k < 1 + 271 + N + 3 + B + 10 + (gr * 40) + 9 + N + 18 → ad3 k = ad2 k := hA3
  have a2 : ∀ k, k < 1 → ad2 k = ad1 k := hA2
  have a52 : ∀ k, k < 1 + 271 + N + 3 + B + 10 + (gr * 40) + 9 + N + 18 → ad5 k = ad2 k := fun k hk => ((a5 k (by omega)).trans (a4 k (by omega))).trans (a3 k hk)
  have ea : ad1 0 = ad5 0 := ((a52 0 (by omega)).trans (a2 0 (by omega))).symm
  have eb : ad3 (1 + 271 + N + 3 + B + 10 + (gr * 40) + 9 + N + 18) = ad5 (1 + 271 + N + 3 + B + 10 + (gr * 40) + 9 + N + 18) := ((a5 _ (by omega)).trans (a4 _ (by omega))).symm
  refine G.eql [(0, .ref b), (1, .ref (ad5 (lpi N B gr 0))), (2, .ref (ad5 (lpi N B gr 56))), (3, .ref (ad5 (lpi N B gr 93))), (4, .int (nI (3 + 6 * 0)))] (by show [(0, Value.ref b), (1, Value.ref (ad1 0)), (2, Value.ref (ad3 (1 + 271 + N + 3 + B + 10 + (gr * 40) + 9 + N + 18))), (3, Value.ref (ad5 (1 + 271 + N + 3 + B + 10 + (gr * 40) + 9 + N + 18 + 1 + 36))), (4, Value.int (3 : Int32))] = [(0, Value.ref b), (1, Value.ref (ad5 0)), (2, Value.ref (ad5 (1 + 271 + N + 3 + B + 10 + (gr * 40) + 9 + N + 18))), (3, Value.ref (ad5 (1 + 271 + N + 3 + B + 10 + (gr * 40) + 9 + N + 18 + 37))), (4, Value.int (nI (3 + 6 * 0)))]; rw [ea, eb, show 1 + 271 + N + 3 + B + 10 + (gr * 40) + 9 + N + 18 + 1 + 36 = 1 + 271 + N + 3 + B + 10 + (gr * 40) + 9 + N + 18 + 37 by omega]; rfl) ?_
  refine Hl _ _ N B gr ⟨hN1, hN2, hB1, hB2, hg1, hg2⟩ rfl ?_
  obtain ⟨-, -, h0, h1, h2, h3, h4, h5, h6, h7, h8, h9, h10, h11, h12, h13, h14, h15, h16, h17, h18, h19, h20, h21, h22, h23, h24, h25, h26, h27, h28, h29, h30, h31, h32, h33, h34, h35, h36, h37, h38, h39, h40, h41, h42, h43, h44, h45, h46, h47, h48, h49, h50, h51, h52, h53, h54, h55, h56, h57, h58, h59, h60⟩ := q2
  obtain ⟨-, k4, m0, m1, m2, m3, m4, m5, m6, m7, m8, m9, m10, m11, m12, m13, m14, m15, m16, m17, m18, m19, m20, m21, m22, m23, m24, m25, m26, m27, m28, m29, m30, m31, m32, m33, m34, m35, m36⟩ := q4
  have f42 : ∀ k, k < 1 + 271 + N + 3 + B + 10 + (gr * 40) + 9 + N + 18 → f5 k = f2 k := fun k hk => ((hF5 k (by show k < 1 + 271 + N + 3 + B + 10 + (gr * 40) + 9 + N + 18 + 1 + 36; omega)).trans (k4 k (by show k < 1 + 271 + N + 3 + B + 10 + (gr * 40) + 9 + N + 18 + 1; omega) (by omega))).trans (hF3 k hk)
  refine ⟨?_, ?_, ?_, ?_, ?_, ?_, ?_, ?_, ?_, ?_, ?_, ?_, ?_, ?_, ?_, ?_, ?_, ?_, ?_, ?_, ?_, ?_, ?_, ?_, ?_, ?_, ?_, ?_, ?_, ?_, ?_, ?_, ?_, ?_, ?_, ?_, ?_, ?_, ?_, ?_, ?_, ?_, ?_, ?_, ?_, ?_, ?_, ?_, ?_, ?_, ?_, ?_, ?_, ?_, ?_, ?_, ?_, ?_, ?_, ?_, ?_, ?_, ?_, ?_, ?_, ?_, ?_, ?_, ?_, ?_, ?_, ?_, ?_, ?_, ?_, ?_, ?_, ?_, ?_, ?_, ?_, ?_, ?_, ?_, ?_, ?_, ?_, ?_, ?_, ?_, ?_, ?_, ?_, ?_, ?_, ?_, ?_, ?_, ?_⟩
  · show f5 (0) = _
    rw [f42 _ (by omega)]
    refine (h0).trans ?_
    rw [← a52 (1) (by omega)]; rw [← a52 (1 + 10) (by omega)]; rw [← a52 (1 + 271 + N + 1) (by omega)]; rw [← a52 (1 + 271 + N + 3 + B + 3) (by omega)]; rw [← a52 (1 + 271 + N + 3 + B + 7) (by omega)]; rw [← a52 (1 + 271 + N + 3 + B + 10 + (gr * 40) + 5) (by omega)]; rw [← a52 (1 + 271 + N + 3 + B + 10 + (gr * 40) + 9 + N + 3) (by omega)]; rw [← a52 (1 + 271 + N + 3 + B + 10 + (gr * 40) + 9 + N + 8) (by omega)]; rw [← a52 (1 + 271 + N + 3 + B + 10 + (gr * 40) + 9 + N + 11) (by omega)]; rw [← a52 (1 + 271 + N + 3 + B + 10 + (gr * 40) + 9 + N + 12) (by omega)]; rw [← a52 (1 + 271 + N + 3 + B + 10 + (gr * 40) + 9 + N + 15) (by omega)]; rw [← a52 (1 + 1) (by omega)]; rw [← a52 (1 + 4) (by omega)]; rw [← a52 (1 + 7) (by omega)]; rw [← a52 (1 + 8) (by omega)]; rw [← a52 (1 + 9) (by omega)]; rfl
  · show f5 (1) = _
    rw [f42 _ (by omega)]
    refine (h1).trans ?_
    rfl
  · show f5 (1 + 7) = _
    rw [f42 _ (by omega)]
    refine (h2).trans ?_
    rfl
  · show f5 (1 + 8) = _
    rw [f42 _ (by omega)]
    refine (h3).trans ?_
    rfl
  · show f5 (1 + 9) = _
    rw [f42 _ (by omega)]
    refine (h4).trans ?_
    rfl
  · show f5 (1 + 1) = _
    rw [f42 _ (by omega)]
    refine (h5).trans ?_
    rw [← a52 (1 + 2) (by omega)]; rw [← a52 (1 + 3) (by omega)]; rfl
  · show f5 (1 + 2) = _
    rw [f42 _ (by omega)]
    refine (h6).trans ?_
    rfl
  · show f5 (1 + 3) = _
    rw [f42 _ (by omega)]
    refine (h7).trans ?_
    rfl
  · show f5 (1 + 4) = _
    rw [f42 _ (by omega)]
    refine (h8).trans ?_
    rw [← a52 (1 + 5) (by omega)]; rw [← a52 (1 + 6) (by omega)]; rfl
  · show f5 (1 + 5) = _
    rw [f42 _ (by omega)]
    refine (h9).trans ?_
    rfl
  · show f5 (1 + 6) = _
    rw [f42 _ (by omega)]
    refine (h10).trans ?_
    rfl
  · show f5 (1 + 10) = _
    rw [f42 _ (by omega)]
    refine (h11).trans ?_
    rw [← a52 (1 + 269) (by omega)]; rw [← a52 (1 + 270) (by omega)]; rw [← a52 (1 + 11) (by omega)]; rw [← a52 (1 + 271 + N) (by omega)]; rw [← a52 (1 + 268) (by omega)]; rfl
  · show f5 (1 + 271 + N) = _
    rw [f42 _ (by omega)]
    refine (h12).trans ?_
    rfl
  · show f5 (1 + 11) = _
    rw [f42 _ (by omega)]
    refine (h13).trans ?_
    refine congrArg (fun z => oR dA _ z) (funext fun i => ?_)
    unfold rwB rwA
    split
    · rename_i hi
      show some (ad2 _) = some (ad5 (lpi N B gr (94 + i)))
      rw [lpi_94 hi, a52 _ (by omega)]
    · rfl
  · intro i hi
    show f5 (lpi N B gr (94 + i)) = _
    rw [lpi_94 hi, f42 _ (by omega)]
    exact h14 i hi
  · show f5 (1 + 268) = _
    rw [f42 _ (by omega)]
    refine (h15).trans ?_
    rfl
  · show f5 (1 + 269) = _
    rw [f42 _ (by omega)]
    refine (h16).trans ?_
    rfl
  · show f5 (1 + 270) = _
    rw [f42 _ (by omega)]
    refine (h17).trans ?_
    refine congrArg (fun z => oR dA _ z) (funext fun i => ?_)
    unfold rwB rwA
    split
    · rename_i hi
      show some (ad2 _) = some (ad5 (lpi N B gr (350 + i)))
      rw [lpi_sy hi, a52 _ (by omega)]
    · rfl
  · intro i hi
    show f5 (lpi N B gr (350 + i)) = _
    rw [lpi_sy hi, f42 _ (by omega)]
    exact h18 i hi
  · show f5 (1 + 271 + N + 1) = _
    rw [f42 _ (by omega)]
    refine (h19).trans ?_
    rw [← a52 (1 + 10) (by omega)]; rw [← a52 (1 + 271 + N + 2) (by omega)]; rw [← a52 (1 + 271 + N + 3 + B + 2) (by omega)]; rw [← a52 (1 + 271 + N + 3 + B) (by omega)]; rw [← a52 (1 + 271 + N + 3 + B + 1) (by omega)]; rfl
  · show f5 (1 + 271 + N + 3 + B + 2) = _
    rw [f42 _ (by omega)]
    refine (h20).trans ?_
    rfl
  · show f5 (1 + 271 + N + 2) = _
    rw [f42 _ (by omega)]
    refine (h21).trans ?_
    refine congrArg (fun z => oR dA _ z) (funext fun i => ?_)
    unfold rwB rwA
    split
    · rename_i hi
      show some (ad2 _) = some (ad5 (lpi N B gr (350 + 2 * N + i)))
      rw [lpi_bf hi, a52 _ (by omega)]
    · rfl
  · intro i hi
    show f5 (lpi N B gr (350 + 2 * N + i)) = _
    rw [lpi_bf hi, f42 _ (by omega)]
    exact h22 i hi
  · show f5 (1 + 271 + N + 3 + B) = _
    rw [f42 _ (by omega)]
    refine (h23).trans ?_
    rfl
  · show f5 (1 + 271 + N + 3 + B + 1) = _
    rw [f42 _ (by omega)]
    refine (h24).trans ?_
    rfl
  · show f5 (1 + 271 + N + 3 + B + 3) = _
    rw [f42 _ (by omega)]
    refine (h25).trans ?_
    rw [← a52 (1 + 10) (by omega)]; rw [← a52 (1 + 271 + N + 1) (by omega)]; rw [← a52 (1 + 271 + N + 3 + B + 4) (by omega)]; rw [← a52 (1 + 271 + N + 3 + B + 5) (by omega)]; rw [← a52 (1 + 271 + N + 3 + B + 6) (by omega)]; rfl
  · show f5 (1 + 271 + N + 3 + B + 6) = _
    rw [f42 _ (by omega)]
    refine (h26).trans ?_
    rfl
  · show f5 (1 + 271 + N + 3 + B + 4) = _
    rw [f42 _ (by omega)]
    refine (h27).trans ?_
    rfl
  · show f5 (1 + 271 + N + 3 + B + 5) = _
    rw [f42 _ (by omega)]
    refine (h28).trans ?_
    rfl
  · show f5 (1 + 271 + N + 3 + B + 7) = _
    rw [f42 _ (by omega)]
    refine (h29).trans ?_
    rw [← a52 (1 + 271 + N + 3 + B + 3) (by omega)]; rw [← a52 (1 + 271 + N + 3 + B + 9) (by omega)]; rw [← a52 (1 + 271 + N + 3 + B + 10 + (gr * 40)) (by omega)]; rw [← a52 (1 + 271 + N + 3 + B + 10 + (gr * 40) + 2) (by omega)]; rw [← a52 (1 + 271 + N + 3 + B + 8) (by omega)]; rw [← a52 (1 + 271 + N + 3 + B + 10 + (gr * 40) + 1) (by omega)]; rw [← a52 (1 + 271 + N + 3 + B + 10 + (gr * 40) + 3) (by omega)]; rw [← a52 (1 + 271 + N + 3 + B + 10 + (gr * 40) + 4) (by omega)]; rfl
  · show f5 (1 + 271 + N + 3 + B + 10 + (gr * 40) + 2) = _
    rw [f42 _ (by omega)]
    refine (h30).trans ?_
    rfl
  · show f5 (1 + 271 + N + 3 + B + 8) = _
    rw [f42 _ (by omega)]
    refine (h31).trans ?_
    rfl
  · show f5 (1 + 271 + N + 3 + B + 9) = _
    rw [f42 _ (by omega)]
    refine (h32).trans ?_
    refine congrArg (fun z => oR dA _ z) (funext fun i => ?_)
    unfold rwB rwA
    split
    · rename_i hi
      show some (ad2 _) = some (ad5 (lpi N B gr (350 + 2 * N + B + i)))
      rw [lpi_qu, a52 _ (by omega)]
    · rfl
  · intro i hi
    show f5 (lpi N B gr (350 + 2 * N + B + i)) = _
    rw [lpi_qu, f42 _ (by omega)]
    exact h33 i hi
  · show f5 (1 + 271 + N + 3 + B + 10 + (gr * 40)) = _
    rw [f42 _ (by omega)]
    refine (h34).trans ?_
    rfl
  · show f5 (1 + 271 + N + 3 + B + 10 + (gr * 40) + 1) = _
    rw [f42 _ (by omega)]
    refine (h35).trans ?_
    rfl
  · show f5 (1 + 271 + N + 3 + B + 10 + (gr * 40) + 3) = _
    rw [f42 _ (by omega)]
    refine (h36).trans ?_
    rfl
  · show f5 (1 + 271 + N + 3 + B + 10 + (gr * 40) + 4) = _
    rw [f42 _ (by omega)]
    refine (h37).trans ?_
    rfl
  · show f5 (1 + 271 + N + 3 + B + 10 + (gr * 40) + 5) = _
    rw [f42 _ (by omega)]
    refine (h38).trans ?_
    rw [← a52 (1 + 10) (by omega)]; rw [← a52 (1 + 271 + N + 1) (by omega)]; rw [← a52 (1 + 271 + N + 3 + B + 3) (by omega)]; rw [← a52 (1 + 271 + N + 3 + B + 7) (by omega)]; rw [← a52 (1 + 271 + N + 3 + B + 10 + (gr * 40) + 8) (by omega)]; rw [← a52 (1 + 271 + N + 3 + B + 10 + (gr * 40) + 9 + N) (by omega)]; rw [← a52 (1 + 271 + N + 3 + B + 10 + (gr * 40) + 9 + N + 1) (by omega)]; rw [← a52 (1 + 271 + N + 3 + B + 10 + (gr * 40) + 9 + N + 2) (by omega)]; rw [← a52 (1 + 271 + N + 3 + B + 10 + (gr * 40) + 6) (by omega)]; rw [← a52 (1 + 271 + N + 3 + B + 10 + (gr * 40) + 7) (by omega)]; rfl
  · show f5 (1 + 271 + N + 3 + B + 10 + (gr * 40) + 6) = _
    rw [f42 _ (by omega)]
    refine (h39).trans ?_
    rfl
  · show f5 (1 + 271 + N + 3 + B + 10 + (gr * 40) + 7) = _
    rw [f42 _ (by omega)]
    refine (h40).trans ?_
    rfl
  · show f5 (1 + 271 + N + 3 + B + 10 + (gr * 40) + 8) = _
    rw [f42 _ (by omega)]
    refine (h41).trans ?_
    refine congrArg (fun z => oR dA _ z) (funext fun i => ?_)
    unfold rwB rwA
    split
    · rename_i hi
      show some (ad2 _) = some (ad5 (lpi N B gr (350 + N + i)))
      rw [lpi_ma hi, a52 _ (by omega)]
    · rfl
  · intro i hi
    show f5 (lpi N B gr (350 + N + i)) = _
    rw [lpi_ma hi, f42 _ (by omega)]
    exact h42 i hi
  · show f5 (1 + 271 + N + 3 + B + 10 + (gr * 40) + 9 + N) = _
    rw [f42 _ (by omega)]
    refine (h43).trans ?_
    rfl
  · show f5 (1 + 271 + N + 3 + B + 10 + (gr * 40) + 9 + N + 1) = _
    rw [f42 _ (by omega)]
    refine (h44).trans ?_
    rfl
  · show f5 (1 + 271 + N + 3 + B + 10 + (gr * 40) + 9 + N + 2) = _
    rw [f42 _ (by omega)]
    refine (h45).trans ?_
    rfl
  · show f5 (1 + 271 + N + 3 + B + 10 + (gr * 40) + 9 + N + 3) = _
    rw [f42 _ (by omega)]
    refine (h46).trans ?_
    rw [← a52 (1 + 271 + N + 3 + B + 10 + (gr * 40) + 9 + N + 4) (by omega)]; rw [← a52 (1 + 271 + N + 3 + B + 10 + (gr * 40) + 9 + N + 5) (by omega)]; rw [← a52 (1 + 271 + N + 3 + B + 10 + (gr * 40) + 9 + N + 6) (by omega)]; rw [← a52 (1 + 271 + N + 3 + B + 10 + (gr * 40) + 9 + N + 7) (by omega)]; rfl
  · show f5 (1 + 271 + N + 3 + B + 10 + (gr * 40) + 9 + N + 4) = _
    rw [f42 _ (by omega)]
    refine (h47).trans ?_
    rfl
  · show f5 (1 + 271 + N + 3 + B + 10 + (gr * 40) + 9 + N + 5) = _
    rw [f42 _ (by omega)]
    refine (h48).trans ?_
    rfl
  · show f5 (1 + 271 + N + 3 + B + 10 + (gr * 40) + 9 + N + 6) = _
    rw [f42 _ (by omega)]
    refine (h49).trans ?_
    rfl
  · show f5 (1 + 271 + N + 3 + B + 10 + (gr * 40) + 9 + N + 7) = _
    rw [f42 _ (by omega)]
    refine (h50).trans ?_
    rfl
  · show f5 (1 + 271 + N + 3 + B + 10 + (gr * 40) + 9 + N + 8) = _
    rw [f42 _ (by omega)]
    refine (h51).trans ?_
    rw [← a52 (1 + 271 + N + 3 + B + 7) (by omega)]; rw [← a52 (1 + 271 + N + 3 + B + 10 + (gr * 40) + 5) (by omega)]; rw [← a52 (1 + 271 + N + 3 + B + 10 + (gr * 40) + 9 + N + 3) (by omega)]; rw [← a52 (1 + 271 + N + 3 + B + 10 + (gr * 40) + 9 + N + 9) (by omega)]; rw [← a52 (1 + 271 + N + 3 + B + 10 + (gr * 40) + 9 + N + 10) (by omega)]; rfl
  · show f5 (1 + 271 + N + 3 + B + 10 + (gr * 40) + 9 + N + 9) = _
    rw [f42 _ (by omega)]
    refine (h52).trans ?_
    rfl
  · show f5 (1 + 271 + N + 3 + B + 10 + (gr * 40) + 9 + N + 10) = _
    rw [f42 _ (by omega)]
    refine (h53).trans ?_
    rfl
  · show f5 (1 + 271 + N + 3 + B + 10 + (gr * 40) + 9 + N + 11) = _
    rw [f42 _ (by omega)]
    refine (h54).trans ?_
    rw [← a52 (1) (by omega)]; rw [← a52 (1 + 271 + N + 3 + B + 10 + (gr * 40) + 5) (by omega)]; rw [← a52 (1 + 271 + N + 3 + B + 10 + (gr * 40) + 9 + N + 8) (by omega)]; rfl
  · show f5 (1 + 271 + N + 3 + B + 10 + (gr * 40) + 9 + N + 12) = _
    rw [f42 _ (by omega)]
    refine (h55).trans ?_
    rw [← a52 (1 + 271 + N + 3 + B + 10 + (gr * 40) + 5) (by omega)]; rw [← a52 (1 + 271 + N + 3 + B + 10 + (gr * 40) + 9 + N + 8) (by omega)]; rw [← a52 (1 + 271 + N + 3 + B + 10 + (gr * 40) + 9 + N + 13) (by omega)]; rw [← a52 (1 + 271 + N + 3 + B + 10 + (gr * 40) + 9 + N + 14) (by omega)]; rfl
  · show f5 (1 + 271 + N + 3 + B + 10 + (gr * 40) + 9 + N + 13) = _
    rw [f42 _ (by omega)]
    refine (h56).trans ?_
    rfl
  · show f5 (1 + 271 + N + 3 + B + 10 + (gr * 40) + 9 + N + 14) = _
    rw [f42 _ (by omega)]
    refine (h57).trans ?_
    rfl
  · show f5 (1 + 271 + N + 3 + B + 10 + (gr * 40) + 9 + N + 15) = _
    rw [f42 _ (by omega)]
    refine (h58).trans ?_
    rw [← a52 (1 + 271 + N + 3 + B + 10 + (gr * 40) + 5) (by omega)]; rw [← a52 (1 + 271 + N + 3 + B + 10 + (gr * 40) + 9 + N + 3) (by omega)]; rw [← a52 (1 + 271 + N + 3 + B + 10 + (gr * 40) + 9 + N + 8) (by omega)]; rw [← a52 (1 + 271 + N + 3 + B + 10 + (gr * 40) + 9 + N + 17) (by omega)]; rw [← a52 (1 + 271 + N + 3 + B + 10 + (gr * 40) + 9 + N + 16) (by omega)]; rfl
  · show f5 (1 + 271 + N + 3 + B + 10 + (gr * 40) + 9 + N + 16) = _
    rw [f42 _ (by omega)]
    refine (h59).trans ?_
    rfl
  · show f5 (1 + 271 + N + 3 + B + 10 + (gr * 40) + 9 + N + 17) = _
    rw [f42 _ (by omega)]
    refine (h60).trans ?_
    rfl
  · show f5 (1 + 271 + N + 3 + B + 10 + (gr * 40) + 9 + N + 18) = _
    refine (hF5 _ (by show 1 + 271 + N + 3 + B + 10 + (gr * 40) + 9 + N + 18 < 1 + 271 + N + 3 + B + 10 + (gr * 40) + 9 + N + 18 + 1 + 36; omega)).trans ?_
    refine (m0).trans ?_
    rw [← a5 (1 + 271 + N + 3 + B + 10 + (gr * 40) + 9 + N + 18 + 1) (by omega)]; rw [← a5 (1 + 271 + N + 3 + B + 10 + (gr * 40) + 9 + N + 18 + 1 + 1) (by omega)]; rw [← a5 (1 + 271 + N + 3 + B + 10 + (gr * 40) + 9 + N + 18 + 1 + 2) (by omega)]; rw [← a5 (1 + 271 + N + 3 + B + 10 + (gr * 40) + 9 + N + 18 + 1 + 3) (by omega)]; rw [← a5 (1 + 271 + N + 3 + B + 10 + (gr * 40) + 9 + N + 18 + 1 + 4) (by omega)]; rw [← a5 (1 + 271 + N + 3 + B + 10 + (gr * 40) + 9 + N + 18 + 1 + 5) (by omega)]; rw [← a5 (1 + 271 + N + 3 + B + 10 + (gr * 40) + 9 + N + 18 + 1 + 6) (by omega)]; rw [← a5 (1 + 271 + N + 3 + B + 10 + (gr * 40) + 9 + N + 18 + 1 + 7) (by omega)]; rw [← a5 (1 + 271 + N + 3 + B + 10 + (gr * 40) + 9 + N + 18 + 1 + 8) (by omega)]; rw [← a5 (1 + 271 + N + 3 + B + 10 + (gr * 40) + 9 + N + 18 + 1 + 9) (by omega)]; rw [← a5 (1 + 271 + N + 3 + B + 10 + (gr * 40) + 9 + N + 18 + 1 + 10) (by omega)]; rw [← a5 (1 + 271 + N + 3 + B + 10 + (gr * 40) + 9 + N + 18 + 1 + 11) (by omega)]; rw [← a5 (1 + 271 + N + 3 + B + 10 + (gr * 40) + 9 + N + 18 + 1 + 12) (by omega)]; rw [← a5 (1 + 271 + N + 3 + B + 10 + (gr * 40) + 9 + N + 18 + 1 + 13) (by omega)]; rw [← a5 (1 + 271 + N + 3 + B + 10 + (gr * 40) + 9 + N + 18 + 1 + 14) (by omega)]; rw [← a5 (1 + 271 + N + 3 + B + 10 + (gr * 40) + 9 + N + 18 + 1 + 15) (by omega)]; rw [← a5 (1 + 271 + N + 3 + B + 10 + (gr * 40) + 9 + N + 18 + 1 + 16) (by omega)]; rw [← a5 (1 + 271 + N + 3 + B + 10 + (gr * 40) + 9 + N + 18 + 1 + 17) (by omega)]; rw [← a5 (1 + 271 + N + 3 + B + 10 + (gr * 40) + 9 + N + 18 + 1 + 18) (by omega)]; rw [← a5 (1 + 271 + N + 3 + B + 10 + (gr * 40) + 9 + N + 18 + 1 + 19) (by omega)]; rw [← a5 (1 + 271 + N + 3 + B + 10 + (gr * 40) + 9 + N + 18 + 1 + 20) (by omega)]; rw [← a5 (1 + 271 + N + 3 + B + 10 + (gr * 40) + 9 + N + 18 + 1 + 21) (by omega)]; rw [← a5 (1 + 271 + N + 3 + B + 10 + (gr * 40) + 9 + N + 18 + 1 + 22) (by omega)]; rw [← a5 (1 + 271 + N + 3 + B + 10 + (gr * 40) + 9 + N + 18 + 1 + 23) (by omega)]; rw [← a5 (1 + 271 + N + 3 + B + 10 + (gr * 40) + 9 + N + 18 + 1 + 24) (by omega)]; rw [← a5 (1 + 271 + N + 3 + B + 10 + (gr * 40) + 9 + N + 18 + 1 + 25) (by omega)]; rw [← a5 (1 + 271 + N + 3 + B + 10 + (gr * 40) + 9 + N + 18 + 1 + 26) (by omega)]; rw [← a5 (1 + 271 + N + 3 + B + 10 + (gr * 40) + 9 + N + 18 + 1 + 27) (by omega)]; rw [← a5 (1 + 271 + N + 3 + B + 10 + (gr * 40) + 9 + N + 18 + 1 + 28) (by omega)]; rw [← a5 (1 + 271 + N + 3 + B + 10 + (gr * 40) + 9 + N + 18 + 1 + 29) (by omega)]; rw [← a5 (1 + 271 + N + 3 + B + 10 + (gr * 40) + 9 + N + 18 + 1 + 30) (by omega)]; rw [← a5 (1 + 271 + N + 3 + B + 10 + (gr * 40) + 9 + N + 18 + 1 + 31) (by omega)]; rw [← a5 (1 + 271 + N + 3 + B + 10 + (gr * 40) + 9 + N + 18 + 1 + 32) (by omega)]; rw [← a5 (1 + 271 + N + 3 + B + 10 + (gr * 40) + 9 + N + 18 + 1 + 33) (by omega)]; rw [← a5 (1 + 271 + N + 3 + B + 10 + (gr * 40) + 9 + N + 18 + 1 + 34) (by omega)]; rw [← a5 (1 + 271 + N + 3 + B + 10 + (gr * 40) + 9 + N + 18 + 1 + 35) (by omega)]; rfl
  · show f5 (1 + 271 + N + 3 + B + 10 + (gr * 40) + 9 + N + 18 + 1 + 16) = _
    refine (hF5 _ (by show 1 + 271 + N + 3 + B + 10 + (gr * 40) + 9 + N + 18 + 1 + 16 < 1 + 271 + N + 3 + B + 10 + (gr * 40) + 9 + N + 18 + 1 + 36; omega)).trans ?_
    refine (m1).trans ?_
    rfl
  · show f5 (1 + 271 + N + 3 + B + 10 + (gr * 40) + 9 + N + 18 + 1 + 17) = _
    refine (hF5 _ (by show 1 + 271 + N + 3 + B + 10 + (gr * 40) + 9 + N + 18 + 1 + 17 < 1 + 271 + N + 3 + B + 10 + (gr * 40) + 9 + N + 18 + 1 + 36; omega)).trans ?_
    refine (m2).trans ?_
    rfl
  · show f5 (1 + 271 + N + 3 + B + 10 + (gr * 40) + 9 + N + 18 + 1 + 18) = _
    refine (hF5 _ (by show 1 + 271 + N + 3 + B + 10 + (gr * 40) + 9 + N + 18 + 1 + 18 < 1 + 271 + N + 3 + B + 10 + (gr * 40) + 9 + N + 18 + 1 + 36; omega)).trans ?_
    refine (m3).trans ?_
    rfl
  · show f5 (1 + 271 + N + 3 + B + 10 + (gr * 40) + 9 + N + 18 + 1 + 19) = _
    refine (hF5 _ (by show 1 + 271 + N + 3 + B + 10 + (gr * 40) + 9 + N + 18 + 1 + 19 < 1 + 271 + N + 3 + B + 10 + (gr * 40) + 9 + N + 18 + 1 + 36; omega)).trans ?_
    refine (m4).trans ?_
    rfl
  · show f5 (1 + 271 + N + 3 + B + 10 + (gr * 40) + 9 + N + 18 + 1 + 20) = _
    refine (hF5 _ (by show 1 + 271 + N + 3 + B + 10 + (gr * 40) + 9 + N + 18 + 1 + 20 < 1 + 271 + N + 3 + B + 10 + (gr * 40) + 9 + N + 18 + 1 + 36; omega)).trans ?_
    refine (m5).trans ?_
    rfl
  · show f5 (1 + 271 + N + 3 + B + 10 + (gr * 40) + 9 + N + 18 + 1) = _
    refine (hF5 _ (by show 1 + 271 + N + 3 + B + 10 + (gr * 40) + 9 + N + 18 + 1 < 1 + 271 + N + 3 + B + 10 + (gr * 40) + 9 + N + 18 + 1 + 36; omega)).trans ?_
    refine (m6).trans ?_
    rfl
  · show f5 (1 + 271 + N + 3 + B + 10 + (gr * 40) + 9 + N + 18 + 1 + 1) = _
    refine (hF5 _ (by show 1 + 271 + N + 3 + B + 10 + (gr * 40) + 9 + N + 18 + 1 + 1 < 1 + 271 + N + 3 + B + 10 + (gr * 40) + 9 + N + 18 + 1 + 36; omega)).trans ?_
    refine (m7).trans ?_
    rfl
  · show f5 (1 + 271 + N + 3 + B + 10 + (gr * 40) + 9 + N + 18 + 1 + 2) = _
    refine (hF5 _ (by show 1 + 271 + N + 3 + B + 10 + (gr * 40) + 9 + N + 18 + 1 + 2 < 1 + 271 + N + 3 + B + 10 + (gr * 40) + 9 + N + 18 + 1 + 36; omega)).trans ?_
    refine (m8).trans ?_
    rfl
  · show f5 (1 + 271 + N + 3 + B + 10 + (gr * 40) + 9 + N + 18 + 1 + 3) = _
    refine (hF5 _ (by show 1 + 271 + N + 3 + B + 10 + (gr * 40) + 9 + N + 18 + 1 + 3 < 1 + 271 + N + 3 + B + 10 + (gr * 40) + 9 + N + 18 + 1 + 36; omega)).trans ?_
    refine (m9).trans ?_
    rfl
  · show f5 (1 + 271 + N + 3 + B + 10 + (gr * 40) + 9 + N + 18 + 1 + 4) = _
    refine (hF5 _ (by show 1 + 271 + N + 3 + B + 10 + (gr * 40) + 9 + N + 18 + 1 + 4 < 1 + 271 + N + 3 + B + 10 + (gr * 40) + 9 + N + 18 + 1 + 36; omega)).trans ?_
    refine (m10).trans ?_
    rfl
  · show f5 (1 + 271 + N + 3 + B + 10 + (gr * 40) + 9 + N + 18 + 1 + 5) = _
    refine (hF5 _ (by show 1 + 271 + N + 3 + B + 10 + (gr * 40) + 9 + N + 18 + 1 + 5 < 1 + 271 + N + 3 + B + 10 + (gr * 40) + 9 + N + 18 + 1 + 36; omega)).trans ?_
    refine (m11).trans ?_
    rfl
  · show f5 (1 + 271 + N + 3 + B + 10 + (gr * 40) + 9 + N + 18 + 1 + 6) = _
    refine (hF5 _ (by show 1 + 271 + N + 3 + B + 10 + (gr * 40) + 9 + N + 18 + 1 + 6 < 1 + 271 + N + 3 + B + 10 + (gr * 40) + 9 + N + 18 + 1 + 36; omega)).trans ?_
    refine (m12).trans ?_
    rfl
  · show f5 (1 + 271 + N + 3 + B + 10 + (gr * 40) + 9 + N + 18 + 1 + 7) = _
    refine (hF5 _ (by show 1 + 271 + N + 3 + B + 10 + (gr * 40) + 9 + N + 18 + 1 + 7 < 1 + 271 + N + 3 + B + 10 + (gr * 40) + 9 + N + 18 + 1 + 36; omega)).trans ?_
    refine (m13).trans ?_
    rfl
  · show f5 (1 + 271 + N + 3 + B + 10 + (gr * 40) + 9 + N + 18 + 1 + 8) = _
    refine (hF5 _ (by show 1 + 271 + N + 3 + B + 10 + (gr * 40) + 9 + N + 18 + 1 + 8 < 1 + 271 + N + 3 + B + 10 + (gr * 40) + 9 + N + 18 + 1 + 36; omega)).trans ?_
    refine (m14).trans ?_
    rfl
  · show f5 (1 + 271 + N + 3 + B + 10 + (gr * 40) + 9 + N + 18 + 1 + 9) = _
    refine (hF5 _ (by show 1 + 271 + N + 3 + B + 10 + (gr * 40) + 9 + N + 18 + 1 + 9 < 1 + 271 + N + 3 + B + 10 + (gr * 40) + 9 + N + 18 + 1 + 36; omega)).trans ?_
    refine (m15).trans ?_
    rfl
  · show f5 (1 + 271 + N + 3 + B + 10 + (gr * 40) + 9 + N + 18 + 1 + 10) = _
    refine (hF5 _ (by show 1 + 271 + N + 3 + B + 10 + (gr * 40) + 9 + N + 18 + 1 + 10 < 1 + 271 + N + 3 + B + 10 + (gr * 40) + 9 + N + 18 + 1 + 36; omega)).trans ?_
    refine (m16).trans ?_
    rfl
  · show f5 (1 + 271 + N + 3 + B + 10 + (gr * 40) + 9 + N + 18 + 1 + 11) = _
    refine (hF5 _ (by show 1 + 271 + N + 3 + B + 10 + (gr * 40) + 9 + N + 18 + 1 + 11 < 1 + 271 + N + 3 + B + 10 + (gr * 40) + 9 + N + 18 + 1 + 36; omega)).trans ?_
    refine (m17).trans ?_
    rfl
  · show f5 (1 + 271 + N + 3 + B + 10 + (gr * 40) + 9 + N + 18 + 1 + 12) = _
    refine (hF5 _ (by show 1 + 271 + N + 3 + B + 10 + (gr * 40) + 9 + N + 18 + 1 + 12 < 1 + 271 + N + 3 + B + 10 + (gr * 40) + 9 + N + 18 + 1 + 36; omega)).trans ?_
    refine (m18).trans ?_
    rfl
  · show f5 (1 + 271 + N + 3 + B + 10 + (gr * 40) + 9 + N + 18 + 1 + 13) = _
    refine (hF5 _ (by show 1 + 271 + N + 3 + B + 10 + (gr * 40) + 9 + N + 18 + 1 + 13 < 1 + 271 + N + 3 + B + 10 + (gr * 40) + 9 + N + 18 + 1 + 36; omega)).trans ?_
    refine (m19).trans ?_
    rfl
  · show f5 (1 + 271 + N + 3 + B + 10 + (gr * 40) + 9 + N + 18 + 1 + 14) = _
    refine (hF5 _ (by show 1 + 271 + N + 3 + B + 10 + (gr * 40) + 9 + N + 18 + 1 + 14 < 1 + 271 + N + 3 + B + 10 + (gr * 40) + 9 + N + 18 + 1 + 36; omega)).trans ?_
    refine (m20).trans ?_
    rfl
  · show f5 (1 + 271 + N + 3 + B + 10 + (gr * 40) + 9 + N + 18 + 1 + 15) = _
    refine (hF5 _ (by show 1 + 271 + N + 3 + B + 10 + (gr * 40) + 9 + N + 18 + 1 + 15 < 1 + 271 + N + 3 + B + 10 + (gr * 40) + 9 + N + 18 + 1 + 36; omega)).trans ?_
    refine (m21).trans ?_
    rfl
  · show f5 (1 + 271 + N + 3 + B + 10 + (gr * 40) + 9 + N + 18 + 1 + 21) = _
    refine (hF5 _ (by show 1 + 271 + N + 3 + B + 10 + (gr * 40) + 9 + N + 18 + 1 + 21 < 1 + 271 + N + 3 + B + 10 + (gr * 40) + 9 + N + 18 + 1 + 36; omega)).trans ?_
    refine (m22).trans ?_
    rfl
  · show f5 (1 + 271 + N + 3 + B + 10 + (gr * 40) + 9 + N + 18 + 1 + 22) = _
    refine (hF5 _ (by show 1 + 271 + N + 3 + B + 10 + (gr * 40) + 9 + N + 18 + 1 + 22 < 1 + 271 + N + 3 + B + 10 + (gr * 40) + 9 + N + 18 + 1 + 36; omega)).trans ?_
    refine (m23).trans ?_
    rfl
  · show f5 (1 + 271 + N + 3 + B + 10 + (gr * 40) + 9 + N + 18 + 1 + 23) = _
    refine (hF5 _ (by show 1 + 271 + N + 3 + B + 10 + (gr * 40) + 9 + N + 18 + 1 + 23 < 1 + 271 + N + 3 + B + 10 + (gr * 40) + 9 + N + 18 + 1 + 36; omega)).trans ?_
    refine (m24).trans ?_
    rfl
  · show f5 (1 + 271 + N + 3 + B + 10 + (gr * 40) + 9 + N + 18 + 1 + 24) = _
    refine (hF5 _ (by show 1 + 271 + N + 3 + B + 10 + (gr * 40) + 9 + N + 18 + 1 + 24 < 1 + 271 + N + 3 + B + 10 + (gr * 40) + 9 + N + 18 + 1 + 36; omega)).trans ?_
    refine (m25).trans ?_
    rfl
  · show f5 (1 + 271 + N + 3 + B + 10 + (gr * 40) + 9 + N + 18 + 1 + 25) = _
    refine (hF5 _ (by show 1 + 271 + N + 3 + B + 10 + (gr * 40) + 9 + N + 18 + 1 + 25 < 1 + 271 + N + 3 + B + 10 + (gr * 40) + 9 + N + 18 + 1 + 36; omega)).trans ?_
    refine (m26).trans ?_
    rfl
  · show f5 (1 + 271 + N + 3 + B + 10 + (gr * 40) + 9 + N + 18 + 1 + 26) = _
    refine (hF5 _ (by show 1 + 271 + N + 3 + B + 10 + (gr * 40) + 9 + N + 18 + 1 + 26 < 1 + 271 + N + 3 + B + 10 + (gr * 40) + 9 + N + 18 + 1 + 36; omega)).trans ?_
    refine (m27).trans ?_
    rfl
  · show f5 (1 + 271 + N + 3 + B + 10 + (gr * 40) + 9 + N + 18 + 1 + 27) = _
    refine (hF5 _ (by show 1 + 271 + N + 3 + B + 10 + (gr * 40) + 9 + N + 18 + 1 + 27 < 1 + 271 + N + 3 + B + 10 + (gr * 40) + 9 + N + 18 + 1 + 36; omega)).trans ?_
    refine (m28).trans ?_
    rfl
  · show f5 (1 + 271 + N + 3 + B + 10 + (gr * 40) + 9 + N + 18 + 1 + 28) = _
    refine (hF5 _ (by show 1 + 271 + N + 3 + B + 10 + (gr * 40) + 9 + N + 18 + 1 + 28 < 1 + 271 + N + 3 + B + 10 + (gr * 40) + 9 + N + 18 + 1 + 36; omega)).trans ?_
    refine (m29).trans ?_
    rfl
  · show f5 (1 + 271 + N + 3 + B + 10 + (gr * 40) + 9 + N + 18 + 1 + 29) = _
    refine (hF5 _ (by show 1 + 271 + N + 3 + B + 10 + (gr * 40) + 9 + N + 18 + 1 + 29 < 1 + 271 + N + 3 + B + 10 + (gr * 40) + 9 + N + 18 + 1 + 36; omega)).trans ?_
    refine (m30).trans ?_
    rfl
  · show f5 (1 + 271 + N + 3 + B + 10 + (gr * 40) + 9 + N + 18 + 1 + 30) = _
    refine (hF5 _ (by show 1 + 271 + N + 3 + B + 10 + (gr * 40) + 9 + N + 18 + 1 + 30 < 1 + 271 + N + 3 + B + 10 + (gr * 40) + 9 + N + 18 + 1 + 36; omega)).trans ?_
    refine (m31).trans ?_
    rfl
  · show f5 (1 + 271 + N + 3 + B + 10 + (gr * 40) + 9 + N + 18 + 1 + 31) = _
    refine (hF5 _ (by show 1 + 271 + N + 3 + B + 10 + (gr * 40) + 9 + N + 18 + 1 + 31 < 1 + 271 + N + 3 + B + 10 + (gr * 40) + 9 + N + 18 + 1 + 36; omega)).trans ?_
    refine (m32).trans ?_
    rfl
  · show f5 (1 + 271 + N + 3 + B + 10 + (gr * 40) + 9 + N + 18 + 1 + 32) = _
    refine (hF5 _ (by show 1 + 271 + N + 3 + B + 10 + (gr * 40) + 9 + N + 18 + 1 + 32 < 1 + 271 + N + 3 + B + 10 + (gr * 40) + 9 + N + 18 + 1 + 36; omega)).trans ?_
    refine (m33).trans ?_
    rfl
  · show f5 (1 + 271 + N + 3 + B + 10 + (gr * 40) + 9 + N + 18 + 1 + 33) = _
    refine (hF5 _ (by show 1 + 271 + N + 3 + B + 10 + (gr * 40) + 9 + N + 18 + 1 + 33 < 1 + 271 + N + 3 + B + 10 + (gr * 40) + 9 + N + 18 + 1 + 36; omega)).trans ?_
    refine (m34).trans ?_
    rfl
  · show f5 (1 + 271 + N + 3 + B + 10 + (gr * 40) + 9 + N + 18 + 1 + 34) = _
    refine (hF5 _ (by show 1 + 271 + N + 3 + B + 10 + (gr * 40) + 9 + N + 18 + 1 + 34 < 1 + 271 + N + 3 + B + 10 + (gr * 40) + 9 + N + 18 + 1 + 36; omega)).trans ?_
    refine (m35).trans ?_
    rfl
  · show f5 (1 + 271 + N + 3 + B + 10 + (gr * 40) + 9 + N + 18 + 1 + 35) = _
    refine (hF5 _ (by show 1 + 271 + N + 3 + B + 10 + (gr * 40) + 9 + N + 18 + 1 + 35 < 1 + 271 + N + 3 + B + 10 + (gr * 40) + 9 + N + 18 + 1 + 36; omega)).trans ?_
    refine (m36).trans ?_
    rfl
  · show f5 (1 + 271 + N + 3 + B + 10 + (gr * 40) + 9 + N + 18 + 37) = _
    exact hX5
end GLT
