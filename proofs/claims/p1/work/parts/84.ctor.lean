def tb_X8_init : List (Nat × Instr × Nat) := [(0, .aload_n 0, 1), (1, .invokespecial 1, 3), (4, .aload_n 0, 1), (5, .bipush 16, 2), (7, .newarray .int, 2), (9, .putfield 9, 3), (12, .aload_n 0, 1), (13, .bipush 16, 2), (15, .newarray .int, 2), (17, .putfield 13, 3), (20, .return_, 1)]
theorem tv_X8_init : Tv cX8_init tb_X8_init := by
  unfold Tv
  decide +kernel
theorem w_191 : Cond.methodLink "LedgerFiles$Path" 1 ⟨"java/lang/Object", "<init>", "()V"⟩ ∈ TB := tp_1 45 (by decide +kernel) rfl
theorem w_184 : Cond.instanceMethod ⟨"java/lang/Object", "<init>", "()V"⟩ ∈ TB := tp_1 38 (by decide +kernel) rfl
theorem w_185 : Cond.code ⟨"java/lang/Object", "<init>", "()V"⟩ object_method_1_code 1 none ∈ TB := tp_1 39 rfl rfl
theorem w_207 : Cond.arrayClass .int ∈ TB := tp_1 61 (by decide +kernel) rfl
theorem w_192 : Cond.fieldLink "LedgerFiles$Path" 9 "LedgerFiles$Path" "starts" "[I" ∈ TB := tp_1 46 (by decide +kernel) rfl
theorem w_194 : Cond.fieldLink "LedgerFiles$Path" 13 "LedgerFiles$Path" "lengths" "[I" ∈ TB := tp_1 48 (by decide +kernel) rfl
set_option maxRecDepth 100000 in
set_option maxHeartbeats 4000000 in
theorem k_X8_init (E : gE) (f : Nat → va_E) (k0 : Nat) (hk0 : k0 < gN E) (h0 : f k0 = .inr (8, [.null, .null, .int (0)]))  : Cm E 2 (2) (32) yX8_init cX8_init 1 [.ref (gAd E (k0))] f (fun n' ad' g => n' = gN E + 2 ∧ (∀ k, k < gN E → k ≠ k0 → g k = f k) ∧ g (k0) = .inr (8, [.ref (ad' (gN E)), .ref (ad' (gN E + 1)), .int (0)]) ∧ g (gN E) = oI (gDA E) (16) (fun _ => 0) ∧ g (gN E + 1) = oI (gDA E) (16) (fun _ => 0)) := by
  refine Cm.of (by decide) (Nat.le_of_ble_eq_true rfl) (fun sz => ?_)
  refine G.eql [(0, .ref (gAd E (k0)))] rfl ?_
  refine G.go tv_X8_init 1 1 [(0, .ref (gAd E (k0)))] [.ref (gAd E (k0))] rfl ?_
  refine G.objInit w_191 w_184 w_185 (Nat.le_of_ble_eq_true rfl) (Nat.le_of_ble_eq_true rfl) (tbd tv_X8_init rfl) ?_
  refine G.go tv_X8_init 2 7 [(0, .ref (gAd E (k0)))] [.int ((16 : Int32)), .ref (gAd E (k0))] rfl ?_
  refine G.mkI (n0 := gN E) (ad0 := gAd E) (N' := 16) (gN E + 1) (by omega) w_207 (by decide) rfl (by omega) (by (try dsimp only [gRm]); omega) (by (try dsimp only [gRm]); omega) (tbd tv_X8_init rfl) (fun ad1 f1 hA1 hF1 hX1 => ?_)
  have hX1 : f1 (gN E) = oI (gDA E) (16) (fun _ => 0) := hX1
  have hA1 : ∀ k, k < gN E → ad1 k = gAd E k := hA1
  have hF1 := fun k (hk : k < gN E) => hF1 k hk
  have e1_k0_0 : aeq (ad1 (k0)) (gAd E (k0)) := (hA1 _ (by omega)).trans rfl
  have hG1 : ∀ k, k < gN E → k ≠ k0 → f1 k = f k := fun k hk x0 => (hF1 k hk).trans (rfl)
  have c1_k0 : f1 (k0) = .inr (8, [.null, .null, .int (0)]) := (hF1 _ (by omega)).trans (h0)
  refine G.eqs [.ref (ad1 (gN E)), .ref (ad1 (k0))] (by rw [e1_k0_0.eq]) ?_
  refine G.putFS cls_X8 (k0) 0 [.ref (ad1 (gN E)), .null, .int (0)] (show k0 < gN E + 1 by omega) (c1_k0) rfl (by decide) rfl rfl rfl rfl rfl (Nat.le_of_ble_eq_true rfl) (tbd tv_X8_init rfl) w_192 ?_
  refine G.go tv_X8_init 2 15 [(0, .ref (gAd E (k0)))] [.int ((16 : Int32)), .ref (gAd E (k0))] rfl ?_
  refine G.mkI (n0 := gN E + 1) (ad0 := ad1) (N' := 16) (gN E + 2) (by omega) w_207 (by decide) rfl (by omega) (by (try dsimp only [gRm]); omega) (by (try dsimp only [gRm]); omega) (tbd tv_X8_init rfl) (fun ad2 f2 hA2 hF2 hX2 => ?_)
  have hX2 : f2 (gN E + 1) = oI (gDA E) (16) (fun _ => 0) := hX2
  have hA2 : ∀ k, k < gN E + 1 → ad2 k = ad1 k := hA2
  have hF2 := fun k (hk : k < gN E + 1) => hF2 k hk
  have e2_k0_0 : aeq (ad2 (k0)) (gAd E (k0)) := (hA2 _ (by omega)).trans e1_k0_0.eq
  have hG2 : ∀ k, k < gN E + 1 → k ≠ k0 → f2 k = f1 k := fun k hk x0 => (hF2 k hk).trans (up_n x0 (rfl))
  have c2_k0 : f2 (k0) = .inr (8, [.ref (ad1 (gN E)), .null, .int (0)]) := (hF2 _ (by omega)).trans (up_e)
  refine G.eqs [.ref (ad2 (gN E + 1)), .ref (ad2 (k0))] (by rw [e2_k0_0.eq]) ?_
  refine G.putFS cls_X8 (k0) 1 [.ref (ad1 (gN E)), .ref (ad2 (gN E + 1)), .int (0)] (show k0 < gN E + 2 by omega) (c2_k0) rfl (by decide) rfl rfl rfl rfl rfl (Nat.le_of_ble_eq_true rfl) (tbd tv_X8_init rfl) w_194 ?_
  have RA2 : ∀ k, k < gN E + 2 → ad2 k = ad2 k := fun _ _ => rfl
  have RF2 : ∀ k, k < gN E + 2 → k ≠ k0 → (va_up (f2) (k0) (.inr (8, [.ref (ad1 (gN E)), .ref (ad2 (gN E + 1)), .int (0)]))) k = f2 k := fun k hk x0 => up_n x0 (rfl)
  have RA1 : ∀ k, k < gN E + 1 → ad2 k = ad1 k := fun k hk => (RA2 k (by omega)).trans (hA2 k hk)
  have RF1 : ∀ k, k < gN E + 1 → k ≠ k0 → (va_up (f2) (k0) (.inr (8, [.ref (ad1 (gN E)), .ref (ad2 (gN E + 1)), .int (0)]))) k = f1 k := fun k hk x0 => (RF2 k (by omega) x0).trans (hG2 k hk x0)
  have RA0 : ∀ k, k < gN E → ad2 k = gAd E k := fun k hk => (RA1 k (by omega)).trans (hA1 k hk)
  have RF0 : ∀ k, k < gN E → k ≠ k0 → (va_up (f2) (k0) (.inr (8, [.ref (ad1 (gN E)), .ref (ad2 (gN E + 1)), .int (0)]))) k = f k := fun k hk x0 => (RF1 k (by omega) x0).trans (hG1 k hk x0)
  exact G.vretG (n' := gN E + 2) (by omega) (fun k hk => RA0 k hk) ⟨rfl, (fun k hk x0 => RF0 k (by omega) x0 ), (by rw [RA1 (gN E) (by omega)]; exact up_e), ((RF1 (gN E) (by omega) (by omega)).trans hX1), ((RF2 (gN E + 1) (by omega) (by omega)).trans hX2)⟩ (by (try dsimp only [gRm]); omega) (by (try dsimp only [gRm]); omega) (tbd tv_X8_init rfl)
def tb_X5_init : List (Nat × Instr × Nat) := [(0, .aload_n 0, 1), (1, .invokespecial 3, 3), (4, .aload_n 0, 1), (5, .bipush 65, 2), (7, .newarray .int, 2), (9, .putfield 9, 3), (12, .aload_n 0, 1), (13, .bipush 32, 2), (15, .newarray .int, 2), (17, .putfield 15, 3), (20, .aload_n 0, 1), (21, .bipush 32, 2), (23, .newarray .int, 2), (25, .putfield 18, 3), (28, .aload_n 0, 1), (29, .bipush 32, 2), (31, .newarray .int, 2), (33, .putfield 21, 3), (36, .return_, 1)]
theorem tv_X5_init : Tv cX5_init tb_X5_init := by
  unfold Tv
  decide +kernel
theorem w_454 : Cond.methodLink "LedgerFiles$Holders" 3 ⟨"java/lang/Object", "<init>", "()V"⟩ ∈ TB := tp_2 68 (by decide +kernel) rfl
theorem w_455 : Cond.fieldLink "LedgerFiles$Holders" 9 "LedgerFiles$Holders" "holds" "[I" ∈ TB := tp_2 69 (by decide +kernel) rfl
theorem w_457 : Cond.fieldLink "LedgerFiles$Holders" 15 "LedgerFiles$Holders" "inodes" "[I" ∈ TB := tp_2 71 (by decide +kernel) rfl
theorem w_459 : Cond.fieldLink "LedgerFiles$Holders" 18 "LedgerFiles$Holders" "places" "[I" ∈ TB := tp_2 73 (by decide +kernel) rfl
theorem w_461 : Cond.fieldLink "LedgerFiles$Holders" 21 "LedgerFiles$Holders" "ways" "[I" ∈ TB := tp_2 75 (by decide +kernel) rfl
set_option maxRecDepth 100000 in
set_option maxHeartbeats 4000000 in
theorem k_X5_init (E : gE) (f : Nat → va_E) (k0 : Nat) (hk0 : k0 < gN E) (h0 : f k0 = .inr (5, [.null, .null, .null, .null]))  : Cm E 2 (4) (65 + 96) yX5_init cX5_init 1 [.ref (gAd E (k0))] f (fun n' ad' g => n' = gN E + 4 ∧ (∀ k, k < gN E → k ≠ k0 → g k = f k) ∧ g (k0) = .inr (5, [.ref (ad' (gN E)), .ref (ad' (gN E + 1)), .ref (ad' (gN E + 2)), .ref (ad' (gN E + 3))]) ∧ g (gN E) = oI (gDA E) (65) (fun _ => 0) ∧ g (gN E + 1) = oI (gDA E) (32) (fun _ => 0) ∧ g (gN E + 2) = oI (gDA E) (32) (fun _ => 0) ∧ g (gN E + 3) = oI (gDA E) (32) (fun _ => 0)) := by
  refine Cm.of (by decide) (Nat.le_of_ble_eq_true rfl) (fun sz => ?_)
  refine G.eql [(0, .ref (gAd E (k0)))] rfl ?_
  refine G.go tv_X5_init 1 1 [(0, .ref (gAd E (k0)))] [.ref (gAd E (k0))] rfl ?_
  refine G.objInit w_454 w_184 w_185 (Nat.le_of_ble_eq_true rfl) (Nat.le_of_ble_eq_true rfl) (tbd tv_X5_init rfl) ?_
  refine G.go tv_X5_init 2 7 [(0, .ref (gAd E (k0)))] [.int ((65 : Int32)), .ref (gAd E (k0))] rfl ?_
  refine G.mkI (n0 := gN E) (ad0 := gAd E) (N' := 65) (gN E + 1) (by omega) w_207 (by decide) rfl (by omega) (by (try dsimp only [gRm]); omega) (by (try dsimp only [gRm]); omega) (tbd tv_X5_init rfl) (fun ad1 f1 hA1 hF1 hX1 => ?_)
  have hX1 : f1 (gN E) = oI (gDA E) (65) (fun _ => 0) := hX1
  have hA1 : ∀ k, k < gN E → ad1 k = gAd E k := hA1
  have hF1 := fun k (hk : k < gN E) => hF1 k hk
  have e1_k0_0 : aeq (ad1 (k0)) (gAd E (k0)) := (hA1 _ (by omega)).trans rfl
  have hG1 : ∀ k, k < gN E → k ≠ k0 → f1 k = f k := fun k hk x0 => (hF1 k hk).trans (rfl)
  have c1_k0 : f1 (k0) = .inr (5, [.null, .null, .null, .null]) := (hF1 _ (by omega)).trans (h0)
  refine G.eqs [.ref (ad1 (gN E)), .ref (ad1 (k0))] (by rw [e1_k0_0.eq]) ?_
  refine G.putFS cls_X5 (k0) 0 [.ref (ad1 (gN E)), .null, .null, .null] (show k0 < gN E + 1 by omega) (c1_k0) rfl (by decide) rfl rfl rfl rfl rfl (Nat.le_of_ble_eq_true rfl) (tbd tv_X5_init rfl) w_455 ?_
  refine G.go tv_X5_init 2 15 [(0, .ref (gAd E (k0)))] [.int ((32 : Int32)), .ref (gAd E (k0))] rfl ?_
  refine G.mkI (n0 := gN E + 1) (ad0 := ad1) (N' := 32) (gN E + 2) (by omega) w_207 (by decide) rfl (by omega) (by (try dsimp only [gRm]); omega) (by (try dsimp only [gRm]); omega) (tbd tv_X5_init rfl) (fun ad2 f2 hA2 hF2 hX2 => ?_)
  have hX2 : f2 (gN E + 1) = oI (gDA E) (32) (fun _ => 0) := hX2
  have hA2 : ∀ k, k < gN E + 1 → ad2 k = ad1 k := hA2
  have hF2 := fun k (hk : k < gN E + 1) => hF2 k hk
  have e2_k0_0 : aeq (ad2 (k0)) (gAd E (k0)) := (hA2 _ (by omega)).trans e1_k0_0.eq
  have hG2 : ∀ k, k < gN E + 1 → k ≠ k0 → f2 k = f1 k := fun k hk x0 => (hF2 k hk).trans (up_n x0 (rfl))
  have c2_k0 : f2 (k0) = .inr (5, [.ref (ad1 (gN E)), .null, .null, .null]) := (hF2 _ (by omega)).trans (up_e)
  refine G.eqs [.ref (ad2 (gN E + 1)), .ref (ad2 (k0))] (by rw [e2_k0_0.eq]) ?_
  refine G.putFS cls_X5 (k0) 1 [.ref (ad1 (gN E)), .ref (ad2 (gN E + 1)), .null, .null] (show k0 < gN E + 2 by omega) (c2_k0) rfl (by decide) rfl rfl rfl rfl rfl (Nat.le_of_ble_eq_true rfl) (tbd tv_X5_init rfl) w_457 ?_
  refine G.go tv_X5_init 2 23 [(0, .ref (gAd E (k0)))] [.int ((32 : Int32)), .ref (gAd E (k0))] rfl ?_
  refine G.mkI (n0 := gN E + 2) (ad0 := ad2) (N' := 32) (gN E + 3) (by omega) w_207 (by decide) rfl (by omega) (by (try dsimp only [gRm]); omega) (by (try dsimp only [gRm]); omega) (tbd tv_X5_init rfl) (fun ad3 f3 hA3 hF3 hX3 => ?_)
  have hX3 : f3 (gN E + 2) = oI (gDA E) (32) (fun _ => 0) := hX3
  have hA3 : ∀ k, k < gN E + 2 → ad3 k = ad2 k := hA3
  have hF3 := fun k (hk : k < gN E + 2) => hF3 k hk
  have e3_k0_0 : aeq (ad3 (k0)) (gAd E (k0)) := (hA3 _ (by omega)).trans e2_k0_0.eq
  have hG3 : ∀ k, k < gN E + 2 → k ≠ k0 → f3 k = f2 k := fun k hk x0 => (hF3 k hk).trans (up_n x0 (rfl))
  have c3_k0 : f3 (k0) = .inr (5, [.ref (ad1 (gN E)), .ref (ad2 (gN E + 1)), .null, .null]) := (hF3 _ (by omega)).trans (up_e)
  refine G.eqs [.ref (ad3 (gN E + 2)), .ref (ad3 (k0))] (by rw [e3_k0_0.eq]) ?_
  refine G.putFS cls_X5 (k0) 2 [.ref (ad1 (gN E)), .ref (ad2 (gN E + 1)), .ref (ad3 (gN E + 2)), .null] (show k0 < gN E + 3 by omega) (c3_k0) rfl (by decide) rfl rfl rfl rfl rfl (Nat.le_of_ble_eq_true rfl) (tbd tv_X5_init rfl) w_459 ?_
  refine G.go tv_X5_init 2 31 [(0, .ref (gAd E (k0)))] [.int ((32 : Int32)), .ref (gAd E (k0))] rfl ?_
  refine G.mkI (n0 := gN E + 3) (ad0 := ad3) (N' := 32) (gN E + 4) (by omega) w_207 (by decide) rfl (by omega) (by (try dsimp only [gRm]); omega) (by (try dsimp only [gRm]); omega) (tbd tv_X5_init rfl) (fun ad4 f4 hA4 hF4 hX4 => ?_)
  have hX4 : f4 (gN E + 3) = oI (gDA E) (32) (fun _ => 0) := hX4
  have hA4 : ∀ k, k < gN E + 3 → ad4 k = ad3 k := hA4
  have hF4 := fun k (hk : k < gN E + 3) => hF4 k hk
  have e4_k0_0 : aeq (ad4 (k0)) (gAd E (k0)) := (hA4 _ (by omega)).trans e3_k0_0.eq
  have hG4 : ∀ k, k < gN E + 3 → k ≠ k0 → f4 k = f3 k := fun k hk x0 => (hF4 k hk).trans (up_n x0 (rfl))
  have c4_k0 : f4 (k0) = .inr (5, [.ref (ad1 (gN E)), .ref (ad2 (gN E + 1)), .ref (ad3 (gN E + 2)), .null]) := (hF4 _ (by omega)).trans (up_e)
  refine G.eqs [.ref (ad4 (gN E + 3)), .ref (ad4 (k0))] (by rw [e4_k0_0.eq]) ?_
  refine G.putFS cls_X5 (k0) 3 [.ref (ad1 (gN E)), .ref (ad2 (gN E + 1)), .ref (ad3 (gN E + 2)), .ref (ad4 (gN E + 3))] (show k0 < gN E + 4 by omega) (c4_k0) rfl (by decide) rfl rfl rfl rfl rfl (Nat.le_of_ble_eq_true rfl) (tbd tv_X5_init rfl) w_461 ?_
  have RA4 : ∀ k, k < gN E + 4 → ad4 k = ad4 k := fun _ _ => rfl
  have RF4 : ∀ k, k < gN E + 4 → k ≠ k0 → (va_up (f4) (k0) (.inr (5, [.ref (ad1 (gN E)), .ref (ad2 (gN E + 1)), .ref (ad3 (gN E + 2)), .ref (ad4 (gN E + 3))]))) k = f4 k := fun k hk x0 => up_n x0 (rfl)
  have RA3 : ∀ k, k < gN E + 3 → ad4 k = ad3 k := fun k hk => (RA4 k (by omega)).trans (hA4 k hk)
  have RF3 : ∀ k, k < gN E + 3 → k ≠ k0 → (va_up (f4) (k0) (.inr (5, [.ref (ad1 (gN E)), .ref (ad2 (gN E + 1)), .ref (ad3 (gN E + 2)), .ref (ad4 (gN E + 3))]))) k = f3 k := fun k hk x0 => (RF4 k (by omega) x0).trans (hG4 k hk x0)
  have RA2 : ∀ k, k < gN E + 2 → ad4 k = ad2 k := fun k hk => (RA3 k (by omega)).trans (hA3 k hk)
  have RF2 : ∀ k, k < gN E + 2 → k ≠ k0 → (va_up (f4) (k0) (.inr (5, [.ref (ad1 (gN E)), .ref (ad2 (gN E + 1)), .ref (ad3 (gN E + 2)), .ref (ad4 (gN E + 3))]))) k = f2 k := fun k hk x0 => (RF3 k (by omega) x0).trans (hG3 k hk x0)
  have RA1 : ∀ k, k < gN E + 1 → ad4 k = ad1 k := fun k hk => (RA2 k (by omega)).trans (hA2 k hk)
  have RF1 : ∀ k, k < gN E + 1 → k ≠ k0 → (va_up (f4) (k0) (.inr (5, [.ref (ad1 (gN E)), .ref (ad2 (gN E + 1)), .ref (ad3 (gN E + 2)), .ref (ad4 (gN E + 3))]))) k = f1 k := fun k hk x0 => (RF2 k (by omega) x0).trans (hG2 k hk x0)
  have RA0 : ∀ k, k < gN E → ad4 k = gAd E k := fun k hk => (RA1 k (by omega)).trans (hA1 k hk)
  have RF0 : ∀ k, k < gN E → k ≠ k0 → (va_up (f4) (k0) (.inr (5, [.ref (ad1 (gN E)), .ref (ad2 (gN E + 1)), .ref (ad3 (gN E + 2)), .ref (ad4 (gN E + 3))]))) k = f k := fun k hk x0 => (RF1 k (by omega) x0).trans (hG1 k hk x0)
  exact G.vretG (n' := gN E + 4) (by omega) (fun k hk => RA0 k hk) ⟨rfl, (fun k hk x0 => RF0 k (by omega) x0 ), (by rw [RA1 (gN E) (by omega), RA2 (gN E + 1) (by omega), RA3 (gN E + 2) (by omega)]; exact up_e), ((RF1 (gN E) (by omega) (by omega)).trans hX1), ((RF2 (gN E + 1) (by omega) (by omega)).trans hX2), ((RF3 (gN E + 2) (by omega) (by omega)).trans hX3), ((RF4 (gN E + 3) (by omega) (by omega)).trans hX4)⟩ (by (try dsimp only [gRm]); omega) (by (try dsimp only [gRm]); omega) (tbd tv_X5_init rfl)
def tb_X7_init : List (Nat × Instr × Nat) := [(0, .aload_n 0, 1), (1, .invokespecial 3, 3), (4, .aload_n 0, 1), (5, .sipush 4168, 3), (8, .newarray .int, 2), (10, .putfield 9, 3), (13, .aload_n 0, 1), (14, .sipush 4168, 3), (17, .newarray .int, 2), (19, .putfield 15, 3), (22, .aload_n 0, 1), (23, .aload_n 1, 1), (24, .putfield 18, 3), (27, .aload_n 0, 1), (28, .aload_n 2, 1), (29, .putfield 22, 3), (32, .aload_n 0, 1), (33, .aload_n 3, 1), (34, .putfield 26, 3), (37, .return_, 1)]
theorem tv_X7_init : Tv cX7_init tb_X7_init := by
  unfold Tv
  decide +kernel
theorem w_477 : Cond.methodLink "LedgerFiles$Nodes" 3 ⟨"java/lang/Object", "<init>", "()V"⟩ ∈ TB := tp_2 91 (by decide +kernel) rfl
theorem w_481 : Cond.fieldLink "LedgerFiles$Nodes" 9 "LedgerFiles$Nodes" "places" "[I" ∈ TB := tp_2 95 (by decide +kernel) rfl
theorem w_483 : Cond.fieldLink "LedgerFiles$Nodes" 15 "LedgerFiles$Nodes" "blocks" "[I" ∈ TB := tp_2 97 (by decide +kernel) rfl
theorem w_478 : Cond.fieldLink "LedgerFiles$Nodes" 18 "LedgerFiles$Nodes" "view" "LLedgerFiles$View;" ∈ TB := tp_2 92 (by decide +kernel) rfl
theorem w_479 : Cond.fieldLink "LedgerFiles$Nodes" 22 "LedgerFiles$Nodes" "queue" "LLedgerFiles$Queue;" ∈ TB := tp_2 93 (by decide +kernel) rfl
theorem w_480 : Cond.fieldLink "LedgerFiles$Nodes" 26 "LedgerFiles$Nodes" "holders" "LLedgerFiles$Holders;" ∈ TB := tp_2 94 (by decide +kernel) rfl
set_option maxRecDepth 100000 in
set_option maxHeartbeats 4000000 in
theorem k_X7_init (E : gE) (f : Nat → va_E) (k0 : Nat) (hk0 : k0 < gN E) (h0 : f k0 = .inr (7, [.null, .null, .null, .null, .null, .int (0)])) (k1 : Nat) (hk1 : k1 < gN E) (k2 : Nat) (hk2 : k2 < gN E) (k3 : Nat) (hk3 : k3 < gN E) : Cm E 2 (2) (2 * 4168) yX7_init cX7_init 4 [.ref (gAd E (k0)), .ref (gAd E (k1)), .ref (gAd E (k2)), .ref (gAd E (k3))] f (fun n' ad' g => n' = gN E + 2 ∧ (∀ k, k < gN E → k ≠ k0 → g k = f k) ∧ g (k0) = .inr (7, [.ref (ad' (k1)), .ref (ad' (k2)), .ref (ad' (k3)), .ref (ad' (gN E)), .ref (ad' (gN E + 1)), .int (0)]) ∧ g (gN E) = oI (gDA E) (4168) (fun _ => 0) ∧ g (gN E + 1) = oI (gDA E) (4168) (fun _ => 0)) := by
  refine Cm.of (by decide) (Nat.le_of_ble_eq_true rfl) (fun sz => ?_)
  refine G.eql [(0, .ref (gAd E (k0))), (1, .ref (gAd E (k1))), (2, .ref (gAd E (k2))), (3, .ref (gAd E (k3)))] rfl ?_
  refine G.go tv_X7_init 1 1 [(0, .ref (gAd E (k0))), (1, .ref (gAd E (k1))), (2, .ref (gAd E (k2))), (3, .ref (gAd E (k3)))] [.ref (gAd E (k0))] rfl ?_
  refine G.objInit w_477 w_184 w_185 (Nat.le_of_ble_eq_true rfl) (Nat.le_of_ble_eq_true rfl) (tbd tv_X7_init rfl) ?_
  refine G.go tv_X7_init 2 8 [(0, .ref (gAd E (k0))), (1, .ref (gAd E (k1))), (2, .ref (gAd E (k2))), (3, .ref (gAd E (k3)))] [.int ((4168 : Int32)), .ref (gAd E (k0))] rfl ?_
  refine G.mkI (n0 := gN E) (ad0 := gAd E) (N' := 4168) (gN E + 1) (by omega) w_207 (by decide) rfl (by omega) (by (try dsimp only [gRm]); omega) (by (try dsimp only [gRm]); omega) (tbd tv_X7_init rfl) (fun ad1 f1 hA1 hF1 hX1 => ?_)
  have hX1 : f1 (gN E) = oI (gDA E) (4168) (fun _ => 0) := hX1
  have hA1 : ∀ k, k < gN E → ad1 k = gAd E k := hA1
  have hF1 := fun k (hk : k < gN E) => hF1 k hk
  have e1_k0_0 : aeq (ad1 (k0)) (gAd E (k0)) := (hA1 _ (by omega)).trans rfl
  have hG1 : ∀ k, k < gN E → k ≠ k0 → f1 k = f k := fun k hk x0 => (hF1 k hk).trans (rfl)
  have c1_k0 : f1 (k0) = .inr (7, [.null, .null, .null, .null, .null, .int (0)]) := (hF1 _ (by omega)).trans (h0)
  refine G.eqs [.ref (ad1 (gN E)), .ref (ad1 (k0))] (by rw [e1_k0_0.eq]) ?_
  refine G.putFS cls_X7 (k0) 3 [.null, .null, .null, .ref (ad1 (gN E)), .null, .int (0)] (show k0 < gN E + 1 by omega) (c1_k0) rfl (by decide) rfl rfl rfl rfl rfl (Nat.le_of_ble_eq_true rfl) (tbd tv_X7_init rfl) w_481 ?_
  refine G.go tv_X7_init 2 17 [(0, .ref (gAd E (k0))), (1, .ref (gAd E (k1))), (2, .ref (gAd E (k2))), (3, .ref (gAd E (k3)))] [.int ((4168 : Int32)), .ref (gAd E (k0))] rfl ?_
  refine G.mkI (n0 := gN E + 1) (ad0 := ad1) (N' := 4168) (gN E + 2) (by omega) w_207 (by decide) rfl (by omega) (by (try dsimp only [gRm]); omega) (by (try dsimp only [gRm]); omega) (tbd tv_X7_init rfl) (fun ad2 f2 hA2 hF2 hX2 => ?_)
  have hX2 : f2 (gN E + 1) = oI (gDA E) (4168) (fun _ => 0) := hX2
  have hA2 : ∀ k, k < gN E + 1 → ad2 k = ad1 k := hA2
  have hF2 := fun k (hk : k < gN E + 1) => hF2 k hk
  have e2_k0_0 : aeq (ad2 (k0)) (gAd E (k0)) := (hA2 _ (by omega)).trans e1_k0_0.eq
  have hG2 : ∀ k, k < gN E + 1 → k ≠ k0 → f2 k = f1 k := fun k hk x0 => (hF2 k hk).trans (up_n x0 (rfl))
  have c2_k0 : f2 (k0) = .inr (7, [.null, .null, .null, .ref (ad1 (gN E)), .null, .int (0)]) := (hF2 _ (by omega)).trans (up_e)
  refine G.eqs [.ref (ad2 (gN E + 1)), .ref (ad2 (k0))] (by rw [e2_k0_0.eq]) ?_
  refine G.putFS cls_X7 (k0) 4 [.null, .null, .null, .ref (ad1 (gN E)), .ref (ad2 (gN E + 1)), .int (0)] (show k0 < gN E + 2 by omega) (c2_k0) rfl (by decide) rfl rfl rfl rfl rfl (Nat.le_of_ble_eq_true rfl) (tbd tv_X7_init rfl) w_483 ?_
  refine G.go tv_X7_init 2 24 [(0, .ref (gAd E (k0))), (1, .ref (gAd E (k1))), (2, .ref (gAd E (k2))), (3, .ref (gAd E (k3)))] [.ref (gAd E (k1)), .ref (gAd E (k0))] rfl ?_
  refine G.eqs [.ref (gAd E (k1)), .ref (ad2 (k0))] (by rw [e2_k0_0.eq]) ?_
  refine G.putFS cls_X7 (k0) 0 [.ref (gAd E (k1)), .null, .null, .ref (ad1 (gN E)), .ref (ad2 (gN E + 1)), .int (0)] (show k0 < gN E + 2 by omega) (up_e) rfl (by decide) rfl rfl rfl rfl rfl (Nat.le_of_ble_eq_true rfl) (tbd tv_X7_init rfl) w_478 ?_
  refine G.go tv_X7_init 2 29 [(0, .ref (gAd E (k0))), (1, .ref (gAd E (k1))), (2, .ref (gAd E (k2))), (3, .ref (gAd E (k3)))] [.ref (gAd E (k2)), .ref (gAd E (k0))] rfl ?_
  refine G.eqs [.ref (gAd E (k2)), .ref (ad2 (k0))] (by rw [e2_k0_0.eq]) ?_
  refine G.putFS cls_X7 (k0) 1 [.ref (gAd E (k1)), .ref (gAd E (k2)), .null, .ref (ad1 (gN E)), .ref (ad2 (gN E + 1)), .int (0)] (show k0 < gN E + 2 by omega) (up_e) rfl (by decide) rfl rfl rfl rfl rfl (Nat.le_of_ble_eq_true rfl) (tbd tv_X7_init rfl) w_479 ?_
  refine G.go tv_X7_init 2 34 [(0, .ref (gAd E (k0))), (1, .ref (gAd E (k1))), (2, .ref (gAd E (k2))), (3, .ref (gAd E (k3)))] [.ref (gAd E (k3)), .ref (gAd E (k0))] rfl ?_
  refine G.eqs [.ref (gAd E (k3)), .ref (ad2 (k0))] (by rw [e2_k0_0.eq]) ?_
  refine G.putFS cls_X7 (k0) 2 [.ref (gAd E (k1)), .ref (gAd E (k2)), .ref (gAd E (k3)), .ref (ad1 (gN E)), .ref (ad2 (gN E + 1)), .int (0)] (show k0 < gN E + 2 by omega) (up_e) rfl (by decide) rfl rfl rfl rfl rfl (Nat.le_of_ble_eq_true rfl) (tbd tv_X7_init rfl) w_480 ?_
  have RA2 : ∀ k, k < gN E + 2 → ad2 k = ad2 k := fun _ _ => rfl
  have RF2 : ∀ k, k < gN E + 2 → k ≠ k0 → (va_up (va_up (va_up (va_up (f2) (k0) (.inr (7, [.null, .null, .null, .ref (ad1 (gN E)), .ref (ad2 (gN E + 1)), .int (0)]))) (k0) (.inr (7, [.ref (gAd E (k1)), .null, .null, .ref (ad1 (gN E)), .ref (ad2 (gN E + 1)), .int (0)]))) (k0) (.inr (7, [.ref (gAd E (k1)), .ref (gAd E (k2)), .null, .ref (ad1 (gN E)), .ref (ad2 (gN E + 1)), .int (0)]))) (k0) (.inr (7, [.ref (gAd E (k1)), .ref (gAd E (k2)), .ref (gAd E (k3)), .ref (ad1 (gN E)), .ref (ad2 (gN E + 1)), .int (0)]))) k = f2 k := fun k hk x0 => up_n x0 (up_n x0 (up_n x0 (up_n x0 (rfl))))
  have RA1 : ∀ k, k < gN E + 1 → ad2 k = ad1 k := fun k hk => (RA2 k (by omega)).trans (hA2 k hk)
  have RF1 : ∀ k, k < gN E + 1 → k ≠ k0 → (va_up (va_up (va_up (va_up (f2) (k0) (.inr (7, [.null, .null, .null, .ref (ad1 (gN E)), .ref (ad2 (gN E + 1)), .int (0)]))) (k0) (.inr (7, [.ref (gAd E (k1)), .null, .null, .ref (ad1 (gN E)), .ref (ad2 (gN E + 1)), .int (0)]))) (k0) (.inr (7, [.ref (gAd E (k1)), .ref (gAd E (k2)), .null, .ref (ad1 (gN E)), .ref (ad2 (gN E + 1)), .int (0)]))) (k0) (.inr (7, [.ref (gAd E (k1)), .ref (gAd E (k2)), .ref (gAd E (k3)), .ref (ad1 (gN E)), .ref (ad2 (gN E + 1)), .int (0)]))) k = f1 k := fun k hk x0 => (RF2 k (by omega) x0).trans (hG2 k hk x0)
  have RA0 : ∀ k, k < gN E → ad2 k = gAd E k := fun k hk => (RA1 k (by omega)).trans (hA1 k hk)
  have RF0 : ∀ k, k < gN E → k ≠ k0 → (va_up (va_up (va_up (va_up (f2) (k0) (.inr (7, [.null, .null, .null, .ref (ad1 (gN E)), .ref (ad2 (gN E + 1)), .int (0)]))) (k0) (.inr (7, [.ref (gAd E (k1)), .null, .null, .ref (ad1 (gN E)), .ref (ad2 (gN E + 1)), .int (0)]))) (k0) (.inr (7, [.ref (gAd E (k1)), .ref (gAd E (k2)), .null, .ref (ad1 (gN E)), .ref (ad2 (gN E + 1)), .int (0)]))) (k0) (.inr (7, [.ref (gAd E (k1)), .ref (gAd E (k2)), .ref (gAd E (k3)), .ref (ad1 (gN E)), .ref (ad2 (gN E + 1)), .int (0)]))) k = f k := fun k hk x0 => (RF1 k (by omega) x0).trans (hG1 k hk x0)
  exact G.vretG (n' := gN E + 2) (by omega) (fun k hk => RA0 k hk) ⟨rfl, (fun k hk x0 => RF0 k (by omega) x0 ), (by rw [RA0 (k1) (by omega), RA0 (k2) (by omega), RA0 (k3) (by omega), RA1 (gN E) (by omega)]; exact up_e), ((RF1 (gN E) (by omega) (by omega)).trans hX1), ((RF2 (gN E + 1) (by omega) (by omega)).trans hX2)⟩ (by (try dsimp only [gRm]); omega) (by (try dsimp only [gRm]); omega) (tbd tv_X7_init rfl)
def tb_X3_init : List (Nat × Instr × Nat) := [(0, .aload_n 0, 1), (1, .invokespecial 3, 3), (4, .aload_n 0, 1), (5, .sipush 128, 3), (8, .newarray .byte, 2), (10, .putfield 9, 3), (13, .aload_n 0, 1), (14, .bipush 17, 2), (16, .newarray .boolean, 2), (18, .putfield 15, 3), (21, .aload_n 0, 1), (22, .aload_n 1, 1), (23, .putfield 19, 3), (26, .aload_n 0, 1), (27, .aload_n 2, 1), (28, .putfield 23, 3), (31, .return_, 1)]
theorem tv_X3_init : Tv cX3_init tb_X3_init := by
  unfold Tv
  decide +kernel
theorem w_524 : Cond.methodLink "LedgerFiles$Files" 3 ⟨"java/lang/Object", "<init>", "()V"⟩ ∈ TB := tp_2 138 (by decide +kernel) rfl
theorem w_206 : Cond.arrayClass .byte ∈ TB := tp_1 60 (by decide +kernel) rfl
theorem w_527 : Cond.fieldLink "LedgerFiles$Files" 9 "LedgerFiles$Files" "row" "[B" ∈ TB := tp_2 141 (by decide +kernel) rfl
theorem w_402 : Cond.arrayClass .boolean ∈ TB := tp_2 16 (by decide +kernel) rfl
theorem w_528 : Cond.fieldLink "LedgerFiles$Files" 15 "LedgerFiles$Files" "fresh" "[Z" ∈ TB := tp_2 142 (by decide +kernel) rfl
theorem w_525 : Cond.fieldLink "LedgerFiles$Files" 19 "LedgerFiles$Files" "view" "LLedgerFiles$View;" ∈ TB := tp_2 139 (by decide +kernel) rfl
theorem w_526 : Cond.fieldLink "LedgerFiles$Files" 23 "LedgerFiles$Files" "nodes" "LLedgerFiles$Nodes;" ∈ TB := tp_2 140 (by decide +kernel) rfl
set_option maxRecDepth 100000 in
set_option maxHeartbeats 4000000 in
theorem k_X3_init (E : gE) (f : Nat → va_E) (k0 : Nat) (hk0 : k0 < gN E) (h0 : f k0 = .inr (3, [.null, .null, .null, .null])) (k1 : Nat) (hk1 : k1 < gN E) (k2 : Nat) (hk2 : k2 < gN E) : Cm E 2 (2) (145) yX3_init cX3_init 3 [.ref (gAd E (k0)), .ref (gAd E (k1)), .ref (gAd E (k2))] f (fun n' ad' g => n' = gN E + 2 ∧ (∀ k, k < gN E → k ≠ k0 → g k = f k) ∧ g (k0) = .inr (3, [.ref (ad' (k1)), .ref (ad' (k2)), .ref (ad' (gN E)), .ref (ad' (gN E + 1))]) ∧ g (gN E) = oB (gDA E) (128) (fun _ => 0) ∧ g (gN E + 1) = oZ (gDA E) (17) (fun _ => 0)) := by
  refine Cm.of (by decide) (Nat.le_of_ble_eq_true rfl) (fun sz => ?_)
  refine G.eql [(0, .ref (gAd E (k0))), (1, .ref (gAd E (k1))), (2, .ref (gAd E (k2)))] rfl ?_
  refine G.go tv_X3_init 1 1 [(0, .ref (gAd E (k0))), (1, .ref (gAd E (k1))), (2, .ref (gAd E (k2)))] [.ref (gAd E (k0))] rfl ?_
  refine G.objInit w_524 w_184 w_185 (Nat.le_of_ble_eq_true rfl) (Nat.le_of_ble_eq_true rfl) (tbd tv_X3_init rfl) ?_
  refine G.go tv_X3_init 2 8 [(0, .ref (gAd E (k0))), (1, .ref (gAd E (k1))), (2, .ref (gAd E (k2)))] [.int ((128 : Int32)), .ref (gAd E (k0))] rfl ?_
  refine G.mkB (n0 := gN E) (ad0 := gAd E) (N' := 128) (gN E + 1) (by omega) w_206 (by decide) rfl (by omega) (by (try dsimp only [gRm]); omega) (by (try dsimp only [gRm]); omega) (tbd tv_X3_init rfl) (fun ad1 f1 hA1 hF1 hX1 => ?_)
  have hX1 : f1 (gN E) = oB (gDA E) (128) (fun _ => 0) := hX1
  have hA1 : ∀ k, k < gN E → ad1 k = gAd E k := hA1
  have hF1 := fun k (hk : k < gN E) => hF1 k hk
  have e1_k0_0 : aeq (ad1 (k0)) (gAd E (k0)) := (hA1 _ (by omega)).trans rfl
  have hG1 : ∀ k, k < gN E → k ≠ k0 → f1 k = f k := fun k hk x0 => (hF1 k hk).trans (rfl)
  have c1_k0 : f1 (k0) = .inr (3, [.null, .null, .null, .null]) := (hF1 _ (by omega)).trans (h0)
  refine G.eqs [.ref (ad1 (gN E)), .ref (ad1 (k0))] (by rw [e1_k0_0.eq]) ?_
  refine G.putFS cls_X3 (k0) 2 [.null, .null, .ref (ad1 (gN E)), .null] (show k0 < gN E + 1 by omega) (c1_k0) rfl (by decide) rfl rfl rfl rfl rfl (Nat.le_of_ble_eq_true rfl) (tbd tv_X3_init rfl) w_527 ?_
  refine G.go tv_X3_init 2 16 [(0, .ref (gAd E (k0))), (1, .ref (gAd E (k1))), (2, .ref (gAd E (k2)))] [.int ((17 : Int32)), .ref (gAd E (k0))] rfl ?_
  refine G.mkZ (n0 := gN E + 1) (ad0 := ad1) (N' := 17) (gN E + 2) (by omega) w_402 (by decide) rfl (by omega) (by (try dsimp only [gRm]); omega) (by (try dsimp only [gRm]); omega) (tbd tv_X3_init rfl) (fun ad2 f2 hA2 hF2 hX2 => ?_)
  have hX2 : f2 (gN E + 1) = oZ (gDA E) (17) (fun _ => 0) := hX2
  have hA2 : ∀ k, k < gN E + 1 → ad2 k = ad1 k := hA2
  have hF2 := fun k (hk : k < gN E + 1) => hF2 k hk
  have e2_k0_0 : aeq (ad2 (k0)) (gAd E (k0)) := (hA2 _ (by omega)).trans e1_k0_0.eq
  have hG2 : ∀ k, k < gN E + 1 → k ≠ k0 → f2 k = f1 k := fun k hk x0 => (hF2 k hk).trans (up_n x0 (rfl))
  have c2_k0 : f2 (k0) = .inr (3, [.null, .null, .ref (ad1 (gN E)), .null]) := (hF2 _ (by omega)).trans (up_e)
  refine G.eqs [.ref (ad2 (gN E + 1)), .ref (ad2 (k0))] (by rw [e2_k0_0.eq]) ?_
  refine G.putFS cls_X3 (k0) 3 [.null, .null, .ref (ad1 (gN E)), .ref (ad2 (gN E + 1))] (show k0 < gN E + 2 by omega) (c2_k0) rfl (by decide) rfl rfl rfl rfl rfl (Nat.le_of_ble_eq_true rfl) (tbd tv_X3_init rfl) w_528 ?_
  refine G.go tv_X3_init 2 23 [(0, .ref (gAd E (k0))), (1, .ref (gAd E (k1))), (2, .ref (gAd E (k2)))] [.ref (gAd E (k1)), .ref (gAd E (k0))] rfl ?_
  refine G.eqs [.ref (gAd E (k1)), .ref (ad2 (k0))] (by rw [e2_k0_0.eq]) ?_
  refine G.putFS cls_X3 (k0) 0 [.ref (gAd E (k1)), .null, .ref (ad1 (gN E)), .ref (ad2 (gN E + 1))] (show k0 < gN E + 2 by omega) (up_e) rfl (by decide) rfl rfl rfl rfl rfl (Nat.le_of_ble_eq_true rfl) (tbd tv_X3_init rfl) w_525 ?_
  refine G.go tv_X3_init 2 28 [(0, .ref (gAd E (k0))), (1, .ref (gAd E (k1))), (2, .ref (gAd E (k2)))] [.ref (gAd E (k2)), .ref (gAd E (k0))] rfl ?_
  refine G.eqs [.ref (gAd E (k2)), .ref (ad2 (k0))] (by rw [e2_k0_0.eq]) ?_
  refine G.putFS cls_X3 (k0) 1 [.ref (gAd E (k1)), .ref (gAd E (k2)), .ref (ad1 (gN E)), .ref (ad2 (gN E + 1))] (show k0 < gN E + 2 by omega) (up_e) rfl (by decide) rfl rfl rfl rfl rfl (Nat.le_of_ble_eq_true rfl) (tbd tv_X3_init rfl) w_526 ?_
  have RA2 : ∀ k, k < gN E + 2 → ad2 k = ad2 k := fun _ _ => rfl
  have RF2 : ∀ k, k < gN E + 2 → k ≠ k0 → (va_up (va_up (va_up (f2) (k0) (.inr (3, [.null, .null, .ref (ad1 (gN E)), .ref (ad2 (gN E + 1))]))) (k0) (.inr (3, [.ref (gAd E (k1)), .null, .ref (ad1 (gN E)), .ref (ad2 (gN E + 1))]))) (k0) (.inr (3, [.ref (gAd E (k1)), .ref (gAd E (k2)), .ref (ad1 (gN E)), .ref (ad2 (gN E + 1))]))) k = f2 k := fun k hk x0 => up_n x0 (up_n x0 (up_n x0 (rfl)))
  have RA1 : ∀ k, k < gN E + 1 → ad2 k = ad1 k := fun k hk => (RA2 k (by omega)).trans (hA2 k hk)
  have RF1 : ∀ k, k < gN E + 1 → k ≠ k0 → (va_up (va_up (va_up (f2) (k0) (.inr (3, [.null, .null, .ref (ad1 (gN E)), .ref (ad2 (gN E + 1))]))) (k0) (.inr (3, [.ref (gAd E (k1)), .null, .ref (ad1 (gN E)), .ref (ad2 (gN E + 1))]))) (k0) (.inr (3, [.ref (gAd E (k1)), .ref (gAd E (k2)), .ref (ad1 (gN E)), .ref (ad2 (gN E + 1))]))) k = f1 k := fun k hk x0 => (RF2 k (by omega) x0).trans (hG2 k hk x0)
  have RA0 : ∀ k, k < gN E → ad2 k = gAd E k := fun k hk => (RA1 k (by omega)).trans (hA1 k hk)
  have RF0 : ∀ k, k < gN E → k ≠ k0 → (va_up (va_up (va_up (f2) (k0) (.inr (3, [.null, .null, .ref (ad1 (gN E)), .ref (ad2 (gN E + 1))]))) (k0) (.inr (3, [.ref (gAd E (k1)), .null, .ref (ad1 (gN E)), .ref (ad2 (gN E + 1))]))) (k0) (.inr (3, [.ref (gAd E (k1)), .ref (gAd E (k2)), .ref (ad1 (gN E)), .ref (ad2 (gN E + 1))]))) k = f k := fun k hk x0 => (RF1 k (by omega) x0).trans (hG1 k hk x0)
  exact G.vretG (n' := gN E + 2) (by omega) (fun k hk => RA0 k hk) ⟨rfl, (fun k hk x0 => RF0 k (by omega) x0 ), (by rw [RA0 (k1) (by omega), RA0 (k2) (by omega), RA1 (gN E) (by omega)]; exact up_e), ((RF1 (gN E) (by omega) (by omega)).trans hX1), ((RF2 (gN E + 1) (by omega) (by omega)).trans hX2)⟩ (by (try dsimp only [gRm]); omega) (by (try dsimp only [gRm]); omega) (tbd tv_X3_init rfl)
def tb_X4_init : List (Nat × Instr × Nat) := [(0, .aload_n 0, 1), (1, .invokespecial 3, 3), (4, .aload_n 0, 1), (5, .aload_n 1, 1), (6, .putfield 9, 3), (9, .aload_n 0, 1), (10, .aload_n 2, 1), (11, .putfield 15, 3), (14, .aload_n 0, 1), (15, .aload_n 3, 1), (16, .putfield 19, 3), (19, .return_, 1)]
theorem tv_X4_init : Tv cX4_init tb_X4_init := by
  unfold Tv
  decide +kernel
theorem w_508 : Cond.methodLink "LedgerFiles$Folders" 3 ⟨"java/lang/Object", "<init>", "()V"⟩ ∈ TB := tp_2 122 (by decide +kernel) rfl
theorem w_509 : Cond.fieldLink "LedgerFiles$Folders" 9 "LedgerFiles$Folders" "view" "LLedgerFiles$View;" ∈ TB := tp_2 123 (by decide +kernel) rfl
theorem w_510 : Cond.fieldLink "LedgerFiles$Folders" 15 "LedgerFiles$Folders" "nodes" "LLedgerFiles$Nodes;" ∈ TB := tp_2 124 (by decide +kernel) rfl
theorem w_511 : Cond.fieldLink "LedgerFiles$Folders" 19 "LedgerFiles$Folders" "text" "[B" ∈ TB := tp_2 125 (by decide +kernel) rfl
set_option maxRecDepth 100000 in
set_option maxHeartbeats 4000000 in
theorem k_X4_init (E : gE) (f : Nat → va_E) (k0 : Nat) (hk0 : k0 < gN E) (h0 : f k0 = .inr (4, [.null, .null, .null])) (k1 : Nat) (hk1 : k1 < gN E) (k2 : Nat) (hk2 : k2 < gN E) (k3 : Nat) (hk3 : k3 < gN E) : Cm E 2 (0) (0) yX4_init cX4_init 4 [.ref (gAd E (k0)), .ref (gAd E (k1)), .ref (gAd E (k2)), .ref (gAd E (k3))] f (fun n' ad' g => n' = gN E ∧ (∀ k, k < gN E → k ≠ k0 → g k = f k) ∧ g (k0) = .inr (4, [.ref (ad' (k1)), .ref (ad' (k2)), .ref (ad' (k3))])) := by
  refine Cm.of (by decide) (Nat.le_of_ble_eq_true rfl) (fun sz => ?_)
  refine G.eql [(0, .ref (gAd E (k0))), (1, .ref (gAd E (k1))), (2, .ref (gAd E (k2))), (3, .ref (gAd E (k3)))] rfl ?_
  refine G.go tv_X4_init 1 1 [(0, .ref (gAd E (k0))), (1, .ref (gAd E (k1))), (2, .ref (gAd E (k2))), (3, .ref (gAd E (k3)))] [.ref (gAd E (k0))] rfl ?_
  refine G.objInit w_508 w_184 w_185 (Nat.le_of_ble_eq_true rfl) (Nat.le_of_ble_eq_true rfl) (tbd tv_X4_init rfl) ?_
  refine G.go tv_X4_init 2 6 [(0, .ref (gAd E (k0))), (1, .ref (gAd E (k1))), (2, .ref (gAd E (k2))), (3, .ref (gAd E (k3)))] [.ref (gAd E (k1)), .ref (gAd E (k0))] rfl ?_
  refine G.putFS cls_X4 (k0) 0 [.ref (gAd E (k1)), .null, .null] (by omega) (h0) rfl (by decide) rfl rfl rfl rfl rfl (Nat.le_of_ble_eq_true rfl) (tbd tv_X4_init rfl) w_509 ?_
  refine G.go tv_X4_init 2 11 [(0, .ref (gAd E (k0))), (1, .ref (gAd E (k1))), (2, .ref (gAd E (k2))), (3, .ref (gAd E (k3)))] [.ref (gAd E (k2)), .ref (gAd E (k0))] rfl ?_
  refine G.putFS cls_X4 (k0) 1 [.ref (gAd E (k1)), .ref (gAd E (k2)), .null] (by omega) (up_e) rfl (by decide) rfl rfl rfl rfl rfl (Nat.le_of_ble_eq_true rfl) (tbd tv_X4_init rfl) w_510 ?_
  refine G.go tv_X4_init 2 16 [(0, .ref (gAd E (k0))), (1, .ref (gAd E (k1))), (2, .ref (gAd E (k2))), (3, .ref (gAd E (k3)))] [.ref (gAd E (k3)), .ref (gAd E (k0))] rfl ?_
  refine G.putFS cls_X4 (k0) 2 [.ref (gAd E (k1)), .ref (gAd E (k2)), .ref (gAd E (k3))] (by omega) (up_e) rfl (by decide) rfl rfl rfl rfl rfl (Nat.le_of_ble_eq_true rfl) (tbd tv_X4_init rfl) w_511 ?_
  have RA0 : ∀ k, k < gN E → gAd E k = gAd E k := fun _ _ => rfl
  have RF0 : ∀ k, k < gN E → k ≠ k0 → (va_up (va_up (va_up (f) (k0) (.inr (4, [.ref (gAd E (k1)), .null, .null]))) (k0) (.inr (4, [.ref (gAd E (k1)), .ref (gAd E (k2)), .null]))) (k0) (.inr (4, [.ref (gAd E (k1)), .ref (gAd E (k2)), .ref (gAd E (k3))]))) k = f k := fun k hk x0 => up_n x0 (up_n x0 (up_n x0 (rfl)))
  exact G.vretG (n' := gN E) (by omega) (fun k hk => RA0 k hk) ⟨rfl, (fun k hk x0 => RF0 k (by omega) x0 ), (up_e)⟩ (by (try dsimp only [gRm]); omega) (by (try dsimp only [gRm]); omega) (tbd tv_X4_init rfl)
def tb_X1_init : List (Nat × Instr × Nat) := [(0, .aload_n 0, 1), (1, .invokespecial 3, 3), (4, .aload_n 0, 1), (5, .bipush 65, 2), (7, .newarray .int, 2), (9, .putfield 9, 3), (12, .aload_n 0, 1), (13, .aload_n 1, 1), (14, .putfield 15, 3), (17, .aload_n 0, 1), (18, .aload_n 2, 1), (19, .putfield 19, 3), (22, .aload_n 0, 1), (23, .aload_n 3, 1), (24, .putfield 23, 3), (27, .aload_n 0, 1), (28, .iload 4, 2), (30, .newarray .int, 2), (32, .putfield 27, 3), (35, .return_, 1)]
theorem tv_X1_init : Tv cX1_init tb_X1_init := by
  unfold Tv
  decide +kernel
theorem w_543 : Cond.methodLink "LedgerFiles$Checker" 3 ⟨"java/lang/Object", "<init>", "()V"⟩ ∈ TB := tp_2 157 (by decide +kernel) rfl
theorem w_548 : Cond.fieldLink "LedgerFiles$Checker" 9 "LedgerFiles$Checker" "names" "[I" ∈ TB := tp_2 162 (by decide +kernel) rfl
theorem w_544 : Cond.fieldLink "LedgerFiles$Checker" 15 "LedgerFiles$Checker" "view" "LLedgerFiles$View;" ∈ TB := tp_2 158 (by decide +kernel) rfl
theorem w_545 : Cond.fieldLink "LedgerFiles$Checker" 19 "LedgerFiles$Checker" "nodes" "LLedgerFiles$Nodes;" ∈ TB := tp_2 159 (by decide +kernel) rfl
theorem w_546 : Cond.fieldLink "LedgerFiles$Checker" 23 "LedgerFiles$Checker" "holders" "LLedgerFiles$Holders;" ∈ TB := tp_2 160 (by decide +kernel) rfl
theorem w_547 : Cond.fieldLink "LedgerFiles$Checker" 27 "LedgerFiles$Checker" "owners" "[I" ∈ TB := tp_2 161 (by decide +kernel) rfl
set_option maxRecDepth 100000 in
set_option maxHeartbeats 4000000 in
theorem k_X1_init (E : gE) (f : Nat → va_E) (k0 : Nat) (hk0 : k0 < gN E) (h0 : f k0 = .inr (1, [.null, .null, .null, .null, .null, .int (0)])) (k1 : Nat) (hk1 : k1 < gN E) (k2 : Nat) (hk2 : k2 < gN E) (k3 : Nat) (hk3 : k3 < gN E) (N : Nat) (hN : N ≤ 1024) : Cm E 2 (2) (65 + N) yX1_init cX1_init 5 [.ref (gAd E (k0)), .ref (gAd E (k1)), .ref (gAd E (k2)), .ref (gAd E (k3)), .int (nI N)] f (fun n' ad' g => n' = gN E + 2 ∧ (∀ k, k < gN E → k ≠ k0 → g k = f k) ∧ g (k0) = .inr (1, [.ref (ad' (k1)), .ref (ad' (k2)), .ref (ad' (k3)), .ref (ad' (gN E + 1)), .ref (ad' (gN E)), .int (0)]) ∧ g (gN E) = oI (gDA E) (65) (fun _ => 0) ∧ g (gN E + 1) = oI (gDA E) (N) (fun _ => 0)) := by
  refine Cm.of (by decide) (Nat.le_of_ble_eq_true rfl) (fun sz => ?_)
  refine G.eql [(0, .ref (gAd E (k0))), (1, .ref (gAd E (k1))), (2, .ref (gAd E (k2))), (3, .ref (gAd E (k3))), (4, .int (nI N))] rfl ?_
  refine G.go tv_X1_init 1 1 [(0, .ref (gAd E (k0))), (1, .ref (gAd E (k1))), (2, .ref (gAd E (k2))), (3, .ref (gAd E (k3))), (4, .int (nI N))] [.ref (gAd E (k0))] rfl ?_
  refine G.objInit w_543 w_184 w_185 (Nat.le_of_ble_eq_true rfl) (Nat.le_of_ble_eq_true rfl) (tbd tv_X1_init rfl) ?_
  refine G.go tv_X1_init 2 7 [(0, .ref (gAd E (k0))), (1, .ref (gAd E (k1))), (2, .ref (gAd E (k2))), (3, .ref (gAd E (k3))), (4, .int (nI N))] [.int ((65 : Int32)), .ref (gAd E (k0))] rfl ?_
  refine G.mkI (n0 := gN E) (ad0 := gAd E) (N' := 65) (gN E + 1) (by omega) w_207 (by decide) rfl (by omega) (by (try dsimp only [gRm]); omega) (by (try dsimp only [gRm]); omega) (tbd tv_X1_init rfl) (fun ad1 f1 hA1 hF1 hX1 => ?_)
  have hX1 : f1 (gN E) = oI (gDA E) (65) (fun _ => 0) := hX1
  have hA1 : ∀ k, k < gN E → ad1 k = gAd E k := hA1
  have hF1 := fun k (hk : k < gN E) => hF1 k hk
  have e1_k0_0 : aeq (ad1 (k0)) (gAd E (k0)) := (hA1 _ (by omega)).trans rfl
  have hG1 : ∀ k, k < gN E → k ≠ k0 → f1 k = f k := fun k hk x0 => (hF1 k hk).trans (rfl)
  have c1_k0 : f1 (k0) = .inr (1, [.null, .null, .null, .null, .null, .int (0)]) := (hF1 _ (by omega)).trans (h0)
  refine G.eqs [.ref (ad1 (gN E)), .ref (ad1 (k0))] (by rw [e1_k0_0.eq]) ?_
  refine G.putFS cls_X1 (k0) 4 [.null, .null, .null, .null, .ref (ad1 (gN E)), .int (0)] (show k0 < gN E + 1 by omega) (c1_k0) rfl (by decide) rfl rfl rfl rfl rfl (Nat.le_of_ble_eq_true rfl) (tbd tv_X1_init rfl) w_548 ?_
  refine G.go tv_X1_init 2 14 [(0, .ref (gAd E (k0))), (1, .ref (gAd E (k1))), (2, .ref (gAd E (k2))), (3, .ref (gAd E (k3))), (4, .int (nI N))] [.ref (gAd E (k1)), .ref (gAd E (k0))] rfl ?_
  refine G.eqs [.ref (gAd E (k1)), .ref (ad1 (k0))] (by rw [e1_k0_0.eq]) ?_
  refine G.putFS cls_X1 (k0) 0 [.ref (gAd E (k1)), .null, .null, .null, .ref (ad1 (gN E)), .int (0)] (show k0 < gN E + 1 by omega) (up_e) rfl (by decide) rfl rfl rfl rfl rfl (Nat.le_of_ble_eq_true rfl) (tbd tv_X1_init rfl) w_544 ?_
  refine G.go tv_X1_init 2 19 [(0, .ref (gAd E (k0))), (1, .ref (gAd E (k1))), (2, .ref (gAd E (k2))), (3, .ref (gAd E (k3))), (4, .int (nI N))] [.ref (gAd E (k2)), .ref (gAd E (k0))] rfl ?_
  refine G.eqs [.ref (gAd E (k2)), .ref (ad1 (k0))] (by rw [e1_k0_0.eq]) ?_
  refine G.putFS cls_X1 (k0) 1 [.ref (gAd E (k1)), .ref (gAd E (k2)), .null, .null, .ref (ad1 (gN E)), .int (0)] (show k0 < gN E + 1 by omega) (up_e) rfl (by decide) rfl rfl rfl rfl rfl (Nat.le_of_ble_eq_true rfl) (tbd tv_X1_init rfl) w_545 ?_
  refine G.go tv_X1_init 2 24 [(0, .ref (gAd E (k0))), (1, .ref (gAd E (k1))), (2, .ref (gAd E (k2))), (3, .ref (gAd E (k3))), (4, .int (nI N))] [.ref (gAd E (k3)), .ref (gAd E (k0))] rfl ?_
  refine G.eqs [.ref (gAd E (k3)), .ref (ad1 (k0))] (by rw [e1_k0_0.eq]) ?_
  refine G.putFS cls_X1 (k0) 2 [.ref (gAd E (k1)), .ref (gAd E (k2)), .ref (gAd E (k3)), .null, .ref (ad1 (gN E)), .int (0)] (show k0 < gN E + 1 by omega) (up_e) rfl (by decide) rfl rfl rfl rfl rfl (Nat.le_of_ble_eq_true rfl) (tbd tv_X1_init rfl) w_546 ?_
  refine G.go tv_X1_init 2 30 [(0, .ref (gAd E (k0))), (1, .ref (gAd E (k1))), (2, .ref (gAd E (k2))), (3, .ref (gAd E (k3))), (4, .int (nI N))] [.int (nI N), .ref (gAd E (k0))] rfl ?_
  refine G.mkI (n0 := gN E + 1) (ad0 := ad1) (N' := N) (gN E + 2) (by omega) w_207 (nI_pos (by omega)) (nI_clamp (by omega)) (by omega) (by (try dsimp only [gRm]); omega) (by (try dsimp only [gRm]); omega) (tbd tv_X1_init rfl) (fun ad2 f2 hA2 hF2 hX2 => ?_)
  have hX2 : f2 (gN E + 1) = oI (gDA E) (N) (fun _ => 0) := hX2
  have hA2 : ∀ k, k < gN E + 1 → ad2 k = ad1 k := hA2
  have hF2 := fun k (hk : k < gN E + 1) => hF2 k hk
  have e2_k0_0 : aeq (ad2 (k0)) (gAd E (k0)) := (hA2 _ (by omega)).trans e1_k0_0.eq
  have hG2 : ∀ k, k < gN E + 1 → k ≠ k0 → f2 k = f1 k := fun k hk x0 => (hF2 k hk).trans (up_n x0 (up_n x0 (up_n x0 (up_n x0 (rfl)))))
  have c2_k0 : f2 (k0) = .inr (1, [.ref (gAd E (k1)), .ref (gAd E (k2)), .ref (gAd E (k3)), .null, .ref (ad1 (gN E)), .int (0)]) := (hF2 _ (by omega)).trans (up_e)
  refine G.eqs [.ref (ad2 (gN E + 1)), .ref (ad2 (k0))] (by rw [e2_k0_0.eq]) ?_
  refine G.putFS cls_X1 (k0) 3 [.ref (gAd E (k1)), .ref (gAd E (k2)), .ref (gAd E (k3)), .ref (ad2 (gN E + 1)), .ref (ad1 (gN E)), .int (0)] (show k0 < gN E + 2 by omega) (c2_k0) rfl (by decide) rfl rfl rfl rfl rfl (Nat.le_of_ble_eq_true rfl) (tbd tv_X1_init rfl) w_547 ?_
  have RA2 : ∀ k, k < gN E + 2 → ad2 k = ad2 k := fun _ _ => rfl
  have RF2 : ∀ k, k < gN E + 2 → k ≠ k0 → (va_up (f2) (k0) (.inr (1, [.ref (gAd E (k1)), .ref (gAd E (k2)), .ref (gAd E (k3)), .ref (ad2 (gN E + 1)), .ref (ad1 (gN E)), .int (0)]))) k = f2 k := fun k hk x0 => up_n x0 (rfl)
  have RA1 : ∀ k, k < gN E + 1 → ad2 k = ad1 k := fun k hk => (RA2 k (by omega)).trans (hA2 k hk)
  have RF1 : ∀ k, k < gN E + 1 → k ≠ k0 → (va_up (f2) (k0) (.inr (1, [.ref (gAd E (k1)), .ref (gAd E (k2)), .ref (gAd E (k3)), .ref (ad2 (gN E + 1)), .ref (ad1 (gN E)), .int (0)]))) k = f1 k := fun k hk x0 => (RF2 k (by omega) x0).trans (hG2 k hk x0)
  have RA0 : ∀ k, k < gN E → ad2 k = gAd E k := fun k hk => (RA1 k (by omega)).trans (hA1 k hk)
  have RF0 : ∀ k, k < gN E → k ≠ k0 → (va_up (f2) (k0) (.inr (1, [.ref (gAd E (k1)), .ref (gAd E (k2)), .ref (gAd E (k3)), .ref (ad2 (gN E + 1)), .ref (ad1 (gN E)), .int (0)]))) k = f k := fun k hk x0 => (RF1 k (by omega) x0).trans (hG1 k hk x0)
  exact G.vretG (n' := gN E + 2) (by omega) (fun k hk => RA0 k hk) ⟨rfl, (fun k hk x0 => RF0 k (by omega) x0 ), (by rw [RA0 (k1) (by omega), RA0 (k2) (by omega), RA0 (k3) (by omega), RA1 (gN E) (by omega)]; exact up_e), ((RF1 (gN E) (by omega) (by omega)).trans hX1), ((RF2 (gN E + 1) (by omega) (by omega)).trans hX2)⟩ (by (try dsimp only [gRm]); omega) (by (try dsimp only [gRm]); omega) (tbd tv_X1_init rfl)
def tb_X2_init : List (Nat × Instr × Nat) := [(0, .aload_n 0, 1), (1, .invokespecial 3, 3), (4, .aload_n 0, 1), (5, .sipush 256, 3), (8, .sipush 128, 3), (11, .multianewarray 11 2, 4), (15, .putfield 13, 3), (18, .aload_n 0, 1), (19, .sipush 256, 3), (22, .newarray .int, 2), (24, .putfield 16, 3), (27, .aload_n 0, 1), (28, .iconst 1, 1), (29, .putfield 20, 3), (32, .aload_n 0, 1), (33, .iconst (-1), 1), (34, .putfield 24, 3), (37, .aload_n 0, 1), (38, .iload_n 1, 1), (39, .putfield 28, 3), (42, .aload_n 0, 1), (43, .iload_n 1, 1), (44, .newarray .int, 2), (46, .putfield 31, 3), (49, .aload_n 0, 1), (50, .iload_n 1, 1), (51, .sipush 128, 3), (54, .multianewarray 11 2, 4), (58, .putfield 34, 3), (61, .aload_n 0, 1), (62, .iload_n 1, 1), (63, .newarray .int, 2), (65, .putfield 37, 3), (68, .aload_n 0, 1), (69, .getfield 37, 3), (72, .iconst (-1), 1), (73, .invokestatic 40, 3), (76, .return_, 1)]
theorem tv_X2_init : Tv cX2_init tb_X2_init := by
  unfold Tv
  decide +kernel
theorem w_219 : Cond.methodLink "LedgerFiles$Disk" 3 ⟨"java/lang/Object", "<init>", "()V"⟩ ∈ TB := tp_1 73 (by decide +kernel) rfl
theorem w_220 : Cond.classLink "LedgerFiles$Disk" 11 "[[B" ∈ TB := tp_1 74 (by decide +kernel) rfl
theorem w_227 : Cond.fieldLink "LedgerFiles$Disk" 28 "LedgerFiles$Disk" "blocks" "I" ∈ TB := tp_1 81 (by decide +kernel) rfl
theorem w_222 : Cond.methodLink "LedgerFiles$Disk" 40 yJ7_fill_53178 ∈ TB := tp_1 76 (by decide +kernel) rfl
theorem cw_X2_40 : Cw RX2 40 yJ7_fill_53178 cJ7_fill_53178 4 none 2 := ⟨w_222, w_224, w_151, by decide +kernel, by decide +kernel, by decide⟩
set_option maxRecDepth 100000 in
set_option maxHeartbeats 4000000 in
theorem k_X2_init (E : gE) (f : Nat → va_E) (k0 : Nat) (hk0 : k0 < gN E) (h0 : f k0 = .inr (2, [.int (0), .null, .null, .null, .null, .null, .int (0), .int (0), .int (0), .int (0), .int (0), .int (0)])) (N : Nat) (hN : N ≤ 1024) : Cm E 3 (262 + N) (256 + 256 * 128 + 256 + N + N + N * 128 + N + 6) yX2_init cX2_init 2 [.ref (gAd E (k0)), .int (nI N)] f (fun n' ad' g => n' = gN E + 260 + N + 1 ∧ (∀ k, k < gN E → k ≠ k0 → g k = f k) ∧ g (k0) = .inr (2, [.int (nI N), .ref (ad' (gN E + 258)), .ref (ad' (gN E + 259)), .ref (ad' (gN E)), .ref (ad' (gN E + 260 + N)), .ref (ad' (gN E + 257)), .int (0), .int (0), .int ((1 : Int32)), .int ((-1 : Int32)), .int (0), .int (0)]) ∧ g (gN E + 260 + N) = oI (gDA E) (N) (flt (fun _ => 0) 0 (N) ((-1 : Int32))) ∧ g (gN E) = oR (gDA E) (256) (rwB ad' (gN E + 1) (256)) ∧ (∀ i, i < 256 → g (gN E + 1 + i) = oB (gDA E) 128 (fun _ => 0)) ∧ g (gN E + 257) = oI (gDA E) (256) (fun _ => 0) ∧ g (gN E + 258) = oI (gDA E) (N) (fun _ => 0) ∧ g (gN E + 259) = oR (gDA E) (N) (rwB ad' (gN E + 260) (N)) ∧ (∀ i, i < N → g (gN E + 260 + i) = oB (gDA E) 128 (fun _ => 0))) := by
  refine Cm.of (by decide) (Nat.le_of_ble_eq_true rfl) (fun sz => ?_)
  refine G.eql [(0, .ref (gAd E (k0))), (1, .int (nI N))] rfl ?_
  refine G.go tv_X2_init 1 1 [(0, .ref (gAd E (k0))), (1, .int (nI N))] [.ref (gAd E (k0))] rfl ?_
  refine G.objInit w_219 w_184 w_185 (Nat.le_of_ble_eq_true rfl) (Nat.le_of_ble_eq_true rfl) (tbd tv_X2_init rfl) ?_
  refine G.go tv_X2_init 3 11 [(0, .ref (gAd E (k0))), (1, .int (nI N))] [.int ((128 : Int32)), .int ((256 : Int32)), .ref (gAd E (k0))] rfl ?_
  refine G.mkM (n0 := gN E) (ad0 := gAd E) (N' := 256) (K' := 128) (gN E + 257) (gN E + 1) (by omega) (by omega) w_220 w_206 (by decide) (by decide) rfl rfl (by omega) (by omega) (by (try dsimp only [gRm]); omega) (by (try dsimp only [gRm]); omega) (tbd tv_X2_init rfl) (fun ad1 f1 hA1 hF1 hX1 hY1 => ?_)
  have hX1 : f1 (gN E) = oR (gDA E) (256) (rwB ad1 (gN E + 1) (256)) := hX1
  have hY1 : ∀ i, i < 256 → f1 (gN E + 1 + i) = oB (gDA E) 128 (fun _ => 0) := hY1
  have hA1 : ∀ k, k < gN E → ad1 k = gAd E k := hA1
  have hF1 := fun k (hk : k < gN E) => hF1 k hk
  have e1_k0_0 : aeq (ad1 (k0)) (gAd E (k0)) := (hA1 _ (by omega)).trans rfl
  have hG1 : ∀ k, k < gN E → k ≠ k0 → k ≠ (gN E + 260 + N) → f1 k = f k := fun k hk x0 x1 => (hF1 k hk).trans (rfl)
  have c1_k0 : f1 (k0) = .inr (2, [.int (0), .null, .null, .null, .null, .null, .int (0), .int (0), .int (0), .int (0), .int (0), .int (0)]) := (hF1 _ (by omega)).trans (h0)
  refine G.eqs [.ref (ad1 (gN E)), .ref (ad1 (k0))] (by rw [e1_k0_0.eq]) ?_
  refine G.putFS cls_X2 (k0) 3 [.int (0), .null, .null, .ref (ad1 (gN E)), .null, .null, .int (0), .int (0), .int (0), .int (0), .int (0), .int (0)] (show k0 < gN E + 257 by omega) (c1_k0) rfl (by decide) rfl rfl rfl rfl rfl (Nat.le_of_ble_eq_true rfl) (tbd tv_X2_init rfl) w_234 ?_
  refine G.go tv_X2_init 2 22 [(0, .ref (gAd E (k0))), (1, .int (nI N))] [.int ((256 : Int32)), .ref (gAd E (k0))] rfl ?_
  refine G.mkI (n0 := gN E + 257) (ad0 := ad1) (N' := 256) (gN E + 258) (by omega) w_207 (by decide) rfl (by omega) (by (try dsimp only [gRm]); omega) (by (try dsimp only [gRm]); omega) (tbd tv_X2_init rfl) (fun ad2 f2 hA2 hF2 hX2 => ?_)
  have hX2 : f2 (gN E + 257) = oI (gDA E) (256) (fun _ => 0) := hX2
  have hA2 : ∀ k, k < gN E + 257 → ad2 k = ad1 k := hA2
  have hF2 := fun k (hk : k < gN E + 257) => hF2 k hk
  have e2_k0_0 : aeq (ad2 (k0)) (gAd E (k0)) := (hA2 _ (by omega)).trans e1_k0_0.eq
  have hG2 : ∀ k, k < gN E + 257 → k ≠ k0 → k ≠ (gN E + 260 + N) → f2 k = f1 k := fun k hk x0 x1 => (hF2 k hk).trans (up_n x0 (rfl))
  have c2_k0 : f2 (k0) = .inr (2, [.int (0), .null, .null, .ref (ad1 (gN E)), .null, .null, .int (0), .int (0), .int (0), .int (0), .int (0), .int (0)]) := (hF2 _ (by omega)).trans (up_e)
  refine G.eqs [.ref (ad2 (gN E + 257)), .ref (ad2 (k0))] (by rw [e2_k0_0.eq]) ?_
  refine G.putFS cls_X2 (k0) 5 [.int (0), .null, .null, .ref (ad1 (gN E)), .null, .ref (ad2 (gN E + 257)), .int (0), .int (0), .int (0), .int (0), .int (0), .int (0)] (show k0 < gN E + 258 by omega) (c2_k0) rfl (by decide) rfl rfl rfl rfl rfl (Nat.le_of_ble_eq_true rfl) (tbd tv_X2_init rfl) w_238 ?_
  refine G.go tv_X2_init 2 29 [(0, .ref (gAd E (k0))), (1, .int (nI N))] [.int ((1 : Int32)), .ref (gAd E (k0))] rfl ?_
  refine G.eqs [.int ((1 : Int32)), .ref (ad2 (k0))] (by rw [e2_k0_0.eq]) ?_
  refine G.putfS cls_X2 (k0) 8 [.int (0), .null, .null, .ref (ad1 (gN E)), .null, .ref (ad2 (gN E + 257)), .int (0), .int (0), .int ((1 : Int32)), .int (0), .int (0), .int (0)] (show k0 < gN E + 258 by omega) (up_e) rfl (by decide) rfl rfl rfl (Nat.le_of_ble_eq_true rfl) (tbd tv_X2_init rfl) w_242 ?_
  refine G.go tv_X2_init 2 34 [(0, .ref (gAd E (k0))), (1, .int (nI N))] [.int ((-1 : Int32)), .ref (gAd E (k0))] rfl ?_
  refine G.eqs [.int ((-1 : Int32)), .ref (ad2 (k0))] (by rw [e2_k0_0.eq]) ?_
  refine G.putfS cls_X2 (k0) 9 [.int (0), .null, .null, .ref (ad1 (gN E)), .null, .ref (ad2 (gN E + 257)), .int (0), .int (0), .int ((1 : Int32)), .int ((-1 : Int32)), .int (0), .int (0)] (show k0 < gN E + 258 by omega) (up_e) rfl (by decide) rfl rfl rfl (Nat.le_of_ble_eq_true rfl) (tbd tv_X2_init rfl) w_244 ?_
  refine G.go tv_X2_init 2 39 [(0, .ref (gAd E (k0))), (1, .int (nI N))] [.int (nI N), .ref (gAd E (k0))] rfl ?_
  refine G.eqs [.int (nI N), .ref (ad2 (k0))] (by rw [e2_k0_0.eq]) ?_
  refine G.putFS cls_X2 (k0) 0 [.int (nI N), .null, .null, .ref (ad1 (gN E)), .null, .ref (ad2 (gN E + 257)), .int (0), .int (0), .int ((1 : Int32)), .int ((-1 : Int32)), .int (0), .int (0)] (show k0 < gN E + 258 by omega) (up_e) rfl (by decide) rfl rfl rfl rfl rfl (Nat.le_of_ble_eq_true rfl) (tbd tv_X2_init rfl) w_227 ?_
  refine G.go tv_X2_init 2 44 [(0, .ref (gAd E (k0))), (1, .int (nI N))] [.int (nI N), .ref (gAd E (k0))] rfl ?_
  refine G.mkI (n0 := gN E + 258) (ad0 := ad2) (N' := N) (gN E + 259) (by omega) w_207 (nI_pos (by omega)) (nI_clamp (by omega)) (by omega) (by (try dsimp only [gRm]); omega) (by (try dsimp only [gRm]); omega) (tbd tv_X2_init rfl) (fun ad3 f3 hA3 hF3 hX3 => ?_)
  have hX3 : f3 (gN E + 258) = oI (gDA E) (N) (fun _ => 0) := hX3
  have hA3 : ∀ k, k < gN E + 258 → ad3 k = ad2 k := hA3
  have hF3 := fun k (hk : k < gN E + 258) => hF3 k hk
  have e3_k0_0 : aeq (ad3 (k0)) (gAd E (k0)) := (hA3 _ (by omega)).trans e2_k0_0.eq
  have hG3 : ∀ k, k < gN E + 258 → k ≠ k0 → k ≠ (gN E + 260 + N) → f3 k = f2 k := fun k hk x0 x1 => (hF3 k hk).trans (up_n x0 (up_n x0 (up_n x0 (up_n x0 (rfl)))))
  have c3_k0 : f3 (k0) = .inr (2, [.int (nI N), .null, .null, .ref (ad1 (gN E)), .null, .ref (ad2 (gN E + 257)), .int (0), .int (0), .int ((1 : Int32)), .int ((-1 : Int32)), .int (0), .int (0)]) := (hF3 _ (by omega)).trans (up_e)
  refine G.eqs [.ref (ad3 (gN E + 258)), .ref (ad3 (k0))] (by rw [e3_k0_0.eq]) ?_
  refine G.putFS cls_X2 (k0) 1 [.int (nI N), .ref (ad3 (gN E + 258)), .null, .ref (ad1 (gN E)), .null, .ref (ad2 (gN E + 257)), .int (0), .int (0), .int ((1 : Int32)), .int ((-1 : Int32)), .int (0), .int (0)] (show k0 < gN E + 259 by omega) (c3_k0) rfl (by decide) rfl rfl rfl rfl rfl (Nat.le_of_ble_eq_true rfl) (tbd tv_X2_init rfl) w_230 ?_
  refine G.go tv_X2_init 3 54 [(0, .ref (gAd E (k0))), (1, .int (nI N))] [.int ((128 : Int32)), .int (nI N), .ref (gAd E (k0))] rfl ?_
  refine G.mkM (n0 := gN E + 259) (ad0 := ad3) (N' := N) (K' := 128) (gN E + 260 + N) (gN E + 260) (by omega) (by omega) w_220 w_206 (nI_pos (by omega)) (by decide) (nI_clamp (by omega)) rfl (by omega) (by omega) (by (try dsimp only [gRm]); omega) (by (try dsimp only [gRm]); omega) (tbd tv_X2_init rfl) (fun ad4 f4 hA4 hF4 hX4 hY4 => ?_)
  have hX4 : f4 (gN E + 259) = oR (gDA E) (N) (rwB ad4 (gN E + 260) (N)) := hX4
  have hY4 : ∀ i, i < N → f4 (gN E + 260 + i) = oB (gDA E) 128 (fun _ => 0) := hY4
  have hA4 : ∀ k, k < gN E + 259 → ad4 k = ad3 k := hA4
  have hF4 := fun k (hk : k < gN E + 259) => hF4 k hk
  have e4_k0_0 : aeq (ad4 (k0)) (gAd E (k0)) := (hA4 _ (by omega)).trans e3_k0_0.eq
  have hG4 : ∀ k, k < gN E + 259 → k ≠ k0 → k ≠ (gN E + 260 + N) → f4 k = f3 k := fun k hk x0 x1 => (hF4 k hk).trans (up_n x0 (rfl))
  have c4_k0 : f4 (k0) = .inr (2, [.int (nI N), .ref (ad3 (gN E + 258)), .null, .ref (ad1 (gN E)), .null, .ref (ad2 (gN E + 257)), .int (0), .int (0), .int ((1 : Int32)), .int ((-1 : Int32)), .int (0), .int (0)]) := (hF4 _ (by omega)).trans (up_e)
  refine G.eqs [.ref (ad4 (gN E + 259)), .ref (ad4 (k0))] (by rw [e4_k0_0.eq]) ?_
  refine G.putFS cls_X2 (k0) 2 [.int (nI N), .ref (ad3 (gN E + 258)), .ref (ad4 (gN E + 259)), .ref (ad1 (gN E)), .null, .ref (ad2 (gN E + 257)), .int (0), .int (0), .int ((1 : Int32)), .int ((-1 : Int32)), .int (0), .int (0)] (show k0 < gN E + 260 + N by omega) (c4_k0) rfl (by decide) rfl rfl rfl rfl rfl (Nat.le_of_ble_eq_true rfl) (tbd tv_X2_init rfl) w_232 ?_
  refine G.go tv_X2_init 2 63 [(0, .ref (gAd E (k0))), (1, .int (nI N))] [.int (nI N), .ref (gAd E (k0))] rfl ?_
  refine G.mkI (n0 := gN E + 260 + N) (ad0 := ad4) (N' := N) (gN E + 260 + N + 1) (by omega) w_207 (nI_pos (by omega)) (nI_clamp (by omega)) (by omega) (by (try dsimp only [gRm]); omega) (by (try dsimp only [gRm]); omega) (tbd tv_X2_init rfl) (fun ad5 f5 hA5 hF5 hX5 => ?_)
  have hX5 : f5 (gN E + 260 + N) = oI (gDA E) (N) (fun _ => 0) := hX5
  have hA5 : ∀ k, k < gN E + 260 + N → ad5 k = ad4 k := hA5
  have hF5 := fun k (hk : k < gN E + 260 + N) => hF5 k hk
  have e5_k0_0 : aeq (ad5 (k0)) (gAd E (k0)) := (hA5 _ (by omega)).trans e4_k0_0.eq
  have hG5 : ∀ k, k < gN E + 260 + N → k ≠ k0 → k ≠ (gN E + 260 + N) → f5 k = f4 k := fun k hk x0 x1 => (hF5 k hk).trans (up_n x0 (rfl))
  have c5_k0 : f5 (k0) = .inr (2, [.int (nI N), .ref (ad3 (gN E + 258)), .ref (ad4 (gN E + 259)), .ref (ad1 (gN E)), .null, .ref (ad2 (gN E + 257)), .int (0), .int (0), .int ((1 : Int32)), .int ((-1 : Int32)), .int (0), .int (0)]) := (hF5 _ (by omega)).trans (up_e)
  refine G.eqs [.ref (ad5 (gN E + 260 + N)), .ref (ad5 (k0))] (by rw [e5_k0_0.eq]) ?_
  refine G.putFS cls_X2 (k0) 4 [.int (nI N), .ref (ad3 (gN E + 258)), .ref (ad4 (gN E + 259)), .ref (ad1 (gN E)), .ref (ad5 (gN E + 260 + N)), .ref (ad2 (gN E + 257)), .int (0), .int (0), .int ((1 : Int32)), .int ((-1 : Int32)), .int (0), .int (0)] (show k0 < gN E + 260 + N + 1 by omega) (c5_k0) rfl (by decide) rfl rfl rfl rfl rfl (Nat.le_of_ble_eq_true rfl) (tbd tv_X2_init rfl) w_236 ?_
  refine G.go tv_X2_init 1 69 [(0, .ref (gAd E (k0))), (1, .int (nI N))] [.ref (gAd E (k0))] rfl ?_
  refine G.eqs [.ref (ad5 (k0))] (by rw [e5_k0_0.eq]) ?_
  refine G.getf cls_X2 (k0) 4 (show k0 < gN E + 260 + N + 1 by omega) (up_e) (by decide) rfl (tbd tv_X2_init rfl) w_236 ?_
  refine G.go tv_X2_init 1 73 [(0, .ref (gAd E (k0))), (1, .int (nI N))] [.int ((-1 : Int32)), .ref (ad5 (gN E + 260 + N))] rfl ?_
  refine G.callSr [.ref (ad5 (gN E + 260 + N)), .int ((-1 : Int32))] [] (c_J7_fill_53178 (E.1, E.2.1, E.2.2.1, gN E + 260 + N + 1, ad5) _ (gN E + 260 + N) (N) (fun _ => 0) ((-1 : Int32)) (show gN E + 260 + N < gN E + 260 + N + 1 by omega) (up_n (by omega) (hX5)) (by omega)) cw_X2_40 w_223 (Nat.le_of_ble_eq_true rfl) (Nat.le_of_ble_eq_true rfl) (by (try dsimp only [gRm]); omega) (by (try dsimp only [gRm]); omega) rfl (Nat.le_of_ble_eq_true rfl) (tbd tv_X2_init rfl) (fun v g9 q9 => ?_) (fun _ _ h => h.elim)
  obtain ⟨rfl, rfl⟩ := q9
  refine G.eqs [] rfl ?_
  have RA5 : ∀ k, k < gN E + 260 + N + 1 → ad5 k = ad5 k := fun _ _ => rfl
  have RF5 : ∀ k, k < gN E + 260 + N + 1 → k ≠ k0 → k ≠ (gN E + 260 + N) → (va_up (va_up (f5) (k0) (.inr (2, [.int (nI N), .ref (ad3 (gN E + 258)), .ref (ad4 (gN E + 259)), .ref (ad1 (gN E)), .ref (ad5 (gN E + 260 + N)), .ref (ad2 (gN E + 257)), .int (0), .int (0), .int ((1 : Int32)), .int ((-1 : Int32)), .int (0), .int (0)]))) (gN E + 260 + N) (oI (gDA E) (N) (flt (fun _ => 0) 0 (N) ((-1 : Int32))))) k = f5 k := fun k hk x0 x1 => up_n x1 (up_n x0 (rfl))
  have RA4 : ∀ k, k < gN E + 260 + N → ad5 k = ad4 k := fun k hk => (RA5 k (by omega)).trans (hA5 k hk)
  have RF4 : ∀ k, k < gN E + 260 + N → k ≠ k0 → k ≠ (gN E + 260 + N) → (va_up (va_up (f5) (k0) (.inr (2, [.int (nI N), .ref (ad3 (gN E + 258)), .ref (ad4 (gN E + 259)), .ref (ad1 (gN E)), .ref (ad5 (gN E + 260 + N)), .ref (ad2 (gN E + 257)), .int (0), .int (0), .int ((1 : Int32)), .int ((-1 : Int32)), .int (0), .int (0)]))) (gN E + 260 + N) (oI (gDA E) (N) (flt (fun _ => 0) 0 (N) ((-1 : Int32))))) k = f4 k := fun k hk x0 x1 => (RF5 k (by omega) x0 x1).trans (hG5 k hk x0 x1)
  have RA3 : ∀ k, k < gN E + 259 → ad5 k = ad3 k := fun k hk => (RA4 k (by omega)).trans (hA4 k hk)
  have RF3 : ∀ k, k < gN E + 259 → k ≠ k0 → k ≠ (gN E + 260 + N) → (va_up (va_up (f5) (k0) (.inr (2, [.int (nI N), .ref (ad3 (gN E + 258)), .ref (ad4 (gN E + 259)), .ref (ad1 (gN E)), .ref (ad5 (gN E + 260 + N)), .ref (ad2 (gN E + 257)), .int (0), .int (0), .int ((1 : Int32)), .int ((-1 : Int32)), .int (0), .int (0)]))) (gN E + 260 + N) (oI (gDA E) (N) (flt (fun _ => 0) 0 (N) ((-1 : Int32))))) k = f3 k := fun k hk x0 x1 => (RF4 k (by omega) x0 x1).trans (hG4 k hk x0 x1)
  have RA2 : ∀ k, k < gN E + 258 → ad5 k = ad2 k := fun k hk => (RA3 k (by omega)).trans (hA3 k hk)
  have RF2 : ∀ k, k < gN E + 258 → k ≠ k0 → k ≠ (gN E + 260 + N) → (va_up (va_up (f5) (k0) (.inr (2, [.int (nI N), .ref (ad3 (gN E + 258)), .ref (ad4 (gN E + 259)), .ref (ad1 (gN E)), .ref (ad5 (gN E + 260 + N)), .ref (ad2 (gN E + 257)), .int (0), .int (0), .int ((1 : Int32)), .int ((-1 : Int32)), .int (0), .int (0)]))) (gN E + 260 + N) (oI (gDA E) (N) (flt (fun _ => 0) 0 (N) ((-1 : Int32))))) k = f2 k := fun k hk x0 x1 => (RF3 k (by omega) x0 x1).trans (hG3 k hk x0 x1)
  have RA1 : ∀ k, k < gN E + 257 → ad5 k = ad1 k := fun k hk => (RA2 k (by omega)).trans (hA2 k hk)
  have RF1 : ∀ k, k < gN E + 257 → k ≠ k0 → k ≠ (gN E + 260 + N) → (va_up (va_up (f5) (k0) (.inr (2, [.int (nI N), .ref (ad3 (gN E + 258)), .ref (ad4 (gN E + 259)), .ref (ad1 (gN E)), .ref (ad5 (gN E + 260 + N)), .ref (ad2 (gN E + 257)), .int (0), .int (0), .int ((1 : Int32)), .int ((-1 : Int32)), .int (0), .int (0)]))) (gN E + 260 + N) (oI (gDA E) (N) (flt (fun _ => 0) 0 (N) ((-1 : Int32))))) k = f1 k := fun k hk x0 x1 => (RF2 k (by omega) x0 x1).trans (hG2 k hk x0 x1)
  have RA0 : ∀ k, k < gN E → ad5 k = gAd E k := fun k hk => (RA1 k (by omega)).trans (hA1 k hk)
  have RF0 : ∀ k, k < gN E → k ≠ k0 → k ≠ (gN E + 260 + N) → (va_up (va_up (f5) (k0) (.inr (2, [.int (nI N), .ref (ad3 (gN E + 258)), .ref (ad4 (gN E + 259)), .ref (ad1 (gN E)), .ref (ad5 (gN E + 260 + N)), .ref (ad2 (gN E + 257)), .int (0), .int (0), .int ((1 : Int32)), .int ((-1 : Int32)), .int (0), .int (0)]))) (gN E + 260 + N) (oI (gDA E) (N) (flt (fun _ => 0) 0 (N) ((-1 : Int32))))) k = f k := fun k hk x0 x1 => (RF1 k (by omega) x0 x1).trans (hG1 k hk x0 x1)
  exact G.vretG (n' := gN E + 260 + N + 1) (by omega) (fun k hk => RA0 k hk) ⟨rfl, (fun k hk x0 => RF0 k (by omega) x0 (by omega)), (by rw [RA3 (gN E + 258) (by omega), RA4 (gN E + 259) (by omega), RA1 (gN E) (by omega), RA2 (gN E + 257) (by omega)]; exact up_n (by omega) (up_e)), (up_e), ((RF1 (gN E) (by omega) (by omega) (by omega)).trans (hX1.trans (by rw [rwB_e (n := gN E + 257) RA1 (by omega)]))), (fun i hi => (RF1 (gN E + 1 + i) (by omega) (by omega) (by omega)).trans (hY1 i hi)), ((RF2 (gN E + 257) (by omega) (by omega) (by omega)).trans hX2), ((RF3 (gN E + 258) (by omega) (by omega) (by omega)).trans hX3), ((RF4 (gN E + 259) (by omega) (by omega) (by omega)).trans (hX4.trans (by rw [rwB_e (n := gN E + 260 + N) RA4 (by omega)]))), (fun i hi => (RF4 (gN E + 260 + i) (by omega) (by omega) (by omega)).trans (hY4 i hi))⟩ (by (try dsimp only [gRm]); omega) (by (try dsimp only [gRm]); omega) (tbd tv_X2_init rfl)
def tb_X0_init : List (Nat × Instr × Nat) := [(0, .aload_n 0, 1), (1, .invokespecial 3, 3), (4, .aload_n 0, 1), (5, .aload_n 1, 1), (6, .putfield 9, 3), (9, .aload_n 0, 1), (10, .iload_n 2, 1), (11, .sipush 128, 3), (14, .multianewarray 15 2, 4), (18, .putfield 17, 3), (21, .aload_n 0, 1), (22, .iload_n 2, 1), (23, .newarray .int, 2), (25, .putfield 20, 3), (28, .aload_n 0, 1), (29, .iload_n 2, 1), (30, .newarray .int, 2), (32, .putfield 24, 3), (35, .aload_n 0, 1), (36, .aload_n 1, 1), (37, .getfield 27, 3), (40, .newarray .int, 2), (42, .putfield 33, 3), (45, .aload_n 0, 1), (46, .getfield 33, 3), (49, .iconst (-1), 1), (50, .invokestatic 36, 3), (53, .return_, 1)]
theorem tv_X0_init : Tv cX0_init tb_X0_init := by
  unfold Tv
  decide +kernel
theorem w_280 : Cond.methodLink "LedgerFiles$Buffer" 3 ⟨"java/lang/Object", "<init>", "()V"⟩ ∈ TB := tp_1 134 (by decide +kernel) rfl
theorem w_281 : Cond.classLink "LedgerFiles$Buffer" 15 "[[B" ∈ TB := tp_1 135 (by decide +kernel) rfl
theorem w_226 : Cond.fieldLink "LedgerFiles$Buffer" 27 "LedgerFiles$Disk" "blocks" "I" ∈ TB := tp_1 80 (by decide +kernel) rfl
theorem w_282 : Cond.methodLink "LedgerFiles$Buffer" 36 yJ7_fill_53178 ∈ TB := tp_1 136 (by decide +kernel) rfl
theorem cw_X0_36 : Cw RX0 36 yJ7_fill_53178 cJ7_fill_53178 4 none 2 := ⟨w_282, w_224, w_151, by decide +kernel, by decide +kernel, by decide⟩
set_option maxRecDepth 100000 in
set_option maxHeartbeats 4000000 in
theorem k_X0_init (E : gE) (f : Nat → va_E) (k0 : Nat) (hk0 : k0 < gN E) (h0 : f k0 = .inr (0, [.null, .null, .null, .null, .null, .int (0), .int (0), .int (0)])) (k1 : Nat) (hk1 : k1 < gN E) (hne : k1 ≠ k0) (N : Nat) (hN : N ≤ 1024) (rs : List Value) (hd : f k1 = .inr (2, .int (nI N) :: rs)) (B : Nat) (hB : B ≤ 64) : Cm E 3 (5 + B) (B + B * 128 + B + B + N + 6) yX0_init cX0_init 3 [.ref (gAd E (k0)), .ref (gAd E (k1)), .int (nI B)] f (fun n' ad' g => n' = gN E + 1 + B + 3 ∧ (∀ k, k < gN E → k ≠ k0 → g k = f k) ∧ g (k0) = .inr (0, [.ref (ad' (k1)), .ref (ad' (gN E)), .ref (ad' (gN E + 1 + B + 2)), .ref (ad' (gN E + 1 + B)), .ref (ad' (gN E + 1 + B + 1)), .int (0), .int (0), .int (0)]) ∧ g (gN E + 1 + B + 2) = oI (gDA E) (N) (flt (fun _ => 0) 0 (N) ((-1 : Int32))) ∧ g (gN E) = oR (gDA E) (B) (rwB ad' (gN E + 1) (B)) ∧ (∀ i, i < B → g (gN E + 1 + i) = oB (gDA E) 128 (fun _ => 0)) ∧ g (gN E + 1 + B) = oI (gDA E) (B) (fun _ => 0) ∧ g (gN E + 1 + B + 1) = oI (gDA E) (B) (fun _ => 0)) := by
  refine Cm.of (by decide) (Nat.le_of_ble_eq_true rfl) (fun sz => ?_)
  refine G.eql [(0, .ref (gAd E (k0))), (1, .ref (gAd E (k1))), (2, .int (nI B))] rfl ?_
  refine G.go tv_X0_init 1 1 [(0, .ref (gAd E (k0))), (1, .ref (gAd E (k1))), (2, .int (nI B))] [.ref (gAd E (k0))] rfl ?_
  refine G.objInit w_280 w_184 w_185 (Nat.le_of_ble_eq_true rfl) (Nat.le_of_ble_eq_true rfl) (tbd tv_X0_init rfl) ?_
  refine G.go tv_X0_init 2 6 [(0, .ref (gAd E (k0))), (1, .ref (gAd E (k1))), (2, .int (nI B))] [.ref (gAd E (k1)), .ref (gAd E (k0))] rfl ?_
  refine G.putFS cls_X0 (k0) 0 [.ref (gAd E (k1)), .null, .null, .null, .null, .int (0), .int (0), .int (0)] (by omega) (h0) rfl (by decide) rfl rfl rfl rfl rfl (Nat.le_of_ble_eq_true rfl) (tbd tv_X0_init rfl) w_283 ?_
  refine G.go tv_X0_init 3 14 [(0, .ref (gAd E (k0))), (1, .ref (gAd E (k1))), (2, .int (nI B))] [.int ((128 : Int32)), .int (nI B), .ref (gAd E (k0))] rfl ?_
  refine G.mkM (n0 := gN E) (ad0 := gAd E) (N' := B) (K' := 128) (gN E + 1 + B) (gN E + 1) (by omega) (by omega) w_281 w_206 (nI_pos (by omega)) (by decide) (nI_clamp (by omega)) rfl (by omega) (by omega) (by (try dsimp only [gRm]); omega) (by (try dsimp only [gRm]); omega) (tbd tv_X0_init rfl) (fun ad1 f1 hA1 hF1 hX1 hY1 => ?_)
  have hX1 : f1 (gN E) = oR (gDA E) (B) (rwB ad1 (gN E + 1) (B)) := hX1
  have hY1 : ∀ i, i < B → f1 (gN E + 1 + i) = oB (gDA E) 128 (fun _ => 0) := hY1
  have hA1 : ∀ k, k < gN E → ad1 k = gAd E k := hA1
  have hF1 := fun k (hk : k < gN E) => hF1 k hk
  have e1_k0_0 : aeq (ad1 (k0)) (gAd E (k0)) := (hA1 _ (by omega)).trans rfl
  have e1_k1_0 : aeq (ad1 (k1)) (gAd E (k1)) := (hA1 _ (by omega)).trans rfl
  have hG1 : ∀ k, k < gN E → k ≠ k0 → k ≠ (gN E + 1 + B + 2) → f1 k = f k := fun k hk x0 x1 => (hF1 k hk).trans (up_n x0 (rfl))
  have c1_k0 : f1 (k0) = .inr (0, [.ref (gAd E (k1)), .null, .null, .null, .null, .int (0), .int (0), .int (0)]) := (hF1 _ (by omega)).trans (up_e)
  have c1_k1 : f1 (k1) = .inr (2, .int (nI N) :: rs) := (hF1 _ (by omega)).trans (up_n (by omega) (hd))
  refine G.eqs [.ref (ad1 (gN E)), .ref (ad1 (k0))] (by rw [e1_k0_0.eq]) ?_
  refine G.putFS cls_X0 (k0) 1 [.ref (gAd E (k1)), .ref (ad1 (gN E)), .null, .null, .null, .int (0), .int (0), .int (0)] (show k0 < gN E + 1 + B by omega) (c1_k0) rfl (by decide) rfl rfl rfl rfl rfl (Nat.le_of_ble_eq_true rfl) (tbd tv_X0_init rfl) w_284 ?_
  refine G.go tv_X0_init 2 23 [(0, .ref (gAd E (k0))), (1, .ref (gAd E (k1))), (2, .int (nI B))] [.int (nI B), .ref (gAd E (k0))] rfl ?_
  refine G.mkI (n0 := gN E + 1 + B) (ad0 := ad1) (N' := B) (gN E + 1 + B + 1) (by omega) w_207 (nI_pos (by omega)) (nI_clamp (by omega)) (by omega) (by (try dsimp only [gRm]); omega) (by (try dsimp only [gRm]); omega) (tbd tv_X0_init rfl) (fun ad2 f2 hA2 hF2 hX2 => ?_)
  have hX2 : f2 (gN E + 1 + B) = oI (gDA E) (B) (fun _ => 0) := hX2
  have hA2 : ∀ k, k < gN E + 1 + B → ad2 k = ad1 k := hA2
  have hF2 := fun k (hk : k < gN E + 1 + B) => hF2 k hk
  have e2_k0_0 : aeq (ad2 (k0)) (gAd E (k0)) := (hA2 _ (by omega)).trans e1_k0_0.eq
  have e2_k1_0 : aeq (ad2 (k1)) (gAd E (k1)) := (hA2 _ (by omega)).trans e1_k1_0.eq
  have hG2 : ∀ k, k < gN E + 1 + B → k ≠ k0 → k ≠ (gN E + 1 + B + 2) → f2 k = f1 k := fun k hk x0 x1 => (hF2 k hk).trans (up_n x0 (rfl))
  have c2_k0 : f2 (k0) = .inr (0, [.ref (gAd E (k1)), .ref (ad1 (gN E)), .null, .null, .null, .int (0), .int (0), .int (0)]) := (hF2 _ (by omega)).trans (up_e)
  have c2_k1 : f2 (k1) = .inr (2, .int (nI N) :: rs) := (hF2 _ (by omega)).trans (up_n (by omega) (c1_k1))
  refine G.eqs [.ref (ad2 (gN E + 1 + B)), .ref (ad2 (k0))] (by rw [e2_k0_0.eq]) ?_
  refine G.putFS cls_X0 (k0) 3 [.ref (gAd E (k1)), .ref (ad1 (gN E)), .null, .ref (ad2 (gN E + 1 + B)), .null, .int (0), .int (0), .int (0)] (show k0 < gN E + 1 + B + 1 by omega) (c2_k0) rfl (by decide) rfl rfl rfl rfl rfl (Nat.le_of_ble_eq_true rfl) (tbd tv_X0_init rfl) w_288 ?_
  refine G.go tv_X0_init 2 30 [(0, .ref (gAd E (k0))), (1, .ref (gAd E (k1))), (2, .int (nI B))] [.int (nI B), .ref (gAd E (k0))] rfl ?_
  refine G.mkI (n0 := gN E + 1 + B + 1) (ad0 := ad2) (N' := B) (gN E + 1 + B + 2) (by omega) w_207 (nI_pos (by omega)) (nI_clamp (by omega)) (by omega) (by (try dsimp only [gRm]); omega) (by (try dsimp only [gRm]); omega) (tbd tv_X0_init rfl) (fun ad3 f3 hA3 hF3 hX3 => ?_)
  have hX3 : f3 (gN E + 1 + B + 1) = oI (gDA E) (B) (fun _ => 0) := hX3
  have hA3 : ∀ k, k < gN E + 1 + B + 1 → ad3 k = ad2 k := hA3
  have hF3 := fun k (hk : k < gN E + 1 + B + 1) => hF3 k hk
  have e3_k0_0 : aeq (ad3 (k0)) (gAd E (k0)) := (hA3 _ (by omega)).trans e2_k0_0.eq
  have e3_k1_0 : aeq (ad3 (k1)) (gAd E (k1)) := (hA3 _ (by omega)).trans e2_k1_0.eq
  have hG3 : ∀ k, k < gN E + 1 + B + 1 → k ≠ k0 → k ≠ (gN E + 1 + B + 2) → f3 k = f2 k := fun k hk x0 x1 => (hF3 k hk).trans (up_n x0 (rfl))
  have c3_k0 : f3 (k0) = .inr (0, [.ref (gAd E (k1)), .ref (ad1 (gN E)), .null, .ref (ad2 (gN E + 1 + B)), .null, .int (0), .int (0), .int (0)]) := (hF3 _ (by omega)).trans (up_e)
  have c3_k1 : f3 (k1) = .inr (2, .int (nI N) :: rs) := (hF3 _ (by omega)).trans (up_n (by omega) (c2_k1))
  refine G.eqs [.ref (ad3 (gN E + 1 + B + 1)), .ref (ad3 (k0))] (by rw [e3_k0_0.eq]) ?_
  refine G.putFS cls_X0 (k0) 4 [.ref (gAd E (k1)), .ref (ad1 (gN E)), .null, .ref (ad2 (gN E + 1 + B)), .ref (ad3 (gN E + 1 + B + 1)), .int (0), .int (0), .int (0)] (show k0 < gN E + 1 + B + 2 by omega) (c3_k0) rfl (by decide) rfl rfl rfl rfl rfl (Nat.le_of_ble_eq_true rfl) (tbd tv_X0_init rfl) w_289 ?_
  refine G.go tv_X0_init 2 37 [(0, .ref (gAd E (k0))), (1, .ref (gAd E (k1))), (2, .int (nI B))] [.ref (gAd E (k1)), .ref (gAd E (k0))] rfl ?_
  refine G.eqs [.ref (ad3 (k1)), .ref (gAd E (k0))] (by rw [e3_k1_0.eq]) ?_
  refine G.getf cls_X2 (k1) 0 (show k1 < gN E + 1 + B + 2 by omega) (up_n (by omega) (c3_k1)) (by decide) rfl (tbd tv_X0_init rfl) w_226 ?_
  refine G.mkI (n0 := gN E + 1 + B + 2) (ad0 := ad3) (N' := N) (gN E + 1 + B + 3) (by omega) w_207 (nI_pos (by omega)) (nI_clamp (by omega)) (by omega) (by (try dsimp only [gRm]); omega) (by (try dsimp only [gRm]); omega) (tbd tv_X0_init rfl) (fun ad4 f4 hA4 hF4 hX4 => ?_)
  have hX4 : f4 (gN E + 1 + B + 2) = oI (gDA E) (N) (fun _ => 0) := hX4
  have hA4 : ∀ k, k < gN E + 1 + B + 2 → ad4 k = ad3 k := hA4
  have hF4 := fun k (hk : k < gN E + 1 + B + 2) => hF4 k hk
  have e4_k0_0 : aeq (ad4 (k0)) (gAd E (k0)) := (hA4 _ (by omega)).trans e3_k0_0.eq
  have e4_k1_0 : aeq (ad4 (k1)) (gAd E (k1)) := (hA4 _ (by omega)).trans e3_k1_0.eq
  have hG4 : ∀ k, k < gN E + 1 + B + 2 → k ≠ k0 → k ≠ (gN E + 1 + B + 2) → f4 k = f3 k := fun k hk x0 x1 => (hF4 k hk).trans (up_n x0 (rfl))
  have c4_k0 : f4 (k0) = .inr (0, [.ref (gAd E (k1)), .ref (ad1 (gN E)), .null, .ref (ad2 (gN E + 1 + B)), .ref (ad3 (gN E + 1 + B + 1)), .int (0), .int (0), .int (0)]) := (hF4 _ (by omega)).trans (up_e)
  have c4_k1 : f4 (k1) = .inr (2, .int (nI N) :: rs) := (hF4 _ (by omega)).trans (up_n (by omega) (c3_k1))
  refine G.eqs [.ref (ad4 (gN E + 1 + B + 2)), .ref (ad4 (k0))] (by rw [e4_k0_0.eq]) ?_
  refine G.putFS cls_X0 (k0) 2 [.ref (gAd E (k1)), .ref (ad1 (gN E)), .ref (ad4 (gN E + 1 + B + 2)), .ref (ad2 (gN E + 1 + B)), .ref (ad3 (gN E + 1 + B + 1)), .int (0), .int (0), .int (0)] (show k0 < gN E + 1 + B + 3 by omega) (c4_k0) rfl (by decide) rfl rfl rfl rfl rfl (Nat.le_of_ble_eq_true rfl) (tbd tv_X0_init rfl) w_286 ?_
  refine G.go tv_X0_init 1 46 [(0, .ref (gAd E (k0))), (1, .ref (gAd E (k1))), (2, .int (nI B))] [.ref (gAd E (k0))] rfl ?_
  refine G.eqs [.ref (ad4 (k0))] (by rw [e4_k0_0.eq]) ?_
  refine G.getf cls_X0 (k0) 2 (show k0 < gN E + 1 + B + 3 by omega) (up_e) (by decide) rfl (tbd tv_X0_init rfl) w_286 ?_
  refine G.go tv_X0_init 1 50 [(0, .ref (gAd E (k0))), (1, .ref (gAd E (k1))), (2, .int (nI B))] [.int ((-1 : Int32)), .ref (ad4 (gN E + 1 + B + 2))] rfl ?_
  refine G.callSr [.ref (ad4 (gN E + 1 + B + 2)), .int ((-1 : Int32))] [] (c_J7_fill_53178 (E.1, E.2.1, E.2.2.1, gN E + 1 + B + 3, ad4) _ (gN E + 1 + B + 2) (N) (fun _ => 0) ((-1 : Int32)) (show gN E + 1 + B + 2 < gN E + 1 + B + 3 by omega) (up_n (by omega) (hX4)) (by omega)) cw_X0_36 w_223 (Nat.le_of_ble_eq_true rfl) (Nat.le_of_ble_eq_true rfl) (by (try dsimp only [gRm]); omega) (by (try dsimp only [gRm]); omega) rfl (Nat.le_of_ble_eq_true rfl) (tbd tv_X0_init rfl) (fun v g9 q9 => ?_) (fun _ _ h => h.elim)
  obtain ⟨rfl, rfl⟩ := q9
  refine G.eqs [] rfl ?_
  have RA4 : ∀ k, k < gN E + 1 + B + 3 → ad4 k = ad4 k := fun _ _ => rfl
  have RF4 : ∀ k, k < gN E + 1 + B + 3 → k ≠ k0 → k ≠ (gN E + 1 + B + 2) → (va_up (va_up (f4) (k0) (.inr (0, [.ref (gAd E (k1)), .ref (ad1 (gN E)), .ref (ad4 (gN E + 1 + B + 2)), .ref (ad2 (gN E + 1 + B)), .ref (ad3 (gN E + 1 + B + 1)), .int (0), .int (0), .int (0)]))) (gN E + 1 + B + 2) (oI (gDA E) (N) (flt (fun _ => 0) 0 (N) ((-1 : Int32))))) k = f4 k := fun k hk x0 x1 => up_n x1 (up_n x0 (rfl))
  have RA3 : ∀ k, k < gN E + 1 + B + 2 → ad4 k = ad3 k := fun k hk => (RA4 k (by omega)).trans (hA4 k hk)
  have RF3 : ∀ k, k < gN E + 1 + B + 2 → k ≠ k0 → k ≠ (gN E + 1 + B + 2) → (va_up (va_up (f4) (k0) (.inr (0, [.ref (gAd E (k1)), .ref (ad1 (gN E)), .ref (ad4 (gN E + 1 + B + 2)), .ref (ad2 (gN E + 1 + B)), .ref (ad3 (gN E + 1 + B + 1)), .int (0), .int (0), .int (0)]))) (gN E + 1 + B + 2) (oI (gDA E) (N) (flt (fun _ => 0) 0 (N) ((-1 : Int32))))) k = f3 k := fun k hk x0 x1 => (RF4 k (by omega) x0 x1).trans (hG4 k hk x0 x1)
  have RA2 : ∀ k, k < gN E + 1 + B + 1 → ad4 k = ad2 k := fun k hk => (RA3 k (by omega)).trans (hA3 k hk)
  have RF2 : ∀ k, k < gN E + 1 + B + 1 → k ≠ k0 → k ≠ (gN E + 1 + B + 2) → (va_up (va_up (f4) (k0) (.inr (0, [.ref (gAd E (k1)), .ref (ad1 (gN E)), .ref (ad4 (gN E + 1 + B + 2)), .ref (ad2 (gN E + 1 + B)), .ref (ad3 (gN E + 1 + B + 1)), .int (0), .int (0), .int (0)]))) (gN E + 1 + B + 2) (oI (gDA E) (N) (flt (fun _ => 0) 0 (N) ((-1 : Int32))))) k = f2 k := fun k hk x0 x1 => (RF3 k (by omega) x0 x1).trans (hG3 k hk x0 x1)
  have RA1 : ∀ k, k < gN E + 1 + B → ad4 k = ad1 k := fun k hk => (RA2 k (by omega)).trans (hA2 k hk)
  have RF1 : ∀ k, k < gN E + 1 + B → k ≠ k0 → k ≠ (gN E + 1 + B + 2) → (va_up (va_up (f4) (k0) (.inr (0, [.ref (gAd E (k1)), .ref (ad1 (gN E)), .ref (ad4 (gN E + 1 + B + 2)), .ref (ad2 (gN E + 1 + B)), .ref (ad3 (gN E + 1 + B + 1)), .int (0), .int (0), .int (0)]))) (gN E + 1 + B + 2) (oI (gDA E) (N) (flt (fun _ => 0) 0 (N) ((-1 : Int32))))) k = f1 k := fun k hk x0 x1 => (RF2 k (by omega) x0 x1).trans (hG2 k hk x0 x1)
  have RA0 : ∀ k, k < gN E → ad4 k = gAd E k := fun k hk => (RA1 k (by omega)).trans (hA1 k hk)
  have RF0 : ∀ k, k < gN E → k ≠ k0 → k ≠ (gN E + 1 + B + 2) → (va_up (va_up (f4) (k0) (.inr (0, [.ref (gAd E (k1)), .ref (ad1 (gN E)), .ref (ad4 (gN E + 1 + B + 2)), .ref (ad2 (gN E + 1 + B)), .ref (ad3 (gN E + 1 + B + 1)), .int (0), .int (0), .int (0)]))) (gN E + 1 + B + 2) (oI (gDA E) (N) (flt (fun _ => 0) 0 (N) ((-1 : Int32))))) k = f k := fun k hk x0 x1 => (RF1 k (by omega) x0 x1).trans (hG1 k hk x0 x1)
  exact G.vretG (n' := gN E + 1 + B + 3) (by omega) (fun k hk => RA0 k hk) ⟨rfl, (fun k hk x0 => RF0 k (by omega) x0 (by omega)), (by rw [RA0 (k1) (by omega), RA1 (gN E) (by omega), RA2 (gN E + 1 + B) (by omega), RA3 (gN E + 1 + B + 1) (by omega)]; exact up_n (by omega) (up_e)), (up_e), ((RF1 (gN E) (by omega) (by omega) (by omega)).trans (hX1.trans (by rw [rwB_e (n := gN E + 1 + B) RA1 (by omega)]))), (fun i hi => (RF1 (gN E + 1 + i) (by omega) (by omega) (by omega)).trans (hY1 i hi)), ((RF2 (gN E + 1 + B) (by omega) (by omega) (by omega)).trans hX2), ((RF3 (gN E + 1 + B + 1) (by omega) (by omega) (by omega)).trans hX3)⟩ (by (try dsimp only [gRm]); omega) (by (try dsimp only [gRm]); omega) (tbd tv_X0_init rfl)
def tb_X6_init : List (Nat × Instr × Nat) := [(0, .aload_n 0, 1), (1, .invokespecial 3, 3), (4, .aload_n 0, 1), (5, .bipush 40, 2), (7, .newarray .int, 2), (9, .putfield 9, 3), (12, .aload_n 0, 1), (13, .sipush 128, 3), (16, .newarray .byte, 2), (18, .putfield 15, 3), (21, .aload_n 0, 1), (22, .aload_n 1, 1), (23, .putfield 19, 3), (26, .aload_n 0, 1), (27, .aload_n 2, 1), (28, .putfield 23, 3), (31, .aload_n 0, 1), (32, .aload_n 1, 1), (33, .getfield 27, 3), (36, .newarray .int, 2), (38, .putfield 33, 3), (41, .aload_n 0, 1), (42, .getfield 33, 3), (45, .iconst (-1), 1), (46, .invokestatic 36, 3), (49, .return_, 1)]
theorem tv_X6_init : Tv cX6_init tb_X6_init := by
  unfold Tv
  decide +kernel
theorem w_317 : Cond.methodLink "LedgerFiles$Log" 3 ⟨"java/lang/Object", "<init>", "()V"⟩ ∈ TB := tp_1 171 (by decide +kernel) rfl
theorem w_225 : Cond.fieldLink "LedgerFiles$Log" 27 "LedgerFiles$Disk" "blocks" "I" ∈ TB := tp_1 79 (by decide +kernel) rfl
set_option maxRecDepth 100000 in
set_option maxHeartbeats 4000000 in
theorem k_X6_init (E : gE) (f : Nat → va_E) (k0 : Nat) (hk0 : k0 < gN E) (h0 : f k0 = .inr (6, [.null, .null, .null, .null, .null, .int (0), .int (0)])) (k1 : Nat) (hk1 : k1 < gN E) (k2 : Nat) (hk2 : k2 < gN E) (hne : k1 ≠ k0) (N : Nat) (hN : N ≤ 1024) (rs : List Value) (hd : f k1 = .inr (2, .int (nI N) :: rs)) : Cm E 3 (4) (40 + 128 + N + 6) yX6_init cX6_init 3 [.ref (gAd E (k0)), .ref (gAd E (k1)), .ref (gAd E (k2))] f (fun n' ad' g => n' = gN E + 3 ∧ (∀ k, k < gN E → k ≠ k0 → g k = f k) ∧ g (k0) = .inr (6, [.ref (ad' (k1)), .ref (ad' (k2)), .ref (ad' (gN E)), .ref (ad' (gN E + 1)), .ref (ad' (gN E + 2)), .int (0), .int (0)]) ∧ g (gN E + 2) = oI (gDA E) (N) (flt (fun _ => 0) 0 (N) ((-1 : Int32))) ∧ g (gN E) = oI (gDA E) (40) (fun _ => 0) ∧ g (gN E + 1) = oB (gDA E) (128) (fun _ => 0)) := by
  refine Cm.of (by decide) (Nat.le_of_ble_eq_true rfl) (fun sz => ?_)
  refine G.eql [(0, .ref (gAd E (k0))), (1, .ref (gAd E (k1))), (2, .ref (gAd E (k2)))] rfl ?_
  refine G.go tv_X6_init 1 1 [(0, .ref (gAd E (k0))), (1, .ref (gAd E (k1))), (2, .ref (gAd E (k2)))] [.ref (gAd E (k0))] rfl ?_
  refine G.objInit w_317 w_184 w_185 (Nat.le_of_ble_eq_true rfl) (Nat.le_of_ble_eq_true rfl) (tbd tv_X6_init rfl) ?_
  refine G.go tv_X6_init 2 7 [(0, .ref (gAd E (k0))), (1, .ref (gAd E (k1))), (2, .ref (gAd E (k2)))] [.int ((40 : Int32)), .ref (gAd E (k0))] rfl ?_
  refine G.mkI (n0 := gN E) (ad0 := gAd E) (N' := 40) (gN E + 1) (by omega) w_207 (by decide) rfl (by omega) (by (try dsimp only [gRm]); omega) (by (try dsimp only [gRm]); omega) (tbd tv_X6_init rfl) (fun ad1 f1 hA1 hF1 hX1 => ?_)
  have hX1 : f1 (gN E) = oI (gDA E) (40) (fun _ => 0) := hX1
  have hA1 : ∀ k, k < gN E → ad1 k = gAd E k := hA1
  have hF1 := fun k (hk : k < gN E) => hF1 k hk
  have e1_k0_0 : aeq (ad1 (k0)) (gAd E (k0)) := (hA1 _ (by omega)).trans rfl
  have e1_k1_0 : aeq (ad1 (k1)) (gAd E (k1)) := (hA1 _ (by omega)).trans rfl
  have hG1 : ∀ k, k < gN E → k ≠ k0 → k ≠ (gN E + 2) → f1 k = f k := fun k hk x0 x1 => (hF1 k hk).trans (rfl)
  have c1_k0 : f1 (k0) = .inr (6, [.null, .null, .null, .null, .null, .int (0), .int (0)]) := (hF1 _ (by omega)).trans (h0)
  have c1_k1 : f1 (k1) = .inr (2, .int (nI N) :: rs) := (hF1 _ (by omega)).trans (hd)
  refine G.eqs [.ref (ad1 (gN E)), .ref (ad1 (k0))] (by rw [e1_k0_0.eq]) ?_
  refine G.putFS cls_X6 (k0) 2 [.null, .null, .ref (ad1 (gN E)), .null, .null, .int (0), .int (0)] (show k0 < gN E + 1 by omega) (c1_k0) rfl (by decide) rfl rfl rfl rfl rfl (Nat.le_of_ble_eq_true rfl) (tbd tv_X6_init rfl) w_321 ?_
  refine G.go tv_X6_init 2 16 [(0, .ref (gAd E (k0))), (1, .ref (gAd E (k1))), (2, .ref (gAd E (k2)))] [.int ((128 : Int32)), .ref (gAd E (k0))] rfl ?_
  refine G.mkB (n0 := gN E + 1) (ad0 := ad1) (N' := 128) (gN E + 2) (by omega) w_206 (by decide) rfl (by omega) (by (try dsimp only [gRm]); omega) (by (try dsimp only [gRm]); omega) (tbd tv_X6_init rfl) (fun ad2 f2 hA2 hF2 hX2 => ?_)
  have hX2 : f2 (gN E + 1) = oB (gDA E) (128) (fun _ => 0) := hX2
  have hA2 : ∀ k, k < gN E + 1 → ad2 k = ad1 k := hA2
  have hF2 := fun k (hk : k < gN E + 1) => hF2 k hk
  have e2_k0_0 : aeq (ad2 (k0)) (gAd E (k0)) := (hA2 _ (by omega)).trans e1_k0_0.eq
  have e2_k1_0 : aeq (ad2 (k1)) (gAd E (k1)) := (hA2 _ (by omega)).trans e1_k1_0.eq
  have hG2 : ∀ k, k < gN E + 1 → k ≠ k0 → k ≠ (gN E + 2) → f2 k = f1 k := fun k hk x0 x1 => (hF2 k hk).trans (up_n x0 (rfl))
  have c2_k0 : f2 (k0) = .inr (6, [.null, .null, .ref (ad1 (gN E)), .null, .null, .int (0), .int (0)]) := (hF2 _ (by omega)).trans (up_e)
  have c2_k1 : f2 (k1) = .inr (2, .int (nI N) :: rs) := (hF2 _ (by omega)).trans (up_n (by omega) (c1_k1))
  refine G.eqs [.ref (ad2 (gN E + 1)), .ref (ad2 (k0))] (by rw [e2_k0_0.eq]) ?_
  refine G.putFS cls_X6 (k0) 3 [.null, .null, .ref (ad1 (gN E)), .ref (ad2 (gN E + 1)), .null, .int (0), .int (0)] (show k0 < gN E + 2 by omega) (c2_k0) rfl (by decide) rfl rfl rfl rfl rfl (Nat.le_of_ble_eq_true rfl) (tbd tv_X6_init rfl) w_322 ?_
  refine G.go tv_X6_init 2 23 [(0, .ref (gAd E (k0))), (1, .ref (gAd E (k1))), (2, .ref (gAd E (k2)))] [.ref (gAd E (k1)), .ref (gAd E (k0))] rfl ?_
  refine G.eqs [.ref (gAd E (k1)), .ref (ad2 (k0))] (by rw [e2_k0_0.eq]) ?_
  refine G.putFS cls_X6 (k0) 0 [.ref (gAd E (k1)), .null, .ref (ad1 (gN E)), .ref (ad2 (gN E + 1)), .null, .int (0), .int (0)] (show k0 < gN E + 2 by omega) (up_e) rfl (by decide) rfl rfl rfl rfl rfl (Nat.le_of_ble_eq_true rfl) (tbd tv_X6_init rfl) w_319 ?_
  refine G.go tv_X6_init 2 28 [(0, .ref (gAd E (k0))), (1, .ref (gAd E (k1))), (2, .ref (gAd E (k2)))] [.ref (gAd E (k2)), .ref (gAd E (k0))] rfl ?_
  refine G.eqs [.ref (gAd E (k2)), .ref (ad2 (k0))] (by rw [e2_k0_0.eq]) ?_
  refine G.putFS cls_X6 (k0) 1 [.ref (gAd E (k1)), .ref (gAd E (k2)), .ref (ad1 (gN E)), .ref (ad2 (gN E + 1)), .null, .int (0), .int (0)] (show k0 < gN E + 2 by omega) (up_e) rfl (by decide) rfl rfl rfl rfl rfl (Nat.le_of_ble_eq_true rfl) (tbd tv_X6_init rfl) w_320 ?_
  refine G.go tv_X6_init 2 33 [(0, .ref (gAd E (k0))), (1, .ref (gAd E (k1))), (2, .ref (gAd E (k2)))] [.ref (gAd E (k1)), .ref (gAd E (k0))] rfl ?_
  refine G.eqs [.ref (ad2 (k1)), .ref (gAd E (k0))] (by rw [e2_k1_0.eq]) ?_
  refine G.getf cls_X2 (k1) 0 (show k1 < gN E + 2 by omega) (up_n (by omega) (up_n (by omega) (up_n (by omega) (c2_k1)))) (by decide) rfl (tbd tv_X6_init rfl) w_225 ?_
  refine G.mkI (n0 := gN E + 2) (ad0 := ad2) (N' := N) (gN E + 3) (by omega) w_207 (nI_pos (by omega)) (nI_clamp (by omega)) (by omega) (by (try dsimp only [gRm]); omega) (by (try dsimp only [gRm]); omega) (tbd tv_X6_init rfl) (fun ad3 f3 hA3 hF3 hX3 => ?_)
  have hX3 : f3 (gN E + 2) = oI (gDA E) (N) (fun _ => 0) := hX3
  have hA3 : ∀ k, k < gN E + 2 → ad3 k = ad2 k := hA3
  have hF3 := fun k (hk : k < gN E + 2) => hF3 k hk
  have e3_k0_0 : aeq (ad3 (k0)) (gAd E (k0)) := (hA3 _ (by omega)).trans e2_k0_0.eq
  have e3_k1_0 : aeq (ad3 (k1)) (gAd E (k1)) := (hA3 _ (by omega)).trans e2_k1_0.eq
  have hG3 : ∀ k, k < gN E + 2 → k ≠ k0 → k ≠ (gN E + 2) → f3 k = f2 k := fun k hk x0 x1 => (hF3 k hk).trans (up_n x0 (up_n x0 (up_n x0 (rfl))))
  have c3_k0 : f3 (k0) = .inr (6, [.ref (gAd E (k1)), .ref (gAd E (k2)), .ref (ad1 (gN E)), .ref (ad2 (gN E + 1)), .null, .int (0), .int (0)]) := (hF3 _ (by omega)).trans (up_e)
  have c3_k1 : f3 (k1) = .inr (2, .int (nI N) :: rs) := (hF3 _ (by omega)).trans (up_n (by omega) (up_n (by omega) (up_n (by omega) (c2_k1))))
  refine G.eqs [.ref (ad3 (gN E + 2)), .ref (ad3 (k0))] (by rw [e3_k0_0.eq]) ?_
  refine G.putFS cls_X6 (k0) 4 [.ref (gAd E (k1)), .ref (gAd E (k2)), .ref (ad1 (gN E)), .ref (ad2 (gN E + 1)), .ref (ad3 (gN E + 2)), .int (0), .int (0)] (show k0 < gN E + 3 by omega) (c3_k0) rfl (by decide) rfl rfl rfl rfl rfl (Nat.le_of_ble_eq_true rfl) (tbd tv_X6_init rfl) w_323 ?_
  refine G.go tv_X6_init 1 42 [(0, .ref (gAd E (k0))), (1, .ref (gAd E (k1))), (2, .ref (gAd E (k2)))] [.ref (gAd E (k0))] rfl ?_
  refine G.eqs [.ref (ad3 (k0))] (by rw [e3_k0_0.eq]) ?_
  refine G.getf cls_X6 (k0) 4 (show k0 < gN E + 3 by omega) (up_e) (by decide) rfl (tbd tv_X6_init rfl) w_323 ?_
  refine G.go tv_X6_init 1 46 [(0, .ref (gAd E (k0))), (1, .ref (gAd E (k1))), (2, .ref (gAd E (k2)))] [.int ((-1 : Int32)), .ref (ad3 (gN E + 2))] rfl ?_
  refine G.callSr [.ref (ad3 (gN E + 2)), .int ((-1 : Int32))] [] (c_J7_fill_53178 (E.1, E.2.1, E.2.2.1, gN E + 3, ad3) _ (gN E + 2) (N) (fun _ => 0) ((-1 : Int32)) (show gN E + 2 < gN E + 3 by omega) (up_n (by omega) (hX3)) (by omega)) cw_X6_36 w_223 (Nat.le_of_ble_eq_true rfl) (Nat.le_of_ble_eq_true rfl) (by (try dsimp only [gRm]); omega) (by (try dsimp only [gRm]); omega) rfl (Nat.le_of_ble_eq_true rfl) (tbd tv_X6_init rfl) (fun v g9 q9 => ?_) (fun _ _ h => h.elim)
  obtain ⟨rfl, rfl⟩ := q9
  refine G.eqs [] rfl ?_
  have RA3 : ∀ k, k < gN E + 3 → ad3 k = ad3 k := fun _ _ => rfl
  have RF3 : ∀ k, k < gN E + 3 → k ≠ k0 → k ≠ (gN E + 2) → (va_up (va_up (f3) (k0) (.inr (6, [.ref (gAd E (k1)), .ref (gAd E (k2)), .ref (ad1 (gN E)), .ref (ad2 (gN E + 1)), .ref (ad3 (gN E + 2)), .int (0), .int (0)]))) (gN E + 2) (oI (gDA E) (N) (flt (fun _ => 0) 0 (N) ((-1 : Int32))))) k = f3 k := fun k hk x0 x1 => up_n x1 (up_n x0 (rfl))
  have RA2 : ∀ k, k < gN E + 2 → ad3 k = ad2 k := fun k hk => (RA3 k (by omega)).trans (hA3 k hk)
  have RF2 : ∀ k, k < gN E + 2 → k ≠ k0 → k ≠ (gN E + 2) → (va_up (va_up (f3) (k0) (.inr (6, [.ref (gAd E (k1)), .ref (gAd E (k2)), .ref (ad1 (gN E)), .ref (ad2 (gN E + 1)), .ref (ad3 (gN E + 2)), .int (0), .int (0)]))) (gN E + 2) (oI (gDA E) (N) (flt (fun _ => 0) 0 (N) ((-1 : Int32))))) k = f2 k := fun k hk x0 x1 => (RF3 k (by omega) x0 x1).trans (hG3 k hk x0 x1)
  have RA1 : ∀ k, k < gN E + 1 → ad3 k = ad1 k := fun k hk => (RA2 k (by omega)).trans (hA2 k hk)
  have RF1 : ∀ k, k < gN E + 1 → k ≠ k0 → k ≠ (gN E + 2) → (va_up (va_up (f3) (k0) (.inr (6, [.ref (gAd E (k1)), .ref (gAd E (k2)), .ref (ad1 (gN E)), .ref (ad2 (gN E + 1)), .ref (ad3 (gN E + 2)), .int (0), .int (0)]))) (gN E + 2) (oI (gDA E) (N) (flt (fun _ => 0) 0 (N) ((-1 : Int32))))) k = f1 k := fun k hk x0 x1 => (RF2 k (by omega) x0 x1).trans (hG2 k hk x0 x1)
  have RA0 : ∀ k, k < gN E → ad3 k = gAd E k := fun k hk => (RA1 k (by omega)).trans (hA1 k hk)
  have RF0 : ∀ k, k < gN E → k ≠ k0 → k ≠ (gN E + 2) → (va_up (va_up (f3) (k0) (.inr (6, [.ref (gAd E (k1)), .ref (gAd E (k2)), .ref (ad1 (gN E)), .ref (ad2 (gN E + 1)), .ref (ad3 (gN E + 2)), .int (0), .int (0)]))) (gN E + 2) (oI (gDA E) (N) (flt (fun _ => 0) 0 (N) ((-1 : Int32))))) k = f k := fun k hk x0 x1 => (RF1 k (by omega) x0 x1).trans (hG1 k hk x0 x1)
  exact G.vretG (n' := gN E + 3) (by omega) (fun k hk => RA0 k hk) ⟨rfl, (fun k hk x0 => RF0 k (by omega) x0 (by omega)), (by rw [RA0 (k1) (by omega), RA0 (k2) (by omega), RA1 (gN E) (by omega), RA2 (gN E + 1) (by omega)]; exact up_n (by omega) (up_e)), (up_e), ((RF1 (gN E) (by omega) (by omega) (by omega)).trans hX1), ((RF2 (gN E + 1) (by omega) (by omega) (by omega)).trans hX2)⟩ (by (try dsimp only [gRm]); omega) (by (try dsimp only [gRm]); omega) (tbd tv_X6_init rfl)
def tb_X9_init : List (Nat × Instr × Nat) := [(0, .aload_n 0, 1), (1, .invokespecial 3, 3), (4, .aload_n 0, 1), (5, .bipush 40, 2), (7, .newarray .int, 2), (9, .putfield 9, 3), (12, .aload_n 0, 1), (13, .aload_n 1, 1), (14, .putfield 15, 3), (17, .aload_n 0, 1), (18, .iload_n 3, 1), (19, .bipush 40, 2), (21, .imul, 1), (22, .sipush 128, 3), (25, .multianewarray 19 2, 4), (29, .putfield 21, 3), (32, .aload_n 0, 1), (33, .iload_n 3, 1), (34, .bipush 40, 2), (36, .imul, 1), (37, .newarray .int, 2), (39, .putfield 24, 3), (42, .aload_n 0, 1), (43, .iload_n 3, 1), (44, .newarray .int, 2), (46, .putfield 27, 3), (49, .aload_n 0, 1), (50, .iload_n 2, 1), (51, .newarray .int, 2), (53, .putfield 30, 3), (56, .aload_n 0, 1), (57, .getfield 30, 3), (60, .iconst (-1), 1), (61, .invokestatic 33, 3), (64, .aload_n 0, 1), (65, .iload_n 2, 1), (66, .newarray .boolean, 2), (68, .putfield 39, 3), (71, .aload_n 0, 1), (72, .iload_n 2, 1), (73, .newarray .int, 2), (75, .putfield 43, 3), (78, .return_, 1)]
theorem tv_X9_init : Tv cX9_init tb_X9_init := by
  unfold Tv
  decide +kernel
theorem w_350 : Cond.methodLink "LedgerFiles$Queue" 3 ⟨"java/lang/Object", "<init>", "()V"⟩ ∈ TB := tp_1 204 (by decide +kernel) rfl
theorem w_361 : Cond.fieldLink "LedgerFiles$Queue" 9 "LedgerFiles$Queue" "batch" "[I" ∈ TB := tp_1 215 (by decide +kernel) rfl
theorem w_353 : Cond.fieldLink "LedgerFiles$Queue" 15 "LedgerFiles$Queue" "log" "LLedgerFiles$Log;" ∈ TB := tp_1 207 (by decide +kernel) rfl
theorem w_351 : Cond.classLink "LedgerFiles$Queue" 19 "[[B" ∈ TB := tp_1 205 (by decide +kernel) rfl
theorem w_354 : Cond.fieldLink "LedgerFiles$Queue" 21 "LedgerFiles$Queue" "rows" "[[B" ∈ TB := tp_1 208 (by decide +kernel) rfl
theorem w_357 : Cond.fieldLink "LedgerFiles$Queue" 24 "LedgerFiles$Queue" "blockOf" "[I" ∈ TB := tp_1 211 (by decide +kernel) rfl
theorem w_365 : Cond.fieldLink "LedgerFiles$Queue" 27 "LedgerFiles$Queue" "ends" "[I" ∈ TB := tp_1 219 (by decide +kernel) rfl
theorem w_359 : Cond.fieldLink "LedgerFiles$Queue" 30 "LedgerFiles$Queue" "rowOf" "[I" ∈ TB := tp_1 213 (by decide +kernel) rfl
theorem w_352 : Cond.methodLink "LedgerFiles$Queue" 33 yJ7_fill_53178 ∈ TB := tp_1 206 (by decide +kernel) rfl
theorem cw_X9_33 : Cw RX9 33 yJ7_fill_53178 cJ7_fill_53178 4 none 2 := ⟨w_352, w_224, w_151, by decide +kernel, by decide +kernel, by decide⟩
theorem w_369 : Cond.fieldLink "LedgerFiles$Queue" 39 "LedgerFiles$Queue" "rests" "[Z" ∈ TB := tp_1 223 (by decide +kernel) rfl
theorem w_371 : Cond.fieldLink "LedgerFiles$Queue" 43 "LedgerFiles$Queue" "resting" "[I" ∈ TB := tp_1 225 (by decide +kernel) rfl
set_option maxRecDepth 100000 in
set_option maxHeartbeats 4000000 in
theorem k_X9_init (E : gE) (f : Nat → va_E) (k0 : Nat) (hk0 : k0 < gN E) (h0 : f k0 = .inr (9, [.null, .null, .null, .null, .null, .int (0), .null, .int (0), .int (0), .null, .null, .int (0), .int (0)])) (k1 : Nat) (hk1 : k1 < gN E) (N : Nat) (hN : N ≤ 1024) (gr : Nat) (hg : gr ≤ 16) : Cm E 3 (8 + gr * 40) (40 + (gr * 40 + gr * 40 * 128) + gr * 40 + gr + N + N + N + 6) yX9_init cX9_init 4 [.ref (gAd E (k0)), .ref (gAd E (k1)), .int (nI N), .int (nI gr)] f (fun n' ad' g => n' = gN E + 2 + (gr * 40) + 5 ∧ (∀ k, k < gN E → k ≠ k0 → g k = f k) ∧ g (k0) = .inr (9, [.ref (ad' (k1)), .ref (ad' (gN E + 1)), .ref (ad' (gN E + 2 + (gr * 40))), .ref (ad' (gN E + 2 + (gr * 40) + 2)), .ref (ad' (gN E)), .int (0), .ref (ad' (gN E + 2 + (gr * 40) + 1)), .int (0), .int (0), .ref (ad' (gN E + 2 + (gr * 40) + 3)), .ref (ad' (gN E + 2 + (gr * 40) + 4)), .int (0), .int (0)]) ∧ g (gN E + 2 + (gr * 40) + 2) = oI (gDA E) (N) (flt (fun _ => 0) 0 (N) ((-1 : Int32))) ∧ g (gN E) = oI (gDA E) (40) (fun _ => 0) ∧ g (gN E + 1) = oR (gDA E) (gr * 40) (rwB ad' (gN E + 2) (gr * 40)) ∧ (∀ i, i < (gr * 40) → g (gN E + 2 + i) = oB (gDA E) 128 (fun _ => 0)) ∧ g (gN E + 2 + (gr * 40)) = oI (gDA E) (gr * 40) (fun _ => 0) ∧ g (gN E + 2 + (gr * 40) + 1) = oI (gDA E) (gr) (fun _ => 0) ∧ g (gN E + 2 + (gr * 40) + 3) = oZ (gDA E) (N) (fun _ => 0) ∧ g (gN E + 2 + (gr * 40) + 4) = oI (gDA E) (N) (fun _ => 0)) := by
  refine Cm.of (by decide) (Nat.le_of_ble_eq_true rfl) (fun sz => ?_)
  refine G.eql [(0, .ref (gAd E (k0))), (1, .ref (gAd E (k1))), (2, .int (nI N)), (3, .int (nI gr))] rfl ?_
  refine G.go tv_X9_init 1 1 [(0, .ref (gAd E (k0))), (1, .ref (gAd E (k1))), (2, .int (nI N)), (3, .int (nI gr))] [.ref (gAd E (k0))] rfl ?_
  refine G.objInit w_350 w_184 w_185 (Nat.le_of_ble_eq_true rfl) (Nat.le_of_ble_eq_true rfl) (tbd tv_X9_init rfl) ?_
  refine G.go tv_X9_init 2 7 [(0, .ref (gAd E (k0))), (1, .ref (gAd E (k1))), (2, .int (nI N)), (3, .int (nI gr))] [.int ((40 : Int32)), .ref (gAd E (k0))] rfl ?_
  refine G.mkI (n0 := gN E) (ad0 := gAd E) (N' := 40) (gN E + 1) (by omega) w_207 (by decide) rfl (by omega) (by (try dsimp only [gRm]); omega) (by (try dsimp only [gRm]); omega) (tbd tv_X9_init rfl) (fun ad1 f1 hA1 hF1 hX1 => ?_)
  have hX1 : f1 (gN E) = oI (gDA E) (40) (fun _ => 0) := hX1
  have hA1 : ∀ k, k < gN E → ad1 k = gAd E k := hA1
  have hF1 := fun k (hk : k < gN E) => hF1 k hk
  have e1_k0_0 : aeq (ad1 (k0)) (gAd E (k0)) := (hA1 _ (by omega)).trans rfl
  have hG1 : ∀ k, k < gN E → k ≠ k0 → k ≠ (gN E + 2 + (gr * 40) + 2) → f1 k = f k := fun k hk x0 x1 => (hF1 k hk).trans (rfl)
  have c1_k0 : f1 (k0) = .inr (9, [.null, .null, .null, .null, .null, .int (0), .null, .int (0), .int (0), .null, .null, .int (0), .int (0)]) := (hF1 _ (by omega)).trans (h0)
  refine G.eqs [.ref (ad1 (gN E)), .ref (ad1 (k0))] (by rw [e1_k0_0.eq]) ?_
  refine G.putFS cls_X9 (k0) 4 [.null, .null, .null, .null, .ref (ad1 (gN E)), .int (0), .null, .int (0), .int (0), .null, .null, .int (0), .int (0)] (show k0 < gN E + 1 by omega) (c1_k0) rfl (by decide) rfl rfl rfl rfl rfl (Nat.le_of_ble_eq_true rfl) (tbd tv_X9_init rfl) w_361 ?_
  refine G.go tv_X9_init 2 14 [(0, .ref (gAd E (k0))), (1, .ref (gAd E (k1))), (2, .int (nI N)), (3, .int (nI gr))] [.ref (gAd E (k1)), .ref (gAd E (k0))] rfl ?_
  refine G.eqs [.ref (gAd E (k1)), .ref (ad1 (k0))] (by rw [e1_k0_0.eq]) ?_
  refine G.putFS cls_X9 (k0) 0 [.ref (gAd E (k1)), .null, .null, .null, .ref (ad1 (gN E)), .int (0), .null, .int (0), .int (0), .null, .null, .int (0), .int (0)] (show k0 < gN E + 1 by omega) (up_e) rfl (by decide) rfl rfl rfl rfl rfl (Nat.le_of_ble_eq_true rfl) (tbd tv_X9_init rfl) w_353 ?_
  refine G.go tv_X9_init 5 25 [(0, .ref (gAd E (k0))), (1, .ref (gAd E (k1))), (2, .int (nI N)), (3, .int (nI gr))] [.int ((128 : Int32)), .int ((nI gr) * ((40 : Int32))), .ref (gAd E (k0))] rfl ?_
  refine G.eqs [.int ((128 : Int32)), .int (nI (gr * 40)), .ref (gAd E (k0))] (by rw [show (40 : Int32) = nI 40 from rfl, pk_mul]) ?_
  refine G.mkM (n0 := gN E + 1) (ad0 := ad1) (N' := gr * 40) (K' := 128) (gN E + 2 + (gr * 40)) (gN E + 2) (by omega) (by omega) w_351 w_206 (nI_pos (by omega)) (by decide) (nI_clamp (by omega)) rfl (by omega) (by omega) (by (try dsimp only [gRm]); omega) (by (try dsimp only [gRm]); omega) (tbd tv_X9_init rfl) (fun ad2 f2 hA2 hF2 hX2 hY2 => ?_)
  have hX2 : f2 (gN E + 1) = oR (gDA E) (gr * 40) (rwB ad2 (gN E + 2) (gr * 40)) := hX2
  have hY2 : ∀ i, i < (gr * 40) → f2 (gN E + 2 + i) = oB (gDA E) 128 (fun _ => 0) := hY2
  have hA2 : ∀ k, k < gN E + 1 → ad2 k = ad1 k := hA2
  have hF2 := fun k (hk : k < gN E + 1) => hF2 k hk
  have e2_k0_0 : aeq (ad2 (k0)) (gAd E (k0)) := (hA2 _ (by omega)).trans e1_k0_0.eq
  have hG2 : ∀ k, k < gN E + 1 → k ≠ k0 → k ≠ (gN E + 2 + (gr * 40) + 2) → f2 k = f1 k := fun k hk x0 x1 => (hF2 k hk).trans (up_n x0 (up_n x0 (rfl)))
  have c2_k0 : f2 (k0) = .inr (9, [.ref (gAd E (k1)), .null, .null, .null, .ref (ad1 (gN E)), .int (0), .null, .int (0), .int (0), .null, .null, .int (0), .int (0)]) := (hF2 _ (by omega)).trans (up_e)
  refine G.eqs [.ref (ad2 (gN E + 1)), .ref (ad2 (k0))] (by rw [e2_k0_0.eq]) ?_
  refine G.putFS cls_X9 (k0) 1 [.ref (gAd E (k1)), .ref (ad2 (gN E + 1)), .null, .null, .ref (ad1 (gN E)), .int (0), .null, .int (0), .int (0), .null, .null, .int (0), .int (0)] (show k0 < gN E + 2 + (gr * 40) by omega) (c2_k0) rfl (by decide) rfl rfl rfl rfl rfl (Nat.le_of_ble_eq_true rfl) (tbd tv_X9_init rfl) w_354 ?_
  refine G.go tv_X9_init 4 37 [(0, .ref (gAd E (k0))), (1, .ref (gAd E (k1))), (2, .int (nI N)), (3, .int (nI gr))] [.int ((nI gr) * ((40 : Int32))), .ref (gAd E (k0))] rfl ?_
  refine G.eqs [.int (nI (gr * 40)), .ref (gAd E (k0))] (by rw [show (40 : Int32) = nI 40 from rfl, pk_mul]) ?_
  refine G.mkI (n0 := gN E + 2 + (gr * 40)) (ad0 := ad2) (N' := gr * 40) (gN E + 2 + (gr * 40) + 1) (by omega) w_207 (nI_pos (by omega)) (nI_clamp (by omega)) (by omega) (by (try dsimp only [gRm]); omega) (by (try dsimp only [gRm]); omega) (tbd tv_X9_init rfl) (fun ad3 f3 hA3 hF3 hX3 => ?_)
  have hX3 : f3 (gN E + 2 + (gr * 40)) = oI (gDA E) (gr * 40) (fun _ => 0) := hX3
  have hA3 : ∀ k, k < gN E + 2 + (gr * 40) → ad3 k = ad2 k := hA3
  have hF3 := fun k (hk : k < gN E + 2 + (gr * 40)) => hF3 k hk
  have e3_k0_0 : aeq (ad3 (k0)) (gAd E (k0)) := (hA3 _ (by omega)).trans e2_k0_0.eq
  have hG3 : ∀ k, k < gN E + 2 + (gr * 40) → k ≠ k0 → k ≠ (gN E + 2 + (gr * 40) + 2) → f3 k = f2 k := fun k hk x0 x1 => (hF3 k hk).trans (up_n x0 (rfl))
  have c3_k0 : f3 (k0) = .inr (9, [.ref (gAd E (k1)), .ref (ad2 (gN E + 1)), .null, .null, .ref (ad1 (gN E)), .int (0), .null, .int (0), .int (0), .null, .null, .int (0), .int (0)]) := (hF3 _ (by omega)).trans (up_e)
  refine G.eqs [.ref (ad3 (gN E + 2 + (gr * 40))), .ref (ad3 (k0))] (by rw [e3_k0_0.eq]) ?_
  refine G.putFS cls_X9 (k0) 2 [.ref (gAd E (k1)), .ref (ad2 (gN E + 1)), .ref (ad3 (gN E + 2 + (gr * 40))), .null, .ref (ad1 (gN E)), .int (0), .null, .int (0), .int (0), .null, .null, .int (0), .int (0)] (show k0 < gN E + 2 + (gr * 40) + 1 by omega) (c3_k0) rfl (by decide) rfl rfl rfl rfl rfl (Nat.le_of_ble_eq_true rfl) (tbd tv_X9_init rfl) w_357 ?_
  refine G.go tv_X9_init 2 44 [(0, .ref (gAd E (k0))), (1, .ref (gAd E (k1))), (2, .int (nI N)), (3, .int (nI gr))] [.int (nI gr), .ref (gAd E (k0))] rfl ?_
  refine G.mkI (n0 := gN E + 2 + (gr * 40) + 1) (ad0 := ad3) (N' := gr) (gN E + 2 + (gr * 40) + 2) (by omega) w_207 (nI_pos (by omega)) (nI_clamp (by omega)) (by omega) (by (try dsimp only [gRm]); omega) (by (try dsimp only [gRm]); omega) (tbd tv_X9_init rfl) (fun ad4 f4 hA4 hF4 hX4 => ?_)
  have hX4 : f4 (gN E + 2 + (gr * 40) + 1) = oI (gDA E) (gr) (fun _ => 0) := hX4
  have hA4 : ∀ k, k < gN E + 2 + (gr * 40) + 1 → ad4 k = ad3 k := hA4
  have hF4 := fun k (hk : k < gN E + 2 + (gr * 40) + 1) => hF4 k hk
  have e4_k0_0 : aeq (ad4 (k0)) (gAd E (k0)) := (hA4 _ (by omega)).trans e3_k0_0.eq
  have hG4 : ∀ k, k < gN E + 2 + (gr * 40) + 1 → k ≠ k0 → k ≠ (gN E + 2 + (gr * 40) + 2) → f4 k = f3 k := fun k hk x0 x1 => (hF4 k hk).trans (up_n x0 (rfl))
  have c4_k0 : f4 (k0) = .inr (9, [.ref (gAd E (k1)), .ref (ad2 (gN E + 1)), .ref (ad3 (gN E + 2 + (gr * 40))), .null, .ref (ad1 (gN E)), .int (0), .null, .int (0), .int (0), .null, .null, .int (0), .int (0)]) := (hF4 _ (by omega)).trans (up_e)
  refine G.eqs [.ref (ad4 (gN E + 2 + (gr * 40) + 1)), .ref (ad4 (k0))] (by rw [e4_k0_0.eq]) ?_
  refine G.putFS cls_X9 (k0) 6 [.ref (gAd E (k1)), .ref (ad2 (gN E + 1)), .ref (ad3 (gN E + 2 + (gr * 40))), .null, .ref (ad1 (gN E)), .int (0), .ref (ad4 (gN E + 2 + (gr * 40) + 1)), .int (0), .int (0), .null, .null, .int (0), .int (0)] (show k0 < gN E + 2 + (gr * 40) + 2 by omega) (c4_k0) rfl (by decide) rfl rfl rfl rfl rfl (Nat.le_of_ble_eq_true rfl) (tbd tv_X9_init rfl) w_365 ?_
  refine G.go tv_X9_init 2 51 [(0, .ref (gAd E (k0))), (1, .ref (gAd E (k1))), (2, .int (nI N)), (3, .int (nI gr))] [.int (nI N), .ref (gAd E (k0))] rfl ?_
  refine G.mkI (n0 := gN E + 2 + (gr * 40) + 2) (ad0 := ad4) (N' := N) (gN E + 2 + (gr * 40) + 3) (by omega) w_207 (nI_pos (by omega)) (nI_clamp (by omega)) (by omega) (by (try dsimp only [gRm]); omega) (by (try dsimp only [gRm]); omega) (tbd tv_X9_init rfl) (fun ad5 f5 hA5 hF5 hX5 => ?_)
  have hX5 : f5 (gN E + 2 + (gr * 40) + 2) = oI (gDA E) (N) (fun _ => 0) := hX5
  have hA5 : ∀ k, k < gN E + 2 + (gr * 40) + 2 → ad5 k = ad4 k := hA5
  have hF5 := fun k (hk : k < gN E + 2 + (gr * 40) + 2) => hF5 k hk
  have e5_k0_0 : aeq (ad5 (k0)) (gAd E (k0)) := (hA5 _ (by omega)).trans e4_k0_0.eq
  have hG5 : ∀ k, k < gN E + 2 + (gr * 40) + 2 → k ≠ k0 → k ≠ (gN E + 2 + (gr * 40) + 2) → f5 k = f4 k := fun k hk x0 x1 => (hF5 k hk).trans (up_n x0 (rfl))
  have c5_k0 : f5 (k0) = .inr (9, [.ref (gAd E (k1)), .ref (ad2 (gN E + 1)), .ref (ad3 (gN E + 2 + (gr * 40))), .null, .ref (ad1 (gN E)), .int (0), .ref (ad4 (gN E + 2 + (gr * 40) + 1)), .int (0), .int (0), .null, .null, .int (0), .int (0)]) := (hF5 _ (by omega)).trans (up_e)
  refine G.eqs [.ref (ad5 (gN E + 2 + (gr * 40) + 2)), .ref (ad5 (k0))] (by rw [e5_k0_0.eq]) ?_
  refine G.putFS cls_X9 (k0) 3 [.ref (gAd E (k1)), .ref (ad2 (gN E + 1)), .ref (ad3 (gN E + 2 + (gr * 40))), .ref (ad5 (gN E + 2 + (gr * 40) + 2)), .ref (ad1 (gN E)), .int (0), .ref (ad4 (gN E + 2 + (gr * 40) + 1)), .int (0), .int (0), .null, .null, .int (0), .int (0)] (show k0 < gN E + 2 + (gr * 40) + 3 by omega) (c5_k0) rfl (by decide) rfl rfl rfl rfl rfl (Nat.le_of_ble_eq_true rfl) (tbd tv_X9_init rfl) w_359 ?_
  refine G.go tv_X9_init 1 57 [(0, .ref (gAd E (k0))), (1, .ref (gAd E (k1))), (2, .int (nI N)), (3, .int (nI gr))] [.ref (gAd E (k0))] rfl ?_
  refine G.eqs [.ref (ad5 (k0))] (by rw [e5_k0_0.eq]) ?_
  refine G.getf cls_X9 (k0) 3 (show k0 < gN E + 2 + (gr * 40) + 3 by omega) (up_e) (by decide) rfl (tbd tv_X9_init rfl) w_359 ?_
  refine G.go tv_X9_init 1 61 [(0, .ref (gAd E (k0))), (1, .ref (gAd E (k1))), (2, .int (nI N)), (3, .int (nI gr))] [.int ((-1 : Int32)), .ref (ad5 (gN E + 2 + (gr * 40) + 2))] rfl ?_
  refine G.callSr [.ref (ad5 (gN E + 2 + (gr * 40) + 2)), .int ((-1 : Int32))] [] (c_J7_fill_53178 (E.1, E.2.1, E.2.2.1, gN E + 2 + (gr * 40) + 3, ad5) _ (gN E + 2 + (gr * 40) + 2) (N) (fun _ => 0) ((-1 : Int32)) (show gN E + 2 + (gr * 40) + 2 < gN E + 2 + (gr * 40) + 3 by omega) (up_n (by omega) (hX5)) (by omega)) cw_X9_33 w_223 (Nat.le_of_ble_eq_true rfl) (Nat.le_of_ble_eq_true rfl) (by (try dsimp only [gRm]); omega) (by (try dsimp only [gRm]); omega) rfl (Nat.le_of_ble_eq_true rfl) (tbd tv_X9_init rfl) (fun v g9 q9 => ?_) (fun _ _ h => h.elim)
  obtain ⟨rfl, rfl⟩ := q9
  refine G.eqs [] rfl ?_
  refine G.go tv_X9_init 2 66 [(0, .ref (gAd E (k0))), (1, .ref (gAd E (k1))), (2, .int (nI N)), (3, .int (nI gr))] [.int (nI N), .ref (gAd E (k0))] rfl ?_
  refine G.mkZ (n0 := gN E + 2 + (gr * 40) + 3) (ad0 := ad5) (N' := N) (gN E + 2 + (gr * 40) + 4) (by omega) w_402 (nI_pos (by omega)) (nI_clamp (by omega)) (by omega) (by (try dsimp only [gRm]); omega) (by (try dsimp only [gRm]); omega) (tbd tv_X9_init rfl) (fun ad6 f6 hA6 hF6 hX6 => ?_)
  have hX6 : f6 (gN E + 2 + (gr * 40) + 3) = oZ (gDA E) (N) (fun _ => 0) := hX6
  have hA6 : ∀ k, k < gN E + 2 + (gr * 40) + 3 → ad6 k = ad5 k := hA6
  have hF6 := fun k (hk : k < gN E + 2 + (gr * 40) + 3) => hF6 k hk
  have e6_k0_0 : aeq (ad6 (k0)) (gAd E (k0)) := (hA6 _ (by omega)).trans e5_k0_0.eq
  have e6_gN_E_2_gr_40_2_5 : aeq (ad6 (gN E + 2 + (gr * 40) + 2)) (ad5 (gN E + 2 + (gr * 40) + 2)) := (hA6 _ (by omega)).trans rfl
  have hG6 : ∀ k, k < gN E + 2 + (gr * 40) + 3 → k ≠ k0 → k ≠ (gN E + 2 + (gr * 40) + 2) → f6 k = f5 k := fun k hk x0 x1 => (hF6 k hk).trans (up_n x1 (up_n x0 (rfl)))
  have c6_k0 : f6 (k0) = .inr (9, [.ref (gAd E (k1)), .ref (ad2 (gN E + 1)), .ref (ad3 (gN E + 2 + (gr * 40))), .ref (ad5 (gN E + 2 + (gr * 40) + 2)), .ref (ad1 (gN E)), .int (0), .ref (ad4 (gN E + 2 + (gr * 40) + 1)), .int (0), .int (0), .null, .null, .int (0), .int (0)]) := (hF6 _ (by omega)).trans (up_n (by omega) (up_e))
  have c6_gN_E_2_gr_40_2 : f6 (gN E + 2 + (gr * 40) + 2) = oI (gDA E) (N) (flt (fun _ => 0) 0 (N) ((-1 : Int32))) := (hF6 _ (by omega)).trans (up_e)
  refine G.eqs [.ref (ad6 (gN E + 2 + (gr * 40) + 3)), .ref (ad6 (k0))] (by rw [e6_k0_0.eq]) ?_
  refine G.putFS cls_X9 (k0) 9 [.ref (gAd E (k1)), .ref (ad2 (gN E + 1)), .ref (ad3 (gN E + 2 + (gr * 40))), .ref (ad5 (gN E + 2 + (gr * 40) + 2)), .ref (ad1 (gN E)), .int (0), .ref (ad4 (gN E + 2 + (gr * 40) + 1)), .int (0), .int (0), .ref (ad6 (gN E + 2 + (gr * 40) + 3)), .null, .int (0), .int (0)] (show k0 < gN E + 2 + (gr * 40) + 4 by omega) (c6_k0) rfl (by decide) rfl rfl rfl rfl rfl (Nat.le_of_ble_eq_true rfl) (tbd tv_X9_init rfl) w_369 ?_
  refine G.go tv_X9_init 2 73 [(0, .ref (gAd E (k0))), (1, .ref (gAd E (k1))), (2, .int (nI N)), (3, .int (nI gr))] [.int (nI N), .ref (gAd E (k0))] rfl ?_
  refine G.mkI (n0 := gN E + 2 + (gr * 40) + 4) (ad0 := ad6) (N' := N) (gN E + 2 + (gr * 40) + 5) (by omega) w_207 (nI_pos (by omega)) (nI_clamp (by omega)) (by omega) (by (try dsimp only [gRm]); omega) (by (try dsimp only [gRm]); omega) (tbd tv_X9_init rfl) (fun ad7 f7 hA7 hF7 hX7 => ?_)
  have hX7 : f7 (gN E + 2 + (gr * 40) + 4) = oI (gDA E) (N) (fun _ => 0) := hX7
  have hA7 : ∀ k, k < gN E + 2 + (gr * 40) + 4 → ad7 k = ad6 k := hA7
  have hF7 := fun k (hk : k < gN E + 2 + (gr * 40) + 4) => hF7 k hk
  have e7_k0_0 : aeq (ad7 (k0)) (gAd E (k0)) := (hA7 _ (by omega)).trans e6_k0_0.eq
  have e7_gN_E_2_gr_40_2_5 : aeq (ad7 (gN E + 2 + (gr * 40) + 2)) (ad5 (gN E + 2 + (gr * 40) + 2)) := (hA7 _ (by omega)).trans e6_gN_E_2_gr_40_2_5.eq
  have hG7 : ∀ k, k < gN E + 2 + (gr * 40) + 4 → k ≠ k0 → k ≠ (gN E + 2 + (gr * 40) + 2) → f7 k = f6 k := fun k hk x0 x1 => (hF7 k hk).trans (up_n x0 (rfl))
  have c7_k0 : f7 (k0) = .inr (9, [.ref (gAd E (k1)), .ref (ad2 (gN E + 1)), .ref (ad3 (gN E + 2 + (gr * 40))), .ref (ad5 (gN E + 2 + (gr * 40) + 2)), .ref (ad1 (gN E)), .int (0), .ref (ad4 (gN E + 2 + (gr * 40) + 1)), .int (0), .int (0), .ref (ad6 (gN E + 2 + (gr * 40) + 3)), .null, .int (0), .int (0)]) := (hF7 _ (by omega)).trans (up_e)
  have c7_gN_E_2_gr_40_2 : f7 (gN E + 2 + (gr * 40) + 2) = oI (gDA E) (N) (flt (fun _ => 0) 0 (N) ((-1 : Int32))) := (hF7 _ (by omega)).trans (up_n (by omega) (c6_gN_E_2_gr_40_2))
  refine G.eqs [.ref (ad7 (gN E + 2 + (gr * 40) + 4)), .ref (ad7 (k0))] (by rw [e7_k0_0.eq]) ?_
  refine G.putFS cls_X9 (k0) 10 [.ref (gAd E (k1)), .ref (ad2 (gN E + 1)), .ref (ad3 (gN E + 2 + (gr * 40))), .ref (ad5 (gN E + 2 + (gr * 40) + 2)), .ref (ad1 (gN E)), .int (0), .ref (ad4 (gN E + 2 + (gr * 40) + 1)), .int (0), .int (0), .ref (ad6 (gN E + 2 + (gr * 40) + 3)), .ref (ad7 (gN E + 2 + (gr * 40) + 4)), .int (0), .int (0)] (show k0 < gN E + 2 + (gr * 40) + 5 by omega) (c7_k0) rfl (by decide) rfl rfl rfl rfl rfl (Nat.le_of_ble_eq_true rfl) (tbd tv_X9_init rfl) w_371 ?_
  have RA7 : ∀ k, k < gN E + 2 + (gr * 40) + 5 → ad7 k = ad7 k := fun _ _ => rfl
  have RF7 : ∀ k, k < gN E + 2 + (gr * 40) + 5 → k ≠ k0 → k ≠ (gN E + 2 + (gr * 40) + 2) → (va_up (f7) (k0) (.inr (9, [.ref (gAd E (k1)), .ref (ad2 (gN E + 1)), .ref (ad3 (gN E + 2 + (gr * 40))), .ref (ad5 (gN E + 2 + (gr * 40) + 2)), .ref (ad1 (gN E)), .int (0), .ref (ad4 (gN E + 2 + (gr * 40) + 1)), .int (0), .int (0), .ref (ad6 (gN E + 2 + (gr * 40) + 3)), .ref (ad7 (gN E + 2 + (gr * 40) + 4)), .int (0), .int (0)]))) k = f7 k := fun k hk x0 x1 => up_n x0 (rfl)
  have RA6 : ∀ k, k < gN E + 2 + (gr * 40) + 4 → ad7 k = ad6 k := fun k hk => (RA7 k (by omega)).trans (hA7 k hk)
  have RF6 : ∀ k, k < gN E + 2 + (gr * 40) + 4 → k ≠ k0 → k ≠ (gN E + 2 + (gr * 40) + 2) → (va_up (f7) (k0) (.inr (9, [.ref (gAd E (k1)), .ref (ad2 (gN E + 1)), .ref (ad3 (gN E + 2 + (gr * 40))), .ref (ad5 (gN E + 2 + (gr * 40) + 2)), .ref (ad1 (gN E)), .int (0), .ref (ad4 (gN E + 2 + (gr * 40) + 1)), .int (0), .int (0), .ref (ad6 (gN E + 2 + (gr * 40) + 3)), .ref (ad7 (gN E + 2 + (gr * 40) + 4)), .int (0), .int (0)]))) k = f6 k := fun k hk x0 x1 => (RF7 k (by omega) x0 x1).trans (hG7 k hk x0 x1)
  have RA5 : ∀ k, k < gN E + 2 + (gr * 40) + 3 → ad7 k = ad5 k := fun k hk => (RA6 k (by omega)).trans (hA6 k hk)
  have RF5 : ∀ k, k < gN E + 2 + (gr * 40) + 3 → k ≠ k0 → k ≠ (gN E + 2 + (gr * 40) + 2) → (va_up (f7) (k0) (.inr (9, [.ref (gAd E (k1)), .ref (ad2 (gN E + 1)), .ref (ad3 (gN E + 2 + (gr * 40))), .ref (ad5 (gN E + 2 + (gr * 40) + 2)), .ref (ad1 (gN E)), .int (0), .ref (ad4 (gN E + 2 + (gr * 40) + 1)), .int (0), .int (0), .ref (ad6 (gN E + 2 + (gr * 40) + 3)), .ref (ad7 (gN E + 2 + (gr * 40) + 4)), .int (0), .int (0)]))) k = f5 k := fun k hk x0 x1 => (RF6 k (by omega) x0 x1).trans (hG6 k hk x0 x1)
  have RA4 : ∀ k, k < gN E + 2 + (gr * 40) + 2 → ad7 k = ad4 k := fun k hk => (RA5 k (by omega)).trans (hA5 k hk)
  have RF4 : ∀ k, k < gN E + 2 + (gr * 40) + 2 → k ≠ k0 → k ≠ (gN E + 2 + (gr * 40) + 2) → (va_up (f7) (k0) (.inr (9, [.ref (gAd E (k1)), .ref (ad2 (gN E + 1)), .ref (ad3 (gN E + 2 + (gr * 40))), .ref (ad5 (gN E + 2 + (gr * 40) + 2)), .ref (ad1 (gN E)), .int (0), .ref (ad4 (gN E + 2 + (gr * 40) + 1)), .int (0), .int (0), .ref (ad6 (gN E + 2 + (gr * 40) + 3)), .ref (ad7 (gN E + 2 + (gr * 40) + 4)), .int (0), .int (0)]))) k = f4 k := fun k hk x0 x1 => (RF5 k (by omega) x0 x1).trans (hG5 k hk x0 x1)
  have RA3 : ∀ k, k < gN E + 2 + (gr * 40) + 1 → ad7 k = ad3 k := fun k hk => (RA4 k (by omega)).trans (hA4 k hk)
  have RF3 : ∀ k, k < gN E + 2 + (gr * 40) + 1 → k ≠ k0 → k ≠ (gN E + 2 + (gr * 40) + 2) → (va_up (f7) (k0) (.inr (9, [.ref (gAd E (k1)), .ref (ad2 (gN E + 1)), .ref (ad3 (gN E + 2 + (gr * 40))), .ref (ad5 (gN E + 2 + (gr * 40) + 2)), .ref (ad1 (gN E)), .int (0), .ref (ad4 (gN E + 2 + (gr * 40) + 1)), .int (0), .int (0), .ref (ad6 (gN E + 2 + (gr * 40) + 3)), .ref (ad7 (gN E + 2 + (gr * 40) + 4)), .int (0), .int (0)]))) k = f3 k := fun k hk x0 x1 => (RF4 k (by omega) x0 x1).trans (hG4 k hk x0 x1)
  have RA2 : ∀ k, k < gN E + 2 + (gr * 40) → ad7 k = ad2 k := fun k hk => (RA3 k (by omega)).trans (hA3 k hk)
  have RF2 : ∀ k, k < gN E + 2 + (gr * 40) → k ≠ k0 → k ≠ (gN E + 2 + (gr * 40) + 2) → (va_up (f7) (k0) (.inr (9, [.ref (gAd E (k1)), .ref (ad2 (gN E + 1)), .ref (ad3 (gN E + 2 + (gr * 40))), .ref (ad5 (gN E + 2 + (gr * 40) + 2)), .ref (ad1 (gN E)), .int (0), .ref (ad4 (gN E + 2 + (gr * 40) + 1)), .int (0), .int (0), .ref (ad6 (gN E + 2 + (gr * 40) + 3)), .ref (ad7 (gN E + 2 + (gr * 40) + 4)), .int (0), .int (0)]))) k = f2 k := fun k hk x0 x1 => (RF3 k (by omega) x0 x1).trans (hG3 k hk x0 x1)
  have RA1 : ∀ k, k < gN E + 1 → ad7 k = ad1 k := fun k hk => (RA2 k (by omega)).trans (hA2 k hk)
  have RF1 : ∀ k, k < gN E + 1 → k ≠ k0 → k ≠ (gN E + 2 + (gr * 40) + 2) → (va_up (f7) (k0) (.inr (9, [.ref (gAd E (k1)), .ref (ad2 (gN E + 1)), .ref (ad3 (gN E + 2 + (gr * 40))), .ref (ad5 (gN E + 2 + (gr * 40) + 2)), .ref (ad1 (gN E)), .int (0), .ref (ad4 (gN E + 2 + (gr * 40) + 1)), .int (0), .int (0), .ref (ad6 (gN E + 2 + (gr * 40) + 3)), .ref (ad7 (gN E + 2 + (gr * 40) + 4)), .int (0), .int (0)]))) k = f1 k := fun k hk x0 x1 => (RF2 k (by omega) x0 x1).trans (hG2 k hk x0 x1)
  have RA0 : ∀ k, k < gN E → ad7 k = gAd E k := fun k hk => (RA1 k (by omega)).trans (hA1 k hk)
  have RF0 : ∀ k, k < gN E → k ≠ k0 → k ≠ (gN E + 2 + (gr * 40) + 2) → (va_up (f7) (k0) (.inr (9, [.ref (gAd E (k1)), .ref (ad2 (gN E + 1)), .ref (ad3 (gN E + 2 + (gr * 40))), .ref (ad5 (gN E + 2 + (gr * 40) + 2)), .ref (ad1 (gN E)), .int (0), .ref (ad4 (gN E + 2 + (gr * 40) + 1)), .int (0), .int (0), .ref (ad6 (gN E + 2 + (gr * 40) + 3)), .ref (ad7 (gN E + 2 + (gr * 40) + 4)), .int (0), .int (0)]))) k = f k := fun k hk x0 x1 => (RF1 k (by omega) x0 x1).trans (hG1 k hk x0 x1)
  exact G.vretG (n' := gN E + 2 + (gr * 40) + 5) (by omega) (fun k hk => RA0 k hk) ⟨rfl, (fun k hk x0 => RF0 k (by omega) x0 (by omega)), (by rw [RA0 (k1) (by omega), RA2 (gN E + 1) (by omega), RA3 (gN E + 2 + (gr * 40)) (by omega), RA5 (gN E + 2 + (gr * 40) + 2) (by omega), RA1 (gN E) (by omega), RA4 (gN E + 2 + (gr * 40) + 1) (by omega), RA6 (gN E + 2 + (gr * 40) + 3) (by omega)]; exact up_e), (up_n (by omega) (c7_gN_E_2_gr_40_2)), ((RF1 (gN E) (by omega) (by omega) (by omega)).trans hX1), ((RF2 (gN E + 1) (by omega) (by omega) (by omega)).trans (hX2.trans (by rw [rwB_e (n := gN E + 2 + (gr * 40)) RA2 (by omega)]))), (fun i hi => (RF2 (gN E + 2 + i) (by omega) (by omega) (by omega)).trans (hY2 i hi)), ((RF3 (gN E + 2 + (gr * 40)) (by omega) (by omega) (by omega)).trans hX3), ((RF4 (gN E + 2 + (gr * 40) + 1) (by omega) (by omega) (by omega)).trans hX4), ((RF6 (gN E + 2 + (gr * 40) + 3) (by omega) (by omega) (by omega)).trans hX6), ((RF7 (gN E + 2 + (gr * 40) + 4) (by omega) (by omega) (by omega)).trans hX7)⟩ (by (try dsimp only [gRm]); omega) (by (try dsimp only [gRm]); omega) (tbd tv_X9_init rfl)
def tb_X10_init : List (Nat × Instr × Nat) := [(0, .aload_n 0, 1), (1, .invokespecial 3, 3), (4, .aload_n 0, 1), (5, .sipush 128, 3), (8, .newarray .byte, 2), (10, .putfield 9, 3), (13, .aload_n 0, 1), (14, .sipush 128, 3), (17, .newarray .byte, 2), (19, .putfield 15, 3), (22, .aload_n 0, 1), (23, .aload_n 1, 1), (24, .putfield 18, 3), (27, .aload_n 0, 1), (28, .aload_n 2, 1), (29, .putfield 22, 3), (32, .aload_n 0, 1), (33, .aload_n 3, 1), (34, .putfield 26, 3), (37, .aload_n 0, 1), (38, .aload 4, 2), (40, .putfield 30, 3), (43, .aload_n 0, 1), (44, .aload_n 1, 1), (45, .getfield 34, 3), (48, .sipush 128, 3), (51, .multianewarray 40 2, 4), (55, .putfield 42, 3), (58, .aload_n 0, 1), (59, .aload_n 1, 1), (60, .getfield 34, 3), (63, .newarray .boolean, 2), (65, .putfield 45, 3), (68, .aload_n 0, 1), (69, .aload_n 1, 1), (70, .getfield 34, 3), (73, .newarray .boolean, 2), (75, .putfield 49, 3), (78, .aload_n 0, 1), (79, .aload_n 1, 1), (80, .getfield 34, 3), (83, .newarray .int, 2), (85, .putfield 52, 3), (88, .return_, 1)]
theorem tv_X10_init : Tv cX10_init tb_X10_init := by
  unfold Tv
  decide +kernel
theorem w_408 : Cond.methodLink "LedgerFiles$View" 3 ⟨"java/lang/Object", "<init>", "()V"⟩ ∈ TB := tp_2 22 (by decide +kernel) rfl
theorem w_419 : Cond.fieldLink "LedgerFiles$View" 9 "LedgerFiles$View" "nowhere" "[B" ∈ TB := tp_2 33 (by decide +kernel) rfl
theorem w_420 : Cond.fieldLink "LedgerFiles$View" 15 "LedgerFiles$View" "scratch" "[B" ∈ TB := tp_2 34 (by decide +kernel) rfl
theorem w_410 : Cond.fieldLink "LedgerFiles$View" 18 "LedgerFiles$View" "disk" "LLedgerFiles$Disk;" ∈ TB := tp_2 24 (by decide +kernel) rfl
theorem w_411 : Cond.fieldLink "LedgerFiles$View" 22 "LedgerFiles$View" "buffer" "LLedgerFiles$Buffer;" ∈ TB := tp_2 25 (by decide +kernel) rfl
theorem w_412 : Cond.fieldLink "LedgerFiles$View" 26 "LedgerFiles$View" "log" "LLedgerFiles$Log;" ∈ TB := tp_2 26 (by decide +kernel) rfl
theorem w_413 : Cond.fieldLink "LedgerFiles$View" 30 "LedgerFiles$View" "queue" "LLedgerFiles$Queue;" ∈ TB := tp_2 27 (by decide +kernel) rfl
theorem w_228 : Cond.fieldLink "LedgerFiles$View" 34 "LedgerFiles$Disk" "blocks" "I" ∈ TB := tp_1 82 (by decide +kernel) rfl
theorem w_409 : Cond.classLink "LedgerFiles$View" 40 "[[B" ∈ TB := tp_2 23 (by decide +kernel) rfl
theorem w_414 : Cond.fieldLink "LedgerFiles$View" 42 "LedgerFiles$View" "made" "[[B" ∈ TB := tp_2 28 (by decide +kernel) rfl
theorem w_415 : Cond.fieldLink "LedgerFiles$View" 45 "LedgerFiles$View" "owned" "[Z" ∈ TB := tp_2 29 (by decide +kernel) rfl
theorem w_416 : Cond.fieldLink "LedgerFiles$View" 49 "LedgerFiles$View" "taken" "[Z" ∈ TB := tp_2 30 (by decide +kernel) rfl
theorem w_417 : Cond.fieldLink "LedgerFiles$View" 52 "LedgerFiles$View" "touched" "[I" ∈ TB := tp_2 31 (by decide +kernel) rfl
set_option maxRecDepth 100000 in
set_option maxHeartbeats 4000000 in
theorem k_X10_init (E : gE) (f : Nat → va_E) (k0 : Nat) (hk0 : k0 < gN E) (h0 : f k0 = .inr (10, [.null, .null, .null, .null, .null, .null, .null, .null, .int (0), .null, .null, .int (0)])) (k1 : Nat) (hk1 : k1 < gN E) (k2 : Nat) (hk2 : k2 < gN E) (k3 : Nat) (hk3 : k3 < gN E) (k4 : Nat) (hk4 : k4 < gN E) (hne : k1 ≠ k0) (N : Nat) (hN : N ≤ 1024) (rs : List Value) (hd : f k1 = .inr (2, .int (nI N) :: rs)) : Cm E 3 (7 + N) (128 + 128 + (N + N * 128) + N + N + N) yX10_init cX10_init 5 [.ref (gAd E (k0)), .ref (gAd E (k1)), .ref (gAd E (k2)), .ref (gAd E (k3)), .ref (gAd E (k4))] f (fun n' ad' g => n' = gN E + 3 + N + 3 ∧ (∀ k, k < gN E → k ≠ k0 → g k = f k) ∧ g (k0) = .inr (10, [.ref (ad' (k1)), .ref (ad' (k2)), .ref (ad' (k3)), .ref (ad' (k4)), .ref (ad' (gN E + 2)), .ref (ad' (gN E + 3 + N)), .ref (ad' (gN E + 3 + N + 1)), .ref (ad' (gN E + 3 + N + 2)), .int (0), .ref (ad' (gN E)), .ref (ad' (gN E + 1)), .int (0)]) ∧ g (gN E) = oB (gDA E) (128) (fun _ => 0) ∧ g (gN E + 1) = oB (gDA E) (128) (fun _ => 0) ∧ g (gN E + 2) = oR (gDA E) (N) (rwB ad' (gN E + 3) (N)) ∧ (∀ i, i < N → g (gN E + 3 + i) = oB (gDA E) 128 (fun _ => 0)) ∧ g (gN E + 3 + N) = oZ (gDA E) (N) (fun _ => 0) ∧ g (gN E + 3 + N + 1) = oZ (gDA E) (N) (fun _ => 0) ∧ g (gN E + 3 + N + 2) = oI (gDA E) (N) (fun _ => 0)) := by
  refine Cm.of (by decide) (Nat.le_of_ble_eq_true rfl) (fun sz => ?_)
  refine G.eql [(0, .ref (gAd E (k0))), (1, .ref (gAd E (k1))), (2, .ref (gAd E (k2))), (3, .ref (gAd E (k3))), (4, .ref (gAd E (k4)))] rfl ?_
  refine G.go tv_X10_init 1 1 [(0, .ref (gAd E (k0))), (1, .ref (gAd E (k1))), (2, .ref (gAd E (k2))), (3, .ref (gAd E (k3))), (4, .ref (gAd E (k4)))] [.ref (gAd E (k0))] rfl ?_
  refine G.objInit w_408 w_184 w_185 (Nat.le_of_ble_eq_true rfl) (Nat.le_of_ble_eq_true rfl) (tbd tv_X10_init rfl) ?_
  refine G.go tv_X10_init 2 8 [(0, .ref (gAd E (k0))), (1, .ref (gAd E (k1))), (2, .ref (gAd E (k2))), (3, .ref (gAd E (k3))), (4, .ref (gAd E (k4)))] [.int ((128 : Int32)), .ref (gAd E (k0))] rfl ?_
  refine G.mkB (n0 := gN E) (ad0 := gAd E) (N' := 128) (gN E + 1) (by omega) w_206 (by decide) rfl (by omega) (by (try dsimp only [gRm]); omega) (by (try dsimp only [gRm]); omega) (tbd tv_X10_init rfl) (fun ad1 f1 hA1 hF1 hX1 => ?_)
  have hX1 : f1 (gN E) = oB (gDA E) (128) (fun _ => 0) := hX1
  have hA1 : ∀ k, k < gN E → ad1 k = gAd E k := hA1
  have hF1 := fun k (hk : k < gN E) => hF1 k hk
  have e1_k0_0 : aeq (ad1 (k0)) (gAd E (k0)) := (hA1 _ (by omega)).trans rfl
  have e1_k1_0 : aeq (ad1 (k1)) (gAd E (k1)) := (hA1 _ (by omega)).trans rfl
  have hG1 : ∀ k, k < gN E → k ≠ k0 → f1 k = f k := fun k hk x0 => (hF1 k hk).trans (rfl)
  have c1_k0 : f1 (k0) = .inr (10, [.null, .null, .null, .null, .null, .null, .null, .null, .int (0), .null, .null, .int (0)]) := (hF1 _ (by omega)).trans (h0)
  have c1_k1 : f1 (k1) = .inr (2, .int (nI N) :: rs) := (hF1 _ (by omega)).trans (hd)
  refine G.eqs [.ref (ad1 (gN E)), .ref (ad1 (k0))] (by rw [e1_k0_0.eq]) ?_
  refine G.putFS cls_X10 (k0) 9 [.null, .null, .null, .null, .null, .null, .null, .null, .int (0), .ref (ad1 (gN E)), .null, .int (0)] (show k0 < gN E + 1 by omega) (c1_k0) rfl (by decide) rfl rfl rfl rfl rfl (Nat.le_of_ble_eq_true rfl) (tbd tv_X10_init rfl) w_419 ?_
  refine G.go tv_X10_init 2 17 [(0, .ref (gAd E (k0))), (1, .ref (gAd E (k1))), (2, .ref (gAd E (k2))), (3, .ref (gAd E (k3))), (4, .ref (gAd E (k4)))] [.int ((128 : Int32)), .ref (gAd E (k0))] rfl ?_
  refine G.mkB (n0 := gN E + 1) (ad0 := ad1) (N' := 128) (gN E + 2) (by omega) w_206 (by decide) rfl (by omega) (by (try dsimp only [gRm]); omega) (by (try dsimp only [gRm]); omega) (tbd tv_X10_init rfl) (fun ad2 f2 hA2 hF2 hX2 => ?_)
  have hX2 : f2 (gN E + 1) = oB (gDA E) (128) (fun _ => 0) := hX2
  have hA2 : ∀ k, k < gN E + 1 → ad2 k = ad1 k := hA2
  have hF2 := fun k (hk : k < gN E + 1) => hF2 k hk
  have e2_k0_0 : aeq (ad2 (k0)) (gAd E (k0)) := (hA2 _ (by omega)).trans e1_k0_0.eq
  have e2_k1_0 : aeq (ad2 (k1)) (gAd E (k1)) := (hA2 _ (by omega)).trans e1_k1_0.eq
  have hG2 : ∀ k, k < gN E + 1 → k ≠ k0 → f2 k = f1 k := fun k hk x0 => (hF2 k hk).trans (up_n x0 (rfl))
  have c2_k0 : f2 (k0) = .inr (10, [.null, .null, .null, .null, .null, .null, .null, .null, .int (0), .ref (ad1 (gN E)), .null, .int (0)]) := (hF2 _ (by omega)).trans (up_e)
  have c2_k1 : f2 (k1) = .inr (2, .int (nI N) :: rs) := (hF2 _ (by omega)).trans (up_n (by omega) (c1_k1))
  refine G.eqs [.ref (ad2 (gN E + 1)), .ref (ad2 (k0))] (by rw [e2_k0_0.eq]) ?_
  refine G.putFS cls_X10 (k0) 10 [.null, .null, .null, .null, .null, .null, .null, .null, .int (0), .ref (ad1 (gN E)), .ref (ad2 (gN E + 1)), .int (0)] (show k0 < gN E + 2 by omega) (c2_k0) rfl (by decide) rfl rfl rfl rfl rfl (Nat.le_of_ble_eq_true rfl) (tbd tv_X10_init rfl) w_420 ?_
  refine G.go tv_X10_init 2 24 [(0, .ref (gAd E (k0))), (1, .ref (gAd E (k1))), (2, .ref (gAd E (k2))), (3, .ref (gAd E (k3))), (4, .ref (gAd E (k4)))] [.ref (gAd E (k1)), .ref (gAd E (k0))] rfl ?_
  refine G.eqs [.ref (gAd E (k1)), .ref (ad2 (k0))] (by rw [e2_k0_0.eq]) ?_
  refine G.putFS cls_X10 (k0) 0 [.ref (gAd E (k1)), .null, .null, .null, .null, .null, .null, .null, .int (0), .ref (ad1 (gN E)), .ref (ad2 (gN E + 1)), .int (0)] (show k0 < gN E + 2 by omega) (up_e) rfl (by decide) rfl rfl rfl rfl rfl (Nat.le_of_ble_eq_true rfl) (tbd tv_X10_init rfl) w_410 ?_
  refine G.go tv_X10_init 2 29 [(0, .ref (gAd E (k0))), (1, .ref (gAd E (k1))), (2, .ref (gAd E (k2))), (3, .ref (gAd E (k3))), (4, .ref (gAd E (k4)))] [.ref (gAd E (k2)), .ref (gAd E (k0))] rfl ?_
  refine G.eqs [.ref (gAd E (k2)), .ref (ad2 (k0))] (by rw [e2_k0_0.eq]) ?_
  refine G.putFS cls_X10 (k0) 1 [.ref (gAd E (k1)), .ref (gAd E (k2)), .null, .null, .null, .null, .null, .null, .int (0), .ref (ad1 (gN E)), .ref (ad2 (gN E + 1)), .int (0)] (show k0 < gN E + 2 by omega) (up_e) rfl (by decide) rfl rfl rfl rfl rfl (Nat.le_of_ble_eq_true rfl) (tbd tv_X10_init rfl) w_411 ?_
  refine G.go tv_X10_init 2 34 [(0, .ref (gAd E (k0))), (1, .ref (gAd E (k1))), (2, .ref (gAd E (k2))), (3, .ref (gAd E (k3))), (4, .ref (gAd E (k4)))] [.ref (gAd E (k3)), .ref (gAd E (k0))] rfl ?_
  refine G.eqs [.ref (gAd E (k3)), .ref (ad2 (k0))] (by rw [e2_k0_0.eq]) ?_
  refine G.putFS cls_X10 (k0) 2 [.ref (gAd E (k1)), .ref (gAd E (k2)), .ref (gAd E (k3)), .null, .null, .null, .null, .null, .int (0), .ref (ad1 (gN E)), .ref (ad2 (gN E + 1)), .int (0)] (show k0 < gN E + 2 by omega) (up_e) rfl (by decide) rfl rfl rfl rfl rfl (Nat.le_of_ble_eq_true rfl) (tbd tv_X10_init rfl) w_412 ?_
  refine G.go tv_X10_init 2 40 [(0, .ref (gAd E (k0))), (1, .ref (gAd E (k1))), (2, .ref (gAd E (k2))), (3, .ref (gAd E (k3))), (4, .ref (gAd E (k4)))] [.ref (gAd E (k4)), .ref (gAd E (k0))] rfl ?_
  refine G.eqs [.ref (gAd E (k4)), .ref (ad2 (k0))] (by rw [e2_k0_0.eq]) ?_
  refine G.putFS cls_X10 (k0) 3 [.ref (gAd E (k1)), .ref (gAd E (k2)), .ref (gAd E (k3)), .ref (gAd E (k4)), .null, .null, .null, .null, .int (0), .ref (ad1 (gN E)), .ref (ad2 (gN E + 1)), .int (0)] (show k0 < gN E + 2 by omega) (up_e) rfl (by decide) rfl rfl rfl rfl rfl (Nat.le_of_ble_eq_true rfl) (tbd tv_X10_init rfl) w_413 ?_
  refine G.go tv_X10_init 2 45 [(0, .ref (gAd E (k0))), (1, .ref (gAd E (k1))), (2, .ref (gAd E (k2))), (3, .ref (gAd E (k3))), (4, .ref (gAd E (k4)))] [.ref (gAd E (k1)), .ref (gAd E (k0))] rfl ?_
  refine G.eqs [.ref (ad2 (k1)), .ref (gAd E (k0))] (by rw [e2_k1_0.eq]) ?_
  refine G.getf cls_X2 (k1) 0 (show k1 < gN E + 2 by omega) (up_n (by omega) (up_n (by omega) (up_n (by omega) (up_n (by omega) (up_n (by omega) (c2_k1)))))) (by decide) rfl (tbd tv_X10_init rfl) w_228 ?_
  refine G.go tv_X10_init 1 51 [(0, .ref (gAd E (k0))), (1, .ref (gAd E (k1))), (2, .ref (gAd E (k2))), (3, .ref (gAd E (k3))), (4, .ref (gAd E (k4)))] [.int ((128 : Int32)), .int (nI N), .ref (gAd E (k0))] rfl ?_
  refine G.mkM (n0 := gN E + 2) (ad0 := ad2) (N' := N) (K' := 128) (gN E + 3 + N) (gN E + 3) (by omega) (by omega) w_409 w_206 (nI_pos (by omega)) (by decide) (nI_clamp (by omega)) rfl (by omega) (by omega) (by (try dsimp only [gRm]); omega) (by (try dsimp only [gRm]); omega) (tbd tv_X10_init rfl) (fun ad3 f3 hA3 hF3 hX3 hY3 => ?_)
  have hX3 : f3 (gN E + 2) = oR (gDA E) (N) (rwB ad3 (gN E + 3) (N)) := hX3
  have hY3 : ∀ i, i < N → f3 (gN E + 3 + i) = oB (gDA E) 128 (fun _ => 0) := hY3
  have hA3 : ∀ k, k < gN E + 2 → ad3 k = ad2 k := hA3
  have hF3 := fun k (hk : k < gN E + 2) => hF3 k hk
  have e3_k0_0 : aeq (ad3 (k0)) (gAd E (k0)) := (hA3 _ (by omega)).trans e2_k0_0.eq
  have e3_k1_0 : aeq (ad3 (k1)) (gAd E (k1)) := (hA3 _ (by omega)).trans e2_k1_0.eq
  have hG3 : ∀ k, k < gN E + 2 → k ≠ k0 → f3 k = f2 k := fun k hk x0 => (hF3 k hk).trans (up_n x0 (up_n x0 (up_n x0 (up_n x0 (up_n x0 (rfl))))))
  have c3_k0 : f3 (k0) = .inr (10, [.ref (gAd E (k1)), .ref (gAd E (k2)), .ref (gAd E (k3)), .ref (gAd E (k4)), .null, .null, .null, .null, .int (0), .ref (ad1 (gN E)), .ref (ad2 (gN E + 1)), .int (0)]) := (hF3 _ (by omega)).trans (up_e)
  have c3_k1 : f3 (k1) = .inr (2, .int (nI N) :: rs) := (hF3 _ (by omega)).trans (up_n (by omega) (up_n (by omega) (up_n (by omega) (up_n (by omega) (up_n (by omega) (c2_k1))))))
  refine G.eqs [.ref (ad3 (gN E + 2)), .ref (ad3 (k0))] (by rw [e3_k0_0.eq]) ?_
  refine G.putFS cls_X10 (k0) 4 [.ref (gAd E (k1)), .ref (gAd E (k2)), .ref (gAd E (k3)), .ref (gAd E (k4)), .ref (ad3 (gN E + 2)), .null, .null, .null, .int (0), .ref (ad1 (gN E)), .ref (ad2 (gN E + 1)), .int (0)] (show k0 < gN E + 3 + N by omega) (c3_k0) rfl (by decide) rfl rfl rfl rfl rfl (Nat.le_of_ble_eq_true rfl) (tbd tv_X10_init rfl) w_414 ?_
  refine G.go tv_X10_init 2 60 [(0, .ref (gAd E (k0))), (1, .ref (gAd E (k1))), (2, .ref (gAd E (k2))), (3, .ref (gAd E (k3))), (4, .ref (gAd E (k4)))] [.ref (gAd E (k1)), .ref (gAd E (k0))] rfl ?_
  refine G.eqs [.ref (ad3 (k1)), .ref (gAd E (k0))] (by rw [e3_k1_0.eq]) ?_
  refine G.getf cls_X2 (k1) 0 (show k1 < gN E + 3 + N by omega) (up_n (by omega) (c3_k1)) (by decide) rfl (tbd tv_X10_init rfl) w_228 ?_
  refine G.mkZ (n0 := gN E + 3 + N) (ad0 := ad3) (N' := N) (gN E + 3 + N + 1) (by omega) w_402 (nI_pos (by omega)) (nI_clamp (by omega)) (by omega) (by (try dsimp only [gRm]); omega) (by (try dsimp only [gRm]); omega) (tbd tv_X10_init rfl) (fun ad4 f4 hA4 hF4 hX4 => ?_)
  have hX4 : f4 (gN E + 3 + N) = oZ (gDA E) (N) (fun _ => 0) := hX4
  have hA4 : ∀ k, k < gN E + 3 + N → ad4 k = ad3 k := hA4
  have hF4 := fun k (hk : k < gN E + 3 + N) => hF4 k hk
  have e4_k0_0 : aeq (ad4 (k0)) (gAd E (k0)) := (hA4 _ (by omega)).trans e3_k0_0.eq
  have e4_k1_0 : aeq (ad4 (k1)) (gAd E (k1)) := (hA4 _ (by omega)).trans e3_k1_0.eq
  have hG4 : ∀ k, k < gN E + 3 + N → k ≠ k0 → f4 k = f3 k := fun k hk x0 => (hF4 k hk).trans (up_n x0 (rfl))
  have c4_k0 : f4 (k0) = .inr (10, [.ref (gAd E (k1)), .ref (gAd E (k2)), .ref (gAd E (k3)), .ref (gAd E (k4)), .ref (ad3 (gN E + 2)), .null, .null, .null, .int (0), .ref (ad1 (gN E)), .ref (ad2 (gN E + 1)), .int (0)]) := (hF4 _ (by omega)).trans (up_e)
  have c4_k1 : f4 (k1) = .inr (2, .int (nI N) :: rs) := (hF4 _ (by omega)).trans (up_n (by omega) (c3_k1))
  refine G.eqs [.ref (ad4 (gN E + 3 + N)), .ref (ad4 (k0))] (by rw [e4_k0_0.eq]) ?_
  refine G.putFS cls_X10 (k0) 5 [.ref (gAd E (k1)), .ref (gAd E (k2)), .ref (gAd E (k3)), .ref (gAd E (k4)), .ref (ad3 (gN E + 2)), .ref (ad4 (gN E + 3 + N)), .null, .null, .int (0), .ref (ad1 (gN E)), .ref (ad2 (gN E + 1)), .int (0)] (show k0 < gN E + 3 + N + 1 by omega) (c4_k0) rfl (by decide) rfl rfl rfl rfl rfl (Nat.le_of_ble_eq_true rfl) (tbd tv_X10_init rfl) w_415 ?_
  refine G.go tv_X10_init 2 70 [(0, .ref (gAd E (k0))), (1, .ref (gAd E (k1))), (2, .ref (gAd E (k2))), (3, .ref (gAd E (k3))), (4, .ref (gAd E (k4)))] [.ref (gAd E (k1)), .ref (gAd E (k0))] rfl ?_
  refine G.eqs [.ref (ad4 (k1)), .ref (gAd E (k0))] (by rw [e4_k1_0.eq]) ?_
  refine G.getf cls_X2 (k1) 0 (show k1 < gN E + 3 + N + 1 by omega) (up_n (by omega) (c4_k1)) (by decide) rfl (tbd tv_X10_init rfl) w_228 ?_
  refine G.mkZ (n0 := gN E + 3 + N + 1) (ad0 := ad4) (N' := N) (gN E + 3 + N + 2) (by omega) w_402 (nI_pos (by omega)) (nI_clamp (by omega)) (by omega) (by (try dsimp only [gRm]); omega) (by (try dsimp only [gRm]); omega) (tbd tv_X10_init rfl) (fun ad5 f5 hA5 hF5 hX5 => ?_)
  have hX5 : f5 (gN E + 3 + N + 1) = oZ (gDA E) (N) (fun _ => 0) := hX5
  have hA5 : ∀ k, k < gN E + 3 + N + 1 → ad5 k = ad4 k := hA5
  have hF5 := fun k (hk : k < gN E + 3 + N + 1) => hF5 k hk
  have e5_k0_0 : aeq (ad5 (k0)) (gAd E (k0)) := (hA5 _ (by omega)).trans e4_k0_0.eq
  have e5_k1_0 : aeq (ad5 (k1)) (gAd E (k1)) := (hA5 _ (by omega)).trans e4_k1_0.eq
  have hG5 : ∀ k, k < gN E + 3 + N + 1 → k ≠ k0 → f5 k = f4 k := fun k hk x0 => (hF5 k hk).trans (up_n x0 (rfl))
  have c5_k0 : f5 (k0) = .inr (10, [.ref (gAd E (k1)), .ref (gAd E (k2)), .ref (gAd E (k3)), .ref (gAd E (k4)), .ref (ad3 (gN E + 2)), .ref (ad4 (gN E + 3 + N)), .null, .null, .int (0), .ref (ad1 (gN E)), .ref (ad2 (gN E + 1)), .int (0)]) := (hF5 _ (by omega)).trans (up_e)
  have c5_k1 : f5 (k1) = .inr (2, .int (nI N) :: rs) := (hF5 _ (by omega)).trans (up_n (by omega) (c4_k1))
  refine G.eqs [.ref (ad5 (gN E + 3 + N + 1)), .ref (ad5 (k0))] (by rw [e5_k0_0.eq]) ?_
  refine G.putFS cls_X10 (k0) 6 [.ref (gAd E (k1)), .ref (gAd E (k2)), .ref (gAd E (k3)), .ref (gAd E (k4)), .ref (ad3 (gN E + 2)), .ref (ad4 (gN E + 3 + N)), .ref (ad5 (gN E + 3 + N + 1)), .null, .int (0), .ref (ad1 (gN E)), .ref (ad2 (gN E + 1)), .int (0)] (show k0 < gN E + 3 + N + 2 by omega) (c5_k0) rfl (by decide) rfl rfl rfl rfl rfl (Nat.le_of_ble_eq_true rfl) (tbd tv_X10_init rfl) w_416 ?_
  refine G.go tv_X10_init 2 80 [(0, .ref (gAd E (k0))), (1, .ref (gAd E (k1))), (2, .ref (gAd E (k2))), (3, .ref (gAd E (k3))), (4, .ref (gAd E (k4)))] [.ref (gAd E (k1)), .ref (gAd E (k0))] rfl ?_
  refine G.eqs [.ref (ad5 (k1)), .ref (gAd E (k0))] (by rw [e5_k1_0.eq]) ?_
  refine G.getf cls_X2 (k1) 0 (show k1 < gN E + 3 + N + 2 by omega) (up_n (by omega) (c5_k1)) (by decide) rfl (tbd tv_X10_init rfl) w_228 ?_
  refine G.mkI (n0 := gN E + 3 + N + 2) (ad0 := ad5) (N' := N) (gN E + 3 + N + 3) (by omega) w_207 (nI_pos (by omega)) (nI_clamp (by omega)) (by omega) (by (try dsimp only [gRm]); omega) (by (try dsimp only [gRm]); omega) (tbd tv_X10_init rfl) (fun ad6 f6 hA6 hF6 hX6 => ?_)
  have hX6 : f6 (gN E + 3 + N + 2) = oI (gDA E) (N) (fun _ => 0) := hX6
  have hA6 : ∀ k, k < gN E + 3 + N + 2 → ad6 k = ad5 k := hA6
  have hF6 := fun k (hk : k < gN E + 3 + N + 2) => hF6 k hk
  have e6_k0_0 : aeq (ad6 (k0)) (gAd E (k0)) := (hA6 _ (by omega)).trans e5_k0_0.eq
  have e6_k1_0 : aeq (ad6 (k1)) (gAd E (k1)) := (hA6 _ (by omega)).trans e5_k1_0.eq
  have hG6 : ∀ k, k < gN E + 3 + N + 2 → k ≠ k0 → f6 k = f5 k := fun k hk x0 => (hF6 k hk).trans (up_n x0 (rfl))
  have c6_k0 : f6 (k0) = .inr (10, [.ref (gAd E (k1)), .ref (gAd E (k2)), .ref (gAd E (k3)), .ref (gAd E (k4)), .ref (ad3 (gN E + 2)), .ref (ad4 (gN E + 3 + N)), .ref (ad5 (gN E + 3 + N + 1)), .null, .int (0), .ref (ad1 (gN E)), .ref (ad2 (gN E + 1)), .int (0)]) := (hF6 _ (by omega)).trans (up_e)
  have c6_k1 : f6 (k1) = .inr (2, .int (nI N) :: rs) := (hF6 _ (by omega)).trans (up_n (by omega) (c5_k1))
  refine G.eqs [.ref (ad6 (gN E + 3 + N + 2)), .ref (ad6 (k0))] (by rw [e6_k0_0.eq]) ?_
  refine G.putFS cls_X10 (k0) 7 [.ref (gAd E (k1)), .ref (gAd E (k2)), .ref (gAd E (k3)), .ref (gAd E (k4)), .ref (ad3 (gN E + 2)), .ref (ad4 (gN E + 3 + N)), .ref (ad5 (gN E + 3 + N + 1)), .ref (ad6 (gN E + 3 + N + 2)), .int (0), .ref (ad1 (gN E)), .ref (ad2 (gN E + 1)), .int (0)] (show k0 < gN E + 3 + N + 3 by omega) (c6_k0) rfl (by decide) rfl rfl rfl rfl rfl (Nat.le_of_ble_eq_true rfl) (tbd tv_X10_init rfl) w_417 ?_
  have RA6 : ∀ k, k < gN E + 3 + N + 3 → ad6 k = ad6 k := fun _ _ => rfl
  have RF6 : ∀ k, k < gN E + 3 + N + 3 → k ≠ k0 → (va_up (f6) (k0) (.inr (10, [.ref (gAd E (k1)), .ref (gAd E (k2)), .ref (gAd E (k3)), .ref (gAd E (k4)), .ref (ad3 (gN E + 2)), .ref (ad4 (gN E + 3 + N)), .ref (ad5 (gN E + 3 + N + 1)), .ref (ad6 (gN E + 3 + N + 2)), .int (0), .ref (ad1 (gN E)), .ref (ad2 (gN E + 1)), .int (0)]))) k = f6 k := fun k hk x0 => up_n x0 (rfl)
  have RA5 : ∀ k, k < gN E + 3 + N + 2 → ad6 k = ad5 k := fun k hk => (RA6 k (by omega)).trans (hA6 k hk)
  have RF5 : ∀ k, k < gN E + 3 + N + 2 → k ≠ k0 → (va_up (f6) (k0) (.inr (10, [.ref (gAd E (k1)), .ref (gAd E (k2)), .ref (gAd E (k3)), .ref (gAd E (k4)), .ref (ad3 (gN E + 2)), .ref (ad4 (gN E + 3 + N)), .ref (ad5 (gN E + 3 + N + 1)), .ref (ad6 (gN E + 3 + N + 2)), .int (0), .ref (ad1 (gN E)), .ref (ad2 (gN E + 1)), .int (0)]))) k = f5 k := fun k hk x0 => (RF6 k (by omega) x0).trans (hG6 k hk x0)
  have RA4 : ∀ k, k < gN E + 3 + N + 1 → ad6 k = ad4 k := fun k hk => (RA5 k (by omega)).trans (hA5 k hk)
  have RF4 : ∀ k, k < gN E + 3 + N + 1 → k ≠ k0 → (va_up (f6) (k0) (.inr (10, [.ref (gAd E (k1)), .ref (gAd E (k2)), .ref (gAd E (k3)), .ref (gAd E (k4)), .ref (ad3 (gN E + 2)), .ref (ad4 (gN E + 3 + N)), .ref (ad5 (gN E + 3 + N + 1)), .ref (ad6 (gN E + 3 + N + 2)), .int (0), .ref (ad1 (gN E)), .ref (ad2 (gN E + 1)), .int (0)]))) k = f4 k := fun k hk x0 => (RF5 k (by omega) x0).trans (hG5 k hk x0)
  have RA3 : ∀ k, k < gN E + 3 + N → ad6 k = ad3 k := fun k hk => (RA4 k (by omega)).trans (hA4 k hk)
  have RF3 : ∀ k, k < gN E + 3 + N → k ≠ k0 → (va_up (f6) (k0) (.inr (10, [.ref (gAd E (k1)), .ref (gAd E (k2)), .ref (gAd E (k3)), .ref (gAd E (k4)), .ref (ad3 (gN E + 2)), .ref (ad4 (gN E + 3 + N)), .ref (ad5 (gN E + 3 + N + 1)), .ref (ad6 (gN E + 3 + N + 2)), .int (0), .ref (ad1 (gN E)), .ref (ad2 (gN E + 1)), .int (0)]))) k = f3 k := fun k hk x0 => (RF4 k (by omega) x0).trans (hG4 k hk x0)
  have RA2 : ∀ k, k < gN E + 2 → ad6 k = ad2 k := fun k hk => (RA3 k (by omega)).trans (hA3 k hk)
  have RF2 : ∀ k, k < gN E + 2 → k ≠ k0 → (va_up (f6) (k0) (.inr (10, [.ref (gAd E (k1)), .ref (gAd E (k2)), .ref (gAd E (k3)), .ref (gAd E (k4)), .ref (ad3 (gN E + 2)), .ref (ad4 (gN E + 3 + N)), .ref (ad5 (gN E + 3 + N + 1)), .ref (ad6 (gN E + 3 + N + 2)), .int (0), .ref (ad1 (gN E)), .ref (ad2 (gN E + 1)), .int (0)]))) k = f2 k := fun k hk x0 => (RF3 k (by omega) x0).trans (hG3 k hk x0)
  have RA1 : ∀ k, k < gN E + 1 → ad6 k = ad1 k := fun k hk => (RA2 k (by omega)).trans (hA2 k hk)
  have RF1 : ∀ k, k < gN E + 1 → k ≠ k0 → (va_up (f6) (k0) (.inr (10, [.ref (gAd E (k1)), .ref (gAd E (k2)), .ref (gAd E (k3)), .ref (gAd E (k4)), .ref (ad3 (gN E + 2)), .ref (ad4 (gN E + 3 + N)), .ref (ad5 (gN E + 3 + N + 1)), .ref (ad6 (gN E + 3 + N + 2)), .int (0), .ref (ad1 (gN E)), .ref (ad2 (gN E + 1)), .int (0)]))) k = f1 k := fun k hk x0 => (RF2 k (by omega) x0).trans (hG2 k hk x0)
  have RA0 : ∀ k, k < gN E → ad6 k = gAd E k := fun k hk => (RA1 k (by omega)).trans (hA1 k hk)
  have RF0 : ∀ k, k < gN E → k ≠ k0 → (va_up (f6) (k0) (.inr (10, [.ref (gAd E (k1)), .ref (gAd E (k2)), .ref (gAd E (k3)), .ref (gAd E (k4)), .ref (ad3 (gN E + 2)), .ref (ad4 (gN E + 3 + N)), .ref (ad5 (gN E + 3 + N + 1)), .ref (ad6 (gN E + 3 + N + 2)), .int (0), .ref (ad1 (gN E)), .ref (ad2 (gN E + 1)), .int (0)]))) k = f k := fun k hk x0 => (RF1 k (by omega) x0).trans (hG1 k hk x0)
  exact G.vretG (n' := gN E + 3 + N + 3) (by omega) (fun k hk => RA0 k hk) ⟨rfl, (fun k hk x0 => RF0 k (by omega) x0 ), (by rw [RA0 (k1) (by omega), RA0 (k2) (by omega), RA0 (k3) (by omega), RA0 (k4) (by omega), RA3 (gN E + 2) (by omega), RA4 (gN E + 3 + N) (by omega), RA5 (gN E + 3 + N + 1) (by omega), RA1 (gN E) (by omega), RA2 (gN E + 1) (by omega)]; exact up_e), ((RF1 (gN E) (by omega) (by omega)).trans hX1), ((RF2 (gN E + 1) (by omega) (by omega)).trans hX2), ((RF3 (gN E + 2) (by omega) (by omega)).trans (hX3.trans (by rw [rwB_e (n := gN E + 3 + N) RA3 (by omega)]))), (fun i hi => (RF3 (gN E + 3 + i) (by omega) (by omega)).trans (hY3 i hi)), ((RF4 (gN E + 3 + N) (by omega) (by omega)).trans hX4), ((RF5 (gN E + 3 + N + 1) (by omega) (by omega)).trans hX5), ((RF6 (gN E + 3 + N + 2) (by omega) (by omega)).trans hX6)⟩ (by (try dsimp only [gRm]); omega) (by (try dsimp only [gRm]); omega) (tbd tv_X10_init rfl)
