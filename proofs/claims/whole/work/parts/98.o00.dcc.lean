/-! ===== methods over the class's whole value ===== -/
section DCP
theorem CfV.rk {E : gE} {f : Nat → va_E} {N B gr : Nat} {C : CfT} {m i : Nat} (h : CfV E f N B gr C) (hm : m < 5) (hi : i < rcn N B gr m) : f (rba N B m + i) = oB (gDA E) 128 (cR C m i) := by
  match m, hm with
  | 0, _ => exact h.r0 i hi
  | 1, _ => exact h.r1 i hi
  | 2, _ => exact h.r2 i hi
  | 3, _ => exact h.r3 i hi
  | 4, _ => exact h.r4 i hi
theorem CfV.rkw {E : gE} {f : Nat → va_E} {N B gr : Nat} {C : CfT} {m i : Nat} (h : CfV E f N B gr C) (hm : m < 5) (hi : i < rcn N B gr m) (x : Nat → Int32) : CfV E (va_up f (rba N B m + i) (oB (gDA E) 128 x)) N B gr (sR C m i x) := by
  match m, hm with
  | 0, _ => exact h.w0 i hi x
  | 1, _ => exact h.w1 i hi x
  | 2, _ => exact h.w2 i hi x
  | 3, _ => exact h.w3 i hi x
  | 4, _ => exact h.w4 i hi x
theorem rk_lt {E : gE} {N B gr : Nat} {m i : Nat} (hz : CfZ E N B gr) (hm : m < 5) (hi : i < rcn N B gr m) : rba N B m + i < gN E := by
  obtain ⟨z1, z2, z3, z4, z5, z6, z7⟩ := id hz
  match m, hm with
  | 0, _ => have : i < 256 := hi; show 94 + i < _; omega
  | 1, _ => have : i < N := hi; show 350 + i < _; omega
  | 2, _ => have : i < N := hi; show 350 + N + i < _; omega
  | 3, _ => have : i < B := hi; show 350 + 2 * N + i < _; omega
  | 4, _ => have : i < gr * 40 := hi; show 350 + 2 * N + B + i < _; omega
theorem rk_ge {N B : Nat} (m i : Nat) : 94 ≤ rba N B m + i := by
  match m with
  | 0 => show 94 ≤ 94 + i; omega
  | 1 => show 94 ≤ 350 + i; omega
  | 2 => show 94 ≤ 350 + N + i; omega
  | 3 => show 94 ≤ 350 + 2 * N + i; omega
  | _ + 4 => show 94 ≤ 350 + 2 * N + B + i; omega
def ixB {α : Type} (n : Nat) (i : Int32) (k : Nat → Option α) : Option α := if i < 0 ∨ n ≤ i.toNatClampNeg then none else k i.toNatClampNeg
theorem ixB_s {α : Type} {n : Nat} {i : Int32} {k : Nat → Option α} {r : α} (h : ixB n i k = some r) : ∃ t, t < n ∧ i = nI t ∧ k t = some r := by
  unfold ixB at h
  split at h
  · cases h
  · next q => exact ⟨_, (vp_nI q).1, (vp_nI q).2, h⟩
noncomputable def cpR {α : Type} (C : CfT) (m i m2 i2 : Nat) (k : CfT → Option α) : Option α := gd (Byt (cR C m i)) (k (sR C m2 i2 (va_cpy (cR C m i) (cR C m2 i2) 0 0 128)))
theorem cpR_s {α : Type} {C : CfT} {m i m2 i2 : Nat} {k : CfT → Option α} {r : α} (h : cpR C m i m2 i2 k = some r) : ∃ C2, Byt (cR C m i) ∧ C2 = sR C m2 i2 (va_cpy (cR C m i) (cR C m2 i2) 0 0 128) ∧ k C2 = some r := by
  obtain ⟨h1, h2⟩ := gd_s h
  exact ⟨_, h1, rfl, h2⟩
def nm64 {α : Type} (x : Int64) (k : Int64 → Option α) : Option α := k x
theorem nm64_s {α : Type} {x : Int64} {k : Int64 → Option α} {r : α} (h : nm64 x k = some r) : ∃ v, x = v ∧ k v = some r := ⟨x, rfl, h⟩
end DCP
def q_X2_row (N B gr : Nat) (C : CfT) (a0 : Int32) : Option ((Nat × Nat)) := ld (cA C 6) N a0 (fun v1 => if v1 = ((-1 : Int32)) then ixB N a0 (fun t4 => some ((1, t4))) else ld (cA C 6) N a0 (fun v2 => ixB 256 v2 (fun t3 => some ((0, t3)))))
set_option maxRecDepth 100000 in
set_option maxHeartbeats 4000000 in
theorem kq_X2_row (E : gE) (f : Nat → va_E) (N B gr : Nat) (C : CfT) (hz : CfZ E N B gr) (h : CfV E f N B gr C) (a0 : Int32) (r : Nat × Nat) (hr : q_X2_row N B gr C a0 = some r) : Ct E 1 yX2_row cX2_row 2 (some (.array .byte)) [.ref (gAd E (2)), .int (a0)] f (fun v g => (v = some (.ref (gAd E (rba N B r.1 + r.2))) ∧ r.1 < 5 ∧ r.2 < rcn N B gr r.1) ∧ CfV E g N B gr C ∧ Fr CfK f g, fun _ _ => False) := by
  obtain ⟨z1, z2, z3, z4, z5, z6, z7⟩ := id hz
  refine Ct.of (by decide) (Nat.le_of_ble_eq_true rfl) (fun sz => ?_)
  refine G.eql [(0, .ref (gAd E (2))), (1, .int (a0))] rfl ?_
  unfold q_X2_row at hr
  refine G.go tv_X2_row 1 1 [(0, .ref (gAd E (2))), (1, .int (a0))] [.ref (gAd E (2))] rfl ?_
  refine G.getf cls_X2 (2) 4 (by omega) (h.q2) (by decide) rfl (tbd tv_X2_row rfl) w_236 ?_
  refine G.go tv_X2_row 1 5 [(0, .ref (gAd E (2))), (1, .int (a0))] [.int (a0), .ref (gAd E (6))] rfl ?_
  obtain ⟨v1, b1, e1, hr⟩ := ld_s hr
  refine G.ialdE (6) (by omega) (h.q6) b1 e1 (tbd tv_X2_row rfl) ?_
  refine G.go tv_X2_row 1 7 [(0, .ref (gAd E (2))), (1, .int (a0))] [.int ((-1 : Int32)), .int (v1)] rfl ?_
  refine G.cmp_ne 19 (tbd tv_X2_row rfl) (by decide) (fun c7 => ?_) (fun c7 => ?_)
  · replace hr := ite_f c7 hr
    refine G.go tv_X2_row 1 20 [(0, .ref (gAd E (2))), (1, .int (a0))] [.ref (gAd E (2))] rfl ?_
    refine G.getf cls_X2 (2) 3 (by omega) (h.q2) (by decide) rfl (tbd tv_X2_row rfl) w_234 ?_
    refine G.go tv_X2_row 1 24 [(0, .ref (gAd E (2))), (1, .int (a0))] [.ref (gAd E (2)), .ref (gAd E (5))] rfl ?_
    refine G.getf cls_X2 (2) 4 (by omega) (h.q2) (by decide) rfl (tbd tv_X2_row rfl) w_236 ?_
    refine G.go tv_X2_row 1 28 [(0, .ref (gAd E (2))), (1, .int (a0))] [.int (a0), .ref (gAd E (6)), .ref (gAd E (5))] rfl ?_
    obtain ⟨v2, b2, e2, hr⟩ := ld_s hr
    refine G.ialdE (6) (by omega) (h.q6) b2 e2 (tbd tv_X2_row rfl) ?_
    obtain ⟨t3, b3, e3, hr⟩ := ixB_s hr
    refine G.eqs [.int (nI t3), .ref (gAd E (5))] (by rw [e3]) ?_
    refine G.aaldN (5) t3 (by omega) (h.q5) b3 (by omega) (tbd tv_X2_row rfl) ?_
    have hm3 : 0 < 5 ∧ t3 < rcn N B gr 0 := ⟨by decide, b3⟩
    refine G.eqs [.ref (gAd E (rba N B 0 + t3))] (by rw [rwA_at b3]; rfl) ?_
    cases hr
    exact G.aret rfl ⟨⟨rfl, hm3⟩, h, Fr.rf⟩ (tbd tv_X2_row rfl)
  · replace hr := ite_t c7 hr
    refine G.go tv_X2_row 1 11 [(0, .ref (gAd E (2))), (1, .int (a0))] [.ref (gAd E (2))] rfl ?_
    refine G.getf cls_X2 (2) 2 (by omega) (h.q2) (by decide) rfl (tbd tv_X2_row rfl) w_232 ?_
    refine G.go tv_X2_row 1 15 [(0, .ref (gAd E (2))), (1, .int (a0))] [.int (a0), .ref (gAd E (4))] rfl ?_
    obtain ⟨t4, b4, e4, hr⟩ := ixB_s hr
    refine G.eqs [.int (nI t4), .ref (gAd E (4))] (by rw [e4]) ?_
    refine G.aaldN (4) t4 (by omega) (h.q4) b4 (by omega) (tbd tv_X2_row rfl) ?_
    have hm4 : 1 < 5 ∧ t4 < rcn N B gr 1 := ⟨by decide, b4⟩
    refine G.eqs [.ref (gAd E (rba N B 1 + t4))] (by rw [rwA_at b4]; rfl) ?_
    refine G.go tv_X2_row 1 30 [(0, .ref (gAd E (2))), (1, .int (a0))] [.ref (gAd E (rba N B 1 + t4))] rfl ?_
    cases hr
    exact G.aret rfl ⟨⟨rfl, hm4⟩, h, Fr.rf⟩ (tbd tv_X2_row rfl)
def q_X2_two (N B gr : Nat) (C : CfT) (m0 j0 : Nat) (a1 : Int32) : Option (Int32) := if a1 < 0 then some ((0 : Int32)) else if ((a1) + ((1 : Int32))) < (nI 128) then ld (cR C m0 j0) 128 a1 (fun v5 => ld (cR C m0 j0) 128 ((a1) + ((1 : Int32))) (fun v6 => some (((v5) &&& ((255 : Int32))) ||| (((v6) &&& ((255 : Int32))) <<< (((8 : Int32)) &&& 31))))) else some ((0 : Int32))
set_option maxRecDepth 100000 in
set_option maxHeartbeats 4000000 in
theorem kq_X2_two (E : gE) (f : Nat → va_E) (N B gr : Nat) (C : CfT) (hz : CfZ E N B gr) (h : CfV E f N B gr C) (m0 j0 : Nat) (hm0_ : m0 < 5 ∧ j0 < rcn N B gr m0) (a1 : Int32) (r : Int32) (hr : q_X2_two N B gr C m0 j0 a1 = some r) : Ct E 1 yX2_two cX2_two 2 (some .int) [.ref (gAd E (rba N B m0 + j0)), .int (a1)] f (fun v g => v = some (.int r) ∧ CfV E g N B gr C ∧ Fr CfK f g, fun _ _ => False) := by
  obtain ⟨z1, z2, z3, z4, z5, z6, z7⟩ := id hz
  refine Ct.of (by decide) (Nat.le_of_ble_eq_true rfl) (fun sz => ?_)
  refine G.eql [(0, .ref (gAd E (rba N B m0 + j0))), (1, .int (a1))] rfl ?_
  unfold q_X2_two at hr
  refine G.go tv_X2_two 1 1 [(0, .ref (gAd E (rba N B m0 + j0))), (1, .int (a1))] [.int (a1)] rfl ?_
  refine G.if_lt 12 (tbd tv_X2_two rfl) (by decide) (fun c1 => ?_) (fun c1 => ?_)
  · replace hr := ite_t c1 hr
    refine G.go tv_X2_two 2 36 [(0, .ref (gAd E (rba N B m0 + j0))), (1, .int (a1))] [.int ((0 : Int32))] rfl ?_
    cases hr
    exact G.iret rfl rfl ⟨rfl, h, Fr.rf⟩ (tbd tv_X2_two rfl)
  · replace hr := ite_f c1 hr
    refine G.go tv_X2_two 4 8 [(0, .ref (gAd E (rba N B m0 + j0))), (1, .int (a1))] [.ref (gAd E (rba N B m0 + j0)), .int ((a1) + ((1 : Int32)))] rfl ?_
    refine G.alen (rba N B m0 + j0) 0 (rk_lt hz hm0_.1 hm0_.2) (h.rk hm0_.1 hm0_.2) rfl rfl (tbd tv_X2_two rfl) ?_
    refine G.eqs [.int (nI 128), .int ((a1) + ((1 : Int32)))] rfl ?_
    refine G.cmp_lt 16 (tbd tv_X2_two rfl) (by decide) (fun c9 => ?_) (fun c9 => ?_)
    · replace hr := ite_t c9 hr
      refine G.go tv_X2_two 2 18 [(0, .ref (gAd E (rba N B m0 + j0))), (1, .int (a1))] [.int (a1), .ref (gAd E (rba N B m0 + j0))] rfl ?_
      obtain ⟨v5, b5, e5, hr⟩ := ld_s hr
      refine G.baldE (rba N B m0 + j0) (rk_lt hz hm0_.1 hm0_.2) (h.rk hm0_.1 hm0_.2) b5 e5 (tbd tv_X2_two rfl) ?_
      refine G.go tv_X2_two 6 27 [(0, .ref (gAd E (rba N B m0 + j0))), (1, .int (a1))] [.int ((a1) + ((1 : Int32))), .ref (gAd E (rba N B m0 + j0)), .int ((v5) &&& ((255 : Int32)))] rfl ?_
      obtain ⟨v6, b6, e6, hr⟩ := ld_s hr
      refine G.baldE (rba N B m0 + j0) (rk_lt hz hm0_.1 hm0_.2) (h.rk hm0_.1 hm0_.2) b6 e6 (tbd tv_X2_two rfl) ?_
      refine G.go tv_X2_two 5 36 [(0, .ref (gAd E (rba N B m0 + j0))), (1, .int (a1))] [.int (((v5) &&& ((255 : Int32))) ||| (((v6) &&& ((255 : Int32))) <<< (((8 : Int32)) &&& 31)))] rfl ?_
      cases hr
      exact G.iret rfl rfl ⟨rfl, h, Fr.rf⟩ (tbd tv_X2_two rfl)
    · replace hr := ite_f c9 hr
      refine G.go tv_X2_two 2 36 [(0, .ref (gAd E (rba N B m0 + j0))), (1, .int (a1))] [.int ((0 : Int32))] rfl ?_
      cases hr
      exact G.iret rfl rfl ⟨rfl, h, Fr.rf⟩ (tbd tv_X2_two rfl)
def q_X2_four (N B gr : Nat) (C : CfT) (m0 j0 : Nat) (a1 : Int32) : Option (Int32) := bnd (q_X2_two N B gr C m0 j0 a1) (fun v7 => bnd (q_X2_two N B gr C m0 j0 ((a1) + ((2 : Int32)))) (fun v8 => some ((v7) ||| ((v8) <<< (((16 : Int32)) &&& 31)))))
set_option maxRecDepth 100000 in
set_option maxHeartbeats 4000000 in
theorem kq_X2_four (E : gE) (f : Nat → va_E) (N B gr : Nat) (C : CfT) (hz : CfZ E N B gr) (h : CfV E f N B gr C) (m0 j0 : Nat) (hm0_ : m0 < 5 ∧ j0 < rcn N B gr m0) (a1 : Int32) (r : Int32) (hr : q_X2_four N B gr C m0 j0 a1 = some r) : Ct E 2 yX2_four cX2_four 2 (some .int) [.ref (gAd E (rba N B m0 + j0)), .int (a1)] f (fun v g => v = some (.int r) ∧ CfV E g N B gr C ∧ Fr CfK f g, fun _ _ => False) := by
  obtain ⟨z1, z2, z3, z4, z5, z6, z7⟩ := id hz
  refine Ct.of (by decide) (Nat.le_of_ble_eq_true rfl) (fun sz => ?_)
  refine G.eql [(0, .ref (gAd E (rba N B m0 + j0))), (1, .int (a1))] rfl ?_
  unfold q_X2_four at hr
  refine G.go tv_X2_four 2 2 [(0, .ref (gAd E (rba N B m0 + j0))), (1, .int (a1))] [.int (a1), .ref (gAd E (rba N B m0 + j0))] rfl ?_
  obtain ⟨v7, hv7, hr⟩ := bnd_s hr
  refine G.callS [.ref (gAd E (rba N B m0 + j0)), .int (a1)] [] (kq_X2_two E _ N B gr C hz h m0 j0 hm0_ a1 _ hv7) cw_X2_46 w_878 (Nat.le_of_ble_eq_true rfl) rfl (Nat.le_of_ble_eq_true rfl) (tbd tv_X2_four rfl) (fun v7w f7 q7 => ?_) (fun _ _ h => h.elim)
  obtain ⟨rfl, ha7, fa7⟩ := q7
  refine G.eqs [.int (v7)] rfl ?_
  refine G.go tv_X2_four 4 9 [(0, .ref (gAd E (rba N B m0 + j0))), (1, .int (a1))] [.int ((a1) + ((2 : Int32))), .ref (gAd E (rba N B m0 + j0)), .int (v7)] rfl ?_
  obtain ⟨v8, hv8, hr⟩ := bnd_s hr
  refine G.callS [.ref (gAd E (rba N B m0 + j0)), .int ((a1) + ((2 : Int32)))] [.int (v7)] (kq_X2_two E _ N B gr C hz ha7 m0 j0 hm0_ ((a1) + ((2 : Int32))) _ hv8) cw_X2_46 w_878 (Nat.le_of_ble_eq_true rfl) rfl (Nat.le_of_ble_eq_true rfl) (tbd tv_X2_four rfl) (fun v8w f8 q8 => ?_) (fun _ _ h => h.elim)
  obtain ⟨rfl, ha8, fa8⟩ := q8
  refine G.eqs [.int (v8), .int (v7)] rfl ?_
  refine G.go tv_X2_four 3 16 [(0, .ref (gAd E (rba N B m0 + j0))), (1, .int (a1))] [.int ((v7) ||| ((v8) <<< (((16 : Int32)) &&& 31)))] rfl ?_
  cases hr
  exact G.iret rfl rfl ⟨rfl, ha8, ((Fr.rf.tr fa7 (fun _ h => h)).tr fa8 (fun _ h => h))⟩ (tbd tv_X2_four rfl)
def q_X6_mix_2 (N B gr : Nat) (C : CfT) : Nat → Int32 → Nat → Nat → Int32 → Int32 → Option (Int32)
  | 0, _, _, _, _, _ => none
  | n + 1, x0, m1, j1, x2, x3 => if x2 ≤ x3 then some x0 else if (nI 128) ≤ x3 then some x0 else ld (cR C m1 j1) 128 x3 (fun v9 => nm (((x0) * ((31 : Int32))) + ((v9) &&& ((255 : Int32)))) (fun v10 => q_X6_mix_2 N B gr C n v10 m1 j1 x2 (x3 + (1 : Int32))))
def q_X6_mix (N B gr : Nat) (C : CfT) (a0 : Int32) (m1 j1 : Nat) (a2 : Int32) : Option (Int32) := q_X6_mix_2 N B gr C fuL a0 m1 j1 a2 ((0 : Int32))
set_option maxRecDepth 100000 in
set_option maxHeartbeats 4000000 in
theorem lq_X6_mix_2 (E : gE) (f0 : Nat → va_E) (sz : Nat) (QA : Nat → Prop) (N B gr : Nat) (hz : CfZ E N B gr) (C : CfT) : ∀ (n : Nat), ∀ (x0 : Int32) (m1 : Nat) (j1 : Nat) (x2 : Int32) (x3 : Int32) (r : Int32) (hr : q_X6_mix_2 N B gr C n x0 m1 j1 x2 x3 = some r) (f : Nat → va_E) (h : CfV E f N B gr C) (hf : Fr CfK f0 f) (hm1_ : m1 < 5 ∧ j1 < rcn N B gr m1), G E (1, yX6_mix, 4, (some .int), sz, QA) cX6_mix (gO E (1, yX6_mix, 4, (some .int), sz, QA) (fun v g => v = some (.int r) ∧ CfV E g N B gr C ∧ Fr CfK f0 g, fun _ _ => False)) 2 [(0, .int (x0)), (1, .ref (gAd E (rba N B m1 + j1))), (2, .int (x2)), (3, .int (x3))] [] f := by
  obtain ⟨z1, z2, z3, z4, z5, z6, z7⟩ := id hz
  intro n
  induction n with
  | zero =>
    intro x0 m1 j1 x2 x3 r hr f h hf hm1_
    cases hr
  | succ n ih =>
    intro x0 m1 j1 x2 x3 r hr f h hf hm1_
    unfold q_X6_mix_2 at hr
    refine G.go tv_X6_mix 2 4 [(0, .int (x0)), (1, .ref (gAd E (rba N B m1 + j1))), (2, .int (x2)), (3, .int (x3))] [.int (x2), .int (x3)] rfl ?_
    refine G.cmp_ge 32 (tbd tv_X6_mix rfl) (by decide) (fun c4 => ?_) (fun c4 => ?_)
    · replace hr := ite_t c4 hr
      refine G.go tv_X6_mix 1 33 [(0, .int (x0)), (1, .ref (gAd E (rba N B m1 + j1))), (2, .int (x2)), (3, .int (x3))] [.int (x0)] rfl ?_
      cases hr
      exact G.iret rfl rfl ⟨rfl, h, hf⟩ (tbd tv_X6_mix rfl)
    · replace hr := ite_f c4 hr
      refine G.go tv_X6_mix 2 9 [(0, .int (x0)), (1, .ref (gAd E (rba N B m1 + j1))), (2, .int (x2)), (3, .int (x3))] [.ref (gAd E (rba N B m1 + j1)), .int (x3)] rfl ?_
      refine G.alen (rba N B m1 + j1) 0 (rk_lt hz hm1_.1 hm1_.2) (h.rk hm1_.1 hm1_.2) rfl rfl (tbd tv_X6_mix rfl) ?_
      refine G.eqs [.int (nI 128), .int (x3)] rfl ?_
      refine G.cmp_ge 32 (tbd tv_X6_mix rfl) (by decide) (fun c10 => ?_) (fun c10 => ?_)
      · replace hr := ite_t c10 hr
        refine G.go tv_X6_mix 1 33 [(0, .int (x0)), (1, .ref (gAd E (rba N B m1 + j1))), (2, .int (x2)), (3, .int (x3))] [.int (x0)] rfl ?_
        cases hr
        exact G.iret rfl rfl ⟨rfl, h, hf⟩ (tbd tv_X6_mix rfl)
      · replace hr := ite_f c10 hr
        refine G.go tv_X6_mix 5 19 [(0, .int (x0)), (1, .ref (gAd E (rba N B m1 + j1))), (2, .int (x2)), (3, .int (x3))] [.int (x3), .ref (gAd E (rba N B m1 + j1)), .int ((x0) * ((31 : Int32)))] rfl ?_
        obtain ⟨v9, b9, e9, hr⟩ := ld_s hr
        refine G.baldE (rba N B m1 + j1) (rk_lt hz hm1_.1 hm1_.2) (h.rk hm1_.1 hm1_.2) b9 e9 (tbd tv_X6_mix rfl) ?_
        refine G.go tv_X6_mix 4 26 [(0, .int (((x0) * ((31 : Int32))) + ((v9) &&& ((255 : Int32))))), (1, .ref (gAd E (rba N B m1 + j1))), (2, .int (x2)), (3, .int (x3))] [] rfl ?_
        obtain ⟨v10, e10, hr⟩ := nm_s hr
        refine G.eql [(0, .int (v10)), (1, .ref (gAd E (rba N B m1 + j1))), (2, .int (x2)), (3, .int (x3))] (by rw [e10]) ?_
        refine G.go tv_X6_mix 2 2 [(0, .int (v10)), (1, .ref (gAd E (rba N B m1 + j1))), (2, .int (x2)), (3, .int (x3 + (1 : Int32)))] [] rfl ?_
        refine G.less [(0, .int (v10)), (1, .ref (gAd E (rba N B m1 + j1))), (2, .int (x2)), (3, .int (x3 + (1 : Int32)))] [0, 1, 2, 3] rfl ?_
        exact ih _ _ _ _ _ _ hr _ h hf hm1_
set_option maxRecDepth 100000 in
set_option maxHeartbeats 4000000 in
theorem kq_X6_mix (E : gE) (f : Nat → va_E) (N B gr : Nat) (C : CfT) (hz : CfZ E N B gr) (h : CfV E f N B gr C) (a0 : Int32) (m1 j1 : Nat) (hm1_ : m1 < 5 ∧ j1 < rcn N B gr m1) (a2 : Int32) (r : Int32) (hr : q_X6_mix N B gr C a0 m1 j1 a2 = some r) : Ct E 1 yX6_mix cX6_mix 4 (some .int) [.int (a0), .ref (gAd E (rba N B m1 + j1)), .int (a2)] f (fun v g => v = some (.int r) ∧ CfV E g N B gr C ∧ Fr CfK f g, fun _ _ => False) := by
  obtain ⟨z1, z2, z3, z4, z5, z6, z7⟩ := id hz
  refine Ct.of (by decide) (Nat.le_of_ble_eq_true rfl) (fun sz => ?_)
  refine G.eql [(0, .int (a0)), (1, .ref (gAd E (rba N B m1 + j1))), (2, .int (a2))] rfl ?_
  unfold q_X6_mix at hr
  refine G.go tv_X6_mix 2 2 [(0, .int (a0)), (1, .ref (gAd E (rba N B m1 + j1))), (2, .int (a2)), (3, .int ((0 : Int32)))] [] rfl ?_
  refine G.less [(0, .int (a0)), (1, .ref (gAd E (rba N B m1 + j1))), (2, .int (a2)), (3, .int ((0 : Int32)))] [0, 1, 2, 3] rfl ?_
  exact lq_X6_mix_2 E f sz _ N B gr hz C _ _ _ _ _ _ _ hr _ h Fr.rf hm1_
def q_X6_sum_28 (N B gr : Nat) (C : CfT) : Nat → Int32 → Int32 → Int32 → Option (Int32)
  | 0, _, _, _ => none
  | n + 1, x2, x3, x4 => if x2 ≤ x4 then some x3 else bnd (q_X2_row N B gr C (((3 : Int32)) + (x4))) (fun v14 => bnd (q_X6_mix N B gr C x3 v14.1 v14.2 ((128 : Int32))) (fun v15 => q_X6_sum_28 N B gr C n x2 v15 (x4 + (1 : Int32))))
def q_X6_sum (N B gr : Nat) (C : CfT) (m0 j0 : Nat) (a1 : Int32) : Option (Int32) := bnd (q_X6_mix N B gr C ((7 : Int32)) m0 j0 ((6 : Int32))) (fun v11 => bnd (q_X2_row N B gr C ((2 : Int32))) (fun v12 => bnd (q_X6_mix N B gr C v11 v12.1 v12.2 (((2 : Int32)) * (a1))) (fun v13 => q_X6_sum_28 N B gr C fuL a1 v13 ((0 : Int32)))))
set_option maxRecDepth 100000 in
set_option maxHeartbeats 4000000 in
theorem lq_X6_sum_28 (E : gE) (f0 : Nat → va_E) (sz : Nat) (QA : Nat → Prop) (N B gr : Nat) (hz : CfZ E N B gr) (C : CfT) : ∀ (n : Nat), ∀ (x2 : Int32) (x3 : Int32) (x4 : Int32) (r : Int32) (hr : q_X6_sum_28 N B gr C n x2 x3 x4 = some r) (f : Nat → va_E) (h : CfV E f N B gr C) (hf : Fr CfK f0 f), G E (2, yX6_sum, 5, (some .int), sz, QA) cX6_sum (gO E (2, yX6_sum, 5, (some .int), sz, QA) (fun v g => v = some (.int r) ∧ CfV E g N B gr C ∧ Fr CfK f0 g, fun _ _ => False)) 28 [(0, .ref (gAd E (13))), (2, .int (x2)), (3, .int (x3)), (4, .int (x4))] [] f := by
  obtain ⟨z1, z2, z3, z4, z5, z6, z7⟩ := id hz
  intro n
  induction n with
  | zero =>
    intro x2 x3 x4 r hr f h hf
    cases hr
  | succ n ih =>
    intro x2 x3 x4 r hr f h hf
    unfold q_X6_sum_28 at hr
    refine G.go tv_X6_sum 2 31 [(0, .ref (gAd E (13))), (2, .int (x2)), (3, .int (x3)), (4, .int (x4))] [.int (x2), .int (x4)] rfl ?_
    refine G.cmp_ge 59 (tbd tv_X6_sum rfl) (by decide) (fun c31 => ?_) (fun c31 => ?_)
    · replace hr := ite_t c31 hr
      refine G.go tv_X6_sum 1 60 [(0, .ref (gAd E (13))), (2, .int (x2)), (3, .int (x3)), (4, .int (x4))] [.int (x3)] rfl ?_
      cases hr
      exact G.iret rfl rfl ⟨rfl, h, hf⟩ (tbd tv_X6_sum rfl)
    · replace hr := ite_f c31 hr
      refine G.go tv_X6_sum 2 36 [(0, .ref (gAd E (13))), (2, .int (x2)), (3, .int (x3)), (4, .int (x4))] [.ref (gAd E (13)), .int (x3)] rfl ?_
      refine G.getf cls_X6 (13) 0 (by omega) (h.q13) (by decide) rfl (tbd tv_X6_sum rfl) w_319 ?_
      refine G.go tv_X6_sum 3 43 [(0, .ref (gAd E (13))), (2, .int (x2)), (3, .int (x3)), (4, .int (x4))] [.int (((3 : Int32)) + (x4)), .ref (gAd E (2)), .int (x3)] rfl ?_
      obtain ⟨v14, hv14, hr⟩ := bnd_s hr
      refine G.callV (2) [.int (((3 : Int32)) + (x4))] [.int (x3)] (kq_X2_row E _ N B gr C hz h (((3 : Int32)) + (x4)) _ hv14) cls_X2 (by omega) (h.q2) cw_X6_49 w_801 w_802 (Nat.le_of_ble_eq_true rfl) rfl (Nat.le_of_ble_eq_true rfl) (tbd tv_X6_sum rfl) (fun v14w f14 q14 => ?_) (fun _ _ h => h.elim)
      obtain ⟨⟨rfl, hm14⟩, ha14, fa14⟩ := q14
      refine G.eqs [.ref (gAd E (rba N B v14.1 + v14.2)), .int (x3)] rfl ?_
      refine G.go tv_X6_sum 1 49 [(0, .ref (gAd E (13))), (2, .int (x2)), (3, .int (x3)), (4, .int (x4))] [.int ((128 : Int32)), .ref (gAd E (rba N B v14.1 + v14.2)), .int (x3)] rfl ?_
      obtain ⟨v15, hv15, hr⟩ := bnd_s hr
      refine G.callS [.int (x3), .ref (gAd E (rba N B v14.1 + v14.2)), .int ((128 : Int32))] [] (kq_X6_mix E _ N B gr C hz ha14 x3 v14.1 v14.2 hm14 ((128 : Int32)) _ hv15) cw_X6_45 w_798 (Nat.le_of_ble_eq_true rfl) rfl (Nat.le_of_ble_eq_true rfl) (tbd tv_X6_sum rfl) (fun v15w f15 q15 => ?_) (fun _ _ h => h.elim)
      obtain ⟨rfl, ha15, fa15⟩ := q15
      refine G.eqs [.int (v15)] rfl ?_
      refine G.go tv_X6_sum 3 28 [(0, .ref (gAd E (13))), (2, .int (x2)), (3, .int (v15)), (4, .int (x4 + (1 : Int32)))] [] rfl ?_
      refine G.less [(0, .ref (gAd E (13))), (2, .int (x2)), (3, .int (v15)), (4, .int (x4 + (1 : Int32)))] [0, 1, 2, 3] rfl ?_
      exact ih _ _ _ _ hr _ ha15 ((hf.tr fa14 (fun _ h => h)).tr fa15 (fun _ h => h))
set_option maxRecDepth 100000 in
set_option maxHeartbeats 4000000 in
theorem kq_X6_sum (E : gE) (f : Nat → va_E) (N B gr : Nat) (C : CfT) (hz : CfZ E N B gr) (h : CfV E f N B gr C) (m0 j0 : Nat) (hm0_ : m0 < 5 ∧ j0 < rcn N B gr m0) (a1 : Int32) (r : Int32) (hr : q_X6_sum N B gr C m0 j0 a1 = some r) : Ct E 2 yX6_sum cX6_sum 5 (some .int) [.ref (gAd E (13)), .ref (gAd E (rba N B m0 + j0)), .int (a1)] f (fun v g => v = some (.int r) ∧ CfV E g N B gr C ∧ Fr CfK f g, fun _ _ => False) := by
  obtain ⟨z1, z2, z3, z4, z5, z6, z7⟩ := id hz
  refine Ct.of (by decide) (Nat.le_of_ble_eq_true rfl) (fun sz => ?_)
  refine G.eql [(0, .ref (gAd E (13))), (1, .ref (gAd E (rba N B m0 + j0))), (2, .int (a1))] rfl ?_
  unfold q_X6_sum at hr
  refine G.go tv_X6_sum 3 5 [(0, .ref (gAd E (13))), (1, .ref (gAd E (rba N B m0 + j0))), (2, .int (a1))] [.int ((6 : Int32)), .ref (gAd E (rba N B m0 + j0)), .int ((7 : Int32))] rfl ?_
  obtain ⟨v11, hv11, hr⟩ := bnd_s hr
  refine G.callS [.int ((7 : Int32)), .ref (gAd E (rba N B m0 + j0)), .int ((6 : Int32))] [] (kq_X6_mix E _ N B gr C hz h ((7 : Int32)) m0 j0 hm0_ ((6 : Int32)) _ hv11) cw_X6_45 w_798 (Nat.le_of_ble_eq_true rfl) rfl (Nat.le_of_ble_eq_true rfl) (tbd tv_X6_sum rfl) (fun v11w f11 q11 => ?_) (fun _ _ h => h.elim)
  obtain ⟨rfl, ha11, fa11⟩ := q11
  refine G.eqs [.int (v11)] rfl ?_
  refine G.go tv_X6_sum 3 11 [(0, .ref (gAd E (13))), (1, .ref (gAd E (rba N B m0 + j0))), (2, .int (a1)), (3, .int (v11))] [.ref (gAd E (13)), .int (v11)] rfl ?_
  refine G.getf cls_X6 (13) 0 (by omega) (ha11.q13) (by decide) rfl (tbd tv_X6_sum rfl) w_319 ?_
  refine G.go tv_X6_sum 1 15 [(0, .ref (gAd E (13))), (1, .ref (gAd E (rba N B m0 + j0))), (2, .int (a1)), (3, .int (v11))] [.int ((2 : Int32)), .ref (gAd E (2)), .int (v11)] rfl ?_
  obtain ⟨v12, hv12, hr⟩ := bnd_s hr
  refine G.callV (2) [.int ((2 : Int32))] [.int (v11)] (kq_X2_row E _ N B gr C hz ha11 ((2 : Int32)) _ hv12) cls_X2 (by omega) (ha11.q2) cw_X6_49 w_801 w_802 (Nat.le_of_ble_eq_true rfl) rfl (Nat.le_of_ble_eq_true rfl) (tbd tv_X6_sum rfl) (fun v12w f12 q12 => ?_) (fun _ _ h => h.elim)
  obtain ⟨⟨rfl, hm12⟩, ha12, fa12⟩ := q12
  refine G.eqs [.ref (gAd E (rba N B v12.1 + v12.2)), .int (v11)] rfl ?_
  refine G.go tv_X6_sum 3 21 [(0, .ref (gAd E (13))), (1, .ref (gAd E (rba N B m0 + j0))), (2, .int (a1)), (3, .int (v11))] [.int (((2 : Int32)) * (a1)), .ref (gAd E (rba N B v12.1 + v12.2)), .int (v11)] rfl ?_
  obtain ⟨v13, hv13, hr⟩ := bnd_s hr
  refine G.callS [.int (v11), .ref (gAd E (rba N B v12.1 + v12.2)), .int (((2 : Int32)) * (a1))] [] (kq_X6_mix E _ N B gr C hz ha12 v11 v12.1 v12.2 hm12 (((2 : Int32)) * (a1)) _ hv13) cw_X6_45 w_798 (Nat.le_of_ble_eq_true rfl) rfl (Nat.le_of_ble_eq_true rfl) (tbd tv_X6_sum rfl) (fun v13w f13 q13 => ?_) (fun _ _ h => h.elim)
  obtain ⟨rfl, ha13, fa13⟩ := q13
  refine G.eqs [.int (v13)] rfl ?_
  refine G.go tv_X6_sum 3 28 [(0, .ref (gAd E (13))), (1, .ref (gAd E (rba N B m0 + j0))), (2, .int (a1)), (3, .int (v13)), (4, .int ((0 : Int32)))] [] rfl ?_
  refine G.less [(0, .ref (gAd E (13))), (2, .int (a1)), (3, .int (v13)), (4, .int ((0 : Int32)))] [0, 2, 3, 4] rfl ?_
  exact lq_X6_sum_28 E f sz _ N B gr hz C _ _ _ _ _ hr _ ha13 (((Fr.rf.tr fa11 (fun _ h => h)).tr fa12 (fun _ h => h)).tr fa13 (fun _ h => h))
def q_X6_forgetEntries (N B gr : Nat) (C : CfT) : Option (CfT) := ptS C 1305 ((0 : Int32)) (fun C16 => flD C16 16 N ((-1 : Int32)) (fun C17 => some C17))
set_option maxRecDepth 100000 in
set_option maxHeartbeats 4000000 in
theorem kq_X6_forgetEntries (E : gE) (f : Nat → va_E) (N B gr : Nat) (C : CfT) (hz : CfZ E N B gr) (h : CfV E f N B gr C) (C9 : CfT) (hr : q_X6_forgetEntries N B gr C = some C9) : Ct E 2 yX6_forgetEntries cX6_forgetEntries 1 none [.ref (gAd E (13))] f (fun v g => v = none ∧ CfV E g N B gr C9 ∧ Fr CfK f g, fun _ _ => False) := by
  obtain ⟨z1, z2, z3, z4, z5, z6, z7⟩ := id hz
  refine Ct.of (by decide) (Nat.le_of_ble_eq_true rfl) (fun sz => ?_)
  refine G.eql [(0, .ref (gAd E (13)))] rfl ?_
  unfold q_X6_forgetEntries at hr
  refine G.go tv_X6_forgetEntries 2 2 [(0, .ref (gAd E (13)))] [.int ((0 : Int32)), .ref (gAd E (13))] rfl ?_
  obtain ⟨C16, eC16, hr⟩ := ptS_s hr
  refine G.putfS cls_X6 (13) 5 [.ref (gAd E 2), .ref (gAd E 8), .ref (gAd E 14), .ref (gAd E 15), .ref (gAd E 16), .int ((0 : Int32)), .int (cS C 1306)] (by omega) (h.q13) rfl (by decide) rfl rfl rfl (Nat.le_of_ble_eq_true rfl) (tbd tv_X6_forgetEntries rfl) w_325 ?_
  refine G.gen (P := fun w9 => CfV E w9 N B gr C16 ∧ Fr CfK f w9) ⟨by rw [eC16]; exact h.s1305 _, Fr.c Fr.rf (by first | exact Or.inl (by decide) | exact Or.inr (by omega) | exact Or.inr (rk_ge _ _))⟩ (fun u16 p16 => ?_)
  obtain ⟨h16, k16⟩ := p16
  refine G.go tv_X6_forgetEntries 1 6 [(0, .ref (gAd E (13)))] [.ref (gAd E (13))] rfl ?_
  refine G.getf cls_X6 (13) 4 (by omega) (h16.q13) (by decide) rfl (tbd tv_X6_forgetEntries rfl) w_323 ?_
  refine G.go tv_X6_forgetEntries 1 10 [(0, .ref (gAd E (13)))] [.int ((-1 : Int32)), .ref (gAd E (16))] rfl ?_
  obtain ⟨C17, eC17, hr⟩ := flD_s hr
  refine G.callS [.ref (gAd E (16)), .int ((-1 : Int32))] [] (c_J7_fill_53178 E _ 16 N _ ((-1 : Int32)) (by omega) (h16.q16) (by omega)) cw_X6_36 w_223 (Nat.le_of_ble_eq_true rfl) rfl (Nat.le_of_ble_eq_true rfl) (tbd tv_X6_forgetEntries rfl) (fun v17w f17 q17 => ?_) (fun _ _ h => h.elim)
  obtain ⟨rfl, rfl⟩ := q17
  refine G.eqs [] rfl ?_
  refine G.gen (P := fun w9 => CfV E w9 N B gr C17 ∧ Fr CfK f w9) ⟨by rw [eC17]; exact h16.p16 _, Fr.c k16 (by first | exact Or.inl (by decide) | exact Or.inr (by omega) | exact Or.inr (rk_ge _ _))⟩ (fun u17 p17 => ?_)
  obtain ⟨h17, k17⟩ := p17
  cases hr
  exact G.vret rfl ⟨rfl, h17, k17⟩ (tbd tv_X6_forgetEntries rfl)
def q_X6_note (N B gr : Nat) (C : CfT) (a0 : Int32) : Option (CfT) := if ((40 : Int32)) ≤ (cS C 1305) then some C else if a0 < 0 then some C else if (nI (N)) ≤ a0 then some C else stA C 14 40 (cS C 1305) a0 (fun C18 => stA C18 16 N a0 (cS C18 1305) (fun C19 => ptS C19 1305 ((cS C19 1305) + ((1 : Int32))) (fun C20 => some C20)))
set_option maxRecDepth 100000 in
set_option maxHeartbeats 4000000 in
theorem kq_X6_note (E : gE) (f : Nat → va_E) (N B gr : Nat) (C : CfT) (hz : CfZ E N B gr) (h : CfV E f N B gr C) (a0 : Int32) (C9 : CfT) (hr : q_X6_note N B gr C a0 = some C9) : Ct E 1 yX6_note cX6_note 2 none [.ref (gAd E (13)), .int (a0)] f (fun v g => v = none ∧ CfV E g N B gr C9 ∧ Fr CfK f g, fun _ _ => False) := by
  obtain ⟨z1, z2, z3, z4, z5, z6, z7⟩ := id hz
  refine Ct.of (by decide) (Nat.le_of_ble_eq_true rfl) (fun sz => ?_)
  refine G.eql [(0, .ref (gAd E (13))), (1, .int (a0))] rfl ?_
  unfold q_X6_note at hr
  refine G.go tv_X6_note 1 1 [(0, .ref (gAd E (13))), (1, .int (a0))] [.ref (gAd E (13))] rfl ?_
  refine G.getf cls_X6 (13) 5 (by omega) (h.q13) (by decide) rfl (tbd tv_X6_note rfl) w_325 ?_
  refine G.go tv_X6_note 1 6 [(0, .ref (gAd E (13))), (1, .int (a0))] [.int ((40 : Int32)), .int (cS C 1305)] rfl ?_
  refine G.cmp_ge 52 (tbd tv_X6_note rfl) (by decide) (fun c6 => ?_) (fun c6 => ?_)
  · replace hr := ite_t c6 hr
    cases hr
    exact G.vret rfl ⟨rfl, h, Fr.rf⟩ (tbd tv_X6_note rfl)
  · replace hr := ite_f c6 hr
    refine G.go tv_X6_note 1 10 [(0, .ref (gAd E (13))), (1, .int (a0))] [.int (a0)] rfl ?_
    refine G.if_lt 52 (tbd tv_X6_note rfl) (by decide) (fun c10 => ?_) (fun c10 => ?_)
    · replace hr := ite_t c10 hr
      cases hr
      exact G.vret rfl ⟨rfl, h, Fr.rf⟩ (tbd tv_X6_note rfl)
    · replace hr := ite_f c10 hr
      refine G.go tv_X6_note 2 15 [(0, .ref (gAd E (13))), (1, .int (a0))] [.ref (gAd E (13)), .int (a0)] rfl ?_
      refine G.getf cls_X6 (13) 4 (by omega) (h.q13) (by decide) rfl (tbd tv_X6_note rfl) w_323 ?_
      refine G.alen (16) 1 (by omega) (h.q16) rfl rfl (tbd tv_X6_note rfl) ?_
      refine G.eqs [.int (nI (N)), .int (a0)] rfl ?_
      refine G.cmp_ge 52 (tbd tv_X6_note rfl) (by decide) (fun c19 => ?_) (fun c19 => ?_)
      · replace hr := ite_t c19 hr
        cases hr
        exact G.vret rfl ⟨rfl, h, Fr.rf⟩ (tbd tv_X6_note rfl)
      · replace hr := ite_f c19 hr
        refine G.go tv_X6_note 1 23 [(0, .ref (gAd E (13))), (1, .int (a0))] [.ref (gAd E (13))] rfl ?_
        refine G.getf cls_X6 (13) 2 (by omega) (h.q13) (by decide) rfl (tbd tv_X6_note rfl) w_321 ?_
        refine G.go tv_X6_note 1 27 [(0, .ref (gAd E (13))), (1, .int (a0))] [.ref (gAd E (13)), .ref (gAd E (14))] rfl ?_
        refine G.getf cls_X6 (13) 5 (by omega) (h.q13) (by decide) rfl (tbd tv_X6_note rfl) w_325 ?_
        refine G.go tv_X6_note 1 31 [(0, .ref (gAd E (13))), (1, .int (a0))] [.int (a0), .int (cS C 1305), .ref (gAd E (14))] rfl ?_
        obtain ⟨C18, b18, eC18, hr⟩ := stA_s hr
        refine G.iast (14) (by omega) (h.q14) b18 (tbd tv_X6_note rfl) ?_
        refine G.gen (P := fun w9 => CfV E w9 N B gr C18 ∧ Fr CfK f w9) ⟨by rw [eC18]; exact h.p14 _, Fr.c Fr.rf (by first | exact Or.inl (by decide) | exact Or.inr (by omega) | exact Or.inr (rk_ge _ _))⟩ (fun u18 p18 => ?_)
        obtain ⟨h18, k18⟩ := p18
        refine G.go tv_X6_note 1 33 [(0, .ref (gAd E (13))), (1, .int (a0))] [.ref (gAd E (13))] rfl ?_
        refine G.getf cls_X6 (13) 4 (by omega) (h18.q13) (by decide) rfl (tbd tv_X6_note rfl) w_323 ?_
        refine G.go tv_X6_note 2 38 [(0, .ref (gAd E (13))), (1, .int (a0))] [.ref (gAd E (13)), .int (a0), .ref (gAd E (16))] rfl ?_
        refine G.getf cls_X6 (13) 5 (by omega) (h18.q13) (by decide) rfl (tbd tv_X6_note rfl) w_325 ?_
        obtain ⟨C19, b19, eC19, hr⟩ := stA_s hr
        refine G.iast (16) (by omega) (h18.q16) b19 (tbd tv_X6_note rfl) ?_
        refine G.gen (P := fun w9 => CfV E w9 N B gr C19 ∧ Fr CfK f w9) ⟨by rw [eC19]; exact h18.p16 _, Fr.c k18 (by first | exact Or.inl (by decide) | exact Or.inr (by omega) | exact Or.inr (rk_ge _ _))⟩ (fun u19 p19 => ?_)
        obtain ⟨h19, k19⟩ := p19
        refine G.go tv_X6_note 2 44 [(0, .ref (gAd E (13))), (1, .int (a0))] [.ref (gAd E (13)), .ref (gAd E (13))] rfl ?_
        refine G.getf cls_X6 (13) 5 (by omega) (h19.q13) (by decide) rfl (tbd tv_X6_note rfl) w_325 ?_
        refine G.go tv_X6_note 2 49 [(0, .ref (gAd E (13))), (1, .int (a0))] [.int ((cS C19 1305) + ((1 : Int32))), .ref (gAd E (13))] rfl ?_
        obtain ⟨C20, eC20, hr⟩ := ptS_s hr
        refine G.putfS cls_X6 (13) 5 [.ref (gAd E 2), .ref (gAd E 8), .ref (gAd E 14), .ref (gAd E 15), .ref (gAd E 16), .int ((cS C19 1305) + ((1 : Int32))), .int (cS C19 1306)] (by omega) (h19.q13) rfl (by decide) rfl rfl rfl (Nat.le_of_ble_eq_true rfl) (tbd tv_X6_note rfl) w_325 ?_
        refine G.gen (P := fun w9 => CfV E w9 N B gr C20 ∧ Fr CfK f w9) ⟨by rw [eC20]; exact h19.s1305 _, Fr.c k19 (by first | exact Or.inl (by decide) | exact Or.inr (by omega) | exact Or.inr (rk_ge _ _))⟩ (fun u20 p20 => ?_)
        obtain ⟨h20, k20⟩ := p20
        cases hr
        exact G.vret rfl ⟨rfl, h20, k20⟩ (tbd tv_X6_note rfl)
def tb_X6_recover : List (Nat × Instr × Nat) := [(0, .aload_n 0, 1), (1, .invokevirtual 70, 3), (4, .aload_n 0, 1), (5, .getfield 19, 3), (8, .iconst 1, 1), (9, .invokevirtual 49, 3), (12, .astore_n 1, 1), (13, .aload_n 0, 1), (14, .aload_n 1, 1), (15, .iconst 2, 1), (16, .invokestatic 83, 3), (19, .putfield 60, 3), (22, .aload_n 1, 1), (23, .iconst 0, 1), (24, .invokestatic 86, 3), (27, .istore_n 2, 1), (28, .iload_n 2, 1), (29, .iconst 1, 1), (30, .if_icmp .lt 55, 3), (33, .iload_n 2, 1), (34, .bipush 40, 2), (36, .if_icmp .gt 49, 3), (39, .aload_n 0, 1), (40, .aload_n 1, 1), (41, .iload_n 2, 1), (42, .invokevirtual 66, 3), (45, .aload_n 1, 1), (46, .bipush 6, 2), (48, .invokestatic 83, 3), (51, .if_icmp .ne 34, 3), (54, .iconst 0, 1), (55, .istore_n 3, 1), (56, .iload_n 3, 1), (57, .iload_n 2, 1), (58, .if_icmp .ge 27, 3), (61, .aload_n 0, 1), (62, .aload_n 0, 1), (63, .getfield 19, 3), (66, .iconst 2, 1), (67, .invokevirtual 49, 3), (70, .iconst 2, 1), (71, .iload_n 3, 1), (72, .imul, 1), (73, .invokestatic 86, 3), (76, .invokevirtual 89, 3), (79, .iinc 3 1, 3), (82, .goto (-26), 3), (85, .aload_n 0, 1), (86, .getfield 42, 3), (89, .ireturn, 1)]
theorem tv_X6_recover : Tv cX6_recover tb_X6_recover := by
  unfold Tv
  decide +kernel
theorem w_874 : Cond.methodLink "LedgerFiles$Log" 83 yX2_four ∈ TB := tp_4 8 (by decide +kernel) rfl
theorem cw_X6_83 : Cw RX6 83 yX2_four cX2_four 2 (some .int) 2 := ⟨w_874, w_876, w_149, by decide +kernel, by decide +kernel, by decide⟩
theorem w_880 : Cond.methodLink "LedgerFiles$Log" 86 yX2_two ∈ TB := tp_4 14 (by decide +kernel) rfl
theorem cw_X6_86 : Cw RX6 86 yX2_two cX2_two 2 (some .int) 2 := ⟨w_880, w_879, w_149, by decide +kernel, by decide +kernel, by decide⟩
def q_X6_recover_56 (N B gr : Nat) : Nat → CfT → Int32 → Int32 → Option (Int32 × CfT)
  | 0, _, _, _ => none
  | n + 1, C, x2, x3 => if x2 ≤ x3 then some (cS C 1305, C) else bnd (q_X2_row N B gr C ((2 : Int32))) (fun v28 => bnd (q_X2_two N B gr C v28.1 v28.2 (((2 : Int32)) * (x3))) (fun v29 => bnd (q_X6_note N B gr C v29) (fun C30 => q_X6_recover_56 N B gr n C30 x2 (x3 + (1 : Int32)))))
def q_X6_recover (N B gr : Nat) (C : CfT) : Option (Int32 × CfT) := bnd (q_X6_forgetEntries N B gr C) (fun C21 => bnd (q_X2_row N B gr C21 ((1 : Int32))) (fun v22 => bnd (q_X2_four N B gr C21 v22.1 v22.2 ((2 : Int32))) (fun v23 => ptS C21 1306 v23 (fun C24 => bnd (q_X2_two N B gr C24 v22.1 v22.2 ((0 : Int32))) (fun v25 => if v25 < ((1 : Int32)) then some (cS C24 1305, C24) else if ((40 : Int32)) < v25 then some (cS C24 1305, C24) else bnd (q_X6_sum N B gr C24 v22.1 v22.2 v25) (fun v26 => bnd (q_X2_four N B gr C24 v22.1 v22.2 ((6 : Int32))) (fun v27 => if v26 = v27 then q_X6_recover_56 N B gr fuL C24 v25 ((0 : Int32)) else some (cS C24 1305, C24))))))))
set_option maxRecDepth 100000 in
set_option maxHeartbeats 4000000 in
theorem lq_X6_recover_56 (E : gE) (f0 : Nat → va_E) (sz : Nat) (QA : Nat → Prop) (N B gr : Nat) (hz : CfZ E N B gr) : ∀ (n : Nat), ∀ (C : CfT) (x2 : Int32) (x3 : Int32) (r : Int32) (C9 : CfT) (hr : q_X6_recover_56 N B gr n C x2 x3 = some (r, C9)) (f : Nat → va_E) (h : CfV E f N B gr C) (hf : Fr CfK f0 f), G E (3, yX6_recover, 4, (some .int), sz, QA) cX6_recover (gO E (3, yX6_recover, 4, (some .int), sz, QA) (fun v g => v = some (.int r) ∧ CfV E g N B gr C9 ∧ Fr CfK f0 g, fun _ _ => False)) 56 [(0, .ref (gAd E (13))), (2, .int (x2)), (3, .int (x3))] [] f := by
  obtain ⟨z1, z2, z3, z4, z5, z6, z7⟩ := id hz
  intro n
  induction n with
  | zero =>
    intro C x2 x3 r C9 hr f h hf
    cases hr
  | succ n ih =>
    intro C x2 x3 r C9 hr f h hf
    unfold q_X6_recover_56 at hr
    refine G.go tv_X6_recover 2 58 [(0, .ref (gAd E (13))), (2, .int (x2)), (3, .int (x3))] [.int (x2), .int (x3)] rfl ?_
    refine G.cmp_ge 85 (tbd tv_X6_recover rfl) (by decide) (fun c58 => ?_) (fun c58 => ?_)
    · replace hr := ite_t c58 hr
      refine G.go tv_X6_recover 1 86 [(0, .ref (gAd E (13))), (2, .int (x2)), (3, .int (x3))] [.ref (gAd E (13))] rfl ?_
      refine G.getf cls_X6 (13) 5 (by omega) (h.q13) (by decide) rfl (tbd tv_X6_recover rfl) w_325 ?_
      cases hr
      exact G.iret rfl rfl ⟨rfl, h, hf⟩ (tbd tv_X6_recover rfl)
    · replace hr := ite_f c58 hr
      refine G.go tv_X6_recover 2 63 [(0, .ref (gAd E (13))), (2, .int (x2)), (3, .int (x3))] [.ref (gAd E (13)), .ref (gAd E (13))] rfl ?_
      refine G.getf cls_X6 (13) 0 (by omega) (h.q13) (by decide) rfl (tbd tv_X6_recover rfl) w_319 ?_
      refine G.go tv_X6_recover 1 67 [(0, .ref (gAd E (13))), (2, .int (x2)), (3, .int (x3))] [.int ((2 : Int32)), .ref (gAd E (2)), .ref (gAd E (13))] rfl ?_
      obtain ⟨v28, hv28, hr⟩ := bnd_s hr
      refine G.callV (2) [.int ((2 : Int32))] [.ref (gAd E (13))] (kq_X2_row E _ N B gr C hz h ((2 : Int32)) _ hv28) cls_X2 (by omega) (h.q2) cw_X6_49 w_801 w_802 (Nat.le_of_ble_eq_true rfl) rfl (Nat.le_of_ble_eq_true rfl) (tbd tv_X6_recover rfl) (fun v28w f28 q28 => ?_) (fun _ _ h => h.elim)
      obtain ⟨⟨rfl, hm28⟩, ha28, fa28⟩ := q28
      refine G.eqs [.ref (gAd E (rba N B v28.1 + v28.2)), .ref (gAd E (13))] rfl ?_
      refine G.go tv_X6_recover 3 73 [(0, .ref (gAd E (13))), (2, .int (x2)), (3, .int (x3))] [.int (((2 : Int32)) * (x3)), .ref (gAd E (rba N B v28.1 + v28.2)), .ref (gAd E (13))] rfl ?_
      obtain ⟨v29, hv29, hr⟩ := bnd_s hr
      refine G.callS [.ref (gAd E (rba N B v28.1 + v28.2)), .int (((2 : Int32)) * (x3))] [.ref (gAd E (13))] (kq_X2_two E _ N B gr C hz ha28 v28.1 v28.2 hm28 (((2 : Int32)) * (x3)) _ hv29) cw_X6_86 w_878 (Nat.le_of_ble_eq_true rfl) rfl (Nat.le_of_ble_eq_true rfl) (tbd tv_X6_recover rfl) (fun v29w f29 q29 => ?_) (fun _ _ h => h.elim)
      obtain ⟨rfl, ha29, fa29⟩ := q29
      refine G.eqs [.int (v29), .ref (gAd E (13))] rfl ?_
      obtain ⟨C30, hv30, hr⟩ := bnd_s hr
      refine G.callV (13) [.int (v29)] [] (kq_X6_note E _ N B gr C hz ha29 v29 _ hv30) cls_X6 (by omega) (ha29.q13) cw_X6_89 w_883 w_13 (Nat.le_of_ble_eq_true rfl) rfl (Nat.le_of_ble_eq_true rfl) (tbd tv_X6_recover rfl) (fun v30w f30 q30 => ?_) (fun _ _ h => h.elim)
      obtain ⟨rfl, ha30, fa30⟩ := q30
      refine G.eqs [] rfl ?_
      refine G.go tv_X6_recover 2 56 [(0, .ref (gAd E (13))), (2, .int (x2)), (3, .int (x3 + (1 : Int32)))] [] rfl ?_
      refine G.less [(0, .ref (gAd E (13))), (2, .int (x2)), (3, .int (x3 + (1 : Int32)))] [0, 1, 2] rfl ?_
      exact ih _ _ _ _ _ hr _ ha30 (((hf.tr fa28 (fun _ h => h)).tr fa29 (fun _ h => h)).tr fa30 (fun _ h => h))
set_option maxRecDepth 100000 in
set_option maxHeartbeats 4000000 in
theorem kq_X6_recover (E : gE) (f : Nat → va_E) (N B gr : Nat) (C : CfT) (hz : CfZ E N B gr) (h : CfV E f N B gr C) (r : Int32) (C9 : CfT) (hr : q_X6_recover N B gr C = some (r, C9)) : Ct E 3 yX6_recover cX6_recover 4 (some .int) [.ref (gAd E (13))] f (fun v g => v = some (.int r) ∧ CfV E g N B gr C9 ∧ Fr CfK f g, fun _ _ => False) := by
  obtain ⟨z1, z2, z3, z4, z5, z6, z7⟩ := id hz
  refine Ct.of (by decide) (Nat.le_of_ble_eq_true rfl) (fun sz => ?_)
  refine G.eql [(0, .ref (gAd E (13)))] rfl ?_
  unfold q_X6_recover at hr
  refine G.go tv_X6_recover 1 1 [(0, .ref (gAd E (13)))] [.ref (gAd E (13))] rfl ?_
  obtain ⟨C21, hv21, hr⟩ := bnd_s hr
  refine G.callV (13) [] [] (kq_X6_forgetEntries E _ N B gr C hz h _ hv21) cls_X6 (by omega) (h.q13) cw_X6_70 w_779 w_7 (Nat.le_of_ble_eq_true rfl) rfl (Nat.le_of_ble_eq_true rfl) (tbd tv_X6_recover rfl) (fun v21w f21 q21 => ?_) (fun _ _ h => h.elim)
  obtain ⟨rfl, ha21, fa21⟩ := q21
  refine G.eqs [] rfl ?_
  refine G.go tv_X6_recover 1 5 [(0, .ref (gAd E (13)))] [.ref (gAd E (13))] rfl ?_
  refine G.getf cls_X6 (13) 0 (by omega) (ha21.q13) (by decide) rfl (tbd tv_X6_recover rfl) w_319 ?_
  refine G.go tv_X6_recover 1 9 [(0, .ref (gAd E (13)))] [.int ((1 : Int32)), .ref (gAd E (2))] rfl ?_
  obtain ⟨v22, hv22, hr⟩ := bnd_s hr
  refine G.callV (2) [.int ((1 : Int32))] [] (kq_X2_row E _ N B gr C21 hz ha21 ((1 : Int32)) _ hv22) cls_X2 (by omega) (ha21.q2) cw_X6_49 w_801 w_802 (Nat.le_of_ble_eq_true rfl) rfl (Nat.le_of_ble_eq_true rfl) (tbd tv_X6_recover rfl) (fun v22w f22 q22 => ?_) (fun _ _ h => h.elim)
  obtain ⟨⟨rfl, hm22⟩, ha22, fa22⟩ := q22
  refine G.eqs [.ref (gAd E (rba N B v22.1 + v22.2))] rfl ?_
  refine G.go tv_X6_recover 4 16 [(0, .ref (gAd E (13))), (1, .ref (gAd E (rba N B v22.1 + v22.2)))] [.int ((2 : Int32)), .ref (gAd E (rba N B v22.1 + v22.2)), .ref (gAd E (13))] rfl ?_
  obtain ⟨v23, hv23, hr⟩ := bnd_s hr
  refine G.callS [.ref (gAd E (rba N B v22.1 + v22.2)), .int ((2 : Int32))] [.ref (gAd E (13))] (kq_X2_four E _ N B gr C21 hz ha22 v22.1 v22.2 hm22 ((2 : Int32)) _ hv23) cw_X6_83 w_875 (Nat.le_of_ble_eq_true rfl) rfl (Nat.le_of_ble_eq_true rfl) (tbd tv_X6_recover rfl) (fun v23w f23 q23 => ?_) (fun _ _ h => h.elim)
  obtain ⟨rfl, ha23, fa23⟩ := q23
  refine G.eqs [.int (v23), .ref (gAd E (13))] rfl ?_
  obtain ⟨C24, eC24, hr⟩ := ptS_s hr
  refine G.putfS cls_X6 (13) 6 [.ref (gAd E 2), .ref (gAd E 8), .ref (gAd E 14), .ref (gAd E 15), .ref (gAd E 16), .int (cS C21 1305), .int (v23)] (by omega) (ha23.q13) rfl (by decide) rfl rfl rfl (Nat.le_of_ble_eq_true rfl) (tbd tv_X6_recover rfl) w_328 ?_
  refine G.gen (P := fun w9 => CfV E w9 N B gr C24 ∧ Fr CfK f w9) ⟨by rw [eC24]; exact ha23.s1306 _, Fr.c (((Fr.rf.tr fa21 (fun _ h => h)).tr fa22 (fun _ h => h)).tr fa23 (fun _ h => h)) (by first | exact Or.inl (by decide) | exact Or.inr (by omega) | exact Or.inr (rk_ge _ _))⟩ (fun u24 p24 => ?_)
  obtain ⟨h24, k24⟩ := p24
  refine G.go tv_X6_recover 2 24 [(0, .ref (gAd E (13))), (1, .ref (gAd E (rba N B v22.1 + v22.2)))] [.int ((0 : Int32)), .ref (gAd E (rba N B v22.1 + v22.2))] rfl ?_
  obtain ⟨v25, hv25, hr⟩ := bnd_s hr
  refine G.callS [.ref (gAd E (rba N B v22.1 + v22.2)), .int ((0 : Int32))] [] (kq_X2_two E _ N B gr C24 hz h24 v22.1 v22.2 hm22 ((0 : Int32)) _ hv25) cw_X6_86 w_878 (Nat.le_of_ble_eq_true rfl) rfl (Nat.le_of_ble_eq_true rfl) (tbd tv_X6_recover rfl) (fun v25w f25 q25 => ?_) (fun _ _ h => h.elim)
  obtain ⟨rfl, ha25, fa25⟩ := q25
  refine G.eqs [.int (v25)] rfl ?_
  refine G.go tv_X6_recover 3 30 [(0, .ref (gAd E (13))), (1, .ref (gAd E (rba N B v22.1 + v22.2))), (2, .int (v25))] [.int ((1 : Int32)), .int (v25)] rfl ?_
  refine G.cmp_lt 85 (tbd tv_X6_recover rfl) (by decide) (fun c30 => ?_) (fun c30 => ?_)
  · replace hr := ite_t c30 hr
    refine G.go tv_X6_recover 1 86 [(0, .ref (gAd E (13))), (1, .ref (gAd E (rba N B v22.1 + v22.2))), (2, .int (v25))] [.ref (gAd E (13))] rfl ?_
    refine G.getf cls_X6 (13) 5 (by omega) (ha25.q13) (by decide) rfl (tbd tv_X6_recover rfl) w_325 ?_
    cases hr
    exact G.iret rfl rfl ⟨rfl, ha25, (k24.tr fa25 (fun _ h => h))⟩ (tbd tv_X6_recover rfl)
  · replace hr := ite_f c30 hr
    refine G.go tv_X6_recover 2 36 [(0, .ref (gAd E (13))), (1, .ref (gAd E (rba N B v22.1 + v22.2))), (2, .int (v25))] [.int ((40 : Int32)), .int (v25)] rfl ?_
    refine G.cmp_gt 85 (tbd tv_X6_recover rfl) (by decide) (fun c36 => ?_) (fun c36 => ?_)
    · replace hr := ite_t c36 hr
      refine G.go tv_X6_recover 1 86 [(0, .ref (gAd E (13))), (1, .ref (gAd E (rba N B v22.1 + v22.2))), (2, .int (v25))] [.ref (gAd E (13))] rfl ?_
      refine G.getf cls_X6 (13) 5 (by omega) (ha25.q13) (by decide) rfl (tbd tv_X6_recover rfl) w_325 ?_
      cases hr
      exact G.iret rfl rfl ⟨rfl, ha25, (k24.tr fa25 (fun _ h => h))⟩ (tbd tv_X6_recover rfl)
    · replace hr := ite_f c36 hr
      refine G.go tv_X6_recover 3 42 [(0, .ref (gAd E (13))), (1, .ref (gAd E (rba N B v22.1 + v22.2))), (2, .int (v25))] [.int (v25), .ref (gAd E (rba N B v22.1 + v22.2)), .ref (gAd E (13))] rfl ?_
      obtain ⟨v26, hv26, hr⟩ := bnd_s hr
      refine G.callV (13) [.ref (gAd E (rba N B v22.1 + v22.2)), .int (v25)] [] (kq_X6_sum E _ N B gr C24 hz ha25 v22.1 v22.2 hm22 v25 _ hv26) cls_X6 (by omega) (ha25.q13) cw_X6_66 w_795 w_9 (Nat.le_of_ble_eq_true rfl) rfl (Nat.le_of_ble_eq_true rfl) (tbd tv_X6_recover rfl) (fun v26w f26 q26 => ?_) (fun _ _ h => h.elim)
      obtain ⟨rfl, ha26, fa26⟩ := q26
      refine G.eqs [.int (v26)] rfl ?_
      refine G.go tv_X6_recover 2 48 [(0, .ref (gAd E (13))), (1, .ref (gAd E (rba N B v22.1 + v22.2))), (2, .int (v25))] [.int ((6 : Int32)), .ref (gAd E (rba N B v22.1 + v22.2)), .int (v26)] rfl ?_
      obtain ⟨v27, hv27, hr⟩ := bnd_s hr
      refine G.callS [.ref (gAd E (rba N B v22.1 + v22.2)), .int ((6 : Int32))] [.int (v26)] (kq_X2_four E _ N B gr C24 hz ha26 v22.1 v22.2 hm22 ((6 : Int32)) _ hv27) cw_X6_83 w_875 (Nat.le_of_ble_eq_true rfl) rfl (Nat.le_of_ble_eq_true rfl) (tbd tv_X6_recover rfl) (fun v27w f27 q27 => ?_) (fun _ _ h => h.elim)
      obtain ⟨rfl, ha27, fa27⟩ := q27
      refine G.eqs [.int (v27), .int (v26)] rfl ?_
      refine G.cmp_ne 85 (tbd tv_X6_recover rfl) (by decide) (fun c51 => ?_) (fun c51 => ?_)
      · replace hr := ite_f c51 hr
        refine G.go tv_X6_recover 1 86 [(0, .ref (gAd E (13))), (1, .ref (gAd E (rba N B v22.1 + v22.2))), (2, .int (v25))] [.ref (gAd E (13))] rfl ?_
        refine G.getf cls_X6 (13) 5 (by omega) (ha27.q13) (by decide) rfl (tbd tv_X6_recover rfl) w_325 ?_
        cases hr
        exact G.iret rfl rfl ⟨rfl, ha27, (((k24.tr fa25 (fun _ h => h)).tr fa26 (fun _ h => h)).tr fa27 (fun _ h => h))⟩ (tbd tv_X6_recover rfl)
      · replace hr := ite_t c51 hr
        refine G.go tv_X6_recover 2 56 [(0, .ref (gAd E (13))), (1, .ref (gAd E (rba N B v22.1 + v22.2))), (2, .int (v25)), (3, .int ((0 : Int32)))] [] rfl ?_
        refine G.less [(0, .ref (gAd E (13))), (2, .int (v25)), (3, .int ((0 : Int32)))] [0, 2, 3] rfl ?_
        exact lq_X6_recover_56 E f sz _ N B gr hz _ _ _ _ _ _ hr _ ha27 (((k24.tr fa25 (fun _ h => h)).tr fa26 (fun _ h => h)).tr fa27 (fun _ h => h))
def tb_X2_keepValue : List (Nat × Instr × Nat) := [(0, .iconst 0, 1), (1, .istore_n 3, 1), (2, .iconst 0, 1), (3, .istore 4, 2), (5, .iload 4, 2), (7, .aload_n 0, 1), (8, .getfield 64, 3), (11, .if_icmp .ge 67, 3), (14, .iload_n 3, 1), (15, .iload_n 2, 1), (16, .if_icmp .ge 62, 3), (19, .aload_n 0, 1), (20, .getfield 70, 3), (23, .iload 4, 2), (25, .iadd, 1), (26, .sipush 256, 3), (29, .irem, 1), (30, .istore 5, 2), (32, .aload_n 0, 1), (33, .getfield 16, 3), (36, .iload 5, 2), (38, .iaload, 1), (39, .iload_n 1, 1), (40, .if_icmp .ne 32, 3), (43, .iinc 3 1, 3), (46, .iload_n 3, 1), (47, .iload_n 2, 1), (48, .if_icmp .ne 24, 3), (51, .aload_n 0, 1), (52, .getfield 13, 3), (55, .iload 5, 2), (57, .aaload, 1), (58, .iconst 0, 1), (59, .aload_n 0, 1), (60, .getfield 34, 3), (63, .iload_n 1, 1), (64, .aaload, 1), (65, .iconst 0, 1), (66, .sipush 128, 3), (69, .invokestatic 73, 3), (72, .iinc 4 1, 3), (75, .goto (-70), 3), (78, .return_, 1)]
theorem tv_X2_keepValue : Tv cX2_keepValue tb_X2_keepValue := by
  unfold Tv
  decide +kernel
noncomputable def q_X2_keepValue_5 (N B gr : Nat) : Nat → CfT → Int32 → Int32 → Int32 → Int32 → Option (CfT)
  | 0, _, _, _, _, _ => none
  | n + 1, C, x1, x2, x3, x4 => if (cS C 207) ≤ x4 then some C else if x2 ≤ x3 then some C else nm (((cS C 206) + (x4)) - ((cS C 206) + (x4)) / ((256 : Int32)) * ((256 : Int32))) (fun v31 => ld (cA C 7) 256 v31 (fun v32 => if v32 = x1 then if (x3 + (1 : Int32)) = x2 then ixB 256 v31 (fun t33 => ixB N x1 (fun t34 => cpR C 0 t33 1 t34 (fun C35 => q_X2_keepValue_5 N B gr n C35 x1 x2 (x3 + (1 : Int32)) (x4 + (1 : Int32))))) else q_X2_keepValue_5 N B gr n C x1 x2 (x3 + (1 : Int32)) (x4 + (1 : Int32)) else q_X2_keepValue_5 N B gr n C x1 x2 x3 (x4 + (1 : Int32))))
noncomputable def q_X2_keepValue (N B gr : Nat) (C : CfT) (a0 : Int32) (a1 : Int32) : Option (CfT) := q_X2_keepValue_5 N B gr fuL C a0 a1 ((0 : Int32)) ((0 : Int32))
set_option maxRecDepth 100000 in
set_option maxHeartbeats 4000000 in
theorem lq_X2_keepValue_5 (E : gE) (f0 : Nat → va_E) (sz : Nat) (QA : Nat → Prop) (N B gr : Nat) (hz : CfZ E N B gr) : ∀ (n : Nat), ∀ (C : CfT) (x1 : Int32) (x2 : Int32) (x3 : Int32) (x4 : Int32) (C9 : CfT) (hr : q_X2_keepValue_5 N B gr n C x1 x2 x3 x4 = some C9) (f : Nat → va_E) (h : CfV E f N B gr C) (hf : Fr CfK f0 f), G E (1, yX2_keepValue, 6, none, sz, QA) cX2_keepValue (gO E (1, yX2_keepValue, 6, none, sz, QA) (fun v g => v = none ∧ CfV E g N B gr C9 ∧ Fr CfK f0 g, fun _ _ => False)) 5 [(0, .ref (gAd E (2))), (1, .int (x1)), (2, .int (x2)), (3, .int (x3)), (4, .int (x4))] [] f := by
  obtain ⟨z1, z2, z3, z4, z5, z6, z7⟩ := id hz
  intro n
  induction n with
  | zero =>
    intro C x1 x2 x3 x4 C9 hr f h hf
    cases hr
  | succ n ih =>
    intro C x1 x2 x3 x4 C9 hr f h hf
    unfold q_X2_keepValue_5 at hr
    refine G.go tv_X2_keepValue 2 8 [(0, .ref (gAd E (2))), (1, .int (x1)), (2, .int (x2)), (3, .int (x3)), (4, .int (x4))] [.ref (gAd E (2)), .int (x4)] rfl ?_
    refine G.getf cls_X2 (2) 7 (by omega) (h.q2) (by decide) rfl (tbd tv_X2_keepValue rfl) w_240 ?_
    refine G.cmp_ge 78 (tbd tv_X2_keepValue rfl) (by decide) (fun c11 => ?_) (fun c11 => ?_)
    · replace hr := ite_t c11 hr
      cases hr
      exact G.vret rfl ⟨rfl, h, hf⟩ (tbd tv_X2_keepValue rfl)
    · replace hr := ite_f c11 hr
      refine G.go tv_X2_keepValue 2 16 [(0, .ref (gAd E (2))), (1, .int (x1)), (2, .int (x2)), (3, .int (x3)), (4, .int (x4))] [.int (x2), .int (x3)] rfl ?_
      refine G.cmp_ge 78 (tbd tv_X2_keepValue rfl) (by decide) (fun c16 => ?_) (fun c16 => ?_)
      · replace hr := ite_t c16 hr
        cases hr
        exact G.vret rfl ⟨rfl, h, hf⟩ (tbd tv_X2_keepValue rfl)
      · replace hr := ite_f c16 hr
        refine G.go tv_X2_keepValue 1 20 [(0, .ref (gAd E (2))), (1, .int (x1)), (2, .int (x2)), (3, .int (x3)), (4, .int (x4))] [.ref (gAd E (2))] rfl ?_
        refine G.getf cls_X2 (2) 6 (by omega) (h.q2) (by decide) rfl (tbd tv_X2_keepValue rfl) w_239 ?_
        refine G.go tv_X2_keepValue 3 29 [(0, .ref (gAd E (2))), (1, .int (x1)), (2, .int (x2)), (3, .int (x3)), (4, .int (x4))] [.int ((256 : Int32)), .int ((cS C 206) + (x4))] rfl ?_
        refine G.irem (by decide) (tbd tv_X2_keepValue rfl) ?_
        refine G.go tv_X2_keepValue 1 32 [(0, .ref (gAd E (2))), (1, .int (x1)), (2, .int (x2)), (3, .int (x3)), (4, .int (x4)), (5, .int (((cS C 206) + (x4)) - ((cS C 206) + (x4)) / ((256 : Int32)) * ((256 : Int32))))] [] rfl ?_
        obtain ⟨v31, e31, hr⟩ := nm_s hr
        refine G.eql [(0, .ref (gAd E (2))), (1, .int (x1)), (2, .int (x2)), (3, .int (x3)), (4, .int (x4)), (5, .int (v31))] (by rw [e31]) ?_
        refine G.go tv_X2_keepValue 1 33 [(0, .ref (gAd E (2))), (1, .int (x1)), (2, .int (x2)), (3, .int (x3)), (4, .int (x4)), (5, .int (v31))] [.ref (gAd E (2))] rfl ?_
        refine G.getf cls_X2 (2) 5 (by omega) (h.q2) (by decide) rfl (tbd tv_X2_keepValue rfl) w_238 ?_
        refine G.go tv_X2_keepValue 1 38 [(0, .ref (gAd E (2))), (1, .int (x1)), (2, .int (x2)), (3, .int (x3)), (4, .int (x4)), (5, .int (v31))] [.int (v31), .ref (gAd E (7))] rfl ?_
        obtain ⟨v32, b32, e32, hr⟩ := ld_s hr
        refine G.ialdE (7) (by omega) (h.q7) b32 e32 (tbd tv_X2_keepValue rfl) ?_
        refine G.go tv_X2_keepValue 1 40 [(0, .ref (gAd E (2))), (1, .int (x1)), (2, .int (x2)), (3, .int (x3)), (4, .int (x4)), (5, .int (v31))] [.int (x1), .int (v32)] rfl ?_
        refine G.cmp_ne 72 (tbd tv_X2_keepValue rfl) (by decide) (fun c40 => ?_) (fun c40 => ?_)
        · replace hr := ite_f c40 hr
          refine G.go tv_X2_keepValue 2 5 [(0, .ref (gAd E (2))), (1, .int (x1)), (2, .int (x2)), (3, .int (x3)), (4, .int (x4 + (1 : Int32))), (5, .int (v31))] [] rfl ?_
          refine G.less [(0, .ref (gAd E (2))), (1, .int (x1)), (2, .int (x2)), (3, .int (x3)), (4, .int (x4 + (1 : Int32)))] [0, 1, 2, 3, 4] rfl ?_
          exact ih _ _ _ _ _ _ hr _ h hf
        · replace hr := ite_t c40 hr
          refine G.go tv_X2_keepValue 3 48 [(0, .ref (gAd E (2))), (1, .int (x1)), (2, .int (x2)), (3, .int (x3 + (1 : Int32))), (4, .int (x4)), (5, .int (v31))] [.int (x2), .int (x3 + (1 : Int32))] rfl ?_
          refine G.cmp_ne 72 (tbd tv_X2_keepValue rfl) (by decide) (fun c48 => ?_) (fun c48 => ?_)
          · replace hr := ite_f c48 hr
            refine G.go tv_X2_keepValue 2 5 [(0, .ref (gAd E (2))), (1, .int (x1)), (2, .int (x2)), (3, .int (x3 + (1 : Int32))), (4, .int (x4 + (1 : Int32))), (5, .int (v31))] [] rfl ?_
            refine G.less [(0, .ref (gAd E (2))), (1, .int (x1)), (2, .int (x2)), (3, .int (x3 + (1 : Int32))), (4, .int (x4 + (1 : Int32)))] [0, 1, 2, 3, 4] rfl ?_
            exact ih _ _ _ _ _ _ hr _ h hf
          · replace hr := ite_t c48 hr
            refine G.go tv_X2_keepValue 1 52 [(0, .ref (gAd E (2))), (1, .int (x1)), (2, .int (x2)), (3, .int (x3 + (1 : Int32))), (4, .int (x4)), (5, .int (v31))] [.ref (gAd E (2))] rfl ?_
            refine G.getf cls_X2 (2) 3 (by omega) (h.q2) (by decide) rfl (tbd tv_X2_keepValue rfl) w_234 ?_
            refine G.go tv_X2_keepValue 1 57 [(0, .ref (gAd E (2))), (1, .int (x1)), (2, .int (x2)), (3, .int (x3 + (1 : Int32))), (4, .int (x4)), (5, .int (v31))] [.int (v31), .ref (gAd E (5))] rfl ?_
            obtain ⟨t33, b33, e33, hr⟩ := ixB_s hr
            refine G.eqs [.int (nI t33), .ref (gAd E (5))] (by rw [e33]) ?_
            refine G.aaldN (5) t33 (by omega) (h.q5) b33 (by omega) (tbd tv_X2_keepValue rfl) ?_
            have hm33 : 0 < 5 ∧ t33 < rcn N B gr 0 := ⟨by decide, b33⟩
            refine G.eqs [.ref (gAd E (rba N B 0 + t33))] (by rw [rwA_at b33]; rfl) ?_
            refine G.go tv_X2_keepValue 2 60 [(0, .ref (gAd E (2))), (1, .int (x1)), (2, .int (x2)), (3, .int (x3 + (1 : Int32))), (4, .int (x4)), (5, .int (v31))] [.ref (gAd E (2)), .int ((0 : Int32)), .ref (gAd E (rba N B 0 + t33))] rfl ?_
            refine G.getf cls_X2 (2) 2 (by omega) (h.q2) (by decide) rfl (tbd tv_X2_keepValue rfl) w_232 ?_
            refine G.go tv_X2_keepValue 1 64 [(0, .ref (gAd E (2))), (1, .int (x1)), (2, .int (x2)), (3, .int (x3 + (1 : Int32))), (4, .int (x4)), (5, .int (v31))] [.int (x1), .ref (gAd E (4)), .int ((0 : Int32)), .ref (gAd E (rba N B 0 + t33))] rfl ?_
            obtain ⟨t34, b34, e34, hr⟩ := ixB_s hr
            refine G.eqs [.int (nI t34), .ref (gAd E (4)), .int ((0 : Int32)), .ref (gAd E (rba N B 0 + t33))] (by rw [e34]) ?_
            refine G.aaldN (4) t34 (by omega) (h.q4) b34 (by omega) (tbd tv_X2_keepValue rfl) ?_
            have hm34 : 1 < 5 ∧ t34 < rcn N B gr 1 := ⟨by decide, b34⟩
            refine G.eqs [.ref (gAd E (rba N B 1 + t34)), .int ((0 : Int32)), .ref (gAd E (rba N B 0 + t33))] (by rw [rwA_at b34]; rfl) ?_
            refine G.go tv_X2_keepValue 2 69 [(0, .ref (gAd E (2))), (1, .int (x1)), (2, .int (x2)), (3, .int (x3 + (1 : Int32))), (4, .int (x4)), (5, .int (v31))] [.int ((128 : Int32)), .int ((0 : Int32)), .ref (gAd E (rba N B 1 + t34)), .int ((0 : Int32)), .ref (gAd E (rba N B 0 + t33))] rfl ?_
            obtain ⟨C35, bx35, eC35, hr⟩ := cpR_s hr
            refine G.copyB (rba N B 0 + t33) (rba N B 1 + t34) (rk_lt hz hm33.1 hm33.2) (h.rk hm33.1 hm33.2) (rk_lt hz hm34.1 hm34.2) (h.rk hm34.1 hm34.2) w_753 w_755 w_754 w_167 (by decide) (by decide) (by decide) (by decide) (by decide) (fun i _ => bx35 _) (Nat.le_of_ble_eq_true rfl) (Nat.le_of_ble_eq_true rfl) (tbd tv_X2_keepValue rfl) ?_
            refine G.gen (P := fun w9 => CfV E w9 N B gr C35 ∧ Fr CfK f0 w9) ⟨by rw [eC35]; exact h.rkw hm34.1 hm34.2 _, Fr.c hf (by first | exact Or.inl (by decide) | exact Or.inr (by omega) | exact Or.inr (rk_ge _ _))⟩ (fun u35 p35 => ?_)
            obtain ⟨h35, k35⟩ := p35
            refine G.go tv_X2_keepValue 2 5 [(0, .ref (gAd E (2))), (1, .int (x1)), (2, .int (x2)), (3, .int (x3 + (1 : Int32))), (4, .int (x4 + (1 : Int32))), (5, .int (v31))] [] rfl ?_
            refine G.less [(0, .ref (gAd E (2))), (1, .int (x1)), (2, .int (x2)), (3, .int (x3 + (1 : Int32))), (4, .int (x4 + (1 : Int32)))] [0, 1, 2, 3, 4] rfl ?_
            exact ih _ _ _ _ _ _ hr _ h35 k35
set_option maxRecDepth 100000 in
set_option maxHeartbeats 4000000 in
theorem kq_X2_keepValue (E : gE) (f : Nat → va_E) (N B gr : Nat) (C : CfT) (hz : CfZ E N B gr) (h : CfV E f N B gr C) (a0 : Int32) (a1 : Int32) (C9 : CfT) (hr : q_X2_keepValue N B gr C a0 a1 = some C9) : Ct E 1 yX2_keepValue cX2_keepValue 6 none [.ref (gAd E (2)), .int (a0), .int (a1)] f (fun v g => v = none ∧ CfV E g N B gr C9 ∧ Fr CfK f g, fun _ _ => False) := by
  obtain ⟨z1, z2, z3, z4, z5, z6, z7⟩ := id hz
  refine Ct.of (by decide) (Nat.le_of_ble_eq_true rfl) (fun sz => ?_)
  refine G.eql [(0, .ref (gAd E (2))), (1, .int (a0)), (2, .int (a1))] rfl ?_
  unfold q_X2_keepValue at hr
  refine G.go tv_X2_keepValue 4 5 [(0, .ref (gAd E (2))), (1, .int (a0)), (2, .int (a1)), (3, .int ((0 : Int32))), (4, .int ((0 : Int32)))] [] rfl ?_
  refine G.less [(0, .ref (gAd E (2))), (1, .int (a0)), (2, .int (a1)), (3, .int ((0 : Int32))), (4, .int ((0 : Int32)))] [0, 1, 2, 3, 4] rfl ?_
  exact lq_X2_keepValue_5 E f sz _ N B gr hz _ _ _ _ _ _ _ hr _ h Fr.rf
def tb_X2_wake : List (Nat × Instr × Nat) := [(0, .iconst 0, 1), (1, .istore_n 3, 1), (2, .iconst 0, 1), (3, .istore 4, 2), (5, .iload 4, 2), (7, .aload_n 0, 1), (8, .getfield 28, 3), (11, .if_icmp .ge 70, 3), (14, .aload_n 0, 1), (15, .getfield 31, 3), (18, .iload 4, 2), (20, .iaload, 1), (21, .ifCond .le 54, 3), (24, .lload_n 1, 1), (25, .ldc2_w 85, 3), (28, .lmul, 1), (29, .ldc2_w 87, 3), (32, .ladd, 1), (33, .lstore_n 1, 1), (34, .aload_n 0, 1), (35, .iload 4, 2), (37, .lload_n 1, 1), (38, .bipush 33, 2), (40, .lushr, 1), (41, .iconst 1, 1), (42, .aload_n 0, 1), (43, .getfield 31, 3), (46, .iload 4, 2), (48, .iaload, 1), (49, .iadd, 1), (50, .i2l, 1), (51, .lrem, 1), (52, .l2i, 1), (53, .invokevirtual 89, 3), (56, .aload_n 0, 1), (57, .getfield 31, 3), (60, .iload 4, 2), (62, .iconst 0, 1), (63, .iastore, 1), (64, .aload_n 0, 1), (65, .getfield 37, 3), (68, .iload 4, 2), (70, .iconst (-1), 1), (71, .iastore, 1), (72, .iinc 3 1, 3), (75, .iinc 4 1, 3), (78, .goto (-73), 3), (81, .aload_n 0, 1), (82, .iconst 0, 1), (83, .putfield 64, 3), (86, .aload_n 0, 1), (87, .iconst 1, 1), (88, .putfield 20, 3), (91, .aload_n 0, 1), (92, .iconst (-1), 1), (93, .putfield 24, 3), (96, .iload_n 3, 1), (97, .ireturn, 1)]
theorem tv_X2_wake : Tv cX2_wake tb_X2_wake := by
  unfold Tv
  decide +kernel
theorem w_1907 : Cond.constantLong "LedgerFiles$Disk" 85 (6364136223846793005 : Int64) ∈ TB := tp_8 81 (by decide +kernel) rfl
theorem w_1908 : Cond.constantLong "LedgerFiles$Disk" 87 (1442695040888963407 : Int64) ∈ TB := tp_8 82 (by decide +kernel) rfl
theorem w_1909 : Cond.methodLink "LedgerFiles$Disk" 89 yX2_keepValue ∈ TB := tp_8 83 (by decide +kernel) rfl
theorem w_1912 : Cond.code yX2_keepValue prog_4_method_14_code 6 none ∈ TB := tp_8 86 rfl rfl
theorem cw_X2_89 : Cw RX2 89 yX2_keepValue cX2_keepValue 6 none 2 := ⟨w_1909, w_1912, w_149, by decide +kernel, by decide +kernel, by decide⟩
theorem w_1911 : Cond.instanceMethod yX2_keepValue ∈ TB := tp_8 85 (by decide +kernel) rfl
theorem w_42 : Cond.selects "LedgerFiles$Disk" yX2_keepValue yX2_keepValue ∈ TB := tp_0 42 (by decide +kernel) rfl
noncomputable def q_X2_wake_5 (N B gr : Nat) : Nat → CfT → Int64 → Int32 → Int32 → Option (Int32 × CfT)
  | 0, _, _, _, _ => none
  | n + 1, C, x1, x3, x4 => if (nI N) ≤ x4 then ptS C 207 ((0 : Int32)) (fun C36 => ptS C36 208 ((1 : Int32)) (fun C37 => ptS C37 209 ((-1 : Int32)) (fun C38 => some (x3, C38)))) else ld (cA C 3) N x4 (fun v39 => if v39 ≤ 0 then q_X2_wake_5 N B gr n C x1 x3 (x4 + (1 : Int32)) else nm64 (((x1) * ((6364136223846793005 : Int64))) + ((1442695040888963407 : Int64))) (fun v40 => ld (cA C 3) N x4 (fun v41 => nz64 ((((1 : Int32)) + (v41) : Int32).toInt64) (bnd (q_X2_keepValue N B gr C x4 (((((v40 : Int64).toUInt64 >>> (((33 : Int32) : Int32).toInt64.toUInt64 &&& Int64.toUInt64 63)).toInt64) - (((v40 : Int64).toUInt64 >>> (((33 : Int32) : Int32).toInt64.toUInt64 &&& Int64.toUInt64 63)).toInt64) / ((((1 : Int32)) + (v41) : Int32).toInt64) * ((((1 : Int32)) + (v41) : Int32).toInt64) : Int64).toInt32)) (fun C43 => stA C43 3 N x4 ((0 : Int32)) (fun C44 => stA C44 6 N x4 ((-1 : Int32)) (fun C45 => q_X2_wake_5 N B gr n C45 v40 (x3 + (1 : Int32)) (x4 + (1 : Int32)))))))))
noncomputable def q_X2_wake (N B gr : Nat) (C : CfT) (a0 : Int64) : Option (Int32 × CfT) := q_X2_wake_5 N B gr fuL C a0 ((0 : Int32)) ((0 : Int32))
set_option maxRecDepth 100000 in
set_option maxHeartbeats 4000000 in
theorem lq_X2_wake_5 (E : gE) (f0 : Nat → va_E) (sz : Nat) (QA : Nat → Prop) (N B gr : Nat) (hz : CfZ E N B gr) : ∀ (n : Nat), ∀ (C : CfT) (x1 : Int64) (x3 : Int32) (x4 : Int32) (r : Int32) (C9 : CfT) (hr : q_X2_wake_5 N B gr n C x1 x3 x4 = some (r, C9)) (f : Nat → va_E) (h : CfV E f N B gr C) (hf : Fr CfK f0 f), G E (2, yX2_wake, 5, (some .int), sz, QA) cX2_wake (gO E (2, yX2_wake, 5, (some .int), sz, QA) (fun v g => v = some (.int r) ∧ CfV E g N B gr C9 ∧ Fr CfK f0 g, fun _ _ => False)) 5 [(0, .ref (gAd E (2))), (1, .long (x1)), (3, .int (x3)), (4, .int (x4))] [] f := by
  obtain ⟨z1, z2, z3, z4, z5, z6, z7⟩ := id hz
  intro n
  induction n with
  | zero =>
    intro C x1 x3 x4 r C9 hr f h hf
    cases hr
  | succ n ih =>
    intro C x1 x3 x4 r C9 hr f h hf
    unfold q_X2_wake_5 at hr
    refine G.go tv_X2_wake 2 8 [(0, .ref (gAd E (2))), (1, .long (x1)), (3, .int (x3)), (4, .int (x4))] [.ref (gAd E (2)), .int (x4)] rfl ?_
    refine G.getf cls_X2 (2) 0 (by omega) (h.q2) (by decide) rfl (tbd tv_X2_wake rfl) w_227 ?_
    refine G.cmp_ge 81 (tbd tv_X2_wake rfl) (by decide) (fun c11 => ?_) (fun c11 => ?_)
    · replace hr := ite_t c11 hr
      refine G.go tv_X2_wake 2 83 [(0, .ref (gAd E (2))), (1, .long (x1)), (3, .int (x3)), (4, .int (x4))] [.int ((0 : Int32)), .ref (gAd E (2))] rfl ?_
      obtain ⟨C36, eC36, hr⟩ := ptS_s hr
      refine G.putfS cls_X2 (2) 7 [.int (nI N), .ref (gAd E 3), .ref (gAd E 4), .ref (gAd E 5), .ref (gAd E 6), .ref (gAd E 7), .int (cS C 206), .int ((0 : Int32)), .int (cS C 208), .int (cS C 209), .int (cS C 210), .int (cS C 211)] (by omega) (h.q2) rfl (by decide) rfl rfl rfl (Nat.le_of_ble_eq_true rfl) (tbd tv_X2_wake rfl) w_240 ?_
      refine G.gen (P := fun w9 => CfV E w9 N B gr C36 ∧ Fr CfK f0 w9) ⟨by rw [eC36]; exact h.s207 _, Fr.c hf (by first | exact Or.inl (by decide) | exact Or.inr (by omega) | exact Or.inr (rk_ge _ _))⟩ (fun u36 p36 => ?_)
      obtain ⟨h36, k36⟩ := p36
      refine G.go tv_X2_wake 2 88 [(0, .ref (gAd E (2))), (1, .long (x1)), (3, .int (x3)), (4, .int (x4))] [.int ((1 : Int32)), .ref (gAd E (2))] rfl ?_
      obtain ⟨C37, eC37, hr⟩ := ptS_s hr
      refine G.putfS cls_X2 (2) 8 [.int (nI N), .ref (gAd E 3), .ref (gAd E 4), .ref (gAd E 5), .ref (gAd E 6), .ref (gAd E 7), .int (cS C36 206), .int (cS C36 207), .int ((1 : Int32)), .int (cS C36 209), .int (cS C36 210), .int (cS C36 211)] (by omega) (h36.q2) rfl (by decide) rfl rfl rfl (Nat.le_of_ble_eq_true rfl) (tbd tv_X2_wake rfl) w_242 ?_
      refine G.gen (P := fun w9 => CfV E w9 N B gr C37 ∧ Fr CfK f0 w9) ⟨by rw [eC37]; exact h36.s208 _, Fr.c k36 (by first | exact Or.inl (by decide) | exact Or.inr (by omega) | exact Or.inr (rk_ge _ _))⟩ (fun u37 p37 => ?_)
      obtain ⟨h37, k37⟩ := p37
      refine G.go tv_X2_wake 2 93 [(0, .ref (gAd E (2))), (1, .long (x1)), (3, .int (x3)), (4, .int (x4))] [.int ((-1 : Int32)), .ref (gAd E (2))] rfl ?_
      obtain ⟨C38, eC38, hr⟩ := ptS_s hr
      refine G.putfS cls_X2 (2) 9 [.int (nI N), .ref (gAd E 3), .ref (gAd E 4), .ref (gAd E 5), .ref (gAd E 6), .ref (gAd E 7), .int (cS C37 206), .int (cS C37 207), .int (cS C37 208), .int ((-1 : Int32)), .int (cS C37 210), .int (cS C37 211)] (by omega) (h37.q2) rfl (by decide) rfl rfl rfl (Nat.le_of_ble_eq_true rfl) (tbd tv_X2_wake rfl) w_244 ?_
      refine G.gen (P := fun w9 => CfV E w9 N B gr C38 ∧ Fr CfK f0 w9) ⟨by rw [eC38]; exact h37.s209 _, Fr.c k37 (by first | exact Or.inl (by decide) | exact Or.inr (by omega) | exact Or.inr (rk_ge _ _))⟩ (fun u38 p38 => ?_)
      obtain ⟨h38, k38⟩ := p38
      refine G.go tv_X2_wake 1 97 [(0, .ref (gAd E (2))), (1, .long (x1)), (3, .int (x3)), (4, .int (x4))] [.int (x3)] rfl ?_
      cases hr
      exact G.iret rfl rfl ⟨rfl, h38, k38⟩ (tbd tv_X2_wake rfl)
    · replace hr := ite_f c11 hr
      refine G.go tv_X2_wake 1 15 [(0, .ref (gAd E (2))), (1, .long (x1)), (3, .int (x3)), (4, .int (x4))] [.ref (gAd E (2))] rfl ?_
      refine G.getf cls_X2 (2) 1 (by omega) (h.q2) (by decide) rfl (tbd tv_X2_wake rfl) w_230 ?_
      refine G.go tv_X2_wake 1 20 [(0, .ref (gAd E (2))), (1, .long (x1)), (3, .int (x3)), (4, .int (x4))] [.int (x4), .ref (gAd E (3))] rfl ?_
      obtain ⟨v39, b39, e39, hr⟩ := ld_s hr
      refine G.ialdE (3) (by omega) (h.q3) b39 e39 (tbd tv_X2_wake rfl) ?_
      refine G.if_le 75 (tbd tv_X2_wake rfl) (by decide) (fun c21 => ?_) (fun c21 => ?_)
      · replace hr := ite_t c21 hr
        refine G.go tv_X2_wake 2 5 [(0, .ref (gAd E (2))), (1, .long (x1)), (3, .int (x3)), (4, .int (x4 + (1 : Int32)))] [] rfl ?_
        refine G.less [(0, .ref (gAd E (2))), (1, .long (x1)), (3, .int (x3)), (4, .int (x4 + (1 : Int32)))] [0, 1, 2, 3] rfl ?_
        exact ih _ _ _ _ _ _ hr _ h hf
      · replace hr := ite_f c21 hr
        refine G.go tv_X2_wake 1 25 [(0, .ref (gAd E (2))), (1, .long (x1)), (3, .int (x3)), (4, .int (x4))] [.long (x1)] rfl ?_
        refine G.ldc2 (6364136223846793005) (tbd tv_X2_wake rfl) w_1907 ?_
        refine G.go tv_X2_wake 1 29 [(0, .ref (gAd E (2))), (1, .long (x1)), (3, .int (x3)), (4, .int (x4))] [.long ((x1) * ((6364136223846793005 : Int64)))] rfl ?_
        refine G.ldc2 (1442695040888963407) (tbd tv_X2_wake rfl) w_1908 ?_
        refine G.go tv_X2_wake 2 34 [(0, .ref (gAd E (2))), (1, .long (((x1) * ((6364136223846793005 : Int64))) + ((1442695040888963407 : Int64)))), (3, .int (x3)), (4, .int (x4))] [] rfl ?_
        obtain ⟨v40, e40, hr⟩ := nm64_s hr
        refine G.eql [(0, .ref (gAd E (2))), (1, .long (v40)), (3, .int (x3)), (4, .int (x4))] (by rw [e40]) ?_
        refine G.go tv_X2_wake 7 43 [(0, .ref (gAd E (2))), (1, .long (v40)), (3, .int (x3)), (4, .int (x4))] [.ref (gAd E (2)), .int ((1 : Int32)), .long (((v40 : Int64).toUInt64 >>> (((33 : Int32) : Int32).toInt64.toUInt64 &&& Int64.toUInt64 63)).toInt64), .int (x4), .ref (gAd E (2))] rfl ?_
        refine G.getf cls_X2 (2) 1 (by omega) (h.q2) (by decide) rfl (tbd tv_X2_wake rfl) w_230 ?_
        refine G.go tv_X2_wake 1 48 [(0, .ref (gAd E (2))), (1, .long (v40)), (3, .int (x3)), (4, .int (x4))] [.int (x4), .ref (gAd E (3)), .int ((1 : Int32)), .long (((v40 : Int64).toUInt64 >>> (((33 : Int32) : Int32).toInt64.toUInt64 &&& Int64.toUInt64 63)).toInt64), .int (x4), .ref (gAd E (2))] rfl ?_
        obtain ⟨v41, b41, e41, hr⟩ := ld_s hr
        refine G.ialdE (3) (by omega) (h.q3) b41 e41 (tbd tv_X2_wake rfl) ?_
        refine G.go tv_X2_wake 2 51 [(0, .ref (gAd E (2))), (1, .long (v40)), (3, .int (x3)), (4, .int (x4))] [.long ((((1 : Int32)) + (v41) : Int32).toInt64), .long (((v40 : Int64).toUInt64 >>> (((33 : Int32) : Int32).toInt64.toUInt64 &&& Int64.toUInt64 63)).toInt64), .int (x4), .ref (gAd E (2))] rfl ?_
        obtain ⟨nz42, hr⟩ := nz64_s hr
        refine G.lrem nz42 (tbd tv_X2_wake rfl) ?_
        refine G.go tv_X2_wake 1 53 [(0, .ref (gAd E (2))), (1, .long (v40)), (3, .int (x3)), (4, .int (x4))] [.int (((((v40 : Int64).toUInt64 >>> (((33 : Int32) : Int32).toInt64.toUInt64 &&& Int64.toUInt64 63)).toInt64) - (((v40 : Int64).toUInt64 >>> (((33 : Int32) : Int32).toInt64.toUInt64 &&& Int64.toUInt64 63)).toInt64) / ((((1 : Int32)) + (v41) : Int32).toInt64) * ((((1 : Int32)) + (v41) : Int32).toInt64) : Int64).toInt32), .int (x4), .ref (gAd E (2))] rfl ?_
        obtain ⟨C43, hv43, hr⟩ := bnd_s hr
        refine G.callV (2) [.int (x4), .int (((((v40 : Int64).toUInt64 >>> (((33 : Int32) : Int32).toInt64.toUInt64 &&& Int64.toUInt64 63)).toInt64) - (((v40 : Int64).toUInt64 >>> (((33 : Int32) : Int32).toInt64.toUInt64 &&& Int64.toUInt64 63)).toInt64) / ((((1 : Int32)) + (v41) : Int32).toInt64) * ((((1 : Int32)) + (v41) : Int32).toInt64) : Int64).toInt32)] [] (kq_X2_keepValue E _ N B gr C hz h x4 (((((v40 : Int64).toUInt64 >>> (((33 : Int32) : Int32).toInt64.toUInt64 &&& Int64.toUInt64 63)).toInt64) - (((v40 : Int64).toUInt64 >>> (((33 : Int32) : Int32).toInt64.toUInt64 &&& Int64.toUInt64 63)).toInt64) / ((((1 : Int32)) + (v41) : Int32).toInt64) * ((((1 : Int32)) + (v41) : Int32).toInt64) : Int64).toInt32) _ hv43) cls_X2 (by omega) (h.q2) cw_X2_89 w_1911 w_42 (Nat.le_of_ble_eq_true rfl) rfl (Nat.le_of_ble_eq_true rfl) (tbd tv_X2_wake rfl) (fun v43w f43 q43 => ?_) (fun _ _ h => h.elim)
        obtain ⟨rfl, ha43, fa43⟩ := q43
        refine G.eqs [] rfl ?_
        refine G.go tv_X2_wake 1 57 [(0, .ref (gAd E (2))), (1, .long (v40)), (3, .int (x3)), (4, .int (x4))] [.ref (gAd E (2))] rfl ?_
        refine G.getf cls_X2 (2) 1 (by omega) (ha43.q2) (by decide) rfl (tbd tv_X2_wake rfl) w_230 ?_
        refine G.go tv_X2_wake 2 63 [(0, .ref (gAd E (2))), (1, .long (v40)), (3, .int (x3)), (4, .int (x4))] [.int ((0 : Int32)), .int (x4), .ref (gAd E (3))] rfl ?_
        obtain ⟨C44, b44, eC44, hr⟩ := stA_s hr
        refine G.iast (3) (by omega) (ha43.q3) b44 (tbd tv_X2_wake rfl) ?_
        refine G.gen (P := fun w9 => CfV E w9 N B gr C44 ∧ Fr CfK f0 w9) ⟨by rw [eC44]; exact ha43.p3 _, Fr.c (hf.tr fa43 (fun _ h => h)) (by first | exact Or.inl (by decide) | exact Or.inr (by omega) | exact Or.inr (rk_ge _ _))⟩ (fun u44 p44 => ?_)
        obtain ⟨h44, k44⟩ := p44
        refine G.go tv_X2_wake 1 65 [(0, .ref (gAd E (2))), (1, .long (v40)), (3, .int (x3)), (4, .int (x4))] [.ref (gAd E (2))] rfl ?_
        refine G.getf cls_X2 (2) 4 (by omega) (h44.q2) (by decide) rfl (tbd tv_X2_wake rfl) w_236 ?_
        refine G.go tv_X2_wake 2 71 [(0, .ref (gAd E (2))), (1, .long (v40)), (3, .int (x3)), (4, .int (x4))] [.int ((-1 : Int32)), .int (x4), .ref (gAd E (6))] rfl ?_
        obtain ⟨C45, b45, eC45, hr⟩ := stA_s hr
        refine G.iast (6) (by omega) (h44.q6) b45 (tbd tv_X2_wake rfl) ?_
        refine G.gen (P := fun w9 => CfV E w9 N B gr C45 ∧ Fr CfK f0 w9) ⟨by rw [eC45]; exact h44.p6 _, Fr.c k44 (by first | exact Or.inl (by decide) | exact Or.inr (by omega) | exact Or.inr (rk_ge _ _))⟩ (fun u45 p45 => ?_)
        obtain ⟨h45, k45⟩ := p45
        refine G.go tv_X2_wake 3 5 [(0, .ref (gAd E (2))), (1, .long (v40)), (3, .int (x3 + (1 : Int32))), (4, .int (x4 + (1 : Int32)))] [] rfl ?_
        refine G.less [(0, .ref (gAd E (2))), (1, .long (v40)), (3, .int (x3 + (1 : Int32))), (4, .int (x4 + (1 : Int32)))] [0, 1, 2, 3] rfl ?_
        exact ih _ _ _ _ _ _ hr _ h45 k45
set_option maxRecDepth 100000 in
set_option maxHeartbeats 4000000 in
theorem kq_X2_wake (E : gE) (f : Nat → va_E) (N B gr : Nat) (C : CfT) (hz : CfZ E N B gr) (h : CfV E f N B gr C) (a0 : Int64) (r : Int32) (C9 : CfT) (hr : q_X2_wake N B gr C a0 = some (r, C9)) : Ct E 2 yX2_wake cX2_wake 5 (some .int) [.ref (gAd E (2)), .long (a0)] f (fun v g => v = some (.int r) ∧ CfV E g N B gr C9 ∧ Fr CfK f g, fun _ _ => False) := by
  obtain ⟨z1, z2, z3, z4, z5, z6, z7⟩ := id hz
  refine Ct.of (by decide) (Nat.le_of_ble_eq_true rfl) (fun sz => ?_)
  refine G.eql [(0, .ref (gAd E (2))), (1, .long (a0))] rfl ?_
  unfold q_X2_wake at hr
  refine G.go tv_X2_wake 4 5 [(0, .ref (gAd E (2))), (1, .long (a0)), (3, .int ((0 : Int32))), (4, .int ((0 : Int32)))] [] rfl ?_
  refine G.less [(0, .ref (gAd E (2))), (1, .long (a0)), (3, .int ((0 : Int32))), (4, .int ((0 : Int32)))] [0, 1, 2, 3] rfl ?_
  exact lq_X2_wake_5 E f sz _ N B gr hz _ _ _ _ _ _ _ hr _ h Fr.rf
def tb_X0_forget : List (Nat × Instr × Nat) := [(0, .aload_n 0, 1), (1, .getfield 33, 3), (4, .iconst (-1), 1), (5, .invokestatic 36, 3), (8, .aload_n 0, 1), (9, .getfield 24, 3), (12, .iconst 0, 1), (13, .invokestatic 36, 3), (16, .aload_n 0, 1), (17, .iconst 0, 1), (18, .putfield 57, 3), (21, .return_, 1)]
theorem tv_X0_forget : Tv cX0_forget tb_X0_forget := by
  unfold Tv
  decide +kernel
def q_X0_forget (N B gr : Nat) (C : CfT) : Option (CfT) := flD C 10 N ((-1 : Int32)) (fun C46 => flD C46 12 B ((0 : Int32)) (fun C47 => ptS C47 806 ((0 : Int32)) (fun C48 => some C48)))
set_option maxRecDepth 100000 in
set_option maxHeartbeats 4000000 in
theorem kq_X0_forget (E : gE) (f : Nat → va_E) (N B gr : Nat) (C : CfT) (hz : CfZ E N B gr) (h : CfV E f N B gr C) (C9 : CfT) (hr : q_X0_forget N B gr C = some C9) : Ct E 2 yX0_forget cX0_forget 1 none [.ref (gAd E (8))] f (fun v g => v = none ∧ CfV E g N B gr C9 ∧ Fr CfK f g, fun _ _ => False) := by
  obtain ⟨z1, z2, z3, z4, z5, z6, z7⟩ := id hz
  refine Ct.of (by decide) (Nat.le_of_ble_eq_true rfl) (fun sz => ?_)
  refine G.eql [(0, .ref (gAd E (8)))] rfl ?_
  unfold q_X0_forget at hr
  refine G.go tv_X0_forget 1 1 [(0, .ref (gAd E (8)))] [.ref (gAd E (8))] rfl ?_
  refine G.getf cls_X0 (8) 2 (by omega) (h.q8) (by decide) rfl (tbd tv_X0_forget rfl) w_286 ?_
  refine G.go tv_X0_forget 1 5 [(0, .ref (gAd E (8)))] [.int ((-1 : Int32)), .ref (gAd E (10))] rfl ?_
  obtain ⟨C46, eC46, hr⟩ := flD_s hr
  refine G.callS [.ref (gAd E (10)), .int ((-1 : Int32))] [] (c_J7_fill_53178 E _ 10 N _ ((-1 : Int32)) (by omega) (h.q10) (by omega)) cw_X0_36 w_223 (Nat.le_of_ble_eq_true rfl) rfl (Nat.le_of_ble_eq_true rfl) (tbd tv_X0_forget rfl) (fun v46w f46 q46 => ?_) (fun _ _ h => h.elim)
  obtain ⟨rfl, rfl⟩ := q46
  refine G.eqs [] rfl ?_
  refine G.gen (P := fun w9 => CfV E w9 N B gr C46 ∧ Fr CfK f w9) ⟨by rw [eC46]; exact h.p10 _, Fr.c Fr.rf (by first | exact Or.inl (by decide) | exact Or.inr (by omega) | exact Or.inr (rk_ge _ _))⟩ (fun u46 p46 => ?_)
  obtain ⟨h46, k46⟩ := p46
  refine G.go tv_X0_forget 1 9 [(0, .ref (gAd E (8)))] [.ref (gAd E (8))] rfl ?_
  refine G.getf cls_X0 (8) 4 (by omega) (h46.q8) (by decide) rfl (tbd tv_X0_forget rfl) w_289 ?_
  refine G.go tv_X0_forget 1 13 [(0, .ref (gAd E (8)))] [.int ((0 : Int32)), .ref (gAd E (12))] rfl ?_
  obtain ⟨C47, eC47, hr⟩ := flD_s hr
  refine G.callS [.ref (gAd E (12)), .int ((0 : Int32))] [] (c_J7_fill_53178 E _ 12 B _ ((0 : Int32)) (by omega) (h46.q12) (by omega)) cw_X0_36 w_223 (Nat.le_of_ble_eq_true rfl) rfl (Nat.le_of_ble_eq_true rfl) (tbd tv_X0_forget rfl) (fun v47w f47 q47 => ?_) (fun _ _ h => h.elim)
  obtain ⟨rfl, rfl⟩ := q47
  refine G.eqs [] rfl ?_
  refine G.gen (P := fun w9 => CfV E w9 N B gr C47 ∧ Fr CfK f w9) ⟨by rw [eC47]; exact h46.p12 _, Fr.c k46 (by first | exact Or.inl (by decide) | exact Or.inr (by omega) | exact Or.inr (rk_ge _ _))⟩ (fun u47 p47 => ?_)
  obtain ⟨h47, k47⟩ := p47
  refine G.go tv_X0_forget 2 18 [(0, .ref (gAd E (8)))] [.int ((0 : Int32)), .ref (gAd E (8))] rfl ?_
  obtain ⟨C48, eC48, hr⟩ := ptS_s hr
  refine G.putfS cls_X0 (8) 6 [.ref (gAd E 2), .ref (gAd E 9), .ref (gAd E 10), .ref (gAd E 11), .ref (gAd E 12), .int (cS C47 805), .int ((0 : Int32)), .int (cS C47 807)] (by omega) (h47.q8) rfl (by decide) rfl rfl rfl (Nat.le_of_ble_eq_true rfl) (tbd tv_X0_forget rfl) w_291 ?_
  refine G.gen (P := fun w9 => CfV E w9 N B gr C48 ∧ Fr CfK f w9) ⟨by rw [eC48]; exact h47.s806 _, Fr.c k47 (by first | exact Or.inl (by decide) | exact Or.inr (by omega) | exact Or.inr (rk_ge _ _))⟩ (fun u48 p48 => ?_)
  obtain ⟨h48, k48⟩ := p48
  cases hr
  exact G.vret rfl ⟨rfl, h48, k48⟩ (tbd tv_X0_forget rfl)
def q_X10_disown_2 (N B gr : Nat) : Nat → CfT → Int32 → Option (CfT)
  | 0, _, _ => none
  | n + 1, C, x1 => if (cS C 2508) ≤ x1 then ptS C 2508 ((0 : Int32)) (fun C49 => some C49) else ld (cA C 29) N x1 (fun v50 => stA C 27 N v50 (vp_nar .boolean ((0 : Int32))) (fun C51 => ld (cA C51 29) N x1 (fun v52 => stA C51 28 N v52 (vp_nar .boolean ((0 : Int32))) (fun C53 => q_X10_disown_2 N B gr n C53 (x1 + (1 : Int32))))))
def q_X10_disown (N B gr : Nat) (C : CfT) : Option (CfT) := q_X10_disown_2 N B gr fuL C ((0 : Int32))
set_option maxRecDepth 100000 in
set_option maxHeartbeats 4000000 in
theorem lq_X10_disown_2 (E : gE) (f0 : Nat → va_E) (sz : Nat) (QA : Nat → Prop) (N B gr : Nat) (hz : CfZ E N B gr) : ∀ (n : Nat), ∀ (C : CfT) (x1 : Int32) (C9 : CfT) (hr : q_X10_disown_2 N B gr n C x1 = some C9) (f : Nat → va_E) (h : CfV E f N B gr C) (hf : Fr CfK f0 f), G E (1, yX10_disown, 2, none, sz, QA) cX10_disown (gO E (1, yX10_disown, 2, none, sz, QA) (fun v g => v = none ∧ CfV E g N B gr C9 ∧ Fr CfK f0 g, fun _ _ => False)) 2 [(0, .ref (gAd E (25))), (1, .int (x1))] [] f := by
  obtain ⟨z1, z2, z3, z4, z5, z6, z7⟩ := id hz
  intro n
  induction n with
  | zero =>
    intro C x1 C9 hr f h hf
    cases hr
  | succ n ih =>
    intro C x1 C9 hr f h hf
    unfold q_X10_disown_2 at hr
    refine G.go tv_X10_disown 2 4 [(0, .ref (gAd E (25))), (1, .int (x1))] [.ref (gAd E (25)), .int (x1)] rfl ?_
    refine G.getf cls_X10 (25) 8 (by omega) (h.q25) (by decide) rfl (tbd tv_X10_disown rfl) w_418 ?_
    refine G.cmp_ge 40 (tbd tv_X10_disown rfl) (by decide) (fun c7 => ?_) (fun c7 => ?_)
    · replace hr := ite_t c7 hr
      refine G.go tv_X10_disown 2 42 [(0, .ref (gAd E (25))), (1, .int (x1))] [.int ((0 : Int32)), .ref (gAd E (25))] rfl ?_
      obtain ⟨C49, eC49, hr⟩ := ptS_s hr
      refine G.putfS cls_X10 (25) 8 [.ref (gAd E 2), .ref (gAd E 8), .ref (gAd E 13), .ref (gAd E 17), .ref (gAd E 26), .ref (gAd E 27), .ref (gAd E 28), .ref (gAd E 29), .int ((0 : Int32)), .ref (gAd E 30), .ref (gAd E 31), .int (cS C 2511)] (by omega) (h.q25) rfl (by decide) rfl rfl rfl (Nat.le_of_ble_eq_true rfl) (tbd tv_X10_disown rfl) w_418 ?_
      refine G.gen (P := fun w9 => CfV E w9 N B gr C49 ∧ Fr CfK f0 w9) ⟨by rw [eC49]; exact h.s2508 _, Fr.c hf (by first | exact Or.inl (by decide) | exact Or.inr (by omega) | exact Or.inr (rk_ge _ _))⟩ (fun u49 p49 => ?_)
      obtain ⟨h49, k49⟩ := p49
      cases hr
      exact G.vret rfl ⟨rfl, h49, k49⟩ (tbd tv_X10_disown rfl)
    · replace hr := ite_f c7 hr
      refine G.go tv_X10_disown 1 11 [(0, .ref (gAd E (25))), (1, .int (x1))] [.ref (gAd E (25))] rfl ?_
      refine G.getf cls_X10 (25) 5 (by omega) (h.q25) (by decide) rfl (tbd tv_X10_disown rfl) w_415 ?_
      refine G.go tv_X10_disown 1 15 [(0, .ref (gAd E (25))), (1, .int (x1))] [.ref (gAd E (25)), .ref (gAd E (27))] rfl ?_
      refine G.getf cls_X10 (25) 7 (by omega) (h.q25) (by decide) rfl (tbd tv_X10_disown rfl) w_417 ?_
      refine G.go tv_X10_disown 1 19 [(0, .ref (gAd E (25))), (1, .int (x1))] [.int (x1), .ref (gAd E (29)), .ref (gAd E (27))] rfl ?_
      obtain ⟨v50, b50, e50, hr⟩ := ld_s hr
      refine G.ialdE (29) (by omega) (h.q29) b50 e50 (tbd tv_X10_disown rfl) ?_
      refine G.go tv_X10_disown 1 21 [(0, .ref (gAd E (25))), (1, .int (x1))] [.int ((0 : Int32)), .int (v50), .ref (gAd E (27))] rfl ?_
      obtain ⟨C51, b51, eC51, hr⟩ := stA_s hr
      refine G.zast (27) (by omega) (h.q27) b51 (tbd tv_X10_disown rfl) ?_
      refine G.gen (P := fun w9 => CfV E w9 N B gr C51 ∧ Fr CfK f0 w9) ⟨by rw [eC51]; exact h.p27 _, Fr.c hf (by first | exact Or.inl (by decide) | exact Or.inr (by omega) | exact Or.inr (rk_ge _ _))⟩ (fun u51 p51 => ?_)
      obtain ⟨h51, k51⟩ := p51
      refine G.go tv_X10_disown 1 23 [(0, .ref (gAd E (25))), (1, .int (x1))] [.ref (gAd E (25))] rfl ?_
      refine G.getf cls_X10 (25) 6 (by omega) (h51.q25) (by decide) rfl (tbd tv_X10_disown rfl) w_416 ?_
      refine G.go tv_X10_disown 1 27 [(0, .ref (gAd E (25))), (1, .int (x1))] [.ref (gAd E (25)), .ref (gAd E (28))] rfl ?_
      refine G.getf cls_X10 (25) 7 (by omega) (h51.q25) (by decide) rfl (tbd tv_X10_disown rfl) w_417 ?_
      refine G.go tv_X10_disown 1 31 [(0, .ref (gAd E (25))), (1, .int (x1))] [.int (x1), .ref (gAd E (29)), .ref (gAd E (28))] rfl ?_
      obtain ⟨v52, b52, e52, hr⟩ := ld_s hr
      refine G.ialdE (29) (by omega) (h51.q29) b52 e52 (tbd tv_X10_disown rfl) ?_
      refine G.go tv_X10_disown 1 33 [(0, .ref (gAd E (25))), (1, .int (x1))] [.int ((0 : Int32)), .int (v52), .ref (gAd E (28))] rfl ?_
      obtain ⟨C53, b53, eC53, hr⟩ := stA_s hr
      refine G.zast (28) (by omega) (h51.q28) b53 (tbd tv_X10_disown rfl) ?_
      refine G.gen (P := fun w9 => CfV E w9 N B gr C53 ∧ Fr CfK f0 w9) ⟨by rw [eC53]; exact h51.p28 _, Fr.c k51 (by first | exact Or.inl (by decide) | exact Or.inr (by omega) | exact Or.inr (rk_ge _ _))⟩ (fun u53 p53 => ?_)
      obtain ⟨h53, k53⟩ := p53
      refine G.go tv_X10_disown 2 2 [(0, .ref (gAd E (25))), (1, .int (x1 + (1 : Int32)))] [] rfl ?_
      refine G.less [(0, .ref (gAd E (25))), (1, .int (x1 + (1 : Int32)))] [0, 1] rfl ?_
      exact ih _ _ _ hr _ h53 k53
set_option maxRecDepth 100000 in
set_option maxHeartbeats 4000000 in
theorem kq_X10_disown (E : gE) (f : Nat → va_E) (N B gr : Nat) (C : CfT) (hz : CfZ E N B gr) (h : CfV E f N B gr C) (C9 : CfT) (hr : q_X10_disown N B gr C = some C9) : Ct E 1 yX10_disown cX10_disown 2 none [.ref (gAd E (25))] f (fun v g => v = none ∧ CfV E g N B gr C9 ∧ Fr CfK f g, fun _ _ => False) := by
  obtain ⟨z1, z2, z3, z4, z5, z6, z7⟩ := id hz
  refine Ct.of (by decide) (Nat.le_of_ble_eq_true rfl) (fun sz => ?_)
  refine G.eql [(0, .ref (gAd E (25)))] rfl ?_
  unfold q_X10_disown at hr
  refine G.go tv_X10_disown 2 2 [(0, .ref (gAd E (25))), (1, .int ((0 : Int32)))] [] rfl ?_
  refine G.less [(0, .ref (gAd E (25))), (1, .int ((0 : Int32)))] [0, 1] rfl ?_
  exact lq_X10_disown_2 E f sz _ N B gr hz _ _ _ _ hr _ h Fr.rf
def q_X9_wakeForNone_5 (N B gr : Nat) : Nat → CfT → Int32 → Option (CfT)
  | 0, _, _ => none
  | n + 1, C, x1 => if (cS C 1711) ≤ x1 then ptS C 1711 (cS C 1712) (fun C54 => some C54) else ld (cA C 24) N x1 (fun v55 => stA C 23 N v55 (vp_nar .boolean ((0 : Int32))) (fun C56 => q_X9_wakeForNone_5 N B gr n C56 (x1 + (1 : Int32))))
def q_X9_wakeForNone (N B gr : Nat) (C : CfT) : Option (CfT) := q_X9_wakeForNone_5 N B gr fuL C (cS C 1712)
set_option maxRecDepth 100000 in
set_option maxHeartbeats 4000000 in
theorem lq_X9_wakeForNone_5 (E : gE) (f0 : Nat → va_E) (sz : Nat) (QA : Nat → Prop) (N B gr : Nat) (hz : CfZ E N B gr) : ∀ (n : Nat), ∀ (C : CfT) (x1 : Int32) (C9 : CfT) (hr : q_X9_wakeForNone_5 N B gr n C x1 = some C9) (f : Nat → va_E) (h : CfV E f N B gr C) (hf : Fr CfK f0 f), G E (1, yX9_wakeForNone, 2, none, sz, QA) cX9_wakeForNone (gO E (1, yX9_wakeForNone, 2, none, sz, QA) (fun v g => v = none ∧ CfV E g N B gr C9 ∧ Fr CfK f0 g, fun _ _ => False)) 5 [(0, .ref (gAd E (17))), (1, .int (x1))] [] f := by
  obtain ⟨z1, z2, z3, z4, z5, z6, z7⟩ := id hz
  intro n
  induction n with
  | zero =>
    intro C x1 C9 hr f h hf
    cases hr
  | succ n ih =>
    intro C x1 C9 hr f h hf
    unfold q_X9_wakeForNone_5 at hr
    refine G.go tv_X9_wakeForNone 2 7 [(0, .ref (gAd E (17))), (1, .int (x1))] [.ref (gAd E (17)), .int (x1)] rfl ?_
    refine G.getf cls_X9 (17) 11 (by omega) (h.q17) (by decide) rfl (tbd tv_X9_wakeForNone rfl) w_372 ?_
    refine G.cmp_ge 31 (tbd tv_X9_wakeForNone rfl) (by decide) (fun c10 => ?_) (fun c10 => ?_)
    · replace hr := ite_t c10 hr
      refine G.go tv_X9_wakeForNone 2 33 [(0, .ref (gAd E (17))), (1, .int (x1))] [.ref (gAd E (17)), .ref (gAd E (17))] rfl ?_
      refine G.getf cls_X9 (17) 12 (by omega) (h.q17) (by decide) rfl (tbd tv_X9_wakeForNone rfl) w_374 ?_
      obtain ⟨C54, eC54, hr⟩ := ptS_s hr
      refine G.putfS cls_X9 (17) 11 [.ref (gAd E 13), .ref (gAd E 18), .ref (gAd E 19), .ref (gAd E 20), .ref (gAd E 21), .int (cS C 1705), .ref (gAd E 22), .int (cS C 1707), .int (cS C 1708), .ref (gAd E 23), .ref (gAd E 24), .int (cS C 1712), .int (cS C 1712)] (by omega) (h.q17) rfl (by decide) rfl rfl rfl (Nat.le_of_ble_eq_true rfl) (tbd tv_X9_wakeForNone rfl) w_372 ?_
      refine G.gen (P := fun w9 => CfV E w9 N B gr C54 ∧ Fr CfK f0 w9) ⟨by rw [eC54]; exact h.s1711 _, Fr.c hf (by first | exact Or.inl (by decide) | exact Or.inr (by omega) | exact Or.inr (rk_ge _ _))⟩ (fun u54 p54 => ?_)
      obtain ⟨h54, k54⟩ := p54
      cases hr
      exact G.vret rfl ⟨rfl, h54, k54⟩ (tbd tv_X9_wakeForNone rfl)
    · replace hr := ite_f c10 hr
      refine G.go tv_X9_wakeForNone 1 14 [(0, .ref (gAd E (17))), (1, .int (x1))] [.ref (gAd E (17))] rfl ?_
      refine G.getf cls_X9 (17) 9 (by omega) (h.q17) (by decide) rfl (tbd tv_X9_wakeForNone rfl) w_369 ?_
      refine G.go tv_X9_wakeForNone 1 18 [(0, .ref (gAd E (17))), (1, .int (x1))] [.ref (gAd E (17)), .ref (gAd E (23))] rfl ?_
      refine G.getf cls_X9 (17) 10 (by omega) (h.q17) (by decide) rfl (tbd tv_X9_wakeForNone rfl) w_371 ?_
      refine G.go tv_X9_wakeForNone 1 22 [(0, .ref (gAd E (17))), (1, .int (x1))] [.int (x1), .ref (gAd E (24)), .ref (gAd E (23))] rfl ?_
      obtain ⟨v55, b55, e55, hr⟩ := ld_s hr
      refine G.ialdE (24) (by omega) (h.q24) b55 e55 (tbd tv_X9_wakeForNone rfl) ?_
      refine G.go tv_X9_wakeForNone 1 24 [(0, .ref (gAd E (17))), (1, .int (x1))] [.int ((0 : Int32)), .int (v55), .ref (gAd E (23))] rfl ?_
      obtain ⟨C56, b56, eC56, hr⟩ := stA_s hr
      refine G.zast (23) (by omega) (h.q23) b56 (tbd tv_X9_wakeForNone rfl) ?_
      refine G.gen (P := fun w9 => CfV E w9 N B gr C56 ∧ Fr CfK f0 w9) ⟨by rw [eC56]; exact h.p23 _, Fr.c hf (by first | exact Or.inl (by decide) | exact Or.inr (by omega) | exact Or.inr (rk_ge _ _))⟩ (fun u56 p56 => ?_)
      obtain ⟨h56, k56⟩ := p56
      refine G.go tv_X9_wakeForNone 2 5 [(0, .ref (gAd E (17))), (1, .int (x1 + (1 : Int32)))] [] rfl ?_
      refine G.less [(0, .ref (gAd E (17))), (1, .int (x1 + (1 : Int32)))] [0, 1] rfl ?_
      exact ih _ _ _ hr _ h56 k56
set_option maxRecDepth 100000 in
set_option maxHeartbeats 4000000 in
theorem kq_X9_wakeForNone (E : gE) (f : Nat → va_E) (N B gr : Nat) (C : CfT) (hz : CfZ E N B gr) (h : CfV E f N B gr C) (C9 : CfT) (hr : q_X9_wakeForNone N B gr C = some C9) : Ct E 1 yX9_wakeForNone cX9_wakeForNone 2 none [.ref (gAd E (17))] f (fun v g => v = none ∧ CfV E g N B gr C9 ∧ Fr CfK f g, fun _ _ => False) := by
  obtain ⟨z1, z2, z3, z4, z5, z6, z7⟩ := id hz
  refine Ct.of (by decide) (Nat.le_of_ble_eq_true rfl) (fun sz => ?_)
  refine G.eql [(0, .ref (gAd E (17)))] rfl ?_
  unfold q_X9_wakeForNone at hr
  refine G.go tv_X9_wakeForNone 1 1 [(0, .ref (gAd E (17)))] [.ref (gAd E (17))] rfl ?_
  refine G.getf cls_X9 (17) 12 (by omega) (h.q17) (by decide) rfl (tbd tv_X9_wakeForNone rfl) w_374 ?_
  refine G.go tv_X9_wakeForNone 1 5 [(0, .ref (gAd E (17))), (1, .int (cS C 1712))] [] rfl ?_
  refine G.less [(0, .ref (gAd E (17))), (1, .int (cS C 1712))] [0, 1] rfl ?_
  exact lq_X9_wakeForNone_5 E f sz _ N B gr hz _ _ _ _ hr _ h Fr.rf
def q_X10_discard (N B gr : Nat) (C : CfT) : Option (CfT) := bnd (q_X10_disown N B gr C) (fun C57 => bnd (q_X9_wakeForNone N B gr C57) (fun C58 => some C58))
set_option maxRecDepth 100000 in
set_option maxHeartbeats 4000000 in
theorem kq_X10_discard (E : gE) (f : Nat → va_E) (N B gr : Nat) (C : CfT) (hz : CfZ E N B gr) (h : CfV E f N B gr C) (C9 : CfT) (hr : q_X10_discard N B gr C = some C9) : Ct E 2 yX10_discard cX10_discard 1 none [.ref (gAd E (25))] f (fun v g => v = none ∧ CfV E g N B gr C9 ∧ Fr CfK f g, fun _ _ => False) := by
  obtain ⟨z1, z2, z3, z4, z5, z6, z7⟩ := id hz
  refine Ct.of (by decide) (Nat.le_of_ble_eq_true rfl) (fun sz => ?_)
  refine G.eql [(0, .ref (gAd E (25)))] rfl ?_
  unfold q_X10_discard at hr
  refine G.go tv_X10_discard 1 1 [(0, .ref (gAd E (25)))] [.ref (gAd E (25))] rfl ?_
  obtain ⟨C57, hv57, hr⟩ := bnd_s hr
  refine G.callV (25) [] [] (kq_X10_disown E _ N B gr C hz h _ hv57) cls_X10 (by omega) (h.q25) cw_X10_160 w_854 w_12 (Nat.le_of_ble_eq_true rfl) rfl (Nat.le_of_ble_eq_true rfl) (tbd tv_X10_discard rfl) (fun v57w f57 q57 => ?_) (fun _ _ h => h.elim)
  obtain ⟨rfl, ha57, fa57⟩ := q57
  refine G.eqs [] rfl ?_
  refine G.go tv_X10_discard 1 5 [(0, .ref (gAd E (25)))] [.ref (gAd E (25))] rfl ?_
  refine G.getf cls_X10 (25) 3 (by omega) (ha57.q25) (by decide) rfl (tbd tv_X10_discard rfl) w_413 ?_
  obtain ⟨C58, hv58, hr⟩ := bnd_s hr
  refine G.callV (17) [] [] (kq_X9_wakeForNone E _ N B gr C57 hz ha57 _ hv58) cls_X9 (by omega) (ha57.q17) cw_X10_163 w_857 w_858 (Nat.le_of_ble_eq_true rfl) rfl (Nat.le_of_ble_eq_true rfl) (tbd tv_X10_discard rfl) (fun v58w f58 q58 => ?_) (fun _ _ h => h.elim)
  obtain ⟨rfl, ha58, fa58⟩ := q58
  refine G.eqs [] rfl ?_
  cases hr
  exact G.vret rfl ⟨rfl, ha58, ((Fr.rf.tr fa57 (fun _ h => h)).tr fa58 (fun _ h => h))⟩ (tbd tv_X10_discard rfl)
def q_X9_forget (N B gr : Nat) (C : CfT) : Option (CfT) := flD C 20 N ((-1 : Int32)) (fun C59 => ptS C59 1707 ((0 : Int32)) (fun C60 => ptS C60 1708 ((0 : Int32)) (fun C61 => ptS C61 1712 ((0 : Int32)) (fun C62 => bnd (q_X9_wakeForNone N B gr C62) (fun C63 => some C63)))))
set_option maxRecDepth 100000 in
set_option maxHeartbeats 4000000 in
theorem kq_X9_forget (E : gE) (f : Nat → va_E) (N B gr : Nat) (C : CfT) (hz : CfZ E N B gr) (h : CfV E f N B gr C) (C9 : CfT) (hr : q_X9_forget N B gr C = some C9) : Ct E 2 yX9_forget cX9_forget 1 none [.ref (gAd E (17))] f (fun v g => v = none ∧ CfV E g N B gr C9 ∧ Fr CfK f g, fun _ _ => False) := by
  obtain ⟨z1, z2, z3, z4, z5, z6, z7⟩ := id hz
  refine Ct.of (by decide) (Nat.le_of_ble_eq_true rfl) (fun sz => ?_)
  refine G.eql [(0, .ref (gAd E (17)))] rfl ?_
  unfold q_X9_forget at hr
  refine G.go tv_X9_forget 1 1 [(0, .ref (gAd E (17)))] [.ref (gAd E (17))] rfl ?_
  refine G.getf cls_X9 (17) 3 (by omega) (h.q17) (by decide) rfl (tbd tv_X9_forget rfl) w_359 ?_
  refine G.go tv_X9_forget 1 5 [(0, .ref (gAd E (17)))] [.int ((-1 : Int32)), .ref (gAd E (20))] rfl ?_
  obtain ⟨C59, eC59, hr⟩ := flD_s hr
  refine G.callS [.ref (gAd E (20)), .int ((-1 : Int32))] [] (c_J7_fill_53178 E _ 20 N _ ((-1 : Int32)) (by omega) (h.q20) (by omega)) cw_X9_33 w_223 (Nat.le_of_ble_eq_true rfl) rfl (Nat.le_of_ble_eq_true rfl) (tbd tv_X9_forget rfl) (fun v59w f59 q59 => ?_) (fun _ _ h => h.elim)
  obtain ⟨rfl, rfl⟩ := q59
  refine G.eqs [] rfl ?_
  refine G.gen (P := fun w9 => CfV E w9 N B gr C59 ∧ Fr CfK f w9) ⟨by rw [eC59]; exact h.p20 _, Fr.c Fr.rf (by first | exact Or.inl (by decide) | exact Or.inr (by omega) | exact Or.inr (rk_ge _ _))⟩ (fun u59 p59 => ?_)
  obtain ⟨h59, k59⟩ := p59
  refine G.go tv_X9_forget 2 10 [(0, .ref (gAd E (17)))] [.int ((0 : Int32)), .ref (gAd E (17))] rfl ?_
  obtain ⟨C60, eC60, hr⟩ := ptS_s hr
  refine G.putfS cls_X9 (17) 7 [.ref (gAd E 13), .ref (gAd E 18), .ref (gAd E 19), .ref (gAd E 20), .ref (gAd E 21), .int (cS C59 1705), .ref (gAd E 22), .int ((0 : Int32)), .int (cS C59 1708), .ref (gAd E 23), .ref (gAd E 24), .int (cS C59 1711), .int (cS C59 1712)] (by omega) (h59.q17) rfl (by decide) rfl rfl rfl (Nat.le_of_ble_eq_true rfl) (tbd tv_X9_forget rfl) w_366 ?_
  refine G.gen (P := fun w9 => CfV E w9 N B gr C60 ∧ Fr CfK f w9) ⟨by rw [eC60]; exact h59.s1707 _, Fr.c k59 (by first | exact Or.inl (by decide) | exact Or.inr (by omega) | exact Or.inr (rk_ge _ _))⟩ (fun u60 p60 => ?_)
  obtain ⟨h60, k60⟩ := p60
  refine G.go tv_X9_forget 2 15 [(0, .ref (gAd E (17)))] [.int ((0 : Int32)), .ref (gAd E (17))] rfl ?_
  obtain ⟨C61, eC61, hr⟩ := ptS_s hr
  refine G.putfS cls_X9 (17) 8 [.ref (gAd E 13), .ref (gAd E 18), .ref (gAd E 19), .ref (gAd E 20), .ref (gAd E 21), .int (cS C60 1705), .ref (gAd E 22), .int (cS C60 1707), .int ((0 : Int32)), .ref (gAd E 23), .ref (gAd E 24), .int (cS C60 1711), .int (cS C60 1712)] (by omega) (h60.q17) rfl (by decide) rfl rfl rfl (Nat.le_of_ble_eq_true rfl) (tbd tv_X9_forget rfl) w_367 ?_
  refine G.gen (P := fun w9 => CfV E w9 N B gr C61 ∧ Fr CfK f w9) ⟨by rw [eC61]; exact h60.s1708 _, Fr.c k60 (by first | exact Or.inl (by decide) | exact Or.inr (by omega) | exact Or.inr (rk_ge _ _))⟩ (fun u61 p61 => ?_)
  obtain ⟨h61, k61⟩ := p61
  refine G.go tv_X9_forget 2 20 [(0, .ref (gAd E (17)))] [.int ((0 : Int32)), .ref (gAd E (17))] rfl ?_
  obtain ⟨C62, eC62, hr⟩ := ptS_s hr
  refine G.putfS cls_X9 (17) 12 [.ref (gAd E 13), .ref (gAd E 18), .ref (gAd E 19), .ref (gAd E 20), .ref (gAd E 21), .int (cS C61 1705), .ref (gAd E 22), .int (cS C61 1707), .int (cS C61 1708), .ref (gAd E 23), .ref (gAd E 24), .int (cS C61 1711), .int ((0 : Int32))] (by omega) (h61.q17) rfl (by decide) rfl rfl rfl (Nat.le_of_ble_eq_true rfl) (tbd tv_X9_forget rfl) w_374 ?_
  refine G.gen (P := fun w9 => CfV E w9 N B gr C62 ∧ Fr CfK f w9) ⟨by rw [eC62]; exact h61.s1712 _, Fr.c k61 (by first | exact Or.inl (by decide) | exact Or.inr (by omega) | exact Or.inr (rk_ge _ _))⟩ (fun u62 p62 => ?_)
  obtain ⟨h62, k62⟩ := p62
  refine G.go tv_X9_forget 1 24 [(0, .ref (gAd E (17)))] [.ref (gAd E (17))] rfl ?_
  obtain ⟨C63, hv63, hr⟩ := bnd_s hr
  refine G.callV (17) [] [] (kq_X9_wakeForNone E _ N B gr C62 hz h62 _ hv63) cls_X9 (by omega) (h62.q17) cw_X9_56 w_857 w_858 (Nat.le_of_ble_eq_true rfl) rfl (Nat.le_of_ble_eq_true rfl) (tbd tv_X9_forget rfl) (fun v63w f63 q63 => ?_) (fun _ _ h => h.elim)
  obtain ⟨rfl, ha63, fa63⟩ := q63
  refine G.eqs [] rfl ?_
  cases hr
  exact G.vret rfl ⟨rfl, ha63, (k62.tr fa63 (fun _ h => h))⟩ (tbd tv_X9_forget rfl)
def tb_X10_reset : List (Nat × Instr × Nat) := [(0, .aload_n 0, 1), (1, .invokevirtual 56, 3), (4, .aload_n 0, 1), (5, .getfield 30, 3), (8, .invokevirtual 59, 3), (11, .aload_n 0, 1), (12, .iconst 0, 1), (13, .putfield 64, 3), (16, .return_, 1)]
theorem tv_X10_reset : Tv cX10_reset tb_X10_reset := by
  unfold Tv
  decide +kernel
theorem w_860 : Cond.methodLink "LedgerFiles$View" 59 yX9_forget ∈ TB := tp_3 234 (by decide +kernel) rfl
theorem w_863 : Cond.code yX9_forget prog_11_method_2_code 1 none ∈ TB := tp_3 237 rfl rfl
theorem cw_X10_59 : Cw RX10 59 yX9_forget cX9_forget 1 none 0 := ⟨w_860, w_863, w_154, by decide +kernel, by decide +kernel, by decide⟩
theorem w_861 : Cond.instanceMethod yX9_forget ∈ TB := tp_3 235 (by decide +kernel) rfl
theorem w_862 : Cond.selects "LedgerFiles$Queue" yX9_forget yX9_forget ∈ TB := tp_3 236 (by decide +kernel) rfl
def q_X10_reset (N B gr : Nat) (C : CfT) : Option (CfT) := bnd (q_X10_discard N B gr C) (fun C64 => bnd (q_X9_forget N B gr C64) (fun C65 => ptS C65 2511 ((0 : Int32)) (fun C66 => some C66)))
set_option maxRecDepth 100000 in
set_option maxHeartbeats 4000000 in
theorem kq_X10_reset (E : gE) (f : Nat → va_E) (N B gr : Nat) (C : CfT) (hz : CfZ E N B gr) (h : CfV E f N B gr C) (C9 : CfT) (hr : q_X10_reset N B gr C = some C9) : Ct E 3 yX10_reset cX10_reset 1 none [.ref (gAd E (25))] f (fun v g => v = none ∧ CfV E g N B gr C9 ∧ Fr CfK f g, fun _ _ => False) := by
  obtain ⟨z1, z2, z3, z4, z5, z6, z7⟩ := id hz
  refine Ct.of (by decide) (Nat.le_of_ble_eq_true rfl) (fun sz => ?_)
  refine G.eql [(0, .ref (gAd E (25)))] rfl ?_
  unfold q_X10_reset at hr
  refine G.go tv_X10_reset 1 1 [(0, .ref (gAd E (25)))] [.ref (gAd E (25))] rfl ?_
  obtain ⟨C64, hv64, hr⟩ := bnd_s hr
  refine G.callV (25) [] [] (kq_X10_discard E _ N B gr C hz h _ hv64) cls_X10 (by omega) (h.q25) cw_X10_56 w_849 w_850 (Nat.le_of_ble_eq_true rfl) rfl (Nat.le_of_ble_eq_true rfl) (tbd tv_X10_reset rfl) (fun v64w f64 q64 => ?_) (fun _ _ h => h.elim)
  obtain ⟨rfl, ha64, fa64⟩ := q64
  refine G.eqs [] rfl ?_
  refine G.go tv_X10_reset 1 5 [(0, .ref (gAd E (25)))] [.ref (gAd E (25))] rfl ?_
  refine G.getf cls_X10 (25) 3 (by omega) (ha64.q25) (by decide) rfl (tbd tv_X10_reset rfl) w_413 ?_
  obtain ⟨C65, hv65, hr⟩ := bnd_s hr
  refine G.callV (17) [] [] (kq_X9_forget E _ N B gr C64 hz ha64 _ hv65) cls_X9 (by omega) (ha64.q17) cw_X10_59 w_861 w_862 (Nat.le_of_ble_eq_true rfl) rfl (Nat.le_of_ble_eq_true rfl) (tbd tv_X10_reset rfl) (fun v65w f65 q65 => ?_) (fun _ _ h => h.elim)
  obtain ⟨rfl, ha65, fa65⟩ := q65
  refine G.eqs [] rfl ?_
  refine G.go tv_X10_reset 2 13 [(0, .ref (gAd E (25)))] [.int ((0 : Int32)), .ref (gAd E (25))] rfl ?_
  obtain ⟨C66, eC66, hr⟩ := ptS_s hr
  refine G.putfS cls_X10 (25) 11 [.ref (gAd E 2), .ref (gAd E 8), .ref (gAd E 13), .ref (gAd E 17), .ref (gAd E 26), .ref (gAd E 27), .ref (gAd E 28), .ref (gAd E 29), .int (cS C65 2508), .ref (gAd E 30), .ref (gAd E 31), .int ((0 : Int32))] (by omega) (ha65.q25) rfl (by decide) rfl rfl rfl (Nat.le_of_ble_eq_true rfl) (tbd tv_X10_reset rfl) w_422 ?_
  refine G.gen (P := fun w9 => CfV E w9 N B gr C66 ∧ Fr CfK f w9) ⟨by rw [eC66]; exact ha65.s2511 _, Fr.c ((Fr.rf.tr fa64 (fun _ h => h)).tr fa65 (fun _ h => h)) (by first | exact Or.inl (by decide) | exact Or.inr (by omega) | exact Or.inr (rk_ge _ _))⟩ (fun u66 p66 => ?_)
  obtain ⟨h66, k66⟩ := p66
  cases hr
  exact G.vret rfl ⟨rfl, h66, k66⟩ (tbd tv_X10_reset rfl)
def q_X5_reset (N B gr : Nat) (C : CfT) : Option (CfT) := flD C 33 65 ((0 : Int32)) (fun C67 => flD C67 34 32 ((0 : Int32)) (fun C68 => some C68))
set_option maxRecDepth 100000 in
set_option maxHeartbeats 4000000 in
theorem kq_X5_reset (E : gE) (f : Nat → va_E) (N B gr : Nat) (C : CfT) (hz : CfZ E N B gr) (h : CfV E f N B gr C) (C9 : CfT) (hr : q_X5_reset N B gr C = some C9) : Ct E 2 yX5_reset cX5_reset 1 none [.ref (gAd E (32))] f (fun v g => v = none ∧ CfV E g N B gr C9 ∧ Fr CfK f g, fun _ _ => False) := by
  obtain ⟨z1, z2, z3, z4, z5, z6, z7⟩ := id hz
  refine Ct.of (by decide) (Nat.le_of_ble_eq_true rfl) (fun sz => ?_)
  refine G.eql [(0, .ref (gAd E (32)))] rfl ?_
  unfold q_X5_reset at hr
  refine G.go tv_X5_reset 1 1 [(0, .ref (gAd E (32)))] [.ref (gAd E (32))] rfl ?_
  refine G.getf cls_X5 (32) 0 (by omega) (h.q32) (by decide) rfl (tbd tv_X5_reset rfl) w_455 ?_
  refine G.go tv_X5_reset 1 5 [(0, .ref (gAd E (32)))] [.int ((0 : Int32)), .ref (gAd E (33))] rfl ?_
  obtain ⟨C67, eC67, hr⟩ := flD_s hr
  refine G.callS [.ref (gAd E (33)), .int ((0 : Int32))] [] (c_J7_fill_53178 E _ 33 65 _ ((0 : Int32)) (by omega) (h.q33) (by omega)) cw_X5_24 w_223 (Nat.le_of_ble_eq_true rfl) rfl (Nat.le_of_ble_eq_true rfl) (tbd tv_X5_reset rfl) (fun v67w f67 q67 => ?_) (fun _ _ h => h.elim)
  obtain ⟨rfl, rfl⟩ := q67
  refine G.eqs [] rfl ?_
  refine G.gen (P := fun w9 => CfV E w9 N B gr C67 ∧ Fr CfK f w9) ⟨by rw [eC67]; exact h.p33 _, Fr.c Fr.rf (by first | exact Or.inl (by decide) | exact Or.inr (by omega) | exact Or.inr (rk_ge _ _))⟩ (fun u67 p67 => ?_)
  obtain ⟨h67, k67⟩ := p67
  refine G.go tv_X5_reset 1 9 [(0, .ref (gAd E (32)))] [.ref (gAd E (32))] rfl ?_
  refine G.getf cls_X5 (32) 1 (by omega) (h67.q32) (by decide) rfl (tbd tv_X5_reset rfl) w_457 ?_
  refine G.go tv_X5_reset 1 13 [(0, .ref (gAd E (32)))] [.int ((0 : Int32)), .ref (gAd E (34))] rfl ?_
  obtain ⟨C68, eC68, hr⟩ := flD_s hr
  refine G.callS [.ref (gAd E (34)), .int ((0 : Int32))] [] (c_J7_fill_53178 E _ 34 32 _ ((0 : Int32)) (by omega) (h67.q34) (by omega)) cw_X5_24 w_223 (Nat.le_of_ble_eq_true rfl) rfl (Nat.le_of_ble_eq_true rfl) (tbd tv_X5_reset rfl) (fun v68w f68 q68 => ?_) (fun _ _ h => h.elim)
  obtain ⟨rfl, rfl⟩ := q68
  refine G.eqs [] rfl ?_
  refine G.gen (P := fun w9 => CfV E w9 N B gr C68 ∧ Fr CfK f w9) ⟨by rw [eC68]; exact h67.p34 _, Fr.c k67 (by first | exact Or.inl (by decide) | exact Or.inr (by omega) | exact Or.inr (rk_ge _ _))⟩ (fun u68 p68 => ?_)
  obtain ⟨h68, k68⟩ := p68
  cases hr
  exact G.vret rfl ⟨rfl, h68, k68⟩ (tbd tv_X5_reset rfl)
