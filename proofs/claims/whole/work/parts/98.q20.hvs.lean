/-! ===== pure: blocks for a row of places ===== -/
section PYT
variable {N B gr r u : Nat} {V V1 V2 W : Nat → Rw} {m m1 m2 m' : M5} {tk tk1 tk2 tk' : Nat → Bool} {A A1 A2 A' : MS} {D D1 D2 D' : CfT} {R R1 R2 R' : RfT} {i p k a to : Nat}
/-- only what is told as fresh changed besides -/
def D4 (D D' : CfT) : Prop := (∀ j, j ≠ 2508 → D'.1 j = D.1 j) ∧ (∀ k, k ≠ 29 → k ≠ 43 → D'.2.1 k = D.2.1 k)
theorem D4.tr (a : D4 D D1) (b : D4 D1 D2) : D4 D D2 := ⟨fun j h => (b.1 j h).trans (a.1 j h), fun k h h2 => (b.2 k h h2).trans (a.2 k h h2)⟩
theorem Dt.d4 (a : Dt D D') : D4 D D' := ⟨a.1, fun k h _ => a.2 k h⟩
theorem D4.s {x : Nat → Int32} (a : D4 D D') : D4 D (sA D' 43 x) := ⟨a.1, fun k h h2 => by
  show cA (sA D' 43 x) k = _
  rw [cA_n h2]
  exact a.2 k h h2⟩
theorem D4.rf : D4 D D := ⟨fun _ _ => rfl, fun _ _ _ => rfl⟩
/-- inode i, a file, got the blocks of Y -/
def HvR (N B gr r i : Nat) (Y : Nat → Prop) (A : MS) (D : CfT) (R : RfT) (m : M5) (V : Nat → Rw) (tk : Nat → Bool) (A' : MS) (D' : CfT) (R' : RfT) (m' : M5) (V' : Nat → Rw) (tk' : Nat → Bool) : Prop := JH N B gr r A' D' R' m' V' tk' ∧ Gr N i false Y V V' ∧ gA A' = gA A ∧ D4 D D' ∧ Fq hS hT R R' ∧ F49 V V' R R' ∧ Flr N B m m' ∧ TkG i false Y V V' tk tk' ∧ OwG i false V' A A' R R'
theorem HvR.rf {Y : Nat → Prop} (h : JH N B gr r A D R m V tk) : HvR N B gr r i Y A D R m V tk A D R m V tk := ⟨h, Gr.rf, rfl, D4.rf, Fq.rf, F49.rf rfl, Flr.rf, TkG.rf, OwG.rf⟩
theorem HvR.tr {r1 : Nat} {Y : Nat → Prop} (hi : ir i) (hw : PW N V) (a : HvR N B gr r1 i Y A D R m V tk A1 D1 R1 m1 V1 tk1) (b : HvR N B gr r i Y A1 D1 R1 m1 V1 tk1 A2 D2 R2 m2 V2 tk2) : HvR N B gr r i Y A D R m V tk A2 D2 R2 m2 V2 tk2 := by
  obtain ⟨a1, a2, a3, a4, a5, a6, a7, a8, a9⟩ := a
  obtain ⟨b1, b2, b3, b4, b5, b6, b7, b8, b9⟩ := b
  exact ⟨b1, a2.tr hi hw a1.2.1 b2, b3.trans a3, a4.tr b4, a5.tr b5, a6.tr b6 (a2.mono hw a1.2.1) (b2.mono a1.2.1 b1.2.1), a7.tr b7, a8.tr hi b8 b2, a9.tr hi b9 b2⟩
theorem HvR.wk {Y Y2 : Nat → Prop} (a : HvR N B gr r i Y A D R m V tk A1 D1 R1 m1 V1 tk1) (h : ∀ y, Y y → Y2 y) : HvR N B gr r i Y2 A D R m V tk A1 D1 R1 m1 V1 tk1 := by
  obtain ⟨a1, a2, a3, a4, a5, a6, a7, a8, a9⟩ := a
  exact ⟨a1, a2.wk h, a3, a4, a5, a6, a7, a8.wk h, a9⟩
theorem HvR.d43 {Y : Nat → Prop} {x : Nat → Int32} (a : HvR N B gr r i Y A D R m V tk A1 D1 R1 m1 V1 tk1) : HvR N B gr r i Y A D R m V tk A1 (sA D1 43 x) R1 m1 V1 tk1 := by
  obtain ⟨⟨⟨a1, a1r⟩, a1b⟩, a2, a3, a4, a9⟩ := a
  exact ⟨⟨⟨a1.dd (show cS (sA D1 43 x) 2508 = cS D1 2508 from rfl) (cA_n (by decide)), a1r⟩, a1b⟩, a2, a3, a4.s, a9⟩
def yR (p to : Nat) (y : Nat) : Prop := ∃ q, p ≤ q ∧ q ≤ to ∧ pY q y
theorem nar_b (b : Bool) : vp_nar .boolean (bI b) = bI b := by cases b <;> decide
theorem pk_mn {q a : Nat} (h : a ≤ q) : nI q - nI a = nI (q - a) := pk_sub h
theorem j_haves_1 {at1 cn kc kr : Nat} (hN1 : 61 ≤ N) (hN : N ≤ 1024) (hi : ir i) (hto : to < 4168) (h17 : to - a < 17) : ∀ (n p : Nat) (A : MS) (D : CfT) (R : RfT) (m : M5) (V : Nat → Rw) (tk : Nat → Bool), p + n = to + 1 → a ≤ p → JH N B gr (r + wnF V i true p n) A D R m V tk → (∃ A' D' R' m' V' tk', d_X3_store_1_84 N B gr (n + (kc + 1)) A D (nI i) (nI at1) (nI cn) (nI a) (nI to) (nI p) = d_X3_store_1_84 N B gr (kc + 1) A' D' (nI i) (nI at1) (nI cn) (nI a) (nI to) (nI (to + 1)) ∧ e_have_19 (n + (kr + 1)) R (nI i) (nI to) (bI false) (nI p) = some R' ∧ HvR N B gr r i (yR p to) A D R m V tk A' D' R' m' V' tk' ∧ (∀ q, p ≤ q → q ≤ to → pv V' i (px q) ≠ 0) ∧ (∀ q, p ≤ q → q ≤ to → cA D' 43 (q - a) = bI (decide (pv V i (px q) = 0))) ∧ (∀ q, a ≤ q → q < p → cA D' 43 (q - a) = cA D 43 (q - a))) ∨ (∃ A' D' R', d_X3_store_1_84 N B gr (n + (kc + 1)) A D (nI i) (nI at1) (nI cn) (nI a) (nI to) (nI p) = some (.inr (0, A', D')) ∧ e_have_19 (n + (kr + 1)) R (nI i) (nI to) (bI false) (nI p) = some R' ∧ Dd N R A'.1 R' ∧ D4 D D' ∧ FlT N B m A' D') := by
  intro n
  induction n with
  | zero =>
    intro p A D R m V tk hp hap h
    have hp : p = to + 1 := by omega
    subst hp
    rw [Nat.zero_add, Nat.zero_add]
    refine Or.inl ⟨A, D, R, m, V, tk, rfl, ?_, HvR.rf h, fun q q1 q2 => by omega, fun q q1 q2 => by omega, fun _ _ _ => rfl⟩
    rw [e_have_19, if_pos (nI_lt (by omega) (by omega))]
  | succ n ih =>
    intro p A D R m V tk hp hap h
    have hpt : p ≤ to := by omega
    have hp4 : p < 4168 := by omega
    have ew : wnF V i true p (n + 1) = msM V i p + wnF V i false (p + 1) n := by
      show wq V i true p + wnF V i false (p + 1) n = _
      rw [wq_t hp4]
    have h0 : JH N B gr ((r + wnF V i false (p + 1) n) + msM V i p) A D R m V tk := by
      rw [ew] at h
      rw [show r + wnF V i false (p + 1) n + msM V i p = r + (msM V i p + wnF V i false (p + 1) n) by omega]
      exact h
    have hw := h.2.1
    have e1 : d_X3_store_1_84 N B gr (n + 1 + (kc + 1)) A D (nI i) (nI at1) (nI cn) (nI a) (nI to) (nI p) = bndF (d_X7_have N B gr A D (nI i) (nI p) (bI false)) (fun v10 A10 D10 => d_X3_store_1_84 N B gr (n + (kc + 1)) A10 (sA D10 43 (upd (cA D10 43) (p - a) (vp_nar .boolean v10))) (nI i) (nI at1) (nI cn) (nI a) (nI to) (nI (p + 1))) := by
      rw [show n + 1 + (kc + 1) = (n + (kc + 1)) + 1 by omega, d_X3_store_1_84, if_neg (nI_nlt hpt (by omega)), pk_mn hap, nI_1]
      congr 1
      funext v10 A10 D10
      rw [stA_n (by omega) (by decide)]
    rw [show n + 1 + (kr + 1) = (n + (kr + 1)) + 1 by omega]
    rcases j_have1 (n := n + (kr + 1)) (to := to) (tb := false) hN1 hN hi h0 hp4 hpt hto with ⟨A1, D1, R1, m1, V1, tk1, a1, a2, a3, a4, a5, a6, a7, a8, a9, a10, a11, a12⟩ | ⟨A1, D1, R1, a1, a2, a3, a4, a5⟩
    · rw [a1, bndF_l rfl, nar_b] at e1
      rw [e1, a2]
      have ew2 : wnF V i false (p + 1) n = wnF V1 i true (p + 1) n := by
        have z := wnF_ms (n := n) hi a4 (by omega) a5
        omega
      rw [ew2] at a3
      have hr : HvR N B gr (r + wnF V1 i true (p + 1) n) i (yR p to) A D R m V tk A1 (sA D1 43 (upd (cA D1 43) (p - a) (bI (decide (pv V i (px p) = 0))))) R1 m1 V1 tk1 := HvR.d43 (HvR.wk (Y := pY p) ⟨a3, a4, a6, a7.d4, a8, a9, a10, a11, a12⟩ (fun y hy => ⟨p, Nat.le_refl _, hpt, hy⟩))
      have epv : ∀ q, p < q → q ≤ to → pv V1 i (px q) = pv V i (px q) := fun q q1 q2 => a4.1 i (px q) hi (px_lt (by omega)) (Or.inr (Or.inr (fun z => by have := pY_px hp4 z; omega)))
      rcases ih (p + 1) A1 _ R1 m1 V1 tk1 (by omega) (by omega) hr.1 with ⟨A2, D2, R2, m2, V2, tk2, b1, b2, b3, b4, b5, b6⟩ | ⟨A2, D2, R2, b1, b2, b3, b4, b5⟩
      · refine Or.inl ⟨A2, D2, R2, m2, V2, tk2, b1, b2, hr.tr hi hw (b3.wk (fun y ⟨q, q1, q2, q3⟩ => ⟨q, by omega, q2, q3⟩)), fun q q1 q2 => ?_, fun q q1 q2 => ?_, fun q q1 q2 => ?_⟩
        · by_cases c : q = p
          · rw [c, b3.2.1.1 i (px p) hi (px_lt hp4) (Or.inl a5)]
            exact a5
          · exact b4 q (by omega) q2
        · by_cases c : q = p
          · rw [c, b6 p hap (by omega), cA_e, pk_us]
          · rw [b5 q (by omega) q2, epv q (by omega) q2]
        · rw [b6 q q1 (by omega), cA_e, pk_un (by omega)]
          exact congrFun (a7.2 43 (by decide)) _
      · refine Or.inr ⟨A2, D2, R2, b1, b2, b3.fq a8 (by decide) (by decide), hr.2.2.2.1.tr b4, b5.pre a10⟩
    · rw [a1, bndF_r rfl] at e1
      rw [e1, a2]
      refine Or.inr ⟨A1, D1, R1, rfl, ?_, a3, a4.d4, a5⟩
      rw [show n + (kr + 1) = (n + kr) + 1 by omega]
      exact hv_dead19 a3.1.1
end PYT
