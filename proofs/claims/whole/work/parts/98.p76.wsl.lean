/-! ===== pure: slots inside a call ===== -/
section PXA
variable {N B gr r : Nat} {V W : Nat → Rw} {m : M5} {tk : Nat → Bool} {d s : Nat} {ow : Nat → Int} {s0 : S3} {l : List Nat} {A : MS} {D : CfT} {R : RfT}
theorem w_row (hN1 : 61 ≤ N) (hN : N ≤ 1024) (h : WK N B gr r s0 l A D R m V tk ow) (hd : ir d) (hk : f1 V d 0 = 2) (hs : s < szM V d / 16) (hr : RowC V W (pv V d (px (s / 8))) (16 * (s % 8))) (hsl : SlO V (W (pv V d (px (s / 8)))) (16 * (s % 8))) {A' : MS} {D' : CfT} {R' : RfT} (x : JX N B gr A' D' R' m W tk) (fr : ∀ P : Nat → Prop, P (pv V d (px (s / 8))) → OwS A P → OwR R P → OwS A' P ∧ OwR R' P) : WK N B gr r s0 ([pv V d (px (s / 8))] ++ l) A' D' R' m W tk (fun i => ow i + (if sln V d s = i then 1 else 0) - (if n2 (W (pv V d (px (s / 8)))) (16 * (s % 8)) = i then 1 else 0)) := by
  obtain ⟨q1, q2, q3⟩ := h.2.1.dblk hd hk hs
  have hb := (h.2.1.1.2.1 d (px (s / 8)) hd (px_lt q1)).resolve_left q2
  obtain ⟨w1, w2, w3, w4⟩ := h.2.1.slot hN1 hd hk hs hr hsl
  have okp : OkP m W (pv V d (px (s / 8))) := Or.inr (Or.inl ⟨q2, d, px (s / 8), hd, px_lt q1, (w2 d hd).2.2.2 _ (px_lt q1), Or.inr (by rw [(w2 d hd).1]; exact hk)⟩)
  exact h.chg hN1 x w1 (h.2.2.1.v (hr.1 43 (by omega))) (St.same (fun j y hj hy => (w2 j hj).2.2.2 y hy) (fun j hj => Or.inl (w2 j hj).1)) (fun o1 o2 => fr _ okp o1 o2) (Chg.one (fun c _ hc => hr.1 c hc))
theorem zr_row {b a : Nat} : RowC V (wipV V b a) b a := ⟨fun c hc => vU_n hc, fun o _ h => by
  show vU V b _ b o = V b o
  rw [vU_s]
  exact zr_f (by omega)⟩
theorem wip_n2 {b a : Nat} : n2 (wipV V b a b) a = 0 := by
  have e : ∀ o, a ≤ o → o < a + 16 → wipV V b a b o = 0 := fun o h1 h2 => by
    show vU V b _ b o = 0
    rw [vU_s]
    exact zr_t ⟨h1, h2⟩
  unfold n2 ub
  rw [e a (Nat.le_refl _) (by omega), e (a + 1) (by omega) (by omega)]
  rfl
/-- a name is wiped -/
theorem w_wipe (hN1 : 61 ≤ N) (hN : N ≤ 1024) (h : WK N B gr r s0 l A D R m V tk ow) (hd : ir d) (hk : f1 V d 0 = 2) (hs : s < szM V d / 16) : ∃ A' D' R', d_X4_wipe N A D (nI d) (nI s) = some (A', D') ∧ e_clearSlot R (nI d) (nI s) = some R' ∧ WK N B gr r s0 ([pv V d (px (s / 8))] ++ l) A' D' R' m (wipV V (pv V d (px (s / 8))) (16 * (s % 8))) tk (fun i => ow i + (if sln V d s = i then 1 else 0) - (if 0 = i then 1 else 0)) ∧ gA A' = gA A ∧ Dt D D' ∧ Fn [33] [30, 31, 32, 36, 43] R R' := by
  obtain ⟨q1, q2, q3⟩ := h.2.1.dblk hd hk hs
  obtain ⟨A', D', R', a1, a2, a3, a4, a5, a6, a7⟩ := j_wipe hN1 hN h.1 (h.2.1.1.pto hd) hd.1 hd.2 q1 q2
  refine ⟨A', D', R', a1, a2, ?_, a4, a5, a6⟩
  have q := w_row hN1 hN h hd hk hs zr_row (Or.inl ⟨wip_n2, fun o o1 o2 => by
    show vU V _ _ _ o = 0
    rw [vU_s]
    exact zr_t ⟨by omega, by omega⟩⟩) a3 a7
  rw [wip_n2] at q
  exact q
theorem pt_row {b a : Nat} {t : Int32} : RowC V (ptV V b a t) b a := ⟨fun c hc => vU_n hc, fun o ho h => by
  show vU V b _ b o = V b o
  rw [vU_s]
  show nr (wB (V b) a t 2) o = V b o
  unfold nr
  rw [if_pos ho]
  exact wB_out 2 (by omega)⟩
theorem pt_n2 {b a t : Nat} (ha : a + 2 ≤ 128) (ht : t < 65536) : n2 (ptV V b a (nI t) b) a = t := by
  show n2 (vU V b _ b) a = t
  rw [vU_s]
  exact n2_i ha ht
theorem y_point {t : Int32} (hN1 : 61 ≤ N) (hN : N ≤ 1024) (h : RY N B gr R m V tk) {b a : Nat} (hb0 : 44 ≤ b) (hb : b < N) (hu : btM (V 43) b = 1) (ha : a + 2 ≤ 128) : ∃ R', e_setNumber R (nI b) (nI a) 2 t = some R' ∧ RY N B gr R' m (ptV V b a t) tk ∧ Fn [33] [30, 31, 32, 36, 43] R R' := y_set (b := b) (p := a) (n := 2) (v := t) hN h hb0 hb hu (by decide) ha
/-- a slot tells another inode -/
theorem w_point {t : Nat} (hN1 : 61 ≤ N) (hN : N ≤ 1024) (h : WK N B gr r s0 l A D R m V tk ow) (hd : ir d) (hk : f1 V d 0 = 2) (hs : s < szM V d / 16) (ht : ir t) (htk : f1 V t 0 ≠ 0) (hs0 : sln V d s ≠ 0) : ∃ A' D' R', d_X4_point N A D (nI d) (nI s) (nI t) = some (A', D') ∧ e_setNumber R (nI (pv V d (px (s / 8)))) (nI (16 * (s % 8))) 2 (nI t) = some R' ∧ WK N B gr r s0 ([pv V d (px (s / 8))] ++ l) A' D' R' m (ptV V (pv V d (px (s / 8))) (16 * (s % 8)) (nI t)) tk (fun i => ow i + (if sln V d s = i then 1 else 0) - (if t = i then 1 else 0)) ∧ gA A' = gA A ∧ Dt D D' ∧ Fn [33] [30, 31, 32, 36, 43] R R' := by
  obtain ⟨q1, q2, q3⟩ := h.2.1.dblk hd hk hs
  obtain ⟨p1, p2, p3⟩ := (h.2.1.1.pto hd _ (px_lt q1)).resolve_left q2
  have ht1 := ht.1
  have ht2 := ht.2
  obtain ⟨A', D', a1, a2, a3, a4, a5⟩ := c_point (t := nI t) hN1 hN h.1.1 (h.2.1.1.pto hd) hd.1 hd.2 q1 q2
  obtain ⟨R', b1, b2, b3⟩ := y_point (t := nI t) (a := 16 * (s % 8)) hN1 hN h.1.2 (show 44 ≤ pv V d (px (s / 8)) by omega) p2 p3 (by omega)
  refine ⟨A', D', R', a1, b1, ?_, a3, a4, b3⟩
  have en := pt_n2 (V := V) (b := pv V d (px (s / 8))) (a := 16 * (s % 8)) (t := t) (by omega) (by omega)
  have hin : ∀ o, 16 * (s % 8) + 2 ≤ o → o < 128 → ptV V (pv V d (px (s / 8))) (16 * (s % 8)) (nI t) (pv V d (px (s / 8))) o = V (pv V d (px (s / 8))) o := fun o o1 o2 => by
    show vU V _ _ _ o = _
    rw [vU_s]
    show nr (wB _ _ _ 2) o = _
    unfold nr
    rw [if_pos o2]
    exact wB_out 2 (by omega)
  have q := w_row hN1 hN h hd hk hs pt_row (by
    rcases h.2.1.2.2.2.2.2.1 d s hd hk hs with z | ⟨z1, z2, z3, ln, z4, z5, z6⟩
    · exact absurd z.1 hs0
    · refine Or.inr ⟨by rw [en]; omega, by rw [en]; exact ht2, by rw [en]; exact htk, ln, ?_, ?_, fun o o1 o2 => ?_⟩
      · rw [hin _ (by omega) (by omega)]
        exact z4
      · obtain ⟨y1, y2, y3, y4⟩ := z5
        refine ⟨y1, y2, fun k hk => by rw [hin _ (by omega) (by omega)]; exact y3 k hk, fun hl => ?_⟩
        obtain ⟨k, k1, k2⟩ := y4 hl
        exact ⟨k, k1, by rw [hin _ (by omega) (by omega)]; exact k2⟩
      · rw [hin _ (by omega) (by omega)]
        exact z6 o o1 o2) ⟨a2, b2⟩ (fun P u1 u2 u3 => ⟨a5 P u1 u2, ww_set (n := 2) hN h.1.2.1 (by omega) p2 (by decide) (by omega) b1 u3 u1⟩)
  rw [en] at q
  exact q
end PXA
