/-! ===== pure: both change slots ===== -/
section PVZ
variable {N B gr : Nat} {V : Nat → Rw} {i : Nat} {m : M5} {tk : Nat → Bool}
theorem CX.agu {A : MS} {D : CfT} (h : CX N A D m V tk) : AgU N V (vA A) := fun b h1 h2 hu => h.see h1 h2 hu
theorem RY.agu {R : RfT} (h : RY N B gr R m V tk) : AgU N V (rSee R true) := fun b h1 h2 _ => (h.1.2 b h1 h2).1
theorem PtO.p138 (h : PtO N V i) : ∀ x, x < 138 → pv V i x = 0 ∨ (61 ≤ pv V i x ∧ pv V i x < N ∧ btM (V 43) (pv V i x) = 1) := fun x hx => h x (by omega)
theorem c_blk {A : MS} {D D2 : CfT} {p : Nat} (hN1 : 61 ≤ N) (hN : N ≤ 1024) (h : CX N A D m V tk) (hp : PtO N V i) (h1 : 1 ≤ i) (h2 : i ≤ 64) (hp4 : p < 4168) : d_X7_reach N (vA A) D2 (nI i) (nI p) 0 = some (nI (pv V i (px p))) := by
  have hpo := hp.pok hN1 h2 hp4
  have ag := fun k (hk : k ≤ levM p) => rc_ag (k := k) hN1 h.agu h.2.2.2.1 h2 hp.p138 hp4 hk
  have q := d_blk (N := N) (V := vA A) (D := D2) h1 h2 hN (show pOk N (vA A) i p from ⟨hp4, fun k hk => by rw [ag k (by omega)]; exact hpo.2.1 k hk, by unfold blM; rw [ag _ (Nat.le_refl _)]; exact hpo.2.2⟩)
  have e : blM (vA A) i p = pv V i (px p) := by
    rw [← bl_pv hp4]
    exact ag _ (Nat.le_refl _)
  rw [e] at q
  exact q
theorem z_blk {R : RfT} {p : Nat} (hN1 : 61 ≤ N) (hN : N ≤ 1024) (h : RY N B gr R m V tk) (hp : PtO N V i) (h1 : 1 ≤ i) (h2 : i ≤ 64) (hp4 : p < 4168) : e_blockOf R (nI i) (nI p) = some (nI (pv V i (px p))) := by
  have hpo := hp.pok hN1 h2 hp4
  have ag := fun k (hk : k ≤ levM p) => rc_ag (k := k) hN1 h.agu h.2.2 h2 hp.p138 hp4 hk
  have q := z_blockOf (R := R) h.1.1.lk h1 h2 hp4 (fun k hk => by
    rw [ag k (by omega)]
    have := hpo.2.1 k hk
    omega)
  have e : blM (rSee R true) i p = pv V i (px p) := by
    rw [← bl_pv hp4]
    exact ag _ (Nat.le_refl _)
  rw [e] at q
  exact q
theorem c_rowOf {A : MS} {D : CfT} {s : Nat} (hN1 : 61 ≤ N) (hN : N ≤ 1024) (h : CX N A D m V tk) (hp : PtO N V i) (h1 : 1 ≤ i) (h2 : i ≤ 64) (hs : s / 8 < 4168) (h0 : pv V i (px (s / 8)) ≠ 0) : ∃ A' D', d_X4_ownRowOf N A D (nI i) (nI s) = some (pv V i (px (s / 8)), A', D') ∧ CX N A' D' m V tk ∧ oA A' (pv V i (px (s / 8))) = some (V (pv V i (px (s / 8)))) ∧ gA A' = gA A ∧ Dt D D' ∧ ∀ P : Nat → Prop, P (pv V i (px (s / 8))) → OwS A P → OwS A' P := by
  obtain ⟨q1, q2, q3⟩ := (hp _ (px_lt hs)).resolve_left h0
  obtain ⟨A', D', e, x, o, g, t⟩ := c_own hN h (show 43 ≤ pv V i (px (s / 8)) by omega) q2 q3
  rw [d_X4_ownRowOf, show nI s / (8 : Int32) = nI (s / 8) from pk_div (by omega) (by decide) (by decide), bnd_o (c_blk hN1 hN h hp h1 h2 hs), bnd2_o e, nI_clamp (by omega)]
  exact ⟨A', D', rfl, x, o, g, t, fun P p1 p2 => ow_own e p2 (by rw [nI_clamp (by omega)]; exact p1)⟩
noncomputable def wipV (V : Nat → Rw) (b a : Nat) : Nat → Rw := vU V b (zr (V b) (fun o => a ≤ o ∧ o < a + 16))
theorem y_wip_l {R : RfT} {b s : Nat} (hN1 : 61 ≤ N) (hN : N ≤ 1024) (hb0 : 61 ≤ b) (hb : b < N) (hu : btM (V 43) b = 1) (hnr : nr (V b) = V b) (hs : s < 2 ^ 30) : ∀ (n x : Nat) (R1 : RfT), x ≤ 16 → 16 - x < n → Fn [33] [30, 31, 32, 36, 43] R R1 → RY N B gr R1 m (vU V b (zr (V b) (fun o => 16 * (s % 8) ≤ o ∧ o < 16 * (s % 8) + x))) tk → ∃ R', e_clearSlot_13 n R1 (nI s) (nI b) (nI x) = some R' ∧ RY N B gr R' m (wipV V b (16 * (s % 8))) tk ∧ Fn [33] [30, 31, 32, 36, 43] R R' ∧ ∀ P : Nat → Prop, P b → OwR R1 P → OwR R' P := by
  intro n
  induction n with
  | zero => intro x _ _ h; exact absurd h (Nat.not_lt_zero _)
  | succ n ih =>
    intro x R1 hx hn f hy
    rw [e_clearSlot_13]
    by_cases c : x = 16
    · rw [c, if_pos (show (16 : Int32) ≤ nI 16 from nI_le (a := 16) (b := 16) (by decide) (by decide))]
      rw [c] at hy
      exact ⟨R1, rfl, hy, f, fun P _ p2 => p2⟩
    · have e43 : vU V b (zr (V b) (fun o => 16 * (s % 8) ≤ o ∧ o < 16 * (s % 8) + x)) 43 = V 43 := vU_n (by omega)
      obtain ⟨R2, e, y, f2⟩ := y_set (b := b) (p := 16 * (s % 8) + x) (n := 1) (v := 0) hN hy (by omega) hb (by rw [e43]; exact hu) (by decide) (by omega)
      have ea : (16 : Int32) * (nI s - nI s / 8 * 8) + nI x = nI (16 * (s % 8) + x) := by
        rw [show (8 : Int32) = nI 8 from rfl, show (16 : Int32) = nI 16 from rfl, pk_div (by omega) (by decide) (by decide), pk_mul, pk_sub (by omega), n_rem, pk_mul, nI_add]
      have e : e_setNumber R1 (nI b) (nI (16 * (s % 8) + x)) 1 0 = some R2 := e
      rw [if_neg (show ¬ (16 : Int32) ≤ nI x from nI_ge (b := 16) (by omega) (by decide)), ea, bnd_o e, nI_1]
      obtain ⟨R', r1, r2, r3, r4⟩ := ih (x + 1) R2 (by omega) (by omega) (f.tr f2) (y.ag hN1 (fun d hd0 hd => by
        rw [vU_s, wB_z (by decide) (by omega) (zr_nr hnr), zr_zr]
        by_cases q2 : d = b
        · rw [q2, vU_s, vU_s]
          congr 1
          funext o
          exact propext ⟨fun z => by omega, fun z => by omega⟩
        · rw [vU_n q2, vU_n q2, vU_n q2]))
      exact ⟨R', r1, r2, r3, fun P p1 p2 => r4 P p1 (ww_set (n := 1) hN hy.1 (by omega) hb (by decide) (by omega) e p2 p1)⟩
theorem d_stO {W : Nat → Rw} {D : CfT} {s : Nat} (hs : s < 2 ^ 30) : d_X4_startOf N W D (nI s) = some (nI (16 * (s % 8))) := d_startOf (by omega)
theorem j_wipe {A : MS} {D : CfT} {R : RfT} {s : Nat} (hN1 : 61 ≤ N) (hN : N ≤ 1024) (h : JX N B gr A D R m V tk) (hp : PtO N V i) (h1 : 1 ≤ i) (h2 : i ≤ 64) (hs : s / 8 < 4168) (h0 : pv V i (px (s / 8)) ≠ 0) : ∃ A' D' R', d_X4_wipe N A D (nI i) (nI s) = some (A', D') ∧ e_clearSlot R (nI i) (nI s) = some R' ∧ JX N B gr A' D' R' m (wipV V (pv V i (px (s / 8))) (16 * (s % 8))) tk ∧ gA A' = gA A ∧ Dt D D' ∧ Fn [33] [30, 31, 32, 36, 43] R R' ∧ ∀ P : Nat → Prop, P (pv V i (px (s / 8))) → OwS A P → OwR R P → OwS A' P ∧ OwR R' P := by
  obtain ⟨q1, q2, q3⟩ := (hp _ (px_lt hs)).resolve_left h0
  have hnr := h.nr (pv V i (px (s / 8))) (by omega) q2
  obtain ⟨A1, D1, e1, x1, o1, g1, t1, w1⟩ := c_rowOf hN1 hN h.1 hp h1 h2 hs h0
  have hfr : frO N A1 (pv V i (px (s / 8))) (nI (16 * (s % 8))) (nI (16 * (s % 8) + 16)) 0 = some (aSet A1 (pv V i (px (s / 8))) (nr (flt (V (pv V i (px (s / 8)))) (16 * (s % 8)) (16 * (s % 8) + 16) (vp_nar .byte 0)))) := by
    unfold frO
    refine c_rw q2 o1 ?_
    rw [nI_clamp (by omega), nI_clamp (by omega), if_neg (fun z => z.elim (nI_nn (by omega)) (fun z => z.elim (nI_nn (by omega)) (fun z => by omega)))]
  rw [flt_z (by omega) hnr] at hfr
  have x2 := c_put (y := zr (V (pv V i (px (s / 8)))) (fun o => 16 * (s % 8) ≤ o ∧ o < 16 * (s % 8) + 16)) x1 (by omega) q3 o1
  have q0 : RY N B gr R m (vU V (pv V i (px (s / 8))) (zr (V (pv V i (px (s / 8)))) (fun o => 16 * (s % 8) ≤ o ∧ o < 16 * (s % 8) + 0))) tk := h.2.ag hN1 (fun d _ _ => by
    by_cases q : d = pv V i (px (s / 8))
    · rw [q, vU_s]
      funext o
      rw [zr_f (by omega)]
    · rw [vU_n q])
  obtain ⟨R', r1, r2, r3, r4⟩ := y_wip_l (R := R) hN1 hN q1 q2 q3 hnr (show s < 2 ^ 30 by omega) fuL 0 R (by decide) (by rw [fuL_4]; omega) Fn.rf q0
  have r1 : e_clearSlot_13 fuL R (nI s) (nI (pv V i (px (s / 8)))) 0 = some R' := r1
  refine ⟨_, D1, R', ?_, ?_, ⟨x2, r2⟩, g1, t1, r3, fun P p1 p2 p3 => ⟨ow_set (w1 P p1 p2) p1, r4 P p1 p3⟩⟩
  · rw [d_X4_wipe, if_pos (show (0 : Int32) ≤ nI s from nI_le (a := 0) (Nat.zero_le _) (by omega)), bnd3_o e1, bnd_o (d_stO (by omega)), bnd_o (d_stO (by omega)), show (16 : Int32) = nI 16 from rfl, nI_add, bnd_o hfr]
  · rw [e_clearSlot, show nI s / (8 : Int32) = nI (s / 8) from pk_div (by omega) (by decide) (by decide), bnd_o (z_blk hN1 hN h.2 hp h1 h2 hs), r1]
def ptV (V : Nat → Rw) (b a : Nat) (t : Int32) : Nat → Rw := vU V b (nr (wB (V b) a t 2))
theorem c_point {A : MS} {D : CfT} {s : Nat} {t : Int32} (hN1 : 61 ≤ N) (hN : N ≤ 1024) (h : CX N A D m V tk) (hp : PtO N V i) (h1 : 1 ≤ i) (h2 : i ≤ 64) (hs : s / 8 < 4168) (h0 : pv V i (px (s / 8)) ≠ 0) : ∃ A' D', d_X4_point N A D (nI i) (nI s) t = some (A', D') ∧ CX N A' D' m (ptV V (pv V i (px (s / 8))) (16 * (s % 8)) t) tk ∧ gA A' = gA A ∧ Dt D D' ∧ ∀ P : Nat → Prop, P (pv V i (px (s / 8))) → OwS A P → OwS A' P := by
  obtain ⟨q1, q2, q3⟩ := (hp _ (px_lt hs)).resolve_left h0
  obtain ⟨A1, D1, e1, x1, o1, g1, t1, w1⟩ := c_rowOf hN1 hN h hp h1 h2 hs h0
  rw [d_X4_point, bnd3_o e1, bnd_o (d_stO (by omega)), bnd_o (c_w2 q2 o1 (by omega))]
  exact ⟨_, D1, rfl, c_put x1 (by omega) q3 o1, g1, t1, fun P p1 p2 => ow_set (w1 P p1 p2) p1⟩
/-- a slot's name is written -/
def nmV (V : Nat → Rw) (b a : Nat) (t : Int32) (tp : Nat → Int32) (st ln : Nat) : Nat → Rw := vU V b (nr (va_cpy tp (wB (wB (V b) a t 2) (a + 2) (nI ln) 1) st (a + 3) ln))
theorem y_nm_l {R : RfT} {b a st ln : Nat} {y0 : Rw} {tp : Nat → Int32} (hN1 : 61 ≤ N) (hN : N ≤ 1024) (hb0 : 61 ≤ b) (hb : b < N) (hu : btM (V 43) b = 1) (ha : a + 16 ≤ 128) (hln : ln ≤ 13) (hst : st + ln ≤ 1024) (htp : Byt tp) (hR : ∀ k, k < 1024 → rA R 4 k = tp k) : ∀ (n x : Nat) (R1 : RfT), x ≤ ln → ln - x < n → Fn [33] [30, 31, 32, 36, 43] R R1 → RY N B gr R1 m (vU V b (nr (va_cpy tp y0 st (a + 3) x))) tk → ∃ R', e_addName_113 n R1 (nI st) (nI ln) (nI b) (nI a) (nI x) = some R' ∧ RY N B gr R' m (vU V b (nr (va_cpy tp y0 st (a + 3) ln))) tk ∧ Fn [33] [30, 31, 32, 36, 43] R R' ∧ ∀ P : Nat → Prop, P b → OwR R1 P → OwR R' P := by
  intro n
  induction n with
  | zero => intro x _ _ h; exact absurd h (Nat.not_lt_zero _)
  | succ n ih =>
    intro x R1 hx hn f hy
    rw [e_addName_113]
    by_cases c : x = ln
    · rw [c, if_pos (nI_le (Nat.le_refl _) (by omega))]
      rw [c] at hy
      exact ⟨R1, rfl, hy, f, fun P _ p2 => p2⟩
    · have e43 : vU V b (nr (va_cpy tp y0 st (a + 3) x)) 43 = V 43 := vU_n (by omega)
      obtain ⟨R2, e, y, f2⟩ := y_set (b := b) (p := a + 3 + x) (n := 1) (v := tp (st + x)) hN hy (by omega) hb (by rw [e43]; exact hu) (by decide) (by omega)
      have e : e_setNumber R1 (nI b) (nI (a + 3 + x)) 1 (tp (st + x)) = some R2 := e
      rw [if_neg (nI_ge (by omega) (by omega)), nI_add, ld_n (by omega) (by decide), f.1.2.1 4 (by decide), hR _ (by omega), show (3 : Int32) = nI 3 from rfl, nI_add, nI_add, bnd_o e, nI_1]
      obtain ⟨R', r1, r2, r3, r4⟩ := ih (x + 1) R2 (by omega) (by omega) (f.tr f2) (y.ag hN1 (fun d hd0 hd => by
        rw [vU_s]
        by_cases q2 : d = b
        · rw [q2, vU_s, vU_s, wB_nr, wB_1, byt_8 (htp _), nar8 (htp _), cpy_s]
        · rw [vU_n q2, vU_n q2, vU_n q2]))
      exact ⟨R', r1, r2, r3, fun P p1 p2 => r4 P p1 (ww_set (n := 1) hN hy.1 (by omega) hb (by decide) (by omega) e p2 p1)⟩
theorem j_name {A A1 : MS} {D D1 : CfT} {R : RfT} {s st ln : Nat} {t : Int32} {tp : Nat → Int32} (hN1 : 61 ≤ N) (hN : N ≤ 1024) (h : JX N B gr A D R m V tk) (hp : PtO N V i) (h1 : 1 ≤ i) (h2 : i ≤ 64) (hs : s / 8 < 4168) (h0 : pv V i (px (s / 8)) ≠ 0) (hln : ln ≤ 13) (hst : st + ln ≤ 1024) (htp : Byt tp) (hD : ∀ k, cA D 1 k = tp k) (hR : ∀ k, k < 1024 → rA R 4 k = tp k) (e1 : d_X4_ownRowOf N A D (nI i) (nI s) = some (pv V i (px (s / 8)), A1, D1)) (x1 : CX N A1 D1 m V tk) (o1 : oA A1 (pv V i (px (s / 8))) = some (V (pv V i (px (s / 8))))) (hD1 : cA D1 1 = cA D 1) : ∃ A2 A3 A4 R', s2O N A1 (pv V i (px (s / 8))) (nI (16 * (s % 8))) t = some A2 ∧ stO N A2 (pv V i (px (s / 8))) (nI (16 * (s % 8) + 2)) (vp_nar .byte ((nI ln).toInt8.toInt32)) = some A3 ∧ cpO N A3 (pv V i (px (s / 8))) (cA D1 1) 1024 (nI st) (nI (16 * (s % 8) + 3)) (nI ln) = some A4 ∧ e_addName_65 R (nI i) (nI st) (nI ln) t (nI s) = some R' ∧ JX N B gr A4 D1 R' m (nmV V (pv V i (px (s / 8))) (16 * (s % 8)) t tp st ln) tk ∧ gA A4 = gA A1 ∧ Fn [33] [30, 31, 32, 36, 43] R R' ∧ ∀ P : Nat → Prop, P (pv V i (px (s / 8))) → OwS A1 P → OwR R P → OwS A4 P ∧ OwR R' P := by
  obtain ⟨q1, q2, q3⟩ := (hp _ (px_lt hs)).resolve_left h0
  generalize hb : pv V i (px (s / 8)) = b at *
  have eS : ∀ (X : MS) (y z : Rw), aSet (aSet X b y) b z = aSet X b z := fun X y z => by
    unfold aSet aOw
    congr 6
    funext c
    by_cases q : c = b
    · rw [if_pos q, if_pos q]
    · rw [if_neg q, if_neg q]
      exact if_neg q
  have w2 := c_w2 (N := N) (p := 16 * (s % 8)) (v := t) q2 o1 (by omega)
  have o2 : oA (aSet A1 b (nr (wB (V b) (16 * (s % 8)) t 2))) b = some (nr (wB (V b) (16 * (s % 8)) t 2)) := if_pos rfl
  have w3 := c_w1 (N := N) (p := 16 * (s % 8) + 2) (v := nI ln) q2 o2 (by omega)
  rw [wB_nr, eS] at w3
  have o3 : oA (aSet A1 b (nr (wB (wB (V b) (16 * (s % 8)) t 2) (16 * (s % 8) + 2) (nI ln) 1))) b = some (nr (wB (wB (V b) (16 * (s % 8)) t 2) (16 * (s % 8) + 2) (nI ln) 1)) := if_pos rfl
  have w4 : cpO N (aSet A1 b (nr (wB (wB (V b) (16 * (s % 8)) t 2) (16 * (s % 8) + 2) (nI ln) 1))) b (cA D1 1) 1024 (nI st) (nI (16 * (s % 8) + 3)) (nI ln) = some (aSet A1 b (nr (va_cpy tp (wB (wB (V b) (16 * (s % 8)) t 2) (16 * (s % 8) + 2) (nI ln) 1) st (16 * (s % 8) + 3) ln))) := by
    have ht1 : cA D1 1 = tp := by
      rw [hD1]
      exact funext hD
    unfold cpO
    rw [ht1, gd_t htp]
    refine (c_rw q2 o3 (z := va_cpy tp (nr (wB (wB (V b) (16 * (s % 8)) t 2) (16 * (s % 8) + 2) (nI ln) 1)) st (16 * (s % 8) + 3) ln) ?_).trans ?_
    · rw [nI_clamp (by omega), nI_clamp (by omega), nI_clamp (by omega), if_neg (fun z => z.elim (nI_nn (by omega)) (fun z => z.elim (nI_nn (by omega)) (fun z => z.elim (nI_nn (by omega)) (fun z => by omega))))]
    · rw [eS]
      congr 2
      refine nr_eq (fun o ho => ?_)
      unfold va_cpy
      split
      · rfl
      · exact nr_at ho
  have x4 := c_put (y := nr (va_cpy tp (wB (wB (V b) (16 * (s % 8)) t 2) (16 * (s % 8) + 2) (nI ln) 1) st (16 * (s % 8) + 3) ln)) x1 (show 44 ≤ b by omega) q3 o1
  obtain ⟨R1, r1, y1, f1⟩ := y_set (b := b) (p := 16 * (s % 8)) (n := 2) (v := t) hN h.2 (by omega) q2 q3 (by decide) (by omega)
  have e43 : vU V b (nr (wB (V b) (16 * (s % 8)) t 2)) 43 = V 43 := vU_n (by omega)
  obtain ⟨R2, r2, y2, f2⟩ := y_set (b := b) (p := 16 * (s % 8) + 2) (n := 1) (v := nI ln) hN y1 (by omega) q2 (by rw [e43]; exact q3) (by decide) (by omega)
  have q0 : RY N B gr R2 m (vU V b (nr (va_cpy tp (wB (wB (V b) (16 * (s % 8)) t 2) (16 * (s % 8) + 2) (nI ln) 1) st (16 * (s % 8) + 3) 0))) tk := y2.ag hN1 (fun d _ _ => by
    rw [vU_s, wB_nr, cpy_0]
    by_cases q : d = b
    · rw [q, vU_s, vU_s]
    · rw [vU_n q, vU_n q, vU_n q])
  obtain ⟨R3, r3, y3, f3, k3⟩ := y_nm_l (R := R2) (a := 16 * (s % 8)) hN1 hN q1 q2 q3 (by omega) hln hst htp (fun k hk => by rw [f2.1.2.1 4 (by decide), f1.1.2.1 4 (by decide)]; exact hR k hk) fuL 0 R2 (Nat.zero_le _) (by rw [fuL_4]; omega) Fn.rf q0
  have r1 : e_setNumber R (nI b) (nI (16 * (s % 8))) 2 t = some R1 := r1
  have r2 : e_setNumber R1 (nI b) (nI (16 * (s % 8) + 2)) 1 (nI ln) = some R2 := r2
  have r3 : e_addName_113 fuL R2 (nI st) (nI ln) (nI b) (nI (16 * (s % 8))) 0 = some R3 := r3
  have ea : (16 : Int32) * (nI s - nI (s / 8) * 8) = nI (16 * (s % 8)) := by
    rw [show (8 : Int32) = nI 8 from rfl, show (16 : Int32) = nI 16 from rfl, pk_mul, pk_sub (by omega), n_rem, pk_mul]
  refine ⟨_, _, _, R3, w2, w3, w4, ?_, ⟨x4, y3⟩, rfl, (f1.tr f2).tr f3, fun P p1 p2 p3 => ⟨ow_set p2 p1, k3 P p1 (ww_set (n := 1) hN y1.1 (by omega) q2 (by decide) (by omega) r2 (ww_set (n := 2) hN h.2.1 (by omega) q2 (by decide) (by omega) r1 p3 p1) p1)⟩⟩
  have zb := z_blk (p := s / 8) hN1 hN h.2 hp h1 h2 hs
  rw [hb] at zb
  rw [e_addName_65, show nI s / (8 : Int32) = nI (s / 8) from pk_div (by omega) (by decide) (by decide), bnd_o zb, nm_o, ea, bnd_o r1, show (2 : Int32) = nI 2 from rfl, nI_add]
  have r2' : e_setNumber R1 (nI b) (nI (16 * (s % 8) + 2)) 1 (nI ln) = some R2 := r2
  rw [bnd_o r2', r3]
end PVZ
