/-! ===== pure: an inode is made ===== -/
section PWX
variable {N B gr : Nat} {V : Nat → Rw} {m : M5} {tk : Nat → Bool} {i : Nat} {ow : Nat → Int}
def crV (V : Nat → Rw) (t kd : Nat) : Nat → Rw := fldV (fldV (vU V 44 (bsW (V 44) (t - 1) true)) t 0 1 (nI kd)) t 1 1 (nI 1)
theorem fld_44 {t a n : Nat} {v : Int32} {y : Rw} (ht : ir t) : fldV (vU V 44 y) t a n v = vU (fldV V t a n v) 44 y := by
  have hh := ir_home ht
  funext c
  unfold fldV
  by_cases c1 : c = 44
  · rw [c1, vU_n (by omega), vU_s, vU_s]
  · rw [vU_n (y := y) c1]
    by_cases c2 : c = homeM t
    · rw [c2, vU_s, vU_s, vU_n (by omega)]
    · rw [vU_n c2, vU_n c2, vU_n c1]
theorem c_create {A : MS} {D : CfT} {t kd : Nat} (hN1 : 61 ≤ N) (hN : N ≤ 1024) (h : CX N A D m V tk) (ht : ir t) (hl : d_X7_lowestFree N (vA A) D = some (nI t)) : ∃ A' D', d_X7_create N A D (nI kd) = some (nI t, A', D') ∧ CX N A' D' m (crV V t kd) tk ∧ gA A' = gA A ∧ Dt D D' := by
  have hh := ir_home ht
  have h1 := ht.1
  have h2 := ht.2
  have hs := startM_le t
  have u44 := h.2.2.2.1.1 44 (by decide)
  obtain ⟨A1, D1, e1, x1, o1, g1, t1⟩ := c_own hN h (show 43 ≤ 44 by decide) (by omega) u44
  have e1 : owB N A D (44 : Int32) = some (A1, D1) := e1
  have hld := c_ld (N := N) (p := (t - 1) / 8) (show 44 < N by omega) o1 (by omega)
  have hst := c_st (N := N) (p := (t - 1) / 8) (x := vp_nar .byte (((V 44 ((t - 1) / 8)) ||| (((1 : Int32) <<< (nI ((t - 1) % 8) &&& 31) : Int32).toInt8.toInt32) : Int32).toInt8.toInt32)) (show 44 < N by omega) o1 (by omega)
  rw [bsW_t] at hst
  have x2 := c_put (y := bsW (V 44) (t - 1) true) x1 (Nat.le_refl 44) u44 o1
  obtain ⟨A3, D3, e3, x3, o3, g3, t3, hu, -, hN', -⟩ := c_ownI hN1 hN x2 h1 h2
  have x4 := c_put (y := nr (wB (vU V 44 (bsW (V 44) (t - 1) true) (homeM t)) (startM t + 0) (nI kd) 1)) x3 (by omega) hu o3
  obtain ⟨A5, D5, e5, x5, g5, t5⟩ := c_setLinks (v := nI 1) hN1 hN x4 h1 h2
  have e5 : d_X7_setLinks N (aSet A3 (homeM t) (nr (wB (vU V 44 (bsW (V 44) (t - 1) true) (homeM t)) (startM t + 0) (nI kd) 1))) D3 (nI t) 1 = some (A5, D5) := e5
  have es : nI t - 1 = nI (t - 1) := by
    show nI t - nI 1 = _
    rw [pk_sub h1]
  obtain ⟨q1, q2⟩ := sh_b (c := t - 1) (by omega)
  refine ⟨A5, D5, ?_, x5, g5.trans (g3.trans g1), t1.tr (t3.tr t5)⟩
  rw [d_X7_create, bnd_o hl, if_neg (nI_m1 (by omega)), bnd2_o e1, es, q1, q2, show (44 : Int32).toNatClampNeg = 44 from rfl, bnd_o hld, bnd_o hst, bnd_o (d_homeS h1 h2).1, bnd2_o e3, bnd_o (d_homeS h1 h2).2, nI_clamp (by omega), bnd_o (c_w1 hN' o3 (by omega)), show startM t = startM t + 0 from rfl, bnd2_o e5]
theorem y_create {R : RfT} {t kd : Nat} (hN1 : 61 ≤ N) (hN : N ≤ 1024) (h : RY N B gr R m V tk) (ht : ir t) : ∃ R1 R2 R3, e_setField R (nI t) 0 1 (nI kd) = some R1 ∧ e_setField R1 (nI t) 1 1 1 = some R2 ∧ e_setBit R2 44 (nI t - 1) 1 = some R3 ∧ RY N B gr R3 m (crV V t kd) tk ∧ Fn [33] [30, 31, 32, 36, 43] R R3 := by
  have h1 := ht.1
  have h2 := ht.2
  obtain ⟨R1, a1, a2, a3⟩ := y_setField (a := 0) (n := 1) (v := nI kd) hN1 hN h ht.1 ht.2 (by decide) (by decide)
  obtain ⟨R2, b1, b2, b3⟩ := y_setField (a := 1) (n := 1) (v := nI 1) hN1 hN a2 ht.1 ht.2 (by decide) (by decide)
  obtain ⟨R3, c1, c2, c3⟩ := y_bit44 (c := t - 1) (on := true) hN1 hN b2 (by omega)
  have es : nI t - 1 = nI (t - 1) := by
    show nI t - nI 1 = _
    rw [pk_sub h1]
  refine ⟨R1, R2, R3, a1, b1, by rw [es]; exact c1, ?_, a3.tr (b3.tr c3)⟩
  have e : crV V t kd = vU (fldV (fldV V t 0 1 (nI kd)) t 1 1 (nI 1)) 44 (bsW (fldV (fldV V t 0 1 (nI kd)) t 1 1 (nI 1) 44) (t - 1) true) := by
    have hh := ir_home ht
    unfold crV
    rw [fld_44 ht, fld_44 ht, fld_x (by omega), fld_x (by omega)]
  rw [e]
  exact c2
theorem WFs.cr {t kd : Nat} (h : WFs N V ow) (hN1 : 61 ≤ N) (ht : ir t) (hk0 : f1 V t 0 = 0) (hkd : kd = 1 ∨ kd = 2) : WFs N (crV V t kd) (fun j => ow j + if j = t then 1 else 0) ∧ (∀ j, ir j → (f1 (crV V t kd) j 0 = if j = t then kd else f1 V j 0) ∧ (f1 (crV V t kd) j 1 = if j = t then 1 else f1 V j 1) ∧ szM (crV V t kd) j = szM V j ∧ ∀ x, x < 4234 → pv (crV V t kd) j x = pv V j x) ∧ (∀ d s, ir d → f1 V d 0 = 2 → s < szM V d / 16 → crV V t kd (pv (crV V t kd) d (px (s / 8))) = V (pv V d (px (s / 8)))) ∧ szM V t = 0 := by
  have hh := ir_home ht
  have hs := startM_le t
  have k2 : kd < 256 := by omega
  have sA : ∀ (U : Nat → Rw) (a v : Nat), a < 12 → v < 256 → ub (fldV U t a 1 (nI v) (homeM t)) (startM t + a) = v := fun U a v ha hv => by
    have e : fldV U t a 1 (nI v) (homeM t) = nr (wB (U (homeM t)) (startM t + a) (nI v) 1) := vU_s
    rw [e, ub_i1 (by omega) hv]
  refine WFs.new h hN1 ht hk0 hkd (fun c c1 c2 => ?_) (fun j b hj hb => ?_) ?_
  · unfold crV
    rw [fld_x c1, fld_x c1, vU_n c2]
  · have hj2 := ir_home hj
    have e44 : ub (vU V 44 (bsW (V 44) (t - 1) true) (homeM j)) (startM j + b) = ub (V (homeM j)) (startM j + b) := by
      rw [vU_n (by omega)]
    unfold crV
    by_cases c0 : j = t ∧ b = 0
    · rw [if_pos c0, fld_ub ht.1 hj.1 (by decide) hb (Or.inr (Or.inl (by omega))), c0.1, c0.2]
      exact sA _ 0 kd (by decide) k2
    · rw [if_neg c0]
      by_cases c1 : j = t ∧ b = 1
      · rw [if_pos c1, c1.1, c1.2]
        exact sA _ 1 1 (by decide) (by decide)
      · rw [if_neg c1, fld_ub ht.1 hj.1 (by decide) hb (by omega), fld_ub ht.1 hj.1 (by decide) hb (by omega), e44]
  · unfold crV
    rw [fld_x (by omega), fld_x (by omega), vU_s]
end PWX
