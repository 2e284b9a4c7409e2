/-! ===== pure: both let an inode go ===== -/
section PVW
variable {N B gr : Nat} {V : Nat → Rw} {i : Nat} {m : M5} {tk : Nat → Bool}
/-- an inode's bytes become 0, its bit is cleared -/
noncomputable def rmV (V : Nat → Rw) (i : Nat) : Nat → Rw := vU (vU V 44 (bsW (V 44) (i - 1) false)) (homeM i) (zr (V (homeM i)) (fun o => startM i ≤ o ∧ o < startM i + 32))
theorem y_rm_l {R : RfT} (hN1 : 61 ≤ N) (hN : N ≤ 1024) (h1 : 1 ≤ i) (h2 : i ≤ 64) (hnr : nr (V (homeM i)) = V (homeM i)) : ∀ (n x : Nat) (R1 : RfT), x ≤ 32 → 32 - x < n → Fn [33] [30, 31, 32, 36, 43] R R1 → RY N B gr R1 m (vU V (homeM i) (zr (V (homeM i)) (fun o => startM i ≤ o ∧ o < startM i + x))) tk → ∃ R', e_removeInode_8 n R1 (nI i) (nI x) = some R' ∧ RY N B gr R' m (rmV V i) tk ∧ Fn [33] [30, 31, 32, 36, 43] R R' ∧ ∀ P : Nat → Prop, P 44 → P (homeM i) → OwR R1 P → OwR R' P := by
  have hh := homeM_lt h2
  have h45 : 45 ≤ homeM i := by
    unfold homeM
    omega
  have hs := startM_le i
  intro n
  induction n with
  | zero => intro x _ _ h; exact absurd h (Nat.not_lt_zero _)
  | succ n ih =>
    intro x R1 hx hn f hy
    rw [e_removeInode_8]
    by_cases c : x = 32
    · rw [c, if_pos (show (32 : Int32) ≤ nI 32 from nI_le (a := 32) (b := 32) (by decide) (by decide))]
      rw [c] at hy
      obtain ⟨R2, e0, y, f2⟩ := y_bit44 (c := i - 1) (on := false) hN1 hN hy (by omega)
      have e : e_setBit R1 44 (nI i - 1) 0 = some R2 := by
        rw [i1_sub h1]
        exact e0
      rw [bnd_o e]
      refine ⟨R2, rfl, y.ag hN1 (fun d hd0 hd => ?_), f.tr f2, fun P p1 p2 p3 => ww_bit (b := 44) (c := i - 1) (on := false) hN hy.1 (by decide) (by omega) (by omega) e0 p3 p1⟩
      unfold rmV
      rw [show vU V (homeM i) (zr (V (homeM i)) (fun o => startM i ≤ o ∧ o < startM i + 32)) 44 = V 44 from vU_n (by omega)]
      by_cases q : d = 44
      · rw [q, vU_s, vU_n (show 44 ≠ homeM i by omega), vU_s]
      · rw [vU_n q]
        by_cases q2 : d = homeM i
        · rw [q2, vU_s, vU_s]
        · rw [vU_n q2, vU_n q2, vU_n q]
    · obtain ⟨R2, e, y, f2⟩ := y_setField (i := i) (a := x) (n := 1) (v := 0) hN1 hN hy h1 h2 (by decide) (by omega)
      have e : e_setField R1 (nI i) (nI x) 1 0 = some R2 := e
      rw [if_neg (show ¬ (32 : Int32) ≤ nI x from nI_ge (b := 32) (by omega) (by decide)), bnd_o e, nI_1]
      obtain ⟨R', r1, r2, r3, r4⟩ := ih (x + 1) R2 (by omega) (by omega) (f.tr f2) (y.ag hN1 (fun d hd0 hd => by
        rw [vU_s, wB_z (by decide) (by omega) (zr_nr hnr), zr_zr]
        by_cases q2 : d = homeM i
        · rw [q2, vU_s, vU_s]
          congr 1
          funext o
          exact propext ⟨fun z => by omega, fun z => by omega⟩
        · rw [vU_n q2, vU_n q2, vU_n q2]))
      exact ⟨R', r1, r2, r3, fun P p1 p2 p3 => r4 P p1 p2 (ww_field (n := 1) hN1 hN hy.1 h1 h2 (by decide) (by omega) e p3 p2)⟩
theorem c_rm {A : MS} {D : CfT} (hN1 : 61 ≤ N) (hN : N ≤ 1024) (h1 : 1 ≤ i) (h2 : i ≤ 64) (h : CX N A D m V tk) (hnr : nr (V (homeM i)) = V (homeM i)) : ∃ A1 D1 v A2 A3 D3 A4, owB N A D 44 = some (A1, D1) ∧ ldO N A1 44 (nI ((i - 1) / 8)) = some v ∧ stO N A1 44 (nI ((i - 1) / 8)) (vp_nar .byte ((v &&& ((((1 : Int32) <<< (nI ((i - 1) % 8) &&& 31)) ^^^ (-1) : Int32).toInt8.toInt32) : Int32).toInt8.toInt32)) = some A2 ∧ owB N A2 D1 (nI (homeM i)) = some (A3, D3) ∧ frO N A3 (homeM i) (nI (startM i)) (nI (startM i + 32)) 0 = some A4 ∧ CX N A4 D3 m (rmV V i) tk ∧ gA A4 = gA A ∧ Dt D D3 := by
  have hh := homeM_lt h2
  have h45 : 45 ≤ homeM i := by
    unfold homeM
    omega
  have hs := startM_le i
  have u44 := h.2.2.2.1.1 44 (by decide)
  obtain ⟨A1, D1, e1, x1, o1, g1, t1⟩ := c_own hN h (show 43 ≤ 44 by decide) (by omega) u44
  have hl := c_ld (N := N) (p := (i - 1) / 8) (show 44 < N by omega) o1 (by omega)
  have hst := c_st (N := N) (p := (i - 1) / 8) (x := vp_nar .byte (((V 44 ((i - 1) / 8)) &&& ((((1 : Int32) <<< (nI ((i - 1) % 8) &&& 31)) ^^^ (-1) : Int32).toInt8.toInt32) : Int32).toInt8.toInt32)) (show 44 < N by omega) o1 (by omega)
  rw [bsW_f] at hst
  have x2 := c_put (y := bsW (V 44) (i - 1) false) x1 (Nat.le_refl 44) u44 o1
  obtain ⟨A3, D3, e3, x3, o3, g3, t3, hu, -, hN', -⟩ := c_ownI hN1 hN x2 h1 h2
  have eh : vU V 44 (bsW (V 44) (i - 1) false) (homeM i) = V (homeM i) := vU_n (by omega)
  have hfr : frO N A3 (homeM i) (nI (startM i)) (nI (startM i + 32)) 0 = some (aSet A3 (homeM i) (nr (flt (V (homeM i)) (startM i) (startM i + 32) (vp_nar .byte 0)))) := by
    unfold frO
    rw [eh] at o3
    refine c_rw hN' o3 ?_
    rw [nI_clamp (by omega), nI_clamp (by omega), if_neg (fun z => z.elim (nI_nn (by omega)) (fun z => z.elim (nI_nn (by omega)) (fun z => by omega)))]
  rw [flt_z (by omega) hnr] at hfr
  have x4 := c_put (y := zr (V (homeM i)) (fun o => startM i ≤ o ∧ o < startM i + 32)) x3 (by omega) hu o3
  exact ⟨A1, D1, _, _, A3, D3, _, e1, hl, hst, e3, hfr, x4, g3.trans g1, t1.tr t3⟩
theorem j_goes {A : MS} {D : CfT} {R : RfT} (C : CutH N V i) (h : JX N B gr A D R m V tk) (hz : PzE V i) : ∃ A' D' R' m' V' tk', d_X7_goes N A D (nI i) = some (A', D') ∧ e_removeInode R (nI i) = some R' ∧ JX N B gr A' D' R' m' (rmV V' i) tk' ∧ ZS N m V tk (FSx V i (cX 0)) (ZSx V i (cX 0)) m' V' tk' ∧ gA A' = gA A ∧ Dt D D' ∧ Fn [33] [30, 31, 32, 35, 36, 43] R R' ∧ ∀ P : Nat → Prop, P 44 → OwS A P → OwR R P → OwS A' (gP P V i) ∧ OwR R' (gP P V i) := by
  obtain ⟨c1, c2, c3, c4, c5, c6, c7⟩ := id C
  have hh := homeM_lt c4
  have hs := hz.1
  have hsz : f4 (vA A) i 4 = szM V i := by
    unfold szM f4
    rw [h.1.see (show 43 ≤ homeM i by unfold homeM; omega) (by omega) (c5.1 _ hh)]
  have hb4 : bfM (szM V i) < 2 ^ 30 := by
    unfold bfM
    omega
  obtain ⟨A1, D1, n, A2, D2, R2, m', V', tk', a1, a2, a3, a4, a5, a6, a7, a8, a9⟩ := j_cut (k := 0) (e0 := bfM (szM V i)) C h hz (by decide) (Nat.le_refl _) hb4
  have hnr := a4.nr (homeM i) (show 43 ≤ homeM i by unfold homeM; omega) (by omega)
  obtain ⟨A3, D3, v, A4, A5, D5, A6, b1, b2, b3, b4, b5, b6, b7, b8⟩ := c_rm c1 c2 c3 c4 a4.1 hnr
  have q0 : RY N B gr R2 m' (vU V' (homeM i) (zr (V' (homeM i)) (fun o => startM i ≤ o ∧ o < startM i + 0))) tk' := a4.2.ag c1 (fun d _ _ => by
    by_cases q : d = homeM i
    · rw [q, vU_s]
      funext o
      rw [zr_f (by omega)]
    · rw [vU_n q])
  obtain ⟨R3, r1, r2, r3, r4⟩ := y_rm_l (R := R2) c1 c2 c3 c4 hnr fuL 0 R2 (by decide) (by rw [fuL_4]; omega) Fn.rf q0
  have r1 : e_removeInode_8 fuL R2 (nI i) 0 = some R3 := r1
  have a1 : d_X7_cutBlocks N A D (nI i) 0 (nI (bfM (szM V i))) 0 = some (nI n, A1, D1) := a1
  have a2 : d_X7_cutTables N A1 D1 (nI i) 0 = some (A2, D2) := a2
  have a3 : e_freeFrom R (nI i) 0 = some R2 := a3
  obtain ⟨s1, s2⟩ := sh_b (c := i - 1) (by omega)
  refine ⟨A6, D5, R3, m', V', tk', ?_, ?_, ⟨b6, r2⟩, a5, b7.trans a6, a7.tr b8, a8.tr (r3.wk (by decide) (by decide)), fun P p1 p2 p3 => ?_⟩
  · rw [d_X7_goes, bnd_o (d_size c3 c4 c1 c2), hsz, bnd_o (d_bF (by omega)), bnd3_o a1, bnd2_o a2, bnd2_o b1, i1_sub c3, s1, s2, show ((44 : Int32)).toNatClampNeg = 44 from rfl, bnd_o b2, bnd_o b3, bnd_o (d_homeS c3 c4).1, bnd2_o b4, bnd_o (d_homeS c3 c4).2, bnd_o (d_homeS c3 c4).2, nI_clamp (by omega), show (32 : Int32) = nI 32 from rfl, nI_add, bnd_o b5]
  · rw [e_removeInode, bnd_o a3, r1]
  · obtain ⟨w1, w2⟩ := a9 P p2 p3
    have g44 : gP P V i 44 := Or.inl p1
    have gh : gP P V i (homeM i) := Or.inr (Or.inr ⟨0, by decide, rfl, homeM_ne i⟩)
    exact ⟨ow_rw b5 (ow_own b4 (ow_rw b3 (ow_own b1 w1 g44)) (by rw [nI_clamp (by omega)]; exact gh)), r4 _ g44 gh w2⟩
end PVW
