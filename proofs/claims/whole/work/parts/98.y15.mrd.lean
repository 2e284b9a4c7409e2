/-! ===== mount: the head of the log is read ===== -/
section PXX15
variable {N B gr : Nat} {C : CfT} {hw : Hw}
theorem bK_g {v : Int32} {k : Nat} (hk : k < 4) : (vp_nar .byte (bK v k)).toBitVec.toNat % 256 = v.toBitVec.toNat / 256 ^ k % 256 := by
  have e : bK v k = (v.toUInt32 >>> ((nI (8 * k) : Int32).toUInt32 &&& Int32.toUInt32 31)).toInt32.toInt8.toInt32 := rfl
  have e2 : vp_nar .byte (bK v k) = bK v k := by
    rw [e]
    exact nb8
  rw [e2, e, lo8]
  have e3 : (v.toUInt32 >>> ((nI (8 * k) : Int32).toUInt32 &&& Int32.toUInt32 31)).toInt32.toBitVec.toNat = v.toBitVec.toNat / 256 ^ k := by
    have hk4 : k = 0 ∨ k = 1 ∨ k = 2 ∨ k = 3 := by omega
    have hbv : ∀ s : UInt32, (v.toUInt32 >>> s).toInt32.toBitVec.toNat = v.toBitVec.toNat >>> (s.toBitVec.toNat % 32) := fun s => by
      show (v.toBitVec >>> (s.toBitVec.umod 32#32).toNat).toNat = _
      rw [BitVec.toNat_ushiftRight]
      rfl
    rcases hk4 with rfl | rfl | rfl | rfl
    · rw [hbv]
      show v.toBitVec.toNat >>> 0 = v.toBitVec.toNat / 1
      rw [Nat.shiftRight_zero, Nat.div_one]
    · rw [hbv]
      show v.toBitVec.toNat >>> 8 = _
      rw [Nat.shiftRight_eq_div_pow]
    · rw [hbv]
      show v.toBitVec.toNat >>> 16 = _
      rw [Nat.shiftRight_eq_div_pow]
    · rw [hbv]
      show v.toBitVec.toNat >>> 24 = _
      rw [Nat.shiftRight_eq_div_pow]
  rw [e3]
theorem ub_g {y : Rw} {p n k : Nat} {v : Int32} (hk : k < n) (hn : n ≤ 4) (hp : p + n ≤ 128) : ub (nr (wB y p v n)) (p + k) = v.toBitVec.toNat / 256 ^ k % 256 := by
  unfold ub
  rw [nr_at (by omega), wB_in n hk, bK_g (by omega)]
theorem n4_g {y : Rw} {p : Nat} {v : Int32} (hp : p + 4 ≤ 128) : n4 (nr (wB y p v 4)) p = v.toBitVec.toNat := by
  have h0 := ub_g (y := y) (p := p) (n := 4) (k := 0) (v := v) (by decide) (by decide) hp
  have h1 := ub_g (y := y) (p := p) (n := 4) (k := 1) (v := v) (by decide) (by decide) hp
  have h2 := ub_g (y := y) (p := p) (n := 4) (k := 2) (v := v) (by decide) (by decide) hp
  have h3 := ub_g (y := y) (p := p) (n := 4) (k := 3) (v := v) (by decide) (by decide) hp
  have l := v.toBitVec.isLt
  unfold n4 n2
  rw [Nat.add_zero] at h0
  rw [show p + 1 = p + 1 from rfl, show p + 2 + 1 = p + 3 from rfl, h0, h1, h2, h3]
  omega
theorem nI_vb (v : Int32) : nI v.toBitVec.toNat = v := by
  apply Int32.toBitVec_inj.mp
  apply BitVec.eq_of_toNat_eq
  exact nI_tn v.toBitVec.isLt
theorem ub_nr {y : Nat → Int32} {o : Nat} (h : o < 128) : ub (nr y) o = ub y o := ub_c (nr_at h)
theorem n2_nr {y : Nat → Int32} {o : Nat} (h : o + 2 ≤ 128) : n2 (nr y) o = n2 y o := n2_c (nr_at (by omega)) (nr_at (by omega))
theorem n4_nr {y : Nat → Int32} {o : Nat} (h : o + 4 ≤ 128) : n4 (nr y) o = n4 y o := by
  unfold n4
  rw [n2_nr (by omega), n2_nr (by omega)]
theorem mHd_w (L : List En) (tu : Int32) : mHd L tu = nr (wB (wB (wB (fun _ => 0) 0 (nI L.length) 2) 2 tu 4) 6 (mSum L tu) 4) := by
  rw [wB_4, wB_4, wB_2]
  rfl
theorem mHd_n {L : List En} {tu : Int32} (hl : L.length ≤ 40) : n2 (mHd L tu) 0 = L.length := by
  rw [mHd_w, n2_o (by decide) (Or.inl (by decide)), ← n2_nr (by decide), n2_o (by decide) (Or.inl (by decide)), ← n2_nr (by decide), n2_i (by decide) (by omega)]
theorem mHd_t {L : List En} {tu : Int32} : nI (n4 (mHd L tu) 2) = tu := by
  rw [mHd_w, n4_o (by decide) (Or.inl (by decide)), ← n4_nr (by decide), n4_g (by decide), nI_vb]
theorem mHd_s {L : List En} {tu : Int32} : nI (n4 (mHd L tu) 6) = mSum L tu := by
  rw [mHd_w, n4_g (by decide), nI_vb]
theorem mHd_6 {L : List En} {tu : Int32} : Eb 6 (mHd L tu) (mH0 L.length tu) := fun i hi => by
  unfold mHd
  rw [nr_at (by omega), ← wB_4, wB_out 4 (Or.inl hi)]
/-- the class reads -/
theorem q_two {m j t : Nat} (h : t + 1 < 128) : q_X2_two N B gr C m j (nI t) = some (nI (n2 (cR C m j) t)) := d_two (N := N) (V := fun _ _ => 0) (D := C) (n := 128) h (by decide)
theorem q_four {m j t : Nat} (h : t + 3 < 128) : q_X2_four N B gr C m j (nI t) = some (nI (n4 (cR C m j) t)) := d_four (N := N) (V := fun _ _ => 0) (D := C) (n := 128) h (by decide)
theorem q_row (hN : N ≤ 1024) (h : HwR N B 1 hw C) (q : Quiet N hw) {t : Nat} (ht : t < N) : q_X2_row N B gr C (nI t) = some (1, t) ∧ nr (cR C 1 t) = hSee hw t := by
  have e6 : cA C 6 t = -1 := CDk.la hN (show CDk N hw.1 (dkOf C) from h.2.1.1) ht (fun p hp => by rw [q.1] at hp; exact absurd hp List.not_mem_nil)
  constructor
  · rw [q_X2_row, ld_n ht (by omega), if_pos e6, ixB, if_neg (fun z => z.elim (nI_nn (by omega)) (by rw [nI_clamp (by omega)]; omega)), nI_clamp (by omega)]
  · rcases h.la hN ht with ⟨-, z⟩ | ⟨s, s1, s2, -⟩
    · rw [← z, ← hSee_n (q.2 t ht)]
    · rw [e6] at s2
      exact absurd s2.symm (nI_m1 (by omega))
theorem q_mix_l {m j n : Nat} {x : Int32} (hn : n ≤ 128) : ∀ (d k fu : Nat), k + d = n → d < fu → q_X6_mix_2 N B gr C fu (mixV x (cR C m j) k) m j (nI n) (nI k) = some (mixV x (cR C m j) n) := by
  intro d
  induction d with
  | zero =>
    intro k fu e hf
    obtain ⟨fu, rfl⟩ : ∃ x, fu = x + 1 := ⟨fu - 1, by omega⟩
    have e : k = n := e
    rw [q_X6_mix_2, e, if_pos (nI_le (Nat.le_refl _) (by omega))]
  | succ d ih =>
    intro k fu e hf
    obtain ⟨fu, rfl⟩ : ∃ x, fu = x + 1 := ⟨fu - 1, by omega⟩
    have q : q_X6_mix_2 N B gr C fu (mixV x (cR C m j) k * 31 + (cR C m j k &&& 255)) m j (nI n) (nI (k + 1)) = _ := ih (k + 1) fu (by omega) (by omega)
    rw [q_X6_mix_2, if_neg (nI_ge (by omega) (by omega)), if_neg (nI_ge (by omega) (by decide)), ld_n (by omega) (by decide), nm_o, nI_1, q]
theorem q_mix {m j n : Nat} {x : Int32} (hn : n ≤ 128) : q_X6_mix N B gr C x m j (nI n) = some (mixV x (cR C m j) n) := q_mix_l hn n 0 fuL (by omega) (by rw [fuL_4]; omega)
theorem q_sum_l (hN : N ≤ 1024) (hN1 : 61 ≤ N) (h : HwR N B 1 hw C) (q : Quiet N hw) {n : Nat} {x : Int32} (hn : n ≤ 40) : ∀ (d k fu : Nat), k + d = n → d < fu → q_X6_sum_28 N B gr C fu (nI n) (smR (fun k => cR C 1 (3 + k)) x k) (nI k) = some (smR (fun k => cR C 1 (3 + k)) x n) := by
  intro d
  induction d with
  | zero =>
    intro k fu e hf
    obtain ⟨fu, rfl⟩ : ∃ x, fu = x + 1 := ⟨fu - 1, by omega⟩
    have e : k = n := e
    rw [q_X6_sum_28, e, if_pos (nI_le (Nat.le_refl _) (by omega))]
  | succ d ih =>
    intro k fu e hf
    obtain ⟨fu, rfl⟩ : ∃ x, fu = x + 1 := ⟨fu - 1, by omega⟩
    have q2 : q_X6_sum_28 N B gr C fu (nI n) (mixV (smR (fun k => cR C 1 (3 + k)) x k) (cR C 1 (3 + k)) 128) (nI (k + 1)) = _ := ih (k + 1) fu (by omega) (by omega)
    rw [q_X6_sum_28, if_neg (nI_ge (by omega) (by omega)), show (3 : Int32) = nI 3 from rfl, nI_add, bnd_o (q_row hN h q (by omega)).1, show (128 : Int32) = nI 128 from rfl, bnd_o (q_mix (Nat.le_refl _)), nI_1, q2]
theorem q_sum (hN : N ≤ 1024) (hN1 : 61 ≤ N) (h : HwR N B 1 hw C) (q : Quiet N hw) {n : Nat} (hn : n ≤ 40) : q_X6_sum N B gr C 1 1 (nI n) = some (smR (fun k => cR C 1 (3 + k)) (mixV (mixV 7 (cR C 1 1) 6) (cR C 1 2) (2 * n)) n) := by
  rw [q_X6_sum, show (6 : Int32) = nI 6 from rfl, bnd_o (q_mix (by decide)), show (2 : Int32) = nI 2 from rfl, bnd_o (q_row hN h q (by omega)).1, pk_mul, bnd_o (q_mix (by omega))]
  exact q_sum_l hN hN1 h q hn n 0 fuL (by omega) (by rw [fuL_4]; omega)
theorem smR_eb {v v' : Nat → Nat → Int32} {x : Int32} : ∀ n, (∀ k, k < n → Eb 128 (v k) (v' k)) → smR v x n = smR v' x n
  | 0, _ => rfl
  | n + 1, h => by
    show mixV (smR v x n) (v n) 128 = mixV (smR v' x n) (v' n) 128
    rw [smR_eb n (fun k hk => h k (by omega)), Eb.mix _ 128 (h n (by omega))]
/-- the sum agrees -/
theorem q_sumR {L : List En} {tu : Int32} (hN : N ≤ 1024) (hN1 : 61 ≤ N) (h : HwR N B 1 hw C) (q : Quiet N hw) (r : Rec N (hSee hw) L tu) : q_X6_sum N B gr C 1 1 (nI L.length) = some (mSum L tu) := by
  obtain ⟨r1, r2, r3, r4, r5⟩ := r
  rw [q_sum hN hN1 h q r1]
  congr 1
  unfold mSum
  have e1 : Eb 6 (cR C 1 1) (mH0 L.length tu) := fun i hi => by
    rw [← mHd_6 i hi, ← r3, ← (q_row (gr := gr) hN h q (t := 1) (by omega)).2, nr_at (by omega)]
  have e2 : Eb (2 * L.length) (cR C 1 2) (mNm L) := fun i hi => by
    rw [← r4 i hi, ← (q_row (gr := gr) hN h q (t := 2) (by omega)).2, nr_at (by omega)]
  rw [Eb.mix 7 6 e1, Eb.mix _ (2 * L.length) e2]
  refine smR_eb _ (fun k hk => ?_)
  rw [← r5 k hk]
  exact Eb.of' (q_row (gr := gr) hN h q (t := 3 + k) (by omega)).2
end PXX15
