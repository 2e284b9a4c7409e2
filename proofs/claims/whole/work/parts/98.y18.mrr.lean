/-! ===== mount: what the reference reads ===== -/
section PXX18
variable {N B gr : Nat} {R : RfT} {hw : Hw}
theorem z_rdk (hN : N ≤ 1024) (hr : RH N B hw R) {t : Nat} (ht : t < N) : ∃ x, e_readDisk_78 R (nI t) = some (setA R 43 x) ∧ nr x = aRd hw.1 t := by
  obtain ⟨wf, w, d, -, db, -⟩ := id hr
  have rd := d.read hN ht
  rw [e_readDisk_78, ld_n (by omega) (by decide)]
  rcases db.2.2.1 t (by omega) with c | ⟨s, hs, c⟩
  · rw [if_pos c, show (128 : Int32) = nI 128 from rfl, pk_mul, bnd_o (z_mv58 db.2.2.2.1.1 (by omega))]
    refine ⟨_, rfl, ?_⟩
    rw [← rd]
    unfold rRd
    rw [if_pos c]
    exact nr_eq (fun i hi => by
      rw [pk_cpy_in (Nat.zero_le _) (by omega)]
      unfold mvA
      rw [if_pos hi]
      congr 1)
  · have cm : ¬ rA R 40 t = -1 := by
      rw [c]
      exact nI_m1 (by omega)
    rw [if_neg cm, ld_n (by omega) (by decide), c, show (128 : Int32) = nI 128 from rfl, pk_mul, bnd_o (z_mv60 db.2.2.2.1.2.1 (by omega))]
    refine ⟨_, rfl, ?_⟩
    rw [← rd]
    unfold rRd
    rw [if_neg cm, c, nI_clamp (by omega)]
    exact nr_eq (fun i hi => by
      rw [pk_cpy_in (Nat.zero_le _) (by omega)]
      unfold mvA
      rw [if_pos hi]
      congr 1)
theorem z_sm_l {x y : Nat → Int32} (hx : rA R 43 = x) (hy : rA R 44 = y) (h : ∀ i, i < 128 → x i = y i) : ∀ (d k fu : Nat), k + d = 128 → d < fu → e_same_78_79_6 R fu 0 0 1 (nI k) = some 1 := by
  intro d
  induction d with
  | zero =>
    intro k fu e hf
    obtain ⟨fu, rfl⟩ : ∃ x, fu = x + 1 := ⟨fu - 1, by omega⟩
    have e : k = 128 := e
    rw [e_same_78_79_6, e, if_pos (show (128 : Int32) ≤ nI 128 by decide)]
    rfl
  | succ d ih =>
    intro k fu e hf
    obtain ⟨fu, rfl⟩ : ∃ x, fu = x + 1 := ⟨fu - 1, by omega⟩
    have q := ih (k + 1) fu (by omega) (by omega)
    rw [e_same_78_79_6, if_neg (show ¬ (128 : Int32) ≤ nI k from nI_ge (a := k) (b := 128) (by omega) (by decide)), if_neg (show ¬ (1 : Int32) = 0 by decide), show (0 : Int32) = nI 0 from rfl, nI_add, Nat.zero_add, ld_n (by omega) (by decide), ld_n (by omega) (by decide), hx, hy, if_pos (h k (by omega)), nI_1]
    exact q
theorem z_row4 {a : Nat} (ha : a + 4 ≤ 128) : e_number_78 R (nI a) 4 = some (nI (n4 (rA R 43) a)) := by
  have q := e_num78_l (R := R) (t := a) 3 3999995 0 (by omega)
  have e := nmB_n4 (g := rA R 43) (t := 0) (a := a) (y := rA R 43) (fun i _ => by rw [Nat.zero_add]) (by omega)
  rw [Nat.zero_add] at e
  rw [e] at q
  rw [e_number_78, fu3]
  exact q
/-- the head of a file system is made -/
theorem z_headR (h : rS R 1 = nI N) : ∃ g, e_head R = some (setA R 44 g) ∧ nr g = mH00 N ∧ (Byt (rA R 44) → Byt g) := by
  have s1 := z_set79 (R := setA R 44 (flt (rA R 44) 0 128 0)) (p := 0) (n := 4) (v := 1414874188) (by decide) (by decide)
  rw [setA_A, rA_e] at s1
  have s2 := z_set79 (R := setA R 44 (wB (flt (rA R 44) 0 128 0) 0 1414874188 4)) (p := 4) (n := 2) (v := nI N) (by decide) (by decide)
  rw [setA_A, rA_e] at s2
  have s3 := z_set79 (R := setA R 44 (wB (wB (flt (rA R 44) 0 128 0) 0 1414874188 4) 4 (nI N) 2)) (p := 6) (n := 1) (v := 40) (by decide) (by decide)
  rw [setA_A, rA_e] at s3
  have s4 := z_set79 (R := setA R 44 (wB (wB (wB (flt (rA R 44) 0 128 0) 0 1414874188 4) 4 (nI N) 2) 6 40 1)) (p := 7) (n := 1) (v := 64) (by decide) (by decide)
  rw [setA_A, rA_e] at s4
  refine ⟨wB (wB (wB (wB (flt (rA R 44) 0 128 0) 0 1414874188 4) 4 (nI N) 2) 6 40 1) 7 64 1, ?_, ?_, fun hb => ((((Byt_flt hb rfl : Byt (flt _ 0 128 0)).wB 4).wB 2).wB 1).wB 1⟩
  · rw [e_head, bnd_o (z_empty (R := R)), bnd_o (m := e_set_79 _ 0 4 1414874188) s1, show rS (setA R 44 (wB (flt (rA R 44) 0 128 0) 0 1414874188 4)) 1 = nI N from h, bnd_o (m := e_set_79 _ 4 2 (nI N)) s2, bnd_o (m := e_set_79 _ 6 1 40) s3, bnd_o (m := e_set_79 _ 7 1 64) s4]
  · rw [wB_4, wB_2, wB_1, wB_1]
    exact (((((Eb_z (g := rA R 44)).four).two).up1).up1 : Eb 128 _ _).row
end PXX18
