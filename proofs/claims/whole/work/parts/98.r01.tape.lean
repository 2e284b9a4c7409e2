/-! ===== pure: the tape is fed ===== -/
section PZS
theorem sg8 (x : BitVec 32) (n : Nat) (hn : n ≤ 24) : (x.sshiftRight n).signExtend 8 = (x >>> n).signExtend 8 := by
  apply BitVec.eq_of_getLsbD_eq
  intro i hi
  have h1 : i < 32 := by omega
  have h2 : n + i < 32 := by omega
  have h3 : ¬ 32 ≤ i := by omega
  rw [BitVec.getLsbD_signExtend, BitVec.getLsbD_signExtend, if_pos h1, if_pos h1, BitVec.getLsbD_sshiftRight, BitVec.getLsbD_ushiftRight, if_pos h2, decide_eq_false h3, Bool.not_false, Bool.true_and]
theorem fdB_0 (v : Int32) : fdB v 0 = (v >>> ((24 : Int32) &&& 31)).toInt8.toInt32 := by
  unfold fdB
  congr 1
  rw [← Int8.toBitVec_inj]
  exact (sg8 v.toBitVec 24 (by decide)).symm
theorem fdB_1 (v : Int32) : fdB v 1 = (v >>> ((16 : Int32) &&& 31)).toInt8.toInt32 := by
  unfold fdB
  congr 1
  rw [← Int8.toBitVec_inj]
  exact (sg8 v.toBitVec 16 (by decide)).symm
theorem fdB_2 (v : Int32) : fdB v 2 = (v >>> ((8 : Int32) &&& 31)).toInt8.toInt32 := by
  unfold fdB
  congr 1
  rw [← Int8.toBitVec_inj]
  exact (sg8 v.toBitVec 8 (by decide)).symm
theorem fdB_3 (v : Int32) : fdB v 3 = (v >>> ((0 : Int32) &&& 31)).toInt8.toInt32 := by
  unfold fdB
  congr 1
  rw [← Int8.toBitVec_inj]
  exact (sg8 v.toBitVec 0 (by decide)).symm
theorem fdT_c {ta tb : Nat → Int32} {fd : Nat} {a b c d e : Int32} (h : ∀ j, j < 1024 → ta j = tb j) : ∀ k j, j < 1024 → fdT ta fd a b c d e k j = fdT tb fd a b c d e k j
  | 0, j, hj => h j hj
  | k + 1, j, hj => by
    show upd _ _ _ j = upd _ _ _ j
    by_cases q : j = fd + k
    · rw [q, pk_us, pk_us]
    · rw [pk_un q, pk_un q]
      exact fdT_c h k j hj
theorem fdT_5 {tp : Nat → Int32} {fd : Nat} {a b c d e : Int32} : fdT tp fd a b c d e 20 = fd5 tp fd a b c d e := by
  have q : ∀ (t : Nat → Int32) (n : Nat) (v : Int32), fdI t n v = upd (upd (upd (upd t n (vp_nar .byte (fdB v 0))) (n + 1) (vp_nar .byte (fdB v 1))) (n + 2) (vp_nar .byte (fdB v 2))) (n + 3) (vp_nar .byte (fdB v 3)) := fun t n v => by
    rw [fdB_0, fdB_1, fdB_2, fdB_3]
    rfl
  unfold fd5
  rw [q, q, q, q, q]
  rfl
theorem Byt.upn {x : Nat → Int32} {t : Nat} {v : Int32} (h : Byt x) : Byt (upd x t (vp_nar .byte v)) := fun i => by
  by_cases c : i = t
  · rw [c, pk_us]
    exact fit_nar _
  · rw [pk_un c]
    exact h i
theorem fd5_byt {tp : Nat → Int32} {fd : Nat} {a b c d e : Int32} (h : Byt tp) : Byt (fd5 tp fd a b c d e) := by
  rw [← fdT_5]
  have q : ∀ k, Byt (fdT tp fd a b c d e k) := fun k => by
    induction k with
    | zero => exact h
    | succ k ih => exact ih.upn
  exact q 20
end PZS
