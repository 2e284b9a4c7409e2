/-! ===== mount: the reference finds the log again ===== -/
section PXX22
variable {N B gr : Nat} {R : RfT} {hw : Hw} {L : List En} {tu : Int32}
theorem z_m181 {x2 x4 y : Int32} (hN : N ≤ 1024) (hN1 : 61 ≤ N) (hr : RH N B hw R) (hb : Byt (rA R 24)) (q : Quiet N hw) (r : Rec N (hSee hw) L tu) (hy : y = mixV 7 (mH0 L.length tu) 6) : ∃ R', e_mount_181 R (nI L.length) x2 y x4 = e_mount_306 1 R' (nI L.length) x2 (mSum L tu) x4 (nI (128 * L.length)) ∧ Fn [] [23, 24, 43] R R' ∧ RH N B hw R' ∧ Byt (rA R' 24) ∧ ∀ k, k < L.length → rA R' 23 k = nI (lAt L k).1 ∧ nr (fl (rA R' 24) k) = (lAt L k).2 := by
  obtain ⟨r1, r2, r3, r4, r5⟩ := id r
  have see : ∀ t, t < N → aRd hw.1 t = hSee hw t := fun t ht => (hSee_n (q.2 t ht)).symm
  obtain ⟨x, a1, a2, a3⟩ := z_rdk2 hN hr (t := 2) (by omega)
  have f1 : Fn [] [23, 24, 43] R (setA R 43 x) := Fn.a (by decide)
  have hr1 : RH N B hw (setA R 43 x) := hr.a (by decide)
  have b1 : Byt (rA (setA R 43 x) 24) := by rw [rA_n (by decide)]; exact hb
  have e43 : rA (setA R 43 x) 43 = x := rA_e
  generalize setA R 43 x = R1 at a1 f1 hr1 b1 e43
  have ex : Eb (2 * L.length) x (mNm L) := fun i hi => by
    rw [← r4 i hi, ← see 2 (by omega), ← a2, nr_at (by omega)]
  have m1 := z_m193 (R := R1) (n := L.length) (x := y) (x2 := x2) (x4 := x4) r1 (2 * L.length) 0 fuL (by omega) (by rw [fuL_4]; omega)
  obtain ⟨R2, c1, c2, c3, -⟩ := z_m227 (n := L.length) (x2 := x2) (x3 := mixV y (rA R1 43) (2 * L.length)) (x4 := x4) r1 L.length 0 fuL R1 (by omega) (by rw [fuL_4]; omega)
  have hr2 : RH N B hw R2 := hr1.fn c2 (by decide) (by decide)
  have b2 : Byt (rA R2 24) := by rw [c2.1.2.1 24 (by decide)]; exact b1
  obtain ⟨R3, d1, d2, d3, d4, -⟩ := z_m261 (hw := hw) (n := L.length) (x2 := x2) (x3 := mixV y (rA R1 43) (2 * L.length)) (x4 := x4) hN hN1 r1 L.length 0 fuL R2 (by omega) (by rw [fuL_4]; omega) hr2 b2
  have g1 := z_m306 (R := R3) (n := L.length) (x := mixV y (rA R1 43) (2 * L.length)) (x2 := x2) (x4 := x4) r1 (128 * L.length) 0 fuL (by omega) (by rw [fuL_4]; omega)
  have hr3 : RH N B hw R3 := hr2.fn d2 (by decide) (by decide)
  have v24 : ∀ k, k < L.length → nr (fl (rA R3 24) k) = (lAt L k).2 := fun k hk => by
    rw [d4 k (Nat.zero_le _) hk, see (3 + k) (by omega), r5 k hk]
  have es : mixV (mixV y (rA R1 43) (2 * L.length)) (rA R3 24) (128 * L.length) = mSum L tu := by
    unfold mSum
    rw [smR_flat L.length v24, hy, e43, Eb.mix _ (2 * L.length) ex]
  refine ⟨R3, ?_, (f1.tr (c2.wk (by decide) (by decide))).tr (d2.wk (by decide) (by decide)), hr3, d3, fun k hk => ⟨?_, v24 k hk⟩⟩
  · rw [e_mount_181, show (2 : Int32) = nI 2 from rfl, bnd_o a1]
    refine m1.trans (c1.trans (d1.trans ?_))
    rw [← es]
    exact g1
  · rw [d2.1.2.1 23 (by decide), c3 k (Nat.zero_le _) hk, e43]
    have z := mNm_at (L := L) hk r1 (by have := (r2 _ (lAt_m hk)).2; omega)
    rw [← z]
    congr 1
    exact n2_c (ex _ (by omega)) (ex _ (by omega))
end PXX22
