/-! ===== mount: the reference's log is as the image says ===== -/
section PXX23
variable {N B gr : Nat} {R : RfT} {hw : Hw} {L : List En} {tu : Int32}
theorem z_m73 (hN : N ≤ 1024) (hN1 : 61 ≤ N) (hr : RH N B hw R) (hb : Byt (rA R 24)) (q : Quiet N hw) (r : Rec N (hSee hw) L tu) : ∃ R', e_mount_73 R = e_mount_368 1 R' (nI L.length) ∧ RLg N R' L tu ∧ RH N B hw R' ∧ Fn [22, 25] [23, 24, 38, 43] R R' := by
  obtain ⟨r1, r2, r3, r4, r5⟩ := id r
  obtain ⟨x, a1, a2, a3⟩ := z_rdk2 hN hr (t := 1) (by omega)
  have ex : nr x = mHd L tu := by rw [a2, ← hSee_n (q.2 1 (by omega)), r3]
  have n0 : e_number_78 (setA R 43 x) 0 2 = some (nI L.length) := by
    have z := z_row2 (R := setA R 43 x) (a := 0) (by decide)
    rw [rA_e, ← n2_nr (by decide), ex, mHd_n r1] at z
    exact z
  have n6 : e_number_78 (setA R 43 x) 6 4 = some (mSum L tu) := by
    have z := z_row4 (R := setA R 43 x) (a := 6) (by decide)
    rw [rA_e, ← n4_nr (by decide), ex, mHd_s] at z
    exact z
  have n2' : e_number_78 (setA R 43 x) 2 4 = some tu := by
    have z := z_row4 (R := setA R 43 x) (a := 2) (by decide)
    rw [rA_e, ← n4_nr (by decide), ex, mHd_t] at z
    exact z
  have f2 : Fn [22, 25] [23, 24, 38, 43] R (setS (setA R 43 x) 22 tu) := (Fn.a (by decide)).tr (Fn.s (by decide))
  have hr2 : RH N B hw (setS (setA R 43 x) 22 tu) := (hr.a (by decide)).s (by decide)
  have b2 : Byt (rA (setS (setA R 43 x) 22 tu) 24) := by
    show Byt (rA (setA R 43 x) 24)
    rw [rA_n (by decide)]
    exact hb
  have t2 : rS (setS (setA R 43 x) 22 tu) 22 = tu := pk_us (f := R.1) (k := 22) (x := tu)
  have e43 : rA (setS (setA R 43 x) 22 tu) 43 = x := rA_e (R := R)
  have ehd : e_mount_73 R = e_mount_122 fuL (setS (setA R 43 x) 22 tu) (nI L.length) (mSum L tu) 7 0 := by
    rw [e_mount_73, bnd_o (show e_readDisk_78 R 1 = _ from a1), bnd_o n0, bnd_o n6, bnd_o n2', ptR]
  rw [ehd]
  generalize setS (setA R 43 x) 22 tu = R2 at f2 hr2 b2 t2 e43
  have m := z_m122 (R := R2) (n := L.length) (x2 := mSum L tu) r1 6 0 fuL (by omega) (by rw [fuL_4]; omega)
  have hy : mixV 7 (rA R2 43) 6 = mixV 7 (mH0 L.length tu) 6 := Eb.mix 7 6 (fun i hi => by
    rw [e43, ← mHd_6 i hi, ← ex, nr_at (by omega)])
  have fin : ∀ (R3 : RfT), Fn [] [23, 24, 43] R2 R3 → RH N B hw R3 → Byt (rA R3 24) → (∀ k, k < L.length → rA R3 23 k = nI (lAt L k).1 ∧ nr (fl (rA R3 24) k) = (lAt L k).2) → ∃ R', e_mount_368 fuL (setA (setS R3 25 (nI L.length)) 38 (flt (rA R3 38) 0 1024 (-1))) 0 = e_mount_368 1 R' (nI L.length) ∧ RLg N R' L tu ∧ RH N B hw R' ∧ Fn [22, 25] [23, 24, 38, 43] R R' := by
    intro R3 f3 hr3 b3 en
    have f4 : Fn [22, 25] [23, 24, 38, 43] R3 (setA (setS R3 25 (nI L.length)) 38 (flt (rA R3 38) 0 1024 (-1))) := (Fn.s (by decide)).tr (Fn.a (by decide))
    have hr4 : RH N B hw (setA (setS R3 25 (nI L.length)) 38 (flt (rA R3 38) 0 1024 (-1))) := (hr3.s (by decide)).a (by decide)
    have s25 : rS (setA (setS R3 25 (nI L.length)) 38 (flt (rA R3 38) 0 1024 (-1))) 25 = nI L.length := pk_us (f := R3.1) (k := 25)
    have s22 : rS (setA (setS R3 25 (nI L.length)) 38 (flt (rA R3 38) 0 1024 (-1))) 22 = tu := by
      show upd R3.1 25 (nI L.length) 22 = tu
      rw [pk_un (by decide)]
      exact (f3.1.1 22 (by decide)).trans t2
    have e38 : rA (setA (setS R3 25 (nI L.length)) 38 (flt (rA R3 38) 0 1024 (-1))) 38 = flt (rA R3 38) 0 1024 (-1) := rA_e
    have e23 : rA (setA (setS R3 25 (nI L.length)) 38 (flt (rA R3 38) 0 1024 (-1))) 23 = rA R3 23 := rA_n (by decide)
    have e24 : rA (setA (setS R3 25 (nI L.length)) 38 (flt (rA R3 38) 0 1024 (-1))) 24 = rA R3 24 := rA_n (by decide)
    generalize setA (setS R3 25 (nI L.length)) 38 (flt (rA R3 38) 0 1024 (-1)) = R4 at f4 hr4 s25 s22 e38 e23 e24
    obtain ⟨R5, g1, g2, g3⟩ := z_m368 (N := N) hN r1 (fun p hp => (r2 p hp).2) L [] fuL R4 rfl (by rw [fuL_4]; omega) s25 (fun k hk => by rw [e23]; exact (en k hk).1) (fun b hb => Or.inl ⟨by rw [e38]; exact flt_at (Nat.zero_le _) hb, fun k hk => absurd hk (Nat.not_lt_zero _)⟩)
    refine ⟨R5, g1, ⟨(g2.1.1 22 (by decide)).trans s22, (g2.1.1 25 (by decide)).trans s25, r1, fun k hk => ⟨?_, (r2 _ (lAt_m hk)).2, ?_⟩, g3, ?_⟩, hr4.fn g2 (by decide) (by decide), (f2.tr (f3.wk (by decide) (by decide))).tr (f4.tr (g2.wk (by decide) (by decide)))⟩
    · rw [g2.1.2.1 23 (by decide), e23]
      exact (en k hk).1
    · rw [g2.1.2.1 24 (by decide), e24]
      exact (en k hk).2
    · rw [g2.1.2.1 24 (by decide), e24]
      exact b3
  by_cases c : L.length = 0
  · rw [if_pos c] at m
    obtain ⟨R3, h1, h2, h3, h4, h5⟩ := z_m181 (x2 := mSum L tu) (x4 := 0) hN hN1 hr2 b2 q r hy
    obtain ⟨R5, g1, g2⟩ := fin R3 h2 h3 h4 h5
    refine ⟨R5, m.trans ?_, g2⟩
    rw [show (0 : Int32) = nI L.length by rw [c]; rfl] at h1 ⊢
    refine h1.trans (Eq.trans ?_ g1)
    rw [e_mount_306, show (128 : Int32) = nI 128 from rfl, pk_mul, if_pos (nI_le (Nat.le_refl _) (by omega)), if_pos (by rw [c]; rfl), ptR, show (0 : Int32) = nI L.length by rw [c]; rfl, bnd_o (z_nowhere_75 (R := setS R3 25 (nI L.length)))]
  · rw [if_neg c] at m
    obtain ⟨R3, h1, h2, h3, h4, h5⟩ := z_m181 (x2 := mSum L tu) (x4 := 1) hN hN1 hr2 b2 q r hy
    obtain ⟨R5, g1, g2⟩ := fin R3 h2 h3 h4 h5
    refine ⟨R5, m.trans (h1.trans (Eq.trans ?_ g1)), g2⟩
    rw [e_mount_306, show (128 : Int32) = nI 128 from rfl, pk_mul, if_pos (nI_le (Nat.le_refl _) (by omega)), if_neg (show ¬ (1 : Int32) = 0 by decide), if_pos rfl, ptR, bnd_o (z_nowhere_75 (R := setS R3 25 (nI L.length)))]
end PXX23
