/-! ===== mount: the reference takes the entries' values ===== -/
section PXX20
variable {N B gr : Nat} {R : RfT} {hw : Hw}
theorem z_cp78_65_l {p q : Nat} (hb : ∀ i, i < 128 → fits .byte (.int (rA R 43 i)) = true) (hp : p = 0) (hq : q + 128 ≤ 5120) : ∀ (m k : Nat), k ≤ 128 → 128 - k < m → e_move_78_65_3 m (setA R 24 (va_cpy (rA R 43) (rA R 24) p q k)) (nI p) (nI q) (nI k) = some (setA R 24 (va_cpy (rA R 43) (rA R 24) p q 128)) := by
  have hM : 128 < 2 ^ 31 := by decide
  have hM2 : 5120 < 2 ^ 31 := by decide
  intro m
  induction m with
  | zero => intro k _ h; exact absurd h (Nat.not_lt_zero _)
  | succ m ih =>
    intro k hk hm
    rw [e_move_78_65_3]
    by_cases c : k = 128
    · rw [c, if_pos (show (128 : Int32) ≤ nI 128 from nI_le (a := 128) (b := 128) (by decide) (by decide))]
    · have h1 : p + k < 128 := by omega
      have h2 : q + k < 5120 := by omega
      rw [if_neg (show ¬ (128 : Int32) ≤ nI k from nI_ge (a := k) (b := 128) (by omega) (by decide)), nI_add, ld_n h1 hM, nI_add, st_n h2 hM2, rA_n (show 43 ≠ 24 by decide), rA_e, nar8 (hb _ h1), cpy_s, setA_A, nI_1, ih (k + 1) (by omega) (by omega)]
theorem z_cp78_65 {q : Nat} (hb : ∀ i, i < 128 → fits .byte (.int (rA R 43 i)) = true) (hq : q + 128 ≤ 5120) : e_move_78_65 R 0 (nI q) = some (setA R 24 (va_cpy (rA R 43) (rA R 24) 0 q 128)) := by
  have z := z_cp78_65_l (R := R) (p := 0) (q := q) hb rfl hq fuL 0 (Nat.zero_le _) (by rw [fuL_4]; omega)
  rw [cpy_0, setA_id] at z
  rw [e_move_78_65]
  exact z
theorem z_rdk2 (hN : N ≤ 1024) (hr : RH N B hw R) {t : Nat} (ht : t < N) : ∃ x, e_readDisk_78 R (nI t) = some (setA R 43 x) ∧ nr x = aRd hw.1 t ∧ ∀ i, i < 128 → fits .byte (.int (x i)) = true := by
  obtain ⟨wf, w, d, -, db, -⟩ := id hr
  have rd := d.read hN ht
  rw [e_readDisk_78, ld_n (by omega) (by decide)]
  rcases db.2.2.1 t (by omega) with c | ⟨s, hs, c⟩
  · rw [if_pos c, show (128 : Int32) = nI 128 from rfl, pk_mul, bnd_o (z_mv58 db.2.2.2.1.1 (by omega))]
    refine ⟨_, rfl, ?_, fun i hi => ?_⟩
    · rw [← rd]
      unfold rRd
      rw [if_pos c]
      exact nr_eq (fun i hi => by
        rw [pk_cpy_in (Nat.zero_le _) (by omega)]
        unfold mvA
        rw [if_pos hi]
        congr 1)
    · unfold mvA
      rw [if_pos hi]
      exact db.2.2.2.1.1 _
  · have cm : ¬ rA R 40 t = -1 := by
      rw [c]
      exact nI_m1 (by omega)
    rw [if_neg cm, ld_n (by omega) (by decide), c, show (128 : Int32) = nI 128 from rfl, pk_mul, bnd_o (z_mv60 db.2.2.2.1.2.1 (by omega))]
    refine ⟨_, rfl, ?_, fun i hi => ?_⟩
    · rw [← rd]
      unfold rRd
      rw [if_neg cm, c, nI_clamp (by omega)]
      exact nr_eq (fun i hi => by
        rw [pk_cpy_in (Nat.zero_le _) (by omega)]
        unfold mvA
        rw [if_pos hi]
        congr 1)
    · unfold mvA
      rw [if_pos hi]
      exact db.2.2.2.1.2.1 _
theorem byt_cpy {g c : Nat → Int32} {q : Nat} (hg : ∀ i, i < 128 → fits .byte (.int (g i)) = true) (hc : Byt c) : Byt (va_cpy g c 0 q 128) := fun i => by
  by_cases z : q ≤ i ∧ i < q + 128
  · rw [pk_cpy_in z.1 z.2]
    exact hg _ (by omega)
  · rw [pk_cpy_out (by omega)]
    exact hc i
/-- the values of the entries, one after another -/
theorem z_m261 {n : Nat} {x2 x3 x4 : Int32} (hN : N ≤ 1024) (hN1 : 61 ≤ N) (hn : n ≤ 40) : ∀ (d k fu : Nat) (R : RfT), k + d = n → d < fu → RH N B hw R → Byt (rA R 24) → ∃ R', e_mount_261 fu R (nI n) x2 x3 x4 (nI k) = e_mount_306 fuL R' (nI n) x2 x3 x4 0 ∧ Fn [] [24, 43] R R' ∧ Byt (rA R' 24) ∧ (∀ j, k ≤ j → j < n → nr (fl (rA R' 24) j) = aRd hw.1 (3 + j)) ∧ ∀ j, j < k → nr (fl (rA R' 24) j) = nr (fl (rA R 24) j) := by
  intro d
  induction d with
  | zero =>
    intro k fu R e hf hr hb
    obtain ⟨fu, rfl⟩ : ∃ x, fu = x + 1 := ⟨fu - 1, by omega⟩
    have e : k = n := e
    refine ⟨R, ?_, Fn.rf, hb, fun j h1 h2 => by omega, fun _ _ => rfl⟩
    rw [e_mount_261, e, if_pos (nI_le (Nat.le_refl _) (by omega))]
  | succ d ih =>
    intro k fu R e hf hr hb
    obtain ⟨fu, rfl⟩ : ∃ x, fu = x + 1 := ⟨fu - 1, by omega⟩
    obtain ⟨x, r1, r2, r3⟩ := z_rdk2 hN hr (t := 3 + k) (by omega)
    have mv := z_cp78_65 (R := setA R 43 x) (q := 128 * k) (fun i hi => by rw [rA_e]; exact r3 i hi) (by omega)
    rw [rA_e, rA_n (show 24 ≠ 43 by decide)] at mv
    generalize hY : va_cpy x (rA R 24) 0 (128 * k) 128 = Y at mv
    have bY : Byt Y := by
      rw [← hY]
      exact byt_cpy r3 hb
    have f1 : Fn [] [24, 43] R (setA (setA R 43 x) 24 Y) := (Fn.a (by decide)).tr (Fn.a (by decide))
    obtain ⟨R', q1, q2, q3, q4, q5⟩ := ih (k + 1) fu (setA (setA R 43 x) 24 Y) (by omega) (by omega) ((hr.a (by decide)).a (by decide)) (by rw [rA_e]; exact bY)
    have flY : ∀ j, nr (fl Y j) = if j = k then aRd hw.1 (3 + k) else nr (fl (rA R 24) j) := fun j => by
      by_cases c : j = k
      · rw [if_pos c, ← r2, c, ← hY]
        exact nr_eq (fun i hi => by
          unfold fl
          rw [pk_cpy_in (by omega) (by omega)]
          congr 1
          omega)
      · rw [if_neg c, ← hY]
        exact nr_eq (fun i hi => by
          unfold fl
          rw [pk_cpy_out (by omega)])
    refine ⟨R', ?_, f1.tr q2, q3, fun j h1 h2 => ?_, fun j hj => ?_⟩
    · rw [e_mount_261, if_neg (nI_ge (by omega) (by omega)), show (3 : Int32) = nI 3 from rfl, nI_add, bnd_o r1, show (128 : Int32) = nI 128 from rfl, pk_mul, bnd_o mv, nI_1]
      exact q1
    · by_cases c : j = k
      · rw [q5 j (by omega), rA_e, flY, if_pos c, c]
      · exact q4 j (by omega) h2
    · rw [q5 j (by omega), rA_e, flY, if_neg (by omega)]
end PXX20
