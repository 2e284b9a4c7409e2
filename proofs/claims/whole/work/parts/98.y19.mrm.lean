/-! ===== mount: the reference mixes the head and takes the entries' numbers ===== -/
section PXX19
variable {N B gr : Nat} {R : RfT} {hw : Hw}
theorem z_m122 {n : Nat} {x2 : Int32} (hn : n ≤ 40) : ∀ (d k fu : Nat), k + d = 6 → d < fu → e_mount_122 fu R (nI n) x2 (mixV 7 (rA R 43) k) (nI k) = if n = 0 then e_mount_181 R 0 x2 (mixV 7 (rA R 43) 6) 0 else e_mount_181 R (nI n) x2 (mixV 7 (rA R 43) 6) 1 := by
  intro d
  induction d with
  | zero =>
    intro k fu e hf
    obtain ⟨fu, rfl⟩ : ∃ x, fu = x + 1 := ⟨fu - 1, by omega⟩
    have e : k = 6 := e
    rw [e_mount_122, e, if_pos (show (6 : Int32) ≤ nI 6 by decide)]
    by_cases c : n = 0
    · rw [if_pos c, c, if_pos (show nI 0 < (1 : Int32) by decide), e_mount_167]
    · rw [if_neg c, if_neg (show ¬ nI n < (1 : Int32) from fun z => absurd ((nI_ltI (a := n) (b := 1) (by omega) (by decide)).mp z) (by omega)), if_neg (show ¬ (40 : Int32) < nI n from fun z => absurd ((nI_ltI (a := 40) (b := n) (by decide) (by omega)).mp z) (by omega))]
  | succ d ih =>
    intro k fu e hf
    obtain ⟨fu, rfl⟩ : ∃ x, fu = x + 1 := ⟨fu - 1, by omega⟩
    have q : e_mount_122 fu R (nI n) x2 (mixV 7 (rA R 43) k * 31 + (rA R 43 k &&& 255)) (nI (k + 1)) = _ := ih (k + 1) fu (by omega) (by omega)
    rw [e_mount_122, if_neg (show ¬ (6 : Int32) ≤ nI k from nI_ge (a := k) (b := 6) (by omega) (by decide)), ld_n (by omega) (by decide), nm_o, nI_1, q]
theorem z_m193 {n : Nat} {x x2 x4 : Int32} (hn : n ≤ 40) : ∀ (d k fu : Nat), k + d = 2 * n → d < fu → e_mount_193 fu R (nI n) x2 (mixV x (rA R 43) k) x4 (nI k) = e_mount_227 fuL R (nI n) x2 (mixV x (rA R 43) (2 * n)) x4 0 := by
  intro d
  induction d with
  | zero =>
    intro k fu e hf
    obtain ⟨fu, rfl⟩ : ∃ x, fu = x + 1 := ⟨fu - 1, by omega⟩
    have e : k = 2 * n := e
    rw [e_mount_193, e, show (2 : Int32) = nI 2 from rfl, pk_mul, if_pos (nI_le (Nat.le_refl _) (by omega))]
  | succ d ih =>
    intro k fu e hf
    obtain ⟨fu, rfl⟩ : ∃ x, fu = x + 1 := ⟨fu - 1, by omega⟩
    have q : e_mount_193 fu R (nI n) x2 (mixV x (rA R 43) k * 31 + (rA R 43 k &&& 255)) x4 (nI (k + 1)) = _ := ih (k + 1) fu (by omega) (by omega)
    rw [e_mount_193, show (2 : Int32) = nI 2 from rfl, pk_mul, if_neg (nI_ge (by omega) (by omega)), ld_n (by omega) (by decide), nm_o, nI_1, q]
theorem z_m227 {n : Nat} {x2 x3 x4 : Int32} (hn : n ≤ 40) : ∀ (d k fu : Nat) (R : RfT), k + d = n → d < fu → ∃ R', e_mount_227 fu R (nI n) x2 x3 x4 (nI k) = e_mount_261 fuL R' (nI n) x2 x3 x4 0 ∧ Fn [] [23] R R' ∧ (∀ j, k ≤ j → j < n → rA R' 23 j = nI (n2 (rA R 43) (2 * j))) ∧ ∀ j, j < k → rA R' 23 j = rA R 23 j := by
  intro d
  induction d with
  | zero =>
    intro k fu R e hf
    obtain ⟨fu, rfl⟩ : ∃ x, fu = x + 1 := ⟨fu - 1, by omega⟩
    have e : k = n := e
    refine ⟨R, ?_, Fn.rf, fun j h1 h2 => by omega, fun _ _ => rfl⟩
    rw [e_mount_227, e, if_pos (nI_le (Nat.le_refl _) (by omega))]
  | succ d ih =>
    intro k fu R e hf
    obtain ⟨fu, rfl⟩ : ∃ x, fu = x + 1 := ⟨fu - 1, by omega⟩
    obtain ⟨R', q1, q2, q3, q4⟩ := ih (k + 1) fu (setA R 23 (upd (rA R 23) k (nI (n2 (rA R 43) (2 * k))))) (by omega) (by omega)
    have f1 : Fn [] [23] R (setA R 23 (upd (rA R 23) k (nI (n2 (rA R 43) (2 * k))))) := Fn.a (by decide)
    refine ⟨R', ?_, f1.tr q2, fun j h1 h2 => ?_, fun j hj => ?_⟩
    · rw [e_mount_227, if_neg (nI_ge (by omega) (by omega)), show (2 : Int32) = nI 2 from rfl, pk_mul, bnd_o (show e_number_78 R (nI (2 * k)) (nI 2) = _ from z_row2 (a := 2 * k) (by omega)), st_n (by omega) (by decide), nI_1]
      exact q1
    · by_cases c : j = k
      · rw [q4 j (by omega), rA_e, c, pk_us]
      · rw [q3 j (by omega) h2, f1.1.2.1 43 (by decide)]
    · rw [q4 j (by omega), rA_e, pk_un (by omega)]
theorem z_m306 {n : Nat} {x x2 x4 : Int32} (hn : n ≤ 40) : ∀ (d k fu : Nat), k + d = 128 * n → d < fu → e_mount_306 fu R (nI n) x2 (mixV x (rA R 24) k) x4 (nI k) = e_mount_306 1 R (nI n) x2 (mixV x (rA R 24) (128 * n)) x4 (nI (128 * n)) := by
  intro d
  induction d with
  | zero =>
    intro k fu e hf
    obtain ⟨fu, rfl⟩ : ∃ x, fu = x + 1 := ⟨fu - 1, by omega⟩
    have e : k = 128 * n := e
    rw [e, e_mount_306, e_mount_306, show (128 : Int32) = nI 128 from rfl, pk_mul, if_pos (nI_le (Nat.le_refl _) (by omega)), if_pos (nI_le (Nat.le_refl _) (by omega))]
  | succ d ih =>
    intro k fu e hf
    obtain ⟨fu, rfl⟩ : ∃ x, fu = x + 1 := ⟨fu - 1, by omega⟩
    have q : e_mount_306 fu R (nI n) x2 (mixV x (rA R 24) k * 31 + (rA R 24 k &&& 255)) x4 (nI (k + 1)) = _ := ih (k + 1) fu (by omega) (by omega)
    rw [e_mount_306, show (128 : Int32) = nI 128 from rfl, pk_mul, if_neg (nI_ge (by omega) (by omega)), ld_n (by omega) (by decide), nm_o, nI_1, q]
end PXX19
