/-! ===== mount: the reference knows of nobody who rests or is held ===== -/
section PXX24
variable {R : RfT}
theorem z_nk3 : ∀ (m k : Nat) (X : RfT), k ≤ 32 → 32 - k < m → (∀ c, c < k → rA X 53 c = 0) → ∃ R', e_nothingKnown_45 m X (nI k) = some R' ∧ Fn [34] [53] X R' ∧ rS R' 34 = 0 ∧ ∀ c, c < 32 → rA R' 53 c = 0 := by
  intro m
  induction m with
  | zero => intro k X _ h; exact absurd h (Nat.not_lt_zero _)
  | succ m ih =>
    intro k X hk hm h0
    rw [e_nothingKnown_45]
    by_cases c : k = 32
    · rw [c, if_pos (show (32 : Int32) ≤ nI 32 by decide), ptR]
      exact ⟨_, rfl, Fn.s (by decide), pk_us (f := X.1) (k := 34), fun b hb => h0 b (by omega)⟩
    · rw [if_neg (show ¬ (32 : Int32) ≤ nI k from nI_ge (a := k) (b := 32) (by omega) (by decide)), st_n (by omega) (by decide), nI_1]
      obtain ⟨R', q1, q2, q3, q4⟩ := ih (k + 1) (setA X 53 (upd (rA X 53) k 0)) (by omega) (by omega) (fun b hb => by
        rw [rA_e]
        by_cases z : b = k
        · rw [z, pk_us]
        · rw [pk_un z]
          exact h0 b (by omega))
      exact ⟨R', q1, (Fn.a (by decide)).tr q2, q3, q4⟩
theorem z_nk2 : ∀ (m k : Nat) (X : RfT), k ≤ 65 → 65 - k < m → (∀ c, c < k → rA X 52 c = 0) → ∃ R', e_nothingKnown_24 m X (nI k) = some R' ∧ Fn [34] [52, 53] X R' ∧ rS R' 34 = 0 ∧ (∀ c, c < 65 → rA R' 52 c = 0) ∧ ∀ c, c < 32 → rA R' 53 c = 0 := by
  intro m
  induction m with
  | zero => intro k X _ h; exact absurd h (Nat.not_lt_zero _)
  | succ m ih =>
    intro k X hk hm h0
    rw [e_nothingKnown_24]
    by_cases c : k = 65
    · rw [c, if_pos (show (65 : Int32) ≤ nI 65 by decide)]
      obtain ⟨R', q1, q2, q3, q4⟩ := z_nk3 fuL 0 X (by decide) (by rw [fuL_4]; omega) (fun c hc => absurd hc (Nat.not_lt_zero _))
      exact ⟨R', q1, q2.wk (by decide) (by decide), q3, fun b hb => by rw [q2.1.2.1 52 (by decide)]; exact h0 b (by omega), q4⟩
    · rw [if_neg (show ¬ (65 : Int32) ≤ nI k from nI_ge (a := k) (b := 65) (by omega) (by decide)), st_n (by omega) (by decide), nI_1]
      obtain ⟨R', q1, q2, q3, q4⟩ := ih (k + 1) (setA X 52 (upd (rA X 52) k 0)) (by omega) (by omega) (fun b hb => by
        rw [rA_e]
        by_cases z : b = k
        · rw [z, pk_us]
        · rw [pk_un z]
          exact h0 b (by omega))
      exact ⟨R', q1, (Fn.a (by decide)).tr q2, q3, q4⟩
theorem z_nk1 : ∀ (m k : Nat) (X : RfT), k ≤ 1024 → 1024 - k < m → (∀ c, c < k → rA X 35 c = 0) → ∃ R', e_nothingKnown_2 m X (nI k) = some R' ∧ Fn [34] [35, 52, 53] X R' ∧ rS R' 34 = 0 ∧ (∀ c, c < 1024 → rA R' 35 c = 0) ∧ (∀ c, c < 65 → rA R' 52 c = 0) ∧ ∀ c, c < 32 → rA R' 53 c = 0 := by
  intro m
  induction m with
  | zero => intro k X _ h; exact absurd h (Nat.not_lt_zero _)
  | succ m ih =>
    intro k X hk hm h0
    rw [e_nothingKnown_2]
    by_cases c : k = 1024
    · rw [c, if_pos (show (1024 : Int32) ≤ nI 1024 by decide)]
      obtain ⟨R', q1, q2, q3, q4, q5⟩ := z_nk2 fuL 0 X (by decide) (by rw [fuL_4]; omega) (fun c hc => absurd hc (Nat.not_lt_zero _))
      exact ⟨R', q1, q2.wk (by decide) (by decide), q3, fun b hb => by rw [q2.1.2.1 35 (by decide)]; exact h0 b (by omega), q4, q5⟩
    · rw [if_neg (show ¬ (1024 : Int32) ≤ nI k from nI_ge (a := k) (b := 1024) (by omega) (by decide)), st_n (by omega) (by decide), nI_1]
      obtain ⟨R', q1, q2, q3, q4⟩ := ih (k + 1) (setA X 35 (upd (rA X 35) k (vp_nar .byte ((0 : Int32))))) (by omega) (by omega) (fun b hb => by
        rw [rA_e]
        by_cases z : b = k
        · rw [z, pk_us]
          rfl
        · rw [pk_un z]
          exact h0 b (by omega))
      exact ⟨R', q1, (Fn.a (by decide)).tr q2, q3, q4⟩
theorem z_nothingKnown : ∃ R', e_nothingKnown R = some R' ∧ Fn [34] [35, 52, 53] R R' ∧ rS R' 34 = 0 ∧ (∀ c, c < 1024 → rA R' 35 c = 0) ∧ (∀ c, c < 65 → rA R' 52 c = 0) ∧ ∀ c, c < 32 → rA R' 53 c = 0 := z_nk1 fuL 0 R (by decide) (by rw [fuL_4]; omega) (fun c hc => absurd hc (Nat.not_lt_zero _))
end PXX24
