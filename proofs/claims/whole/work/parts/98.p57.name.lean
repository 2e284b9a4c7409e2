/-! ===== pure: names and paths ===== -/
section PWH
variable {N : Nat} {V : Nat → Rw} {R : RfT}
def nbOk (c : Int32) : Prop := (97 ≤ c ∧ c ≤ 122) ∨ (65 ≤ c ∧ c ≤ 90) ∨ (48 ≤ c ∧ c ≤ 57) ∨ c = 46 ∨ c = 95 ∨ c = 45
theorem i_nlt {a b : Int32} (h : ¬ a < b) : b ≤ a := Int32.not_lt.mp h
theorem i_ltn {a b : Int32} (h : a < b) : ¬ b ≤ a := Int32.not_le.mpr h
theorem d_nb {D : CfT} {c : Int32} : ∃ r : Bool, d_X8_isNameByte N V D c = some (bI r) ∧ e_isLetter R c = some (bI r) ∧ ((r = true) ↔ nbOk c) := by
  rw [d_X8_isNameByte, e_isLetter]
  unfold nbOk
  by_cases h1 : c < 97
  · rw [if_pos h1, if_pos h1, d_X8_isNameByte_12, e_isLetter_12]
    by_cases h2 : c < 65
    · rw [if_pos h2, if_pos h2, d_X8_isNameByte_24, e_isLetter_24]
      by_cases h3 : c < 48
      · rw [if_pos h3, if_pos h3]
        by_cases e1 : c = 46
        · rw [if_pos e1, if_pos e1]
          exact ⟨true, rfl, rfl, fun _ => Or.inr (Or.inr (Or.inr (Or.inl e1))), fun _ => rfl⟩
        · rw [if_neg e1, if_neg e1]
          by_cases e2 : c = 95
          · rw [if_pos e2, if_pos e2]
            exact ⟨true, rfl, rfl, fun _ => Or.inr (Or.inr (Or.inr (Or.inr (Or.inl e2)))), fun _ => rfl⟩
          · rw [if_neg e2, if_neg e2]
            by_cases e3 : c = 45
            · rw [if_pos e3, if_pos e3]
              exact ⟨true, rfl, rfl, fun _ => Or.inr (Or.inr (Or.inr (Or.inr (Or.inr e3)))), fun _ => rfl⟩
            · rw [if_neg e3, if_neg e3]
              exact ⟨false, rfl, rfl, (fun z => by cases z), fun z => by
                rcases z with z | z | z | z | z | z
                · exact absurd z.1 (i_ltn h1)
                · exact absurd z.1 (i_ltn h2)
                · exact absurd z.1 (i_ltn h3)
                · exact absurd z e1
                · exact absurd z e2
                · exact absurd z e3⟩
      · rw [if_neg h3, if_neg h3]
        by_cases h4 : c ≤ 57
        · rw [if_pos h4, if_pos h4]
          exact ⟨true, rfl, rfl, fun _ => Or.inr (Or.inr (Or.inl ⟨i_nlt h3, h4⟩)), fun _ => rfl⟩
        · rw [if_neg h4, if_neg h4]
          by_cases e1 : c = 46
          · rw [if_pos e1, if_pos e1]
            exact ⟨true, rfl, rfl, fun _ => Or.inr (Or.inr (Or.inr (Or.inl e1))), fun _ => rfl⟩
          · rw [if_neg e1, if_neg e1]
            by_cases e2 : c = 95
            · rw [if_pos e2, if_pos e2]
              exact ⟨true, rfl, rfl, fun _ => Or.inr (Or.inr (Or.inr (Or.inr (Or.inl e2)))), fun _ => rfl⟩
            · rw [if_neg e2, if_neg e2]
              by_cases e3 : c = 45
              · rw [if_pos e3, if_pos e3]
                exact ⟨true, rfl, rfl, fun _ => Or.inr (Or.inr (Or.inr (Or.inr (Or.inr e3)))), fun _ => rfl⟩
              · rw [if_neg e3, if_neg e3]
                exact ⟨false, rfl, rfl, (fun z => by cases z), fun z => by
                  rcases z with z | z | z | z | z | z
                  · exact absurd z.1 (i_ltn h1)
                  · exact absurd z.1 (i_ltn h2)
                  · exact absurd z.2 h4
                  · exact absurd z e1
                  · exact absurd z e2
                  · exact absurd z e3⟩
    · rw [if_neg h2, if_neg h2]
      by_cases h3 : c ≤ 90
      · rw [if_pos h3, if_pos h3]
        exact ⟨true, rfl, rfl, fun _ => Or.inr (Or.inl ⟨i_nlt h2, h3⟩), fun _ => rfl⟩
      · rw [if_neg h3, if_neg h3, d_X8_isNameByte_24, e_isLetter_24]
        have h65 : (65 : Int32) ≤ c := i_nlt h2
        rw [if_neg (show ¬ c < 48 from fun z => absurd (Int32.le_trans (show (48 : Int32) ≤ 65 by decide) h65) (i_ltn z)), if_neg (show ¬ c < 48 from fun z => absurd (Int32.le_trans (show (48 : Int32) ≤ 65 by decide) h65) (i_ltn z)), if_neg (show ¬ c ≤ 57 from fun z => absurd (Int32.le_trans h65 z) (by decide)), if_neg (show ¬ c ≤ 57 from fun z => absurd (Int32.le_trans h65 z) (by decide))]
        by_cases e1 : c = 46
        · rw [e1] at h65
          exact absurd h65 (by decide)
        · rw [if_neg e1, if_neg e1]
          by_cases e2 : c = 95
          · rw [if_pos e2, if_pos e2]
            exact ⟨true, rfl, rfl, fun _ => Or.inr (Or.inr (Or.inr (Or.inr (Or.inl e2)))), fun _ => rfl⟩
          · rw [if_neg e2, if_neg e2]
            by_cases e3 : c = 45
            · rw [e3] at h65
              exact absurd h65 (by decide)
            · rw [if_neg e3, if_neg e3]
              exact ⟨false, rfl, rfl, (fun z => by cases z), fun z => by
                rcases z with z | z | z | z | z | z
                · exact absurd z.1 (i_ltn h1)
                · exact absurd z.2 h3
                · exact absurd (Int32.le_trans h65 z.2) (by decide)
                · exact absurd z e1
                · exact absurd z e2
                · exact absurd z e3⟩
  · rw [if_neg h1, if_neg h1]
    have h97 : (97 : Int32) ≤ c := i_nlt h1
    by_cases h2 : c ≤ 122
    · rw [if_pos h2, if_pos h2]
      exact ⟨true, rfl, rfl, fun _ => Or.inl ⟨h97, h2⟩, fun _ => rfl⟩
    · rw [if_neg h2, if_neg h2, d_X8_isNameByte_12, e_isLetter_12, if_neg (show ¬ c < 65 from fun z => absurd (Int32.le_trans (show (65 : Int32) ≤ 97 by decide) h97) (i_ltn z)), if_neg (show ¬ c < 65 from fun z => absurd (Int32.le_trans (show (65 : Int32) ≤ 97 by decide) h97) (i_ltn z)), if_neg (show ¬ c ≤ 90 from fun z => absurd (Int32.le_trans h97 z) (by decide)), if_neg (show ¬ c ≤ 90 from fun z => absurd (Int32.le_trans h97 z) (by decide)), d_X8_isNameByte_24, e_isLetter_24, if_neg (show ¬ c < 48 from fun z => absurd (Int32.le_trans (show (48 : Int32) ≤ 97 by decide) h97) (i_ltn z)), if_neg (show ¬ c < 48 from fun z => absurd (Int32.le_trans (show (48 : Int32) ≤ 97 by decide) h97) (i_ltn z)), if_neg (show ¬ c ≤ 57 from fun z => absurd (Int32.le_trans h97 z) (by decide)), if_neg (show ¬ c ≤ 57 from fun z => absurd (Int32.le_trans h97 z) (by decide))]
      have n1 : ¬ c = 46 := fun e => by
        rw [e] at h97
        exact absurd h97 (by decide)
      have n2 : ¬ c = 95 := fun e => by
        rw [e] at h97
        exact absurd h97 (by decide)
      have n3 : ¬ c = 45 := fun e => by
        rw [e] at h97
        exact absurd h97 (by decide)
      rw [if_neg n1, if_neg n1, if_neg n2, if_neg n2, if_neg n3, if_neg n3]
      exact ⟨false, rfl, rfl, (fun z => by cases z), fun z => by
        rcases z with z | z | z | z | z | z
        · exact absurd z.2 h2
        · exact absurd (Int32.le_trans h97 z.2) (by decide)
        · exact absurd (Int32.le_trans h97 z.2) (by decide)
        · exact absurd z n1
        · exact absurd z n2
        · exact absurd z n3⟩
/-- a name -/
def nmOk (g : Nat → Int32) (a ln : Nat) : Prop := 1 ≤ ln ∧ ln ≤ 13 ∧ (∀ k, k < ln → nbOk (g (a + k))) ∧ (ln ≤ 2 → ∃ k, k < ln ∧ g (a + k) ≠ 46)
theorem d_isName_l (R0 : RfT) {D : CfT} {g : Nat → Int32} {nn a ln : Nat} (hn : nn < 2 ^ 31) (hal : a + ln ≤ nn) (hl : ln ≤ 13) (hl1 : 1 ≤ ln) : ∀ (m k : Nat) (pt : Bool), k ≤ ln → ln - k < m → (∀ j, j < k → nbOk (g (a + j))) → ((pt = true) ↔ ∀ j, j < k → g (a + j) = 46) → ∃ r : Bool, d_X8_isName_30 N V D m g nn (nI a) (nI ln) (bI pt) (nI k) = some (bI r) ∧ ((r = true) ↔ nmOk g a ln) := by
  intro m
  induction m with
  | zero => intro k _ _ h; exact absurd h (Nat.not_lt_zero _)
  | succ m ih =>
    intro k pt hk hm hb hp
    rw [d_X8_isName_30]
    by_cases c : k = ln
    · rw [c] at hb hp
      rw [c, if_pos (nI_le (Nat.le_refl _) (by omega))]
      cases pt with
      | false =>
        rw [if_pos (show bI false = 0 from rfl)]
        refine ⟨true, rfl, fun _ => ⟨hl1, hl, hb, fun _ => ?_⟩, fun _ => rfl⟩
        exact Classical.byContradiction (fun z => by
          have := hp.mpr (fun j hj => Classical.byContradiction (fun y => z ⟨j, hj, y⟩))
          cases this)
      | true =>
        have hp := hp.mp rfl
        rw [if_neg (show ¬ bI true = 0 by decide)]
        by_cases c2 : ln ≤ 2
        · rw [if_pos (show nI ln ≤ (2 : Int32) from nI_le (b := 2) c2 (by decide))]
          exact ⟨false, rfl, (fun z => by cases z), fun z => by
            obtain ⟨j, j1, j2⟩ := z.2.2.2 c2
            exact absurd (hp j j1) j2⟩
        · rw [if_neg (show ¬ nI ln ≤ (2 : Int32) from nI_ge (a := 2) (by omega) (by omega))]
          exact ⟨true, rfl, fun _ => ⟨hl1, hl, hb, fun z => by omega⟩, fun _ => rfl⟩
    · obtain ⟨r, r1, r2, r3⟩ := d_nb (N := N) (V := V) (R := R0) (D := D) (c := g (a + k))
      rw [if_neg (nI_ge (by omega) (by omega)), nI_add, ld_n (by omega) hn, bnd_o r1]
      cases r with
      | false =>
        rw [if_pos (show bI false = 0 from rfl)]
        exact ⟨false, rfl, (fun z => by cases z), fun z => by cases r3.mpr (z.2.2.1 k (by omega))⟩
      | true =>
        have hbk : ∀ j, j < k + 1 → nbOk (g (a + j)) := fun j hj => by
          by_cases cj : j = k
          · rw [cj]
            exact r3.mp rfl
          · exact hb j (by omega)
        rw [if_neg (show ¬ bI true = 0 by decide), nI_1]
        cases pt with
        | false =>
          rw [if_pos (show bI false = 0 from rfl)]
          exact ih (k + 1) false (by omega) (by omega) hbk ⟨(fun z => by cases z), fun z => by cases hp.mpr (fun j hj => z j (by omega))⟩
        | true =>
          have hp := hp.mp rfl
          rw [if_neg (show ¬ bI true = 0 by decide), ld_n (by omega) hn]
          by_cases e : g (a + k) = 46
          · rw [if_pos e]
            exact ih (k + 1) true (by omega) (by omega) hbk ⟨fun _ j hj => by
              by_cases cj : j = k
              · rw [cj]
                exact e
              · exact hp j (by omega), fun _ => rfl⟩
          · rw [if_neg e]
            exact ih (k + 1) false (by omega) (by omega) hbk ⟨(fun z => by cases z), fun z => absurd (z k (by omega)) e⟩
theorem d_isName (R0 : RfT) {D : CfT} {g : Nat → Int32} {nn a ln : Nat} (hn : nn < 2 ^ 30) (ha : a < 2 ^ 30) (hal : a + ln ≤ nn) : ∃ r : Bool, d_X8_isName N V D g nn (nI a) (nI ln) = some (bI r) ∧ ((r = true) ↔ nmOk g a ln) := by
  rw [d_X8_isName]
  by_cases c1 : ln < 1
  · rw [if_pos (show nI ln < (1 : Int32) from nI_lt (b := 1) c1 (by decide))]
    exact ⟨false, rfl, (fun z => by cases z), fun z => by
      have := z.1
      omega⟩
  · rw [if_neg (show ¬ nI ln < (1 : Int32) from fun z => absurd (nI_le (a := 1) (b := ln) (by omega) (by omega)) (Int32.not_le.mpr z))]
    by_cases c2 : 13 < ln
    · rw [if_pos (show (13 : Int32) < nI ln from nI_lt (a := 13) c2 (by omega))]
      exact ⟨false, rfl, (fun z => by cases z), fun z => by
        have := z.2.1
        omega⟩
    · rw [if_neg (show ¬ (13 : Int32) < nI ln from fun z => absurd (nI_le (a := ln) (b := 13) (by omega) (by decide)) (Int32.not_le.mpr z)), if_neg (nI_nn (by omega)), nI_add, if_pos (nI_le hal (by omega))]
      exact d_isName_l R0 (by omega) hal (by omega) (by omega) fuL 0 true (Nat.zero_le _) (by rw [fuL_4]; omega) (fun j hj => absurd hj (Nat.not_lt_zero _)) ⟨fun _ j hj => absurd hj (Nat.not_lt_zero _), fun _ => rfl⟩
end PWH
