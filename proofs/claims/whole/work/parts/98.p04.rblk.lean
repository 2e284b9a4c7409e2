/-! ===== pure: the places of inodes, as the reference reads them ===== -/
section PUE
variable {R : RfT}
theorem rcM_1 {V : Nat → Rw} {i p : Nat} : rcM V i p 1 = f2 V i (offM p 0) := by
  show (if homeM i = 0 then 0 else n2 (V (homeM i)) (offM p 0 + if 0 = 0 then startM i else 0)) = _
  rw [if_neg (homeM_ne i), if_pos rfl, Nat.add_comm]
  rfl
theorem rcM_s {V : Nat → Rw} {i p k : Nat} : rcM V i p (k + 2) = if rcM V i p (k + 1) = 0 then 0 else n2 (V (rcM V i p (k + 1))) (offM p (k + 1)) := by
  show (if rcM V i p (k + 1) = 0 then 0 else n2 (V (rcM V i p (k + 1))) (offM p (k + 1) + if k + 1 = 0 then startM i else 0)) = _
  rw [if_neg (show ¬ k + 1 = 0 by omega)]
  rfl
theorem z_s2 {b a : Nat} (hb : b < 1024) (hl : lkA R) (ha : a + 2 ≤ 128) : e_seenNumber R (nI b) (nI a) 2 = some (nI (n2 (rSee R true b) a)) := z_seen (n := 2) hb (hl b hb) (Or.inr (Or.inl rfl)) ha
theorem z_s1 {b a : Nat} (hb : b < 1024) (hl : lkA R) (ha : a + 1 ≤ 128) : e_seenNumber R (nI b) (nI a) 1 = some (nI (ub (rSee R true b) a)) := z_seen (n := 1) hb (hl b hb) (Or.inl rfl) ha
theorem lev_1 {p : Nat} (h : p < 8) : levM p = 1 := if_pos h
theorem lev_2 {p : Nat} (h : ¬ p < 8) (h2 : p < 72) : levM p = 2 := (if_neg h).trans (if_pos h2)
theorem lev_3 {p : Nat} (h2 : ¬ p < 72) : levM p = 3 := (if_neg (by omega)).trans (if_neg h2)
theorem off_a {p : Nat} (h : ¬ p < 8) (h2 : p < 72) : offM p 0 = 28 ∧ offM p 1 = 2 * (p - 8) := ⟨(if_neg h).trans ((if_pos h2).trans (if_pos rfl)), (if_neg h).trans ((if_pos h2).trans (if_neg (by decide)))⟩
theorem off_b {p : Nat} (h2 : ¬ p < 72) : offM p 0 = 30 ∧ offM p 1 = 2 * ((p - 72) / 64) ∧ offM p 2 = 2 * ((p - 72) % 64) := ⟨(if_neg (by omega)).trans ((if_neg h2).trans (if_pos rfl)), (if_neg (by omega)).trans ((if_neg h2).trans ((if_neg (by decide)).trans (if_pos rfl))), (if_neg (by omega)).trans ((if_neg h2).trans ((if_neg (by decide)).trans (if_neg (by decide))))⟩
theorem z_tableOf {i p : Nat} (hl : lkA R) (h1 : 1 ≤ i) (h2 : i ≤ 64) (hp8 : ¬ p < 8) (hp : p < 4168) (ho : ∀ k, k < levM p - 1 → rcM (rSee R true) i p k < 1024) : e_tableOf R (nI i) (nI p) = some (nI (hdM (rSee R true) i p)) := by
  unfold hdM
  rw [e_tableOf]
  by_cases c : p < 72
  · rw [if_neg (show ¬ (72 : Int32) ≤ nI p from nI_ge (a := p) (b := 72) c (by decide)), bnd_o (m := e_field R (nI i) 28 2) (z_f2 (a := 28) hl h1 h2 (by decide)), lev_2 hp8 c, rcM_1, (off_a hp8 c).1]
  · rw [lev_3 c] at ho ⊢
    obtain ⟨o1, o2, o3⟩ := off_b c
    have hs := ho 1 (by omega)
    rw [rcM_s, rcM_1, o1, o2]
    rw [rcM_1, o1] at hs
    rw [if_pos (show (72 : Int32) ≤ nI p from nI_le (a := 72) (b := p) (by omega) (by omega)), bnd_o (m := e_field R (nI i) 30 2) (z_f2 (a := 30) hl h1 h2 (by decide))]
    by_cases c2 : f2 (rSee R true) i 30 = 0
    · rw [if_pos c2, c2, if_pos (show nI 0 = (0 : Int32) from nI_0)]
      rfl
    · rw [if_neg c2, if_neg (nI_ne0 (by omega) (by omega)), show (72 : Int32) = nI 72 from rfl, show (64 : Int32) = nI 64 from rfl, pk_sub (by omega), pk_div (by omega) (by decide) (by decide), show (2 : Int32) = nI 2 from rfl, pk_mul, bnd_o (m := e_seenNumber R (nI (f2 (rSee R true) i 30)) (nI (2 * ((p - 72) / 64))) (nI 2)) (z_s2 hs hl (by omega))]
theorem z_blockOf {i p : Nat} (hl : lkA R) (h1 : 1 ≤ i) (h2 : i ≤ 64) (hp : p < 4168) (ho : ∀ k, k < levM p → rcM (rSee R true) i p k < 1024) : e_blockOf R (nI i) (nI p) = some (nI (blM (rSee R true) i p)) := by
  unfold blM
  rw [e_blockOf]
  by_cases c8 : p < 8
  · rw [if_neg (show ¬ (8 : Int32) ≤ nI p from nI_ge (a := p) (b := 8) c8 (by decide)), show (12 : Int32) = nI 12 from rfl, show (2 : Int32) = nI 2 from rfl, pk_mul, nI_add, bnd_o (m := e_field R (nI i) (nI (12 + 2 * p)) (nI 2)) (z_f2 (a := 12 + 2 * p) hl h1 h2 (by omega)), lev_1 c8, rcM_1, show offM p 0 = 12 + 2 * p from if_pos c8]
  · have ht := z_tableOf hl h1 h2 c8 hp (fun k hk => ho k (by omega))
    have hb : hdM (rSee R true) i p < 1024 := ho (levM p - 1) (by unfold levM; split; omega; split <;> omega)
    rw [if_pos (show (8 : Int32) ≤ nI p from nI_le (a := 8) (b := p) (by omega) (by omega)), bnd_o ht]
    by_cases c : p < 72
    · have eh : hdM (rSee R true) i p = rcM (rSee R true) i p 1 := by unfold hdM; rw [lev_2 c8 c]
      rw [lev_2 c8 c, rcM_s, ← eh, (off_a c8 c).2]
      by_cases c2 : hdM (rSee R true) i p = 0
      · rw [if_pos c2, c2, if_pos (show nI 0 = (0 : Int32) from nI_0)]
        rfl
      · rw [if_neg c2, if_neg (nI_ne0 (by omega) (by omega)), if_neg (show ¬ (72 : Int32) ≤ nI p from nI_ge (a := p) (b := 72) c (by decide)), show (8 : Int32) = nI 8 from rfl, pk_sub (by omega), show (2 : Int32) = nI 2 from rfl, pk_mul, bnd_o (m := e_seenNumber R (nI (hdM (rSee R true) i p)) (nI (2 * (p - 8))) (nI 2)) (z_s2 hb hl (by omega))]
    · have eh : hdM (rSee R true) i p = rcM (rSee R true) i p 2 := by unfold hdM; rw [lev_3 c]
      have hm := Nat.mod_lt (p - 72) (show 64 > 0 by decide)
      rw [lev_3 c, rcM_s, ← eh, (off_b c).2.2]
      by_cases c2 : hdM (rSee R true) i p = 0
      · rw [if_pos c2, c2, if_pos (show nI 0 = (0 : Int32) from nI_0)]
        rfl
      · rw [if_neg c2, if_neg (nI_ne0 (by omega) (by omega)), if_pos (show (72 : Int32) ≤ nI p from nI_le (a := 72) (b := p) (by omega) (by omega)), show (72 : Int32) = nI 72 from rfl, show (64 : Int32) = nI 64 from rfl, pk_sub (by omega), pk_rem (by omega) (by decide) (by decide), show (2 : Int32) = nI 2 from rfl, pk_mul, bnd_o (m := e_seenNumber R (nI (hdM (rSee R true) i p)) (nI (2 * ((p - 72) % 64))) (nI 2)) (z_s2 hb hl (by omega))]
end PUE
