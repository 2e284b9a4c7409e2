/-! ===== pure: the reference cuts an inode, all of it ===== -/
section PVS
variable {N B gr : Nat} {V : Nat → Rw} {i : Nat} {m : M5} {tk : Nat → Bool} {k : Nat}
theorem y_from121 (C : CutH N V i) (hk : k < 2 ^ 30) {R : RfT} (hy : YZ N B gr R m V tk i (cX k) (fun x => cX k x ∧ x < 74 ∧ x ≠ 9)) : ∃ R', e_freeFrom_121 R (nI i) (nI k) = some R' ∧ YZ N B gr R' m V tk i (cX k) (cX k) ∧ Fn [33] [30, 31, 32, 35, 36, 43] R R' := by
  obtain ⟨c1, c2, c3, c4, c5, c6, c7⟩ := id C
  obtain ⟨s1, -, -⟩ := hy.at C (show 9 < 4234 by decide) (fun z => z.2.2 rfl) (fun z => by omega) (homeM_ne i)
  rw [show ph V i 9 = homeM i from rfl, show po i 9 = startM i + 30 from rfl, ← z_fieldS c3 c4] at s1
  have s1 : e_field R (nI i) 30 2 = some (nI (pv V i 9)) := s1
  rw [e_freeFrom_121, bnd_o s1]
  exact y_from2 C rfl hk fuL 0 R (Nat.zero_le _) (by rw [fuL_4]; omega) (hy.eq (fun x hx4 hne => ⟨fun z => ⟨z.1, Or.inl z.2⟩, fun z => ⟨z.1, by
    rcases z.2 with q | q | q
    · exact q
    · omega
    · omega⟩⟩) (fun x z => z.1))
theorem y_from0 (C : CutH N V i) (hk : k < 2 ^ 30) : ∀ (n x : Nat) (R : RfT), (8 - x < n) → (k ≤ x ∨ 8 ≤ x) → x < 2 ^ 30 → YZ N B gr R m V tk i (cX k) (fun y => cX k y ∧ y < 8 ∧ y < x) → ∃ R', e_freeFrom_2 n R (nI i) (nI k) (nI x) = some R' ∧ YZ N B gr R' m V tk i (cX k) (cX k) ∧ Fn [33] [30, 31, 32, 35, 36, 43] R R' := by
  obtain ⟨c1, c2, c3, c4, c5, c6, c7⟩ := id C
  intro n
  induction n with
  | zero => intro x _ h; exact absurd h (Nat.not_lt_zero _)
  | succ n ih =>
    intro x R hn hkx hx30 hy
    rw [e_freeFrom_2]
    by_cases c : 8 ≤ x
    · rw [if_pos (show (8 : Int32) ≤ nI x from nI_le (a := 8) c (by omega))]
      have hy : YZ N B gr R m V tk i (cX k) (fun y => cX k y ∧ y < 8) := hy.eq (fun y _ _ => ⟨fun z => ⟨z.1, z.2.1⟩, fun z => ⟨z.1, z.2, by omega⟩⟩) (fun y z => z.1)
      have hS8 : ¬ (cX k 8 ∧ 8 < 8) := fun z => by omega
      obtain ⟨s1, -, -⟩ := hy.at C (show 8 < 4234 by decide) hS8 (fun z => by omega) (homeM_ne i)
      rw [show ph V i 8 = homeM i from rfl, show po i 8 = startM i + 28 from rfl, ← z_fieldS c3 c4] at s1
      have s1 : e_field R (nI i) 28 2 = some (nI (pv V i 8)) := s1
      rw [bnd_o s1]
      have fin : ∀ (R1 : RfT) (S : Nat → Prop), YZ N B gr R1 m V tk i (cX k) S → (∀ y, y < 4234 → pv V i y ≠ 0 → (S y ↔ (cX k y ∧ y < 74 ∧ y ≠ 9))) → Fn [33] [30, 31, 32, 35, 36, 43] R R1 → ∃ R', e_freeFrom_121 R1 (nI i) (nI k) = some R' ∧ YZ N B gr R' m V tk i (cX k) (cX k) ∧ Fn [33] [30, 31, 32, 35, 36, 43] R R' := fun R1 S hy1 he f1 => by
        obtain ⟨R', r1, r2, r3⟩ := y_from121 C hk (hy1.eq he (fun y z => z.1))
        exact ⟨R', r1, r2, f1.tr r3⟩
      by_cases c0 : pv V i 8 = 0
      · rw [if_pos (by rw [c0]; rfl)]
        refine fin R _ hy (fun y hy4 hne => ⟨fun z => ⟨z.1, by omega, by omega⟩, fun z => ⟨z.1, ?_⟩⟩) Fn.rf
        have h8 : y ≠ 8 := fun e => hne (by rw [e]; exact c0)
        by_cases q : y < 8
        · exact q
        · exact absurd (by rw [pv_1 (by omega) z.2.1, c0]; exact if_pos rfl) hne
      · have htN : pv V i 8 < N := ((c7.1 _ (show 8 < 4234 by decide)).resolve_left c0).2.1
        rw [if_neg (nI_ne0 (by omega) (by omega))]
        by_cases ca : 72 ≤ k
        · rw [if_pos (show (72 : Int32) ≤ nI k from nI_le (a := 72) ca (by omega))]
          refine fin R _ hy (fun y hy4 hne => ⟨fun z => ⟨z.1, by omega, by omega⟩, fun z => ⟨z.1, ?_⟩⟩) Fn.rf
          obtain ⟨z0, z1, z2⟩ := z
          by_cases q : y < 8
          · exact q
          · by_cases q2 : y = 8
            · rw [q2] at z0
              have := cX_8.mp z0
              omega
            · have := (cX_1 (by omega) z1).mp z0
              omega
        · rw [if_neg (show ¬ (72 : Int32) ≤ nI k from nI_ge (b := 72) (by omega) (by decide))]
          have hb : ∀ l, l < 64 → 10 + l < 4234 ∧ 10 ≤ 10 + l ∧ ph V i (10 + l) = pv V i 8 ∧ po i (10 + l) = 2 * l ∧ hx (10 + l) = 8 ∧ 8 ≠ 10 + l := fun l hl => ⟨by omega, by omega, ph_1 (by omega) (by omega), po_10 hl, hx_10 hl, by omega⟩
          by_cases cb : 8 < k
          · rw [if_pos (show (8 : Int32) < nI k from Int32.not_le.mp (nI_ge (a := 8) cb (by omega))), if_neg (show ¬ nI k ≤ (8 : Int32) from nI_ge (a := 8) cb (by omega)), show nI k - (8 : Int32) = nI (k - 8) from pk_sub (b := 8) (by omega)]
            obtain ⟨R1, r1, y1, f1⟩ := y_told (fg := true) (B := B) (gr := gr) (m := m) (tk := tk) (X := cX k) C hb c0 (fun z => by cases z) fuL (k - 8) R _ (by omega) (by rw [fuL_4]; omega) (fun l' h1 h2 => (cX_1 (by omega) (by omega)).mpr (by omega)) hy hS8 (fun l' _ h2 z => by omega)
            have r1 : e_freeTold R (nI (pv V i 8)) (nI (k - 8)) 1 = some R1 := r1
            rw [bnd_o r1, e_freeFrom_101, if_pos (show (8 : Int32) < nI k from Int32.not_le.mp (nI_ge (a := 8) cb (by omega)))]
            refine fin R1 _ y1 (fun y hy4 hne => ⟨fun z => ?_, fun z => ?_⟩) f1
            · rcases z with z | ⟨l', l1, l2, l3⟩
              · exact ⟨z.1, by omega, by omega⟩
              · exact ⟨by rw [l3]; exact (cX_1 (by omega) (by omega)).mpr (by omega), by omega, by omega⟩
            · obtain ⟨z0, z1, z2⟩ := z
              by_cases q : y < 8
              · exact Or.inl ⟨z0, q⟩
              · by_cases q2 : y = 8
                · rw [q2] at z0
                  have := cX_8.mp z0
                  omega
                · have := (cX_1 (by omega) z1).mp z0
                  exact Or.inr ⟨y - 10, by omega, by omega, by omega⟩
          · rw [if_neg (show ¬ (8 : Int32) < nI k from fun z => absurd (nI_le (a := k) (b := 8) (by omega) (by decide)) (Int32.not_le.mpr z)), if_pos (show nI k ≤ (8 : Int32) from nI_le (b := 8) (by omega) (by decide))]
            have hX8 : cX k 8 := cX_8.mpr (by omega)
            obtain ⟨R1, r1, y1, f1⟩ := y_told (fg := false) (B := B) (gr := gr) (m := m) (tk := tk) (X := cX k) C hb c0 (fun _ => ⟨c0, 8, by decide, hX8, rfl⟩) fuL 0 R _ (Nat.zero_le _) (by rw [fuL_4]; omega) (fun l' h1 h2 => (cX_1 (by omega) (by omega)).mpr (by omega)) hy hS8 (fun l' _ h2 z => by omega)
            have r1 : e_freeTold R (nI (pv V i 8)) 0 0 = some R1 := r1
            rw [bnd_o r1, e_freeFrom_101, if_neg (show ¬ (8 : Int32) < nI k from fun z => absurd (nI_le (a := k) (b := 8) (by omega) (by decide)) (Int32.not_le.mpr z))]
            have hS1 : ¬ ((cX k 8 ∧ 8 < 8) ∨ ∃ l', 0 ≤ l' ∧ l' < 64 ∧ 8 = 10 + l') := fun z => z.elim hS8 (fun ⟨l', _, _, l3⟩ => by omega)
            obtain ⟨R2, R3, e2, e3, y3, f3⟩ := y1.cutZ C (show 8 < 4234 by decide) hX8 hS1 (fun z => by omega) c0
            rw [show ph V i 8 = homeM i from rfl, show po i 8 = startM i + 28 from rfl, ← z_setFieldS c3 c4] at e3
            have e3 : e_setField R2 (nI i) 28 2 0 = some R3 := e3
            rw [bnd_o e2, bnd_o e3]
            refine fin R3 _ y3 (fun y hy4 hne => ⟨fun z => ?_, fun z => ?_⟩) (f1.tr f3)
            · rcases z with (z | ⟨l', l1, l2, l3⟩) | z
              · exact ⟨z.1, by omega, by omega⟩
              · exact ⟨by rw [l3]; exact (cX_1 (by omega) (by omega)).mpr (by omega), by omega, by omega⟩
              · exact ⟨by rw [z]; exact hX8, by omega, by omega⟩
            · obtain ⟨z0, z1, z2⟩ := z
              by_cases q : y < 8
              · exact Or.inl (Or.inl ⟨z0, q⟩)
              · by_cases q2 : y = 8
                · exact Or.inr q2
                · exact Or.inl (Or.inr ⟨y - 10, by omega, by omega, by omega⟩)
    · have hx8 : x < 8 := by omega
      have hXx : cX k x := (cX_0 hx8).mpr (by omega)
      have hSx : ¬ (cX k x ∧ x < 8 ∧ x < x) := fun z => by omega
      have hpo : po i x = startM i + (12 + 2 * x) := by
        unfold po
        rw [if_pos hx8, Nat.add_assoc]
      obtain ⟨s1, -, -⟩ := hy.at C (show x < 4234 by omega) hSx (fun z => by omega) (by rw [ph_0 (by omega)]; exact homeM_ne i)
      rw [ph_0 (by omega), hpo, ← z_fieldS c3 c4] at s1
      have e12 : (12 : Int32) + (2 : Int32) * nI x = nI (12 + 2 * x) := by
        rw [show (2 : Int32) = nI 2 from rfl, show (12 : Int32) = nI 12 from rfl, pk_mul, nI_add]
      rw [if_neg (show ¬ (8 : Int32) ≤ nI x from nI_ge (b := 8) (by omega) (by decide)), e12, bnd_o s1, nI_1]
      have fin : ∀ (R1 : RfT), YZ N B gr R1 m V tk i (cX k) (fun y => (cX k y ∧ y < 8 ∧ y < x) ∨ y = x) → Fn [33] [30, 31, 32, 35, 36, 43] R R1 → ∃ R', e_freeFrom_2 n R1 (nI i) (nI k) (nI (x + 1)) = some R' ∧ YZ N B gr R' m V tk i (cX k) (cX k) ∧ Fn [33] [30, 31, 32, 35, 36, 43] R R' := fun R1 hy1 f1 => by
        have hq : YZ N B gr R1 m V tk i (cX k) (fun y => cX k y ∧ y < 8 ∧ y < x + 1) := hy1.eq (fun y _ _ => ⟨fun z => z.elim (fun z => ⟨z.1, z.2.1, by omega⟩) (fun z => by rw [z]; exact ⟨hXx, hx8, by omega⟩), fun z => (Nat.lt_or_eq_of_le (Nat.le_of_lt_succ z.2.2)).elim (fun q => Or.inl ⟨z.1, z.2.1, q⟩) Or.inr⟩) (fun y z => z.1)
        obtain ⟨R', r1, r2, r3⟩ := ih (x + 1) R1 (by omega) (by omega) (by omega) hq
        exact ⟨R', r1, r2, f1.tr r3⟩
      by_cases c0 : pv V i x = 0
      · rw [if_pos (by rw [c0]; rfl)]
        exact fin R (hy.skip hXx c0) Fn.rf
      · have htN : pv V i x < N := ((c7.1 _ (show x < 4234 by omega)).resolve_left c0).2.1
        obtain ⟨R1, R2, e1, e2, y2, f2⟩ := hy.cutZ C (show x < 4234 by omega) hXx hSx (fun z => by omega) c0
        rw [ph_0 (by omega), hpo, ← z_setFieldS c3 c4] at e2
        rw [if_neg (nI_ne0 (by omega) (by omega)), bnd_o e1, bnd_o e2]
        exact fin R2 y2 f2
/-- the cut of an inode: the outcome -/
theorem y_freeFrom (C : CutH N V i) (hk : k < 2 ^ 30) {R : RfT} (hy : RY N B gr R m V tk) (hO : OwR R (GH V i)) : ∃ R' m' V' tk', e_freeFrom R (nI i) (nI k) = some R' ∧ (RY N B gr R' m' V' tk' ∧ OwR R' (GH V i)) ∧ ZS N m V tk (FSx V i (cX k)) (ZSx V i (cX k)) m' V' tk' ∧ Fn [33] [30, 31, 32, 35, 36, 43] R R' := by
  have h43 : V 43 = rSee R true 43 := ((hy.1.2 43 (Nat.le_refl _) (by have := C.1; omega)).1).symm
  have hz := ZI.nil (N := N) (V := V) (i := i) (m := m) (tk := tk) (X := cX k) (by rw [h43]; exact rSee_b hy.1.1.by) (by rw [h43]; exact rSee_nr)
  obtain ⟨R', r1, ⟨m', V', tk', r2, r3⟩, r4⟩ := y_from0 (B := B) (gr := gr) (m := m) (tk := tk) C hk fuL k R (by rw [fuL_4]; omega) (Or.inl (Nat.le_refl _)) hk ⟨m, V, tk, ⟨hy, hO⟩, hz.eq (fun x hx4 _ => ⟨fun z => z.elim, fun z => by
    have := (cX_0 z.2.1).mp z.1
    omega⟩) (fun x z => z.1)⟩
  exact ⟨R', m', V', tk', r1, r2, r3.end, r4⟩
end PVS
