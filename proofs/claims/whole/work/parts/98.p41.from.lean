/-! ===== pure: the reference cuts an inode from a place on ===== -/
section PVR
variable {N B gr : Nat} {V : Nat → Rw} {i : Nat} {m : M5} {tk : Nat → Bool} {k : Nat}
theorem sub4 {a : Nat} (h1 : 1 ≤ i) (h2 : i ≤ 64) : (32 : Int32) * (nI i - 1 - (nI i - 1) / 4 * 4) + nI a = nI (startM i + a) := by
  rw [i1_sub h1, show (4 : Int32) = nI 4 from rfl, show (32 : Int32) = nI 32 from rfl, pk_div (by omega) (by decide) (by decide), pk_mul, pk_sub (by omega), n_rem, pk_mul, nI_add]
  congr 1
  unfold startM
  omega
theorem z_fieldS {R : RfT} {a : Nat} {n : Int32} (h1 : 1 ≤ i) (h2 : i ≤ 64) : e_field R (nI i) (nI a) n = e_seenNumber R (nI (homeM i)) (nI (startM i + a)) n := by
  rw [e_field, bnd_o (z_inodeBlock h1 (by omega)), sub4 h1 h2]
  cases e_seenNumber R (nI (homeM i)) (nI (startM i + a)) n with
  | none => rfl
  | some v => rfl
theorem z_setFieldS {R : RfT} {a : Nat} {n v : Int32} (h1 : 1 ≤ i) (h2 : i ≤ 64) : e_setField R (nI i) (nI a) n v = e_setNumber R (nI (homeM i)) (nI (startM i + a)) n v := by
  rw [e_setField, bnd_o (z_inodeBlock h1 (by omega)), sub4 h1 h2]
  cases e_setNumber R (nI (homeM i)) (nI (startM i + a)) n v with
  | none => rfl
  | some v => rfl
/-- cut: all below 74 but the second table, and the first j tables of the second -/
def sJ (k j x : Nat) : Prop := cX k x ∧ ((x < 74 ∧ x ≠ 9) ∨ (74 ≤ x ∧ x < 138 ∧ x - 74 < j) ∨ (138 ≤ x ∧ (x - 138) / 64 < j))
theorem y_from2 (C : CutH N V i) {st : Nat} (hst : pv V i 9 = st) (hk : k < 2 ^ 30) : ∀ (n j : Nat) (R : RfT), j ≤ 64 → 64 - j < n → YZ N B gr R m V tk i (cX k) (sJ k j) → ∃ R', e_freeFrom_134 n R (nI i) (nI k) (nI st) (nI j) = some R' ∧ YZ N B gr R' m V tk i (cX k) (cX k) ∧ Fn [33] [30, 31, 32, 35, 36, 43] R R' := by
  obtain ⟨c1, c2, c3, c4, c5, c6, c7⟩ := id C
  have hstN : st < N := by
    rcases c7.1 9 (by decide) with z | z
    · omega
    · omega
  intro n
  induction n with
  | zero => intro j _ _ h; exact absurd h (Nat.not_lt_zero _)
  | succ n ih =>
    intro j R hj hn hy
    rw [e_freeFrom_134]
    by_cases c0 : st = 0
    · have z9 : pv V i 9 = 0 := hst.trans c0
      have z2 : ∀ x, 74 ≤ x → x < 138 → pv V i x = 0 := fun x h1 h2 => by
        rw [pv_2 h1 h2, z9]
        exact if_pos rfl
      have z3 : ∀ x, 138 ≤ x → x < 4234 → pv V i x = 0 := fun x h1 h2 => by
        rw [pv_3 h1 h2, z2 _ (by omega) (by omega)]
        exact if_pos rfl
      rw [if_pos (by rw [c0]; rfl), e_freeFrom_250, if_pos (by rw [c0]; rfl)]
      refine ⟨R, rfl, hy.eq (fun x hx4 hne => ⟨fun z => z.1, fun z => ⟨z, Or.inl ?_⟩⟩) (fun x z => z), Fn.rf⟩
      refine ⟨?_, fun e => hne (by rw [e]; exact z9)⟩
      by_cases q : x < 74
      · exact q
      · by_cases q2 : x < 138
        · exact absurd (z2 x (by omega) q2) hne
        · exact absurd (z3 x (by omega) hx4) hne
    · rw [if_neg (nI_ne0 (by omega) (by omega))]
      by_cases cj : j = 64
      · rw [cj, if_pos (show (64 : Int32) ≤ nI 64 from nI_le (a := 64) (b := 64) (by decide) (by decide)), e_freeFrom_250, if_neg (nI_ne0 (by omega) (by omega))]
        rw [cj] at hy
        by_cases ck : k ≤ 72
        · rw [if_neg (show ¬ (72 : Int32) < nI k from fun z => absurd (nI_le (a := k) (b := 72) ck (by decide)) (Int32.not_le.mpr z))]
          have hS9 : ¬ sJ k 64 9 := fun z => by
            rcases z.2 with z | z | z
            · exact z.2 rfl
            · omega
            · omega
          obtain ⟨R1, R2, e1, e2, y2, f2⟩ := hy.cutZ C (show 9 < 4234 by decide) (cX_9.mpr ck) hS9 (fun z => by omega) (by rw [hst]; exact c0)
          rw [hst] at e1
          rw [show ph V i 9 = homeM i from rfl, show po i 9 = startM i + 30 from rfl, ← z_setFieldS c3 c4] at e2
          have e2 : e_setField R1 (nI i) 30 2 0 = some R2 := e2
          rw [bnd_o e1, bnd_o e2]
          refine ⟨R2, rfl, y2.eq (fun x hx4 hne => ⟨fun z => z.elim (fun z => z.1) (fun z => by rw [z]; exact cX_9.mpr ck), fun z => ?_⟩) (fun x z => z), f2⟩
          by_cases q : x = 9
          · exact Or.inr q
          · refine Or.inl ⟨z, ?_⟩
            by_cases q1 : x < 74
            · exact Or.inl ⟨q1, q⟩
            · by_cases q2 : x < 138
              · exact Or.inr (Or.inl ⟨by omega, q2, by omega⟩)
              · exact Or.inr (Or.inr ⟨by omega, by omega⟩)
        · rw [if_pos (show (72 : Int32) < nI k from Int32.not_le.mp (nI_ge (a := 72) (by omega) (by omega)))]
          refine ⟨R, rfl, hy.eq (fun x hx4 hne => ⟨fun z => z.1, fun z => ⟨z, ?_⟩⟩) (fun x z => z), Fn.rf⟩
          by_cases q1 : x < 74
          · refine Or.inl ⟨q1, fun e => ?_⟩
            rw [e] at z
            exact ck (cX_9.mp z)
          · by_cases q2 : x < 138
            · exact Or.inr (Or.inl ⟨by omega, q2, by omega⟩)
            · exact Or.inr (Or.inr ⟨by omega, by omega⟩)
      · have hj64 : j < 64 := by omega
        have hS9 : ¬ sJ k j 9 := fun z => by
          rcases z.2 with z | z | z
          · exact z.2 rfl
          · omega
          · omega
        have hSj : ¬ sJ k j (74 + j) := fun z => by
          rcases z.2 with z | z | z
          · omega
          · omega
          · omega
        have hph : ph V i (74 + j) = st := by
          rw [ph_2 (by omega) (by omega), hst]
        obtain ⟨s1, s2, s3⟩ := hy.at C (show 74 + j < 4234 by omega) hSj (fun _ => by rw [hx_74 hj64]; exact hS9) (by rw [hph]; exact c0)
        rw [hph, po_74 hj64] at s1
        rw [if_neg (show ¬ (64 : Int32) ≤ nI j from nI_ge (a := j) (b := 64) (by omega) (by decide)), show (2 : Int32) * nI j = nI (2 * j) from pk_mul 2 j, bnd_o s1, nI_1]
        have next : ∀ (R1 : RfT) (S : Nat → Prop), YZ N B gr R1 m V tk i (cX k) S → (∀ x, x < 4234 → pv V i x ≠ 0 → (S x ↔ sJ k (j + 1) x)) → Fn [33] [30, 31, 32, 35, 36, 43] R R1 → ∃ R', e_freeFrom_134 n R1 (nI i) (nI k) (nI st) (nI (j + 1)) = some R' ∧ YZ N B gr R' m V tk i (cX k) (cX k) ∧ Fn [33] [30, 31, 32, 35, 36, 43] R R' := fun R1 S hy1 he f1 => by
          obtain ⟨R', r1, r2, r3⟩ := ih (j + 1) R1 (by omega) (by omega) (hy1.eq he (fun x z => z.1))
          exact ⟨R', r1, r2, f1.tr r3⟩
        by_cases ct : pv V i (74 + j) = 0
        · rw [if_pos (by rw [ct]; rfl)]
          refine next R _ hy (fun x hx4 hne => ⟨fun z => ⟨z.1, ?_⟩, fun z => ⟨z.1, ?_⟩⟩) Fn.rf
          · rcases z.2 with z | z | z
            · exact Or.inl z
            · exact Or.inr (Or.inl ⟨z.1, z.2.1, by omega⟩)
            · exact Or.inr (Or.inr ⟨z.1, by omega⟩)
          · rcases z.2 with z | z | z
            · exact Or.inl z
            · refine Or.inr (Or.inl ⟨z.1, z.2.1, ?_⟩)
              have : x ≠ 74 + j := fun e => hne (by rw [e]; exact ct)
              omega
            · refine Or.inr (Or.inr ⟨z.1, ?_⟩)
              have : (x - 138) / 64 ≠ j := fun e => hne (by
                rw [pv_3 z.1 hx4, e, ct]
                exact if_pos rfl)
              omega
        · have htN : pv V i (74 + j) < N := ((c7.1 _ (show 74 + j < 4234 by omega)).resolve_left ct).2.1
          have hb : ∀ l, l < 64 → (138 + 64 * j) + l < 4234 ∧ 10 ≤ (138 + 64 * j) + l ∧ ph V i ((138 + 64 * j) + l) = pv V i (74 + j) ∧ po i ((138 + 64 * j) + l) = 2 * l ∧ hx ((138 + 64 * j) + l) = 74 + j ∧ 74 + j ≠ (138 + 64 * j) + l := fun l hl => by
            refine ⟨by omega, by omega, ?_, po_138 hl, hx_138 hl, by omega⟩
            rw [ph_3 (by omega) (by omega)]
            congr 2
            omega
          have hSb : ∀ l, l < 64 → ¬ sJ k j ((138 + 64 * j) + l) := fun l hl z => by
            rcases z.2 with z | z | z
            · omega
            · omega
            · omega
          have e7 : (72 : Int32) + (64 : Int32) * nI j = nI (72 + 64 * j) := by
            rw [show (64 : Int32) = nI 64 from rfl, show (72 : Int32) = nI 72 from rfl, pk_mul, nI_add]
          rw [if_neg (nI_ne0 (by omega) (by omega)), e7, show nI (72 + 64 * j) + (64 : Int32) = nI (72 + 64 * j + 64) from nI_add _ 64]
          by_cases ca : 72 + 64 * j + 64 ≤ k
          · rw [if_pos (nI_le ca (by omega))]
            refine next R _ hy (fun x hx4 hne => ⟨fun z => ⟨z.1, ?_⟩, fun z => ⟨z.1, ?_⟩⟩) Fn.rf
            · rcases z.2 with z | z | z
              · exact Or.inl z
              · exact Or.inr (Or.inl ⟨z.1, z.2.1, by omega⟩)
              · exact Or.inr (Or.inr ⟨z.1, by omega⟩)
            · obtain ⟨z0, z⟩ := z
              rcases z with z | z | z
              · exact Or.inl z
              · refine Or.inr (Or.inl ⟨z.1, z.2.1, ?_⟩)
                have := (cX_2 z.1 z.2.1).mp z0
                omega
              · refine Or.inr (Or.inr ⟨z.1, ?_⟩)
                have := (cX_3 z.1).mp z0
                omega
          · rw [if_neg (nI_ge (by omega) (by omega))]
            by_cases cb : 72 + 64 * j < k
            · rw [if_pos (nI_lt cb (by omega)), if_neg (nI_ge cb (by omega)), pk_sub (by omega)]
              obtain ⟨R1, r1, y1, f1⟩ := y_told (fg := true) (B := B) (gr := gr) (m := m) (tk := tk) (X := cX k) C hb ct (fun z => by cases z) fuL (k - (72 + 64 * j)) R _ (by omega) (by rw [fuL_4]; omega) (fun l' h1 h2 => (cX_3 (by omega)).mpr (by omega)) hy hSj (fun l' _ h2 => hSb l' h2)
              have r1 : e_freeTold R (nI (pv V i (74 + j))) (nI (k - (72 + 64 * j))) 1 = some R1 := r1
              rw [bnd_o r1, e_freeFrom_214, if_pos (nI_lt cb (by omega)), nI_1]
              refine next R1 _ y1 (fun x hx4 hne => ⟨fun z => ?_, fun z => ?_⟩) f1
              · rcases z with z | ⟨l', l1, l2, l3⟩
                · refine ⟨z.1, ?_⟩
                  rcases z.2 with z | z | z
                  · exact Or.inl z
                  · exact Or.inr (Or.inl ⟨z.1, z.2.1, by omega⟩)
                  · exact Or.inr (Or.inr ⟨z.1, by omega⟩)
                · exact ⟨(cX_3 (by omega)).mpr (by omega), Or.inr (Or.inr ⟨by omega, by omega⟩)⟩
              · obtain ⟨z0, z⟩ := z
                rcases z with z | z | z
                · exact Or.inl ⟨z0, Or.inl z⟩
                · refine Or.inl ⟨z0, Or.inr (Or.inl ⟨z.1, z.2.1, ?_⟩)⟩
                  have := (cX_2 z.1 z.2.1).mp z0
                  omega
                · have := (cX_3 z.1).mp z0
                  by_cases q : (x - 138) / 64 < j
                  · exact Or.inl ⟨z0, Or.inr (Or.inr ⟨z.1, q⟩)⟩
                  · exact Or.inr ⟨x - (138 + 64 * j), by omega, by omega, by omega⟩
            · rw [if_neg (show ¬ nI (72 + 64 * j) < nI k from fun z => absurd (nI_le (a := k) (b := 72 + 64 * j) (by omega) (by omega)) (Int32.not_le.mpr z)), if_pos (nI_le (show k ≤ 72 + 64 * j by omega) (by omega))]
              have hXt : cX k (74 + j) := (cX_2 (by omega) (by omega)).mpr (by omega)
              obtain ⟨R1, r1, y1, f1⟩ := y_told (fg := false) (B := B) (gr := gr) (m := m) (tk := tk) (X := cX k) C hb ct (fun _ => ⟨ct, 74 + j, by omega, hXt, rfl⟩) fuL 0 R _ (Nat.zero_le _) (by rw [fuL_4]; omega) (fun l' h1 h2 => (cX_3 (by omega)).mpr (by omega)) hy hSj (fun l' _ h2 => hSb l' h2)
              have r1 : e_freeTold R (nI (pv V i (74 + j))) 0 0 = some R1 := r1
              rw [bnd_o r1, e_freeFrom_214, if_neg (show ¬ nI (72 + 64 * j) < nI k from fun z => absurd (nI_le (a := k) (b := 72 + 64 * j) (by omega) (by omega)) (Int32.not_le.mpr z)), nI_1]
              have hS1 : ¬ (sJ k j (74 + j) ∨ ∃ l', 0 ≤ l' ∧ l' < 64 ∧ 74 + j = (138 + 64 * j) + l') := fun z => z.elim hSj (fun ⟨l', _, _, l3⟩ => by omega)
              have hS19 : ¬ (sJ k j 9 ∨ ∃ l', 0 ≤ l' ∧ l' < 64 ∧ 9 = (138 + 64 * j) + l') := fun z => z.elim hS9 (fun ⟨l', _, _, l3⟩ => by omega)
              have hfin : ∀ x, x < 4234 → pv V i x ≠ 0 → (((sJ k j x ∨ ∃ l', 0 ≤ l' ∧ l' < 64 ∧ x = (138 + 64 * j) + l') ∨ x = 74 + j) ↔ sJ k (j + 1) x) := fun x hx4 hne => by
                refine ⟨fun z => ?_, fun z => ?_⟩
                · rcases z with (z | ⟨l', l1, l2, l3⟩) | z
                  · refine ⟨z.1, ?_⟩
                    rcases z.2 with z | z | z
                    · exact Or.inl z
                    · exact Or.inr (Or.inl ⟨z.1, z.2.1, by omega⟩)
                    · exact Or.inr (Or.inr ⟨z.1, by omega⟩)
                  · exact ⟨(cX_3 (by omega)).mpr (by omega), Or.inr (Or.inr ⟨by omega, by omega⟩)⟩
                  · rw [z]
                    exact ⟨hXt, Or.inr (Or.inl ⟨by omega, by omega, by omega⟩)⟩
                · obtain ⟨z0, z⟩ := z
                  rcases z with z | z | z
                  · exact Or.inl (Or.inl ⟨z0, Or.inl z⟩)
                  · by_cases q : x = 74 + j
                    · exact Or.inr q
                    · exact Or.inl (Or.inl ⟨z0, Or.inr (Or.inl ⟨z.1, z.2.1, by omega⟩)⟩)
                  · by_cases q : (x - 138) / 64 < j
                    · exact Or.inl (Or.inl ⟨z0, Or.inr (Or.inr ⟨z.1, q⟩)⟩)
                    · exact Or.inl (Or.inr ⟨x - (138 + 64 * j), by omega, by omega, by omega⟩)
              by_cases ck : k ≤ 72
              · obtain ⟨R2, e2, y2, f2⟩ := y1.cut C (show 74 + j < 4234 by omega) hXt ct (by rw [hph]; exact ⟨c0, 9, by decide, cX_9.mpr ck, hst⟩)
                rw [bnd_o e2, if_pos (show nI k ≤ (72 : Int32) from nI_le (b := 72) ck (by decide))]
                exact next R2 _ y2 hfin (f1.tr f2)
              · obtain ⟨R2, R3, e2, e3, y3, f3⟩ := y1.cutZ C (show 74 + j < 4234 by omega) hXt hS1 (fun _ => by rw [hx_74 hj64]; exact hS19) ct
                rw [hph, po_74 hj64] at e3
                rw [bnd_o e2, if_neg (show ¬ nI k ≤ (72 : Int32) from nI_ge (a := 72) (by omega) (by omega)), show (2 : Int32) * nI j = nI (2 * j) from pk_mul 2 j, bnd_o e3]
                exact next R3 _ y3 hfin (f1.tr f3)
end PVR
