/-! ===== pure: what is wanted ===== -/
section PWT
variable {N B gr : Nat} {V V1 : Nat → Rw} {m : M5} {tk : Nat → Bool} {i : Nat}
theorem c_reach {A : MS} {D D2 : CfT} {p a : Nat} (hN1 : 61 ≤ N) (hN : N ≤ 1024) (h : CX N A D m V tk) (hp : PtO N V i) (hi : ir i) (hp4 : p < 4168) (ha : a ≤ levM p) : d_X7_reach N (vA A) D2 (nI i) (nI p) (nI a) = some (nI (rcM V i p (levM p - a))) := by
  have hpo := hp.pok hN1 hi.2 hp4
  have ag := fun k (hk : k ≤ levM p) => rc_ag (k := k) hN1 h.agu h.2.2.2.1 hi.2 hp.p138 hp4 hk
  rw [d_reach hi.1 hi.2 hp4 hN ha (fun k hk => by rw [ag k (by omega)]; exact hpo.2.1 k (by omega)), ag _ (by omega)]
theorem miss_s {W : Nat → Rw} {D2 : CfT} {p k n v : Nat} (hp4 : p < 4168) (hk : k < levM p) (e : d_X7_reach N W D2 (nI i) (nI p) (nI k) = some (nI v)) (hv : v < 2 ^ 31) : d_X7_missing_2 N W D2 (n + 1) (nI i) (nI p) (nI k) = if v = 0 then d_X7_missing_2 N W D2 n (nI i) (nI p) (nI (k + 1)) else some (nI k) := by
  have hl : levM p ≤ 3 := by
    unfold levM
    split
    · decide
    · split <;> decide
  rw [d_X7_missing_2, bnd_o (d_levels (by omega)), if_neg (nI_ge hk (by omega)), bnd_o e]
  by_cases c : v = 0
  · rw [if_pos c, if_pos (by rw [c]; rfl)]
    show d_X7_missing_2 N W D2 n (nI i) (nI p) (nI k + nI 1) = _
    rw [nI_add]
  · rw [if_neg c, if_neg (nI_ne0 (by omega) hv)]
theorem miss_e {W : Nat → Rw} {D2 : CfT} {p n : Nat} (hp4 : p < 4168) : d_X7_missing_2 N W D2 (n + 1) (nI i) (nI p) (nI (levM p)) = some (nI (levM p)) := by
  have hl : levM p ≤ 3 := by
    unfold levM
    split
    · decide
    · split <;> decide
  rw [d_X7_missing_2, bnd_o (d_levels (by omega)), if_pos (nI_le (Nat.le_refl _) (by omega))]
theorem c_missing {A : MS} {D D2 : CfT} {p : Nat} (hN1 : 61 ≤ N) (hN : N ≤ 1024) (h : CX N A D m V tk) (hp : PtO N V i) (hi : ir i) (hp4 : p < 4168) : d_X7_missing N (vA A) D2 (nI i) (nI p) = some (nI (msM V i p)) := by
  have pvl : ∀ x, x < 4234 → pv V i x < 2 ^ 31 := fun x hx => by
    rcases hp x hx with q | q <;> omega
  have e0 : d_X7_reach N (vA A) D2 (nI i) (nI p) (nI 0) = some (nI (pv V i (px p))) := c_blk hN1 hN h hp hi.1 hi.2 hp4
  have er := fun a (ha : a ≤ levM p) => c_reach (D2 := D2) hN1 hN h hp hi hp4 ha
  rw [d_X7_missing]
  show d_X7_missing_2 N (vA A) D2 (3999996 + 4) (nI i) (nI p) (nI 0) = _
  unfold msM
  by_cases c8 : p < 8
  · have hl : levM p = 1 := if_pos c8
    rw [miss_s hp4 (by omega) e0 (pvl _ (px_lt hp4))]
    by_cases c : pv V i (px p) = 0
    · rw [if_pos c, if_neg (show ¬ pv V i (px p) ≠ 0 from fun z => z c), if_pos c8, show (0 + 1 : Nat) = levM p from hl.symm, miss_e hp4, hl]
    · rw [if_neg c, if_pos (show pv V i (px p) ≠ 0 from c)]
  · have px2 : p < 72 → px p = p + 2 := fun h => by unfold px; rw [if_neg c8, if_pos h]
    have px3 : ¬ p < 72 → px p = p + 66 := fun h => by unfold px; rw [if_neg c8, if_neg h]
    by_cases c72 : p < 72
    · have hl : levM p = 2 := by unfold levM; rw [if_neg c8, if_pos c72]
      have e1 := er 1 (by omega)
      rw [hl, show 2 - 1 = 1 from rfl, rc_1, if_neg c8, if_pos c72] at e1
      rw [miss_s hp4 (by omega) e0 (pvl _ (px_lt hp4)), miss_s hp4 (by omega) e1 (pvl _ (by decide)), if_neg c8, if_pos c72]
      by_cases c : pv V i (px p) = 0
      · rw [if_pos c, if_neg (show ¬ pv V i (px p) ≠ 0 from fun z => z c)]
        by_cases d : pv V i 8 = 0
        · rw [if_pos d, if_pos d, show (0 + 1 + 1 : Nat) = levM p from hl.symm, miss_e hp4, hl]
        · rw [if_neg d, if_neg d]
      · rw [if_neg c, if_pos (show pv V i (px p) ≠ 0 from c)]
    · have hl : levM p = 3 := by unfold levM; rw [if_neg c8, if_neg c72]
      have e1 := er 1 (by omega)
      have e2 := er 2 (by omega)
      rw [hl, show 3 - 1 = 2 from rfl, rc_2 c8 hp4, if_neg c72] at e1
      rw [hl, show 3 - 2 = 1 from rfl, rc_1, if_neg c8, if_neg c72] at e2
      rw [miss_s hp4 (by omega) e0 (pvl _ (px_lt hp4)), miss_s hp4 (by omega) e1 (pvl _ (by omega)), miss_s hp4 (by omega) e2 (pvl _ (by decide)), if_neg c8, if_neg c72]
      by_cases c : pv V i (px p) = 0
      · rw [if_pos c, if_neg (show ¬ pv V i (px p) ≠ 0 from fun z => z c)]
        by_cases d : pv V i (74 + (p - 72) / 64) = 0
        · rw [if_pos d]
          by_cases d2 : pv V i 9 = 0
          · rw [if_pos d2, if_pos d2, show (0 + 1 + 1 + 1 : Nat) = levM p from hl.symm, miss_e hp4, hl]
          · rw [if_neg d2, if_neg d2, if_pos d]
        · rw [if_neg d, if_neg d]
          have d2 : pv V i 9 ≠ 0 := fun z => d (by
            rw [pv_2 (by omega) (by omega), z]
            rfl)
          rw [if_neg d2]
      · rw [if_neg c, if_pos (show pv V i (px p) ≠ 0 from c)]
/-- what one more place wants, behind those ahead of it -/
def wq (V : Nat → Rw) (i : Nat) (fst : Bool) (p : Nat) : Nat := (if pv V i (px p) = 0 then 1 else 0) + (if 8 ≤ p ∧ (fst = true ∨ lbM (p - 1) ≠ lbM p) ∧ ph V i (px p) = 0 then 1 else 0) + (if 72 ≤ p ∧ (fst = true ∨ p = 72) ∧ pv V i 9 = 0 then 1 else 0)
def wnF (V : Nat → Rw) (i : Nat) : Bool → Nat → Nat → Nat
  | _, _, 0 => 0
  | fst, p, n + 1 => wq V i fst p + wnF V i false (p + 1) n
theorem ph_px {p : Nat} (h8 : ¬ p < 8) (hp : p < 4168) : ph V i (px p) = if p < 72 then pv V i 8 else pv V i (74 + (p - 72) / 64) := by
  unfold px
  rw [if_neg h8]
  by_cases c : p < 72
  · rw [if_pos c, if_pos c, ph_1 (by omega) (by omega)]
  · rw [if_neg c, if_neg c, ph_3 (by omega) (by omega), show p + 66 - 138 = p - 72 by omega]
theorem ph0_pv0 {x : Nat} (hx : x < 4234) (h : ph V i x = 0) : pv V i x = 0 := by
  rw [pv_at hx, if_pos h]
theorem wq_t {p : Nat} (hp : p < 4168) : wq V i true p = msM V i p := by
  unfold wq msM
  by_cases c8 : p < 8
  · have h8 : ¬ 8 ≤ p := by omega
    have h72 : ¬ 72 ≤ p := by omega
    by_cases c : pv V i (px p) = 0
    · simp [c, c8, h8, h72]
    · simp [c, h8, h72]
  · have h8 : 8 ≤ p := by omega
    by_cases c72 : p < 72
    · have h72 : ¬ 72 ≤ p := by omega
      have e := ph_px (V := V) (i := i) c8 hp
      rw [if_pos c72] at e
      by_cases d : pv V i 8 = 0
      · have c : pv V i (px p) = 0 := ph0_pv0 (px_lt hp) (by rw [e]; exact d)
        simp [e, c, d, h8, c8, c72, h72]
      · by_cases c : pv V i (px p) = 0
        · simp [e, c, d, h8, c8, c72, h72]
        · simp [e, c, d, h8, h72]
    · have h72 : 72 ≤ p := by omega
      have e := ph_px (V := V) (i := i) c8 hp
      rw [if_neg c72] at e
      by_cases d2 : pv V i 9 = 0
      · have d : pv V i (74 + (p - 72) / 64) = 0 := by
          rw [pv_2 (by omega) (by omega), d2]
          rfl
        have c : pv V i (px p) = 0 := ph0_pv0 (px_lt hp) (by rw [e]; exact d)
        simp [e, c, d, d2, h8, c8, c72, h72]
      · by_cases d : pv V i (74 + (p - 72) / 64) = 0
        · have c : pv V i (px p) = 0 := ph0_pv0 (px_lt hp) (by rw [e]; exact d)
          simp [e, c, d, d2, h8, c8, c72, h72]
        · by_cases c : pv V i (px p) = 0
          · simp [e, c, d, d2, h8, c8, c72, h72]
          · simp [e, c, d, d2, h8, h72]
theorem wq_le {fst : Bool} {p : Nat} : wq V i fst p ≤ 3 := by
  unfold wq
  split <;> split <;> split <;> omega
theorem wnF_le : ∀ (n : Nat) (fst : Bool) (p : Nat), wnF V i fst p n ≤ 3 * n
  | 0, _, _ => Nat.le_refl _
  | n + 1, fst, p => by
    have h1 := wnF_le n false (p + 1)
    have h2 := wq_le (V := V) (i := i) (fst := fst) (p := p)
    show wq V i fst p + wnF V i false (p + 1) n ≤ 3 * (n + 1)
    omega
end PWT
