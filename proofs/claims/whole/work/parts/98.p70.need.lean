/-! ===== pure: what is wanted, told by both ===== -/
section PWU
variable {N B gr : Nat} {V V1 : Nat → Rw} {m : M5} {tk : Nat → Bool} {i : Nat}
theorem z_fl30 {R : RfT} (hN1 : 61 ≤ N) (h : RY N B gr R m V tk) (hi : ir i) : e_field R (nI i) 30 2 = some (nI (pv V i 9)) := by
  have hh := ir_home hi
  have fl := z_fieldS (R := R) (a := 30) (n := 2) hi.1 hi.2
  have fl2 := z_s2 (R := R) (b := homeM i) (a := startM i + 30) (by omega) h.1.1.lk (by have := startM_le i; omega)
  rw [(h.1.2 (homeM i) (by omega) (by omega)).1] at fl2
  have fl2 : e_seenNumber R (nI (homeM i)) (nI (startM i + 30)) 2 = some (nI (pv V i 9)) := fl2
  rw [fl2] at fl
  exact fl
def grp (p : Nat) : Int32 := if p < 8 then -1 else if p < 72 then nI 0 else nI (1 + (p - 72) / 64)
def gpF (fst : Bool) (p : Nat) : Int32 := if fst then -1 else grp (p - 1)
def flF (V : Nat → Rw) (i : Nat) (fst : Bool) (p : Nat) : Int32 := if fst = false ∧ 73 ≤ p ∧ pv V i 9 = 0 then 1 else 0
theorem grp_m {p : Nat} (h : ¬ p < 8) (hp : p < 4168) : ∃ g, g < 2 ^ 31 ∧ grp p = nI g ∧ g = (p - 8) / 64 := by
  unfold grp
  rw [if_neg h]
  by_cases c : p < 72
  · exact ⟨0, by decide, if_pos c, by omega⟩
  · exact ⟨1 + (p - 72) / 64, by omega, if_neg c, by omega⟩
theorem grp_eq {fst : Bool} {p : Nat} (h : ¬ p < 8) (hp : p < 4168) : (grp p = gpF fst p) ↔ ¬ (fst = true ∨ lbM (p - 1) ≠ lbM p) := by
  obtain ⟨g, g1, g2, g3⟩ := grp_m h hp
  rw [g2]
  unfold gpF
  cases fst with
  | true =>
    rw [if_pos rfl]
    exact ⟨fun z => absurd z (nI_m1 g1), fun z => absurd (Or.inl rfl) z⟩
  | false =>
    rw [if_neg (fun z => by cases z)]
    by_cases c : p - 1 < 8
    · have e : p = 8 := by omega
      have e2 : grp (p - 1) = -1 := if_pos c
      rw [e2]
      refine ⟨fun z => absurd z (nI_m1 g1), fun z => absurd (Or.inr ?_) z⟩
      rw [e]
      decide
    · obtain ⟨k, k1, k2, k3⟩ := grp_m c (by omega)
      rw [k2, nI_eq g1 k1]
      unfold lbM
      rw [if_neg c, if_neg h]
      constructor
      · intro e z
        rcases z with z | z
        · cases z
        · omega
      · intro z
        have : p - 1 - (p - 1 - 8) % 64 + 63 = p - (p - 8) % 64 + 63 := Classical.byContradiction (fun q => z (Or.inr q))
        omega
theorem z_need_s {R : RfT} {p to : Nat} {c : Nat} {fst : Bool} {self : Int32 → Int32 → Int32 → Int32 → Int32 → Int32 → Option Int32} (hN1 : 61 ≤ N) (hN : N ≤ 1024) (h : RY N B gr R m V tk) (hp : PtO N V i) (hi : ir i) (hp4 : p < 4168) : e_need_39 R self (nI i) (nI to) (nI c) (gpF fst p) (flF V i fst p) (nI p) = self (nI i) (nI to) (nI (c + (if 8 ≤ p ∧ (fst = true ∨ lbM (p - 1) ≠ lbM p) ∧ ph V i (px p) = 0 then 1 else 0) + (if 72 ≤ p ∧ (fst = true ∨ p = 72) ∧ pv V i 9 = 0 then 1 else 0))) (gpF false (p + 1)) (flF V i false (p + 1)) (nI (p + 1)) := by
  have eg : gpF false (p + 1) = grp p := by
    unfold gpF
    rw [if_neg (fun z => by cases z), Nat.add_sub_cancel]
  have ep : nI p + 1 = nI (p + 1) := by
    show nI p + nI 1 = _
    rw [nI_add]
  have e1 : ∀ k, nI k + 1 = nI (k + 1) := fun k => by
    show nI k + nI 1 = _
    rw [nI_add]
  rw [eg]
  have s99 : ∀ k, e_need_99 R self (nI i) (nI to) (nI k) (flF V i fst p) (nI p) (grp p) = self (nI i) (nI to) (nI (k + (if 72 ≤ p ∧ (fst = true ∨ p = 72) ∧ pv V i 9 = 0 then 1 else 0))) (grp p) (flF V i false (p + 1)) (nI (p + 1)) := fun k => by
    rw [e_need_99]
    by_cases c72 : p < 72
    · have e : flF V i fst p = 0 ∧ flF V i false (p + 1) = 0 := by
        unfold flF
        exact ⟨if_neg (fun z => by omega), if_neg (fun z => by omega)⟩
      rw [if_pos (show nI p < (72 : Int32) from nI_lt (b := 72) c72 (by decide)), if_neg (show ¬ (72 ≤ p ∧ _) from fun z => by omega), ep, e.1, e.2]
      rfl
    · rw [if_neg (show ¬ nI p < (72 : Int32) from fun z => absurd (nI_le (a := 72) (b := p) (by omega) (by omega)) (Int32.not_le.mpr z))]
      by_cases c9 : pv V i 9 = 0
      · have ef : flF V i false (p + 1) = 1 := by
          unfold flF
          exact if_pos ⟨rfl, by omega, c9⟩
        by_cases c1 : fst = true ∨ p = 72
        · have e0 : flF V i fst p = 0 := by
            unfold flF
            exact if_neg (fun z => by
              rcases c1 with q | q
              · rw [q] at z
                cases z.1
              · omega)
          rw [e0, if_pos rfl, bnd_o (z_fl30 hN1 h hi), if_pos (by rw [c9]; rfl), if_pos ⟨by omega, c1, c9⟩, ep, ef, e1]
        · have e0 : flF V i fst p = 1 := by
            unfold flF
            refine if_pos ⟨?_, ?_, c9⟩
            · cases fst with
              | true => exact absurd (Or.inl rfl) c1
              | false => rfl
            · have : p ≠ 72 := fun z => c1 (Or.inr z)
              omega
          rw [e0, if_neg (by decide), if_neg (fun z => c1 z.2.1), ep, ef]
          rfl
      · have e : flF V i fst p = 0 ∧ flF V i false (p + 1) = 0 := by
          unfold flF
          exact ⟨if_neg (fun z => c9 z.2.2), if_neg (fun z => c9 z.2.2)⟩
        have hl : pv V i 9 < 2 ^ 31 := by
          rcases hp 9 (by decide) with q | q <;> omega
        rw [e.1, if_pos rfl, bnd_o (z_fl30 hN1 h hi), if_neg (nI_ne0 (by omega) hl), if_neg (fun z => c9 z.2.2), ep, e.2]
        rfl
  have s73 : e_need_73 R self (nI i) (nI to) (nI c) (gpF fst p) (flF V i fst p) (nI p) (grp p) = e_need_99 R self (nI i) (nI to) (nI (c + (if 8 ≤ p ∧ (fst = true ∨ lbM (p - 1) ≠ lbM p) ∧ ph V i (px p) = 0 then 1 else 0))) (flF V i fst p) (nI p) (grp p) := by
    rw [e_need_73]
    by_cases c8 : p < 8
    · have eg2 : grp p = -1 := if_pos c8
      rw [if_neg (show ¬ (8 ≤ p ∧ _) from fun z => by omega), eg2]
      by_cases d : (-1 : Int32) = gpF fst p
      · rw [if_pos d]
        rfl
      · rw [if_neg d, if_pos rfl]
        rfl
    · have hq := grp_eq (fst := fst) c8 hp4
      obtain ⟨g, g1, g2, g3⟩ := grp_m c8 hp4
      by_cases d : grp p = gpF fst p
      · rw [if_pos d, if_neg (fun z => (hq.mp d) z.2.1)]
        rfl
      · have hne : fst = true ∨ lbM (p - 1) ≠ lbM p := Classical.byContradiction (fun z => d (hq.mpr z))
        have hb : ph V i (px p) < 2 ^ 31 := by
          rw [ph_px c8 hp4]
          split
          · rcases hp 8 (by decide) with q | q <;> omega
          · rcases hp (74 + (p - 72) / 64) (by omega) with q | q <;> omega
        rw [if_neg d, if_neg (by rw [g2]; exact nI_m1 g1), bnd_o (z_tab hN1 hN h hp hi c8 hp4)]
        by_cases c0 : ph V i (px p) = 0
        · rw [if_pos (by rw [c0]; rfl), if_pos ⟨by omega, hne, c0⟩, e1]
        · rw [if_neg (nI_ne0 (by omega) hb), if_neg (fun z => c0 z.2.2)]
          rfl
  rw [← s99, ← s73, e_need_39]
  unfold grp
  by_cases c8 : p < 8
  · rw [if_neg (show ¬ (8 : Int32) ≤ nI p from nI_ge (b := 8) c8 (by decide)), if_pos c8]
  · rw [if_pos (show (8 : Int32) ≤ nI p from nI_le (a := 8) (by omega) (by omega)), if_neg c8]
    by_cases c72 : p < 72
    · rw [if_neg (show ¬ (72 : Int32) ≤ nI p from nI_ge (b := 72) c72 (by decide)), if_pos c72]
      rfl
    · rw [if_pos (show (72 : Int32) ≤ nI p from nI_le (a := 72) (by omega) (by omega)), if_neg c72, nm_o, show (72 : Int32) = nI 72 from rfl, show (64 : Int32) = nI 64 from rfl, show (1 : Int32) = nI 1 from rfl, pk_sub (by omega), pk_div (by omega) (by decide) (by decide), nI_add]
theorem z_need_l {R : RfT} {to : Nat} (hN1 : 61 ≤ N) (hN : N ≤ 1024) (h : RY N B gr R m V tk) (hp : PtO N V i) (hi : ir i) (ht : to < 4168) : ∀ (n p c k : Nat) (fst : Bool), p + n = to + 1 → n < k → c + 3 * n < 2 ^ 31 → e_need_12 R k (nI i) (nI to) (nI c) (gpF fst p) (flF V i fst p) (nI p) = some (nI (c + wnF V i fst p n))
  | n, p, c, 0, fst, _, hk, _ => absurd hk (Nat.not_lt_zero _)
  | 0, p, c, k + 1, fst, hn, _, _ => by
    rw [e_need_12, if_pos (nI_lt (by omega) (by omega))]
    rfl
  | n + 1, p, c, k + 1, fst, hn, hk, hc => by
    have hv : pv V i (px p) < 2 ^ 31 := by
      rcases hp (px p) (px_lt (by omega)) with q | q <;> omega
    rw [e_need_12, if_neg (fun z => absurd (nI_le (a := p) (b := to) (by omega) (by omega)) (Int32.not_le.mpr z)), bnd_o (z_blk hN1 hN h hp hi.1 hi.2 (by omega))]
    have fin : ∀ c', c' = c + (if pv V i (px p) = 0 then 1 else 0) → e_need_39 R (e_need_12 R k) (nI i) (nI to) (nI c') (gpF fst p) (flF V i fst p) (nI p) = some (nI (c + wnF V i fst p (n + 1))) := fun c' e => by
      have hq := wq_le (V := V) (i := i) (fst := fst) (p := p)
      have ew : c' + (if 8 ≤ p ∧ (fst = true ∨ lbM (p - 1) ≠ lbM p) ∧ ph V i (px p) = 0 then 1 else 0) + (if 72 ≤ p ∧ (fst = true ∨ p = 72) ∧ pv V i 9 = 0 then 1 else 0) = c + wq V i fst p := by
        unfold wq
        omega
      rw [z_need_s hN1 hN h hp hi (by omega), ew, z_need_l hN1 hN h hp hi ht n (p + 1) _ k false (by omega) (by omega) (by omega)]
      show some (nI (c + wq V i fst p + wnF V i false (p + 1) n)) = some (nI (c + (wq V i fst p + wnF V i false (p + 1) n)))
      rw [Nat.add_assoc]
    by_cases c0 : pv V i (px p) = 0
    · rw [if_pos (by rw [c0]; rfl)]
      show e_need_39 R (e_need_12 R k) (nI i) (nI to) (nI c + nI 1) _ _ _ = _
      rw [nI_add]
      exact fin (c + 1) (by rw [if_pos c0])
    · rw [if_neg (nI_ne0 (by omega) hv)]
      exact fin c (by rw [if_neg c0]; rfl)
theorem z_need {R : RfT} {a to : Nat} (hN1 : 61 ≤ N) (hN : N ≤ 1024) (h : RY N B gr R m V tk) (hp : PtO N V i) (hi : ir i) (ht : to < 4168) (ha : a ≤ to + 1) : e_need R (nI i) (nI a) (nI to) = some (nI (wnF V i true a (to + 1 - a))) := by
  have q := z_need_l hN1 hN h hp hi ht (to + 1 - a) a 0 fuL true (by omega) (by have : fuL = 4000000 := rfl; omega) (by omega)
  rw [Nat.zero_add] at q
  have e : flF V i true a = 0 := if_neg (fun z => by cases z.1)
  rw [e] at q
  exact q
end PWU
