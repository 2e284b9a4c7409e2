/-! ===== pure: what is wanted, the class; room ===== -/
section PWV
variable {N B gr : Nat} {V V1 : Nat → Rw} {m : M5} {tk : Nat → Bool} {i : Nat}
theorem ms_f {p : Nat} (hp : p < 4168) : ((if 1 < msM V i p then 1 else msM V i p) = if pv V i (px p) = 0 then 1 else 0) ∧ (2 ≤ msM V i p ↔ 8 ≤ p ∧ ph V i (px p) = 0) ∧ (3 ≤ msM V i p ↔ 72 ≤ p ∧ pv V i 9 = 0) ∧ msM V i p ≤ 3 := by
  unfold msM
  by_cases c8 : p < 8
  · have h8 : ¬ 8 ≤ p := by omega
    have h72 : ¬ 72 ≤ p := by omega
    by_cases c : pv V i (px p) = 0
    · simp [c, c8, h8, h72]
    · simp [c, h8, h72]
  · have h8 : 8 ≤ p := by omega
    by_cases c72 : p < 72
    · have h72 : ¬ 72 ≤ p := by omega
      have e := ph_px (V := V) (i := i) c8 hp
      rw [if_pos c72] at e
      by_cases d : pv V i 8 = 0
      · have c : pv V i (px p) = 0 := ph0_pv0 (px_lt hp) (by rw [e]; exact d)
        simp [e, c, d, h8, c8, c72, h72]
      · by_cases c : pv V i (px p) = 0
        · simp [e, c, d, h8, c8, c72, h72]
        · simp [e, c, d, h8, h72]
    · have h72 : 72 ≤ p := by omega
      have e := ph_px (V := V) (i := i) c8 hp
      rw [if_neg c72] at e
      by_cases d2 : pv V i 9 = 0
      · have d : pv V i (74 + (p - 72) / 64) = 0 := by
          rw [pv_2 (by omega) (by omega), d2]
          rfl
        have c : pv V i (px p) = 0 := ph0_pv0 (px_lt hp) (by rw [e]; exact d)
        simp [e, c, d, d2, h8, c8, c72, h72]
      · by_cases d : pv V i (74 + (p - 72) / 64) = 0
        · have c : pv V i (px p) = 0 := ph0_pv0 (px_lt hp) (by rw [e]; exact d)
          simp [e, c, d, d2, h8, c8, c72, h72]
        · by_cases c : pv V i (px p) = 0
          · simp [e, c, d, d2, h8, c8, c72, h72]
          · simp [e, c, d, d2, h8, h72]
def pvF (fst : Bool) (p : Nat) : Int32 := if fst then -1 else nI (p - 1)
theorem c_nt {W : Nat → Rw} {D : CfT} {p : Nat} {fst : Bool} (hp : p < 4168) (h1 : fst = false → 1 ≤ p) : d_X7_newTables N W D (pvF fst p) (nI p) (nI (msM V i p)) = some (nI ((if 8 ≤ p ∧ (fst = true ∨ lbM (p - 1) ≠ lbM p) ∧ ph V i (px p) = 0 then 1 else 0) + (if 72 ≤ p ∧ (fst = true ∨ p = 72) ∧ pv V i 9 = 0 then 1 else 0))) := by
  obtain ⟨f1, f2, f3, f4⟩ := ms_f (V := V) (i := i) hp
  have s26 : ∀ k, k < 10 → d_X7_newTables_26 N W D (pvF fst p) (nI (msM V i p)) (nI k) = some (nI (k + (if 72 ≤ p ∧ (fst = true ∨ p = 72) ∧ pv V i 9 = 0 then 1 else 0))) := fun k hk => by
    unfold d_X7_newTables_26
    by_cases c3 : 3 ≤ msM V i p
    · have q := f3.mp c3
      rw [if_neg (show ¬ nI (msM V i p) ≤ (2 : Int32) from nI_ge (a := 2) (by omega) (by omega))]
      cases fst with
      | true =>
        have e : pvF true p = -1 := rfl
        rw [e, if_neg (by decide), if_pos ⟨q.1, Or.inl rfl, q.2⟩]
        show some (nI k + nI 1) = _
        rw [nI_add]
      | false =>
        have e : pvF false p = nI (p - 1) := rfl
        rw [e]
        by_cases c : p = 72
        · rw [if_neg (show ¬ (72 : Int32) ≤ nI (p - 1) from nI_ge (b := 72) (by omega) (by decide)), if_pos ⟨q.1, Or.inr c, q.2⟩]
          show some (nI k + nI 1) = _
          rw [nI_add]
        · rw [if_pos (show (72 : Int32) ≤ nI (p - 1) from nI_le (a := 72) (by omega) (by omega)), if_neg (fun z => by
            rcases z.2.1 with w | w
            · cases w
            · exact c w)]
          rfl
    · rw [if_pos (show nI (msM V i p) ≤ (2 : Int32) from nI_le (b := 2) (by omega) (by decide)), if_neg (fun z => c3 (f3.mpr ⟨z.1, z.2.2⟩))]
      rfl
  unfold d_X7_newTables
  by_cases c2 : 2 ≤ msM V i p
  · have q := f2.mp c2
    rw [if_neg (show ¬ nI (msM V i p) ≤ (1 : Int32) from nI_ge (a := 1) (by omega) (by omega))]
    have e1 : (0 : Int32) + 1 = nI 1 := rfl
    cases fst with
    | true =>
      have e : pvF true p = -1 := rfl
      rw [if_pos e, e1, s26 1 (by decide), if_pos (show 8 ≤ p ∧ (true = true ∨ lbM (p - 1) ≠ lbM p) ∧ ph V i (px p) = 0 from ⟨q.1, Or.inl rfl, q.2⟩)]
    | false =>
      have e : pvF false p = nI (p - 1) := rfl
      have hl : ∀ x, x < 4168 → lbM x < 2 ^ 31 := fun x hx => by
        unfold lbM
        split <;> omega
      rw [if_neg (by rw [e]; exact nI_m1 (by omega)), e, bnd_o (d_lB (by omega)), bnd_o (d_lB (by omega)), ← e]
      by_cases c : lbM (p - 1) = lbM p
      · rw [if_pos (by rw [c]), show (0 : Int32) = nI 0 from rfl, s26 0 (by decide), if_neg (show ¬ (8 ≤ p ∧ _) from fun z => by
          rcases z.2.1 with w | w
          · cases w
          · exact w c)]
      · rw [if_neg (fun z => c (nI_inj (hl _ (by omega)) (hl _ hp) z)), e1, s26 1 (by decide), if_pos (show 8 ≤ p ∧ (false = true ∨ lbM (p - 1) ≠ lbM p) ∧ ph V i (px p) = 0 from ⟨q.1, Or.inr c, q.2⟩)]
  · rw [if_pos (show nI (msM V i p) ≤ (1 : Int32) from nI_le (b := 1) (by omega) (by decide)), show (0 : Int32) = nI 0 from rfl, s26 0 (by decide), if_neg (show ¬ (8 ≤ p ∧ (fst = true ∨ lbM (p - 1) ≠ lbM p) ∧ ph V i (px p) = 0) from fun z => c2 (f2.mpr ⟨z.1, z.2.2⟩))]
theorem c_wanted_l {A : MS} {D D2 : CfT} {to : Nat} (hN1 : 61 ≤ N) (hN : N ≤ 1024) (h : CX N A D m V tk) (hp : PtO N V i) (hi : ir i) (ht : to < 4168) : ∀ (n p c k : Nat) (fst : Bool), p + n = to + 1 → n < k → c + 3 * n < 2 ^ 31 → (fst = false → 1 ≤ p) → d_X7_wanted_9 N (vA A) D2 k (nI i) (nI to) (nI c) (pvF fst p) (nI p) = some (nI (c + wnF V i fst p n))
  | n, p, c, 0, fst, _, hk, _, _ => absurd hk (Nat.not_lt_zero _)
  | 0, p, c, k + 1, fst, hn, _, _, _ => by
    rw [d_X7_wanted_9, if_pos (nI_lt (by omega) (by omega))]
    rfl
  | n + 1, p, c, k + 1, fst, hn, hk, hc, h1 => by
    obtain ⟨f1, f2, f3, f4⟩ := ms_f (V := V) (i := i) (p := p) (by omega)
    have hq := wq_le (V := V) (i := i) (fst := fst) (p := p)
    have em : (if (1 : Int32) < nI (msM V i p) then (1 : Int32) else nI (msM V i p)) = nI (if pv V i (px p) = 0 then 1 else 0) := by
      rw [← f1]
      by_cases c1 : 1 < msM V i p
      · rw [if_pos c1, if_pos (show (1 : Int32) < nI (msM V i p) from nI_lt (a := 1) c1 (by omega))]
        rfl
      · rw [if_neg c1, if_neg (show ¬ (1 : Int32) < nI (msM V i p) from fun z => absurd (nI_le (a := msM V i p) (b := 1) (by omega) (by decide)) (Int32.not_le.mpr z))]
    rw [d_X7_wanted_9, if_neg (fun z => absurd (nI_le (a := p) (b := to) (by omega) (by omega)) (Int32.not_le.mpr z)), bnd_o (c_missing hN1 hN h hp hi (by omega)), nm_o, bnd_o (c_nt (by omega) h1), em, nI_add, nI_add]
    have ep : nI p + 1 = nI (p + 1) := by
      show nI p + nI 1 = _
      rw [nI_add]
    have ep2 : nI p = pvF false (p + 1) := rfl
    have ew : (if pv V i (px p) = 0 then 1 else 0) + ((if 8 ≤ p ∧ (fst = true ∨ lbM (p - 1) ≠ lbM p) ∧ ph V i (px p) = 0 then 1 else 0) + (if 72 ≤ p ∧ (fst = true ∨ p = 72) ∧ pv V i 9 = 0 then 1 else 0)) = wq V i fst p := by
      unfold wq
      omega
    rw [ep, ep2, ew, c_wanted_l hN1 hN h hp hi ht n (p + 1) _ k false (by omega) (by omega) (by omega) (fun _ => by omega)]
    show some (nI (c + wq V i fst p + wnF V i false (p + 1) n)) = some (nI (c + (wq V i fst p + wnF V i false (p + 1) n)))
    rw [Nat.add_assoc]
theorem c_wanted {A : MS} {D D2 : CfT} {a to : Nat} (hN1 : 61 ≤ N) (hN : N ≤ 1024) (h : CX N A D m V tk) (hp : PtO N V i) (hi : ir i) (ht : to < 4168) (ha : a ≤ to + 1) : d_X7_wanted N (vA A) D2 (nI i) (nI a) (nI to) = some (nI (wnF V i true a (to + 1 - a))) := by
  have q := c_wanted_l (D2 := D2) hN1 hN h hp hi ht (to + 1 - a) a 0 fuL true (by omega) (by have : fuL = 4000000 := rfl; omega) (by omega) (fun z => by cases z)
  rw [Nat.zero_add] at q
  exact q
/-- behind a place that is there now, the rest wants the same -/
theorem wq_st {p q : Nat} {tb : Bool} (hi : ir i) (g : Gr N i tb (pY p) V V1) (hp : p < 4168) (h0 : pv V1 i (px p) ≠ 0) (hpq : p < q) (hq : q < 4168) : wq V1 i false q = wq V i false q ∧ (q = p + 1 → wq V1 i true q = wq V i false q) := by
  have ev : pv V1 i (px q) = pv V i (px q) := g.1 i _ hi (px_lt hq) (Or.inr (Or.inr (fun z => by have := pY_px hp z; omega)))
  have e9 : p < 72 → pv V1 i 9 = pv V i 9 := fun c => g.1 i 9 hi (by decide) (Or.inr (Or.inr (fun z => by
    rcases z with z | z | z
    · exact px_tb (p := p) (by rw [← z]; exact Or.inr (Or.inl rfl))
    · have : hx (px p) = 8 := by
        have e2 : px p = p + 2 := by unfold px; rw [if_neg (by omega), if_pos c]
        rw [e2]
        unfold hx
        rw [if_pos (by omega)]
      rw [this] at z
      omega
    · omega)))
  have n9 : 72 ≤ p → pv V1 i 9 ≠ 0 := fun c z => h0 (by
    rw [show px p = p + 66 by unfold px; rw [if_neg (by omega), if_neg (by omega)], pv_3 (by omega) (by omega), pv_2 (by omega) (by omega), z]
    rfl)
  have same : 8 ≤ q → lbM (q - 1) = lbM q → 8 ≤ p → lbM p = lbM q → ph V1 i (px q) ≠ 0 := fun c8 _ h8 h3 => by
    have hh : ph V1 i (px q) = ph V1 i (px p) := by
      rw [ph_px (by omega) hq, ph_px (by omega) hp]
      unfold lbM at h3
      rw [if_neg (by omega), if_neg (by omega)] at h3
      by_cases c : p < 72
      · rw [if_pos c, if_pos (by omega)]
      · rw [if_neg c, if_neg (by omega)]
        have : (q - 72) / 64 = (p - 72) / 64 := by omega
        rw [this]
    rw [hh]
    exact fun z => h0 (ph0_pv0 (px_lt hp) z)
  have diff : 8 ≤ q → lbM p ≠ lbM q → (72 ≤ q → p < 72 → pv V i 9 = pv V i 9) → ph V1 i (px q) = ph V i (px q) := fun c8 hne _ => by
    rw [ph_px (by omega) hq, ph_px (by omega) hq]
    unfold lbM at hne
    by_cases c : q < 72
    · rw [if_pos c, if_pos c]
      have p8 : p < 8 := Classical.byContradiction (fun z => by
        rw [if_neg z, if_neg (by omega)] at hne
        omega)
      exact g.1 i 8 hi (by decide) (Or.inr (Or.inr (fun z => by
        rcases z with z | z | z
        · exact px_tb (p := p) (by rw [← z]; exact Or.inl rfl)
        · omega
        · omega)))
    · rw [if_neg c, if_neg c]
      exact g.1 i _ hi (by omega) (Or.inr (Or.inr (fun z => by
        rcases z with z | z | z
        · exact px_tb (p := p) (by rw [← z]; exact Or.inr (Or.inr ⟨by omega, by omega⟩))
        · have z2 := z.2
          rw [if_neg (show ¬ p < 8 by omega), if_neg (show ¬ q < 8 by omega)] at hne
          by_cases c2 : p < 72
          · have e2 : px p = p + 2 := by unfold px; rw [if_neg (by omega), if_pos c2]
            rw [e2] at z2
            unfold hx at z2
            rw [if_pos (by omega)] at z2
            omega
          · have e2 : px p = p + 66 := by unfold px; rw [if_neg (by omega), if_neg c2]
            rw [e2] at z2
            unfold hx at z2
            rw [if_neg (by omega), if_neg (by omega)] at z2
            omega
        · omega)))
  have lbq : 8 ≤ q → lbM (q - 1) ≠ lbM q → lbM p ≠ lbM q := fun c8 hne hpe => by
    unfold lbM at hne hpe
    rw [if_neg (show ¬ q < 8 by omega)] at hne hpe
    by_cases c : p < 8
    · rw [if_pos c] at hpe
      omega
    · rw [if_neg c] at hpe
      rw [if_neg (by omega)] at hne
      omega
  constructor
  · unfold wq
    rw [ev]
    congr 1
    · congr 1
      by_cases c8 : 8 ≤ q
      · by_cases cl : lbM (q - 1) = lbM q
        · rw [if_neg (fun z => by
            rcases z.2.1 with w | w
            · cases w
            · exact w cl), if_neg (fun z => by
            rcases z.2.1 with w | w
            · cases w
            · exact w cl)]
        · rw [diff c8 (lbq c8 cl) (fun _ _ => rfl)]
      · rw [if_neg (fun z => c8 z.1), if_neg (fun z => c8 z.1)]
    · by_cases c72 : q = 72
      · rw [e9 (by omega)]
      · rw [if_neg (fun z => by
          rcases z.2.1 with w | w
          · cases w
          · exact c72 w), if_neg (fun z => by
          rcases z.2.1 with w | w
          · cases w
          · exact c72 w)]
  · intro eq
    have eq1 : q - 1 = p := by omega
    unfold wq
    rw [ev, eq1]
    congr 1
    · congr 1
      by_cases c8 : 8 ≤ q
      · by_cases cl : lbM p = lbM q
        · have p8 : 8 ≤ p := Classical.byContradiction (fun z => by
            unfold lbM at cl
            rw [if_pos (by omega), if_neg (by omega)] at cl
            omega)
          rw [if_neg (fun z => same c8 (by rw [eq1]; exact cl) p8 cl z.2.2), if_neg (fun z => by
            rcases z.2.1 with w | w
            · cases w
            · exact w cl)]
        · rw [diff c8 cl (fun _ _ => rfl)]
          by_cases c0 : ph V i (px q) = 0
          · rw [if_pos ⟨c8, Or.inl rfl, c0⟩, if_pos ⟨c8, Or.inr cl, c0⟩]
          · rw [if_neg (fun z => c0 z.2.2), if_neg (fun z => c0 z.2.2)]
      · rw [if_neg (fun z => c8 z.1), if_neg (fun z => c8 z.1)]
    · by_cases c72 : q = 72
      · rw [e9 (by omega)]
        by_cases c0 : pv V i 9 = 0
        · rw [if_pos ⟨by omega, Or.inl rfl, c0⟩, if_pos ⟨by omega, Or.inr c72, c0⟩]
        · rw [if_neg (fun z => c0 z.2.2), if_neg (fun z => c0 z.2.2)]
      · rw [if_neg (show ¬ (72 ≤ q ∧ (false = true ∨ q = 72) ∧ _) from fun z => by
          rcases z.2.1 with w | w
          · cases w
          · exact c72 w), if_neg (fun z => n9 (by omega) z.2.2)]
theorem wnF_st {p : Nat} {tb : Bool} (hi : ir i) (g : Gr N i tb (pY p) V V1) (hp : p < 4168) (h0 : pv V1 i (px p) ≠ 0) : ∀ (n q : Nat), p < q → q + n ≤ 4168 → wnF V1 i false q n = wnF V i false q n
  | 0, _, _, _ => rfl
  | n + 1, q, h1, h2 => by
    show wq V1 i false q + wnF V1 i false (q + 1) n = wq V i false q + wnF V i false (q + 1) n
    rw [(wq_st hi g hp h0 h1 (by omega)).1, wnF_st hi g hp h0 n (q + 1) (by omega) (by omega)]
theorem wnF_ms {p n : Nat} {tb : Bool} (hi : ir i) (g : Gr N i tb (pY p) V V1) (hp : p + 1 + n ≤ 4168) (h0 : pv V1 i (px p) ≠ 0) : wnF V i true p (n + 1) = wnF V1 i true (p + 1) n + msM V i p := by
  show wq V i true p + wnF V i false (p + 1) n = _
  rw [wq_t (by omega), Nat.add_comm]
  congr 1
  cases n with
  | zero => rfl
  | succ n =>
    show wq V i false (p + 1) + wnF V i false (p + 1 + 1) n = wq V1 i true (p + 1) + wnF V1 i false (p + 1 + 1) n
    rw [(wq_st hi g (by omega) h0 (Nat.lt_succ_self p) (by omega)).2 rfl, wnF_st hi g (by omega) h0 n _ (by omega) (by omega)]
end PWV
