/-! ===== pure: what an inode has, gathered ===== -/
section PXT
variable {N B gr r u : Nat} {V W : Nat → Rw} {m : M5} {tk : Nat → Bool} {A A' : MS} {D D' D2 : CfT} {R R' : RfT} {i : Nat}
/-- the places below e that are no holes, gathered -/
def GaD (V : Nat → Rw) (i e : Nat) (D : CfT) : Prop := cS D 3705 = nI (ncM V i 0 e) ∧ ∀ p, p < e → pv V i (px p) ≠ 0 → cA D 38 (ncM V i 0 p) = nI p ∧ cA D 39 (ncM V i 0 p) = nI (pv V i (px p))
def Dg (D D' : CfT) : Prop := (∀ j, j ≠ 3705 → D'.1 j = D.1 j) ∧ ∀ k, k ≠ 38 → k ≠ 39 → D'.2.1 k = D.2.1 k
theorem Dg.rf : Dg D D := ⟨fun _ _ => rfl, fun _ _ _ => rfl⟩
theorem Dg.tr (a : Dg D D') (b : Dg D' D2) : Dg D D2 := ⟨fun j h => (b.1 j h).trans (a.1 j h), fun k h1 h2 => (b.2 k h1 h2).trans (a.2 k h1 h2)⟩
theorem nc_mono : ∀ {p q : Nat}, p ≤ q → ncM V i 0 p ≤ ncM V i 0 q := by
  intro p q
  induction q with
  | zero => intro h; rw [Nat.le_zero.mp h]; exact Nat.le_refl _
  | succ q ih =>
    intro h
    by_cases c : p = q + 1
    · rw [c]; exact Nat.le_refl _
    · have := ih (by omega)
      show _ ≤ ncM V i 0 q + _
      omega
theorem nc_s {p : Nat} (h : pv V i (px p) ≠ 0) : ncM V i 0 (p + 1) = ncM V i 0 p + 1 := by
  show ncM V i 0 p + (if 0 ≤ p ∧ pv V i (px p) ≠ 0 then 1 else 0) = _
  rw [if_pos ⟨Nat.zero_le _, h⟩]
theorem nc_0 {p : Nat} (h : pv V i (px p) = 0) : ncM V i 0 (p + 1) = ncM V i 0 p := by
  show ncM V i 0 p + (if 0 ≤ p ∧ pv V i (px p) ≠ 0 then 1 else 0) = _
  rw [if_neg (fun z => z.2 h)]
  rfl
theorem GaD.skip {p q : Nat} (h : GaD V i p D) (hq : p ≤ q) (hz : ∀ x, p ≤ x → x < q → pv V i (px x) = 0) : GaD V i q D := by
  refine ⟨?_, fun x hx h0 => ?_⟩
  · rw [ncM_skip (a := 0) q hq hz]
    exact h.1
  · by_cases c : x < p
    · exact h.2 x c h0
    · exact absurd (hz x (by omega) hx) h0
/-- the row that tells a place, as the class sees it -/
theorem c_ph {p : Nat} (hN1 : 61 ≤ N) (hN : N ≤ 1024) (h : CX N A D m V tk) (hp : PtO N V i) (hi : ir i) (hp4 : p < 4168) : d_X7_reach N (vA A) D2 (nI i) (nI p) 1 = some (nI (ph V i (px p))) ∧ (ph V i (px p) ≠ 0 → ph V i (px p) < N ∧ 44 ≤ ph V i (px p) ∧ vA A (ph V i (px p)) = V (ph V i (px p))) := by
  have hl1 : 1 ≤ levM p := by
    unfold levM
    split
    · decide
    · split <;> decide
  have q := c_reach (D2 := D2) (a := 1) hN1 hN h hp hi hp4 hl1
  refine ⟨?_, fun h0 => ?_⟩
  · rw [← hd_ph hp4]
    exact q
  · have hh := homeM_lt hi.2
    have h45 : 45 ≤ homeM i := by
      unfold homeM
      omega
    have key : ph V i (px p) = homeM i ∨ ∃ x, x < 4234 ∧ ph V i (px p) = pv V i x := by
      by_cases c0 : px p < 10
      · exact Or.inl (ph_0 c0)
      · have hx4 := px_lt hp4
        by_cases c1 : px p < 74
        · exact Or.inr ⟨8, by decide, ph_1 (by omega) c1⟩
        · by_cases c2 : px p < 138
          · exact Or.inr ⟨9, by decide, ph_2 (by omega) c2⟩
          · exact Or.inr ⟨74 + (px p - 138) / 64, by omega, ph_3 (by omega) hx4⟩
    rcases key with e | ⟨x, hx, e⟩
    · rw [e]
      exact ⟨by omega, by omega, h.agu _ (by omega) (by omega) (h.2.2.2.1.1 _ hh)⟩
    · rw [e] at h0 ⊢
      obtain ⟨p1, p2, p3⟩ := (hp x hx).resolve_left h0
      exact ⟨p2, by omega, h.agu _ (by omega) p2 p3⟩
theorem c_gather_l {D0 : CfT} {e : Nat} (hN1 : 61 ≤ N) (hN : N ≤ 1024) (h : CX N A D0 m V tk) (hp : PtO N V i) (hi : ir i) (he : e ≤ 4168) : ∀ (n p : Nat) (D : CfT), e - p < n → p < 2 ^ 30 → GaD V i (min p e) D → ∃ D', d_X7_gather_16 N (vA A) n D (nI i) (nI e) (nI p) = some D' ∧ GaD V i e D' ∧ Dg D D' := by
  intro n
  induction n with
  | zero => intro p D hn; exact absurd hn (Nat.not_lt_zero _)
  | succ n ih =>
    intro p D hn hp30 hg
    rw [d_X7_gather_16]
    by_cases c : e ≤ p
    · rw [if_pos (nI_le c (by omega))]
      rw [Nat.min_eq_right c] at hg
      exact ⟨D, rfl, hg, Dg.rf⟩
    · rw [Nat.min_eq_left (by omega)] at hg
      have hp4 : p < 4168 := by omega
      obtain ⟨q1, q2⟩ := c_ph (D2 := D) hN1 hN h hp hi hp4
      rw [if_neg (nI_ge (by omega) (by omega)), if_neg (show ¬ (4168 : Int32) ≤ nI p from nI_ge (b := 4168) (by omega) (by decide)), bnd_o q1]
      by_cases c0 : ph V i (px p) = 0
      · have hlb : p ≤ lbM p := by
          unfold lbM
          split <;> omega
        have hlb2 : lbM p < 5000 := by
          unfold lbM
          split <;> omega
        rw [if_pos (show nI (ph V i (px p)) = 0 by rw [c0]; rfl), bnd_o (d_lB (by omega)), nI_1]
        exact ih (lbM p + 1) D (by omega) (by omega) (hg.skip (by omega) (fun x h1 h2 => (lb_0 hp4 c0 h1 (by omega)).2))
      · obtain ⟨r1, r2, r3⟩ := q2 c0
        have hpo := po_lt (i := i) (px_lt hp4)
        have e1 : n2 (V (ph V i (px p))) (po i (px p)) = pv V i (px p) := by rw [pv_at (px_lt hp4), if_neg c0]
        rw [if_neg (show ¬ nI (ph V i (px p)) = 0 from nI_ne0 (by omega) (by omega)), see_n r1 hN, bnd_o (d_sp hi.1 hi.2 hp4), bnd_o (d_two (by omega) (by decide)), r3, e1]
        by_cases cv : pv V i (px p) = 0
        · rw [if_pos (show nI (pv V i (px p)) = 0 by rw [cv]; rfl), nI_1]
          exact ih (p + 1) D (by omega) (by omega) (by
            rw [Nat.min_eq_left (by omega)]
            exact hg.skip (by omega) (fun x h1 h2 => by rw [show x = p by omega]; exact cv))
        · have hlt := ((hp _ (px_lt hp4)).resolve_left cv).2.1
          have hc := ncM_le (V := V) (i := i) (a := 0) p
          rw [if_neg (show ¬ nI (pv V i (px p)) = 0 from nI_ne0 (by omega) (by omega)), hg.1, stA_n (by omega) (by decide), show cS (sA D 38 (upd (cA D 38) (ncM V i 0 p) (nI p))) 3705 = nI (ncM V i 0 p) from hg.1, stA_n (by omega) (by decide), ptS, show cS (sA (sA D 38 (upd (cA D 38) (ncM V i 0 p) (nI p))) 39 (upd (cA (sA D 38 (upd (cA D 38) (ncM V i 0 p) (nI p))) 39) (ncM V i 0 p) (nI (pv V i (px p))))) 3705 = nI (ncM V i 0 p) from hg.1, nI_1, nI_1, ← nc_s cv]
          have fr : Dg D (sS (sA (sA D 38 (upd (cA D 38) (ncM V i 0 p) (nI p))) 39 (upd (cA (sA D 38 (upd (cA D 38) (ncM V i 0 p) (nI p))) 39) (ncM V i 0 p) (nI (pv V i (px p))))) 3705 (nI (ncM V i 0 (p + 1)))) := ⟨fun j hj => pk_un hj, fun k h1 h2 => by
            show cA (sA (sA D 38 _) 39 _) k = cA D k
            rw [cA_n h2, cA_n h1]⟩
          obtain ⟨D', a1, a2, a3⟩ := ih (p + 1) _ (by omega) (by omega) (show GaD V i (min (p + 1) e) (sS (sA (sA D 38 (upd (cA D 38) (ncM V i 0 p) (nI p))) 39 (upd (cA (sA D 38 (upd (cA D 38) (ncM V i 0 p) (nI p))) 39) (ncM V i 0 p) (nI (pv V i (px p))))) 3705 (nI (ncM V i 0 (p + 1)))) from by
            rw [Nat.min_eq_left (by omega)]
            refine ⟨pk_us (f := D.1) (k := 3705), fun x hx h0 => ?_⟩
            show cA (sA (sA D 38 _) 39 _) 38 _ = _ ∧ cA (sA (sA D 38 _) 39 _) 39 _ = _
            rw [cA_n (by decide), cA_e, cA_e, cA_n (by decide)]
            by_cases cx : x = p
            · rw [cx, pk_us, pk_us]
              exact ⟨rfl, rfl⟩
            · have hne : ncM V i 0 x ≠ ncM V i 0 p := by
                have h1 := nc_s h0
                have h2 := nc_mono (V := V) (i := i) (show x + 1 ≤ p by omega)
                omega
              rw [pk_un hne, pk_un hne]
              exact hg.2 x (by omega) h0)
          exact ⟨D', a1, a2, fr.tr a3⟩
theorem c_gather {D0 : CfT} (hN1 : 61 ≤ N) (hN : N ≤ 1024) (h : JX N B gr A D0 R m V tk) (hp : PtO N V i) (hi : ir i) (hz : szM V i ≤ 400000) : ∃ D', d_X7_gather N (vA A) D (nI i) = some D' ∧ GaD V i (bfM (szM V i)) D' ∧ Dg D D' := by
  have hb : bfM (szM V i) ≤ 4168 := by
    unfold bfM
    omega
  obtain ⟨D', a1, a2, a3⟩ := c_gather_l (e := bfM (szM V i)) hN1 hN h.1 hp hi hb fuL 0 (sS D 3705 0) (by rw [fuL_4]; omega) (by decide) (by
    rw [Nat.zero_min]
    exact ⟨pk_us (f := D.1) (k := 3705), fun p hp => absurd hp (Nat.not_lt_zero _)⟩)
  refine ⟨D', ?_, a2, Dg.tr (D' := sS D 3705 0) ⟨fun j hj => pk_un hj, fun k _ _ => rfl⟩ a3⟩
  rw [d_X7_gather, ptS, bnd_o (j_size (D2 := sS D 3705 0) hN1 hN h hi).1, bnd_o (d_bF (by omega))]
  exact a1
end PXT
