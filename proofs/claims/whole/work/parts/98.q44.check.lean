/-! ===== pure: check, names and bits ===== -/
section PZR
variable {N B gr r u : Nat} {V W U : Nat → Rw} {m m' : M5} {tk tk' : Nat → Bool} {A A' : MS} {D D' D0 D2 : CfT} {R R' : RfT} {g : Bool} {hd hi : Nat → Nat} {tp : Nat → Int32} {tl : Nat} {ex : Nat → Int32} {P : Nat → Prop} {f : Nat → Nat} {i x y e q : Nat}
theorem ck_links {D9 : CfT} (hN1 : 61 ≤ N) (hN : N ≤ 1024) (h : JX N B gr A D9 R m V tk) (hw : WF N V) (hL : LH V hd hi) (hr : HRel D9 R hd hi) (hk : DkC D9 D) (hc : CkD N D P (fN V 65)) : ∀ (n x : Nat), 1 ≤ x → x ≤ 65 → 65 - x < n → d_X1_lookAtLinks_2 N (vA A) n D (nI x) = some D := by
  intro n
  induction n with
  | zero => intro x _ _ hh; exact absurd hh (Nat.not_lt_zero _)
  | succ n ih =>
    intro x hx1 hx hn
    rw [d_X1_lookAtLinks_2]
    by_cases c : x = 65
    · rw [if_pos (show (64 : Int32) < nI x by rw [c]; decide)]
    have hir : ir x := ⟨hx1, by omega⟩
    have hlt := f1_lt V x 1
    have e8 := hw.s.2.2.2.2.2.2.2 x hir
    dsimp only at e8
    have ef : fN V 65 x = f1 V x 1 := by
      unfold fN
      by_cases c1 : x = 1
      · rw [if_pos c1]
        rw [if_pos c1] at e8
        omega
      · rw [if_neg c1]
        rw [if_neg c1] at e8
        omega
    have l1 : d_X7_links N (vA A) D (nI x) = some (nI (f1 V x 1)) := by rw [d_links hir.1 hir.2 hN1 hN, (f1_ag (a := 1) hN1 h.1.agu hw.1.1 hir.2).1]
    obtain ⟨l2, -⟩ := j_lost (D2 := D) hN1 hN h hir
    have nx := ih (x + 1) (by omega) (by omega) (by omega)
    rw [if_neg (show ¬ (64 : Int32) < nI x from nI_nlt (a := 64) (by omega) (by decide)), ld_n (show x < 65 by omega) (by decide), hc.2.2 x hx1 (by omega), ef, bnd_o l1, if_pos rfl, bnd_o ck_ask, d_X1_lookAtLinks_34, bnd_o l2]
    by_cases cl : f1 V x 0 ≠ 0 ∧ f1 V x 1 = 0
    · have ht := hL x hir cl.1 cl.2
      have e1 : d_X5_times N (vA A) D (nI x) = some (nI (tmM hd hi x)) := (times_dt (W := vA A) (hk.2 33 (by decide) (by decide) (by decide) (by decide)) (hk.2 34 (by decide) (by decide) (by decide) (by decide)) _).trans (d_tm hr (by omega))
      have hle : tmM hd hi x < 2 ^ 31 := by
        have := rsC_le (rs := hi) (v := x) 32
        have := (hr.1 x (by omega)).2.2
        unfold tmM
        omega
      rw [decide_eq_true cl, if_neg (show ¬ bI true = 0 by decide), bnd_o e1, if_neg (show ¬ nI (tmM hd hi x) ≤ (0 : Int32) from nI_ge (a := 0) (by omega) hle), bnd_o ck_ask, nI_1]
      exact nx
    · rw [decide_eq_false cl, if_pos (show bI false = 0 from rfl), bnd_o ck_ask, nI_1]
      exact nx
theorem ck_mod {b : Nat} (hb : b < 2 ^ 30) : nI b - nI b / 8 * 8 = nI (b % 8) := by
  rw [show (8 : Int32) = nI 8 from rfl, pk_div (by omega) (by decide) (by decide), pk_mul, pk_sub (by omega)]
  congr 1
  omega
theorem ck_dv8 {b : Nat} (hb : b < 2 ^ 30) : nI b / 8 = nI (b / 8) := by rw [show (8 : Int32) = nI 8 from rfl, pk_div (by omega) (by decide) (by decide)]
theorem ck_101 {D9 : CfT} (hN1 : 61 ≤ N) (hN : N ≤ 1024) (h : JX N B gr A D9 R m V tk) (hw : WF N V) : ∀ (n k : Nat), k ≤ 1024 → 1024 - k < n → d_X1_lookAtBits_101 N (vA A) n D (V 44) 128 (nI k) = some D := by
  intro n
  induction n with
  | zero => intro k _ hh; exact absurd hh (Nat.not_lt_zero _)
  | succ n ih =>
    intro k hk hn
    rw [d_X1_lookAtBits_101]
    by_cases c : k = 1024
    · rw [if_pos (show (1024 : Int32) ≤ nI k by rw [c]; decide)]
    have hb := hw.2.2.2.1 k (by omega)
    have nx := ih (k + 1) (by omega) (by omega)
    rw [if_neg (show ¬ (1024 : Int32) ≤ nI k from nI_ge (b := 1024) (by omega) (by decide)), ck_dv8 (by omega), ld_n (show k / 8 < 128 by omega) (by decide), show nI k - nI (k / 8) * 8 = nI (k % 8) by rw [← ck_dv8 (show k < 2 ^ 30 by omega), ck_mod (by omega)], bit_at, hb, nI_1]
    by_cases c64 : k < 64
    · have hir : ir (k + 1) := ⟨by omega, by omega⟩
      obtain ⟨kc, -⟩ := j_kind (D2 := D) hN1 hN h hir
      have hlt := f1_lt V (k + 1) 0
      rw [bnd_o kc]
      by_cases k0 : f1 V (k + 1) 0 = 0
      · rw [if_neg (show ¬ (k < 64 ∧ f1 V (k + 1) 0 ≠ 0) from fun z => z.2 k0), k0, nI_0, i00, if_pos rfl, bnd_o ck_ask]
        exact nx
      · rw [if_neg (show ¬ nI (f1 V (k + 1) 0) = 0 from nI_ne0 (by omega) (by omega)), if_pos (show k < 64 ∧ f1 V (k + 1) 0 ≠ 0 from ⟨c64, k0⟩), if_pos (show nI 1 = (1 : Int32) from rfl), bnd_o ck_ask]
        exact nx
    · rw [bnd_o (d_kind0 (Or.inr (show ¬ nI (k + 1) ≤ (64 : Int32) from nI_ge (a := 64) (by omega) (by omega)))), i00, if_neg (show ¬ (k < 64 ∧ f1 V (k + 1) 0 ≠ 0) from fun z => c64 z.1), nI_0, if_pos rfl, bnd_o ck_ask]
      exact nx
theorem ck_12 {D9 : CfT} (hN1 : 61 ≤ N) (hN : N ≤ 1024) (h : JX N B gr A D9 R m V tk) (hw : WF N V) (hc : CkD N D (Pn V 65) f) : ∀ (n b : Nat), b ≤ 1024 → 1024 - b < n → d_X1_lookAtBits_12 N (vA A) n D (V 43) 128 (nI b) = some D := by
  intro n
  induction n with
  | zero => intro b _ hh; exact absurd hh (Nat.not_lt_zero _)
  | succ n ih =>
    intro b hb hn
    rw [d_X1_lookAtBits_12]
    by_cases c : b = 1024
    · have e44 : vA A 44 = V 44 := h.1.see (by decide) (by omega) (hw.1.1.1 44 (by decide))
      rw [if_pos (show (1024 : Int32) ≤ nI b by rw [c]; decide), show (44 : Int32) = nI 44 from rfl, see_n (by omega) hN, e44]
      exact ck_101 hN1 hN h hw fuL 0 (by decide) (by rw [fuL_4]; omega)
    have nx := ih (b + 1) (by omega) (by omega)
    have step : ∀ v, v ≤ 1 → btM (V 43) b = v → d_X1_lookAtBits_39 N (vA A) (d_X1_lookAtBits_12 N (vA A) n) D (V 43) 128 (nI b) (nI v) = some D := fun v hv e => by
      have z1 : ¬ (1 : Int32) < nI v := nI_nlt (a := 1) (by omega) (by decide)
      rw [d_X1_lookAtBits_39, if_neg z1, bnd_o ck_ask, d_X1_lookAtBits_53, ck_dv8 (by omega), ld_n (show b / 8 < 128 by omega) (by decide), show nI b - nI (b / 8) * 8 = nI (b % 8) by rw [← ck_dv8 (show b < 2 ^ 30 by omega), ck_mod (by omega)], bit_at, if_neg z1, nm_o, e, if_pos rfl, bnd_o ck_ask, nI_1]
      exact nx
    rw [if_neg (show ¬ (1024 : Int32) ≤ nI b from nI_ge (b := 1024) (by omega) (by decide))]
    by_cases cN : N ≤ b
    · rw [if_pos (nI_le cN (by omega))]
      exact step 1 (by decide) (hw.1.1.2 b cN (by omega))
    · rw [if_neg (nI_ge (by omega) (by omega)), ld_n (show b < N by omega) (by omega), hc.2.1 b (by omega)]
      by_cases c61 : b < 61
      · rw [if_pos (Or.inl c61)]
        exact step 1 (by decide) (hw.1.1.1 b c61)
      · have iff1 : btM (V 43) b = 1 ↔ Pn V 65 b := by
          rw [hw.1.2.2.2 b (by omega) (by omega)]
          exact ⟨fun ⟨i, y, i1, i2, i3⟩ => ⟨by omega, i, y, i1.1, by have := i1.2; omega, i2, i3⟩, fun ⟨_, i, y, i1, i2, i3, i4⟩ => ⟨i, y, ⟨i1, by omega⟩, i3, i4⟩⟩
        by_cases cp : Pn V 65 b
        · rw [if_pos (Or.inr cp)]
          exact step 1 (by decide) (iff1.mpr cp)
        · rw [if_neg (fun z => z.elim c61 cp)]
          have := bt_lt (V 43) b
          have h1 : btM (V 43) b ≠ 1 := fun z => cp (iff1.mp z)
          exact step 0 (by decide) (by omega)
theorem ck_62 {D9 : CfT} (hN1 : 61 ≤ N) (hN : N ≤ 1024) (h : JX N B gr A D9 R m V tk) (hw : WF N V) (hL : LH V hd hi) (hr : HRel D9 R hd hi) : ∀ (n x : Nat) (D : CfT), 1 ≤ x → x ≤ 65 → 65 - x < n → DkC D9 D → CkD N D (Pn V x) (fN V x) → ∃ D', d_X1_faults_62 N (vA A) n D (nI x) = some (0, D') ∧ DkC D9 D' := by
  intro n
  induction n with
  | zero => intro x D _ _ hh; exact absurd hh (Nat.not_lt_zero _)
  | succ n ih =>
    intro x D hx1 hx hn hk hc
    rw [d_X1_faults_62]
    by_cases c : x = 65
    · subst c
      have l1 : d_X1_lookAtLinks N (vA A) D = some D := ck_links hN1 hN h hw hL hr hk hc fuL 1 (by decide) (by decide) (by rw [fuL_4]; omega)
      have e43 : vA A 43 = V 43 := h.1.see (by decide) (by omega) (hw.1.1.1 43 (by decide))
      have l2 : d_X1_lookAtBits N (vA A) D = some D := by
        rw [d_X1_lookAtBits, show (43 : Int32) = nI 43 from rfl, see_n (by omega) hN, e43]
        exact ck_12 hN1 hN h hw hc fuL 0 (by decide) (by rw [fuL_4]; omega)
      rw [if_pos (show (64 : Int32) < nI 65 by decide), bnd_o l1, bnd_o l2, hc.1]
      exact ⟨D, rfl, hk⟩
    · obtain ⟨D', a1, a2, a3⟩ := ck_inode hN1 hN h hw ⟨hx1, by omega⟩ hc
      rw [if_neg (show ¬ (64 : Int32) < nI x from nI_nlt (a := 64) (by omega) (by decide)), bnd_o a1, nI_1]
      exact ih (x + 1) D' (by omega) (by omega) (by omega) (hk.tr a3) a2
theorem ck_faults (hN1 : 61 ≤ N) (hN : N ≤ 1024) (h : IM N B gr u g A D R m V tk hd hi tp tl) (hL : LH V hd hi) : ∃ D', d_X1_faults N (vA A) D = some (0, D') ∧ DkC D D' := by
  have hw := h.2.1
  obtain ⟨kc, -⟩ := j_kind (D2 := D) hN1 hN h.1 (i := 1) ⟨Nat.le_refl _, by decide⟩
  have k2 : f1 V 1 0 = 2 := hw.2.2.2.2.2.2.1
  obtain ⟨D2, hD2⟩ : ∃ D2, D2 = sA (sS D 4405 0) 46 (flt (cA (sS D 4405 0) 46) 0 65 0) := ⟨_, rfl⟩
  obtain ⟨D3, hD3⟩ : ∃ D3, D3 = sA D2 45 (flt (cA D2 45) 0 N 0) := ⟨_, rfl⟩
  obtain ⟨D4, hD4⟩ : ∃ D4, D4 = sA D3 45 (flt (cA D3 45) 0 61 1) := ⟨_, rfl⟩
  obtain ⟨D5, hD5⟩ : ∃ D5, D5 = sA D4 46 (upd (cA D4 46) 1 1) := ⟨_, rfl⟩
  have kp : DkC D D5 := by
    have h1 : DkC D (sS D 4405 0) := ⟨fun j h1 _ => pk_un h1, fun _ _ _ _ _ => rfl⟩
    have h2 : DkC (sS D 4405 0) D2 := by rw [hD2]; exact DkC.s (Or.inr rfl)
    have h3 : DkC D2 D3 := by rw [hD3]; exact DkC.s (Or.inl rfl)
    have h4 : DkC D3 D4 := by rw [hD4]; exact DkC.s (Or.inl rfl)
    have h5 : DkC D4 D5 := by rw [hD5]; exact DkC.s (Or.inr rfl)
    exact (((h1.tr h2).tr h3).tr h4).tr h5
  have ck : CkD N D5 (Pn V 1) (fN V 1) := by
    refine ⟨?_, fun b hb => ?_, fun j j1 j2 => ?_⟩
    · rw [hD5, hD4, hD3, hD2]
      exact pk_us (f := D.1) (k := 4405)
    · have nP : ¬ Pn V 1 b := fun ⟨_, i, _, i1, i2, _⟩ => by omega
      rw [hD5, cA_n (by decide), hD4, cA_e]
      by_cases c : b < 61
      · rw [flt_at (Nat.zero_le _) c, if_pos (Or.inl c)]
      · rw [if_neg (fun z => z.elim c nP)]
        show (if 0 ≤ b ∧ b < 61 then (1 : Int32) else cA D3 45 b) = 0
        rw [if_neg (fun z => c z.2), hD3, cA_e, flt_at (Nat.zero_le _) hb]
    · rw [hD5, cA_e]
      have e46 : cA D4 46 = flt (cA (sS D 4405 0) 46) 0 65 0 := by rw [hD4, cA_n (by decide), hD3, cA_n (by decide), hD2, cA_e]
      have e0 : nmC V j 1 = 0 := by
        show nmC V j 0 + (if 1 ≤ 0 ∧ f1 V 0 0 = 2 then nmD V j 0 (szM V 0 / 16) else 0) = 0
        rw [if_neg (fun z => absurd z.1 (by decide))]
        rfl
      unfold fN
      rw [e0]
      by_cases c : j = 1
      · rw [c, pk_us, if_pos rfl]
        rfl
      · rw [pk_un c, e46, flt_at (Nat.zero_le _) j2, if_neg c]
        rfl
  obtain ⟨D', a1, a2⟩ := ck_62 (D9 := D) hN1 hN h.1 hw hL h.2.2.2.2.2.1 fuL 1 D5 (by decide) (by decide) (by rw [fuL_4]; omega) kp ck
  have a1 : d_X1_faults_62 N (vA A) fuL D5 1 = some (0, D') := a1
  refine ⟨D', ?_, a2⟩
  obtain ⟨kc5, -⟩ := j_kind (D2 := D5) hN1 hN h.1 (i := 1) ⟨Nat.le_refl _, by decide⟩
  have kc5 : d_X7_kind N (vA A) D5 1 = some (nI (f1 V 1 0)) := kc5
  rw [d_X1_faults, ptS, flD, ← hD2, flD, ← hD3, show (0 : Int32) = nI 0 from rfl, show (61 : Int32) = nI 61 from rfl, frD_n (by decide) hN1 (by omega), ← hD4, show stA D4 46 65 (1 : Int32) (1 : Int32) = stA D4 46 65 (nI 1) (1 : Int32) from rfl, stA_n (by decide) (by decide), ← hD5, bnd_o kc5, if_pos (show nI (f1 V 1 0) = (2 : Int32) by rw [k2]; rfl), bnd_o ck_ask, a1]
  rfl
theorem IM.dkC (h : IM N B gr u g A D R m V tk hd hi tp tl) (e : DkC D D') : IM N B gr u g A D' R m V tk hd hi tp tl := h.fr (e.1 2508 (by decide) (by decide)) (e.2 29 (by decide) (by decide) (by decide) (by decide)) (Fn.rf (S := []) (T := [])) (by decide) (by decide) ⟨fun j hj => e.1 j (by revert hj; revert j; decide) (by revert hj; revert j; decide), fun k hk => e.2 k (by revert hk; revert k; decide) (by revert hk; revert k; decide) (by revert hk; revert k; decide) (by revert hk; revert k; decide), fun _ _ => rfl, fun _ _ => rfl⟩ (by decide) (e.2 42 (by decide) (by decide) (by decide) (by decide))
theorem r_check (hN1 : 61 ≤ N) (hN : N ≤ 1024) (h : IM N B gr u g A D R m V tk hd hi tp tl) (hL : LH V hd hi := by assumption) : RetR N B gr (u + 100) ex (d_X11_check N B gr A D) (e_check R) := by
  obtain ⟨n1, R1, n2, h1, ot, t0, -, -⟩ := h.nm hN
  obtain ⟨D', a1, a2⟩ := ck_faults hN1 hN h1 hL
  rw [d_X11_check, bndF_l n1, bnd2_o a1, e_check, bnd2_o n2]
  exact RetR.ok (h1.dkC a2) (by omega) t0 rfl rfl
end PZR
