/-! ===== pure: both have a place ===== -/
section PWG
variable {N B gr : Nat} {V : Nat → Rw} {m : M5} {tk : Nat → Bool} {i : Nat}
/-- behind the inode: the first table, or none -/
theorem jh_83 {A : MS} {D : CfT} {R : RfT} {p n r : Nat} {tb : Bool} {x7 to : Int32} (hN1 : 61 ≤ N) (hN : N ≤ 1024) (hi : ir i) (hp : p < 4168) (h8 : ¬ p < 8) (h72 : p < 72) (hv : pv V i (px p) = 0) (h : JH N B gr (r + (if pv V i 8 = 0 then 2 else 1)) A D R m V tk) (self : RfT → Int32 → Int32 → Int32 → Int32 → Option (RfT)) : HvO N B gr r tb i p A D R m V tk (d_X7_have_30 N B gr (n + 3) A D (nI p) (bI tb) (nI (homeM i)) (nI (startM i + 28)) (nI 2) x7 (nI 0)) 1 (e_have_83 self R (nI i) to (bI tb) (nI p)) self to := by
  have hxp : px p = p + 2 := by
    unfold px
    rw [if_neg h8, if_pos h72]
  have ephp : ∀ W : Nat → Rw, ph W i (px p) = pv W i 8 := fun W => by
    rw [hxp]
    exact ph_1 (by omega) (by omega)
  have epo : po i (px p) = 2 * (p - 8) := by
    rw [hxp, show p + 2 = 10 + (p - 8) by omega, po_10 (by omega)]
  have eo1 : offM p 1 = po i (px p) := by
    rw [epo]
    exact (off_a h8 h72).2
  have hon : ¬ rS R 11 = 0 := h.1.2.1.1.1.on
  have hlev : (2 : Nat) = levM p := (lev_2 h8 h72).symm
  have zt := z_tab hN1 hN h.1.2 (h.2.1.pto hi) hi h8 hp
  rw [ephp] at zt
  have e83 : e_have_83 self R (nI i) to (bI tb) (nI p) = (if nI (pv V i 8) = 0 then bnd2 (e_takeTable R) (fun v122 R122 => if (rS R122 11) = 0 then e_have_140 self R122 (nI i) to (bI tb) (nI p) v122 else if ((72 : Int32)) ≤ nI p then e_have_140 self R122 (nI i) to (bI tb) (nI p) v122 else bnd (e_setField R122 (nI i) ((28 : Int32)) ((2 : Int32)) v122) (fun R123 => e_have_172 self R123 (nI i) to (bI tb) (nI p))) else e_have_172 self R (nI i) to (bI tb) (nI p)) := by
    rw [e_have_83, if_neg hon, if_neg (show ¬ nI p < (8 : Int32) from fun z => absurd (nI_le (a := 8) (b := p) (by omega) (by omega)) (Int32.not_le.mpr z)), bnd_o zt]
  have hh := ir_home hi
  have hs := startM_le i
  by_cases ct : pv V i 8 = 0
  · rw [if_pos ct] at h
    rw [if_pos (by rw [ct]; rfl)] at e83
    refine jh_tab (n := n + 2) (x := 8) (k := 0) (lev := 2) (x7 := x7) (r := r + 1) hN1 hN hi h hp (by decide) (homeM_ne i) ct (Or.inl rfl) (by decide) (by decide) (by decide) (Or.inr (Or.inl ⟨by omega, by rw [hxp]; exact (if_pos (by omega)).symm⟩)) (fun z => by omega) rfl r (fun b A' D' R1 R' m' V' tk' b1 b2 b3 b4 b5 b6 b7 b8 b9 => ?_) (fun R' b1 b2 => ?_)
    · rw [show ph V i 8 = homeM i from rfl, show po i 8 = startM i + 28 from rfl, ← z_setFieldS hi.1 hi.2] at b3
      have b3 : e_setField R1 (nI i) 28 2 (nI b) = some R' := b3
      rw [e83, bnd2_o b1, if_neg b2, if_neg (show ¬ (72 : Int32) ≤ nI p from nI_ge (b := 72) h72 (by decide)), bnd_o b3]
      have pt : pv V' i 8 = b := by rw [b5 i 8 hi (by decide), if_pos ⟨rfl, rfl⟩]
      have pd : pv V' i (px p) = 0 := by rw [b5 i _ hi (px_lt hp), if_neg (by rw [hxp]; omega), hv]
      have q := jh_lastO (n := n) (x7 := 1) (to := to) (tb := tb) (lev := 2) hN1 hN hi b4 hp (by rw [ephp, pt]; omega) pd hlev self
      rw [ephp, pt, ← eo1] at q
      exact q
    · rw [e83, bnd2_o b1, if_pos b2, hv_dead140 b2, nI_1]
  · rw [if_neg ct] at h
    have htN := ((h.2.1.2.1 i 8 hi (by decide)).resolve_left ct)
    rw [if_neg (nI_ne0 (by omega) (by omega))] at e83
    have en : n2 (V (homeM i)) (startM i + 28) = pv V i 8 := rfl
    have cp := c_pass (B := B) (gr := gr) (p := p) (k := 0) (lev := 2) (n := n + 2) (tb := tb) (x7 := x7) hN h.1.1 (show 43 ≤ homeM i by omega) (by omega) (h.2.1.1.1 _ hh.2) (show startM i + 28 + 2 ≤ 128 by omega) (by rw [en]; exact ct) (by decide) (by decide) hp
    rw [cp, en, e83]
    have q := jh_lastO (n := n) (x7 := x7) (to := to) (tb := tb) (lev := 2) hN1 hN hi h hp (by rw [ephp]; exact ct) hv hlev self
    rw [ephp, ← eo1] at q
    exact q
theorem c_have0 {A : MS} {D : CfT} {p : Nat} {tb : Bool} (hi : ir i) (hp : p < 4168) : d_X7_have N B gr A D (nI i) (nI p) (bI tb) = d_X7_have_30 N B gr fuL A D (nI p) (bI tb) (nI (homeM i)) (nI (startM i + offM p 0)) (nI (levM p)) 0 (nI 0) := by
  rw [d_X7_have, bnd_o (d_homeS hi.1 hi.2).1, bnd_o (d_homeS hi.1 hi.2).2, show (0 : Int32) = nI 0 from rfl, bnd_o (d_offset (by omega) (by omega)), bnd_o (d_levels (by omega)), nI_add]
/-- all levels are there: nothing is made -/
theorem c_have_no {A : MS} {D : CfT} {p : Nat} {tb : Bool} (hN1 : 61 ≤ N) (hN : N ≤ 1024) (hi : ir i) (h : CX N A D m V tk) (hw : PW N V) (hp : p < 4168) (h0 : pv V i (px p) ≠ 0) : d_X7_have N B gr A D (nI i) (nI p) (bI tb) = some (.inl (0, A, D)) := by
  have hh := ir_home hi
  have hs := startM_le i
  have pass : ∀ (k lev x n : Nat), x < 4234 → ph V i x ≠ 0 → pv V i x ≠ 0 → lev ≤ 3 → k < lev → d_X7_have_30 N B gr (n + 1) A D (nI p) (bI tb) (nI (ph V i x)) (nI (po i x)) (nI lev) 0 (nI k) = d_X7_have_30 N B gr n A D (nI p) (bI tb) (nI (pv V i x)) (nI (offM p (k + 1))) (nI lev) 0 (nI (k + 1)) := fun k lev x n hx4 hp0 hv hl hk => by
    obtain ⟨c1, c2, c3⟩ := hw.at hN1 hi hx4 hp0
    have en : n2 (V (ph V i x)) (po i x) = pv V i x := by
      have q := pv_at (V := V) (i := i) hx4
      rw [if_neg hp0] at q
      exact q.symm
    have cp := c_pass (B := B) (gr := gr) (p := p) (k := k) (lev := lev) (n := n) (tb := tb) (x7 := 0) hN h (show 43 ≤ ph V i x by omega) c2 c3 (po_lt hx4) (by rw [en]; exact hv) hl hk hp
    rw [en] at cp
    exact cp
  have fin : ∀ (n lev : Nat) (c o : Int32), lev ≤ 3 → d_X7_have_30 N B gr (n + 1) A D (nI p) (bI tb) c o (nI lev) 0 (nI lev) = some (.inl (0, A, D)) := fun n lev c o hl => by
    rw [d_X7_have_30, if_pos (nI_le (Nat.le_refl _) (by omega))]
    rfl
  have hpx : ph V i (px p) ≠ 0 := fun z => h0 (by rw [pv_at (px_lt hp), if_pos z])
  rw [c_have0 hi hp, show fuL = 3999996 + 4 from rfl]
  by_cases c8 : p < 8
  · have hxp : px p = p := if_pos c8
    rw [hxp] at h0 hpx
    have q := pass 0 1 p 3999999 (by omega) hpx h0 (by decide) (by decide)
    rw [ph_0 (by omega), show po i p = startM i + offM p 0 by unfold po offM; rw [if_pos c8, if_pos c8, Nat.add_assoc]] at q
    rw [lev_1 c8]
    exact q.trans (fin _ _ _ _ (by decide))
  · by_cases c72 : p < 72
    · have hxp : px p = p + 2 := by
        unfold px
        rw [if_neg c8, if_pos c72]
      have ephp : ph V i (px p) = pv V i 8 := by
        rw [hxp]
        exact ph_1 (by omega) (by omega)
      have epo : po i (px p) = offM p 1 := by
        rw [hxp, show p + 2 = 10 + (p - 8) by omega, po_10 (by omega), (off_a c8 c72).2]
      have q1 := pass 0 2 8 3999999 (by decide) (homeM_ne i) (by rw [← ephp]; exact hpx) (by decide) (by decide)
      have q2 := pass 1 2 (px p) 3999998 (px_lt hp) hpx h0 (by decide) (by decide)
      rw [ephp, epo] at q2
      rw [lev_2 c8 c72, (off_a c8 c72).1]
      exact (q1.trans q2).trans (fin _ _ _ _ (by decide))
    · have hxp : px p = p + 66 := by
        unfold px
        rw [if_neg c8, if_neg c72]
      have ehx : hx (px p) = 74 + (p - 72) / 64 := by
        rw [hxp, show p + 66 = 138 + 64 * ((p - 72) / 64) + (p - 72) % 64 by omega, hx_138 (by omega)]
      have ephp : ph V i (px p) = pv V i (74 + (p - 72) / 64) := by rw [ph_hx (by rw [hxp]; omega) (px_lt hp), ehx]
      have eph2 : ph V i (74 + (p - 72) / 64) = pv V i 9 := ph_2 (by omega) (by omega)
      have epo : po i (px p) = offM p 2 := by
        rw [hxp, show p + 66 = 138 + 64 * ((p - 72) / 64) + (p - 72) % 64 by omega, po_138 (by omega), (off_b c72).2.2]
      have ht : pv V i (74 + (p - 72) / 64) ≠ 0 := by rw [← ephp]; exact hpx
      have h9 : pv V i 9 ≠ 0 := fun z => ht (by rw [pv_2 (by omega) (by omega), z]; exact if_pos rfl)
      have q1 := pass 0 3 9 3999999 (by decide) (homeM_ne i) h9 (by decide) (by decide)
      have q2 := pass 1 3 (74 + (p - 72) / 64) 3999998 (by omega) (by rw [eph2]; exact h9) ht (by decide) (by decide)
      have q3 := pass 2 3 (px p) 3999997 (px_lt hp) hpx h0 (by decide) (by decide)
      rw [eph2, po_74 (by omega), ← (off_b c72).2.1] at q2
      rw [ephp, epo] at q3
      rw [lev_3 c72, (off_b c72).1]
      exact ((q1.trans q2).trans q3).trans (fin _ _ _ _ (by decide))
theorem j_have1 {A : MS} {D : CfT} {R : RfT} {p n r to : Nat} {tb : Bool} (hN1 : 61 ≤ N) (hN : N ≤ 1024) (hi : ir i) (h : JH N B gr (r + msM V i p) A D R m V tk) (hp : p < 4168) (hto : p ≤ to) (hto2 : to < 4168) : HvO N B gr r tb i p A D R m V tk (d_X7_have N B gr A D (nI i) (nI p) (bI tb)) (bI (decide (pv V i (px p) = 0))) (e_have_19 (n + 1) R (nI i) (nI to) (bI tb) (nI p)) (e_have_19 n) (nI to) := by
  have hon : ¬ rS R 11 = 0 := h.1.2.1.1.1.on
  have hh := ir_home hi
  have zb := z_blk hN1 hN h.1.2 (h.2.1.pto hi) hi.1 hi.2 hp
  rw [e_have_19, if_neg (show ¬ nI to < nI p from fun z => absurd (nI_le hto (by omega)) (Int32.not_le.mpr z)), if_neg hon, bnd_o zb]
  by_cases c0 : pv V i (px p) = 0
  rotate_left
  · have hlt := ((h.2.1.2.1 i (px p) hi (px_lt hp)).resolve_left c0)
    rw [if_neg (nI_ne0 (by omega) (by omega)), nI_1, c_have_no hN1 hN hi h.1.1 h.2.1 hp c0, decide_eq_false c0]
    have h : JH N B gr r A D R m V tk := by
      unfold msM at h
      rw [if_pos c0] at h
      exact h
    exact Or.inl ⟨A, D, R, m, V, tk, rfl, rfl, h, Gr.rf, c0, rfl, Dt.rf, Fq.rf, F49.rf rfl, Flr.rf, TkG.rf, OwG.rf⟩
  · unfold msM at h
    rw [if_neg (fun z => z c0)] at h
    rw [if_pos (by rw [c0]; rfl), c_have0 hi hp, decide_eq_true c0, show bI true = 1 from rfl, show fuL = 3999996 + 4 from rfl]
    by_cases c8 : p < 8
    · rw [if_pos c8] at h
      rw [if_pos (show nI p < (72 : Int32) from nI_lt (b := 72) (by omega) (by decide)), e_have_83, if_neg hon, if_pos (show nI p < (8 : Int32) from nI_lt (b := 8) c8 (by decide))]
      have hxp : px p = p := if_pos c8
      have q := jh_lastO (n := 3999998) (x7 := 0) (to := nI to) (tb := tb) (lev := 1) hN1 hN hi h hp (by rw [hxp, ph_0 (by omega)]; exact homeM_ne i) c0 (lev_1 c8).symm (e_have_19 n)
      rw [hxp, ph_0 (by omega), show po i p = startM i + offM p 0 by unfold po offM; rw [if_pos c8, if_pos c8, Nat.add_assoc]] at q
      rw [lev_1 c8]
      exact q
    · rw [if_neg c8] at h
      by_cases c72 : p < 72
      · rw [if_pos c72] at h
        rw [if_pos (show nI p < (72 : Int32) from nI_lt (b := 72) c72 (by decide)), lev_2 c8 c72, (off_a c8 c72).1]
        exact jh_83 (n := 3999997) (x7 := 0) hN1 hN hi hp c8 c72 c0 h (e_have_19 n)
      · rw [if_neg c72] at h
        have fl := z_fieldS (R := R) (a := 30) (n := 2) hi.1 hi.2
        have fl2 := z_s2 (R := R) (b := homeM i) (a := startM i + 30) (by omega) h.1.2.1.1.lk (by have := startM_le i; omega)
        rw [(h.1.2.1.2 (homeM i) (by omega) (by omega)).1] at fl2
        have fl2 : e_seenNumber R (nI (homeM i)) (nI (startM i + 30)) 2 = some (nI (pv V i 9)) := fl2
        rw [fl2] at fl
        have fl : e_field R (nI i) 30 2 = some (nI (pv V i 9)) := fl
        rw [if_neg (show ¬ nI p < (72 : Int32) from fun z => absurd (nI_le (a := 72) (b := p) (by omega) (by omega)) (Int32.not_le.mpr z)), bnd_o fl, lev_3 c72, (off_b c72).1]
        by_cases c9 : pv V i 9 = 0
        · rw [if_pos c9] at h
          rw [if_pos (by rw [c9]; rfl)]
          have hz : pv V i (74 + (p - 72) / 64) = 0 := by
            rw [pv_2 (by omega) (by omega), c9]
            exact if_pos rfl
          refine jh_tab (n := 3999999) (x := 9) (k := 0) (lev := 3) (x7 := 0) (r := r + 2) hN1 hN hi h hp (by decide) (homeM_ne i) c9 (Or.inr (Or.inl rfl)) (by decide) (by decide) (by decide) (Or.inr (Or.inr ⟨by omega, rfl⟩)) (fun z => by omega) rfl r (fun b A' D' R1 R' m' V' tk' b1 b2 b3 b4 b5 b6 b7 b8 b9 => ?_) (fun R' b1 b2 => ?_)
          · rw [show ph V i 9 = homeM i from rfl, show po i 9 = startM i + 30 from rfl, ← z_setFieldS hi.1 hi.2] at b3
            have b3 : e_setField R1 (nI i) 30 2 (nI b) = some R' := b3
            rw [bnd2_o b1, if_neg b2, bnd_o b3]
            have hxp : px p = p + 66 := by
              unfold px
              rw [if_neg c8, if_neg c72]
            have pt : pv V' i 9 = b := by rw [b5 i 9 hi (by decide), if_pos ⟨rfl, rfl⟩]
            have pd : pv V' i (px p) = 0 := by rw [b5 i _ hi (px_lt hp), if_neg (by rw [hxp]; omega), c0]
            have pz : pv V' i (74 + (p - 72) / 64) = 0 := by rw [b5 i _ hi (by omega), if_neg (by omega), hz]
            have q := jh_mid (n := 3999996) (x7 := 1) (to := nI to) (tb := tb) (r := r) hN1 hN hi hp c72 (by rw [pt]; omega) pd (by rw [if_pos pz]; exact b4) (e_have_19 n)
            rw [pt, ← (off_b c72).2.1] at q
            exact q
          · rw [bnd2_o b1, if_pos b2, hv_dead83 b2, nI_1]
        · rw [if_neg c9] at h
          have h9r := (h.2.1.2.1 i 9 hi (by decide)).resolve_left c9
          rw [if_neg (nI_ne0 (by omega) (by omega))]
          have hs := startM_le i
          have en : n2 (V (homeM i)) (startM i + 30) = pv V i 9 := rfl
          have cp := c_pass (B := B) (gr := gr) (p := p) (k := 0) (lev := 3) (n := 3999999) (tb := tb) (x7 := 0) hN h.1.1 (show 43 ≤ homeM i by omega) (by omega) (h.2.1.1.1 _ hh.2) (show startM i + 30 + 2 ≤ 128 by omega) (by rw [en]; exact c9) (by decide) (by decide) hp
          rw [en, (off_b c72).2.1] at cp
          have q := jh_mid (n := 3999996) (x7 := 0) (to := nI to) (tb := tb) (r := r) hN1 hN hi hp c72 c9 c0 h (e_have_19 n)
          rw [← cp] at q
          exact q
end PWG
