/-! ===== pure: holders; an inode loses a name ===== -/
section PVY
variable {N B gr : Nat} {V : Nat → Rw} {i : Nat} {m : M5} {tk : Nat → Bool}
theorem CutH.fld {a n : Nat} {v : Int32} (C : CutH N V i) (ha : a + n ≤ 12) (hn : nr (fldV V i a n v (homeM i)) = fldV V i a n v (homeM i)) : CutH N (fldV V i a n v) i := by
  obtain ⟨c1, c2, c3, c4, c5, c6, c7⟩ := C
  have hh := homeM_lt c4
  have h45 : 45 ≤ homeM i := by
    unfold homeM
    omega
  have hpv := pv_fld (V := V) (i := i) (j := i) (a := a) (n := n) (v := v) c4 c3 c3 ha (fun x hx _ => by
    rcases c7.1 x (by omega) with q | q
    · exact Or.inl q
    · exact Or.inr q.1)
  have e43 : fldV V i a n v 43 = V 43 := fld_x (by omega)
  refine ⟨c1, c2, c3, c4, by rw [e43]; exact c5, fun c h1 h2 => ?_, fun x hx => ?_, fun x y hx hy h0 he => ?_⟩
  · by_cases e : c = homeM i
    · rw [e]
      exact hn
    · rw [fld_x e]
      exact c6 c h1 h2
  · rw [hpv x hx, e43]
    exact c7.1 x hx
  · rw [hpv x hx] at h0 he
    rw [hpv y hy] at he
    exact c7.2 x y hx hy h0 he
theorem PzE.fld {a n : Nat} {v : Int32} (C : CutH N V i) (h : PzE V i) (ha : a + n ≤ 4 ∨ (8 ≤ a ∧ a + n ≤ 12)) : PzE (fldV V i a n v) i := by
  obtain ⟨c1, c2, c3, c4, c5, c6, c7⟩ := C
  have hsz : szM (fldV V i a n v) i = szM V i := fld_f4 c3 c3 (by omega) (by decide) (by omega)
  have hpv := pv_fld (V := V) (i := i) (j := i) (a := a) (n := n) (v := v) c4 c3 c3 (by omega) (fun x hx _ => by
    rcases c7.1 x (by omega) with q | q
    · exact Or.inl q
    · exact Or.inr q.1)
  refine ⟨by rw [hsz]; exact h.1, fun q h1 h2 => ?_⟩
  rw [hsz] at h1
  rw [hpv _ (px_lt h2)]
  exact h.2 q h1 h2
/-- who holds inodes -/
def HRel (D : CfT) (R : RfT) (hd hi : Nat → Nat) : Prop := (∀ k, k < 65 → cA D 33 k = nI (hd k) ∧ rA R 52 k = nI (hd k) ∧ hd k ≤ 100) ∧ (∀ k, k < 32 → cA D 34 k = nI (hi k) ∧ rA R 53 k = nI (hi k) ∧ hi k ≤ 64) ∧ ∀ k, k < 32 → hi k ≠ 0 → cA D 35 k = rA R 54 k ∧ cA D 36 k = rA R 55 k ∧ ∃ p, p ≤ 400000 ∧ rA R 54 k = nI p
theorem HRel.fr {D D' : CfT} {R R' : RfT} {hd hi : Nat → Nat} {S T : List Nat} (h : HRel D R hd hi) (d : Dt D D') (f : Fq S T R R') (h52 : 52 ∉ T) (h53 : 53 ∉ T) (h54 : 54 ∉ T) (h55 : 55 ∉ T) : HRel D' R' hd hi := by
  unfold HRel at *
  rw [show cA D' 33 = cA D 33 from d.2 33 (by decide), show cA D' 34 = cA D 34 from d.2 34 (by decide), show cA D' 35 = cA D 35 from d.2 35 (by decide), show cA D' 36 = cA D 36 from d.2 36 (by decide), f.2.1 52 h52, f.2.1 53 h53, f.2.1 54 h54, f.2.1 55 h55]
  exact h
/-- how many hold it -/
def tmM (hd hi : Nat → Nat) (i : Nat) : Nat := hd i + rsC hi i 32
theorem ho_rs {hi : Nat → Nat} {g : Nat → Int32} {x : Nat} (hx : x < 2 ^ 31) (hg : ∀ k, k < 32 → g k = nI (hi k) ∧ hi k ≤ 64) : ∀ k, k ≤ 32 → hoM g (nI x) k = rsC hi x k
  | 0, _ => rfl
  | k + 1, h => by
    have ih := ho_rs hx hg k (by omega)
    obtain ⟨g1, g2⟩ := hg k (by omega)
    show hoM g (nI x) k + (if g k = nI x then 1 else 0) = rsC hi x k + (if hi k = x then 1 else 0)
    rw [ih, g1]
    by_cases c : hi k = x
    · rw [if_pos c, if_pos (by rw [c])]
    · rw [if_neg c, if_neg (fun z => c (nI_inj (by omega) hx z))]
theorem d_tm {W : Nat → Rw} {D : CfT} {R : RfT} {hd hi : Nat → Nat} (h : HRel D R hd hi) (hi1 : i < 65) : d_X5_times N W D (nI i) = some (nI (tmM hd hi i)) := by
  rw [d_X5_times, ld_n hi1 (by decide), (h.1 i hi1).1, bnd_o d_handlesOn, ho_rs (by omega) (fun k hk => ⟨(h.2.1 k hk).1, (h.2.1 k hk).2.2⟩) 32 (Nat.le_refl _), nI_add]
  rfl
theorem e_tm {D : CfT} {R : RfT} {hd hi : Nat → Nat} (h : HRel D R hd hi) (hi1 : i < 65) : e_isHeld R (nI i) = some (bI (decide (tmM hd hi i ≠ 0))) := by
  obtain ⟨h1, h2, h3⟩ := h.1 i hi1
  have hl := rsC_le (rs := hi) (v := i) 32
  rw [e_isHeld, ld_n hi1 (by decide), h2]
  unfold tmM
  by_cases c : hd i = 0
  · rw [c, if_neg (show ¬ (0 : Int32) < nI 0 by decide), bnd_o z_handlesOn, ho_rs (by omega) (fun k hk => ⟨(h.2.1 k hk).2.1, (h.2.1 k hk).2.2⟩) 32 (Nat.le_refl _)]
    by_cases c2 : rsC hi i 32 = 0
    · rw [c2, if_pos (show nI 0 ≤ 0 by decide), decide_eq_false (show ¬ (0 + 0 ≠ 0) by omega)]
      rfl
    · rw [if_neg (show ¬ nI (rsC hi i 32) ≤ 0 from nI_ge (a := 0) (by omega) (by omega)), decide_eq_true (show 0 + rsC hi i 32 ≠ 0 by omega)]
      rfl
  · rw [if_pos (show (0 : Int32) < nI (hd i) from Int32.not_le.mp (nI_ge (a := 0) (by omega) (by omega))), decide_eq_true (show hd i + rsC hi i 32 ≠ 0 by omega)]
    rfl
theorem JX.see {A : MS} {D : CfT} {R : RfT} (h : JX N B gr A D R m V tk) {b : Nat} (h1 : 43 ≤ b) (h2 : b < N) : rSee R true b = V b := (h.2.1.2 b h1 h2).1
theorem z_f1V {A : MS} {D : CfT} {R : RfT} (hN1 : 61 ≤ N) (h : JX N B gr A D R m V tk) {a : Nat} (h1 : 1 ≤ i) (h2 : i ≤ 64) (ha : a + 1 ≤ 32) : e_field R (nI i) (nI a) 1 = some (nI (f1 V i a)) ∧ f1 (vA A) i a = f1 V i a := by
  have hh := homeM_lt h2
  have h45 : 45 ≤ homeM i := by
    unfold homeM
    omega
  rw [z_f1 h.2.1.1.lk h1 h2 ha]
  unfold f1
  rw [h.see (by omega) (by omega), h.1.see (by omega) (by omega) (h.2.2.2.1 _ hh)]
  exact ⟨rfl, rfl⟩
theorem z_f4V {A : MS} {D : CfT} {R : RfT} (hN1 : 61 ≤ N) (h : JX N B gr A D R m V tk) {a : Nat} (h1 : 1 ≤ i) (h2 : i ≤ 64) (ha : a + 4 ≤ 32) : e_field R (nI i) (nI a) 4 = some (nI (f4 V i a)) ∧ f4 (vA A) i a = f4 V i a := by
  have hh := homeM_lt h2
  have h45 : 45 ≤ homeM i := by
    unfold homeM
    omega
  rw [z_f4 h.2.1.1.lk h1 h2 ha]
  unfold f4
  rw [h.see (by omega) (by omega), h.1.see (by omega) (by omega) (h.2.2.2.1 _ hh)]
  exact ⟨rfl, rfl⟩
theorem j_setLinks {A : MS} {D : CfT} {R : RfT} (hN1 : 61 ≤ N) (hN : N ≤ 1024) (h : JX N B gr A D R m V tk) {v : Int32} (h1 : 1 ≤ i) (h2 : i ≤ 64) : ∃ A' D' R', d_X7_setLinks N A D (nI i) v = some (A', D') ∧ e_setField R (nI i) 1 1 v = some R' ∧ JX N B gr A' D' R' m (fldV V i 1 1 v) tk ∧ gA A' = gA A ∧ Dt D D' ∧ Fn [33] [30, 31, 32, 36, 43] R R' := by
  obtain ⟨A', D', a1, a2, a3, a4⟩ := c_setLinks (v := v) hN1 hN h.1 h1 h2
  obtain ⟨R', b1, b2, b3⟩ := y_setField (a := 1) (n := 1) (v := v) hN1 hN h.2 h1 h2 (by decide) (by decide)
  exact ⟨A', D', R', a1, b1, ⟨a2, b2⟩, a3, a4, b3⟩
theorem j_setSize {A : MS} {D : CfT} {R : RfT} (hN1 : 61 ≤ N) (hN : N ≤ 1024) (h : JX N B gr A D R m V tk) {v : Int32} (h1 : 1 ≤ i) (h2 : i ≤ 64) : ∃ A' D' R', d_X7_setSize N A D (nI i) v = some (A', D') ∧ e_setField R (nI i) 4 4 v = some R' ∧ JX N B gr A' D' R' m (fldV V i 4 4 v) tk ∧ gA A' = gA A ∧ Dt D D' ∧ Fn [33] [30, 31, 32, 36, 43] R R' := by
  obtain ⟨A', D', a1, a2, a3, a4⟩ := c_setSize (v := v) hN1 hN h.1 h1 h2
  obtain ⟨R', b1, b2, b3⟩ := y_setField (a := 4) (n := 4) (v := v) hN1 hN h.2 h1 h2 (by decide) (by decide)
  exact ⟨A', D', R', a1, b1, ⟨a2, b2⟩, a3, a4, b3⟩
theorem j_setMark {A : MS} {D : CfT} {R : RfT} (hN1 : 61 ≤ N) (hN : N ≤ 1024) (h : JX N B gr A D R m V tk) {v : Int32} (h1 : 1 ≤ i) (h2 : i ≤ 64) : ∃ A' D' R', d_X7_setMark N A D (nI i) v = some (A', D') ∧ e_setField R (nI i) 8 4 v = some R' ∧ JX N B gr A' D' R' m (fldV V i 8 4 v) tk ∧ gA A' = gA A ∧ Dt D D' ∧ Fn [33] [30, 31, 32, 36, 43] R R' := by
  obtain ⟨A', D', a1, a2, a3, a4⟩ := c_setMark (v := v) hN1 hN h.1 h1 h2
  obtain ⟨R', b1, b2, b3⟩ := y_setField (a := 8) (n := 4) (v := v) hN1 hN h.2 h1 h2 (by decide) (by decide)
  exact ⟨A', D', R', a1, b1, ⟨a2, b2⟩, a3, a4, b3⟩
/-- an inode loses a name: it stays, or it goes -/
theorem j_lose {A : MS} {D : CfT} {R : RfT} {hd hi : Nat → Nat} (C : CutH N V i) (h : JX N B gr A D R m V tk) (hz : PzE V i) (hr : HRel D R hd hi) (hl : 1 ≤ f1 V i 1) : ∃ A' D' R', d_X7_loseName N A D (nI i) = some (A', D') ∧ e_lose R (nI i) = some R' ∧ gA A' = gA A ∧ Dt D D' ∧ Fn [33] [30, 31, 32, 35, 36, 43] R R' ∧ (∀ P : Nat → Prop, P 44 → OwS A P → OwR R P → OwS A' (gP P V i) ∧ OwR R' (gP P V i)) ∧ ((¬ (f1 V i 1 = 1 ∧ tmM hd hi i = 0) ∧ JX N B gr A' D' R' m (fldV V i 1 1 (nI (f1 V i 1 - 1))) tk) ∨ ((f1 V i 1 = 1 ∧ tmM hd hi i = 0) ∧ ∃ m' V' tk', JX N B gr A' D' R' m' (rmV V' i) tk' ∧ ZS N m (fldV V i 1 1 (nI (f1 V i 1 - 1))) tk (FSx (fldV V i 1 1 (nI (f1 V i 1 - 1))) i (cX 0)) (ZSx (fldV V i 1 1 (nI (f1 V i 1 - 1))) i (cX 0)) m' V' tk')) := by
  obtain ⟨c1, c2, c3, c4, c5, c6, c7⟩ := id C
  have hh := homeM_lt c4
  have hs := startM_le i
  obtain ⟨q1, q2⟩ := z_f1V (a := 1) c1 h c3 c4 (by decide)
  have q1 : e_field R (nI i) 1 1 = some (nI (f1 V i 1)) := q1
  have hlt := f1_lt V i 1
  have es : nI (f1 V i 1) - 1 = nI (f1 V i 1 - 1) := i1_sub hl
  obtain ⟨A1, D1, R1, a1, a2, a3, a4, a5, a6⟩ := j_setLinks (i := i) (v := nI (f1 V i 1 - 1)) c1 c2 h c3 c4
  have hl2 : f1 (fldV V i 1 1 (nI (f1 V i 1 - 1))) i 1 = f1 V i 1 - 1 := by
    show ub (vU V (homeM i) _ (homeM i)) (startM i + 1) = _
    rw [vU_s]
    exact ub_i1 (by omega) (by omega)
  obtain ⟨-, q3⟩ := z_f1V (a := 1) c1 a3 c3 c4 (by decide)
  have hr1 : HRel D1 R1 hd hi := hr.fr a5 a6.1 (by decide) (by decide) (by decide) (by decide)
  have fw := a6.wk (S' := [33]) (T' := [30, 31, 32, 35, 36, 43]) (by decide) (by decide)
  have gh : ∀ P : Nat → Prop, gP P V i (homeM i) := fun P => Or.inr (Or.inr ⟨0, by decide, rfl, homeM_ne i⟩)
  have fr1 : ∀ P : Nat → Prop, OwS A P → OwR R P → OwS A1 (gP P V i) ∧ OwR R1 (gP P V i) := fun P p2 p3 => ⟨ow_links c3 c4 a1 (p2.wk (fun b hb => Or.inl hb)) (gh P), ww_field (a := 1) (n := 1) c1 c2 h.2.1 c3 c4 (by decide) (by decide) a2 (p3.wk (fun b hb => Or.inl hb)) (gh P)⟩
  rw [d_X7_loseName, bnd_o (d_links c3 c4 c1 c2), q2, es, bnd2_o a1, bnd_o (d_links c3 c4 c1 c2), q3, hl2, e_lose, bnd_o q1, es, bnd_o a2]
  by_cases cl : f1 V i 1 = 1
  · rw [if_pos (show nI (f1 V i 1 - 1) = 0 by rw [cl]; rfl), if_pos (show nI (f1 V i 1 - 1) = 0 by rw [cl]; rfl), bnd_o (d_tm hr1 (by omega)), bnd_o (e_tm hr1 (by omega))]
    have hlt2 : tmM hd hi i < 200 := by
      have := (hr.1 i (by omega)).2.2
      have := rsC_le (rs := hi) (v := i) 32
      unfold tmM
      omega
    by_cases ct : tmM hd hi i = 0
    · rw [if_pos (by rw [ct]; rfl), if_pos (by rw [decide_eq_false (fun z => z ct)]; rfl)]
      obtain ⟨A2, D2, R2, m', V', tk', g1, g2, g3, g4, g5, g6, g7, g8⟩ := j_goes (C.fld (by decide) (a3.nr _ (by unfold homeM; omega) (by omega))) a3 (hz.fld C (Or.inl (by decide)))
      rw [bnd2_o g1, bnd_o g2]
      have eph : ∀ x, x < 4234 → ph (fldV V i 1 1 (nI (f1 V i 1 - 1))) i x = ph V i x := fun x hx => by
        have epv : ∀ y, y < 4234 → pv (fldV V i 1 1 (nI (f1 V i 1 - 1))) i y = pv V i y := pv_fld c4 c3 c3 (by decide) (fun y hy _ => (c7.1 y (by omega)).imp id (fun z => z.1))
        by_cases cx : x < 10
        · rw [ph_0 cx, ph_0 cx]
        · rw [ph_hx (by omega) hx, ph_hx (by omega) hx, epv _ (by have := hx_lt hx; omega)]
      have frg : ∀ P : Nat → Prop, P 44 → OwS A P → OwR R P → OwS A2 (gP P V i) ∧ OwR R2 (gP P V i) := fun P p1 p2 p3 => by
        obtain ⟨w1, w2⟩ := fr1 P p2 p3
        obtain ⟨v1, v2⟩ := g8 (gP P V i) (Or.inl p1) w1 w2
        have sub : ∀ b, gP (gP P V i) (fldV V i 1 1 (nI (f1 V i 1 - 1))) i b → gP P V i b := fun b hb => by
          rcases hb with q | q | ⟨x, x1, x2, x3⟩
          · exact q
          · exact Or.inr (Or.inl q)
          · exact Or.inr (Or.inr ⟨x, x1, by rw [← eph x x1]; exact x2, x3⟩)
        exact ⟨v1.wk sub, v2.wk sub⟩
      exact ⟨A2, D2, R2, rfl, rfl, g5.trans a4, a5.tr g6, fw.tr g7, frg, Or.inr ⟨⟨cl, ct⟩, m', V', tk', g3, g4⟩⟩
    · rw [if_neg (nI_ne0 (by omega) (by omega)), if_neg (by rw [decide_eq_true ct]; decide)]
      exact ⟨A1, D1, R1, rfl, rfl, a4, a5, fw, fun P _ p2 p3 => fr1 P p2 p3, Or.inl ⟨fun z => ct z.2, a3⟩⟩
  · rw [if_neg (nI_ne0 (by omega) (by omega)), if_neg (nI_ne0 (by omega) (by omega))]
    exact ⟨A1, D1, R1, rfl, rfl, a4, a5, fw, fun P _ p2 p3 => fr1 P p2 p3, Or.inl ⟨fun z => cl z.1, a3⟩⟩
end PVY
