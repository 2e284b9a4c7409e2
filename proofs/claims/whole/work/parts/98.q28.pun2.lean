/-! ===== pure: both make holes alike ===== -/
section PZB
variable {N B gr r u : Nat} {V V' W : Nat → Rw} {m m' : M5} {tk tk' : Nat → Bool} {A A' : MS} {D D' D2 : CfT} {R R' : RfT} {i p k a e t s : Nat} {X S : Nat → Prop} {ow : Nat → Int} {s0 : S3} {l : List Nat}
theorem c_cutP (C : CutH N V i) (h : CX N A D m V tk) (hO : OwS A (GH V i)) (h1 : Byt (V 43)) (hz : PzE V i) (ha : a < 2 ^ 30) (ht : t < 2 ^ 30) (he : e = min (bfM (szM V i)) t) : ∃ A' D' m' V' tk', d_X7_cutBlocks N A D (nI i) (nI a) (nI t) 4168 = some (nI (ncM V i a e), A', D') ∧ (CX N A' D' m' V' tk' ∧ OwS A' (GH V i)) ∧ ZS N m V tk (FSx V i (pX a e)) (ZSx V i (pX a e)) m' V' tk' ∧ gA A' = gA A ∧ Dt D D' := by
  obtain ⟨c1, c2, c3, c4, c5, c6, c7⟩ := id C
  have hh := homeM_lt c4
  have hsz : f4 (vA A) i 4 = szM V i := by
    unfold szM f4
    rw [h.see (show 43 ≤ homeM i by unfold homeM; omega) (by omega) (c5.1 _ hh)]
  have hs := hz.1
  have hb4 : bfM (szM V i) ≤ 4168 := by
    unfold bfM
    omega
  have he4 : e ≤ 4168 := by omega
  have hcz : CZ N A D m V tk i (pX a e) (fun _ => False) := h.cz hO h1 (c6 43 (Nat.le_refl _) (by omega))
  obtain ⟨A1, D1, r1, r2, r3, r4⟩ := c_cutB_l (a := a) (e := e) (kp := 4168) C he4 (by decide) (fun q h1 h2 => ⟨q, h1, h2, rfl⟩) (fun q q1 q2 q3 q4 => by
    unfold tsM at q3
    have q3 := of_decide_eq_false q3
    omega) fuL a A D (fun _ => False) (Nat.le_refl _) (by rw [fuL_4]; omega) ha hcz (fun _ _ z => z) (fun _ _ _ z => z)
  have r2 : CZ N A1 D1 m V tk i (pX a e) (pX a e) := r2.eq (fun x _ _ => ⟨fun z => z.elim (fun z => z.elim) id, Or.inr⟩) (fun x z => z)
  obtain ⟨m', V', tk', t2, t3⟩ := r2
  refine ⟨A1, D1, m', V', tk', ?_, t2, t3.end, r3, r4⟩
  rw [ncM_0 _ (by omega)] at r1
  rw [d_X7_cutBlocks, bnd_o (d_size c3 c4 c1 c2), hsz, bnd_o (d_bF (by omega)), nm_o]
  have hmin : (if nI (bfM (szM V i)) < nI t then nI (bfM (szM V i)) else nI t) = nI e := by
    by_cases c : bfM (szM V i) < t
    · rw [if_pos (nI_lt c (by omega)), show e = bfM (szM V i) by omega]
    · rw [if_neg (nI_nlt (by omega) (by omega)), show e = t by omega]
  rw [hmin]
  exact r1
theorem j_cutP {P : Nat → Prop} {at1 en : Nat} (C : CutH N V i) (hw : PW N V) (h : JX N B gr A D R m V tk) (hz : PzE V i) (hat : at1 ≤ en) (hen : en ≤ 400000) (ha : a = bfM at1) (he : e = min (bfM (szM V i)) (en / 128)) (o1 : OwS A P) (o2 : OwR R P) : ∃ A' D' R' m' V' tk', d_X7_cutBlocks N A D (nI i) (nI a) (nI (en / 128)) 4168 = some (nI (ncM V i a e), A', D') ∧ e_punch_110 fuL R (nI i) (nI at1) 0 (nI (szM V i)) (nI en) (nI (at1 / 128)) = e_punch_216 fuL R' (nI i) (nI at1) (nI (ncM V i a e)) (nI (min (szM V i) en)) (nI (at1 / 128)) ∧ JX N B gr A' D' R' m' V' tk' ∧ ZS N m V tk (FSx V i (pX a e)) (ZSx V i (pX a e)) m' V' tk' ∧ gA A' = gA A ∧ Dt D D' ∧ Fn [33] [30, 31, 32, 35, 36, 43] R R' ∧ OwS A' (gP P V i) ∧ OwR R' (gP P V i) := by
  have c1 := C.1
  have esz : ∀ y : Rw, szM (vU V 0 y) i = szM V i := fun y => by
    unfold szM f4
    rw [vU_n (homeM_ne i)]
  have ag : ∀ y : Rw, ∀ c, 43 ≤ c → c < N → V c = vU V 0 y c := fun y c h1 _ => (vU_n (by omega)).symm
  have w1 : OwS A (GH (vU V 0 (gI P)) i) := o1.wk (fun b hb => GH_g.mpr (Or.inl hb))
  have w2 : OwR R (GH (vU V 0 (gI P)) i) := o2.wk (fun b hb => GH_g.mpr (Or.inl hb))
  have h43 : vU V 0 (gI P) 43 = V 43 := vU_n (by decide)
  have hpw : PW N (vU V 0 (gI P)) := hw.cg (fun j x _ _ => pv_g) h43
  have enc : ∀ z, ncM (vU V 0 (gI P)) i a z = ncM V i a z := fun z => by
    induction z with
    | zero => rfl
    | succ z ih =>
      show ncM (vU V 0 (gI P)) i a z + (if a ≤ z ∧ pv (vU V 0 (gI P)) i (px z) ≠ 0 then 1 else 0) = ncM V i a z + (if a ≤ z ∧ pv V i (px z) ≠ 0 then 1 else 0)
      rw [ih, pv_g]
  have hs := hz.1
  obtain ⟨A', D', m', V', tk', a1, ⟨a3, a3w⟩, a4, a5, a6⟩ := c_cutP (a := a) (e := e) (t := en / 128) (CutH_g C) (h.1.ag c1 (ag (gI P))) w1 (by rw [h43]; exact h.byt 43 (Nat.le_refl _) (by omega)) (PzE_g hz) (by unfold bfM at ha; omega) (by omega) (by rw [esz]; exact he)
  have yz : YZ N B gr R m (vU V 0 (gI P)) tk i (pX a e) (pX a (min (at1 / 128) e)) := ⟨m, vU V 0 (gI P), tk, ⟨h.2.ag c1 (ag (gI P)), w2⟩, by
    have q := ZI.nil (N := N) (m := m) (V := vU V 0 (gI P)) (tk := tk) (i := i) (X := pX a e) (by rw [h43]; exact h.byt 43 (Nat.le_refl _) (by omega)) (by rw [h43]; exact h.nr 43 (Nat.le_refl _) (by omega))
    have : pX a (min (at1 / 128) e) = fun _ => False := by
      funext x
      refine propext ⟨fun ⟨q, q1, q2, q3⟩ => ?_, fun z => z.elim⟩
      unfold bfM at ha
      omega
    rw [this]
    exact q⟩
  obtain ⟨R', b1, b2, b4⟩ := z_p110 (a := a) (e := e) (at1 := at1) (en := en) (sz := szM V i) (CutH_g C) hpw hat hen hs ha he fuL (at1 / 128) R (Nat.le_refl _) (by omega) (by rw [fuL_4]; omega) yz
  obtain ⟨m2, V2, tk2, ⟨b2, b2w⟩, b3⟩ := b2
  have b3 := b3.end
  rw [FSx_g, ZSx_g] at a4 b3
  have a4 := ZS_g a4
  have b3 := ZS_g b3
  obtain ⟨u1, u2, u3⟩ := b3.uq a4 (fun _ => Iff.rfl) (fun _ _ _ _ _ _ => Iff.rfl) (fun c q1 q2 => C.2.2.2.2.2.1 c (by omega) q2)
  subst u1
  subst u2
  rw [enc] at a1
  rw [enc, enc, ncM_0 _ (by unfold bfM at ha; omega)] at b1
  exact ⟨A', D', R', m2, V', tk2, a1, b1, ⟨a3, b2.ag c1 u3⟩, a4, a5, a6, b4, a3w.wk (fun b hb => GH_g.mp hb), b2w.wk (fun b hb => GH_g.mp hb)⟩
/-! ### how many tables tell of them -/
/-- the first place of its table that tells of a block -/
def fsQ (V : Nat → Rw) (i s q : Nat) : Prop := s ≤ q ∧ pv V i (px q) ≠ 0 ∧ ∀ x, s ≤ x → x < q → (x - 8) / 64 = (q - 8) / 64 → pv V i (px x) = 0
noncomputable def tpL (V : Nat → Rw) (i s : Nat) : Nat → List Nat
  | 0 => []
  | e + 1 => @ite _ (fsQ V i s e) (Classical.propDecidable _) (ph V i (px e) :: tpL V i s e) (tpL V i s e)
noncomputable def tpN (V : Nat → Rw) (i s e : Nat) : Nat := (tpL V i s e).length
theorem tpL_s (h : fsQ V i s e) : tpL V i s (e + 1) = ph V i (px e) :: tpL V i s e := if_pos h
theorem tpL_n (h : ¬ fsQ V i s e) : tpL V i s (e + 1) = tpL V i s e := if_neg h
theorem tpN_s (h : fsQ V i s e) : tpN V i s (e + 1) = tpN V i s e + 1 := by
  unfold tpN
  rw [tpL_s h]
  rfl
theorem tpN_n (h : ¬ fsQ V i s e) : tpN V i s (e + 1) = tpN V i s e := by
  unfold tpN
  rw [tpL_n h]
theorem tpN_0 : ∀ e, e ≤ s → tpN V i s e = 0 := fun e => by
  induction e with
  | zero => intro _; rfl
  | succ e ih =>
    intro h
    rw [tpN_n (fun z => by have := z.1; omega), ih (by omega)]
theorem tpN_skip : ∀ e, p ≤ e → (∀ x, p ≤ x → x < e → ¬ fsQ V i s x) → tpN V i s e = tpN V i s p := fun e => by
  induction e with
  | zero => intro h _; rw [show p = 0 by omega]
  | succ e ih =>
    intro h h2
    by_cases c : p = e + 1
    · rw [c]
    · rw [tpN_n (h2 e (by omega) (by omega)), ih (by omega) (fun x q1 q2 => h2 x q1 (by omega))]
theorem tpN_le : ∀ e, tpN V i s e ≤ e := fun e => by
  induction e with
  | zero => exact Nat.le_refl _
  | succ e ih =>
    by_cases c : fsQ V i s e
    · rw [tpN_s c]; omega
    · rw [tpN_n c]; omega
theorem ph_grp {q q' : Nat} (h1 : 8 ≤ q) (h2 : 8 ≤ q') (h3 : q < 4168) (h4 : q' < 4168) (h : (q - 8) / 64 = (q' - 8) / 64) : ph V i (px q) = ph V i (px q') := by
  by_cases c : q < 72
  · have c' : q' < 72 := by omega
    unfold px
    rw [if_neg (by omega), if_pos c, if_neg (by omega), if_pos c', ph_1 (by omega) (by omega), ph_1 (by omega) (by omega)]
  · have c' : ¬ q' < 72 := by omega
    unfold px
    rw [if_neg (by omega), if_neg c, if_neg (by omega), if_neg c', ph_3 (by omega) (by omega), ph_3 (by omega) (by omega), show (q + 66 - 138) / 64 = (q' + 66 - 138) / 64 by omega]
theorem tpL_m (hs : 8 ≤ s) : ∀ e, e ≤ 4168 → ∀ q, s ≤ q → q < e → pv V i (px q) ≠ 0 → ph V i (px q) ∈ tpL V i s e := fun e => by
  induction e with
  | zero => intro _ q _ h; exact absurd h (Nat.not_lt_zero _)
  | succ e ih =>
    intro he q h1 h2 h3
    by_cases c : fsQ V i s e
    · rw [tpL_s c]
      by_cases cq : q = e
      · rw [cq]
        exact List.mem_cons_self
      · exact List.mem_cons_of_mem _ (ih (by omega) q h1 (by omega) h3)
    · rw [tpL_n c]
      by_cases cq : q = e
      · subst cq
        refine Classical.byContradiction (fun z => c ⟨h1, h3, fun x x1 x2 x3 => Classical.byContradiction (fun x4 => z ?_)⟩)
        rw [← ph_grp (by omega) (by omega) (by omega) (by omega) x3]
        exact ih (by omega) x x1 x2 x4
      · exact ih (by omega) q h1 (by omega) h3
theorem lb_g (h : 8 ≤ p) : lbM p = 8 + 64 * ((p - 8) / 64) + 63 := by
  unfold lbM
  split <;> omega
theorem c_tell (C : CutH N V i) (he : e ≤ 4168) (hs : 8 ≤ s) (hz : CZ N A D m V tk i X (fun _ => False)) : ∀ (n p : Nat), s ≤ p → e - p < n → p < 2 ^ 30 → (∀ x, s ≤ x → x < p → (x - 8) / 64 = (p - 8) / 64 → pv V i (px x) = 0) → d_X7_tablesTelling_25 N (vA A) D n (nI i) (nI (tpN V i s (min p e))) (nI e) (nI p) = some (nI (tpN V i s e)) := by
  obtain ⟨c1, c2, c3, c4, c5, c6, c7⟩ := id C
  intro n
  induction n with
  | zero => intro p _ h; exact absurd h (Nat.not_lt_zero _)
  | succ n ih =>
    intro p hp hn hp30 hpr
    rw [d_X7_tablesTelling_25]
    by_cases c : e ≤ p
    · rw [if_pos (nI_le c (by omega)), Nat.min_eq_right c]
    have hp4 : p < 4168 := by omega
    rw [if_neg (nI_ge (by omega) (by omega)), bnd_o (hz.reach C (fun _ _ z => z) hp4), Nat.min_eq_left (by omega)]
    have lb := lb_g (show 8 ≤ p by omega)
    have jump : ∀ w, (∀ x, p ≤ x → x < min (lbM p + 1) e → fsQ V i s x → x = p ∧ w = 1) → (w = 1 → fsQ V i s p) → (w = 0 ∨ w = 1) → d_X7_tablesTelling_83 N (vA A) D (d_X7_tablesTelling_25 N (vA A) D n) (nI i) (nI (tpN V i s p) + nI w) (nI e) (nI p) = some (nI (tpN V i s e)) := fun w j1 j2 j3 => by
      rw [d_X7_tablesTelling_83, bnd_o (d_lB (by omega)), nI_1, nI_add]
      have q := ih (lbM p + 1) (by omega) (by omega) (by omega) (fun x x1 x2 x3 => by omega)
      rw [← q]
      congr 2
      rcases j3 with rfl | rfl
      · rw [tpN_skip (p := p) (min (lbM p + 1) e) (by omega) (fun x x1 x2 x3 => by have := (j1 x x1 x2 x3).2; omega)]
        rfl
      · rw [tpN_skip (p := p + 1) (min (lbM p + 1) e) (by omega) (fun x x1 x2 x3 => by have := (j1 x (by omega) x2 x3).1; omega), tpN_s (j2 rfl)]
    by_cases c0 : ph V i (px p) = 0
    · rw [if_pos (by rw [c0]; rfl), if_pos (by rw [c0]; rfl)]
      refine jump 0 (fun x x1 x2 x3 => absurd (lb_0 hp4 c0 x1 (by omega)).2 x3.2.1) (fun z => by omega) (Or.inl rfl)
    · have hpo := po_lt (i := i) (px_lt hp4)
      obtain ⟨t1, t2, t3⟩ := hz.at C (px_lt hp4) (fun z => z) (fun _ z => z) c0
      have z0 : ¬ nI (ph V i (px p)) = 0 := nI_ne0 (by omega) (by omega)
      rw [if_neg z0, see_n t3 c2, bnd_o (d_sp c3 c4 hp4), bnd_o (d_two (by omega) (by decide)), t1]
      by_cases cv : pv V i (px p) = 0
      · have nf : ¬ fsQ V i s p := fun z => z.2.1 cv
        rw [if_pos (by rw [cv]; rfl), nI_1, ← tpN_n nf]
        have q := ih (p + 1) (by omega) (by omega) (by omega) (fun x x1 x2 x3 => by
          by_cases cx : x = p
          · rw [cx]; exact cv
          · exact hpr x x1 (by omega) (by omega))
        rw [Nat.min_eq_left (show p + 1 ≤ e by omega)] at q
        exact q
      · have hpv := ((c7.1 _ (px_lt hp4)).resolve_left cv).2.1
        have f : fsQ V i s p := ⟨hp, cv, hpr⟩
        rw [if_neg (nI_ne0 (by omega) (by omega)), if_neg z0]
        refine jump 1 (fun x x1 x2 x3 => ⟨Classical.byContradiction (fun z => cv (x3.2.2 p hp (by omega) (by omega))), rfl⟩) (fun _ => f) (Or.inr rfl)
theorem c_tellT (C : CutH N V i) (h : CX N A D m V tk) (hb : Byt (V 43)) (hz : PzE V i) (ha : a < 2 ^ 30) (ht : t < 2 ^ 30) (he : e = min (bfM (szM V i)) t) : d_X7_tablesTelling N (vA A) D (nI i) (nI a) (nI t) = some (nI (tpN V i (max a 8) e)) := by
  obtain ⟨c1, c2, c3, c4, c5, c6, c7⟩ := id C
  have hh := homeM_lt c4
  have hsz : f4 (vA A) i 4 = szM V i := by
    unfold szM f4
    rw [h.see (show 43 ≤ homeM i by unfold homeM; omega) (by omega) (c5.1 _ hh)]
  have hs := hz.1
  have hb4 : bfM (szM V i) ≤ 4168 := by
    unfold bfM
    omega
  have ag : ∀ y : Rw, ∀ c, 43 ≤ c → c < N → V c = vU V 0 y c := fun y c h1 _ => (vU_n (by omega)).symm
  have h43 : ∀ y, vU V 0 y 43 = V 43 := fun y => vU_n (by decide)
  have hcz : CZ N A D m (vU V 0 (gI (fun _ => True))) tk i (fun _ => True) (fun _ => False) := (h.ag c1 (ag _)).cz (fun b _ => GH_g.mpr (Or.inl trivial)) (by rw [h43]; exact hb) (by rw [h43]; exact c6 43 (Nat.le_refl _) (by omega))
  have q := c_tell (e := e) (s := max a 8) (CutH_g C) (by omega) (by omega) hcz fuL (max a 8) (Nat.le_refl _) (by rw [fuL_4]; omega) (by omega) (fun x x1 x2 => by omega)
  rw [d_X7_tablesTelling, bnd_o (d_size c3 c4 c1 c2), hsz, bnd_o (d_bF (by omega)), nm_o, nm_o]
  have hmin : (if nI (bfM (szM V i)) < nI t then nI (bfM (szM V i)) else nI t) = nI e := by
    by_cases c : bfM (szM V i) < t
    · rw [if_pos (nI_lt c (by omega)), show e = bfM (szM V i) by omega]
    · rw [if_neg (nI_nlt (by omega) (by omega)), show e = t by omega]
  have hmax : (if nI a < (8 : Int32) then (8 : Int32) else nI a) = nI (max a 8) := by
    by_cases c : a < 8
    · rw [if_pos (show nI a < (8 : Int32) from nI_lt (b := 8) c (by decide)), show max a 8 = 8 by omega]
      rfl
    · rw [if_neg (show ¬ nI a < (8 : Int32) from nI_nlt (b := 8) (by omega) (by omega)), show max a 8 = a by omega]
  rw [hmin, hmax]
  have fe : ∀ q, fsQ (vU V 0 (gI (fun _ => True))) i (max a 8) q ↔ fsQ V i (max a 8) q := fun q => by
    unfold fsQ
    simp only [pv_g]
  have te : ∀ z, tpN (vU V 0 (gI (fun _ => True))) i (max a 8) z = tpN V i (max a 8) z := fun z => by
    induction z with
    | zero => rfl
    | succ z ih =>
      by_cases f : fsQ V i (max a 8) z
      · rw [tpN_s f, tpN_s ((fe z).mpr f), ih]
      · rw [tpN_n f, tpN_n (fun w => f ((fe z).mp w)), ih]
  rw [te, te, tpN_0 _ (by omega), nI_0] at q
  exact q
/-- the table that was counted last -/
def lsT (V : Nat → Rw) (i s p : Nat) (w : Int32) : Prop := (w = -1 ∧ ∀ x, s ≤ x → x < p → pv V i (px x) = 0) ∨ ∃ x, s ≤ x ∧ x < p ∧ pv V i (px x) ≠ 0 ∧ w = nI ((x - 8) / 64) ∧ ∀ y, x < y → y < p → pv V i (px y) ≠ 0 → (y - 8) / 64 = (x - 8) / 64
theorem lsT_i {w : Int32} (hs : 8 ≤ s) (hp : s ≤ p) (hp4 : p < 5000) (h : lsT V i s p w) : (nI ((p - 8) / 64) = w) ↔ ∃ x, s ≤ x ∧ x < p ∧ (x - 8) / 64 = (p - 8) / 64 ∧ pv V i (px x) ≠ 0 := by
  rcases h with ⟨rfl, h⟩ | ⟨x, x1, x2, x3, rfl, x5⟩
  · exact ⟨fun z => absurd z (nI_m1 (by omega)), fun ⟨x, x1, x2, x3, x4⟩ => absurd (h x x1 x2) x4⟩
  · constructor
    · intro z
      exact ⟨x, x1, x2, (nI_inj (by omega) (by omega) z).symm, x3⟩
    · rintro ⟨y, y1, y2, y3, y4⟩
      by_cases c : x < y
      · rw [← x5 y c y2 y4, y3]
      · rw [show (x - 8) / 64 = (p - 8) / 64 by omega]
theorem z_tell {at1 en sz : Nat} (hN1 : 61 ≤ N) (hN : N ≤ 1024) (hy : RY N B gr R m V tk) (hw : PW N V) (hi : ir i) (hat : at1 ≤ en) (hen : en ≤ 400000) (hsz : sz ≤ 400000) (ha : a = bfM at1) (he : e = min (bfM sz) (en / 128)) (hs : s = max a 8) : ∀ (n p : Nat) (w : Int32), at1 / 128 ≤ p → p < 3200 → 3200 - p < n → lsT V i s (min p e) w → e_tablesPunched_13 R n (nI i) (nI at1) (nI (min sz en)) (nI en) (nI (tpN V i s (min p e))) w (nI p) = some (nI (tpN V i s e)) := by
  intro n
  induction n with
  | zero => intro p w _ _ h; exact absurd h (Nat.not_lt_zero _)
  | succ n ih =>
    intro p w hp0 hp hn hl
    have e128 : (128 : Int32) * nI p = nI (128 * p) := by rw [show (128 : Int32) = nI 128 from rfl, pk_mul]
    rw [e_tablesPunched_13, e128]
    by_cases c1 : min sz en ≤ 128 * p
    · have hpe : min p e = e := by
        unfold bfM at he
        omega
      rw [if_pos (nI_le c1 (by omega)), hpe]
    rw [if_neg (nI_ge (by omega) (by omega))]
    have hp4 : p < 4168 := by omega
    have hpb : p < bfM sz := by
      unfold bfM
      omega
    have skip : min (p + 1) e = min p e → e_tablesPunched_13 R n (nI i) (nI at1) (nI (min sz en)) (nI en) (nI (tpN V i s (min p e))) w (nI p + 1) = some (nI (tpN V i s e)) := fun h1 => by
      have q := ih (p + 1) w (by omega) (by omega) (by omega) (by rw [h1]; exact hl)
      rw [h1] at q
      rw [nI_1]
      exact q
    have low : p < s → e_tablesPunched_13 R n (nI i) (nI at1) (nI (min sz en)) (nI en) (nI (tpN V i s (min p e))) w (nI p + 1) = some (nI (tpN V i s e)) := fun h1 => by
      have t1 : tpN V i s (min p e) = tpN V i s (min (p + 1) e) := by rw [tpN_0 _ (by omega), tpN_0 _ (by omega)]
      rw [nI_1, t1]
      refine ih (p + 1) w (by omega) (by omega) (by omega) ?_
      rcases hl with ⟨l1, l2⟩ | ⟨x, x1, x2, -⟩
      · exact Or.inl ⟨l1, fun x x1 x2 => by omega⟩
      · omega
    have main : 8 ≤ p → ∀ g, g = nI ((p - 8) / 64) → e_tablesPunched_57 R (e_tablesPunched_13 R n) (nI i) (nI at1) (nI (min sz en)) (nI en) (nI (tpN V i s (min p e))) w (nI p) g = some (nI (tpN V i s e)) := fun h8 g hg => by
      rw [e_tablesPunched_57, e128, hg, show (128 : Int32) = nI 128 from rfl, nI_add]
      by_cases ls : p < s
      · have h128 : 128 * p < at1 := by
          unfold bfM at ha
          omega
        by_cases cw : nI ((p - 8) / 64) = w
        · rw [if_pos cw]
          exact low ls
        · rw [if_neg cw, if_neg (show ¬ nI ((p - 8) / 64) = -1 from nI_m1 (by omega)), if_pos (nI_lt h128 (by omega))]
          exact low ls
      · by_cases ge : e ≤ p
        · have h128 : en < 128 * p + 128 := by omega
          have sk := skip (by omega)
          by_cases cw : nI ((p - 8) / 64) = w
          · rw [if_pos cw]
            exact sk
          · rw [if_neg cw, if_neg (show ¬ nI ((p - 8) / 64) = -1 from nI_m1 (by omega))]
            by_cases c2 : 128 * p < at1
            · rw [if_pos (nI_lt c2 (by omega))]
              exact sk
            · rw [if_neg (nI_nlt (by omega) (by omega)), if_pos (nI_lt h128 (by omega))]
              exact sk
        · have m0 : min p e = p := by omega
          have m1 : min (p + 1) e = p + 1 := by omega
          rw [m0] at hl ⊢
          have li := lsT_i (by omega) (by omega) (by omega) hl
          have h128 : ¬ 128 * p < at1 := by
            unfold bfM at ha
            omega
          have hen2 : 128 * p + 128 ≤ en := by omega
          have nx := fun w' (hl' : lsT V i s (p + 1) w') => ih (p + 1) w' (by omega) (by omega) (by omega) (by rw [m1]; exact hl')
          rw [m1] at nx
          by_cases cw : nI ((p - 8) / 64) = w
          · obtain ⟨x, x1, x2, x3, x4⟩ := li.mp cw
            rw [if_pos cw, nI_1, ← tpN_n (fun f => x4 (f.2.2 x x1 x2 x3))]
            refine nx w ?_
            rcases hl with ⟨l1, l2⟩ | ⟨z, z1, z2, z3, z4, z5⟩
            · exact absurd (l2 x x1 x2) x4
            · refine Or.inr ⟨z, z1, by omega, z3, z4, fun y y1 y2 y3 => ?_⟩
              by_cases cy : y = p
              · rw [cy]
                exact nI_inj (by omega) (by omega) (cw.trans z4)
              · exact z5 y y1 (by omega) y3
          · rw [if_neg cw, if_neg (show ¬ nI ((p - 8) / 64) = -1 from nI_m1 (by omega)), if_neg (nI_nlt (by omega) (by omega)), if_neg (nI_nlt hen2 (by omega)), bnd_o (z_blk hN1 hN hy (hw.pto hi) hi.1 hi.2 hp4)]
            by_cases cv : pv V i (px p) = 0
            · rw [cv, nI_0, i00, nI_1, ← tpN_n (fun f => f.2.1 cv)]
              refine nx w ?_
              rcases hl with ⟨l1, l2⟩ | ⟨z, z1, z2, z3, z4, z5⟩
              · refine Or.inl ⟨l1, fun x x1 x2 => ?_⟩
                by_cases cx : x = p
                · rw [cx]; exact cv
                · exact l2 x x1 (by omega)
              · refine Or.inr ⟨z, z1, by omega, z3, z4, fun y y1 y2 y3 => ?_⟩
                by_cases cy : y = p
                · rw [cy] at y3; exact absurd cv y3
                · exact z5 y y1 (by omega) y3
            · have hpv := ((hw.pto hi _ (px_lt hp4)).resolve_left cv).2.1
              have f : fsQ V i s p := ⟨by omega, cv, fun x x1 x2 x3 => Classical.byContradiction (fun x4 => cw (li.mpr ⟨x, x1, x2, x3, x4⟩))⟩
              rw [if_neg (show ¬ nI (pv V i (px p)) = 0 from nI_ne0 (by omega) (by omega)), nI_1, nI_1, ← tpN_s f]
              exact nx _ (Or.inr ⟨p, by omega, by omega, cv, rfl, fun y y1 y2 => by omega⟩)
    by_cases c8 : p < 8
    · rw [if_neg (show ¬ (8 : Int32) ≤ nI p from nI_ge (b := 8) (by omega) (by decide)), e_tablesPunched_57]
      have lw := low (by omega)
      by_cases cw : (-1 : Int32) = w
      · rw [if_pos cw]
        exact lw
      · rw [if_neg cw, if_pos rfl]
        exact lw
    · rw [if_pos (show (8 : Int32) ≤ nI p from nI_le (a := 8) (by omega) (by omega))]
      by_cases c72 : p < 72
      · rw [if_neg (show ¬ (72 : Int32) ≤ nI p from nI_ge (b := 72) (by omega) (by decide))]
        exact main (by omega) 0 (by rw [show (p - 8) / 64 = 0 by omega]; rfl)
      · rw [if_pos (show (72 : Int32) ≤ nI p from nI_le (a := 72) (by omega) (by omega)), nm_o]
        refine main (by omega) _ ?_
        rw [show (72 : Int32) = nI 72 from rfl, pk_sub (by omega), show (64 : Int32) = nI 64 from rfl, pk_div (by omega) (by decide) (by decide), show (1 : Int32) = nI 1 from rfl, nI_add]
        congr 1
        omega
end PZB
