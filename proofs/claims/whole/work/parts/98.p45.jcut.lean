/-! ===== pure: both cut an inode alike ===== -/
section PVV
variable {N B gr : Nat} {V : Nat → Rw} {i : Nat} {m : M5} {tk : Nat → Bool}
/-- places behind the end are holes -/
def PzE (V : Nat → Rw) (i : Nat) : Prop := szM V i ≤ 400000 ∧ ∀ q, bfM (szM V i) ≤ q → q < 4168 → pv V i (px q) = 0
theorem px_of {x : Nat} (hx4 : x < 4234) (h : ¬ tbx x) : ∃ q, q < 4168 ∧ x = px q ∧ ∀ k, cX k x ↔ k ≤ q := by
  unfold tbx at h
  by_cases a : x < 8
  · refine ⟨x, by omega, ?_, fun k => cX_0 a⟩
    unfold px
    rw [if_pos a]
  · by_cases b : x < 74
    · refine ⟨x - 2, by omega, ?_, fun k => cX_1 (by omega) b⟩
      unfold px
      rw [if_neg (by omega), if_pos (by omega)]
      omega
    · refine ⟨x - 66, by omega, ?_, fun k => cX_3 (by omega)⟩
      unfold px
      rw [if_neg (by omega), if_neg (by omega)]
      omega
theorem cX_px {k q : Nat} (hq : q < 4168) : cX k (px q) ↔ k ≤ q := by
  obtain ⟨q', h1, h2, h3⟩ := px_of (px_lt hq) px_tb
  rw [h3, px_inj h2]
theorem CX.cz {A : MS} {D : CfT} {X : Nat → Prop} (h : CX N A D m V tk) (hO : OwS A (GH V i)) (h1 : Byt (V 43)) (h2 : nr (V 43) = V 43) : CZ N A D m V tk i X (fun _ => False) := ⟨m, V, tk, ⟨h, hO⟩, ZI.nil h1 h2⟩
theorem c_cut {A : MS} {D : CfT} {k e0 : Nat} (C : CutH N V i) (h : CX N A D m V tk) (hO : OwS A (GH V i)) (h1 : Byt (V 43)) (hz : PzE V i) (hk : k < 2 ^ 30) (he : bfM (szM V i) ≤ e0) (he2 : e0 < 2 ^ 30) : ∃ A1 D1 n A' D' m' V' tk', d_X7_cutBlocks N A D (nI i) (nI k) (nI e0) (nI k) = some (nI n, A1, D1) ∧ d_X7_cutTables N A1 D1 (nI i) (nI k) = some (A', D') ∧ (CX N A' D' m' V' tk' ∧ OwS A' (GH V i)) ∧ ZS N m V tk (FSx V i (cX k)) (ZSx V i (cX k)) m' V' tk' ∧ gA A' = gA A ∧ Dt D D' := by
  obtain ⟨c1, c2, c3, c4, c5, c6, c7⟩ := id C
  have hh := homeM_lt c4
  have hsz : f4 (vA A) i 4 = szM V i := by
    unfold szM f4
    rw [h.see (show 43 ≤ homeM i by unfold homeM; omega) (by omega) (c5.1 _ hh)]
  have hs := hz.1
  have hb4 : bfM (szM V i) ≤ 4168 := by
    unfold bfM
    omega
  have hcz : CZ N A D m V tk i (cX k) (fun _ => False) := h.cz hO h1 (c6 43 (Nat.le_refl _) (by omega))
  obtain ⟨A1, D1, r1, r2, r3, r4⟩ := c_cutB_l (a := k) (e := bfM (szM V i)) (kp := k) C hb4 hk (fun q h1 h2 => (cX_px (by omega)).mpr h1) (fun q q1 q2 q3 q4 => by
    unfold tsM at q3
    have q3 := of_decide_eq_false q3
    have hq : q < 4168 := by omega
    by_cases q72 : q < 72
    · have hx : px q = q + 2 := by
        unfold px
        rw [if_neg (by omega), if_pos q72]
      rw [hx] at q4 ⊢
      rw [ph_1 (by omega) (by omega)]
      have h0 : pv V i 8 ≠ 0 := fun z => q4 (by rw [pv_1 (by omega) (by omega), z]; exact if_pos rfl)
      exact ⟨h0, 8, by decide, cX_8.mpr (by omega), rfl⟩
    · have hx : px q = q + 66 := by
        unfold px
        rw [if_neg (by omega), if_neg q72]
      rw [hx] at q4 ⊢
      rw [ph_3 (by omega) (by omega)]
      have h0 : pv V i (74 + (q + 66 - 138) / 64) ≠ 0 := fun z => q4 (by rw [pv_3 (by omega) (by omega), z]; exact if_pos rfl)
      exact ⟨h0, 74 + (q + 66 - 138) / 64, by omega, (cX_2 (by omega) (by omega)).mpr (by omega), rfl⟩) fuL k A D (fun _ => False) (Nat.le_refl _) (by rw [fuL_4]; omega) hk hcz (fun _ _ z => z) (fun _ _ _ z => z)
  have e1 : d_X7_cutBlocks N A D (nI i) (nI k) (nI e0) (nI k) = some (nI (ncM V i k (bfM (szM V i))), A1, D1) := by
    have hn0 : ncM V i k (min k (bfM (szM V i))) = 0 := by
      have : ∀ p, p ≤ k → ncM V i k p = 0 := fun p => by
        induction p with
        | zero => intro _; rfl
        | succ p ih =>
          intro hp
          show ncM V i k p + (if k ≤ p ∧ pv V i (px p) ≠ 0 then 1 else 0) = 0
          rw [ih (by omega), if_neg (by omega)]
      exact this _ (by omega)
    rw [hn0] at r1
    rw [d_X7_cutBlocks, bnd_o (d_size c3 c4 c1 c2), hsz, bnd_o (d_bF (by omega)), nm_o]
    have hmin : (if nI (bfM (szM V i)) < nI e0 then nI (bfM (szM V i)) else nI e0) = nI (bfM (szM V i)) := by
      by_cases c : bfM (szM V i) < e0
      · rw [if_pos (nI_lt c (by omega))]
      · rw [if_neg (fun z => absurd (nI_le (a := e0) (b := bfM (szM V i)) (by omega) (by omega)) (Int32.not_le.mpr z)), show e0 = bfM (szM V i) by omega]
    rw [hmin]
    exact r1
  have r2 : CZ N A1 D1 m V tk i (cX k) (fun x => cX k x ∧ ¬ tbx x) := r2.eq (fun x hx4 hne => ⟨fun z => z.elim (fun z => z.elim) (fun ⟨q, q1, q2, q3⟩ => by
      rw [q3]
      exact ⟨(cX_px (by omega)).mpr q1, px_tb⟩), fun z => Or.inr (by
      obtain ⟨q, q1, q2, q3⟩ := px_of hx4 z.2
      refine ⟨q, (q3 k).mp z.1, ?_, q2⟩
      by_cases c : q < bfM (szM V i)
      · exact c
      · exact absurd (by rw [q2]; exact hz.2 q (by omega) q1) hne)⟩) (fun x z => z.1)
  obtain ⟨A', D', t1, ⟨m', V', tk', t2, t3⟩, t4, t5⟩ := c_cutT C hk r2
  exact ⟨A1, D1, _, A', D', m', V', tk', e1, t1, t2, t3.end, t4.trans r3, r4.tr t5⟩
/-- both sides stand for the same -/
def JX (N B gr : Nat) (A : MS) (D : CfT) (R : RfT) (m : M5) (V : Nat → Rw) (tk : Nat → Bool) : Prop := CX N A D m V tk ∧ RY N B gr R m V tk
theorem JX.nr {A : MS} {D : CfT} {R : RfT} (h : JX N B gr A D R m V tk) : ∀ c, 43 ≤ c → c < N → nr (V c) = V c := fun c h1 h2 => by
  rw [← (h.2.1.2 c h1 h2).1]
  exact rSee_nr
theorem JX.byt {A : MS} {D : CfT} {R : RfT} (h : JX N B gr A D R m V tk) : ∀ c, 43 ≤ c → c < N → Byt (V c) := fun c h1 h2 => by
  rw [← (h.2.1.2 c h1 h2).1]
  exact rSee_b h.2.1.1.by
theorem JX.nv {A : MS} {D : CfT} {R : RfT} (hN : N ≤ 1024) (h : JX N B gr A D R m V tk) : NV N m V := fun c h1 h2 => by
  refine ⟨h.nr c h1 h2, ?_⟩
  rw [← h.2.1.1.bef hN h2]
  exact rSee_nr
/-- row 0 is seen by nobody -/
theorem pv_g {y : Rw} {j x : Nat} : pv (vU V 0 y) j x = pv V j x := by
  have h0 : ∀ t, t ≠ 0 → vU V 0 y t = V t := fun t ht => vU_n ht
  have hA : ∀ x, pvA (vU V 0 y) j x = pvA V j x := fun x => by
    unfold pvA f2
    rw [h0 _ (homeM_ne j)]
  have hT : ∀ t l, pvT (vU V 0 y) t l = pvT V t l := fun t l => by
    unfold pvT
    by_cases c : t = 0
    · rw [if_pos c, if_pos c]
    · rw [if_neg c, if_neg c, h0 t c]
  unfold pv
  rw [hA, hA, hA, hT, hT, hT, hT]
theorem ph_g {y : Rw} {j x : Nat} : ph (vU V 0 y) j x = ph V j x := by
  by_cases c : x < 10
  · rw [ph_0 c, ph_0 c]
  · by_cases c2 : x < 74
    · rw [ph_1 (by omega) c2, ph_1 (by omega) c2, pv_g]
    · by_cases c3 : x < 138
      · rw [ph_2 (by omega) c3, ph_2 (by omega) c3, pv_g]
      · unfold ph
        rw [if_neg c, if_neg c, if_neg c2, if_neg c2, if_neg c3, if_neg c3]
        have e := pv_g (V := V) (y := y) (j := j) (x := 9)
        have e : pvA (vU V 0 y) j 9 = pvA V j 9 := e
        rw [e]
        unfold pvT
        split
        · rfl
        · next c0 => rw [vU_n c0]
theorem FSx_g {y : Rw} {X : Nat → Prop} : FSx (vU V 0 y) i X = FSx V i X := by
  funext b
  unfold FSx
  simp only [pv_g]
theorem ZSx_g {y : Rw} {X : Nat → Prop} : ZSx (vU V 0 y) i X = ZSx V i X := by
  funext c o
  unfold ZSx
  simp only [pv_g, ph_g]
theorem ZS_g {y : Rw} {F : Nat → Prop} {Z : Nat → Nat → Prop} {m' : M5} {V' : Nat → Rw} {tk' : Nat → Bool} (h : ZS N m (vU V 0 y) tk F Z m' V' tk') : ZS N m V tk F Z m' V' tk' := by
  obtain ⟨a1, a2, a3, a4, a5, a6⟩ := h
  have e43 : vU V 0 y 43 = V 43 := vU_n (by decide)
  rw [e43] at a6
  exact ⟨a1, a2, fun c h1 h2 => by
    have q := a3 c h1 h2
    rw [vU_n (by omega)] at q
    exact q, a4, a5, a6⟩
theorem CutH_g {y : Rw} (C : CutH N V i) : CutH N (vU V 0 y) i := by
  obtain ⟨c1, c2, c3, c4, c5, c6, c7, c8⟩ := C
  have e43 : vU V 0 y 43 = V 43 := vU_n (by decide)
  refine ⟨c1, c2, c3, c4, by rw [e43]; exact c5, fun c h1 h2 => by rw [vU_n (by omega)]; exact c6 c h1 h2, fun x hx => ?_, fun x y2 hx hy h0 he => ?_⟩
  · rw [pv_g, e43]
    exact c7 x hx
  · rw [pv_g] at h0
    rw [pv_g, pv_g] at he
    exact c8 x y2 hx hy h0 he
theorem PzE_g {y : Rw} (h : PzE V i) : PzE (vU V 0 y) i := by
  have e : szM (vU V 0 y) i = szM V i := by
    unfold szM f4
    rw [vU_n (homeM_ne i)]
  refine ⟨by rw [e]; exact h.1, fun q q1 q2 => ?_⟩
  rw [e] at q1
  rw [pv_g]
  exact h.2 q q1 q2
noncomputable def gI (P : Nat → Prop) : Rw := fun b => @ite _ (P b) (Classical.propDecidable _) 1 0
theorem gI_i {P : Nat → Prop} {b : Nat} : gI P b ≠ 0 ↔ P b := by
  unfold gI
  constructor
  · intro h
    exact Classical.byContradiction (fun z => h (if_neg z))
  · intro h
    rw [if_pos h]
    decide
/-- what a cut may own beyond P -/
def gP (P : Nat → Prop) (V : Nat → Rw) (i b : Nat) : Prop := P b ∨ b = 43 ∨ ∃ x, x < 4234 ∧ ph V i x = b ∧ b ≠ 0
theorem GH_g {P : Nat → Prop} {b : Nat} : GH (vU V 0 (gI P)) i b ↔ gP P V i b := by
  unfold GH gP
  rw [vU_s]
  simp only [ph_g, gI_i]
theorem j_cut {A : MS} {D : CfT} {R : RfT} {k e0 : Nat} (C : CutH N V i) (h : JX N B gr A D R m V tk) (hz : PzE V i) (hk : k < 2 ^ 30) (he : bfM (szM V i) ≤ e0) (he2 : e0 < 2 ^ 30) : ∃ A1 D1 n A' D' R' m' V' tk', d_X7_cutBlocks N A D (nI i) (nI k) (nI e0) (nI k) = some (nI n, A1, D1) ∧ d_X7_cutTables N A1 D1 (nI i) (nI k) = some (A', D') ∧ e_freeFrom R (nI i) (nI k) = some R' ∧ JX N B gr A' D' R' m' V' tk' ∧ ZS N m V tk (FSx V i (cX k)) (ZSx V i (cX k)) m' V' tk' ∧ gA A' = gA A ∧ Dt D D' ∧ Fn [33] [30, 31, 32, 35, 36, 43] R R' ∧ ∀ P : Nat → Prop, OwS A P → OwR R P → OwS A' (gP P V i) ∧ OwR R' (gP P V i) := by
  have c1 := C.1
  have esz : ∀ y : Rw, szM (vU V 0 y) i = szM V i := fun y => by
    unfold szM f4
    rw [vU_n (homeM_ne i)]
  have ag : ∀ y : Rw, ∀ c, 43 ≤ c → c < N → V c = vU V 0 y c := fun y c h1 _ => (vU_n (by omega)).symm
  have key : ∀ P : Nat → Prop, OwS A P → OwR R P → ∃ A1 D1 n A' D' R' m' V' tk', d_X7_cutBlocks N A D (nI i) (nI k) (nI e0) (nI k) = some (nI n, A1, D1) ∧ d_X7_cutTables N A1 D1 (nI i) (nI k) = some (A', D') ∧ e_freeFrom R (nI i) (nI k) = some R' ∧ JX N B gr A' D' R' m' V' tk' ∧ ZS N m V tk (FSx V i (cX k)) (ZSx V i (cX k)) m' V' tk' ∧ gA A' = gA A ∧ Dt D D' ∧ Fn [33] [30, 31, 32, 35, 36, 43] R R' ∧ OwS A' (gP P V i) ∧ OwR R' (gP P V i) := fun P o1 o2 => by
    have w1 : OwS A (GH (vU V 0 (gI P)) i) := o1.wk (fun b hb => GH_g.mpr (Or.inl hb))
    have w2 : OwR R (GH (vU V 0 (gI P)) i) := o2.wk (fun b hb => GH_g.mpr (Or.inl hb))
    have h43 : vU V 0 (gI P) 43 = V 43 := vU_n (by decide)
    obtain ⟨A1, D1, n, A', D', m', V', tk', a1, a2, ⟨a3, a3w⟩, a4, a5, a6⟩ := c_cut (CutH_g C) (h.1.ag c1 (ag (gI P))) w1 (by rw [h43]; exact h.byt 43 (Nat.le_refl _) (by omega)) (PzE_g hz) hk (by rw [esz]; exact he) he2
    obtain ⟨R', m2, V2, tk2, b1, ⟨b2, b2w⟩, b3, b4⟩ := y_freeFrom (CutH_g C) hk (h.2.ag c1 (ag (gI P))) w2
    rw [FSx_g, ZSx_g] at a4 b3
    have a4 := ZS_g a4
    have b3 := ZS_g b3
    obtain ⟨u1, u2, u3⟩ := b3.uq a4 (fun _ => Iff.rfl) (fun _ _ _ _ _ _ => Iff.rfl) (fun c q1 q2 => C.2.2.2.2.2.1 c (by omega) q2)
    subst u1
    subst u2
    exact ⟨A1, D1, n, A', D', R', m2, V', tk2, a1, a2, b1, ⟨a3, b2.ag c1 u3⟩, a4, a5, a6, b4, a3w.wk (fun b hb => GH_g.mp hb), b2w.wk (fun b hb => GH_g.mp hb)⟩
  obtain ⟨A1, D1, n, A', D', R', m', V', tk', a1, a2, a3, a4, a5, a6, a7, a8, -, -⟩ := key (fun _ => True) (fun _ _ => trivial) (fun _ _ _ => trivial)
  refine ⟨A1, D1, n, A', D', R', m', V', tk', a1, a2, a3, a4, a5, a6, a7, a8, fun P o1 o2 => ?_⟩
  obtain ⟨A1', D1', n', A'', D'', R'', m'', V'', tk'', b1, b2, b3, -, -, -, -, -, b4, b5⟩ := key P o1 o2
  rw [b1] at a1
  have e1 := Prod.mk.inj (Prod.mk.inj (Option.some.inj a1)).2
  rw [← e1.1, ← e1.2, b2] at a2
  rw [b3] at a3
  have e2 := (Prod.mk.inj (Option.some.inj a2)).1
  have e3 := Option.some.inj a3
  rw [← e2, ← e3]
  exact ⟨b4, b5⟩
end PVV
