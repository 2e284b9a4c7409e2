/-! ===== pure: check finds nothing ===== -/
section PZP
variable {N B gr r u : Nat} {V W U : Nat → Rw} {m m' : M5} {tk tk' : Nat → Bool} {A A' : MS} {D D' D0 D2 : CfT} {R R' : RfT} {g : Bool} {hd hi : Nat → Nat} {tp : Nat → Int32} {tl : Nat} {ex : Nat → Int32} {P : Nat → Prop} {f : Nat → Nat} {i x y e : Nat}
def DkC (D D' : CfT) : Prop := (∀ j, j ≠ 4405 → j ≠ 3705 → D'.1 j = D.1 j) ∧ ∀ k, k ≠ 38 → k ≠ 39 → k ≠ 45 → k ≠ 46 → D'.2.1 k = D.2.1 k
theorem DkC.rf : DkC D D := ⟨fun _ _ _ => rfl, fun _ _ _ _ _ => rfl⟩
theorem DkC.tr (a : DkC D D') (b : DkC D' D2) : DkC D D2 := ⟨fun j h1 h2 => (b.1 j h1 h2).trans (a.1 j h1 h2), fun k h1 h2 h3 h4 => (b.2 k h1 h2 h3 h4).trans (a.2 k h1 h2 h3 h4)⟩
theorem Dg.dkC (a : Dg D D') : DkC D D' := ⟨fun j _ h => a.1 j h, fun k h1 h2 _ _ => a.2 k h1 h2⟩
theorem DkC.s {v : Nat → Int32} {k : Nat} (hk : k = 45 ∨ k = 46) : DkC D (sA D k v) := ⟨fun _ _ _ => rfl, fun j h1 h2 h3 h4 => by
  show cA (sA D k v) j = cA D j
  exact cA_n (by rcases hk with q | q <;> omega)⟩
theorem GaD.sk {v : Nat → Int32} {k : Nat} (h : GaD V x e D) (hk : k = 45 ∨ k = 46) : GaD V x e (sA D k v) := ⟨h.1, fun p h1 h2 => by
  rw [cA_n (by rcases hk with q | q <;> omega), cA_n (by rcases hk with q | q <;> omega)]
  exact h.2 p h1 h2⟩
/-- the checker has found nothing; P are the blocks that are owned, f how often inodes are named -/
def CkD (N : Nat) (D : CfT) (P : Nat → Prop) (f : Nat → Nat) : Prop := cS D 4405 = 0 ∧ (∀ b, b < N → cA D 45 b = @ite _ (b < 61 ∨ P b) (Classical.propDecidable _) 1 0) ∧ ∀ j, 1 ≤ j → j < 65 → cA D 46 j = nI (f j)
theorem CkD.cg {P' : Nat → Prop} {f' : Nat → Nat} (h : CkD N D P f) (hp : ∀ b, 61 ≤ b → b < N → (P b ↔ P' b)) (hf : ∀ j, 1 ≤ j → j < 65 → f j = f' j) : CkD N D P' f' := by
  refine ⟨h.1, fun b hb => ?_, fun j h1 h2 => by rw [← hf j h1 h2]; exact h.2.2 j h1 h2⟩
  rw [h.2.1 b hb]
  by_cases c : b < 61
  · rw [if_pos (Or.inl c), if_pos (Or.inl c)]
  · by_cases d : P b
    · rw [if_pos (Or.inr d), if_pos (Or.inr ((hp b (by omega) hb).mp d))]
    · rw [if_neg (fun z => z.elim c d), if_neg (fun z => z.elim c (fun w => d ((hp b (by omega) hb).mpr w)))]
theorem CkD.ga (h : CkD N D P f) (e : Dg D D') : CkD N D' P f := ⟨(e.1 4405 (by decide)).trans h.1, fun b hb => by rw [show cA D' 45 = cA D 45 from e.2 45 (by decide) (by decide)]; exact h.2.1 b hb, fun j h1 h2 => by rw [show cA D' 46 = cA D 46 from e.2 46 (by decide) (by decide)]; exact h.2.2 j h1 h2⟩
theorem ck_ask : d_X1_ask N U D 1 = some D := by
  rw [d_X1_ask, if_neg (by decide)]
/-- a block gets its owner -/
theorem ck_own {b : Nat} (hN : N ≤ 1024) (h : CkD N D P f) (h1 : 61 ≤ b) (h2 : b < N) (hp : ¬ P b) : d_X1_own N U D (nI b) = some (sA D 45 (upd (cA D 45) b 1)) ∧ CkD N (sA D 45 (upd (cA D 45) b 1)) (fun c => P c ∨ c = b) f := by
  have e0 : cA D 45 b = 0 := by rw [h.2.1 b h2, if_neg (fun z => z.elim (by omega) hp)]
  refine ⟨?_, h.1, fun c hc => ?_, fun j j1 j2 => by rw [cA_n (by decide)]; exact h.2.2 j j1 j2⟩
  · rw [d_X1_own, if_neg (show ¬ nI b < (61 : Int32) from nI_nlt (b := 61) h1 (by omega)), if_pos (nI_lt h2 (by omega)), ld_n h2 (by omega), e0, stA_n h2 (by omega)]
    rfl
  · rw [cA_e]
    by_cases cb : c = b
    · rw [cb, pk_us, if_pos (Or.inr (Or.inr rfl))]
    · rw [pk_un cb, h.2.1 c hc]
      by_cases d : c < 61 ∨ P c
      · rw [if_pos d, if_pos (d.imp id Or.inl)]
      · rw [if_neg d, if_neg (fun z => d (z.imp id (fun z => z.resolve_right cb)))]
/-- a number of an inode -/
theorem ck_st {Y : Nat → Prop} (hN : N ≤ 1024) (hw : PW N V) (hx : ir x) (hP : ∀ y, y < 4234 → pv V x y ≠ 0 → ¬ P (pv V x y)) (h : CkD N D (fun b => P b ∨ FSx V x Y b) f) (hy : y < 4234) (hY : ¬ Y y) (h0 : pv V x y ≠ 0) : ∃ v, d_X1_own N U D (nI (pv V x y)) = some (sA D 45 v) ∧ CkD N (sA D 45 v) (fun b => P b ∨ FSx V x (fun z => Y z ∨ z = y) b) f := by
  have hb := (hw.2.1 x y hx hy).resolve_left h0
  obtain ⟨q1, q2⟩ := ck_own (U := U) hN h hb.1 hb.2 (fun z => z.elim (hP y hy h0) (fun ⟨_, y', y1, y2, y3⟩ => by
    have := (hw.2.2.1 x y' x y hx y1 hx hy (by rw [y3]; exact h0) y3).2
    rw [this] at y2
    exact hY y2))
  refine ⟨_, q1, q2.cg (fun b _ _ => ⟨fun z => ?_, fun z => ?_⟩) (fun _ _ _ => rfl)⟩
  · rcases z with (z | ⟨z0, y', y1, y2, y3⟩) | z
    · exact Or.inl z
    · exact Or.inr ⟨z0, y', y1, Or.inl y2, y3⟩
    · exact Or.inr ⟨by rw [z]; exact h0, y, hy, Or.inr rfl, z.symm⟩
  · rcases z with z | ⟨z0, y', y1, y2 | y2, y3⟩
    · exact Or.inl (Or.inl z)
    · exact Or.inl (Or.inr ⟨z0, y', y1, y2, y3⟩)
    · rw [y2] at y3
      exact Or.inr y3.symm
theorem ck_fs {Y Y' : Nat → Prop} (h : CkD N D (fun b => P b ∨ FSx V x Y b) f) (hY : ∀ y, y < 4234 → pv V x y ≠ 0 → (Y y ↔ Y' y)) : CkD N D (fun b => P b ∨ FSx V x Y' b) f := h.cg (fun b _ _ => ⟨fun z => z.imp id (fun ⟨z0, y, y1, y2, y3⟩ => ⟨z0, y, y1, (hY y y1 (by rw [y3]; exact z0)).mp y2, y3⟩), fun z => z.imp id (fun ⟨z0, y, y1, y2, y3⟩ => ⟨z0, y, y1, (hY y y1 (by rw [y3]; exact z0)).mpr y2, y3⟩)⟩) (fun _ _ _ => rfl)
/-- the tables of the second table -/
theorem ck_t40 {D0 : CfT} (hN1 : 61 ≤ N) (hN : N ≤ 1024) (h : CX N A D0 m V tk) (hw : PW N V) (hx : ir x) (h9 : pv V x 9 ≠ 0) (hP : ∀ y, y < 4234 → pv V x y ≠ 0 → ¬ P (pv V x y)) : ∀ (n j : Nat) (D : CfT), j ≤ 64 → 64 - j < n → CkD N D (fun b => P b ∨ FSx V x (fun y => y = 8 ∨ y = 9 ∨ (74 ≤ y ∧ y < 74 + j)) b) f → ∃ D', d_X1_lookAtTables_40 N (vA A) n D (nI (pv V x 9)) (nI j) = some D' ∧ CkD N D' (fun b => P b ∨ FSx V x tbx b) f ∧ DkC D D' := by
  obtain ⟨q1, q2, q3⟩ := (hw.pto hx 9 (by decide)).resolve_left h9
  intro n
  induction n with
  | zero => intro j D _ hh; exact absurd hh (Nat.not_lt_zero _)
  | succ n ih =>
    intro j D hj hn hc
    rw [d_X1_lookAtTables_40]
    by_cases cj : j = 64
    · rw [if_pos (show (64 : Int32) ≤ nI j by rw [cj]; decide)]
      exact ⟨D, rfl, ck_fs hc (fun y _ _ => by unfold tbx; omega), DkC.rf⟩
    · have e2 : n2 (V (pv V x 9)) (2 * j) = pv V x (74 + j) := by
        have q := pv_at (V := V) (i := x) (x := 74 + j) (by omega)
        rw [ph_2 (by omega) (by omega), if_neg h9, po_74 (by omega)] at q
        exact q.symm
      have es : d_X7_tableOfSecond N (vA A) D (nI (pv V x 9)) (nI j) = some (nI (pv V x (74 + j))) := by
        rw [d_X7_tableOfSecond, if_neg (nI_ne0 (by omega) (by omega)), see_n q2 hN, show (2 : Int32) * nI j = nI (2 * j) from pk_mul 2 j, bnd_o (d_two (by omega) (by decide)), h.agu _ (by omega) q2 q3, e2]
      rw [if_neg (show ¬ (64 : Int32) ≤ nI j from nI_ge (b := 64) (by omega) (by decide)), bnd_o es, nI_1]
      by_cases c0 : pv V x (74 + j) = 0
      · rw [c0, nI_0, i00]
        exact ih (j + 1) D (by omega) (by omega) (ck_fs hc (fun y _ hy => ⟨fun z => by omega, fun z => by
          by_cases ey : y = 74 + j
          · rw [ey] at hy; exact absurd c0 hy
          · omega⟩))
      · have hb := (hw.2.1 x _ hx (show 74 + j < 4234 by omega)).resolve_left c0
        obtain ⟨v, o1, o2⟩ := ck_st (U := vA A) hN hw hx hP hc (show 74 + j < 4234 by omega) (by omega) c0
        rw [if_neg (show ¬ nI (pv V x (74 + j)) = 0 from nI_ne0 (by omega) (by omega)), bnd_o o1]
        obtain ⟨D', r1, r2, r3⟩ := ih (j + 1) _ (by omega) (by omega) (ck_fs o2 (fun y _ _ => by omega))
        exact ⟨D', r1, r2, (DkC.s (Or.inl rfl)).tr r3⟩
theorem ck_tabs {D0 : CfT} (hN1 : 61 ≤ N) (hN : N ≤ 1024) (h : CX N A D0 m V tk) (hw : PW N V) (hx : ir x) (hP : ∀ y, y < 4234 → pv V x y ≠ 0 → ¬ P (pv V x y)) (hc : CkD N D P f) : ∃ D', d_X1_lookAtTables N (vA A) D (nI x) = some D' ∧ CkD N D' (fun b => P b ∨ FSx V x tbx b) f ∧ DkC D D' := by
  have hb43 := hw.1
  have e1 : ∀ D, d_X7_firstTable N (vA A) D (nI x) = some (nI (pv V x 8)) := fun D => by
    rw [d_first hx.1 hx.2 hN1 hN, (f1_ag (a := 28) hN1 h.agu hb43 hx.2).2.1]
    rfl
  have e2 : ∀ D, d_X7_secondTable N (vA A) D (nI x) = some (nI (pv V x 9)) := fun D => by
    rw [d_second hx.1 hx.2 hN1 hN, (f1_ag (a := 30) hN1 h.agu hb43 hx.2).2.1]
    rfl
  have h0 : CkD N D (fun b => P b ∨ FSx V x (fun _ => False) b) f := hc.cg (fun b _ _ => ⟨Or.inl, fun z => z.resolve_right (fun ⟨_, _, _, q, _⟩ => q)⟩) (fun _ _ _ => rfl)
  rw [d_X1_lookAtTables, bnd_o (e1 D)]
  have tl : ∀ D1, CkD N D1 (fun b => P b ∨ FSx V x (fun y => y = 8) b) f → pv V x 9 ≠ 0 → ∃ v D', d_X1_own N (vA A) D1 (nI (pv V x 9)) = some (sA D1 45 v) ∧ d_X1_lookAtTables_40 N (vA A) fuL (sA D1 45 v) (nI (pv V x 9)) 0 = some D' ∧ CkD N D' (fun b => P b ∨ FSx V x tbx b) f ∧ DkC D1 D' := fun D1 hc1 h9 => by
    obtain ⟨v, o1, o2⟩ := ck_st (U := vA A) hN hw hx hP hc1 (show 9 < 4234 by decide) (by decide) h9
    obtain ⟨D', r1, r2, r3⟩ := ck_t40 hN1 hN h hw hx h9 hP fuL 0 (sA D1 45 v) (by decide) (by rw [fuL_4]; omega) (ck_fs o2 (fun y _ _ => by omega))
    exact ⟨v, D', o1, r1, r2, (DkC.s (Or.inl rfl)).tr r3⟩
  have no9 : pv V x 9 = 0 → ∀ D1, CkD N D1 (fun b => P b ∨ FSx V x (fun y => y = 8) b) f → CkD N D1 (fun b => P b ∨ FSx V x tbx b) f := fun h9 D1 hc1 => ck_fs hc1 (fun y hy4 hy => by
    unfold tbx
    refine ⟨Or.inl, fun z => z.elim id (fun z => ?_)⟩
    rcases z with z | z
    · rw [z] at hy; exact absurd h9 hy
    · exact absurd (by rw [pv_2 z.1 z.2, h9]; exact if_pos rfl) hy)
  by_cases c8 : pv V x 8 = 0
  · have hc1 : CkD N D (fun b => P b ∨ FSx V x (fun y => y = 8) b) f := ck_fs h0 (fun y _ hy => ⟨fun z => z.elim, fun z => by rw [z] at hy; exact absurd c8 hy⟩)
    rw [c8, nI_0, i00, bnd_o (e2 D)]
    by_cases c9 : pv V x 9 = 0
    · rw [c9, nI_0, i00]
      exact ⟨D, rfl, no9 c9 D hc1, DkC.rf⟩
    · have hb := (hw.2.1 x 9 hx (by decide)).resolve_left c9
      obtain ⟨v, D', o1, o2, o3, o4⟩ := tl D hc1 c9
      rw [if_neg (show ¬ nI (pv V x 9) = 0 from nI_ne0 (by omega) (by omega)), bnd_o o1]
      exact ⟨D', o2, o3, o4⟩
  · have hb8 := (hw.2.1 x 8 hx (by decide)).resolve_left c8
    obtain ⟨v, o1, o2⟩ := ck_st (U := vA A) hN hw hx hP h0 (show 8 < 4234 by decide) (fun z => z) c8
    have hc1 : CkD N (sA D 45 v) (fun b => P b ∨ FSx V x (fun y => y = 8) b) f := ck_fs o2 (fun y _ _ => ⟨fun z => z.resolve_left (fun q => q), Or.inr⟩)
    rw [if_neg (show ¬ nI (pv V x 8) = 0 from nI_ne0 (by omega) (by omega)), bnd_o o1, bnd_o (e2 _)]
    by_cases c9 : pv V x 9 = 0
    · rw [c9, nI_0, i00]
      exact ⟨_, rfl, no9 c9 _ hc1, DkC.s (Or.inl rfl)⟩
    · have hb := (hw.2.1 x 9 hx (by decide)).resolve_left c9
      obtain ⟨v2, D', p1, p2, p3, p4⟩ := tl _ hc1 c9
      rw [if_neg (show ¬ nI (pv V x 9) = 0 from nI_ne0 (by omega) (by omega)), bnd_o p1]
      exact ⟨D', p2, p3, (DkC.s (Or.inl rfl)).tr p4⟩
/-- a directory has no holes -/
theorem nc_dir (h : ∀ q, q < e → pv V x (px q) ≠ 0) : ∀ q, q ≤ e → ncM V x 0 q = q := fun q => by
  induction q with
  | zero => intro _; rfl
  | succ q ih =>
    intro hq
    rw [nc_s (h q (by omega)), ih (by omega)]
end PZP
