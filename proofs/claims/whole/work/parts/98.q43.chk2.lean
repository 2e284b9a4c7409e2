/-! ===== pure: check ===== -/
section PZQ
variable {N B gr r u : Nat} {V W U : Nat → Rw} {m m' : M5} {tk tk' : Nat → Bool} {A A' : MS} {D D' D0 D2 : CfT} {R R' : RfT} {g : Bool} {hd hi : Nat → Nat} {tp : Nat → Int32} {tl : Nat} {ex : Nat → Int32} {P : Nat → Prop} {f : Nat → Nat} {i x y e q : Nat}
/-- the blocks of an inode -/
theorem ck_79 {kd sz : Nat} (hN : N ≤ 1024) (hw : PW N V) (hx : ir x) (he : e ≤ 3200) (hP : ∀ y, y < 4234 → pv V x y ≠ 0 → ¬ P (pv V x y)) : ∀ (dd q n : Nat) (D : CfT), q + dd = e → ncM V x 0 e - ncM V x 0 q < n → GaD V x e D → CkD N D (fun b => P b ∨ FSx V x (fun y => tbx y ∨ ∃ p, p < q ∧ y = px p) b) f → ∃ k D', d_X1_lookAtInode_79 N U n D (nI kd) (nI sz) (nI (ncM V x 0 q)) = d_X1_lookAtInode_79 N U (k + 1) D' (nI kd) (nI sz) (nI (ncM V x 0 e)) ∧ CkD N D' (fun b => P b ∨ FSx V x (fun y => tbx y ∨ ∃ p, p < e ∧ y = px p) b) f ∧ DkC D D' ∧ GaD V x e D' := by
  intro dd
  induction dd with
  | zero =>
    intro q n D hq hn hg hc
    obtain ⟨k, rfl⟩ : ∃ k, n = k + 1 := ⟨n - 1, by omega⟩
    have hqe : q = e := by omega
    rw [hqe] at hc ⊢
    exact ⟨k, D, rfl, hc, DkC.rf, hg⟩
  | succ dd ih =>
    intro q n D hq hn hg hc
    have hq4 : q < 4168 := by omega
    by_cases c : pv V x (px q) = 0
    · have q1 := ih (q + 1) n D (by omega) (by rw [nc_0 c]; exact hn) hg (ck_fs hc (fun y _ hy => ⟨fun z => z.imp id (fun ⟨p, p1, p2⟩ => ⟨p, by omega, p2⟩), fun z => z.imp id (fun ⟨p, p1, p2⟩ => ⟨p, by
        by_cases ep : p = q
        · rw [p2, ep] at hy; exact absurd c hy
        · omega, p2⟩)⟩))
      rw [nc_0 c] at q1
      exact q1
    · obtain ⟨n, rfl⟩ : ∃ k, n = k + 1 := ⟨n - 1, by omega⟩
      have hm : ncM V x 0 (q + 1) ≤ ncM V x 0 e := nc_mono (by omega)
      rw [nc_s c] at hm
      have hle := nc_le (V := V) (i := x) e
      obtain ⟨g1, g2⟩ := hg.2 q (by omega) c
      obtain ⟨v, o1, o2⟩ := ck_st (U := U) hN hw hx hP hc (px_lt hq4) (fun z => z.elim px_tb (fun ⟨p, p1, p2⟩ => by have := px_inj p2; omega)) c
      rw [d_X1_lookAtInode_79, hg.1, if_neg (nI_ge (by omega) (by omega)), ld_n (by omega) (by decide), g2, bnd_o o1, nI_1]
      obtain ⟨k, D', r1, r2, r3, r4⟩ := ih (q + 1) n _ (by omega) (by rw [nc_s c]; omega) (hg.sk (v := v) (Or.inl rfl)) (ck_fs o2 (fun y _ _ => ⟨fun z => by
        rcases z with (z | ⟨p, p1, p2⟩) | z
        · exact Or.inl z
        · exact Or.inr ⟨p, by omega, p2⟩
        · exact Or.inr ⟨q, by omega, z⟩, fun z => by
        rcases z with z | ⟨p, p1, p2⟩
        · exact Or.inl (Or.inl z)
        · by_cases ep : p = q
          · exact Or.inr (by rw [p2, ep])
          · exact Or.inl (Or.inr ⟨p, by omega, p2⟩)⟩))
      rw [nc_s c] at r1
      exact ⟨k, D', r1, r2, (DkC.s (Or.inl rfl)).tr r3, r4⟩
theorem ck_120 {sf : CfT → (Nat → Int32) → Nat → Int32 → Option CfT} {yr : Nat → Int32} {a : Nat} (ha : a + 16 ≤ 128) : ∀ (n z : Nat), z ≤ 16 → 16 - z < n → (∀ o, a + z ≤ o → o < a + 16 → yr o = 0) → d_X1_lookAtSlots_120 N U sf n D yr 128 (nI a) (nI z) = sf D yr 128 (nI (a + 16)) := by
  intro n
  induction n with
  | zero => intro z _ h; exact absurd h (Nat.not_lt_zero _)
  | succ n ih =>
    intro z hz hn h0
    rw [d_X1_lookAtSlots_120]
    by_cases c : z = 16
    · rw [if_pos (show (16 : Int32) ≤ nI z by rw [c]; decide), show (16 : Int32) = nI 16 from rfl, nI_add]
    · rw [if_neg (show ¬ (16 : Int32) ≤ nI z from nI_ge (b := 16) (by omega) (by decide)), nI_add, ld_n (by omega) (by decide), h0 (a + z) (by omega) (by omega), i00, bnd_o ck_ask, nI_1]
      exact ih (z + 1) (by omega) (by omega) (fun o o1 o2 => h0 o (by omega) o2)
/-- a slot -/
theorem ck_slot {D9 : CfT} {s n : Nat} {yr : Rw} (hN1 : 61 ≤ N) (hN : N ≤ 1024) (R0 : RfT) (h : CX N A D9 m V tk) (hb43 : btO N (V 43)) (hs : s < 8) (hsl : SlO V yr (16 * s)) (hc : CkD N D P f) : ∃ D', d_X1_lookAtSlots_2 N (vA A) (n + 1) D yr 128 (nI (16 * s)) = d_X1_lookAtSlots_2 N (vA A) n D' yr 128 (nI (16 * (s + 1))) ∧ CkD N D' P (fun j => f j + if n2 yr (16 * s) = j then 1 else 0) ∧ DkC D D' ∧ ∀ V x e, GaD V x e D → GaD V x e D' := by
  have e128 : ¬ (128 : Int32) < nI (16 * s) + 16 := by
    rw [show (16 : Int32) = nI 16 from rfl, nI_add]
    exact nI_nlt (a := 128) (by omega) (by decide)
  have e16 : 16 * s + 16 = 16 * (s + 1) := by omega
  rw [d_X1_lookAtSlots_2, if_neg e128, bnd_o (d_two (by omega) (by decide))]
  rcases hsl with ⟨z1, z2⟩ | ⟨z1, z2, z3, ln, z4, z5, z6⟩
  · rw [z1, nI_0, i00, d_X1_lookAtSlots_33, i00, bnd_o ck_ask, d_X1_lookAtSlots_58, i00, bnd_o ck_ask, d_X1_lookAtSlots_82, i00, d_X1_lookAtSlots_102, i00]
    refine ⟨D, ?_, hc.cg (fun _ _ _ => Iff.rfl) (fun j j1 _ => ?_), DkC.rf, fun _ _ _ h => h⟩
    · have q := ck_120 (N := N) (U := vA A) (D := D) (sf := d_X1_lookAtSlots_2 N (vA A) n) (yr := yr) (a := 16 * s) (by omega) fuL 2 (by decide) (by rw [fuL_4]; omega) (fun o o1 o2 => z2 o o1 o2)
      rw [e16] at q
      exact q
    · rw [if_neg (by omega)]
      rfl
  · obtain ⟨t, ht⟩ : ∃ t, t = n2 yr (16 * s) := ⟨_, rfl⟩
    rw [← ht] at z1 z2 z3 ⊢
    have et : ¬ nI t = 0 := nI_ne0 (by omega) (by omega)
    have hl := z5.2.1
    have hl1 := z5.1
    obtain ⟨rb, n1, n2'⟩ := d_isName (N := N) (V := vA A) R0 (D := D) (g := yr) (nn := 128) (a := 16 * s + 3) (ln := ln) (by decide) (by omega) (by omega)
    have hrb := n2'.mpr z5
    rw [hrb] at n1
    have kk : d_X7_kind N (vA A) D (nI t) = some (nI (f1 V t 0)) := by rw [d_kind (by omega) z2 hN1 hN, (f1_ag (a := 0) hN1 h.agu hb43 z2).1]
    have hlt := f1_lt V t 0
    have c46 := hc.2.2 t (by omega) (by omega)
    rw [if_neg et, show (2 : Int32) = nI 2 from rfl, nI_add, ld_n (by omega) (by decide), z4, d_X1_lookAtSlots_33, if_neg et, show (3 : Int32) = nI 3 from rfl, nI_add, bnd_o n1, if_neg (show ¬ bI true = 0 by decide), bnd_o ck_ask, d_X1_lookAtSlots_58, if_neg et, bnd_o kk, if_neg (show ¬ nI (f1 V t 0) = 0 from nI_ne0 (by omega) (by omega)), bnd_o ck_ask, d_X1_lookAtSlots_82, if_neg et, if_neg (show ¬ (64 : Int32) < nI t from nI_nlt (a := 64) z2 (by decide)), ld_n (show t < 65 by omega) (by decide), c46, stA_n (show t < 65 by omega) (by decide), nI_1, d_X1_lookAtSlots_102, if_neg et, if_pos (show (0 : Int32) < nI ln from Int32.not_le.mp (nI_ge (a := 0) (by omega) (by omega))), nm_o, show (3 : Int32) = nI 3 from rfl, nI_add]
    refine ⟨sA D 46 (upd (cA D 46) t (nI (f t + 1))), ?_, ⟨hc.1, fun b hb => by rw [cA_n (by decide)]; exact hc.2.1 b hb, fun j j1 j2 => ?_⟩, DkC.s (Or.inr rfl), fun _ _ _ h => h.sk (Or.inr rfl)⟩
    · have q := ck_120 (N := N) (U := vA A) (D := sA D 46 (upd (cA D 46) t (nI (f t + 1)))) (sf := d_X1_lookAtSlots_2 N (vA A) n) (yr := yr) (a := 16 * s) (by omega) fuL (3 + ln) (by omega) (by rw [fuL_4]; omega) (fun o o1 o2 => z6 o (by omega) o2)
      rw [e16] at q
      exact q
    · rw [cA_e]
      by_cases ej : j = t
      · rw [ej, pk_us]
        show nI (f t + 1) = nI (f t + if t = t then 1 else 0)
        rw [if_pos rfl]
      · rw [pk_un ej]
        show cA D 46 j = nI (f j + if t = j then 1 else 0)
        rw [if_neg (fun z => ej z.symm)]
        exact hc.2.2 j j1 j2
theorem ck_row {D9 : CfT} (hN1 : 61 ≤ N) (hN : N ≤ 1024) (R0 : RfT) (h : CX N A D9 m V tk) (hb43 : btO N (V 43)) (hsl : ∀ s, s < 8 → SlO V (V (pv V x (px q))) (16 * s)) : ∀ (k s n : Nat) (D : CfT), s + k = 8 → k < n → CkD N D P (fun j => f j + nmD V j x (8 * q + s)) → ∃ D', d_X1_lookAtSlots_2 N (vA A) n D (V (pv V x (px q))) 128 (nI (16 * s)) = some D' ∧ CkD N D' P (fun j => f j + nmD V j x (8 * q + 8)) ∧ DkC D D' ∧ ∀ V x e, GaD V x e D → GaD V x e D' := by
  intro k
  induction k with
  | zero =>
    intro s n D hs hn hc
    obtain ⟨n, rfl⟩ : ∃ k, n = k + 1 := ⟨n - 1, by omega⟩
    have hs8 : s = 8 := by omega
    subst hs8
    rw [d_X1_lookAtSlots_2, if_pos (show (128 : Int32) < nI (16 * 8) + 16 by decide)]
    exact ⟨D, rfl, hc, DkC.rf, fun _ _ _ h => h⟩
  | succ k ih =>
    intro s n D hs hn hc
    obtain ⟨n, rfl⟩ : ∃ k, n = k + 1 := ⟨n - 1, by omega⟩
    obtain ⟨D1, a1, a2, a3, a4⟩ := ck_slot (n := n) (s := s) hN1 hN R0 h hb43 (by omega) (hsl s (by omega)) hc
    have es : sln V x (8 * q + s) = n2 (V (pv V x (px q))) (16 * s) := by
      unfold sln
      rw [show (8 * q + s) / 8 = q by omega, show (8 * q + s) % 8 = s by omega]
    obtain ⟨D', b1, b2, b3, b4⟩ := ih (s + 1) n D1 (by omega) (by omega) (a2.cg (fun _ _ _ => Iff.rfl) (fun j _ _ => by
      show f j + nmD V j x (8 * q + s) + (if n2 (V (pv V x (px q))) (16 * s) = j then 1 else 0) = f j + (nmD V j x (8 * q + s) + (if sln V x (8 * q + s) = j then 1 else 0))
      rw [es]
      omega))
    exact ⟨D', by rw [a1]; exact b1, b2, a3.tr b3, fun V x e h => b4 V x e (a4 V x e h)⟩
theorem ck_151 {D9 : CfT} (hN1 : 61 ≤ N) (hN : N ≤ 1024) (R0 : RfT) (h : CX N A D9 m V tk) (hw : PW N V) (hx : ir x) (he : e ≤ 3200) (hne : ∀ q, q < e → pv V x (px q) ≠ 0) (hsl : ∀ q s, q < e → s < 8 → SlO V (V (pv V x (px q))) (16 * s)) : ∀ (dd q n : Nat) (D : CfT), q + dd = e → dd < n → GaD V x e D → CkD N D P (fun j => f j + nmD V j x (8 * q)) → ∃ D', d_X1_lookAtInode_151 N (vA A) n D (nI q) = some D' ∧ CkD N D' P (fun j => f j + nmD V j x (8 * e)) ∧ DkC D D' := by
  have hnc := nc_dir hne
  intro dd
  induction dd with
  | zero =>
    intro q n D hq hn hg hc
    obtain ⟨n, rfl⟩ : ∃ k, n = k + 1 := ⟨n - 1, by omega⟩
    have hqe : q = e := by omega
    subst hqe
    rw [d_X1_lookAtInode_151, hg.1, hnc q (Nat.le_refl _), if_pos (nI_le (Nat.le_refl _) (by omega))]
    exact ⟨D, rfl, hc, DkC.rf⟩
  | succ dd ih =>
    intro q n D hq hn hg hc
    obtain ⟨n, rfl⟩ : ∃ k, n = k + 1 := ⟨n - 1, by omega⟩
    obtain ⟨g1, g2⟩ := hg.2 q (by omega) (hne q (by omega))
    rw [hnc q (by omega)] at g2
    obtain ⟨b1, b2, b3⟩ := (hw.pto hx _ (px_lt (show q < 4168 by omega))).resolve_left (hne q (by omega))
    rw [d_X1_lookAtInode_151, hg.1, hnc e (Nat.le_refl _), if_neg (nI_ge (by omega) (by omega)), ld_n (by omega) (by decide), g2, see_n b2 hN, h.agu _ (by omega) b2 b3, d_X1_lookAtSlots]
    obtain ⟨D1, r1, r2, r3, r4⟩ := ck_row (q := q) hN1 hN R0 h hw.1 (fun s hs => hsl q s (by omega) hs) 8 0 fuL D (by omega) (by rw [fuL_4]; omega) hc
    have r1 : d_X1_lookAtSlots_2 N (vA A) fuL D (V (pv V x (px q))) 128 0 = some D1 := r1
    rw [bnd_o r1, nI_1]
    obtain ⟨D', s1, s2, s3⟩ := ih (q + 1) n D1 (by omega) (by omega) (r4 V x e hg) (by rw [show 8 * (q + 1) = 8 * q + 8 by omega]; exact r2)
    exact ⟨D', s1, s2, r3.tr s3⟩
def Pn (V : Nat → Rw) (x b : Nat) : Prop := b ≠ 0 ∧ ∃ i y, 1 ≤ i ∧ i < x ∧ y < 4234 ∧ pv V i y = b
def fN (V : Nat → Rw) (x j : Nat) : Nat := (if j = 1 then 1 else 0) + nmC V j x
/-- an inode that is not there -/
theorem ck_75 {D9 : CfT} (hN1 : 61 ≤ N) (hN : N ≤ 1024) (h : CX N A D9 m V tk) (hw : PW N V) (hx : ir x) (h0 : ∀ y, y < 4234 → pv V x y = 0) : ∀ (n p : Nat), p ≤ 8 → 8 - p < n → d_X1_lookAtFree_75 N (vA A) n D (nI x) (nI p) = some D := by
  intro n
  induction n with
  | zero => intro p _ hh; exact absurd hh (Nat.not_lt_zero _)
  | succ n ih =>
    intro p hp hn
    rw [d_X1_lookAtFree_75]
    by_cases c : p = 8
    · rw [if_pos (show (8 : Int32) ≤ nI p by rw [c]; decide)]
    · rw [if_neg (show ¬ (8 : Int32) ≤ nI p from nI_ge (b := 8) (by omega) (by decide)), bnd_o (c_blk hN1 hN h (hw.pto hx) hx.1 hx.2 (by omega)), h0 _ (px_lt (by omega)), nI_0, i00, bnd_o ck_ask, nI_1]
      exact ih (p + 1) (by omega) (by omega)
theorem nmC_no2 {j : Nat} (h : f1 V x 0 ≠ 2) : nmC V j (x + 1) = nmC V j x := by
  show nmC V j x + (if 1 ≤ x ∧ f1 V x 0 = 2 then nmD V j x (szM V x / 16) else 0) = _
  rw [if_neg (fun z => h z.2)]
  rfl
theorem ck_inode {D9 : CfT} (hN1 : 61 ≤ N) (hN : N ≤ 1024) (h : JX N B gr A D9 R m V tk) (hw : WF N V) (hx : ir x) (hc : CkD N D (Pn V x) (fN V x)) : ∃ D', d_X1_lookAtInode N (vA A) D (nI x) = some D' ∧ CkD N D' (Pn V (x + 1)) (fN V (x + 1)) ∧ DkC D D' := by
  have pw := hw.1
  have hb43 := pw.1
  have hx64 := hx.2
  obtain ⟨kc, -⟩ := j_kind (D2 := D) hN1 hN h hx
  have kle := (hw.2.1 x hx).1
  have hpz := hw.pz hx
  have hsz := hpz.1
  have hP : ∀ y, y < 4234 → pv V x y ≠ 0 → ¬ Pn V x (pv V x y) := fun y hy h0 ⟨_, i, y', i1, i2, i3, i4⟩ => by
    have := (pw.2.2.1 i y' x y ⟨i1, by omega⟩ i3 hx hy (by rw [i4]; exact h0) i4).1
    omega
  rw [d_X1_lookAtInode, bnd_o kc, if_neg (show ¬ (2 : Int32) < nI (f1 V x 0) from nI_nlt (a := 2) (by omega) (by decide)), bnd_o ck_ask, d_X1_lookAtInode_23]
  by_cases k0 : f1 V x 0 = 0
  · have zb := hw.2.2.1 x hx k0
    have z0 := no_pv hw.s hx k0
    have zz : ∀ a, a + 4 ≤ 32 → f4 V x a = 0 := fun a ha => by
      unfold f4 n4 n2
      rw [zb a (by omega), show startM x + a + 1 = startM x + (a + 1) by omega, zb (a + 1) (by omega), show startM x + a + 2 = startM x + (a + 2) by omega, zb (a + 2) (by omega), show startM x + (a + 2) + 1 = startM x + (a + 3) by omega, zb (a + 3) (by omega)]
    have e1 : f1 V x 1 = 0 := zb 1 (by decide)
    have l1 : d_X7_links N (vA A) D (nI x) = some 0 := by
      rw [d_links hx.1 hx.2 hN1 hN, (f1_ag (a := 1) hN1 h.1.agu hb43 hx.2).1, e1]
      rfl
    have l2 : d_X7_size N (vA A) D (nI x) = some 0 := by
      rw [c_size hN1 hN h.1 hb43 hx]
      unfold szM
      rw [zz 4 (by decide)]
      rfl
    have l3 : d_X7_markOf N (vA A) D (nI x) = some 0 := by
      rw [d_mark hx.1 hx.2 hN1 hN, (f1_ag (a := 8) hN1 h.1.agu hb43 hx.2).2.2, zz 8 (by decide)]
      rfl
    have l4 : d_X7_firstTable N (vA A) D (nI x) = some 0 := by
      rw [d_first hx.1 hx.2 hN1 hN, (f1_ag (a := 28) hN1 h.1.agu hb43 hx.2).2.1, show f2 V x 28 = pv V x 8 from rfl, z0 8 (by decide)]
      rfl
    have l5 : d_X7_secondTable N (vA A) D (nI x) = some 0 := by
      rw [d_second hx.1 hx.2 hN1 hN, (f1_ag (a := 30) hN1 h.1.agu hb43 hx.2).2.1, show f2 V x 30 = pv V x 9 from rfl, z0 9 (by decide)]
      rfl
    have q75 : d_X1_lookAtFree_75 N (vA A) fuL D (nI x) 0 = some D := ck_75 hN1 hN h.1 pw hx z0 fuL 0 (by decide) (by rw [fuL_4]; omega)
    rw [k0, nI_0, i00, d_X1_lookAtFree, bnd_o l1, i00, bnd_o l2, i00, bnd_o l3, i00, bnd_o ck_ask, d_X1_lookAtFree_42, bnd_o l4, i00, bnd_o l5, i00, bnd_o ck_ask, bnd_o q75]
    refine ⟨D, rfl, hc.cg (fun b _ _ => ⟨fun ⟨b0, i, y, i1, i2, i3, i4⟩ => ⟨b0, i, y, i1, by omega, i3, i4⟩, fun ⟨b0, i, y, i1, i2, i3, i4⟩ => ⟨b0, i, y, i1, ?_, i3, i4⟩⟩) (fun j _ _ => ?_), DkC.rf⟩
    · by_cases ei : i = x
      · rw [ei, z0 y i3] at i4
        exact absurd i4.symm b0
      · omega
    · unfold fN
      rw [nmC_no2 (by rw [k0]; decide)]
  · obtain ⟨D1, t1, t2, t3⟩ := ck_tabs hN1 hN h.1 pw hx hP hc
    obtain ⟨D2, g1, g2, g3⟩ := c_gather (D := D1) hN1 hN h (pw.pto hx) hx hsz
    obtain ⟨e, he⟩ : ∃ e, e = bfM (szM V x) := ⟨_, rfl⟩
    rw [← he] at g2
    have he3 : e ≤ 3200 := by
      unfold bfM at he
      omega
    have c79 : CkD N D2 (fun b => Pn V x b ∨ FSx V x (fun y => tbx y ∨ ∃ p, p < 0 ∧ y = px p) b) (fN V x) := ck_fs (t2.ga g3) (fun y _ _ => ⟨Or.inl, fun z => z.resolve_right (fun ⟨p, p1, _⟩ => absurd p1 (Nat.not_lt_zero _))⟩)
    obtain ⟨k, D3, r1, r2, r3, r4⟩ := ck_79 (U := vA A) (kd := f1 V x 0) (sz := szM V x) hN pw hx he3 hP e 0 fuL D2 (by omega) (by rw [fuL_4]; have := nc_le (V := V) (i := x) e; omega) g2 c79
    have r1 : d_X1_lookAtInode_79 N (vA A) fuL D2 (nI (f1 V x 0)) (nI (szM V x)) 0 = _ := r1
    have r2 : CkD N D3 (Pn V (x + 1)) (fN V x) := r2.cg (fun b _ _ => ⟨fun z => ?_, fun z => ?_⟩) (fun _ _ _ => rfl)
    rotate_left
    · rcases z with ⟨b0, i, y, i1, i2, i3, i4⟩ | ⟨b0, y, y1, _, y3⟩
      · exact ⟨b0, i, y, i1, by omega, i3, i4⟩
      · exact ⟨b0, x, y, hx.1, by omega, y1, y3⟩
    · obtain ⟨b0, i, y, i1, i2, i3, i4⟩ := z
      by_cases ei : i = x
      · rw [ei] at i4
        refine Or.inr ⟨b0, y, i3, ?_, i4⟩
        by_cases ty : tbx y
        · exact Or.inl ty
        · obtain ⟨p, p1, p2, -⟩ := px_of i3 ty
          refine Or.inr ⟨p, Classical.byContradiction (fun z => b0 ?_), p2⟩
          rw [← i4, p2]
          exact hpz.2 p (by omega) p1
      · exact Or.inl ⟨b0, i, y, i1, by omega, i3, i4⟩
    have l2 : d_X7_size N (vA A) D (nI x) = some (nI (szM V x)) := c_size hN1 hN h.1 hb43 hx
    have hle := nc_le (V := V) (i := x) e
    rw [if_neg (show ¬ nI (f1 V x 0) = 0 from nI_ne0 (by omega) (by omega)), bnd_o l2, if_neg (nI_nn (show szM V x < 2 ^ 31 by omega)), if_pos (show nI (szM V x) ≤ (400000 : Int32) from nI_le (b := 400000) hsz (by decide)), bnd_o t1, bnd_o g1, r1, d_X1_lookAtInode_79, r4.1, if_pos (nI_le (Nat.le_refl _) (by omega))]
    by_cases k2 : f1 V x 0 = 2
    · obtain ⟨m1, m2⟩ := hw.2.2.2.2.1 x hx k2
      have ee : e = szM V x / 128 := by
        unfold bfM at he
        omega
      have hne : ∀ q, q < e → pv V x (px q) ≠ 0 := fun q hq => m2 q (by omega)
      have hslot : ∀ q s, q < e → s < 8 → SlO V (V (pv V x (px q))) (16 * s) := fun q s hq hs => by
        have z := hw.2.2.2.2.2.1 x (8 * q + s) hx k2 (by omega)
        rw [show (8 * q + s) / 8 = q by omega, show (8 * q + s) % 8 = s by omega] at z
        exact z
      obtain ⟨D4, v1, v2, v3⟩ := ck_151 (P := Pn V (x + 1)) (f := fN V x) hN1 hN R h.1 pw hx he3 hne hslot e 0 fuL D3 (by omega) (by rw [fuL_4]; omega) r4 (r2.cg (fun _ _ _ => Iff.rfl) (fun j _ _ => rfl))
      have v1 : d_X1_lookAtInode_151 N (vA A) fuL D3 0 = some D4 := v1
      have emod : nI (szM V x) - nI (szM V x) / 128 * 128 = 0 := by
        rw [show (128 : Int32) = nI 128 from rfl, pk_div (by omega) (by decide) (by decide), pk_mul, pk_sub (by omega), show szM V x - szM V x / 128 * 128 = 0 by omega]
        rfl
      have edv : nI (ncM V x 0 e) = nI (szM V x) / 128 := by
        rw [nc_dir hne e (Nat.le_refl _), q_dv _ (by omega), ee]
      rw [if_pos (show nI (f1 V x 0) = (2 : Int32) by rw [k2]; rfl), if_pos emod, if_pos edv, bnd_o ck_ask, v1]
      refine ⟨D4, rfl, v2.cg (fun _ _ _ => Iff.rfl) (fun j _ _ => ?_), ((t3.tr g3.dkC).tr r3).tr v3⟩
      unfold fN
      rw [nmC_ge k2 hx.1, show 8 * e = szM V x / 16 by omega, Nat.add_assoc]
    · rw [if_neg (nx2 k2 (by omega))]
      refine ⟨D3, rfl, r2.cg (fun _ _ _ => Iff.rfl) (fun j _ _ => ?_), (t3.tr g3.dkC).tr r3⟩
      unfold fN
      rw [nmC_no2 k2]
end PZQ
