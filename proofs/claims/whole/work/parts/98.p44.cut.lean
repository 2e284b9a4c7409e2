/-! ===== pure: the class cuts an inode ===== -/
section PVU
variable {N B gr : Nat} {V : Nat → Rw} {i : Nat} {m : M5} {tk : Nat → Bool} {X : Nat → Prop}
theorem c_cutB_l {a e kp : Nat} (C : CutH N V i) (he : e ≤ 4168) (hkp : kp < 2 ^ 30) (hX : ∀ q, a ≤ q → q < e → X (px q)) (hts : ∀ q, a ≤ q → q < e → tsM q kp = false → pv V i (px q) ≠ 0 → FSx V i X (ph V i (px q))) : ∀ (n p : Nat) (A : MS) (D : CfT) (S : Nat → Prop), a ≤ p → e - p < n → p < 2 ^ 30 → CZ N A D m V tk i X S → (∀ x, tbx x → ¬ S x) → (∀ q, p ≤ q → q < e → ¬ S (px q)) → ∃ A' D', d_X7_cutBlocks_20 N n A D (nI i) (nI kp) (nI (ncM V i a (min p e))) (nI e) (nI p) = some (nI (ncM V i a e), A', D') ∧ CZ N A' D' m V tk i X (fun x => S x ∨ ∃ q, p ≤ q ∧ q < e ∧ x = px q) ∧ gA A' = gA A ∧ Dt D D' := by
  obtain ⟨c1, c2, c3, c4, c5, c6, c7⟩ := id C
  intro n
  induction n with
  | zero => intro p _ _ _ _ h; exact absurd h (Nat.not_lt_zero _)
  | succ n ih =>
    intro p A D S hap hn hp30 hz hS hSp
    have hSX : ∀ x, S x → X x := by
      obtain ⟨m', V', tk', -, h2⟩ := hz
      exact h2.1
    rw [d_X7_cutBlocks_20]
    by_cases c : e ≤ p
    · rw [if_pos (nI_le c (by omega)), Nat.min_eq_right c]
      exact ⟨A, D, rfl, hz.eq (fun x _ _ => ⟨Or.inl, fun z => z.elim id (fun ⟨q, q1, q2, _⟩ => by omega)⟩) (fun x z => z.elim (hSX x) (fun ⟨q, q1, q2, _⟩ => by omega)), rfl, Dt.rf⟩
    · have hpe : p < e := by omega
      have hp : p < 4168 := by omega
      rw [if_neg (nI_ge (by omega) (by omega)), bnd_o (hz.reach C hS hp), Nat.min_eq_left (by omega)]
      by_cases c0 : ph V i (px p) = 0
      · rw [if_pos (by rw [c0]; rfl), bnd_o (d_lB (by omega)), nI_1]
        have hlb : p ≤ lbM p := by
          unfold lbM
          split
          · omega
          · omega
        have hlb2 : lbM p < 5000 := by
          unfold lbM
          split
          · omega
          · omega
        have hz0 : ∀ q, p ≤ q → q < lbM p + 1 → pv V i (px q) = 0 := fun q h1 h2 => (lb_0 hp c0 h1 (by omega)).2
        have hnc : ncM V i a p = ncM V i a (min (lbM p + 1) e) := by
          refine (ncM_skip _ (by omega) (fun x h1 h2 => hz0 x h1 (by omega))).symm
        rw [hnc]
        obtain ⟨A', D', r1, r2, r3, r4⟩ := ih (lbM p + 1) A D S (by omega) (by omega) (by omega) hz hS (fun q h1 h2 => hSp q (by omega) h2)
        refine ⟨A', D', r1, r2.eq (fun x hx4 hne => ⟨fun z => z.elim Or.inl (fun ⟨q, q1, q2, q3⟩ => Or.inr ⟨q, by omega, q2, q3⟩), fun z => z.elim Or.inl (fun ⟨q, q1, q2, q3⟩ => ?_)⟩) (fun x z => z.elim (hSX x) (fun ⟨q, q1, q2, q3⟩ => by rw [q3]; exact hX q (by omega) q2)), r3, r4⟩
        by_cases cq : q < lbM p + 1
        · exact absurd (by rw [q3]; exact hz0 q q1 cq) hne
        · exact Or.inr ⟨q, by omega, q2, q3⟩
      · have hSpp := hSp p (Nat.le_refl _) hpe
        have hhS : 10 ≤ px p → ¬ S (hx (px p)) := fun h10 => hS _ (hx_px h10 (px_lt hp))
        obtain ⟨t1, t2, t3⟩ := hz.at C (px_lt hp) hSpp hhS c0
        have hpo := po_lt (i := i) (px_lt hp)
        rw [if_neg (nI_ne0 (by omega) (by omega)), see_n t3 c2, bnd_o (d_sp c3 c4 hp), bnd_o (d_two (by omega) (by decide)), t1]
        have fin : ∀ (A1 : MS) (D1 : CfT), CZ N A1 D1 m V tk i X (fun y => S y ∨ y = px p) → gA A1 = gA A → Dt D D1 → ∃ A' D', d_X7_cutBlocks_20 N n A1 D1 (nI i) (nI kp) (nI (ncM V i a (p + 1))) (nI e) (nI (p + 1)) = some (nI (ncM V i a e), A', D') ∧ CZ N A' D' m V tk i X (fun x => S x ∨ ∃ q, p ≤ q ∧ q < e ∧ x = px q) ∧ gA A' = gA A ∧ Dt D D' := fun A1 D1 hz1 hg hd => by
          obtain ⟨A', D', r1, r2, r3, r4⟩ := ih (p + 1) A1 D1 _ (by omega) (by omega) (by omega) hz1 (fun x hx z => z.elim (hS x hx) (fun y => by rw [y] at hx; exact px_tb hx)) (fun q h1 h2 z => z.elim (hSp q (by omega) h2) (fun y => by
            have := px_inj y
            omega))
          rw [Nat.min_eq_left (show p + 1 ≤ e by omega)] at r1
          refine ⟨A', D', r1, r2.eq (fun x _ _ => ⟨fun z => ?_, fun z => ?_⟩) (fun x z => z.elim (hSX x) (fun ⟨q, q1, q2, q3⟩ => by rw [q3]; exact hX q (by omega) q2)), r3.trans hg, hd.tr r4⟩
          · rcases z with (z | z) | ⟨q, q1, q2, q3⟩
            · exact Or.inl z
            · exact Or.inr ⟨p, Nat.le_refl _, hpe, z⟩
            · exact Or.inr ⟨q, by omega, q2, q3⟩
          · rcases z with z | ⟨q, q1, q2, q3⟩
            · exact Or.inl (Or.inl z)
            · by_cases cq : q = p
              · exact Or.inl (Or.inr (by rw [q3, cq]))
              · exact Or.inr ⟨q, by omega, q2, q3⟩
        have hnc1 : ncM V i a (p + 1) = ncM V i a p + if a ≤ p ∧ pv V i (px p) ≠ 0 then 1 else 0 := rfl
        by_cases cv : pv V i (px p) = 0
        · have hnc2 : ncM V i a (p + 1) = ncM V i a p := by
            rw [hnc1, if_neg (fun z => z.2 cv)]
            rfl
          rw [if_pos (by rw [cv]; rfl), nI_1, ← hnc2]
          exact fin A D (hz.skip (hX p hap hpe) cv) rfl Dt.rf
        · rw [if_pos ⟨hap, cv⟩] at hnc1
          have hpv := ((c7.1 _ (px_lt hp)).resolve_left cv).2.1
          rw [if_neg (nI_ne0 (by omega) (by omega))]
          cases ts : tsM p kp with
          | false =>
            obtain ⟨A1, D1, e1, y1, g1, d1⟩ := hz.cut C (px_lt hp) (hX p hap hpe) hSpp cv (hts p hap hpe ts cv)
            rw [bnd2_o e1, bnd_o (d_tS (by omega) hkp), ts, if_pos (show bI false = 0 from rfl), nI_1, nI_1, ← hnc1]
            exact fin A1 D1 y1 g1 d1
          | true =>
            obtain ⟨A1, D1, A2, D2, A3, e1, e2, e3, y1, g1, d1⟩ := hz.cutZ C (px_lt hp) (hX p hap hpe) hSpp hhS cv
            rw [bnd2_o e1, bnd_o (d_tS (by omega) hkp), ts, if_neg (show ¬ bI true = 0 by decide), bnd2_o e2, bnd_o (d_sp c3 c4 hp), nI_clamp (by omega), bnd_o e3, nI_1, nI_1, ← hnc1]
            exact fin A3 D2 y1 g1 d1
/-- the tables of an inode go -/
def tJ (k j x : Nat) : Prop := cX k x ∧ (¬ tbx x ∨ x = 8 ∨ (74 ≤ x ∧ x < 138 ∧ x - 74 < j))
theorem c_cutT62 {k st : Nat} (C : CutH N V i) (hst : pv V i 9 = st) (c0 : st ≠ 0) (hk : k < 2 ^ 30) : ∀ (n j : Nat) (A : MS) (D : CfT), j ≤ 64 → 64 - j < n → CZ N A D m V tk i (cX k) (tJ k j) → ∃ A' D', d_X7_cutTables_62 N n A D (nI i) (nI k) (nI st) (nI j) = some (A', D') ∧ CZ N A' D' m V tk i (cX k) (cX k) ∧ gA A' = gA A ∧ Dt D D' := by
  obtain ⟨c1, c2, c3, c4, c5, c6, c7⟩ := id C
  have hstN : st < N := by
    rcases c7.1 9 (by decide) with z | z
    · omega
    · omega
  intro n
  induction n with
  | zero => intro j _ _ _ h; exact absurd h (Nat.not_lt_zero _)
  | succ n ih =>
    intro j A D hj hn hz
    have hS9 : ∀ j, ¬ tJ k j 9 := fun j z => by
      rcases z.2 with z | z | z
      · exact z (Or.inr (Or.inl rfl))
      · omega
      · omega
    rw [d_X7_cutTables_62]
    by_cases cj : j = 64
    · rw [cj, if_pos (show (64 : Int32) ≤ nI 64 from nI_le (a := 64) (b := 64) (by decide) (by decide))]
      rw [cj] at hz
      have hall : ∀ x, x < 4234 → x ≠ 9 → cX k x → tJ k 64 x := fun x hx4 h9 hc => ⟨hc, by
        unfold tbx
        by_cases q : 74 ≤ x ∧ x < 138
        · exact Or.inr (Or.inr ⟨q.1, q.2, by omega⟩)
        · by_cases q8 : x = 8
          · exact Or.inr (Or.inl q8)
          · exact Or.inl (fun z => by omega)⟩
      by_cases ck : k ≤ 72
      · rw [if_neg (show ¬ (72 : Int32) < nI k from fun z => absurd (nI_le (a := k) (b := 72) ck (by decide)) (Int32.not_le.mpr z))]
        obtain ⟨A1, D1, A2, D2, A3, e1, e2, e3, y3, g3, d3⟩ := hz.cutZ C (show 9 < 4234 by decide) (cX_9.mpr ck) (hS9 64) (fun z => by omega) (by rw [hst]; exact c0)
        have hh := homeM_lt c4
        rw [hst] at e1
        rw [show ph V i 9 = homeM i from rfl] at e2 e3
        rw [show po i 9 = startM i + 30 from rfl] at e3
        rw [bnd2_o e1, bnd_o (d_homeS c3 c4).1, bnd2_o e2, bnd_o (d_homeS c3 c4).2, nI_clamp (by omega), show (30 : Int32) = nI 30 from rfl, nI_add, bnd_o e3]
        refine ⟨A3, D2, rfl, y3.eq (fun x hx4 hne => ⟨fun z => z.elim (fun z => z.1) (fun z => by rw [z]; exact cX_9.mpr ck), fun z => ?_⟩) (fun x z => z), g3, d3⟩
        by_cases q : x = 9
        · exact Or.inr q
        · exact Or.inl (hall x hx4 q z)
      · rw [if_pos (show (72 : Int32) < nI k from Int32.not_le.mp (nI_ge (a := 72) (by omega) (by omega)))]
        refine ⟨A, D, rfl, hz.eq (fun x hx4 hne => ⟨fun z => z.1, fun z => hall x hx4 (fun e => ?_) z⟩) (fun x z => z), rfl, Dt.rf⟩
        rw [e] at z
        exact ck (cX_9.mp z)
    · have hj64 : j < 64 := by omega
      have hSj : ¬ tJ k j (74 + j) := fun z => by
        rcases z.2 with z | z | z
        · exact z (Or.inr (Or.inr ⟨by omega, by omega⟩))
        · omega
        · omega
      have hph : ph V i (74 + j) = st := by
        rw [ph_2 (by omega) (by omega), hst]
      obtain ⟨s1, s2, s3⟩ := hz.at C (show 74 + j < 4234 by omega) hSj (fun _ => by rw [hx_74 hj64]; exact hS9 j) (by rw [hph]; exact c0)
      rw [hph, po_74 hj64] at s1
      have hto : d_X7_tableOfSecond N (vA A) D (nI st) (nI j) = some (nI (pv V i (74 + j))) := by
        rw [d_X7_tableOfSecond, if_neg (nI_ne0 (by omega) (by omega)), see_n hstN c2, show (2 : Int32) * nI j = nI (2 * j) from pk_mul 2 j, bnd_o (d_two (by omega) (by decide)), s1]
      rw [if_neg (show ¬ (64 : Int32) ≤ nI j from nI_ge (a := j) (b := 64) (by omega) (by decide)), bnd_o hto, nI_1]
      have next : ∀ (A1 : MS) (D1 : CfT) (S : Nat → Prop), CZ N A1 D1 m V tk i (cX k) S → (∀ x, x < 4234 → pv V i x ≠ 0 → (S x ↔ tJ k (j + 1) x)) → gA A1 = gA A → Dt D D1 → ∃ A' D', d_X7_cutTables_62 N n A1 D1 (nI i) (nI k) (nI st) (nI (j + 1)) = some (A', D') ∧ CZ N A' D' m V tk i (cX k) (cX k) ∧ gA A' = gA A ∧ Dt D D' := fun A1 D1 S hz1 he g1 d1 => by
        obtain ⟨A', D', r1, r2, r3, r4⟩ := ih (j + 1) A1 D1 (by omega) (by omega) (hz1.eq he (fun x z => z.1))
        exact ⟨A', D', r1, r2, r3.trans g1, d1.tr r4⟩
      have up : ∀ x, tJ k j x → tJ k (j + 1) x := fun x z => ⟨z.1, by
        rcases z.2 with z | z | z
        · exact Or.inl z
        · exact Or.inr (Or.inl z)
        · exact Or.inr (Or.inr ⟨z.1, z.2.1, by omega⟩)⟩
      have dn : ∀ x, x ≠ 74 + j → tJ k (j + 1) x → tJ k j x := fun x hne z => ⟨z.1, by
        rcases z.2 with z | z | z
        · exact Or.inl z
        · exact Or.inr (Or.inl z)
        · exact Or.inr (Or.inr ⟨z.1, z.2.1, by omega⟩)⟩
      by_cases ct : pv V i (74 + j) = 0
      · rw [if_pos (by rw [ct]; rfl)]
        exact next A D _ hz (fun x hx4 hne => ⟨up x, dn x (fun e => hne (by rw [e]; exact ct))⟩) rfl Dt.rf
      · have htN : pv V i (74 + j) < N := ((c7.1 _ (show 74 + j < 4234 by omega)).resolve_left ct).2.1
        have e7 : (72 : Int32) + (64 : Int32) * nI j = nI (72 + 64 * j) := by
          rw [show (64 : Int32) = nI 64 from rfl, show (72 : Int32) = nI 72 from rfl, pk_mul, nI_add]
        rw [if_neg (nI_ne0 (by omega) (by omega)), e7]
        by_cases cb : 72 + 64 * j < k
        · rw [if_pos (nI_lt cb (by omega))]
          refine next A D _ hz (fun x hx4 hne => ⟨up x, fun z => dn x (fun e => ?_) z⟩) rfl Dt.rf
          have := (cX_2 (k := k) (x := x) (by omega) (by omega)).mp z.1
          omega
        · have hXt : cX k (74 + j) := (cX_2 (by omega) (by omega)).mpr (by omega)
          rw [if_neg (show ¬ nI (72 + 64 * j) < nI k from fun z => absurd (nI_le (a := k) (b := 72 + 64 * j) (by omega) (by omega)) (Int32.not_le.mpr z))]
          have hfin : ∀ x, x < 4234 → pv V i x ≠ 0 → ((tJ k j x ∨ x = 74 + j) ↔ tJ k (j + 1) x) := fun x hx4 hne => ⟨fun z => z.elim (up x) (fun e => by rw [e]; exact ⟨hXt, Or.inr (Or.inr ⟨by omega, by omega, by omega⟩)⟩), fun z => by
            by_cases q : x = 74 + j
            · exact Or.inr q
            · exact Or.inl (dn x q z)⟩
          by_cases ck : k ≤ 72
          · obtain ⟨A1, D1, e1, y1, g1, d1⟩ := hz.cut C (show 74 + j < 4234 by omega) hXt hSj ct (by rw [hph]; exact ⟨c0, 9, by decide, cX_9.mpr ck, hst⟩)
            rw [bnd2_o e1, if_pos (show nI k ≤ (72 : Int32) from nI_le (b := 72) ck (by decide))]
            exact next A1 D1 _ y1 hfin g1 d1
          · obtain ⟨A1, D1, A2, D2, A3, e1, e2, e3, y3, g3, d3⟩ := hz.cutZ C (show 74 + j < 4234 by omega) hXt hSj (fun _ => by rw [hx_74 hj64]; exact hS9 j) ct
            rw [hph] at e2 e3
            rw [po_74 hj64] at e3
            rw [bnd2_o e1, if_neg (show ¬ nI k ≤ (72 : Int32) from nI_ge (a := 72) (by omega) (by omega)), bnd2_o e2, nI_clamp (by omega), show (2 : Int32) * nI j = nI (2 * j) from pk_mul 2 j, bnd_o e3]
            exact next A3 D2 _ y3 hfin g3 d3
theorem c_cutT46 {k : Nat} (C : CutH N V i) (hk : k < 2 ^ 30) {A : MS} {D : CfT} (hz : CZ N A D m V tk i (cX k) (tJ k 0)) : ∃ A' D', d_X7_cutTables_46 N A D (nI i) (nI k) = some (A', D') ∧ CZ N A' D' m V tk i (cX k) (cX k) ∧ gA A' = gA A ∧ Dt D D' := by
  obtain ⟨c1, c2, c3, c4, c5, c6, c7⟩ := id C
  have hS9 : ¬ tJ k 0 9 := fun z => by
    rcases z.2 with z | z | z
    · exact z (Or.inr (Or.inl rfl))
    · omega
    · omega
  have q9 := (hz.at C (show 9 < 4234 by decide) hS9 (fun z => by omega) (homeM_ne i)).1
  have q9 : f2 (vA A) i 30 = pv V i 9 := q9
  rw [d_X7_cutTables_46, bnd_o (d_second c3 c4 c1 c2), q9]
  by_cases c0 : pv V i 9 = 0
  · have z2 : ∀ x, 74 ≤ x → x < 138 → pv V i x = 0 := fun x h1 h2 => by
      rw [pv_2 h1 h2, c0]
      exact if_pos rfl
    rw [if_pos (by rw [c0]; rfl)]
    refine ⟨A, D, rfl, hz.eq (fun x hx4 hne => ⟨fun z => z.1, fun z => ⟨z, ?_⟩⟩) (fun x z => z), rfl, Dt.rf⟩
    by_cases q8 : x = 8
    · exact Or.inr (Or.inl q8)
    · refine Or.inl (fun y => ?_)
      rcases y with y | y | y
      · exact q8 y
      · exact hne (by rw [y]; exact c0)
      · exact hne (z2 x y.1 y.2)
  · have h9 : pv V i 9 < N := ((c7.1 _ (show 9 < 4234 by decide)).resolve_left c0).2.1
    rw [if_neg (nI_ne0 (by omega) (by omega))]
    exact c_cutT62 C rfl c0 hk fuL 0 A D (Nat.zero_le _) (by rw [fuL_4]; omega) hz
theorem c_cutT {k : Nat} (C : CutH N V i) (hk : k < 2 ^ 30) {A : MS} {D : CfT} (hz : CZ N A D m V tk i (cX k) (fun x => cX k x ∧ ¬ tbx x)) : ∃ A' D', d_X7_cutTables N A D (nI i) (nI k) = some (A', D') ∧ CZ N A' D' m V tk i (cX k) (cX k) ∧ gA A' = gA A ∧ Dt D D' := by
  obtain ⟨c1, c2, c3, c4, c5, c6, c7⟩ := id C
  have hS8 : ¬ (cX k 8 ∧ ¬ tbx 8) := fun z => z.2 (Or.inl rfl)
  have q8 := (hz.at C (show 8 < 4234 by decide) hS8 (fun z => by omega) (homeM_ne i)).1
  have q8 : f2 (vA A) i 28 = pv V i 8 := q8
  rw [d_X7_cutTables, bnd_o (d_first c3 c4 c1 c2), q8]
  have e0 : ∀ x, x ≠ 8 → ((cX k x ∧ ¬ tbx x) ↔ tJ k 0 x) := fun x h8 => ⟨fun z => ⟨z.1, Or.inl z.2⟩, fun z => ⟨z.1, by
    rcases z.2 with q | q | q
    · exact q
    · exact absurd q h8
    · omega⟩⟩
  by_cases c0 : pv V i 8 = 0
  · rw [if_pos (by rw [c0]; rfl)]
    exact c_cutT46 C hk (hz.eq (fun x hx4 hne => e0 x (fun e => hne (by rw [e]; exact c0))) (fun x z => z.1))
  · have h8 : pv V i 8 < N := ((c7.1 _ (show 8 < 4234 by decide)).resolve_left c0).2.1
    rw [if_neg (nI_ne0 (by omega) (by omega))]
    by_cases ck : 8 < k
    · rw [if_pos (show (8 : Int32) < nI k from Int32.not_le.mp (nI_ge (a := 8) ck (by omega)))]
      refine c_cutT46 C hk (hz.eq (fun x hx4 hne => ?_) (fun x z => z.1))
      by_cases q : x = 8
      · rw [q]
        exact ⟨fun z => absurd z hS8, fun z => by
          have := cX_8.mp z.1
          omega⟩
      · exact e0 x q
    · rw [if_neg (show ¬ (8 : Int32) < nI k from fun z => absurd (nI_le (a := k) (b := 8) (by omega) (by decide)) (Int32.not_le.mpr z))]
      have hX8 : cX k 8 := cX_8.mpr (by omega)
      obtain ⟨A1, D1, A2, D2, A3, e1, e2, e3, y3, g3, d3⟩ := hz.cutZ C (show 8 < 4234 by decide) hX8 hS8 (fun z => by omega) c0
      have hh := homeM_lt c4
      rw [show ph V i 8 = homeM i from rfl] at e2 e3
      rw [show po i 8 = startM i + 28 from rfl] at e3
      rw [bnd2_o e1, bnd_o (d_homeS c3 c4).1, bnd2_o e2, bnd_o (d_homeS c3 c4).2, nI_clamp (by omega), show (28 : Int32) = nI 28 from rfl, nI_add, bnd_o e3]
      obtain ⟨A', D', r1, r2, r3, r4⟩ := c_cutT46 C hk (A := A3) (D := D2) (y3.eq (fun x hx4 hne => by
        by_cases q : x = 8
        · rw [q]
          exact ⟨fun _ => ⟨hX8, Or.inr (Or.inl rfl)⟩, fun _ => Or.inr rfl⟩
        · exact ⟨fun z => z.elim (e0 x q).mp (fun y => absurd y q), fun z => Or.inl ((e0 x q).mpr z)⟩) (fun x z => z.1))
      exact ⟨A', D', r1, r2, r3.trans g3, d3.tr r4⟩
end PVU
