/-! ===== pure: a name more, inside a call ===== -/
section PXC
variable {N B gr r : Nat} {V W : Nat → Rw} {m : M5} {tk : Nat → Bool} {d s : Nat} {ow : Nat → Int} {s0 : S3} {l : List Nat} {A : MS} {D : CfT} {R : RfT} {tp : Nat → Int32}
theorem nm_in {b a t st ln o : Nat} (ho : o < 128) : nmV V b a (nI t) tp st ln b o = if a + 3 ≤ o ∧ o < a + 3 + ln then tp (st + (o - (a + 3))) else wB (wB (V b) a (nI t) 2) (a + 2) (nI ln) 1 o := by
  show vU V b _ b o = _
  rw [vU_s]
  unfold nr
  rw [if_pos ho]
  rfl
theorem nm_row {b a t st ln : Nat} (hl : ln ≤ 13) : RowC V (nmV V b a (nI t) tp st ln) b a := ⟨fun c hc => vU_n hc, fun o ho h => by
  rw [nm_in ho, if_neg (by omega), wB_out 1 (by omega), wB_out 2 (by omega)]⟩
theorem nm_n2 {b a t st ln : Nat} (ha : a + 16 ≤ 128) (ht : t < 65536) : n2 (nmV V b a (nI t) tp st ln b) a = t := by
  have e : n2 (nmV V b a (nI t) tp st ln b) a = n2 (nr (wB (V b) a (nI t) 2)) a := by
    refine n2_c ?_ ?_
    · rw [nm_in (by omega), if_neg (by omega), wB_out 1 (by omega)]
      unfold nr
      rw [if_pos (by omega)]
    · rw [nm_in (by omega), if_neg (by omega), wB_out 1 (by omega)]
      unfold nr
      rw [if_pos (by omega)]
  rw [e, n2_i (by omega) ht]
theorem nar_ln {n : Nat} (h : n ≤ 13) : vp_nar .byte (nI n).toInt8.toInt32 = nI n := by
  have q : ∀ k : Fin 14, vp_nar .byte (nI k.1).toInt8.toInt32 = nI k.1 := by decide
  exact q ⟨n, by omega⟩
theorem nm_slo {b a t st ln : Nat} (ha : a + 16 ≤ 128) (ht : ir t) (htk : f1 V t 0 ≠ 0) (hn : nmOk tp st ln) (hz : ∀ o, a + 2 ≤ o → o < a + 16 → V b o = 0) : SlO V (nmV V b a (nI t) tp st ln b) a := by
  have ht1 := ht.1
  have ht2 := ht.2
  obtain ⟨n1, n2', n3, n4⟩ := hn
  have en := nm_n2 (V := V) (tp := tp) (b := b) (st := st) (ln := ln) ha (show t < 65536 by omega)
  refine Or.inr ⟨by rw [en]; omega, by rw [en]; exact ht2, by rw [en]; exact htk, ln, ?_, ⟨n1, n2', fun k hk => ?_, fun hl => ?_⟩, fun o o1 o2 => ?_⟩
  · rw [nm_in (by omega), if_neg (by omega), wB_1, pk_us, nar_ln n2']
  · rw [nm_in (by omega), if_pos (by omega), show st + (a + 3 + k - (a + 3)) = st + k by omega]
    exact n3 k hk
  · obtain ⟨k, k1, k2⟩ := n4 hl
    refine ⟨k, k1, ?_⟩
    rw [nm_in (by omega), if_pos (by omega), show st + (a + 3 + k - (a + 3)) = st + k by omega]
    exact k2
  · rw [nm_in (by omega), if_neg (by omega), wB_out 1 (by omega), wB_out 2 (by omega)]
    exact hz o (by omega) o2
theorem w_nm47 {k t : Nat} {st ln : Nat → Nat} (hN1 : 61 ≤ N) (hN : N ≤ 1024) (h : WK N B gr r s0 l A D R m V tk ow) (hd : ir d) (hk : f1 V d 0 = 2) (hs : s < szM V d / 16) (ht : ir t) (htk : f1 V t 0 ≠ 0) (hs0 : sln V d s = 0) (hTp : TpR D R tp) (hC : PthC47 D k st ln) (hNm : NmS tp k st ln) (hk1 : 1 ≤ k) : ∃ A' D' R', d_X4_addName_47_55 N B gr A D (nI d) (nI t) (nI s) = some (.inl ((), A', D')) ∧ e_addName_65 R (nI d) (nI (st (k - 1))) (nI (ln (k - 1))) (nI t) (nI s) = some R' ∧ WK N B gr r s0 ([pv V d (px (s / 8))] ++ l) A' D' R' m (nmV V (pv V d (px (s / 8))) (16 * (s % 8)) (nI t) tp (st (k - 1)) (ln (k - 1))) tk (fun i => ow i + (if sln V d s = i then 1 else 0) - (if t = i then 1 else 0)) ∧ gA A' = gA A ∧ Dt D D' ∧ Fn [33] [30, 31, 32, 36, 43] R R' := by
  obtain ⟨q1, q2, q3⟩ := h.2.1.dblk hd hk hs
  have ht1 := ht.1
  have ht2 := ht.2
  obtain ⟨c1, c2, c3⟩ := hC
  obtain ⟨hn, hsl⟩ := hNm (k - 1) (by omega)
  obtain ⟨e48, e49⟩ := c3 (k - 1) (by omega)
  obtain ⟨A1, D1, e1, x1, o1, g1, t1, w1⟩ := c_rowOf hN1 hN h.1.1 (h.2.1.1.pto hd) hd.1 hd.2 q1 q2
  have hD1 : cA D1 1 = cA D 1 := t1.2 1 (by decide)
  obtain ⟨A2, A3, A4, R', a1, a2, a3, a4, a5, a6, a7, a8⟩ := j_name (t := nI t) hN1 hN h.1 (h.2.1.1.pto hd) hd.1 hd.2 q1 q2 hn.2.1 hsl hTp.1 hTp.2.1 hTp.2.2 e1 x1 o1 hD1
  refine ⟨A4, D1, R', ?_, a4, ?_, a6.trans g1, t1, a7⟩
  · have es : cS D 4702 - 1 = nI (k - 1) := by
      rw [c1]
      show nI k - nI 1 = _
      rw [pk_sub hk1]
    have d48 : cA D1 48 = cA D 48 := t1.2 48 (by decide)
    have d49 : cA D1 49 = cA D 49 := t1.2 49 (by decide)
    rw [d_X4_addName_47_55, bnd3_o e1, bnd_o (d_stO (by omega)), bnd_o a1, es, ld_n (by omega) (by decide), d49, e49, show nI (16 * (s % 8)) + 2 = nI (16 * (s % 8) + 2) from nI_add .., bnd_o a2, ld_n (by omega) (by decide), d48, e48, ld_n (by omega) (by decide), e49, show nI (16 * (s % 8)) + 3 = nI (16 * (s % 8) + 3) from nI_add .., bnd_o a3]
  · have hz : ∀ o, 16 * (s % 8) + 2 ≤ o → o < 16 * (s % 8) + 16 → V (pv V d (px (s / 8))) o = 0 := by
      rcases h.2.1.2.2.2.2.2.1 d s hd hk hs with z | z
      · exact z.2
      · exact absurd hs0 z.1
    have q := w_row hN1 hN h hd hk hs (nm_row (tp := tp) (st := st (k - 1)) (t := t) hn.2.1) (nm_slo (by omega) ht htk hn hz) a5 (fun P p1 p2 p3 => a8 P p1 (w1 P p1 p2) p3)
    rw [nm_n2 (by omega) (by omega)] at q
    exact q
/-- a name more: 47 -/
theorem w_add47 {k t : Nat} {st ln : Nat → Nat} (hN1 : 61 ≤ N) (hN : N ≤ 1024) (hd : ir d) (hk : f1 V d 0 = 2) (h : WK N B gr (r + wtM V d) s0 l A D R m V tk ow) (ht : ir t) (htk : f1 V t 0 ≠ 0) (hTp : TpR D R tp) (hC : PthC47 D k st ln) (hNm : NmS tp k st ln) (hk1 : 1 ≤ k) : (∃ A' D' R' m' W tk' l2, d_X4_addName_47 N B gr A D (nI d) (nI t) = some (.inl ((), A', D')) ∧ e_addName R (nI d) (nI (st (k - 1))) (nI (ln (k - 1))) (nI t) = some R' ∧ l2.length ≤ 6 ∧ WK N B gr r s0 (l2 ++ l) A' D' R' m' W tk' (fun i => ow i - (if t = i then 1 else 0)) ∧ gA A' = gA A ∧ Dt D D' ∧ Fq hS hT R R' ∧ (∀ j, ir j → f1 W j 0 = f1 V j 0 ∧ f1 W j 1 = f1 V j 1) ∧ (∀ j, ir j → j ≠ d → szM W j = szM V j ∧ ∀ x, x < 4234 → pv W j x = pv V j x) ∧ (∀ e s, ir e → e ≠ d → f1 V e 0 = 2 → s < szM V e / 16 → sln W e s = sln V e s)) ∨ (∃ A' D' R', d_X4_addName_47 N B gr A D (nI d) (nI t) = some (.inr (0, A', D')) ∧ e_addName R (nI d) (nI (st (k - 1))) (nI (ln (k - 1))) (nI t) = some R' ∧ Dd N R A'.1 R' ∧ Dt D D' ∧ FlT N B m A' D') := by
  have ht1 := ht.1
  obtain ⟨f1', f2'⟩ := j_freeSlotS (D2 := D) hN1 hN h.1 h.2.1 hd hk
  obtain ⟨z1, z2⟩ := h.2.1.2.2.2.2.1 d hd hk
  have hlim := h.2.1.dlim hd hk
  have hbl := h.2.1.db hd hk
  have tail : ∀ (U : Nat → Rw) (s1 : Nat) (m1 : M5) (tk1 : Nat → Bool) (A1 : MS) (D1 : CfT) (R1 : RfT) (l1 : List Nat) (r1 : Nat), WK N B gr r1 s0 l1 A1 D1 R1 m1 U tk1 ow → f1 U d 0 = 2 → s1 < szM U d / 16 → f1 U t 0 ≠ 0 → sln U d s1 = 0 → Dt D D1 → (∀ j, j < 1024 → rA R1 4 j = tp j) → ∃ A' D' R', d_X4_addName_47_55 N B gr A1 D1 (nI d) (nI t) (nI s1) = some (.inl ((), A', D')) ∧ e_addName_65 R1 (nI d) (nI (st (k - 1))) (nI (ln (k - 1))) (nI t) (nI s1) = some R' ∧ WK N B gr r1 s0 ([pv U d (px (s1 / 8))] ++ l1) A' D' R' m1 (nmV U (pv U d (px (s1 / 8))) (16 * (s1 % 8)) (nI t) tp (st (k - 1)) (ln (k - 1))) tk1 (fun i => ow i - (if t = i then 1 else 0)) ∧ gA A' = gA A1 ∧ Dt D1 D' ∧ Fn [33] [30, 31, 32, 36, 43] R1 R' ∧ (∀ j, ir j → f1 (nmV U (pv U d (px (s1 / 8))) (16 * (s1 % 8)) (nI t) tp (st (k - 1)) (ln (k - 1))) j 0 = f1 U j 0 ∧ f1 (nmV U (pv U d (px (s1 / 8))) (16 * (s1 % 8)) (nI t) tp (st (k - 1)) (ln (k - 1))) j 1 = f1 U j 1 ∧ szM (nmV U (pv U d (px (s1 / 8))) (16 * (s1 % 8)) (nI t) tp (st (k - 1)) (ln (k - 1))) j = szM U j ∧ ∀ x, x < 4234 → pv (nmV U (pv U d (px (s1 / 8))) (16 * (s1 % 8)) (nI t) tp (st (k - 1)) (ln (k - 1))) j x = pv U j x) ∧ (∀ d' s', ir d' → f1 U d' 0 = 2 → s' < szM U d' / 16 → ¬ (d' = d ∧ s' = s1) → sln (nmV U (pv U d (px (s1 / 8))) (16 * (s1 % 8)) (nI t) tp (st (k - 1)) (ln (k - 1))) d' s' = sln U d' s') := fun U s1 m1 tk1 A1 D1 R1 l1 r1 hw u1 u2 u3 u4 u5 u6 => by
    have hT1 : TpR D1 R1 tp := ⟨hTp.1, fun j => by rw [show cA D1 1 = cA D 1 from u5.2 1 (by decide)]; exact hTp.2.1 j, u6⟩
    have hC1 : PthC47 D1 k st ln := by
      obtain ⟨c1, c2, c3⟩ := hC
      exact ⟨by rw [show cS D1 4702 = cS D 4702 from u5.1 4702 (by decide)]; exact c1, c2, fun j hj => by rw [show cA D1 48 = cA D 48 from u5.2 48 (by decide), show cA D1 49 = cA D 49 from u5.2 49 (by decide)]; exact c3 j hj⟩
    obtain ⟨A', D', R', a1, a2, a3, a4, a5, a6⟩ := w_nm47 hN1 hN hw hd u1 u2 ht u3 u4 hT1 hC1 hNm hk1
    obtain ⟨hn, -⟩ := hNm (k - 1) (by omega)
    have hz : ∀ o, 16 * (s1 % 8) + 2 ≤ o → o < 16 * (s1 % 8) + 16 → U (pv U d (px (s1 / 8))) o = 0 := by
      rcases hw.2.1.2.2.2.2.2.1 d s1 hd u1 u2 with z | z
      · exact z.2
      · exact absurd u4 z.1
    obtain ⟨-, v2, v3, -⟩ := hw.2.1.slot hN1 hd u1 u2 (nm_row (tp := tp) (st := st (k - 1)) (t := t) hn.2.1) (nm_slo (by omega) ht u3 hn hz)
    obtain ⟨b1, b2, b3, b4, b5, b6⟩ := a3
    refine ⟨A', D', R', a1, a2, ⟨b1, WFs.owe b2 (fun j hj => ?_), b3, b4, b5, b6⟩, a4, a5, a6, v2, v3⟩
    have := hj.1
    rw [u4, if_neg (by omega)]
    omega
  rw [d_X4_addName_47, bnd_o f1', e_addName, bnd_o f2']
  rcases fr_o hbl (szM V d / 16) 0 (by omega) with ⟨q1, q2⟩ | ⟨s1, q1, q2, q3, q4⟩
  · have hw : wtM V d = msM V d (szM V d / 128) := if_pos q1
    rw [hw] at h
    have hsz1 := (h.2.1.pz hd).1
    obtain ⟨y1, y2⟩ := j_size (D2 := D) hN1 hN h.1 hd
    have esl : d_X4_slots N (vA A) D (nI d) = some (nI (szM V d / 16)) := by
      rw [d_X4_slots, bnd_o y1, show (16 : Int32) = nI 16 from rfl, pk_div (by omega) (by decide) (by decide)]
    have e8 : nI (szM V d / 16) / 8 = nI (szM V d / 128) := by
      rw [show (8 : Int32) = nI 8 from rfl, pk_div (by omega) (by decide) (by decide), show szM V d / 16 / 8 = szM V d / 128 by omega]
    have e128 : nI (szM V d) / 128 = nI (szM V d / 128) := by
      rw [show (128 : Int32) = nI 128 from rfl, pk_div (by omega) (by decide) (by decide)]
    have e16 : nI (szM V d) / 16 = nI (szM V d / 16) := by
      rw [show (16 : Int32) = nI 16 from rfl, pk_div (by omega) (by decide) (by decide)]
    have ea : nI (szM V d) + 128 = nI (szM V d + 128) := by
      rw [show (128 : Int32) = nI 128 from rfl, nI_add]
    rw [q1, if_pos rfl, bnd_o esl, e8, if_pos rfl, bnd_o y2, e128, e16, ea]
    rcases w_dgrow hN1 hN hd hk rfl h with ⟨v, A1, D1, R1, A2, D2, R2, m', W, tk', l2, a1, a2, a3, a4, a5, a6, a7, a8, a9, a10, a11, a12, a13, a14⟩ | ⟨A', D', R', a1, a2, a3, a4, a5, a6⟩
    · obtain ⟨k1, k2, k3, k4⟩ := a12
      obtain ⟨A', D', R', b1, b2, b3, b4, b5, b6, b7, b8⟩ := tail W (szM V d / 16) m' tk' A2 D2 R2 (l2 ++ l) r a8 (by rw [(k1 d hd).1]; exact hk) (by rw [a13]; omega) (by rw [(k1 t ht).1]; exact htk) (a14 _ (Nat.le_refl _) (by omega)) a10 (fun j hj => by rw [a11.2.1 4 (by decide)]; exact hTp.2.2 j hj)
      rw [bndF_l a1, bnd_o a4, ea, bnd2_o a5, b1, bnd_o a2, if_neg a3, bnd_o a6, b2]
      rw [← List.append_assoc] at b3
      refine Or.inl ⟨A', D', R', m', _, tk', [pv W d (px (szM V d / 16 / 8))] ++ l2, rfl, rfl, ?_, b3, b4.trans a9, a10.tr b5, a11.tr (b6.1.wk (by decide) (by decide)), fun j hj => ?_, fun j hj hne => ?_, fun e s he hne hk2 hs => ?_⟩
      · rw [List.length_append, a7]
        show 1 + 5 ≤ 6
        decide
      · exact ⟨by rw [(b7 j hj).1]; exact (k1 j hj).1, by rw [(b7 j hj).2.1]; exact (k1 j hj).2⟩
      · exact ⟨by rw [(b7 j hj).2.2.1]; exact (k2 j hj hne).1, fun x hx => by rw [(b7 j hj).2.2.2 x hx]; exact (k2 j hj hne).2 x hx⟩
      · rw [b8 e s he (by rw [(k1 e he).1]; exact hk2) (by rw [(k2 e he hne).1]; exact hs) (fun z => hne z.1)]
        exact k3 e s he hk2 hs
    · rw [bndF_r a1, bnd_o a2, if_pos a3]
      exact Or.inr ⟨A', D', R', rfl, rfl, a4, a5, a6⟩
  · have hw : wtM V d = 0 := if_neg (by rw [q4]; exact nI_m1 (by omega))
    rw [hw] at h
    obtain ⟨A', D', R', b1, b2, b3, b4, b5, b6, b7, b8⟩ := tail V s1 m tk A D R l (r + 0) h hk q2 htk q3 Dt.rf hTp.2.2
    rw [q4, if_neg (nI_m1 (by omega)), if_neg (nI_m1 (by omega)), b1, b2]
    exact Or.inl ⟨A', D', R', m, _, tk, [pv V d (px (s1 / 8))], rfl, rfl, (by show 1 ≤ 6; decide), b3, b4, b5, b6.1.wk (by decide) (by decide), fun j hj => ⟨(b7 j hj).1, (b7 j hj).2.1⟩, fun j hj _ => ⟨(b7 j hj).2.2.1, (b7 j hj).2.2.2⟩, fun e s he hne hk2 hs => b8 e s he hk2 hs (fun z => hne z.1)⟩
theorem w_nm50 {k t : Nat} {st ln : Nat → Nat} (hN1 : 61 ≤ N) (hN : N ≤ 1024) (h : WK N B gr r s0 l A D R m V tk ow) (hd : ir d) (hk : f1 V d 0 = 2) (hs : s < szM V d / 16) (ht : ir t) (htk : f1 V t 0 ≠ 0) (hs0 : sln V d s = 0) (hTp : TpR D R tp) (hC : PthC50 D k st ln) (hNm : NmS tp k st ln) (hk1 : 1 ≤ k) : ∃ A' D' R', d_X4_addName_50_55 N B gr A D (nI d) (nI t) (nI s) = some (.inl ((), A', D')) ∧ e_addName_65 R (nI d) (nI (st (k - 1))) (nI (ln (k - 1))) (nI t) (nI s) = some R' ∧ WK N B gr r s0 ([pv V d (px (s / 8))] ++ l) A' D' R' m (nmV V (pv V d (px (s / 8))) (16 * (s % 8)) (nI t) tp (st (k - 1)) (ln (k - 1))) tk (fun i => ow i + (if sln V d s = i then 1 else 0) - (if t = i then 1 else 0)) ∧ gA A' = gA A ∧ Dt D D' ∧ Fn [33] [30, 31, 32, 36, 43] R R' := by
  obtain ⟨q1, q2, q3⟩ := h.2.1.dblk hd hk hs
  have ht1 := ht.1
  have ht2 := ht.2
  obtain ⟨c1, c2, c3⟩ := hC
  obtain ⟨hn, hsl⟩ := hNm (k - 1) (by omega)
  obtain ⟨e48, e49⟩ := c3 (k - 1) (by omega)
  obtain ⟨A1, D1, e1, x1, o1, g1, t1, w1⟩ := c_rowOf hN1 hN h.1.1 (h.2.1.1.pto hd) hd.1 hd.2 q1 q2
  have hD1 : cA D1 1 = cA D 1 := t1.2 1 (by decide)
  obtain ⟨A2, A3, A4, R', a1, a2, a3, a4, a5, a6, a7, a8⟩ := j_name (t := nI t) hN1 hN h.1 (h.2.1.1.pto hd) hd.1 hd.2 q1 q2 hn.2.1 hsl hTp.1 hTp.2.1 hTp.2.2 e1 x1 o1 hD1
  refine ⟨A4, D1, R', ?_, a4, ?_, a6.trans g1, t1, a7⟩
  · have es : cS D 5002 - 1 = nI (k - 1) := by
      rw [c1]
      show nI k - nI 1 = _
      rw [pk_sub hk1]
    have d48 : cA D1 51 = cA D 51 := t1.2 51 (by decide)
    have d49 : cA D1 52 = cA D 52 := t1.2 52 (by decide)
    rw [d_X4_addName_50_55, bnd3_o e1, bnd_o (d_stO (by omega)), bnd_o a1, es, ld_n (by omega) (by decide), d49, e49, show nI (16 * (s % 8)) + 2 = nI (16 * (s % 8) + 2) from nI_add .., bnd_o a2, ld_n (by omega) (by decide), d48, e48, ld_n (by omega) (by decide), e49, show nI (16 * (s % 8)) + 3 = nI (16 * (s % 8) + 3) from nI_add .., bnd_o a3]
  · have hz : ∀ o, 16 * (s % 8) + 2 ≤ o → o < 16 * (s % 8) + 16 → V (pv V d (px (s / 8))) o = 0 := by
      rcases h.2.1.2.2.2.2.2.1 d s hd hk hs with z | z
      · exact z.2
      · exact absurd hs0 z.1
    have q := w_row hN1 hN h hd hk hs (nm_row (tp := tp) (st := st (k - 1)) (t := t) hn.2.1) (nm_slo (by omega) ht htk hn hz) a5 (fun P p1 p2 p3 => a8 P p1 (w1 P p1 p2) p3)
    rw [nm_n2 (by omega) (by omega)] at q
    exact q
/-- a name more: 50 -/
theorem w_add50 {k t : Nat} {st ln : Nat → Nat} (hN1 : 61 ≤ N) (hN : N ≤ 1024) (hd : ir d) (hk : f1 V d 0 = 2) (h : WK N B gr (r + wtM V d) s0 l A D R m V tk ow) (ht : ir t) (htk : f1 V t 0 ≠ 0) (hTp : TpR D R tp) (hC : PthC50 D k st ln) (hNm : NmS tp k st ln) (hk1 : 1 ≤ k) : (∃ A' D' R' m' W tk' l2, d_X4_addName_50 N B gr A D (nI d) (nI t) = some (.inl ((), A', D')) ∧ e_addName R (nI d) (nI (st (k - 1))) (nI (ln (k - 1))) (nI t) = some R' ∧ l2.length ≤ 6 ∧ WK N B gr r s0 (l2 ++ l) A' D' R' m' W tk' (fun i => ow i - (if t = i then 1 else 0)) ∧ gA A' = gA A ∧ Dt D D' ∧ Fq hS hT R R' ∧ (∀ j, ir j → f1 W j 0 = f1 V j 0 ∧ f1 W j 1 = f1 V j 1) ∧ (∀ j, ir j → j ≠ d → szM W j = szM V j ∧ ∀ x, x < 4234 → pv W j x = pv V j x) ∧ (∀ e s, ir e → e ≠ d → f1 V e 0 = 2 → s < szM V e / 16 → sln W e s = sln V e s)) ∨ (∃ A' D' R', d_X4_addName_50 N B gr A D (nI d) (nI t) = some (.inr (0, A', D')) ∧ e_addName R (nI d) (nI (st (k - 1))) (nI (ln (k - 1))) (nI t) = some R' ∧ Dd N R A'.1 R' ∧ Dt D D' ∧ FlT N B m A' D') := by
  have ht1 := ht.1
  obtain ⟨f1', f2'⟩ := j_freeSlotS (D2 := D) hN1 hN h.1 h.2.1 hd hk
  obtain ⟨z1, z2⟩ := h.2.1.2.2.2.2.1 d hd hk
  have hlim := h.2.1.dlim hd hk
  have hbl := h.2.1.db hd hk
  have tail : ∀ (U : Nat → Rw) (s1 : Nat) (m1 : M5) (tk1 : Nat → Bool) (A1 : MS) (D1 : CfT) (R1 : RfT) (l1 : List Nat) (r1 : Nat), WK N B gr r1 s0 l1 A1 D1 R1 m1 U tk1 ow → f1 U d 0 = 2 → s1 < szM U d / 16 → f1 U t 0 ≠ 0 → sln U d s1 = 0 → Dt D D1 → (∀ j, j < 1024 → rA R1 4 j = tp j) → ∃ A' D' R', d_X4_addName_50_55 N B gr A1 D1 (nI d) (nI t) (nI s1) = some (.inl ((), A', D')) ∧ e_addName_65 R1 (nI d) (nI (st (k - 1))) (nI (ln (k - 1))) (nI t) (nI s1) = some R' ∧ WK N B gr r1 s0 ([pv U d (px (s1 / 8))] ++ l1) A' D' R' m1 (nmV U (pv U d (px (s1 / 8))) (16 * (s1 % 8)) (nI t) tp (st (k - 1)) (ln (k - 1))) tk1 (fun i => ow i - (if t = i then 1 else 0)) ∧ gA A' = gA A1 ∧ Dt D1 D' ∧ Fn [33] [30, 31, 32, 36, 43] R1 R' ∧ (∀ j, ir j → f1 (nmV U (pv U d (px (s1 / 8))) (16 * (s1 % 8)) (nI t) tp (st (k - 1)) (ln (k - 1))) j 0 = f1 U j 0 ∧ f1 (nmV U (pv U d (px (s1 / 8))) (16 * (s1 % 8)) (nI t) tp (st (k - 1)) (ln (k - 1))) j 1 = f1 U j 1 ∧ szM (nmV U (pv U d (px (s1 / 8))) (16 * (s1 % 8)) (nI t) tp (st (k - 1)) (ln (k - 1))) j = szM U j ∧ ∀ x, x < 4234 → pv (nmV U (pv U d (px (s1 / 8))) (16 * (s1 % 8)) (nI t) tp (st (k - 1)) (ln (k - 1))) j x = pv U j x) ∧ (∀ d' s', ir d' → f1 U d' 0 = 2 → s' < szM U d' / 16 → ¬ (d' = d ∧ s' = s1) → sln (nmV U (pv U d (px (s1 / 8))) (16 * (s1 % 8)) (nI t) tp (st (k - 1)) (ln (k - 1))) d' s' = sln U d' s') := fun U s1 m1 tk1 A1 D1 R1 l1 r1 hw u1 u2 u3 u4 u5 u6 => by
    have hT1 : TpR D1 R1 tp := ⟨hTp.1, fun j => by rw [show cA D1 1 = cA D 1 from u5.2 1 (by decide)]; exact hTp.2.1 j, u6⟩
    have hC1 : PthC50 D1 k st ln := by
      obtain ⟨c1, c2, c3⟩ := hC
      exact ⟨by rw [show cS D1 5002 = cS D 5002 from u5.1 5002 (by decide)]; exact c1, c2, fun j hj => by rw [show cA D1 51 = cA D 51 from u5.2 51 (by decide), show cA D1 52 = cA D 52 from u5.2 52 (by decide)]; exact c3 j hj⟩
    obtain ⟨A', D', R', a1, a2, a3, a4, a5, a6⟩ := w_nm50 hN1 hN hw hd u1 u2 ht u3 u4 hT1 hC1 hNm hk1
    obtain ⟨hn, -⟩ := hNm (k - 1) (by omega)
    have hz : ∀ o, 16 * (s1 % 8) + 2 ≤ o → o < 16 * (s1 % 8) + 16 → U (pv U d (px (s1 / 8))) o = 0 := by
      rcases hw.2.1.2.2.2.2.2.1 d s1 hd u1 u2 with z | z
      · exact z.2
      · exact absurd u4 z.1
    obtain ⟨-, v2, v3, -⟩ := hw.2.1.slot hN1 hd u1 u2 (nm_row (tp := tp) (st := st (k - 1)) (t := t) hn.2.1) (nm_slo (by omega) ht u3 hn hz)
    obtain ⟨b1, b2, b3, b4, b5, b6⟩ := a3
    refine ⟨A', D', R', a1, a2, ⟨b1, WFs.owe b2 (fun j hj => ?_), b3, b4, b5, b6⟩, a4, a5, a6, v2, v3⟩
    have := hj.1
    rw [u4, if_neg (by omega)]
    omega
  rw [d_X4_addName_50, bnd_o f1', e_addName, bnd_o f2']
  rcases fr_o hbl (szM V d / 16) 0 (by omega) with ⟨q1, q2⟩ | ⟨s1, q1, q2, q3, q4⟩
  · have hw : wtM V d = msM V d (szM V d / 128) := if_pos q1
    rw [hw] at h
    have hsz1 := (h.2.1.pz hd).1
    obtain ⟨y1, y2⟩ := j_size (D2 := D) hN1 hN h.1 hd
    have esl : d_X4_slots N (vA A) D (nI d) = some (nI (szM V d / 16)) := by
      rw [d_X4_slots, bnd_o y1, show (16 : Int32) = nI 16 from rfl, pk_div (by omega) (by decide) (by decide)]
    have e8 : nI (szM V d / 16) / 8 = nI (szM V d / 128) := by
      rw [show (8 : Int32) = nI 8 from rfl, pk_div (by omega) (by decide) (by decide), show szM V d / 16 / 8 = szM V d / 128 by omega]
    have e128 : nI (szM V d) / 128 = nI (szM V d / 128) := by
      rw [show (128 : Int32) = nI 128 from rfl, pk_div (by omega) (by decide) (by decide)]
    have e16 : nI (szM V d) / 16 = nI (szM V d / 16) := by
      rw [show (16 : Int32) = nI 16 from rfl, pk_div (by omega) (by decide) (by decide)]
    have ea : nI (szM V d) + 128 = nI (szM V d + 128) := by
      rw [show (128 : Int32) = nI 128 from rfl, nI_add]
    rw [q1, if_pos rfl, bnd_o esl, e8, if_pos rfl, bnd_o y2, e128, e16, ea]
    rcases w_dgrow hN1 hN hd hk rfl h with ⟨v, A1, D1, R1, A2, D2, R2, m', W, tk', l2, a1, a2, a3, a4, a5, a6, a7, a8, a9, a10, a11, a12, a13, a14⟩ | ⟨A', D', R', a1, a2, a3, a4, a5, a6⟩
    · obtain ⟨k1, k2, k3, k4⟩ := a12
      obtain ⟨A', D', R', b1, b2, b3, b4, b5, b6, b7, b8⟩ := tail W (szM V d / 16) m' tk' A2 D2 R2 (l2 ++ l) r a8 (by rw [(k1 d hd).1]; exact hk) (by rw [a13]; omega) (by rw [(k1 t ht).1]; exact htk) (a14 _ (Nat.le_refl _) (by omega)) a10 (fun j hj => by rw [a11.2.1 4 (by decide)]; exact hTp.2.2 j hj)
      rw [bndF_l a1, bnd_o a4, ea, bnd2_o a5, b1, bnd_o a2, if_neg a3, bnd_o a6, b2]
      rw [← List.append_assoc] at b3
      refine Or.inl ⟨A', D', R', m', _, tk', [pv W d (px (szM V d / 16 / 8))] ++ l2, rfl, rfl, ?_, b3, b4.trans a9, a10.tr b5, a11.tr (b6.1.wk (by decide) (by decide)), fun j hj => ?_, fun j hj hne => ?_, fun e s he hne hk2 hs => ?_⟩
      · rw [List.length_append, a7]
        show 1 + 5 ≤ 6
        decide
      · exact ⟨by rw [(b7 j hj).1]; exact (k1 j hj).1, by rw [(b7 j hj).2.1]; exact (k1 j hj).2⟩
      · exact ⟨by rw [(b7 j hj).2.2.1]; exact (k2 j hj hne).1, fun x hx => by rw [(b7 j hj).2.2.2 x hx]; exact (k2 j hj hne).2 x hx⟩
      · rw [b8 e s he (by rw [(k1 e he).1]; exact hk2) (by rw [(k2 e he hne).1]; exact hs) (fun z => hne z.1)]
        exact k3 e s he hk2 hs
    · rw [bndF_r a1, bnd_o a2, if_pos a3]
      exact Or.inr ⟨A', D', R', rfl, rfl, a4, a5, a6⟩
  · have hw : wtM V d = 0 := if_neg (by rw [q4]; exact nI_m1 (by omega))
    rw [hw] at h
    obtain ⟨A', D', R', b1, b2, b3, b4, b5, b6, b7, b8⟩ := tail V s1 m tk A D R l (r + 0) h hk q2 htk q3 Dt.rf hTp.2.2
    rw [q4, if_neg (nI_m1 (by omega)), if_neg (nI_m1 (by omega)), b1, b2]
    exact Or.inl ⟨A', D', R', m, _, tk, [pv V d (px (s1 / 8))], rfl, rfl, (by show 1 ≤ 6; decide), b3, b4, b5, b6.1.wk (by decide) (by decide), fun j hj => ⟨(b7 j hj).1, (b7 j hj).2.1⟩, fun j hj _ => ⟨(b7 j hj).2.2.1, (b7 j hj).2.2.2⟩, fun e s he hne hk2 hs => b8 e s he hk2 hs (fun z => hne z.1)⟩
end PXC
