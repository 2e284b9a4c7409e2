/-! ===== pure: blocks and a size are set ===== -/
section PWS
variable {N B gr : Nat} {V V1 W : Nat → Rw} {ow : Nat → Int} {i : Nat} {tb : Bool} {Y : Nat → Prop}
theorem Gr.sz (g : Gr N i tb Y V V1) {j : Nat} (hj : ir j) : szM V1 j = szM V j := sz_c (fun b b1 b2 => g.2.1 j b hj (by omega))
/-- only the size of i changed -/
theorem fld_s4 {s : Nat} (hi : ir i) (hs : s < 2 ^ 31) : (∀ c, c ≠ homeM i → fldV V i 4 4 (nI s) c = V c) ∧ (∀ j, ir j → f1 (fldV V i 4 4 (nI s)) j 0 = f1 V j 0 ∧ f1 (fldV V i 4 4 (nI s)) j 1 = f1 V j 1) ∧ (∀ j, ir j → szM (fldV V i 4 4 (nI s)) j = if j = i then s else szM V j) ∧ ∀ j a, ir j → a < 32 → (j ≠ i ∨ a < 4 ∨ 8 ≤ a) → ub (fldV V i 4 4 (nI s) (homeM j)) (startM j + a) = ub (V (homeM j)) (startM j + a) := by
  refine ⟨fun c hc => fld_x hc, fun j hj => ⟨fld_f1 hi.1 hj.1 (by decide) (by decide) (Or.inr (Or.inl (by decide))), fld_f1 hi.1 hj.1 (by decide) (by decide) (Or.inr (Or.inl (by decide)))⟩, fun j hj => ?_, fun j a hj ha h => fld_ub hi.1 hj.1 (by decide) ha (by omega)⟩
  by_cases c : j = i
  · rw [if_pos c, c]
    have := homeM_lt hi.2
    have h32 : startM i + 32 ≤ 128 := by
      unfold startM
      omega
    show n4 (fldV V i 4 4 (nI s) (homeM i)) (startM i + 4) = s
    have e : fldV V i 4 4 (nI s) (homeM i) = nr (wB (V (homeM i)) (startM i + 4) (nI s) 4) := vU_s
    rw [e, n4_i (by omega) hs]
  · rw [if_neg c]
    exact fld_f4 hi.1 hj.1 (by decide) (by decide) (Or.inl c)
theorem WFs.growF {s : Nat} (h : WFs N V ow) (hi : ir i) (hk : f1 V i 0 = 1) (g : Gr N i tb Y V V1) (hp : PW N V1) (hs : s ≤ 400000) (hz : ∀ q, bfM s ≤ q → q < 4168 → pv V1 i (px q) = 0) (hW : W = fldV V1 i 4 4 (nI s)) : WFs N W ow ∧ (∀ j, ir j → f1 W j 0 = f1 V j 0 ∧ f1 W j 1 = f1 V j 1 ∧ szM W j = if j = i then s else szM V j) ∧ (∀ j x, ir j → x < 4234 → pv W j x = pv V1 j x) ∧ (∀ d s, ir d → f1 V d 0 = 2 → s < szM V d / 16 → sln W d s = sln V d s) ∧ (∀ j, ir j → nmC W j 65 = nmC V j 65) := by
  obtain ⟨a1, a2, a3, a4, a5, a6, a7, a8⟩ := id h
  have hh := ir_home hi
  obtain ⟨g1, g2, g3, g4, g5, g6⟩ := id g
  obtain ⟨w1, w2, w3, w4⟩ := fld_s4 (V := V1) (s := s) hi (by omega)
  rw [← hW] at w1 w2 w3 w4
  have epv : ∀ j, ir j → ∀ x, x < 4234 → pv W j x = pv V1 j x := fun j hj => by
    rw [hW]
    exact pv_fld hi.2 hi.1 hj.1 (by decide) (fun x hx _ => (hp.2.1 j x hj (by omega)).imp (fun z => z) (fun z => z.1))
  have ek : ∀ j, ir j → f1 W j 0 = f1 V j 0 := fun j hj => by rw [(w2 j hj).1]; exact g2 j 0 hj (by decide)
  have el : ∀ j, ir j → f1 W j 1 = f1 V j 1 := fun j hj => by rw [(w2 j hj).2]; exact g2 j 1 hj (by decide)
  have es : ∀ j, ir j → szM W j = if j = i then s else szM V j := fun j hj => by rw [w3 j hj, g.sz hj]
  have k1 : f1 W i 0 = 1 := by rw [ek i hi, hk]
  have U := WFs.upd (W := W) h hi (hp.cg (fun j x hj hx => epv j hj x hx) (w1 43 (by omega))) (fun j hj hne a ha => by rw [w4 j a hj (by omega) (Or.inl hne)]; exact g2 j a hj ha) (fun j hj hne x hx => by rw [epv j hj x hx]; exact g1 j x hj hx (Or.inr (Or.inl hne)))
    (fun d q hd hne hk hq h0 => by
      have hb := (a1.2.1 d (px q) hd (px_lt hq)).resolve_left h0
      rw [w1 _ (by omega)]
      exact g4 _ hb.1 hb.2 ((a1.2.2.2 _ hb.1 hb.2).mpr ⟨d, _, hd, px_lt hq, rfl⟩) (fun ⟨x, x1, x2, x3⟩ => hne (a1.2.2.1 i x d (px q) hi (by omega) hd (px_lt hq) (by rw [x3]; exact h0) x3).1.symm))
    (fun k hk => by
      rw [w1 44 (by omega), g3, a4 k hk]
      by_cases c2 : k < 64
      · rw [ek (k + 1) ⟨by omega, by omega⟩]
      · rw [if_neg (fun z => c2 z.1), if_neg (fun z => c2 z.1)])
    (by rw [k1]; decide)
    ⟨by rw [es i hi, if_pos rfl]; exact hs, fun q q1 q2 => by
      rw [es i hi, if_pos rfl] at q1
      rw [epv i hi _ (px_lt q2)]
      exact hz q q1 q2⟩
    (fun z => by rw [k1] at z; cases z) (fun z => by rw [k1] at z; cases z) (fun z => by rw [k1] at z; cases z) (fun e => by
      rw [e] at hk
      rw [a7] at hk
      cases hk) (Or.inl (by rw [k1]; decide))
    (fun j hj => by
      unfold ctM
      rw [k1, hk, if_neg (fun z => by cases z.2), if_neg (fun z => by cases z.2)])
  obtain ⟨u1, u2, u3, u4⟩ := U
  refine ⟨WFs.owe u1 (fun j hj => ?_), fun j hj => ⟨ek j hj, el j hj, es j hj⟩, fun j x hj hx => epv j hj x hx, fun d s hd hk2 hs => u3 d s hd (fun e => by rw [e, hk] at hk2; cases hk2) hk2 hs, u4⟩
  rw [el i hi]
  split
  · omega
  · omega
theorem pY_px {p q : Nat} (hp : p < 4168) (h : pY p (px q)) : q = p := by
  rcases h with h | h | h
  · exact px_inj h
  · exact absurd (show tbx (px q) by rw [h.2]; exact hx_tb (px_lt hp)) px_tb
  · exact absurd (show tbx (px q) by rw [h.2]; exact Or.inr (Or.inl rfl)) px_tb
/-- a directory gets a block of free slots -/
theorem WFs.growD {p : Nat} (h : WFs N V ow) (hi : ir i) (hk : f1 V i 0 = 2) (g : Gr N i true (pY p) V V1) (hpw : PW N V1) (hp : p = szM V i / 128) (hp4 : 128 * p + 128 ≤ 400000) (h0 : pv V1 i (px p) ≠ 0) (hW : W = fldV V1 i 4 4 (nI (szM V i + 128))) : WFs N W ow ∧ (∀ j, ir j → f1 W j 0 = f1 V j 0 ∧ f1 W j 1 = f1 V j 1 ∧ szM W j = if j = i then szM V i + 128 else szM V j) ∧ (∀ j x, ir j → x < 4234 → pv W j x = pv V1 j x) ∧ (∀ d s, ir d → f1 V d 0 = 2 → s < szM V d / 16 → sln W d s = sln V d s) ∧ (∀ j, ir j → nmC W j 65 = nmC V j 65) ∧ (∀ s, szM V i / 16 ≤ s → s < szM V i / 16 + 8 → sln W i s = 0) ∧ W (pv V1 i (px p)) = zR := by
  obtain ⟨a1, a2, a3, a4, a5, a6, a7, a8⟩ := id h
  have hh := ir_home hi
  obtain ⟨g1, g2, g3, g4, g5, g6⟩ := id g
  obtain ⟨z1, z2⟩ := a5 i hi hk
  obtain ⟨w1, w2, w3, w4⟩ := fld_s4 (V := V1) (s := szM V i + 128) hi (by omega)
  rw [← hW] at w1 w2 w3 w4
  have epv : ∀ j, ir j → ∀ x, x < 4234 → pv W j x = pv V1 j x := fun j hj => by
    rw [hW]
    exact pv_fld hi.2 hi.1 hj.1 (by decide) (fun x hx _ => (hpw.2.1 j x hj (by omega)).imp (fun z => z) (fun z => z.1))
  have ek : ∀ j, ir j → f1 W j 0 = f1 V j 0 := fun j hj => by rw [(w2 j hj).1]; exact g2 j 0 hj (by decide)
  have el : ∀ j, ir j → f1 W j 1 = f1 V j 1 := fun j hj => by rw [(w2 j hj).2]; exact g2 j 1 hj (by decide)
  have es : ∀ j, ir j → szM W j = if j = i then szM V i + 128 else szM V j := fun j hj => by rw [w3 j hj, g.sz hj]
  have k1 : f1 W i 0 = 2 := by rw [ek i hi, hk]
  have vp0 : pv V i (px p) = 0 := (a2 i hi).2.2 p (by unfold bfM; omega) (by omega)
  have hzr : V1 (pv V1 i (px p)) = zR := g6 _ px_tb (px_lt (by omega)) vp0 h0 rfl
  have hb1 := (hpw.2.1 i (px p) hi (px_lt (by omega))).resolve_left h0
  have hzw : W (pv V1 i (px p)) = zR := by rw [w1 _ (by omega)]; exact hzr
  have hbk : ∀ d q, ir d → q < 4168 → pv V d (px q) ≠ 0 → W (pv V d (px q)) = V (pv V d (px q)) := fun d q hd hq h0 => by
    have hb := (a1.2.1 d (px q) hd (px_lt hq)).resolve_left h0
    rw [w1 _ (by omega)]
    exact g4 _ hb.1 hb.2 ((a1.2.2.2 _ hb.1 hb.2).mpr ⟨d, _, hd, px_lt hq, rfl⟩) (fun ⟨x, x1, x2, x3⟩ => px_tb (p := q) (by
      rw [← (a1.2.2.1 i x d (px q) hi (by omega) hd (px_lt hq) (by rw [x3]; exact h0) x3).2]
      exact x1))
  have old : ∀ q, q < p → pv W i (px q) = pv V i (px q) ∧ pv V i (px q) ≠ 0 := fun q hq => by
    have n0 := z2 q (by omega)
    exact ⟨by rw [epv i hi _ (px_lt (by omega))]; exact g1 i _ hi (px_lt (by omega)) (Or.inl n0), n0⟩
  have e16 : szM V i / 16 = 8 * p := by omega
  have slo : ∀ s, s < szM V i / 16 → sln W i s = sln V i s := fun s hs => by
    have q := old (s / 8) (by omega)
    unfold sln
    rw [q.1, hbk i _ hi (by omega) q.2]
  have sln0 : ∀ s, szM V i / 16 ≤ s → s < szM V i / 16 + 8 → sln W i s = 0 := fun s s1 s2 => by
    have e : s / 8 = p := by omega
    unfold sln
    rw [e, epv i hi _ (px_lt (by omega)), hzw]
    exact n2_z
  have e16' : szM W i / 16 = szM V i / 16 + 8 := by
    rw [es i hi, if_pos rfl]
    omega
  have U := WFs.upd (W := W) h hi (hpw.cg (fun j x hj hx => epv j hj x hx) (w1 43 (by omega))) (fun j hj hne a ha => by rw [w4 j a hj (by omega) (Or.inl hne)]; exact g2 j a hj ha) (fun j hj hne x hx => by rw [epv j hj x hx]; exact g1 j x hj hx (Or.inr (Or.inl hne)))
    (fun d q hd hne hk hq h0 => hbk d q hd hq h0)
    (fun k hk => by
      rw [w1 44 (by omega), g3, a4 k hk]
      by_cases c2 : k < 64
      · rw [ek (k + 1) ⟨by omega, by omega⟩]
      · rw [if_neg (fun z => c2 z.1), if_neg (fun z => c2 z.1)])
    (by rw [k1]; decide)
    ⟨by rw [es i hi, if_pos rfl]; omega, fun q q1 q2 => by
      rw [es i hi, if_pos rfl] at q1
      rw [epv i hi _ (px_lt q2)]
      have hqp : q ≠ p := fun e => by
        rw [e] at q1
        unfold bfM at q1
        omega
      rw [g1 i _ hi (px_lt q2) (Or.inr (Or.inr (fun z => hqp (pY_px (by omega) z))))]
      exact (a2 i hi).2.2 q (by unfold bfM at q1 ⊢; omega) q2⟩
    (fun z => by rw [k1] at z; cases z)
    (fun _ => by
      rw [es i hi, if_pos rfl]
      refine ⟨by omega, fun q hq => ?_⟩
      by_cases c : q = p
      · rw [c, epv i hi _ (px_lt (by omega))]
        exact h0
      · have := old q (by omega)
        rw [this.1]
        exact this.2)
    (fun _ s hs => by
      rw [e16'] at hs
      by_cases c : s < szM V i / 16
      · have q := old (s / 8) (by omega)
        rw [q.1, hbk i _ hi (by omega) q.2]
        exact a6 i s hi hk c
      · have e : s / 8 = p := by omega
        rw [e, epv i hi _ (px_lt (by omega)), hzw]
        exact Or.inl ⟨n2_z, fun _ _ _ => rfl⟩)
    (fun e => by rw [← e]; exact k1) (Or.inl (by rw [k1]; decide))
    (fun j hj => by
      unfold ctM
      rw [if_pos ⟨hi.1, k1⟩, if_pos ⟨hi.1, hk⟩, e16', nmD_ge hj.1 8 sln0]
      exact nmD_cg _ slo)
  obtain ⟨u1, u2, u3, u4⟩ := U
  refine ⟨WFs.owe u1 (fun j hj => ?_), fun j hj => ⟨ek j hj, el j hj, es j hj⟩, fun j x hj hx => epv j hj x hx, fun d s hd hk2 hs => ?_, u4, sln0, hzw⟩
  · rw [el i hi]
    split
    · omega
    · omega
  · by_cases c : d = i
    · rw [c] at hs ⊢
      exact slo s hs
    · exact u3 d s hd c hk2 hs
end PWS
