/-! ===== pure: the reference writes a batch ===== -/
section PUY
variable {R : RfT} {N B : Nat}
noncomputable def wbF (R : RfT) : Option RfT := bnd (e_hand_79 R ((2 : Int32)) ((0 : Int32))) (fun R40 => bnd (e_settle R40) (fun R41 => if (rS R41 11) = 0 then some R41 else bnd (e_putHead R41 (rS R41 25) ((rS R41 22) + ((1 : Int32)))) (fun R42 => bnd (e_settle R42) (fun R43 => some R43))))
theorem z_wb199 {g : Nat → Int32} {l : Nat} (h25 : rS R 25 = nI l) (hl : l ≤ 40) : ∀ (m k : Nat), k ≤ l → l - k < m → e_writeBatch_199 m (setA R 44 (nmR (rA R 23) g k)) (nI k) = wbF (setA R 44 (nmR (rA R 23) g l)) := by
  intro m
  induction m with
  | zero => intro k _ h; exact absurd h (Nat.not_lt_zero _)
  | succ m ih =>
    intro k hk hm
    rw [e_writeBatch_199, show rS (setA R 44 (nmR (rA R 23) g k)) 25 = nI l from h25]
    by_cases c : k = l
    · rw [c, if_pos (nI_le (Nat.le_refl _) (by omega))]
      rfl
    · have q := ih (k + 1) (by omega) (by omega)
      have s := z_set79 (R := setA R 44 (nmR (rA R 23) g k)) (p := 2 * k) (n := 2) (v := rA R 23 k) (by decide) (by omega)
      rw [wB_2, setA_A, rA_e] at s
      have s : e_set_79 (setA R 44 (nmR (rA R 23) g k)) (2 * nI k) 2 (rA R 23 k) = some (setA R 44 (nmR (rA R 23) g (k + 1))) := by
        rw [show (2 : Int32) = nI 2 from rfl, pk_mul]
        exact s
      rw [if_neg (nI_ge (by omega) (by omega)), show rA (setA R 44 (nmR (rA R 23) g k)) 23 = rA R 23 from rfl, ld_n (by omega) (by decide), bnd_o s, nI_1, q]
theorem z_wbE {L : List En} {tu : Int32} {hw : Hw} (hN1 : 61 ≤ N) (hN : N ≤ 1024) (hr : RH N B hw R) (hk : WkO N R) (hl : RLg N R L tu) (hsp : hSp hw + 2 < 2 ^ 31) : ∃ R', wbE R = some R' ∧ (((hB (hB (hB (aPl N B 2 (mNm L) hw) (aSe N)) (aPl N B 1 (mHd L (tu + 1)))) (aSe N)).1 = true ∧ RH N B (hB (hB (hB (aPl N B 2 (mNm L) hw) (aSe N)) (aPl N B 1 (mHd L (tu + 1)))) (aSe N)).2 R' ∧ RLg N R' L (tu + 1) ∧ Fq [22, 25, 9, 10, 12, 13, 14, 18, 20] [44, 6, 7, 8, 15, 17, 39, 40] R R') ∨ ((hB (hB (hB (aPl N B 2 (mNm L) hw) (aSe N)) (aPl N B 1 (mHd L (tu + 1)))) (aSe N)).1 = false ∧ Dd N R (hB (hB (hB (aPl N B 2 (mNm L) hw) (aSe N)) (aPl N B 1 (mHd L (tu + 1)))) (aSe N)).2 R')) := by
  obtain ⟨l1, l2, l3, l4, l5, l6⟩ := id hl
  have q := z_wb199 (R := setA R 44 (flt (rA R 44) 0 128 0)) (g := flt (rA R 44) 0 128 0) (l := L.length) l2 l3 fuL 0 (Nat.zero_le _) (by rw [fuL_4]; omega)
  have q : e_writeBatch_199 fuL (setA R 44 (flt (rA R 44) 0 128 0)) 0 = wbF (setA R 44 (nmR (rA R 23) (flt (rA R 44) 0 128 0) L.length)) := by
    rw [setA_A, setA_A] at q
    exact q
  rw [wbE, if_neg hr.on, bnd_o z_empty, q]
  have hb1 : Byt (nmR (rA R 23) (flt (rA R 44) 0 128 0) L.length) := nmR_b (Byt_flt hr.b44 (by decide)) _
  have hn1 : nr (nmR (rA R 23) (flt (rA R 44) 0 128 0) L.length) = mNm L := nr_eq (Eb.nm (Eb_flt) L.length (fun k hk => (l4 k hk).1))
  generalize nmR (rA R 23) (flt (rA R 44) 0 128 0) L.length = g at *
  generalize hR1 : setA R 44 g = R1
  have f1 : Fq [22, 25, 9, 10, 12, 13, 14, 18, 20] [44, 6, 7, 8, 15, 17, 39, 40] R R1 := by
    rw [← hR1]
    exact Fq.a (by decide)
  have hr1 : RH N B hw R1 := by
    rw [← hR1]
    exact hr.a44 hb1
  have hk1 : WkO N R1 := hk.fq f1 (by decide) (by decide) (by decide) (by decide) (by decide)
  have e1 : nr (rA R1 44) = mNm L := by rw [← hR1, rA_e, hn1]
  have ph := e_hand79 (t := 2) hN hr1 hk1 (by omega)
  have ph : e_hand_79 R1 2 0 = some (rHand R1 44 0 2) := ph
  have o1 := z_hand79 (t := 2) hN hr1 hk1 (by omega) (by omega) hr1.b44 e1
  rw [wbF, bnd_o ph]
  rcases o1 with ⟨a1, a2, a3⟩ | ⟨a1, a2⟩
  rotate_left
  · rw [hB_f (o := hB (hB (aPl N B 2 (mNm L) hw) _) _) (by rw [hB_f (o := hB (aPl N B 2 (mNm L) hw) _) (by rw [hB_f a1]; exact a1), hB_f a1]; exact a1), hB_f (o := hB (aPl N B 2 (mNm L) hw) _) (by rw [hB_f a1]; exact a1), hB_f a1, bnd_o (dd_sett a2), if_pos a2.1.1]
    exact ⟨_, rfl, Or.inr ⟨a1, a2.fq f1 (by decide) (by decide)⟩⟩
  · have f2 := f1.tr (a3.wk (S' := [22, 25, 9, 10, 12, 13, 14, 18, 20]) (T' := [44, 6, 7, 8, 15, 17, 39, 40]) (by decide) (by decide))
    have hsp2 : hSp (aPl N B 2 (mNm L) hw).2 ≤ hSp hw + 1 := aPl_sp
    rw [hB_t a1]
    generalize rHand R1 44 0 2 = R2 at *
    generalize (aPl N B 2 (mNm L) hw).2 = h2 at *
    have hk2 : WkO N R2 := hk.fq f2 (by decide) (by decide) (by decide) (by decide) (by decide)
    obtain ⟨e2, o2⟩ := z_sett hN a2 hk2
    obtain ⟨-, -, -, s4, -⟩ := aSe_all (N := N) (B := B) h2
    rw [bnd_o e2]
    rcases o2 with ⟨b1, b2, b3⟩ | ⟨b1, b2⟩
    rotate_left
    · rw [hB_f (o := hB (aSe N h2) _) (by rw [hB_f b1]; exact b1), hB_f b1, if_pos b2.1.1]
      exact ⟨_, rfl, Or.inr ⟨b1, b2.fq f2 (by decide) (by decide)⟩⟩
    · rw [hB_t b1, if_neg b2.on]
      have f3 := f2.tr (b3.wk (S' := [22, 25, 9, 10, 12, 13, 14, 18, 20]) (T' := [44, 6, 7, 8, 15, 17, 39, 40]) (by decide) (by decide))
      have g3 : rS (rSett R2) 22 = tu ∧ rS (rSett R2) 25 = nI L.length ∧ rA (rSett R2) 23 = rA R 23 ∧ rA (rSett R2) 24 = rA R 24 ∧ rA (rSett R2) 38 = rA R 38 := by
        rw [← l1, ← l2]
        exact ⟨by rw [b3.1 22 (by decide), a3.1 22 (by decide), ← hR1]; try rfl, by rw [b3.1 25 (by decide), a3.1 25 (by decide), ← hR1]; try rfl, f3.2.1 23 (by decide), f3.2.1 24 (by decide), f3.2.1 38 (by decide)⟩
      generalize rSett R2 = R3 at *
      generalize (aSe N h2).2 = h3 at *
      have hk3 : WkO N R3 := hk.fq f3 (by decide) (by decide) (by decide) (by decide) (by decide)
      obtain ⟨g22, g25, g23, g24, g38⟩ := g3
      obtain ⟨g, p1, p2, p3⟩ := z_putHead (R := R3) (B := B) (L := L) (tu := tu + 1) (by rw [g24]; exact l6) l3 (fun k hk => by rw [g23]; exact (l4 k hk).1) (fun k hk => by rw [g24]; exact (l4 k hk).2.2) (b2.ok hk3 hN)
      rw [g25, g22, bnd_o p1]
      generalize hR4 : setA (setS R3 22 (tu + 1)) 44 g = R4
      have f4 : Fq [22, 25, 9, 10, 12, 13, 14, 18, 20] [44, 6, 7, 8, 15, 17, 39, 40] R3 R4 := by
        rw [← hR4]
        exact (Fq.s (by decide)).tr (Fq.a (by decide))
      have hr4 : RH N B h3 R4 := by
        rw [← hR4]
        exact (b2.s (by decide)).a44 p2
      have hk4 : WkO N R4 := hk3.fq f4 (by decide) (by decide) (by decide) (by decide) (by decide)
      have p3 : nr (rA R4 44) = mHd L (tu + 1) := by
        rw [← hR4, rA_e, ← p3]
        exact nr_eq (fun i _ => by rw [Nat.zero_add])
      have hsp3 : hSp h3 + 1 < 2 ^ 31 := by omega
      have o5 := z_hand79 (t := 1) hN hr4 hk4 (by omega) hsp3 hr4.b44 p3
      have f14 := f3.tr f4
      rcases o5 with ⟨c1, c2, c3⟩ | ⟨c1, c2⟩
      rotate_left
      · rw [hB_f c1, bnd_o (dd_sett c2)]
        exact ⟨_, rfl, Or.inr ⟨c1, c2.fq f14 (by decide) (by decide)⟩⟩
      · have f15 := f14.tr (c3.wk (S' := [22, 25, 9, 10, 12, 13, 14, 18, 20]) (T' := [44, 6, 7, 8, 15, 17, 39, 40]) (by decide) (by decide))
        have hk5 : WkO N (rHand R4 44 0 1) := hk.fq f15 (by decide) (by decide) (by decide) (by decide) (by decide)
        obtain ⟨e6, o6⟩ := z_sett hN c2 hk5
        rw [hB_t c1, bnd_o e6]
        rcases o6 with ⟨d1, d2, d3⟩ | ⟨d1, d2⟩
        · have f16 := f15.tr (d3.wk (S' := [22, 25, 9, 10, 12, 13, 14, 18, 20]) (T' := [44, 6, 7, 8, 15, 17, 39, 40]) (by decide) (by decide))
          refine ⟨_, rfl, Or.inl ⟨d1, d2, ⟨?_, ?_, l3, ?_, ?_, ?_⟩, f16⟩⟩
          · rw [d3.1 22 (by decide), c3.1 22 (by decide), ← hR4]
            rfl
          · rw [d3.1 25 (by decide), c3.1 25 (by decide), ← hR4]
            exact g25
          · rw [f16.2.1 23 (by decide), f16.2.1 24 (by decide)]
            exact l4
          · rw [f16.2.1 38 (by decide)]
            exact l5
          · rw [f16.2.1 24 (by decide)]
            exact l6
        · exact ⟨_, rfl, Or.inr ⟨d1, d2.fq f15 (by decide) (by decide)⟩⟩
theorem wbE_dead {R0 : RfT} {o : Hw} (h : Dd N R0 o R) : wbE R = some R := by rw [wbE, if_pos h.1.1]
theorem z_wbA {n : Nat} {M : QC} {L : List En} {tu : Int32} {hw : Hw} (hN1 : 61 ≤ N) (hN : N ≤ 1024) (hr : RH N B hw R) (hk : WkO N R) (hl : RLg N R L tu) (hb : RBt N R n M) (hLn : L.length + n ≤ 40) (ho : HOk N B hw) (hsp : hSp hw + 100 < 2 ^ 31) : ∃ R', e_writeBatch_20 fuL R 0 = some R' ∧ (((mApp N B L tu (bList M N) hw).1 = true ∧ RH N B (mApp N B L tu (bList M N) hw).2 R' ∧ RLg N R' (L ++ bList M N) (tu + 1) ∧ Fq [22, 25, 9, 10, 12, 13, 14, 18, 20] [23, 24, 38, 44, 45, 6, 7, 8, 15, 17, 39, 40] R R') ∨ ((mApp N B L tu (bList M N) hw).1 = false ∧ Dd N R (mApp N B L tu (bList M N) hw).2 R')) := by
  have hlen : (bList M N).length = n := by rw [bList_len, hb.len hN]
  have hn40 := hb.2.1
  obtain ⟨Y, y1, y2⟩ := z_wb20 (R0 := R) (L := L) (tu := tu) (B := B) hN1 hN hb hLn fuL 0 R hw (bList M N) (Nat.zero_le _) rfl (by rw [fuL_4]; omega) hr hk (by show RLg N R (L ++ []) tu; rw [List.append_nil]; exact hl) hb.1 rfl (fun k hk => by rw [if_neg (by omega)]; exact (hb.tb hN hk).2.1) (by omega)
  have y1 : e_writeBatch_20 fuL R 0 = wbE Y := y1
  rw [show bList M 0 = [] from rfl, List.append_nil] at y2
  obtain ⟨m1, m2, -⟩ := mVals_all (B := B) hN1 (bList M N) L.length hw (by omega) ho
  rw [y1]
  unfold mApp
  rcases y2 with ⟨a1, a2, a3, a4⟩ | ⟨a1, a2⟩
  · rw [hB_t a1]
    have f1 := a3.wk (S' := [22, 25, 9, 10, 12, 13, 14, 18, 20]) (T' := [23, 24, 38, 44, 45, 6, 7, 8, 15, 17, 39, 40]) (by decide) (by decide)
    obtain ⟨R', r1, r2⟩ := z_wbE (B := B) (L := L ++ bList M N) (tu := tu) hN1 hN a2 (hk.fq4 a3 (by decide) (by decide) (by decide) (by decide) (by decide) a4.2.2.2.2.2) a4 (by omega)
    refine ⟨R', r1, ?_⟩
    rcases r2 with ⟨b1, b2, b3, b4⟩ | ⟨b1, b2⟩
    · exact Or.inl ⟨b1, b2, b3, f1.tr (b4.wk (by decide) (by decide))⟩
    · exact Or.inr ⟨b1, b2.fq f1 (by decide) (by decide)⟩
  · rw [hB_f (o := hB (hB (hB (mVals N B L.length (bList M N) hw) _) _) _) (by rw [hB_f (o := hB (hB (mVals N B L.length (bList M N) hw) _) _) (by rw [hB_f (o := hB (mVals N B L.length (bList M N) hw) _) (by rw [hB_f a1]; exact a1), hB_f a1]; exact a1), hB_f (o := hB (mVals N B L.length (bList M N) hw) _) (by rw [hB_f a1]; exact a1), hB_f a1]; exact a1), hB_f (o := hB (hB (mVals N B L.length (bList M N) hw) _) _) (by rw [hB_f (o := hB (mVals N B L.length (bList M N) hw) _) (by rw [hB_f a1]; exact a1), hB_f a1]; exact a1), hB_f (o := hB (mVals N B L.length (bList M N) hw) _) (by rw [hB_f a1]; exact a1), hB_f a1]
    exact ⟨Y, wbE_dead a2, Or.inr ⟨a1, a2⟩⟩
theorem RBt.fq {R' : RfT} {S T : List Nat} {n : Nat} {M : QC} (h : RBt N R n M) (f : Fq S T R R') (h47 : 47 ∉ S) (h45 : 45 ∉ T) (h46 : 46 ∉ T) : RBt N R' n M := by
  unfold RBt at *
  rw [f.1 47 h47, f.2.1 45 h45, f.2.1 46 h46]
  exact h
theorem z_writeBatch {n : Nat} {M : QC} {L : List En} {tu : Int32} {hw : Hw} (hN1 : 61 ≤ N) (hN : N ≤ 1024) (hr : RH N B hw R) (hk : WkO N R) (hl : RLg N R L tu) (hb : RBt N R n M) (ho : HOk N B hw) (hd : LgD hw L) (hsp : hSp hw + 200 < 2 ^ 31) : ∃ R', e_writeBatch R = some R' ∧ (((mStep N B (bList M N) (hw, L, tu)).1 = true ∧ RH N B (mStep N B (bList M N) (hw, L, tu)).2.1 R' ∧ RLg N R' (mStep N B (bList M N) (hw, L, tu)).2.2.1 (mStep N B (bList M N) (hw, L, tu)).2.2.2 ∧ Fq [22, 25, 9, 10, 12, 13, 14, 18, 20] [23, 24, 38, 44, 45, 6, 7, 8, 15, 17, 39, 40] R R') ∨ ((mStep N B (bList M N) (hw, L, tu)).1 = false ∧ Dd N R (mStep N B (bList M N) (hw, L, tu)).2.1 R')) := by
  have hlen : (bList M N).length = n := by rw [bList_len, hb.len hN]
  have hn40 := hb.2.1
  have hl40 := hl.2.2.1
  unfold mStep
  rw [e_writeBatch, hl.2.1, hb.1, nI_add]
  by_cases c : L.length + n ≤ 40
  · rw [if_pos (show nI (L.length + n) ≤ (40 : Int32) from nI_le (b := 40) c (by decide)), if_neg (show ¬ 40 < L.length + (bList M N).length by omega)]
    exact z_wbA hN1 hN hr hk hl hb c ho (show hSp hw + 100 < 2 ^ 31 by omega)
  · rw [if_neg (show ¬ nI (L.length + n) ≤ (40 : Int32) from nI_ge (a := 40) (by omega) (by omega)), if_pos (show 40 < L.length + (bList M N).length by omega)]
    obtain ⟨R1, e1, o1⟩ := z_applyLog hN1 hN hr hk hl ho (by omega)
    obtain ⟨q1, q2, q3, q4⟩ := aApl_all (B := B) (tu := tu) hN1 ho hd
    rw [bnd_o e1]
    rcases o1 with ⟨a1, a2, a3, a4⟩ | ⟨a1, a2⟩
    · rw [if_pos (show (aApl N B (hw, L, tu).2.1 (hw, L, tu).2.2 (hw, L, tu).1).1 = true from a1)]
      have f1 := a4.wk (S' := [22, 25, 9, 10, 12, 13, 14, 18, 20]) (T' := [23, 24, 38, 44, 45, 6, 7, 8, 15, 17, 39, 40]) (by decide) (by decide)
      obtain ⟨R', r1, r2⟩ := z_wbA hN1 hN a2 (hk.fq a4 (by decide) (by decide) (by decide) (by decide) (by decide)) a3 (hb.fq a4 (by decide) (by decide) (by decide)) (by omega) q1 (by omega)
      refine ⟨R', r1, ?_⟩
      rcases r2 with ⟨b1, b2, b3, b4⟩ | ⟨b1, b2⟩
      · exact Or.inl ⟨b1, b2, b3, f1.tr b4⟩
      · exact Or.inr ⟨b1, b2.fq f1 (by decide) (by decide)⟩
    · rw [if_neg (show ¬ (aApl N B (hw, L, tu).2.1 (hw, L, tu).2.2 (hw, L, tu).1).1 = true by rw [show (aApl N B (hw, L, tu).2.1 (hw, L, tu).2.2 (hw, L, tu).1).1 = false from a1]; decide)]
      have a11 : rS R1 11 = 0 := a2.1.1
      refine ⟨R1, ?_, Or.inr ⟨rfl, a2⟩⟩
      rw [show fuL = (fuL - 1) + 1 by rw [fuL_4], e_writeBatch_20]
      by_cases c3 : rS R1 47 ≤ 0
      · rw [if_pos c3, if_pos a11]
      · rw [if_neg c3, if_pos a11, if_pos a11]
end PUY
