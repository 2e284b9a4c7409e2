section PUU
variable {R : RfT} {N B : Nat}
theorem z_hand65 {t k : Nat} {x : Rw} {h : Hw} (hN : N ≤ 1024) (hr : RH N B h R) (hw : WkO N R) (ht : t < N) (hsp : hSp h + 1 < 2 ^ 31) (hj : Byt (rA R 24)) (hk : k < 40) (hx : nr (fl (rA R 24) k) = x) : e_hand_65 R (nI t) (nI (128 * k)) = some (rHand R 24 (128 * k) t) ∧ Ou N B [9, 10, 12, 13, 14, 18, 20] [6, 7, 8, 15, 17, 39, 40] R (aPl N B t x h) (rHand R 24 (128 * k) t) := by
  have ok := hr.ok hw hN
  have ok2 := rHand_ok (j := 24) (a := 128 * k) (t := t) ok (by omega) hj (by decide) (by decide) (by decide) (by decide) (by decide) (by decide) (by decide)
  refine ⟨?_, ?_⟩
  · rw [e_hand_65, gd_t ⟨⟨B, ok⟩, nI_in (by omega) (by decide), nI_nn (by omega), by rw [nI_clamp (by omega)]; omega, hj⟩, nI_clamp (by omega), nI_clamp (by omega)]
  · rcases hr.hand (j := 24) (a := 128 * k) hN ht hsp hj (by decide) hx with ⟨a1, a2, a3⟩ | ⟨a1, a2, a3, a4⟩
    · exact Or.inl ⟨a1, a2, a3⟩
    · exact Or.inr ⟨a1, by rw [a2]; exact a3.dd hw ok2 a4⟩
theorem apl_dead {R0 : RfT} {o : Hw} (h : Dd N R0 o R) : e_applyLog_66 R = some R := by
  rw [e_applyLog_66, bnd_o (dd_sett h), if_pos h.1.1]
theorem z_home {L : List En} {tu : Int32} (hN : N ≤ 1024) : ∀ (m b : Nat) (R : RfT) (hw : Hw), RH N B hw R → WkO N R → RLg N R L tu → HOk N B hw → b ≤ 1024 → 1024 - b < m → hSp hw + lNum L N + 1 < 2 ^ 31 + lNum L b → ∃ R', e_applyLog_17 m R (nI b) = e_applyLog_66 R' ∧ Ou N B [9, 10, 12, 13, 14, 18, 20] [6, 7, 8, 15, 17, 39, 40] R (mHome N B L (N - b) b hw) R' := by
  intro m
  induction m with
  | zero => intro b _ _ _ _ _ _ _ h; exact absurd h (Nat.not_lt_zero _)
  | succ m ih =>
    intro b R hw hr hk hl ho hb hm hsp
    rw [e_applyLog_17]
    by_cases c : b = 1024
    · rw [c, if_pos (show (1024 : Int32) ≤ nI 1024 from nI_le (a := 1024) (b := 1024) (by decide) (by decide)), show N - 1024 = 0 by omega]
      exact ⟨R, rfl, Or.inl ⟨rfl, hr, Fq.rf⟩⟩
    · obtain ⟨l1, l2, l3, l4, l5, l6⟩ := id hl
      rw [if_neg (show ¬ (1024 : Int32) ≤ nI b from nI_ge (a := b) (b := 1024) (by omega) (by decide)), if_neg hr.on, ld_n (by omega) (by decide), nI_1]
      rcases (l5 b (by omega)).val with ⟨e1, e2⟩ | ⟨k, k1, k2, k3⟩
      · rw [if_pos e1]
        obtain ⟨R', q1, q2⟩ := ih (b + 1) R hw hr hk hl ho (by omega) (by omega) (by
          have : lNum L b ≤ lNum L (b + 1) := lNum_mono _ (by omega)
          omega)
        refine ⟨R', q1, ?_⟩
        by_cases cN : b < N
        · have em : mHome N B L (N - b) b hw = mHome N B L (N - (b + 1)) (b + 1) hw := by
            rw [show N - b = N - (b + 1) + 1 by omega]
            show (match lVal L b with | some x => _ | none => _) = _
            rw [e2]
          rw [em]
          exact q2
        · rw [show N - b = 0 by omega]
          rw [show N - (b + 1) = 0 by omega] at q2
          exact q2
      · have kb : (lAt L k).1 = b := by
          rcases l5 b (by omega) with ⟨z, -⟩ | ⟨k', z1, z2, z3, -⟩
          · rw [k2] at z
            exact absurd z (nI_m1 (by omega))
          · have : k = k' := nI_inj (by omega) (by omega) (k2.symm.trans z2)
            rw [this]
            exact z3
        obtain ⟨k4, k5, k6⟩ := l4 k k1
        have cN : b < N := by omega
        have hn1 : lNum L (b + 1) = lNum L b + 1 := by
          show lNum L b + (if (lVal L b).isSome then 1 else 0) = _
          rw [k3]
          rfl
        have hn2 : lNum L (b + 1) ≤ lNum L N := lNum_mono _ (by omega)
        have hsp1 : hSp hw + 1 < 2 ^ 31 := by omega
        obtain ⟨e1, e2⟩ := z_hand65 hN hr hk cN hsp1 l6 (show k < 40 by omega) k6
        rw [if_neg (by rw [k2]; exact nI_m1 (by omega)), ld_n (by omega) (by decide), k2, show (128 : Int32) = nI 128 from rfl, pk_mul, bnd_o e1]
        have em : mHome N B L (N - b) b hw = hB (aPl N B b (lAt L k).2 hw) (mHome N B L (N - (b + 1)) (b + 1)) := by
          rw [show N - b = N - (b + 1) + 1 by omega]
          show (match lVal L b with | some x => _ | none => _) = _
          rw [k3]
        rw [em]
        rcases e2 with ⟨a1, a2, a3⟩ | ⟨a1, a2⟩
        · rw [hB_t a1]
          have hl' : RLg N (rHand R 24 (128 * k) b) L tu := by
            unfold RLg
            rw [a3.1 22 (by decide), a3.1 25 (by decide), a3.2.1 23 (by decide), a3.2.1 24 (by decide), a3.2.1 38 (by decide)]
            exact hl
          have hsp3 : hSp (aPl N B b (lAt L k).2 hw).2 ≤ hSp hw + 1 := aPl_sp
          obtain ⟨R', q1, q2⟩ := ih (b + 1) _ (aPl N B b (lAt L k).2 hw).2 a2 (hk.fq a3 (by decide) (by decide) (by decide) (by decide) (by decide)) hl' (aPl_ok ho cN) (by omega) (by omega) (by omega)
          refine ⟨R', q1, ?_⟩
          rcases q2 with ⟨b1, b2, b3⟩ | ⟨b1, b2⟩
          · exact Or.inl ⟨b1, b2, a3.tr b3⟩
          · exact Or.inr ⟨b1, b2.fq a3 (by decide) (by decide)⟩
        · rw [hB_f a1]
          have a11 : rS (rHand R 24 (128 * k) b) 11 = 0 := a2.1.1
          refine ⟨rHand R 24 (128 * k) b, ?_, Or.inr ⟨a1, a2⟩⟩
          obtain ⟨m2, rfl⟩ : ∃ m2, m = m2 + 1 := ⟨m - 1, by omega⟩
          rw [e_applyLog_17]
          by_cases c3 : (1024 : Int32) ≤ nI (b + 1)
          · rw [if_pos c3]
          · rw [if_neg c3, if_pos a11]

theorem RH.eq {h : Hw} {R' : RfT} (hr : RH N B h R) (hs : ∀ j, j ∈ [2, 9, 10, 11, 12, 13, 14, 18, 20] → rS R' j = rS R j) (ha : ∀ k, k ∈ [6, 7, 8, 15, 17, 39, 40] → rA R' k = rA R k) (hw : rWh R' = rWh R) (hl : rLW R' = rLW R) (hb : Byt (rA R' 44)) : RH N B h R' := by
  obtain ⟨wf, w, h1, h2, ⟨q1, q2, q3, ⟨q4, q5, q6, q7⟩, q8, q9, q10⟩, h4, h5, h6, h7, h8, h9⟩ := hr
  refine ⟨wf, w, ?_, ?_, ⟨?_, ?_, ?_, ⟨?_, ?_, ?_, hb⟩, ?_, ?_, ?_⟩, h4, h5, ?_, ?_, ?_, ?_⟩
  · unfold RDk at h1 ⊢
    rw [ha 40 (by decide), ha 7 (by decide), ha 6 (by decide), ha 8 (by decide)]
    exact h1
  · unfold RBf at h2 ⊢
    rw [hw, hs 20 (by decide), ha 39 (by decide), ha 15 (by decide), ha 17 (by decide), hl]
    exact h2
  · rw [hs 9 (by decide), hs 10 (by decide)]
    exact q1
  · rw [ha 7 (by decide)]
    exact q2
  · rw [ha 40 (by decide)]
    exact q3
  · rw [ha 6 (by decide)]
    exact q4
  · rw [ha 8 (by decide)]
    exact q5
  · rw [ha 17 (by decide)]
    exact q6
  · rw [hs 2 (by decide), hs 18 (by decide)]
    exact q8
  · rw [ha 15 (by decide)]
    exact q9
  · rw [ha 39 (by decide), ha 15 (by decide)]
    exact q10
  · rw [hs 12 (by decide)]
    exact h6
  · rw [hs 13 (by decide)]
    exact h7
  · rw [hs 14 (by decide)]
    exact h8
  · rw [hs 11 (by decide)]
    exact h9
theorem RH.b44 {h : Hw} (hr : RH N B h R) : Byt (rA R 44) := by
  obtain ⟨wf, w, h1, h2, ⟨q1, q2, q3, ⟨q4, q5, q6, q7⟩, q8, q9, q10⟩, -⟩ := hr
  exact q7
theorem RH.s {h : Hw} {j : Nat} {v : Int32} (hr : RH N B h R) (hj : j ∉ [2, 9, 10, 11, 12, 13, 14, 18, 20]) : RH N B h (setS R j v) := hr.eq (fun i hi => pk_un (fun e => hj (e ▸ hi))) (fun _ _ => rfl) rfl rfl hr.b44
theorem RH.a {h : Hw} {j : Nat} {x : Nat → Int32} (hr : RH N B h R) (hj : j ∉ [6, 7, 8, 15, 17, 39, 40, 44]) : RH N B h (setA R j x) := hr.eq (fun _ _ => rfl) (fun i hi => if_neg (fun (e : i = j) => hj (e ▸ (List.mem_append.mpr (Or.inl hi) : i ∈ [6, 7, 8, 15, 17, 39, 40] ++ [44])))) rfl rfl (by
  rw [show rA (setA R j x) 44 = rA R 44 from if_neg (fun (e : 44 = j) => hj (e ▸ by decide))]
  exact hr.b44)
theorem RH.a44 {h : Hw} {x : Nat → Int32} (hr : RH N B h R) (hx : Byt x) : RH N B h (setA R 44 x) := hr.eq (fun _ _ => rfl) (fun i hi => if_neg (fun (e : i = 44) => by rw [e] at hi; exact absurd hi (by decide))) rfl rfl hx
theorem Dd.in {R0 R1 : RfT} {o : Hw} {S T : List Nat} (h : Dd N R1 o R) (f : Fq S T R0 R1) (e : ∀ j, j ∈ [1, 2, 3, 5] → j ∉ S) (e4 : 4 ∉ T) : Dd N R0 o R := h.fq f e e4
theorem z_applyLog {L : List En} {tu : Int32} {hw : Hw} (hN1 : 61 ≤ N) (hN : N ≤ 1024) (hr : RH N B hw R) (hk : WkO N R) (hl : RLg N R L tu) (ho : HOk N B hw) (hsp : hSp hw + 100 < 2 ^ 31) : ∃ R', e_applyLog R = some R' ∧ (((aApl N B L tu hw).1 = true ∧ RH N B (aApl N B L tu hw).2 R' ∧ RLg N R' (lApl L tu).1 (lApl L tu).2 ∧ Fq [22, 25, 9, 10, 12, 13, 14, 18, 20] [38, 44, 6, 7, 8, 15, 17, 39, 40] R R') ∨ ((aApl N B L tu hw).1 = false ∧ Dd N R (aApl N B L tu hw).2 R')) := by
  obtain ⟨l1, l2, l3, l4, l5, l6⟩ := id hl
  rw [e_applyLog, l2]
  unfold aApl lApl
  by_cases c0 : L.length = 0
  · rw [if_pos (show nI L.length = 0 by rw [c0]; exact nI_0), if_pos c0, if_pos c0]
    exact ⟨R, rfl, Or.inl ⟨rfl, hr, hl, Fq.rf⟩⟩
  · rw [if_neg (nI_ne0 (by omega) (by omega)), if_neg hr.on, if_neg c0, if_neg c0]
    have hnum := lNum_le L N
    have hnum0 : lNum L 0 = 0 := rfl
    obtain ⟨R1, e1, o1⟩ := z_home (L := L) (tu := tu) hN fuL 0 R hw hr hk hl ho (Nat.zero_le _) (by rw [fuL_4]; omega) (by omega)
    have e1 : e_applyLog_17 fuL R 0 = e_applyLog_66 R1 := e1
    rw [e1]
    unfold mAply
    obtain ⟨ho1, hs1, -⟩ := mHome_all (L := L) (N := N) (B := B) N 0 hw (by omega) ho
    rw [Nat.sub_zero] at o1
    rw [Nat.zero_add] at hs1
    rcases o1 with ⟨a1, a2, a3⟩ | ⟨a1, a2⟩
    rotate_left
    · rw [hB_f (o := hB (hB (mHome N B L N 0 hw) _) _) (by rw [hB_f (o := hB (mHome N B L N 0 hw) _) (by rw [hB_f a1]; exact a1), hB_f a1]; exact a1), hB_f (o := hB (mHome N B L N 0 hw) _) (by rw [hB_f a1]; exact a1), hB_f a1]
      exact ⟨R1, apl_dead a2, Or.inr ⟨a1, a2⟩⟩
    · have hk1 : WkO N R1 := hk.fq a3 (by decide) (by decide) (by decide) (by decide) (by decide)
      obtain ⟨e2, o2⟩ := z_sett hN a2 hk1
      rw [hB_t a1, e_applyLog_66, bnd_o e2]
      obtain ⟨s1, s2, s3, s4, s5⟩ := aSe_all (N := N) (B := B) (mHome N B L N 0 hw).2
      rcases o2 with ⟨b1, b2, b3⟩ | ⟨b1, b2⟩
      rotate_left
      · rw [hB_f (o := hB (aSe N (mHome N B L N 0 hw).2) _) (by rw [hB_f b1]; exact b1), hB_f b1, if_pos b2.1.1]
        exact ⟨_, rfl, Or.inr ⟨b1, b2.fq a3 (by decide) (by decide)⟩⟩
      · rw [hB_t b1, if_neg b2.on]
        have hk2 : WkO N (rSett R1) := hk1.fq b3 (by decide) (by decide) (by decide) (by decide) (by decide)
        have e22 : rS (rSett R1) 22 = tu := by rw [b3.1 22 (by decide), a3.1 22 (by decide), l1]
        have e24 : Byt (rA (rSett R1) 24) := by rw [b3.2.1 24 (by decide), a3.2.1 24 (by decide)]; exact l6
        generalize hR2 : rSett R1 = R2 at *
        generalize hh2 : (aSe N (mHome N B L N 0 hw).2).2 = h2 at *
        rw [ptR, bnd_o (z_nowhere_75 (R := setS R2 25 0))]
        generalize hR3 : setA (setS R2 25 0) 38 (flt (rA (setS R2 25 0) 38) 0 1024 (-1)) = R3
        have f3 : Fq [22, 25, 9, 10, 12, 13, 14, 18, 20] [38, 44, 6, 7, 8, 15, 17, 39, 40] R2 R3 := by
          rw [← hR3]
          exact (Fq.s (by decide)).tr (Fq.a (by decide))
        have hr3 : RH N B h2 R3 := by
          rw [← hR3]
          exact (b2.s (by decide)).a (by decide)
        have hk3 : WkO N R3 := hk2.fq f3 (by decide) (by decide) (by decide) (by decide) (by decide)
        have e322 : rS R3 22 = tu := by rw [← hR3]; exact e22
        have e324 : rA R3 24 = rA R2 24 := f3.2.1 24 (by decide)
        have e325 : rS R3 25 = nI 0 := by rw [← hR3]; rfl
        have e338 : ∀ b, b < 1024 → rA R3 38 b = -1 := fun b hb => by
          rw [← hR3]
          exact flt_at (Nat.zero_le _) hb
        obtain ⟨g, p1, p2, p3⟩ := z_putHead (R := R3) (B := B) (L := []) (tu := tu + 1) (by rw [e324]; exact e24) (by decide) (fun k hk => absurd hk (Nat.not_lt_zero _)) (fun k hk => absurd hk (Nat.not_lt_zero _)) (hr3.ok hk3 hN)
        have p1 : e_putHead R3 0 (rS R3 22 + 1) = some (rHand (setA (setS R3 22 (tu + 1)) 44 g) 44 0 1) := by rw [e322]; exact p1
        rw [bnd_o p1]
        generalize hR4 : setA (setS R3 22 (tu + 1)) 44 g = R4
        have f4 : Fq [22, 25, 9, 10, 12, 13, 14, 18, 20] [38, 44, 6, 7, 8, 15, 17, 39, 40] R3 R4 := by
          rw [← hR4]
          exact (Fq.s (by decide)).tr (Fq.a (by decide))
        have hr4 : RH N B h2 R4 := by
          rw [← hR4]
          exact (hr3.s (by decide)).a44 p2
        have hk4 : WkO N R4 := hk3.fq f4 (by decide) (by decide) (by decide) (by decide) (by decide)
        have p3 : nr (rA R4 44) = mHd [] (tu + 1) := by
          rw [← hR4, rA_e, ← p3]
          exact nr_eq (fun i _ => by rw [Nat.zero_add])
        have hsp2 : hSp h2 + 1 < 2 ^ 31 := by omega
        have o5 := z_hand79 (t := 1) hN hr4 hk4 (by omega) hsp2 hr4.b44 p3
        have f14 : Fq [22, 25, 9, 10, 12, 13, 14, 18, 20] [38, 44, 6, 7, 8, 15, 17, 39, 40] R R4 := (((a3.wk (by decide) (by decide)).tr (b3.wk (by decide) (by decide))).tr f3).tr f4
        rcases o5 with ⟨c1, c2, c3⟩ | ⟨c1, c2⟩
        rotate_left
        · rw [hB_f c1, bnd_o (dd_sett c2)]
          exact ⟨_, rfl, Or.inr ⟨c1, c2.fq f14 (by decide) (by decide)⟩⟩
        · have hk5 : WkO N (rHand R4 44 0 1) := hk4.fq c3 (by decide) (by decide) (by decide) (by decide) (by decide)
          obtain ⟨e6, o6⟩ := z_sett hN c2 hk5
          have f15 : Fq [22, 25, 9, 10, 12, 13, 14, 18, 20] [38, 44, 6, 7, 8, 15, 17, 39, 40] R (rHand R4 44 0 1) := f14.tr (c3.wk (by decide) (by decide))
          rw [hB_t c1, bnd_o e6]
          rcases o6 with ⟨d1, d2, d3⟩ | ⟨d1, d2⟩
          · refine ⟨_, rfl, Or.inl ⟨d1, d2, ?_, f15.tr (d3.wk (by decide) (by decide))⟩⟩
            have g38 : rA (rSett (rHand R4 44 0 1)) 38 = rA R3 38 := by rw [d3.2.1 38 (by decide), c3.2.1 38 (by decide), ← hR4]; rfl
            refine ⟨?_, ?_, Nat.zero_le 40, fun k hk => absurd hk (Nat.not_lt_zero _), fun b hb => Or.inl ⟨by rw [g38]; exact e338 b hb, fun k hk => absurd hk (Nat.not_lt_zero _)⟩, ?_⟩
            · rw [d3.1 22 (by decide), c3.1 22 (by decide), ← hR4]
              rfl
            · rw [d3.1 25 (by decide), c3.1 25 (by decide), ← hR4]
              exact e325
            · rw [d3.2.1 24 (by decide), c3.2.1 24 (by decide), f4.2.1 24 (by decide), e324]
              exact e24
          · exact ⟨_, rfl, Or.inr ⟨d1, d2.fq f15 (by decide) (by decide)⟩⟩
end PUU
