/-! ===== pure: data blocks inside a call ===== -/
section PYE
variable {N B gr r u : Nat} {V W : Nat → Rw} {m m' : M5} {tk : Nat → Bool} {A A' : MS} {D D' D2 : CfT} {R R' : RfT} {g : Bool} {tp : Nat → Int32} {ow : Nat → Int} {s0 : S3} {l : List Nat} {b i : Nat} {x : Rw}
/-- a state from which a call's steps are told -/
def Bs (N B gr u : Nat) (s0 : S3) : Prop := MB N B gr u s0.1 ∧ St N B s0.1 (befM s0.1) (fun _ => false) s0.1 s0.2.1 s0.2.2
theorem IM.bs {hd hi : Nat → Nat} {tl : Nat} (h : IM N B gr u g A D R m V tk hd hi tp tl) : Bs N B gr u (m, V, tk) := ⟨h.2.2.1, h.2.2.2.2.1⟩
/-- what is known inside a call, apart from both -/
def WS (N B r : Nat) (s0 : S3) (l : List Nat) (A : MS) (R : RfT) (m : M5) (V : Nat → Rw) (tk : Nat → Bool) (ow : Nat → Int) : Prop := WFs N V ow ∧ Bud N B r m V ∧ OwT A R m V ∧ St N B s0.1 s0.2.1 s0.2.2 m V tk ∧ ∀ b, 43 ≤ b → b < N → Chg m V tk b → Chg s0.1 s0.2.1 s0.2.2 b ∨ b ∈ l
/-- told from now on -/
theorem WS.now (hN1 : 61 ≤ N) (h : WS N B r s0 l A R m V tk ow) (bs : Bs N B gr u s0) : Bs N B gr u (m, V, tk) := by
  obtain ⟨hwf, hbud, hot, hst2, hchg⟩ := h
  obtain ⟨⟨mb1, mb2, mb3, mb4, mb5, mb6, mb7, mb8⟩, hst⟩ := bs
  have hmr := hst2.2.2.2
  obtain ⟨hmok, hbef⟩ := hmr.bef hN1 mb1
  have hbw : WF N (befM s0.1) := mb7.bef
  have all := hst.tr hst2
  exact ⟨⟨hmok, Nat.le_trans (hmr.phi hN1 mb1) mb2, Nat.lt_of_le_of_lt hmr.1.len mb3, mb4, hbud.2.2.2.1, hbud.2.2.2.2.2, hmr.gm hN1 mb1 mb7, hmr.1.gj mb8⟩, ⟨fun b hb => all.1 b ((isT_dep hbw.1 hN1 hbef).mp hb), fun b hb => (all.2.1 b hb).imp id (fun z => ⟨(isT_dep hbw.1 hN1 hbef).mpr z.1, fun q => by cases q⟩), fun _ h => h, Mr.rf⟩⟩
theorem WK.now (hN1 : 61 ≤ N) (h : WK N B gr r s0 l A D R m V tk ow) (bs : Bs N B gr u s0) : Bs N B gr u (m, V, tk) := WS.now hN1 h.2 bs
theorem WK.rb (h : WK N B gr r s0 l A D R m V tk ow) : WK N B gr r (m, V, tk) [] A D R m V tk ow := ⟨h.1, h.2.1, h.2.2.1, h.2.2.2.1, St.rf, fun _ _ _ hc => Or.inl hc⟩
theorem w_directG {VC : Nat → Rw} (hN1 : 61 ≤ N) (hN : N ≤ 1024) (hgr : 1 ≤ gr) (hu : u + 4400 < 2 ^ 31) (hc : CX N A D m VC tk) (e43 : VC 43 = V 43) (hr : RY N B gr R m V tk) (h : WS N B r s0 l A R m V tk ow) (bs : Bs N B gr u s0) (hb : 61 ≤ b) (hbN : b < N) (hus : btM (V 43) b = 1) (hnt : ¬ isT V b) (hby : Byt (cA D 42)) (hx : nr (cA D 42) = x) (hx2 : nr (rA R 44) = x) (h48 : Byt (rA R 48)) : (∃ A' R' m', d_X10_writeDirectly N B gr A D (nI b) = some (.inl ((), A', D)) ∧ e_direct R (nI b) = some R' ∧ CX N A' D m' (vU VC b x) tk ∧ RY N B gr R' m' (vU V b x) tk ∧ WS N B r (m', vU V b x, tk) [] A' R' m' (vU V b x) tk ow ∧ Bs N B gr (u + 101) (m', vU V b x, tk) ∧ (∀ c, 43 ≤ c → c < N → Chg m' (vU V b x) tk c → Chg m V tk c) ∧ gA A' = gA A ∧ ¬ rS R' 11 = 0 ∧ Byt (rA R' 48) ∧ Fq [29, 47, 22, 25, 9, 10, 12, 13, 14, 18, 20] [48, 35, 37, 46, 23, 24, 38, 44, 45, 6, 7, 8, 15, 17, 39, 40] R R') ∨ (∃ A' R', d_X10_writeDirectly N B gr A D (nI b) = some (.inr (0, A', D)) ∧ e_direct R (nI b) = some R' ∧ rS R' 11 = 0 ∧ Dd N R A'.1 R' ∧ SfT N (u + 101) A' D) := by
  have mb : MB N B gr u m := (h.now hN1 bs).1
  have st : St N B m (befM m) (fun _ => false) m V tk := (h.now hN1 bs).2
  obtain ⟨hwf, hbud, hot, -, -⟩ := h
  have husC : btM (VC 43) b = 1 := by rw [e43]; exact hus
  have hph := mb.2.1
  have hl1 := mb.2.2.1
  have hl2 := mb.2.2.2.1
  unfold Phi at hph
  have hlg : lgN N m.2.1 := hr.1.1.2.1.lgn
  have hr0 : m.2.2.2.2 b = 0 := hc.2.2.2.2.2.2 b hbN husC
  have nok : ¬ OkP m V b := fun z => by
    rcases z with z | z | z
    · omega
    · exact hnt z
    · rw [hr0] at z
      cases z
  have ho : oA A b = none := Classical.byContradiction (fun z => nok (hot.1 b z))
  have ho2 : wOw R b = none := Classical.byContradiction (fun z => nok (hot.2 b (by omega) z))
  have ntb : ∀ j, j ≤ m.2.2.2.1.length → ¬ isT (Wj m j) b := fun j hj2 z => by
    rcases mb.2.2.2.2.2.2.2.1 j hj2 b z with q | q
    · rcases st.1 b q with p | p
      · exact hnt p
      · have p : m.2.2.2.2 b = 2 := p
        rw [hr0] at p
        cases p
    · rw [hr0] at q
      cases q
  obtain ⟨R1, e, o⟩ := y_direct hN1 hN hr mb.1 (show 44 ≤ b by omega) hbN ho2 hx2 h48 (by omega) (by omega)
  have fin : (drO N B m b x).1 = true → (∀ c, 43 ≤ c → c < N → befM (drO N B m b x).2 c = if c = b then x else befM m c) ∧ MB N B gr (u + 101) (drO N B m b x).2 ∧ (∀ c, (drO N B m b x).2.2.2.2.2 c = 2 ↔ m.2.2.2.2 c = 2) := fun ht => by
    have hcd : drF m b ∨ ((flO2 N B m).1 = true ∧ (aApl N B (flM N B m).2.1 (flM N B m).2.2.1 (flM N B m).1).1 = true) := by
      by_cases c : drF m b
      · exact Or.inl c
      · refine Or.inr ?_
        unfold drO at ht
        rw [if_neg c] at ht
        by_cases c1 : (flO2 N B m).1 = true
        · rw [if_pos c1] at ht
          by_cases c2 : (aApl N B (flM N B m).2.1 (flM N B m).2.2.1 (flM N B m).1).1 = true
          · exact ⟨c1, c2⟩
          · rw [if_neg c2] at ht
            cases ht
        · rw [if_neg c1] at ht
          cases ht
    obtain ⟨k1, k2, k3, k4, k5⟩ := drB_ok hN1 hgr mb hcd
    have ed : drO N B m b x = plO N B (drB N B m b) b x := by
      unfold drO drB
      by_cases c : drF m b
      · rw [if_pos c, if_pos c]
      · obtain ⟨c1, c2⟩ := hcd.resolve_left c
        rw [if_neg c, if_neg c, if_pos c1, if_pos c2]
    rw [ed] at ht ⊢
    have ntb2 : ∀ j, j ≤ (drB N B m b).2.2.2.1.length → ¬ isT (Wj (drB N B m b) j) b := fun j hj2 z => by
      rcases k1.2.2.2.2.2.2.2.1 j hj2 b z with q | q
      · have q2 := (isT_dep mb.2.2.2.2.2.2.1.bef.1 hN1 k2).mp q
        rcases st.1 b q2 with p | p
        · exact hnt p
        · have p : m.2.2.2.2 b = 2 := p
          rw [hr0] at p
          cases p
      · rw [k4 b hr0] at q
        cases q
    refine ⟨fun c c1 c2 => ?_, k1.pl hN1 k5 hb hbN ntb2 ht, k3⟩
    rw [plO_bef k1.1.1 ht k5]
    by_cases ec : c = b
    · rw [if_pos ec, if_pos ec]
    · rw [if_neg ec, if_neg ec, k2 c c1 c2]
  have bad : (drO N B m b x).1 = false → Safe N (drO N B m b x).2.1 := fun hf => by
    unfold drO at hf ⊢
    by_cases c : drF m b
    · rw [if_pos c]
      exact mb.2.2.2.2.2.2.1.pls hN1 mb.1 hlg hb (ntb 0 (Nat.zero_le _))
    · rw [if_neg c] at hf ⊢
      by_cases c1 : (flO2 N B m).1 = true
      · rw [if_pos c1] at hf ⊢
        have h1 := mb.fl hN1 hgr c1
        have hlg1 := mb.2.2.2.2.2.2.1.flN hN1 mb.1 hlg
        by_cases c2 : (aApl N B (flM N B m).2.1 (flM N B m).2.2.1 (flM N B m).1).1 = true
        · rw [if_pos c2] at hf ⊢
          obtain ⟨k1, k2, k3, k4, k5⟩ := drB_ok (b := b) hN1 hgr mb (Or.inr ⟨c1, c2⟩)
          have ed : drB N B m b = apM N B (flM N B m) := by
            unfold drB
            rw [if_neg c]
          rw [ed] at k1 k2 k4
          have e0 : (apM N B (flM N B m)).2.1 = [] := List.eq_nil_of_length_eq_zero (aApl_all (tu := (flM N B m).2.2.1) hN1 h1.1.1 h1.1.2.1).2.2.2
          refine k1.2.2.2.2.2.2.1.pls hN1 k1.1 (by rw [e0]; exact fun p hp => by cases hp) hb (fun z => ?_)
          rcases k1.2.2.2.2.2.2.2.1 0 (Nat.zero_le _) b z with q | q
          · have q2 := (isT_dep mb.2.2.2.2.2.2.1.bef.1 hN1 k2).mp q
            rcases st.1 b q2 with p | p
            · exact hnt p
            · have p : m.2.2.2.2 b = 2 := p
              rw [hr0] at p
              cases p
          · rw [k4 b hr0] at q
            cases q
        · rw [if_neg c2] at hf ⊢
          exact h1.2.2.2.2.2.2.1.apd hN1 h1.1 hlg1
      · rw [if_neg c1]
        exact mb.2.2.2.2.2.2.1.dead hN1 mb.1 hlg
  have bsp : hSp (drO N B m b x).2.1 ≤ u + 101 := by
    have hph := mb.2.1
    have pl : ∀ h : Hw, hSp (aPl N B b x h).2 ≤ hSp h + 1 := fun h => aPl_sp
    have fl := flO2_sp hN1 mb.1
    unfold drO
    by_cases c : drF m b
    · rw [if_pos c]
      have := pl m.1
      unfold Phi at hph
      show hSp (aPl N B b x m.1).2 ≤ _
      omega
    · rw [if_neg c]
      have ap : (flO2 N B m).1 = true → hSp (apM N B (flM N B m)).1 ≤ hSp (flM N B m).1 + 41 := fun c1 => apM_sp hN1 (mb.fl hN1 hgr c1).1
      have fl : hSp (flM N B m).1 ≤ Phi m := fl
      split
      · rename_i c1
        have ap := ap c1
        split
        · have := pl (apM N B (flM N B m)).1
          show hSp (aPl N B b x (apM N B (flM N B m)).1).2 ≤ _
          omega
        · show hSp (apM N B (flM N B m)).1 ≤ _
          omega
      · show hSp (flM N B m).1 ≤ _
        omega
  rcases c_direct (gr := gr) hN1 hN hc mb.1 (show 44 ≤ b by omega) hbN husC ho hby hx (by omega) (by omega) with ⟨t1, A1, a1, a2, a3, a4, a5⟩ | ⟨t1, A1, a1, a2⟩
  · rcases o with ⟨-, y2, y3, y4⟩ | ⟨q, -⟩
    · obtain ⟨f1, f2, f3⟩ := fin t1
      have rows : ∀ c, c ≠ b → vU V b x c = V c := fun c hc => vU_n hc
      have rt : ∀ c, isT V c → vU V b x c = V c := fun c hc => rows c (fun z => hnt (by rw [← z]; exact hc))
      obtain ⟨d1, -, -, -, -⟩ := hwf.dep hN1 (fun c c1 c2 => rows c (by omega)) rt
      have it : ∀ c, isT (vU V b x) c ↔ isT V c := fun c => isT_dp hwf hN1 (fun c c1 c2 => rows c (by omega)) rt
      have ntB : ¬ isT (befM m) b := by
        have := ntb m.2.2.2.1.length (Nat.le_refl _)
        rw [Wj_all] at this
        exact this
      have itB : ∀ c, isT (befM (drO N B m b x).2) c ↔ isT (befM m) c := fun c => by
        have hW : WF N (befM m) := mb.2.2.2.2.2.2.1.bef
        have h2 := isT_dep (W := befM (drO N B m b x).2) (V := vU (befM m) b x) (b := c) ((hW.s.dep hN1 (W := vU (befM m) b x) (fun c c1 c2 => vU_n (by omega)) (fun c hc => vU_n (fun z => ntB (by rw [← z]; exact hc)))).1.1) hN1 (fun c c1 c2 => by
          rw [f1 c c1 c2]
          by_cases ec : c = b
          · rw [if_pos ec, ec, vU_s]
          · rw [if_neg ec, vU_n ec])
        exact h2.trans (isT_dp hW.s hN1 (fun c c1 c2 => vU_n (by omega)) (fun c hc => vU_n (fun z => ntB (by rw [← z]; exact hc))))
      have okp : ∀ c, OkP m V c → OkP (drO N B m b x).2 (vU V b x) c := fun c hc => hc.imp id (fun z => z.imp (fun z => (it c).mpr z) (fun z => (f3 c).mpr z))
      refine Or.inl ⟨A1, R1, (drO N B m b x).2, a1, e, a2, y2, ⟨d1, ?_, ⟨fun c hc => ?_, (hot.2.wk okp).fq y4 (by decide)⟩, St.rf, fun _ _ _ hc => Or.inl hc⟩, ⟨f2, fun c hc => ?_, fun c hc => ?_, fun _ z => z, Mr.rf⟩, fun c c1 c2 hc => ?_, a3, y2.1.1.1.on, y3, y4⟩
      · have hp2 := f2.2.1
        have hp3 := f2.2.2.1
        unfold Phi at hp2
        refine ⟨f2.1, by omega, by omega, f2.2.2.2.2.1, ?_, f2.2.2.2.2.2.1⟩
        rw [vU_n (show (43 : Nat) ≠ b by omega)]
        have e2 : rsC (drO N B m b x).2.2.2.2.2 2 N = rsC m.2.2.2.2 2 N := Nat.le_antisymm (rsC_mono (fun c => (f3 c).mp) N) (rsC_mono (fun c => (f3 c).mpr) N)
        rw [e2]
        exact hbud.2.2.2.2.1
      · rw [a4] at hc
        exact okp c (hot.1 c hc)
      · exact (st.1 c ((itB c).mp hc)).imp (fun z => (it c).mpr z) (fun z => (f3 c).mpr z)
      · exact (st.2.1 c ((it c).mp hc)).imp id (fun z => ⟨(itB c).mpr z.1, fun q => by cases q⟩)
      · rcases hc with q | q
        · exact Or.inl q
        · refine Or.inr ?_
          rw [f1 c c1 c2] at q
          by_cases ec : c = b
          · rw [ec, vU_s, if_pos rfl] at q
            exact absurd rfl q
          · rw [vU_n ec, if_neg ec] at q
            exact q
    · rw [t1] at q
      cases q
  · rcases o with ⟨q, -⟩ | ⟨-, q⟩
    · rw [t1] at q
      cases q
    · exact Or.inr ⟨A1, R1, a1, e, q.1.1, by rw [a2.1]; exact q, ⟨by rw [a2.1]; exact ⟨bad t1, bsp⟩, a2.2⟩⟩
theorem w_direct (hN1 : 61 ≤ N) (hN : N ≤ 1024) (hgr : 1 ≤ gr) (hu : u + 4400 < 2 ^ 31) (h : WK N B gr r s0 l A D R m V tk ow) (bs : Bs N B gr u s0) (hb : 61 ≤ b) (hbN : b < N) (hus : btM (V 43) b = 1) (hnt : ¬ isT V b) (hby : Byt (cA D 42)) (hx : nr (cA D 42) = x) (hx2 : nr (rA R 44) = x) (h48 : Byt (rA R 48)) : (∃ A' R' m', d_X10_writeDirectly N B gr A D (nI b) = some (.inl ((), A', D)) ∧ e_direct R (nI b) = some R' ∧ WK N B gr r (m', vU V b x, tk) [] A' D R' m' (vU V b x) tk ow ∧ Bs N B gr (u + 101) (m', vU V b x, tk) ∧ (∀ c, 43 ≤ c → c < N → Chg m' (vU V b x) tk c → Chg m V tk c) ∧ gA A' = gA A ∧ ¬ rS R' 11 = 0 ∧ Byt (rA R' 48) ∧ Fq [29, 47, 22, 25, 9, 10, 12, 13, 14, 18, 20] [48, 35, 37, 46, 23, 24, 38, 44, 45, 6, 7, 8, 15, 17, 39, 40] R R') ∨ (∃ A' R', d_X10_writeDirectly N B gr A D (nI b) = some (.inr (0, A', D)) ∧ e_direct R (nI b) = some R' ∧ rS R' 11 = 0 ∧ Dd N R A'.1 R' ∧ SfT N (u + 101) A' D) := by
  rcases w_directG hN1 hN hgr hu h.1.1 rfl h.1.2 h.2 bs hb hbN hus hnt hby hx hx2 h48 with ⟨A', R', m', a1, a2, a3, a4, a5, a6⟩ | q
  · exact Or.inl ⟨A', R', m', a1, a2, ⟨⟨a3, a4⟩, a5⟩, a6⟩
  · exact Or.inr q
end PYE
