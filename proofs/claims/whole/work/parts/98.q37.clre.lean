/-! ===== pure: clear, the end ===== -/
section PZK
variable {N B gr r u : Nat} {V W : Nat → Rw} {m m' : M5} {tk tk' : Nat → Bool} {A A' : MS} {D D' D2 : CfT} {R R' : RfT} {g : Bool} {hd hi : Nat → Nat} {tp : Nat → Int32} {tl : Nat} {ex : Nat → Int32} {l : List Nat}
theorem cl_141 {rs : Nat → Nat} (hrs : ∀ b, b < 1024 → rs b < 3) : ∀ (n k : Nat) (gg : Nat → Int32), k ≤ 1024 → 1024 - k < n → (∀ b, b < 1024 → gg b = nI (if b < k then r20 rs b else rs b)) → ∃ g', e_clear_141 n (setA R 35 gg) (nI k) = some (-12, setA R 35 g') ∧ ∀ b, b < 1024 → g' b = nI (r20 rs b) := by
  intro n
  induction n with
  | zero => intro k gg _ h; exact absurd h (Nat.not_lt_zero _)
  | succ n ih =>
    intro k gg hk hn hg
    rw [e_clear_141]
    by_cases c : k = 1024
    · rw [if_pos (show (1024 : Int32) ≤ nI k by rw [c]; decide)]
      exact ⟨gg, rfl, fun b hb => by rw [hg b hb, if_pos (by omega)]⟩
    · have e : gg k = nI (rs k) := by rw [hg k (by omega), if_neg (by omega)]
      have h3 := hrs k (by omega)
      have next : ∀ v : Int32, v = nI (r20 rs k) → ∃ g', e_clear_141 n (setA (setA R 35 gg) 35 (upd gg k v)) (nI (k + 1)) = some (-12, setA R 35 g') ∧ ∀ b, b < 1024 → g' b = nI (r20 rs b) := fun v hv => by
        rw [setA_A]
        refine ih (k + 1) _ (by omega) (by omega) (fun b hb => ?_)
        by_cases cb : b = k
        · rw [cb, pk_us, hv, if_pos (by omega)]
        · rw [pk_un cb, hg b hb]
          by_cases cb2 : b < k
          · rw [if_pos cb2, if_pos (by omega)]
          · rw [if_neg cb2, if_neg (by omega)]
      rw [if_neg (show ¬ (1024 : Int32) ≤ nI k from nI_ge (b := 1024) (by omega) (by decide)), ld_n (show k < 1024 by omega) (by decide), rA_e, e, nI_1]
      by_cases c2 : rs k = 2
      · rw [if_pos (show nI (rs k) = (2 : Int32) by rw [c2]; rfl), st_n (show k < 1024 by omega) (by decide), rA_e]
        exact next _ (by unfold r20; rw [if_pos c2]; decide)
      · rw [if_neg (nx2 c2 (by omega)), ld_n (show k < 1024 by omega) (by decide), e, st_n (show k < 1024 by omega) (by decide), rA_e]
        exact next _ (by unfold r20; rw [if_neg c2, nar_3 h3])
/-- what was done is dropped -/
theorem w_disc (hN1 : 61 ≤ N) (hN : N ≤ 1024) (a1 : JX N B gr A D R m V tk) (mb : MB N B gr u m) (a6 : HRel D R hd hi) (a7 : HdW (befM m) hd hi) (a8 : Fx N D R false tp tl) (hg : gA A = false) (h42 : Byt (cA D 42)) : ∃ A1 D1 R1, d_X10_discard N A D = some (A1, D1) ∧ bnd (e_noWorks R) (fun R88 => e_clear_141 fuL R88 0) = some (-12, R1) ∧ IM N B gr u false A1 D1 R1 (mRs m (r20 m.2.2.2.2)) (befM m) (fun _ => false) hd hi tp tl ∧ rS R1 0 = rS R 0 := by
  obtain ⟨b1, b2, b3, b4, b5, b6, b7, b8⟩ := mb
  have hW : WF N (befM m) := b7.bef
  obtain ⟨A2, D2, e2, m2, g2, n2, t2, d2⟩ := c_disown hN a1.1.2.1 a1.1.2.2.2.2.1
  have em : mA (aRs A2 (fun b => if A2.2.2.2.2.1 b = 2 then 0 else A2.2.2.2.2.1 b)) = mRs m (r20 m.2.2.2.2) := by
    show mRs (mA A2) (r20 (mA A2).2.2.2.2) = _
    rw [m2, a1.1.1]
  have hu0 : ∀ b, b < N → btM (befM m 43) b = 1 → r20 m.2.2.2.2 b = 0 := fun b hb hu => by
    have q := b8.2 b hu
    have q3 := b5 b hb
    unfold r20
    split
    · rfl
    · omega
  have cx : CX N (aRs A2 (fun b => if A2.2.2.2.2.1 b = 2 then 0 else A2.2.2.2.2.1 b)) D2 (mRs m (r20 m.2.2.2.2)) (befM m) (fun _ => false) := CX.clean em n2 d2 hW.1.1 (fun b hb0 hb => rfl) (fun b hb hu => hu0 b hb hu)
  obtain ⟨R2, z1, z2, z3, z4⟩ := z_noWorks hN a1.2.1
  have own0 : ∀ c, c < 1024 → wOw R2 c = none := fun c hc => Classical.byContradiction (fun hne => by
    obtain ⟨n, m1, m2, m3, m4, m5, m6⟩ := id z2.1.wk
    unfold wOw at hne
    by_cases q : rA R2 36 c = -1
    · rw [if_pos q] at hne
      exact hne rfl
    · rcases m4 c hc with w | ⟨k, k1, k2⟩
      · exact q w
      · rw [z4] at m2
        have := nI_inj (a := 0) (b := n) (by decide) (by omega) m2
        omega)
  have y3 : RY N B gr R2 m (befM m) (fun _ => false) := ⟨z2, fun c hc hne => absurd (own0 c hc) hne, hW.1.1⟩
  have rr : RRs R2 m.2.2.2.2 := y3.1.1.2.2.2.1
  obtain ⟨g5, q1, q2⟩ := cl_141 (R := R2) (rs := m.2.2.2.2) (fun b hb => (rr b hb).2) fuL 0 (rA R2 35) (by decide) (by rw [fuL_4]; omega) (fun b hb => by rw [(rr b hb).1, if_neg (Nat.not_lt_zero _)])
  rw [setA_id, nI_0] at q1
  have f4 : Fn [] [35] R2 (setA R2 35 g5) := Fn.a (by decide)
  have hr20 : ∀ b, r20 m.2.2.2.2 b < 3 ∨ 1024 ≤ b := fun b => by
    by_cases hb : b < 1024
    · refine Or.inl ?_
      have := (rr b hb).2
      unfold r20
      split
      · decide
      · exact this
    · exact Or.inr (by omega)
  have y4 : RY N B gr (setA R2 35 g5) (mRs m (r20 m.2.2.2.2)) (befM m) (fun _ => false) := by
    refine ⟨⟨y3.1.1.rs (fun b hb => ⟨q2 b hb, (hr20 b).resolve_right (by omega)⟩), fun c c1 c2 => ?_⟩, fun c hc hne => ?_, hW.1.1⟩
    · rw [rSee_fq f4.1 (by decide), (wOw_fq f4.1 (by decide) (by decide) (by decide)).2]
      exact y3.1.2 c c1 c2
    · rw [(wOw_fq f4.1 (by decide) (by decide) (by decide)).1] at hne
      exact y3.2.1 c hc hne
  have fz : Fn [33] [30, 31, 32, 35, 36, 43] R (setA R2 35 g5) := (z3.wk (by decide) (by decide)).tr (f4.wk (by decide) (by decide))
  have kp : Kep D D2 R (setA R2 35 g5) := Kep.of t2 fz.1 (by decide) (by decide)
  refine ⟨_, D2, setA R2 35 g5, ?_, ?_, ⟨⟨cx, y4⟩, hW, ?_, (fun z => by cases z), St.of_eq hN1 hW (fun _ _ _ => rfl), kp.hr a6, a7, kp.fx a8 ?_, g2.trans hg, fun _ => ⟨n2, fun _ _ _ => rfl, fun _ => rfl, fun b => r20_ne⟩, fun b hb => absurd (n2.1 b) hb, by rw [show cA D2 42 = cA D 42 from t2.2 42 (by decide)]; exact h42⟩, fz.1.1 0 (by decide)⟩
  · rw [d_X10_discard, bnd2_o e2, d_X9_wakeForNone]
    rfl
  · rw [bnd_o z1]
    exact q1
  · refine ⟨b1, b2, b3, b4, fun b hb => ?_, fun b hb => ?_, b7.rs, fun j hj b hb => ?_, fun b hb => ?_⟩
    · have := b5 b hb
      show r20 m.2.2.2.2 b < 3
      unfold r20
      split <;> omega
    · show r20 m.2.2.2.2 b = 0
      unfold r20
      rw [b6 b hb]
      rfl
    · refine (b8.1 j hj b hb).imp id (fun z => ?_)
      show r20 m.2.2.2.2 b = 1
      unfold r20
      rw [z]
      rfl
    · have q := b8.2 b hb
      show r20 m.2.2.2.2 b ≠ 1
      unfold r20
      split
      · decide
      · exact q
  · rw [fz.1.2.1 48 (by decide)]
    exact a8.2.2.2.2.2.2.2
theorem r_clrE {c : Nat} (hN1 : 61 ≤ N) (hN : N ≤ 1024) (hgr : 1 ≤ gr) (hgr2 : gr ≤ 16) (hu : u + 4200 < 2 ^ 31) (h : IM N B gr u g A D R m V tk hd hi tp tl) (w : WK N B gr r (m, V, tk) l A' D' R' m' W tk' (fun _ => 0)) (hg : gA A' = gA A) (kp : Kep D D' R R') (h42 : Byt (cA D' 42)) (h48 : Byt (rA R' 48)) (hW : WF N W) (hw : HdW W hd hi) (h0 : rS R' 0 = 0) (hL : LH V hd hi) (hLW : LH W hd hi) : Ret N B gr (u + 100) ex (d_X11_clear_263 N B gr A' D' (nI c)) (if (rS R' 34) = 0 then bnd2 (e_changed R') (fun v86 R86 => if v86 ≤ ((40 : Int32)) then bnd2 (e_committed R86 (nI c)) (fun v87 R87 => some (v87, R87)) else bnd (e_noWorks R86) (fun R88 => e_clear_141 fuL R88 ((0 : Int32)))) else bnd2 (e_committed R' (nI c)) (fun v85 R85 => some (v85, R85))) := by
  have fx := kp.fx h.2.2.2.2.2.2.2.1 h48
  have hr := kp.hr h.2.2.2.2.2.1
  have hgg : gA A' = g := hg.trans h.2.2.2.2.2.2.2.2.1
  have h34 := fx.2.2.2.2.2.2.1
  have bs := w.now hN1 h.bs
  rw [d_X11_clear_263]
  cases g with
  | true =>
    rw [if_neg (by unfold gpI; rw [show A'.2.2.2.2.2.2.2 = true from hgg]; decide), if_neg (by rw [h34]; decide)]
    exact w_ret (ex := ex) (g := true) (v := nI c) hN1 hN hgr hgr2 hu w h.2.2.1 h.2.2.2.2.1 (fun z => by cases z) hW h42 hgg hr hw fx rfl rfl
  | false =>
    obtain ⟨s, A1, D1, e1, x1, g1, t1, s1, d1, s2, o1, u1⟩ := c_trim (ch := true) hN1 hN w.1.1 (w.1.nv hN)
    have o1 := o1 rfl
    have e1 : d_X10_trim N A' D' 1 = some (nI s, A1, D1) := e1
    obtain ⟨x, e2⟩ := z_changed hN1 hN w.1.2
    rw [o1] at s1
    rw [← s1] at e2
    have ow1 : OwS A1 (OkP m' W) := ow_trim e1 w.2.2.2.1.1
    have f43 : Fn [] [43] R' (setA R' 43 x) := Fn.a (by decide)
    have kp1 : Kep D' D1 R' (setA R' 43 x) := Kep.of t1 f43.1 (by decide) (by decide)
    have jx1 : JX N B gr A1 D1 (setA R' 43 x) m' W tk' := ⟨x1, w.1.2.a43⟩
    have h421 : Byt (cA D1 42) := by rw [show cA D1 42 = cA D' 42 from t1.2 42 (by decide)]; exact h42
    rw [if_pos (by unfold gpI; rw [show A'.2.2.2.2.2.2.2 = false from hgg]; rfl), if_pos (by rw [h34]; rfl), bnd3_o e1, bnd2_o e2]
    by_cases c40 : s ≤ 40
    · have z40 : nI s ≤ (40 : Int32) := nI_le (b := 40) c40 (by decide)
      rw [if_pos z40, if_pos z40]
      have w1 : WK N B gr r (m', W, tk') [] A1 D1 (setA R' 43 x) m' W tk' (fun _ => 0) := ⟨jx1, w.2.1, w.2.2.1, ⟨ow1, w.2.2.2.1.2.fr f43 (by decide)⟩, St.rf, fun _ _ _ hc => Or.inl hc⟩
      refine w_ret (ex := ex) (g := false) (v := nI c) hN1 hN hgr hgr2 hu w1 bs.1 bs.2 (fun _ => ?_) hW h421 (g1.trans hgg) (kp1.hr hr) hw (kp1.fx fx fx.2.2.2.2.2.2.2) rfl rfl
      obtain ⟨l', l1, l2⟩ := ch_list (Q := chQ N m' W tk') N
      exact ⟨l', by omega, fun b b1 b2 hc => l2 b b2 (chQ_iff.mpr ⟨b1, b2, hc⟩)⟩
    · have z40 : ¬ nI s ≤ (40 : Int32) := nI_ge (a := 40) (by omega) (by omega)
      rw [if_neg z40, if_neg z40]
      have hb : ∀ b, 43 ≤ b → b < N → befM m' b = V b := fun b b1 b2 => by
        rw [(w.2.2.2.2.1.2.2.2.bef hN1 h.2.2.1.1).2 b b1 b2]
        exact Classical.byContradiction (fun z => h.ng rfl b b1 b2 (Or.inr (fun e => z e.symm)))
      have hdw : HdW (befM m') hd hi := h.2.2.2.2.2.2.1.keep (fun j hj => by
        have := ir_home hj
        unfold f1
        rw [hb _ (by omega) (by omega)])
      obtain ⟨A2, D2, R2, d1, d2, d3, d4⟩ := w_disc (u := u) hN1 hN jx1 bs.1 (kp1.hr hr) hdw (kp1.fx fx fx.2.2.2.2.2.2.2) (g1.trans hgg) h421
      have hLm : LH (befM m') hd hi := hL.keep (fun j hj => by
        have := ir_home hj
        unfold f1
        rw [hb _ (by omega) (by omega)]
        exact ⟨rfl, rfl⟩)
      rw [bnd2_o d1, d2]
      exact Ret.ok d3 (by omega) (d4.trans h0) rfl rfl
end PZK
