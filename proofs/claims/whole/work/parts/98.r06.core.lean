/-! ===== pure: whoever is lost goes, where nothing else matters ===== -/
section PZX
variable {N B gr r u : Nat} {V W : Nat → Rw} {m m' : M5} {tk : Nat → Bool} {A A' : MS} {D D' : CfT} {R R' : RfT} {g : Bool} {hd hi : Nat → Nat} {tp : Nat → Int32} {tl : Nat}
/-- mounted, without a group; whoever holds is left out -/
def IC (N B gr u : Nat) (A : MS) (D : CfT) (R : RfT) (m : M5) (V : Nat → Rw) : Prop := JX N B gr A D R m V (fun _ => false) ∧ WF N V ∧ MB N B gr u m ∧ (∀ b, b < 1024 → rA R 36 b = -1) ∧ NG N A m V (fun _ => false) ∧ gA A = false ∧ Byt (cA D 42) ∧ rS R 34 = 0
theorem IC.ow (h : IC N B gr u A D R m V) : OwT A R m V := ⟨fun b hb => absurd (h.2.2.2.2.1.1.1 b) hb, fun b h1 hb => absurd (show wOw R b = none from if_pos (h.2.2.2.1 b h1)) hb⟩
theorem IC.st (hN1 : 61 ≤ N) (h : IC N B gr u A D R m V) : St N B m (befM m) (fun _ => false) m V (fun _ => false) := St.of_eq hN1 h.2.1 (fun b b1 b2 => (h.2.2.2.2.1.2.1 b b1 b2).symm)
theorem IC.bud (hu : u + 4200 < 2 ^ 31) (h : IC N B gr u A D R m V) : Bud N B (rmM N m V) m V := by
  obtain ⟨h1, h2, ⟨b1, b2, b3, b4, b5, b6, b7⟩, h4⟩ := h
  refine ⟨b1, ?_, by omega, b5, ?_, b6⟩
  · unfold Phi at b2
    omega
  · have := h1.1.rs2
    unfold rmM
    omega
theorem IC.wk (hN1 : 61 ≤ N) (hu : u + 4200 < 2 ^ 31) (h : IC N B gr u A D R m V) : WK N B gr (rmM N m V) (m, V, fun _ => false) [] A D R m V (fun _ => false) (fun _ => 0) := ⟨h.1, h.2.1.s, h.bud hu, h.ow, St.rf, fun _ _ _ hc => Or.inl hc⟩
theorem IM.ic (h : IM N B gr u false A D R m V tk hd hi tp tl) (h36 : ∀ b, b < 1024 → rA R 36 b = -1) : IC N B gr u A D R m V := by
  obtain ⟨a1, a2, a3, a4, a5, a6, a7, a8, a9, a10, a11, a12⟩ := h
  have ng := a10 rfl
  have e : tk = fun _ => false := funext ng.2.2.1
  subst e
  exact ⟨a1, a2, a3, h36, ng, a9, a12, a8.2.2.2.2.2.2.1⟩
theorem IC.fr {S T : List Nat} (h : IC N B gr u A D R m V) (f : Fn S T R R') (hS : ∀ j, j ∈ [1, 2, 3, 9, 10, 11, 12, 13, 14, 18, 20, 22, 25, 29, 33] → j ∉ S) (hT : ∀ k, k ∈ [6, 7, 8, 15, 17, 23, 24, 26, 27, 28, 30, 31, 32, 35, 36, 37, 38, 39, 40, 44, 46, 48] → k ∉ T) (h34 : 34 ∉ S) : IC N B gr u A D R' m V := by
  obtain ⟨a1, a2, a3, a4, a5, a6, a7, a8⟩ := h
  exact ⟨⟨a1.1, a1.2.fr f hS hT⟩, a2, a3, by rw [f.1.2.1 36 (hT 36 (by decide))]; exact a4, a5, a6, a7, by rw [f.1.1 34 h34]; exact a8⟩
/-- both finish -/
theorem w_endC {s0 : S3} {l : List Nat} {ow : Nat → Int} (hN1 : 61 ≤ N) (hN : N ≤ 1024) (hgr : 1 ≤ gr) (hgr2 : gr ≤ 16) (hu : u + 4200 < 2 ^ 31) (h : WK N B gr r s0 l A D R m V tk ow) (hmb : MB N B gr u s0.1) (hst : St N B s0.1 (befM s0.1) (fun _ => false) s0.1 s0.2.1 s0.2.2) (hcg : ∃ l' : List Nat, l'.length ≤ 40 ∧ ∀ b, 43 ≤ b → b < N → Chg m V tk b → b ∈ l') (hV : WF N V) (h42 : Byt (cA D 42)) (hg : gA A = false) (h34 : rS R 34 = 0) : (∃ A' D' R' m', d_X10_finish N B gr A D = some (.inl ((), A', D')) ∧ e_commit R = some R' ∧ IC N B gr (u + 100) A' D' R' m' V ∧ Dt D D' ∧ Fq [33, 29, 47, 22, 25, 9, 10, 12, 13, 14, 18, 20] [26, 27, 28, 43, 36, 35, 37, 46, 23, 24, 38, 44, 45, 6, 7, 8, 15, 17, 39, 40] R R') ∨ (∃ A' D' R', d_X10_finish N B gr A D = some (.inr (0, A', D')) ∧ e_commit R = some R' ∧ Dead N (u + 100) R A' D' R' ∧ Dt D D') := by
  obtain ⟨hx, hwf, hbud, hot, hst2, hchg⟩ := id h
  obtain ⟨mb1, mb2, mb3, mb4, mb5, mb6, mb7, mb8⟩ := hmb
  have hmr := hst2.2.2.2
  obtain ⟨hmok, hbef⟩ := hmr.bef hN1 mb1
  have hgm := hmr.gm hN1 mb1 mb7
  have hgj := hmr.1.gj mb8
  have hphi := hmr.phi hN1 mb1
  have hlen := hmr.1.len
  have hbw : WF N (befM s0.1) := mb7.bef
  have all := hst.tr hst2
  have t1 : ∀ b, isT V b → tk b = true ∨ isT (befM m) b := fun b hb => (all.2.1 b hb).imp id (fun z => (isT_dep hbw.1 hN1 hbef).mpr z.1)
  have t2 : ∀ b, isT (befM m) b → isT V b ∨ m.2.2.2.2 b = 2 := fun b hb => all.1 b ((isT_dep hbw.1 hN1 hbef).mp hb)
  obtain ⟨l', hl', hl2⟩ := hcg
  have hch : rsC (isS (chQ N m V tk)) 1 N ≤ 40 := Nat.le_trans (chQ_cnt hl2) hl'
  have hsp : hSp m.1 + 1800 < 2 ^ 31 := by
    unfold Phi at hphi mb2
    omega
  obtain ⟨R1, e1, o1⟩ := y_commit hN1 hN hx.2 hmok (by omega) hgr2 hch h34 hsp
  rcases c_finish hN1 hN hx.1 (hx.nv hN) hmok (by omega) hgr2 hch hg hsp with ⟨n1, A', D', c1, c2, c3, c4, c5⟩ | ⟨n1, A', D', c1, c2, c3⟩
  · rcases o1 with ⟨-, y2, f2, n36⟩ | ⟨q, -⟩
    · obtain ⟨p1, p2, p3⟩ := MB.cm (u := u) (tk := tk) hN1 hgr hgr2 hmok (Nat.le_trans hphi mb2) (by omega) hbud.2.2.2.1 hbud.2.2.2.2.2 hgm hgj hV t1 t2 (fun b hb => by
        by_cases hbN : b < N
        · exact hx.1.2.2.2.2.2.2 b hbN hb
        · exact hbud.2.2.2.2.2 b (by omega)) hch n1
      exact Or.inl ⟨A', D', R1, cmM N B gr m V tk, c1, e1, ⟨⟨c2, y2⟩, hV, p1, n36, ⟨c3, fun b b1 b2 => (p2 b b1 b2).symm, fun _ => rfl, p3⟩, c4, by rw [show cA D' 42 = cA D 42 from c5.2 42 (by decide)]; exact h42, by rw [f2.1 34 (by decide)]; exact h34⟩, c5, f2⟩
    · exact absurd q n1
  · rcases o1 with ⟨q, -⟩ | ⟨q1, q2⟩
    · exact absurd n1 q
    · refine Or.inr ⟨A', D', R1, c1, e1, ⟨?_, ⟨by
        rw [c2]
        have qs := flO2_sp hN1 (hmok.cq (V := V) (tk := tk) hch)
        have qp : Phi (cmQ N m V tk) ≤ Phi m + 100 := by
          unfold Phi cmQ
          split
          · exact Nat.le_add_right _ _
          · show hSp m.1 + 100 * (m.2.2.2.1 ++ [chQ N m V tk]).length ≤ _
            rw [List.length_append]
            show hSp m.1 + 100 * (m.2.2.2.1.length + 1) ≤ _
            omega
        refine ⟨(hgm.cq hN1 hV t1).dead hN1 (hmok.cq hch) ?_, by omega⟩
        have q : lgN N m.2.1 := hx.2.1.1.2.1.lgn
        unfold cmQ
        split
        · exact q
        · exact q, c3.2⟩⟩, c3.1⟩
      rw [c2]
      exact q2
/-- all that are lost, and that T does not hold, go -/
theorem lostW {x1 : Int32} {T : Nat → Nat} (hN1 : 61 ≤ N) (hN : N ≤ 1024) (hgr : 1 ≤ gr) (hgr2 : gr ≤ 16) (hu : u + 4200 < 2 ^ 31) (hk : WK N B gr r (m, V, fun _ => false) [] A D R m V (fun _ => false) (fun _ => 0)) (hV : WF N V) (mb : MB N B gr u m) (st : St N B m (befM m) (fun _ => false) m V (fun _ => false)) (hb : ∀ b, 43 ≤ b → b < N → V b = befM m b) (h42 : Byt (cA D 42)) (hg : gA A = false) (h34 : rS R 34 = 0) (hC : x1 = 0 → ∀ i, ir i → T i < 2 ^ 31 ∧ d_X5_times N (fun _ _ => 0) D (nI i) = some (nI (T i))) (hC2 : x1 ≠ 0 → ∀ i, ir i → T i = 0) (hR : ∀ i, ir i → e_isHeld R (nI i) = some (bI (decide (T i ≠ 0)))) : (∃ A' D' R' m' W, d_X11_commitLost N B gr A D x1 = some (.inl ((), A', D')) ∧ e_allLostGo R = some R' ∧ IC N B gr (u + 100) A' D' R' m' W ∧ Dt D D' ∧ Fq [33, 29, 47, 22, 25, 9, 10, 12, 13, 14, 18, 20] [30, 31, 32, 26, 27, 28, 43, 36, 35, 37, 46, 23, 24, 38, 44, 45, 6, 7, 8, 15, 17, 39, 40] R R' ∧ (∀ j, ir j → f1 W j 0 ≠ 0 → f1 W j 1 = 0 → T j ≠ 0) ∧ ∀ j, ir j → f1 W j 0 = f1 V j 0 ∨ T j = 0) ∨ (∃ A' D' R', d_X11_commitLost N B gr A D x1 = some (.inr (0, A', D')) ∧ e_allLostGo R = some R' ∧ Dead N (u + 100) R A' D' R' ∧ Dt D D') := by
  obtain ⟨A', D', R', m', W, tk', l', a1, a2, a3, a4, a5, a6, a7, a8, a9, -, a11⟩ := lost_l (x1 := x1) (T := T) (D0 := D) (R0 := R) hN1 hN hC hC2 hR fuL fuL 1 A D R m V (fun _ => false) [] (by decide) (by decide) (by rw [fuL_4]; omega) (by rw [fuL_4]; omega) hk hV (fun b hb => by cases hb) Dt.rf Fn.rf
  have ng : ∀ b, 43 ≤ b → b < N → ¬ Chg m V (fun _ => false) b := fun b b1 b2 hc => by
    rcases hc with q | q
    · cases q
    · exact q (hb b b1 b2)
  have e1 : d_X11_commitLost N B gr A D x1 = bndF (d_X10_finish N B gr A' D') (fun v19 A19 D19 => some (.inl ((), A19, D19))) := by
    rw [d_X11_commitLost, show (1 : Int32) = nI 1 from rfl, a1]
  have e2 : e_allLostGo R = bnd (e_commit R') (fun R185 => some R185) := by
    rw [e_allLostGo, show (1 : Int32) = nI 1 from rfl, a2]
  have fA := a8.1.wk (S' := [33, 29, 47, 22, 25, 9, 10, 12, 13, 14, 18, 20]) (T' := [30, 31, 32, 26, 27, 28, 43, 36, 35, 37, 46, 23, 24, 38, 44, 45, 6, 7, 8, 15, 17, 39, 40]) (by decide) (by decide)
  rcases w_endC hN1 hN hgr hgr2 hu a3 mb st ⟨List.range' 43 18, by decide, fun b b1 b2 hc => by
    have q := a5 b ((a3.2.2.2.2.2 b b1 b2 hc).resolve_left (ng b b1 b2))
    exact range18 q.1 q.2⟩ a4 (by rw [show cA D' 42 = cA D 42 from a7.2 42 (by decide)]; exact h42) (a6.trans hg) (by rw [a8.1.1 34 (by decide)]; exact h34) with ⟨A2, D2, R2, m2, b1, b2, b3, b4, b5⟩ | ⟨A2, D2, R2, b1, b2, ⟨b3, b3'⟩, b4⟩
  · refine Or.inl ⟨A2, D2, R2, m2, W, ?_, ?_, b3, a7.tr b4, fA.tr (b5.wk (by decide) (by decide)), fun j hj h0 h1 => a11 j hj hj.1 h0 h1, a9⟩
    · rw [e1, bndF_l b1]
    · rw [e2, bnd_o b2]
  · refine Or.inr ⟨A2, D2, R2, ?_, ?_, ⟨b3.fq a8.1 (by decide) (by decide), b3'⟩, a7.tr b4⟩
    · rw [e1, bndF_r b1]
    · rw [e2, bnd_o b2]
theorem IC.lost {x1 : Int32} {T : Nat → Nat} (hN1 : 61 ≤ N) (hN : N ≤ 1024) (hgr : 1 ≤ gr) (hgr2 : gr ≤ 16) (hu : u + 4200 < 2 ^ 31) (h : IC N B gr u A D R m V) (hC : x1 = 0 → ∀ i, ir i → T i < 2 ^ 31 ∧ d_X5_times N (fun _ _ => 0) D (nI i) = some (nI (T i))) (hC2 : x1 ≠ 0 → ∀ i, ir i → T i = 0) (hR : ∀ i, ir i → e_isHeld R (nI i) = some (bI (decide (T i ≠ 0)))) : (∃ A' D' R' m' W, d_X11_commitLost N B gr A D x1 = some (.inl ((), A', D')) ∧ e_allLostGo R = some R' ∧ IC N B gr (u + 100) A' D' R' m' W ∧ Dt D D' ∧ Fq [33, 29, 47, 22, 25, 9, 10, 12, 13, 14, 18, 20] [30, 31, 32, 26, 27, 28, 43, 36, 35, 37, 46, 23, 24, 38, 44, 45, 6, 7, 8, 15, 17, 39, 40] R R' ∧ (∀ j, ir j → f1 W j 0 ≠ 0 → f1 W j 1 = 0 → T j ≠ 0) ∧ ∀ j, ir j → f1 W j 0 = f1 V j 0 ∨ T j = 0) ∨ (∃ A' D' R', d_X11_commitLost N B gr A D x1 = some (.inr (0, A', D')) ∧ e_allLostGo R = some R' ∧ Dead N (u + 100) R A' D' R' ∧ Dt D D') := lostW hN1 hN hgr hgr2 hu (h.wk hN1 hu) h.2.1 h.2.2.1 (h.st hN1) h.2.2.2.2.1.2.1 h.2.2.2.2.2.2.1 h.2.2.2.2.2.1 h.2.2.2.2.2.2.2 hC hC2 hR
end PZX
