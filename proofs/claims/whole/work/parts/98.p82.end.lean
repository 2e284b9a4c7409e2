/-! ===== pure: a call ends ===== -/
section PXI
variable {N B gr r u : Nat} {V : Nat → Rw} {m : M5} {tk : Nat → Bool} {ow : Nat → Int} {s0 : S3} {l : List Nat} {A A' : MS} {D D' : CfT} {R R' : RfT} {g : Bool} {hd hi : Nat → Nat} {tp : Nat → Int32} {tl : Nat} {P : Nat → Prop}
theorem ow_un {x : Int32} (e : unO N A x = some A') (h : OwS A P) : OwS A' P := by
  unfold unO at e
  split at e
  · cases e
  · cases e
    intro b hb
    refine h b (fun z => hb ?_)
    show (if b = x.toNatClampNeg then none else A.2.2.2.2.2.1 b) = none
    split
    · rfl
    · exact z
theorem ow_trim_l : ∀ (n : Nat) (A : MS) (D : CfT) (x1 x2 x3 v : Int32), d_X10_trim_4 N n A D x1 x2 x3 = some (v, A', D') → OwS A P → OwS A' P := by
  intro n
  induction n with
  | zero => intro A D x1 x2 x3 v e _; cases e
  | succ n ih =>
    intro A D x1 x2 x3 v e h
    have t69 : ∀ (x4 x5 : Int32), d_X10_trim_69 N (d_X10_trim_4 N n) A D x1 x2 x3 x4 x5 = some (v, A', D') → OwS A' P := fun x4 x5 e => by
      unfold d_X10_trim_69 at e
      split at e
      · obtain ⟨A9, e9, e⟩ := bnd_s e
        obtain ⟨A10, e10, e⟩ := bnd_s e
        exact ih A10 D x1 x2 _ v e (ow_tk e10 (ow_un e9 h))
      · obtain ⟨D2, -, -, e⟩ := stA_s e
        exact ih A D2 x1 _ _ v e h
    rw [d_X10_trim_4] at e
    split at e
    · obtain ⟨D2, -, e⟩ := ptS_s e
      cases e
      exact h
    · obtain ⟨v2, -, -, e⟩ := ld_s e
      obtain ⟨v3, -, e⟩ := bnd_s e
      split at e
      · exact t69 _ _ e
      · split at e
        · exact t69 _ _ e
        · obtain ⟨v4, -, -, e⟩ := ld_s e
          split at e
          · obtain ⟨y5, -, e⟩ := bnd_s e
            obtain ⟨y7, -, -, e⟩ := seeB_s e
            obtain ⟨v8, -, e⟩ := bnd_s e
            split at e
            · exact t69 _ _ e
            · exact t69 _ _ e
          · exact t69 _ _ e
theorem ow_trim {x v : Int32} (e : d_X10_trim N A D x = some (v, A', D')) (h : OwS A P) : OwS A' P := ow_trim_l _ _ _ _ _ _ _ e h
theorem ow_finG (hg : gA A = true) (e : d_X10_finish N B gr A D = some (.inl ((), A', D'))) (h : OwS A P) : OwS A' P := by
  unfold d_X10_finish at e
  have hgp : ¬ gpI A = 0 := by
    unfold gpI
    rw [show A.2.2.2.2.2.2.2 = true from hg]
    decide
  rw [if_neg hgp] at e
  obtain ⟨v7, A7, D7, e7, e⟩ := bnd3_s e
  cases e
  exact ow_trim e7 h
theorem cnt_le {Q : QC} {l : List Nat} (h : ∀ b, b < N → Q b ≠ none → b ∈ l) : rsC (isS Q) 1 N ≤ l.length := by
  have key : ∀ (n : Nat) (l : List Nat), (∀ b, b < n → Q b ≠ none → b ∈ l) → rsC (isS Q) 1 n ≤ l.length := by
    intro n
    induction n with
    | zero => intro l _; exact Nat.zero_le _
    | succ n ih =>
      intro l hl
      show rsC (isS Q) 1 n + (if isS Q n = 1 then 1 else 0) ≤ l.length
      by_cases c : Q n ≠ none
      · have hm := hl n (Nat.lt_succ_self n) c
        have h1 := ih (l.erase n) (fun b hb hq => (List.mem_erase_of_ne (by omega)).mpr (hl b (by omega) hq))
        have h2 := List.length_erase_of_mem hm
        have h3 := List.length_pos_of_mem hm
        rw [if_pos (isS_1.mpr c)]
        omega
      · rw [if_neg (fun z => c (isS_1.mp z))]
        exact ih l (fun b hb hq => hl b (by omega) hq)
  exact key N l h
theorem chQ_cnt (h : ∀ b, 43 ≤ b → b < N → Chg m V tk b → b ∈ l) : rsC (isS (chQ N m V tk)) 1 N ≤ l.length := cnt_le (fun b hb hq => by
  obtain ⟨q1, q2, q3⟩ := chQ_iff.mp hq
  exact h b q1 q2 q3)
theorem St.of_eq (hN1 : 61 ≤ N) (hV : WF N V) (h : ∀ b, 43 ≤ b → b < N → befM m b = V b) : St N B m (befM m) (fun _ => false) m V (fun _ => false) := ⟨fun b hb => Or.inl ((isT_dep hV.1 hN1 h).mp hb), fun b hb => Or.inr ⟨(isT_dep hV.1 hN1 h).mpr hb, id⟩, fun _ h => h, Mr.rf⟩
/-- what D and R keep through a call -/
def Kep (D D' : CfT) (R R' : RfT) : Prop := (∀ j, j ∈ [1, 2] → D'.1 j = D.1 j) ∧ (∀ k, k ∈ [1, 33, 34, 35, 36, 53] → D'.2.1 k = D.2.1 k) ∧ (∀ j, j ∈ [5, 21, 34] → rS R' j = rS R j) ∧ (∀ k, k ∈ [4, 52, 53, 54, 55] → rA R' k = rA R k)
theorem Kep.rf : Kep D D R R := ⟨fun _ _ => rfl, fun _ _ => rfl, fun _ _ => rfl, fun _ _ => rfl⟩
theorem Kep.tr {D2 : CfT} {R2 : RfT} (a : Kep D D' R R') (b : Kep D' D2 R' R2) : Kep D D2 R R2 := ⟨fun j h => (b.1 j h).trans (a.1 j h), fun k h => (b.2.1 k h).trans (a.2.1 k h), fun j h => (b.2.2.1 j h).trans (a.2.2.1 j h), fun k h => (b.2.2.2 k h).trans (a.2.2.2 k h)⟩
theorem Kep.of {S T : List Nat} (d : Dt D D') (f : Fq S T R R') (hS : ∀ j, j ∈ [5, 21, 34] → j ∉ S) (hT : ∀ k, k ∈ [4, 52, 53, 54, 55] → k ∉ T) : Kep D D' R R' := ⟨fun j hj => d.1 j (by revert hj; revert j; decide), fun k hk => d.2 k (by revert hk; revert k; decide), fun j hj => f.1 j (hS j hj), fun k hk => f.2.1 k (hT k hk)⟩
theorem Kep.hr (h : Kep D D' R R') (hr : HRel D R hd hi) : HRel D' R' hd hi := by
  obtain ⟨h1, h2, h3⟩ := hr
  have d33 : cA D' 33 = cA D 33 := h.2.1 33 (by decide)
  have d34 : cA D' 34 = cA D 34 := h.2.1 34 (by decide)
  have d35 : cA D' 35 = cA D 35 := h.2.1 35 (by decide)
  have d36 : cA D' 36 = cA D 36 := h.2.1 36 (by decide)
  refine ⟨fun k hk => ?_, fun k hk => ?_, fun k hk => ?_⟩
  · rw [d33, h.2.2.2 52 (by decide)]
    exact h1 k hk
  · rw [d34, h.2.2.2 53 (by decide)]
    exact h2 k hk
  · rw [d35, d36, h.2.2.2 54 (by decide), h.2.2.2 55 (by decide)]
    exact h3 k hk
theorem Kep.fx (h : Kep D D' R R') (hf : Fx N D R g tp tl) (h48 : Byt (rA R' 48)) : Fx N D' R' g tp tl := by
  obtain ⟨⟨a1, a2, a3⟩, a4, a5, a6, a7, a8, a9, -⟩ := hf
  have d1 : cA D' 1 = cA D 1 := h.2.1 1 (by decide)
  have s1 : cS D' 1 = cS D 1 := h.1 1 (by decide)
  have s2 : cS D' 2 = cS D 2 := h.1 2 (by decide)
  have d53 : cA D' 53 = cA D 53 := h.2.1 53 (by decide)
  refine ⟨⟨a1, fun j => by rw [d1]; exact a2 j, fun j hj => by rw [h.2.2.2 4 (by decide)]; exact a3 j hj⟩, by rw [s1]; exact a4, by rw [h.2.2.1 5 (by decide)]; exact a5, a6, ⟨by rw [s2]; exact a7.1, by rw [d53]; exact a7.2⟩, by rw [h.2.2.1 21 (by decide)]; exact a8, by rw [h.2.2.1 34 (by decide)]; exact a9, h48⟩
theorem Dd.thr {R0 : RfT} {o : Hw} {v : Int32} (h : Dd N R0 o R) : Dd N R0 o (setS R 0 v) := by
  obtain ⟨⟨a1, a2, a3, a4, a5, a6, a7, a8, a9, a10, a11⟩, h2, B, h3, h4⟩ := h
  refine ⟨⟨a1, a2, a3, a4, a5, a6, a7, a8, a9, fun j hj => ?_, a11⟩, h2, B, h3, h4⟩
  rw [← a10 j hj]
  exact pk_un (by revert hj; revert j; decide)
/-- both finish; the reference answers v -/
theorem w_end {v : Int32} (hN1 : 61 ≤ N) (hN : N ≤ 1024) (hgr : 1 ≤ gr) (hgr2 : gr ≤ 16) (hu : u + 4200 < 2 ^ 31) (h : WK N B gr r s0 l A D R m V tk ow) (hmb : MB N B gr u s0.1) (hst : St N B s0.1 (befM s0.1) (fun _ => false) s0.1 s0.2.1 s0.2.2) (hcg : g = false → ∃ l' : List Nat, l'.length ≤ 40 ∧ ∀ b, 43 ≤ b → b < N → Chg m V tk b → b ∈ l') (hV : WF N V) (h42 : Byt (cA D 42)) (hg : gA A = g) (hr : HRel D R hd hi) (hw : HdW V hd hi) (hf : Fx N D R g tp tl) : (∃ A' D' R' m' tk', d_X10_finish N B gr A D = some (.inl ((), A', D')) ∧ e_committed R v = some (v, R') ∧ rS R' 0 = 0 ∧ IM N B gr (u + 100) g A' D' R' m' V tk' hd hi tp tl) ∨ (∃ A' D' R', d_X10_finish N B gr A D = some (.inr (0, A', D')) ∧ e_committed R v = some (0, R') ∧ rS R' 0 = 2 ∧ Dead N (u + 100) R A' D' R' ∧ Dt D D') := by
  obtain ⟨hx, hwf, hbud, hot, hst2, hchg⟩ := id h
  obtain ⟨mb1, mb2, mb3, mb4, mb5, mb6, mb7, mb8⟩ := hmb
  have hmr := hst2.2.2.2
  obtain ⟨hmok, hbef⟩ := hmr.bef hN1 mb1
  have hgm := hmr.gm hN1 mb1 mb7
  have hgj := hmr.1.gj mb8
  have hphi := hmr.phi hN1 mb1
  have hlen := hmr.1.len
  have hbw : WF N (befM s0.1) := mb7.bef
  have all := hst.tr hst2
  have t1 : ∀ b, isT V b → tk b = true ∨ isT (befM m) b := fun b hb => (all.2.1 b hb).imp id (fun z => (isT_dep hbw.1 hN1 hbef).mpr z.1)
  have t2 : ∀ b, isT (befM m) b → isT V b ∨ m.2.2.2.2 b = 2 := fun b hb => all.1 b ((isT_dep hbw.1 hN1 hbef).mp hb)
  have hon : ¬ rS R 11 = 0 := hx.2.1.1.1.on
  have h48 : Byt (rA R 48) := hf.2.2.2.2.2.2.2
  cases g with
  | false =>
    obtain ⟨l', hl', hl2⟩ := hcg rfl
    have hch : rsC (isS (chQ N m V tk)) 1 N ≤ 40 := Nat.le_trans (chQ_cnt hl2) hl'
    have hsp : hSp m.1 + 1800 < 2 ^ 31 := by
      unfold Phi at hphi mb2
      omega
    have h34 : rS R 34 = 0 := hf.2.2.2.2.2.2.1
    obtain ⟨R1, e1, o1⟩ := y_commit hN1 hN hx.2 hmok (by omega) hgr2 hch h34 hsp
    rcases c_finish hN1 hN hx.1 (hx.nv hN) hmok (by omega) hgr2 hch hg hsp with ⟨n1, A', D', c1, c2, c3, c4, c5⟩ | ⟨n1, A', D', c1, c2, c3⟩
    · rcases o1 with ⟨-, y2, f2, -⟩ | ⟨q, -⟩
      · refine Or.inl ⟨A', D', setS R1 0 0, cmM N B gr m V tk, fun _ => false, c1, ?_, pk_us (f := R1.1) (k := 0), ?_⟩
        · rw [e_committed, bnd_o e1, e_answer, if_neg y2.1.1.1.on, ptR, if_neg (show ¬ rS (setS R1 0 0) 11 = 0 from y2.1.1.1.on)]
          rfl
        · obtain ⟨p1, p2, p3⟩ := MB.cm (u := u) (tk := tk) hN1 hgr hgr2 hmok (Nat.le_trans hphi mb2) (by omega) hbud.2.2.2.1 hbud.2.2.2.2.2 hgm hgj hV t1 t2 (fun b hb => by
            by_cases hbN : b < N
            · exact hx.1.2.2.2.2.2.2 b hbN hb
            · exact hbud.2.2.2.2.2 b (by omega)) hch n1
          have f3 : Fn [0] [] R1 (setS R1 0 0) := Fn.s (by decide)
          have kp : Kep D D' R (setS R1 0 0) := Kep.of c5 ((f2.wk (S' := 0 :: [33, 29, 47, 22, 25, 9, 10, 12, 13, 14, 18, 20]) (by decide) (fun _ h => h)).tr (f3.1.wk (by decide) (by decide))) (by decide) (by decide)
          exact ⟨⟨c2, y2.fr f3 (by decide) (by decide)⟩, hV, p1, fun z => (by cases z), St.of_eq hN1 hV p2, kp.hr hr, hw, kp.fx hf (by rw [f3.1.2.1 48 (by decide), f2.2.1 48 (by decide)]; exact h48), c4, fun _ => ⟨c3, fun b b1 b2 => (p2 b b1 b2).symm, fun _ => rfl, p3⟩, fun b hb => absurd (c3.1 b) hb, by rw [show cA D' 42 = cA D 42 from c5.2 42 (by decide)]; exact h42⟩
      · exact absurd q n1
    · rcases o1 with ⟨q, -⟩ | ⟨q1, q2⟩
      · exact absurd n1 q
      · refine Or.inr ⟨A', D', setS R1 0 2, c1, ?_, pk_us (f := R1.1) (k := 0), ⟨?_, ⟨by
          rw [c2]
          have qs := flO2_sp hN1 (hmok.cq (V := V) (tk := tk) hch)
          have qp : Phi (cmQ N m V tk) ≤ Phi m + 100 := by
            unfold Phi cmQ
            split
            · exact Nat.le_add_right _ _
            · show hSp m.1 + 100 * (m.2.2.2.1 ++ [chQ N m V tk]).length ≤ _
              rw [List.length_append]
              show hSp m.1 + 100 * (m.2.2.2.1.length + 1) ≤ _
              omega
          refine ⟨(hgm.cq hN1 hV t1).dead hN1 (hmok.cq hch) ?_, by omega⟩
          have q : lgN N m.2.1 := hx.2.1.1.2.1.lgn
          unfold cmQ
          split
          · exact q
          · exact q, c3.2⟩⟩, c3.1⟩
        · rw [e_committed, bnd_o e1, e_answer, if_pos q2.1.1, ptR, if_pos (show rS (setS R1 0 2) 11 = 0 from q2.1.1)]
          rfl
        · rw [c2]
          exact Dd.thr q2
  | true =>
    obtain ⟨A', D', c1, c2, c3, c4, c5⟩ := c_finishG (B := B) (gr := gr) hN1 hN hx.1 (hx.nv hN) hg
    have h34 : rS R 34 = 1 := hf.2.2.2.2.2.2.1
    have e1 : e_commit R = some R := by
      rw [e_commit, if_neg hon, if_neg (by rw [h34]; decide)]
    have f3 : Fn [0] [] R (setS R 0 0) := Fn.s (by decide)
    refine Or.inl ⟨A', D', setS R 0 0, m, tk, c1, ?_, pk_us (f := R.1) (k := 0), ?_⟩
    · rw [e_committed, bnd_o e1, e_answer, if_neg hon, ptR, if_neg (show ¬ rS (setS R 0 0) 11 = 0 from hon)]
      rfl
    · have kp : Kep D D' R (setS R 0 0) := Kep.of c5 f3.1 (by decide) (by decide)
      refine ⟨⟨c2, hx.2.fr f3 (by decide) (by decide)⟩, hV, ⟨hmok, by omega, by omega, mb4, hbud.2.2.2.1, hbud.2.2.2.2.2, hgm, hgj⟩, fun _ => ⟨ow_finG hg c1 hot.1, hot.2.fr f3 (by decide)⟩, ⟨t2, fun b hb => (t1 b hb).imp id (fun z => ⟨z, fun q => by cases q⟩), fun _ h => h, Mr.rf⟩, kp.hr hr, hw, kp.fx hf (by rw [f3.1.2.1 48 (by decide)]; exact h48), c4, (fun z => by cases z), c3, by rw [show cA D' 42 = cA D 42 from c5.2 42 (by decide)]; exact h42⟩
end PXI
