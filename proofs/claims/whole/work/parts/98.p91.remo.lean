/-! ===== pure: remove ===== -/
section PXR
variable {N B gr r u : Nat} {V W : Nat → Rw} {m : M5} {tk : Nat → Bool} {A A' : MS} {D D' D2 : CfT} {R R' : RfT} {g : Bool} {hd hi hd' hi' : Nat → Nat} {tp : Nat → Int32} {tl : Nat} {ow : Nat → Int} {ex : Nat → Int32} {i d s : Nat}
theorem d_names0 {t : Nat} (hN1 : 61 ≤ N) (hN : N ≤ 1024) (h : JX N B gr A D R m V tk) (ht : ir t) (hk : f1 V t 0 ≠ 2) : d_X4_names N (vA A) D2 (nI t) = some 0 := by
  have hf := f1_lt V t 0
  rw [d_X4_names, bnd_o (j_kind (D2 := D2) hN1 hN h ht).1, if_neg (nx2 hk (by omega)), show fuL = 3999999 + 1 from fuL_4, d_X4_names_27, if_pos (show (0 : Int32) ≤ 0 by decide)]
theorem cn0 {n : Nat} : ∀ k, k ≤ n → cnM V d n = 0 → ∀ s, s < k → slM V d s = 0 := by
  induction n with
  | zero => intro k hk _ s hs; omega
  | succ n ih =>
    intro k hk h s hs
    have h' : cnM V d n + (if slM V d n = 0 then 0 else 1) = 0 := h
    by_cases c : s = n
    · rw [c]
      by_cases z : slM V d n = 0
      · exact z
      · rw [if_neg z] at h'
        omega
    · exact ih n (Nat.le_refl _) (by omega) s (by omega)
/-- an inode below the root is not the root -/
theorem WF.n1 (h : WF N V) (hd : ir d) (hk : f1 V d 0 = 2) (hs : s < szM V d / 16) : sln V d s ≠ 1 := fun z => by
  have q := nmC_pos hk hd.1 hs z 65 (by have := hd.2; omega)
  have := h.2.2.2.2.2.2.2.2.2.1
  omega
/-- a name goes, and what it named maybe too -/
theorem w_rm {t : Nat} (hN1 : 61 ≤ N) (hN : N ≤ 1024) (hu : u + 4200 < 2 ^ 31) (h : IM N B gr u g A D R m V tk hd hi tp tl) (ot : OwT A R m V) (hdd : Fnd V d) (hk : f1 V d 0 = 2) (hs : s < szM V d / 16) (hst : sln V d s = t) (ht0 : t ≠ 0) (hem : f1 V t 0 = 2 → ∀ s, s < szM V t / 16 → sln V t s = 0) : ∃ A1 D1 R1 A' D' R' m' W tk' l, d_X4_wipe N A D (nI d) (nI s) = some (A1, D1) ∧ e_clearSlot R (nI d) (nI s) = some R1 ∧ d_X7_loseName N A1 D1 (nI t) = some (A', D') ∧ e_lose R1 (nI t) = some R' ∧ l.length ≤ 8 ∧ WK N B gr (rmM N m V) (m, V, tk) l A' D' R' m' W tk' (fun j => if j = t then 0 else 0 + (if t = j then 1 else 0) - (if 0 = j then 1 else 0)) ∧ gA A' = gA A ∧ Dt D D' ∧ Fn [33] [30, 31, 32, 35, 36, 43] R R' ∧ WF N W ∧ HdW W hd hi ∧ (LH V hd hi → LH W hd hi) := by
  obtain ⟨A1, D1, R1, a1, a2, a3, a4, a5, a6⟩ := w_wipe hN1 hN (h.wk hN1 hu ot) hdd.1 hk hs
  have hdb := h.2.1.dblk hdd.1 hk hs
  have hm8 : s % 8 < 8 := Nat.mod_lt _ (by decide)
  have hfn : Fnd V t := by rw [← hst]; exact h.2.1.fnd hdd.1 hk hs (by rw [hst]; exact ht0)
  have ht1 : t ≠ 1 := by rw [← hst]; exact h.2.1.n1 hdd.1 hk hs
  obtain ⟨-, w2, w3, w4⟩ := h.2.1.s.slot (W := wipV V (pv V d (px (s / 8))) (16 * (s % 8))) hN1 hdd.1 hk hs zr_row (Or.inl ⟨wip_n2, fun o o1 o2 => by
    unfold wipV
    rw [vU_s]
    exact zr_t ⟨by omega, by omega⟩⟩)
  generalize hW1 : wipV V (pv V d (px (s / 8))) (16 * (s % 8)) = W1 at a3 w2 w3 w4
  have htd : t ≠ d := fun z => by
    have q := hem (by rw [z]; exact hk) s (by rw [z]; exact hs)
    rw [z, hst] at q
    exact ht0 q
  have hk1 : f1 W1 t 0 = f1 V t 0 := (w2 t hfn.1).1
  have hr1 : HRel D1 R1 hd hi := h.2.2.2.2.2.1.fr a5 a6.1 (by decide) (by decide) (by decide) (by decide)
  obtain ⟨A', D', R', m', W, tk', b1, b2, b3, b4, b5, b6, b7, b8, -, b10⟩ := w_lose (hd := hd) (hi' := hi) hN1 hN a3 hfn.1 ht1 (by rw [hk1]; exact hfn.2.1) hr1 (by show (0 : Int) + (if sln V d s = t then 1 else 0) - (if 0 = t then 1 else 0) = 1; rw [if_pos hst, if_neg (fun z => ht0 z.symm)]; rfl) (fun q s' hs' => by
    rw [hk1] at q
    rw [(w2 t hfn.1).2.2.1] at hs'
    rw [w3 t s' hfn.1 q hs' (fun z => htd z.1)]
    exact hem q s' hs')
  have e1 : (fun j => if j = t then 0 else (0 : Int) + (if sln V d s = j then 1 else 0) - (if 0 = j then 1 else 0)) = (fun j => if j = t then 0 else 0 + (if t = j then 1 else 0) - (if 0 = j then 1 else 0)) := by rw [hst]
  have b3' : WK N B gr (rmM N m V) (m, V, tk) ([43, 44, homeM t, homeM t] ++ ([pv V d (px (s / 8))] ++ [])) A' D' R' m' W tk' (fun j => if j = t then 0 else 0 + (if t = j then 1 else 0) - (if 0 = j then 1 else 0)) := by
    rw [← e1]; exact b3
  have kk : ∀ j, ir j → j ≠ t → f1 W j 0 = f1 V j 0 ∧ f1 W j 1 = f1 V j 1 ∧ szM W j = szM V j := fun j hj hne => ⟨(b7 j hj hne).1.trans (w2 j hj).1, (b7 j hj hne).2.1.trans (w2 j hj).2.1, (b7 j hj hne).2.2.1.trans (w2 j hj).2.2.1⟩
  have i1 : ir 1 := ⟨Nat.le_refl _, by decide⟩
  refine ⟨A1, D1, R1, A', D', R', m', W, tk', _, a1, a2, b1, b2, by show 5 ≤ 8; decide, b3', b4.trans a4, a5.tr b5, (a6.wk (by decide) (by decide)).tr b6, ?_, ?_, fun hL j hj h0 l0 => ?_⟩
  · refine b3'.2.1.wf2 (fun j hj => ?_) (fun j hj kj hne => ?_) ?_ (fun e s' he ke le hs' => ?_)
    · show (if j = t then 0 else (0 : Int) + (if t = j then 1 else 0) - (if 0 = j then 1 else 0)) = 0
      by_cases c : j = t
      · rw [if_pos c]
      · rw [if_neg c, if_neg (fun z => c z.symm), if_neg (fun z => by have := hj.1; omega)]
        rfl
    · by_cases c : j = t
      · rw [c] at kj ⊢
        rcases b10 with ⟨q1, q2, -⟩ | ⟨q1, -⟩
        · rw [q2, (w2 t hfn.1).2.1]
          rw [q1, hk1] at kj
          have := h.2.1.2.2.2.2.2.2.2.2.1 t hfn.1 kj ht1
          omega
        · rw [q1] at kj
          exact absurd kj (by decide)
      · rw [(kk j hj c).1] at kj
        rw [(kk j hj c).2.1]
        exact h.2.1.2.2.2.2.2.2.2.2.1 j hj kj hne
    · rw [(kk 1 i1 (fun z => ht1 z.symm)).2.1]
      exact h.2.1.l1
    · by_cases c : e = t
      · rw [c] at ke hs' ⊢
        rcases b10 with ⟨q1, -, q3, q4, -⟩ | ⟨q1, -⟩
        · rw [q1] at ke
          rw [q3] at hs'
          rw [q4 s' ke hs']
          rw [hk1] at ke
          rw [(w2 t hfn.1).2.2.1] at hs'
          rw [w3 t s' hfn.1 ke hs' (fun z => htd z.1)]
          exact hem ke s' hs'
        · rw [q1] at ke
          exact absurd ke (by decide)
      · rw [(kk e he c).1] at ke
        rw [(kk e he c).2.1] at le
        rw [(kk e he c).2.2] at hs'
        have hed : e ≠ d := fun z => by
          have := hdd.2.2
          rw [z] at le
          omega
        rw [b8 e s' he c (by rw [(w2 e he).1]; exact ke) (by rw [(w2 e he).2.2.1]; exact hs'), w3 e s' he ke hs' (fun z => hed z.1)]
        exact h.2.1.2.2.2.2.2.2.2.2.2.2 e s' he ke le hs'
  · obtain ⟨q1, q2, q3⟩ := h.2.2.2.2.2.2.1
    refine ⟨q1, fun j hj h0 => ?_, fun x hx h0 => ⟨(q3 x hx h0).1, ?_⟩⟩
    · by_cases c : j = t
      · rcases b10 with ⟨p1, -⟩ | ⟨-, -, p3⟩
        · rw [c, p1, hk1]
          exact hfn.2.1
        · unfold tmM at p3
          rw [c] at h0
          omega
      · rw [(kk j hj c).1]
        exact q2 j hj h0
    · have q4 := q3 x hx h0
      by_cases c : hi x = t
      · rcases b10 with ⟨p1, -⟩ | ⟨-, -, p3⟩
        · rw [c, p1, hk1, ← c]
          exact q4.2
        · unfold tmM at p3
          exact absurd c (rsC_0 (f := hi) (v := t) 32 (by omega) hx)
      · rw [(kk _ q4.1 c).1]
        exact q4.2
  · by_cases c : j = t
    · rw [c] at h0 l0 ⊢
      rcases b10 with ⟨-, p2, -, -, p5⟩ | ⟨p1, -⟩
      · rw [p2] at l0
        rw [(w2 t hfn.1).2.1] at l0 p5
        have := hfn.2.2
        exact fun z => p5 ⟨by omega, z⟩
      · exact absurd p1 h0
    · rw [(kk j hj c).1] at h0
      rw [(kk j hj c).2.1] at l0
      exact hL j hj h0 l0
/-- finish behind w-steps -/
theorem IM.fin {v : Int32} {l : List Nat} {m' : M5} {tk' : Nat → Bool} {S T : List Nat} {cl : Option (FR Int32)} {rf : Option (Int32 × RfT)} (hN1 : 61 ≤ N) (hN : N ≤ 1024) (hgr : 1 ≤ gr) (hgr2 : gr ≤ 16) (hu : u + 4200 < 2 ^ 31) (h : IM N B gr u g A D R m V tk hd hi tp tl) (w : WK N B gr r (m, V, tk) l A' D' R' m' W tk' ow) (hg : gA A' = gA A) (e : Dt D D') (f : Fq S T R R') (hS : ∀ j, j ∈ [5, 21, 34] → j ∉ S) (hT : ∀ k, k ∈ [4, 48, 52, 53, 54, 55] → k ∉ T) (hW : WF N W) (hw : HdW W hd hi) (hl : l.length ≤ 40) (e1 : cl = bndF (d_X10_finish N B gr A' D') (fun _ A2 D2 => some (.inl (v, A2, D2)))) (e2 : rf = bnd2 (e_committed R' v) (fun a b => some (a, b))) (hL : LH W hd hi := by assumption) : Ret N B gr (u + 100) ex cl rf := by
  have kp : Kep D D' R R' := Kep.of e f hS (fun k hk => hT k (by revert hk; revert k; decide))
  exact w_ret hN1 hN hgr hgr2 hu w h.2.2.1 h.2.2.2.2.1 (h.cg w hl) hW (h.y42 e) (hg.trans h.2.2.2.2.2.2.2.2.1) (kp.hr h.2.2.2.2.2.1) hw (kp.fx h.2.2.2.2.2.2.2.1 (by rw [f.2.1 48 (hT 48 (by decide))]; exact h.2.2.2.2.2.2.2.1.2.2.2.2.2.2.2)) e1 e2
theorem r_remove (hN1 : 61 ≤ N) (hN : N ≤ 1024) (hgr : 1 ≤ gr) (hgr2 : gr ≤ 16) (hu : u + 4200 < 2 ^ 31) (h : IM N B gr u g A D R m V tk hd hi tp tl) (hL : LH V hd hi := by assumption) : Ret N B gr (u + 100) ex (d_X11_remove N B gr A D) (e_remove R) := by
  obtain ⟨D1, R0, R1, c1, c2, c3, c4, h1, ot, t0, htl, -⟩ := h.tn hN
  rw [d_X11_remove, bnd2_o c1, bndF_l c2, e_remove, bnd2_o c3, bnd2_o c4, i00, d_X11_inodeBelowRoot]
  obtain ⟨D2, R2, h2, hTp, f2, ⟨p1, p2⟩ | ⟨k, st, ln, p1, p2, pC, pR, pN⟩⟩ := h1.path htl
  · rw [bnd2_o p1, bnd2_o p2, i00, if_neg (show ¬ (1 : Int32) ≤ -1 by decide), im1]
    exact Ret.ok h2 (by omega) (by rw [f2.1.1 0 (by decide)]; exact t0) rfl rfl
  · have hk := pC.2.1
    have t2 : rS R2 0 = 0 := by rw [f2.1.1 0 (by decide)]; exact t0
    rw [bnd2_o p1, bnd2_o p2, i10, pC.1]
    by_cases k0 : k = 0
    · rw [if_pos (show nI k = 0 by rw [k0]; rfl), if_neg (show ¬ (1 : Int32) ≤ nI k by rw [k0]; decide), if_neg (show ¬ nI k = -1 from nI_m1 (by omega))]
      exact Ret.ok h2 (by omega) t2 rfl rfl
    · have ek : nI k - 1 = nI (k - 1) := by
        rw [show (1 : Int32) = nI 1 from rfl, pk_sub (by omega)]
      obtain ⟨v, g', w1, w2⟩ := j_way47 (D2 := D2) hN1 hN h2.1 h2.2.1 hTp pC pR pN (Nat.le_refl k)
      rw [if_neg (show ¬ nI k = 0 from nI_ne0 (by omega) (by omega)), if_pos (show (1 : Int32) ≤ nI k from nI_le (a := 1) (by omega) (by omega)), bnd2_o (show e_walk R2 0 (nI k) = some (v, setA R2 43 g') from w1)]
      rcases w2 with ⟨rfl, q, -⟩ | ⟨rfl, q, -⟩ | ⟨t, q1, q2, rfl, q3⟩
      · rw [bnd_o q, if_neg (show ¬ (0 : Int32) ≤ -1 by decide)]
        exact Ret.ok h2.a43 (by omega) t2 rfl rfl
      · rw [bnd_o q, if_neg (show ¬ (0 : Int32) ≤ -3 by decide)]
        exact Ret.ok h2.a43 (by omega) t2 rfl rfl
      · rw [if_pos (Or.inl rfl)] at q3
        have h3 := h2.a43 (x := g')
        have ht64 := q1.1.2
        have htz := h2.2.1.dsz q1.1
        have hf := f1_lt V t 0
        have z0 : (0 : Int32) ≤ nI t := i_nlt (nI_nn (by omega))
        have kk := (j_kind (D2 := D2) hN1 hN h3.1 q1.1).2
        rw [bnd_o q3]
        show Ret N B gr (u + 100) ex (if 0 ≤ nI t then _ else _) _
        rw [if_pos z0, if_pos z0, bnd_o kk, pC.1]
        have fin : (f1 V t 0 = 2 → ∀ s, s < szM V t / 16 → sln V t s = 0) → Ret N B gr (u + 100) ex (bnd (d_X4_walk_47 N (vA A) D2 (nI k - 1)) (fun v50 => bnd (d_X4_slotOf_47 N (vA A) D2 v50 (nI k - 1)) (fun v51 => bnd2 (d_X4_wipe N A D2 v50 v51) (fun A52 D52 => bnd2 (d_X7_loseName N A52 D52 (nI t)) (fun A53 D53 => bndF (d_X10_finish N B gr A53 D53) (fun v54 A54 D54 => some (.inl ((0 : Int32), A54, D54)))))))) (e_remove_73 (setA R2 43 g') (nI k) (nI t)) := fun hem => by
          obtain ⟨d, s, g1, g2, u1, u2, u3, u4, u5, u6, u7, u8, u9, -⟩ := j_up47 (D2 := D2) hN1 hN h3.1 h3.2.1 hTp.a43 pC pR.a43 pN (by omega) q2
          rw [setA_A] at u6 u9
          rw [setA_A] at u9
          obtain ⟨pr1, pr2⟩ := pR.a43 (x := g1) (k - 1) (by omega)
          rw [Nat.zero_add] at pr1 pr2
          have h4 := h3.a43 (x := g2)
          rw [setA_A] at h4
          have ot4 : OwT A (setA R2 43 g2) m V := ⟨ot.1, (ot.2.fr f2 (by decide)).fr (Fn.a (S := []) (T := [43]) (by decide)) (by decide)⟩
          obtain ⟨A1, D3, X1, A', D', R', m', W, tk', l, a1, a2, a3, a4, a5, a6, a7, a8, a9, a10, a11, a12⟩ := w_rm hN1 hN hu h4 ot4 u1 u2 u3 u4 u5 hem
          rw [e_remove_73, ek, bnd_o u7, bnd_o u8, bnd2_o a1, bnd2_o a3, bnd2_o (show e_walk (setA R2 43 g') 0 (nI (k - 1)) = some (nI d, setA R2 43 g1) from u6), ld_n (show k - 1 < 32 by omega) (by decide), ld_n (show k - 1 < 32 by omega) (by decide), pr1, pr2, bnd2_o u9, bnd_o a2, bnd_o a4]
          have hLW := a12 hL
          exact h4.fin hN1 hN hgr hgr2 hu a6 a7 a8 a9.1 (by decide) (by decide) a10 a11 (by omega) rfl rfl
        by_cases c2 : f1 V t 0 = 2
        · have e2 : nI (f1 V t 0) = (2 : Int32) := by rw [c2]; rfl
          obtain ⟨n1, n2⟩ := j_names (D2 := D2) hN1 hN h3.1 h3.2.1 q1.1 c2
          have hcn := cnM_le V t (szM V t / 16)
          rw [if_pos e2, bnd_o n1, bnd_o n2]
          by_cases c0 : cnM V t (szM V t / 16) = 0
          · have e0 : nI (cnM V t (szM V t / 16)) ≤ 0 := by rw [c0]; decide
            rw [if_pos e0, if_pos e0]
            exact fin (fun _ s hs => by rw [← sl_sln h3.2.1.s hN1 q1.1 c2 hs]; exact cn0 _ (Nat.le_refl _) c0 s hs)
          · have e0 : ¬ nI (cnM V t (szM V t / 16)) ≤ 0 := nI_nle (by omega) (by omega)
            rw [if_neg e0, if_neg e0]
            exact Ret.ok h3 (by omega) t2 rfl rfl
        · rw [if_neg (nx2 c2 (by omega)), bnd_o (d_names0 (D2 := D2) hN1 hN h3.1 q1.1 c2), if_pos (show (0 : Int32) ≤ 0 by decide)]
          exact fin (fun z => absurd z c2)
end PXR
