/-! ===== pure: rename ===== -/
section PYB
variable {N B gr r u : Nat} {V W : Nat → Rw} {m m' : M5} {tk : Nat → Bool} {A A' : MS} {D D' D2 : CfT} {R R' : RfT} {g : Bool} {hd hi : Nat → Nat} {tp : Nat → Int32} {tl : Nat} {ex : Nat → Int32} {i d p s s2 t : Nat}
theorem em_of {ow : Nat → Int} {o : Nat} (h : WFs N V ow) (hN1 : 61 ≤ N) (ho : ir o) (hk : f1 V o 0 = 2) (h0 : cnM V o (szM V o / 16) = 0) : ∀ s, s < szM V o / 16 → sln V o s = 0 := fun s hs => by
  rw [← sl_sln h hN1 ho hk hs]
  exact cn0 _ (Nat.le_refl _) h0 s hs
/-- what the class finds wrong with a replacement, and what the reference does -/
theorem j_repl {o : Nat} {x4 x5 x6 x7 : Int32} (hN1 : 61 ≤ N) (hN : N ≤ 1024) (h : JX N B gr A D R m V tk) (hw : WF N V) (ht : Fnd V t) (ho : Fnd V o) : (∃ v : Int32, ¬ (0 : Int32) ≤ v ∧ d_X11_faultOfReplacing N (vA A) D2 (nI t) (nI o) = some v ∧ (bnd (e_kind R (nI t)) (fun v44 => if v44 = ((2 : Int32)) then e_rename_196 R (nI t) x4 x5 x6 x7 (nI o) ((1 : Int32)) else e_rename_196 R (nI t) x4 x5 x6 x7 (nI o) ((0 : Int32)))) = some (v, R)) ∨ (d_X11_faultOfReplacing N (vA A) D2 (nI t) (nI o) = some 0 ∧ (bnd (e_kind R (nI t)) (fun v44 => if v44 = ((2 : Int32)) then e_rename_196 R (nI t) x4 x5 x6 x7 (nI o) ((1 : Int32)) else e_rename_196 R (nI t) x4 x5 x6 x7 (nI o) ((0 : Int32)))) = e_rename_246 R (nI t) x4 x5 x6 x7 (nI o) ∧ (f1 V o 0 = 2 → ∀ s, s < szM V o / 16 → sln V o s = 0)) := by
  obtain ⟨k1, k2⟩ := j_kind (D2 := D2) hN1 hN h ht.1
  obtain ⟨l1, l2⟩ := j_kind (D2 := D2) hN1 hN h ho.1
  have hf := f1_lt V t 0
  have hg := f1_lt V o 0
  have hoz := hw.dsz ho.1
  rw [d_X11_faultOfReplacing, bnd_o k1, bnd_o k2]
  by_cases ct : f1 V t 0 = 2
  · have et : nI (f1 V t 0) = (2 : Int32) := by rw [ct]; rfl
    rw [if_pos et, if_pos et, d_X11_faultOfReplacing_18, bnd_o l1, e_rename_196, bnd_o l2]
    by_cases co : f1 V o 0 = 2
    · have eo : nI (f1 V o 0) = (2 : Int32) := by rw [co]; rfl
      obtain ⟨n1, n2⟩ := j_names (D2 := D2) hN1 hN h hw ho.1 co
      have hcn := cnM_le V o (szM V o / 16)
      rw [if_pos eo, if_pos eo, d_X11_faultOfReplacing_37, i10, i10, d_X11_faultOfReplacing_49, i10, bnd_o n1, if_pos rfl, e_rename_229, i10, bnd_o n2]
      by_cases c0 : cnM V o (szM V o / 16) = 0
      · have e0 : nI (cnM V o (szM V o / 16)) ≤ 0 := by rw [c0]; decide
        rw [if_pos e0, if_pos e0]
        exact Or.inr ⟨rfl, rfl, fun _ => em_of hw.s hN1 ho.1 co c0⟩
      · have e0 : ¬ nI (cnM V o (szM V o / 16)) ≤ 0 := nI_nle (by omega) (by omega)
        rw [if_neg e0, if_neg e0]
        exact Or.inl ⟨-5, by decide, rfl, rfl⟩
    · have eo : ¬ nI (f1 V o 0) = (2 : Int32) := nx2 co (by omega)
      rw [if_neg eo, if_neg eo, d_X11_faultOfReplacing_37, i10, i00, i10, i10]
      exact Or.inl ⟨-3, by decide, rfl, rfl⟩
  · have et : ¬ nI (f1 V t 0) = (2 : Int32) := nx2 ct (by omega)
    rw [if_neg et, if_neg et, d_X11_faultOfReplacing_18, bnd_o l1, e_rename_196, bnd_o l2]
    by_cases co : f1 V o 0 = 2
    · have eo : nI (f1 V o 0) = (2 : Int32) := by rw [co]; rfl
      rw [if_pos eo, if_pos eo, d_X11_faultOfReplacing_37, i00, d_X11_faultOfReplacing_49, i00, i10, if_neg (show ¬ (0 : Int32) = 1 by decide), i00]
      exact Or.inl ⟨-4, by decide, rfl, rfl⟩
    · have eo : ¬ nI (f1 V o 0) = (2 : Int32) := nx2 co (by omega)
      rw [if_neg eo, if_neg eo, d_X11_faultOfReplacing_37, i00, d_X11_faultOfReplacing_49, i00, i00, bnd_o (d_names0 (D2 := D2) hN1 hN h ho.1 co), if_pos (show (0 : Int32) ≤ 0 by decide), i00, e_rename_229, i00]
      exact Or.inr ⟨rfl, rfl, fun z => absurd z co⟩
theorem r_rename (hN1 : 61 ≤ N) (hN : N ≤ 1024) (hgr : 1 ≤ gr) (hgr2 : gr ≤ 16) (hu : u + 4200 < 2 ^ 31) (h : IM N B gr u g A D R m V tk hd hi tp tl) (hL : LH V hd hi := by assumption) : Ret N B gr (u + 100) ex (d_X11_rename N B gr A D) (e_rename R) := by
  obtain ⟨D1, R0, R1, c1, c2, c3, c4, h1, ot, t0, htl, -⟩ := h.tn hN
  rw [d_X11_rename, bnd2_o c1, bndF_l c2, e_rename, bnd2_o c3, bnd2_o c4, i00]
  obtain ⟨D2, R2, h2, hTp, fr2, ⟨p1, p2⟩ | ⟨k, st, ln, k2, st2, ln2, p1, p2, p56, pC, pR, pN, pC2, pR2, pN2⟩⟩ := h1.two htl
  · rw [bnd2_o p1, bnd2_o p2, i00, im1]
    exact Ret.ok h2 (by omega) (by rw [fr2.1.1 0 (by decide)]; exact t0) rfl rfl
  · have hk := pC.2.1
    have hk2 := pC2.2.1
    have t2 : rS R2 0 = 0 := by rw [fr2.1.1 0 (by decide)]; exact t0
    have own : ∀ x : Nat → Int32, OwT A (setA R2 43 x) m V := fun x => ⟨ot.1, (ot.2.fr fr2 (by decide)).fr (Fn.a (S := []) (T := [43]) (by decide)) (by decide)⟩
    rw [bnd2_o p1, bnd2_o p2, i10, if_neg (show ¬ nI k2 = (-1 : Int32) from nI_m1 (by omega)), pC.1, pC2.1, p56]
    obtain ⟨v, g', w1, w2⟩ := j_way47 (D2 := D2) hN1 hN h2.1 h2.2.1 hTp pC pR pN (Nat.le_refl k)
    rw [bnd2_o (show e_walk R2 0 (nI k) = some (v, setA R2 43 g') from w1)]
    rcases w2 with ⟨rfl, q, -⟩ | ⟨rfl, q, -⟩ | ⟨t, q1, q2, rfl, q3⟩
    · have n1 : ¬ (0 : Int32) ≤ -1 := by decide
      rw [bnd_o q, if_neg n1, if_neg n1]
      exact Ret.ok h2.a43 (by omega) t2 rfl rfl
    · have n1 : ¬ (0 : Int32) ≤ -3 := by decide
      rw [bnd_o q, if_neg n1, if_neg n1]
      exact Ret.ok h2.a43 (by omega) t2 rfl rfl
    · rw [if_pos (Or.inl rfl)] at q3
      have h3 := h2.a43 (x := g')
      have ht64 := q1.1.2
      have z0 : (0 : Int32) ≤ nI t := i_nlt (nI_nn (by omega))
      have p56' : rS (setA R2 43 g') 56 = nI k := p56
      rw [bnd_o q3, if_pos z0, if_pos z0, p56']
      by_cases k0 : k = 0
      · have e0 : nI k = 0 := by rw [k0]; rfl
        rw [if_pos e0, if_pos e0]
        exact Ret.ok h3 (by omega) t2 rfl rfl
      have e0 : ¬ nI k = 0 := nI_ne0 (by omega) (by omega)
      rw [if_neg e0, if_neg e0]
      by_cases k20 : k2 = 0
      · have e1 : nI k2 = 0 := by rw [k20]; rfl
        rw [if_pos e1, if_pos e1]
        exact Ret.ok h3 (by omega) t2 rfl rfl
      have e1 : ¬ nI k2 = 0 := nI_ne0 (by omega) (by omega)
      rw [if_neg e1, if_neg e1]
      obtain ⟨b, b1, b2⟩ := j_below (N := N) (W := vA A) (R := setA R2 43 g') hTp.a43 pC pR.a43 pN pC2 pR2.a43 pN2 p56'
      rw [bnd_o b1, bnd_o b2]
      cases b with
      | true =>
        rw [if_neg (show ¬ bI true = 0 by decide), if_neg (show ¬ bI true = 0 by decide)]
        exact Ret.ok h3 (by omega) t2 rfl rfl
      | false =>
        have ek : nI k - 1 = nI (k - 1) := by rw [show (1 : Int32) = nI 1 from rfl, pk_sub (by omega)]
        have ek2 : nI k2 - 1 = nI (k2 - 1) := by rw [show (1 : Int32) = nI 1 from rfl, pk_sub (by omega)]
        obtain ⟨v, g2, x1, x2, x3⟩ := j_ahead50 (D2 := D2) (n := k2 - 1) hN1 hN h3.1 h3.2.1 hTp.a43 pC2 pR2.a43 pN2 (by omega)
        rw [setA_A] at x1
        rw [if_pos (show bI false = 0 from rfl), if_pos (show bI false = 0 from rfl), ek, ek2, bnd_o x2, bnd2_o (show e_walkAhead (setA R2 43 g') 16 (nI (k2 - 1)) = some (v, setA R2 43 g2) from x1)]
        have h4 := h2.a43 (x := g2)
        rcases x3 with rfl | rfl | ⟨d, d1, d2, rfl⟩
        · have n1 : ¬ (0 : Int32) ≤ -1 := by decide
          rw [if_neg n1, if_neg n1]
          exact Ret.ok h4 (by omega) t2 rfl rfl
        · have n1 : ¬ (0 : Int32) ≤ -3 := by decide
          rw [if_neg n1, if_neg n1]
          exact Ret.ok h4 (by omega) t2 rfl rfl
        · have hd64 := d1.1.2
          have hz := h4.2.1.dsz d1.1
          have z1 : (0 : Int32) ≤ nI d := i_nlt (nI_nn (by omega))
          obtain ⟨p, s, g3, g4, u1, u2, u3, u4, u5, u6, u7, u8, u9, -⟩ := j_up47 (D2 := D2) hN1 hN h4.1 h4.2.1 hTp.a43 pC pR.a43 pN (by omega) q2
          rw [setA_A] at u6 u9
          rw [setA_A] at u9
          have hp64 := u1.1.2
          obtain ⟨pr1, pr2⟩ := pR.a43 (x := g3) (k - 1) (by omega)
          rw [Nat.zero_add] at pr1 pr2
          have p56g : rS (setA R2 43 g2) 56 = nI k := p56
          have p56h : rS (setA R2 43 g3) 56 = nI k := p56
          have h5 := h2.a43 (x := g4)
          obtain ⟨pq1, pq2⟩ := pR2.a43 (x := g4) (k2 - 1) (by omega)
          have e15 : (15 : Int32) + nI k2 = nI (16 + (k2 - 1)) := by
            rw [show (15 : Int32) = nI 15 from rfl, nI_add, show 15 + k2 = 16 + (k2 - 1) by omega]
          obtain ⟨g5, s1, s2⟩ := j_slotOf50 (D2 := D2) hN1 hN h5.1 h5.2.1 d1.1 d2 hTp.a43 pC2 pR2.a43 pN2 (show k2 - 1 < k2 by omega)
          rw [setA_A] at s2
          rw [if_pos z1, if_pos z1, bnd_o u7, bnd_o u8, p56g, ek, bnd2_o (show e_walk (setA R2 43 g2) 0 (nI (k - 1)) = some (nI p, setA R2 43 g3) from u6), p56h, ek, ld_n (show k - 1 < 32 by omega) (by decide), ld_n (show k - 1 < 32 by omega) (by decide), pr1, pr2, bnd2_o u9, bnd_o s1, e15, ld_n (show 16 + (k2 - 1) < 32 by omega) (by decide), ld_n (show 16 + (k2 - 1) < 32 by omega) (by decide), pq1, pq2, bnd2_o s2]
          have h6 := h2.a43 (x := g5)
          rcases sfM_o (tp := tp) (st := st2 (k2 - 1)) (ln := ln2 (k2 - 1)) h6.2.1.1 hN1 d1.1 (n := szM V d / 16) (by omega) (h6.2.1.db d1.1 d2) (szM V d / 16) 0 (by omega) with e | ⟨y, -, y2, e, y4⟩
          · have fin : ∀ x : Nat → Int32, (d = p ∨ wtM V d ≤ rmM N m V) → Ret N B gr (u + 100) ex (d_X11_rename_215 N B gr A D2 (nI t) (nI d) (nI p) (nI s)) (e_rename_310 (setA R2 43 x) (nI k2) (nI t) (nI d) (nI p) (nI s)) := fun x hrm => by
              have h7 := h2.a43 (x := x)
              obtain ⟨A1, D3, X1, r1, r2, r3, r4⟩ := w_mv hN1 hN hu h7 (own x) u1 u2 u3 u4 u5 d1 d2 hrm hTp.a43 pC2 pN2 (by omega)
              have r50 : rA X1 50 (16 + (k2 - 1)) = nI (st2 (k2 - 1)) := by rw [r3.1.2.1 50 (by decide)]; exact (pR2.a43 (x := x) (k2 - 1) (by omega)).1
              have r51 : rA X1 51 (16 + (k2 - 1)) = nI (ln2 (k2 - 1)) := by rw [r3.1.2.1 51 (by decide)]; exact (pR2.a43 (x := x) (k2 - 1) (by omega)).2
              rw [d_X11_rename_215, e_rename_310, bnd2_o r1, bnd_o r2, e15, ld_n (show 16 + (k2 - 1) < 32 by omega) (by decide), ld_n (show 16 + (k2 - 1) < 32 by omega) (by decide), r50, r51]
              rcases r4 with ⟨A', D', R', m', W, tk', r, l, ow, e1, e2, e3, e4, e5, e6, e7, e8, e9, e10⟩ | ⟨A', D', R', e1, e2, e3, e4, e5⟩
              · rw [bndF_l e1, bnd_o e2]
                have hLW := e10 hL
                exact h7.fin hN1 hN hgr hgr2 hu e4 e5 e6 e7 (by decide) (by decide) e8 e9 (by omega) rfl rfl
              · rw [bndF_r e1, bnd_o e2, com_off e3.1.1]
                exact Ret.off hN1 h7 e4 e3 e5 rfl rfl
            rw [e, im1, im1]
            by_cases cd : d = p
            · have ed : nI d = nI p := by rw [cd]
              rw [if_pos ed, if_pos ed]
              exact fin g5 (Or.inl cd)
            · have ed : ¬ nI d = nI p := fun z => cd (nI_inj (by omega) (by omega) z)
              obtain ⟨x1, g6, x3⟩ := j_wants (D2 := D2) hN1 hN h6.1 h6.2.2.1.2.2.2.2.2.1 h6.2.1.s d1.1 d2
              obtain ⟨y1, -⟩ := j_room (D2 := D2) hN1 hN h6.1 h6.2.2.1.2.2.2.2.2.1
              rw [setA_A] at x3
              rw [if_neg ed, if_neg ed, bnd_o x1, bnd_o y1, bnd2_o x3]
              have hw3 := wtM_le (V := V) (d := d) (by omega)
              have hrm : rmM N m V < 2 ^ 31 := by
                have := fb_up (y := V 43) N
                unfold rmM
                omega
              by_cases cr : wtM V d ≤ rmM N m V
              · rw [if_pos (nI_le cr hrm), decide_eq_false (fun z => z cr), if_pos (show bI false = 0 from rfl)]
                exact fin g6 (Or.inr cr)
              · rw [if_neg (nI_ge (by omega) (by omega)), decide_eq_true cr, if_neg (show ¬ bI true = 0 by decide)]
                exact Ret.ok h2.a43 (by omega) t2 rfl rfl
          · have nm1 : ¬ nI y = (-1 : Int32) := nI_m1 (by omega)
            have hfo := h6.2.1.fnd d1.1 d2 y2 y4
            have ho64 := hfo.1.2
            rw [e, if_neg nm1, if_neg nm1, bnd_o (c_sl2 hN1 hN h6.1.1 h6.2.1 d1.1 d2 y2), bnd_o (z_sl2 hN1 hN h6.1.2 h6.2.1 d1.1 d2 y2)]
            by_cases co : sln V d y = t
            · have eo : nI (sln V d y) = nI t := by rw [co]
              rw [if_pos eo, if_pos eo, d_X11_rename_279, if_pos eo]
              exact Ret.ok h6 (by omega) t2 rfl rfl
            · have eo : ¬ nI (sln V d y) = nI t := fun z => co (nI_inj (by omega) (by omega) z)
              rw [if_neg eo, if_neg eo]
              rcases j_repl (D2 := D2) (x4 := nI d) (x5 := nI p) (x6 := nI s) (x7 := nI y) hN1 hN h6.1 h6.2.1 q1 hfo with ⟨v, r1, r2, r3⟩ | ⟨r2, r3, r4⟩
              · rw [bnd_o r2, r3, d_X11_rename_279, if_neg eo, if_neg r1]
                exact Ret.ok h6 (by omega) t2 rfl rfl
              · obtain ⟨A1, D3, X1, A2, D4, X2, A', D', R', m', W, tk', l, ow, a1, a2, a3, a4, a5, a6, a7, a8, a9, a10, a11, a12, a13, a14⟩ := w_over hN1 hN hu h6 (own g5) u1 u2 u3 u4 u5 d1 d2 y2 rfl y4 co r4
                have hb := h6.2.1.dblk d1.1 d2 y2
                rw [bnd_o r2, r3, d_X11_rename_279, if_neg eo, if_pos (show (0 : Int32) ≤ 0 by decide), bnd2_o a1, bnd2_o a3, bnd2_o a5, e_rename_246, show (8 : Int32) = nI 8 from rfl, pk_div (by omega) (by decide) (by decide), bnd_o (j_blk (D2 := D2) hN1 hN h6.1 h6.2.1.1 d1.1 hb.1).2, pk_mul, pk_sub (by omega), show (16 : Int32) = nI 16 from rfl, pk_mul, show 16 * (y - y / 8 * 8) = 16 * (y % 8) by omega, bnd_o a2, bnd_o a4, bnd_o a6]
                have hLW := a14 hL
                exact h6.fin hN1 hN hgr hgr2 hu a8 a9 a10 a11.1 (by decide) (by decide) a12 a13 (by omega) rfl rfl
end PYB
