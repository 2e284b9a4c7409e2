/-! ===== pure: truncate ===== -/
section PYS
variable {N B gr r u : Nat} {V W : Nat → Rw} {m m' : M5} {tk tk' : Nat → Bool} {A A' : MS} {D D' D2 : CfT} {R R' : RfT} {g : Bool} {hd hi hd' hi' : Nat → Nat} {tp : Nat → Int32} {tl : Nat} {ow : Nat → Int} {ex : Nat → Int32} {s0 : S3} {l : List Nat} {i k t b s q : Nat}
theorem Ret.up {α : Type} {u' : Nat} {cl : Option (FR α)} {rf : Option (α × RfT)} (h : Ret N B gr u ex cl rf) (hu : u ≤ u') : Ret N B gr u' ex cl rf := by
  have mt : ∀ {A D R}, Mtd N B gr u A D R → Mtd N B gr u' A D R := fun ⟨g, m, V, tk, hd, hi, tp, tl, h, hL⟩ => h.mtd hu hL
  rcases h with ⟨x, A', D', R', a1, a2, a3, a4⟩ | ⟨A', D', R', v, a1, a2, a3, a4⟩ | ⟨c, A', D', R', v, a1, a2, a3, a4, a5⟩
  · exact Or.inl ⟨x, A', D', R', a1, a2, a3, mt a4⟩
  · exact Or.inr (Or.inl ⟨A', D', R', v, a1, a2, a3, a4.up hu⟩)
  · exact Or.inr (Or.inr ⟨c, A', D', R', v, a1, a2, a3, a4, mt a5⟩)
theorem Fx.offT {o : Hw} (h : Fx N D R g tp tl) (e1 : cS D' 1 = cS D 1) (e2 : cA D' 1 = cA D 1) (h42 : Byt (cA D' 42)) (e53 : cA D' 53 = cA D 53) (x : Dd N R o R') : OffT D' R' := by
  obtain ⟨⟨a1, a2, a3⟩, b2, b3, b4, b5, -⟩ := h
  exact ⟨tp, tl, ⟨a1, fun j => by rw [e2]; exact a2 j, fun j hj => by rw [x.1.2.2.2.2.2.2.2.2.2.2]; exact a3 j hj⟩, by rw [e1]; exact b2, by rw [x.1.2.2.2.2.2.2.2.2.2.1 5 (by decide)]; exact b3, b4, h42, by rw [e53]; exact b5.2⟩
theorem Ret.offS {α : Type} {v : α} {u' u9 : Nat} {cl : Option (FR α)} {rf : Option (α × RfT)} (h : Fx N D R g tp tl) (e1 : cS D' 1 = cS D 1) (e2 : cA D' 1 = cA D 1) (h42 : Byt (cA D' 42)) (e53 : cA D' 53 = cA D 53) (x : Dd N R A'.1 R') (s : SfT N u9 A' D') (kc : KC N B gr R) (c1 : cl = some (.inr (0, A', D'))) (c2 : rf = some (v, setS R' 0 2)) (hu9 : u9 ≤ u' := by omega) : Ret N B gr u' ex cl rf := Or.inr (Or.inl ⟨A', D', _, v, c1, c2, rS_0, h.offT e1 e2 h42 e53 (Dd.thr x), ⟨R, Dd.thr x, kc⟩, s.up hu9⟩)
/-- data of a file is no table -/
theorem no_tab (hw : PW N V) (hi : ir i) (hk : f1 V i 0 = 1) (hq : q < 4168) (h0 : pv V i (px q) ≠ 0) : ¬ isT V (pv V i (px q)) := fun ⟨_, j, x, j1, j2, j3, j4⟩ => by
  obtain ⟨e1, e2⟩ := hw.2.2.1 i (px q) j x hi (px_lt hq) j1 j2 h0 j3.symm
  rcases j4 with z | z
  · rw [← e2] at z
    exact px_tb z
  · rw [← e1, hk] at z
    cases z
/-- the inode that is asked for is a file, or not -/
theorem j_file {a0 : Int32} (hN1 : 61 ≤ N) (hN : N ≤ 1024) (h : JX N B gr A D R m V tk) (hw : WF N V) : (∃ i, ir i ∧ a0 = nI i ∧ f1 V i 0 = 1 ∧ d_X7_faultOfFile N (vA A) D2 a0 = some 0 ∧ e_kind R a0 = some 1) ∨ (d_X7_faultOfFile N (vA A) D2 a0 = some (-11) ∧ e_kind R a0 = some 0) ∨ (d_X7_faultOfFile N (vA A) D2 a0 = some (-4) ∧ e_kind R a0 = some 2) := by
  rw [d_X7_faultOfFile]
  rcases i_rng a0 with ⟨i, hir, rfl⟩ | hx
  · obtain ⟨k1, k2⟩ := j_kind (D2 := D2) hN1 hN h hir
    have h2 := (hw.2.1 i hir).1
    rw [bnd_o k1]
    by_cases c0 : f1 V i 0 = 0
    · rw [c0] at k2
      rw [c0, nI_0, i00]
      exact Or.inr (Or.inl ⟨rfl, k2⟩)
    · rw [if_neg (show ¬ nI (f1 V i 0) = 0 from nI_ne0 (by omega) (by omega))]
      by_cases c2 : f1 V i 0 = 2
      · rw [c2] at k2
        rw [if_pos (show nI (f1 V i 0) = (2 : Int32) by rw [c2]; rfl)]
        exact Or.inr (Or.inr ⟨rfl, k2⟩)
      · have c1 : f1 V i 0 = 1 := by omega
        rw [c1] at k2
        rw [if_neg (nx2 c2 (by omega))]
        exact Or.inl ⟨i, hir, rfl, c1, rfl, k2⟩
  · obtain ⟨k1, k2⟩ := j_kind0 (N := N) (A := A) (D2 := D2) (R := R) hx
    rw [bnd_o k1, i00]
    exact Or.inr (Or.inl ⟨rfl, k2⟩)
/-- finish behind a data block that was put -/
theorem r_trunc {i s : Nat} (hN1 : 61 ≤ N) (hN : N ≤ 1024) (hgr : 1 ≤ gr) (hgr2 : gr ≤ 16) (hu : u + 9000 < 2 ^ 31) (h : IM N B gr u g A D R m V tk hd hi tp tl) (ot : OwT A R m V) (hir : ir i) (hk1 : f1 V i 0 = 1) (hs : s ≤ 400000) (hL : LH V hd hi := by assumption) : Ret N B gr (u + 1000) ex (bnd (d_X7_size N (vA A) D (nI i)) (fun v38 => bnd2 (d_X7_resize N A D (nI i) (nI s)) (fun A39 D39 => if v38 ≤ nI s then bndF (d_X10_finish N B gr A39 D39) (fun v40 A40 D40 => some (.inl ((0 : Int32), A40, D40))) else bnd (d_X7_blocksFor N (vA A39) D39 (nI s)) (fun v41 => bndF (d_X3_blank N B gr A39 D39 (nI i) (nI s) ((v41) * ((128 : Int32)))) (fun v42 A42 D42 => bndF (d_X10_finish N B gr A42 D42) (fun v43 A43 D43 => some (.inl ((0 : Int32), A43, D43)))))))) (bnd (e_resize R (nI i) (nI s)) (fun R138 => bnd2 (e_committed R138 ((0 : Int32))) (fun v139 R139 => some (v139, R139)))) := by
  obtain ⟨A', D', R1, R', m', W, tk', l2, a1, a2, a3, a4, a5, a6, a7, a8, a9, r1, r2, r3, r4⟩ := w_rsz (s := s) hN1 hN (h.wk hN1 (by omega) ot) hir hk1 hs
  have a6 : WK N B gr (rmM N m V) (m, V, tk) (l2 ++ []) A' D' R' m' W tk' (fun _ => 0) := a6
  have hz := (h.2.1.pz hir).1
  have hl : (l2 ++ []).length ≤ 40 := by rw [List.append_nil]; omega
  have hkW : f1 W i 0 = 1 := by rw [(r1 i hir).1]; exact hk1
  have hWF : WF N W := h.2.1.keep a6.2.1 (fun _ _ => rfl) (fun j hj => ⟨(r1 j hj).1, (r1 j hj).2.1⟩) (fun d hd2 kd => by
    rw [(r1 d hd2).2.2, if_neg (fun z => by rw [z, hk1] at kd; cases kd)]) (fun d s hd2 kd hs => r2 d s hd2 kd hs)
  have hLW : LH W hd hi := hL.keep (fun j hj => ⟨(r1 j hj).1, (r1 j hj).2.1⟩)
  have hHd : HdW W hd hi := h.2.2.2.2.2.2.1.keep (fun j hj => (r1 j hj).1)
  obtain ⟨s1, s2⟩ := j_size (D2 := D) hN1 hN h.1 hir
  rw [bnd_o s1, bnd2_o a1, e_resize, bnd_o s2]
  have plain : Ret N B gr (u + 1000) ex (bndF (d_X10_finish N B gr A' D') (fun v40 A40 D40 => some (.inl ((0 : Int32), A40, D40)))) (bnd2 (e_committed R' ((0 : Int32))) (fun v139 R139 => some (v139, R139))) := (h.fin (ex := ex) hN1 hN hgr hgr2 (by omega) a6 a7 a8 a9.1 (by decide) (by decide) hWF hHd hl rfl rfl).up (by omega)
  by_cases c : szM V i ≤ s
  · have z : nI (szM V i) ≤ nI s := nI_le c (by omega)
    rw [if_pos z, if_pos z, e_resize_15, bnd_o a2, i00, ← a3 c]
    exact plain
  · have z : ¬ nI (szM V i) ≤ nI s := nI_ge (by omega) (by omega)
    have a4 := a4 (by omega)
    have ebf : (nI s + 128 - 1) / 128 = nI (bfM s) := by
      rw [show (128 : Int32) = nI 128 from rfl, show (1 : Int32) = nI 1 from rfl, nI_add, pk_sub (by omega), pk_div (by omega) (by decide) (by decide)]
      rfl
    rw [if_neg z, if_neg z, bnd_o (d_bF (by omega)), e_resize_15, bnd_o a2, i10, ebf, bnd_o a4, q_md s (by omega), q_dv s (by omega), show (128 : Int32) = nI 128 from rfl, pk_mul, d_X3_blank, q_dv s (by omega)]
    by_cases c0 : s % 128 = 0
    · have eb : bfM s * 128 ≤ s := by
        unfold bfM
        omega
      rw [if_pos (nI_le eb (by omega)), if_pos (show nI (s % 128) = 0 by rw [c0]; rfl), d_X3_blank_29, i00]
      exact plain
    · have eb : s < bfM s * 128 := by
        unfold bfM
        omega
      have hb30 : bfM s * 128 < 2 ^ 30 := by
        unfold bfM
        omega
      have hq4 : s / 128 < 4168 := by omega
      obtain ⟨b1, b2⟩ := j_blk (D2 := D') hN1 hN a6.1 a6.2.1.1 hir hq4
      rw [if_neg (nI_ge eb (by omega)), if_neg (show ¬ nI (s % 128) = 0 from nI_ne0 (by omega) (by omega)), bnd_o b1, bnd_o b2]
      by_cases p0 : pv W i (px (s / 128)) = 0
      · rw [p0, nI_0, d_X3_blank_29, i00, i00]
        exact plain
      · obtain ⟨q1, q2, q3⟩ := (a6.2.1.1.pto hir _ (px_lt hq4)).resolve_left p0
        have hnt := no_tab a6.2.1.1 hir hkW hq4 p0
        generalize pv W i (px (s / 128)) = b at q1 q2 q3 p0 hnt
        have evb : vA A' b = W b := a6.1.1.agu b (by omega) q2 q3
        obtain ⟨x, x1, x2, x3⟩ := c_blk29 (N := N) (B := B) (gr := gr) (A := A') (D := D') (b := b) (p := s) (e := bfM s * 128) (q := s / 128) hN p0 q2 (by rw [evb]; exact a6.1.byt b (by omega) q2) (by rw [evb]; exact a6.1.nr b (by omega) q2) (h.y42 a8) (by omega) (by omega) eb hb30
        obtain ⟨g3, y1, y2⟩ := z_see (R := R') (b := b) (ow := true) (by omega) (a6.1.2.1.1.lk b (by omega)) a6.1.2.1.1.by
        have y3 : ∀ o, o < 128 → rA (setA R' 43 g3) 43 o = W b o := fun o ho => by rw [rA_e, y2 o ho, a6.1.2.agu b (by omega) q2 q3]
        have b44 : Byt (rA (setA R' 43 g3) 44) := a6.1.2.1.1.1.b44
        obtain ⟨g4, v1, v2, v3⟩ := z_r82 (R := setA R' 43 g3) (s := s) (b := b) (y := W b) (by omega) (a6.1.byt b (by omega) q2) y3 fuL 0 (rA (setA R' 43 g3) 44) (by decide) (by rw [fuL_4]; omega) b44 (fun o ho => absurd ho (Nat.not_lt_zero _))
        rw [setA_id, nI_0] at v1
        rw [x1, bnd_o (show e_see R' (nI b) 1 = some (setA R' 43 g3) from y1), if_neg (show ¬ nI b = 0 from nI_ne0 (by omega) (by omega)), v1]
        have em : min (bfM s * 128 - 128 * (s / 128)) 128 = 128 := by
          unfold bfM
          omega
        have ep : s - 128 * (s / 128) = s % 128 := by omega
        rw [em, ep, evb] at x3
        have w2 : WK N B gr (rmM N m V) (m, V, tk) (l2 ++ []) A' (sA D' 42 x) (setA (setA R' 43 g3) 44 g4) m' W tk' (fun _ => 0) := (a6.a43 (x := g3)).row v2
        have fA : Fn [] [43, 44] R' (setA (setA R' 43 g3) 44 g4) := (Fn.a (by decide)).tr (Fn.a (by decide))
        have fB : Fq [33] [30, 31, 32, 35, 36, 43, 44] R (setA (setA R' 43 g3) 44 g4) := (a9.1.wk (by decide) (by decide)).tr (fA.1.wk (by decide) (by decide))
        have kp1 : Kep D (sA D' 42 x) R (setA (setA R' 43 g3) 44 g4) := (Kep.of a8 fB (by decide) (by decide)).tr ⟨fun _ _ => rfl, fun k hk => by
          show cA (sA D' 42 x) k = cA D' k
          exact cA_n (by revert hk; revert k; decide), fun _ _ => rfl, fun _ _ => rfl⟩
        have h48 : Byt (rA (setA (setA R' 43 g3) 44 g4) 48) := by
          rw [fB.2.1 48 (by decide)]
          exact h.2.2.2.2.2.2.2.1.2.2.2.2.2.2.2
        rcases w_direct (x := zpR (W b) (s % 128) 128) hN1 hN hgr (by omega) w2 h.bs q1 q2 q3 hnt (by rw [cA_e]; exact x2) (by rw [cA_e]; exact x3) (by rw [rA_e]; exact zpR_of (a6.1.nr b (by omega) q2) v3) h48 with ⟨A2, R2, m2, z1, z2, z3, z4, z5, z6, z7, z8, z9⟩ | ⟨A2, R2, z1, z2, z3, z4, z5⟩
        · have kp2 : Kep D (sA D' 42 x) R R2 := kp1.tr ⟨fun _ _ => rfl, fun _ _ => rfl, fun j hj => z9.1 j (by revert hj; revert j; decide), fun k hk => z9.2.1 k (by revert hk; revert k; decide)⟩
          have hWF2 : WF N (vU W b (zpR (W b) (s % 128) 128)) := hWF.dep hN1 (fun c c1 c2 => vU_n (by omega)) (fun c hc => vU_n (fun e => hnt (by rw [← e]; exact hc)))
          have hd2 : HdW (vU W b (zpR (W b) (s % 128) 128)) hd hi := hHd.keep (fun j hj => by
            have := ir_home hj
            unfold f1
            rw [vU_n (by omega)])
          have hLX : LH (vU W b (zpR (W b) (s % 128) 128)) hd hi := hLW.keep (fun j hj => by
            have := ir_home hj
            unfold f1
            rw [vU_n (by omega)]
            exact ⟨rfl, rfl⟩)
          rw [bndF_a, bndF_l z1, bnd_a, bnd_o z2]
          refine (w_ret (ex := ex) (g := g) (u := u + 101) hN1 hN hgr hgr2 (by omega) z3 z4.1 z4.2 (fun zz => ?_) hWF2 (by rw [cA_e]; exact x2) (z6.trans (a7.trans h.2.2.2.2.2.2.2.2.1)) (kp2.hr h.2.2.2.2.2.1) hd2 (kp2.fx h.2.2.2.2.2.2.2.1 z8) rfl rfl).up (by omega)
          obtain ⟨l', l1, l3⟩ := h.cg a6 hl zz
          exact ⟨l', l1, fun c c1 c2 hc => l3 c c1 c2 (z5 c c1 c2 hc)⟩
        · rw [bndF_a, bndF_r z1, bnd_a, bnd_o z2]
          have zd : Dd N R A2.1 R2 := z4.fq fB (by decide) (by decide)
          exact Ret.offS (D' := sA D' 42 x) h.2.2.2.2.2.2.2.1 (a8.1 1 (by decide)) (a8.2 1 (by decide)) (by rw [cA_e]; exact x2) (a8.2 53 (by decide)) zd z5 h.1.2.kc rfl (by
            show bnd2 (e_committed R2 0) _ = _
            rw [com_off z3]
            rfl)
theorem r_truncate {a0 a1 : Int32} (hN1 : 61 ≤ N) (hN : N ≤ 1024) (hgr : 1 ≤ gr) (hgr2 : gr ≤ 16) (hu : u + 9000 < 2 ^ 31) (h : IM N B gr u g A D R m V tk hd hi tp tl) (hL : LH V hd hi := by assumption) : Ret N B gr (u + 1000) ex (d_X11_truncate N B gr A D a0 a1) (e_truncate R a0 a1) := by
  obtain ⟨n1, R1, n2, h1, ot, t0, -, -⟩ := h.nm hN
  rw [d_X11_truncate, bndF_l n1, e_truncate, bnd2_o n2, i00]
  rcases j_file (a0 := a0) (D2 := D) hN1 hN h1.1 h1.2.1 with ⟨i, hir, rfl, hk1, k1, k2⟩ | ⟨k1, k2⟩ | ⟨k1, k2⟩
  · rw [bnd_o k1, bnd_o k2, if_pos (show (0 : Int32) ≤ 0 by decide), if_pos (show (1 : Int32) = 1 from rfl)]
    by_cases c1 : a1 < 0
    · rw [if_pos c1, if_pos c1]
      exact Ret.ok h1 (by omega) t0 rfl rfl
    rw [if_neg c1, if_neg c1]
    by_cases c2 : a1 ≤ 400000
    · obtain ⟨s, hs, rfl⟩ := nI_of c1
      rw [if_pos c2, if_pos c2]
      exact r_trunc hN1 hN hgr hgr2 hu h1 ot hir hk1 ((nI_leI (b := 400000) hs (by decide)).mp c2)
    · rw [if_neg c2, if_neg c2]
      exact Ret.ok h1 (by omega) t0 rfl rfl
  · rw [bnd_o k1, bnd_o k2, if_neg (show ¬ (0 : Int32) ≤ -11 by decide), if_neg (show ¬ (0 : Int32) = 1 by decide), i00]
    exact Ret.ok h1 (by omega) t0 rfl rfl
  · rw [bnd_o k1, bnd_o k2, if_neg (show ¬ (0 : Int32) ≤ -4 by decide), if_neg (show ¬ (2 : Int32) = 1 by decide), if_neg (show ¬ (2 : Int32) = 0 by decide)]
    exact Ret.ok h1 (by omega) t0 rfl rfl
end PYS
