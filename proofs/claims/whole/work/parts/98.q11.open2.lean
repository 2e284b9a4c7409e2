/-! ===== pure: open, the whole ===== -/
section PYK
variable {N B gr r u : Nat} {V W : Nat → Rw} {m m' : M5} {tk tk' : Nat → Bool} {A A' : MS} {D D' D2 : CfT} {R R' : RfT} {g : Bool} {hd hi hd' hi' : Nat → Nat} {tp : Nat → Int32} {tl : Nat} {ow : Nat → Int} {ex : Nat → Int32} {s0 : S3} {l : List Nat} {i k t : Nat}
theorem o_bits : ∀ w : Fin 16, (nI w.val &&& 3 = nI (w.val % 4)) ∧ (nI w.val - nI w.val / 4 * 4 = nI (w.val % 4)) ∧ ((nI w.val &&& 8 = 0) ↔ w.val < 8) ∧ ((nI w.val &&& 3 = 3) ↔ w.val % 4 = 3) ∧ ((nI w.val &&& 3 = 0) ↔ w.val % 4 = 0) ∧ ((3 ≤ nI w.val - nI w.val / 4 * 4) ↔ w.val % 4 = 3) ∧ ((nI w.val - nI w.val / 4 * 4 ≤ 0) ↔ w.val % 4 = 0) := by decide
/-- behind the checks -/
theorem o_core {x1 x3 : Int32} {n : Nat} (hN1 : 61 ≤ N) (hN : N ≤ 1024) (hgr : 1 ≤ gr) (hgr2 : gr ≤ 16) (hu : u + 4200 < 2 ^ 31) (hn : n ≤ 1024) (h : IM N B gr u g A D R m V tk hd hi tp tl) (ot : OwT A R m V) (t0 : rS R 0 = 0) (h3 : x1 &&& 3 = x1 - x1 / 4 * 4) (h8 : x3 = 0 ↔ x1 &&& 8 = 0) (hL : LH V hd hi := by assumption) : Ret N B gr (u + 100) ex (d_X11_open_60 N B gr A D x1 (nI n) x3) (e_open_66 R x1 (nI n)) := by
  rw [d_X11_open_60, e_open_66]
  obtain ⟨D2, R2, h2, hTp, f2, ⟨p1, p2⟩ | ⟨k, st, ln, p1, p2, pC, pR, pN⟩⟩ := h.path hn
  · rw [bnd2_o p1, bnd2_o p2, i00, im1]
    exact Ret.ok h2 (by omega) (by rw [f2.1.1 0 (by decide)]; exact t0) rfl rfl
  · have hk := pC.2.1
    have t2 : rS R2 0 = 0 := by rw [f2.1.1 0 (by decide)]; exact t0
    have own : ∀ x : Nat → Int32, OwT A (setA R2 43 x) m V := fun x => ⟨ot.1, (ot.2.fr f2 (by decide)).fr (Fn.a (S := []) (T := [43]) (by decide)) (by decide)⟩
    rw [bnd2_o p1, bnd2_o p2, i10, if_neg (show ¬ nI k = (-1 : Int32) from nI_m1 (by omega)), pC.1]
    obtain ⟨v, g', w1, w2⟩ := j_way47 (D2 := D2) hN1 hN h2.1 h2.2.1 hTp pC pR pN (Nat.le_refl k)
    have w1 : ∀ x : Nat → Int32, ∃ x', e_walk (setA R2 43 x) 0 (nI k) = some (v, setA R2 43 x') := fun x => by
      obtain ⟨v', g2, y1, y2⟩ := j_way47 (D2 := D2) hN1 hN h2.a43.1 h2.2.1 (hTp.a43 (x := x)) pC pR.a43 pN (Nat.le_refl k)
      rw [setA_A] at y1
      have e : v' = v := by
        have a1 : d_X4_walk_47 N (vA A) D2 (nI k) = some v' := by
          rcases y2 with ⟨rfl, q, -⟩ | ⟨rfl, q, -⟩ | ⟨t, q1, q2, rfl, q3⟩
          · exact q
          · exact q
          · rw [q3, if_pos (Or.inl rfl)]
        have a2 : d_X4_walk_47 N (vA A) D2 (nI k) = some v := by
          rcases w2 with ⟨rfl, q, -⟩ | ⟨rfl, q, -⟩ | ⟨t, q1, q2, rfl, q3⟩
          · exact q
          · exact q
          · rw [q3, if_pos (Or.inl rfl)]
        rw [a1] at a2
        exact Option.some.inj a2
      rw [e] at y1
      exact ⟨g2, y1⟩
    -- the reference, where the walk finds t
    have found : ∀ (x : Nat → Int32) (x5 x6 : Int32), (0 : Int32) ≤ x6 → ∀ t, v = nI t → Fnd V t → Ret N B gr (u + 100) ex (d_X11_open_118 N B gr A D2 x1 x3 (nI t) 0) (e_open_122 (setA R2 43 x) x1 (nI k) x5 x6) := fun x x5 x6 h6 t ev q1 => by
      obtain ⟨x', y1⟩ := w1 x
      have ht1 := q1.1.1
      have ht64 := q1.1.2
      have hf := f1_lt V t 0
      have z0 : (0 : Int32) ≤ nI t := i_nlt (nI_nn (by omega))
      obtain ⟨kk1, -⟩ := j_kind (D2 := D2) hN1 hN h2.1 q1.1
      obtain ⟨-, kk2⟩ := j_kind (D2 := D2) hN1 hN (h2.a43 (x := x')).1 q1.1
      rw [ev] at y1
      rw [d_X11_open_118, i00, d_X11_open_150, if_pos z0, i00, bnd_o kk1, e_open_122, if_pos h6, bnd2_o y1, if_pos z0, if_neg (show ¬ nI t ≤ 0 from nI_nle (by omega) (by omega)), bnd_o kk2]
      by_cases c2 : f1 V t 0 = 2
      · have e2 : nI (f1 V t 0) = (2 : Int32) := by rw [c2]; rfl
        rw [if_pos e2, if_pos e2]
        exact Ret.ok h2.a43 (by omega) t2 rfl rfl
      · have e2 : ¬ nI (f1 V t 0) = (2 : Int32) := nx2 c2 (by omega)
        have hk1 : f1 V t 0 = 1 := by
          have := q1.2.1
          have := (h2.2.1.2.1 t q1.1).1
          omega
        rw [if_neg e2, if_neg e2]
        exact o_old hN1 hN hgr hgr2 hu h2.a43 (own x') t2 q1.1 hk1 h3 h8
    have r2id : setA R2 43 (rA R2 43) = R2 := setA_id
    by_cases c4 : x1 &&& 4 = 0
    · rw [if_pos c4, e_open_97, i00, e_open_119]
      rcases w2 with ⟨ev, q, -⟩ | ⟨ev, q, -⟩ | ⟨t, q1, q2, ev, q3⟩
      · obtain ⟨x', y1⟩ := w1 (rA R2 43)
        rw [r2id, ev] at y1
        rw [bnd_o q, im1, if_pos c4, d_X11_open_115, d_X11_open_118, i00, d_X11_open_150, if_neg (show ¬ (0 : Int32) ≤ -1 by decide), e_open_122, if_pos (show (0 : Int32) ≤ 1 by decide), bnd2_o y1, if_neg (show ¬ (0 : Int32) ≤ -1 by decide), i00]
        exact Ret.ok h2.a43 (by omega) t2 rfl rfl
      · obtain ⟨x', y1⟩ := w1 (rA R2 43)
        rw [r2id, ev] at y1
        rw [bnd_o q, if_neg (show ¬ (-3 : Int32) = -1 by decide), d_X11_open_115, d_X11_open_118, i00, d_X11_open_150, if_neg (show ¬ (0 : Int32) ≤ -3 by decide), e_open_122, if_pos (show (0 : Int32) ≤ 1 by decide), bnd2_o y1, if_neg (show ¬ (0 : Int32) ≤ -3 by decide), i00]
        exact Ret.ok h2.a43 (by omega) t2 rfl rfl
      · rw [if_pos (Or.inl rfl)] at q3
        have ht64 := q1.1.2
        have q := found (rA R2 43) 0 1 (by decide) t ev q1
        rw [r2id] at q
        rw [bnd_o q3, if_neg (show ¬ nI t = (-1 : Int32) from nI_m1 (by omega)), d_X11_open_115]
        exact q
    · rw [if_neg c4, e_open_97, i10]
      by_cases k0 : k = 0
      · have z : nI k ≤ 0 := by rw [k0]; decide
        rw [if_pos z, e_open_119]
        rcases w2 with ⟨ev, q, -, x, y, x1, -⟩ | ⟨ev, q, -, x, y, x1, -⟩ | ⟨t, q1, q2, ev, q3⟩
        · omega
        · omega
        · rw [if_pos (Or.inl rfl)] at q3
          have ht64 := q1.1.2
          have q := found (rA R2 43) 1 1 (by decide) t ev q1
          rw [r2id] at q
          rw [bnd_o q3, if_neg (show ¬ nI t = (-1 : Int32) from nI_m1 (by omega)), d_X11_open_115]
          exact q
      · have z : ¬ nI k ≤ 0 := nI_nle (by omega) (by omega)
        have ek : nI k - 1 = nI (k - 1) := by rw [show (1 : Int32) = nI 1 from rfl, pk_sub (by omega)]
        obtain ⟨v31, g2, a1, a2, a3⟩ := j_ahead47 (D2 := D2) (n := k - 1) hN1 hN h2.1 h2.2.1 hTp pC pR pN (by omega)
        obtain ⟨v30, g3, b1, b2⟩ := j_way47 (D2 := D2) (n := k - 1) hN1 hN h2.1 h2.2.1 hTp pC pR pN (by omega)
        rw [if_neg z, ek, bnd2_o (show e_walkAhead R2 0 (nI (k - 1)) = some (v31, setA R2 43 g2) from a1)]
        rcases w2 with ⟨ev, q, -, x, y, hx, wy, ky, ny⟩ | ⟨ev, q, -, x, y, hx, wy, ky⟩ | ⟨t, q1, q2, ev, q3⟩
        · rw [bnd_o q, im1, if_neg c4, d_X11_open_118, i10, pC.1, ek, bnd_o a2, d_X11_open_150]
          rcases a3 with rfl | rfl | ⟨d, d1, d2, rfl⟩
          · rw [if_neg (show ¬ (0 : Int32) ≤ -1 by decide), e_open_122, if_neg (show ¬ (0 : Int32) ≤ -1 by decide)]
            exact Ret.ok h2.a43 (by omega) t2 rfl rfl
          · rw [if_neg (show ¬ (0 : Int32) ≤ -3 by decide), e_open_122, if_neg (show ¬ (0 : Int32) ≤ -3 by decide)]
            exact Ret.ok h2.a43 (by omega) t2 rfl rfl
          · have hd64 := d1.1.2
            have z0 : (0 : Int32) ≤ nI d := i_nlt (nI_nn (by omega))
            obtain ⟨x', y1⟩ := w1 g2
            rw [ev] at y1
            rw [if_pos z0, i10, e_open_122, if_pos z0, bnd2_o y1, if_neg (show ¬ (0 : Int32) ≤ -1 by decide), i10, if_pos (show (-1 : Int32) ≤ 0 by decide)]
            exact o_new hN1 hN hgr hgr2 hu h2.a43 (own x') t2 d1 d2 h3 hTp.a43 pC pR.a43 pN (by omega)
        · have e3 : v31 = -3 := by
            rcases b2 with ⟨-, p2, -, x', y', hx', wy', ky', ny'⟩ | ⟨-, p2, -⟩ | ⟨t, p1, p3, -, p4⟩
            · refine absurd ?_ ky
              by_cases cj : x < x'
              · exact (Way.dir h2.2.1 wy cj wy').1
              · by_cases cj2 : x' < x
                · obtain ⟨-, s, s1, s2⟩ := Way.dir h2.2.1 wy' cj2 wy
                  exact absurd ⟨s1, s2⟩ (ny' s)
                · have : x = x' := by omega
                  subst this
                  rw [Way.inj h2.2.1 wy wy']
                  exact ky'
            · rw [a2] at p2
              exact Option.some.inj p2
            · rw [a2] at p4
              have p4 := Option.some.inj p4
              by_cases ck : f1 V t 0 = 2
              · refine absurd ?_ ky
                by_cases cj : x < k - 1
                · exact (Way.dir h2.2.1 wy cj p3).1
                · have : x = k - 1 := by omega
                  rw [this] at wy
                  rw [Way.inj h2.2.1 wy p3]
                  exact ck
              · rw [p4, if_neg (fun z => z.elim (fun z => by omega) ck)]
          rw [bnd_o q, if_neg (show ¬ (-3 : Int32) = -1 by decide), d_X11_open_115, d_X11_open_118, i00, d_X11_open_150, if_neg (show ¬ (0 : Int32) ≤ -3 by decide), e3, e_open_122, if_neg (show ¬ (0 : Int32) ≤ -3 by decide)]
          exact Ret.ok h2.a43 (by omega) t2 rfl rfl
        · rw [if_pos (Or.inl rfl)] at q3
          have ht64 := q1.1.2
          obtain ⟨d, s, -, -, u1, u2, -, -, -, -, u7, -, -, -⟩ := j_up47 (D2 := D2) hN1 hN h2.1 h2.2.1 hTp pC pR pN (by omega) q2
          have hd64 := u1.1.2
          rw [a2] at u7
          have e31 := Option.some.inj u7
          rw [bnd_o q3, if_neg (show ¬ nI t = (-1 : Int32) from nI_m1 (by omega)), d_X11_open_115, e31]
          exact found g2 1 (nI d) (i_nlt (nI_nn (by omega))) t ev q1
theorem r_open {a0 : Int32} (hN1 : 61 ≤ N) (hN : N ≤ 1024) (hgr : 1 ≤ gr) (hgr2 : gr ≤ 16) (hu : u + 4200 < 2 ^ 31) (hx : ex 2 = 3) (h : IM N B gr u g A D R m V tk hd hi tp tl) (hL : LH V hd hi := by assumption) : Ret N B gr (u + 100) ex (d_X11_open N B gr A D a0) (e_open R a0) := by
  obtain ⟨D1, R0, R1, c1, c2, c3, c4, h1, ot, t0, htl, -⟩ := h.tn hN
  rw [d_X11_open, bnd2_o c1, bndF_l c2, e_open, bnd2_o c3]
  have bad : ∀ x3 : Int32, (a0 < 0 ∨ (15 : Int32) < a0 ∨ a0 &&& 3 = 3 ∨ (x3 ≠ 0 ∧ a0 &&& 3 = 0)) → Ret N B gr (u + 100) ex (d_X11_open_22 N B gr A D1 a0 (nI tl) x3) (e_open_38 R0 a0 (nI tl)) := fun x3 hb => by
    rw [e_open_38, e_open_40, bnd2_o c4, i00, i00, bnd2_o ref1, i10]
    have e : d_X11_open_22 N B gr A D1 a0 (nI tl) x3 = some (.inr (2, A, D1)) := by
      rw [d_X11_open_22]
      by_cases b1 : a0 < 0
      · rw [if_pos b1]; rfl
      · rw [if_neg b1]
        by_cases b2 : (15 : Int32) < a0
        · rw [if_pos b2]; rfl
        · rw [if_neg b2]
          by_cases b3 : a0 &&& 3 = 3
          · rw [if_pos b3]; rfl
          · rw [if_neg b3]
            have b4 := ((hb.resolve_left b1).resolve_left b2).resolve_left b3
            rw [if_neg b4.1, if_pos b4.2]; rfl
    rw [e]
    exact Ret.no h1.thr (by omega) (by rw [rS_0, hx]) (by decide) rfl rfl
  have both : ∀ X : Option (Int32 × RfT), (∀ x3, (x3 = 0 ↔ a0 &&& 8 = 0) → Ret N B gr (u + 100) ex (d_X11_open_22 N B gr A D1 a0 (nI tl) x3) X) → Ret N B gr (u + 100) ex (if a0 &&& 8 = 0 then d_X11_open_22 N B gr A D1 a0 (nI tl) 0 else d_X11_open_22 N B gr A D1 a0 (nI tl) 1) X := fun X hX => by
    by_cases b : a0 &&& 8 = 0
    · rw [if_pos b]
      exact hX 0 ⟨fun _ => b, fun _ => rfl⟩
    · rw [if_neg b]
      exact hX 1 ⟨fun z => absurd z (by decide), fun z => absurd z b⟩
  refine both _ (fun x3 h8 => ?_)
  by_cases b1 : a0 < 0
  · rw [if_pos b1]
    exact bad x3 (Or.inl b1)
  · rw [if_neg b1]
    by_cases b2 : (16 : Int32) ≤ a0
    · rw [if_pos b2]
      refine bad x3 (Or.inr (Or.inl ?_))
      exact Int32.lt_of_lt_of_le (show (15 : Int32) < 16 by decide) b2
    · rw [if_neg b2]
      obtain ⟨w, hw, ew⟩ := nI_of b1
      have hw16 : w < 16 := by
        refine Classical.byContradiction (fun z => b2 ?_)
        rw [ew]
        exact nI_le (a := 16) (by omega) hw
      obtain ⟨o1, o2, o3, o4, o5, o6, o7⟩ := o_bits ⟨w, hw16⟩
      rw [← ew] at o1 o2 o3 o4 o5 o6 o7
      have good : ¬ a0 &&& 3 = 3 → ¬ (x3 ≠ 0 ∧ a0 &&& 3 = 0) → Ret N B gr (u + 100) ex (d_X11_open_22 N B gr A D1 a0 (nI tl) x3) (e_open_34 R0 a0 (nI tl)) := fun n3 n0 => by
        rw [e_open_34, e_open_40, bnd2_o c4, i00, i10, bnd2_o ref0, i00, d_X11_open_22, if_neg b1, if_neg (show ¬ (15 : Int32) < a0 by rw [ew]; exact nI_nlt (a := 15) (by omega) (by decide)), if_neg n3]
        have core := o_core (ex := ex) hN1 hN hgr hgr2 hu htl (h1.thr (v := 0)) ⟨ot.1, ot.2.fr (Fn.s (S := [0]) (T := []) (by decide)) (by decide)⟩ rS_0 (by rw [o1, o2]) h8
        by_cases z3 : x3 = 0
        · rw [if_pos z3]
          exact core
        · rw [if_neg z3, if_neg (fun z => n0 ⟨z3, z⟩)]
          exact core
      by_cases b3 : (3 : Int32) ≤ a0 - a0 / 4 * 4
      · rw [if_pos b3]
        exact bad x3 (Or.inr (Or.inr (Or.inl (o4.mpr (o6.mp b3)))))
      · have n3 : ¬ a0 &&& 3 = 3 := fun z => b3 (o6.mpr (o4.mp z))
        rw [if_neg b3]
        by_cases b4 : a0 < (8 : Int32)
        · have hw8 : w < 8 := by
            rw [ew] at b4
            exact (nI_ltI (b := 8) hw (by decide)).mp b4
          rw [if_pos b4]
          exact good n3 (fun z => z.1 (h8.mpr (o3.mpr hw8)))
        · have hw8 : ¬ w < 8 := fun z => b4 (by rw [ew]; exact nI_lt (b := 8) z (by decide))
          rw [if_neg b4]
          by_cases b5 : a0 - a0 / 4 * 4 ≤ 0
          · rw [if_pos b5]
            exact bad x3 (Or.inr (Or.inr (Or.inr ⟨fun z => hw8 (o3.mp (h8.mp z)), o5.mpr (o7.mp b5)⟩)))
          · rw [if_neg b5]
            exact good n3 (fun z => b5 (o7.mpr (o5.mp z.2)))
end PYK
