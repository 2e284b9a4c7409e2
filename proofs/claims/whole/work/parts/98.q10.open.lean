/-! ===== pure: open ===== -/
section PYJ
variable {N B gr r u : Nat} {V W : Nat → Rw} {m m' : M5} {tk tk' : Nat → Bool} {A A' : MS} {D D' D2 : CfT} {R R' : RfT} {g : Bool} {hd hi hd' hi' : Nat → Nat} {tp : Nat → Int32} {tl : Nat} {ow : Nat → Int} {ex : Nat → Int32} {s0 : S3} {l : List Nat} {i k t : Nat}
/-- open ends: a handle is gripped -/
theorem rs_gp {f : Nat → Nat} {v k t : Nat} (hv : f k ≠ v) : ∀ n, rsC f v n ≤ rsC (upN f k t) v n
  | 0 => Nat.le_refl _
  | n + 1 => by
    show rsC f v n + (if f n = v then 1 else 0) ≤ rsC (upN f k t) v n + (if upN f k t n = v then 1 else 0)
    have := rs_gp (t := t) hv n
    by_cases c : n = k
    · subst c
      rw [if_neg hv]
      omega
    · rw [upN_n c]
      omega
theorem o_fin {x1 : Int32} {y : Nat} {S T : List Nat} (hN1 : 61 ≤ N) (hN : N ≤ 1024) (hgr : 1 ≤ gr) (hgr2 : gr ≤ 16) (hu : u + 4200 < 2 ^ 31) (h : IM N B gr u g A D R m V tk hd hi tp tl) (w : WK N B gr r (m, V, tk) l A' D' R' m' W tk' ow) (hg : gA A' = gA A) (e : Dt D D') (f : Fq S T R R') (hS : ∀ j, j ∈ [5, 21, 34] → j ∉ S) (hT : ∀ k, k ∈ [4, 48, 52, 53, 54, 55] → k ∉ T) (hW : WF N W) (hw : HdW W hd hi) (hl : l.length ≤ 40) (ht : ir t) (hk1 : f1 W t 0 = 1) (hy : y < 32) (h3 : x1 &&& 3 = x1 - x1 / 4 * 4) (hy0 : hi y = 0) (hL : LH W hd hi := by assumption) : Ret N B gr (u + 100) ex (d_X11_open_260 N B gr A' D' x1 (nI t) (nI y)) (e_open_309 R' x1 (nI t) (nI y)) := by
  have kp : Kep D D' R R' := Kep.of e f hS (fun k hk => hT k (by revert hk; revert k; decide))
  have hr := kp.hr h.2.2.2.2.2.1
  have hf := kp.fx h.2.2.2.2.2.2.2.1 (by rw [f.2.1 48 (hT 48 (by decide))]; exact h.2.2.2.2.2.2.2.1.2.2.2.2.2.2.2)
  have on : ¬ rS R' 11 = 0 := w.1.2.1.1.1.on
  have fn := grR_fn (R := R') (k := y) (t := t) (w := x1 &&& 3)
  have w2 : WK N B gr r (m, V, tk) l A' (grD D' y t (x1 &&& 3)) (grR R' y t (x1 &&& 3)) m' W tk' ow := w.fr rfl (grD_A (by decide)) fn (by decide) (by decide)
  have hf2 : Fx N (grD D' y t (x1 &&& 3)) (grR R' y t (x1 &&& 3)) g tp tl := hf.fr rfl rfl (grD_A (by decide)) (grD_A (by decide)) fn.1 (by decide) (by decide)
  have ht64 := ht.2
  have hL2 : LH W hd (upN hi y t) := hL.mono (fun j hj z => by
    have hj1 := hj.1
    unfold tmM at z ⊢
    have := rs_gp (f := hi) (v := j) (k := y) (t := t) (by omega) 32
    omega)
  refine w_ret hN1 hN hgr hgr2 hu w2 h.2.2.1 h.2.2.2.2.1 (h.cg w2 hl) hW (by rw [grD_A (by decide)]; exact h.y42 e) (hg.trans h.2.2.2.2.2.2.2.2.1) (hr.grp ht64) (hw.grp ht hk1) hf2 ?_ ?_ (v := nI y)
  · rw [d_X11_open_260, bnd_o (d_grip hy)]
  · rw [e_open_309, if_neg on, st_n hy (by decide), st_n hy (by decide), st_n hy (by decide), ← h3]
    rfl
theorem o_old {x1 x3 x4 x6 x6' : Int32} (hN1 : 61 ≤ N) (hN : N ≤ 1024) (hgr : 1 ≤ gr) (hgr2 : gr ≤ 16) (hu : u + 4200 < 2 ^ 31) (h : IM N B gr u g A D R m V tk hd hi tp tl) (ot : OwT A R m V) (t0 : rS R 0 = 0) (ht : ir t) (hk1 : f1 V t 0 = 1) (h3 : x1 &&& 3 = x1 - x1 / 4 * 4) (h8 : x3 = 0 ↔ x1 &&& 8 = 0) (hL : LH V hd hi := by assumption) : Ret N B gr (u + 100) ex (d_X11_open_179 N B gr A D x1 x3 (nI t) 0 x6) (e_open_173 fuL R x1 x4 x6' (nI t) 0) := by
  have ht1 := ht.1
  have ht64 := ht.2
  rw [d_X11_open_179, d_X5_lowestFree]
  rcases low_h (N := N) (W := vA A) h.2.2.2.2.2.1 x1 x4 x6' (nI t) fuL fuL 0 (by decide) (by rw [fuL_4]; omega) (by rw [fuL_4]; omega) with ⟨q1, q2⟩ | ⟨y, hy, hy0, q1, q2⟩
  · have q2 : e_open_173 fuL R x1 x4 x6' (nI t) 0 = e_open_196 R x1 x4 x6' (nI t) 32 := q2
    rw [bnd_o (show d_X5_lowestFree_2 N (vA A) D fuL 0 = some (-1) from q1), im1, q2, e_open_196, if_pos rfl]
    exact Ret.ok h (by omega) t0 rfl rfl
  · have q2 : e_open_173 fuL R x1 x4 x6' (nI t) 0 = e_open_196 R x1 x4 x6' (nI t) (nI y) := q2
    rw [bnd_o (show d_X5_lowestFree_2 N (vA A) D fuL 0 = some (nI y) from q1), if_neg (show ¬ nI y = (-1 : Int32) from nI_m1 (by omega)), i00, q2, e_open_196, if_neg (show ¬ nI y = (32 : Int32) from fun z => by have := nI_inj (b := 32) (by omega) (by decide) z; omega), if_neg (show ¬ nI t ≤ 0 from nI_nle (by omega) (by omega))]
    by_cases c8 : x1 &&& 8 = 0
    · rw [if_pos (h8.mpr c8), if_pos c8]
      exact o_fin (S := []) (T := []) hN1 hN hgr hgr2 hu h (h.wk hN1 hu ot) rfl Dt.rf Fn.rf.1 (by decide) (by decide) h.2.1 h.2.2.2.2.2.2.1 (by decide) ht hk1 hy h3 hy0
    · obtain ⟨A', D', R1, R', m', W, tk', l2, a1, a2, a3, a4, a5, a6, a7, a8, a9, r1, r2, r3, r4⟩ := w_rsz (s := 0) hN1 hN (h.wk hN1 hu ot) ht hk1 (by decide)
      have hz := (h.2.1.pz ht).1
      have er : e_resize R (nI t) 0 = some R' := by
        rw [e_resize, bnd_o (j_size (D2 := D) hN1 hN h.1 ht).2]
        by_cases c0 : szM V t = 0
        · have z : nI (szM V t) ≤ 0 := by rw [c0]; decide
          rw [if_pos z, e_resize_15, bnd_o (show e_setField R (nI t) 4 4 0 = some R1 from a2), i00, a3 (by omega)]
        · have z : ¬ nI (szM V t) ≤ 0 := nI_nle (by omega) (by omega)
          have a4 := a4 (by omega)
          rw [if_neg z, e_resize_15, bnd_o (show e_setField R (nI t) 4 4 0 = some R1 from a2), i10, show ((0 : Int32) + 128 - 1) / 128 = 0 by decide, bnd_o (show e_freeFrom R1 (nI t) 0 = some R' from a4), if_pos (show (0 : Int32) - 0 / 128 * 128 = 0 by decide)]
      rw [if_neg (fun z => c8 (h8.mp z)), if_neg c8, bnd2_o (show d_X7_resize N A D (nI t) 0 = some (A', D') from a1), bnd_o er]
      have a6 : WK N B gr (rmM N m V) (m, V, tk) (l2 ++ []) A' D' R' m' W tk' (fun _ => 0) := a6
      have hWF : WF N W := h.2.1.keep a6.2.1 (fun _ _ => rfl) (fun j hj => ⟨(r1 j hj).1, (r1 j hj).2.1⟩) (fun d hd2 kd => by
        rw [(r1 d hd2).2.2, if_neg (fun z => by rw [z, hk1] at kd; cases kd)]) (fun d s hd2 kd hs => r2 d s hd2 kd hs)
      have hLW : LH W hd hi := hL.keep (fun j hj => ⟨(r1 j hj).1, (r1 j hj).2.1⟩)
      exact o_fin hN1 hN hgr hgr2 hu h a6 a7 a8 a9.1 (by decide) (by decide) hWF (h.2.2.2.2.2.2.1.keep (fun j hj => (r1 j hj).1)) (by rw [List.append_nil]; omega) ht (by rw [(r1 t ht).1]; exact hk1) hy h3 hy0
theorem o_new {x1 x3 x4 : Int32} {d : Nat} {st ln : Nat → Nat} (hN1 : 61 ≤ N) (hN : N ≤ 1024) (hgr : 1 ≤ gr) (hgr2 : gr ≤ 16) (hu : u + 4200 < 2 ^ 31) (h : IM N B gr u g A D R m V tk hd hi tp tl) (ot : OwT A R m V) (t0 : rS R 0 = 0) (d1 : Fnd V d) (d2 : f1 V d 0 = 2) (h3 : x1 &&& 3 = x1 - x1 / 4 * 4) (hTp : TpR D R tp) (pC : PthC47 D k st ln) (pR : PthR R 0 k st ln) (pN : NmS tp k st ln) (hk0 : 1 ≤ k) (hL : LH V hd hi := by assumption) : Ret N B gr (u + 100) ex (d_X11_open_179 N B gr A D x1 x3 x4 1 (nI d)) (e_open_173 fuL R x1 (nI k) (nI d) (-1) 0) := by
  have hk16 := pC.2.1
  have hz := h.2.1.dsz d1.1
  rw [d_X11_open_179, d_X5_lowestFree]
  rcases low_h (N := N) (W := vA A) h.2.2.2.2.2.1 x1 (nI k) (nI d) (-1) fuL fuL 0 (by decide) (by rw [fuL_4]; omega) (by rw [fuL_4]; omega) with ⟨q1, q2⟩ | ⟨y, hy, hy0, q1, q2⟩
  · have q2 : e_open_173 fuL R x1 (nI k) (nI d) (-1) 0 = e_open_196 R x1 (nI k) (nI d) (-1) 32 := q2
    rw [bnd_o (show d_X5_lowestFree_2 N (vA A) D fuL 0 = some (-1) from q1), im1, q2, e_open_196, if_pos rfl]
    exact Ret.ok h (by omega) t0 rfl rfl
  · have q2 : e_open_173 fuL R x1 (nI k) (nI d) (-1) 0 = e_open_196 R x1 (nI k) (nI d) (-1) (nI y) := q2
    rw [bnd_o (show d_X5_lowestFree_2 N (vA A) D fuL 0 = some (nI y) from q1), if_neg (show ¬ nI y = (-1 : Int32) from nI_m1 (by omega)), i10, q2, e_open_196, if_neg (show ¬ nI y = (32 : Int32) from fun z => by have := nI_inj (b := 32) (by omega) (by decide) z; omega), if_pos (show (-1 : Int32) ≤ 0 by decide), d_X11_faultOfNew]
    rcases j_freeI (D2 := D) hN1 hN h.1 with ⟨q1, q2, -⟩ | ⟨t, ht, htk, q1, q2⟩
    · rw [bnd_o q1, bnd_o q2, im1, i00, bnd_o rfl, if_neg (show ¬ (0 : Int32) ≤ -8 by decide)]
      exact Ret.ok h (by omega) t0 rfl rfl
    · have ht64 := ht.2
      obtain ⟨x1', g3, x2⟩ := j_wants (D2 := D) hN1 hN h.1 h.2.2.1.2.2.2.2.2.1 h.2.1.s d1.1 d2
      obtain ⟨y1, -⟩ := j_room (D2 := D) hN1 hN h.1 h.2.2.1.2.2.2.2.2.1
      rw [bnd_o q1, bnd_o q2, if_neg (show ¬ nI t = (-1 : Int32) from nI_m1 (by omega)), if_neg (show ¬ nI t = 0 from nI_ne0 (by have := ht.1; omega) (by omega)), bnd_o x1', bnd_o y1, bnd2_o x2]
      have hw3 := wtM_le (V := V) (d := d) (by omega)
      have hrm : rmM N m V < 2 ^ 31 := by
        have := fb_up (y := V 43) N
        unfold rmM
        omega
      by_cases cr : wtM V d ≤ rmM N m V
      · have h5 := h.a43 (x := g3)
        have ot5 : OwT A (setA R 43 g3) m V := ⟨ot.1, ot.2.fr (Fn.a (S := []) (T := [43]) (by decide)) (by decide)⟩
        obtain ⟨A1, D3, X1, X2, X3, b1, b2, b3, b4, b5, b6⟩ := w_new47 (kd := 1) hN1 hN hu h5 ot5 d1.1 d2 (by have := d1.2.2; omega) ht htk (Or.inl rfl) q1 cr (hTp.a43 (x := g3)) pC pN hk0
        have ek : nI k - 1 = nI (k - 1) := by rw [show (1 : Int32) = nI 1 from rfl, pk_sub (by omega)]
        obtain ⟨pr1, pr2⟩ := pR (k - 1) (by omega)
        rw [Nat.zero_add] at pr1 pr2
        have r50 : rA X3 50 (k - 1) = nI (st (k - 1)) := by rw [b5.1.2.1 50 (by decide)]; exact pr1
        have r51 : rA X3 51 (k - 1) = nI (ln (k - 1)) := by rw [b5.1.2.1 51 (by decide)]; exact pr2
        rw [if_pos (nI_le cr hrm), decide_eq_false (fun z => z cr), bnd_o rfl, if_pos (show (0 : Int32) ≤ 0 by decide), if_pos (show bI false = 0 from rfl), bnd3_o (show d_X7_create N A D 1 = some (nI t, A1, D3) from b1), bnd_o (show e_setField (setA R 43 g3) (nI t) 0 1 1 = some X1 from b2), bnd_o b3, bnd_o b4, ek, ld_n (show k - 1 < 32 by omega) (by decide), ld_n (show k - 1 < 32 by omega) (by decide), r50, r51]
        rcases b6 with ⟨A', D', R', m', W, tk', r, l, e1, e2, e3, e4, e5, e6, e7, e8, e9, e10⟩ | ⟨A', D', R', e1, e2, e3, e4, e5⟩
        · rw [bndF_l e1, bnd_o e2]
          have hLW := e10.2 hL
          exact o_fin hN1 hN hgr hgr2 hu h5 e4 e5 e6 e7 (by decide) (by decide) e8 e9 (by omega) ht e10.1 hy h3 hy0
        · rw [bndF_r e1, bnd_o e2, e_open_309, if_pos e3.1.1, com_off e3.1.1]
          exact Ret.off hN1 h5 e4 e3 e5 rfl rfl
      · rw [if_neg (nI_ge (by omega) (by omega)), decide_eq_true cr, bnd_o rfl, if_neg (show ¬ (0 : Int32) ≤ -7 by decide), if_neg (show ¬ bI true = 0 by decide)]
        exact Ret.ok h.a43 (by omega) t0 rfl rfl
end PYJ
