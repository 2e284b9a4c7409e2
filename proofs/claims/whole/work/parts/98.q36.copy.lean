/-! ===== pure: copy ===== -/
section PZJ
variable {N B gr r u : Nat} {V V1 V2 W U : Nat → Rw} {m m1 m2 m' : M5} {tk tk1 tk2 tk' : Nat → Bool} {A A0 A1 A' : MS} {D D0 D1 D' D2 : CfT} {R R0 R1 R' : RfT} {d i p q k a e t s : Nat} {l : List Nat} {g : Bool} {hd hi : Nat → Nat} {tp : Nat → Int32} {tl : Nat} {ex : Nat → Int32}
theorem nc_cg : ∀ e, (∀ p, p < e → pv W i (px p) = pv V i (px p)) → ncM W i 0 e = ncM V i 0 e := fun e => by
  induction e with
  | zero => intro _; rfl
  | succ e ih =>
    intro h
    have := ih (fun p hp => h p (by omega))
    by_cases c : pv V i (px e) = 0
    · rw [nc_0 c, nc_0 (by rw [h e (by omega)]; exact c), this]
    · rw [nc_s c, nc_s (by rw [h e (by omega)]; exact c), this]
theorem fs_cg (h : ∀ x, x ≤ p → pv W i (px x) = pv V i (px x)) : fsQ W i 8 p ↔ fsQ V i 8 p := by
  unfold fsQ
  rw [h p (Nat.le_refl _)]
  exact ⟨fun ⟨a, b, c⟩ => ⟨a, b, fun x x1 x2 x3 => by rw [← h x (by omega)]; exact c x x1 x2 x3⟩, fun ⟨a, b, c⟩ => ⟨a, b, fun x x1 x2 x3 => by rw [h x (by omega)]; exact c x x1 x2 x3⟩⟩
theorem n2_cg (h : ∀ x, x ≤ p → pv W i (px x) = pv V i (px x)) : n2Q W i p ↔ n2Q V i p := by
  unfold n2Q s2E
  rw [h p (Nat.le_refl _)]
  exact ⟨fun ⟨a, b, c⟩ => ⟨a, b, fun ⟨x, x1, x2, x3⟩ => c ⟨x, x1, x2, by rw [h x (by omega)]; exact x3⟩⟩, fun ⟨a, b, c⟩ => ⟨a, b, fun ⟨x, x1, x2, x3⟩ => c ⟨x, x1, x2, by rw [← h x (by omega)]; exact x3⟩⟩⟩
theorem tc_cg : ∀ e, (∀ p, p < e → pv W i (px p) = pv V i (px p)) → tcN W i e = tcN V i e := fun e => by
  induction e with
  | zero => intro _; rw [tcN_8 0 (by decide), tcN_8 0 (by decide)]
  | succ e ih =>
    intro h
    have hx : ∀ x, x ≤ e → pv W i (px x) = pv V i (px x) := fun x hx => h x (by omega)
    rw [tcN_s, tcN_s, ih (fun p hp => h p (by omega)), nT_e (V := W) (a := @ite _ (fsQ V i 8 e) (Classical.propDecidable _) 1 0) (b := @ite _ (n2Q V i e) (Classical.propDecidable _) 1 0) (fun z => if_pos ((fs_cg hx).mp z)) (fun z => if_neg (fun w => z ((fs_cg hx).mpr w))) (fun z => if_pos ((n2_cg hx).mp z)) (fun z => if_neg (fun w => z ((n2_cg hx).mpr w)))]
    rfl
theorem GaD.cg (h : GaD V i e D) (hp : ∀ p, p < e → pv W i (px p) = pv V i (px p)) : GaD W i e D := by
  refine ⟨by rw [nc_cg e hp]; exact h.1, fun p h1 h2 => ?_⟩
  rw [nc_cg p (fun x hx => hp x (by omega)), hp p h1]
  exact h.2 p h1 (by rw [← hp p h1]; exact h2)
theorem j_name7 (hN1 : 61 ≤ N) (hN : N ≤ 1024) (h : JX N B gr A D R m V tk) (hw : WFs N V (fun _ => 0)) (hd : ir d) (hk : f1 V d 0 = 2) {α : Type} (K : Int32 → Option α) : (bnd (e_size R (nI d)) (fun v104 => bnd (e_freeSlot R (nI d)) (fun v105 => if v105 = ((-1 : Int32)) then bnd (e_need R (nI d) ((v104) / ((128 : Int32))) ((v104) / ((128 : Int32)))) K else K 0))) = K (nI (wtM V d)) := by
  obtain ⟨-, s2⟩ := j_size (D2 := D) hN1 hN h hd
  obtain ⟨-, f2⟩ := j_freeSlotS (D2 := D) hN1 hN h hw hd hk
  have hz := (hw.pz hd).1
  have hl := hw.dlim hd hk
  rw [bnd_o s2, bnd_o f2, q_dv _ (by omega)]
  unfold wtM
  by_cases c : frM V d (szM V d / 16) 0 = -1
  · rw [if_pos c, if_pos c, bnd_o (z_need hN1 hN h.2 (hw.1.pto hd) hd (by omega) (by omega)), show szM V d / 128 + 1 - szM V d / 128 = 1 by omega]
    have e : wnF V d true (szM V d / 128) 1 = msM V d (szM V d / 128) := by
      show wq V d true (szM V d / 128) + 0 = _
      rw [wq_t (by omega)]
      rfl
    rw [e]
  · rw [if_neg c, if_neg c]
    rfl
theorem r_copy (hN1 : 61 ≤ N) (hN : N ≤ 1024) (hgr : 1 ≤ gr) (hgr2 : gr ≤ 16) (hu : u + 400000 < 2 ^ 31) (h : IM N B gr u g A D R m V tk hd hi tp tl) (hL : LH V hd hi := by assumption) : Ret N B gr (u + 150000) ex (d_X11_copy N B gr A D) (e_copy R) := by
  obtain ⟨D1, R0, R1, c1, c2, c3, c4, h1, ot, t0, htl, -⟩ := h.tn hN
  rw [d_X11_copy, bnd2_o c1, bndF_l c2, e_copy, bnd2_o c3, bnd2_o c4, i00]
  have key := j_newName hN1 hN htl h1 (fun v95 v96 v98 R101 => bnd (e_tablesFor R101 v96) (fun v102 => if v102 ≤ ((32 : Int32)) then bnd (e_freeInode R101) (fun v103 => if v103 = 0 then some ((-8 : Int32), R101) else bnd (e_size R101 v98) (fun v104 => bnd (e_freeSlot R101 v98) (fun v105 => if v105 = ((-1 : Int32)) then bnd (e_need R101 v98 ((v104) / ((128 : Int32))) ((v104) / ((128 : Int32)))) (fun v106 => e_copy_178 R101 v95 v96 v98 v103 v106) else e_copy_178 R101 v95 v96 v98 v103 ((0 : Int32))))) else some ((-12 : Int32), R101)))
  rcases key with ⟨v, D2, R2, k1, k2, k3, k4, k5⟩ | ⟨i, d, k, st, ln, D2, R2, q1, q2, d1, d2, k2, k3, h2, k5, hTp, pC, pR, pN, hk1, own, x2⟩
  · rw [bnd2_o k2, if_neg k1]
    refine Ret.ok k4 (by omega) (k5.trans t0) rfl k3
  · have k3' := k3
    unfold nnE at k3'
    rw [bnd2_o k2]
    refine Eq.mpr (congrArg (Ret N B gr (u + 150000) ex _) k3') ?_
    have hk := pC.2.1
    have ht64 := q1.1.2
    have hpz := h2.2.1.pz q1.1
    have hsz := hpz.1
    have z0 : (0 : Int32) ≤ nI i := i_nlt (nI_nn (by omega))
    obtain ⟨D3, g1, g2, g3⟩ := c_tables (D := D2) hN1 hN h2.1 (h2.2.1.1.pto q1.1) q1.1 hsz
    obtain ⟨-, es⟩ := j_size (D2 := D2) hN1 hN h2.1 q1.1
    have e1 := z_tablesFor hN1 hN h2.1.2 h2.2.1.1 q1.1 hsz es
    have e2 := z_wantedBy hN1 hN h2.1.2 h2.2.1.1 q1.1 hsz es
    obtain ⟨e, he⟩ : ∃ e, e = bfM (szM V i) := ⟨_, rfl⟩
    rw [← he] at g1 g2 e1 e2
    have he3 : e ≤ 3200 := by
      unfold bfM at he
      omega
    have tle := tcN_le (V := V) (i := i) (e := e)
    have nle := nc_le (V := V) (i := i) e
    have h3 := h2.dg g3
    rw [if_pos z0, bnd2_o g1, bnd_o e1]
    by_cases c32 : tcN V i e ≤ 32
    rotate_left
    · have z4 : ¬ nI (tcN V i e) ≤ (32 : Int32) := nI_ge (b := tcN V i e) (a := 32) (by omega) (by omega)
      rw [if_neg z4, if_neg z4]
      exact Ret.ok h3 (by omega) (k5.trans t0) rfl rfl
    · have z4 : nI (tcN V i e) ≤ (32 : Int32) := nI_le (b := 32) c32 (by decide)
      rw [if_pos z4, if_pos z4]
      rcases j_freeI (D2 := D3) hN1 hN h2.1 with ⟨f1', f2', -⟩ | ⟨t, ht, htk, f1', f2'⟩
      · rw [bnd_o f1', bnd_o f2', if_pos rfl, i00]
        exact Ret.ok h3 (by omega) (k5.trans t0) rfl rfl
      · have pC3 : PthC50 D3 k st ln := ⟨(g3.1 5002 (by decide)).trans pC.1, pC.2.1, fun j hj => by
          rw [show cA D3 51 = cA D2 51 from g3.2 51 (by decide) (by decide), show cA D3 52 = cA D2 52 from g3.2 52 (by decide) (by decide)]
          exact pC.2.2 j hj⟩
        have hTp3 : TpR D3 R2 tp := ⟨hTp.1, fun j => by rw [show cA D3 1 = cA D2 1 from g3.2 1 (by decide) (by decide)]; exact hTp.2.1 j, hTp.2.2⟩
        have x3 : d_X4_walk_50 N (vA A) D3 (nI (k - 1)) = some (nI d) := by
          obtain ⟨v, gg, a1, a2, -⟩ := j_ahead50 (n := k - 1) hN1 hN h2.1 h2.2.1 hTp pC pR pN (by omega)
          obtain ⟨v', gg', b1, b2, -⟩ := j_ahead50 (n := k - 1) hN1 hN h2.1 h2.2.1 hTp3 pC3 pR pN (by omega)
          rw [a1] at b1
          have ev : v = v' := (Prod.mk.inj (Option.some.inj b1)).1
          rw [x2] at a2
          rw [b2, ← ev, ← Option.some.inj a2]
        have ek : nI k - 1 = nI (k - 1) := by rw [show (1 : Int32) = nI 1 from rfl, pk_sub (by omega)]
        have hrz := h2.2.2.1.2.2.2.2.2.1
        obtain ⟨x1, -⟩ := j_wants (D2 := D3) hN1 hN h2.1 hrz h2.2.1.s d1.1 d2
        obtain ⟨y1, g4, y2⟩ := j_room (D2 := D3) hN1 hN h2.1 hrz
        have ht1 := ht.1
        have ht2 := ht.2
        have hw3 := wtM_le (V := V) (d := d) (by have := h2.2.1.dsz d1.1; omega)
        have hrm : rmM N m V < 2 ^ 31 := by
          have := fb_up (y := V 43) N
          unfold rmM
          omega
        rw [bnd_o f1', if_neg (nI_m1 (by omega)), pC3.1, ek, bnd_o x3, bnd_o x1, bnd_o y1, g2.1, nI_add, nI_add, bnd_o f2', if_neg (show ¬ nI t = 0 from nI_ne0 (by omega) (by omega)), j_name7 hN1 hN h2.1 h2.2.1.s d1.1 d2 (fun v106 => e_copy_178 R2 (nI k) (nI i) (nI d) (nI t) v106), e_copy_178, bnd_o e2, bnd2_o y2, nI_add]
        by_cases cr : wtM V d + (ncM V i 0 e + tcN V i e) ≤ rmM N m V
        rotate_left
        · rw [if_neg (nI_ge (by omega) (by omega)), if_neg (nI_ge (by omega) (by omega))]
          exact Ret.ok h3.a43 (by omega) (k5.trans t0) rfl rfl
        · rw [if_pos (nI_le (by omega) hrm), if_pos (nI_le cr hrm)]
          have h4 := h3.a43 (x := g4)
          have ot4 : OwT A (setA R2 43 g4) m V := ⟨ot.1, (own _ ot.2).fr (Fn.a (S := []) (T := [43]) (by decide)) (by decide)⟩
          obtain ⟨A1, Da, Ra, Rb, Rc, Rd, Re, b1, b2, b3, b4, b5, b6, b7, b8, b9, b10⟩ := w_cpN (rr := ncM V i 0 e + tcN V i e) hN1 hN (by omega) h4 ot4 q1.1 q2 d1.1 d2 (by have := d1.2.2; omega) ht htk f1' cr hTp3.a43 pC3 pN hk1
          have e15 : (15 : Int32) + nI k = nI (16 + (k - 1)) := by
            rw [show (15 : Int32) = nI 15 from rfl, nI_add, show 15 + k = 16 + (k - 1) by omega]
          obtain ⟨pr1, pr2⟩ := pR (k - 1) (by omega)
          have r50 : rA Re 50 (16 + (k - 1)) = nI (st (k - 1)) := by rw [b9.1.2.1 50 (by decide)]; exact pr1
          have r51 : rA Re 51 (16 + (k - 1)) = nI (ln (k - 1)) := by rw [b9.1.2.1 51 (by decide)]; exact pr2
          rw [bnd3_o b1, bnd_o b2, bnd_o b3, bnd_o b4, bnd_o b5, bnd_o b6, bnd_o b7, bnd_o b8, e15, ld_n (show 16 + (k - 1) < 32 by omega) (by decide), ld_n (show 16 + (k - 1) < 32 by omega) (by decide), r50, r51]
          rcases b10 with ⟨A2, Db, A3, Dc, A4, Dd', R6, m', W, tk', l, w1, w2, w3, w4, w5, w6, w7, w8, w9, w10, w11, w12, w13, w14, w15, w16, w17, w18, w19, w20, w21⟩ | ⟨A', D', R', w1, w2, w3, w4, w5⟩
          rotate_left
          · rw [bndF_r w1, bnd_o w2, bnd_o (dead_copy hN1 hN w3 q1.1), com_off w3.1.1]
            exact Ret.off hN1 h4 w4 w3 w5 rfl rfl
          · have hit : i ≠ t := fun z => by rw [z] at q2; omega
            have hpi : ∀ p, p < e → pv W i (px p) = pv V i (px p) := fun p hp => w20 _ (px_lt (by omega))
            have ebf : (nI (szM V i) + 128 - 1) / 128 = nI e := by
              rw [he, show (128 : Int32) = nI 128 from rfl, show (1 : Int32) = nI 1 from rfl, nI_add, pk_sub (by omega), pk_div (by omega) (by decide) (by decide)]
              rfl
            obtain ⟨-, es6⟩ := j_size (D2 := D2) hN1 hN w10.1 q1.1
            rw [w18] at es6
            have hg6 : GaD W i e Dd' := (g2.d4 w12.d4).cg hpi
            rw [bndF_l w1, bnd_o w2, d_X3_fillCopy, bnd_o w3, bnd2_o w4, bnd_o w5, bnd2_o w6, e_copyBytes, bnd_o es6, nm_o, ebf]
            have hb10 : JH N B gr (0 + ((ncM W i 0 e + tcN W i e) - (ncM W i 0 0 + tcN W i 0))) A4 Dd' R6 m' W tk' := by
              refine ⟨w10.1, w10.2.1.1, ?_⟩
              rw [nc_cg e hpi, tc_cg e hpi, tcN_8 0 (by decide), show ncM W i 0 0 = 0 from rfl, show 0 + (ncM V i 0 e + tcN V i e - (0 + 0)) = ncM V i 0 e + tcN V i e by omega]
              exact w10.2.2.1
            have hnle := nc_le (V := W) (i := i) e
            have bs := w10.now hN1 h4.bs
            have h486 : Byt (rA R6 48) := by
              rw [w13.2.1 48 (by decide)]
              exact h4.2.2.2.2.2.2.2.1.2.2.2.2.2.2.2
            have fx6 : Fx N Dd' R6 g tp 0 := (Kep.of w12 w13 (by decide) (by decide)).fx h4.2.2.2.2.2.2.2.1 h486
            have nx := j_cph (sz := szM V i) (r := 0) hN1 hN q1.1 ht hit he3 w16 hg6 w10.2.1.1 e 0 fuL fuL A4 Dd' R6 m' W tk' (by omega) (by rw [fuL_4]; omega) (by rw [fuL_4]; omega) (HvR.rf hb10) (fun y hy => ⟨fun z => absurd (w19 y hy) z, fun ⟨x, x1, _⟩ => absurd x1 (Nat.not_lt_zero _)⟩)
            rcases nx with ⟨A5, D5, R7, m5, V5, tk5, v1, v2, v3, v4⟩ | ⟨A5, D5, R7, v1, v2, v3, v4, v5⟩
            rotate_left
            · have v1 : d_X3_fillCopy_37 N B gr fuL A4 Dd' (nI t) (nI (szM V i)) 0 = some (.inr (0, A5, D5)) := v1
              have v2 : e_copyBytes_22 fuL R6 (nI i) (nI t) (nI (szM V i)) (nI e) 0 = some R7 := v2
              rw [bndF_r v1, bnd_o v2, com_off v3.1.1]
              exact Or.inr (Or.inl ⟨A5, D5, _, _, rfl, rfl, rS_0, fx6.offT (v4.1 1 (by decide)) (v4.2 1 (by decide) (by decide)) (by rw [show cA D5 42 = cA Dd' 42 from v4.2 42 (by decide) (by decide)]; exact h4.y42 w12) (v4.2 53 (by decide) (by decide)) (Dd.thr v3), ⟨R6, Dd.thr v3, w10.1.2.kc⟩, v5.sfe hN1 bs.1.2.2.2.2.2.2.1 bs.1.1 w10.1.2.1.1.2.1.lgn (Nat.le_trans bs.1.2.1 (by omega))⟩)
            · have v1 : d_X3_fillCopy_37 N B gr fuL A4 Dd' (nI t) (nI (szM V i)) 0 = d_X3_fillCopy_78 N B gr fuL A5 D5 (nI t) (nI (szM V i)) 0 := v1
              have v2 : e_copyBytes_22 fuL R6 (nI i) (nI t) (nI (szM V i)) (nI e) 0 = e_copyBytes_64 fuL R7 (nI i) (nI t) (nI (szM V i)) (nI e) 0 := v2
              have heW : bfM (szM W t) = e := by rw [w17, he]
              obtain ⟨y3, y4, y5⟩ := w_hvG (tb := (tbX W i e).map (pv V5 t)) hN1 w10 v3 ht w16 (fun q q1 q2 => Classical.byContradiction (fun z => by
                have := ((cY_px q2 (by omega)).mp ((v4 _ (px_lt q2)).mp z)).1
                omega)) (fun b ⟨_, x, z1, z2, z3, z4⟩ => List.mem_map.mpr ⟨x, tbX_m e x (z3.resolve_right (by decide)) z2, z4⟩)
              have tlen : ((tbX W i e).map (pv V5 t)).length ≤ 32 := by
                rw [List.length_map, tbX_len, tc_cg e hpi]
                exact c32
              have hcg : g = false → ∃ l' : List Nat, l'.length ≤ 40 ∧ ∀ b, 43 ≤ b → b < N → Chg m5 V5 tk5 b → b ∈ l' := by
                rcases w8 with z | z
                · refine h4.cg (y3.sub (l' := l ++ (tbX W i e).map (pv V5 t)) (fun b hb => ?_)) (by rw [List.length_append]; omega)
                  rcases List.mem_append.mp hb with hb | hb
                  · rcases List.mem_cons.mp hb with hb | hb
                    · exact List.mem_append_left _ (by rw [hb]; exact z)
                    · rcases List.mem_cons.mp hb with hb | hb
                      · exact List.mem_append_left _ (by rw [hb]; exact w9)
                      · exact List.mem_append_right _ hb
                  · exact List.mem_append_left _ hb
                · refine h4.cg y3 ?_
                  rw [List.length_append]
                  show ((tbX W i e).map (pv V5 t)).length + 2 + l.length ≤ 40
                  omega
              have kp : Kep D3 D5 (setA R2 43 g4) R7 := (Kep.of w12 w13 (by decide) (by decide)).tr ⟨fun j hj => v3.2.2.2.1.1 j (by revert hj; revert j; decide), fun k hk => v3.2.2.2.1.2 k (by revert hk; revert k; decide) (by revert hk; revert k; decide), fun j hj => v3.2.2.2.2.1.1 j (by revert hj; revert j; decide), fun k hk => v3.2.2.2.2.1.2.1 k (by revert hk; revert k; decide)⟩
              have h487 : Byt (rA R7 48) := by
                rw [v3.2.2.2.2.1.2.1 48 (by decide)]
                exact h486
              have wb : WB N B gr u g hd hi tp 0 A5 D5 R7 m5 V5 tk5 := ⟨⟨_, y3.rb⟩, y3.now hN1 h4.bs, w14.keep y3.2.1 (fun _ _ => rfl) (fun j hj => ⟨(y4 j hj).1, (y4 j hj).2.1⟩) (fun d hd2 _ => (y4 d hd2).2.2) y5, ⟨w15.1.keep (fun j hj => (y4 j hj).1), (w15.2 hL).keep (fun j hj => ⟨(y4 j hj).1, (y4 j hj).2.1⟩)⟩, by rw [show cA D5 42 = cA Dd' 42 from v3.2.2.2.1.2 42 (by decide) (by decide)]; exact h4.y42 w12, v3.2.2.1.trans (w11.trans h4.2.2.2.2.2.2.2.2.1), kp.hr h4.2.2.2.2.2.1, kp.fx h4.2.2.2.2.2.2.2.1 h487, hcg⟩
              have ncb : ncM W i 0 e ≤ 1024 := by
                rw [nc_cg e hpi]
                have := fb_up (y := V 43) N
                unfold rmM at cr
                omega
              rw [v1, v2]
              have fin := w_cpd (W := W) (V1 := V5) (sz := szM V i) hN1 hN hgr q1.1 ht he hsz (fun p hp hne => (v4 _ (px_lt (by omega))).mpr ((cY_px (by omega) (by omega)).mpr ⟨hp, hne⟩)) e 0 fuL fuL u A5 D5 R7 m5 V5 (by omega) (by rw [fuL_4]; omega) (by rw [fuL_4]; omega) (by omega) wb (by rw [(y4 t ht).1]; exact w16) (fun _ _ => rfl) (fun x hx => v3.2.1.1 i x q1.1 hx (Or.inr (Or.inl hit))) (hg6.d4 v3.2.2.2.1)
              rcases fin with ⟨A6, D6, R8, m6, U6, z1, z2, z3⟩ | ⟨A6, D6, R8, z1, z2, z3, z4⟩
              · have z1 : d_X3_fillCopy_78 N B gr fuL A5 D5 (nI t) (nI (szM V i)) 0 = some (.inl ((), A6, D6)) := z1
                have z2 : e_copyBytes_64 fuL R7 (nI i) (nI t) (nI (szM V i)) (nI e) 0 = some R8 := z2
                rw [bndF_l z1, bnd_o z2]
                exact (z3.fin (ex := ex) (v := nI t) hN1 hN hgr hgr2 (by omega)).up (by omega)
              · have z1 : d_X3_fillCopy_78 N B gr fuL A5 D5 (nI t) (nI (szM V i)) 0 = some (.inr (0, A6, D6)) := z1
                have z2 : e_copyBytes_64 fuL R7 (nI i) (nI t) (nI (szM V i)) (nI e) 0 = some R8 := z2
                rw [bndF_r z1, bnd_o z2, com_off z3]
                exact Or.inr (Or.inl ⟨A6, D6, _, _, rfl, rfl, rS_0, z4.up (by omega)⟩)
end PZJ
