/-! ===== pure: make ===== -/
section PXP
variable {N B gr r u : Nat} {V W : Nat → Rw} {m : M5} {tk : Nat → Bool} {A A' : MS} {D D' D2 : CfT} {R R' : RfT} {g : Bool} {hd hi hd' hi' : Nat → Nat} {tp : Nat → Int32} {tl : Nat} {ow : Nat → Int} {ex : Nat → Int32} {i d s : Nat}
theorem com_off {v : Int32} (h : rS R 11 = 0) : e_committed R v = some (0, setS R 0 2) := by
  rw [e_committed, e_commit, if_pos h]
  show bnd2 (e_answer R v) (fun a b => some (a, b)) = _
  rw [e_answer, if_pos h, ptR, if_pos (show rS (setS R 0 2) 11 = 0 from h)]
  rfl
/-- the power fails in a call -/
theorem Ret.off {α : Type} {v : α} {u' : Nat} {cl : Option (FR α)} {rf : Option (α × RfT)} (hN1 : 61 ≤ N) (h : IM N B gr u g A D R m V tk hd hi tp tl) (e : Dt D D') (x : Dd N R A'.1 R') (f : FlT N B m A' D') (e1 : cl = some (.inr (0, A', D'))) (e2 : rf = some (v, setS R' 0 2)) (hu9 : u ≤ u' := by omega) : Ret N B gr u' ex cl rf := Or.inr (Or.inl ⟨A', D', _, v, e1, e2, rS_0, h.2.2.2.2.2.2.2.1.off h.2.2.2.2.2.2.2.2.2.2.2 e (Dd.thr x), ⟨R, Dd.thr x, h.1.2.kc⟩, f.sfe hN1 h.2.2.1.2.2.2.2.2.2.1 h.2.2.1.1 h.1.2.1.1.2.1.lgn (Nat.le_trans h.2.2.1.2.1 hu9)⟩)
theorem sl_sln (h : WFs N V ow) (hN1 : 61 ≤ N) (hd : ir d) (hk : f1 V d 0 = 2) (hs : s < szM V d / 16) : slM V d s = sln V d s := by
  have q := h.dblk hd hk hs
  unfold slM sln
  rw [(sl_ag h.1 hN1 (show AgU N V V from fun _ _ _ _ => rfl) hd q.1 q.2.1).1]
theorem frM_q {n : Nat} (h : ∀ s, s < n → slM W d s = slM V d s) : ∀ (k s : Nat), s + k ≤ n → frM W d k s = frM V d k s
  | 0, s, _ => rfl
  | k + 1, s, hk => by
    show (if slM W d s = 0 then nI s else frM W d k (s + 1)) = (if slM V d s = 0 then nI s else frM V d k (s + 1))
    rw [h s (by omega), frM_q h k (s + 1) (by omega)]
theorem wtM_cg {ow' : Nat → Int} (h : WFs N V ow) (h' : WFs N W ow') (hN1 : 61 ≤ N) (hd : ir d) (hk : f1 V d 0 = 2) (hk' : f1 W d 0 = 2) (hz : szM W d = szM V d) (hs : ∀ s, s < szM V d / 16 → sln W d s = sln V d s) (hp : ∀ x, x < 4234 → pv W d x = pv V d x) : wtM W d = wtM V d := by
  have hlim := h.dlim hd hk
  have hz4 := (h.pz hd).1
  unfold wtM
  rw [hz, frM_q (W := W) (V := V) (n := szM V d / 16) (fun s h1 => by rw [sl_sln h' hN1 hd hk' (by rw [hz]; exact h1), sl_sln h hN1 hd hk h1]; exact hs s h1) _ 0 (by omega), ← wq_t (V := W) (by omega), ← wq_t (V := V) (by omega)]
  congr 1
  unfold wq
  rw [hp _ (px_lt (by omega)), hp 9 (by decide)]
  by_cases c8 : szM V d / 128 < 8
  · have n8 : ¬ 8 ≤ szM V d / 128 := by omega
    simp only [n8, false_and, if_false]
  · have e : ph W d (px (szM V d / 128)) = ph V d (px (szM V d / 128)) := by
      rw [ph_px c8 (by omega), ph_px c8 (by omega), hp 8 (by decide), hp _ (by omega)]
    rw [e]
theorem cr_sln {t kd s : Nat} (h : WFs N V ow) (hN1 : 61 ≤ N) (ht : ir t) (hk0 : f1 V t 0 = 0) (hkd : kd = 1 ∨ kd = 2) (hd : ir d) (hk : f1 V d 0 = 2) (hs : s < szM V d / 16) : sln (crV V t kd) d s = sln V d s := by
  unfold sln
  rw [(h.cr hN1 ht hk0 hkd).2.2.1 d s hd hk hs]
/-- a new inode with its name, by the first path -/
theorem w_new47 {t kd k : Nat} {st ln : Nat → Nat} (hN1 : 61 ≤ N) (hN : N ≤ 1024) (hu : u + 4200 < 2 ^ 31) (h : IM N B gr u g A D R m V tk hd hi tp tl) (ot : OwT A R m V) (hdd : ir d) (hk : f1 V d 0 = 2) (hdl : f1 V d 1 ≠ 0) (ht : ir t) (htk : f1 V t 0 = 0) (hkd : kd = 1 ∨ kd = 2) (hl : d_X7_lowestFree N (vA A) D = some (nI t)) (hrm : wtM V d ≤ rmM N m V) (hTp : TpR D R tp) (hC : PthC47 D k st ln) (hNm : NmS tp k st ln) (hk1 : 1 ≤ k) : ∃ A1 D1 R1 R2 R3, d_X7_create N A D (nI kd) = some (nI t, A1, D1) ∧ e_setField R (nI t) 0 1 (nI kd) = some R1 ∧ e_setField R1 (nI t) 1 1 1 = some R2 ∧ e_setBit R2 44 (nI t - 1) 1 = some R3 ∧ Fn [33] [30, 31, 32, 36, 43] R R3 ∧ ((∃ A' D' R' m' W tk' r l, d_X4_addName_47 N B gr A1 D1 (nI d) (nI t) = some (.inl ((), A', D')) ∧ e_addName R3 (nI d) (nI (st (k - 1))) (nI (ln (k - 1))) (nI t) = some R' ∧ l.length ≤ 8 ∧ WK N B gr r (m, V, tk) l A' D' R' m' W tk' (fun _ => 0) ∧ gA A' = gA A ∧ Dt D D' ∧ Fq hS hT R R' ∧ WF N W ∧ HdW W hd hi ∧ (f1 W t 0 = kd ∧ (LH V hd hi → LH W hd hi))) ∨ (∃ A' D' R', d_X4_addName_47 N B gr A1 D1 (nI d) (nI t) = some (.inr (0, A', D')) ∧ e_addName R3 (nI d) (nI (st (k - 1))) (nI (ln (k - 1))) (nI t) = some R' ∧ Dd N R A'.1 R' ∧ Dt D D' ∧ FlT N B m A' D')) := by
  obtain ⟨A1, D1, R1, R2, R3, c1, c2, c3, c4, c5, c6, c7, c8⟩ := w_create (t := t) (kd := kd) hN1 hN (h.wk hN1 hu ot) ht htk hkd hl
  have htd : t ≠ d := fun z => by rw [z] at htk; omega
  obtain ⟨w1, w2, w3, w4⟩ := h.2.1.s.cr hN1 ht htk hkd
  have hd2 : f1 (crV V t kd) d 0 = 2 := by rw [(w2 d hdd).1, if_neg (fun z => htd z.symm)]; exact hk
  have ht2 : f1 (crV V t kd) t 0 ≠ 0 := by rw [(w2 t ht).1, if_pos rfl]; omega
  have ewt : wtM (crV V t kd) d = wtM V d := wtM_cg h.2.1.s w1 hN1 hdd hk hd2 (w2 d hdd).2.2.1 (fun s hs => cr_sln h.2.1.s hN1 ht htk hkd hdd hk hs) (w2 d hdd).2.2.2
  have hTp1 : TpR D1 R3 tp := ⟨hTp.1, fun j => by rw [show cA D1 1 = cA D 1 from c7.2 1 (by decide)]; exact hTp.2.1 j, fun j hj => by rw [c8.1.2.1 4 (by decide)]; exact hTp.2.2 j hj⟩
  have hC1 : PthC47 D1 k st ln := ⟨(c7.1 4702 (by decide)).trans hC.1, hC.2.1, fun j hj => by
    rw [show cA D1 48 = cA D 48 from c7.2 48 (by decide), show cA D1 49 = cA D 49 from c7.2 49 (by decide)]
    exact hC.2.2 j hj⟩
  refine ⟨A1, D1, R1, R2, R3, c1, c2, c3, c4, c8, ?_⟩
  rcases w_add47 (r := rmM N m V - wtM V d) hN1 hN hdd hd2 (c5.wkn (by rw [ewt]; omega)) ht ht2 hTp1 hC1 hNm hk1 with ⟨A', D', R', m', W, tk', l2, a1, a2, a3, a4, a5, a6, a7, a8, a9, a10⟩ | ⟨A', D', R', a1, a2, a3, a4, a5⟩
  · have ek : ∀ j, ir j → f1 W j 0 = if j = t then kd else f1 V j 0 := fun j hj => (a8 j hj).1.trans (w2 j hj).1
    have el : ∀ j, ir j → f1 W j 1 = if j = t then 1 else f1 V j 1 := fun j hj => (a8 j hj).2.trans (w2 j hj).2.1
    have i1 : ir 1 := ⟨Nat.le_refl _, by decide⟩
    have h1t : (1 : Nat) ≠ t := fun z => by
      rw [← z, h.2.1.2.2.2.2.2.2.1] at htk
      exact absurd htk (by decide)
    have e0 : (fun i => (0 + if i = t then (1 : Int) else 0) - (if t = i then 1 else 0)) = fun _ => (0 : Int) := by
      funext j
      by_cases c : j = t
      · rw [if_pos c, if_pos c.symm]; rfl
      · rw [if_neg c, if_neg (fun z => c z.symm)]; rfl
    have a4 : WK N B gr (rmM N m V - wtM V d) (m, V, tk) (l2 ++ ([44, homeM t] ++ [])) A' D' R' m' W tk' (fun _ => 0) := by
      rw [← e0]; exact a4
    refine Or.inl ⟨A', D', R', m', W, tk', _, _, a1, a2, ?_, a4, a5.trans c6, c7.tr a6, (c8.1.wk (by decide) (by decide)).tr a7, ?_, ?_, by rw [ek t ht, if_pos rfl], fun hL j hj h0 l0 => ?_⟩
    · rw [List.length_append]
      show l2.length + 2 ≤ 8
      omega
    · refine a4.2.1.wf2 (fun _ _ => rfl) (fun j hj kj hne => ?_) ?_ (fun e s he ke le hs => ?_)
      · rw [el j hj]
        by_cases c : j = t
        · rw [if_pos c]; decide
        · rw [if_neg c]
          rw [ek j hj, if_neg c] at kj
          exact h.2.1.2.2.2.2.2.2.2.2.1 j hj kj hne
      · rw [el 1 i1, if_neg h1t]
        exact h.2.1.l1
      · rw [el e he] at le
        rw [ek e he] at ke
        by_cases c : e = t
        · rw [if_pos c] at le
          exact absurd le (by decide)
        · rw [if_neg c] at le ke
          have hed : e ≠ d := fun z => hdl (by rw [← z]; exact le)
          rw [(a9 e he hed).1, (w2 e he).2.2.1] at hs
          rw [a10 e s he hed (by rw [(w2 e he).1, if_neg c]; exact ke) (by rw [(w2 e he).2.2.1]; exact hs), cr_sln h.2.1.s hN1 ht htk hkd he ke hs]
          exact h.2.1.2.2.2.2.2.2.2.2.2.2 e s he ke le hs
    · obtain ⟨q1, q2, q3⟩ := h.2.2.2.2.2.2.1
      refine ⟨q1, fun j hj h0 => ?_, fun x hx h0 => ⟨(q3 x hx h0).1, ?_⟩⟩
      · rw [ek j hj]
        by_cases c : j = t
        · rw [if_pos c]; omega
        · rw [if_neg c]; exact q2 j hj h0
      · have q4 := q3 x hx h0
        rw [ek _ q4.1, if_neg (fun z => by rw [z, htk] at q4; exact absurd q4.2 (by decide))]
        exact q4.2
    · rw [el j hj] at l0
      rw [ek j hj] at h0
      by_cases c : j = t
      · rw [if_pos c] at l0
        exact absurd l0 (by decide)
      · rw [if_neg c] at l0 h0
        exact hL j hj h0 l0
  · exact Or.inr ⟨A', D', R', a1, a2, a3.fq c8.1 (by decide) (by decide), c7.tr a4, a5⟩
theorem r_make {a0 : Int32} (hN1 : 61 ≤ N) (hN : N ≤ 1024) (hgr : 1 ≤ gr) (hgr2 : gr ≤ 16) (hu : u + 4200 < 2 ^ 31) (h : IM N B gr u g A D R m V tk hd hi tp tl) (hL : LH V hd hi := by assumption) : Ret N B gr (u + 100) ex (d_X11_make N B gr A D a0) (e_make R a0) := by
  obtain ⟨D1, R0, R1, c1, c2, c3, c4, h1, ot, t0, htl, -⟩ := h.tn hN
  rw [d_X11_make, bnd2_o c1, bndF_l c2, e_make, bnd2_o c3, bnd2_o c4, if_pos rfl]
  obtain ⟨D2, R2, h2, hTp, f2, ⟨p1, p2⟩ | ⟨k, st, ln, p1, p2, pC, pR, pN⟩⟩ := h1.path htl
  · rw [bnd2_o p1, bnd2_o p2, if_pos rfl, if_pos rfl]
    exact Ret.ok h2 (by omega) (by rw [f2.1.1 0 (by decide)]; exact t0) rfl rfl
  · have hk := pC.2.1
    have t2 : rS R2 0 = 0 := by rw [f2.1.1 0 (by decide)]; exact t0
    rw [bnd2_o p1, bnd2_o p2, if_neg (by decide), if_neg (nI_m1 (by omega)), pC.1]
    by_cases k0 : k = 0
    · rw [if_pos (by rw [k0]; rfl), if_pos (by rw [k0]; rfl)]
      exact Ret.ok h2 (by omega) t2 rfl rfl
    · have ek : nI k - 1 = nI (k - 1) := by
        rw [show (1 : Int32) = nI 1 from rfl, pk_sub (by omega)]
      obtain ⟨v, g', w1, w2, w3⟩ := j_ahead47 (n := k - 1) hN1 hN h2.1 h2.2.1 hTp pC pR pN (by omega)
      rw [if_neg (nI_ne0 (by omega) (by omega)), if_neg (nI_ne0 (by omega) (by omega)), ek, bnd_o w2, bnd2_o (show e_walkAhead R2 0 (nI (k - 1)) = some (v, setA R2 43 g') from w1)]
      rcases w3 with rfl | rfl | ⟨d, d1, d2, rfl⟩
      · rw [if_neg (by decide), if_neg (by decide)]
        exact Ret.ok h2.a43 (by omega) t2 rfl rfl
      · rw [if_neg (by decide), if_neg (by decide)]
        exact Ret.ok h2.a43 (by omega) t2 rfl rfl
      · have hd64 := d1.1.2
        have hz := h2.2.1.dsz d1.1
        obtain ⟨pr1, pr2⟩ := pR.a43 (x := g') (k - 1) (by omega)
        obtain ⟨g2, s1, s2⟩ := j_slotOf47 hN1 hN h2.a43.1 h2.2.1 d1.1 d2 (hTp.a43 (x := g')) pC pR.a43 pN (show k - 1 < k by omega)
        rw [Nat.zero_add] at pr1 pr2
        rw [if_pos (i_nlt (nI_nn (by omega))), if_pos (i_nlt (nI_nn (by omega))), bnd_o s1, ld_n (by omega) (by decide), ld_n (by omega) (by decide), pr1, pr2, bnd2_o s2]
        rcases sfM_o (tp := tp) (st := st (k - 1)) (ln := ln (k - 1)) h2.2.1.1 hN1 d1.1 (n := szM V d / 16) (by omega) (h2.2.1.db d1.1 d2) (szM V d / 16) 0 (by omega) with e | ⟨s2t, -, t1, e, -⟩
        · rw [e, if_pos rfl, if_pos rfl]
          have h3 := h2.a43 (x := g')
          have h4 := h3.a43 (x := g2)
          rw [setA_A] at h4 ⊢
          rw [d_X11_faultOfNew]
          rcases j_freeI (D2 := D2) hN1 hN h4.1 with ⟨q1, q2, -⟩ | ⟨t, ht, htk, q1, q2⟩
          · rw [bnd_o q1, bnd_o q2, if_pos rfl, if_pos rfl]
            exact Ret.ok h4 (by omega) t2 rfl rfl
          · have ht64 := ht.2
            obtain ⟨x1, g3, x2⟩ := j_wants (D2 := D2) hN1 hN h4.1 h4.2.2.1.2.2.2.2.2.1 h4.2.1.s d1.1 d2
            obtain ⟨y1, -⟩ := j_room (D2 := D2) hN1 hN h4.1 h4.2.2.1.2.2.2.2.2.1
            rw [bnd_o q1, bnd_o q2, if_neg (nI_m1 (by omega)), if_neg (nI_ne0 (by have := ht.1; omega) (by omega)), bnd_o x1, bnd_o y1, bnd2_o x2]
            have hw3 := wtM_le (V := V) (d := d) (by omega)
            have hrm : rmM N m V < 2 ^ 31 := by
              have := fb_up (y := V 43) N
              unfold rmM
              omega
            by_cases cr : wtM V d ≤ rmM N m V
            · rw [if_pos (nI_le cr hrm), decide_eq_false (fun z => z cr)]
              have h5 := h4.a43 (x := g3)
              rw [setA_A] at h5 ⊢
              have ot5 : OwT A (setA R2 43 g3) m V := ⟨ot.1, (ot.2.fr f2 (by decide)).fr (Fn.a (S := []) (T := [43]) (by decide)) (by decide)⟩
              have fin : ∀ kd, (kd = 1 ∨ kd = 2) → Ret N B gr (u + 100) ex (bnd3 (d_X7_create N A D2 (nI kd)) (fun v40 A40 D40 => bndF (d_X4_addName_47 N B gr A40 D40 (nI d) v40) (fun v41 A41 D41 => bndF (d_X10_finish N B gr A41 D41) (fun v42 A42 D42 => some (.inl (v40, A42, D42)))))) (bnd (e_setField (setA R2 43 g3) (nI t) 0 1 (nI kd)) (fun R10 => e_make_135 R10 (nI d) (nI (st (k - 1))) (nI (ln (k - 1))) (nI t))) := fun kd hkd => by
                obtain ⟨A1, D3, X1, X2, X3, b1, b2, b3, b4, b5, b6⟩ := w_new47 (kd := kd) hN1 hN hu h5 ot5 d1.1 d2 (by have := d1.2.2; omega) ht htk hkd q1 cr (hTp.a43 (x := g3)) pC pN (by omega)
                rw [bnd3_o b1, bnd_o b2, e_make_135, bnd_o b3, bnd_o b4]
                rcases b6 with ⟨A', D', R', m', W, tk', r, l, e1, e2, e3, e4, e5, e6, e7, e8, e9, e10⟩ | ⟨A', D', R', e1, e2, e3, e4, e5⟩
                · rw [bndF_l e1, bnd_o e2]
                  have kp : Kep D2 D' (setA R2 43 g3) R' := Kep.of e6 e7 (by decide) (by decide)
                  have hLW := e10.2 hL
                  exact w_ret hN1 hN hgr hgr2 hu e4 h5.2.2.1 h5.2.2.2.2.1 (h5.cg e4 (by omega)) e8 (h5.y42 e6) (e5.trans h5.2.2.2.2.2.2.2.2.1) (kp.hr h5.2.2.2.2.2.1) e9 (kp.fx h5.2.2.2.2.2.2.2.1 (by rw [e7.2.1 48 (by decide)]; exact h5.2.2.2.2.2.2.2.1.2.2.2.2.2.2.2)) rfl rfl
                · rw [bndF_r e1, bnd_o e2, com_off e3.1.1]
                  exact Ret.off hN1 h5 e4 e3 e5 rfl rfl
              by_cases ca : a0 = 0
              · rw [bnd_o rfl, if_pos (show (0 : Int32) ≤ 0 by decide), if_pos ca, if_pos (show bI false = 0 from rfl), if_pos ca]
                exact fin 1 (Or.inl rfl)
              · rw [bnd_o rfl, if_pos (show (0 : Int32) ≤ 0 by decide), if_neg ca, if_pos (show bI false = 0 from rfl), if_neg ca]
                exact fin 2 (Or.inr rfl)
            · rw [if_neg (nI_ge (by omega) (by omega)), decide_eq_true cr, bnd_o rfl, if_neg (show ¬ (0 : Int32) ≤ -7 by decide), if_neg (show ¬ bI true = 0 by decide)]
              exact Ret.ok h4.a43 (by omega) t2 rfl rfl
        · have z1 : ¬ nI s2t = (-1 : Int32) := nI_m1 (by omega)
          rw [e, if_neg z1, if_neg z1]
          exact Ret.ok h2.a43.a43 (by omega) t2 rfl rfl
end PXP
