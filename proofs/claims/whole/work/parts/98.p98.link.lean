/-! ===== pure: link ===== -/
section PXY
variable {N B gr r u : Nat} {V W : Nat → Rw} {m m' : M5} {tk : Nat → Bool} {A A' : MS} {D D' D2 : CfT} {R R' : RfT} {g : Bool} {hd hi : Nat → Nat} {tp : Nat → Int32} {tl : Nat} {ex : Nat → Int32} {i d : Nat}
theorem HdW.same (h : HdW V hd hi) (hk : ∀ j, ir j → f1 W j 0 = f1 V j 0) : HdW W hd hi := h.keep hk
/-- one name more for a file -/
theorem w_link {t k : Nat} {st ln : Nat → Nat} (hN1 : 61 ≤ N) (hN : N ≤ 1024) (hu : u + 4200 < 2 ^ 31) (h : IM N B gr u g A D R m V tk hd hi tp tl) (ot : OwT A R m V) (hdd : Fnd V d) (hk : f1 V d 0 = 2) (ht : ir t) (htk : f1 V t 0 = 1) (hl : f1 V t 1 < 255) (hrm : wtM V d ≤ rmM N m V) (hTp : TpR D R tp) (hC : PthC50 D k st ln) (hNm : NmS tp k st ln) (hk1 : 1 ≤ k) : ∃ A1 D1 R1, d_X7_setLinks N A D (nI t) (nI (f1 V t 1 + 1)) = some (A1, D1) ∧ e_setField R (nI t) 1 1 (nI (f1 V t 1 + 1)) = some R1 ∧ Fn [33] [30, 31, 32, 36, 43] R R1 ∧ ((∃ A' D' R' m' W tk' r l, d_X4_addName_50 N B gr A1 D1 (nI d) (nI t) = some (.inl ((), A', D')) ∧ e_addName R1 (nI d) (nI (st (k - 1))) (nI (ln (k - 1))) (nI t) = some R' ∧ l.length ≤ 8 ∧ WK N B gr r (m, V, tk) l A' D' R' m' W tk' (fun _ => 0) ∧ gA A' = gA A ∧ Dt D D' ∧ Fq hS hT R R' ∧ WF N W ∧ HdW W hd hi ∧ (LH V hd hi → LH W hd hi)) ∨ (∃ A' D' R', d_X4_addName_50 N B gr A1 D1 (nI d) (nI t) = some (.inr (0, A', D')) ∧ e_addName R1 (nI d) (nI (st (k - 1))) (nI (ln (k - 1))) (nI t) = some R' ∧ Dd N R A'.1 R' ∧ Dt D D' ∧ FlT N B m A' D')) := by
  obtain ⟨A1, D1, R1, c1, c2, c5, c6, c7, c8⟩ := w_links (v := f1 V t 1 + 1) hN1 hN (h.wk hN1 hu ot) ht (by omega) (by omega)
  obtain ⟨l1, l2, l3⟩ := lk_c (v := f1 V t 1 + 1) ht h.2.1.s (by omega) (by omega)
  have w1 := (h.2.1.s.links (v := f1 V t 1 + 1) ht (by omega) (by omega)).1
  generalize hV1 : fldV V t 1 1 (nI (f1 V t 1 + 1)) = V1 at c5 l1 l2 l3 w1
  have htd : t ≠ d := fun z => by rw [z] at htk; omega
  have hd2 : f1 V1 d 0 = 2 := by rw [(l1 d hdd.1).1]; exact hk
  have ht2 : f1 V1 t 0 ≠ 0 := by rw [(l1 t ht).1]; omega
  have ewt : wtM V1 d = wtM V d := wtM_cg h.2.1.s w1 hN1 hdd.1 hk hd2 (l1 d hdd.1).2.2.1 (fun s hs => l2 d s hdd.1 hk hs) (l1 d hdd.1).2.2.2
  have hTp1 : TpR D1 R1 tp := ⟨hTp.1, fun j => by rw [show cA D1 1 = cA D 1 from c7.2 1 (by decide)]; exact hTp.2.1 j, fun j hj => by rw [c8.1.2.1 4 (by decide)]; exact hTp.2.2 j hj⟩
  have hC1 : PthC50 D1 k st ln := ⟨(c7.1 5002 (by decide)).trans hC.1, hC.2.1, fun j hj => by
    rw [show cA D1 51 = cA D 51 from c7.2 51 (by decide), show cA D1 52 = cA D 52 from c7.2 52 (by decide)]
    exact hC.2.2 j hj⟩
  refine ⟨A1, D1, R1, c1, c2, c8, ?_⟩
  rcases w_add50 (r := rmM N m V - wtM V d) hN1 hN hdd.1 hd2 (c5.wkn (by rw [ewt]; omega)) ht ht2 hTp1 hC1 hNm hk1 with ⟨A', D', R', m', W, tk', l, a1, a2, a3, a4, a5, a6, a7, a8, a9, a10⟩ | ⟨A', D', R', a1, a2, a3, a4, a5⟩
  · have ek : ∀ j, ir j → f1 W j 0 = f1 V j 0 := fun j hj => (a8 j hj).1.trans (l1 j hj).1
    have el : ∀ j, ir j → f1 W j 1 = if j = t then f1 V t 1 + 1 else f1 V j 1 := fun j hj => (a8 j hj).2.trans (l1 j hj).2.1
    have i1 : ir 1 := ⟨Nat.le_refl _, by decide⟩
    have h1t : (1 : Nat) ≠ t := fun z => by
      rw [← z, h.2.1.2.2.2.2.2.2.1] at htk
      exact absurd htk (by decide)
    have e0 : (fun i => ((0 : Int) + if i = t then ((f1 V t 1 + 1 : Nat) : Int) - (f1 V t 1 : Int) else 0) - (if t = i then 1 else 0)) = fun _ => (0 : Int) := by
      funext j
      by_cases c : j = t
      · rw [if_pos c, if_pos c.symm]; omega
      · rw [if_neg c, if_neg (fun z => c z.symm)]; rfl
    have a4 : WK N B gr (rmM N m V - wtM V d) (m, V, tk) (l ++ ([homeM t] ++ [])) A' D' R' m' W tk' (fun _ => 0) := by
      rw [← e0]; exact a4
    refine Or.inl ⟨A', D', R', m', W, tk', _, _, a1, a2, ?_, a4, a5.trans c6, c7.tr a6, (c8.1.wk (by decide) (by decide)).tr a7, ?_, h.2.2.2.2.2.2.1.keep ek, fun hL j hj h0 l0 => ?_⟩
    · rw [List.length_append]
      show l.length + 1 ≤ 8
      omega
    · refine a4.2.1.wf2 (fun _ _ => rfl) (fun j hj kj hne => ?_) ?_ (fun e s he ke le hs => ?_)
      · rw [ek j hj] at kj
        rw [el j hj, if_neg (fun z => by rw [z, htk] at kj; exact absurd kj (by decide))]
        exact h.2.1.2.2.2.2.2.2.2.2.1 j hj kj hne
      · rw [el 1 i1, if_neg h1t]
        exact h.2.1.l1
      · rw [ek e he] at ke
        have het : e ≠ t := fun z => by rw [z, htk] at ke; exact absurd ke (by decide)
        rw [el e he, if_neg het] at le
        have hed : e ≠ d := fun z => by
          have := hdd.2.2
          rw [← z] at this
          omega
        rw [(a9 e he hed).1, (l1 e he).2.2.1] at hs
        rw [a10 e s he hed (by rw [(l1 e he).1]; exact ke) (by rw [(l1 e he).2.2.1]; exact hs), l2 e s he ke hs]
        exact h.2.1.2.2.2.2.2.2.2.2.2.2 e s he ke le hs
    · rw [ek j hj] at h0
      rw [el j hj] at l0
      by_cases c : j = t
      · rw [if_pos c] at l0
        omega
      · rw [if_neg c] at l0
        exact hL j hj h0 l0
  · exact Or.inr ⟨A', D', R', a1, a2, a3.fq c8.1 (by decide) (by decide), c7.tr a4, a5⟩
/-- the reference looks for a file, and a name that is not there -/
def nnE (R : RfT) (n : Int32) (K : Int32 → Int32 → Int32 → RfT → Option (Int32 × RfT)) : Option (Int32 × RfT) := bnd2 (e_twoPaths R n) (fun v59 R59 => if v59 = ((-1 : Int32)) then some ((-6 : Int32), R59) else bnd2 (e_walk R59 ((0 : Int32)) (rS R59 56)) (fun v60 R60 => if 0 ≤ v60 then bnd (e_kind R60 v60) (fun v61 => if v61 = ((2 : Int32)) then some ((-4 : Int32), R60) else if v59 = 0 then some ((-9 : Int32), R60) else bnd2 (e_walkAhead R60 ((16 : Int32)) ((v59) - ((1 : Int32)))) (fun v62 R62 => if 0 ≤ v62 then ld (rA R62 50) 32 (((15 : Int32)) + (v59)) (fun v63 => ld (rA R62 51) 32 (((15 : Int32)) + (v59)) (fun v64 => bnd2 (e_slotOf R62 v62 v63 v64) (fun v65 R65 => if v65 = ((-1 : Int32)) then K v59 v60 v62 R65 else some ((-2 : Int32), R65)))) else some (v62, R62))) else some (v60, R60)))
theorem j_newName {n : Nat} (hN1 : 61 ≤ N) (hN : N ≤ 1024) (hn : n ≤ 1024) (h : IM N B gr u g A D R m V tk hd hi tp tl) (K : Int32 → Int32 → Int32 → RfT → Option (Int32 × RfT)) : (∃ v D' R', ¬ (0 : Int32) ≤ v ∧ d_X11_fileForNewName N (vA A) D (nI n) = some (v, D') ∧ nnE R (nI n) K = some (v, R') ∧ IM N B gr u g A D' R' m V tk hd hi tp tl ∧ rS R' 0 = rS R 0) ∨ ∃ t d k st ln D' R', Fnd V t ∧ f1 V t 0 = 1 ∧ Fnd V d ∧ f1 V d 0 = 2 ∧ d_X11_fileForNewName N (vA A) D (nI n) = some (nI t, D') ∧ nnE R (nI n) K = K (nI k) (nI t) (nI d) R' ∧ IM N B gr u g A D' R' m V tk hd hi tp tl ∧ rS R' 0 = rS R 0 ∧ TpR D' R' tp ∧ PthC50 D' k st ln ∧ PthR R' 16 k st ln ∧ NmS tp k st ln ∧ 1 ≤ k ∧ (∀ P : Nat → Prop, OwR R P → OwR R' P) ∧ d_X4_walk_50 N (vA A) D' (nI (k - 1)) = some (nI d) := by
  obtain ⟨D1, R1, h1, hTp, fr1, ⟨p1, p2⟩ | ⟨k, st, ln, k2, st2, ln2, p1, p2, p56, pC, pR, pN, pC2, pR2, pN2⟩⟩ := h.two hn
  · refine Or.inl ⟨-6, D1, R1, by decide, ?_, ?_, h1, fr1.1.1 0 (by decide)⟩
    · rw [d_X11_fileForNewName, bnd2_o p1, i00]
    · rw [nnE, bnd2_o p2, im1]
  · have hk := pC.2.1
    have hk2 := pC2.2.1
    have t1 : rS R1 0 = rS R 0 := fr1.1.1 0 (by decide)
    have own : ∀ x : Nat → Int32, ∀ P : Nat → Prop, OwR R P → OwR (setA R1 43 x) P := fun x P q => (q.fr fr1 (by decide)).fr (Fn.a (S := []) (T := [43]) (by decide)) (by decide)
    rw [d_X11_fileForNewName, bnd2_o p1, i10, nnE, bnd2_o p2, if_neg (show ¬ nI k2 = (-1 : Int32) from nI_m1 (by omega)), p56, pC.1, pC2.1]
    obtain ⟨v, g', w1, w2⟩ := j_walk47 (D2 := D1) hN1 hN h1.1 h1.2.1 hTp pC pR pN (Nat.le_refl k)
    rw [bnd2_o (show e_walk R1 0 (nI k) = some (v, setA R1 43 g') from w1)]
    rcases w2 with ⟨rfl, q⟩ | ⟨rfl, q⟩ | ⟨t, q1, rfl, q2⟩
    · have n1 : ¬ (0 : Int32) ≤ -1 := by decide
      rw [bnd_o q, if_neg n1, if_neg n1]
      exact Or.inl ⟨-1, D1, _, n1, rfl, rfl, h1.a43, t1⟩
    · have n1 : ¬ (0 : Int32) ≤ -3 := by decide
      rw [bnd_o q, if_neg n1, if_neg n1]
      exact Or.inl ⟨-3, D1, _, n1, rfl, rfl, h1.a43, t1⟩
    · rw [if_pos (Or.inl rfl)] at q2
      have h2 := h1.a43 (x := g')
      have ht64 := q1.1.2
      have hf := f1_lt V t 0
      have z0 : (0 : Int32) ≤ nI t := i_nlt (nI_nn (by omega))
      obtain ⟨kk1, kk2⟩ := j_kind (D2 := D1) hN1 hN h2.1 q1.1
      rw [bnd_o q2, if_pos z0, if_pos z0, bnd_o kk1, bnd_o kk2]
      by_cases c2 : f1 V t 0 = 2
      · have e2 : nI (f1 V t 0) = (2 : Int32) := by rw [c2]; rfl
        rw [if_pos e2, if_pos e2]
        exact Or.inl ⟨-4, D1, _, by decide, rfl, rfl, h2, t1⟩
      · have e2 : ¬ nI (f1 V t 0) = (2 : Int32) := nx2 c2 (by omega)
        have hk1 : f1 V t 0 = 1 := by
          have := q1.2.1
          have := (h1.2.1.2.1 t q1.1).1
          omega
        rw [if_neg e2, if_neg e2]
        by_cases c0 : k2 = 0
        · have e0 : nI k2 = 0 := by rw [c0]; rfl
          rw [if_pos e0, if_pos e0]
          exact Or.inl ⟨-9, D1, _, by decide, rfl, rfl, h2, t1⟩
        · have e0 : ¬ nI k2 = 0 := nI_ne0 (by omega) (by omega)
          have ek : nI k2 - 1 = nI (k2 - 1) := by rw [show (1 : Int32) = nI 1 from rfl, pk_sub (by omega)]
          obtain ⟨v, g2, x1, x2, x3⟩ := j_ahead50 (D2 := D1) (n := k2 - 1) hN1 hN h2.1 h2.2.1 hTp.a43 pC2 pR2.a43 pN2 (by omega)
          rw [setA_A] at x1
          rw [if_neg e0, if_neg e0, ek, bnd_o x2, bnd2_o (show e_walkAhead (setA R1 43 g') 16 (nI (k2 - 1)) = some (v, setA R1 43 g2) from x1)]
          have h3 := h1.a43 (x := g2)
          rcases x3 with rfl | rfl | ⟨d, d1, d2, rfl⟩
          · have n1 : ¬ (0 : Int32) ≤ -1 := by decide
            rw [if_neg n1, if_neg n1]
            exact Or.inl ⟨-1, D1, _, n1, rfl, rfl, h3, t1⟩
          · have n1 : ¬ (0 : Int32) ≤ -3 := by decide
            rw [if_neg n1, if_neg n1]
            exact Or.inl ⟨-3, D1, _, n1, rfl, rfl, h3, t1⟩
          · have hd64 := d1.1.2
            have hz := h3.2.1.dsz d1.1
            have z1 : (0 : Int32) ≤ nI d := i_nlt (nI_nn (by omega))
            obtain ⟨pr1, pr2⟩ := pR2.a43 (x := g2) (k2 - 1) (by omega)
            have e15 : (15 : Int32) + nI k2 = nI (16 + (k2 - 1)) := by
              rw [show (15 : Int32) = nI 15 from rfl, nI_add, show 15 + k2 = 16 + (k2 - 1) by omega]
            obtain ⟨g3, s1, s2⟩ := j_slotOf50 (D2 := D1) hN1 hN h3.1 h3.2.1 d1.1 d2 hTp.a43 pC2 pR2.a43 pN2 (show k2 - 1 < k2 by omega)
            rw [setA_A] at s2
            rw [if_pos z1, if_pos z1, bnd_o s1, e15, ld_n (show 16 + (k2 - 1) < 32 by omega) (by decide), ld_n (show 16 + (k2 - 1) < 32 by omega) (by decide), pr1, pr2, bnd2_o s2]
            have h4 := h1.a43 (x := g3)
            rcases sfM_o (tp := tp) (st := st2 (k2 - 1)) (ln := ln2 (k2 - 1)) h3.2.1.1 hN1 d1.1 (n := szM V d / 16) (by omega) (h3.2.1.db d1.1 d2) (szM V d / 16) 0 (by omega) with e | ⟨s, -, s3, e, -⟩
            · rw [e, im1, im1]
              exact Or.inr ⟨t, d, k2, st2, ln2, D1, setA R1 43 g3, q1, hk1, d1, d2, rfl, rfl, h4, t1, hTp.a43, pC2, pR2.a43, pN2, by omega, own g3, x2⟩
            · have n1 : ¬ nI s = (-1 : Int32) := nI_m1 (by omega)
              rw [e, if_neg n1, if_neg n1]
              exact Or.inl ⟨-2, D1, _, by decide, rfl, rfl, h4, t1⟩
theorem r_link (hN1 : 61 ≤ N) (hN : N ≤ 1024) (hgr : 1 ≤ gr) (hgr2 : gr ≤ 16) (hu : u + 4200 < 2 ^ 31) (h : IM N B gr u g A D R m V tk hd hi tp tl) (hL : LH V hd hi := by assumption) : Ret N B gr (u + 100) ex (d_X11_link N B gr A D) (e_link R) := by
  obtain ⟨D1, R0, R1, c1, c2, c3, c4, h1, ot, t0, htl, -⟩ := h.tn hN
  rw [d_X11_link, bnd2_o c1, bndF_l c2, e_link, bnd2_o c3, bnd2_o c4, i00]
  have key := j_newName hN1 hN htl h1 (fun v59 v60 v62 R65 => bnd (e_field R65 v60 ((1 : Int32)) ((1 : Int32))) (fun v66 => if v66 = ((255 : Int32)) then some ((-9 : Int32), R65) else bnd2 (e_hasNoRoom R65 v62) (fun v67 R67 => if v67 = 0 then bnd (e_setField R67 v60 ((1 : Int32)) ((1 : Int32)) ((v66) + ((1 : Int32)))) (fun R68 => ld (rA R68 50) 32 (((15 : Int32)) + (v59)) (fun v69 => ld (rA R68 51) 32 (((15 : Int32)) + (v59)) (fun v70 => bnd (e_addName R68 v62 v69 v70 v60) (fun R71 => bnd2 (e_committed R71 ((v66) + ((1 : Int32)))) (fun v72 R72 => some (v72, R72)))))) else some ((-7 : Int32), R67))))
  rcases key with ⟨v, D2, R2, k1, k2, k3, k4, k5⟩ | ⟨t, d, k, st, ln, D2, R2, q1, q2, d1, d2, k2, k3, h2, k5, hTp, pC, pR, pN, hk1, own, x2⟩
  · rw [bnd2_o k2, if_neg k1]
    refine Ret.ok k4 (by omega) (k5.trans t0) rfl k3
  · have k3' := k3
    unfold nnE at k3'
    rw [bnd2_o k2]
    refine Eq.mpr (congrArg (Ret N B gr (u + 100) ex _) k3') ?_
    have hk := pC.2.1
    have hz := h2.2.1.dsz d1.1
    have ht64 := q1.1.2
    have hd64 := d1.1.2
    have hl := f1_lt V t 1
    have z0 : (0 : Int32) ≤ nI t := i_nlt (nI_nn (by omega))
    have l1 : d_X7_links N (vA A) D2 (nI t) = some (nI (f1 V t 1)) := by rw [d_links q1.1.1 q1.1.2 hN1 hN, (f1_ag (a := 1) hN1 h2.1.1.agu h2.1.2.2.2 q1.1.2).1]
    have l2 : e_field R2 (nI t) 1 1 = some (nI (f1 V t 1)) := by
      have q := z_f1 (R := R2) (a := 1) h2.1.2.1.1.lk q1.1.1 q1.1.2 (by decide)
      rw [(f1_ag (a := 1) hN1 h2.1.2.agu h2.1.2.2.2 q1.1.2).1] at q
      exact q
    rw [if_pos z0, bnd_o l1, bnd_o l2]
    by_cases c255 : f1 V t 1 = 255
    · rw [if_neg (show ¬ nI (f1 V t 1) < (255 : Int32) by rw [c255]; decide), if_pos (show nI (f1 V t 1) = (255 : Int32) by rw [c255]; rfl)]
      exact Ret.ok h2 (by omega) (k5.trans t0) rfl rfl
    · have ek : nI k - 1 = nI (k - 1) := by rw [show (1 : Int32) = nI 1 from rfl, pk_sub (by omega)]
      obtain ⟨x1, g3, x3⟩ := j_wants (D2 := D2) hN1 hN h2.1 h2.2.2.1.2.2.2.2.2.1 h2.2.1.s d1.1 d2
      obtain ⟨y1, -⟩ := j_room (D2 := D2) hN1 hN h2.1 h2.2.2.1.2.2.2.2.2.1
      rw [if_pos (show nI (f1 V t 1) < (255 : Int32) from nI_lt (b := 255) (by omega) (by decide)), if_neg (show ¬ nI (f1 V t 1) = (255 : Int32) from fun z => c255 (nI_inj (b := 255) (by omega) (by decide) z)), pC.1, ek, bnd_o x2, bnd_o x1, bnd_o y1, bnd2_o x3]
      have hw3 := wtM_le (V := V) (d := d) (by omega)
      have hrm : rmM N m V < 2 ^ 31 := by
        have := fb_up (y := V 43) N
        unfold rmM
        omega
      by_cases cr : wtM V d ≤ rmM N m V
      · have h3 := h2.a43 (x := g3)
        have ot3 : OwT A (setA R2 43 g3) m V := ⟨ot.1, (own _ ot.2).fr (Fn.a (S := []) (T := [43]) (by decide)) (by decide)⟩
        obtain ⟨A1, D3, X1, b1, b2, b3, b4⟩ := w_link hN1 hN hu h3 ot3 d1 d2 q1.1 q2 (by omega) cr hTp.a43 pC pN hk1
        have e15 : (15 : Int32) + nI k = nI (16 + (k - 1)) := by
          rw [show (15 : Int32) = nI 15 from rfl, nI_add, show 15 + k = 16 + (k - 1) by omega]
        obtain ⟨pr1, pr2⟩ := pR (k - 1) (by omega)
        have r50 : rA X1 50 (16 + (k - 1)) = nI (st (k - 1)) := by rw [b3.1.2.1 50 (by decide)]; exact pr1
        have r51 : rA X1 51 (16 + (k - 1)) = nI (ln (k - 1)) := by rw [b3.1.2.1 51 (by decide)]; exact pr2
        rw [if_pos (nI_le cr hrm), decide_eq_false (fun z => z cr), if_pos (show bI false = 0 from rfl), nI_1, bnd2_o b1, bnd_o b2, e15, ld_n (show 16 + (k - 1) < 32 by omega) (by decide), ld_n (show 16 + (k - 1) < 32 by omega) (by decide), r50, r51]
        rcases b4 with ⟨A', D', R', m', W, tk', r, l, e1, e2, e3, e4, e5, e6, e7, e8, e9, e10⟩ | ⟨A', D', R', e1, e2, e3, e4, e5⟩
        · rw [bndF_l e1, bnd_o e2]
          have hLW := e10 hL
          exact h3.fin hN1 hN hgr hgr2 hu e4 e5 e6 e7 (by decide) (by decide) e8 e9 (by omega) rfl rfl
        · rw [bndF_r e1, bnd_o e2, com_off e3.1.1]
          exact Ret.off hN1 h3 e4 e3 e5 rfl rfl
      · rw [if_neg (nI_ge (by omega) (by omega)), decide_eq_true cr, if_neg (show ¬ bI true = 0 by decide)]
        exact Ret.ok h2.a43 (by omega) (k5.trans t0) rfl rfl
end PXY
