/-! ===== pure: release, close ===== -/
section PXS
variable {N B gr r u : Nat} {V W : Nat → Rw} {m : M5} {tk : Nat → Bool} {A A' : MS} {D D' D2 : CfT} {R R' : RfT} {g : Bool} {hd hi hd' hi' : Nat → Nat} {tp : Nat → Int32} {tl : Nat} {ow : Nat → Int} {ex : Nat → Int32} {i d s : Nat}
theorem bndF_a {α β γ : Type} {x : Option (FR α)} {f : α → MS → CfT → Option (FR β)} {k : β → MS → CfT → Option (FR γ)} : bndF (bndF x f) k = bndF x (fun v A D => bndF (f v A D) k) := by
  cases x with
  | none => rfl
  | some y =>
    cases y with
    | inl z => rfl
    | inr z => rfl
theorem mRs_id {rs : Nat → Nat} (h : rs = m.2.2.2.2) : mRs m rs = m := by rw [h]; rfl
/-- committing nothing -/
theorem IM.com {v : Int32} (hN1 : 61 ≤ N) (hN : N ≤ 1024) (hgr2 : gr ≤ 16) (hu : u + 4200 < 2 ^ 31) (h : IM N B gr u g A D R m V tk hd hi tp tl) : ∃ R', e_committed R v = some (v, R') ∧ IM N B gr u g A D R' m V tk hd hi tp tl ∧ rS R' 0 = 0 := by
  have hon : ¬ rS R 11 = 0 := h.1.2.1.1.1.on
  have h34 : rS R 34 = bI g := h.2.2.2.2.2.2.2.1.2.2.2.2.2.2.1
  have fin : ∀ R1, e_commit R = some R1 → ¬ rS R1 11 = 0 → IM N B gr u g A D R1 m V tk hd hi tp tl → ∃ R', e_committed R v = some (v, R') ∧ IM N B gr u g A D R' m V tk hd hi tp tl ∧ rS R' 0 = 0 := fun R1 e1 o1 h1 => by
    refine ⟨setS R1 0 0, ?_, h1.thr, rS_0⟩
    rw [e_committed, bnd_o e1, e_answer, if_neg o1, ptR, if_neg (show ¬ rS (setS R1 0 0) 11 = 0 from o1)]
    rfl
  cases g with
  | true => exact fin R (by rw [e_commit, if_neg hon, if_neg (by rw [h34]; decide)]) hon h
  | false =>
    obtain ⟨n1, n2, n3, n4⟩ := h.2.2.2.2.2.2.2.2.2.1 rfl
    obtain ⟨mb1, mb2, mb3, mb4, -⟩ := h.2.2.1
    have hcnt : rsC (isS (chQ N m V tk)) 1 N = 0 := Nat.le_zero.mp (chQ_cnt (l := []) (fun b b1 b2 hc => absurd hc (h.ng rfl b b1 b2)))
    have hmm : cmM N B gr m V tk = m := by
      unfold cmM cmQ
      rw [if_pos hcnt, if_pos hcnt]
      refine mRs_id (funext (fun b => ?_))
      unfold r20
      exact if_neg (n4 b)
    obtain ⟨R1, e1, o1⟩ := y_commit hN1 hN h.1.2 mb1 mb3 hgr2 (by omega) h34 (by unfold Phi at mb2; omega)
    rcases o1 with ⟨-, y2, f2, -⟩ | ⟨q, -⟩
    · rw [hmm, ← show tk = fun _ => false from funext n3] at y2
      have kp : Kep D D R R1 := Kep.of Dt.rf f2 (by decide) (by decide)
      exact fin R1 e1 y2.1.1.1.on ⟨⟨h.1.1, y2⟩, h.2.1, h.2.2.1, (fun z => by cases z), h.2.2.2.2.1, kp.hr h.2.2.2.2.2.1, h.2.2.2.2.2.2.1, kp.fx h.2.2.2.2.2.2.2.1 (by rw [f2.2.1 48 (by decide)]; exact h.2.2.2.2.2.2.2.1.2.2.2.2.2.2.2), h.2.2.2.2.2.2.2.2.1, h.2.2.2.2.2.2.2.2.2⟩
    · exact absurd hcnt q.1
theorem j_lost (hN1 : 61 ≤ N) (hN : N ≤ 1024) (h : JX N B gr A D R m V tk) (hi : ir i) : d_X7_isLost N (vA A) D2 (nI i) = some (bI (decide (f1 V i 0 ≠ 0 ∧ f1 V i 1 = 0))) ∧ e_isLost R (nI i) = some (bI (decide (f1 V i 0 ≠ 0 ∧ f1 V i 1 = 0))) := by
  obtain ⟨k1, k2⟩ := j_kind (D2 := D2) hN1 hN h hi
  have h0 := f1_lt V i 0
  have h1 := f1_lt V i 1
  have l1 : d_X7_links N (vA A) D2 (nI i) = some (nI (f1 V i 1)) := by rw [d_links hi.1 hi.2 hN1 hN, (f1_ag (a := 1) hN1 h.1.agu h.2.2.2 hi.2).1]
  have l2 : e_field R (nI i) 1 1 = some (nI (f1 V i 1)) := by
    have q := z_f1 (a := 1) h.2.1.1.lk hi.1 hi.2 (by decide)
    rw [(f1_ag (a := 1) hN1 h.2.agu h.2.2.2 hi.2).1] at q
    exact q
  rw [d_X7_isLost, e_isLost, bnd_o k1, bnd_o k2]
  by_cases c : f1 V i 0 = 0
  · rw [if_pos (show nI (f1 V i 0) = 0 by rw [c]; rfl), if_pos (show nI (f1 V i 0) = 0 by rw [c]; rfl), decide_eq_false (fun z => z.1 c)]
    exact ⟨rfl, rfl⟩
  · have z0 : ¬ nI (f1 V i 0) = 0 := nI_ne0 (by omega) (by omega)
    rw [if_neg z0, if_neg z0, bnd_o l1, bnd_o l2]
    by_cases c1 : f1 V i 1 = 0
    · rw [if_pos (show nI (f1 V i 1) = 0 by rw [c1]; rfl), decide_eq_true ⟨c, c1⟩]
      exact ⟨rfl, rfl⟩
    · have z1 : ¬ nI (f1 V i 1) = 0 := nI_ne0 (by omega) (by omega)
      rw [if_neg z1, decide_eq_false (fun z => c1 z.2)]
      exact ⟨rfl, rfl⟩
/-- a lost inode goes -/
theorem w_gone (hN1 : 61 ≤ N) (hN : N ≤ 1024) (hu : u + 4200 < 2 ^ 31) (h : IM N B gr u g A D R m V tk hd hi tp tl) (ot : OwT A R m V) (hir : ir i) (hl : f1 V i 0 ≠ 0 ∧ f1 V i 1 = 0) (htm : tmM hd hi i = 0) : ∃ A' D' R' m' W tk', d_X7_goes N A D (nI i) = some (A', D') ∧ e_removeInode R (nI i) = some R' ∧ WK N B gr (rmM N m V) (m, V, tk) ([43, 44, homeM i] ++ []) A' D' R' m' W tk' (fun j => if j = i then 0 else 0) ∧ gA A' = gA A ∧ Dt D D' ∧ Fn [33] [30, 31, 32, 35, 36, 43] R R' ∧ WF N W ∧ HdW W hd hi ∧ (∀ j, ir j → j ≠ i → f1 W j 0 = f1 V j 0 ∧ f1 W j 1 = f1 V j 1) ∧ f1 W i 0 = 0 := by
  have q := h.2.1.2.2.2.2.2.2.2.1 i hir
  have hi1 : i ≠ 1 := fun z => by rw [if_pos z] at q; omega
  rw [if_neg hi1] at q
  have hem : f1 V i 0 = 2 → ∀ s, s < szM V i / 16 → sln V i s = 0 := fun z s hs => h.2.1.2.2.2.2.2.2.2.2.2.2 i s hir z hl.2 hs
  obtain ⟨A', D', R', m', W, tk', a1, a2, a3, a4, a5, a6, a7, a8, -, a10, a11⟩ := w_goes hN1 hN (h.wk hN1 hu ot) hir hi1 (by omega) hem
  have i1 : ir 1 := ⟨Nat.le_refl _, by decide⟩
  refine ⟨A', D', R', m', W, tk', a1, a2, a3, a4, a5, a6, ?_, ?_, fun j hj hne => ⟨(a7 j hj hne).1, (a7 j hj hne).2.1⟩, a10⟩
  · refine a3.2.1.wf2 (fun j hj => by show (if j = i then (0 : Int) else 0) = 0; split <;> rfl) (fun j hj kj hne => ?_) ?_ (fun e s' he ke le hs' => ?_)
    · by_cases c : j = i
      · rw [c, a11]; decide
      · rw [(a7 j hj c).1] at kj
        rw [(a7 j hj c).2.1]
        exact h.2.1.2.2.2.2.2.2.2.2.1 j hj kj hne
    · rw [(a7 1 i1 (fun z => hi1 z.symm)).2.1]
      exact h.2.1.l1
    · by_cases c : e = i
      · rw [c, a10] at ke
        exact absurd ke (by decide)
      · rw [(a7 e he c).1] at ke
        rw [(a7 e he c).2.1] at le
        rw [(a7 e he c).2.2.1] at hs'
        rw [a8 e s' he c ke hs']
        exact h.2.1.2.2.2.2.2.2.2.2.2.2 e s' he ke le hs'
  · obtain ⟨q1, q2, q3⟩ := h.2.2.2.2.2.2.1
    unfold tmM at htm
    refine ⟨q1, fun j hj h0 => ?_, fun x hx h0 => ⟨(q3 x hx h0).1, ?_⟩⟩
    · have c : j ≠ i := fun z => by rw [z] at h0; omega
      rw [(a7 j hj c).1]
      exact q2 j hj h0
    · have c : hi x ≠ i := rsC_0 (f := hi) (v := i) 32 (by omega) hx
      rw [(a7 _ (q3 x hx h0).1 c).1]
      exact (q3 x hx h0).2
theorem r_release {a0 : Int32} (hN1 : 61 ≤ N) (hN : N ≤ 1024) (hgr : 1 ≤ gr) (hgr2 : gr ≤ 16) (hu : u + 4200 < 2 ^ 31) (h : IM N B gr u g A D R m V tk hd hi tp tl) (hL : LH V hd hi := by assumption) : Ret N B gr (u + 100) ex (d_X11_release N B gr A D a0) (e_release R a0) := by
  obtain ⟨n1, R1, n2, h1, ot, t0, -, -⟩ := h.nm hN
  rw [d_X11_release, bndF_l n1, e_release, bnd2_o n2, i00]
  rcases i_rng a0 with ⟨i, hir, rfl⟩ | hx
  · obtain ⟨k1, k2⟩ := j_kind (D2 := D) hN1 hN h1.1 hir
    have hlt := f1_lt V i 0
    have hi65 : i < 65 := by have := hir.2; omega
    obtain ⟨g1, g2, g3⟩ := h1.2.2.2.2.2.1.1 i hi65
    rw [bnd_o k1, bnd_o k2]
    by_cases c : f1 V i 0 = 0
    · rw [if_pos (show nI (f1 V i 0) = 0 by rw [c]; rfl), if_pos (show nI (f1 V i 0) = 0 by rw [c]; rfl)]
      exact Ret.ok h1 (by omega) t0 rfl rfl
    · have z0 : ¬ nI (f1 V i 0) = 0 := nI_ne0 (by omega) (by omega)
      rw [if_neg z0, if_neg z0, ld_n (g := cA D 33) hi65 (by decide), ld_n (g := rA R1 52) hi65 (by decide), g1, g2]
      by_cases cc : hd i = 0
      · rw [if_pos (show nI (hd i) = 0 by rw [cc]; rfl), if_pos (show nI (hd i) = 0 by rw [cc]; rfl)]
        exact Ret.ok h1 (by omega) t0 rfl rfl
      · have z1 : ¬ nI (hd i) = 0 := nI_ne0 (by omega) (by omega)
        have em : nI (hd i) - 1 = nI (hd i - 1) := by rw [show (1 : Int32) = nI 1 from rfl, pk_sub (by omega)]
        have h2 := h1.hold (x := hd i - 1) hir c (by omega)
        have t2 : rS (setA R1 52 (upd (rA R1 52) i (nI (hd i - 1)))) 0 = 0 := t0
        have ot2 : OwT A (setA R1 52 (upd (rA R1 52) i (nI (hd i - 1)))) m V := ⟨ot.1, ot.2.fr (Fn.a (S := []) (T := [52]) (by decide)) (by decide)⟩
        obtain ⟨l1, l2⟩ := j_lost (D2 := sA D 33 (upd (cA D 33) i (nI (hd i - 1)))) hN1 hN h2.1 hir
        have m1 := d_tm (N := N) (W := vA A) h2.2.2.2.2.2.1 hi65
        have m2 := e_tm h2.2.2.2.2.2.1 hi65
        have hle : tmM (upN hd i (hd i - 1)) hi i < 2 ^ 31 := by
          have := rsC_le (rs := hi) (v := i) 32
          unfold tmM
          rw [upN_s]
          omega
        rw [if_neg z1, if_neg z1, ld_n (g := cA D 33) hi65 (by decide), g1, ld_n (g := rA R1 52) hi65 (by decide), g2, em, stA_n hi65 (by decide), st_n hi65 (by decide), ld_n hi65 (by decide), cA_e, pk_us, d_X11_goIfForsaken, bnd_o l1, bnd_o m2, ld_n hi65 (by decide), rA_e, pk_us, bnd_o l2]
        by_cases ct : tmM (upN hd i (hd i - 1)) hi i = 0
        · rw [decide_eq_false (p := tmM (upN hd i (hd i - 1)) hi i ≠ 0) (fun z => z ct), if_pos (show bI false = 0 from rfl)]
          by_cases cl : f1 V i 0 ≠ 0 ∧ f1 V i 1 = 0
          · obtain ⟨A', D', R', m', W, tk', a1, a2, a3, a4, a5, a6, a7, a8, a9, a10⟩ := w_gone hN1 hN hu h2 ot2 hir cl ct
            have e0 : nI (hd i - 1) = 0 := by
              unfold tmM at ct
              rw [upN_s] at ct
              rw [show hd i - 1 = 0 by omega]
              rfl
            rw [decide_eq_true cl, if_neg (show ¬ bI true = 0 by decide), if_neg (show ¬ bI true = 0 by decide), bnd_o m1, ct, nI_0, i00, bnd2_o a1, bnd_o a2, bndF_a, e0]
            have hLW : LH W (upN hd i (hd i - 1)) hi := fun j hj h0 l0 => by
              have cj : j ≠ i := fun z => h0 (by rw [z]; exact a10)
              rw [(a9 j hj cj).1] at h0
              rw [(a9 j hj cj).2] at l0
              have := hL j hj h0 l0
              unfold tmM at this ⊢
              rw [upN_n cj]
              exact this
            exact h2.fin hN1 hN hgr hgr2 hu a3 a4 a5 a6.1 (by decide) (by decide) a7 a8 (by show 3 ≤ 40; decide) rfl rfl
          · rw [decide_eq_false cl, if_pos (show bI false = 0 from rfl), if_pos (show bI false = 0 from rfl)]
            have hL2 : LH V (upN hd i (hd i - 1)) hi := fun j hj h0 l0 => by
              have cj : j ≠ i := fun z => cl (by rw [← z]; exact ⟨h0, l0⟩)
              have := hL j hj h0 l0
              unfold tmM at this ⊢
              rw [upN_n cj]
              exact this
            exact Ret.ok h2 (by omega) t2 rfl rfl
        · rw [decide_eq_true (p := tmM (upN hd i (hd i - 1)) hi i ≠ 0) ct, if_neg (show ¬ bI true = 0 by decide), bnd_o m1]
          have zt : ¬ nI (tmM (upN hd i (hd i - 1)) hi i) = 0 := nI_ne0 (by omega) hle
          have hL2 : LH V (upN hd i (hd i - 1)) hi := fun j hj h0 l0 => by
            by_cases cj : j = i
            · rw [cj]; exact ct
            · have := hL j hj h0 l0
              unfold tmM at this ⊢
              rw [upN_n cj]
              exact this
          by_cases cl : f1 V i 0 ≠ 0 ∧ f1 V i 1 = 0
          · rw [decide_eq_true cl, if_neg (show ¬ bI true = 0 by decide), if_neg zt]
            exact Ret.ok h2 (by omega) t2 rfl rfl
          · rw [decide_eq_false cl, if_pos (show bI false = 0 from rfl)]
            exact Ret.ok h2 (by omega) t2 rfl rfl
  · obtain ⟨k1, k2⟩ := j_kind0 (N := N) (A := A) (D2 := D) (R := R1) hx
    rw [bnd_o k1, bnd_o k2, i00, i00]
    exact Ret.ok h1 (by omega) t0 rfl rfl
theorem rs_gr {f : Nat → Nat} {v k : Nat} (hv : v ≠ f k) (hv0 : v ≠ 0) : ∀ n, rsC (upN f k 0) v n = rsC f v n
  | 0 => rfl
  | n + 1 => by
    show rsC (upN f k 0) v n + (if upN f k 0 n = v then 1 else 0) = rsC f v n + (if f n = v then 1 else 0)
    rw [rs_gr hv hv0 n]
    by_cases c : n = k
    · rw [c, upN_s, if_neg (fun z => hv0 z.symm), if_neg (fun z => hv z.symm)]
    · rw [upN_n c]
theorem tm_gr {j k : Nat} (hj0 : ir j) (hj : j ≠ hi k) (h : tmM hd hi j ≠ 0) : tmM hd (upN hi k 0) j ≠ 0 := by
  unfold tmM at h ⊢
  rw [rs_gr hj (by have := hj0.1; omega)]
  exact h
theorem IM.grip0 {k : Nat} (h : IM N B gr u g A D R m V tk hd hi tp tl) : IM N B gr u g A (sA D 34 (upd (cA D 34) k 0)) (setA R 53 (upd (rA R 53) k 0)) m V tk hd (upN hi k 0) tp tl := h.ho rfl (fun k hk => cA_n (fun z => hk (by rw [z]; decide))) (Fn.a (by decide)) (h.2.2.2.2.2.1.grip (x := 0) rfl) (by
  obtain ⟨w1, w2, w3⟩ := h.2.2.2.2.2.2.1
  refine ⟨w1, w2, fun x hx h0 => ?_⟩
  by_cases c : x = k
  · rw [c, upN_s] at h0
    exact absurd rfl h0
  · rw [upN_n c] at h0 ⊢
    exact w3 x hx h0)
theorem r_close {a0 : Int32} (hN1 : 61 ≤ N) (hN : N ≤ 1024) (hgr : 1 ≤ gr) (hgr2 : gr ≤ 16) (hu : u + 4200 < 2 ^ 31) (h : IM N B gr u g A D R m V tk hd hi tp tl) (hL : LH V hd hi := by assumption) : Ret N B gr (u + 100) ex (d_X11_close N B gr A D a0) (e_close R a0) := by
  obtain ⟨n1, R1, n2, h1, ot, t0, -, -⟩ := h.nm hN
  rw [d_X11_close, bndF_l n1, e_close, bnd2_o n2, i00]
  rcases j_hnd (N := N) (W := vA A) h1.2.2.2.2.2.1 a0 with ⟨k, hk, rfl, h0, k1, k2⟩ | ⟨k1, k2⟩
  · obtain ⟨g1, g2, g5⟩ := h1.2.2.2.2.2.1.2.1 k hk
    obtain ⟨w1, w2⟩ := h1.2.2.2.2.2.2.1.2.2 k hk h0
    have h2 := h1.grip0 (k := k)
    have hi65 : hi k < 65 := by have := w1.2; omega
    have ot2 : OwT A (setA R1 53 (upd (rA R1 53) k 0)) m V := ⟨ot.1, ot.2.fr (Fn.a (S := []) (T := [53]) (by decide)) (by decide)⟩
    obtain ⟨l1, l2⟩ := j_lost (D2 := sA D 34 (upd (cA D 34) k 0)) hN1 hN h2.1 w1
    have m1 := d_tm (N := N) (W := vA A) h2.2.2.2.2.2.1 hi65
    have m2 := e_tm h2.2.2.2.2.2.1 hi65
    have hle : tmM hd (upN hi k 0) (hi k) < 2 ^ 31 := by
      have := rsC_le (rs := upN hi k 0) (v := hi k) 32
      have := (h1.2.2.2.2.2.1.1 (hi k) hi65).2.2
      unfold tmM
      omega
    obtain ⟨R3, y1, y2, y3⟩ := h2.com (v := 0) hN1 hN hgr2 hu
    rw [bnd_o k1, bnd_o k2, i10, i10, ld_n (g := cA D 34) hk (by decide), ld_n (g := rA R1 53) hk (by decide), g1, g2, stA_n hk (by decide), st_n hk (by decide), d_X11_goIfForsaken, bnd_o l1, bnd_o l2]
    by_cases cl : f1 V (hi k) 0 ≠ 0 ∧ f1 V (hi k) 1 = 0
    · rw [decide_eq_true cl, if_neg (show ¬ bI true = 0 by decide), if_neg (show ¬ bI true = 0 by decide), bnd_o m1, bnd_o m2]
      by_cases ct : tmM hd (upN hi k 0) (hi k) = 0
      · obtain ⟨A', D', R', m', W, tk', a1, a2, a3, a4, a5, a6, a7, a8, a9, a10⟩ := w_gone hN1 hN hu h2 ot2 w1 cl ct
        rw [decide_eq_false (fun z => z ct), if_pos (show bI false = 0 from rfl), ct, nI_0, i00, bnd2_o a1, bnd_o a2, bndF_a]
        have hLW : LH W hd (upN hi k 0) := fun j hj h0 l0 => by
          have cj : j ≠ hi k := fun z => h0 (by rw [z]; exact a10)
          rw [(a9 j hj cj).1] at h0
          rw [(a9 j hj cj).2] at l0
          exact tm_gr hj cj (hL j hj h0 l0)
        exact h2.fin hN1 hN hgr hgr2 hu a3 a4 a5 a6.1 (by decide) (by decide) a7 a8 (by show 3 ≤ 40; decide) rfl rfl
      · have hL2 : LH V hd (upN hi k 0) := fun j hj h0 l0 => by
          by_cases cj : j = hi k
          · rw [cj]; exact ct
          · exact tm_gr hj cj (hL j hj h0 l0)
        rw [decide_eq_true ct, if_neg (show ¬ bI true = 0 by decide), if_neg (nI_ne0 (by omega) hle), bnd2_o y1]
        exact Ret.ok y2 (by omega) y3 rfl rfl
    · have hL2 : LH V hd (upN hi k 0) := fun j hj h0 l0 => tm_gr hj (fun z => cl (by rw [← z]; exact ⟨h0, l0⟩)) (hL j hj h0 l0)
      rw [decide_eq_false cl, if_pos (show bI false = 0 from rfl), if_pos (show bI false = 0 from rfl), bnd2_o y1]
      exact Ret.ok y2 (by omega) y3 rfl rfl
  · rw [bnd_o k1, bnd_o k2, i00, i00]
    exact Ret.ok h1 (by omega) t0 rfl rfl
end PXS
