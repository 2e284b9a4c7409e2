/-! ===== pure: undo ===== -/
section PYN
variable {N B gr r u : Nat} {V W : Nat → Rw} {m m' : M5} {tk tk' : Nat → Bool} {A A' : MS} {D D' D2 : CfT} {R R' : RfT} {g : Bool} {hd hi hd' hi' : Nat → Nat} {tp : Nat → Int32} {tl : Nat} {ow : Nat → Int} {ex : Nat → Int32} {s0 : S3} {l : List Nat} {i k t : Nat}
theorem r20_ne {rs : Nat → Nat} {b : Nat} : r20 rs b ≠ 2 := by
  unfold r20
  split
  · decide
  · assumption
theorem IM.drop (hN1 : 61 ≤ N) (hN : N ≤ 1024) (h : IM N B gr u true A D R m V tk hd hi tp tl) : ∃ A1 D1 R1, d_X11_dropGroup N A D = some (A1, D1) ∧ e_backOut R = bnd (e_allLostGo R1) (fun R200 => some R200) ∧ IM N B gr u false A1 D1 R1 (mRs m (r20 m.2.2.2.2)) (befM m) (fun _ => false) (hdV (befM m) hd 65) (hiV (befM m) hi 65) tp tl ∧ rS R1 0 = rS R 0 ∧ OwT A1 R1 (mRs m (r20 m.2.2.2.2)) (befM m) := by
  obtain ⟨a1, a2, ⟨b1, b2, b3, b4, b5, b6, b7, b8⟩, a4, a5, a6, a7, a8, a9, a10⟩ := h
  have hW : WF N (befM m) := b7.bef
  -- the class
  obtain ⟨A2, D2, e2, m2, g2, n2, t2, d2⟩ := c_disown hN a1.1.2.1 a1.1.2.2.2.2.1
  have em : mA (aGp (aRs A2 (fun b => if A2.2.2.2.2.1 b = 2 then 0 else A2.2.2.2.2.1 b)) false) = mRs m (r20 m.2.2.2.2) := by
    show mRs (mA A2) (r20 (mA A2).2.2.2.2) = _
    rw [m2, a1.1.1]
  have hu0 : ∀ b, b < N → btM (befM m 43) b = 1 → r20 m.2.2.2.2 b = 0 := fun b hb hu => by
    have q := b8.2 b hu
    have q3 := b5 b hb
    unfold r20
    split
    · rfl
    · omega
  have cx : CX N (aGp (aRs A2 (fun b => if A2.2.2.2.2.1 b = 2 then 0 else A2.2.2.2.2.1 b)) false) D2 (mRs m (r20 m.2.2.2.2)) (befM m) (fun _ => false) := CX.clean em n2 d2 hW.1.1 (fun b hb0 hb => rfl) (fun b hb hu => hu0 b hb hu)
  -- the reference
  obtain ⟨R2, z1, z2, z3, z4⟩ := z_noWorks hN a1.2.1
  have f3 : Fn [34] [] R2 (setS R2 34 0) := Fn.s (by decide)
  have own0 : ∀ c, c < 1024 → wOw R2 c = none := fun c hc => Classical.byContradiction (fun hne => by
    obtain ⟨n, m1, m2, m3, m4, m5, m6⟩ := id z2.1.wk
    unfold wOw at hne
    by_cases q : rA R2 36 c = -1
    · rw [if_pos q] at hne
      exact hne rfl
    · rcases m4 c hc with w | ⟨k, k1, k2⟩
      · exact q w
      · rw [z4] at m2
        have := nI_inj (a := 0) (b := n) (by decide) (by omega) m2
        omega)
  have y2 : RY N B gr R2 m (befM m) (fun _ => false) := ⟨z2, fun c hc hne => absurd (own0 c hc) hne, hW.1.1⟩
  have y3 : RY N B gr (setS R2 34 0) m (befM m) (fun _ => false) := y2.fr f3 (by decide) (by decide)
  have rr : RRs (setS R2 34 0) m.2.2.2.2 := y3.1.1.2.2.2.1
  obtain ⟨g5, q1, q2⟩ := bo_11 (R := setS R2 34 0) (rs := m.2.2.2.2) (fun b hb => (rr b hb).2) fuL 0 (rA (setS R2 34 0) 35) (by decide) (by rw [fuL_4]; omega) (fun b hb => by rw [(rr b hb).1, if_neg (Nat.not_lt_zero _)])
  rw [setA_id, nI_0] at q1
  have f4 : Fn [] [35] (setS R2 34 0) (setA (setS R2 34 0) 35 g5) := Fn.a (by decide)
  have hr20 : ∀ b, r20 m.2.2.2.2 b < 3 ∨ 1024 ≤ b := fun b => by
    by_cases hb : b < 1024
    · refine Or.inl ?_
      have := (rr b hb).2
      unfold r20
      split
      · decide
      · exact this
    · exact Or.inr (by omega)
  have y4 : RY N B gr (setA (setS R2 34 0) 35 g5) (mRs m (r20 m.2.2.2.2)) (befM m) (fun _ => false) := by
    refine ⟨⟨y3.1.1.rs (fun b hb => ⟨q2 b hb, (hr20 b).resolve_right (by omega)⟩), fun c c1 c2 => ?_⟩, fun c hc hne => ?_, hW.1.1⟩
    · rw [rSee_fq f4.1 (by decide), (wOw_fq f4.1 (by decide) (by decide) (by decide)).2]
      exact y3.1.2 c c1 c2
    · rw [(wOw_fq f4.1 (by decide) (by decide) (by decide)).1] at hne
      exact y3.2.1 c hc hne
  have jx : JX N B gr (aGp (aRs A2 (fun b => if A2.2.2.2.2.1 b = 2 then 0 else A2.2.2.2.2.1 b)) false) D2 (setA (setS R2 34 0) 35 g5) (mRs m (r20 m.2.2.2.2)) (befM m) (fun _ => false) := ⟨cx, y4⟩
  -- who holds
  have k35 : ∀ k, k ∈ [4, 48, 52, 53, 54, 55] → rA (setA (setS R2 34 0) 35 g5) k = rA R k := fun k hk => by
    rw [f4.1.2.1 k (by revert hk; revert k; decide), f3.1.2.1 k (List.not_mem_nil), z3.1.2.1 k (by revert hk; revert k; decide)]
  obtain ⟨h1, h2, h3⟩ := a6
  obtain ⟨g53, v1, v2⟩ := bo_52 (hi := hi) hN1 hN jx (fun k hk => (h2 k hk).2.2) fuL 0 (rA (setA (setS R2 34 0) 35 g5) 53) (by decide) (by rw [fuL_4]; omega) (fun b hb => by rw [k35 53 (by decide), (h2 b hb).2.1, if_neg (Nat.not_lt_zero _)])
  rw [setA_id, nI_0] at v1
  have f5 : Fn [] [53] (setA (setS R2 34 0) 35 g5) (setA (setA (setS R2 34 0) 35 g5) 53 g53) := Fn.a (by decide)
  have jx5 : JX N B gr (aGp (aRs A2 (fun b => if A2.2.2.2.2.1 b = 2 then 0 else A2.2.2.2.2.1 b)) false) D2 (setA (setA (setS R2 34 0) 35 g5) 53 g53) (mRs m (r20 m.2.2.2.2)) (befM m) (fun _ => false) := ⟨cx, y4.fr f5 (by decide) (by decide)⟩
  obtain ⟨g52, w1, w2⟩ := bo_96 (hd := hd) hN1 hN jx5 (fun k hk => (h1 k hk).2.2) fuL 1 (rA (setA (setA (setS R2 34 0) 35 g5) 53 g53) 52) (by decide) (by decide) (by rw [fuL_4]; omega) (fun b hb => by
    rw [rA_n (by decide), k35 52 (by decide), (h1 b hb).2.1]
    unfold hdV
    rw [if_neg (by omega)])
  rw [setA_id, show nI 1 = 1 from rfl] at w1
  have f6 : Fn [] [52] (setA (setA (setS R2 34 0) 35 g5) 53 g53) (setA (setA (setA (setS R2 34 0) 35 g5) 53 g53) 52 g52) := Fn.a (by decide)
  have hi1 : ∀ b, (if 1 ≤ hi b then hiV (befM m) hi 65 b else hi b) = hiV (befM m) hi 65 b := fun b => by
    split
    · rfl
    · next z =>
      have e : hi b = 0 := by omega
      unfold hiV
      rw [e]
      split <;> rfl
  obtain ⟨D1, x1, x2, x3, x4⟩ := dg_17 (hd := hd) hN1 hN jx (fun k hk => (h2 k hk).2.2) (fun i hi => (hW.2.1 i hi).1) fuL 1 D2 (by decide) (by decide) (by rw [fuL_4]; omega) (fun b hb => by
    rw [show cA D2 33 = cA D 33 from t2.2 33 (by decide), (h1 b hb).1]
    unfold hdV
    rw [if_neg (by omega)]) (fun b hb => by
    rw [show cA D2 34 = cA D 34 from t2.2 34 (by decide), (h2 b hb).1]
    congr 1
    by_cases c1 : 1 ≤ hi b
    · rw [if_pos c1]
      unfold hiV
      rw [if_neg (by omega)]
    · rw [if_neg c1])
  rw [show nI 1 = 1 from rfl] at x1
  have kF : ∀ k, k ∈ [4, 48, 54, 55] → rA (setA (setA (setA (setS R2 34 0) 35 g5) 53 g53) 52 g52) k = rA R k := fun k hk => by
    rw [f6.1.2.1 k (by revert hk; revert k; decide), f5.1.2.1 k (by revert hk; revert k; decide), k35 k (by revert hk; revert k; decide)]
  refine ⟨_, D1, setA (setA (setA (setS R2 34 0) 35 g5) 53 g53) 52 g52, ?_, ?_, ⟨⟨cx.dd (by show D1.1 2508 = D2.1 2508; rw [x2.1]) (x2.2 29 (by decide) (by decide)), (y4.fr f5 (by decide) (by decide)).fr f6 (by decide) (by decide)⟩, hW, ?_, (fun z => by cases z), St.of_eq hN1 hW (fun _ _ _ => rfl), ⟨fun k hk => ?_, fun k hk => ?_, fun k hk => ?_⟩, ⟨?_, fun i hi h0 => ?_, fun k hk h0 => ?_⟩, ?_, rfl, fun _ => ⟨n2, fun _ _ _ => rfl, fun _ => rfl, fun b => r20_ne⟩, fun b hb => absurd (n2.1 b) hb, by rw [x2.2 42 (by decide) (by decide), show cA D2 42 = cA D 42 from t2.2 42 (by decide)]; exact a10.2.2⟩, ?_, ⟨fun b hb => absurd (n2.1 b) hb, ?_⟩⟩
  · rw [d_X11_dropGroup, d_X10_discard, bnd2_o e2, d_X9_wakeForNone]
    show d_X11_dropGroup_17 N fuL (aGp (aRs A2 (fun b => if A2.2.2.2.2.1 b = 2 then 0 else A2.2.2.2.2.1 b)) false) D2 1 = _
    exact x1
  · rw [e_backOut, bnd_o z1, ptR]
    rw [q1, v1, w1]
  · refine ⟨b1, b2, b3, b4, fun b hb => ?_, fun b hb => ?_, b7.rs, fun j hj b hb => ?_, fun b hb => ?_⟩
    · have := b5 b hb
      show r20 m.2.2.2.2 b < 3
      unfold r20
      split <;> omega
    · show r20 m.2.2.2.2 b = 0
      unfold r20
      rw [b6 b hb]
      rfl
    · refine (b8.1 j hj b hb).imp id (fun z => ?_)
      show r20 m.2.2.2.2 b = 1
      unfold r20
      rw [z]
      rfl
    · have q := b8.2 b hb
      show r20 m.2.2.2.2 b ≠ 1
      unfold r20
      split
      · decide
      · exact q
  · rw [x3 k hk, rA_e, w2 k hk]
    refine ⟨rfl, rfl, ?_⟩
    have := (h1 k hk).2.2
    unfold hdV
    split <;> omega
  · rw [x4 k hk, rA_n (by decide), rA_e, v2 k hk, hi1 k]
    refine ⟨rfl, rfl, ?_⟩
    have := (h2 k hk).2.2
    unfold hiV
    split <;> omega
  · rw [x2.2 35 (by decide) (by decide), x2.2 36 (by decide) (by decide), kF 54 (by decide), kF 55 (by decide), show cA D2 35 = cA D 35 from t2.2 35 (by decide), show cA D2 36 = cA D 36 from t2.2 36 (by decide)]
    refine fun h0 => h3 k hk (fun z => h0 ?_)
    unfold hiV
    split
    · rfl
    · exact z
  · unfold hdV
    rw [if_neg (by omega)]
    exact a7.1
  · unfold hdV at h0
    by_cases q : 1 ≤ i ∧ i < 65 ∧ f1 (befM m) i 0 = 0
    · rw [if_pos q] at h0
      exact absurd rfl h0
    · exact fun z => q ⟨hi.1, by have := hi.2; omega, z⟩
  · have q2 := (h2 k hk).2.2
    unfold hiV at h0 ⊢
    by_cases q : hi k < 65 ∧ f1 (befM m) (hi k) 0 ≠ 1
    · rw [if_pos q] at h0
      exact absurd rfl h0
    · rw [if_neg q] at h0 ⊢
      exact ⟨⟨by omega, q2⟩, Classical.byContradiction (fun z => q ⟨by omega, z⟩)⟩
  · obtain ⟨⟨tp1, tp2, tp3⟩, c2, c3, c4, c5, c6, c7, c8⟩ := a8
    have sS5 : ∀ j, j ∈ [5, 21] → rS (setA (setA (setA (setS R2 34 0) 35 g5) 53 g53) 52 g52) j = rS R j := fun j hj => by
      show rS (setS R2 34 0) j = rS R j
      rw [f3.1.1 j (by revert hj; revert j; decide), z3.1.1 j (by revert hj; revert j; decide)]
    have dS : ∀ j, j ≠ 2508 → cS D1 j = cS D j := fun j hj => by
      show D1.1 j = D.1 j
      rw [x2.1]
      exact t2.1 j hj
    refine ⟨⟨tp1, fun j => ?_, fun j hj => ?_⟩, by rw [dS 1 (by decide)]; exact c2, by rw [sS5 5 (by decide)]; exact c3, c4, ⟨by rw [dS 2 (by decide)]; exact c5.1, by rw [x2.2 53 (by decide) (by decide), show cA D2 53 = cA D 53 from t2.2 53 (by decide)]; exact c5.2⟩, by rw [sS5 21 (by decide)]; exact c6, pk_us (f := R2.1) (k := 34), ?_⟩
    · rw [x2.2 1 (by decide) (by decide), show cA D2 1 = cA D 1 from t2.2 1 (by decide)]
      exact tp2 j
    · rw [kF 4 (by decide)]
      exact tp3 j hj
    · rw [kF 48 (by decide)]
      exact c8
  · show rS (setS R2 34 0) 0 = rS R 0
    rw [f3.1.1 0 (by decide), z3.1.1 0 (by decide)]
  · have o2 : OwR R2 (OkP (mRs m (r20 m.2.2.2.2)) (befM m)) := fun c hc hne => absurd (own0 c hc) hne
    exact (((o2.fr f3 (by decide)).fr f4 (by decide)).fr f5 (by decide)).fr f6 (by decide)
theorem bnd_a {α β γ : Type} {x : Option α} {f : α → Option β} {k : β → Option γ} : bnd (bnd x f) k = bnd x (fun v => bnd (f v) k) := by
  cases x with
  | none => rfl
  | some y => rfl
theorem range18 {b : Nat} (h1 : 43 ≤ b) (h2 : b < 61) : b ∈ List.range' 43 18 := by
  rw [List.mem_range'_1]
  omega
/-- the lost ones go, and the call ends -/
theorem IM.lost {v : Int32} {cl : Option (FR Int32)} {rf : Option (Int32 × RfT)} (hN1 : 61 ≤ N) (hN : N ≤ 1024) (hgr : 1 ≤ gr) (hgr2 : gr ≤ 16) (hu : u + 4200 < 2 ^ 31) (h : IM N B gr u g A D R m V tk hd hi tp tl) (ot : OwT A R m V) (e1 : cl = bndF (d_X11_commitLost N B gr A D 0) (fun _ A2 D2 => some (.inl (v, A2, D2)))) (e2 : rf = bnd (e_allLostGo R) (fun R2 => bnd2 (e_answer R2 v) (fun a b => some (a, b)))) : Ret N B gr (u + 100) ex cl rf := by
  obtain ⟨A', D', R', m', W, tk', l', a1, a2, a3, a4, a5, a6, a7, a8, a9, -, a11⟩ := lost_l (x1 := 0) (T := tmM hd hi) (D0 := D) (R0 := R) hN1 hN (fun _ i hi0 => by
    have hi65 : i < 65 := by have := hi0.2; omega
    refine ⟨?_, d_tm h.2.2.2.2.2.1 hi65⟩
    have := rsC_le (rs := hi) (v := i) 32
    have := (h.2.2.2.2.2.1.1 i hi65).2.2
    unfold tmM
    omega) (fun z => absurd rfl z) (fun i hi0 => e_tm h.2.2.2.2.2.1 (by have := hi0.2; omega)) fuL fuL 1 A D R m V tk [] (by decide) (by decide) (by rw [fuL_4]; omega) (by rw [fuL_4]; omega) (h.wk hN1 hu ot) h.2.1 (fun b hb => by cases hb) Dt.rf Fn.rf
  have kp : Kep D D' R R' := Kep.of a7 a8.1 (by decide) (by decide)
  have hw : HdW W hd hi := by
    obtain ⟨q1, q2, q3⟩ := h.2.2.2.2.2.2.1
    refine ⟨q1, fun i hi0 h0 => ?_, fun k hk h0 => ⟨(q3 k hk h0).1, ?_⟩⟩
    · rcases a9 i hi0 with q | q
      · rw [q]
        exact q2 i hi0 h0
      · unfold tmM at q
        omega
    · rcases a9 _ (q3 k hk h0).1 with q | q
      · rw [q]
        exact (q3 k hk h0).2
      · unfold tmM at q
        exact absurd rfl (rsC_0 (f := hi) (v := hi k) 32 (by omega) hk)
  have hLW : LH W hd hi := fun j hj h0 l0 => a11 j hj hj.1 h0 l0
  refine w_ret hN1 hN hgr hgr2 hu a3 h.2.2.1 h.2.2.2.2.1 (fun z => ⟨List.range' 43 18, by decide, fun b b1 b2 hc => ?_⟩) a4 (h.y42 a7) (a6.trans h.2.2.2.2.2.2.2.2.1) (kp.hr h.2.2.2.2.2.1) hw (kp.fx h.2.2.2.2.2.2.2.1 (by rw [a8.1.2.1 48 (by decide)]; exact h.2.2.2.2.2.2.2.1.2.2.2.2.2.2.2)) (v := v) ?_ ?_
  · have q := a5 b ((a3.2.2.2.2.2 b b1 b2 hc).resolve_left (h.ng z b b1 b2))
    exact range18 q.1 q.2
  · rw [e1, d_X11_commitLost, show (1 : Int32) = nI 1 from rfl, a1, bndF_a]
    rfl
  · rw [e2, e_allLostGo, show (1 : Int32) = nI 1 from rfl, a2, bnd_a, e_committed]
    cases e_commit R' with
    | none => rfl
    | some y =>
      show bnd2 (e_answer y v) _ = bnd2 (bnd2 (e_answer y v) _) _
      cases e_answer y v with
      | none => rfl
      | some z => rfl
theorem r_undo (hN1 : 61 ≤ N) (hN : N ≤ 1024) (hgr : 1 ≤ gr) (hgr2 : gr ≤ 16) (hu : u + 4200 < 2 ^ 31) (h : IM N B gr u g A D R m V tk hd hi tp tl) (hL : LH V hd hi := by assumption) : Ret N B gr (u + 100) ex (d_X11_undo N B gr A D) (e_undo R) := by
  obtain ⟨n1, R1, n2, h1, ot, t0, -, -⟩ := h.nm hN
  rw [d_X11_undo, bndF_l n1, e_undo, bnd2_o n2, i00]
  have hg := h1.2.2.2.2.2.2.2.2.1
  have h34 := h1.2.2.2.2.2.2.2.1.2.2.2.2.2.2.1
  cases g with
  | false =>
    rw [if_pos (by unfold gpI; rw [show A.2.2.2.2.2.2.2 = false from hg]; rfl), if_pos (by rw [h34]; rfl)]
    exact Ret.ok h1 (by omega) t0 rfl rfl
  | true =>
    obtain ⟨A1, D1, R2, d1, d2, h2, -, ot2⟩ := h1.drop hN1 hN
    rw [if_neg (by unfold gpI; rw [show A.2.2.2.2.2.2.2 = true from hg]; decide), if_neg (by rw [h34]; decide), bnd2_o d1, d2, bnd_a]
    exact h2.lost hN1 hN hgr hgr2 hu ot2 rfl rfl
end PYN
