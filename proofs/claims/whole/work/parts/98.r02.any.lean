/-! ===== pure: calls that any state takes ===== -/
section PZT
variable {N B gr u : Nat} {A A' : MS} {C D D' : CfT} {R R' : RfT} {o h h' : Hw} {g : Bool} {m m' : M5} {V : Nat → Rw} {tk : Nat → Bool} {hd hi : Nat → Nat} {tp : Nat → Int32} {tl : Nat}
/-- an answer, a row that was read: no more -/
theorem Mtd.fr (h : Mtd N B gr u A D R) (f : Fn [0, 42] [43] R R') : Mtd N B gr u A D R' := by
  obtain ⟨g, m, V, tk, hd, hi, tp, tl, im, hL⟩ := h
  exact ⟨g, m, V, tk, hd, hi, tp, tl, im.fr rfl rfl f (by decide) (by decide) (Kep.of Dt.rf f.1 (by decide) (by decide)) (by decide) rfl, hL⟩
theorem RN.fr (h : RN N B gr o R) (f : Fn [0, 42] [43] R R') : RN N B gr o R' := by
  obtain ⟨h1, h2, h3, h4, h5, h6, h7⟩ := h
  exact ⟨h1.fn f (by decide) (by decide), h2.fq f.1 (by decide) (by decide) (by decide) (by decide) (by decide), h3.fq f.1 (by decide) (by decide) (by decide) (by decide) (by decide), by rw [f.1.1 1 (by decide)]; exact h4, by rw [f.1.1 3 (by decide)]; exact h5, by rw [f.1.1 21 (by decide)]; exact h6, by rw [f.1.1 34 (by decide)]; exact h7⟩
theorem Und.fr (h : Und N B gr u A D R) (f : Fn [0, 42] [43] R R') : Und N B gr u A D R' := by
  obtain ⟨h1, h2, h3, h4⟩ := h
  exact ⟨h1.fr f (by decide) (by decide), h2, h3.fr f, h4⟩
theorem Offd.fr (h : Offd N B gr u A D R) (f : Fn [0, 42] [43] R R') : Offd N B gr u A D R' := by
  obtain ⟨h1, h2, h3, h4⟩ := h.n
  exact Offd.of (h1.fr f (by decide) (by decide)) ((h2.of f.1 f.2.1 (by decide) (by decide)).self) (h3.fr f (by decide) (by decide) (by decide)) h4
/-- the tape is another one -/
theorem IM.tpe {x y tp' : Nat → Int32} {v : Nat} (h : IM N B gr u g A D R m V tk hd hi tp tl) (t : TpR (sS (sA D 1 x) 1 (nI v)) (setS (setA (setS R 0 0) 4 y) 5 (nI v)) tp') (hv : v ≤ 1024) : IM N B gr u g A (sS (sA D 1 x) 1 (nI v)) (setS (setA (setS R 0 0) 4 y) 5 (nI v)) m V tk hd hi tp' v := by
  obtain ⟨a1, a2, a3, a4, a5, a6, a7, ⟨b1, b2, b3, b4, b5, b6, b7, b8⟩, a9, a10, a11, a12⟩ := h
  have f : Fn [0, 5] [4] R (setS (setA (setS R 0 0) 4 y) 5 (nI v)) := ((Fn.s (by decide)).tr (Fn.a (by decide))).tr (Fn.s (by decide))
  exact ⟨⟨a1.1.dd (show cS (sS (sA D 1 x) 1 (nI v)) 2508 = cS D 2508 from rfl) (show cA (sS (sA D 1 x) 1 (nI v)) 29 = cA D 29 from rfl), a1.2.fr f (by decide) (by decide)⟩, a2, a3, fun z => ⟨(a4 z).1, (a4 z).2.fr f (by decide)⟩, a5, a6, a7, ⟨t, pk_us (f := D.1) (k := 1), pk_us (f := (setA (setS R 0 0) 4 y).1) (k := 5), hv, b5, b6, b7, b8⟩, a9, a10, a11, a12⟩
theorem Mtd.tpe {x y tp' : Nat → Int32} {v : Nat} (h : Mtd N B gr u A D R) (t : TpR (sS (sA D 1 x) 1 (nI v)) (setS (setA (setS R 0 0) 4 y) 5 (nI v)) tp') (hv : v ≤ 1024) : Mtd N B gr u A (sS (sA D 1 x) 1 (nI v)) (setS (setA (setS R 0 0) 4 y) 5 (nI v)) := by
  obtain ⟨g, m, V, tk, hd, hi, tp, tl, im, hL⟩ := h
  exact ⟨g, m, V, tk, hd, hi, tp', v, im.tpe t hv, hL⟩
theorem OffT.tpe {x y tp' : Nat → Int32} {v : Nat} (h : OffT D R) (t : TpR (sS (sA D 1 x) 1 (nI v)) (setS (setA (setS R 0 0) 4 y) 5 (nI v)) tp') (hv : v ≤ 1024) : OffT (sS (sA D 1 x) 1 (nI v)) (setS (setA (setS R 0 0) 4 y) 5 (nI v)) := by
  obtain ⟨tp, tl, -, a2, a3, a4, a5, a6⟩ := h
  exact ⟨tp', v, t, pk_us (f := D.1) (k := 1), pk_us (f := (setA (setS R 0 0) 4 y).1) (k := 5), hv, a5, a6⟩
theorem SfT.tpe {x : Nat → Int32} {v : Int32} (h : SfT N u A D) : SfT N u A (sS (sA D 1 x) 1 v) := ⟨h.1, h.2.dd (show cS (sS (sA D 1 x) 1 v) 2508 = cS D 2508 from rfl) (show cA (sS (sA D 1 x) 1 v) 29 = cA D 29 from rfl)⟩
theorem Und.tpe {x y tp' : Nat → Int32} {v : Nat} (h : Und N B gr u A D R) (t : TpR (sS (sA D 1 x) 1 (nI v)) (setS (setA (setS R 0 0) 4 y) 5 (nI v)) tp') (hv : v ≤ 1024) : Und N B gr u A (sS (sA D 1 x) 1 (nI v)) (setS (setA (setS R 0 0) 4 y) 5 (nI v)) := by
  obtain ⟨h1, h2, ⟨h3, h4, h5, h6⟩, h7, h8⟩ := h
  have f : Fn [0, 5] [4] R (setS (setA (setS R 0 0) 4 y) 5 (nI v)) := ((Fn.s (by decide)).tr (Fn.a (by decide))).tr (Fn.s (by decide))
  exact ⟨h1.tpe t hv, h2, ⟨h3.fn f (by decide) (by decide), h4.fq f.1 (by decide) (by decide) (by decide) (by decide) (by decide), h5.fq f.1 (by decide) (by decide) (by decide) (by decide) (by decide), h6⟩, h7, h8.tpe⟩
theorem Dd.tpe {y : Nat → Int32} {v : Int32} (h : Dd N R o R) : Dd N (setS (setA (setS R 0 0) 4 y) 5 v) o (setS (setA (setS R 0 0) 4 y) 5 v) := by
  obtain ⟨⟨a1, a2, a3, a5, a6, a7, a8, a9, a10, a11, a12⟩, h2, h3⟩ := h
  exact ⟨⟨a1, a2, a3, a5, a6, a7, a8, a9, a10, fun _ _ => rfl, rfl⟩, h2, h3⟩
theorem Offd.tpe {x y tp' : Nat → Int32} {v : Nat} (h : Offd N B gr u A D R) (t : TpR (sS (sA D 1 x) 1 (nI v)) (setS (setA (setS R 0 0) 4 y) 5 (nI v)) tp') (hv : v ≤ 1024) : Offd N B gr u A (sS (sA D 1 x) 1 (nI v)) (setS (setA (setS R 0 0) 4 y) 5 (nI v)) := by
  obtain ⟨h1, h2, h3, h4⟩ := h.n
  exact Offd.of (h1.tpe t hv) h2.tpe h3 h4.tpe
theorem Mtd.of (h : Mtd N B gr u A D R) : OffT D R := by
  obtain ⟨g, m, V, tk, hd, hi, tp, tl, im, hL⟩ := h
  obtain ⟨b1, b2, b3, b4, b5, -⟩ := im.2.2.2.2.2.2.2.1
  exact ⟨tp, tl, b1, b2, b3, b4, im.2.2.2.2.2.2.2.2.2.2.2, b5.2⟩
/-- the reference's disk -/
def Hx (N : Nat) (hw : Hw) (R : RfT) : Prop := ∃ wf w, RDk N hw.1 R wf w ∧ (rS R 9 = nI wf ∧ wf < 256 ∧ rS R 10 = nI w ∧ w ≤ 256) ∧ Byt (rA R 6) ∧ Byt (rA R 8) ∧ (∀ t, t < 1024 → rA R 40 t = -1 ∨ ∃ u, u < 256 ∧ rA R 40 t = nI u) ∧ rS R 1 = nI N
theorem RH.hx (hr : RH N B h R) (h1 : rS R 1 = nI N) : Hx N h R := by
  obtain ⟨wf, w, a1, a2, a3, -⟩ := hr
  exact ⟨wf, w, a1, a3.1, a3.2.2.2.1.1, a3.2.2.2.1.2.1, a3.2.2.1, h1⟩
theorem Mtd.hx (h : Mtd N B gr u A D R) : Hx N A.1 R := by
  obtain ⟨g, m, V, tk, hd, hi, tp, tl, im, hL⟩ := h
  have e : A.1 = m.1 := by rw [← im.1.1.1]; rfl
  rw [e]
  exact im.1.2.1.1.1.hx im.1.2.1.1.2.2.2.2.2.2.1
theorem Und.hx (h : Und N B gr u A D R) : Hx N A.1 R := h.2.2.1.1.hx h.2.2.1.2.2.2.1
theorem Offd.hx (h : Offd N B gr u A D R) : Hx N A.1 R := by
  obtain ⟨h1, ⟨-, ⟨wf, w, b1, b2, -⟩, B', ⟨wf', w', hd', n', c1, c2⟩, -⟩, h3, h4⟩ := h.n
  exact ⟨wf, w, b1, b2, c1.2.2.2.1.1, c1.2.2.2.1.2.1, c1.2.2.1, h3.1⟩
theorem rWo_cnt {bo : Nat → Int32} {va : Nat → Nat → Int32} {a t : Nat} (ht : t < 1024) : ∀ n, (∀ i, i < n → ∃ u, u < 1024 ∧ bo ((a + i) % 256) = nI u) → wCnt (rgL bo va a n) t = rWo bo a t n
  | 0, _ => rfl
  | n + 1, h => by
    have ih := rWo_cnt (va := va) (a := a) ht n (fun i hi => h i (by omega))
    obtain ⟨v, v1, v2⟩ := h n (by omega)
    rw [rgL_succ, wCnt_app, ih]
    show rWo bo a t n + (if (bo ((a + n) % 256)).toNatClampNeg = t then 1 else 0) = _
    rw [v2, nI_clamp (by omega)]
    by_cases c : v = t
    · rw [if_pos c, rWo_y (by rw [v2, c])]
    · rw [if_neg c, Nat.add_zero, rWo_n (fun z => c (nI_inj (by omega) (by omega) (v2.symm.trans z)))]
/-- the power is told -/
def hwP (h : Hw) (x : Int32) : Hw := (h.1, h.2.1, x, h.2.2.2)
theorem RH.pow {x : Int32} (hr : RH N B h R) : RH N B (hwP h x) (setS R 12 x) := by
  obtain ⟨wf, w, h1, h2, h3, h4, h5, h6, h7, h8, h9⟩ := hr
  exact ⟨wf, w, h1.same rfl rfl rfl rfl, h2, h3, h4, h5, pk_us (f := R.1) (k := 12), h7, h8, h9⟩
theorem HwS.pow {x : Int32} : HwS N B h (hwP h x) := ⟨fun _ => rfl, fun _ _ q => q, rfl, fun q => q, fun _ _ q => q⟩
theorem IM.mdl2 (hN1 : 61 ≤ N) (h : IM N B gr u g A D R m V tk hd hi tp tl) (hj : JX N B gr A' D R' m' V tk) (hbef : ∀ b, 43 ≤ b → b < N → befM m' b = befM m b) (h2 : ∀ b, m'.2.2.2.2 b = 2 ↔ m.2.2.2.2 b = 2) {u' : Nat} (hb : MB N B gr u' m') (eo : oA A' = oA A) (ek : kA A' = kA A) (eg : gA A' = gA A) {S T : List Nat} (f : Fq S T R R') (hS : ∀ j, j ∈ [5, 21, 34] → j ∉ S) (hT : ∀ k, k ∈ [4, 36, 48, 52, 53, 54, 55] → k ∉ T) : IM N B gr u' g A' D R' m' V tk hd hi tp tl := by
  obtain ⟨a1, a2, a3, a4, a5, a6, a7, a8, a9, a10⟩ := h
  have kp : Kep D D R R' := Kep.of Dt.rf f hS (fun k hk => hT k (by revert hk; revert k; decide))
  have hbw : WF N (befM m) := a3.2.2.2.2.2.2.1.bef
  have hok : ∀ b, OkP m V b → OkP m' V b := fun b hb => hb.imp id (fun z => z.imp id (fun z => (h2 b).mpr z))
  refine ⟨hj, a2, hb, fun zz => ⟨fun b hb => ?_, ((a4 zz).2.wk hok).fq f (hT 36 (by decide))⟩, ⟨fun b hb => ?_, fun b hb => ?_, fun _ h => h, Mr.rf⟩, kp.hr a6, a7, kp.fx a8 (by rw [f.2.1 48 (hT 48 (by decide))]; exact a8.2.2.2.2.2.2.2), eg.trans a9, fun z => ?_, fun b hb => a10.2.1 b (by rw [← eo]; exact hb), a10.2.2⟩
  · rw [eo] at hb
    exact hok b ((a4 zz).1 b hb)
  · exact (a5.1 b ((isT_dep hbw.1 hN1 hbef).mp hb)).imp id (fun z => (h2 b).mpr z)
  · exact (a5.2.1 b hb).imp id (fun z => ⟨(isT_dep hbw.1 hN1 hbef).mpr z.1, fun y => by cases y⟩)
  · obtain ⟨n1, n2, n3, n4⟩ := a10.1 z
    exact ⟨⟨fun b => by rw [eo]; exact n1.1 b, fun b => by rw [ek]; exact n1.2 b⟩, fun b b1 b2 => by rw [n2 b b1 b2, hbef b b1 b2], n3, fun b q => n4 b ((h2 b).mp q)⟩
theorem IM.hs2 (hN1 : 61 ≤ N) (hN : N ≤ 1024) (h : IM N B gr u g A D R m V tk hd hi tp tl) (a : HwS N B m.1 h') (hr : RH N B h' R') (f : Fq [9, 10, 12, 13, 14, 18, 20] [6, 7, 8, 15, 17, 39, 40] R R') : IM N B gr u g (h', A.2) D R' (h', m.2) V tk hd hi tp tl := by
  obtain ⟨a1, a2⟩ := h.1
  obtain ⟨⟨⟨h1, h2, h3, h4, h5, h6, h7, h8⟩, hv⟩, r2, r3⟩ := id a2
  have eb := a.befM
  have cx : CX N (h', A.2) D (h', m.2) V tk := a1.mdl (by
    show (h', (mA A).2) = _
    rw [a1.1]) rfl rfl (fun b _ _ => by rw [eb]) rfl
  have hx : RMw N B gr R' (h', m.2) := ⟨hr, h2.fq f (by decide) (by decide) (by decide) (by decide) (by decide), h3.fq f (by decide) (by decide) (by decide) (by decide) (by decide), h4.fq f (by decide), h5.fq f (by decide) (by decide) (by decide) (by decide) (by decide), by rw [f.2.1 46 (by decide)]; exact h6, by rw [f.1 1 (by decide)]; exact h7, by rw [f.1 3 (by decide)]; exact h8⟩
  obtain ⟨o1, o2⟩ := wOw_fq f (by decide) (by decide) (by decide)
  have y1 : RY N B gr R' (h', m.2) V tk := ⟨⟨hx, fun b hb0 hb => by
    rw [rSee_t, o1, o2, hx.bef hN hb, eb]
    exact a2.1.own hN hb0 hb⟩, fun c hc hne => by
      rw [o1] at hne
      exact r2 c hc hne, r3⟩
  exact h.mdl2 hN1 ⟨cx, y1⟩ (fun b _ _ => by rw [eb]) (fun b => Iff.rfl) (a.mb h.2.2.1) rfl rfl rfl f (by decide) (by decide)
theorem Mtd.pow {x : Int32} (hN1 : 61 ≤ N) (hN : N ≤ 1024) (h : Mtd N B gr u A D R) : Mtd N B gr u (hwP A.1 x, A.2) D (setS R 12 x) := by
  obtain ⟨g, m, V, tk, hd, hi, tp, tl, im, hL⟩ := h
  have e : A.1 = m.1 := by rw [← im.1.1.1]; rfl
  rw [e]
  exact ⟨g, (hwP m.1 x, m.2), V, tk, hd, hi, tp, tl, im.hs2 hN1 hN HwS.pow im.1.2.1.1.1.pow (Fq.s (by decide)), hL⟩
theorem RN.pow {x : Int32} (h : RN N B gr o R) : RN N B gr (hwP o x) (setS R 12 x) := by
  obtain ⟨h1, h2, h3, h4⟩ := h
  have f : Fq [12] [] R (setS R 12 x) := Fq.s (by decide)
  exact ⟨h1.pow, h2.fq f (by decide) (by decide) (by decide) (by decide) (by decide), h3.fq f (by decide) (by decide) (by decide) (by decide) (by decide), h4⟩
theorem Und.pow {x : Int32} (h : Und N B gr u A D R) : Und N B gr u (hwP A.1 x, A.2) D (setS R 12 x) := by
  obtain ⟨h1, h2, h3, h4, h5⟩ := h
  exact ⟨h1.fr (S := [12]) (T := []) (Fn.s (by decide)) (by decide) (by decide), h2, h3.pow, h4, h5⟩
/-- the power fails between calls -/
theorem dd_crash (hN : N ≤ 1024) (hr : RH N B h R) (hk : WkO N R) : Dd N (setS R 0 0) h (rFl (setS R 0 0) (nK (setS R 0 0))) := by
  have f : Fn [0] [] R (setS R 0 0) := Fn.s (by decide)
  have hr1 : RH N B h (setS R 0 0) := hr.fn f (by decide) (by decide)
  have hk1 : WkO N (setS R 0 0) := hk.fq f.1 (by decide) (by decide) (by decide) (by decide) (by decide)
  refine FlF.dd (B := B) hk1 ?_ ⟨setS R 0 0, rfl, HwF.rf⟩ (RH.fails _ hr1)
  obtain ⟨wf', w', hd', n', x1, x2⟩ := hr1.ok hk1 hN
  exact ⟨wf', w', 0, 0, rFl_ok x1, rFl_wk⟩
theorem off_crash (hN : N ≤ 1024) (ho : OffT D R) (hr : RH N B A.1 R) (hk : WkO N R) (kc : KC N B gr R) (s : SfT N u A D) : Offd N B gr u A D (rFl (setS R 0 0) (nK (setS R 0 0))) := by
  have d := dd_crash hN hr hk
  refine ⟨?_, ⟨setS R 0 0, d, kc⟩, s⟩
  obtain ⟨tp, tl, ⟨t1, t2, t3⟩, a2, a3, a4, a5, a6⟩ := ho
  exact ⟨tp, tl, ⟨t1, t2, fun j hj => by rw [d.1.2.2.2.2.2.2.2.2.2.2]; exact t3 j hj⟩, a2, by rw [d.1.2.2.2.2.2.2.2.2.2.1 5 (by decide)]; exact a3, a4, a5, a6⟩
theorem Mtd.crash (hN1 : 61 ≤ N) (hN : N ≤ 1024) (h : Mtd N B gr u A D R) : Offd N B gr u A D (rFl (setS R 0 0) (nK (setS R 0 0))) := by
  have ho := h.of
  obtain ⟨g, m, V, tk, hd, hi, tp, tl, im, hL⟩ := h
  have e : A.1 = m.1 := by rw [← im.1.1.1]; rfl
  have mb := im.2.2.1
  refine off_crash hN ho (by rw [e]; exact im.1.2.1.1.1) im.1.2.1.1.2.2.2.2.1 im.1.2.kc ⟨⟨?_, ?_⟩, im.1.1.tj⟩
  · rw [e]
    exact mb.2.2.2.2.2.2.1.safe hN1 mb.1 im.1.2.1.1.2.1.lgn
  · have q := mb.2.1
    unfold Phi at q
    rw [e]
    omega
theorem RN.kc (h : RN N B gr o R) : KC N B gr R := by
  obtain ⟨wf, w, d⟩ := h.1.db
  exact ⟨h.2.2.2.1, d.2.2.2.2.1.1, h.2.2.2.2.1⟩
theorem Und.crash (hN : N ≤ 1024) (h : Und N B gr u A D R) : Offd N B gr u A D (rFl (setS R 0 0) (nK (setS R 0 0))) := off_crash hN h.1 h.2.2.1.1 h.2.2.1.2.1 h.2.2.1.kc h.2.2.2.2
/-- the class, likewise -/
theorem HwR.pow {x : Int32} {on : Int32} (c : HwR N B on h C) : HwR N B on (hwP h x) (sS C 209 x) := by
  obtain ⟨c1, ⟨d1, d2, d3, d4, d5, d6, d7, d8⟩, c3⟩ := c
  exact ⟨c1, ⟨d1, d2, d3, d4, d5, (pk_us (f := C.1) (k := 209)).symm, d7, d8⟩, c3⟩
theorem HwR.dark {on : Int32} (c : HwR N B on h C) : HwR N B 0 (hFl h) (sS (sS C 208 0) 209 (-1)) := by
  obtain ⟨c1, ⟨d1, d2, d3, d4, d5, d6, d7, d8⟩, c3⟩ := c
  exact ⟨c1, ⟨d1, d2, d3, d4, d5, (pk_us (f := (sS C 208 0).1) (k := 209)).symm, d7, d8⟩, rfl⟩
theorem AR.pow {x : Int32} (a : AR N B gr A C) : AR N B gr (hwP A.1 x, A.2) (sS C 209 x) := by
  obtain ⟨a1, a2, a3, a4, a5, a6, a7, a8, a9⟩ := a
  exact ⟨a1.pow, a2, a3, a4, a5, a6, a7, a8, a9⟩
theorem AU.pow {x : Int32} (a : AU N B gr A C) : AU N B gr (hwP A.1 x, A.2) (sS C 209 x) := by
  obtain ⟨a1, a2⟩ := a
  exact ⟨a1.pow, a2⟩
theorem AR.dark (a : AR N B gr A C) : AX N B gr A (sS (sS C 208 0) 209 (-1)) := by
  obtain ⟨a1, a2, a3, a4, a5, a6, a7, a8, a9⟩ := a
  exact ⟨a1.dark, a3.2.2.2.2.2, a6, a7, a8, a9⟩
theorem AU.dark (a : AU N B gr A C) : AX N B gr A (sS (sS C 208 0) 209 (-1)) := by
  obtain ⟨a1, a2, a3, a4⟩ := a
  exact ⟨a1.dark, a3, a4⟩
end PZT
