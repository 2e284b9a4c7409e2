/-! ===== pure: store ===== -/
section PYY
variable {N B gr r u : Nat} {V V1 V2 W VC : Nat → Rw} {m m1 m2 m' : M5} {tk tk1 tk2 tk' : Nat → Bool} {A A1 A2 A' : MS} {D D1 D2 D' : CfT} {R R1 R2 R' : RfT} {g : Bool} {hd hi : Nat → Nat} {tp : Nat → Int32} {tl : Nat} {i p k a to s b at1 cn e : Nat} {gw : Bool} {src : Nat → Int32} {ow : Nat → Int} {s0 : S3} {l : List Nat}
theorem i64_n {n : Nat} (h : n < 2 ^ 31) : (nI n).toInt64 = Int64.ofNat n := by
  rw [← Int64.toInt_inj, Int32.toInt_toInt64, Int64.toInt_ofNat_of_lt (by omega)]
  unfold nI
  exact Int32.toInt_ofNat_of_lt h
theorem lg_400 {a c : Nat} (ha : a < 2 ^ 31) (hc : c < 2 ^ 31) : (lg_cmp ((nI a).toInt64 + (nI c).toInt64) (400000 : Int64) ≤ 0) ↔ a + c ≤ 400000 := by
  rw [i64_n ha, i64_n hc, ← Int64.ofNat_add]
  have e1 : (Int64.ofNat (a + c)).toInt = (a + c : Nat) := Int64.toInt_ofNat_of_lt (by omega)
  have e2 : (400000 : Int64).toInt = 400000 := by decide
  have d1 : ((400000 : Int64) < Int64.ofNat (a + c)) ↔ 400000 < a + c := by
    rw [Int64.lt_iff_toInt_lt, e1, e2]
    omega
  have d2 : (Int64.ofNat (a + c) = 400000) ↔ a + c = 400000 := by
    rw [← Int64.toInt_inj, e1, e2]
    omega
  unfold lg_cmp
  by_cases c1 : 400000 < a + c
  · rw [if_pos (d1.mpr c1)]
    exact ⟨fun z => absurd z (by decide), fun z => by omega⟩
  · rw [if_neg (fun z => c1 (d1.mp z))]
    refine ⟨fun _ => by omega, fun _ => ?_⟩
    split <;> decide
/-- what comes of a store: both alike, or the power failed -/
def SO (N B gr u cn : Nat) (a1 : Int32) (cl : Option (FR Int32)) (rf : Option (Int32 × RfT)) : Prop := (∃ x A' D' R', cl = some (.inl (x, A', D')) ∧ rf = some (x, R') ∧ rS R' 0 = 0 ∧ ¬ rS R' 11 = 0 ∧ Mtd N B gr u A' D' R' ∧ (x ≤ 0 ∨ (x = nI cn ∧ ∃ t, t < 2 ^ 31 ∧ a1 = nI t ∧ t + cn ≤ 400000))) ∨ (∃ A' D' R' v, cl = some (.inr (0, A', D')) ∧ rf = some (v, R') ∧ rS R' 0 = 2 ∧ rS R' 11 = 0 ∧ Offd N B gr u A' D' R')
theorem SO.ret {a1 : Int32} {ex : Nat → Int32} {cl : Option (FR Int32)} {rf : Option (Int32 × RfT)} (h : SO N B gr u cn a1 cl rf) : Ret N B gr u ex cl rf := by
  rcases h with ⟨x, A', D', R', b1, a2, a3, a4, a5, a6⟩ | ⟨A', D', R', v, b1, a2, a3, a4, a5⟩
  · exact Or.inl ⟨x, A', D', R', b1, a2, a3, a5⟩
  · exact Or.inr (Or.inl ⟨A', D', R', v, b1, a2, a3, a5⟩)
theorem IM.onr (h : IM N B gr u g A D R m V tk hd hi tp tl) : ¬ rS R 11 = 0 := h.1.2.1.1.1.on
theorem SO.ok {a1 : Int32} {u' : Nat} {x : Int32} {cl : Option (FR Int32)} {rf : Option (Int32 × RfT)} (h : IM N B gr u g A D R m V tk hd hi tp tl) (hu : u ≤ u') (h0 : rS R 0 = 0) (hx : x ≤ 0) (e1 : cl = some (.inl (x, A, D))) (e2 : rf = some (x, R)) (hL : LH V hd hi := by assumption) : SO N B gr u' cn a1 cl rf := Or.inl ⟨x, A, D, R, e1, e2, h0, h.onr, h.mtd hu hL, Or.inl hx⟩
theorem SO.off {a1 : Int32} {u' u9 : Nat} {v : Int32} {cl : Option (FR Int32)} {rf : Option (Int32 × RfT)} (h : Fx N D R g tp tl) (e1 : cS D' 1 = cS D 1) (e2 : cA D' 1 = cA D 1) (h42 : Byt (cA D' 42)) (e53 : cA D' 53 = cA D 53) (x : Dd N R A'.1 R') (s : SfT N u9 A' D') (kc : KC N B gr R) (c1 : cl = some (.inr (0, A', D'))) (c2 : rf = some (v, setS R' 0 2)) (hu9 : u9 ≤ u' := by omega) : SO N B gr u' cn a1 cl rf := Or.inr ⟨A', D', _, v, c1, c2, rS_0, x.1.1, h.offT e1 e2 h42 e53 (Dd.thr x), ⟨R, Dd.thr x, kc⟩, s.up hu9⟩
theorem c_size (hN1 : 61 ≤ N) (hN : N ≤ 1024) (h : CX N A D m V tk) (hb : btO N (V 43)) (hi : ir i) : d_X7_size N (vA A) D2 (nI i) = some (nI (szM V i)) := by
  rw [d_size hi.1 hi.2 hN1 hN]
  rw [show f4 (vA A) i 4 = szM V i from sz_ag hN1 h.agu hb hi]
/-- finish behind the data -/
theorem so_fin {a1 v : Int32} {D0 : CfT} {R0 : RfT} {cl : Option (FR Int32)} {rf : Option (Int32 × RfT)} (hN1 : 61 ≤ N) (hN : N ≤ 1024) (hgr : 1 ≤ gr) (hgr2 : gr ≤ 16) (hu : u + 4200 < 2 ^ 31) (h : WK N B gr r (m, V, tk) [] A D R m V tk (fun _ => 0)) (bs : Bs N B gr u (m, V, tk)) (hcg : g = false → ∃ l' : List Nat, l'.length ≤ 40 ∧ ∀ b, 43 ≤ b → b < N → Chg m V tk b → b ∈ l') (hV : WF N V) (h42 : Byt (cA D 42)) (hg : gA A = g) (kp : Kep D0 D R0 R) (hr : HRel D0 R0 hd hi) (hw : HdW V hd hi) (hf : Fx N D0 R0 g tp tl) (h48 : Byt (rA R 48)) (hv : v = nI cn) (ha1 : ∃ t, t < 2 ^ 31 ∧ a1 = nI t ∧ t + cn ≤ 400000) (e1 : cl = bndF (d_X10_finish N B gr A D) (fun _ A' D' => some (.inl (v, A', D')))) (e2 : rf = bnd2 (e_committed R v) (fun a b => some (a, b))) (hL : LH V hd hi := by assumption) : SO N B gr (u + 100) cn a1 cl rf := by
  rcases w_end (v := v) hN1 hN hgr hgr2 hu h bs.1 bs.2 hcg hV h42 hg (kp.hr hr) hw (kp.fx hf h48) with ⟨A', D', R', m', tk', b1, a2, a3, a4⟩ | ⟨A', D', R', b1, a2, a3, ⟨a4, a4'⟩, a5⟩
  · refine Or.inl ⟨v, A', D', R', ?_, ?_, a3, a4.onr, a4.mtd (Nat.le_refl _) hL, Or.inr ⟨hv, ha1⟩⟩
    · rw [e1, bndF_l b1]
    · rw [e2, bnd2_o a2]
  · refine Or.inr ⟨A', D', R', 0, ?_, ?_, a3, a4.1.1, (kp.fx hf h48).off h42 a5 a4, ⟨R, a4, h.1.2.kc⟩, a4'⟩
    · rw [e1, bndF_r b1]
    · rw [e2, bnd2_o a2]
theorem Gr.new {tb : Bool} {Y : Nat → Prop} {x : Nat} (hw : PW N V) (hw1 : PW N V1) (g : Gr N i tb Y V V1) (hi : ir i) (hx : x < 4234) (h0 : pv V i x = 0) (h1 : pv V1 i x ≠ 0) : btM (V 43) (pv V1 i x) = 0 := by
  obtain ⟨b1, b2, b3⟩ := (hw1.pto hi x hx).resolve_left h1
  by_cases c : btM (V 43) (pv V1 i x) = 0
  · exact c
  · exfalso
    have c1 : btM (V 43) (pv V1 i x) = 1 := by
      have := bt_lt (V 43) (pv V1 i x)
      omega
    obtain ⟨j, y, j1, j2, j3⟩ := (hw.2.2.2 _ b1 b2).mp c1
    have e := g.1 j y j1 j2 (Or.inl (by omega))
    obtain ⟨q1, q2⟩ := hw1.2.2.1 i x j y hi hx j1 j2 h1 (by rw [e]; exact j3.symm)
    rw [← q1, ← q2] at j3
    omega
theorem r_store_1 {a1 : Int32} (hN1 : 61 ≤ N) (hN : N ≤ 1024) (hgr : 1 ≤ gr) (hgr2 : gr ≤ 16) (hu : u + 9000 < 2 ^ 31) (h : IM N B gr u g A D R m V tk hd hi tp tl) (ot : OwT A R m V) (t0 : rS R 0 = 0) (t49 : ∀ c, c < 1024 → rA R 49 c = 0) (hir : ir i) (hk1 : f1 V i 0 = 1) (hcn : cn ≤ 1024) (hsrc : Byt (cA D 1)) (h59 : ∀ j, j < cn → rA R 59 j = cA D 1 j) (hL : LH V hd hi := by assumption) : SO N B gr (u + 2500) cn a1 (d_X3_store_1 N B gr A D (nI i) a1 (nI cn)) (e_writeData R (nI i) a1 (nI cn)) := by
  obtain ⟨k1, k2⟩ := j_kind (D2 := D) hN1 hN h.1 hir
  rw [d_X3_store_1, e_writeData, bnd_o k2, hk1, if_pos (show nI 1 = (1 : Int32) from rfl)]
  by_cases c1 : a1 < 0
  · rw [if_pos c1, if_pos c1]
    exact SO.ok h (by omega) t0 (by decide) rfl rfl
  rw [if_neg c1, if_neg c1]
  obtain ⟨at1, hat1, rfl⟩ := nI_of c1
  by_cases c2 : at1 + cn ≤ 400000
  rotate_left
  · have z : ¬ lg_cmp ((nI at1).toInt64 + (nI cn).toInt64) (400000 : Int64) ≤ 0 := fun z => c2 ((lg_400 hat1 (by omega)).mp z)
    rw [if_neg z, if_neg z]
    exact SO.ok h (by omega) t0 (by decide) rfl rfl
  have z := (lg_400 hat1 (show cn < 2 ^ 31 by omega)).mpr c2
  rw [if_pos z, if_pos z]
  by_cases c3 : cn = 0
  · subst c3
    rw [if_pos (show nI 0 = 0 from rfl), if_pos (show nI 0 = 0 from rfl)]
    exact SO.ok h (by omega) t0 (by decide) rfl rfl
  have z3 : ¬ nI cn = 0 := nI_ne0 (by omega) (by omega)
  have edv : (nI at1 + nI cn - 1) / 128 = nI ((at1 + cn - 1) / 128) := by
    rw [nI_add, show (1 : Int32) = nI 1 from rfl, pk_sub (by omega), q_dv _ (by omega)]
  rw [if_neg z3, if_neg z3, q_dv at1 (by omega), edv, nI_add]
  generalize hto : (at1 + cn - 1) / 128 = to
  generalize ha : at1 / 128 = a
  have hto4 : to < 4168 := by omega
  have hle : a ≤ to := by omega
  have h17 : to - a < 17 := by omega
  have hw := h.2.1.s
  have e1 := c_wanted (D2 := D) (a := a) (to := to) hN1 hN h.1.1 (hw.1.pto hir) hir hto4 (by omega)
  have e2 := z_need (a := a) (to := to) hN1 hN h.1.2 (hw.1.pto hir) hir hto4 (by omega)
  obtain ⟨r1, g3, r2⟩ := j_room (D2 := D) hN1 hN h.1 h.2.2.1.2.2.2.2.2.1
  have wle := wnF_le (V := V) (i := i) (to + 1 - a) true a
  have rle : rmM N m V ≤ N := by
    unfold rmM
    have := fb_up (y := V 43) N
    omega
  rw [bnd_o e1, bnd_o e2, bnd2_o r2]
  have h43 : IM N B gr u g A D (setA R 43 g3) m V tk hd hi tp tl := h.fr rfl rfl (Fn.a (S := []) (T := [43]) (by decide)) (by decide) (by decide) ⟨fun _ _ => rfl, fun _ _ => rfl, fun _ _ => rfl, fun k hk => rA_n (by rintro rfl; revert hk; decide)⟩ (by decide) rfl
  by_cases cw : wnF V i true a (to + 1 - a) ≤ rmM N m V
  rotate_left
  · rw [if_neg (show ¬ nI (wnF V i true a (to + 1 - a)) ≤ 0 by rw [← nI_0]; exact nI_ge (by omega) (by omega)), bnd_o r1, if_neg (nI_ge (by omega) (by omega)), if_neg (nI_ge (by omega) (by omega))]
    exact SO.ok h43 (by omega) t0 (by decide) rfl rfl
  have ecl : (if nI (wnF V i true a (to + 1 - a)) ≤ 0 then d_X3_store_1_84 N B gr fuL A D (nI i) (nI at1) (nI cn) (nI a) (nI to) (nI a) else bnd (d_X10_available N (vA A) A.2.2.2.2.1 D) (fun v9 => if nI (wnF V i true a (to + 1 - a)) ≤ v9 then d_X3_store_1_84 N B gr fuL A D (nI i) (nI at1) (nI cn) (nI a) (nI to) (nI a) else some (.inl ((-7 : Int32), A, D)))) = d_X3_store_1_84 N B gr fuL A D (nI i) (nI at1) (nI cn) (nI a) (nI to) (nI a) := by
    by_cases c : nI (wnF V i true a (to + 1 - a)) ≤ 0
    · rw [if_pos c]
    · rw [if_neg c, bnd_o r1, if_pos (nI_le cw (by omega))]
  rw [ecl, if_pos (nI_le cw (by omega))]
  have wk0 := (h.wk hN1 (by omega) ot).a43 (x := g3)
  have k2' : e_kind (setA R 43 g3) (nI i) = some (nI (f1 V i 0)) := (j_kind (D2 := D) hN1 hN wk0.1 hir).2
  have ehv : e_have (setA R 43 g3) (nI i) (nI a) (nI to) = e_have_19 fuL (setA R 43 g3) (nI i) (nI to) (bI false) (nI a) := by
    rw [e_have, bnd_o k2', hk1, if_neg (show ¬ nI 1 = (2 : Int32) by decide)]
    rfl
  rw [ehv]
  have hfu : ∃ k, fuL = (to + 1 - a) + (k + 1) := ⟨3999999 - (to + 1 - a), by rw [fuL_4]; omega⟩
  obtain ⟨kf, hfu⟩ := hfu
  have jh : JH N B gr ((rmM N m V - wnF V i true a (to + 1 - a)) + wnF V i true a (to + 1 - a)) A D (setA R 43 g3) m V tk := ⟨wk0.1, wk0.2.1.1, by
    rw [show (rmM N m V - wnF V i true a (to + 1 - a)) + wnF V i true a (to + 1 - a) = rmM N m V by omega]
    exact wk0.2.2.1⟩
  have J := j_haves_1 (at1 := at1) (cn := cn) (kc := kf) (kr := kf) hN1 hN hir hto4 h17 (to + 1 - a) a A D (setA R 43 g3) m V tk (by omega) (Nat.le_refl _) jh
  rw [← hfu] at J
  have fx := h.2.2.2.2.2.2.2.1
  rcases J with ⟨A1, D1, R1, m1, V1, tk1, j1, j2, hv, j4, j5, j6⟩ | ⟨A1, D1, R1, j1, j2, j3, j4, j5⟩
  rotate_left
  · -- the power fails as blocks are taken
    rw [j1, bnd_o j2, if_pos j3.1.1]
    have hfu2 : ∃ k, fuL = k + 1 := ⟨3999999, fuL_4⟩
    obtain ⟨k9, e9⟩ := hfu2
    refine SO.off (D := D) (R := R) fx (j4.1 1 (by decide)) (j4.2 1 (by decide) (by decide)) (by rw [show cA D1 42 = cA D 42 from j4.2 42 (by decide) (by decide)]; exact h.2.2.2.2.2.2.2.2.2.2.2) (j4.2 53 (by decide) (by decide)) (j3.fq (Fq.a (S := []) (T := [43]) (by decide)) (by decide) (by decide)) (j5.sfe hN1 h.2.2.1.2.2.2.2.2.2.1 h.2.2.1.1 h.1.2.1.1.2.1.lgn h.2.2.1.2.1) h.1.2.kc rfl (v := 0) ?_
    rw [e9, e_writeData_129, if_neg (nI_nlt hle (by omega)), if_pos j3.1.1, com_off j3.1.1]
    rfl
  rw [j1, bnd_o j2, d_X3_store_1_84, if_pos (nI_lt (by omega) (by omega)), if_neg hv.1.1.2.1.1.1.on]
  obtain ⟨gw, R2, g1, g2, s1, s2, f1', f2', fR, y1, ws, o1, o2, o3⟩ := w_hv (e := at1 + cn) hN1 hN wk0 hv hir hk1 h17 c2 hto.symm (by omega) hle
  rw [bnd_o s2]
  have eref : (if nI (at1 + cn) ≤ nI (szM V i) then e_writeData_129 fuL R1 (nI i) (nI at1) (nI cn) (nI to) (nI a) else bnd (e_setField R1 (nI i) ((4 : Int32)) ((4 : Int32)) (nI (at1 + cn))) (fun R158 => e_writeData_129 fuL R158 (nI i) (nI at1) (nI cn) (nI to) (nI a))) = e_writeData_129 fuL R2 (nI i) (nI at1) (nI cn) (nI to) (nI a) := by
    have hz1 := (hw.pz hir).1
    cases gw with
    | true => rw [if_neg (nI_ge (by have := g1 rfl; omega) (by omega)), bnd_o (f1' rfl)]
    | false => rw [if_pos (nI_le (g2 rfl) (by omega)), f2' rfl]
  rw [eref]
  have fq1 : Fq hS hT (setA R 43 g3) R1 := hv.2.2.2.2.1
  have fq2 : Fq hS hT R R2 := ((Fq.a (S := hS) (T := hT) (by decide)).tr fq1).tr (fR.1.wk (by decide) (by decide))
  have d4 := hv.2.2.2.1
  have f49 := hv.2.2.2.2.2.1
  have pw1 := hv.1.2.1
  have hgr1 := hv.2.1
  have D := w_data_1 (i := i) (at1 := at1) (cn := cn) (to := to) (a := a) (e := at1 + cn) (gw := gw) (fr := fun q => decide (pv V i (px q) = 0)) (src := cA D 1) (tk := tk1) (ow := fun _ => 0) (r := rmM N m V - wnF V i true a (to + 1 - a)) (kc := kf) (kr := kf) hN1 hN hgr hir hcn c2 (by omega) hto.symm ha.symm hsrc (to + 1 - a) a u A1 D1 R2 m1 V1 (by omega) (Nat.le_refl _) (by omega) hv.1.1.1 y1 ws.rb (ws.now hN1 h.bs) pw1 o2 (by rw [(o1 i hir).1]; exact hk1) (fun q q1 q2 => by
    have hq4 : q < 4168 := by omega
    refine ⟨j4 q q1 q2, j5 q q1 q2, ?_⟩
    obtain ⟨b1, b2, b3⟩ := (pw1.pto hir _ (px_lt hq4)).resolve_left (j4 q q1 q2)
    rw [fR.1.2.1 49 (by decide), f49 _ (by omega), rA_n (by decide), t49 _ (by omega)]
    by_cases c : pv V i (px q) = 0
    · rw [if_pos ⟨hgr1.new hw.1 pw1 hir (px_lt hq4) c (j4 q q1 q2), b3⟩, decide_eq_true c]
      rfl
    · rw [decide_eq_false c, if_neg (fun zz => by
        have e := hgr1.1 i (px q) hir (px_lt hq4) (Or.inl c)
        obtain ⟨d1, d2, d3⟩ := (hw.1.pto hir _ (px_lt hq4)).resolve_left c
        rw [e, d3] at zz
        exact absurd zz.1 (by decide))]
      rfl) (d4.2 1 (by decide) (by decide)) (fun j hj => by rw [fq2.2.1 59 (by decide)]; exact h59 j hj) (by rw [show cA D1 42 = cA D 42 from d4.2 42 (by decide) (by decide)]; exact h.2.2.2.2.2.2.2.2.2.2.2) (by rw [fq2.2.1 48 (by decide)]; exact fx.2.2.2.2.2.2.2) y1.1.1.1.on
  rw [← hfu] at D
  rcases D with ⟨A2, D2, R3, m2, VC2, w1, w2, w3, w4, w5, w6, w7, w8, w9, w10, w11, w12, w13, w14, w15, w16⟩ | ⟨A2, D2, R3, w1, w2, w3, w4, w5, w6⟩
  rotate_left
  · rw [w1, w2]
    exact SO.off (D := D) (R := R) fx ((congrFun w5.1 1).trans (d4.1 1 (by decide))) ((w5.2 1 (by decide)).trans (d4.2 1 (by decide) (by decide))) w6 ((w5.2 53 (by decide)).trans (d4.2 53 (by decide) (by decide))) (w3.fq fq2 (by decide) (by decide)) w4 h.1.2.kc rfl rfl
  rw [w1, w2, d_X3_store_1_122, if_pos (nI_lt (by omega) (by omega)), e_writeData_129, if_pos (nI_lt (by omega) (by omega))]
  have hz1 := (hw.pz hir).1
  have ez : szM VC2 i = szM V i := by
    have : szM VC2 i = szM V1 i := by
      unfold szM f4
      rw [w16 _ (ir_home hir).2]
    rw [this, hgr1.sz hir]
  have es := c_size (D2 := D2) hN1 hN w3 w3.2.2.2.1 hir
  rw [ez] at es
  rw [bnd_o es, nI_add]
  have kp1 : Kep D D2 R R3 := ⟨fun j hj => (congrFun w12.1 j).trans (d4.1 j (by revert hj; revert j; decide)), fun k hk => (w12.2 k (by revert hk; revert k; decide)).trans (d4.2 k (by revert hk; revert k; decide) (by revert hk; revert k; decide)), fun j hj => (w13.1 j (by revert hj; revert j; decide)).trans (fq2.1 j (by revert hj; revert j; decide)), fun k hk => (w13.2.1 k (by revert hk; revert k; decide)).trans (fq2.2.1 k (by revert hk; revert k; decide))⟩
  obtain ⟨dp1, dp2, dp3, dp4, dp5⟩ := ws.1.dep hN1 (W := fV i (at1 + cn) gw VC2) (fun c c1 c2 => w14 c c1 c2) w15
  have hWF : WF N (fV i (at1 + cn) gw VC2) := h.2.1.keep w5.1 (fun _ _ => rfl) (fun j hj => ⟨by rw [dp2 j 0 hj]; exact (o1 j hj).1, by rw [dp2 j 1 hj]; exact (o1 j hj).2.1⟩) (fun d hd2 kd => by
    rw [dp3 d hd2, (o1 d hd2).2.2, if_neg (fun zz => by rw [zz, hk1] at kd; cases kd)]) (fun d s hd2 kd hs => by
    rw [dp5 d s hd2 (by rw [(o1 d hd2).1]; exact kd) (by rw [(o1 d hd2).2.2, if_neg (fun zz => by rw [zz, hk1] at kd; cases kd)]; exact hs)]
    exact o3 d s hd2 kd hs)
  have hLW : LH (fV i (at1 + cn) gw VC2) hd hi := hL.keep (fun j hj => ⟨by rw [dp2 j 0 hj]; exact (o1 j hj).1, by rw [dp2 j 1 hj]; exact (o1 j hj).2.1⟩)
  have hHd : HdW (fV i (at1 + cn) gw VC2) hd hi := h.2.2.2.2.2.2.1.keep (fun j hj => by rw [dp2 j 0 hj]; exact (o1 j hj).1)
  have hcg : g = false → ∃ l' : List Nat, l'.length ≤ 40 ∧ ∀ b, 43 ≤ b → b < N → Chg m2 (fV i (at1 + cn) gw VC2) tk1 b → b ∈ l' := fun zg => ⟨hvL V1 i a to, (show 6 ≤ 40 by decide), fun c c1 c2 hc => by
    have q := (ws.2.2.2.2 c c1 c2 (w8 c c1 c2 hc)).resolve_left (h.ng zg c c1 c2)
    rw [List.append_nil] at q
    exact q⟩
  have hga : gA A2 = g := w9.trans (hv.2.2.1.trans h.2.2.2.2.2.2.2.2.1)
  have hu2 : u + 101 * (to + 1 - a) ≤ u + 2400 := by omega
  have bs2 : Bs N B gr (u + 2400) (m2, fV i (at1 + cn) gw VC2, tk1) := ⟨w6.1.up hu2, w6.2⟩
  cases gw with
  | false =>
    rw [if_pos (nI_le (g2 rfl) (by omega))]
    exact so_fin hN1 hN hgr hgr2 (by omega) ⟨⟨w3, w4⟩, w5⟩ bs2 hcg hWF w11 hga kp1 h.2.2.2.2.2.1 hHd fx w10 rfl ⟨at1, hat1, rfl, c2⟩ rfl rfl
  | true =>
    obtain ⟨A3, D3, q1, q2, q3, q4⟩ := c_setSize (v := nI (at1 + cn)) hN1 hN w3 hir.1 hir.2
    rw [if_neg (nI_ge (by have := g1 rfl; omega) (by omega)), bnd2_o q1]
    have w5' : WS N B (rmM N m V - wnF V i true a (to + 1 - a)) (m2, fV i (at1 + cn) true VC2, tk1) [] A3 R3 m2 (fV i (at1 + cn) true VC2) tk1 (fun _ => 0) := ⟨w5.1, w5.2.1, ⟨ow_size hir.1 hir.2 q1 w5.2.2.1.1 (OkP.lo (ir_home hir).2), w5.2.2.1.2⟩, w5.2.2.2⟩
    have kp2 : Kep D D3 R R3 := kp1.tr (Kep.of q4 Fq.rf (S := []) (T := []) (by decide) (by decide))
    exact so_fin hN1 hN hgr hgr2 (by omega) ⟨⟨q2, w4⟩, w5'⟩ bs2 hcg hWF (by rw [show cA D3 42 = cA D2 42 from q4.2 42 (by decide)]; exact w11) (q3.trans hga) kp2 h.2.2.2.2.2.1 hHd fx w10 rfl ⟨at1, hat1, rfl, c2⟩ rfl rfl
end PYY
