theorem ArK.row {E : gE} {f : Nat → va_E} {N B gr : Nat} {C : CfT} {k : Nat} {y : Nat → Int32} (w : ArK N B gr C k 128 y) (hz : CfZ E N B gr) (h : CfV E f N B gr C) : k < gN E ∧ ∃ x, f k = oB (gDA E) 128 x ∧ Byt x ∧ nr x = y := by
  obtain ⟨z1, z2, z3, z4, z5, z6, z7⟩ := id hz
  rcases w with ⟨rfl, e, -⟩ | ⟨-, m, i, hm, hi, rfl, hb, rfl⟩
  · exact absurd e (by decide)
  · match m, hm with
    | 0, _ => exact ⟨by have : i < 256 := hi; show 94 + i < _; omega, _, h.r0 i hi, hb, rfl⟩
    | 1, _ => exact ⟨by have : i < N := hi; show 350 + i < _; omega, _, h.r1 i hi, hb, rfl⟩
    | 2, _ => exact ⟨by have : i < N := hi; show 350 + N + i < _; omega, _, h.r2 i hi, hb, rfl⟩
    | 3, _ => exact ⟨by have : i < B := hi; show 350 + 2 * N + i < _; omega, _, h.r3 i hi, hb, rfl⟩
    | 4, _ => exact ⟨by have : i < gr * 40 := hi; show 350 + 2 * N + B + i < _; omega, _, h.r4 i hi, hb, rfl⟩
def tb_X10_own : List (Nat × Instr × Nat) := [(0, .aload_n 0, 1), (1, .iload_n 1, 1), (2, .invokevirtual 94, 3), (5, .ifCond .ne 8, 3), (8, .aload_n 0, 1), (9, .getfield 9, 3), (12, .areturn, 1), (13, .aload_n 0, 1), (14, .getfield 45, 3), (17, .iload_n 1, 1), (18, .baload, 1), (19, .ifCond .ne 49, 3), (22, .aload_n 0, 1), (23, .iload_n 1, 1), (24, .invokevirtual 98, 3), (27, .iconst 0, 1), (28, .aload_n 0, 1), (29, .getfield 42, 3), (32, .iload_n 1, 1), (33, .aaload, 1), (34, .iconst 0, 1), (35, .sipush 128, 3), (38, .invokestatic 102, 3), (41, .aload_n 0, 1), (42, .getfield 45, 3), (45, .iload_n 1, 1), (46, .iconst 1, 1), (47, .bastore, 1), (48, .aload_n 0, 1), (49, .getfield 52, 3), (52, .aload_n 0, 1), (53, .getfield 108, 3), (56, .iload_n 1, 1), (57, .iastore, 1), (58, .aload_n 0, 1), (59, .dup, 1), (60, .getfield 108, 3), (63, .iconst 1, 1), (64, .iadd, 1), (65, .putfield 108, 3), (68, .aload_n 0, 1), (69, .getfield 42, 3), (72, .iload_n 1, 1), (73, .aaload, 1), (74, .areturn, 1)]
theorem tv_X10_own : Tv cX10_own tb_X10_own := by
  unfold Tv
  decide +kernel
set_option maxRecDepth 100000 in
set_option maxHeartbeats 4000000 in
theorem k_own1 (E : gE) (f : Nat → va_E) (N B gr : Nat) (C : CfT) (hz : CfZ E N B gr) (h : CfV E f N B gr C) (A : MS) (hA : AR N B gr A C) (b : Nat) (hb : b < N) (o27 : cA C 27 b = 1) : Ct E 2 yX10_own cX10_own 2 (some (.array .byte)) [.ref (gAd E (25)), .int (nI b)] f (fun v g => v = some (.ref (gAd E (350 + N + (b)))) ∧ CfV E g N B gr (C) ∧ Fr CfK f g, fun _ _ => False) := by
  obtain ⟨z1, z2, z3, z4, z5, z6, z7⟩ := id hz
  refine Ct.of (by decide) (Nat.le_of_ble_eq_true rfl) (fun sz => ?_)
  refine G.eql [(0, .ref (gAd E (25))), (1, .int (nI b))] rfl ?_
  refine G.go tv_X10_own 2 2 [(0, .ref (gAd E (25))), (1, .int (nI b))] [.int (nI b), .ref (gAd E (25))] rfl ?_
  refine G.callV (25) [.int (nI b)] [] (k_isBlock E _ N B gr C hz h b hb) cls_X10 (by omega) (h.q25) cw_X10_94 w_914 w_915 (Nat.le_of_ble_eq_true rfl) rfl (Nat.le_of_ble_eq_true rfl) (tbd tv_X10_own rfl) (fun v1 f1 q1 => ?_) (fun _ _ h => h.elim)
  obtain ⟨rfl, ha1, fa1⟩ := q1
  refine G.eqs [.int ((1 : Int32))] rfl ?_
  refine G.if_ne 13 (tbd tv_X10_own rfl) (by decide) (fun c5 => ?_) (fun c5 => absurd c5 (by decide))
  refine G.go tv_X10_own 1 14 [(0, .ref (gAd E (25))), (1, .int (nI b))] [.ref (gAd E (25))] rfl ?_
  refine G.getf cls_X10 (25) 5 (by omega) (ha1.q25) (by decide) rfl (tbd tv_X10_own rfl) w_415 ?_
  refine G.go tv_X10_own 1 18 [(0, .ref (gAd E (25))), (1, .int (nI b))] [.int (nI b), .ref (gAd E (27))] rfl ?_
  refine G.zaldN (27) (b) (by omega) (ha1.q27) (hb) (by omega) (tbd tv_X10_own rfl) ?_
  refine G.if_ne 68 (tbd tv_X10_own rfl) (by decide) (fun c19 => ?_) (fun c19 => absurd c19 (by rw [o27]; decide))
  refine G.go tv_X10_own 1 69 [(0, .ref (gAd E (25))), (1, .int (nI b))] [.ref (gAd E (25))] rfl ?_
  refine G.getf cls_X10 (25) 4 (by omega) (ha1.q25) (by decide) rfl (tbd tv_X10_own rfl) w_414 ?_
  refine G.go tv_X10_own 1 73 [(0, .ref (gAd E (25))), (1, .int (nI b))] [.int (nI b), .ref (gAd E (26))] rfl ?_
  refine G.aaldN (26) (b) (by omega) (ha1.q26) (hb) (by omega) (tbd tv_X10_own rfl) ?_
  refine G.eqs [.ref (gAd E (350 + N + (b)))] (by rw [rwA_at (hb)]; rfl) ?_
  exact G.aret rfl (⟨rfl, ha1, fa1⟩) (tbd tv_X10_own rfl)
theorem w_978 : Cond.methodLink "LedgerFiles$View" 102 ⟨"java/lang/System", "arraycopy", "(Ljava/lang/Object;ILjava/lang/Object;II)V"⟩ ∈ TB := tp_4 112 (by decide +kernel) rfl
theorem w_418 : Cond.fieldLink "LedgerFiles$View" 108 "LedgerFiles$View" "touchedCount" "I" ∈ TB := tp_2 32 (by decide +kernel) rfl
set_option maxRecDepth 100000 in
set_option maxHeartbeats 4000000 in
theorem k_own0 (E : gE) (f : Nat → va_E) (N B gr : Nat) (C : CfT) (hz : CfZ E N B gr) (h : CfV E f N B gr C) (A : MS) (hA : AR N B gr A C) (b : Nat) (hb : b < N) (o27 : cA C 27 b = 0) (n : Nat) (hn : n < N) (n2 : cS C 2508 = nI n) : Ct E 2 yX10_own cX10_own 2 (some (.array .byte)) [.ref (gAd E (25)), .int (nI b)] f (fun v g => v = some (.ref (gAd E (350 + N + (b)))) ∧ (∃ x, Byt x ∧ nr x = befV A.1 A.2.1 A.2.2.2.1 b ∧ CfV E g N B gr (sS (sA (sA (sR C 2 b (va_cpy x (cR C 2 b) 0 0 128)) 27 (upd (cA C 27) b (vp_nar .boolean ((1 : Int32))))) 29 (upd (cA C 29) n (nI b))) 2508 ((nI n) + ((1 : Int32))))) ∧ Fr CfK f g, fun _ _ => False) := by
  obtain ⟨z1, z2, z3, z4, z5, z6, z7⟩ := id hz
  obtain ⟨en, hq⟩ := hA.2.2.2.2.1
  refine Ct.of (by decide) (Nat.le_of_ble_eq_true rfl) (fun sz => ?_)
  refine G.eql [(0, .ref (gAd E (25))), (1, .int (nI b))] rfl ?_
  refine G.go tv_X10_own 2 2 [(0, .ref (gAd E (25))), (1, .int (nI b))] [.int (nI b), .ref (gAd E (25))] rfl ?_
  refine G.callV (25) [.int (nI b)] [] (k_isBlock E _ N B gr C hz h b hb) cls_X10 (by omega) (h.q25) cw_X10_94 w_914 w_915 (Nat.le_of_ble_eq_true rfl) rfl (Nat.le_of_ble_eq_true rfl) (tbd tv_X10_own rfl) (fun v1 f1 q1 => ?_) (fun _ _ h => h.elim)
  obtain ⟨rfl, ha1, fa1⟩ := q1
  refine G.eqs [.int ((1 : Int32))] rfl ?_
  refine G.if_ne 13 (tbd tv_X10_own rfl) (by decide) (fun c5 => ?_) (fun c5 => absurd c5 (by decide))
  refine G.go tv_X10_own 1 14 [(0, .ref (gAd E (25))), (1, .int (nI b))] [.ref (gAd E (25))] rfl ?_
  refine G.getf cls_X10 (25) 5 (by omega) (ha1.q25) (by decide) rfl (tbd tv_X10_own rfl) w_415 ?_
  refine G.go tv_X10_own 1 18 [(0, .ref (gAd E (25))), (1, .int (nI b))] [.int (nI b), .ref (gAd E (27))] rfl ?_
  refine G.zaldN (27) (b) (by omega) (ha1.q27) (hb) (by omega) (tbd tv_X10_own rfl) ?_
  refine G.if_ne 68 (tbd tv_X10_own rfl) (by decide) (fun c19 => absurd (o27) c19) (fun c19 => ?_)
  refine G.go tv_X10_own 2 24 [(0, .ref (gAd E (25))), (1, .int (nI b))] [.int (nI b), .ref (gAd E (25))] rfl ?_
  refine G.callV (25) [.int (nI b)] [] (r_beforeK E _ N B gr C hz ha1 A.1 1 hA.1 A.2.1 _ hA.2.2.1 hA.2.2.2.1 A.2.2.2.1 en hq hA.2.2.2.2.2.1 b hb) cls_X10 (by omega) (ha1.q25) cw_X10_98 w_919 w_16 (Nat.le_of_ble_eq_true rfl) rfl (Nat.le_of_ble_eq_true rfl) (tbd tv_X10_own rfl) (fun v2 f2 q2 => ?_) (fun _ _ h => h.elim)
  obtain ⟨k2, rfl, hb2, w2, ha2, fa2⟩ := q2
  refine G.eqs [.ref (gAd E (k2))] rfl ?_
  obtain ⟨hk2, x2, he2, bx2, ex2⟩ := w2.row hz ha2
  refine G.go tv_X10_own 2 29 [(0, .ref (gAd E (25))), (1, .int (nI b))] [.ref (gAd E (25)), .int ((0 : Int32)), .ref (gAd E (k2))] rfl ?_
  refine G.getf cls_X10 (25) 4 (by omega) (ha2.q25) (by decide) rfl (tbd tv_X10_own rfl) w_414 ?_
  refine G.go tv_X10_own 1 33 [(0, .ref (gAd E (25))), (1, .int (nI b))] [.int (nI b), .ref (gAd E (26)), .int ((0 : Int32)), .ref (gAd E (k2))] rfl ?_
  refine G.aaldN (26) (b) (by omega) (ha2.q26) (hb) (by omega) (tbd tv_X10_own rfl) ?_
  refine G.eqs [.ref (gAd E (350 + N + (b))), .int ((0 : Int32)), .ref (gAd E (k2))] (by rw [rwA_at (hb)]; rfl) ?_
  refine G.go tv_X10_own 2 38 [(0, .ref (gAd E (25))), (1, .int (nI b))] [.int ((128 : Int32)), .int ((0 : Int32)), .ref (gAd E (350 + N + (b))), .int ((0 : Int32)), .ref (gAd E (k2))] rfl ?_
  refine G.copyB (k2) (350 + N + (b)) hk2 (he2) (by omega) (ha2.r2 (b) (hb)) w_978 w_755 w_754 w_167 (by decide) (by decide) (by decide) (by decide) (by decide) (fun i hi => bx2 _) (Nat.le_of_ble_eq_true rfl) (Nat.le_of_ble_eq_true rfl) (tbd tv_X10_own rfl) ?_
  refine G.gen (P := fun w9 => CfV E w9 N B gr (sR (C) 2 (b) (va_cpy (x2) (cR C 2 (b)) 0 0 128)) ∧ Fr CfK f w9) ⟨ha2.w2 (b) (hb) _, Fr.c (fa1.tr fa2 (fun _ h => h)) (by first | exact Or.inl (by decide) | exact Or.inr (by omega))⟩ (fun u1 p1 => ?_)
  obtain ⟨h1, k1⟩ := p1
  refine G.go tv_X10_own 1 42 [(0, .ref (gAd E (25))), (1, .int (nI b))] [.ref (gAd E (25))] rfl ?_
  refine G.getf cls_X10 (25) 5 (by omega) (h1.q25) (by decide) rfl (tbd tv_X10_own rfl) w_415 ?_
  refine G.go tv_X10_own 2 47 [(0, .ref (gAd E (25))), (1, .int (nI b))] [.int ((1 : Int32)), .int (nI b), .ref (gAd E (27))] rfl ?_
  refine G.zastN (27) (b) (by omega) (h1.q27) (hb) (by omega) (tbd tv_X10_own rfl) ?_
  refine G.gen (P := fun w9 => CfV E w9 N B gr (sA (sR (C) 2 (b) (va_cpy (x2) (cR C 2 (b)) 0 0 128)) 27 (upd (cA C 27) (b) (vp_nar .boolean ((1 : Int32))))) ∧ Fr CfK f w9) ⟨h1.p27 _, Fr.c k1 (by first | exact Or.inl (by decide) | exact Or.inr (by omega))⟩ (fun u2 p2 => ?_)
  obtain ⟨h2, k2⟩ := p2
  refine G.go tv_X10_own 1 49 [(0, .ref (gAd E (25))), (1, .int (nI b))] [.ref (gAd E (25))] rfl ?_
  refine G.getf cls_X10 (25) 7 (by omega) (h2.q25) (by decide) rfl (tbd tv_X10_own rfl) w_417 ?_
  refine G.go tv_X10_own 1 53 [(0, .ref (gAd E (25))), (1, .int (nI b))] [.ref (gAd E (25)), .ref (gAd E (29))] rfl ?_
  refine G.getf cls_X10 (25) 8 (by omega) (h2.q25) (by decide) rfl (tbd tv_X10_own rfl) w_418 ?_
  refine G.eqs [.int (cS C 2508), .ref (gAd E (29))] rfl ?_
  refine G.eqs [.int (nI n), .ref (gAd E (29))] (by rw [n2]) ?_
  refine G.go tv_X10_own 1 57 [(0, .ref (gAd E (25))), (1, .int (nI b))] [.int (nI b), .int (nI n), .ref (gAd E (29))] rfl ?_
  refine G.iastN (29) (n) (by omega) (h2.q29) (hn) (by omega) (tbd tv_X10_own rfl) ?_
  refine G.gen (P := fun w9 => CfV E w9 N B gr (sA (sA (sR (C) 2 (b) (va_cpy (x2) (cR C 2 (b)) 0 0 128)) 27 (upd (cA C 27) (b) (vp_nar .boolean ((1 : Int32))))) 29 (upd (cA C 29) (n) (nI b))) ∧ Fr CfK f w9) ⟨h2.p29 _, Fr.c k2 (by first | exact Or.inl (by decide) | exact Or.inr (by omega))⟩ (fun u3 p3 => ?_)
  obtain ⟨h3, k3⟩ := p3
  refine G.go tv_X10_own 2 60 [(0, .ref (gAd E (25))), (1, .int (nI b))] [.ref (gAd E (25)), .ref (gAd E (25))] rfl ?_
  refine G.getf cls_X10 (25) 8 (by omega) (h3.q25) (by decide) rfl (tbd tv_X10_own rfl) w_418 ?_
  refine G.eqs [.int (cS C 2508), .ref (gAd E (25))] rfl ?_
  refine G.eqs [.int (nI n), .ref (gAd E (25))] (by rw [n2]) ?_
  refine G.go tv_X10_own 2 65 [(0, .ref (gAd E (25))), (1, .int (nI b))] [.int ((nI n) + ((1 : Int32))), .ref (gAd E (25))] rfl ?_
  refine G.putfS cls_X10 (25) 8 [.ref (gAd E 2), .ref (gAd E 8), .ref (gAd E 13), .ref (gAd E 17), .ref (gAd E 26), .ref (gAd E 27), .ref (gAd E 28), .ref (gAd E 29), .int ((nI n) + ((1 : Int32))), .ref (gAd E 30), .ref (gAd E 31), .int (cS (sA (sA (sR (C) 2 (b) (va_cpy (x2) (cR C 2 (b)) 0 0 128)) 27 (upd (cA C 27) (b) (vp_nar .boolean ((1 : Int32))))) 29 (upd (cA C 29) (n) (nI b))) 2511)] (by omega) (h3.q25) rfl (by decide) rfl rfl rfl (Nat.le_of_ble_eq_true rfl) (tbd tv_X10_own rfl) w_418 ?_
  refine G.gen (P := fun w9 => CfV E w9 N B gr (sS (sA (sA (sR (C) 2 (b) (va_cpy (x2) (cR C 2 (b)) 0 0 128)) 27 (upd (cA C 27) (b) (vp_nar .boolean ((1 : Int32))))) 29 (upd (cA C 29) (n) (nI b))) 2508 ((nI n) + ((1 : Int32)))) ∧ Fr CfK f w9) ⟨h3.s2508 _, Fr.c k3 (by first | exact Or.inl (by decide) | exact Or.inr (by omega))⟩ (fun u4 p4 => ?_)
  obtain ⟨h4, k4⟩ := p4
  refine G.go tv_X10_own 1 69 [(0, .ref (gAd E (25))), (1, .int (nI b))] [.ref (gAd E (25))] rfl ?_
  refine G.getf cls_X10 (25) 4 (by omega) (h4.q25) (by decide) rfl (tbd tv_X10_own rfl) w_414 ?_
  refine G.go tv_X10_own 1 73 [(0, .ref (gAd E (25))), (1, .int (nI b))] [.int (nI b), .ref (gAd E (26))] rfl ?_
  refine G.aaldN (26) (b) (by omega) (h4.q26) (hb) (by omega) (tbd tv_X10_own rfl) ?_
  refine G.eqs [.ref (gAd E (350 + N + (b)))] (by rw [rwA_at (hb)]; rfl) ?_
  exact G.aret rfl (⟨rfl, ⟨x2, bx2, ex2, h4⟩, k4⟩) (tbd tv_X10_own rfl)
theorem k_own (E : gE) (f : Nat → va_E) (N B gr : Nat) (C D : CfT) (A : MS) (hz : CfZ E N B gr) (h : CfV E f N B gr C) (hD : Dq D C) (hA : AR N B gr A C) (i : Int32) (A' : MS) (D' : CfT) (hr : owB N A D i = some (A', D')) : Ct E 2 yX10_own cX10_own 2 (some (.array .byte)) [.ref (gAd E (25)), .int i] f (fun v g => v = some (.ref (gAd E (350 + N + i.toNatClampNeg))) ∧ SN E N B gr f A' D' g, fun _ _ => False) := by
  obtain ⟨z1, z2, z3, z4, z5, z6, z7⟩ := id hz
  unfold owB at hr
  split at hr
  · cases hr
  · next hi =>
    obtain ⟨hb, e⟩ := vp_nI hi
    rw [show (Value.int i) = .int (nI i.toNatClampNeg) from congrArg _ e]
    have ei : upd (cA D 29) (cS D 2508).toNatClampNeg i = upd (cA D 29) (cS D 2508).toNatClampNeg (nI i.toNatClampNeg) := by rw [← e]
    rw [ei] at hr
    clear ei e hi
    generalize i.toNatClampNeg = b at hb hr
    obtain ⟨h1, h2, h3, h4, ⟨en, h5⟩, h6, h7, h8, h9⟩ := id hA
    obtain ⟨o2, ot, ⟨o27, o1⟩ | ⟨o27, o1⟩⟩ := h8 b hb
    · rw [o1] at hr
      have hr : (if cS D 2508 < 0 ∨ N ≤ (cS D 2508).toNatClampNeg then none else some (aSet A b (vA A b), sS (sA D 29 (upd (cA D 29) (cS D 2508).toNatClampNeg (nI b))) 2508 (cS D 2508 + 1))) = some (A', D') := hr
      split at hr
      · cases hr
      · next hn =>
        cases hr
        obtain ⟨hn, e⟩ := vp_nI hn
        have n2 : cS C 2508 = cS D 2508 := hD.1 2508 (by decide)
        rw [e] at n2
        have eD : cS D 2508 + 1 = nI (cS D 2508).toNatClampNeg + 1 := by rw [← e]
        rw [eD]
        generalize (cS D 2508).toNatClampNeg = n at hn n2
        refine (k_own0 E f N B gr C hz h A hA b hb o27 n hn n2).mono (fun v g q => ?_) (fun _ _ q => q)
        obtain ⟨rfl, ⟨x, bx, ex, hc⟩, fr⟩ := q
        have ev : vA A b = befV A.1 A.2.1 A.2.2.2.1 b := by
          unfold vA vSee
          rw [o1]
          rfl
        have hs : Sm [3] C (sS (sA (sA (sR C 2 b (va_cpy x (cR C 2 b) 0 0 128)) 27 (upd (cA C 27) b (vp_nar .boolean ((1 : Int32))))) 29 (upd (cA C 29) n (nI b))) 2508 ((nI n) + ((1 : Int32)))) := (((Sm.r (by decide) : Sm [3] C (sR C 2 b (va_cpy x (cR C 2 b) 0 0 128))).tr (Sm.a (by decide))).tr (Sm.a (by decide))).tr (Sm.s (by decide))
        refine ⟨rfl, _, hc, ((hD.r.a (by decide)).au (by decide)).ss, hA.vw (ow := fun u => if u = b then some (vA A b) else A.2.2.2.2.2.1 u) (tk := A.2.2.2.2.2.2.1) hs rfl (fun u hu => ?_), fr⟩
        show Byt (cR (sR C 2 b (va_cpy x (cR C 2 b) 0 0 128)) 2 u) ∧ cA C 28 u = (if A.2.2.2.2.2.2.1 u then 1 else 0) ∧ (((upd (cA C 27) b (vp_nar .boolean ((1 : Int32)))) u = 0 ∧ (if u = b then some (vA A b) else A.2.2.2.2.2.1 u) = none) ∨ ((upd (cA C 27) b (vp_nar .boolean ((1 : Int32)))) u = 1 ∧ (if u = b then some (vA A b) else A.2.2.2.2.2.1 u) = some (nr (cR (sR C 2 b (va_cpy x (cR C 2 b) 0 0 128)) 2 u))))
        obtain ⟨o2, ot, o⟩ := h8 u hu
        by_cases e : u = b
        · subst e
          rw [sR_e, pk_us, if_pos rfl]
          refine ⟨bx.cpy o2, ot, Or.inr ⟨rfl, ?_⟩⟩
          rw [ev, ← ex]
          congr 1
          rw [Byt.row]
          funext j
          unfold nr
          split
          · next q => exact (if_pos q).symm
          · rfl
        · rw [sR_n e, pk_un e, if_neg e]
          exact ⟨o2, ot, o⟩
    · rw [o1] at hr
      cases hr
      refine (k_own1 E f N B gr C hz h A hA b hb o27).mono (fun v g q => ?_) (fun _ _ q => q)
      obtain ⟨rfl, hc, fr⟩ := q
      exact ⟨rfl, C, hc, hD, hA, fr⟩
