/-! ===== the log inside the class's one value ===== -/
section CFE
def lgOf (C : CfT) : LgT := (cA C 14, cA C 15, cA C 16, (cS C 1305).toNatClampNeg, cS C 1306)
def cLg (C : CfT) : LgT → CfT := fun (bl, sc, en, nt, tu) => (fun j => if j = 1305 then nI nt else if j = 1306 then tu else C.1 j, fun k => if k = 14 then bl else if k = 15 then sc else if k = 16 then en else C.2.1 k, C.2.2)
theorem CfV.lg {E : gE} {f : Nat → va_E} {N B gr : Nat} {C : CfT} (h : CfV E f N B gr C) (hn : ¬ cS C 1305 < 0) : LgV E f N (lgOf C) := by
  refine ⟨?_, h.q14, h.q15, h.q16⟩
  have q := h.q13
  rw [nI_cl hn] at q
  exact q
theorem CfV.ofLg {E : gE} {f g : Nat → va_E} {N B gr : Nat} {C : CfT} (h : CfV E f N B gr C) {l : LgT} (hl : LgV E g N l) (hf : Fr LgK f g) : CfV E g N B gr (cLg C l) := by
  obtain ⟨bl, sc, en, nt, tu⟩ := l
  obtain ⟨l1, l2, l3, l4⟩ := hl
  exact ⟨(hf 0 (fun q => by unfold LgK at q; omega)).trans h.q0, (hf 1 (fun q => by unfold LgK at q; omega)).trans h.q1, (hf 53 (fun q => by unfold LgK at q; omega)).trans h.q53, (hf 54 (fun q => by unfold LgK at q; omega)).trans h.q54, (hf 55 (fun q => by unfold LgK at q; omega)).trans h.q55, (hf 47 (fun q => by unfold LgK at q; omega)).trans h.q47, (hf 48 (fun q => by unfold LgK at q; omega)).trans h.q48, (hf 49 (fun q => by unfold LgK at q; omega)).trans h.q49, (hf 50 (fun q => by unfold LgK at q; omega)).trans h.q50, (hf 51 (fun q => by unfold LgK at q; omega)).trans h.q51, (hf 52 (fun q => by unfold LgK at q; omega)).trans h.q52, (hf 2 (fun q => by unfold LgK at q; omega)).trans h.q2, (hf 6 (fun q => by unfold LgK at q; omega)).trans h.q6, (hf 5 (fun q => by unfold LgK at q; omega)).trans h.q5, fun i hi => (hf _ (fun q => by unfold LgK at q; omega)).trans (h.r0 i hi), (hf 7 (fun q => by unfold LgK at q; omega)).trans h.q7, (hf 3 (fun q => by unfold LgK at q; omega)).trans h.q3, (hf 4 (fun q => by unfold LgK at q; omega)).trans h.q4, fun i hi => (hf _ (fun q => by unfold LgK at q; omega)).trans (h.r1 i hi), (hf 8 (fun q => by unfold LgK at q; omega)).trans h.q8, (hf 10 (fun q => by unfold LgK at q; omega)).trans h.q10, (hf 9 (fun q => by unfold LgK at q; omega)).trans h.q9, fun i hi => (hf _ (fun q => by unfold LgK at q; omega)).trans (h.r3 i hi), (hf 11 (fun q => by unfold LgK at q; omega)).trans h.q11, (hf 12 (fun q => by unfold LgK at q; omega)).trans h.q12, l1, l4, l2, l3, (hf 17 (fun q => by unfold LgK at q; omega)).trans h.q17, (hf 20 (fun q => by unfold LgK at q; omega)).trans h.q20, (hf 21 (fun q => by unfold LgK at q; omega)).trans h.q21, (hf 18 (fun q => by unfold LgK at q; omega)).trans h.q18, fun i hi => (hf _ (fun q => by unfold LgK at q; omega)).trans (h.r4 i hi), (hf 19 (fun q => by unfold LgK at q; omega)).trans h.q19, (hf 22 (fun q => by unfold LgK at q; omega)).trans h.q22, (hf 23 (fun q => by unfold LgK at q; omega)).trans h.q23, (hf 24 (fun q => by unfold LgK at q; omega)).trans h.q24, (hf 25 (fun q => by unfold LgK at q; omega)).trans h.q25, (hf 30 (fun q => by unfold LgK at q; omega)).trans h.q30, (hf 31 (fun q => by unfold LgK at q; omega)).trans h.q31, (hf 26 (fun q => by unfold LgK at q; omega)).trans h.q26, fun i hi => (hf _ (fun q => by unfold LgK at q; omega)).trans (h.r2 i hi), (hf 27 (fun q => by unfold LgK at q; omega)).trans h.q27, (hf 28 (fun q => by unfold LgK at q; omega)).trans h.q28, (hf 29 (fun q => by unfold LgK at q; omega)).trans h.q29, (hf 32 (fun q => by unfold LgK at q; omega)).trans h.q32, (hf 33 (fun q => by unfold LgK at q; omega)).trans h.q33, (hf 34 (fun q => by unfold LgK at q; omega)).trans h.q34, (hf 35 (fun q => by unfold LgK at q; omega)).trans h.q35, (hf 36 (fun q => by unfold LgK at q; omega)).trans h.q36, (hf 37 (fun q => by unfold LgK at q; omega)).trans h.q37, (hf 38 (fun q => by unfold LgK at q; omega)).trans h.q38, (hf 39 (fun q => by unfold LgK at q; omega)).trans h.q39, (hf 40 (fun q => by unfold LgK at q; omega)).trans h.q40, (hf 41 (fun q => by unfold LgK at q; omega)).trans h.q41, (hf 42 (fun q => by unfold LgK at q; omega)).trans h.q42, (hf 43 (fun q => by unfold LgK at q; omega)).trans h.q43, (hf 44 (fun q => by unfold LgK at q; omega)).trans h.q44, (hf 46 (fun q => by unfold LgK at q; omega)).trans h.q46, (hf 45 (fun q => by unfold LgK at q; omega)).trans h.q45⟩
theorem LgK_C {k : Nat} (h : LgK k) : CfK k := by
  unfold LgK at h
  unfold CfK
  omega
/-- the log's order inside the one value -/
def lgZ (N : Nat) (C : CfT) : Prop := ¬ cS C 1305 < 0 ∧ lOk N (lgOf C)
theorem k_head (E : gE) (f : Nat → va_E) (N B gr : Nat) (C : CfT) (hz : CfZ E N B gr) (h : CfV E f N B gr C) (hn : dbN C) (hdo : dOk N (dkOf C)) (hl : lgZ N C) : Ct E 3 yX6_head cX6_head 1 (some (.array .byte)) [.ref (gAd E (13))] f (fun v g => v = some (.ref (gAd E 15)) ∧ CfV E g N B gr (sA C 15 (hdRow (dkOf C) (cS C 1305).toNatClampNeg (cS C 1306) (cA C 15))) ∧ Fr CfK f g, fun _ _ => False) := by
  obtain ⟨z1, z2, z3, z4, z5, z6, z7⟩ := id hz
  obtain ⟨v1, v2⟩ := h.db hn
  refine (c_X6_head E f N (lgOf C) (by omega) z2 (h.lg hl.1) hl.2 (dkOf C) _ _ _ _ v1 hdo (by omega)).mono (fun v g q => ?_) (fun X g q => q.elim)
  obtain ⟨q1, q2, q3⟩ := q
  refine ⟨q1, ?_, q3.wk (fun _ z => LgK_C z)⟩
  have e := h.ofLg q2 q3
  have e2 : nI (cS C 1305).toNatClampNeg = cS C 1305 := (nI_cl hl.1).symm
  obtain ⟨g13, g14, g15, g16⟩ := q2
  refine ⟨e.q0, e.q1, e.q53, e.q54, e.q55, e.q47, e.q48, e.q49, e.q50, e.q51, e.q52, e.q2, e.q6, e.q5, e.r0, e.q7, e.q3, e.q4, e.r1, e.q8, e.q10, e.q9, e.r3, e.q11, e.q12, g13.trans (by rw [e2]), e.q16, e.q14, e.q15, e.q17, e.q20, e.q21, e.q18, e.r4, e.q19, e.q22, e.q23, e.q24, e.q25, e.q30, e.q31, e.q26, e.r2, e.q27, e.q28, e.q29, e.q32, e.q33, e.q34, e.q35, e.q36, e.q37, e.q38, e.q39, e.q40, e.q41, e.q42, e.q43, e.q44, e.q46, e.q45⟩
end CFE
set_option maxRecDepth 100000 in
set_option maxHeartbeats 4000000 in
theorem k_forgetEntries (E : gE) (f : Nat → va_E) (N B gr : Nat) (C : CfT) (hz : CfZ E N B gr) (h : CfV E f N B gr C)  : Ct E 2 yX6_forgetEntries cX6_forgetEntries 1 none [.ref (gAd E (13))] f (fun v g => v = none ∧ CfV E g N B gr (sA (sS C 1305 0) 16 (flt (cA C 16) 0 N (-1))) ∧ Fr CfK f g, fun _ _ => False) := by
  obtain ⟨z1, z2, z3, z4, z5, z6, z7⟩ := id hz
  refine Ct.of (by decide) (Nat.le_of_ble_eq_true rfl) (fun sz => ?_)
  refine G.eql [(0, .ref (gAd E (13)))] rfl ?_
  refine G.go tv_X6_forgetEntries 2 2 [(0, .ref (gAd E (13)))] [.int ((0 : Int32)), .ref (gAd E (13))] rfl ?_
  refine G.putfS cls_X6 (13) 5 [.ref (gAd E 2), .ref (gAd E 8), .ref (gAd E 14), .ref (gAd E 15), .ref (gAd E 16), .int ((0 : Int32)), .int (cS C 1306)] (by omega) (h.q13) rfl (by decide) rfl rfl rfl (Nat.le_of_ble_eq_true rfl) (tbd tv_X6_forgetEntries rfl) w_325 ?_
  refine G.gen (P := fun w9 => CfV E w9 N B gr (sS (C) 1305 ((0 : Int32))) ∧ Fr CfK f w9) ⟨h.s1305 _, Fr.c Fr.rf (by first | exact Or.inl (by decide) | exact Or.inr (by omega))⟩ (fun u1 p1 => ?_)
  obtain ⟨h1, k1⟩ := p1
  refine G.go tv_X6_forgetEntries 1 6 [(0, .ref (gAd E (13)))] [.ref (gAd E (13))] rfl ?_
  refine G.getf cls_X6 (13) 4 (by omega) (h1.q13) (by decide) rfl (tbd tv_X6_forgetEntries rfl) w_323 ?_
  refine G.go tv_X6_forgetEntries 1 10 [(0, .ref (gAd E (13)))] [.int ((-1 : Int32)), .ref (gAd E (16))] rfl ?_
  refine G.callS [.ref (gAd E (16)), .int ((-1 : Int32))] [] (c_J7_fill_53178 E _ (16) (N) (cA C 16) ((-1 : Int32)) (by omega) (h1.q16) (by omega)) cw_X6_36 w_223 (Nat.le_of_ble_eq_true rfl) rfl (Nat.le_of_ble_eq_true rfl) (tbd tv_X6_forgetEntries rfl) (fun v1 f1 q1 => ?_) (fun _ _ h => h.elim)
  obtain ⟨rfl, rfl⟩ := q1
  refine G.eqs [] rfl ?_
  refine G.gen (P := fun w9 => CfV E w9 N B gr (sA (sS (C) 1305 ((0 : Int32))) 16 (flt (cA C 16) 0 (N) ((-1 : Int32)))) ∧ Fr CfK f w9) ⟨h1.p16 _, Fr.c k1 (by first | exact Or.inl (by decide) | exact Or.inr (by omega))⟩ (fun u2 p2 => ?_)
  obtain ⟨h2, k2⟩ := p2
  exact G.vret rfl (⟨rfl, h2, k2⟩) (tbd tv_X6_forgetEntries rfl)
set_option maxRecDepth 100000 in
set_option maxHeartbeats 4000000 in
theorem k_note (E : gE) (f : Nat → va_E) (N B gr : Nat) (C : CfT) (hz : CfZ E N B gr) (h : CfV E f N B gr C) (t e : Nat) (ht : t < N) (he : cS C 1305 = nI e) (he2 : e < 40) : Ct E 1 yX6_note cX6_note 2 none [.ref (gAd E (13)), .int (nI t)] f (fun v g => v = none ∧ CfV E g N B gr (sS (sA (sA C 14 (upd (cA C 14) e (nI t))) 16 (upd (cA C 16) t (nI e))) 1305 ((nI e) + ((1 : Int32)))) ∧ Fr CfK f g, fun _ _ => False) := by
  obtain ⟨z1, z2, z3, z4, z5, z6, z7⟩ := id hz
  refine Ct.of (by decide) (Nat.le_of_ble_eq_true rfl) (fun sz => ?_)
  refine G.eql [(0, .ref (gAd E (13))), (1, .int (nI t))] rfl ?_
  refine G.go tv_X6_note 1 1 [(0, .ref (gAd E (13))), (1, .int (nI t))] [.ref (gAd E (13))] rfl ?_
  refine G.getf cls_X6 (13) 5 (by omega) (h.q13) (by decide) rfl (tbd tv_X6_note rfl) w_325 ?_
  refine G.eqs [.int (nI e)] (by rw [he]) ?_
  refine G.go tv_X6_note 1 6 [(0, .ref (gAd E (13))), (1, .int (nI t))] [.int ((40 : Int32)), .int (nI e)] rfl ?_
  refine G.cmp_ge 52 (tbd tv_X6_note rfl) (by decide) (fun c6 => absurd c6 ((nI_ge he2 (by omega) : ¬ nI 40 ≤ nI e))) (fun c6 => ?_)
  refine G.go tv_X6_note 1 10 [(0, .ref (gAd E (13))), (1, .int (nI t))] [.int (nI t)] rfl ?_
  refine G.if_lt 52 (tbd tv_X6_note rfl) (by decide) (fun c10 => absurd c10 (nI_nn (by omega))) (fun c10 => ?_)
  refine G.go tv_X6_note 2 15 [(0, .ref (gAd E (13))), (1, .int (nI t))] [.ref (gAd E (13)), .int (nI t)] rfl ?_
  refine G.getf cls_X6 (13) 4 (by omega) (h.q13) (by decide) rfl (tbd tv_X6_note rfl) w_323 ?_
  refine G.alen (16) 1 (by omega) (h.q16) rfl rfl (tbd tv_X6_note rfl) ?_
  refine G.eqs [.int (nI (N)), .int (nI t)] rfl ?_
  refine G.cmp_ge 52 (tbd tv_X6_note rfl) (by decide) (fun c19 => absurd c19 ((nI_ge ht (by omega) : ¬ nI N ≤ nI t))) (fun c19 => ?_)
  refine G.go tv_X6_note 1 23 [(0, .ref (gAd E (13))), (1, .int (nI t))] [.ref (gAd E (13))] rfl ?_
  refine G.getf cls_X6 (13) 2 (by omega) (h.q13) (by decide) rfl (tbd tv_X6_note rfl) w_321 ?_
  refine G.go tv_X6_note 1 27 [(0, .ref (gAd E (13))), (1, .int (nI t))] [.ref (gAd E (13)), .ref (gAd E (14))] rfl ?_
  refine G.getf cls_X6 (13) 5 (by omega) (h.q13) (by decide) rfl (tbd tv_X6_note rfl) w_325 ?_
  refine G.eqs [.int (nI e), .ref (gAd E (14))] (by rw [he]) ?_
  refine G.go tv_X6_note 1 31 [(0, .ref (gAd E (13))), (1, .int (nI t))] [.int (nI t), .int (nI e), .ref (gAd E (14))] rfl ?_
  refine G.iastN (14) (e) (by omega) (h.q14) (by omega) (by omega) (tbd tv_X6_note rfl) ?_
  refine G.gen (P := fun w9 => CfV E w9 N B gr (sA (C) 14 (upd (cA C 14) (e) (nI t))) ∧ Fr CfK f w9) ⟨h.p14 _, Fr.c Fr.rf (by first | exact Or.inl (by decide) | exact Or.inr (by omega))⟩ (fun u3 p3 => ?_)
  obtain ⟨h3, k3⟩ := p3
  refine G.go tv_X6_note 1 33 [(0, .ref (gAd E (13))), (1, .int (nI t))] [.ref (gAd E (13))] rfl ?_
  refine G.getf cls_X6 (13) 4 (by omega) (h3.q13) (by decide) rfl (tbd tv_X6_note rfl) w_323 ?_
  refine G.go tv_X6_note 2 38 [(0, .ref (gAd E (13))), (1, .int (nI t))] [.ref (gAd E (13)), .int (nI t), .ref (gAd E (16))] rfl ?_
  refine G.getf cls_X6 (13) 5 (by omega) (h3.q13) (by decide) rfl (tbd tv_X6_note rfl) w_325 ?_
  refine G.eqs [.int (cS C 1305), .int (nI t), .ref (gAd E (16))] rfl ?_
  refine G.eqs [.int (nI e), .int (nI t), .ref (gAd E (16))] (by rw [he]) ?_
  refine G.iastN (16) (t) (by omega) (h3.q16) (ht) (by omega) (tbd tv_X6_note rfl) ?_
  refine G.gen (P := fun w9 => CfV E w9 N B gr (sA (sA (C) 14 (upd (cA C 14) (e) (nI t))) 16 (upd (cA C 16) (t) (nI e))) ∧ Fr CfK f w9) ⟨h3.p16 _, Fr.c k3 (by first | exact Or.inl (by decide) | exact Or.inr (by omega))⟩ (fun u4 p4 => ?_)
  obtain ⟨h4, k4⟩ := p4
  refine G.go tv_X6_note 2 44 [(0, .ref (gAd E (13))), (1, .int (nI t))] [.ref (gAd E (13)), .ref (gAd E (13))] rfl ?_
  refine G.getf cls_X6 (13) 5 (by omega) (h4.q13) (by decide) rfl (tbd tv_X6_note rfl) w_325 ?_
  refine G.eqs [.int (cS C 1305), .ref (gAd E (13))] rfl ?_
  refine G.eqs [.int (nI e), .ref (gAd E (13))] (by rw [he]) ?_
  refine G.go tv_X6_note 2 49 [(0, .ref (gAd E (13))), (1, .int (nI t))] [.int ((nI e) + ((1 : Int32))), .ref (gAd E (13))] rfl ?_
  refine G.putfS cls_X6 (13) 5 [.ref (gAd E 2), .ref (gAd E 8), .ref (gAd E 14), .ref (gAd E 15), .ref (gAd E 16), .int ((nI e) + ((1 : Int32))), .int (cS (sA (sA (C) 14 (upd (cA C 14) (e) (nI t))) 16 (upd (cA C 16) (t) (nI e))) 1306)] (by omega) (h4.q13) rfl (by decide) rfl rfl rfl (Nat.le_of_ble_eq_true rfl) (tbd tv_X6_note rfl) w_325 ?_
  refine G.gen (P := fun w9 => CfV E w9 N B gr (sS (sA (sA (C) 14 (upd (cA C 14) (e) (nI t))) 16 (upd (cA C 16) (t) (nI e))) 1305 ((nI e) + ((1 : Int32)))) ∧ Fr CfK f w9) ⟨h4.s1305 _, Fr.c k4 (by first | exact Or.inl (by decide) | exact Or.inr (by omega))⟩ (fun u5 p5 => ?_)
  obtain ⟨h5, k5⟩ := p5
  exact G.vret rfl (⟨rfl, h5, k5⟩) (tbd tv_X6_note rfl)
/-- the lowest block above x of the first k entries, -1 if there is none -/
def lgNx (bl : Nat → Int32) (x : Int32) : Nat → Int32
  | 0 => -1
  | k + 1 => if x < bl k ∧ (lgNx bl x k = -1 ∨ bl k < lgNx bl x k) then bl k else lgNx bl x k
def tb_X6_nextAbove : List (Nat × Instr × Nat) := [(0, .iconst (-1), 1), (1, .istore_n 2, 1), (2, .iconst 0, 1), (3, .istore_n 3, 1), (4, .iload_n 3, 1), (5, .aload_n 0, 1), (6, .getfield 42, 3), (9, .if_icmp .ge 41, 3), (12, .aload_n 0, 1), (13, .getfield 9, 3), (16, .iload_n 3, 1), (17, .iaload, 1), (18, .iload_n 1, 1), (19, .if_icmp .le 25, 3), (22, .iload_n 2, 1), (23, .iconst (-1), 1), (24, .if_icmp .eq 13, 3), (27, .aload_n 0, 1), (28, .getfield 9, 3), (31, .iload_n 3, 1), (32, .iaload, 1), (33, .iload_n 2, 1), (34, .if_icmp .ge 10, 3), (37, .aload_n 0, 1), (38, .getfield 9, 3), (41, .iload_n 3, 1), (42, .iaload, 1), (43, .istore_n 2, 1), (44, .iinc 3 1, 3), (47, .goto (-43), 3), (50, .iload_n 2, 1), (51, .ireturn, 1)]
theorem tv_X6_nextAbove : Tv cX6_nextAbove tb_X6_nextAbove := by
  unfold Tv
  decide +kernel
set_option maxRecDepth 100000 in
set_option maxHeartbeats 4000000 in
theorem ln_l (E : gE) (f0 : Nat → va_E) (sz : Nat) (A : Nat → Prop) (Q : gQ) (N B gr : Nat) (C : CfT) (hz : CfZ E N B gr) (x : Int32) (e : Nat) (he : cS C 1305 = nI e) (he2 : e ≤ 40) (kq : ∀ g, CfV E g N B gr (C) → Fr CfK f0 g → G E (1, yX6_nextAbove, 4, (some .int), sz, A) cX6_nextAbove (gO E (1, yX6_nextAbove, 4, (some .int), sz, A) Q) 50 [(0, .ref (gAd E (13))), (1, .int (x)), (2, .int (lgNx (cA C 14) x (e))), (3, .int (nI (e)))] [] g) : ∀ (d j : Nat), j + d = e → ∀ f, CfV E f N B gr (C) → Fr CfK f0 f → G E (1, yX6_nextAbove, 4, (some .int), sz, A) cX6_nextAbove (gO E (1, yX6_nextAbove, 4, (some .int), sz, A) Q) 4 [(0, .ref (gAd E (13))), (1, .int (x)), (2, .int (lgNx (cA C 14) x (j))), (3, .int (nI (j)))] [] f := by
  obtain ⟨z1, z2, z3, z4, z5, z6, z7⟩ := id hz
  intro d
  induction d with
  | zero =>
    intro j ej f h hf
    have ej : j = e := ej
    refine G.go tv_X6_nextAbove 2 6 [(0, .ref (gAd E (13))), (1, .int (x)), (2, .int (lgNx (cA C 14) x (j))), (3, .int (nI (j)))] [.ref (gAd E (13)), .int (nI (j))] rfl ?_
    refine G.getf cls_X6 (13) 5 (by omega) (h.q13) (by decide) rfl (tbd tv_X6_nextAbove rfl) w_325 ?_
    refine G.eqs [.int (nI e), .int (nI (j))] (by rw [he]) ?_
    refine G.cmp_ge 50 (tbd tv_X6_nextAbove rfl) (by decide) (fun c9 => ?_) (fun c9 => absurd (by rw [ej]; exact nI_le (Nat.le_refl _) (by omega)) c9)
    refine G.eql [(0, .ref (gAd E (13))), (1, .int (x)), (2, .int (lgNx (cA C 14) x (e))), (3, .int (nI (e)))] (by rw [ej]) ?_
    exact kq _ (by have q9 := h; first | (rw [ej] at q9; exact q9) | exact q9) (hf)
  | succ d ih =>
    intro j ej f h hf
    refine G.go tv_X6_nextAbove 2 6 [(0, .ref (gAd E (13))), (1, .int (x)), (2, .int (lgNx (cA C 14) x (j))), (3, .int (nI (j)))] [.ref (gAd E (13)), .int (nI (j))] rfl ?_
    refine G.getf cls_X6 (13) 5 (by omega) (h.q13) (by decide) rfl (tbd tv_X6_nextAbove rfl) w_325 ?_
    refine G.eqs [.int (nI e), .int (nI (j))] (by rw [he]) ?_
    refine G.cmp_ge 50 (tbd tv_X6_nextAbove rfl) (by decide) (fun c9 => absurd c9 (nI_ge (by omega) (by omega))) (fun c9 => ?_)
    refine G.go tv_X6_nextAbove 1 13 [(0, .ref (gAd E (13))), (1, .int (x)), (2, .int (lgNx (cA C 14) x (j))), (3, .int (nI (j)))] [.ref (gAd E (13))] rfl ?_
    refine G.getf cls_X6 (13) 2 (by omega) (h.q13) (by decide) rfl (tbd tv_X6_nextAbove rfl) w_321 ?_
    refine G.go tv_X6_nextAbove 1 17 [(0, .ref (gAd E (13))), (1, .int (x)), (2, .int (lgNx (cA C 14) x (j))), (3, .int (nI (j)))] [.int (nI (j)), .ref (gAd E (14))] rfl ?_
    refine G.ialdN (14) (j) (by omega) (h.q14) (by omega) (by omega) (tbd tv_X6_nextAbove rfl) ?_
    refine G.go tv_X6_nextAbove 1 19 [(0, .ref (gAd E (13))), (1, .int (x)), (2, .int (lgNx (cA C 14) x (j))), (3, .int (nI (j)))] [.int (x), .int ((cA C 14) (j))] rfl ?_
    refine G.cmp_le 44 (tbd tv_X6_nextAbove rfl) (by decide) (fun c19 => ?_) (fun c19 => ?_)
    · skip
      refine G.go tv_X6_nextAbove 2 4 [(0, .ref (gAd E (13))), (1, .int (x)), (2, .int (lgNx (cA C 14) x (j))), (3, .int (nI (j) + (1 : Int32)))] [] rfl ?_
      refine G.eql [(0, .ref (gAd E (13))), (1, .int (x)), (2, .int (lgNx (cA C 14) x (j + 1))), (3, .int (nI (j + 1)))] (by rw [show lgNx (cA C 14) x (j + 1) = lgNx (cA C 14) x j from if_neg (by first | exact fun q => (Int32.not_lt.mpr c19) q.1 | exact fun q => q.2.elim c24 (Int32.not_lt.mpr c34)), nI_1]) ?_
      exact ih (j + 1) (by omega) _ (h) (hf)
    · skip
      refine G.go tv_X6_nextAbove 2 24 [(0, .ref (gAd E (13))), (1, .int (x)), (2, .int (lgNx (cA C 14) x (j))), (3, .int (nI (j)))] [.int ((-1 : Int32)), .int (lgNx (cA C 14) x (j))] rfl ?_
      refine G.cmp_eq 37 (tbd tv_X6_nextAbove rfl) (by decide) (fun c24 => ?_) (fun c24 => ?_)
      · skip
        refine G.go tv_X6_nextAbove 1 38 [(0, .ref (gAd E (13))), (1, .int (x)), (2, .int (lgNx (cA C 14) x (j))), (3, .int (nI (j)))] [.ref (gAd E (13))] rfl ?_
        refine G.getf cls_X6 (13) 2 (by omega) (h.q13) (by decide) rfl (tbd tv_X6_nextAbove rfl) w_321 ?_
        refine G.go tv_X6_nextAbove 1 42 [(0, .ref (gAd E (13))), (1, .int (x)), (2, .int (lgNx (cA C 14) x (j))), (3, .int (nI (j)))] [.int (nI (j)), .ref (gAd E (14))] rfl ?_
        refine G.ialdN (14) (j) (by omega) (h.q14) (by omega) (by omega) (tbd tv_X6_nextAbove rfl) ?_
        refine G.go tv_X6_nextAbove 3 4 [(0, .ref (gAd E (13))), (1, .int (x)), (2, .int ((cA C 14) (j))), (3, .int (nI (j) + (1 : Int32)))] [] rfl ?_
        refine G.eql [(0, .ref (gAd E (13))), (1, .int (x)), (2, .int (lgNx (cA C 14) x (j + 1))), (3, .int (nI (j + 1)))] (by rw [show lgNx (cA C 14) x (j + 1) = cA C 14 j from if_pos (by first | exact ⟨Int32.not_le.mp c19, Or.inl c24⟩ | exact ⟨Int32.not_le.mp c19, Or.inr (Int32.not_le.mp c34)⟩), nI_1]) ?_
        exact ih (j + 1) (by omega) _ (h) (hf)
      · skip
        refine G.go tv_X6_nextAbove 1 28 [(0, .ref (gAd E (13))), (1, .int (x)), (2, .int (lgNx (cA C 14) x (j))), (3, .int (nI (j)))] [.ref (gAd E (13))] rfl ?_
        refine G.getf cls_X6 (13) 2 (by omega) (h.q13) (by decide) rfl (tbd tv_X6_nextAbove rfl) w_321 ?_
        refine G.go tv_X6_nextAbove 1 32 [(0, .ref (gAd E (13))), (1, .int (x)), (2, .int (lgNx (cA C 14) x (j))), (3, .int (nI (j)))] [.int (nI (j)), .ref (gAd E (14))] rfl ?_
        refine G.ialdN (14) (j) (by omega) (h.q14) (by omega) (by omega) (tbd tv_X6_nextAbove rfl) ?_
        refine G.go tv_X6_nextAbove 1 34 [(0, .ref (gAd E (13))), (1, .int (x)), (2, .int (lgNx (cA C 14) x (j))), (3, .int (nI (j)))] [.int (lgNx (cA C 14) x (j)), .int ((cA C 14) (j))] rfl ?_
        refine G.cmp_ge 44 (tbd tv_X6_nextAbove rfl) (by decide) (fun c34 => ?_) (fun c34 => ?_)
        · skip
          refine G.go tv_X6_nextAbove 2 4 [(0, .ref (gAd E (13))), (1, .int (x)), (2, .int (lgNx (cA C 14) x (j))), (3, .int (nI (j) + (1 : Int32)))] [] rfl ?_
          refine G.eql [(0, .ref (gAd E (13))), (1, .int (x)), (2, .int (lgNx (cA C 14) x (j + 1))), (3, .int (nI (j + 1)))] (by rw [show lgNx (cA C 14) x (j + 1) = lgNx (cA C 14) x j from if_neg (by first | exact fun q => (Int32.not_lt.mpr c19) q.1 | exact fun q => q.2.elim c24 (Int32.not_lt.mpr c34)), nI_1]) ?_
          exact ih (j + 1) (by omega) _ (h) (hf)
        · skip
          refine G.go tv_X6_nextAbove 1 38 [(0, .ref (gAd E (13))), (1, .int (x)), (2, .int (lgNx (cA C 14) x (j))), (3, .int (nI (j)))] [.ref (gAd E (13))] rfl ?_
          refine G.getf cls_X6 (13) 2 (by omega) (h.q13) (by decide) rfl (tbd tv_X6_nextAbove rfl) w_321 ?_
          refine G.go tv_X6_nextAbove 1 42 [(0, .ref (gAd E (13))), (1, .int (x)), (2, .int (lgNx (cA C 14) x (j))), (3, .int (nI (j)))] [.int (nI (j)), .ref (gAd E (14))] rfl ?_
          refine G.ialdN (14) (j) (by omega) (h.q14) (by omega) (by omega) (tbd tv_X6_nextAbove rfl) ?_
          refine G.go tv_X6_nextAbove 3 4 [(0, .ref (gAd E (13))), (1, .int (x)), (2, .int ((cA C 14) (j))), (3, .int (nI (j) + (1 : Int32)))] [] rfl ?_
          refine G.eql [(0, .ref (gAd E (13))), (1, .int (x)), (2, .int (lgNx (cA C 14) x (j + 1))), (3, .int (nI (j + 1)))] (by rw [show lgNx (cA C 14) x (j + 1) = cA C 14 j from if_pos (by first | exact ⟨Int32.not_le.mp c19, Or.inl c24⟩ | exact ⟨Int32.not_le.mp c19, Or.inr (Int32.not_le.mp c34)⟩), nI_1]) ?_
          exact ih (j + 1) (by omega) _ (h) (hf)
set_option maxRecDepth 100000 in
set_option maxHeartbeats 4000000 in
theorem k_nextAbove (E : gE) (f : Nat → va_E) (N B gr : Nat) (C : CfT) (hz : CfZ E N B gr) (h : CfV E f N B gr C) (x : Int32) (e : Nat) (he : cS C 1305 = nI e) (he2 : e ≤ 40) : Ct E 1 yX6_nextAbove cX6_nextAbove 4 (some .int) [.ref (gAd E (13)), .int (x)] f (fun v g => v = some (.int (lgNx (cA C 14) x e)) ∧ CfV E g N B gr (C) ∧ Fr CfK f g, fun _ _ => False) := by
  obtain ⟨z1, z2, z3, z4, z5, z6, z7⟩ := id hz
  refine Ct.of (by decide) (Nat.le_of_ble_eq_true rfl) (fun sz => ?_)
  refine G.eql [(0, .ref (gAd E (13))), (1, .int (x))] rfl ?_
  refine G.go tv_X6_nextAbove 4 4 [(0, .ref (gAd E (13))), (1, .int (x)), (2, .int ((-1 : Int32))), (3, .int ((0 : Int32)))] [] rfl ?_
  refine G.eql [(0, .ref (gAd E (13))), (1, .int (x)), (2, .int (lgNx (cA C 14) x (0))), (3, .int (nI (0)))] rfl ?_
  refine ln_l E f _ _ _ N B gr C hz x e he he2 (fun g h1 hf1 => ?_) e 0 (by omega) _ h Fr.rf
  refine G.go tv_X6_nextAbove 1 51 [(0, .ref (gAd E (13))), (1, .int (x)), (2, .int (lgNx (cA C 14) x (e))), (3, .int (nI (e)))] [.int (lgNx (cA C 14) x (e))] rfl ?_
  exact G.iret rfl rfl (⟨rfl, h1, hf1⟩) (tbd tv_X6_nextAbove rfl)
/-- the numbers of the first k entries in a row -/
def nmR (bl g : Nat → Int32) : Nat → Nat → Int32
  | 0 => g
  | k + 1 => s_two (nmR bl g k) (2 * k) (bl k)
theorem nmR_b {bl g : Nat → Int32} (h : Byt g) : ∀ k, Byt (nmR bl g k)
  | 0 => h
  | k + 1 => (nmR_b h k).s_two
def tb_X6_numbers : List (Nat × Instr × Nat) := [(0, .aload_n 0, 1), (1, .getfield 15, 3), (4, .iconst 0, 1), (5, .invokestatic 53, 3), (8, .iconst 0, 1), (9, .istore_n 1, 1), (10, .iload_n 1, 1), (11, .aload_n 0, 1), (12, .getfield 42, 3), (15, .if_icmp .ge 25, 3), (18, .aload_n 0, 1), (19, .getfield 15, 3), (22, .iconst 2, 1), (23, .iload_n 1, 1), (24, .imul, 1), (25, .aload_n 0, 1), (26, .getfield 9, 3), (29, .iload_n 1, 1), (30, .iaload, 1), (31, .invokestatic 56, 3), (34, .iinc 1 1, 3), (37, .goto (-27), 3), (40, .aload_n 0, 1), (41, .getfield 15, 3), (44, .areturn, 1)]
theorem tv_X6_numbers : Tv cX6_numbers tb_X6_numbers := by
  unfold Tv
  decide +kernel
set_option maxRecDepth 100000 in
set_option maxHeartbeats 4000000 in
theorem nu_l (E : gE) (f0 : Nat → va_E) (sz : Nat) (A : Nat → Prop) (Q : gQ) (N B gr : Nat) (C : CfT) (hz : CfZ E N B gr) (e : Nat) (he : cS C 1305 = nI e) (he2 : e ≤ 40) (kq : ∀ g, CfV E g N B gr (sA C 15 (nmR (cA C 14) (flt (cA C 15) 0 128 (vp_nar .byte ((0 : Int32)))) (e))) → Fr CfK f0 g → G E (3, yX6_numbers, 2, (some (.array .byte)), sz, A) cX6_numbers (gO E (3, yX6_numbers, 2, (some (.array .byte)), sz, A) Q) 40 [(0, .ref (gAd E (13))), (1, .int (nI (e)))] [] g) : ∀ (d j : Nat), j + d = e → ∀ f, CfV E f N B gr (sA C 15 (nmR (cA C 14) (flt (cA C 15) 0 128 (vp_nar .byte ((0 : Int32)))) (j))) → Fr CfK f0 f → G E (3, yX6_numbers, 2, (some (.array .byte)), sz, A) cX6_numbers (gO E (3, yX6_numbers, 2, (some (.array .byte)), sz, A) Q) 10 [(0, .ref (gAd E (13))), (1, .int (nI (j)))] [] f := by
  obtain ⟨z1, z2, z3, z4, z5, z6, z7⟩ := id hz
  intro d
  induction d with
  | zero =>
    intro j ej f h hf
    have ej : j = e := ej
    refine G.go tv_X6_numbers 2 12 [(0, .ref (gAd E (13))), (1, .int (nI (j)))] [.ref (gAd E (13)), .int (nI (j))] rfl ?_
    refine G.getf cls_X6 (13) 5 (by omega) (h.q13) (by decide) rfl (tbd tv_X6_numbers rfl) w_325 ?_
    refine G.eqs [.int (cS C 1305), .int (nI (j))] rfl ?_
    refine G.eqs [.int (nI e), .int (nI (j))] (by rw [he]) ?_
    refine G.cmp_ge 40 (tbd tv_X6_numbers rfl) (by decide) (fun c15 => ?_) (fun c15 => absurd (by rw [ej]; exact nI_le (Nat.le_refl _) (by omega)) c15)
    refine G.eql [(0, .ref (gAd E (13))), (1, .int (nI (e)))] (by rw [ej]) ?_
    exact kq _ (by have q9 := h; first | (rw [ej] at q9; exact q9) | exact q9) (hf)
  | succ d ih =>
    intro j ej f h hf
    refine G.go tv_X6_numbers 2 12 [(0, .ref (gAd E (13))), (1, .int (nI (j)))] [.ref (gAd E (13)), .int (nI (j))] rfl ?_
    refine G.getf cls_X6 (13) 5 (by omega) (h.q13) (by decide) rfl (tbd tv_X6_numbers rfl) w_325 ?_
    refine G.eqs [.int (cS C 1305), .int (nI (j))] rfl ?_
    refine G.eqs [.int (nI e), .int (nI (j))] (by rw [he]) ?_
    refine G.cmp_ge 40 (tbd tv_X6_numbers rfl) (by decide) (fun c15 => absurd c15 (nI_ge (by omega) (by omega))) (fun c15 => ?_)
    refine G.go tv_X6_numbers 1 19 [(0, .ref (gAd E (13))), (1, .int (nI (j)))] [.ref (gAd E (13))] rfl ?_
    refine G.getf cls_X6 (13) 3 (by omega) (h.q13) (by decide) rfl (tbd tv_X6_numbers rfl) w_322 ?_
    refine G.go tv_X6_numbers 4 26 [(0, .ref (gAd E (13))), (1, .int (nI (j)))] [.ref (gAd E (13)), .int (((2 : Int32)) * (nI (j))), .ref (gAd E (15))] rfl ?_
    refine G.getf cls_X6 (13) 2 (by omega) (h.q13) (by decide) rfl (tbd tv_X6_numbers rfl) w_321 ?_
    refine G.go tv_X6_numbers 1 30 [(0, .ref (gAd E (13))), (1, .int (nI (j)))] [.int (nI (j)), .ref (gAd E (14)), .int (((2 : Int32)) * (nI (j))), .ref (gAd E (15))] rfl ?_
    refine G.ialdN (14) (j) (by omega) (h.q14) (by omega) (by omega) (tbd tv_X6_numbers rfl) ?_
    refine G.eqs [.int ((cA C 14) (j)), .int (nI (2 * j)), .ref (gAd E (15))] (by rw [show (2 : Int32) = nI 2 from rfl, pk_mul] <;> rfl) ?_
    refine G.callS [.ref (gAd E (15)), .int (nI (2 * j)), .int ((cA C 14) (j))] [] (c_X2_setTwo E _ 15 (2 * j) 128 (nmR (cA C 14) (flt (cA C 15) 0 128 (vp_nar .byte ((0 : Int32)))) (j)) (by omega) (h.q15) (by omega) (by omega) ((cA C 14) (j))) cw_X6_56 w_787 (Nat.le_of_ble_eq_true rfl) rfl (Nat.le_of_ble_eq_true rfl) (tbd tv_X6_numbers rfl) (fun v1 f1 q1 => ?_) (fun _ _ h => h.elim)
    obtain ⟨rfl, rfl⟩ := q1
    refine G.eqs [] rfl ?_
    refine G.gen (P := fun w9 => CfV E w9 N B gr (sA (sA C 15 (nmR (cA C 14) (flt (cA C 15) 0 128 (vp_nar .byte ((0 : Int32)))) (j))) 15 (s_two (nmR (cA C 14) (flt (cA C 15) 0 128 (vp_nar .byte ((0 : Int32)))) (j)) (2 * j) ((cA C 14) (j)))) ∧ Fr CfK f0 w9) ⟨h.p15 _, Fr.c hf (by first | exact Or.inl (by decide) | exact Or.inr (by omega))⟩ (fun u6 p6 => ?_)
    obtain ⟨h6, k6⟩ := p6
    refine G.go tv_X6_numbers 2 10 [(0, .ref (gAd E (13))), (1, .int (nI (j) + (1 : Int32)))] [] rfl ?_
    refine G.eql [(0, .ref (gAd E (13))), (1, .int (nI (j + 1)))] (by rw [nI_1]) ?_
    exact ih (j + 1) (by omega) _ (h6) (k6)
set_option maxRecDepth 100000 in
set_option maxHeartbeats 4000000 in
theorem k_numbers (E : gE) (f : Nat → va_E) (N B gr : Nat) (C : CfT) (hz : CfZ E N B gr) (h : CfV E f N B gr C) (e : Nat) (he : cS C 1305 = nI e) (he2 : e ≤ 40) : Ct E 3 yX6_numbers cX6_numbers 2 (some (.array .byte)) [.ref (gAd E (13))] f (fun v g => v = some (.ref (gAd E 15)) ∧ CfV E g N B gr (sA C 15 (nmR (cA C 14) (flt (cA C 15) 0 128 (vp_nar .byte ((0 : Int32)))) e)) ∧ Fr CfK f g, fun _ _ => False) := by
  obtain ⟨z1, z2, z3, z4, z5, z6, z7⟩ := id hz
  refine Ct.of (by decide) (Nat.le_of_ble_eq_true rfl) (fun sz => ?_)
  refine G.eql [(0, .ref (gAd E (13)))] rfl ?_
  refine G.go tv_X6_numbers 1 1 [(0, .ref (gAd E (13)))] [.ref (gAd E (13))] rfl ?_
  refine G.getf cls_X6 (13) 3 (by omega) (h.q13) (by decide) rfl (tbd tv_X6_numbers rfl) w_322 ?_
  refine G.go tv_X6_numbers 1 5 [(0, .ref (gAd E (13)))] [.int ((0 : Int32)), .ref (gAd E (15))] rfl ?_
  refine G.callS [.ref (gAd E (15)), .int ((0 : Int32))] [] (c_J7_fill_031fb E _ (15) (128) (cA C 15) ((0 : Int32)) (by omega) (h.q15) (by omega)) cw_X6_53 w_715 (Nat.le_of_ble_eq_true rfl) rfl (Nat.le_of_ble_eq_true rfl) (tbd tv_X6_numbers rfl) (fun v1 f1 q1 => ?_) (fun _ _ h => h.elim)
  obtain ⟨rfl, rfl⟩ := q1
  refine G.eqs [] rfl ?_
  refine G.gen (P := fun w9 => CfV E w9 N B gr (sA (C) 15 (flt (cA C 15) 0 (128) (vp_nar .byte ((0 : Int32))))) ∧ Fr CfK f w9) ⟨h.p15 _, Fr.c Fr.rf (by first | exact Or.inl (by decide) | exact Or.inr (by omega))⟩ (fun u7 p7 => ?_)
  obtain ⟨h7, k7⟩ := p7
  refine G.go tv_X6_numbers 2 10 [(0, .ref (gAd E (13))), (1, .int ((0 : Int32)))] [] rfl ?_
  refine G.eql [(0, .ref (gAd E (13))), (1, .int (nI (0)))] rfl ?_
  refine nu_l E f _ _ _ N B gr C hz e he he2 (fun g h1 hf1 => ?_) e 0 (by omega) _ h7 k7
  refine G.go tv_X6_numbers 1 41 [(0, .ref (gAd E (13))), (1, .int (nI (e)))] [.ref (gAd E (13))] rfl ?_
  refine G.getf cls_X6 (13) 3 (by omega) (h1.q13) (by decide) rfl (tbd tv_X6_numbers rfl) w_322 ?_
  exact G.aret rfl (⟨rfl, h1, hf1⟩) (tbd tv_X6_numbers rfl)
