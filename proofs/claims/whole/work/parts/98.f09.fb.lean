/-- the class's queue stands for the changes qs; en: where they end -/
def QeR (N gr : Nat) (C : CfT) (qs : List QC) (en : Nat → Nat) : Prop := en 0 = 0 ∧ cS C 1708 = nI qs.length ∧ qs.length ≤ gr ∧ cS C 1707 = nI (en qs.length) ∧ (∀ i, i < qs.length → cA C 22 i = nI (en (i + 1)) ∧ en i ≤ en (i + 1) ∧ en (i + 1) ≤ en i + 40 ∧ ChR N C (en i) (en (i + 1)) (qAt qs i)) ∧ ∀ b, b < N → (cA C 20 b = -1 ∧ qVal qs b = none) ∨ ∃ r, r < en qs.length ∧ cA C 20 b = nI r ∧ qVal qs b = some (nr (cR C 4 r))
theorem QeR.smb {N gr : Nat} {C C' : CfT} {qs : List QC} {en : Nat → Nat} (h : QeR N gr C qs en) (hs : SmB C C') : QeR N gr C' qs en := by
  obtain ⟨s1, s2, s3⟩ := hs
  have e22 : cA C' 22 = cA C 22 := s2 22 (by decide)
  have e20 : cA C' 20 = cA C 20 := s2 20 (by decide)
  have e19 : cA C' 19 = cA C 19 := s2 19 (by decide)
  have e4 : ∀ r, cR C' 4 r = cR C 4 r := fun r => congrFun (congrFun s3 4) r
  have eb : ∀ r, qBk C' r = qBk C r := fun r => by unfold qBk; rw [e19]
  obtain ⟨h1, h2, h3, h4, h5, h6⟩ := h
  refine ⟨h1, (s1 1708 (by decide)).trans h2, h3, (s1 1707 (by decide)).trans h4, fun i hi => ?_, fun b hb => ?_⟩
  · obtain ⟨q1, q2, q3, q4, q5, q6⟩ := h5 i hi
    refine ⟨by rw [e22]; exact q1, q2, q3, fun r hr1 hr2 => ?_, fun b x hb => ?_, fun r s a1 a2 a3 a4 e => ?_⟩
    · rw [eb, e19, e4]
      exact q4 r hr1 hr2
    · obtain ⟨r, hr⟩ := q5 b x hb
      exact ⟨r, by rw [eb]; exact hr⟩
    · rw [eb, eb] at e
      exact q6 r s a1 a2 a3 a4 e
  · rcases h6 b hb with ⟨q1, q2⟩ | ⟨r, q1, q2, q3⟩
    · exact Or.inl ⟨by rw [e20]; exact q1, q2⟩
    · exact Or.inr ⟨r, q1, by rw [e20]; exact q2, by rw [e4]; exact q3⟩
theorem QeR.le {N gr : Nat} {C : CfT} {qs : List QC} {en : Nat → Nat} (h : QeR N gr C qs en) : ∀ i, i ≤ qs.length → en i ≤ i * 40
  | 0, _ => by rw [h.1]; exact Nat.zero_le _
  | i + 1, hi => by
    have := QeR.le h i (by omega)
    have := (h.2.2.2.2.1 i (by omega)).2.2.1
    omega
theorem QeR.lg {N gr : Nat} {C : CfT} {qs : List QC} {en : Nat → Nat} (h : QeR N gr C qs en) {i : Nat} (hi : i ≤ qs.length) : en i ≤ gr * 40 := Nat.le_trans (h.le i hi) (Nat.mul_le_mul_right 40 (Nat.le_trans hi h.2.2.1))
def tb_X9_fillBatch : List (Nat × Instr × Nat) := [(0, .aload_n 0, 1), (1, .iconst 0, 1), (2, .putfield 68, 3), (5, .iload_n 1, 1), (6, .ifCond .ne 7, 3), (9, .iconst 0, 1), (10, .goto 11, 3), (13, .aload_n 0, 1), (14, .getfield 27, 3), (17, .iload_n 1, 1), (18, .iconst 1, 1), (19, .isub, 1), (20, .iaload, 1), (21, .istore_n 2, 1), (22, .iload_n 1, 1), (23, .aload_n 0, 1), (24, .getfield 50, 3), (27, .if_icmp .ge 60, 3), (30, .aload_n 0, 1), (31, .getfield 68, 3), (34, .aload_n 0, 1), (35, .iload_n 2, 1), (36, .aload_n 0, 1), (37, .getfield 27, 3), (40, .iload_n 1, 1), (41, .iaload, 1), (42, .invokevirtual 79, 3), (45, .iadd, 1), (46, .bipush 40, 2), (48, .if_icmp .gt 39, 3), (51, .iload_n 2, 1), (52, .istore_n 3, 1), (53, .iload_n 3, 1), (54, .aload_n 0, 1), (55, .getfield 27, 3), (58, .iload_n 1, 1), (59, .iaload, 1), (60, .if_icmp .ge 14, 3), (63, .aload_n 0, 1), (64, .iload_n 3, 1), (65, .invokevirtual 83, 3), (68, .iinc 3 1, 3), (71, .goto (-18), 3), (74, .aload_n 0, 1), (75, .getfield 27, 3), (78, .iload_n 1, 1), (79, .iaload, 1), (80, .istore_n 2, 1), (81, .iinc 1 1, 3), (84, .goto (-62), 3), (87, .iload_n 1, 1), (88, .ireturn, 1)]
theorem tv_X9_fillBatch : Tv cX9_fillBatch tb_X9_fillBatch := by
  unfold Tv
  decide +kernel
theorem w_1293 : Cond.methodLink "LedgerFiles$Queue" 83 yX9_toBatch ∈ TB := tp_5 187 (by decide +kernel) rfl
theorem w_1296 : Cond.code yX9_toBatch prog_11_method_13_code 3 none ∈ TB := tp_5 190 rfl rfl
theorem cw_X9_83 : Cw RX9 83 yX9_toBatch cX9_toBatch 3 none 1 := ⟨w_1293, w_1296, w_154, by decide +kernel, by decide +kernel, by decide⟩
theorem w_1295 : Cond.instanceMethod yX9_toBatch ∈ TB := tp_5 189 (by decide +kernel) rfl
theorem w_24 : Cond.selects "LedgerFiles$Queue" yX9_toBatch yX9_toBatch ∈ TB := tp_0 24 (by decide +kernel) rfl
set_option maxRecDepth 100000 in
set_option maxHeartbeats 4000000 in
theorem fb_i (E : gE) (f0 : Nat → va_E) (sz : Nat) (A : Nat → Prop) (Q : gQ) (N B gr : Nat) (C0 : CfT) (hz : CfZ E N B gr) (bt : List En) (a z i : Nat) (q : QC) (hc : ChR N C0 a z q) (haz : a ≤ z) (hzg : z ≤ gr * 40) (hi : cA C0 22 i = nI z) (hig : i < gr) (hs : Srt bt) (hl : bt.length + nwC bt (qBk C0) a (z - a) ≤ 40)
    (kq : ∀ g C r, CfV E g N B gr C → Fr CfK f0 g → BtR N gr C (btF C0 a bt (z - a)) r → SmB C0 C → G E (4, yX9_fillBatch, 4, (some .int), sz, A) cX9_fillBatch (gO E (4, yX9_fillBatch, 4, (some .int), sz, A) Q) 74 [(0, .ref (gAd E (17))), (1, .int (nI i)), (2, .int (nI a)), (3, .int (nI (a + (z - a))))] [] g) :
    ∀ (d k : Nat), k + d = z - a → ∀ f C r, CfV E f N B gr C → Fr CfK f0 f → BtR N gr C (btF C0 a bt k) r → SmB C0 C → G E (4, yX9_fillBatch, 4, (some .int), sz, A) cX9_fillBatch (gO E (4, yX9_fillBatch, 4, (some .int), sz, A) Q) 53 [(0, .ref (gAd E (17))), (1, .int (nI i)), (2, .int (nI a)), (3, .int (nI (a + (k))))] [] f := by
  obtain ⟨z1, z2, z3, z4, z5, z6, z7⟩ := id hz
  intro d
  induction d with
  | zero =>
    intro k e f C r h hf hb hsb
    have e : k = z - a := e
    subst e
    have e22 : cA C 22 i = nI z := (congrFun (hsb.2.1 22 (by decide)) i).trans hi
    refine G.go tv_X9_fillBatch 2 55 [(0, .ref (gAd E (17))), (1, .int (nI i)), (2, .int (nI a)), (3, .int (nI (a + (z - a))))] [.ref (gAd E (17)), .int (nI (a + (z - a)))] rfl ?_
    refine G.getf cls_X9 (17) 6 (by omega) (h.q17) (by decide) rfl (tbd tv_X9_fillBatch rfl) w_365 ?_
    refine G.go tv_X9_fillBatch 1 59 [(0, .ref (gAd E (17))), (1, .int (nI i)), (2, .int (nI a)), (3, .int (nI (a + (z - a))))] [.int (nI i), .ref (gAd E (22)), .int (nI (a + (z - a)))] rfl ?_
    refine G.ialdN (22) (i) (by omega) (h.q22) (by omega) (by omega) (tbd tv_X9_fillBatch rfl) ?_
    refine G.cmp_ge 74 (tbd tv_X9_fillBatch rfl) (by decide) (fun c60 => ?_) (fun c60 => absurd ((by rw [e22]; exact nI_le (by omega) (by omega) : cA C 22 i ≤ nI (a + (z - a)))) c60)
    exact kq _ C r h hf hb hsb
  | succ d ih =>
    intro k e f C r h hf hb hsb
    have e22 : cA C 22 i = nI z := (congrFun (hsb.2.1 22 (by decide)) i).trans hi
    have e19 : cA C 19 = cA C0 19 := hsb.2.1 19 (by decide)
    have e4 : cR C 4 (a + k) = cR C0 4 (a + k) := congrFun (congrFun hsb.2.2 4) (a + k)
    obtain ⟨c1, c2, c3, c4, c5⟩ := hc.1 (a + k) (by omega) (by omega)
    obtain ⟨l1, l2⟩ := btF_len hc hs k (by omega)
    have l2 := l2 (by omega)
    have hmon : ∀ n m, n ≤ m → nwC bt (qBk C0) a n ≤ nwC bt (qBk C0) a m := fun n m hnm => by
      induction m with
      | zero => rw [show n = 0 by omega]; exact Nat.le_refl _
      | succ m ihm =>
        by_cases cn : n = m + 1
        · rw [cn]; exact Nat.le_refl _
        · have := ihm (by omega)
          show _ ≤ nwC bt (qBk C0) a m + _
          omega
    have hm1 := hmon k (z - a) (by omega)
    have hm2 := hmon (k + 1) (z - a) (by omega)
    have hfit : lVal (btF C0 a bt k) (qBk C0 (a + k)) = none → (btF C0 a bt k).length < 40 := fun zz => by
      rw [l2] at zz
      have : nwC bt (qBk C0) a (k + 1) = nwC bt (qBk C0) a k + 1 := by
        show nwC bt (qBk C0) a k + _ = _
        rw [if_pos zz]
      omega
    refine G.go tv_X9_fillBatch 2 55 [(0, .ref (gAd E (17))), (1, .int (nI i)), (2, .int (nI a)), (3, .int (nI (a + (k))))] [.ref (gAd E (17)), .int (nI (a + (k)))] rfl ?_
    refine G.getf cls_X9 (17) 6 (by omega) (h.q17) (by decide) rfl (tbd tv_X9_fillBatch rfl) w_365 ?_
    refine G.go tv_X9_fillBatch 1 59 [(0, .ref (gAd E (17))), (1, .int (nI i)), (2, .int (nI a)), (3, .int (nI (a + (k))))] [.int (nI i), .ref (gAd E (22)), .int (nI (a + (k)))] rfl ?_
    refine G.ialdN (22) (i) (by omega) (h.q22) (by omega) (by omega) (tbd tv_X9_fillBatch rfl) ?_
    refine G.cmp_ge 74 (tbd tv_X9_fillBatch rfl) (by decide) (fun c60 => absurd c60 ((by rw [e22]; exact nI_ge (by omega) (by omega) : ¬ cA C 22 i ≤ nI (a + k)))) (fun c60 => ?_)
    refine G.go tv_X9_fillBatch 2 65 [(0, .ref (gAd E (17))), (1, .int (nI i)), (2, .int (nI a)), (3, .int (nI (a + (k))))] [.int (nI (a + (k))), .ref (gAd E (17))] rfl ?_
    refine G.callV (17) [.int (nI (a + (k)))] [] (r_toBatch E _ N B gr C hz h (btF C0 a bt k) r hb (by omega) (btF_srt hs k) (a + k) (qBk C0 (a + k)) (by omega) c1 (by rw [e19]; exact c3) (by rw [e4]; exact c5) hfit) cls_X9 (by omega) (h.q17) cw_X9_83 w_1295 w_24 (Nat.le_of_ble_eq_true rfl) rfl (Nat.le_of_ble_eq_true rfl) (tbd tv_X9_fillBatch rfl) (fun v1 f1 q1 => ?_) (fun _ _ h => h.elim)
    obtain ⟨rfl, ⟨C1, hc1, ⟨r1, hb1⟩, hs1⟩, fa1⟩ := q1
    refine G.eqs [] rfl ?_
    refine G.go tv_X9_fillBatch 2 53 [(0, .ref (gAd E (17))), (1, .int (nI i)), (2, .int (nI a)), (3, .int (nI (a + (k)) + (1 : Int32)))] [] rfl ?_
    refine G.eql [(0, .ref (gAd E (17))), (1, .int (nI i)), (2, .int (nI a)), (3, .int (nI (a + (k + 1))))] (by rw [nI_1]; rfl) ?_
    rw [e4] at hb1
    exact ih (k + 1) (by omega) _ C1 r1 (hc1) ((hf.tr fa1 (fun _ h => h))) hb1 (hsb.tr hs1)
