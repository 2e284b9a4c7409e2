theorem w_1281 : Cond.methodLink "LedgerFiles$Queue" 79 yX9_newInBatch ∈ TB := tp_5 175 (by decide +kernel) rfl
theorem w_1284 : Cond.code yX9_newInBatch prog_11_method_12_code 5 (some .int) ∈ TB := tp_5 178 rfl rfl
theorem cw_X9_79 : Cw RX9 79 yX9_newInBatch cX9_newInBatch 5 (some .int) 2 := ⟨w_1281, w_1284, w_154, by decide +kernel, by decide +kernel, by decide⟩
theorem w_1283 : Cond.instanceMethod yX9_newInBatch ∈ TB := tp_5 177 (by decide +kernel) rfl
theorem w_21 : Cond.selects "LedgerFiles$Queue" yX9_newInBatch yX9_newInBatch ∈ TB := tp_0 21 (by decide +kernel) rfl
theorem qFill_t {N : Nat} {q : QC} {qs : List QC} {bt : List En} (h : (bJoin N bt q).length ≤ 40) : qFill N (q :: qs) bt = qFill N qs (bJoin N bt q) := if_pos h
theorem qFill_f {N : Nat} {q : QC} {qs : List QC} {bt : List En} (h : ¬ (bJoin N bt q).length ≤ 40) : qFill N (q :: qs) bt = (bt, q :: qs) := if_neg h
set_option maxRecDepth 100000 in
set_option maxHeartbeats 4000000 in
theorem fb_o (E : gE) (f0 : Nat → va_E) (sz : Nat) (A : Nat → Prop) (N B gr : Nat) (C0 : CfT) (hz : CfZ E N B gr) (qs : List QC) (en : Nat → Nat) (hq : QeR N gr C0 qs en) (i0 : Nat) :
    ∀ (d i : Nat), i + d = qs.length → ∀ f C bt r, CfV E f N B gr C → Fr CfK f0 f → BtR N gr C bt r → Srt bt → bt.length ≤ 40 → (∀ p ∈ bt, p.1 < N) → SmB C0 C → qFill N (qs.drop i) bt = qFill N (qs.drop i0) [] → G E (4, yX9_fillBatch, 4, (some .int), sz, A) cX9_fillBatch (gO E (4, yX9_fillBatch, 4, (some .int), sz, A) (fun v g => ∃ i', v = some (.int (nI i')) ∧ i' ≤ qs.length ∧ (qFill N (qs.drop i0) []).2 = qs.drop i' ∧ (∃ C', CfV E g N B gr C' ∧ (∃ r', BtR N gr C' (qFill N (qs.drop i0) []).1 r') ∧ SmB C0 C') ∧ Fr CfK f0 g, fun _ _ => False)) 22 [(0, .ref (gAd E (17))), (1, .int (nI (i))), (2, .int (nI (en (i))))] [] f := by
  obtain ⟨z1, z2, z3, z4, z5, z6, z7⟩ := id hz
  have hgr := hq.2.2.1
  intro d
  induction d with
  | zero =>
    intro i e f C bt r h hf hb hsr h40 hbN hsb ho
    have e : i = qs.length := e
    subst e
    have e8 : cS C 1708 = nI qs.length := (hq.smb hsb).2.1
    refine G.go tv_X9_fillBatch 2 24 [(0, .ref (gAd E (17))), (1, .int (nI (qs.length))), (2, .int (nI (en (qs.length))))] [.ref (gAd E (17)), .int (nI (qs.length))] rfl ?_
    refine G.getf cls_X9 (17) 8 (by omega) (h.q17) (by decide) rfl (tbd tv_X9_fillBatch rfl) w_367 ?_
    refine G.eqs [.int (nI qs.length), .int (nI (qs.length))] (by rw [e8]) ?_
    refine G.cmp_ge 87 (tbd tv_X9_fillBatch rfl) (by decide) (fun c27 => ?_) (fun c27 => absurd (nI_le (Nat.le_refl _) (by omega)) c27)
    refine G.go tv_X9_fillBatch 1 88 [(0, .ref (gAd E (17))), (1, .int (nI (qs.length))), (2, .int (nI (en (qs.length))))] [.int (nI (qs.length))] rfl ?_
    exact G.iret rfl rfl (⟨qs.length, rfl, Nat.le_refl _, by rw [← ho, List.drop_length]; rfl, ⟨C, h, ⟨r, by rw [← ho, List.drop_length]; exact hb⟩, hsb⟩, hf⟩) (tbd tv_X9_fillBatch rfl)
  | succ d ih =>
    intro i e f C bt r h hf hb hsr h40 hbN hsb ho
    have hqc := hq.smb hsb
    have e8 : cS C 1708 = nI qs.length := hqc.2.1
    have hil : i < qs.length := by omega
    have hig : i < gr := by omega
    obtain ⟨c22, c2, c3, hch⟩ := hqc.2.2.2.2.1 i hil
    have hzg := hqc.lg (i := i + 1) (by omega)
    have hall := btF_all hch c2 hsr hbN
    have hlen := (btF_len hch hsr (en (i + 1) - en i) (by omega)).1
    have hnw := nwC_le (bt := bt) (blk := qBk C) (a := en i) (en (i + 1) - en i)
    refine G.go tv_X9_fillBatch 2 24 [(0, .ref (gAd E (17))), (1, .int (nI (i))), (2, .int (nI (en (i))))] [.ref (gAd E (17)), .int (nI (i))] rfl ?_
    refine G.getf cls_X9 (17) 8 (by omega) (h.q17) (by decide) rfl (tbd tv_X9_fillBatch rfl) w_367 ?_
    refine G.eqs [.int (nI qs.length), .int (nI (i))] (by rw [e8]) ?_
    refine G.cmp_ge 87 (tbd tv_X9_fillBatch rfl) (by decide) (fun c27 => absurd c27 (nI_ge (by omega) (by omega))) (fun c27 => ?_)
    refine G.go tv_X9_fillBatch 1 31 [(0, .ref (gAd E (17))), (1, .int (nI (i))), (2, .int (nI (en (i))))] [.ref (gAd E (17))] rfl ?_
    refine G.getf cls_X9 (17) 5 (by omega) (h.q17) (by decide) rfl (tbd tv_X9_fillBatch rfl) w_363 ?_
    refine G.eqs [.int (nI bt.length)] (by rw [hb.1]) ?_
    refine G.go tv_X9_fillBatch 3 37 [(0, .ref (gAd E (17))), (1, .int (nI (i))), (2, .int (nI (en (i))))] [.ref (gAd E (17)), .int (nI (en (i))), .ref (gAd E (17)), .int (nI bt.length)] rfl ?_
    refine G.getf cls_X9 (17) 6 (by omega) (h.q17) (by decide) rfl (tbd tv_X9_fillBatch rfl) w_365 ?_
    refine G.go tv_X9_fillBatch 1 41 [(0, .ref (gAd E (17))), (1, .int (nI (i))), (2, .int (nI (en (i))))] [.int (nI (i)), .ref (gAd E (22)), .int (nI (en (i))), .ref (gAd E (17)), .int (nI bt.length)] rfl ?_
    refine G.ialdN (22) (i) (by omega) (h.q22) (by omega) (by omega) (tbd tv_X9_fillBatch rfl) ?_
    refine G.eqs [.int (nI (en (i + 1))), .int (nI (en (i))), .ref (gAd E (17)), .int (nI bt.length)] (by rw [c22]) ?_
    refine G.callV (17) [.int (nI (en (i))), .int (nI (en (i + 1)))] [.int (nI bt.length)] (k_newInBatch E _ N B gr C hz h bt r hb h40 hsr (qBk C) (en i) (en (i + 1)) c2 hzg (fun x h1 h2 => ⟨(hch.1 x h1 h2).1, (hch.1 x h1 h2).2.2.1⟩)) cls_X9 (by omega) (h.q17) cw_X9_79 w_1283 w_21 (Nat.le_of_ble_eq_true rfl) rfl (Nat.le_of_ble_eq_true rfl) (tbd tv_X9_fillBatch rfl) (fun v1 f1 q1 => ?_) (fun _ _ h => h.elim)
    obtain ⟨rfl, ha1, fa1⟩ := q1
    refine G.eqs [.int (nI (nwC bt (qBk C) (en i) (en (i + 1) - en i))), .int (nI bt.length)] rfl ?_
    refine G.go tv_X9_fillBatch 2 48 [(0, .ref (gAd E (17))), (1, .int (nI (i))), (2, .int (nI (en (i))))] [.int ((40 : Int32)), .int ((nI bt.length) + (nI (nwC bt (qBk C) (en i) (en (i + 1) - en i))))] rfl ?_
    refine G.cmp_gt 87 (tbd tv_X9_fillBatch rfl) (by decide) (fun c48 => ?_) (fun c48 => ?_)
    · skip
      refine G.go tv_X9_fillBatch 1 88 [(0, .ref (gAd E (17))), (1, .int (nI (i))), (2, .int (nI (en (i))))] [.int (nI (i))] rfl ?_
      have hov : ¬ (bJoin N bt (qAt qs i)).length ≤ 40 := fun zz => by rw [← hall, hlen] at zz; rw [nI_add] at c48; exact absurd ((nI_ltI (a := 40) (by omega) (by omega)).mp c48) (by omega)
      exact G.iret rfl rfl (⟨i, rfl, by omega, by rw [← ho, qAt_drop hil, qFill_f hov], ⟨C, ha1, ⟨r, by rw [← ho, qAt_drop hil, qFill_f hov]; exact hb⟩, hsb⟩, (hf.tr fa1 (fun _ h => h))⟩) (tbd tv_X9_fillBatch rfl)
    · skip
      refine G.go tv_X9_fillBatch 2 53 [(0, .ref (gAd E (17))), (1, .int (nI (i))), (2, .int (nI (en (i)))), (3, .int (nI (en (i))))] [] rfl ?_
      have hle : bt.length + nwC bt (qBk C) (en i) (en (i + 1) - en i) ≤ 40 := Classical.byContradiction fun zz => c48 (by rw [nI_add]; exact nI_lt (a := 40) (by omega) (by omega))
      refine G.eql [(0, .ref (gAd E (17))), (1, .int (nI i)), (2, .int (nI (en i))), (3, .int (nI (en i + (0))))] rfl ?_
      refine fb_i E f0 _ _ _ N B gr C hz bt (en i) (en (i + 1)) i (qAt qs i) hch c2 hzg c22 hig hsr hle (fun g C1 r1 h1 hf1 hb1 hs1 => ?_) (en (i + 1) - en i) 0 (by omega) _ C r (ha1) ((hf.tr fa1 (fun _ h => h))) hb SmB.rf
      have d22 : cA C1 22 i = nI (en (i + 1)) := (congrFun (hs1.2.1 22 (by decide)) i).trans c22
      refine G.go tv_X9_fillBatch 1 75 [(0, .ref (gAd E (17))), (1, .int (nI i)), (2, .int (nI (en i))), (3, .int (nI (en i + (en (i + 1) - en i))))] [.ref (gAd E (17))] rfl ?_
      refine G.getf cls_X9 (17) 6 (by omega) (h1.q17) (by decide) rfl (tbd tv_X9_fillBatch rfl) w_365 ?_
      refine G.go tv_X9_fillBatch 1 79 [(0, .ref (gAd E (17))), (1, .int (nI i)), (2, .int (nI (en i))), (3, .int (nI (en i + (en (i + 1) - en i))))] [.int (nI i), .ref (gAd E (22))] rfl ?_
      refine G.ialdN (22) (i) (by omega) (h1.q22) (by omega) (by omega) (tbd tv_X9_fillBatch rfl) ?_
      refine G.go tv_X9_fillBatch 3 22 [(0, .ref (gAd E (17))), (1, .int (nI i + (1 : Int32))), (2, .int ((cA C1 22) (i))), (3, .int (nI (en i + (en (i + 1) - en i))))] [] rfl ?_
      refine G.less [(0, .ref (gAd E (17))), (1, .int (nI i + (1 : Int32))), (2, .int ((cA C1 22) (i)))] [0, 1, 2] rfl ?_
      refine G.eql [(0, .ref (gAd E (17))), (1, .int (nI (i + 1))), (2, .int (nI (en (i + 1))))] (by rw [nI_1, d22]) ?_
      rw [hall] at hb1
      exact ih (i + 1) (by omega) _ C1 (bJoin N bt (qAt qs i)) r1 h1 hf1 hb1 bJoin_srt (by rw [← hall, hlen]; exact hle) bJoin_lt (hsb.tr hs1) (by rw [← ho, qAt_drop hil, qFill_t (by rw [← hall, hlen]; exact hle)])
theorem i0pos {i : Nat} (h : ¬ nI i = 0) : 1 ≤ i := Nat.one_le_iff_ne_zero.mpr (fun e => h (by rw [e]; rfl))
set_option maxRecDepth 100000 in
set_option maxHeartbeats 4000000 in
theorem r_fillBatch (E : gE) (f : Nat → va_E) (N B gr : Nat) (C : CfT) (hz : CfZ E N B gr) (h : CfV E f N B gr C) (qs : List QC) (en : Nat → Nat) (hq : QeR N gr C qs en) (i0 : Nat) (hi0 : i0 ≤ qs.length) : Ct E 4 yX9_fillBatch cX9_fillBatch 4 (some .int) [.ref (gAd E (17)), .int (nI i0)] f (fun v g => ∃ i', v = some (.int (nI i')) ∧ i' ≤ qs.length ∧ (qFill N (qs.drop i0) []).2 = qs.drop i' ∧ (∃ C', CfV E g N B gr C' ∧ (∃ r', BtR N gr C' (qFill N (qs.drop i0) []).1 r') ∧ SmB C C') ∧ Fr CfK f g, fun _ _ => False) := by
  obtain ⟨z1, z2, z3, z4, z5, z6, z7⟩ := id hz
  have hgr := hq.2.2.1
  refine Ct.of (by decide) (Nat.le_of_ble_eq_true rfl) (fun sz => ?_)
  refine G.eql [(0, .ref (gAd E (17))), (1, .int (nI i0))] rfl ?_
  refine G.go tv_X9_fillBatch 2 2 [(0, .ref (gAd E (17))), (1, .int (nI i0))] [.int ((0 : Int32)), .ref (gAd E (17))] rfl ?_
  refine G.putfS cls_X9 (17) 5 [.ref (gAd E 13), .ref (gAd E 18), .ref (gAd E 19), .ref (gAd E 20), .ref (gAd E 21), .int ((0 : Int32)), .ref (gAd E 22), .int (cS C 1707), .int (cS C 1708), .ref (gAd E 23), .ref (gAd E 24), .int (cS C 1711), .int (cS C 1712)] (by omega) (h.q17) rfl (by decide) rfl rfl rfl (Nat.le_of_ble_eq_true rfl) (tbd tv_X9_fillBatch rfl) w_363 ?_
  refine G.gen (P := fun w9 => CfV E w9 N B gr (sS (C) 1705 ((0 : Int32))) ∧ Fr CfK f w9) ⟨h.s1705 _, Fr.c Fr.rf (by first | exact Or.inl (by decide) | exact Or.inr (by omega))⟩ (fun u1 p1 => ?_)
  obtain ⟨h1, k1⟩ := p1
  refine G.go tv_X9_fillBatch 1 6 [(0, .ref (gAd E (17))), (1, .int (nI i0))] [.int (nI i0)] rfl ?_
  refine G.if_ne 13 (tbd tv_X9_fillBatch rfl) (by decide) (fun c6 => ?_) (fun c6 => ?_)
  · skip
    refine G.go tv_X9_fillBatch 1 14 [(0, .ref (gAd E (17))), (1, .int (nI i0))] [.ref (gAd E (17))] rfl ?_
    refine G.getf cls_X9 (17) 6 (by omega) (h1.q17) (by decide) rfl (tbd tv_X9_fillBatch rfl) w_365 ?_
    refine G.go tv_X9_fillBatch 3 20 [(0, .ref (gAd E (17))), (1, .int (nI i0))] [.int ((nI i0) - ((1 : Int32))), .ref (gAd E (22))] rfl ?_
    refine G.eqs [.int (nI (i0 - 1)), .ref (gAd E (22))] (by rw [show nI i0 - 1 = nI (i0 - 1) from pk_sub (b := 1) (i0pos c6)]) ?_
    refine G.ialdN (22) (i0 - 1) (by omega) (h1.q22) (by omega) (by omega) (tbd tv_X9_fillBatch rfl) ?_
    refine G.go tv_X9_fillBatch 1 22 [(0, .ref (gAd E (17))), (1, .int (nI i0)), (2, .int ((cA C 22) (i0 - 1)))] [] rfl ?_
    refine G.eql [(0, .ref (gAd E (17))), (1, .int (nI (i0))), (2, .int (nI (en (i0))))] (by rw [show cA C 22 (i0 - 1) = nI (en (i0 - 1 + 1)) from (hq.2.2.2.2.1 (i0 - 1) (by have := i0pos c6; omega)).1, show i0 - 1 + 1 = i0 by have := i0pos c6; omega]) ?_
    exact fb_o E f _ _ N B gr C hz qs en hq i0 (qs.length - i0) i0 (by omega) _ _ [] (fun _ => 0) (h1) (k1) ⟨rfl, fun k hk => absurd hk (Nat.not_lt_zero k)⟩ Srt.nil (by decide) (fun p hp => absurd hp List.not_mem_nil) ⟨fun j hj => pk_un hj, fun _ _ => rfl, rfl⟩ rfl
  · skip
    refine G.go tv_X9_fillBatch 3 22 [(0, .ref (gAd E (17))), (1, .int (nI i0)), (2, .int ((0 : Int32)))] [] rfl ?_
    refine G.eql [(0, .ref (gAd E (17))), (1, .int (nI (i0))), (2, .int (nI (en (i0))))] (by rw [show i0 = 0 from nI_inj (by omega) (by decide) (Classical.byContradiction fun zz => zz c6), hq.1]; rfl) ?_
    exact fb_o E f _ _ N B gr C hz qs en hq i0 (qs.length - i0) i0 (by omega) _ _ [] (fun _ => 0) (h1) (k1) ⟨rfl, fun k hk => absurd hk (Nat.not_lt_zero k)⟩ Srt.nil (by decide) (fun p hp => absurd hp List.not_mem_nil) ⟨fun j hj => pk_un hj, fun _ _ => rfl, rfl⟩ rfl
