/-- of the first k rows from a on those whose blocks the list has not -/
def nwC (bt : List En) (blk : Nat → Nat) (a : Nat) : Nat → Nat
  | 0 => 0
  | k + 1 => nwC bt blk a k + (if lVal bt (blk (a + k)) = none then 1 else 0)
theorem nwC_le {bt : List En} {blk : Nat → Nat} {a : Nat} : ∀ k, nwC bt blk a k ≤ k
  | 0 => Nat.le_refl _
  | k + 1 => by
    have := nwC_le (bt := bt) (blk := blk) (a := a) k
    show nwC bt blk a k + _ ≤ k + 1
    split <;> omega
def tb_X9_newInBatch : List (Nat × Instr × Nat) := [(0, .iconst 0, 1), (1, .istore_n 3, 1), (2, .iload_n 1, 1), (3, .istore 4, 2), (5, .iload 4, 2), (7, .iload_n 2, 1), (8, .if_icmp .ge 26, 3), (11, .aload_n 0, 1), (12, .aload_n 0, 1), (13, .getfield 24, 3), (16, .iload 4, 2), (18, .iaload, 1), (19, .invokevirtual 75, 3), (22, .ifCond .ne 6, 3), (25, .iinc 3 1, 3), (28, .iinc 4 1, 3), (31, .goto (-26), 3), (34, .iload_n 3, 1), (35, .ireturn, 1)]
theorem tv_X9_newInBatch : Tv cX9_newInBatch tb_X9_newInBatch := by
  unfold Tv
  decide +kernel
theorem w_1285 : Cond.methodLink "LedgerFiles$Queue" 75 yX9_isInBatch ∈ TB := tp_5 179 (by decide +kernel) rfl
theorem w_1288 : Cond.code yX9_isInBatch prog_11_method_11_code 3 (some .boolean) ∈ TB := tp_5 182 rfl rfl
theorem cw_X9_75 : Cw RX9 75 yX9_isInBatch cX9_isInBatch 3 (some .boolean) 1 := ⟨w_1285, w_1288, w_154, by decide +kernel, by decide +kernel, by decide⟩
theorem w_1287 : Cond.instanceMethod yX9_isInBatch ∈ TB := tp_5 181 (by decide +kernel) rfl
theorem w_22 : Cond.selects "LedgerFiles$Queue" yX9_isInBatch yX9_isInBatch ∈ TB := tp_0 22 (by decide +kernel) rfl
set_option maxRecDepth 100000 in
set_option maxHeartbeats 4000000 in
theorem nw_l (E : gE) (f0 : Nat → va_E) (sz : Nat) (A : Nat → Prop) (Q : gQ) (N B gr : Nat) (C : CfT) (hz : CfZ E N B gr) (bt : List En) (r : Nat → Nat) (hb : BtR N gr C bt r) (hn : bt.length ≤ 40) (hs : Srt bt) (blk : Nat → Nat) (a z : Nat) (haz : a ≤ z) (hzg : z ≤ gr * 40) (hblk : ∀ q, a ≤ q → q < z → blk q < N ∧ cA C 19 q = nI (blk q)) (kq : ∀ g, CfV E g N B gr (C) → Fr CfK f0 g → G E (3, yX9_newInBatch, 5, (some .int), sz, A) cX9_newInBatch (gO E (3, yX9_newInBatch, 5, (some .int), sz, A) Q) 34 [(0, .ref (gAd E (17))), (1, .int (nI a)), (2, .int (nI z)), (3, .int (nI (nwC bt blk a (z - a)))), (4, .int (nI (a + (z - a))))] [] g) : ∀ (d j : Nat), j + d = z - a → ∀ f, CfV E f N B gr (C) → Fr CfK f0 f → G E (3, yX9_newInBatch, 5, (some .int), sz, A) cX9_newInBatch (gO E (3, yX9_newInBatch, 5, (some .int), sz, A) Q) 5 [(0, .ref (gAd E (17))), (1, .int (nI a)), (2, .int (nI z)), (3, .int (nI (nwC bt blk a (j)))), (4, .int (nI (a + (j))))] [] f := by
  obtain ⟨z1, z2, z3, z4, z5, z6, z7⟩ := id hz
  intro d
  induction d with
  | zero =>
    intro j e f h hf
    have e : j = z - a := e
    refine G.go tv_X9_newInBatch 2 8 [(0, .ref (gAd E (17))), (1, .int (nI a)), (2, .int (nI z)), (3, .int (nI (nwC bt blk a (j)))), (4, .int (nI (a + (j))))] [.int (nI z), .int (nI (a + (j)))] rfl ?_
    refine G.cmp_ge 34 (tbd tv_X9_newInBatch rfl) (by decide) (fun c8 => ?_) (fun c8 => absurd (nI_le (by omega) (by omega)) c8)
    refine G.eql [(0, .ref (gAd E (17))), (1, .int (nI a)), (2, .int (nI z)), (3, .int (nI (nwC bt blk a (z - a)))), (4, .int (nI (a + (z - a))))] (by rw [e]) ?_
    exact kq _ (by have q9 := h; first | (rw [e] at q9; exact q9) | exact q9) (hf)
  | succ d ih =>
    intro j e f h hf
    refine G.go tv_X9_newInBatch 2 8 [(0, .ref (gAd E (17))), (1, .int (nI a)), (2, .int (nI z)), (3, .int (nI (nwC bt blk a (j)))), (4, .int (nI (a + (j))))] [.int (nI z), .int (nI (a + (j)))] rfl ?_
    refine G.cmp_ge 34 (tbd tv_X9_newInBatch rfl) (by decide) (fun c8 => absurd c8 (nI_ge (by omega) (by omega))) (fun c8 => ?_)
    refine G.go tv_X9_newInBatch 2 13 [(0, .ref (gAd E (17))), (1, .int (nI a)), (2, .int (nI z)), (3, .int (nI (nwC bt blk a (j)))), (4, .int (nI (a + (j))))] [.ref (gAd E (17)), .ref (gAd E (17))] rfl ?_
    refine G.getf cls_X9 (17) 2 (by omega) (h.q17) (by decide) rfl (tbd tv_X9_newInBatch rfl) w_357 ?_
    refine G.go tv_X9_newInBatch 1 18 [(0, .ref (gAd E (17))), (1, .int (nI a)), (2, .int (nI z)), (3, .int (nI (nwC bt blk a (j)))), (4, .int (nI (a + (j))))] [.int (nI (a + (j))), .ref (gAd E (19)), .ref (gAd E (17))] rfl ?_
    refine G.ialdN (19) (a + j) (by omega) (h.q19) (by omega) (by omega) (tbd tv_X9_newInBatch rfl) ?_
    refine G.eqs [.int (nI (blk (a + j))), .ref (gAd E (17))] (by rw [(hblk (a + j) (by omega) (by omega)).2]) ?_
    refine G.callV (17) [.int (nI (blk (a + j)))] [] (k_isInBatch E _ N B gr C hz h bt r hb hn (blk (a + j)) (hblk (a + j) (by omega) (by omega)).1 hs) cls_X9 (by omega) (h.q17) cw_X9_75 w_1287 w_22 (Nat.le_of_ble_eq_true rfl) rfl (Nat.le_of_ble_eq_true rfl) (tbd tv_X9_newInBatch rfl) (fun v1 f1 q1 => ?_) (fun _ _ h => h.elim)
    obtain ⟨rfl, ha1, fa1⟩ := q1
    refine G.eqs [.int (lHas bt (blk (a + j)))] rfl ?_
    refine G.if_ne 28 (tbd tv_X9_newInBatch rfl) (by decide) (fun c22 => ?_) (fun c22 => ?_)
    · skip
      refine G.go tv_X9_newInBatch 2 5 [(0, .ref (gAd E (17))), (1, .int (nI a)), (2, .int (nI z)), (3, .int (nI (nwC bt blk a (j)))), (4, .int (nI (a + (j)) + (1 : Int32)))] [] rfl ?_
      refine G.eql [(0, .ref (gAd E (17))), (1, .int (nI a)), (2, .int (nI z)), (3, .int (nI (nwC bt blk a (j + 1)))), (4, .int (nI (a + (j + 1))))] (by rw [nI_1, show nwC bt blk a (j + 1) = nwC bt blk a j from by show nwC bt blk a j + _ = _; rw [if_neg (fun q => c22 (if_pos q)), Nat.add_zero]]; rfl) ?_
      exact ih (j + 1) (by omega) _ (ha1) ((hf.tr fa1 (fun _ h => h)))
    · skip
      refine G.go tv_X9_newInBatch 3 5 [(0, .ref (gAd E (17))), (1, .int (nI a)), (2, .int (nI z)), (3, .int (nI (nwC bt blk a (j)) + (1 : Int32))), (4, .int (nI (a + (j)) + (1 : Int32)))] [] rfl ?_
      refine G.eql [(0, .ref (gAd E (17))), (1, .int (nI a)), (2, .int (nI z)), (3, .int (nI (nwC bt blk a (j + 1)))), (4, .int (nI (a + (j + 1))))] (by rw [nI_1, nI_1, show nwC bt blk a (j + 1) = nwC bt blk a j + 1 from by show nwC bt blk a j + _ = _; rw [if_pos (Classical.byContradiction fun q => absurd c22 (by rw [show lHas bt (blk (a + j)) = 1 from if_neg q]; decide))]]; rfl) ?_
      exact ih (j + 1) (by omega) _ (ha1) ((hf.tr fa1 (fun _ h => h)))
set_option maxRecDepth 100000 in
set_option maxHeartbeats 4000000 in
theorem k_newInBatch (E : gE) (f : Nat → va_E) (N B gr : Nat) (C : CfT) (hz : CfZ E N B gr) (h : CfV E f N B gr C) (bt : List En) (r : Nat → Nat) (hb : BtR N gr C bt r) (hn : bt.length ≤ 40) (hs : Srt bt) (blk : Nat → Nat) (a z : Nat) (haz : a ≤ z) (hzg : z ≤ gr * 40) (hblk : ∀ q, a ≤ q → q < z → blk q < N ∧ cA C 19 q = nI (blk q)) : Ct E 3 yX9_newInBatch cX9_newInBatch 5 (some .int) [.ref (gAd E (17)), .int (nI a), .int (nI z)] f (fun v g => v = some (.int (nI (nwC bt blk a (z - a)))) ∧ CfV E g N B gr (C) ∧ Fr CfK f g, fun _ _ => False) := by
  obtain ⟨z1, z2, z3, z4, z5, z6, z7⟩ := id hz
  refine Ct.of (by decide) (Nat.le_of_ble_eq_true rfl) (fun sz => ?_)
  refine G.eql [(0, .ref (gAd E (17))), (1, .int (nI a)), (2, .int (nI z))] rfl ?_
  refine G.go tv_X9_newInBatch 4 5 [(0, .ref (gAd E (17))), (1, .int (nI a)), (2, .int (nI z)), (3, .int ((0 : Int32))), (4, .int (nI a))] [] rfl ?_
  refine G.eql [(0, .ref (gAd E (17))), (1, .int (nI a)), (2, .int (nI z)), (3, .int (nI (nwC bt blk a (0)))), (4, .int (nI (a + (0))))] rfl ?_
  refine nw_l E f _ _ _ N B gr C hz bt r hb hn hs blk a z haz hzg hblk (fun g h1 hf1 => ?_) (z - a) 0 (by omega) _ h Fr.rf
  refine G.go tv_X9_newInBatch 1 35 [(0, .ref (gAd E (17))), (1, .int (nI a)), (2, .int (nI z)), (3, .int (nI (nwC bt blk a (z - a)))), (4, .int (nI (a + (z - a))))] [.int (nI (nwC bt blk a (z - a)))] rfl ?_
  exact G.iret rfl rfl (⟨rfl, h1, hf1⟩) (tbd tv_X9_newInBatch rfl)
/-- nothing changed but the batch -/
def SmB (C C' : CfT) : Prop := (∀ j, j ≠ 1705 → C'.1 j = C.1 j) ∧ (∀ k, k ≠ 21 → C'.2.1 k = C.2.1 k) ∧ C'.2.2 = C.2.2
theorem SmB.rf {C : CfT} : SmB C C := ⟨fun _ _ => rfl, fun _ _ => rfl, rfl⟩
theorem SmB.tr {C C' C2 : CfT} (h : SmB C C') (h2 : SmB C' C2) : SmB C C2 := ⟨fun j q => (h2.1 j q).trans (h.1 j q), fun j q => (h2.2.1 j q).trans (h.2.1 j q), h2.2.2.trans h.2.2⟩
theorem SmB.sm {C C' : CfT} (h : SmB C C') : Sm [2] C C' := ⟨fun j q => h.1 j (fun e => q (by rw [e]; decide)), fun k q => h.2.1 k (fun e => q (by rw [e]; decide)), fun m _ => congrFun h.2.2 m⟩
theorem lIns_at {e : En} {L : List En} (h : Srt L) : (lIns e L).length = L.length + (if lVal L e.1 = none then 1 else 0) ∧ ∀ i, lAt (lIns e L) i = if i < lPos e.1 L then lAt L i else if i = lPos e.1 L then e else lAt L (i - 1 + (if lVal L e.1 = none then 0 else 1)) := by
  have hp := lPos_le (b := e.1) (L := L)
  have hv := lPos_val (b := e.1) h
  rw [lIns_eq h]
  generalize lPos e.1 L = p at hp hv
  have ht : (L.take p).length = p := by rw [List.length_take]; omega
  constructor
  · rw [List.length_append, ht, List.length_cons, List.length_drop]
    by_cases c : lVal L e.1 = none
    · rw [if_pos c, if_pos c]
      omega
    · rw [if_neg c, if_neg c]
      have := (hv.mp c).1
      omega
  · intro i
    by_cases c1 : i < p
    · rw [if_pos c1, lAt_app (by omega)]
      unfold lAt
      rw [List.getD_eq_getElem?_getD, List.getD_eq_getElem?_getD, List.getElem?_take_of_lt c1]
    · rw [if_neg c1]
      by_cases c2 : i = p
      · rw [if_pos c2]
        have := lAt_end (L := L.take p) (M := e :: L.drop (p + (if lVal L e.1 = none then 0 else 1))) (k := 0)
        rw [ht] at this
        rw [c2]
        exact this
      · rw [if_neg c2]
        have := lAt_end (L := L.take p) (M := e :: L.drop (p + (if lVal L e.1 = none then 0 else 1))) (k := i - p)
        rw [ht, show p + (i - p) = i by omega] at this
        rw [this, show i - p = (i - p - 1) + 1 by omega, lAt_s]
        unfold lAt
        rw [List.getD_eq_getElem?_getD, List.getD_eq_getElem?_getD, List.getElem?_drop]
        congr 2
        omega
theorem BtR.put {N gr q b : Nat} {C : CfT} {bt : List En} {r : Nat → Nat} (hb : BtR N gr C bt r) (hs : Srt bt) (hv : ¬ lVal bt b = none) (hq : q < gr * 40) (hbN : b < N) (h19 : cA C 19 q = nI b) (hby : Byt (cR C 4 q)) : BtR N gr (sA C 21 (upd (cA C 21) (lPos b bt) (nI q))) (lIns (b, nr (cR C 4 q)) bt) (fun i => if i = lPos b bt then q else r i) := by
  obtain ⟨h1, h2⟩ := hb
  obtain ⟨l1, l2⟩ := lIns_at (e := (b, nr (cR C 4 q))) hs
  have l1 : (lIns (b, nr (cR C 4 q)) bt).length = bt.length + (if lVal bt b = none then 1 else 0) := l1
  have l2 : ∀ i, lAt (lIns (b, nr (cR C 4 q)) bt) i = if i < lPos b bt then lAt bt i else if i = lPos b bt then (b, nr (cR C 4 q)) else lAt bt (i - 1 + (if lVal bt b = none then 0 else 1)) := l2
  rw [if_neg hv] at l1
  refine ⟨by rw [l1]; exact h1, fun k hk => ?_⟩
  rw [l1] at hk
  rw [l2 k, if_neg hv]
  show (if k = lPos b bt then q else r k) < gr * 40 ∧ upd (cA C 21) (lPos b bt) (nI q) k = nI (if k = lPos b bt then q else r k) ∧ cA C 19 (if k = lPos b bt then q else r k) = _ ∧ _ ∧ Byt (cR C 4 (if k = lPos b bt then q else r k)) ∧ nr (cR C 4 (if k = lPos b bt then q else r k)) = _
  by_cases c : k = lPos b bt
  · rw [if_pos c, if_neg (by omega), if_pos c, c, pk_us]
    exact ⟨hq, rfl, h19, hbN, hby, rfl⟩
  · rw [if_neg c, pk_un c]
    by_cases c1 : k < lPos b bt
    · rw [if_pos c1]
      exact h2 k (by omega)
    · rw [if_neg c1, if_neg c, show k - 1 + 1 = k by omega]
      exact h2 k (by omega)
theorem BtR.ins {N gr q b : Nat} {C : CfT} {bt : List En} {r : Nat → Nat} (hb : BtR N gr C bt r) (hs : Srt bt) (hv : lVal bt b = none) (hq : q < gr * 40) (hbN : b < N) (h19 : cA C 19 q = nI b) (hby : Byt (cR C 4 q)) {v : Int32} (hv1 : v = nI (bt.length + 1)) : BtR N gr (sA (sS (sA C 21 (va_cpy (cA C 21) (cA C 21) (lPos b bt) (lPos b bt + 1) (bt.length - lPos b bt))) 1705 v) 21 (upd (va_cpy (cA C 21) (cA C 21) (lPos b bt) (lPos b bt + 1) (bt.length - lPos b bt)) (lPos b bt) (nI q))) (lIns (b, nr (cR C 4 q)) bt) (fun i => if i < lPos b bt then r i else if i = lPos b bt then q else r (i - 1)) := by
  obtain ⟨h1, h2⟩ := hb
  have hp := lPos_le (b := b) (L := bt)
  obtain ⟨l1, l2⟩ := lIns_at (e := (b, nr (cR C 4 q))) hs
  have l1 : (lIns (b, nr (cR C 4 q)) bt).length = bt.length + (if lVal bt b = none then 1 else 0) := l1
  have l2 : ∀ i, lAt (lIns (b, nr (cR C 4 q)) bt) i = if i < lPos b bt then lAt bt i else if i = lPos b bt then (b, nr (cR C 4 q)) else lAt bt (i - 1 + (if lVal bt b = none then 0 else 1)) := l2
  rw [if_pos hv] at l1
  refine ⟨by rw [l1, ← hv1]; rfl, fun k hk => ?_⟩
  rw [l1] at hk
  rw [l2 k, if_pos hv]
  show (if k < lPos b bt then r k else if k = lPos b bt then q else r (k - 1)) < gr * 40 ∧ upd (va_cpy (cA C 21) (cA C 21) (lPos b bt) (lPos b bt + 1) (bt.length - lPos b bt)) (lPos b bt) (nI q) k = nI (if k < lPos b bt then r k else if k = lPos b bt then q else r (k - 1)) ∧ cA C 19 (if k < lPos b bt then r k else if k = lPos b bt then q else r (k - 1)) = _ ∧ _ ∧ Byt (cR C 4 (if k < lPos b bt then r k else if k = lPos b bt then q else r (k - 1))) ∧ nr (cR C 4 (if k < lPos b bt then r k else if k = lPos b bt then q else r (k - 1))) = _
  by_cases c1 : k < lPos b bt
  · rw [if_pos c1, if_pos c1, pk_un (by omega), pk_cpy_out (by omega)]
    exact h2 k (by omega)
  · by_cases c : k = lPos b bt
    · rw [if_neg c1, if_pos c, if_neg c1, if_pos c, c, pk_us]
      exact ⟨hq, rfl, h19, hbN, hby, rfl⟩
    · rw [if_neg c1, if_neg c, if_neg c1, if_neg c, pk_un c, pk_cpy_in (by omega) (by omega), show lPos b bt + (k - (lPos b bt + 1)) = k - 1 by omega]
      exact h2 (k - 1) (by omega)
theorem lHas_0 {bt : List En} {b : Nat} (h : lHas bt b = 0) : lVal bt b = none := Classical.byContradiction fun z => by have e : lHas bt b = 1 := if_neg z; rw [e] at h; exact absurd h (by decide)
theorem lHas_1 {bt : List En} {b : Nat} (h : ¬ lHas bt b = 0) : ¬ lVal bt b = none := fun z => h (if_pos z)
def tb_X9_toBatch : List (Nat × Instr × Nat) := [(0, .aload_n 0, 1), (1, .aload_n 0, 1), (2, .getfield 24, 3), (5, .iload_n 1, 1), (6, .iaload, 1), (7, .invokevirtual 71, 3), (10, .istore_n 2, 1), (11, .aload_n 0, 1), (12, .aload_n 0, 1), (13, .getfield 24, 3), (16, .iload_n 1, 1), (17, .iaload, 1), (18, .invokevirtual 75, 3), (21, .ifCond .ne 43, 3), (24, .aload_n 0, 1), (25, .getfield 68, 3), (28, .bipush 40, 2), (30, .if_icmp .ge 34, 3), (33, .aload_n 0, 1), (34, .getfield 9, 3), (37, .iload_n 2, 1), (38, .aload_n 0, 1), (39, .getfield 9, 3), (42, .iload_n 2, 1), (43, .iconst 1, 1), (44, .iadd, 1), (45, .aload_n 0, 1), (46, .getfield 68, 3), (49, .iload_n 2, 1), (50, .isub, 1), (51, .invokestatic 59, 3), (54, .aload_n 0, 1), (55, .dup, 1), (56, .getfield 68, 3), (59, .iconst 1, 1), (60, .iadd, 1), (61, .putfield 68, 3), (64, .iload_n 2, 1), (65, .aload_n 0, 1), (66, .getfield 68, 3), (69, .if_icmp .ge 10, 3), (72, .aload_n 0, 1), (73, .getfield 9, 3), (76, .iload_n 2, 1), (77, .iload_n 1, 1), (78, .iastore, 1), (79, .return_, 1)]
theorem tv_X9_toBatch : Tv cX9_toBatch tb_X9_toBatch := by
  unfold Tv
  decide +kernel
set_option maxRecDepth 100000 in
set_option maxHeartbeats 4000000 in
theorem r_toBatch (E : gE) (f : Nat → va_E) (N B gr : Nat) (C : CfT) (hz : CfZ E N B gr) (h : CfV E f N B gr C) (bt : List En) (r : Nat → Nat) (hb : BtR N gr C bt r) (hn : bt.length ≤ 40) (hs : Srt bt) (q b : Nat) (hq : q < gr * 40) (hbN : b < N) (h19 : cA C 19 q = nI b) (hby : Byt (cR C 4 q)) (hfit : lVal bt b = none → bt.length < 40) : Ct E 3 yX9_toBatch cX9_toBatch 3 none [.ref (gAd E (17)), .int (nI q)] f (fun v g => v = none ∧ (∃ C', CfV E g N B gr C' ∧ (∃ r', BtR N gr C' (lIns (b, nr (cR C 4 q)) bt) r') ∧ SmB C C') ∧ Fr CfK f g, fun _ _ => False) := by
  obtain ⟨z1, z2, z3, z4, z5, z6, z7⟩ := id hz
  refine Ct.of (by decide) (Nat.le_of_ble_eq_true rfl) (fun sz => ?_)
  refine G.eql [(0, .ref (gAd E (17))), (1, .int (nI q))] rfl ?_
  refine G.go tv_X9_toBatch 2 2 [(0, .ref (gAd E (17))), (1, .int (nI q))] [.ref (gAd E (17)), .ref (gAd E (17))] rfl ?_
  refine G.getf cls_X9 (17) 2 (by omega) (h.q17) (by decide) rfl (tbd tv_X9_toBatch rfl) w_357 ?_
  refine G.go tv_X9_toBatch 1 6 [(0, .ref (gAd E (17))), (1, .int (nI q))] [.int (nI q), .ref (gAd E (19)), .ref (gAd E (17))] rfl ?_
  refine G.ialdN (19) (q) (by omega) (h.q19) (hq) (by omega) (tbd tv_X9_toBatch rfl) ?_
  refine G.eqs [.int (nI b), .ref (gAd E (17))] (by rw [h19]) ?_
  refine G.callV (17) [.int (nI b)] [] (k_placeInBatch E _ N B gr C hz h bt r hb hn b hbN) cls_X9 (by omega) (h.q17) cw_X9_71 w_1291 w_23 (Nat.le_of_ble_eq_true rfl) rfl (Nat.le_of_ble_eq_true rfl) (tbd tv_X9_toBatch rfl) (fun v1 f1 q1 => ?_) (fun _ _ h => h.elim)
  obtain ⟨rfl, ha1, fa1⟩ := q1
  refine G.eqs [.int (nI (lPos b bt))] rfl ?_
  refine G.go tv_X9_toBatch 3 13 [(0, .ref (gAd E (17))), (1, .int (nI q)), (2, .int (nI (lPos b bt)))] [.ref (gAd E (17)), .ref (gAd E (17))] rfl ?_
  refine G.getf cls_X9 (17) 2 (by omega) (ha1.q17) (by decide) rfl (tbd tv_X9_toBatch rfl) w_357 ?_
  refine G.go tv_X9_toBatch 1 17 [(0, .ref (gAd E (17))), (1, .int (nI q)), (2, .int (nI (lPos b bt)))] [.int (nI q), .ref (gAd E (19)), .ref (gAd E (17))] rfl ?_
  refine G.ialdN (19) (q) (by omega) (ha1.q19) (hq) (by omega) (tbd tv_X9_toBatch rfl) ?_
  refine G.eqs [.int (nI b), .ref (gAd E (17))] (by rw [h19]) ?_
  refine G.callV (17) [.int (nI b)] [] (k_isInBatch E _ N B gr C hz ha1 bt r hb hn b hbN hs) cls_X9 (by omega) (ha1.q17) cw_X9_75 w_1287 w_22 (Nat.le_of_ble_eq_true rfl) rfl (Nat.le_of_ble_eq_true rfl) (tbd tv_X9_toBatch rfl) (fun v2 f2 q2 => ?_) (fun _ _ h => h.elim)
  obtain ⟨rfl, ha2, fa2⟩ := q2
  refine G.eqs [.int (lHas bt b)] rfl ?_
  refine G.if_ne 64 (tbd tv_X9_toBatch rfl) (by decide) (fun c21 => ?_) (fun c21 => ?_)
  · skip
    refine G.go tv_X9_toBatch 2 66 [(0, .ref (gAd E (17))), (1, .int (nI q)), (2, .int (nI (lPos b bt)))] [.ref (gAd E (17)), .int (nI (lPos b bt))] rfl ?_
    refine G.getf cls_X9 (17) 5 (by omega) (ha2.q17) (by decide) rfl (tbd tv_X9_toBatch rfl) w_363 ?_
    refine G.eqs [.int (nI bt.length), .int (nI (lPos b bt))] (by rw [hb.1]) ?_
    refine G.cmp_ge 79 (tbd tv_X9_toBatch rfl) (by decide) (fun c69 => absurd c69 (by first | exact nI_ge (show lPos b bt < bt.length from ((lPos_val hs).mp (lHas_1 c21)).1) (by omega) | (rw [nI_1]; exact nI_ge (by have := lPos_le (b := b) (L := bt); omega) (by omega)))) (fun c69 => ?_)
    refine G.go tv_X9_toBatch 1 73 [(0, .ref (gAd E (17))), (1, .int (nI q)), (2, .int (nI (lPos b bt)))] [.ref (gAd E (17))] rfl ?_
    refine G.getf cls_X9 (17) 4 (by omega) (ha2.q17) (by decide) rfl (tbd tv_X9_toBatch rfl) w_361 ?_
    refine G.go tv_X9_toBatch 2 78 [(0, .ref (gAd E (17))), (1, .int (nI q)), (2, .int (nI (lPos b bt)))] [.int (nI q), .int (nI (lPos b bt)), .ref (gAd E (21))] rfl ?_
    refine G.iastN (21) (lPos b bt) (by omega) (ha2.q21) (by first | (have := (show lPos b bt < bt.length from ((lPos_val hs).mp (lHas_1 c21)).1); omega) | (have := lPos_le (b := b) (L := bt); have := hfit (lHas_0 c21); omega)) (by omega) (tbd tv_X9_toBatch rfl) ?_
    refine G.gen (P := fun w9 => CfV E w9 N B gr (sA (C) 21 (upd (cA C 21) (lPos b bt) (nI q))) ∧ Fr CfK f w9) ⟨ha2.p21 _, Fr.c (fa1.tr fa2 (fun _ h => h)) (by first | exact Or.inl (by decide) | exact Or.inr (by omega))⟩ (fun u1 p1 => ?_)
    obtain ⟨h1, k1⟩ := p1
    exact G.vret rfl ⟨rfl, ⟨_, h1, ⟨_, BtR.put hb hs (lHas_1 c21) hq hbN h19 hby⟩, ⟨fun _ _ => rfl, fun k z => if_neg z, rfl⟩⟩, k1⟩ (tbd tv_X9_toBatch rfl)
  · skip
    refine G.go tv_X9_toBatch 1 25 [(0, .ref (gAd E (17))), (1, .int (nI q)), (2, .int (nI (lPos b bt)))] [.ref (gAd E (17))] rfl ?_
    refine G.getf cls_X9 (17) 5 (by omega) (ha2.q17) (by decide) rfl (tbd tv_X9_toBatch rfl) w_363 ?_
    refine G.eqs [.int (nI bt.length)] (by rw [hb.1]) ?_
    refine G.go tv_X9_toBatch 1 30 [(0, .ref (gAd E (17))), (1, .int (nI q)), (2, .int (nI (lPos b bt)))] [.int ((40 : Int32)), .int (nI bt.length)] rfl ?_
    refine G.cmp_ge 64 (tbd tv_X9_toBatch rfl) (by decide) (fun c30 => absurd c30 ((nI_ge (hfit (lHas_0 c21)) (by omega) : ¬ nI 40 ≤ nI bt.length))) (fun c30 => ?_)
    refine G.go tv_X9_toBatch 1 34 [(0, .ref (gAd E (17))), (1, .int (nI q)), (2, .int (nI (lPos b bt)))] [.ref (gAd E (17))] rfl ?_
    refine G.getf cls_X9 (17) 4 (by omega) (ha2.q17) (by decide) rfl (tbd tv_X9_toBatch rfl) w_361 ?_
    refine G.go tv_X9_toBatch 2 39 [(0, .ref (gAd E (17))), (1, .int (nI q)), (2, .int (nI (lPos b bt)))] [.ref (gAd E (17)), .int (nI (lPos b bt)), .ref (gAd E (21))] rfl ?_
    refine G.getf cls_X9 (17) 4 (by omega) (ha2.q17) (by decide) rfl (tbd tv_X9_toBatch rfl) w_361 ?_
    refine G.go tv_X9_toBatch 4 46 [(0, .ref (gAd E (17))), (1, .int (nI q)), (2, .int (nI (lPos b bt)))] [.ref (gAd E (17)), .int ((nI (lPos b bt)) + ((1 : Int32))), .ref (gAd E (21)), .int (nI (lPos b bt)), .ref (gAd E (21))] rfl ?_
    refine G.getf cls_X9 (17) 5 (by omega) (ha2.q17) (by decide) rfl (tbd tv_X9_toBatch rfl) w_363 ?_
    refine G.eqs [.int (nI bt.length), .int ((nI (lPos b bt)) + ((1 : Int32))), .ref (gAd E (21)), .int (nI (lPos b bt)), .ref (gAd E (21))] (by rw [hb.1]) ?_
    refine G.go tv_X9_toBatch 2 51 [(0, .ref (gAd E (17))), (1, .int (nI q)), (2, .int (nI (lPos b bt)))] [.int ((nI bt.length) - (nI (lPos b bt))), .int ((nI (lPos b bt)) + ((1 : Int32))), .ref (gAd E (21)), .int (nI (lPos b bt)), .ref (gAd E (21))] rfl ?_
    refine G.eqs [.int (nI (bt.length - lPos b bt)), .int (nI (lPos b bt + 1)), .ref (gAd E (21)), .int (nI (lPos b bt)), .ref (gAd E (21))] (by rw [pk_sub (lPos_le (b := b) (L := bt)), nI_1]) ?_
    refine G.copyIN (21) (21) (lPos b bt) (lPos b bt + 1) (bt.length - lPos b bt) (by omega) (ha2.q21) (by omega) (ha2.q21) w_1264 w_755 w_754 w_167 (by have := lPos_le (b := b) (L := bt); have := hfit (lHas_0 c21); omega) (by have := lPos_le (b := b) (L := bt); have := hfit (lHas_0 c21); omega) (by omega) (by omega) (Nat.le_of_ble_eq_true rfl) (Nat.le_of_ble_eq_true rfl) (tbd tv_X9_toBatch rfl) ?_
    refine G.gen (P := fun w9 => CfV E w9 N B gr (sA (C) 21 (va_cpy (cA C 21) (cA C 21) (lPos b bt) (lPos b bt + 1) (bt.length - lPos b bt))) ∧ Fr CfK f w9) ⟨ha2.p21 _, Fr.c (fa1.tr fa2 (fun _ h => h)) (by first | exact Or.inl (by decide) | exact Or.inr (by omega))⟩ (fun u2 p2 => ?_)
    obtain ⟨h2, k2⟩ := p2
    refine G.go tv_X9_toBatch 2 56 [(0, .ref (gAd E (17))), (1, .int (nI q)), (2, .int (nI (lPos b bt)))] [.ref (gAd E (17)), .ref (gAd E (17))] rfl ?_
    refine G.getf cls_X9 (17) 5 (by omega) (h2.q17) (by decide) rfl (tbd tv_X9_toBatch rfl) w_363 ?_
    refine G.eqs [.int (cS C 1705), .ref (gAd E (17))] rfl ?_
    refine G.eqs [.int (nI bt.length), .ref (gAd E (17))] (by rw [hb.1]) ?_
    refine G.go tv_X9_toBatch 2 61 [(0, .ref (gAd E (17))), (1, .int (nI q)), (2, .int (nI (lPos b bt)))] [.int ((nI bt.length) + ((1 : Int32))), .ref (gAd E (17))] rfl ?_
    refine G.putfS cls_X9 (17) 5 [.ref (gAd E 13), .ref (gAd E 18), .ref (gAd E 19), .ref (gAd E 20), .ref (gAd E 21), .int ((nI bt.length) + ((1 : Int32))), .ref (gAd E 22), .int (cS (sA (C) 21 (va_cpy (cA C 21) (cA C 21) (lPos b bt) (lPos b bt + 1) (bt.length - lPos b bt))) 1707), .int (cS (sA (C) 21 (va_cpy (cA C 21) (cA C 21) (lPos b bt) (lPos b bt + 1) (bt.length - lPos b bt))) 1708), .ref (gAd E 23), .ref (gAd E 24), .int (cS (sA (C) 21 (va_cpy (cA C 21) (cA C 21) (lPos b bt) (lPos b bt + 1) (bt.length - lPos b bt))) 1711), .int (cS (sA (C) 21 (va_cpy (cA C 21) (cA C 21) (lPos b bt) (lPos b bt + 1) (bt.length - lPos b bt))) 1712)] (by omega) (h2.q17) rfl (by decide) rfl rfl rfl (Nat.le_of_ble_eq_true rfl) (tbd tv_X9_toBatch rfl) w_363 ?_
    refine G.gen (P := fun w9 => CfV E w9 N B gr (sS (sA (C) 21 (va_cpy (cA C 21) (cA C 21) (lPos b bt) (lPos b bt + 1) (bt.length - lPos b bt))) 1705 ((nI bt.length) + ((1 : Int32)))) ∧ Fr CfK f w9) ⟨h2.s1705 _, Fr.c k2 (by first | exact Or.inl (by decide) | exact Or.inr (by omega))⟩ (fun u3 p3 => ?_)
    obtain ⟨h3, k3⟩ := p3
    refine G.go tv_X9_toBatch 2 66 [(0, .ref (gAd E (17))), (1, .int (nI q)), (2, .int (nI (lPos b bt)))] [.ref (gAd E (17)), .int (nI (lPos b bt))] rfl ?_
    refine G.getf cls_X9 (17) 5 (by omega) (h3.q17) (by decide) rfl (tbd tv_X9_toBatch rfl) w_363 ?_
    refine G.eqs [.int ((nI bt.length) + ((1 : Int32))), .int (nI (lPos b bt))] rfl ?_
    refine G.cmp_ge 79 (tbd tv_X9_toBatch rfl) (by decide) (fun c69 => absurd c69 (by first | exact nI_ge (show lPos b bt < bt.length from ((lPos_val hs).mp (lHas_1 c21)).1) (by omega) | (rw [nI_1]; exact nI_ge (by have := lPos_le (b := b) (L := bt); omega) (by omega)))) (fun c69 => ?_)
    refine G.go tv_X9_toBatch 1 73 [(0, .ref (gAd E (17))), (1, .int (nI q)), (2, .int (nI (lPos b bt)))] [.ref (gAd E (17))] rfl ?_
    refine G.getf cls_X9 (17) 4 (by omega) (h3.q17) (by decide) rfl (tbd tv_X9_toBatch rfl) w_361 ?_
    refine G.go tv_X9_toBatch 2 78 [(0, .ref (gAd E (17))), (1, .int (nI q)), (2, .int (nI (lPos b bt)))] [.int (nI q), .int (nI (lPos b bt)), .ref (gAd E (21))] rfl ?_
    refine G.iastN (21) (lPos b bt) (by omega) (h3.q21) (by first | (have := (show lPos b bt < bt.length from ((lPos_val hs).mp (lHas_1 c21)).1); omega) | (have := lPos_le (b := b) (L := bt); have := hfit (lHas_0 c21); omega)) (by omega) (tbd tv_X9_toBatch rfl) ?_
    refine G.gen (P := fun w9 => CfV E w9 N B gr (sA (sS (sA (C) 21 (va_cpy (cA C 21) (cA C 21) (lPos b bt) (lPos b bt + 1) (bt.length - lPos b bt))) 1705 ((nI bt.length) + ((1 : Int32)))) 21 (upd (va_cpy (cA C 21) (cA C 21) (lPos b bt) (lPos b bt + 1) (bt.length - lPos b bt)) (lPos b bt) (nI q))) ∧ Fr CfK f w9) ⟨h3.p21 _, Fr.c k3 (by first | exact Or.inl (by decide) | exact Or.inr (by omega))⟩ (fun u4 p4 => ?_)
    obtain ⟨h4, k4⟩ := p4
    exact G.vret rfl ⟨rfl, ⟨_, h4, ⟨_, BtR.ins hb hs (lHas_0 c21) hq hbN h19 hby (nI_1 _)⟩, ⟨fun j z => pk_un z, fun k z => (if_neg z).trans (if_neg z), rfl⟩⟩, k4⟩ (tbd tv_X9_toBatch rfl)
