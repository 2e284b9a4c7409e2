/-! ===== own rows go into the queue ===== -/
section DCI
def adC (tc : Nat → Nat) (e0 : Nat) (C : CfT) : Nat → CfT
  | 0 => C
  | j + 1 => sS (sA (sA (sR (adC tc e0 C j) 4 (e0 + j) (va_cpy (cR (adC tc e0 C j) 2 (tc j)) (cR (adC tc e0 C j) 4 (e0 + j)) 0 0 128)) 19 (upd (cA (adC tc e0 C j) 19) (e0 + j) (nI (tc j)))) 20 (upd (cA (adC tc e0 C j) 20) (tc j) (nI (e0 + j)))) 1707 ((nI (e0 + j)) + ((1 : Int32)))
theorem adC_s {tc : Nat → Nat} {e0 : Nat} {C : CfT} : ∀ (j i : Nat), i ≠ 1707 → cS (adC tc e0 C j) i = cS C i
  | 0, _, _ => rfl
  | j + 1, i, h => (pk_un h).trans (adC_s j i h)
theorem adC_a {tc : Nat → Nat} {e0 : Nat} {C : CfT} : ∀ (j k : Nat), k ≠ 19 → k ≠ 20 → cA (adC tc e0 C j) k = cA C k
  | 0, _, _, _ => rfl
  | j + 1, k, h, h2 => ((if_neg h2).trans (if_neg h)).trans (adC_a j k h h2)
theorem adC_r {tc : Nat → Nat} {e0 : Nat} {C : CfT} : ∀ (j m : Nat), m ≠ 4 → (adC tc e0 C j).2.2 m = C.2.2 m
  | 0, _, _ => rfl
  | j + 1, m, h => (if_neg h).trans (adC_r j m h)
theorem adC_u {tc : Nat → Nat} {e0 : Nat} {C : CfT} (h : cS C 1707 = nI e0) : ∀ (j : Nat), cS (adC tc e0 C j) 1707 = nI (e0 + j)
  | 0 => h
  | j + 1 => by
    have e : cS (adC tc e0 C (j + 1)) 1707 = (nI (e0 + j)) + ((1 : Int32)) := by
      show upd (adC tc e0 C j).1 1707 ((nI (e0 + j)) + ((1 : Int32))) 1707 = _
      rw [pk_us]
    rw [e, nI_1]
    rfl
theorem adC_19 {tc : Nat → Nat} {e0 : Nat} {C : CfT} : ∀ (j : Nat), (∀ r, r < e0 → cA (adC tc e0 C j) 19 r = cA C 19 r) ∧ ∀ i, i < j → cA (adC tc e0 C j) 19 (e0 + i) = nI (tc i)
  | 0 => ⟨fun _ _ => rfl, fun i h => absurd h (Nat.not_lt_zero i)⟩
  | j + 1 => by
    obtain ⟨h1, h2⟩ := adC_19 (tc := tc) (e0 := e0) (C := C) j
    refine ⟨fun r hr => ?_, fun i hi => ?_⟩
    · show upd (cA (adC tc e0 C j) 19) (e0 + j) (nI (tc j)) r = _
      rw [pk_un (by omega)]
      exact h1 r hr
    · show upd (cA (adC tc e0 C j) 19) (e0 + j) (nI (tc j)) (e0 + i) = _
      by_cases e : i = j
      · rw [e, pk_us]
      · rw [pk_un (by omega)]
        exact h2 i (by omega)
theorem adC_20 {tc : Nat → Nat} {e0 : Nat} {C : CfT} : ∀ (j : Nat), (∀ i k, i < j → k < j → tc i = tc k → i = k) → (∀ b, (∀ i, i < j → tc i ≠ b) → cA (adC tc e0 C j) 20 b = cA C 20 b) ∧ ∀ i, i < j → cA (adC tc e0 C j) 20 (tc i) = nI (e0 + i)
  | 0, _ => ⟨fun _ _ => rfl, fun i h => absurd h (Nat.not_lt_zero i)⟩
  | j + 1, hd => by
    obtain ⟨h1, h2⟩ := adC_20 (tc := tc) (e0 := e0) (C := C) j (fun i k a b e => hd i k (by omega) (by omega) e)
    refine ⟨fun b hb => ?_, fun i hi => ?_⟩
    · show upd (cA (adC tc e0 C j) 20) (tc j) (nI (e0 + j)) b = _
      rw [pk_un (fun e => hb j (by omega) e.symm)]
      exact h1 b (fun i hi => hb i (by omega))
    · show upd (cA (adC tc e0 C j) 20) (tc j) (nI (e0 + j)) (tc i) = _
      by_cases e : i = j
      · rw [e, pk_us]
      · rw [pk_un (fun z => e (hd i j (by omega) (by omega) z))]
        exact h2 i (by omega)
theorem adC_4 {tc : Nat → Nat} {e0 : Nat} {C : CfT} : ∀ (j : Nat), (∀ i, i < j → Byt (cR C 2 (tc i))) → (∀ r, r < e0 → cR (adC tc e0 C j) 4 r = cR C 4 r) ∧ (∀ i, i < j → nr (cR (adC tc e0 C j) 4 (e0 + i)) = nr (cR C 2 (tc i))) ∧ ∀ r, Byt (cR C 4 r) → Byt (cR (adC tc e0 C j) 4 r)
  | 0, _ => ⟨fun _ _ => rfl, fun i h => absurd h (Nat.not_lt_zero i), fun _ h => h⟩
  | j + 1, hb => by
    obtain ⟨h1, h2, h3⟩ := adC_4 (tc := tc) (e0 := e0) (C := C) j (fun i hi => hb i (by omega))
    have e2 : cR (adC tc e0 C j) 2 (tc j) = cR C 2 (tc j) := congrFun (adC_r j 2 (by decide)) _
    have ee : cR (adC tc e0 C (j + 1)) 4 (e0 + j) = va_cpy (cR (adC tc e0 C j) 2 (tc j)) (cR (adC tc e0 C j) 4 (e0 + j)) 0 0 128 := sR_e (C := adC tc e0 C j) (m := 4) (j := e0 + j)
    have en : ∀ r, r ≠ e0 + j → cR (adC tc e0 C (j + 1)) 4 r = cR (adC tc e0 C j) 4 r := fun r hr => sR_n (C := adC tc e0 C j) (m := 4) (j := e0 + j) hr
    refine ⟨fun r hr => (en r (by omega)).trans (h1 r hr), fun i hi => ?_, fun r hr => ?_⟩
    · by_cases e : i = j
      · rw [e, ee, nr_cpy, e2]
      · rw [en _ (by omega)]
        exact h2 i (by omega)
    · by_cases e : r = e0 + j
      · rw [e, ee, e2]
        exact (hb j (by omega)).cpy (h3 _ (e ▸ hr))
      · rw [en r e]
        exact h3 r hr
theorem QeR.add {N gr : Nat} {C C2 : CfT} {qs : List QC} {en : Nat → Nat} {q : QC} {tc : Nat → Nat} {n : Nat} {en2 : Nat → Nat} (hen : ∀ i, i ≤ qs.length → en2 i = en i) (hen2 : en2 (qs.length + 1) = en qs.length + n) (hN : N ≤ 1024) (h : QeR N gr C qs en) (hg : qs.length < gr) (hn : n ≤ 40) (e8 : cS C2 1708 = nI (qs.length + 1)) (e7 : cS C2 1707 = nI (en qs.length + n)) (e22 : ∀ i, i < qs.length → cA C2 22 i = cA C 22 i) (f22 : cA C2 22 qs.length = nI (en qs.length + n)) (e19 : ∀ r, r < en qs.length → cA C2 19 r = cA C 19 r) (f19 : ∀ i, i < n → cA C2 19 (en qs.length + i) = nI (tc i)) (e4 : ∀ r, r < en qs.length → cR C2 4 r = cR C 4 r) (f4 : ∀ i, i < n → q (tc i) = some (nr (cR C2 4 (en qs.length + i))) ∧ Byt (cR C2 4 (en qs.length + i))) (e20 : ∀ b, b < N → (∀ i, i < n → tc i ≠ b) → cA C2 20 b = cA C 20 b) (f20 : ∀ i, i < n → cA C2 20 (tc i) = nI (en qs.length + i)) (ht : ∀ i, i < n → tc i < N ∧ 43 ≤ tc i) (hd : ∀ i j, i < n → j < n → tc i = tc j → i = j) (hq : ∀ b x, q b = some x → ∃ i, i < n ∧ tc i = b) : QeR N gr C2 (qs ++ [q]) en2 := by
  have hlg := h.lg (i := qs.length) (Nat.le_refl _)
  obtain ⟨h1, h2, h3, h4, h5, h6⟩ := h
  have hl : (qs ++ [q]).length = qs.length + 1 := by rw [List.length_append]; rfl
  have b19 : ∀ i, i < n → qBk C2 (en qs.length + i) = tc i := fun i hi => by
    unfold qBk
    rw [f19 i hi, nI_clamp (by have := (ht i hi).1; omega)]
  have c19 : ∀ r, r < en qs.length → qBk C2 r = qBk C r := fun r hr => by
    unfold qBk
    rw [e19 r hr]
  have mono : ∀ i j, i ≤ j → j ≤ qs.length → en i ≤ en j := fun i j hij => by
    induction j with
    | zero => intro _; rw [Nat.le_zero.mp hij]; exact Nat.le_refl _
    | succ j ih =>
      intro hj
      by_cases c : i = j + 1
      · rw [c]
        exact Nat.le_refl _
      · exact Nat.le_trans (ih (by omega) (by omega)) (h5 j (by omega)).2.1
  refine ⟨by rw [hen 0 (Nat.zero_le _)]; exact h1, by rw [hl]; exact e8, by omega, by rw [hl, hen2]; exact e7, fun i hi => ?_, fun b hb => ?_⟩
  · rw [hl] at hi
    by_cases c : i < qs.length
    · obtain ⟨q1, q2, q3, q4, q5, q6⟩ := h5 i c
      have hm := mono (i + 1) qs.length (by omega) (Nat.le_refl _)
      have ea : qAt (qs ++ [q]) i = qAt qs i := by
        unfold qAt
        rw [List.getD_eq_getElem?_getD, List.getD_eq_getElem?_getD, List.getElem?_append_left c]
      rw [hen i (by omega), hen (i + 1) (by omega), ea]
      refine ⟨by rw [e22 i c]; exact q1, q2, q3, fun r hr1 hr2 => ?_, fun b x hb => ?_, fun r s a1 a2 a3 a4 e => ?_⟩
      · rw [c19 r (by omega), e19 r (by omega), e4 r (by omega)]
        exact q4 r hr1 hr2
      · obtain ⟨r, r1, r2, r3⟩ := q5 b x hb
        exact ⟨r, r1, r2, by rw [c19 r (by omega)]; exact r3⟩
      · rw [c19 r (by omega), c19 s (by omega)] at e
        exact q6 r s a1 a2 a3 a4 e
    · have ei : i = qs.length := by omega
      subst ei
      have ea : qAt (qs ++ [q]) qs.length = q := by
        unfold qAt
        rw [List.getD_eq_getElem?_getD, List.getElem?_append_right (Nat.le_refl _), Nat.sub_self]
        rfl
      rw [hen _ (Nat.le_refl _), hen2, ea]
      refine ⟨f22, by omega, by omega, fun r hr1 hr2 => ?_, fun b x hb => ?_, fun r s a1 a2 a3 a4 e => ?_⟩
      · obtain ⟨i, rfl⟩ := Nat.exists_eq_add_of_le hr1
        rw [b19 i (by omega)]
        obtain ⟨t1, t2⟩ := ht i (by omega)
        obtain ⟨g1, g2⟩ := f4 i (by omega)
        exact ⟨t1, t2, f19 i (by omega), g1, g2⟩
      · obtain ⟨i, i1, i2⟩ := hq b x hb
        exact ⟨_, Nat.le_add_right _ i, by omega, (b19 i i1).trans i2⟩
      · obtain ⟨i, rfl⟩ := Nat.exists_eq_add_of_le a1
        obtain ⟨j, rfl⟩ := Nat.exists_eq_add_of_le a3
        rw [b19 i (by omega), b19 j (by omega)] at e
        rw [hd i j (by omega) (by omega) e]
  · rw [hl, hen2, qVal_app]
    cases hb2 : q b with
    | some x =>
      obtain ⟨i, i1, i2⟩ := hq b x hb2
      refine Or.inr ⟨en qs.length + i, by omega, by rw [← i2]; exact f20 i i1, ?_⟩
      have := (f4 i i1).1
      rw [i2, hb2] at this
      exact this
    | none =>
      have nb : ∀ i, i < n → tc i ≠ b := fun i hi z => by
        have := (f4 i hi).1
        rw [z, hb2] at this
        cases this
      rw [e20 b hb nb]
      rcases h6 b hb with ⟨q1, q2⟩ | ⟨r, q1, q2, q3⟩
      · exact Or.inl ⟨q1, q2⟩
      · exact Or.inr ⟨r, by omega, q2, by rw [e4 r q1]; exact q3⟩
def TQ (N gr : Nat) (A : MS) (D : CfT) : Prop := A.2.2.2.1.length < gr ∧ ∃ (n : Nat) (tc : Nat → Nat), n ≤ 40 ∧ cS D 2508 = nI n ∧ (∀ i, i < n → tc i < N ∧ 43 ≤ tc i ∧ cA D 29 i = nI (tc i) ∧ A.2.2.2.2.2.1 (tc i) ≠ none) ∧ (∀ i j, i < n → j < n → tc i = tc j → i = j) ∧ ∀ b, A.2.2.2.2.2.1 b ≠ none → ∃ i, i < n ∧ tc i = b
/-- own rows become a change -/
noncomputable def qaO (N gr : Nat) (A : MS) (D : CfT) : Option MS := gd (TQ N gr A D) (some (A.1, A.2.1, A.2.2.1, A.2.2.2.1 ++ [A.2.2.2.2.2.1], (fun b => if A.2.2.2.2.1 b = 2 then 1 else A.2.2.2.2.1 b), A.2.2.2.2.2))
def tb_X10_finish : List (Nat × Instr × Nat) := [(0, .aload_n 0, 1), (1, .getfield 64, 3), (4, .ifCond .eq 10, 3), (7, .aload_n 0, 1), (8, .iconst 0, 1), (9, .invokevirtual 166, 3), (12, .pop, 1), (13, .return_, 1), (14, .aload_n 0, 1), (15, .iconst 1, 1), (16, .invokevirtual 166, 3), (19, .ifCond .ne 8, 3), (22, .aload_n 0, 1), (23, .invokevirtual 56, 3), (26, .return_, 1), (27, .iconst 0, 1), (28, .istore_n 1, 1), (29, .iload_n 1, 1), (30, .aload_n 0, 1), (31, .getfield 108, 3), (34, .if_icmp .ge 33, 3), (37, .aload_n 0, 1), (38, .getfield 30, 3), (41, .aload_n 0, 1), (42, .getfield 52, 3), (45, .iload_n 1, 1), (46, .iaload, 1), (47, .aload_n 0, 1), (48, .getfield 42, 3), (51, .aload_n 0, 1), (52, .getfield 52, 3), (55, .iload_n 1, 1), (56, .iaload, 1), (57, .aaload, 1), (58, .invokevirtual 170, 3), (61, .iinc 1 1, 3), (64, .goto (-35), 3), (67, .aload_n 0, 1), (68, .getfield 30, 3), (71, .invokevirtual 173, 3), (74, .aload_n 0, 1), (75, .invokevirtual 160, 3), (78, .aload_n 0, 1), (79, .getfield 30, 3), (82, .invokevirtual 176, 3), (85, .ifCond .eq 11, 3), (88, .aload_n 0, 1), (89, .getfield 30, 3), (92, .invokevirtual 143, 3), (95, .pop, 1), (96, .return_, 1)]
theorem tv_X10_finish : Tv cX10_finish tb_X10_finish := by
  unfold Tv
  decide +kernel
theorem w_1260 : Cond.methodLink "LedgerFiles$View" 170 yX9_addBlock ∈ TB := tp_5 154 (by decide +kernel) rfl
theorem w_1263 : Cond.code yX9_addBlock prog_11_method_4_code 3 none ∈ TB := tp_5 157 rfl rfl
theorem cw_X10_170 : Cw RX10 170 yX9_addBlock cX9_addBlock 3 none 2 := ⟨w_1260, w_1263, w_154, by decide +kernel, by decide +kernel, by decide⟩
theorem w_1261 : Cond.instanceMethod yX9_addBlock ∈ TB := tp_5 155 (by decide +kernel) rfl
theorem w_1262 : Cond.selects "LedgerFiles$Queue" yX9_addBlock yX9_addBlock ∈ TB := tp_5 156 (by decide +kernel) rfl
set_option maxRecDepth 100000 in
set_option maxHeartbeats 4000000 in
theorem fin_l (E : gE) (f0 : Nat → va_E) (sz : Nat) (A : Nat → Prop) (Q : gQ) (N B gr : Nat) (C : CfT) (hz : CfZ E N B gr) (tc : Nat → Nat) (e0 n : Nat) (hn : n ≤ 40) (he : e0 + n ≤ gr * 40) (t1 : ∀ i, i < n → tc i < N ∧ cA C 29 i = nI (tc i)) (n2 : cS C 2508 = nI n) (u2 : cS C 1707 = nI e0) (by2 : ∀ b, b < N → Byt (cR C 2 b)) (kq : ∀ g, CfV E g N B gr (adC tc e0 C (n)) → Fr CfK f0 g → G E (11, yX10_finish, 2, none, sz, A) cX10_finish (gO E (11, yX10_finish, 2, none, sz, A) Q) 67 [(0, .ref (gAd E (25))), (1, .int (nI (n)))] [] g) : ∀ (d j : Nat), j + d = n → ∀ f, CfV E f N B gr (adC tc e0 C (j)) → Fr CfK f0 f → G E (11, yX10_finish, 2, none, sz, A) cX10_finish (gO E (11, yX10_finish, 2, none, sz, A) Q) 29 [(0, .ref (gAd E (25))), (1, .int (nI (j)))] [] f := by
  obtain ⟨z1, z2, z3, z4, z5, z6, z7⟩ := id hz
  intro d
  induction d with
  | zero =>
    intro j e f h hf
    have e : j = n := e
    refine G.go tv_X10_finish 2 31 [(0, .ref (gAd E (25))), (1, .int (nI (j)))] [.ref (gAd E (25)), .int (nI (j))] rfl ?_
    refine G.getf cls_X10 (25) 8 (by omega) (h.q25) (by decide) rfl (tbd tv_X10_finish rfl) w_418 ?_
    refine G.eqs [.int (nI n), .int (nI (j))] (by rw [show cS (adC tc e0 C (j)) 2508 = nI n from (adC_s (j) 2508 (by decide)).trans n2]) ?_
    refine G.cmp_ge 67 (tbd tv_X10_finish rfl) (by decide) (fun c34 => ?_) (fun c34 => absurd (nI_le (by omega) (by omega)) c34)
    refine G.eql [(0, .ref (gAd E (25))), (1, .int (nI (n)))] (by rw [e]) ?_
    exact kq _ (by have q9 := h; first | (rw [e] at q9; exact q9) | exact q9) (hf)
  | succ d ih =>
    intro j e f h hf
    refine G.go tv_X10_finish 2 31 [(0, .ref (gAd E (25))), (1, .int (nI (j)))] [.ref (gAd E (25)), .int (nI (j))] rfl ?_
    refine G.getf cls_X10 (25) 8 (by omega) (h.q25) (by decide) rfl (tbd tv_X10_finish rfl) w_418 ?_
    refine G.eqs [.int (nI n), .int (nI (j))] (by rw [show cS (adC tc e0 C (j)) 2508 = nI n from (adC_s (j) 2508 (by decide)).trans n2]) ?_
    refine G.cmp_ge 67 (tbd tv_X10_finish rfl) (by decide) (fun c34 => absurd c34 (nI_ge (by omega) (by omega))) (fun c34 => ?_)
    refine G.go tv_X10_finish 1 38 [(0, .ref (gAd E (25))), (1, .int (nI (j)))] [.ref (gAd E (25))] rfl ?_
    refine G.getf cls_X10 (25) 3 (by omega) (h.q25) (by decide) rfl (tbd tv_X10_finish rfl) w_413 ?_
    refine G.go tv_X10_finish 1 42 [(0, .ref (gAd E (25))), (1, .int (nI (j)))] [.ref (gAd E (25)), .ref (gAd E (17))] rfl ?_
    refine G.getf cls_X10 (25) 7 (by omega) (h.q25) (by decide) rfl (tbd tv_X10_finish rfl) w_417 ?_
    refine G.go tv_X10_finish 1 46 [(0, .ref (gAd E (25))), (1, .int (nI (j)))] [.int (nI (j)), .ref (gAd E (29)), .ref (gAd E (17))] rfl ?_
    refine G.ialdN (29) (j) (by omega) (h.q29) (by omega) (by omega) (tbd tv_X10_finish rfl) ?_
    refine G.eqs [.int ((cA (adC tc e0 C (j)) 29) (j)), .ref (gAd E (17))] rfl ?_
    refine G.eqs [.int (nI (tc j)), .ref (gAd E (17))] (by rw [show cA (adC tc e0 C (j)) 29 (j) = nI (tc (j)) from (congrFun (adC_a (j) 29 (by decide) (by decide)) _).trans (t1 (j) (by omega)).2]) ?_
    refine G.go tv_X10_finish 1 48 [(0, .ref (gAd E (25))), (1, .int (nI (j)))] [.ref (gAd E (25)), .int (nI (tc j)), .ref (gAd E (17))] rfl ?_
    refine G.getf cls_X10 (25) 4 (by omega) (h.q25) (by decide) rfl (tbd tv_X10_finish rfl) w_414 ?_
    refine G.go tv_X10_finish 1 52 [(0, .ref (gAd E (25))), (1, .int (nI (j)))] [.ref (gAd E (25)), .ref (gAd E (26)), .int (nI (tc j)), .ref (gAd E (17))] rfl ?_
    refine G.getf cls_X10 (25) 7 (by omega) (h.q25) (by decide) rfl (tbd tv_X10_finish rfl) w_417 ?_
    refine G.go tv_X10_finish 1 56 [(0, .ref (gAd E (25))), (1, .int (nI (j)))] [.int (nI (j)), .ref (gAd E (29)), .ref (gAd E (26)), .int (nI (tc j)), .ref (gAd E (17))] rfl ?_
    refine G.ialdN (29) (j) (by omega) (h.q29) (by omega) (by omega) (tbd tv_X10_finish rfl) ?_
    refine G.eqs [.int ((cA (adC tc e0 C (j)) 29) (j)), .ref (gAd E (26)), .int (nI (tc j)), .ref (gAd E (17))] rfl ?_
    refine G.eqs [.int (nI (tc j)), .ref (gAd E (26)), .int (nI (tc j)), .ref (gAd E (17))] (by rw [show cA (adC tc e0 C (j)) 29 (j) = nI (tc (j)) from (congrFun (adC_a (j) 29 (by decide) (by decide)) _).trans (t1 (j) (by omega)).2]) ?_
    refine G.aaldN (26) (tc j) (by omega) (h.q26) ((t1 j (by omega)).1) (by omega) (tbd tv_X10_finish rfl) ?_
    refine G.eqs [.ref (gAd E (350 + N + (tc j))), .int (nI (tc j)), .ref (gAd E (17))] (by rw [rwA_at ((t1 j (by omega)).1)]; rfl) ?_
    refine G.callV (17) [.int (nI (tc j)), .ref (gAd E (350 + N + (tc j)))] [] (c_X9_addBlock E _ N B gr (adC tc e0 C (j)) hz h (tc j) (e0 + j) (t1 j (by omega)).1 (adC_u u2 j) (by omega) (by rw [show cR (adC tc e0 C j) 2 (tc j) = cR C 2 (tc j) from congrFun (adC_r j 2 (by decide)) _]; exact by2 _ (t1 j (by omega)).1)) cls_X9 (by omega) (h.q17) cw_X10_170 w_1261 w_1262 (Nat.le_of_ble_eq_true rfl) rfl (Nat.le_of_ble_eq_true rfl) (tbd tv_X10_finish rfl) (fun v1 f1 q1 => ?_) (fun _ _ h => h.elim)
    obtain ⟨rfl, ha1, fa1⟩ := q1
    refine G.eqs [] rfl ?_
    refine G.go tv_X10_finish 2 29 [(0, .ref (gAd E (25))), (1, .int (nI (j) + (1 : Int32)))] [] rfl ?_
    refine G.eql [(0, .ref (gAd E (25))), (1, .int (nI (j + 1)))] (by rw [nI_1]) ?_
    exact ih (j + 1) (by omega) _ (ha1) ((hf.tr fa1 (fun _ h => h)))
theorem w_1265 : Cond.methodLink "LedgerFiles$View" 173 yX9_addChange ∈ TB := tp_5 159 (by decide +kernel) rfl
theorem w_1268 : Cond.code yX9_addChange prog_11_method_5_code 1 none ∈ TB := tp_5 162 rfl rfl
theorem cw_X10_173 : Cw RX10 173 yX9_addChange cX9_addChange 1 none 0 := ⟨w_1265, w_1268, w_154, by decide +kernel, by decide +kernel, by decide⟩
theorem w_1266 : Cond.instanceMethod yX9_addChange ∈ TB := tp_5 160 (by decide +kernel) rfl
theorem w_1267 : Cond.selects "LedgerFiles$Queue" yX9_addChange yX9_addChange ∈ TB := tp_5 161 (by decide +kernel) rfl
set_option maxRecDepth 100000 in
set_option maxHeartbeats 4000000 in
theorem fin_c (E : gE) (f0 : Nat → va_E) (sz : Nat) (QA : Nat → Prop) (Q : gQ) (N B gr : Nat) (C : CfT) (hz : CfZ E N B gr) (tc : Nat → Nat) (e0 n : Nat) (hn : n ≤ 40) (he : e0 + n ≤ gr * 40) (t1 : ∀ i, i < n → tc i < N ∧ cA C 29 i = nI (tc i)) (n2 : cS C 2508 = nI n) (u2 : cS C 1707 = nI e0) (by2 : ∀ b, b < N → Byt (cR C 2 b)) (hd m : Nat) (h8 : cS C 1708 = nI hd) (hm : cS C 1711 = nI m) (hg : hd < gr) (f : Nat → va_E) (h : CfV E f N B gr C) (hf : Fr CfK f0 f) (kq : ∀ g, CfV E g N B gr (sS (sS (sA (adC tc e0 C (n)) 22 (upd (cA (adC tc e0 C (n)) 22) hd (nI (e0 + n)))) 1708 ((nI hd) + ((1 : Int32)))) 1712 (nI m)) → Fr CfK f0 g → G E (11, yX10_finish, 2, none, sz, QA) cX10_finish (gO E (11, yX10_finish, 2, none, sz, QA) Q) 74 [(0, .ref (gAd E (25)))] [] g) : G E (11, yX10_finish, 2, none, sz, QA) cX10_finish (gO E (11, yX10_finish, 2, none, sz, QA) Q) 29 [(0, .ref (gAd E (25))), (1, .int (nI (0)))] [] f := by
  obtain ⟨z1, z2, z3, z4, z5, z6, z7⟩ := id hz
  refine fin_l E f0 sz QA Q N B gr C hz tc e0 n hn he t1 n2 u2 by2 (fun g h1 hf1 => ?_) n 0 (by omega) f h hf
  refine G.go tv_X10_finish 1 68 [(0, .ref (gAd E (25))), (1, .int (nI (n)))] [.ref (gAd E (25))] rfl ?_
  refine G.getf cls_X10 (25) 3 (by omega) (h1.q25) (by decide) rfl (tbd tv_X10_finish rfl) w_413 ?_
  refine G.callV (17) [] [] (c_X9_addChange E _ N B gr (adC tc e0 C (n)) hz h1 hd (e0 + n) m ((adC_s n 1708 (by decide)).trans h8) (adC_u u2 n) ((adC_s n 1711 (by decide)).trans hm) hg) cls_X9 (by omega) (h1.q17) cw_X10_173 w_1266 w_1267 (Nat.le_of_ble_eq_true rfl) rfl (Nat.le_of_ble_eq_true rfl) (tbd tv_X10_finish rfl) (fun v1 f1 q1 => ?_) (fun _ _ h => h.elim)
  obtain ⟨rfl, ha1, fa1⟩ := q1
  refine G.eqs [] rfl ?_
  refine G.less [(0, .ref (gAd E (25)))] [0] rfl ?_
  exact kq _ (ha1) ((hf1.tr fa1 (fun _ h => h)))
theorem fin_q (E : gE) (f0 : Nat → va_E) (sz : Nat) (QA : Nat → Prop) (Q : gQ) (N B gr : Nat) (C D : CfT) (A A2 : MS) (hz : CfZ E N B gr) (f : Nat → va_E) (h : CfV E f N B gr C) (hD : Dq D C) (hA : AR N B gr A C) (hf : Fr CfK f0 f) (hr : qaO N gr A D = some A2) (kq : ∀ u, SN E N B gr f0 A2 D u → G E (11, yX10_finish, 2, none, sz, QA) cX10_finish (gO E (11, yX10_finish, 2, none, sz, QA) Q) 74 [(0, .ref (gAd E (25)))] [] u) : G E (11, yX10_finish, 2, none, sz, QA) cX10_finish (gO E (11, yX10_finish, 2, none, sz, QA) Q) 29 [(0, .ref (gAd E (25))), (1, .int ((0 : Int32)))] [] f := by
  obtain ⟨z1, z2, z3, z4, z5, z6, z7⟩ := id hz
  obtain ⟨⟨hg, n, tc, hn, n2, ht, hd, hq⟩, hr⟩ := gd_s hr
  cases hr
  obtain ⟨h1, h2, h3, h4, ⟨en, h5⟩, h6, h7, h8, h9⟩ := id hA
  obtain ⟨q, m, q1, q2, q3, q4, q5, q6, q7⟩ := id h7
  have hle := h5.le A.2.2.2.1.length (Nat.le_refl _)
  have he : en A.2.2.2.1.length + n ≤ gr * 40 := by
    have : (A.2.2.2.1.length + 1) * 40 ≤ gr * 40 := Nat.mul_le_mul_right 40 hg
    omega
  have n2C : cS C 2508 = nI n := (hD.1 2508 (by decide)).trans n2
  have t29 : ∀ i, i < n → tc i < N ∧ cA C 29 i = nI (tc i) := fun i hi => ⟨(ht i hi).1, (congrFun (hD.2 29 (by decide)) i).trans (ht i hi).2.2.1⟩
  have by2 : ∀ b, b < N → Byt (cR C 2 b) := fun b hb => (h8 b hb).1
  have ow : ∀ i, i < n → A.2.2.2.2.2.1 (tc i) = some (nr (cR C 2 (tc i))) := fun i hi => by
    obtain ⟨t1, t2, t3, t4⟩ := ht i hi
    obtain ⟨-, -, ⟨-, o1⟩ | ⟨-, o1⟩⟩ := h8 _ t1
    · exact absurd o1 t4
    · exact o1
  refine fin_c E f0 sz QA Q N B gr C hz tc (en A.2.2.2.1.length) n hn he t29 n2C h5.2.2.2.1 by2 A.2.2.2.1.length m h5.2.1 q4 hg f h hf (fun g hc hf1 => kq g ⟨_, hc, ?_, ?_, hf1⟩)
  · refine hD.n (fun j z => ?_) (fun k z => ?_)
    · have a1 : j ≠ 1712 := fun e => by rw [e] at z; revert z; decide
      have a2 : j ≠ 1708 := fun e => by rw [e] at z; revert z; decide
      have a3 : j ≠ 1707 := fun e => by rw [e] at z; revert z; decide
      exact ((pk_un a1).trans (pk_un a2)).trans (adC_s n j a3)
    · have a1 : k ≠ 22 := fun e => by rw [e] at z; revert z; decide
      have a2 : k ≠ 19 := fun e => by rw [e] at z; revert z; decide
      have a3 : k ≠ 20 := fun e => by rw [e] at z; revert z; decide
      exact (if_neg a1).trans (adC_a n k a2 a3)
  · have r4 := adC_4 (tc := tc) (e0 := en A.2.2.2.1.length) (C := C) n (fun i hi => by2 _ (t29 i hi).1)
    have hs : Sm [2] C (adC tc (en A.2.2.2.1.length) C n) := ⟨fun j z => adC_s n j (fun e => z (by rw [e]; decide)), fun k z => adC_a n k (fun e => z (by rw [e]; decide)) (fun e => z (by rw [e]; decide)), fun r z => adC_r n r (fun e => z (by rw [e]; decide))⟩
    have hs2 : Sm [2] C (sS (sS (sA (adC tc (en A.2.2.2.1.length) C n) 22 (upd (cA (adC tc (en A.2.2.2.1.length) C n) 22) A.2.2.2.1.length (nI (en A.2.2.2.1.length + n)))) 1708 ((nI A.2.2.2.1.length) + ((1 : Int32)))) 1712 (nI m)) := ((hs.tr (Sm.a (by decide))).tr (Sm.s (by decide))).tr (Sm.s (by decide))
    refine ⟨h1.sm hs2 (by decide), h2, h3.sm hs2 (by decide), h4, ⟨fun i => if i ≤ A.2.2.2.1.length then en i else en A.2.2.2.1.length + n, QeR.add (tc := tc) (n := n) (fun i hi => if_pos hi) (if_neg (by omega)) z2 h5 hg hn ?_ ?_ (fun i hi => ?_) ?_ (fun r hr => ?_) (fun i hi => ?_) (fun r hr => ?_) (fun i hi => ?_) (fun b hb hnb => ?_) (fun i hi => ?_) (fun i hi => ⟨(ht i hi).1, (ht i hi).2.1⟩) hd (fun b x hb => hq b (by rw [hb]; exact fun z => by cases z))⟩, fun r hr => r4.2.2 r (h6 r hr), h7.chg z2 q4 (by omega) ?_ rfl ?_ ?_, h8.sm (hs2.2.1 27 (by decide)) (hs2.2.1 28 (by decide)) (fun b => congrFun (hs2.2.2 2 (by decide)) b), (hs2.1 2511 (by decide)).trans h9⟩
    · show (nI A.2.2.2.1.length) + ((1 : Int32)) = _
      rw [nI_1]
    · exact adC_u h5.2.2.2.1 n
    · show upd (cA (adC tc (en A.2.2.2.1.length) C n) 22) A.2.2.2.1.length (nI (en A.2.2.2.1.length + n)) i = _
      rw [pk_un (by omega), adC_a n 22 (by decide) (by decide)]
    · exact pk_us
    · exact (adC_19 n).1 r hr
    · exact (adC_19 n).2 i hi
    · exact r4.1 r hr
    · have ri := r4.2.1 i hi
      refine ⟨?_, r4.2.2 _ (h6 _ (by omega))⟩
      rw [ow i hi]
      exact congrArg some ri.symm
    · exact (adC_20 n hd).1 b hnb
    · exact (adC_20 n hd).2 i hi
    · exact adC_s n 1711 (by decide)
    · exact adC_a n 23 (by decide) (by decide)
    · exact adC_a n 24 (by decide) (by decide)
/-- isFull -/
def fFu (N B gr : Nat) (A : MS) (D : CfT) : Option (FR Int32) := some (.inl (if A.2.2.2.1.length < gr then 0 else 1, A, D))
theorem k_X9_isFull (E : gE) (f : Nat → va_E) (N B gr : Nat) (C D : CfT) (A : MS) (hz : CfZ E N B gr) (h : CfV E f N B gr C) (hD : Dq D C) (hA : AR N B gr A C) (r : FR Int32) (hr : fFu N B gr A D = some r) : Ct E 1 yX9_isFull cX9_isFull 1 (some .boolean) [.ref (gAd E (17))] f (FQ E N B gr f (fun r => some (.int r)) r) := by
  obtain ⟨z1, z2, z3, z4, z5, z6, z7⟩ := id hz
  cases hr
  obtain ⟨en, hq⟩ := hA.2.2.2.2.1
  refine (c_X9_isFull E f N B gr C hz h).mono (fun v g q => ?_) (fun _ _ q => q.elim)
  obtain ⟨q1, q2, q3⟩ := q
  refine FQ.ok (q1.trans ?_) ⟨C, q2, hD, hA, q3⟩
  have e : quF C gr = if A.2.2.2.1.length < gr then 0 else 1 := by
    unfold quF
    rw [hq.2.1]
    have := hq.2.2.1
    by_cases c : A.2.2.2.1.length < gr
    · rw [if_pos c, if_neg (fun z => by have := nI_inj (by omega) (by omega) z; omega)]
    · rw [if_neg c, if_pos (by rw [show A.2.2.2.1.length = gr by omega])]
  rw [e]
def gpI (A : MS) : Int32 := if A.2.2.2.2.2.2.2 then 1 else 0
theorem AR.gp {N B gr : Nat} {A : MS} {C : CfT} (h : AR N B gr A C) : cS C 2511 = gpI A := h.2.2.2.2.2.2.2.2
def aGp (A : MS) (b : Bool) : MS := (A.1, A.2.1, A.2.2.1, A.2.2.2.1, A.2.2.2.2.1, A.2.2.2.2.2.1, A.2.2.2.2.2.2.1, b)
def gpO (A : MS) (b : Bool) : Option MS := some (aGp A b)
theorem SN.gp {E : gE} {f f0 : Nat → va_E} {N B gr : Nat} {C D : CfT} {A A2 : MS} {b : Bool} {x : Int32} {e : va_E} (hA : AR N B gr A C) (hD : Dq D C) (hf : Fr CfK f0 f) (hr : gpO A b = some A2) (hx : x = if b then 1 else 0) (h : CfV E (va_up f 25 e) N B gr (sS C 2511 x)) : SN E N B gr f0 A2 D (va_up f 25 e) := by
  cases hr
  subst hx
  obtain ⟨h1, h2, h3, h4, ⟨en, h5⟩, h6, h7, h8, h9⟩ := id hA
  have hs : Sm [3] C (sS C 2511 (if b then 1 else 0)) := Sm.s (by decide)
  exact ⟨_, h, hD.s (by decide), ⟨h1.sm hs (by decide), h2, h3.sm hs (by decide), h4, ⟨en, h5.smL hs (by decide)⟩, h6, h7.sm (hs.1 1711 (by decide)) (hs.1 1712 (by decide)) (hs.2.1 23 (by decide)) (hs.2.1 24 (by decide)), h8, (by show upd C.1 2511 (if b then 1 else 0) 2511 = if b then 1 else 0; rw [pk_us])⟩, Fr.c hf (Or.inl (by decide))⟩
end DCI
