section CLC
/-- the log's next block from t on, or -1 -/
def NxL (N : Nat) (L : List En) (t : Nat) (x : Int32) : Prop := (x = -1 ∧ ∀ u, t ≤ u → u < N → lVal L u = none) ∨ ∃ u, t ≤ u ∧ u < N ∧ x = nI u ∧ lVal L u ≠ none ∧ ∀ v, t ≤ v → v < u → lVal L v = none
theorem lgNx_min (bl : Nat → Int32) (x : Int32) : ∀ k, (∀ j, j < k → ¬ bl j = -1) → (lgNx bl x k = -1 ∧ ∀ j, j < k → ¬ x < bl j) ∨ ∃ j, j < k ∧ lgNx bl x k = bl j ∧ x < bl j ∧ ∀ i, i < k → x < bl i → bl j ≤ bl i
  | 0, _ => Or.inl ⟨rfl, fun j hj => absurd hj (Nat.not_lt_zero j)⟩
  | k + 1, hn => by
    have ih := lgNx_min bl x k (fun j hj => hn j (by omega))
    show ((if x < bl k ∧ (lgNx bl x k = -1 ∨ bl k < lgNx bl x k) then bl k else lgNx bl x k) = -1 ∧ _) ∨ ∃ j, j < k + 1 ∧ (if x < bl k ∧ (lgNx bl x k = -1 ∨ bl k < lgNx bl x k) then bl k else lgNx bl x k) = bl j ∧ _
    by_cases c : x < bl k ∧ (lgNx bl x k = -1 ∨ bl k < lgNx bl x k)
    · rw [if_pos c]
      refine Or.inr ⟨k, by omega, rfl, c.1, fun i hi hx => ?_⟩
      by_cases e : i = k
      · rw [e]
        exact Int32.le_refl _
      · rcases ih with ⟨_, h2⟩ | ⟨j, h1, h2, h3, h4⟩
        · exact absurd hx (h2 i (by omega))
        · have h5 := h4 i (by omega) hx
          rcases c.2 with z | z
          · rw [h2] at z
            exact absurd z (hn j (by omega))
          · rw [h2] at z
            exact Int32.le_of_lt (Int32.lt_of_lt_of_le z h5)
    · rw [if_neg c]
      rcases ih with ⟨h1, h2⟩ | ⟨j, h1, h2, h3, h4⟩
      · refine Or.inl ⟨h1, fun j hj => ?_⟩
        by_cases e : j = k
        · rw [e]
          exact fun z => c ⟨z, Or.inl h1⟩
        · exact h2 j (by omega)
      · refine Or.inr ⟨j, by omega, h2, h3, fun i hi hx => ?_⟩
        by_cases e : i = k
        · rw [e] at hx ⊢
          exact Int32.not_lt.mp (fun z => c ⟨hx, Or.inr (by rw [h2]; exact z)⟩)
        · exact h4 i (by omega) hx
theorem lVal_some {L : List En} {u : Nat} (h : lVal L u ≠ none) : ∃ k, k < L.length ∧ (lAt L k).1 = u := by
  cases e : lVal L u with
  | none => exact absurd e h
  | some x =>
    obtain ⟨k, hk, q⟩ := mem_lAt (lVal_mem e)
    exact ⟨k, hk, by rw [q]⟩
theorem lVal_is {L : List En} {k : Nat} (h : k < L.length) : lVal L (lAt L k).1 ≠ none := fun e => lVal_none.mp e _ (lAt_mem h) rfl
theorem LgR.nx {N : Nat} {C : CfT} {L : List En} {tu : Int32} (hN : N ≤ 1024) (h : LgR N C L tu) (x : Int32) (t : Nat) (hx : ∀ u, u < N → (x < nI u ↔ t ≤ u)) : NxL N L t (lgNx (cA C 14) x L.length) := by
  obtain ⟨h1, h2, h3, h4, h5, h6⟩ := h
  rcases lgNx_min (cA C 14) x L.length (fun j hj => by rw [(h4 j hj).2]; exact nI_m1 (by have := (h4 j hj).1; omega)) with ⟨q1, q2⟩ | ⟨j, q1, q2, q3, q4⟩
  · refine Or.inl ⟨q1, fun u hu hu2 => Classical.byContradiction fun z => ?_⟩
    obtain ⟨k, hk, e⟩ := lVal_some z
    have := q2 k hk
    rw [(h4 k hk).2, e] at this
    exact this ((hx u hu2).mpr hu)
  · obtain ⟨r1, r2⟩ := h4 j q1
    rw [r2] at q2 q3
    refine Or.inr ⟨(lAt L j).1, (hx _ r1).mp q3, r1, q2, lVal_is q1, fun v hv hv2 => Classical.byContradiction fun z => ?_⟩
    obtain ⟨k, hk, e⟩ := lVal_some z
    have hk2 := h4 k hk
    have := q4 k hk (by rw [hk2.2, e]; exact (hx v (by omega)).mpr hv)
    rw [r2, hk2.2, e] at this
    have := (nI_leI (by omega) (by omega)).mp this
    omega
/-- a row that lies in what is synced -/
theorem k_rowS (E : gE) (f : Nat → va_E) (N B gr : Nat) (C : CfT) (hz : CfZ E N B gr) (h : CfV E f N B gr C) (hw : Hw) (on : Int32) (hh : HwR N B on hw C) (u : Nat) (hu : u < N) (hf : hFree hw u) : Ct E 1 yX2_row cX2_row 2 (some (.array .byte)) [.ref (gAd E (2)), .int (nI u)] f (fun v g => v = some (.ref (gAd E (350 + u))) ∧ CfV E g N B gr C ∧ Fr CfK f g, fun _ _ => False) := by
  obtain ⟨z1, z2, z3, z4, z5, z6, z7⟩ := id hz
  obtain ⟨h1, h2, h3⟩ := hh
  obtain ⟨v1, v2⟩ := h.db h1
  refine (c_X2_row E f N (dkOf C) (cS C 208) (cS C 209) (cS C 210) (cS C 211) (by omega) z2 v1 h2.2.2.1 u hu).mono (fun v g q => ?_) (fun _ _ q => q)
  have hla : (dkOf C).2.1 u = -1 := CDk.la z2 h2.1 hu hf.2
  obtain ⟨e, q⟩ := q
  subst e
  rcases q with ⟨_, q⟩ | ⟨s, hs, q, _⟩
  · exact ⟨q, h, Fr.rf⟩
  · exact absurd (hla.symm.trans q).symm (nI_m1 (by omega))
theorem NxL.skip {N t : Nat} {L : List En} {x : Int32} (h : NxL N L t x) (ht : lVal L t = none) : NxL N L (t + 1) x := by
  rcases h with ⟨h1, h2⟩ | ⟨u, h1, h2, h3, h4, h5⟩
  · exact Or.inl ⟨h1, fun u hu hu2 => h2 u (by omega) hu2⟩
  · have : u ≠ t := fun z => h4 (by rw [z]; exact ht)
    exact Or.inr ⟨u, by omega, h2, h3, h4, fun v hv hv2 => h5 v (by omega) hv2⟩
theorem NxL.here {N t : Nat} {L : List En} {x : Int32} (h : NxL N L t x) (ht : t < N) (hv : lVal L t ≠ none) : x = nI t := by
  rcases h with ⟨h1, h2⟩ | ⟨u, h1, h2, h3, h4, h5⟩
  · exact absurd (h2 t (Nat.le_refl _) ht) hv
  · by_cases c : u = t
    · rw [h3, c]
    · exact absurd (h5 t (Nat.le_refl _) (by omega)) hv
theorem mHome_n {N B k t : Nat} {L : List En} {h : Hw} (e : lVal L t = none) : mHome N B L (k + 1) t h = mHome N B L k (t + 1) h := by
  show (match lVal L t with | some x => hB (aPl N B t x h) (mHome N B L k (t + 1)) | none => mHome N B L k (t + 1) h) = _
  rw [e]
theorem mHome_s {N B k t : Nat} {L : List En} {h : Hw} {x : Rw} (e : lVal L t = some x) : mHome N B L (k + 1) t h = hB (aPl N B t x h) (mHome N B L k (t + 1)) := by
  show (match lVal L t with | some x => hB (aPl N B t x h) (mHome N B L k (t + 1)) | none => mHome N B L k (t + 1) h) = _
  rw [e]
/-- the entries' values lie on the disk, synced -/
def LgD (hw : Hw) (L : List En) : Prop := ∀ k, k < L.length → hFree hw (3 + k) ∧ hSee hw (3 + k) = (lAt L k).2 ∧ 43 ≤ (lAt L k).1
theorem LgD.pl {N B t : Nat} {L : List En} {x : Rw} {hw : Hw} (h : LgD hw L) (ho : HOk N B hw) (hl : L.length ≤ 40) (ht : 43 ≤ t) (hp : (aPl N B t x hw).1 = true) : LgD (aPl N B t x hw).2 L := fun k hk => by
  obtain ⟨h1, h2, h3⟩ := h k hk
  refine ⟨h1.pl ho (by omega), ?_, h3⟩
  rw [aPl_see ho hp, if_neg (by omega)]
  exact h2
end CLC
def tb_X6_applyAll : List (Nat × Instr × Nat) := [(0, .aload_n 0, 1), (1, .getfield 42, 3), (4, .ifCond .ne 4, 3), (7, .return_, 1), (8, .aload_n 0, 1), (9, .iconst (-1), 1), (10, .invokevirtual 112, 3), (13, .istore_n 1, 1), (14, .iconst 0, 1), (15, .istore_n 2, 1), (16, .iload_n 2, 1), (17, .aload_n 0, 1), (18, .getfield 42, 3), (21, .if_icmp .ge 43, 3), (24, .iload_n 1, 1), (25, .iconst (-1), 1), (26, .if_icmp .eq 38, 3), (29, .aload_n 0, 1), (30, .getfield 23, 3), (33, .iload_n 1, 1), (34, .aload_n 0, 1), (35, .getfield 19, 3), (38, .iconst 3, 1), (39, .aload_n 0, 1), (40, .getfield 33, 3), (43, .iload_n 1, 1), (44, .iaload, 1), (45, .iadd, 1), (46, .invokevirtual 49, 3), (49, .invokevirtual 77, 3), (52, .aload_n 0, 1), (53, .iload_n 1, 1), (54, .invokevirtual 112, 3), (57, .istore_n 1, 1), (58, .iinc 2 1, 3), (61, .goto (-45), 3), (64, .aload_n 0, 1), (65, .getfield 23, 3), (68, .invokevirtual 109, 3), (71, .aload_n 0, 1), (72, .invokevirtual 70, 3), (75, .aload_n 0, 1), (76, .dup, 1), (77, .getfield 60, 3), (80, .iconst 1, 1), (81, .iadd, 1), (82, .putfield 60, 3), (85, .aload_n 0, 1), (86, .getfield 23, 3), (89, .iconst 1, 1), (90, .aload_n 0, 1), (91, .invokevirtual 73, 3), (94, .invokevirtual 77, 3), (97, .aload_n 0, 1), (98, .getfield 23, 3), (101, .invokevirtual 109, 3), (104, .return_, 1)]
theorem tv_X6_applyAll : Tv cX6_applyAll tb_X6_applyAll := by
  unfold Tv
  decide +kernel
theorem w_889 : Cond.methodLink "LedgerFiles$Log" 112 yX6_nextAbove ∈ TB := tp_4 23 (by decide +kernel) rfl
theorem w_892 : Cond.code yX6_nextAbove prog_8_method_10_code 4 (some .int) ∈ TB := tp_4 26 rfl rfl
theorem cw_X6_112 : Cw RX6 112 yX6_nextAbove cX6_nextAbove 4 (some .int) 1 := ⟨w_889, w_892, w_153, by decide +kernel, by decide +kernel, by decide⟩
theorem w_891 : Cond.instanceMethod yX6_nextAbove ∈ TB := tp_4 25 (by decide +kernel) rfl
theorem w_14 : Cond.selects "LedgerFiles$Log" yX6_nextAbove yX6_nextAbove ∈ TB := tp_0 14 (by decide +kernel) rfl
set_option maxRecDepth 100000 in
set_option maxHeartbeats 4000000 in
theorem aa_l (E : gE) (f0 : Nat → va_E) (sz : Nat) (A : Nat → Prop) (Q : gQ) (N B gr : Nat) (C0 : CfT) (hz : CfZ E N B gr) (L : List En) (tu : Int32) (h0 : Hw) (hb0 : hSp h0 + 100 < 2 ^ 31)
    (kq : ∀ g C hw, CfV E g N B gr C → Fr CfK f0 g → HwR N B 1 hw C → LgR N C L tu → Sm [0, 1] C0 C → mHome N B L N 0 h0 = (true, hw) → hSp hw ≤ hSp h0 + lNum L N → HOk N B hw → LgD hw L → G E (9, yX6_applyAll, 3, none, sz, A) cX6_applyAll (gO E (9, yX6_applyAll, 3, none, sz, A) Q) 64 [(0, .ref (gAd E (13))), (1, .int ((-1 : Int32))), (2, .int (nI (lNum L N)))] [] g)
    (hx : ∀ g C, CfV E g N B gr C → Fr CfK f0 g → HwR N B 0 (hFl (mHome N B L N 0 h0).2) C → Sm [0, 1] C0 C → Byt (cA C 15) → (mHome N B L N 0 h0).1 = false → Q.2 "java/lang/UnsupportedOperationException" g) :
    ∀ (d t : Nat), t + d = N → ∀ f C hw y, CfV E f N B gr C → Fr CfK f0 f → HwR N B 1 hw C → LgR N C L tu → Sm [0, 1] C0 C → mHome N B L d t hw = mHome N B L N 0 h0 → hSp hw ≤ hSp h0 + lNum L t → HOk N B hw → LgD hw L → NxL N L t y → G E (9, yX6_applyAll, 3, none, sz, A) cX6_applyAll (gO E (9, yX6_applyAll, 3, none, sz, A) Q) 16 [(0, .ref (gAd E (13))), (1, .int (y)), (2, .int (nI (lNum L t)))] [] f := by
  obtain ⟨z1, z2, z3, z4, z5, z6, z7⟩ := id hz
  intro d
  induction d with
  | zero =>
    intro t e f C hw y h hf hh hl hs ho hsp hok hld hnx
    have e : t = N := e
    subst e
    have ey : y = -1 := by
      rcases hnx with ⟨q, _⟩ | ⟨u, q1, q2, _⟩
      · exact q
      · omega
    subst ey
    refine G.go tv_X6_applyAll 2 18 [(0, .ref (gAd E (13))), (1, .int ((-1 : Int32))), (2, .int (nI (lNum L t)))] [.ref (gAd E (13)), .int (nI (lNum L t))] rfl ?_
    refine G.getf cls_X6 (13) 5 (by omega) (h.q13) (by decide) rfl (tbd tv_X6_applyAll rfl) w_325 ?_
    refine G.eqs [.int (nI L.length), .int (nI (lNum L t))] (by rw [hl.1]) ?_
    refine G.cmp_ge 64 (tbd tv_X6_applyAll rfl) (by decide) (fun c21 => ?_) (fun c21 => ?_)
    · skip
      exact kq _ C hw h hf hh hl hs (by rw [← ho]; rfl) hsp hok hld
    · skip
      refine G.go tv_X6_applyAll 2 26 [(0, .ref (gAd E (13))), (1, .int ((-1 : Int32))), (2, .int (nI (lNum L t)))] [.int ((-1 : Int32)), .int ((-1 : Int32))] rfl ?_
      refine G.cmp_eq 64 (tbd tv_X6_applyAll rfl) (by decide) (fun c26 => ?_) (fun c26 => absurd (rfl) c26)
      exact kq _ C hw h hf hh hl hs (by rw [← ho]; rfl) hsp hok hld
  | succ d ih =>
    intro t e f C hw y h hf hh hl hs ho hsp hok hld hnx
    have h40 := hl.2.1
    have hle := lNum_le L t
    cases hv : lVal L t with
    | none =>
      have e1 : lNum L (t + 1) = lNum L t := by
        show lNum L t + (if (lVal L t).isSome then 1 else 0) = _
        rw [hv]
        rfl
      rw [← e1]
      exact ih (t + 1) (by omega) f C hw y h hf hh hl hs (by rw [← ho, mHome_n hv]) (by rw [e1]; exact hsp) hok hld (hnx.skip hv)
    | some x =>
      have hnum1 : lNum L t + 1 = lNum L (t + 1) := by
        show _ = lNum L t + (if (lVal L t).isSome then 1 else 0)
        rw [hv]
        rfl
      have hlt := lNum_le L (t + 1)
      have ey := hnx.here (by omega) (by rw [hv]; exact fun z => by cases z)
      subst ey
      obtain ⟨k, hk, ek, ev⟩ : ∃ k, k < L.length ∧ cA C 16 t = nI k ∧ lVal L t = some (lAt L k).2 := by
        rcases (hl.2.2.2.2.1 t (by omega)).val with ⟨_, q⟩ | q
        · rw [hv] at q
          cases q
        · exact q
      have hxk : x = (lAt L k).2 := by
        rw [hv] at ev
        injection ev
      have h43 : 43 ≤ t := by
        obtain ⟨k2, hk2, e2⟩ := lVal_some (L := L) (u := t) (by rw [hv]; exact fun z => by cases z)
        have := (hld k2 hk2).2.2
        omega
      obtain ⟨hfr, hse, _⟩ := hld k hk
      have hva : hw.1.1 (3 + k) = x := by rw [hfr.see, hse, hxk]
      have hov : mHome N B L N 0 h0 = hB (aPl N B t x hw) (mHome N B L d (t + 1)) := by rw [← ho, mHome_s hv]
      refine G.go tv_X6_applyAll 2 18 [(0, .ref (gAd E (13))), (1, .int (nI t)), (2, .int (nI (lNum L t)))] [.ref (gAd E (13)), .int (nI (lNum L t))] rfl ?_
      refine G.getf cls_X6 (13) 5 (by omega) (h.q13) (by decide) rfl (tbd tv_X6_applyAll rfl) w_325 ?_
      refine G.eqs [.int (nI L.length), .int (nI (lNum L t))] (by rw [hl.1]) ?_
      refine G.cmp_ge 64 (tbd tv_X6_applyAll rfl) (by decide) (fun c21 => absurd c21 (nI_ge (by omega) (by omega))) (fun c21 => ?_)
      refine G.go tv_X6_applyAll 2 26 [(0, .ref (gAd E (13))), (1, .int (nI t)), (2, .int (nI (lNum L t)))] [.int ((-1 : Int32)), .int (nI t)] rfl ?_
      refine G.cmp_eq 64 (tbd tv_X6_applyAll rfl) (by decide) (fun c26 => absurd c26 (nI_m1 (by omega))) (fun c26 => ?_)
      refine G.go tv_X6_applyAll 1 30 [(0, .ref (gAd E (13))), (1, .int (nI t)), (2, .int (nI (lNum L t)))] [.ref (gAd E (13))] rfl ?_
      refine G.getf cls_X6 (13) 1 (by omega) (h.q13) (by decide) rfl (tbd tv_X6_applyAll rfl) w_320 ?_
      refine G.go tv_X6_applyAll 2 35 [(0, .ref (gAd E (13))), (1, .int (nI t)), (2, .int (nI (lNum L t)))] [.ref (gAd E (13)), .int (nI t), .ref (gAd E (8))] rfl ?_
      refine G.getf cls_X6 (13) 0 (by omega) (h.q13) (by decide) rfl (tbd tv_X6_applyAll rfl) w_319 ?_
      refine G.go tv_X6_applyAll 2 40 [(0, .ref (gAd E (13))), (1, .int (nI t)), (2, .int (nI (lNum L t)))] [.ref (gAd E (13)), .int ((3 : Int32)), .ref (gAd E (2)), .int (nI t), .ref (gAd E (8))] rfl ?_
      refine G.getf cls_X6 (13) 4 (by omega) (h.q13) (by decide) rfl (tbd tv_X6_applyAll rfl) w_323 ?_
      refine G.go tv_X6_applyAll 1 44 [(0, .ref (gAd E (13))), (1, .int (nI t)), (2, .int (nI (lNum L t)))] [.int (nI t), .ref (gAd E (16)), .int ((3 : Int32)), .ref (gAd E (2)), .int (nI t), .ref (gAd E (8))] rfl ?_
      refine G.ialdN (16) (t) (by omega) (h.q16) (by omega) (by omega) (tbd tv_X6_applyAll rfl) ?_
      refine G.go tv_X6_applyAll 1 46 [(0, .ref (gAd E (13))), (1, .int (nI t)), (2, .int (nI (lNum L t)))] [.int (((3 : Int32)) + ((cA C 16) (t))), .ref (gAd E (2)), .int (nI t), .ref (gAd E (8))] rfl ?_
      refine G.eqs [.int (nI (3 + k)), .ref (gAd E (2)), .int (nI t), .ref (gAd E (8))] (by rw [ek, show (3 : Int32) = nI 3 from rfl, nI_add]) ?_
      refine G.callV (2) [.int (nI (3 + k))] [.int (nI t), .ref (gAd E (8))] (k_rowS E _ N B gr C hz h hw 1 hh (3 + k) (by omega) hfr) cls_X2 (by omega) (h.q2) cw_X6_49 w_801 w_802 (Nat.le_of_ble_eq_true rfl) rfl (Nat.le_of_ble_eq_true rfl) (tbd tv_X6_applyAll rfl) (fun v1 f1 q1 => ?_) (fun _ _ h => h.elim)
      obtain ⟨rfl, ha1, fa1⟩ := q1
      refine G.eqs [.ref (gAd E (350 + (3 + k))), .int (nI t), .ref (gAd E (8))] rfl ?_
      refine G.callV (8) [.int (nI t), .ref (gAd E (350 + (3 + k)))] [] (r_plS E _ N B gr C hz ha1 hw hh (show hSp hw + 2 < 2 ^ 31 by omega) t (3 + k) (by omega) (by omega) hfr.2) cls_X0 (by omega) (ha1.q8) cw_X6_77 w_718 w_719 (Nat.le_of_ble_eq_true rfl) rfl (Nat.le_of_ble_eq_true rfl) (tbd tv_X6_applyAll rfl) (fun v2 f2 q2 => ?_) (fun X g q => by obtain ⟨rfl, q2, ⟨C9, q3, q4, q5⟩, q6⟩ := q; rw [hva] at q2 q4; have e9 := hov.trans (hB_f q2); exact hx g C9 q3 ((hf.tr fa1 (fun _ h => h)).tr q6 (fun _ h => h)) (by rw [e9]; exact q4) (hs.tr (q5.wk (by decide))) (by have e15 : cA C9 15 = cA C 15 := q5.2.1 15 (by decide); rw [e15]; exact hl.2.2.2.2.2) (by rw [e9]; exact q2))
      obtain ⟨rfl, ht2, ⟨C2, hc2, hh2, hs2⟩, fa2⟩ := q2
      refine G.eqs [] rfl ?_
      rw [hva] at ht2 hh2
      have hl1 := hl.sm hs2 (by decide)
      refine G.go tv_X6_applyAll 2 54 [(0, .ref (gAd E (13))), (1, .int (nI t)), (2, .int (nI (lNum L t)))] [.int (nI t), .ref (gAd E (13))] rfl ?_
      refine G.callV (13) [.int (nI t)] [] (k_nextAbove E _ N B gr C2 hz hc2 (nI t) L.length hl1.1 hl1.2.1) cls_X6 (by omega) (hc2.q13) cw_X6_112 w_891 w_14 (Nat.le_of_ble_eq_true rfl) rfl (Nat.le_of_ble_eq_true rfl) (tbd tv_X6_applyAll rfl) (fun v3 f3 q3 => ?_) (fun _ _ h => h.elim)
      obtain ⟨rfl, ha3, fa3⟩ := q3
      refine G.eqs [.int (lgNx (cA C2 14) (nI t) L.length)] rfl ?_
      refine G.go tv_X6_applyAll 3 16 [(0, .ref (gAd E (13))), (1, .int (lgNx (cA C2 14) (nI t) L.length)), (2, .int (nI (lNum L t) + (1 : Int32)))] [] rfl ?_
      refine G.eql [(0, .ref (gAd E (13))), (1, .int (lgNx (cA C2 14) (nI t) L.length)), (2, .int (nI (lNum L t + 1)))] (by rw [nI_1]) ?_
      rw [hnum1]
      exact ih (t + 1) (by omega) _ C2 _ _ (ha3) ((((hf.tr fa1 (fun _ h => h)).tr fa2 (fun _ h => h)).tr fa3 (fun _ h => h))) hh2 hl1 (hs.tr (hs2.wk (by decide))) ((hov.trans (hB_t ht2)).symm) (by have := aPl_sp (N := N) (B := B) (t := t) (x := x) (h := hw); have : hSp (aPl N B t x hw).2 ≤ hSp hw + 1 := this; have := lNum_le L t; omega) (aPl_ok hok (by omega)) (hld.pl hok hl.2.1 h43 ht2) (hl1.nx z2 (nI t) (t + 1) (fun u hu => ⟨fun z => (nI_ltI (by omega) (by omega)).mp z, fun z => (nI_ltI (by omega) (by omega)).mpr z⟩))
