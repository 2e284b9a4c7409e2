/-! ===== pure: both put a data block ===== -/
section PYD
variable {N B gr r u : Nat} {V W : Nat → Rw} {m m' : M5} {tk : Nat → Bool} {A A' : MS} {D D' D2 : CfT} {R R' : RfT} {g : Bool} {tp : Nat → Int32} {ow : Nat → Int} {s0 : S3} {l : List Nat} {b : Nat} {x : Rw}
theorem CX.pl (hm : MOk N B m) (h : CX N A D m V tk) (hb : 44 ≤ b) (hu : btM (V 43) b = 1) (ho : oA A b = none) (hd : drF m b) (ht : (aPl N B b x A.1).1 = true) : CX N ((aPl N B b x A.1).2, A.2) D (plO N B m b x).2 (vU V b x) tk := by
  have em : mA A = m := h.1
  have e1 : A.1 = m.1 := by rw [← em]; rfl
  rw [e1] at ht ⊢
  have bef : ∀ c, befM (plO N B m b x).2 c = if c = b then x else befM m c := fun c => plO_bef hm.1 ht hd
  obtain ⟨a1, a2, a3, a4, a5, a6, a7⟩ := h
  have e43 : vU V b x 43 = V 43 := vU_n (by omega)
  refine ⟨show mA ((aPl N B b x m.1).2, A.2) = (plO N B m b x).2 from by rw [← em]; rfl, a2, fun c c1 c2 => ?_, by rw [e43]; exact a4, a5, fun c hc => by rw [e43]; exact a6 c hc, fun c hc hu => a7 c hc (by rw [e43] at hu; exact hu)⟩
  obtain ⟨q1, q2⟩ := a3 c c1 c2
  rw [e43, vA_o, show mA ((aPl N B b x m.1).2, A.2) = (plO N B m b x).2 from by rw [← em]; rfl, bef c]
  rw [vA_o, em] at q1
  have eo : oA ((aPl N B b x m.1).2, A.2) = oA A := rfl
  have ek : kA ((aPl N B b x m.1).2, A.2) = kA A := rfl
  rw [eo, ek]
  by_cases c : c = b
  · subst c
    refine ⟨fun z => ⟨?_, (q1 z).2⟩, fun z => by rw [hu] at z; cases z⟩
    rw [ho, vU_s, if_pos rfl]
    rfl
  · rw [vU_n c, if_neg c]
    exact ⟨q1, q2⟩
theorem c_direct (hN1 : 61 ≤ N) (hN : N ≤ 1024) (h : CX N A D m V tk) (hm : MOk N B m) (hb : 44 ≤ b) (hbN : b < N) (hu : btM (V 43) b = 1) (ho : oA A b = none) (hby : Byt (cA D 42)) (hx : nr (cA D 42) = x) (hgr : m.2.2.2.1.length ≤ 16) (hsp : hSp m.1 + 4000 < 2 ^ 31) : ((drO N B m b x).1 = true ∧ ∃ A', d_X10_writeDirectly N B gr A D (nI b) = some (.inl ((), A', D)) ∧ CX N A' D (drO N B m b x).2 (vU V b x) tk ∧ gA A' = gA A ∧ oA A' = oA A ∧ kA A' = kA A) ∨ ((drO N B m b x).1 = false ∧ ∃ A', d_X10_writeDirectly N B gr A D (nI b) = some (.inr (0, A', D)) ∧ A'.1 = (drO N B m b x).2.1 ∧ TJ N A' D) := by
  have em : mA A = m := h.1
  have e1 : A.1 = m.1 := by rw [← em]; rfl
  have e2 : A.2.1 = m.2.1 := by rw [← em]; rfl
  have e3 : A.2.2.1 = m.2.2.1 := by rw [← em]; rfl
  have e4 : A.2.2.2.1 = m.2.2.2.1 := by rw [← em]; rfl
  have cl : (nI b).toNatClampNeg = b := nI_clamp (by omega)
  have fp : ∀ (A1 : MS) (m1 : M5), CX N A1 D m1 V tk → MOk N B m1 → oA A1 b = none → drF m1 b → hSp m1.1 + 1 < 2 ^ 31 → ((plO N B m1 b x).1 = true ∧ ∃ A', bndF (fPl N B gr A1 D (nI b)) (fun v24 A24 D24 => some (.inl ((), A24, D24))) = (some (.inl ((), A', D)) : Option (FR Unit)) ∧ CX N A' D (plO N B m1 b x).2 (vU V b x) tk ∧ gA A' = gA A1 ∧ oA A' = oA A1 ∧ kA A' = kA A1) ∨ ((plO N B m1 b x).1 = false ∧ ∃ A', bndF (fPl N B gr A1 D (nI b)) (fun v24 A24 D24 => some (.inl ((), A24, D24))) = (some (.inr (0, A', D)) : Option (FR Unit)) ∧ A'.1 = (plO N B m1 b x).2.1 ∧ TJ N A' D) := fun A1 m1 h1 hm1 ho1 hd1 hs1 => by
    have q1 : A1.1 = m1.1 := by rw [← h1.1]; rfl
    have ef : fPl N B gr A1 D (nI b) = if (aPl N B b x A1.1).1 = true then some (.inl ((), ((aPl N B b x A1.1).2, A1.2), D)) else some (.inr (0, ((aPl N B b x A1.1).2, A1.2), D)) := by
      unfold fPl
      rw [gd_t ⟨nI_nn (by omega), by rw [cl]; exact hbN, by rw [cl]; omega, hby, by rw [q1]; exact hs1⟩, cl, hx]
    rw [ef]
    cases c : (aPl N B b x A1.1).1 with
    | true =>
      rw [if_pos rfl]
      refine Or.inl ⟨by show (aPl N B b x m1.1).1 = true; rw [← q1]; exact c, _, rfl, h1.pl hm1 hb hu ho1 hd1 c, rfl, rfl, rfl⟩
    | false =>
      rw [if_neg (by decide)]
      refine Or.inr ⟨by show (aPl N B b x m1.1).1 = false; rw [← q1]; exact c, _, rfl, ?_, h1.tj⟩
      show (aPl N B b x A1.1).2 = (aPl N B b x m1.1).2
      rw [q1]
  have slow : ¬ drF m b → ((drO N B m b x).1 = true ∧ ∃ A', bndF (fFl N B gr A D) (fun v25 A25 D25 => bndF (fAp N B gr A25 D25) (fun v26 A26 D26 => bndF (fPl N B gr A26 D26 (nI b)) (fun v27 A27 D27 => some (.inl ((), A27, D27))))) = (some (.inl ((), A', D)) : Option (FR Unit)) ∧ CX N A' D (drO N B m b x).2 (vU V b x) tk ∧ gA A' = gA A ∧ oA A' = oA A ∧ kA A' = kA A) ∨ ((drO N B m b x).1 = false ∧ ∃ A', bndF (fFl N B gr A D) (fun v25 A25 D25 => bndF (fAp N B gr A25 D25) (fun v26 A26 D26 => bndF (fPl N B gr A26 D26 (nI b)) (fun v27 A27 D27 => some (.inl ((), A27, D27))))) = (some (.inr (0, A', D)) : Option (FR Unit)) ∧ A'.1 = (drO N B m b x).2.1 ∧ TJ N A' D) := fun hnd => by
    unfold drO
    rw [if_neg hnd]
    have hs0 : hSp A.1 + 100 * A.2.2.2.1.length + 200 < 2 ^ 31 := by
      rw [e1, e4]
      omega
    rcases c_fFl (N := N) (B := B) (gr := gr) (D := D) hs0 with ⟨t1, A1, f1, f2, f3, f4, f5⟩ | ⟨t1, f1⟩
    · rw [em] at t1 f2
      have x1 : CX N A1 D (flM N B m) V tk := h.flush hN1 hm t1 (by rw [f2, em]) f3 f4
      have ok1 := flM_ok hN1 hm t1
      have sp1 := flM_sp hN1 hm t1
      have r1 : A1.1 = (flM N B m).1 := by rw [← f2]; rfl
      have r2 : A1.2.1 = (flM N B m).2.1 := by rw [← f2]; rfl
      have r3 : A1.2.2.1 = (flM N B m).2.2.1 := by rw [← f2]; rfl
      have hc : fAp N B gr A1 D = if (aApl N B A1.2.1 A1.2.2.1 A1.1).1 = true then some (.inl ((), ((aApl N B A1.2.1 A1.2.2.1 A1.1).2, (lApl A1.2.1 A1.2.2.1).1, (lApl A1.2.1 A1.2.2.1).2, A1.2.2.2), D)) else some (.inr (0, ((aApl N B A1.2.1 A1.2.2.1 A1.1).2, A1.2), D)) := by
        unfold fAp
        rw [if_pos (by rw [r1]; omega)]
      rw [if_pos t1, bndF_l f1, hc, r1, r2, r3]
      cases ca : (aApl N B (flM N B m).2.1 (flM N B m).2.2.1 (flM N B m).1).1 with
      | false =>
        rw [if_neg (by decide), if_neg (by decide)]
        exact Or.inr ⟨rfl, _, rfl, rfl, x1.tj⟩
      | true =>
        rw [if_pos rfl, if_pos rfl]
        have hbf : ∀ b, 43 ≤ b → b < N → befM (apM N B (flM N B m)) b = befM (flM N B m) b := fun b b1 b2 => by
          have z := ap_bef hN1 ok1 ca (flM N B m).2.2.2.1.length b1 b2
          rw [← Wj_all (m := flM N B m), ← z, ← Wj_all]
          rfl
        have x2 : CX N ((aApl N B (flM N B m).2.1 (flM N B m).2.2.1 (flM N B m).1).2, (lApl (flM N B m).2.1 (flM N B m).2.2.1).1, (lApl (flM N B m).2.1 (flM N B m).2.2.1).2, A1.2.2.2) D (apM N B (flM N B m)) V tk := x1.mdl (show mA (_, _, _, A1.2.2.2) = apM N B (flM N B m) from by unfold apM; rw [← f2]; rfl) rfl rfl hbf rfl
        have q := (aApl_all (tu := (flM N B m).2.2.1) hN1 ok1.1 ok1.2.1)
        have hL := ok1.2.2.1
        have hd2 : drF (apM N B (flM N B m)) b := by
          refine ⟨rfl, ?_⟩
          have e : (apM N B (flM N B m)).2.1 = [] := List.eq_nil_of_length_eq_zero q.2.2.2
          rw [e]
          rfl
        rcases fp _ _ x2 (ap_ok hN1 ok1) (by show oA A1 b = none; rw [f3]; exact ho) hd2 (by
          show hSp (aApl N B (flM N B m).2.1 (flM N B m).2.2.1 (flM N B m).1).2 + 1 < 2 ^ 31
          have := q.2.1
          omega) with ⟨w1, A', w2, w3, w4, w5, w6⟩ | ⟨w1, A', w2, w3⟩
        · exact Or.inl ⟨w1, A', w2, w3, w4.trans f5, w5.trans f3, w6.trans f4⟩
        · exact Or.inr ⟨w1, A', w2, w3⟩
    · rw [em] at t1 f1
      rw [if_neg (by rw [t1]; decide), bndF_r f1]
      exact Or.inr ⟨rfl, _, rfl, rfl, h.tj⟩
  have hi : ¬ (nI b < 0 ∨ N ≤ (nI b).toNatClampNeg) := nI_in hbN (by omega)
  have ei : d_X10_isBlock N (vA A) D (nI b) = some 1 := by
    rw [d_X10_isBlock, if_neg (nI_nn (by omega)), if_neg (nI_ge hbN (by omega))]
  rw [d_X10_writeDirectly, bnd_o ei, i10, qTo, if_neg hi, cl, e4, lTo, if_neg hi, cl, e2]
  cases cq : qVal m.2.2.2.1 b with
  | some y =>
    exact slow (fun z => by rw [z.1] at cq; cases cq)
  | none =>
    cases cL : lVal m.2.1 b with
    | some y => exact slow (fun z => by rw [z.2] at cL; cases cL)
    | none =>
      have hd : drF m b := ⟨cq, cL⟩
      unfold drO
      rw [if_pos hd]
      exact fp A m h hm ho hd (by omega)
end PYD
