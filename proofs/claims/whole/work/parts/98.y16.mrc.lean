/-! ===== mount: the log is found again ===== -/
section PXX16
variable {N B gr : Nat} {C : CfT} {hw : Hw} {L : List En} {tu : Int32}
theorem mNm_at {k : Nat} (hk : k < L.length) (hl : L.length ≤ 40) (ht : (lAt L k).1 < 65536) : n2 (mNm L) (2 * k) = (lAt L k).1 := by
  obtain ⟨a1, a2⟩ := nmR_at (bl := fun k => nI (lAt L k).1) (g := fun _ => 0) L.length k hk
  have e0 : ub (mNm L) (2 * k) = (lAt L k).1 % 256 := by
    unfold ub mNm
    rw [nr_at (by omega), a1, ← bK_0, bK_g (by decide), nI_tn (by omega)]
    omega
  have e1 : ub (mNm L) (2 * k + 1) = (lAt L k).1 / 256 % 256 := by
    unfold ub mNm
    rw [nr_at (by omega), a2, ← bK_1, bK_g (by decide), nI_tn (by omega)]
  unfold n2
  rw [e0, e1]
  omega
theorem q_note {t : Nat} {x : Rw} {P : List En} (hN : N ≤ 1024) (h : LgR N C P tu) (ht : t < N) (hl : P.length < 40) : ∃ C', q_X6_note N B gr C (nI t) = some C' ∧ LgR N C' (P ++ [(t, x)]) tu ∧ Sm [1] C C' := by
  have e5 : cS C 1305 = nI P.length := h.1
  refine ⟨_, ?_, h.note (x := x) ht hl, (((Sm.a (by decide)).tr (Sm.a (by decide))).tr (Sm.s (by decide)))⟩
  rw [q_X6_note, e5, if_neg (show ¬ (40 : Int32) ≤ nI P.length from nI_ge (a := P.length) (b := 40) (by omega) (by decide)), if_neg (nI_nn (by omega)), if_neg (nI_ge (by omega) (by omega)), stA_n (by omega) (by decide)]
  have e6 : cS (sA C 14 (upd (cA C 14) P.length (nI t))) 1305 = nI P.length := e5
  rw [e6, stA_n ht (by omega)]
  have e7 : cS (sA (sA C 14 (upd (cA C 14) P.length (nI t))) 16 (upd (cA (sA C 14 (upd (cA C 14) P.length (nI t))) 16) t (nI P.length))) 1305 = nI P.length := e5
  rw [ptS, e7]
  rfl
theorem q_rec_l (hN : N ≤ 1024) (hN1 : 61 ≤ N) (q : Quiet N hw) (r : Rec N (hSee hw) L tu) : ∀ (S P : List En) (fu : Nat) (C : CfT), L = P ++ S → S.length < fu → HwR N B 1 hw C → LgR N C P tu → ∃ C', q_X6_recover_56 N B gr fu C (nI L.length) (nI P.length) = some (nI L.length, C') ∧ LgR N C' L tu ∧ Sm [1] C C' := by
  obtain ⟨r1, r2, r3, r4, r5⟩ := id r
  intro S
  induction S with
  | nil =>
    intro P fu C e hf h hl
    obtain ⟨fu, rfl⟩ : ∃ x, fu = x + 1 := ⟨fu - 1, by omega⟩
    rw [List.append_nil] at e
    refine ⟨C, ?_, e ▸ hl, Sm.rf⟩
    rw [q_X6_recover_56, e, if_pos (nI_le (Nat.le_refl _) (by rw [e] at r1; omega)), show cS C 1305 = nI P.length from hl.1]
  | cons p S ih =>
    intro P fu C e hf h hl
    obtain ⟨fu, rfl⟩ : ∃ x, fu = x + 1 := ⟨fu - 1, by omega⟩
    have hlen : L.length = P.length + (S.length + 1) := by rw [e, List.length_append, List.length_cons]
    have hf : S.length < fu := by
      rw [List.length_cons] at hf
      omega
    have hat : lAt L P.length = p := by
      rw [e]
      exact (lAt_end (L := P) (M := p :: S) (k := 0)).trans rfl
    have hp : p ∈ L := by
      rw [e]
      exact List.mem_append.mpr (Or.inr List.mem_cons_self)
    obtain ⟨p1, p2⟩ := r2 p hp
    have en : n2 (cR C 1 2) (2 * P.length) = p.1 := by
      have z := mNm_at (L := L) (k := P.length) (by omega) r1 (by rw [hat]; omega)
      rw [hat] at z
      rw [← z, ← n2_nr (y := cR C 1 2) (by omega), (q_row (gr := gr) hN h q (t := 2) (by omega)).2]
      exact n2_c (r4 _ (by omega)) (r4 _ (by omega))
    obtain ⟨C1, c1, c2, c3⟩ := q_note (B := B) (gr := gr) (x := p.2) hN hl p2 (by omega)
    obtain ⟨C2, d1, d2, d3⟩ := ih (P ++ [(p.1, p.2)]) fu C1 (by rw [e]; simp) hf (h.sm c3 (by decide)) c2
    refine ⟨C2, ?_, d2, c3.tr d3⟩
    rw [List.length_append, show [(p.1, p.2)].length = 1 from rfl] at d1
    rw [q_X6_recover_56, if_neg (nI_ge (by omega) (by omega)), show (2 : Int32) = nI 2 from rfl, bnd_o (q_row hN h q (t := 2) (by omega)).1, pk_mul, bnd_o (q_two (by omega)), en, bnd_o c1, nI_1]
    exact d1
theorem q_rec (hN : N ≤ 1024) (hN1 : 61 ≤ N) (h : HwR N B 1 hw C) (q : Quiet N hw) (r : Rec N (hSee hw) L tu) (h15 : Byt (cA C 15)) : ∃ C', q_X6_recover N B gr C = some (nI L.length, C') ∧ LgR N C' L tu ∧ Sm [1] C C' := by
  obtain ⟨r1, r2, r3, r4, r5⟩ := id r
  generalize hC1 : sA (sS C 1305 0) 16 (flt (cA C 16) 0 N (-1)) = C1
  have s1 : Sm [1] C C1 := by
    rw [← hC1]
    exact (Sm.s (by decide)).tr (Sm.a (by decide))
  have a5 : cS C1 1305 = 0 := by rw [← hC1]; rfl
  have a16 : cA C1 16 = flt (cA C 16) 0 N (-1) := by rw [← hC1]; rfl
  have a15 : cA C1 15 = cA C 15 := by rw [← hC1]; rfl
  have h1 := h.sm s1 (by decide)
  have e1 : nr (cR C1 1 1) = mHd L tu := (q_row (gr := gr) hN h1 q (t := 1) (by omega)).2.trans r3
  have f0 : q_X6_forgetEntries N B gr C = some C1 := by
    rw [q_X6_forgetEntries, ptS, flD, ← hC1]
  have t4 : nI (n4 (cR C1 1 1) 2) = tu := by rw [← n4_nr (by decide), e1, mHd_t]
  have s2 : Sm [1] C1 (sS C1 1306 tu) := Sm.s (by decide)
  have lg : LgR N (sS C1 1306 tu) [] tu := by
    refine ⟨(pk_un (by decide) : upd C1.1 1306 tu 1305 = C1.1 1305).trans a5, Nat.zero_le _, (pk_us : upd C1.1 1306 tu 1306 = tu), fun k hk => absurd hk (Nat.not_lt_zero _), fun b hb => Or.inl ⟨?_, fun k hk => absurd hk (Nat.not_lt_zero _)⟩, ?_⟩
    · show cA C1 16 b = -1
      rw [a16]
      exact flt_at (Nat.zero_le _) hb
    · show Byt (cA C1 15)
      rw [a15]
      exact h15
  have h2 := h1.sm s2 (by decide)
  have e2 : cR (sS C1 1306 tu) 1 1 = cR C1 1 1 := rfl
  have hd : q_X6_recover N B gr C = (if nI L.length < ((1 : Int32)) then some (cS (sS C1 1306 tu) 1305, (sS C1 1306 tu)) else if ((40 : Int32)) < nI L.length then some (cS (sS C1 1306 tu) 1305, (sS C1 1306 tu)) else bnd (q_X6_sum N B gr (sS C1 1306 tu) 1 1 (nI L.length)) (fun v26 => bnd (q_X2_four N B gr (sS C1 1306 tu) 1 1 ((6 : Int32))) (fun v27 => if v26 = v27 then q_X6_recover_56 N B gr fuL (sS C1 1306 tu) (nI L.length) ((0 : Int32)) else some (cS (sS C1 1306 tu) 1305, (sS C1 1306 tu))))) := by
    have e0 : n2 (cR (sS C1 1306 tu) 1 1) 0 = L.length := by
      rw [← n2_nr (by decide), show nr (cR (sS C1 1306 tu) 1 1) = mHd L tu from e1, mHd_n r1]
    rw [q_X6_recover, bnd_o f0, show (1 : Int32) = nI 1 from rfl, bnd_o (q_row hN h1 q (t := 1) (by omega)).1, show (2 : Int32) = nI 2 from rfl, bnd_o (q_four (by decide)), t4, ptS, show (0 : Int32) = nI 0 from rfl, bnd_o (q_two (by decide)), e0]
  generalize sS C1 1306 tu = C2 at s2 lg h2 e2 hd
  rw [hd]
  by_cases c : L.length = 0
  · have eL : L = [] := List.length_eq_zero_iff.mp c
    rw [c, if_pos (show nI 0 < (1 : Int32) by decide)]
    exact ⟨C2, by rw [show cS C2 1305 = nI 0 from lg.1], eL ▸ lg, s1.tr s2⟩
  · rw [if_neg (show ¬ nI L.length < (1 : Int32) from fun z => absurd ((nI_ltI (a := L.length) (b := 1) (by omega) (by decide)).mp z) (by omega)), if_neg (show ¬ (40 : Int32) < nI L.length from fun z => absurd ((nI_ltI (a := 40) (b := L.length) (by decide) (by omega)).mp z) (by omega)), bnd_o (q_sumR hN hN1 h2 q r), show (6 : Int32) = nI 6 from rfl, bnd_o (q_four (by decide)), if_pos (by rw [e2, ← n4_nr (by decide), e1, mHd_s])]
    obtain ⟨C3, d1, d2, d3⟩ := q_rec_l (B := B) (gr := gr) hN hN1 q r L [] fuL C2 rfl (by rw [fuL_4]; omega) h2 lg
    exact ⟨C3, d1, d2, (s1.tr s2).tr d3⟩
end PXX16
