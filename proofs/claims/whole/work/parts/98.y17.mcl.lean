/-! ===== mount: the class ===== -/
section PXX17
variable {N B gr u : Nat} {C D : CfT} {hw : Hw} {L : List En} {tu : Int32} {A : MS}
theorem sA_sA {k : Nat} {x y : Nat → Int32} : sA (sA C k x) k y = sA C k y := by
  refine Prod.ext rfl (Prod.ext (funext (fun i => ?_)) rfl)
  show (if i = k then y else if i = k then x else C.2.1 i) = if i = k then y else C.2.1 i
  by_cases c : i = k
  · rw [if_pos c, if_pos c]
  · rw [if_neg c, if_neg c, if_neg c]
theorem q_set2 {p : Nat} {v : Int32} (hp : p + 2 ≤ 128) : q_X2_setTwo N B gr C (nI p) v = some (sA C 31 (s_two (cA C 31) p v)) := by
  rw [q_X2_setTwo, if_neg (nI_nn (by omega)), nI_1, if_neg (nI_ge (by omega) (by decide)), stA_n (by omega) (by decide), stA_n (by omega) (by decide), sA_sA, sA_e]
  rfl
theorem q_set4 {p : Nat} {v : Int32} (hp : p + 4 ≤ 128) : q_X2_setFour N B gr C (nI p) v = some (sA C 31 (s_four (cA C 31) p v)) := by
  rw [q_X2_setFour, bnd_o (q_set2 (by omega)), show (2 : Int32) = nI 2 from rfl, nI_add, bnd_o (q_set2 (by omega)), sA_sA, sA_e]
  rfl
theorem q_head : q_X11_headRow N B gr C = some (sA C 31 (hRow N (cA C 31))) := by
  rw [q_X11_headRow, flD, show (0 : Int32) = nI 0 from rfl, bnd_o (q_set4 (by decide)), show (4 : Int32) = nI 4 from rfl, bnd_o (q_set2 (by decide)), show (6 : Int32) = nI 6 from rfl, stA_n (by decide) (by decide), show (7 : Int32) = nI 7 from rfl, stA_n (by decide) (by decide)]
  simp only [sA_sA, sA_e]
  rfl
theorem q_same_l {m j : Nat} (h : ∀ i, i < 128 → cA C 31 i = cR C m j i) : ∀ (d k fu : Nat), k + d = 128 → d < fu → q_X2_same_2 N B gr C fu m j (nI k) = some 1 := by
  intro d
  induction d with
  | zero =>
    intro k fu e hf
    obtain ⟨fu, rfl⟩ : ∃ x, fu = x + 1 := ⟨fu - 1, by omega⟩
    have e : k = 128 := e
    rw [q_X2_same_2, e, if_pos (show (128 : Int32) ≤ nI 128 by decide)]
  | succ d ih =>
    intro k fu e hf
    obtain ⟨fu, rfl⟩ : ∃ x, fu = x + 1 := ⟨fu - 1, by omega⟩
    rw [q_X2_same_2, if_neg (show ¬ (128 : Int32) ≤ nI k from nI_ge (a := k) (b := 128) (by omega) (by decide)), ld_n (by omega) (by decide), ld_n (by omega) (by decide), if_pos (h k (by omega)), nI_1]
    exact ih (k + 1) fu (by omega) (by omega)
theorem lAt_m {k : Nat} (h : k < L.length) : lAt L k ∈ L := by
  unfold lAt
  rw [List.getD_eq_getElem?_getD, List.getElem?_eq_getElem h]
  exact List.getElem_mem h
/-- nothing of it is held any more -/
def dM (D : CfT) : CfT := sS (sA (sA D 33 (flt (cA D 33) 0 65 0)) 34 (flt (cA D 34) 0 32 0)) 2508 0
theorem q_mnt (hN1 : 61 ≤ N) (hN : N ≤ 1024) (ha : AU N B gr A C) (hd : Dq D C) (c2 : cS D 2 = 0) (q : Quiet N A.1) (ht : TJ N A D) (h0 : hSee A.1 0 = mH00 N) (r : Rec N (hSee A.1) L tu) : ∃ C', q_X11_mount N B gr C = some (nI L.length, C') ∧ Dq (dM D) C' ∧ AR N B gr (A.1, L, tu, [], (fun _ => 0), (fun _ => none), (fun _ => false), false) C' := by
  obtain ⟨a1, a2, a3, a4, a5, a6, a7⟩ := ha
  obtain ⟨r1, r2, r3, r4, r5⟩ := id r
  have w0 : q_X11_needUnmounted N B gr C = some C := by
    rw [q_X11_needUnmounted, if_pos ((hd.1 2 (Or.inl (by decide))).trans c2), if_neg (by rw [a1.2.2]; decide)]
  have k1 : Sm [3] C (sA C 31 (hRow N (cA C 31))) := Sm.a (by decide)
  have d1 : Dq D (sA C 31 (hRow N (cA C 31))) := Sx.rf.row.dq hd
  have e31 : cA (sA C 31 (hRow N (cA C 31))) 31 = hRow N (cA C 31) := sA_e
  have w1 : q_X11_headRow N B gr C = some (sA C 31 (hRow N (cA C 31))) := q_head
  have x5 : RsR N (sA C 31 (hRow N (cA C 31))) A.2.2.2.2.1 := a5
  have x6 : VwW N (sA C 31 (hRow N (cA C 31))) (oA A) (kA A) := a6
  have x15 : cA (sA C 31 (hRow N (cA C 31))) 15 = cA C 15 := rfl
  have xr : (sA C 31 (hRow N (cA C 31))).2.2 = C.2.2 := rfl
  generalize sA C 31 (hRow N (cA C 31)) = C1 at k1 d1 e31 w1 x5 x6 x15 xr
  have h1 := a1.sm k1 (by decide)
  obtain ⟨b1, b2⟩ := q_row (gr := gr) hN h1 q (t := 0) (by omega)
  have w2 : q_X2_same N B gr C1 1 0 = some 1 := q_same_l (fun i hi => by
    rw [e31, ← nr_at (g := cR C1 1 0) hi, b2, h0, ← hRow_n (x := cA C 31), nr_at hi]) 128 0 fuL (by omega) (by rw [fuL_4]; omega)
  obtain ⟨C2, m1, m2, m3, m4, m5, m6⟩ := m_reset (B := B) (gr := gr) hN x5 x6 ht d1
  have k2 : Sm [2, 3] C1 C2 := by
    refine ⟨fun j hj => m2 j (fun z => hj ?_), fun j hj => m4 j (fun z => hj ?_), fun m _ => by rw [m5]⟩
    · have : j = 2508 ∨ j = 1711 ∨ j = 1712 ∨ j = 1707 ∨ j = 1708 ∨ j = 2511 := by simpa using z
      rcases this with rfl | rfl | rfl | rfl | rfl | rfl <;> decide
    · have : j = 27 ∨ j = 28 ∨ j = 23 ∨ j = 20 := by simpa using z
      rcases this with rfl | rfl | rfl | rfl <;> decide
  generalize hC3 : sA (sA C2 33 (flt (cA C2 33) 0 65 0)) 34 (flt (cA C2 34) 0 32 0) = C3
  have k3 : Sm [4] C2 C3 := by
    rw [← hC3]
    exact (Sm.a (by decide)).tr (Sm.a (by decide))
  have g33 : cA C3 33 = flt (cA C2 33) 0 65 0 := by
    rw [← hC3]
    rfl
  have g34 : cA C3 34 = flt (cA C2 34) 0 32 0 := by
    rw [← hC3]
    rfl
  have gS : C3.1 = C2.1 := by
    rw [← hC3]
  have gA' : ∀ j, j ≠ 33 → j ≠ 34 → cA C3 j = cA C2 j := fun j z1 z2 => by
    rw [← hC3]
    exact (sA_n z2).trans (sA_n z1)
  have h3 := (h1.sm k2 (by decide)).sm k3 (by decide)
  obtain ⟨C4, n1, n2, k4⟩ := q_rec (gr := gr) hN hN1 h3 q r (by rw [gA' 15 (by decide) (by decide), m4 15 (by decide), x15]; exact a3)
  have s4 : ∀ j, md (j / 100) ∉ [1] → cS C4 j = cS C2 j := fun j hj => (k4.1 j hj).trans (congrFun gS j)
  have y4 : ∀ j, md j ∉ [1] → j ≠ 33 → j ≠ 34 → cA C4 j = cA C2 j := fun j hj z1 z2 => (k4.2.1 j hj).trans (gA' j z1 z2)
  have rw4 : ∀ m, C4.2.2 m = C.2.2 m := fun m => by
    have e4 : C4.2.2 m = C3.2.2 m := by
      by_cases c : rmd m ∈ [1]
      · exfalso
        unfold rmd at c
        split at c
        · exact absurd c (by decide)
        · split at c
          · exact absurd c (by decide)
          · exact absurd c (by decide)
      · exact k4.2.2 m c
    have e3 : C3.2.2 m = C2.2.2 m := by
      rw [← hC3]
    rw [e4, e3, m5, xr]
  refine ⟨C4, ?_, ?_, ?_⟩
  · rw [q_X11_mount, bnd_o w0, bnd_o w1, show (0 : Int32) = nI 0 from rfl, bnd_o b1, bnd_o w2, if_neg (show ¬ (1 : Int32) = nI 0 by decide), bnd_o m1, q_X5_reset, flD, flD, bnd_sm, show cA (sA C2 33 (flt (cA C2 33) 0 65 0)) 34 = cA C2 34 from sA_n (by decide), hC3, bnd2_o n1]
  · refine ⟨fun j hj => ?_, fun k hk => ?_⟩
    · show cS C4 j = upd D.1 2508 0 j
      by_cases c : j = 2508
      · rw [c, s4 _ (by decide), m3 2508 (by decide), pk_us]
      · have hj : md (j / 100) ∉ [0, 1, 2, 3] := hj.resolve_right c
        rw [pk_un c, s4 j (fun z => hj (by rw [List.mem_singleton.mp z]; decide)), m2 j (fun z => hj (by
          have : j = 2508 ∨ j = 1711 ∨ j = 1712 ∨ j = 1707 ∨ j = 1708 ∨ j = 2511 := by simpa using z
          rcases this with rfl | rfl | rfl | rfl | rfl | rfl <;> decide))]
        exact d1.1 j (Or.inl hj)
    · have hk1 : md k ∉ [1] := by
        rcases hk with hk | rfl
        · exact fun z => hk (by rw [List.mem_singleton.mp z]; decide)
        · decide
      have hk2 : k ∉ [27, 28, 23, 20] := by
        intro z
        have : k = 27 ∨ k = 28 ∨ k = 23 ∨ k = 20 := by simpa using z
        rcases this with rfl | rfl | rfl | rfl <;> exact absurd hk (by decide)
      show cA C4 k = cA (sA (sA D 33 (flt (cA D 33) 0 65 0)) 34 (flt (cA D 34) 0 32 0)) k
      by_cases z1 : k = 33
      · rw [z1, sA_n (by decide), sA_e, show cA C4 33 = cA C3 33 from k4.2.1 33 (by decide), g33, m4 33 (by decide), show cA C1 33 = cA D 33 from d1.2 33 (Or.inl (by decide))]
      · by_cases z2 : k = 34
        · rw [z2, sA_e, show cA C4 34 = cA C3 34 from k4.2.1 34 (by decide), g34, m4 34 (by decide), show cA C1 34 = cA D 34 from d1.2 34 (Or.inl (by decide))]
        · rw [sA_n z2, sA_n z1, y4 k hk1 z1 z2, m4 k hk2]
          exact d1.2 k hk
  · have h4 := h3.sm k4 (by decide)
    refine ⟨h4, a2, n2, fun k (hk : k < L.length) => ⟨q.free (by omega), r5 k hk, (r2 _ (lAt_m hk)).1⟩, ⟨fun _ => 0, rfl, ?_, Nat.zero_le _, ?_, fun i hi => absurd hi (Nat.not_lt_zero _), fun b hb => Or.inl ⟨?_, rfl⟩⟩, fun x hx => ?_, ⟨0, 0, Nat.le_refl _, Nat.zero_le _, ?_, ?_, fun i hi => absurd hi (Nat.not_lt_zero _), fun i j hi => absurd hi (Nat.not_lt_zero _), fun b hb => Or.inl ⟨rfl, ?_⟩⟩, fun b hb => ⟨?_, ?_, Or.inl ⟨?_, rfl⟩⟩, ?_⟩
    · rw [s4 _ (by decide), m3 1708 (by decide)]
      rfl
    · rw [s4 _ (by decide), m3 1707 (by decide)]
      rfl
    · rw [y4 20 (by decide) (by decide) (by decide)]
      exact (m6 b hb).2.2.2
    · show Byt (C4.2.2 4 x)
      rw [rw4]
      exact a4 x hx
    · rw [s4 _ (by decide), m3 1712 (by decide)]
      rfl
    · rw [s4 _ (by decide), m3 1711 (by decide)]
      rfl
    · rw [y4 23 (by decide) (by decide) (by decide)]
      exact (m6 b hb).2.2.1
    · show Byt (C4.2.2 2 b)
      rw [rw4]
      exact (a6 b hb).1
    · show cA C4 28 b = 0
      rw [y4 28 (by decide) (by decide) (by decide)]
      exact (m6 b hb).2.1
    · rw [y4 27 (by decide) (by decide) (by decide)]
      exact (m6 b hb).1
    · show cS C4 2511 = 0
      rw [s4 _ (by decide), m3 2511 (by decide)]
end PXX17
