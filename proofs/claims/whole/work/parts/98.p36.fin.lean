/-! ===== pure: the class finishes ===== -/
section PVM
variable {N B gr : Nat}
theorem bndF_l {α β : Type} {x : Option (FR β)} {v : β} {A : MS} {D : CfT} {k : β → MS → CfT → Option (FR α)} (h : x = some (.inl (v, A, D))) : bndF x k = k v A D := by
  rw [h]
  rfl
theorem bndF_r {α β : Type} {x : Option (FR β)} {e : Nat} {A : MS} {D : CfT} {k : β → MS → CfT → Option (FR α)} (h : x = some (.inr (e, A, D))) : bndF x k = some (.inr (e, A, D)) := by
  rw [h]
  rfl
/-- no own rows -/
def NoO (A : MS) : Prop := (∀ b, oA A b = none) ∧ ∀ b, kA A b = false
theorem CX.clean {A : MS} {D : CfT} {m : M5} {V : Nat → Rw} (em : mA A = m) (ho : NoO A) (hd : cS D 2508 = nI 0) (hb : btO N (V 43)) (hv : ∀ b, 43 ≤ b → b < N → befM m b = V b) (hr : ∀ b, b < N → btM (V 43) b = 1 → m.2.2.2.2 b = 0) : CX N A D m V (fun _ => false) := by
  refine ⟨em, ⟨0, fun _ => 0, Nat.zero_le _, hd, fun i hi => absurd hi (Nat.not_lt_zero _), fun i j hi => absurd hi (Nat.not_lt_zero _), fun b hb => absurd (ho.1 b) hb⟩, fun b hb0 hb => ⟨fun _ => ?_, fun _ => ⟨(hv b hb0 hb).symm, rfl⟩⟩, hb, (fun b hb => by rw [ho.2 b] at hb; cases hb), fun b hb => absurd (ho.1 b) hb, hr⟩
  rw [vA_o, ho.1 b, em, ho.2 b]
  exact ⟨hv b hb0 hb, rfl⟩
theorem c_disown_l {A : MS} {D : CfT} {n : Nat} {tc : Nat → Nat} (hN : N ≤ 1024) (n1 : n ≤ N) (n2 : cS D 2508 = nI n) (n3 : ∀ i, i < n → tc i < N ∧ cA D 29 i = nI (tc i)) : ∀ (k i : Nat) (A1 : MS), i ≤ n → n - i < k → mA A1 = mA A → gA A1 = gA A → (∀ b, ((∃ j, j < i ∧ tc j = b) → oA A1 b = none ∧ kA A1 b = false) ∧ ((¬ ∃ j, j < i ∧ tc j = b) → oA A1 b = oA A b ∧ kA A1 b = kA A b)) → ∃ A', d_X10_disown_2 N k A1 D (nI i) = some (A', sS D 2508 0) ∧ mA A' = mA A ∧ gA A' = gA A ∧ (∀ b, ((∃ j, j < n ∧ tc j = b) → oA A' b = none ∧ kA A' b = false) ∧ ((¬ ∃ j, j < n ∧ tc j = b) → oA A' b = oA A b ∧ kA A' b = kA A b)) := by
  intro k
  induction k with
  | zero => intro i _ _ h; exact absurd h (Nat.not_lt_zero _)
  | succ k ih =>
    intro i A1 hi hk e1 e2 o1
    rw [d_X10_disown_2, n2]
    by_cases c : i = n
    · rw [c, if_pos (nI_le (Nat.le_refl _) (by omega)), ptS]
      rw [c] at o1
      exact ⟨A1, rfl, e1, e2, o1⟩
    · obtain ⟨q1, q2⟩ := n3 i (by omega)
      have hu : unO N A1 (nI (tc i)) = some (aOw A1 (fun b => if b = tc i then none else oA A1 b)) := by
        unfold unO
        rw [nI_clamp (by omega), if_neg (fun z => z.elim (nI_nn (by omega)) (fun q => by omega))]
        rfl
      have ht : tkO N (aOw A1 (fun b => if b = tc i then none else oA A1 b)) (nI (tc i)) false = some (aTk (aOw A1 (fun b => if b = tc i then none else oA A1 b)) (fun b => if b = tc i then false else kA A1 b)) := by
        unfold tkO
        rw [nI_clamp (by omega), if_neg (fun z => z.elim (nI_nn (by omega)) (fun q => by omega))]
        rfl
      rw [if_neg (nI_ge (by omega) (by omega)), ld_n (show i < N by omega) (by omega), q2, bnd_o hu, ld_n (show i < N by omega) (by omega), q2, bnd_o ht, nI_1]
      refine ih (i + 1) _ (by omega) (by omega) e1 e2 (fun b => ⟨fun hex => ?_, fun hex => ?_⟩)
      · by_cases cb : b = tc i
        · exact ⟨if_pos cb, if_pos cb⟩
        · obtain ⟨j, j1, j2⟩ := hex
          have : j ≠ i := fun z => cb (by rw [← j2, z])
          obtain ⟨w1, w2⟩ := (o1 b).1 ⟨j, by omega, j2⟩
          exact ⟨(if_neg cb).trans w1, (if_neg cb).trans w2⟩
      · have cb : b ≠ tc i := fun z => hex ⟨i, by omega, z.symm⟩
        obtain ⟨w1, w2⟩ := (o1 b).2 (fun ⟨j, j1, j2⟩ => hex ⟨j, by omega, j2⟩)
        exact ⟨(if_neg cb).trans w1, (if_neg cb).trans w2⟩
theorem c_disown {A : MS} {D : CfT} (hN : N ≤ 1024) (h : TI N A D) (hk : ∀ b, kA A b = true → oA A b ≠ none) : ∃ A' D', d_X10_disown N A D = some (A', D') ∧ mA A' = mA A ∧ gA A' = gA A ∧ NoO A' ∧ Dt D D' ∧ cS D' 2508 = nI 0 := by
  obtain ⟨n, tc, n1, n2, n3, n4, n5⟩ := h
  obtain ⟨A', e, e1, e2, o⟩ := c_disown_l (A := A) hN n1 n2 (fun i hi => ⟨(n3 i hi).1, (n3 i hi).2.2.1⟩) fuL 0 A (Nat.zero_le _) (by rw [fuL_4]; omega) rfl rfl (fun b => ⟨fun ⟨j, j1, _⟩ => absurd j1 (Nat.not_lt_zero _), fun _ => ⟨rfl, rfl⟩⟩)
  refine ⟨A', _, e, e1, e2, ⟨fun b => ?_, fun b => ?_⟩, ⟨fun j hj => pk_un hj, fun _ _ => rfl⟩, pk_us (f := D.1) (k := 2508)⟩
  · by_cases c : ∃ j, j < n ∧ tc j = b
    · exact ((o b).1 c).1
    · rw [((o b).2 c).1]
      cases e5 : oA A b with
      | none => rfl
      | some y => exact absurd (n5 b (by rw [e5]; exact Option.some_ne_none y)) c
  · by_cases c : ∃ j, j < n ∧ tc j = b
    · exact ((o b).1 c).2
    · rw [((o b).2 c).2]
      cases e5 : kA A b with
      | false => rfl
      | true => exact absurd (n5 b (hk b e5)) c
/-- flushAll of the class, as the model's -/
theorem c_fFl {A : MS} {D : CfT} (hsp : hSp A.1 + 100 * A.2.2.2.1.length + 200 < 2 ^ 31) : ((flO2 N B (mA A)).1 = true ∧ ∃ A', fFl N B gr A D = some (.inl (nI A.2.2.2.1.length, A', D)) ∧ mA A' = flM N B (mA A) ∧ oA A' = oA A ∧ kA A' = kA A ∧ gA A' = gA A) ∨ ((flO2 N B (mA A)).1 = false ∧ fFl N B gr A D = some (.inr (0, ((flO2 N B (mA A)).2.1, A.2), D))) := by
  unfold fFl
  rw [if_pos hsp]
  cases e : (flO2 N B (mA A)).1 with
  | true =>
    have e : (mFl N B A.2.2.2.1.length A.2.2.2.1 (A.1, A.2.1, A.2.2.1)).1 = true := e
    refine Or.inl ⟨rfl, ?_⟩
    rw [if_pos e]
    exact ⟨_, rfl, rfl, rfl, rfl, rfl⟩
  | false =>
    have e : (mFl N B A.2.2.2.1.length A.2.2.2.1 (A.1, A.2.1, A.2.2.1)).1 = false := e
    refine Or.inr ⟨rfl, ?_⟩
    rw [if_neg (by rw [e]; decide)]
    rfl
theorem CX.flush {A A' : MS} {D : CfT} {m : M5} {V : Nat → Rw} {tk : Nat → Bool} (hN1 : 61 ≤ N) (h : CX N A D m V tk) (hm : MOk N B m) (ht : (flO2 N B m).1 = true) (e1 : mA A' = flM N B (mA A)) (e2 : oA A' = oA A) (e3 : kA A' = kA A) : CX N A' D (flM N B m) V tk := by
  obtain ⟨a1, a2, a3, a4, a5, a6, a7⟩ := h
  refine ⟨by rw [e1, a1], ?_, fun b hb0 hb => ?_, a4, fun b hb => by rw [e2]; exact a5 b (by rw [← e3]; exact hb), fun b hb => ?_, fun b hb hu => ?_⟩
  · unfold TI at *
    rw [e2]
    exact a2
  · obtain ⟨q1, q2⟩ := a3 b hb0 hb
    rw [vA_o, e1, e2, e3, a1, flM_bef hN1 hm ht hb0 hb]
    rw [vA_o, a1] at q1
    exact ⟨q1, q2⟩
  · rw [e2] at hb
    rcases a6 b hb with z | z
    · exact Or.inl z
    · refine Or.inr ?_
      show (if m.2.2.2.2 b = 1 then 0 else m.2.2.2.2 b) = 2
      rw [z]
      rfl
  · show (if m.2.2.2.2 b = 1 then 0 else m.2.2.2.2 b) = 0
    rw [a7 b hb hu]
    rfl
theorem c_finish {A : MS} {D : CfT} {m : M5} {V : Nat → Rw} {tk : Nat → Bool} (hN1 : 61 ≤ N) (hN : N ≤ 1024) (h : CX N A D m V tk) (hv : NV N m V) (hm : MOk N B m) (hqg : m.2.2.2.1.length < gr) (hgr : gr ≤ 16) (hch : rsC (isS (chQ N m V tk)) 1 N ≤ 40) (hg : gA A = false) (hsp : hSp m.1 + 1800 < 2 ^ 31) : (¬ cmD N B gr m V tk ∧ ∃ A' D', d_X10_finish N B gr A D = some (.inl ((), A', D')) ∧ CX N A' D' (cmM N B gr m V tk) V (fun _ => false) ∧ NoO A' ∧ gA A' = false ∧ Dt D D') ∨ (cmD N B gr m V tk ∧ ∃ A' D', d_X10_finish N B gr A D = some (.inr (0, A', D')) ∧ A'.1 = (flO2 N B (cmQ N m V tk)).2.1 ∧ Dt D D' ∧ TJ N A' D') := by
  obtain ⟨s, A1, D1, e1, x1, g1, t1, s1, d1, s2, o1, u1⟩ := c_trim (ch := true) hN1 hN h hv
  have o1 := o1 rfl
  have e1 : d_X10_trim N A D 1 = some (nI s, A1, D1) := e1
  have hg1 : gpI A = 0 := by
    show (if gA A then (1 : Int32) else 0) = 0
    rw [hg]
    rfl
  rw [o1] at s1
  rw [d_X10_finish, if_pos hg1, bnd3_o e1]
  unfold cmD cmM
  by_cases c : s = 0
  · have c2 : rsC (isS (chQ N m V tk)) 1 N = 0 := by rw [← s1, c]
    rw [if_pos (by rw [c]; rfl), if_pos c2]
    obtain ⟨A2, D2, e2, m2, g2, n2, t2, d2⟩ := c_disown hN x1.2.1 x1.2.2.2.2.1
    rw [d_X10_discard, bnd2_o e2, d_X9_wakeForNone]
    refine Or.inl ⟨fun z => z.1 c2, _, _, rfl, ?_, n2, (g2.trans g1).trans hg, t1.tr t2⟩
    have em : mA (aRs A2 (fun b => if A2.2.2.2.2.1 b = 2 then 0 else A2.2.2.2.2.1 b)) = cmQ N m V tk := by
      unfold cmQ
      rw [if_pos c2]
      show mRs (mA A2) (r20 (mA A2).2.2.2.2) = _
      rw [m2, x1.1]
    refine CX.clean em n2 d2 h.2.2.2.1 (fun b hb0 hb => cmQ_bef hb0 hb) (fun b hb hu => ?_)
    unfold cmQ
    rw [if_pos c2]
    show (if m.2.2.2.2 b = 2 then 0 else m.2.2.2.2 b) = 0
    rw [h.2.2.2.2.2.2 b hb hu]
    rfl
  · have c2 : ¬ rsC (isS (chQ N m V tk)) 1 N = 0 := by rw [← s1]; exact c
    have hs40 : s ≤ 40 := by omega
    rw [if_neg (nI_ne0 (by omega) (by omega)), if_neg c2]
    have htq : TQ N gr A1 D1 := by
      refine ⟨by
        have := x1.1
        show (mA A1).2.2.2.1.length < gr
        rw [this]
        exact hqg, ?_⟩
      obtain ⟨n, tc, n1, n2, n3, n4, n5⟩ := x1.2.1
      have : n = s := nI_inj (by omega) (by omega) (n2.symm.trans d1)
      exact ⟨n, tc, by omega, n2, n3, n4, n5⟩
    have hqa : qaO N gr A1 D1 = some (A1.1, A1.2.1, A1.2.2.1, A1.2.2.2.1 ++ [A1.2.2.2.2.2.1], (fun b => if A1.2.2.2.2.1 b = 2 then 1 else A1.2.2.2.2.1 b), A1.2.2.2.2.2) := by
      unfold qaO
      rw [gd_t htq]
    rw [bnd_o hqa]
    generalize hA2 : ((A1.1, A1.2.1, A1.2.2.1, A1.2.2.2.1 ++ [A1.2.2.2.2.2.1], (fun b => if A1.2.2.2.2.1 b = 2 then 1 else A1.2.2.2.2.1 b), A1.2.2.2.2.2) : MS) = A2
    have m2 : mA A2 = cmQ N m V tk := by
      rw [← hA2]
      unfold cmQ
      rw [if_neg c2]
      show ((mA A1).1, (mA A1).2.1, (mA A1).2.2.1, (mA A1).2.2.2.1 ++ [oA A1], r21 (mA A1).2.2.2.2) = _
      rw [x1.1, o1]
    have o2 : oA A2 = oA A1 := by
      rw [← hA2]
      rfl
    have k2 : kA A2 = kA A1 := by
      rw [← hA2]
      rfl
    have g2 : gA A2 = gA A1 := by
      rw [← hA2]
      rfl
    obtain ⟨A3, D3, e3, m3, g3, n3, t3, d3⟩ := c_disown (A := A2) (D := D1) hN (by unfold TI; rw [o2]; exact x1.2.1) (fun b hb => by rw [o2]; exact x1.2.2.2.2.1 b (by rw [← k2]; exact hb))
    have g3' : gA A3 = false := by rw [g3, g2, g1, hg]
    rw [bnd2_o e3]
    have x3 : CX N A3 D3 (cmQ N m V tk) V (fun _ => false) := by
      refine CX.clean (m3.trans m2) n3 d3 h.2.2.2.1 (fun b hb0 hb => cmQ_bef hb0 hb) (fun b hb hu => ?_)
      unfold cmQ
      rw [if_neg c2]
      show (if m.2.2.2.2 b = 2 then 1 else m.2.2.2.2 b) = 0
      rw [h.2.2.2.2.2.2 b hb hu]
      rfl
    have hlen : (cmQ N m V tk).2.2.2.1.length = m.2.2.2.1.length + 1 := by
      unfold cmQ
      rw [if_neg c2]
      show (m.2.2.2.1 ++ [chQ N m V tk]).length = _
      rw [List.length_append]
      rfl
    have hl3 : A3.2.2.2.1.length = (cmQ N m V tk).2.2.2.1.length := by
      show (mA A3).2.2.2.1.length = _
      rw [m3, m2]
    have hw3 : A3.1 = m.1 := by
      show (mA A3).1 = _
      rw [m3, m2]
      unfold cmQ
      rw [if_neg c2]
    have hfu : fFu N B gr A3 D3 = some (.inl (if A3.2.2.2.1.length < gr then 0 else 1, A3, D3)) := rfl
    rw [bndF_l hfu, hl3]
    by_cases c3 : (cmQ N m V tk).2.2.2.1.length = gr
    · rw [if_neg (show ¬ (cmQ N m V tk).2.2.2.1.length < gr by omega), if_neg (show ¬ (1 : Int32) = 0 by decide), if_pos c3]
      rcases c_fFl (N := N) (B := B) (gr := gr) (A := A3) (D := D3) (by rw [hw3, hl3]; omega) with ⟨f1, A4, f2, f3, f4, f5, f6⟩ | ⟨f1, f2⟩
      · rw [m3, m2] at f1
        rw [bndF_l f2]
        refine Or.inl ⟨(fun z => by rw [f1] at z; cases z.2.2), A4, D3, rfl, x3.flush hN1 (hm.cq hch) f1 f3 f4 f5, ⟨fun b => by rw [f4]; exact n3.1 b, fun b => by rw [f5]; exact n3.2 b⟩, f6.trans g3', t1.tr t3⟩
      · rw [m3, m2] at f1 f2
        rw [bndF_r f2]
        exact Or.inr ⟨⟨c2, c3, f1⟩, _, D3, rfl, rfl, t1.tr t3, x3.tj⟩
    · rw [if_pos (show (cmQ N m V tk).2.2.2.1.length < gr by omega), if_pos rfl, if_neg c3]
      exact Or.inl ⟨fun z => c3 z.2.1, A3, D3, rfl, x3, n3, g3', t1.tr t3⟩
/-- in a group nothing is committed -/
theorem c_finishG {A : MS} {D : CfT} {m : M5} {V : Nat → Rw} {tk : Nat → Bool} (hN1 : 61 ≤ N) (hN : N ≤ 1024) (h : CX N A D m V tk) (hv : NV N m V) (hg : gA A = true) : ∃ A' D', d_X10_finish N B gr A D = some (.inl ((), A', D')) ∧ CX N A' D' m V tk ∧ (∀ b, oA A' b ≠ none → btM (V 43) b = 1) ∧ gA A' = true ∧ Dt D D' := by
  obtain ⟨s, A1, D1, e1, x1, g1, t1, s1, d1, s2, o1, u1⟩ := c_trim (ch := false) hN1 hN h hv
  have e1 : d_X10_trim N A D 0 = some (nI s, A1, D1) := e1
  have hg1 : ¬ gpI A = 0 := by
    show ¬ (if gA A then (1 : Int32) else 0) = 0
    rw [hg]
    decide
  rw [d_X10_finish, if_neg hg1, bnd3_o e1]
  exact ⟨A1, D1, rfl, x1, u1, g1.trans hg, t1⟩
end PVM
