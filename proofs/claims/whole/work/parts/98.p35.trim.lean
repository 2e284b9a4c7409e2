/-! ===== pure: the class trims and finishes ===== -/
section PVL
variable {N B gr : Nat}
theorem d_same_l {V : Nat → Rw} {D : CfT} {g h : Nat → Int32} : ∀ (m k : Nat), k ≤ 128 → 128 - k < m → (∀ i, i < k → g i = h i) → ∃ r : Bool, d_X2_same_2 N V D m g 128 h 128 (nI k) = some (bI r) ∧ ((r = true) ↔ ∀ i, i < 128 → g i = h i) := by
  intro m
  induction m with
  | zero => intro k _ h; exact absurd h (Nat.not_lt_zero _)
  | succ m ih =>
    intro k hk hm he
    rw [d_X2_same_2]
    by_cases c : k = 128
    · rw [c, if_pos (show (128 : Int32) ≤ nI 128 from nI_le (a := 128) (b := 128) (by decide) (by decide))]
      rw [c] at he
      exact ⟨true, rfl, fun _ => he, fun _ => rfl⟩
    · rw [if_neg (show ¬ (128 : Int32) ≤ nI k from nI_ge (a := k) (b := 128) (by omega) (by decide)), ld_n (by omega) (by decide), ld_n (by omega) (by decide), nI_1]
      by_cases c2 : g k = h k
      · rw [if_pos c2]
        exact ih (k + 1) (by omega) (by omega) (fun i hi => by
          by_cases c3 : i = k
          · rw [c3]
            exact c2
          · exact he i (by omega))
      · rw [if_neg c2]
        exact ⟨false, rfl, (fun z => by cases z), fun z => absurd (z k (by omega)) c2⟩
theorem d_same {V : Nat → Rw} {D : CfT} {g h : Rw} (hg : nr g = g) (hh : nr h = h) : ∃ r : Bool, d_X2_same N V D g 128 h 128 = some (bI r) ∧ ((r = true) ↔ g = h) := by
  obtain ⟨r, r1, r2⟩ := d_same_l (N := N) (V := V) (D := D) (g := g) (h := h) fuL 0 (Nat.zero_le _) (by rw [fuL_4]; omega) (fun i hi => absurd hi (Nat.not_lt_zero _))
  refine ⟨r, r1, r2.trans ⟨fun z => ?_, fun z i _ => by rw [z]⟩⟩
  rw [← hg, ← hh]
  exact nr_eq z
def NV (N : Nat) (m : M5) (V : Nat → Rw) : Prop := ∀ b, 43 ≤ b → b < N → nr (V b) = V b ∧ nr (befM m b) = befM m b
/-- what stays when own rows are trimmed -/
def stay (N : Nat) (m : M5) (V : Nat → Rw) (tk : Nat → Bool) (ch : Bool) (b : Nat) : Prop := btM (V 43) b = 1 ∧ (ch = true → chQ N m V tk b ≠ none)
theorem stA_n {α : Type} {D : CfT} {a n k : Nat} {x : Int32} {K : CfT → Option α} (h : k < n) (hn : n < 2 ^ 31) : stA D a n (nI k) x K = K (sA D a (upd (cA D a) k x)) := by
  unfold stA
  rw [nI_clamp (by omega), if_neg (fun z => z.elim (nI_nn (by omega)) (fun q => by omega))]
theorem c_trim_l {A : MS} {D : CfT} {m : M5} {V : Nat → Rw} {tk : Nat → Bool} {ch : Bool} (hN1 : 61 ≤ N) (hN : N ≤ 1024) (h : CX N A D m V tk) (hv : NV N m V) {n : Nat} {tc : Nat → Nat} (n1 : n ≤ N) (n2 : cS D 2508 = nI n) (n3 : ∀ i, i < n → tc i < N ∧ 43 ≤ tc i ∧ cA D 29 i = nI (tc i) ∧ oA A (tc i) ≠ none) (n4 : ∀ i j, i < n → j < n → tc i = tc j → i = j) : ∀ (k i s : Nat) (A1 : MS) (D1 : CfT) (kc : Nat → Nat), i ≤ n → n - i < k → s ≤ i → mA A1 = m → gA A1 = gA A → Dt D D1 → cS D1 2508 = nI n → (∀ j, i ≤ j → j < n → cA D1 29 j = nI (tc j)) → (∀ b, ((∃ j, j < i ∧ tc j = b ∧ ¬ stay N m V tk ch b) → oA A1 b = none ∧ kA A1 b = false) ∧ ((¬ ∃ j, j < i ∧ tc j = b ∧ ¬ stay N m V tk ch b) → oA A1 b = oA A b ∧ kA A1 b = kA A b)) → (∀ k, k < s → cA D1 29 k = nI (kc k) ∧ stay N m V tk ch (kc k) ∧ ∃ j, j < i ∧ tc j = kc k) → (∀ i j, i < s → j < s → kc i = kc j → i = j) → (∀ j, j < i → stay N m V tk ch (tc j) → ∃ k, k < s ∧ kc k = tc j) → ∃ (s' : Nat) (A' : MS) (D' : CfT) (kc' : Nat → Nat), d_X10_trim_4 N k A1 D1 (bI ch) (nI s) (nI i) = some (nI s', A', D') ∧ s' ≤ n ∧ mA A' = m ∧ gA A' = gA A ∧ Dt D D' ∧ cS D' 2508 = nI s' ∧ (∀ b, ((∃ j, j < n ∧ tc j = b ∧ ¬ stay N m V tk ch b) → oA A' b = none ∧ kA A' b = false) ∧ ((¬ ∃ j, j < n ∧ tc j = b ∧ ¬ stay N m V tk ch b) → oA A' b = oA A b ∧ kA A' b = kA A b)) ∧ (∀ k, k < s' → cA D' 29 k = nI (kc' k) ∧ stay N m V tk ch (kc' k) ∧ ∃ j, j < n ∧ tc j = kc' k) ∧ (∀ i j, i < s' → j < s' → kc' i = kc' j → i = j) ∧ ∀ j, j < n → stay N m V tk ch (tc j) → ∃ k, k < s' ∧ kc' k = tc j := by
  intro k
  induction k with
  | zero => intro i _ _ _ _ _ h; exact absurd h (Nat.not_lt_zero _)
  | succ k ih =>
    intro i s A1 D1 kc hi hk hs e1 e2 t1 d1 d2 o1 k1 k2 k3
    rw [d_X10_trim_4, d1]
    by_cases c : i = n
    · rw [c, if_pos (nI_le (Nat.le_refl _) (by omega)), ptS]
      rw [c] at o1 k1 k3 hs
      exact ⟨s, A1, _, kc, rfl, hs, e1, e2, t1.tr ⟨fun j hj => pk_un hj, fun _ _ => rfl⟩, pk_us (f := D1.1) (k := 2508), o1, k1, k2, k3⟩
    · have hin : i < n := by omega
      obtain ⟨q1, q2, q3, q4⟩ := n3 i hin
      have u43 : btM (V 43) 43 = 1 := h.2.2.2.1.1 43 (by decide)
      have v43 : vA A1 43 = V 43 := by
        have hs43 := h.see (Nat.le_refl 43) (show 43 < N by omega) u43
        rw [vA_o] at hs43 ⊢
        rw [e1]
        rw [h.1] at hs43
        by_cases cc : ∃ j, j < i ∧ tc j = 43 ∧ ¬ stay N m V tk ch 43
        · rw [((o1 43).1 cc).1]
          obtain ⟨j, -, -, hns⟩ := cc
          show befM m 43 = V 43
          refine Classical.byContradiction (fun z => hns ⟨u43, fun _ => chQ_iff.mpr ⟨Nat.le_refl _, by omega, Or.inr (fun y => z y.symm)⟩⟩)
        · rw [((o1 43).2 cc).1]
          exact hs43
      have hb : ¬ ∃ j, j < i ∧ tc j = tc i ∧ ¬ stay N m V tk ch (tc i) := fun ⟨j, j1, j2, _⟩ => by
        have := n4 j i (by omega) hin j2
        omega
      obtain ⟨oi, ki⟩ := (o1 (tc i)).2 hb
      rw [if_neg (nI_ge (by omega) (by omega)), ld_n (show i < N by omega) (by omega), d2 i (Nat.le_refl _) hin, bnd_o (d_isUsed (show tc i < 1024 by omega) hN1 hN), v43]
      have drop : ¬ stay N m V tk ch (tc i) → ∃ (s' : Nat) (A' : MS) (D' : CfT) (kc' : Nat → Nat), d_X10_trim_66 N (d_X10_trim_4 N k) A1 D1 (bI ch) (nI s) (nI i) (nI (tc i)) = some (nI s', A', D') ∧ s' ≤ n ∧ mA A' = m ∧ gA A' = gA A ∧ Dt D D' ∧ cS D' 2508 = nI s' ∧ (∀ b, ((∃ j, j < n ∧ tc j = b ∧ ¬ stay N m V tk ch b) → oA A' b = none ∧ kA A' b = false) ∧ ((¬ ∃ j, j < n ∧ tc j = b ∧ ¬ stay N m V tk ch b) → oA A' b = oA A b ∧ kA A' b = kA A b)) ∧ (∀ k, k < s' → cA D' 29 k = nI (kc' k) ∧ stay N m V tk ch (kc' k) ∧ ∃ j, j < n ∧ tc j = kc' k) ∧ (∀ i j, i < s' → j < s' → kc' i = kc' j → i = j) ∧ ∀ j, j < n → stay N m V tk ch (tc j) → ∃ k, k < s' ∧ kc' k = tc j := fun hns => by
        rw [d_X10_trim_66, d_X10_trim_69, if_pos rfl]
        have hu : unO N A1 (nI (tc i)) = some (aOw A1 (fun b => if b = tc i then none else oA A1 b)) := by
          unfold unO
          rw [nI_clamp (by omega), if_neg (fun z => z.elim (nI_nn (by omega)) (fun q => by omega))]
          rfl
        have ht : tkO N (aOw A1 (fun b => if b = tc i then none else oA A1 b)) (nI (tc i)) false = some (aTk (aOw A1 (fun b => if b = tc i then none else oA A1 b)) (fun b => if b = tc i then false else kA A1 b)) := by
          unfold tkO
          rw [nI_clamp (by omega), if_neg (fun z => z.elim (nI_nn (by omega)) (fun q => by omega))]
          rfl
        rw [bnd_o hu, bnd_o ht, nI_1]
        refine ih (i + 1) s _ D1 kc (by omega) (by omega) (by omega) e1 e2 t1 d1 (fun j h1 h2 => d2 j (by omega) h2) (fun b => ⟨fun hex => ?_, fun hex => ?_⟩) (fun x hx => ?_) k2 (fun j hj hst => ?_)
        · by_cases cb : b = tc i
          · exact ⟨if_pos cb, if_pos cb⟩
          · obtain ⟨j, j1, j2, j3⟩ := hex
            have : j ≠ i := fun z => cb (by rw [← j2, z])
            obtain ⟨w1, w2⟩ := (o1 b).1 ⟨j, by omega, j2, j3⟩
            exact ⟨(if_neg cb).trans w1, (if_neg cb).trans w2⟩
        · have cb : b ≠ tc i := fun z => hex ⟨i, by omega, z.symm, by rw [z]; exact hns⟩
          obtain ⟨w1, w2⟩ := (o1 b).2 (fun ⟨j, j1, j2, j3⟩ => hex ⟨j, by omega, j2, j3⟩)
          exact ⟨(if_neg cb).trans w1, (if_neg cb).trans w2⟩
        · obtain ⟨w1, w2, j, j1, j2⟩ := k1 x hx
          exact ⟨w1, w2, j, by omega, j2⟩
        · by_cases cj : j = i
          · rw [cj] at hst
            exact absurd hst hns
          · exact k3 j (by omega) hst
      have keep : stay N m V tk ch (tc i) → ∃ (s' : Nat) (A' : MS) (D' : CfT) (kc' : Nat → Nat), d_X10_trim_62 N (d_X10_trim_4 N k) A1 D1 (bI ch) (nI s) (nI i) (nI (tc i)) = some (nI s', A', D') ∧ s' ≤ n ∧ mA A' = m ∧ gA A' = gA A ∧ Dt D D' ∧ cS D' 2508 = nI s' ∧ (∀ b, ((∃ j, j < n ∧ tc j = b ∧ ¬ stay N m V tk ch b) → oA A' b = none ∧ kA A' b = false) ∧ ((¬ ∃ j, j < n ∧ tc j = b ∧ ¬ stay N m V tk ch b) → oA A' b = oA A b ∧ kA A' b = kA A b)) ∧ (∀ k, k < s' → cA D' 29 k = nI (kc' k) ∧ stay N m V tk ch (kc' k) ∧ ∃ j, j < n ∧ tc j = kc' k) ∧ (∀ i j, i < s' → j < s' → kc' i = kc' j → i = j) ∧ ∀ j, j < n → stay N m V tk ch (tc j) → ∃ k, k < s' ∧ kc' k = tc j := fun hst => by
        rw [d_X10_trim_62, d_X10_trim_69, if_neg (show ¬ (1 : Int32) = 0 by decide), stA_n (show s < N by omega) (by omega), nI_1, nI_1]
        have ea : cA (sA D1 29 (upd (cA D1 29) s (nI (tc i)))) 29 = upd (cA D1 29) s (nI (tc i)) := rfl
        refine ih (i + 1) (s + 1) A1 _ (fun x => if x < s then kc x else tc i) (by omega) (by omega) (by omega) e1 e2 (t1.tr ⟨fun _ _ => rfl, fun x hx => if_neg hx⟩) d1 (fun j h1 h2 => by rw [ea, pk_un (by omega)]; exact d2 j (by omega) h2) (fun b => ⟨fun hex => ?_, fun hex => ?_⟩) (fun x hx => ?_) (fun x y hx hy hxy => ?_) (fun j hj hsj => ?_)
        · obtain ⟨j, j1, j2, j3⟩ := hex
          have : j ≠ i := fun z => j3 (by rw [← j2, z]; exact hst)
          exact (o1 b).1 ⟨j, by omega, j2, j3⟩
        · exact (o1 b).2 (fun ⟨j, j1, j2, j3⟩ => hex ⟨j, by omega, j2, j3⟩)
        · rw [ea]
          by_cases cx : x < s
          · rw [if_pos cx, pk_un (by omega)]
            obtain ⟨w1, w2, j, j1, j2⟩ := k1 x cx
            exact ⟨w1, w2, j, by omega, j2⟩
          · rw [if_neg cx, show x = s by omega, pk_us]
            exact ⟨rfl, hst, i, by omega, rfl⟩
        · have hxy : (if x < s then kc x else tc i) = (if y < s then kc y else tc i) := hxy
          have hne : ∀ z, z < s → kc z ≠ tc i := fun z hz hzz => by
            obtain ⟨-, -, j, j1, j2⟩ := k1 z hz
            have := n4 j i (by omega) hin (j2.trans hzz)
            omega
          by_cases cx : x < s
          · rw [if_pos cx] at hxy
            by_cases cy : y < s
            · rw [if_pos cy] at hxy
              exact k2 x y cx cy hxy
            · rw [if_neg cy] at hxy
              exact absurd hxy (hne x cx)
          · rw [if_neg cx] at hxy
            by_cases cy : y < s
            · rw [if_pos cy] at hxy
              exact absurd hxy.symm (hne y cy)
            · omega
        · by_cases cj : j = i
          · exact ⟨s, by omega, by rw [if_neg (Nat.lt_irrefl s), cj]⟩
          · obtain ⟨x, x1, x2⟩ := k3 j (by omega) hsj
            exact ⟨x, by omega, by rw [if_pos x1]; exact x2⟩
      rcases bt01 (V 43) (tc i) with z | z
      · rw [z, if_pos (show nI 0 = 0 from rfl)]
        exact drop (fun y => by rw [y.1] at z; cases z)
      · rw [z, if_neg (show ¬ nI 1 = 0 by decide)]
        cases ch with
        | false =>
          rw [if_pos (show bI false = 0 from rfl)]
          exact keep ⟨z, fun y => by cases y⟩
        | true =>
          rw [if_neg (show ¬ bI true = 0 by decide), ld_n q1 (by omega)]
          obtain ⟨w1, w2⟩ := (h.2.2.1 (tc i) q2 q1).1 z
          have etk : tkA A1.2.2.2.2.2.2.1 (tc i) = if tk (tc i) then 1 else 0 := by
            show (if kA A1 (tc i) then (1 : Int32) else 0) = _
            rw [ki, w2]
          rw [etk]
          cases ht : tk (tc i) with
          | true =>
            rw [if_neg (show ¬ (if true = true then (1 : Int32) else 0) = 0 by decide)]
            exact keep ⟨z, fun _ => chQ_iff.mpr ⟨q2, q1, Or.inl ht⟩⟩
          | false =>
            rw [if_pos (show (if false = true then (1 : Int32) else 0) = 0 by decide)]
            have hmd : mdO N A1 (nI (tc i)) = some (V (tc i)) := by
              unfold mdO
              rw [nI_clamp (by omega), if_neg (fun z => z.elim (nI_nn (by omega)) (fun q => by omega)), show A1.2.2.2.2.2.1 (tc i) = oA A (tc i) from oi]
              cases e : oA A (tc i) with
              | none => exact absurd e q4
              | some y =>
                rw [vA_o, e] at w1
                rw [← w1]
                rfl
            have hbf : bfA A1 (tc i) = befM m (tc i) := by
              rw [← e1]
              rfl
            obtain ⟨hv1, hv2⟩ := hv (tc i) q2 q1
            obtain ⟨r, r1, r2⟩ := d_same (N := N) (V := vA A1) (D := D1) hv1 hv2
            rw [bnd_o hmd, see_n q1 hN, hbf, bnd_o r1]
            cases r with
            | true =>
              rw [if_neg (show ¬ bI true = 0 by decide)]
              refine drop (fun y => ?_)
              have y := (chQ_iff.mp (y.2 rfl)).2.2
              rcases y with y | y
              · rw [ht] at y
                cases y
              · exact y (r2.mp rfl)
            | false =>
              rw [if_pos (show bI false = 0 from rfl)]
              exact keep ⟨z, fun _ => chQ_iff.mpr ⟨q2, q1, Or.inr (fun y => by cases r2.mpr y)⟩⟩
theorem c_trim {A : MS} {D : CfT} {m : M5} {V : Nat → Rw} {tk : Nat → Bool} {ch : Bool} (hN1 : 61 ≤ N) (hN : N ≤ 1024) (h : CX N A D m V tk) (hv : NV N m V) : ∃ s A' D', d_X10_trim N A D (bI ch) = some (nI s, A', D') ∧ CX N A' D' m V tk ∧ gA A' = gA A ∧ Dt D D' ∧ s = rsC (isS (oA A')) 1 N ∧ cS D' 2508 = nI s ∧ s ≤ N ∧ (ch = true → oA A' = chQ N m V tk) ∧ (∀ b, oA A' b ≠ none → btM (V 43) b = 1) := by
  obtain ⟨a1, ⟨n, tc, n1, n2, n3, n4, n5⟩, a3, a4, a5, a6, a7⟩ := id h
  obtain ⟨s, A', D', kc, e, s1, e1, e2, t1, d1, o1, k1, k2, k3⟩ := c_trim_l (ch := ch) hN1 hN h hv n1 n2 n3 n4 fuL 0 0 A D (fun _ => 0) (Nat.zero_le _) (by rw [fuL_4]; omega) (Nat.le_refl _) a1 rfl Dt.rf n2 (fun j _ hj => (n3 j hj).2.2.1) (fun b => ⟨fun ⟨j, j1, _⟩ => absurd j1 (Nat.not_lt_zero _), fun _ => ⟨rfl, rfl⟩⟩) (fun k hk => absurd hk (Nat.not_lt_zero _)) (fun i j hi => absurd hi (Nat.not_lt_zero _)) (fun j hj => absurd hj (Nat.not_lt_zero _))
  have hO : ∀ b, oA A' b ≠ none ↔ oA A b ≠ none ∧ stay N m V tk ch b := fun b => by
    by_cases c : ∃ j, j < n ∧ tc j = b ∧ ¬ stay N m V tk ch b
    · rw [((o1 b).1 c).1]
      obtain ⟨j, -, -, j3⟩ := c
      exact ⟨fun z => absurd rfl z, fun z => absurd z.2 j3⟩
    · rw [((o1 b).2 c).1]
      refine ⟨fun z => ⟨z, ?_⟩, fun z => z.1⟩
      obtain ⟨j, j1, j2⟩ := n5 b z
      exact Classical.byContradiction (fun y => c ⟨j, j1, j2, y⟩)
  have hE : ∀ b, stay N m V tk ch b → oA A' b = oA A b ∧ kA A' b = kA A b := fun b hb => (o1 b).2 (fun ⟨j, _, _, j3⟩ => j3 hb)
  have hti : TI N A' D' := ⟨s, kc, by omega, d1, fun i hi => by
      obtain ⟨w1, w2, j, j1, j2⟩ := k1 i hi
      obtain ⟨q1, q2, q3, q4⟩ := n3 j j1
      rw [← j2]
      refine ⟨q1, q2, by rw [j2]; exact w1, (hO _).mpr ⟨q4, by rw [j2]; exact w2⟩⟩, k2, fun b hb => by
      obtain ⟨z1, z2⟩ := (hO b).mp hb
      obtain ⟨j, j1, j2⟩ := n5 b z1
      obtain ⟨x, x1, x2⟩ := k3 j j1 (by rw [j2]; exact z2)
      exact ⟨x, x1, x2.trans j2⟩⟩
  refine ⟨s, A', D', e, ⟨e1, hti, fun b hb0 hb => ⟨fun hu => ?_, (a3 b hb0 hb).2⟩, a4, fun b hb => ?_, fun b hb => Or.inl ((hO b).mp hb).2.1, a7⟩, e2, t1, ?_, d1, by omega, fun hch => ?_, fun b hb => ((hO b).mp hb).2.1⟩
  · obtain ⟨q1, q2⟩ := (a3 b hb0 hb).1 hu
    by_cases hst : stay N m V tk ch b
    · rw [vA_o, (hE b hst).1, (hE b hst).2, e1]
      rw [vA_o, a1] at q1
      exact ⟨q1, q2⟩
    · have hc : ¬ (tk b = true ∨ V b ≠ befM m b) := fun z => hst ⟨hu, fun _ => chQ_iff.mpr ⟨hb0, hb, z⟩⟩
      have hvb : V b = befM m b := Classical.byContradiction (fun z => hc (Or.inr z))
      have htb : tk b = false := by
        cases e5 : tk b with
        | false => rfl
        | true => exact absurd (Or.inl e5) hc
      have hn : oA A' b = none := by
        cases e6 : oA A' b with
        | none => rfl
        | some y => exact absurd ((hO b).mp (by rw [e6]; exact Option.some_ne_none y)).2 hst
      rw [vA_o, hn, e1, hvb, htb]
      refine ⟨rfl, ?_⟩
      by_cases c : ∃ j, j < n ∧ tc j = b ∧ ¬ stay N m V tk ch b
      · exact ((o1 b).1 c).2
      · rw [((o1 b).2 c).2, q2, htb]
  · by_cases c : ∃ j, j < n ∧ tc j = b ∧ ¬ stay N m V tk ch b
    · rw [((o1 b).1 c).2] at hb
      cases hb
    · rw [((o1 b).2 c).2] at hb
      rw [((o1 b).2 c).1]
      exact a5 b hb
  · refine (rsC_is N s kc (fun i hi => ?_) k2 (fun b hb hbe => ?_)).symm
    · obtain ⟨w1, w2, j, j1, j2⟩ := k1 i hi
      obtain ⟨q1, q2, q3, q4⟩ := n3 j j1
      rw [← j2]
      exact ⟨q1, isS_1.mpr ((hO _).mpr ⟨q4, by rw [j2]; exact w2⟩)⟩
    · obtain ⟨z1, z2⟩ := (hO b).mp (isS_1.mp hbe)
      obtain ⟨j, j1, j2⟩ := n5 b z1
      obtain ⟨x, x1, x2⟩ := k3 j j1 (by rw [j2]; exact z2)
      exact ⟨x, x1, x2.trans j2⟩
  · funext b
    by_cases c : oA A' b = none
    · rw [c]
      cases e7 : chQ N m V tk b with
      | none => rfl
      | some y =>
        have hq : chQ N m V tk b ≠ none := by rw [e7]; exact Option.some_ne_none y
        obtain ⟨w1, w2, w3⟩ := chQ_iff.mp hq
        have hu : btM (V 43) b = 1 := by
          rcases bt01 (V 43) b with z | z
          · obtain ⟨y1, y2⟩ := (a3 b w1 w2).2 z
            rcases w3 with z2 | z2
            · rw [y2] at z2
              cases z2
            · exact absurd y1 z2
          · exact z
        have hon : oA A b ≠ none := fun z => by
          obtain ⟨y1, y2⟩ := (a3 b w1 w2).1 hu
          rw [vA_o, z, a1] at y1
          rcases w3 with z2 | z2
          · exact a5 b (y2.trans z2) z
          · exact z2 y1.symm
        exact absurd c ((hO b).mpr ⟨hon, hu, fun _ => hq⟩)
    · obtain ⟨z1, z2, z3⟩ := (hO b).mp c
      obtain ⟨w1, w2, w3⟩ := chQ_iff.mp (z3 hch)
      obtain ⟨y1, y2⟩ := (a3 b w1 w2).1 z2
      rw [(hE b ⟨z2, z3⟩).1, chQ_s w1 w2 w3, ← y1, vA_o]
      cases e8 : oA A b with
      | none => exact absurd e8 z1
      | some y => rfl
end PVL
