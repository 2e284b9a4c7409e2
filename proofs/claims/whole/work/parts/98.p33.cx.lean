/-! ===== pure: the class's view, and what changes it ===== -/
section PVJ
variable {N B gr : Nat}
theorem lo8 (x : Int32) : x.toInt8.toInt32.toBitVec.toNat % 256 = x.toBitVec.toNat % 256 := by
  have e : x.toInt8.toInt32.toInt8 = x.toInt8 := by simp
  have e4 := congrArg (fun z => z.toBitVec.toNat) e
  simp only [Int32.toBitVec_toInt8, BitVec.signExtend_eq_setWidth_of_le _ (show 8 ≤ 32 by decide), BitVec.toNat_setWidth] at e4
  exact e4
theorem nI_tn {n : Nat} (h : n < 2 ^ 32) : (nI n).toBitVec.toNat = n := by
  show (BitVec.ofNat 32 n).toNat = n
  rw [BitVec.toNat_ofNat, Nat.mod_eq_of_lt h]
theorem bs_or {v m : Int32} : (v ||| m.toInt8.toInt32).toInt8.toInt32 = (nI (v.toBitVec.toNat % 256) ||| m).toInt8.toInt32 := by
  refine i8_c ?_
  have hm := Nat.mod_lt v.toBitVec.toNat (show 256 > 0 by decide)
  rw [Int32.toBitVec_or, Int32.toBitVec_or, BitVec.toNat_or, BitVec.toNat_or, show (256 : Nat) = 2 ^ 8 from rfl, Nat.or_mod_two_pow, Nat.or_mod_two_pow, show (2 : Nat) ^ 8 = 256 from rfl, lo8, nI_tn (by omega), Nat.mod_mod]
theorem bs_and {v m : Int32} : (v &&& m.toInt8.toInt32).toInt8.toInt32 = (nI (v.toBitVec.toNat % 256) &&& m).toInt8.toInt32 := by
  refine i8_c ?_
  have hm := Nat.mod_lt v.toBitVec.toNat (show 256 > 0 by decide)
  rw [Int32.toBitVec_and, Int32.toBitVec_and, BitVec.toNat_and, BitVec.toNat_and, show (256 : Nat) = 2 ^ 8 from rfl, Nat.and_mod_two_pow, Nat.and_mod_two_pow, show (2 : Nat) ^ 8 = 256 from rfl, lo8, nI_tn (by omega), Nat.mod_mod]
theorem bsW_t {y : Rw} {c : Nat} : nr (upd y (c / 8) (vp_nar .byte (((y (c / 8)) ||| (((1 : Int32) <<< (nI (c % 8) &&& 31) : Int32).toInt8.toInt32) : Int32).toInt8.toInt32))) = bsW y c true := by
  unfold bsW
  rw [wB_1, bs_or]
  rfl
theorem bsW_f {y : Rw} {c : Nat} : nr (upd y (c / 8) (vp_nar .byte (((y (c / 8)) &&& ((((1 : Int32) <<< (nI (c % 8) &&& 31)) ^^^ (-1) : Int32).toInt8.toInt32) : Int32).toInt8.toInt32))) = bsW y c false := by
  unfold bsW
  rw [wB_1, bs_and]
  rfl
def mA (A : MS) : M5 := (A.1, A.2.1, A.2.2.1, A.2.2.2.1, A.2.2.2.2.1)
def oA (A : MS) : QC := A.2.2.2.2.2.1
def kA (A : MS) : Nat → Bool := A.2.2.2.2.2.2.1
def gA (A : MS) : Bool := A.2.2.2.2.2.2.2
theorem vA_o {A : MS} {b : Nat} : vA A b = oSee (oA A b) (befM (mA A) b) := rfl
/-- the list of touched blocks tells the own rows -/
def TI (N : Nat) (A : MS) (D : CfT) : Prop := ∃ (n : Nat) (tc : Nat → Nat), n ≤ N ∧ cS D 2508 = nI n ∧ (∀ i, i < n → tc i < N ∧ 43 ≤ tc i ∧ cA D 29 i = nI (tc i) ∧ oA A (tc i) ≠ none) ∧ (∀ i j, i < n → j < n → tc i = tc j → i = j) ∧ ∀ b, oA A b ≠ none → ∃ i, i < n ∧ tc i = b
/-- the class in the midst of a call -/
def CX (N : Nat) (A : MS) (D : CfT) (m : M5) (V : Nat → Rw) (tk : Nat → Bool) : Prop := mA A = m ∧ TI N A D ∧ (∀ b, 43 ≤ b → b < N → (btM (V 43) b = 1 → vA A b = V b ∧ kA A b = tk b) ∧ (btM (V 43) b = 0 → V b = befM m b ∧ tk b = false)) ∧ btO N (V 43) ∧ (∀ b, kA A b = true → oA A b ≠ none) ∧ (∀ b, oA A b ≠ none → btM (V 43) b = 1 ∨ m.2.2.2.2 b = 2) ∧ ∀ b, b < N → btM (V 43) b = 1 → m.2.2.2.2 b = 0
def TJ (N : Nat) (A : MS) (D : CfT) : Prop := TI N A D ∧ ∀ b, kA A b = true → oA A b ≠ none
theorem CX.tj {N : Nat} {A : MS} {D : CfT} {m : M5} {V : Nat → Rw} {tk : Nat → Bool} (h : CX N A D m V tk) : TJ N A D := ⟨h.2.1, h.2.2.2.2.1⟩
/-- of what stands beside only the list of touched blocks changed -/
def Dt (D D' : CfT) : Prop := (∀ j, j ≠ 2508 → D'.1 j = D.1 j) ∧ (∀ k, k ≠ 29 → D'.2.1 k = D.2.1 k)
theorem Dt.rf {D : CfT} : Dt D D := ⟨fun _ _ => rfl, fun _ _ => rfl⟩
theorem Dt.tr {D1 D2 D3 : CfT} (a : Dt D1 D2) (b : Dt D2 D3) : Dt D1 D3 := ⟨fun j h => (b.1 j h).trans (a.1 j h), fun k h => (b.2 k h).trans (a.2 k h)⟩
theorem bt01 (y : Rw) (b : Nat) : btM y b = 0 ∨ btM y b = 1 := by
  have := bt_lt y b
  omega
theorem CX.see {A : MS} {D : CfT} {m : M5} {V : Nat → Rw} {tk : Nat → Bool} (h : CX N A D m V tk) {b : Nat} (h1 : 43 ≤ b) (h2 : b < N) (hu : btM (V 43) b = 1) : vA A b = V b := ((h.2.2.1 b h1 h2).1 hu).1
theorem c_own {A : MS} {D : CfT} {m : M5} {V : Nat → Rw} {tk : Nat → Bool} (hN : N ≤ 1024) (h : CX N A D m V tk) {b : Nat} (h1 : 43 ≤ b) (h2 : b < N) (hu : btM (V 43) b = 1) : ∃ A' D', owB N A D (nI b) = some (A', D') ∧ CX N A' D' m V tk ∧ oA A' b = some (V b) ∧ gA A' = gA A ∧ Dt D D' := by
  obtain ⟨a1, ⟨n, tc, n1, n2, n3, n4, n5⟩, a3, a4, a5, a6, a7⟩ := id h
  have hsee := h.see h1 h2 hu
  unfold owB
  rw [if_neg (show ¬ (nI b < 0 ∨ N ≤ (nI b).toNatClampNeg) by rw [nI_clamp (by omega)]; exact fun z => z.elim (nI_nn (by omega)) (fun y => by omega)), nI_clamp (by omega)]
  cases e : A.2.2.2.2.2.1 b with
  | some y =>
    refine ⟨A, D, rfl, h, ?_, rfl, Dt.rf⟩
    rw [vA_o, show oA A b = some y from e] at hsee
    rw [show oA A b = some y from e, ← hsee]
    rfl
  | none =>
    have e : oA A b = none := e
    have hn : n < N := by
      have := pigeon N (n + 1) (fun i => if i < n then tc i else b) (fun i hi => by
        show (if i < n then tc i else b) < N
        by_cases c : i < n
        · rw [if_pos c]
          exact (n3 i c).1
        · rw [if_neg c]
          exact h2) (fun i j hi hj e2 => by
        have e2 : (if i < n then tc i else b) = (if j < n then tc j else b) := e2
        by_cases c : i < n
        · rw [if_pos c] at e2
          by_cases c2 : j < n
          · rw [if_pos c2] at e2
            exact n4 i j c c2 e2
          · rw [if_neg c2] at e2
            exact absurd e (e2 ▸ (n3 i c).2.2.2)
        · rw [if_neg c] at e2
          by_cases c2 : j < n
          · rw [if_pos c2] at e2
            exact absurd e (e2 ▸ (n3 j c2).2.2.2)
          · omega)
      omega
    show ∃ A' D', (if cS D 2508 < 0 ∨ N ≤ (cS D 2508).toNatClampNeg then none else some (aSet A b (vA A b), sS (sA D 29 (upd (cA D 29) (cS D 2508).toNatClampNeg (nI b))) 2508 (cS D 2508 + 1))) = some (A', D') ∧ _
    rw [n2, if_neg (show ¬ (nI n < 0 ∨ N ≤ (nI n).toNatClampNeg) by rw [nI_clamp (by omega)]; exact fun z => z.elim (nI_nn (by omega)) (fun y => by omega)), nI_clamp (by omega), nI_1, hsee]
    have oS : oA (aSet A b (V b)) b = some (V b) := if_pos rfl
    have oN : ∀ c, c ≠ b → oA (aSet A b (V b)) c = oA A c := fun c hc => if_neg hc
    refine ⟨_, _, rfl, ⟨a1, ⟨n + 1, fun i => if i < n then tc i else b, by omega, pk_us (f := D.1) (k := 2508), fun i hi => ?_, fun i j hi hj e2 => ?_, fun c hc => ?_⟩, fun c hc0 hc => ⟨fun q => ?_, (a3 c hc0 hc).2⟩, a4, fun c hc => ?_, fun c hc => ?_, a7⟩, oS, rfl, fun j hj => pk_un hj, fun k hk => if_neg hk⟩
    · have ea : cA (sS (sA D 29 (upd (cA D 29) n (nI b))) 2508 (nI (n + 1))) 29 = upd (cA D 29) n (nI b) := rfl
      rw [ea]
      dsimp only
      by_cases c : i < n
      · rw [if_pos c, pk_un (by omega)]
        obtain ⟨q1, q2, q3, q4⟩ := n3 i c
        exact ⟨q1, q2, q3, by rw [oN _ (fun z => q4 (by rw [z]; exact e))]; exact q4⟩
      · rw [if_neg c, show i = n by omega, pk_us, oS]
        exact ⟨h2, h1, rfl, Option.some_ne_none _⟩
    · have e2 : (if i < n then tc i else b) = (if j < n then tc j else b) := e2
      by_cases c : i < n
      · rw [if_pos c] at e2
        by_cases c2 : j < n
        · rw [if_pos c2] at e2
          exact n4 i j c c2 e2
        · rw [if_neg c2] at e2
          exact absurd e (e2 ▸ (n3 i c).2.2.2)
      · rw [if_neg c] at e2
        by_cases c2 : j < n
        · rw [if_pos c2] at e2
          exact absurd e (e2 ▸ (n3 j c2).2.2.2)
        · omega
    · by_cases cb : c = b
      · exact ⟨n, by omega, by dsimp only; rw [if_neg (Nat.lt_irrefl n), cb]⟩
      · rw [oN c cb] at hc
        obtain ⟨i, i1, i2⟩ := n5 c hc
        exact ⟨i, by omega, by dsimp only; rw [if_pos i1]; exact i2⟩
    · obtain ⟨q1, q2⟩ := (a3 c hc0 hc).1 q
      refine ⟨?_, q2⟩
      rw [vA_o]
      by_cases cb : c = b
      · rw [cb, oS]
        rfl
      · rw [oN c cb]
        exact q1
    · by_cases cb : c = b
      · rw [cb, oS]
        exact Option.some_ne_none _
      · rw [oN c cb]
        exact a5 c hc
    · by_cases cb : c = b
      · rw [cb]
        exact Or.inl hu
      · rw [oN c cb] at hc
        exact a6 c hc
/-- an own row is written -/
theorem c_put {A : MS} {D : CfT} {m : M5} {V : Nat → Rw} {tk : Nat → Bool} {y : Rw} (h : CX N A D m V tk) {b : Nat} (h1 : 44 ≤ b) (hu : btM (V 43) b = 1) (ho : oA A b = some (V b)) : CX N (aSet A b y) D m (vU V b y) tk := by
  obtain ⟨a1, ⟨n, tc, n1, n2, n3, n4, n5⟩, a3, a4, a5, a6, a7⟩ := id h
  have e43 : vU V b y 43 = V 43 := vU_n (by omega)
  have oS : oA (aSet A b y) b = some y := if_pos rfl
  have oN : ∀ c, c ≠ b → oA (aSet A b y) c = oA A c := fun c hc => if_neg hc
  have on : ∀ c, oA (aSet A b y) c ≠ none ↔ oA A c ≠ none := fun c => by
    by_cases cb : c = b
    · rw [cb, oS, ho]
      exact ⟨fun _ => Option.some_ne_none _, fun _ => Option.some_ne_none _⟩
    · rw [oN c cb]
  refine ⟨a1, ⟨n, tc, n1, n2, fun i hi => ?_, n4, fun c hc => n5 c ((on c).mp hc)⟩, fun c hc0 hc => ?_, by rw [e43]; exact a4, fun c hc => (on c).mpr (a5 c hc), fun c hc => by rw [e43]; exact a6 c ((on c).mp hc), by rw [e43]; exact a7⟩
  · obtain ⟨q1, q2, q3, q4⟩ := n3 i hi
    exact ⟨q1, q2, q3, (on _).mpr q4⟩
  · rw [e43]
    obtain ⟨q1, q2⟩ := a3 c hc0 hc
    by_cases cb : c = b
    · refine ⟨fun _ => ?_, fun z => ?_⟩
      · rw [cb, vU_s, vA_o, oS]
        rw [cb] at q1
        exact ⟨rfl, (q1 hu).2⟩
      · rw [cb] at z
        rw [hu] at z
        cases z
    · rw [vU_n cb]
      refine ⟨fun z => ?_, q2⟩
      rw [vA_o, oN c cb]
      exact q1 z
/-- the row of used blocks is written -/
theorem c_put43 {A : MS} {D : CfT} {m m' : M5} {V V' : Nat → Rw} {tk tk' : Nat → Bool} {c : Nat} {A' : MS} (h : CX N A D m V tk) (ho : oA A 43 = some (V 43)) (eo : oA A' = oA (aSet A 43 (V' 43))) (ek : kA A' = kA A) (em : mA A' = m') (hb : ∀ b, befM m' b = befM m b) (hc1 : 61 ≤ c) (hcN : c < N) (hN : N ≤ 1024) (hV : ∀ b, b ≠ 43 → b ≠ c → V' b = V b ∧ tk' b = tk b) (h43 : tk' 43 = tk 43) (hbt : ∀ b, b < 1024 → b ≠ c → btM (V' 43) b = btM (V 43) b) (hrs : ∀ b, b ≠ c → m'.2.2.2.2 b = m.2.2.2.2 b) (hcc : (btM (V' 43) c = 1 ∧ V' c = V c ∧ tk' c = tk c ∧ oA A c = none ∧ btM (V 43) c = 0 ∧ m'.2.2.2.2 c = 0) ∨ (btM (V' 43) c = 0 ∧ V' c = befM m c ∧ tk' c = false ∧ m'.2.2.2.2 c = 2)) : CX N A' D m' V' tk' := by
  obtain ⟨a1, ⟨n, tc, n1, n2, n3, n4, n5⟩, a3, a4, a5, a6, a7⟩ := id h
  have oS : oA A' 43 = some (V' 43) := by rw [eo]; rfl
  have oN : ∀ d, d ≠ 43 → oA A' d = oA A d := fun d hd => by rw [eo]; exact if_neg hd
  have on : ∀ d, oA A' d ≠ none ↔ oA A d ≠ none := fun d => by
    by_cases db : d = 43
    · rw [db, oS, ho]
      exact ⟨fun _ => Option.some_ne_none _, fun _ => Option.some_ne_none _⟩
    · rw [oN d db]
  refine ⟨em, ⟨n, tc, n1, n2, fun i hi => ?_, n4, fun d hd => n5 d ((on d).mp hd)⟩, fun d hd0 hd => ?_, ⟨fun b hb1 => ?_, fun b hb1 hb2 => ?_⟩, fun d hd => (on d).mpr (a5 d (by rw [← ek]; exact hd)), fun d hd => ?_, fun d hd hu => ?_⟩
  · obtain ⟨q1, q2, q3, q4⟩ := n3 i hi
    exact ⟨q1, q2, q3, (on _).mpr q4⟩
  · obtain ⟨q1, q2⟩ := a3 d hd0 hd
    rw [hb d]
    by_cases dc : d = c
    · rw [dc]
      rcases hcc with ⟨c1, c2, c3, c4, c5, c6⟩ | ⟨c1, c2, c3, c4⟩
      · refine ⟨fun _ => ?_, fun z => by rw [c1] at z; cases z⟩
        rw [dc] at q2
        obtain ⟨q3, q4⟩ := q2 c5
        rw [vA_o, oN c (by omega), c4, c2, c3, ek, em, hb, q3, q4]
        refine ⟨rfl, ?_⟩
        cases e : kA A c with
        | false => rfl
        | true => exact absurd c4 (a5 c e)
      · exact ⟨(fun z => by rw [c1] at z; cases z), fun _ => ⟨c2, c3⟩⟩
    · rw [hbt d (by omega) dc]
      by_cases d43 : d = 43
      · rw [d43]
        rw [d43] at q1 q2
        have u43 : btM (V 43) 43 = 1 := a4.1 43 (by decide)
        refine ⟨fun _ => ?_, fun z => by rw [u43] at z; cases z⟩
        rw [vA_o, oS, ek, h43]
        exact ⟨rfl, (q1 u43).2⟩
      · obtain ⟨v1, v2⟩ := hV d d43 dc
        rw [v1, v2]
        refine ⟨fun z => ?_, q2⟩
        rw [vA_o, oN d d43, ek, em, hb]
        have := q1 z
        rw [vA_o, a1] at this
        exact this
  · rw [hbt b (by omega) (by omega)]
    exact a4.1 b hb1
  · rw [hbt b (by omega) (by omega)]
    exact a4.2 b hb1 hb2
  · have hd2 := (on d).mp hd
    obtain ⟨i, i1, i2⟩ := n5 d hd2
    have hdN : d < N := by
      rw [← i2]
      exact (n3 i i1).1
    by_cases dc : d = c
    · rw [dc]
      rcases hcc with ⟨c1, -⟩ | ⟨-, -, -, c4⟩
      · exact Or.inl c1
      · exact Or.inr c4
    · rw [hbt d (by omega) dc, hrs d dc]
      exact a6 d hd2
  · by_cases dc : d = c
    · rw [dc] at hu ⊢
      rcases hcc with ⟨c1, c2, c3, c4, c5, c6⟩ | ⟨c1, -⟩
      · exact c6
      · rw [c1] at hu
        cases hu
    · rw [hbt d (by omega) dc] at hu
      rw [hrs d dc]
      exact a7 d hd hu
end PVJ
