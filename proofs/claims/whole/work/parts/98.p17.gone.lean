/-! ===== pure: the reference applies its log ===== -/
section PUT
variable {R : RfT} {N B : Nat}
/-- bytes stand in arrays of bytes -/
def ByX (R : RfT) : Prop := Byt (rA R 24) ∧ Byt (rA R 28) ∧ Byt (rA R 46) ∧ Byt (rA R 48)
theorem ByX.eq {R' : RfT} (h : ByX R) (e : ∀ k, k ∈ [24, 28, 46, 48] → rA R' k = rA R k) : ByX R' := by
  unfold ByX
  rw [e 24 (by decide), e 28 (by decide), e 46 (by decide), e 48 (by decide)]
  exact h
/-- the reference's own rows lie in order -/
def WkO (N : Nat) (R : RfT) : Prop := ∃ n, n ≤ 1024 ∧ rS R 33 = nI n ∧ (∀ k, k < n → ∃ t, t < N ∧ rA R 30 k = nI t ∧ rA R 36 t = nI k) ∧ (∀ b, b < 1024 → rA R 36 b = -1 ∨ ∃ k, k < n ∧ rA R 36 b = nI k ∧ rA R 30 k = nI b) ∧ Byt (rA R 32) ∧ (∀ k, k < n → rA R 31 k = 0 ∨ rA R 31 k = 1) ∧ ByX R
theorem WkO.wk (h : WkO N R) (hN : N ≤ 1024) : ∃ n, rWk R n := by
  obtain ⟨n, h1, h2, h3, -⟩ := h
  exact ⟨n, h1, h2, fun k hk => by
    obtain ⟨t, ht, e, -⟩ := h3 k hk
    exact ⟨t, by omega, e⟩⟩
theorem RH.db {h : Hw} (hr : RH N B h R) : ∃ wf w, rDb R wf w B h.2.1.2.1 := by
  obtain ⟨wf, w, h1, h2, h3, h4, h5, h6, h7, h8, h9⟩ := hr
  exact ⟨wf, w, h3⟩
theorem RH.on {h : Hw} (hr : RH N B h R) : ¬ rS R 11 = 0 := by
  obtain ⟨wf, w, h1, h2, h3, h4, h5, h6, h7, h8, h9⟩ := hr
  exact on1 h9
theorem RH.on1 {h : Hw} (hr : RH N B h R) : rS R 11 = 1 := by
  obtain ⟨wf, w, h1, h2, h3, h4, h5, h6, h7, h8, h9⟩ := hr
  exact h9
theorem RH.ok {h : Hw} (hr : RH N B h R) (hw : WkO N R) (hN : N ≤ 1024) : rOk R B := by
  obtain ⟨wf, w, h3⟩ := hr.db
  obtain ⟨n, hn⟩ := hw.wk hN
  exact ⟨wf, w, _, n, h3, hn⟩
/-- nothing changed but these fields and these arrays -/
def Fq (S T : List Nat) (R R' : RfT) : Prop := (∀ j, j ∉ S → rS R' j = rS R j) ∧ (∀ k, k ∉ T → rA R' k = rA R k) ∧ rTl R' = rTl R
theorem Fq.rf {S T : List Nat} : Fq S T R R := ⟨fun _ _ => rfl, fun _ _ => rfl, rfl⟩
theorem Fq.tr {S T : List Nat} {R1 R2 R3 : RfT} (a : Fq S T R1 R2) (b : Fq S T R2 R3) : Fq S T R1 R3 := ⟨fun j h => (b.1 j h).trans (a.1 j h), fun j h => (b.2.1 j h).trans (a.2.1 j h), b.2.2.trans a.2.2⟩
theorem Fq.wk {S T S' T' : List Nat} {R1 R2 : RfT} (a : Fq S T R1 R2) (hS : ∀ j, j ∈ S → j ∈ S') (hT : ∀ j, j ∈ T → j ∈ T') : Fq S' T' R1 R2 := ⟨fun j h => a.1 j (fun z => h (hS j z)), fun j h => a.2.1 j (fun z => h (hT j z)), a.2.2⟩
theorem Fq.s {S T : List Nat} {j : Nat} {v : Int32} (h : j ∈ S) : Fq S T R (setS R j v) := ⟨fun i hi => pk_un (fun e => hi (e ▸ h)), fun _ _ => rfl, rfl⟩
theorem Fq.a {S T : List Nat} {j : Nat} {x : Nat → Int32} (h : j ∈ T) : Fq S T R (setA R j x) := ⟨fun _ _ => rfl, fun i hi => if_neg (fun (e : i = j) => hi (e ▸ h)), rfl⟩
theorem HwF.q {S T : List Nat} {R' : RfT} (h : HwF R R') (hS : ∀ j, j ∈ [9, 10, 12, 13, 14, 18, 20] → j ∈ S) (hT : ∀ j, j ∈ [6, 7, 8, 15, 17, 39, 40] → j ∈ T) : Fq S T R R' := Fq.wk (show Fq _ _ R R' from h) hS hT
theorem WkO.fq {S T : List Nat} {R' : RfT} (h : WkO N R) (f : Fq S T R R') (h33 : 33 ∉ S) (h30 : 30 ∉ T) (h31 : 31 ∉ T) (h32 : 32 ∉ T) (h36 : 36 ∉ T) (hX : ∀ k, k ∈ [24, 28, 46, 48] → k ∉ T := by decide) : WkO N R' := by
  obtain ⟨n, n1, n2, n3, n4, n5, n6, n7⟩ := h
  unfold WkO
  rw [f.1 33 h33, f.2.1 30 h30, f.2.1 31 h31, f.2.1 32 h32, f.2.1 36 h36]
  exact ⟨n, n1, n2, n3, n4, n5, n6, n7.eq (fun k hk => f.2.1 k (hX k hk))⟩
theorem WkO.fqX {S T : List Nat} {R' : RfT} (h : WkO N R) (f : Fq S T R R') (h33 : 33 ∉ S) (h30 : 30 ∉ T) (h31 : 31 ∉ T) (h32 : 32 ∉ T) (h36 : 36 ∉ T) (hX : ByX R') : WkO N R' := by
  obtain ⟨n, n1, n2, n3, n4, n5, n6, n7⟩ := h
  unfold WkO
  rw [f.1 33 h33, f.2.1 30 h30, f.2.1 31 h31, f.2.1 32 h32, f.2.1 36 h36]
  exact ⟨n, n1, n2, n3, n4, n5, n6, hX⟩
theorem WkO.fq4 {S T : List Nat} {R' : RfT} (h : WkO N R) (f : Fq S T R R') (h33 : 33 ∉ S) (h30 : 30 ∉ T) (h31 : 31 ∉ T) (h32 : 32 ∉ T) (h36 : 36 ∉ T) (b24 : Byt (rA R' 24)) (hX : ∀ k, k ∈ [28, 46, 48] → k ∉ T := by decide) : WkO N R' := by
  obtain ⟨n, n1, n2, n3, n4, n5, n6, n7⟩ := id h
  refine h.fqX f h33 h30 h31 h32 h36 ⟨b24, ?_⟩
  rw [f.2.1 28 (hX 28 (by decide)), f.2.1 46 (hX 46 (by decide)), f.2.1 48 (hX 48 (by decide))]
  exact n7.2
theorem WkO.fq6 {S T : List Nat} {R' : RfT} (h : WkO N R) (f : Fq S T R R') (h33 : 33 ∉ S) (h30 : 30 ∉ T) (h31 : 31 ∉ T) (h32 : 32 ∉ T) (h36 : 36 ∉ T) (b46 : Byt (rA R' 46)) (hX : ∀ k, k ∈ [24, 28, 48] → k ∉ T := by decide) : WkO N R' := by
  obtain ⟨n, n1, n2, n3, n4, n5, n6, n7⟩ := id h
  refine h.fqX f h33 h30 h31 h32 h36 ⟨?_, ?_, b46, ?_⟩
  · rw [f.2.1 24 (hX 24 (by decide))]
    exact n7.1
  · rw [f.2.1 28 (hX 28 (by decide))]
    exact n7.2.1
  · rw [f.2.1 48 (hX 48 (by decide))]
    exact n7.2.2.2
theorem WkO.x (h : WkO N R) : ByX R := by
  obtain ⟨n, n1, n2, n3, n4, n5, n6, n7⟩ := h
  exact n7
theorem WkO.b32 (h : WkO N R) : Byt (rA R 32) := by
  obtain ⟨n, n1, n2, n3, n4, n5, n6, n7⟩ := h
  exact n5
/-- all that is not on the disk is gone -/
def Gone (R0 R : RfT) : Prop := rS R 11 = 0 ∧ rS R 21 = 0 ∧ rS R 18 = 0 ∧ rS R 29 = 0 ∧ rS R 33 = 0 ∧ rS R 34 = 0 ∧ (∀ b, b < 1024 → rA R 35 b = 0 ∧ rA R 36 b = -1 ∧ rA R 37 b = -1 ∧ rA R 38 b = -1 ∧ rA R 39 b = -1) ∧ (∀ i, i < 65 → rA R 52 i = 0) ∧ (∀ i, i < 32 → rA R 53 i = 0) ∧ (∀ j, j ∈ [1, 2, 3, 5] → rS R j = rS R0 j) ∧ rA R 4 = rA R0 4
theorem nwA_at {wa wb : Nat → Int32} : ∀ (n b : Nat), (wa b = -1 ∨ ∃ k, k < n ∧ (wb k).toNatClampNeg = b) → nwA wa wb n b = -1
  | 0, b, h => by
    rcases h with h | ⟨k, hk, -⟩
    · exact h
    · exact absurd hk (Nat.not_lt_zero _)
  | n + 1, b, h => by
    show upd (nwA wa wb n) (wb n).toNatClampNeg (-1) b = -1
    by_cases e : b = (wb n).toNatClampNeg
    · rw [e, pk_us]
    · rw [pk_un e]
      refine nwA_at n b ?_
      rcases h with h | ⟨k, hk, q⟩
      · exact Or.inl h
      · refine Or.inr ⟨k, ?_, q⟩
        have : k ≠ n := fun z => e (by rw [← z]; exact q.symm)
        omega
theorem flt_at {g : Nat → Int32} {a b i : Nat} {x : Int32} (h : a ≤ i) (h2 : i < b) : flt g a b x i = x := if_pos ⟨h, h2⟩
theorem FlF.gone {R' : RfT} (hw : WkO N R) (h : FlF R R') : Gone R R' := by
  obtain ⟨X, rfl, f⟩ := h
  have hw : WkO N X := hw.fq (show Fq _ _ R X from f) (by decide) (by decide) (by decide) (by decide) (by decide)
  obtain ⟨n, h1, h2, h3, h4, -⟩ := hw
  have en : nK X = n := by
    unfold nK
    rw [h2, nI_clamp (by omega)]
  refine ⟨rfl, rfl, rfl, rfl, rfl, rfl, fun b hb => ⟨flt_at (Nat.zero_le _) hb, ?_, flt_at (Nat.zero_le _) hb, flt_at (Nat.zero_le _) hb, flt_at (Nat.zero_le _) hb⟩, fun i hi => flt_at (Nat.zero_le _) hi, fun i hi => flt_at (Nat.zero_le _) hi, ?_, f.2.1 4 (by decide)⟩
  · refine nwA_at (nK X) b ?_
    rcases h4 b hb with h | ⟨k, hk, -, e⟩
    · exact Or.inl h
    · exact Or.inr ⟨k, by rw [en]; exact hk, by show (rA X 30 k).toNatClampNeg = b; rw [e, nI_clamp (by omega)]⟩
  · intro j hj
    have hj : j = 1 ∨ j = 2 ∨ j = 3 ∨ j = 5 := by simpa using hj
    rcases hj with rfl | rfl | rfl | rfl
    · exact f.1 1 (by decide)
    · exact f.1 2 (by decide)
    · exact f.1 3 (by decide)
    · exact f.1 5 (by decide)
theorem Gone.fr {R0 R1 : RfT} (h : Gone R1 R) (e : ∀ j, j ∈ [1, 2, 3, 5] → rS R1 j = rS R0 j) (e4 : rA R1 4 = rA R0 4) : Gone R0 R := by
  obtain ⟨a1, a2, a3, a5, a6, a7, a8, a9, a10, a11, a12⟩ := h
  exact ⟨a1, a2, a3, a5, a6, a7, a8, a9, a10, fun j hj => (a11 j hj).trans (e j hj), a12.trans e4⟩
/-- gone, and the disk is as the model's -/
def Dd (N : Nat) (R0 : RfT) (o : Hw) (R : RfT) : Prop := Gone R0 R ∧ RF N o R ∧ ∃ B, rOk R B ∧ Byt (rA R 32) ∧ ByX R
theorem Dd.fr {R0 R1 : RfT} {o : Hw} (h : Dd N R1 o R) (e : ∀ j, j ∈ [1, 2, 3, 5] → rS R1 j = rS R0 j) (e4 : rA R1 4 = rA R0 4) : Dd N R0 o R := ⟨h.1.fr e e4, h.2⟩
theorem Dd.fq {S T : List Nat} {R0 R1 : RfT} {o : Hw} (h : Dd N R1 o R) (f : Fq S T R0 R1) (e : ∀ j, j ∈ [1, 2, 3, 5] → j ∉ S) (e4 : 4 ∉ T) : Dd N R0 o R := h.fr (fun j hj => f.1 j (e j hj)) (f.2.1 4 e4)
theorem FlF.dd {R' : RfT} {o : Hw} (hw : WkO N R) (hok : rOk R' B) (h : FlF R R') (hf : RF N o R') : Dd N R o R' := by
  refine ⟨h.gone hw, hf, B, hok, ?_⟩
  obtain ⟨X, rfl, f⟩ := h
  have hw : WkO N X := hw.fq (show Fq _ _ R X from f) (by decide) (by decide) (by decide) (by decide) (by decide)
  exact ⟨hw.b32, hw.x⟩
/-- a step of the hardware, as the model does -/
def Ou (N B : Nat) (S T : List Nat) (R : RfT) (o : Bool × Hw) (R' : RfT) : Prop := (o.1 = true ∧ RH N B o.2 R' ∧ Fq S T R R') ∨ (o.1 = false ∧ Dd N R o.2 R')
theorem z_hand79 {t : Nat} {x : Rw} {h : Hw} (hN : N ≤ 1024) (hr : RH N B h R) (hw : WkO N R) (ht : t < N) (hsp : hSp h + 1 < 2 ^ 31) (hj : Byt (rA R 44)) (hx : nr (rA R 44) = x) : Ou N B [9, 10, 12, 13, 14, 18, 20] [6, 7, 8, 15, 17, 39, 40] R (aPl N B t x h) (rHand R 44 0 t) := by
  have hx2 : nr (fun i => rA R 44 (0 + i)) = x := by
    rw [← hx]
    exact nr_eq (fun i _ => by rw [Nat.zero_add])
  have ok := rHand_ok (j := 44) (a := 0) (t := t) (hr.ok hw hN) (by omega) hj (by decide) (by decide) (by decide) (by decide) (by decide) (by decide) (by decide)
  rcases hr.hand hN ht hsp hj (by decide) hx2 with ⟨a1, a2, a3⟩ | ⟨a1, a2, a3, a4⟩
  · exact Or.inl ⟨a1, a2, a3⟩
  · exact Or.inr ⟨a1, by rw [a2]; exact a3.dd hw ok a4⟩
theorem e_hand79 {t : Nat} {h : Hw} (hN : N ≤ 1024) (hr : RH N B h R) (hw : WkO N R) (ht : t < 1024) : e_hand_79 R (nI t) 0 = some (rHand R 44 0 t) := by
  rw [e_hand_79, gd_t ⟨⟨B, hr.ok hw hN⟩, nI_in ht (by decide), rfl⟩, nI_clamp (by omega)]
theorem z_sett {h : Hw} (hN : N ≤ 1024) (hr : RH N B h R) (hw : WkO N R) : e_settle R = some (rSett R) ∧ Ou N B [9, 10, 12, 13, 14, 18, 20] [6, 7, 8, 15, 17, 39, 40] R (aSe N h) (rSett R) := by
  have ok := hr.ok hw hN
  refine ⟨by rw [e_settle, gd_t ⟨B, ok⟩], ?_⟩
  rcases hr.sett hN with ⟨a1, a2, a3⟩ | ⟨a1, a3, a4⟩
  · exact Or.inl ⟨a1, a2, a3⟩
  · exact Or.inr ⟨a1, a3.dd hw (rSett_ok ok) a4⟩
/-- the dead do nothing -/
theorem dd_sett {R0 : RfT} {o : Hw} (h : Dd N R0 o R) : e_settle R = some R := by
  obtain ⟨h1, h2, B, ok, -⟩ := h
  have h11 : rS R 11 = 0 := h1.1
  have e : ∀ d, rSeL d R = R := fun d => by
    cases d with
    | zero => rfl
    | succ d => exact if_pos h11
  rw [e_settle, gd_t ⟨B, ok⟩, rSett, e, if_neg (fun z => z.1 h11), rNo, if_pos h11]
end PUT
