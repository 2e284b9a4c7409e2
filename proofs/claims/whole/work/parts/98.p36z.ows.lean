/-! ===== pure: which rows are own ===== -/
section PVZ
variable {N B gr : Nat}
def OwS (A : MS) (P : Nat → Prop) : Prop := ∀ b, oA A b ≠ none → P b
def OwR (R : RfT) (P : Nat → Prop) : Prop := ∀ b, b < 1024 → wOw R b ≠ none → P b
theorem OwS.wk {A : MS} {P Q : Nat → Prop} (h : OwS A P) (e : ∀ b, P b → Q b) : OwS A Q := fun b hb => e b (h b hb)
theorem OwR.wk {R : RfT} {P Q : Nat → Prop} (h : OwR R P) (e : ∀ b, P b → Q b) : OwR R Q := fun b h1 hb => e b (h b h1 hb)
theorem ow_set {A : MS} {P : Nat → Prop} {b : Nat} {y : Rw} (h : OwS A P) (hb : P b) : OwS (aSet A b y) P := fun c hc => by
  by_cases e : c = b
  · rw [e]
    exact hb
  · refine h c (fun z => hc ?_)
    show (if c = b then some y else A.2.2.2.2.2.1 c) = none
    rw [if_neg e]
    exact z
theorem ow_own {A A' : MS} {D D' : CfT} {P : Nat → Prop} {x : Int32} (e : owB N A D x = some (A', D')) (h : OwS A P) (hb : P x.toNatClampNeg) : OwS A' P := by
  unfold owB at e
  split at e
  · cases e
  · split at e
    · cases e
      exact h
    · split at e
      · cases e
      · cases e
        exact ow_set h hb
theorem ow_rw {A A' : MS} {P : Nat → Prop} {t : Nat} {F : Rw → Option Rw} (e : rwO N A t F = some A') (h : OwS A P) : OwS A' P := by
  obtain ⟨q1, g, y, q2, q3, q4⟩ := rwO_s e
  rw [q4]
  exact ow_set h (h t (by
    show A.2.2.2.2.2.1 t ≠ none
    rw [q2]
    exact fun z => by cases z))
theorem ow_tk {A A' : MS} {P : Nat → Prop} {x : Int32} {v : Bool} (e : tkO N A x v = some A') (h : OwS A P) : OwS A' P := by
  unfold tkO at e
  split at e
  · cases e
  · cases e
    exact h
theorem ow_ar {A A' : MS} {P : Nat → Prop} {x : Int32} (e : arO N A x = some A') (h : OwS A P) : OwS A' P := by
  unfold arO at e
  split at e
  · cases e
  · cases e
    exact h
theorem ow_loosen {A A' : MS} {D D' : CfT} {P : Nat → Prop} {x : Int32} (e : d_X10_loosen N A D x = some (A', D')) (h : OwS A P) (h43 : P 43) : OwS A' P := by
  unfold d_X10_loosen at e
  split at e
  · cases e
    exact h
  · obtain ⟨v1, -, e⟩ := bnd_s e
    split at e
    · cases e
      exact h
    · obtain ⟨A3, D3, o, e⟩ := bnd2_s e
      obtain ⟨v4, -, e⟩ := bnd_s e
      obtain ⟨A5, o5, e⟩ := bnd_s e
      obtain ⟨A6, o6, e⟩ := bnd_s e
      cases e
      exact ow_ar o6 (ow_rw o5 (ow_own o h h43))
theorem ow_seize {A A' : MS} {D D' : CfT} {P : Nat → Prop} {x t : Int32} (e : d_X10_seize N A D x t = some (A', D')) (h : OwS A P) (h43 : P 43) (hb : ¬ t = 0 → P x.toNatClampNeg) : OwS A' P := by
  unfold d_X10_seize at e
  obtain ⟨v1, -, e⟩ := bnd_s e
  split at e
  · cases e
    exact h
  · obtain ⟨A3, D3, o, e⟩ := bnd2_s e
    obtain ⟨v4, -, e⟩ := bnd_s e
    obtain ⟨A5, o5, e⟩ := bnd_s e
    split at e
    · cases e
      exact ow_rw o5 (ow_own o h h43)
    · next c =>
      obtain ⟨A7, D7, o7, e⟩ := bnd2_s e
      obtain ⟨A8, o8, e⟩ := bnd_s e
      obtain ⟨A9, o9, e⟩ := bnd_s e
      cases e
      exact ow_tk o9 (ow_rw o8 (ow_own o7 (ow_rw o5 (ow_own o h h43)) (hb c)))
theorem ow_links {A A' : MS} {D D' : CfT} {P : Nat → Prop} {i : Nat} {v : Int32} (hi1 : 1 ≤ i) (hi2 : i ≤ 64) (e : d_X7_setLinks N A D (nI i) v = some (A', D')) (h : OwS A P) (hb : P (homeM i)) : OwS A' P := by
  have := homeM_lt hi2
  unfold d_X7_setLinks at e
  rw [bnd_o (d_homeS hi1 hi2).1] at e
  obtain ⟨A3, D3, o, e⟩ := bnd2_s e
  obtain ⟨v4, -, e⟩ := bnd_s e
  obtain ⟨A5, o5, e⟩ := bnd_s e
  cases e
  exact ow_rw o5 (ow_own o h (by rw [nI_clamp (by omega)]; exact hb))
theorem ow_size {A A' : MS} {D D' : CfT} {P : Nat → Prop} {i : Nat} {v : Int32} (hi1 : 1 ≤ i) (hi2 : i ≤ 64) (e : d_X7_setSize N A D (nI i) v = some (A', D')) (h : OwS A P) (hb : P (homeM i)) : OwS A' P := by
  have := homeM_lt hi2
  unfold d_X7_setSize at e
  rw [bnd_o (d_homeS hi1 hi2).1] at e
  obtain ⟨A3, D3, o, e⟩ := bnd2_s e
  obtain ⟨v4, -, e⟩ := bnd_s e
  obtain ⟨A5, o5, e⟩ := bnd_s e
  cases e
  exact ow_rw o5 (ow_own o h (by rw [nI_clamp (by omega)]; exact hb))
theorem ow_mark {A A' : MS} {D D' : CfT} {P : Nat → Prop} {i : Nat} {v : Int32} (hi1 : 1 ≤ i) (hi2 : i ≤ 64) (e : d_X7_setMark N A D (nI i) v = some (A', D')) (h : OwS A P) (hb : P (homeM i)) : OwS A' P := by
  have := homeM_lt hi2
  unfold d_X7_setMark at e
  rw [bnd_o (d_homeS hi1 hi2).1] at e
  obtain ⟨A3, D3, o, e⟩ := bnd2_s e
  obtain ⟨v4, -, e⟩ := bnd_s e
  obtain ⟨A5, o5, e⟩ := bnd_s e
  cases e
  exact ow_rw o5 (ow_own o h (by rw [nI_clamp (by omega)]; exact hb))
theorem ow_create {A A' : MS} {D D' : CfT} {P : Nat → Prop} {t : Nat} {v : Int32} (hi1 : 1 ≤ t) (hi2 : t ≤ 64) (e : d_X7_create N A D v = some (nI t, A', D')) (h : OwS A P) (h44 : P 44) (hb : P (homeM t)) : OwS A' P := by
  have := homeM_lt hi2
  unfold d_X7_create at e
  obtain ⟨v1, -, e⟩ := bnd_s e
  split at e
  · have q := (Prod.mk.inj (Prod.mk.inj (Option.some.inj e)).2).1
    rw [← q]
    exact h
  · obtain ⟨A3, D3, o, e⟩ := bnd2_s e
    obtain ⟨v4, -, e⟩ := bnd_s e
    obtain ⟨A5, o5, e⟩ := bnd_s e
    obtain ⟨v6, o6, e⟩ := bnd_s e
    obtain ⟨A7, D7, o7, e⟩ := bnd2_s e
    obtain ⟨v8, -, e⟩ := bnd_s e
    obtain ⟨A9, o9, e⟩ := bnd_s e
    obtain ⟨A10, D10, o10, e⟩ := bnd2_s e
    cases e
    have e6 := o6.symm.trans (d_homeS hi1 hi2).1
    cases e6
    exact ow_links hi1 hi2 o10 (ow_rw o9 (ow_own o7 (ow_rw o5 (ow_own o h h44)) (by rw [nI_clamp (by omega)]; exact hb))) hb
/-- the reference's -/
theorem OwR.st {R R' : RfT} {P : Nat → Prop} {b : Nat} (h : OwR R P) (hb : P b) (e : ∀ c, c < 1024 → wOw R' c ≠ none → c = b ∨ wOw R c ≠ none) : OwR R' P := fun c h1 hc => by
  rcases e c h1 hc with q | q
  · rw [q]
    exact hb
  · exact h c h1 q
theorem ww_set {R R' : RfT} {m : M5} {V : Nat → Rw} {tk : Nat → Bool} {P : Nat → Prop} {b p n : Nat} {v : Int32} (hN : N ≤ 1024) (h : RX N B gr R m V tk) (hb0 : 43 ≤ b) (hb : b < N) (hn : n ≤ 4) (hp : p + n ≤ 128) (e : e_setNumber R (nI b) (nI p) (nI n) v = some R') (hw : OwR R P) (hP : P b) : OwR R' P := by
  obtain ⟨R2, e2, -, -, q⟩ := z_setNumber (v := v) hN h hb0 hb hn hp
  rw [e2] at e
  cases e
  exact hw.st hP q
theorem ww_field {R R' : RfT} {m : M5} {V : Nat → Rw} {tk : Nat → Bool} {P : Nat → Prop} {i a n : Nat} {v : Int32} (hN1 : 61 ≤ N) (hN : N ≤ 1024) (h : RX N B gr R m V tk) (h1 : 1 ≤ i) (h2 : i ≤ 64) (hn : n ≤ 4) (ha : a + n ≤ 32) (e : e_setField R (nI i) (nI a) (nI n) v = some R') (hw : OwR R P) (hP : P (homeM i)) : OwR R' P := by
  obtain ⟨R2, e2, -, -, q⟩ := z_setField (v := v) hN1 hN h h1 h2 hn ha
  rw [e2] at e
  cases e
  exact hw.st hP q
theorem ww_bit {R R' : RfT} {m : M5} {V : Nat → Rw} {tk : Nat → Bool} {P : Nat → Prop} {b c : Nat} {on : Bool} (hN : N ≤ 1024) (h : RX N B gr R m V tk) (hb0 : 43 ≤ b) (hb : b < N) (hc : c < 1024) (e : e_setBit R (nI b) (nI c) (bI on) = some R') (hw : OwR R P) (hP : P b) : OwR R' P := by
  obtain ⟨R2, e2, -, -, q⟩ := z_setBit (on := on) hN h hb0 hb hc
  rw [e2] at e
  cases e
  exact hw.st hP q
theorem ww_free {R R' : RfT} {m : M5} {V : Nat → Rw} {tk : Nat → Bool} {P : Nat → Prop} {b : Nat} (hN1 : 61 ≤ N) (hN : N ≤ 1024) (h : RX N B gr R m V tk) (hb : b < N) (hb2 : 61 ≤ b) (e : e_free R (nI b) = some R') (hw : OwR R P) (hP : P 43) : OwR R' P := by
  obtain ⟨R2, e2, -, -, q⟩ := z_free hN1 hN h hb hb2
  rw [e2] at e
  cases e
  exact hw.st hP (fun c h1 h2 => (q c h1 h2).2)
theorem OwR.fq {S T : List Nat} {R R' : RfT} {P : Nat → Prop} (f : Fq S T R R') (h36 : 36 ∉ T) (h : OwR R P) : OwR R' P := fun c h1 hc => h c h1 (fun z => hc (by
  unfold wOw at z ⊢
  rw [f.2.1 36 h36]
  by_cases q : rA R 36 c = -1
  · rw [if_pos q]
  · rw [if_neg q] at z
    cases z))
theorem OwR.a43 {R : RfT} {P : Nat → Prop} {g : Nat → Int32} (h : OwR R P) : OwR (setA R 43 g) P := h
end PVZ
