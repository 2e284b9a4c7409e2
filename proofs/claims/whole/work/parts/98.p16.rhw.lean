/-! ===== pure: what the reference's hardware leaves as it is ===== -/
section PUS
variable {R : RfT}
/-- nothing changed but the hardware -/
def HwF (R R' : RfT) : Prop := (∀ j, j ∉ [9, 10, 12, 13, 14, 18, 20] → rS R' j = rS R j) ∧ (∀ k, k ∉ [6, 7, 8, 15, 17, 39, 40] → rA R' k = rA R k) ∧ rTl R' = rTl R
theorem HwF.rf : HwF R R := ⟨fun _ _ => rfl, fun _ _ => rfl, rfl⟩
theorem HwF.tr {R1 R2 R3 : RfT} (a : HwF R1 R2) (b : HwF R2 R3) : HwF R1 R3 := ⟨fun j h => (b.1 j h).trans (a.1 j h), fun j h => (b.2.1 j h).trans (a.2.1 j h), b.2.2.trans a.2.2⟩
/-- out of R the power failed -/
def FlF (R R' : RfT) : Prop := ∃ X, R' = rFl X (nK X) ∧ HwF R X
theorem HwF.hn {k t j a : Nat} : HwF R (rHn R k t j a) := ⟨fun _ _ => rfl, fun i h => by
  have h15 : i ≠ 15 := fun e => h (by rw [e]; decide)
  have h39 : i ≠ 39 := fun e => h (by rw [e]; decide)
  have h17 : i ≠ 17 := fun e => h (by rw [e]; decide)
  show va_up (va_up (va_up R.2.2.2.2.1 15 _) 39 _) 17 _ i = _
  unfold va_up
  rw [if_neg h17, if_neg h39, if_neg h15], rfl⟩
theorem HwF.s {j : Nat} {v : Int32} (h : j ∈ [9, 10, 12, 13, 14, 18, 20]) : HwF R (setS R j v) := ⟨fun i hi => pk_un (fun e => hi (e ▸ h)), fun _ _ => rfl, rfl⟩
theorem rWrt_Tl {wf w b t q : Nat} : rTl (rWrt R wf w b t q) = rTl R := by
  unfold rWrt
  split
  · cases decide (rA R 40 b = nI wf) <;> rfl
  · rfl
theorem HwF.wr {k : Nat} : HwF R (rWr R k) := ⟨fun j h => rWrt_S (fun e => h (by rw [e]; decide)) (fun e => h (by rw [e]; decide)) (fun e => h (by rw [e]; decide)) (fun e => h (by rw [e]; decide)), fun j h => rWrt_A (fun e => h (by rw [e]; decide)) (fun e => h (by rw [e]; decide)) (fun e => h (by rw [e]; decide)) (fun e => h (by rw [e]; decide)), rWrt_Tl⟩
theorem HwF.le {k : Nat} : HwF R (rLe R k) := ⟨fun j h => rLv_S (fun e => h (by rw [e]; decide)), fun j h => rLv_A (fun e => h (by rw [e]; decide)) (fun e => h (by rw [e]; decide)) (fun e => h (by rw [e]; decide)), by
  unfold rLe rLv
  split <;> rfl⟩
theorem rHand_f {j a t : Nat} (h : ¬ rS R 11 = 0) : HwF R (rHand R j a t) ∨ FlF R (rHand R j a t) := by
  unfold rHand
  rw [if_neg h]
  split
  · split
    · split
      · exact Or.inl ((HwF.wr.tr (HwF.s (by decide))).tr (HwF.le.tr ((HwF.s (by decide)).tr HwF.hn)))
      · exact Or.inr ⟨_, rfl, HwF.rf⟩
    · exact Or.inl ((HwF.s (by decide)).tr HwF.hn)
  · exact Or.inl HwF.hn
theorem HwF.on {R1 R2 : RfT} (h : HwF R1 R2) : rS R2 11 = rS R1 11 := h.1 11 (by decide)
theorem rSeL_f : ∀ (d : Nat) (R : RfT), ¬ rS R 11 = 0 → HwF R (rSeL d R) ∨ FlF R (rSeL d R)
  | 0, R, _ => Or.inl HwF.rf
  | d + 1, R, h => by
    show HwF R (if rS R 11 = 0 then R else if rCan R then _ else _) ∨ FlF R (if rS R 11 = 0 then R else if rCan R then _ else _)
    rw [if_neg h]
    by_cases c : rCan R
    · rw [if_pos c]
      have f : HwF R (rLe (rWr R (rLow (rA R 15) (nH R)).toNatClampNeg) (rLow (rA R 15) (nH R)).toNatClampNeg) := HwF.wr.tr HwF.le
      rcases rSeL_f d _ (by rw [f.on]; exact h) with q | ⟨X, e, q⟩
      · exact Or.inl (f.tr q)
      · exact Or.inr ⟨X, e, f.tr q⟩
    · rw [if_neg c]
      exact Or.inr ⟨_, rfl, HwF.rf⟩
theorem HwF.syn {wf w : Nat} : HwF R (rSyn R wf w) := ⟨fun j h => by
  have h14 : j ≠ 14 := fun e => h (by rw [e]; decide)
  have h12 : j ≠ 12 := fun e => h (by rw [e]; decide)
  have h10 : j ≠ 10 := fun e => h (by rw [e]; decide)
  show upd (upd (upd R.1 12 _) 14 _) 10 _ j = _
  rw [pk_un h10, pk_un h14, pk_un h12], fun j h => by
  have h6 : j ≠ 6 := fun e => h (by rw [e]; decide)
  have h40 : j ≠ 40 := fun e => h (by rw [e]; decide)
  show va_up (va_up R.2.2.2.2.1 6 _) 40 _ j = _
  unfold va_up
  rw [if_neg h40, if_neg h6], rfl⟩
theorem rSett_f (h : ¬ rS R 11 = 0) : HwF R (rSett R) ∨ FlF R (rSett R) := by
  unfold rSett
  rcases rSeL_f (nH R) R h with q | ⟨X, e, q⟩
  · by_cases c : rCan (rSeL (nH R) R)
    · rw [if_pos c]
      exact Or.inl (q.tr HwF.syn)
    · rw [if_neg c]
      unfold rNo
      rw [if_neg (by rw [q.on]; exact h)]
      exact Or.inr ⟨_, rfl, q⟩
  · rw [e]
    have hc : ¬ rCan (rFl X (nK X)) := fun z => z.1 rfl
    rw [if_neg hc, show rNo (rFl X (nK X)) (nK (rFl X (nK X))) = rFl X (nK X) from if_pos rfl]
    exact Or.inr ⟨X, rfl, q⟩
theorem FlF.on {R1 R2 : RfT} (h : FlF R1 R2) : rS R2 11 = 0 := by
  obtain ⟨X, rfl, -⟩ := h
  rfl
/-- put, as the model does -/
theorem RH.hand {N B t j a : Nat} {x : Rw} {h : Hw} (hN : N ≤ 1024) (hr : RH N B h R) (ht : t < N) (hsp : hSp h + 1 < 2 ^ 31) (hj : Byt (rA R j)) (hj2 : j ∉ [6, 7, 8, 15, 17, 39, 40]) (hx : nr (fun i => rA R j (a + i)) = x) :
    ((aPl N B t x h).1 = true ∧ RH N B (aPl N B t x h).2 (rHand R j a t) ∧ HwF R (rHand R j a t)) ∨ ((aPl N B t x h).1 = false ∧ (aPl N B t x h).2 = h ∧ FlF R (rHand R j a t) ∧ RF N h (rHand R j a t)) := by
  have h11 : ¬ rS R 11 = 0 := by
    obtain ⟨wf, w, h1, h2, h3, h4, h5, h6, h7, h8, h9⟩ := hr
    exact on1 h9
  rcases hr.pl hN ht hsp hj (fun e => hj2 (by rw [e]; decide)) (fun e => hj2 (by rw [e]; decide)) (fun e => hj2 (by rw [e]; decide)) (fun e => hj2 (by rw [e]; decide)) (fun e => hj2 (by rw [e]; decide)) (fun e => hj2 (by rw [e]; decide)) (fun e => hj2 (by rw [e]; decide)) hx with ⟨a1, a2⟩ | ⟨a1, a2, a3⟩
  · rcases rHand_f (R := R) (j := j) (a := a) (t := t) h11 with q | q
    · exact Or.inl ⟨a1, a2, q⟩
    · exfalso
      obtain ⟨wf, w, h1, h2, h3, h4, h5, h6, h7, h8, h9⟩ := a2
      exact on1 h9 q.on
  · exact Or.inr ⟨a1, a2, ⟨R, a3, HwF.rf⟩, by rw [a3]; exact RH.fails _ hr⟩
/-- settle, as the model does -/
theorem RH.sett {N B : Nat} {h : Hw} (hN : N ≤ 1024) (hr : RH N B h R) :
    ((aSe N h).1 = true ∧ RH N B (aSe N h).2 (rSett R) ∧ HwF R (rSett R)) ∨ ((aSe N h).1 = false ∧ FlF R (rSett R) ∧ RF N (aSe N h).2 (rSett R)) := by
  have h11 : ¬ rS R 11 = 0 := by
    obtain ⟨wf, w, h1, h2, h3, h4, h5, h6, h7, h8, h9⟩ := hr
    exact on1 h9
  rcases hr.se hN with ⟨a1, a2, -⟩ | ⟨a1, X, n, a2, a3⟩
  · rcases rSett_f (R := R) h11 with q | q
    · exact Or.inl ⟨a1, a2, q⟩
    · exfalso
      obtain ⟨wf, w, h1, h2, h3, h4, h5, h6, h7, h8, h9⟩ := a2
      exact on1 h9 q.on
  · rcases rSett_f (R := R) h11 with q | q
    · exfalso
      have e := q.on
      rw [a2] at e
      exact h11 e.symm
    · exact Or.inr ⟨a1, q, by rw [a2]; exact RH.fails _ a3⟩
end PUS
