/-! ===== methods that the power may fail in ===== -/
section DCF
noncomputable def gd {α : Type} (p : Prop) (k : Option α) : Option α := @ite _ p (Classical.propDecidable p) k none
theorem gd_t {α : Type} {p : Prop} {k : Option α} (h : p) : gd p k = k := if_pos h
theorem gd_s {α : Type} {p : Prop} {k : Option α} {r : α} (h : gd p k = some r) : p ∧ k = some r := by
  unfold gd at h
  by_cases q : p
  · rw [if_pos q] at h
    exact ⟨q, h⟩
  · rw [if_neg q] at h
    cases h
/-- an outcome: it went on, or the power failed -/
abbrev FR (α : Type) : Type := (α × MS × CfT) ⊕ (Nat × MS × CfT)
def bndF {α β : Type} (m : Option (FR β)) (k : β → MS → CfT → Option (FR α)) : Option (FR α) := match m with
  | none => none
  | some (.inl (v, A, D)) => k v A D
  | some (.inr x) => some (.inr x)
theorem bndF_s {α β : Type} {m : Option (FR β)} {k : β → MS → CfT → Option (FR α)} {r : FR α} (h : bndF m k = some r) : (∃ v A D, m = some (.inl (v, A, D)) ∧ k v A D = some r) ∨ ∃ e A D, m = some (.inr (e, A, D)) ∧ r = .inr (e, A, D) := by
  match m, h with
  | some (.inl (v, A, D)), h => exact Or.inl ⟨v, A, D, rfl, h⟩
  | some (.inr (e, A, D)), h => exact Or.inr ⟨e, A, D, rfl, (Option.some.inj h).symm⟩
/-- without power -/
def AX (N B gr : Nat) (A : MS) (C : CfT) : Prop := HwR N B 0 (hFl A.1) C ∧ Byt (cA C 15) ∧ (∀ r, r < gr * 40 → Byt (cR C 4 r)) ∧ RsR N C A.2.2.2.2.1 ∧ VwW N C A.2.2.2.2.2.1 A.2.2.2.2.2.2.1 ∧ cS C 2511 = (if A.2.2.2.2.2.2.2 then 1 else 0)
def SX (E : gE) (N B gr : Nat) (f0 : Nat → va_E) (A : MS) (D : CfT) (w : Nat → va_E) : Prop := ∃ C, CfV E w N B gr C ∧ Dq D C ∧ AX N B gr A C ∧ Fr CfK f0 w
theorem SX.fr {E : gE} {N B gr : Nat} {f0 f w : Nat → va_E} {A : MS} {D : CfT} (h : SX E N B gr f A D w) (hf : Fr CfK f0 f) : SX E N B gr f0 A D w := by
  obtain ⟨C, h1, h2, h3, h4⟩ := h
  exact ⟨C, h1, h2, h3, hf.tr h4 (fun _ h => h)⟩
theorem SN.fr {E : gE} {N B gr : Nat} {f0 f w : Nat → va_E} {A : MS} {D : CfT} (h : SN E N B gr f A D w) (hf : Fr CfK f0 f) : SN E N B gr f0 A D w := by
  obtain ⟨C, h1, h2, h3, h4⟩ := h
  exact ⟨C, h1, h2, h3, hf.tr h4 (fun _ h => h)⟩
/-- what is thrown: 0 without power, 1 not mounted, 2 a wrong argument, 3 no such thing -/
def exN : Nat → String
  | 0 => "java/lang/UnsupportedOperationException"
  | 1 => "java/lang/IllegalStateException"
  | 2 => "java/lang/IllegalArgumentException"
  | _ => "java/util/NoSuchElementException"
def SE (E : gE) (N B gr : Nat) (f0 : Nat → va_E) : Nat → MS → CfT → (Nat → va_E) → Prop
  | 0 => SX E N B gr f0
  | _ + 1 => SN E N B gr f0
theorem SE.fr {E : gE} {N B gr : Nat} {f0 f w : Nat → va_E} {e : Nat} {A : MS} {D : CfT} (h : SE E N B gr f e A D w) (hf : Fr CfK f0 f) : SE E N B gr f0 e A D w := by
  cases e with
  | zero => exact SX.fr h hf
  | succ e => exact SN.fr h hf
def FQ (E : gE) (N B gr : Nat) (f0 : Nat → va_E) {α : Type} (rv : α → Option Value) : FR α → gQ
  | .inl (r, A, D) => (fun v g => v = rv r ∧ SN E N B gr f0 A D g, fun _ _ => False)
  | .inr (e, A, D) => (fun _ _ => False, fun X g => X = exN e ∧ SE E N B gr f0 e A D g)
theorem FQ.ok {E : gE} {N B gr : Nat} {f0 g : Nat → va_E} {α : Type} {rv : α → Option Value} {r : α} {A : MS} {D : CfT} {v : Option Value} (h1 : v = rv r) (h2 : SN E N B gr f0 A D g) : (FQ E N B gr f0 rv (.inl (r, A, D))).1 v g := ⟨h1, h2⟩
theorem FQ.no {E : gE} {N B gr : Nat} {f0 g : Nat → va_E} {α : Type} {rv : α → Option Value} {A : MS} {D : CfT} {X : String} (h1 : X = "java/lang/UnsupportedOperationException") (h2 : SX E N B gr f0 A D g) : (FQ E N B gr f0 rv (.inr (0, A, D))).2 X g := ⟨h1, h2⟩
theorem FQ.th {E : gE} {N B gr : Nat} {f0 g : Nat → va_E} {α : Type} {rv : α → Option Value} {e : Nat} {A : MS} {D : CfT} {X : String} (h1 : X = exN (e + 1)) (h2 : SN E N B gr f0 A D g) : (FQ E N B gr f0 rv (.inr (e + 1, A, D))).2 X g := ⟨h1, h2⟩
theorem FQ.fr {E : gE} {N B gr : Nat} {f0 f g : Nat → va_E} {α β : Type} {rv : α → Option Value} {rw : β → Option Value} {e : Nat} {A : MS} {D : CfT} {X : String} (h : (FQ E N B gr f rv (.inr (e, A, D))).2 X g) (hf : Fr CfK f0 f) : (FQ E N B gr f0 rw (.inr (e, A, D))).2 X g := ⟨h.1, SE.fr h.2 hf⟩
variable {E : gE} {f : Nat → va_E} {N B gr : Nat} {C C' D : CfT} {A : MS}
/-- a step of hardware and log -/
theorem AR.hl {hw : Hw} {L : List En} {tu : Int32} (h : AR N B gr A C) (hs : Sm [0, 1] C C') (h1 : HwR N B 1 hw C') (h2 : HOk N B hw) (h3 : LgR N C' L tu) (h4 : LgD hw L) : AR N B gr (hw, L, tu, A.2.2.2) C' := by
  obtain ⟨-, -, -, -, ⟨en, h5⟩, h6, h7, h8, h9⟩ := h
  refine ⟨h1, h2, h3, h4, ⟨en, h5.smL hs (by decide)⟩, fun r hr => ?_, h7.sm (hs.1 1711 (by decide)) (hs.1 1712 (by decide)) (hs.2.1 23 (by decide)) (hs.2.1 24 (by decide)), h8.sm (hs.2.1 27 (by decide)) (hs.2.1 28 (by decide)) (fun b => congrFun (hs.2.2 2 (by decide)) b), (hs.1 2511 (by decide)).trans h9⟩
  have e : cR C' 4 r = cR C 4 r := congrFun (hs.2.2 4 (by decide)) r
  rw [e]
  exact h6 r hr
theorem AR.dk {hw : Hw} (h : AR N B gr A C) (hs : SmQ C C') (h1 : HwR N B 0 (hFl hw) C') (hb : Byt (cA C' 15)) : AX N B gr (hw, A.2) C' := by
  obtain ⟨-, -, -, -, ⟨en, h5⟩, h6, h7, h8, h9⟩ := h
  refine ⟨h1, hb, fun r hr => ?_, h7.smq hs, h8.sm (hs.2.1 27 (by decide) (by decide)) (hs.2.1 28 (by decide) (by decide)) (fun b => congrFun (hs.2.2 2 (by decide)) b), (hs.1 2511 (by decide) (by decide)).trans h9⟩
  have e : cR C' 4 r = cR C 4 r := congrFun (hs.2.2 4 (by decide)) r
  rw [e]
  exact h6 r hr
theorem Dq.q (h : Dq D C) (hs : SmQ C C') : Dq D C' := by
  have a : ∀ m, m ∉ [0, 1, 2, 3] → m ∉ [0, 1] := fun m q z => q (by rcases List.mem_cons.mp z with rfl | z; exact List.mem_cons_self; rcases List.mem_cons.mp z with rfl | z; decide; cases z)
  refine h.n (fun j q => hs.1 j ?_ ?_) (fun k q => hs.2.1 k ?_ ?_)
  · rcases q with q | rfl
    · exact a _ q
    · decide
  · rcases q with q | rfl
    · exact fun e => q (by rw [e]; decide)
    · decide
  · rcases q with q | rfl
    · exact a _ q
    · decide
  · rcases q with q | rfl
    · exact fun e => q (by rw [e]; decide)
    · decide
/-- flushAll -/
def fFl (N B gr : Nat) (A : MS) (D : CfT) : Option (FR Int32) := if hSp A.1 + 100 * A.2.2.2.1.length + 200 < 2 ^ 31 then
    if (mFl N B A.2.2.2.1.length A.2.2.2.1 (A.1, A.2.1, A.2.2.1)).1 = true then some (.inl (nI A.2.2.2.1.length, ((mFl N B A.2.2.2.1.length A.2.2.2.1 (A.1, A.2.1, A.2.2.1)).2.1, (mFl N B A.2.2.2.1.length A.2.2.2.1 (A.1, A.2.1, A.2.2.1)).2.2.1, (mFl N B A.2.2.2.1.length A.2.2.2.1 (A.1, A.2.1, A.2.2.1)).2.2.2, [], (fun b => if A.2.2.2.2.1 b = 1 then 0 else A.2.2.2.2.1 b), A.2.2.2.2.2), D))
    else some (.inr (0, ((mFl N B A.2.2.2.1.length A.2.2.2.1 (A.1, A.2.1, A.2.2.1)).2.1, A.2), D))
  else none
theorem k_X9_flushAll (E : gE) (f : Nat → va_E) (N B gr : Nat) (C D : CfT) (A : MS) (hz : CfZ E N B gr) (h : CfV E f N B gr C) (hD : Dq D C) (hA : AR N B gr A C) (r : FR Int32) (hr : fFl N B gr A D = some r) : Ct E 10 yX9_flushAll cX9_flushAll 3 (some .int) [.ref (gAd E (17))] f (FQ E N B gr f (fun r => some (.int r)) r) := by
  obtain ⟨h1, h2, h3, h4, ⟨en, h5⟩, h6, h7, h8, h9⟩ := id hA
  unfold fFl at hr
  split at hr
  · next hsp =>
    have q := r_flushAll E f N B gr C hz h A.1 h1 h2 A.2.1 A.2.2.1 h3 h4 A.2.2.2.1 en h5 A.2.2.2.2.1 h7 hsp
    split at hr
    · next ho =>
      cases hr
      refine q.mono (fun v g q => ?_) (fun X g q => absurd (ho.symm.trans q.2.1) (by decide))
      obtain ⟨e, -, ⟨C1, c1, c2, c3, c4, c5, c6, c7, c8, c9⟩, fr⟩ := q
      refine FQ.ok e ⟨C1, c1, hD.sm c8 (by decide), ⟨c2, c5, c3, c4, ⟨_, c6⟩, fun r hr => ?_, c7, h8.sm (c8.2.1 27 (by decide)) (c8.2.1 28 (by decide)) (fun b => congrFun (c8.2.2 2 (by decide)) b), (c8.1 2511 (by decide)).trans h9⟩, fr⟩
      have e : cR C1 4 r = cR C 4 r := congrFun c9 r
      rw [e]
      exact h6 r hr
    · next ho =>
      cases hr
      refine q.mono (fun v g q => absurd q.2.1 ho) (fun X g q => ?_)
      obtain ⟨e, -, ⟨C1, c1, c2, c3, c4⟩, fr⟩ := q
      exact FQ.no e ⟨C1, c1, hD.q c4, hA.dk c4 c2 c3, fr⟩
  · cases hr
/-- applyAll -/
def fAp (N B gr : Nat) (A : MS) (D : CfT) : Option (FR Unit) := if hSp A.1 + 100 < 2 ^ 31 then
    if (aApl N B A.2.1 A.2.2.1 A.1).1 = true then some (.inl ((), ((aApl N B A.2.1 A.2.2.1 A.1).2, (lApl A.2.1 A.2.2.1).1, (lApl A.2.1 A.2.2.1).2, A.2.2.2), D))
    else some (.inr (0, ((aApl N B A.2.1 A.2.2.1 A.1).2, A.2), D))
  else none
theorem k_X6_applyAll (E : gE) (f : Nat → va_E) (N B gr : Nat) (C D : CfT) (A : MS) (hz : CfZ E N B gr) (h : CfV E f N B gr C) (hD : Dq D C) (hA : AR N B gr A C) (r : FR Unit) (hr : fAp N B gr A D = some r) : Ct E 9 yX6_applyAll cX6_applyAll 3 none [.ref (gAd E (13))] f (FQ E N B gr f (fun _ => none) r) := by
  obtain ⟨z1, z2, z3, z4, z5, z6, z7⟩ := id hz
  obtain ⟨h1, h2, h3, h4, ⟨en, h5⟩, h6, h7, h8, h9⟩ := id hA
  unfold fAp at hr
  split at hr
  · next hsp =>
    have q := r_applyAll E f N B gr C hz h A.1 h1 h2 hsp A.2.1 A.2.2.1 h3 h4
    obtain ⟨a1, a2, a3, a4⟩ := aApl_all (N := N) (B := B) (by omega) (tu := A.2.2.1) h2 h4
    split at hr
    · next ho =>
      cases hr
      refine q.mono (fun v g q => ?_) (fun X g q => absurd (ho.symm.trans q.2.1) (by decide))
      obtain ⟨e, -, ⟨C1, c1, c2, c3, c4⟩, fr⟩ := q
      exact FQ.ok e ⟨C1, c1, hD.sm c4 (by decide), hA.hl c4 c2 a1 c3 a3, fr⟩
    · next ho =>
      cases hr
      refine q.mono (fun v g q => absurd q.2.1 ho) (fun X g q => ?_)
      obtain ⟨e, -, ⟨C1, c1, c2, c4, c3⟩, fr⟩ := q
      exact FQ.no e ⟨C1, c1, hD.q c4.q, hA.dk c4.q c2 c3, fr⟩
  · cases hr
end DCF
