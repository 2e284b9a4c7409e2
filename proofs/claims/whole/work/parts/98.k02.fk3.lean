/-! ===== whole arrays ===== -/
section DCH
theorem Dq.aF {D C : CfT} {k : Nat} (F : (Nat → Int32) → Nat → Int32) (h : Dq D C) (hk : md k ∉ [0, 1, 2, 3] ∨ k = 29) : Dq (sA D k (F (cA D k))) (sA C k (F (cA C k))) := by
  have e : cA C k = cA D k := h.2 k hk
  rw [e]
  exact h.aa
def flD {α : Type} (D : CfT) (k n : Nat) (x : Int32) (K : CfT → Option α) : Option α := K (sA D k (flt (cA D k) 0 n x))
theorem flD_s {α : Type} {D : CfT} {k n : Nat} {x : Int32} {K : CfT → Option α} {r : α} (h : flD D k n x K = some r) : ∃ D2, D2 = sA D k (flt (cA D k) 0 n x) ∧ K D2 = some r := ⟨_, rfl, h⟩
def frD {α : Type} (D : CfT) (k n : Nat) (a z x : Int32) (K : CfT → Option α) : Option α := if a < 0 ∨ z < 0 ∨ z.toNatClampNeg < a.toNatClampNeg ∨ n < z.toNatClampNeg then none else K (sA D k (flt (cA D k) a.toNatClampNeg z.toNatClampNeg x))
theorem frD_s {α : Type} {D : CfT} {k n : Nat} {a z x : Int32} {K : CfT → Option α} {r : α} (h : frD D k n a z x K = some r) : ∃ D2, a = nI a.toNatClampNeg ∧ z = nI z.toNatClampNeg ∧ a.toNatClampNeg ≤ z.toNatClampNeg ∧ z.toNatClampNeg ≤ n ∧ D2 = sA D k (flt (cA D k) a.toNatClampNeg z.toNatClampNeg x) ∧ K D2 = some r := by
  unfold frD at h
  split at h
  · cases h
  · next q =>
    have i1 : ¬ a < 0 := fun z => q (Or.inl z)
    have i2 : ¬ z < 0 := fun z => q (Or.inr (Or.inl z))
    have i3 : ¬ z.toNatClampNeg < a.toNatClampNeg := fun z => q (Or.inr (Or.inr (Or.inl z)))
    have i4 : ¬ n < z.toNatClampNeg := fun z => q (Or.inr (Or.inr (Or.inr z)))
    exact ⟨_, nI_cl i1, nI_cl i2, by omega, by omega, rfl, h⟩
def cpD {α : Type} (D : CfT) (k nd : Nat) (g : Nat → Int32) (ns : Nat) (sp dp n : Int32) (K : CfT → Option α) : Option α := if sp < 0 ∨ dp < 0 ∨ n < 0 ∨ ns < sp.toNatClampNeg + n.toNatClampNeg ∨ nd < dp.toNatClampNeg + n.toNatClampNeg then none else K (sA D k (va_cpy g (cA D k) sp.toNatClampNeg dp.toNatClampNeg n.toNatClampNeg))
theorem cpD_s {α : Type} {D : CfT} {k nd : Nat} {g : Nat → Int32} {ns : Nat} {sp dp n : Int32} {K : CfT → Option α} {r : α} (h : cpD D k nd g ns sp dp n K = some r) : ∃ D2, ¬ sp < 0 ∧ ¬ dp < 0 ∧ ¬ n < 0 ∧ sp.toNatClampNeg + n.toNatClampNeg ≤ ns ∧ dp.toNatClampNeg + n.toNatClampNeg ≤ nd ∧ D2 = sA D k (va_cpy g (cA D k) sp.toNatClampNeg dp.toNatClampNeg n.toNatClampNeg) ∧ K D2 = some r := by
  unfold cpD at h
  split at h
  · cases h
  · next q =>
    have i4 : ¬ ns < sp.toNatClampNeg + n.toNatClampNeg := fun z => q (Or.inr (Or.inr (Or.inr (Or.inl z))))
    have i5 : ¬ nd < dp.toNatClampNeg + n.toNatClampNeg := fun z => q (Or.inr (Or.inr (Or.inr (Or.inr z))))
    exact ⟨_, fun z => q (Or.inl z), fun z => q (Or.inr (Or.inl z)), fun z => q (Or.inr (Or.inr (Or.inl z))), by omega, by omega, rfl, h⟩
theorem cpy_c {x y c : Nat → Int32} {m sp dp n : Nat} (h : ∀ i, i < m → x i = y i) (hs : sp + n ≤ m) : va_cpy x c sp dp n = va_cpy y c sp dp n := by
  funext i
  unfold va_cpy
  split
  · exact h _ (by omega)
  · rfl
theorem nr_lt {x y : Nat → Int32} (h : nr x = y) : ∀ i, i < 128 → x i = y i := fun i hi => by
  rw [← h]
  exact (if_pos hi).symm
theorem nr_cpyG {g c : Nat → Int32} {sp dp n : Nat} : nr (va_cpy g c sp dp n) = nr (va_cpy g (nr c) sp dp n) := by
  funext j
  unfold nr va_cpy
  by_cases q : j < 128
  · rw [if_pos q, if_pos q]
    split
    · rfl
    · exact (if_pos q).symm
  · rw [if_neg q, if_neg q]
noncomputable def cpO (N : Nat) (A : MS) (t : Nat) (g : Nat → Int32) (ns : Nat) (sp dp n : Int32) : Option MS := gd (Byt g) (rwO N A t (fun y => if sp < 0 ∨ dp < 0 ∨ n < 0 ∨ ns < sp.toNatClampNeg + n.toNatClampNeg ∨ 128 < dp.toNatClampNeg + n.toNatClampNeg then none else some (va_cpy g y sp.toNatClampNeg dp.toNatClampNeg n.toNatClampNeg)))
variable {E : gE} {f : Nat → va_E} {N B gr : Nat} {C D : CfT} {A : MS}
theorem G.cpO {K : gM} {cc : ByteArray} {Q : gU} {pc : Nat} {lv : List (Nat × Value)} {st : List Value} {f0 : Nat → va_E} {t : Nat} {ns k0 : Nat} {g : Nat → Int32} {sp dp n : Int32} {A' : MS} {idx : Nat} (hz : CfZ E N B gr) (h : CfV E f N B gr C) (hD : Dq D C) (hA : AR N B gr A C) (hf : Fr CfK f0 f) (hk0 : k0 < gN E) (he0 : f k0 = oB (gDA E) ns g) (hr : cpO N A t g ns sp dp n = some A') (hw : Cond.methodLink K.2.1.cls idx arraycopyName ∈ TB) (hnat : Cond.native arraycopyName ∈ TB) (hsta : Cond.static arraycopyName ∈ TB) (hini : Cond.initialized "java/lang/System" ∈ TB) (hfr : 1 ≤ Q.1.frames) (hlo : (st.map fun v => v.category).sum + (nativeFrameWords "java/lang/System" "arraycopy" 5 + 11) ≤ Q.1.locals) (d : decode cc pc = .ok (.invokestatic idx, 3)) (kk : ∀ u, SN E N B gr f0 A' D u → G E K cc Q (pc + 3) lv st u) : G E K cc Q pc lv (.int n :: .int dp :: .ref (gAd E (350 + N + t)) :: .int sp :: .ref (gAd E k0) :: st) f := by
  obtain ⟨z1, z2, z3, z4, z5, z6, z7⟩ := id hz
  obtain ⟨hb, hr⟩ := gd_s hr
  obtain ⟨ht, y, z, hg, hy, rfl⟩ := rwO_s hr
  obtain ⟨e1, e2⟩ := hA.ow ht hg
  split at hy
  · cases hy
  · next q =>
    cases hy
    have i4 : ¬ ns < sp.toNatClampNeg + n.toNatClampNeg := fun z => q (Or.inr (Or.inr (Or.inr (Or.inl z))))
    have i5 : ¬ 128 < dp.toNatClampNeg + n.toNatClampNeg := fun z => q (Or.inr (Or.inr (Or.inr (Or.inr z))))
    refine G.copyB k0 (350 + N + t) hk0 he0 (by omega) (h.r2 t ht) hw hnat hsta hini (fun z => q (Or.inl z)) (fun z => q (Or.inr (Or.inl z))) (fun z => q (Or.inr (Or.inr (Or.inl z)))) (by omega) (by omega) (fun i _ => hb _) hfr hlo d (kk _ ?_)
    have q := SN.own (f0 := f0) hz h hD hA hf ht hg (x := va_cpy g (cR C 2 t) sp.toNatClampNeg dp.toNatClampNeg n.toNatClampNeg) (hb.cpy e1)
    rw [nr_cpyG, e2] at q
    exact q
end DCH
