/-! ===== the reference's buffer and what it stands for ===== -/
section MDE
abbrev lI (n : Nat) : Int64 := Int64.ofNat n
theorem lI_lt {a b : Nat} (ha : a < 2 ^ 31) (hb : b < 2 ^ 31) : lI a < lI b ↔ a < b := Int64.ofNat_lt_iff_lt (by omega) (by omega)
/-- block u in the reference's buffer and in the model's -/
def Br (A39 A15 A17 : Nat → Int32) (LW : Nat → Int64) (hd : Nat) (bf : Nat → Option (Nat × Rw)) (u : Nat) : Prop := (A39 u = -1 ∧ bf u = none) ∨ ∃ k q, k < hd ∧ A39 u = nI k ∧ A15 k = nI u ∧ LW k = lI q ∧ bf u = some (q, nr (fl A17 k))
def RBf (N : Nat) (b0 : Bf0) (R : RfT) : Prop := rWh R = lI b0.2.2.1 ∧ rS R 20 = b0.2.2.2 ∧ (∀ u, u < N → Br (rA R 39) (rA R 15) (rA R 17) (rLW R) b0.2.1 b0.1 u) ∧ ∀ k, k < b0.2.1 → ∃ u, u < N ∧ rA R 15 k = nI u ∧ rA R 39 u = nI k
theorem rOld_min (LW : Nat → Int64) : ∀ j i, i ≤ j → ¬ LW i < LW (rOld LW j)
  | 0, i, h => by
    have e : i = 0 := by omega
    rw [e]
    exact Int64.lt_irrefl
  | j + 1, i, h => by
    unfold rOld
    by_cases c : 0 ≤ lg_cmp (LW (j + 1)) (LW (rOld LW j))
    · rw [if_pos c]
      have c := (lg_cmp_ge _ _).mp c
      by_cases e : i = j + 1
      · rw [e]
        exact Int64.not_lt.mpr c
      · exact rOld_min LW j i (by omega)
    · rw [if_neg c]
      have c : LW (j + 1) < LW (rOld LW j) := Int64.not_le.mp (fun z => c ((lg_cmp_ge _ _).mpr z))
      by_cases e : i = j + 1
      · rw [e]
        exact Int64.lt_irrefl
      · exact fun z => rOld_min LW j i (by omega) (Int64.lt_trans z c)
theorem RBf.wrt {N : Nat} {b0 : Bf0} {R : RfT} {wf w b t q : Nat} (h : RBf N b0 R) : RBf N b0 (rWrt R wf w b t q) := by
  obtain ⟨h1, h2, h3, h4⟩ := h
  have e39 : rA (rWrt R wf w b t q) 39 = rA R 39 := rWrt_A (by decide) (by decide) (by decide) (by decide)
  have e15 : rA (rWrt R wf w b t q) 15 = rA R 15 := rWrt_A (by decide) (by decide) (by decide) (by decide)
  have e17 : rA (rWrt R wf w b t q) 17 = rA R 17 := rWrt_A (by decide) (by decide) (by decide) (by decide)
  have e20 : rS (rWrt R wf w b t q) 20 = rS R 20 := rWrt_S (by decide) (by decide) (by decide) (by decide)
  obtain ⟨e1, e2⟩ := rWrt_LW (R := R) (wf := wf) (w := w) (b := b) (t := t) (q := q)
  refine ⟨by rw [e2]; exact h1, by rw [e20]; exact h2, ?_, ?_⟩
  · rw [e39, e15, e17, e1]
    exact h3
  · rw [e15, e39]
    exact h4
theorem RBf.lv {N : Nat} {bf : Nat → Option (Nat × Rw)} {hd sp : Nat} {pu : Int32} {R : RfT} {k b b2 : Nat} (hN : N ≤ 1024) (hh : hd ≤ 64) (h : RBf N (bf, hd, sp, pu) R) (hk : k < hd) (hb : rA R 15 k = nI b) (hbN : b < N) (h2 : rA R 15 (hd - 1) = nI b2) (hb2 : b2 < N) : RBf N (bSet bf b none, hd - 1, sp, pu) (rLv R hd k b b2) := by
  obtain ⟨w1, w2, w3, w4⟩ := h
  have w3 : ∀ u, u < N → Br (rA R 39) (rA R 15) (rA R 17) (rLW R) hd bf u := w3
  have w4 : ∀ k, k < hd → ∃ u, u < N ∧ rA R 15 k = nI u ∧ rA R 39 u = nI k := w4
  have e39 : rA R 39 b = nI k := by
    obtain ⟨u, hu, e1, e2⟩ := w4 k hk
    rw [hb] at e1
    rw [nI_inj (by omega) (by omega) e1]
    exact e2
  have e392 : rA R 39 b2 = nI (hd - 1) := by
    obtain ⟨u, hu, e1, e2⟩ := w4 (hd - 1) (by omega)
    rw [h2] at e1
    rw [nI_inj (by omega) (by omega) e1]
    exact e2
  unfold rLv
  by_cases c : k < hd - 1
  · rw [if_pos c]
    have hne : b2 ≠ b := by
      rintro rfl
      have := nI_inj (by omega) (by omega) (e39.symm.trans e392)
      omega
    refine ⟨w1, w2, ?_, ?_⟩
    · intro u hu
      show Br (upd (upd (rA R 39) b (-1)) b2 (nI k)) (upd (rA R 15) k (nI b2)) (va_cpy (rA R 17) (rA R 17) (128 * (hd - 1)) (128 * k) 128) (vp_updL (rLW R) k (rLW R (hd - 1))) (hd - 1) (bSet bf b none) u
      by_cases c1 : u = b
      · subst c1
        exact Or.inl ⟨by rw [pk_un (fun z => hne z.symm)]; exact pk_us, bSet_e⟩
      · by_cases c2 : u = b2
        · subst c2
          rcases w3 u hu with ⟨q1, q2⟩ | ⟨m, q, q1, q2, q3, q4, q5⟩
          · exact absurd (e392.symm.trans q1) (nI_m1 (by omega))
          · have em : m = hd - 1 := nI_inj (by omega) (by omega) (q2.symm.trans e392)
            subst em
            refine Or.inr ⟨k, q, c, pk_us, pk_us, by rw [pk_uLs]; exact q4, ?_⟩
            rw [bSet_n c1, fl_in]
            exact q5
        · rcases w3 u hu with ⟨q1, q2⟩ | ⟨m, q, q1, q2, q3, q4, q5⟩
          · exact Or.inl ⟨by rw [pk_un c2, pk_un c1]; exact q1, by rw [bSet_n c1]; exact q2⟩
          · have m1 : m ≠ k := by
              rintro rfl
              rw [hb] at q3
              exact c1 (nI_inj (by omega) (by omega) q3).symm
            have m2 : m ≠ hd - 1 := by
              rintro rfl
              rw [h2] at q3
              exact c2 (nI_inj (by omega) (by omega) q3).symm
            refine Or.inr ⟨m, q, by omega, by rw [pk_un c2, pk_un c1]; exact q2, by rw [pk_un m1]; exact q3, by rw [pk_uLn m1]; exact q4, ?_⟩
            rw [bSet_n c1, fl_out m1]
            exact q5
    · intro m hm
      have hm : m < hd - 1 := hm
      show ∃ u, u < N ∧ upd (rA R 15) k (nI b2) m = nI u ∧ upd (upd (rA R 39) b (-1)) b2 (nI k) u = nI m
      by_cases c1 : m = k
      · rw [c1]
        exact ⟨b2, hb2, pk_us, pk_us⟩
      · obtain ⟨u, hu, e1, e2⟩ := w4 m (by omega)
        have u1 : u ≠ b := by
          rintro rfl
          exact c1 (nI_inj (by omega) (by omega) (e2.symm.trans e39))
        have u2 : u ≠ b2 := by
          rintro rfl
          have := nI_inj (by omega) (by omega) (e2.symm.trans e392)
          omega
        exact ⟨u, hu, by rw [pk_un c1]; exact e1, by rw [pk_un u2, pk_un u1]; exact e2⟩
  · rw [if_neg c]
    have ek : k = hd - 1 := by omega
    refine ⟨w1, w2, ?_, ?_⟩
    · intro u hu
      show Br (upd (rA R 39) b (-1)) (rA R 15) (rA R 17) (rLW R) (hd - 1) (bSet bf b none) u
      by_cases c1 : u = b
      · subst c1
        exact Or.inl ⟨pk_us, bSet_e⟩
      · rcases w3 u hu with ⟨q1, q2⟩ | ⟨m, q, q1, q2, q3, q4, q5⟩
        · exact Or.inl ⟨by rw [pk_un c1]; exact q1, by rw [bSet_n c1]; exact q2⟩
        · have m1 : m ≠ k := by
            rintro rfl
            rw [hb] at q3
            exact c1 (nI_inj (by omega) (by omega) q3).symm
          exact Or.inr ⟨m, q, by omega, by rw [pk_un c1]; exact q2, q3, q4, by rw [bSet_n c1]; exact q5⟩
    · intro m hm
      have hm : m < hd - 1 := hm
      obtain ⟨u, hu, e1, e2⟩ := w4 m (by omega)
      have u1 : u ≠ b := by
        rintro rfl
        have := nI_inj (by omega) (by omega) (e2.symm.trans e39)
        omega
      exact ⟨u, hu, e1, by show upd (rA R 39) b (-1) u = nI m; rw [pk_un u1]; exact e2⟩
/-- a value comes to place k: a new one behind the last, or the place that the block has -/
theorem RBf.hn {N : Nat} {bf : Nat → Option (Nat × Rw)} {hd hd' sp : Nat} {pu : Int32} {R : RfT} {k t j a : Nat} {x : Rw} (hN : N ≤ 1024) (hh : hd ≤ 64) (h : RBf N (bf, hd, sp, pu) R) (ht : t < N) (hk : (k = hd ∧ hd' = hd + 1 ∧ bf t = none) ∨ (k < hd ∧ hd' = hd ∧ rA R 39 t = nI k)) (hx : nr (fun i => rA R j (a + i)) = x) :
    RBf N (bSet bf t (some (sp, x)), hd', sp + 1, pu) (rHn R k t j a) := by
  obtain ⟨w1, w2, w3, w4⟩ := h
  have w3 : ∀ u, u < N → Br (rA R 39) (rA R 15) (rA R 17) (rLW R) hd bf u := w3
  have w4 : ∀ k, k < hd → ∃ u, u < N ∧ rA R 15 k = nI u ∧ rA R 39 u = nI k := w4
  have hap : ∀ u m, u < N → u ≠ t → m < hd → rA R 39 u = nI m → rA R 15 m = nI u → m ≠ k := by
    intro u m hu hut hm e1 e2 z
    rcases hk with ⟨h1, -, -⟩ | ⟨h1, -, h3⟩
    · omega
    · obtain ⟨v, hv, f1, f2⟩ := w4 k h1
      rw [z] at e2
      rw [e2] at f1
      have e3 := nI_inj (by omega) (by omega) f1
      rcases w3 t ht with ⟨q1, q2⟩ | ⟨m', q, q1, q2, q3, q4, q5⟩
      · exact nI_m1 (by omega) (h3.symm.trans q1)
      · have : m' = k := nI_inj (by omega) (by omega) (q2.symm.trans h3)
        rw [this, e2] at q3
        exact hut (nI_inj (by omega) (by omega) q3)
  refine ⟨?_, w2, ?_, ?_⟩
  · show rWh R + 1 = lI (sp + 1)
    rw [w1]
    exact (Int64.ofNat_add sp 1).symm
  · intro u hu
    show Br (upd (rA R 39) t (nI k)) (upd (rA R 15) k (nI t)) (va_cpy (rA R j) (rA R 17) a (128 * k) 128) (vp_updL (rLW R) k (rWh R)) hd' (bSet bf t (some (sp, x))) u
    by_cases c1 : u = t
    · subst c1
      refine Or.inr ⟨k, sp, by rcases hk with ⟨h1, h2, -⟩ | ⟨h1, h2, -⟩ <;> omega, pk_us, pk_us, by rw [pk_uLs]; exact w1, ?_⟩
      rw [bSet_e, fl_in, hx]
    · rcases w3 u hu with ⟨q1, q2⟩ | ⟨m, q, q1, q2, q3, q4, q5⟩
      · exact Or.inl ⟨by rw [pk_un c1]; exact q1, by rw [bSet_n c1]; exact q2⟩
      · have m1 := hap u m hu c1 q1 q2 q3
        refine Or.inr ⟨m, q, by rcases hk with ⟨h1, h2, -⟩ | ⟨h1, h2, -⟩ <;> omega, by rw [pk_un c1]; exact q2, by rw [pk_un m1]; exact q3, by rw [pk_uLn m1]; exact q4, ?_⟩
        rw [bSet_n c1, fl_out m1]
        exact q5
  · intro m hm
    have hm : m < hd' := hm
    show ∃ u, u < N ∧ upd (rA R 15) k (nI t) m = nI u ∧ upd (rA R 39) t (nI k) u = nI m
    by_cases c1 : m = k
    · rw [c1]
      exact ⟨t, ht, pk_us, pk_us⟩
    · obtain ⟨u, hu, e1, e2⟩ := w4 m (by rcases hk with ⟨h1, h2, -⟩ | ⟨h1, h2, -⟩ <;> omega)
      have u1 : u ≠ t := by
        rintro rfl
        rcases hk with ⟨h1, h2, h3⟩ | ⟨h1, h2, h3⟩
        · rcases w3 u hu with ⟨q1, q2⟩ | ⟨m', q, q1, q2, q3, q4, q5⟩
          · exact nI_m1 (by omega) (e2.symm.trans q1)
          · rw [h3] at q5
            cases q5
        · exact c1 (nI_inj (by omega) (by omega) (e2.symm.trans h3))
      exact ⟨u, hu, by rw [pk_un c1]; exact e1, by rw [pk_un u1]; exact e2⟩
/-- reference and model, hardware, the power being on -/
def RH (N B : Nat) (h : Hw) (R : RfT) : Prop := ∃ wf w, RDk N h.1 R wf w ∧ RBf N h.2.1 R ∧ rDb R wf w B h.2.1.2.1 ∧ BsOk N h.2.1 ∧ h.2.1.2.2.1 < 2 ^ 31 ∧ rS R 12 = h.2.2.1 ∧ rS R 13 = h.2.2.2.1 ∧ rS R 14 = h.2.2.2.2 ∧ rS R 11 = 1
theorem on1 {R : RfT} (h : rS R 11 = 1) : ¬ rS R 11 = 0 := by
  rw [h]
  decide
end MDE
