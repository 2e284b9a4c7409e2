/-! ===== pure: a call begins and ends ===== -/
section PXF
variable {N B gr r u : Nat} {V : Nat → Rw} {m : M5} {tk : Nat → Bool} {ow : Nat → Int} {s0 : S3} {l : List Nat} {A : MS} {D : CfT} {R R' : RfT} {g : Bool} {hd hi : Nat → Nat} {tp : Nat → Int32} {tl : Nat}
theorem RY.fr {S T : List Nat} (h : RY N B gr R m V tk) (f : Fn S T R R') (hS : ∀ j, j ∈ [1, 2, 3, 9, 10, 11, 12, 13, 14, 18, 20, 22, 25, 29, 33] → j ∉ S) (hT : ∀ k, k ∈ [6, 7, 8, 15, 17, 23, 24, 26, 27, 28, 30, 31, 32, 35, 36, 37, 38, 39, 40, 44, 46, 48] → k ∉ T) : RY N B gr R' m V tk := by
  have w := wOw_fq f.1 (hT 31 (by decide)) (hT 32 (by decide)) (hT 36 (by decide))
  refine ⟨⟨h.1.1.fn f (h.1.1.wk.fq f.1 (hS 33 (by decide)) (hT 30 (by decide)) (hT 31 (by decide)) (hT 32 (by decide)) (hT 36 (by decide)) (fun k hk => hT k (by revert hk; revert k; decide))) (fun j hj => hS j (by revert hj; revert j; decide)) (fun k hk => hT k (by revert hk; revert k; decide)), fun c hc0 hc => ?_⟩, fun c hc hne => ?_, h.2.2⟩
  · rw [rSee_fq f.1 (fun k hk => hT k (by revert hk; revert k; decide)), w.2]
    exact h.1.2 c hc0 hc
  · rw [w.1] at hne
    exact h.2.1 c hc hne
theorem OwR.fr {S T : List Nat} {P : Nat → Prop} (h : OwR R P) (f : Fn S T R R') (h36 : 36 ∉ T) : OwR R' P := h.fq f.1 h36
theorem j_nm (hN : N ≤ 1024) (h : JX N B gr A D R m V tk) (h34 : rS R 34 = bI g) (h21 : rS R 21 = 1) (hng : g = false → (∀ b, 43 ≤ b → b < N → V b = befM m b) ∧ ∀ b, tk b = false) : ∃ R', e_notMounted R = some (0, R') ∧ JX N B gr A D R' m V tk ∧ rS R' 0 = 0 ∧ (∀ c, c < 1024 → rA R' 49 c = 0) ∧ Fn [0, 33] [36, 49] R R' ∧ (∀ P : Nat → Prop, OwR R P → OwR R' P) ∧ (g = false → ∀ c, c < 1024 → wOw R' c = none) := by
  obtain ⟨R1, e1, f1, z1⟩ := z_nm_l (R := R) fuL 0 R (by decide) (by rw [fuL_4]; omega) Fn.rf (fun c hc => absurd hc (Nat.not_lt_zero _))
  have y1 : RY N B gr R1 m V tk := h.2.fr f1 (by decide) (by decide)
  have fin : ∀ R2 : RfT, RY N B gr R2 m V tk → Fn [33] [36] R1 R2 → (∀ P : Nat → Prop, OwR R1 P → OwR R2 P) → (g = false → ∀ c, c < 1024 → wOw R2 c = none) → ∃ R', bnd2 (e_refuse R2 0 1) (fun v46 R46 => rtZ v46 (some (v46, R46))) = some (0, R') ∧ JX N B gr A D R' m V tk ∧ rS R' 0 = 0 ∧ (∀ c, c < 1024 → rA R' 49 c = 0) ∧ Fn [0, 33] [36, 49] R R' ∧ (∀ P : Nat → Prop, OwR R P → OwR R' P) ∧ (g = false → ∀ c, c < 1024 → wOw R' c = none) := fun R2 y2 f2 o2 w2 => by
    have f3 : Fn [0] [] R2 (setS R2 0 0) := Fn.s (by decide)
    refine ⟨setS R2 0 0, rfl, ⟨h.1, y2.fr f3 (by decide) (by decide)⟩, pk_us (f := R2.1) (k := 0), fun c hc => ?_, ((f1.wk (by decide) (by decide)).tr (f2.wk (by decide) (by decide))).tr (f3.wk (by decide) (by decide)), fun P p => (o2 P (p.fr f1 (by decide))).fr f3 (by decide), w2⟩
    rw [f3.1.2.1 49 (by decide), f2.1.2.1 49 (by decide)]
    exact z1 c hc
  rw [e_notMounted, show (0 : Int32) = nI 0 from rfl, e1, e_notMounted_2, if_pos (show (1024 : Int32) ≤ nI 1024 from nI_le (a := 1024) (b := 1024) (by decide) (by decide))]
  have s34 : rS R1 34 = bI g := by rw [f1.1.1 34 (by decide)]; exact h34
  have s21 : rS R1 21 = 1 := by rw [f1.1.1 21 (by decide)]; exact h21
  cases g with
  | true =>
    rw [if_neg (by rw [s34]; decide), if_neg (by rw [s21]; decide)]
    exact fin R1 y1 Fn.rf (fun P p => p) (fun z => by cases z)
  | false =>
    obtain ⟨n1, n2⟩ := hng rfl
    obtain ⟨R2, e2, x2, f2, s2⟩ := z_noWorks hN y1.1
    have y2 : RX N B gr R2 m V tk := ⟨x2.1, fun c c0 c1 => by
      rw [n1 c c0 c1, n2 c]
      exact x2.2 c c0 c1⟩
    have own0 : ∀ c, c < 1024 → wOw R2 c = none := fun c hc => Classical.byContradiction (fun hne => by
      obtain ⟨n, m1, m2, m3, m4, m5, m6⟩ := id x2.1.wk
      unfold wOw at hne
      by_cases q : rA R2 36 c = -1
      · rw [if_pos q] at hne
        exact hne rfl
      · rcases m4 c hc with w | ⟨k, k1, k2⟩
        · exact q w
        · rw [s2] at m2
          have := nI_inj (a := 0) (b := n) (by decide) (by omega) m2
          omega)
    rw [if_pos (by rw [s34]; rfl), bnd_o e2, if_neg (by rw [f2.1.1 21 (by decide), s21]; decide)]
    exact fin R2 ⟨y2, fun c hc hne => absurd (own0 c hc) hne, y1.2.2⟩ f2 (fun P p c hc hne => absurd (own0 c hc) hne) (fun _ => own0)
end PXF
