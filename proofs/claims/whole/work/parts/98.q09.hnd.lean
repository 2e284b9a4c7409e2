/-! ===== pure: handles inside a call ===== -/
section PYI
variable {N B gr r u : Nat} {V W : Nat → Rw} {m m' : M5} {tk tk' : Nat → Bool} {A A' : MS} {D D' D2 : CfT} {R R' : RfT} {g : Bool} {hd hi hd' hi' : Nat → Nat} {tp : Nat → Int32} {tl : Nat} {ow : Nat → Int} {ex : Nat → Int32} {s0 : S3} {l : List Nat} {i k t : Nat}
/-- D and R change where no row of the disk is -/
theorem WK.fr {S T : List Nat} (h : WK N B gr r s0 l A D R m V tk ow) (e1 : cS D' 2508 = cS D 2508) (e2 : cA D' 29 = cA D 29) (f : Fn S T R R') (hS : ∀ j, j ∈ [1, 2, 3, 9, 10, 11, 12, 13, 14, 18, 20, 22, 25, 29, 33] → j ∉ S) (hT : ∀ k, k ∈ [6, 7, 8, 15, 17, 23, 24, 26, 27, 28, 30, 31, 32, 35, 36, 37, 38, 39, 40, 44, 46, 48] → k ∉ T) : WK N B gr r s0 l A D' R' m V tk ow := ⟨⟨h.1.1.dd e1 e2, h.1.2.fr f hS hT⟩, h.2.1, h.2.2.1, ⟨h.2.2.2.1.1, h.2.2.2.1.2.fr f (hT 36 (by decide))⟩, h.2.2.2.2⟩
/-- a handle is taken -/
def grD (D : CfT) (k t : Nat) (w : Int32) : CfT := sA (sA (sA D 34 (upd (cA D 34) k (nI t))) 35 (upd (cA D 35) k 0)) 36 (upd (cA D 36) k w)
def grR (R : RfT) (k t : Nat) (w : Int32) : RfT := setA (setA (setA R 53 (upd (rA R 53) k (nI t))) 54 (upd (rA R 54) k 0)) 55 (upd (rA R 55) k w)
theorem grR_fn {w : Int32} : Fn [] [53, 54, 55] R (grR R k t w) := ((Fn.a (by decide)).tr (Fn.a (by decide))).tr (Fn.a (by decide))
theorem grD_A {w : Int32} {j : Nat} (h : j ∉ [34, 35, 36]) : cA (grD D k t w) j = cA D j := by
  unfold grD
  rw [cA_n (fun e => h (by rw [e]; decide)), cA_n (fun e => h (by rw [e]; decide)), cA_n (fun e => h (by rw [e]; decide))]
theorem HRel.grp {w : Int32} (h : HRel D R hd hi) (ht : t ≤ 64) : HRel (grD D k t w) (grR R k t w) hd (upN hi k t) := by
  unfold grD grR
  refine ⟨fun y hy => ?_, fun y hy => ?_, fun y hy => ?_⟩
  · rw [cA_n (by decide), cA_n (by decide), cA_n (by decide), rA_n (by decide), rA_n (by decide), rA_n (by decide)]
    exact h.1 y hy
  · rw [cA_n (by decide), cA_n (by decide), cA_e, rA_n (by decide), rA_n (by decide), rA_e]
    by_cases c : y = k
    · rw [c, pk_us, pk_us, upN_s]
      exact ⟨rfl, rfl, ht⟩
    · rw [pk_un c, pk_un c, upN_n c]
      exact h.2.1 y hy
  · rw [cA_n (show (35 : Nat) ≠ 36 by decide), cA_e, cA_e, rA_n (show (54 : Nat) ≠ 55 by decide), rA_e, rA_e]
    by_cases c : y = k
    · rw [c, pk_us, pk_us, pk_us, pk_us]
      exact fun _ => ⟨rfl, rfl, 0, by decide, rfl⟩
    · rw [pk_un c, pk_un c, pk_un c, pk_un c, upN_n c]
      exact h.2.2 y hy
theorem d_grip {w : Int32} {W : Nat → Rw} (hk : k < 32) : d_X5_grip N W D (nI k) (nI t) w = some (grD D k t w) := by
  rw [d_X5_grip, stA_n hk (by decide), stA_n hk (by decide), stA_n hk (by decide)]
  rfl
theorem HdW.grp (h : HdW W hd hi) (ht : ir t) (hk1 : f1 W t 0 = 1) : HdW W hd (upN hi k t) := ⟨h.1, h.2.1, fun x hx h0 => by
  by_cases c : x = k
  · rw [c, upN_s]
    exact ⟨ht, hk1⟩
  · rw [upN_n c] at h0 ⊢
    exact h.2.2 x hx h0⟩
theorem Fx.fr {S T : List Nat} (h : Fx N D R g tp tl) (e1 : cS D' 1 = cS D 1) (e2 : cS D' 2 = cS D 2) (e3 : cA D' 1 = cA D 1) (e53 : cA D' 53 = cA D 53) (f : Fq S T R R') (hS : ∀ j, j ∈ [5, 21, 34] → j ∉ S) (hT : ∀ k, k ∈ [4, 48] → k ∉ T) : Fx N D' R' g tp tl := by
  obtain ⟨⟨t1, t2, t3⟩, b2, b3, b4, b5, b6, b7, b8⟩ := h
  exact ⟨⟨t1, fun j => by rw [e3]; exact t2 j, fun j hj => by rw [f.2.1 4 (hT 4 (by decide))]; exact t3 j hj⟩, by rw [e1]; exact b2, by rw [f.1 5 (hS 5 (by decide))]; exact b3, b4, ⟨by rw [e2]; exact b5.1, by rw [e53]; exact b5.2⟩, by rw [f.1 21 (hS 21 (by decide))]; exact b6, by rw [f.1 34 (hS 34 (by decide))]; exact b7, by rw [f.2.1 48 (hT 48 (by decide))]; exact b8⟩
/-- the lowest free handle -/
theorem low_h (h : HRel D R hd hi) (x1 x4 x6 x7 : Int32) : ∀ (n1 n2 k : Nat), k ≤ 32 → 32 - k < n1 → 32 - k < n2 → (d_X5_lowestFree_2 N W D n1 (nI k) = some (-1) ∧ e_open_173 n2 R x1 x4 x6 x7 (nI k) = e_open_196 R x1 x4 x6 x7 32) ∨ ∃ y, y < 32 ∧ hi y = 0 ∧ d_X5_lowestFree_2 N W D n1 (nI k) = some (nI y) ∧ e_open_173 n2 R x1 x4 x6 x7 (nI k) = e_open_196 R x1 x4 x6 x7 (nI y) := by
  intro n1
  induction n1 with
  | zero => intro n2 k _ hh; exact absurd hh (Nat.not_lt_zero _)
  | succ n1 ih =>
    intro n2 k hk h1 h2
    obtain ⟨n2, rfl⟩ : ∃ y, n2 = y + 1 := ⟨n2 - 1, by omega⟩
    rw [d_X5_lowestFree_2, e_open_173]
    by_cases c : k = 32
    · have z : (32 : Int32) ≤ nI k := by rw [c]; decide
      rw [if_pos z, if_pos z, c]
      exact Or.inl ⟨rfl, rfl⟩
    · have z : ¬ (32 : Int32) ≤ nI k := nI_ge (b := 32) (by omega) (by decide)
      obtain ⟨g1, g2, g3⟩ := h.2.1 k (by omega)
      rw [if_neg z, if_neg z, ld_n (g := cA D 34) (show k < 32 by omega) (by decide), ld_n (g := rA R 53) (show k < 32 by omega) (by decide), g1, g2]
      by_cases c0 : hi k = 0
      · have e0 : nI (hi k) = 0 := by rw [c0]; rfl
        rw [if_pos e0, if_pos e0]
        exact Or.inr ⟨k, by omega, c0, rfl, rfl⟩
      · have e0 : ¬ nI (hi k) = 0 := nI_ne0 (by omega) (by omega)
        rw [if_neg e0, if_neg e0, nI_1]
        exact ih n2 (k + 1) (by omega) (by omega) (by omega)
end PYI
