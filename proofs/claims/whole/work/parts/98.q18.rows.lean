/-! ===== pure: rows that are put ===== -/
section PYR
variable {N B gr r u : Nat} {V W : Nat → Rw} {m m' : M5} {tk tk' : Nat → Bool} {A A' : MS} {D D' D2 : CfT} {R R' : RfT} {g : Bool} {hd hi hd' hi' : Nat → Nat} {tp : Nat → Int32} {tl : Nat} {ow : Nat → Int} {ex : Nat → Int32} {s0 : S3} {l : List Nat} {i k t b s : Nat}
theorem WK.row {x y : Nat → Int32} (h : WK N B gr r s0 l A D R m V tk ow) (hx : Byt x) : WK N B gr r s0 l A (sA D 42 y) (setA R 44 x) m V tk ow := ⟨⟨h.1.1.dd rfl (cA_n (by decide)), h.1.2.a44 hx⟩, h.2.1, h.2.2.1, ⟨h.2.2.2.1.1, h.2.2.2.1.2.fr (Fn.a (S := []) (T := [44]) (by decide)) (by decide)⟩, h.2.2.2.2⟩
theorem WK.a43 {x : Nat → Int32} (h : WK N B gr r s0 l A D R m V tk ow) : WK N B gr r s0 l A D (setA R 43 x) m V tk ow := h.fr rfl rfl (Fn.a (S := []) (T := [43]) (by decide)) (by decide) (by decide)
/-- part of a row is 0 -/
noncomputable def zpR (y : Rw) (a z : Nat) : Rw := zr y (fun o => a ≤ o ∧ o < z)
/-- the class blanks part of a block -/
theorem c_load {W : Nat → Rw} {D : CfT} (hN : N ≤ 1024) (hb : b < N) (hy : Byt (W b)) (h42 : Byt (cA D 42)) : ∃ x, d_X3_load N W D (nI b) 0 = some (sA D 42 x) ∧ Byt x ∧ ∀ o, o < 128 → x o = W b o := by
  refine ⟨va_cpy (W b) (cA D 42) 0 0 128, ?_, fun o => ?_, fun o ho => ?_⟩
  · rw [d_X3_load, if_pos rfl, see_n hb hN]
    rfl
  · unfold va_cpy
    split
    · exact hy _
    · exact h42 o
  · unfold va_cpy
    rw [if_pos ⟨by omega, by omega⟩, Nat.sub_zero, Nat.zero_add]
theorem frD_n {α : Type} {D : CfT} {k n a z : Nat} {x : Int32} {K : CfT → Option α} (h1 : a ≤ z) (h2 : z ≤ n) (hn : n < 2 ^ 31) : frD D k n (nI a) (nI z) x K = K (sA D k (flt (cA D k) a z x)) := by
  unfold frD
  rw [nI_clamp (show a < 2 ^ 31 by omega), nI_clamp (show z < 2 ^ 31 by omega), if_neg]
  rintro (q | q | q | q)
  · exact nI_nn (by omega) q
  · exact nI_nn (by omega) q
  · omega
  · omega
theorem zpR_of {x : Nat → Int32} {y : Rw} {a z : Nat} (hy : nr y = y) (h : ∀ o, o < 128 → x o = if a ≤ o ∧ o < z then 0 else y o) : nr x = zpR y a z := by
  funext o
  unfold zpR
  by_cases c : o < 128
  · unfold nr
    rw [if_pos c, h o c]
    by_cases q : a ≤ o ∧ o < z
    · rw [if_pos q, zr_t q]
    · rw [if_neg q, zr_f q]
  · unfold nr
    rw [if_neg c]
    by_cases q : a ≤ o ∧ o < z
    · rw [zr_t q]
    · rw [zr_f q, ← hy]
      unfold nr
      rw [if_neg c]
theorem c_blk29 {p e q : Nat} (hN : N ≤ 1024) (hb0 : b ≠ 0) (hb : b < N) (hy : Byt (vA A b)) (hn : nr (vA A b) = vA A b) (h42 : Byt (cA D 42)) (hq : 128 * q ≤ p) (hp : p < 128 * q + 128) (he : p < e) (he2 : e < 2 ^ 30) : ∃ x, d_X3_blank_29 N B gr A D (nI p) (nI e) (nI q) (nI b) = bndF (d_X10_writeDirectly N B gr A (sA D 42 x) (nI b)) (fun v80 A80 D80 => some (.inl ((), A80, D80))) ∧ Byt x ∧ nr x = zpR (vA A b) (p - 128 * q) (min (e - 128 * q) 128) := by
  obtain ⟨x, l1, l2, l3⟩ := c_load (N := N) (W := vA A) (b := b) (D := D) hN hb hy h42
  have s1 : nI e - nI q * 128 = nI (e - 128 * q) := by
    rw [show (128 : Int32) = nI 128 from rfl, pk_mul, pk_sub (by omega), Nat.mul_comm q 128]
  have s2 : nI p - nI q * 128 = nI (p - 128 * q) := by
    rw [show (128 : Int32) = nI 128 from rfl, pk_mul, pk_sub (by omega), Nat.mul_comm q 128]
  have s3 : (if nI (e - 128 * q) < (128 : Int32) then nI (e - 128 * q) else (128 : Int32)) = nI (min (e - 128 * q) 128) := by
    by_cases c : e - 128 * q < 128
    · rw [if_pos (show nI (e - 128 * q) < (128 : Int32) from nI_lt (b := 128) c (by decide)), Nat.min_eq_left (by omega)]
    · rw [if_neg (show ¬ nI (e - 128 * q) < (128 : Int32) from nI_nlt (b := 128) (by omega) (by omega)), Nat.min_eq_right (by omega)]
      rfl
  have cl1 : (nI (p - 128 * q)).toNatClampNeg = p - 128 * q := nI_clamp (by omega)
  have cl2 : (nI (min (e - 128 * q) 128)).toNatClampNeg = min (e - 128 * q) 128 := nI_clamp (by omega)
  refine ⟨flt x (p - 128 * q) (min (e - 128 * q) 128) (vp_nar .byte 0), ?_, fun o => ?_, zpR_of hn (fun o ho => ?_)⟩
  · rw [d_X3_blank_29, if_neg (nI_ne0 (by omega) (by omega)), bnd_o l1, s1, s2, s3]
    rw [nm, frD_n (by omega) (by omega) (by decide), cA_e, sA_A]
  · unfold flt
    split
    · exact fits8 0
    · exact l2 o
  · unfold flt
    by_cases c : p - 128 * q ≤ o ∧ o < min (e - 128 * q) 128
    · rw [if_pos c, if_pos c]
      decide
    · rw [if_neg c, if_neg c]
      exact l3 o ho
/-- the reference builds the row of a shortened file -/
theorem z_r82 {y : Rw} (hs : s < 2 ^ 30) (hy : Byt y) (h43 : ∀ o, o < 128 → rA R 43 o = y o) : ∀ (n k : Nat) (gg : Nat → Int32), k ≤ 128 → 128 - k < n → Byt gg → (∀ o, o < k → gg o = if s % 128 ≤ o ∧ o < 128 then 0 else y o) → ∃ g', e_resize_82 n (setA R 44 gg) (nI s) (nI b) (nI k) = bnd (e_direct (setA R 44 g') (nI b)) (fun R181 => some R181) ∧ Byt g' ∧ ∀ o, o < 128 → g' o = if s % 128 ≤ o ∧ o < 128 then 0 else y o := by
  intro n
  induction n with
  | zero => intro k gg _ h; exact absurd h (Nat.not_lt_zero _)
  | succ n ih =>
    intro k gg hk hn hgb hg
    rw [e_resize_82]
    by_cases c : k = 128
    · rw [if_pos (show (128 : Int32) ≤ nI k by rw [c]; decide)]
      exact ⟨gg, rfl, hgb, fun o ho => hg o (by omega)⟩
    · have next : ∀ v : Int32, v = (if s % 128 ≤ k ∧ k < 128 then 0 else y k) → ∃ g', e_resize_82 n (setA (setA R 44 gg) 44 (upd gg k (vp_nar .byte v))) (nI s) (nI b) (nI (k + 1)) = bnd (e_direct (setA R 44 g') (nI b)) (fun R181 => some R181) ∧ Byt g' ∧ ∀ o, o < 128 → g' o = if s % 128 ≤ o ∧ o < 128 then 0 else y o := fun v hv => by
        have hvb : vp_nar .byte v = v := by
          rw [hv]
          split
          · decide
          · exact nar8 (hy k)
        rw [setA_A]
        refine ih (k + 1) _ (by omega) (by omega) hgb.upd8 (fun o ho => ?_)
        by_cases e : o = k
        · rw [e, pk_us, hvb, hv]
        · rw [pk_un e]
          exact hg o (by omega)
      rw [if_neg (show ¬ (128 : Int32) ≤ nI k from nI_ge (b := 128) (by omega) (by decide)), q_md s hs, nI_1]
      by_cases c2 : s % 128 ≤ k
      · rw [if_pos (nI_le c2 (by omega)), st_n (show k < 128 by omega) (by decide), rA_e]
        exact next 0 (by rw [if_pos ⟨c2, by omega⟩])
      · rw [if_neg (nI_ge (by omega) (by omega)), ld_n (show k < 128 by omega) (by decide), rA_n (by decide), h43 k (by omega), st_n (show k < 128 by omega) (by decide), rA_e]
        exact next (y k) (by rw [if_neg (fun z => c2 z.1)])
end PYR
