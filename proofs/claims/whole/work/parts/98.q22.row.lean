/-! ===== pure: the row of a place ===== -/
section PYV
variable {N B gr r u : Nat} {V V1 V2 W : Nat → Rw} {m m1 m2 m' : M5} {tk tk1 tk2 tk' : Nat → Bool} {A A1 A2 A' : MS} {D D1 D2 D' : CfT} {R R1 R2 R' : RfT} {i p k a to s b at1 cn : Nat} {fr : Bool} {ow : Nat → Int} {s0 : S3} {l : List Nat}
theorem pk_neg {a b : Nat} (h : a < b) (hb : b < 2 ^ 31) : nI a - nI b < 0 := by
  have e : nI a - nI b = -(nI (b - a)) := by
    have e1 : nI b = nI a + nI (b - a) := by rw [nI_add]; congr 1; omega
    rw [e1]
    generalize nI a = x
    generalize nI (b - a) = y
    rw [← Int32.toBitVec_inj]
    show x.toBitVec - (x.toBitVec + y.toBitVec) = - y.toBitVec
    bv_omega
  rw [e, Int32.lt_iff_toInt_lt]
  have e2 : (nI (b - a)).toInt = (b - a : Nat) := by
    unfold nI
    exact Int32.toInt_ofNat_of_lt (by omega)
  have e0 : (0 : Int32).toInt = 0 := by decide
  rw [Int32.toInt_neg, e2, e0]
  simp only [Int.bmod]
  split <;> omega
def wrF (at1 cn p : Nat) (fr : Bool) (src y : Nat → Int32) (o : Nat) : Int32 := if at1 ≤ 128 * p + o ∧ 128 * p + o < at1 + cn then src (128 * p + o - at1) else if fr = true then 0 else y o
/-- the reference builds the row -/
theorem z_w162 {y src : Nat → Int32} {self : RfT → Int32 → Int32 → Int32 → Int32 → Int32 → Option (Int32 × RfT)} (hat : at1 + cn ≤ 400000) (hcn : cn ≤ 2000) (hp : p < 4168) (hb : b < 1024) (hy : ∀ o, o < 128 → fits .byte (.int (y o)) = true) (hs : ∀ j, j < cn → fits .byte (.int (src j)) = true) (h49 : rA R 49 b = bI fr) (h43 : ∀ o, o < 128 → rA R 43 o = y o) (h59 : ∀ j, j < cn → rA R 59 j = src j) : ∀ (n k : Nat) (gg : Nat → Int32), k ≤ 128 → 128 - k < n → Byt gg → (∀ o, o < k → gg o = wrF at1 cn p fr src y o) → ∃ g', e_writeData_162 self n (setA R 44 gg) (nI i) (nI at1) (nI cn) (nI to) (nI p) (nI b) (nI k) = bnd (e_direct (setA R 44 g') (nI b)) (fun R165 => self R165 (nI i) (nI at1) (nI cn) (nI to) (nI (p + 1))) ∧ Byt g' ∧ ∀ o, o < 128 → g' o = wrF at1 cn p fr src y o := by
  intro n
  induction n with
  | zero => intro k gg _ h; exact absurd h (Nat.not_lt_zero _)
  | succ n ih =>
    intro k gg hk hn hgb hg
    rw [e_writeData_162]
    by_cases c : k = 128
    · rw [if_pos (show (128 : Int32) ≤ nI k by rw [c]; decide), nI_1]
      exact ⟨gg, rfl, hgb, fun o ho => hg o (by omega)⟩
    · have next : ∀ v : Int32, v = wrF at1 cn p fr src y k → ∃ g', e_writeData_162 self n (setA (setA R 44 gg) 44 (upd gg k (vp_nar .byte v))) (nI i) (nI at1) (nI cn) (nI to) (nI p) (nI b) (nI (k + 1)) = bnd (e_direct (setA R 44 g') (nI b)) (fun R165 => self R165 (nI i) (nI at1) (nI cn) (nI to) (nI (p + 1))) ∧ Byt g' ∧ ∀ o, o < 128 → g' o = wrF at1 cn p fr src y o := fun v hv => by
        have hvb : vp_nar .byte v = v := by
          rw [hv]
          unfold wrF
          split
          · next z => exact nar8 (hs _ (by omega))
          · split
            · decide
            · exact nar8 (hy k (by omega))
        rw [setA_A]
        refine ih (k + 1) _ (by omega) (by omega) hgb.upd8 (fun o ho => ?_)
        by_cases e : o = k
        · rw [e, pk_us, hvb, hv]
        · rw [pk_un e]
          exact hg o (by omega)
      have out : ¬ (at1 ≤ 128 * p + k ∧ 128 * p + k < at1 + cn) → ∃ g', ld (rA (setA R 44 gg) 49) 1024 (nI b) (fun v166 => if v166 = 0 then ld (rA (setA R 44 gg) 43) 128 (nI k) (fun v167 => stR (setA R 44 gg) 44 128 (nI k) (vp_nar .byte v167) (fun R168 => e_writeData_162 self n R168 (nI i) (nI at1) (nI cn) (nI to) (nI p) (nI b) (nI (k + 1)))) else stR (setA R 44 gg) 44 128 (nI k) (vp_nar .byte ((0 : Int32))) (fun R169 => e_writeData_162 self n R169 (nI i) (nI at1) (nI cn) (nI to) (nI p) (nI b) (nI (k + 1)))) = bnd (e_direct (setA R 44 g') (nI b)) (fun R165 => self R165 (nI i) (nI at1) (nI cn) (nI to) (nI (p + 1))) ∧ Byt g' ∧ ∀ o, o < 128 → g' o = wrF at1 cn p fr src y o := fun z => by
        rw [ld_n (show b < 1024 from hb) (by decide), rA_n (by decide), h49]
        cases fr with
        | false =>
          rw [if_pos (show bI false = 0 from rfl), ld_n (show k < 128 by omega) (by decide), rA_n (by decide), h43 k (by omega), st_n (show k < 128 by omega) (by decide), rA_e]
          refine next (y k) ?_
          unfold wrF
          rw [if_neg z, if_neg (by decide)]
        | true =>
          rw [if_neg (show ¬ bI true = 0 by decide), st_n (show k < 128 by omega) (by decide), rA_e]
          refine next 0 ?_
          unfold wrF
          rw [if_neg z, if_pos rfl]
      rw [if_neg (show ¬ (128 : Int32) ≤ nI k from nI_ge (b := 128) (by omega) (by decide)), show (128 : Int32) = nI 128 from rfl, pk_mul, nI_add, nI_1]
      by_cases c1 : 128 * p + k < at1
      · rw [if_pos (pk_neg c1 (by omega))]
        exact out (by omega)
      · rw [pk_sub (by omega), if_neg (nI_nn (by omega))]
        by_cases c2 : cn ≤ 128 * p + k - at1
        · rw [if_pos (nI_le c2 (by omega))]
          exact out (by omega)
        · rw [if_neg (nI_ge (by omega) (by omega)), ld_n (show 128 * p + k - at1 < 2000 by omega) (by decide), rA_n (by decide), h59 _ (by omega), st_n (show k < 128 by omega) (by decide), rA_e]
          refine next _ ?_
          unfold wrF
          rw [if_pos ⟨by omega, by omega⟩]
theorem cpD_n {α : Type} {D : CfT} {k nd ns x y n : Nat} {g : Nat → Int32} {K : CfT → Option α} (h1 : x + n ≤ ns) (h2 : y + n ≤ nd) (hn : ns < 2 ^ 31) (hd : nd < 2 ^ 31) : cpD D k nd g ns (nI x) (nI y) (nI n) K = K (sA D k (va_cpy g (cA D k) x y n)) := by
  unfold cpD
  rw [nI_clamp (show x < 2 ^ 31 by omega), nI_clamp (show y < 2 ^ 31 by omega), nI_clamp (show n < 2 ^ 31 by omega), if_neg (fun z => by
    rcases z with z | z | z | z | z
    · exact nI_nn (by omega) z
    · exact nI_nn (by omega) z
    · exact nI_nn (by omega) z
    · omega
    · omega)]
/-- the class builds the row -/
theorem c_row_1 {α : Type} {K : CfT → Option (FR α)} (hN : N ≤ 1024) (hb : b < N) (hy : Byt (vA A b)) (h42 : Byt (cA D 42)) (hsrc : Byt (cA D 1)) (hcn : cn ≤ 1024) (hat : at1 + cn ≤ 400000) (hp1 : 128 * p < at1 + cn) (hp2 : at1 < 128 * p + 128) : ∃ x, bnd (d_X3_load N (vA A) D (nI b) (bI fr)) (fun D18 => nm (if nI at1 < ((nI p) * ((128 : Int32))) then ((nI p) * ((128 : Int32))) else nI at1) (fun v19 => nm (if (((nI p) * ((128 : Int32))) + ((128 : Int32))) < ((nI at1) + (nI cn)) then (((nI p) * ((128 : Int32))) + ((128 : Int32))) else ((nI at1) + (nI cn))) (fun v20 => gd (Byt (cA D18 1)) (cpD D18 42 128 (cA D18 1) 1024 ((v19) - (nI at1)) ((v19) - ((nI p) * ((128 : Int32)))) ((v20) - (v19)) K)))) = K (sA D 42 x) ∧ Byt x ∧ ∀ o, o < 128 → x o = wrF at1 cn p fr (cA D 1) (vA A b) o := by
  obtain ⟨x1, e1, b1, x2⟩ : ∃ x1, d_X3_load N (vA A) D (nI b) (bI fr) = some (sA D 42 x1) ∧ Byt x1 ∧ ∀ o, o < 128 → x1 o = if fr = true then 0 else vA A b o := by
    cases fr with
    | false =>
      obtain ⟨x, a1, a2, a3⟩ := c_load (W := vA A) (D := D) hN hb hy h42
      exact ⟨x, a1, a2, fun o ho => by rw [a3 o ho, if_neg (by decide)]⟩
    | true =>
      refine ⟨flt (cA D 42) 0 128 (vp_nar .byte 0), ?_, fun o => ?_, fun o ho => ?_⟩
      · rw [d_X3_load, if_neg (show ¬ bI true = 0 by decide)]
        rfl
      · by_cases c : o < 128
        · rw [flt_at (Nat.zero_le _) c]
          decide
        · unfold flt
          rw [if_neg (fun z => c z.2)]
          exact h42 o
      · rw [flt_at (Nat.zero_le _) ho, if_pos rfl]
        decide
  have e19 : (if nI at1 < ((nI p) * ((128 : Int32))) then ((nI p) * ((128 : Int32))) else nI at1) = nI (max at1 (p * 128)) := by
    rw [show (128 : Int32) = nI 128 from rfl, pk_mul]
    by_cases c : at1 < p * 128
    · rw [if_pos (nI_lt c (by omega)), show max at1 (p * 128) = p * 128 by omega]
    · rw [if_neg (nI_nlt (by omega) (by omega)), show max at1 (p * 128) = at1 by omega]
  have e20 : (if (((nI p) * ((128 : Int32))) + ((128 : Int32))) < ((nI at1) + (nI cn)) then (((nI p) * ((128 : Int32))) + ((128 : Int32))) else ((nI at1) + (nI cn))) = nI (min (at1 + cn) (p * 128 + 128)) := by
    rw [show (128 : Int32) = nI 128 from rfl, pk_mul, nI_add, nI_add]
    by_cases c : p * 128 + 128 < at1 + cn
    · rw [if_pos (nI_lt c (by omega)), show min (at1 + cn) (p * 128 + 128) = p * 128 + 128 by omega]
    · rw [if_neg (nI_nlt (by omega) (by omega)), show min (at1 + cn) (p * 128 + 128) = at1 + cn by omega]
  have eb : (nI p) * ((128 : Int32)) = nI (p * 128) := by rw [show (128 : Int32) = nI 128 from rfl, pk_mul]
  have e1c : cA (sA D 42 x1) 1 = cA D 1 := cA_n (by decide)
  rw [bnd_o e1, e19, e20, eb]
  simp only [nm]
  rw [e1c, gd_t hsrc, pk_sub (by omega), pk_sub (by omega), pk_sub (by omega), cpD_n (by omega) (by omega) (by decide) (by decide), cA_e]
  refine ⟨va_cpy (cA D 1) x1 (max at1 (p * 128) - at1) (max at1 (p * 128) - p * 128) (min (at1 + cn) (p * 128 + 128) - max at1 (p * 128)), by rw [sA_A], fun o => ?_, fun o ho => ?_⟩
  · unfold va_cpy
    split
    · exact hsrc _
    · exact b1 o
  · unfold va_cpy wrF
    by_cases c : at1 ≤ 128 * p + o ∧ 128 * p + o < at1 + cn
    · rw [if_pos ⟨by omega, by omega⟩, if_pos c]
      congr 1
      omega
    · rw [if_neg (by omega), if_neg c, x2 o ho]
end PYV
