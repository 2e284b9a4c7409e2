/-! ===== pure: a group is dropped ===== -/
section PYM
variable {N B gr r u : Nat} {V W : Nat → Rw} {m m' : M5} {tk tk' : Nat → Bool} {A A' : MS} {D D' D2 : CfT} {R R' : RfT} {g : Bool} {hd hi hd' hi' : Nat → Nat} {tp : Nat → Int32} {tl : Nat} {ow : Nat → Int} {ex : Nat → Int32} {s0 : S3} {l : List Nat} {i k t : Nat}
/-- who holds, where only kinds of V are left -/
def hdV (V : Nat → Rw) (hd : Nat → Nat) (x j : Nat) : Nat := if 1 ≤ j ∧ j < x ∧ f1 V j 0 = 0 then 0 else hd j
def hiV (V : Nat → Rw) (hi : Nat → Nat) (x k : Nat) : Nat := if hi k < x ∧ f1 V (hi k) 0 ≠ 1 then 0 else hi k
theorem nar_3 : ∀ {n : Nat}, n < 3 → vp_nar .byte (nI n) = nI n := by
  have h : ∀ n : Fin 3, vp_nar .byte (nI n.val) = nI n.val := by decide
  exact fun {n} hn => h ⟨n, hn⟩
theorem bo_11 {rs : Nat → Nat} (hrs : ∀ b, b < 1024 → rs b < 3) : ∀ (n k : Nat) (gg : Nat → Int32), k ≤ 1024 → 1024 - k < n → (∀ b, b < 1024 → gg b = nI (if b < k then r20 rs b else rs b)) → ∃ g', e_backOut_11 n (setA R 35 gg) (nI k) = e_backOut_52 fuL (setA R 35 g') 0 ∧ ∀ b, b < 1024 → g' b = nI (r20 rs b) := by
  intro n
  induction n with
  | zero => intro k gg _ h; exact absurd h (Nat.not_lt_zero _)
  | succ n ih =>
    intro k gg hk hn hg
    rw [e_backOut_11]
    by_cases c : k = 1024
    · rw [if_pos (show (1024 : Int32) ≤ nI k by rw [c]; decide)]
      exact ⟨gg, rfl, fun b hb => by rw [hg b hb, if_pos (by omega)]⟩
    · have e : gg k = nI (rs k) := by rw [hg k (by omega), if_neg (by omega)]
      have h3 := hrs k (by omega)
      have next : ∀ v : Int32, v = nI (r20 rs k) → ∃ g', e_backOut_11 n (setA (setA R 35 gg) 35 (upd gg k v)) (nI (k + 1)) = e_backOut_52 fuL (setA R 35 g') 0 ∧ ∀ b, b < 1024 → g' b = nI (r20 rs b) := fun v hv => by
        rw [setA_A]
        refine ih (k + 1) _ (by omega) (by omega) (fun b hb => ?_)
        by_cases cb : b = k
        · rw [cb, pk_us, hv, if_pos (by omega)]
        · rw [pk_un cb, hg b hb]
          by_cases cb2 : b < k
          · rw [if_pos cb2, if_pos (by omega)]
          · rw [if_neg cb2, if_neg (by omega)]
      rw [if_neg (show ¬ (1024 : Int32) ≤ nI k from nI_ge (b := 1024) (by omega) (by decide)), ld_n (show k < 1024 by omega) (by decide), rA_e, e, nI_1]
      by_cases c2 : rs k = 2
      · rw [if_pos (show nI (rs k) = (2 : Int32) by rw [c2]; rfl), st_n (show k < 1024 by omega) (by decide), rA_e]
        exact next _ (by unfold r20; rw [if_pos c2]; decide)
      · rw [if_neg (nx2 c2 (by omega)), ld_n (show k < 1024 by omega) (by decide), e, st_n (show k < 1024 by omega) (by decide), rA_e]
        exact next _ (by unfold r20; rw [if_neg c2, nar_3 h3])
theorem bo_52 (hN1 : 61 ≤ N) (hN : N ≤ 1024) (h : JX N B gr A D R m V tk) (hh : ∀ k, k < 32 → hi k ≤ 64) : ∀ (n k : Nat) (gg : Nat → Int32), k ≤ 32 → 32 - k < n → (∀ b, b < 32 → gg b = nI (if b < k then hiV V hi 65 b else hi b)) → ∃ g', e_backOut_52 n (setA R 53 gg) (nI k) = e_backOut_96 fuL (setA R 53 g') 1 ∧ ∀ b, b < 32 → g' b = nI (hiV V hi 65 b) := by
  intro n
  induction n with
  | zero => intro k gg _ h; exact absurd h (Nat.not_lt_zero _)
  | succ n ih =>
    intro k gg hk hn hg
    rw [e_backOut_52]
    by_cases c : k = 32
    · rw [if_pos (show (32 : Int32) ≤ nI k by rw [c]; decide)]
      exact ⟨gg, rfl, fun b hb => by rw [hg b hb, if_pos (by omega)]⟩
    · have e : gg k = nI (hi k) := by rw [hg k (by omega), if_neg (by omega)]
      have h6 := hh k (by omega)
      have hJ : JX N B gr A D (setA R 53 gg) m V tk := ⟨h.1, h.2.fr (Fn.a (S := []) (T := [53]) (by decide)) (by decide) (by decide)⟩
      have next : ∀ v : Int32, v = nI (hiV V hi 65 k) → ∃ g', e_backOut_52 n (setA (setA R 53 gg) 53 (upd gg k v)) (nI (k + 1)) = e_backOut_96 fuL (setA R 53 g') 1 ∧ ∀ b, b < 32 → g' b = nI (hiV V hi 65 b) := fun v hv => by
        rw [setA_A]
        refine ih (k + 1) _ (by omega) (by omega) (fun b hb => ?_)
        by_cases cb : b = k
        · rw [cb, pk_us, hv, if_pos (by omega)]
        · rw [pk_un cb, hg b hb]
          by_cases cb2 : b < k
          · rw [if_pos cb2, if_pos (by omega)]
          · rw [if_neg cb2, if_neg (by omega)]
      rw [if_neg (show ¬ (32 : Int32) ≤ nI k from nI_ge (b := 32) (by omega) (by decide)), ld_n (show k < 32 by omega) (by decide), rA_e, e, nI_1]
      by_cases c0 : hi k = 0
      · have ek := (j_kind0 (N := N) (A := A) (D2 := D) (R := setA R 53 gg) (x := nI (hi k)) (Or.inl (by rw [c0]; decide))).2
        rw [bnd_o ek, if_neg (show ¬ (0 : Int32) = 1 by decide), st_n (show k < 32 by omega) (by decide), rA_e]
        exact next _ (by unfold hiV; rw [c0]; split <;> rfl)
      · have hir : ir (hi k) := ⟨by omega, h6⟩
        have ek := (j_kind (D2 := D) hN1 hN hJ hir).2
        have hf := f1_lt V (hi k) 0
        rw [bnd_o ek]
        by_cases c1 : f1 V (hi k) 0 = 1
        · rw [if_pos (show nI (f1 V (hi k) 0) = (1 : Int32) by rw [c1]; rfl), ld_n (show k < 32 by omega) (by decide), e, st_n (show k < 32 by omega) (by decide), rA_e]
          exact next _ (by unfold hiV; rw [if_neg (fun z => z.2 c1)])
        · rw [if_neg (nx1 c1 (by omega)), st_n (show k < 32 by omega) (by decide), rA_e]
          exact next _ (by unfold hiV; rw [if_pos ⟨by omega, c1⟩]; rfl)
theorem bo_96 (hN1 : 61 ≤ N) (hN : N ≤ 1024) (h : JX N B gr A D R m V tk) (hh : ∀ k, k < 65 → hd k ≤ 100) : ∀ (n k : Nat) (gg : Nat → Int32), 1 ≤ k → k ≤ 65 → 65 - k < n → (∀ b, b < 65 → gg b = nI (hdV V hd k b)) → ∃ g', e_backOut_96 n (setA R 52 gg) (nI k) = bnd (e_allLostGo (setA R 52 g')) (fun R200 => some R200) ∧ ∀ b, b < 65 → g' b = nI (hdV V hd 65 b) := by
  intro n
  induction n with
  | zero => intro k gg _ _ h; exact absurd h (Nat.not_lt_zero _)
  | succ n ih =>
    intro k gg hk1 hk hn hg
    rw [e_backOut_96]
    by_cases c : k = 65
    · rw [if_pos (show (64 : Int32) < nI k by rw [c]; decide)]
      exact ⟨gg, rfl, fun b hb => by rw [hg b hb, c]⟩
    · have hir : ir k := ⟨hk1, by omega⟩
      have hJ : JX N B gr A D (setA R 52 gg) m V tk := ⟨h.1, h.2.fr (Fn.a (S := []) (T := [52]) (by decide)) (by decide) (by decide)⟩
      have ek := (j_kind (D2 := D) hN1 hN hJ hir).2
      have hf := f1_lt V k 0
      have e : gg k = nI (hd k) := by
        rw [hg k (by omega)]
        unfold hdV
        rw [if_neg (by omega)]
      have next : ∀ v : Int32, v = nI (hdV V hd (k + 1) k) → ∃ g', e_backOut_96 n (setA (setA R 52 gg) 52 (upd gg k v)) (nI (k + 1)) = bnd (e_allLostGo (setA R 52 g')) (fun R200 => some R200) ∧ ∀ b, b < 65 → g' b = nI (hdV V hd 65 b) := fun v hv => by
        rw [setA_A]
        refine ih (k + 1) _ (by omega) (by omega) (by omega) (fun b hb => ?_)
        by_cases cb : b = k
        · rw [cb, pk_us, hv]
        · rw [pk_un cb, hg b hb]
          unfold hdV
          by_cases q : 1 ≤ b ∧ b < k ∧ f1 V b 0 = 0
          · rw [if_pos q, if_pos ⟨q.1, by omega, q.2.2⟩]
          · rw [if_neg q, if_neg (fun z => q ⟨z.1, by omega, z.2.2⟩)]
      rw [if_neg (show ¬ (64 : Int32) < nI k from nI_nlt (a := 64) (by omega) (by decide)), bnd_o ek, nI_1]
      by_cases c0 : f1 V k 0 = 0
      · rw [if_pos (show nI (f1 V k 0) = 0 by rw [c0]; rfl), st_n (show k < 65 by omega) (by decide), rA_e]
        exact next _ (by unfold hdV; rw [if_pos ⟨hk1, by omega, c0⟩]; rfl)
      · rw [if_neg (nI_ne0 (by omega) (by omega)), ld_n (show k < 65 by omega) (by decide), rA_e, e, st_n (show k < 65 by omega) (by decide), rA_e]
        exact next _ (by unfold hdV; rw [if_neg (fun z => c0 z.2.2)])
theorem sA_A {x y : Nat → Int32} : sA (sA D k x) k y = sA D k y := by
  refine Prod.ext rfl (Prod.ext (funext (fun j => ?_)) rfl)
  show cA (sA (sA D k x) k y) j = cA (sA D k y) j
  by_cases c : j = k
  · rw [c, cA_e, cA_e]
  · rw [cA_n c, cA_n c, cA_n c]
/-- the class frees handles of one inode -/
theorem c_fh {x : Nat} {W : Nat → Rw} (hx : x < 2 ^ 31) : ∀ (n k : Nat) (D : CfT) (f : Nat → Nat), k ≤ 32 → 32 - k < n → (∀ b, b < 32 → f b ≤ 64 ∧ cA D 34 b = nI (f b)) → ∃ g', d_X5_freeHandlesOn_2 N W n D (nI x) (nI k) = some (sA D 34 g') ∧ ∀ b, b < 32 → g' b = nI (if k ≤ b ∧ f b = x then 0 else f b) := by
  intro n
  induction n with
  | zero => intro k D f _ h; exact absurd h (Nat.not_lt_zero _)
  | succ n ih =>
    intro k D f hk hn hf
    rw [d_X5_freeHandlesOn_2]
    by_cases c : k = 32
    · rw [if_pos (show (32 : Int32) ≤ nI k by rw [c]; decide)]
      exact ⟨cA D 34, by rw [sA_id], fun b hb => by rw [(hf b hb).2, if_neg (by omega)]⟩
    · obtain ⟨e1, e2⟩ := hf k (by omega)
      rw [if_neg (show ¬ (32 : Int32) ≤ nI k from nI_ge (b := 32) (by omega) (by decide)), ld_n (show k < 32 by omega) (by decide), e2, nI_1]
      by_cases cx : f k = x
      · rw [if_pos (show nI (f k) = nI x by rw [cx]), stA_n (show k < 32 by omega) (by decide)]
        obtain ⟨g', a1, a2⟩ := ih (k + 1) (sA D 34 (upd (cA D 34) k 0)) (upN f k 0) (by omega) (by omega) (fun b hb => by
          rw [cA_e]
          by_cases cb : b = k
          · rw [cb, upN_s, pk_us]
            exact ⟨by decide, rfl⟩
          · rw [upN_n cb, pk_un cb]
            exact hf b hb)
        refine ⟨g', by rw [a1, sA_A], fun b hb => ?_⟩
        rw [a2 b hb]
        by_cases cb : b = k
        · rw [cb, upN_s, if_pos (show k ≤ k ∧ f k = x from ⟨Nat.le_refl _, cx⟩), if_neg (by omega)]
        · rw [upN_n cb]
          by_cases q : k + 1 ≤ b ∧ f b = x
          · rw [if_pos q, if_pos ⟨by omega, q.2⟩]
          · rw [if_neg q, if_neg (fun z => q ⟨by omega, z.2⟩)]
      · rw [if_neg (fun z => cx (nI_inj (by omega) hx z))]
        obtain ⟨g', a1, a2⟩ := ih (k + 1) D f (by omega) (by omega) hf
        refine ⟨g', a1, fun b hb => ?_⟩
        rw [a2 b hb]
        by_cases q : k + 1 ≤ b ∧ f b = x
        · rw [if_pos q, if_pos ⟨by omega, q.2⟩]
        · rw [if_neg q]
          by_cases q2 : k ≤ b ∧ f b = x
          · have : b = k := by
              refine Classical.byContradiction (fun z => q ⟨by omega, q2.2⟩)
            rw [this] at q2
            exact absurd q2.2 cx
          · rw [if_neg q2]
/-- what the class's loop over inodes keeps -/
def DhF (D D' : CfT) : Prop := D'.1 = D.1 ∧ ∀ k, k ≠ 33 → k ≠ 34 → cA D' k = cA D k
theorem dg_17 (hN1 : 61 ≤ N) (hN : N ≤ 1024) {D0 : CfT} (h : JX N B gr A D0 R m V tk) (hh : ∀ k, k < 32 → hi k ≤ 64) (hz : ∀ i, ir i → f1 V i 0 ≤ 2) : ∀ (n x : Nat) (D : CfT), 1 ≤ x → x ≤ 65 → 65 - x < n → (∀ b, b < 65 → cA D 33 b = nI (hdV V hd x b)) → (∀ b, b < 32 → cA D 34 b = nI (if 1 ≤ hi b then hiV V hi x b else hi b)) → ∃ D', d_X11_dropGroup_17 N n A D (nI x) = some (A, D') ∧ DhF D D' ∧ (∀ b, b < 65 → cA D' 33 b = nI (hdV V hd 65 b)) ∧ (∀ b, b < 32 → cA D' 34 b = nI (if 1 ≤ hi b then hiV V hi 65 b else hi b)) := by
  intro n
  induction n with
  | zero => intro x D _ _ h; exact absurd h (Nat.not_lt_zero _)
  | succ n ih =>
    intro x D hx1 hx hn g1 g2
    rw [d_X11_dropGroup_17]
    by_cases c : x = 65
    · rw [if_pos (show (64 : Int32) < nI x by rw [c]; decide)]
      rw [c] at g1 g2
      exact ⟨D, rfl, ⟨rfl, fun _ _ _ => rfl⟩, g1, g2⟩
    · have hir : ir x := ⟨hx1, by omega⟩
      have ek := (j_kind (D2 := D) hN1 hN h hir).1
      have hf := f1_lt V x 0
      have h2 := hz x hir
      have hdn : ∀ b, b ≠ x → hdV V hd (x + 1) b = hdV V hd x b := fun b hb => by
        unfold hdV
        by_cases q : 1 ≤ b ∧ b < x ∧ f1 V b 0 = 0
        · rw [if_pos q, if_pos ⟨q.1, by omega, q.2.2⟩]
        · rw [if_neg q, if_neg (fun z => q ⟨z.1, by omega, z.2.2⟩)]
      have hin : ∀ b, hi b ≠ x → hiV V hi (x + 1) b = hiV V hi x b := fun b hb => by
        unfold hiV
        by_cases q : hi b < x ∧ f1 V (hi b) 0 ≠ 1
        · rw [if_pos q, if_pos ⟨by omega, q.2⟩]
        · rw [if_neg q, if_neg (fun z => q ⟨by omega, z.2⟩)]
      have hlt : ∀ b, b < 32 → (if 1 ≤ hi b then hiV V hi x b else hi b) ≤ 64 := fun b hb => by
        have := hh b hb
        split
        · unfold hiV
          split
          · omega
          · exact this
        · exact this
      have free : f1 V x 0 ≠ 1 → ∀ D1, (∀ b, b < 32 → cA D1 34 b = cA D 34 b) → ∃ g', d_X5_freeHandlesOn N (vA A) D1 (nI x) = some (sA D1 34 g') ∧ ∀ b, b < 32 → g' b = nI (if 1 ≤ hi b then hiV V hi (x + 1) b else hi b) := fun k1 D1 hD1 => by
        obtain ⟨g', a1, a2⟩ := c_fh (N := N) (W := vA A) (x := x) (by omega) fuL 0 D1 (fun b => if 1 ≤ hi b then hiV V hi x b else hi b) (by decide) (by rw [fuL_4]; omega) (fun b hb => ⟨hlt b hb, by rw [hD1 b hb]; exact g2 b hb⟩)
        refine ⟨g', a1, fun b hb => ?_⟩
        rw [a2 b hb]
        congr 1
        by_cases c1 : 1 ≤ hi b
        · rw [if_pos c1, if_pos c1]
          by_cases cb : hi b = x
          · have e1 : hiV V hi x b = hi b := by
              unfold hiV
              rw [if_neg (by omega)]
            have e2 : hiV V hi (x + 1) b = 0 := by
              unfold hiV
              rw [if_pos ⟨by omega, by rw [cb]; exact k1⟩]
            rw [e1, e2, if_pos ⟨Nat.zero_le _, cb⟩]
          · rw [hin b cb]
            by_cases q : hiV V hi x b = x
            · have : hiV V hi x b = hi b ∨ hiV V hi x b = 0 := by
                unfold hiV
                split
                · exact Or.inr rfl
                · exact Or.inl rfl
              omega
            · rw [if_neg (fun z => q z.2)]
        · rw [if_neg c1, if_neg c1, if_neg (by omega)]
      rw [if_neg (show ¬ (64 : Int32) < nI x from nI_nlt (a := 64) (by omega) (by decide)), bnd_o ek, nI_1]
      by_cases c0 : f1 V x 0 = 0
      · obtain ⟨g', a1, a2⟩ := free (by omega) (sA D 33 (upd (cA D 33) x 0)) (fun b hb => by rw [cA_n (by decide)])
        obtain ⟨D', b1, b2, b3, b4⟩ := ih (x + 1) (sA (sA D 33 (upd (cA D 33) x 0)) 34 g') (by omega) (by omega) (by omega) (fun b hb => by
          rw [cA_n (by decide), cA_e]
          by_cases cb : b = x
          · rw [cb, pk_us]
            unfold hdV
            rw [if_pos ⟨hx1, by omega, c0⟩]
            rfl
          · rw [pk_un cb, hdn b cb]
            exact g1 b hb) (fun b hb => by rw [cA_e]; exact a2 b hb)
        rw [if_pos (show nI (f1 V x 0) = 0 by rw [c0]; rfl), stA_n (show x < 65 by omega) (by decide), if_neg (nx1 (by omega) (by omega)), bnd_o a1]
        exact ⟨D', b1, ⟨b2.1, fun k k1 k2 => by rw [b2.2 k k1 k2, cA_n k2, cA_n k1]⟩, b3, b4⟩
      · have g1' : ∀ b, b < 65 → hdV V hd (x + 1) b = hdV V hd x b := fun b hb => by
          by_cases cb : b = x
          · unfold hdV
            rw [cb, if_neg (fun z => c0 z.2.2), if_neg (fun z => c0 z.2.2)]
          · exact hdn b cb
        rw [if_neg (nI_ne0 (by omega) (by omega))]
        by_cases c1 : f1 V x 0 = 1
        · rw [if_pos (show nI (f1 V x 0) = (1 : Int32) by rw [c1]; rfl)]
          exact ih (x + 1) D (by omega) (by omega) (by omega) (fun b hb => by rw [g1' b hb]; exact g1 b hb) (fun b hb => by
            rw [g2 b hb]
            congr 1
            by_cases cb : hi b = x
            · unfold hiV
              rw [cb, if_neg (fun (z : x < x ∧ f1 V x 0 ≠ 1) => z.2 c1), if_neg (fun (z : x < x + 1 ∧ f1 V x 0 ≠ 1) => z.2 c1)]
            · rw [hin b cb])
        · obtain ⟨g', a1, a2⟩ := free c1 D (fun _ _ => rfl)
          obtain ⟨D', b1, b2, b3, b4⟩ := ih (x + 1) (sA D 34 g') (by omega) (by omega) (by omega) (fun b hb => by
            rw [cA_n (by decide), g1' b hb]
            exact g1 b hb) (fun b hb => by rw [cA_e]; exact a2 b hb)
          rw [if_neg (nx1 c1 (by omega)), bnd_o a1]
          exact ⟨D', b1, ⟨b2.1, fun k k1 k2 => by rw [b2.2 k k1 k2, cA_n k2]⟩, b3, b4⟩
end PYM
