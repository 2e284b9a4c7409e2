/-! ===== pure: about ===== -/
section PXU
variable {N B gr r u : Nat} {V W : Nat → Rw} {m : M5} {tk : Nat → Bool} {A A' : MS} {D D' D2 : CfT} {R R' : RfT} {g : Bool} {hd hi : Nat → Nat} {tp : Nat → Int32} {tl : Nat} {ex : Nat → Int32} {i : Nat}
/-- how many of n numbers from lo on are there -/
def pc (V : Nat → Rw) (i lo : Nat) : Nat → Nat
  | 0 => 0
  | n + 1 => pc V i lo n + if pv V i (lo + n) = 0 then 0 else 1
theorem pc_le {lo : Nat} : ∀ n, pc V i lo n ≤ n
  | 0 => Nat.le_refl _
  | n + 1 => by
    have := pc_le (lo := lo) n
    show pc V i lo n + (if pv V i (lo + n) = 0 then 0 else 1) ≤ n + 1
    split <;> omega
theorem pc_0 {lo : Nat} : ∀ n, (∀ k, k < n → pv V i (lo + k) = 0) → pc V i lo n = 0
  | 0, _ => rfl
  | n + 1, h => by
    show pc V i lo n + (if pv V i (lo + n) = 0 then 0 else 1) = 0
    rw [pc_0 n (fun k hk => h k (by omega)), if_pos (h n (by omega))]
theorem pc_add {lo a : Nat} : ∀ n, pc V i lo (a + n) = pc V i lo a + pc V i (lo + a) n
  | 0 => rfl
  | n + 1 => by
    show pc V i lo (a + n) + (if pv V i (lo + (a + n)) = 0 then 0 else 1) = pc V i lo a + (pc V i (lo + a) n + (if pv V i (lo + a + n) = 0 then 0 else 1))
    rw [pc_add n, ← Nat.add_assoc lo a n]
    omega
theorem nc_pc {a lo : Nat} : ∀ n, (∀ k, k < n → px (a + k) = lo + k) → ncM V i 0 (a + n) = ncM V i 0 a + pc V i lo n
  | 0, _ => rfl
  | n + 1, h => by
    show ncM V i 0 (a + n) + (if 0 ≤ a + n ∧ pv V i (px (a + n)) ≠ 0 then 1 else 0) = ncM V i 0 a + (pc V i lo n + (if pv V i (lo + n) = 0 then 0 else 1))
    rw [nc_pc n (fun k hk => h k (by omega)), h n (by omega)]
    by_cases c : pv V i (lo + n) = 0
    · rw [if_neg (fun z => z.2 c), if_pos c]
      omega
    · rw [if_pos ⟨Nat.zero_le _, c⟩, if_neg c]
      omega
theorem nc_all : ncM V i 0 4168 = pc V i 0 8 + pc V i 10 64 + pc V i 138 4096 := by
  have h1 := nc_pc (V := V) (i := i) (a := 0) (lo := 0) 8 (fun k hk => by unfold px; rw [if_pos (by omega)])
  have h2 := nc_pc (V := V) (i := i) (a := 8) (lo := 10) 64 (fun k hk => by unfold px; rw [if_neg (by omega), if_pos (by omega)]; omega)
  have h3 := nc_pc (V := V) (i := i) (a := 72) (lo := 138) 4096 (fun k hk => by unfold px; rw [if_neg (by omega), if_neg (by omega)]; omega)
  have h4 : ncM V i 0 0 = 0 := rfl
  rw [h4] at h1
  have h1 : ncM V i 0 8 = 0 + pc V i 0 8 := h1
  have h2 : ncM V i 0 72 = ncM V i 0 8 + pc V i 10 64 := h2
  have h3 : ncM V i 0 4168 = ncM V i 0 72 + pc V i 138 4096 := h3
  omega
theorem z_told_l {t lo : Nat} (hr : ∀ l, l < 64 → n2 (rA R 43) (2 * l) = pv V i (lo + l)) : ∀ (n k : Nat), k ≤ 64 → 64 - k < n → (∀ x, x < 4234 → pv V i x < 65536) → lo + 64 ≤ 4234 → e_told_10 n R (nI (pc V i lo k)) (nI k) = some (nI (pc V i lo 64), R) := by
  intro n
  induction n with
  | zero => intro k _ h; exact absurd h (Nat.not_lt_zero _)
  | succ n ih =>
    intro k hk hn hb hlo
    rw [e_told_10]
    by_cases c : k = 64
    · rw [c, if_pos (show (64 : Int32) ≤ nI 64 by decide)]
    · have hlt := hb (lo + k) (by omega)
      rw [if_neg (show ¬ (64 : Int32) ≤ nI k from nI_ge (b := 64) (by omega) (by decide)), show (2 : Int32) * nI k = nI (2 * k) from pk_mul 2 k, bnd_o (z_row2 (by omega)), hr k (by omega), nI_1, nI_1]
      by_cases c0 : pv V i (lo + k) = 0
      · rw [if_pos (show nI (pv V i (lo + k)) = 0 by rw [c0]; rfl)]
        have e : pc V i lo (k + 1) = pc V i lo k := by
          show pc V i lo k + (if pv V i (lo + k) = 0 then 0 else 1) = _
          rw [if_pos c0]
          rfl
        rw [← e]
        exact ih (k + 1) (by omega) (by omega) hb hlo
      · rw [if_neg (nI_ne0 (by omega) (by omega))]
        have e : pc V i lo (k + 1) = pc V i lo k + 1 := by
          show pc V i lo k + (if pv V i (lo + k) = 0 then 0 else 1) = _
          rw [if_neg c0]
        rw [← e]
        exact ih (k + 1) (by omega) (by omega) hb hlo
theorem z_told {t lo : Nat} (hN : N ≤ 1024) (h : RY N B gr R m V tk) (hp : PtO N V i) (h1 : 61 ≤ t) (h2 : t < N) (h3 : btM (V 43) t = 1) (hlo : lo + 64 ≤ 4234) (hr : ∀ l, l < 64 → pv V i (lo + l) = n2 (V t) (2 * l)) : ∃ x, e_told R (nI t) = some (nI (pc V i lo 64), setA R 43 x) := by
  obtain ⟨x, e, hx⟩ := z_see (R := R) (b := t) (ow := true) (by omega) (h.1.1.lk t (by omega)) h.1.1.by
  refine ⟨x, ?_⟩
  rw [e_told, bnd_o (show e_see R (nI t) 1 = some (setA R 43 x) from e)]
  refine z_told_l (t := t) (lo := lo) (V := V) (i := i) (fun l hl => ?_) fuL 0 (by decide) (by rw [fuL_4]; omega) (fun y hy => ?_) hlo
  · rw [rA_e, hr l hl]
    unfold n2
    rw [ub_c (hx (2 * l) (by omega)), ub_c (hx (2 * l + 1) (by omega)), h.agu t (by omega) h2 h3]
  · rcases hp y hy with q | q
    · omega
    · omega
/-- all numbers of an inode -/
def pA (V : Nat → Rw) (i : Nat) : Nat := pc V i 0 8 + (if pv V i 8 = 0 then 0 else 1) + pc V i 10 64 + (if pv V i 9 = 0 then 0 else 1) + pc V i 74 64 + pc V i 138 4096
theorem z_blocksOf_93 (hN : N ≤ 1024) (hp : PtO N V i) (h9 : pv V i 9 ≠ 0) : ∀ (n j c : Nat) (R : RfT), RY N B gr R m V tk → j ≤ 64 → 64 - j < n → c < 10000 → ∃ x, e_blocksOf_93 n R (nI (c + pc V i 138 (64 * j))) (nI (pv V i 9)) (nI j) = some (nI (c + pc V i 138 4096), setA R 43 x) := by
  intro n
  induction n with
  | zero => intro j c R _ _ h; exact absurd h (Nat.not_lt_zero _)
  | succ n ih =>
    intro j c R h hj hn hc
    rw [e_blocksOf_93]
    by_cases c64 : j = 64
    · rw [c64, if_pos (show (64 : Int32) ≤ nI 64 by decide)]
      exact ⟨rA R 43, by rw [setA_id]⟩
    · obtain ⟨q1, q2, q3⟩ := (hp 9 (by decide)).resolve_left h9
      have e2 : pv V i (74 + j) = n2 (V (pv V i 9)) (2 * j) := by
        rw [pv_2 (by omega) (by omega), Nat.add_sub_cancel_left]
        unfold pvT
        rw [if_neg h9]
      have es : e_seenNumber R (nI (pv V i 9)) (nI (2 * j)) 2 = some (nI (pv V i (74 + j))) := by
        rw [z_s2 (by omega) h.1.1.lk (by omega), h.agu _ (by omega) q2 q3, e2]
      have ea : pc V i 138 (64 * (j + 1)) = pc V i 138 (64 * j) + pc V i (138 + 64 * j) 64 := pc_add (lo := 138) (a := 64 * j) 64
      have e3 : ∀ l, l < 64 → pv V i (138 + 64 * j + l) = pvT V (pv V i (74 + j)) l := fun l hl => by
        rw [pv_3 (by omega) (by omega), show (138 + 64 * j + l - 138) / 64 = j by omega, show (138 + 64 * j + l - 138) % 64 = l by omega]
      rw [if_neg (show ¬ (64 : Int32) ≤ nI j from nI_ge (b := 64) (by omega) (by decide)), if_neg (show ¬ nI (pv V i 9) = 0 from nI_ne0 (by omega) (by omega)), show (2 : Int32) * nI j = nI (2 * j) from pk_mul 2 j, bnd_o es, nI_1]
      by_cases c0 : pv V i (74 + j) = 0
      · rw [if_pos (show nI (pv V i (74 + j)) = 0 by rw [c0]; rfl)]
        have z : pc V i (138 + 64 * j) 64 = 0 := pc_0 64 (fun l hl => by
          rw [e3 l hl, c0]
          exact if_pos rfl)
        rw [show c + pc V i 138 (64 * j) = c + pc V i 138 (64 * (j + 1)) by omega]
        exact ih (j + 1) c R h (by omega) (by omega) hc
      · obtain ⟨r1, r2, r3⟩ := (hp (74 + j) (by omega)).resolve_left c0
        obtain ⟨x, e⟩ := z_told (lo := 138 + 64 * j) hN h hp r1 r2 r3 (by omega) (fun l hl => by
          rw [e3 l hl]
          exact if_neg c0)
        rw [if_neg (show ¬ nI (pv V i (74 + j)) = 0 from nI_ne0 (by omega) (by omega)), bnd2_o e, nI_add, show c + pc V i 138 (64 * j) + pc V i (138 + 64 * j) 64 = c + pc V i 138 (64 * (j + 1)) by omega]
        obtain ⟨y, e'⟩ := ih (j + 1) c (setA R 43 x) h.a43 (by omega) (by omega) hc
        exact ⟨y, by rw [e', setA_A]⟩
theorem pc_no {t lo n : Nat} (h0 : pv V i t = 0) (h : ∀ k, k < n → pv V i (lo + k) = pvT V (pv V i t) k) : pc V i lo n = 0 := pc_0 n (fun k hk => by
  rw [h k hk, h0]
  exact if_pos rfl)
theorem pc_10 (h0 : pv V i 8 = 0) : pc V i 10 64 = 0 := pc_no h0 (fun k hk => by rw [pv_1 (by omega) (by omega), Nat.add_sub_cancel_left])
theorem pc_74 (h0 : pv V i 9 = 0) : pc V i 74 64 = 0 := pc_no h0 (fun k hk => by rw [pv_2 (by omega) (by omega), Nat.add_sub_cancel_left])
theorem pc_138 (h0 : pv V i 9 = 0) : pc V i 138 4096 = 0 := pc_0 4096 (fun k hk => by
  rw [pv_3 (by omega) (by omega), pv_2 (x := 74 + (138 + k - 138) / 64) (by omega) (by omega), h0]
  unfold pvT
  rw [if_pos (if_pos rfl)])
theorem z_blocksOf (hN1 : 61 ≤ N) (hN : N ≤ 1024) (h : RY N B gr R m V tk) (hp : PtO N V i) (hi : ir i) : ∃ x, e_blocksOf R (nI i) = some (nI (pA V i), setA R 43 x) := by
  have b1 := pc_le (V := V) (i := i) (lo := 0) 8
  have b2 := pc_le (V := V) (i := i) (lo := 10) 64
  have b3 := pc_le (V := V) (i := i) (lo := 74) 64
  have f28 : ∀ {R}, RY N B gr R m V tk → e_field R (nI i) 28 2 = some (nI (pv V i 8)) := fun {R} h => by
    have q := z_field (R := R) (a := 28) (n := 2) h.1.1.lk hi.1 hi.2 (Or.inr (Or.inl rfl)) (by decide)
    refine Eq.trans q ?_
    show some (nI (f2 (rSee R true) i 28)) = _
    rw [(f1_ag (a := 28) hN1 h.agu h.2.2 hi.2).2.1]
    rfl
  have s60 : ∀ (R : RfT) (c : Nat), RY N B gr R m V tk → c < 1000 → ∃ x, e_blocksOf_60 R (nI i) (nI c) = some (nI (c + (if pv V i 9 = 0 then 0 else 1) + pc V i 74 64 + pc V i 138 4096), setA R 43 x) := fun R c h hc => by
    rw [e_blocksOf_60, bnd_o (z_fl30 hN1 h hi)]
    by_cases c9 : pv V i 9 = 0
    · rw [if_pos (show nI (pv V i 9) = 0 by rw [c9]; rfl), if_pos c9, pc_74 c9, pc_138 c9, show fuL = 3999999 + 1 from fuL_4, e_blocksOf_93, if_neg (show ¬ (64 : Int32) ≤ 0 by decide), if_pos (show nI (pv V i 9) = 0 by rw [c9]; rfl)]
      exact ⟨rA R 43, by rw [setA_id]; rfl⟩
    · obtain ⟨r1, r2, r3⟩ := (hp 9 (by decide)).resolve_left c9
      obtain ⟨x, e⟩ := z_told (lo := 74) hN h hp r1 r2 r3 (by decide) (fun l hl => by
        rw [pv_2 (by omega) (by omega), Nat.add_sub_cancel_left]
        exact if_neg c9)
      obtain ⟨y, e2⟩ := z_blocksOf_93 hN hp c9 fuL 0 (c + 1 + pc V i 74 64) (setA R 43 x) h.a43 (by decide) (by rw [fuL_4]; omega) (by omega)
      have e2 : e_blocksOf_93 fuL (setA R 43 x) (nI (c + 1 + pc V i 74 64)) (nI (pv V i 9)) 0 = some (nI (c + 1 + pc V i 74 64 + pc V i 138 4096), setA (setA R 43 x) 43 y) := e2
      rw [if_neg (show ¬ nI (pv V i 9) = 0 from nI_ne0 (by omega) (by omega)), bnd2_o e, nI_1, nI_add, e2, setA_A, if_neg c9]
      exact ⟨y, rfl⟩
  have s4 : ∀ (n k : Nat), k ≤ 8 → 8 - k < n → ∃ x, e_blocksOf_4 n R (nI i) (nI (pc V i 0 k)) (nI k) = some (nI (pA V i), setA R 43 x) := by
    intro n
    induction n with
    | zero => intro k _ h; exact absurd h (Nat.not_lt_zero _)
    | succ n ih =>
      intro k hk hn
      rw [e_blocksOf_4]
      by_cases c : k = 8
      · rw [c, if_pos (show (8 : Int32) ≤ nI 8 by decide), bnd_o (f28 h)]
        unfold pA
        by_cases c8 : pv V i 8 = 0
        · obtain ⟨x, e⟩ := s60 R (pc V i 0 8) h (by omega)
          rw [if_pos (show nI (pv V i 8) = 0 by rw [c8]; rfl), e, if_pos c8, pc_10 c8]
          exact ⟨x, rfl⟩
        · obtain ⟨r1, r2, r3⟩ := (hp 8 (by decide)).resolve_left c8
          obtain ⟨x, e⟩ := z_told (lo := 10) hN h hp r1 r2 r3 (by decide) (fun l hl => by
            rw [pv_1 (by omega) (by omega), Nat.add_sub_cancel_left]
            exact if_neg c8)
          obtain ⟨y, e2⟩ := s60 (setA R 43 x) (pc V i 0 8 + 1 + pc V i 10 64) h.a43 (by omega)
          rw [if_neg (show ¬ nI (pv V i 8) = 0 from nI_ne0 (by omega) (by omega)), bnd2_o e, nI_1, nI_add, e2, setA_A, if_neg c8]
          exact ⟨y, rfl⟩
      · have ex : px k = k := by unfold px; rw [if_pos (by omega)]
        have eb := z_blk hN1 hN h hp hi.1 hi.2 (show k < 4168 by omega)
        rw [ex] at eb
        have hlt : pv V i k < 65536 := by
          rcases hp k (by omega) with q | q
          · omega
          · omega
        rw [if_neg (show ¬ (8 : Int32) ≤ nI k from nI_ge (b := 8) (by omega) (by decide)), bnd_o eb, nI_1, nI_1]
        by_cases c0 : pv V i k = 0
        · have e : pc V i 0 (k + 1) = pc V i 0 k := by
            show pc V i 0 k + (if pv V i (0 + k) = 0 then 0 else 1) = _
            rw [Nat.zero_add, if_pos c0]
            rfl
          rw [if_pos (show nI (pv V i k) = 0 by rw [c0]; rfl), ← e]
          exact ih (k + 1) (by omega) (by omega)
        · have e : pc V i 0 (k + 1) = pc V i 0 k + 1 := by
            show pc V i 0 k + (if pv V i (0 + k) = 0 then 0 else 1) = _
            rw [Nat.zero_add, if_neg c0]
          rw [if_neg (show ¬ nI (pv V i k) = 0 from nI_ne0 (by omega) (by omega)), ← e]
          exact ih (k + 1) (by omega) (by omega)
  exact s4 fuL 0 (by decide) (by rw [fuL_4]; omega)
theorem c_bat_l {D0 : CfT} (hN1 : 61 ≤ N) (hN : N ≤ 1024) (h : CX N A D0 m V tk) (hp : PtO N V i) (h9 : pv V i 9 ≠ 0) : ∀ (n j c : Nat), j ≤ 64 → 64 - j < n → d_X7_blocksAndTables_39 N (vA A) n D (nI (c + pc V i 74 j)) (nI (pv V i 9)) (nI j) = some (nI (c + pc V i 74 64 + 1), D) := by
  intro n
  induction n with
  | zero => intro j c _ h; exact absurd h (Nat.not_lt_zero _)
  | succ n ih =>
    intro j c hj hn
    rw [d_X7_blocksAndTables_39]
    by_cases c64 : j = 64
    · rw [c64, if_pos (show (64 : Int32) ≤ nI 64 by decide), nI_1]
    · obtain ⟨q1, q2, q3⟩ := (hp 9 (by decide)).resolve_left h9
      have e2 : pv V i (74 + j) = n2 (V (pv V i 9)) (2 * j) := by
        rw [pv_2 (by omega) (by omega), Nat.add_sub_cancel_left]
        exact if_neg h9
      have es : d_X7_tableOfSecond N (vA A) D (nI (pv V i 9)) (nI j) = some (nI (pv V i (74 + j))) := by
        rw [d_X7_tableOfSecond, if_neg (nI_ne0 (by omega) (by omega)), see_n q2 hN, show (2 : Int32) * nI j = nI (2 * j) from pk_mul 2 j, bnd_o (d_two (by omega) (by decide)), h.agu _ (by omega) q2 q3, e2]
      have hlt : pv V i (74 + j) < 65536 := by
        rcases hp (74 + j) (by omega) with q | q
        · omega
        · omega
      rw [if_neg (show ¬ (64 : Int32) ≤ nI j from nI_ge (b := 64) (by omega) (by decide)), bnd_o es, nI_1, nI_1]
      by_cases c0 : pv V i (74 + j) = 0
      · have e : pc V i 74 (j + 1) = pc V i 74 j := by
          show pc V i 74 j + (if pv V i (74 + j) = 0 then 0 else 1) = _
          rw [if_pos c0]
          rfl
        rw [if_pos (show nI (pv V i (74 + j)) = 0 by rw [c0]; rfl), ← e]
        exact ih (j + 1) c (by omega) (by omega)
      · have e : pc V i 74 (j + 1) = pc V i 74 j + 1 := by
          show pc V i 74 j + (if pv V i (74 + j) = 0 then 0 else 1) = _
          rw [if_neg c0]
        rw [if_neg (show ¬ nI (pv V i (74 + j)) = 0 from nI_ne0 (by omega) (by omega)), Nat.add_assoc c, ← e]
        exact ih (j + 1) c (by omega) (by omega)
theorem c_bat {D0 : CfT} (hN1 : 61 ≤ N) (hN : N ≤ 1024) (h : JX N B gr A D0 R m V tk) (hp : PtO N V i) (hi : ir i) (hz : PzE V i) : ∃ D', d_X7_blocksAndTables N (vA A) D (nI i) = some (nI (pA V i), D') ∧ Dg D D' := by
  obtain ⟨D', a1, a2, a3⟩ := c_gather (D := D) hN1 hN h hp hi hz.1
  have hb : bfM (szM V i) ≤ 4168 := by
    have := hz.1
    unfold bfM
    omega
  have en : ncM V i 0 (bfM (szM V i)) = pc V i 0 8 + pc V i 10 64 + pc V i 138 4096 := by
    rw [← nc_all]
    exact (ncM_skip (a := 0) 4168 hb (fun x h1 h2 => hz.2 x h1 h2)).symm
  have f28 : d_X7_firstTable N (vA A) D' (nI i) = some (nI (pv V i 8)) := by
    rw [d_first hi.1 hi.2 hN1 hN, (f1_ag (a := 28) hN1 h.1.agu h.2.2.2 hi.2).2.1]
    rfl
  have f30 : d_X7_secondTable N (vA A) D' (nI i) = some (nI (pv V i 9)) := by
    rw [d_second hi.1 hi.2 hN1 hN, (f1_ag (a := 30) hN1 h.1.agu h.2.2.2 hi.2).2.1]
    rfl
  have l8 : pv V i 8 < 65536 := by
    rcases hp 8 (by decide) with q | q
    · omega
    · omega
  have l9 : pv V i 9 < 65536 := by
    rcases hp 9 (by decide) with q | q
    · omega
    · omega
  refine ⟨D', ?_, a3⟩
  have key : ∀ c : Nat, (if nI (pv V i 9) = 0 then some (nI c, D') else d_X7_blocksAndTables_39 N (vA A) fuL D' (nI c) (nI (pv V i 9)) 0) = some (nI (c + (if pv V i 9 = 0 then 0 else 1) + pc V i 74 64), D') := fun c => by
    by_cases c9 : pv V i 9 = 0
    · rw [if_pos (show nI (pv V i 9) = 0 by rw [c9]; rfl), if_pos c9, pc_74 c9]
      rfl
    · have q := c_bat_l (D := D') hN1 hN h.1 hp c9 fuL 0 c (by decide) (by rw [fuL_4]; omega)
      rw [if_neg (show ¬ nI (pv V i 9) = 0 from nI_ne0 (by omega) (by omega)), if_neg c9, show c + 1 + pc V i 74 64 = c + pc V i 74 64 + 1 by omega]
      exact q
  rw [d_X7_blocksAndTables, bnd_o a1, bnd_o f28, bnd_o f30, a2.1, en]
  unfold pA
  by_cases c8 : pv V i 8 = 0
  · rw [if_pos (show nI (pv V i 8) = 0 by rw [c8]; rfl), if_pos c8, show nI (pc V i 0 8 + pc V i 10 64 + pc V i 138 4096) + (0 : Int32) = nI (pc V i 0 8 + pc V i 10 64 + pc V i 138 4096) from nI_add _ 0, key]
    refine congrArg (fun z => some (nI z, D')) ?_
    omega
  · rw [if_neg (show ¬ nI (pv V i 8) = 0 from nI_ne0 (by omega) (by omega)), if_neg c8, nI_1, bnd_o f30, key]
    refine congrArg (fun z => some (nI z, D')) ?_
    omega
theorem IM.dg (h : IM N B gr u g A D R m V tk hd hi tp tl) (e : Dg D D') : IM N B gr u g A D' R m V tk hd hi tp tl := h.fr (e.1 2508 (by decide)) (e.2 29 (by decide) (by decide)) (Fn.rf (S := []) (T := [])) (by decide) (by decide) ⟨fun j hj => e.1 j (by revert hj; revert j; decide), fun k hk => e.2 k (by revert hk; revert k; decide) (by revert hk; revert k; decide), fun _ _ => rfl, fun _ _ => rfl⟩ (by decide) (e.2 42 (by decide) (by decide))
theorem r_about {a0 a1 : Int32} (hN1 : 61 ≤ N) (hN : N ≤ 1024) (hx : ex 2 = 2) (h : IM N B gr u g A D R m V tk hd hi tp tl) (hL : LH V hd hi := by assumption) : RetR N B gr (u + 100) ex (d_X11_about N B gr A D a0 a1) (e_about R a0 a1) := by
  obtain ⟨n1, R1, n2, h1, ot, t0, -, -⟩ := h.nm hN
  rw [d_X11_about, bndF_l n1, e_about, bnd2_o n2, i00]
  by_cases c : a1 < 0
  · rw [if_pos c, if_pos c, bnd2_o ref1, i10]
    exact RetR.no h1.thr (by omega) (by rw [rS_0, hx]) (by decide) rfl rfl
  · rw [if_neg c, if_neg c]
    by_cases c6 : a1 ≤ 6
    · rw [if_pos c6, if_pos c6, bnd2_o ref0, i00, e_about_32]
      have h2 := h1.thr (v := 0)
      rcases i_rng a0 with ⟨i, hir, rfl⟩ | hx
      · obtain ⟨k1, k2⟩ := j_kind (D2 := D) hN1 hN h2.1 hir
        have hlt := f1_lt V i 0
        rw [bnd_o k1, bnd_o k2]
        by_cases c : f1 V i 0 = 0
        · have z : nI (f1 V i 0) = 0 := by rw [c]; rfl
          rw [if_pos z, if_pos z]
          exact RetR.ok h2 (by omega) rS_0 rfl rfl
        · have z : ¬ nI (f1 V i 0) = 0 := nI_ne0 (by omega) (by omega)
          rw [if_neg z, if_neg z]
          by_cases d0 : a1 = 0
          · rw [if_pos d0, if_pos d0]
            exact RetR.ok h2 (by omega) rS_0 rfl rfl
          rw [if_neg d0, if_neg d0]
          by_cases d1 : a1 = 1
          · obtain ⟨s1, s2⟩ := j_size (D2 := D) hN1 hN h2.1 hir
            rw [if_pos d1, if_pos d1, bnd_o s1, bnd_o s2]
            exact RetR.ok h2 (by omega) rS_0 rfl rfl
          rw [if_neg d1, if_neg d1]
          by_cases d2 : a1 = 2
          · have s1 : d_X7_markOf N (vA A) D (nI i) = some (nI (f4 V i 8)) := by rw [d_mark hir.1 hir.2 hN1 hN, (f1_ag (a := 8) hN1 h2.1.1.agu h2.1.2.2.2 hir.2).2.2]
            have s2 : e_field (setS R1 0 0) (nI i) 8 4 = some (nI (f4 V i 8)) := by
              have q := z_field (R := setS R1 0 0) (a := 8) (n := 4) h2.1.2.1.1.lk hir.1 hir.2 (Or.inr (Or.inr rfl)) (by decide)
              refine Eq.trans q ?_
              show some (nI (f4 (rSee (setS R1 0 0) true) i 8)) = _
              rw [(f1_ag (a := 8) hN1 h2.1.2.agu h2.1.2.2.2 hir.2).2.2]
            rw [if_pos d2, if_pos d2, bnd_o s1, bnd_o s2]
            exact RetR.ok h2 (by omega) rS_0 rfl rfl
          rw [if_neg d2, if_neg d2]
          by_cases d3 : a1 = 3
          · obtain ⟨D', b1, b2⟩ := c_bat (D := D) hN1 hN h2.1 (h2.2.1.1.pto hir) hir (h2.2.1.pz hir)
            obtain ⟨x, b3⟩ := z_blocksOf hN1 hN h2.1.2 (h2.2.1.1.pto hir) hir
            rw [if_pos d3, if_pos d3, bnd2_o b1, bnd2_o b3]
            exact RetR.ok (h2.a43.dg b2) (by omega) (rS_0 (R := R1) (v := 0)) rfl rfl
          rw [if_neg d3, if_neg d3]
          by_cases d4 : a1 = 4
          · rw [if_pos d4, if_pos d4]
            by_cases c2 : f1 V i 0 = 2
            · obtain ⟨s1, s2⟩ := j_names (D2 := D) hN1 hN h2.1 h2.2.1 hir c2
              rw [bnd_o s1, if_pos (show nI (f1 V i 0) = (2 : Int32) by rw [c2]; rfl), bnd_o s2]
              exact RetR.ok h2 (by omega) rS_0 rfl rfl
            · rw [bnd_o (d_names0 (D2 := D) hN1 hN h2.1 hir c2), if_neg (nx2 c2 (by omega))]
              exact RetR.ok h2 (by omega) rS_0 rfl rfl
          rw [if_neg d4, if_neg d4]
          by_cases d5 : a1 = 5
          · have s1 : d_X7_links N (vA A) D (nI i) = some (nI (f1 V i 1)) := by rw [d_links hir.1 hir.2 hN1 hN, (f1_ag (a := 1) hN1 h2.1.1.agu h2.1.2.2.2 hir.2).1]
            have s2 : e_field (setS R1 0 0) (nI i) 1 1 = some (nI (f1 V i 1)) := by
              have q := z_f1 (R := setS R1 0 0) (a := 1) h2.1.2.1.1.lk hir.1 hir.2 (by decide)
              rw [(f1_ag (a := 1) hN1 h2.1.2.agu h2.1.2.2.2 hir.2).1] at q
              exact q
            rw [if_pos d5, if_pos d5, bnd_o s1, bnd_o s2]
            exact RetR.ok h2 (by omega) rS_0 rfl rfl
          have hi65 : i < 65 := by have := hir.2; omega
          obtain ⟨g1, g2, g3⟩ := h2.2.2.2.2.2.1.1 i hi65
          rw [if_neg d5, if_neg d5, bnd_o (d_tm (N := N) (W := vA A) h2.2.2.2.2.2.1 hi65), ld_n (g := rA (setS R1 0 0) 52) hi65 (by decide), g2, bnd_o z_handlesOn, ho_rs (by omega) (fun k hk => ⟨(h2.2.2.2.2.2.1.2.1 k hk).2.1, (h2.2.2.2.2.2.1.2.1 k hk).2.2⟩) 32 (Nat.le_refl _), nI_add]
          exact RetR.ok h2 (by omega) rS_0 rfl rfl
      · obtain ⟨k1, k2⟩ := j_kind0 (N := N) (A := A) (D2 := D) (R := setS R1 0 0) hx
        rw [bnd_o k1, bnd_o k2, i00, i00]
        exact RetR.ok h2 (by omega) rS_0 rfl rfl
    · rw [if_neg c6, if_neg c6, bnd2_o ref1, i10]
      exact RetR.no h1.thr (by omega) (by rw [rS_0, hx]) (by decide) rfl rfl
end PXU
