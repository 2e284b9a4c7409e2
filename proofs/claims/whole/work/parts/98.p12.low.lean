/-! ===== pure: words for simp ===== -/
section PUM
theorem bnd_v {α β : Type} {v : β} {k : β → Option α} : bnd (some v) k = k v := rfl
theorem bnd2_v {α β γ : Type} {v : β} {w : γ} {k : β → γ → Option α} : bnd2 (some (v, w)) k = k v w := rfl
theorem bnd3_v {α β γ δ : Type} {v : β} {w : γ} {x : δ} {k : β → γ → δ → Option α} : bnd3 (some (v, w, x)) k = k v w x := rfl
theorem li_0 : (0 : Int32) = nI 0 := rfl
theorem li_2 : (2 : Int32) = nI 2 := rfl
theorem li_3 : (3 : Int32) = nI 3 := rfl
theorem li_4 : (4 : Int32) = nI 4 := rfl
theorem li_5 : (5 : Int32) = nI 5 := rfl
theorem li_7 : (7 : Int32) = nI 7 := rfl
theorem li_8 : (8 : Int32) = nI 8 := rfl
theorem li_12 : (12 : Int32) = nI 12 := rfl
theorem li_13 : (13 : Int32) = nI 13 := rfl
theorem li_16 : (16 : Int32) = nI 16 := rfl
theorem li_28 : (28 : Int32) = nI 28 := rfl
theorem li_30 : (30 : Int32) = nI 30 := rfl
theorem li_32 : (32 : Int32) = nI 32 := rfl
theorem li_40 : (40 : Int32) = nI 40 := rfl
theorem li_43 : (43 : Int32) = nI 43 := rfl
theorem li_44 : (44 : Int32) = nI 44 := rfl
theorem li_45 : (45 : Int32) = nI 45 := rfl
theorem li_61 : (61 : Int32) = nI 61 := rfl
theorem li_64 : (64 : Int32) = nI 64 := rfl
theorem li_72 : (72 : Int32) = nI 72 := rfl
theorem li_128 : (128 : Int32) = nI 128 := rfl
theorem li_1024 : (1024 : Int32) = nI 1024 := rfl
theorem n_rem (a d : Nat) : a - a / d * d = a % d := by
  have h := Nat.div_add_mod a d
  rw [Nat.mul_comm] at h
  omega
theorem i1_lt {a : Nat} (h : a < 2 ^ 31) : nI a < (1 : Int32) ↔ a < 1 := nI_ltI (b := 1) h (by decide)
theorem i1_gt {a : Nat} (h : a < 2 ^ 31) : (1 : Int32) < nI a ↔ 1 < a := nI_ltI (a := 1) (by decide) h
theorem i1_le {a : Nat} (h : a < 2 ^ 31) : nI a ≤ (1 : Int32) ↔ a ≤ 1 := nI_leI (b := 1) h (by decide)
theorem i1_ge {a : Nat} (h : a < 2 ^ 31) : (1 : Int32) ≤ nI a ↔ 1 ≤ a := nI_leI (a := 1) (by decide) h
theorem i1_eq {a : Nat} (h : a < 2 ^ 31) : nI a = (1 : Int32) ↔ a = 1 := nI_eq (b := 1) h (by decide)
theorem i1_sub {a : Nat} (h : 1 ≤ a) : nI a - (1 : Int32) = nI (a - 1) := pk_sub (b := 1) h
theorem nx_m1 {a : Nat} (h : a < 2 ^ 31) : (nI a = (-1 : Int32)) = False := eq_false (nI_m1 h)
theorem nx_m2 {a : Nat} (h : a < 2 ^ 31) : ((-1 : Int32) = nI a) = False := eq_false (fun z => nI_m1 h z.symm)
end PUM
/-! ===== pure: free blocks ===== -/
section PUN
variable {N : Nat} {V : Nat → Rw} {D : CfT} {R : RfT} {rs : Nat → Nat}
theorem loM_s {V : Nat → Rw} {rs : Nat → Nat} {N b : Nat} (h : b < N) : loM V rs (N - b) b = if btM (V 43) b = 0 ∧ rs b = 0 then nI b else loM V rs (N - (b + 1)) (b + 1) := by
  rw [show N - b = N - (b + 1) + 1 by omega]
  rfl
theorem z_low_l (hN : rS R 1 = nI N) (hN2 : N ≤ 1024) (hy : ∀ i, i < 128 → rA R 43 i = V 43 i) (hr : ∀ b, b < 1024 → rA R 35 b = nI (rs b) ∧ rs b < 3) : ∀ (m b : Nat), b ≤ N → N - b < m → e_lowestFree_10 m R (nI b) = some (loM V rs (N - b) b, R) := by
  intro m
  induction m with
  | zero => intro b _ h; exact absurd h (Nat.not_lt_zero _)
  | succ m ih =>
    intro b hb hm
    rw [e_lowestFree_10, hN]
    by_cases c : b = N
    · simp (disch := omega) only [bnd_v, bnd2_v, bnd3_v, nm_o, ld_n, see_n, st_n, li_0, li_2, li_3, li_4, li_5, li_7, li_8, li_12, li_13, li_16, li_28, li_30, li_32, li_40, li_43, li_44, li_45, li_61, li_64, li_72, li_128, li_1024, nI_1, nI_add, pk_mul, pk_sub, pk_div, n_rem, nI_ltI, nI_leI, nI_eq, i1_lt, i1_ge, i1_eq, i1_gt, i1_le, i1_sub, nx_m1, nx_m2, bit_at, c, Nat.sub_self, Nat.le_refl, if_true]
      rfl
    · have hq := hr b (by omega)
      have hx := hy (b / 8) (by omega)
      have ht := bt_lt (V 43) b
      have q := ih (b + 1) (by omega) (by omega)
      rw [loM_s (b := b) (by omega)]
      simp (disch := omega) only [bnd_v, bnd2_v, bnd3_v, nm_o, ld_n, see_n, st_n, li_0, li_2, li_3, li_4, li_5, li_7, li_8, li_12, li_13, li_16, li_28, li_30, li_32, li_40, li_43, li_44, li_45, li_61, li_64, li_72, li_128, li_1024, nI_1, nI_add, pk_mul, pk_sub, pk_div, n_rem, nI_ltI, nI_leI, nI_eq, i1_lt, i1_ge, i1_eq, i1_gt, i1_le, i1_sub, nx_m1, nx_m2, bit_at, q, hx, hq.1, show ¬ N ≤ b by omega, if_false]
      by_cases c1 : btM (V 43) b = 0 <;> by_cases c2 : rs b = 0 <;> simp only [c1, c2, if_true, if_false, and_true, true_and, and_false, false_and]
theorem z_lowest (hN : rS R 1 = nI N) (hN1 : 61 ≤ N) (hN2 : N ≤ 1024) (hl : lkA R) (hy : rBy R) (hr : ∀ b, b < 1024 → rA R 35 b = nI (rs b) ∧ rs b < 3) : ∃ g, e_lowestFree R = some (loM (rSee R true) rs (N - 61) 61, setA R 43 g) := by
  obtain ⟨g, e, hg⟩ := z_see (R := R) (b := 43) (ow := true) (by decide) (hl _ (by decide)) hy
  refine ⟨g, ?_⟩
  rw [e_lowestFree, bnd_o (m := e_see R 43 1) e]
  exact z_low_l (R := setA R 43 g) (V := rSee R true) hN hN2 (fun i hi => (congrFun rA_e i).trans (hg i hi)) hr fuL 61 hN1 (by rw [fuL_4]; omega)
theorem lo_all {k : Nat} (h : ∀ t, t < k → btM (V 43) t = 0 → rs t = 0 → False) : ∀ (n b : Nat), b + n ≤ k → loM V rs n b = -1
  | 0, _, _ => rfl
  | n + 1, b, hb => by
    show (if btM (V 43) b = 0 ∧ rs b = 0 then nI b else loM V rs n (b + 1)) = -1
    rw [if_neg (fun z => h b (by omega) z.1 z.2), lo_all h n (b + 1) (by omega)]
/-- a run of used blocks is passed over -/
theorem lo_skip {V : Nat → Rw} {rs : Nat → Nat} {N : Nat} : ∀ (k b : Nat), (∀ t, b ≤ t → t < b + k → ¬ btM (V 43) t = 0) → loM V rs (N - b) b = loM V rs (N - (b + k)) (b + k)
  | 0, b, _ => rfl
  | k + 1, b, h => by
    have e : loM V rs (N - b) b = loM V rs (N - (b + 1)) (b + 1) := by
      by_cases c : b < N
      · rw [loM_s c, if_neg (fun z => h b (Nat.le_refl _) (by omega) z.1)]
      · rw [show N - b = 0 by omega, show N - (b + 1) = 0 by omega]
        rfl
    rw [e, lo_skip k (b + 1) (fun t h1 h2 => h t (by omega) (by omega)), show b + 1 + k = b + (k + 1) by omega]
theorem or7 : ∀ b : Fin 1024, (nI b.val ||| (7 : Int32)) = nI (8 * (b.val / 8) + 7) := by decide +kernel
theorem bits_1 : ∀ t : Fin 8, 255 / 2 ^ t.val % 2 = 1 := by decide
theorem bt_full {y : Rw} {b : Nat} (h : y (b / 8) = -1) : btM y b = 1 := by
  have e : ub y (b / 8) = 255 := by
    unfold ub
    rw [h]
    decide
  unfold btM
  rw [e]
  exact bits_1 ⟨b % 8, Nat.mod_lt _ (by decide)⟩
theorem d_low_l2 (hN2 : N ≤ 1024) : ∀ (m b : Nat), b ≤ N + 7 → N + 8 - b < m → d_X10_lowest_10 N V rs D m (V 43) 128 (nI b) = some (loM V rs (N - b) b) := by
  intro m
  induction m with
  | zero => intro b _ h; exact absurd h (Nat.not_lt_zero _)
  | succ m ih =>
    intro b hb hm
    rw [d_X10_lowest_10]
    by_cases c : N ≤ b
    · simp (disch := omega) only [bnd_v, bnd2_v, bnd3_v, nm_o, ld_n, see_n, st_n, li_0, li_2, li_3, li_4, li_5, li_7, li_8, li_12, li_13, li_16, li_28, li_30, li_32, li_40, li_43, li_44, li_45, li_61, li_64, li_72, li_128, li_1024, nI_1, nI_add, pk_mul, pk_sub, pk_div, n_rem, nI_ltI, nI_leI, nI_eq, i1_lt, i1_ge, i1_eq, i1_gt, i1_le, i1_sub, nx_m1, nx_m2, bit_at, c, if_true]
      rw [show N - b = 0 by omega]
      rfl
    · have q := ih (b + 1) (by omega) (by omega)
      have q7 := ih (8 * (b / 8) + 7 + 1) (by omega) (by omega)
      have ho := or7 ⟨b, by omega⟩
      have ht := bt_lt (V 43) b
      rw [ho]
      simp (disch := omega) only [bnd_v, bnd2_v, bnd3_v, nm_o, ld_n, see_n, st_n, li_0, li_2, li_3, li_4, li_5, li_7, li_8, li_12, li_13, li_16, li_28, li_30, li_32, li_40, li_43, li_44, li_45, li_61, li_64, li_72, li_128, li_1024, nI_1, nI_add, pk_mul, pk_sub, pk_div, n_rem, nI_ltI, nI_leI, nI_eq, i1_lt, i1_ge, i1_eq, i1_gt, i1_le, i1_sub, nx_m1, nx_m2, bit_at, c, if_false, q, q7]
      by_cases c1 : V 43 (b / 8) = -1
      · rw [if_pos c1, lo_skip (8 - b % 8) b (fun t h1 h2 => by rw [bt_full (b := t) (by rw [show t / 8 = b / 8 by omega]; exact c1)]; decide), show b + (8 - b % 8) = 8 * (b / 8) + 7 + 1 by omega]
      · rw [if_neg c1, loM_s (b := b) (by omega)]
        have e0 : (rsA rs b = nI 0) = (rs b = 0) := by
          unfold rsA
          by_cases c3 : rs b = 0
          · rw [if_pos c3]
            exact propext ⟨fun _ => c3, fun _ => rfl⟩
          · rw [if_neg c3]
            exact propext ⟨fun z => absurd z (by decide), fun z => absurd z c3⟩
        by_cases c1 : btM (V 43) b = 0 <;> by_cases c2 : rs b = 0 <;> simp only [c1, c2, e0, if_true, if_false, and_true, true_and, and_false, false_and]
theorem d_lowest (hN1 : 61 ≤ N) (hN2 : N ≤ 1024) : d_X10_lowest N V rs D = some (loM V rs (N - 61) 61) := by
  rw [d_X10_lowest]
  simp (disch := omega) only [bnd_v, bnd2_v, bnd3_v, nm_o, ld_n, see_n, st_n, li_0, li_2, li_3, li_4, li_5, li_7, li_8, li_12, li_13, li_16, li_28, li_30, li_32, li_40, li_43, li_44, li_45, li_61, li_64, li_72, li_128, li_1024, nI_1, nI_add, pk_mul, pk_sub, pk_div, n_rem, nI_ltI, nI_leI, nI_eq, i1_lt, i1_ge, i1_eq, i1_gt, i1_le, i1_sub, nx_m1, nx_m2, bit_at]
  exact d_low_l2 hN2 fuL 61 (by omega) (by rw [fuL_4]; omega)
/-- free bits below b -/
def fbM (y : Rw) : Nat → Nat
  | 0 => 0
  | b + 1 => fbM y b + (1 - btM y b)
theorem fbM_le (y : Rw) : ∀ b, fbM y b ≤ b
  | 0 => Nat.le_refl _
  | b + 1 => by
    have := fbM_le y b
    show fbM y b + (1 - btM y b) ≤ b + 1
    omega
def bcF (a0 : Int32) : Option Int32 := d_J6_bitCount_0f7a4 0 (fun _ _ => 0) (fun _ => 0, fun _ _ => 0, fun _ _ _ => 0) a0
theorem bc_all : ∀ u : Fin 256, bcF (nI u.val) = some (nI (8 - zbM u.val 8)) := by decide +kernel
end PUN
/-! ===== pure: how many blocks are free ===== -/
section PUO
variable {N : Nat} {V : Nat → Rw} {D : CfT} {R : RfT} {rs : Nat → Nat}
theorem fb_8 (y : Rw) (i : Nat) : fbM y (8 * i + 8) = fbM y (8 * i) + zbM (ub y i) 8 := by
  have e : ∀ k, k < 8 → btM y (8 * i + k) = ub y i / 2 ^ k % 2 := fun k hk => by
    unfold btM
    rw [show (8 * i + k) / 8 = i by omega, show (8 * i + k) % 8 = k by omega]
  show fbM y (8 * i) + (1 - btM y (8 * i)) + (1 - btM y (8 * i + 1)) + (1 - btM y (8 * i + 2)) + (1 - btM y (8 * i + 3)) + (1 - btM y (8 * i + 4)) + (1 - btM y (8 * i + 5)) + (1 - btM y (8 * i + 6)) + (1 - btM y (8 * i + 7)) = fbM y (8 * i) + (0 + (1 - ub y i / 2 ^ 0 % 2) + (1 - ub y i / 2 ^ 1 % 2) + (1 - ub y i / 2 ^ 2 % 2) + (1 - ub y i / 2 ^ 3 % 2) + (1 - ub y i / 2 ^ 4 % 2) + (1 - ub y i / 2 ^ 5 % 2) + (1 - ub y i / 2 ^ 6 % 2) + (1 - ub y i / 2 ^ 7 % 2))
  rw [← e 0 (by decide), ← e 1 (by decide), ← e 2 (by decide), ← e 3 (by decide), ← e 4 (by decide), ← e 5 (by decide), ← e 6 (by decide), ← e 7 (by decide)]
  simp only [Nat.add_zero]
  omega
theorem zb_le (u : Nat) : ∀ k, zbM u k ≤ k
  | 0 => Nat.le_refl _
  | k + 1 => by
    have := zb_le u k
    show zbM u k + (1 - u / 2 ^ k % 2) ≤ k + 1
    omega
theorem d_bc {u : Nat} (h : u < 256) : d_J6_bitCount_0f7a4 N V D (nI u) = some (nI (8 - zbM u 8)) := bc_all ⟨u, h⟩
theorem d_fb_l {y : Rw} : ∀ (m i : Nat), i ≤ 128 → 128 - i < m → d_X10_freeBlocks_11 N V D m y 128 (nI (fbM y (8 * i))) (nI i) = some (nI (fbM y 1024)) := by
  intro m
  induction m with
  | zero => intro b _ h; exact absurd h (Nat.not_lt_zero _)
  | succ m ih =>
    intro i hi hm
    rw [d_X10_freeBlocks_11]
    by_cases c : i = 128
    · rw [c]
      simp (disch := omega) only [bnd_v, bnd2_v, bnd3_v, nm_o, ld_n, see_n, st_n, li_0, li_2, li_3, li_4, li_5, li_7, li_8, li_12, li_13, li_16, li_28, li_30, li_32, li_40, li_43, li_44, li_45, li_61, li_64, li_72, li_128, li_1024, nI_1, nI_add, pk_mul, pk_sub, pk_div, n_rem, nI_ltI, nI_leI, nI_eq, i1_lt, i1_ge, i1_eq, i1_gt, i1_le, i1_sub, nx_m1, nx_m2, bit_at, Nat.le_refl, if_true]
    · have q := ih (i + 1) (by omega) (by omega)
      have hz := zb_le (ub y i) 8
      have hu := ub_lt y i
      rw [show 8 * (i + 1) = 8 * i + 8 by omega, fb_8] at q
      simp (disch := omega) only [bnd_v, bnd2_v, bnd3_v, nm_o, ld_n, see_n, st_n, li_0, li_2, li_3, li_4, li_5, li_7, li_8, li_12, li_13, li_16, li_28, li_30, li_32, li_40, li_43, li_44, li_45, li_61, li_64, li_72, li_128, li_1024, nI_1, nI_add, pk_mul, pk_sub, pk_div, n_rem, nI_ltI, nI_leI, nI_eq, i1_lt, i1_ge, i1_eq, i1_gt, i1_le, i1_sub, nx_m1, nx_m2, bit_at, show ¬ 128 ≤ i by omega, if_false, ub_and, d_bc, show 8 - (8 - zbM (ub y i) 8) = zbM (ub y i) 8 by omega]
      exact q
theorem fb_full {y : Rw} {a : Nat} : ∀ k, (∀ t, a ≤ t → t < a + k → btM y t = 1) → fbM y (a + k) = fbM y a
  | 0, _ => rfl
  | k + 1, h => by
    show fbM y (a + k) + (1 - btM y (a + k)) = fbM y a
    rw [fb_full k (fun t h1 h2 => h t h1 (by omega)), h (a + k) (by omega) (by omega)]
    rfl
/-- what no block has is used -/
def btO (N : Nat) (y : Rw) : Prop := (∀ b, b < 61 → btM y b = 1) ∧ ∀ b, N ≤ b → b < 1024 → btM y b = 1
theorem d_freeBlocks (hN1 : 61 ≤ N) (hN2 : N ≤ 1024) (ho : btO N (V 43)) : d_X10_freeBlocks N V D = some (nI (fbM (V 43) N)) := by
  rw [d_X10_freeBlocks]
  have q := d_fb_l (N := N) (V := V) (D := D) (y := V 43) fuL 0 (Nat.zero_le _) (by rw [fuL_4]; omega)
  have e := fb_full (y := V 43) (a := N) (1024 - N) (fun t h1 h2 => ho.2 t h1 (by omega))
  rw [show N + (1024 - N) = 1024 by omega] at e
  rw [e] at q
  simp (disch := omega) only [bnd_v, bnd2_v, bnd3_v, nm_o, ld_n, see_n, st_n, li_0, li_2, li_3, li_4, li_5, li_7, li_8, li_12, li_13, li_16, li_28, li_30, li_32, li_40, li_43, li_44, li_45, li_61, li_64, li_72, li_128, li_1024, nI_1, nI_add, pk_mul, pk_sub, pk_div, n_rem, nI_ltI, nI_leI, nI_eq, i1_lt, i1_ge, i1_eq, i1_gt, i1_le, i1_sub, nx_m1, nx_m2, bit_at]
  exact q
theorem z_fb_l (hN : rS R 1 = nI N) (hN2 : N ≤ 1024) (hy : ∀ i, i < 128 → rA R 43 i = V 43 i) : ∀ (m b : Nat), b ≤ N → N - b < m → e_freeBlocks_12 m R (nI (fbM (V 43) b)) (nI b) = some (nI (fbM (V 43) N), R) := by
  intro m
  induction m with
  | zero => intro b _ h; exact absurd h (Nat.not_lt_zero _)
  | succ m ih =>
    intro b hb hm
    rw [e_freeBlocks_12, hN]
    by_cases c : b = N
    · rw [c]
      simp (disch := omega) only [bnd_v, bnd2_v, bnd3_v, nm_o, ld_n, see_n, st_n, li_0, li_2, li_3, li_4, li_5, li_7, li_8, li_12, li_13, li_16, li_28, li_30, li_32, li_40, li_43, li_44, li_45, li_61, li_64, li_72, li_128, li_1024, nI_1, nI_add, pk_mul, pk_sub, pk_div, n_rem, nI_ltI, nI_leI, nI_eq, i1_lt, i1_ge, i1_eq, i1_gt, i1_le, i1_sub, nx_m1, nx_m2, bit_at, Nat.le_refl, if_true]
    · have hx := hy (b / 8) (by omega)
      have ht := bt_lt (V 43) b
      have q : e_freeBlocks_12 m R (nI (fbM (V 43) b + (1 - btM (V 43) b))) (nI (b + 1)) = _ := ih (b + 1) (by omega) (by omega)
      simp (disch := omega) only [bnd_v, bnd2_v, bnd3_v, nm_o, ld_n, see_n, st_n, li_0, li_2, li_3, li_4, li_5, li_7, li_8, li_12, li_13, li_16, li_28, li_30, li_32, li_40, li_43, li_44, li_45, li_61, li_64, li_72, li_128, li_1024, nI_1, nI_add, pk_mul, pk_sub, pk_div, n_rem, nI_ltI, nI_leI, nI_eq, i1_lt, i1_ge, i1_eq, i1_gt, i1_le, i1_sub, nx_m1, nx_m2, bit_at, hx, show ¬ N ≤ b by omega, if_false]
      by_cases c1 : btM (V 43) b = 0
      · rw [c1] at q
        rw [if_pos c1]
        exact q
      · rw [show 1 - btM (V 43) b = 0 by omega] at q
        rw [if_neg c1]
        exact q
theorem z_freeBlocks (hN : rS R 1 = nI N) (hN1 : 61 ≤ N) (hN2 : N ≤ 1024) (hl : lkA R) (hy : rBy R) (ho : btO N (rSee R true 43)) : ∃ g, e_freeBlocks R = some (nI (fbM (rSee R true 43) N), setA R 43 g) := by
  obtain ⟨g, e, hg⟩ := z_see (R := R) (b := 43) (ow := true) (by decide) (hl _ (by decide)) hy
  refine ⟨g, ?_⟩
  have e0 : fbM (rSee R true 43) 61 = 0 := by
    have q := fb_full (y := rSee R true 43) (a := 0) 61 (fun t h1 h2 => ho.1 t (by omega))
    exact q
  have q := z_fb_l (R := setA R 43 g) (V := rSee R true) hN hN2 (fun i hi => (congrFun rA_e i).trans (hg i hi)) fuL 61 hN1 (by rw [fuL_4]; omega)
  rw [e0] at q
  rw [e_freeBlocks, bnd_o (m := e_see R 43 1) e]
  exact q
theorem rsC_le {rs : Nat → Nat} {v : Nat} : ∀ n, rsC rs v n ≤ n
  | 0 => Nat.le_refl _
  | n + 1 => by
    have := rsC_le (rs := rs) (v := v) n
    show rsC rs v n + (if rs n = v then 1 else 0) ≤ n + 1
    split <;> omega
theorem d_available (hN1 : 61 ≤ N) (hN2 : N ≤ 1024) (ho : btO N (V 43)) : d_X10_available N V rs D = some (nI (fbM (V 43) N) - nI (rsC rs 2 N)) := by
  rw [d_X10_available, bnd_o (d_freeBlocks hN1 hN2 ho), d_X9_restingForNone]
  rfl
theorem sub_1 (a b : Int32) : a - b - 1 = a - (b + 1) := by
  apply Int32.toBitVec_inj.mp
  simp only [Int32.toBitVec_sub, Int32.toBitVec_add]
  rw [BitVec.sub_sub]
theorem sub_0 (a : Int32) : a - nI 0 = a := by
  apply Int32.toBitVec_inj.mp
  rw [Int32.toBitVec_sub]
  exact BitVec.sub_zero _
theorem z_room_l {x : Int32} (hr : ∀ b, b < 1024 → rA R 35 b = nI (rs b) ∧ rs b < 3) : ∀ (m b : Nat), b ≤ 1024 → 1024 - b < m → e_room_7 m R (x - nI (rsC rs 2 b)) (nI b) = some (x - nI (rsC rs 2 1024), R) := by
  intro m
  induction m with
  | zero => intro b _ h; exact absurd h (Nat.not_lt_zero _)
  | succ m ih =>
    intro b hb hm
    rw [e_room_7]
    by_cases c : b = 1024
    · rw [c]
      simp (disch := omega) only [bnd_v, bnd2_v, bnd3_v, nm_o, ld_n, see_n, st_n, li_0, li_2, li_3, li_4, li_5, li_7, li_8, li_12, li_13, li_16, li_28, li_30, li_32, li_40, li_43, li_44, li_45, li_61, li_64, li_72, li_128, li_1024, nI_1, nI_add, pk_mul, pk_sub, pk_div, n_rem, nI_ltI, nI_leI, nI_eq, i1_lt, i1_ge, i1_eq, i1_gt, i1_le, i1_sub, nx_m1, nx_m2, bit_at, Nat.le_refl, if_true]
    · have hq := hr b (by omega)
      have q : e_room_7 m R (x - nI (rsC rs 2 b + if rs b = 2 then 1 else 0)) (nI (b + 1)) = _ := ih (b + 1) (by omega) (by omega)
      rw [sub_1, nI_1]
      simp (disch := omega) only [bnd_v, bnd2_v, bnd3_v, nm_o, ld_n, see_n, st_n, li_0, li_2, li_3, li_4, li_5, li_7, li_8, li_12, li_13, li_16, li_28, li_30, li_32, li_40, li_43, li_44, li_45, li_61, li_64, li_72, li_128, li_1024, nI_1, nI_add, pk_mul, pk_sub, pk_div, n_rem, nI_ltI, nI_leI, nI_eq, i1_lt, i1_ge, i1_eq, i1_gt, i1_le, i1_sub, nx_m1, nx_m2, bit_at, hq.1, show ¬ 1024 ≤ b by omega, if_false]
      by_cases c1 : rs b = 2
      · rw [if_pos c1] at q ⊢
        exact q
      · rw [if_neg c1] at q ⊢
        exact q
theorem rsC_x {rs : Nat → Nat} {v N : Nat} (h : ∀ b, N ≤ b → rs b ≠ v) : ∀ k, rsC rs v (N + k) = rsC rs v N
  | 0 => rfl
  | k + 1 => by
    show rsC rs v (N + k) + (if rs (N + k) = v then 1 else 0) = rsC rs v N
    rw [if_neg (h _ (by omega)), rsC_x h k]
    rfl
theorem z_room (hN : rS R 1 = nI N) (hN1 : 61 ≤ N) (hN2 : N ≤ 1024) (hl : lkA R) (hy : rBy R) (ho : btO N (rSee R true 43)) (hr : ∀ b, b < 1024 → rA R 35 b = nI (rs b) ∧ rs b < 3) (h0 : ∀ b, N ≤ b → rs b = 0) : ∃ g, e_room R = some (nI (fbM (rSee R true 43) N) - nI (rsC rs 2 N), setA R 43 g) := by
  obtain ⟨g, e⟩ := z_freeBlocks hN hN1 hN2 hl hy ho
  refine ⟨g, ?_⟩
  rw [e_room, bnd2_o e]
  have q := z_room_l (R := setA R 43 g) (rs := rs) (x := nI (fbM (rSee R true 43) N)) hr fuL 0 (Nat.zero_le _) (by rw [fuL_4]; omega)
  have e2 := rsC_x (rs := rs) (v := 2) (N := N) (fun b hb => by rw [h0 b hb]; decide) (1024 - N)
  rw [show N + (1024 - N) = 1024 by omega] at e2
  rw [e2, show rsC rs 2 0 = 0 from rfl, sub_0] at q
  exact q
end PUO
