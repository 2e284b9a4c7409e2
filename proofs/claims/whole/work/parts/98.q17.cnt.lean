/-! ===== pure: count ===== -/
section PYQ
variable {N B gr r u : Nat} {V W : Nat → Rw} {m m' : M5} {tk tk' : Nat → Bool} {A A' : MS} {D D' D2 : CfT} {R R' : RfT} {g : Bool} {hd hi hd' hi' : Nat → Nat} {tp : Nat → Int32} {tl : Nat} {ow : Nat → Int} {ex : Nat → Int32} {s0 : S3} {l : List Nat} {i k t b : Nat}
/-- numbers of the hardware -/
theorem RH.cnt {h : Hw} (hr : RH N B h R) : rS R 18 = nI h.2.1.2.1 ∧ rS R 10 = nI h.1.2.length ∧ rS R 13 = h.2.2.2.1 ∧ rS R 14 = h.2.2.2.2 ∧ rS R 12 = h.2.2.1 ∧ rS R 20 = h.2.1.2.2.2 := by
  obtain ⟨wf, w, a1, a2, a3, a4, a5, a6, a7, a8, a9⟩ := hr
  exact ⟨a3.2.2.2.2.1.2.2.2.1, by rw [a1.len]; exact a3.1.2.2.1, a7, a8, a6, a2.2.1⟩
/-- how many inodes satisfy p, from x on -/
def icM (p : Nat → Bool) : Nat → Nat → Nat
  | 0, _ => 0
  | n + 1, x => (if p x = true then 1 else 0) + icM p n (x + 1)
theorem c_fi (hN1 : 61 ≤ N) (hN : N ≤ 1024) (h : JX N B gr A D R m V tk) : ∀ (k x c n1 n2 : Nat), 1 ≤ x → x + k = 65 → k < n1 → k < n2 → d_X7_freeInodes_4 N (vA A) D2 n1 (nI c) (nI x) = some (nI (c + icM (fun i => decide (f1 V i 0 = 0)) k x)) ∧ e_seenCount_91 n2 R (nI c) (nI x) = some (nI (c + icM (fun i => decide (f1 V i 0 = 0)) k x), R) := by
  intro k
  induction k with
  | zero =>
    intro x c n1 n2 hx1 hx h1 h2
    obtain ⟨n1, rfl⟩ : ∃ y, n1 = y + 1 := ⟨n1 - 1, by omega⟩
    obtain ⟨n2, rfl⟩ : ∃ y, n2 = y + 1 := ⟨n2 - 1, by omega⟩
    have z : (64 : Int32) < nI x := by rw [show x = 65 by omega]; decide
    rw [d_X7_freeInodes_4, e_seenCount_91, if_pos z, if_pos z]
    exact ⟨rfl, rfl⟩
  | succ k ih =>
    intro x c n1 n2 hx1 hx h1 h2
    obtain ⟨n1, rfl⟩ : ∃ y, n1 = y + 1 := ⟨n1 - 1, by omega⟩
    obtain ⟨n2, rfl⟩ : ∃ y, n2 = y + 1 := ⟨n2 - 1, by omega⟩
    have z : ¬ (64 : Int32) < nI x := nI_nlt (a := 64) (by omega) (by decide)
    have hir : ir x := ⟨hx1, by omega⟩
    obtain ⟨k1, k2⟩ := j_kind (D2 := D2) hN1 hN h hir
    have hf := f1_lt V x 0
    rw [d_X7_freeInodes_4, e_seenCount_91, if_neg z, if_neg z, bnd_o k1, bnd_o k2, nI_1, nI_1]
    show _ = some (nI (c + ((if decide (f1 V x 0 = 0) = true then 1 else 0) + icM _ k (x + 1)))) ∧ _ = some (nI (c + ((if decide (f1 V x 0 = 0) = true then 1 else 0) + icM _ k (x + 1))), R)
    by_cases c0 : f1 V x 0 = 0
    · have e : nI (f1 V x 0) = 0 := by rw [c0]; rfl
      rw [if_pos e, if_pos e, decide_eq_true c0, if_pos rfl, ← Nat.add_assoc]
      exact ih (x + 1) (c + 1) n1 n2 (by omega) (by omega) (by omega) (by omega)
    · have e : ¬ nI (f1 V x 0) = 0 := nI_ne0 (by omega) (by omega)
      rw [if_neg e, if_neg e, decide_eq_false c0, if_neg (by decide), Nat.zero_add]
      exact ih (x + 1) c n1 n2 (by omega) (by omega) (by omega) (by omega)
theorem c_li (hN1 : 61 ≤ N) (hN : N ≤ 1024) (h : JX N B gr A D R m V tk) : ∀ (k x c n1 n2 : Nat), 1 ≤ x → x + k = 65 → k < n1 → k < n2 → d_X7_lostInodes_4 N (vA A) D2 n1 (nI c) (nI x) = some (nI (c + icM (fun i => decide (f1 V i 0 ≠ 0 ∧ f1 V i 1 = 0)) k x)) ∧ e_seenCount_172 n2 R (nI c) (nI x) = some (nI (c + icM (fun i => decide (f1 V i 0 ≠ 0 ∧ f1 V i 1 = 0)) k x), R) := by
  intro k
  induction k with
  | zero =>
    intro x c n1 n2 hx1 hx h1 h2
    obtain ⟨n1, rfl⟩ : ∃ y, n1 = y + 1 := ⟨n1 - 1, by omega⟩
    obtain ⟨n2, rfl⟩ : ∃ y, n2 = y + 1 := ⟨n2 - 1, by omega⟩
    have z : (64 : Int32) < nI x := by rw [show x = 65 by omega]; decide
    rw [d_X7_lostInodes_4, e_seenCount_172, if_pos z, if_pos z]
    exact ⟨rfl, rfl⟩
  | succ k ih =>
    intro x c n1 n2 hx1 hx h1 h2
    obtain ⟨n1, rfl⟩ : ∃ y, n1 = y + 1 := ⟨n1 - 1, by omega⟩
    obtain ⟨n2, rfl⟩ : ∃ y, n2 = y + 1 := ⟨n2 - 1, by omega⟩
    have z : ¬ (64 : Int32) < nI x := nI_nlt (a := 64) (by omega) (by decide)
    have hir : ir x := ⟨hx1, by omega⟩
    obtain ⟨k1, k2⟩ := j_lost (D2 := D2) hN1 hN h hir
    rw [d_X7_lostInodes_4, e_seenCount_172, if_neg z, if_neg z, bnd_o k1, bnd_o k2, nI_1, nI_1]
    show _ = some (nI (c + ((if decide (f1 V x 0 ≠ 0 ∧ f1 V x 1 = 0) = true then 1 else 0) + icM _ k (x + 1)))) ∧ _ = some (nI (c + ((if decide (f1 V x 0 ≠ 0 ∧ f1 V x 1 = 0) = true then 1 else 0) + icM _ k (x + 1))), R)
    by_cases c0 : f1 V x 0 ≠ 0 ∧ f1 V x 1 = 0
    · rw [decide_eq_true c0, if_neg (show ¬ bI true = 0 by decide), if_neg (show ¬ bI true = 0 by decide), if_pos rfl, ← Nat.add_assoc]
      exact ih (x + 1) (c + 1) n1 n2 (by omega) (by omega) (by omega) (by omega)
    · rw [decide_eq_false c0, if_pos (show bI false = 0 from rfl), if_pos (show bI false = 0 from rfl), if_neg (by decide), Nat.zero_add]
      exact ih (x + 1) c n1 n2 (by omega) (by omega) (by omega) (by omega)
theorem z_rs {rs : Nat → Nat} (hr : RRs R rs) : ∀ (n k : Nat), k ≤ 1024 → 1024 - k < n → e_seenCount_123 n R (nI (rsT rs k)) (nI k) = some (nI (rsT rs 1024), R) := by
  intro n
  induction n with
  | zero => intro k _ h; exact absurd h (Nat.not_lt_zero _)
  | succ n ih =>
    intro k hk hn
    rw [e_seenCount_123]
    by_cases c : k = 1024
    · rw [c, if_pos (show (1024 : Int32) ≤ nI 1024 by decide)]
    · obtain ⟨r1, r2⟩ := hr k (by omega)
      rw [if_neg (show ¬ (1024 : Int32) ≤ nI k from nI_ge (b := 1024) (by omega) (by decide)), ld_n (show k < 1024 by omega) (by decide), r1, nI_1, nI_1]
      have es : rsT rs (k + 1) = rsT rs k + (if (if rs k = 0 then 0 else 1) = 1 then 1 else 0) := rfl
      by_cases c0 : rs k = 0
      · have e : rsT rs (k + 1) = rsT rs k := by rw [es, if_pos c0]; rfl
        rw [if_pos (show nI (rs k) = 0 by rw [c0]; rfl), ← e]
        exact ih (k + 1) (by omega) (by omega)
      · have e : rsT rs (k + 1) = rsT rs k + 1 := by rw [es, if_neg c0, if_pos rfl]
        rw [if_neg (nI_ne0 (by omega) (by omega)), ← e]
        exact ih (k + 1) (by omega) (by omega)
theorem r_count {a0 : Int32} (hN1 : 61 ≤ N) (hN : N ≤ 1024) (hx : ex 2 = 1) (h : IM N B gr u g A D R m V tk hd hi tp tl) (hL : LH V hd hi := by assumption) : RetR N B gr (u + 100) ex (d_X11_count N B gr A D a0) (e_count R a0) := by
  rw [d_X11_count, e_count]
  by_cases c1 : a0 < 0
  · rw [if_pos c1, if_pos c1, bnd2_o ref1, i10]
    exact RetR.no h.thr (by omega) (by rw [rS_0, hx]) (by decide) rfl rfl
  rw [if_neg c1, if_neg c1]
  by_cases c2 : a0 ≤ 17
  rotate_left
  · rw [if_neg c2, if_neg c2, bnd2_o ref1, i10]
    exact RetR.no h.thr (by omega) (by rw [rS_0, hx]) (by decide) rfl rfl
  obtain ⟨w, hw, rfl⟩ := nI_of c1
  have hw17 : w ≤ 17 := (nI_leI (b := 17) hw (by decide)).mp c2
  have h2 := h.thr (v := 0)
  have em : mA A = m := h.1.1.1
  obtain ⟨q18, q10, q13, q14, q12, q20⟩ := h2.1.2.1.1.1.cnt
  have e1 : A.1 = m.1 := by rw [← em]; rfl
  have e2 : A.2.1 = m.2.1 := by rw [← em]; rfl
  have e3 : A.2.2.1 = m.2.2.1 := by rw [← em]; rfl
  have e4 : A.2.2.2.1 = m.2.2.2.1 := by rw [← em]; rfl
  have e5 : A.2.2.2.2.1 = m.2.2.2.2 := by rw [← em]; rfl
  obtain ⟨⟨t1, t2, t3⟩, f2, f3, f4, f5, f6, f7, f8⟩ := h2.2.2.2.2.2.2.2.1
  have m0 : ¬ cS D 2 = 0 := by rw [f5.1]; decide
  have m1 : ¬ rS (setS R 0 0) 21 = 0 := by rw [f6]; decide
  have on := h2.1.2.1.1.1.on
  rw [if_pos c2, if_pos c2, bnd2_o ref0, i00, e_count_25]
  have ok : ∀ {X : RfT} {v : Int32} {cl : Option (FR Int32)} {rf : Option (Int32 × RfT)}, IM N B gr u g A D X m V tk hd hi tp tl → rS X 0 = 0 → cl = some (.inl (v, A, D)) → rf = some (v, X) → RetR N B gr (u + 100) ex cl rf := fun hX h0 a b => RetR.ok hX (by omega) h0 a b
  have hall : w = 0 ∨ w = 1 ∨ w = 2 ∨ w = 3 ∨ w = 4 ∨ w = 5 ∨ w = 6 ∨ w = 7 ∨ w = 8 ∨ w = 9 ∨ w = 10 ∨ w = 11 ∨ w = 12 ∨ w = 13 ∨ w = 14 ∨ w = 15 ∨ w = 16 ∨ w = 17 := by omega
  have lq := h2.1.2.1.1.2.1
  have qq := h2.1.2.1.1.2.2.1
  have rq := h2.1.2.1.1.2.2.2.1
  rcases hall with rfl | rfl | rfl | rfl | rfl | rfl | rfl | rfl | rfl | rfl | rfl | rfl | rfl | rfl | rfl | rfl | rfl | rfl
  · obtain ⟨x, z⟩ := z_freeBlocks (R := setS R 0 0) h2.1.2.1.1.2.2.2.2.2.2.1 hN1 hN h2.1.2.1.1.lk h2.1.2.1.1.by (by rw [h2.1.2.agu 43 (by decide) (by omega) (h2.1.2.2.2.1 43 (by decide))]; exact h2.1.2.2.2)
    have d := d_freeBlocks (N := N) (V := vA A) (D := D) hN1 hN (by rw [h2.1.1.agu 43 (by decide) (by omega) (h2.1.2.2.2.1 43 (by decide))]; exact h2.1.2.2.2)
    rw [h2.1.1.agu 43 (by decide) (by omega) (h2.1.2.2.2.1 43 (by decide))] at d
    rw [h2.1.2.agu 43 (by decide) (by omega) (h2.1.2.2.2.1 43 (by decide))] at z
    rw [if_pos (show nI 0 ≤ (5 : Int32) by decide), if_neg m0, d_X11_countMounted, if_pos (show nI 0 = (0 : Int32) from rfl), bnd_o d, if_pos (show nI 0 < (6 : Int32) by decide), if_neg m1, e_seenCount, if_pos (show nI 0 = (0 : Int32) from rfl), bnd2_o z]
    exact ok h2.a43 (rS_0 (R := R) (v := 0)) rfl rfl
  · obtain ⟨d, z⟩ := c_fi (D2 := D) hN1 hN h2.1 64 1 0 fuL fuL (by decide) rfl (by rw [fuL_4]; omega) (by rw [fuL_4]; omega)
    rw [Nat.zero_add, nI_0] at d z
    rw [if_pos (show nI 1 ≤ (5 : Int32) by decide), if_neg m0, d_X11_countMounted, if_neg (show ¬ nI 1 = (0 : Int32) by decide), if_pos (show nI 1 = (1 : Int32) from rfl), d_X7_freeInodes, bnd_o (show d_X7_freeInodes_4 N (vA A) D fuL 0 1 = _ from d), if_pos (show nI 1 < (6 : Int32) by decide), if_neg m1, e_seenCount, if_neg (show ¬ nI 1 = (0 : Int32) by decide), if_pos (show nI 1 = (1 : Int32) from rfl), bnd2_o (show e_seenCount_91 fuL (setS R 0 0) 0 1 = _ from z)]
    exact ok h2 rS_0 rfl rfl
  · have z := z_rs rq fuL 0 (by decide) (by rw [fuL_4]; omega)
    have zz : rsT m.2.2.2.2 1024 = rsT m.2.2.2.2 N := by
      unfold rsT
      rw [show 1024 = N + (1024 - N) by omega]
      exact rsC_x (fun b hb => by rw [h2.2.2.1.2.2.2.2.2.1 b hb]; decide) _
    rw [zz, show rsT m.2.2.2.2 0 = 0 from rfl, nI_0] at z
    rw [if_pos (show nI 2 ≤ (5 : Int32) by decide), if_neg m0, if_pos (show nI 2 < (6 : Int32) by decide), if_neg m1, show d_X11_countMounted N B gr A D (nI 2) = some (.inl (nI (rsT A.2.2.2.2.1 N), A, D)) from rfl, show e_seenCount (setS R 0 0) (nI 2) = e_seenCount_123 fuL (setS R 0 0) 0 0 from rfl, bnd2_o z, e5]
    exact ok h2 rS_0 rfl rfl
  · rw [if_pos (show nI 3 ≤ (5 : Int32) by decide), if_neg m0, if_pos (show nI 3 < (6 : Int32) by decide), if_neg m1, show d_X11_countMounted N B gr A D (nI 3) = some (.inl (nI A.2.2.2.1.length, A, D)) from rfl, show e_seenCount (setS R 0 0) (nI 3) = some (rS (setS R 0 0) 29, setS R 0 0) from rfl, qq.1, e4]
    exact ok h2 rS_0 rfl rfl
  · rw [if_pos (show nI 4 ≤ (5 : Int32) by decide), if_neg m0, if_pos (show nI 4 < (6 : Int32) by decide), if_neg m1, show d_X11_countMounted N B gr A D (nI 4) = some (.inl (nI A.2.1.length, A, D)) from rfl, show e_seenCount (setS R 0 0) (nI 4) = some (rS (setS R 0 0) 25, setS R 0 0) from rfl, lq.2.1, e2]
    exact ok h2 rS_0 rfl rfl
  · rw [if_pos (show nI 5 ≤ (5 : Int32) by decide), if_neg m0, if_pos (show nI 5 < (6 : Int32) by decide), if_neg m1, show d_X11_countMounted N B gr A D (nI 5) = some (.inl (A.2.2.1, A, D)) from rfl, show e_seenCount (setS R 0 0) (nI 5) = some (rS (setS R 0 0) 22, setS R 0 0) from rfl, lq.1, e3]
    exact ok h2 rS_0 rfl rfl
  · rw [if_neg (show ¬ nI 6 ≤ (5 : Int32) by decide), if_pos (show nI 6 < (15 : Int32) by decide), if_pos (show nI 6 = (6 : Int32) from rfl), if_neg (show ¬ nI 6 < (6 : Int32) by decide), if_pos (show nI 6 ≤ (14 : Int32) by decide), if_pos (show nI 6 = (6 : Int32) from rfl), q18, e1]
    exact ok h2 rS_0 rfl rfl
  · rw [if_neg (show ¬ nI 7 ≤ (5 : Int32) by decide), if_pos (show nI 7 < (15 : Int32) by decide), if_neg (show ¬ nI 7 = (6 : Int32) by decide), if_pos (show nI 7 = (7 : Int32) from rfl), if_neg (show ¬ nI 7 < (6 : Int32) by decide), if_pos (show nI 7 ≤ (14 : Int32) by decide), if_neg (show ¬ nI 7 = (6 : Int32) by decide), if_pos (show nI 7 = (7 : Int32) from rfl), q10, e1]
    exact ok h2 rS_0 rfl rfl
  · rw [if_neg (show ¬ nI 8 ≤ (5 : Int32) by decide), if_pos (show nI 8 < (15 : Int32) by decide), if_neg (show ¬ nI 8 = (6 : Int32) by decide), if_neg (show ¬ nI 8 = (7 : Int32) by decide), if_pos (show nI 8 = (8 : Int32) from rfl), if_neg (show ¬ nI 8 < (6 : Int32) by decide), if_pos (show nI 8 ≤ (14 : Int32) by decide), if_neg (show ¬ nI 8 = (6 : Int32) by decide), if_neg (show ¬ nI 8 = (7 : Int32) by decide), if_pos (show nI 8 = (8 : Int32) from rfl), q13, e1]
    exact ok h2 rS_0 rfl rfl
  · rw [if_neg (show ¬ nI 9 ≤ (5 : Int32) by decide), if_pos (show nI 9 < (15 : Int32) by decide), if_neg (show ¬ nI 9 = (6 : Int32) by decide), if_neg (show ¬ nI 9 = (7 : Int32) by decide), if_neg (show ¬ nI 9 = (8 : Int32) by decide), if_pos (show nI 9 = (9 : Int32) from rfl), if_neg (show ¬ nI 9 < (6 : Int32) by decide), if_pos (show nI 9 ≤ (14 : Int32) by decide), if_neg (show ¬ nI 9 = (6 : Int32) by decide), if_neg (show ¬ nI 9 = (7 : Int32) by decide), if_neg (show ¬ nI 9 = (8 : Int32) by decide), if_pos (show nI 9 = (9 : Int32) from rfl), q14, e1]
    exact ok h2 rS_0 rfl rfl
  · rw [if_neg (show ¬ nI 10 ≤ (5 : Int32) by decide), if_pos (show nI 10 < (15 : Int32) by decide), if_neg (show ¬ nI 10 = (6 : Int32) by decide), if_neg (show ¬ nI 10 = (7 : Int32) by decide), if_neg (show ¬ nI 10 = (8 : Int32) by decide), if_neg (show ¬ nI 10 = (9 : Int32) by decide), if_pos (show nI 10 = (10 : Int32) from rfl), if_neg (show ¬ nI 10 < (6 : Int32) by decide), if_pos (show nI 10 ≤ (14 : Int32) by decide), if_neg (show ¬ nI 10 = (6 : Int32) by decide), if_neg (show ¬ nI 10 = (7 : Int32) by decide), if_neg (show ¬ nI 10 = (8 : Int32) by decide), if_neg (show ¬ nI 10 = (9 : Int32) by decide), if_pos (show nI 10 = (10 : Int32) from rfl), q12, e1]
    exact ok h2 rS_0 rfl rfl
  · rw [if_neg (show ¬ nI 11 ≤ (5 : Int32) by decide), if_pos (show nI 11 < (15 : Int32) by decide), if_neg (show ¬ nI 11 = (6 : Int32) by decide), if_neg (show ¬ nI 11 = (7 : Int32) by decide), if_neg (show ¬ nI 11 = (8 : Int32) by decide), if_neg (show ¬ nI 11 = (9 : Int32) by decide), if_neg (show ¬ nI 11 = (10 : Int32) by decide), if_pos (show nI 11 = (11 : Int32) from rfl), if_neg (show ¬ nI 11 < (6 : Int32) by decide), if_pos (show nI 11 ≤ (14 : Int32) by decide), if_neg (show ¬ nI 11 = (6 : Int32) by decide), if_neg (show ¬ nI 11 = (7 : Int32) by decide), if_neg (show ¬ nI 11 = (8 : Int32) by decide), if_neg (show ¬ nI 11 = (9 : Int32) by decide), if_neg (show ¬ nI 11 = (10 : Int32) by decide), if_pos (show nI 11 = (11 : Int32) from rfl), q20, e1]
    exact ok h2 rS_0 rfl rfl
  · rw [if_neg (show ¬ nI 12 ≤ (5 : Int32) by decide), if_pos (show nI 12 < (15 : Int32) by decide), if_neg (show ¬ nI 12 = (6 : Int32) by decide), if_neg (show ¬ nI 12 = (7 : Int32) by decide), if_neg (show ¬ nI 12 = (8 : Int32) by decide), if_neg (show ¬ nI 12 = (9 : Int32) by decide), if_neg (show ¬ nI 12 = (10 : Int32) by decide), if_neg (show ¬ nI 12 = (11 : Int32) by decide), if_pos (show nI 12 = (12 : Int32) from rfl), if_neg (show ¬ nI 12 < (6 : Int32) by decide), if_pos (show nI 12 ≤ (14 : Int32) by decide), if_neg (show ¬ nI 12 = (6 : Int32) by decide), if_neg (show ¬ nI 12 = (7 : Int32) by decide), if_neg (show ¬ nI 12 = (8 : Int32) by decide), if_neg (show ¬ nI 12 = (9 : Int32) by decide), if_neg (show ¬ nI 12 = (10 : Int32) by decide), if_neg (show ¬ nI 12 = (11 : Int32) by decide), if_pos (show nI 12 = (12 : Int32) from rfl), f2, f3]
    exact ok h2 rS_0 rfl rfl
  · rw [if_neg (show ¬ nI 13 ≤ (5 : Int32) by decide), if_pos (show nI 13 < (15 : Int32) by decide), if_neg (show ¬ nI 13 = (6 : Int32) by decide), if_neg (show ¬ nI 13 = (7 : Int32) by decide), if_neg (show ¬ nI 13 = (8 : Int32) by decide), if_neg (show ¬ nI 13 = (9 : Int32) by decide), if_neg (show ¬ nI 13 = (10 : Int32) by decide), if_neg (show ¬ nI 13 = (11 : Int32) by decide), if_neg (show ¬ nI 13 = (12 : Int32) by decide), if_pos (show nI 13 = (13 : Int32) from rfl), if_neg (show ¬ nI 13 < (6 : Int32) by decide), if_pos (show nI 13 ≤ (14 : Int32) by decide), if_neg (show ¬ nI 13 = (6 : Int32) by decide), if_neg (show ¬ nI 13 = (7 : Int32) by decide), if_neg (show ¬ nI 13 = (8 : Int32) by decide), if_neg (show ¬ nI 13 = (9 : Int32) by decide), if_neg (show ¬ nI 13 = (10 : Int32) by decide), if_neg (show ¬ nI 13 = (11 : Int32) by decide), if_neg (show ¬ nI 13 = (12 : Int32) by decide), if_pos (show nI 13 = (13 : Int32) from rfl), if_neg m0, if_neg m1]
    exact ok h2 rS_0 rfl rfl
  · rw [if_neg (show ¬ nI 14 ≤ (5 : Int32) by decide), if_pos (show nI 14 < (15 : Int32) by decide), if_neg (show ¬ nI 14 = (6 : Int32) by decide), if_neg (show ¬ nI 14 = (7 : Int32) by decide), if_neg (show ¬ nI 14 = (8 : Int32) by decide), if_neg (show ¬ nI 14 = (9 : Int32) by decide), if_neg (show ¬ nI 14 = (10 : Int32) by decide), if_neg (show ¬ nI 14 = (11 : Int32) by decide), if_neg (show ¬ nI 14 = (12 : Int32) by decide), if_neg (show ¬ nI 14 = (13 : Int32) by decide), if_neg (show ¬ nI 14 < (6 : Int32) by decide), if_pos (show nI 14 ≤ (14 : Int32) by decide), if_neg (show ¬ nI 14 = (6 : Int32) by decide), if_neg (show ¬ nI 14 = (7 : Int32) by decide), if_neg (show ¬ nI 14 = (8 : Int32) by decide), if_neg (show ¬ nI 14 = (9 : Int32) by decide), if_neg (show ¬ nI 14 = (10 : Int32) by decide), if_neg (show ¬ nI 14 = (11 : Int32) by decide), if_neg (show ¬ nI 14 = (12 : Int32) by decide), if_neg (show ¬ nI 14 = (13 : Int32) by decide), if_neg on]
    exact ok h2 rS_0 rfl rfl
  · obtain ⟨d, z⟩ := c_li (D2 := D) hN1 hN h2.1 64 1 0 fuL fuL (by decide) rfl (by rw [fuL_4]; omega) (by rw [fuL_4]; omega)
    rw [Nat.zero_add, nI_0] at d z
    rw [if_neg (show ¬ nI 15 ≤ (5 : Int32) by decide), if_neg (show ¬ nI 15 < (15 : Int32) by decide), if_neg m0, if_neg (show ¬ nI 15 < (6 : Int32) by decide), if_neg (show ¬ nI 15 ≤ (14 : Int32) by decide), if_neg m1, show d_X11_countMounted N B gr A D (nI 15) = bnd (d_X7_lostInodes N (vA A) D) (fun v87 => some (.inl (v87, A, D))) from rfl, show e_seenCount (setS R 0 0) (nI 15) = e_seenCount_172 fuL (setS R 0 0) 0 1 from rfl, d_X7_lostInodes, bnd_o (show d_X7_lostInodes_4 N (vA A) D fuL 0 1 = _ from d), bnd2_o (show e_seenCount_172 fuL (setS R 0 0) 0 1 = _ from z)]
    exact ok h2 rS_0 rfl rfl
  · have hg := h2.2.2.2.2.2.2.2.2.1
    rw [if_neg (show ¬ nI 16 ≤ (5 : Int32) by decide), if_neg (show ¬ nI 16 < (15 : Int32) by decide), if_neg m0, if_neg (show ¬ nI 16 < (6 : Int32) by decide), if_neg (show ¬ nI 16 ≤ (14 : Int32) by decide), if_neg m1, show d_X11_countMounted N B gr A D (nI 16) = (if (gpI A) = 0 then some (.inl ((0 : Int32), A, D)) else some (.inl ((1 : Int32), A, D))) from rfl, show e_seenCount (setS R 0 0) (nI 16) = (if (rS (setS R 0 0) 34) = 0 then some ((0 : Int32), setS R 0 0) else some ((1 : Int32), setS R 0 0)) from rfl, f7]
    cases g with
    | false =>
      rw [if_pos (by unfold gpI; rw [show A.2.2.2.2.2.2.2 = false from hg]; rfl), if_pos (show bI false = 0 from rfl)]
      exact ok h2 rS_0 rfl rfl
    | true =>
      rw [if_neg (by unfold gpI; rw [show A.2.2.2.2.2.2.2 = true from hg]; decide), if_neg (show ¬ bI true = 0 by decide)]
      exact ok h2 rS_0 rfl rfl
  · obtain ⟨-, hb2, -⟩ := h2.2.2.2.2.2.1
    rw [if_neg (show ¬ nI 17 ≤ (5 : Int32) by decide), if_neg (show ¬ nI 17 < (15 : Int32) by decide), if_neg m0, if_neg (show ¬ nI 17 < (6 : Int32) by decide), if_neg (show ¬ nI 17 ≤ (14 : Int32) by decide), if_neg m1, show d_X11_countMounted N B gr A D (nI 17) = d_X11_countMounted_156 N B gr A D from rfl, show e_seenCount (setS R 0 0) (nI 17) = e_seenCount_215 (setS R 0 0) from rfl, d_X11_countMounted_156, d_X5_openHandles, e_seenCount_215, bnd_o d_handlesOn, bnd_o z_handlesOn, show (0 : Int32) = nI 0 from rfl, ho_rs (by decide) (fun k hk => ⟨(hb2 k hk).1, (hb2 k hk).2.2⟩) 32 (Nat.le_refl _), ho_rs (by decide) (fun k hk => ⟨(hb2 k hk).2.1, (hb2 k hk).2.2⟩) 32 (Nat.le_refl _)]
    exact ok h2 rS_0 rfl rfl
end PYQ
