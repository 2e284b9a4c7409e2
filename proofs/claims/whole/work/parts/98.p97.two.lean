/-! ===== pure: two paths on the tape ===== -/
section PXX
variable {N B gr r u : Nat} {V W : Nat → Rw} {m m' : M5} {tk : Nat → Bool} {A A' : MS} {D D' D2 : CfT} {R R' : RfT} {g : Bool} {hd hi : Nat → Nat} {tp : Nat → Int32} {tl : Nat} {ex : Nat → Int32} {i : Nat}
theorem nb0 {c : Int32} (h : nbOk c) : c ≠ 0 := fun z => by
  rw [z] at h
  revert h
  unfold nbOk
  decide
theorem path_ok_l {to base : Nat} (hto : to ≤ 1024) (hbase : base + 16 ≤ 32) : ∀ (d n x k : Nat) (R : RfT) (v : Int32) (R' : RfT), to - x < d → to - x < n → x ≤ to → k ≤ 16 → (∀ j, j < 1024 → rA R 4 j = tp j) → e_path_44 n R (nI to) (nI base) (nI k) (nI x) = some (v, R') → v ≠ -1 → ∀ j, x < j → j < to → tp j ≠ 0 := by
  intro d
  induction d with
  | zero => intro n x k R v R' h; exact absurd h (Nat.not_lt_zero _)
  | succ d ih =>
    intro n x k R v R' hd hn hx hk hR he hv
    obtain ⟨n1, rfl⟩ : ∃ n1, n = n1 + 1 := ⟨n - 1, by omega⟩
    rw [e_path_44] at he
    by_cases c : to ≤ x
    · intro j j1 j2
      omega
    · rw [if_neg (nI_ge (by omega) (by omega)), nI_1] at he
      obtain ⟨e, p1, p2, p3, p4, p5⟩ := r_scan (R := R) (tp := tp) (base := base) (k := k) (s := x + 1) (self := e_path_44 n1) hto hR fuL (x + 1) (Nat.le_refl _) (by omega) (by rw [fuL_4]; omega) (fun j h1 h2 => by omega)
      rw [p5] at he
      rcases r_name (R := R) (tp := tp) (to := to) (base := base) (k := k) (s := x + 1) (e := e) (self := e_path_44 n1) hto hk hbase hR p1 p2 p3 with ⟨⟨a1, a2, a3⟩, a4⟩ | ⟨a1, a2⟩
      · rw [a4] at he
        have q := ih n1 e (k + 1) (setA (setA R 50 (upd (rA R 50) (base + k) (nI (x + 1)))) 51 (upd (rA R 51) (base + k) (nI (e - (x + 1))))) v R' (by omega) (by omega) p2 (by omega) (fun j hj => hR j hj) he hv
        intro j j1 j2
        by_cases cj : j < e
        · exact nb0 (p3 j (by omega) cj)
        · by_cases ce : j = e
          · rcases a3 with z | z
            · omega
            · rw [ce, z]
              decide
          · exact q j (by omega) j2
      · rw [a2] at he
        cases he
        exact absurd rfl hv
theorem path_ok {a to base : Nat} {v : Int32} (hto : to ≤ 1024) (ha : a ≤ to) (hbase : base + 16 ≤ 32) (hR : ∀ j, j < 1024 → rA R 4 j = tp j) (he : e_path R (nI a) (nI to) (nI base) = some (v, R')) (hv : v ≠ -1) : ∀ j, a ≤ j → j < to → tp j ≠ 0 := by
  rw [e_path, pk_sub ha] at he
  split at he
  · cases he
    exact absurd rfl hv
  · split at he
    · cases he
      exact absurd rfl hv
    · next h1 h2 =>
      have hlt : a < to := by
        refine Classical.byContradiction (fun z => h1 ?_)
        rw [show to - a = 0 by omega]
        decide
      rw [ld_n (show a < 1024 by omega) (by decide), hR a (by omega)] at he
      split at he
      · next h3 =>
        split at he
        · next h4 =>
          have e1 : to - a = 1 := nI_inj (b := 1) (by omega) (by decide) h4
          intro j j1 j2
          rw [show j = a by omega, h3]
          decide
        · have q := path_ok_l (tp := tp) hto hbase (to - a + 1) fuL a 0 R v R' (by omega) (by rw [fuL_4]; omega) ha (by decide) hR he hv
          intro j j1 j2
          by_cases c : j = a
          · rw [c, h3]
            decide
          · exact q j (by omega) j2
      · cases he
        exact absurd rfl hv
/-- the first byte 0 -/
theorem split_l {n : Nat} (hn : n ≤ 1024) (hD : ∀ j, j < 1024 → cA D 1 j = tp j) : ∀ (f x : Nat), x ≤ n → n - x < f → (∀ j, j < x → tp j ≠ 0) → ∃ z, z ≤ n ∧ (∀ j, j < z → tp j ≠ 0) ∧ (z = n ∨ tp z = 0) ∧ d_X11_splitTape_2 N W f D (nI n) (nI x) = d_X11_splitTape_22 N W D (nI n) (nI z) := by
  intro f
  induction f with
  | zero => intro x _ h; exact absurd h (Nat.not_lt_zero _)
  | succ f ih =>
    intro x hx hf h0
    rw [d_X11_splitTape_2]
    by_cases c : x = n
    · rw [if_pos (nI_le (by omega) (by omega))]
      exact ⟨x, hx, h0, Or.inl c, rfl⟩
    · rw [if_neg (nI_ge (by omega) (by omega)), ld_n (show x < 1024 by omega) (by decide), hD x (by omega)]
      by_cases cz : tp x = 0
      · rw [if_pos cz]
        exact ⟨x, hx, h0, Or.inr cz, rfl⟩
      · rw [if_neg cz, nI_1]
        exact ih (x + 1) (by omega) (by omega) (fun j hj => by
          by_cases e : j = x
          · rw [e]; exact cz
          · exact h0 j (by omega))
/-- what the reference does behind its loop -/
def tpE (R : RfT) (n z : Nat) : Option (Int32 × RfT) := bnd2 (e_path R 0 (nI z) 0) (fun v24 R24 => ptR R24 56 v24 (fun R25 => if (rS R25 56) = ((-1 : Int32)) then some ((-1 : Int32), R25) else bnd2 (e_path R25 ((nI z) + ((1 : Int32))) (nI n) ((16 : Int32))) (fun v26 R26 => some (v26, R26))))
theorem two_l1 {n z : Nat} (hn : n ≤ 1024) (hz : z < n) (hR : ∀ j, j < 1024 → rA R 4 j = tp j) : ∀ (f x : Nat), z < x → x ≤ n → n - x < f → (∀ j, z < j → j < x → tp j ≠ 0) → (((∀ j, z < j → j < n → tp j ≠ 0) ∧ e_twoPaths_4 f R (nI n) (nI z) (nI x) = tpE R n z) ∨ ((∃ j, z < j ∧ j < n ∧ tp j = 0) ∧ e_twoPaths_4 f R (nI n) (nI z) (nI x) = some (-1, R))) := by
  intro f
  induction f with
  | zero => intro x _ _ h; exact absurd h (Nat.not_lt_zero _)
  | succ f ih =>
    intro x hzx hx hf h0
    have zm : ¬ nI z = (-1 : Int32) := nI_m1 (by omega)
    rw [e_twoPaths_4]
    by_cases c : x = n
    · rw [if_pos (nI_le (by omega) (by omega)), if_neg zm]
      exact Or.inl ⟨fun j j1 j2 => h0 j j1 (by omega), rfl⟩
    · rw [if_neg (nI_ge (by omega) (by omega)), ld_n (show x < 1024 by omega) (by decide), hR x (by omega)]
      by_cases cz : tp x = 0
      · rw [if_pos cz, if_neg zm]
        exact Or.inr ⟨⟨x, hzx, by omega, cz⟩, rfl⟩
      · rw [if_neg cz, nI_1]
        exact ih (x + 1) (by omega) (by omega) (by omega) (fun j j1 j2 => by
          by_cases e : j = x
          · rw [e]; exact cz
          · exact h0 j j1 (by omega))
theorem two_l0 {n z : Nat} (hn : n ≤ 1024) (hz : z ≤ n) (h0 : ∀ j, j < z → tp j ≠ 0) (hz0 : z = n ∨ tp z = 0) (hR : ∀ j, j < 1024 → rA R 4 j = tp j) : ∀ (f x : Nat), x ≤ z → n - x < f → ((z = n ∧ e_twoPaths_4 f R (nI n) (-1) (nI x) = some (-1, R)) ∨ (z < n ∧ (((∀ j, z < j → j < n → tp j ≠ 0) ∧ e_twoPaths_4 f R (nI n) (-1) (nI x) = tpE R n z) ∨ ((∃ j, z < j ∧ j < n ∧ tp j = 0) ∧ e_twoPaths_4 f R (nI n) (-1) (nI x) = some (-1, R))))) := by
  intro f
  induction f with
  | zero => intro x _ h; exact absurd h (Nat.not_lt_zero _)
  | succ f ih =>
    intro x hx hf
    rw [e_twoPaths_4]
    by_cases c : x = n
    · rw [if_pos (nI_le (by omega) (by omega)), im1]
      exact Or.inl ⟨by omega, rfl⟩
    · rw [if_neg (nI_ge (by omega) (by omega)), ld_n (show x < 1024 by omega) (by decide), hR x (by omega)]
      by_cases cz : tp x = 0
      · have ez : x = z := by
          by_cases e : x = z
          · exact e
          · exact absurd cz (h0 x (by omega))
        rw [if_pos cz, im1, nI_1, ez]
        exact Or.inr ⟨by omega, two_l1 hn (by omega) hR f (z + 1) (by omega) (by omega) (by omega) (fun j j1 j2 => by omega)⟩
      · have hxz : x ≠ z := fun e => by
          rcases hz0 with q | q
          · omega
          · rw [← e] at q
            exact cz q
        rw [if_neg cz, nI_1]
        exact ih (x + 1) (by omega) (by omega)
theorem IM.s56 {v : Int32} (h : IM N B gr u g A D R m V tk hd hi tp tl) : IM N B gr u g A D (setS R 56 v) m V tk hd hi tp tl := h.fr rfl rfl (Fn.s (S := [56]) (T := []) (by decide)) (by decide) (by decide) (Kep.of Dt.rf (Fq.s (S := [56]) (T := []) (by decide)) (by decide) (by decide)) (by decide) rfl
/-- the tape as two paths -/
theorem IM.two {n : Nat} (hn : n ≤ 1024) (h : IM N B gr u g A D R m V tk hd hi tp tl) : ∃ D' R', IM N B gr u g A D' R' m V tk hd hi tp tl ∧ TpR D' R' tp ∧ Fn [56] [50, 51] R R' ∧ ((d_X11_splitTape N (vA A) D (nI n) = some (0, D') ∧ e_twoPaths R (nI n) = some (-1, R')) ∨ ∃ k st ln k2 st2 ln2, d_X11_splitTape N (vA A) D (nI n) = some (1, D') ∧ e_twoPaths R (nI n) = some (nI k2, R') ∧ rS R' 56 = nI k ∧ PthC47 D' k st ln ∧ PthR R' 0 k st ln ∧ NmS tp k st ln ∧ PthC50 D' k2 st2 ln2 ∧ PthR R' 16 k2 st2 ln2 ∧ NmS tp k2 st2 ln2) := by
  obtain ⟨t1, t2, t3⟩ := h.2.2.2.2.2.2.2.1.1
  obtain ⟨z, z1, z2, z3, z4⟩ := split_l (N := N) (W := vA A) hn (fun j _ => t2 j) fuL 0 (by omega) (by rw [fuL_4]; omega) (fun j hj => by omega)
  have z4 : d_X11_splitTape N (vA A) D (nI n) = d_X11_splitTape_22 N (vA A) D (nI n) (nI z) := z4
  have f0 : Fn [56] [50, 51] R R := Fn.rf
  rcases two_l0 (tp := tp) hn z1 z2 z3 t3 fuL 0 (by omega) (by rw [fuL_4]; omega) with ⟨e, q⟩ | ⟨e, ⟨q1, q2⟩ | ⟨⟨j, j1, j2, j3⟩, q2⟩⟩
  · refine ⟨D, R, h, h.2.2.2.2.2.2.2.1.1, f0, Or.inl ⟨?_, q⟩⟩
    rw [z4, d_X11_splitTape_22, if_pos (nI_le (by omega) (by omega))]
  · have q2 : e_twoPaths R (nI n) = tpE R n z := q2
    obtain ⟨D1, R1, e1, e2, e3, e4⟩ := j_path47 (N := N) (V := vA A) (a := 0) (to := z) (base := 0) (by omega) (Nat.zero_le _) (by decide) (fun j _ => t2 j) t3
    have h1 := h.p47 e1 e2
    have f1 : Fn [56] [50, 51] R R1 := e2.wk (by decide) (fun _ h => h)
    rw [z4, q2, d_X11_splitTape_22, if_neg (nI_ge (by omega) (by omega)), tpE]
    rcases e4 with ⟨a1, a2⟩ | ⟨k, st, ln, a1, a2, a3, a4, a5⟩
    · have a1 : d_X8_parse_47 N (vA A) D 0 (nI z) = some (0, D1) := a1
      have a2 : e_path R 0 (nI z) 0 = some (-1, R1) := a2
      refine ⟨D1, setS R1 56 (-1), h1.s56, h1.s56.2.2.2.2.2.2.2.1.1, f1.tr (Fn.s (by decide)), Or.inl ⟨?_, ?_⟩⟩
      · rw [bnd2_o a1, i00]
      · rw [bnd2_o a2, ptR, if_pos (pk_us (f := R1.1) (k := 56))]
    · have a1 : d_X8_parse_47 N (vA A) D 0 (nI z) = some (1, D1) := a1
      have a2 : e_path R 0 (nI z) 0 = some (nI k, R1) := a2
      have hk := a3.2.1
      have h2 := h1.s56 (v := nI k)
      obtain ⟨s1, s2, s3⟩ := h2.2.2.2.2.2.2.2.1.1
      obtain ⟨D3, R3, b1, b2, b3, b4⟩ := j_path50 (N := N) (V := vA A) (a := z + 1) (to := n) (base := 16) hn (by omega) (by decide) (fun j _ => s2 j) s3
      have h3 := h2.p50 b1 b2
      have c56 : rS (setS R1 56 (nI k)) 56 = nI k := pk_us (f := R1.1) (k := 56)
      have f3 : Fn [56] [50, 51] R R3 := (f1.tr (Fn.s (by decide))).tr (b2.wk (by decide) (fun _ h => h))
      have pC : PthC47 D3 k st ln := ⟨(b1.1 4702 (by decide)).trans a3.1, hk, fun j hj => by
        rw [show cA D3 48 = cA D1 48 from b1.2 48 (by decide) (by decide), show cA D3 49 = cA D1 49 from b1.2 49 (by decide) (by decide)]
        exact a3.2.2 j hj⟩
      have pR : PthR R3 0 k st ln := fun j hj => by
        obtain ⟨w1, w2⟩ := b3 (0 + j) (Or.inl (by omega))
        rw [w1, w2]
        exact a4 j hj
      rcases b4 with ⟨d1, d2⟩ | ⟨k2, st2, ln2, d1, d2, d3, d4, d5⟩
      · refine ⟨D3, R3, h3, h3.2.2.2.2.2.2.2.1.1, f3, Or.inl ⟨?_, ?_⟩⟩
        · rw [bnd2_o a1, i10, nI_1, bnd2_o d1, i00]
        · rw [bnd2_o a2, ptR, c56, if_neg (nI_m1 (by omega)), nI_1, bnd2_o (show e_path (setS R1 56 (nI k)) (nI (z + 1)) (nI n) 16 = some (-1, R3) from d2)]
      · refine ⟨D3, R3, h3, h3.2.2.2.2.2.2.2.1.1, f3, Or.inr ⟨k, st, ln, k2, st2, ln2, ?_, ?_, by rw [b2.1.1 56 (List.not_mem_nil)]; exact c56, pC, pR, a5, d3, d4, d5⟩⟩
        · rw [bnd2_o a1, i10, nI_1, bnd2_o d1, i10]
        · rw [bnd2_o a2, ptR, c56, if_neg (nI_m1 (by omega)), nI_1, bnd2_o (show e_path (setS R1 56 (nI k)) (nI (z + 1)) (nI n) 16 = some (nI k2, R3) from d2)]
  · have q2 : e_twoPaths R (nI n) = some (-1, R) := q2
    obtain ⟨D1, R1, e1, e2, e3, e4⟩ := j_path47 (N := N) (V := vA A) (a := 0) (to := z) (base := 0) (by omega) (Nat.zero_le _) (by decide) (fun j _ => t2 j) t3
    rw [z4, d_X11_splitTape_22, if_neg (nI_ge (by omega) (by omega))]
    have hR0 := h.p47 (D' := D1) e1 (R' := R) (Fn.rf)
    rcases e4 with ⟨a1, a2⟩ | ⟨k, st, ln, a1, a2, a3, a4, a5⟩
    · refine ⟨D1, R, hR0, hR0.2.2.2.2.2.2.2.1.1, f0, Or.inl ⟨?_, q2⟩⟩
      rw [bnd2_o (show d_X8_parse_47 N (vA A) D 0 (nI z) = some (0, D1) from a1), i00]
    · obtain ⟨s1, s2, s3⟩ := hR0.2.2.2.2.2.2.2.1.1
      obtain ⟨D3, R3, b1, b2, b3, b4⟩ := j_path50 (N := N) (V := vA A) (a := z + 1) (to := n) (base := 16) hn (by omega) (by decide) (fun j _ => s2 j) s3
      rcases b4 with ⟨d1, d2⟩ | ⟨k2, st2, ln2, d1, d2, d3, d4, d5⟩
      · have hR1 := hR0.p50 (D' := D3) b1 (R' := R) (Fn.rf)
        refine ⟨D3, R, hR1, hR1.2.2.2.2.2.2.2.1.1, f0, Or.inl ⟨?_, q2⟩⟩
        rw [bnd2_o (show d_X8_parse_47 N (vA A) D 0 (nI z) = some (1, D1) from a1), i10, nI_1, bnd2_o d1, i00]
      · exact absurd j3 (path_ok (tp := tp) hn (by omega) (by decide) s3 d2 (nI_m1 (by have := d3.2.1; omega)) j (by omega) j2)
end PXX
