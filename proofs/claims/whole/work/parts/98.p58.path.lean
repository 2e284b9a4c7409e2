/-! ===== pure: both take a path apart ===== -/
section PWI
variable {N : Nat} {V : Nat → Rw}
def PthR (R : RfT) (base k : Nat) (st ln : Nat → Nat) : Prop := ∀ j, j < k → rA R 50 (base + j) = nI (st j) ∧ rA R 51 (base + j) = nI (ln j)
def NmS (tp : Nat → Int32) (k : Nat) (st ln : Nat → Nat) : Prop := ∀ j, j < k → nmOk tp (st j) (ln j) ∧ st j + ln j ≤ 1024
theorem nb47 : ¬ nbOk 47 := by
  unfold nbOk
  decide
theorem r_scan {R : RfT} {tp : Nat → Int32} {to base k s : Nat} {self : RfT → Int32 → Int32 → Int32 → Int32 → Option (Int32 × RfT)} (hto : to ≤ 1024) (hR : ∀ j, j < 1024 → rA R 4 j = tp j) : ∀ (m x : Nat), s ≤ x → x ≤ to → to - x < m → (∀ j, s ≤ j → j < x → nbOk (tp j)) → ∃ e, s ≤ e ∧ e ≤ to ∧ (∀ j, s ≤ j → j < e → nbOk (tp j)) ∧ (e = to ∨ ¬ nbOk (tp e)) ∧ e_path_60 self m R (nI to) (nI base) (nI k) (nI s) (nI x) = e_path_85 self R (nI to) (nI base) (nI k) (nI s) (nI e) := by
  intro m
  induction m with
  | zero => intro x _ _ h; exact absurd h (Nat.not_lt_zero _)
  | succ m ih =>
    intro x hs hx hm hb
    rw [e_path_60]
    by_cases c : x = to
    · rw [c, if_pos (nI_le (Nat.le_refl _) (by omega))]
      rw [c] at hb
      exact ⟨to, by omega, Nat.le_refl _, hb, Or.inl rfl, rfl⟩
    · obtain ⟨r, -, r2, r3⟩ := d_nb (N := 0) (V := fun _ => zR) (R := R) (D := (fun _ => 0, fun _ _ => 0, fun _ _ _ => 0)) (c := tp x)
      rw [if_neg (nI_ge (by omega) (by omega)), ld_n (by omega) (by decide), hR x (by omega), bnd_o r2]
      cases r with
      | false =>
        rw [if_pos (show bI false = 0 from rfl)]
        exact ⟨x, hs, hx, hb, Or.inr (fun z => by cases r3.mpr z), rfl⟩
      | true =>
        rw [if_neg (show ¬ bI true = 0 by decide), nI_1]
        exact ih (x + 1) (by omega) (by omega) (by omega) (fun j h1 h2 => by
          by_cases cj : j = x
          · rw [cj]
            exact r3.mp rfl
          · exact hb j h1 (by omega))
/-- what the reference finds of a name's end on -/
theorem r_name {R : RfT} {tp : Nat → Int32} {to base k s e : Nat} {self : RfT → Int32 → Int32 → Int32 → Int32 → Option (Int32 × RfT)} (hto : to ≤ 1024) (hk : k ≤ 16) (hbase : base + 16 ≤ 32) (hR : ∀ j, j < 1024 → rA R 4 j = tp j) (h1 : s ≤ e) (h2 : e ≤ to) (hb : ∀ j, s ≤ j → j < e → nbOk (tp j)) : ((k < 16 ∧ nmOk tp s (e - s) ∧ (e = to ∨ tp e = 47)) ∧ e_path_85 self R (nI to) (nI base) (nI k) (nI s) (nI e) = self (setA (setA R 50 (upd (rA R 50) (base + k) (nI s))) 51 (upd (rA R 51) (base + k) (nI (e - s)))) (nI to) (nI base) (nI (k + 1)) (nI e)) ∨ (¬ (k < 16 ∧ nmOk tp s (e - s) ∧ (e = to ∨ tp e = 47)) ∧ e_path_85 self R (nI to) (nI base) (nI k) (nI s) (nI e) = some (-1, R)) := by
  have e8 : nI e - nI s = nI (e - s) := pk_sub h1
  have main : ∀ (x9 : Bool), ((x9 = true) ↔ (1 ≤ e - s ∧ e - s ≤ 2 ∧ ∀ j, j < e - s → tp (s + j) = 46)) → ((k < 16 ∧ nmOk tp s (e - s) ∧ (e = to ∨ tp e = 47)) ∧ e_path_136 self R (nI to) (nI base) (nI k) (nI s) (nI e) (nI (e - s)) (bI x9) = self (setA (setA R 50 (upd (rA R 50) (base + k) (nI s))) 51 (upd (rA R 51) (base + k) (nI (e - s)))) (nI to) (nI base) (nI (k + 1)) (nI e)) ∨ (¬ (k < 16 ∧ nmOk tp s (e - s) ∧ (e = to ∨ tp e = 47)) ∧ e_path_136 self R (nI to) (nI base) (nI k) (nI s) (nI e) (nI (e - s)) (bI x9) = some (-1, R)) := fun x9 hx9 => by
    have e181 : k < 16 → e_path_181 self R (nI to) (nI base) (nI k) (nI s) (nI e) (nI (e - s)) = self (setA (setA R 50 (upd (rA R 50) (base + k) (nI s))) 51 (upd (rA R 51) (base + k) (nI (e - s)))) (nI to) (nI base) (nI (k + 1)) (nI e) := fun hk16 => by
      rw [e_path_181, nI_add, st_n (show base + k < 32 by omega) (by decide), st_n (show base + k < 32 by omega) (by decide), nI_1]
      rfl
    rw [e_path_136]
    by_cases ck : k = 16
    · rw [if_pos (by rw [ck]; rfl)]
      exact Or.inr ⟨fun z => by omega, rfl⟩
    · rw [if_neg (show ¬ nI k = (16 : Int32) from fun z => ck (nI_inj (b := 16) (by omega) (by decide) z))]
      by_cases c1 : e - s < 1
      · rw [if_pos (show nI (e - s) < (1 : Int32) from nI_lt (b := 1) c1 (by decide))]
        exact Or.inr ⟨fun z => by
          have := z.2.1.1
          omega, rfl⟩
      · rw [if_neg (show ¬ nI (e - s) < (1 : Int32) from fun z => absurd (nI_le (a := 1) (b := e - s) (by omega) (by omega)) (Int32.not_le.mpr z))]
        by_cases c2 : 13 < e - s
        · rw [if_pos (show (13 : Int32) < nI (e - s) from nI_lt (a := 13) c2 (by omega))]
          exact Or.inr ⟨fun z => by
            have := z.2.1.2.1
            omega, rfl⟩
        · rw [if_neg (show ¬ (13 : Int32) < nI (e - s) from fun z => absurd (nI_le (a := e - s) (b := 13) (by omega) (by decide)) (Int32.not_le.mpr z))]
          cases x9 with
          | true =>
            obtain ⟨q1, q2, q3⟩ := hx9.mp rfl
            rw [if_neg (show ¬ bI true = 0 by decide)]
            exact Or.inr ⟨fun z => by
              obtain ⟨j, j1, j2⟩ := z.2.1.2.2.2 q2
              exact j2 (q3 j j1), rfl⟩
          | false =>
            have hok : nmOk tp s (e - s) := ⟨by omega, by omega, fun j hj => hb (s + j) (by omega) (by omega), fun h2 => Classical.byContradiction (fun z => by
              have := hx9.mpr ⟨by omega, h2, fun j hj => Classical.byContradiction (fun y => z ⟨j, hj, y⟩)⟩
              cases this)⟩
            rw [if_pos (show bI false = 0 from rfl)]
            by_cases ce : e = to
            · rw [if_pos (nI_le (by omega) (by omega)), e181 (by omega)]
              exact Or.inl ⟨⟨by omega, hok, Or.inl ce⟩, rfl⟩
            · rw [if_neg (nI_ge (by omega) (by omega)), ld_n (by omega) (by decide), hR e (by omega)]
              by_cases c47 : tp e = 47
              · rw [if_pos c47, e181 (by omega)]
                exact Or.inl ⟨⟨by omega, hok, Or.inr c47⟩, rfl⟩
              · rw [if_neg c47]
                exact Or.inr ⟨fun z => z.2.2.elim ce c47, rfl⟩
  have m133 : (¬ (1 ≤ e - s ∧ e - s ≤ 2 ∧ ∀ j, j < e - s → tp (s + j) = 46)) → _ := fun hno => main false ⟨(fun z => by cases z), fun z => absurd z hno⟩
  rw [e_path_85, e8]
  by_cases c0 : e - s = 0
  · rw [if_pos (show nI (e - s) ≤ 0 by rw [c0]; decide)]
    exact m133 (fun z => by omega)
  · rw [if_neg (show ¬ nI (e - s) ≤ 0 from nI_ge (a := 0) (by omega) (by omega))]
    by_cases c3 : 3 ≤ e - s
    · rw [if_pos (show (3 : Int32) ≤ nI (e - s) from nI_le (a := 3) c3 (by omega))]
      exact m133 (fun z => by omega)
    · rw [if_neg (show ¬ (3 : Int32) ≤ nI (e - s) from nI_ge (b := 3) (by omega) (by decide)), ld_n (show s < 1024 by omega) (by decide), hR s (by omega), i1_sub (show 1 ≤ e by omega)]
      by_cases q1 : tp s = 46
      · rw [if_pos q1, ld_n (show e - 1 < 1024 by omega) (by decide), hR (e - 1) (by omega)]
        by_cases q2 : tp (e - 1) = 46
        · rw [if_pos q2]
          exact main true ⟨fun _ => ⟨by omega, by omega, fun j hj => by
            by_cases cj : j = 0
            · rw [cj]
              exact q1
            · rw [show s + j = e - 1 by omega]
              exact q2⟩, fun _ => rfl⟩
        · rw [if_neg q2]
          exact m133 (fun z => q2 (by
            have := z.2.2 (e - 1 - s) (by omega)
            rw [show s + (e - 1 - s) = e - 1 by omega] at this
            exact this))
      · rw [if_neg q1]
        exact m133 (fun z => q1 (by
          have := z.2.2 0 (by omega)
          exact this))
/-- of what stands beside only the path changed -/
def Dp47 (D D' : CfT) : Prop := (∀ j, j ≠ 4702 → D'.1 j = D.1 j) ∧ ∀ k, k ≠ 48 → k ≠ 49 → D'.2.1 k = D.2.1 k
theorem Dp47.rf {D : CfT} : Dp47 D D := ⟨fun _ _ => rfl, fun _ _ _ => rfl⟩
theorem Dp47.tr {D1 D2 D3 : CfT} (a : Dp47 D1 D2) (b : Dp47 D2 D3) : Dp47 D1 D3 := ⟨fun j h => (b.1 j h).trans (a.1 j h), fun k h1 h2 => (b.2 k h1 h2).trans (a.2 k h1 h2)⟩
def PthC47 (D : CfT) (k : Nat) (st ln : Nat → Nat) : Prop := cS D 4702 = nI k ∧ k ≤ 16 ∧ ∀ j, j < k → cA D 48 j = nI (st j) ∧ cA D 49 j = nI (ln j)
theorem c_scan47 {D : CfT} {tp : Nat → Int32} {to s : Nat} (hto : to ≤ 1024) (hD : ∀ j, j < 1024 → cA D 1 j = tp j) : ∀ (m x : Nat), s ≤ x → x ≤ to → to - x < m → (∀ j, s ≤ j → j < x → tp j ≠ 47) → ∃ e m', s ≤ e ∧ e ≤ to ∧ (∀ j, s ≤ j → j < e → tp j ≠ 47) ∧ (e = to ∨ tp e = 47) ∧ m' + (e - x) + 1 = m ∧ x ≤ e ∧ d_X8_parse_47_49 N V m D (nI to) (nI s) (nI x) = d_X8_parse_47_70 N V (d_X8_parse_47_49 N V m') D (nI to) (nI s) (nI e) := by
  intro m
  induction m with
  | zero => intro x _ _ h; exact absurd h (Nat.not_lt_zero _)
  | succ m ih =>
    intro x hs hx hm hb
    rw [d_X8_parse_47_49, if_neg (show ¬ nI to < nI x from fun z => absurd (nI_le hx (by omega)) (Int32.not_le.mpr z))]
    by_cases c : x = to
    · rw [if_pos (by rw [c])]
      exact ⟨x, m, hs, hx, hb, Or.inl c, by omega, Nat.le_refl _, rfl⟩
    · rw [if_neg (fun z => c (nI_inj (by omega) (by omega) z)), ld_n (by omega) (by decide), hD x (by omega)]
      by_cases c47 : tp x = 47
      · rw [if_pos c47]
        exact ⟨x, m, hs, hx, hb, Or.inr c47, by omega, Nat.le_refl _, rfl⟩
      · rw [if_neg c47, nI_1]
        obtain ⟨e, m', q1, q2, q3, q4, q5, q6, q7⟩ := ih (x + 1) (by omega) (by omega) (by omega) (fun j h1 h2 => by
          by_cases cj : j = x
          · rw [cj]
            exact c47
          · exact hb j h1 (by omega))
        exact ⟨e, m', q1, q2, q3, q4, by omega, by omega, q7⟩
theorem j_path47_l (R0 : RfT) {tp : Nat → Int32} {to base : Nat} (hto : to ≤ 1024) (hbase : base + 16 ≤ 32) : ∀ (d m n s k : Nat) (D : CfT) (R : RfT) (st ln : Nat → Nat), 1 ≤ s → s ≤ to + 1 → to + 1 - s < d → to + 1 - s < m → to + 1 - s < n → (∀ j, j < 1024 → cA D 1 j = tp j) → (∀ j, j < 1024 → rA R 4 j = tp j) → PthC47 D k st ln → PthR R base k st ln → NmS tp k st ln → ∃ D' R', Dp47 D D' ∧ Fn [] [50, 51] R R' ∧ (∀ x, x < base ∨ base + 16 ≤ x → rA R' 50 x = rA R 50 x ∧ rA R' 51 x = rA R 51 x) ∧ ((d_X8_parse_47_49 N V m D (nI to) (nI s) (nI s) = some (0, D') ∧ e_path_44 n R (nI to) (nI base) (nI k) (nI (s - 1)) = some (-1, R')) ∨ (∃ k' st' ln', k ≤ k' ∧ d_X8_parse_47_49 N V m D (nI to) (nI s) (nI s) = some (1, D') ∧ e_path_44 n R (nI to) (nI base) (nI k) (nI (s - 1)) = some (nI k', R') ∧ PthC47 D' k' st' ln' ∧ PthR R' base k' st' ln' ∧ NmS tp k' st' ln')) := by
  intro d
  induction d with
  | zero => intro m n s k _ _ _ _ _ _ h; exact absurd h (Nat.not_lt_zero _)
  | succ d ih =>
    intro m n s k D R st ln hs1 hs2 hd hm hn hD hR hC hP hN
    obtain ⟨m1, rfl⟩ : ∃ m1, m = m1 + 1 := ⟨m - 1, by omega⟩
    obtain ⟨n1, rfl⟩ : ∃ n1, n = n1 + 1 := ⟨n - 1, by omega⟩
    by_cases cs : s = to + 1
    · refine ⟨D, R, Dp47.rf, Fn.rf, fun _ _ => ⟨rfl, rfl⟩, Or.inr ⟨k, st, ln, Nat.le_refl _, ?_, ?_, hC, hP, hN⟩⟩
      · rw [d_X8_parse_47_49, if_pos (nI_lt (by omega) (by omega))]
      · rw [e_path_44, if_pos (nI_le (by omega) (by omega))]
    · obtain ⟨e, m', q1, q2, q3, q4, q5, q6, q7⟩ := c_scan47 (N := N) (V := V) (s := s) hto hD (m1 + 1) s (Nat.le_refl _) (by omega) (by omega) (fun j h1 h2 => by omega)
      obtain ⟨e', p1, p2, p3, p4, p5⟩ := r_scan (R := R) (tp := tp) (base := base) (k := k) (s := s) (self := e_path_44 n1) hto hR fuL s (Nat.le_refl _) (by omega) (by rw [fuL_4]; omega) (fun j h1 h2 => by omega)
      have er : e_path_44 (n1 + 1) R (nI to) (nI base) (nI k) (nI (s - 1)) = e_path_85 (e_path_44 n1) R (nI to) (nI base) (nI k) (nI s) (nI e') := by
        rw [e_path_44, if_neg (nI_ge (by omega) (by omega)), nI_1, show s - 1 + 1 = s by omega, p5]
      have hee : e' ≤ e := by
        by_cases c : e' ≤ e
        · exact c
        · rcases q4 with z | z
          · omega
          · have := p3 e q1 (by omega)
            rw [z] at this
            exact absurd this nb47
      obtain ⟨c1, c2, c3⟩ := hC
      have n70 : d_X8_parse_47_70 N V (d_X8_parse_47_49 N V m') D (nI to) (nI s) (nI e) = (@ite _ (k = 16 ∨ ¬ nmOk tp s (e - s)) (Classical.propDecidable _) (some (0, D)) (d_X8_parse_47_49 N V m' (sS (sA (sA D 48 (upd (cA D 48) k (nI s))) 49 (upd (cA D 49) k (nI (e - s)))) 4702 (nI (k + 1))) (nI to) (nI (e + 1)) (nI (e + 1)))) := by
        rw [d_X8_parse_47_70, c1]
        by_cases ck : k = 16
        · rw [if_pos (by rw [ck]; rfl), if_pos (Or.inl ck)]
        · obtain ⟨r, r1, r2⟩ := d_isName (N := N) (V := V) R0 (D := D) (g := cA D 1) (nn := 1024) (a := s) (ln := e - s) (by decide) (by omega) (by omega)
          have hiff : nmOk (cA D 1) s (e - s) ↔ nmOk tp s (e - s) := by
            unfold nmOk
            have hg : ∀ j, j < e - s → cA D 1 (s + j) = tp (s + j) := fun j hj => hD _ (by omega)
            constructor
            · intro z
              exact ⟨z.1, z.2.1, fun j hj => by rw [← hg j hj]; exact z.2.2.1 j hj, fun y => by
                obtain ⟨j, j1, j2⟩ := z.2.2.2 y
                exact ⟨j, j1, by rw [← hg j j1]; exact j2⟩⟩
            · intro z
              exact ⟨z.1, z.2.1, fun j hj => by rw [hg j hj]; exact z.2.2.1 j hj, fun y => by
                obtain ⟨j, j1, j2⟩ := z.2.2.2 y
                exact ⟨j, j1, by rw [hg j j1]; exact j2⟩⟩
          rw [if_neg (show ¬ nI k = (16 : Int32) from fun z => ck (nI_inj (b := 16) (by omega) (by decide) z)), pk_sub q1, bnd_o r1]
          cases r with
          | false =>
            rw [if_pos (show bI false = 0 from rfl), if_pos (Or.inr (fun z => by cases r2.mpr (hiff.mpr z)))]
          | true =>
            have hok := hiff.mp (r2.mp rfl)
            rw [if_neg (show ¬ bI true = 0 by decide), if_neg (fun z => z.elim ck (fun y => y hok)), stA_n (show k < 16 by omega) (by decide)]
            have f1 : cS (sA D 48 (upd (cA D 48) k (nI s))) 4702 = nI k := c1
            have g1 : cA (sA D 48 (upd (cA D 48) k (nI s))) 49 = cA D 49 := rfl
            rw [f1, stA_n (show k < 16 by omega) (by decide), g1, ptS]
            have f2 : cS (sA (sA D 48 (upd (cA D 48) k (nI s))) 49 (upd (cA D 49) k (nI (e - s)))) 4702 = nI k := c1
            rw [f2, nI_1, nI_1]
      rw [q7, er, n70]
      rcases r_name (R := R) (tp := tp) (to := to) (base := base) (k := k) (s := s) (e := e') (self := e_path_44 n1) hto c2 hbase hR p1 p2 p3 with ⟨⟨a1, a2, a3⟩, a4⟩ | ⟨a1, a2⟩
      · have ee : e' = e := by
          rcases a3 with z | z
          · omega
          · by_cases c : e' = e
            · exact c
            · exact absurd z (q3 e' p1 (by omega))
        subst ee
        rw [if_neg (fun z => z.elim (fun y => by omega) (fun y => y a2)), a4]
        have hC' : PthC47 (sS (sA (sA D 48 (upd (cA D 48) k (nI s))) 49 (upd (cA D 49) k (nI (e' - s)))) 4702 (nI (k + 1))) (k + 1) (fun j => if j = k then s else st j) (fun j => if j = k then e' - s else ln j) := ⟨pk_us (f := D.1) (k := 4702), by omega, fun j hj => by
          show upd (cA D 48) k (nI s) j = nI (if j = k then s else st j) ∧ upd (cA D 49) k (nI (e' - s)) j = nI (if j = k then e' - s else ln j)
          by_cases cj : j = k
          · rw [cj, pk_us, pk_us, if_pos rfl, if_pos rfl]
            exact ⟨rfl, rfl⟩
          · rw [pk_un cj, pk_un cj, if_neg cj, if_neg cj]
            exact c3 j (by omega)⟩
        have hP' : PthR (setA (setA R 50 (upd (rA R 50) (base + k) (nI s))) 51 (upd (rA R 51) (base + k) (nI (e' - s)))) base (k + 1) (fun j => if j = k then s else st j) (fun j => if j = k then e' - s else ln j) := fun j hj => by
          show upd (rA R 50) (base + k) (nI s) (base + j) = nI (if j = k then s else st j) ∧ upd (rA R 51) (base + k) (nI (e' - s)) (base + j) = nI (if j = k then e' - s else ln j)
          by_cases cj : j = k
          · rw [cj, pk_us, pk_us, if_pos rfl, if_pos rfl]
            exact ⟨rfl, rfl⟩
          · rw [pk_un (by omega), pk_un (by omega), if_neg cj, if_neg cj]
            exact hP j (by omega)
        have hN' : NmS tp (k + 1) (fun j => if j = k then s else st j) (fun j => if j = k then e' - s else ln j) := fun j hj => by
          show nmOk tp (if j = k then s else st j) (if j = k then e' - s else ln j) ∧ (if j = k then s else st j) + (if j = k then e' - s else ln j) ≤ 1024
          by_cases cj : j = k
          · rw [if_pos cj, if_pos cj]
            exact ⟨a2, by omega⟩
          · rw [if_neg cj, if_neg cj]
            exact hN j (by omega)
        obtain ⟨D', R', b1, b2, b3, b4⟩ := ih m' n1 (e' + 1) (k + 1) (sS (sA (sA D 48 (upd (cA D 48) k (nI s))) 49 (upd (cA D 49) k (nI (e' - s)))) 4702 (nI (k + 1))) (setA (setA R 50 (upd (rA R 50) (base + k) (nI s))) 51 (upd (rA R 51) (base + k) (nI (e' - s)))) (fun j => if j = k then s else st j) (fun j => if j = k then e' - s else ln j) (by omega) (by omega) (by omega) (by omega) (by omega) hD hR hC' hP' hN'
        rw [show e' + 1 - 1 = e' by omega] at b4
        refine ⟨D', R', (show Dp47 D _ from ⟨fun j hj => pk_un hj, fun x h1 h2 => (if_neg h2).trans (if_neg h1)⟩).tr b1, ((Fn.a (by decide)).tr (Fn.a (by decide))).tr b2, fun x hx => ?_, ?_⟩
        · obtain ⟨w1, w2⟩ := b3 x hx
          rw [w1, w2]
          exact ⟨pk_un (by omega), pk_un (by omega)⟩
        · rcases b4 with b4 | ⟨k', st', ln', w1, w2⟩
          · exact Or.inl b4
          · exact Or.inr ⟨k', st', ln', by omega, w2⟩
      · rw [a2, if_pos]
        · exact ⟨D, R, Dp47.rf, Fn.rf, fun _ _ => ⟨rfl, rfl⟩, Or.inl ⟨rfl, rfl⟩⟩
        · refine Classical.byContradiction (fun z => a1 ?_)
          have zk : k ≠ 16 := fun y => z (Or.inl y)
          have zn : nmOk tp s (e - s) := Classical.byContradiction (fun y => z (Or.inr y))
          have ee : e' = e := by
            by_cases c : e' = e
            · exact c
            · rcases p4 with y | y
              · omega
              · have := zn.2.2.1 (e' - s) (by omega)
                rw [show s + (e' - s) = e' by omega] at this
                exact absurd this y
          rw [ee]
          exact ⟨by omega, zn, q4⟩
/-- a path: wrong for both, or the same names for both -/
theorem j_path47 {tp : Nat → Int32} {D : CfT} {R : RfT} {a to base : Nat} (hto : to ≤ 1024) (ha : a ≤ to) (hbase : base + 16 ≤ 32) (hD : ∀ j, j < 1024 → cA D 1 j = tp j) (hR : ∀ j, j < 1024 → rA R 4 j = tp j) : ∃ D' R', Dp47 D D' ∧ Fn [] [50, 51] R R' ∧ (∀ x, x < base ∨ base + 16 ≤ x → rA R' 50 x = rA R 50 x ∧ rA R' 51 x = rA R 51 x) ∧ ((d_X8_parse_47 N V D (nI a) (nI to) = some (0, D') ∧ e_path R (nI a) (nI to) (nI base) = some (-1, R')) ∨ (∃ k st ln, d_X8_parse_47 N V D (nI a) (nI to) = some (1, D') ∧ e_path R (nI a) (nI to) (nI base) = some (nI k, R') ∧ PthC47 D' k st ln ∧ PthR R' base k st ln ∧ NmS tp k st ln)) := by
  have d1 : Dp47 D (sS D 4702 0) := ⟨fun j hj => pk_un hj, fun _ _ _ => rfl⟩
  have g1 : cA (sS D 4702 0) 1 = cA D 1 := rfl
  rw [d_X8_parse_47, ptS, e_path, pk_sub ha]
  by_cases c1 : to - a < 1
  · rw [if_pos (show nI (to - a) < (1 : Int32) from nI_lt (b := 1) c1 (by decide)), if_pos (show nI (to - a) < (1 : Int32) from nI_lt (b := 1) c1 (by decide))]
    exact ⟨_, R, d1, Fn.rf, fun _ _ => ⟨rfl, rfl⟩, Or.inl ⟨rfl, rfl⟩⟩
  · have n1 : ¬ nI (to - a) < (1 : Int32) := fun z => absurd (nI_le (a := 1) (b := to - a) (by omega) (by omega)) (Int32.not_le.mpr z)
    rw [if_neg n1, if_neg n1]
    by_cases c2 : 255 < to - a
    · rw [if_pos (show (255 : Int32) < nI (to - a) from nI_lt (a := 255) c2 (by omega)), if_pos (show (255 : Int32) < nI (to - a) from nI_lt (a := 255) c2 (by omega))]
      exact ⟨_, R, d1, Fn.rf, fun _ _ => ⟨rfl, rfl⟩, Or.inl ⟨rfl, rfl⟩⟩
    · have n2 : ¬ (255 : Int32) < nI (to - a) := fun z => absurd (nI_le (a := to - a) (b := 255) (by omega) (by decide)) (Int32.not_le.mpr z)
      rw [if_neg n2, if_neg n2, ld_n (show a < 1024 by omega) (by decide), ld_n (show a < 1024 by omega) (by decide), g1, hD a (by omega), hR a (by omega)]
      by_cases c47 : tp a = 47
      · rw [if_pos c47, if_pos c47]
        by_cases c3 : to - a = 1
        · rw [if_pos (by rw [c3]; rfl), if_pos (by rw [c3]; rfl)]
          exact ⟨_, R, d1, Fn.rf, fun _ _ => ⟨rfl, rfl⟩, Or.inr ⟨0, fun _ => 0, fun _ => 0, rfl, rfl, ⟨pk_us (f := D.1) (k := 4702), Nat.zero_le _, fun j hj => absurd hj (Nat.not_lt_zero _)⟩, fun j hj => absurd hj (Nat.not_lt_zero _), fun j hj => absurd hj (Nat.not_lt_zero _)⟩⟩
        · have n3 : ¬ nI (to - a) = (1 : Int32) := fun z => c3 (nI_inj (b := 1) (by omega) (by decide) z)
          rw [if_neg n3, if_neg n3, nI_1]
          obtain ⟨D', R', b1, b2, b3, b4⟩ := j_path47_l (N := N) (V := V) R (tp := tp) (to := to) (base := base) hto hbase (to + 2) fuL fuL (a + 1) 0 (sS D 4702 0) R (fun _ => 0) (fun _ => 0) (by omega) (by omega) (by omega) (by rw [fuL_4]; omega) (by rw [fuL_4]; omega) hD hR ⟨pk_us (f := D.1) (k := 4702), Nat.zero_le _, fun j hj => absurd hj (Nat.not_lt_zero _)⟩ (fun j hj => absurd hj (Nat.not_lt_zero _)) (fun j hj => absurd hj (Nat.not_lt_zero _))
          rw [show a + 1 - 1 = a by omega] at b4
          refine ⟨D', R', d1.tr b1, b2, b3, ?_⟩
          rcases b4 with b4 | ⟨k', st', ln', w1, w2⟩
          · exact Or.inl b4
          · exact Or.inr ⟨k', st', ln', w2⟩
      · rw [if_neg c47, if_neg c47]
        exact ⟨_, R, d1, Fn.rf, fun _ _ => ⟨rfl, rfl⟩, Or.inl ⟨rfl, rfl⟩⟩
/-- of what stands beside only the path changed -/
def Dp50 (D D' : CfT) : Prop := (∀ j, j ≠ 5002 → D'.1 j = D.1 j) ∧ ∀ k, k ≠ 51 → k ≠ 52 → D'.2.1 k = D.2.1 k
theorem Dp50.rf {D : CfT} : Dp50 D D := ⟨fun _ _ => rfl, fun _ _ _ => rfl⟩
theorem Dp50.tr {D1 D2 D3 : CfT} (a : Dp50 D1 D2) (b : Dp50 D2 D3) : Dp50 D1 D3 := ⟨fun j h => (b.1 j h).trans (a.1 j h), fun k h1 h2 => (b.2 k h1 h2).trans (a.2 k h1 h2)⟩
def PthC50 (D : CfT) (k : Nat) (st ln : Nat → Nat) : Prop := cS D 5002 = nI k ∧ k ≤ 16 ∧ ∀ j, j < k → cA D 51 j = nI (st j) ∧ cA D 52 j = nI (ln j)
theorem c_scan50 {D : CfT} {tp : Nat → Int32} {to s : Nat} (hto : to ≤ 1024) (hD : ∀ j, j < 1024 → cA D 1 j = tp j) : ∀ (m x : Nat), s ≤ x → x ≤ to → to - x < m → (∀ j, s ≤ j → j < x → tp j ≠ 47) → ∃ e m', s ≤ e ∧ e ≤ to ∧ (∀ j, s ≤ j → j < e → tp j ≠ 47) ∧ (e = to ∨ tp e = 47) ∧ m' + (e - x) + 1 = m ∧ x ≤ e ∧ d_X8_parse_50_49 N V m D (nI to) (nI s) (nI x) = d_X8_parse_50_70 N V (d_X8_parse_50_49 N V m') D (nI to) (nI s) (nI e) := by
  intro m
  induction m with
  | zero => intro x _ _ h; exact absurd h (Nat.not_lt_zero _)
  | succ m ih =>
    intro x hs hx hm hb
    rw [d_X8_parse_50_49, if_neg (show ¬ nI to < nI x from fun z => absurd (nI_le hx (by omega)) (Int32.not_le.mpr z))]
    by_cases c : x = to
    · rw [if_pos (by rw [c])]
      exact ⟨x, m, hs, hx, hb, Or.inl c, by omega, Nat.le_refl _, rfl⟩
    · rw [if_neg (fun z => c (nI_inj (by omega) (by omega) z)), ld_n (by omega) (by decide), hD x (by omega)]
      by_cases c47 : tp x = 47
      · rw [if_pos c47]
        exact ⟨x, m, hs, hx, hb, Or.inr c47, by omega, Nat.le_refl _, rfl⟩
      · rw [if_neg c47, nI_1]
        obtain ⟨e, m', q1, q2, q3, q4, q5, q6, q7⟩ := ih (x + 1) (by omega) (by omega) (by omega) (fun j h1 h2 => by
          by_cases cj : j = x
          · rw [cj]
            exact c47
          · exact hb j h1 (by omega))
        exact ⟨e, m', q1, q2, q3, q4, by omega, by omega, q7⟩
theorem j_path50_l (R0 : RfT) {tp : Nat → Int32} {to base : Nat} (hto : to ≤ 1024) (hbase : base + 16 ≤ 32) : ∀ (d m n s k : Nat) (D : CfT) (R : RfT) (st ln : Nat → Nat), 1 ≤ s → s ≤ to + 1 → to + 1 - s < d → to + 1 - s < m → to + 1 - s < n → (∀ j, j < 1024 → cA D 1 j = tp j) → (∀ j, j < 1024 → rA R 4 j = tp j) → PthC50 D k st ln → PthR R base k st ln → NmS tp k st ln → ∃ D' R', Dp50 D D' ∧ Fn [] [50, 51] R R' ∧ (∀ x, x < base ∨ base + 16 ≤ x → rA R' 50 x = rA R 50 x ∧ rA R' 51 x = rA R 51 x) ∧ ((d_X8_parse_50_49 N V m D (nI to) (nI s) (nI s) = some (0, D') ∧ e_path_44 n R (nI to) (nI base) (nI k) (nI (s - 1)) = some (-1, R')) ∨ (∃ k' st' ln', k ≤ k' ∧ d_X8_parse_50_49 N V m D (nI to) (nI s) (nI s) = some (1, D') ∧ e_path_44 n R (nI to) (nI base) (nI k) (nI (s - 1)) = some (nI k', R') ∧ PthC50 D' k' st' ln' ∧ PthR R' base k' st' ln' ∧ NmS tp k' st' ln')) := by
  intro d
  induction d with
  | zero => intro m n s k _ _ _ _ _ _ h; exact absurd h (Nat.not_lt_zero _)
  | succ d ih =>
    intro m n s k D R st ln hs1 hs2 hd hm hn hD hR hC hP hN
    obtain ⟨m1, rfl⟩ : ∃ m1, m = m1 + 1 := ⟨m - 1, by omega⟩
    obtain ⟨n1, rfl⟩ : ∃ n1, n = n1 + 1 := ⟨n - 1, by omega⟩
    by_cases cs : s = to + 1
    · refine ⟨D, R, Dp50.rf, Fn.rf, fun _ _ => ⟨rfl, rfl⟩, Or.inr ⟨k, st, ln, Nat.le_refl _, ?_, ?_, hC, hP, hN⟩⟩
      · rw [d_X8_parse_50_49, if_pos (nI_lt (by omega) (by omega))]
      · rw [e_path_44, if_pos (nI_le (by omega) (by omega))]
    · obtain ⟨e, m', q1, q2, q3, q4, q5, q6, q7⟩ := c_scan50 (N := N) (V := V) (s := s) hto hD (m1 + 1) s (Nat.le_refl _) (by omega) (by omega) (fun j h1 h2 => by omega)
      obtain ⟨e', p1, p2, p3, p4, p5⟩ := r_scan (R := R) (tp := tp) (base := base) (k := k) (s := s) (self := e_path_44 n1) hto hR fuL s (Nat.le_refl _) (by omega) (by rw [fuL_4]; omega) (fun j h1 h2 => by omega)
      have er : e_path_44 (n1 + 1) R (nI to) (nI base) (nI k) (nI (s - 1)) = e_path_85 (e_path_44 n1) R (nI to) (nI base) (nI k) (nI s) (nI e') := by
        rw [e_path_44, if_neg (nI_ge (by omega) (by omega)), nI_1, show s - 1 + 1 = s by omega, p5]
      have hee : e' ≤ e := by
        by_cases c : e' ≤ e
        · exact c
        · rcases q4 with z | z
          · omega
          · have := p3 e q1 (by omega)
            rw [z] at this
            exact absurd this nb47
      obtain ⟨c1, c2, c3⟩ := hC
      have n70 : d_X8_parse_50_70 N V (d_X8_parse_50_49 N V m') D (nI to) (nI s) (nI e) = (@ite _ (k = 16 ∨ ¬ nmOk tp s (e - s)) (Classical.propDecidable _) (some (0, D)) (d_X8_parse_50_49 N V m' (sS (sA (sA D 51 (upd (cA D 51) k (nI s))) 52 (upd (cA D 52) k (nI (e - s)))) 5002 (nI (k + 1))) (nI to) (nI (e + 1)) (nI (e + 1)))) := by
        rw [d_X8_parse_50_70, c1]
        by_cases ck : k = 16
        · rw [if_pos (by rw [ck]; rfl), if_pos (Or.inl ck)]
        · obtain ⟨r, r1, r2⟩ := d_isName (N := N) (V := V) R0 (D := D) (g := cA D 1) (nn := 1024) (a := s) (ln := e - s) (by decide) (by omega) (by omega)
          have hiff : nmOk (cA D 1) s (e - s) ↔ nmOk tp s (e - s) := by
            unfold nmOk
            have hg : ∀ j, j < e - s → cA D 1 (s + j) = tp (s + j) := fun j hj => hD _ (by omega)
            constructor
            · intro z
              exact ⟨z.1, z.2.1, fun j hj => by rw [← hg j hj]; exact z.2.2.1 j hj, fun y => by
                obtain ⟨j, j1, j2⟩ := z.2.2.2 y
                exact ⟨j, j1, by rw [← hg j j1]; exact j2⟩⟩
            · intro z
              exact ⟨z.1, z.2.1, fun j hj => by rw [hg j hj]; exact z.2.2.1 j hj, fun y => by
                obtain ⟨j, j1, j2⟩ := z.2.2.2 y
                exact ⟨j, j1, by rw [hg j j1]; exact j2⟩⟩
          rw [if_neg (show ¬ nI k = (16 : Int32) from fun z => ck (nI_inj (b := 16) (by omega) (by decide) z)), pk_sub q1, bnd_o r1]
          cases r with
          | false =>
            rw [if_pos (show bI false = 0 from rfl), if_pos (Or.inr (fun z => by cases r2.mpr (hiff.mpr z)))]
          | true =>
            have hok := hiff.mp (r2.mp rfl)
            rw [if_neg (show ¬ bI true = 0 by decide), if_neg (fun z => z.elim ck (fun y => y hok)), stA_n (show k < 16 by omega) (by decide)]
            have f1 : cS (sA D 51 (upd (cA D 51) k (nI s))) 5002 = nI k := c1
            have g1 : cA (sA D 51 (upd (cA D 51) k (nI s))) 52 = cA D 52 := rfl
            rw [f1, stA_n (show k < 16 by omega) (by decide), g1, ptS]
            have f2 : cS (sA (sA D 51 (upd (cA D 51) k (nI s))) 52 (upd (cA D 52) k (nI (e - s)))) 5002 = nI k := c1
            rw [f2, nI_1, nI_1]
      rw [q7, er, n70]
      rcases r_name (R := R) (tp := tp) (to := to) (base := base) (k := k) (s := s) (e := e') (self := e_path_44 n1) hto c2 hbase hR p1 p2 p3 with ⟨⟨a1, a2, a3⟩, a4⟩ | ⟨a1, a2⟩
      · have ee : e' = e := by
          rcases a3 with z | z
          · omega
          · by_cases c : e' = e
            · exact c
            · exact absurd z (q3 e' p1 (by omega))
        subst ee
        rw [if_neg (fun z => z.elim (fun y => by omega) (fun y => y a2)), a4]
        have hC' : PthC50 (sS (sA (sA D 51 (upd (cA D 51) k (nI s))) 52 (upd (cA D 52) k (nI (e' - s)))) 5002 (nI (k + 1))) (k + 1) (fun j => if j = k then s else st j) (fun j => if j = k then e' - s else ln j) := ⟨pk_us (f := D.1) (k := 5002), by omega, fun j hj => by
          show upd (cA D 51) k (nI s) j = nI (if j = k then s else st j) ∧ upd (cA D 52) k (nI (e' - s)) j = nI (if j = k then e' - s else ln j)
          by_cases cj : j = k
          · rw [cj, pk_us, pk_us, if_pos rfl, if_pos rfl]
            exact ⟨rfl, rfl⟩
          · rw [pk_un cj, pk_un cj, if_neg cj, if_neg cj]
            exact c3 j (by omega)⟩
        have hP' : PthR (setA (setA R 50 (upd (rA R 50) (base + k) (nI s))) 51 (upd (rA R 51) (base + k) (nI (e' - s)))) base (k + 1) (fun j => if j = k then s else st j) (fun j => if j = k then e' - s else ln j) := fun j hj => by
          show upd (rA R 50) (base + k) (nI s) (base + j) = nI (if j = k then s else st j) ∧ upd (rA R 51) (base + k) (nI (e' - s)) (base + j) = nI (if j = k then e' - s else ln j)
          by_cases cj : j = k
          · rw [cj, pk_us, pk_us, if_pos rfl, if_pos rfl]
            exact ⟨rfl, rfl⟩
          · rw [pk_un (by omega), pk_un (by omega), if_neg cj, if_neg cj]
            exact hP j (by omega)
        have hN' : NmS tp (k + 1) (fun j => if j = k then s else st j) (fun j => if j = k then e' - s else ln j) := fun j hj => by
          show nmOk tp (if j = k then s else st j) (if j = k then e' - s else ln j) ∧ (if j = k then s else st j) + (if j = k then e' - s else ln j) ≤ 1024
          by_cases cj : j = k
          · rw [if_pos cj, if_pos cj]
            exact ⟨a2, by omega⟩
          · rw [if_neg cj, if_neg cj]
            exact hN j (by omega)
        obtain ⟨D', R', b1, b2, b3, b4⟩ := ih m' n1 (e' + 1) (k + 1) (sS (sA (sA D 51 (upd (cA D 51) k (nI s))) 52 (upd (cA D 52) k (nI (e' - s)))) 5002 (nI (k + 1))) (setA (setA R 50 (upd (rA R 50) (base + k) (nI s))) 51 (upd (rA R 51) (base + k) (nI (e' - s)))) (fun j => if j = k then s else st j) (fun j => if j = k then e' - s else ln j) (by omega) (by omega) (by omega) (by omega) (by omega) hD hR hC' hP' hN'
        rw [show e' + 1 - 1 = e' by omega] at b4
        refine ⟨D', R', (show Dp50 D _ from ⟨fun j hj => pk_un hj, fun x h1 h2 => (if_neg h2).trans (if_neg h1)⟩).tr b1, ((Fn.a (by decide)).tr (Fn.a (by decide))).tr b2, fun x hx => ?_, ?_⟩
        · obtain ⟨w1, w2⟩ := b3 x hx
          rw [w1, w2]
          exact ⟨pk_un (by omega), pk_un (by omega)⟩
        · rcases b4 with b4 | ⟨k', st', ln', w1, w2⟩
          · exact Or.inl b4
          · exact Or.inr ⟨k', st', ln', by omega, w2⟩
      · rw [a2, if_pos]
        · exact ⟨D, R, Dp50.rf, Fn.rf, fun _ _ => ⟨rfl, rfl⟩, Or.inl ⟨rfl, rfl⟩⟩
        · refine Classical.byContradiction (fun z => a1 ?_)
          have zk : k ≠ 16 := fun y => z (Or.inl y)
          have zn : nmOk tp s (e - s) := Classical.byContradiction (fun y => z (Or.inr y))
          have ee : e' = e := by
            by_cases c : e' = e
            · exact c
            · rcases p4 with y | y
              · omega
              · have := zn.2.2.1 (e' - s) (by omega)
                rw [show s + (e' - s) = e' by omega] at this
                exact absurd this y
          rw [ee]
          exact ⟨by omega, zn, q4⟩
/-- a path: wrong for both, or the same names for both -/
theorem j_path50 {tp : Nat → Int32} {D : CfT} {R : RfT} {a to base : Nat} (hto : to ≤ 1024) (ha : a ≤ to) (hbase : base + 16 ≤ 32) (hD : ∀ j, j < 1024 → cA D 1 j = tp j) (hR : ∀ j, j < 1024 → rA R 4 j = tp j) : ∃ D' R', Dp50 D D' ∧ Fn [] [50, 51] R R' ∧ (∀ x, x < base ∨ base + 16 ≤ x → rA R' 50 x = rA R 50 x ∧ rA R' 51 x = rA R 51 x) ∧ ((d_X8_parse_50 N V D (nI a) (nI to) = some (0, D') ∧ e_path R (nI a) (nI to) (nI base) = some (-1, R')) ∨ (∃ k st ln, d_X8_parse_50 N V D (nI a) (nI to) = some (1, D') ∧ e_path R (nI a) (nI to) (nI base) = some (nI k, R') ∧ PthC50 D' k st ln ∧ PthR R' base k st ln ∧ NmS tp k st ln)) := by
  have d1 : Dp50 D (sS D 5002 0) := ⟨fun j hj => pk_un hj, fun _ _ _ => rfl⟩
  have g1 : cA (sS D 5002 0) 1 = cA D 1 := rfl
  rw [d_X8_parse_50, ptS, e_path, pk_sub ha]
  by_cases c1 : to - a < 1
  · rw [if_pos (show nI (to - a) < (1 : Int32) from nI_lt (b := 1) c1 (by decide)), if_pos (show nI (to - a) < (1 : Int32) from nI_lt (b := 1) c1 (by decide))]
    exact ⟨_, R, d1, Fn.rf, fun _ _ => ⟨rfl, rfl⟩, Or.inl ⟨rfl, rfl⟩⟩
  · have n1 : ¬ nI (to - a) < (1 : Int32) := fun z => absurd (nI_le (a := 1) (b := to - a) (by omega) (by omega)) (Int32.not_le.mpr z)
    rw [if_neg n1, if_neg n1]
    by_cases c2 : 255 < to - a
    · rw [if_pos (show (255 : Int32) < nI (to - a) from nI_lt (a := 255) c2 (by omega)), if_pos (show (255 : Int32) < nI (to - a) from nI_lt (a := 255) c2 (by omega))]
      exact ⟨_, R, d1, Fn.rf, fun _ _ => ⟨rfl, rfl⟩, Or.inl ⟨rfl, rfl⟩⟩
    · have n2 : ¬ (255 : Int32) < nI (to - a) := fun z => absurd (nI_le (a := to - a) (b := 255) (by omega) (by decide)) (Int32.not_le.mpr z)
      rw [if_neg n2, if_neg n2, ld_n (show a < 1024 by omega) (by decide), ld_n (show a < 1024 by omega) (by decide), g1, hD a (by omega), hR a (by omega)]
      by_cases c47 : tp a = 47
      · rw [if_pos c47, if_pos c47]
        by_cases c3 : to - a = 1
        · rw [if_pos (by rw [c3]; rfl), if_pos (by rw [c3]; rfl)]
          exact ⟨_, R, d1, Fn.rf, fun _ _ => ⟨rfl, rfl⟩, Or.inr ⟨0, fun _ => 0, fun _ => 0, rfl, rfl, ⟨pk_us (f := D.1) (k := 5002), Nat.zero_le _, fun j hj => absurd hj (Nat.not_lt_zero _)⟩, fun j hj => absurd hj (Nat.not_lt_zero _), fun j hj => absurd hj (Nat.not_lt_zero _)⟩⟩
        · have n3 : ¬ nI (to - a) = (1 : Int32) := fun z => c3 (nI_inj (b := 1) (by omega) (by decide) z)
          rw [if_neg n3, if_neg n3, nI_1]
          obtain ⟨D', R', b1, b2, b3, b4⟩ := j_path50_l (N := N) (V := V) R (tp := tp) (to := to) (base := base) hto hbase (to + 2) fuL fuL (a + 1) 0 (sS D 5002 0) R (fun _ => 0) (fun _ => 0) (by omega) (by omega) (by omega) (by rw [fuL_4]; omega) (by rw [fuL_4]; omega) hD hR ⟨pk_us (f := D.1) (k := 5002), Nat.zero_le _, fun j hj => absurd hj (Nat.not_lt_zero _)⟩ (fun j hj => absurd hj (Nat.not_lt_zero _)) (fun j hj => absurd hj (Nat.not_lt_zero _))
          rw [show a + 1 - 1 = a by omega] at b4
          refine ⟨D', R', d1.tr b1, b2, b3, ?_⟩
          rcases b4 with b4 | ⟨k', st', ln', w1, w2⟩
          · exact Or.inl b4
          · exact Or.inr ⟨k', st', ln', w2⟩
      · rw [if_neg c47, if_neg c47]
        exact ⟨_, R, d1, Fn.rf, fun _ _ => ⟨rfl, rfl⟩, Or.inl ⟨rfl, rfl⟩⟩
end PWI
