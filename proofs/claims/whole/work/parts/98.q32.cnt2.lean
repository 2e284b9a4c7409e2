/-! ===== pure: how much a copy wants ===== -/
section PZF
variable {N B gr r u : Nat} {V V' W : Nat → Rw} {m m' : M5} {tk tk' : Nat → Bool} {A A' : MS} {D D' D2 : CfT} {R R' : RfT} {i p q k a e t s : Nat}
/-- there is a block that the second table leads to -/
def s2E (V : Nat → Rw) (i e : Nat) : Prop := ∃ x, 72 ≤ x ∧ x < e ∧ pv V i (px x) ≠ 0
noncomputable def s2N (V : Nat → Rw) (i e : Nat) : Nat := @ite _ (s2E V i e) (Classical.propDecidable _) 1 0
/-- tables of the places below e -/
noncomputable def tcN (V : Nat → Rw) (i e : Nat) : Nat := tpN V i 8 e + s2N V i e
def n2Q (V : Nat → Rw) (i p : Nat) : Prop := 72 ≤ p ∧ pv V i (px p) ≠ 0 ∧ ¬ s2E V i p
/-- tables that a place is the first to want -/
noncomputable def nT (V : Nat → Rw) (i p : Nat) : Nat := @ite _ (fsQ V i 8 p) (Classical.propDecidable _) 1 0 + @ite _ (n2Q V i p) (Classical.propDecidable _) 1 0
theorem s2_t (h : s2E V i e) : s2N V i e = 1 := if_pos h
theorem s2_f (h : ¬ s2E V i e) : s2N V i e = 0 := if_neg h
theorem nT_e {a b : Nat} (h1 : fsQ V i 8 p → a = 1) (h2 : ¬ fsQ V i 8 p → a = 0) (h3 : n2Q V i p → b = 1) (h4 : ¬ n2Q V i p → b = 0) : nT V i p = a + b := by
  unfold nT
  by_cases c : fsQ V i 8 p
  · rw [if_pos c, h1 c]
    by_cases d : n2Q V i p
    · rw [if_pos d, h3 d]
    · rw [if_neg d, h4 d]
  · rw [if_neg c, h2 c]
    by_cases d : n2Q V i p
    · rw [if_pos d, h3 d]
    · rw [if_neg d, h4 d]
theorem nT_0 (h : pv V i (px p) = 0) : nT V i p = 0 := nT_e (a := 0) (b := 0) (fun z => absurd h z.2.1) (fun _ => rfl) (fun z => absurd h z.2.1) (fun _ => rfl)
theorem tcN_s : tcN V i (e + 1) = tcN V i e + nT V i e := by
  have hs : s2N V i (e + 1) = s2N V i e + @ite _ (n2Q V i e) (Classical.propDecidable _) 1 0 := by
    by_cases c : n2Q V i e
    · rw [if_pos c, s2_f c.2.2, s2_t ⟨e, c.1, by omega, c.2.1⟩]
    · rw [if_neg c]
      by_cases d : s2E V i e
      · rw [s2_t d]
        obtain ⟨x, x1, x2, x3⟩ := d
        exact s2_t ⟨x, x1, by omega, x3⟩
      · rw [s2_f d]
        refine s2_f (fun ⟨x, x1, x2, x3⟩ => ?_)
        by_cases cx : x = e
        · rw [cx] at x1 x3
          exact c ⟨x1, x3, d⟩
        · exact d ⟨x, x1, by omega, x3⟩
  unfold tcN nT
  rw [hs]
  by_cases c : fsQ V i 8 e
  · rw [tpN_s c, if_pos c]
    omega
  · rw [tpN_n c, if_neg c]
    omega
theorem tcN_8 : ∀ e, e ≤ 8 → tcN V i e = 0 := fun e h => by
  unfold tcN
  rw [tpN_0 e h, s2_f (fun ⟨x, x1, x2, _⟩ => by omega)]
theorem tcN_le : tcN V i e ≤ e + 1 := by
  unfold tcN
  have := tpN_le (V := V) (i := i) (s := 8) e
  have : s2N V i e ≤ 1 := by
    by_cases c : s2E V i e
    · rw [s2_t c]; exact Nat.le_refl _
    · rw [s2_f c]; decide
  omega
/-- the last place before that is no hole -/
theorem lst_pl : ∀ q, 1 ≤ ncM V i 0 q → ∃ x, x < q ∧ pv V i (px x) ≠ 0 ∧ (∀ y, x < y → y < q → pv V i (px y) = 0) ∧ ncM V i 0 x + 1 = ncM V i 0 q := fun q => by
  induction q with
  | zero => intro h; exact absurd h (by show ¬ 1 ≤ 0; decide)
  | succ q ih =>
    intro h
    by_cases c : pv V i (px q) = 0
    · rw [nc_0 c] at h ⊢
      obtain ⟨x, x1, x2, x3, x4⟩ := ih h
      refine ⟨x, by omega, x2, fun y y1 y2 => ?_, x4⟩
      by_cases cy : y = q
      · rw [cy]; exact c
      · exact x3 y y1 (by omega)
    · exact ⟨q, by omega, c, fun y y1 y2 => by omega, (nc_s c).symm⟩
theorem nc_z : ∀ q, ncM V i 0 q = 0 → ∀ x, x < q → pv V i (px x) = 0 := fun q => by
  induction q with
  | zero => intro _ x h; exact absurd h (Nat.not_lt_zero _)
  | succ q ih =>
    intro h x hx
    by_cases c : pv V i (px q) = 0
    · rw [nc_0 c] at h
      by_cases cx : x = q
      · rw [cx]; exact c
      · exact ih h x (by omega)
    · rw [nc_s c] at h
      omega
theorem nc_le : ∀ q, ncM V i 0 q ≤ q := fun q => by
  induction q with
  | zero => exact Nat.le_refl _
  | succ q ih =>
    by_cases c : pv V i (px q) = 0
    · rw [nc_0 c]; omega
    · rw [nc_s c]; omega
def lsP (V : Nat → Rw) (i p : Nat) (w : Int32) : Prop := (w = -1 ∧ ∀ x, x < p → pv V i (px x) = 0) ∨ ∃ x, x < p ∧ pv V i (px x) ≠ 0 ∧ w = nI x ∧ ∀ y, x < y → y < p → pv V i (px y) = 0
theorem c_lev {U : Nat → Rw} (hp : p < 4168) : d_X7_levels N U D (nI p) = some (nI (levM p)) := by
  rw [d_X7_levels]
  unfold levM
  by_cases c8 : p < 8
  · rw [if_pos c8, if_neg (show ¬ (8 : Int32) ≤ nI p from nI_ge (b := 8) c8 (by decide))]
    rfl
  · rw [if_neg c8, if_pos (show (8 : Int32) ≤ nI p from nI_le (a := 8) (by omega) (by omega))]
    by_cases c72 : p < 72
    · rw [if_pos c72, if_neg (show ¬ (72 : Int32) ≤ nI p from nI_ge (b := 72) c72 (by decide))]
      rfl
    · rw [if_neg c72, if_pos (show (72 : Int32) ≤ nI p from nI_le (a := 72) (by omega) (by omega))]
      rfl
theorem c_ntC {U : Nat → Rw} {w : Int32} (hp : p < 4168) (h0 : pv V i (px p) ≠ 0) (hl : lsP V i p w) : d_X7_newTables N U D w (nI p) (nI (levM p)) = some (nI (nT V i p)) := by
  rw [d_X7_newTables]
  by_cases c8 : p < 8
  · rw [lev_1 c8, if_pos (show nI 1 ≤ (1 : Int32) by decide), d_X7_newTables_26, if_pos (show nI 1 ≤ (2 : Int32) by decide), nT_e (a := 0) (b := 0) (fun z => by have := z.1; omega) (fun _ => rfl) (fun z => by have := z.1; omega) (fun _ => rfl)]
    rfl
  · have hlev : 2 ≤ levM p ∧ levM p ≤ 3 := by
      unfold levM
      rw [if_neg c8]
      split <;> omega
    rw [if_neg (show ¬ nI (levM p) ≤ (1 : Int32) from nI_ge (a := 1) (by omega) (by omega))]
    have tail : ∀ a, a ≤ 1 → d_X7_newTables_26 N U D w (nI (levM p)) (nI a) = some (nI (a + @ite _ (n2Q V i p) (Classical.propDecidable _) 1 0)) := fun a ha => by
      rw [d_X7_newTables_26]
      by_cases c72 : p < 72
      · rw [lev_2 c8 c72, if_pos (show nI 2 ≤ (2 : Int32) by decide), if_neg (fun z => by have := z.1; omega)]
        rfl
      · rw [lev_3 c72, if_neg (show ¬ nI 3 ≤ (2 : Int32) by decide)]
        rcases hl with ⟨rfl, h1⟩ | ⟨x, x1, x2, rfl, x3⟩
        · rw [if_neg (by decide), if_pos ⟨by omega, h0, fun ⟨x, _, y2, y3⟩ => y3 (h1 x y2)⟩, nI_1]
        · by_cases cx : x < 72
          · rw [if_neg (show ¬ (72 : Int32) ≤ nI x from nI_ge (b := 72) cx (by decide)), if_pos ⟨by omega, h0, fun ⟨y, y1, y2, y3⟩ => y3 (x3 y (by omega) y2)⟩, nI_1]
          · rw [if_pos (show (72 : Int32) ≤ nI x from nI_le (a := 72) (by omega) (by omega)), if_neg (fun z => z.2.2 ⟨x, by omega, x1, x2⟩)]
            rfl
    have fin : ∀ a, (fsQ V i 8 p → a = 1) → (¬ fsQ V i 8 p → a = 0) → nT V i p = a + @ite _ (n2Q V i p) (Classical.propDecidable _) 1 0 := fun a h1 h2 => nT_e h1 h2 (fun z => if_pos z) (fun z => if_neg z)
    rcases hl with ⟨rfl, h1⟩ | ⟨x, x1, x2, rfl, x3⟩
    · rw [if_pos rfl, show (0 : Int32) + 1 = nI 1 from rfl, tail 1 (by decide), fin 1 (fun _ => rfl) (fun z => absurd ⟨by omega, h0, fun y _ y2 _ => h1 y y2⟩ z)]
    · rw [if_neg (nI_m1 (by omega)), bnd_o (d_lB (by omega)), bnd_o (d_lB (by omega))]
      have hlb : lbM x < 2 ^ 31 ∧ lbM p < 2 ^ 31 := by
        unfold lbM
        constructor
        · split <;> omega
        · split <;> omega
      have lp := lb_g (show 8 ≤ p by omega)
      by_cases cb : lbM x = lbM p
      · rw [if_pos (by rw [cb]), show (0 : Int32) = nI 0 from rfl, tail 0 (by decide), fin 0 (fun z => ?_) (fun _ => rfl)]
        have hx8 : 8 ≤ x := by
          refine Classical.byContradiction (fun c => ?_)
          have : lbM x = x ∨ lbM x ≤ 8 := by
            unfold lbM
            split <;> omega
          omega
        have lx := lb_g hx8
        exact absurd (z.2.2 x hx8 x1 (by omega)) x2
      · rw [if_neg (fun z => cb (nI_inj hlb.1 hlb.2 z)), show (0 : Int32) + 1 = nI 1 from rfl, tail 1 (by decide), fin 1 (fun _ => rfl) (fun z => absurd ⟨by omega, h0, fun y y1 y2 y3 => ?_⟩ z)]
        by_cases cy : x < y
        · exact x3 y cy y2
        · exfalso
          have lx := lb_g (show 8 ≤ x by omega)
          omega
theorem c_tc {U : Nat → Rw} (hg : GaD V i e D) (he : e ≤ 4168) : ∀ (d q n : Nat), q + d = e → ncM V i 0 e - ncM V i 0 q < n → d_X7_tablesOfCopy_9 N U n D (nI (tcN V i q)) (nI (ncM V i 0 q)) = some (nI (tcN V i e), D) := by
  intro d
  induction d with
  | zero =>
    intro q n hq hn
    obtain ⟨n, rfl⟩ : ∃ k, n = k + 1 := ⟨n - 1, by omega⟩
    rw [show q = e by omega, d_X7_tablesOfCopy_9, hg.1, if_pos (nI_le (Nat.le_refl _) (by have := nc_le (V := V) (i := i) e; omega))]
  | succ d ih =>
    intro q n hq hn
    by_cases c : pv V i (px q) = 0
    · have q1 := ih (q + 1) n (by omega) (by rw [nc_0 c]; exact hn)
      rw [nc_0 c, tcN_s, nT_0 c] at q1
      exact q1
    · obtain ⟨n, rfl⟩ : ∃ k, n = k + 1 := ⟨n - 1, by omega⟩
      have hm : ncM V i 0 (q + 1) ≤ ncM V i 0 e := nc_mono (by omega)
      rw [nc_s c] at hm
      have hle := nc_le (V := V) (i := i) e
      have hlq := nc_le (V := V) (i := i) q
      obtain ⟨g1, g2⟩ := hg.2 q (by omega) c
      have nx := ih (q + 1) n (by omega) (by rw [nc_s c]; omega)
      rw [nc_s c, tcN_s] at nx
      rw [d_X7_tablesOfCopy_9, hg.1, if_neg (nI_ge (by omega) (by omega))]
      by_cases c0 : ncM V i 0 q = 0
      · rw [if_pos (show nI (ncM V i 0 q) = 0 by rw [c0]; rfl), ld_n (by omega) (by decide), g1, ld_n (by omega) (by decide), g1, bnd_o (c_lev (by omega)), bnd_o (c_ntC (by omega) c (Or.inl ⟨rfl, nc_z q c0⟩)), nI_add, nI_1]
        exact nx
      · obtain ⟨x, x1, x2, x3, x4⟩ := lst_pl (V := V) (i := i) q (by omega)
        have gx := (hg.2 x (by omega) x2).1
        rw [if_neg (show ¬ nI (ncM V i 0 q) = 0 from nI_ne0 (by omega) (by omega)), show nI (ncM V i 0 q) - 1 = nI (ncM V i 0 x) by rw [show (1 : Int32) = nI 1 from rfl, pk_sub (by omega)]; congr 1; omega, ld_n (by omega) (by decide), gx, ld_n (by omega) (by decide), g1, ld_n (by omega) (by decide), g1, bnd_o (c_lev (by omega)), bnd_o (c_ntC (by omega) c (Or.inr ⟨x, x1, x2, rfl, x3⟩)), nI_add, nI_1]
        exact nx
/-- the class gathers and counts -/
theorem c_tables {D0 : CfT} (hN1 : 61 ≤ N) (hN : N ≤ 1024) (h : JX N B gr A D0 R m V tk) (hp : PtO N V i) (hi : ir i) (hz : szM V i ≤ 400000) : ∃ D', d_X7_tablesOfCopy N (vA A) D (nI i) = some (nI (tcN V i (bfM (szM V i))), D') ∧ GaD V i (bfM (szM V i)) D' ∧ Dg D D' := by
  obtain ⟨D', g1, g2, g3⟩ := c_gather (D := D) hN1 hN h hp hi hz
  refine ⟨D', ?_, g2, g3⟩
  have hb : bfM (szM V i) ≤ 3200 := by
    unfold bfM
    omega
  have q := c_tc (N := N) (U := vA A) g2 (by omega) (bfM (szM V i)) 0 fuL (by omega) (by rw [fuL_4]; have := nc_le (V := V) (i := i) (bfM (szM V i)); omega)
  rw [tcN_8 0 (by decide)] at q
  rw [d_X7_tablesOfCopy, bnd_o g1]
  exact q
theorem ls_s2 {w : Int32} (hp : 8 ≤ p) (hp4 : p < 5000) (h : lsT V i 8 p w) : (1 : Int32) ≤ w ↔ s2E V i p := by
  rcases h with ⟨rfl, h⟩ | ⟨x, x1, x2, x3, rfl, x5⟩
  · exact ⟨fun z => absurd z (by decide), fun ⟨y, y1, y2, y3⟩ => absurd (h y (by omega) y2) y3⟩
  · constructor
    · intro z
      have : 1 ≤ (x - 8) / 64 := Classical.byContradiction (fun c => absurd z (nI_ge (b := 1) (by omega) (by decide)))
      exact ⟨x, by omega, x2, x3⟩
    · rintro ⟨y, y1, y2, y3⟩
      refine nI_le (a := 1) ?_ (by omega)
      by_cases c : x < y
      · have := x5 y c y2 y3
        omega
      · omega
theorem lsT_z {w : Int32} (h : lsT V i 8 p w) (hz : pv V i (px p) = 0) : lsT V i 8 (p + 1) w := by
  rcases h with ⟨l1, l2⟩ | ⟨z, z1, z2, z3, z4, z5⟩
  · refine Or.inl ⟨l1, fun x x1 x2 => ?_⟩
    by_cases cx : x = p
    · rw [cx]; exact hz
    · exact l2 x x1 (by omega)
  · refine Or.inr ⟨z, z1, by omega, z3, z4, fun y y1 y2 y3 => ?_⟩
    by_cases cy : y = p
    · rw [cy] at y3; exact absurd hz y3
    · exact z5 y y1 (by omega) y3
theorem lsT_g {w : Int32} (h8 : 8 ≤ p) (hp : p < 5000) (h : lsT V i 8 p w) (hg : nI ((p - 8) / 64) = w) : lsT V i 8 (p + 1) w := by
  obtain ⟨x, x1, x2, x3, x4⟩ := (lsT_i (by decide) h8 hp h).mp hg
  rcases h with ⟨l1, l2⟩ | ⟨z, z1, z2, z3, z4, z5⟩
  · exact absurd (l2 x x1 x2) x4
  · refine Or.inr ⟨z, z1, by omega, z3, z4, fun y y1 y2 y3 => ?_⟩
    by_cases cy : y = p
    · rw [cy]
      exact nI_inj (by omega) (by omega) (hg.trans z4)
    · exact z5 y y1 (by omega) y3
theorem ls_fs {w : Int32} (h8 : 8 ≤ p) (hp : p < 5000) (h : lsT V i 8 p w) (h0 : pv V i (px p) ≠ 0) : fsQ V i 8 p ↔ ¬ nI ((p - 8) / 64) = w := by
  have li := lsT_i (by decide) h8 hp h
  constructor
  · intro f z
    obtain ⟨x, x1, x2, x3, x4⟩ := li.mp z
    exact x4 (f.2.2 x x1 x2 x3)
  · intro f
    exact ⟨h8, h0, fun x x1 x2 x3 => Classical.byContradiction (fun x4 => f (li.mpr ⟨x, x1, x2, x3, x4⟩))⟩
theorem grp_n (h8 : 8 ≤ p) (hp : p < 4168) : (1 : Int32) + (nI p - 72) / 64 = nI ((p - 8) / 64) ∨ p < 72 := by
  by_cases c : p < 72
  · exact Or.inr c
  · refine Or.inl ?_
    rw [show (72 : Int32) = nI 72 from rfl, pk_sub (by omega), show (64 : Int32) = nI 64 from rfl, pk_div (by omega) (by decide) (by decide), show (1 : Int32) = nI 1 from rfl, nI_add]
    congr 1
    omega
/-- the reference counts the tables of a copy -/
theorem z_tf (hN1 : 61 ≤ N) (hN : N ≤ 1024) (hy : RY N B gr R m V tk) (hw : PW N V) (hi : ir i) (he : e ≤ 3200) : ∀ (n p : Nat) (w : Int32), 8 ≤ p → e - p < n → lsT V i 8 (min p (max e 8)) w → e_tablesFor_25 R n (nI i) (nI (tcN V i (min p (max e 8)))) w (nI e) (nI p) = some (nI (tcN V i (max e 8))) ∨ 5000 ≤ p := by
  intro n
  induction n with
  | zero => intro p w _ h; exact absurd h (Nat.not_lt_zero _)
  | succ n ih =>
    intro p w h8 hn hl
    by_cases c5 : 5000 ≤ p
    · exact Or.inr c5
    refine Or.inl ?_
    rw [e_tablesFor_25]
    by_cases c1 : e ≤ p
    · rw [if_pos (nI_le c1 (by omega)), show min p (max e 8) = max e 8 by omega]
    have m0 : min p (max e 8) = p := by omega
    rw [m0] at hl ⊢
    rw [if_neg (nI_ge (by omega) (by omega))]
    have hp4 : p < 4168 := by omega
    have nx := fun w' (hl' : lsT V i 8 (p + 1) w') => (ih (p + 1) w' (by omega) (by omega) (by rw [show min (p + 1) (max e 8) = p + 1 by omega]; exact hl')).resolve_right (by omega)
    rw [show min (p + 1) (max e 8) = p + 1 by omega, tcN_s] at nx
    have main : ∀ g, g = nI ((p - 8) / 64) → e_tablesFor_55 R (e_tablesFor_25 R n) (nI i) (nI (tcN V i p)) w (nI e) (nI p) g = some (nI (tcN V i (max e 8))) := fun g hg => by
      rw [e_tablesFor_55, hg, nI_1]
      by_cases cw : nI ((p - 8) / 64) = w
      · have n0 : nT V i p = 0 := by
          obtain ⟨x, x1, x2, x3, x4⟩ := (lsT_i (by decide) h8 (by omega) hl).mp cw
          exact nT_e (a := 0) (b := 0) (fun f => absurd (f.2.2 x x1 x2 x3) x4) (fun _ => rfl) (fun f => absurd ⟨x, by have := f.1; omega, x2, x4⟩ f.2.2) (fun _ => rfl)
        rw [if_pos cw]
        have q := nx w (lsT_g h8 (by omega) hl cw)
        rw [n0] at q
        exact q
      · rw [if_neg cw, bnd_o (z_blk hN1 hN hy (hw.pto hi) hi.1 hi.2 hp4)]
        by_cases cv : pv V i (px p) = 0
        · rw [cv, nI_0, i00]
          have q := nx w (lsT_z hl cv)
          rw [nT_0 cv] at q
          exact q
        · have hpv := ((hw.pto hi _ (px_lt hp4)).resolve_left cv).2.1
          have f : fsQ V i 8 p := (ls_fs h8 (by omega) hl cv).mpr cw
          have s2 := ls_s2 h8 (by omega) hl
          have lx : lsT V i 8 (p + 1) (nI ((p - 8) / 64)) := Or.inr ⟨p, h8, by omega, cv, rfl, fun y y1 y2 => by omega⟩
          have q := nx _ lx
          rw [if_neg (show ¬ nI (pv V i (px p)) = 0 from nI_ne0 (by omega) (by omega))]
          by_cases c72 : p < 72
          · rw [nT_e (a := 1) (b := 0) (fun _ => rfl) (fun z => absurd f z) (fun z => by have := z.1; omega) (fun _ => rfl)] at q
            rw [if_pos (show nI ((p - 8) / 64) ≤ 0 from nI_le (b := 0) (by omega) (by decide)), nI_1]
            exact q
          · rw [if_neg (show ¬ nI ((p - 8) / 64) ≤ 0 from nI_ge (a := 0) (by omega) (by omega))]
            by_cases cs : (1 : Int32) ≤ w
            · rw [nT_e (a := 1) (b := 0) (fun _ => rfl) (fun z => absurd f z) (fun z => absurd (s2.mp cs) z.2.2) (fun _ => rfl)] at q
              rw [if_pos cs, nI_1]
              exact q
            · rw [nT_e (a := 1) (b := 1) (fun _ => rfl) (fun z => absurd f z) (fun _ => rfl) (fun z => absurd ⟨by omega, cv, fun z2 => cs (s2.mpr z2)⟩ z)] at q
              rw [if_neg cs, show (2 : Int32) = nI 2 from rfl, nI_add]
              exact q
    rcases grp_n h8 hp4 with hg | hg
    · by_cases c72 : p < 72
      · rw [if_neg (show ¬ (72 : Int32) ≤ nI p from nI_ge (b := 72) c72 (by decide))]
        exact main 0 (by rw [show (p - 8) / 64 = 0 by omega]; rfl)
      · rw [if_pos (show (72 : Int32) ≤ nI p from nI_le (a := 72) (by omega) (by omega)), nm_o]
        exact main _ hg
    · rw [if_neg (show ¬ (72 : Int32) ≤ nI p from nI_ge (b := 72) hg (by decide))]
      exact main 0 (by rw [show (p - 8) / 64 = 0 by omega]; rfl)
theorem tcN_max : tcN V i (max e 8) = tcN V i e := by
  by_cases c : e ≤ 8
  · rw [show max e 8 = 8 by omega, tcN_8 8 (by decide), tcN_8 e c]
  · rw [show max e 8 = e by omega]
theorem z_tablesFor (hN1 : 61 ≤ N) (hN : N ≤ 1024) (hy : RY N B gr R m V tk) (hw : PW N V) (hi : ir i) (hz : szM V i ≤ 400000) (es : e_size R (nI i) = some (nI (szM V i))) : e_tablesFor R (nI i) = some (nI (tcN V i (bfM (szM V i)))) := by
  have hb : bfM (szM V i) ≤ 3200 := by
    unfold bfM
    omega
  have ebf : (nI (szM V i) + 128 - 1) / 128 = nI (bfM (szM V i)) := by
    rw [show (128 : Int32) = nI 128 from rfl, show (1 : Int32) = nI 1 from rfl, nI_add, pk_sub (by omega), pk_div (by omega) (by decide) (by decide)]
    rfl
  have q := (z_tf hN1 hN hy hw hi hb fuL 8 (-1) (Nat.le_refl _) (by rw [fuL_4]; omega) (Or.inl ⟨rfl, fun x x1 x2 => by omega⟩)).resolve_right (by decide)
  rw [show min 8 (max (bfM (szM V i)) 8) = 8 by omega, tcN_8 8 (by decide), tcN_max] at q
  rw [e_tablesFor, bnd_o es, nm_o, ebf]
  exact q
/-- the reference counts what a copy wants -/
theorem z_wb (hN1 : 61 ≤ N) (hN : N ≤ 1024) (hy : RY N B gr R m V tk) (hw : PW N V) (hi : ir i) (he : e ≤ 3200) : ∀ (n p : Nat) (w : Int32), p ≤ e → e - p < n → lsT V i 8 p w → e_wantedBy_27 R n (nI i) (nI (ncM V i 0 p + tcN V i p)) w (nI (s2N V i p)) (nI e) (nI p) = some (nI (ncM V i 0 e + tcN V i e)) := by
  intro n
  induction n with
  | zero => intro p w _ h; exact absurd h (Nat.not_lt_zero _)
  | succ n ih =>
    intro p w hp hn hl
    rw [e_wantedBy_27]
    by_cases c1 : p = e
    · rw [c1, if_pos (nI_le (Nat.le_refl _) (by omega))]
    have hp4 : p < 4168 := by omega
    rw [if_neg (nI_ge (by omega) (by omega)), bnd_o (z_blk hN1 hN hy (hw.pto hi) hi.1 hi.2 hp4)]
    have nx := fun w' (hl' : lsT V i 8 (p + 1) w') => ih (p + 1) w' (by omega) (by omega) hl'
    rw [tcN_s] at nx
    by_cases cv : pv V i (px p) = 0
    · rw [cv, nI_0, i00, nI_1]
      have q := nx w (lsT_z hl cv)
      have s2 : s2N V i (p + 1) = s2N V i p := by
        by_cases d : s2E V i p
        · rw [s2_t d]
          obtain ⟨x, x1, x2, x3⟩ := d
          exact s2_t ⟨x, x1, by omega, x3⟩
        · rw [s2_f d]
          refine s2_f (fun ⟨x, x1, x2, x3⟩ => ?_)
          by_cases cx : x = p
          · rw [cx] at x3; exact x3 cv
          · exact d ⟨x, x1, by omega, x3⟩
      rw [nT_0 cv, nc_0 cv, s2] at q
      exact q
    · have hpv := ((hw.pto hi _ (px_lt hp4)).resolve_left cv).2.1
      rw [if_neg (show ¬ nI (pv V i (px p)) = 0 from nI_ne0 (by omega) (by omega))]
      have nx := fun w' hl' => nx w' hl'
      rw [nc_s cv] at nx
      by_cases c8 : p < 8
      · have z1 : ¬ s2E V i p := fun ⟨x, x1, x2, _⟩ => by omega
        have z2 : ¬ s2E V i (p + 1) := fun ⟨x, x1, x2, _⟩ => by omega
        have q := nx (-1) (Or.inl ⟨rfl, fun x x1 x2 => by omega⟩)
        rw [nT_e (a := 0) (b := 0) (fun z => by have := z.1; omega) (fun _ => rfl) (fun z => by have := z.1; omega) (fun _ => rfl), s2_f z2] at q
        have l72 : nI p < (72 : Int32) := nI_lt (b := 72) (by omega) (by decide)
        have e100 : e_wantedBy_96 R (e_wantedBy_27 R n) (nI i) (nI (ncM V i 0 p + tcN V i p)) (nI 0) (nI e) (nI p) (-1) = some (nI (ncM V i 0 e + tcN V i e)) := by
          rw [e_wantedBy_96, e_wantedBy_100, if_pos l72, e_wantedBy_118, if_pos (show nI 0 = 0 from rfl), if_pos l72, nI_1, nI_1]
          rw [show ncM V i 0 p + 1 + (tcN V i p + (0 + 0)) = ncM V i 0 p + tcN V i p + 1 by omega] at q
          exact q
        rw [s2_f z1, if_neg (show ¬ (8 : Int32) ≤ nI p from nI_ge (b := 8) c8 (by decide)), e_wantedBy_78]
        by_cases cw : (-1 : Int32) = w
        · rw [if_pos cw]; exact e100
        · rw [if_neg cw, if_pos rfl]; exact e100
      · have h8 : 8 ≤ p := by omega
        have lx : lsT V i 8 (p + 1) (nI ((p - 8) / 64)) := Or.inr ⟨p, h8, by omega, cv, rfl, fun y y1 y2 => by omega⟩
        have q := nx _ lx
        have fs := ls_fs h8 (by omega) hl cv
        have main : ∀ g, g = nI ((p - 8) / 64) → e_wantedBy_78 R (e_wantedBy_27 R n) (nI i) (nI (ncM V i 0 p + tcN V i p)) w (nI (s2N V i p)) (nI e) (nI p) g = some (nI (ncM V i 0 e + tcN V i e)) := fun g hg => by
          have e100 : ∀ a, (fsQ V i 8 p → a = 1) → (¬ fsQ V i 8 p → a = 0) → e_wantedBy_100 R (e_wantedBy_27 R n) (nI i) (nI (ncM V i 0 p + tcN V i p + 1 + a)) (nI (s2N V i p)) (nI e) (nI p) (nI ((p - 8) / 64)) = some (nI (ncM V i 0 e + tcN V i e)) := fun a a1 a2 => by
            rw [e_wantedBy_100]
            by_cases c72 : p < 72
            · have z1 : ¬ s2E V i p := fun ⟨x, x1, x2, _⟩ => by omega
              have z2 : ¬ s2E V i (p + 1) := fun ⟨x, x1, x2, _⟩ => by omega
              have l72 : nI p < (72 : Int32) := nI_lt (b := 72) (by omega) (by decide)
              rw [nT_e (a := a) (b := 0) a1 a2 (fun z => by have := z.1; omega) (fun _ => rfl), s2_f z2, show ncM V i 0 p + 1 + (tcN V i p + (a + 0)) = ncM V i 0 p + tcN V i p + 1 + a by omega] at q
              rw [s2_f z1, if_pos l72, e_wantedBy_118, if_pos (show nI 0 = 0 from rfl), if_pos l72, nI_1]
              exact q
            · have l72 : ¬ nI p < (72 : Int32) := nI_nlt (b := 72) (by omega) (by omega)
              have z2 : s2E V i (p + 1) := ⟨p, by omega, by omega, cv⟩
              rw [s2_t z2] at q
              rw [if_neg l72]
              by_cases d : s2E V i p
              · rw [nT_e (a := a) (b := 0) a1 a2 (fun z => absurd d z.2.2) (fun _ => rfl), show ncM V i 0 p + 1 + (tcN V i p + (a + 0)) = ncM V i 0 p + tcN V i p + 1 + a by omega] at q
                rw [s2_t d, if_neg (show ¬ nI 1 = 0 by decide), e_wantedBy_118, if_neg (show ¬ nI 1 = 0 by decide), e_wantedBy_132, nI_1]
                exact q
              · rw [nT_e (a := a) (b := 1) a1 a2 (fun _ => rfl) (fun z => absurd ⟨by omega, cv, d⟩ z), show ncM V i 0 p + 1 + (tcN V i p + (a + 1)) = ncM V i 0 p + tcN V i p + 1 + a + 1 by omega] at q
                rw [s2_f d, if_pos (show nI 0 = 0 from rfl), if_pos (show nI 0 = 0 from rfl), if_neg l72, e_wantedBy_132, nI_1, nI_1]
                exact q
          rw [e_wantedBy_78, hg]
          by_cases cw : nI ((p - 8) / 64) = w
          · rw [if_pos cw, e_wantedBy_96, nI_1]
            exact e100 0 (fun f => absurd cw (fs.mp f)) (fun _ => rfl)
          · rw [if_neg cw, if_neg (show ¬ nI ((p - 8) / 64) = -1 from nI_m1 (by omega)), show (2 : Int32) = nI 2 from rfl, nI_add]
            exact e100 1 (fun _ => rfl) (fun f => absurd (fs.mpr cw) f)
        rw [if_pos (show (8 : Int32) ≤ nI p from nI_le (a := 8) (by omega) (by omega))]
        by_cases c72 : p < 72
        · rw [if_neg (show ¬ (72 : Int32) ≤ nI p from nI_ge (b := 72) c72 (by decide))]
          exact main 0 (by rw [show (p - 8) / 64 = 0 by omega]; rfl)
        · rw [if_pos (show (72 : Int32) ≤ nI p from nI_le (a := 72) (by omega) (by omega)), nm_o]
          exact main _ ((grp_n h8 hp4).resolve_right c72)
theorem z_wantedBy (hN1 : 61 ≤ N) (hN : N ≤ 1024) (hy : RY N B gr R m V tk) (hw : PW N V) (hi : ir i) (hz : szM V i ≤ 400000) (es : e_size R (nI i) = some (nI (szM V i))) : e_wantedBy R (nI i) = some (nI (ncM V i 0 (bfM (szM V i)) + tcN V i (bfM (szM V i)))) := by
  have hb : bfM (szM V i) ≤ 3200 := by
    unfold bfM
    omega
  have ebf : (nI (szM V i) + 128 - 1) / 128 = nI (bfM (szM V i)) := by
    rw [show (128 : Int32) = nI 128 from rfl, show (1 : Int32) = nI 1 from rfl, nI_add, pk_sub (by omega), pk_div (by omega) (by decide) (by decide)]
    rfl
  have q := z_wb hN1 hN hy hw hi hb fuL 0 (-1) (Nat.zero_le _) (by rw [fuL_4]; omega) (Or.inl ⟨rfl, fun x x1 x2 => by omega⟩)
  rw [tcN_8 0 (by decide), s2_f (fun ⟨x, x1, x2, _⟩ => by omega)] at q
  rw [e_wantedBy, bnd_o es, nm_o, ebf]
  exact q
end PZF
