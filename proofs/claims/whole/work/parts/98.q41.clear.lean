/-! ===== pure: clear ===== -/
section PZO
variable {N B gr r u n0 k t : Nat} {V W : Nat → Rw} {m m' : M5} {tk tk' : Nat → Bool} {s0 : S3} {l : List Nat} {A A' : MS} {D D' D0 D2 : CfT} {R R' R0 : RfT} {g : Bool} {hd hi : Nat → Nat} {tp : Nat → Int32} {tl : Nat} {ex : Nat → Int32} {ch cs c : Nat → Nat}
theorem sfM_lc {tp : Nat → Int32} {d st ln n : Nat} (h1 : ∀ x, x < 4234 → pv W d x = pv V d x) (h2 : ∀ x, x < 4234 → pv V d x ≠ 0 → W (pv V d x) = V (pv V d x)) (hb : ∀ s, s < n → s / 8 < 4168 ∧ pv V d (px (s / 8)) ≠ 0) : ∀ (k s : Nat), s + k ≤ n → sfM W tp d st ln k s = sfM V tp d st ln k s
  | 0, s, _ => rfl
  | k + 1, s, hk => by
    obtain ⟨b1, b2⟩ := hb s (by omega)
    show (if nmE (W (blM W d (s / 8))) tp (16 * (s % 8)) st ln = true then nI s else sfM W tp d st ln k (s + 1)) = (if nmE (V (blM V d (s / 8))) tp (16 * (s % 8)) st ln = true then nI s else sfM V tp d st ln k (s + 1))
    rw [bl_pv b1, bl_pv b1, h1 _ (px_lt b1), h2 _ (px_lt b1) b2, sfM_lc h1 h2 hb k (s + 1) (by omega)]
theorem Way.chain {st ln : Nat → Nat} : ∀ (n i : Nat), Way V tp st ln n i → ∃ ch cs : Nat → Nat, ch 0 = 1 ∧ ch n = i ∧ ∀ j, j < n → ir (ch j) ∧ f1 V (ch j) 0 = 2 ∧ cs j < szM V (ch j) / 16 ∧ sfM V tp (ch j) (st j) (ln j) (szM V (ch j) / 16) 0 = nI (cs j) ∧ sln V (ch j) (cs j) = ch (j + 1) ∧ ch (j + 1) ≠ 0 := by
  intro n
  induction n with
  | zero => intro i h; exact ⟨fun _ => 1, fun _ => 0, rfl, (show i = 1 from h).symm, fun j hj => absurd hj (Nat.not_lt_zero _)⟩
  | succ n ih =>
    intro i ⟨d, s, h1, h2, h3, h4, h5, h6, h7⟩
    obtain ⟨ch, cs, c1, c2, c3⟩ := ih d h1
    refine ⟨uN ch (n + 1) i, uN cs n s, by rw [uN_n (by omega)]; exact c1, uN_s, fun j hj => ?_⟩
    by_cases e : j = n
    · rw [e, uN_n (by omega), uN_s, uN_s, c2]
      exact ⟨h2, h3, h4, h5, h6, h7⟩
    · rw [uN_n (by omega), uN_n e, uN_n (by omega)]
      exact c3 j (by omega)
theorem Way.of {st ln : Nat → Nat} (h0 : ch 0 = 1) : ∀ n, (∀ j, j < n → ir (ch j) ∧ f1 V (ch j) 0 = 2 ∧ cs j < szM V (ch j) / 16 ∧ sfM V tp (ch j) (st j) (ln j) (szM V (ch j) / 16) 0 = nI (cs j) ∧ sln V (ch j) (cs j) = ch (j + 1) ∧ ch (j + 1) ≠ 0) → Way V tp st ln n (ch n) := by
  intro n
  induction n with
  | zero => intro _; exact h0
  | succ n ih =>
    intro h
    obtain ⟨a1, a2, a3, a4, a5, a6⟩ := h n (by omega)
    exact ⟨ch n, cs n, ih (fun j hj => h j (by omega)), a1, a2, a3, a4, a5, a6⟩
theorem WF.s16 (h : WF N V) (hN : N ≤ 1024) {d : Nat} (hd : ir d) (hk : f1 V d 0 = 2) : szM V d / 16 + 2 ≤ 8194 := by
  have h1 := h.s.dlim hd hk
  have h2 := (h.2.2.2.2.1 d hd hk).1
  omega
theorem ld0 {α : Type} {g : Nat → Int32} {n : Nat} {K : Int32 → Option α} (h : 0 < n) (hn : n < 2 ^ 31) : ld g n (0 : Int32) K = K (g 0) := by
  rw [← nI_0]
  exact ld_n h hn
theorem stA0 {α : Type} {D : CfT} {k n : Nat} {v : Int32} {K : CfT → Option α} (h : 0 < n) (hn : n < 2 ^ 31) : stA D k n (0 : Int32) v K = K (sA D k (upd (cA D k) 0 v)) := by
  rw [← nI_0]
  exact stA_n h hn
theorem st0 {α : Type} {R : RfT} {k n : Nat} {v : Int32} {K : RfT → Option α} (h : 0 < n) (hn : n < 2 ^ 31) : stR R k n (0 : Int32) v K = K (setA R k (upd (rA R k) 0 v)) := by
  rw [← nI_0]
  exact st_n h hn
theorem r_clear (hN1 : 61 ≤ N) (hN : N ≤ 1024) (hgr : 1 ≤ gr) (hgr2 : gr ≤ 16) (hu : u + 4200 < 2 ^ 31) (h : IM N B gr u g A D R m V tk hd hi tp tl) (hL : LH V hd hi := by assumption) : Ret N B gr (u + 100) ex (d_X11_clear N B gr A D) (e_clear R) := by
  obtain ⟨D1, R0, R1, c1, c2, c3, c4, h1, ot, t0, htl, -⟩ := h.tn hN
  rw [d_X11_clear, bnd2_o c1, bndF_l c2, e_clear, bnd2_o c3, bnd2_o c4, i00, d_X11_inodeBelowRoot]
  obtain ⟨D2, R2, h2, hTp, f2, ⟨p1, p2⟩ | ⟨k, st, ln, p1, p2, pC, pR, pN⟩⟩ := h1.path htl
  · rw [bnd2_o p1, bnd2_o p2, i00, if_neg (show ¬ (1 : Int32) ≤ -1 by decide), im1]
    exact Ret.ok h2 (by omega) (by rw [f2.1.1 0 (by decide)]; exact t0) rfl rfl
  · have hk := pC.2.1
    have t2 : rS R2 0 = 0 := by rw [f2.1.1 0 (by decide)]; exact t0
    rw [bnd2_o p1, bnd2_o p2, i10, pC.1]
    by_cases k0 : k = 0
    · rw [if_pos (show nI k = 0 by rw [k0]; rfl), if_neg (show ¬ (1 : Int32) ≤ nI k by rw [k0]; decide), if_neg (show ¬ nI k = -1 from nI_m1 (by omega))]
      exact Ret.ok h2 (by omega) t2 rfl rfl
    · have ek : nI k - 1 = nI (k - 1) := by
        rw [show (1 : Int32) = nI 1 from rfl, pk_sub (by omega)]
      obtain ⟨v, g', w1, w2⟩ := j_way47 (D2 := D2) hN1 hN h2.1 h2.2.1 hTp pC pR pN (Nat.le_refl k)
      rw [if_neg (show ¬ nI k = 0 from nI_ne0 (by omega) (by omega)), if_pos (show (1 : Int32) ≤ nI k from nI_le (a := 1) (by omega) (by omega)), bnd2_o (show e_walk R2 0 (nI k) = some (v, setA R2 43 g') from w1)]
      rcases w2 with ⟨rfl, q, -⟩ | ⟨rfl, q, -⟩ | ⟨t, q1, q2, rfl, q3⟩
      · rw [bnd_o q, if_neg (show ¬ (0 : Int32) ≤ -1 by decide)]
        exact Ret.ok h2.a43 (by omega) t2 rfl rfl
      · rw [bnd_o q, if_neg (show ¬ (0 : Int32) ≤ -3 by decide)]
        exact Ret.ok h2.a43 (by omega) t2 rfl rfl
      · rw [if_pos (Or.inl rfl)] at q3
        have h3 := h2.a43 (x := g')
        have ht64 := q1.1.2
        have hf := f1_lt V t 0
        have z0 : (0 : Int32) ≤ nI t := i_nlt (nI_nn (by omega))
        obtain ⟨kc, kk⟩ := j_kind (D2 := D2) hN1 hN h3.1 q1.1
        rw [bnd_o q3]
        show Ret N B gr (u + 100) ex (if 0 ≤ nI t then _ else _) _
        rw [if_pos z0, if_pos z0, bnd_o kk, pC.1, ek]
        -- the way
        obtain ⟨ch, cs, w0, wk, wl⟩ := Way.chain k t q2
        obtain ⟨n0, hn0⟩ : ∃ n0, k = n0 + 1 := ⟨k - 1, by omega⟩
        have hkn : k - 1 = n0 := by omega
        obtain ⟨dI, dK, dS, dF, dL, dT⟩ := wl n0 (by omega)
        rw [show n0 + 1 = k by omega, wk] at dL
        have ot3 : OwT A (setA R2 43 g') m V := ⟨ot.1, (ot.2.fr f2 (by decide)).fr (Fn.a (S := []) (T := [43]) (by decide)) (by decide)⟩
        have zd := h2.2.1.dsz dI
        have dI64 := dI.2
        -- where class and reference stand
        have up : ∀ (D9 : CfT) (A9 : MS) (D8 : CfT) (R9 : RfT) (m9 : M5) (W : Nat → Rw) (tk9 : Nat → Bool), JX N B gr A9 D8 R9 m9 W tk9 → WF N W → D5 D2 D9 → Fn [33] [30, 31, 32, 35, 36, 43, 57, 58] R2 R9 → PS V W ch n0 → ∃ g1 g2, Fnd W (ch n0) ∧ f1 W (ch n0) 0 = 2 ∧ cs n0 < szM W (ch n0) / 16 ∧ sln W (ch n0) (cs n0) = t ∧ t ≠ 0 ∧ e_walk R9 (nI 0) (nI (k - 1)) = some (nI (ch n0), setA R9 43 g1) ∧ d_X4_walk_47 N (vA A9) D9 (nI (k - 1)) = some (nI (ch n0)) ∧ d_X4_slotOf_47 N (vA A9) D9 (nI (ch n0)) (nI (k - 1)) = some (nI (cs n0)) ∧ e_slotOf (setA R9 43 g1) (nI (ch n0)) (nI (st (k - 1))) (nI (ln (k - 1))) = some (nI (cs n0), setA R9 43 g2) := fun D9 A9 D8 R9 m9 W tk9 jx hW d5 fR ps => by
          have pC9 : PthC47 D9 k st ln := ⟨(d5.1 4702 (by decide)).trans pC.1, pC.2.1, fun j hj => by
            rw [show cA D9 48 = cA D2 48 from d5.2 48 (by decide) (by decide) (by decide), show cA D9 49 = cA D2 49 from d5.2 49 (by decide) (by decide) (by decide)]
            exact pC.2.2 j hj⟩
          have hT9 : TpR D9 R9 tp := ⟨hTp.1, fun j => by rw [show cA D9 1 = cA D2 1 from d5.2 1 (by decide) (by decide) (by decide)]; exact hTp.2.1 j, fun j hj => by rw [fR.1.2.1 4 (by decide)]; exact hTp.2.2 j hj⟩
          have pR9 : PthR R9 0 k st ln := fun j hj => by
            rw [fR.1.2.1 50 (by decide), fR.1.2.1 51 (by decide)]
            exact pR j hj
          have wl9 : ∀ j, j < k → ir (ch j) ∧ f1 W (ch j) 0 = 2 ∧ cs j < szM W (ch j) / 16 ∧ sfM W tp (ch j) (st j) (ln j) (szM W (ch j) / 16) 0 = nI (cs j) ∧ sln W (ch j) (cs j) = ch (j + 1) ∧ ch (j + 1) ≠ 0 := fun j hj => by
            obtain ⟨a1, a2, a3, a4, a5, a6⟩ := wl j hj
            obtain ⟨b1, b2, b3, b4⟩ := ps j (by omega)
            have hb := h2.2.1.db a1 a2
            obtain ⟨c1, c2⟩ := hb (cs j) a3
            refine ⟨a1, by rw [b1]; exact a2, by rw [b2]; exact a3, by rw [b2, sfM_lc b3 b4 hb _ 0 (by omega)]; exact a4, ?_, a6⟩
            rw [← a5]
            unfold sln
            rw [b3 _ (px_lt c1), b4 _ (px_lt c1) c2]
          have wy : Way W tp st ln k (ch k) := Way.of (cs := cs) w0 k wl9
          rw [wk] at wy
          obtain ⟨d, s, g1, g2, u1, u2, u3, u4, u5, u6, u7, u8, u9, u10⟩ := j_up47 (D2 := D9) hN1 hN jx hW hT9 pC9 pR9 pN (by omega) wy
          have ed : d = ch n0 := by
            rw [hkn] at u10
            exact Way.inj hW u10 (Way.of (cs := cs) w0 n0 (fun j hj => wl9 j (by omega)))
          subst ed
          have es : s = cs n0 := by
            obtain ⟨gg, v1, -⟩ := j_slotOf47 (D2 := D9) (j := k - 1) hN1 hN jx hW u1.1 u2 hT9 pC9 pR9 pN (by omega)
            rw [u8, hkn, (wl9 n0 (by omega)).2.2.2.1] at v1
            have hz9 := hW.dsz u1.1
            have := (wl9 n0 (by omega)).2.2.1
            exact nI_inj (by omega) (by omega) (Option.some.inj v1)
          subst es
          exact ⟨g1, g2, u1, u2, u3, u4, u5, u6, u7, u8, u9⟩
        -- the end: the top's own name goes
        have fin : ∀ (cn : Nat) (x6 : Int32) (sf : MS → CfT → Int32 → Int32 → Int32 → Int32 → Option (FR Int32)) (A9 : MS) (D9 : CfT) (R9 : RfT) (m9 : M5) (W : Nat → Rw) (tk9 : Nat → Bool) (l9 : List Nat) (r9 : Nat), WK N B gr r9 (m, V, tk) l9 A9 D9 R9 m9 W tk9 (fun _ => 0) → WF N W → (HdW W hd hi ∧ LH W hd hi) → gA A9 = gA A → D5 D2 D9 → Fn [33] [30, 31, 32, 35, 36, 43, 57, 58] R2 R9 → PS V W ch n0 → cA D9 54 0 = nI (ch n0) → cA D9 55 0 = nI (cs n0) → (f1 W t 0 = 2 → ∀ s, s < szM W t / 16 → sln W t s = 0) → Ret N B gr (u + 100) ex (d_X11_clear_201 N B gr sf A9 D9 0 (nI cn) x6 (nI t)) (e_clear_75 R9 (nI k) (nI t) (nI (cn + 1))) := fun cn x6 sf A9 D9 R9 m9 W tk9 l9 r9 wK hW hH hg d5 fR ps e54 e55 hem => by
          obtain ⟨g1, g2, u1, u2, u3, u4, u5, u6, u7, u8, u9⟩ := up D9 A9 D9 R9 m9 W tk9 wK.1 hW d5 fR ps
          have w4 := wK.a43 (x := g2)
          have f43 : Fn [] [43] R9 (setA R9 43 g2) := Fn.a (by decide)
          have hr9 : HRel D9 (setA R9 43 g2) hd hi := (d5.kep (fR.tr (f43.wk (by decide) (by decide))).1 (by decide) (by decide)).hr h2.2.2.2.2.2.1
          obtain ⟨A1, D3, X1, A', D', R', m', W', tk', l', b1, b2, b3, b4, b5, b6, b7, b8, b9, b10, -⟩ := w_rmK hN1 hN w4 hW hr9 hH.1 u1 u2 u3 u4 u5 hem
          obtain ⟨pr1, pr2⟩ := pR (k - 1) (by omega)
          rw [Nat.zero_add] at pr1 pr2
          have r50 : rA (setA R9 43 g1) 50 (k - 1) = nI (st (k - 1)) := by rw [rA_n (by decide), fR.1.2.1 50 (by decide)]; exact pr1
          have r51 : rA (setA R9 43 g1) 51 (k - 1) = nI (ln (k - 1)) := by rw [rA_n (by decide), fR.1.2.1 51 (by decide)]; exact pr2
          have ft : Fn [33] [30, 31, 32, 35, 36, 43, 57, 58] R2 R' := (fR.tr (f43.wk (by decide) (by decide))).tr (b8.wk (by decide) (by decide))
          have d5' : D5 D2 D' := d5.tr b7.d5
          rw [d_X11_clear_201, if_neg (show ¬ nI t = 0 from nI_ne0 (by have := q1.1.1; omega) (by omega)), ld0 (by decide) (by decide), e54, ld0 (by decide) (by decide), e55, bnd2_o b1, bnd2_o b3, d_X11_clear_240, i00, nI_1, e_clear_75, ek, bnd2_o (show e_walk R9 0 (nI (k - 1)) = some (nI (ch n0), setA R9 43 g1) from u6), ld_n (show k - 1 < 32 by omega) (by decide), r50, ld_n (show k - 1 < 32 by omega) (by decide), r51, bnd2_o u9, bnd_o b2, bnd_o b4]
          exact r_clrE hN1 hN hgr hgr2 hu h3 b5 (b6.trans hg) (d5'.kep (R := setA R2 43 g') (S := [33]) (T := [30, 31, 32, 35, 36, 43, 57, 58]) ⟨fun j hj => ft.1.1 j hj, fun k hk => by
            rw [ft.1.2.1 k hk]
            exact (rA_n (fun z => hk (by rw [z]; decide))).symm, ft.1.2.2⟩ (by decide) (by decide)) (by rw [show cA D' 42 = cA D2 42 from d5'.2 42 (by decide) (by decide) (by decide)]; exact h2.2.2.2.2.2.2.2.2.2.2.2) (by rw [ft.1.2.1 48 (by decide)]; exact h2.2.2.2.2.2.2.2.1.2.2.2.2.2.2.2) b9 b10.1 (by rw [ft.1.1 0 (by decide)]; exact t2) hL (b10.2 hH.2)
        have f0 : Fn [33] [30, 31, 32, 35, 36, 43, 57, 58] R2 (setA R2 43 g') := (Fn.a (S := []) (T := [43]) (by decide)).wk (by decide) (by decide)
        obtain ⟨-, -, v1, v2, v3, v4, v5, -, v7, -, -⟩ := up D2 A D2 (setA R2 43 g') m V tk h3.1 h2.2.1 D5.rf f0 PS.rf
        obtain ⟨Da, hDa⟩ : ∃ Da, Da = sA D2 54 (upd (cA D2 54) 0 (nI (ch n0))) := ⟨_, rfl⟩
        have d5a : D5 D2 Da := by rw [hDa]; exact D5.s (Or.inl rfl)
        obtain ⟨-, -, -, -, -, -, -, -, -, v8, -⟩ := up Da A D2 (setA R2 43 g') m V tk h3.1 h2.2.1 d5a f0 PS.rf
        obtain ⟨Db, hDb⟩ : ∃ Db, Db = sA Da 55 (upd (cA Da 55) 0 (nI (cs n0))) := ⟨_, rfl⟩
        have d5b : D5 D2 Db := by rw [hDb]; exact d5a.tr (D5.s (Or.inr rfl))
        have b54 : cA Db 54 0 = nI (ch n0) := by rw [hDb, cA_n (by decide), hDa, cA_e, pk_us]
        have b55 : cA Db 55 0 = nI (cs n0) := by rw [hDb, cA_e, pk_us]
        have a54 : cA Da 54 0 = nI (ch n0) := by rw [hDa, cA_e, pk_us]
        have a4702 : cS Da 4702 = nI k := by rw [hDa]; exact pC.1
        have zi := c_sl2 (D2 := Db) hN1 hN h3.1.1 h2.2.1 v1.1 v2 v3
        rw [v4] at zi
        have kcb := (j_kind (D2 := Db) hN1 hN h3.1 q1.1).1
        have et : ¬ nI t = 0 := nI_ne0 (by have := q1.1.1; omega) (by omega)
        have wk0 := h3.wk hN1 hu ot3
        rw [bnd_o v7, stA0 (by decide) (by decide), ← hDa, ld0 (by decide) (by decide), a54, a4702, ek, bnd_o v8, stA0 (by decide) (by decide), ← hDb, show fuL = 3999999 + 1 from rfl, d_X11_clear_90, if_neg (show ¬ (1000000 : Int32) ≤ 0 by decide), if_pos (show (0 : Int32) ≤ 0 by decide), d_X11_clear_130, ld0 (by decide) (by decide), b54, ld0 (by decide) (by decide), b55, bnd_o zi, if_neg et, i00, bnd_o kcb]
        by_cases c2 : f1 V t 0 = 2
        · have e2 : nI (f1 V t 0) = (2 : Int32) := by rw [c2]; rfl
          obtain ⟨Dc, hDc⟩ : ∃ Dc, Dc = sA (sA Db 54 (upd (cA Db 54) 1 (nI t))) 55 (upd (cA Db 55) 1 0) := ⟨_, rfl⟩
          have d5c : D5 D2 Dc := by rw [hDc]; exact (d5b.tr (D5.s (Or.inl rfl))).tr (D5.s (Or.inr rfl))
          obtain ⟨Rc, hRc⟩ : ∃ Rc, Rc = setA (setA (setA R2 43 g') 57 (upd (rA (setA R2 43 g') 57) 0 (nI t))) 58 (upd (rA (setA (setA R2 43 g') 57 (upd (rA (setA R2 43 g') 57) 0 (nI t))) 58) 0 0) := ⟨_, rfl⟩
          have fc : Fn [] [57, 58] (setA R2 43 g') Rc := by rw [hRc]; exact (Fn.a (by decide)).tr (Fn.a (by decide))
          have s16 : ∀ d, ir d → f1 V d 0 = 2 → szM V d / 16 + 2 ≤ 8194 := fun d hd hk => h2.2.1.s16 hN hd hk
          have tr : TrS V n0 1 ch (uN cs (n0 + 1) 0) (uN (fun _ => 8194) t (szM V t / 16 + 1)) := by
            have ek1 : n0 + 1 = k := by omega
            refine ⟨w0, fun j hj => ?_, ⟨by rw [ek1, wk]; exact q1.1, by rw [ek1, wk]; exact c2⟩, by rw [uN_s]; exact Nat.zero_le _, fun j j1 j2 s hs => ?_, fun j j1 j2 => ?_, fun d hd kd ld hn => ?_⟩
            · obtain ⟨a1, a2, a3, a4, a5, a6⟩ := wl j (by omega)
              rw [uN_n (by omega)]
              exact ⟨a1, a2, a3, a5⟩
            · rw [show j = n0 + 1 by omega, uN_s] at hs
              exact absurd hs (Nat.not_lt_zero _)
            · rw [show j = n0 + 1 by omega, uN_s, ek1, wk, uN_s]
            · have := hn (n0 + 1) (by omega) (Nat.le_refl _)
              rw [ek1, wk] at this
              rw [uN_n (fun z => this z.symm)]
              exact s16 d hd kd
          have cl : CLS N B gr (rmM N m V) (m, V, tk) hd hi n0 D2 R2 1 ch (uN cs (n0 + 1) 0) (uN (fun _ => 8194) t (szM V t / 16 + 1)) [] A Dc Rc m V tk := by
            refine ⟨wk0.fr (by rw [hDc, hDb, hDa]; done) (by rw [hDc, cA_n (by decide), cA_n (by decide), hDb, cA_n (by decide), hDa, cA_n (by decide)]) fc (by decide) (by decide), h2.2.1, ⟨h2.2.2.2.2.2.2.1, hL⟩, d5c, f0.tr (fc.wk (by decide) (by decide)), tr, fun j hj => ⟨?_, ?_⟩, fun j hj => ⟨?_, ?_⟩⟩
            · rw [hDc, cA_n (by decide), cA_e]
              by_cases ej : j = 1
              · rw [ej, pk_us, show n0 + 1 = k by omega, wk]
              · rw [show j = 0 by omega, pk_un (by decide)]
                exact b54
            · rw [hDc, cA_e]
              by_cases ej : j = 1
              · rw [ej, pk_us, uN_s]
                rfl
              · rw [show j = 0 by omega, pk_un (by decide), uN_n (by omega)]
                exact b55
            · rw [hRc, rA_n (by decide), rA_e, show j = 0 by omega, pk_us, show n0 + 1 + 0 = k by omega, wk]
            · rw [hRc, rA_e, show j = 0 by omega, pk_us, show n0 + 1 + 0 = n0 + 1 by omega, uN_s]
              rfl
          have sle : smC (uN (fun _ => 8194) t (szM V t / 16 + 1)) 64 ≤ 8194 * 64 := smC_le (fun j => by
            by_cases ej : j = t
            · rw [ej, uN_s]
              have := s16 t q1.1 c2
              omega
            · rw [uN_n ej]
              exact Nat.le_refl _) 64
          obtain ⟨sf, x6', cnt', A', D', R', m', W, tk', l', ch', cs', c', y1, y2, y3, y4, y5, y6, y7, y8, y9⟩ := w_clr (n0 := n0) hN1 hN h2.2.2.2.2.2.1 t 3999999 fuL 1 1 0 ch (uN cs (n0 + 1) 0) (uN (fun _ => 8194) t (szM V t / 16 + 1)) A Dc Rc m V tk [] (Nat.le_refl _) (by omega) (by rw [fuL_4]; omega) (by omega) (by omega) (by rw [show n0 + 1 = k by omega]; exact wk) cl
          obtain ⟨z1, z2, z3, z4, z5, z6, z7, z8⟩ := id y4
          have ech : ch' n0 = ch n0 := y5 n0 (by omega)
          have ecs : cs' n0 = cs n0 := by rw [y6 n0 (Nat.le_refl _), uN_n (by omega)]
          have etop : ch' (n0 + 1) = t := by rw [y5 (n0 + 1) (Nat.le_refl _), show n0 + 1 = k by omega]; exact wk
          obtain ⟨l1, l2, l3, l4⟩ := z6.2.1 n0 (by omega)
          have zi' := c_sl2 (D2 := D') hN1 hN z1.1.1 z2 l1 l2 l3
          rw [l4, etop, ech, ecs] at zi'
          have e54 : cA D' 54 0 = nI (ch n0) := by rw [(z7 0 (by decide)).1, Nat.add_zero, ech]
          have e55 : cA D' 55 0 = nI (cs n0) := by rw [(z7 0 (by decide)).2, Nat.add_zero, ecs]
          have q1' : d_X11_clear_90 N B gr 3999999 A Dc 1 0 0 1 = d_X11_clear_130 N B gr sf A' D' 0 (nI cnt') 1 x6' := y1
          have q2' : e_clearBelow_18 fuL Rc 0 0 = some (nI cnt', R') := y2
          rw [if_pos e2, if_neg (show ¬ (64 : Int32) ≤ 0 by decide), show (0 : Int32) + 1 = nI 1 from rfl, stA_n (show 1 < 65 by decide) (by decide), stA_n (show 1 < 65 by decide) (by decide), cA_n (by decide), ← hDc, show nI 1 = (1 : Int32) from rfl, q1', d_X11_clear_130, ld0 (by decide) (by decide), e54, ld0 (by decide) (by decide), e55, bnd_o zi', if_neg et, i10, if_pos e2, e_clearBelow, st0 (by decide) (by decide), st0 (by decide) (by decide), ← hRc, bnd2_o q2', nI_1]
          refine fin cnt' x6' sf A' D' R' m' W tk' l' _ z1 z2 z3 y8 z4 z5 y9 e54 e55 (fun _ s hs => ?_)
          have := z6.2.2.2.2.1 (n0 + 1) (by omega) (Nat.le_refl _) s (by rw [y7]; exact hs)
          rw [etop] at this
          exact this
        · have e2 : ¬ nI (f1 V t 0) = (2 : Int32) := nx2 c2 (by omega)
          rw [if_neg e2, if_neg e2]
          exact fin 0 0 _ A Db (setA R2 43 g') m V tk [] _ (wk0.fr (by rw [hDb, hDa]; done) (by rw [hDb, cA_n (by decide), hDa, cA_n (by decide)]) (Fn.rf (S := []) (T := [])) (by decide) (by decide)) h2.2.1 ⟨h2.2.2.2.2.2.2.1, hL⟩ rfl d5b f0 PS.rf b54 b55 (fun z => absurd z c2)
end PZO
