/-! ===== pure: the data of a row of places ===== -/
section PYW
variable {N B gr r u : Nat} {V V1 V2 W VC : Nat → Rw} {m m1 m2 m' : M5} {tk tk1 tk2 tk' : Nat → Bool} {A A1 A2 A' : MS} {D D1 D2 D' : CfT} {R R1 R2 R' : RfT} {i p k a to s b at1 cn e : Nat} {gw : Bool} {fr : Nat → Bool} {src : Nat → Int32} {ow : Nat → Int} {s0 : S3} {l : List Nat}
/-- data rows don't tell numbers -/
theorem pv_dat {x : Rw} (hw : PW N V) (hb : 61 ≤ b) (hnt : ∀ j y, ir j → y < 4234 → tbx y → pv V j y ≠ b) {j : Nat} (hj : ir j) : ∀ y, y < 4234 → pv (vU V b x) j y = pv V j y := pv_eq (fun y hy h0 => by
  have hh := ir_home hj
  by_cases c : y < 10
  · rw [ph_0 c, vU_n (by omega)]
  · rw [ph_hx (by omega) hy, vU_n (hnt j _ hj (by have := hx_lt hy; omega) (hx_tb hy))])
theorem RY.nr (h : RY N B gr R m V tk) : ∀ c, 43 ≤ c → c < N → nr (V c) = V c := fun c h1 h2 => by
  rw [← (h.1.2 c h1 h2).1]
  exact rSee_nr
theorem RY.byt (h : RY N B gr R m V tk) : ∀ c, 43 ≤ c → c < N → Byt (V c) := fun c h1 h2 => by
  rw [← (h.1.2 c h1 h2).1]
  exact rSee_b h.1.1.by
/-- only the row of files changed -/
def D42 (D D' : CfT) : Prop := D'.1 = D.1 ∧ ∀ k, k ≠ 42 → D'.2.1 k = D.2.1 k
theorem D42.rf : D42 D D := ⟨rfl, fun _ _ => rfl⟩
theorem D42.tr (a : D42 D D1) (b : D42 D1 D2) : D42 D D2 := ⟨b.1.trans a.1, fun k h => (b.2 k h).trans (a.2 k h)⟩
theorem D42.st {x : Nat → Int32} : D42 D (sA D 42 x) := ⟨rfl, fun k h => cA_n h⟩
abbrev dS : List Nat := [29, 47, 22, 25, 9, 10, 12, 13, 14, 18, 20]
abbrev dT : List Nat := [43, 44, 48, 35, 37, 46, 23, 24, 38, 45, 6, 7, 8, 15, 17, 39, 40]
theorem WS.rb (h : WS N B r s0 l A R m V tk ow) : WS N B r (m, V, tk) [] A R m V tk ow := ⟨h.1, h.2.1, h.2.2.1, St.rf, fun _ _ _ hc => Or.inl hc⟩
theorem WS.frm {S T : List Nat} (h : WS N B r s0 l A R m V tk ow) (f : Fn S T R R') (h36 : 36 ∉ T) : WS N B r s0 l A R' m V tk ow := ⟨h.1, h.2.1, ⟨h.2.2.1.1, h.2.2.1.2.fr f h36⟩, h.2.2.2⟩
/-- a row that is there -/
theorem byt_wr {y : Nat → Int32} {f : Bool} (hy : Byt y) (hs : Byt src) : Byt (wrF at1 cn p f src y) := fun o => by
  unfold wrF
  split
  · exact hs _
  · split
    · decide
    · exact hy o
theorem nr_eqP {x y : Nat → Int32} (h : ∀ o, o < 128 → x o = y o) : nr x = nr y := by
  funext o
  unfold nr
  by_cases c : o < 128
  · rw [if_pos c, if_pos c, h o c]
  · rw [if_neg c, if_neg c]
theorem w_data_1 {kc kr : Nat} (hN1 : 61 ≤ N) (hN : N ≤ 1024) (hgr : 1 ≤ gr) (hi : ir i) (hcn : cn ≤ 1024) (hat : at1 + cn ≤ 400000) (h1c : 1 ≤ cn) (hto : to = (at1 + cn - 1) / 128) (ha : a = at1 / 128) (hsrc : Byt src) : ∀ (n p u : Nat) (A : MS) (D : CfT) (R : RfT) (m : M5) (VC : Nat → Rw), p + n = to + 1 → a ≤ p → u + 101 * n + 4400 < 2 ^ 31 → CX N A D m VC tk → RY N B gr R m (fV i e gw VC) tk → WS N B r (m, fV i e gw VC, tk) [] A R m (fV i e gw VC) tk ow → Bs N B gr u (m, fV i e gw VC, tk) → PW N VC → (∀ j x, ir j → x < 4234 → pv (fV i e gw VC) j x = pv VC j x) → f1 (fV i e gw VC) i 0 = 1 → (∀ q, p ≤ q → q ≤ to → pv VC i (px q) ≠ 0 ∧ cA D 43 (q - a) = bI (fr q) ∧ rA R 49 (pv VC i (px q)) = bI (fr q)) → cA D 1 = src → (∀ j, j < cn → rA R 59 j = src j) → Byt (cA D 42) → Byt (rA R 48) → ¬ rS R 11 = 0 → (∃ A' D' R' m' VC', d_X3_store_1_122 N B gr (n + (kc + 1)) A D (nI i) (nI at1) (nI cn) (nI a) (nI to) (nI p) = d_X3_store_1_122 N B gr (kc + 1) A' D' (nI i) (nI at1) (nI cn) (nI a) (nI to) (nI (to + 1)) ∧ e_writeData_129 (n + (kr + 1)) R (nI i) (nI at1) (nI cn) (nI to) (nI p) = e_writeData_129 (kr + 1) R' (nI i) (nI at1) (nI cn) (nI to) (nI (to + 1)) ∧ CX N A' D' m' VC' tk ∧ RY N B gr R' m' (fV i e gw VC') tk ∧ WS N B r (m', fV i e gw VC', tk) [] A' R' m' (fV i e gw VC') tk ow ∧ Bs N B gr (u + 101 * n) (m', fV i e gw VC', tk) ∧ PW N VC' ∧ (∀ c, 43 ≤ c → c < N → Chg m' (fV i e gw VC') tk c → Chg m (fV i e gw VC) tk c) ∧ gA A' = gA A ∧ Byt (rA R' 48) ∧ Byt (cA D' 42) ∧ D42 D D' ∧ Fq dS dT R R' ∧ (∀ c, 43 ≤ c → c < 61 → fV i e gw VC' c = fV i e gw VC c) ∧ (∀ c, isT (fV i e gw VC) c → fV i e gw VC' c = fV i e gw VC c) ∧ ∀ c, c < 61 → VC' c = VC c) ∨ (∃ A' D' R', d_X3_store_1_122 N B gr (n + (kc + 1)) A D (nI i) (nI at1) (nI cn) (nI a) (nI to) (nI p) = some (.inr (0, A', D')) ∧ e_writeData_129 (n + (kr + 1)) R (nI i) (nI at1) (nI cn) (nI to) (nI p) = some (0, setS R' 0 2) ∧ Dd N R A'.1 R' ∧ SfT N (u + 101 * n) A' D' ∧ D42 D D' ∧ Byt (cA D' 42)) := by
  intro n
  induction n with
  | zero =>
    intro p u A D R m VC hp hap hu hc hr hs hbs hpw hpv hk1 hq e1 h59 h42 h48 hon
    have hp : p = to + 1 := by omega
    subst hp
    rw [Nat.zero_add, Nat.zero_add]
    exact Or.inl ⟨A, D, R, m, VC, rfl, rfl, hc, hr, hs, hbs, hpw, fun _ _ _ h => h, rfl, h48, h42, D42.rf, Fq.rf, fun _ _ _ => rfl, fun _ _ => rfl, fun _ _ => rfl⟩
  | succ n ih =>
    intro p u A D R m VC hp hap hu hc hr hs hbs hpw hpv hk1 hq e1 h59 h42 h48 hon
    have hpt : p ≤ to := by omega
    have hp4 : p < 4168 := by omega
    obtain ⟨p0, q43, q49⟩ := hq p (Nat.le_refl _) hpt
    obtain ⟨b1, b2, b3⟩ := (hpw.pto hi _ (px_lt hp4)).resolve_left p0
    have hh := ir_home hi
    have eb := c_blk (D2 := D) hN1 hN hc (hpw.pto hi) hi.1 hi.2 hp4
    have pwV : PW N (fV i e gw VC) := hs.1.1
    have er := z_blk hN1 hN hr (pwV.pto hi) hi.1 hi.2 hp4
    rw [hpv i _ hi (px_lt hp4)] at er
    have hnt : ¬ isT (fV i e gw VC) (pv VC i (px p)) := by
      have z := no_tab pwV hi hk1 hp4 (by rw [hpv i _ hi (px_lt hp4)]; exact p0)
      rw [hpv i _ hi (px_lt hp4)] at z
      exact z
    have hntC : ∀ j y, ir j → y < 4234 → tbx y → pv VC j y ≠ pv VC i (px p) := fun j y hj hy ht z => hnt ⟨by omega, j, y, hj, hy, (hpv j y hj hy).trans z, Or.inl ht⟩
    have e43 : VC 43 = fV i e gw VC 43 := (fV_x (by omega)).symm
    have hfresh : ∀ q, p < q → q ≤ to → pv VC i (px q) ≠ pv VC i (px p) := fun q q1 q2 z => by
      have w := (hpw.2.2.1 i (px q) i (px p) hi (px_lt (by omega)) hi (px_lt hp4) (hq q (by omega) q2).1 z).2
      have := px_inj w
      omega
    generalize eB : pv VC i (px p) = b at p0 q49 b1 b2 b3 eb er hnt hntC hfresh
    have bh : b ≠ homeM i := by omega
    have evb : vA A b = VC b := hc.agu b (by omega) b2 b3
    have eVb : fV i e gw VC b = VC b := fV_x bh
    have hby : Byt (VC b) := by rw [← eVb]; exact hr.byt b (by omega) b2
    have hnr : nr (VC b) = VC b := by rw [← eVb]; exact hr.nr b (by omega) b2
    obtain ⟨x, x1, x2, x3⟩ := c_row_1 (N := N) (A := A) (D := D) (b := b) (p := p) (at1 := at1) (cn := cn) (fr := fr p) (K := fun D21 => bndF (d_X10_writeDirectly N B gr A D21 (nI b)) (fun v22 A22 D22 => d_X3_store_1_122 N B gr (n + (kc + 1)) A22 D22 (nI i) (nI at1) (nI cn) (nI a) (nI to) (nI (p + 1)))) hN b2 (by rw [evb]; exact hby) h42 (by rw [e1]; exact hsrc) hcn hat (by omega) (by omega)
    obtain ⟨g3, y1, y2⟩ := z_see (R := R) (b := b) (ow := true) (by omega) (hr.1.1.lk b (by omega)) hr.1.1.by
    have y3 : ∀ o, o < 128 → rA (setA R 43 g3) 43 o = VC b o := fun o ho => by rw [rA_e, y2 o ho, hr.agu b (by omega) b2 (by rw [← e43]; exact b3), eVb]
    have b44 : Byt (rA (setA R 43 g3) 44) := hr.1.1.1.b44
    obtain ⟨g4, v1, v2, v3⟩ := z_w162 (R := setA R 43 g3) (i := i) (to := to) (b := b) (p := p) (at1 := at1) (cn := cn) (fr := fr p) (y := VC b) (src := src) (self := e_writeData_129 (n + (kr + 1))) hat (by omega) hp4 (by omega) (fun o _ => hby o) (fun j _ => hsrc j) q49 y3 h59 fuL 0 (rA (setA R 43 g3) 44) (by decide) (by rw [fuL_4]; omega) b44 (fun o ho => absurd ho (Nat.not_lt_zero _))
    rw [setA_id, nI_0] at v1
    have ecl : d_X3_store_1_122 N B gr (n + 1 + (kc + 1)) A D (nI i) (nI at1) (nI cn) (nI a) (nI to) (nI p) = bndF (d_X10_writeDirectly N B gr A (sA D 42 x) (nI b)) (fun v22 A22 D22 => d_X3_store_1_122 N B gr (n + (kc + 1)) A22 D22 (nI i) (nI at1) (nI cn) (nI a) (nI to) (nI (p + 1))) := by
      rw [show n + 1 + (kc + 1) = (n + (kc + 1)) + 1 by omega, d_X3_store_1_122, if_neg (nI_nlt hpt (by omega)), bnd_o eb, pk_mn hap, ld_n (show p - a < 17 by omega) (by decide), q43, nI_1]
      exact x1
    have erf : e_writeData_129 (n + 1 + (kr + 1)) R (nI i) (nI at1) (nI cn) (nI to) (nI p) = bnd (e_direct (setA (setA R 43 g3) 44 g4) (nI b)) (fun R165 => e_writeData_129 (n + (kr + 1)) R165 (nI i) (nI at1) (nI cn) (nI to) (nI (p + 1))) := by
      rw [show n + 1 + (kr + 1) = (n + (kr + 1)) + 1 by omega, e_writeData_129, if_neg (nI_nlt hpt (by omega)), if_neg hon, bnd_o er, bnd_o (show e_see R (nI b) 1 = some (setA R 43 g3) from y1)]
      exact v1
    rw [ecl, erf]
    have hc2 : CX N A (sA D 42 x) m VC tk := hc.dd rfl (cA_n (by decide))
    have hr2 : RY N B gr (setA (setA R 43 g3) 44 g4) m (fV i e gw VC) tk := hr.a43.a44 v2
    have fA : Fn [] [43, 44] R (setA (setA R 43 g3) 44 g4) := (Fn.a (by decide)).tr (Fn.a (by decide))
    have hs2 := hs.frm fA (by decide)
    rw [evb, e1] at x3
    have ex : nr (cA (sA D 42 x) 42) = nr (wrF at1 cn p (fr p) src (VC b)) := by
      rw [cA_e]
      exact nr_eqP x3
    have ex2 : nr (rA (setA (setA R 43 g3) 44 g4) 44) = nr (wrF at1 cn p (fr p) src (VC b)) := by
      rw [rA_e]
      exact nr_eqP v3
    have h48' : Byt (rA (setA (setA R 43 g3) 44 g4) 48) := by
      rw [fA.1.2.1 48 (by decide)]
      exact h48
    rcases w_directG (x := nr (wrF at1 cn p (fr p) src (VC b))) hN1 hN hgr (by omega) hc2 e43 hr2 hs2 hbs b1 b2 (by rw [← e43]; exact b3) hnt (by rw [cA_e]; exact x2) ex ex2 h48' with ⟨A2, R2, m2, z1, z2, z3, z4, z5, z6, z7, z8, z9, z10, z11⟩ | ⟨A2, R2, z1, z2, z3, z4, z5⟩
    · rw [bndF_l z1, bnd_o z2]
      rw [← fV_u bh] at z4 z5 z6 z7
      have fB : Fq dS dT R R2 := (fA.1.wk (by decide) (by decide)).tr (z11.wk (by decide) (by decide))
      have pvC : ∀ j y, ir j → y < 4234 → pv (vU VC b (nr (wrF at1 cn p (fr p) src (VC b)))) j y = pv VC j y := fun j y hj hy => pv_dat hpw b1 hntC hj y hy
      have rows : ∀ c, c ≠ b → fV i e gw (vU VC b (nr (wrF at1 cn p (fr p) src (VC b)))) c = fV i e gw VC c := fun c hc => by rw [fV_u bh, vU_n hc]
      have rt : ∀ c, isT (fV i e gw VC) c → fV i e gw (vU VC b (nr (wrF at1 cn p (fr p) src (VC b)))) c = fV i e gw VC c := fun c hc => rows c (fun z => hnt (by rw [← z]; exact hc))
      obtain ⟨-, dp2, -, dp4, -⟩ := hs.1.dep hN1 (W := fV i e gw (vU VC b (nr (wrF at1 cn p (fr p) src (VC b))))) (fun c c1 c2 => rows c (by omega)) rt
      have it : ∀ c, isT (fV i e gw VC) c → isT (fV i e gw (vU VC b (nr (wrF at1 cn p (fr p) src (VC b))))) c := fun c hc => (isT_dp hs.1 hN1 (fun c c1 c2 => rows c (by omega)) rt).mpr hc
      rcases ih (p + 1) (u + 101) A2 (sA D 42 x) R2 m2 _ (by omega) (by omega) (by omega) z3 z4 z5 z6 (hpw.cg pvC (vU_n (by omega))) (fun j y hj hy => by rw [dp4 j hj y hy, hpv j y hj hy, pvC j y hj hy]) (by rw [dp2 i 0 hi]; exact hk1) (fun q q1 q2 => by
        obtain ⟨k1, k2, k3⟩ := hq q (by omega) q2
        rw [pvC i _ hi (px_lt (by omega)), fB.2.1 49 (by decide), cA_n (by decide)]
        exact ⟨k1, k2, k3⟩) (by rw [cA_n (by decide)]; exact e1) (fun j hj => by rw [fB.2.1 59 (by decide)]; exact h59 j hj) (by rw [cA_e]; exact x2) z10 z9 with ⟨A3, D3, R3, m3, VC3, w1, w2, w3, w4, w5, w6, w7, w8, w9, w10, w11, w12, w13, w14, w15, w16⟩ | ⟨A3, D3, R3, w1, w2, w3, w4, w5, w6⟩
      · refine Or.inl ⟨A3, D3, R3, m3, VC3, w1, w2, w3, w4, w5, by rw [show u + 101 * (n + 1) = u + 101 + 101 * n by omega]; exact w6, w7, fun c c1 c2 hcc => z7 c c1 c2 (w8 c c1 c2 hcc), w9.trans z8, w10, w11, D42.st.tr w12, fB.tr w13, fun c c1 c2 => (w14 c c1 c2).trans (rows c (by omega)), fun c hcc => (w15 c (it c hcc)).trans (rt c hcc), fun c hcc => (w16 c hcc).trans (vU_n (by omega))⟩
      · exact Or.inr ⟨A3, D3, R3, w1, w2, w3.fq fB (by decide) (by decide), w4.up (by omega), D42.st.tr w5, w6⟩
    · rw [bndF_r z1, bnd_o z2]
      refine Or.inr ⟨A2, _, R2, rfl, ?_, z4.fq fA.1 (by decide) (by decide), z5.up (by omega), D42.st, by rw [cA_e]; exact x2⟩
      rw [show n + (kr + 1) = (n + kr) + 1 by omega, e_writeData_129, z3, i00, com_off z3]
      split <;> rfl
end PYW
