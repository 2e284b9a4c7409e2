/-! ===== pure: the same for the pattern ===== -/
section PYX1
variable {N B gr r u : Nat} {V V1 V2 W : Nat → Rw} {m m1 m2 m' : M5} {tk tk1 tk2 tk' : Nat → Bool} {A A1 A2 A' : MS} {D D1 D2 D' : CfT} {R R1 R2 R' : RfT} {i p k a to : Nat}
theorem j_haves_53 {at1 cn kc kr : Nat} (hN1 : 61 ≤ N) (hN : N ≤ 1024) (hi : ir i) (hto : to < 4168) (h17 : to - a < 17) : ∀ (n p : Nat) (A : MS) (D : CfT) (R : RfT) (m : M5) (V : Nat → Rw) (tk : Nat → Bool), p + n = to + 1 → a ≤ p → JH N B gr (r + wnF V i true p n) A D R m V tk → (∃ A' D' R' m' V' tk', d_X3_store_53_84 N B gr (n + (kc + 1)) A D (nI i) (nI at1) (nI cn) (nI a) (nI to) (nI p) = d_X3_store_53_84 N B gr (kc + 1) A' D' (nI i) (nI at1) (nI cn) (nI a) (nI to) (nI (to + 1)) ∧ e_have_19 (n + (kr + 1)) R (nI i) (nI to) (bI false) (nI p) = some R' ∧ HvR N B gr r i (yR p to) A D R m V tk A' D' R' m' V' tk' ∧ (∀ q, p ≤ q → q ≤ to → pv V' i (px q) ≠ 0) ∧ (∀ q, p ≤ q → q ≤ to → cA D' 43 (q - a) = bI (decide (pv V i (px q) = 0))) ∧ (∀ q, a ≤ q → q < p → cA D' 43 (q - a) = cA D 43 (q - a))) ∨ (∃ A' D' R', d_X3_store_53_84 N B gr (n + (kc + 1)) A D (nI i) (nI at1) (nI cn) (nI a) (nI to) (nI p) = some (.inr (0, A', D')) ∧ e_have_19 (n + (kr + 1)) R (nI i) (nI to) (bI false) (nI p) = some R' ∧ Dd N R A'.1 R' ∧ D4 D D' ∧ FlT N B m A' D') := by
  intro n
  induction n with
  | zero =>
    intro p A D R m V tk hp hap h
    have hp : p = to + 1 := by omega
    subst hp
    rw [Nat.zero_add, Nat.zero_add]
    refine Or.inl ⟨A, D, R, m, V, tk, rfl, ?_, HvR.rf h, fun q q1 q2 => by omega, fun q q1 q2 => by omega, fun _ _ _ => rfl⟩
    rw [e_have_19, if_pos (nI_lt (by omega) (by omega))]
  | succ n ih =>
    intro p A D R m V tk hp hap h
    have hpt : p ≤ to := by omega
    have hp4 : p < 4168 := by omega
    have ew : wnF V i true p (n + 1) = msM V i p + wnF V i false (p + 1) n := by
      show wq V i true p + wnF V i false (p + 1) n = _
      rw [wq_t hp4]
    have h0 : JH N B gr ((r + wnF V i false (p + 1) n) + msM V i p) A D R m V tk := by
      rw [ew] at h
      rw [show r + wnF V i false (p + 1) n + msM V i p = r + (msM V i p + wnF V i false (p + 1) n) by omega]
      exact h
    have hw := h.2.1
    have e1 : d_X3_store_53_84 N B gr (n + 1 + (kc + 1)) A D (nI i) (nI at1) (nI cn) (nI a) (nI to) (nI p) = bndF (d_X7_have N B gr A D (nI i) (nI p) (bI false)) (fun v10 A10 D10 => d_X3_store_53_84 N B gr (n + (kc + 1)) A10 (sA D10 43 (upd (cA D10 43) (p - a) (vp_nar .boolean v10))) (nI i) (nI at1) (nI cn) (nI a) (nI to) (nI (p + 1))) := by
      rw [show n + 1 + (kc + 1) = (n + (kc + 1)) + 1 by omega, d_X3_store_53_84, if_neg (nI_nlt hpt (by omega)), pk_mn hap, nI_1]
      congr 1
      funext v10 A10 D10
      rw [stA_n (by omega) (by decide)]
    rw [show n + 1 + (kr + 1) = (n + (kr + 1)) + 1 by omega]
    rcases j_have1 (n := n + (kr + 1)) (to := to) (tb := false) hN1 hN hi h0 hp4 hpt hto with ⟨A1, D1, R1, m1, V1, tk1, a1, a2, a3, a4, a5, a6, a7, a8, a9, a10, a11, a12⟩ | ⟨A1, D1, R1, a1, a2, a3, a4, a5⟩
    · rw [a1, bndF_l rfl, nar_b] at e1
      rw [e1, a2]
      have ew2 : wnF V i false (p + 1) n = wnF V1 i true (p + 1) n := by
        have z := wnF_ms (n := n) hi a4 (by omega) a5
        omega
      rw [ew2] at a3
      have hr : HvR N B gr (r + wnF V1 i true (p + 1) n) i (yR p to) A D R m V tk A1 (sA D1 43 (upd (cA D1 43) (p - a) (bI (decide (pv V i (px p) = 0))))) R1 m1 V1 tk1 := HvR.d43 (HvR.wk (Y := pY p) ⟨a3, a4, a6, a7.d4, a8, a9, a10, a11, a12⟩ (fun y hy => ⟨p, Nat.le_refl _, hpt, hy⟩))
      have epv : ∀ q, p < q → q ≤ to → pv V1 i (px q) = pv V i (px q) := fun q q1 q2 => a4.1 i (px q) hi (px_lt (by omega)) (Or.inr (Or.inr (fun z => by have := pY_px hp4 z; omega)))
      rcases ih (p + 1) A1 _ R1 m1 V1 tk1 (by omega) (by omega) hr.1 with ⟨A2, D2, R2, m2, V2, tk2, b1, b2, b3, b4, b5, b6⟩ | ⟨A2, D2, R2, b1, b2, b3, b4, b5⟩
      · refine Or.inl ⟨A2, D2, R2, m2, V2, tk2, b1, b2, hr.tr hi hw (b3.wk (fun y ⟨q, q1, q2, q3⟩ => ⟨q, by omega, q2, q3⟩)), fun q q1 q2 => ?_, fun q q1 q2 => ?_, fun q q1 q2 => ?_⟩
        · by_cases c : q = p
          · rw [c, b3.2.1.1 i (px p) hi (px_lt hp4) (Or.inl a5)]
            exact a5
          · exact b4 q (by omega) q2
        · by_cases c : q = p
          · rw [c, b6 p hap (by omega), cA_e, pk_us]
          · rw [b5 q (by omega) q2, epv q (by omega) q2]
        · rw [b6 q q1 (by omega), cA_e, pk_un (by omega)]
          exact congrFun (a7.2 43 (by decide)) _
      · refine Or.inr ⟨A2, D2, R2, b1, b2, b3.fq a8 (by decide) (by decide), hr.2.2.2.1.tr b4, b5.pre a10⟩
    · rw [a1, bndF_r rfl] at e1
      rw [e1, a2]
      refine Or.inr ⟨A1, D1, R1, rfl, ?_, a3, a4.d4, a5⟩
      rw [show n + (kr + 1) = (n + kr) + 1 by omega]
      exact hv_dead19 a3.1.1
end PYX1
section PYX2
variable {N B gr r u : Nat} {V V1 V2 W : Nat → Rw} {m m1 m2 m' : M5} {tk tk1 tk2 tk' : Nat → Bool} {A A1 A2 A' : MS} {D D1 D2 D' : CfT} {R R1 R2 R' : RfT} {i p k a to s b at1 cn : Nat} {fr : Bool} {ow : Nat → Int} {s0 : S3} {l : List Nat}
theorem c_row_53 {α : Type} {K : CfT → Option (FR α)} (hN : N ≤ 1024) (hb : b < N) (hy : Byt (vA A b)) (h42 : Byt (cA D 42)) (hsrc : Byt (cA D 53)) (hcn : cn ≤ 2000) (hat : at1 + cn ≤ 400000) (hp1 : 128 * p < at1 + cn) (hp2 : at1 < 128 * p + 128) : ∃ x, bnd (d_X3_load N (vA A) D (nI b) (bI fr)) (fun D18 => nm (if nI at1 < ((nI p) * ((128 : Int32))) then ((nI p) * ((128 : Int32))) else nI at1) (fun v19 => nm (if (((nI p) * ((128 : Int32))) + ((128 : Int32))) < ((nI at1) + (nI cn)) then (((nI p) * ((128 : Int32))) + ((128 : Int32))) else ((nI at1) + (nI cn))) (fun v20 => gd (Byt (cA D18 53)) (cpD D18 42 128 (cA D18 53) 2000 ((v19) - (nI at1)) ((v19) - ((nI p) * ((128 : Int32)))) ((v20) - (v19)) K)))) = K (sA D 42 x) ∧ Byt x ∧ ∀ o, o < 128 → x o = wrF at1 cn p fr (cA D 53) (vA A b) o := by
  obtain ⟨x1, e1, b1, x2⟩ : ∃ x1, d_X3_load N (vA A) D (nI b) (bI fr) = some (sA D 42 x1) ∧ Byt x1 ∧ ∀ o, o < 128 → x1 o = if fr = true then 0 else vA A b o := by
    cases fr with
    | false =>
      obtain ⟨x, a1, a2, a3⟩ := c_load (W := vA A) (D := D) hN hb hy h42
      exact ⟨x, a1, a2, fun o ho => by rw [a3 o ho, if_neg (by decide)]⟩
    | true =>
      refine ⟨flt (cA D 42) 0 128 (vp_nar .byte 0), ?_, fun o => ?_, fun o ho => ?_⟩
      · rw [d_X3_load, if_neg (show ¬ bI true = 0 by decide)]
        rfl
      · by_cases c : o < 128
        · rw [flt_at (Nat.zero_le _) c]
          decide
        · unfold flt
          rw [if_neg (fun z => c z.2)]
          exact h42 o
      · rw [flt_at (Nat.zero_le _) ho, if_pos rfl]
        decide
  have e19 : (if nI at1 < ((nI p) * ((128 : Int32))) then ((nI p) * ((128 : Int32))) else nI at1) = nI (max at1 (p * 128)) := by
    rw [show (128 : Int32) = nI 128 from rfl, pk_mul]
    by_cases c : at1 < p * 128
    · rw [if_pos (nI_lt c (by omega)), show max at1 (p * 128) = p * 128 by omega]
    · rw [if_neg (nI_nlt (by omega) (by omega)), show max at1 (p * 128) = at1 by omega]
  have e20 : (if (((nI p) * ((128 : Int32))) + ((128 : Int32))) < ((nI at1) + (nI cn)) then (((nI p) * ((128 : Int32))) + ((128 : Int32))) else ((nI at1) + (nI cn))) = nI (min (at1 + cn) (p * 128 + 128)) := by
    rw [show (128 : Int32) = nI 128 from rfl, pk_mul, nI_add, nI_add]
    by_cases c : p * 128 + 128 < at1 + cn
    · rw [if_pos (nI_lt c (by omega)), show min (at1 + cn) (p * 128 + 128) = p * 128 + 128 by omega]
    · rw [if_neg (nI_nlt (by omega) (by omega)), show min (at1 + cn) (p * 128 + 128) = at1 + cn by omega]
  have eb : (nI p) * ((128 : Int32)) = nI (p * 128) := by rw [show (128 : Int32) = nI 128 from rfl, pk_mul]
  have e1c : cA (sA D 42 x1) 53 = cA D 53 := cA_n (by decide)
  rw [bnd_o e1, e19, e20, eb]
  simp only [nm]
  rw [e1c, gd_t hsrc, pk_sub (by omega), pk_sub (by omega), pk_sub (by omega), cpD_n (by omega) (by omega) (by decide) (by decide), cA_e]
  refine ⟨va_cpy (cA D 53) x1 (max at1 (p * 128) - at1) (max at1 (p * 128) - p * 128) (min (at1 + cn) (p * 128 + 128) - max at1 (p * 128)), by rw [sA_A], fun o => ?_, fun o ho => ?_⟩
  · unfold va_cpy
    split
    · exact hsrc _
    · exact b1 o
  · unfold va_cpy wrF
    by_cases c : at1 ≤ 128 * p + o ∧ 128 * p + o < at1 + cn
    · rw [if_pos ⟨by omega, by omega⟩, if_pos c]
      congr 1
      omega
    · rw [if_neg (by omega), if_neg c, x2 o ho]
end PYX2
section PYX3
variable {N B gr r u : Nat} {V V1 V2 W VC : Nat → Rw} {m m1 m2 m' : M5} {tk tk1 tk2 tk' : Nat → Bool} {A A1 A2 A' : MS} {D D1 D2 D' : CfT} {R R1 R2 R' : RfT} {i p k a to s b at1 cn e : Nat} {gw : Bool} {fr : Nat → Bool} {src : Nat → Int32} {ow : Nat → Int} {s0 : S3} {l : List Nat}
theorem w_data_53 {kc kr : Nat} (hN1 : 61 ≤ N) (hN : N ≤ 1024) (hgr : 1 ≤ gr) (hi : ir i) (hcn : cn ≤ 2000) (hat : at1 + cn ≤ 400000) (h1c : 1 ≤ cn) (hto : to = (at1 + cn - 1) / 128) (ha : a = at1 / 128) (hsrc : Byt src) : ∀ (n p u : Nat) (A : MS) (D : CfT) (R : RfT) (m : M5) (VC : Nat → Rw), p + n = to + 1 → a ≤ p → u + 101 * n + 4400 < 2 ^ 31 → CX N A D m VC tk → RY N B gr R m (fV i e gw VC) tk → WS N B r (m, fV i e gw VC, tk) [] A R m (fV i e gw VC) tk ow → Bs N B gr u (m, fV i e gw VC, tk) → PW N VC → (∀ j x, ir j → x < 4234 → pv (fV i e gw VC) j x = pv VC j x) → f1 (fV i e gw VC) i 0 = 1 → (∀ q, p ≤ q → q ≤ to → pv VC i (px q) ≠ 0 ∧ cA D 43 (q - a) = bI (fr q) ∧ rA R 49 (pv VC i (px q)) = bI (fr q)) → cA D 53 = src → (∀ j, j < cn → rA R 59 j = src j) → Byt (cA D 42) → Byt (rA R 48) → ¬ rS R 11 = 0 → (∃ A' D' R' m' VC', d_X3_store_53_122 N B gr (n + (kc + 1)) A D (nI i) (nI at1) (nI cn) (nI a) (nI to) (nI p) = d_X3_store_53_122 N B gr (kc + 1) A' D' (nI i) (nI at1) (nI cn) (nI a) (nI to) (nI (to + 1)) ∧ e_writeData_129 (n + (kr + 1)) R (nI i) (nI at1) (nI cn) (nI to) (nI p) = e_writeData_129 (kr + 1) R' (nI i) (nI at1) (nI cn) (nI to) (nI (to + 1)) ∧ CX N A' D' m' VC' tk ∧ RY N B gr R' m' (fV i e gw VC') tk ∧ WS N B r (m', fV i e gw VC', tk) [] A' R' m' (fV i e gw VC') tk ow ∧ Bs N B gr (u + 101 * n) (m', fV i e gw VC', tk) ∧ PW N VC' ∧ (∀ c, 43 ≤ c → c < N → Chg m' (fV i e gw VC') tk c → Chg m (fV i e gw VC) tk c) ∧ gA A' = gA A ∧ Byt (rA R' 48) ∧ Byt (cA D' 42) ∧ D42 D D' ∧ Fq dS dT R R' ∧ (∀ c, 43 ≤ c → c < 61 → fV i e gw VC' c = fV i e gw VC c) ∧ (∀ c, isT (fV i e gw VC) c → fV i e gw VC' c = fV i e gw VC c) ∧ ∀ c, c < 61 → VC' c = VC c) ∨ (∃ A' D' R', d_X3_store_53_122 N B gr (n + (kc + 1)) A D (nI i) (nI at1) (nI cn) (nI a) (nI to) (nI p) = some (.inr (0, A', D')) ∧ e_writeData_129 (n + (kr + 1)) R (nI i) (nI at1) (nI cn) (nI to) (nI p) = some (0, setS R' 0 2) ∧ Dd N R A'.1 R' ∧ SfT N (u + 101 * n) A' D' ∧ D42 D D' ∧ Byt (cA D' 42)) := by
  intro n
  induction n with
  | zero =>
    intro p u A D R m VC hp hap hu hc hr hs hbs hpw hpv hk1 hq e1 h59 h42 h48 hon
    have hp : p = to + 1 := by omega
    subst hp
    rw [Nat.zero_add, Nat.zero_add]
    exact Or.inl ⟨A, D, R, m, VC, rfl, rfl, hc, hr, hs, hbs, hpw, fun _ _ _ h => h, rfl, h48, h42, D42.rf, Fq.rf, fun _ _ _ => rfl, fun _ _ => rfl, fun _ _ => rfl⟩
  | succ n ih =>
    intro p u A D R m VC hp hap hu hc hr hs hbs hpw hpv hk1 hq e1 h59 h42 h48 hon
    have hpt : p ≤ to := by omega
    have hp4 : p < 4168 := by omega
    obtain ⟨p0, q43, q49⟩ := hq p (Nat.le_refl _) hpt
    obtain ⟨b1, b2, b3⟩ := (hpw.pto hi _ (px_lt hp4)).resolve_left p0
    have hh := ir_home hi
    have eb := c_blk (D2 := D) hN1 hN hc (hpw.pto hi) hi.1 hi.2 hp4
    have pwV : PW N (fV i e gw VC) := hs.1.1
    have er := z_blk hN1 hN hr (pwV.pto hi) hi.1 hi.2 hp4
    rw [hpv i _ hi (px_lt hp4)] at er
    have hnt : ¬ isT (fV i e gw VC) (pv VC i (px p)) := by
      have z := no_tab pwV hi hk1 hp4 (by rw [hpv i _ hi (px_lt hp4)]; exact p0)
      rw [hpv i _ hi (px_lt hp4)] at z
      exact z
    have hntC : ∀ j y, ir j → y < 4234 → tbx y → pv VC j y ≠ pv VC i (px p) := fun j y hj hy ht z => hnt ⟨by omega, j, y, hj, hy, (hpv j y hj hy).trans z, Or.inl ht⟩
    have e43 : VC 43 = fV i e gw VC 43 := (fV_x (by omega)).symm
    have hfresh : ∀ q, p < q → q ≤ to → pv VC i (px q) ≠ pv VC i (px p) := fun q q1 q2 z => by
      have w := (hpw.2.2.1 i (px q) i (px p) hi (px_lt (by omega)) hi (px_lt hp4) (hq q (by omega) q2).1 z).2
      have := px_inj w
      omega
    generalize eB : pv VC i (px p) = b at p0 q49 b1 b2 b3 eb er hnt hntC hfresh
    have bh : b ≠ homeM i := by omega
    have evb : vA A b = VC b := hc.agu b (by omega) b2 b3
    have eVb : fV i e gw VC b = VC b := fV_x bh
    have hby : Byt (VC b) := by rw [← eVb]; exact hr.byt b (by omega) b2
    have hnr : nr (VC b) = VC b := by rw [← eVb]; exact hr.nr b (by omega) b2
    obtain ⟨x, x1, x2, x3⟩ := c_row_53 (N := N) (A := A) (D := D) (b := b) (p := p) (at1 := at1) (cn := cn) (fr := fr p) (K := fun D21 => bndF (d_X10_writeDirectly N B gr A D21 (nI b)) (fun v22 A22 D22 => d_X3_store_53_122 N B gr (n + (kc + 1)) A22 D22 (nI i) (nI at1) (nI cn) (nI a) (nI to) (nI (p + 1)))) hN b2 (by rw [evb]; exact hby) h42 (by rw [e1]; exact hsrc) hcn hat (by omega) (by omega)
    obtain ⟨g3, y1, y2⟩ := z_see (R := R) (b := b) (ow := true) (by omega) (hr.1.1.lk b (by omega)) hr.1.1.by
    have y3 : ∀ o, o < 128 → rA (setA R 43 g3) 43 o = VC b o := fun o ho => by rw [rA_e, y2 o ho, hr.agu b (by omega) b2 (by rw [← e43]; exact b3), eVb]
    have b44 : Byt (rA (setA R 43 g3) 44) := hr.1.1.1.b44
    obtain ⟨g4, v1, v2, v3⟩ := z_w162 (R := setA R 43 g3) (i := i) (to := to) (b := b) (p := p) (at1 := at1) (cn := cn) (fr := fr p) (y := VC b) (src := src) (self := e_writeData_129 (n + (kr + 1))) hat (by omega) hp4 (by omega) (fun o _ => hby o) (fun j _ => hsrc j) q49 y3 h59 fuL 0 (rA (setA R 43 g3) 44) (by decide) (by rw [fuL_4]; omega) b44 (fun o ho => absurd ho (Nat.not_lt_zero _))
    rw [setA_id, nI_0] at v1
    have ecl : d_X3_store_53_122 N B gr (n + 1 + (kc + 1)) A D (nI i) (nI at1) (nI cn) (nI a) (nI to) (nI p) = bndF (d_X10_writeDirectly N B gr A (sA D 42 x) (nI b)) (fun v22 A22 D22 => d_X3_store_53_122 N B gr (n + (kc + 1)) A22 D22 (nI i) (nI at1) (nI cn) (nI a) (nI to) (nI (p + 1))) := by
      rw [show n + 1 + (kc + 1) = (n + (kc + 1)) + 1 by omega, d_X3_store_53_122, if_neg (nI_nlt hpt (by omega)), bnd_o eb, pk_mn hap, ld_n (show p - a < 17 by omega) (by decide), q43, nI_1]
      exact x1
    have erf : e_writeData_129 (n + 1 + (kr + 1)) R (nI i) (nI at1) (nI cn) (nI to) (nI p) = bnd (e_direct (setA (setA R 43 g3) 44 g4) (nI b)) (fun R165 => e_writeData_129 (n + (kr + 1)) R165 (nI i) (nI at1) (nI cn) (nI to) (nI (p + 1))) := by
      rw [show n + 1 + (kr + 1) = (n + (kr + 1)) + 1 by omega, e_writeData_129, if_neg (nI_nlt hpt (by omega)), if_neg hon, bnd_o er, bnd_o (show e_see R (nI b) 1 = some (setA R 43 g3) from y1)]
      exact v1
    rw [ecl, erf]
    have hc2 : CX N A (sA D 42 x) m VC tk := hc.dd rfl (cA_n (by decide))
    have hr2 : RY N B gr (setA (setA R 43 g3) 44 g4) m (fV i e gw VC) tk := hr.a43.a44 v2
    have fA : Fn [] [43, 44] R (setA (setA R 43 g3) 44 g4) := (Fn.a (by decide)).tr (Fn.a (by decide))
    have hs2 := hs.frm fA (by decide)
    rw [evb, e1] at x3
    have ex : nr (cA (sA D 42 x) 42) = nr (wrF at1 cn p (fr p) src (VC b)) := by
      rw [cA_e]
      exact nr_eqP x3
    have ex2 : nr (rA (setA (setA R 43 g3) 44 g4) 44) = nr (wrF at1 cn p (fr p) src (VC b)) := by
      rw [rA_e]
      exact nr_eqP v3
    have h48' : Byt (rA (setA (setA R 43 g3) 44 g4) 48) := by
      rw [fA.1.2.1 48 (by decide)]
      exact h48
    rcases w_directG (x := nr (wrF at1 cn p (fr p) src (VC b))) hN1 hN hgr (by omega) hc2 e43 hr2 hs2 hbs b1 b2 (by rw [← e43]; exact b3) hnt (by rw [cA_e]; exact x2) ex ex2 h48' with ⟨A2, R2, m2, z1, z2, z3, z4, z5, z6, z7, z8, z9, z10, z11⟩ | ⟨A2, R2, z1, z2, z3, z4, z5⟩
    · rw [bndF_l z1, bnd_o z2]
      rw [← fV_u bh] at z4 z5 z6 z7
      have fB : Fq dS dT R R2 := (fA.1.wk (by decide) (by decide)).tr (z11.wk (by decide) (by decide))
      have pvC : ∀ j y, ir j → y < 4234 → pv (vU VC b (nr (wrF at1 cn p (fr p) src (VC b)))) j y = pv VC j y := fun j y hj hy => pv_dat hpw b1 hntC hj y hy
      have rows : ∀ c, c ≠ b → fV i e gw (vU VC b (nr (wrF at1 cn p (fr p) src (VC b)))) c = fV i e gw VC c := fun c hc => by rw [fV_u bh, vU_n hc]
      have rt : ∀ c, isT (fV i e gw VC) c → fV i e gw (vU VC b (nr (wrF at1 cn p (fr p) src (VC b)))) c = fV i e gw VC c := fun c hc => rows c (fun z => hnt (by rw [← z]; exact hc))
      obtain ⟨-, dp2, -, dp4, -⟩ := hs.1.dep hN1 (W := fV i e gw (vU VC b (nr (wrF at1 cn p (fr p) src (VC b))))) (fun c c1 c2 => rows c (by omega)) rt
      have it : ∀ c, isT (fV i e gw VC) c → isT (fV i e gw (vU VC b (nr (wrF at1 cn p (fr p) src (VC b))))) c := fun c hc => (isT_dp hs.1 hN1 (fun c c1 c2 => rows c (by omega)) rt).mpr hc
      rcases ih (p + 1) (u + 101) A2 (sA D 42 x) R2 m2 _ (by omega) (by omega) (by omega) z3 z4 z5 z6 (hpw.cg pvC (vU_n (by omega))) (fun j y hj hy => by rw [dp4 j hj y hy, hpv j y hj hy, pvC j y hj hy]) (by rw [dp2 i 0 hi]; exact hk1) (fun q q1 q2 => by
        obtain ⟨k1, k2, k3⟩ := hq q (by omega) q2
        rw [pvC i _ hi (px_lt (by omega)), fB.2.1 49 (by decide), cA_n (by decide)]
        exact ⟨k1, k2, k3⟩) (by rw [cA_n (by decide)]; exact e1) (fun j hj => by rw [fB.2.1 59 (by decide)]; exact h59 j hj) (by rw [cA_e]; exact x2) z10 z9 with ⟨A3, D3, R3, m3, VC3, w1, w2, w3, w4, w5, w6, w7, w8, w9, w10, w11, w12, w13, w14, w15, w16⟩ | ⟨A3, D3, R3, w1, w2, w3, w4, w5, w6⟩
      · refine Or.inl ⟨A3, D3, R3, m3, VC3, w1, w2, w3, w4, w5, by rw [show u + 101 * (n + 1) = u + 101 + 101 * n by omega]; exact w6, w7, fun c c1 c2 hcc => z7 c c1 c2 (w8 c c1 c2 hcc), w9.trans z8, w10, w11, D42.st.tr w12, fB.tr w13, fun c c1 c2 => (w14 c c1 c2).trans (rows c (by omega)), fun c hcc => (w15 c (it c hcc)).trans (rt c hcc), fun c hcc => (w16 c hcc).trans (vU_n (by omega))⟩
      · exact Or.inr ⟨A3, D3, R3, w1, w2, w3.fq fB (by decide) (by decide), w4.up (by omega), D42.st.tr w5, w6⟩
    · rw [bndF_r z1, bnd_o z2]
      refine Or.inr ⟨A2, _, R2, rfl, ?_, z4.fq fA.1 (by decide) (by decide), z5.up (by omega), D42.st, by rw [cA_e]; exact x2⟩
      rw [show n + (kr + 1) = (n + kr) + 1 by omega, e_writeData_129, z3, i00, com_off z3]
      split <;> rfl
end PYX3
section PYX4
variable {N B gr r u : Nat} {V V1 V2 W VC : Nat → Rw} {m m1 m2 m' : M5} {tk tk1 tk2 tk' : Nat → Bool} {A A1 A2 A' : MS} {D D1 D2 D' : CfT} {R R1 R2 R' : RfT} {g : Bool} {hd hi : Nat → Nat} {tp : Nat → Int32} {tl : Nat} {i p k a to s b at1 cn e : Nat} {gw : Bool} {src : Nat → Int32} {ow : Nat → Int} {s0 : S3} {l : List Nat}
theorem r_store_53 {a1 : Int32} (hN1 : 61 ≤ N) (hN : N ≤ 1024) (hgr : 1 ≤ gr) (hgr2 : gr ≤ 16) (hu : u + 9000 < 2 ^ 31) (h : IM N B gr u g A D R m V tk hd hi tp tl) (ot : OwT A R m V) (t0 : rS R 0 = 0) (t49 : ∀ c, c < 1024 → rA R 49 c = 0) (hir : ir i) (hk1 : f1 V i 0 = 1) (hcn : cn ≤ 2000) (hsrc : Byt (cA D 53)) (h59 : ∀ j, j < cn → rA R 59 j = cA D 53 j) (hL : LH V hd hi := by assumption) : SO N B gr (u + 2500) cn a1 (d_X3_store_53 N B gr A D (nI i) a1 (nI cn)) (e_writeData R (nI i) a1 (nI cn)) := by
  obtain ⟨k1, k2⟩ := j_kind (D2 := D) hN1 hN h.1 hir
  rw [d_X3_store_53, e_writeData, bnd_o k2, hk1, if_pos (show nI 1 = (1 : Int32) from rfl)]
  by_cases c1 : a1 < 0
  · rw [if_pos c1, if_pos c1]
    exact SO.ok h (by omega) t0 (by decide) rfl rfl
  rw [if_neg c1, if_neg c1]
  obtain ⟨at1, hat1, rfl⟩ := nI_of c1
  by_cases c2 : at1 + cn ≤ 400000
  rotate_left
  · have z : ¬ lg_cmp ((nI at1).toInt64 + (nI cn).toInt64) (400000 : Int64) ≤ 0 := fun z => c2 ((lg_400 hat1 (by omega)).mp z)
    rw [if_neg z, if_neg z]
    exact SO.ok h (by omega) t0 (by decide) rfl rfl
  have z := (lg_400 hat1 (show cn < 2 ^ 31 by omega)).mpr c2
  rw [if_pos z, if_pos z]
  by_cases c3 : cn = 0
  · subst c3
    rw [if_pos (show nI 0 = 0 from rfl), if_pos (show nI 0 = 0 from rfl)]
    exact SO.ok h (by omega) t0 (by decide) rfl rfl
  have z3 : ¬ nI cn = 0 := nI_ne0 (by omega) (by omega)
  have edv : (nI at1 + nI cn - 1) / 128 = nI ((at1 + cn - 1) / 128) := by
    rw [nI_add, show (1 : Int32) = nI 1 from rfl, pk_sub (by omega), q_dv _ (by omega)]
  rw [if_neg z3, if_neg z3, q_dv at1 (by omega), edv, nI_add]
  generalize hto : (at1 + cn - 1) / 128 = to
  generalize ha : at1 / 128 = a
  have hto4 : to < 4168 := by omega
  have hle : a ≤ to := by omega
  have h17 : to - a < 17 := by omega
  have hw := h.2.1.s
  have e1 := c_wanted (D2 := D) (a := a) (to := to) hN1 hN h.1.1 (hw.1.pto hir) hir hto4 (by omega)
  have e2 := z_need (a := a) (to := to) hN1 hN h.1.2 (hw.1.pto hir) hir hto4 (by omega)
  obtain ⟨r1, g3, r2⟩ := j_room (D2 := D) hN1 hN h.1 h.2.2.1.2.2.2.2.2.1
  have wle := wnF_le (V := V) (i := i) (to + 1 - a) true a
  have rle : rmM N m V ≤ N := by
    unfold rmM
    have := fb_up (y := V 43) N
    omega
  rw [bnd_o e1, bnd_o e2, bnd2_o r2]
  have h43 : IM N B gr u g A D (setA R 43 g3) m V tk hd hi tp tl := h.fr rfl rfl (Fn.a (S := []) (T := [43]) (by decide)) (by decide) (by decide) ⟨fun _ _ => rfl, fun _ _ => rfl, fun _ _ => rfl, fun k hk => rA_n (by rintro rfl; revert hk; decide)⟩ (by decide) rfl
  by_cases cw : wnF V i true a (to + 1 - a) ≤ rmM N m V
  rotate_left
  · rw [if_neg (show ¬ nI (wnF V i true a (to + 1 - a)) ≤ 0 by rw [← nI_0]; exact nI_ge (by omega) (by omega)), bnd_o r1, if_neg (nI_ge (by omega) (by omega)), if_neg (nI_ge (by omega) (by omega))]
    exact SO.ok h43 (by omega) t0 (by decide) rfl rfl
  have ecl : (if nI (wnF V i true a (to + 1 - a)) ≤ 0 then d_X3_store_53_84 N B gr fuL A D (nI i) (nI at1) (nI cn) (nI a) (nI to) (nI a) else bnd (d_X10_available N (vA A) A.2.2.2.2.1 D) (fun v9 => if nI (wnF V i true a (to + 1 - a)) ≤ v9 then d_X3_store_53_84 N B gr fuL A D (nI i) (nI at1) (nI cn) (nI a) (nI to) (nI a) else some (.inl ((-7 : Int32), A, D)))) = d_X3_store_53_84 N B gr fuL A D (nI i) (nI at1) (nI cn) (nI a) (nI to) (nI a) := by
    by_cases c : nI (wnF V i true a (to + 1 - a)) ≤ 0
    · rw [if_pos c]
    · rw [if_neg c, bnd_o r1, if_pos (nI_le cw (by omega))]
  rw [ecl, if_pos (nI_le cw (by omega))]
  have wk0 := (h.wk hN1 (by omega) ot).a43 (x := g3)
  have k2' : e_kind (setA R 43 g3) (nI i) = some (nI (f1 V i 0)) := (j_kind (D2 := D) hN1 hN wk0.1 hir).2
  have ehv : e_have (setA R 43 g3) (nI i) (nI a) (nI to) = e_have_19 fuL (setA R 43 g3) (nI i) (nI to) (bI false) (nI a) := by
    rw [e_have, bnd_o k2', hk1, if_neg (show ¬ nI 1 = (2 : Int32) by decide)]
    rfl
  rw [ehv]
  have hfu : ∃ k, fuL = (to + 1 - a) + (k + 1) := ⟨3999999 - (to + 1 - a), by rw [fuL_4]; omega⟩
  obtain ⟨kf, hfu⟩ := hfu
  have jh : JH N B gr ((rmM N m V - wnF V i true a (to + 1 - a)) + wnF V i true a (to + 1 - a)) A D (setA R 43 g3) m V tk := ⟨wk0.1, wk0.2.1.1, by
    rw [show (rmM N m V - wnF V i true a (to + 1 - a)) + wnF V i true a (to + 1 - a) = rmM N m V by omega]
    exact wk0.2.2.1⟩
  have J := j_haves_53 (at1 := at1) (cn := cn) (kc := kf) (kr := kf) hN1 hN hir hto4 h17 (to + 1 - a) a A D (setA R 43 g3) m V tk (by omega) (Nat.le_refl _) jh
  rw [← hfu] at J
  have fx := h.2.2.2.2.2.2.2.1
  rcases J with ⟨A1, D1, R1, m1, V1, tk1, j1, j2, hv, j4, j5, j6⟩ | ⟨A1, D1, R1, j1, j2, j3, j4, j5⟩
  rotate_left
  · -- the power fails as blocks are taken
    rw [j1, bnd_o j2, if_pos j3.1.1]
    have hfu2 : ∃ k, fuL = k + 1 := ⟨3999999, fuL_4⟩
    obtain ⟨k9, e9⟩ := hfu2
    refine SO.off (D := D) (R := R) fx (j4.1 1 (by decide)) (j4.2 1 (by decide) (by decide)) (by rw [show cA D1 42 = cA D 42 from j4.2 42 (by decide) (by decide)]; exact h.2.2.2.2.2.2.2.2.2.2.2) (j4.2 53 (by decide) (by decide)) (j3.fq (Fq.a (S := []) (T := [43]) (by decide)) (by decide) (by decide)) (j5.sfe hN1 h.2.2.1.2.2.2.2.2.2.1 h.2.2.1.1 h.1.2.1.1.2.1.lgn h.2.2.1.2.1) h.1.2.kc rfl (v := 0) ?_
    rw [e9, e_writeData_129, if_neg (nI_nlt hle (by omega)), if_pos j3.1.1, com_off j3.1.1]
    rfl
  rw [j1, bnd_o j2, d_X3_store_53_84, if_pos (nI_lt (by omega) (by omega)), if_neg hv.1.1.2.1.1.1.on]
  obtain ⟨gw, R2, g1, g2, s1, s2, f1', f2', fR, y1, ws, o1, o2, o3⟩ := w_hv (e := at1 + cn) hN1 hN wk0 hv hir hk1 h17 c2 hto.symm (by omega) hle
  rw [bnd_o s2]
  have eref : (if nI (at1 + cn) ≤ nI (szM V i) then e_writeData_129 fuL R1 (nI i) (nI at1) (nI cn) (nI to) (nI a) else bnd (e_setField R1 (nI i) ((4 : Int32)) ((4 : Int32)) (nI (at1 + cn))) (fun R158 => e_writeData_129 fuL R158 (nI i) (nI at1) (nI cn) (nI to) (nI a))) = e_writeData_129 fuL R2 (nI i) (nI at1) (nI cn) (nI to) (nI a) := by
    have hz1 := (hw.pz hir).1
    cases gw with
    | true => rw [if_neg (nI_ge (by have := g1 rfl; omega) (by omega)), bnd_o (f1' rfl)]
    | false => rw [if_pos (nI_le (g2 rfl) (by omega)), f2' rfl]
  rw [eref]
  have fq1 : Fq hS hT (setA R 43 g3) R1 := hv.2.2.2.2.1
  have fq2 : Fq hS hT R R2 := ((Fq.a (S := hS) (T := hT) (by decide)).tr fq1).tr (fR.1.wk (by decide) (by decide))
  have d4 := hv.2.2.2.1
  have f49 := hv.2.2.2.2.2.1
  have pw1 := hv.1.2.1
  have hgr1 := hv.2.1
  have D := w_data_53 (i := i) (at1 := at1) (cn := cn) (to := to) (a := a) (e := at1 + cn) (gw := gw) (fr := fun q => decide (pv V i (px q) = 0)) (src := cA D 53) (tk := tk1) (ow := fun _ => 0) (r := rmM N m V - wnF V i true a (to + 1 - a)) (kc := kf) (kr := kf) hN1 hN hgr hir hcn c2 (by omega) hto.symm ha.symm hsrc (to + 1 - a) a u A1 D1 R2 m1 V1 (by omega) (Nat.le_refl _) (by omega) hv.1.1.1 y1 ws.rb (ws.now hN1 h.bs) pw1 o2 (by rw [(o1 i hir).1]; exact hk1) (fun q q1 q2 => by
    have hq4 : q < 4168 := by omega
    refine ⟨j4 q q1 q2, j5 q q1 q2, ?_⟩
    obtain ⟨b1, b2, b3⟩ := (pw1.pto hir _ (px_lt hq4)).resolve_left (j4 q q1 q2)
    rw [fR.1.2.1 49 (by decide), f49 _ (by omega), rA_n (by decide), t49 _ (by omega)]
    by_cases c : pv V i (px q) = 0
    · rw [if_pos ⟨hgr1.new hw.1 pw1 hir (px_lt hq4) c (j4 q q1 q2), b3⟩, decide_eq_true c]
      rfl
    · rw [decide_eq_false c, if_neg (fun zz => by
        have e := hgr1.1 i (px q) hir (px_lt hq4) (Or.inl c)
        obtain ⟨d1, d2, d3⟩ := (hw.1.pto hir _ (px_lt hq4)).resolve_left c
        rw [e, d3] at zz
        exact absurd zz.1 (by decide))]
      rfl) (d4.2 53 (by decide) (by decide)) (fun j hj => by rw [fq2.2.1 59 (by decide)]; exact h59 j hj) (by rw [show cA D1 42 = cA D 42 from d4.2 42 (by decide) (by decide)]; exact h.2.2.2.2.2.2.2.2.2.2.2) (by rw [fq2.2.1 48 (by decide)]; exact fx.2.2.2.2.2.2.2) y1.1.1.1.on
  rw [← hfu] at D
  rcases D with ⟨A2, D2, R3, m2, VC2, w1, w2, w3, w4, w5, w6, w7, w8, w9, w10, w11, w12, w13, w14, w15, w16⟩ | ⟨A2, D2, R3, w1, w2, w3, w4, w5, w6⟩
  rotate_left
  · rw [w1, w2]
    exact SO.off (D := D) (R := R) fx ((congrFun w5.1 1).trans (d4.1 1 (by decide))) ((w5.2 1 (by decide)).trans (d4.2 1 (by decide) (by decide))) w6 ((w5.2 53 (by decide)).trans (d4.2 53 (by decide) (by decide))) (w3.fq fq2 (by decide) (by decide)) w4 h.1.2.kc rfl rfl
  rw [w1, w2, d_X3_store_53_122, if_pos (nI_lt (by omega) (by omega)), e_writeData_129, if_pos (nI_lt (by omega) (by omega))]
  have hz1 := (hw.pz hir).1
  have ez : szM VC2 i = szM V i := by
    have : szM VC2 i = szM V1 i := by
      unfold szM f4
      rw [w16 _ (ir_home hir).2]
    rw [this, hgr1.sz hir]
  have es := c_size (D2 := D2) hN1 hN w3 w3.2.2.2.1 hir
  rw [ez] at es
  rw [bnd_o es, nI_add]
  have kp1 : Kep D D2 R R3 := ⟨fun j hj => (congrFun w12.1 j).trans (d4.1 j (by revert hj; revert j; decide)), fun k hk => (w12.2 k (by revert hk; revert k; decide)).trans (d4.2 k (by revert hk; revert k; decide) (by revert hk; revert k; decide)), fun j hj => (w13.1 j (by revert hj; revert j; decide)).trans (fq2.1 j (by revert hj; revert j; decide)), fun k hk => (w13.2.1 k (by revert hk; revert k; decide)).trans (fq2.2.1 k (by revert hk; revert k; decide))⟩
  obtain ⟨dp1, dp2, dp3, dp4, dp5⟩ := ws.1.dep hN1 (W := fV i (at1 + cn) gw VC2) (fun c c1 c2 => w14 c c1 c2) w15
  have hWF : WF N (fV i (at1 + cn) gw VC2) := h.2.1.keep w5.1 (fun _ _ => rfl) (fun j hj => ⟨by rw [dp2 j 0 hj]; exact (o1 j hj).1, by rw [dp2 j 1 hj]; exact (o1 j hj).2.1⟩) (fun d hd2 kd => by
    rw [dp3 d hd2, (o1 d hd2).2.2, if_neg (fun zz => by rw [zz, hk1] at kd; cases kd)]) (fun d s hd2 kd hs => by
    rw [dp5 d s hd2 (by rw [(o1 d hd2).1]; exact kd) (by rw [(o1 d hd2).2.2, if_neg (fun zz => by rw [zz, hk1] at kd; cases kd)]; exact hs)]
    exact o3 d s hd2 kd hs)
  have hLW : LH (fV i (at1 + cn) gw VC2) hd hi := hL.keep (fun j hj => ⟨by rw [dp2 j 0 hj]; exact (o1 j hj).1, by rw [dp2 j 1 hj]; exact (o1 j hj).2.1⟩)
  have hHd : HdW (fV i (at1 + cn) gw VC2) hd hi := h.2.2.2.2.2.2.1.keep (fun j hj => by rw [dp2 j 0 hj]; exact (o1 j hj).1)
  have hcg : g = false → ∃ l' : List Nat, l'.length ≤ 40 ∧ ∀ b, 43 ≤ b → b < N → Chg m2 (fV i (at1 + cn) gw VC2) tk1 b → b ∈ l' := fun zg => ⟨hvL V1 i a to, (show 6 ≤ 40 by decide), fun c c1 c2 hc => by
    have q := (ws.2.2.2.2 c c1 c2 (w8 c c1 c2 hc)).resolve_left (h.ng zg c c1 c2)
    rw [List.append_nil] at q
    exact q⟩
  have hga : gA A2 = g := w9.trans (hv.2.2.1.trans h.2.2.2.2.2.2.2.2.1)
  have hu2 : u + 101 * (to + 1 - a) ≤ u + 2400 := by omega
  have bs2 : Bs N B gr (u + 2400) (m2, fV i (at1 + cn) gw VC2, tk1) := ⟨w6.1.up hu2, w6.2⟩
  cases gw with
  | false =>
    rw [if_pos (nI_le (g2 rfl) (by omega))]
    exact so_fin hN1 hN hgr hgr2 (by omega) ⟨⟨w3, w4⟩, w5⟩ bs2 hcg hWF w11 hga kp1 h.2.2.2.2.2.1 hHd fx w10 rfl ⟨at1, hat1, rfl, c2⟩ rfl rfl
  | true =>
    obtain ⟨A3, D3, q1, q2, q3, q4⟩ := c_setSize (v := nI (at1 + cn)) hN1 hN w3 hir.1 hir.2
    rw [if_neg (nI_ge (by have := g1 rfl; omega) (by omega)), bnd2_o q1]
    have w5' : WS N B (rmM N m V - wnF V i true a (to + 1 - a)) (m2, fV i (at1 + cn) true VC2, tk1) [] A3 R3 m2 (fV i (at1 + cn) true VC2) tk1 (fun _ => 0) := ⟨w5.1, w5.2.1, ⟨ow_size hir.1 hir.2 q1 w5.2.2.1.1 (OkP.lo (ir_home hir).2), w5.2.2.1.2⟩, w5.2.2.2⟩
    have kp2 : Kep D D3 R R3 := kp1.tr (Kep.of q4 Fq.rf (S := []) (T := []) (by decide) (by decide))
    exact so_fin hN1 hN hgr hgr2 (by omega) ⟨⟨q2, w4⟩, w5'⟩ bs2 hcg hWF (by rw [show cA D3 42 = cA D2 42 from q4.2 42 (by decide)]; exact w11) (q3.trans hga) kp2 h.2.2.2.2.2.1 hHd fx w10 rfl ⟨at1, hat1, rfl, c2⟩ rfl rfl
end PYX4
