/-! ===== pure: copy, the blocks of the new file ===== -/
section PZH
variable {N B gr r u : Nat} {V V1 V2 W : Nat → Rw} {m m1 m2 m' : M5} {tk tk1 tk2 tk' : Nat → Bool} {A A0 A1 A' : MS} {D D0 D1 D' D2 : CfT} {R R0 R1 R' : RfT} {d i p q k a e t s : Nat} {ow : Nat → Int} {s0 : S3} {l : List Nat}
theorem hx_lo2 (h1 : 8 ≤ p) (h2 : p < 72) : hx (px p) = 8 := by
  have e : px p = p + 2 := by
    unfold px
    rw [if_neg (by omega), if_pos h2]
  rw [e]
  unfold hx
  rw [if_pos (by omega)]
theorem hx_hi2 (h1 : 72 ≤ p) : hx (px p) = 74 + (p - 72) / 64 := by
  have e : px p = p + 66 := by
    unfold px
    rw [if_neg (by omega), if_neg (by omega)]
  rw [e]
  unfold hx
  rw [if_neg (by omega), if_neg (by omega), show p + 66 - 138 = p - 72 by omega]
theorem px_8 : px p ≠ 8 := by
  unfold px
  split
  · omega
  · split <;> omega
theorem px_9 : px p ≠ 9 := by
  unfold px
  split
  · omega
  · split <;> omega
theorem px_74 {j : Nat} (hj : j < 64) : px p ≠ 74 + j := by
  unfold px
  split
  · omega
  · split <;> omega
/-- numbers that the places below q want -/
def cY (V : Nat → Rw) (i q y : Nat) : Prop := ∃ p, p < q ∧ pv V i (px p) ≠ 0 ∧ pY p y
theorem cY_px (hp : p < 4168) (hq : q ≤ 4168) : cY W i q (px p) ↔ p < q ∧ pv W i (px p) ≠ 0 := by
  constructor
  · rintro ⟨x, x1, x2, x3⟩
    have := pY_px (by omega) x3
    rw [this]
    exact ⟨x1, x2⟩
  · rintro ⟨h1, h2⟩
    exact ⟨p, h1, h2, Or.inl rfl⟩
theorem cY_8 : cY W i q 8 ↔ ∃ p, 8 ≤ p ∧ p < 72 ∧ p < q ∧ pv W i (px p) ≠ 0 := by
  constructor
  · rintro ⟨x, x1, x2, x3 | ⟨x3, x4⟩ | ⟨x3, x4⟩⟩
    · exact absurd x3.symm px_8
    · refine ⟨x, x3, Classical.byContradiction (fun z => ?_), x1, x2⟩
      rw [hx_hi2 (by omega)] at x4
      omega
    · omega
  · rintro ⟨x, x1, x2, x3, x4⟩
    exact ⟨x, x3, x4, Or.inr (Or.inl ⟨x1, (hx_lo2 x1 x2).symm⟩)⟩
theorem cY_9 : cY W i q 9 ↔ s2E W i q := by
  constructor
  · rintro ⟨x, x1, x2, x3 | ⟨x3, x4⟩ | ⟨x3, x4⟩⟩
    · exact absurd x3.symm px_9
    · by_cases c : x < 72
      · rw [hx_lo2 x3 c] at x4
        omega
      · rw [hx_hi2 (by omega)] at x4
        omega
    · exact ⟨x, x3, x1, x2⟩
  · rintro ⟨x, x1, x2, x3⟩
    exact ⟨x, x2, x3, Or.inr (Or.inr ⟨x1, rfl⟩)⟩
theorem cY_74 {j : Nat} (hj : j < 64) : cY W i q (74 + j) ↔ ∃ p, 72 ≤ p ∧ (p - 72) / 64 = j ∧ p < q ∧ pv W i (px p) ≠ 0 := by
  constructor
  · rintro ⟨x, x1, x2, x3 | ⟨x3, x4⟩ | ⟨x3, x4⟩⟩
    · exact absurd x3.symm (px_74 hj)
    · by_cases c : x < 72
      · rw [hx_lo2 x3 c] at x4
        omega
      · rw [hx_hi2 (by omega)] at x4
        exact ⟨x, by omega, by omega, x1, x2⟩
    · omega
  · rintro ⟨x, x1, x2, x3, x4⟩
    exact ⟨x, x3, x4, Or.inr (Or.inl ⟨by omega, by rw [hx_hi2 x1, x2]⟩)⟩
/-- what a place wants of the new file -/
theorem ms_cp (hq : q < 4168) (hv : ∀ y, y < 4234 → (pv V1 t y ≠ 0 ↔ cY W i q y)) (h0 : pv W i (px q) ≠ 0) : msM V1 t q = 1 + nT W i q := by
  have z0 : pv V1 t (px q) = 0 := Classical.byContradiction (fun z => by
    have := ((cY_px hq (by omega)).mp ((hv _ (px_lt hq)).mp z)).1
    omega)
  unfold msM
  rw [if_neg (fun z => z z0)]
  by_cases c8 : q < 8
  · rw [if_pos c8, nT_e (a := 0) (b := 0) (fun z => by have := z.1; omega) (fun _ => rfl) (fun z => by have := z.1; omega) (fun _ => rfl)]
  · rw [if_neg c8]
    by_cases c72 : q < 72
    · rw [if_pos c72]
      have hf : fsQ W i 8 q ↔ pv V1 t 8 = 0 := by
        constructor
        · intro f
          refine Classical.byContradiction (fun z => ?_)
          obtain ⟨x, x1, x2, x3, x4⟩ := cY_8.mp ((hv 8 (by decide)).mp z)
          exact x4 (f.2.2 x x1 x3 (by omega))
        · intro f
          exact ⟨by omega, h0, fun x x1 x2 x3 => Classical.byContradiction (fun x4 => (hv 8 (by decide)).mpr (cY_8.mpr ⟨x, x1, by omega, x2, x4⟩) f)⟩
      by_cases f : pv V1 t 8 = 0
      · rw [if_pos f, nT_e (a := 1) (b := 0) (fun _ => rfl) (fun z => absurd (hf.mpr f) z) (fun z => by have := z.1; omega) (fun _ => rfl)]
      · rw [if_neg f, nT_e (a := 0) (b := 0) (fun z => absurd (hf.mp z) f) (fun _ => rfl) (fun z => by have := z.1; omega) (fun _ => rfl)]
    · rw [if_neg c72]
      have hs : pv V1 t 9 = 0 ↔ ¬ s2E W i q := by
        constructor
        · intro z s
          exact (hv 9 (by decide)).mpr (cY_9.mpr s) z
        · intro s
          exact Classical.byContradiction (fun z => s (cY_9.mp ((hv 9 (by decide)).mp z)))
      have hj : (q - 72) / 64 < 64 := by omega
      have hf : fsQ W i 8 q ↔ pv V1 t (74 + (q - 72) / 64) = 0 := by
        constructor
        · intro f
          refine Classical.byContradiction (fun z => ?_)
          obtain ⟨x, x1, x2, x3, x4⟩ := (cY_74 hj).mp ((hv _ (by omega)).mp z)
          exact x4 (f.2.2 x (by omega) x3 (by omega))
        · intro f
          exact ⟨by omega, h0, fun x x1 x2 x3 => Classical.byContradiction (fun x4 => (hv _ (by omega)).mpr ((cY_74 hj).mpr ⟨x, by omega, by omega, x2, x4⟩) f)⟩
      by_cases c9 : pv V1 t 9 = 0
      · have ns := hs.mp c9
        have f : fsQ W i 8 q := ⟨by omega, h0, fun x x1 x2 x3 => Classical.byContradiction (fun x4 => ns ⟨x, by omega, x2, x4⟩)⟩
        rw [if_pos c9, nT_e (a := 1) (b := 1) (fun _ => rfl) (fun z => absurd f z) (fun _ => rfl) (fun z => absurd ⟨by omega, h0, ns⟩ z)]
      · have ns : s2E W i q := Classical.byContradiction (fun z => c9 (hs.mpr z))
        rw [if_neg c9]
        by_cases f : pv V1 t (74 + (q - 72) / 64) = 0
        · rw [if_pos f, nT_e (a := 1) (b := 0) (fun _ => rfl) (fun z => absurd (hf.mpr f) z) (fun z => absurd ns z.2.2) (fun _ => rfl)]
        · rw [if_neg f, nT_e (a := 0) (b := 0) (fun z => absurd (hf.mp z) f) (fun _ => rfl) (fun z => absurd ns z.2.2) (fun _ => rfl)]
theorem GaD.d4 (h : GaD V i e D) (g : D4 D D') : GaD V i e D' := by
  have e1 : cS D' 3705 = cS D 3705 := g.1 3705 (by decide)
  have e2 : cA D' 38 = cA D 38 := g.2 38 (by decide) (by decide)
  have e3 : cA D' 39 = cA D 39 := g.2 39 (by decide) (by decide)
  refine ⟨by rw [e1]; exact h.1, fun p h1 h2 => ?_⟩
  rw [e2, e3]
  exact h.2 p h1 h2
theorem e64_d {n : Nat} {x1 x2 x3 x4 x5 : Int32} (h : rS R 11 = 0) : e_copyBytes_64 (n + 1) R x1 x2 x3 x4 x5 = some R := by
  rw [e_copyBytes_64, if_pos h]
  split <;> rfl
/-- both make the blocks of a copy -/
theorem j_cph {sz : Nat} (hN1 : 61 ≤ N) (hN : N ≤ 1024) (hi : ir i) (ht : ir t) (hne : i ≠ t) (he : e ≤ 3200) (hkt : f1 W t 0 = 1) (hg : GaD W i e D0) (hpw : PW N W) : ∀ (dd q n n' : Nat) (A : MS) (D : CfT) (R : RfT) (m1 : M5) (V1 : Nat → Rw) (tk1 : Nat → Bool), q + dd = e → ncM W i 0 e - ncM W i 0 q < n → e - q < n' → HvR N B gr (r + ((ncM W i 0 e + tcN W i e) - (ncM W i 0 q + tcN W i q))) t (cY W i q) A0 D0 R0 m W tk A D R m1 V1 tk1 → (∀ y, y < 4234 → (pv V1 t y ≠ 0 ↔ cY W i q y)) → (∃ A' D' R' m' V' tk', d_X3_fillCopy_37 N B gr n A D (nI t) (nI sz) (nI (ncM W i 0 q)) = d_X3_fillCopy_78 N B gr fuL A' D' (nI t) (nI sz) 0 ∧ e_copyBytes_22 n' R (nI i) (nI t) (nI sz) (nI e) (nI q) = e_copyBytes_64 fuL R' (nI i) (nI t) (nI sz) (nI e) 0 ∧ HvR N B gr r t (cY W i e) A0 D0 R0 m W tk A' D' R' m' V' tk' ∧ ∀ y, y < 4234 → (pv V' t y ≠ 0 ↔ cY W i e y)) ∨ (∃ A' D' R', d_X3_fillCopy_37 N B gr n A D (nI t) (nI sz) (nI (ncM W i 0 q)) = some (.inr (0, A', D')) ∧ e_copyBytes_22 n' R (nI i) (nI t) (nI sz) (nI e) (nI q) = some R' ∧ Dd N R0 A'.1 R' ∧ D4 D0 D' ∧ FlT N B m A' D') := by
  intro dd
  induction dd with
  | zero =>
    intro q n n' A D R m1 V1 tk1 hq hn hn' H hv
    obtain ⟨n, rfl⟩ : ∃ k, n = k + 1 := ⟨n - 1, by omega⟩
    obtain ⟨n', rfl⟩ : ∃ k, n' = k + 1 := ⟨n' - 1, by omega⟩
    have hqe : q = e := by omega
    subst hqe
    have hle := nc_le (V := W) (i := i) q
    rw [Nat.sub_self] at H
    refine Or.inl ⟨A, D, R, m1, V1, tk1, ?_, ?_, H, hv⟩
    · rw [d_X3_fillCopy_37, (hg.d4 H.2.2.2.1).1, if_pos (nI_le (Nat.le_refl _) (by omega))]
    · rw [e_copyBytes_22, if_pos (nI_le (Nat.le_refl _) (by omega))]
  | succ dd ih =>
    intro q n n' A D R m1 V1 tk1 hq hn hn' H hv
    obtain ⟨n', rfl⟩ : ∃ k, n' = k + 1 := ⟨n' - 1, by omega⟩
    have hq4 : q < 4168 := by omega
    obtain ⟨⟨hj, hw1, hb1⟩, h2, h3, h4, h5, h6, h7, h8, h9⟩ := id H
    have hon : ¬ rS R 11 = 0 := hj.2.1.1.1.on
    have epv : ∀ x, x < 4234 → pv V1 i x = pv W i x := fun x hx => h2.1 i x hi hx (Or.inr (Or.inl hne))
    have zb := z_blk hN1 hN hj.2 (hw1.pto hi) hi.1 hi.2 hq4
    rw [epv _ (px_lt hq4)] at zb
    rw [e_copyBytes_22, if_neg (nI_ge (by omega) (by omega)), if_neg hon, bnd_o zb, nI_1]
    by_cases c : pv W i (px q) = 0
    · rw [c, nI_0, i00]
      have hcY : ∀ y, cY W i (q + 1) y ↔ cY W i q y := fun y => ⟨fun ⟨x, x1, x2, x3⟩ => ⟨x, by
          by_cases cx : x = q
          · rw [cx] at x2; exact absurd c x2
          · omega, x2, x3⟩, fun ⟨x, x1, x2, x3⟩ => ⟨x, by omega, x2, x3⟩⟩
      have hr : r + ((ncM W i 0 e + tcN W i e) - (ncM W i 0 q + tcN W i q)) = r + ((ncM W i 0 e + tcN W i e) - (ncM W i 0 (q + 1) + tcN W i (q + 1))) := by rw [nc_0 c, tcN_s, nT_0 c]; rfl
      rw [hr] at H
      have qq := ih (q + 1) n n' A D R m1 V1 tk1 (by omega) (by rw [nc_0 c]; exact hn) (by omega) (H.wk (fun y hy => (hcY y).mpr hy)) (fun y hy => (hv y hy).trans (hcY y).symm)
      rw [nc_0 c] at qq
      exact qq
    · obtain ⟨n, rfl⟩ : ∃ k, n = k + 1 := ⟨n - 1, by omega⟩
      have hpN := ((hpw.pto hi _ (px_lt hq4)).resolve_left c).2.1
      have hle := nc_le (V := W) (i := i) e
      have hm : ncM W i 0 (q + 1) ≤ ncM W i 0 e := nc_mono (by omega)
      rw [nc_s c] at hm
      have htm : tcN W i (q + 1) ≤ tcN W i e := by
        have : ∀ z x, tcN W i x ≤ tcN W i (x + z) := fun z x => by
          induction z with
          | zero => exact Nat.le_refl _
          | succ z ihz => rw [← Nat.add_assoc, tcN_s]; omega
        have := this (e - (q + 1)) (q + 1)
        rw [show q + 1 + (e - (q + 1)) = e by omega] at this
        exact this
      rw [tcN_s] at htm
      have hgq := (hg.d4 h4).2 q (by omega) c
      have ems := ms_cp hq4 hv c
      have hb : JH N B gr ((r + ((ncM W i 0 e + tcN W i e) - (ncM W i 0 (q + 1) + tcN W i (q + 1)))) + msM V1 t q) A D R m1 V1 tk1 := by
        rw [ems, nc_s c, tcN_s]
        have e1 : r + (ncM W i 0 e + tcN W i e - (ncM W i 0 q + 1 + (tcN W i q + nT W i q))) + (1 + nT W i q) = r + ((ncM W i 0 e + tcN W i e) - (ncM W i 0 q + tcN W i q)) := by omega
        rw [e1]
        exact H.1
      have kt : f1 V1 t 0 = 1 := (h2.2.1 t 0 ht (by decide)).trans hkt
      have ek : e_have R (nI t) (nI q) (nI q) = e_have_19 (3999998 + 1 + 1) R (nI t) (nI q) (bI false) (nI q) := by
        rw [e_have, bnd_o (j_kind (D2 := D) hN1 hN hj ht).2, kt, if_neg (show ¬ nI 1 = (2 : Int32) by decide), show fuL = 3999998 + 1 + 1 from rfl]
        rfl
      have e19 : ∀ X : RfT, e_have_19 (3999998 + 1) X (nI t) (nI q) (bI false) (nI (q + 1)) = some X := fun X => by
        rw [e_have_19, if_pos (nI_lt (by omega) (by omega))]
      rw [if_neg (show ¬ nI (pv W i (px q)) = 0 from nI_ne0 (by omega) (by omega)), d_X3_fillCopy_37, (hg.d4 h4).1, if_neg (nI_ge (by omega) (by omega)), ld_n (by omega) (by decide), hgq.1, ek]
      have hstep : ∀ y, cY W i (q + 1) y ↔ cY W i q y ∨ pY q y := fun y => ⟨fun ⟨x, x1, x2, x3⟩ => by
          by_cases cx : x = q
          · rw [cx] at x3; exact Or.inr x3
          · exact Or.inl ⟨x, by omega, x2, x3⟩, fun z => z.elim (fun ⟨x, x1, x2, x3⟩ => ⟨x, by omega, x2, x3⟩) (fun z => ⟨q, by omega, c, z⟩)⟩
      rcases j_have1 (n := 3999998 + 1) (to := q) (tb := false) hN1 hN ht hb hq4 (Nat.le_refl _) hq4 with ⟨A1, D1, R1, m2, V2, tk2, a1, a2, a3, a4, a5, a6, a7, a8, a9, a10, a11, a12⟩ | ⟨A1, D1, R1, a1, a2, a3, a4, a5⟩
      · rw [e19] at a2
        have a1 : d_X7_have N B gr A D (nI t) (nI q) 0 = some (.inl (bI (decide (pv V1 t (px q) = 0)), A1, D1)) := a1
        rw [bndF_l a1, bnd_o a2, nI_1]
        have hr2 : HvR N B gr (r + ((ncM W i 0 e + tcN W i e) - (ncM W i 0 (q + 1) + tcN W i (q + 1)))) t (cY W i (q + 1)) A D R m1 V1 tk1 A1 D1 R1 m2 V2 tk2 := HvR.wk (Y := pY q) ⟨a3, a4, a6, a7.d4, a8, a9, a10, a11, a12⟩ (fun y hy => (hstep y).mpr (Or.inr hy))
        have H2 := (H.wk (fun y hy => (hstep y).mpr (Or.inl hy))).tr ht hpw hr2
        have hv2 : ∀ y, y < 4234 → (pv V2 t y ≠ 0 ↔ cY W i (q + 1) y) := fun y hy => by
          rw [hstep y]
          constructor
          · intro z
            by_cases c1 : pv V1 t y ≠ 0
            · exact Or.inl ((hv y hy).mp c1)
            · refine Or.inr (Classical.byContradiction (fun c2 => z ?_))
              rw [a4.1 t y ht hy (Or.inr (Or.inr c2))]
              exact Classical.byContradiction c1
          · rintro (z | z)
            · have := (hv y hy).mpr z
              rw [a4.1 t y ht hy (Or.inl this)]
              exact this
            · have hph : ph V2 t (px q) ≠ 0 := fun z0 => a5 (ph0_pv0 (px_lt hq4) z0)
              have h8x : 8 ≤ q → 10 ≤ px q := fun z8 => by
                unfold px
                rw [if_neg (by omega)]
                split <;> omega
              rcases z with z | ⟨z1, z⟩ | ⟨z1, z⟩
              · rw [z]; exact a5
              · rw [ph_hx (h8x z1) (px_lt hq4)] at hph
                rw [z]; exact hph
              · rw [ph_hx (h8x (by omega)) (px_lt hq4), hx_hi2 z1] at hph
                rw [z]
                intro z9
                apply hph
                rw [pv_2 (by omega) (by omega), z9]
                exact if_pos rfl
        have qq := ih (q + 1) n n' A1 D1 R1 m2 V2 tk2 (by omega) (by rw [nc_s c]; omega) (by omega) H2 hv2
        rw [nc_s c] at qq
        exact qq
      · rw [e19] at a2
        have a1 : d_X7_have N B gr A D (nI t) (nI q) 0 = some (.inr (0, A1, D1)) := a1
        rw [bndF_r a1, bnd_o a2]
        refine Or.inr ⟨A1, D1, R1, rfl, ?_, a3.fq h5 (by decide) (by decide), h4.tr a4.d4, a5.pre h7⟩
        obtain ⟨n', rfl⟩ : ∃ k, n' = k + 1 := ⟨n' - 1, by omega⟩
        rw [e_copyBytes_22, if_pos a3.1.1, show fuL = 3999999 + 1 from rfl, e64_d a3.1.1]
        split <;> rfl
end PZH
