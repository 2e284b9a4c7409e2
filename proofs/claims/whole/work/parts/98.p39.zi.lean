/-! ===== pure: numbers of an inode are cut ===== -/
section PVP
variable {N B gr : Nat} {V : Nat → Rw} {i : Nat}
/-- the numbers lead to used blocks, each to its own -/
def PJ (N : Nat) (V : Nat → Rw) (i : Nat) : Prop := PtO N V i ∧ ∀ x y, x < 4234 → y < 4234 → pv V i x ≠ 0 → pv V i x = pv V i y → x = y
def hx (x : Nat) : Nat := if x < 74 then 8 else if x < 138 then 9 else 74 + (x - 138) / 64
theorem ph_hx {x : Nat} (h1 : 10 ≤ x) (h2 : x < 4234) : ph V i x = pv V i (hx x) := by
  unfold hx
  by_cases c1 : x < 74
  · rw [if_pos c1, ph_1 h1 c1]
  · rw [if_neg c1]
    by_cases c2 : x < 138
    · rw [if_pos c2, ph_2 (by omega) c2]
    · rw [if_neg c2, ph_3 (by omega) h2]
theorem hx_lt {x : Nat} (h2 : x < 4234) : hx x < 138 := by
  unfold hx
  split
  · decide
  · split
    · decide
    · omega
theorem hx_ne {x : Nat} (h1 : 10 ≤ x) : hx x ≠ x := by
  unfold hx
  split
  · omega
  · split
    · omega
    · omega
/-- where two numbers stand is apart -/
theorem po_inj {x y o : Nat} (hi : i ≤ 64) (hj : PJ N V i) (hx4 : x < 4234) (hy4 : y < 4234) (hp : ph V i x = ph V i y) (hp0 : ph V i x ≠ 0) (h1 : po i x ≤ o ∧ o < po i x + 2) (h2 : po i y ≤ o ∧ o < po i y + 2) : x = y := by
  have hh := homeM_lt hi
  have big : ∀ z, 10 ≤ z → z < 4234 → ph V i z ≠ 0 → 61 ≤ ph V i z := fun z hz hz4 hz0 => by
    rw [ph_hx hz hz4] at hz0 ⊢
    have := hx_lt hz4
    rcases hj.1 (hx z) (by omega) with q | q
    · exact absurd q hz0
    · exact q.1
  have hs := startM_le i
  by_cases c1 : x < 10
  · by_cases c2 : y < 10
    · unfold po at h1 h2
      by_cases a1 : x < 8
      · rw [if_pos a1] at h1
        by_cases a2 : y < 8
        · rw [if_pos a2] at h2
          omega
        · rw [if_neg a2] at h2
          by_cases a3 : y = 8
          · rw [if_pos a3] at h2
            omega
          · rw [if_neg a3, if_pos (by omega)] at h2
            omega
      · rw [if_neg a1] at h1
        by_cases a4 : x = 8
        · rw [if_pos a4] at h1
          by_cases a2 : y < 8
          · rw [if_pos a2] at h2
            omega
          · rw [if_neg a2] at h2
            by_cases a3 : y = 8
            · omega
            · rw [if_neg a3, if_pos (by omega)] at h2
              omega
        · rw [if_neg a4, if_pos (by omega)] at h1
          by_cases a2 : y < 8
          · rw [if_pos a2] at h2
            omega
          · rw [if_neg a2] at h2
            by_cases a3 : y = 8
            · rw [if_pos a3] at h2
              omega
            · omega
    · have := big y (by omega) hy4 (by rw [← hp]; exact hp0)
      rw [← hp, ph_0 c1] at this
      omega
  · by_cases c2 : y < 10
    · have := big x (by omega) hx4 hp0
      rw [hp, ph_0 c2] at this
      omega
    · rw [ph_hx (by omega) hx4] at hp hp0
      rw [ph_hx (by omega) hy4] at hp
      have e := hj.2 (hx x) (hx y) (by have := hx_lt hx4; omega) (by have := hx_lt hy4; omega) hp0 hp
      unfold po at h1 h2
      rw [if_neg (show ¬ x < 8 by omega), if_neg (show ¬ x = 8 by omega), if_neg (show ¬ x = 9 by omega)] at h1
      rw [if_neg (show ¬ y < 8 by omega), if_neg (show ¬ y = 8 by omega), if_neg (show ¬ y = 9 by omega)] at h2
      unfold hx at e
      by_cases a1 : x < 74
      · rw [if_pos a1] at h1 e
        by_cases a2 : y < 74
        · rw [if_pos a2] at h2
          omega
        · rw [if_neg a2] at h2 e
          by_cases a3 : y < 138
          · rw [if_pos a3] at e
            omega
          · rw [if_neg a3] at e
            omega
      · rw [if_neg a1] at h1 e
        by_cases a4 : x < 138
        · rw [if_pos a4] at h1 e
          by_cases a2 : y < 74
          · rw [if_pos a2] at e
            omega
          · rw [if_neg a2] at h2 e
            by_cases a3 : y < 138
            · rw [if_pos a3] at h2
              omega
            · rw [if_neg a3] at e
              omega
        · rw [if_neg a4] at h1 e
          by_cases a2 : y < 74
          · rw [if_pos a2] at e
            omega
          · rw [if_neg a2] at h2 e
            by_cases a3 : y < 138
            · rw [if_pos a3] at e
              omega
            · rw [if_neg a3] at h2 e
              omega
/-- the blocks that numbers S lead to, and the bytes of these numbers -/
def FSx (V : Nat → Rw) (i : Nat) (S : Nat → Prop) (b : Nat) : Prop := b ≠ 0 ∧ ∃ x, x < 4234 ∧ S x ∧ pv V i x = b
def ZSx (V : Nat → Rw) (i : Nat) (S : Nat → Prop) (c o : Nat) : Prop := ∃ x, x < 4234 ∧ S x ∧ pv V i x ≠ 0 ∧ ph V i x = c ∧ po i x ≤ o ∧ o < po i x + 2
/-- numbers S are cut, on the way to cutting X -/
def ZI (N : Nat) (m : M5) (V : Nat → Rw) (tk : Nat → Bool) (i : Nat) (X S : Nat → Prop) (m' : M5) (V' : Nat → Rw) (tk' : Nat → Bool) : Prop := (∀ x, S x → X x) ∧ ∃ Z, ZS N m V tk (FSx V i S) Z m' V' tk' ∧ (∀ c o, Z c o → ZSx V i S c o) ∧ ∀ c o, ¬ FSx V i X c → ZSx V i S c o → Z c o
theorem ZI.nil {m : M5} {tk : Nat → Bool} {X : Nat → Prop} (h1 : Byt (V 43)) (h2 : nr (V 43) = V 43) : ZI N m V tk i X (fun _ => False) m V tk := by
  refine ⟨fun x z => z.elim, fun _ _ => False, ?_, fun c o z => z.elim, fun c o _ ⟨x, _, z, _⟩ => z.elim⟩
  have e : FSx V i (fun _ => False) = fun _ => False := funext (fun b => propext ⟨fun ⟨_, x, _, z, _⟩ => z.elim, fun z => z.elim⟩)
  rw [e]
  exact ZS.nil h1 h2
theorem ZI.eq {m m' : M5} {tk tk' : Nat → Bool} {X S S2 : Nat → Prop} {V' : Nat → Rw} (h : ZI N m V tk i X S m' V' tk') (e : ∀ x, x < 4234 → pv V i x ≠ 0 → (S x ↔ S2 x)) (hX : ∀ x, S2 x → X x) : ZI N m V tk i X S2 m' V' tk' := by
  obtain ⟨h1, Z, h2, h3, h4⟩ := h
  have eF : FSx V i S2 = FSx V i S := funext (fun b => propext ⟨fun ⟨b0, x, x1, x2, x3⟩ => ⟨b0, x, x1, (e x x1 (by rw [x3]; exact b0)).mpr x2, x3⟩, fun ⟨b0, x, x1, x2, x3⟩ => ⟨b0, x, x1, (e x x1 (by rw [x3]; exact b0)).mp x2, x3⟩⟩)
  have eZ : ∀ c o, ZSx V i S c o ↔ ZSx V i S2 c o := fun c o => ⟨fun ⟨x, x1, x2, x3, x4⟩ => ⟨x, x1, (e x x1 x3).mp x2, x3, x4⟩, fun ⟨x, x1, x2, x3, x4⟩ => ⟨x, x1, (e x x1 x3).mpr x2, x3, x4⟩⟩
  exact ⟨hX, Z, by rw [eF]; exact h2, fun c o z => (eZ c o).mp (h3 c o z), fun c o hc z => h4 c o hc ((eZ c o).mpr z)⟩
/-- a holder that was not cut is there yet, and what stands there is seen as before -/
theorem ZI.at {m m' : M5} {tk tk' : Nat → Bool} {X S : Nat → Prop} {V' : Nat → Rw} (hN1 : 61 ≤ N) (hN : N ≤ 1024) (hi : i ≤ 64) (hb : btO N (V 43)) (hj : PJ N V i) (h : ZI N m V tk i X S m' V' tk') {x : Nat} (hx4 : x < 4234) (hS : ¬ S x) (hh : 10 ≤ x → ¬ S (hx x)) (h0 : ph V i x ≠ 0) : 44 ≤ ph V i x ∧ ph V i x < N ∧ ¬ FSx V i S (ph V i x) ∧ btM (V' 43) (ph V i x) = 1 ∧ n2 (V' (ph V i x)) (po i x) = pv V i x := by
  obtain ⟨h1, Z, h2, h3, h4⟩ := h
  have hm := homeM_lt hi
  have hr : 44 ≤ ph V i x ∧ ph V i x < N ∧ btM (V 43) (ph V i x) = 1 := by
    by_cases c : x < 10
    · rw [ph_0 c]
      refine ⟨by unfold homeM; omega, by omega, hb.1 _ hm⟩
    · rw [ph_hx (by omega) hx4] at h0 ⊢
      have := hx_lt hx4
      rcases hj.1 (hx x) (by omega) with q | q
      · exact absurd q h0
      · exact ⟨by omega, q.2.1, q.2.2⟩
  have hF : ¬ FSx V i S (ph V i x) := fun ⟨_, y, y1, y2, y3⟩ => by
    by_cases c : x < 10
    · rw [ph_0 c] at y3
      rcases hj.1 y y1 with q | q
      · rw [y3] at q
        exact homeM_ne i q
      · rw [y3] at q
        omega
    · rw [ph_hx (by omega) hx4] at y3 h0
      have hl := hx_lt hx4
      have e := hj.2 y (hx x) y1 (by omega) (by rw [y3]; exact h0) y3
      rw [e] at y2
      exact hh (by omega) y2
  obtain ⟨a1, a2, a3, a4, a5, a6⟩ := h2
  refine ⟨hr.1, hr.2.1, hF, by rw [(a6 _ (by omega)).2 hF]; exact hr.2.2, ?_⟩
  have hz : ∀ o, po i x ≤ o ∧ o < po i x + 2 → V' (ph V i x) o = V (ph V i x) o := fun o ho => by
    rw [(a3 _ hr.1 hr.2.1).2 hF]
    refine zr_f (fun z => ?_)
    obtain ⟨y, y1, y2, y3, y4, y5⟩ := h3 _ _ z
    have := po_inj hi hj hx4 y1 y4.symm h0 ho y5
    rw [← this] at y2
    exact hS y2
  rw [pv_at hx4, if_neg h0]
  exact n2_c (hz _ ⟨Nat.le_refl _, by omega⟩) (hz _ ⟨by omega, by omega⟩)
/-- a number that is 0 is cut by doing nothing -/
theorem ZI.skip {m m' : M5} {tk tk' : Nat → Bool} {X S : Nat → Prop} {V' : Nat → Rw} (h : ZI N m V tk i X S m' V' tk') {x : Nat} (hX : X x) (h0 : pv V i x = 0) : ZI N m V tk i X (fun y => S y ∨ y = x) m' V' tk' := h.eq (fun y _ hy => ⟨Or.inl, fun z => z.elim id (fun e => absurd (e ▸ h0) (by rw [e] at hy; exact absurd h0 hy))⟩) (fun y z => z.elim (h.1 y) (fun e => e ▸ hX))
/-- its block is freed, its bytes become 0 -/
theorem ZI.cut {m m' : M5} {tk tk' : Nat → Bool} {X S : Nat → Prop} {V' : Nat → Rw} (hN : N ≤ 1024) (hj : PJ N V i) (h : ZI N m V tk i X S m' V' tk') {x : Nat} (hx4 : x < 4234) (hX : X x) (h0 : pv V i x ≠ 0) (hf : FSx V i X (ph V i x)) : ZI N m V tk i X (fun y => S y ∨ y = x) (frM5 m' (pv V i x)) (frV m' V' (pv V i x)) (tU tk' (pv V i x) false) := by
  obtain ⟨h1, Z, h2, h3, h4⟩ := h
  have hp := (hj.1 x hx4).resolve_left h0
  have q := h2.free hN hp.1 hp.2.1
  have eF : (fun c => FSx V i S c ∨ c = pv V i x) = FSx V i (fun y => S y ∨ y = x) := funext (fun b => propext ⟨fun z => z.elim (fun ⟨b0, y, y1, y2, y3⟩ => ⟨b0, y, y1, Or.inl y2, y3⟩) (fun e => ⟨by rw [e]; exact h0, x, hx4, Or.inr rfl, e.symm⟩), fun ⟨b0, y, y1, y2, y3⟩ => y2.elim (fun z => Or.inl ⟨b0, y, y1, z, y3⟩) (fun e => Or.inr (by rw [← y3, e]))⟩)
  rw [eF] at q
  refine ⟨fun y z => z.elim (h1 y) (fun e => e ▸ hX), Z, q, fun c o z => ?_, fun c o hc z => ?_⟩
  · obtain ⟨y, y1, y2, y3⟩ := h3 c o z
    exact ⟨y, y1, Or.inl y2, y3⟩
  · obtain ⟨y, y1, y2, y3, y4, y5⟩ := z
    rcases y2 with y2 | y2
    · exact h4 c o hc ⟨y, y1, y2, y3, y4, y5⟩
    · rw [y2] at y4
      rw [← y4] at hc
      exact absurd hf hc
theorem ZI.cutZ {m m' : M5} {tk tk' : Nat → Bool} {X S : Nat → Prop} {V' V2 : Nat → Rw} (hN1 : 61 ≤ N) (hN : N ≤ 1024) (hi : i ≤ 64) (hb : btO N (V 43)) (hn : ∀ c, 43 ≤ c → c < N → nr (V c) = V c) (hj : PJ N V i) (h : ZI N m V tk i X S m' V' tk') {x : Nat} (hx4 : x < 4234) (hX : X x) (hS : ¬ S x) (hh : 10 ≤ x → ¬ S (hx x)) (h0 : pv V i x ≠ 0) (e2 : V2 = vU (frV m' V' (pv V i x)) (ph V i x) (nr (wB (frV m' V' (pv V i x) (ph V i x)) (po i x) 0 2))) : ZI N m V tk i X (fun y => S y ∨ y = x) (frM5 m' (pv V i x)) V2 (tU tk' (pv V i x) false) := by
  have hp0 : ph V i x ≠ 0 := fun z => h0 (by rw [pv_at hx4, if_pos z])
  obtain ⟨t1, t2, t3, t4, t5⟩ := h.at hN1 hN hi hb hj hx4 hS hh hp0
  obtain ⟨h1, Z, h2, h3, h4⟩ := h
  have hp := (hj.1 x hx4).resolve_left h0
  have q := h2.free hN hp.1 hp.2.1
  have eF : (fun c => FSx V i S c ∨ c = pv V i x) = FSx V i (fun y => S y ∨ y = x) := funext (fun b => propext ⟨fun z => z.elim (fun ⟨b0, y, y1, y2, y3⟩ => ⟨b0, y, y1, Or.inl y2, y3⟩) (fun e => ⟨by rw [e]; exact h0, x, hx4, Or.inr rfl, e.symm⟩), fun ⟨b0, y, y1, y2, y3⟩ => y2.elim (fun z => Or.inl ⟨b0, y, y1, z, y3⟩) (fun e => Or.inr (by rw [← y3, e]))⟩)
  rw [eF] at q
  have hne : ¬ FSx V i (fun y => S y ∨ y = x) (ph V i x) := fun ⟨b0, y, y1, y2, y3⟩ => by
    rcases y2 with y2 | y2
    · exact t3 ⟨b0, y, y1, y2, y3⟩
    · rw [y2] at y3
      by_cases c : x < 10
      · rw [ph_0 c] at y3
        have := homeM_lt hi
        omega
      · rw [ph_hx (by omega) hx4] at y3
        have hl := hx_lt hx4
        have e := hj.2 x (hx x) hx4 (by omega) h0 y3
        exact hx_ne (by omega) e.symm
  have hnr : nr (frV m' V' (pv V i x) (ph V i x)) = frV m' V' (pv V i x) (ph V i x) := by
    rw [(q.2.2.1 _ t1 t2).2 hne]
    exact zr_nr (hn _ (by omega) t2)
  rw [wB_z (by decide) (po_lt hx4) hnr] at e2
  have q2 := q.zero (Z2 := fun o => po i x ≤ o ∧ o < po i x + 2) t1 hne
  rw [← e2] at q2
  refine ⟨fun y z => z.elim (h1 y) (fun e => e ▸ hX), _, q2, fun c o z => ?_, fun c o hc z => ?_⟩
  · rcases z with z | ⟨z1, z2⟩
    · obtain ⟨y, y1, y2, y3⟩ := h3 c o z
      exact ⟨y, y1, Or.inl y2, y3⟩
    · exact ⟨x, hx4, Or.inr rfl, h0, z1.symm, z2⟩
  · obtain ⟨y, y1, y2, y3, y4, y5⟩ := z
    rcases y2 with y2 | y2
    · exact Or.inl (h4 c o hc ⟨y, y1, y2, y3, y4, y5⟩)
    · rw [y2] at y4 y5
      exact Or.inr ⟨y4.symm, y5⟩
/-- all is cut: the outcome is one -/
theorem ZI.end {m m' : M5} {tk tk' : Nat → Bool} {X : Nat → Prop} {V' : Nat → Rw} (h : ZI N m V tk i X X m' V' tk') : ZS N m V tk (FSx V i X) (ZSx V i X) m' V' tk' := by
  obtain ⟨h1, Z, ⟨a1, a2, a3, a4, a5, a6⟩, h3, h4⟩ := h
  refine ⟨a1, a2, fun c hc0 hc => ⟨(a3 c hc0 hc).1, fun z => ?_⟩, a4, a5, a6⟩
  rw [(a3 c hc0 hc).2 z]
  congr 1
  funext o
  exact propext ⟨h3 c o, h4 c o z⟩
end PVP
