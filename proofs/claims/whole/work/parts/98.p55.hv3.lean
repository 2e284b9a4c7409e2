/-! ===== pure: both make a block for a place, all levels ===== -/
section PWF
variable {N B gr : Nat} {V : Nat → Rw} {m : M5} {tk : Nat → Bool} {i : Nat}
def msM (V : Nat → Rw) (i p : Nat) : Nat := if pv V i (px p) ≠ 0 then 0 else if p < 8 then 1 else if p < 72 then (if pv V i 8 = 0 then 2 else 1) else if pv V i 9 = 0 then 3 else if pv V i (74 + (p - 72) / 64) = 0 then 2 else 1
theorem Gr.mono {tb : Bool} {Y : Nat → Prop} {V' : Nat → Rw} (h : Gr N i tb Y V V') (hw : PW N V) (hw' : PW N V') : ∀ c, c < 1024 → btM (V 43) c = 1 → btM (V' 43) c = 1 := fun c hc h1 => by
  by_cases q : c < 61
  · exact hw'.1.1 c q
  · by_cases q2 : c < N
    · exact h.2.2.2.2.1 c (by omega) q2 h1
    · exact hw'.1.2 c (by omega) hc
/-- outcome for a place -/
def HvO (N B gr r : Nat) (tb : Bool) (i p : Nat) (A : MS) (D : CfT) (R : RfT) (m : M5) (V : Nat → Rw) (tk : Nat → Bool) (cl : Option (FR Int32)) (v : Int32) (rf : Option RfT) (self : RfT → Int32 → Int32 → Int32 → Int32 → Option (RfT)) (to : Int32) : Prop := (∃ A' D' R' m' V' tk', cl = some (.inl (v, A', D')) ∧ rf = self R' (nI i) to (bI tb) (nI (p + 1)) ∧ JH N B gr r A' D' R' m' V' tk' ∧ Gr N i tb (pY p) V V' ∧ pv V' i (px p) ≠ 0 ∧ gA A' = gA A ∧ Dt D D' ∧ Fq hS hT R R' ∧ F49 V V' R R' ∧ Flr N B m m' ∧ TkG i tb (pY p) V V' tk tk' ∧ OwG i tb V' A A' R R') ∨ (∃ A' D' R', cl = some (.inr (0, A', D')) ∧ rf = self R' (nI i) to (bI tb) (nI (p + 1)) ∧ Dd N R A'.1 R' ∧ Dt D D' ∧ FlT N B m A' D')
theorem HvO.pre {r p : Nat} {tb : Bool} {A A1 : MS} {D D1 : CfT} {R R1 : RfT} {m1 : M5} {V1 : Nat → Rw} {tk1 : Nat → Bool} {cl : Option (FR Int32)} {v : Int32} {rf : Option RfT} {self : RfT → Int32 → Int32 → Int32 → Int32 → Option (RfT)} {to : Int32} {Y : Nat → Prop} (hi : ir i) (hw : PW N V) (hw1 : PW N V1) (h : HvO N B gr r tb i p A1 D1 R1 m1 V1 tk1 cl v rf self to) (g : Gr N i tb Y V V1) (hY : ∀ y, Y y → pY p y) (ga : gA A1 = gA A) (d : Dt D D1) (f : Fq hS hT R R1) (f49 : F49 V V1 R R1) (fl : Flr N B m m1) (tg : TkG i tb (pY p) V V1 tk tk1) (og : OwG i tb V1 A A1 R R1) : HvO N B gr r tb i p A D R m V tk cl v rf self to := by
  rcases h with ⟨A', D', R', m', V', tk', a1, a2, a3, a4, a5, a6, a7, a8, a9, a10, a11, a12⟩ | ⟨A', D', R', a1, a2, a3, a4, a5⟩
  · have gw := g.wk hY
    exact Or.inl ⟨A', D', R', m', V', tk', a1, a2, a3, gw.tr hi hw hw1 a4, a5, a6.trans ga, d.tr a7, f.tr a8, f49.tr a9 (g.mono hw hw1) (a4.mono hw1 a3.2.1), fl.tr a10, tg.tr hi a11 a4, og.tr hi a12 a4⟩
  · exact Or.inr ⟨A', D', R', a1, a2, a3.fq f (by decide) (by decide), d.tr a4, FlT.pre fl a5⟩
theorem jh_lastO {A : MS} {D : CfT} {R : RfT} {p n r lev : Nat} {tb : Bool} {x7 to : Int32} (hN1 : 61 ≤ N) (hN : N ≤ 1024) (hi : ir i) (h : JH N B gr (r + 1) A D R m V tk) (hp : p < 4168) (h0 : ph V i (px p) ≠ 0) (hv : pv V i (px p) = 0) (hlev : lev = levM p) (self : RfT → Int32 → Int32 → Int32 → Int32 → Option (RfT)) : HvO N B gr r tb i p A D R m V tk (d_X7_have_30 N B gr (n + 2) A D (nI p) (bI tb) (nI (ph V i (px p))) (nI (po i (px p))) (nI lev) x7 (nI (lev - 1))) 1 (e_have_172 self R (nI i) to (bI tb) (nI p)) self to := by
  rcases jh_last (n := n) (n2 := 0) (x7 := x7) (to := to) (tb := tb) hN1 hN hi h hp h0 hv hlev self with q | ⟨A', R', a1, a2, a3, a4⟩
  · exact Or.inl q
  · exact Or.inr ⟨A', D, R', a1, a2, a3, Dt.rf, a4⟩
/-- a table is made on the way -/
theorem jh_tab {A : MS} {D : CfT} {R : RfT} {p n r lev k x : Nat} {tb : Bool} {x7 to : Int32} {cl : Option (FR Int32)} {rf : Option RfT} {self : RfT → Int32 → Int32 → Int32 → Int32 → Option (RfT)} (hN1 : 61 ≤ N) (hN : N ≤ 1024) (hi : ir i) (h : JH N B gr (r + 1) A D R m V tk) (hp : p < 4168) (hx4 : x < 4234) (h0 : ph V i x ≠ 0) (hv : pv V i x = 0) (htx : tbx x) (hl : lev ≤ 3) (hl1 : 1 ≤ lev) (hk : k < lev - 1) (hY : pY p x) (hY2 : 10 ≤ x → pY p (hx x)) (e0 : cl = d_X7_have_30 N B gr (n + 1) A D (nI p) (bI tb) (nI (ph V i x)) (nI (po i x)) (nI lev) x7 (nI k)) (r' : Nat) (next : ∀ (b : Nat) (A' : MS) (D' : CfT) (R1 R' : RfT) (m' : M5) (V' : Nat → Rw) (tk' : Nat → Bool), e_takeTable R = some (nI b, R1) → ¬ rS R1 11 = 0 → e_setNumber R1 (nI (ph V i x)) (nI (po i x)) 2 (nI b) = some R' → JH N B gr r A' D' R' m' V' tk' → (∀ j y, ir j → y < 4234 → pv V' j y = if j = i ∧ y = x then b else pv V j y) → 61 ≤ b → b < N → RY N B gr R1 m' (tkV V b true) tk' → btM (V 43) b = 0 → HvO N B gr r' tb i p A' D' R' m' V' tk' (d_X7_have_30 N B gr n A' D' (nI p) (bI tb) (nI b) (nI (offM p (k + 1))) (nI lev) 1 (nI (k + 1))) 1 rf self to) (dead : ∀ R', e_takeTable R = some (-1, R') → rS R' 11 = 0 → rf = self R' (nI i) to (bI tb) (nI (p + 1))) : HvO N B gr r' tb i p A D R m V tk cl 1 rf self to := by
  rcases j_lv1 (n := n) (x7 := x7) (tb := tb) (tab := true) (lev := lev) (k := k) hN1 hN hi h hx4 h0 hv hl hl1 (by omega) hp (by rw [decide_eq_true hk]; cases tb <;> rfl) (fun _ => rfl) (fun z => absurd htx z) with ⟨b, A', D', R1, R', m', tk', a1, a2, a3, a4, a5, a6, a7, a8, a9, a10, a11, a12, a13, a14, a15, a16, a17, a18⟩ | ⟨A', R', a1, a2, a3, a4⟩
  · rw [e0, a1]
    have a2 : e_takeTable R = some (nI b, R1) := a2
    have q := next b A' D' R1 R' m' _ tk' a2 a3 a4 a5 (fun j y hj hy => pv_set h.2.1 hN1 hi hx4 h0 hv a8 a9 hN a15 (fun _ => rfl) hj hy) a8 a9 a14 a15
    exact q.pre hi h.2.1 a5.2.1 a6 (fun y z => by rw [z]; exact hY) a10 a11 a12 a13 a16 (a17.wk (fun y z => z.elim (fun z => by rw [z]; exact hY) (fun z => by rw [z.2]; exact hY2 z.1))) a18
  · rw [e0]
    have a2 : e_takeTable R = some (-1, R') := a2
    exact Or.inr ⟨A', D, R', a1, dead R' a2 a3.1.1, a3, Dt.rf, a4⟩
/-- behind the second table -/
theorem jh_mid {A : MS} {D : CfT} {R : RfT} {p n r : Nat} {tb : Bool} {x7 to : Int32} (hN1 : 61 ≤ N) (hN : N ≤ 1024) (hi : ir i) (hp : p < 4168) (h72 : ¬ p < 72) (h9 : pv V i 9 ≠ 0) (hv : pv V i (px p) = 0) (h : JH N B gr (r + (if pv V i (74 + (p - 72) / 64) = 0 then 2 else 1)) A D R m V tk) (self : RfT → Int32 → Int32 → Int32 → Int32 → Option (RfT)) : HvO N B gr r tb i p A D R m V tk (d_X7_have_30 N B gr (n + 3) A D (nI p) (bI tb) (nI (pv V i 9)) (nI (2 * ((p - 72) / 64))) (nI 3) x7 (nI 1)) 1 (e_have_83 self R (nI i) to (bI tb) (nI p)) self to := by
  have hxp : px p = p + 66 := by
    unfold px
    rw [if_neg (by omega), if_neg h72]
  have hj : (p - 72) / 64 < 64 := by omega
  have ehx : hx (px p) = 74 + (p - 72) / 64 := by
    rw [hxp, show p + 66 = 138 + 64 * ((p - 72) / 64) + (p - 72) % 64 by omega, hx_138 (by omega)]
  have ephp : ∀ W : Nat → Rw, ph W i (px p) = pv W i (74 + (p - 72) / 64) := fun W => by
    rw [ph_hx (by rw [hxp]; omega) (px_lt hp), ehx]
  have eph2 : ∀ W : Nat → Rw, ph W i (74 + (p - 72) / 64) = pv W i 9 := fun W => ph_2 (by omega) (by omega)
  have epo : po i (px p) = 2 * ((p - 72) % 64) := by
    rw [hxp, show p + 66 = 138 + 64 * ((p - 72) / 64) + (p - 72) % 64 by omega, po_138 (by omega)]
  have eo1 : offM p 1 = 2 * ((p - 72) / 64) := (off_b h72).2.1
  have eo2 : offM p 2 = po i (px p) := by
    rw [epo]
    exact (off_b h72).2.2
  have hon : ¬ rS R 11 = 0 := h.1.2.1.1.1.on
  have hlev : (3 : Nat) = levM p := (lev_3 h72).symm
  have zt := z_tab hN1 hN h.1.2 (h.2.1.pto hi) hi (show ¬ p < 8 by omega) hp
  rw [ephp] at zt
  have e83 : e_have_83 self R (nI i) to (bI tb) (nI p) = (if nI (pv V i (74 + (p - 72) / 64)) = 0 then bnd2 (e_takeTable R) (fun v122 R122 => if (rS R122 11) = 0 then e_have_140 self R122 (nI i) to (bI tb) (nI p) v122 else if ((72 : Int32)) ≤ nI p then e_have_140 self R122 (nI i) to (bI tb) (nI p) v122 else bnd (e_setField R122 (nI i) ((28 : Int32)) ((2 : Int32)) v122) (fun R123 => e_have_172 self R123 (nI i) to (bI tb) (nI p))) else e_have_172 self R (nI i) to (bI tb) (nI p)) := by
    rw [e_have_83, if_neg hon, if_neg (show ¬ nI p < (8 : Int32) from fun z => absurd (nI_le (a := 8) (b := p) (by omega) (by omega)) (Int32.not_le.mpr z)), bnd_o zt]
  by_cases ct : pv V i (74 + (p - 72) / 64) = 0
  · rw [if_pos ct] at h
    rw [if_pos (by rw [ct]; rfl)] at e83
    refine jh_tab (n := n + 2) (x := 74 + (p - 72) / 64) (k := 1) (lev := 3) (x7 := x7) (r := r + 1) hN1 hN hi h hp (by omega) (by rw [eph2]; exact h9) ct (Or.inr (Or.inr ⟨by omega, by omega⟩)) (by decide) (by decide) (by decide) (Or.inr (Or.inl ⟨by omega, ehx.symm⟩)) (fun _ => by rw [hx_74 hj]; exact Or.inr (Or.inr ⟨by omega, rfl⟩)) (by rw [eph2, po_74 hj]) r (fun b A' D' R1 R' m' V' tk' b1 b2 b3 b4 b5 b6 b7 b8 b9 => ?_) (fun R' b1 b2 => ?_)
    · rw [e83, bnd2_o b1, if_neg b2, if_pos (show (72 : Int32) ≤ nI p from nI_le (a := 72) (by omega) (by omega)), e_have_140, if_neg b2]
      have p9 : pv V' i 9 = pv V i 9 := by rw [b5 i 9 hi (by decide), if_neg (by omega)]
      have fl := z_fieldS (R := R1) (a := 30) (n := 2) hi.1 hi.2
      have p9t : pv (tkV V b true) i 9 = pv V i 9 := tk_pv h.2.1 hN1 b6 b9 hi 9 (by decide)
      have hh := ir_home hi
      have fl2 := z_s2 (R := R1) (b := homeM i) (a := startM i + 30) (by omega) b8.1.1.lk (by have := startM_le i; omega)
      rw [(b8.1.2 (homeM i) (by omega) (by omega)).1] at fl2
      have fl2 : e_seenNumber R1 (nI (homeM i)) (nI (startM i + 30)) 2 = some (nI (pv (tkV V b true) i 9)) := fl2
      rw [fl2, p9t] at fl
      have fl : e_field R1 (nI i) 30 2 = some (nI (pv V i 9)) := fl
      have eo : (2 : Int32) * ((nI p - 72) / 64) = nI (2 * ((p - 72) / 64)) := by
        rw [show (72 : Int32) = nI 72 from rfl, show (64 : Int32) = nI 64 from rfl, show (2 : Int32) = nI 2 from rfl, pk_sub (by omega), pk_div (by omega) (by decide) (by decide), pk_mul]
      rw [eph2, po_74 hj] at b3
      rw [bnd_o fl, eo, bnd_o b3]
      have pt : pv V' i (74 + (p - 72) / 64) = b := by rw [b5 i _ hi (by omega), if_pos ⟨rfl, rfl⟩]
      have pd : pv V' i (px p) = 0 := by rw [b5 i _ hi (px_lt hp), if_neg (by rw [hxp]; omega), hv]
      have q := jh_lastO (n := n) (x7 := 1) (to := to) (tb := tb) (lev := 3) hN1 hN hi b4 hp (by rw [ephp, pt]; omega) pd hlev self
      rw [ephp, pt, ← eo2] at q
      exact q
    · rw [e83, bnd2_o b1, if_pos b2, hv_dead140 b2, nI_1]
  · rw [if_neg ct] at h
    have htN := ((h.2.1.2.1 i (74 + (p - 72) / 64) hi (by omega)).resolve_left ct)
    rw [if_neg (nI_ne0 (by omega) (by omega))] at e83
    have h9r := (h.2.1.pto hi 9 (by decide)).resolve_left h9
    have en : n2 (V (pv V i 9)) (2 * ((p - 72) / 64)) = pv V i (74 + (p - 72) / 64) := by
      have q := pv_at (V := V) (i := i) (x := 74 + (p - 72) / 64) (by omega)
      rw [eph2, if_neg h9, po_74 hj] at q
      exact q.symm
    have cp := c_pass (B := B) (gr := gr) (p := p) (k := 1) (lev := 3) (n := n + 2) (tb := tb) (x7 := x7) hN h.1.1 (show 43 ≤ pv V i 9 by omega) h9r.2.1 h9r.2.2 (show 2 * ((p - 72) / 64) + 2 ≤ 128 by omega) (by rw [en]; exact ct) (by decide) (by decide) hp
    rw [cp, en, e83]
    have q := jh_lastO (n := n) (x7 := x7) (to := to) (tb := tb) (lev := 3) hN1 hN hi h hp (by rw [ephp]; exact ct) hv hlev self
    rw [ephp, ← eo2] at q
    exact q
end PWF
