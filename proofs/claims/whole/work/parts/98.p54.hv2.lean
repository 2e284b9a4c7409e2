/-! ===== pure: both make the last block of a place ===== -/
section PWE
variable {N B gr : Nat} {V : Nat → Rw} {m : M5} {tk : Nat → Bool} {i : Nat}
theorem tk_pv {b : Nat} {tab : Bool} (h : PW N V) (hN1 : 61 ≤ N) (hb1 : 61 ≤ b) (hbf : btM (V 43) b = 0) {j : Nat} (hj : ir j) : ∀ y, y < 4234 → pv (tkV V b tab) j y = pv V j y := pv_eq (fun y hy h0 => by
  obtain ⟨c1, c2, c3⟩ := h.at hN1 hj hy h0
  rw [tkV_x (by omega) (fun e => by rw [e] at c3; omega)])
theorem tk_pto {b : Nat} {tab : Bool} (h : PW N V) (hN1 : 61 ≤ N) (hN : N ≤ 1024) (hb1 : 61 ≤ b) (hb2 : b < N) (hbf : btM (V 43) b = 0) {j : Nat} (hj : ir j) : PtO N (tkV V b tab) j := fun x hx => by
  rw [tk_pv h hN1 hb1 hbf hj x hx]
  rcases h.pto hj x hx with q | q
  · exact Or.inl q
  · refine Or.inr ⟨q.1, q.2.1, ?_⟩
    rw [tkV_43 (by omega), bt_bs (by omega) (by omega)]
    by_cases e : pv V j x = b
    · rw [if_pos e]
      rfl
    · rw [if_neg e]
      exact q.2.2
theorem ph_pv {W : Nat → Rw} {j : Nat} (h : ∀ y, y < 138 → pv W j y = pv V j y) {x : Nat} (hx4 : x < 4234) : ph W j x = ph V j x := by
  by_cases c : x < 10
  · rw [ph_0 c, ph_0 c]
  · rw [ph_hx (by omega) hx4, ph_hx (by omega) hx4, h _ (hx_lt hx4)]
/-- the reference's table of a place -/
theorem z_tab {R : RfT} {p : Nat} (hN1 : 61 ≤ N) (hN : N ≤ 1024) (h : RY N B gr R m V tk) (hp : PtO N V i) (hi : ir i) (hp8 : ¬ p < 8) (hp4 : p < 4168) : e_tableOf R (nI i) (nI p) = some (nI (ph V i (px p))) := by
  have hpo := hp.pok hN1 hi.2 hp4
  have ag := fun k (hk : k ≤ levM p) => rc_ag (k := k) hN1 h.agu h.2.2 hi.2 hp.p138 hp4 hk
  have q := z_tableOf (R := R) h.1.1.lk hi.1 hi.2 hp8 hp4 (fun k hk => by
    rw [ag k (by omega)]
    have := hpo.2.1 k (by omega)
    omega)
  have e : hdM (rSee R true) i p = ph V i (px p) := by
    rw [← hd_ph hp4]
    exact ag _ (by omega)
  rw [e] at q
  exact q
def pY (p y : Nat) : Prop := y = px p ∨ (8 ≤ p ∧ y = hx (px p)) ∨ (72 ≤ p ∧ y = 9)
/-- the last level: a hole gets its block -/
theorem jh_last {A : MS} {D : CfT} {R : RfT} {p n n2 r lev : Nat} {tb : Bool} {x7 to : Int32} (hN1 : 61 ≤ N) (hN : N ≤ 1024) (hi : ir i) (h : JH N B gr (r + 1) A D R m V tk) (hp : p < 4168) (h0 : ph V i (px p) ≠ 0) (hv : pv V i (px p) = 0) (hlev : lev = levM p) (self : RfT → Int32 → Int32 → Int32 → Int32 → Option (RfT)) : (∃ A' D' R' m' V' tk', d_X7_have_30 N B gr (n + 2) A D (nI p) (bI tb) (nI (ph V i (px p))) (nI (po i (px p))) (nI lev) x7 (nI (lev - 1)) = some (.inl (1, A', D')) ∧ e_have_172 self R (nI i) to (bI tb) (nI p) = self R' (nI i) to (bI tb) (nI (p + 1)) ∧ JH N B gr r A' D' R' m' V' tk' ∧ Gr N i tb (pY p) V V' ∧ pv V' i (px p) ≠ 0 ∧ gA A' = gA A ∧ Dt D D' ∧ Fq hS hT R R' ∧ F49 V V' R R' ∧ Flr N B m m' ∧ TkG i tb (pY p) V V' tk tk' ∧ OwG i tb V' A A' R R') ∨ (∃ A' R', d_X7_have_30 N B gr (n + 2) A D (nI p) (bI tb) (nI (ph V i (px p))) (nI (po i (px p))) (nI lev) x7 (nI (lev - 1)) = some (.inr (0, A', D)) ∧ e_have_172 self R (nI i) to (bI tb) (nI p) = self R' (nI i) to (bI tb) (nI (p + 1)) ∧ Dd N R A'.1 R' ∧ FlT N B m A' D) := by
  have hl : 1 ≤ lev ∧ lev ≤ 3 := by
    rw [hlev]
    unfold levM
    split
    · exact ⟨by decide, by decide⟩
    · split
      · exact ⟨by decide, by decide⟩
      · exact ⟨by decide, by decide⟩
  have hon : ¬ rS R 11 = 0 := h.1.2.1.1.1.on
  have etk : ∀ (X : RfT), (if tb = true then e_takeTable X else e_take X) = (if bI tb = 0 then e_take X else e_takeTable X) := fun X => by
    cases tb with
    | true => rfl
    | false => rfl
  have e172 : ∀ v R1, (if tb = true then e_takeTable R else e_take R) = some (v, R1) → e_have_172 self R (nI i) to (bI tb) (nI p) = e_have_201 self R1 (nI i) to (bI tb) (nI p) v := fun v R1 he => by
    rw [e_have_172, if_neg hon]
    rw [etk] at he
    by_cases c : bI tb = 0
    · rw [if_pos c]
      rw [if_pos c] at he
      rw [bnd2_o he]
    · rw [if_neg c]
      rw [if_neg c] at he
      rw [bnd2_o he]
  rcases j_lv1 (n := n + 1) (x7 := x7) (tab := tb) (lev := lev) (k := lev - 1) hN1 hN hi h (px_lt hp) h0 hv hl.2 hl.1 (by omega) hp (by rw [decide_eq_false (by omega)]; cases tb <;> rfl) (fun z => absurd z px_tb) (fun _ => rfl) with ⟨b, A', D', R1, R', m', tk', a1, a2, a3, a4, a5, a6, a7, a8, a9, a10, a11, a12, a13, a14, a15, a16, a17, a18⟩ | ⟨A', R', a1, a2, a3, a4⟩
  · refine Or.inl ⟨A', D', R', m', _, tk', ?_, ?_, a5, a6.wk (fun y z => Or.inl z), by rw [a7]; omega, a10, a11, a12, a13, a16, a17.wk (fun y z => z.elim Or.inl (fun z => Or.inr (Or.inl ⟨by
    have := z.1
    unfold px at this
    split at this
    · omega
    · omega, z.2⟩))), a18⟩
    · rw [a1, show lev - 1 + 1 = lev by omega, d_X7_have_30, if_pos (nI_le (Nat.le_refl _) (by omega))]
      rfl
    · rw [e172 _ _ a2, e_have_201, if_neg a3]
      by_cases c8 : p < 8
      · have hx : px p = p := if_pos c8
        have hpo : po i (px p) = startM i + (12 + 2 * p) := by
          rw [hx]
          unfold po
          rw [if_pos c8, Nat.add_assoc]
        rw [show ph V i (px p) = homeM i by rw [hx, ph_0 (by omega)], hpo, ← z_setFieldS hi.1 hi.2] at a4
        have e12 : (12 : Int32) + (2 : Int32) * nI p = nI (12 + 2 * p) := by
          rw [show (2 : Int32) = nI 2 from rfl, show (12 : Int32) = nI 12 from rfl, pk_mul, nI_add]
        rw [if_neg (show ¬ (8 : Int32) ≤ nI p from nI_ge (b := 8) c8 (by decide)), e12, bnd_o a4, nI_1]
      · have ep := ph_pv (V := V) (W := tkV V b tb) (j := i) (fun y hy => tk_pv h.2.1 hN1 a8 a15 hi y (by omega)) (px_lt hp)
        have zt := z_tab hN1 hN a14 (tk_pto h.2.1 hN1 hN a8 a9 a15 hi) hi c8 hp
        rw [ep] at zt
        rw [if_pos (show (8 : Int32) ≤ nI p from nI_le (a := 8) (by omega) (by omega)), e_have_233, if_neg a3, bnd_o zt]
        by_cases c72 : p < 72
        · have hx : px p = p + 2 := by
            unfold px
            rw [if_neg c8, if_pos c72]
          have hpo : po i (px p) = 2 * (p - 8) := by
            rw [hx, show p + 2 = 10 + (p - 8) by omega, po_10 (by omega)]
          have eo : (2 : Int32) * (nI p - 8) = nI (2 * (p - 8)) := by
            rw [show (8 : Int32) = nI 8 from rfl, show (2 : Int32) = nI 2 from rfl, pk_sub (by omega), pk_mul]
          rw [hpo] at a4
          rw [if_neg (show ¬ (72 : Int32) ≤ nI p from nI_ge (b := 72) c72 (by decide)), eo, bnd_o a4, nI_1]
        · have hx : px p = p + 66 := by
            unfold px
            rw [if_neg c8, if_neg c72]
          have hpo : po i (px p) = 2 * ((p - 72) % 64) := by
            rw [hx, show p + 66 = 138 + 64 * ((p - 72) / 64) + (p - 72) % 64 by omega, po_138 (by omega)]
          have eo : (2 : Int32) * (nI p - 72 - (nI p - 72) / 64 * 64) = nI (2 * ((p - 72) % 64)) := by
            rw [show (72 : Int32) = nI 72 from rfl, show (64 : Int32) = nI 64 from rfl, show (2 : Int32) = nI 2 from rfl, pk_sub (by omega), pk_div (by omega) (by decide) (by decide), pk_mul, pk_sub (by omega), n_rem, pk_mul]
          rw [hpo] at a4
          rw [if_pos (show (72 : Int32) ≤ nI p from nI_le (a := 72) (by omega) (by omega)), eo, bnd_o a4, nI_1]
  · refine Or.inr ⟨A', R', a1, ?_, a3, a4⟩
    rw [e172 _ _ a2, hv_dead201 a3.1.1, nI_1]
end PWE
