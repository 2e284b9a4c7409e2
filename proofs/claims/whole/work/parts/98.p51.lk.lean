/-! ===== pure: a block is taken and told ===== -/
section PWB
variable {N B gr : Nat} {V : Nat → Rw} {m : M5} {tk : Nat → Bool}
/-- there is room -/
def av (N : Nat) (m : M5) (V : Nat → Rw) : Prop := rsC m.2.2.2.2 2 N < fbM (V 43) N
theorem fb_le {y : Rw} {rs : Nat → Nat} : ∀ n, (∀ b, b < n → btM y b = 0 → rs b = 2) → fbM y n ≤ rsC rs 2 n
  | 0, _ => Nat.le_refl _
  | n + 1, h => by
    have ih := fb_le n (fun b hb => h b (by omega))
    show fbM y n + (1 - btM y n) ≤ rsC rs 2 n + (if rs n = 2 then 1 else 0)
    rcases bt01 y n with z | z
    · rw [z, if_pos (h n (by omega) z)]
      omega
    · rw [z]
      omega
theorem tk_room (hb : btO N (V 43)) (hr : ∀ b, b < N → m.2.2.2.2 b < 3) (ha : av N m V) (hn : ¬ tkD N B m V) : ∃ b, (tkM N B m V).2 = some b := by
  have hex : ∃ b, b < N ∧ btM (V 43) b = 0 ∧ m.2.2.2.2 b ≠ 2 := Classical.byContradiction (fun z => by
    have := fb_le (y := V 43) (rs := m.2.2.2.2) N (fun b hb2 h0 => Classical.byContradiction (fun y => z ⟨b, hb2, h0, y⟩))
    unfold av at ha
    omega)
  obtain ⟨b, b1, b2, b3⟩ := hex
  have b61 : 61 ≤ b := by
    by_cases q : b < 61
    · have := hb.1 b q
      omega
    · omega
  unfold tkM
  cases hl : lowB N V m with
  | some c => exact ⟨c, rfl⟩
  | none =>
    show ∃ c, lowB N V (flM N B m) = some c
    cases hl2 : lowB N V (flM N B m) with
    | some c => exact ⟨c, rfl⟩
    | none =>
      refine absurd ⟨b2, ?_⟩ (lmO_n _ _ hl2 b b61 (by omega))
      have h1 := lmO_n _ _ hl b b61 (by omega)
      have h3 := hr b b1
      show (if m.2.2.2.2 b = 1 then 0 else m.2.2.2.2 b) = 0
      by_cases q : m.2.2.2.2 b = 1
      · rw [if_pos q]
      · rw [if_neg q]
        have : m.2.2.2.2 b ≠ 0 := fun y => h1 ⟨b2, y⟩
        omega
theorem tkM_s {b : Nat} (h : (tkM N B m V).2 = some b) : 61 ≤ b ∧ b < N ∧ btM (V 43) b = 0 ∧ (tkM N B m V).1.2.2.2.2 b = 0 := by
  unfold tkM at *
  cases hl : lowB N V m with
  | some c =>
    rw [hl] at h
    have e : c = b := Option.some.inj h
    rw [← e]
    obtain ⟨l1, l2, l3, l4⟩ := lmO_s _ _ hl
    exact ⟨l1, by omega, l3, l4⟩
  | none =>
    rw [hl] at h
    have h : lowB N V (flM N B m) = some b := h
    obtain ⟨l1, l2, l3, l4⟩ := lmO_s _ _ h
    exact ⟨l1, by omega, l3, l4⟩
/-- the reference takes a block, as a table or not -/
theorem y_tk {R : RfT} {tab : Bool} (hN1 : 61 ≤ N) (hN : N ≤ 1024) (h : RY N B gr R m V tk) (hm : MOk N B m) (hsp : hSp m.1 + 100 * m.2.2.2.1.length + 200 < 2 ^ 31) (hro : ¬ tkD N B m V → ∃ b, (tkM N B m V).2 = some b) : ∃ v R', (if tab = true then e_takeTable R else e_take R) = some (v, R') ∧ ((∃ b, ¬ tkD N B m V ∧ (tkM N B m V).2 = some b ∧ v = nI b ∧ RY N B gr R' (tkM N B m V).1 (tkV V b tab) (tkT tk b tab) ∧ rA R' 49 = upd (rA R 49) b 1 ∧ Fq [33, 29, 47, 22, 25, 9, 10, 12, 13, 14, 18, 20] [30, 31, 32, 36, 43, 49, 35, 37, 46, 23, 24, 38, 44, 45, 6, 7, 8, 15, 17, 39, 40] R R' ∧ ∀ c, c < 1024 → wOw R' c ≠ none → c = 43 ∨ (tab = true ∧ c = b) ∨ wOw R c ≠ none) ∨ (tkD N B m V ∧ v = -1 ∧ Dd N R (flO2 N B m).2.1 R')) := by
  obtain ⟨v, R1, e1, o1⟩ := y_take hN1 hN h hm hsp (fun z => by
    obtain ⟨b, hb⟩ := hro z
    rw [hb]
    exact Option.some_ne_none b)
  cases tab with
  | false =>
    rw [if_neg (by decide)]
    refine ⟨v, R1, e1, ?_⟩
    rcases o1 with ⟨b, a1, a2, a3, a4, a5, a6, a7, a8, a9, a10, a11, a12⟩ | o1
    · exact Or.inl ⟨b, a1, a2, a3, a8, a9, a11, fun c hc hne => (a12 c hc hne).imp id Or.inr⟩
    · exact Or.inr o1
  | true =>
    rw [if_pos rfl, takeTable_eq, bnd2_o e1]
    rcases o1 with ⟨b, a1, a2, a3, a4, a5, a6, a7, a8, a9, a10, a11, a12⟩ | ⟨d1, d2, d3⟩
    · rw [a3, if_neg (nI_m1 (by omega))]
      have ub : btM (vU V 43 (bsW (V 43) b true) 43) b = 1 := by
        rw [vU_s, bt_bs (by omega) (by omega), if_pos rfl]
        rfl
      obtain ⟨R2, e2, y2, f2, w2⟩ := y_ttT hN a8 a5 a4 ub a10
      exact ⟨_, R2, e2, Or.inl ⟨b, a1, a2, rfl, y2, by rw [f2.1.2.1 49 (by decide), a9], a11.tr (f2.1.wk (by decide) (by decide)), fun c hc hne => (w2 c hc hne).elim (fun z => Or.inr (Or.inl ⟨rfl, z⟩)) (fun z => (a12 c hc z).imp id Or.inr)⟩⟩
    · rw [if_pos d2]
      exact ⟨_, R1, rfl, Or.inr ⟨d1, d2, d3⟩⟩
/-- and a number leads to it -/
theorem y_lk {R : RfT} {b c o : Nat} {tab : Bool} (hN : N ≤ 1024) (h : RY N B gr R m (tkV V b tab) tk) (hb1 : 61 ≤ b) (hb2 : b < N) (hbf : btM (V 43) b = 0) (hc1 : 44 ≤ c) (hc2 : c < N) (hu : btM (V 43) c = 1) (ho : o + 2 ≤ 128) : ∃ R', e_setNumber R (nI c) (nI o) 2 (nI b) = some R' ∧ RY N B gr R' m (lkV V b c o tab) tk ∧ Fn [33] [30, 31, 32, 36, 43] R R' := by
  have hcb : c ≠ b := fun e => by
    rw [e] at hu
    omega
  obtain ⟨R', e, y, f⟩ := y_set (b := c) (p := o) (n := 2) (v := nI b) hN h hc1 hc2 (by rw [tkV_43 (by omega), bt_bs (by omega) (by omega), if_neg hcb]; exact hu) (by decide) ho
  exact ⟨R', e, y, f⟩
theorem c_low {A : MS} {D D2 : CfT} (hN1 : 61 ≤ N) (hN : N ≤ 1024) (h : CX N A D m V tk) : d_X10_lowest N (vA A) A.2.2.2.2.1 D2 = some (match lowB N V m with | some c => nI c | none => -1) := by
  rw [d_lowest hN1 hN, loM_o, h.see (Nat.le_refl 43) (by omega) (h.2.2.2.1.1 43 (by decide))]
  have e : A.2.2.2.2.1 = m.2.2.2.2 := by
    rw [← h.1]
    rfl
  rw [e]
  rfl
/-- the class takes a block and tells it -/
theorem c_lk {A : MS} {D : CfT} {p k c o lev n : Nat} {tb : Bool} {self : MS → CfT → Int32 → Int32 → Int32 → Int32 → Int32 → Int32 → Int32 → Option (FR Int32)} {b : Nat} (hN : N ≤ 1024) (h : CX N A D m V tk) (hb1 : 61 ≤ b) (hb2 : b < N) (hbf : btM (V 43) b = 0) (hr : m.2.2.2.2 b = 0) (hc1 : 44 ≤ c) (hc2 : c < N) (hu : btM (V 43) c = 1) (ho : o + 2 ≤ 128) (hl : lev ≤ 3) (hl1 : 1 ≤ lev) (hk : k < lev) (hp : p < 4168) : ∃ A' D', d_X7_have_90 N B gr self A D (nI p) (bI tb) (nI c) (nI o) (nI lev) (nI k) (nI b) = self A' D' (nI p) (bI tb) (nI b) (nI (offM p (k + 1))) (nI lev) 1 (nI (k + 1)) ∧ CX N A' D' m (lkV V b c o (tb || decide (k < lev - 1))) (tkT tk b (tb || decide (k < lev - 1))) ∧ gA A' = gA A ∧ Dt D D' ∧ ∀ P : Nat → Prop, P 43 → P c → ((tb || decide (k < lev - 1)) = true → P b) → OwS A P → OwS A' P := by
  have hcb : c ≠ b := fun e => by
    rw [e] at hu
    omega
  have key : ∀ tab : Bool, ∃ A1 D1 A' D', d_X10_seize N A D (nI b) (bI tab) = some (A1, D1) ∧ d_X7_have_125 N B gr self A1 D1 (nI p) (bI tb) (nI c) (nI o) (nI lev) (nI k) (nI b) = self A' D' (nI p) (bI tb) (nI b) (nI (offM p (k + 1))) (nI lev) 1 (nI (k + 1)) ∧ CX N A' D' m (lkV V b c o tab) (tkT tk b tab) ∧ gA A' = gA A ∧ Dt D D' ∧ ∀ P : Nat → Prop, P 43 → P c → (tab = true → P b) → OwS A P → OwS A' P := fun tab => by
    obtain ⟨A1, D1, e1, x1, g1, t1⟩ := c_seize (tab := tab) hN h hb1 hb2 hbf hr
    have hu1 : btM (tkV V b tab 43) c = 1 := by
      rw [tkV_43 (by omega), bt_bs (by omega) (by omega), if_neg hcb]
      exact hu
    obtain ⟨A2, D2, e2, x2, o2, g2, t2⟩ := c_own hN x1 (show 43 ≤ c by omega) hc2 hu1
    refine ⟨A1, D1, _, D2, e1, ?_, c_put (y := nr (wB (tkV V b tab c) o (nI b) 2)) x2 hc1 hu1 o2, g2.trans g1, t1.tr t2, fun P p1 p2 p3 p4 => ow_set (ow_own e2 (ow_seize e1 p4 p1 (fun z => by
      rw [nI_clamp (by omega)]
      refine p3 ?_
      cases tab with
      | true => rfl
      | false => exact absurd rfl z)) (by rw [nI_clamp (by omega)]; exact p2)) p2⟩
    rw [d_X7_have_125, bnd2_o e2, nI_clamp (by omega), bnd_o (c_w2 hc2 o2 ho), nI_1, bnd_o (d_offset (by omega) (by omega))]
  rw [d_X7_have_90, if_neg (nI_m1 (by omega))]
  cases tb with
  | true =>
    obtain ⟨A1, D1, A', D', e1, e2, x, g, t, w⟩ := key true
    have e1 : d_X10_seize N A D (nI b) 1 = some (A1, D1) := e1
    rw [if_neg (show ¬ bI true = 0 by decide), bnd2_o e1, e2]
    exact ⟨A', D', rfl, x, g, t, w⟩
  | false =>
    rw [if_pos (show bI false = 0 from rfl), i1_sub hl1]
    by_cases c1 : lev - 1 ≤ k
    · obtain ⟨A1, D1, A', D', e1, e2, x, g, t, w⟩ := key false
      have e1 : d_X10_seize N A D (nI b) 0 = some (A1, D1) := e1
      rw [if_pos (nI_le c1 (by omega)), bnd2_o e1, e2, show (false || decide (k < lev - 1)) = false by rw [decide_eq_false (by omega)]; rfl]
      exact ⟨A', D', rfl, x, g, t, w⟩
    · obtain ⟨A1, D1, A', D', e1, e2, x, g, t, w⟩ := key true
      have e1 : d_X10_seize N A D (nI b) 1 = some (A1, D1) := e1
      rw [if_neg (nI_ge (by omega) (by omega)), bnd2_o e1, e2, show (false || decide (k < lev - 1)) = true by rw [decide_eq_true (by omega)]; rfl]
      exact ⟨A', D', rfl, x, g, t, w⟩
theorem c_lv {A : MS} {D : CfT} {p k c o lev n : Nat} {tb : Bool} {x7 : Int32} (hN1 : 61 ≤ N) (hN : N ≤ 1024) (h : CX N A D m V tk) (hm : MOk N B m) (hsp : hSp m.1 + 100 * m.2.2.2.1.length + 200 < 2 ^ 31) (hro : ¬ tkD N B m V → ∃ b, (tkM N B m V).2 = some b) (hc1 : 44 ≤ c) (hc2 : c < N) (hu : btM (V 43) c = 1) (ho : o + 2 ≤ 128) (h0 : n2 (V c) o = 0) (hl : lev ≤ 3) (hl1 : 1 ≤ lev) (hk : k < lev) (hp : p < 4168) : (∃ b A' D', ¬ tkD N B m V ∧ (tkM N B m V).2 = some b ∧ d_X7_have_30 N B gr (n + 1) A D (nI p) (bI tb) (nI c) (nI o) (nI lev) x7 (nI k) = d_X7_have_30 N B gr n A' D' (nI p) (bI tb) (nI b) (nI (offM p (k + 1))) (nI lev) 1 (nI (k + 1)) ∧ CX N A' D' (tkM N B m V).1 (lkV V b c o (tb || decide (k < lev - 1))) (tkT tk b (tb || decide (k < lev - 1))) ∧ gA A' = gA A ∧ Dt D D' ∧ ∀ P : Nat → Prop, P 43 → P c → ((tb || decide (k < lev - 1)) = true → P b) → OwS A P → OwS A' P) ∨ (tkD N B m V ∧ ∃ A', d_X7_have_30 N B gr (n + 1) A D (nI p) (bI tb) (nI c) (nI o) (nI lev) x7 (nI k) = some (.inr (0, A', D)) ∧ A'.1 = (flO2 N B m).2.1 ∧ TJ N A' D) := by
  have esee := h.see (show 43 ≤ c by omega) hc2 hu
  have hlow := c_low (D2 := D) hN1 hN h
  rw [d_X7_have_30, if_neg (nI_ge (by omega) (by omega)), see_n hc2 hN, bnd_o (d_two (by omega) (by decide)), esee, h0, if_pos (show nI 0 = 0 from rfl), bnd_o hlow]
  cases hl0 : lowB N V m with
  | some b =>
    have htk : tkM N B m V = (m, some b) := by
      unfold tkM
      rw [hl0]
    have hnd : ¬ tkD N B m V := fun z => by
      have z1 := z.1
      rw [hl0] at z1
      cases z1
    obtain ⟨s1, s2, s3, s4⟩ := tkM_s (show (tkM N B m V).2 = some b by rw [htk])
    rw [htk] at s4
    obtain ⟨A', D', e, x, g, t, w⟩ := c_lk (B := B) (gr := gr) (p := p) (k := k) (c := c) (o := o) (lev := lev) (n := n) (tb := tb) (self := d_X7_have_30 N B gr n) hN h s1 s2 s3 s4 hc1 hc2 hu ho hl hl1 hk hp
    refine Or.inl ⟨b, A', D', hnd, by rw [htk], ?_, by rw [htk]; exact x, g, t, w⟩
    show (if nI b = -1 then _ else d_X7_have_90 N B gr (d_X7_have_30 N B gr n) A D (nI p) (bI tb) (nI c) (nI o) (nI lev) (nI k) (nI b)) = _
    rw [if_neg (nI_m1 (by omega)), e]
  | none =>
    have hsp2 : hSp A.1 + 100 * A.2.2.2.1.length + 200 < 2 ^ 31 := by
      have e := h.1
      have e1 : A.1 = m.1 := by
        rw [← e]
        rfl
      have e2 : A.2.2.2.1 = m.2.2.2.1 := by
        rw [← e]
        rfl
      rw [e1, e2]
      exact hsp
    rcases c_fFl (N := N) (B := B) (gr := gr) (A := A) (D := D) hsp2 with ⟨f1, A1, f2, f3, f4, f5, f6⟩ | ⟨f1, f2⟩
    · rw [h.1] at f1
      have x1 := h.flush hN1 hm f1 f3 f4 f5
      have hnd : ¬ tkD N B m V := fun z => by
        have z2 := z.2
        rw [f1] at z2
        cases z2
      obtain ⟨b, hb⟩ := hro hnd
      have htk : tkM N B m V = (flM N B m, some b) := by
        unfold tkM at hb ⊢
        rw [hl0] at hb ⊢
        exact Prod.ext rfl hb
      obtain ⟨s1, s2, s3, s4⟩ := tkM_s hb
      rw [htk] at s4
      have hlow2 := c_low (D2 := D) hN1 hN x1
      have hlb : lowB N V (flM N B m) = some b := by
        rw [htk] at hb
        unfold tkM at htk
        rw [hl0] at htk
        exact (Prod.mk.inj htk).2
      rw [hlb] at hlow2
      obtain ⟨A', D', e, x, g, t, w⟩ := c_lk (B := B) (gr := gr) (p := p) (k := k) (c := c) (o := o) (lev := lev) (n := n) (tb := tb) (self := d_X7_have_30 N B gr n) hN x1 s1 s2 s3 s4 hc1 hc2 hu ho hl hl1 hk hp
      refine Or.inl ⟨b, A', D', hnd, hb, ?_, by rw [htk]; exact x, g.trans f6, t, fun P p1 p2 p3 p4 => w P p1 p2 p3 (fun b hb => p4 b (by rw [← f4]; exact hb))⟩
      show (if (-1 : Int32) = -1 then bndF (fFl N B gr A D) _ else _) = _
      rw [if_pos rfl, bndF_l f2, bnd_o hlow2, e]
    · rw [h.1] at f1 f2
      refine Or.inr ⟨⟨hl0, f1⟩, ((flO2 N B m).2.1, A.2), ?_, rfl, h.tj⟩
      show (if (-1 : Int32) = -1 then bndF (fFl N B gr A D) _ else _) = _
      rw [if_pos rfl, bndF_r f2]
end PWB
