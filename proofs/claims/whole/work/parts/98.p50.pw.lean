/-! ===== pure: the numbers of all inodes ===== -/
section PWA
variable {N B gr : Nat} {V : Nat → Rw}
def ir (i : Nat) : Prop := 1 ≤ i ∧ i ≤ 64
/-- numbers lead to blocks, each to its own; what they lead to is used -/
def PW (N : Nat) (V : Nat → Rw) : Prop := btO N (V 43) ∧ (∀ i x, ir i → x < 4234 → pv V i x = 0 ∨ (61 ≤ pv V i x ∧ pv V i x < N)) ∧ (∀ i x j y, ir i → x < 4234 → ir j → y < 4234 → pv V i x ≠ 0 → pv V i x = pv V j y → i = j ∧ x = y) ∧ ∀ b, 61 ≤ b → b < N → (btM (V 43) b = 1 ↔ ∃ i x, ir i ∧ x < 4234 ∧ pv V i x = b)
theorem PW.pto {i : Nat} (h : PW N V) (hi : ir i) : PtO N V i := fun x hx => by
  rcases h.2.1 i x hi hx with q | q
  · exact Or.inl q
  · exact Or.inr ⟨q.1, q.2, (h.2.2.2 _ q.1 q.2).mpr ⟨i, x, hi, hx, rfl⟩⟩
theorem PW.pj {i : Nat} (h : PW N V) (hi : ir i) : PJ N V i := ⟨h.pto hi, fun x y hx hy h0 he => (h.2.2.1 i x i y hi hx hi hy h0 he).2⟩
theorem PW.free {b : Nat} (h : PW N V) (h1 : 61 ≤ b) (h2 : b < N) (hb : btM (V 43) b = 0) {i x : Nat} (hi : ir i) (hx : x < 4234) : pv V i x ≠ b := fun e => by
  have := (h.2.2.2 b h1 h2).mpr ⟨i, x, hi, hx, e⟩
  omega
theorem ir_home {i : Nat} (h : ir i) : 45 ≤ homeM i ∧ homeM i < 61 := ⟨by unfold homeM; omega, homeM_lt h.2⟩
/-- where a number stands -/
theorem PW.at {i x : Nat} (h : PW N V) (hN : 61 ≤ N) (hi : ir i) (hx4 : x < 4234) (h0 : ph V i x ≠ 0) : 45 ≤ ph V i x ∧ ph V i x < N ∧ btM (V 43) (ph V i x) = 1 := by
  obtain ⟨q1, q2⟩ := ir_home hi
  by_cases c : x < 10
  · rw [ph_0 c]
    exact ⟨q1, by omega, h.1.1 _ q2⟩
  · rw [ph_hx (by omega) hx4] at h0 ⊢
    have := hx_lt hx4
    rcases h.pto hi (hx x) (by omega) with q | q
    · exact absurd q h0
    · exact ⟨by omega, q.2.1, q.2.2⟩
/-- where two numbers stand is apart -/
theorem PW.ap {i x j y o : Nat} (h : PW N V) (hi : ir i) (hx4 : x < 4234) (hj : ir j) (hy4 : y < 4234) (hp : ph V i x = ph V j y) (hp0 : ph V i x ≠ 0) (h1 : po i x ≤ o ∧ o < po i x + 2) (h2 : po j y ≤ o ∧ o < po j y + 2) : i = j ∧ x = y := by
  have key : i = j → i = j ∧ x = y := fun e => by
    subst e
    exact ⟨rfl, po_inj hi.2 (h.pj hi) hx4 hy4 hp hp0 h1 h2⟩
  obtain ⟨a1, a2⟩ := ir_home hi
  obtain ⟨b1, b2⟩ := ir_home hj
  have hs := startM_le i
  have hs' := startM_le j
  by_cases c1 : x < 10
  · by_cases c2 : y < 10
    · rw [ph_0 c1, ph_0 c2] at hp
      have p1 : startM i + 12 ≤ po i x ∧ po i x ≤ startM i + 30 := by
        unfold po
        split
        · omega
        · split
          · omega
          · split
            · omega
            · omega
      have p2 : startM j + 12 ≤ po j y ∧ po j y ≤ startM j + 30 := by
        unfold po
        split
        · omega
        · split
          · omega
          · split
            · omega
            · omega
      by_cases e : i = j
      · exact key e
      · rcases ino_ap hi.1 hj.1 e with q | q
        · exact absurd hp q
        · omega
    · rw [ph_0 c1, ph_hx (by omega) hy4] at hp
      have := hx_lt hy4
      rcases h.2.1 j (hx y) hj (by omega) with q | q
      · omega
      · omega
  · by_cases c2 : y < 10
    · rw [ph_0 c2, ph_hx (by omega) hx4] at hp
      have := hx_lt hx4
      rcases h.2.1 i (hx x) hi (by omega) with q | q
      · omega
      · omega
    · rw [ph_hx (by omega) hx4] at hp hp0
      rw [ph_hx (by omega) hy4] at hp
      have l1 := hx_lt hx4
      have l2 := hx_lt hy4
      exact key (h.2.2.1 i (hx x) j (hx y) hi (by omega) hj (by omega) hp0 hp).1
theorem hx_lo {y : Nat} (h : y < 138) : hx y < 10 := by
  unfold hx
  by_cases c : y < 74
  · rw [if_pos c]
    decide
  · rw [if_neg c, if_pos h]
    decide
/-- the numbers are told by the places where they stand -/
theorem pv_eq {W : Nat → Rw} {j : Nat} (h : ∀ y, y < 4234 → ph V j y ≠ 0 → n2 (W (ph V j y)) (po j y) = n2 (V (ph V j y)) (po j y)) : ∀ y, y < 4234 → pv W j y = pv V j y := by
  have e10 : ∀ y, y < 10 → pv W j y = pv V j y := fun y hy => by
    have q := h y (by omega) (by rw [ph_0 hy]; exact homeM_ne j)
    rw [pv_at (V := W) (by omega), pv_at (V := V) (by omega), ph_0 hy, ph_0 hy]
    rw [ph_0 hy] at q
    rw [if_neg (homeM_ne j), if_neg (homeM_ne j), q]
  have step : ∀ y, 10 ≤ y → y < 4234 → pv W j (hx y) = pv V j (hx y) → pv W j y = pv V j y := fun y h1 h2 he => by
    rw [pv_at (V := W) h2, pv_at (V := V) h2, ph_hx (V := W) h1 h2, ph_hx (V := V) h1 h2, he]
    by_cases c : pv V j (hx y) = 0
    · rw [if_pos c, if_pos c]
    · rw [if_neg c, if_neg c]
      have q := h y h2 (by rw [ph_hx h1 h2]; exact c)
      rw [ph_hx h1 h2] at q
      exact q
  have e138 : ∀ y, y < 138 → pv W j y = pv V j y := fun y hy => by
    by_cases c : y < 10
    · exact e10 y c
    · exact step y (by omega) (by omega) (e10 _ (hx_lo hy))
  intro y hy
  by_cases c : y < 10
  · exact e10 y c
  · exact step y (by omega) hy (e138 _ (hx_lt hy))
/-- a block is taken and number x of inode i leads to it -/
def lkV (V : Nat → Rw) (b c o : Nat) (tab : Bool) : Nat → Rw := vU (tkV V b tab) c (nr (wB (tkV V b tab c) o (nI b) 2))
theorem tkV_x {b c : Nat} {tab : Bool} (h1 : c ≠ 43) (h2 : c ≠ b) : tkV V b tab c = V c := by
  unfold tkV
  cases tab with
  | true => exact (vU_n h2).trans (vU_n h1)
  | false => exact vU_n h1
theorem tkV_43 {b : Nat} {tab : Bool} (h : b ≠ 43) : tkV V b tab 43 = bsW (V 43) b true := by
  unfold tkV
  cases tab with
  | true => exact (vU_n (fun e => h e.symm)).trans vU_s
  | false =>
    show vU V 43 (bsW (V 43) b true) 43 = _
    exact vU_s
theorem n2_z {o : Nat} : n2 zR o = 0 := rfl
theorem pv_set {i x b : Nat} {tab : Bool} (h : PW N V) (hN1 : 61 ≤ N) (hi : ir i) (hx4 : x < 4234) (h0 : ph V i x ≠ 0) (hv : pv V i x = 0) (hb1 : 61 ≤ b) (hb2 : b < N) (hN : N ≤ 1024) (hbf : btM (V 43) b = 0) (ht : tbx x → tab = true) {j y : Nat} (hj : ir j) (hy4 : y < 4234) : pv (lkV V b (ph V i x) (po i x) tab) j y = if j = i ∧ y = x then b else pv V j y := by
  obtain ⟨c1, c2, c3⟩ := h.at hN1 hi hx4 h0
  have hcb : ph V i x ≠ b := fun e => by
    rw [e] at c3
    omega
  have hW : ∀ c, c ≠ 43 → c ≠ b → c ≠ ph V i x → lkV V b (ph V i x) (po i x) tab c = V c := fun c q1 q2 q3 => (vU_n q3).trans (tkV_x q1 q2)
  have hWc : lkV V b (ph V i x) (po i x) tab (ph V i x) = nr (wB (V (ph V i x)) (po i x) (nI b) 2) := by
    unfold lkV
    rw [vU_s, tkV_x (by omega) hcb]
  have hpo := po_lt (i := i) hx4
  have stay : ∀ j y, ir j → y < 4234 → ph V j y ≠ 0 → ¬ (j = i ∧ y = x) → n2 (lkV V b (ph V i x) (po i x) tab (ph V j y)) (po j y) = n2 (V (ph V j y)) (po j y) := fun j y hj hy hp0 hne => by
    obtain ⟨d1, d2, d3⟩ := h.at hN1 hj hy hp0
    have db : ph V j y ≠ b := fun e => by
      rw [e] at d3
      omega
    have hpo2 := po_lt (i := j) hy
    by_cases e : ph V j y = ph V i x
    · rw [e, hWc]
      refine n2_o hpo2 ?_
      by_cases q : po j y + 2 ≤ po i x ∨ po i x + 2 ≤ po j y
      · exact q
      · have := h.ap (o := max (po i x) (po j y)) hi hx4 hj hy e.symm h0 ⟨by omega, by omega⟩ ⟨by omega, by omega⟩
        exact absurd ⟨this.1.symm, this.2.symm⟩ hne
    · rw [hW _ (by omega) db e]
  by_cases cj : j = i
  · subst cj
    have at_x : pv (lkV V b (ph V j x) (po j x) tab) j x = b := by
      have eph : ph (lkV V b (ph V j x) (po j x) tab) j x = ph V j x := by
        by_cases c : x < 10
        · rw [ph_0 c, ph_0 c]
        · refine (ph_hx (V := lkV V b (ph V j x) (po j x) tab) (by omega) hx4).trans (Eq.trans ?_ (ph_hx (V := V) (by omega) hx4).symm)
          have hl := hx_lt hx4
          have e10 : ∀ z, z < 10 → z ≠ x → pv (lkV V b (ph V j x) (po j x) tab) j z = pv V j z := fun z hz hzx => by
            have q := stay j z hj (by omega) (by rw [ph_0 hz]; exact homeM_ne j) (fun e => hzx e.2)
            rw [pv_at (by omega), pv_at (V := V) (by omega), ph_0 hz, ph_0 hz]
            rw [ph_0 hz] at q
            rw [if_neg (homeM_ne j), if_neg (homeM_ne j), q]
          by_cases ch : hx x < 10
          · exact e10 _ ch (by omega)
          · have hh : hx (hx x) < 10 := hx_lo hl
            have eh := e10 (hx (hx x)) hh (by omega)
            rw [pv_at (V := lkV V b (ph V j x) (po j x) tab) (show hx x < 4234 by omega), pv_at (V := V) (show hx x < 4234 by omega), ph_hx (V := lkV V b (ph V j x) (po j x) tab) (by omega) (by omega), ph_hx (V := V) (i := j) (x := hx x) (by omega) (by omega), eh]
            by_cases c0 : pv V j (hx (hx x)) = 0
            · rw [if_pos c0, if_pos c0]
            · rw [if_neg c0, if_neg c0]
              have q := stay j (hx x) hj (by omega) (by rw [ph_hx (by omega) (by omega)]; exact c0) (fun e => hx_ne (by omega) e.2)
              rw [ph_hx (V := V) (i := j) (x := hx x) (by omega) (by omega)] at q
              exact q
      rw [pv_at hx4, eph, if_neg h0, hWc]
      exact n2_i hpo (by omega)
    by_cases cy : y = x
    · rw [if_pos ⟨rfl, cy⟩, cy]
      exact at_x
    · rw [if_neg (fun z => cy z.2)]
      have e10 : ∀ z, z < 10 → z ≠ x → pv (lkV V b (ph V j x) (po j x) tab) j z = pv V j z := fun z hz hzx => by
        have q := stay j z hj (by omega) (by rw [ph_0 hz]; exact homeM_ne j) (fun e => hzx e.2)
        rw [pv_at (by omega), pv_at (V := V) (by omega), ph_0 hz, ph_0 hz]
        rw [ph_0 hz] at q
        rw [if_neg (homeM_ne j), if_neg (homeM_ne j), q]
      have step : ∀ z, 10 ≤ z → z < 4234 → z ≠ x → (hx z ≠ x → pv (lkV V b (ph V j x) (po j x) tab) j (hx z) = pv V j (hx z)) → pv (lkV V b (ph V j x) (po j x) tab) j z = pv V j z := fun z h1 h2 hne he => by
        rw [pv_at (V := lkV V b (ph V j x) (po j x) tab) h2, pv_at (V := V) h2, ph_hx (V := lkV V b (ph V j x) (po j x) tab) h1 h2, ph_hx (V := V) h1 h2]
        by_cases cx : hx z = x
        · rw [cx, at_x, hv, if_pos rfl, if_neg (by omega)]
          have htb : tbx x := by
            rw [← cx]
            unfold hx tbx
            split
            · exact Or.inl rfl
            · split
              · exact Or.inr (Or.inl rfl)
              · exact Or.inr (Or.inr ⟨by omega, by omega⟩)
          have e2 : lkV V b (ph V j x) (po j x) tab b = zR := by
            rw [ht htb]
            exact (vU_n (fun e => hcb e.symm)).trans vU_s
          rw [e2]
          exact n2_z
        · rw [he cx]
          by_cases c0 : pv V j (hx z) = 0
          · rw [if_pos c0, if_pos c0]
          · rw [if_neg c0, if_neg c0]
            have q := stay j z hj h2 (by rw [ph_hx h1 h2]; exact c0) (fun e => hne e.2)
            rw [ph_hx h1 h2] at q
            exact q
      have e138 : ∀ z, z < 138 → z ≠ x → pv (lkV V b (ph V j x) (po j x) tab) j z = pv V j z := fun z hz hzx => by
        by_cases c : z < 10
        · exact e10 z c hzx
        · exact step z (by omega) (by omega) hzx (fun q => e10 _ (hx_lo hz) q)
      by_cases c : y < 10
      · exact e10 y c cy
      · exact step y (by omega) hy4 cy (fun q => e138 _ (hx_lt hy4) q)
  · rw [if_neg (fun z => cj z.1)]
    exact pv_eq (fun y hy hp0 => stay j y hj hy hp0 (fun z => cj z.1)) y hy4
/-- so all stays in order -/
theorem PW.set {i x b : Nat} {tab : Bool} (h : PW N V) (hN1 : 61 ≤ N) (hi : ir i) (hx4 : x < 4234) (h0 : ph V i x ≠ 0) (hv : pv V i x = 0) (hb1 : 61 ≤ b) (hb2 : b < N) (hN : N ≤ 1024) (hbf : btM (V 43) b = 0) (ht : tbx x → tab = true) : PW N (lkV V b (ph V i x) (po i x) tab) := by
  have hpv := fun {j y : Nat} (hj : ir j) (hy : y < 4234) => pv_set (tab := tab) h hN1 hi hx4 h0 hv hb1 hb2 hN hbf ht hj hy
  obtain ⟨c1, c2, c3⟩ := h.at hN1 hi hx4 h0
  have e43 : lkV V b (ph V i x) (po i x) tab 43 = bsW (V 43) b true := (vU_n (by omega)).trans (tkV_43 (by omega))
  refine ⟨by rw [e43]; exact h.1.bs hN hb1 hb2, fun j y hj hy => ?_, fun j y j2 y2 hj hy hj2 hy2 hn he => ?_, fun d d1 d2 => ?_⟩
  · rw [hpv hj hy]
    split
    · exact Or.inr ⟨hb1, hb2⟩
    · exact h.2.1 j y hj hy
  · rw [hpv hj hy] at hn he
    rw [hpv hj2 hy2] at he
    by_cases q1 : j = i ∧ y = x
    · rw [if_pos q1] at he
      by_cases q2 : j2 = i ∧ y2 = x
      · exact ⟨q1.1.trans q2.1.symm, q1.2.trans q2.2.symm⟩
      · rw [if_neg q2] at he
        exact absurd he.symm (h.free hb1 hb2 hbf hj2 hy2)
    · rw [if_neg q1] at hn he
      by_cases q2 : j2 = i ∧ y2 = x
      · rw [if_pos q2] at he
        exact absurd he (h.free hb1 hb2 hbf hj hy)
      · rw [if_neg q2] at he
        exact h.2.2.1 j y j2 y2 hj hy hj2 hy2 hn he
  · rw [e43, bt_bs (by omega) (by omega)]
    by_cases q : d = b
    · rw [if_pos q]
      exact ⟨fun _ => ⟨i, x, hi, hx4, by rw [hpv hi hx4, if_pos ⟨rfl, rfl⟩, q]⟩, fun _ => rfl⟩
    · rw [if_neg q, h.2.2.2 d d1 d2]
      refine ⟨fun ⟨j, y, j1, j2, j3⟩ => ⟨j, y, j1, j2, ?_⟩, fun ⟨j, y, j1, j2, j3⟩ => ⟨j, y, j1, j2, ?_⟩⟩
      · rw [hpv j1 j2, if_neg (fun z => by
          rw [z.1, z.2, hv] at j3
          omega)]
        exact j3
      · rw [hpv j1 j2] at j3
        by_cases q2 : j = i ∧ y = x
        · rw [if_pos q2] at j3
          exact absurd j3.symm q
        · rw [if_neg q2] at j3
          exact j3
end PWA
