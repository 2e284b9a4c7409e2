/-! ===== pure: the reference's own rows ===== -/
section PVA
variable {R : RfT} {N B : Nat}
def wOw (R : RfT) (b : Nat) : Option Rw := if rA R 36 b = -1 then none else some (nr (fl (rA R 32) (rA R 36 b).toNatClampNeg))
def wTk (R : RfT) (b : Nat) : Bool := decide (¬ rA R 36 b = -1 ∧ rA R 31 (rA R 36 b).toNatClampNeg = 1)
theorem nft {p : Prop} : ¬ (false = true ∧ p) := fun z => absurd z.1 (by decide)
theorem rSee_t {b : Nat} : rSee R true b = oSee (wOw R b) (rSee R false b) := by
  unfold rSee wOw
  by_cases c : rA R 36 b = -1
  · rw [if_neg (show ¬ (true = true ∧ ¬ rA R 36 b = -1) from fun z => z.2 c), if_pos c, if_neg (nft (p := ¬ rA R 36 b = -1))]
    rfl
  · rw [if_pos ⟨rfl, c⟩, if_neg c]
    rfl
theorem rSee_fq {S T : List Nat} {R' : RfT} {ow : Bool} (f : Fq S T R R') (hT : ∀ k, k ∈ [6, 8, 17, 24, 28, 32, 36, 37, 38, 39, 40] → k ∉ T) : rSee R' ow = rSee R ow := by
  funext b
  unfold rSee
  rw [f.2.1 6 (hT 6 (by decide)), f.2.1 8 (hT 8 (by decide)), f.2.1 17 (hT 17 (by decide)), f.2.1 24 (hT 24 (by decide)), f.2.1 28 (hT 28 (by decide)), f.2.1 32 (hT 32 (by decide)), f.2.1 36 (hT 36 (by decide)), f.2.1 37 (hT 37 (by decide)), f.2.1 38 (hT 38 (by decide)), f.2.1 39 (hT 39 (by decide)), f.2.1 40 (hT 40 (by decide))]
theorem rSee_ff {S T : List Nat} {R' : RfT} (f : Fq S T R R') (hT : ∀ k, k ∈ [6, 8, 17, 24, 28, 37, 38, 39, 40] → k ∉ T) : rSee R' false = rSee R false := by
  funext b
  unfold rSee
  rw [if_neg (nft (p := ¬ rA R' 36 b = -1)), if_neg (nft (p := ¬ rA R 36 b = -1)), f.2.1 6 (hT 6 (by decide)), f.2.1 8 (hT 8 (by decide)), f.2.1 17 (hT 17 (by decide)), f.2.1 24 (hT 24 (by decide)), f.2.1 28 (hT 28 (by decide)), f.2.1 37 (hT 37 (by decide)), f.2.1 38 (hT 38 (by decide)), f.2.1 39 (hT 39 (by decide)), f.2.1 40 (hT 40 (by decide))]
theorem RLg.at38 {L : List En} {tu : Int32} (h : RLg N R L tu) {b : Nat} (hb : b < 1024) : (rA R 38 b = -1 ∧ lVal L b = none) ∨ ∃ k, k < 40 ∧ rA R 38 b = nI k ∧ lVal L b = some (nr (fl (rA R 24) k)) := by
  obtain ⟨l1, l2, l3, l4, l5, l6⟩ := h
  rcases (l5 b hb).val with h | ⟨k, k1, k2, k3⟩
  · exact Or.inl h
  · exact Or.inr ⟨k, by omega, k2, by rw [k3, (l4 k k1).2.2]⟩
theorem lk_all {hw : Hw} {L : List En} {tu : Int32} {qs : List QC} (hr : RH N B hw R) (hk : WkO N R) (hq : RQu N R qs) (hl : RLg N R L tu) : lkA R := fun b hb => by
  obtain ⟨wf, w, h1, h2, ⟨q1, q2, q3, q4, q8, q9, q10⟩, -⟩ := hr
  obtain ⟨n, n1, n2, n3, n4, -⟩ := hk
  refine ⟨?_, ?_, ?_, ?_, q3 b hb⟩
  · rcases n4 b hb with h | ⟨k, k1, k2, -⟩
    · exact Or.inl h
    · exact Or.inr ⟨k, by omega, k2⟩
  · have h16 := hq.2.1
    rcases hq.2.2.2.2 b hb with h | ⟨k, k1, k2, -⟩
    · exact Or.inl h.1
    · exact Or.inr ⟨k, by omega, k2⟩
  · rcases hl.at38 hb with h | ⟨k, k1, k2, -⟩
    · exact Or.inl h.1
    · exact Or.inr ⟨k, k1, k2⟩
  · rcases q10 b hb with h | ⟨k, k1, k2, -⟩
    · exact Or.inl h
    · exact Or.inr ⟨k, by omega, k2⟩
theorem by_all {hw : Hw} {L : List En} {tu : Int32} {qs : List QC} (hr : RH N B hw R) (hk : WkO N R) (hq : RQu N R qs) (hl : RLg N R L tu) : rBy R := by
  obtain ⟨wf, w, h1, h2, ⟨q1, q2, q3, q4, q8, q9, q10⟩, -⟩ := hr
  obtain ⟨n, n1, n2, n3, n4, n5, -⟩ := hk
  exact ⟨n5, hq.2.2.2.1, hl.2.2.2.2.2, q4.2.2.1, q4.2.1, q4.1⟩
/-- what was before, as the model's -/
theorem z_bef {hw : Hw} {L : List En} {tu : Int32} {qs : List QC} (hN : N ≤ 1024) (hr : RH N B hw R) (hq : RQu N R qs) (hl : RLg N R L tu) {b : Nat} (hb : b < N) : rSee R false b = befV hw L qs b := by
  unfold rSee befV
  have h16 := hq.2.1
  rw [if_neg (fun z => absurd z.1 (by decide))]
  rcases hq.2.2.2.2 b (by omega) with ⟨a1, a2⟩ | ⟨k, k1, k2, k3⟩
  rotate_left
  · rw [if_pos (by rw [k2]; exact nI_m1 (by omega)), k3, k2, nI_clamp (by omega)]
    rfl
  rw [if_neg (fun z => z a1), a2]
  show _ = oSee (lVal L b) (hSee hw b)
  rcases hl.at38 (show b < 1024 by omega) with ⟨b1, b2⟩ | ⟨k, k1, k2, k3⟩
  rotate_left
  · rw [if_pos (by rw [k2]; exact nI_m1 (by omega)), k3, k2, nI_clamp (by omega)]
    rfl
  rw [if_neg (fun z => z b1), b2]
  show _ = hSee hw b
  obtain ⟨wf, w, h1, h2, h3, -⟩ := hr
  rcases h2.2.2.1 b hb with ⟨c1, c2⟩ | ⟨k, q, k1, k2, k3, k4, k5⟩
  rotate_left
  · have := h3.2.2.2.2.1.2.2.2.2
    have h64 := h3.2.2.2.2.1.2.2.1
    rw [if_pos (by rw [k2]; exact nI_m1 (by omega)), hSee_s k5, k2, nI_clamp (by omega)]
    rfl
  rw [if_neg (fun z => z c1), hSee_n c2, RG.read h1 hN hb]
  by_cases c : rA R 40 b = -1
  · rw [if_neg (fun z => z c), if_pos c]
    rfl
  · rw [if_pos c, if_neg c]
    rfl
theorem WkO.room (h : WkO N R) (hN : N ≤ 1024) {b : Nat} (hb : b < N) (h36 : rA R 36 b = -1) : ∃ n, n < N ∧ rS R 33 = nI n := by
  obtain ⟨n, n1, n2, n3, n4, -⟩ := h
  refine ⟨n, ?_, n2⟩
  have key : ∀ i, i < n → (rA R 30 i).toNatClampNeg < N ∧ rA R 36 (rA R 30 i).toNatClampNeg = nI i := fun i hi => by
    obtain ⟨t, t1, t2, t3⟩ := n3 i hi
    rw [t2, nI_clamp (by omega)]
    exact ⟨t1, t3⟩
  have := pigeon N (n + 1) (fun i => if i < n then (rA R 30 i).toNatClampNeg else b) (fun i hi => by
    show (if i < n then (rA R 30 i).toNatClampNeg else b) < N
    by_cases c : i < n
    · rw [if_pos c]
      exact (key i c).1
    · rw [if_neg c]
      exact hb) (fun i j hi hj e => by
    have e : (if i < n then (rA R 30 i).toNatClampNeg else b) = (if j < n then (rA R 30 j).toNatClampNeg else b) := e
    by_cases c : i < n
    · rw [if_pos c] at e
      by_cases c2 : j < n
      · rw [if_pos c2] at e
        have q := (key i c).2
        rw [e, (key j c2).2] at q
        exact (nI_inj (by omega) (by omega) q).symm
      · rw [if_neg c2] at e
        have q := (key i c).2
        rw [e, h36] at q
        exact absurd q.symm (nI_m1 (by omega))
    · rw [if_neg c] at e
      by_cases c2 : j < n
      · rw [if_pos c2] at e
        have q := (key j c2).2
        rw [← e, h36] at q
        exact absurd q.symm (nI_m1 (by omega))
      · omega)
  omega
theorem WkO.new {R' : RfT} (h : WkO N R) (hN : N ≤ 1024) {n b : Nat} {f : Int32} {x : Rw} (hn : n < N) (h33 : rS R 33 = nI n) (hb : b < N) (h36 : rA R 36 b = -1) (e36 : rA R' 36 = upd (rA R 36) b (nI n)) (e30 : rA R' 30 = upd (rA R 30) n (nI b)) (e31 : rA R' 31 = upd (rA R 31) n f) (hf : f = 0 ∨ f = 1) (e32 : ∀ j, j ≠ n → nr (fl (rA R' 32) j) = nr (fl (rA R 32) j)) (e32n : nr (fl (rA R' 32) n) = x) (hb32 : Byt (rA R' 32)) (e33 : rS R' 33 = nI (n + 1)) (hX : ByX R') : WkO N R' ∧ (∀ c, c < 1024 → wOw R' c = if c = b then some x else wOw R c) ∧ ∀ c, c < 1024 → wTk R' c = if c = b then decide (f = 1) else wTk R c := by
  obtain ⟨n', n1, n2, n3, n4, n5, n6⟩ := h
  have en : n' = n := nI_inj (by omega) (by omega) (n2.symm.trans h33)
  subst en
  have hnm : ∀ k, k < n' → (∀ t, rA R 30 k = nI t → t < N → t ≠ b) := fun k hk t ht htN z => by
    obtain ⟨u, u1, u2, u3⟩ := n3 k hk
    have : u = t := nI_inj (by omega) (by omega) (u2.symm.trans ht)
    rw [this, z, h36] at u3
    exact absurd u3.symm (nI_m1 (by omega))
  refine ⟨⟨n' + 1, by omega, e33, fun k hk => ?_, fun c hc => ?_, hb32, fun k hk => ?_, hX⟩, fun c hc => ?_, fun c hc => ?_⟩
  · by_cases ck : k = n'
    · rw [ck]
      exact ⟨b, hb, by rw [e30, pk_us], by rw [e36, pk_us]⟩
    · obtain ⟨t, t1, t2, t3⟩ := n3 k (by omega)
      exact ⟨t, t1, by rw [e30, pk_un ck]; exact t2, by rw [e36, pk_un (hnm k (by omega) t t2 t1)]; exact t3⟩
  · by_cases cc : c = b
    · rw [cc]
      exact Or.inr ⟨n', by omega, by rw [e36, pk_us], by rw [e30, pk_us]⟩
    · rw [e36, pk_un cc]
      rcases n4 c hc with z | ⟨k, k1, k2, k3⟩
      · exact Or.inl z
      · exact Or.inr ⟨k, by omega, k2, by rw [e30, pk_un (by omega)]; exact k3⟩
  · by_cases ck : k = n'
    · rw [ck, e31, pk_us]
      exact hf
    · rw [e31, pk_un ck]
      exact n6.1 k (by omega)
  · unfold wOw
    by_cases cc : c = b
    · rw [cc, e36, pk_us, if_neg (nI_m1 (by omega)), if_pos rfl, nI_clamp (by omega), e32n]
    · rw [e36, pk_un cc, if_neg cc]
      rcases n4 c hc with z | ⟨k, k1, k2, k3⟩
      · rw [if_pos z, if_pos z]
      · rw [k2, if_neg (nI_m1 (by omega)), if_neg (nI_m1 (by omega)), nI_clamp (by omega), e32 k (by omega)]
  · unfold wTk
    by_cases cc : c = b
    · rw [cc, e36, pk_us, if_pos rfl, nI_clamp (by omega), e31, pk_us]
      by_cases c1 : f = 1
      · rw [decide_eq_true ⟨nI_m1 (show n' < 2 ^ 31 by omega), c1⟩, decide_eq_true c1]
      · rw [decide_eq_false (fun z => c1 z.2), decide_eq_false c1]
    · rw [e36, pk_un cc, if_neg cc]
      rcases n4 c hc with z | ⟨k, k1, k2, k3⟩
      · rw [decide_eq_false (fun y => y.1 z), decide_eq_false (fun y => y.1 z)]
      · rw [k2, nI_clamp (by omega), e31, pk_un (show k ≠ n' by omega)]
theorem z_cpW_l {q : Nat} (hb : ∀ i, i < 128 → fits .byte (.int (rA R 43 i)) = true) (hq : q + 128 ≤ 131072) : ∀ (m k : Nat), k ≤ 128 → 128 - k < m → e_move_78_71_3 m (setA R 32 (va_cpy (rA R 43) (rA R 32) 0 q k)) (nI 0) (nI q) (nI k) = some (setA R 32 (va_cpy (rA R 43) (rA R 32) 0 q 128)) := by
  have hM : 128 < 2 ^ 31 := by decide
  have hM2 : 131072 < 2 ^ 31 := by decide
  intro m
  induction m with
  | zero => intro k _ h; exact absurd h (Nat.not_lt_zero _)
  | succ m ih =>
    intro k hk hm
    rw [e_move_78_71_3]
    by_cases c : k = 128
    · rw [c, if_pos (show (128 : Int32) ≤ nI 128 from nI_le (a := 128) (b := 128) (by decide) (by decide))]
    · have h1 : 0 + k < 128 := by omega
      have h2 : q + k < 131072 := by omega
      rw [if_neg (show ¬ (128 : Int32) ≤ nI k from nI_ge (a := k) (b := 128) (by omega) (by decide)), nI_add, ld_n h1 hM, nI_add, st_n h2 hM2, rA_n (show 43 ≠ 32 by decide), rA_e, nar8 (hb _ h1), cpy_s, setA_A, nI_1, ih (k + 1) (by omega) (by omega)]
theorem z_cpW {q : Nat} (hb : ∀ i, i < 128 → fits .byte (.int (rA R 43 i)) = true) (hq : q + 128 ≤ 131072) : e_move_78_71 R 0 (nI q) = some (setA R 32 (va_cpy (rA R 43) (rA R 32) 0 q 128)) := by
  have q := z_cpW_l (R := R) (q := q) hb hq fuL 0 (Nat.zero_le _) (by rw [fuL_4]; omega)
  rw [cpy_0, setA_id] at q
  rw [e_move_78_71]
  exact q
theorem Byt.cpyW {x y : Nat → Int32} {q : Nat} (hx : ∀ i, i < 128 → fits .byte (.int (x i)) = true) (hy : Byt y) : Byt (va_cpy x y 0 q 128) := fun i => by
  unfold va_cpy
  split
  · next h =>
    first
    | exact hx _ (by omega)
    | (refine hx _ ?_; simp only [] at h ⊢; omega)
  · exact hy i
/-- rows are bytes -/
theorem rSee_b {ow : Bool} {b : Nat} (hy : rBy R) : Byt (rSee R ow b) := by
  obtain ⟨y1, y2, y3, y4, y5, y6⟩ := hy
  have key : ∀ (g : Nat → Int32) (t : Nat), Byt g → Byt (nr (fun i => g (t + i))) := fun g t hg i => by
    unfold nr
    split
    · exact hg _
    · decide
  unfold rSee
  split
  · exact key _ _ y1
  · split
    · exact key _ _ y2
    · split
      · exact key _ _ y3
      · split
        · exact key _ _ y4
        · split
          · exact key _ _ y5
          · exact key _ _ y6
theorem z_work (hN : N ≤ 1024) (hl : lkA R) (hy : rBy R) (hw : WkO N R) {b : Nat} (hb : b < N) : ∃ k R', e_work R (nI b) = some (nI (128 * k), R') ∧ k < 1024 ∧ rA R' 36 b = nI k ∧ WkO N R' ∧ (∀ c, c < 1024 → wOw R' c = if c = b then some (rSee R true b) else wOw R c) ∧ (∀ c, c < 1024 → wTk R' c = wTk R c) ∧ Fn [33] [30, 31, 32, 36, 43] R R' := by
  rw [e_work, ld_n (show b < 1024 by omega) (by decide)]
  by_cases c : rA R 36 b = -1
  · obtain ⟨n, n1, n2⟩ := hw.room hN hb c
    obtain ⟨g, g1, g2⟩ := z_see (ow := true) (show b < 1024 by omega) (hl b (by omega)) hy
    have g1 : e_see R (nI b) 1 = some (setA R 43 g) := g1
    rw [if_pos c, bnd_o g1]
    have gb : ∀ i, i < 128 → fits .byte (.int (g i)) = true := fun i hi => by
      rw [g2 i hi]
      exact rSee_b hy i
    have s33 : rS (setA R 43 g) 33 = nI n := n2
    rw [s33, st_n (show b < 1024 by omega) (by decide)]
    generalize hR2 : setA (setA R 43 g) 36 (upd (rA (setA R 43 g) 36) b (nI n)) = R2
    have r33 : rS R2 33 = nI n := by
      rw [← hR2]
      exact n2
    rw [r33, st_n (show n < 1024 by omega) (by decide)]
    generalize hR3 : setA R2 30 (upd (rA R2 30) n (nI b)) = R3
    have r33 : rS R3 33 = nI n := by
      rw [← hR3]
      exact r33
    rw [r33, st_n (show n < 1024 by omega) (by decide), show vp_nar .boolean (0 : Int32) = 0 by decide]
    generalize hR4 : setA R3 31 (upd (rA R3 31) n 0) = R4
    have r33 : rS R4 33 = nI n := by
      rw [← hR4]
      exact r33
    have e43 : rA R4 43 = g := by
      rw [← hR4, ← hR3, ← hR2]
      rfl
    have e32 : rA R4 32 = rA R 32 := by
      rw [← hR4, ← hR3, ← hR2]
      rfl
    have cp := z_cpW (R := R4) (q := 128 * n) (by rw [e43]; exact gb) (by omega)
    rw [r33, show (128 : Int32) = nI 128 from rfl, pk_mul, bnd_o cp, ptR]
    generalize hR5 : setA R4 32 _ = R5
    have r33 : rS R5 33 = nI n := by
      rw [← hR5]
      exact r33
    have s34 : rS (setS R5 33 (rS R5 33 + 1)) 33 = nI (n + 1) := by
      rw [show rS (setS R5 33 (rS R5 33 + 1)) 33 = rS R5 33 + 1 from pk_us (f := R5.1) (k := 33), r33, nI_1]
    rw [s34, i1_sub (show 1 ≤ n + 1 by omega), show n + 1 - 1 = n by omega, pk_mul]
    generalize hR6 : setS R5 33 (rS R5 33 + 1) = R6 at *
    have a36 : rA R6 36 = upd (rA R 36) b (nI n) := by
      rw [← hR6, ← hR5, ← hR4, ← hR3, ← hR2]
      rfl
    have a30 : rA R6 30 = upd (rA R 30) n (nI b) := by
      rw [← hR6, ← hR5, ← hR4, ← hR3, ← hR2]
      rfl
    have a31 : rA R6 31 = upd (rA R 31) n 0 := by
      rw [← hR6, ← hR5, ← hR4, ← hR3, ← hR2]
      rfl
    have a32 : rA R6 32 = va_cpy g (rA R 32) 0 (128 * n) 128 := by
      rw [← hR6, ← hR5, ← e43, ← e32]
      rfl
    have hf : Fn [33] [30, 31, 32, 36, 43] R R6 := by
      rw [← hR6, ← hR5, ← hR4, ← hR3, ← hR2]
      exact (((((Fn.a (by decide)).tr (Fn.a (by decide))).tr (Fn.a (by decide))).tr (Fn.a (by decide))).tr (Fn.a (by decide))).tr (Fn.s (by decide))
    obtain ⟨w1, w2, w3⟩ := hw.new (R' := R6) (x := rSee R true b) hN n1 n2 hb c a36 a30 a31 (Or.inl rfl) (fun j hj => by rw [a32]; exact fl_out hj) (by
      rw [a32, fl_in]
      refine (nr_eq (fun i hi => ?_)).trans (nr_eq (g := rSee R true b) (fun i _ => rfl) |>.trans ?_)
      · rw [Nat.zero_add]
        exact g2 i hi
      · unfold rSee nr
        funext i
        split
        · rfl
        · next hi =>
          split
          · exact (if_neg hi).symm
          · split
            · exact (if_neg hi).symm
            · split
              · exact (if_neg hi).symm
              · split
                · exact (if_neg hi).symm
                · split
                  · exact (if_neg hi).symm
                  · exact (if_neg hi).symm) (by rw [a32]; exact Byt.cpyW gb hw.choose_spec.2.2.2.2.1) s34 (hw.x.eq (fun k hk => hf.1.2.1 k (by revert hk; revert k; decide)))
    refine ⟨n, R6, rfl, by omega, by rw [a36, pk_us], w1, w2, fun c' hc' => ?_, hf⟩
    rw [w3 c' hc']
    by_cases cc : c' = b
    · rw [if_pos cc, cc]
      exact (show wTk R b = false from decide_eq_false (fun z => z.1 c)).symm ▸ rfl
    · rw [if_neg cc]
  · obtain ⟨n, n1, n2, n3, n4, n5, n6⟩ := id hw
    rcases n4 b (by omega) with z | ⟨k, k1, k2, k3⟩
    · exact absurd z c
    · rw [if_neg c, ld_n (show b < 1024 by omega) (by decide), k2, show (128 : Int32) = nI 128 from rfl, pk_mul]
      refine ⟨k, R, rfl, by omega, k2, hw, fun c' hc' => ?_, fun _ _ => rfl, Fn.rf⟩
      by_cases cc : c' = b
      · rw [if_pos cc, cc, rSee_t]
        unfold wOw
        rw [if_neg c]
        rfl
      · rw [if_neg cc]
end PVA
