/-! ===== pure: the lost ones go ===== -/
section PYL
variable {N B gr r u : Nat} {V W : Nat → Rw} {m m' : M5} {tk tk' : Nat → Bool} {A A' : MS} {D D' D2 : CfT} {R R' : RfT} {g : Bool} {hd hi hd' hi' : Nat → Nat} {tp : Nat → Int32} {tl : Nat} {ow : Nat → Int} {ex : Nat → Int32} {s0 : S3} {l : List Nat} {i k t : Nat}
/-- rows of inodes and of bits -/
def Lo18 (l : List Nat) : Prop := ∀ b, b ∈ l → 43 ≤ b ∧ b < 61
theorem w_goneK (hN1 : 61 ≤ N) (hN : N ≤ 1024) (h : WK N B gr r s0 l A D R m V tk (fun _ => 0)) (hV : WF N V) (hir : ir i) (hl : f1 V i 0 ≠ 0 ∧ f1 V i 1 = 0) : ∃ A' D' R' m' W tk', d_X7_goes N A D (nI i) = some (A', D') ∧ e_removeInode R (nI i) = some R' ∧ WK N B gr r s0 ([43, 44, homeM i] ++ l) A' D' R' m' W tk' (fun _ => 0) ∧ gA A' = gA A ∧ Dt D D' ∧ Fn [33] [30, 31, 32, 35, 36, 43] R R' ∧ WF N W ∧ (∀ j, ir j → j ≠ i → f1 W j 0 = f1 V j 0 ∧ f1 W j 1 = f1 V j 1) ∧ f1 W i 0 = 0 := by
  have q := hV.2.2.2.2.2.2.2.1 i hir
  have hi1 : i ≠ 1 := fun z => by rw [if_pos z] at q; omega
  rw [if_neg hi1] at q
  have hem : f1 V i 0 = 2 → ∀ s, s < szM V i / 16 → sln V i s = 0 := fun z s hs => hV.2.2.2.2.2.2.2.2.2.2 i s hir z hl.2 hs
  obtain ⟨A', D', R', m', W, tk', a1, a2, a3, a4, a5, a6, a7, a8, -, a10, a11⟩ := w_goes hN1 hN h hir hi1 (by omega) hem
  have i1 : ir 1 := ⟨Nat.le_refl _, by decide⟩
  have e0 : (fun j => if j = i then (0 : Int) else 0) = fun _ => 0 := by
    funext j
    split <;> rfl
  rw [e0] at a3
  refine ⟨A', D', R', m', W, tk', a1, a2, a3, a4, a5, a6, ?_, fun j hj hne => ⟨(a7 j hj hne).1, (a7 j hj hne).2.1⟩, a10⟩
  refine a3.2.1.wf2 (fun j hj => rfl) (fun j hj kj hne => ?_) ?_ (fun e s' he ke le hs' => ?_)
  · by_cases c : j = i
    · rw [c, a11]; decide
    · rw [(a7 j hj c).1] at kj
      rw [(a7 j hj c).2.1]
      exact hV.2.2.2.2.2.2.2.2.1 j hj kj hne
  · rw [(a7 1 i1 (fun z => hi1 z.symm)).2.1]
    exact hV.l1
  · by_cases c : e = i
    · rw [c, a10] at ke
      exact absurd ke (by decide)
    · rw [(a7 e he c).1] at ke
      rw [(a7 e he c).2.1] at le
      rw [(a7 e he c).2.2.1] at hs'
      rw [a8 e s' he c ke hs']
      exact hV.2.2.2.2.2.2.2.2.2.2 e s' he ke le hs'
theorem held_fq {S T : List Nat} (f : Fq S T R R') (h52 : 52 ∉ T) (h53 : 53 ∉ T) (x : Int32) : e_isHeld R' x = e_isHeld R x := by
  have go : ∀ (n : Nat) (a b c : Int32), e_handlesOn_4 R' n a b c = e_handlesOn_4 R n a b c := by
    intro n
    induction n with
    | zero => intro a b c; rfl
    | succ n ih =>
      intro a b c
      rw [e_handlesOn_4, e_handlesOn_4, f.2.1 53 h53]
      simp only [ih]
  rw [e_isHeld, e_isHeld, f.2.1 52 h52]
  unfold e_handlesOn
  simp only [go]
theorem times_dt {W W2 : Nat → Rw} (h33 : cA D' 33 = cA D 33) (h34 : cA D' 34 = cA D 34) (x : Int32) : d_X5_times N W2 D' x = d_X5_times N W D x := by
  have go : ∀ (n : Nat) (a b c : Int32), d_X5_handlesOn_4 N W2 D' n a b c = d_X5_handlesOn_4 N W D n a b c := by
    intro n
    induction n with
    | zero => intro a b c; rfl
    | succ n ih =>
      intro a b c
      rw [d_X5_handlesOn_4, d_X5_handlesOn_4, h34]
      simp only [ih]
  rw [d_X5_times, d_X5_times, h33]
  unfold d_X5_handlesOn
  simp only [go]
theorem lost_l {x1 : Int32} {T : Nat → Nat} {D0 : CfT} {R0 : RfT} (hN1 : 61 ≤ N) (hN : N ≤ 1024) (hC : x1 = 0 → ∀ i, ir i → T i < 2 ^ 31 ∧ d_X5_times N (fun _ _ => 0) D0 (nI i) = some (nI (T i))) (hC2 : x1 ≠ 0 → ∀ i, ir i → T i = 0) (hR : ∀ i, ir i → e_isHeld R0 (nI i) = some (bI (decide (T i ≠ 0)))) : ∀ (n1 n2 x : Nat) (A : MS) (D : CfT) (R : RfT) (m : M5) (V : Nat → Rw) (tk : Nat → Bool) (l : List Nat), 1 ≤ x → x ≤ 65 → 65 - x < n1 → 65 - x < n2 → WK N B gr r s0 l A D R m V tk (fun _ => 0) → WF N V → Lo18 l → Dt D0 D → Fn [33] [30, 31, 32, 35, 36, 43] R0 R → ∃ A' D' R' m' W tk' l', d_X11_commitLost_2 N B gr n1 A D x1 (nI x) = bndF (d_X10_finish N B gr A' D') (fun v19 A19 D19 => some (.inl ((), A19, D19))) ∧ e_allLostGo_2 n2 R (nI x) = bnd (e_commit R') (fun R185 => some R185) ∧ WK N B gr r s0 l' A' D' R' m' W tk' (fun _ => 0) ∧ WF N W ∧ Lo18 l' ∧ gA A' = gA A ∧ Dt D D' ∧ Fn [33] [30, 31, 32, 35, 36, 43] R R' ∧ ((∀ j, ir j → f1 W j 0 = f1 V j 0 ∨ T j = 0) ∧ (∀ j, ir j → j < x → f1 W j 0 = f1 V j 0 ∧ f1 W j 1 = f1 V j 1) ∧ ∀ j, ir j → x ≤ j → f1 W j 0 ≠ 0 → f1 W j 1 = 0 → T j ≠ 0) := by
  intro n1
  induction n1 with
  | zero => intro n2 x A D R m V tk l _ _ hh; exact absurd hh (Nat.not_lt_zero _)
  | succ n1 ih =>
    intro n2 x A D R m V tk l hx1 hx h1 h2 hk hV hl hd hr
    obtain ⟨n2, rfl⟩ : ∃ y, n2 = y + 1 := ⟨n2 - 1, by omega⟩
    rw [d_X11_commitLost_2, e_allLostGo_2]
    by_cases c : x = 65
    · have z : (64 : Int32) < nI x := by rw [c]; decide
      rw [if_pos z, if_pos z]
      exact ⟨A, D, R, m, V, tk, l, rfl, rfl, hk, hV, hl, rfl, Dt.rf, Fn.rf, fun _ _ => Or.inl rfl, fun _ _ _ => ⟨rfl, rfl⟩, fun j hj hxj => by have := hj.2; omega⟩
    · have z : ¬ (64 : Int32) < nI x := nI_nlt (a := 64) (by omega) (by decide)
      have hir : ir x := ⟨hx1, by omega⟩
      have hh := ir_home hir
      obtain ⟨l1, l2⟩ := j_lost (D2 := D) hN1 hN hk.1 hir
      have hRx : e_isHeld R (nI x) = some (bI (decide (T x ≠ 0))) := by rw [held_fq hr.1 (by decide) (by decide)]; exact hR x hir
      rw [if_neg z, if_neg z, bnd_o l1, bnd_o l2, nI_1]
      have skip : (f1 V x 0 ≠ 0 → f1 V x 1 = 0 → T x ≠ 0) → ∃ A' D' R' m' W tk' l', d_X11_commitLost_2 N B gr n1 A D x1 (nI (x + 1)) = bndF (d_X10_finish N B gr A' D') (fun v19 A19 D19 => some (.inl ((), A19, D19))) ∧ e_allLostGo_2 n2 R (nI (x + 1)) = bnd (e_commit R') (fun R185 => some R185) ∧ WK N B gr r s0 l' A' D' R' m' W tk' (fun _ => 0) ∧ WF N W ∧ Lo18 l' ∧ gA A' = gA A ∧ Dt D D' ∧ Fn [33] [30, 31, 32, 35, 36, 43] R R' ∧ ((∀ j, ir j → f1 W j 0 = f1 V j 0 ∨ T j = 0) ∧ (∀ j, ir j → j < x → f1 W j 0 = f1 V j 0 ∧ f1 W j 1 = f1 V j 1) ∧ ∀ j, ir j → x ≤ j → f1 W j 0 ≠ 0 → f1 W j 1 = 0 → T j ≠ 0) := fun hne => by
        obtain ⟨A', D', R', m', W, tk', l', b1, b2, b3, b4, b5, b6, b7, b8, b9, b10, b11⟩ := ih n2 (x + 1) A D R m V tk l (by omega) (by omega) (by omega) (by omega) hk hV hl hd hr
        exact ⟨A', D', R', m', W, tk', l', b1, b2, b3, b4, b5, b6, b7, b8, b9, fun j hj hjx => b10 j hj (by omega), fun j hj hxj h0 l0 => by
          by_cases cj : j = x
          · rw [cj] at h0 l0 ⊢
            rw [(b10 x hir (by omega)).1] at h0
            rw [(b10 x hir (by omega)).2] at l0
            exact hne h0 l0
          · exact b11 j hj (by omega) h0 l0⟩
      by_cases cl : f1 V x 0 ≠ 0 ∧ f1 V x 1 = 0
      · rw [decide_eq_true cl, if_neg (show ¬ bI true = 0 by decide), if_neg (show ¬ bI true = 0 by decide), bnd_o hRx]
        have goes : T x = 0 → ∃ A' D' R' m' W tk' l', bnd2 (d_X7_goes N A D (nI x)) (fun A23 D23 => d_X11_commitLost_2 N B gr n1 A23 D23 x1 (nI (x + 1))) = bndF (d_X10_finish N B gr A' D') (fun v19 A19 D19 => some (.inl ((), A19, D19))) ∧ bnd (e_removeInode R (nI x)) (fun R188 => e_allLostGo_2 n2 R188 (nI (x + 1))) = bnd (e_commit R') (fun R185 => some R185) ∧ WK N B gr r s0 l' A' D' R' m' W tk' (fun _ => 0) ∧ WF N W ∧ Lo18 l' ∧ gA A' = gA A ∧ Dt D D' ∧ Fn [33] [30, 31, 32, 35, 36, 43] R R' ∧ ((∀ j, ir j → f1 W j 0 = f1 V j 0 ∨ T j = 0) ∧ (∀ j, ir j → j < x → f1 W j 0 = f1 V j 0 ∧ f1 W j 1 = f1 V j 1) ∧ ∀ j, ir j → x ≤ j → f1 W j 0 ≠ 0 → f1 W j 1 = 0 → T j ≠ 0) := fun ht0 => by
          obtain ⟨A1, D1, R1, m1, W1, tk1, a1, a2, a3, a4, a5, a6, a7, a8, a9⟩ := w_goneK hN1 hN hk hV hir cl
          obtain ⟨A', D', R', m', W, tk', l', b1, b2, b3, b4, b5, b6, b7, b8, b9, b10, b11⟩ := ih n2 (x + 1) A1 D1 R1 m1 W1 tk1 _ (by omega) (by omega) (by omega) (by omega) a3 a7 (fun b hb => by
            rcases List.mem_append.mp hb with q | q
            · have q : b = 43 ∨ b = 44 ∨ b = homeM x := by simpa using q
              rcases q with q | q | q
              · omega
              · omega
              · omega
            · exact hl b q) (hd.tr a5) (hr.tr a6)
          refine ⟨A', D', R', m', W, tk', l', by rw [bnd2_o a1]; exact b1, by rw [bnd_o a2]; exact b2, b3, b4, b5, b6.trans a4, a5.tr b7, a6.tr b8, fun j hj => ?_, fun j hj hjx => ⟨(b10 j hj (by omega)).1.trans (a8 j hj (by omega)).1, (b10 j hj (by omega)).2.trans (a8 j hj (by omega)).2⟩, fun j hj hxj h0 l0 => ?_⟩
          by_cases cj : j = x
          · exact Or.inr (by rw [cj]; exact ht0)
          · exact (b9 j hj).imp (fun q => q.trans (a8 j hj cj).1) id
          · by_cases cj : j = x
            · rw [cj, (b10 x hir (by omega)).1] at h0
              exact absurd a9 h0
            · exact b11 j hj (by omega) h0 l0
        by_cases cx : x1 = 0
        · obtain ⟨q1, q2⟩ := hC cx x hir
          rw [if_pos cx, bnd_o (show d_X5_times N (vA A) D (nI x) = some (nI (T x)) from (times_dt (hd.2 33 (by decide)) (hd.2 34 (by decide)) _).trans q2)]
          by_cases ct : T x = 0
          · rw [if_pos (show nI (T x) = 0 by rw [ct]; rfl), decide_eq_false (fun z => z ct), if_pos (show bI false = 0 from rfl)]
            exact goes ct
          · rw [if_neg (nI_ne0 (by omega) q1), decide_eq_true ct, if_neg (show ¬ bI true = 0 by decide)]
            exact skip (fun _ _ => ct)
        · have ct := hC2 cx x hir
          rw [if_neg cx, decide_eq_false (fun z => z ct), if_pos (show bI false = 0 from rfl)]
          exact goes ct
      · rw [decide_eq_false cl, if_pos (show bI false = 0 from rfl), if_pos (show bI false = 0 from rfl)]
        exact skip (fun h0 l0 => absurd ⟨h0, l0⟩ cl)
end PYL
