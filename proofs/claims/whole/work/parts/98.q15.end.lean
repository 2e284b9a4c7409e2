/-! ===== pure: end ===== -/
section PYO
variable {N B gr r u : Nat} {V W : Nat → Rw} {m m' : M5} {tk tk' : Nat → Bool} {A A' : MS} {D D' D2 : CfT} {R R' : RfT} {g : Bool} {hd hi hd' hi' : Nat → Nat} {tp : Nat → Int32} {tl : Nat} {ow : Nat → Int} {ex : Nat → Int32} {s0 : S3} {l : List Nat} {i k t : Nat}
theorem rsC_eq {f h : Nat → Nat} {v : Nat} : ∀ n, (∀ b, b < n → (f b = v ↔ h b = v)) → rsC f v n = rsC h v n
  | 0, _ => rfl
  | n + 1, e => by
    show rsC f v n + (if f n = v then 1 else 0) = rsC h v n + (if h n = v then 1 else 0)
    rw [rsC_eq n (fun b hb => e b (by omega))]
    by_cases c : f n = v
    · rw [if_pos c, if_pos ((e n (by omega)).mp c)]
    · rw [if_neg c, if_neg (fun z => c ((e n (by omega)).mpr z))]
theorem rsC_one {f h : Nat → Nat} {v t : Nat} (hf : ¬ f t = v) (hh : h t = v) (e : ∀ b, b ≠ t → (f b = v ↔ h b = v)) : ∀ n, t < n → rsC h v n = rsC f v n + 1
  | 0, ht => absurd ht (Nat.not_lt_zero _)
  | n + 1, ht => by
    show rsC h v n + (if h n = v then 1 else 0) = rsC f v n + (if f n = v then 1 else 0) + 1
    by_cases c : t = n
    · rw [← c, if_pos hh, if_neg hf, rsC_eq t (fun b hb => (e b (by omega)).symm)]
    · rw [rsC_one hf hh e n (by omega)]
      by_cases c2 : f n = v
      · rw [if_pos c2, if_pos ((e n (by omega)).mp c2)]
      · rw [if_neg c2, if_neg (fun z => c2 ((e n (by omega)).mpr z))]
/-- changed blocks among the first k works -/
noncomputable def wcQ (tc : Nat → Nat) (Q : QC) (k b : Nat) : Nat := @ite _ (∃ i, i < k ∧ tc i = b ∧ Q b ≠ none) (Classical.propDecidable _) 1 0
theorem wc_1 {tc : Nat → Nat} {Q : QC} {k b : Nat} : wcQ tc Q k b = 1 ↔ ∃ i, i < k ∧ tc i = b ∧ Q b ≠ none := by
  unfold wcQ
  by_cases c : ∃ i, i < k ∧ tc i = b ∧ Q b ≠ none
  · rw [if_pos c]
    exact ⟨fun _ => c, fun _ => rfl⟩
  · rw [if_neg c]
    exact ⟨fun z => absurd z (by decide), fun z => absurd z c⟩
theorem z_changed (hN1 : 61 ≤ N) (hN : N ≤ 1024) (h : RY N B gr R m V tk) : ∃ x, e_changed R = some (nI (rsC (isS (chQ N m V tk)) 1 N), setA R 43 x) := by
  obtain ⟨hx, hu, ho⟩ := id h
  obtain ⟨⟨h1, h2, h3, h4, h5, h6, h7, h8⟩, hv⟩ := id hx
  obtain ⟨n, n1, n2, n3, n4, n5, n6⟩ := id h5
  let tc : Nat → Nat := fun i => (rA R 30 i).toNatClampNeg
  have htc : ∀ k, k < n → tc k < N ∧ rA R 30 k = nI (tc k) ∧ rA R 36 (tc k) = nI k := fun k hk => by
    obtain ⟨u, u1, u2, u3⟩ := n3 k hk
    have e : tc k = u := by
      show (rA R 30 k).toNatClampNeg = u
      rw [u2, nI_clamp (by omega)]
    rw [e]
    exact ⟨u1, u2, u3⟩
  have inj : ∀ i j, i < n → j < n → tc i = tc j → i = j := fun i j hi hj e => by
    have a := (htc i hi).2.2
    rw [e, (htc j hj).2.2] at a
    exact (nI_inj (by omega) (by omega) a).symm
  have own : ∀ k, k < n → ∀ t, rA R 30 k = nI t → t < N → wOw R t = some (nr (fl (rA R 32) k)) ∧ (wTk R t = true ↔ rA R 31 k = 1) := fun k hk t ht htN => by
    obtain ⟨u, u1, u2, u3⟩ := n3 k hk
    have : u = t := nI_inj (by omega) (by omega) (u2.symm.trans ht)
    rw [this] at u3
    unfold wOw wTk
    rw [u3, if_neg (nI_m1 (by omega)), nI_clamp (by omega)]
    exact ⟨rfl, fun z => (of_decide_eq_true z).2, fun z => decide_eq_true ⟨nI_m1 (by omega), z⟩⟩
  have hQ : ∀ k, k < n → (chI R k (rSee R false (tc k)) ↔ chQ N m V tk (tc k) ≠ none) := fun k hk => by
    obtain ⟨t1, t2, t3⟩ := htc k hk
    obtain ⟨o1, o2⟩ := own k hk _ t2 t1
    obtain ⟨u1, u2, u3⟩ := hu (tc k) (by omega) (by rw [o1]; exact Option.some_ne_none _)
    obtain ⟨w1, w2⟩ := hx.own hN u1 u2
    rw [o1] at w1
    have w1 : nr (fl (rA R 32) k) = V (tc k) := w1
    rw [chQ_iff, hx.1.bef hN u2]
    unfold chI
    rw [w1, ← w2, o2]
    exact ⟨fun z => ⟨u1, u2, z⟩, fun z => z.2.2⟩
  have lp : ∀ (f k : Nat) (x : Nat → Int32), k ≤ n → n - k < f → ∃ x', e_changed_4 f (setA R 43 x) (nI (rsC (wcQ tc (chQ N m V tk) k) 1 N)) (nI k) = some (nI (rsC (wcQ tc (chQ N m V tk) n) 1 N), setA R 43 x') := by
    intro f
    induction f with
    | zero => intro k x _ hf; exact absurd hf (Nat.not_lt_zero _)
    | succ f ih =>
      intro k x hk hf
      rw [e_changed_4, show rS (setA R 43 x) 33 = nI n from n2]
      by_cases c : k = n
      · rw [c, if_pos (nI_le (Nat.le_refl _) (by omega))]
        exact ⟨x, rfl⟩
      · obtain ⟨t1, t2, t3⟩ := htc k (by omega)
        have y : RY N B gr (setA R 43 x) m V tk := h.a43
        obtain ⟨rr, x2, e1, e2⟩ := z_isCh (R := setA R 43 x) (k := k) (t := tc k) (by omega) (by omega) t2 (n6.1 k (by omega)) y.1.1.lk y.1.1.by
        have e2 : (rr = true) ↔ chI R k (rSee R false (tc k)) := e2
        rw [if_neg (nI_ge (by omega) (by omega)), bnd2_o e1, setA_A, nI_1]
        cases rr with
        | false =>
          have hn : chQ N m V tk (tc k) = none := Classical.byContradiction (fun z => by cases e2.mpr ((hQ k (by omega)).mpr z))
          have ee : rsC (wcQ tc (chQ N m V tk) (k + 1)) 1 N = rsC (wcQ tc (chQ N m V tk) k) 1 N := rsC_eq N (fun b _ => by
            rw [wc_1, wc_1]
            constructor
            · rintro ⟨i, i1, i2, i3⟩
              refine ⟨i, ?_, i2, i3⟩
              by_cases ci : i = k
              · rw [ci] at i2
                rw [← i2] at i3
                exact absurd hn i3
              · omega
            · rintro ⟨i, i1, i2, i3⟩
              exact ⟨i, by omega, i2, i3⟩)
          rw [if_pos (show bI false = 0 from rfl), ← ee]
          exact ih (k + 1) x2 (by omega) (by omega)
        | true =>
          have hn : chQ N m V tk (tc k) ≠ none := (hQ k (by omega)).mp (e2.mp rfl)
          have ee : rsC (wcQ tc (chQ N m V tk) (k + 1)) 1 N = rsC (wcQ tc (chQ N m V tk) k) 1 N + 1 := rsC_one (t := tc k) (fun z => by
            obtain ⟨i, i1, i2, -⟩ := wc_1.mp z
            have := inj i k (by omega) (by omega) i2
            omega) (wc_1.mpr ⟨k, by omega, rfl, hn⟩) (fun b hb => by
            rw [wc_1, wc_1]
            constructor
            · rintro ⟨i, i1, i2, i3⟩
              exact ⟨i, by omega, i2, i3⟩
            · rintro ⟨i, i1, i2, i3⟩
              refine ⟨i, ?_, i2, i3⟩
              by_cases ci : i = k
              · rw [ci] at i2
                exact absurd i2.symm hb
              · omega) N t1
          rw [if_neg (show ¬ bI true = 0 by decide), nI_1, ← ee]
          exact ih (k + 1) x2 (by omega) (by omega)
  obtain ⟨x', e⟩ := lp fuL 0 (rA R 43) (Nat.zero_le _) (by rw [fuL_4]; omega)
  have e0 : rsC (wcQ tc (chQ N m V tk) 0) 1 N = 0 := by
    have : rsC (wcQ tc (chQ N m V tk) 0) 1 N = rsC (fun _ => 0) 1 N := rsC_eq N (fun b _ => by
      rw [wc_1]
      exact ⟨fun ⟨i, i1, _⟩ => absurd i1 (Nat.not_lt_zero _), fun z => absurd z (by decide)⟩)
    rw [this]
    have z : ∀ k, rsC (fun _ => 0) 1 k = 0 := by
      intro k
      induction k with
      | zero => rfl
      | succ k ih =>
        show rsC (fun _ => 0) 1 k + (if (0 : Nat) = 1 then 1 else 0) = 0
        rw [ih]
        rfl
    exact z N
  have en : rsC (wcQ tc (chQ N m V tk) n) 1 N = rsC (isS (chQ N m V tk)) 1 N := rsC_eq N (fun b hb => by
    rw [wc_1, isS_1]
    refine ⟨fun ⟨i, i1, i2, i3⟩ => i3, fun c => ?_⟩
    obtain ⟨c1, c2, c3⟩ := chQ_iff.mp c
    obtain ⟨w1, w2⟩ := hx.own hN c1 c2
    have hne : wOw R b ≠ none := fun z => by
      rw [z] at w1
      have w1 : befM m b = V b := w1
      rcases c3 with y | y
      · have e36 : rA R 36 b = -1 := by
          unfold wOw at z
          by_cases c9 : rA R 36 b = -1
          · exact c9
          · rw [if_neg c9] at z
            cases z
        rw [← w2, show wTk R b = false from decide_eq_false (fun y => y.1 e36)] at y
        cases y
      · exact y w1.symm
    rcases n4 b (by omega) with z | ⟨i, i1, i2, i3⟩
    · exact absurd (if_pos z) hne
    · refine ⟨i, i1, ?_, c⟩
      have := (htc i i1).2.1
      rw [i3] at this
      have := nI_inj (by omega) (by have := (htc i i1).1; omega) this
      exact this.symm)
  rw [e0, en, setA_id] at e
  exact ⟨x', e⟩
theorem ch_list {Q : QC} : ∀ n, ∃ l' : List Nat, l'.length = rsC (isS Q) 1 n ∧ ∀ b, b < n → Q b ≠ none → b ∈ l'
  | 0 => ⟨[], rfl, fun b hb => absurd hb (Nat.not_lt_zero _)⟩
  | n + 1 => by
    obtain ⟨l', l1, l2⟩ := ch_list (Q := Q) n
    by_cases c : Q n ≠ none
    · refine ⟨n :: l', ?_, fun b hb hq => ?_⟩
      · show l'.length + 1 = rsC (isS Q) 1 n + (if isS Q n = 1 then 1 else 0)
        rw [if_pos (isS_1.mpr c), l1]
      · by_cases e : b = n
        · rw [e]
          exact List.mem_cons_self ..
        · exact List.mem_cons_of_mem _ (l2 b (by omega) hq)
    · refine ⟨l', ?_, fun b hb hq => ?_⟩
      · show l'.length = rsC (isS Q) 1 n + (if isS Q n = 1 then 1 else 0)
        rw [if_neg (fun z => c (isS_1.mp z)), l1]
        rfl
      · by_cases e : b = n
        · rw [e] at hq
          exact absurd hq c
        · exact l2 b (by omega) hq
theorem r_end (hN1 : 61 ≤ N) (hN : N ≤ 1024) (hgr : 1 ≤ gr) (hgr2 : gr ≤ 16) (hu : u + 4200 < 2 ^ 31) (h : IM N B gr u g A D R m V tk hd hi tp tl) (hL : LH V hd hi := by assumption) : Ret N B gr (u + 100) ex (d_X11_end N B gr A D) (e_end R) := by
  obtain ⟨n1, R1, n2, h1, ot, t0, -, -⟩ := h.nm hN
  rw [d_X11_end, bndF_l n1, e_end, bnd2_o n2, i00]
  have hg := h1.2.2.2.2.2.2.2.2.1
  have h34 := h1.2.2.2.2.2.2.2.1.2.2.2.2.2.2.1
  cases g with
  | false =>
    rw [if_pos (by unfold gpI; rw [show A.2.2.2.2.2.2.2 = false from hg]; rfl), if_pos (by rw [h34]; rfl)]
    exact Ret.ok h1 (by omega) t0 rfl rfl
  | true =>
    obtain ⟨s, A1, D1, e1, x1, g1, t1, s1, d1, s2, o1, u1⟩ := c_trim (ch := true) hN1 hN h1.1.1 (h1.1.nv hN)
    have o1 := o1 rfl
    have e1 : d_X10_trim N A D 1 = some (nI s, A1, D1) := e1
    obtain ⟨x, e2⟩ := z_changed hN1 hN h1.1.2
    rw [o1] at s1
    rw [← s1] at e2
    have ow1 : OwS A1 (OkP m V) := ow_trim e1 ot.1
    have h2 : IM N B gr u true A1 D1 (setA R1 43 x) m V tk hd hi tp tl := by
      obtain ⟨a1, a2, a3, a4, a5, a6, a7, a8, a9, a10⟩ := h1.a43 (x := x)
      have kp : Kep D D1 (setA R1 43 x) (setA R1 43 x) := Kep.of t1 (Fn.rf (S := []) (T := [])).1 (by decide) (by decide)
      exact ⟨⟨x1, a1.2⟩, a2, a3, fun z => ⟨ow1, (a4 z).2⟩, a5, kp.hr a6, a7, kp.fx a8 a8.2.2.2.2.2.2.2, g1.trans hg, (fun z => by cases z), u1, by rw [show cA D1 42 = cA D 42 from t1.2 42 (by decide)]; exact a10.2.2⟩
    have ot2 : OwT A1 (setA R1 43 x) m V := h2.2.2.2.1 rfl
    rw [if_neg (by unfold gpI; rw [show A.2.2.2.2.2.2.2 = true from hg]; decide), if_neg (by rw [h34]; decide), bnd3_o e1, bnd2_o e2]
    by_cases c : s ≤ 40
    · rw [if_pos (show nI s ≤ (40 : Int32) from nI_le (b := 40) c (by decide)), if_pos (show nI s ≤ (40 : Int32) from nI_le (b := 40) c (by decide))]
      obtain ⟨b1, b2, b3, b4, b5, b6, b7, b8⟩ := h2.2.2.2.2.2.2.2.1
      have f : Fn [34] [] (setA R1 43 x) (setS (setA R1 43 x) 34 0) := Fn.s (by decide)
      have w : WK N B gr (rmM N m V) (m, V, tk) [] (aGp A1 false) D1 (setS (setA R1 43 x) 34 0) m V tk (fun _ => 0) := ⟨⟨h2.1.1, h2.1.2.fr f (by decide) (by decide)⟩, h2.2.1.s, h2.bud hN1 hu, ⟨ot2.1, ot2.2.fr f (by decide)⟩, St.rf, fun _ _ _ hc => Or.inl hc⟩
      refine w_ret (g := false) hN1 hN hgr hgr2 hu w h2.2.2.1 h2.2.2.2.2.1 (fun _ => ?_) h2.2.1 h2.2.2.2.2.2.2.2.2.2.2.2 rfl (h2.2.2.2.2.2.1) h2.2.2.2.2.2.2.1 ⟨b1, b2, by rw [f.1.1 5 (by decide)]; exact b3, b4, b5, by rw [f.1.1 21 (by decide)]; exact b6, pk_us (f := (setA R1 43 x).1) (k := 34), b8⟩ (v := nI s) rfl rfl
      obtain ⟨l', l1, l2⟩ := ch_list (Q := chQ N m V tk) N
      exact ⟨l', by omega, fun b b1 b2 hc => l2 b b2 (chQ_iff.mpr ⟨b1, b2, hc⟩)⟩
    · rw [if_neg (show ¬ nI s ≤ (40 : Int32) from nI_ge (a := 40) (by omega) (by omega)), if_neg (show ¬ nI s ≤ (40 : Int32) from nI_ge (a := 40) (by omega) (by omega))]
      obtain ⟨A2, D2, R2, d1, d2, h3, -, ot3⟩ := h2.drop hN1 hN
      rw [bnd2_o d1, d2, bnd_a]
      exact h3.lost hN1 hN hgr hgr2 hu ot3 rfl rfl
end PYO
