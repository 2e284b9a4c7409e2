/-! ===== pure: the reference commits ===== -/
section PVG
variable {R : RfT} {N B gr : Nat}
theorem z_same_l {p : Nat} (hp : p + 128 ≤ 131072) : ∀ (m k : Nat) (b : Bool), k ≤ 128 → 128 - k < m → ((b = true) ↔ ∀ i, i < k → rA R 32 (p + i) = rA R 43 i) → ∃ r : Bool, e_same_71_78_6 R m (nI p) 0 (bI b) (nI k) = some (bI r) ∧ ((r = true) ↔ ∀ i, i < 128 → rA R 32 (p + i) = rA R 43 i) := by
  intro m
  induction m with
  | zero => intro k _ _ h; exact absurd h (Nat.not_lt_zero _)
  | succ m ih =>
    intro k b hk hm hb
    rw [e_same_71_78_6]
    by_cases c : k = 128
    · rw [c, if_pos (show (128 : Int32) ≤ nI 128 from nI_le (a := 128) (b := 128) (by decide) (by decide))]
      rw [c] at hb
      refine ⟨b, ?_, hb⟩
      cases b with
      | true => rfl
      | false => rfl
    · rw [if_neg (show ¬ (128 : Int32) ≤ nI k from nI_ge (a := k) (b := 128) (by omega) (by decide)), nI_1]
      cases b with
      | false =>
        rw [if_pos (show bI false = 0 from rfl)]
        refine ih (k + 1) false (by omega) (by omega) ⟨fun z => (by cases z), fun z => ?_⟩
        exact hb.mpr (fun i hi => z i (by omega))
      | true =>
        have hb := hb.mp rfl
        rw [if_neg (show ¬ bI true = 0 by decide), nI_add, ld_n (by omega) (by decide), show (0 : Int32) = nI 0 from rfl, nI_add, ld_n (by omega) (by decide), Nat.zero_add]
        by_cases c2 : rA R 32 (p + k) = rA R 43 k
        · rw [if_pos c2]
          exact ih (k + 1) true (by omega) (by omega) ⟨fun _ i hi => by
            by_cases c3 : i = k
            · rw [c3]
              exact c2
            · exact hb i (by omega), fun _ => rfl⟩
        · rw [if_neg c2]
          exact ih (k + 1) false (by omega) (by omega) ⟨fun z => (by cases z), fun z => absurd (z k (by omega)) c2⟩
theorem z_same {p : Nat} (hp : p + 128 ≤ 131072) : ∃ r : Bool, e_same_71_78 R (nI p) 0 = some (bI r) ∧ ((r = true) ↔ ∀ i, i < 128 → rA R 32 (p + i) = rA R 43 i) := z_same_l hp fuL 0 true (Nat.zero_le _) (by rw [fuL_4]; omega) ⟨fun _ i hi => absurd hi (Nat.not_lt_zero _), fun _ => rfl⟩
/-- whether own row k is changed -/
def chI (R : RfT) (k : Nat) (y : Rw) : Prop := rA R 31 k = 1 ∨ nr (fl (rA R 32) k) ≠ y
theorem rSee_nr {ow : Bool} {b : Nat} : nr (rSee R ow b) = rSee R ow b := by
  have key : ∀ g : Nat → Int32, nr (nr g) = nr g := fun g => nr_eq (fun i hi => nr_at hi)
  unfold rSee
  split
  · exact key _
  · split
    · exact key _
    · split
      · exact key _
      · split
        · exact key _
        · split
          · exact key _
          · exact key _
theorem z_isCh {k t : Nat} (hk : k < 1024) (ht : t < 1024) (h30 : rA R 30 k = nI t) (h31 : rA R 31 k = 0 ∨ rA R 31 k = 1) (hl : lkA R) (hy : rBy R) : ∃ (r : Bool) (g : Nat → Int32), e_isChanged R (nI k) = some (bI r, setA R 43 g) ∧ ((r = true) ↔ chI R k (rSee R false t)) := by
  obtain ⟨g, g1, g2⟩ := z_see (ow := false) ht (hl t ht) hy
  have g1 : e_see R (nI t) 0 = some (setA R 43 g) := g1
  have a31 : rA (setA R 43 g) 31 = rA R 31 := rfl
  rw [e_isChanged, ld_n hk (by decide), h30, bnd_o g1, ld_n hk (by decide), a31]
  rcases h31 with z | z
  · rw [if_pos z, show (128 : Int32) = nI 128 from rfl, pk_mul]
    obtain ⟨r, r1, r2⟩ := z_same (R := setA R 43 g) (p := 128 * k) (by omega)
    have r2 : (r = true) ↔ ∀ i, i < 128 → rA R 32 (128 * k + i) = g i := r2
    rw [bnd_o r1]
    refine ⟨!r, g, ?_, ?_⟩
    · cases r with
      | true => rfl
      | false => rfl
    · have hiff : (r = true) ↔ nr (fl (rA R 32) k) = rSee R false t := by
        rw [r2]
        refine ⟨fun q => ?_, fun q i hi => ?_⟩
        · rw [← rSee_nr]
          refine nr_eq (fun i hi => ?_)
          show rA R 32 (128 * k + i) = _
          rw [q i hi, g2 i hi]
        · have := congrFun q i
          rw [nr_at hi] at this
          rw [g2 i hi]
          exact this
      unfold chI
      rw [z]
      cases r with
      | true => exact ⟨(fun q => by cases q), fun (q : (0 : Int32) = 1 ∨ nr (fl (rA R 32) k) ≠ rSee R false t) => q.elim (fun y => absurd y (by decide)) (fun y => absurd (hiff.mp rfl) y)⟩
      | false => exact ⟨fun _ => Or.inr (fun y => by cases hiff.mpr y), fun _ => rfl⟩
  · rw [if_neg (by rw [z]; decide)]
    exact ⟨true, g, rfl, fun _ => Or.inl z, fun _ => rfl⟩
theorem rsC_mono {f g : Nat → Nat} {v : Nat} (h : ∀ b, f b = v → g b = v) : ∀ n, rsC f v n ≤ rsC g v n
  | 0 => Nat.le_refl _
  | n + 1 => by
    have ih := rsC_mono h n
    show rsC f v n + (if f n = v then 1 else 0) ≤ rsC g v n + (if g n = v then 1 else 0)
    by_cases c : f n = v
    · rw [if_pos c, if_pos (h n c)]
      omega
    · rw [if_neg c]
      omega
/-- a change that is being made -/
def QcP (N : Nat) (R : RfT) (c s : Nat) (q : QC) : Prop := (∀ k, k < s → ∃ t, t < N ∧ rA R 27 (64 * c + k) = nI t ∧ q t = some (nr (fl (rA R 28) (64 * c + k))) ∧ rA R 37 t = nI (64 * c + k)) ∧ (∀ i j, i < s → j < s → rA R 27 (64 * c + i) = rA R 27 (64 * c + j) → i = j) ∧ ∀ t, q t ≠ none → ∃ k, k < s ∧ tkB R c k = t
theorem QcP.len {c s : Nat} {q : QC} (h : QcP N R c s q) (hN : N ≤ 1024) : rsC (isS q) 1 N = s := by
  obtain ⟨h3, h4, h5⟩ := h
  have key : ∀ k, k < s → tkB R c k < N ∧ rA R 27 (64 * c + k) = nI (tkB R c k) ∧ q (tkB R c k) ≠ none := fun k hk => by
    obtain ⟨t, ht, e, e2, -⟩ := h3 k hk
    have et : tkB R c k = t := by
      unfold tkB
      rw [e, nI_clamp (by omega)]
    rw [et]
    exact ⟨ht, e, by rw [e2]; exact Option.some_ne_none _⟩
  refine rsC_is N s (tkB R c) (fun i hi => ⟨(key i hi).1, isS_1.mpr (key i hi).2.2⟩) (fun i j hi hj e => ?_) (fun b hb e => h5 b (isS_1.mp e))
  exact h4 i j hi hj (by rw [(key i hi).2.1, (key j hj).2.1, e])
theorem QcP.put {R' : RfT} {c s t : Nat} {q : QC} {x : Rw} (h : QcP N R c s q) (hN : N ≤ 1024) (ht : t < N) (hq : q t = none) (e27 : rA R' 27 = upd (rA R 27) (64 * c + s) (nI t)) (e28 : ∀ j, j ≠ 64 * c + s → nr (fl (rA R' 28) j) = nr (fl (rA R 28) j)) (e28s : nr (fl (rA R' 28) (64 * c + s)) = x) (e37 : rA R' 37 = upd (rA R 37) t (nI (64 * c + s))) : QcP N R' c (s + 1) (upQ q t x) := by
  obtain ⟨h3, h4, h5⟩ := h
  have a : ∀ k, k < s → ∃ u, u < N ∧ u ≠ t ∧ rA R 27 (64 * c + k) = nI u ∧ q u = some (nr (fl (rA R 28) (64 * c + k))) ∧ rA R 37 u = nI (64 * c + k) := fun k hk => by
    obtain ⟨u, u1, u2, u3, u4⟩ := h3 k hk
    exact ⟨u, u1, (fun z => by rw [z, hq] at u3; cases u3), u2, u3, u4⟩
  refine ⟨fun k hk => ?_, fun i j hi hj e => ?_, fun u hu => ?_⟩
  · by_cases ck : k = s
    · rw [ck]
      exact ⟨t, ht, by rw [e27, pk_us], by rw [e28s]; exact if_pos rfl, by rw [e37, pk_us]⟩
    · obtain ⟨u, u1, u2, u3, u4, u5⟩ := a k (by omega)
      exact ⟨u, u1, by rw [e27, pk_un (by omega)]; exact u3, by rw [e28 _ (by omega)]; exact (if_neg u2).trans u4, by rw [e37, pk_un u2]; exact u5⟩
  · rw [e27] at e
    by_cases ci : i = s
    · by_cases cj : j = s
      · rw [ci, cj]
      · obtain ⟨u, u1, u2, u3, -⟩ := a j (by omega)
        rw [ci, pk_us, pk_un (by omega), u3] at e
        exact absurd (nI_inj (by omega) (by omega) e).symm u2
    · by_cases cj : j = s
      · obtain ⟨u, u1, u2, u3, -⟩ := a i (by omega)
        rw [cj, pk_us, pk_un (by omega), u3] at e
        exact absurd (nI_inj (by omega) (by omega) e) u2
      · rw [pk_un (by omega), pk_un (by omega)] at e
        exact h4 i j (by omega) (by omega) e
  · by_cases cu : u = t
    · refine ⟨s, by omega, ?_⟩
      unfold tkB
      rw [e27, pk_us, nI_clamp (by omega), cu]
    · have hu : q u ≠ none := fun z => hu ((if_neg cu).trans z)
      obtain ⟨k, k1, k2⟩ := h5 u hu
      refine ⟨k, by omega, ?_⟩
      unfold tkB at *
      rw [e27, pk_un (by omega)]
      exact k2
theorem chI_eq {R' : RfT} {k : Nat} {y : Rw} (h31 : rA R' 31 = rA R 31) (h32 : rA R' 32 = rA R 32) : chI R' k y = chI R k y := by
  unfold chI
  rw [h31, h32]
theorem rSee_cg {R' : RfT} {b : Nat} (h37 : rA R' 37 b = rA R 37 b) (h28 : ¬ rA R 37 b = -1 → nr (fl (rA R' 28) (rA R 37 b).toNatClampNeg) = nr (fl (rA R 28) (rA R 37 b).toNatClampNeg)) (hT : ∀ k, k ∈ [6, 8, 17, 24, 38, 39, 40] → rA R' k = rA R k) : rSee R' false b = rSee R false b := by
  unfold rSee
  rw [if_neg (nft (p := ¬ rA R' 36 b = -1)), if_neg (nft (p := ¬ rA R 36 b = -1)), h37, hT 6 (by decide), hT 8 (by decide), hT 17 (by decide), hT 24 (by decide), hT 38 (by decide), hT 39 (by decide), hT 40 (by decide)]
  by_cases c : rA R 37 b = -1
  · rw [if_neg (show ¬ ¬ rA R 37 b = -1 from fun z => z c), if_neg (show ¬ ¬ rA R 37 b = -1 from fun z => z c)]
  · rw [if_pos (show ¬ rA R 37 b = -1 from c), if_pos (show ¬ rA R 37 b = -1 from c)]
    exact h28 c
/-- the loop that takes own rows into a change -/
theorem z_cm19 {n c : Nat} (hN : N ≤ 1024) (hw : WkO N R) (hn : n ≤ 1024) (h33 : rS R 33 = nI n) (h29 : rS R 29 = nI c) (hc : c < 16) (h37 : ∀ b, b < 1024 → rA R 37 b = -1 ∨ ∃ k, k < 64 * c ∧ rA R 37 b = nI k) (Q : QC) (hQ : ∀ k, k < n → ∀ t, rA R 30 k = nI t → t < N → (chI R k (rSee R false t) ↔ Q t ≠ none)) (hQl : rsC (isS Q) 1 N ≤ 40) : ∀ (m s k : Nat) (X : RfT) (q : QC), k ≤ n → n - k < m → Fn [] [27, 28, 37, 43] R X → lkA X → rBy X → QcP N X c s q → (∀ j, j < 64 * c → nr (fl (rA X 28) j) = nr (fl (rA R 28) j) ∧ rA X 27 j = rA R 27 j) → (∀ b, b < 1024 → q b = none → rA X 37 b = rA R 37 b) → (∀ b, (q b ≠ none ↔ ∃ i, i < k ∧ rA R 30 i = nI b ∧ Q b ≠ none ∧ b < N) ∧ (q b ≠ none → q b = wOw R b)) → ∃ s' X' q', e_commit_19 m X (nI s) (nI k) = bnd (e_noWorks X') (fun R73 => e_commit_119 fuL R73 (nI s') 0) ∧ s' ≤ 40 ∧ Fn [] [27, 28, 37, 43] R X' ∧ lkA X' ∧ rBy X' ∧ QcP N X' c s' q' ∧ (∀ j, j < 64 * c → nr (fl (rA X' 28) j) = nr (fl (rA R 28) j) ∧ rA X' 27 j = rA R 27 j) ∧ (∀ b, b < 1024 → q' b = none → rA X' 37 b = rA R 37 b) ∧ (∀ b, (q' b ≠ none ↔ ∃ i, i < n ∧ rA R 30 i = nI b ∧ Q b ≠ none ∧ b < N) ∧ (q' b ≠ none → q' b = wOw R b)) := by
  obtain ⟨n', n1, n2, n3, n4, n5, n6⟩ := id hw
  have en : n' = n := nI_inj (by omega) (by omega) (n2.symm.trans h33)
  subst en
  intro m
  induction m with
  | zero => intro s k _ _ _ h; exact absurd h (Nat.not_lt_zero _)
  | succ m ih =>
    intro s k X q hk hm f hl hy hp h28 hX37 hq
    have hs40 : s ≤ 40 := by
      rw [← hp.len hN]
      refine Nat.le_trans (rsC_mono (fun b e => ?_) N) hQl
      obtain ⟨i, -, -, i3, -⟩ := (hq b).1.mp (isS_1.mp e)
      exact isS_1.mpr i3
    rw [e_commit_19, f.1.1 33 (by decide), n2]
    by_cases ck : k = n'
    · rw [ck, if_pos (nI_le (Nat.le_refl _) (by omega))]
      rw [ck] at hq
      exact ⟨s, X, q, rfl, hs40, f, hl, hy, hp, h28, hX37, hq⟩
    · have hkn : k < n' := by omega
      obtain ⟨t, t1, t2, t3⟩ := n3 k hkn
      have x30 : rA X 30 = rA R 30 := f.1.2.1 30 (by decide)
      have x31 : rA X 31 = rA R 31 := f.1.2.1 31 (by decide)
      have x32 : rA X 32 = rA R 32 := f.1.2.1 32 (by decide)
      obtain ⟨r, g, r1, r2⟩ := z_isCh (R := X) (k := k) (t := t) (by omega) (by omega) (by rw [x30]; exact t2) (by rw [x31]; exact n6.1 k hkn) hl hy
      have hqt : q t = none := by
        cases e : q t with
        | none => rfl
        | some x =>
          obtain ⟨i, i1, i2, -⟩ := (hq t).1.mp (by rw [e]; exact Option.some_ne_none x)
          obtain ⟨u, u1, u2, u3⟩ := n3 i (by omega)
          have : u = t := nI_inj (by omega) (by omega) (u2.symm.trans i2)
          rw [this, t3] at u3
          have := nI_inj (by omega) (by omega) u3
          omega
      have hse : rSee X false t = rSee R false t := by
        refine rSee_cg (hX37 t (by omega) hqt) (fun hne => ?_) (fun j hj => f.1.2.1 j (fun z => ?_))
        · rcases h37 t (by omega) with z | ⟨k', z1, z2⟩
          · exact absurd z hne
          · rw [z2, nI_clamp (by omega)]
            exact (h28 k' z1).1
        · simp only [List.mem_cons, List.not_mem_nil, or_false] at hj z
          omega
      rw [hse, chI_eq x31 x32, hQ k hkn t t2 t1] at r2
      rw [if_neg (nI_ge (by omega) (by omega)), bnd2_o r1, nI_1]
      have f1 : Fn [] [27, 28, 37, 43] R (setA X 43 g) := f.tr (Fn.a (by decide))
      have hb : ∀ b, rA R 30 k = nI b → b < N → b = t := fun b e hbN => nI_inj (by omega) (by omega) (e.symm.trans t2)
      cases r with
      | false =>
        have hQt : Q t = none := by
          cases e : Q t with
          | none => rfl
          | some x => cases r2.mpr (by rw [e]; exact Option.some_ne_none x)
        rw [if_pos (show bI false = 0 from rfl)]
        refine ih s (k + 1) (setA X 43 g) q (by omega) (by omega) f1 hl hy hp h28 hX37 (fun b => ⟨?_, (hq b).2⟩)
        rw [(hq b).1]
        refine ⟨fun ⟨i, i1, i2⟩ => ⟨i, by omega, i2⟩, fun ⟨i, i1, i2, i3, i4⟩ => ?_⟩
        by_cases ci : i = k
        · rw [ci] at i2
          rw [hb b i2 i4, hQt] at i3
          exact absurd rfl i3
        · exact ⟨i, by omega, i2, i3, i4⟩
      | true =>
        have hQt := r2.mp rfl
        rw [if_neg (show ¬ bI true = 0 by decide)]
        have e29 : rS (setA X 43 g) 29 = nI c := by
          show rS X 29 = _
          rw [f.1.1 29 (by decide), h29]
        have e30 : rA (setA X 43 g) 30 = rA R 30 := x30
        rw [ld_n (show k < 1024 by omega) (by decide), e30, t2, e29, show (64 : Int32) = nI 64 from rfl, pk_mul, nI_add, st_n (show 64 * c + s < 1024 by omega) (by decide)]
        generalize hX1 : setA (setA X 43 g) 27 (upd (rA (setA X 43 g) 27) (64 * c + s) (nI t)) = X1
        have y29 : rS X1 29 = nI c := by
          rw [← hX1]
          exact e29
        have y32 : rA X1 32 = rA R 32 := by
          rw [← hX1, ← x32]
          rfl
        have y28 : rA X1 28 = rA X 28 := by
          rw [← hX1]
          rfl
        have cp := z_cp71_68 (R := X1) (p := 128 * k) (q := 128 * (64 * c + s)) (by rw [y32]; exact n5) (by omega) (by omega)
        rw [y29, show (128 : Int32) = nI 128 from rfl, pk_mul, pk_mul, nI_add, pk_mul, bnd_o cp, y32, y28]
        generalize hX2 : setA X1 28 (va_cpy (rA R 32) (rA X 28) (128 * k) (128 * (64 * c + s)) 128) = X2
        have z29 : rS X2 29 = nI c := by
          rw [← hX2]
          exact y29
        have z30 : rA X2 30 = rA R 30 := by
          rw [← hX2, ← hX1, ← x30]
          rfl
        rw [ld_n (show k < 1024 by omega) (by decide), z30, t2, z29, pk_mul, nI_add, st_n (show t < 1024 by omega) (by decide), nI_1]
        have a37 : rA X2 37 = rA X 37 := by
          rw [← hX2, ← hX1]
          rfl
        rw [a37]
        generalize hX3 : setA X2 37 (upd (rA X 37) t (nI (64 * c + s))) = X3
        have w37 : rA X3 37 = upd (rA X 37) t (nI (64 * c + s)) := by
          rw [← hX3, rA_e]
        have w27 : rA X3 27 = upd (rA X 27) (64 * c + s) (nI t) := by
          rw [← hX3, ← hX2, ← hX1]
          rfl
        have w28 : rA X3 28 = va_cpy (rA R 32) (rA X 28) (128 * k) (128 * (64 * c + s)) 128 := by
          rw [← hX3, ← hX2]
          rfl
        have f3 : Fn [] [27, 28, 37, 43] R X3 := by
          rw [← hX3, ← hX2, ← hX1]
          exact ((f1.tr (Fn.a (by decide))).tr (Fn.a (by decide))).tr (Fn.a (by decide))
        have wO : wOw R t = some (nr (fl (rA R 32) k)) := by
          unfold wOw
          rw [t3, if_neg (nI_m1 (by omega)), nI_clamp (by omega)]
        refine ih (s + 1) (k + 1) X3 (upQ q t (nr (fl (rA R 32) k))) (by omega) (by omega) f3 (fun b hb2 => ?_) ?_ (hp.put hN t1 hqt w27 (fun j hj => by rw [w28]; exact fl_out hj) (by rw [w28, fl_in]; rfl) w37) (fun j hj => ?_) (fun b hb2 hqb => ?_) (fun b => ?_)
        · obtain ⟨l1, l2, l3, l4, l5⟩ := hl b hb2
          have g36 : rA X3 36 = rA X 36 := by
            rw [f3.1.2.1 36 (by decide), f.1.2.1 36 (by decide)]
          have g38 : rA X3 38 = rA X 38 := by
            rw [f3.1.2.1 38 (by decide), f.1.2.1 38 (by decide)]
          have g39 : rA X3 39 = rA X 39 := by
            rw [f3.1.2.1 39 (by decide), f.1.2.1 39 (by decide)]
          have g40 : rA X3 40 = rA X 40 := by
            rw [f3.1.2.1 40 (by decide), f.1.2.1 40 (by decide)]
          refine ⟨by rw [g36]; exact l1, ?_, by rw [g38]; exact l3, by rw [g39]; exact l4, by rw [g40]; exact l5⟩
          rw [w37]
          by_cases cb : b = t
          · rw [cb, pk_us]
            exact Or.inr ⟨64 * c + s, by omega, rfl⟩
          · rw [pk_un cb]
            exact l2
        · obtain ⟨y1, y2, y3, y4, y5, y6⟩ := hy
          refine ⟨by rw [f3.1.2.1 32 (by decide)]; exact n5, by rw [w28]; exact n5.cpy y2, ?_, ?_, ?_, ?_⟩
          · rw [f3.1.2.1 24 (by decide), ← f.1.2.1 24 (by decide)]
            exact y3
          · rw [f3.1.2.1 17 (by decide), ← f.1.2.1 17 (by decide)]
            exact y4
          · rw [f3.1.2.1 8 (by decide), ← f.1.2.1 8 (by decide)]
            exact y5
          · rw [f3.1.2.1 6 (by decide), ← f.1.2.1 6 (by decide)]
            exact y6
        · rw [w28, fl_out (by omega), w27, pk_un (by omega)]
          exact h28 j hj
        · unfold upQ at hqb
          by_cases cb : b = t
          · rw [if_pos cb] at hqb
            cases hqb
          · rw [if_neg cb] at hqb
            rw [w37, pk_un cb]
            exact hX37 b hb2 hqb
        · unfold upQ
          by_cases cb : b = t
          · rw [if_pos cb, cb, wO]
            exact ⟨⟨fun _ => ⟨k, by omega, t2, hQt, t1⟩, fun _ => Option.some_ne_none _⟩, fun _ => rfl⟩
          · rw [if_neg cb]
            refine ⟨?_, (hq b).2⟩
            rw [(hq b).1]
            refine ⟨fun ⟨i, i1, i2⟩ => ⟨i, by omega, i2⟩, fun ⟨i, i1, i2, i3, i4⟩ => ?_⟩
            by_cases ci : i = k
            · rw [ci] at i2
              exact absurd (hb b i2 i4) cb
            · exact ⟨i, by omega, i2, i3, i4⟩
end PVG
