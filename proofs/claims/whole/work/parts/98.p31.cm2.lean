/-! ===== pure: the reference commits, the rest of it ===== -/
section PVH
variable {R : RfT} {N B gr : Nat}
noncomputable def cmE (R : RfT) : Option RfT := if (rS R 29) = (rS R 3) then bnd2 (e_flushQueue R) (fun v88 R88 => some R88) else some R
theorem z_cm119 {rs : Nat → Nat} (hr : RRs R rs) : ∀ (m k : Nat) (X : RfT), k ≤ 1024 → 1024 - k < m → Fn [] [35] R X → (∀ b, b < 1024 → rA X 35 b = nI (if b < k ∧ rs b = 2 then 0 else rs b)) → ∃ R', e_commit_119 m X 0 (nI k) = e_commit_162 R' 0 ∧ Fn [] [35] R R' ∧ RRs R' (fun b => if rs b = 2 then 0 else rs b) := by
  intro m
  induction m with
  | zero => intro k _ _ h; exact absurd h (Nat.not_lt_zero _)
  | succ m ih =>
    intro k X hk hm f h35
    rw [e_commit_119]
    by_cases c : k = 1024
    · rw [c, if_pos (show (1024 : Int32) ≤ nI 1024 from nI_le (a := 1024) (b := 1024) (by decide) (by decide))]
      refine ⟨X, rfl, f, fun b hb => ?_⟩
      have h3 := (hr b hb).2
      rw [h35 b hb, c]
      show nI _ = nI (if rs b = 2 then 0 else rs b) ∧ (if rs b = 2 then 0 else rs b) < 3
      by_cases c2 : rs b = 2
      · rw [if_pos ⟨hb, c2⟩, if_pos c2]
        exact ⟨rfl, by decide⟩
      · rw [if_neg (fun z => c2 z.2), if_neg c2]
        exact ⟨rfl, h3⟩
    · have hkl : k < 1024 := by omega
      have h3 := (hr k hkl).2
      have hx := h35 k hkl
      rw [if_neg (fun z => absurd z.1 (Nat.lt_irrefl k))] at hx
      have key : ∀ w : Int32, w = nI (if rs k = 2 then 0 else rs k) → ∃ R', e_commit_119 m (setA X 35 (upd (rA X 35) k w)) 0 (nI (k + 1)) = e_commit_162 R' 0 ∧ Fn [] [35] R R' ∧ RRs R' (fun b => if rs b = 2 then 0 else rs b) := fun w hw => by
        refine ih (k + 1) _ (by omega) (by omega) (f.tr (Fn.a (by decide))) (fun b hb => ?_)
        rw [rA_e]
        by_cases c3 : b = k
        · rw [c3, pk_us, hw]
          by_cases c4 : rs k = 2
          · rw [if_pos c4, if_pos ⟨Nat.lt_succ_self k, c4⟩]
          · rw [if_neg c4, if_neg (fun z => c4 z.2)]
        · rw [pk_un c3, h35 b hb]
          congr 1
          by_cases c4 : b < k ∧ rs b = 2
          · rw [if_pos c4, if_pos ⟨by omega, c4.2⟩]
          · rw [if_neg c4, if_neg (fun z => c4 ⟨by omega, z.2⟩)]
      rw [if_neg (show ¬ (1024 : Int32) ≤ nI k from nI_ge (a := k) (b := 1024) (by omega) (by decide)), if_pos rfl, ld_n hkl (by decide), hx, nI_1]
      by_cases c2 : rs k = 2
      · rw [c2, if_pos (show nI 2 = 2 from rfl), st_n hkl (by decide)]
        exact key _ (by rw [if_pos c2]; decide)
      · rw [if_neg (show ¬ nI (rs k) = 2 from fun z => c2 (nI_inj (b := 2) (by omega) (by decide) z)), ld_n hkl (by decide), hx, st_n hkl (by decide)]
        exact key _ (by rw [if_neg c2]; exact nar3 h3)
theorem z_cm189 {rs : Nat → Nat} (hr : RRs R rs) : ∀ (m k : Nat) (X : RfT), k ≤ 1024 → 1024 - k < m → Fn [] [35] R X → (∀ b, b < 1024 → rA X 35 b = nI (if b < k ∧ rs b = 2 then 1 else rs b)) → ∃ R', e_commit_189 m X (nI k) = cmE R' ∧ Fn [] [35] R R' ∧ RRs R' (fun b => if rs b = 2 then 1 else rs b) := by
  intro m
  induction m with
  | zero => intro k _ _ h; exact absurd h (Nat.not_lt_zero _)
  | succ m ih =>
    intro k X hk hm f h35
    rw [e_commit_189]
    by_cases c : k = 1024
    · rw [c, if_pos (show (1024 : Int32) ≤ nI 1024 from nI_le (a := 1024) (b := 1024) (by decide) (by decide))]
      refine ⟨X, rfl, f, fun b hb => ?_⟩
      have h3 := (hr b hb).2
      rw [h35 b hb, c]
      show nI _ = nI (if rs b = 2 then 1 else rs b) ∧ (if rs b = 2 then 1 else rs b) < 3
      by_cases c2 : rs b = 2
      · rw [if_pos ⟨hb, c2⟩, if_pos c2]
        exact ⟨rfl, by decide⟩
      · rw [if_neg (fun z => c2 z.2), if_neg c2]
        exact ⟨rfl, h3⟩
    · have hkl : k < 1024 := by omega
      have h3 := (hr k hkl).2
      have hx := h35 k hkl
      rw [if_neg (fun z => absurd z.1 (Nat.lt_irrefl k))] at hx
      have key : ∀ w : Int32, w = nI (if rs k = 2 then 1 else rs k) → ∃ R', e_commit_189 m (setA X 35 (upd (rA X 35) k w)) (nI (k + 1)) = cmE R' ∧ Fn [] [35] R R' ∧ RRs R' (fun b => if rs b = 2 then 1 else rs b) := fun w hw => by
        refine ih (k + 1) _ (by omega) (by omega) (f.tr (Fn.a (by decide))) (fun b hb => ?_)
        rw [rA_e]
        by_cases c3 : b = k
        · rw [c3, pk_us, hw]
          by_cases c4 : rs k = 2
          · rw [if_pos c4, if_pos ⟨Nat.lt_succ_self k, c4⟩]
          · rw [if_neg c4, if_neg (fun z => c4 z.2)]
        · rw [pk_un c3, h35 b hb]
          congr 1
          by_cases c4 : b < k ∧ rs b = 2
          · rw [if_pos c4, if_pos ⟨by omega, c4.2⟩]
          · rw [if_neg c4, if_neg (fun z => c4 ⟨by omega, z.2⟩)]
      rw [if_neg (show ¬ (1024 : Int32) ≤ nI k from nI_ge (a := k) (b := 1024) (by omega) (by decide)), ld_n hkl (by decide), hx, nI_1]
      by_cases c2 : rs k = 2
      · rw [c2, if_pos (show nI 2 = 2 from rfl), st_n hkl (by decide)]
        exact key _ (by rw [if_pos c2]; decide)
      · rw [if_neg (show ¬ nI (rs k) = 2 from fun z => c2 (nI_inj (b := 2) (by omega) (by decide) z)), ld_n hkl (by decide), hx, st_n hkl (by decide)]
        exact key _ (by rw [if_neg c2]; exact nar3 h3)
theorem QcR.cg {R' : RfT} {c s : Nat} {q : QC} (h : QcR N R c s q) (e26 : rA R' 26 c = rA R 26 c) (e27 : ∀ k, k < 64 → rA R' 27 (64 * c + k) = rA R 27 (64 * c + k)) (e28 : ∀ k, k < 64 → nr (fl (rA R' 28) (64 * c + k)) = nr (fl (rA R 28) (64 * c + k))) : QcR N R' c s q := by
  obtain ⟨h1, h2, h3, h4, h5, h6⟩ := h
  refine ⟨h1, by rw [e26]; exact h2, h3, fun k hk => ?_, fun i j hi hj e => h5 i j hi hj ?_, fun t ht => ?_⟩
  · obtain ⟨t, t1, t2, t3⟩ := h4 k hk
    exact ⟨t, t1, by rw [e27 k (by omega)]; exact t2, by rw [e28 k (by omega)]; exact t3⟩
  · rw [e27 i (by omega), e27 j (by omega)] at e
    exact e
  · obtain ⟨k, k1, k2⟩ := h6 t ht
    refine ⟨k, k1, ?_⟩
    unfold tkB at *
    rw [e27 k (by omega)]
    exact k2
/-- what a commit puts into the queue -/
noncomputable def chQ (N : Nat) (m : M5) (V : Nat → Rw) (tk : Nat → Bool) : QC := fun b => @ite _ (43 ≤ b ∧ b < N ∧ (tk b = true ∨ V b ≠ befM m b)) (Classical.propDecidable _) (some (V b)) none
theorem chQ_s {m : M5} {V : Nat → Rw} {tk : Nat → Bool} {b : Nat} (h1 : 43 ≤ b) (h2 : b < N) (h : tk b = true ∨ V b ≠ befM m b) : chQ N m V tk b = some (V b) := by
  unfold chQ
  exact if_pos ⟨h1, h2, h⟩
theorem chQ_n {m : M5} {V : Nat → Rw} {tk : Nat → Bool} {b : Nat} (h : ¬ (43 ≤ b ∧ b < N ∧ (tk b = true ∨ V b ≠ befM m b))) : chQ N m V tk b = none := by
  unfold chQ
  exact if_neg h
theorem chQ_iff {m : M5} {V : Nat → Rw} {tk : Nat → Bool} {b : Nat} : chQ N m V tk b ≠ none ↔ 43 ≤ b ∧ b < N ∧ (tk b = true ∨ V b ≠ befM m b) := by
  by_cases h : 43 ≤ b ∧ b < N ∧ (tk b = true ∨ V b ≠ befM m b)
  · rw [chQ_s h.1 h.2.1 h.2.2]
    exact ⟨fun _ => h, fun _ => Option.some_ne_none _⟩
  · rw [chQ_n h]
    exact ⟨fun z => absurd rfl z, fun z => absurd z h⟩
def r20 (rs : Nat → Nat) : Nat → Nat := fun b => if rs b = 2 then 0 else rs b
def r21 (rs : Nat → Nat) : Nat → Nat := fun b => if rs b = 2 then 1 else rs b
/-- the state behind a commit, but for the flush of a full queue -/
noncomputable def cmQ (N : Nat) (m : M5) (V : Nat → Rw) (tk : Nat → Bool) : M5 := if rsC (isS (chQ N m V tk)) 1 N = 0 then mRs m (r20 m.2.2.2.2) else (m.1, m.2.1, m.2.2.1, m.2.2.2.1 ++ [chQ N m V tk], r21 m.2.2.2.2)
theorem rsC_0 {f : Nat → Nat} {v b : Nat} : ∀ n, rsC f v n = 0 → b < n → f b ≠ v
  | 0, _, hb => absurd hb (Nat.not_lt_zero _)
  | n + 1, h, hb => fun z => by
    have h : rsC f v n + (if f n = v then 1 else 0) = 0 := h
    by_cases c : b = n
    · rw [c] at z
      rw [if_pos z] at h
      omega
    · exact rsC_0 n (by omega) (by omega) z
theorem cmQ_bef {m : M5} {V : Nat → Rw} {tk : Nat → Bool} {b : Nat} (h1 : 43 ≤ b) (h2 : b < N) : befM (cmQ N m V tk) b = V b := by
  unfold cmQ
  by_cases c : rsC (isS (chQ N m V tk)) 1 N = 0
  · rw [if_pos c]
    have q := rsC_0 (b := b) N c h2
    have q2 : chQ N m V tk b = none := by
      cases e : chQ N m V tk b with
      | none => rfl
      | some x => exact absurd (isS_1.mpr (by rw [e]; exact Option.some_ne_none x)) q
    by_cases c2 : V b = befM m b
    · exact c2.symm
    · rw [chQ_s h1 h2 (Or.inr c2)] at q2
      cases q2
  · rw [if_neg c]
    show oSee (qVal (m.2.2.2.1 ++ [chQ N m V tk]) b) _ = V b
    rw [qVal_app]
    by_cases c2 : tk b = true ∨ V b ≠ befM m b
    · rw [chQ_s h1 h2 c2]
      rfl
    · rw [chQ_n (fun z => c2 z.2.2)]
      exact (Classical.byContradiction (fun z => c2 (Or.inr (fun y => z y.symm))) : befM m b = V b)
theorem qAt_app {qs : List QC} {q : QC} {c : Nat} (h : c < qs.length) : qAt (qs ++ [q]) c = qAt qs c := by
  unfold qAt
  rw [List.getD_eq_getElem?_getD, List.getD_eq_getElem?_getD, List.getElem?_append_left h]
theorem qAt_end {qs : List QC} {q : QC} : qAt (qs ++ [q]) qs.length = q := by
  unfold qAt
  rw [List.getD_eq_getElem?_getD, List.getElem?_append_right (Nat.le_refl _), Nat.sub_self]
  rfl
theorem y_commitQ {m : M5} {V : Nat → Rw} {tk : Nat → Bool} (hN1 : 61 ≤ N) (hN : N ≤ 1024) (h : RY N B gr R m V tk) (hqg : m.2.2.2.1.length < gr) (hgr : gr ≤ 16) (hch : rsC (isS (chQ N m V tk)) 1 N ≤ 40) : ∃ R', e_commit_19 fuL R 0 0 = (if rsC (isS (chQ N m V tk)) 1 N = 0 then some R' else cmE R') ∧ RY N B gr R' (cmQ N m V tk) V (fun _ => false) ∧ Fn [33, 29] [27, 28, 37, 43, 36, 35, 26] R R' ∧ ∀ b, b < 1024 → rA R' 36 b = -1 := by
  obtain ⟨hx, hu, ho⟩ := id h
  obtain ⟨⟨h1, h2, h3, h4, h5, h6, h7, h8⟩, hv⟩ := id hx
  obtain ⟨n, n1, n2, n3, n4, n5, n6⟩ := id h5
  obtain ⟨q1, q2, q3, q4, q5⟩ := id h3
  have own : ∀ k, k < n → ∀ t, rA R 30 k = nI t → t < N → wOw R t = some (nr (fl (rA R 32) k)) ∧ (wTk R t = true ↔ rA R 31 k = 1) := fun k hk t ht htN => by
    obtain ⟨u, u1, u2, u3⟩ := n3 k hk
    have : u = t := nI_inj (by omega) (by omega) (u2.symm.trans ht)
    rw [this] at u3
    unfold wOw wTk
    rw [u3, if_neg (nI_m1 (by omega)), nI_clamp (by omega)]
    exact ⟨rfl, fun z => (of_decide_eq_true z).2, fun z => decide_eq_true ⟨nI_m1 (by omega), z⟩⟩
  have hQ : ∀ k, k < n → ∀ t, rA R 30 k = nI t → t < N → (chI R k (rSee R false t) ↔ chQ N m V tk t ≠ none) := fun k hk t ht htN => by
    obtain ⟨o1, o2⟩ := own k hk t ht htN
    obtain ⟨u1, u2, u3⟩ := hu t (by omega) (by rw [o1]; exact Option.some_ne_none _)
    obtain ⟨w1, w2⟩ := hx.own hN u1 u2
    rw [o1] at w1
    have w1 : nr (fl (rA R 32) k) = V t := w1
    rw [chQ_iff, hx.1.bef hN u2]
    unfold chI
    rw [w1, ← w2, o2]
    exact ⟨fun z => ⟨u1, u2, z⟩, fun z => z.2.2⟩
  have h37 : ∀ b, b < 1024 → rA R 37 b = -1 ∨ ∃ k, k < 64 * m.2.2.2.1.length ∧ rA R 37 b = nI k := fun b hb => by
    rcases q5 b hb with z | ⟨k, k1, k2, -⟩
    · exact Or.inl z.1
    · exact Or.inr ⟨k, k1, k2⟩
  obtain ⟨s, X, q, e, s40, f, xl, xy, xp, x28, x37, xq⟩ := z_cm19 hN h5 n1 n2 q1 (by omega) h37 (chQ N m V tk) hQ hch fuL 0 0 R (fun _ => none) (Nat.zero_le _) (by rw [fuL_4]; omega) Fn.rf hx.1.lk hx.1.by ⟨fun k hk => absurd hk (Nat.not_lt_zero _), fun i j hi => absurd hi (Nat.not_lt_zero _), fun t ht => absurd rfl ht⟩ (fun j _ => ⟨rfl, rfl⟩) (fun b _ _ => rfl) (fun b => ⟨⟨fun z => absurd rfl z, fun ⟨i, i1, _⟩ => absurd i1 (Nat.not_lt_zero _)⟩, fun z => absurd rfl z⟩)
  have e : e_commit_19 fuL R 0 0 = _ := e
  have eq : q = chQ N m V tk := by
    funext b
    by_cases c : chQ N m V tk b = none
    · rw [c]
      cases e2 : q b with
      | none => rfl
      | some x =>
        obtain ⟨i, i1, i2, i3, i4⟩ := (xq b).1.mp (by rw [e2]; exact Option.some_ne_none x)
        exact absurd c i3
    · obtain ⟨c1, c2, c3⟩ := chQ_iff.mp c
      obtain ⟨w1, w2⟩ := hx.own hN c1 c2
      have hne : wOw R b ≠ none := fun z => by
        rw [z] at w1
        have w1 : befM m b = V b := w1
        rcases c3 with y | y
        · have e36 : rA R 36 b = -1 := by
            unfold wOw at z
            by_cases c9 : rA R 36 b = -1
            · exact c9
            · rw [if_neg c9] at z
              cases z
          rw [← w2, show wTk R b = false from decide_eq_false (fun y => y.1 e36)] at y
          cases y
        · exact y w1.symm
      have hi : ∃ i, i < n ∧ rA R 30 i = nI b ∧ chQ N m V tk b ≠ none ∧ b < N := by
        rcases n4 b (by omega) with z | ⟨i, i1, i2, i3⟩
        · exact absurd (if_pos z) hne
        · exact ⟨i, i1, i3, c, c2⟩
      have hqne := (xq b).1.mpr hi
      rw [(xq b).2 hqne, chQ_s c1 c2 c3]
      rw [← w1]
      cases e3 : wOw R b with
      | none => exact absurd e3 hne
      | some x => rfl
  rw [eq] at xp x37 xq
  have es : rsC (isS (chQ N m V tk)) 1 N = s := xp.len hN
  obtain ⟨Y, y1, y2, y3, y4⟩ := z_noWorks_l (R := X) (n := n) (by rw [f.1.1 33 (by decide)]; exact n2) n1 (fun k hk => by
    obtain ⟨t, t1, t2, -⟩ := n3 k hk
    exact ⟨t, by omega, by rw [f.1.2.1 30 (by decide)]; exact t2⟩) fuL 0 X (Nat.zero_le _) (by rw [fuL_4]; omega) Fn.rf (fun b hb => by rw [if_neg (fun ⟨i, i1, _⟩ => absurd i1 (Nat.not_lt_zero _))])
  have y1 : e_noWorks X = some Y := y1
  have y36 : ∀ b, b < 1024 → rA Y 36 b = -1 := fun b hb => by
    rw [y4 b hb]
    by_cases c : ∃ i, i < n ∧ rA X 30 i = nI b
    · rw [if_pos c]
    · rw [if_neg c, f.1.2.1 36 (by decide)]
      rcases n4 b hb with z | ⟨k, k1, k2, k3⟩
      · exact z
      · exact absurd ⟨k, k1, by rw [f.1.2.1 30 (by decide)]; exact k3⟩ c
  have fY : Fn [33, 29] [27, 28, 37, 43, 36, 35, 26] R Y := (f.wk (fun j hj => absurd hj List.not_mem_nil) (by decide)).tr (y2.wk (by decide) (by decide))
  have rY : RRs Y m.2.2.2.2 := (h4.fq f.1 (by decide)).fq y2.1 (by decide)
  rw [e, bnd_o y1]
  have fin : ∀ (R' : RfT) (m' : M5), Fn [33, 29] [27, 28, 37, 43, 36, 35, 26] R R' → rA R' 36 = rA Y 36 → rA R' 32 = rA Y 32 → rS R' 33 = 0 → m'.1 = m.1 → m'.2.1 = m.2.1 → m'.2.2.1 = m.2.2.1 → RQu N R' m'.2.2.2.1 → RRs R' m'.2.2.2.2 → (∀ b, 43 ≤ b → b < N → befM m' b = V b) → RY N B gr R' m' V (fun _ => false) := fun R' m' fr e36 e32 e33 m1 m2 m3 hq hrs hbe => by
    have hw' : WkO N R' := ⟨0, Nat.zero_le _, e33, fun k hk => absurd hk (Nat.not_lt_zero _), fun b hb => Or.inl (by rw [e36]; exact y36 b hb), by rw [e32, y2.1.2.1 32 (by decide), f.1.2.1 32 (by decide)]; exact n5, fun k hk => absurd hk (Nat.not_lt_zero _), by rw [fr.1.2.1 24 (by decide)]; exact n6.2.1, hq.2.2.2.1, by rw [fr.1.2.1 46 (by decide)]; exact n6.2.2.2.1, by rw [fr.1.2.1 48 (by decide)]; exact n6.2.2.2.2⟩
    have hm' : RMw N B gr R' m' := ⟨by rw [m1]; exact h1.fn fr (by decide) (by decide), by rw [m2, m3]; exact h2.fq fr.1 (by decide) (by decide) (by decide) (by decide) (by decide), hq, hrs, hw', by rw [fr.1.2.1 46 (by decide)]; exact h6, by rw [fr.1.1 1 (by decide)]; exact h7, by rw [fr.1.1 3 (by decide)]; exact h8⟩
    have w0 : ∀ b, b < 1024 → wOw R' b = none := fun b hb => if_pos (by rw [e36]; exact y36 b hb)
    refine ⟨⟨hm', fun b hb0 hb => ?_⟩, fun b hb hne => absurd (w0 b hb) hne, ho⟩
    rw [rSee_t, w0 b (by omega), hm'.bef hN hb, hbe b hb0 hb]
    exact ⟨rfl, decide_eq_false (fun z => z.1 (by rw [e36]; exact y36 b (by omega)))⟩
  have z28 : Byt (rA Y 28) := by
    rw [y2.1.2.1 28 (by decide)]
    exact xy.2.1
  have a28 : ∀ j, j < 64 * m.2.2.2.1.length → nr (fl (rA Y 28) j) = nr (fl (rA R 28) j) ∧ rA Y 27 j = rA R 27 j := fun j hj => by
    rw [y2.1.2.1 28 (by decide), y2.1.2.1 27 (by decide)]
    exact x28 j hj
  have a37 : ∀ b, b < 1024 → chQ N m V tk b = none → rA Y 37 b = rA R 37 b := fun b hb hc => by
    rw [y2.1.2.1 37 (by decide)]
    exact x37 b hb hc
  have a26 : rA Y 26 = rA R 26 := by rw [y2.1.2.1 26 (by decide), f.1.2.1 26 (by decide)]
  have a29 : rS Y 29 = rS R 29 := by rw [y2.1.1 29 (by decide), f.1.1 29 (by decide)]
  by_cases c0 : s = 0
  · rw [c0]
    obtain ⟨R', r1, r2, r3⟩ := z_cm119 rY fuL 0 Y (Nat.zero_le _) (by rw [fuL_4]; omega) Fn.rf (fun b hb => by rw [if_neg (fun z => absurd z.1 (Nat.not_lt_zero _))]; exact (rY b hb).1)
    have r1 : e_commit_119 fuL Y (nI 0) 0 = e_commit_162 R' 0 := r1
    rw [r1, e_commit_162, if_pos rfl]
    have fr : Fn [33, 29] [27, 28, 37, 43, 36, 35, 26] R R' := fY.tr (r2.wk (fun j hj => absurd hj List.not_mem_nil) (by decide))
    have hcm : cmQ N m V tk = mRs m (r20 m.2.2.2.2) := if_pos (es.trans c0)
    have hq0 : ∀ b, chQ N m V tk b = none := fun b => by
      cases e2 : chQ N m V tk b with
      | none => rfl
      | some x =>
        obtain ⟨k, k1, -⟩ := xp.2.2 b (by rw [e2]; exact Option.some_ne_none x)
        omega
    refine ⟨R', (if_pos (es.trans c0)).symm, fin R' _ fr (r2.1.2.1 36 (by decide)) (r2.1.2.1 32 (by decide)) (by rw [r2.1.1 33 (by decide)]; exact y3) (by rw [hcm]; rfl) (by rw [hcm]; rfl) (by rw [hcm]; rfl) ?_ (by rw [hcm]; exact r3) (fun b hb0 hb => cmQ_bef hb0 hb), fr, fun b hb => by rw [r2.1.2.1 36 (by decide)]; exact y36 b hb⟩
    rw [hcm]
    refine ⟨by rw [r2.1.1 29 (by decide), a29]; exact q1, q2, fun c hc => ?_, by rw [r2.1.2.1 28 (by decide)]; exact z28, fun b hb => ?_⟩
    · obtain ⟨s', hs'⟩ := q3 c hc
      have hc : c < m.2.2.2.1.length := hc
      exact ⟨s', hs'.cg (by rw [r2.1.2.1 26 (by decide), a26]) (fun k hk => by rw [r2.1.2.1 27 (by decide)]; exact (a28 _ (by omega)).2) (fun k hk => by rw [r2.1.2.1 28 (by decide)]; exact (a28 _ (by omega)).1)⟩
    · rw [r2.1.2.1 37 (by decide), a37 b hb (hq0 b), r2.1.2.1 28 (by decide)]
      rcases q5 b hb with z | ⟨k, k1, k2, k3⟩
      · exact Or.inl z
      · exact Or.inr ⟨k, k1, k2, by rw [(a28 k k1).1]; exact k3⟩
  · have hcm : cmQ N m V tk = (m.1, m.2.1, m.2.2.1, m.2.2.2.1 ++ [chQ N m V tk], r21 m.2.2.2.2) := if_neg (by rw [es]; exact c0)
    have e9 : e_commit_119 fuL Y (nI s) 0 = e_commit_162 Y (nI s) := by
      rw [show fuL = (fuL - 1) + 1 by rw [fuL_4], e_commit_119, if_neg (show ¬ (1024 : Int32) ≤ 0 by decide), if_neg (nI_ne0 (by omega) (by omega))]
    rw [e9, e_commit_162, if_neg (nI_ne0 (by omega) (by omega)), a29, q1, st_n (show m.2.2.2.1.length < 16 by omega) (by decide), ptR]
    generalize hZ : setA Y 26 (upd (rA Y 26) m.2.2.2.1.length (nI s)) = Z
    have z29 : rS Z 29 = nI m.2.2.2.1.length := by
      rw [← hZ]
      exact a29.trans q1
    rw [z29, nI_1]
    generalize hW : setS Z 29 (nI (m.2.2.2.1.length + 1)) = W
    have rW : RRs W m.2.2.2.2 := by
      rw [← hW, ← hZ]
      exact rY
    have fW : Fn [33, 29] [27, 28, 37, 43, 36, 35, 26] Y W := by
      rw [← hW, ← hZ]
      exact (Fn.a (by decide)).tr (Fn.s (by decide))
    have w29 : rS W 29 = nI (m.2.2.2.1.length + 1) := by
      rw [← hW]
      exact pk_us (f := Z.1) (k := 29)
    have w26 : rA W 26 = upd (rA R 26) m.2.2.2.1.length (nI s) := by
      rw [← hW, ← a26, ← hZ]
      exact rA_e
    have wA : ∀ k, k ≠ 26 → rA W k = rA Y k := fun k hk => by
      rw [← hW, ← hZ]
      exact rA_n hk
    obtain ⟨R', r1, r2, r3⟩ := z_cm189 rW fuL 0 W (Nat.zero_le _) (by rw [fuL_4]; omega) Fn.rf (fun b hb => by rw [if_neg (fun z => absurd z.1 (Nat.not_lt_zero _))]; exact (rW b hb).1)
    have r1 : e_commit_189 fuL W 0 = cmE R' := r1
    rw [r1]
    have fr : Fn [33, 29] [27, 28, 37, 43, 36, 35, 26] R R' := (fY.tr fW).tr (r2.wk (fun j hj => absurd hj List.not_mem_nil) (by decide))
    have b27 : rA R' 27 = rA Y 27 := by rw [r2.1.2.1 27 (by decide), wA 27 (by decide)]
    have b28 : rA R' 28 = rA Y 28 := by rw [r2.1.2.1 28 (by decide), wA 28 (by decide)]
    have b37 : rA R' 37 = rA Y 37 := by rw [r2.1.2.1 37 (by decide), wA 37 (by decide)]
    have b26 : rA R' 26 = upd (rA R 26) m.2.2.2.1.length (nI s) := by rw [r2.1.2.1 26 (by decide), w26]
    refine ⟨R', (if_neg (show ¬ rsC (isS (chQ N m V tk)) 1 N = 0 by rw [es]; exact c0)).symm, fin R' _ fr (by rw [r2.1.2.1 36 (by decide), wA 36 (by decide)]) (by rw [r2.1.2.1 32 (by decide), wA 32 (by decide)]) (by rw [r2.1.1 33 (by decide), ← hW, ← hZ]; exact y3) (by rw [hcm]) (by rw [hcm]) (by rw [hcm]) ?_ (by rw [hcm]; exact r3) (fun b hb0 hb => cmQ_bef hb0 hb), fr, fun b hb => by rw [r2.1.2.1 36 (by decide), wA 36 (by decide)]; exact y36 b hb⟩
    rw [hcm]
    show RQu N R' (m.2.2.2.1 ++ [chQ N m V tk])
    have hl : (m.2.2.2.1 ++ [chQ N m V tk]).length = m.2.2.2.1.length + 1 := by
      rw [List.length_append]
      rfl
    refine ⟨by rw [hl, r2.1.1 29 (by decide)]; exact w29, by omega, fun c hc => ?_, by rw [b28]; exact z28, fun b hb => ?_⟩
    · by_cases cc : c = m.2.2.2.1.length
      · rw [cc, qAt_end]
        obtain ⟨p1, p2, p3⟩ := xp
        have y27 : rA Y 27 = rA X 27 := y2.1.2.1 27 (by decide)
        have y28 : rA Y 28 = rA X 28 := y2.1.2.1 28 (by decide)
        refine ⟨s, by omega, by rw [b26, pk_us], s40, fun k hk => ?_, fun i j hi hj => by rw [b27, y27]; exact p2 i j hi hj, fun t ht => ?_⟩
        · obtain ⟨t, t1, t2, t3, -⟩ := p1 k hk
          exact ⟨t, t1, by rw [b27, y27]; exact t2, by rw [b28, y28]; exact t3⟩
        · obtain ⟨k, k1, k2⟩ := p3 t ht
          refine ⟨k, k1, ?_⟩
          unfold tkB at *
          rw [b27, y27]
          exact k2
      · have hc2 : c < m.2.2.2.1.length := by omega
        rw [qAt_app hc2]
        obtain ⟨s', hs'⟩ := q3 c hc2
        exact ⟨s', hs'.cg (by rw [b26, pk_un cc]) (fun k hk => by rw [b27]; exact (a28 _ (by omega)).2) (fun k hk => by rw [b28]; exact (a28 _ (by omega)).1)⟩
    · rw [qVal_app, hl, b37, b28]
      cases e2 : chQ N m V tk b with
      | some x =>
        obtain ⟨k, k1, k2⟩ := xp.2.2 b (by rw [e2]; exact Option.some_ne_none x)
        obtain ⟨t, t1, t2, t3, t4⟩ := xp.1 k k1
        have et : b = t := by
          unfold tkB at k2
          rw [t2, nI_clamp (by omega)] at k2
          exact k2.symm
        rw [← et] at t3 t4
        refine Or.inr ⟨64 * m.2.2.2.1.length + k, by omega, by rw [y2.1.2.1 37 (by decide)]; exact t4, ?_⟩
        rw [y2.1.2.1 28 (by decide), ← t3, e2]
      | none =>
        rw [a37 b hb e2]
        rcases q5 b hb with z | ⟨k, k1, k2, k3⟩
        · exact Or.inl z
        · exact Or.inr ⟨k, by omega, k2, by rw [(a28 k k1).1]; exact k3⟩
end PVH
