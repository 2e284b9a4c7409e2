/-! ===== the model's hardware: what is seen of a block, what a crash may leave of it ===== -/
section MHA
theorem wRd_cat (u : Nat) : ∀ (l m : Wt) (z : Rw), wRd (l ++ m) u z = wRd m u (wRd l u z)
  | [], _, _ => rfl
  | p :: l, m, z => wRd_cat u l m _
theorem wRd_mem (u : Nat) : ∀ (l : Wt) (z : Rw), wRd l u z = z ∨ (u, wRd l u z) ∈ l
  | [], _ => Or.inl rfl
  | p :: l, z => by
    rcases wRd_mem u l (if p.1 = u then p.2 else z) with h | h
    · by_cases e : p.1 = u
      · right
        show (u, wRd l u (if p.1 = u then p.2 else z)) ∈ p :: l
        rw [h, if_pos e, ← e]
        exact List.mem_cons_self
      · left
        show wRd l u (if p.1 = u then p.2 else z) = z
        rw [h, if_neg e]
    · exact Or.inr (List.mem_cons_of_mem _ h)
theorem aKp_rd {D : Dk0} {u : Nat} : aRd (aKp D) u = aRd D u := by
  obtain ⟨s, l⟩ := D
  cases l with
  | nil => rfl
  | cons p l =>
    show wRd l u (wSy [p] s u) = wRd (p :: l) u (s u)
    rw [wSy_at]
    rfl
theorem aRd_wr {D : Dk0} {t u : Nat} {x : Rw} : aRd (aWr D t x) u = if t = u then x else aRd D u := by
  unfold aWr
  by_cases e : D.2.length = 256
  · rw [if_pos e]
    show wRd ((aKp D).2 ++ [(t, x)]) u ((aKp D).1 u) = _
    rw [wRd_app]
    show (if t = u then x else aRd (aKp D) u) = _
    rw [aKp_rd]
  · rw [if_neg e]
    show wRd (D.2 ++ [(t, x)]) u (D.1 u) = _
    rw [wRd_app]
    rfl
/-- what may lie on the disk for block u behind a crash -/
def dPs (D : Dk0) (u : Nat) (y : Rw) : Prop := y = D.1 u ∨ (u, y) ∈ D.2
theorem dPs_rd {D : Dk0} {u : Nat} : dPs D u (aRd D u) := wRd_mem u D.2 (D.1 u)
theorem dPs_kp {D : Dk0} {u : Nat} {y : Rw} (h : dPs (aKp D) u y) : dPs D u y := by
  obtain ⟨s, l⟩ := D
  cases l with
  | nil =>
    rcases h with h | h
    · exact Or.inl h
    · exact absurd h List.not_mem_nil
  | cons p l =>
    rcases h with h | h
    · have h : y = wSy [p] s u := h
      rw [wSy_at] at h
      rcases wRd_mem u [p] (s u) with e | e
      · exact Or.inl (h.trans e)
      · rw [← h] at e
        exact Or.inr (List.mem_cons.mpr (Or.inl (List.mem_singleton.mp e)))
    · exact Or.inr (List.mem_cons_of_mem _ h)
theorem dPs_wr {D : Dk0} {t u : Nat} {x y : Rw} (h : dPs (aWr D t x) u y) : dPs D u y ∨ (u = t ∧ y = x) := by
  unfold aWr at h
  by_cases e : D.2.length = 256
  · rw [if_pos e] at h
    rcases h with h | h
    · exact Or.inl (dPs_kp (Or.inl h))
    · rcases List.mem_append.mp h with h | h
      · exact Or.inl (dPs_kp (Or.inr h))
      · have := List.mem_singleton.mp h
        injection this with a b
        exact Or.inr ⟨a, b⟩
  · rw [if_neg e] at h
    rcases h with h | h
    · exact Or.inl (Or.inl h)
    · rcases List.mem_append.mp h with h | h
      · exact Or.inl (Or.inr h)
      · have := List.mem_singleton.mp h
        injection this with a b
        exact Or.inr ⟨a, b⟩
/-- how many of the first n blocks the buffer holds -/
def bNum (b : Nat → Option (Nat × Rw)) : Nat → Nat
  | 0 => 0
  | n + 1 => bNum b n + (if (b n).isSome then 1 else 0)
theorem bNum_set_ge {b : Nat → Option (Nat × Rw)} {t : Nat} {v : Option (Nat × Rw)} : ∀ n, n ≤ t → bNum (bSet b t v) n = bNum b n
  | 0, _ => rfl
  | n + 1, h => by
    show bNum (bSet b t v) n + (if (bSet b t v n).isSome then 1 else 0) = bNum b n + (if (b n).isSome then 1 else 0)
    rw [bNum_set_ge n (by omega), bSet_n (by omega)]
theorem bNum_set {b : Nat → Option (Nat × Rw)} {t : Nat} {v : Option (Nat × Rw)} : ∀ n, t < n → bNum (bSet b t v) n + (if (b t).isSome then 1 else 0) = bNum b n + (if v.isSome then 1 else 0)
  | 0, h => absurd h (by omega)
  | n + 1, h => by
    show bNum (bSet b t v) n + (if (bSet b t v n).isSome then 1 else 0) + _ = bNum b n + (if (b n).isSome then 1 else 0) + _
    by_cases e : t = n
    · subst e
      rw [bNum_set_ge t (Nat.le_refl _), bSet_e]
      omega
    · rw [bSet_n (fun q => e q.symm)]
      have := bNum_set (b := b) (t := t) (v := v) n (by omega)
      omega
theorem bNum_pos {b : Nat → Option (Nat × Rw)} : ∀ n, 0 < bNum b n → ∃ t, t < n ∧ (b t).isSome = true
  | 0, h => absurd h (Nat.lt_irrefl 0)
  | n + 1, h => by
    have h : 0 < bNum b n + (if (b n).isSome then 1 else 0) := h
    by_cases e : (b n).isSome = true
    · exact ⟨n, by omega, e⟩
    · rw [if_neg e] at h
      obtain ⟨t, ht, q⟩ := bNum_pos n h
      exact ⟨t, by omega, q⟩
theorem bNum_none {b : Nat → Option (Nat × Rw)} : ∀ n, (∀ t, t < n → b t = none) → bNum b n = 0
  | 0, _ => rfl
  | n + 1, h => by
    show bNum b n + (if (b n).isSome then 1 else 0) = 0
    rw [bNum_none n (fun t ht => h t (by omega)), h n (by omega)]
    rfl
/-- the buffer's least one is there -/
theorem bMin_ex {N : Nat} {b : Nat → Option (Nat × Rw)} (h : 0 < bNum b N) : ∃ t, BMin N b t := by
  obtain ⟨t0, ht0, e0⟩ := bNum_pos N h
  have key : ∀ m t q x, t < N → b t = some (q, x) → q ≤ m → ∃ t, BMin N b t := by
    intro m
    induction m with
    | zero =>
      intro t q x ht e hq
      exact ⟨t, ht, q, x, e, fun u r y _ _ => by omega⟩
    | succ m ih =>
      intro t q x ht e hq
      by_cases c : ∃ u r y, u < N ∧ b u = some (r, y) ∧ r < q
      · obtain ⟨u, r, y, hu, er, hr⟩ := c
        exact ih u r y hu er (by omega)
      · exact ⟨t, ht, q, x, e, fun u r y hu er => Classical.byContradiction fun z => c ⟨u, r, y, hu, er, by omega⟩⟩
  obtain ⟨⟨q, x⟩, e⟩ := Option.isSome_iff_exists.mp e0
  exact key q t0 q x ht0 e (Nat.le_refl _)
/-- the order of the model's hardware -/
def HOk (N B : Nat) (h : Hw) : Prop := BsOk N h.2.1 ∧ h.2.1.2.1 = bNum h.2.1.1 N ∧ h.2.1.2.1 ≤ B ∧ 1 ≤ B
def hSee (h : Hw) (t : Nat) : Rw := match h.2.1.1 t with
  | some (_, x) => x
  | none => aRd h.1 t
def hPs (h : Hw) (t : Nat) (x : Rw) : Prop := dPs h.1 t x ∨ ∃ q, h.2.1.1 t = some (q, x)
theorem hSee_s {h : Hw} {t q : Nat} {x : Rw} (e : h.2.1.1 t = some (q, x)) : hSee h t = x := by
  unfold hSee
  rw [e]
theorem hSee_n {h : Hw} {t : Nat} (e : h.2.1.1 t = none) : hSee h t = aRd h.1 t := by
  unfold hSee
  rw [e]
theorem hPs_see {h : Hw} {t : Nat} : hPs h t (hSee h t) := by
  cases e : h.2.1.1 t with
  | none =>
    rw [hSee_n e]
    exact Or.inl dPs_rd
  | some p =>
    obtain ⟨q, x⟩ := p
    rw [hSee_s e]
    exact Or.inr ⟨q, e⟩
/-- the buffer's block that must leave -/
theorem HOk.out {N B : Nat} {D : Dk0} {bf : Nat → Option (Nat × Rw)} {hd sp : Nat} {pu le wr ss : Int32} (h : HOk N B (D, (bf, hd, sp, pu), le, wr, ss)) (e : hd = B) : bOut N bf < N ∧ ∃ q, bf (bOut N bf) = some (q, bVal bf (bOut N bf)) := by
  obtain ⟨h1, h2, h3, h4⟩ := h
  have h2 : hd = bNum bf N := h2
  obtain ⟨t, m⟩ := bMin_ex (N := N) (b := bf) (by omega)
  have ho : bOut N bf = t := bOut_eq (b := (bf, hd, sp, pu)) h1 m
  obtain ⟨m1, q, x, m2, m3⟩ := m
  rw [ho]
  refine ⟨m1, q, ?_⟩
  unfold bVal
  rw [m2]
theorem aPl_ok {N B t : Nat} {x : Rw} {h : Hw} (ho : HOk N B h) (ht : t < N) : HOk N B (aPl N B t x h).2 := by
  obtain ⟨D, ⟨bf, hd, sp, pu⟩, le, wr, ss⟩ := h
  have hout := ho.out
  obtain ⟨h1, h2, h3, h4⟩ := ho
  have h2 : hd = bNum bf N := h2
  have h3 : hd ≤ B := h3
  show HOk N B (if bf t = none then _ else _ : Bool × Hw).2
  by_cases c1 : bf t = none
  · rw [if_pos c1]
    by_cases c2 : hd = B
    · rw [if_pos c2]
      by_cases c3 : le = 0
      · rw [if_pos c3]
        exact ⟨h1, h2, h3, h4⟩
      · rw [if_neg c3]
        obtain ⟨o1, q, o2⟩ := hout c2
        refine ⟨BsOk.new (BsOk.less (hd' := hd) (pu' := pu) h1), ?_, h3, h4⟩
        show hd = bNum (bSet (bSet bf (bOut N bf) none) t (some (sp, x))) N
        have hne : t ≠ bOut N bf := fun z => by rw [← z, c1] at o2; cases o2
        have e1 := bNum_set (b := bf) (v := none) N o1
        have e2 := bNum_set (b := bSet bf (bOut N bf) none) (v := some (sp, x)) N ht
        rw [bSet_n hne, c1] at e2
        rw [o2] at e1
        have e1 : bNum (bSet bf (bOut N bf) none) N + 1 = bNum bf N + 0 := e1
        have e2 : bNum (bSet (bSet bf (bOut N bf) none) t (some (sp, x))) N + 0 = bNum (bSet bf (bOut N bf) none) N + 1 := e2
        omega
    · rw [if_neg c2]
      have e2 := bNum_set (b := bf) (v := some (sp, x)) N ht
      rw [c1] at e2
      have e2 : bNum (bSet bf t (some (sp, x))) N + 0 = bNum bf N + 1 := e2
      exact ⟨BsOk.new h1, by show hd + 1 = bNum (bSet bf t (some (sp, x))) N; omega, by show hd + 1 ≤ B; omega, h4⟩
  · rw [if_neg c1]
    have e2 := bNum_set (b := bf) (v := some (sp, x)) N ht
    have es : (bf t).isSome = true := by
      cases q : bf t with
      | none => exact absurd q c1
      | some p => rfl
    rw [es] at e2
    have e2 : bNum (bSet bf t (some (sp, x))) N + 1 = bNum bf N + 1 := e2
    exact ⟨BsOk.new h1, by show hd = bNum (bSet bf t (some (sp, x))) N; omega, h3, h4⟩
theorem aPl_see {N B t u : Nat} {x : Rw} {h : Hw} (ho : HOk N B h) (hp : (aPl N B t x h).1 = true) : hSee (aPl N B t x h).2 u = if u = t then x else hSee h u := by
  obtain ⟨D, ⟨bf, hd, sp, pu⟩, le, wr, ss⟩ := h
  have hout := ho.out
  have hp : (if bf t = none then (if hd = B then (if le = 0 then (false, D, (bf, hd, sp, pu), le, wr, ss) else (true, aWr D (bOut N bf) (bVal bf (bOut N bf)), (bSet (bSet bf (bOut N bf) none) t (some (sp, x)), hd, sp + 1, pu + 1), sLe le, wr + 1, ss)) else (true, D, (bSet bf t (some (sp, x)), hd + 1, sp + 1, pu), le, wr, ss)) else (true, D, (bSet bf t (some (sp, x)), hd, sp + 1, pu), le, wr, ss) : Bool × Hw).1 = true := hp
  show hSee (if bf t = none then (if hd = B then (if le = 0 then (false, D, (bf, hd, sp, pu), le, wr, ss) else (true, aWr D (bOut N bf) (bVal bf (bOut N bf)), (bSet (bSet bf (bOut N bf) none) t (some (sp, x)), hd, sp + 1, pu + 1), sLe le, wr + 1, ss)) else (true, D, (bSet bf t (some (sp, x)), hd + 1, sp + 1, pu), le, wr, ss)) else (true, D, (bSet bf t (some (sp, x)), hd, sp + 1, pu), le, wr, ss) : Bool × Hw).2 u = _
  have plain : ∀ hd' sp' pu' le', hSee (D, (bSet bf t (some (sp, x)), hd', sp', pu'), le', wr, ss) u = if u = t then x else hSee (D, (bf, hd, sp, pu), le, wr, ss) u := by
    intro hd' sp' pu' le'
    by_cases e : u = t
    · rw [if_pos e, e]
      exact hSee_s (q := sp) bSet_e
    · rw [if_neg e]
      unfold hSee
      show (match bSet bf t (some (sp, x)) u with | some (_, x) => x | none => aRd D u) = _
      rw [bSet_n e]
  by_cases c1 : bf t = none
  · rw [if_pos c1] at hp ⊢
    by_cases c2 : hd = B
    · rw [if_pos c2] at hp ⊢
      by_cases c3 : le = 0
      · rw [if_pos c3] at hp
        cases hp
      · rw [if_neg c3]
        obtain ⟨o1, q, o2⟩ := hout c2
        by_cases e : u = t
        · rw [if_pos e, e]
          exact hSee_s (q := sp) bSet_e
        · rw [if_neg e]
          by_cases e2 : u = bOut N bf
          · rw [hSee_n (by show bSet (bSet bf (bOut N bf) none) t (some (sp, x)) u = none; rw [bSet_n e, e2, bSet_e]), hSee_s (h := (D, (bf, hd, sp, pu), le, wr, ss)) (show bf u = some (q, bVal bf (bOut N bf)) by rw [e2]; exact o2)]
            show aRd (aWr D _ _) u = _
            rw [aRd_wr, if_pos e2.symm]
          · unfold hSee
            show (match bSet (bSet bf (bOut N bf) none) t (some (sp, x)) u with | some (_, x) => x | none => aRd (aWr D _ _) u) = (match bf u with | some (_, x) => x | none => aRd D u)
            rw [bSet_n e, bSet_n e2, aRd_wr, if_neg (fun z => e2 z.symm)]
    · rw [if_neg c2]
      exact plain _ _ _ _
  · rw [if_neg c1]
    exact plain _ _ _ _
theorem aPl_ps {N B t u : Nat} {x y : Rw} {h : Hw} (ho : HOk N B h) (hp : hPs (aPl N B t x h).2 u y) : hPs h u y ∨ (u = t ∧ y = x) := by
  obtain ⟨D, ⟨bf, hd, sp, pu⟩, le, wr, ss⟩ := h
  have hout := ho.out
  have hp : hPs (if bf t = none then (if hd = B then (if le = 0 then (false, D, (bf, hd, sp, pu), le, wr, ss) else (true, aWr D (bOut N bf) (bVal bf (bOut N bf)), (bSet (bSet bf (bOut N bf) none) t (some (sp, x)), hd, sp + 1, pu + 1), sLe le, wr + 1, ss)) else (true, D, (bSet bf t (some (sp, x)), hd + 1, sp + 1, pu), le, wr, ss)) else (true, D, (bSet bf t (some (sp, x)), hd, sp + 1, pu), le, wr, ss) : Bool × Hw).2 u y := hp
  have plain : ∀ hd' sp' pu' le', hPs (D, (bSet bf t (some (sp, x)), hd', sp', pu'), le', wr, ss) u y → hPs (D, (bf, hd, sp, pu), le, wr, ss) u y ∨ (u = t ∧ y = x) := by
    intro hd' sp' pu' le' z
    rcases z with z | ⟨q, z⟩
    · exact Or.inl (Or.inl z)
    · have z : bSet bf t (some (sp, x)) u = some (q, y) := z
      by_cases e : u = t
      · rw [e, bSet_e] at z
        cases z
        exact Or.inr ⟨e, rfl⟩
      · rw [bSet_n e] at z
        exact Or.inl (Or.inr ⟨q, z⟩)
  by_cases c1 : bf t = none
  · rw [if_pos c1] at hp
    by_cases c2 : hd = B
    · rw [if_pos c2] at hp
      by_cases c3 : le = 0
      · rw [if_pos c3] at hp
        exact Or.inl hp
      · rw [if_neg c3] at hp
        obtain ⟨o1, q, o2⟩ := hout c2
        rcases hp with z | ⟨r, z⟩
        · rcases dPs_wr z with z | ⟨z1, z2⟩
          · exact Or.inl (Or.inl z)
          · exact Or.inl (Or.inr ⟨q, by show bf u = _; rw [z1, z2]; exact o2⟩)
        · have z : bSet (bSet bf (bOut N bf) none) t (some (sp, x)) u = some (r, y) := z
          by_cases e : u = t
          · rw [e, bSet_e] at z
            cases z
            exact Or.inr ⟨e, rfl⟩
          · rw [bSet_n e] at z
            by_cases e2 : u = bOut N bf
            · rw [e2, bSet_e] at z
              cases z
            · rw [bSet_n e2] at z
              exact Or.inl (Or.inr ⟨r, z⟩)
    · rw [if_neg c2] at hp
      exact plain _ _ _ _ hp
  · rw [if_neg c1] at hp
    exact plain _ _ _ _ hp
theorem aPl_sp {N B t : Nat} {x : Rw} {h : Hw} : (aPl N B t x h).2.2.1.2.2.1 ≤ h.2.1.2.2.1 + 1 := by
  obtain ⟨D, ⟨bf, hd, sp, pu⟩, le, wr, ss⟩ := h
  show (if bf t = none then (if hd = B then (if le = 0 then (false, D, (bf, hd, sp, pu), le, wr, ss) else (true, aWr D (bOut N bf) (bVal bf (bOut N bf)), (bSet (bSet bf (bOut N bf) none) t (some (sp, x)), hd, sp + 1, pu + 1), sLe le, wr + 1, ss)) else (true, D, (bSet bf t (some (sp, x)), hd + 1, sp + 1, pu), le, wr, ss)) else (true, D, (bSet bf t (some (sp, x)), hd, sp + 1, pu), le, wr, ss) : Bool × Hw).2.2.1.2.2.1 ≤ sp + 1
  split
  · split
    · split
      · exact Nat.le_succ _
      · exact Nat.le_refl _
    · exact Nat.le_refl _
  · exact Nat.le_refl _
end MHA
