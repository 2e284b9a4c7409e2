/-! ===== the model: rows of 128 bytes, the disk that may forget, the buffer ===== -/
section MDA
abbrev Rw : Type := Nat → Int32
theorem nI_inj {a b : Nat} (ha : a < 2 ^ 31) (hb : b < 2 ^ 31) (h : nI a = nI b) : a = b := by
  have e := congrArg Int32.toNatClampNeg h
  rw [nI_clamp ha, nI_clamp hb] at e
  exact e
/-- a row's 128 bytes, and nothing behind them -/
def nr (g : Nat → Int32) : Rw := fun i => if i < 128 then g i else 0
theorem nr_at {g : Nat → Int32} {i : Nat} (h : i < 128) : nr g i = g i := if_pos h
theorem nr_eq {g h : Nat → Int32} (e : ∀ i, i < 128 → g i = h i) : nr g = nr h := by
  funext i
  unfold nr
  split
  · next q => exact e i q
  · rfl
theorem nr_nr (g : Nat → Int32) : nr (nr g) = nr g := nr_eq (fun i h => nr_at h)
theorem nr_cpy {x y : Nat → Int32} : nr (va_cpy x y 0 0 128) = nr x := nr_eq (fun i h => by
  rw [pk_cpy_in (Nat.zero_le _) (by omega)]
  congr 1
  omega)
/-- row k of rows that lie behind each other -/
def fl (g : Nat → Int32) (k : Nat) : Nat → Int32 := fun i => g (128 * k + i)
theorem fl_in {g h : Nat → Int32} {a k : Nat} : nr (fl (va_cpy g h a (128 * k) 128) k) = nr (fun i => g (a + i)) := nr_eq (fun i hi => by
  unfold fl
  rw [pk_cpy_in (by omega) (by omega)]
  congr 1
  omega)
theorem fl_out {g h : Nat → Int32} {a k j : Nat} (hj : j ≠ k) : nr (fl (va_cpy g h a (128 * k) 128) j) = nr (fl h j) := nr_eq (fun i hi => by
  unfold fl
  exact pk_cpy_out (by omega))
/-- what waits, in the order of its writing -/
abbrev Wt : Type := List (Nat × Rw)
/-- the latest value of block t, z if none waits -/
def wRd : Wt → Nat → Rw → Rw
  | [], _, z => z
  | p :: l, t, z => wRd l t (if p.1 = t then p.2 else z)
def wCnt : Wt → Nat → Nat
  | [], _ => 0
  | p :: l, t => wCnt l t + (if p.1 = t then 1 else 0)
/-- all that wait are synced -/
def wSy : Wt → (Nat → Rw) → Nat → Rw
  | [], s => s
  | p :: l, s => wSy l (va_up s p.1 p.2)
theorem wRd_app (t : Nat) (p : Nat × Rw) : ∀ (l : Wt) (z : Rw), wRd (l ++ [p]) t z = if p.1 = t then p.2 else wRd l t z
  | [], z => rfl
  | q :: l, z => wRd_app t p l _
theorem wCnt_app (t : Nat) (p : Nat × Rw) : ∀ (l : Wt), wCnt (l ++ [p]) t = wCnt l t + (if p.1 = t then 1 else 0)
  | [] => rfl
  | q :: l => by
    show wCnt (l ++ [p]) t + _ = wCnt l t + _ + _
    rw [wCnt_app t p l]
    omega
theorem wSy_at (t : Nat) : ∀ (l : Wt) (s : Nat → Rw), wSy l s t = wRd l t (s t)
  | [], s => rfl
  | p :: l, s => by
    show wSy l (va_up s p.1 p.2) t = wRd l t (if p.1 = t then p.2 else s t)
    rw [wSy_at t l]
    congr 1
    show (if t = p.1 then p.2 else s t) = _
    by_cases h : t = p.1
    · rw [if_pos h, if_pos h.symm]
    · rw [if_neg h, if_neg (fun q => h q.symm)]
theorem wRd_none (t : Nat) : ∀ (l : Wt) (z : Rw), (∀ p ∈ l, p.1 ≠ t) → wRd l t z = z
  | [], z, _ => rfl
  | p :: l, z, h => by
    show wRd l t (if p.1 = t then p.2 else z) = z
    rw [if_neg (h p List.mem_cons_self)]
    exact wRd_none t l z (fun q hq => h q (List.mem_cons_of_mem _ hq))
theorem wCnt_none (t : Nat) : ∀ (l : Wt), wCnt l t = 0 ↔ ∀ p ∈ l, p.1 ≠ t
  | [] => ⟨fun _ p hp => absurd hp List.not_mem_nil, fun _ => rfl⟩
  | p :: l => by
    have ih := wCnt_none t l
    constructor
    · intro h q hq
      have h : wCnt l t + (if p.1 = t then 1 else 0) = 0 := h
      rcases List.mem_cons.mp hq with rfl | hq
      · intro e
        rw [if_pos e] at h
        omega
      · exact ih.mp (by omega) q hq
    · intro h
      show wCnt l t + (if p.1 = t then 1 else 0) = 0
      rw [if_neg (h p List.mem_cons_self), ih.mpr (fun q hq => h q (List.mem_cons_of_mem _ hq))]
abbrev Dk0 : Type := (Nat → Rw) × Wt
/-- the one that was written first is synced -/
def aKp (s : Dk0) : Dk0 := (wSy (s.2.take 1) s.1, s.2.drop 1)
/-- one value more waits -/
def aWr (s : Dk0) (t : Nat) (x : Rw) : Dk0 := if s.2.length = 256 then ((aKp s).1, (aKp s).2 ++ [(t, x)]) else (s.1, s.2 ++ [(t, x)])
def aSy (s : Dk0) : Dk0 := (wSy s.2 s.1, [])
def aRd (s : Dk0) (t : Nat) : Rw := wRd s.2 t (s.1 t)
/-- a ring of 256: the list that it holds -/
def rgL (bo : Nat → Int32) (va : Nat → Nat → Int32) (a n : Nat) : Wt := (List.range n).map fun i => ((bo ((a + i) % 256)).toNatClampNeg, nr (va ((a + i) % 256)))
theorem rgL_len {bo : Nat → Int32} {va : Nat → Nat → Int32} {a n : Nat} : (rgL bo va a n).length = n := by
  unfold rgL
  rw [List.length_map, List.length_range]
theorem rgL_succ {bo : Nat → Int32} {va : Nat → Nat → Int32} {a n : Nat} : rgL bo va a (n + 1) = rgL bo va a n ++ [((bo ((a + n) % 256)).toNatClampNeg, nr (va ((a + n) % 256)))] := by
  unfold rgL
  rw [List.range_succ, List.map_append]
  rfl
theorem rgL_cons {bo : Nat → Int32} {va : Nat → Nat → Int32} {a n : Nat} : rgL bo va a (n + 1) = ((bo (a % 256)).toNatClampNeg, nr (va (a % 256))) :: rgL bo va ((a + 1) % 256) n := by
  unfold rgL
  rw [List.range_succ_eq_map, List.map_cons, List.map_map]
  congr 1
  apply List.map_congr_left
  intro i _
  show ((bo ((a + (i + 1)) % 256)).toNatClampNeg, nr (va ((a + (i + 1)) % 256))) = _
  rw [show (a + (i + 1)) % 256 = ((a + 1) % 256 + i) % 256 by omega]
theorem rgL_congr {bo bo' : Nat → Int32} {va va' : Nat → Nat → Int32} {a n : Nat} (h : ∀ i, i < n → bo ((a + i) % 256) = bo' ((a + i) % 256) ∧ nr (va ((a + i) % 256)) = nr (va' ((a + i) % 256))) : rgL bo va a n = rgL bo' va' a n := by
  unfold rgL
  apply List.map_congr_left
  intro i hi
  obtain ⟨h1, h2⟩ := h i (List.mem_range.mp hi)
  rw [h1, h2]
theorem rgL_mem {bo : Nat → Int32} {va : Nat → Nat → Int32} {a n : Nat} {p : Nat × Rw} (h : p ∈ rgL bo va a n) : ∃ i, i < n ∧ p.1 = (bo ((a + i) % 256)).toNatClampNeg := by
  unfold rgL at h
  obtain ⟨i, hi, e⟩ := List.mem_map.mp h
  exact ⟨i, List.mem_range.mp hi, by rw [← e]⟩
/-- where the latest value of t stands in the ring -/
def LaOk (la bo : Nat → Int32) (a n t : Nat) : Prop := (la t = -1 ∧ ∀ i, i < n → ¬ bo ((a + i) % 256) = nI t) ∨ ∃ i, i < n ∧ la t = nI ((a + i) % 256) ∧ bo ((a + i) % 256) = nI t ∧ ∀ j, i < j → j < n → ¬ bo ((a + j) % 256) = nI t
/-- the disk's ring and what it stands for -/
def RG (N : Nat) (D : Dk0) (la bo : Nat → Int32) (sy va : Nat → Nat → Int32) (a n : Nat) : Prop :=
  a < 256 ∧ n ≤ 256 ∧ (∀ t, t < N → D.1 t = nr (sy t)) ∧ D.2 = rgL bo va a n ∧ (∀ i, i < n → ∃ t, t < N ∧ bo ((a + i) % 256) = nI t) ∧ ∀ t, t < N → LaOk la bo a n t
theorem rg_last {bo : Nat → Int32} {va : Nat → Nat → Int32} {a t i : Nat} (hN : t < 2 ^ 31) (hi : bo ((a + i) % 256) = nI t) (z : Rw) : ∀ n, i < n → (∀ j, j < n → ∃ u, u < 2 ^ 31 ∧ bo ((a + j) % 256) = nI u) → (∀ j, i < j → j < n → ¬ bo ((a + j) % 256) = nI t) → wRd (rgL bo va a n) t z = nr (va ((a + i) % 256))
  | 0, h, _, _ => absurd h (by omega)
  | n + 1, h, hb, hl => by
    rw [rgL_succ, wRd_app]
    by_cases e : i = n
    · subst e
      rw [if_pos (by rw [hi]; exact nI_clamp hN)]
    · obtain ⟨u, hu, hbu⟩ := hb n (by omega)
      have hne : ¬ (bo ((a + n) % 256)).toNatClampNeg = t := by
        intro q
        rw [hbu, nI_clamp hu] at q
        exact hl n (by omega) (by omega) (by rw [hbu, q])
      rw [if_neg hne]
      exact rg_last hN hi z n (by omega) (fun j hj => hb j (by omega)) (fun j h1 h2 => hl j h1 (by omega))
theorem rg_none {bo : Nat → Int32} {va : Nat → Nat → Int32} {a n t : Nat} (hb : ∀ j, j < n → ∃ u, u < 2 ^ 31 ∧ bo ((a + j) % 256) = nI u) (h : ∀ i, i < n → ¬ bo ((a + i) % 256) = nI t) : ∀ p ∈ rgL bo va a n, p.1 ≠ t := by
  intro p hp e
  obtain ⟨i, hi, e2⟩ := rgL_mem hp
  obtain ⟨u, hu, hbu⟩ := hb i hi
  rw [hbu, nI_clamp hu] at e2
  exact h i hi (by rw [hbu, ← e2, e])
theorem RG.bb {N : Nat} {D : Dk0} {la bo : Nat → Int32} {sy va : Nat → Nat → Int32} {a n : Nat} (h : RG N D la bo sy va a n) (hN : N ≤ 1024) : ∀ j, j < n → ∃ u, u < 2 ^ 31 ∧ bo ((a + j) % 256) = nI u := fun j hj => by
  obtain ⟨u, hu, e⟩ := h.2.2.2.2.1 j hj
  exact ⟨u, by omega, e⟩
/-- what the disk reads -/
theorem RG.read {N : Nat} {D : Dk0} {la bo : Nat → Int32} {sy va : Nat → Nat → Int32} {a n : Nat} (h : RG N D la bo sy va a n) (hN : N ≤ 1024) {t : Nat} (ht : t < N) : aRd D t = if la t = -1 then nr (sy t) else nr (va (la t).toNatClampNeg) := by
  have hb := h.bb hN
  obtain ⟨h1, h2, h3, h4, h5, h6⟩ := h
  unfold aRd
  rw [h4, h3 t ht]
  rcases h6 t ht with ⟨e, hn⟩ | ⟨i, hi, e, hbi, hl⟩
  · rw [if_pos e]
    exact wRd_none t _ _ (rg_none hb hn)
  · have hlt : (a + i) % 256 < 256 := Nat.mod_lt _ (by decide)
    rw [if_neg (by rw [e]; exact nI_m1 (by omega)), e, nI_clamp (by omega)]
    exact rg_last (by omega) hbi _ n hi hb hl
/-- one value more, where there is room -/
theorem RG.put {N : Nat} {D : Dk0} {la bo : Nat → Int32} {sy va va' : Nat → Nat → Int32} {a n : Nat} (h : RG N D la bo sy va a n) (hN : N ≤ 1024) (hn : n < 256) {t : Nat} (ht : t < N) {x : Rw} (hx : nr (va' ((a + n) % 256)) = x) (hv : ∀ k, k ≠ (a + n) % 256 → nr (va' k) = nr (va k)) :
    RG N (D.1, D.2 ++ [(t, x)]) (upd la t (nI ((a + n) % 256))) (upd bo ((a + n) % 256) (nI t)) sy va' a (n + 1) := by
  obtain ⟨h1, h2, h3, h4, h5, h6⟩ := h
  have hne : ∀ i, i < n → (a + i) % 256 ≠ (a + n) % 256 := fun i hi => by omega
  have hbo : ∀ i, i < n → upd bo ((a + n) % 256) (nI t) ((a + i) % 256) = bo ((a + i) % 256) := fun i hi => pk_un (hne i hi)
  refine ⟨h1, by omega, h3, ?_, ?_, ?_⟩
  · rw [rgL_succ, pk_us, nI_clamp (by omega), hx]
    show D.2 ++ [(t, x)] = _
    rw [h4]
    congr 1
    exact rgL_congr (fun i hi => ⟨(hbo i hi).symm, (hv _ (hne i hi)).symm⟩)
  · intro i hi
    by_cases e : i = n
    · subst e
      exact ⟨t, ht, pk_us⟩
    · obtain ⟨u, hu, e2⟩ := h5 i (by omega)
      exact ⟨u, hu, by rw [hbo i (by omega)]; exact e2⟩
  · intro u hu
    by_cases e : u = t
    · subst e
      exact Or.inr ⟨n, by omega, pk_us, pk_us, fun j h1 h2 => absurd h1 (by omega)⟩
    · have hnt : ¬ nI t = nI u := fun q => e (nI_inj (by omega) (by omega) q).symm
      rcases h6 u hu with ⟨q1, q2⟩ | ⟨i, q1, q2, q3, q4⟩
      · refine Or.inl ⟨by rw [pk_un e]; exact q1, fun i hi => ?_⟩
        by_cases ei : i = n
        · subst ei
          rw [pk_us]
          exact hnt
        · rw [hbo i (by omega)]
          exact q2 i (by omega)
      · refine Or.inr ⟨i, by omega, by rw [pk_un e]; exact q2, by rw [hbo i q1]; exact q3, fun j h1 h2 => ?_⟩
        by_cases ei : j = n
        · subst ei
          rw [pk_us]
          exact hnt
        · rw [hbo j (by omega)]
          exact q4 j h1 (by omega)
/-- the first one is synced -/
theorem RG.keep {N : Nat} {D : Dk0} {la la' bo : Nat → Int32} {sy sy' va : Nat → Nat → Int32} {a n : Nat} (h : RG N D la bo sy va a n) (hN : N ≤ 1024) (hn : 1 ≤ n) {b : Nat} (hb : b < N) (hbo : bo a = nI b) (hsy : nr (sy' b) = nr (va a)) (hso : ∀ k, k < N → k ≠ b → nr (sy' k) = nr (sy k))
    (hla : la' b = if la b = nI a then -1 else la b) (hlo : ∀ k, k < N → k ≠ b → la' k = la k) : RG N (aKp D) la' bo sy' va ((a + 1) % 256) (n - 1) := by
  obtain ⟨h1, h2, h3, h4, h5, h6⟩ := h
  obtain ⟨m, rfl⟩ : ∃ m, n = m + 1 := ⟨n - 1, by omega⟩
  have ea : a % 256 = a := by omega
  have e4 : D.2 = (b, nr (va a)) :: rgL bo va ((a + 1) % 256) m := by
    rw [h4, rgL_cons, ea, hbo, nI_clamp (by omega)]
  have sh : ∀ i, ((a + 1) % 256 + i) % 256 = (a + (i + 1)) % 256 := fun i => by omega
  have e0 : (a + 0) % 256 = a := by omega
  refine ⟨Nat.mod_lt _ (by decide), by omega, ?_, ?_, ?_, ?_⟩
  · intro t ht
    show wSy (D.2.take 1) D.1 t = _
    rw [e4]
    show (if t = b then nr (va a) else D.1 t) = _
    by_cases e : t = b
    · rw [if_pos e, e, hsy]
    · rw [if_neg e, hso t ht e]
      exact h3 t ht
  · show D.2.drop 1 = _
    rw [e4]
    rfl
  · intro i hi
    rw [sh]
    exact h5 (i + 1) (by omega)
  · intro t ht
    by_cases e : t = b
    · subst e
      rcases h6 t ht with ⟨q1, q2⟩ | ⟨i, q1, q2, q3, q4⟩
      · exact absurd hbo (by have := q2 0 (by omega); rw [e0] at this; exact this)
      · by_cases ei : i = 0
        · subst ei
          rw [e0] at q2
          refine Or.inl ⟨by rw [hla, if_pos q2], fun j hj => ?_⟩
          rw [sh]
          exact q4 (j + 1) (by omega) (by omega)
        · have hne : ¬ la t = nI a := by
            rw [q2]
            intro q
            have := nI_inj (by omega) (by omega) q
            omega
          refine Or.inr ⟨i - 1, by omega, ?_, ?_, fun j h1 h2 => ?_⟩
          · rw [hla, if_neg hne, sh, show i - 1 + 1 = i by omega]
            exact q2
          · rw [sh, show i - 1 + 1 = i by omega]
            exact q3
          · rw [sh]
            exact q4 (j + 1) (by omega) (by omega)
    · rcases h6 t ht with ⟨q1, q2⟩ | ⟨i, q1, q2, q3, q4⟩
      · refine Or.inl ⟨by rw [hlo t ht e]; exact q1, fun j hj => ?_⟩
        rw [sh]
        exact q2 (j + 1) (by omega)
      · have ei : i ≠ 0 := by
          rintro rfl
          rw [e0, hbo] at q3
          exact e (nI_inj (by omega) (by omega) q3).symm
        refine Or.inr ⟨i - 1, by omega, ?_, ?_, fun j h1 h2 => ?_⟩
        · rw [hlo t ht e, sh, show i - 1 + 1 = i by omega]
          exact q2
        · rw [sh, show i - 1 + 1 = i by omega]
          exact q3
        · rw [sh]
          exact q4 (j + 1) (by omega) (by omega)
theorem wCnt_le (t : Nat) : ∀ l : Wt, wCnt l t ≤ l.length
  | [] => Nat.le_refl _
  | p :: l => by
    have := wCnt_le t l
    show wCnt l t + (if p.1 = t then 1 else 0) ≤ l.length + 1
    split <;> omega
theorem rgL_nth {bo : Nat → Int32} {va : Nat → Nat → Int32} {a n i : Nat} (hi : i < n) : ((bo ((a + i) % 256)).toNatClampNeg, nr (va ((a + i) % 256))) ∈ rgL bo va a n := List.mem_map.mpr ⟨i, List.mem_range.mpr hi, rfl⟩
/-- the class's disk and what it stands for -/
def CDk (N : Nat) (D : Dk0) : DkT → Prop := fun (w, la, bo, sy, va, a, n) => RG N D la bo sy va a n ∧ ∀ t, t < N → w t = nI (wCnt D.2 t)
theorem CDk.keep {N : Nat} {D : Dk0} {d : DkT} (h : CDk N D d) (hN : N ≤ 1024) (hn : 1 ≤ d.2.2.2.2.2.2) : CDk N (aKp D) (dKeep d) := by
  obtain ⟨w, la, bo, sy, va, a, n⟩ := d
  obtain ⟨h, hw⟩ := h
  have hn : 1 ≤ n := hn
  have hbb := h.bb hN
  obtain ⟨h1, h2, h3, h4, h5, h6⟩ := id h
  have e0 : (a + 0) % 256 = a := by omega
  obtain ⟨b, hb, hbo⟩ := h5 0 (by omega)
  rw [e0] at hbo
  have hcl : (bo a).toNatClampNeg = b := by rw [hbo]; exact nI_clamp (by omega)
  have sh : ∀ i, ((a + 1) % 256 + i) % 256 = (a + (i + 1)) % 256 := fun i => by omega
  have e4 : D.2 = (b, nr (va a)) :: rgL bo va ((a + 1) % 256) (n - 1) := by
    have e5 : n = n - 1 + 1 := by omega
    rw [h4]
    conv => lhs; rw [e5]
    rw [rgL_cons, show a % 256 = a by omega, hcl]
  have ed : (aKp D).2 = rgL bo va ((a + 1) % 256) (n - 1) := by
    show D.2.drop 1 = _
    rw [e4]
    rfl
  have hc : ∀ t, wCnt D.2 t = wCnt (rgL bo va ((a + 1) % 256) (n - 1)) t + (if b = t then 1 else 0) := fun t => by rw [e4]; rfl
  have hcb : ∀ t, wCnt (rgL bo va ((a + 1) % 256) (n - 1)) t < 2 ^ 31 := fun t => by
    have := wCnt_le t (rgL bo va ((a + 1) % 256) (n - 1))
    rw [rgL_len] at this
    omega
  have hw1 : w b - 1 = nI (wCnt (rgL bo va ((a + 1) % 256) (n - 1)) b) := by
    rw [hw b hb, hc b, if_pos rfl, ← nI_1, Int32.add_sub_cancel]
  have key : la b = nI a ↔ w b - 1 = 0 := by
    constructor
    · intro q
      rcases h6 b hb with ⟨q1, -⟩ | ⟨i, q1, q2, q3, q4⟩
      · exact absurd (q.symm.trans q1) (nI_m1 (by omega))
      · have ei : i = 0 := by
          rw [q] at q2
          have := nI_inj (by omega) (by omega) q2
          omega
        subst ei
        rw [hw1, (wCnt_none b _).mpr (rg_none (fun j hj => by rw [sh]; exact hbb (j + 1) (by omega)) (fun i hi => by rw [sh]; exact q4 (i + 1) (by omega) (by omega)))]
        rfl
    · intro q
      rw [hw1] at q
      have z : wCnt (rgL bo va ((a + 1) % 256) (n - 1)) b = 0 := nI_inj (b := 0) (hcb b) (by decide) q
      rcases h6 b hb with ⟨-, q2⟩ | ⟨i, q1, q2, q3, q4⟩
      · exact absurd hbo (by have := q2 0 (by omega); rw [e0] at this; exact this)
      · by_cases ei : i = 0
        · subst ei
          rw [e0] at q2
          exact q2
        · have hm := rgL_nth (bo := bo) (va := va) (a := (a + 1) % 256) (n := n - 1) (i := i - 1) (by omega)
          have hne := (wCnt_none b _).mp z _ hm
          rw [sh, show i - 1 + 1 = i by omega, q3] at hne
          exact absurd (nI_clamp (by omega)) hne
  refine ⟨?_, ?_⟩
  · show RG N (aKp D) (if w (bo a).toNatClampNeg - 1 = 0 then upd la (bo a).toNatClampNeg (-1) else la) bo (va_up sy (bo a).toNatClampNeg (va_cpy (va a) (sy (bo a).toNatClampNeg) 0 0 128)) va ((a + 1) % 256) (n - 1)
    rw [hcl]
    refine h.keep hN hn hb hbo ?_ ?_ ?_ ?_
    · show nr (if b = b then _ else sy b) = _
      rw [if_pos rfl]
      exact nr_cpy
    · intro k _ hk
      show nr (if k = b then _ else sy k) = _
      rw [if_neg hk]
    · by_cases q : w b - 1 = 0
      · rw [if_pos q, if_pos (key.mpr q), pk_us]
      · rw [if_neg q, if_neg (fun z => q (key.mp z))]
    · intro k _ hk
      split
      · exact pk_un hk
      · rfl
  · intro t ht
    show upd w (bo a).toNatClampNeg (w (bo a).toNatClampNeg - 1) t = nI (wCnt (aKp D).2 t)
    rw [hcl, ed]
    by_cases e : t = b
    · subst e
      rw [pk_us, hw1]
    · rw [pk_un e, hw t ht, hc t, if_neg (fun q => e q.symm)]
      rfl
theorem CDk.len {N : Nat} {D : Dk0} {d : DkT} (h : CDk N D d) : D.2.length = d.2.2.2.2.2.2 := by
  obtain ⟨w, la, bo, sy, va, a, n⟩ := d
  rw [h.1.2.2.2.1, rgL_len]
theorem CDk.put {N : Nat} {D : Dk0} {d : DkT} {t : Nat} {x : Nat → Int32} (h : CDk N D d) (hN : N ≤ 1024) (hn : d.2.2.2.2.2.2 < 256) (ht : t < N) : CDk N (D.1, D.2 ++ [(t, nr x)]) (dPut d t x) := by
  obtain ⟨w, la, bo, sy, va, a, n⟩ := d
  obtain ⟨h, hw⟩ := h
  refine ⟨h.put hN hn ht ?_ ?_, ?_⟩
  · show nr (if (a + n) % 256 = (a + n) % 256 then _ else _) = _
    rw [if_pos rfl]
    exact nr_cpy
  · intro k hk
    show nr (if k = (a + n) % 256 then _ else va k) = _
    rw [if_neg hk]
  · intro u hu
    show upd w t (w t + 1) u = nI (wCnt (D.2 ++ [(t, nr x)]) u)
    rw [wCnt_app]
    by_cases e : u = t
    · subst e
      rw [pk_us, if_pos rfl, hw u hu, nI_1]
    · rw [pk_un e, if_neg (fun q => e q.symm)]
      exact hw u hu
theorem CDk.write {N : Nat} {D : Dk0} {d : DkT} {t : Nat} {x : Nat → Int32} (h : CDk N D d) (hN : N ≤ 1024) (ht : t < N) : CDk N (aWr D t (nr x)) (dWrite d t x) := by
  unfold dWrite aWr
  rw [h.len]
  have hle : d.2.2.2.2.2.2 ≤ 256 := by
    obtain ⟨w, la, bo, sy, va, a, n⟩ := d
    exact h.1.2.1
  by_cases e : d.2.2.2.2.2.2 = 256
  · rw [if_pos e, if_pos e]
    refine (h.keep hN (by omega)).put hN ?_ ht
    obtain ⟨w, la, bo, sy, va, a, n⟩ := d
    have e : n = 256 := e
    show n - 1 < 256
    omega
  · rw [if_neg e, if_neg e]
    exact h.put hN (by omega) ht
theorem aSy_kp {D : Dk0} {p : Nat × Rw} {l : Wt} (h : D.2 = p :: l) : aSy (aKp D) = aSy D := by
  unfold aSy aKp
  rw [h]
  rfl
theorem CDk.iter {N : Nat} (hN : N ≤ 1024) : ∀ (k : Nat) {D : Dk0} {d : DkT}, CDk N D d → d.2.2.2.2.2.2 = k → CDk N (aSy D) (dIter k d)
  | 0, D, d, h, e => by
    have hl := h.len
    rw [e] at hl
    have z : D.2 = [] := List.eq_nil_of_length_eq_zero hl
    have : aSy D = D := by
      obtain ⟨s, l⟩ := D
      have z : l = [] := z
      subst z
      rfl
    rw [this]
    exact h
  | k + 1, D, d, h, e => by
    have hl := h.len
    rw [e] at hl
    obtain ⟨p, l, z⟩ : ∃ p l, D.2 = p :: l := by
      cases hd : D.2 with
      | nil => rw [hd] at hl; exact absurd hl (by simp)
      | cons p l => exact ⟨p, l, rfl⟩
    rw [← aSy_kp z]
    refine CDk.iter hN k (h.keep hN (by omega)) ?_
    obtain ⟨w, la, bo, sy, va, a, n⟩ := d
    have e : n = k + 1 := e
    show n - 1 = k
    omega
theorem CDk.sync {N : Nat} {D : Dk0} {d : DkT} (h : CDk N D d) (hN : N ≤ 1024) : CDk N (aSy D) (dSync d) := CDk.iter hN _ h rfl
theorem CDk.read {N : Nat} {D : Dk0} {d : DkT} (h : CDk N D d) (hN : N ≤ 1024) {t : Nat} (ht : t < N) : nr (dRead d t) = aRd D t := by
  obtain ⟨w, la, bo, sy, va, a, n⟩ := d
  rw [h.1.read hN ht]
  show nr (if la t = -1 then sy t else va (la t).toNatClampNeg) = _
  split <;> rfl
end MDA
