/-! ===== pure: the reference's batches ===== -/
section PUV
variable {R : RfT} {N B : Nat}
def isS (M : QC) (b : Nat) : Nat := if (M b).isSome then 1 else 0
theorem isS_1 {M : QC} {b : Nat} : isS M b = 1 ↔ M b ≠ none := by
  unfold isS
  cases e : M b with
  | none => exact ⟨fun z => absurd z (by decide), fun z => absurd rfl z⟩
  | some x => exact ⟨fun _ => Option.some_ne_none x, fun _ => rfl⟩
theorem bList_len {M : QC} : ∀ n, (bList M n).length = rsC (isS M) 1 n
  | 0 => rfl
  | n + 1 => by
    show _ = rsC (isS M) 1 n + (if isS M n = 1 then 1 else 0)
    cases e : M n with
    | none =>
      rw [bList_n e, bList_len n, if_neg (fun z => isS_1.mp z e)]
      rfl
    | some x =>
      rw [bList_s e, List.length_append, bList_len n, if_pos (isS_1.mpr (by rw [e]; exact Option.some_ne_none x))]
      rfl
def upQ (M : QC) (t : Nat) (x : Rw) : QC := fun b => if b = t then some x else M b
theorem qN_ge {M : QC} {t : Nat} {x : Rw} : ∀ n, n ≤ t → rsC (isS (upQ M t x)) 1 n = rsC (isS M) 1 n
  | 0, _ => rfl
  | n + 1, h => by
    show rsC (isS (upQ M t x)) 1 n + (if isS (upQ M t x) n = 1 then 1 else 0) = rsC (isS M) 1 n + (if isS M n = 1 then 1 else 0)
    have e : isS (upQ M t x) n = isS M n := by
      show (if ((if n = t then some x else M n)).isSome then 1 else 0) = _
      rw [if_neg (show ¬ n = t by omega)]
      rfl
    rw [qN_ge n (by omega), e]
theorem qN_up {M : QC} {t : Nat} {x : Rw} : ∀ n, t < n → rsC (isS (upQ M t x)) 1 n = rsC (isS M) 1 n + (if M t = none then 1 else 0)
  | 0, h => absurd h (Nat.not_lt_zero _)
  | n + 1, h => by
    show rsC (isS (upQ M t x)) 1 n + (if isS (upQ M t x) n = 1 then 1 else 0) = rsC (isS M) 1 n + (if isS M n = 1 then 1 else 0) + _
    by_cases c : t = n
    · subst c
      have e : isS (upQ M t x) t = 1 := by
        unfold isS upQ
        rw [if_pos rfl]
        rfl
      rw [qN_ge t (Nat.le_refl _), if_pos e]
      by_cases c2 : M t = none
      · rw [if_neg (fun z => isS_1.mp z c2), if_pos c2]
      · rw [if_pos (isS_1.mpr c2), if_neg c2]
    · have e : isS (upQ M t x) n = isS M n := by
        show (if ((if n = t then some x else M n)).isSome then 1 else 0) = _
        rw [if_neg (show ¬ n = t by omega)]
        rfl
      rw [qN_up n (by omega), e]
      omega
/-- the reference's batch: n blocks, M's -/
def RBt (N : Nat) (R : RfT) (n : Nat) (M : QC) : Prop := rS R 47 = nI n ∧ n ≤ 40 ∧ (∀ k, k < n → ∃ t, t < N ∧ rA R 45 k = nI t ∧ M t = some (nr (fl (rA R 46) k))) ∧ (∀ i j, i < n → j < n → rA R 45 i = rA R 45 j → i = j) ∧ (∀ t, M t ≠ none → ∃ k, k < n ∧ (rA R 45 k).toNatClampNeg = t) ∧ Byt (rA R 46)
theorem RBt.len {n : Nat} {M : QC} (h : RBt N R n M) (hN : N ≤ 1024) : rsC (isS M) 1 N = n := by
  obtain ⟨h1, h2, h3, h4, h5, h6⟩ := h
  have key : ∀ k, k < n → ∃ t, t < N ∧ rA R 45 k = nI t ∧ (rA R 45 k).toNatClampNeg = t ∧ M t ≠ none := fun k hk => by
    obtain ⟨t, ht, e, e2⟩ := h3 k hk
    exact ⟨t, ht, e, by rw [e, nI_clamp (by omega)], by rw [e2]; exact Option.some_ne_none _⟩
  refine rsC_is N n (fun k => (rA R 45 k).toNatClampNeg) (fun i hi => ?_) (fun i j hi hj e => ?_) (fun b hb e => ?_)
  · obtain ⟨t, ht, e, e2, e3⟩ := key i hi
    show (rA R 45 i).toNatClampNeg < N ∧ isS M (rA R 45 i).toNatClampNeg = 1
    rw [e2]
    exact ⟨ht, isS_1.mpr e3⟩
  · obtain ⟨t, ht, e1, e2, -⟩ := key i hi
    obtain ⟨u, hu, e3, e4, -⟩ := key j hj
    have e : (rA R 45 i).toNatClampNeg = (rA R 45 j).toNatClampNeg := e
    exact h4 i j hi hj (by rw [e1, e3, ← e2, ← e4, e])
  · obtain ⟨k, hk, e2⟩ := h5 b (isS_1.mp e)
    exact ⟨k, hk, e2⟩
theorem z_bat_l {n t : Nat} (h47 : rS R 47 = nI n) (hn : n ≤ 40) : ∀ (m k : Nat), k ≤ n → n - k < m → ∃ r, e_batchAt_2 R m (nI t) (nI k) = some r ∧ ((r = -1 ∧ ∀ i, k ≤ i → i < n → ¬ rA R 45 i = nI t) ∨ ∃ i, i < n ∧ r = nI i ∧ rA R 45 i = nI t) := by
  intro m
  induction m with
  | zero => intro k _ h; exact absurd h (Nat.not_lt_zero _)
  | succ m ih =>
    intro k hk hm
    rw [e_batchAt_2, h47]
    by_cases c : k = n
    · rw [c, if_pos (nI_le (Nat.le_refl _) (by omega))]
      exact ⟨_, rfl, Or.inl ⟨rfl, fun i h1 h2 => by omega⟩⟩
    · rw [if_neg (nI_ge (by omega) (by omega)), ld_n (by omega) (by decide)]
      by_cases c2 : rA R 45 k = nI t
      · rw [if_pos c2]
        exact ⟨_, rfl, Or.inr ⟨k, by omega, rfl, c2⟩⟩
      · rw [if_neg c2, nI_1]
        obtain ⟨r, e, q⟩ := ih (k + 1) (by omega) (by omega)
        refine ⟨r, e, ?_⟩
        rcases q with ⟨q1, q2⟩ | q
        · refine Or.inl ⟨q1, fun i h1 h2 => ?_⟩
          by_cases c3 : i = k
          · rw [c3]
            exact c2
          · exact q2 i (by omega) h2
        · exact Or.inr q
theorem z_batchAt {n t : Nat} {M : QC} (h : RBt N R n M) (hN : N ≤ 1024) : ∃ r, e_batchAt R (nI t) = some r ∧ ((r = -1 ∧ M t = none) ∨ ∃ i, i < n ∧ r = nI i ∧ rA R 45 i = nI t) := by
  obtain ⟨h1, h2, h3, h4, h5, h6⟩ := h
  obtain ⟨r, e, q⟩ := z_bat_l (R := R) (t := t) h1 h2 fuL 0 (Nat.zero_le _) (by rw [fuL_4]; omega)
  refine ⟨r, e, ?_⟩
  rcases q with ⟨q1, q2⟩ | q
  · refine Or.inl ⟨q1, ?_⟩
    cases hm : M t with
    | none => rfl
    | some x =>
      obtain ⟨k, hk, ek⟩ := h5 t (by rw [hm]; exact Option.some_ne_none x)
      obtain ⟨u, hu, e3, -⟩ := h3 k hk
      rw [e3, nI_clamp (by omega)] at ek
      exact absurd (e3.trans (by rw [ek])) (q2 k (Nat.zero_le _) hk)
  · exact Or.inr q
def tkB (R : RfT) (c k : Nat) : Nat := (rA R 27 (64 * c + k)).toNatClampNeg
/-- change c of the reference's queue -/
def QcR (N : Nat) (R : RfT) (c s : Nat) (q : QC) : Prop := c < 16 ∧ rA R 26 c = nI s ∧ s ≤ 40 ∧ (∀ k, k < s → ∃ t, t < N ∧ rA R 27 (64 * c + k) = nI t ∧ q t = some (nr (fl (rA R 28) (64 * c + k)))) ∧ (∀ i j, i < s → j < s → rA R 27 (64 * c + i) = rA R 27 (64 * c + j) → i = j) ∧ ∀ t, q t ≠ none → ∃ k, k < s ∧ tkB R c k = t
def frC (R : RfT) (M : QC) (c : Nat) : Nat → Nat
  | 0 => 0
  | k + 1 => frC R M c k + if M (tkB R c k) = none then 1 else 0
def ovK (R : RfT) (M : QC) (c : Nat) : Nat → QC
  | 0 => M
  | k + 1 => upQ (ovK R M c k) (tkB R c k) (nr (fl (rA R 28) (64 * c + k)))
theorem QcR.tk {c s : Nat} {q : QC} (h : QcR N R c s q) (hN : N ≤ 1024) {k : Nat} (hk : k < s) : tkB R c k < N ∧ rA R 27 (64 * c + k) = nI (tkB R c k) ∧ q (tkB R c k) = some (nr (fl (rA R 28) (64 * c + k))) := by
  obtain ⟨h0, h1, h2, h3, h4, h5⟩ := h
  obtain ⟨t, ht, e, e2⟩ := h3 k hk
  have et : tkB R c k = t := by
    unfold tkB
    rw [e, nI_clamp (by omega)]
  rw [et]
  exact ⟨ht, e, e2⟩
theorem ovK_n {M : QC} {c b : Nat} : ∀ k, (∀ i, i < k → tkB R c i ≠ b) → ovK R M c k b = M b
  | 0, _ => rfl
  | k + 1, h => by
    show (if b = tkB R c k then _ else ovK R M c k b) = M b
    rw [if_neg (fun e => h k (by omega) e.symm), ovK_n k (fun i hi => h i (by omega))]
theorem QcR.inj {c s : Nat} {q : QC} (h : QcR N R c s q) (hN : N ≤ 1024) {i j : Nat} (hi : i < s) (hj : j < s) (e : tkB R c i = tkB R c j) : i = j := by
  obtain ⟨-, e1, -⟩ := h.tk hN hi
  obtain ⟨-, e2, -⟩ := h.tk hN hj
  exact h.2.2.2.2.1 i j hi hj (by rw [e1, e2, e])
theorem ovK_len {c s : Nat} {q M : QC} (h : QcR N R c s q) (hN : N ≤ 1024) : ∀ k, k ≤ s → rsC (isS (ovK R M c k)) 1 N = rsC (isS M) 1 N + frC R M c k
  | 0, _ => rfl
  | k + 1, hk => by
    show rsC (isS (upQ (ovK R M c k) (tkB R c k) _)) 1 N = rsC (isS M) 1 N + (frC R M c k + if M (tkB R c k) = none then 1 else 0)
    rw [qN_up N (h.tk hN (show k < s by omega)).1, ovK_len h hN k (by omega), ovK_n k (fun i hi e => by
      have := h.inj hN (show i < s by omega) (show k < s by omega) e
      omega)]
    omega
theorem ovK_in {c s : Nat} {q M : QC} (h : QcR N R c s q) (hN : N ≤ 1024) {i : Nat} : ∀ k, i < k → k ≤ s → ovK R M c k (tkB R c i) = q (tkB R c i)
  | 0, hi, _ => absurd hi (Nat.not_lt_zero _)
  | k + 1, hi, hk => by
    show (if tkB R c i = tkB R c k then some _ else ovK R M c k (tkB R c i)) = _
    by_cases e : i = k
    · rw [e, if_pos rfl, (h.tk hN (show k < s by omega)).2.2]
    · rw [if_neg (fun z => e (h.inj hN (show i < s by omega) (show k < s by omega) z)), ovK_in h hN k (by omega) (by omega)]
theorem ovK_all {c s : Nat} {q M : QC} (h : QcR N R c s q) (hN : N ≤ 1024) (b : Nat) : ovK R M c s b = match q b with | some x => some x | none => M b := by
  cases e : q b with
  | none =>
    refine ovK_n s (fun i hi z => ?_)
    have := (h.tk hN hi).2.2
    rw [z, e] at this
    cases this
  | some x =>
    obtain ⟨k, hk, eb⟩ := h.2.2.2.2.2 b (by rw [e]; exact Option.some_ne_none x)
    have := ovK_in (M := M) h hN s hk (Nat.le_refl _)
    rw [eb, e] at this
    exact this
end PUV
