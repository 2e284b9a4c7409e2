/-! ===== the model's log ===== -/
section MLA
abbrev En : Type := Nat × Rw
def lAt (L : List En) (k : Nat) : En := L.getD k (0, fun _ => 0)
theorem lAt_app {L M : List En} {k : Nat} (h : k < L.length) : lAt (L ++ M) k = lAt L k := by
  unfold lAt
  rw [List.getD_eq_getElem?_getD, List.getD_eq_getElem?_getD, List.getElem?_append_left h]
theorem lAt_end {L M : List En} {k : Nat} : lAt (L ++ M) (L.length + k) = lAt M k := by
  unfold lAt
  rw [List.getD_eq_getElem?_getD, List.getD_eq_getElem?_getD, List.getElem?_append_right (by omega), show L.length + k - L.length = k by omega]
theorem lAt_mem {L : List En} {k : Nat} (h : k < L.length) : lAt L k ∈ L := by
  unfold lAt
  rw [List.getD_eq_getElem?_getD, List.getElem?_eq_getElem h]
  exact List.getElem_mem h
theorem mem_lAt {L : List En} {p : En} (h : p ∈ L) : ∃ k, k < L.length ∧ lAt L k = p := by
  obtain ⟨k, hk, e⟩ := List.getElem_of_mem h
  refine ⟨k, hk, ?_⟩
  unfold lAt
  rw [List.getD_eq_getElem?_getD, List.getElem?_eq_getElem hk]
  exact e
theorem rev_ind {α : Type} {P : List α → Prop} (h0 : P []) (h1 : ∀ L p, P L → P (L ++ [p])) (L : List α) : P L := by
  have key : ∀ M : List α, P M.reverse := by
    intro M
    induction M with
    | nil => exact h0
    | cons p M ih =>
      rw [List.reverse_cons]
      exact h1 _ p ih
  have := key L.reverse
  rw [List.reverse_reverse] at this
  exact this
/-- the latest value of a block -/
def lVal : List En → Nat → Option Rw
  | [], _ => none
  | p :: l, b => match lVal l b with
    | some x => some x
    | none => if p.1 = b then some p.2 else none
theorem lVal_app (p : En) (b : Nat) : ∀ L : List En, lVal (L ++ [p]) b = if p.1 = b then some p.2 else lVal L b
  | [] => rfl
  | q :: L => by
    show (match lVal (L ++ [p]) b with | some x => some x | none => if q.1 = b then some q.2 else none) = _
    rw [lVal_app p b L]
    by_cases e : p.1 = b
    · rw [if_pos e, if_pos e]
    · rw [if_neg e, if_neg e]
      rfl
theorem lVal_none {b : Nat} : ∀ {L : List En}, lVal L b = none ↔ ∀ p ∈ L, p.1 ≠ b
  | [] => ⟨fun _ p hp => absurd hp List.not_mem_nil, fun _ => rfl⟩
  | q :: L => by
    have ih := lVal_none (b := b) (L := L)
    show (match lVal L b with | some x => some x | none => if q.1 = b then some q.2 else none) = none ↔ _
    cases e : lVal L b with
    | some x =>
      constructor
      · intro z
        cases z
      · intro z
        rw [ih.mpr (fun p hp => z p (List.mem_cons_of_mem _ hp))] at e
        cases e
    | none =>
      have i2 := ih.mp e
      constructor
      · intro z p hp
        have z : (if q.1 = b then some q.2 else none) = none := z
        rcases List.mem_cons.mp hp with rfl | hp
        · intro w
          rw [if_pos w] at z
          cases z
        · exact i2 p hp
      · intro z
        exact if_neg (z q List.mem_cons_self)
theorem lVal_mem {b : Nat} {x : Rw} : ∀ {L : List En}, lVal L b = some x → (b, x) ∈ L
  | [], h => by cases h
  | q :: L, h => by
    have h : (match lVal L b with | some x => some x | none => if q.1 = b then some q.2 else none) = some x := h
    cases e : lVal L b with
    | some y =>
      rw [e] at h
      exact List.mem_cons_of_mem _ (lVal_mem (e.trans h))
    | none =>
      rw [e] at h
      have h : (if q.1 = b then some q.2 else none) = some x := h
      by_cases c : q.1 = b
      · rw [if_pos c] at h
        injection h with h
        rw [← c, ← h]
        exact List.mem_cons_self
      · rw [if_neg c] at h
        cases h
/-- where the latest entry of block b stands -/
def EnOk (en : Nat → Int32) (L : List En) (b : Nat) : Prop := (en b = -1 ∧ ∀ k, k < L.length → (lAt L k).1 ≠ b) ∨ ∃ k, k < L.length ∧ en b = nI k ∧ (lAt L k).1 = b ∧ ∀ j, k < j → j < L.length → (lAt L j).1 ≠ b
theorem lVal_last {b k : Nat} : ∀ {L : List En}, k < L.length → (lAt L k).1 = b → (∀ j, k < j → j < L.length → (lAt L j).1 ≠ b) → lVal L b = some (lAt L k).2 := by
  intro L
  induction L using rev_ind with
  | h0 =>
    intro h
    exact absurd h (by show ¬ k < 0; omega)
  | h1 L p ih =>
    intro h e hl
    rw [List.length_append] at h hl
    have h : k < L.length + 1 := h
    have hl : ∀ j, k < j → j < L.length + 1 → (lAt (L ++ [p]) j).1 ≠ b := hl
    rw [lVal_app]
    by_cases c : k = L.length
    · have e0 : lAt (L ++ [p]) k = p := by
        have := lAt_end (L := L) (M := [p]) (k := 0)
        rw [c]
        exact this
      rw [e0] at e ⊢
      exact if_pos e
    · have e0 : lAt (L ++ [p]) L.length = p := lAt_end (L := L) (M := [p]) (k := 0)
      have hp := hl L.length (by omega) (by omega)
      rw [e0] at hp
      rw [if_neg hp, lAt_app (by omega)]
      rw [lAt_app (by omega)] at e
      exact ih (by omega) e (fun j h1 h2 => by have := hl j h1 (by omega); rw [lAt_app h2] at this; exact this)
theorem EnOk.val {en : Nat → Int32} {L : List En} {b : Nat} (h : EnOk en L b) : (en b = -1 ∧ lVal L b = none) ∨ ∃ k, k < L.length ∧ en b = nI k ∧ lVal L b = some (lAt L k).2 := by
  rcases h with ⟨h1, h2⟩ | ⟨k, h1, h2, h3, h4⟩
  · refine Or.inl ⟨h1, lVal_none.mpr (fun p hp => ?_)⟩
    obtain ⟨k, hk, e⟩ := mem_lAt hp
    rw [← e]
    exact h2 k hk
  · exact Or.inr ⟨k, h1, h2, lVal_last h1 h3 h4⟩
theorem EnOk.note {en : Nat → Int32} {L : List En} {b t : Nat} {x : Rw} (h : EnOk en L b) : EnOk (upd en t (nI L.length)) (L ++ [(t, x)]) b := by
  have hl : (L ++ [(t, x)]).length = L.length + 1 := List.length_append
  have e0 : lAt (L ++ [(t, x)]) L.length = (t, x) := lAt_end (L := L) (M := [(t, x)]) (k := 0)
  unfold EnOk
  rw [hl]
  by_cases c : b = t
  · subst c
    exact Or.inr ⟨L.length, by omega, pk_us, by rw [e0], fun j h1 h2 => absurd h2 (by omega)⟩
  · rw [pk_un c]
    rcases h with ⟨h1, h2⟩ | ⟨k, h1, h2, h3, h4⟩
    · refine Or.inl ⟨h1, fun k hk => ?_⟩
      by_cases ck : k = L.length
      · rw [ck, e0]
        exact fun z => c z.symm
      · rw [lAt_app (by omega)]
        exact h2 k (by omega)
    · refine Or.inr ⟨k, by omega, h2, by rw [lAt_app h1]; exact h3, fun j q1 q2 => ?_⟩
      by_cases ck : j = L.length
      · rw [ck, e0]
        exact fun z => c z.symm
      · rw [lAt_app (by omega)]
        exact h4 j q1 (by omega)
/-- how many of the first n blocks the log has -/
def lNum (L : List En) : Nat → Nat
  | 0 => 0
  | n + 1 => lNum L n + (if (lVal L n).isSome then 1 else 0)
theorem lNum_nil : ∀ n, lNum [] n = 0
  | 0 => rfl
  | n + 1 => by
    show lNum [] n + 0 = 0
    rw [lNum_nil n]
theorem lNum_app {L : List En} {p : En} : ∀ n, lNum (L ++ [p]) n ≤ lNum L n + (if p.1 < n then 1 else 0)
  | 0 => Nat.le_refl _
  | n + 1 => by
    have ih := lNum_app (L := L) (p := p) n
    show lNum (L ++ [p]) n + (if (lVal (L ++ [p]) n).isSome then 1 else 0) ≤ lNum L n + (if (lVal L n).isSome then 1 else 0) + _
    rw [lVal_app]
    by_cases c : p.1 = n
    · rw [if_pos c, if_pos (show p.1 < n + 1 by omega)]
      rw [if_neg (show ¬ p.1 < n by omega)] at ih
      show lNum (L ++ [p]) n + 1 ≤ _
      omega
    · rw [if_neg c]
      by_cases c2 : p.1 < n
      · rw [if_pos c2] at ih
        rw [if_pos (show p.1 < n + 1 by omega)]
        omega
      · rw [if_neg c2] at ih
        rw [if_neg (show ¬ p.1 < n + 1 by omega)]
        omega
theorem lNum_le : ∀ (L : List En) (n : Nat), lNum L n ≤ L.length := by
  intro L
  induction L using rev_ind with
  | h0 =>
    intro n
    rw [lNum_nil]
    exact Nat.zero_le _
  | h1 L p ih =>
    intro n
    have h1 := lNum_app (L := L) (p := p) n
    have h2 := ih n
    rw [List.length_append]
    show _ ≤ L.length + 1
    have : (if p.1 < n then 1 else 0) ≤ 1 := by split <;> omega
    omega
theorem lNum_mono {L : List En} {a : Nat} : ∀ b, a ≤ b → lNum L a ≤ lNum L b
  | 0, h => by
    rw [show a = 0 by omega]
    exact Nat.le_refl _
  | b + 1, h => by
    by_cases c : a = b + 1
    · rw [c]
      exact Nat.le_refl _
    · have := lNum_mono (L := L) (a := a) b (by omega)
      show _ ≤ lNum L b + _
      omega
/-- one step, and the next if the power stays -/
def hB (o : Bool × Hw) (k : Hw → Bool × Hw) : Bool × Hw := if o.1 = true then k o.2 else o
theorem hB_t {o : Bool × Hw} {k : Hw → Bool × Hw} (h : o.1 = true) : hB o k = k o.2 := if_pos h
theorem hB_f {o : Bool × Hw} {k : Hw → Bool × Hw} (h : o.1 = false) : hB o k = o := if_neg (by rw [h]; decide)
/-- block 2: the numbers of the entries -/
def mNm (L : List En) : Rw := nr (nmR (fun k => nI (lAt L k).1) (fun _ => 0) L.length)
def smR (v : Nat → Rw) (h : Int32) : Nat → Int32
  | 0 => h
  | k + 1 => mixV (smR v h k) (v k) 128
/-- block 1 without its sum -/
def mH0 (n : Nat) (tu : Int32) : Nat → Int32 := s_four (s_two (fun _ => 0) 0 (nI n)) 2 tu
def mSum (L : List En) (tu : Int32) : Int32 := smR (fun k => (lAt L k).2) (mixV (mixV 7 (mH0 L.length tu) 6) (mNm L) (2 * L.length)) L.length
/-- block 1 -/
def mHd (L : List En) (tu : Int32) : Rw := nr (s_four (mH0 L.length tu) 6 (mSum L tu))
/-- the values of new entries -/
def mVals (N B : Nat) : Nat → List En → Hw → Bool × Hw
  | _, [], h => (true, h)
  | e, p :: l, h => hB (aPl N B (3 + e) p.2 h) (mVals N B (e + 1) l)
def mApp (N B : Nat) (L : List En) (tu : Int32) (bt : List En) (h : Hw) : Bool × Hw :=
  hB (hB (hB (hB (mVals N B L.length bt h) (aPl N B 2 (mNm (L ++ bt)))) (aSe N)) (aPl N B 1 (mHd (L ++ bt) (tu + 1)))) (aSe N)
/-- the entries go to their places -/
def mHome (N B : Nat) (L : List En) : Nat → Nat → Hw → Bool × Hw
  | 0, _, h => (true, h)
  | k + 1, b, h => match lVal L b with
    | some x => hB (aPl N B b x h) (mHome N B L k (b + 1))
    | none => mHome N B L k (b + 1) h
def mAply (N B : Nat) (L : List En) (tu : Int32) (h : Hw) : Bool × Hw :=
  hB (hB (hB (mHome N B L N 0 h) (aSe N)) (aPl N B 1 (mHd [] (tu + 1)))) (aSe N)
/-- the hardware has block u nowhere but synced -/
def hFree (h : Hw) (u : Nat) : Prop := h.2.1.1 u = none ∧ ∀ p ∈ h.1.2, p.1 ≠ u
theorem hFree.see {h : Hw} {u : Nat} (f : hFree h u) : h.1.1 u = hSee h u := by
  rw [hSee_n f.1]
  exact (wRd_none u _ _ f.2).symm
theorem hFree.wr {D : Dk0} {u t : Nat} {x : Rw} (f : ∀ p ∈ D.2, p.1 ≠ u) (ht : t ≠ u) : ∀ p ∈ (aWr D t x).2, p.1 ≠ u := by
  unfold aWr
  intro p hp
  by_cases e : D.2.length = 256
  · rw [if_pos e] at hp
    rcases List.mem_append.mp hp with hp | hp
    · exact f p (List.mem_of_mem_drop hp)
    · rw [List.mem_singleton.mp hp]
      exact ht
  · rw [if_neg e] at hp
    rcases List.mem_append.mp hp with hp | hp
    · exact f p hp
    · rw [List.mem_singleton.mp hp]
      exact ht
theorem hFree.pl {N B t u : Nat} {x : Rw} {h : Hw} (f : hFree h u) (ho : HOk N B h) (hne : u ≠ t) : hFree (aPl N B t x h).2 u := by
  obtain ⟨D, ⟨bf, hd, sp, pu⟩, le, wr, ss⟩ := h
  have hout := ho.out
  obtain ⟨f1, f2⟩ := f
  have f1 : bf u = none := f1
  have f2 : ∀ p ∈ D.2, p.1 ≠ u := f2
  show hFree (if bf t = none then (if hd = B then (if le = 0 then (false, D, (bf, hd, sp, pu), le, wr, ss) else (true, aWr D (bOut N bf) (bVal bf (bOut N bf)), (bSet (bSet bf (bOut N bf) none) t (some (sp, x)), hd, sp + 1, pu + 1), sLe le, wr + 1, ss)) else (true, D, (bSet bf t (some (sp, x)), hd + 1, sp + 1, pu), le, wr, ss)) else (true, D, (bSet bf t (some (sp, x)), hd, sp + 1, pu), le, wr, ss) : Bool × Hw).2 u
  have plain : bSet bf t (some (sp, x)) u = none := by rw [bSet_n hne]; exact f1
  by_cases c1 : bf t = none
  · rw [if_pos c1]
    by_cases c2 : hd = B
    · rw [if_pos c2]
      by_cases c3 : le = 0
      · rw [if_pos c3]
        exact ⟨f1, f2⟩
      · rw [if_neg c3]
        obtain ⟨o1, q, o2⟩ := hout c2
        have hno : u ≠ bOut N bf := fun z => by rw [← z, f1] at o2; cases o2
        exact ⟨by show bSet (bSet bf (bOut N bf) none) t (some (sp, x)) u = none; rw [bSet_n hne, bSet_n hno]; exact f1, hFree.wr f2 (fun z => hno z.symm)⟩
    · rw [if_neg c2]
      exact ⟨plain, f2⟩
  · rw [if_neg c1]
    exact ⟨plain, f2⟩
theorem Quiet.free {N : Nat} {h : Hw} (q : Quiet N h) {u : Nat} (hu : u < N) : hFree h u := ⟨q.2 u hu, fun p hp => by rw [q.1] at hp; exact absurd hp List.not_mem_nil⟩
end MLA
