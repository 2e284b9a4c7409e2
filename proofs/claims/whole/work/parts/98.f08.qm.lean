/-! ===== the model's queue ===== -/
section MQA
/-- a change: the blocks that it has, with their values -/
abbrev QC : Type := Nat → Option Rw
/-- the rising list of a change's blocks below n -/
def bList (v : QC) : Nat → List En
  | 0 => []
  | n + 1 => match v n with
    | some x => bList v n ++ [(n, x)]
    | none => bList v n
theorem bList_s {v : QC} {n : Nat} {x : Rw} (h : v n = some x) : bList v (n + 1) = bList v n ++ [(n, x)] := by
  show (match v n with | some x => bList v n ++ [(n, x)] | none => bList v n) = _
  rw [h]
theorem bList_n {v : QC} {n : Nat} (h : v n = none) : bList v (n + 1) = bList v n := by
  show (match v n with | some x => bList v n ++ [(n, x)] | none => bList v n) = _
  rw [h]
theorem bList_lt {v : QC} : ∀ (n : Nat) {p : En}, p ∈ bList v n → p.1 < n
  | 0, p, h => absurd h List.not_mem_nil
  | n + 1, p, h => by
    cases e : v n with
    | none =>
      rw [bList_n e] at h
      have := bList_lt n h
      omega
    | some x =>
      rw [bList_s e] at h
      rcases List.mem_append.mp h with h | h
      · have := bList_lt n h
        omega
      · rw [List.mem_singleton.mp h]
        exact Nat.lt_succ_self n
theorem Srt.app {L : List En} {p : En} (h : Srt L) (hp : ∀ q ∈ L, q.1 < p.1) : Srt (L ++ [p]) := fun i j hi hj => by
  rw [List.length_append] at hj
  have hj : j < L.length + 1 := hj
  by_cases c : j = L.length
  · have e0 : lAt (L ++ [p]) L.length = p := lAt_end (L := L) (M := [p]) (k := 0)
    rw [c, e0, lAt_app (by omega)]
    exact hp _ (lAt_mem (by omega))
  · rw [lAt_app (by omega), lAt_app (by omega)]
    exact h i j hi (by omega)
theorem bList_srt {v : QC} : ∀ n, Srt (bList v n)
  | 0 => Srt.nil
  | n + 1 => by
    cases e : v n with
    | none =>
      rw [bList_n e]
      exact bList_srt n
    | some x =>
      rw [bList_s e]
      exact (bList_srt n).app (fun q hq => bList_lt n hq)
theorem bList_val {v : QC} {b : Nat} : ∀ n, lVal (bList v n) b = if b < n then v b else none
  | 0 => rfl
  | n + 1 => by
    have ih := bList_val (v := v) (b := b) n
    cases e : v n with
    | none =>
      rw [bList_n e, ih]
      by_cases c : b = n
      · rw [if_neg (by omega), if_pos (by omega), c, e]
      · by_cases c2 : b < n
        · rw [if_pos c2, if_pos (by omega)]
        · rw [if_neg c2, if_neg (by omega)]
    | some x =>
      rw [bList_s e, lVal_app, ih]
      by_cases c : n = b
      · rw [if_pos c, if_pos (by omega), ← c, e]
      · rw [if_neg c]
        by_cases c2 : b < n
        · rw [if_pos c2, if_pos (by omega)]
        · rw [if_neg c2, if_neg (by omega)]
/-- a change over what is there -/
def qOv (q : QC) (bt : List En) : QC := fun b => match q b with
  | some x => some x
  | none => lVal bt b
/-- the batch with one change more -/
def bJoin (N : Nat) (bt : List En) (q : QC) : List En := bList (qOv q bt) N
theorem bJoin_eq {N : Nat} {bt M : List En} {q : QC} (hs : Srt M) (hv : ∀ b, lVal M b = if b < N then qOv q bt b else none) : M = bJoin N bt q := Srt.ext hs (bList_srt N) (fun b => (hv b).trans (bList_val (v := qOv q bt) (b := b) N).symm)
/-- batches are filled greedily -/
def qFill (N : Nat) : List QC → List En → List En × List QC
  | [], bt => (bt, [])
  | q :: qs, bt => if (bJoin N bt q).length ≤ 40 then qFill N qs (bJoin N bt q) else (bt, q :: qs)
/-- the latest value of a block in the queue -/
def qVal : List QC → QC
  | [], _ => none
  | q :: qs, b => match qVal qs b with
    | some x => some x
    | none => q b
theorem qVal_app {q : QC} {b : Nat} : ∀ qs : List QC, qVal (qs ++ [q]) b = match q b with | some x => some x | none => qVal qs b
  | [] => by
    show (match (none : Option Rw) with | some x => some x | none => q b) = _
    cases q b with
    | none => rfl
    | some x => rfl
  | p :: qs => by
    show (match qVal (qs ++ [q]) b with | some x => some x | none => p b) = _
    rw [qVal_app qs]
    cases q b with
    | none => rfl
    | some x => rfl
def qAt (qs : List QC) (i : Nat) : QC := qs.getD i (fun _ => none)
theorem qAt_drop {qs : List QC} {j : Nat} (h : j < qs.length) : qs.drop j = qAt qs j :: qs.drop (j + 1) := by
  rw [List.drop_eq_getElem_cons h]
  unfold qAt
  rw [List.getD_eq_getElem?_getD, List.getElem?_eq_getElem h]
  rfl
/-! ===== the class's rows of one change ===== -/
def qBk (C : CfT) (r : Nat) : Nat := (cA C 19 r).toNatClampNeg
def ChR (N : Nat) (C : CfT) (a z : Nat) (q : QC) : Prop := (∀ r, a ≤ r → r < z → qBk C r < N ∧ 43 ≤ qBk C r ∧ cA C 19 r = nI (qBk C r) ∧ q (qBk C r) = some (nr (cR C 4 r)) ∧ Byt (cR C 4 r)) ∧ (∀ b x, q b = some x → ∃ r, a ≤ r ∧ r < z ∧ qBk C r = b) ∧ ∀ r s, a ≤ r → r < z → a ≤ s → s < z → qBk C r = qBk C s → r = s
/-- the batch behind k rows from a on -/
def btF (C : CfT) (a : Nat) (bt : List En) : Nat → List En
  | 0 => bt
  | k + 1 => lIns (qBk C (a + k), nr (cR C 4 (a + k))) (btF C a bt k)
theorem btF_srt {C : CfT} {a : Nat} {bt : List En} (h : Srt bt) : ∀ k, Srt (btF C a bt k)
  | 0 => h
  | k + 1 => lIns_srt (btF_srt h k)
theorem btF_out {C : CfT} {a b : Nat} {bt : List En} (h : Srt bt) : ∀ k, (∀ r, a ≤ r → r < a + k → qBk C r ≠ b) → lVal (btF C a bt k) b = lVal bt b
  | 0, _ => rfl
  | k + 1, hr => by
    show lVal (lIns (qBk C (a + k), nr (cR C 4 (a + k))) (btF C a bt k)) b = _
    rw [lIns_val (btF_srt h k), if_neg (hr (a + k) (by omega) (by omega))]
    exact btF_out h k (fun r h1 h2 => hr r h1 (by omega))
theorem btF_in {N : Nat} {C : CfT} {a z : Nat} {bt : List En} {q : QC} (hc : ChR N C a z q) (h : Srt bt) : ∀ k, a + k ≤ z → ∀ r, a ≤ r → r < a + k → lVal (btF C a bt k) (qBk C r) = some (nr (cR C 4 r))
  | 0, _, r, h1, h2 => absurd h2 (by omega)
  | k + 1, hk, r, h1, h2 => by
    show lVal (lIns (qBk C (a + k), nr (cR C 4 (a + k))) (btF C a bt k)) (qBk C r) = _
    rw [lIns_val (btF_srt h k)]
    by_cases c : r = a + k
    · rw [c]
      exact if_pos rfl
    · have hne : qBk C (a + k) ≠ qBk C r := fun e => c (hc.2.2 r (a + k) h1 (by omega) (by omega) (by omega) e.symm)
      rw [if_neg hne]
      exact btF_in hc h k (by omega) r h1 (by omega)
theorem btF_len {N : Nat} {C : CfT} {a z : Nat} {bt : List En} {q : QC} (hc : ChR N C a z q) (h : Srt bt) : ∀ k, a + k ≤ z → (btF C a bt k).length = bt.length + nwC bt (qBk C) a k ∧ (a + k < z → lVal (btF C a bt k) (qBk C (a + k)) = lVal bt (qBk C (a + k)))
  | 0, _ => ⟨rfl, fun _ => rfl⟩
  | k + 1, hk => by
    obtain ⟨i1, i2⟩ := btF_len hc h k (by omega)
    constructor
    · show (lIns (qBk C (a + k), nr (cR C 4 (a + k))) (btF C a bt k)).length = bt.length + (nwC bt (qBk C) a k + _)
      rw [(lIns_at (btF_srt h k)).1, i1]
      show bt.length + nwC bt (qBk C) a k + (if lVal (btF C a bt k) (qBk C (a + k)) = none then 1 else 0) = _
      rw [i2 (by omega)]
      omega
    · intro hz
      exact btF_out h (k + 1) (fun r h1 h2 e => by
        have := hc.2.2 r (a + (k + 1)) h1 (by omega) (by omega) hz e
        omega)
theorem btF_all {N : Nat} {C : CfT} {a z : Nat} {bt : List En} {q : QC} (hc : ChR N C a z q) (haz : a ≤ z) (h : Srt bt) (hN : ∀ p ∈ bt, p.1 < N) : btF C a bt (z - a) = bJoin N bt q := bJoin_eq (btF_srt h _) (fun b => by
  by_cases c : ∃ r, a ≤ r ∧ r < z ∧ qBk C r = b
  · obtain ⟨r, h1, h2, e⟩ := c
    obtain ⟨c1, c2, c3, c4, c5⟩ := hc.1 r h1 h2
    rw [← e, btF_in hc h (z - a) (by omega) r h1 (by omega), if_pos c1]
    unfold qOv
    rw [c4]
  · have hq : q b = none := by
      cases e : q b with
      | none => rfl
      | some x => exact absurd (hc.2.1 b x e) c
    rw [btF_out h (z - a) (fun r h1 h2 e => c ⟨r, h1, by omega, e⟩)]
    unfold qOv
    rw [hq]
    by_cases c1 : b < N
    · rw [if_pos c1]
    · rw [if_neg c1]
      exact lVal_none.mpr (fun p hp e => c1 (by rw [← e]; exact hN p hp)))
theorem bJoin_lt {N : Nat} {bt : List En} {q : QC} : ∀ p ∈ bJoin N bt q, p.1 < N := fun _ hp => bList_lt N hp
theorem bJoin_srt {N : Nat} {bt : List En} {q : QC} : Srt (bJoin N bt q) := bList_srt N
end MQA
