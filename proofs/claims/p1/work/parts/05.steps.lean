/-! ===== blocks of plain instructions: a table of a method's instructions, and a run of it over locals and stack ===== -/
section GLB
abbrev gF : Type := Nat × List (Nat × Value) × List Value
def Tv (cc : ByteArray) (tb : List (Nat × Instr × Nat)) : Prop := ∀ q ∈ tb, decode cc q.1 = .ok q.2
def tbf : List (Nat × Instr × Nat) → Nat → Option (Instr × Nat)
  | [], _ => none
  | q :: r, pc => cond (Nat.beq q.1 pc) (some q.2) (tbf r pc)
theorem tbd {cc : ByteArray} {tb : List (Nat × Instr × Nat)} (ht : Tv cc tb) {pc : Nat} {q : Instr × Nat} (h : tbf tb pc = some q) : decode cc pc = .ok q := by
  induction tb with
  | nil => cases h
  | cons a r ih =>
    unfold tbf at h
    cases hb : Nat.beq a.1 pc with
    | true =>
      rw [hb] at h
      have h1 : a.1 = pc := Nat.eq_of_beq_eq_true hb
      have h2 : a.2 = q := Option.some.inj h
      rw [← h1, ← h2]
      exact ht a List.mem_cons_self
    | false =>
      rw [hb] at h
      exact ih (fun z hz => ht z (List.mem_cons_of_mem _ hz)) h
def lvg : List (Nat × Value) → Nat → Option Value
  | [], _ => none
  | q :: r, i => cond (Nat.beq q.1 i) (some q.2) (lvg r i)
theorem lvg_at {ls : Array Slot} {nL : Nat} {lv : List (Nat × Value)} (hl : lv_has ls nL lv) {i : Nat} {v : Value} (h : lvg lv i = some v) : ls[i]? = some (.val v) := by
  have key : ∀ l : List (Nat × Value), lvg l i = some v → (i, v) ∈ l := by
    intro l
    induction l with
    | nil => intro h; cases h
    | cons a r ih =>
      intro h
      unfold lvg at h
      cases hb : Nat.beq a.1 i with
      | true =>
        rw [hb] at h
        have h1 : a.1 = i := Nat.eq_of_beq_eq_true hb
        have h2 : a.2 = v := Option.some.inj h
        have h3 : a = (i, v) := by rw [← h1, ← h2]
        rw [h3]
        exact List.mem_cons_self
      | false =>
        rw [hb] at h
        exact List.mem_cons_of_mem _ (ih h)
  exact hl.2.2 _ (key lv h)
def lk1 (i : Nat) (q : Nat × Value) : Bool := !(q.1 == i) && !(q.1 + 1 == i && q.2.category == 2)
def lk2 (i : Nat) (q : Nat × Value) : Bool := !(q.1 == i) && (!(q.1 == i + 1) && !(q.1 + 1 == i && q.2.category == 2))
def lvq (keep : Nat × Value → Bool) (i : Nat) (v : Value) : List (Nat × Value) → List (Nat × Value)
  | [] => [(i, v)]
  | q :: r => cond (Nat.beq q.1 i) ((i, v) :: r.filter keep) (cond (keep q) (q :: lvq keep i v r) (lvq keep i v r))
theorem lvq_in {keep : Nat × Value → Bool} {i : Nat} {v : Value} : ∀ {l : List (Nat × Value)} {x : Nat × Value}, x ∈ lvq keep i v l → x ∈ (i, v) :: l.filter keep
  | [], x, h => h
  | q :: r, x, h => by
    unfold lvq at h
    have up : ∀ {z : Nat × Value}, z ∈ r.filter keep → z ∈ (q :: r).filter keep := fun hz => List.mem_filter.mpr ⟨List.mem_cons_of_mem _ (List.mem_filter.mp hz).1, (List.mem_filter.mp hz).2⟩
    cases hb : Nat.beq q.1 i with
    | true =>
      rw [hb] at h
      rcases List.mem_cons.mp h with h | h
      · exact List.mem_cons.mpr (Or.inl h)
      · exact List.mem_cons.mpr (Or.inr (up h))
    | false =>
      rw [hb] at h
      cases hk : keep q with
      | true =>
        rw [hk] at h
        rcases List.mem_cons.mp h with h | h
        · rw [h]
          exact List.mem_cons.mpr (Or.inr (List.mem_filter.mpr ⟨List.mem_cons_self, hk⟩))
        · rcases List.mem_cons.mp (lvq_in h) with h | h
          · exact List.mem_cons.mpr (Or.inl h)
          · exact List.mem_cons.mpr (Or.inr (up h))
      | false =>
        rw [hk] at h
        rcases List.mem_cons.mp (lvq_in h) with h | h
        · exact List.mem_cons.mpr (Or.inl h)
        · exact List.mem_cons.mpr (Or.inr (up h))
theorem lv_less {ls : Array Slot} {nL : Nat} {l l' : List (Nat × Value)} (h : lv_has ls nL l) (hl : ∀ x, x ∈ l' → x ∈ l) : lv_has ls nL l' := ⟨h.1, h.2.1, fun q hq => h.2.2 q (hl q hq)⟩
/-- a plain instruction: constants, locals, arithmetic, the stack, goto -/
def sx (nL : Nat) (i : Instr) (len : Nat) (s : gF) : Option gF :=
  match i with
  | .iconst n => cond (Nat.beq len 1) (some (s.1 + 1, s.2.1, .int (Int32.ofInt n) :: s.2.2)) none
  | .bipush n => cond (Nat.beq len 2) (some (s.1 + 2, s.2.1, .int (Int8.ofInt n).toInt32 :: s.2.2)) none
  | .sipush n => cond (Nat.beq len 3) (some (s.1 + 3, s.2.1, .int (Int16.ofInt n).toInt32 :: s.2.2)) none
  | .lconst n => cond (Nat.beq len 1) (some (s.1 + 1, s.2.1, .long (Int64.ofNat (n : Nat)) :: s.2.2)) none
  | .iload_n k => cond (Nat.beq len 1) (match lvg s.2.1 k with | some (.int x) => some (s.1 + 1, s.2.1, .int x :: s.2.2) | _ => none) none
  | .iload k => cond (Nat.beq len 2) (match lvg s.2.1 k with | some (.int x) => some (s.1 + 2, s.2.1, .int x :: s.2.2) | _ => none) none
  | .lload_n k => cond (Nat.beq len 1) (match lvg s.2.1 k with | some (.long x) => some (s.1 + 1, s.2.1, .long x :: s.2.2) | _ => none) none
  | .lload k => cond (Nat.beq len 2) (match lvg s.2.1 k with | some (.long x) => some (s.1 + 2, s.2.1, .long x :: s.2.2) | _ => none) none
  | .aload_n k => cond (Nat.beq len 1) (match lvg s.2.1 k with | some (.ref x) => some (s.1 + 1, s.2.1, .ref x :: s.2.2) | _ => none) none
  | .aload k => cond (Nat.beq len 2) (match lvg s.2.1 k with | some (.ref x) => some (s.1 + 2, s.2.1, .ref x :: s.2.2) | _ => none) none
  | .istore_n k => cond (Nat.beq len 1) (cond (Nat.ble (k + 1) nL) (match s.2.2 with | .int x :: r => some (s.1 + 1, lvq (lk1 k) k (.int x) s.2.1, r) | _ => none) none) none
  | .istore k => cond (Nat.beq len 2) (cond (Nat.ble (k + 1) nL) (match s.2.2 with | .int x :: r => some (s.1 + 2, lvq (lk1 k) k (.int x) s.2.1, r) | _ => none) none) none
  | .lstore_n k => cond (Nat.beq len 1) (cond (Nat.ble (k + 2) nL) (match s.2.2 with | .long x :: r => some (s.1 + 1, lvq (lk2 k) k (.long x) s.2.1, r) | _ => none) none) none
  | .lstore k => cond (Nat.beq len 2) (cond (Nat.ble (k + 2) nL) (match s.2.2 with | .long x :: r => some (s.1 + 2, lvq (lk2 k) k (.long x) s.2.1, r) | _ => none) none) none
  | .astore_n k => cond (Nat.beq len 1) (cond (Nat.ble (k + 1) nL) (match s.2.2 with | .ref x :: r => some (s.1 + 1, lvq (lk1 k) k (.ref x) s.2.1, r) | _ => none) none) none
  | .astore k => cond (Nat.beq len 2) (cond (Nat.ble (k + 1) nL) (match s.2.2 with | .ref x :: r => some (s.1 + 2, lvq (lk1 k) k (.ref x) s.2.1, r) | _ => none) none) none
  | .iinc k n => cond (Nat.beq len 3) (cond (Nat.ble (k + 1) nL) (match lvg s.2.1 k with | some (.int x) => some (s.1 + 3, lvq (lk1 k) k (.int (x + Int32.ofInt n)) s.2.1, s.2.2) | _ => none) none) none
  | .iadd => cond (Nat.beq len 1) (match s.2.2 with | .int y :: .int x :: r => some (s.1 + 1, s.2.1, .int (x + y) :: r) | _ => none) none
  | .isub => cond (Nat.beq len 1) (match s.2.2 with | .int y :: .int x :: r => some (s.1 + 1, s.2.1, .int (x - y) :: r) | _ => none) none
  | .imul => cond (Nat.beq len 1) (match s.2.2 with | .int y :: .int x :: r => some (s.1 + 1, s.2.1, .int (x * y) :: r) | _ => none) none
  | .iand => cond (Nat.beq len 1) (match s.2.2 with | .int y :: .int x :: r => some (s.1 + 1, s.2.1, .int (x &&& y) :: r) | _ => none) none
  | .ior => cond (Nat.beq len 1) (match s.2.2 with | .int y :: .int x :: r => some (s.1 + 1, s.2.1, .int (x ||| y) :: r) | _ => none) none
  | .ixor => cond (Nat.beq len 1) (match s.2.2 with | .int y :: .int x :: r => some (s.1 + 1, s.2.1, .int (x ^^^ y) :: r) | _ => none) none
  | .ishl => cond (Nat.beq len 1) (match s.2.2 with | .int y :: .int x :: r => some (s.1 + 1, s.2.1, .int (x <<< (y &&& 31)) :: r) | _ => none) none
  | .ishr => cond (Nat.beq len 1) (match s.2.2 with | .int y :: .int x :: r => some (s.1 + 1, s.2.1, .int (x >>> (y &&& 31)) :: r) | _ => none) none
  | .iushr => cond (Nat.beq len 1) (match s.2.2 with | .int y :: .int x :: r => some (s.1 + 1, s.2.1, .int (x.toUInt32 >>> (y.toUInt32 &&& Int32.toUInt32 31)).toInt32 :: r) | _ => none) none
  | .ladd => cond (Nat.beq len 1) (match s.2.2 with | .long y :: .long x :: r => some (s.1 + 1, s.2.1, .long (x + y) :: r) | _ => none) none
  | .lmul => cond (Nat.beq len 1) (match s.2.2 with | .long y :: .long x :: r => some (s.1 + 1, s.2.1, .long (x * y) :: r) | _ => none) none
  | .land => cond (Nat.beq len 1) (match s.2.2 with | .long y :: .long x :: r => some (s.1 + 1, s.2.1, .long (x &&& y) :: r) | _ => none) none
  | .lor => cond (Nat.beq len 1) (match s.2.2 with | .long y :: .long x :: r => some (s.1 + 1, s.2.1, .long (x ||| y) :: r) | _ => none) none
  | .lshl => cond (Nat.beq len 1) (match s.2.2 with | .int y :: .long x :: r => some (s.1 + 1, s.2.1, .long (x <<< (y.toInt64 &&& 63)) :: r) | _ => none) none
  | .lushr => cond (Nat.beq len 1) (match s.2.2 with | .int y :: .long x :: r => some (s.1 + 1, s.2.1, .long (x.toUInt64 >>> (y.toInt64.toUInt64 &&& Int64.toUInt64 63)).toInt64 :: r) | _ => none) none
  | .lcmp => cond (Nat.beq len 1) (match s.2.2 with | .long y :: .long x :: r => some (s.1 + 1, s.2.1, .int (lg_cmp x y) :: r) | _ => none) none
  | .i2l => cond (Nat.beq len 1) (match s.2.2 with | .int x :: r => some (s.1 + 1, s.2.1, .long x.toInt64 :: r) | _ => none) none
  | .l2i => cond (Nat.beq len 1) (match s.2.2 with | .long x :: r => some (s.1 + 1, s.2.1, .int x.toInt32 :: r) | _ => none) none
  | .i2b => cond (Nat.beq len 1) (match s.2.2 with | .int x :: r => some (s.1 + 1, s.2.1, .int x.toInt8.toInt32 :: r) | _ => none) none
  | .dup => cond (Nat.beq len 1) (match s.2.2 with | .int x :: r => some (s.1 + 1, s.2.1, .int x :: .int x :: r) | .ref x :: r => some (s.1 + 1, s.2.1, .ref x :: .ref x :: r) | _ => none) none
  | .dup2 => cond (Nat.beq len 1) (match s.2.2 with | .int x :: .ref y :: r => some (s.1 + 1, s.2.1, .int x :: .ref y :: .int x :: .ref y :: r) | _ => none) none
  | .pop => cond (Nat.beq len 1) (match s.2.2 with | .int _ :: r => some (s.1 + 1, s.2.1, r) | .ref _ :: r => some (s.1 + 1, s.2.1, r) | _ => none) none
  | .goto off => cond (Nat.beq len 3) (match (s.1 : Int) + off with | .ofNat t => some (t, s.2.1, s.2.2) | _ => none) none
  | _ => none
theorem sx_len {α : Type} {len k : Nat} {x : Option α} {y : α} (h : cond (Nat.beq len k) x none = some y) : len = k ∧ x = some y := by
  cases hb : Nat.beq len k with
  | true => rw [hb] at h; exact ⟨Nat.eq_of_beq_eq_true hb, h⟩
  | false => rw [hb] at h; cases h
theorem sx_le {α : Type} {a b : Nat} {x : Option α} {y : α} (h : cond (Nat.ble a b) x none = some y) : a ≤ b ∧ x = some y := by
  cases hb : Nat.ble a b with
  | true => rw [hb] at h; exact ⟨Nat.le_of_ble_eq_true hb, h⟩
  | false => rw [hb] at h; cases h
end GLB
