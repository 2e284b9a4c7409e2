/-! ===== methods as functions: what the functions are made of ===== -/
section DCA
def ld {α : Type} (g : Nat → Int32) (n : Nat) (i : Int32) (k : Int32 → Option α) : Option α := if i < 0 ∨ n ≤ i.toNatClampNeg then none else k (g i.toNatClampNeg)
theorem ld_s {α : Type} {g : Nat → Int32} {n : Nat} {i : Int32} {k : Int32 → Option α} {r : α} (h : ld g n i k = some r) : ∃ v, vp_in i n ∧ g i.toNatClampNeg = v ∧ k v = some r := by
  unfold ld at h
  split at h
  · cases h
  · next q => exact ⟨_, q, rfl, h⟩
def seeB {α : Type} (N : Nat) (V : Nat → Rw) (i : Int32) (k : Rw → Option α) : Option α := if i < 0 ∨ N ≤ i.toNatClampNeg then none else k (V i.toNatClampNeg)
theorem seeB_s {α : Type} {N : Nat} {V : Nat → Rw} {i : Int32} {k : Rw → Option α} {r : α} (h : seeB N V i k = some r) : ∃ y, vp_in i N ∧ V i.toNatClampNeg = y ∧ k y = some r := by
  unfold seeB at h
  split at h
  · cases h
  · next q => exact ⟨_, q, rfl, h⟩
def bnd {α β : Type} (m : Option β) (k : β → Option α) : Option α := match m with
  | none => none
  | some v => k v
theorem bnd_s {α β : Type} {m : Option β} {k : β → Option α} {r : α} (h : bnd m k = some r) : ∃ v, m = some v ∧ k v = some r := by
  cases m with
  | none => cases h
  | some v => exact ⟨v, rfl, h⟩
def bnd2 {α β γ : Type} (m : Option (β × γ)) (k : β → γ → Option α) : Option α := match m with
  | none => none
  | some (v, w) => k v w
theorem bnd2_s {α β γ : Type} {m : Option (β × γ)} {k : β → γ → Option α} {r : α} (h : bnd2 m k = some r) : ∃ v w, m = some (v, w) ∧ k v w = some r := by
  cases m with
  | none => cases h
  | some v => exact ⟨v.1, v.2, rfl, h⟩
def bnd3 {α β γ δ : Type} (m : Option (β × γ × δ)) (k : β → γ → δ → Option α) : Option α := match m with
  | none => none
  | some (v, w, x) => k v w x
theorem bnd3_s {α β γ δ : Type} {m : Option (β × γ × δ)} {k : β → γ → δ → Option α} {r : α} (h : bnd3 m k = some r) : ∃ v w x, m = some (v, w, x) ∧ k v w x = some r := by
  cases m with
  | none => cases h
  | some v => exact ⟨v.1, v.2.1, v.2.2, rfl, h⟩
def nm {α : Type} (x : Int32) (k : Int32 → Option α) : Option α := k x
theorem nm_s {α : Type} {x : Int32} {k : Int32 → Option α} {r : α} (h : nm x k = some r) : ∃ v, x = v ∧ k v = some r := ⟨x, rfl, h⟩
def ptS {α : Type} (D : CfT) (j : Nat) (v : Int32) (k : CfT → Option α) : Option α := k (sS D j v)
theorem ptS_s {α : Type} {D : CfT} {j : Nat} {v : Int32} {k : CfT → Option α} {r : α} (h : ptS D j v k = some r) : ∃ D2, D2 = sS D j v ∧ k D2 = some r := ⟨_, rfl, h⟩
def stA {α : Type} (D : CfT) (a n : Nat) (i x : Int32) (k : CfT → Option α) : Option α := if i < 0 ∨ n ≤ i.toNatClampNeg then none else k (sA D a (upd (cA D a) i.toNatClampNeg x))
theorem stA_s {α : Type} {D : CfT} {a n : Nat} {i x : Int32} {k : CfT → Option α} {r : α} (h : stA D a n i x k = some r) : ∃ D2, vp_in i n ∧ D2 = sA D a (upd (cA D a) i.toNatClampNeg x) ∧ k D2 = some r := by
  unfold stA at h
  split at h
  · cases h
  · next q => exact ⟨_, q, rfl, h⟩
def rtZ {α : Type} (v : Int32) (k : Option α) : Option α := if v = 0 ∨ v = 1 then k else none
theorem rtZ_s {α : Type} {v : Int32} {k : Option α} {r : α} (h : rtZ v k = some r) : (v = 0 ∨ v = 1) ∧ k = some r := by
  unfold rtZ at h
  split at h
  · next q => exact ⟨q, h⟩
  · cases h
theorem nar_z {v : Int32} (h : v = 0 ∨ v = 1) : narrow .boolean (.int v) = .int v := by
  rcases h with rfl | rfl <;> rfl
theorem ite_t {α : Type} {c : Prop} [Decidable c] {a b r : α} (hc : c) (h : (if c then a else b) = r) : a = r := (if_pos hc).symm.trans h
theorem ite_f {α : Type} {c : Prop} [Decidable c] {a b r : α} (hc : ¬ c) (h : (if c then a else b) = r) : b = r := (if_neg hc).symm.trans h
/-- how often a loop may turn: more than any does -/
def fuL : Nat := 4000000
theorem G.eq1 {E : gE} {K : gM} {cc : ByteArray} {Q : gU} {f : Nat → va_E} {pc : Nat} {lv : List (Nat × Value)} {st : List Value} {a b : Int32} (e : a = b) (kk : G E K cc Q pc lv (.int b :: st) f) : G E K cc Q pc lv (.int a :: st) f := e ▸ kk
theorem G.ialdE {E : gE} {K : gM} {cc : ByteArray} {Q : gU} {f : Nat → va_E} {pc : Nat} {lv : List (Nat × Value)} {st : List Value} (k : Nat) {n : Nat} {g : Nat → Int32} {i v : Int32} (hk : k < gN E) (he : f k = oI (gDA E) n g) (hin : vp_in i n) (hv : g i.toNatClampNeg = v) (d : decode cc pc = .ok (.iaload, 1)) (kk : G E K cc Q (pc + 1) lv (.int v :: st) f) : G E K cc Q pc lv (.int i :: .ref (gAd E k) :: st) f := G.iald k hk he hin d (hv ▸ kk)
theorem G.ialdP {E : gE} {K : gM} {cc : ByteArray} {Q : gU} {f : Nat → va_E} {pc : Nat} {lv : List (Nat × Value)} {st : List Value} (k : Nat) {n : Nat} {g y : Nat → Int32} {i v : Int32} (hk : k < gN E) (he : f k = oI (gDA E) n g) (hp : ∀ t, t < n → g t = y t) (hin : vp_in i n) (hv : y i.toNatClampNeg = v) (d : decode cc pc = .ok (.iaload, 1)) (kk : G E K cc Q (pc + 1) lv (.int v :: st) f) : G E K cc Q pc lv (.int i :: .ref (gAd E k) :: st) f := G.ialdE k hk he hin ((hp _ (Nat.lt_of_not_le (fun q => hin (Or.inr q)))).trans hv) d kk
theorem G.baldE {E : gE} {K : gM} {cc : ByteArray} {Q : gU} {f : Nat → va_E} {pc : Nat} {lv : List (Nat × Value)} {st : List Value} (k : Nat) {n : Nat} {g : Nat → Int32} {i v : Int32} (hk : k < gN E) (he : f k = oB (gDA E) n g) (hin : vp_in i n) (hv : g i.toNatClampNeg = v) (d : decode cc pc = .ok (.baload, 1)) (kk : G E K cc Q (pc + 1) lv (.int v :: st) f) : G E K cc Q pc lv (.int i :: .ref (gAd E k) :: st) f := G.bald k hk he hin d (hv ▸ kk)
theorem G.baldP {E : gE} {K : gM} {cc : ByteArray} {Q : gU} {f : Nat → va_E} {pc : Nat} {lv : List (Nat × Value)} {st : List Value} (k : Nat) {n : Nat} {g y : Nat → Int32} {i v : Int32} (hk : k < gN E) (he : f k = oB (gDA E) n g) (hp : ∀ t, t < n → g t = y t) (hin : vp_in i n) (hv : y i.toNatClampNeg = v) (d : decode cc pc = .ok (.baload, 1)) (kk : G E K cc Q (pc + 1) lv (.int v :: st) f) : G E K cc Q pc lv (.int i :: .ref (gAd E k) :: st) f := G.baldE k hk he hin ((hp _ (Nat.lt_of_not_le (fun q => hin (Or.inr q)))).trans hv) d kk
theorem G.zaldE {E : gE} {K : gM} {cc : ByteArray} {Q : gU} {f : Nat → va_E} {pc : Nat} {lv : List (Nat × Value)} {st : List Value} (k : Nat) {n : Nat} {g : Nat → Int32} {i v : Int32} (hk : k < gN E) (he : f k = oZ (gDA E) n g) (hin : vp_in i n) (hv : g i.toNatClampNeg = v) (d : decode cc pc = .ok (.baload, 1)) (kk : G E K cc Q (pc + 1) lv (.int v :: st) f) : G E K cc Q pc lv (.int i :: .ref (gAd E k) :: st) f := G.zald k hk he hin d (hv ▸ kk)
theorem G.zaldP {E : gE} {K : gM} {cc : ByteArray} {Q : gU} {f : Nat → va_E} {pc : Nat} {lv : List (Nat × Value)} {st : List Value} (k : Nat) {n : Nat} {g y : Nat → Int32} {i v : Int32} (hk : k < gN E) (he : f k = oZ (gDA E) n g) (hp : ∀ t, t < n → g t = y t) (hin : vp_in i n) (hv : y i.toNatClampNeg = v) (d : decode cc pc = .ok (.baload, 1)) (kk : G E K cc Q (pc + 1) lv (.int v :: st) f) : G E K cc Q pc lv (.int i :: .ref (gAd E k) :: st) f := G.zaldE k hk he hin ((hp _ (Nat.lt_of_not_le (fun q => hin (Or.inr q)))).trans hv) d kk
/-- where the families of rows lie, and how many there are -/
def rba (N B : Nat) : Nat → Nat
  | 0 => 94
  | 1 => 350
  | 2 => 350 + N
  | 3 => 350 + 2 * N
  | _ => 350 + 2 * N + B
def rcn (N B gr : Nat) : Nat → Nat
  | 0 => 256
  | 1 => N
  | 2 => N
  | 3 => B
  | _ => gr * 40
/-- a byte[] of n bytes at key k: the tape, or a row -/
def ArK (N B gr : Nat) (C : CfT) (k n : Nat) (y : Nat → Int32) : Prop := (k = 1 ∧ n = 1024 ∧ y = cA C 1) ∨ (n = 128 ∧ ∃ m i, m < 5 ∧ i < rcn N B gr m ∧ k = rba N B m + i ∧ Byt (cR C m i) ∧ nr (cR C m i) = y)
/-- the rows and the tape are the same -/
def Rq (C C' : CfT) : Prop := C'.2.2 = C.2.2 ∧ C'.2.1 1 = C.2.1 1
theorem Rq.rf {C : CfT} : Rq C C := ⟨rfl, rfl⟩
theorem Rq.tr {C C' C2 : CfT} (h : Rq C C') (h2 : Rq C' C2) : Rq C C2 := ⟨h2.1.trans h.1, h2.2.trans h.2⟩
theorem ArK.q {N B gr : Nat} {C C' : CfT} {k n : Nat} {y : Nat → Int32} (w : ArK N B gr C k n y) (h : Rq C C') : ArK N B gr C' k n y := by
  obtain ⟨h1, h2⟩ := h
  unfold ArK cA cR
  rw [h1, h2]
  exact w
theorem ArK.he {E : gE} {f : Nat → va_E} {N B gr : Nat} {C : CfT} {k n : Nat} {y : Nat → Int32} (w : ArK N B gr C k n y) (hz : CfZ E N B gr) (h : CfV E f N B gr C) : k < gN E ∧ ∃ x, f k = oB (gDA E) n x ∧ ∀ t, t < n → x t = y t := by
  obtain ⟨z1, z2, z3, z4, z5, z6, z7⟩ := id hz
  rcases w with ⟨rfl, rfl, rfl⟩ | ⟨rfl, m, i, hm, hi, rfl, hb, rfl⟩
  · exact ⟨by omega, _, h.q1, fun _ _ => rfl⟩
  · have hn : ∀ (x : Nat → Int32) t, t < 128 → x t = nr x t := fun x t ht => (if_pos ht).symm
    match m, hm with
    | 0, _ => exact ⟨by have : i < 256 := hi; show 94 + i < _; omega, _, h.r0 i hi, hn _⟩
    | 1, _ => exact ⟨by have : i < N := hi; show 350 + i < _; omega, _, h.r1 i hi, hn _⟩
    | 2, _ => exact ⟨by have : i < N := hi; show 350 + N + i < _; omega, _, h.r2 i hi, hn _⟩
    | 3, _ => exact ⟨by have : i < B := hi; show 350 + 2 * N + i < _; omega, _, h.r3 i hi, hn _⟩
    | 4, _ => exact ⟨by have : i < gr * 40 := hi; show 350 + 2 * N + B + i < _; omega, _, h.r4 i hi, hn _⟩
theorem G.arld {E : gE} {K : gM} {cc : ByteArray} {Q : gU} {f : Nat → va_E} {pc : Nat} {lv : List (Nat × Value)} {st : List Value} {N B gr : Nat} {C : CfT} {k n : Nat} {y : Nat → Int32} {i v : Int32} (hz : CfZ E N B gr) (h : CfV E f N B gr C) (w : ArK N B gr C k n y) (hin : vp_in i n) (hv : y i.toNatClampNeg = v) (d : decode cc pc = .ok (.baload, 1)) (kk : G E K cc Q (pc + 1) lv (.int v :: st) f) : G E K cc Q pc lv (.int i :: .ref (gAd E k) :: st) f := by
  obtain ⟨w1, x, w2, w3⟩ := w.he hz h
  exact G.baldP k w1 w2 w3 hin hv d kk
theorem G.arlen {E : gE} {K : gM} {cc : ByteArray} {Q : gU} {f : Nat → va_E} {pc : Nat} {lv : List (Nat × Value)} {st : List Value} {N B gr : Nat} {C : CfT} {k n : Nat} {y : Nat → Int32} (hz : CfZ E N B gr) (h : CfV E f N B gr C) (w : ArK N B gr C k n y) (d : decode cc pc = .ok (.arraylength, 1)) (kk : G E K cc Q (pc + 1) lv (.int (nI n) :: st) f) : G E K cc Q pc lv (.ref (gAd E k) :: st) f := by
  obtain ⟨w1, x, w2, w3⟩ := w.he hz h
  exact G.alen k 0 w1 w2 rfl rfl d kk
end DCA
