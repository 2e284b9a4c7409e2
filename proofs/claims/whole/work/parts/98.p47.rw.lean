/-! ===== pure: what is written is read ===== -/
section PVX
variable {N B gr : Nat} {V : Nat → Rw} {i : Nat}
theorem wB_out {y : Rw} {p : Nat} {v : Int32} {o : Nat} : ∀ n, (o < p ∨ p + n ≤ o) → wB y p v n o = y o
  | 0, _ => rfl
  | n + 1, h => by
    show upd (wB y p v n) (p + n) _ o = y o
    rw [pk_un (by omega), wB_out n (by omega)]
theorem ub_o {y : Rw} {p o n : Nat} {v : Int32} (ho : o < 128) (h : o < p ∨ p + n ≤ o) : ub (nr (wB y p v n)) o = ub y o := by
  unfold ub
  rw [nr_at ho, wB_out n h]
theorem n2_o {y : Rw} {p o n : Nat} {v : Int32} (ho : o + 2 ≤ 128) (h : o + 2 ≤ p ∨ p + n ≤ o) : n2 (nr (wB y p v n)) o = n2 y o := by
  unfold n2
  rw [ub_o (by omega) (by omega), ub_o (by omega) (by omega)]
theorem n4_o {y : Rw} {p o n : Nat} {v : Int32} (ho : o + 4 ≤ 128) (h : o + 4 ≤ p ∨ p + n ≤ o) : n4 (nr (wB y p v n)) o = n4 y o := by
  unfold n4
  rw [n2_o (by omega) (by omega), n2_o (by omega) (by omega)]
theorem wB_in {y : Rw} {p : Nat} {v : Int32} {k : Nat} : ∀ n, k < n → wB y p v n (p + k) = vp_nar .byte (bK v k)
  | 0, h => absurd h (Nat.not_lt_zero _)
  | n + 1, h => by
    show upd (wB y p v n) (p + n) _ (p + k) = _
    by_cases c : k = n
    · rw [c, pk_us]
    · rw [pk_un (by omega), wB_in n (by omega)]
theorem bK_n {v k : Nat} (hk : k < 4) (hv : v < 2 ^ 31) : (vp_nar .byte (bK (nI v) k)).toBitVec.toNat % 256 = v / 256 ^ k % 256 := by
  have e : bK (nI v) k = ((nI v).toUInt32 >>> ((nI (8 * k) : Int32).toUInt32 &&& Int32.toUInt32 31)).toInt32.toInt8.toInt32 := rfl
  have e2 : vp_nar .byte (bK (nI v) k) = bK (nI v) k := by
    rw [e]
    exact nb8
  rw [e2, e, lo8]
  have e3 : ((nI v).toUInt32 >>> ((nI (8 * k) : Int32).toUInt32 &&& Int32.toUInt32 31)).toInt32.toBitVec.toNat = v / 256 ^ k := by
    have hk4 : k = 0 ∨ k = 1 ∨ k = 2 ∨ k = 3 := by omega
    have hbv : ∀ s : UInt32, ((nI v).toUInt32 >>> s).toInt32.toBitVec.toNat = (nI v).toBitVec.toNat >>> (s.toBitVec.toNat % 32) := fun s => by
      show ((nI v).toBitVec >>> (s.toBitVec.umod 32#32).toNat).toNat = _
      rw [BitVec.toNat_ushiftRight]
      rfl
    rcases hk4 with rfl | rfl | rfl | rfl
    · rw [hbv, nI_tn (by omega)]
      show v >>> 0 = v / 1
      rw [Nat.shiftRight_zero, Nat.div_one]
    · rw [hbv, nI_tn (by omega)]
      show v >>> 8 = _
      rw [Nat.shiftRight_eq_div_pow]
    · rw [hbv, nI_tn (by omega)]
      show v >>> 16 = _
      rw [Nat.shiftRight_eq_div_pow]
    · rw [hbv, nI_tn (by omega)]
      show v >>> 24 = _
      rw [Nat.shiftRight_eq_div_pow]
  rw [e3]
theorem ub_i {y : Rw} {p n k v : Nat} (hk : k < n) (hn : n ≤ 4) (hp : p + n ≤ 128) (hv : v < 2 ^ 31) : ub (nr (wB y p (nI v) n)) (p + k) = v / 256 ^ k % 256 := by
  unfold ub
  rw [nr_at (by omega), wB_in n hk, bK_n (by omega) hv]
theorem ub_i1 {y : Rw} {p v : Nat} (hp : p + 1 ≤ 128) (hv : v < 256) : ub (nr (wB y p (nI v) 1)) p = v := by
  have := ub_i (y := y) (p := p) (n := 1) (k := 0) (v := v) (by decide) (by decide) hp (by omega)
  rw [Nat.add_zero] at this
  rw [this]
  omega
theorem n2_i {y : Rw} {p v : Nat} (hp : p + 2 ≤ 128) (hv : v < 65536) : n2 (nr (wB y p (nI v) 2)) p = v := by
  have h0 := ub_i (y := y) (p := p) (n := 2) (k := 0) (v := v) (by decide) (by decide) hp (by omega)
  have h1 := ub_i (y := y) (p := p) (n := 2) (k := 1) (v := v) (by decide) (by decide) hp (by omega)
  unfold n2
  rw [Nat.add_zero] at h0
  rw [h0, h1]
  omega
theorem n4_i {y : Rw} {p v : Nat} (hp : p + 4 ≤ 128) (hv : v < 2 ^ 31) : n4 (nr (wB y p (nI v) 4)) p = v := by
  have h0 := ub_i (y := y) (p := p) (n := 4) (k := 0) (v := v) (by decide) (by decide) hp (by omega)
  have h1 := ub_i (y := y) (p := p) (n := 4) (k := 1) (v := v) (by decide) (by decide) hp (by omega)
  have h2 := ub_i (y := y) (p := p) (n := 4) (k := 2) (v := v) (by decide) (by decide) hp (by omega)
  have h3 := ub_i (y := y) (p := p) (n := 4) (k := 3) (v := v) (by decide) (by decide) hp (by omega)
  unfold n4 n2
  rw [Nat.add_zero] at h0
  rw [show p + 1 = p + 1 from rfl, show p + 2 + 1 = p + 3 from rfl, h0, h1, h2, h3]
  omega
/-- two inodes' bytes are apart -/
theorem ino_ap {i j : Nat} (h1 : 1 ≤ i) (h1' : 1 ≤ j) (hne : i ≠ j) : homeM i ≠ homeM j ∨ startM i + 32 ≤ startM j ∨ startM j + 32 ≤ startM i := by
  unfold homeM startM
  omega
/-- the row of an inode's block after a write into inode i -/
theorem fld_ub {j a b n : Nat} {v : Int32} (h1 : 1 ≤ i) (h1' : 1 ≤ j) (ha : a + n ≤ 32) (hb : b < 32) (h : j ≠ i ∨ b < a ∨ a + n ≤ b) : ub (fldV V i a n v (homeM j)) (startM j + b) = ub (V (homeM j)) (startM j + b) := by
  have hs := startM_le i
  have hs' := startM_le j
  unfold fldV
  by_cases c : homeM j = homeM i
  · rw [c, vU_s]
    refine ub_o (by omega) ?_
    by_cases e : j = i
    · rw [e]
      rcases h with h | h
      · exact absurd e h
      · omega
    · rcases ino_ap h1 h1' (fun z => e z.symm) with q | q
      · exact absurd c.symm q
      · omega
  · rw [vU_n c]
theorem fld_n2 {j a b n : Nat} {v : Int32} (h1 : 1 ≤ i) (h1' : 1 ≤ j) (ha : a + n ≤ 32) (hb : b + 2 ≤ 32) (h : j ≠ i ∨ b + 2 ≤ a ∨ a + n ≤ b) : n2 (fldV V i a n v (homeM j)) (startM j + b) = n2 (V (homeM j)) (startM j + b) := by
  unfold n2
  rw [fld_ub (b := b) h1 h1' ha (by omega) (by omega), Nat.add_assoc, fld_ub (b := b + 1) h1 h1' ha (by omega) (by omega)]
theorem fld_f1 {j a b n : Nat} {v : Int32} (h1 : 1 ≤ i) (h1' : 1 ≤ j) (ha : a + n ≤ 32) (hb : b < 32) (h : j ≠ i ∨ b < a ∨ a + n ≤ b) : f1 (fldV V i a n v) j b = f1 V j b := fld_ub h1 h1' ha hb h
theorem fld_f2 {j a b n : Nat} {v : Int32} (h1 : 1 ≤ i) (h1' : 1 ≤ j) (ha : a + n ≤ 32) (hb : b + 2 ≤ 32) (h : j ≠ i ∨ b + 2 ≤ a ∨ a + n ≤ b) : f2 (fldV V i a n v) j b = f2 V j b := fld_n2 h1 h1' ha hb h
theorem fld_f4 {j a b n : Nat} {v : Int32} (h1 : 1 ≤ i) (h1' : 1 ≤ j) (ha : a + n ≤ 32) (hb : b + 4 ≤ 32) (h : j ≠ i ∨ b + 4 ≤ a ∨ a + n ≤ b) : f4 (fldV V i a n v) j b = f4 V j b := by
  unfold f4 n4
  rw [fld_n2 (b := b) h1 h1' ha (by omega) (by omega), Nat.add_assoc, fld_n2 (b := b + 2) h1 h1' ha (by omega) (by omega)]
theorem fld_x {a n b : Nat} {v : Int32} (h : b ≠ homeM i) : fldV V i a n v b = V b := vU_n h
/-- numbers are told by the inodes' bytes and the tables -/
theorem pv_cg {W : Nat → Rw} {j : Nat} (h0 : ∀ x, x < 10 → pvA W j x = pvA V j x) (ht : ∀ x, x < 138 → tbx x → pv V j x ≠ 0 → ∀ l, l < 64 → n2 (W (pv V j x)) (2 * l) = n2 (V (pv V j x)) (2 * l)) : ∀ x, x < 4234 → pv W j x = pv V j x := by
  have hT : ∀ x l, x < 138 → tbx x → l < 64 → pvT W (pv V j x) l = pvT V (pv V j x) l := fun x l hx hb hl => by
    unfold pvT
    by_cases c : pv V j x = 0
    · rw [if_pos c, if_pos c]
    · rw [if_neg c, if_neg c, ht x hx hb c l hl]
  have h1 : ∀ x, x < 138 → pv W j x = pv V j x := fun x hx => by
    by_cases c0 : x < 10
    · rw [pv_0 c0, pv_0 c0, h0 x c0]
    · by_cases c1 : x < 74
      · rw [pv_1 (by omega) c1, pv_1 (by omega) c1, pv_0 (show 8 < 10 by decide), h0 8 (by decide)]
        exact hT 8 _ (by decide) (Or.inl rfl) (by omega)
      · rw [pv_2 (by omega) hx, pv_2 (by omega) hx, pv_0 (show 9 < 10 by decide), h0 9 (by decide)]
        exact hT 9 _ (by decide) (Or.inr (Or.inl rfl)) (by omega)
  intro x hx
  by_cases c : x < 138
  · exact h1 x c
  · rw [pv_3 (by omega) hx, pv_3 (by omega) hx, h1 _ (by omega)]
    exact hT _ _ (by omega) (Or.inr (Or.inr ⟨by omega, by omega⟩)) (by omega)
/-- a field that is no number leaves the numbers -/
theorem pv_fld {j a n : Nat} {v : Int32} (hi : i ≤ 64) (h1 : 1 ≤ i) (h1' : 1 ≤ j) (ha : a + n ≤ 12) (hp : ∀ x, x < 138 → tbx x → pv V j x = 0 ∨ 61 ≤ pv V j x) : ∀ x, x < 4234 → pv (fldV V i a n v) j x = pv V j x := by
  have hh := homeM_lt hi
  refine pv_cg (fun x hx => ?_) (fun x hx hb h0 l hl => ?_)
  · unfold pvA
    rw [fld_f2 (b := 28) h1 h1' (by omega) (by decide) (by omega), fld_f2 (b := 30) h1 h1' (by omega) (by decide) (by omega)]
    by_cases c : x < 8
    · rw [if_pos c, if_pos c, fld_f2 (b := 12 + 2 * x) h1 h1' (by omega) (by omega) (by omega)]
    · rw [if_neg c, if_neg c]
  · rcases hp x hx hb with q | q
    · exact absurd q h0
    · rw [fld_x (by omega)]
end PVX
