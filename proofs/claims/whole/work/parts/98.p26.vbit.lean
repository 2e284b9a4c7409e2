/-! ===== pure: bits of rows, as the reference sets them ===== -/
section PVC
variable {R : RfT} {N B gr : Nat}
/-- a byte with a bit set or cleared -/
def bsI (u s : Nat) (on : Bool) : Int32 := if on then nI u ||| ((1 : Int32) <<< (nI s &&& 31)) else nI u &&& (((1 : Int32) <<< (nI s &&& 31)) ^^^ (-1))
def bsW (y : Rw) (c : Nat) (on : Bool) : Rw := nr (wB y (c / 8) (bsI (ub y (c / 8)) (c % 8) on) 1)
theorem bsI_t1 : ∀ u : Fin 256, ∀ s : Fin 8, ∀ t : Fin 8, (bsI u.1 s.1 true).toBitVec.toNat % 256 / 2 ^ t.1 % 2 = if t = s then 1 else u.1 / 2 ^ t.1 % 2 := by decide +kernel
theorem bsI_f1 : ∀ u : Fin 256, ∀ s : Fin 8, ∀ t : Fin 8, (bsI u.1 s.1 false).toBitVec.toNat % 256 / 2 ^ t.1 % 2 = if t = s then 0 else u.1 / 2 ^ t.1 % 2 := by decide +kernel
theorem bsI_at {u s t : Nat} {on : Bool} (hu : u < 256) (hs : s < 8) (ht : t < 8) : (bsI u s on).toBitVec.toNat % 256 / 2 ^ t % 2 = if t = s then (if on then 1 else 0) else u / 2 ^ t % 2 := by
  cases on with
  | true =>
    have h := bsI_t1 ⟨u, hu⟩ ⟨s, hs⟩ ⟨t, ht⟩
    by_cases c : t = s
    · rw [if_pos c]
      rw [if_pos (Fin.ext c)] at h
      exact h
    · rw [if_neg c]
      rw [if_neg (fun z => c (congrArg Fin.val z))] at h
      exact h
  | false =>
    have h := bsI_f1 ⟨u, hu⟩ ⟨s, hs⟩ ⟨t, ht⟩
    by_cases c : t = s
    · rw [if_pos c]
      rw [if_pos (Fin.ext c)] at h
      exact h
    · rw [if_neg c]
      rw [if_neg (fun z => c (congrArg Fin.val z))] at h
      exact h
theorem ub_w1 {y : Rw} {p i : Nat} {v : Int32} (hi : i < 128) : ub (nr (wB y p v 1)) i = if i = p then v.toBitVec.toNat % 256 else ub y i := by
  unfold ub
  rw [nr_at hi, wB_1]
  by_cases c : i = p
  · rw [if_pos c, c, pk_us]
    have e := i8_255 (x := v)
    rw [pk_and _ 8 (by decide), pk_and _ 8 (by decide)] at e
    exact nI_inj (Nat.lt_trans (Nat.mod_lt _ (by decide)) (by decide)) (Nat.lt_trans (Nat.mod_lt _ (by decide)) (by decide)) e
  · rw [if_neg c, pk_un c]
theorem bt_bs {y : Rw} {c d : Nat} {on : Bool} (hc : c < 1024) (hd : d < 1024) : btM (bsW y c on) d = if d = c then (if on then 1 else 0) else btM y d := by
  have hu := ub_lt y (c / 8)
  unfold btM bsW
  rw [ub_w1 (by omega)]
  by_cases c1 : d / 8 = c / 8
  · rw [if_pos c1, bsI_at hu (by omega) (by omega), c1]
    by_cases c2 : d % 8 = c % 8
    · rw [if_pos c2, if_pos (show d = c by omega)]
    · rw [if_neg c2, if_neg (show ¬ d = c by omega)]
  · rw [if_neg c1, if_neg (show ¬ d = c by omega)]
theorem z_setField {m : M5} {V : Nat → Rw} {tk : Nat → Bool} (hN1 : 61 ≤ N) (hN : N ≤ 1024) (h : RX N B gr R m V tk) {i a n : Nat} {v : Int32} (h1 : 1 ≤ i) (h2 : i ≤ 64) (hn : n ≤ 4) (ha : a + n ≤ 32) : ∃ R', e_setField R (nI i) (nI a) (nI n) v = some R' ∧ RX N B gr R' m (vU V (homeM i) (nr (wB (V (homeM i)) (startM i + a) v n))) tk ∧ Fn [33] [30, 31, 32, 36, 43] R R' ∧ ∀ c, c < 1024 → wOw R' c ≠ none → c = homeM i ∨ wOw R c ≠ none := by
  have hh := homeM_lt h2
  have hs := startM_le i
  obtain ⟨R', e, q⟩ := z_setNumber (b := homeM i) (p := startM i + a) (n := n) (v := v) hN h (by unfold homeM; omega) (by omega) hn (by omega)
  refine ⟨R', ?_, q⟩
  have ea : (32 : Int32) * (nI i - 1 - (nI i - 1) / 4 * 4) + nI a = nI (startM i + a) := by
    rw [i1_sub h1, show (4 : Int32) = nI 4 from rfl, show (32 : Int32) = nI 32 from rfl, pk_div (by omega) (by decide) (by decide), pk_mul, pk_sub (by omega), n_rem, pk_mul, nI_add]
    congr 1
    unfold startM
    omega
  rw [e_setField, bnd_o (z_inodeBlock h1 (by omega)), ea, bnd_o e]
theorem z_setBit {m : M5} {V : Nat → Rw} {tk : Nat → Bool} (hN : N ≤ 1024) (h : RX N B gr R m V tk) {b c : Nat} {on : Bool} (hb0 : 43 ≤ b) (hb : b < N) (hc : c < 1024) : ∃ R', e_setBit R (nI b) (nI c) (bI on) = some R' ∧ RX N B gr R' m (vU V b (bsW (V b) c on)) tk ∧ Fn [33] [30, 31, 32, 36, 43] R R' ∧ ∀ d, d < 1024 → wOw R' d ≠ none → d = b ∨ wOw R d ≠ none := by
  have hs := z_seen (R := R) (b := b) (a := c / 8) (n := 1) (by omega) (h.1.lk b (by omega)) (Or.inl rfl) (by omega)
  rw [(h.2 b hb0 hb).1] at hs
  have hs : e_seenNumber R (nI b) (nI (c / 8)) 1 = some (nI (ub (V b) (c / 8))) := hs
  obtain ⟨R', e, q⟩ := z_setNumber (b := b) (p := c / 8) (n := 1) (v := bsI (ub (V b) (c / 8)) (c % 8) on) hN h hb0 hb (by decide) (by omega)
  refine ⟨R', ?_, q⟩
  have ed : nI c / 8 = nI (c / 8) := by
    rw [show (8 : Int32) = nI 8 from rfl, pk_div (by omega) (by decide) (by decide)]
  have er : nI c - nI (c / 8) * 8 = nI (c % 8) := by
    rw [show (8 : Int32) = nI 8 from rfl, pk_mul, pk_sub (by omega), n_rem]
  rw [e_setBit, ed, bnd_o hs, nm_o, er]
  cases on with
  | true =>
    rw [if_neg (show ¬ bI true = 0 by decide)]
    have e : e_setNumber R (nI b) (nI (c / 8)) 1 (nI (ub (V b) (c / 8)) ||| ((1 : Int32) <<< (nI (c % 8) &&& 31))) = some R' := e
    rw [bnd_o e]
  | false =>
    rw [if_pos (show bI false = 0 by decide)]
    have e : e_setNumber R (nI b) (nI (c / 8)) 1 (nI (ub (V b) (c / 8)) &&& (((1 : Int32) <<< (nI (c % 8) &&& 31)) ^^^ (-1))) = some R' := e
    rw [bnd_o e]
/-- a row is given up -/
theorem WkO.drop {R' : RfT} (h : WkO N R) (hN : N ≤ 1024) {n k b : Nat} (hb : b < N) (h33 : rS R 33 = nI n) (hn : n ≤ 1024) (hk : k < n) (h36 : rA R 36 b = nI k) (e33 : rS R' 33 = nI (n - 1)) (hc : (k = n - 1 ∧ rA R' 36 = upd (rA R 36) b (-1) ∧ rA R' 30 = rA R 30 ∧ rA R' 31 = rA R 31 ∧ rA R' 32 = rA R 32) ∨ (k < n - 1 ∧ ∃ t, t < N ∧ rA R 30 (n - 1) = nI t ∧ rA R' 36 = upd (upd (rA R 36) b (-1)) t (nI k) ∧ rA R' 30 = upd (rA R 30) k (nI t) ∧ rA R' 31 = upd (rA R 31) k (rA R 31 (n - 1)) ∧ (∀ j, j ≠ k → nr (fl (rA R' 32) j) = nr (fl (rA R 32) j)) ∧ nr (fl (rA R' 32) k) = nr (fl (rA R 32) (n - 1)))) (hb32 : Byt (rA R' 32)) (hX : ByX R') : WkO N R' ∧ (∀ c, c < 1024 → wOw R' c = if c = b then none else wOw R c) ∧ ∀ c, c < 1024 → wTk R' c = if c = b then false else wTk R c := by
  obtain ⟨n', n1, n2, n3, n4, n5, n6⟩ := h
  have en : n' = n := nI_inj (by omega) (by omega) (n2.symm.trans h33)
  subst en
  have hinj : ∀ j, j < n' → ∀ t, rA R 30 j = nI t → t < N → rA R 36 t = nI j := fun j hj t ht htN => by
    obtain ⟨u, u1, u2, u3⟩ := n3 j hj
    have : u = t := nI_inj (by omega) (by omega) (u2.symm.trans ht)
    rw [← this]
    exact u3
  have hkb : rA R 30 k = nI b := by
    rcases n4 b (by omega) with z | ⟨j, j1, j2, j3⟩
    · rw [h36] at z
      exact absurd z (nI_m1 (by omega))
    · have : j = k := nI_inj (by omega) (by omega) (j2.symm.trans h36)
      rw [this] at j3
      exact j3
  have hnb : ∀ j, j < n' → j ≠ k → ∀ t, rA R 30 j = nI t → t < N → t ≠ b := fun j hj hjk t ht htN z => by
    have q := hinj j hj t ht htN
    rw [z, h36] at q
    exact hjk (nI_inj (by omega) (by omega) q).symm
  have hcn : ∀ c, c < 1024 → c ≠ b → rA R 36 c = -1 ∨ ∃ j, j < n' ∧ j ≠ k ∧ rA R 36 c = nI j ∧ rA R 30 j = nI c ∧ c < N := fun c hc hcb => by
    rcases n4 c hc with z | ⟨j, j1, j2, j3⟩
    · exact Or.inl z
    · refine Or.inr ⟨j, j1, fun z => ?_, j2, j3, ?_⟩
      · rw [z, hkb] at j3
        exact hcb (nI_inj (by omega) (by omega) j3).symm
      · obtain ⟨u, u1, u2, u3⟩ := n3 j j1
        have : u = c := nI_inj (by omega) (by omega) (u2.symm.trans j3)
        omega
  rcases hc with ⟨ck, e36, e30, e31, e32⟩ | ⟨ck, t, t0, t1, e36, e30, e31, e32, e32k⟩
  · refine ⟨⟨n' - 1, by omega, e33, fun j hj => ?_, fun c hc => ?_, hb32, fun j hj => by rw [e31]; exact n6.1 j (by omega), hX⟩, fun c hc => ?_, fun c hc => ?_⟩
    · obtain ⟨u, u1, u2, u3⟩ := n3 j (by omega)
      exact ⟨u, u1, by rw [e30]; exact u2, by rw [e36, pk_un (hnb j (by omega) (by omega) u u2 u1)]; exact u3⟩
    · by_cases cc : c = b
      · exact Or.inl (by rw [e36, cc, pk_us])
      · rw [e36, pk_un cc, e30]
        rcases hcn c hc cc with z | ⟨j, j1, j2, j3, j4, -⟩
        · exact Or.inl z
        · exact Or.inr ⟨j, by omega, j3, j4⟩
    · unfold wOw
      by_cases cc : c = b
      · rw [if_pos cc, e36, cc, pk_us, if_pos rfl]
      · rw [if_neg cc, e36, pk_un cc, e32]
    · unfold wTk
      by_cases cc : c = b
      · rw [if_pos cc, e36, cc, pk_us]
        exact decide_eq_false (fun z => z.1 rfl)
      · rw [if_neg cc, e36, pk_un cc, e31]
  · have t36 := hinj (n' - 1) (by omega) t t1 t0
    have tb := hnb (n' - 1) (by omega) (by omega) t t1 t0
    have hct : ∀ c, c < 1024 → c ≠ b → c ≠ t → rA R 36 c = -1 ∨ ∃ j, j < n' - 1 ∧ j ≠ k ∧ rA R 36 c = nI j ∧ rA R 30 j = nI c := fun c hc c1 c2 => by
      rcases hcn c hc c1 with z | ⟨j, j1, j2, j3, j4, j5⟩
      · exact Or.inl z
      · refine Or.inr ⟨j, ?_, j2, j3, j4⟩
        have : j ≠ n' - 1 := fun z => by
          rw [z, t1] at j4
          exact c2 (nI_inj (by omega) (by omega) j4).symm
        omega
    refine ⟨⟨n' - 1, by omega, e33, fun j hj => ?_, fun c hc => ?_, hb32, fun j hj => ?_, hX⟩, fun c hc => ?_, fun c hc => ?_⟩
    · by_cases cj : j = k
      · exact ⟨t, t0, by rw [e30, cj, pk_us], by rw [e36, pk_us, cj]⟩
      · obtain ⟨u, u1, u2, u3⟩ := n3 j (by omega)
        have ut : u ≠ t := fun z => by
          rw [z, t36] at u3
          have := nI_inj (by omega) (by omega) u3
          omega
        exact ⟨u, u1, by rw [e30, pk_un cj]; exact u2, by rw [e36, pk_un ut, pk_un (hnb j (by omega) cj u u2 u1)]; exact u3⟩
    · by_cases cc : c = b
      · exact Or.inl (by rw [e36, cc, pk_un (fun z => tb z.symm), pk_us])
      · by_cases ct : c = t
        · exact Or.inr ⟨k, by omega, by rw [e36, ct, pk_us], by rw [e30, pk_us, ct]⟩
        · rw [e36, pk_un ct, pk_un cc]
          rcases hct c hc cc ct with z | ⟨j, j1, j2, j3, j4⟩
          · exact Or.inl z
          · exact Or.inr ⟨j, j1, j3, by rw [e30, pk_un j2]; exact j4⟩
    · by_cases cj : j = k
      · rw [e31, cj, pk_us]
        exact n6.1 (n' - 1) (by omega)
      · rw [e31, pk_un cj]
        exact n6.1 j (by omega)
    · unfold wOw
      by_cases cc : c = b
      · rw [if_pos cc, e36, cc, pk_un (fun z => tb z.symm), pk_us, if_pos rfl]
      · rw [if_neg cc]
        by_cases ct : c = t
        · rw [e36, ct, pk_us, t36, if_neg (nI_m1 (by omega)), if_neg (nI_m1 (by omega)), nI_clamp (by omega), nI_clamp (by omega), e32k]
        · rw [e36, pk_un ct, pk_un cc]
          rcases hct c hc cc ct with z | ⟨j, j1, j2, j3, j4⟩
          · rw [if_pos z, if_pos z]
          · rw [j3, if_neg (nI_m1 (by omega)), if_neg (nI_m1 (by omega)), nI_clamp (by omega), e32 j j2]
    · unfold wTk
      by_cases cc : c = b
      · rw [if_pos cc, e36, cc, pk_un (fun z => tb z.symm), pk_us]
        exact decide_eq_false (fun z => z.1 rfl)
      · rw [if_neg cc]
        by_cases ct : c = t
        · rw [e36, ct, pk_us, t36, nI_clamp (by omega), nI_clamp (by omega), e31, pk_us]
          have a1 : ¬ nI k = -1 := nI_m1 (by omega)
          have a2 : ¬ nI (n' - 1) = -1 := nI_m1 (by omega)
          by_cases c9 : rA R 31 (n' - 1) = 1
          · rw [decide_eq_true ⟨a1, c9⟩, decide_eq_true ⟨a2, c9⟩]
          · rw [decide_eq_false (fun z => c9 z.2), decide_eq_false (fun z => c9 z.2)]
        · rw [e36, pk_un ct, pk_un cc]
          rcases hct c hc cc ct with z | ⟨j, j1, j2, j3, j4⟩
          · rw [decide_eq_false (fun y => y.1 z), decide_eq_false (fun y => y.1 z)]
          · rw [j3, nI_clamp (by omega), e31, pk_un j2]
end PVC
