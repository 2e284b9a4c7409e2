/-! ===== pure: what tree tells of bytes ===== -/
section PZS
variable {N B gr r u : Nat} {V W U : Nat → Rw} {m m' : M5} {tk tk' : Nat → Bool} {A A' : MS} {D D' D0 D2 : CfT} {R R' : RfT} {i x y e q : Nat}
def pwx (b : Int64) : Nat → Int64
  | 0 => 1
  | n + 1 => pwx b n * b
theorem pwx_add {b : Int64} {a : Nat} : ∀ n, pwx b (a + n) = pwx b a * pwx b n
  | 0 => (Int64.mul_one _).symm
  | n + 1 => by
    show pwx b (a + n) * b = pwx b a * (pwx b n * b)
    rw [pwx_add n, Int64.mul_assoc]
theorem pwx_sq {b : Int64} : ∀ n, pwx (b * b) n = pwx b (2 * n)
  | 0 => rfl
  | n + 1 => by
    show pwx (b * b) n * (b * b) = pwx b (2 * n + 1) * b
    rw [pwx_sq n]
    show _ = pwx b (2 * n) * b * b
    rw [Int64.mul_assoc]
theorem nI_bv {k : Nat} (hk : k < 2 ^ 31) : (nI k).toBitVec.toNat = k := by
  unfold nI
  rw [Int32.toBitVec_ofNat', BitVec.toNat_ofNat]
  omega
theorem nI_and1 {k : Nat} (hk : k < 2 ^ 31) : nI k &&& 1 = nI (k % 2) := by
  have q : nI k &&& 1 = nI ((nI k).toBitVec.toNat % 2) := pk_and (nI k) 1 (by decide)
  rw [q, nI_bv hk]
theorem nI_shr1 {k : Nat} (hk : k < 2 ^ 31) : nI k >>> ((1 : Int32) &&& 31) = nI (k / 2) := by
  rw [← Int32.toInt_inj]
  have e : (1 : Int32) &&& 31 = nI 1 := by decide
  rw [e, pk_shr (nI k) (nI 1) 1 (by decide)]
  have h1 : (nI k).toInt = (k : Int) := Int32.toInt_ofNat_of_lt hk
  have h2 : (nI (k / 2)).toInt = ((k / 2 : Nat) : Int) := Int32.toInt_ofNat_of_lt (by omega)
  rw [h1, h2, Int.shiftRight_eq_div_pow]
  omega
theorem d_pw9 : ∀ (n k : Nat) (a b : Int64), k < 2 ^ 31 → k < n → d_X3_powerOf31_9 N U D n a b (nI k) = some (a * pwx b k) := by
  intro n
  induction n with
  | zero => intro k a b _ h; exact absurd h (Nat.not_lt_zero _)
  | succ n ih =>
    intro k a b hk hn
    rw [d_X3_powerOf31_9]
    by_cases c : k = 0
    · rw [c, if_pos (show nI 0 ≤ (0 : Int32) by decide)]
      show some a = some (a * 1)
      rw [Int64.mul_one]
    · rw [if_neg (show ¬ nI k ≤ (0 : Int32) from nI_ge (a := 0) (by omega) hk), nI_and1 hk, nI_shr1 hk]
      have hd : k / 2 < k := by omega
      by_cases c2 : k % 2 = 0
      · rw [if_pos (by rw [c2]; rfl), ih (k / 2) a (b * b) (by omega) (by omega), pwx_sq, show 2 * (k / 2) = k by omega]
      · rw [if_neg (nI_ne0 (by omega) (by omega)), ih (k / 2) (a * b) (b * b) (by omega) (by omega), pwx_sq]
        have e : k = 2 * (k / 2) + 1 := by omega
        have e2 : pwx b k = pwx b (2 * (k / 2)) * b := by
          rw [show pwx b k = pwx b (2 * (k / 2) + 1) by rw [← e]]
          rfl
        rw [e2, Int64.mul_assoc, Int64.mul_comm b]
theorem d_pw {k : Nat} (hk : k < 400001) : d_X3_powerOf31 N U D (nI k) = some (pwx 31 k) := by
  rw [d_X3_powerOf31, d_pw9 fuL k 1 31 (by omega) (by rw [fuL_4]; omega), Int64.one_mul]
/-- bytes told one behind the other -/
def hF (g : Nat → Int64) (h : Int64) (a : Nat) : Nat → Int64
  | 0 => h
  | n + 1 => hF g h a n * 31 + g (a + n)
theorem hF_add {g : Nat → Int64} {h : Int64} {a n : Nat} : ∀ k, hF g h a (n + k) = hF g (hF g h a n) (a + n) k
  | 0 => rfl
  | k + 1 => by
    show hF g h a (n + k) * 31 + g (a + (n + k)) = hF g (hF g h a n) (a + n) k * 31 + g (a + n + k)
    rw [hF_add k, Nat.add_assoc]
theorem hF_0 {g : Nat → Int64} {h : Int64} {a : Nat} : ∀ n, (∀ o, a ≤ o → o < a + n → g o = 0) → hF g h a n = h * pwx 31 n
  | 0, _ => (Int64.mul_one _).symm
  | n + 1, hz => by
    show hF g h a n * 31 + g (a + n) = h * (pwx 31 n * 31)
    rw [hF_0 n (fun o o1 o2 => hz o o1 (by omega)), hz (a + n) (by omega) (by omega), Int64.add_zero, Int64.mul_assoc]
/-- a byte of a file, as it is told -/
noncomputable def gB (V : Nat → Rw) (i o : Nat) : Int64 := if pv V i (px (o / 128)) = 0 then 0 else (nI (ub (V (pv V i (px (o / 128)))) (o % 128))).toInt64
theorem c_hb98 {yr : Rw} {sf : CfT → Int64 → Int32 → Int32 → Int32 → Option (Int64 × CfT)} {x4 x6 : Int32} {fr to b : Nat} {h0 : Int64} (hto : to ≤ fr + 128) (hft : fr ≤ to) (ht : to < 2 ^ 30) (hg : ∀ o, o < 128 → gB V i (fr + o) = (nI (ub yr o)).toInt64) : ∀ (n z : Nat), z ≤ to - fr → to - fr - z < n → d_X3_hashBytes_98 N U sf n D (hF (gB V i) h0 fr z) x4 (nI to) x6 (nI fr) yr 128 (nI z) = sf D (hF (gB V i) h0 fr (to - fr)) x4 (nI to) (x6 + 1) := by
  intro n
  induction n with
  | zero => intro z _ h; exact absurd h (Nat.not_lt_zero _)
  | succ n ih =>
    intro z hz hn
    rw [d_X3_hashBytes_98, pk_sub hft]
    by_cases c : to - fr ≤ z
    · rw [if_pos (nI_le c (by omega)), show z = to - fr by omega]
    · rw [if_neg (nI_ge (by omega) (by omega)), ld_n (by omega) (by decide), ub_and, nI_1]
      have q := ih (z + 1) (by omega) (by omega)
      have e : hF (gB V i) h0 fr (z + 1) = hF (gB V i) h0 fr z * 31 + (nI (ub yr z)).toInt64 := by
        rw [← hg z (by omega)]
        rfl
      rw [e] at q
      exact q
theorem c_hb24 {D9 : CfT} {sz : Nat} (hN : N ≤ 1024) (h : CX N A D9 m V tk) (hw : PW N V) (hi : ir i) (he : e = bfM sz) (hs : sz ≤ 400000) (h0 : Int64) (hg : GaD V i e D) : ∀ (dd q n fr : Nat), q + dd = e → ncM V i 0 e - ncM V i 0 q < n → fr ≤ 128 * q → fr ≤ sz → (∀ o, fr ≤ o → o < 128 * q → o < sz → gB V i o = 0) → d_X3_hashBytes_24 N (vA A) n D (hF (gB V i) h0 0 fr) (nI sz) (nI fr) (nI (ncM V i 0 q)) = some (hF (gB V i) h0 0 sz, D) := by
  have he3 : e ≤ 3200 := by
    unfold bfM at he
    omega
  have hle := nc_le (V := V) (i := i) e
  intro dd
  induction dd with
  | zero =>
    intro q n fr hq hn f1 f2 hz
    obtain ⟨n, rfl⟩ : ∃ k, n = k + 1 := ⟨n - 1, by omega⟩
    have hqe : q = e := by omega
    subst hqe
    have hq128 : sz ≤ 128 * q := by
      unfold bfM at he
      omega
    rw [d_X3_hashBytes_24, hg.1, if_pos (nI_le (Nat.le_refl _) (by omega)), pk_sub f2, bnd_o (d_pw (by omega)), ← hF_0 (g := gB V i) (a := fr) (sz - fr) (fun o o1 o2 => hz o o1 (by omega) (by omega))]
    have q1 := hF_add (g := gB V i) (h := h0) (a := 0) (n := fr) (sz - fr)
    rw [Nat.zero_add, show fr + (sz - fr) = sz by omega] at q1
    rw [q1]
  | succ dd ih =>
    intro q n fr hq hn f1 f2 hz
    by_cases c : pv V i (px q) = 0
    · have q1 := ih (q + 1) n fr (by omega) (by rw [nc_0 c]; exact hn) (by omega) f2 (fun o o1 o2 o3 => by
        by_cases co : o < 128 * q
        · exact hz o o1 co o3
        · unfold gB
          rw [show o / 128 = q by omega, if_pos c])
      rw [nc_0 c] at q1
      exact q1
    · obtain ⟨n, rfl⟩ : ∃ k, n = k + 1 := ⟨n - 1, by omega⟩
      have hm : ncM V i 0 (q + 1) ≤ ncM V i 0 e := nc_mono (by omega)
      rw [nc_s c] at hm
      obtain ⟨g1, g2⟩ := hg.2 q (by omega) c
      obtain ⟨b1, b2, b3⟩ := (hw.pto hi _ (px_lt (show q < 4168 by omega))).resolve_left c
      have hq128 : 128 * q < sz := by
        unfold bfM at he
        omega
      have emin : (if nI (128 * q) + 128 < nI sz then nI (128 * q) + 128 else nI sz) = nI (min (128 * q + 128) sz) := by
        rw [show (128 : Int32) = nI 128 from rfl, nI_add]
        by_cases cc : 128 * q + 128 < sz
        · rw [if_pos (nI_lt cc (by omega)), Nat.min_eq_left (by omega)]
        · rw [if_neg (nI_nlt (by omega) (by omega)), Nat.min_eq_right (by omega)]
      have e128 : nI q * 128 = nI (128 * q) := by rw [show (128 : Int32) = nI 128 from rfl, pk_mul, Nat.mul_comm]
      have hF1 : hF (gB V i) h0 0 fr * pwx 31 (128 * q - fr) = hF (gB V i) h0 0 (128 * q) := by
        rw [← hF_0 (g := gB V i) (a := fr) (128 * q - fr) (fun o o1 o2 => hz o o1 (by omega) (by omega))]
        have q1 := hF_add (g := gB V i) (h := h0) (a := 0) (n := fr) (128 * q - fr)
        rw [Nat.zero_add, show fr + (128 * q - fr) = 128 * q by omega] at q1
        exact q1.symm
      rw [d_X3_hashBytes_24, hg.1, if_neg (nI_ge (by omega) (by omega)), ld_n (by omega) (by decide), g1, e128, pk_sub f1, bnd_o (d_pw (by omega)), emin, nm_o, ld_n (by omega) (by decide), g2, see_n b2 hN, h.agu _ (by omega) b2 b3, hF1]
      have q98 := c_hb98 (N := N) (U := vA A) (V := V) (i := i) (D := D) (yr := V (pv V i (px q))) (sf := d_X3_hashBytes_24 N (vA A) n) (x4 := nI sz) (x6 := nI (ncM V i 0 q)) (fr := 128 * q) (to := min (128 * q + 128) sz) (b := 0) (h0 := hF (gB V i) h0 0 (128 * q)) (by omega) (by omega) (by omega) (fun o ho => by
        unfold gB
        rw [show (128 * q + o) / 128 = q by omega, show (128 * q + o) % 128 = o by omega, if_neg c]) fuL 0 (Nat.zero_le _) (by rw [fuL_4]; omega)
      have q98 : d_X3_hashBytes_98 N (vA A) (d_X3_hashBytes_24 N (vA A) n) fuL D (hF (gB V i) h0 0 (128 * q)) (nI sz) (nI (min (128 * q + 128) sz)) (nI (ncM V i 0 q)) (nI (128 * q)) (V (pv V i (px q))) 128 0 = _ := q98
      rw [q98, nI_1]
      have q1 := hF_add (g := gB V i) (h := h0) (a := 0) (n := 128 * q) (min (128 * q + 128) sz - 128 * q)
      rw [Nat.zero_add, show 128 * q + (min (128 * q + 128) sz - 128 * q) = min (128 * q + 128) sz by omega] at q1
      rw [← q1]
      have q2 := ih (q + 1) n (min (128 * q + 128) sz) (by omega) (by rw [nc_s c]; omega) (by omega) (by omega) (fun o o1 o2 o3 => by omega)
      rw [nc_s c] at q2
      exact q2
/-- a file's bytes are told by the other side -/
theorem c_hb {D9 : CfT} (hN1 : 61 ≤ N) (hN : N ≤ 1024) (h : JX N B gr A D9 R m V tk) (hw : WF N V) (hi : ir i) (h0 : Int64) : ∃ D', d_X3_hashBytes N (vA A) D h0 (nI i) = some (hF (gB V i) h0 0 (szM V i), D') ∧ Dg D D' := by
  have hs := (hw.pz hi).1
  obtain ⟨D', g1, g2, g3⟩ := c_gather (D := D) hN1 hN h (hw.1.pto hi) hi hs
  refine ⟨D', ?_, g3⟩
  have q := c_hb24 (A := A) hN h.1 hw.1 hi rfl hs h0 g2 (bfM (szM V i)) 0 fuL 0 (by omega) (by rw [fuL_4]; have := nc_le (V := V) (i := i) (bfM (szM V i)); unfold bfM at this ⊢; omega) (Nat.zero_le _) (Nat.zero_le _) (fun o _ o2 => by omega)
  have q : d_X3_hashBytes_24 N (vA A) fuL D' h0 (nI (szM V i)) 0 0 = _ := q
  rw [d_X3_hashBytes, bnd_o (c_size hN1 hN h.1 hw.1.1 hi), bnd_o g1, q]
theorem JX.tl {v : Int64} (h : JX N B gr A D R m V tk) : JX N B gr A D (setTl R v) m V tk := h
theorem z_tb40 {sf : RfT → Int32 → Int32 → Int32 → Option RfT} {h0 : Int64} {b sz : Nat} {yr : Rw} (hq : q < 5000) (hs : sz ≤ 400000) (h43 : b ≠ 0 → ∀ o, o < 128 → rA R 43 o = yr o) (hb : b < 2 ^ 31) (hg : ∀ o, o < 128 → gB V i (128 * q + o) = if b = 0 then 0 else (nI (ub yr o)).toInt64) : ∀ (n z : Nat), z ≤ min (sz - 128 * q) 128 → 128 - z < n → e_tellBytes_40 sf n (setTl R (hF (gB V i) h0 0 (128 * q + z))) (nI i) (nI sz) (nI q) (nI b) (nI z) = sf (setTl R (hF (gB V i) h0 0 (128 * q + min (sz - 128 * q) 128))) (nI i) (nI sz) (nI (q + 1)) := by
  intro n
  induction n with
  | zero => intro z _ h; exact absurd h (Nat.not_lt_zero _)
  | succ n ih =>
    intro z hz hn
    have e : ∀ v : Int64, v = gB V i (128 * q + z) → hF (gB V i) h0 0 (128 * q + (z + 1)) = hF (gB V i) h0 0 (128 * q + z) * 31 + v := fun v hv => by
      rw [hv]
      show hF (gB V i) h0 0 (128 * q + z) * 31 + gB V i (0 + (128 * q + z)) = _
      rw [Nat.zero_add]
    rw [e_tellBytes_40, nI_1]
    by_cases c1 : z = 128
    · rw [if_pos (show (128 : Int32) ≤ nI z by rw [c1]; decide), show min (sz - 128 * q) 128 = z by omega]
    · rw [if_neg (show ¬ (128 : Int32) ≤ nI z from nI_ge (b := 128) (by omega) (by decide)), show (128 : Int32) = nI 128 from rfl, pk_mul, nI_add]
      by_cases c2 : sz ≤ 128 * q + z
      · rw [if_pos (nI_le c2 (by omega)), show min (sz - 128 * q) 128 = z by omega]
      · have q1 := ih (z + 1) (by omega) (by omega)
        rw [if_neg (nI_ge (by omega) (by omega))]
        by_cases c0 : b = 0
        · have hz0 : gB V i (128 * q + z) = 0 := by rw [hg z (by omega), if_pos c0]
          rw [if_pos (show nI b = 0 by rw [c0]; rfl), ptTl, nI_1]
          rw [e ((0 : Int32).toInt64) (by rw [hz0]; rfl)] at q1
          exact q1
        · rw [if_neg (show ¬ nI b = 0 from nI_ne0 (by omega) hb), ld_n (by omega) (by decide), show rA (setTl R (hF (gB V i) h0 0 (128 * q + z))) 43 z = yr z from h43 c0 z (by omega), ub_and, ptTl, nI_1]
          rw [e ((nI (ub yr z)).toInt64) (by rw [hg z (by omega), if_neg c0])] at q1
          exact q1
end PZS
