/-! ===== pure: the reference's log, its head ===== -/
section PUR
variable {R : RfT} {N B : Nat}
/-- the reference's log stands for L and tu -/
def RLg (N : Nat) (R : RfT) (L : List En) (tu : Int32) : Prop := rS R 22 = tu ∧ rS R 25 = nI L.length ∧ L.length ≤ 40 ∧ (∀ k, k < L.length → rA R 23 k = nI (lAt L k).1 ∧ (lAt L k).1 < N ∧ nr (fl (rA R 24) k) = (lAt L k).2) ∧ (∀ b, b < 1024 → EnOk (rA R 38) L b) ∧ Byt (rA R 24)
theorem nb8 {x : Int32} : vp_nar .byte x.toInt8.toInt32 = x.toInt8.toInt32 := nar8 (pk_fb x)
theorem i8_255 {x : Int32} : (vp_nar .byte x.toInt8.toInt32) &&& 255 = x &&& 255 := by
  rw [nb8, pk_and _ 8 (by decide), pk_and _ 8 (by decide)]
  congr 1
  have e : x.toInt8.toInt32.toInt8 = x.toInt8 := by simp
  have e4 := congrArg (fun z => z.toBitVec.toNat) e
  simp only [Int32.toBitVec_toInt8, BitVec.signExtend_eq_setWidth_of_le _ (show 8 ≤ 32 by decide), BitVec.toNat_setWidth] at e4
  exact e4
/-- a byte of the numbers -/
theorem nmR_at {bl g : Nat → Int32} : ∀ n k, k < n → nmR bl g n (2 * k) = vp_nar .byte (bl k).toInt8.toInt32 ∧ nmR bl g n (2 * k + 1) = vp_nar .byte ((bl k) >>> ((8 : Int32) &&& 31)).toInt8.toInt32
  | 0, k, h => absurd h (Nat.not_lt_zero _)
  | n + 1, k, h => by
    show s_two (nmR bl g n) (2 * n) (bl n) (2 * k) = _ ∧ s_two (nmR bl g n) (2 * n) (bl n) (2 * k + 1) = _
    unfold s_two
    by_cases c : k = n
    · subst c
      exact ⟨by rw [pk_un (by omega), pk_us], by rw [pk_us]⟩
    · obtain ⟨h1, h2⟩ := nmR_at (bl := bl) (g := g) n k (by omega)
      exact ⟨by rw [pk_un (by omega), pk_un (by omega)]; exact h1, by rw [pk_un (by omega), pk_un (by omega)]; exact h2⟩
theorem mixV_cat {g : Nat → Int32} {h : Int32} {a : Nat} : ∀ n, mixV (mixV h g a) (fun i => g (a + i)) n = mixV h g (a + n)
  | 0 => rfl
  | n + 1 => by
    show mixV (mixV h g a) (fun i => g (a + i)) n * 31 + (g (a + n) &&& 255) = mixV h g (a + n) * 31 + (g (a + n) &&& 255)
    rw [mixV_cat n]
theorem smR_flat {g : Nat → Int32} {v : Nat → Rw} {h : Int32} : ∀ n, (∀ k, k < n → nr (fl g k) = v k) → smR v h n = mixV h g (128 * n)
  | 0, _ => rfl
  | n + 1, e => by
    have e1 : smR v h (n + 1) = mixV (smR v h n) (v n) 128 := rfl
    rw [e1, Nat.mul_succ, smR_flat n (fun k hk => e k (by omega)), ← mixV_cat (g := g) (h := h) (a := 128 * n) 128, show (fun i => g (128 * n + i)) = fl g n from rfl]
    exact (Eb.mix (mixV h g (128 * n)) 128 (Eb.of' (g := fl g n) (e n (by omega)))).symm
theorem z_head3 {x : Int32} (hx : Byt (rA R 24)) {n : Nat} (hn : n ≤ 40) : ∀ (m k : Nat), k ≤ 128 * n → 128 * n - k < m → e_putHead_115 m R (nI n) (mixV x (rA R 24) k) (nI k) = bnd (e_set_79 R 6 4 (mixV x (rA R 24) (128 * n))) (fun R11 => bnd (e_hand_79 R11 1 0) (fun R12 => some R12)) := by
  intro m
  induction m with
  | zero => intro b _ h; exact absurd h (Nat.not_lt_zero _)
  | succ m ih =>
    intro k hk hm
    rw [e_putHead_115]
    by_cases c : k = 128 * n
    · rw [c, if_pos (show (128 : Int32) * nI n ≤ nI (128 * n) by rw [show (128 : Int32) = nI 128 from rfl, pk_mul]; exact nI_le (Nat.le_refl _) (by omega))]
    · have q : e_putHead_115 m R (nI n) (mixV x (rA R 24) k * 31 + (rA R 24 k &&& 255)) (nI (k + 1)) = _ := ih (k + 1) (by omega) (by omega)
      rw [if_neg (show ¬ (128 : Int32) * nI n ≤ nI k by rw [show (128 : Int32) = nI 128 from rfl, pk_mul]; exact nI_ge (by omega) (by omega)), ld_n (by omega) (by decide), nm_o, nI_1, q]
theorem z_head2 {x : Int32} {L : List En} (h24 : Byt (rA R 24)) (hL : L.length ≤ 40) (h23 : ∀ k, k < L.length → rA R 23 k = nI (lAt L k).1) : ∀ (m k : Nat), k ≤ 2 * L.length → 2 * L.length - k < m → e_putHead_71 m R (nI L.length) (mixV x (mNm L) k) (nI k) = bnd (e_set_79 R 6 4 (mixV (mixV x (mNm L) (2 * L.length)) (rA R 24) (128 * L.length))) (fun R11 => bnd (e_hand_79 R11 1 0) (fun R12 => some R12)) := by
  intro m
  induction m with
  | zero => intro b _ h; exact absurd h (Nat.not_lt_zero _)
  | succ m ih =>
    intro k hk hm
    rw [e_putHead_71]
    by_cases c : k = 2 * L.length
    · rw [c, if_pos (show (2 : Int32) * nI L.length ≤ nI (2 * L.length) by rw [show (2 : Int32) = nI 2 from rfl, pk_mul]; exact nI_le (Nat.le_refl _) (by omega))]
      exact z_head3 (R := R) (x := mixV x (mNm L) (2 * L.length)) h24 hL fuL 0 (Nat.zero_le _) (by rw [fuL_4]; omega)
    · have q : e_putHead_71 m R (nI L.length) (mixV x (mNm L) k * 31 + (mNm L k &&& 255)) (nI (k + 1)) = _ := ih (k + 1) (by omega) (by omega)
      have hm2 := Nat.mod_lt k (show 2 > 0 by decide)
      obtain ⟨a1, a2⟩ := nmR_at (bl := fun k => nI (lAt L k).1) (g := fun _ => 0) L.length (k / 2) (by omega)
      have e : (rA R 23 (k / 2) >>> (nI (8 * (k % 2)) &&& 31)) &&& 255 = mNm L k &&& 255 := by
        rw [h23 (k / 2) (by omega)]
        unfold mNm
        rw [nr_at (by omega)]
        by_cases c2 : k % 2 = 0
        · rw [show nmR (fun k => nI (lAt L k).1) (fun _ => 0) L.length k = nmR (fun k => nI (lAt L k).1) (fun _ => 0) L.length (2 * (k / 2)) by congr 1; omega, a1, i8_255, c2]
          refine (pk_and _ 8 (by decide)).trans (Eq.trans ?_ (pk_and _ 8 (by decide)).symm)
          congr 1
          have h := sh_n (v := nI (lAt L (k / 2)).1) (s := nI (8 * 0) &&& 31) (k := 0) (by decide)
          have l := (nI (lAt L (k / 2)).1).toBitVec.isLt
          rw [show (2 : Nat) ^ 0 = 1 from rfl, show (2 : Int) ^ 0 = 1 from rfl] at h
          omega
        · rw [show nmR (fun k => nI (lAt L k).1) (fun _ => 0) L.length k = nmR (fun k => nI (lAt L k).1) (fun _ => 0) L.length (2 * (k / 2) + 1) by congr 1; omega, a2, i8_255, show k % 2 = 1 by omega]
          rfl
      rw [if_neg (show ¬ (2 : Int32) * nI L.length ≤ nI k by rw [show (2 : Int32) = nI 2 from rfl, pk_mul]; exact nI_ge (by omega) (by omega)), show (2 : Int32) = nI 2 from rfl, show (8 : Int32) = nI 8 from rfl, pk_rem (a := k) (d := 2) (by omega) (by decide) (by decide), pk_div (by omega) (by decide) (by decide), pk_mul, ld_n (by omega) (by decide), e, nm_o, nI_1, q]
theorem z_head1 {x : Int32} {L : List En} (h24 : Byt (rA R 24)) (hL : L.length ≤ 40) (h23 : ∀ k, k < L.length → rA R 23 k = nI (lAt L k).1) : ∀ (m k : Nat), k ≤ 6 → 6 - k < m → e_putHead_38 m R (nI L.length) (mixV x (rA R 44) k) (nI k) = bnd (e_set_79 R 6 4 (mixV (mixV (mixV x (rA R 44) 6) (mNm L) (2 * L.length)) (rA R 24) (128 * L.length))) (fun R11 => bnd (e_hand_79 R11 1 0) (fun R12 => some R12)) := by
  intro m
  induction m with
  | zero => intro b _ h; exact absurd h (Nat.not_lt_zero _)
  | succ m ih =>
    intro k hk hm
    rw [e_putHead_38]
    by_cases c : k = 6
    · rw [c, if_pos (show (6 : Int32) ≤ nI 6 from nI_le (a := 6) (b := 6) (by decide) (by decide))]
      exact z_head2 (R := R) (L := L) h24 hL h23 fuL 0 (Nat.zero_le _) (by rw [fuL_4]; omega)
    · have q : e_putHead_38 m R (nI L.length) (mixV x (rA R 44) k * 31 + (rA R 44 k &&& 255)) (nI (k + 1)) = _ := ih (k + 1) (by omega) (by omega)
      rw [if_neg (show ¬ (6 : Int32) ≤ nI k from nI_ge (a := k) (b := 6) (by omega) (by decide)), ld_n (by omega) (by decide), nm_o, nI_1, q]
/-- the head of the log is made and put -/
theorem z_putHead {L : List En} {tu : Int32} (h24 : Byt (rA R 24)) (hL : L.length ≤ 40) (h23 : ∀ k, k < L.length → rA R 23 k = nI (lAt L k).1) (hv : ∀ k, k < L.length → nr (fl (rA R 24) k) = (lAt L k).2) (hok : rOk R B) : ∃ g, e_putHead R (nI L.length) tu = some (rHand (setA (setS R 22 tu) 44 g) 44 0 1) ∧ Byt g ∧ nr (fun i => g (0 + i)) = mHd L tu := by
  have hb := hok.b44
  have b0 : Byt (flt (rA R 44) 0 128 0) := fun i => by
    unfold flt
    split
    · decide
    · exact hb i
  have b1 : Byt (s_four (s_two (flt (rA R 44) 0 128 0) 0 (nI L.length)) 2 tu) := (b0.s_two).s_four
  have hsum : mixV (mixV (mixV 7 (s_four (s_two (flt (rA R 44) 0 128 0) 0 (nI L.length)) 2 tu) 6) (mNm L) (2 * L.length)) (rA R 24) (128 * L.length) = mSum L tu := by
    unfold mSum
    rw [smR_flat L.length hv, Eb.mix 7 6 (Eb.wk (n := 128) (show Eb 128 (s_four (s_two (flt (rA R 44) 0 128 0) 0 (nI L.length)) 2 tu) (mH0 L.length tu) from ((Eb_flt).two).four) (by decide))]
  refine ⟨s_four (s_four (s_two (flt (rA R 44) 0 128 0) 0 (nI L.length)) 2 tu) 6 (mSum L tu), ?_, b1.s_four, ?_⟩
  · have s1 := z_set79 (R := setA (setS R 22 tu) 44 (flt (rA R 44) 0 128 0)) (p := 0) (n := 2) (v := nI L.length) (by decide) (by decide)
    rw [wB_2, setA_A, rA_e] at s1
    have s2 := z_set79 (R := setA (setS R 22 tu) 44 (s_two (flt (rA R 44) 0 128 0) 0 (nI L.length))) (p := 2) (n := 4) (v := tu) (by decide) (by decide)
    rw [wB_4, setA_A, rA_e] at s2
    have s3 := z_set79 (R := setA (setS R 22 tu) 44 (s_four (s_two (flt (rA R 44) 0 128 0) 0 (nI L.length)) 2 tu)) (p := 6) (n := 4) (v := mSum L tu) (by decide) (by decide)
    rw [wB_4, setA_A, rA_e] at s3
    have h1 := z_head1 (R := setA (setS R 22 tu) 44 (s_four (s_two (flt (rA R 44) 0 128 0) 0 (nI L.length)) 2 tu)) (x := 7) (L := L) h24 hL h23 fuL 0 (Nat.zero_le _) (by rw [fuL_4]; omega)
    rw [rA_e, rA_n (show 24 ≠ 44 by decide)] at h1
    rw [show rA (setS R 22 tu) 24 = rA R 24 from rfl, hsum, bnd_o (m := e_set_79 _ 6 4 (mSum L tu)) s3] at h1
    rw [e_putHead, ptR, bnd_o (z_empty (R := setS R 22 tu)), bnd_o (m := e_set_79 _ 0 2 (nI L.length)) s1, show rS (setA (setS R 22 tu) 44 (s_two (flt (rA R 44) 0 128 0) 0 (nI L.length))) 22 = tu from pk_us (f := R.1) (k := 22) (x := tu), bnd_o (m := e_set_79 _ 2 4 _) s2]
    refine Eq.trans h1 ?_
    have ok2 : rOk (setA (setS R 22 tu) 44 (s_four (s_four (s_two (flt (rA R 44) 0 128 0) 0 (nI L.length)) 2 tu) 6 (mSum L tu))) B := rOk_44 (rOk_22 hok) b1.s_four
    rw [e_hand_79, gd_t ⟨⟨B, ok2⟩, nI_in (c := 1) (by decide) (by decide), rfl⟩]
    rfl
  · unfold mHd
    refine nr_eq (fun i hi => ?_)
    rw [Nat.zero_add]
    exact (show Eb 128 _ _ from (((Eb_flt).two).four).four) i hi
end PUR
