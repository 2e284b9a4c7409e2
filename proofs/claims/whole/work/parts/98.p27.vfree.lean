/-! ===== pure: the reference frees a block, gives all up ===== -/
section PVD
variable {R : RfT} {N B gr : Nat}
def mRs (m : M5) (rs : Nat → Nat) : M5 := (m.1, m.2.1, m.2.2.1, m.2.2.2.1, rs)
theorem RMw.rs {m : M5} {g : Nat → Int32} {rs : Nat → Nat} (h : RMw N B gr R m) (hg : ∀ b, b < 1024 → g b = nI (rs b) ∧ rs b < 3) : RMw N B gr (setA R 35 g) (mRs m rs) := by
  obtain ⟨h1, h2, h3, h4, h5, h6, h7, h8⟩ := h
  have f : Fn [] [35] R (setA R 35 g) := Fn.a (by decide)
  exact ⟨h1.fn f (fun _ _ => List.not_mem_nil) (by decide), h2.fq f.1 (by decide) (by decide) (by decide) (by decide) (by decide), h3.fq f.1 (by decide) (by decide) (by decide) (by decide) (by decide), fun b hb => by rw [rA_e]; exact hg b hb, h5.fq f.1 (by decide) (by decide) (by decide) (by decide) (by decide), h6, h7, h8⟩
theorem RX.of {m : M5} {V V' : Nat → Rw} {tk tk' : Nat → Bool} {R' : RfT} (hN : N ≤ 1024) (h : RX N B gr R m V tk) (f : Fn [33] [30, 31, 32, 36, 43] R R') (hw : WkO N R') (h1 : ∀ c, 43 ≤ c → c < N → oSee (wOw R' c) (befM m c) = V' c ∧ wTk R' c = tk' c) : RX N B gr R' m V' tk' := by
  refine ⟨h.1.fn f hw (by decide) (by decide), fun c hc0 hc => ?_⟩
  have e := rSee_ff f.1 (by decide)
  rw [rSee_t, e, h.1.bef hN hc]
  exact h1 c hc0 hc
theorem RX.own {m : M5} {V : Nat → Rw} {tk : Nat → Bool} (hN : N ≤ 1024) (h : RX N B gr R m V tk) {c : Nat} (hc0 : 43 ≤ c) (hc : c < N) : oSee (wOw R c) (befM m c) = V c ∧ wTk R c = tk c := by
  obtain ⟨q1, q2⟩ := h.2 c hc0 hc
  rw [rSee_t, h.1.bef hN hc] at q1
  exact ⟨q1, q2⟩
theorem z_free {m : M5} {V : Nat → Rw} {tk : Nat → Bool} (hN1 : 61 ≤ N) (hN : N ≤ 1024) (h : RX N B gr R m V tk) {b : Nat} (hb : b < N) (hb2 : 61 ≤ b) : ∃ R', e_free R (nI b) = some R' ∧ RX N B gr R' (mRs m (fun c => if c = b then 2 else m.2.2.2.2 c)) (vU (vU V 43 (bsW (V 43) b false)) b (befM m b)) (tU tk b false) ∧ Fn [33] [30, 31, 32, 35, 36, 43] R R' ∧ ∀ c, c < 1024 → wOw R' c ≠ none → c ≠ b ∧ (c = 43 ∨ wOw R c ≠ none) := by
  obtain ⟨R1, e1, x1, f1, o1⟩ := z_setBit (on := false) hN h (Nat.le_refl 43) (show 43 < N by omega) (show b < 1024 by omega)
  have e1 : e_setBit R 43 (nI b) 0 = some R1 := e1
  rw [e_free, bnd_o e1, st_n (show b < 1024 by omega) (by decide), show vp_nar .byte (2 : Int32) = nI 2 by decide]
  have x2 : RX N B gr (setA R1 35 (upd (rA R1 35) b (nI 2))) (mRs m (fun c => if c = b then 2 else m.2.2.2.2 c)) (vU V 43 (bsW (V 43) b false)) tk := by
    refine ⟨x1.1.rs (fun c hc => ?_), fun c hc0 hc => ?_⟩
    · by_cases cc : c = b
      · rw [cc, pk_us, if_pos rfl]
        exact ⟨rfl, by decide⟩
      · rw [pk_un cc, if_neg cc]
        exact x1.1.2.2.2.1 c hc
    · rw [rSee_fq (S := []) (T := [35]) (Fq.a (by decide)) (by decide)]
      exact x1.2 c hc0 hc
  have f2 : Fn [33] [30, 31, 32, 35, 36, 43] R (setA R1 35 (upd (rA R1 35) b (nI 2))) := (f1.wk (by decide) (by decide)).tr (Fn.a (by decide))
  have o2 : ∀ c, c < 1024 → wOw (setA R1 35 (upd (rA R1 35) b (nI 2))) c ≠ none → c = 43 ∨ wOw R c ≠ none := o1
  generalize hR2 : setA R1 35 (upd (rA R1 35) b (nI 2)) = R2 at *
  rw [ld_n (show b < 1024 by omega) (by decide)]
  by_cases c : rA R2 36 b = -1
  · rw [if_pos c]
    refine ⟨R2, rfl, ⟨x2.1, fun c' hc0 hc' => ?_⟩, f2, fun c' hc' hne => ⟨fun z => hne (by rw [z]; exact if_pos c), o2 c' hc' hne⟩⟩
    obtain ⟨q1, q2⟩ := x2.2 c' hc0 hc'
    by_cases cc : c' = b
    · rw [cc, vU_s]
      refine ⟨?_, ?_⟩
      · rw [rSee_t, show wOw R2 b = none from if_pos c, x2.1.bef hN hb]
        rfl
      · rw [show tU tk b false b = false from if_pos rfl]
        exact decide_eq_false (fun z => z.1 c)
    · rw [vU_n cc, show tU tk b false c' = tk c' from if_neg cc]
      exact ⟨q1, q2⟩
  · obtain ⟨n, n1, n2, n3, n4, n5, n6⟩ := id x2.1.wk
    rcases n4 b (by omega) with z | ⟨k, k1, k2, k3⟩
    · exact absurd z c
    rw [if_neg c, k2, st_n (show b < 1024 by omega) (by decide), ptR]
    have s1 : rS (setA R2 36 (upd (rA R2 36) b (-1))) 33 - 1 = nI (n - 1) := by
      show rS R2 33 - 1 = _
      rw [n2, i1_sub (by omega)]
    rw [s1]
    have s2 : rS (setS (setA R2 36 (upd (rA R2 36) b (-1))) 33 (nI (n - 1))) 33 = nI (n - 1) := pk_us (f := R2.1) (k := 33)
    have hfin : ∀ R', Fn [33] [30, 31, 32, 36, 43] R2 R' → WkO N R' → (∀ c, c < 1024 → wOw R' c = if c = b then none else wOw R2 c) → (∀ c, c < 1024 → wTk R' c = if c = b then false else wTk R2 c) → RX N B gr R' (mRs m (fun c => if c = b then 2 else m.2.2.2.2 c)) (vU (vU V 43 (bsW (V 43) b false)) b (befM m b)) (tU tk b false) ∧ Fn [33] [30, 31, 32, 35, 36, 43] R R' ∧ ∀ c, c < 1024 → wOw R' c ≠ none → c ≠ b ∧ (c = 43 ∨ wOw R c ≠ none) := fun R' f w o t => by
      refine ⟨x2.of hN f w (fun c' hc0 hc' => ?_), f2.tr (f.wk (by decide) (by decide)), fun c' hc' hne => ?_⟩
      rotate_left
      · rw [o c' hc'] at hne
        by_cases cc : c' = b
        · rw [if_pos cc] at hne
          exact absurd rfl hne
        · rw [if_neg cc] at hne
          exact ⟨cc, o2 c' hc' hne⟩
      rw [o c' (by omega), t c' (by omega)]
      by_cases cc : c' = b
      · rw [if_pos cc, if_pos cc, cc, vU_s]
        exact ⟨rfl, (if_pos rfl).symm⟩
      · rw [if_neg cc, if_neg cc, vU_n cc, show tU tk b false c' = tk c' from if_neg cc]
        exact x2.own hN hc0 hc'
    by_cases c1 : k = n - 1
    · rw [s2, if_pos (nI_le (by omega) (by omega))]
      obtain ⟨w1, w2, w3⟩ := x2.1.wk.drop (R' := setS (setA R2 36 (upd (rA R2 36) b (-1))) 33 (nI (n - 1))) hN hb n2 n1 k1 k2 s2 (Or.inl ⟨c1, rfl, rfl, rfl, rfl⟩) n5 n6.2
      exact ⟨_, rfl, hfin _ ((Fn.a (by decide)).tr (Fn.s (by decide))) w1 w2 w3⟩
    · obtain ⟨t, t1, t2, t3⟩ := n3 (n - 1) (by omega)
      rw [s2, if_neg (nI_ge (by omega) (by omega))]
      generalize hR3 : setS (setA R2 36 (upd (rA R2 36) b (-1))) 33 (nI (n - 1)) = R3 at *
      have a30 : rA R3 30 = rA R2 30 := by
        rw [← hR3]
        rfl
      have a31 : rA R3 31 = rA R2 31 := by
        rw [← hR3]
        rfl
      have a32 : rA R3 32 = rA R2 32 := by
        rw [← hR3]
        rfl
      have a36 : rA R3 36 = upd (rA R2 36) b (-1) := by
        rw [← hR3]
        rfl
      rw [ld_n (show n - 1 < 1024 by omega) (by decide), a30, t2, st_n (show k < 1024 by omega) (by decide)]
      generalize hR4 : setA R3 30 (upd (rA R3 30) k (nI t)) = R4
      have b33 : rS R4 33 = nI (n - 1) := by
        rw [← hR4]
        exact s2
      have b31 : rA R4 31 = rA R2 31 := by
        rw [← hR4, ← a31]
        rfl
      rw [b33, ld_n (show n - 1 < 1024 by omega) (by decide), b31, st_n (show k < 1024 by omega) (by decide)]
      have hnar : vp_nar .boolean (rA R2 31 (n - 1)) = rA R2 31 (n - 1) := by
        rcases n6.1 (n - 1) (by omega) with z | z
        · rw [z]
          decide
        · rw [z]
          decide
      rw [hnar]
      generalize hR5 : setA R4 31 (upd (rA R4 31) k (rA R2 31 (n - 1))) = R5
      have c33 : rS R5 33 = nI (n - 1) := by
        rw [← hR5]
        exact b33
      have c32 : rA R5 32 = rA R2 32 := by
        rw [← hR5, ← hR4, ← a32]
        rfl
      have cp := z_cp71_71 (R := R5) (p := 128 * (n - 1)) (q := 128 * k) (by rw [c32]; exact n5) (by omega) (by omega) (by omega)
      rw [c33, show (128 : Int32) = nI 128 from rfl, pk_mul, pk_mul, bnd_o cp]
      generalize hR6 : setA R5 32 (va_cpy (rA R5 32) (rA R5 32) (128 * (n - 1)) (128 * k) 128) = R6
      have d30 : rA R6 30 = upd (rA R2 30) k (nI t) := by
        rw [← hR6, ← hR5, ← hR4, ← a30]
        rfl
      have d36 : rA R6 36 = upd (rA R2 36) b (-1) := by
        rw [← hR6, ← hR5, ← hR4, ← a36]
        rfl
      rw [ld_n (show k < 1024 by omega) (by decide), d30, pk_us, st_n (show t < 1024 by omega) (by decide), d36]
      have f6 : Fn [33] [30, 31, 32, 36, 43] R2 R6 := by
        rw [← hR6, ← hR5, ← hR4, ← hR3]
        exact (((((Fn.a (by decide)).tr (Fn.s (by decide))).tr (Fn.a (by decide))).tr (Fn.a (by decide)))).tr (Fn.a (by decide))
      obtain ⟨w1, w2, w3⟩ := x2.1.wk.drop (R' := setA R6 36 (upd (upd (rA R2 36) b (-1)) t (nI k))) hN hb n2 n1 k1 k2 (by
        show rS R6 33 = _
        rw [← hR6]
        exact c33) (Or.inr ⟨by omega, t, t1, t2, rfl, d30, by
        show rA R6 31 = _
        rw [← hR6, rA_n (show 31 ≠ 32 by decide), ← hR5, rA_e, b31], fun j hj => by
        show nr (fl (rA R6 32) j) = _
        rw [← hR6, rA_e, c32]
        exact fl_out hj, by
        show nr (fl (rA R6 32) k) = _
        rw [← hR6, rA_e, c32, fl_in]
        rfl⟩) (by
        show Byt (rA R6 32)
        rw [← hR6, rA_e, c32]
        exact n5.cpy n5) (n6.2.eq (fun j hj => (rA_n (by revert hj; revert j; decide)).trans (f6.1.2.1 j (by revert hj; revert j; decide))))
      exact ⟨_, rfl, hfin _ (f6.tr (Fn.a (by decide))) w1 w2 w3⟩
theorem z_noWorks_l {n : Nat} (h33 : rS R 33 = nI n) (hn : n ≤ 1024) (h30 : ∀ k, k < n → ∃ t, t < 1024 ∧ rA R 30 k = nI t) : ∀ (m k : Nat) (X : RfT), k ≤ n → n - k < m → Fn [] [36] R X → (∀ b, b < 1024 → rA X 36 b = if ∃ i, i < k ∧ rA R 30 i = nI b then -1 else rA R 36 b) → ∃ R', e_noWorks_2 m X (nI k) = some R' ∧ Fn [33] [36] R R' ∧ rS R' 33 = 0 ∧ ∀ b, b < 1024 → rA R' 36 b = if ∃ i, i < n ∧ rA R 30 i = nI b then -1 else rA R 36 b := by
  intro m
  induction m with
  | zero => intro k _ _ h; exact absurd h (Nat.not_lt_zero _)
  | succ m ih =>
    intro k X hk hm f h36
    rw [e_noWorks_2, f.1.1 33 (by decide), h33]
    by_cases c : k = n
    · rw [c, if_pos (nI_le (Nat.le_refl _) (by omega)), ptR]
      rw [c] at h36
      exact ⟨_, rfl, (f.wk (fun j hj => absurd hj List.not_mem_nil) (by decide)).tr (Fn.s (by decide)), pk_us (f := X.1) (k := 33), h36⟩
    · obtain ⟨t, t1, t2⟩ := h30 k (by omega)
      rw [if_neg (nI_ge (by omega) (by omega)), ld_n (by omega) (by decide), f.1.2.1 30 (by decide), t2, st_n t1 (by decide), nI_1]
      refine ih (k + 1) _ (by omega) (by omega) (f.tr (Fn.a (by decide))) (fun b hb => ?_)
      rw [rA_e]
      by_cases cb : b = t
      · rw [cb, pk_us, if_pos ⟨k, by omega, t2⟩]
      · rw [pk_un cb, h36 b hb]
        by_cases c2 : ∃ i, i < k ∧ rA R 30 i = nI b
        · obtain ⟨i, i1, i2⟩ := c2
          rw [if_pos ⟨i, i1, i2⟩, if_pos ⟨i, by omega, i2⟩]
        · rw [if_neg c2, if_neg (fun ⟨i, i1, i2⟩ => by
            by_cases c3 : i = k
            · rw [c3, t2] at i2
              exact cb (nI_inj (by omega) (by omega) i2).symm
            · exact c2 ⟨i, by omega, i2⟩)]
theorem z_noWorks {m : M5} {V : Nat → Rw} {tk : Nat → Bool} (hN : N ≤ 1024) (h : RX N B gr R m V tk) : ∃ R', e_noWorks R = some R' ∧ RX N B gr R' m (befM m) (fun _ => false) ∧ Fn [33] [36] R R' ∧ rS R' 33 = 0 := by
  obtain ⟨n, n1, n2, n3, n4, n5, n6⟩ := id h.1.wk
  obtain ⟨R', e, f, s, a⟩ := z_noWorks_l n2 n1 (fun k hk => by
    obtain ⟨t, t1, t2, -⟩ := n3 k hk
    exact ⟨t, by omega, t2⟩) fuL 0 R (Nat.zero_le _) (by rw [fuL_4]; omega) Fn.rf (fun b hb => by rw [if_neg (fun ⟨i, i1, _⟩ => absurd i1 (Nat.not_lt_zero _))])
  have a36 : ∀ b, b < 1024 → rA R' 36 b = -1 := fun b hb => by
    rw [a b hb]
    by_cases c : ∃ i, i < n ∧ rA R 30 i = nI b
    · rw [if_pos c]
    · rw [if_neg c]
      rcases n4 b hb with z | ⟨k, k1, k2, k3⟩
      · exact z
      · exact absurd ⟨k, k1, k3⟩ c
  refine ⟨R', e, ?_, f, s⟩
  have fw : Fn [33] [30, 31, 32, 36, 43] R R' := f.wk (by decide) (by decide)
  refine h.of hN fw ⟨0, Nat.zero_le _, s, fun k hk => absurd hk (Nat.not_lt_zero _), fun b hb => Or.inl (a36 b hb), by rw [f.1.2.1 32 (by decide)]; exact n5, fun k hk => absurd hk (Nat.not_lt_zero _), n6.2.eq (fun k hk => f.1.2.1 k (by revert hk; revert k; decide))⟩ (fun c hc0 hc => ?_)
  rw [show wOw R' c = none from if_pos (a36 c (by omega))]
  exact ⟨rfl, decide_eq_false (fun z => z.1 (a36 c (by omega)))⟩
end PVD
