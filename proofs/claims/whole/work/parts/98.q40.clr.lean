/-! ===== pure: clear, what lies below a directory ===== -/
section PZN
variable {N B gr r u n0 k k' t : Nat} {V W U : Nat → Rw} {m m' : M5} {tk tk' : Nat → Bool} {s0 : S3} {l : List Nat} {A A' : MS} {D D' D0 : CfT} {R R' R0 : RfT} {hd hi : Nat → Nat} {ch cs c : Nat → Nat}
def D5 (D D' : CfT) : Prop := (∀ j, j ≠ 2508 → D'.1 j = D.1 j) ∧ ∀ k, k ≠ 29 → k ≠ 54 → k ≠ 55 → D'.2.1 k = D.2.1 k
theorem D5.tr {D2 : CfT} (a : D5 D D') (b : D5 D' D2) : D5 D D2 := ⟨fun j h => (b.1 j h).trans (a.1 j h), fun k h1 h2 h3 => (b.2 k h1 h2 h3).trans (a.2 k h1 h2 h3)⟩
theorem D5.rf : D5 D D := ⟨fun _ _ => rfl, fun _ _ _ _ => rfl⟩
theorem Dt.d5 (a : Dt D D') : D5 D D' := ⟨a.1, fun k h _ _ => a.2 k h⟩
theorem D5.s {x : Nat → Int32} {i : Nat} (hi : i = 54 ∨ i = 55) : D5 D (sA D i x) := ⟨fun _ _ => rfl, fun k h1 h2 h3 => by
  show cA (sA D i x) k = cA D k
  exact cA_n (by rcases hi with q | q <;> omega)⟩
theorem D5.kep (a : D5 D D') {S T : List Nat} (f : Fq S T R R') (hS : ∀ j, j ∈ [5, 21, 34] → j ∉ S) (hT : ∀ k, k ∈ [4, 52, 53, 54, 55] → k ∉ T) : Kep D D' R R' := ⟨fun j hj => a.1 j (by revert hj; revert j; decide), fun k hk => a.2 k (by revert hk; revert k; decide) (by revert hk; revert k; decide) (by revert hk; revert k; decide), fun j hj => f.1 j (hS j hj), fun k hk => f.2.1 k (hT k hk)⟩
/-- the way down to the start stays -/
def PS (V W : Nat → Rw) (ch : Nat → Nat) (n0 : Nat) : Prop := ∀ j, j ≤ n0 → f1 W (ch j) 0 = f1 V (ch j) 0 ∧ szM W (ch j) = szM V (ch j) ∧ (∀ x, x < 4234 → pv W (ch j) x = pv V (ch j) x) ∧ ∀ x, x < 4234 → pv V (ch j) x ≠ 0 → W (pv V (ch j) x) = V (pv V (ch j) x)
theorem PS.rf : PS V V ch n0 := fun _ _ => ⟨rfl, rfl, fun _ _ => rfl, fun _ _ _ => rfl⟩
theorem PS.tr (a : PS V W ch n0) (b : PS W U ch n0) : PS V U ch n0 := fun j hj => by
  obtain ⟨a1, a2, a3, a4⟩ := a j hj
  obtain ⟨b1, b2, b3, b4⟩ := b j hj
  refine ⟨b1.trans a1, b2.trans a2, fun x hx => (b3 x hx).trans (a3 x hx), fun x hx h0 => ?_⟩
  have q := b4 x hx (by rw [a3 x hx]; exact h0)
  rw [a3 x hx] at q
  rw [q, a4 x hx h0]
theorem PS.cg {ch' : Nat → Nat} (a : PS V W ch n0) (h : ∀ j, j ≤ n0 → ch' j = ch j) : PS V W ch' n0 := fun j hj => by
  rw [h j hj]
  exact a j hj
/-- the state in the walk -/
def CLS (N B gr r : Nat) (s0 : S3) (hd hi : Nat → Nat) (n0 : Nat) (D0 : CfT) (R0 : RfT) (k : Nat) (ch cs c : Nat → Nat) (l : List Nat) (A : MS) (D : CfT) (R : RfT) (m : M5) (V : Nat → Rw) (tk : Nat → Bool) : Prop := WK N B gr r s0 l A D R m V tk (fun _ => 0) ∧ WF N V ∧ (HdW V hd hi ∧ LH V hd hi) ∧ D5 D0 D ∧ Fn [33] [30, 31, 32, 35, 36, 43, 57, 58] R0 R ∧ TrS V n0 k ch cs c ∧ (∀ j, j ≤ k → cA D 54 j = nI (ch (n0 + j)) ∧ cA D 55 j = nI (cs (n0 + j))) ∧ ∀ j, j < k → rA R 57 j = nI (ch (n0 + 1 + j)) ∧ rA R 58 j = nI (cs (n0 + 1 + j))
theorem nI_p (h : 1 ≤ k) : nI k + (-1) = nI (k - 1) := by
  rw [← Int32.sub_eq_add_neg, show (1 : Int32) = nI 1 from rfl, pk_sub h]
/-- both go on to the next slot -/
theorem CLS.step (h : CLS N B gr r s0 hd hi n0 D0 R0 k ch cs c l A D R m V tk) (hk : 1 ≤ k) (hs : cs (n0 + k) < szM V (ch (n0 + k)) / 16) (h0 : sln V (ch (n0 + k)) (cs (n0 + k)) = 0) : CLS N B gr r s0 hd hi n0 D0 R0 k ch (uN cs (n0 + k) (cs (n0 + k) + 1)) (uN c (ch (n0 + k)) (c (ch (n0 + k)) - 1)) l A (sA D 55 (upd (cA D 55) k (nI (cs (n0 + k) + 1)))) (setA R 58 (upd (rA R 58) (k - 1) (nI (cs (n0 + k) + 1)))) m V tk ∧ smC (uN c (ch (n0 + k)) (c (ch (n0 + k)) - 1)) 64 < smC c 64 := by
  obtain ⟨a1, a2, a3, a4, a5, a6, a7, a8⟩ := h
  obtain ⟨t1, t2⟩ := a6.slot a2 hk hs h0
  have f58 : Fn [] [58] R (setA R 58 (upd (rA R 58) (k - 1) (nI (cs (n0 + k) + 1)))) := Fn.a (by decide)
  refine ⟨⟨a1.fr rfl (cA_n (by decide)) f58 (by decide) (by decide), a2, a3, a4.tr (D5.s (Or.inr rfl)), a5.tr (f58.wk (by decide) (by decide)), t1, fun j hj => ⟨?_, ?_⟩, fun j hj => ⟨?_, ?_⟩⟩, t2⟩
  · rw [cA_n (by decide)]
    exact (a7 j hj).1
  · rw [cA_e]
    by_cases e : j = k
    · rw [e, pk_us, uN_s]
    · rw [pk_un e, uN_n (by omega)]
      exact (a7 j hj).2
  · rw [rA_n (by decide)]
    exact (a8 j hj).1
  · rw [rA_e]
    by_cases e : j = k - 1
    · rw [e, pk_us, show n0 + 1 + (k - 1) = n0 + k by omega, uN_s]
    · rw [pk_un e, uN_n (by omega)]
      exact (a8 j hj).2
/-- both take a name away and go on to the next slot -/
theorem CLS.rm (hN1 : 61 ≤ N) (hN : N ≤ 1024) (hr0 : HRel D0 R0 hd hi) (h : CLS N B gr r s0 hd hi n0 D0 R0 k ch cs c l A D R m V tk) (hk1 : 1 ≤ k') (hk' : k' ≤ k) (hkk : k' = k ∨ (k' + 1 = k ∧ t = ch (n0 + k))) (hfr : ∀ j, j ≤ n0 + k' → ch j ≠ t) (hs : cs (n0 + k') < szM V (ch (n0 + k')) / 16) (hst : sln V (ch (n0 + k')) (cs (n0 + k')) = t) (ht0 : t ≠ 0) (hem : f1 V t 0 = 2 → ∀ s, s < szM V t / 16 → sln V t s = 0) : ∃ A1 D1 A' D' R' m' W tk' l', d_X4_wipe N A D (nI (ch (n0 + k'))) (nI (cs (n0 + k'))) = some (A1, D1) ∧ d_X7_loseName N A1 D1 (nI t) = some (A', D') ∧ e_loseSlot R (nI (ch (n0 + k'))) (nI (cs (n0 + k'))) = some R' ∧ cA D' 55 k' = nI (cs (n0 + k')) ∧ rA R' 58 (k' - 1) = nI (cs (n0 + k')) ∧ CLS N B gr r s0 hd hi n0 D0 R0 k' ch (uN cs (n0 + k') (cs (n0 + k') + 1)) (uN c (ch (n0 + k')) (c (ch (n0 + k')) - 1)) l' A' (sA D' 55 (upd (cA D' 55) k' (nI (cs (n0 + k') + 1)))) (setA R' 58 (upd (rA R' 58) (k' - 1) (nI (cs (n0 + k') + 1)))) m' W tk' ∧ smC (uN c (ch (n0 + k')) (c (ch (n0 + k')) - 1)) 64 < smC c 64 ∧ gA A' = gA A ∧ PS V W ch n0 := by
  obtain ⟨a1, a2, a3, a4, a5, a6, a7, a8⟩ := id h
  have hr : HRel D R hd hi := (a4.kep a5.1 (by decide) (by decide)).hr hr0
  obtain ⟨d1, d2⟩ := a6.dr (n0 + k') (by omega)
  obtain ⟨A1, D1, R1, A', D', R', m', W, tk', l', b1, b2, b3, b4, b5, b6, b7, b8, b9, b10, b11, b12, b13, b14, b15, b16, b17⟩ := w_rmK hN1 hN a1 a2 hr a3.1 (a6.fnd a2 (n0 + k') (by omega)) d2 hs hst ht0 hem
  obtain ⟨t1, t2⟩ := a6.rm (t := t) hk' hkk hfr hs (fun j hj hne => ⟨(b13 j hj hne).1, (b13 j hj hne).2.1, (b13 j hj hne).2.2.1⟩) b14 b15 b17 a2
  have hb55 : ∀ j, cA D' 55 j = cA D 55 j := fun j => by rw [show cA D' 55 = cA D 55 from b7.2 55 (by decide)]
  have hb54 : ∀ j, cA D' 54 j = cA D 54 j := fun j => by rw [show cA D' 54 = cA D 54 from b7.2 54 (by decide)]
  have hb58 : ∀ j, rA R' 58 j = rA R 58 j := fun j => by rw [b8.1.2.1 58 (by decide)]
  have hb57 : ∀ j, rA R' 57 j = rA R 57 j := fun j => by rw [b8.1.2.1 57 (by decide)]
  have st : CLS N B gr r s0 hd hi n0 D0 R0 k' ch cs c l' A' D' R' m' W tk' := ⟨b5, b9, ⟨b10.1, b10.2 a3.2⟩, a4.tr b7.d5, a5.tr (b8.wk (by decide) (by decide)), t1, fun j hj => by rw [hb54, hb55]; exact a7 j (by omega), fun j hj => by rw [hb57, hb58]; exact a8 j (by omega)⟩
  obtain ⟨s1, s2⟩ := st.step hk1 t2 b15
  have els : e_loseSlot R (nI (ch (n0 + k'))) (nI (cs (n0 + k'))) = some R' := by
    have zs := z_sl2 hN1 hN a1.1.2 a2 d1 d2 hs
    rw [hst] at zs
    rw [e_loseSlot, bnd_o zs, bnd_o b2, bnd_o b4]
  refine ⟨A1, D1, A', D', R', m', W, tk', l', b1, b3, els, ?_, ?_, s1, s2, b6, fun j hj => ?_⟩
  · rw [hb55]
    exact (a7 k' hk').2
  · rw [hb58, (a8 (k' - 1) (by omega)).2, show n0 + 1 + (k' - 1) = n0 + k' by omega]
  · obtain ⟨e1, e2⟩ := a6.dr j (by omega)
    have ne : ch j ≠ t := hfr j (by omega)
    have q := b13 (ch j) e1 ne
    exact ⟨q.1, q.2.2.1, q.2.2.2, fun x hx h0 => b16 (ch j) x e1 ne (a6.ne a2 j (n0 + k') (by omega) (by omega)) hx h0⟩
/-- both go down into a directory -/
theorem CLS.push {e : Nat} (h : CLS N B gr r s0 hd hi n0 D0 R0 k ch cs c l A D R m V tk) (hs : cs (n0 + k) < szM V (ch (n0 + k)) / 16) (h1 : sln V (ch (n0 + k)) (cs (n0 + k)) = e) (he0 : e ≠ 0) (ke : f1 V e 0 = 2) : CLS N B gr r s0 hd hi n0 D0 R0 (k + 1) (uN ch (n0 + k + 1) e) (uN cs (n0 + k + 1) 0) (uN c e (szM V e / 16 + 1)) l A (sA (sA D 54 (upd (cA D 54) (k + 1) (nI e))) 55 (upd (cA D 55) (k + 1) 0)) (setA (setA R 57 (upd (rA R 57) k (nI e))) 58 (upd (rA R 58) k 0)) m V tk ∧ smC (uN c e (szM V e / 16 + 1)) 64 < smC c 64 ∧ n0 + k < 63 := by
  obtain ⟨a1, a2, a3, a4, a5, a6, a7, a8⟩ := h
  obtain ⟨t1, t2, t3⟩ := a6.push a2 hs h1 he0 ke
  have f57 : Fn [] [57, 58] R (setA (setA R 57 (upd (rA R 57) k (nI e))) 58 (upd (rA R 58) k 0)) := (Fn.a (by decide)).tr (Fn.a (by decide))
  refine ⟨⟨a1.fr rfl (by rw [cA_n (by decide), cA_n (by decide)]) f57 (by decide) (by decide), a2, a3, (a4.tr (D5.s (Or.inl rfl))).tr (D5.s (Or.inr rfl)), a5.tr (f57.wk (by decide) (by decide)), t1, fun j hj => ⟨?_, ?_⟩, fun j hj => ⟨?_, ?_⟩⟩, t2, t3⟩
  · rw [cA_n (by decide), cA_e]
    by_cases ej : j = k + 1
    · rw [ej, pk_us, show n0 + (k + 1) = n0 + k + 1 by omega, uN_s]
    · rw [pk_un ej, uN_n (by omega)]
      exact (a7 j (by omega)).1
  · rw [cA_e]
    by_cases ej : j = k + 1
    · rw [ej, pk_us, show n0 + (k + 1) = n0 + k + 1 by omega, uN_s]
      rfl
    · rw [pk_un ej, uN_n (by omega)]
      exact (a7 j (by omega)).2
  · rw [rA_n (by decide), rA_e]
    by_cases ej : j = k
    · rw [ej, pk_us, show n0 + 1 + k = n0 + k + 1 by omega, uN_s]
    · rw [pk_un ej, uN_n (by omega)]
      exact (a8 j (by omega)).1
  · rw [rA_e]
    by_cases ej : j = k
    · rw [ej, pk_us, show n0 + 1 + k = n0 + k + 1 by omega, uN_s]
      rfl
    · rw [pk_un ej, uN_n (by omega)]
      exact (a8 j (by omega)).2
theorem w_clr (hN1 : 61 ≤ N) (hN : N ≤ 1024) (hr0 : HRel D0 R0 hd hi) (top : Nat) : ∀ (n n' k x6 cnt : Nat) (ch cs c : Nat → Nat) (A : MS) (D : CfT) (R : RfT) (m : M5) (V : Nat → Rw) (tk : Nat → Bool) (l : List Nat), 1 ≤ k → smC c 64 < n → smC c 64 + 1 < n' → x6 + smC c 64 < 1000000 → cnt + smC c 64 < 2 ^ 30 → ch (n0 + 1) = top → CLS N B gr r s0 hd hi n0 D0 R0 k ch cs c l A D R m V tk → ∃ sf x6' cnt' A' D' R' m' W tk' l' ch' cs' c', d_X11_clear_90 N B gr n A D (nI k) (nI cnt) 0 (nI x6) = d_X11_clear_130 N B gr sf A' D' 0 (nI cnt') 1 x6' ∧ e_clearBelow_18 n' R (nI (k - 1)) (nI cnt) = some (nI cnt', R') ∧ cnt' < 2 ^ 30 ∧ CLS N B gr r s0 hd hi n0 D0 R0 1 ch' cs' c' l' A' D' R' m' W tk' ∧ (∀ j, j ≤ n0 + 1 → ch' j = ch j) ∧ (∀ j, j ≤ n0 → cs' j = cs j) ∧ cs' (n0 + 1) = szM W top / 16 ∧ gA A' = gA A ∧ PS V W ch n0 := by
  intro n
  induction n with
  | zero => intro n' k x6 cnt ch cs c A D R m V tk l _ h; exact absurd h (Nat.not_lt_zero _)
  | succ n ih =>
    intro n' k x6 cnt ch cs c A D R m V tk l hk hn hn' hx hc htop h
    obtain ⟨n', rfl⟩ : ∃ q, n' = q + 1 := ⟨n' - 1, by omega⟩
    obtain ⟨a1, a2, a3, a4, a5, a6, a7, a8⟩ := id h
    obtain ⟨d1, d2⟩ := a6.dr (n0 + k) (Nat.le_refl _)
    have d64 := d1.2
    have hK : n0 + k < 64 := by
      have hp := pigeon 64 (n0 + k + 1) (fun j => ch j - 1) (fun j hj => by
        obtain ⟨j1, j2⟩ := (a6.dr j (by omega)).1
        show ch j - 1 < 64
        omega) (fun i j hi hj he => by
        obtain ⟨i1, i2⟩ := (a6.dr i (by omega)).1
        obtain ⟨j1, j2⟩ := (a6.dr j (by omega)).1
        exact a6.inj a2 (by omega) (by omega) (by have he : ch i - 1 = ch j - 1 := he; omega))
      omega
    obtain ⟨y1, y2⟩ := j_size (D2 := D) hN1 hN a1.1 d1
    have hz := (a1.2.1.pz d1).1
    have hm128 := (a1.2.1.2.2.2.2.1 _ d1 d2).1
    have esl : d_X4_slots N (vA A) D (nI (ch (n0 + k))) = some (nI (szM V (ch (n0 + k)) / 16)) := by
      rw [d_X4_slots, bnd_o y1, show (16 : Int32) = nI 16 from rfl, pk_div (by omega) (by decide) (by decide)]
    have k54 := (a7 k (Nat.le_refl _)).1
    have k55 := (a7 k (Nat.le_refl _)).2
    have r57 := (a8 (k - 1) (by omega)).1
    have r58 := (a8 (k - 1) (by omega)).2
    rw [show n0 + 1 + (k - 1) = n0 + k by omega] at r57 r58
    have hcs := a6.2.2.2.1
    have e16 : (16 : Int32) * nI (cs (n0 + k)) = nI (16 * cs (n0 + k)) := by rw [show (16 : Int32) = nI 16 from rfl, pk_mul]
    rw [d_X11_clear_90, if_neg (show ¬ (1000000 : Int32) ≤ nI x6 from nI_ge (b := 1000000) (by omega) (by decide)), if_neg (show ¬ nI k ≤ (0 : Int32) from nI_ge (a := 0) (by omega) (by omega)), ld_n (show k < 65 by omega) (by decide), k55, ld_n (show k < 65 by omega) (by decide), k54, bnd_o esl, e_clearBelow_18, if_neg (show ¬ nI (k - 1) < 0 from nI_nn (by omega)), ld_n (show k - 1 < 70 by omega) (by decide), r57, ld_n (show k - 1 < 70 by omega) (by decide), r58, bnd_o y2, e16]
    by_cases cA1 : cs (n0 + k) < szM V (ch (n0 + k)) / 16
    · have zi := c_sl2 (D2 := D) hN1 hN a1.1.1 a2 d1 d2 cA1
      have zs := z_sl2 hN1 hN a1.1.2 a2 d1 d2 cA1
      rw [if_pos (nI_lt cA1 (by omega)), if_pos (nI_lt (by omega) (by omega)), d_X11_clear_130, ld_n (show k < 65 by omega) (by decide), k54, ld_n (show k < 65 by omega) (by decide), k55, bnd_o zi, e_clearBelow_59, i00, bnd_o zs, e_clearBelow_80, i00]
      obtain ⟨x, hxx⟩ : ∃ x, x = sln V (ch (n0 + k)) (cs (n0 + k)) := ⟨_, rfl⟩
      rw [← hxx]
      have ek : ¬ nI k = 0 := nI_ne0 (by omega) (by omega)
      by_cases x0 : x = 0
      · -- an empty slot
        obtain ⟨s1, s2⟩ := h.step hk cA1 (by rw [← hxx]; exact x0)
        rw [x0, nI_0, i00, d_X11_clear_201, i00, d_X11_clear_240, if_neg ek, ld_n (show k < 65 by omega) (by decide), k55, stA_n (show k < 65 by omega) (by decide), i00, e_clearBelow_160, i00, ld_n (show k - 1 < 70 by omega) (by decide), r58, st_n (show k - 1 < 70 by omega) (by decide), nI_1, nI_1]
        have q := ih n' k (x6 + 1) cnt ch (uN cs (n0 + k) (cs (n0 + k) + 1)) (uN c (ch (n0 + k)) (c (ch (n0 + k)) - 1)) A _ _ m V tk l hk (by omega) (by omega) (by omega) (by omega) htop s1
        obtain ⟨sf, x6', cnt', A', D', R', m', W, tk', l', ch', cs', c', q1, q2, q3, q4, q5, q6, q7, q8, q9⟩ := q
        exact ⟨sf, x6', cnt', A', D', R', m', W, tk', l', ch', cs', c', q1, q2, q3, q4, q5, fun j hj => by rw [q6 j hj, uN_n (by omega)], q7, q8, q9⟩
      · have hfn : Fnd V x := by rw [hxx]; exact a2.fnd d1 d2 cA1 (by rw [← hxx]; exact x0)
        have x64 := hfn.1.2
        have ex : ¬ nI x = 0 := nI_ne0 (by omega) (by omega)
        obtain ⟨kc, kr⟩ := j_kind (D2 := D) hN1 hN a1.1 hfn.1
        have kle := (a2.2.1 x hfn.1).1
        rw [if_neg ex, i00, bnd_o kc, if_neg ex, bnd_o kr]
        by_cases k2 : f1 V x 0 = 2
        · -- a directory
          have e2 : nI (f1 V x 0) = (2 : Int32) := by rw [k2]; rfl
          obtain ⟨s1, s2, s3⟩ := h.push cA1 hxx.symm x0 k2
          rw [if_pos e2, if_neg (show ¬ (64 : Int32) ≤ nI k from nI_ge (b := 64) (by omega) (by decide)), if_pos e2, nI_1, stA_n (show k + 1 < 65 by omega) (by decide), stA_n (show k + 1 < 65 by omega) (by decide), cA_n (by decide), nI_1, show nI (k - 1) + 1 = nI k by rw [nI_1]; congr 1; omega, st_n (show k < 70 by omega) (by decide), st_n (show k < 70 by omega) (by decide), rA_n (by decide)]
          have q := ih n' (k + 1) (x6 + 1) cnt (uN ch (n0 + k + 1) x) (uN cs (n0 + k + 1) 0) (uN c x (szM V x / 16 + 1)) A _ _ m V tk l (by omega) (by omega) (by omega) (by omega) (by omega) (by rw [uN_n (by omega)]; exact htop) s1
          obtain ⟨sf, x6', cnt', A', D', R', m', W, tk', l', ch', cs', c', q1, q2, q3, q4, q5, q6, q7, q8, q9⟩ := q
          rw [Nat.add_sub_cancel] at q2
          exact ⟨sf, x6', cnt', A', D', R', m', W, tk', l', ch', cs', c', q1, q2, q3, q4, fun j hj => by rw [q5 j hj, uN_n (by omega)], fun j hj => by rw [q6 j hj, uN_n (by omega)], q7, q8, q9.cg (fun j hj => by rw [uN_n (by omega)])⟩
        · -- a file
          have e2 : ¬ nI (f1 V x 0) = (2 : Int32) := nx2 k2 (by omega)
          have hfr : ∀ j, j ≤ n0 + k → ch j ≠ x := fun j hj z => k2 (by rw [← z]; exact (a6.dr j hj).2)
          obtain ⟨A1, D1, A', D', R', m', W, tk', l', b1, b2, b3, b4, b5, b6, b7, b8, b9⟩ := h.rm hN1 hN hr0 hk (Nat.le_refl _) (Or.inl rfl) hfr cA1 hxx.symm x0 (fun z => absurd z k2)
          rw [if_neg e2, d_X11_clear_201, if_neg ex, ld_n (show k < 65 by omega) (by decide), k54, ld_n (show k < 65 by omega) (by decide), k55, bnd2_o b1, bnd2_o b2, d_X11_clear_240, if_neg ek, ld_n (show k < 65 by omega) (by decide), b4, stA_n (show k < 65 by omega) (by decide), if_neg e2, e_clearBelow_160, if_neg ex, bnd_o b3, ld_n (show k - 1 < 70 by omega) (by decide), b5, st_n (show k - 1 < 70 by omega) (by decide), nI_1, nI_1, nI_1]
          have q := ih n' k (x6 + 1) (cnt + 1) ch _ _ A' _ _ m' W tk' l' hk (by omega) (by omega) (by omega) (by omega) htop b6
          obtain ⟨sf, x6', cnt', A2, D2, R2, m2, W2, tk2, l2, ch', cs', c', q1, q2, q3, q4, q5, q6, q7, q8, q9⟩ := q
          exact ⟨sf, x6', cnt', A2, D2, R2, m2, W2, tk2, l2, ch', cs', c', q1, q2, q3, q4, q5, fun j hj => by rw [q6 j hj, uN_n (by omega)], q7, q8.trans b8, b9.tr q9⟩
    · have hce : cs (n0 + k) = szM V (ch (n0 + k)) / 16 := by omega
      rw [if_neg (nI_nlt (by omega) (by omega)), if_neg (nI_nlt (by omega) (by omega)), nI_p hk, e_clearBelow_59, i10, e_clearBelow_80, i10]
      by_cases c1 : k = 1
      · subst c1
        obtain ⟨n', rfl⟩ : ∃ q, n' = q + 1 := ⟨n' - 1, by omega⟩
        rw [if_pos (show nI (1 - 1) + (-1) < (0 : Int32) by decide), e_clearBelow_18, if_pos (show nI (1 - 1) + (-1) < (0 : Int32) by decide)]
        exact ⟨_, _, cnt, A, D, R, m, V, tk, l, ch, cs, c, rfl, rfl, by omega, h, fun _ _ => rfl, fun _ _ => rfl, by rw [hce, htop], rfl, PS.rf⟩
      · have hem : ∀ s, s < szM V (ch (n0 + k)) / 16 → sln V (ch (n0 + k)) s = 0 := fun s hs => a6.2.2.2.2.1 (n0 + k) (by omega) (Nat.le_refl _) s (by omega)
        obtain ⟨l1, l2, l3, l4⟩ := a6.2.1 (n0 + (k - 1)) (by omega)
        have l4 : sln V (ch (n0 + (k - 1))) (cs (n0 + (k - 1))) = ch (n0 + k) := by rw [l4]; congr 1; omega
        have hfr : ∀ j, j ≤ n0 + (k - 1) → ch j ≠ ch (n0 + k) := fun j hj => a6.ne a2 j (n0 + k) (by omega) (Nat.le_refl _)
        have dne : ch (n0 + k) ≠ 0 := by have := d1.1; omega
        obtain ⟨A1, D1, A', D', R', m', W, tk', l', b1, b2, b3, b4, b5, b6, b7, b8, b9⟩ := h.rm (t := ch (n0 + k)) hN1 hN hr0 (show 1 ≤ k - 1 by omega) (by omega) (Or.inr ⟨by omega, rfl⟩) hfr l3 l4 dne (fun _ => hem)
        have m54 := (a7 (k - 1) (by omega)).1
        have m55 := (a7 (k - 1) (by omega)).2
        have r57' := (a8 (k - 2) (by omega)).1
        have r58' := (a8 (k - 2) (by omega)).2
        rw [show n0 + 1 + (k - 2) = n0 + (k - 1) by omega] at r57' r58'
        have zi := c_sl2 (D2 := D) hN1 hN a1.1.1 a2 l1 l2 l3
        rw [l4] at zi
        have ex : ¬ nI (ch (n0 + k)) = 0 := nI_ne0 (by omega) (by omega)
        have e2 : nI (k - 1) + (-1) = nI (k - 2) := by rw [nI_p (by omega)]; congr 1
        rw [show k - 1 - 1 = k - 2 by omega] at b5 b6
        rw [d_X11_clear_130, ld_n (show k - 1 < 65 by omega) (by decide), m54, ld_n (show k - 1 < 65 by omega) (by decide), m55, bnd_o zi, if_neg ex, i10, d_X11_clear_201, if_neg ex, ld_n (show k - 1 < 65 by omega) (by decide), m54, ld_n (show k - 1 < 65 by omega) (by decide), m55, bnd2_o b1, bnd2_o b2, d_X11_clear_240, if_neg (show ¬ nI (k - 1) = 0 from nI_ne0 (by omega) (by omega)), ld_n (show k - 1 < 65 by omega) (by decide), b4, stA_n (show k - 1 < 65 by omega) (by decide), e2, if_neg (nI_nn (show k - 2 < 2 ^ 31 by omega)), ld_n (show k - 2 < 70 by omega) (by decide), r57', ld_n (show k - 2 < 70 by omega) (by decide), r58', bnd_o b3, ld_n (show k - 2 < 70 by omega) (by decide), b5, st_n (show k - 2 < 70 by omega) (by decide), nI_1, nI_1, nI_1]
        have q := ih n' (k - 1) (x6 + 1) (cnt + 1) ch _ _ A' _ _ m' W tk' l' (by omega) (by omega) (by omega) (by omega) (by omega) htop b6
        obtain ⟨sf, x6', cnt', A2, D2, R2, m2, W2, tk2, l2', ch', cs', c', q1, q2, q3, q4, q5, q6, q7, q8, q9⟩ := q
        rw [show k - 1 - 1 = k - 2 by omega] at q2
        exact ⟨sf, x6', cnt', A2, D2, R2, m2, W2, tk2, l2', ch', cs', c', q1, q2, q3, q4, q5, fun j hj => by rw [q6 j hj, uN_n (by omega)], q7, q8.trans b8, b9.tr q9⟩
end PZN
