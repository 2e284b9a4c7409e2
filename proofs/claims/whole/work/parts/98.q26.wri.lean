/-! ===== pure: write, put, fill ===== -/
section PYZ
variable {N B gr r u : Nat} {V W : Nat → Rw} {m m' : M5} {tk tk' : Nat → Bool} {A A' : MS} {D D' D2 : CfT} {R R' : RfT} {g : Bool} {hd hi : Nat → Nat} {tp : Nat → Int32} {tl : Nat} {ex : Nat → Int32} {i k s cn : Nat}
theorem z_w17 {x1 x2 : Int32} {n : Nat} (hn : n ≤ 1024) (hb : Byt tp) (h4 : ∀ j, j < 1024 → rA R 4 j = tp j) : ∀ (f k : Nat) (X : RfT), k ≤ n → n - k < f → Fn [] [59] R X → (∀ c, c < k → rA X 59 c = tp c) → ∃ R', e_write_17 f X x1 x2 (nI n) (nI k) = bnd2 (e_writeData R' x1 x2 (nI n)) (fun v127 R127 => some (v127, R127)) ∧ Fn [] [59] R R' ∧ ∀ c, c < n → rA R' 59 c = tp c := by
  intro f
  induction f with
  | zero => intro k X _ h; exact absurd h (Nat.not_lt_zero _)
  | succ f ih =>
    intro k X hk hf fx hz
    rw [e_write_17]
    by_cases c : k = n
    · rw [c, if_pos (nI_le (Nat.le_refl _) (by omega))]
      exact ⟨X, rfl, fx, fun d hd => hz d (by omega)⟩
    · rw [if_neg (nI_ge (by omega) (by omega)), ld_n (show k < 1024 by omega) (by decide), fx.1.2.1 4 (by decide), h4 k (by omega), st_n (show k < 2000 by omega) (by decide), nI_1, nar8 (hb k)]
      refine ih (k + 1) _ (by omega) (by omega) (fx.tr (Fn.a (by decide))) (fun d hd => ?_)
      rw [rA_e]
      by_cases e : d = k
      · rw [e, pk_us]
      · rw [pk_un e]
        exact hz d (by omega)
theorem z_p39 {x1 : Int32} {n : Nat} (hn : n ≤ 1024) (hb : Byt tp) (h4 : ∀ j, j < 1024 → rA R 4 j = tp j) : ∀ (f k : Nat) (X : RfT), k ≤ n → n - k < f → Fn [] [59] R X → (∀ c, c < k → rA X 59 c = tp c) → ∃ R', e_put_39 f X x1 (nI n) (nI k) = ld (rA R' 55) 32 x1 (fun v64 => if v64 = ((2 : Int32)) then ld (rA R' 53) 32 x1 (fun v66 => bnd (e_size R' v66) (fun v67 => e_put_92 R' x1 (nI n) v67)) else ld (rA R' 54) 32 x1 (fun v65 => e_put_92 R' x1 (nI n) v65)) ∧ Fn [] [59] R R' ∧ ∀ c, c < n → rA R' 59 c = tp c := by
  intro f
  induction f with
  | zero => intro k X _ h; exact absurd h (Nat.not_lt_zero _)
  | succ f ih =>
    intro k X hk hf fx hz
    rw [e_put_39]
    by_cases c : k = n
    · rw [c, if_pos (nI_le (Nat.le_refl _) (by omega))]
      exact ⟨X, rfl, fx, fun d hd => hz d (by omega)⟩
    · rw [if_neg (nI_ge (by omega) (by omega)), ld_n (show k < 1024 by omega) (by decide), fx.1.2.1 4 (by decide), h4 k (by omega), st_n (show k < 2000 by omega) (by decide), nI_1, nar8 (hb k)]
      refine ih (k + 1) _ (by omega) (by omega) (fx.tr (Fn.a (by decide))) (fun d hd => ?_)
      rw [rA_e]
      by_cases e : d = k
      · rw [e, pk_us]
      · rw [pk_un e]
        exact hz d (by omega)
theorem IM.a59 (h : IM N B gr u g A D R m V tk hd hi tp tl) (f : Fn [] [59] R R') : IM N B gr u g A D R' m V tk hd hi tp tl := h.fr rfl rfl f (by decide) (by decide) ⟨fun _ _ => rfl, fun _ _ => rfl, fun j _ => f.1.1 j (by simp), fun k hk => f.1.2.1 k (by revert hk; revert k; decide)⟩ (by decide) rfl
theorem r_write {a0 a1 : Int32} (hN1 : 61 ≤ N) (hN : N ≤ 1024) (hgr : 1 ≤ gr) (hgr2 : gr ≤ 16) (hu : u + 9000 < 2 ^ 31) (h : IM N B gr u g A D R m V tk hd hi tp tl) (hL : LH V hd hi := by assumption) : Ret N B gr (u + 2500) ex (d_X11_write N B gr A D a0 a1) (e_write R a0 a1) := by
  obtain ⟨p1, p2, hT⟩ := h.tape
  have htl := h.2.2.2.2.2.2.2.1.2.2.2.1
  obtain ⟨n1, R1, n2, h1, ot, t0, t49, -⟩ := hT.nm hN
  rw [d_X11_write, bnd2_o p1, bndF_l n1, e_write, bnd2_o p2, bnd2_o n2, i00]
  obtain ⟨tb, tc, tr⟩ := h1.2.2.2.2.2.2.2.1.1
  obtain ⟨R2, z1, z2, z3⟩ := z_w17 (R := R1) (x1 := a0) (x2 := a1) htl tb tr fuL 0 R1 (Nat.zero_le _) (by rw [fuL_4]; omega) Fn.rf (fun c hc => absurd hc (Nat.not_lt_zero _))
  rw [nI_0] at z1
  rw [z1]
  have h2 := h1.a59 z2
  have ot2 : OwT A R2 m V := ⟨ot.1, ot.2.fr z2 (by decide)⟩
  have t0' : rS R2 0 = 0 := by rw [z2.1.1 0 (by simp)]; exact t0
  rcases j_file (a0 := a0) (D2 := sS D 1 0) hN1 hN h2.1 h2.2.1 with ⟨i, hir, rfl, hk1, k1, k2⟩ | ⟨k1, k2⟩ | ⟨k1, k2⟩
  · rw [bnd_o k1, if_pos (show (0 : Int32) ≤ 0 by decide)]
    have q := (r_store_1 (a1 := a1) (cn := tl) hN1 hN hgr hgr2 hu h2 ot2 t0' (fun c hc => by rw [z2.1.2.1 49 (by decide)]; exact t49 c hc) hir hk1 htl (fun j => by rw [tc j]; exact tb j) (fun j hj => by rw [z3 j hj, tc j])).ret (ex := ex)
    rcases q with ⟨x, A', D', R', a1, a2, a3, a4⟩ | ⟨A', D', R', v, a1, a2, a3, a4⟩ | ⟨c, A', D', R', v, a1, a2, a3, a4⟩
    · rw [bndF_l a1, bnd2_o a2]
      exact Or.inl ⟨x, A', D', R', rfl, rfl, a3, a4⟩
    · rw [bndF_r a1, bnd2_o a2]
      exact Or.inr (Or.inl ⟨A', D', R', v, rfl, rfl, a3, a4⟩)
    · rw [bndF_r a1, bnd2_o a3]
      exact Or.inr (Or.inr ⟨c, A', D', R', v, rfl, a2, rfl, a4⟩)
  · rw [bnd_o k1, if_neg (show ¬ (0 : Int32) ≤ -11 by decide), e_writeData, bnd_o k2, if_neg (show ¬ (0 : Int32) = 1 by decide), i00]
    exact Ret.ok h2 (by omega) t0' rfl rfl
  · rw [bnd_o k1, if_neg (show ¬ (0 : Int32) ≤ -4 by decide), e_writeData, bnd_o k2, if_neg (show ¬ (2 : Int32) = 1 by decide), if_neg (show ¬ (2 : Int32) = 0 by decide)]
    exact Ret.ok h2 (by omega) t0' rfl rfl
theorem IM.wayIn (h : IM N B gr u g A D R m V tk hd hi tp tl) (hk : k < 32) (h0 : hi k ≠ 0) : ir (hi k) ∧ f1 V (hi k) 0 = 1 := h.2.2.2.2.2.2.1.2.2 k hk h0
theorem Mtd.place {x : Nat} (h : Mtd N B gr u A D R) (hx : x ≤ 400000) : Mtd N B gr u A (sA D 35 (upd (cA D 35) i (nI x))) (setA R 54 (upd (rA R 54) i (nI x))) := by
  obtain ⟨g, m, V, tk, hd, hi, tp, tl, h, hL⟩ := h
  exact ⟨g, m, V, tk, hd, hi, tp, tl, h.place hx, hL⟩
theorem r_put {a0 : Int32} (hN1 : 61 ≤ N) (hN : N ≤ 1024) (hgr : 1 ≤ gr) (hgr2 : gr ≤ 16) (hu : u + 9000 < 2 ^ 31) (h : IM N B gr u g A D R m V tk hd hi tp tl) (hL : LH V hd hi := by assumption) : Ret N B gr (u + 2500) ex (d_X11_put N B gr A D a0) (e_put R a0) := by
  obtain ⟨p1, p2, hT⟩ := h.tape
  have htl := h.2.2.2.2.2.2.2.1.2.2.2.1
  obtain ⟨n1, R1, n2, h1, ot, t0, t49, -⟩ := hT.nm hN
  rw [d_X11_put, bnd2_o p1, bndF_l n1, e_put, bnd2_o p2, bnd2_o n2, i00]
  obtain ⟨tb, tc, tr⟩ := h1.2.2.2.2.2.2.2.1.1
  have hrel := h1.2.2.2.2.2.1
  rcases j_hnd (N := N) (W := vA A) hrel a0 with ⟨k, hk, rfl, h0, k1, k2⟩ | ⟨k1, k2⟩
  rotate_left
  · rw [bnd_o k1, bnd_o k2, i00, i00]
    exact Ret.ok h1 (by omega) t0 rfl rfl
  have z10 : ¬ (1 : Int32) = 0 := by decide
  obtain ⟨q1, q2, q3⟩ := hrel.2.1 k hk
  obtain ⟨w1, w2, pp, w3, w4⟩ := hrel.2.2 k hk h0
  rw [bnd_o k1, bnd_o k2, if_neg z10, if_neg z10, ld_n (g := cA (sS D 1 0) 36) hk (by decide), ld_n (g := rA R1 55) hk (by decide), w2]
  by_cases c0 : rA R1 55 k = 0
  · rw [if_pos c0, if_pos c0]
    exact Ret.ok h1 (by omega) t0 rfl rfl
  rw [if_neg c0, if_neg c0]
  obtain ⟨R2, z1, z2, z3⟩ := z_p39 (R := R1) (x1 := nI k) htl tb tr fuL 0 R1 (Nat.zero_le _) (by rw [fuL_4]; omega) Fn.rf (fun c hc => absurd hc (Nat.not_lt_zero _))
  rw [nI_0] at z1
  rw [z1]
  have h2 := h1.a59 z2
  have ot2 : OwT A R2 m V := ⟨ot.1, ot.2.fr z2 (by decide)⟩
  have t0' : rS R2 0 = 0 := by rw [z2.1.1 0 (by simp)]; exact t0
  obtain ⟨hir, hk1⟩ := h1.wayIn hk h0
  obtain ⟨s1, s2⟩ := j_size (D2 := sS D 1 0) hN1 hN h2.1 hir
  have hz := (h2.2.1.pz hir).1
  have e53 : rA R2 53 k = nI (hi k) := by rw [z2.1.2.1 53 (by decide)]; exact q2
  have e55 : rA R2 55 k = rA R1 55 k := by rw [z2.1.2.1 55 (by decide)]
  have e54 : rA R2 54 k = nI pp := by rw [z2.1.2.1 54 (by decide)]; exact w4
  have key : ∀ x, x ≤ 400000 → Ret N B gr (u + 2500) ex (d_X11_put_83 N B gr A (sS D 1 0) (nI k) (nI tl) (nI (hi k)) (nI x)) (e_put_92 R2 (nI k) (nI tl) (nI x)) := fun x hx => by
    rw [d_X11_put_83, e_put_92, ld_n hk (by decide), e53]
    rcases r_store_1 (a1 := nI x) (cn := tl) hN1 hN hgr hgr2 hu h2 ot2 t0' (fun c hc => by rw [z2.1.2.1 49 (by decide)]; exact t49 c hc) hir hk1 htl (fun j => by rw [tc j]; exact tb j) (fun j hj => by rw [z3 j hj, tc j]) with ⟨v, A', D', R', a1, a2, a3, a4, a5, a6⟩ | ⟨A', D', R', v, a1, a2, a3, a4, a5⟩
    · rw [bndF_l a1, bnd2_o a2, if_neg a4]
      by_cases cv : v ≤ 0
      · rw [if_pos cv, if_pos cv]
        exact Or.inl ⟨v, A', D', R', rfl, rfl, a3, a5⟩
      · obtain ⟨ev, t, t1, t2, t3⟩ := a6.resolve_left cv
        have ex : x = t := nI_inj (by omega) t1 t2
        rw [if_neg cv, if_neg cv, ev, nI_add, stA_n hk (by decide), st_n hk (by decide)]
        exact Or.inl ⟨_, A', _, _, rfl, rfl, a3, a5.place (by omega)⟩
    · rw [bndF_r a1, bnd2_o a2, if_pos a4]
      exact Or.inr (Or.inl ⟨A', D', R', v, rfl, rfl, a3, a5⟩)
  rw [ld_n (g := cA (sS D 1 0) 34) hk (by decide), ld_n (g := cA (sS D 1 0) 36) hk (by decide), q1, w2, ld_n (g := rA R2 55) hk (by decide), e55]
  by_cases c2 : rA R1 55 k = 2
  · rw [if_pos c2, if_pos c2, bnd_o s1, ld_n (g := rA R2 53) hk (by decide), e53, bnd_o s2]
    exact key _ hz
  · rw [if_neg c2, if_neg c2, ld_n (g := cA (sS D 1 0) 35) hk (by decide), ld_n (g := rA R2 54) hk (by decide), w1, w4, e54]
    exact key _ w3
/-- a byte of the pattern -/
def patB (sd : Int32) (k : Nat) : Int32 := vp_nar .byte ((((sd) + ((nI k) * (nI k))) + ((nI k) >>> (((5 : Int32)) &&& 31)) : Int32).toInt8.toInt32)
theorem z_f36 {x1 x2 sd : Int32} {n : Nat} (hn : n ≤ 2000) : ∀ (f k : Nat) (X : RfT), k ≤ n → n - k < f → Fn [] [59] R X → (∀ c, c < k → rA X 59 c = patB sd c) → ∃ R', e_fill_36 f X x1 x2 (nI n) sd (nI k) = bnd2 (e_writeData R' x1 x2 (nI n)) (fun v134 R134 => some (v134, R134)) ∧ Fn [] [59] R R' ∧ ∀ c, c < n → rA R' 59 c = patB sd c := by
  intro f
  induction f with
  | zero => intro k X _ h; exact absurd h (Nat.not_lt_zero _)
  | succ f ih =>
    intro k X hk hf fx hz
    rw [e_fill_36]
    by_cases c : k = n
    · rw [c, if_pos (nI_le (Nat.le_refl _) (by omega))]
      exact ⟨X, rfl, fx, fun d hd => hz d (by omega)⟩
    · rw [if_neg (nI_ge (by omega) (by omega)), st_n (show k < 2000 by omega) (by decide), nI_1]
      refine ih (k + 1) _ (by omega) (by omega) (fx.tr (Fn.a (by decide))) (fun d hd => ?_)
      rw [rA_e]
      by_cases e : d = k
      · rw [e, pk_us]
        rfl
      · rw [pk_un e]
        exact hz d (by omega)
theorem c_f47 {x1 x2 sd : Int32} {n : Nat} (hn : n ≤ 2000) : ∀ (f k : Nat) (x : Nat → Int32), k ≤ n → n - k < f → Byt x → (∀ c, c < k → x c = patB sd c) → ∃ x', d_X11_fill_47 N B gr f A (sA D 53 x) x1 x2 (nI n) sd (nI k) = bndF (d_X3_store_53 N B gr A (sA D 53 x') x1 x2 (nI n)) (fun v34 A34 D34 => some (.inl (v34, A34, D34))) ∧ Byt x' ∧ ∀ c, c < n → x' c = patB sd c := by
  intro f
  induction f with
  | zero => intro k x _ h; exact absurd h (Nat.not_lt_zero _)
  | succ f ih =>
    intro k x hk hf hb hz
    rw [d_X11_fill_47]
    by_cases c : k = n
    · rw [c, if_pos (nI_le (Nat.le_refl _) (by omega))]
      exact ⟨x, rfl, hb, fun d hd => hz d (by omega)⟩
    · rw [if_neg (nI_ge (by omega) (by omega)), stA_n (show k < 2000 by omega) (by decide), nI_1, cA_e, sA_A]
      refine ih (k + 1) _ (by omega) (by omega) hb.upd8 (fun d hd => ?_)
      by_cases e : d = k
      · rw [e, pk_us]
        rfl
      · rw [pk_un e]
        exact hz d (by omega)
/-- another pattern -/
theorem IM.a53 {x : Nat → Int32} (h : IM N B gr u g A D R m V tk hd hi tp tl) (hx : Byt x) : IM N B gr u g A (sA D 53 x) R m V tk hd hi tp tl := by
  obtain ⟨a1, a2, a3, a4, a5, a6, a7, ⟨⟨t1, t2, t3⟩, b2, b3, b4, b5, b6, b7, b8⟩, a9, a10⟩ := h
  have e : ∀ k, k ≠ 53 → cA (sA D 53 x) k = cA D k := fun k hk => cA_n hk
  refine ⟨⟨a1.1.dd rfl (e 29 (by decide)), a1.2⟩, a2, a3, a4, a5, ?_, a7, ⟨⟨t1, fun j => by rw [e 1 (by decide)]; exact t2 j, t3⟩, b2, b3, b4, ⟨b5.1, by rw [cA_e]; exact hx⟩, b6, b7, b8⟩, a9, a10.1, a10.2.1, by rw [e 42 (by decide)]; exact a10.2.2⟩
  unfold HRel
  rw [e 33 (by decide), e 34 (by decide), e 35 (by decide), e 36 (by decide)]
  exact a6
theorem r_fill {a0 a1 a2 a3 : Int32} (hN1 : 61 ≤ N) (hN : N ≤ 1024) (hgr : 1 ≤ gr) (hgr2 : gr ≤ 16) (hu : u + 9000 < 2 ^ 31) (hx : ex 2 = 3) (h : IM N B gr u g A D R m V tk hd hi tp tl) (hL : LH V hd hi := by assumption) : Ret N B gr (u + 2500) ex (d_X11_fill N B gr A D a0 a1 a2 a3) (e_fill R a0 a1 a2 a3) := by
  obtain ⟨n1, R1, n2, h1, ot, t0, t49, -⟩ := h.nm hN
  rw [d_X11_fill, bndF_l n1, e_fill, bnd2_o n2, i00]
  by_cases c : a2 < 0
  · rw [if_pos c, if_pos c, bnd2_o ref1, if_neg (by decide)]
    exact Ret.no h1.thr (by omega) (by rw [rS_0, hx]) (by decide) rfl rfl
  rw [if_neg c, if_neg c]
  by_cases c2 : a2 ≤ 2000
  rotate_left
  · rw [if_neg c2, if_neg c2, bnd2_o ref1, if_neg (by decide)]
    exact Ret.no h1.thr (by omega) (by rw [rS_0, hx]) (by decide) rfl rfl
  rw [if_pos c2, if_pos c2, bnd2_o ref0, i00]
  obtain ⟨cn, hcn1, rfl⟩ := nI_of c
  have hcn : cn ≤ 2000 := (nI_leI (b := 2000) hcn1 (by decide)).mp c2
  obtain ⟨R2, z1, z2, z3⟩ := z_f36 (R := setS R1 0 0) (x1 := a0) (x2 := a1) (sd := a3) hcn fuL 0 (setS R1 0 0) (Nat.zero_le _) (by rw [fuL_4]; omega) Fn.rf (fun c hc => absurd hc (Nat.not_lt_zero _))
  rw [nI_0] at z1
  rw [z1]
  have h2 := (h1.thr (v := 0)).a59 z2
  have ot2 : OwT A R2 m V := ⟨ot.1, (ot.2.fr (Fn.s (S := [0]) (T := []) (by decide)) (by decide)).fr z2 (by decide)⟩
  have t0' : rS R2 0 = 0 := by rw [z2.1.1 0 (by simp)]; exact rS_0
  rcases j_file (a0 := a0) (D2 := D) hN1 hN h2.1 h2.2.1 with ⟨i, hir, rfl, hk1, k1, k2⟩ | ⟨k1, k2⟩ | ⟨k1, k2⟩
  · rw [bnd_o k1, if_pos (show (0 : Int32) ≤ 0 by decide)]
    obtain ⟨x, x1, x2, x3⟩ := c_f47 (N := N) (B := B) (gr := gr) (A := A) (D := D) (x1 := nI i) (x2 := a1) (sd := a3) hcn fuL 0 (cA D 53) (Nat.zero_le _) (by rw [fuL_4]; omega) h2.2.2.2.2.2.2.2.1.2.2.2.2.1.2 (fun c hc => absurd hc (Nat.not_lt_zero _))
    rw [sA_id, nI_0] at x1
    rw [x1]
    have h3 := h2.a53 x2
    have q := (r_store_53 (a1 := a1) (cn := cn) hN1 hN hgr hgr2 hu h3 ot2 t0' (fun c hc => by
      rw [z2.1.2.1 49 (by decide)]
      exact t49 c hc) hir hk1 hcn (by rw [cA_e]; exact x2) (fun j hj => by rw [z3 j hj, cA_e, x3 j hj])).ret (ex := ex)
    rcases q with ⟨x, A', D', R', a1, a2, a3, a4⟩ | ⟨A', D', R', v, a1, a2, a3, a4⟩ | ⟨c, A', D', R', v, a1, a2, a3, a4⟩
    · rw [bndF_l a1, bnd2_o a2]
      exact Or.inl ⟨x, A', D', R', rfl, rfl, a3, a4⟩
    · rw [bndF_r a1, bnd2_o a2]
      exact Or.inr (Or.inl ⟨A', D', R', v, rfl, rfl, a3, a4⟩)
    · rw [bndF_r a1, bnd2_o a3]
      exact Or.inr (Or.inr ⟨c, A', D', R', v, rfl, a2, rfl, a4⟩)
  · rw [bnd_o k1, if_neg (show ¬ (0 : Int32) ≤ -11 by decide), e_writeData, bnd_o k2, if_neg (show ¬ (0 : Int32) = 1 by decide), i00]
    exact Ret.ok h2 (by omega) t0' rfl rfl
  · rw [bnd_o k1, if_neg (show ¬ (0 : Int32) ≤ -4 by decide), e_writeData, bnd_o k2, if_neg (show ¬ (2 : Int32) = 1 by decide), if_neg (show ¬ (2 : Int32) = 0 by decide)]
    exact Ret.ok h2 (by omega) t0' rfl rfl
end PYZ
