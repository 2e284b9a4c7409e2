/-! ===== pure: restart, all blocks ===== -/
section PZV
variable {N B gr u : Nat}
theorem nz_c : ∀ c, c < 257 → ¬ ((1 : Int32) + nI c).toInt64 = 0 := by
  intro c hc h
  rw [show (1 : Int32) = nI 1 from rfl, nI_add] at h
  have q := congrArg Int64.toInt h
  rw [Int32.toInt_toInt64] at q
  exact nI_ne0 (n := 1 + c) (by omega) (by omega) (Int32.toInt_inj.mp q)
/-- the rings of both sides tell one list -/
def Rg2 (N : Nat) (D : Dk0) (C : CfT) (R : RfT) (a a' w : Nat) : Prop := a < 256 ∧ a' < 256 ∧ w ≤ 256 ∧ cS C 206 = nI a ∧ cS C 207 = nI w ∧ rS R 9 = nI a' ∧ rS R 10 = nI w ∧ D.2 = rgL (cA C 7) (cR C 0) a w ∧ D.2 = rgL (rA R 7) (fl (rA R 8)) a' w ∧ (∀ i, i < w → ∃ t, t < N ∧ cA C 7 ((a + i) % 256) = nI t) ∧ (∀ i, i < w → ∃ t, t < N ∧ rA R 7 ((a' + i) % 256) = nI t) ∧ (∀ s, Byt (cR C 0 s)) ∧ Byt (rA R 8)
theorem rgL_i {bo : Nat → Int32} {va : Nat → Nat → Int32} {a n i : Nat} (hi : i < n) : (rgL bo va a n)[i]? = some ((bo ((a + i) % 256)).toNatClampNeg, nr (va ((a + i) % 256))) := by
  unfold rgL
  rw [List.getElem?_map, List.getElem?_range hi]
  rfl
theorem Rg2.at {D : Dk0} {C : CfT} {R : RfT} {a a' w i : Nat} (hN : N ≤ 1024) (h : Rg2 N D C R a a' w) (hi : i < w) : (∀ b, b < 1024 → (cA C 7 ((a + i) % 256) = nI b ↔ rA R 7 ((a' + i) % 256) = nI b)) ∧ nr (cR C 0 ((a + i) % 256)) = nr (fl (rA R 8) ((a' + i) % 256)) ∧ ∀ b, b < 1024 → cA C 7 ((a + i) % 256) = nI b → (b, nr (cR C 0 ((a + i) % 256))) ∈ D.2 := by
  obtain ⟨h1, h2, h3, h4, h5, h6, h7, h8, h9, h10, h11, h12, h13⟩ := h
  have e1 := rgL_i (bo := cA C 7) (va := cR C 0) (a := a) hi
  have e2 := rgL_i (bo := rA R 7) (va := fl (rA R 8)) (a := a') hi
  rw [← h8] at e1
  rw [← h9, e1] at e2
  injection e2 with e2
  injection e2 with e3 e4
  obtain ⟨t, t1, t2⟩ := h10 i hi
  obtain ⟨t', t1', t2'⟩ := h11 i hi
  rw [t2, t2', nI_clamp (by omega), nI_clamp (by omega)] at e3
  refine ⟨fun b hb => ?_, e4, fun b hb hc => ?_⟩
  · rw [t2, t2', e3]
  · rw [t2] at hc
    have := nI_inj (a := t) (b := b) (by omega) (by omega) hc
    rw [t2, nI_clamp (by omega), this] at e1
    exact List.mem_of_getElem? e1
theorem Rg2.wo {D : Dk0} {C : CfT} {R : RfT} {a a' w b : Nat} (hN : N ≤ 1024) (h : Rg2 N D C R a a' w) (hb : b < 1024) : ∀ i, i ≤ w → rWo (cA C 7) a b i = rWo (rA R 7) a' b i
  | 0, _ => rfl
  | i + 1, hi => by
    have ih := Rg2.wo hN h hb i (by omega)
    have q := ((h.at hN (i := i) (by omega)).1 b hb)
    by_cases c : cA C 7 ((a + i) % 256) = nI b
    · rw [rWo_y c, rWo_y (q.mp c), ih]
    · rw [rWo_n c, rWo_n (fun z => c (q.mpr z)), ih]
theorem Rg2.fi {D : Dk0} {C : CfT} {R : RfT} {a a' w b kk : Nat} (hN : N ≤ 1024) (h : Rg2 N D C R a a' w) (hb : b < 1024) : ∀ d i, i + d = w → fiR (cA C 7) a b kk d i = fiR (rA R 7) a' b kk d i
  | 0, _, _ => rfl
  | d + 1, i, hi => by
    have ih := Rg2.fi (kk := kk) hN h hb d (i + 1) (by omega)
    have q := ((h.at hN (i := i) (by omega)).1 b hb)
    have e := h.wo hN hb i (by omega)
    show (if cA C 7 ((a + i) % 256) = nI b ∧ rWo (cA C 7) a b i + 1 = kk then some i else fiR (cA C 7) a b kk d (i + 1)) = (if rA R 7 ((a' + i) % 256) = nI b ∧ rWo (rA R 7) a' b i + 1 = kk then some i else fiR (rA R 7) a' b kk d (i + 1))
    rw [ih, e]
    by_cases c : cA C 7 ((a + i) % 256) = nI b ∧ rWo (rA R 7) a' b i + 1 = kk
    · rw [if_pos c, if_pos ⟨q.mp c.1, c.2⟩]
    · rw [if_neg c, if_neg (fun z => c ⟨q.mpr z.1, z.2⟩)]
theorem fiR_some {bo : Nat → Int32} {a b kk j : Nat} : ∀ (d i : Nat), fiR bo a b kk d i = some j → i ≤ j ∧ j < i + d ∧ bo ((a + j) % 256) = nI b
  | 0, i, h => by cases h
  | d + 1, i, h => by
    have h : (if bo ((a + i) % 256) = nI b ∧ rWo bo a b i + 1 = kk then some i else fiR bo a b kk d (i + 1)) = some j := h
    by_cases c : bo ((a + i) % 256) = nI b ∧ rWo bo a b i + 1 = kk
    · rw [if_pos c] at h
      injection h with h
      subst h
      exact ⟨Nat.le_refl _, by omega, c.1⟩
    · rw [if_neg c] at h
      have q := fiR_some d (i + 1) h
      exact ⟨by omega, by omega, q.2.2⟩
noncomputable def kvS (s : Nat → Rw) (C : CfT) (a b : Nat) : Option Nat → Rw
  | none => s b
  | some j => nr (cR C 0 ((a + j) % 256))
theorem sR_o {C : CfT} {m m' j : Nat} {x : Nat → Int32} (h : m' ≠ m) : (sR C m j x).2.2 m' = C.2.2 m' := if_neg h
/-- the next number, and the choice that it makes -/
def nxK (x : Int64) : Int64 := ((x) * ((6364136223846793005 : Int64))) + ((1442695040888963407 : Int64))
def chK (y : Int64) (v : Int32) : Int32 := ((((y : Int64).toUInt64 >>> (((33 : Int32) : Int32).toInt64.toUInt64 &&& Int64.toUInt64 63)).toInt64) - (((y : Int64).toUInt64 >>> (((33 : Int32) : Int32).toInt64.toUInt64 &&& Int64.toUInt64 63)).toInt64) / ((((1 : Int32)) + (v) : Int32).toInt64) * ((((1 : Int32)) + (v) : Int32).toInt64) : Int64).toInt32
theorem wk5 {n : Nat} {C : CfT} {x1 : Int64} {x3 x4 : Int32} : q_X2_wake_5 N B gr (n + 1) C x1 x3 x4 = (if (nI N) ≤ x4 then ptS C 207 ((0 : Int32)) (fun C36 => ptS C36 208 ((1 : Int32)) (fun C37 => ptS C37 209 ((-1 : Int32)) (fun C38 => some (x3, C38)))) else ld (cA C 3) N x4 (fun v39 => if v39 ≤ 0 then q_X2_wake_5 N B gr n C x1 x3 (x4 + (1 : Int32)) else ld (cA C 3) N x4 (fun v41 => nz64 ((((1 : Int32)) + (v41) : Int32).toInt64) (bnd (q_X2_keepValue N B gr C x4 (chK (nxK x1) v41)) (fun C43 => stA C43 3 N x4 ((0 : Int32)) (fun C44 => stA C44 6 N x4 ((-1 : Int32)) (fun C45 => q_X2_wake_5 N B gr n C45 (nxK x1) (x3 + (1 : Int32)) (x4 + (1 : Int32))))))))) := by
  rw [q_X2_wake_5]
  simp only [nm64]
  rfl
theorem rs22 {n : Nat} {R : RfT} {x3 : Int64} {x5 x6 : Int32} : e_restart_22 (n + 1) R x3 x5 x6 = (if (rS R 1) ≤ x6 then ptR R 10 ((0 : Int32)) (fun R148 => bnd (e_nowhere_77 R148) (fun R149 => ptR R149 11 ((1 : Int32)) (fun R151 => ptR R151 12 ((-1 : Int32)) (fun R152 => some (x5, R152))))) else bnd (e_waitsOf R x6) (fun v153 => if v153 ≤ 0 then e_restart_22 n R x3 x5 (x6 + (1 : Int32)) else nz64 ((((1 : Int32)) + (v153) : Int32).toInt64) (e_restart_76 (e_restart_22 n) fuL R (nxK x3) (x5 + (1 : Int32)) x6 (chK (nxK x3) v153) ((0 : Int32)) ((0 : Int32))))) := by
  rw [e_restart_22]
  simp only [nm_o]
  rfl
/-- what is the same of the class, but for synced rows, how many wait, which is latest -/
def Kc (C C' : CfT) : Prop := C'.1 = C.1 ∧ (∀ k, k ≠ 3 → k ≠ 6 → C'.2.1 k = C.2.1 k) ∧ ∀ m, m ≠ 1 → C'.2.2 m = C.2.2 m
theorem Kc.rf {C : CfT} : Kc C C := ⟨rfl, fun _ _ _ => rfl, fun _ _ => rfl⟩
theorem Kc.tr {C1 C2 C3 : CfT} (a : Kc C1 C2) (b : Kc C2 C3) : Kc C1 C3 := ⟨b.1.trans a.1, fun k h1 h2 => (b.2.1 k h1 h2).trans (a.2.1 k h1 h2), fun m h => (b.2.2 m h).trans (a.2.2 m h)⟩
/-- behind the blocks below b: these rows are synced -/
def WkP (N : Nat) (D : Dk0) (C0 C : CfT) (R0 R : RfT) (s : Nat → Rw) (b : Nat) : Prop := Kc C0 C ∧ Fn [] [6] R0 R ∧ (∀ t, t < N → s t = nr (cR C 1 t) ∧ s t = nr (fl (rA R 6) t) ∧ dPs D t (s t)) ∧ (∀ t, N ≤ t → s t = D.1 t) ∧ (∀ s, Byt (cR C 1 s)) ∧ Byt (rA R 6) ∧ (∀ t, t < N → cA C 3 t = (if t < b then 0 else nI (wCnt D.2 t))) ∧ ∀ t, t < b → cA C 6 t = -1
theorem wk_st {α : Type} {C : CfT} {K : CfT → Option α} {a b : Nat} {oj : Option Nat} (hb : b < N) (hN : N ≤ 1024) : ∃ C', stA (kvC C a b oj) 3 N (nI b) ((0 : Int32)) (fun C44 => stA C44 6 N (nI b) ((-1 : Int32)) K) = K C' ∧ cA C' 3 = upd (cA C 3) b 0 ∧ cA C' 6 = upd (cA C 6) b (-1) ∧ (∀ t, cR C' 1 t = cR (kvC C a b oj) 1 t) ∧ Kc C C' := by
  have eA : ∀ k, cA (kvC C a b oj) k = cA C k := fun k => by
    cases oj with
    | none => rfl
    | some j => rfl
  have kk1 : Kc C (kvC C a b oj) := by
    cases oj with
    | none => exact Kc.rf
    | some j => exact ⟨rfl, fun _ _ _ => rfl, fun m hm => sR_o hm⟩
  generalize kvC C a b oj = Y at eA kk1 ⊢
  refine ⟨sA (sA Y 3 (upd (cA Y 3) b 0)) 6 (upd (cA (sA Y 3 (upd (cA Y 3) b 0)) 6) b (-1)), ?_, ?_, ?_, fun t => rfl, kk1.tr ⟨rfl, fun k h3 h6 => ?_, fun _ _ => rfl⟩⟩
  · rw [stA_n hb (by omega), stA_n hb (by omega)]
  · rw [cA_n (by decide), cA_e, eA]
  · rw [cA_e, cA_n (by decide), eA]
  · show cA (sA (sA Y 3 _) 6 _) k = cA Y k
    rw [cA_n h6, cA_n h3]
theorem wk_l {D : Dk0} {C0 : CfT} {R0 : RfT} {a a' w : Nat} (hN : N ≤ 1024) (h0 : Rg2 N D C0 R0 a a' w) (h1 : rS R0 1 = nI N) (hla : ∀ t, t < N → LaOk (cA C0 6) (cA C0 7) a w t) : ∀ (d b n n' : Nat) (C : CfT) (R : RfT) (s : Nat → Rw) (x : Int64) (c : Int32), b + d = N → d < n → d < n' → WkP N D C0 C R0 R s b → (∀ t, b ≤ t → t < N → cA C 6 t = cA C0 6 t) → ∃ r C9 R9 s9, q_X2_wake_5 N B gr n C x c (nI b) = ptS C9 207 ((0 : Int32)) (fun C36 => ptS C36 208 ((1 : Int32)) (fun C37 => ptS C37 209 ((-1 : Int32)) (fun C38 => some (r, C38)))) ∧ e_restart_22 n' R x c (nI b) = ptR R9 10 ((0 : Int32)) (fun R148 => bnd (e_nowhere_77 R148) (fun R149 => ptR R149 11 ((1 : Int32)) (fun R151 => ptR R151 12 ((-1 : Int32)) (fun R152 => some (r, R152))))) ∧ WkP N D C0 C9 R0 R9 s9 N := by
  intro d
  induction d with
  | zero =>
    intro b n n' C R s x c hb hn hn' hp hl
    obtain ⟨n, rfl⟩ : ∃ k, n = k + 1 := ⟨n - 1, by omega⟩
    obtain ⟨n', rfl⟩ : ∃ k, n' = k + 1 := ⟨n' - 1, by omega⟩
    have e : b = N := by omega
    subst e
    refine ⟨c, C, R, s, ?_, ?_, hp⟩
    · rw [wk5, if_pos (nI_le (Nat.le_refl _) (by omega))]
    · rw [rs22, hp.2.1.1.1 1 (by decide), h1, if_pos (nI_le (Nat.le_refl _) (by omega))]
  | succ d ih =>
    intro b n n' C R s x c hb hn hn' hp hl
    obtain ⟨n, rfl⟩ : ∃ k, n = k + 1 := ⟨n - 1, by omega⟩
    obtain ⟨n', rfl⟩ : ∃ k, n' = k + 1 := ⟨n' - 1, by omega⟩
    have hbN : b < N := by omega
    obtain ⟨p1, p2, p3, p4, p5, p6, p7, p8⟩ := id hp
    have g2 : Rg2 N D C R a a' w := by
      obtain ⟨g1, g2, g3, g4, g5, g6, g7, g8, g9, g10, g11, g12, g13⟩ := h0
      refine ⟨g1, g2, g3, by rw [show cS C 206 = cS C0 206 from congrFun p1.1 206]; exact g4, by rw [show cS C 207 = cS C0 207 from congrFun p1.1 207]; exact g5, by rw [p2.1.1 9 (by decide)]; exact g6, by rw [p2.1.1 10 (by decide)]; exact g7, ?_, ?_, ?_, ?_, ?_, ?_⟩
      · rw [show cA C 7 = cA C0 7 from p1.2.1 7 (by decide) (by decide), show cR C 0 = cR C0 0 from p1.2.2 0 (by decide)]
        exact g8
      · rw [p2.1.2.1 7 (by decide), p2.1.2.1 8 (by decide)]
        exact g9
      · rw [show cA C 7 = cA C0 7 from p1.2.1 7 (by decide) (by decide)]
        exact g10
      · rw [p2.1.2.1 7 (by decide)]
        exact g11
      · rw [show cR C 0 = cR C0 0 from p1.2.2 0 (by decide)]
        exact g12
      · rw [p2.1.2.1 8 (by decide)]
        exact g13
    obtain ⟨g1, g2', g3, g4, g5, g6, g7, g8, g9, g10, g11, g12, g13⟩ := id g2
    have ec : wCnt D.2 b = rWo (cA C 7) a b w := by
      rw [g8]
      exact rWo_cnt (by omega) w (fun i hi => by
        obtain ⟨t, t1, t2⟩ := g10 i hi
        exact ⟨t, by omega, t2⟩)
    have ecR : wCnt D.2 b = rWo (rA R 7) a' b w := ec.trans (g2.wo hN (by omega) w (Nat.le_refl _))
    have hcw : wCnt D.2 b ≤ w := by
      rw [ec]
      exact rWo_le _ _ _ _
    have e3 : cA C 3 b = nI (wCnt D.2 b) := by
      rw [p7 b hbN, if_neg (Nat.lt_irrefl _)]
    have ew : e_waitsOf R (nI b) = some (nI (wCnt D.2 b)) := by
      rw [ecR]
      exact z_wo (R := R) (b := b) g2' g3 g6 g7 w 0 fuL (by omega) (by rw [fuL_4]; omega)
    rw [wk5, if_neg (nI_ge hbN (by omega)), ld_n hbN (by omega), e3, rs22, p2.1.1 1 (by decide), h1, if_neg (nI_ge hbN (by omega)), bnd_o ew]
    by_cases c0 : wCnt D.2 b = 0
    · rw [c0, if_pos (show nI 0 ≤ 0 by decide), if_pos (show nI 0 ≤ 0 by decide), nI_1]
      refine ih (b + 1) n n' C R s x c (by omega) (by omega) (by omega) ⟨p1, p2, p3, p4, p5, p6, fun t ht => ?_, fun t ht => ?_⟩ (fun t h1 h2 => hl t (by omega) h2)
      · rw [p7 t ht]
        by_cases ct : t = b
        · rw [ct, if_neg (Nat.lt_irrefl _), if_pos (by omega), c0]
          rfl
        · by_cases c1 : t < b
          · rw [if_pos c1, if_pos (by omega)]
          · rw [if_neg c1, if_neg (by omega)]
      · by_cases ct : t = b
        · rw [ct, hl b (Nat.le_refl _) hbN]
          rcases hla b hbN with q | ⟨i, i1, i2, i3, -⟩
          · exact q.1
          · exfalso
            rw [← show cA C 7 = cA C0 7 from p1.2.1 7 (by decide) (by decide)] at i3
            have q := (g2.at hN i1).2.2 b (by omega) i3
            have z := (wCnt_none b D.2).mp c0 _ q
            exact z rfl
        · exact p8 t (by omega)
    · have hpos : ¬ nI (wCnt D.2 b) ≤ 0 := by
        rw [← nI_0]
        exact nI_ge (by omega) (by omega)
      have hnz : ¬ ((1 : Int32) + nI (wCnt D.2 b)).toInt64 = 0 := nz_c _ (by omega)
      rw [if_neg hpos, if_neg hpos, ld_n hbN (by omega), e3, nz64, if_neg hnz, nz64, if_neg hnz]
      generalize nxK x = x'
      generalize chK x' (nI (wCnt D.2 b)) = k
      have kc := kv_c (B := B) (gr := gr) (k := k) hN hbN g1 g3 g4 g5 g12
      rw [bnd_o kc, kr_c (by omega) g2' g3 g6 g7 g13]
      have ef : (if 0 < k then fiR (rA R 7) a' b k.toNatClampNeg w 0 else none) = (if 0 < k then fiR (cA C 7) a b k.toNatClampNeg w 0 else none) := by
        rw [g2.fi hN (by omega) w 0 (by omega)]
      rw [ef]
      generalize hoj : (if 0 < k then fiR (cA C 7) a b k.toNatClampNeg w 0 else none) = oj
      have hj : ∀ j, oj = some j → j < w ∧ cA C 7 ((a + j) % 256) = nI b := fun j e => by
        rw [e] at hoj
        by_cases ck : 0 < k
        · rw [if_pos ck] at hoj
          have q := fiR_some w 0 hoj
          exact ⟨by omega, q.2.2⟩
        · rw [if_neg ck] at hoj
          cases hoj
      obtain ⟨C', ex, c3, c6, cr, kk2⟩ := wk_st (C := C) (a := a) (oj := oj) (K := fun C45 => q_X2_wake_5 N B gr n C45 x' (c + (1 : Int32)) (nI b + (1 : Int32))) hbN hN
      rw [ex, nI_1]
      clear ex
      have w3 : ∀ t, t < N → (if t = b then kvS s C a b oj else s t) = nr (cR C' 1 t) ∧ (if t = b then kvS s C a b oj else s t) = nr (fl (rA (kvR R a' b oj) 6) t) ∧ dPs D t (if t = b then kvS s C a b oj else s t) := fun t ht => by
        rw [cr]
        obtain ⟨q1, q2, q3⟩ := p3 t ht
        cases oj with
        | none =>
          by_cases ct : t = b
          · rw [if_pos ct]
            subst ct
            exact ⟨q1, q2, q3⟩
          · rw [if_neg ct]
            exact ⟨q1, q2, q3⟩
        | some j =>
          obtain ⟨j1, j2⟩ := hj j rfl
          obtain ⟨v1, v2, v3⟩ := g2.at hN j1
          by_cases ct : t = b
          · rw [if_pos ct]
            subst ct
            refine ⟨?_, ?_, Or.inr (v3 t (by omega) j2)⟩
            · show _ = nr (cR (sR C 1 t _) 1 t)
              rw [sR_e, nr_cpy]
              rfl
            · show _ = nr (fl (va_cpy (rA R 8) (rA R 6) (128 * ((a' + j) % 256)) (128 * t) 128) t)
              rw [fl_in]
              exact v2
          · rw [if_neg ct]
            refine ⟨?_, ?_, q3⟩
            · show _ = nr (cR (sR C 1 b _) 1 t)
              rw [sR_n ct]
              exact q1
            · show _ = nr (fl (va_cpy (rA R 8) (rA R 6) (128 * ((a' + j) % 256)) (128 * b) 128) t)
              rw [fl_out ct]
              exact q2
      have w5 : ∀ t, Byt (cR C' 1 t) := fun t => by
        rw [cr]
        cases oj with
        | none => exact p5 t
        | some j =>
          show Byt (cR (sR C 1 b _) 1 t)
          by_cases ct : t = b
          · rw [ct, sR_e]
            exact (g12 _).cpy (p5 _)
          · rw [sR_n ct]
            exact p5 t
      have w6 : Byt (rA (kvR R a' b oj) 6) := by
        cases oj with
        | none => exact p6
        | some j => exact g13.cpy p6
      have w7 : ∀ t, t < N → cA C' 3 t = (if t < b + 1 then 0 else nI (wCnt D.2 t)) := fun t ht => by
        rw [c3]
        by_cases ct : t = b
        · rw [ct, pk_us, if_pos (by omega)]
        · rw [pk_un ct, p7 t ht]
          by_cases c1 : t < b
          · rw [if_pos c1, if_pos (by omega)]
          · rw [if_neg c1, if_neg (by omega)]
      have w8 : ∀ t, t < b + 1 → cA C' 6 t = -1 := fun t ht => by
        rw [c6]
        by_cases ct : t = b
        · rw [ct, pk_us]
        · rw [pk_un ct]
          exact p8 t (by omega)
      have w4 : ∀ t, N ≤ t → (if t = b then kvS s C a b oj else s t) = D.1 t := fun t ht => by
        rw [if_neg (by omega)]
        exact p4 t ht
      have f6 : Fn [] [6] R0 (kvR R a' b oj) := p2.tr kvR_f
      generalize kvR R a' b oj = R' at w3 w6 f6 ⊢
      exact ih (b + 1) n n' C' R' (fun t => if t = b then kvS s C a b oj else s t) x' (c + 1) (by omega) (by omega) (by omega) ⟨p1.tr kk2, f6, w3, w4, w5, w6, w7, w8⟩ (fun t h1 h2 => by
        rw [c6, pk_un (by omega)]
        exact hl t (by omega) h2)
end PZV
