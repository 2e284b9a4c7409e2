/-! ===== pure: the reference changes what is used ===== -/
section PVF
variable {R : RfT} {N B gr : Nat}
/-- own rows are of used blocks -/
def RU (N : Nat) (R : RfT) (V : Nat → Rw) : Prop := ∀ c, c < 1024 → wOw R c ≠ none → 43 ≤ c ∧ c < N ∧ btM (V 43) c = 1
def RY (N B gr : Nat) (R : RfT) (m : M5) (V : Nat → Rw) (tk : Nat → Bool) : Prop := RX N B gr R m V tk ∧ RU N R V ∧ btO N (V 43)
theorem y_set {m : M5} {V : Nat → Rw} {tk : Nat → Bool} (hN : N ≤ 1024) (h : RY N B gr R m V tk) {b p n : Nat} {v : Int32} (hb0 : 44 ≤ b) (hb : b < N) (hu : btM (V 43) b = 1) (hn : n ≤ 4) (hp : p + n ≤ 128) : ∃ R', e_setNumber R (nI b) (nI p) (nI n) v = some R' ∧ RY N B gr R' m (vU V b (nr (wB (V b) p v n))) tk ∧ Fn [33] [30, 31, 32, 36, 43] R R' := by
  obtain ⟨R', e, x, f, o⟩ := z_setNumber (v := v) hN h.1 (show 43 ≤ b by omega) hb hn hp
  have e43 : vU V b (nr (wB (V b) p v n)) 43 = V 43 := vU_n (by omega)
  refine ⟨R', e, ⟨x, fun c hc hne => ?_, by rw [e43]; exact h.2.2⟩, f⟩
  rw [e43]
  rcases o c hc hne with z | z
  · rw [z]
    exact ⟨by omega, hb, hu⟩
  · exact h.2.1 c hc z
theorem y_setField {m : M5} {V : Nat → Rw} {tk : Nat → Bool} (hN1 : 61 ≤ N) (hN : N ≤ 1024) (h : RY N B gr R m V tk) {i a n : Nat} {v : Int32} (h1 : 1 ≤ i) (h2 : i ≤ 64) (hn : n ≤ 4) (ha : a + n ≤ 32) : ∃ R', e_setField R (nI i) (nI a) (nI n) v = some R' ∧ RY N B gr R' m (vU V (homeM i) (nr (wB (V (homeM i)) (startM i + a) v n))) tk ∧ Fn [33] [30, 31, 32, 36, 43] R R' := by
  obtain ⟨R', e, x, f, o⟩ := z_setField (v := v) hN1 hN h.1 h1 h2 hn ha
  have hh := homeM_lt h2
  have hh2 : 45 ≤ homeM i := by
    unfold homeM
    omega
  have e43 : vU V (homeM i) (nr (wB (V (homeM i)) (startM i + a) v n)) 43 = V 43 := vU_n (by omega)
  refine ⟨R', e, ⟨x, fun c hc hne => ?_, by rw [e43]; exact h.2.2⟩, f⟩
  rw [e43]
  rcases o c hc hne with z | z
  · rw [z]
    exact ⟨by omega, by omega, h.2.2.1 _ hh⟩
  · exact h.2.1 c hc z
theorem y_bit44 {m : M5} {V : Nat → Rw} {tk : Nat → Bool} (hN1 : 61 ≤ N) (hN : N ≤ 1024) (h : RY N B gr R m V tk) {c : Nat} {on : Bool} (hc : c < 1024) : ∃ R', e_setBit R 44 (nI c) (bI on) = some R' ∧ RY N B gr R' m (vU V 44 (bsW (V 44) c on)) tk ∧ Fn [33] [30, 31, 32, 36, 43] R R' := by
  obtain ⟨R', e, x, f, o⟩ := z_setBit (b := 44) (on := on) hN h.1 (by decide) (by omega) hc
  have e43 : vU V 44 (bsW (V 44) c on) 43 = V 43 := vU_n (by omega)
  refine ⟨R', e, ⟨x, fun d hd hne => ?_, by rw [e43]; exact h.2.2⟩, f⟩
  rw [e43]
  rcases o d hd hne with z | z
  · rw [z]
    exact ⟨by omega, by omega, h.2.2.1 _ (by decide)⟩
  · exact h.2.1 d hd z
theorem btO.bs {y : Rw} {b : Nat} {on : Bool} (h : btO N y) (hN : N ≤ 1024) (h1 : 61 ≤ b) (h2 : b < N) : btO N (bsW y b on) := ⟨fun c hc => by
  rw [bt_bs (by omega) (by omega), if_neg (by omega)]
  exact h.1 c hc, fun c hc hc2 => by
  rw [bt_bs (by omega) (by omega), if_neg (by omega)]
  exact h.2 c hc hc2⟩
/-- what freeing makes of what is seen -/
def frV (m : M5) (V : Nat → Rw) (b : Nat) : Nat → Rw := vU (vU V 43 (bsW (V 43) b false)) b (befM m b)
def frM5 (m : M5) (b : Nat) : M5 := mRs m (fun c => if c = b then 2 else m.2.2.2.2 c)
theorem y_free {m : M5} {V : Nat → Rw} {tk : Nat → Bool} (hN1 : 61 ≤ N) (hN : N ≤ 1024) (h : RY N B gr R m V tk) {b : Nat} (hb : b < N) (hb2 : 61 ≤ b) : ∃ R', e_free R (nI b) = some R' ∧ RY N B gr R' (frM5 m b) (frV m V b) (tU tk b false) ∧ Fn [33] [30, 31, 32, 35, 36, 43] R R' := by
  obtain ⟨R', e, x, f, o⟩ := z_free hN1 hN h.1 hb hb2
  have e43 : frV m V b 43 = bsW (V 43) b false := (vU_n (by omega)).trans vU_s
  refine ⟨R', e, ⟨x, fun c hc hne => ?_, by rw [e43]; exact h.2.2.bs hN hb2 hb⟩, f⟩
  rw [e43]
  obtain ⟨o1, o2⟩ := o c hc hne
  rw [bt_bs (by omega) hc, if_neg o1]
  rcases o2 with z | z
  · rw [z]
    exact ⟨by omega, by omega, h.2.2.1 _ (by decide)⟩
  · exact h.2.1 c hc z
theorem y_take31 {m : M5} {V : Nat → Rw} {tk : Nat → Bool} (hN1 : 61 ≤ N) (hN : N ≤ 1024) (h : RY N B gr R m V tk) {b : Nat} (hb : b < N) (hb2 : 61 ≤ b) : ∃ R', e_take_31 R (nI b) = some (nI b, R') ∧ RY N B gr R' m (vU V 43 (bsW (V 43) b true)) tk ∧ rA R' 49 = upd (rA R 49) b 1 ∧ Fn [33] [30, 31, 32, 36, 43, 49] R R' ∧ ∀ c, c < 1024 → wOw R' c ≠ none → c = 43 ∨ wOw R c ≠ none := by
  obtain ⟨R1, e, x, f, o⟩ := z_setBit (b := 43) (on := true) hN h.1 (Nat.le_refl _) (show 43 < N by omega) (show b < 1024 by omega)
  have e : e_setBit R 43 (nI b) 1 = some R1 := e
  rw [e_take_31, if_neg (nI_m1 (by omega)), bnd_o e, st_n (show b < 1024 by omega) (by decide), show vp_nar .boolean (1 : Int32) = 1 by decide]
  have f2 : Fn [] [49] R1 (setA R1 49 (upd (rA R1 49) b 1)) := Fn.a (by decide)
  have e43 : vU V 43 (bsW (V 43) b true) 43 = bsW (V 43) b true := vU_s
  refine ⟨_, rfl, ⟨⟨x.1.fn f2 (x.1.wk.fq f2.1 (by decide) (by decide) (by decide) (by decide) (by decide)) (by decide) (by decide), fun c hc0 hc => ?_⟩, fun c hc hne => ?_, by rw [e43]; exact h.2.2.bs hN hb2 hb⟩, by rw [rA_e, f.1.2.1 49 (by decide)], (f.wk (by decide) (by decide)).tr (f2.wk (by decide) (by decide)), o⟩
  · rw [rSee_fq f2.1 (by decide)]
    exact x.2 c hc0 hc
  · rw [e43, bt_bs (by omega) hc]
    rcases o c hc hne with z | z
    · rw [z, if_neg (show ¬ 43 = b by omega)]
      exact ⟨by omega, by omega, h.2.2.1 _ (by decide)⟩
    · obtain ⟨z1, z2, z3⟩ := h.2.1 c hc z
      refine ⟨z1, z2, ?_⟩
      by_cases cb : c = b
      · rw [if_pos cb]
        rfl
      · rw [if_neg cb]
        exact z3
def zR : Rw := fun _ => 0
theorem z_tt42 {n : Nat} {v : Int32} (hn : n < 1024) (h33 : rS R 33 = nI n) : ∀ (m k : Nat), k ≤ 128 → 128 - k < m → e_takeTable_42 m (setA R 32 (flt (rA R 32) (128 * n) (128 * n + k) 0)) v (nI k) = some (v, setS (setA R 32 (flt (rA R 32) (128 * n) (128 * n + 128) 0)) 33 (nI (n + 1))) := by
  intro m
  induction m with
  | zero => intro k _ h; exact absurd h (Nat.not_lt_zero _)
  | succ m ih =>
    intro k hk hm
    have s : rS (setA R 32 (flt (rA R 32) (128 * n) (128 * n + k) 0)) 33 = nI n := h33
    rw [e_takeTable_42, s]
    by_cases c : k = 128
    · rw [c, if_pos (show (128 : Int32) ≤ nI 128 from nI_le (a := 128) (b := 128) (by decide) (by decide)), ptR, nI_1]
    · rw [if_neg (show ¬ (128 : Int32) ≤ nI k from nI_ge (a := k) (b := 128) (by omega) (by decide)), show (128 : Int32) = nI 128 from rfl, pk_mul, nI_add, st_n (show 128 * n + k < 131072 by omega) (by decide), nar0, rA_e, nI_1, setA_A]
      have e : upd (flt (rA R 32) (128 * n) (128 * n + k) 0) (128 * n + k) 0 = flt (rA R 32) (128 * n) (128 * n + (k + 1)) 0 := by
        funext i
        unfold flt
        by_cases ci : i = 128 * n + k
        · rw [ci, pk_us, if_pos (by omega)]
        · rw [pk_un ci]
          by_cases c2 : 128 * n ≤ i ∧ i < 128 * n + k
          · rw [if_pos c2, if_pos (by omega)]
          · rw [if_neg c2, if_neg (by omega)]
      rw [e]
      exact ih (k + 1) (by omega) (by omega)
noncomputable def ttT (R : RfT) (b : Int32) : Option (Int32 × RfT) := stR R 36 1024 b (rS R 33) (fun R111 => stR R111 30 1024 (rS R111 33) b (fun R112 => stR R112 31 1024 (rS R112 33) (vp_nar .boolean ((1 : Int32))) (fun R113 => e_takeTable_42 fuL R113 b ((0 : Int32)))))
theorem y_ttT {m : M5} {V : Nat → Rw} {tk : Nat → Bool} (hN : N ≤ 1024) (h : RY N B gr R m V tk) {b : Nat} (hb : b < N) (hb2 : 61 ≤ b) (hu : btM (V 43) b = 1) (ho : wOw R b = none) : ∃ R', ttT R (nI b) = some (nI b, R') ∧ RY N B gr R' m (vU V b zR) (tU tk b true) ∧ Fn [33] [30, 31, 32, 36] R R' ∧ ∀ c, c < 1024 → wOw R' c ≠ none → c = b ∨ wOw R c ≠ none := by
  have h36 : rA R 36 b = -1 := by
    by_cases c : rA R 36 b = -1
    · exact c
    · unfold wOw at ho
      rw [if_neg c] at ho
      cases ho
  obtain ⟨n, n1, n2⟩ := h.1.1.wk.room hN hb h36
  rw [ttT, n2, st_n (show b < 1024 by omega) (by decide)]
  generalize hR1 : setA R 36 (upd (rA R 36) b (nI n)) = R1
  have r33 : rS R1 33 = nI n := by
    rw [← hR1]
    exact n2
  rw [r33, st_n (show n < 1024 by omega) (by decide)]
  generalize hR2 : setA R1 30 (upd (rA R1 30) n (nI b)) = R2
  have r33 : rS R2 33 = nI n := by
    rw [← hR2]
    exact r33
  rw [r33, st_n (show n < 1024 by omega) (by decide), show vp_nar .boolean (1 : Int32) = 1 by decide]
  generalize hR3 : setA R2 31 (upd (rA R2 31) n 1) = R3
  have r33 : rS R3 33 = nI n := by
    rw [← hR3]
    exact r33
  have e32 : rA R3 32 = rA R 32 := by
    rw [← hR3, ← hR2, ← hR1]
    rfl
  have q := z_tt42 (R := R3) (v := nI b) (show n < 1024 by omega) r33 fuL 0 (Nat.zero_le _) (by rw [fuL_4]; omega)
  have e0 : flt (rA R3 32) (128 * n) (128 * n + 0) 0 = rA R3 32 := by
    funext i
    unfold flt
    rw [if_neg (by omega)]
  rw [e0, setA_id] at q
  have q : e_takeTable_42 fuL R3 (nI b) 0 = _ := q
  rw [q]
  generalize hR4 : setS (setA R3 32 (flt (rA R3 32) (128 * n) (128 * n + 128) 0)) 33 (nI (n + 1)) = R4
  have a36 : rA R4 36 = upd (rA R 36) b (nI n) := by
    rw [← hR4, ← hR3, ← hR2, ← hR1]
    rfl
  have a30 : rA R4 30 = upd (rA R 30) n (nI b) := by
    rw [← hR4, ← hR3, ← hR2, ← hR1]
    rfl
  have a31 : rA R4 31 = upd (rA R 31) n 1 := by
    rw [← hR4, ← hR3, ← hR2, ← hR1]
    rfl
  have a32 : rA R4 32 = flt (rA R 32) (128 * n) (128 * n + 128) 0 := by
    rw [← hR4, ← e32]
    rfl
  have f : Fn [33] [30, 31, 32, 36] R R4 := by
    rw [← hR4, ← hR3, ← hR2, ← hR1]
    exact ((((Fn.a (by decide)).tr (Fn.a (by decide))).tr (Fn.a (by decide))).tr (Fn.a (by decide))).tr (Fn.s (by decide))
  obtain ⟨w1, w2, w3⟩ := h.1.1.wk.new (R' := R4) (x := zR) hN n1 n2 hb h36 a36 a30 a31 (Or.inr rfl) (fun j hj => by
    rw [a32]
    refine nr_eq (fun i hi => ?_)
    show flt (rA R 32) (128 * n) (128 * n + 128) 0 (128 * j + i) = rA R 32 (128 * j + i)
    unfold flt
    rw [if_neg (by omega)]) (by
    rw [a32]
    funext i
    unfold nr
    split
    · show flt (rA R 32) (128 * n) (128 * n + 128) 0 (128 * n + i) = 0
      unfold flt
      rw [if_pos (by omega)]
    · rfl) (by rw [a32]; exact Byt_flt h.1.1.wk.choose_spec.2.2.2.2.1 (by decide)) (by rw [← hR4]; exact pk_us (f := R3.1) (k := 33)) (h.1.1.wk.x.eq (fun k hk => f.1.2.1 k (by revert hk; revert k; decide)))
  have e43 : vU V b zR 43 = V 43 := vU_n (by omega)
  refine ⟨R4, rfl, ⟨h.1.of hN (f.wk (by decide) (by decide)) w1 (fun c hc0 hc => ?_), fun c hc hne => ?_, by rw [e43]; exact h.2.2⟩, f, fun c hc hne => by
    rw [w2 c hc] at hne
    by_cases cb : c = b
    · exact Or.inl cb
    · rw [if_neg cb] at hne
      exact Or.inr hne⟩
  · rw [w2 c (by omega), w3 c (by omega)]
    by_cases cb : c = b
    · rw [if_pos cb, if_pos cb, cb, vU_s]
      exact ⟨rfl, (if_pos rfl).symm⟩
    · rw [if_neg cb, if_neg cb, vU_n cb, show tU tk b true c = tk c from if_neg cb]
      exact h.1.own hN hc0 hc
  · rw [e43]
    rw [w2 c hc] at hne
    by_cases cb : c = b
    · rw [cb]
      exact ⟨by omega, hb, hu⟩
    · rw [if_neg cb] at hne
      exact h.2.1 c hc hne
theorem takeTable_eq : e_takeTable R = bnd2 (e_take R) (fun v110 R110 => if v110 = ((-1 : Int32)) then some (v110, R110) else ttT R110 v110) := rfl
/-- the lowest free block that does not rest -/
def lmO (y : Rw) (rs : Nat → Nat) : Nat → Nat → Option Nat
  | 0, _ => none
  | k + 1, b => if btM y b = 0 ∧ rs b = 0 then some b else lmO y rs k (b + 1)
theorem lmO_s {y : Rw} {rs : Nat → Nat} {c : Nat} : ∀ (k b : Nat), lmO y rs k b = some c → b ≤ c ∧ c < b + k ∧ btM y c = 0 ∧ rs c = 0
  | 0, b, h => by cases h
  | k + 1, b, h => by
    rw [lmO] at h
    by_cases e : btM y b = 0 ∧ rs b = 0
    · rw [if_pos e] at h
      cases h
      exact ⟨Nat.le_refl _, by omega, e⟩
    · rw [if_neg e] at h
      have := lmO_s k (b + 1) h
      exact ⟨by omega, by omega, this.2.2⟩
theorem lmO_n {y : Rw} {rs : Nat → Nat} : ∀ (k b : Nat), lmO y rs k b = none → ∀ c, b ≤ c → c < b + k → ¬ (btM y c = 0 ∧ rs c = 0)
  | 0, b, _, c, h1, h2 => by omega
  | k + 1, b, h, c, h1, h2 => by
    rw [lmO] at h
    by_cases e : btM y b = 0 ∧ rs b = 0
    · rw [if_pos e] at h
      cases h
    · rw [if_neg e] at h
      by_cases cb : c = b
      · rw [cb]
        exact e
      · exact lmO_n k (b + 1) h c (by omega) (by omega)
theorem loM_o {V : Nat → Rw} {rs : Nat → Nat} : ∀ (k b : Nat), loM V rs k b = match lmO (V 43) rs k b with | some c => nI c | none => -1
  | 0, b => rfl
  | k + 1, b => by
    rw [loM, lmO]
    by_cases e : btM (V 43) b = 0 ∧ rs b = 0
    · rw [if_pos e, if_pos e]
    · rw [if_neg e, if_neg e]
      exact loM_o k (b + 1)
def lowB (N : Nat) (V : Nat → Rw) (m : M5) : Option Nat := lmO (V 43) m.2.2.2.2 (N - 61) 61
/-- a block is taken: where the state is then, and which block -/
def tkM (N B : Nat) (m : M5) (V : Nat → Rw) : M5 × Option Nat := match lowB N V m with
  | some b => (m, some b)
  | none => (flM N B m, lowB N V (flM N B m))
def tkD (N B : Nat) (m : M5) (V : Nat → Rw) : Prop := lowB N V m = none ∧ (flO2 N B m).1 = false
theorem z_low {m : M5} {V : Nat → Rw} {tk : Nat → Bool} (hN1 : 61 ≤ N) (hN : N ≤ 1024) (h : RX N B gr R m V tk) : ∃ g, e_lowestFree R = some (match lowB N V m with | some c => nI c | none => -1, setA R 43 g) := by
  obtain ⟨g, e⟩ := z_lowest (R := R) (rs := m.2.2.2.2) h.1.2.2.2.2.2.2.1 hN1 hN h.1.lk h.1.by h.1.2.2.2.1
  refine ⟨g, ?_⟩
  rw [e, loM_o, (h.2 43 (Nat.le_refl _) (by omega)).1]
  rfl
theorem RY.a43 {m : M5} {V : Nat → Rw} {tk : Nat → Bool} (h : RY N B gr R m V tk) {g : Nat → Int32} : RY N B gr (setA R 43 g) m V tk := by
  have f : Fn [] [43] R (setA R 43 g) := Fn.a (by decide)
  refine ⟨⟨h.1.1.fn f (h.1.1.wk.fq f.1 (by decide) (by decide) (by decide) (by decide) (by decide)) (fun _ _ => List.not_mem_nil) (by decide), fun c hc0 hc => ?_⟩, h.2⟩
  rw [rSee_fq f.1 (by decide)]
  exact h.1.2 c hc0 hc
theorem y_take {m : M5} {V : Nat → Rw} {tk : Nat → Bool} (hN1 : 61 ≤ N) (hN : N ≤ 1024) (h : RY N B gr R m V tk) (hm : MOk N B m) (hsp : hSp m.1 + 100 * m.2.2.2.1.length + 200 < 2 ^ 31) (hro : ¬ tkD N B m V → (tkM N B m V).2 ≠ none) : ∃ v R', e_take R = some (v, R') ∧ ((∃ b, ¬ tkD N B m V ∧ (tkM N B m V).2 = some b ∧ v = nI b ∧ 61 ≤ b ∧ b < N ∧ btM (V 43) b = 0 ∧ (tkM N B m V).1.2.2.2.2 b = 0 ∧ RY N B gr R' (tkM N B m V).1 (vU V 43 (bsW (V 43) b true)) tk ∧ rA R' 49 = upd (rA R 49) b 1 ∧ wOw R' b = none ∧ Fq [33, 29, 47, 22, 25, 9, 10, 12, 13, 14, 18, 20] [30, 31, 32, 36, 43, 49, 35, 37, 46, 23, 24, 38, 44, 45, 6, 7, 8, 15, 17, 39, 40] R R' ∧ ∀ c, c < 1024 → wOw R' c ≠ none → c = 43 ∨ wOw R c ≠ none) ∨ (tkD N B m V ∧ v = -1 ∧ Dd N R (flO2 N B m).2.1 R')) := by
  have key : ∀ (X : RfT) (m' : M5) (b : Nat), RY N B gr X m' V tk → lowB N V m' = some b → ∃ R', e_take_31 X (nI b) = some (nI b, R') ∧ 61 ≤ b ∧ b < N ∧ btM (V 43) b = 0 ∧ m'.2.2.2.2 b = 0 ∧ RY N B gr R' m' (vU V 43 (bsW (V 43) b true)) tk ∧ rA R' 49 = upd (rA X 49) b 1 ∧ wOw R' b = none ∧ Fq [33, 29, 47, 22, 25, 9, 10, 12, 13, 14, 18, 20] [30, 31, 32, 36, 43, 49, 35, 37, 46, 23, 24, 38, 44, 45, 6, 7, 8, 15, 17, 39, 40] X R' ∧ ∀ c, c < 1024 → wOw R' c ≠ none → c = 43 ∨ wOw X c ≠ none := fun X m' b hX hl => by
    obtain ⟨l1, l2, l3, l4⟩ := lmO_s _ _ hl
    obtain ⟨R', e, x, a49, f, o⟩ := y_take31 hN1 hN hX (show b < N by omega) l1
    refine ⟨R', e, l1, by omega, l3, l4, x, a49, ?_, f.1.wk (by decide) (by decide), o⟩
    by_cases c : wOw R' b = none
    · exact c
    · rcases o b (by omega) c with z | z
      · omega
      · have := (hX.2.1 b (by omega) z).2.2
        omega
  obtain ⟨g, e1⟩ := z_low hN1 hN h.1
  rw [e_take, bnd2_o e1]
  unfold tkM tkD at *
  cases hl : lowB N V m with
  | some b =>
    obtain ⟨R', e, k1, k2, k3, k4, k5, k6, k7, k8, k9⟩ := key _ m b (h.a43 (g := g)) hl
    show ∃ v R', (if nI b = -1 then _ else e_take_31 (setA R 43 g) (nI b)) = _ ∧ _
    rw [if_neg (nI_m1 (by omega))]
    have hnd : ¬ (some b = none ∧ (flO2 N B m).1 = false) := fun z => by cases z.1
    refine ⟨_, R', e, Or.inl ⟨b, hnd, rfl, rfl, k1, k2, k3, k4, k5, k6, k7, (Fq.a (by decide)).tr k8, k9⟩⟩
  | none =>
    rw [hl] at hro
    show ∃ v R', (if (-1 : Int32) = -1 then bnd2 (e_flushQueue (setA R 43 g)) _ else _) = _ ∧ _
    rw [if_pos rfl]
    obtain ⟨v, R1, e2, o2⟩ := RX.flush hN1 hN (h.a43 (g := g)).1 hm hsp
    rw [bnd2_o e2]
    rcases o2 with ⟨a1, a2, a3, a4⟩ | ⟨a1, a2⟩
    · rw [if_neg a3.1.1.on]
      have hU : RU N R1 V := fun c hc hne => by
        rw [(wOw_fq a4 (by decide) (by decide) (by decide)).1] at hne
        exact h.2.1 c hc hne
      obtain ⟨g2, e3⟩ := z_low hN1 hN a3
      rw [bnd2_o e3]
      have hy1 : RY N B gr R1 (flM N B m) V tk := ⟨a3, hU, h.2.2⟩
      have hnd : ¬ ((none : Option Nat) = none ∧ (flO2 N B m).1 = false) := fun z => by rw [a1] at z; cases z.2
      have hso := hro hnd
      cases hl2 : lowB N V (flM N B m) with
      | none => exact absurd hl2 hso
      | some b =>
        obtain ⟨R', e, k1, k2, k3, k4, k5, k6, k7, k8, k9⟩ := key _ (flM N B m) b (hy1.a43 (g := g2)) hl2
        refine ⟨_, R', e, Or.inl ⟨b, hnd, rfl, rfl, k1, k2, k3, k4, k5, ?_, k7, ?_, fun c hc hne => ?_⟩⟩
        · rw [k6]
          show upd (rA R1 49) b 1 = _
          rw [a4.2.1 49 (by decide)]
          rfl
        · exact (((Fq.a (by decide)).tr (a4.wk (by decide) (by decide))).tr (Fq.a (by decide))).tr k8
        · rcases k9 c hc hne with z | z
          · exact Or.inl z
          · have z : wOw R1 c ≠ none := z
            rw [(wOw_fq a4 (by decide) (by decide) (by decide)).1] at z
            exact Or.inr z
    · rw [if_pos a2.1.1, e_take_31, if_pos rfl]
      exact ⟨_, _, rfl, Or.inr ⟨⟨rfl, a1⟩, rfl, a2.fr (fun _ _ => rfl) rfl⟩⟩
end PVF
