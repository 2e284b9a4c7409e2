/-! ===== pure: restart, the end ===== -/
section PZW
variable {N B gr u : Nat} {A : MS} {C D : CfT} {R : RfT}
theorem z_nw77_l : ∀ (n k : Nat) (X : RfT), k ≤ 1024 → 1024 - k < n → Fn [] [40] R X → (∀ c, c < k → rA X 40 c = -1) → ∃ R', e_nowhere_77_2 n X (nI k) = some R' ∧ Fn [] [40] R R' ∧ ∀ c, c < 1024 → rA R' 40 c = -1 := by
  intro n
  induction n with
  | zero => intro k _ _ h; exact absurd h (Nat.not_lt_zero _)
  | succ n ih =>
    intro k X hk hn f hz
    by_cases c : k = 1024
    · refine ⟨X, ?_, f, fun d hd => hz d (by omega)⟩
      rw [c, e_nowhere_77_2, if_pos (show (1024 : Int32) ≤ nI 1024 from nI_le (a := 1024) (b := 1024) (by decide) (by decide))]
    · rw [e_nowhere_77_2, if_neg (show ¬ (1024 : Int32) ≤ nI k from nI_ge (b := 1024) (by omega) (by decide)), st_n (by omega) (by decide), nI_1]
      refine ih (k + 1) _ (by omega) (by omega) (f.tr (Fn.a (by decide))) (fun d hd => ?_)
      rw [rA_e]
      by_cases e : d = k
      · rw [e, pk_us]
      · rw [pk_un e]
        exact hz d (by omega)
theorem z_nw77 : ∃ R', e_nowhere_77 R = some R' ∧ Fn [] [40] R R' ∧ ∀ c, c < 1024 → rA R' 40 c = -1 := z_nw77_l (R := R) fuL 0 R (by decide) (by rw [fuL_4]; omega) Fn.rf (fun c hc => absurd hc (Nat.not_lt_zero _))
theorem bCnt_flt {g : Nat → Int32} {B : Nat} : ∀ j, j ≤ B → bCnt (flt g 0 B 0) j = 0
  | 0, _ => rfl
  | j + 1, h => by
    unfold bCnt
    rw [bCnt_flt j (by omega), flt_at (Nat.zero_le _) (by omega)]
    rfl
/-- the hardware behind a restart -/
def hwR (h : Hw) (s : Nat → Rw) : Hw := ((s, []), (fun _ => none, 0, h.2.1.2.2.1, h.2.1.2.2.2), -1, h.2.2.2)
theorem hwR_safe {h : Hw} {s : Nat → Rw} (hs : ∀ t, t < N → dPs h.1 t (s t)) (g : Safe N h) : Safe N (hwR h s) := fun img q => g img (fun t ht => by
  rcases q t ht with (z | z) | ⟨_, z⟩
  · rw [z]
    exact Or.inl (hs t ht)
  · cases z
  · cases z)
theorem r_restart {x : Int64} (hN : N ≤ 1024) (hB1 : 4 ≤ B) (hB2 : B ≤ 64) (hu : u < 2 ^ 31) (a : AX N B gr A C) (h : Offd N B gr u A D R) (w2 : Dq D C) : ∃ r C9 R9 A9, q_X11_restart N B gr C x = some (r, C9) ∧ e_restart R x = some (r, R9) ∧ rS R9 0 = 0 ∧ AU N B gr A9 C9 ∧ Dq (sS D 2 0) C9 ∧ Und N B gr u A9 (sS D 2 0) R9 := by
  obtain ⟨⟨n1, n2, n3, n4⟩, ⟨⟨rg, hw3⟩, ⟨b1, b2, b3, b4⟩, ok1, ok2, b5, b6, b7, b8⟩, h208⟩ := id a.1
  obtain ⟨h1, ⟨⟨g1, g2, g3, g5, g6, g7, g8, g9, g10, g11, g12⟩, ⟨wf, w', r1, r2, r3, r4, r5, r6, r7, r8, r9⟩, B', ⟨wf', w'', hd', n', d1, d2⟩, by1, by2⟩, kc, ⟨⟨sf, sp⟩, ti⟩⟩ := h.n
  have rg : RG N A.1.1 (cA C 6) (cA C 7) (cR C 1) (cR C 0) (cS C 206).toNatClampNeg (cS C 207).toNatClampNeg := rg
  have hw3 : ∀ t, t < N → cA C 3 t = nI (wCnt A.1.1.2 t) := hw3
  obtain ⟨q1, q2, q3, q4, q5, q6⟩ := id rg
  obtain ⟨p1, p2, p3, p4, p5, p6⟩ := id r1
  have ew : w' = (cS C 207).toNatClampNeg := by
    have e1 := congrArg List.length p4
    have e2 := congrArg List.length q4
    rw [rgL_len] at e1 e2
    omega
  subst ew
  generalize ea : (cS C 206).toNatClampNeg = a0 at q1 q4 q5 q6 rg
  generalize ewv : (cS C 207).toNatClampNeg = w at q2 q4 q5 q6 rg p2 p4 p5 p6 r1 r2
  have e206 : cS C 206 = nI a0 := by rw [← ea]; exact nI_cl n1
  have e207 : cS C 207 = nI w := by rw [← ewv]; exact nI_cl n2
  obtain ⟨o1, o2, o3, o4, o5, o6⟩ := id ok1
  have o4 : ∀ s, Byt (cR C 1 s) := o4
  have o5 : ∀ s, Byt (cR C 0 s) := o5
  -- the class forgets
  obtain ⟨C2, hC2⟩ : ∃ C2, C2 = sS (sA (sA (sS C 2 0) 10 (flt (cA C 10) 0 N (-1))) 12 (flt (cA C 12) 0 B 0)) 806 0 := ⟨_, rfl⟩
  have ef : q_X0_forget N B gr (sS C 2 0) = some C2 := by rw [hC2]; rfl
  have s2 : ∀ j, j ≠ 2 → j ≠ 806 → cS C2 j = cS C j := fun j z1 z2 => by
    rw [hC2]
    show upd (upd C.1 2 0) 806 0 j = C.1 j
    rw [pk_un z2, pk_un z1]
  have a2 : ∀ k, k ≠ 10 → k ≠ 12 → cA C2 k = cA C k := fun k z1 z2 => by
    rw [hC2]
    show cA (sA (sA (sS C 2 0) 10 _) 12 _) k = _
    rw [cA_n z2, cA_n z1]
  have rr2 : ∀ m, C2.2.2 m = C.2.2 m := fun m => by rw [hC2]
  have c10 : ∀ t, t < N → cA C2 10 t = -1 := fun t ht => by
    rw [hC2]
    show cA (sA (sA (sS C 2 0) 10 _) 12 _) 10 t = _
    rw [cA_n (by decide), cA_e]
    exact flt_at (Nat.zero_le _) ht
  have c12 : cA C2 12 = flt (cA C 12) 0 B 0 := by
    rw [hC2]
    show cA (sA (sA (sS C 2 0) 10 _) 12 _) 12 = _
    rw [cA_e]
  have c806 : cS C2 806 = 0 := by
    rw [hC2]
    show upd (upd C.1 2 0) 806 0 806 = 0
    rw [pk_us]
  have c2 : cS C2 2 = 0 := by
    rw [hC2]
    show upd (upd C.1 2 0) 806 0 2 = 0
    rw [pk_un (by decide), pk_us]
  -- both wake
  have f0 : Fn [0] [] R (setS R 0 0) := Fn.s (by decide)
  obtain ⟨R1, hR1⟩ : ∃ R1, R1 = setS R 0 0 := ⟨_, rfl⟩
  rw [← hR1] at f0
  have g2' : Rg2 N A.1.1 C2 R1 a0 wf w := by
    refine ⟨q1, p1, q2, by rw [s2 206 (by decide) (by decide)]; exact e206, by rw [s2 207 (by decide) (by decide)]; exact e207, by rw [f0.1.1 9 (by decide)]; exact r2.1, by rw [f0.1.1 10 (by decide)]; exact r2.2.2.1, ?_, ?_, ?_, ?_, ?_, ?_⟩
    · rw [a2 7 (by decide) (by decide), show cR C2 0 = cR C 0 from rr2 0]
      exact q4
    · rw [f0.1.2.1 7 (by decide), f0.1.2.1 8 (by decide)]
      exact p4
    · rw [a2 7 (by decide) (by decide)]
      exact q5
    · rw [f0.1.2.1 7 (by decide)]
      exact p5
    · rw [show cR C2 0 = cR C 0 from rr2 0]
      exact o5
    · rw [f0.1.2.1 8 (by decide)]
      exact d1.2.2.2.1.2.1
  have hla : ∀ t, t < N → LaOk (cA C2 6) (cA C2 7) a0 w t := fun t ht => by
    rw [a2 6 (by decide) (by decide), a2 7 (by decide) (by decide)]
    exact q6 t ht
  have st : WkP N A.1.1 C2 C2 R1 R1 A.1.1.1 0 := by
    refine ⟨Kc.rf, Fn.rf, fun t ht => ⟨?_, ?_, Or.inl rfl⟩, fun _ _ => rfl, fun s => ?_, ?_, fun t ht => ?_, fun t ht => absurd ht (Nat.not_lt_zero _)⟩
    · rw [show cR C2 1 = cR C 1 from rr2 1]
      exact q3 t ht
    · rw [f0.1.2.1 6 (by decide)]
      exact p3 t ht
    · rw [show cR C2 1 = cR C 1 from rr2 1]
      exact o4 s
    · rw [f0.1.2.1 6 (by decide)]
      exact d1.2.2.2.1.1
    · rw [a2 3 (by decide) (by decide), if_neg (Nat.not_lt_zero _)]
      exact hw3 t ht
  obtain ⟨r, C9, R9, s9, k1, k2, ⟨⟨m1, m2, m3⟩, m4, m5, m6, m7, m8, m9, m10⟩⟩ := wk_l (B := B) (gr := gr) hN g2' (by rw [f0.1.1 1 (by decide)]; exact kc.1) hla N 0 fuL fuL C2 R1 A.1.1.1 x 0 (by omega) (by rw [fuL_4]; omega) (by rw [fuL_4]; omega) st (fun _ _ _ => rfl)
  obtain ⟨R10, hR10⟩ : ∃ X, X = setS R9 10 0 := ⟨_, rfl⟩
  obtain ⟨R11, w1, w2', w3⟩ := z_nw77 (R := R10)
  have fR : Fn [0, 10] [6, 40] R R11 := ((f0.wk (by decide) (by decide)).tr (m4.wk (by decide) (by decide))).tr (by
    have q : Fn [0, 10] [6, 40] R9 R10 := by
      rw [hR10]
      exact Fn.s (by decide)
    exact q.tr (w2'.wk (by decide) (by decide)))
  have e6 : rA R11 6 = rA R9 6 := by
    rw [w2'.1.2.1 6 (by decide), hR10]
  have e10 : rS R11 10 = 0 := by
    rw [w2'.1.1 10 (by decide), hR10]
    show upd R9.1 10 0 10 = 0
    rw [pk_us]
  have e0 : rS R11 0 = 0 := by
    rw [w2'.1.1 0 (by decide), hR10]
    show upd R9.1 10 0 0 = 0
    rw [pk_un (by decide)]
    show rS R9 0 = 0
    rw [m4.1.1 0 (by decide), hR1]
    exact pk_us (f := R.1) (k := 0)
  obtain ⟨RZ, hRZ⟩ : ∃ X, X = setS (setS R11 11 1) 12 (-1) := ⟨_, rfl⟩
  have zs : ∀ j, j ≠ 0 → j ≠ 10 → j ≠ 11 → j ≠ 12 → rS RZ j = rS R j := fun j z0 z10 z11 z12 => by
    rw [hRZ]
    show upd (upd R11.1 11 1) 12 (-1) j = _
    rw [pk_un z12, pk_un z11]
    exact fR.1.1 j (by simp [z0, z10])
  have za : ∀ k, k ≠ 6 → k ≠ 40 → rA RZ k = rA R k := fun k z6 z40 => by
    rw [hRZ]
    exact fR.1.2.1 k (by simp [z6, z40])
  have za6 : rA RZ 6 = rA R9 6 := by rw [hRZ]; exact e6
  have za40 : ∀ t, t < 1024 → rA RZ 40 t = -1 := fun t ht => by rw [hRZ]; exact w3 t ht
  have z0 : rS RZ 0 = 0 := by
    rw [hRZ]
    show upd (upd R11.1 11 1) 12 (-1) 0 = 0
    rw [pk_un (by decide), pk_un (by decide)]
    exact e0
  have z10 : rS RZ 10 = nI 0 := by
    rw [hRZ]
    show upd (upd R11.1 11 1) 12 (-1) 10 = 0
    rw [pk_un (by decide), pk_un (by decide)]
    exact e10
  have z11 : rS RZ 11 = 1 := by
    rw [hRZ]
    show upd (upd R11.1 11 1) 12 (-1) 11 = 1
    rw [pk_un (by decide), pk_us]
  have z12 : rS RZ 12 = -1 := by
    rw [hRZ]
    show upd (upd R11.1 11 1) 12 (-1) 12 = -1
    rw [pk_us]
  have zWh : rWh RZ = rWh R := by rw [hRZ]; exact fR.2.1
  obtain ⟨CZ, hCZ⟩ : ∃ X, X = sS (sS (sS C9 207 0) 208 1) 209 (-1) := ⟨_, rfl⟩
  have ys : ∀ j, j ≠ 2 → j ≠ 806 → j ≠ 207 → j ≠ 208 → j ≠ 209 → cS CZ j = cS C j := fun j y1 y2 y3 y4 y5 => by
    rw [hCZ]
    show upd (upd (upd C9.1 207 0) 208 1) 209 (-1) j = _
    rw [pk_un y5, pk_un y4, pk_un y3, m1]
    exact s2 j y1 y2
  have y207 : cS CZ 207 = nI 0 := by
    rw [hCZ]
    show upd (upd (upd C9.1 207 0) 208 1) 209 (-1) 207 = 0
    rw [pk_un (by decide), pk_un (by decide), pk_us]
  have y208 : cS CZ 208 = 1 := by
    rw [hCZ]
    show upd (upd (upd C9.1 207 0) 208 1) 209 (-1) 208 = 1
    rw [pk_un (by decide), pk_us]
  have y209 : cS CZ 209 = -1 := by
    rw [hCZ]
    show upd (upd (upd C9.1 207 0) 208 1) 209 (-1) 209 = -1
    rw [pk_us]
  have y806 : cS CZ 806 = nI 0 := by
    rw [hCZ]
    show upd (upd (upd C9.1 207 0) 208 1) 209 (-1) 806 = 0
    rw [pk_un (by decide), pk_un (by decide), pk_un (by decide), m1]
    exact c806
  have y2 : cS CZ 2 = 0 := by
    rw [hCZ]
    show upd (upd (upd C9.1 207 0) 208 1) 209 (-1) 2 = 0
    rw [pk_un (by decide), pk_un (by decide), pk_un (by decide), m1]
    exact c2
  have ya : ∀ k, k ≠ 10 → k ≠ 12 → k ≠ 3 → k ≠ 6 → cA CZ k = cA C k := fun k z1 z2 z3 z6 => by
    rw [hCZ]
    show cA C9 k = _
    rw [show cA C9 k = cA C2 k from m2 k z3 z6]
    exact a2 k z1 z2
  have y10 : cA CZ 10 = cA C2 10 := by rw [hCZ]; exact m2 10 (by decide) (by decide)
  have y12 : cA CZ 12 = flt (cA C 12) 0 B 0 := by
    rw [hCZ]
    exact (m2 12 (by decide) (by decide)).trans c12
  have y3 : cA CZ 3 = cA C9 3 := by rw [hCZ]
  have y6 : cA CZ 6 = cA C9 6 := by rw [hCZ]
  have yr : ∀ m, m ≠ 1 → CZ.2.2 m = C.2.2 m := fun m hm => by
    rw [hCZ]
    exact (m3 m hm).trans (rr2 m)
  have yr1 : cR CZ 1 = cR C9 1 := by rw [hCZ]
  obtain ⟨t1, t2, t3, t4, t5, t6, t7, t8⟩ := id ok2
  have hwr : HwR N B 1 (hwR A.1 s9) CZ := by
    have e6' : (cS CZ 206).toNatClampNeg = a0 := by
      rw [ys 206 (by decide) (by decide) (by decide) (by decide) (by decide), e206, nI_clamp (by omega)]
    have e7' : (cS CZ 207).toNatClampNeg = 0 := by rw [y207]; rfl
    have e8' : (cS CZ 806).toNatClampNeg = 0 := by rw [y806]; rfl
    refine ⟨⟨?_, ?_, ?_, ?_⟩, ⟨⟨⟨?_, ?_, ?_, ?_, ?_, ?_⟩, ?_⟩, ⟨?_, ?_, ?_, ?_⟩, ⟨?_, ?_, ?_, ?_, ?_, ?_⟩, ⟨t1, t2, ?_, ?_, ?_, ?_, ?_, ?_⟩, ⟨?_, ?_⟩, ?_, ?_, ?_⟩, y208⟩
    · rw [ys 206 (by decide) (by decide) (by decide) (by decide) (by decide)]
      exact n1
    · rw [y207]
      decide
    · rw [ys 805 (by decide) (by decide) (by decide) (by decide) (by decide)]
      exact n3
    · rw [y806]
      decide
    · show (cS CZ 206).toNatClampNeg < 256
      rw [e6']
      exact q1
    · show (cS CZ 207).toNatClampNeg ≤ 256
      rw [e7']
      decide
    · intro t ht
      show s9 t = nr (cR CZ 1 t)
      rw [yr1]
      exact (m5 t ht).1
    · show [] = rgL _ _ _ (cS CZ 207).toNatClampNeg
      rw [e7']
      rfl
    · intro i hi
      have hi : i < (cS CZ 207).toNatClampNeg := hi
      rw [e7'] at hi
      exact absurd hi (Nat.not_lt_zero _)
    · intro t ht
      refine Or.inl ⟨?_, fun i hi => ?_⟩
      · show cA CZ 6 t = -1
        rw [y6]
        exact m10 t ht
      · have hi : i < (cS CZ 207).toNatClampNeg := hi
        rw [e7'] at hi
        exact absurd hi (Nat.not_lt_zero _)
    · intro t ht
      show cA CZ 3 t = nI 0
      rw [y3, m9 t ht, if_pos ht]
      rfl
    · show 0 = (cS CZ 806).toNatClampNeg
      rw [e8']
    · show A.1.2.1.2.2.1 = (cS CZ 805).toNatClampNeg
      rw [ys 805 (by decide) (by decide) (by decide) (by decide) (by decide)]
      exact b2
    · show A.1.2.1.2.2.2 = cS CZ 807
      rw [ys 807 (by decide) (by decide) (by decide) (by decide) (by decide)]
      exact b3
    · intro v hv
      exact Or.inl ⟨by show cA CZ 10 v = -1; rw [y10]; exact c10 v hv, rfl⟩
    · show (cS CZ 206).toNatClampNeg < 256
      rw [e6']
      exact q1
    · show (cS CZ 207).toNatClampNeg ≤ 256
      rw [e7']
      decide
    · show ∀ j, j < 256 → ∃ t, t < N ∧ cA CZ 7 j = nI t
      rw [ya 7 (by decide) (by decide) (by decide) (by decide)]
      exact o3
    · show Byts (cR CZ 1)
      rw [yr1]
      exact m7
    · show Byts (cR CZ 0)
      rw [show cR CZ 0 = cR C 0 from yr 0 (by decide)]
      exact o5
    · intro j hj
      exact Or.inl (by show cA CZ 6 j = -1; rw [y6]; exact m10 j hj)
    · show (cS CZ 806).toNatClampNeg = bCnt (cA CZ 12) B
      rw [e8', y12, bCnt_flt B (Nat.le_refl _)]
    · show (cS CZ 805).toNatClampNeg < 2 ^ 31
      exact clamp_lt _
    · intro s hs
      obtain ⟨t, v1, v2, -⟩ := t5 s hs
      refine ⟨t, v1, ?_, fun z => ?_⟩
      · show cA CZ 11 s = nI t
        rw [ya 11 (by decide) (by decide) (by decide) (by decide)]
        exact v2
      · have z : 0 < cA CZ 12 s := z
        rw [y12, flt_at (Nat.zero_le _) hs] at z
        exact absurd z (by decide)
    · intro t ht
      exact Or.inl (by show cA CZ 10 t = -1; rw [y10]; exact c10 t ht)
    · show Byts (cR CZ 3)
      rw [show cR CZ 3 = cR C 3 from yr 3 (by decide)]
      exact t7
    · intro s hs
      show 0 ≤ cA CZ 12 s
      rw [y12, flt_at (Nat.zero_le _) hs]
      decide
    · intro t q x ht e
      cases e
    · intro t v q x y ht hv e
      cases e
    · show -1 = cS CZ 209
      rw [y209]
    · show A.1.2.2.2.1 = cS CZ 210
      rw [ys 210 (by decide) (by decide) (by decide) (by decide) (by decide)]
      exact b7
    · show A.1.2.2.2.2 = cS CZ 211
      rw [ys 211 (by decide) (by decide) (by decide) (by decide) (by decide)]
      exact b8
  have hrh : RH N B (hwR A.1 s9) RZ := by
    refine ⟨wf, 0, ⟨p1, by decide, ?_, rfl, fun i hi => absurd hi (Nat.not_lt_zero _), ?_⟩, ⟨?_, ?_, ?_, fun k hk => absurd hk (Nat.not_lt_zero _)⟩, ⟨⟨?_, p1, z10, by decide⟩, ?_, ?_, ⟨?_, ?_, ?_, ?_⟩, ⟨?_, hB1, hB2, ?_, Nat.zero_le _⟩, ?_, ?_⟩, ⟨?_, ?_⟩, ?_, z12, ?_, ?_, z11⟩
    · intro t ht
      show s9 t = nr (fl (rA RZ 6) t)
      rw [za6]
      exact (m5 t ht).2.1
    · intro t ht
      exact Or.inl ⟨za40 t (by omega), fun i hi => absurd hi (Nat.not_lt_zero _)⟩
    · rw [zWh]
      exact r9
    · rw [zs 20 (by decide) (by decide) (by decide) (by decide)]
      exact r8
    · intro v hv
      exact Or.inl ⟨by rw [za 39 (by decide) (by decide)]; exact (g8 v (by omega)).2.2.2.2, rfl⟩
    · rw [zs 9 (by decide) (by decide) (by decide) (by decide)]
      exact r2.1
    · rw [za 7 (by decide) (by decide)]
      exact d1.2.1
    · intro t ht
      exact Or.inl (za40 t ht)
    · rw [za6]
      exact m8
    · rw [za 8 (by decide) (by decide)]
      exact d1.2.2.2.1.2.1
    · rw [za 17 (by decide) (by decide)]
      exact d1.2.2.2.1.2.2.1
    · rw [za 44 (by decide) (by decide)]
      exact d1.2.2.2.1.2.2.2
    · rw [zs 2 (by decide) (by decide) (by decide) (by decide)]
      exact kc.2.1
    · rw [zs 18 (by decide) (by decide) (by decide) (by decide), g3]
      rfl
    · rw [za 15 (by decide) (by decide)]
      exact d1.2.2.2.2.2.1
    · intro t ht
      exact Or.inl (by rw [za 39 (by decide) (by decide)]; exact (g8 t ht).2.2.2.2)
    · intro t q x ht e
      cases e
    · intro t v q x y ht hv e
      cases e
    · show A.1.2.1.2.2.1 < 2 ^ 31
      have : hSp A.1 ≤ u := sp
      unfold hSp at this
      omega
    · rw [zs 13 (by decide) (by decide) (by decide) (by decide)]
      exact r4
    · rw [zs 14 (by decide) (by decide) (by decide) (by decide)]
      exact r5
  have rn : RN N B gr (hwR A.1 s9) RZ := by
    refine ⟨hrh, WkO.z ?_ (by2.eq (fun k hk => za k ?_ ?_)) ?_ ?_, ⟨?_, by decide, fun c hc => absurd hc (Nat.not_lt_zero _), ?_, fun b hb => Or.inl ⟨?_, rfl⟩⟩, ?_, ?_, ?_, ?_⟩
    · rw [za 32 (by decide) (by decide)]
      exact by1
    · revert hk
      revert k
      decide
    · revert hk
      revert k
      decide
    · rw [zs 33 (by decide) (by decide) (by decide) (by decide)]
      exact g6
    · intro b hb
      rw [za 36 (by decide) (by decide)]
      exact (g8 b hb).2.1
    · rw [zs 29 (by decide) (by decide) (by decide) (by decide), g5]
      rfl
    · rw [za 28 (by decide) (by decide)]
      exact by2.2.1
    · rw [za 37 (by decide) (by decide)]
      exact (g8 b hb).2.2.1
    · rw [zs 1 (by decide) (by decide) (by decide) (by decide)]
      exact kc.1
    · rw [zs 3 (by decide) (by decide) (by decide) (by decide)]
      exact kc.2.2
    · rw [zs 21 (by decide) (by decide) (by decide) (by decide)]
      exact g2
    · rw [zs 34 (by decide) (by decide) (by decide) (by decide)]
      exact g7
  have hq : Quiet N (hwR A.1 s9) := ⟨rfl, fun _ _ => rfl⟩
  have dq : Dq (sS D 2 0) CZ := by
    refine ⟨fun j hj => ?_, fun k hk => ?_⟩
    · show cS CZ j = upd D.1 2 0 j
      by_cases e : j = 2
      · rw [e, pk_us]
        exact y2
      · rw [pk_un e]
        refine (ys j e ?_ ?_ ?_ ?_).trans (w2.1 j hj)
        · rintro rfl
          revert hj
          decide
        · rintro rfl
          revert hj
          decide
        · rintro rfl
          revert hj
          decide
        · rintro rfl
          revert hj
          decide
    · show cA CZ k = cA D k
      refine (ya k ?_ ?_ ?_ ?_).trans (w2.2 k hk)
      · rintro rfl
        revert hk
        decide
      · rintro rfl
        revert hk
        decide
      · rintro rfl
        revert hk
        decide
      · rintro rfl
        revert hk
        decide
  refine ⟨r, CZ, RZ, (hwR A.1 s9, A.2), ?_, ?_, z0, ?_, dq, ⟨?_, pk_us (f := D.1) (k := 2), rn, hq, ⟨hwR_safe (fun t ht => (m5 t ht).2.2) sf, sp⟩, ti.dd (show cS (sS D 2 0) 2508 = cS D 2508 from rfl) rfl⟩⟩
  · rw [q_X11_restart, if_pos h208, ptS, bnd_o ef, q_X2_wake, show (0 : Int32) = nI 0 from rfl, show nI 0 = (0 : Int32) from rfl]
    rw [show q_X2_wake_5 N B gr fuL C2 x 0 0 = some (r, CZ) from k1.trans (by rw [hCZ]; rfl)]
    rfl
  · rw [e_restart, g1]
    show e_restart_22 fuL (setS R 0 0) x 0 0 = _
    rw [← hR1]
    refine k2.trans ?_
    rw [ptR, ← hR10, bnd_o w1, ptR, ptR, hRZ]
  · obtain ⟨a1, a3, a4, a5, a6, a7⟩ := a
    have hok : HOk N B (hwR A.1 s9) := by
      refine ⟨⟨?_, ?_⟩, (bNum_none N (fun _ _ => rfl)).symm, Nat.zero_le _, by omega⟩
      · intro t q x ht e
        cases e
      · intro t v q x y ht hv e
        cases e
    refine ⟨hwr, hok, ?_, fun r hr => ?_, ?_, ?_, ?_⟩
    · rw [ya 15 (by decide) (by decide) (by decide) (by decide)]
      exact a3
    · rw [show cR CZ 4 = cR C 4 from yr 4 (by decide)]
      exact a4 r hr
    · have a5 : RsR N C A.2.2.2.2.1 := a5
      show RsR N CZ A.2.2.2.2.1
      unfold RsR at a5 ⊢
      rw [ys 1712 (by decide) (by decide) (by decide) (by decide) (by decide), ys 1711 (by decide) (by decide) (by decide) (by decide) (by decide), ya 24 (by decide) (by decide) (by decide) (by decide), ya 23 (by decide) (by decide) (by decide) (by decide)]
      exact a5
    · exact a6.sm (ya 27 (by decide) (by decide) (by decide) (by decide)) (ya 28 (by decide) (by decide) (by decide) (by decide)) (fun b => by rw [show cR CZ 2 = cR C 2 from yr 2 (by decide)])
    · rw [ys 2511 (by decide) (by decide) (by decide) (by decide) (by decide)]
      exact a7
  · obtain ⟨tp, tl, ⟨v1, v2, v3⟩, x2, x3, x4, x5, x6⟩ := h1
    refine ⟨tp, tl, ⟨v1, v2, fun j hj => by rw [za 4 (by decide) (by decide)]; exact v3 j hj⟩, ?_, ?_, x4, x5, x6⟩
    · show upd D.1 2 0 1 = _
      rw [pk_un (by decide)]
      exact x2
    · rw [zs 5 (by decide) (by decide) (by decide) (by decide)]
      exact x3
end PZW
