/-! ===== pure: copy, the bytes ===== -/
section PZI
variable {N B gr r u : Nat} {V V1 V2 W U : Nat → Rw} {m m1 m2 m' : M5} {tk tk1 tk2 tk' : Nat → Bool} {A A0 A1 A' : MS} {D D0 D1 D' D2 : CfT} {R R0 R1 R' : RfT} {d i p q k a e t s : Nat} {ow : Nat → Int} {s0 : S3} {l : List Nat} {g : Bool} {hd hi : Nat → Nat} {tp : Nat → Int32} {tl : Nat} {ex : Nat → Int32} {Y : Nat → Prop}
theorem dead_lk {o : Hw} {b : Nat} (h : Dd N R0 o R) (hb : b < N) (hN : N ≤ 1024) : lkO R b := by
  obtain ⟨g, ⟨wf, w, ⟨r1, r2, r3, r4, r5, r6⟩, -⟩, -⟩ := h
  obtain ⟨-, q1, q2, q3, q4⟩ := g.2.2.2.2.2.2.1 b (by omega)
  refine ⟨Or.inl q1, Or.inl q2, Or.inl q3, Or.inl q4, ?_⟩
  rcases r6 b hb with z | ⟨i, -, z, -⟩
  · exact Or.inl z.1
  · exact Or.inr ⟨_, Nat.mod_lt _ (by decide), z⟩
theorem dead_size {o : Hw} (hN1 : 61 ≤ N) (hN : N ≤ 1024) (h : Dd N R0 o R) (hi : ir i) : ∃ v, e_size R (nI i) = some v := by
  have hh := ir_home hi
  have hs := startM_le i
  have q : e_field R (nI i) 4 4 = _ := (z_fieldS (R := R) (a := 4) (n := 4) hi.1 hi.2).trans (z_seen (n := 4) (b := homeM i) (by omega) (dead_lk h (by omega) hN) (Or.inr (Or.inr rfl)) (by omega))
  exact ⟨_, by rw [e_size, bnd_o q]⟩
theorem dead_copy {o : Hw} (hN1 : 61 ≤ N) (hN : N ≤ 1024) (h : Dd N R0 o R) (hi : ir i) {x2 : Int32} : e_copyBytes R (nI i) x2 = some R := by
  obtain ⟨v, hv⟩ := dead_size hN1 hN h hi
  have h0 : rS R 11 = 0 := h.1.1
  rw [e_copyBytes, bnd_o hv, nm_o, show fuL = 3999999 + 1 from rfl, e_copyBytes_22, if_pos h0, show fuL = 3999999 + 1 from rfl, e64_d h0]
  split <;> rfl
theorem WK.sub {l' : List Nat} (h : WK N B gr r s0 l A D R m V tk ow) (hl : ∀ b, b ∈ l → b ∈ l') : WK N B gr r s0 l' A D R m V tk ow := ⟨h.1, h.2.1, h.2.2.1, h.2.2.2.1, h.2.2.2.2.1, fun b u1 u2 hc => (h.2.2.2.2.2 b u1 u2 hc).imp id (hl b)⟩
/-- inside a call, behind the blocks of a file whose size stays -/
theorem w_hvG {rr : Nat} {tb : List Nat} (hN1 : 61 ≤ N) (h : WK N B gr rr s0 l A D R m W tk ow) (hv : HvR N B gr r t Y A D R m W tk A1 D1 R1 m1 V1 tk1) (ht : ir t) (hk : f1 W t 0 = 1) (hz : ∀ q, bfM (szM W t) ≤ q → q < 4168 → pv V1 t (px q) = 0) (htb : ∀ b, yB t false Y V1 b → b ∈ tb) : WK N B gr r s0 ((43 :: homeM t :: tb) ++ l) A1 D1 R1 m1 V1 tk1 ow ∧ (∀ j, ir j → f1 V1 j 0 = f1 W j 0 ∧ f1 V1 j 1 = f1 W j 1 ∧ szM V1 j = szM W j) ∧ (∀ d s2, ir d → f1 W d 0 = 2 → s2 < szM W d / 16 → sln V1 d s2 = sln W d s2) := by
  obtain ⟨⟨a1x, a1w, a1b⟩, a2, a3, a4, a5, a6, a7, a8, a9⟩ := hv
  have hh := ir_home ht
  have hsz := (h.2.1.pz ht).1
  obtain ⟨g1, g2, g3, g4, g5⟩ := h.2.1.growF ht hk a2 a1w hsz hz rfl
  have esz : szM V1 t = szM W t := a2.sz ht
  have ef : fldV V1 t 4 4 (nI (szM W t)) = V1 := by
    have := fld_id (V := V1) ht (a1x.nr _ (by omega) (by omega)) (a1x.byt _ (by omega) (by omega)) (by omega)
    rw [esz] at this
    exact this
  rw [ef] at g1 g2 g3 g4
  have st1 : St N B m W tk m1 V1 tk1 := St.grow ht (fun z => by rw [hk] at z; cases z) a2 a8 a7
  have w := a9 (OkP m1 V1) (OkP.lo (by decide)) (OkP.lo hh.2) (fun x x1 x2 x3 => Or.inr (Or.inl ⟨x3, t, x, ht, x1, rfl, Or.inl (x2.resolve_right (by decide))⟩)) (fun b hb => (h.2.2.2.1.1 b hb).st st1) (h.2.2.2.1.2.wk (fun _ z => z.st st1))
  refine ⟨⟨a1x, g1, a1b, w, h.2.2.2.2.1.tr st1, fun b u1 u2 hc => ?_⟩, fun j hj => ⟨(g2 j hj).1, (g2 j hj).2.1, ?_⟩, g4⟩
  · have key : Chg m W tk b ∨ b ∈ 43 :: homeM t :: tb := by
      by_cases c43 : b = 43
      · exact Or.inr (by rw [c43]; exact List.mem_cons_self ..)
      · by_cases ch : b = homeM t
        · exact Or.inr (by rw [ch]; exact List.mem_cons_of_mem _ (List.mem_cons_self ..))
        · have hbef := (a7.mr.bef hN1 h.2.2.1.1).2 b u1 u2
          rcases hc with hc | hc
          · rcases a8.2.2.2 b hc with z | z
            · exact Or.inl (Or.inl z)
            · exact Or.inr (List.mem_cons_of_mem _ (List.mem_cons_of_mem _ (htb b z)))
          · rw [hbef] at hc
            rcases a8.2.2.1 b (by omega) with z | z | z
            · rw [z] at hc
              exact Or.inl (Or.inr hc)
            · exact absurd z ch
            · exact Or.inr (List.mem_cons_of_mem _ (List.mem_cons_of_mem _ (htb b z)))
    rcases key with z | z
    · exact (h.2.2.2.2.2 b u1 u2 z).imp id (fun q => List.mem_append_right _ q)
    · exact Or.inr (List.mem_append_left _ z)
  · rw [(g2 j hj).2.2]
    by_cases c : j = t
    · rw [if_pos c, c]
    · rw [if_neg c]
/-- the tables of a copy -/
noncomputable def tbX (W : Nat → Rw) (i : Nat) : Nat → List Nat
  | 0 => []
  | e + 1 => @ite _ (n2Q W i e) (Classical.propDecidable _) [9] [] ++ (@ite _ (fsQ W i 8 e) (Classical.propDecidable _) [hx (px e)] [] ++ tbX W i e)
theorem tbX_len : ∀ e, (tbX W i e).length = tcN W i e := fun e => by
  induction e with
  | zero => exact (tcN_8 0 (by decide)).symm
  | succ e ih =>
    rw [tcN_s, ← ih]
    unfold nT
    show (_ ++ (_ ++ tbX W i e)).length = _
    rw [List.length_append, List.length_append]
    by_cases c : n2Q W i e
    · rw [if_pos c, if_pos c]
      by_cases f : fsQ W i 8 e
      · rw [if_pos f, if_pos f]
        show 1 + (1 + _) = _
        omega
      · rw [if_neg f, if_neg f]
        show 1 + (0 + _) = _
        omega
    · rw [if_neg c, if_neg c]
      by_cases f : fsQ W i 8 e
      · rw [if_pos f, if_pos f]
        show 0 + (1 + _) = _
        omega
      · rw [if_neg f, if_neg f]
        show 0 + (0 + _) = _
        omega
theorem tbX_m : ∀ e, ∀ y, tbx y → cY W i e y → y ∈ tbX W i e := fun e => by
  induction e with
  | zero => intro y _ ⟨x, x1, _⟩; exact absurd x1 (Nat.not_lt_zero _)
  | succ e ih =>
    intro y hy ⟨x, x1, x2, x3⟩
    show y ∈ _ ++ (_ ++ tbX W i e)
    by_cases cx : x = e
    · subst cx
      rcases x3 with z | ⟨z1, z⟩ | ⟨z1, z⟩
      · rw [z] at hy
        exact absurd hy px_tb
      · by_cases f : fsQ W i 8 x
        · refine List.mem_append_right _ (List.mem_append_left _ ?_)
          rw [if_pos f, z]
          exact List.mem_cons_self
        · refine List.mem_append_right _ (List.mem_append_right _ (ih y hy ?_))
          refine Classical.byContradiction (fun w => f ⟨z1, x2, fun v v1 v2 v3 => Classical.byContradiction (fun v4 => w ⟨v, v2, v4, Or.inr (Or.inl ⟨v1, ?_⟩)⟩)⟩)
          rw [z]
          by_cases c : x < 72
          · rw [hx_lo2 z1 c, hx_lo2 v1 (by omega)]
          · rw [hx_hi2 (by omega), hx_hi2 (by omega), show (x - 72) / 64 = (v - 72) / 64 by omega]
      · by_cases f : n2Q W i x
        · refine List.mem_append_left _ ?_
          rw [if_pos f, z]
          exact List.mem_cons_self
        · refine List.mem_append_right _ (List.mem_append_right _ (ih y hy ?_))
          rw [z]
          exact cY_9.mpr (Classical.byContradiction (fun w => f ⟨z1, x2, w⟩))
    · exact List.mem_append_right _ (List.mem_append_right _ (ih y hy ⟨x, by omega, x2, x3⟩))
theorem WB.up {u' : Nat} (h : WB N B gr u g hd hi tp tl A D R m V tk) (hu : u ≤ u') : WB N B gr u' g hd hi tp tl A D R m V tk := ⟨h.1, ⟨h.2.1.1.up hu, h.2.1.2⟩, h.2.2⟩
/-- a data block is put -/
theorem WB.put {b : Nat} {x g3 g4 : Nat → Int32} (hN1 : 61 ≤ N) (hN : N ≤ 1024) (hgr : 1 ≤ gr) (hu : u + 4400 < 2 ^ 31) (h : WB N B gr u g hd hi tp tl A D R m V tk) (q1 : 61 ≤ b) (q2 : b < N) (q3 : btM (V 43) b = 1) (hnt : ¬ isT V b) (x2 : Byt x) (v2 : Byt g4) (hx : nr x = nr g4) : (∃ A' R' m', d_X10_writeDirectly N B gr A (sA D 42 x) (nI b) = some (.inl ((), A', sA D 42 x)) ∧ e_direct (setA (setA R 43 g3) 44 g4) (nI b) = some R' ∧ WB N B gr (u + 101) g hd hi tp tl A' (sA D 42 x) R' m' (vU V b (nr x)) tk ∧ ∀ j, ir j → f1 (vU V b (nr x)) j 0 = f1 V j 0 ∧ ∀ y, y < 4234 → pv (vU V b (nr x)) j y = pv V j y) ∨ (∃ A' R', d_X10_writeDirectly N B gr A (sA D 42 x) (nI b) = some (.inr (0, A', sA D 42 x)) ∧ e_direct (setA (setA R 43 g3) 44 g4) (nI b) = some R' ∧ rS R' 11 = 0 ∧ Offd N B gr (u + 101) A' (sA D 42 x) (setS R' 0 2)) := by
  obtain ⟨⟨r, h1⟩, h2, h3, h4, h5, h6, h7, h8, h9⟩ := h
  have w2 : WK N B gr r (m, V, tk) [] A (sA D 42 x) (setA (setA R 43 g3) 44 g4) m V tk (fun _ => 0) := (h1.a43 (x := g3)).row v2
  have fA : Fn [] [43, 44] R (setA (setA R 43 g3) 44 g4) := (Fn.a (by decide)).tr (Fn.a (by decide))
  have kp1 : Kep D (sA D 42 x) R (setA (setA R 43 g3) 44 g4) := ⟨fun _ _ => rfl, fun k hk => by
      show cA (sA D 42 x) k = cA D k
      exact cA_n (by revert hk; revert k; decide), fun j hj => fA.1.1 j (by revert hj; revert j; decide), fun j hj => fA.1.2.1 j (by revert hj; revert j; decide)⟩
  have h48 : Byt (rA (setA (setA R 43 g3) 44 g4) 48) := by
    rw [fA.1.2.1 48 (by decide)]
    exact h8.2.2.2.2.2.2.2
  rcases w_direct (x := nr x) hN1 hN hgr hu w2 h2 q1 q2 q3 hnt (by rw [cA_e]; exact x2) (by rw [cA_e]) (by rw [rA_e]; exact hx.symm) h48 with ⟨A2, R2, m2, z1, z2, z3, z4, z5, z6, z7, z8, z9⟩ | ⟨A2, R2, z1, z2, z3, z4, z5⟩
  · have kp2 : Kep D (sA D 42 x) R R2 := kp1.tr ⟨fun _ _ => rfl, fun _ _ => rfl, fun j hj => z9.1 j (by revert hj; revert j; decide), fun k hk => z9.2.1 k (by revert hk; revert k; decide)⟩
    have d1 : ∀ c, 43 ≤ c → c < 61 → vU V b (nr x) c = V c := fun c c1 c2 => vU_n (by omega)
    have d2 : ∀ c, isT V c → vU V b (nr x) c = V c := fun c hc => vU_n (fun e => hnt (by rw [← e]; exact hc))
    obtain ⟨-, f1', -, f3, -⟩ := h1.2.1.dep hN1 d1 d2
    refine Or.inl ⟨A2, R2, m2, z1, z2, ⟨⟨r, z3⟩, z4, h3.dep hN1 d1 d2, ⟨h4.1.keep (fun j hj => f1' j 0 hj), h4.2.keep (fun j hj => ⟨f1' j 0 hj, f1' j 1 hj⟩)⟩, by rw [cA_e]; exact x2, z6.trans h6, kp2.hr h7, kp2.fx h8 z8, fun zz => ?_⟩, fun j hj => ⟨f1' j 0 hj, f3 j hj⟩⟩
    obtain ⟨l', l1, l3⟩ := h9 zz
    exact ⟨l', l1, fun c c1 c2 hc => l3 c c1 c2 (z5 c c1 c2 hc)⟩
  · have zd : Dd N R A2.1 R2 := z4.fq fA.1 (by decide) (by decide)
    exact Or.inr ⟨A2, R2, z1, z2, z3, h8.offT rfl (cA_n (by decide)) (by rw [cA_e]; exact x2) (cA_n (by decide)) (Dd.thr zd), ⟨R, Dd.thr zd, h1.1.2.kc⟩, z5⟩
/-- the reference builds the row of a copy -/
theorem z_c102 {x1 x2 x4 : Int32} {sz : Nat} {sf : RfT → Int32 → Int32 → Int32 → Int32 → Int32 → Option RfT} {y : Rw} (hs : sz < 2 ^ 30) (hq : q < 5000) (hy : Byt y) (h43 : ∀ o, o < 128 → rA R 43 o = y o) : ∀ (n k : Nat) (gg : Nat → Int32), k ≤ 128 → 128 - k < n → Byt gg → (∀ o, o < k → gg o = if sz ≤ 128 * q + o then 0 else y o) → ∃ g', e_copyBytes_102 sf n (setA R 44 gg) x1 x2 (nI sz) x4 (nI q) (nI k) = bnd (e_blockOf (setA R 44 g') x2 (nI q)) (fun v148 => bnd (e_direct (setA R 44 g') v148) (fun R149 => sf R149 x1 x2 (nI sz) x4 (nI (q + 1)))) ∧ Byt g' ∧ ∀ o, o < 128 → g' o = if sz ≤ 128 * q + o then 0 else y o := by
  intro n
  induction n with
  | zero => intro k gg _ h; exact absurd h (Nat.not_lt_zero _)
  | succ n ih =>
    intro k gg hk hn hgb hg
    rw [e_copyBytes_102]
    by_cases c : k = 128
    · rw [if_pos (show (128 : Int32) ≤ nI k by rw [c]; decide), nI_1]
      exact ⟨gg, rfl, hgb, fun o ho => hg o (by omega)⟩
    · have next : ∀ v : Int32, v = (if sz ≤ 128 * q + k then 0 else y k) → ∃ g', e_copyBytes_102 sf n (setA (setA R 44 gg) 44 (upd gg k (vp_nar .byte v))) x1 x2 (nI sz) x4 (nI q) (nI (k + 1)) = bnd (e_blockOf (setA R 44 g') x2 (nI q)) (fun v148 => bnd (e_direct (setA R 44 g') v148) (fun R149 => sf R149 x1 x2 (nI sz) x4 (nI (q + 1)))) ∧ Byt g' ∧ ∀ o, o < 128 → g' o = if sz ≤ 128 * q + o then 0 else y o := fun v hv => by
        have hvb : vp_nar .byte v = v := by
          rw [hv]
          split
          · decide
          · exact nar8 (hy k)
        rw [setA_A]
        refine ih (k + 1) _ (by omega) (by omega) hgb.upd8 (fun o ho => ?_)
        by_cases e : o = k
        · rw [e, pk_us, hvb, hv]
        · rw [pk_un e]
          exact hg o (by omega)
      rw [if_neg (show ¬ (128 : Int32) ≤ nI k from nI_ge (b := 128) (by omega) (by decide)), show (128 : Int32) = nI 128 from rfl, pk_mul, nI_add, nI_1]
      by_cases c1 : sz ≤ 128 * q + k
      · rw [if_pos (nI_le c1 (by omega)), st_n (show k < 128 by omega) (by decide), rA_e]
        exact next 0 (by rw [if_pos c1])
      · rw [if_neg (nI_ge (by omega) (by omega)), ld_n (show k < 128 by omega) (by decide), rA_n (by decide), h43 k (by omega), st_n (show k < 128 by omega) (by decide), rA_e]
        exact next (y k) (by rw [if_neg c1])
theorem GaD.d42 {x : Nat → Int32} (h : GaD V i e D) : GaD V i e (sA D 42 x) := ⟨h.1, fun p h1 h2 => by
  rw [cA_n (by decide), cA_n (by decide)]
  exact h.2 p h1 h2⟩
/-- both copy the bytes -/
theorem w_cpd {sz : Nat} (hN1 : 61 ≤ N) (hN : N ≤ 1024) (hgr : 1 ≤ gr) (hir : ir i) (ht : ir t) (he : e = bfM sz) (hs : sz ≤ 400000) (hpt : ∀ p, p < e → pv W i (px p) ≠ 0 → pv V1 t (px p) ≠ 0) : ∀ (dd q n n' u : Nat) (A : MS) (D : CfT) (R : RfT) (m1 : M5) (U : Nat → Rw), q + dd = e → ncM W i 0 e - ncM W i 0 q < n → e - q < n' → u + 101 * (ncM W i 0 e - ncM W i 0 q) + 4400 < 2 ^ 31 → WB N B gr u g hd hi tp tl A D R m1 U tk1 → f1 U t 0 = 1 → (∀ x, x < 4234 → pv U t x = pv V1 t x) → (∀ x, x < 4234 → pv U i x = pv W i x) → GaD W i e D → (∃ A' D' R' m' U', d_X3_fillCopy_78 N B gr n A D (nI t) (nI sz) (nI (ncM W i 0 q)) = some (.inl ((), A', D')) ∧ e_copyBytes_64 n' R (nI i) (nI t) (nI sz) (nI e) (nI q) = some R' ∧ WB N B gr (u + 101 * (ncM W i 0 e - ncM W i 0 q)) g hd hi tp tl A' D' R' m' U' tk1) ∨ (∃ A' D' R', d_X3_fillCopy_78 N B gr n A D (nI t) (nI sz) (nI (ncM W i 0 q)) = some (.inr (0, A', D')) ∧ e_copyBytes_64 n' R (nI i) (nI t) (nI sz) (nI e) (nI q) = some R' ∧ rS R' 11 = 0 ∧ Offd N B gr (u + 101 * (ncM W i 0 e - ncM W i 0 q)) A' D' (setS R' 0 2)) := by
  have he3 : e ≤ 3200 := by
    unfold bfM at he
    omega
  intro dd
  induction dd with
  | zero =>
    intro q n n' u A D R m1 U hq hn hn' hu h hk ht1 hi1 hg
    obtain ⟨n, rfl⟩ : ∃ k, n = k + 1 := ⟨n - 1, by omega⟩
    obtain ⟨n', rfl⟩ : ∃ k, n' = k + 1 := ⟨n' - 1, by omega⟩
    have hqe : q = e := by omega
    subst hqe
    have hle := nc_le (V := W) (i := i) q
    refine Or.inl ⟨A, D, R, m1, U, ?_, ?_, WB.up h (by omega)⟩
    · rw [d_X3_fillCopy_78, hg.1, if_pos (nI_le (Nat.le_refl _) (by omega))]
    · rw [e_copyBytes_64, if_pos (nI_le (Nat.le_refl _) (by omega))]
  | succ dd ih =>
    intro q n n' u A D R m1 U hq hn hn' hu h hk ht1 hi1 hg
    obtain ⟨n', rfl⟩ : ∃ k, n' = k + 1 := ⟨n' - 1, by omega⟩
    have hq4 : q < 4168 := by omega
    obtain ⟨r, h1⟩ := h.1
    have hon : ¬ rS R 11 = 0 := h1.1.2.1.1.1.on
    obtain ⟨-, zb⟩ := j_blk (D2 := D) hN1 hN h1.1 h1.2.1.1 hir hq4
    rw [hi1 _ (px_lt hq4)] at zb
    rw [e_copyBytes_64, if_neg (nI_ge (by omega) (by omega)), if_neg hon, bnd_o zb]
    by_cases c : pv W i (px q) = 0
    · rw [c, nI_0, i00, nI_1]
      have qq := ih (q + 1) n n' u A D R m1 U (by omega) (by rw [nc_0 c]; exact hn) (by omega) (by rw [nc_0 c]; exact hu) h hk ht1 hi1 hg
      rw [nc_0 c] at qq
      exact qq
    · obtain ⟨n, rfl⟩ : ∃ k, n = k + 1 := ⟨n - 1, by omega⟩
      have hle := nc_le (V := W) (i := i) e
      have hm : ncM W i 0 (q + 1) ≤ ncM W i 0 e := nc_mono (by omega)
      rw [nc_s c] at hm
      obtain ⟨g1, g2⟩ := hg.2 q (by omega) c
      have ptq := hpt q (by omega) c
      obtain ⟨s1, s2, s3⟩ := (h1.2.1.1.pto hir _ (px_lt hq4)).resolve_left (by rw [hi1 _ (px_lt hq4)]; exact c)
      rw [hi1 _ (px_lt hq4)] at s1 s2 s3
      have hb0 : pv U t (px q) ≠ 0 := by rw [ht1 _ (px_lt hq4)]; exact ptq
      obtain ⟨t1, t2, t3⟩ := (h1.2.1.1.pto ht _ (px_lt hq4)).resolve_left hb0
      have hnt := no_tab h1.2.1.1 ht hk hq4 hb0
      obtain ⟨j1, -⟩ := j_blk (D2 := D) hN1 hN h1.1 h1.2.1.1 ht hq4
      generalize hsb : pv W i (px q) = sb at *
      have evb : vA A sb = U sb := h1.1.1.agu sb (by omega) s2 s3
      obtain ⟨x, l1, l2, l3⟩ := c_load (N := N) (W := vA A) (b := sb) (D := D) hN s2 (by rw [evb]; exact h1.1.byt sb (by omega) s2) h.2.2.2.2.1
      obtain ⟨g3, y1, y2⟩ := z_see (R := R) (b := sb) (ow := true) (by omega) (h1.1.2.1.1.lk sb (by omega)) h1.1.2.1.1.by
      have y3 : ∀ o, o < 128 → rA (setA R 43 g3) 43 o = U sb o := fun o ho => by rw [rA_e, y2 o ho, h1.1.2.agu sb (by omega) s2 s3]
      have b44 : Byt (rA (setA R 43 g3) 44) := h1.1.2.1.1.1.b44
      obtain ⟨g4, v1, v2, v3⟩ := z_c102 (R := setA R 43 g3) (sz := sz) (q := q) (y := U sb) (x1 := nI i) (x2 := nI t) (x4 := nI e) (sf := e_copyBytes_64 n') (by omega) (by omega) (h1.1.byt sb (by omega) s2) y3 fuL 0 (rA (setA R 43 g3) 44) (by decide) (by rw [fuL_4]; omega) b44 (fun o ho => absurd ho (Nat.not_lt_zero _))
      rw [setA_id, nI_0] at v1
      have hsq : 128 * q < sz := by
        unfold bfM at he
        omega
      have s1' : nI sz - nI q * 128 = nI (sz - 128 * q) := by
        rw [show (128 : Int32) = nI 128 from rfl, pk_mul, pk_sub (by omega), Nat.mul_comm q 128]
      have s3' : (if nI (sz - 128 * q) < (128 : Int32) then nI (sz - 128 * q) else (128 : Int32)) = nI (min (sz - 128 * q) 128) := by
        by_cases c : sz - 128 * q < 128
        · rw [if_pos (show nI (sz - 128 * q) < (128 : Int32) from nI_lt (b := 128) c (by decide)), Nat.min_eq_left (by omega)]
        · rw [if_neg (show ¬ nI (sz - 128 * q) < (128 : Int32) from nI_nlt (b := 128) (by omega) (by omega)), Nat.min_eq_right (by omega)]
          rfl
      have fy : Byt (flt x (min (sz - 128 * q) 128) 128 (vp_nar .byte 0)) := fun o => by
        unfold flt
        split
        · exact fits8 0
        · exact l2 o
      have enr : nr (flt x (min (sz - 128 * q) 128) 128 (vp_nar .byte 0)) = nr g4 := nr_eqP (fun o ho => by
        rw [v3 o ho]
        unfold flt
        by_cases c : sz ≤ 128 * q + o
        · rw [if_pos c, if_pos ⟨by omega, ho⟩]
          decide
        · rw [if_neg c, if_neg (fun z => by omega), l3 o ho, evb])
      have jd : d_X7_reach N (vA A) (sA D 42 (flt x (min (sz - 128 * q) 128) 128 (vp_nar .byte 0))) (nI t) (nI q) 0 = some (nI (pv U t (px q))) := (j_blk hN1 hN h1.1 h1.2.1.1 ht hq4).1
      have w2 : WK N B gr r (m1, U, tk1) [] A (sA D 42 (flt x (min (sz - 128 * q) 128) 128 (vp_nar .byte 0))) (setA (setA R 43 g3) 44 g4) m1 U tk1 (fun _ => 0) := (h1.a43 (x := g3)).row v2
      have jr : e_blockOf (setA (setA R 43 g3) 44 g4) (nI t) (nI q) = some (nI (pv U t (px q))) := (j_blk (D2 := D) hN1 hN w2.1 w2.2.1.1 ht hq4).2
      have hcl : d_X3_fillCopy_78 N B gr (n + 1) A D (nI t) (nI sz) (nI (ncM W i 0 q)) = bndF (d_X10_writeDirectly N B gr A (sA D 42 (flt x (min (sz - 128 * q) 128) 128 (vp_nar .byte 0))) (nI (pv U t (px q)))) (fun v51 A51 D51 => d_X3_fillCopy_78 N B gr n A51 D51 (nI t) (nI sz) (nI (ncM W i 0 q + 1))) := by
        rw [d_X3_fillCopy_78, hg.1, if_neg (nI_ge (by omega) (by omega)), ld_n (by omega) (by decide), g2, bnd_o l1, ld_n (by omega) (by decide), cA_n (by decide), g1, s1', s3', nm_o]
        rw [show frD (sA D 42 x) 42 128 (nI (min (sz - 128 * q) 128)) (128 : Int32) = frD (sA D 42 x) 42 128 (nI (min (sz - 128 * q) 128)) (nI 128) from rfl, frD_n (by omega) (by omega) (by decide), cA_e, sA_A, ld_n (by omega) (by decide), cA_n (by decide), g1, bnd_o jd, nI_1]
      rw [hcl, if_neg (show ¬ nI sb = 0 from nI_ne0 (by omega) (by omega)), bnd_o (show e_see R (nI sb) 1 = some (setA R 43 g3) from y1), v1, bnd_o jr]
      rcases h.put (g3 := g3) hN1 hN hgr (by omega) t1 t2 t3 hnt fy v2 enr with ⟨A', R', m', z1, z2, z3, z4⟩ | ⟨A', R', z1, z2, z3, z4⟩
      · rw [bndF_l z1, bnd_o z2]
        have c' : pv W i (px q) ≠ 0 := by rw [hsb]; exact c
        have qq := ih (q + 1) n n' (u + 101) A' _ R' m' _ (by omega) (by rw [nc_s c']; omega) (by omega) (by rw [nc_s c']; omega) z3 (by rw [(z4 t ht).1]; exact hk) (fun y hy => by rw [(z4 t ht).2 y hy]; exact ht1 y hy) (fun y hy => by rw [(z4 i hir).2 y hy]; exact hi1 y hy) hg.d42
        rw [nc_s c', show u + 101 + 101 * (ncM W i 0 e - (ncM W i 0 q + 1)) = u + 101 * (ncM W i 0 e - ncM W i 0 q) by omega] at qq
        exact qq
      · rw [bndF_r z1, bnd_o z2]
        obtain ⟨n', rfl⟩ : ∃ k, n' = k + 1 := ⟨n' - 1, by omega⟩
        exact Or.inr ⟨A', _, R', rfl, e64_d z3, z3, z4.up (by omega)⟩
end PZI
