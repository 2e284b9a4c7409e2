/-! ===== pure: punch ===== -/
section PZC
variable {N B gr r u : Nat} {V V' W : Nat → Rw} {m m' : M5} {tk tk' : Nat → Bool} {A A' : MS} {D D' D2 : CfT} {R R' : RfT} {i p q k a e t s : Nat} {ow : Nat → Int} {s0 : S3} {l : List Nat} {g : Bool} {hd hi : Nat → Nat} {tp : Nat → Int32} {tl at1 en en1 : Nat} {ex : Nat → Int32}
theorem w_punch (hN1 : 61 ≤ N) (hN : N ≤ 1024) (h : WK N B gr r s0 l A D R m V tk ow) (hi : ir i) (hk1 : f1 V i 0 = 1) (hat : at1 ≤ en) (hen : en ≤ 400000) (ha : a = bfM at1) (he : e = min (bfM (szM V i)) (en / 128)) : ∃ A' D' R' m' V' tk', d_X7_cutBlocks N A D (nI i) (nI a) (nI (en / 128)) 4168 = some (nI (ncM V i a e), A', D') ∧ e_punch_110 fuL R (nI i) (nI at1) 0 (nI (szM V i)) (nI en) (nI (at1 / 128)) = e_punch_216 fuL R' (nI i) (nI at1) (nI (ncM V i a e)) (nI (min (szM V i) en)) (nI (at1 / 128)) ∧ WK N B gr r s0 ((43 :: homeM i :: tpL V i (max a 8) e) ++ l) A' D' R' m' V' tk' ow ∧ gA A' = gA A ∧ Dt D D' ∧ Fn [33] [30, 31, 32, 35, 36, 43] R R' ∧ (∀ j, ir j → f1 V' j 0 = f1 V j 0 ∧ f1 V' j 1 = f1 V j 1 ∧ szM V' j = szM V j) ∧ (∀ d s, ir d → f1 V d 0 = 2 → s < szM V d / 16 → sln V' d s = sln V d s) ∧ (∀ q, a ≤ q → q < e → pv V' i (px q) = 0) := by
  have hh := ir_home hi
  have hz := h.2.1.pz hi
  have hs := hz.1
  have hb4 : bfM (szM V i) ≤ 4168 := by
    unfold bfM
    omega
  have C : CutH N V i := ⟨hN1, hN, hi.1, hi.2, h.2.1.1.1, h.1.nr, h.2.1.1.pj hi⟩
  obtain ⟨A', D', R', m', V', tk', a1, a3, a4, a5, a6, a7, a8, w1, w2⟩ := j_cutP (P := OkP m V) C h.2.1.1 h.1 hz hat hen ha he h.2.2.2.1.1 h.2.2.2.1.2
  have cl : clX (pX a e) := nt_cl (fun x hx => pX_nt hx)
  obtain ⟨g1, g2, g3, g4⟩ := h.2.1.cut hN1 hN hi hk1 cl a5
  have st := St.cut (B := B) hN1 h.2.1.1 h.1.1.2.2.2.2.2.2 hi cl a5
  have up : ∀ b, gP (OkP m V) V i b → OkP m' V' b := fun b hb => gP_ok hN1 h.2.1.1 hi st (hb.imp (fun z => z.st st) id)
  refine ⟨A', D', R', m', V', tk', a1, a3, ?_, a6, a7, a8, g2, g3, fun q q1 q2 => ?_⟩
  · refine h.chg hN1 a4 g1 (h.2.2.1.cut hN1 hN h.2.1.1 hi h.1.1 a5) st (fun _ _ => ⟨w1.wk up, w2.wk up⟩) (fun b u1 u2 hc => ?_)
    by_cases c1 : b = 43
    · exact Or.inr (by rw [c1]; exact List.mem_cons_self)
    · rcases Chg.cut a5 (by omega) u2 hc with q | ⟨q1, x, x1, ⟨q, y1, y2, rfl⟩, x3, x4⟩
      · exact Or.inl q
      · refine Or.inr (List.mem_cons_of_mem _ ?_)
        by_cases c8 : q < 8
        · have : px q = q := by
            unfold px
            rw [if_pos c8]
          rw [this, ph_0 (by omega)] at x4
          rw [← x4]
          exact List.mem_cons_self
        · rw [← x4]
          exact List.mem_cons_of_mem _ (tpL_m (by omega) e (by omega) q (by omega) y2 x3)
  · rw [a5.pvs h.2.1.1 hN1 hi cl hi _ (px_lt (by omega)), if_pos ⟨rfl, q, q1, q2, rfl⟩]
/-- behind the tables, at the data -/
def WB (N B gr u : Nat) (g : Bool) (hd hi : Nat → Nat) (tp : Nat → Int32) (tl : Nat) (A : MS) (D : CfT) (R : RfT) (m : M5) (V : Nat → Rw) (tk : Nat → Bool) : Prop := (∃ r, WK N B gr r (m, V, tk) [] A D R m V tk (fun _ => 0)) ∧ Bs N B gr u (m, V, tk) ∧ WF N V ∧ (HdW V hd hi ∧ LH V hd hi) ∧ Byt (cA D 42) ∧ gA A = g ∧ HRel D R hd hi ∧ Fx N D R g tp tl ∧ (g = false → ∃ l' : List Nat, l'.length ≤ 40 ∧ ∀ b, 43 ≤ b → b < N → Chg m V tk b → b ∈ l')
theorem WB.fin {v : Int32} (hN1 : 61 ≤ N) (hN : N ≤ 1024) (hgr : 1 ≤ gr) (hgr2 : gr ≤ 16) (hu : u + 4200 < 2 ^ 31) (h : WB N B gr u g hd hi tp tl A D R m V tk) : Ret N B gr (u + 100) ex (bndF (d_X10_finish N B gr A D) (fun _ A' D' => some (.inl (v, A', D')))) (bnd2 (e_committed R v) (fun a b => some (a, b))) := by
  obtain ⟨⟨r, h1⟩, h2, h3, h4, h5, h6, h7, h8, h9⟩ := h
  exact w_ret (ex := ex) (g := g) hN1 hN hgr hgr2 hu h1 h2.1 h2.2 h9 h3 h5 h6 h7 h4.1 h8 rfl rfl h4.2
/-- the reference builds a row with a hole -/
theorem z_p264 {x1 x5 x10 : Int32} {sf : RfT → Int32 → Int32 → Int32 → Int32 → Int32 → Option (Int32 × RfT)} {y : Rw} (ha : at1 < 2 ^ 30) (he : en1 < 2 ^ 30) (hq : q < 5000) (hy : Byt y) (h43 : ∀ o, o < 128 → rA R 43 o = y o) : ∀ (n k : Nat) (gg : Nat → Int32), k ≤ 128 → 128 - k < n → Byt gg → (∀ o, o < k → gg o = if at1 ≤ 128 * q + o ∧ 128 * q + o < en1 then 0 else y o) → ∃ g', e_punch_264 sf n (setA R 44 gg) x1 (nI at1) x5 (nI en1) (nI q) x10 (nI k) = bnd (e_direct (setA R 44 g') x10) (fun R153 => sf R153 x1 (nI at1) x5 (nI en1) (nI (q + 1))) ∧ Byt g' ∧ ∀ o, o < 128 → g' o = if at1 ≤ 128 * q + o ∧ 128 * q + o < en1 then 0 else y o := by
  intro n
  induction n with
  | zero => intro k gg _ h; exact absurd h (Nat.not_lt_zero _)
  | succ n ih =>
    intro k gg hk hn hgb hg
    rw [e_punch_264]
    by_cases c : k = 128
    · rw [if_pos (show (128 : Int32) ≤ nI k by rw [c]; decide), nI_1]
      exact ⟨gg, rfl, hgb, fun o ho => hg o (by omega)⟩
    · have next : ∀ v : Int32, v = (if at1 ≤ 128 * q + k ∧ 128 * q + k < en1 then 0 else y k) → ∃ g', e_punch_264 sf n (setA (setA R 44 gg) 44 (upd gg k (vp_nar .byte v))) x1 (nI at1) x5 (nI en1) (nI q) x10 (nI (k + 1)) = bnd (e_direct (setA R 44 g') x10) (fun R153 => sf R153 x1 (nI at1) x5 (nI en1) (nI (q + 1))) ∧ Byt g' ∧ ∀ o, o < 128 → g' o = if at1 ≤ 128 * q + o ∧ 128 * q + o < en1 then 0 else y o := fun v hv => by
        have hvb : vp_nar .byte v = v := by
          rw [hv]
          split
          · decide
          · exact nar8 (hy k)
        rw [setA_A]
        refine ih (k + 1) _ (by omega) (by omega) hgb.upd8 (fun o ho => ?_)
        by_cases e : o = k
        · rw [e, pk_us, hvb, hv]
        · rw [pk_un e]
          exact hg o (by omega)
      rw [if_neg (show ¬ (128 : Int32) ≤ nI k from nI_ge (b := 128) (by omega) (by decide)), show (128 : Int32) = nI 128 from rfl, pk_mul, nI_add, nI_1]
      by_cases c1 : 128 * q + k < at1
      · rw [if_pos (nI_lt c1 (by omega)), ld_n (show k < 128 by omega) (by decide), rA_n (by decide), h43 k (by omega), st_n (show k < 128 by omega) (by decide), rA_e]
        exact next (y k) (by rw [if_neg (fun z => by omega)])
      · rw [if_neg (nI_nlt (by omega) (by omega))]
        by_cases c2 : en1 ≤ 128 * q + k
        · rw [if_pos (nI_le c2 (by omega)), ld_n (show k < 128 by omega) (by decide), rA_n (by decide), h43 k (by omega), st_n (show k < 128 by omega) (by decide), rA_e]
          exact next (y k) (by rw [if_neg (fun z => by omega)])
        · rw [if_neg (nI_ge (by omega) (by omega)), st_n (show k < 128 by omega) (by decide), rA_e]
          exact next 0 (by rw [if_pos ⟨by omega, by omega⟩])
theorem w_blk {x5 : Int32} {b : Nat} {sf : RfT → Int32 → Int32 → Int32 → Int32 → Int32 → Option (Int32 × RfT)} (hN1 : 61 ≤ N) (hN : N ≤ 1024) (hgr : 1 ≤ gr) (hu : u + 4400 < 2 ^ 31) (h : WB N B gr u g hd hi tp tl A D R m V tk) (hir : ir i) (hk1 : f1 V i 0 = 1) (hq : q < 4168) (hb : b = pv V i (px q)) (p0 : b ≠ 0) (hq1 : 128 * q ≤ p) (hq2 : p < 128 * q + 128) (he : p < e) (he2 : e < 2 ^ 30) (hat : at1 < 2 ^ 30) (hen : en1 < 2 ^ 30) (hz : ∀ o, o < 128 → ((at1 ≤ 128 * q + o ∧ 128 * q + o < en1) ↔ (p - 128 * q ≤ o ∧ o < min (e - 128 * q) 128))) : (∃ A' D' R' m' x, d_X3_blank_29 N B gr A D (nI p) (nI e) (nI q) (nI b) = some (.inl ((), A', D')) ∧ bnd (e_see R (nI b) 1) (fun R152 => e_punch_264 sf fuL R152 (nI i) (nI at1) x5 (nI en1) (nI q) (nI b) 0) = sf R' (nI i) (nI at1) x5 (nI en1) (nI (q + 1)) ∧ WB N B gr (u + 101) g hd hi tp tl A' D' R' m' (vU V b x) tk ∧ f1 (vU V b x) i 0 = 1 ∧ ∀ y, y < 4234 → pv (vU V b x) i y = pv V i y) ∨ (∃ A' D' R', d_X3_blank_29 N B gr A D (nI p) (nI e) (nI q) (nI b) = some (.inr (0, A', D')) ∧ bnd (e_see R (nI b) 1) (fun R152 => e_punch_264 sf fuL R152 (nI i) (nI at1) x5 (nI en1) (nI q) (nI b) 0) = sf R' (nI i) (nI at1) x5 (nI en1) (nI (q + 1)) ∧ rS R' 11 = 0 ∧ Offd N B gr (u + 101) A' D' (setS R' 0 2)) := by
  obtain ⟨⟨r, h1⟩, h2, h3, h4, h5, h6, h7, h8, h9⟩ := h
  obtain ⟨q1, q2, q3⟩ := (h1.2.1.1.pto hir _ (px_lt hq)).resolve_left (by rw [← hb]; exact p0)
  have hnt : ¬ isT V (pv V i (px q)) := no_tab h1.2.1.1 hir hk1 hq (by rw [← hb]; exact p0)
  rw [← hb] at q1 q2 q3 hnt
  have evb : vA A b = V b := h1.1.1.agu b (by omega) q2 q3
  obtain ⟨x, x1, x2, x3⟩ := c_blk29 (N := N) (B := B) (gr := gr) (A := A) (D := D) (b := b) (p := p) (e := e) (q := q) hN p0 q2 (by rw [evb]; exact h1.1.byt b (by omega) q2) (by rw [evb]; exact h1.1.nr b (by omega) q2) h5 hq1 hq2 he he2
  obtain ⟨g3, y1, y2⟩ := z_see (R := R) (b := b) (ow := true) (by omega) (h1.1.2.1.1.lk b (by omega)) h1.1.2.1.1.by
  have y3 : ∀ o, o < 128 → rA (setA R 43 g3) 43 o = V b o := fun o ho => by rw [rA_e, y2 o ho, h1.1.2.agu b (by omega) q2 q3]
  have b44 : Byt (rA (setA R 43 g3) 44) := h1.1.2.1.1.1.b44
  obtain ⟨g4, v1, v2, v3⟩ := z_p264 (R := setA R 43 g3) (at1 := at1) (en1 := en1) (q := q) (y := V b) (x1 := nI i) (x5 := x5) (x10 := nI b) (sf := sf) hat hen (by omega) (h1.1.byt b (by omega) q2) y3 fuL 0 (rA (setA R 43 g3) 44) (by decide) (by rw [fuL_4]; omega) b44 (fun o ho => absurd ho (Nat.not_lt_zero _))
  rw [setA_id, nI_0] at v1
  rw [x1, bnd_o (show e_see R (nI b) 1 = some (setA R 43 g3) from y1), v1]
  have w2 : WK N B gr r (m, V, tk) [] A (sA D 42 x) (setA (setA R 43 g3) 44 g4) m V tk (fun _ => 0) := (h1.a43 (x := g3)).row v2
  have fA : Fn [] [43, 44] R (setA (setA R 43 g3) 44 g4) := (Fn.a (by decide)).tr (Fn.a (by decide))
  have kp1 : Kep D (sA D 42 x) R (setA (setA R 43 g3) 44 g4) := ⟨fun _ _ => rfl, fun k hk => by
      show cA (sA D 42 x) k = cA D k
      exact cA_n (by revert hk; revert k; decide), fun j hj => fA.1.1 j (by revert hj; revert j; decide), fun j hj => fA.1.2.1 j (by revert hj; revert j; decide)⟩
  have h48 : Byt (rA (setA (setA R 43 g3) 44 g4) 48) := by
    rw [fA.1.2.1 48 (by decide)]
    exact h8.2.2.2.2.2.2.2
  rw [evb] at x3
  have x4 : nr g4 = zpR (V b) (p - 128 * q) (min (e - 128 * q) 128) := zpR_of (h1.1.nr b (by omega) q2) (fun o ho => by
    rw [v3 o ho]
    by_cases c : at1 ≤ 128 * q + o ∧ 128 * q + o < en1
    · rw [if_pos c, if_pos ((hz o ho).mp c)]
    · rw [if_neg c, if_neg (fun w => c ((hz o ho).mpr w))])
  rcases w_direct (x := zpR (V b) (p - 128 * q) (min (e - 128 * q) 128)) hN1 hN hgr hu w2 h2 q1 q2 q3 hnt (by rw [cA_e]; exact x2) (by rw [cA_e]; exact x3) (by rw [rA_e]; exact x4) h48 with ⟨A2, R2, m2, z1, z2, z3, z4, z5, z6, z7, z8, z9⟩ | ⟨A2, R2, z1, z2, z3, z4, z5⟩
  · have kp2 : Kep D (sA D 42 x) R R2 := kp1.tr ⟨fun _ _ => rfl, fun _ _ => rfl, fun j hj => z9.1 j (by revert hj; revert j; decide), fun k hk => z9.2.1 k (by revert hk; revert k; decide)⟩
    have d1 : ∀ c, 43 ≤ c → c < 61 → vU V b (zpR (V b) (p - 128 * q) (min (e - 128 * q) 128)) c = V c := fun c c1 c2 => vU_n (by omega)
    have d2 : ∀ c, isT V c → vU V b (zpR (V b) (p - 128 * q) (min (e - 128 * q) 128)) c = V c := fun c hc => vU_n (fun e => hnt (by rw [← e]; exact hc))
    obtain ⟨-, f1', -, f3, -⟩ := h1.2.1.dep hN1 d1 d2
    refine Or.inl ⟨A2, sA D 42 x, R2, m2, _, ?_, ?_, ⟨⟨r, z3⟩, z4, h3.dep hN1 d1 d2, ⟨h4.1.keep (fun j hj => f1' j 0 hj), h4.2.keep (fun j hj => ⟨f1' j 0 hj, f1' j 1 hj⟩)⟩, by rw [cA_e]; exact x2, z6.trans h6, kp2.hr h7, kp2.fx h8 z8, fun zz => ?_⟩, by rw [f1' i 0 hir]; exact hk1, f3 i hir⟩
    · rw [bndF_l z1]
    · rw [bnd_o z2]
    · obtain ⟨l', l1, l3⟩ := h9 zz
      exact ⟨l', l1, fun c c1 c2 hc => l3 c c1 c2 (z5 c c1 c2 hc)⟩
  · have zd : Dd N R A2.1 R2 := z4.fq fA.1 (by decide) (by decide)
    refine Or.inr ⟨A2, sA D 42 x, R2, ?_, ?_, z3, h8.offT rfl (cA_n (by decide)) (by rw [cA_e]; exact x2) (cA_n (by decide)) (Dd.thr zd), ⟨R, Dd.thr zd, h1.1.2.kc⟩, z5⟩
    · rw [bndF_r z1]
    · rw [bnd_o z2]
theorem z_p216e {n : Nat} {x1 x5 : Int32} (h : en1 ≤ 128 * p) (hp : p < 5000) : e_punch_216 (n + 1) R x1 (nI at1) x5 (nI en1) (nI p) = bnd2 (e_committed R x5) (fun a b => some (a, b)) := by
  rw [e_punch_216, show (128 : Int32) = nI 128 from rfl, pk_mul, if_pos (nI_le h (by omega))]
theorem z_p216x {n : Nat} {x1 x5 : Int32} (h : en1 ≤ at1) (h2 : at1 < 2 ^ 31) (hp : p < 5000) : e_punch_216 (n + 1) R x1 (nI at1) x5 (nI en1) (nI p) = bnd2 (e_committed R x5) (fun a b => some (a, b)) := by
  rw [e_punch_216, if_pos (nI_le (a := en1) (b := at1) h h2)]
  split <;> rfl
theorem z_p216d {n : Nat} {x1 x2 x5 x8 x9 : Int32} (h : rS R 11 = 0) : e_punch_216 (n + 1) R x1 x2 x5 x8 x9 = some (0, setS R 0 2) := by
  rw [e_punch_216, if_pos h, com_off h]
  split
  · rfl
  · split <;> rfl
theorem z_p216s {x5 : Int32} (hN1 : 61 ≤ N) (hN : N ≤ 1024) (hy : RY N B gr R m V tk) (hw : PW N V) (hi : ir i) (hat : at1 < en1) (hen : en1 ≤ 400000) {n : Nat} : ∀ (d p : Nat), (∀ x, p ≤ x → x < p + d → pv V i (px x) = 0 ∧ 128 * x < en1) → e_punch_216 (n + d) R (nI i) (nI at1) x5 (nI en1) (nI p) = e_punch_216 n R (nI i) (nI at1) x5 (nI en1) (nI (p + d)) := by
  intro d
  induction d with
  | zero => intro p _; rfl
  | succ d ih =>
    intro p hp
    obtain ⟨h1, h2⟩ := hp p (Nat.le_refl _) (by omega)
    rw [← Nat.add_assoc, e_punch_216, show (128 : Int32) = nI 128 from rfl, pk_mul, if_neg (nI_ge (by omega) (by omega)), if_neg (nI_ge (by omega) (by omega)), if_neg hy.1.1.1.on, bnd_o (z_blk hN1 hN hy (hw.pto hi) hi.1 hi.2 (by omega)), h1, nI_0, i00, nI_1, ih (p + 1) (fun x x1 x2 => hp x (by omega) (by omega)), show p + 1 + d = p + (d + 1) by omega]
theorem c_blk0 {x3 : Int32} (h : e ≤ p) (hp : p < 2 ^ 31) : d_X3_blank N B gr A D x3 (nI p) (nI e) = some (.inl ((), A, D)) := by
  rw [d_X3_blank, if_pos (nI_le h hp), d_X3_blank_29, i00]
/-- the data behind the holes -/
theorem r_pt {n hc sz : Nat} (hN1 : 61 ≤ N) (hN : N ≤ 1024) (hgr : 1 ≤ gr) (hgr2 : gr ≤ 16) (hu : u + 5000 < 2 ^ 31) (h : WB N B gr u g hd hi tp tl A D R m V tk) (hir : ir i) (hk1 : f1 V i 0 = 1) (hat : at1 < min sz en) (hen : en ≤ 400000) (hsz : sz ≤ 400000) (ha : a = bfM at1) (hh : ∀ q, a ≤ q → q < min (bfM sz) (en / 128) → pv V i (px q) = 0) (hn : 4000 ≤ n) : Ret N B gr (u + 300) ex (if nI (en / 128 * 128) < nI (min (a * 128) en) then bndF (d_X10_finish N B gr A D) (fun v57 A57 D57 => some (.inl (nI hc, A57, D57))) else nm (nI (min sz en)) (fun v58 => bndF (d_X3_blank N B gr A D (nI i) (nI (en / 128 * 128)) v58) (fun v59 A59 D59 => bndF (d_X10_finish N B gr A59 D59) (fun v60 A60 D60 => some (.inl (nI hc, A60, D60)))))) (e_punch_216 n R (nI i) (nI at1) (nI hc) (nI (min sz en)) (nI a)) := by
  have plain : Ret N B gr (u + 300) ex (bndF (d_X10_finish N B gr A D) (fun v57 A57 D57 => some (.inl (nI hc, A57, D57)))) (bnd2 (e_committed R (nI hc)) (fun a b => some (a, b))) := (h.fin (ex := ex) hN1 hN hgr hgr2 (by omega)).up (by omega)
  obtain ⟨r, h1⟩ := h.1
  have hbf : bfM sz < 4168 := by
    unfold bfM
    omega
  have ha4 : a < 4168 := by
    unfold bfM at ha
    omega
  by_cases c : en / 128 * 128 < min (a * 128) en
  · obtain ⟨k, rfl⟩ : ∃ k, n = k + 1 := ⟨n - 1, by omega⟩
    rw [if_pos (nI_lt c (by omega)), z_p216e (by omega) (by omega)]
    exact plain
  · rw [if_neg (nI_nlt (by omega) (by omega)), nm_o]
    have hlo : a ≤ en / 128 := by
      unfold bfM at ha
      omega
    have h5 : en / 128 ≤ 3125 := by omega
    by_cases c2 : min sz en ≤ en / 128 * 128
    · have z0 : ∀ x, a ≤ x → x < a + (bfM (min sz en) - a) → pv V i (px x) = 0 ∧ 128 * x < min sz en := fun x x1 x2 => by
        have b1 : bfM (min sz en) ≤ en / 128 := by
          unfold bfM
          omega
        have b2 : bfM (min sz en) ≤ bfM sz := by
          unfold bfM
          omega
        refine ⟨hh x x1 (by omega), ?_⟩
        unfold bfM at x2
        omega
      have b3 : bfM (min sz en) < 3200 := by
        unfold bfM
        omega
      have b4 : min sz en ≤ 128 * (a + (bfM (min sz en) - a)) := by
        unfold bfM
        omega
      obtain ⟨k, rfl⟩ : ∃ k, n = k + 1 + (bfM (min sz en) - a) := ⟨n - 1 - (bfM (min sz en) - a), by omega⟩
      rw [c_blk0 c2 (by omega), bndF_l rfl, z_p216s hN1 hN h1.1.2 h1.2.1.1 hir hat (by omega) _ a z0, z_p216e b4 (by omega)]
      exact plain
    · have hq4 : en / 128 < 4168 := by omega
      have hq2 : en / 128 < bfM sz := by
        unfold bfM
        omega
      obtain ⟨k, rfl⟩ : ∃ k, n = k + 2 + (en / 128 - a) := ⟨n - 2 - (en / 128 - a), by omega⟩
      obtain ⟨b1, b2⟩ := j_blk (D2 := D) hN1 hN h1.1 h1.2.1.1 hir hq4
      rw [z_p216s hN1 hN h1.1.2 h1.2.1.1 hir hat (by omega) _ a (fun x x1 x2 => ⟨hh x x1 (by omega), by omega⟩), show a + (en / 128 - a) = en / 128 by omega, d_X3_blank, if_neg (nI_ge (by omega) (by omega)), q_dv _ (by omega), show en / 128 * 128 / 128 = en / 128 by omega, bnd_o b1, e_punch_216, show (128 : Int32) = nI 128 from rfl, pk_mul, if_neg (nI_ge (by omega) (by omega)), if_neg (nI_ge (by omega) (by omega)), if_neg h1.1.2.1.1.1.on, bnd_o b2]
      by_cases p0 : pv V i (px (en / 128)) = 0
      · rw [p0, nI_0, d_X3_blank_29, i00, i00, nI_1, z_p216e (by omega) (by omega), bndF_l rfl]
        exact plain
      · have hN2 := ((h1.2.1.1.pto hir _ (px_lt hq4)).resolve_left p0).2.1
        rw [if_neg (show ¬ nI (pv V i (px (en / 128))) = 0 from nI_ne0 (by omega) (by omega))]
        rcases w_blk (x5 := nI hc) (sf := e_punch_216 (k + 1)) (p := en / 128 * 128) (e := min sz en) (at1 := at1) (en1 := min sz en) hN1 hN hgr (by omega) h hir hk1 hq4 rfl p0 (by omega) (by omega) (by omega) (by omega) (by omega) (by omega) (fun o ho => by unfold bfM at ha; omega) with ⟨A', D', R', m', x, w1, w2, w3, -⟩ | ⟨A', D', R', w1, w2, w3, w4⟩
        · rw [bndF_l w1, w2, z_p216e (by omega) (by omega)]
          exact (w3.fin (ex := ex) hN1 hN hgr hgr2 (by omega)).up (by omega)
        · rw [bndF_r w1, w2, z_p216d w3]
          exact Or.inr (Or.inl ⟨A', D', _, _, rfl, rfl, rS_0, w4.up (by omega)⟩)
theorem r_punch {a0 a1 a2 : Int32} (hN1 : 61 ≤ N) (hN : N ≤ 1024) (hgr : 1 ≤ gr) (hgr2 : gr ≤ 16) (hu : u + 9000 < 2 ^ 31) (h : IM N B gr u g A D R m V tk hd hi tp tl) (hL : LH V hd hi := by assumption) : Ret N B gr (u + 1000) ex (d_X11_punch N B gr A D a0 a1 a2) (e_punch R a0 a1 a2) := by
  obtain ⟨n1, R1, n2, h1, ot, t0, -, -⟩ := h.nm hN
  rw [d_X11_punch, bndF_l n1, e_punch, bnd2_o n2, i00]
  rcases j_file (a0 := a0) (D2 := D) hN1 hN h1.1 h1.2.1 with ⟨i, hir, rfl, hk1, k1, k2⟩ | ⟨k1, k2⟩ | ⟨k1, k2⟩
  · rw [bnd_o k1, bnd_o k2, if_pos (show (0 : Int32) ≤ 0 by decide), if_pos (show (1 : Int32) = 1 from rfl)]
    by_cases c1 : a1 < 0
    · rw [if_pos c1, if_pos c1]
      exact Ret.ok h1 (by omega) t0 rfl rfl
    rw [if_neg c1, if_neg c1]
    by_cases c2 : a2 < 0
    · rw [if_pos c2, if_pos c2]
      exact Ret.ok h1 (by omega) t0 rfl rfl
    rw [if_neg c2, if_neg c2]
    obtain ⟨at1, hat, rfl⟩ := nI_of c1
    obtain ⟨cn, hcn, rfl⟩ := nI_of c2
    by_cases c3 : at1 + cn ≤ 400000
    · rw [if_pos ((lg_400 hat hcn).mpr c3), if_pos ((lg_400 hat hcn).mpr c3), nI_add]
      obtain ⟨en, hen⟩ : ∃ en, en = at1 + cn := ⟨_, rfl⟩
      rw [← hen] at c3 ⊢
      have hz := h1.2.1.pz hir
      have hsz := hz.1
      obtain ⟨a, ha⟩ : ∃ a, a = bfM at1 := ⟨_, rfl⟩
      obtain ⟨e, he⟩ : ∃ e, e = min (bfM (szM V i)) (en / 128) := ⟨_, rfl⟩
      have C : CutH N V i := ⟨hN1, hN, hir.1, hir.2, h1.2.1.1.1, h1.1.nr, h1.2.1.1.pj hir⟩
      have tc := c_tellT (D := D) (a := a) (t := en / 128) (e := e) C h1.1.1 (h1.1.byt 43 (Nat.le_refl _) (by omega)) hz (by unfold bfM at ha; omega) (by omega) he
      have ha8 : at1 / 128 ≤ a := by
        unfold bfM at ha
        omega
      have tr : e_tablesPunched R1 (nI i) (nI at1) (nI (min (szM V i) en)) (nI en) = some (nI (tpN V i (max a 8) e)) := by
        have q := z_tell (at1 := at1) (en := en) (sz := szM V i) (a := a) (e := e) (s := max a 8) hN1 hN h1.1.2 h1.2.1.1 hir (by omega) c3 hsz ha he rfl fuL (at1 / 128) (-1) (Nat.le_refl _) (by omega) (by rw [fuL_4]; omega) (Or.inl ⟨rfl, fun x x1 x2 => by omega⟩)
        rw [tpN_0 _ (by omega), nI_0] at q
        rw [e_tablesPunched, q_dv at1 (by omega)]
        exact q
      obtain ⟨s1, s2⟩ := j_size (D2 := D) hN1 hN h1.1 hir
      rw [bnd_o (d_bF (by omega)), ← ha, q_dv en (by omega), bnd_o tc, bnd_o s2]
      have ref : (if nI (szM V i) ≤ nI en then bnd (e_tablesPunched R1 (nI i) (nI at1) (nI (szM V i)) (nI en)) (fun v143 => if v143 ≤ (32 : Int32) then e_punch_110 fuL R1 (nI i) (nI at1) (0 : Int32) (nI (szM V i)) (nI en) (nI at1 / (128 : Int32)) else some ((-12 : Int32), R1)) else bnd (e_tablesPunched R1 (nI i) (nI at1) (nI en) (nI en)) (fun v144 => if v144 ≤ (32 : Int32) then e_punch_110 fuL R1 (nI i) (nI at1) (0 : Int32) (nI (szM V i)) (nI en) (nI at1 / (128 : Int32)) else some ((-12 : Int32), R1))) = if nI (tpN V i (max a 8) e) ≤ (32 : Int32) then e_punch_110 fuL R1 (nI i) (nI at1) (0 : Int32) (nI (szM V i)) (nI en) (nI (at1 / 128)) else some ((-12 : Int32), R1) := by
        rw [q_dv at1 (by omega)]
        by_cases c : szM V i ≤ en
        · rw [show min (szM V i) en = szM V i by omega] at tr
          rw [if_pos (nI_le c (by omega)), bnd_o tr]
        · rw [show min (szM V i) en = en by omega] at tr
          rw [if_neg (nI_ge (by omega) (by omega)), bnd_o tr]
      rw [ref]
      have tle := tpN_le (V := V) (i := i) (s := max a 8) e
      have he4 : e ≤ 3200 := by omega
      by_cases c4 : tpN V i (max a 8) e ≤ 32
      · have z4 : nI (tpN V i (max a 8) e) ≤ (32 : Int32) := nI_le (b := 32) c4 (by decide)
        rw [if_pos z4, if_pos z4]
        obtain ⟨A', D', R', m', W, tk', b1, b2, b3, b4, b5, b6, b7, b8, b9⟩ := w_punch (at1 := at1) (en := en) (a := a) (e := e) hN1 hN (h1.wk hN1 (by omega) ot) hir hk1 (by omega) c3 ha he
        obtain ⟨s3, s4⟩ := j_size (D2 := D') hN1 hN b3.1 hir
        have hkW : f1 W i 0 = 1 := by rw [(b7 i hir).1]; exact hk1
        rw [(b7 i hir).2.2] at s3
        rw [bnd3_o b1, bnd_o s3, b2]
        have em : (if nI a * 128 < nI en then nI a * 128 else nI en) = nI (min (a * 128) en) := by
          rw [show (128 : Int32) = nI 128 from rfl, pk_mul]
          by_cases c : a * 128 < en
          · rw [if_pos (nI_lt c (by omega)), show min (a * 128) en = a * 128 by omega]
          · rw [if_neg (nI_nlt (by omega) (by unfold bfM at ha; omega)), show min (a * 128) en = en by omega]
        have em2 : ∀ x, x ≤ 400000 → (if nI (szM V i) < nI x then nI (szM V i) else nI x) = nI (min (szM V i) x) := fun x hx => by
          by_cases c : szM V i < x
          · rw [if_pos (nI_lt c (by omega)), show min (szM V i) x = szM V i by omega]
          · rw [if_neg (nI_nlt (by omega) (by omega)), show min (szM V i) x = x by omega]
        rw [em, em2 en c3, nm_o, em2 _ (by omega), nm_o, show nI (en / 128) * 128 = nI (en / 128 * 128) by rw [show (128 : Int32) = nI 128 from rfl, pk_mul]]
        have hWF : WF N W := h1.2.1.keep b3.2.1 (fun _ _ => rfl) (fun j hj => ⟨(b7 j hj).1, (b7 j hj).2.1⟩) (fun d hd2 kd => (b7 d hd2).2.2) (fun d s hd2 kd hs => b8 d s hd2 kd hs)
        have hHd : HdW W hd hi := h1.2.2.2.2.2.2.1.keep (fun j hj => (b7 j hj).1)
        have kp : Kep D D' R1 R' := Kep.of b5 b6.1 (by decide) (by decide)
        have wb : WB N B gr u g hd hi tp tl A' D' R' m' W tk' := by
          refine ⟨⟨_, b3.rb⟩, b3.now hN1 h1.bs, hWF, ⟨hHd, hL.keep (fun j hj => ⟨(b7 j hj).1, (b7 j hj).2.1⟩)⟩, h1.y42 b5, b4.trans h1.2.2.2.2.2.2.2.2.1, kp.hr h1.2.2.2.2.2.1, kp.fx h1.2.2.2.2.2.2.2.1 ?_, h1.cg b3 ?_⟩
          · rw [b6.1.2.1 48 (by decide)]
            exact h1.2.2.2.2.2.2.2.1.2.2.2.2.2.2.2
          · rw [List.append_nil]
            have : (43 :: homeM i :: tpL V i (max a 8) e).length = tpN V i (max a 8) e + 2 := rfl
            omega
        have hb9 : ∀ q, a ≤ q → q < min (bfM (szM V i)) (en / 128) → pv W i (px q) = 0 := fun q q1 q2 => b9 q q1 (by omega)
        by_cases c5 : min (szM V i) en ≤ at1
        · have x1 : min (szM V i) (min (a * 128) en) ≤ at1 := by omega
          obtain ⟨k, hk⟩ : ∃ k, fuL = k + 1 := ⟨3999999, fuL_4⟩
          rw [c_blk0 x1 hat, bndF_l rfl, hk, z_p216x c5 hat (by omega)]
          have pl := (wb.fin (ex := ex) (v := nI (ncM V i a e)) hN1 hN hgr hgr2 (by omega)).up (u' := u + 1000) (by omega)
          by_cases c6 : en / 128 * 128 < min (a * 128) en
          · rw [if_pos (nI_lt c6 (by omega))]
            exact pl
          · rw [if_neg (nI_nlt (by omega) (by omega)), nm_o, c_blk0 (by unfold bfM at ha; omega) (by omega), bndF_l rfl]
            exact pl
        · by_cases c6 : at1 % 128 = 0
          · have ea : a = at1 / 128 := by
              unfold bfM at ha
              omega
            rw [c_blk0 (by omega) hat, bndF_l rfl, ← ea]
            exact (r_pt hN1 hN hgr hgr2 (by omega) wb hir hkW (by omega) c3 hsz ha hb9 (by rw [fuL_4]; omega)).up (by omega)
          · have ea : a = at1 / 128 + 1 := by
              unfold bfM at ha
              omega
            have hq4 : at1 / 128 < 4168 := by omega
            obtain ⟨d1, d2⟩ := j_blk (D2 := D') hN1 hN b3.1 b3.2.1.1 hir hq4
            obtain ⟨k, hk, hk4⟩ : ∃ k, fuL = k + 1 ∧ 4000 ≤ k := ⟨3999999, fuL_4, by decide⟩
            rw [d_X3_blank, if_neg (nI_ge (by omega) (by omega)), q_dv at1 (by omega), bnd_o d1, hk, e_punch_216, show (128 : Int32) = nI 128 from rfl, pk_mul, if_neg (nI_ge (by omega) (by omega)), if_neg (nI_ge (by omega) (by omega)), if_neg b3.1.2.1.1.1.on, bnd_o d2]
            by_cases p0 : pv W i (px (at1 / 128)) = 0
            · rw [p0, nI_0, d_X3_blank_29, i00, i00, nI_1, bndF_l rfl, ← ea]
              exact (r_pt hN1 hN hgr hgr2 (by omega) wb hir hkW (by omega) c3 hsz ha hb9 hk4).up (by omega)
            · have hN2 := ((b3.2.1.1.pto hir _ (px_lt hq4)).resolve_left p0).2.1
              rw [if_neg (show ¬ nI (pv W i (px (at1 / 128))) = 0 from nI_ne0 (by omega) (by omega))]
              rcases w_blk (x5 := nI (ncM V i a e)) (sf := e_punch_216 k) (p := at1) (e := min (szM V i) (min (a * 128) en)) (at1 := at1) (en1 := min (szM V i) en) hN1 hN hgr (by omega) wb hir hkW hq4 rfl p0 (by omega) (by omega) (by omega) (by omega) (by omega) (by omega) (fun o ho => by omega) with ⟨A2, D2, R2, m2, x, w1, w2, w3, w4, w5⟩ | ⟨A2, D2, R2, w1, w2, w3, w4⟩
              · rw [bndF_l w1, w2, ← ea]
                exact (r_pt hN1 hN hgr hgr2 (by omega) w3 hir w4 (by omega) c3 hsz ha (fun q q1 q2 => by rw [w5 _ (px_lt (by unfold bfM at q2; omega))]; exact hb9 q q1 q2) hk4).up (by omega)
              · obtain ⟨k', rfl⟩ : ∃ k', k = k' + 1 := ⟨k - 1, by omega⟩
                rw [bndF_r w1, w2, z_p216d w3]
                exact Or.inr (Or.inl ⟨A2, D2, _, _, rfl, rfl, rS_0, w4.up (by omega)⟩)
      · have z4 : ¬ nI (tpN V i (max a 8) e) ≤ (32 : Int32) := nI_ge (b := tpN V i (max a 8) e) (a := 32) (by omega) (by omega)
        rw [if_neg z4, if_neg z4]
        exact Ret.ok h1 (by omega) t0 rfl rfl
    · have z3 := fun z => c3 ((lg_400 hat hcn).mp z)
      rw [if_neg z3, if_neg z3]
      exact Ret.ok h1 (by omega) t0 rfl rfl
  · rw [bnd_o k1, bnd_o k2, if_neg (show ¬ (0 : Int32) ≤ -11 by decide), if_neg (show ¬ (0 : Int32) = 1 by decide), i00]
    exact Ret.ok h1 (by omega) t0 rfl rfl
  · rw [bnd_o k1, bnd_o k2, if_neg (show ¬ (0 : Int32) ≤ -4 by decide), if_neg (show ¬ (2 : Int32) = 1 by decide), if_neg (show ¬ (2 : Int32) = 0 by decide)]
    exact Ret.ok h1 (by omega) t0 rfl rfl
end PZC
