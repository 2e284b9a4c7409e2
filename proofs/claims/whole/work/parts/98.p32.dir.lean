/-! ===== pure: the reference commits and flushes, writes a block directly ===== -/
section PVI
variable {R : RfT} {N B gr : Nat}
theorem MOk.cq {m : M5} {V : Nat → Rw} {tk : Nat → Bool} (hm : MOk N B m) (hch : rsC (isS (chQ N m V tk)) 1 N ≤ 40) : MOk N B (cmQ N m V tk) := by
  obtain ⟨h1, h2, h3, h4, h5⟩ := hm
  unfold cmQ
  by_cases c : rsC (isS (chQ N m V tk)) 1 N = 0
  · rw [if_pos c]
    exact ⟨h1, h2, h3, h4, h5⟩
  · rw [if_neg c]
    refine ⟨h1, h2, h3, fun q hq b x e => ?_, fun q hq => ?_⟩
    · rcases List.mem_append.mp hq with z | z
      · exact h4 q z b x e
      · rw [List.mem_singleton.mp z] at e
        exact (chQ_iff.mp (by rw [e]; exact Option.some_ne_none x)).1
    · rcases List.mem_append.mp hq with z | z
      · exact h5 q z
      · rw [List.mem_singleton.mp z]
        unfold bJoin
        rw [bList_len]
        refine Nat.le_trans (rsC_mono (fun b e => ?_) N) hch
        have e := isS_1.mp e
        refine isS_1.mpr (fun y => e ?_)
        show (match chQ N m V tk b with | some x => some x | none => lVal [] b) = none
        rw [y]
        rfl
/-- a commit: dead, and where the state is -/
def cmD (N B gr : Nat) (m : M5) (V : Nat → Rw) (tk : Nat → Bool) : Prop := ¬ rsC (isS (chQ N m V tk)) 1 N = 0 ∧ (cmQ N m V tk).2.2.2.1.length = gr ∧ (flO2 N B (cmQ N m V tk)).1 = false
noncomputable def cmM (N B gr : Nat) (m : M5) (V : Nat → Rw) (tk : Nat → Bool) : M5 := if rsC (isS (chQ N m V tk)) 1 N = 0 then cmQ N m V tk else if (cmQ N m V tk).2.2.2.1.length = gr then flM N B (cmQ N m V tk) else cmQ N m V tk
theorem y_commit {m : M5} {V : Nat → Rw} {tk : Nat → Bool} (hN1 : 61 ≤ N) (hN : N ≤ 1024) (h : RY N B gr R m V tk) (hm : MOk N B m) (hqg : m.2.2.2.1.length < gr) (hgr : gr ≤ 16) (hch : rsC (isS (chQ N m V tk)) 1 N ≤ 40) (h34 : rS R 34 = 0) (hsp : hSp m.1 + 1800 < 2 ^ 31) : ∃ R', e_commit R = some R' ∧ ((¬ cmD N B gr m V tk ∧ RY N B gr R' (cmM N B gr m V tk) V (fun _ => false) ∧ Fq [33, 29, 47, 22, 25, 9, 10, 12, 13, 14, 18, 20] [26, 27, 28, 43, 36, 35, 37, 46, 23, 24, 38, 44, 45, 6, 7, 8, 15, 17, 39, 40] R R' ∧ ∀ b, b < 1024 → rA R' 36 b = -1) ∨ (cmD N B gr m V tk ∧ Dd N R (flO2 N B (cmQ N m V tk)).2.1 R')) := by
  obtain ⟨R1, e, x, f, n36⟩ := y_commitQ hN1 hN h hqg hgr hch
  rw [e_commit, if_neg h.1.1.1.on, if_pos h34, e]
  unfold cmD cmM
  have fw := f.1.wk (S' := [33, 29, 47, 22, 25, 9, 10, 12, 13, 14, 18, 20]) (T' := [26, 27, 28, 43, 36, 35, 37, 46, 23, 24, 38, 44, 45, 6, 7, 8, 15, 17, 39, 40]) (by decide) (by decide)
  by_cases c : rsC (isS (chQ N m V tk)) 1 N = 0
  · rw [if_pos c, if_pos c]
    exact ⟨R1, rfl, Or.inl ⟨fun z => z.1 c, x, fw, n36⟩⟩
  · rw [if_neg c, if_neg c, cmE]
    have hl : (cmQ N m V tk).2.2.2.1.length = m.2.2.2.1.length + 1 := by
      unfold cmQ
      rw [if_neg c]
      show (m.2.2.2.1 ++ [chQ N m V tk]).length = _
      rw [List.length_append]
      rfl
    have h1w : (cmQ N m V tk).1 = m.1 := by
      unfold cmQ
      rw [if_neg c]
    rw [x.1.1.2.2.1.1, x.1.1.2.2.2.2.2.2.2]
    by_cases c2 : (cmQ N m V tk).2.2.2.1.length = gr
    · rw [if_pos (by rw [c2]), if_pos c2]
      obtain ⟨v, R2, e2, o2⟩ := RX.flush hN1 hN x.1 (hm.cq hch) (by rw [h1w]; omega)
      rw [bnd2_o e2]
      rcases o2 with ⟨a1, a2, a3, a4⟩ | ⟨a1, a2⟩
      · refine ⟨R2, rfl, Or.inl ⟨(fun z => by rw [a1] at z; cases z.2.2), ⟨a3, fun d hd hne => ?_, x.2.2⟩, fw.tr (a4.wk (by decide) (by decide)), fun b hb => by rw [a4.2.1 36 (by decide)]; exact n36 b hb⟩⟩
        rw [(wOw_fq a4 (by decide) (by decide) (by decide)).1] at hne
        exact x.2.1 d hd hne
      · exact ⟨R2, rfl, Or.inr ⟨⟨c, c2, a1⟩, a2.fq fw (by decide) (by decide)⟩⟩
    · rw [if_neg (fun z => c2 (nI_inj (by omega) (by omega) z)), if_neg c2]
      exact ⟨R1, rfl, Or.inl ⟨fun z => c2 z.2.1, x, fw, n36⟩⟩
/-- a block is put -/
def plO (N B : Nat) (m : M5) (b : Nat) (x : Rw) : Bool × M5 := ((aPl N B b x m.1).1, (aPl N B b x m.1).2, m.2)
def drF (m : M5) (b : Nat) : Prop := qVal m.2.2.2.1 b = none ∧ lVal m.2.1 b = none
noncomputable def drO (N B : Nat) (m : M5) (b : Nat) (x : Rw) : Bool × M5 := @ite _ (drF m b) (Classical.propDecidable _) (plO N B m b x) (if (flO2 N B m).1 = true then (if (aApl N B (flM N B m).2.1 (flM N B m).2.2.1 (flM N B m).1).1 = true then plO N B (apM N B (flM N B m)) b x else (false, apM N B (flM N B m))) else (false, flM N B m))
theorem Dd.a44 {R0 : RfT} {o : Hw} {g : Nat → Int32} (h : Dd N R0 o R) (hg : Byt g) : Dd N R0 o (setA R 44 g) := by
  obtain ⟨h1, h2, B, h3, h4⟩ := h
  exact ⟨h1, h2, B, rOk_44 h3 hg, h4⟩
theorem Dd.hand {R0 : RfT} {o : Hw} {t : Nat} (h : Dd N R0 o R) (ht : t < 1024) : e_hand_79 R (nI t) 0 = some R := by
  obtain ⟨h1, h2, B, h3, -⟩ := h
  rw [e_hand_79, gd_t ⟨⟨B, h3⟩, nI_in ht (by decide), rfl⟩, rHand, if_pos h1.1]
theorem Dd.apply {R0 : RfT} {o : Hw} (h : Dd N R0 o R) : e_applyLog R = some R := by
  rw [e_applyLog, if_pos h.1.1]
  by_cases c : rS R 25 = 0
  · rw [if_pos c]
  · rw [if_neg c]
theorem plO_bef {m : M5} {b : Nat} {x : Rw} (hk : HOk N B m.1) (hp : (plO N B m b x).1 = true) (hd : drF m b) {u : Nat} : befM (plO N B m b x).2 u = if u = b then x else befM m u := by
  unfold befM plO befV
  show oSee (qVal m.2.2.2.1 u) (oSee (lVal m.2.1 u) (hSee (aPl N B b x m.1).2 u)) = _
  rw [aPl_see hk hp]
  by_cases c : u = b
  · rw [if_pos c, if_pos c, c, hd.1, hd.2]
    rfl
  · rw [if_neg c, if_neg c]
theorem y_hand {m : M5} {V : Nat → Rw} {tk : Nat → Bool} {b : Nat} {x : Rw} (hN : N ≤ 1024) (hk : HOk N B m.1) (h : RY N B gr R m V tk) (hb0 : 43 ≤ b) (hb : b < N) (ho : wOw R b = none) (hb44 : 44 ≤ b) (hd : drF m b) (hx : nr (rA R 44) = x) (hsp : hSp m.1 + 1 < 2 ^ 31) : ∃ R', e_hand_79 R (nI b) 0 = some R' ∧ (((plO N B m b x).1 = true ∧ RY N B gr R' (plO N B m b x).2 (vU V b x) tk ∧ Fq [9, 10, 12, 13, 14, 18, 20] [6, 7, 8, 15, 17, 39, 40] R R') ∨ ((plO N B m b x).1 = false ∧ Dd N R (plO N B m b x).2.1 R')) := by
  obtain ⟨⟨h1, h2, h3, h4, h5, h6, h7, h8⟩, hv⟩ := id h.1
  refine ⟨_, e_hand79 hN h1 h5 (by omega), ?_⟩
  rcases z_hand79 hN h1 h5 hb hsp h1.b44 hx with ⟨a1, a2, a3⟩ | ⟨a1, a2⟩
  · have hm' : RMw N B gr (rHand R 44 0 b) (plO N B m b x).2 := ⟨a2, h2.fq a3 (by decide) (by decide) (by decide) (by decide) (by decide), h3.fq a3 (by decide) (by decide) (by decide) (by decide) (by decide), h4.fq a3 (by decide), h5.fq a3 (by decide) (by decide) (by decide) (by decide) (by decide), by rw [a3.2.1 46 (by decide)]; exact h6, by rw [a3.1 1 (by decide)]; exact h7, by rw [a3.1 3 (by decide)]; exact h8⟩
    obtain ⟨o1, o2⟩ := wOw_fq a3 (by decide) (by decide) (by decide)
    have e43 : vU V b x 43 = V 43 := vU_n (by omega)
    refine Or.inl ⟨a1, ⟨⟨hm', fun c hc0 hc => ?_⟩, fun c hc hne => by rw [e43]; rw [o1] at hne; exact h.2.1 c hc hne, by rw [e43]; exact h.2.2⟩, a3⟩
    rw [rSee_t, o1, o2, hm'.bef hN hc, plO_bef hk a1 hd]
    obtain ⟨w1, w2⟩ := h.1.own hN hc0 hc
    by_cases cc : c = b
    · rw [if_pos cc, cc, ho, vU_s]
      rw [cc] at w2
      exact ⟨rfl, w2⟩
    · rw [if_neg cc, vU_n cc]
      exact ⟨w1, w2⟩
  · exact Or.inr ⟨a1, a2⟩
theorem z_mvD_l : ∀ (m k : Nat) (X : RfT) (g : Nat → Int32), k ≤ 128 → 128 - k < m → X = setA R 44 g → Byt g → ∃ g', e_move_82_79_3 m X 0 0 (nI k) = some (setA R 44 g') ∧ Byt g' := by
  intro m
  induction m with
  | zero => intro k _ _ _ h; exact absurd h (Nat.not_lt_zero _)
  | succ m ih =>
    intro k X g hk hm hX hg
    rw [e_move_82_79_3]
    by_cases c : k = 128
    · rw [c, if_pos (show (128 : Int32) ≤ nI 128 from nI_le (a := 128) (b := 128) (by decide) (by decide))]
      exact ⟨g, by rw [hX], hg⟩
    · rw [if_neg (show ¬ (128 : Int32) ≤ nI k from nI_ge (a := k) (b := 128) (by omega) (by decide)), show (0 : Int32) = nI 0 from rfl, nI_add, ld_n (by omega) (by decide), st_n (by omega) (by decide), nI_1]
      exact ih (k + 1) _ (upd g (0 + k) (vp_nar .byte (rA X 48 (0 + k)))) (by omega) (by omega) (by rw [hX, rA_e, setA_A]) hg.upd8
theorem z_mvD (h : Byt (rA R 44)) : ∃ g, e_move_82_79 R 0 0 = some (setA R 44 g) ∧ Byt g := by
  rw [e_move_82_79]
  exact z_mvD_l fuL 0 R (rA R 44) (Nat.zero_le _) (by rw [fuL_4]; omega) setA_id.symm h
theorem RY.a44 {m : M5} {V : Nat → Rw} {tk : Nat → Bool} {g : Nat → Int32} (h : RY N B gr R m V tk) (hg : Byt g) : RY N B gr (setA R 44 g) m V tk := by
  obtain ⟨⟨⟨h1, h2, h3, h4, h5, h6, h7, h8⟩, hv⟩, hu, ho⟩ := h
  have f : Fq [] [44] R (setA R 44 g) := Fq.a (by decide)
  exact ⟨⟨⟨h1.a44 hg, h2, h3, h4, h5, h6, h7, h8⟩, fun c hc0 hc => by rw [rSee_fq f (by decide)]; exact hv c hc0 hc⟩, hu, ho⟩
theorem mFl_all (hN1 : 61 ≤ N) : ∀ (k : Nat) (qs : List QC) (hw : Hw) (L : List En) (tu : Int32), (∀ q ∈ qs, ∀ b x, q b = some x → 43 ≤ b) → HOk N B hw → LgD hw L → L.length ≤ 40 → (mFl N B k qs (hw, L, tu)).1 = true → HOk N B (mFl N B k qs (hw, L, tu)).2.1 ∧ LgD (mFl N B k qs (hw, L, tu)).2.1 (mFl N B k qs (hw, L, tu)).2.2.1 ∧ (mFl N B k qs (hw, L, tu)).2.2.1.length ≤ 40 ∧ hSp (mFl N B k qs (hw, L, tu)).2.1 ≤ hSp hw + 100 * k
  | 0, qs, hw, L, tu, _, ho, hd, hL, _ => ⟨ho, hd, hL, Nat.le_refl _⟩
  | k + 1, [], hw, L, tu, _, ho, hd, hL, _ => ⟨ho, hd, hL, Nat.le_add_right _ _⟩
  | k + 1, q :: qs, hw, L, tu, h43, ho, hd, hL, ht => by
    have b43 := qFill_43 (N := N) (q :: qs) [] (fun p hp => absurd hp List.not_mem_nil) h43
    obtain ⟨b40, -⟩ := qFill_40 (N := N) (q :: qs) [] (by decide) (fun p hp => absurd hp List.not_mem_nil)
    have hsub : ∀ (qs : List QC) (bt : List En), ∀ x ∈ (qFill N qs bt).2, x ∈ qs := fun qs => by
      induction qs with
      | nil => intro bt x hx; exact hx
      | cons q qs ih =>
        intro bt x hx
        by_cases c : (bJoin N bt q).length ≤ 40
        · rw [qFill_t c] at hx
          exact List.mem_cons_of_mem _ (ih _ x hx)
        · rw [qFill_f c] at hx
          exact hx
    have hs2 := hsub (q :: qs) []
    generalize hbt : (qFill N (q :: qs) []).1 = bt at *
    generalize hr : (qFill N (q :: qs) []).2 = rest at *
    have e : mFl N B (k + 1) (q :: qs) (hw, L, tu) = if (mStep N B bt (hw, L, tu)).1 = true then mFl N B k rest (mStep N B bt (hw, L, tu)).2 else mStep N B bt (hw, L, tu) := by
      show (if (mStep N B (qFill N (q :: qs) []).1 (hw, L, tu)).1 = true then mFl N B k (qFill N (q :: qs) []).2 (mStep N B (qFill N (q :: qs) []).1 (hw, L, tu)).2 else mStep N B (qFill N (q :: qs) []).1 (hw, L, tu)) = _
      rw [hbt, hr]
    rw [e] at ht ⊢
    by_cases c : (mStep N B bt (hw, L, tu)).1 = true
    · rw [if_pos c] at ht ⊢
      obtain ⟨s1, s2, s3⟩ := mStep_all (B := B) hN1 ho hd hL b40 b43 c
      have hl2 : (mStep N B bt (hw, L, tu)).2.2.1.length ≤ 40 := by
        by_cases c4 : 40 < L.length + bt.length
        · obtain ⟨q1, q2, q3, q4⟩ := aApl_all (B := B) (tu := tu) hN1 ho hd
          cases ha : (aApl N B L tu hw).1 with
          | false =>
            rw [mStep_a1 c4 ha] at c
            cases c
          | true =>
            rw [mStep_a2 c4 ha]
            show ((lApl L tu).1 ++ bt).length ≤ 40
            rw [List.length_append]
            omega
        · rw [mStep_b c4]
          show (L ++ bt).length ≤ 40
          rw [List.length_append]
          omega
      obtain ⟨i1, i2, i3, i4⟩ := mFl_all hN1 k rest (mStep N B bt (hw, L, tu)).2.1 (mStep N B bt (hw, L, tu)).2.2.1 (mStep N B bt (hw, L, tu)).2.2.2 (fun q' hq' => h43 q' (hs2 q' hq')) s1 s2 hl2 ht
      have i4 : hSp (mFl N B k rest (mStep N B bt (hw, L, tu)).2).2.1 ≤ hSp (mStep N B bt (hw, L, tu)).2.1 + 100 * k := i4
      exact ⟨i1, i2, i3, by omega⟩
    · rw [if_neg c] at ht
      exact absurd ht c
theorem flM_ok {m : M5} (hN1 : 61 ≤ N) (hm : MOk N B m) (ht : (flO2 N B m).1 = true) : MOk N B (flM N B m) := by
  obtain ⟨i1, i2, i3, i4⟩ := mFl_all (B := B) hN1 m.2.2.2.1.length m.2.2.2.1 m.1 m.2.1 m.2.2.1 hm.2.2.2.1 hm.1 hm.2.1 hm.2.2.1 ht
  exact ⟨i1, i2, i3, fun q hq => absurd hq List.not_mem_nil, fun q hq => absurd hq List.not_mem_nil⟩
theorem flM_sp {m : M5} (hN1 : 61 ≤ N) (hm : MOk N B m) (ht : (flO2 N B m).1 = true) : hSp (flM N B m).1 ≤ hSp m.1 + 100 * m.2.2.2.1.length := (mFl_all (B := B) hN1 m.2.2.2.1.length m.2.2.2.1 m.1 m.2.1 m.2.2.1 hm.2.2.2.1 hm.1 hm.2.1 hm.2.2.1 ht).2.2.2
theorem apM_ok {m : M5} (hN1 : 61 ≤ N) (hm : MOk N B m) : MOk N B (apM N B m) := by
  obtain ⟨q1, q2, q3, q4⟩ := aApl_all (B := B) (tu := m.2.2.1) hN1 hm.1 hm.2.1
  exact ⟨q1, q3, by show (lApl m.2.1 m.2.2.1).1.length ≤ 40; omega, hm.2.2.2.1, hm.2.2.2.2⟩
theorem apM_sp {m : M5} (hN1 : 61 ≤ N) (hm : MOk N B m) : hSp (apM N B m).1 ≤ hSp m.1 + 41 := by
  obtain ⟨q1, q2, q3, q4⟩ := aApl_all (B := B) (tu := m.2.2.1) hN1 hm.1 hm.2.1
  have := hm.2.2.1
  show hSp (aApl N B m.2.1 m.2.2.1 m.1).2 ≤ _
  omega
theorem y_direct {m : M5} {V : Nat → Rw} {tk : Nat → Bool} {b : Nat} {x : Rw} (hN1 : 61 ≤ N) (hN : N ≤ 1024) (h : RY N B gr R m V tk) (hm : MOk N B m) (hb0 : 44 ≤ b) (hb : b < N) (ho : wOw R b = none) (hx : nr (rA R 44) = x) (h48 : Byt (rA R 48)) (hgr : m.2.2.2.1.length ≤ 16) (hsp : hSp m.1 + 4000 < 2 ^ 31) : ∃ R', e_direct R (nI b) = some R' ∧ (((drO N B m b x).1 = true ∧ RY N B gr R' (drO N B m b x).2 (vU V b x) tk ∧ Byt (rA R' 48) ∧ Fq [29, 47, 22, 25, 9, 10, 12, 13, 14, 18, 20] [48, 35, 37, 46, 23, 24, 38, 44, 45, 6, 7, 8, 15, 17, 39, 40] R R') ∨ ((drO N B m b x).1 = false ∧ Dd N R (drO N B m b x).2.1 R')) := by
  obtain ⟨⟨h1, h2, h3, h4, h5, h6, h7, h8⟩, hv⟩ := id h.1
  have c37 : rA R 37 b = -1 ↔ qVal m.2.2.2.1 b = none := by
    rcases h3.2.2.2.2 b (by omega) with ⟨z1, z2⟩ | ⟨k, k1, k2, k3⟩
    · exact ⟨fun _ => z2, fun _ => z1⟩
    · rw [k2, k3]
      exact ⟨fun z => absurd z (nI_m1 (by omega)), fun z => by cases z⟩
  have c38 : rA R 38 b = -1 ↔ lVal m.2.1 b = none := by
    rcases h2.at38 (show b < 1024 by omega) with ⟨z1, z2⟩ | ⟨k, k1, k2, k3⟩
    · exact ⟨fun _ => z2, fun _ => z1⟩
    · rw [k2, k3]
      exact ⟨fun z => absurd z (nI_m1 (by omega)), fun z => by cases z⟩
  have e0 : e_direct R (nI b) = if rA R 37 b = -1 ∧ rA R 38 b = -1 then e_direct_26 R (nI b) 0 else e_direct_26 R (nI b) 1 := by
    rw [e_direct, ld_n (show b < 1024 by omega) (by decide)]
    by_cases c1 : rA R 37 b = -1
    · rw [if_pos c1, ld_n (show b < 1024 by omega) (by decide)]
      by_cases c2 : rA R 38 b = -1
      · rw [if_pos c2, if_pos ⟨c1, c2⟩]
      · rw [if_neg c2, if_neg (fun z => c2 z.2)]
        rfl
    · rw [if_neg c1, if_neg (fun z => c1 z.1)]
      rfl
  rw [e0]
  unfold drO
  by_cases cd : drF m b
  · rw [if_pos ⟨c37.mpr cd.1, c38.mpr cd.2⟩, if_pos cd, e_direct_26, if_pos rfl]
    obtain ⟨R', e, o⟩ := y_hand hN hm.1 h (by omega) hb ho hb0 cd hx (by omega)
    rw [bnd_o e]
    refine ⟨R', rfl, ?_⟩
    rcases o with ⟨a1, a2, a3⟩ | o
    · exact Or.inl ⟨a1, a2, by rw [a3.2.1 48 (by decide)]; exact h48, a3.wk (by decide) (by decide)⟩
    · exact Or.inr o
  · rw [if_neg (fun z => cd ⟨c37.mp z.1, c38.mp z.2⟩), if_neg cd, e_direct_26, if_neg (show ¬ (1 : Int32) = 0 by decide)]
    have m1 := z_cp79_82 (R := R) (p := 0) (q := 0) h1.b44 (by decide) (by decide)
    have m1 : e_move_79_82 R 0 0 = some (setA R 48 (va_cpy (rA R 44) (rA R 48) 0 0 128)) := m1
    rw [bnd_o m1]
    have b48 : Byt (va_cpy (rA R 44) (rA R 48) 0 0 128) := h1.b44.cpy h48
    have n48 : nr (va_cpy (rA R 44) (rA R 48) 0 0 128) = x := by rw [nr_cpy, hx]
    generalize va_cpy (rA R 44) (rA R 48) 0 0 128 = g at *
    have f1 : Fn [] [48] R (setA R 48 g) := Fn.a (by decide)
    have hx1 : RX N B gr (setA R 48 g) m V tk := ⟨h.1.1.fn f1 (h5.fqX f1.1 (by decide) (by decide) (by decide) (by decide) (by decide) ⟨h5.x.1, h5.x.2.1, h5.x.2.2.1, b48⟩) (fun _ _ => List.not_mem_nil) (by decide), fun c hc0 hc => by rw [rSee_fq f1.1 (by decide)]; exact hv c hc0 hc⟩
    obtain ⟨v, R2, e2, o2⟩ := hx1.flush hN1 hN hm (by omega)
    rw [bnd2_o e2]
    have fw1 : Fq [29, 47, 22, 25, 9, 10, 12, 13, 14, 18, 20] [48, 35, 37, 46, 23, 24, 38, 44, 45, 6, 7, 8, 15, 17, 39, 40] R (setA R 48 g) := Fq.a (by decide)
    have dead : ∀ (X : RfT) (o : Hw), Dd N R o X → ∃ R', bnd (e_move_82_79 X 0 0) (fun R101 => bnd (e_hand_79 R101 (nI b) 0) (fun R104 => some R104)) = some R' ∧ Dd N R o R' := fun X o hX => by
      obtain ⟨B', hok, -⟩ := hX.2.2
      obtain ⟨g', g1, g2⟩ := z_mvD (R := X) hok.b44
      rw [bnd_o g1]
      have hX2 := hX.a44 g2
      rw [bnd_o (hX2.hand (show b < 1024 by omega))]
      exact ⟨_, rfl, hX2⟩
    rcases o2 with ⟨a1, a2, a3, a4⟩ | ⟨a1, a2⟩
    rotate_left
    · rw [if_neg (by rw [a1]; decide)]
      have a2 : Dd N R (flO2 N B m).2.1 R2 := a2.fq fw1 (by decide) (by decide)
      obtain ⟨R', r1, r2⟩ := dead R2 _ a2
      rw [bnd_o a2.apply, r1]
      exact ⟨R', rfl, Or.inr ⟨rfl, r2⟩⟩
    · rw [if_pos a1]
      have hmf : MOk N B (flM N B m) := flM_ok hN1 hm a1
      have hspf : hSp (flM N B m).1 ≤ hSp m.1 + 100 * m.2.2.2.1.length := flM_sp hN1 hm a1
      obtain ⟨R3, e3, o3⟩ := a3.apply hN1 hN hmf (by omega)
      rw [bnd_o e3]
      have fw2 := fw1.tr (a4.wk (by decide) (by decide))
      rcases o3 with ⟨b1, b2, b3⟩ | ⟨b1, b2⟩
      rotate_left
      · rw [if_neg (by rw [b1]; decide)]
        have b2 : Dd N R (aApl N B (flM N B m).2.1 (flM N B m).2.2.1 (flM N B m).1).2 R3 := b2.fq fw2 (by decide) (by decide)
        obtain ⟨R', r1, r2⟩ := dead R3 _ b2
        rw [r1]
        exact ⟨R', rfl, Or.inr ⟨rfl, r2⟩⟩
      · rw [if_pos b1]
        have fw3 := fw2.tr (b3.wk (by decide) (by decide))
        have e48 : rA R3 48 = g := by
          rw [b3.2.1 48 (by decide), a4.2.1 48 (by decide)]
          exact rA_e
        have m2 := z_cp82_79 (R := R3) (p := 0) (q := 0) (by rw [e48]; exact b48) (by decide) (by decide)
        have m2 : e_move_82_79 R3 0 0 = some (setA R3 44 (va_cpy (rA R3 48) (rA R3 44) 0 0 128)) := m2
        rw [bnd_o m2]
        have b44 : Byt (va_cpy (rA R3 48) (rA R3 44) 0 0 128) := by
          rw [e48]
          exact b48.cpy b2.1.1.b44
        have n44 : nr (va_cpy (rA R3 48) (rA R3 44) 0 0 128) = x := by rw [nr_cpy, e48, n48]
        generalize va_cpy (rA R3 48) (rA R3 44) 0 0 128 = g3 at *
        have oo : wOw R3 = wOw R := ((wOw_fq b3 (by decide) (by decide) (by decide)).1.trans (wOw_fq a4 (by decide) (by decide) (by decide)).1).trans rfl
        have hy3 : RY N B gr R3 (apM N B (flM N B m)) V tk := ⟨b2, fun c hc hne => by rw [oo] at hne; exact h.2.1 c hc hne, h.2.2⟩
        have hy4 : RY N B gr (setA R3 44 g3) (apM N B (flM N B m)) V tk := hy3.a44 b44
        have hma : MOk N B (apM N B (flM N B m)) := apM_ok hN1 hmf
        have hspa : hSp (apM N B (flM N B m)).1 ≤ hSp (flM N B m).1 + 41 := apM_sp hN1 hmf
        have hdr : drF (apM N B (flM N B m)) b := ⟨rfl, by
          have := (aApl_all (B := B) (tu := (flM N B m).2.2.1) hN1 hmf.1 hmf.2.1).2.2.2
          show lVal (lApl (flM N B m).2.1 (flM N B m).2.2.1).1 b = none
          rw [List.eq_nil_of_length_eq_zero this]
          rfl⟩
        obtain ⟨R', e5, o5⟩ := y_hand (x := x) hN hma.1 hy4 (show 43 ≤ b by omega) hb (by rw [show wOw (setA R3 44 g3) b = wOw R3 b from rfl, oo]; exact ho) hb0 hdr (by rw [rA_e]; exact n44) (by omega)
        rw [bnd_o e5]
        refine ⟨R', rfl, ?_⟩
        have fw4 : Fq [29, 47, 22, 25, 9, 10, 12, 13, 14, 18, 20] [48, 35, 37, 46, 23, 24, 38, 44, 45, 6, 7, 8, 15, 17, 39, 40] R (setA R3 44 g3) := fw3.tr (Fq.a (by decide))
        rcases o5 with ⟨d1, d2, d3⟩ | ⟨d1, d2⟩
        · refine Or.inl ⟨d1, d2, ?_, fw4.tr (d3.wk (by decide) (by decide))⟩
          rw [d3.2.1 48 (by decide)]
          show Byt (rA R3 48)
          rw [e48]
          exact b48
        · exact Or.inr ⟨d1, d2.fq fw4 (by decide) (by decide)⟩
end PVI
