/-! ===== pure: a data block is put ===== -/
section PYC
variable {N B gr r u : Nat} {V W : Nat → Rw} {m m' : M5} {tk : Nat → Bool} {A A' : MS} {D D' D2 : CfT} {R R' : RfT} {g : Bool} {tp : Nat → Int32} {ow : Nat → Int} {s0 : S3} {l : List Nat} {b : Nat} {x : Rw}
theorem WFs.dep (h : WFs N V ow) (hN1 : 61 ≤ N) (h1 : ∀ b, 43 ≤ b → b < 61 → W b = V b) (h2 : ∀ b, isT V b → W b = V b) : WFs N W ow ∧ (∀ i a, ir i → f1 W i a = f1 V i a) ∧ (∀ i, ir i → szM W i = szM V i) ∧ (∀ i, ir i → ∀ x, x < 4234 → pv W i x = pv V i x) ∧ (∀ d s, ir d → f1 V d 0 = 2 → s < szM V d / 16 → sln W d s = sln V d s) := by
  have e43 := h1 43 (by decide) (by decide)
  have e44 := h1 44 (by decide) (by decide)
  have eh : ∀ i, ir i → W (homeM i) = V (homeM i) := fun i hi => h1 _ (by have := ir_home hi; omega) (ir_home hi).2
  have ef : ∀ i a, ir i → f1 W i a = f1 V i a := fun i a hi => by
    unfold f1
    rw [eh i hi]
  have es : ∀ i, ir i → szM W i = szM V i := fun i hi => by
    unfold szM f4
    rw [eh i hi]
  have ep : ∀ i, ir i → ∀ x, x < 4234 → pv W i x = pv V i x := fun i hi => pv_eq (fun y hy h0 => by
    by_cases c : y < 10
    · rw [ph_0 c, eh i hi]
    · rw [ph_hx (by omega) hy] at h0 ⊢
      rw [h2 _ ⟨h0, i, hx y, hi, by have := hx_lt hy; omega, rfl, Or.inl (hx_tb hy)⟩])
  have ed : ∀ d s, ir d → f1 V d 0 = 2 → s < szM V d / 16 → W (pv W d (px (s / 8))) = V (pv V d (px (s / 8))) := fun d s hd hk hs => by
    obtain ⟨q1, q2, q3⟩ := h.dblk hd hk hs
    rw [ep d hd _ (px_lt q1)]
    exact h2 _ ⟨q2, d, px (s / 8), hd, px_lt q1, rfl, Or.inr hk⟩
  have esl : ∀ d s, ir d → f1 V d 0 = 2 → s < szM V d / 16 → sln W d s = sln V d s := fun d s hd hk hs => by
    unfold sln
    rw [ed d s hd hk hs]
  have ec : ∀ i, nmC W i 65 = nmC V i 65 := fun i => nmC_cg 65 (fun d hd => by
    unfold ctM
    by_cases hd1 : 1 ≤ d
    · have hir : ir d := ⟨hd1, by omega⟩
      rw [ef d 0 hir, es d hir]
      by_cases c : 1 ≤ d ∧ f1 V d 0 = 2
      · rw [if_pos c, if_pos c]
        exact nmD_cg _ (fun s hs => esl d s hir c.2 hs)
      · rw [if_neg c, if_neg c]
    · rw [if_neg (fun z => hd1 z.1), if_neg (fun z => hd1 z.1)])
  obtain ⟨a1, a2, a3, a4, a5, a6, a7, a8⟩ := id h
  refine ⟨⟨⟨by rw [e43]; exact a1.1, fun i x hi hx => by rw [ep i hi x hx]; exact a1.2.1 i x hi hx, fun i x j y hi hx hj hy h0 he => ?_, fun b b1 b2 => ?_⟩, fun i hi => ?_, fun i hi h0 a ha => ?_, fun k hk => ?_, fun d hd hk => ?_, fun d s hd hk hs => ?_, by rw [ef 1 0 ⟨Nat.le_refl _, by decide⟩]; exact a7, fun i hi => by rw [ef i 1 hi, ec i]; exact a8 i hi⟩, ef, es, ep, esl⟩
  · rw [ep i hi x hx] at h0 he
    rw [ep j hj y hy] at he
    exact a1.2.2.1 i x j y hi hx hj hy h0 he
  · rw [e43, a1.2.2.2 b b1 b2]
    exact ⟨fun ⟨i, x, i1, i2, i3⟩ => ⟨i, x, i1, i2, by rw [ep i i1 x i2]; exact i3⟩, fun ⟨i, x, i1, i2, i3⟩ => ⟨i, x, i1, i2, by rw [← ep i i1 x i2]; exact i3⟩⟩
  · rw [ef i 0 hi]
    refine ⟨(a2 i hi).1, ?_⟩
    obtain ⟨p1, p2⟩ := (a2 i hi).2
    refine ⟨by rw [es i hi]; exact p1, fun q q1 q2 => ?_⟩
    rw [es i hi] at q1
    rw [ep i hi _ (px_lt q2)]
    exact p2 q q1 q2
  · rw [ef i 0 hi] at h0
    rw [eh i hi]
    exact a3 i hi h0 a ha
  · rw [e44, a4 k hk]
    by_cases c : k < 64
    · rw [ef (k + 1) 0 ⟨by omega, by omega⟩]
    · rw [if_neg (fun z => c z.1), if_neg (fun z => c z.1)]
  · rw [ef d 0 hd] at hk
    rw [es d hd]
    obtain ⟨p1, p2⟩ := a5 d hd hk
    refine ⟨p1, fun q hq => ?_⟩
    have hdz := (a2 d hd).2.1
    rw [ep d hd _ (px_lt (by omega))]
    exact p2 q hq
  · rw [ef d 0 hd] at hk
    rw [es d hd] at hs
    rw [ed d s hd hk hs]
    rcases a6 d s hd hk hs with q | ⟨q1, q2, q3, q4⟩
    · exact Or.inl q
    · exact Or.inr ⟨q1, q2, by rw [ef _ 0 ⟨by omega, q2⟩]; exact q3, q4⟩
theorem isT_dp {c : Nat} (h : WFs N V ow) (hN1 : 61 ≤ N) (h1 : ∀ b, 43 ≤ b → b < 61 → W b = V b) (h2 : ∀ b, isT V b → W b = V b) : isT W c ↔ isT V c := by
  obtain ⟨-, ef, -, ep, -⟩ := h.dep hN1 h1 h2
  exact isT_cg (fun j x hj hx => ep j hj x hx) (fun j hj => Or.inl (ef j 0 hj))
theorem qVal_tk {b : Nat} : ∀ (qs : List QC) (j : Nat), qVal qs b = none → qVal (qs.take j) b = none
  | [], j, h => by rw [List.take_nil]; exact h
  | q :: qs, 0, h => rfl
  | q :: qs, j + 1, h => by
    have h' : (match qVal qs b with | some x => some x | none => q b) = none := h
    show (match qVal (qs.take j) b with | some x => some x | none => q b) = none
    cases e : qVal qs b with
    | some y =>
      rw [e] at h'
      cases h'
    | none =>
      rw [e] at h'
      rw [qVal_tk qs j e]
      exact h'
theorem Wj_pl (hm : MOk N B m) (hd : drF m b) (ht : (aPl N B b x m.1).1 = true) (j c : Nat) : Wj (plO N B m b x).2 j c = if c = b then x else Wj m j c := by
  show oSee (qVal (m.2.2.2.1.take j) c) (oSee (lVal m.2.1 c) (hSee (aPl N B b x m.1).2 c)) = _
  rw [aPl_see hm.1 ht]
  by_cases e : c = b
  · rw [if_pos e, if_pos e, e, qVal_tk _ _ hd.1, hd.2]
    rfl
  · rw [if_neg e, if_neg e]
    rfl
theorem GM.pl (hN1 : 61 ≤ N) (h : GM N m) (hm : MOk N B m) (hd : drF m b) (hb : 61 ≤ b) (hnt : ∀ j, j ≤ m.2.2.2.1.length → ¬ isT (Wj m j) b) (ht : (aPl N B b x m.1).1 = true) : GM N (plO N B m b x).2 := by
  obtain ⟨g1, g2, g3, g4, g5⟩ := id h
  have rows : ∀ j c, c ≠ b → Wj (plO N B m b x).2 j c = Wj m j c := fun j c hc => by rw [Wj_pl hm hd ht, if_neg hc]
  have ps : ∀ c y, c ≠ b → hPs (plO N B m b x).2.1 c y → hPs m.1 c y := fun c y hc hy => (aPl_ps hm.1 hy).resolve_right (fun z => hc z.1)
  refine ⟨fun y hy => g1 y (ps 0 y (by omega) hy), fun y hy => g2 y (ps 1 y (by omega) hy), fun y hy => g3 y (ps 2 y (by omega) hy), fun j hj => ?_, fun j hj c c1 c2 c3 => ?_⟩
  · exact (g4 j hj).dep hN1 (fun c c1 c2 => rows j c (by omega)) (fun c hc => rows j c (fun z => hnt j hj (by rw [← z]; exact hc)))
  · have hiff : ∀ c, isT (Wj (plO N B m b x).2 j) c ↔ isT (Wj m j) c := fun c => isT_dp (g4 j hj).s hN1 (fun c c1 c2 => rows j c (by omega)) (fun c hc => rows j c (fun z => hnt j hj (by rw [← z]; exact hc)))
    have hcb : c ≠ b := fun z => by
      rcases c3 with q | q
      · omega
      · rw [z] at q
        exact hnt j hj ((hiff b).mp q)
    rcases g5 j hj c c1 c2 (c3.imp id (fun z => (hiff c).mp z)) with q | q | q
    · exact Or.inl q
    · exact Or.inr (Or.inl q)
    · refine Or.inr (Or.inr (fun y hy => ?_))
      have e : hSee (plO N B m b x).2.1 c = hSee m.1 c := by
        show hSee (aPl N B b x m.1).2 c = _
        rw [aPl_see hm.1 ht, if_neg hcb]
      rw [e]
      exact q y (ps c y hcb hy)
theorem GM.pls (hN1 : 61 ≤ N) (h : GM N m) (hm : MOk N B m) (hl : lgN N m.2.1) (hb : 61 ≤ b) (hnt : ¬ isT (Wj m 0) b) : Safe N (aPl N B b x m.1).2 := by
  obtain ⟨g1, g2⟩ := h.gs hm hl
  have hL := hm.2.2.1
  exact (g1.pl hm.1 (by omega) (fun z => by omega) (fun k hk => by omega) (fun _ _ z => by
    rcases z with z | z
    · omega
    · exact absurd z hnt)).s1 hN1 (g2.pl hm.1 (by omega))
theorem MB.pl (hN1 : 61 ≤ N) (h : MB N B gr u m) (hd : drF m b) (hb : 61 ≤ b) (hbN : b < N) (hnt : ∀ j, j ≤ m.2.2.2.1.length → ¬ isT (Wj m j) b) (ht : (aPl N B b x m.1).1 = true) : MB N B gr (u + 1) (plO N B m b x).2 := by
  obtain ⟨b1, b2, b3, b4, b5, b6, b7, b8⟩ := h
  have g := b7.pl (x := x) hN1 b1 hd hb hnt ht
  have rows : ∀ j c, c ≠ b → Wj (plO N B m b x).2 j c = Wj m j c := fun j c hc => by rw [Wj_pl b1 hd ht, if_neg hc]
  have hiff : ∀ j, j ≤ m.2.2.2.1.length → ∀ c, isT (Wj (plO N B m b x).2 j) c ↔ isT (Wj m j) c := fun j hj c => isT_dp (b7.2.2.2.1 j hj).s hN1 (fun c c1 c2 => rows j c (by omega)) (fun c hc => rows j c (fun z => hnt j hj (by rw [← z]; exact hc)))
  refine ⟨⟨aPl_ok b1.1 hbN, b1.2.1.pl b1.1 b1.2.2.1 (by omega) ht, b1.2.2⟩, ?_, b3, b4, b5, b6, g, fun j hj c hc => ?_, fun c hc => ?_⟩
  · have q : hSp (aPl N B b x m.1).2 ≤ hSp m.1 + 1 := aPl_sp
    unfold Phi at b2 ⊢
    show hSp (aPl N B b x m.1).2 + 100 * m.2.2.2.1.length ≤ u + 1
    omega
  · rcases b8.1 j hj c ((hiff j hj c).mp hc) with q | q
    · refine Or.inl ?_
      rw [← Wj_all] at q ⊢
      exact (hiff _ (Nat.le_refl _) c).mpr q
    · exact Or.inr q
  · have e : befM (plO N B m b x).2 43 = befM m 43 := by
      rw [plO_bef b1.1 ht hd, if_neg (by omega)]
    rw [e] at hc
    exact b8.2 c hc
/-- the model as it is when a block is put -/
noncomputable def drB (N B : Nat) (m : M5) (b : Nat) : M5 := @ite _ (drF m b) (Classical.propDecidable _) m (apM N B (flM N B m))
theorem drB_ok (hN1 : 61 ≤ N) (hgr : 1 ≤ gr) (h : MB N B gr u m) (hc : drF m b ∨ ((flO2 N B m).1 = true ∧ (aApl N B (flM N B m).2.1 (flM N B m).2.2.1 (flM N B m).1).1 = true)) : MB N B gr (u + 100) (drB N B m b) ∧ (∀ c, 43 ≤ c → c < N → befM (drB N B m b) c = befM m c) ∧ (∀ c, (drB N B m b).2.2.2.2 c = 2 ↔ m.2.2.2.2 c = 2) ∧ (∀ c, m.2.2.2.2 c = 0 → (drB N B m b).2.2.2.2 c = 0) ∧ drF (drB N B m b) b := by
  unfold drB
  by_cases c : drF m b
  · rw [if_pos c]
    exact ⟨h.up (by omega), fun _ _ _ => rfl, fun _ => Iff.rfl, fun _ z => z, c⟩
  · obtain ⟨t1, t2⟩ := hc.resolve_left c
    have h1 := h.fl hN1 hgr t1
    rw [if_neg c]
    refine ⟨h1.ap hN1 t2, fun c c1 c2 => ?_, fun c => fl_2 (N := N) (B := B), fun c z => ?_, ?_⟩
    · have z := ap_bef hN1 h1.1 t2 (flM N B m).2.2.2.1.length c1 c2
      have e1 : befM (apM N B (flM N B m)) c = Wj (apM N B (flM N B m)) (flM N B m).2.2.2.1.length c := by
        rw [← Wj_all]
        rfl
      rw [e1, z, Wj_all]
      exact flM_bef hN1 h.1 t1 c1 c2
    · show (if m.2.2.2.2 c = 1 then 0 else m.2.2.2.2 c) = 0
      rw [z]
      rfl
    · refine ⟨rfl, ?_⟩
      have e := (aApl_all (tu := (flM N B m).2.2.1) hN1 h1.1.1 h1.1.2.1).2.2.2
      have e : (apM N B (flM N B m)).2.1 = [] := List.eq_nil_of_length_eq_zero e
      rw [e]
      rfl
end PYC
