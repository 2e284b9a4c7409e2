/-! ===== mount: the reference comes to its log ===== -/
section PXX25
variable {N B gr u : Nat} {R R' : RfT} {hw : Hw} {L : List En} {tu : Int32} {A : MS} {D : CfT}
theorem z_mnt0 (hN : N ≤ 1024) (hN1 : 61 ≤ N) (hr : RN N B gr hw R) (q : Quiet N hw) (h0 : hSee hw 0 = mH00 N) (r : Rec N (hSee hw) L tu) : ∃ R', e_mount R = e_mount_368 1 R' (nI L.length) ∧ RLg N R' L tu ∧ RH N B hw R' ∧ Fn [0, 22, 25] [23, 24, 38, 43, 44] R R' := by
  obtain ⟨h1, h2, h3, h4, h5, h6, h7⟩ := hr
  have on : ¬ rS R 11 = 0 := h1.on
  have f0 : Fn [0, 22, 25] [23, 24, 38, 43, 44] R (setS R 0 0) := Fn.s (by decide)
  have k1 : RH N B hw (setS R 0 0) := h1.s (by decide)
  have e1 : rS (setS R 0 0) 1 = nI N := (f0.1.1 1 (by decide)).trans h4
  have b24 : Byt (rA (setS R 0 0) 24) := h2.x.1
  rw [e_mount, if_pos h6, if_neg on, bnd2_o ref0, i00, e_mount_29]
  generalize setS R 0 0 = R1 at f0 k1 e1 b24
  obtain ⟨g, g1, g2, g3⟩ := z_headR e1
  have k2 : RH N B hw (setA R1 44 g) := k1.a44 (g3 k1.b44)
  have f1 : Fn [0, 22, 25] [23, 24, 38, 43, 44] R1 (setA R1 44 g) := Fn.a (by decide)
  have e44 : rA (setA R1 44 g) 44 = g := rA_e
  have b24' : Byt (rA (setA R1 44 g) 24) := by
    rw [rA_n (by decide)]
    exact b24
  rw [bnd_o g1]
  generalize setA R1 44 g = R2 at k2 f1 e44 b24'
  obtain ⟨x, x1, x2⟩ := z_rdk hN k2 (t := 0) (by omega)
  have f2 : Fn [0, 22, 25] [23, 24, 38, 43, 44] R2 (setA R2 43 x) := Fn.a (by decide)
  have k3 : RH N B hw (setA R2 43 x) := k2.a (by decide)
  have ex : nr x = nr g := by
    rw [x2, ← hSee_n (q.2 0 (by omega)), h0, g2]
  have sm : e_same_78_79 (setA R2 43 x) 0 0 = some 1 := z_sm_l (R := setA R2 43 x) (x := x) (y := g) rA_e ((rA_n (by decide)).trans e44) (fun i hi => nr_ati ex hi) 128 0 fuL (by omega) (by rw [fuL_4]; omega)
  have b24'' : Byt (rA (setA R2 43 x) 24) := by
    rw [rA_n (by decide)]
    exact b24'
  rw [bnd_o (show e_readDisk_78 R2 0 = _ from x1), bnd_o sm, i10, bnd2_o ref0, i00]
  generalize setA R2 43 x = R3 at f2 k3 b24''
  have f3 : Fn [0, 22, 25] [23, 24, 38, 43, 44] R3 (setS R3 0 0) := Fn.s (by decide)
  obtain ⟨R4, y1, y2, y3, y4⟩ := z_m73 (R := setS R3 0 0) hN hN1 (k3.s (by decide)) b24'' q r
  exact ⟨R4, y1, y2, y3, ((f0.tr f1).tr f2).tr (f3.tr (y4.wk (by decide) (by decide)))⟩
/-- what it does behind its log -/
theorem z_mntE (hN : N ≤ 1024) (hr : RN N B gr hw R) (hl : RLg N R' L tu) (hh : RH N B hw R') (f : Fn [0, 22, 25] [23, 24, 38, 43, 44] R R') : ∃ R3, e_mount_368 1 R' (nI L.length) = bnd (e_applyLog R3) (fun R114 => if (rS R114 11) = 0 then bnd2 (e_answer R114 (nI L.length)) (fun v115 R115 => some (v115, R115)) else bnd (e_allLostGo R114) (fun R116 => bnd2 (e_answer R116 (nI L.length)) (fun v117 R117 => some (v117, R117)))) ∧ RMw N B gr R3 (hw, L, tu, [], fun _ => 0) ∧ (∀ b, b < 1024 → rA R3 36 b = -1) ∧ Fn [0, 22, 25, 21, 33, 29, 34] [23, 24, 38, 43, 44, 36, 35, 52, 53] R R3 ∧ rS R3 34 = 0 ∧ rS R3 21 = 1 ∧ (∀ c, c < 65 → rA R3 52 c = 0) ∧ (∀ c, c < 32 → rA R3 53 c = 0) := by
  obtain ⟨h1, h2, h3, h4, h5, h6, h7⟩ := hr
  have e25 : rS R' 25 = nI L.length := hl.2.1
  have l40 : L.length ≤ 40 := hl.2.2.1
  rw [e_mount_368, e25, if_pos (nI_le (Nat.le_refl _) (by omega)), ptR]
  have f1 : Fn [21] [] R' (setS R' 21 1) := Fn.s (by decide)
  have e21 : rS (setS R' 21 1) 21 = 1 := pk_us (f := R'.1) (k := 21)
  generalize setS R' 21 1 = R1 at f1 e21
  have w1 : WkO N R1 := (h2.fq4 f.1 (by decide) (by decide) (by decide) (by decide) (by decide) hl.2.2.2.2.2).fq f1.1 (by decide) (by decide) (by decide) (by decide) (by decide)
  obtain ⟨n, n1, n2, n3, n4, n5, n6⟩ := id w1
  obtain ⟨R2, e2, f2, s2, a2⟩ := z_noWorks_l n2 n1 (fun k hk => by
    obtain ⟨t, t1, t2, -⟩ := n3 k hk
    exact ⟨t, by omega, t2⟩) fuL 0 R1 (Nat.zero_le _) (by rw [fuL_4]; omega) Fn.rf (fun b hb => by rw [if_neg (fun ⟨i, i1, _⟩ => absurd i1 (Nat.not_lt_zero _))])
  have e2 : e_noWorks R1 = some R2 := e2
  have a36 : ∀ b, b < 1024 → rA R2 36 b = -1 := fun b hb => by
    rw [a2 b hb]
    by_cases c : ∃ i, i < n ∧ rA R1 30 i = nI b
    · rw [if_pos c]
    · rw [if_neg c]
      rcases n4 b hb with z | ⟨k, k1, k2, k3⟩
      · exact z
      · exact absurd ⟨k, k1, k3⟩ c
  have q2 : RQu N R2 [] := ((h3.fq f.1 (by decide) (by decide) (by decide) (by decide) (by decide)).fq f1.1 (by decide) (by decide) (by decide) (by decide) (by decide)).fq f2.1 (by decide) (by decide) (by decide) (by decide) (by decide)
  have e29 : setS R2 29 0 = R2 := setS_id q2.1
  rw [bnd_o e2, ptR, e29]
  obtain ⟨R3, e3, f3, s34, z35, z52, z53⟩ := z_nothingKnown (R := R2)
  rw [bnd_o e3]
  have F : Fn [0, 22, 25, 21, 33, 29, 34] [23, 24, 38, 43, 44, 36, 35, 52, 53] R R3 := ((f.wk (by decide) (by decide)).tr (f1.wk (by decide) (by decide))).tr ((f2.wk (by decide) (by decide)).tr (f3.wk (by decide) (by decide)))
  have wx : ByX R3 := (w1.x.eq (fun k hk => f2.1.2.1 k (by revert hk; revert k; decide))).eq (fun k hk => f3.1.2.1 k (by revert hk; revert k; decide))
  refine ⟨R3, rfl, ⟨((hh.fn f1 (by decide) (by decide)).fn f2 (by decide) (by decide)).fn f3 (by decide) (by decide), ((hl.fq f1.1 (by decide) (by decide) (by decide) (by decide) (by decide)).fq f2.1 (by decide) (by decide) (by decide) (by decide) (by decide)).fq f3.1 (by decide) (by decide) (by decide) (by decide) (by decide), q2.fq f3.1 (by decide) (by decide) (by decide) (by decide) (by decide), fun b hb => ⟨z35 b hb, by show 0 < 3; decide⟩, WkO.z ?_ wx ?_ (fun b hb => ?_), wx.2.2.1, (F.1.1 1 (by decide)).trans h4, (F.1.1 3 (by decide)).trans h5⟩, fun b hb => ?_, F, s34, ?_, z52, z53⟩
  · rw [f3.1.2.1 32 (by decide), f2.1.2.1 32 (by decide)]
    exact n5
  · exact (f3.1.1 33 (by decide)).trans s2
  · rw [f3.1.2.1 36 (by decide)]
    exact a36 b hb
  · rw [f3.1.2.1 36 (by decide)]
    exact a36 b hb
  · exact ((f3.1.1 21 (by decide)).trans (f2.1.1 21 (by decide))).trans e21
end PXX25
