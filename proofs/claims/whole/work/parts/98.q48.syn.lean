/-! ===== pure: the hardware alone moves ===== -/
section PZV
variable {N B gr r u : Nat} {V W : Nat → Rw} {m m' : M5} {tk tk' : Nat → Bool} {A A' : MS} {D D' D2 : CfT} {R R' : RfT} {g : Bool} {hd hi : Nat → Nat} {tp : Nat → Int32} {tl : Nat} {h' h2 : Hw}
/-- what is seen stays, and a crash can leave no more -/
def HwS (N B : Nat) (h h' : Hw) : Prop := (∀ u, hSee h' u = hSee h u) ∧ (∀ u y, hPs h' u y → hPs h u y) ∧ hSp h' = hSp h ∧ (HOk N B h → HOk N B h') ∧ ∀ u, u < 43 → hFree h u → hFree h' u
theorem HwS.tr {h : Hw} (a : HwS N B h h') (b : HwS N B h' h2) : HwS N B h h2 := ⟨fun u => (b.1 u).trans (a.1 u), fun u y z => a.2.1 u y (b.2.1 u y z), b.2.2.1.trans a.2.2.1, fun z => b.2.2.2.1 (a.2.2.2.1 z), fun u hu z => b.2.2.2.2 u hu (a.2.2.2.2 u hu z)⟩
theorem HwS.rf {h : Hw} : HwS N B h h := ⟨fun _ => rfl, fun _ _ z => z, rfl, id, fun _ _ z => z⟩
theorem HwS.bef (a : HwS N B m.1 h') {qs : List QC} {L : List En} {b : Nat} : befV h' L qs b = befV m.1 L qs b := by
  unfold befV
  rw [a.1]
theorem HwS.wj (a : HwS N B m.1 h') {j : Nat} : Wj (h', m.2) j = Wj m j := funext fun _ => a.bef
theorem HwS.befM (a : HwS N B m.1 h') : befM (h', m.2) = befM m := funext fun _ => a.bef
theorem HwS.mok (a : HwS N B m.1 h') (h : MOk N B m) (hl : m.2.1.length ≤ 40) : MOk N B (h', m.2) := ⟨a.2.2.2.1 h.1, fun k hk => ⟨a.2.2.2.2 _ (by have hk : k < m.2.1.length := hk; omega) (h.2.1 k hk).1, (a.1 _).trans (h.2.1 k hk).2.1, (h.2.1 k hk).2.2⟩, h.2.2⟩
theorem HwS.gm (a : HwS N B m.1 h') (h : GM N m) : GM N (h', m.2) := by
  obtain ⟨g1, g2, g3, g4, g5⟩ := h
  refine ⟨fun y hy => g1 y (a.2.1 _ _ hy), fun y hy => g2 y (a.2.1 _ _ hy), fun y hy => g3 y (a.2.1 _ _ hy), fun j hj => by rw [a.wj]; exact g4 j hj, fun j hj b b1 b2 hb => ?_⟩
  rw [a.wj] at hb
  rcases g5 j hj b b1 b2 hb with q | q | q
  · exact Or.inl q
  · exact Or.inr (Or.inl q)
  · exact Or.inr (Or.inr (fun y hy => (q y (a.2.1 _ _ hy)).trans (a.1 b).symm))
theorem HwS.mb (a : HwS N B m.1 h') (h : MB N B gr u m) : MB N B gr u (h', m.2) := by
  obtain ⟨b1, b2, b3, b4, b5, b6, b7, b8⟩ := h
  refine ⟨a.mok b1 b1.2.2.1, ?_, b3, b4, b5, b6, a.gm b7, fun j hj b hb => ?_, fun b hb => ?_⟩
  · unfold Phi at b2 ⊢
    show hSp h' + 100 * m.2.2.2.1.length ≤ u
    rw [a.2.2.1]
    exact b2
  · rw [a.wj] at hb
    rw [a.befM]
    exact b8.1 j hj b hb
  · rw [a.befM] at hb
    exact b8.2 b hb
theorem IM.hs (hN1 : 61 ≤ N) (hN : N ≤ 1024) (h : IM N B gr u g A D R m V tk hd hi tp tl) (ot : OwT A R m V) (a : HwS N B m.1 h') (hr : RH N B h' R') (f : Fq [9, 10, 12, 13, 14, 18, 20] [6, 7, 8, 15, 17, 39, 40] R R') : IM N B gr u g (h', A.2) D R' (h', m.2) V tk hd hi tp tl := by
  obtain ⟨a1, a2⟩ := h.1
  obtain ⟨⟨⟨h1, h2, h3, h4, h5, h6, h7, h8⟩, hv⟩, r2, r3⟩ := id a2
  have eb := a.befM
  have cx : CX N (h', A.2) D (h', m.2) V tk := a1.mdl (by
    show (h', (mA A).2) = _
    rw [a1.1]) rfl rfl (fun b _ _ => by rw [eb]) rfl
  have hx : RMw N B gr R' (h', m.2) := ⟨hr, h2.fq f (by decide) (by decide) (by decide) (by decide) (by decide), h3.fq f (by decide) (by decide) (by decide) (by decide) (by decide), h4.fq f (by decide), h5.fq f (by decide) (by decide) (by decide) (by decide) (by decide), by rw [f.2.1 46 (by decide)]; exact h6, by rw [f.1 1 (by decide)]; exact h7, by rw [f.1 3 (by decide)]; exact h8⟩
  obtain ⟨o1, o2⟩ := wOw_fq f (by decide) (by decide) (by decide)
  have y1 : RY N B gr R' (h', m.2) V tk := ⟨⟨hx, fun b hb0 hb => by
    rw [rSee_t, o1, o2, hx.bef hN hb, eb]
    exact a2.1.own hN hb0 hb⟩, fun c hc hne => by
      rw [o1] at hne
      exact r2 c hc hne, r3⟩
  exact h.mdl hN1 ot ⟨cx, y1⟩ (fun b _ _ => by rw [eb]) (fun b => Iff.rfl) (a.mb h.2.2.1) rfl rfl rfl f (by decide) (by decide)
theorem HwS.safe {h : Hw} (a : HwS N B h h') (s : Safe N h) : Safe N h' := fun img q => s img (fun t ht => a.2.1 _ _ (q t ht))
theorem hs_out {h : Hw} {t : Nat} (h1 : 43 ≤ t) (h2 : t < N) : HwS N B h (aRun 1 t h).2 := by
  obtain ⟨a1, a2, a3, a4, -⟩ := aRun_all (N := N) (B := B) 1 t h (by omega)
  refine ⟨a1, a2, a4, a3, fun v hv fr => ?_⟩
  obtain ⟨D, ⟨bf, hd, sp, pu⟩, le, wr, ss⟩ := h
  by_cases e : bf t = none
  · rw [aRun_1 e]
    exact fr
  · by_cases el : le = 0
    · rw [aRun_2 e el]
      exact fr
    · rw [aRun_3 e el]
      refine ⟨?_, hFree.wr fr.2 (by omega)⟩
      show bSet bf t none v = none
      rw [bSet_n (by omega)]
      exact fr.1
theorem hs_sn {h : Hw} : HwS N B h (aSn h).2 := by
  obtain ⟨a1, a2, a3, -⟩ := aSn_all (h := h)
  refine ⟨a1, a2, by unfold hSp; rw [a3], fun z => by unfold HOk at z ⊢; rw [a3]; exact z, fun v hv fr => ?_⟩
  obtain ⟨D, b, le, wr, ss⟩ := h
  by_cases e : le = 0
  · rw [show aSn (D, b, le, wr, ss) = (false, D, b, le, wr, ss) from if_pos e]
    exact fr
  · rw [show aSn (D, b, le, wr, ss) = (true, aSy D, b, sLe le, wr, ss + 1) from if_neg e]
    exact ⟨fr.1, fun p hp => absurd hp List.not_mem_nil⟩
/-- where a block is held -/
theorem RH.at {h : Hw} {t : Nat} (hr : RH N B h R) (ht : t < N) : (h.2.1.1 t = none ∧ rA R 39 t = -1) ∨ ∃ k, k < 64 ∧ k < h.2.1.2.1 ∧ rA R 39 t = nI k ∧ rA R 15 k = nI t ∧ h.2.1.1 t ≠ none := by
  obtain ⟨wf, w, h1, h2, h3, h4, h5, h6, h7, h8, h9⟩ := hr
  have hh : h.2.1.2.1 ≤ 64 := by
    obtain ⟨-, -, -, -, ⟨-, -, e3, -, e5⟩, -, -⟩ := id h3
    omega
  rcases h2.2.2.1 t ht with ⟨q1, q2⟩ | ⟨k, q, q1, q2, q3, q4, q5⟩
  · exact Or.inl ⟨q2, q1⟩
  · exact Or.inr ⟨k, by omega, q1, q2, q3, by rw [q5]; exact fun z => by cases z⟩
/-- the reference writes a held block and lets it go -/
theorem z_out {h : Hw} {t k : Nat} (hN : N ≤ 1024) (hr : RH N B h R) (hw : WkO N R) (ht : t < N) (hk : k < 64) (hkh : k < h.2.1.2.1) (h39 : rA R 39 t = nI k) (h15 : rA R 15 k = nI t) (hn : h.2.1.1 t ≠ none) : ∃ R1, e_writeDisk_63 R (nI t) (128 * nI k) = some R1 ∧ (((aRun 1 t h).1 = true ∧ ¬ rS R1 11 = 0 ∧ ∃ R2, e_leave R1 (nI k) = some R2 ∧ RH N B (aRun 1 t h).2 R2 ∧ Fq [9, 10, 12, 13, 14, 18, 20] [6, 7, 8, 15, 17, 39, 40] R R2) ∨ ((aRun 1 t h).1 = false ∧ (aRun 1 t h).2 = h ∧ Dd N R h R1)) := by
  have ok := hr.ok hw hN
  obtain ⟨D, ⟨bf, hd, sp, pu⟩, le, wr, ss⟩ := h
  obtain ⟨wf, w, h1, h2, h3, h4, h5, h6, h7, h8, h9⟩ := id hr
  have h2 : RBf N (bf, hd, sp, pu) R := h2
  have h3 : rDb R wf w B hd := h3
  have h6 : rS R 12 = le := h6
  have hkh : k < hd := hkh
  have hn : ¬ bf t = none := hn
  have e128 : (128 : Int32) * nI k = nI (128 * k) := by
    rw [show (128 : Int32) = nI 128 from rfl, pk_mul]
  have ew : e_writeDisk_63 R (nI t) (128 * nI k) = some (if rCan R then rWr R k else rNo R (nK R)) := by
    rw [e_writeDisk_63, gd_t ⟨⟨B, ok⟩, nI_in (by omega) (by decide), k, hk, e128⟩, e128, nI_clamp (by omega), nI_clamp (by omega), show 128 * k / 128 = k by omega]
    have eb : nBl R k = t := by
      unfold nBl
      rw [h15, nI_clamp (by omega)]
    unfold rWr
    rw [eb]
    by_cases c : rCan R
    · rw [if_pos c, if_pos c]
    · rw [if_neg c, if_neg c]
  refine ⟨_, ew, ?_⟩
  by_cases c2 : le = 0
  · right
    rw [if_neg (fun z => z.2 (h6.trans c2)), aRun_2 hn c2, rNo, if_neg (on1 h9)]
    refine ⟨rfl, rfl, FlF.dd (B := B) hw ?_ ⟨R, rfl, HwF.rf⟩ (RH.fails _ hr)⟩
    obtain ⟨wf', w', hd', n', x1, x2⟩ := ok
    exact ⟨wf', w', 0, 0, rFl_ok x1, rFl_wk⟩
  · left
    rw [if_pos ⟨on1 h9, by rw [h6]; exact c2⟩, aRun_3 hn c2]
    have hX := RH.out hN hr hkh ht h15 pu
    have e20 : setS (rWr R k) 20 pu = rWr R k := by
      have e9 : rS (rWr R k) 20 = pu := (rWrt_S (by decide) (by decide) (by decide) (by decide)).trans h2.2.1
      show (upd (rWr R k).1 20 pu, (rWr R k).2) = rWr R k
      rw [upd_id e9]
    rw [e20] at hX
    have e11 : rS (rWr R k) 11 = rS R 11 := HwF.wr.on
    refine ⟨rfl, by rw [e11]; exact on1 h9, _, ?_, hX, HwF.wr.tr HwF.le⟩
    have hh : hd ≤ 64 := by
      obtain ⟨-, -, -, -, ⟨-, -, e3, -, e5⟩, -, -⟩ := id h3
      omega
    obtain ⟨b, hb1, hb⟩ := h3.2.1 wf h3.1.2.1
    have d1 := rWrt_ok (b := b) (q := k) h3 (show t < 1024 by omega)
    rw [rWr_eq h3 hb hb1 h15 (by omega)] at d1
    obtain ⟨wf', w', hd', n', x1, x2⟩ := ok
    rw [e_leave, gd_t ⟨⟨B, _, _, _, n', d1, rWk_wrt x2⟩, by rw [d1.n.2.2]; exact nI_in hkh (by omega)⟩, nI_clamp (by omega)]
/-- the reference syncs -/
theorem z_sn {h : Hw} (hN : N ≤ 1024) (hr : RH N B h R) (hw : WkO N R) : ∃ R1, e_syncDisk R = some R1 ∧ Ou N B [9, 10, 12, 13, 14, 18, 20] [6, 7, 8, 15, 17, 39, 40] R (aSn h) R1 := by
  have ok := hr.ok hw hN
  obtain ⟨D, b, le, wr, ss⟩ := h
  obtain ⟨wf, w, h1, h2, h3, h4, h5, h6, h7, h8, h9⟩ := id hr
  have h6 : rS R 12 = le := h6
  obtain ⟨n1, n2, n3⟩ := h3.n
  by_cases c : le = 0
  · refine ⟨rFl R (nK R), ?_, Or.inr ?_⟩
    · rw [e_syncDisk, gd_t ⟨B, ok⟩, if_neg (fun z => z.2 (h6.trans c)), rNo, if_neg (on1 h9)]
    · rw [show aSn (D, b, le, wr, ss) = (false, D, b, le, wr, ss) from if_pos c]
      refine ⟨rfl, FlF.dd (B := B) hw ?_ ⟨R, rfl, HwF.rf⟩ (RH.fails _ hr)⟩
      obtain ⟨wf', w', hd', n', x1, x2⟩ := ok
      exact ⟨wf', w', 0, 0, rFl_ok x1, rFl_wk⟩
  · refine ⟨rSyn R wf w, ?_, Or.inl ?_⟩
    · rw [e_syncDisk, gd_t ⟨B, ok⟩, if_pos ⟨on1 h9, by rw [h6]; exact c⟩, n1, n2]
    · rw [show aSn (D, b, le, wr, ss) = (true, aSy D, b, sLe le, wr, ss + 1) from if_neg c]
      refine ⟨rfl, ⟨wf, 0, RDk.sync h1 hN (fun i hi => ?_), ⟨h2.1, h2.2.1, h2.2.2.1, h2.2.2.2⟩, rDb_syn h3, h4, h5, ?_, h7, ?_, h9⟩, HwF.syn⟩
      · obtain ⟨t, ht, e⟩ := h3.2.1 i hi
        exact ⟨t, by omega, e⟩
      · show (if 0 < rS R 12 then rS R 12 - 1 else rS R 12) = sLe le
        rw [h6]
        rfl
      · show rS R 14 + 1 = ss + 1
        rw [show rS R 14 = ss from h8]
end PZV
