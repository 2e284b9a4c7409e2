/-! ===== pure: apply ===== -/
section PXW
variable {N B gr r u : Nat} {V W : Nat → Rw} {m m' : M5} {tk : Nat → Bool} {A A' : MS} {D D' D2 : CfT} {R R' : RfT} {g : Bool} {hd hi : Nat → Nat} {tp : Nat → Int32} {tl : Nat} {ex : Nat → Int32} {i : Nat}
theorem ap_bef (hN1 : 61 ≤ N) (hm : MOk N B m) (ht : (aApl N B m.2.1 m.2.2.1 m.1).1 = true) (j : Nat) {b : Nat} (h1 : 43 ≤ b) (h2 : b < N) : Wj (apM N B m) j b = Wj m j b := by
  show oSee (qVal (m.2.2.2.1.take j) b) (oSee (lVal (lApl m.2.1 m.2.2.1).1 b) (hSee (aApl N B m.2.1 m.2.2.1 m.1).2 b)) = oSee (qVal (m.2.2.2.1.take j) b) (oSee (lVal m.2.1 b) (hSee m.1 b))
  rw [aApl_see hN1 hm.1 ht h1 h2]
theorem ap_ok (hN1 : 61 ≤ N) (hm : MOk N B m) : MOk N B (apM N B m) := by
  obtain ⟨a1, a2, a3, a4⟩ := aApl_all (tu := m.2.2.1) hN1 hm.1 hm.2.1
  exact ⟨a1, a3, by show (lApl m.2.1 m.2.2.1).1.length ≤ 40; omega, hm.2.2.2⟩
theorem GM.apl (hN1 : 61 ≤ N) (h : GM N m) (hm : MOk N B m) (ht : (aApl N B m.2.1 m.2.2.1 m.1).1 = true) : GM N (apM N B m) := by
  by_cases c : m.2.1.length = 0
  · have e : apM N B m = m := by
      unfold apM aApl lApl
      rw [if_pos c, if_pos c]
    rw [e]
    exact h
  · obtain ⟨g1, g2, g3, g4, g5⟩ := id h
    have ht2 := ht
    unfold aApl at ht2
    rw [if_neg c] at ht2
    obtain ⟨q1, q2⟩ := (mAply_all (tu := m.2.2.1) (L := m.2.1) hN1 hm.1).2.2 ht2
    have e1 : (apM N B m).1 = (mAply N B m.2.1 m.2.2.1 m.1).2 := by
      show (aApl N B m.2.1 m.2.2.1 m.1).2 = _
      unfold aApl
      rw [if_neg c]
    have e2 : (apM N B m).2.1 = [] := by
      show (lApl m.2.1 m.2.2.1).1 = _
      unfold lApl
      rw [if_neg c]
    have e3 : (apM N B m).2.2.1 = m.2.2.1 + 1 := by
      show (lApl m.2.1 m.2.2.1).2 = _
      unfold lApl
      rw [if_neg c]
    refine ⟨fun y hy => ?_, fun y hy => ?_, fun y hy k hk => ?_, fun j hj => (g4 j hj).rows hN1 (fun b b1 b2 => ap_bef hN1 hm ht j b1 b2), fun j hj b b1 b2 b3 => Or.inr (Or.inr (fun y hy => ?_))⟩
    · rw [e1] at hy
      rw [q1.ps (by omega) hy, q2 0 (by omega), if_neg (by decide), lVal_0 hm.2.1 (by decide)]
      exact g1 _ hPs_see
    · rw [e1] at hy
      rw [q1.ps (by omega) hy, q2 1 (by omega), if_pos rfl, e2, e3]
    · rw [e2] at hk
      exact absurd hk (by show ¬ k < 0; omega)
    · rw [e1] at hy ⊢
      exact q1.ps b2 hy
theorem MB.ap (hN1 : 61 ≤ N) (h : MB N B gr u m) (ht : (aApl N B m.2.1 m.2.2.1 m.1).1 = true) : MB N B gr (u + 100) (apM N B m) := by
  obtain ⟨b1, b2, b3, b4, b5, b6, b7, b8⟩ := h
  refine ⟨ap_ok hN1 b1, ?_, b3, b4, b5, b6, b7.apl hN1 b1 ht, fun j hj b hb => ?_, fun b hb => ?_⟩
  · have q := (aApl_all (tu := m.2.2.1) hN1 b1.1 b1.2.1).2.1
    have := b1.2.2.1
    unfold Phi at b2 ⊢
    show hSp (aApl N B m.2.1 m.2.2.1 m.1).2 + 100 * m.2.2.2.1.length ≤ u + 100
    omega
  · have wj : WF N (Wj m j) := b7.2.2.2.1 j hj
    rcases b8.1 j hj b ((isT_dep wj.1 hN1 (fun c c1 c2 => ap_bef hN1 b1 ht j c1 c2)).mp hb) with q | q
    · refine Or.inl ((isT_dep b7.bef.1 hN1 (fun c c1 c2 => ?_)).mpr q)
      have z := ap_bef hN1 b1 ht m.2.2.2.1.length c1 c2
      rw [← Wj_all (m := m), ← z, ← Wj_all]
      rfl
    · exact Or.inr q
  · have z := ap_bef hN1 b1 ht m.2.2.2.1.length (show 43 ≤ 43 from Nat.le_refl _) (show 43 < N by omega)
    have e : befM (apM N B m) 43 = befM m 43 := by
      rw [← Wj_all (m := m), ← z, ← Wj_all]
      rfl
    rw [e] at hb
    exact b8.2 b hb
theorem CX.mdl (h : CX N A D m V tk) (e1 : mA A' = m') (e2 : oA A' = oA A) (e3 : kA A' = kA A) (hb : ∀ b, 43 ≤ b → b < N → befM m' b = befM m b) (hr : m'.2.2.2.2 = m.2.2.2.2) : CX N A' D m' V tk := by
  obtain ⟨a1, a2, a3, a4, a5, a6, a7⟩ := h
  refine ⟨e1, ?_, fun b hb0 hb1 => ?_, a4, fun b hb => by rw [e2]; exact a5 b (by rw [← e3]; exact hb), fun b hb => ?_, fun b hb hu => ?_⟩
  · unfold TI at *
    rw [e2]
    exact a2
  · obtain ⟨q1, q2⟩ := a3 b hb0 hb1
    rw [vA_o, e1, e2, e3, hb b hb0 hb1]
    rw [vA_o, a1] at q1
    exact ⟨q1, q2⟩
  · rw [e2] at hb
    rw [hr]
    exact a6 b hb
  · rw [hr]
    exact a7 b hb hu
/-- both apply -/
theorem IM.apl (hN1 : 61 ≤ N) (hN : N ≤ 1024) (hu : u + 4200 < 2 ^ 31) (h : IM N B gr u g A D R m V tk hd hi tp tl) (ot : OwT A R m V) : (∃ A' R', fAp N B gr A D = some (.inl ((), A', D)) ∧ e_applyLog R = some R' ∧ IM N B gr (u + 100) g A' D R' (apM N B m) V tk hd hi tp tl ∧ ¬ rS R' 11 = 0) ∨ ∃ A' R', fAp N B gr A D = some (.inr (0, A', D)) ∧ e_applyLog R = some R' ∧ Dd N R A'.1 R' ∧ SfT N (u + 100) A' D := by
  have mb := h.2.2.1
  have hph := mb.2.1
  unfold Phi at hph
  have em : mA A = m := h.1.1.1
  have e1 : A.1 = m.1 := by rw [← em]; rfl
  have e2 : A.2.1 = m.2.1 := by rw [← em]; rfl
  have e3 : A.2.2.1 = m.2.2.1 := by rw [← em]; rfl
  obtain ⟨R1, e, o⟩ := RX.apply hN1 hN h.1.2.1 mb.1 (by omega)
  have hc : fAp N B gr A D = if (aApl N B A.2.1 A.2.2.1 A.1).1 = true then some (.inl ((), ((aApl N B A.2.1 A.2.2.1 A.1).2, (lApl A.2.1 A.2.2.1).1, (lApl A.2.1 A.2.2.1).2, A.2.2.2), D)) else some (.inr (0, ((aApl N B A.2.1 A.2.2.1 A.1).2, A.2), D)) := by
    unfold fAp
    rw [if_pos (by rw [e1]; omega)]
  rcases o with ⟨t1, x1, f1⟩ | ⟨t1, x1⟩
  · rw [e1, e2, e3, if_pos t1] at hc
    have hbf : ∀ b, 43 ≤ b → b < N → befM (apM N B m) b = befM m b := fun b b1 b2 => by
      have z := ap_bef hN1 mb.1 t1 m.2.2.2.1.length b1 b2
      rw [← Wj_all (m := m), ← z, ← Wj_all]
      rfl
    have y1 : RY N B gr R1 (apM N B m) V tk := ⟨x1, fun c hc hne => by
      rw [(wOw_fq f1 (by decide) (by decide) (by decide)).1] at hne
      exact h.1.2.2.1 c hc hne, h.1.2.2.2⟩
    refine Or.inl ⟨_, R1, hc, e, h.mdl hN1 ot ⟨?_, y1⟩ hbf (fun b => Iff.rfl) (mb.ap hN1 t1) rfl rfl rfl f1 (by decide) (by decide), x1.1.1.on⟩
    exact h.1.1.mdl (show mA (_, _, _, A.2.2.2) = apM N B m from by rw [← em]; rfl) rfl rfl hbf rfl
  · rw [e1, e2, e3, if_neg (by rw [t1]; decide)] at hc
    refine Or.inr ⟨_, R1, hc, e, x1, ⟨mb.2.2.2.2.2.2.1.apd hN1 mb.1 h.1.2.1.1.2.1.lgn, ?_⟩, h.1.1.tj⟩
    have q := (aApl_all (tu := m.2.2.1) hN1 mb.1.1 mb.1.2.1).2.1
    have q2 := mb.1.2.2.1
    show hSp (aApl N B m.2.1 m.2.2.1 m.1).2 ≤ u + 100
    omega
theorem r_apply (hN1 : 61 ≤ N) (hN : N ≤ 1024) (hgr : 1 ≤ gr) (hu : u + 4200 < 2 ^ 31) (h : IM N B gr u g A D R m V tk hd hi tp tl) (hL : LH V hd hi := by assumption) : Ret N B gr (u + 100) ex (d_X11_apply N B gr A D) (e_apply R) := by
  obtain ⟨n1, R1, n2, h1, ot, t0, -, -⟩ := h.nm hN
  rw [d_X11_apply, bndF_l n1, e_apply, bnd2_o n2, i00]
  rcases h1.flush hN1 hN hgr hu ot with ⟨A', R', a1, a2, a3, a4, a5, -⟩ | ⟨v, A', R', a1, a2, a3, a4⟩
  · have el : rS R' 25 = nI A'.2.1.length := by
      have q := a3.1.2.1.1.2.1.2.1
      have em : mA A' = flM N B m := a3.1.1.1
      rw [q, ← em]
      rfl
    rw [bndF_l a1, bnd2_o a2, el]
    rcases a3.apl hN1 hN hu a4 with ⟨A2, R2, b1, b2, b3, b4⟩ | ⟨A2, R2, b1, b2, b3, b4⟩
    · rw [bndF_l b1, bnd_o b2, bnd2_o (ans_on b4)]
      exact Ret.ok b3.thr (by omega) rS_0 rfl rfl
    · rw [bndF_r b1, bnd_o b2, bnd2_o (ans_off b3.1.1)]
      exact Or.inr (Or.inl ⟨A2, D, _, 0, rfl, rfl, rS_0, a3.2.2.2.2.2.2.2.1.off a3.2.2.2.2.2.2.2.2.2.2.2 Dt.rf (Dd.thr b3), ⟨R', Dd.thr b3, a3.1.2.kc⟩, b4⟩)
  · rw [bndF_r a1, bnd2_o a2]
    have q := a3.apply
    rw [bnd_o q, bnd2_o (ans_off a3.1.1)]
    exact Ret.off hN1 h1 Dt.rf a3 a4 rfl rfl
end PXW
