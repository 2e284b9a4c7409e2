/-! ===== pure: a directory gets a block, inside a call ===== -/
section PXB
variable {N B gr r : Nat} {V W : Nat → Rw} {m : M5} {tk : Nat → Bool} {d s : Nat} {ow : Nat → Int} {s0 : S3} {l : List Nat} {A : MS} {D : CfT} {R : RfT}
/-- what stays of V in W, but that d may have more -/
def Keep (V W : Nat → Rw) (d : Nat) : Prop := (∀ j, ir j → f1 W j 0 = f1 V j 0 ∧ f1 W j 1 = f1 V j 1) ∧ (∀ j, ir j → j ≠ d → szM W j = szM V j ∧ ∀ x, x < 4234 → pv W j x = pv V j x) ∧ (∀ e s, ir e → f1 V e 0 = 2 → s < szM V e / 16 → sln W e s = sln V e s) ∧ szM V d ≤ szM W d
theorem w_dgrow {p : Nat} (hN1 : 61 ≤ N) (hN : N ≤ 1024) (hd : ir d) (hk : f1 V d 0 = 2) (hp : p = szM V d / 128) (h : WK N B gr (r + msM V d p) s0 l A D R m V tk ow) : (∃ v A1 D1 R1 A2 D2 R2 m' W tk' l2, d_X7_have N B gr A D (nI d) (nI p) 1 = some (.inl (v, A1, D1)) ∧ e_have R (nI d) (nI p) (nI p) = some R1 ∧ ¬ rS R1 11 = 0 ∧ d_X7_size N (vA A1) D1 (nI d) = some (nI (szM V d)) ∧ d_X7_setSize N A1 D1 (nI d) (nI (szM V d + 128)) = some (A2, D2) ∧ e_setField R1 (nI d) 4 4 (nI (szM V d + 128)) = some R2 ∧ l2.length = 5 ∧ WK N B gr r s0 (l2 ++ l) A2 D2 R2 m' W tk' ow ∧ gA A2 = gA A ∧ Dt D D2 ∧ Fq hS hT R R2 ∧ Keep V W d ∧ szM W d = szM V d + 128 ∧ ∀ s, szM V d / 16 ≤ s → s < szM V d / 16 + 8 → sln W d s = 0) ∨ (∃ A' D' R', d_X7_have N B gr A D (nI d) (nI p) 1 = some (.inr (0, A', D')) ∧ e_have R (nI d) (nI p) (nI p) = some R' ∧ rS R' 11 = 0 ∧ Dd N R A'.1 R' ∧ Dt D D' ∧ FlT N B m A' D') := by
  have hh := ir_home hd
  have hlim := h.2.1.dlim hd hk
  have hp4 : p < 4168 := by omega
  obtain ⟨z1, z2⟩ := h.2.1.2.2.2.2.1 d hd hk
  have ek : e_have R (nI d) (nI p) (nI p) = e_have_19 (3999998 + 1 + 1) R (nI d) (nI p) (bI true) (nI p) := by
    rw [e_have, bnd_o (j_kind (D2 := D) hN1 hN h.1 hd).2, hk, if_pos (show nI 2 = (2 : Int32) from rfl), show fuL = 3999998 + 1 + 1 from rfl]
    rfl
  have e19 : ∀ X : RfT, e_have_19 (3999998 + 1) X (nI d) (nI p) (bI true) (nI (p + 1)) = some X := fun X => by
    rw [e_have_19, if_pos (nI_lt (by omega) (by omega))]
  have q := j_have1 (n := 3999998 + 1) (to := p) (tb := true) hN1 hN hd ⟨h.1, h.2.1.1, h.2.2.1⟩ hp4 (Nat.le_refl _) hp4
  rcases q with ⟨A1, D1, R1, m', V1, tk', a1, a2, ⟨a3x, a3w, a3b⟩, a4, a5, a6, a7, a8, a9, a10, a11, a12⟩ | ⟨A1, D1, R1, a1, a2, a3, a4, a5⟩
  · rw [e19] at a2
    obtain ⟨A2, D2, R2, b1, b2, b3, b4, b5, b6⟩ := j_setSize (i := d) (v := nI (szM V d + 128)) hN1 hN a3x hd.1 hd.2
    have esz : szM V1 d = szM V d := a4.sz hd
    obtain ⟨g1, g2, g3, g4, g5, g6, g7⟩ := h.2.1.growD hd hk a4 a3w hp (by omega) a5 rfl
    have hpx : pv (fldV V1 d 4 4 (nI (szM V d + 128))) d (px p) ≠ 0 := by
      rw [g3 d _ hd (px_lt hp4)]
      exact a5
    have st1 : St N B m V tk m' V1 tk' := St.grow hd (fun _ => rfl) a4 a11 a10
    have st2 : St N B m' V1 tk' m' (fldV V1 d 4 4 (nI (szM V d + 128))) tk' := St.same (fun j x hj hx => g3 j x hj hx) (fun j hj => Or.inl (by
      rw [(g2 j hj).1]
      exact (a4.2.1 j 0 hj (by decide)).symm))
    refine Or.inl ⟨_, A1, D1, R1, A2, D2, R2, m', _, tk', [43, homeM d, pv V1 d (px p), pv V1 d (hx (px p)), pv V1 d 9], a1, by rw [ek]; exact a2, a3x.2.1.1.1.on, by rw [(j_size (D2 := D1) hN1 hN a3x hd).1, esz], b1, b2, rfl, ?_, b4.trans a6, a7.tr b5, a8.tr (b6.1.wk (by decide) (by decide)), ⟨fun j hj => ⟨(g2 j hj).1, (g2 j hj).2.1⟩, fun j hj hne => ⟨by rw [(g2 j hj).2.2, if_neg hne], fun x hx => by rw [g3 j x hj hx]; exact a4.1 j x hj hx (Or.inr (Or.inl hne))⟩, g4, ?_⟩, ?_, g6⟩
    · refine h.chg hN1 b3 g1 (a3b.v (fld_x (by omega))) (st1.tr st2) (fun o1 o2 => ?_) (fun b u1 u2 hc => ?_)
      · obtain ⟨w1, w2⟩ := a12 (OkP m' (fldV V1 d 4 4 (nI (szM V d + 128)))) (OkP.lo (by decide)) (OkP.lo hh.2) (fun x x1 x2 x3 => Or.inr (Or.inl ⟨x3, d, x, hd, x1, g3 d x hd x1, Or.inr (by rw [(g2 d hd).1]; exact hk)⟩)) o1 o2
        exact ⟨ow_size hd.1 hd.2 b1 w1 (OkP.lo hh.2), ww_field (a := 4) (n := 4) hN1 hN a3x.2.1 hd.1 hd.2 (by decide) (by decide) b2 w2 (OkP.lo hh.2)⟩
      · by_cases c43 : b = 43
        · exact Or.inr (by rw [c43]; exact List.mem_cons_self ..)
        · by_cases ch : b = homeM d
          · exact Or.inr (by rw [ch]; exact List.mem_cons_of_mem _ (List.mem_cons_self ..))
          · have inl : yB d true (pY p) V1 b → b ∈ [43, homeM d, pv V1 d (px p), pv V1 d (hx (px p)), pv V1 d 9] := fun ⟨_, x, x1, x2, x3, x4⟩ => by
              rcases x2 with z | z | z
              · rw [← x4, z]; simp
              · rw [← x4, z.2]; simp
              · rw [← x4, z.2]; simp
            have hbef := (a10.mr.bef hN1 h.2.2.1.1).2 b u1 u2
            rcases hc with hc | hc
            · rcases a11.2.2.2 b hc with z | z
              · exact Or.inl (Or.inl z)
              · exact Or.inr (inl z)
            · rw [fld_x ch, hbef] at hc
              rcases a11.2.2.1 b (by omega) with z | z | z
              · rw [z] at hc
                exact Or.inl (Or.inr hc)
              · exact absurd z ch
              · exact Or.inr (inl z)
    · rw [(g2 d hd).2.2, if_pos rfl]
      omega
    · rw [(g2 d hd).2.2, if_pos rfl]
  · rw [e19] at a2
    exact Or.inr ⟨A1, D1, R1, a1, by rw [ek]; exact a2, a3.1.1, a3, a4, a5⟩
end PXB
