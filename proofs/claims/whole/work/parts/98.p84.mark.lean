/-! ===== pure: mark, hold, seek, look, begin ===== -/
section PXK
variable {N B gr r u : Nat} {V W : Nat → Rw} {m : M5} {tk : Nat → Bool} {A : MS} {D D' : CfT} {R R' : RfT} {g : Bool} {hd hi : Nat → Nat} {tp : Nat → Int32} {tl : Nat} {ow : Nat → Int} {ex : Nat → Int32}
theorem WFs.wf2 (w : WFs N W ow) (ho : ∀ i, ir i → ow i = 0) (h9 : ∀ i, ir i → f1 W i 0 = 2 → i ≠ 1 → f1 W i 1 ≤ 1) (h10 : f1 W 1 1 = 1) (h11 : ∀ d s, ir d → f1 W d 0 = 2 → f1 W d 1 = 0 → s < szM W d / 16 → sln W d s = 0) : WF N W := w.wf ho h9 (by
  have i1 : ir 1 := ⟨Nat.le_refl _, by decide⟩
  have q := w.2.2.2.2.2.2.2 1 i1
  rw [ho 1 i1, h10, if_pos rfl] at q
  omega) h11
theorem WF.l1 (h : WF N V) : f1 V 1 1 = 1 := by
  have i1 : ir 1 := ⟨Nat.le_refl _, by decide⟩
  have q := h.2.2.2.2.2.2.2.1 1 i1
  rw [h.2.2.2.2.2.2.2.2.2.1, if_pos rfl] at q
  exact q
theorem WF.keep (h : WF N V) (w : WFs N W ow) (ho : ∀ i, ir i → ow i = 0) (hk : ∀ j, ir j → f1 W j 0 = f1 V j 0 ∧ f1 W j 1 = f1 V j 1) (hs : ∀ d, ir d → f1 V d 0 = 2 → szM W d = szM V d) (hn : ∀ d s, ir d → f1 V d 0 = 2 → s < szM V d / 16 → sln W d s = sln V d s) : WF N W := by
  have i1 : ir 1 := ⟨Nat.le_refl _, by decide⟩
  refine w.wf2 ho (fun i hi k2 hne => ?_) (by rw [(hk 1 i1).2]; exact h.l1) (fun d s hd k2 l0 hs2 => ?_)
  · rw [(hk i hi).1] at k2
    rw [(hk i hi).2]
    exact h.2.2.2.2.2.2.2.2.1 i hi k2 hne
  · rw [(hk d hd).1] at k2
    rw [(hk d hd).2] at l0
    rw [hs d hd k2] at hs2
    rw [hn d s hd k2 hs2]
    exact h.2.2.2.2.2.2.2.2.2.2 d s hd k2 l0 hs2
theorem HdW.keep (h : HdW V hd hi) (hk : ∀ j, ir j → f1 W j 0 = f1 V j 0) : HdW W hd hi := ⟨h.1, fun i hi h0 => by rw [hk i hi]; exact h.2.1 i hi h0, fun k k1 k2 => ⟨(h.2.2 k k1 k2).1, by rw [hk _ (h.2.2 k k1 k2).1]; exact (h.2.2 k k1 k2).2⟩⟩
theorem r_mark {a0 a1 : Int32} (hN1 : 61 ≤ N) (hN : N ≤ 1024) (hgr : 1 ≤ gr) (hgr2 : gr ≤ 16) (hu : u + 4200 < 2 ^ 31) (h : IM N B gr u g A D R m V tk hd hi tp tl) (hL : LH V hd hi := by assumption) : Ret N B gr (u + 100) ex (d_X11_mark N B gr A D a0 a1) (e_mark R a0 a1) := by
  obtain ⟨n1, R1, n2, h1, ot, t0, -, -⟩ := h.nm hN
  rw [d_X11_mark, bndF_l n1, e_mark, bnd2_o n2, if_pos rfl]
  rcases i_rng a0 with ⟨i, hir, rfl⟩ | hx
  · obtain ⟨k1, k2⟩ := j_kind (D2 := D) hN1 hN h1.1 hir
    have hlt := f1_lt V i 0
    rw [bnd_o k1, bnd_o k2]
    by_cases c : f1 V i 0 = 0
    · rw [if_pos (by rw [c]; rfl), if_pos (by rw [c]; rfl)]
      exact Ret.ok h1 (by omega) t0 rfl rfl
    · rw [if_neg (nI_ne0 (by omega) (by omega)), if_neg (nI_ne0 (by omega) (by omega))]
      obtain ⟨A', D', R', a1', a2, a3, a4, a5, a6⟩ := w_mark (v := a1) hN1 hN (h1.wk hN1 hu ot) hir c
      rw [bnd2_o a1', bnd_o a2]
      have ek : ∀ j, ir j → f1 (fldV V i 8 4 a1) j 0 = f1 V j 0 ∧ f1 (fldV V i 8 4 a1) j 1 = f1 V j 1 := fun j hj => ⟨fld_f1 hir.1 hj.1 (by decide) (by decide) (Or.inr (Or.inl (by decide))), fld_f1 hir.1 hj.1 (by decide) (by decide) (Or.inr (Or.inl (by decide)))⟩
      have esz : szM (fldV V i 8 4 a1) i = szM V i := fld_sz hir (by decide) (Or.inr (by decide))
      have hpz := h1.2.1.s.pz hir
      obtain ⟨-, w2, w3, -⟩ := h1.2.1.s.fc hir (fld_c (a := 8) (n := 4) (v := a1) hir (by decide) (by decide)) c (by rw [esz]; exact hpz.1) (fun q q1 q2 => hpz.2 q (by rw [esz] at q1; exact q1) q2) (fun _ => esz)
      have hV : WF N (fldV V i 8 4 a1) := h1.2.1.keep a3.2.1 (fun _ _ => rfl) ek (fun d hd2 _ => by
        by_cases cd : d = i
        · rw [cd]; exact esz
        · exact ((w2 d hd2).2.2 cd).2) w3
      have kp : Kep D D' R1 R' := Kep.of a5 a6.1 (by decide) (by decide)
      have hLW := hL.keep ek
      exact w_ret hN1 hN hgr hgr2 hu a3 h1.2.2.1 h1.2.2.2.2.1 (h1.cg a3 (by show 1 ≤ 40; decide)) hV (h1.y42 a5) (a4.trans h1.2.2.2.2.2.2.2.2.1) (kp.hr h1.2.2.2.2.2.1) (h1.2.2.2.2.2.2.1.keep (fun j hj => (ek j hj).1)) (kp.fx h1.2.2.2.2.2.2.2.1 (by rw [a6.1.2.1 48 (by decide)]; exact h1.2.2.2.2.2.2.2.1.2.2.2.2.2.2.2)) rfl rfl
  · obtain ⟨k1, k2⟩ := j_kind0 (N := N) (A := A) (D2 := D) (R := R1) hx
    rw [bnd_o k1, bnd_o k2, if_pos rfl, if_pos rfl]
    exact Ret.ok h1 (by omega) t0 rfl rfl
end PXK
