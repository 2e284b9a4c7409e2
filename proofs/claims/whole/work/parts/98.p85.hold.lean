/-! ===== pure: who holds ===== -/
section PXL
variable {N B gr r u : Nat} {V W : Nat → Rw} {m : M5} {tk : Nat → Bool} {A : MS} {D D' : CfT} {R R' : RfT} {g : Bool} {hd hi hd' hi' : Nat → Nat} {tp : Nat → Int32} {tl : Nat} {ow : Nat → Int} {ex : Nat → Int32}
theorem cA_e {k : Nat} {x : Nat → Int32} : cA (sA D k x) k = x := if_pos rfl
theorem cA_n {j k : Nat} {x : Nat → Int32} (h : j ≠ k) : cA (sA D k x) j = cA D j := if_neg h
def upN (f : Nat → Nat) (k v : Nat) : Nat → Nat := fun j => if j = k then v else f j
theorem upN_s {f : Nat → Nat} {k v : Nat} : upN f k v k = v := if_pos rfl
theorem upN_n {f : Nat → Nat} {j k v : Nat} (h : j ≠ k) : upN f k v j = f j := if_neg h
/-- other holders, nothing else -/
theorem IM.ho (h : IM N B gr u g A D R m V tk hd hi tp tl) (e1 : D'.1 = D.1) (e2 : ∀ k, k ∉ [33, 34, 35, 36] → cA D' k = cA D k) (f : Fn [] [52, 53, 54, 55] R R') (hr : HRel D' R' hd' hi') (hw : HdW V hd' hi') : IM N B gr u g A D' R' m V tk hd' hi' tp tl := by
  obtain ⟨a1, a2, a3, a4, a5, a6, a7, ⟨⟨t1, t2, t3⟩, b2, b3, b4, b5, b6, b7, b8⟩, a9, a10⟩ := h
  have s1 : ∀ j, cS D' j = cS D j := fun j => by show D'.1 j = D.1 j; rw [e1]
  refine ⟨⟨a1.1.dd (s1 _) (e2 29 (by decide)), a1.2.fr f (by decide) (by decide)⟩, a2, a3, fun z => ⟨(a4 z).1, (a4 z).2.fr f (by decide)⟩, a5, hr, hw, ⟨⟨t1, fun j => by rw [e2 1 (by decide)]; exact t2 j, fun j hj => by rw [f.1.2.1 4 (by decide)]; exact t3 j hj⟩, by rw [s1]; exact b2, by rw [f.1.1 5 (by decide)]; exact b3, b4, ⟨by rw [s1]; exact b5.1, by rw [e2 53 (by decide)]; exact b5.2⟩, by rw [f.1.1 21 (by decide)]; exact b6, by rw [f.1.1 34 (by decide)]; exact b7, by rw [f.1.2.1 48 (by decide)]; exact b8⟩, a9, a10.1, a10.2.1, by rw [e2 42 (by decide)]; exact a10.2.2⟩
theorem HRel.hold (h : HRel D R hd hi) {i x : Nat} (hx : x ≤ 100) : HRel (sA D 33 (upd (cA D 33) i (nI x))) (setA R 52 (upd (rA R 52) i (nI x))) (upN hd i x) hi := by
  refine ⟨fun k hk => ?_, fun k hk => ?_, fun k hk => ?_⟩
  · rw [cA_e, rA_e]
    by_cases c : k = i
    · rw [c, pk_us, pk_us, upN_s]
      exact ⟨rfl, rfl, hx⟩
    · rw [pk_un c, pk_un c, upN_n c]
      exact h.1 k hk
  · rw [cA_n (by decide), rA_n (by decide)]
    exact h.2.1 k hk
  · rw [cA_n (by decide), cA_n (by decide), rA_n (by decide), rA_n (by decide)]
    exact h.2.2 k hk
theorem HRel.grip (h : HRel D R hd hi) {i x : Nat} (hx : x = 0) : HRel (sA D 34 (upd (cA D 34) i (nI x))) (setA R 53 (upd (rA R 53) i (nI x))) hd (upN hi i x) := by
  refine ⟨fun k hk => ?_, fun k hk => ?_, fun k hk => ?_⟩
  · rw [cA_n (by decide), rA_n (by decide)]
    exact h.1 k hk
  · rw [cA_e, rA_e]
    by_cases c : k = i
    · rw [c, pk_us, pk_us, upN_s]
      exact ⟨rfl, rfl, by omega⟩
    · rw [pk_un c, pk_un c, upN_n c]
      exact h.2.1 k hk
  · rw [cA_n (by decide), cA_n (by decide), rA_n (by decide), rA_n (by decide)]
    intro h0
    by_cases c : k = i
    · rw [c, upN_s] at h0
      exact absurd hx h0
    · rw [upN_n c] at h0
      exact h.2.2 k hk h0
theorem HRel.place (h : HRel D R hd hi) {i x : Nat} (hx : x ≤ 400000) : HRel (sA D 35 (upd (cA D 35) i (nI x))) (setA R 54 (upd (rA R 54) i (nI x))) hd hi := by
  refine ⟨fun k hk => ?_, fun k hk => ?_, fun k hk => ?_⟩
  · rw [cA_n (by decide), rA_n (by decide)]
    exact h.1 k hk
  · rw [cA_n (by decide), rA_n (by decide)]
    exact h.2.1 k hk
  · rw [cA_e, rA_e, cA_n (by decide), rA_n (by decide)]
    by_cases c : k = i
    · rw [c, pk_us, pk_us]
      exact fun h0 => ⟨rfl, (h.2.2 i (by omega) h0).2.1, x, hx, rfl⟩
    · rw [pk_un c, pk_un c]
      exact h.2.2 k hk
theorem HRel.way (h : HRel D R hd hi) {i : Nat} {x : Int32} : HRel (sA D 36 (upd (cA D 36) i x)) (setA R 55 (upd (rA R 55) i x)) hd hi := by
  refine ⟨fun k hk => ?_, fun k hk => ?_, fun k hk => ?_⟩
  · rw [cA_n (by decide), rA_n (by decide)]
    exact h.1 k hk
  · rw [cA_n (by decide), rA_n (by decide)]
    exact h.2.1 k hk
  · rw [cA_e, rA_e, cA_n (by decide), rA_n (by decide)]
    by_cases c : k = i
    · rw [c, pk_us, pk_us]
      exact fun h0 => ⟨(h.2.2 i (by omega) h0).1, rfl, (h.2.2 i (by omega) h0).2.2⟩
    · rw [pk_un c, pk_un c]
      exact h.2.2 k hk
theorem IM.place {i x : Nat} (h : IM N B gr u g A D R m V tk hd hi tp tl) (hx : x ≤ 400000) : IM N B gr u g A (sA D 35 (upd (cA D 35) i (nI x))) (setA R 54 (upd (rA R 54) i (nI x))) m V tk hd hi tp tl := h.ho rfl (fun k hk => cA_n (fun z => hk (by rw [z]; decide))) (Fn.a (by decide)) (h.2.2.2.2.2.1.place hx) h.2.2.2.2.2.2.1
theorem IM.hold {i x : Nat} (h : IM N B gr u g A D R m V tk hd hi tp tl) (hi0 : ir i) (hk : f1 V i 0 ≠ 0) (hx : x ≤ 100) : IM N B gr u g A (sA D 33 (upd (cA D 33) i (nI x))) (setA R 52 (upd (rA R 52) i (nI x))) m V tk (upN hd i x) hi tp tl := h.ho rfl (fun k hk => cA_n (fun z => hk (by rw [z]; decide))) (Fn.a (by decide)) (h.2.2.2.2.2.1.hold hx) (by
  obtain ⟨w1, w2, w3⟩ := h.2.2.2.2.2.2.1
  refine ⟨?_, fun j hj h0 => ?_, w3⟩
  · rw [upN_n (fun z => by rw [← z] at hi0; exact absurd hi0.1 (by decide))]
    exact w1
  · by_cases c : j = i
    · rw [c]; exact hk
    · rw [upN_n c] at h0
      exact w2 j hj h0)
/-- handles, both ways -/
theorem j_hnd (h : HRel D R hd hi) (a0 : Int32) : (∃ k, k < 32 ∧ a0 = nI k ∧ hi k ≠ 0 ∧ d_X5_isOpen N W D a0 = some 1 ∧ e_isHandle R a0 = some 1) ∨ (d_X5_isOpen N W D a0 = some 0 ∧ e_isHandle R a0 = some 0) := by
  by_cases c : a0 < 0
  · exact Or.inr ⟨by rw [d_X5_isOpen, if_pos c], by rw [e_isHandle, if_pos c]⟩
  · by_cases c2 : (32 : Int32) ≤ a0
    · exact Or.inr ⟨by rw [d_X5_isOpen, if_neg c, if_pos c2], by rw [e_isHandle, if_neg c, if_pos c2]⟩
    · have q2 : ¬ (32 : Int32).toInt ≤ a0.toInt := fun z => c2 (Int32.le_iff_toInt_le.mpr z)
      have q2 : ¬ (32 : Int) ≤ a0.toInt := q2
      have e : a0.toNatClampNeg = a0.toInt.toNat := rfl
      have ek : a0 = nI a0.toNatClampNeg := nI_cl c
      have hk : a0.toNatClampNeg < 32 := by rw [e]; omega
      generalize a0.toNatClampNeg = k at ek hk
      obtain ⟨g1, g2, g3⟩ := h.2.1 k hk
      by_cases z : hi k = 0
      · refine Or.inr ⟨?_, ?_⟩
        · rw [d_X5_isOpen, if_neg c, if_neg c2, ek, ld_n hk (by decide), g1, z]
          rfl
        · rw [e_isHandle, if_neg c, if_neg c2, ek, ld_n hk (by decide), g2, z]
          rfl
      · refine Or.inl ⟨k, hk, ek, z, ?_, ?_⟩
        · rw [d_X5_isOpen, if_neg c, if_neg c2, ek, ld_n hk (by decide), g1, if_neg (nI_ne0 (by omega) (by omega))]
        · rw [e_isHandle, if_neg c, if_neg c2, ek, ld_n hk (by decide), g2, if_neg (nI_ne0 (by omega) (by omega))]
theorem r_hold {a0 : Int32} (hN1 : 61 ≤ N) (hN : N ≤ 1024) (h : IM N B gr u g A D R m V tk hd hi tp tl) (hL : LH V hd hi := by assumption) : RetR N B gr (u + 100) ex (d_X11_hold N B gr A D a0) (e_hold R a0) := by
  obtain ⟨n1, R1, n2, h1, ot, t0, -, -⟩ := h.nm hN
  rw [d_X11_hold, bndF_l n1, e_hold, bnd2_o n2, if_pos rfl]
  rcases i_rng a0 with ⟨i, hir, rfl⟩ | hx
  · obtain ⟨k1, k2⟩ := j_kind (D2 := D) hN1 hN h1.1 hir
    have hlt := f1_lt V i 0
    have hi65 : i < 65 := by have := hir.2; omega
    obtain ⟨g1, g2, g3⟩ := h1.2.2.2.2.2.1.1 i hi65
    rw [bnd_o k1, bnd_o k2]
    by_cases c : f1 V i 0 = 0
    · rw [if_pos (by rw [c]; rfl), if_pos (by rw [c]; rfl)]
      exact RetR.ok h1 (by omega) t0 rfl rfl
    · rw [if_neg (nI_ne0 (by omega) (by omega)), if_neg (nI_ne0 (by omega) (by omega)), ld_n (g := cA D 33) hi65 (by decide), ld_n (g := rA R1 52) hi65 (by decide), g1, g2]
      by_cases cc : hd i = 100
      · rw [if_neg (by rw [cc]; decide), if_pos (by rw [cc]; rfl)]
        exact RetR.ok h1 (by omega) t0 rfl rfl
      · rw [if_pos (show nI (hd i) < 100 from nI_lt (b := 100) (by omega) (by decide)), if_neg (show ¬ nI (hd i) = (100 : Int32) from fun z => cc (nI_inj (b := 100) (by omega) (by decide) z)), ld_n (g := cA D 33) hi65 (by decide), g1, ld_n (g := rA R1 52) hi65 (by decide), g2, nI_1, stA_n hi65 (by decide), st_n hi65 (by decide), ld_n hi65 (by decide), cA_e, pk_us, ld_n hi65 (by decide), rA_e, pk_us]
        have hL2 : LH V (upN hd i (hd i + 1)) hi := hL.mono (fun j _ z => by
          unfold tmM at z ⊢
          by_cases cj : j = i
          · rw [cj, upN_s]; omega
          · rw [upN_n cj]; exact z)
        exact RetR.ok (h1.hold (x := hd i + 1) hir c (by omega)) (by omega) t0 rfl rfl
  · obtain ⟨k1, k2⟩ := j_kind0 (N := N) (A := A) (D2 := D) (R := R1) hx
    rw [bnd_o k1, bnd_o k2, if_pos rfl, if_pos rfl]
    exact RetR.ok h1 (by omega) t0 rfl rfl
theorem r_seek {a0 a1 : Int32} (hN1 : 61 ≤ N) (hN : N ≤ 1024) (h : IM N B gr u g A D R m V tk hd hi tp tl) (hL : LH V hd hi := by assumption) : RetR N B gr (u + 100) ex (d_X11_seek N B gr A D a0 a1) (e_seek R a0 a1) := by
  obtain ⟨n1, R1, n2, h1, ot, t0, -, -⟩ := h.nm hN
  rw [d_X11_seek, bndF_l n1, e_seek, bnd2_o n2, if_pos rfl]
  rcases j_hnd (N := N) (W := vA A) h1.2.2.2.2.2.1 a0 with ⟨k, hk, rfl, h0, k1, k2⟩ | ⟨k1, k2⟩
  · rw [bnd_o k1, bnd_o k2, if_neg (show ¬ (1 : Int32) = 0 by decide), if_neg (show ¬ (1 : Int32) = 0 by decide)]
    by_cases c : a1 < 0
    · rw [if_pos c, if_pos c]
      exact RetR.ok h1 (by omega) t0 rfl rfl
    · rw [if_neg c, if_neg c]
      by_cases c2 : a1 ≤ 400000
      · rw [if_pos c2, if_pos c2, ld_n hk (by decide), ld_n hk (by decide), (h1.2.2.2.2.2.1.2.2 k hk h0).1]
        have e := nI_cl c
        have q2 : a1.toInt ≤ (400000 : Int32).toInt := Int32.le_iff_toInt_le.mp c2
        have q2 : a1.toInt ≤ (400000 : Int) := q2
        have hq : a1.toNatClampNeg ≤ 400000 := by
          have e2 : a1.toNatClampNeg = a1.toInt.toNat := rfl
          omega
        generalize a1.toNatClampNeg = p at e hq
        rw [e, stA_n hk (by decide), st_n hk (by decide)]
        exact RetR.ok (h1.place hq) (by omega) t0 rfl rfl
      · rw [if_neg c2, if_neg c2]
        exact RetR.ok h1 (by omega) t0 rfl rfl
  · rw [bnd_o k1, bnd_o k2, if_pos rfl, if_pos rfl]
    exact RetR.ok h1 (by omega) t0 rfl rfl
end PXL
