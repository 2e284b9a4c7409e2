/-! ===== pure: where, begin, entry, letter ===== -/
section PXN
variable {N B gr r u : Nat} {V W : Nat → Rw} {m : M5} {tk : Nat → Bool} {A : MS} {D D' D2 : CfT} {R R' : RfT} {g : Bool} {hd hi hd' hi' : Nat → Nat} {tp : Nat → Int32} {tl : Nat} {ow : Nat → Int} {ex : Nat → Int32} {i d s : Nat}
theorem r_where {a0 a1 : Int32} (hN1 : 61 ≤ N) (hN : N ≤ 1024) (hx : ex 2 = 2) (h : IM N B gr u g A D R m V tk hd hi tp tl) (hL : LH V hd hi := by assumption) : RetR N B gr (u + 100) ex (d_X11_where N B gr A D a0 a1) (e_where R a0 a1) := by
  obtain ⟨n1, R1, n2, h1, ot, t0, -, -⟩ := h.nm hN
  rw [d_X11_where, bndF_l n1, e_where, bnd2_o n2, if_pos rfl]
  by_cases c : a1 < 0
  · rw [if_pos c, if_pos c, bnd2_o ref1, if_neg (by decide)]
    exact RetR.no h1.thr (by omega) (by rw [rS_0, hx]) (by decide) rfl rfl
  · have ea := nI_cl c
    have hq : a1.toNatClampNeg < 2 ^ 31 := cl_b
    generalize a1.toNatClampNeg = q at ea hq
    rw [if_neg c, if_neg c]
    clear c
    subst ea
    by_cases c2 : q < 4168
    · rw [if_pos (show nI q < 4168 from nI_lt (b := 4168) c2 (by decide)), if_pos (show nI q ≤ 4167 from nI_le (b := 4167) (by omega) (by decide)), bnd2_o ref0, if_pos rfl, e_where_33]
      have h2 := h1.thr (v := 0)
      rcases i_rng a0 with ⟨i, hir, rfl⟩ | hx
      · obtain ⟨k1, k2⟩ := j_kind (D2 := D) hN1 hN h2.1 hir
        have hlt := f1_lt V i 0
        rw [bnd_o k1, bnd_o k2]
        by_cases c : f1 V i 0 = 0
        · rw [if_pos (by rw [c]; rfl), if_pos (by rw [c]; rfl)]
          exact RetR.ok h2 (by omega) rS_0 rfl rfl
        · have hz := (h2.2.1.pz hir).1
          obtain ⟨s1, s2⟩ := j_size (D2 := D) hN1 hN h2.1 hir
          rw [if_neg (nI_ne0 (by omega) (by omega)), if_neg (nI_ne0 (by omega) (by omega)), bnd_o s1, bnd_o s2, bnd_o (d_bF (by omega)), show (128 : Int32) = nI 128 from rfl, pk_mul]
          by_cases cs : 128 * q < szM V i
          · obtain ⟨b1, b2⟩ := j_blk (D2 := D) hN1 hN h2.1 h2.2.1.1 hir c2
            rw [if_neg (nI_ge (show q < bfM (szM V i) by unfold bfM; omega) (by unfold bfM; omega)), if_pos (nI_lt cs (by omega)), bnd_o b1, bnd_o b2]
            exact RetR.ok h2 (by omega) rS_0 rfl rfl
          · rw [if_pos (nI_le (show bfM (szM V i) ≤ q by unfold bfM; omega) (by omega)), if_neg (nI_nlt (by omega) (by omega))]
            exact RetR.ok h2 (by omega) rS_0 rfl rfl
      · obtain ⟨k1, k2⟩ := j_kind0 (N := N) (A := A) (D2 := D) (R := setS R1 0 0) hx
        rw [bnd_o k1, bnd_o k2, if_pos rfl, if_pos rfl]
        exact RetR.ok h2 (by omega) rS_0 rfl rfl
    · rw [if_neg (show ¬ nI q < 4168 from nI_nlt (b := 4168) (by omega) hq), if_neg (show ¬ nI q ≤ 4167 from nI_ge (a := 4167) (by omega) hq), bnd2_o ref1, if_neg (by decide)]
      exact RetR.no h1.thr (by omega) (by rw [rS_0, hx]) (by decide) rfl rfl
theorem r_begin (hN : N ≤ 1024) (h : IM N B gr u g A D R m V tk hd hi tp tl) (hL : LH V hd hi := by assumption) : RetR N B gr (u + 100) ex (d_X11_begin N B gr A D) (e_begin R) := by
  obtain ⟨n1, R1, n2, h1, ot, t0, -, -⟩ := h.nm hN
  rw [d_X11_begin, bndF_l n1, e_begin, bnd2_o n2, if_pos rfl]
  have hg := h1.2.2.2.2.2.2.2.2.1
  have h34 := h1.2.2.2.2.2.2.2.1.2.2.2.2.2.2.1
  cases g with
  | true =>
    rw [if_neg (by unfold gpI; rw [show A.2.2.2.2.2.2.2 = true from hg]; decide), if_neg (by rw [h34]; decide)]
    exact RetR.ok h1 (by omega) t0 rfl rfl
  | false =>
    rw [if_pos (by unfold gpI; rw [show A.2.2.2.2.2.2.2 = false from hg]; rfl), if_pos (by rw [h34]; rfl)]
    obtain ⟨a1, a2, a3, -, a5, a6, a7, ⟨b1, b2, b3, b4, b5, b6, b7, b8⟩, -, -, a11⟩ := h1
    have f : Fn [34] [] R1 (setS R1 34 1) := Fn.s (by decide)
    exact RetR.ok (A := aGp A true) (R := setS R1 34 1) (g := true) (u := u) (m := m) (V := V) (tk := tk) (hd := hd) (hi := hi) (tp := tp) (tl := tl) ⟨⟨a1.1, a1.2.fr f (by decide) (by decide)⟩, a2, a3, fun _ => ⟨ot.1, ot.2.fr f (by decide)⟩, a5, a6, a7, ⟨b1, b2, by rw [f.1.1 5 (by decide)]; exact b3, b4, b5, by rw [f.1.1 21 (by decide)]; exact b6, pk_us (f := R1.1) (k := 34), b8⟩, rfl, (fun z => by cases z), a11⟩ (by omega) (by rw [f.1.1 0 (by decide)]; exact t0) rfl rfl
theorem nm_255 : ∀ {n : Nat}, n ≤ 13 → nI n &&& 255 = nI n := by
  have h : ∀ n : Fin 14, nI n.val &&& 255 = nI n.val := by decide
  exact fun {n} hn => h ⟨n, by omega⟩
/-- a name by its number -/
theorem j_slotNm_l {a n : Nat} (hN1 : 61 ≤ N) (hN : N ≤ 1024) (h : JX N B gr A D R m V tk) (hw : WF N V) (hd : ir d) (hk : f1 V d 0 = 2) (ha : a < 2 ^ 31) (hn : n = szM V d / 16) : ∀ (m1 m2 s c : Nat), s ≤ n → c ≤ a → n - s < m1 → n - s < m2 → ∃ v, d_X4_slotOfName_30 N (vA A) D2 m1 (nI d) (nI (a - c)) (nI n) (nI s) = some v ∧ e_slotOfName_30 R m2 (nI d) (nI a) (nI n) (nI c) (nI s) = some v ∧ (v = -1 ∨ ∃ t, t < n ∧ v = nI t ∧ sln V d t ≠ 0) := by
  have hz := hw.dsz hd
  intro m1
  induction m1 with
  | zero => intro m2 s c _ _ hf; exact absurd hf (Nat.not_lt_zero _)
  | succ m1 ih =>
    intro m2 s c hs hc hm1 hm2
    obtain ⟨m2, rfl⟩ : ∃ x, m2 = x + 1 := ⟨m2 - 1, by omega⟩
    rw [d_X4_slotOfName_30, e_slotOfName_30]
    by_cases e : s = n
    · rw [e, if_pos (nI_le (Nat.le_refl _) (by omega)), if_pos (nI_le (Nat.le_refl _) (by omega))]
      exact ⟨-1, rfl, rfl, Or.inl rfl⟩
    · have hs2 : s < szM V d / 16 := by omega
      rw [if_neg (nI_ge (by omega) (by omega)), if_neg (nI_ge (by omega) (by omega)), bnd_o (c_sl2 hN1 hN h.1 hw hd hk hs2), bnd_o (z_sl2 hN1 hN h.2 hw hd hk hs2)]
      have hl : sln V d s < 65536 := n2_lt _ _
      by_cases e0 : sln V d s = 0
      · rw [if_pos (by rw [e0]; rfl), if_pos (by rw [e0]; rfl), nI_1]
        exact ih m2 (s + 1) c (by omega) hc (by omega) (by omega)
      · have z0 : ¬ nI (sln V d s) = 0 := nI_ne0 (by omega) (by omega)
        rw [if_neg z0, if_neg z0]
        by_cases ec : c = a
        · rw [ec, Nat.sub_self, nI_0, i00, if_pos rfl]
          exact ⟨nI s, rfl, rfl, Or.inr ⟨s, by omega, rfl, e0⟩⟩
        · rw [if_neg (nI_ne0 (by omega) (by omega)), if_neg (fun z => ec (nI_inj (by omega) ha z)), nI_1, nI_1, show nI (a - c) + (-1 : Int32) = nI (a - (c + 1)) from by rw [show a - c = a - (c + 1) + 1 by omega]; exact pk_m1 _]
          exact ih m2 (s + 1) (c + 1) (by omega) (by omega) (by omega) (by omega)
theorem j_slotNm {a0 a1 : Int32} (hN1 : 61 ≤ N) (hN : N ≤ 1024) (h : JX N B gr A D R m V tk) (hw : WF N V) : ∃ v, d_X4_slotOfName N (vA A) D2 a0 a1 = some v ∧ e_slotOfName R a0 a1 = some v ∧ (v = -1 ∨ ∃ d t, ir d ∧ a0 = nI d ∧ f1 V d 0 = 2 ∧ t < szM V d / 16 ∧ v = nI t ∧ sln V d t ≠ 0) := by
  rw [d_X4_slotOfName, e_slotOfName]
  rcases i_rng a0 with ⟨i, hir, rfl⟩ | hx
  · obtain ⟨k1, k2⟩ := j_kind (D2 := D2) hN1 hN h hir
    have hlt := f1_lt V i 0
    rw [bnd_o k1, bnd_o k2]
    by_cases c : f1 V i 0 = 2
    · have z2 : nI (f1 V i 0) = (2 : Int32) := by rw [c]; rfl
      rw [if_pos z2, if_pos z2]
      by_cases ca : a1 < 0
      · rw [if_neg (i_ltn ca), if_neg (i_ltn ca)]
        exact ⟨-1, rfl, rfl, Or.inl rfl⟩
      · have ea := nI_cl ca
        have hq : a1.toNatClampNeg < 2 ^ 31 := cl_b
        generalize a1.toNatClampNeg = q at ea hq
        rw [if_pos (i_nlt ca), if_pos (i_nlt ca)]
        have hz := hw.dsz hir
        obtain ⟨s1, s2⟩ := j_size (D2 := D2) hN1 hN h hir
        obtain ⟨v, v1, v2, v3⟩ := j_slotNm_l (D2 := D2) (a := q) hN1 hN h hw hir c hq rfl fuL fuL 0 0 (by omega) (by omega) (by rw [fuL_4]; omega) (by rw [fuL_4]; omega)
        rw [d_X4_slots, bnd_o s1, bnd_o s2, show (16 : Int32) = nI 16 from rfl, pk_div (by omega) (by decide) (by decide), ea]
        rw [Nat.sub_zero, nI_0] at v1
        rw [nI_0] at v2
        refine ⟨v, v1, v2, v3.imp id (fun ⟨t, t1, t2, t3⟩ => ⟨i, t, hir, rfl, c, t1, t2, t3⟩)⟩
    · rw [if_neg (nx2 c (by omega)), if_neg (nx2 c (by omega))]
      exact ⟨-1, rfl, rfl, Or.inl rfl⟩
  · obtain ⟨k1, k2⟩ := j_kind0 (N := N) (A := A) (D2 := D2) (R := R) hx
    rw [bnd_o k1, bnd_o k2, if_neg (by decide), if_neg (by decide)]
    exact ⟨-1, rfl, rfl, Or.inl rfl⟩
theorem r_entry {a0 a1 : Int32} (hN1 : 61 ≤ N) (hN : N ≤ 1024) (hx : ex 3 = 2) (h : IM N B gr u g A D R m V tk hd hi tp tl) (hL : LH V hd hi := by assumption) : RetR N B gr (u + 100) ex (d_X11_entry N B gr A D a0 a1) (e_entry R a0 a1) := by
  obtain ⟨n1, R1, n2, h1, ot, t0, -, -⟩ := h.nm hN
  obtain ⟨v, v1, v2, v3⟩ := j_slotNm (D2 := D) (a0 := a0) (a1 := a1) hN1 hN h1.1 h1.2.1
  rw [d_X11_entry, bndF_l n1, e_entry, bnd2_o n2, if_pos rfl, bnd_o v1, bnd_o v2]
  rcases v3 with rfl | ⟨d, t, hd, rfl, hk, ht, rfl, h0⟩
  · rw [if_pos rfl, if_pos rfl, bnd2_o ref1, if_neg (by decide)]
    exact RetR.no h1.thr (by omega) (by rw [rS_0, hx]) (by decide) rfl rfl
  · have hz := h1.2.1.dsz hd
    have h2 := h1.thr (v := 0)
    rw [if_neg (nI_m1 (by omega)), if_neg (nI_m1 (by omega)), bnd2_o ref0, if_pos rfl, bnd_o (c_sl2 hN1 hN h2.1.1 h2.2.1 hd hk ht), bnd_o (z_sl2 hN1 hN h2.1.2 h2.2.1 hd hk ht)]
    exact RetR.ok h2 (by omega) rS_0 rfl rfl
theorem j_slb {o : Nat} (hN1 : 61 ≤ N) (hN : N ≤ 1024) (h : JX N B gr A D R m V tk) (hw : WF N V) (hd : ir d) (hk : f1 V d 0 = 2) (hs : s < szM V d / 16) (ho : o < 16) : d_X4_rowOf N (vA A) D2 (nI d) (nI s) = some (V (pv V d (px (s / 8)))) ∧ d_X4_startOf N (vA A) D2 (nI s) = some (nI (16 * (s % 8))) ∧ e_slotNumber R (nI d) (nI s) (nI o) 1 = some (nI (ub (V (pv V d (px (s / 8)))) (16 * (s % 8) + o))) := by
  have hb := hw.dblk hd hk hs
  have ag := sl_ag hw.1 hN1 h.1.agu hd hb.1 hb.2.1
  obtain ⟨p1, p2, p3⟩ := (hw.1.pto hd _ (px_lt hb.1)).resolve_left hb.2.1
  refine ⟨by rw [d_rowOf hd.1 hd.2 hN (by omega) (pok_ag hw.1 hN1 h.1.agu hd hb.1), ag.2], d_startOf (by omega), ?_⟩
  rw [e_slotNumber, show (8 : Int32) = nI 8 from rfl, pk_div (by omega) (by decide) (by decide), bnd_o (j_blk (D2 := D2) hN1 hN h hw.1 hd hb.1).2, pk_mul, pk_sub (by omega), show (16 : Int32) = nI 16 from rfl, pk_mul, nI_add, show 16 * (s - s / 8 * 8) + o = 16 * (s % 8) + o by omega, bnd_o (z_s1 (by omega) h.2.1.1.lk (by omega)), h.2.agu _ (by omega) p2 p3]
theorem r_letter {a0 a1 a2 : Int32} (hN1 : 61 ≤ N) (hN : N ≤ 1024) (hx : ex 3 = 2) (h : IM N B gr u g A D R m V tk hd hi tp tl) (hL : LH V hd hi := by assumption) : RetR N B gr (u + 100) ex (d_X11_letter N B gr A D a0 a1 a2) (e_letter R a0 a1 a2) := by
  obtain ⟨n1, R1, n2, h1, ot, t0, -, -⟩ := h.nm hN
  obtain ⟨v, v1, v2, v3⟩ := j_slotNm (D2 := D) (a0 := a0) (a1 := a1) hN1 hN h1.1 h1.2.1
  rw [d_X11_letter, bndF_l n1, e_letter, bnd2_o n2, if_pos rfl, bnd_o v1, bnd_o v2]
  rcases v3 with rfl | ⟨d, t, hd, rfl, hk, ht, rfl, h0⟩
  · rw [if_pos rfl, if_pos rfl, bnd2_o ref1, if_neg (by decide)]
    exact RetR.no h1.thr (by omega) (by rw [rS_0, hx]) (by decide) rfl rfl
  · have hz := h1.2.1.dsz hd
    have h2 := h1.thr (v := 0)
    rw [if_neg (nI_m1 (by omega)), if_neg (nI_m1 (by omega))]
    by_cases ca : a2 < 0
    · rw [if_neg (i_ltn ca), if_neg (i_ltn ca), bnd2_o ref1, if_neg (by decide)]
      exact RetR.no h1.thr (by omega) (by rw [rS_0, hx]) (by decide) rfl rfl
    · have ea := nI_cl ca
      have hq : a2.toNatClampNeg < 2 ^ 31 := cl_b
      generalize a2.toNatClampNeg = q at ea hq
      rw [if_pos (i_nlt ca), if_pos (i_nlt ca), bnd2_o ref0, if_pos rfl, e_letter_42, d_X4_letterAt, ea]
      obtain ⟨b1, b2, b3⟩ := j_slb (D2 := D) (o := 2) hN1 hN h2.1 h2.2.1 hd hk ht (by decide)
      have hm : t % 8 < 8 := Nat.mod_lt _ (by decide)
      obtain ⟨ln, l1, l2, -⟩ : ∃ ln, V (pv V d (px (t / 8))) (16 * (t % 8) + 2) = nI ln ∧ ln ≤ 13 ∧ True := by
        rcases h2.2.1.2.2.2.2.2.1 d t hd hk ht with q | q
        · exact absurd q.1 h0
        · obtain ⟨-, -, -, ln, q1, q2, -⟩ := q
          exact ⟨ln, q1, q2.2.1, trivial⟩
      have lu : ub (V (pv V d (px (t / 8)))) (16 * (t % 8) + 2) = ln := by
        have := ub_and (V (pv V d (px (t / 8)))) (16 * (t % 8) + 2)
        rw [l1, nm_255 l2] at this
        exact (nI_inj (by omega) (by have := ub_lt (V (pv V d (px (t / 8)))) (16 * (t % 8) + 2); omega) this).symm
      rw [bnd_o b1, bnd_o b2, show (2 : Int32) = nI 2 from rfl, nI_add, ld_n (by omega) (by decide), l1, bnd_o b3, lu]
      by_cases cl : ln ≤ q
      · rw [if_pos (nI_le cl hq), if_pos (nI_le cl hq)]
        exact RetR.ok h2 (by omega) rS_0 rfl rfl
      · obtain ⟨-, -, b4⟩ := j_slb (D2 := D) (o := 3 + q) hN1 hN h2.1 h2.2.1 hd hk ht (by omega)
        rw [if_neg (nI_ge (by omega) (by omega)), if_neg (nI_ge (by omega) (by omega)), if_neg (show ¬ (13 : Int32) ≤ nI q from nI_ge (b := 13) (by omega) (by decide)), show (3 : Int32) = nI 3 from rfl, nI_add, nI_add, nI_add, ld_n (by omega) (by decide), ub_and, bnd_o b4, show 16 * (t % 8) + 3 + q = 16 * (t % 8) + (3 + q) by omega]
        exact RetR.ok h2 (by omega) rS_0 rfl rfl
end PXN
