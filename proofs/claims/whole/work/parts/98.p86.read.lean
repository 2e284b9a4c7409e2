/-! ===== pure: look, begin, read, get, where ===== -/
section PXM
variable {N B gr r u : Nat} {V W : Nat → Rw} {m : M5} {tk : Nat → Bool} {A : MS} {D D' D2 : CfT} {R R' : RfT} {g : Bool} {hd hi hd' hi' : Nat → Nat} {tp : Nat → Int32} {tl : Nat} {ow : Nat → Int} {ex : Nat → Int32} {i : Nat}
theorem i10 {α : Type} {a b : α} : (if (1 : Int32) = 0 then a else b) = b := if_neg (by decide)
theorem i00 {α : Type} {a b : α} : (if (0 : Int32) = 0 then a else b) = a := if_pos rfl
theorem im1 {α : Type} {a b : α} : (if (-1 : Int32) = -1 then a else b) = a := if_pos rfl
theorem nx1 {x : Nat} (h : x ≠ 1) (hx : x < 2 ^ 31) : ¬ nI x = (1 : Int32) := fun z => h (nI_inj (b := 1) hx (by decide) z)
theorem nx2 {x : Nat} (h : x ≠ 2) (hx : x < 2 ^ 31) : ¬ nI x = (2 : Int32) := fun z => h (nI_inj (b := 2) hx (by decide) z)
theorem ref0 {v : Int32} : e_refuse R 0 v = some (0, setS R 0 0) := rfl
theorem ref1 {v : Int32} : e_refuse R 1 v = some (1, setS R 0 v) := rfl
theorem IM.thr {v : Int32} (h : IM N B gr u g A D R m V tk hd hi tp tl) : IM N B gr u g A D (setS R 0 v) m V tk hd hi tp tl := h.fr rfl rfl (Fn.s (S := [0]) (T := []) (by decide)) (by decide) (by decide) (Kep.of Dt.rf (Fq.s (S := [0]) (T := []) (by decide)) (by decide) (by decide)) (by decide) rfl
theorem rS_0 {v : Int32} : rS (setS R 0 v) 0 = v := pk_us (f := R.1) (k := 0)
theorem IM.a43 {x : Nat → Int32} (h : IM N B gr u g A D R m V tk hd hi tp tl) : IM N B gr u g A D (setA R 43 x) m V tk hd hi tp tl := h.fr rfl rfl (Fn.a (S := []) (T := [43]) (by decide)) (by decide) (by decide) (Kep.of Dt.rf (Fq.a (S := []) (T := [43]) (by decide)) (by decide) (by decide)) (by decide) rfl
/-- refused: an exception -/
theorem Ret.no {α : Type} {u' c : Nat} {v : α} {cl : Option (FR α)} {rf : Option (α × RfT)} (h : IM N B gr u g A D R m V tk hd hi tp tl) (hu : u ≤ u') (h0 : rS R 0 = ex c) (hc : c ≠ 0) (e1 : cl = some (.inr (c, A, D))) (e2 : rf = some (v, R)) (hL : LH V hd hi := by assumption) : Ret N B gr u' ex cl rf := Or.inr (Or.inr ⟨c, A, D, R, v, e1, hc, e2, h0, h.mtd hu⟩)
theorem RetR.no {α : Type} {u' c : Nat} {v : α} {cl : Option (FR α)} {rf : Option (α × RfT)} (h : IM N B gr u g A D R m V tk hd hi tp tl) (hu : u ≤ u') (h0 : rS R 0 = ex c) (hc : c ≠ 0) (e1 : cl = some (.inr (c, A, D))) (e2 : rf = some (v, R)) (hL : LH V hd hi := by assumption) : RetR N B gr u' ex cl rf := Or.inr ⟨c, A, D, R, v, e1, hc, e2, h0, h.mtd hu⟩
theorem r_look {a0 a1 : Int32} (hN : N ≤ 1024) (hx : ex 2 = 2) (h : IM N B gr u g A D R m V tk hd hi tp tl) (hL : LH V hd hi := by assumption) : RetR N B gr (u + 100) ex (d_X11_look N B gr A D a0 a1) (e_look R a0 a1) := by
  obtain ⟨n1, R1, n2, h1, ot, t0, -, -⟩ := h.nm hN
  rw [d_X11_look, bndF_l n1, e_look, bnd2_o n2, if_pos rfl]
  by_cases c : a1 < 0
  · rw [if_pos c, if_pos c, bnd2_o ref1, if_neg (by decide)]
    exact RetR.no h1.thr (by omega) (by rw [rS_0, hx]) (by decide) rfl rfl
  · rw [if_neg c, if_neg c]
    by_cases c2 : a1 ≤ 2
    · rw [if_pos c2, if_pos c2, bnd2_o ref0, if_pos rfl, e_look_31]
      have h2 := h1.thr (v := 0)
      rcases j_hnd (N := N) (W := vA A) h2.2.2.2.2.2.1 a0 with ⟨k, hk, rfl, h0, k1, k2⟩ | ⟨k1, k2⟩
      · rw [bnd_o k1, bnd_o k2, i10, i10]
        obtain ⟨g1, g2, -⟩ := h2.2.2.2.2.2.1.2.1 k hk
        obtain ⟨g3, g4, -⟩ := h2.2.2.2.2.2.1.2.2 k hk h0
        by_cases d0 : a1 = 0
        · rw [if_pos d0, if_pos d0, ld_n hk (by decide), ld_n hk (by decide), g1, g2]
          exact RetR.ok h2 (by omega) rS_0 rfl rfl
        · rw [if_neg d0, if_neg d0]
          by_cases d1 : a1 = 1
          · rw [if_pos d1, if_pos d1, ld_n hk (by decide), ld_n hk (by decide), g3]
            exact RetR.ok h2 (by omega) rS_0 rfl rfl
          · rw [if_neg d1, if_neg d1, ld_n hk (by decide), ld_n hk (by decide), g4]
            exact RetR.ok h2 (by omega) rS_0 rfl rfl
      · rw [bnd_o k1, bnd_o k2, if_pos rfl, if_pos rfl]
        exact RetR.ok h2 (by omega) rS_0 rfl rfl
    · rw [if_neg c2, if_neg c2, bnd2_o ref1, if_neg (by decide)]
      exact RetR.no h1.thr (by omega) (by rw [rS_0, hx]) (by decide) rfl rfl
/-- a byte of a file -/
def byM (V : Nat → Rw) (i q : Nat) : Nat := if pv V i (px (q / 128)) = 0 then 0 else ub (V (pv V i (px (q / 128)))) (q % 128)
theorem j_blk {p : Nat} (hN1 : 61 ≤ N) (hN : N ≤ 1024) (h : JX N B gr A D R m V tk) (hw : PW N V) (hi : ir i) (hp : p < 4168) : d_X7_reach N (vA A) D2 (nI i) (nI p) 0 = some (nI (pv V i (px p))) ∧ e_blockOf R (nI i) (nI p) = some (nI (pv V i (px p))) := ⟨c_blk hN1 hN h.1 (hw.pto hi) hi.1 hi.2 hp, z_blk hN1 hN h.2 (hw.pto hi) hi.1 hi.2 hp⟩
theorem PW.plt {x : Nat} (h : PW N V) (hN : N ≤ 1024) (hi : ir i) (hx : x < 4234) : pv V i x < 1024 := by
  rcases h.pto hi x hx with q | q
  · omega
  · omega
theorem cl_b {a : Int32} : a.toNatClampNeg < 2 ^ 31 := by
  have e : a.toNatClampNeg = a.toInt.toNat := rfl
  have := Int32.toInt_lt a
  omega
theorem q_md (q : Nat) (hq : q < 2 ^ 30) : nI q - nI q / 128 * 128 = nI (q % 128) := by
  rw [show (128 : Int32) = nI 128 from rfl, pk_div (by omega) (by decide) (by decide), pk_mul, pk_sub (by omega)]
  congr 1
  omega
theorem q_dv (q : Nat) (hq : q < 2 ^ 30) : nI q / 128 = nI (q / 128) := by
  rw [show (128 : Int32) = nI 128 from rfl, pk_div (by omega) (by decide) (by decide)]
theorem j_byte {q : Nat} (hN1 : 61 ≤ N) (hN : N ≤ 1024) (h : JX N B gr A D R m V tk) (hw : WF N V) (hi : ir i) (hq : q < szM V i) : (d_X7_reach N (vA A) D2 (nI i) (nI q / 128) 0 = some (nI (pv V i (px (q / 128)))) ∧ e_blockOf R (nI i) (nI q / 128) = some (nI (pv V i (px (q / 128))))) ∧ (pv V i (px (q / 128)) ≠ 0 → seeB N (vA A) (nI (pv V i (px (q / 128)))) (fun y => ld y 128 (nI q - nI q / 128 * 128) (fun v => some (v &&& 255))) = some (nI (byM V i q)) ∧ e_seenNumber R (nI (pv V i (px (q / 128)))) (nI q - nI q / 128 * 128) 1 = some (nI (byM V i q))) := by
  have hz := (hw.pz hi).1
  have hp : q / 128 < 4168 := by omega
  refine ⟨by rw [q_dv q (by omega)]; exact j_blk hN1 hN h hw.1 hi hp, fun h0 => ?_⟩
  obtain ⟨p1, p2, p3⟩ := (hw.1.pto hi _ (px_lt hp)).resolve_left h0
  have hm : q % 128 < 128 := Nat.mod_lt _ (by decide)
  unfold byM
  rw [if_neg h0, q_md q (by omega)]
  constructor
  · rw [see_n p2 hN, ld_n hm (by decide), ub_and, h.1.agu _ (by omega) p2 p3]
  · rw [z_s1 (by omega) h.2.1.1.lk (by omega), h.2.agu _ (by omega) p2 p3]
theorem c_byte {q : Nat} (hN1 : 61 ≤ N) (hN : N ≤ 1024) (h : JX N B gr A D R m V tk) (hw : WF N V) (hi : ir i) (hq : q < 2 ^ 30) : d_X3_byteOf N (vA A) D2 (nI i) (nI q) = some (if q < szM V i then nI (byM V i q) else -1) := by
  have hz := (hw.pz hi).1
  rw [d_X3_byteOf, if_neg (nI_nn (by omega)), bnd_o (j_size hN1 hN h hi).1]
  by_cases c : q < szM V i
  · obtain ⟨⟨b1, -⟩, b3⟩ := j_byte (D2 := D2) hN1 hN h hw hi c
    rw [if_pos c, if_pos (nI_lt c (by omega)), bnd_o b1]
    by_cases h0 : pv V i (px (q / 128)) = 0
    · unfold byM
      rw [if_pos h0, h0, nI_0, i00]
    · have hl := hw.1.plt hN hi (px_lt (show q / 128 < 4168 by omega))
      rw [if_neg (nI_ne0 (by omega) (by omega)), (b3 h0).1]
  · rw [if_neg c, if_neg (nI_nlt (by omega) (by omega))]
theorem r_read {a0 a1 : Int32} (hN1 : 61 ≤ N) (hN : N ≤ 1024) (h : IM N B gr u g A D R m V tk hd hi tp tl) (hL : LH V hd hi := by assumption) : RetR N B gr (u + 100) ex (d_X11_read N B gr A D a0 a1) (e_read R a0 a1) := by
  obtain ⟨n1, R1, n2, h1, ot, t0, -, -⟩ := h.nm hN
  have e29 : e_read_29 R1 = some (-1, R1) := by
    rw [e_read_29, if_neg (by rw [t0]; decide)]
  rw [d_X11_read, bndF_l n1, e_read, bnd2_o n2, if_pos rfl]
  rcases i_rng a0 with ⟨i, hir, rfl⟩ | hx
  · obtain ⟨k1, k2⟩ := j_kind (D2 := D) hN1 hN h1.1 hir
    have hlt := f1_lt V i 0
    rw [bnd_o k1, bnd_o k2]
    by_cases c : f1 V i 0 = 1
    · rw [if_pos (by rw [c]; rfl), if_pos (by rw [c]; rfl)]
      by_cases ca : a1 < 0
      · rw [if_pos ca, d_X3_byteOf, if_pos ca, e29]
        exact RetR.ok h1 (by omega) t0 rfl rfl
      · rw [if_neg ca, bnd_o (j_size (D2 := D) hN1 hN h1.1 hir).2]
        have hz := (h1.2.1.pz hir).1
        have ea := nI_cl ca
        have hq : a1.toNatClampNeg < 2 ^ 31 := cl_b
        generalize a1.toNatClampNeg = q at ea hq
        rw [ea, d_X3_byteOf, if_neg (nI_nn hq), bnd_o (j_size (D2 := D) hN1 hN h1.1 hir).1]
        by_cases cq : q < szM V i
        · obtain ⟨⟨b1, b2⟩, b3⟩ := j_byte (D2 := D) hN1 hN h1.1 h1.2.1 hir cq
          rw [if_pos (nI_lt cq (by omega)), if_pos (nI_lt cq (by omega)), bnd_o b1, bnd_o b2]
          have hl := h1.2.1.1.plt hN hir (px_lt (show q / 128 < 4168 by omega))
          by_cases h0 : pv V i (px (q / 128)) = 0
          · rw [h0, nI_0, i00, i00]
            exact RetR.ok h1 (by omega) t0 rfl rfl
          · rw [if_neg (nI_ne0 (by omega) (by omega)), if_neg (nI_ne0 (by omega) (by omega)), (b3 h0).1, bnd_o (b3 h0).2]
            exact RetR.ok h1 (by omega) t0 rfl rfl
        · rw [if_neg (nI_nlt (by omega) (by omega)), if_neg (nI_nlt (by omega) (by omega)), e29]
          exact RetR.ok h1 (by omega) t0 rfl rfl
    · rw [if_neg (nx1 c (by omega)), if_neg (nx1 c (by omega)), e29]
      exact RetR.ok h1 (by omega) t0 rfl rfl
  · obtain ⟨k1, k2⟩ := j_kind0 (N := N) (A := A) (D2 := D) (R := R1) hx
    rw [bnd_o k1, bnd_o k2, if_neg (by decide), if_neg (by decide), e29]
    exact RetR.ok h1 (by omega) t0 rfl rfl
theorem r_get {a0 : Int32} (hN1 : 61 ≤ N) (hN : N ≤ 1024) (h : IM N B gr u g A D R m V tk hd hi tp tl) (hL : LH V hd hi := by assumption) : RetR N B gr (u + 100) ex (d_X11_get N B gr A D a0) (e_get R a0) := by
  obtain ⟨n1, R1, n2, h1, ot, t0, -, -⟩ := h.nm hN
  rw [d_X11_get, bndF_l n1, e_get, bnd2_o n2, if_pos rfl]
  rcases j_hnd (N := N) (W := vA A) h1.2.2.2.2.2.1 a0 with ⟨k, hk, rfl, h0, k1, k2⟩ | ⟨k1, k2⟩
  · obtain ⟨g1, g2, g5⟩ := h1.2.2.2.2.2.1.2.1 k hk
    obtain ⟨g3, g4, q, hq, g6⟩ := h1.2.2.2.2.2.1.2.2 k hk h0
    obtain ⟨w1, w2⟩ := h1.2.2.2.2.2.2.1.2.2 k hk h0
    have hz := (h1.2.1.pz w1).1
    rw [bnd_o k1, bnd_o k2, i10, i10, ld_n hk (by decide), ld_n hk (by decide), ld_n hk (by decide), ld_n hk (by decide), g1, g2, g3, g6, bnd_o (c_byte hN1 hN h1.1 h1.2.1 w1 (by omega)), bnd_o (j_size (D2 := D) hN1 hN h1.1 w1).2]
    by_cases cq : q < szM V (hi k)
    · have hb : byM V (hi k) q < 256 := by
        unfold byM
        split
        · decide
        · exact ub_lt _ _
      have h2 := h1.place (i := k) (x := q + 1) (by omega)
      obtain ⟨⟨b1, b2⟩, b3⟩ := j_byte (D2 := D) hN1 hN h2.1 h2.2.1 w1 cq
      rw [if_pos cq, if_neg (nI_m1 (by omega)), if_pos (nI_lt cq (by omega)), ld_n hk (by decide), ld_n hk (by decide), g3, g6, nI_1, stA_n hk (by decide), st_n hk (by decide), ld_n hk (by decide), rA_n (by decide), g2, bnd_o b2]
      have hl := h1.2.1.1.plt hN w1 (px_lt (show q / 128 < 4168 by omega))
      by_cases h0 : pv V (hi k) (px (q / 128)) = 0
      · unfold byM
        rw [if_pos h0, h0, nI_0, i00]
        exact RetR.ok h2 (by omega) t0 rfl rfl
      · rw [if_neg (nI_ne0 (by omega) (by omega)), bnd_o (b3 h0).2]
        exact RetR.ok h2 (by omega) t0 rfl rfl
    · rw [if_neg cq, if_pos rfl, if_neg (nI_nlt (by omega) (by omega))]
      exact RetR.ok h1 (by omega) t0 rfl rfl
  · rw [bnd_o k1, bnd_o k2, if_pos rfl, if_pos rfl]
    exact RetR.ok h1 (by omega) t0 rfl rfl
end PXM
