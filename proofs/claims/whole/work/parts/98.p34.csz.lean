/-! ===== pure: the class seizes, loosens, sets fields ===== -/
section PVK
variable {N B gr : Nat}
theorem d_isBlock {V : Nat → Rw} {D : CfT} {b : Nat} (hb : b < N) (hN : N ≤ 1024) : d_X10_isBlock N V D (nI b) = some 1 := by
  rw [d_X10_isBlock, if_neg (nI_nn (by omega)), if_neg (nI_ge (by omega) (by omega))]
theorem owB_43 {A : MS} {D : CfT} : owB N A D (43 : Int32) = owB N A D (nI 43) := rfl
theorem c_rw {A : MS} {b : Nat} {y z : Rw} {F : Rw → Option Rw} (hb : b < N) (ho : oA A b = some y) (hF : F y = some z) : rwO N A b F = some (aSet A b (nr z)) := by
  unfold rwO
  rw [if_neg (by omega), show A.2.2.2.2.2.1 b = some y from ho]
  show (match F y with | none => none | some y => some (aSet A b (nr y))) = _
  rw [hF]
theorem c_ld {A : MS} {b p : Nat} {y : Rw} (hb : b < N) (ho : oA A b = some y) (hp : p < 128) : ldO N A b (nI p) = some (y p) := by
  unfold ldO
  rw [if_neg (by omega), show A.2.2.2.2.2.1 b = some y from ho]
  show (if nI p < 0 ∨ 128 ≤ (nI p).toNatClampNeg then none else some (y (nI p).toNatClampNeg)) = _
  rw [nI_clamp (by omega), if_neg (fun z => z.elim (nI_nn (by omega)) (fun q => by omega))]
theorem c_st {A : MS} {b p : Nat} {y : Rw} {x : Int32} (hb : b < N) (ho : oA A b = some y) (hp : p < 128) : stO N A b (nI p) x = some (aSet A b (nr (upd y p x))) := by
  unfold stO
  refine c_rw hb ho ?_
  rw [nI_clamp (by omega), if_neg (fun z => z.elim (nI_nn (by omega)) (fun q => by omega))]
theorem c_w1 {A : MS} {b p : Nat} {y : Rw} {v : Int32} (hb : b < N) (ho : oA A b = some y) (hp : p < 128) : stO N A b (nI p) (vp_nar .byte v.toInt8.toInt32) = some (aSet A b (nr (wB y p v 1))) := by
  rw [c_st hb ho hp, wB_1]
theorem c_w2 {A : MS} {b p : Nat} {y : Rw} {v : Int32} (hb : b < N) (ho : oA A b = some y) (hp : p + 2 ≤ 128) : s2O N A b (nI p) v = some (aSet A b (nr (wB y p v 2))) := by
  unfold s2O
  rw [wB_2]
  refine c_rw hb ho ?_
  rw [nI_clamp (by omega), if_neg (fun z => z.elim (nI_nn (by omega)) (fun q => by omega))]
theorem c_w4 {A : MS} {b p : Nat} {y : Rw} {v : Int32} (hb : b < N) (ho : oA A b = some y) (hp : p + 4 ≤ 128) : s4O N A b (nI p) v = some (aSet A b (nr (wB y p v 4))) := by
  unfold s4O
  rw [wB_4]
  refine c_rw hb ho ?_
  rw [nI_clamp (by omega), if_neg (fun z => z.elim (nI_nn (by omega)) (fun q => by omega))]
theorem sh_b {c : Nat} (hc : c < 1024) : nI c / 8 = nI (c / 8) ∧ nI c - nI (c / 8) * 8 = nI (c % 8) := by
  refine ⟨?_, ?_⟩
  · rw [show (8 : Int32) = nI 8 from rfl, pk_div (by omega) (by decide) (by decide)]
  · rw [show (8 : Int32) = nI 8 from rfl, pk_mul, pk_sub (by omega), n_rem]
theorem c_loosen {A : MS} {D : CfT} {m : M5} {V : Nat → Rw} {tk : Nat → Bool} (hN : N ≤ 1024) (h : CX N A D m V tk) {b : Nat} (h1 : 61 ≤ b) (h2 : b < N) (hu : btM (V 43) b = 1) : ∃ A' D', d_X10_loosen N A D (nI b) = some (A', D') ∧ CX N A' D' (frM5 m b) (frV m V b) (tU tk b false) ∧ gA A' = gA A ∧ Dt D D' := by
  obtain ⟨A1, D1, e1, x1, o1, g1, t1⟩ := c_own hN h (Nat.le_refl 43) (by omega) (h.2.2.2.1.1 43 (by decide))
  obtain ⟨s1, s2⟩ := sh_b (c := b) (by omega)
  have hl := c_ld (N := N) (p := b / 8) (show 43 < N by omega) o1 (by omega)
  have hs := c_st (N := N) (p := b / 8) (x := vp_nar .byte (((V 43 (b / 8)) &&& ((((1 : Int32) <<< (nI (b % 8) &&& 31)) ^^^ (-1) : Int32).toInt8.toInt32) : Int32).toInt8.toInt32)) (show 43 < N by omega) o1 (by omega)
  rw [bsW_f] at hs
  have hr : (aSet A1 43 (bsW (V 43) b false)).2.2.2.2.1 b = 0 := by
    have := h.2.2.2.2.2.2 b h2 hu
    rw [← x1.1] at this
    exact this
  have ha : arO N (aSet A1 43 (bsW (V 43) b false)) (nI b) = some (aRs (aSet A1 43 (bsW (V 43) b false)) (fun c => if c = b then 2 else (aSet A1 43 (bsW (V 43) b false)).2.2.2.2.1 c)) := by
    unfold arO
    rw [nI_clamp (by omega), if_neg (fun z => z.elim (nI_nn (by omega)) (fun q => q.elim (fun y => by omega) (fun y => y hr)))]
  rw [d_X10_loosen, if_neg (show ¬ nI b < (61 : Int32) from fun z => absurd (nI_le (a := 61) (b := b) h1 (by omega)) (Int32.not_le.mpr z)), bnd_o (d_isBlock h2 hN), if_neg (show ¬ (1 : Int32) = 0 by decide), owB_43, bnd2_o e1, s1, s2, show ((43 : Int32)).toNatClampNeg = 43 from rfl, bnd_o hl, bnd_o hs, bnd_o ha]
  refine ⟨_, _, rfl, ?_, g1, t1⟩
  have e43 : frV m V b 43 = bsW (V 43) b false := (vU_n (by omega)).trans vU_s
  refine c_put43 (c := b) x1 o1 (by rw [e43]; rfl) rfl ?_ (fun _ => rfl) h1 h2 hN (fun d d1 d2 => ⟨(vU_n d2).trans (vU_n d1), if_neg d2⟩) (if_neg (by omega)) (fun d d1 d2 => by rw [e43, bt_bs (by omega) d1, if_neg d2]) (fun d d1 => if_neg d1) (Or.inr ⟨by rw [e43, bt_bs (by omega) (by omega), if_pos rfl]; rfl, vU_s, if_pos rfl, if_pos rfl⟩)
  have e := x1.1
  show mRs (mA A1) (fun c => if c = b then 2 else (mA A1).2.2.2.2 c) = _
  rw [e]
  rfl
theorem c_tk {A : MS} {D : CfT} {m : M5} {V : Nat → Rw} {tk : Nat → Bool} {b : Nat} (h : CX N A D m V tk) (ho : oA A b ≠ none) (hu : btM (V 43) b = 1) : CX N (aTk A (fun c => if c = b then true else kA A c)) D m V (tU tk b true) := by
  obtain ⟨a1, a2, a3, a4, a5, a6, a7⟩ := h
  refine ⟨a1, a2, fun c hc0 hc => ?_, a4, fun c hc => ?_, a6, a7⟩
  · obtain ⟨q1, q2⟩ := a3 c hc0 hc
    by_cases cb : c = b
    · rw [cb]
      rw [cb] at q1
      exact ⟨fun z => ⟨(q1 z).1, by rw [show tU tk b true b = true from if_pos rfl]; exact if_pos rfl⟩, fun z => by rw [hu] at z; cases z⟩
    · rw [show tU tk b true c = tk c from if_neg cb]
      exact ⟨fun z => ⟨(q1 z).1, (show kA (aTk A (fun c => if c = b then true else kA A c)) c = kA A c from if_neg cb).trans (q1 z).2⟩, q2⟩
  · by_cases cb : c = b
    · rw [cb]
      exact ho
    · exact a5 c ((show kA (aTk A (fun c => if c = b then true else kA A c)) c = kA A c from if_neg cb).symm.trans hc)
theorem nr_z {g : Nat → Int32} : nr (flt g 0 128 (vp_nar .byte 0)) = zR := by
  funext i
  unfold nr
  split
  · next h =>
    rw [flt_at (Nat.zero_le _) h]
    exact nar0
  · rfl
/-- what taking makes of what is seen -/
def tkV (V : Nat → Rw) (b : Nat) (tab : Bool) : Nat → Rw := if tab then vU (vU V 43 (bsW (V 43) b true)) b zR else vU V 43 (bsW (V 43) b true)
def tkT (tk : Nat → Bool) (b : Nat) (tab : Bool) : Nat → Bool := if tab then tU tk b true else tk
theorem c_seize {A : MS} {D : CfT} {m : M5} {V : Nat → Rw} {tk : Nat → Bool} (hN : N ≤ 1024) (h : CX N A D m V tk) {b : Nat} {tab : Bool} (h1 : 61 ≤ b) (h2 : b < N) (hu : btM (V 43) b = 0) (hr : m.2.2.2.2 b = 0) : ∃ A' D', d_X10_seize N A D (nI b) (bI tab) = some (A', D') ∧ CX N A' D' m (tkV V b tab) (tkT tk b tab) ∧ gA A' = gA A ∧ Dt D D' := by
  have on0 : oA A b = none := by
    cases e : oA A b with
    | none => rfl
    | some y =>
      rcases h.2.2.2.2.2.1 b (by rw [e]; exact Option.some_ne_none y) with z | z
      · rw [hu] at z
        cases z
      · rw [hr] at z
        cases z
  obtain ⟨A1, D1, e1, x1, o1, g1, t1⟩ := c_own hN h (Nat.le_refl 43) (by omega) (h.2.2.2.1.1 43 (by decide))
  obtain ⟨s1, s2⟩ := sh_b (c := b) (by omega)
  have on1 : oA A1 b = none := by
    cases e : oA A1 b with
    | none => rfl
    | some y =>
      rcases x1.2.2.2.2.2.1 b (by rw [e]; exact Option.some_ne_none y) with z | z
      · rw [hu] at z
        cases z
      · rw [hr] at z
        cases z
  have hl := c_ld (N := N) (p := b / 8) (show 43 < N by omega) o1 (by omega)
  have hs := c_st (N := N) (p := b / 8) (x := vp_nar .byte (((V 43 (b / 8)) ||| (((1 : Int32) <<< (nI (b % 8) &&& 31) : Int32).toInt8.toInt32) : Int32).toInt8.toInt32)) (show 43 < N by omega) o1 (by omega)
  rw [bsW_t] at hs
  have e43 : vU V 43 (bsW (V 43) b true) 43 = bsW (V 43) b true := vU_s
  have ub : btM (vU V 43 (bsW (V 43) b true) 43) b = 1 := by rw [e43, bt_bs (by omega) (by omega), if_pos rfl]; rfl
  have x2 : CX N (aSet A1 43 (bsW (V 43) b true)) D1 m (vU V 43 (bsW (V 43) b true)) tk := c_put43 (c := b) x1 o1 (by rw [e43]) rfl x1.1 (fun _ => rfl) h1 h2 hN (fun d d1 d2 => ⟨vU_n d1, rfl⟩) rfl (fun d d1 d2 => by rw [e43, bt_bs (by omega) d1, if_neg d2]) (fun d d1 => rfl) (Or.inl ⟨ub, vU_n (by omega), rfl, on1, hu, hr⟩)
  rw [d_X10_seize, bnd_o (d_isBlock h2 hN), if_neg (show ¬ (1 : Int32) = 0 by decide), owB_43, bnd2_o e1, s1, s2, show ((43 : Int32)).toNatClampNeg = 43 from rfl, bnd_o hl, bnd_o hs]
  cases tab with
  | false =>
    rw [if_pos (show bI false = 0 from rfl)]
    exact ⟨_, _, rfl, x2, g1, t1⟩
  | true =>
    rw [if_neg (show ¬ bI true = 0 by decide)]
    obtain ⟨A3, D3, e3, x3, o3, g3, t3⟩ := c_own hN x2 (show 43 ≤ b by omega) h2 ub
    rw [bnd2_o e3, nI_clamp (by omega)]
    have hf : flO N A3 b 0 = some (aSet A3 b (nr (flt (vU V 43 (bsW (V 43) b true) b) 0 128 (vp_nar .byte 0)))) := by
      unfold flO
      exact c_rw h2 o3 rfl
    rw [nr_z] at hf
    have ht : tkO N (aSet A3 b zR) (nI b) true = some (aTk (aSet A3 b zR) (fun c => if c = b then true else kA (aSet A3 b zR) c)) := by
      unfold tkO
      rw [nI_clamp (by omega), if_neg (fun z => z.elim (nI_nn (by omega)) (fun q => by omega))]
      rfl
    rw [bnd_o hf, bnd_o ht]
    have x4 := c_put (y := zR) x3 (show 44 ≤ b by omega) ub o3
    have ub4 : btM (vU (vU V 43 (bsW (V 43) b true)) b zR 43) b = 1 := by rw [vU_n (by omega)]; exact ub
    exact ⟨_, _, rfl, c_tk x4 (by show (if b = b then some zR else _) ≠ none; rw [if_pos rfl]; exact Option.some_ne_none _) ub4, g3.trans g1, t1.tr t3⟩
theorem d_homeS {V : Nat → Rw} {D : CfT} {i : Nat} (h1 : 1 ≤ i) (h2 : i ≤ 64) : d_X7_home N V D (nI i) = some (nI (homeM i)) ∧ d_X7_start N V D (nI i) = some (nI (startM i)) := ⟨d_home h1 (by omega), d_start h1 (by omega)⟩
/-- an inode's row becomes the class's own -/
theorem c_ownI {A : MS} {D : CfT} {m : M5} {V : Nat → Rw} {tk : Nat → Bool} (hN1 : 61 ≤ N) (hN : N ≤ 1024) (h : CX N A D m V tk) {i : Nat} (h1 : 1 ≤ i) (h2 : i ≤ 64) : ∃ A' D', owB N A D (nI (homeM i)) = some (A', D') ∧ CX N A' D' m V tk ∧ oA A' (homeM i) = some (V (homeM i)) ∧ gA A' = gA A ∧ Dt D D' ∧ btM (V 43) (homeM i) = 1 ∧ 45 ≤ homeM i ∧ homeM i < N ∧ startM i + 32 ≤ 128 := by
  have hh := homeM_lt h2
  have hs := startM_le i
  have h45 : 45 ≤ homeM i := by
    unfold homeM
    omega
  have hu := h.2.2.2.1.1 (homeM i) hh
  obtain ⟨A', D', e, x, o, g, t⟩ := c_own hN h (show 43 ≤ homeM i by omega) (by omega) hu
  exact ⟨A', D', e, x, o, g, t, hu, h45, by omega, by omega⟩
/-- a field is set -/
def fldV (V : Nat → Rw) (i a n : Nat) (v : Int32) : Nat → Rw := vU V (homeM i) (nr (wB (V (homeM i)) (startM i + a) v n))
theorem c_setLinks {A : MS} {D : CfT} {m : M5} {V : Nat → Rw} {tk : Nat → Bool} (hN1 : 61 ≤ N) (hN : N ≤ 1024) (h : CX N A D m V tk) {i : Nat} {v : Int32} (h1 : 1 ≤ i) (h2 : i ≤ 64) : ∃ A' D', d_X7_setLinks N A D (nI i) v = some (A', D') ∧ CX N A' D' m (fldV V i 1 1 v) tk ∧ gA A' = gA A ∧ Dt D D' := by
  obtain ⟨A1, D1, e1, x1, o1, g1, t1, hu, h45, hN', hs⟩ := c_ownI hN1 hN h h1 h2
  rw [d_X7_setLinks, bnd_o (d_homeS h1 h2).1, bnd2_o e1, bnd_o (d_homeS h1 h2).2, nI_clamp (by omega), show (1 : Int32) = nI 1 from rfl, nI_add, bnd_o (c_w1 hN' o1 (by omega))]
  exact ⟨_, _, rfl, c_put x1 (by omega) hu o1, g1, t1⟩
theorem c_setSize {A : MS} {D : CfT} {m : M5} {V : Nat → Rw} {tk : Nat → Bool} (hN1 : 61 ≤ N) (hN : N ≤ 1024) (h : CX N A D m V tk) {i : Nat} {v : Int32} (h1 : 1 ≤ i) (h2 : i ≤ 64) : ∃ A' D', d_X7_setSize N A D (nI i) v = some (A', D') ∧ CX N A' D' m (fldV V i 4 4 v) tk ∧ gA A' = gA A ∧ Dt D D' := by
  obtain ⟨A1, D1, e1, x1, o1, g1, t1, hu, h45, hN', hs⟩ := c_ownI hN1 hN h h1 h2
  rw [d_X7_setSize, bnd_o (d_homeS h1 h2).1, bnd2_o e1, bnd_o (d_homeS h1 h2).2, nI_clamp (by omega), show (4 : Int32) = nI 4 from rfl, nI_add, bnd_o (c_w4 hN' o1 (by omega))]
  exact ⟨_, _, rfl, c_put x1 (by omega) hu o1, g1, t1⟩
theorem c_setMark {A : MS} {D : CfT} {m : M5} {V : Nat → Rw} {tk : Nat → Bool} (hN1 : 61 ≤ N) (hN : N ≤ 1024) (h : CX N A D m V tk) {i : Nat} {v : Int32} (h1 : 1 ≤ i) (h2 : i ≤ 64) : ∃ A' D', d_X7_setMark N A D (nI i) v = some (A', D') ∧ CX N A' D' m (fldV V i 8 4 v) tk ∧ gA A' = gA A ∧ Dt D D' := by
  obtain ⟨A1, D1, e1, x1, o1, g1, t1, hu, h45, hN', hs⟩ := c_ownI hN1 hN h h1 h2
  rw [d_X7_setMark, bnd_o (d_homeS h1 h2).1, bnd2_o e1, bnd_o (d_homeS h1 h2).2, nI_clamp (by omega), show (8 : Int32) = nI 8 from rfl, nI_add, bnd_o (c_w4 hN' o1 (by omega))]
  exact ⟨_, _, rfl, c_put x1 (by omega) hu o1, g1, t1⟩
end PVK
