/-! ===== pure: what tree tells of names and files ===== -/
section PZT
variable {N B gr r u : Nat} {V W U : Nat → Rw} {m m' : M5} {tk tk' : Nat → Bool} {A A' : MS} {D D' D0 D2 : CfT} {R R' : RfT} {d s t i x y e q : Nat} {hd hi : Nat → Nat} {ch cs c : Nat → Nat}
theorem z_tb8 {sz : Nat} {h0 : Int64} (hN1 : 61 ≤ N) (hN : N ≤ 1024) (h : JX N B gr A D R m V tk) (hw : WF N V) (hi : ir i) (hs : sz ≤ 400000) : ∀ (n p : Nat) (gg : Nat → Int32), p ≤ 3200 → 3200 - p < n → ∃ g', e_tellBytes_8 n (setTl (setA R 43 gg) (hF (gB V i) h0 0 (min (128 * p) sz))) (nI i) (nI sz) (nI p) = some (setTl (setA R 43 g') (hF (gB V i) h0 0 sz)) := by
  intro n
  induction n with
  | zero => intro p gg _ hh; exact absurd hh (Nat.not_lt_zero _)
  | succ n ih =>
    intro p gg hp hn
    rw [e_tellBytes_8, show (128 : Int32) = nI 128 from rfl, pk_mul]
    by_cases c1 : sz ≤ 128 * p
    · rw [if_pos (nI_le c1 (by omega)), Nat.min_eq_right c1]
      exact ⟨gg, rfl⟩
    · have hp4 : p < 4168 := by omega
      have hj : JX N B gr A D (setTl (setA R 43 gg) (hF (gB V i) h0 0 (min (128 * p) sz))) m V tk := (h.a43 (g := gg)).tl
      obtain ⟨-, zb⟩ := j_blk (D2 := D) hN1 hN hj hw.1 hi hp4
      rw [if_neg (nI_ge (by omega) (by omega)), bnd_o zb, Nat.min_eq_left (by omega)]
      have em : 128 * p + min (sz - 128 * p) 128 = min (128 * (p + 1)) sz := by omega
      by_cases c0 : pv V i (px p) = 0
      · have q := z_tb40 (R := setA R 43 gg) (V := V) (i := i) (q := p) (b := 0) (sz := sz) (h0 := h0) (yr := fun _ => 0) (sf := e_tellBytes_8 n) (by omega) hs (fun z => absurd rfl z) (by decide) (fun o ho => by
          unfold gB
          rw [show (128 * p + o) / 128 = p by omega, if_pos c0, if_pos rfl]) fuL 0 (Nat.zero_le _) (by rw [fuL_4]; omega)
        rw [Nat.add_zero, em] at q
        rw [c0, nI_0, i00]
        obtain ⟨g', q2⟩ := ih (p + 1) gg (by omega) (by omega)
        exact ⟨g', (show e_tellBytes_40 (e_tellBytes_8 n) fuL (setTl (setA R 43 gg) (hF (gB V i) h0 0 (128 * p))) (nI i) (nI sz) (nI p) 0 0 = _ from q).trans q2⟩
      · obtain ⟨b1, b2, b3⟩ := (hw.1.pto hi _ (px_lt hp4)).resolve_left c0
        have hj : JX N B gr A D (setTl (setA R 43 gg) (hF (gB V i) h0 0 (128 * p))) m V tk := (h.a43 (g := gg)).tl
        obtain ⟨g3, y1, y2⟩ := z_see (R := setTl (setA R 43 gg) (hF (gB V i) h0 0 (128 * p))) (b := pv V i (px p)) (ow := true) (by omega) (hj.2.1.1.lk _ (by omega)) hj.2.1.1.by
        have y1 : e_see (setTl (setA R 43 gg) (hF (gB V i) h0 0 (128 * p))) (nI (pv V i (px p))) 1 = some (setTl (setA R 43 g3) (hF (gB V i) h0 0 (128 * p))) := by
          rw [show (setTl (setA R 43 g3) (hF (gB V i) h0 0 (128 * p))) = setA (setTl (setA R 43 gg) (hF (gB V i) h0 0 (128 * p))) 43 g3 by
            show setTl (setA R 43 g3) _ = setTl (setA (setA R 43 gg) 43 g3) _
            rw [setA_A]]
          exact y1
        have q := z_tb40 (R := setA R 43 g3) (V := V) (i := i) (q := p) (b := pv V i (px p)) (sz := sz) (h0 := h0) (yr := V (pv V i (px p))) (sf := e_tellBytes_8 n) (by omega) hs (fun _ o ho => by rw [rA_e, y2 o ho, hj.2.agu _ (by omega) b2 b3]) (by omega) (fun o ho => by
          unfold gB
          rw [show (128 * p + o) / 128 = p by omega, show (128 * p + o) % 128 = o by omega]) fuL 0 (Nat.zero_le _) (by rw [fuL_4]; omega)
        rw [Nat.add_zero, em] at q
        rw [if_neg (show ¬ nI (pv V i (px p)) = 0 from nI_ne0 (by omega) (by omega)), bnd_o y1]
        obtain ⟨g', q2⟩ := ih (p + 1) g3 (by omega) (by omega)
        exact ⟨g', (show e_tellBytes_40 (e_tellBytes_8 n) fuL (setTl (setA R 43 g3) (hF (gB V i) h0 0 (128 * p))) (nI i) (nI sz) (nI p) (nI (pv V i (px p))) 0 = _ from q).trans q2⟩
/-- a file's bytes are told by the reference -/
theorem z_tb {h0 : Int64} (hN1 : 61 ≤ N) (hN : N ≤ 1024) (h : JX N B gr A D R m V tk) (hw : WF N V) (hi : ir i) : ∃ g', e_tellBytes (setTl R h0) (nI i) = some (setTl (setA R 43 g') (hF (gB V i) h0 0 (szM V i))) := by
  have hs := (hw.pz hi).1
  obtain ⟨g', q⟩ := z_tb8 (h0 := h0) hN1 hN h hw hi hs fuL 0 (rA R 43) (by decide) (by rw [fuL_4]; omega)
  rw [setA_id] at q
  rw [e_tellBytes, bnd_o (j_size (D2 := D) hN1 hN (h.tl (v := h0)) hi).2]
  exact ⟨g', q⟩
/-- a name's bytes -/
noncomputable def gNb (V : Nat → Rw) (d s k : Nat) : Int64 := (nI (ub (V (pv V d (px (s / 8)))) (16 * (s % 8) + 3 + k))).toInt64
def lnS (V : Nat → Rw) (d s : Nat) : Nat := ub (V (pv V d (px (s / 8)))) (16 * (s % 8) + 2)
def tl3 (h : Int64) (k s mk : Nat) : Int64 := ((h + (nI k).toInt64) * 31 + (nI s).toInt64) * 31 + (nI mk).toInt64
theorem c_hn19 {yr : Rw} {a ln : Nat} {h0 : Int64} (ha : a + 16 ≤ 128) (hl : ln ≤ 13) (e2 : yr (a + 2) = nI ln) (hg : ∀ k, k < 13 → gNb V d s k = (nI (ub yr (a + 3 + k))).toInt64) : ∀ (n z : Nat), z ≤ ln → ln - z < n → d_X4_hashName_19 N U D n (hF (gNb V d s) h0 0 z) yr 128 (nI a) (nI z) = some (hF (gNb V d s) h0 0 ln) := by
  intro n
  induction n with
  | zero => intro z _ h; exact absurd h (Nat.not_lt_zero _)
  | succ n ih =>
    intro z hz hn
    rw [d_X4_hashName_19, show (2 : Int32) = nI 2 from rfl, nI_add, ld_n (by omega) (by decide), e2]
    by_cases c : z = ln
    · rw [c, if_pos (nI_le (Nat.le_refl _) (by omega))]
    · rw [if_neg (nI_ge (by omega) (by omega)), if_neg (show ¬ (13 : Int32) ≤ nI z from nI_ge (b := 13) (by omega) (by decide)), show (3 : Int32) = nI 3 from rfl, nI_add, nI_add, ld_n (by omega) (by decide), ub_and, nI_1]
      have q := ih (z + 1) (by omega) (by omega)
      have e : hF (gNb V d s) h0 0 (z + 1) = hF (gNb V d s) h0 0 z * 31 + (nI (ub yr (a + 3 + z))).toInt64 := by
        rw [← hg z (by omega)]
        show hF (gNb V d s) h0 0 z * 31 + gNb V d s (0 + z) = _
        rw [Nat.zero_add]
      rw [e] at q
      exact q
theorem slo_ln (hw : WF N V) (hd : ir d) (hk : f1 V d 0 = 2) (hs : s < szM V d / 16) (h0 : sln V d s ≠ 0) : lnS V d s ≤ 13 ∧ V (pv V d (px (s / 8))) (16 * (s % 8) + 2) = nI (lnS V d s) := by
  rcases hw.2.2.2.2.2.1 d s hd hk hs with z | ⟨_, _, _, ln, z4, z5, _⟩
  · exact absurd z.1 h0
  · have hl := z5.2.1
    have e : lnS V d s = ln := by
      unfold lnS ub
      rw [z4, nI_bv (by omega)]
      omega
    rw [e]
    exact ⟨hl, z4⟩
theorem c_hn {h0 : Int64} (hN1 : 61 ≤ N) (hN : N ≤ 1024) (h : JX N B gr A D R m V tk) (hw : WF N V) (hd : ir d) (hk : f1 V d 0 = 2) (hs : s < szM V d / 16) (hn0 : sln V d s ≠ 0) : d_X4_hashName N (vA A) D2 h0 (nI d) (nI s) = some (hF (gNb V d s) h0 0 (lnS V d s)) := by
  obtain ⟨q1, q2, -⟩ := j_slb (D2 := D2) (o := 0) hN1 hN h hw hd hk hs (by decide)
  obtain ⟨l1, l2⟩ := slo_ln hw hd hk hs hn0
  have hm8 : s % 8 < 8 := Nat.mod_lt _ (by decide)
  have q := c_hn19 (N := N) (U := vA A) (D := D2) (h0 := h0) (V := V) (d := d) (s := s) (yr := V (pv V d (px (s / 8)))) (a := 16 * (s % 8)) (by omega) l1 l2 (fun _ _ => rfl) fuL 0 (Nat.zero_le _) (by rw [fuL_4]; omega)
  rw [d_X4_hashName, bnd_o q1, bnd_o q2]
  exact q
theorem z_tn13 {h0 : Int64} (hN1 : 61 ≤ N) (hN : N ≤ 1024) (h : JX N B gr A D R m V tk) (hw : WF N V) (hd : ir d) (hk : f1 V d 0 = 2) (hs : s < szM V d / 16) (ht : ir t) (hln : lnS V d s ≤ 13) : ∀ (n z : Nat), z ≤ lnS V d s → lnS V d s - z < n → e_tellName_13 n (setTl R (hF (gNb V d s) h0 0 z)) (nI d) (nI s) (nI t) (nI (lnS V d s)) (nI z) = some (setTl R (tl3 (hF (gNb V d s) h0 0 (lnS V d s)) (f1 V t 0) (szM V t) (f4 V t 8))) := by
  intro n
  induction n with
  | zero => intro z _ hh; exact absurd hh (Nat.not_lt_zero _)
  | succ n ih =>
    intro z hz hn
    rw [e_tellName_13]
    by_cases c : z = lnS V d s
    · have k1 := (j_kind (D2 := D) hN1 hN (h.tl (v := hF (gNb V d s) h0 0 (lnS V d s))) ht).2
      have k2 := (j_size (D2 := D) hN1 hN (h.tl (v := hF (gNb V d s) h0 0 (lnS V d s) + (nI (f1 V t 0)).toInt64)) ht).2
      have k3 : e_field (setTl R ((hF (gNb V d s) h0 0 (lnS V d s) + (nI (f1 V t 0)).toInt64) * 31 + (nI (szM V t)).toInt64)) (nI t) 8 4 = some (nI (f4 V t 8)) := (z_f4V (a := 8) hN1 (h.tl (v := (hF (gNb V d s) h0 0 (lnS V d s) + (nI (f1 V t 0)).toInt64) * 31 + (nI (szM V t)).toInt64)) ht.1 ht.2 (by decide)).1
      rw [c, if_pos (nI_le (Nat.le_refl _) (by omega)), bnd_o k1]
      show bnd (e_size (setTl R (hF (gNb V d s) h0 0 (lnS V d s) + (nI (f1 V t 0)).toInt64)) (nI t)) _ = _
      rw [bnd_o k2]
      show bnd (e_field (setTl R ((hF (gNb V d s) h0 0 (lnS V d s) + (nI (f1 V t 0)).toInt64) * 31 + (nI (szM V t)).toInt64)) (nI t) 8 4) _ = _
      rw [bnd_o k3]
      rfl
    · have j1 := (j_slb (D2 := D) (o := 3 + z) hN1 hN (h.tl (v := hF (gNb V d s) h0 0 z)) hw hd hk hs (by omega)).2.2
      rw [if_neg (nI_ge (by omega) (by omega)), show (3 : Int32) = nI 3 from rfl, nI_add, bnd_o j1, nI_1]
      have q := ih (z + 1) (by omega) (by omega)
      have e : hF (gNb V d s) h0 0 (z + 1) = hF (gNb V d s) h0 0 z * 31 + (nI (ub (V (pv V d (px (s / 8)))) (16 * (s % 8) + (3 + z)))).toInt64 := by
        show hF (gNb V d s) h0 0 z * 31 + gNb V d s (0 + z) = _
        unfold gNb
        rw [Nat.zero_add, Nat.add_assoc]
      rw [e] at q
      exact q
theorem z_tn {h0 : Int64} (hN1 : 61 ≤ N) (hN : N ≤ 1024) (h : JX N B gr A D R m V tk) (hw : WF N V) (hd : ir d) (hk : f1 V d 0 = 2) (hs : s < szM V d / 16) (hn0 : sln V d s ≠ 0) (ht : ir t) : e_tellName (setTl R h0) (nI d) (nI s) (nI t) = some (setTl R (tl3 (hF (gNb V d s) h0 0 (lnS V d s)) (f1 V t 0) (szM V t) (f4 V t 8))) := by
  obtain ⟨l1, l2⟩ := slo_ln hw hd hk hs hn0
  have j1 := (j_slb (D2 := D) (o := 2) hN1 hN (h.tl (v := h0)) hw hd hk hs (by decide)).2.2
  have j1 : e_slotNumber (setTl R h0) (nI d) (nI s) 2 1 = some (nI (lnS V d s)) := j1
  rw [e_tellName, bnd_o j1]
  exact z_tn13 hN1 hN h hw hd hk hs ht l1 fuL 0 (Nat.zero_le _) (by rw [fuL_4]; omega)
end PZT
