/-! ===== pure: a name more, inside a call, the reference ahead ===== -/
section PZE
variable {N B gr r : Nat} {V V' W : Nat → Rw} {m m' : M5} {tk tk' : Nat → Bool} {d i s : Nat} {ow : Nat → Int} {s0 : S3} {l : List Nat} {A A' : MS} {D D' : CfT} {R R' : RfT} {tp : Nat → Int32} {tt : Nat} {ss mk : Int32}
def WKg (tt : Nat) (ss mk : Int32) (N B gr r : Nat) (s0 : S3) (l : List Nat) (A : MS) (D : CfT) (R : RfT) (m : M5) (V : Nat → Rw) (tk : Nat → Bool) (ow : Nat → Int) : Prop := JG tt ss mk N B gr A D R m V tk ∧ WS N B r s0 l A R m V tk ow
theorem WKg.chg {ow' : Nat → Int} {r' : Nat} (h : WKg tt ss mk N B gr r s0 l A D R m V tk ow) (hN1 : 61 ≤ N) (x : JG tt ss mk N B gr A' D' R' m' V' tk') (w : WFs N V' ow') (b : Bud N B r' m' V') (s : St N B m V tk m' V' tk') (o : OwS A (OkP m' V') → OwR R (OkP m' V') → OwT A' R' m' V') {l2 : List Nat} (c : ∀ b, 43 ≤ b → b < N → Chg m' V' tk' b → Chg m V tk b ∨ b ∈ l2) : WKg tt ss mk N B gr r' s0 (l2 ++ l) A' D' R' m' V' tk' ow' := ⟨x, w, b, o (h.2.2.2.1.1.wk (fun _ z => z.st s)) (h.2.2.2.1.2.wk (fun _ z => z.st s)), h.2.2.2.2.1.tr s, fun u u1 u2 hc => by
  rcases c u u1 u2 hc with q | q
  · exact (h.2.2.2.2.2 u u1 u2 q).imp id (fun q => List.mem_append_right _ q)
  · exact Or.inr (List.mem_append_left _ q)⟩
theorem WKg.wkn {r' : Nat} (h : WKg tt ss mk N B gr r s0 l A D R m V tk ow) (hr : r' ≤ r) : WKg tt ss mk N B gr r' s0 l A D R m V tk ow := ⟨h.1, h.2.1, h.2.2.1.wkn hr, h.2.2.2⟩
theorem fS_sz [h : IRt tt] {j : Nat} (hj : ir j) (hd : j ≠ tt) : szM (fS tt ss mk V) j = szM V j := sz_c (fun b b1 b2 => fS_c.2 j b hj (by omega) (Or.inl hd))
theorem fS_pw [h : IRt tt] (hw : PW N V) : PW N (fS tt ss mk V) := hw.cg (fun j x hj hx => fS_pv hw hj x hx) fS_43
theorem j_kindg {D2 : CfT} [h0 : IRt tt] (hN1 : 61 ≤ N) (hN : N ≤ 1024) (h : JG tt ss mk N B gr A D R m V tk) (hw : PW N V) (hi : ir i) : e_kind R (nI i) = some (nI (f1 V i 0)) := by
  rw [z_kind h.2.1.1.lk hi.1 hi.2, (f1_ag (a := 0) hN1 h.2.agu (fS_pw hw).1 hi.2).1, fS_f1 hi (by decide) (Or.inr (Or.inl (by decide)))]
theorem z_sizeg [h0 : IRt tt] (hN1 : 61 ≤ N) (h : JG tt ss mk N B gr A D R m V tk) (hw : PW N V) (hi : ir i) (hd : i ≠ tt) : e_size R (nI i) = some (nI (szM V i)) := by
  rw [z_size h.2.1.1.lk hi.1 hi.2, show f4 (rSee R true) i 4 = szM (fS tt ss mk V) i from sz_ag hN1 h.2.agu (fS_pw hw).1 hi, fS_sz hi hd]
theorem j_setSizeg {v : Int32} [h0 : IRt tt] (hN1 : 61 ≤ N) (hN : N ≤ 1024) (h : JG tt ss mk N B gr A D R m V tk) (hi : ir i) (hd : i ≠ tt) : ∃ A' D' R', d_X7_setSize N A D (nI i) v = some (A', D') ∧ e_setField R (nI i) 4 4 v = some R' ∧ JG tt ss mk N B gr A' D' R' m (fldV V i 4 4 v) tk ∧ gA A' = gA A ∧ Dt D D' ∧ Fn [33] [30, 31, 32, 36, 43] R R' := by
  obtain ⟨A', D', a1, a2, a3, a4⟩ := c_setSize (v := v) hN1 hN h.1 hi.1 hi.2
  obtain ⟨R', b1, b2, b3⟩ := y_setField (a := 4) (n := 4) (v := v) hN1 hN h.2 hi.1 hi.2 (by decide) (by decide)
  refine ⟨A', D', R', a1, b1, ⟨a2, ?_⟩, a3, a4, b3⟩
  have e : fS tt ss mk (fldV V i 4 4 v) = vU (fS tt ss mk V) (homeM i) (nr (wB (fS tt ss mk V (homeM i)) (startM i + 4) v 4)) := fS_w (by
    have := h0.h.1
    have := h0.h.2
    have := hi.1
    have := hi.2
    by_cases c : homeM i = homeM tt
    · refine Or.inr ?_
      unfold homeM at c
      unfold startM
      omega
    · exact Or.inl c)
  rw [e]
  exact b2
theorem j_freeSlotSg {D2 : CfT} [h0 : IRt tt] (hN1 : 61 ≤ N) (hN : N ≤ 1024) (h : JG tt ss mk N B gr A D R m V tk) (hw : WFs N V ow) (hd : ir d) (hk : f1 V d 0 = 2) (hdt : d ≠ tt) : d_X4_freeSlot N (vA A) D2 (nI d) = some (frM V d (szM V d / 16) 0) ∧ e_freeSlot R (nI d) = some (frM V d (szM V d / 16) 0) := by
  obtain ⟨a1, a2, a3, a4⟩ := hw.rd hN1 h.1.agu hd hk
  have pw := fS_pw (tt := tt) (ss := ss) (mk := mk) hw.1
  have b1 : szM (rSee R true) d = szM V d := (sz_ag hN1 h.2.agu pw.1 hd).trans (fS_sz hd hdt)
  have b4 : ∀ s, s < szM V d / 16 → pOk N (rSee R true) d (s / 8) := fun s hs => pok_ag pw hN1 h.2.agu hd (hw.dblk hd hk hs).1
  have db := hw.db hd hk
  have dbF : ∀ s, s < szM V d / 16 → s / 8 < 4168 ∧ pv (fS tt ss mk V) d (px (s / 8)) ≠ 0 := fun s hs => ⟨(db s hs).1, by rw [fS_pv hw.1 hd _ (px_lt (db s hs).1)]; exact (db s hs).2⟩
  have es : ∀ s, s < szM V d / 16 → slM (fS tt ss mk V) d s = slM V d s := fun s hs => by
    obtain ⟨q1, q2⟩ := db s hs
    unfold slM
    rw [bl_pv q1, bl_pv q1, fS_pv hw.1 hd _ (px_lt q1), fS_x (fun z => by
      have := (hw.1.2.1 d _ hd (px_lt q1)).resolve_left q2
      have := ir_home h0.h
      omega)]
  refine ⟨?_, ?_⟩
  · rw [d_freeSlot hd.1 hd.2 hN1 hN (by rw [a1]; exact a2) (by rw [a1]; exact a4) (by rw [a1]; exact a3), a1, frM_cg hw.1 hN1 h.1.agu hd db _ 0 (by omega)]
  · rw [z_freeSlot h.2.1.1.lk hd.1 hd.2 (by rw [b1]; exact a2) (by rw [b1]; exact fun s hs => pok_1024 hN (b4 s hs)) (by rw [b1]; exact a3), b1, frM_cg pw hN1 h.2.agu hd dbF _ 0 (by omega), frM_q es _ 0 (by omega)]
theorem f4_c {a j : Nat} (h : ∀ b, a ≤ b → b < a + 4 → ub (W (homeM j)) (startM j + b) = ub (V (homeM j)) (startM j + b)) : f4 W j a = f4 V j a := by
  have h0 : ub (W (homeM j)) (startM j + a) = ub (V (homeM j)) (startM j + a) := h a (by omega) (by omega)
  have h1 : ub (W (homeM j)) (startM j + a + 1) = ub (V (homeM j)) (startM j + a + 1) := h (a + 1) (by omega) (by omega)
  have h2 : ub (W (homeM j)) (startM j + a + 2) = ub (V (homeM j)) (startM j + a + 2) := h (a + 2) (by omega) (by omega)
  have h3 : ub (W (homeM j)) (startM j + a + 2 + 1) = ub (V (homeM j)) (startM j + a + 2 + 1) := h (a + 3) (by omega) (by omega)
  unfold f4 n4 n2
  rw [h0, h1, h2, h3]
theorem w_rowg (hN1 : 61 ≤ N) (hN : N ≤ 1024) (h : WKg tt ss mk N B gr r s0 l A D R m V tk ow) (hd : ir d) (hk : f1 V d 0 = 2) (hs : s < szM V d / 16) (hr : RowC V W (pv V d (px (s / 8))) (16 * (s % 8))) (hsl : SlO V (W (pv V d (px (s / 8)))) (16 * (s % 8))) {A' : MS} {D' : CfT} {R' : RfT} (x : JG tt ss mk N B gr A' D' R' m W tk) (fr : ∀ P : Nat → Prop, P (pv V d (px (s / 8))) → OwS A P → OwR R P → OwS A' P ∧ OwR R' P) : WKg tt ss mk N B gr r s0 ([pv V d (px (s / 8))] ++ l) A' D' R' m W tk (fun i => ow i + (if sln V d s = i then 1 else 0) - (if n2 (W (pv V d (px (s / 8)))) (16 * (s % 8)) = i then 1 else 0)) := by
  obtain ⟨q1, q2, q3⟩ := h.2.1.dblk hd hk hs
  have hb := (h.2.1.1.2.1 d (px (s / 8)) hd (px_lt q1)).resolve_left q2
  obtain ⟨w1, w2, w3, w4⟩ := h.2.1.slot hN1 hd hk hs hr hsl
  have okp : OkP m W (pv V d (px (s / 8))) := Or.inr (Or.inl ⟨q2, d, px (s / 8), hd, px_lt q1, (w2 d hd).2.2.2 _ (px_lt q1), Or.inr (by rw [(w2 d hd).1]; exact hk)⟩)
  exact h.chg hN1 x w1 (h.2.2.1.v (hr.1 43 (by omega))) (St.same (fun j y hj hy => (w2 j hj).2.2.2 y hy) (fun j hj => Or.inl (w2 j hj).1)) (fun o1 o2 => fr _ okp o1 o2) (Chg.one (fun c _ hc => hr.1 c hc))
theorem y_nameR {F : Nat → Rw} {b st ln : Nat} {t : Int32} (hN1 : 61 ≤ N) (hN : N ≤ 1024) (h : RY N B gr R m F tk) (q1 : 61 ≤ b) (q2 : b < N) (q3 : btM (F 43) b = 1) (hs : s / 8 < 4168) (zb : e_blockOf R (nI i) (nI (s / 8)) = some (nI b)) (hln : ln ≤ 13) (hst : st + ln ≤ 1024) (htp : Byt tp) (hR : ∀ k, k < 1024 → rA R 4 k = tp k) : ∃ R', e_addName_65 R (nI i) (nI st) (nI ln) t (nI s) = some R' ∧ RY N B gr R' m (nmV F b (16 * (s % 8)) t tp st ln) tk ∧ Fn [33] [30, 31, 32, 36, 43] R R' ∧ ∀ P : Nat → Prop, P b → OwR R P → OwR R' P := by
  obtain ⟨R1, r1, y1, f1⟩ := y_set (b := b) (p := 16 * (s % 8)) (n := 2) (v := t) hN h (by omega) q2 q3 (by decide) (by omega)
  have e43 : vU F b (nr (wB (F b) (16 * (s % 8)) t 2)) 43 = F 43 := vU_n (by omega)
  obtain ⟨R2, r2, y2, f2⟩ := y_set (b := b) (p := 16 * (s % 8) + 2) (n := 1) (v := nI ln) hN y1 (by omega) q2 (by rw [e43]; exact q3) (by decide) (by omega)
  have q0 : RY N B gr R2 m (vU F b (nr (va_cpy tp (wB (wB (F b) (16 * (s % 8)) t 2) (16 * (s % 8) + 2) (nI ln) 1) st (16 * (s % 8) + 3) 0))) tk := y2.ag hN1 (fun d _ _ => by
    rw [vU_s, wB_nr, cpy_0]
    by_cases q : d = b
    · rw [q, vU_s, vU_s]
    · rw [vU_n q, vU_n q, vU_n q])
  obtain ⟨R3, r3, y3, f3, k3⟩ := y_nm_l (R := R2) (a := 16 * (s % 8)) hN1 hN q1 q2 q3 (by omega) hln hst htp (fun k hk => by rw [f2.1.2.1 4 (by decide), f1.1.2.1 4 (by decide)]; exact hR k hk) fuL 0 R2 (Nat.zero_le _) (by rw [fuL_4]; omega) Fn.rf q0
  have r1 : e_setNumber R (nI b) (nI (16 * (s % 8))) 2 t = some R1 := r1
  have r2 : e_setNumber R1 (nI b) (nI (16 * (s % 8) + 2)) 1 (nI ln) = some R2 := r2
  have r3 : e_addName_113 fuL R2 (nI st) (nI ln) (nI b) (nI (16 * (s % 8))) 0 = some R3 := r3
  have ea : (16 : Int32) * (nI s - nI (s / 8) * 8) = nI (16 * (s % 8)) := by
    rw [show (8 : Int32) = nI 8 from rfl, show (16 : Int32) = nI 16 from rfl, pk_mul, pk_sub (by omega), n_rem, pk_mul]
  refine ⟨R3, ?_, y3, (f1.tr f2).tr f3, fun P p1 p3 => k3 P p1 (ww_set (n := 1) hN y1.1 (by omega) q2 (by decide) (by omega) r2 (ww_set (n := 2) hN h.1 (by omega) q2 (by decide) (by omega) r1 p3 p1) p1)⟩
  rw [e_addName_65, show nI s / (8 : Int32) = nI (s / 8) from pk_div (by omega) (by decide) (by decide), bnd_o zb, nm_o, ea, bnd_o r1, show (2 : Int32) = nI 2 from rfl, nI_add]
  have r2' : e_setNumber R1 (nI b) (nI (16 * (s % 8) + 2)) 1 (nI ln) = some R2 := r2
  rw [bnd_o r2', r3]
theorem j_nameg {A1 : MS} {D1 : CfT} {st ln : Nat} {t : Int32} [h0t : IRt tt] (hN1 : 61 ≤ N) (hN : N ≤ 1024) (h : JG tt ss mk N B gr A D R m V tk) (hp : PW N V) (hi : ir i) (hs : s / 8 < 4168) (h0 : pv V i (px (s / 8)) ≠ 0) (hln : ln ≤ 13) (hst : st + ln ≤ 1024) (htp : Byt tp) (hD : ∀ k, cA D 1 k = tp k) (hR : ∀ k, k < 1024 → rA R 4 k = tp k) (e1 : d_X4_ownRowOf N A D (nI i) (nI s) = some (pv V i (px (s / 8)), A1, D1)) (x1 : CX N A1 D1 m V tk) (o1 : oA A1 (pv V i (px (s / 8))) = some (V (pv V i (px (s / 8))))) (hD1 : cA D1 1 = cA D 1) : ∃ A2 A3 A4 R', s2O N A1 (pv V i (px (s / 8))) (nI (16 * (s % 8))) t = some A2 ∧ stO N A2 (pv V i (px (s / 8))) (nI (16 * (s % 8) + 2)) (vp_nar .byte ((nI ln).toInt8.toInt32)) = some A3 ∧ cpO N A3 (pv V i (px (s / 8))) (cA D1 1) 1024 (nI st) (nI (16 * (s % 8) + 3)) (nI ln) = some A4 ∧ e_addName_65 R (nI i) (nI st) (nI ln) t (nI s) = some R' ∧ JG tt ss mk N B gr A4 D1 R' m (nmV V (pv V i (px (s / 8))) (16 * (s % 8)) t tp st ln) tk ∧ gA A4 = gA A1 ∧ Fn [33] [30, 31, 32, 36, 43] R R' ∧ ∀ P : Nat → Prop, P (pv V i (px (s / 8))) → OwS A1 P → OwR R P → OwS A4 P ∧ OwR R' P := by
  obtain ⟨q1, q2, q3⟩ := (hp.pto hi _ (px_lt hs)).resolve_left h0
  have zb := z_blkg hN1 hN h.2 hp hi hs
  generalize hb : pv V i (px (s / 8)) = b at *
  have eS : ∀ (X : MS) (y z : Rw), aSet (aSet X b y) b z = aSet X b z := fun X y z => by
    unfold aSet aOw
    congr 6
    funext c
    by_cases q : c = b
    · rw [if_pos q, if_pos q]
    · rw [if_neg q, if_neg q]
      exact if_neg q
  have w2 := c_w2 (N := N) (p := 16 * (s % 8)) (v := t) q2 o1 (by omega)
  have o2 : oA (aSet A1 b (nr (wB (V b) (16 * (s % 8)) t 2))) b = some (nr (wB (V b) (16 * (s % 8)) t 2)) := if_pos rfl
  have w3 := c_w1 (N := N) (p := 16 * (s % 8) + 2) (v := nI ln) q2 o2 (by omega)
  rw [wB_nr, eS] at w3
  have o3 : oA (aSet A1 b (nr (wB (wB (V b) (16 * (s % 8)) t 2) (16 * (s % 8) + 2) (nI ln) 1))) b = some (nr (wB (wB (V b) (16 * (s % 8)) t 2) (16 * (s % 8) + 2) (nI ln) 1)) := if_pos rfl
  have w4 : cpO N (aSet A1 b (nr (wB (wB (V b) (16 * (s % 8)) t 2) (16 * (s % 8) + 2) (nI ln) 1))) b (cA D1 1) 1024 (nI st) (nI (16 * (s % 8) + 3)) (nI ln) = some (aSet A1 b (nr (va_cpy tp (wB (wB (V b) (16 * (s % 8)) t 2) (16 * (s % 8) + 2) (nI ln) 1) st (16 * (s % 8) + 3) ln))) := by
    have ht1 : cA D1 1 = tp := by
      rw [hD1]
      exact funext hD
    unfold cpO
    rw [ht1, gd_t htp]
    refine (c_rw q2 o3 (z := va_cpy tp (nr (wB (wB (V b) (16 * (s % 8)) t 2) (16 * (s % 8) + 2) (nI ln) 1)) st (16 * (s % 8) + 3) ln) ?_).trans ?_
    · rw [nI_clamp (by omega), nI_clamp (by omega), nI_clamp (by omega), if_neg (fun z => z.elim (nI_nn (by omega)) (fun z => z.elim (nI_nn (by omega)) (fun z => z.elim (nI_nn (by omega)) (fun z => by omega))))]
    · rw [eS]
      congr 2
      refine nr_eq (fun o ho => ?_)
      unfold va_cpy
      split
      · rfl
      · exact nr_at ho
  have x4 := c_put (y := nr (va_cpy tp (wB (wB (V b) (16 * (s % 8)) t 2) (16 * (s % 8) + 2) (nI ln) 1) st (16 * (s % 8) + 3) ln)) x1 (show 44 ≤ b by omega) q3 o1
  obtain ⟨R3, r3, y3, f3, k3⟩ := y_nameR (t := t) hN1 hN h.2 q1 q2 (by rw [fS_43]; exact q3) hs zb hln hst htp hR
  have hbh : b ≠ homeM tt := by have := ir_home h0t.h; omega
  have en : nmV (fS tt ss mk V) b (16 * (s % 8)) t tp st ln = fS tt ss mk (nmV V b (16 * (s % 8)) t tp st ln) := by
    unfold nmV
    rw [fS_u hbh, fS_x hbh]
  rw [en] at y3
  exact ⟨_, _, _, R3, w2, w3, w4, r3, ⟨x4, y3⟩, rfl, f3, fun P p1 p2 p3 => ⟨ow_set p2 p1, k3 P p1 p3⟩⟩
theorem w_dgrowg {p : Nat} [h0t : IRt tt] (hdt : d ≠ tt) (hN1 : 61 ≤ N) (hN : N ≤ 1024) (hd : ir d) (hk : f1 V d 0 = 2) (hp : p = szM V d / 128) (h : WKg tt ss mk N B gr (r + msM V d p) s0 l A D R m V tk ow) : (∃ v A1 D1 R1 A2 D2 R2 m' W tk' l2, d_X7_have N B gr A D (nI d) (nI p) 1 = some (.inl (v, A1, D1)) ∧ e_have R (nI d) (nI p) (nI p) = some R1 ∧ ¬ rS R1 11 = 0 ∧ d_X7_size N (vA A1) D1 (nI d) = some (nI (szM V d)) ∧ d_X7_setSize N A1 D1 (nI d) (nI (szM V d + 128)) = some (A2, D2) ∧ e_setField R1 (nI d) 4 4 (nI (szM V d + 128)) = some R2 ∧ (l2.length = 5 ∧ 43 ∈ l2) ∧ WKg tt ss mk N B gr r s0 (l2 ++ l) A2 D2 R2 m' W tk' ow ∧ gA A2 = gA A ∧ Dt D D2 ∧ Fq hS hT R R2 ∧ Keep V W d ∧ szM W d = szM V d + 128 ∧ (∀ j, ir j → f4 W j 8 = f4 V j 8) ∧ ∀ s, szM V d / 16 ≤ s → s < szM V d / 16 + 8 → sln W d s = 0) ∨ (∃ A' D' R', d_X7_have N B gr A D (nI d) (nI p) 1 = some (.inr (0, A', D')) ∧ e_have R (nI d) (nI p) (nI p) = some R' ∧ rS R' 11 = 0 ∧ Dd N R A'.1 R' ∧ Dt D D' ∧ FlT N B m A' D') := by
  have hh := ir_home hd
  have hlim := h.2.1.dlim hd hk
  have hp4 : p < 4168 := by omega
  obtain ⟨z1, z2⟩ := h.2.1.2.2.2.2.1 d hd hk
  have ek : e_have R (nI d) (nI p) (nI p) = e_have_19 (3999998 + 1 + 1) R (nI d) (nI p) (bI true) (nI p) := by
    rw [e_have, bnd_o (j_kindg (D2 := D) hN1 hN h.1 h.2.1.1 hd), hk, if_pos (show nI 2 = (2 : Int32) from rfl), show fuL = 3999998 + 1 + 1 from rfl]
    rfl
  have e19 : ∀ X : RfT, e_have_19 (3999998 + 1) X (nI d) (nI p) (bI true) (nI (p + 1)) = some X := fun X => by
    rw [e_have_19, if_pos (nI_lt (by omega) (by omega))]
  have q := j_have1g (n := 3999998 + 1) (to := p) (tb := true) hN1 hN hd ⟨h.1, h.2.1.1, h.2.2.1⟩ hp4 (Nat.le_refl _) hp4
  rcases q with ⟨A1, D1, R1, m', V1, tk', a1, a2, ⟨a3x, a3w, a3b⟩, a4, a5, a6, a7, a8, a9, a10, a11, a12⟩ | ⟨A1, D1, R1, a1, a2, a3, a4, a5⟩
  · rw [e19] at a2
    obtain ⟨A2, D2, R2, b1, b2, b3, b4, b5, b6⟩ := j_setSizeg (i := d) (v := nI (szM V d + 128)) hN1 hN a3x hd hdt
    have esz : szM V1 d = szM V d := a4.sz hd
    obtain ⟨g1, g2, g3, g4, g5, g6, g7⟩ := h.2.1.growD hd hk a4 a3w hp (by omega) a5 rfl
    have hpx : pv (fldV V1 d 4 4 (nI (szM V d + 128))) d (px p) ≠ 0 := by
      rw [g3 d _ hd (px_lt hp4)]
      exact a5
    have st1 : St N B m V tk m' V1 tk' := St.grow hd (fun _ => rfl) a4 a11 a10
    have st2 : St N B m' V1 tk' m' (fldV V1 d 4 4 (nI (szM V d + 128))) tk' := St.same (fun j x hj hx => g3 j x hj hx) (fun j hj => Or.inl (by
      rw [(g2 j hj).1]
      exact (a4.2.1 j 0 hj (by decide)).symm))
    have mk8 : ∀ j, ir j → f4 (fldV V1 d 4 4 (nI (szM V d + 128))) j 8 = f4 V j 8 := fun j hj => (fld_f4 hd.1 hj.1 (by decide) (by decide) (Or.inr (by decide))).trans (f4_c (fun b b1 b2 => a4.2.1 j b hj (by omega)))
    refine Or.inl ⟨_, A1, D1, R1, A2, D2, R2, m', _, tk', [43, homeM d, pv V1 d (px p), pv V1 d (hx (px p)), pv V1 d 9], a1, by rw [ek]; exact a2, a3x.2.1.1.1.on, by rw [c_size (D2 := D1) hN1 hN a3x.1 a3w.1 hd, esz], b1, b2, ⟨rfl, List.mem_cons_self⟩, ?_, b4.trans a6, a7.tr b5, a8.tr (b6.1.wk (by decide) (by decide)), ⟨fun j hj => ⟨(g2 j hj).1, (g2 j hj).2.1⟩, fun j hj hne => ⟨by rw [(g2 j hj).2.2, if_neg hne], fun x hx => by rw [g3 j x hj hx]; exact a4.1 j x hj hx (Or.inr (Or.inl hne))⟩, g4, ?_⟩, ?_, mk8, g6⟩
    · refine h.chg hN1 b3 g1 (a3b.v (fld_x (by omega))) (st1.tr st2) (fun o1 o2 => ?_) (fun b u1 u2 hc => ?_)
      · obtain ⟨w1, w2⟩ := a12 (OkP m' (fldV V1 d 4 4 (nI (szM V d + 128)))) (OkP.lo (by decide)) (OkP.lo hh.2) (fun x x1 x2 x3 => Or.inr (Or.inl ⟨x3, d, x, hd, x1, g3 d x hd x1, Or.inr (by rw [(g2 d hd).1]; exact hk)⟩)) o1 o2
        exact ⟨ow_size hd.1 hd.2 b1 w1 (OkP.lo hh.2), ww_field (a := 4) (n := 4) hN1 hN a3x.2.1 hd.1 hd.2 (by decide) (by decide) b2 w2 (OkP.lo hh.2)⟩
      · by_cases c43 : b = 43
        · exact Or.inr (by rw [c43]; exact List.mem_cons_self ..)
        · by_cases ch : b = homeM d
          · exact Or.inr (by rw [ch]; exact List.mem_cons_of_mem _ (List.mem_cons_self ..))
          · have inl : yB d true (pY p) V1 b → b ∈ [43, homeM d, pv V1 d (px p), pv V1 d (hx (px p)), pv V1 d 9] := fun ⟨_, x, x1, x2, x3, x4⟩ => by
              rcases x2 with z | z | z
              · rw [← x4, z]; simp
              · rw [← x4, z.2]; simp
              · rw [← x4, z.2]; simp
            have hbef := (a10.mr.bef hN1 h.2.2.1.1).2 b u1 u2
            rcases hc with hc | hc
            · rcases a11.2.2.2 b hc with z | z
              · exact Or.inl (Or.inl z)
              · exact Or.inr (inl z)
            · rw [fld_x ch, hbef] at hc
              rcases a11.2.2.1 b (by omega) with z | z | z
              · rw [z] at hc
                exact Or.inl (Or.inr hc)
              · exact absurd z ch
              · exact Or.inr (inl z)
    · rw [(g2 d hd).2.2, if_pos rfl]
      omega
    · rw [(g2 d hd).2.2, if_pos rfl]
  · rw [e19] at a2
    exact Or.inr ⟨A1, D1, R1, a1, by rw [ek]; exact a2, a3.1.1, a3, a4, a5⟩
theorem w_nm50g {k t : Nat} {st ln : Nat → Nat} [h0t : IRt tt] (hN1 : 61 ≤ N) (hN : N ≤ 1024) (h : WKg tt ss mk N B gr r s0 l A D R m V tk ow) (hd : ir d) (hk : f1 V d 0 = 2) (hs : s < szM V d / 16) (ht : ir t) (htk : f1 V t 0 ≠ 0) (hs0 : sln V d s = 0) (hTp : TpR D R tp) (hC : PthC50 D k st ln) (hNm : NmS tp k st ln) (hk1 : 1 ≤ k) : ∃ A' D' R', d_X4_addName_50_55 N B gr A D (nI d) (nI t) (nI s) = some (.inl ((), A', D')) ∧ e_addName_65 R (nI d) (nI (st (k - 1))) (nI (ln (k - 1))) (nI t) (nI s) = some R' ∧ WKg tt ss mk N B gr r s0 ([pv V d (px (s / 8))] ++ l) A' D' R' m (nmV V (pv V d (px (s / 8))) (16 * (s % 8)) (nI t) tp (st (k - 1)) (ln (k - 1))) tk (fun i => ow i + (if sln V d s = i then 1 else 0) - (if t = i then 1 else 0)) ∧ gA A' = gA A ∧ Dt D D' ∧ Fn [33] [30, 31, 32, 36, 43] R R' := by
  obtain ⟨q1, q2, q3⟩ := h.2.1.dblk hd hk hs
  have ht1 := ht.1
  have ht2 := ht.2
  obtain ⟨c1, c2, c3⟩ := hC
  obtain ⟨hn, hsl⟩ := hNm (k - 1) (by omega)
  obtain ⟨e48, e49⟩ := c3 (k - 1) (by omega)
  obtain ⟨A1, D1, e1, x1, o1, g1, t1, w1⟩ := c_rowOf hN1 hN h.1.1 (h.2.1.1.pto hd) hd.1 hd.2 q1 q2
  have hD1 : cA D1 1 = cA D 1 := t1.2 1 (by decide)
  obtain ⟨A2, A3, A4, R', a1, a2, a3, a4, a5, a6, a7, a8⟩ := j_nameg (t := nI t) hN1 hN h.1 h.2.1.1 hd q1 q2 hn.2.1 hsl hTp.1 hTp.2.1 hTp.2.2 e1 x1 o1 hD1
  refine ⟨A4, D1, R', ?_, a4, ?_, a6.trans g1, t1, a7⟩
  · have es : cS D 5002 - 1 = nI (k - 1) := by
      rw [c1]
      show nI k - nI 1 = _
      rw [pk_sub hk1]
    have d48 : cA D1 51 = cA D 51 := t1.2 51 (by decide)
    have d49 : cA D1 52 = cA D 52 := t1.2 52 (by decide)
    rw [d_X4_addName_50_55, bnd3_o e1, bnd_o (d_stO (by omega)), bnd_o a1, es, ld_n (by omega) (by decide), d49, e49, show nI (16 * (s % 8)) + 2 = nI (16 * (s % 8) + 2) from nI_add .., bnd_o a2, ld_n (by omega) (by decide), d48, e48, ld_n (by omega) (by decide), e49, show nI (16 * (s % 8)) + 3 = nI (16 * (s % 8) + 3) from nI_add .., bnd_o a3]
  · have hz : ∀ o, 16 * (s % 8) + 2 ≤ o → o < 16 * (s % 8) + 16 → V (pv V d (px (s / 8))) o = 0 := by
      rcases h.2.1.2.2.2.2.2.1 d s hd hk hs with z | z
      · exact z.2
      · exact absurd hs0 z.1
    have q := w_rowg hN1 hN h hd hk hs (nm_row (tp := tp) (st := st (k - 1)) (t := t) hn.2.1) (nm_slo (by omega) ht htk hn hz) a5 (fun P p1 p2 p3 => a8 P p1 (w1 P p1 p2) p3)
    rw [nm_n2 (by omega) (by omega)] at q
    exact q
theorem nm_f4 {b a st ln : Nat} {t : Int32} (hb : 61 ≤ b) {j : Nat} (hj : ir j) : f4 (nmV V b a t tp st ln) j 8 = f4 V j 8 := by
  have := ir_home hj
  unfold f4 nmV
  rw [vU_n (by omega)]
theorem w_add50g {k t : Nat} {st ln : Nat → Nat} [h0t : IRt tt] (hdt : d ≠ tt) (hN1 : 61 ≤ N) (hN : N ≤ 1024) (hd : ir d) (hk : f1 V d 0 = 2) (h : WKg tt ss mk N B gr (r + wtM V d) s0 l A D R m V tk ow) (ht : ir t) (htk : f1 V t 0 ≠ 0) (hTp : TpR D R tp) (hC : PthC50 D k st ln) (hNm : NmS tp k st ln) (hk1 : 1 ≤ k) : (∃ A' D' R' m' W tk' l2, d_X4_addName_50 N B gr A D (nI d) (nI t) = some (.inl ((), A', D')) ∧ e_addName R (nI d) (nI (st (k - 1))) (nI (ln (k - 1))) (nI t) = some R' ∧ (l2.length ≤ 6 ∧ (43 ∈ l2 ∨ l2.length ≤ 1)) ∧ WKg tt ss mk N B gr r s0 (l2 ++ l) A' D' R' m' W tk' (fun i => ow i - (if t = i then 1 else 0)) ∧ gA A' = gA A ∧ Dt D D' ∧ Fq hS hT R R' ∧ (∀ j, ir j → f1 W j 0 = f1 V j 0 ∧ f1 W j 1 = f1 V j 1) ∧ (∀ j, ir j → j ≠ d → szM W j = szM V j ∧ ∀ x, x < 4234 → pv W j x = pv V j x) ∧ (∀ e s, ir e → e ≠ d → f1 V e 0 = 2 → s < szM V e / 16 → sln W e s = sln V e s) ∧ (∀ j, ir j → f4 W j 8 = f4 V j 8)) ∨ (∃ A' D' R', d_X4_addName_50 N B gr A D (nI d) (nI t) = some (.inr (0, A', D')) ∧ e_addName R (nI d) (nI (st (k - 1))) (nI (ln (k - 1))) (nI t) = some R' ∧ Dd N R A'.1 R' ∧ Dt D D' ∧ FlT N B m A' D') := by
  have ht1 := ht.1
  obtain ⟨f1', f2'⟩ := j_freeSlotSg (D2 := D) hN1 hN h.1 h.2.1 hd hk hdt
  obtain ⟨z1, z2⟩ := h.2.1.2.2.2.2.1 d hd hk
  have hlim := h.2.1.dlim hd hk
  have hbl := h.2.1.db hd hk
  have tail : ∀ (U : Nat → Rw) (s1 : Nat) (m1 : M5) (tk1 : Nat → Bool) (A1 : MS) (D1 : CfT) (R1 : RfT) (l1 : List Nat) (r1 : Nat), WKg tt ss mk N B gr r1 s0 l1 A1 D1 R1 m1 U tk1 ow → f1 U d 0 = 2 → s1 < szM U d / 16 → f1 U t 0 ≠ 0 → sln U d s1 = 0 → Dt D D1 → (∀ j, j < 1024 → rA R1 4 j = tp j) → ∃ A' D' R', d_X4_addName_50_55 N B gr A1 D1 (nI d) (nI t) (nI s1) = some (.inl ((), A', D')) ∧ e_addName_65 R1 (nI d) (nI (st (k - 1))) (nI (ln (k - 1))) (nI t) (nI s1) = some R' ∧ WKg tt ss mk N B gr r1 s0 ([pv U d (px (s1 / 8))] ++ l1) A' D' R' m1 (nmV U (pv U d (px (s1 / 8))) (16 * (s1 % 8)) (nI t) tp (st (k - 1)) (ln (k - 1))) tk1 (fun i => ow i - (if t = i then 1 else 0)) ∧ gA A' = gA A1 ∧ Dt D1 D' ∧ Fn [33] [30, 31, 32, 36, 43] R1 R' ∧ (∀ j, ir j → f1 (nmV U (pv U d (px (s1 / 8))) (16 * (s1 % 8)) (nI t) tp (st (k - 1)) (ln (k - 1))) j 0 = f1 U j 0 ∧ f1 (nmV U (pv U d (px (s1 / 8))) (16 * (s1 % 8)) (nI t) tp (st (k - 1)) (ln (k - 1))) j 1 = f1 U j 1 ∧ szM (nmV U (pv U d (px (s1 / 8))) (16 * (s1 % 8)) (nI t) tp (st (k - 1)) (ln (k - 1))) j = szM U j ∧ ∀ x, x < 4234 → pv (nmV U (pv U d (px (s1 / 8))) (16 * (s1 % 8)) (nI t) tp (st (k - 1)) (ln (k - 1))) j x = pv U j x) ∧ (∀ d' s', ir d' → f1 U d' 0 = 2 → s' < szM U d' / 16 → ¬ (d' = d ∧ s' = s1) → sln (nmV U (pv U d (px (s1 / 8))) (16 * (s1 % 8)) (nI t) tp (st (k - 1)) (ln (k - 1))) d' s' = sln U d' s') := fun U s1 m1 tk1 A1 D1 R1 l1 r1 hw u1 u2 u3 u4 u5 u6 => by
    have hT1 : TpR D1 R1 tp := ⟨hTp.1, fun j => by rw [show cA D1 1 = cA D 1 from u5.2 1 (by decide)]; exact hTp.2.1 j, u6⟩
    have hC1 : PthC50 D1 k st ln := by
      obtain ⟨c1, c2, c3⟩ := hC
      exact ⟨by rw [show cS D1 5002 = cS D 5002 from u5.1 5002 (by decide)]; exact c1, c2, fun j hj => by rw [show cA D1 51 = cA D 51 from u5.2 51 (by decide), show cA D1 52 = cA D 52 from u5.2 52 (by decide)]; exact c3 j hj⟩
    obtain ⟨A', D', R', a1, a2, a3, a4, a5, a6⟩ := w_nm50g hN1 hN hw hd u1 u2 ht u3 u4 hT1 hC1 hNm hk1
    obtain ⟨hn, -⟩ := hNm (k - 1) (by omega)
    have hz : ∀ o, 16 * (s1 % 8) + 2 ≤ o → o < 16 * (s1 % 8) + 16 → U (pv U d (px (s1 / 8))) o = 0 := by
      rcases hw.2.1.2.2.2.2.2.1 d s1 hd u1 u2 with z | z
      · exact z.2
      · exact absurd u4 z.1
    obtain ⟨-, v2, v3, -⟩ := hw.2.1.slot hN1 hd u1 u2 (nm_row (tp := tp) (st := st (k - 1)) (t := t) hn.2.1) (nm_slo (by omega) ht u3 hn hz)
    obtain ⟨b1, b2, b3, b4, b5, b6⟩ := a3
    refine ⟨A', D', R', a1, a2, ⟨b1, WFs.owe b2 (fun j hj => ?_), b3, b4, b5, b6⟩, a4, a5, a6, v2, v3⟩
    have := hj.1
    rw [u4, if_neg (by omega)]
    omega
  rw [d_X4_addName_50, bnd_o f1', e_addName, bnd_o f2']
  rcases fr_o hbl (szM V d / 16) 0 (by omega) with ⟨q1, q2⟩ | ⟨s1, q1, q2, q3, q4⟩
  · have hw : wtM V d = msM V d (szM V d / 128) := if_pos q1
    rw [hw] at h
    have hsz1 := (h.2.1.pz hd).1
    have y1 := c_size (D2 := D) hN1 hN h.1.1 h.2.1.1.1 hd
    have y2 := z_sizeg hN1 h.1 h.2.1.1 hd hdt
    have esl : d_X4_slots N (vA A) D (nI d) = some (nI (szM V d / 16)) := by
      rw [d_X4_slots, bnd_o y1, show (16 : Int32) = nI 16 from rfl, pk_div (by omega) (by decide) (by decide)]
    have e8 : nI (szM V d / 16) / 8 = nI (szM V d / 128) := by
      rw [show (8 : Int32) = nI 8 from rfl, pk_div (by omega) (by decide) (by decide), show szM V d / 16 / 8 = szM V d / 128 by omega]
    have e128 : nI (szM V d) / 128 = nI (szM V d / 128) := by
      rw [show (128 : Int32) = nI 128 from rfl, pk_div (by omega) (by decide) (by decide)]
    have e16 : nI (szM V d) / 16 = nI (szM V d / 16) := by
      rw [show (16 : Int32) = nI 16 from rfl, pk_div (by omega) (by decide) (by decide)]
    have ea : nI (szM V d) + 128 = nI (szM V d + 128) := by
      rw [show (128 : Int32) = nI 128 from rfl, nI_add]
    rw [q1, if_pos rfl, bnd_o esl, e8, if_pos rfl, bnd_o y2, e128, e16, ea]
    rcases w_dgrowg hdt hN1 hN hd hk rfl h with ⟨v, A1, D1, R1, A2, D2, R2, m', W, tk', l2, a1, a2, a3, a4, a5, a6, a7, a8, a9, a10, a11, a12, a13, a15, a14⟩ | ⟨A', D', R', a1, a2, a3, a4, a5, a6⟩
    · obtain ⟨k1, k2, k3, k4⟩ := a12
      obtain ⟨A', D', R', b1, b2, b3, b4, b5, b6, b7, b8⟩ := tail W (szM V d / 16) m' tk' A2 D2 R2 (l2 ++ l) r a8 (by rw [(k1 d hd).1]; exact hk) (by rw [a13]; omega) (by rw [(k1 t ht).1]; exact htk) (a14 _ (Nat.le_refl _) (by omega)) a10 (fun j hj => by rw [a11.2.1 4 (by decide)]; exact hTp.2.2 j hj)
      rw [bndF_l a1, bnd_o a4, ea, bnd2_o a5, b1, bnd_o a2, if_neg a3, bnd_o a6, b2]
      rw [← List.append_assoc] at b3
      refine Or.inl ⟨A', D', R', m', _, tk', [pv W d (px (szM V d / 16 / 8))] ++ l2, rfl, rfl, ?_, b3, b4.trans a9, a10.tr b5, a11.tr (b6.1.wk (by decide) (by decide)), fun j hj => ?_, fun j hj hne => ?_, fun e s he hne hk2 hs => ?_, fun j hj => ?_⟩
      · refine ⟨?_, Or.inl (List.mem_append_right _ a7.2)⟩
        rw [List.length_append, a7.1]
        show 1 + 5 ≤ 6
        decide
      · exact ⟨by rw [(b7 j hj).1]; exact (k1 j hj).1, by rw [(b7 j hj).2.1]; exact (k1 j hj).2⟩
      · exact ⟨by rw [(b7 j hj).2.2.1]; exact (k2 j hj hne).1, fun x hx => by rw [(b7 j hj).2.2.2 x hx]; exact (k2 j hj hne).2 x hx⟩
      · rw [b8 e s he (by rw [(k1 e he).1]; exact hk2) (by rw [(k2 e he hne).1]; exact hs) (fun z => hne z.1)]
        exact k3 e s he hk2 hs
      · have hbk := b3.2.1.1.2.1
        rw [← a15 j hj]
        exact nm_f4 (by
          have q := (a8.2.1.1.2.1 d (px (szM V d / 16 / 8)) hd (px_lt (by omega))).resolve_left (by
            have := (a8.2.1.dblk hd (by rw [(k1 d hd).1]; exact hk) (show szM V d / 16 < szM W d / 16 by rw [a13]; omega)).2.1
            exact this)
          exact q.1) hj
    · rw [bndF_r a1, bnd_o a2, if_pos a3]
      exact Or.inr ⟨A', D', R', rfl, rfl, a4, a5, a6⟩
  · have hw : wtM V d = 0 := if_neg (by rw [q4]; exact nI_m1 (by omega))
    rw [hw] at h
    obtain ⟨A', D', R', b1, b2, b3, b4, b5, b6, b7, b8⟩ := tail V s1 m tk A D R l (r + 0) h hk q2 htk q3 Dt.rf hTp.2.2
    rw [q4, if_neg (nI_m1 (by omega)), if_neg (nI_m1 (by omega)), b1, b2]
    exact Or.inl ⟨A', D', R', m, _, tk, [pv V d (px (s1 / 8))], rfl, rfl, ⟨by show 1 ≤ 6; decide, Or.inr (by show 1 ≤ 1; decide)⟩, b3, b4, b5, b6.1.wk (by decide) (by decide), fun j hj => ⟨(b7 j hj).1, (b7 j hj).2.1⟩, fun j hj _ => ⟨(b7 j hj).2.2.1, (b7 j hj).2.2.2⟩, fun e s he hne hk2 hs => b8 e s he hk2 hs (fun z => hne z.1), fun j hj => nm_f4 ((h.2.1.1.2.1 d _ hd (px_lt (hbl s1 q2).1)).resolve_left (hbl s1 q2).2).1 hj⟩
end PZE
