/-! ===== pure: a name more, while the reference told size and mark of a new file already ===== -/
section PZD
variable {N B gr : Nat} {V V1 V2 W : Nat → Rw} {m : M5} {tk : Nat → Bool} {i tt : Nat} {ss mk : Int32}
abbrev IRt (t : Nat) : Prop := Nonempty (PLift (ir t))
theorem IRt.h {t : Nat} (h : IRt t) : ir t := h.elim PLift.down
/-- size and mark are told -/
def fS (t : Nat) (s mk : Int32) (V : Nat → Rw) : Nat → Rw := fldV (fldV V t 4 4 s) t 8 4 mk
theorem fS_x {c : Nat} (h : c ≠ homeM tt) : fS tt ss mk V c = V c := by
  unfold fS
  rw [fld_x h, fld_x h]
theorem fS_43 [h : IRt tt] : fS tt ss mk V 43 = V 43 := fS_x (by have := ir_home h.h; omega)
theorem wB_cm {y : Rw} {a b n k : Nat} {v w : Int32} (h : a + n ≤ b ∨ b + k ≤ a) : wB (wB y a v n) b w k = wB (wB y b w k) a v n := by
  funext o
  by_cases c1 : a ≤ o ∧ o < a + n
  · rw [wB_out k (by omega), show o = a + (o - a) by omega, wB_in n (by omega), wB_in n (by omega)]
  · rw [wB_out (p := a) n (by omega)]
    by_cases c2 : b ≤ o ∧ o < b + k
    · rw [show o = b + (o - b) by omega, wB_in k (by omega), wB_in k (by omega)]
    · rw [wB_out k (by omega), wB_out n (by omega), wB_out k (by omega)]
theorem fld_cm {t a k c o n : Nat} {v w : Int32} (h : c ≠ homeM t ∨ o + n ≤ startM t + a ∨ startM t + a + k ≤ o) : fldV (vU V c (nr (wB (V c) o v n))) t a k w = vU (fldV V t a k w) c (nr (wB (fldV V t a k w c) o v n)) := by
  funext x
  unfold fldV
  by_cases e : c = homeM t
  · subst e
    have h := h.resolve_left (fun z => z rfl)
    by_cases x1 : x = homeM t
    · rw [x1, vU_s, vU_s, vU_s, vU_s, wB_nr, wB_nr, wB_cm (by omega)]
    · rw [vU_n x1, vU_n x1, vU_n x1, vU_n x1]
  · have e' : homeM t ≠ c := fun z => e z.symm
    rw [vU_n e', vU_n (V := V) e]
    by_cases x1 : x = homeM t
    · rw [x1, vU_s, vU_n e', vU_s]
    · rw [vU_n x1]
      by_cases x2 : x = c
      · rw [x2, vU_s, vU_s]
      · rw [vU_n x2, vU_n x2, vU_n x1]
theorem fS_w {c o n : Nat} {v : Int32} (h : c ≠ homeM tt ∨ o + n ≤ startM tt + 4 ∨ startM tt + 12 ≤ o) : fS tt ss mk (vU V c (nr (wB (V c) o v n))) = vU (fS tt ss mk V) c (nr (wB (fS tt ss mk V c) o v n)) := by
  unfold fS
  rw [fld_cm (by omega), fld_cm (by omega)]
theorem fld_u {t a k c : Nat} {w : Int32} {x : Rw} (h : c ≠ homeM t) : fldV (vU V c x) t a k w = vU (fldV V t a k w) c x := by
  have e' : homeM t ≠ c := fun z => h z.symm
  funext d
  unfold fldV
  rw [vU_n e']
  by_cases x1 : d = homeM t
  · rw [x1, vU_s, vU_n e', vU_s]
  · rw [vU_n x1]
    by_cases x2 : d = c
    · rw [x2, vU_s, vU_s]
    · rw [vU_n x2, vU_n x2, vU_n x1]
theorem fS_u {c : Nat} {x : Rw} (h : c ≠ homeM tt) : fS tt ss mk (vU V c x) = vU (fS tt ss mk V) c x := by
  unfold fS
  rw [fld_u h, fld_u h]
theorem fS_tk {b : Nat} {tab : Bool} [h : IRt tt] (hb : 61 ≤ b) : fS tt ss mk (tkV V b tab) = tkV (fS tt ss mk V) b tab := by
  have := ir_home h.h
  have n43 : (43 : Nat) ≠ homeM tt := by omega
  unfold tkV
  cases tab with
  | true =>
    rw [if_pos rfl, if_pos rfl, fS_u (by omega), fS_u n43, fS_43]
  | false =>
    rw [if_neg (by decide), if_neg (by decide), fS_u n43, fS_43]
theorem fS_c [h : IRt tt] : FldC V (fS tt ss mk V) tt := by
  have h1 : FldC V (fldV V tt 4 4 ss) tt := fld_c h.h (by decide) (by decide)
  have h2 : FldC (fldV V tt 4 4 ss) (fS tt ss mk V) tt := fld_c h.h (by decide) (by decide)
  exact ⟨fun c hc => (h2.1 c hc).trans (h1.1 c hc), fun j b hj hb q => (h2.2 j b hj hb q).trans (h1.2 j b hj hb q)⟩
theorem fS_pv [h : IRt tt] (hw : PW N V) {j : Nat} (hj : ir j) : ∀ x, x < 4234 → pv (fS tt ss mk V) j x = pv V j x := fS_c.pv h.h hw hj
theorem fS_ph [h : IRt tt] (hw : PW N V) {j x : Nat} (hj : ir j) (hx : x < 4234) : ph (fS tt ss mk V) j x = ph V j x := ph_pv (fun y hy => fS_pv hw hj y (by omega)) hx
theorem fS_pto [h : IRt tt] (hw : PW N V) {j : Nat} (hj : ir j) : PtO N (fS tt ss mk V) j := fun x hx => by
  rw [fS_pv hw hj x hx, fS_43]
  exact hw.pto hj x hx
theorem fS_f1 [h : IRt tt] {j a : Nat} (hj : ir j) (ha : a < 32) (hd : j ≠ tt ∨ a < 4 ∨ 12 ≤ a) : f1 (fS tt ss mk V) j a = f1 V j a := by
  unfold f1
  by_cases c : a = 0 ∨ 12 ≤ a
  · exact fS_c.2 j a hj ha (Or.inr c)
  · by_cases cj : j = tt
    · have e1 := fld_ub (V := fldV V tt 4 4 ss) (a := 8) (n := 4) (v := mk) (b := a) h.h.1 hj.1 (by decide) ha (by omega)
      have e2 := fld_ub (V := V) (a := 4) (n := 4) (v := ss) (b := a) h.h.1 hj.1 (by decide) ha (by omega)
      exact e1.trans e2
    · exact fS_c.2 j a hj ha (Or.inl cj)
def JG (tt : Nat) (ss mk : Int32) (N B gr : Nat) (A : MS) (D : CfT) (R : RfT) (m : M5) (V : Nat → Rw) (tk : Nat → Bool) : Prop := CX N A D m V tk ∧ RY N B gr R m (fS tt ss mk V) tk
def JHg (tt : Nat) (ss mk : Int32) (N B gr r : Nat) (A : MS) (D : CfT) (R : RfT) (m : M5) (V : Nat → Rw) (tk : Nat → Bool) : Prop := JG tt ss mk N B gr A D R m V tk ∧ PW N V ∧ Bud N B r m V
theorem y_tkg {R : RfT} {tab : Bool} [h0 : IRt tt] (hN1 : 61 ≤ N) (hN : N ≤ 1024) (h : RY N B gr R m (fS tt ss mk V) tk) (hm : MOk N B m) (hsp : hSp m.1 + 100 * m.2.2.2.1.length + 200 < 2 ^ 31) (hro : ¬ tkD N B m V → ∃ b, (tkM N B m V).2 = some b) : ∃ v R', (if tab = true then e_takeTable R else e_take R) = some (v, R') ∧ ((∃ b, ¬ tkD N B m V ∧ (tkM N B m V).2 = some b ∧ v = nI b ∧ RY N B gr R' (tkM N B m V).1 (fS tt ss mk (tkV V b tab)) (tkT tk b tab) ∧ rA R' 49 = upd (rA R 49) b 1 ∧ Fq [33, 29, 47, 22, 25, 9, 10, 12, 13, 14, 18, 20] [30, 31, 32, 36, 43, 49, 35, 37, 46, 23, 24, 38, 44, 45, 6, 7, 8, 15, 17, 39, 40] R R' ∧ ∀ c, c < 1024 → wOw R' c ≠ none → c = 43 ∨ (tab = true ∧ c = b) ∨ wOw R c ≠ none) ∨ (tkD N B m V ∧ v = -1 ∧ Dd N R (flO2 N B m).2.1 R')) := by
  have e1 : ∀ x, lowB N (fS tt ss mk V) x = lowB N V x := fun x => by
    unfold lowB
    rw [fS_43]
  have e2 : tkM N B m (fS tt ss mk V) = tkM N B m V := by
    unfold tkM
    simp only [e1]
  have e3 : tkD N B m (fS tt ss mk V) = tkD N B m V := by
    unfold tkD
    rw [e1]
  obtain ⟨v, R', h1, h2⟩ := y_tk (tab := tab) hN1 hN h hm hsp (by rw [e2, e3]; exact hro)
  rw [e2, e3] at h2
  refine ⟨v, R', h1, h2.imp (fun ⟨b, a1, a2, a3, a4, a5⟩ => ⟨b, a1, a2, a3, ?_, a5⟩) id⟩
  rw [fS_tk (tkM_s a2).1]
  exact a4
theorem y_lkg {R : RfT} {b c o : Nat} {tab : Bool} [h0 : IRt tt] (hN : N ≤ 1024) (h : RY N B gr R m (fS tt ss mk (tkV V b tab)) tk) (hb1 : 61 ≤ b) (hb2 : b < N) (hbf : btM (V 43) b = 0) (hc1 : 44 ≤ c) (hc2 : c < N) (hu : btM (V 43) c = 1) (ho : o + 2 ≤ 128) (hx : c ≠ homeM tt ∨ o + 2 ≤ startM tt + 4 ∨ startM tt + 12 ≤ o) : ∃ R', e_setNumber R (nI c) (nI o) 2 (nI b) = some R' ∧ RY N B gr R' m (fS tt ss mk (lkV V b c o tab)) tk ∧ Fn [33] [30, 31, 32, 36, 43] R R' := by
  have hcb : c ≠ b := fun e => by
    rw [e] at hu
    omega
  obtain ⟨R', e, y, f⟩ := y_set (b := c) (p := o) (n := 2) (v := nI b) hN h hc1 hc2 (by rw [fS_43, tkV_43 (by omega), bt_bs (by omega) (by omega), if_neg hcb]; exact hu) (by decide) ho
  refine ⟨R', e, ?_, f⟩
  unfold lkV
  rw [fS_w hx]
  exact y
theorem po_apart [h : IRt tt] {j x : Nat} (hw : PW N V) (hj : ir j) (hx : x < 4234) : ph V j x ≠ homeM tt ∨ po j x + 2 ≤ startM tt + 4 ∨ startM tt + 12 ≤ po j x := by
  have ht := h.h
  have h1 := ht.1
  have h2 := ht.2
  have h3 := hj.1
  have h4 := hj.2
  by_cases c : x < 10
  · rw [ph_0 c]
    by_cases e : homeM j = homeM tt
    · refine Or.inr ?_
      unfold homeM at e
      unfold po startM
      by_cases c8 : x < 8
      · rw [if_pos c8]
        omega
      · rw [if_neg c8]
        by_cases c9 : x = 8
        · rw [if_pos c9]
          omega
        · rw [if_neg c9, if_pos (by omega)]
          omega
    · exact Or.inl e
  · refine Or.inl (fun z => ?_)
    have hh := ir_home ht
    rw [ph_hx (by omega) hx] at z
    have hl := hx_lt hx
    rcases hw.2.1 j _ hj (show _ < 4234 from Nat.lt_trans hl (by decide)) with q | q
    · omega
    · omega
theorem z_tabg {R : RfT} {p : Nat} [h0 : IRt tt] (hN1 : 61 ≤ N) (hN : N ≤ 1024) (h : RY N B gr R m (fS tt ss mk V) tk) (hw : PW N V) (hi : ir i) (hp8 : ¬ p < 8) (hp4 : p < 4168) : e_tableOf R (nI i) (nI p) = some (nI (ph V i (px p))) := by
  rw [z_tab hN1 hN h (fS_pto hw hi) hi hp8 hp4, fS_ph hw hi (px_lt hp4)]
theorem z_blkg {R : RfT} {p : Nat} [h0 : IRt tt] (hN1 : 61 ≤ N) (hN : N ≤ 1024) (h : RY N B gr R m (fS tt ss mk V) tk) (hw : PW N V) (hi : ir i) (hp4 : p < 4168) : e_blockOf R (nI i) (nI p) = some (nI (pv V i (px p))) := by
  rw [z_blk hN1 hN h (fS_pto hw hi) hi.1 hi.2 hp4, fS_pv hw hi _ (px_lt hp4)]
theorem z_30g {R : RfT} [h0 : IRt tt] (hN1 : 61 ≤ N) (hw : PW N V) (h : RY N B gr R m (fS tt ss mk V) tk) (hi : ir i) : e_field R (nI i) 30 2 = some (nI (pv V i 9)) := by
  rw [z_fl30 hN1 h hi, fS_pv hw hi 9 (by decide)]
theorem tk_pw9 {b : Nat} {tab : Bool} [h0 : IRt tt] (hw : PW N V) (hN1 : 61 ≤ N) (hN : N ≤ 1024) (hb1 : 61 ≤ b) (hb2 : b < N) (hbf : btM (V 43) b = 0) (hi : ir i) : (∀ x, x < 4234 → pv (fS tt ss mk (tkV V b tab)) i x = pv V i x) ∧ PtO N (fS tt ss mk (tkV V b tab)) i := by
  have e43 : fS tt ss mk (tkV V b tab) 43 = bsW (V 43) b true := by rw [fS_43, tkV_43 (by omega)]
  have q : ∀ x, x < 4234 → pv (fS tt ss mk (tkV V b tab)) i x = pv V i x := fun x hx => by
    rw [fS_tk hb1]
    have hpv : ∀ x, x < 4234 → pv (tkV (fS tt ss mk V) b tab) i x = pv (fS tt ss mk V) i x := pv_eq (fun y hy h0' => by
      have h0'' := h0'
      rw [fS_ph hw hi hy] at h0''
      obtain ⟨c1, c2, c3⟩ := hw.at hN1 hi hy h0''
      rw [fS_ph hw hi hy, tkV_x (by omega) (fun z => by rw [z, hbf] at c3; cases c3)])
    rw [hpv x hx, fS_pv hw hi x hx]
  refine ⟨q, fun x hx => ?_⟩
  rw [q x hx, e43]
  rcases hw.pto hi x hx with z | ⟨z1, z2, z3⟩
  · exact Or.inl z
  · refine Or.inr ⟨z1, z2, ?_⟩
    rw [bt_bs (by omega) (by omega)]
    split
    · rfl
    · exact z3
theorem j_lv1g {A : MS} {D : CfT} {R : RfT} {x p k lev n r : Nat} {tb tab : Bool} {x7 : Int32} [h0t : IRt tt] (hN1 : 61 ≤ N) (hN : N ≤ 1024) (hi : ir i) (h : JHg tt ss mk N B gr (r + 1) A D R m V tk) (hx4 : x < 4234) (h0 : ph V i x ≠ 0) (hv : pv V i x = 0) (hl : lev ≤ 3) (hl1 : 1 ≤ lev) (hk : k < lev) (hp : p < 4168) (hta : tab = (tb || decide (k < lev - 1))) (ht : tbx x → tab = true) (htb : ¬ tbx x → tab = tb) : (∃ b A' D' R1 R' m' tk', d_X7_have_30 N B gr (n + 1) A D (nI p) (bI tb) (nI (ph V i x)) (nI (po i x)) (nI lev) x7 (nI k) = d_X7_have_30 N B gr n A' D' (nI p) (bI tb) (nI b) (nI (offM p (k + 1))) (nI lev) 1 (nI (k + 1)) ∧ (if tab = true then e_takeTable R else e_take R) = some (nI b, R1) ∧ ¬ rS R1 11 = 0 ∧ e_setNumber R1 (nI (ph V i x)) (nI (po i x)) 2 (nI b) = some R' ∧ JHg tt ss mk N B gr r A' D' R' m' (lkV V b (ph V i x) (po i x) tab) tk' ∧ Gr N i tb (fun y => y = x) V (lkV V b (ph V i x) (po i x) tab) ∧ pv (lkV V b (ph V i x) (po i x) tab) i x = b ∧ 61 ≤ b ∧ b < N ∧ gA A' = gA A ∧ Dt D D' ∧ Fq hS hT R R' ∧ F49 V (lkV V b (ph V i x) (po i x) tab) R R' ∧ RY N B gr R1 m' (fS tt ss mk (tkV V b tab)) tk' ∧ btM (V 43) b = 0 ∧ Flr N B m m' ∧ TkG i tb (lY x) V (lkV V b (ph V i x) (po i x) tab) tk tk' ∧ OwG i tb (lkV V b (ph V i x) (po i x) tab) A A' R R') ∨ (∃ A' R', d_X7_have_30 N B gr (n + 1) A D (nI p) (bI tb) (nI (ph V i x)) (nI (po i x)) (nI lev) x7 (nI k) = some (.inr (0, A', D)) ∧ (if tab = true then e_takeTable R else e_take R) = some (-1, R') ∧ Dd N R A'.1 R' ∧ FlT N B m A' D) := by
  obtain ⟨⟨hc, hr⟩, hw, hb⟩ := h
  obtain ⟨c1, c2, c3⟩ := hw.at hN1 hi hx4 h0
  have hpo := po_lt (i := i) hx4
  have hn2 : n2 (V (ph V i x)) (po i x) = 0 := by
    have q := pv_at (V := V) (i := i) hx4
    rw [if_neg h0, hv] at q
    exact q.symm
  have hro : ¬ tkD N B m V → ∃ b, (tkM N B m V).2 = some b := tk_room hw.1 hb.2.2.2.1 (by
    have := hb.2.2.2.2.1
    unfold av
    omega)
  have hsp : hSp m.1 + 100 * m.2.2.2.1.length + 200 < 2 ^ 31 := by
    have := hb.2.1
    omega
  obtain ⟨v, R1, e1, o1⟩ := y_tkg (tab := tab) hN1 hN hr hb.1 hsp hro
  rcases c_lv (n := n) (x7 := x7) (tb := tb) (gr := gr) hN1 hN hc hb.1 hsp hro (show 44 ≤ ph V i x by omega) c2 c3 hpo hn2 hl hl1 hk hp with ⟨b, A', D', a1, a2, a3, a4, a5, a6, a7⟩ | ⟨a1, A', a2, a3⟩
  · rcases o1 with ⟨b2, b21, b22, b23, b24, b25, b26, b27⟩ | ⟨q, -⟩
    · have eb : b2 = b := Option.some.inj (b22.symm.trans a2)
      subst eb
      obtain ⟨s1, s2, s3, s4⟩ := tkM_s a2
      obtain ⟨R', r1, r2, r3⟩ := y_lkg hN b24 s1 s2 s3 (show 44 ≤ ph V i x by omega) c2 c3 hpo (po_apart hw hi hx4)
      rw [← hta] at a4 a7
      have e43 : lkV V b2 (ph V i x) (po i x) tab 43 = bsW (V 43) b2 true := (vU_n (by omega)).trans (tkV_43 (by omega))
      have hgr : Gr N i tb (fun y => y = x) V (lkV V b2 (ph V i x) (po i x) tab) := Gr.lk hw hN1 hi hx4 h0 hv s1 s2 hN s3 ht htb
      have hpv : pv (lkV V b2 (ph V i x) (po i x) tab) i x = b2 := by rw [pv_set hw hN1 hi hx4 h0 hv s1 s2 hN s3 ht hi hx4, if_pos ⟨rfl, rfl⟩]
      refine Or.inl ⟨b2, A', D', R1, R', _, _, a3, by rw [e1, b23], b24.1.1.1.on, r1, ⟨⟨a4, r2⟩, hw.set hN1 hi hx4 h0 hv s1 s2 hN s3 ht, hb.take hN1 hN hw.1 a1 a2 e43⟩, Gr.lk hw hN1 hi hx4 h0 hv s1 s2 hN s3 ht htb, ?_, s1, s2, a5, a6, b26.tr (r3.1.wk (by decide) (by decide)), fun c hc => ?_, b24, s3, Flr.tak a1, lv_tg hi hx4 h0 hgr hpv (by omega) ht htb rfl, lv_og hi hx4 h0 hgr hpv (by omega) ht htb (fun P p1 p2 p3 p4 p5 => ⟨a7 P p1 p2 p3 p4, ww_set (n := 2) hN b24.1 (show 43 ≤ ph V i x by omega) c2 (by decide) hpo r1 (fun c hc hne => (b27 c hc hne).elim (fun z => by rw [z]; exact p1) (fun z => z.elim (fun z => by rw [z.2]; exact p3 z.1) (fun z => p5 c hc z))) p2⟩)⟩
      · rw [pv_set hw hN1 hi hx4 h0 hv s1 s2 hN s3 ht hi hx4, if_pos ⟨rfl, rfl⟩]
      · rw [r3.1.2.1 49 (by decide), b25, e43, bt_bs (by omega) hc]
        by_cases q : c = b2
        · rw [q, pk_us, if_pos rfl, if_pos ⟨s3, rfl⟩]
        · rw [pk_un q, if_neg q, if_neg (fun z => by omega)]
    · exact absurd q a1
  · rcases o1 with ⟨b2, b21, -⟩ | ⟨-, q2, q3⟩
    · exact absurd a1 b21
    · refine Or.inr ⟨A', R1, a2, by rw [e1, q2], ?_, ⟨⟨m, Flr.rf, a1.2, a3.1⟩, a3.2⟩⟩
      rw [a3.1]
      exact q3
theorem jh_lastg {A : MS} {D : CfT} {R : RfT} {p n n2 r lev : Nat} {tb : Bool} {x7 to : Int32} [h0t : IRt tt] (hN1 : 61 ≤ N) (hN : N ≤ 1024) (hi : ir i) (h : JHg tt ss mk N B gr (r + 1) A D R m V tk) (hp : p < 4168) (h0 : ph V i (px p) ≠ 0) (hv : pv V i (px p) = 0) (hlev : lev = levM p) (self : RfT → Int32 → Int32 → Int32 → Int32 → Option (RfT)) : (∃ A' D' R' m' V' tk', d_X7_have_30 N B gr (n + 2) A D (nI p) (bI tb) (nI (ph V i (px p))) (nI (po i (px p))) (nI lev) x7 (nI (lev - 1)) = some (.inl (1, A', D')) ∧ e_have_172 self R (nI i) to (bI tb) (nI p) = self R' (nI i) to (bI tb) (nI (p + 1)) ∧ JHg tt ss mk N B gr r A' D' R' m' V' tk' ∧ Gr N i tb (pY p) V V' ∧ pv V' i (px p) ≠ 0 ∧ gA A' = gA A ∧ Dt D D' ∧ Fq hS hT R R' ∧ F49 V V' R R' ∧ Flr N B m m' ∧ TkG i tb (pY p) V V' tk tk' ∧ OwG i tb V' A A' R R') ∨ (∃ A' R', d_X7_have_30 N B gr (n + 2) A D (nI p) (bI tb) (nI (ph V i (px p))) (nI (po i (px p))) (nI lev) x7 (nI (lev - 1)) = some (.inr (0, A', D)) ∧ e_have_172 self R (nI i) to (bI tb) (nI p) = self R' (nI i) to (bI tb) (nI (p + 1)) ∧ Dd N R A'.1 R' ∧ FlT N B m A' D) := by
  have hl : 1 ≤ lev ∧ lev ≤ 3 := by
    rw [hlev]
    unfold levM
    split
    · exact ⟨by decide, by decide⟩
    · split
      · exact ⟨by decide, by decide⟩
      · exact ⟨by decide, by decide⟩
  have hon : ¬ rS R 11 = 0 := h.1.2.1.1.1.on
  have etk : ∀ (X : RfT), (if tb = true then e_takeTable X else e_take X) = (if bI tb = 0 then e_take X else e_takeTable X) := fun X => by
    cases tb with
    | true => rfl
    | false => rfl
  have e172 : ∀ v R1, (if tb = true then e_takeTable R else e_take R) = some (v, R1) → e_have_172 self R (nI i) to (bI tb) (nI p) = e_have_201 self R1 (nI i) to (bI tb) (nI p) v := fun v R1 he => by
    rw [e_have_172, if_neg hon]
    rw [etk] at he
    by_cases c : bI tb = 0
    · rw [if_pos c]
      rw [if_pos c] at he
      rw [bnd2_o he]
    · rw [if_neg c]
      rw [if_neg c] at he
      rw [bnd2_o he]
  rcases j_lv1g (n := n + 1) (x7 := x7) (tab := tb) (lev := lev) (k := lev - 1) hN1 hN hi h (px_lt hp) h0 hv hl.2 hl.1 (by omega) hp (by rw [decide_eq_false (by omega)]; cases tb <;> rfl) (fun z => absurd z px_tb) (fun _ => rfl) with ⟨b, A', D', R1, R', m', tk', a1, a2, a3, a4, a5, a6, a7, a8, a9, a10, a11, a12, a13, a14, a15, a16, a17, a18⟩ | ⟨A', R', a1, a2, a3, a4⟩
  · refine Or.inl ⟨A', D', R', m', _, tk', ?_, ?_, a5, a6.wk (fun y z => Or.inl z), by rw [a7]; omega, a10, a11, a12, a13, a16, a17.wk (fun y z => z.elim Or.inl (fun z => Or.inr (Or.inl ⟨by
    have := z.1
    unfold px at this
    split at this
    · omega
    · omega, z.2⟩))), a18⟩
    · rw [a1, show lev - 1 + 1 = lev by omega, d_X7_have_30, if_pos (nI_le (Nat.le_refl _) (by omega))]
      rfl
    · rw [e172 _ _ a2, e_have_201, if_neg a3]
      by_cases c8 : p < 8
      · have hx : px p = p := if_pos c8
        have hpo : po i (px p) = startM i + (12 + 2 * p) := by
          rw [hx]
          unfold po
          rw [if_pos c8, Nat.add_assoc]
        rw [show ph V i (px p) = homeM i by rw [hx, ph_0 (by omega)], hpo, ← z_setFieldS hi.1 hi.2] at a4
        have e12 : (12 : Int32) + (2 : Int32) * nI p = nI (12 + 2 * p) := by
          rw [show (2 : Int32) = nI 2 from rfl, show (12 : Int32) = nI 12 from rfl, pk_mul, nI_add]
        rw [if_neg (show ¬ (8 : Int32) ≤ nI p from nI_ge (b := 8) c8 (by decide)), e12, bnd_o a4, nI_1]
      · obtain ⟨tp1, tp2⟩ := tk_pw9 (tt := tt) (ss := ss) (mk := mk) (tab := tb) h.2.1 hN1 hN a8 a9 a15 hi
        have ep := ph_pv (V := V) (W := fS tt ss mk (tkV V b tb)) (j := i) (fun y hy => tp1 y (by omega)) (px_lt hp)
        have zt := z_tab hN1 hN a14 tp2 hi c8 hp
        rw [ep] at zt
        rw [if_pos (show (8 : Int32) ≤ nI p from nI_le (a := 8) (by omega) (by omega)), e_have_233, if_neg a3, bnd_o zt]
        by_cases c72 : p < 72
        · have hx : px p = p + 2 := by
            unfold px
            rw [if_neg c8, if_pos c72]
          have hpo : po i (px p) = 2 * (p - 8) := by
            rw [hx, show p + 2 = 10 + (p - 8) by omega, po_10 (by omega)]
          have eo : (2 : Int32) * (nI p - 8) = nI (2 * (p - 8)) := by
            rw [show (8 : Int32) = nI 8 from rfl, show (2 : Int32) = nI 2 from rfl, pk_sub (by omega), pk_mul]
          rw [hpo] at a4
          rw [if_neg (show ¬ (72 : Int32) ≤ nI p from nI_ge (b := 72) c72 (by decide)), eo, bnd_o a4, nI_1]
        · have hx : px p = p + 66 := by
            unfold px
            rw [if_neg c8, if_neg c72]
          have hpo : po i (px p) = 2 * ((p - 72) % 64) := by
            rw [hx, show p + 66 = 138 + 64 * ((p - 72) / 64) + (p - 72) % 64 by omega, po_138 (by omega)]
          have eo : (2 : Int32) * (nI p - 72 - (nI p - 72) / 64 * 64) = nI (2 * ((p - 72) % 64)) := by
            rw [show (72 : Int32) = nI 72 from rfl, show (64 : Int32) = nI 64 from rfl, show (2 : Int32) = nI 2 from rfl, pk_sub (by omega), pk_div (by omega) (by decide) (by decide), pk_mul, pk_sub (by omega), n_rem, pk_mul]
          rw [hpo] at a4
          rw [if_pos (show (72 : Int32) ≤ nI p from nI_le (a := 72) (by omega) (by omega)), eo, bnd_o a4, nI_1]
  · refine Or.inr ⟨A', R', a1, ?_, a3, a4⟩
    rw [e172 _ _ a2, hv_dead201 a3.1.1, nI_1]
def HvOg (tt : Nat) (ss mk : Int32) (N B gr r : Nat) (tb : Bool) (i p : Nat) (A : MS) (D : CfT) (R : RfT) (m : M5) (V : Nat → Rw) (tk : Nat → Bool) (cl : Option (FR Int32)) (v : Int32) (rf : Option RfT) (self : RfT → Int32 → Int32 → Int32 → Int32 → Option (RfT)) (to : Int32) : Prop := (∃ A' D' R' m' V' tk', cl = some (.inl (v, A', D')) ∧ rf = self R' (nI i) to (bI tb) (nI (p + 1)) ∧ JHg tt ss mk N B gr r A' D' R' m' V' tk' ∧ Gr N i tb (pY p) V V' ∧ pv V' i (px p) ≠ 0 ∧ gA A' = gA A ∧ Dt D D' ∧ Fq hS hT R R' ∧ F49 V V' R R' ∧ Flr N B m m' ∧ TkG i tb (pY p) V V' tk tk' ∧ OwG i tb V' A A' R R') ∨ (∃ A' D' R', cl = some (.inr (0, A', D')) ∧ rf = self R' (nI i) to (bI tb) (nI (p + 1)) ∧ Dd N R A'.1 R' ∧ Dt D D' ∧ FlT N B m A' D')
theorem HvOg.pre {r p : Nat} {tb : Bool} {A A1 : MS} {D D1 : CfT} {R R1 : RfT} {m1 : M5} {V1 : Nat → Rw} {tk1 : Nat → Bool} {cl : Option (FR Int32)} {v : Int32} {rf : Option RfT} {self : RfT → Int32 → Int32 → Int32 → Int32 → Option (RfT)} {to : Int32} {Y : Nat → Prop} (hi : ir i) (hw : PW N V) (hw1 : PW N V1) (h : HvOg tt ss mk N B gr r tb i p A1 D1 R1 m1 V1 tk1 cl v rf self to) (g : Gr N i tb Y V V1) (hY : ∀ y, Y y → pY p y) (ga : gA A1 = gA A) (d : Dt D D1) (f : Fq hS hT R R1) (f49 : F49 V V1 R R1) (fl : Flr N B m m1) (tg : TkG i tb (pY p) V V1 tk tk1) (og : OwG i tb V1 A A1 R R1) : HvOg tt ss mk N B gr r tb i p A D R m V tk cl v rf self to := by
  rcases h with ⟨A', D', R', m', V', tk', a1, a2, a3, a4, a5, a6, a7, a8, a9, a10, a11, a12⟩ | ⟨A', D', R', a1, a2, a3, a4, a5⟩
  · have gw := g.wk hY
    exact Or.inl ⟨A', D', R', m', V', tk', a1, a2, a3, gw.tr hi hw hw1 a4, a5, a6.trans ga, d.tr a7, f.tr a8, f49.tr a9 (g.mono hw hw1) (a4.mono hw1 a3.2.1), fl.tr a10, tg.tr hi a11 a4, og.tr hi a12 a4⟩
  · exact Or.inr ⟨A', D', R', a1, a2, a3.fq f (by decide) (by decide), d.tr a4, FlT.pre fl a5⟩
theorem jh_lastOg {A : MS} {D : CfT} {R : RfT} {p n r lev : Nat} {tb : Bool} {x7 to : Int32} [h0t : IRt tt] (hN1 : 61 ≤ N) (hN : N ≤ 1024) (hi : ir i) (h : JHg tt ss mk N B gr (r + 1) A D R m V tk) (hp : p < 4168) (h0 : ph V i (px p) ≠ 0) (hv : pv V i (px p) = 0) (hlev : lev = levM p) (self : RfT → Int32 → Int32 → Int32 → Int32 → Option (RfT)) : HvOg tt ss mk N B gr r tb i p A D R m V tk (d_X7_have_30 N B gr (n + 2) A D (nI p) (bI tb) (nI (ph V i (px p))) (nI (po i (px p))) (nI lev) x7 (nI (lev - 1))) 1 (e_have_172 self R (nI i) to (bI tb) (nI p)) self to := by
  rcases jh_lastg (n := n) (n2 := 0) (x7 := x7) (to := to) (tb := tb) hN1 hN hi h hp h0 hv hlev self with q | ⟨A', R', a1, a2, a3, a4⟩
  · exact Or.inl q
  · exact Or.inr ⟨A', D, R', a1, a2, a3, Dt.rf, a4⟩
theorem jh_tabg {A : MS} {D : CfT} {R : RfT} {p n r lev k x : Nat} {tb : Bool} {x7 to : Int32} {cl : Option (FR Int32)} {rf : Option RfT} {self : RfT → Int32 → Int32 → Int32 → Int32 → Option (RfT)} [h0t : IRt tt] (hN1 : 61 ≤ N) (hN : N ≤ 1024) (hi : ir i) (h : JHg tt ss mk N B gr (r + 1) A D R m V tk) (hp : p < 4168) (hx4 : x < 4234) (h0 : ph V i x ≠ 0) (hv : pv V i x = 0) (htx : tbx x) (hl : lev ≤ 3) (hl1 : 1 ≤ lev) (hk : k < lev - 1) (hY : pY p x) (hY2 : 10 ≤ x → pY p (hx x)) (e0 : cl = d_X7_have_30 N B gr (n + 1) A D (nI p) (bI tb) (nI (ph V i x)) (nI (po i x)) (nI lev) x7 (nI k)) (r' : Nat) (next : ∀ (b : Nat) (A' : MS) (D' : CfT) (R1 R' : RfT) (m' : M5) (V' : Nat → Rw) (tk' : Nat → Bool), e_takeTable R = some (nI b, R1) → ¬ rS R1 11 = 0 → e_setNumber R1 (nI (ph V i x)) (nI (po i x)) 2 (nI b) = some R' → JHg tt ss mk N B gr r A' D' R' m' V' tk' → (∀ j y, ir j → y < 4234 → pv V' j y = if j = i ∧ y = x then b else pv V j y) → 61 ≤ b → b < N → RY N B gr R1 m' (fS tt ss mk (tkV V b true)) tk' → btM (V 43) b = 0 → HvOg tt ss mk N B gr r' tb i p A' D' R' m' V' tk' (d_X7_have_30 N B gr n A' D' (nI p) (bI tb) (nI b) (nI (offM p (k + 1))) (nI lev) 1 (nI (k + 1))) 1 rf self to) (dead : ∀ R', e_takeTable R = some (-1, R') → rS R' 11 = 0 → rf = self R' (nI i) to (bI tb) (nI (p + 1))) : HvOg tt ss mk N B gr r' tb i p A D R m V tk cl 1 rf self to := by
  rcases j_lv1g (n := n) (x7 := x7) (tb := tb) (tab := true) (lev := lev) (k := k) hN1 hN hi h hx4 h0 hv hl hl1 (by omega) hp (by rw [decide_eq_true hk]; cases tb <;> rfl) (fun _ => rfl) (fun z => absurd htx z) with ⟨b, A', D', R1, R', m', tk', a1, a2, a3, a4, a5, a6, a7, a8, a9, a10, a11, a12, a13, a14, a15, a16, a17, a18⟩ | ⟨A', R', a1, a2, a3, a4⟩
  · rw [e0, a1]
    have a2 : e_takeTable R = some (nI b, R1) := a2
    have q := next b A' D' R1 R' m' _ tk' a2 a3 a4 a5 (fun j y hj hy => pv_set h.2.1 hN1 hi hx4 h0 hv a8 a9 hN a15 (fun _ => rfl) hj hy) a8 a9 a14 a15
    exact q.pre hi h.2.1 a5.2.1 a6 (fun y z => by rw [z]; exact hY) a10 a11 a12 a13 a16 (a17.wk (fun y z => z.elim (fun z => by rw [z]; exact hY) (fun z => by rw [z.2]; exact hY2 z.1))) a18
  · rw [e0]
    have a2 : e_takeTable R = some (-1, R') := a2
    exact Or.inr ⟨A', D, R', a1, dead R' a2 a3.1.1, a3, Dt.rf, a4⟩
theorem jh_midg {A : MS} {D : CfT} {R : RfT} {p n r : Nat} {tb : Bool} {x7 to : Int32} [h0t : IRt tt] (hN1 : 61 ≤ N) (hN : N ≤ 1024) (hi : ir i) (hp : p < 4168) (h72 : ¬ p < 72) (h9 : pv V i 9 ≠ 0) (hv : pv V i (px p) = 0) (h : JHg tt ss mk N B gr (r + (if pv V i (74 + (p - 72) / 64) = 0 then 2 else 1)) A D R m V tk) (self : RfT → Int32 → Int32 → Int32 → Int32 → Option (RfT)) : HvOg tt ss mk N B gr r tb i p A D R m V tk (d_X7_have_30 N B gr (n + 3) A D (nI p) (bI tb) (nI (pv V i 9)) (nI (2 * ((p - 72) / 64))) (nI 3) x7 (nI 1)) 1 (e_have_83 self R (nI i) to (bI tb) (nI p)) self to := by
  have hxp : px p = p + 66 := by
    unfold px
    rw [if_neg (by omega), if_neg h72]
  have hj : (p - 72) / 64 < 64 := by omega
  have ehx : hx (px p) = 74 + (p - 72) / 64 := by
    rw [hxp, show p + 66 = 138 + 64 * ((p - 72) / 64) + (p - 72) % 64 by omega, hx_138 (by omega)]
  have ephp : ∀ W : Nat → Rw, ph W i (px p) = pv W i (74 + (p - 72) / 64) := fun W => by
    rw [ph_hx (by rw [hxp]; omega) (px_lt hp), ehx]
  have eph2 : ∀ W : Nat → Rw, ph W i (74 + (p - 72) / 64) = pv W i 9 := fun W => ph_2 (by omega) (by omega)
  have epo : po i (px p) = 2 * ((p - 72) % 64) := by
    rw [hxp, show p + 66 = 138 + 64 * ((p - 72) / 64) + (p - 72) % 64 by omega, po_138 (by omega)]
  have eo1 : offM p 1 = 2 * ((p - 72) / 64) := (off_b h72).2.1
  have eo2 : offM p 2 = po i (px p) := by
    rw [epo]
    exact (off_b h72).2.2
  have hon : ¬ rS R 11 = 0 := h.1.2.1.1.1.on
  have hlev : (3 : Nat) = levM p := (lev_3 h72).symm
  have zt := z_tabg hN1 hN h.1.2 h.2.1 hi (show ¬ p < 8 by omega) hp
  rw [ephp] at zt
  have e83 : e_have_83 self R (nI i) to (bI tb) (nI p) = (if nI (pv V i (74 + (p - 72) / 64)) = 0 then bnd2 (e_takeTable R) (fun v122 R122 => if (rS R122 11) = 0 then e_have_140 self R122 (nI i) to (bI tb) (nI p) v122 else if ((72 : Int32)) ≤ nI p then e_have_140 self R122 (nI i) to (bI tb) (nI p) v122 else bnd (e_setField R122 (nI i) ((28 : Int32)) ((2 : Int32)) v122) (fun R123 => e_have_172 self R123 (nI i) to (bI tb) (nI p))) else e_have_172 self R (nI i) to (bI tb) (nI p)) := by
    rw [e_have_83, if_neg hon, if_neg (show ¬ nI p < (8 : Int32) from fun z => absurd (nI_le (a := 8) (b := p) (by omega) (by omega)) (Int32.not_le.mpr z)), bnd_o zt]
  by_cases ct : pv V i (74 + (p - 72) / 64) = 0
  · rw [if_pos ct] at h
    rw [if_pos (by rw [ct]; rfl)] at e83
    refine jh_tabg (n := n + 2) (x := 74 + (p - 72) / 64) (k := 1) (lev := 3) (x7 := x7) (r := r + 1) hN1 hN hi h hp (by omega) (by rw [eph2]; exact h9) ct (Or.inr (Or.inr ⟨by omega, by omega⟩)) (by decide) (by decide) (by decide) (Or.inr (Or.inl ⟨by omega, ehx.symm⟩)) (fun _ => by rw [hx_74 hj]; exact Or.inr (Or.inr ⟨by omega, rfl⟩)) (by rw [eph2, po_74 hj]) r (fun b A' D' R1 R' m' V' tk' b1 b2 b3 b4 b5 b6 b7 b8 b9 => ?_) (fun R' b1 b2 => ?_)
    · rw [e83, bnd2_o b1, if_neg b2, if_pos (show (72 : Int32) ≤ nI p from nI_le (a := 72) (by omega) (by omega)), e_have_140, if_neg b2]
      have p9 : pv V' i 9 = pv V i 9 := by rw [b5 i 9 hi (by decide), if_neg (by omega)]
      obtain ⟨tp1, tp2⟩ := tk_pw9 (tt := tt) (ss := ss) (mk := mk) (tab := true) h.2.1 hN1 hN b6 b7 b9 hi
      have fl : e_field R1 (nI i) 30 2 = some (nI (pv V i 9)) := by rw [z_fl30 hN1 b8 hi, tp1 9 (by decide)]
      have eo : (2 : Int32) * ((nI p - 72) / 64) = nI (2 * ((p - 72) / 64)) := by
        rw [show (72 : Int32) = nI 72 from rfl, show (64 : Int32) = nI 64 from rfl, show (2 : Int32) = nI 2 from rfl, pk_sub (by omega), pk_div (by omega) (by decide) (by decide), pk_mul]
      rw [eph2, po_74 hj] at b3
      rw [bnd_o fl, eo, bnd_o b3]
      have pt : pv V' i (74 + (p - 72) / 64) = b := by rw [b5 i _ hi (by omega), if_pos ⟨rfl, rfl⟩]
      have pd : pv V' i (px p) = 0 := by rw [b5 i _ hi (px_lt hp), if_neg (by rw [hxp]; omega), hv]
      have q := jh_lastOg (n := n) (x7 := 1) (to := to) (tb := tb) (lev := 3) hN1 hN hi b4 hp (by rw [ephp, pt]; omega) pd hlev self
      rw [ephp, pt, ← eo2] at q
      exact q
    · rw [e83, bnd2_o b1, if_pos b2, hv_dead140 b2, nI_1]
  · rw [if_neg ct] at h
    have htN := ((h.2.1.2.1 i (74 + (p - 72) / 64) hi (by omega)).resolve_left ct)
    rw [if_neg (nI_ne0 (by omega) (by omega))] at e83
    have h9r := (h.2.1.pto hi 9 (by decide)).resolve_left h9
    have en : n2 (V (pv V i 9)) (2 * ((p - 72) / 64)) = pv V i (74 + (p - 72) / 64) := by
      have q := pv_at (V := V) (i := i) (x := 74 + (p - 72) / 64) (by omega)
      rw [eph2, if_neg h9, po_74 hj] at q
      exact q.symm
    have cp := c_pass (B := B) (gr := gr) (p := p) (k := 1) (lev := 3) (n := n + 2) (tb := tb) (x7 := x7) hN h.1.1 (show 43 ≤ pv V i 9 by omega) h9r.2.1 h9r.2.2 (show 2 * ((p - 72) / 64) + 2 ≤ 128 by omega) (by rw [en]; exact ct) (by decide) (by decide) hp
    rw [cp, en, e83]
    have q := jh_lastOg (n := n) (x7 := x7) (to := to) (tb := tb) (lev := 3) hN1 hN hi h hp (by rw [ephp]; exact ct) hv hlev self
    rw [ephp, ← eo2] at q
    exact q
theorem jh_83g {A : MS} {D : CfT} {R : RfT} {p n r : Nat} {tb : Bool} {x7 to : Int32} [h0t : IRt tt] (hN1 : 61 ≤ N) (hN : N ≤ 1024) (hi : ir i) (hp : p < 4168) (h8 : ¬ p < 8) (h72 : p < 72) (hv : pv V i (px p) = 0) (h : JHg tt ss mk N B gr (r + (if pv V i 8 = 0 then 2 else 1)) A D R m V tk) (self : RfT → Int32 → Int32 → Int32 → Int32 → Option (RfT)) : HvOg tt ss mk N B gr r tb i p A D R m V tk (d_X7_have_30 N B gr (n + 3) A D (nI p) (bI tb) (nI (homeM i)) (nI (startM i + 28)) (nI 2) x7 (nI 0)) 1 (e_have_83 self R (nI i) to (bI tb) (nI p)) self to := by
  have hxp : px p = p + 2 := by
    unfold px
    rw [if_neg h8, if_pos h72]
  have ephp : ∀ W : Nat → Rw, ph W i (px p) = pv W i 8 := fun W => by
    rw [hxp]
    exact ph_1 (by omega) (by omega)
  have epo : po i (px p) = 2 * (p - 8) := by
    rw [hxp, show p + 2 = 10 + (p - 8) by omega, po_10 (by omega)]
  have eo1 : offM p 1 = po i (px p) := by
    rw [epo]
    exact (off_a h8 h72).2
  have hon : ¬ rS R 11 = 0 := h.1.2.1.1.1.on
  have hlev : (2 : Nat) = levM p := (lev_2 h8 h72).symm
  have zt := z_tabg hN1 hN h.1.2 h.2.1 hi h8 hp
  rw [ephp] at zt
  have e83 : e_have_83 self R (nI i) to (bI tb) (nI p) = (if nI (pv V i 8) = 0 then bnd2 (e_takeTable R) (fun v122 R122 => if (rS R122 11) = 0 then e_have_140 self R122 (nI i) to (bI tb) (nI p) v122 else if ((72 : Int32)) ≤ nI p then e_have_140 self R122 (nI i) to (bI tb) (nI p) v122 else bnd (e_setField R122 (nI i) ((28 : Int32)) ((2 : Int32)) v122) (fun R123 => e_have_172 self R123 (nI i) to (bI tb) (nI p))) else e_have_172 self R (nI i) to (bI tb) (nI p)) := by
    rw [e_have_83, if_neg hon, if_neg (show ¬ nI p < (8 : Int32) from fun z => absurd (nI_le (a := 8) (b := p) (by omega) (by omega)) (Int32.not_le.mpr z)), bnd_o zt]
  have hh := ir_home hi
  have hs := startM_le i
  by_cases ct : pv V i 8 = 0
  · rw [if_pos ct] at h
    rw [if_pos (by rw [ct]; rfl)] at e83
    refine jh_tabg (n := n + 2) (x := 8) (k := 0) (lev := 2) (x7 := x7) (r := r + 1) hN1 hN hi h hp (by decide) (homeM_ne i) ct (Or.inl rfl) (by decide) (by decide) (by decide) (Or.inr (Or.inl ⟨by omega, by rw [hxp]; exact (if_pos (by omega)).symm⟩)) (fun z => by omega) rfl r (fun b A' D' R1 R' m' V' tk' b1 b2 b3 b4 b5 b6 b7 b8 b9 => ?_) (fun R' b1 b2 => ?_)
    · rw [show ph V i 8 = homeM i from rfl, show po i 8 = startM i + 28 from rfl, ← z_setFieldS hi.1 hi.2] at b3
      have b3 : e_setField R1 (nI i) 28 2 (nI b) = some R' := b3
      rw [e83, bnd2_o b1, if_neg b2, if_neg (show ¬ (72 : Int32) ≤ nI p from nI_ge (b := 72) h72 (by decide)), bnd_o b3]
      have pt : pv V' i 8 = b := by rw [b5 i 8 hi (by decide), if_pos ⟨rfl, rfl⟩]
      have pd : pv V' i (px p) = 0 := by rw [b5 i _ hi (px_lt hp), if_neg (by rw [hxp]; omega), hv]
      have q := jh_lastOg (n := n) (x7 := 1) (to := to) (tb := tb) (lev := 2) hN1 hN hi b4 hp (by rw [ephp, pt]; omega) pd hlev self
      rw [ephp, pt, ← eo1] at q
      exact q
    · rw [e83, bnd2_o b1, if_pos b2, hv_dead140 b2, nI_1]
  · rw [if_neg ct] at h
    have htN := ((h.2.1.2.1 i 8 hi (by decide)).resolve_left ct)
    rw [if_neg (nI_ne0 (by omega) (by omega))] at e83
    have en : n2 (V (homeM i)) (startM i + 28) = pv V i 8 := rfl
    have cp := c_pass (B := B) (gr := gr) (p := p) (k := 0) (lev := 2) (n := n + 2) (tb := tb) (x7 := x7) hN h.1.1 (show 43 ≤ homeM i by omega) (by omega) (h.2.1.1.1 _ hh.2) (show startM i + 28 + 2 ≤ 128 by omega) (by rw [en]; exact ct) (by decide) (by decide) hp
    rw [cp, en, e83]
    have q := jh_lastOg (n := n) (x7 := x7) (to := to) (tb := tb) (lev := 2) hN1 hN hi h hp (by rw [ephp]; exact ct) hv hlev self
    rw [ephp, ← eo1] at q
    exact q
theorem j_have1g {A : MS} {D : CfT} {R : RfT} {p n r to : Nat} {tb : Bool} [h0t : IRt tt] (hN1 : 61 ≤ N) (hN : N ≤ 1024) (hi : ir i) (h : JHg tt ss mk N B gr (r + msM V i p) A D R m V tk) (hp : p < 4168) (hto : p ≤ to) (hto2 : to < 4168) : HvOg tt ss mk N B gr r tb i p A D R m V tk (d_X7_have N B gr A D (nI i) (nI p) (bI tb)) (bI (decide (pv V i (px p) = 0))) (e_have_19 (n + 1) R (nI i) (nI to) (bI tb) (nI p)) (e_have_19 n) (nI to) := by
  have hon : ¬ rS R 11 = 0 := h.1.2.1.1.1.on
  have hh := ir_home hi
  have zb := z_blkg hN1 hN h.1.2 h.2.1 hi hp
  rw [e_have_19, if_neg (show ¬ nI to < nI p from fun z => absurd (nI_le hto (by omega)) (Int32.not_le.mpr z)), if_neg hon, bnd_o zb]
  by_cases c0 : pv V i (px p) = 0
  rotate_left
  · have hlt := ((h.2.1.2.1 i (px p) hi (px_lt hp)).resolve_left c0)
    rw [if_neg (nI_ne0 (by omega) (by omega)), nI_1, c_have_no hN1 hN hi h.1.1 h.2.1 hp c0, decide_eq_false c0]
    have h : JHg tt ss mk N B gr r A D R m V tk := by
      unfold msM at h
      rw [if_pos c0] at h
      exact h
    exact Or.inl ⟨A, D, R, m, V, tk, rfl, rfl, h, Gr.rf, c0, rfl, Dt.rf, Fq.rf, F49.rf rfl, Flr.rf, TkG.rf, OwG.rf⟩
  · unfold msM at h
    rw [if_neg (fun z => z c0)] at h
    rw [if_pos (by rw [c0]; rfl), c_have0 hi hp, decide_eq_true c0, show bI true = 1 from rfl, show fuL = 3999996 + 4 from rfl]
    by_cases c8 : p < 8
    · rw [if_pos c8] at h
      rw [if_pos (show nI p < (72 : Int32) from nI_lt (b := 72) (by omega) (by decide)), e_have_83, if_neg hon, if_pos (show nI p < (8 : Int32) from nI_lt (b := 8) c8 (by decide))]
      have hxp : px p = p := if_pos c8
      have q := jh_lastOg (n := 3999998) (x7 := 0) (to := nI to) (tb := tb) (lev := 1) hN1 hN hi h hp (by rw [hxp, ph_0 (by omega)]; exact homeM_ne i) c0 (lev_1 c8).symm (e_have_19 n)
      rw [hxp, ph_0 (by omega), show po i p = startM i + offM p 0 by unfold po offM; rw [if_pos c8, if_pos c8, Nat.add_assoc]] at q
      rw [lev_1 c8]
      exact q
    · rw [if_neg c8] at h
      by_cases c72 : p < 72
      · rw [if_pos c72] at h
        rw [if_pos (show nI p < (72 : Int32) from nI_lt (b := 72) c72 (by decide)), lev_2 c8 c72, (off_a c8 c72).1]
        exact jh_83g (n := 3999997) (x7 := 0) hN1 hN hi hp c8 c72 c0 h (e_have_19 n)
      · rw [if_neg c72] at h
        have fl : e_field R (nI i) 30 2 = some (nI (pv V i 9)) := z_30g hN1 h.2.1 h.1.2 hi
        rw [if_neg (show ¬ nI p < (72 : Int32) from fun z => absurd (nI_le (a := 72) (b := p) (by omega) (by omega)) (Int32.not_le.mpr z)), bnd_o fl, lev_3 c72, (off_b c72).1]
        by_cases c9 : pv V i 9 = 0
        · rw [if_pos c9] at h
          rw [if_pos (by rw [c9]; rfl)]
          have hz : pv V i (74 + (p - 72) / 64) = 0 := by
            rw [pv_2 (by omega) (by omega), c9]
            exact if_pos rfl
          refine jh_tabg (n := 3999999) (x := 9) (k := 0) (lev := 3) (x7 := 0) (r := r + 2) hN1 hN hi h hp (by decide) (homeM_ne i) c9 (Or.inr (Or.inl rfl)) (by decide) (by decide) (by decide) (Or.inr (Or.inr ⟨by omega, rfl⟩)) (fun z => by omega) rfl r (fun b A' D' R1 R' m' V' tk' b1 b2 b3 b4 b5 b6 b7 b8 b9 => ?_) (fun R' b1 b2 => ?_)
          · rw [show ph V i 9 = homeM i from rfl, show po i 9 = startM i + 30 from rfl, ← z_setFieldS hi.1 hi.2] at b3
            have b3 : e_setField R1 (nI i) 30 2 (nI b) = some R' := b3
            rw [bnd2_o b1, if_neg b2, bnd_o b3]
            have hxp : px p = p + 66 := by
              unfold px
              rw [if_neg c8, if_neg c72]
            have pt : pv V' i 9 = b := by rw [b5 i 9 hi (by decide), if_pos ⟨rfl, rfl⟩]
            have pd : pv V' i (px p) = 0 := by rw [b5 i _ hi (px_lt hp), if_neg (by rw [hxp]; omega), c0]
            have pz : pv V' i (74 + (p - 72) / 64) = 0 := by rw [b5 i _ hi (by omega), if_neg (by omega), hz]
            have q := jh_midg (n := 3999996) (x7 := 1) (to := nI to) (tb := tb) (r := r) hN1 hN hi hp c72 (by rw [pt]; omega) pd (by rw [if_pos pz]; exact b4) (e_have_19 n)
            rw [pt, ← (off_b c72).2.1] at q
            exact q
          · rw [bnd2_o b1, if_pos b2, hv_dead83 b2, nI_1]
        · rw [if_neg c9] at h
          have h9r := (h.2.1.2.1 i 9 hi (by decide)).resolve_left c9
          rw [if_neg (nI_ne0 (by omega) (by omega))]
          have hs := startM_le i
          have en : n2 (V (homeM i)) (startM i + 30) = pv V i 9 := rfl
          have cp := c_pass (B := B) (gr := gr) (p := p) (k := 0) (lev := 3) (n := 3999999) (tb := tb) (x7 := 0) hN h.1.1 (show 43 ≤ homeM i by omega) (by omega) (h.2.1.1.1 _ hh.2) (show startM i + 30 + 2 ≤ 128 by omega) (by rw [en]; exact c9) (by decide) (by decide) hp
          rw [en, (off_b c72).2.1] at cp
          have q := jh_midg (n := 3999996) (x7 := 0) (to := nI to) (tb := tb) (r := r) hN1 hN hi hp c72 c9 c0 h (e_have_19 n)
          rw [← cp] at q
          exact q
end PZD
