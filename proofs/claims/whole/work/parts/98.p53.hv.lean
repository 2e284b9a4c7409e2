/-! ===== pure: both make a block for a place ===== -/
section PWD
variable {N B gr : Nat} {V : Nat → Rw} {m : M5} {tk : Nat → Bool} {i : Nat}
abbrev hS : List Nat := [33, 29, 47, 22, 25, 9, 10, 12, 13, 14, 18, 20]
abbrev hT : List Nat := [30, 31, 32, 36, 43, 49, 35, 37, 46, 23, 24, 38, 44, 45, 6, 7, 8, 15, 17, 39, 40]
/-- what is newly used is told as fresh -/
def F49 (V V' : Nat → Rw) (R R' : RfT) : Prop := ∀ c, c < 1024 → rA R' 49 c = if btM (V 43) c = 0 ∧ btM (V' 43) c = 1 then 1 else rA R 49 c
theorem F49.rf {R R' : RfT} (h : rA R' 49 = rA R 49) : F49 V V R R' := fun c hc => by
  rw [h, if_neg (fun z => by omega)]
theorem F49.tr {V1 V2 : Nat → Rw} {R R1 R2 : RfT} (a : F49 V V1 R R1) (b : F49 V1 V2 R1 R2) (h1 : ∀ c, c < 1024 → btM (V 43) c = 1 → btM (V1 43) c = 1) (h2 : ∀ c, c < 1024 → btM (V1 43) c = 1 → btM (V2 43) c = 1) : F49 V V2 R R2 := fun c hc => by
  rw [b c hc, a c hc]
  rcases bt01 (V 43) c with z | z
  · rcases bt01 (V1 43) c with y | y
    · by_cases q : btM (V2 43) c = 1
      · rw [if_pos ⟨y, q⟩, if_pos ⟨z, q⟩]
      · rw [if_neg (fun w => q w.2), if_neg (fun w => by omega), if_neg (fun w => q w.2)]
    · rw [if_neg (fun w => by omega), if_pos ⟨z, y⟩, if_pos ⟨z, h2 c hc y⟩]
  · have y := h1 c hc z
    rw [if_neg (fun w => by omega), if_neg (fun w => by omega), if_neg (fun w => by omega)]
/-- the joint state that goes through -/
def JH (N B gr r : Nat) (A : MS) (D : CfT) (R : RfT) (m : M5) (V : Nat → Rw) (tk : Nat → Bool) : Prop := JX N B gr A D R m V tk ∧ PW N V ∧ Bud N B r m V
theorem j_lv1 {A : MS} {D : CfT} {R : RfT} {x p k lev n r : Nat} {tb tab : Bool} {x7 : Int32} (hN1 : 61 ≤ N) (hN : N ≤ 1024) (hi : ir i) (h : JH N B gr (r + 1) A D R m V tk) (hx4 : x < 4234) (h0 : ph V i x ≠ 0) (hv : pv V i x = 0) (hl : lev ≤ 3) (hl1 : 1 ≤ lev) (hk : k < lev) (hp : p < 4168) (hta : tab = (tb || decide (k < lev - 1))) (ht : tbx x → tab = true) (htb : ¬ tbx x → tab = tb) : (∃ b A' D' R1 R' m' tk', d_X7_have_30 N B gr (n + 1) A D (nI p) (bI tb) (nI (ph V i x)) (nI (po i x)) (nI lev) x7 (nI k) = d_X7_have_30 N B gr n A' D' (nI p) (bI tb) (nI b) (nI (offM p (k + 1))) (nI lev) 1 (nI (k + 1)) ∧ (if tab = true then e_takeTable R else e_take R) = some (nI b, R1) ∧ ¬ rS R1 11 = 0 ∧ e_setNumber R1 (nI (ph V i x)) (nI (po i x)) 2 (nI b) = some R' ∧ JH N B gr r A' D' R' m' (lkV V b (ph V i x) (po i x) tab) tk' ∧ Gr N i tb (fun y => y = x) V (lkV V b (ph V i x) (po i x) tab) ∧ pv (lkV V b (ph V i x) (po i x) tab) i x = b ∧ 61 ≤ b ∧ b < N ∧ gA A' = gA A ∧ Dt D D' ∧ Fq hS hT R R' ∧ F49 V (lkV V b (ph V i x) (po i x) tab) R R' ∧ RY N B gr R1 m' (tkV V b tab) tk' ∧ btM (V 43) b = 0 ∧ Flr N B m m' ∧ TkG i tb (lY x) V (lkV V b (ph V i x) (po i x) tab) tk tk' ∧ OwG i tb (lkV V b (ph V i x) (po i x) tab) A A' R R') ∨ (∃ A' R', d_X7_have_30 N B gr (n + 1) A D (nI p) (bI tb) (nI (ph V i x)) (nI (po i x)) (nI lev) x7 (nI k) = some (.inr (0, A', D)) ∧ (if tab = true then e_takeTable R else e_take R) = some (-1, R') ∧ Dd N R A'.1 R' ∧ FlT N B m A' D) := by
  obtain ⟨⟨hc, hr⟩, hw, hb⟩ := h
  obtain ⟨c1, c2, c3⟩ := hw.at hN1 hi hx4 h0
  have hpo := po_lt (i := i) hx4
  have hn2 : n2 (V (ph V i x)) (po i x) = 0 := by
    have q := pv_at (V := V) (i := i) hx4
    rw [if_neg h0, hv] at q
    exact q.symm
  have hro : ¬ tkD N B m V → ∃ b, (tkM N B m V).2 = some b := tk_room hw.1 hb.2.2.2.1 (by
    have := hb.2.2.2.2.1
    unfold av
    omega)
  have hsp : hSp m.1 + 100 * m.2.2.2.1.length + 200 < 2 ^ 31 := by
    have := hb.2.1
    omega
  obtain ⟨v, R1, e1, o1⟩ := y_tk (tab := tab) hN1 hN hr hb.1 hsp hro
  rcases c_lv (n := n) (x7 := x7) (tb := tb) (gr := gr) hN1 hN hc hb.1 hsp hro (show 44 ≤ ph V i x by omega) c2 c3 hpo hn2 hl hl1 hk hp with ⟨b, A', D', a1, a2, a3, a4, a5, a6, a7⟩ | ⟨a1, A', a2, a3⟩
  · rcases o1 with ⟨b2, b21, b22, b23, b24, b25, b26, b27⟩ | ⟨q, -⟩
    · have eb : b2 = b := Option.some.inj (b22.symm.trans a2)
      subst eb
      obtain ⟨s1, s2, s3, s4⟩ := tkM_s a2
      obtain ⟨R', r1, r2, r3⟩ := y_lk hN b24 s1 s2 s3 (show 44 ≤ ph V i x by omega) c2 c3 hpo
      rw [← hta] at a4 a7
      have e43 : lkV V b2 (ph V i x) (po i x) tab 43 = bsW (V 43) b2 true := (vU_n (by omega)).trans (tkV_43 (by omega))
      have hgr : Gr N i tb (fun y => y = x) V (lkV V b2 (ph V i x) (po i x) tab) := Gr.lk hw hN1 hi hx4 h0 hv s1 s2 hN s3 ht htb
      have hpv : pv (lkV V b2 (ph V i x) (po i x) tab) i x = b2 := by rw [pv_set hw hN1 hi hx4 h0 hv s1 s2 hN s3 ht hi hx4, if_pos ⟨rfl, rfl⟩]
      refine Or.inl ⟨b2, A', D', R1, R', _, _, a3, by rw [e1, b23], b24.1.1.1.on, r1, ⟨⟨a4, r2⟩, hw.set hN1 hi hx4 h0 hv s1 s2 hN s3 ht, hb.take hN1 hN hw.1 a1 a2 e43⟩, Gr.lk hw hN1 hi hx4 h0 hv s1 s2 hN s3 ht htb, ?_, s1, s2, a5, a6, b26.tr (r3.1.wk (by decide) (by decide)), fun c hc => ?_, b24, s3, Flr.tak a1, lv_tg hi hx4 h0 hgr hpv (by omega) ht htb rfl, lv_og hi hx4 h0 hgr hpv (by omega) ht htb (fun P p1 p2 p3 p4 p5 => ⟨a7 P p1 p2 p3 p4, ww_set (n := 2) hN b24.1 (show 43 ≤ ph V i x by omega) c2 (by decide) hpo r1 (fun c hc hne => (b27 c hc hne).elim (fun z => by rw [z]; exact p1) (fun z => z.elim (fun z => by rw [z.2]; exact p3 z.1) (fun z => p5 c hc z))) p2⟩)⟩
      · rw [pv_set hw hN1 hi hx4 h0 hv s1 s2 hN s3 ht hi hx4, if_pos ⟨rfl, rfl⟩]
      · rw [r3.1.2.1 49 (by decide), b25, e43, bt_bs (by omega) hc]
        by_cases q : c = b2
        · rw [q, pk_us, if_pos rfl, if_pos ⟨s3, rfl⟩]
        · rw [pk_un q, if_neg q, if_neg (fun z => by omega)]
    · exact absurd q a1
  · rcases o1 with ⟨b2, b21, -⟩ | ⟨-, q2, q3⟩
    · exact absurd a1 b21
    · refine Or.inr ⟨A', R1, a2, by rw [e1, q2], ?_, ⟨⟨m, Flr.rf, a1.2, a3.1⟩, a3.2⟩⟩
      rw [a3.1]
      exact q3
theorem hv_dead19 {Rd : RfT} {n : Nat} {x1 x3 x4 x5 : Int32} (h : rS Rd 11 = 0) : e_have_19 (n + 1) Rd x1 x3 x4 x5 = some Rd := by
  rw [e_have_19, if_pos h]
  by_cases c : x3 < x5
  · rw [if_pos c]
  · rw [if_neg c]
theorem hv_dead172 {self : RfT → Int32 → Int32 → Int32 → Int32 → Option (RfT)} {Rd : RfT} {x1 x3 x4 x5 : Int32} (h : rS Rd 11 = 0) : e_have_172 self Rd x1 x3 x4 x5 = self Rd x1 x3 x4 (x5 + 1) := by
  rw [e_have_172, if_pos h, e_have_201, if_pos h, e_have_233, if_pos h]
theorem hv_dead83 {self : RfT → Int32 → Int32 → Int32 → Int32 → Option (RfT)} {Rd : RfT} {x1 x3 x4 x5 : Int32} (h : rS Rd 11 = 0) : e_have_83 self Rd x1 x3 x4 x5 = self Rd x1 x3 x4 (x5 + 1) := by
  rw [e_have_83, if_pos h, hv_dead172 h]
theorem hv_dead140 {self : RfT → Int32 → Int32 → Int32 → Int32 → Option (RfT)} {Rd : RfT} {x1 x3 x4 x5 x6 : Int32} (h : rS Rd 11 = 0) : e_have_140 self Rd x1 x3 x4 x5 x6 = self Rd x1 x3 x4 (x5 + 1) := by
  rw [e_have_140, if_pos h, hv_dead172 h]
theorem hv_dead201 {self : RfT → Int32 → Int32 → Int32 → Int32 → Option (RfT)} {Rd : RfT} {x1 x3 x4 x5 x6 : Int32} (h : rS Rd 11 = 0) : e_have_201 self Rd x1 x3 x4 x5 x6 = self Rd x1 x3 x4 (x5 + 1) := by
  rw [e_have_201, if_pos h, e_have_233, if_pos h]
/-- the class passes a level that is there -/
theorem c_pass {A : MS} {D : CfT} {p k c o lev n : Nat} {tb : Bool} {x7 : Int32} (hN : N ≤ 1024) (h : CX N A D m V tk) (hc1 : 43 ≤ c) (hc2 : c < N) (hu : btM (V 43) c = 1) (ho : o + 2 ≤ 128) (h0 : n2 (V c) o ≠ 0) (hl : lev ≤ 3) (hk : k < lev) (hp : p < 4168) : d_X7_have_30 N B gr (n + 1) A D (nI p) (bI tb) (nI c) (nI o) (nI lev) x7 (nI k) = d_X7_have_30 N B gr n A D (nI p) (bI tb) (nI (n2 (V c) o)) (nI (offM p (k + 1))) (nI lev) x7 (nI (k + 1)) := by
  have hlt := n2_lt (V c) o
  rw [d_X7_have_30, if_neg (nI_ge (by omega) (by omega)), see_n hc2 hN, bnd_o (d_two (by omega) (by decide)), h.see hc1 hc2 hu, if_neg (nI_ne0 (by omega) (by omega)), nI_1, bnd_o (d_offset (by omega) (by omega))]
end PWD
