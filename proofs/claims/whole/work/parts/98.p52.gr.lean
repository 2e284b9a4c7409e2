/-! ===== pure: an inode grows ===== -/
section PWC
variable {N B gr : Nat} {V V1 V2 V3 : Nat → Rw} {m : M5} {tk : Nat → Bool} {i : Nat}
/-- inode i got numbers of Y; new data blocks of a directory (tb) are 0 -/
def Gr (N i : Nat) (tb : Bool) (Y : Nat → Prop) (V V' : Nat → Rw) : Prop := (∀ j y, ir j → y < 4234 → (pv V j y ≠ 0 ∨ j ≠ i ∨ ¬ Y y) → pv V' j y = pv V j y) ∧ (∀ j a, ir j → a < 12 → ub (V' (homeM j)) (startM j + a) = ub (V (homeM j)) (startM j + a)) ∧ V' 44 = V 44 ∧ (∀ b, 61 ≤ b → b < N → btM (V 43) b = 1 → (¬ ∃ x, tbx x ∧ x < 138 ∧ pv V i x = b) → V' b = V b) ∧ (∀ b, 61 ≤ b → b < N → btM (V 43) b = 1 → btM (V' 43) b = 1) ∧ ∀ y, ¬ tbx y → y < 4234 → pv V i y = 0 → pv V' i y ≠ 0 → tb = true → V' (pv V' i y) = zR
theorem Gr.rf {tb : Bool} {Y : Nat → Prop} : Gr N i tb Y V V := ⟨fun _ _ _ _ _ => rfl, fun _ _ _ _ => rfl, rfl, fun _ _ _ _ _ => rfl, fun _ _ _ h => h, fun y _ _ h1 h2 => absurd h1 h2⟩
theorem Gr.wk {tb : Bool} {Y Y2 : Nat → Prop} (h : Gr N i tb Y V V1) (e : ∀ y, Y y → Y2 y) : Gr N i tb Y2 V V1 := ⟨fun j y hj hy q => h.1 j y hj hy (q.elim Or.inl (fun q => Or.inr (q.elim Or.inl (fun q => Or.inr (fun z => q (e y z)))))), h.2⟩
theorem Gr.tr {tb : Bool} {Y : Nat → Prop} (hi : ir i) (hw : PW N V) (hw1 : PW N V1) (a : Gr N i tb Y V V1) (b : Gr N i tb Y V1 V2) : Gr N i tb Y V V2 := by
  obtain ⟨a1, a2, a3, a4, a5, a6⟩ := a
  obtain ⟨b1, b2, b3, b4, b5, b6⟩ := b
  refine ⟨fun j y hj hy q => ?_, fun j x hj hx => (b2 j x hj hx).trans (a2 j x hj hx), b3.trans a3, fun d d1 d2 d3 d4 => ?_, fun d d1 d2 d3 => b5 d d1 d2 (a5 d d1 d2 d3), fun y hy hy4 h0 h1 ht => ?_⟩
  · rw [b1 j y hj hy (by rw [a1 j y hj hy q]; exact q), a1 j y hj hy q]
  · rw [b4 d d1 d2 (a5 d d1 d2 d3) (fun ⟨x, x1, x2, x3⟩ => ?_), a4 d d1 d2 d3 d4]
    by_cases c : pv V i x = 0
    · obtain ⟨j, y, j1, j2, j3⟩ := (hw.2.2.2 d d1 d2).mp d3
      have e := a1 j y j1 j2 (Or.inl (by omega))
      have q := hw1.2.2.1 i x j y hi (by omega) j1 j2 (by omega) (by rw [x3, e, j3])
      rw [← q.1, ← q.2] at j3
      omega
    · rw [a1 i x hi (by omega) (Or.inl c)] at x3
      exact d4 ⟨x, x1, x2, x3⟩
  · by_cases c : pv V1 i y = 0
    · exact b6 y hy hy4 c h1 ht
    · have e := b1 i y hi hy4 (Or.inl c)
      rw [e]
      have hz := a6 y hy hy4 h0 c ht
      have hr := (hw1.2.1 i y hi hy4).resolve_left c
      have hu := (hw1.2.2.2 _ hr.1 hr.2).mpr ⟨i, y, hi, hy4, rfl⟩
      rw [b4 _ hr.1 hr.2 hu (fun ⟨x, x1, x2, x3⟩ => ?_), hz]
      have q := hw1.2.2.1 i x i y hi (by omega) hi hy4 (by rw [x3]; exact c) x3
      rw [q.2] at x1
      exact hy x1
theorem Gr.lk {x b : Nat} {tab tb : Bool} (h : PW N V) (hN1 : 61 ≤ N) (hi : ir i) (hx4 : x < 4234) (h0 : ph V i x ≠ 0) (hv : pv V i x = 0) (hb1 : 61 ≤ b) (hb2 : b < N) (hN : N ≤ 1024) (hbf : btM (V 43) b = 0) (ht : tbx x → tab = true) (htb : ¬ tbx x → tab = tb) : Gr N i tb (fun y => y = x) V (lkV V b (ph V i x) (po i x) tab) := by
  have hpv := fun {j y : Nat} (hj : ir j) (hy : y < 4234) => pv_set (tab := tab) h hN1 hi hx4 h0 hv hb1 hb2 hN hbf ht hj hy
  obtain ⟨c1, c2, c3⟩ := h.at hN1 hi hx4 h0
  have hcb : ph V i x ≠ b := fun e => by
    rw [e] at c3
    omega
  have hW : ∀ c, c ≠ 43 → c ≠ b → c ≠ ph V i x → lkV V b (ph V i x) (po i x) tab c = V c := fun c q1 q2 q3 => (vU_n q3).trans (tkV_x q1 q2)
  refine ⟨fun j y hj hy q => ?_, fun j a hj ha => ?_, hW 44 (by decide) (by omega) (by omega), fun d d1 d2 d3 d4 => ?_, fun d d1 d2 d3 => ?_, fun y hy hy4 q0 q1 qt => ?_⟩
  · rw [hpv hj hy, if_neg (fun z => ?_)]
    rcases q with q | q | q
    · rw [z.1, z.2, hv] at q
      exact q rfl
    · exact q z.1
    · exact q z.2
  · obtain ⟨j1, j2⟩ := ir_home hj
    by_cases e : homeM j = ph V i x
    · have e2 : lkV V b (ph V i x) (po i x) tab (ph V i x) = nr (wB (V (ph V i x)) (po i x) (nI b) 2) := by
        unfold lkV
        rw [vU_s, tkV_x (by omega) hcb]
      have hs := startM_le j
      have hs' := startM_le i
      rw [e, e2]
      have hx10 : x < 10 := by
        by_cases c : x < 10
        · exact c
        · rw [ph_hx (by omega) hx4] at e h0
          have := hx_lt hx4
          rcases h.2.1 i (hx x) hi (by omega) with q | q
          · exact absurd q h0
          · omega
      have hpo : startM i + 12 ≤ po i x ∧ po i x ≤ startM i + 30 := by
        unfold po
        split
        · omega
        · split
          · omega
          · split
            · omega
            · omega
      refine ub_o (by omega) ?_
      rw [ph_0 hx10] at e
      by_cases ej : j = i
      · rw [ej]
        omega
      · rcases ino_ap hj.1 hi.1 ej with q | q
        · exact absurd e q
        · omega
    · rw [hW _ (by omega) (by omega) e]
  · refine hW d (by omega) (fun e => by rw [e] at d3; omega) (fun e => ?_)
    by_cases c : x < 10
    · rw [ph_0 c] at e
      have := ir_home hi
      omega
    · rw [ph_hx (by omega) hx4] at e
      refine d4 ⟨hx x, ?_, hx_lt hx4, e.symm⟩
      unfold hx tbx
      split
      · exact Or.inl rfl
      · split
        · exact Or.inr (Or.inl rfl)
        · exact Or.inr (Or.inr ⟨by omega, by omega⟩)
  · have e43 : lkV V b (ph V i x) (po i x) tab 43 = bsW (V 43) b true := (vU_n (by omega)).trans (tkV_43 (by omega))
    rw [e43, bt_bs (by omega) (by omega)]
    by_cases q : d = b
    · rw [if_pos q]
      rfl
    · rw [if_neg q]
      exact d3
  · rw [hpv hi hy4] at q1 ⊢
    by_cases q : i = i ∧ y = x
    · rw [if_pos q]
      rw [q.2] at hy
      have e : tab = true := (htb hy).trans qt
      show vU (tkV V b tab) (ph V i x) _ b = zR
      rw [vU_n (fun e => hcb e.symm), e]
      exact vU_s
    · rw [if_neg q] at q1
      exact absurd q0 q1
/-- what both need for one step, and what they have behind it -/
theorem fb_bs {y : Rw} {b : Nat} (hb : btM y b = 0) (hb4 : b < 1024) : ∀ n, n ≤ 1024 → fbM (bsW y b true) n + (if b < n then 1 else 0) = fbM y n
  | 0, _ => by
    rw [if_neg (Nat.not_lt_zero _)]
    rfl
  | n + 1, h => by
    have ih := fb_bs hb hb4 n (by omega)
    show fbM (bsW y b true) n + (1 - btM (bsW y b true) n) + _ = fbM y n + (1 - btM y n)
    rw [bt_bs hb4 (by omega)]
    by_cases c : n = b
    · rw [if_pos c, if_pos (show b < n + 1 by omega), c, hb]
      rw [c] at ih
      rw [if_neg (Nat.lt_irrefl b)] at ih
      show fbM (bsW y b true) b + (1 - 1) + 1 = fbM y b + (1 - 0)
      omega
    · rw [if_neg c]
      by_cases c2 : b < n
      · rw [if_pos c2] at ih
        rw [if_pos (show b < n + 1 by omega)]
        omega
      · rw [if_neg c2] at ih
        rw [if_neg (show ¬ b < n + 1 by omega)]
        omega
theorem rs2_fl : ∀ n, rsC (flM N B m).2.2.2.2 2 n = rsC m.2.2.2.2 2 n
  | 0 => rfl
  | n + 1 => by
    show rsC (flM N B m).2.2.2.2 2 n + (if (flM N B m).2.2.2.2 n = 2 then 1 else 0) = rsC m.2.2.2.2 2 n + (if m.2.2.2.2 n = 2 then 1 else 0)
    rw [rs2_fl n]
    congr 1
    show (if (if m.2.2.2.2 n = 1 then 0 else m.2.2.2.2 n) = 2 then 1 else 0) = _
    by_cases c : m.2.2.2.2 n = 1
    · rw [if_pos c, if_neg (by decide), if_neg (by omega)]
    · rw [if_neg c]
/-- room and budget: of the state m, V at least r blocks can be taken -/
def RZ (N : Nat) (m : M5) : Prop := ∀ b, N ≤ b → m.2.2.2.2 b = 0
def Bud (N B r : Nat) (m : M5) (V : Nat → Rw) : Prop := MOk N B m ∧ hSp m.1 + 100 * m.2.2.2.1.length + 4200 < 2 ^ 31 ∧ m.2.2.2.1.length ≤ 16 ∧ (∀ b, b < N → m.2.2.2.2 b < 3) ∧ rsC m.2.2.2.2 2 N + r ≤ fbM (V 43) N ∧ RZ N m
theorem Bud.take {r b : Nat} (hN1 : 61 ≤ N) (hN : N ≤ 1024) (h : Bud N B (r + 1) m V) (hb : btO N (V 43)) (hn : ¬ tkD N B m V) (ht : (tkM N B m V).2 = some b) {W : Nat → Rw} (hW : W 43 = bsW (V 43) b true) : Bud N B r (tkM N B m V).1 W := by
  obtain ⟨h1, h2, h3, h4, h5, h6⟩ := h
  obtain ⟨s1, s2, s3, s4⟩ := tkM_s ht
  have hf := fb_bs s3 (show b < 1024 by omega) N hN
  rw [if_pos s2] at hf
  unfold tkM at *
  cases hl : lowB N V m with
  | some c =>
    refine ⟨h1, h2, h3, h4, ?_, h6⟩
    rw [hW]
    show rsC m.2.2.2.2 2 N + r ≤ _
    omega
  | none =>
    have ho : (flO2 N B m).1 = true := by
      cases e : (flO2 N B m).1 with
      | true => rfl
      | false => exact absurd ⟨hl, e⟩ hn
    have hs := flM_sp hN1 h1 ho
    refine ⟨flM_ok hN1 h1 ho, ?_, Nat.zero_le _, fun d hd => ?_, ?_, fun d hd => ?_⟩
    · show hSp (flM N B m).1 + 100 * 0 + 4200 < 2 ^ 31
      omega
    · show (if m.2.2.2.2 d = 1 then 0 else m.2.2.2.2 d) < 3
      have := h4 d hd
      split
      · decide
      · exact this
    · rw [hW]
      show rsC (flM N B m).2.2.2.2 2 N + r ≤ _
      rw [rs2_fl]
      omega
    · show (if m.2.2.2.2 d = 1 then 0 else m.2.2.2.2 d) = 0
      have := h6 d hd
      rw [if_neg (by omega)]
      exact this
/-- what is reached by flushes; a flush that fails -/
def Flr (N B : Nat) (m m' : M5) : Prop := ∀ P : M5 → Prop, P m → (∀ x, P x → (flO2 N B x).1 = true → P (flM N B x)) → P m'
def Fld (N B : Nat) (m : M5) (o : Hw) : Prop := ∃ x, Flr N B m x ∧ (flO2 N B x).1 = false ∧ o = (flO2 N B x).2.1
theorem Flr.rf : Flr N B m m := fun _ h _ => h
theorem Flr.tr {m1 m2 : M5} (a : Flr N B m m1) (b : Flr N B m1 m2) : Flr N B m m2 := fun P h1 h2 => b P (a P h1 h2) h2
theorem Flr.fl {m1 : M5} (a : Flr N B m m1) (h : (flO2 N B m1).1 = true) : Flr N B m (flM N B m1) := fun P h1 h2 => h2 _ (a P h1 h2) h
theorem Fld.pre {m1 : M5} {o : Hw} (a : Flr N B m m1) (b : Fld N B m1 o) : Fld N B m o := by
  obtain ⟨x, x1, x2, x3⟩ := b
  exact ⟨x, a.tr x1, x2, x3⟩
/-- and what is touched stays told -/
def FlT (N B : Nat) (m : M5) (A' : MS) (D' : CfT) : Prop := Fld N B m A'.1 ∧ TJ N A' D'
theorem FlT.pre {m1 : M5} {A' : MS} {D' : CfT} (a : Flr N B m m1) (b : FlT N B m1 A' D') : FlT N B m A' D' := ⟨Fld.pre a b.1, b.2⟩
theorem Flr.tak (hn : ¬ tkD N B m V) : Flr N B m (tkM N B m V).1 := by
  unfold tkM
  cases hl : lowB N V m with
  | some b => exact Flr.rf
  | none =>
    refine Flr.rf.fl ?_
    cases e : (flO2 N B m).1 with
    | true => rfl
    | false => exact absurd ⟨hl, e⟩ hn
/-- a table, or block of a directory, that Y tells -/
def yB (i : Nat) (tb : Bool) (Y : Nat → Prop) (V' : Nat → Rw) (b : Nat) : Prop := b ≠ 0 ∧ ∃ x, x < 4234 ∧ Y x ∧ (tbx x ∨ tb = true) ∧ pv V' i x = b
/-- new tables are taken; what was taken stays so; no other rows change -/
def TkG (i : Nat) (tb : Bool) (Y : Nat → Prop) (V V' : Nat → Rw) (tk tk' : Nat → Bool) : Prop := (∀ b, tk b = true → tk' b = true) ∧ (∀ y, y < 4234 → (tbx y ∨ tb = true) → pv V i y = 0 → pv V' i y ≠ 0 → tk' (pv V' i y) = true) ∧ (∀ b, 44 ≤ b → V' b = V b ∨ b = homeM i ∨ yB i tb Y V' b) ∧ ∀ b, tk' b = true → tk b = true ∨ yB i tb Y V' b
/-- own rows grow by 43, the inode's, its tables alone -/
def OwG (i : Nat) (tb : Bool) (V' : Nat → Rw) (A A' : MS) (R R' : RfT) : Prop := ∀ P : Nat → Prop, P 43 → P (homeM i) → (∀ x, x < 4234 → (tbx x ∨ tb = true) → pv V' i x ≠ 0 → P (pv V' i x)) → OwS A P → OwR R P → OwS A' P ∧ OwR R' P
theorem TkG.rf {tb : Bool} {Y : Nat → Prop} : TkG i tb Y V V tk tk := ⟨fun _ h => h, fun y _ _ h1 h2 => absurd h1 h2, fun _ _ => Or.inl rfl, fun _ h => Or.inl h⟩
theorem yB.wk {tb : Bool} {Y Y2 : Nat → Prop} {b : Nat} (h : yB i tb Y V b) (e : ∀ y, Y y → Y2 y) : yB i tb Y2 V b := by
  obtain ⟨h0, x, x1, x2, x3, x4⟩ := h
  exact ⟨h0, x, x1, e x x2, x3, x4⟩
theorem TkG.wk {tb : Bool} {Y Y2 : Nat → Prop} {tk1 : Nat → Bool} (h : TkG i tb Y V V1 tk tk1) (e : ∀ y, Y y → Y2 y) : TkG i tb Y2 V V1 tk tk1 := ⟨h.1, h.2.1, fun b hb => (h.2.2.1 b hb).imp id (fun z => z.imp id (fun z => z.wk e)), fun b hb => (h.2.2.2 b hb).imp id (fun z => z.wk e)⟩
theorem yB.gro {tb : Bool} {Y Y2 : Nat → Prop} {b : Nat} (hi : ir i) (h : yB i tb Y V1 b) (g : Gr N i tb Y2 V1 V2) : yB i tb Y V2 b := by
  obtain ⟨h0, x, x1, x2, x3, x4⟩ := h
  refine ⟨h0, x, x1, x2, x3, ?_⟩
  rw [g.1 i x hi x1 (Or.inl (by rw [x4]; exact h0))]
  exact x4
theorem TkG.tr {tb : Bool} {Y Y2 : Nat → Prop} {tk1 tk2 : Nat → Bool} (hi : ir i) (a : TkG i tb Y V V1 tk tk1) (b : TkG i tb Y V1 V2 tk1 tk2) (g : Gr N i tb Y2 V1 V2) : TkG i tb Y V V2 tk tk2 := ⟨fun c h => b.1 c (a.1 c h), fun y y1 y2 y3 y4 => by
  by_cases c : pv V1 i y = 0
  · exact b.2.1 y y1 y2 c y4
  · rw [g.1 i y hi y1 (Or.inl c)]
    exact b.1 _ (a.2.1 y y1 y2 y3 c), fun c hc => by
  rcases b.2.2.1 c hc with q | q
  · rw [q]
    exact (a.2.2.1 c hc).imp id (fun z => z.imp id (fun z => z.gro hi g))
  · exact Or.inr q, fun c hc => by
  rcases b.2.2.2 c hc with q | q
  · exact (a.2.2.2 c q).imp id (fun z => z.gro hi g)
  · exact Or.inr q⟩
theorem OwG.rf {tb : Bool} {A : MS} {R : RfT} : OwG i tb V A A R R := fun _ _ _ _ h1 h2 => ⟨h1, h2⟩
theorem OwG.tr {tb : Bool} {Y : Nat → Prop} {A A1 A2 : MS} {R R1 R2 : RfT} (hi : ir i) (a : OwG i tb V1 A A1 R R1) (b : OwG i tb V2 A1 A2 R1 R2) (g : Gr N i tb Y V1 V2) : OwG i tb V2 A A2 R R2 := fun P p1 p2 p3 p4 p5 => by
  obtain ⟨q1, q2⟩ := a P p1 p2 (fun x x1 x2 x3 => by
    have e := g.1 i x hi x1 (Or.inl x3)
    have := p3 x x1 x2 (by rw [e]; exact x3)
    rw [e] at this
    exact this) p4 p5
  exact b P p1 p2 p3 q1 q2
def lY (x y : Nat) : Prop := y = x ∨ (10 ≤ x ∧ y = hx x)
theorem hx_tbx {x : Nat} (h : x < 4234) : tbx (hx x) := by
  unfold hx tbx
  split
  · exact Or.inl rfl
  · split
    · exact Or.inr (Or.inl rfl)
    · exact Or.inr (Or.inr ⟨by omega, by omega⟩)
theorem lv_tg {x b : Nat} {tab tb : Bool} {tk' : Nat → Bool} (hi : ir i) (hx4 : x < 4234) (h0 : ph V i x ≠ 0) (g : Gr N i tb (fun y => y = x) V (lkV V b (ph V i x) (po i x) tab)) (e : pv (lkV V b (ph V i x) (po i x) tab) i x = b) (hb : b ≠ 0) (ht : tbx x → tab = true) (htb : ¬ tbx x → tab = tb) (hk : tk' = tkT tk b tab) : TkG i tb (lY x) V (lkV V b (ph V i x) (po i x) tab) tk tk' := by
  have xt : tab = true → tbx x ∨ tb = true := fun z => by
    by_cases c : tbx x
    · exact Or.inl c
    · exact Or.inr (by rw [← htb c]; exact z)
  refine ⟨fun c h => ?_, fun y y1 y2 y3 y4 => ?_, fun c hc => ?_, fun c hc => ?_⟩
  · rw [hk]
    unfold tkT
    split
    · unfold tU
      split
      · rfl
      · exact h
    · exact h
  · have ey : y = x := Classical.byContradiction (fun z => y4 (by rw [g.1 i y hi y1 (Or.inr (Or.inr z))]; exact y3))
    have etab : tab = true := by
      by_cases c : tbx x
      · exact ht c
      · rw [htb c]
        rcases y2 with q | q
        · rw [ey] at q
          exact absurd q c
        · exact q
    rw [hk, ey, e, etab]
    exact if_pos rfl
  · by_cases c1 : c = ph V i x
    · refine Or.inr ?_
      by_cases c10 : x < 10
      · rw [ph_0 c10] at c1
        exact Or.inl c1
      · rw [ph_hx (by omega) hx4] at c1 h0
        have hl := hx_lt hx4
        refine Or.inr ⟨by rw [c1]; exact h0, hx x, by omega, Or.inr ⟨by omega, rfl⟩, Or.inl (hx_tbx hx4), ?_⟩
        rw [g.1 i (hx x) hi (by omega) (Or.inl h0), c1]
    · have e1 : lkV V b (ph V i x) (po i x) tab c = tkV V b tab c := vU_n c1
      by_cases c2 : c = b
      · cases htab : tab with
        | true => exact Or.inr (Or.inr ⟨by rw [c2]; exact hb, x, hx4, Or.inl rfl, xt htab, by rw [c2, ← htab]; exact e⟩)
        | false =>
          refine Or.inl ?_
          rw [← htab, e1, htab]
          exact vU_n (by omega)
      · exact Or.inl (by rw [e1, tkV_x (by omega) c2])
  · rw [hk] at hc
    unfold tkT at hc
    split at hc
    · next htab =>
      unfold tU at hc
      split at hc
      · next cb => exact Or.inr ⟨by rw [cb]; exact hb, x, hx4, Or.inl rfl, xt htab, by rw [cb]; exact e⟩
      · exact Or.inl hc
    · exact Or.inl hc
theorem lv_og {x b : Nat} {tab tb : Bool} {A A' : MS} {R R' : RfT} (hi : ir i) (hx4 : x < 4234) (h0 : ph V i x ≠ 0) (g : Gr N i tb (fun y => y = x) V V1) (e : pv V1 i x = b) (hb : b ≠ 0) (ht : tbx x → tab = true) (htb : ¬ tbx x → tab = tb) (hP : ∀ P : Nat → Prop, P 43 → P (ph V i x) → (tab = true → P b) → OwS A P → OwR R P → OwS A' P ∧ OwR R' P) : OwG i tb V1 A A' R R' := fun P p1 p2 p3 p4 p5 => by
  refine hP P p1 ?_ (fun z => ?_) p4 p5
  · by_cases c : x < 10
    · rw [ph_0 c]
      exact p2
    · rw [ph_hx (by omega) hx4] at h0 ⊢
      have hl := hx_lt hx4
      have e2 := g.1 i (hx x) hi (by omega) (Or.inl h0)
      have q := p3 (hx x) (by omega) (Or.inl (hx_tbx hx4)) (by rw [e2]; exact h0)
      rw [e2] at q
      exact q
  · rw [← e]
    refine p3 x hx4 ?_ (by rw [e]; exact hb)
    by_cases c : tbx x
    · exact Or.inl c
    · exact Or.inr (by rw [← htb c]; exact z)
end PWC
