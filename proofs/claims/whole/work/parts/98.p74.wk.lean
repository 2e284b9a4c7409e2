/-! ===== pure: the state inside a call ===== -/
section PWY
variable {N B gr r : Nat} {V V' V1 W : Nat → Rw} {m m' : M5} {tk tk' : Nat → Bool} {i : Nat} {ow : Nat → Int} {X : Nat → Prop}
/-- rests grow, or a flush came -/
def RsK (m m' : M5) : Prop := (∃ rs, m' = mRs m rs ∧ ∀ b, rs b = m.2.2.2.2 b ∨ (m.2.2.2.2 b = 0 ∧ rs b = 2)) ∨ (m'.2.2.2.1 = [] ∧ ∀ b, m'.2.2.2.2 b ≠ 1)
theorem RsK.tr {m1 m2 : M5} (a : RsK m m1) (b : RsK m1 m2) : RsK m m2 := by
  rcases b with ⟨rs, e, h⟩ | b
  · rcases a with ⟨rs0, e0, h0⟩ | ⟨a1, a2⟩
    · refine Or.inl ⟨rs, by rw [e, e0]; rfl, fun c => ?_⟩
      rw [e0] at h
      have q : rs c = rs0 c ∨ (rs0 c = 0 ∧ rs c = 2) := h c
      rcases q with q | q
      · rw [q]
        exact h0 c
      · rcases h0 c with z | z
        · exact Or.inr ⟨by omega, q.2⟩
        · exact Or.inr ⟨z.1, q.2⟩
    · refine Or.inr ⟨by rw [e]; exact a1, fun c => ?_⟩
      rw [e]
      show rs c ≠ 1
      rcases h c with q | q
      · rw [q]
        exact a2 c
      · omega
  · exact Or.inr b
/-- the model after flushes and other rests -/
def Mr (N B : Nat) (m m' : M5) : Prop := RsK m m' ∧ ∀ P : M5 → Prop, P m → (∀ x, P x → (flO2 N B x).1 = true → P (flM N B x)) → (∀ x rs, P x → P (mRs x rs)) → P m'
theorem RsK.rf : RsK m m := Or.inl ⟨m.2.2.2.2, rfl, fun _ => Or.inl rfl⟩
theorem Mr.rf : Mr N B m m := ⟨RsK.rf, fun _ h _ _ => h⟩
theorem Mr.tr {m1 m2 : M5} (a : Mr N B m m1) (b : Mr N B m1 m2) : Mr N B m m2 := ⟨a.1.tr b.1, fun P h1 h2 h3 => b.2 P (a.2 P h1 h2 h3) h2 h3⟩
theorem Flr.mr (h : Flr N B m m') : Mr N B m m' := ⟨h (fun x => RsK m x) RsK.rf (fun x _ _ => Or.inr ⟨rfl, fun b => by
  show (if x.2.2.2.2 b = 1 then 0 else x.2.2.2.2 b) ≠ 1
  split
  · decide
  · assumption⟩), fun P h1 h2 _ => h P h1 h2⟩
theorem Mr.rs {rs : Nat → Nat} (hr : ∀ b, rs b = m.2.2.2.2 b ∨ (m.2.2.2.2 b = 0 ∧ rs b = 2)) : Mr N B m (mRs m rs) := ⟨Or.inl ⟨rs, rfl, hr⟩, fun P h1 _ h3 => h3 m rs h1⟩
theorem Mr.bef (hN1 : 61 ≤ N) (h : Mr N B m m') (hm : MOk N B m) : MOk N B m' ∧ ∀ u, 43 ≤ u → u < N → befM m' u = befM m u := h.2 (fun x => MOk N B x ∧ ∀ u, 43 ≤ u → u < N → befM x u = befM m u) ⟨hm, fun _ _ _ => rfl⟩ (fun x ⟨h1, h2⟩ ht => ⟨flM_ok hN1 h1 ht, fun u u1 u2 => by rw [flM_bef hN1 h1 ht u1 u2]; exact h2 u u1 u2⟩) (fun x rs ⟨h1, h2⟩ => ⟨h1, h2⟩)
/-- what becomes of tables: they stay, or rest; new ones are taken -/
def St (N B : Nat) (m : M5) (V : Nat → Rw) (tk : Nat → Bool) (m' : M5) (V' : Nat → Rw) (tk' : Nat → Bool) : Prop := (∀ b, isT V b → isT V' b ∨ m'.2.2.2.2 b = 2) ∧ (∀ b, isT V' b → tk' b = true ∨ (isT V b ∧ (tk b = true → tk' b = true))) ∧ (∀ b, m.2.2.2.2 b = 2 → m'.2.2.2.2 b = 2) ∧ Mr N B m m'
theorem St.rf : St N B m V tk m V tk := ⟨fun _ h => Or.inl h, fun _ h => Or.inr ⟨h, id⟩, fun _ h => h, Mr.rf⟩
theorem St.tr {m2 : M5} {V2 : Nat → Rw} {tk2 : Nat → Bool} (a : St N B m V tk m' V' tk') (b : St N B m' V' tk' m2 V2 tk2) : St N B m V tk m2 V2 tk2 := ⟨fun c h => (a.1 c h).elim (fun z => b.1 c z) (fun z => Or.inr (b.2.2.1 c z)), fun c h => by
  rcases b.2.1 c h with q | ⟨q1, q2⟩
  · exact Or.inl q
  · rcases a.2.1 c q1 with p | ⟨p1, p2⟩
    · exact Or.inl (q2 p)
    · exact Or.inr ⟨p1, fun z => q2 (p2 z)⟩, fun c h => b.2.2.1 c (a.2.2.1 c h), a.2.2.2.tr b.2.2.2⟩
theorem isT_cg (hp : ∀ j x, ir j → x < 4234 → pv V' j x = pv V j x) (hk : ∀ j, ir j → f1 V' j 0 = f1 V j 0 ∨ ∀ x, x < 4234 → pv V j x = 0) {b : Nat} : isT V' b ↔ isT V b := by
  constructor
  · rintro ⟨h0, j, x, j1, j2, j3, j4⟩
    rw [hp j x j1 j2] at j3
    refine ⟨h0, j, x, j1, j2, j3, j4.imp id (fun z => ?_)⟩
    rcases hk j j1 with q | q
    · rw [← q]; exact z
    · exact absurd (by rw [← j3]; exact q x j2) h0
  · rintro ⟨h0, j, x, j1, j2, j3, j4⟩
    refine ⟨h0, j, x, j1, j2, by rw [hp j x j1 j2]; exact j3, j4.imp id (fun z => ?_)⟩
    rcases hk j j1 with q | q
    · rw [q]; exact z
    · exact absurd (by rw [← j3]; exact q x j2) h0
theorem St.same (hp : ∀ j x, ir j → x < 4234 → pv V' j x = pv V j x) (hk : ∀ j, ir j → f1 V' j 0 = f1 V j 0 ∨ ∀ x, x < 4234 → pv V j x = 0) : St N B m V tk m V' tk := ⟨fun _ h => Or.inl ((isT_cg hp hk).mpr h), fun _ h => Or.inr ⟨(isT_cg hp hk).mp h, id⟩, fun _ h => h, Mr.rf⟩
theorem rF_t {F : Nat → Prop} {rs : Nat → Nat} {b : Nat} (h : F b) : rF F rs b = 2 := if_pos h
theorem rF_2 {F : Nat → Prop} {rs : Nat → Nat} {b : Nat} (h : rs b = 2) : rF F rs b = 2 := by
  unfold rF
  split
  · rfl
  · exact h
theorem tF_f {F : Nat → Prop} {b : Nat} (h : ¬ F b) : tF F tk b = tk b := if_neg h
theorem tF_t {F : Nat → Prop} {b : Nat} (h : F b) : tF F tk b = false := if_pos h
theorem St.cut (hN1 : 61 ≤ N) (hw : PW N V) (hu : ∀ b, b < N → btM (V 43) b = 1 → m.2.2.2.2 b = 0) (hi : ir i) (hcl : clX X) (hz : ZS N m V tk (FSx V i X) (ZSx V i X) m' V' tk') : St N B m V tk m' V' tk' := by
  have ep := fun {j y : Nat} (hj : ir j) (hy : y < 4234) => hz.pvs hw hN1 hi hcl hj y hy
  have ek : ∀ j, ir j → f1 V' j 0 = f1 V j 0 := fun j hj => by
    unfold f1 ub
    rw [hz.ino hw hN1 hi hj (by decide) (Or.inr (by decide))]
  refine ⟨fun b ⟨h0, j, x, j1, j2, j3, j4⟩ => ?_, fun b ⟨h0, j, x, j1, j2, j3, j4⟩ => ?_, fun b hb => ?_, ?_⟩
  · by_cases c : j = i ∧ X x
    · refine Or.inr ?_
      rw [hz.1]
      exact rF_t ⟨h0, x, j2, c.2, by rw [← c.1]; exact j3⟩
    · exact Or.inl ⟨h0, j, x, j1, j2, by rw [ep j1 j2, if_neg c]; exact j3, j4.imp id (fun z => by rw [ek j j1]; exact z)⟩
  · rw [ep j1 j2] at j3
    by_cases c : j = i ∧ X x
    · rw [if_pos c] at j3
      exact absurd j3.symm h0
    · rw [if_neg c] at j3
      refine Or.inr ⟨⟨h0, j, x, j1, j2, j3, j4.imp id (fun z => by rw [← ek j j1]; exact z)⟩, fun z => ?_⟩
      have hnF : ¬ FSx V i X b := fun ⟨_, y, y1, y2, y3⟩ => by
        have q := hw.2.2.1 i y j x hi y1 j1 j2 (by rw [y3]; exact h0) (by rw [y3, j3])
        exact c ⟨q.1.symm, by rw [← q.2]; exact y2⟩
      rw [hz.2.1, tF_f hnF]
      exact z
  · rw [hz.1]
    exact rF_2 hb
  · rw [hz.1]
    refine Mr.rs (fun b => ?_)
    by_cases c : FSx V i X b
    · obtain ⟨c0, x, x1, x2, x3⟩ := c
      have q := (hw.pto hi x x1).resolve_left (by rw [x3]; exact c0)
      rw [x3] at q
      exact Or.inr ⟨hu b q.2.1 q.2.2, rF_t ⟨c0, x, x1, x2, x3⟩⟩
    · exact Or.inl (if_neg c)
theorem St.gone (hN1 : 61 ≤ N) (hN : N ≤ 1024) (h : WFs N V ow) (hu : ∀ b, b < N → btM (V 43) b = 1 → m.2.2.2.2 b = 0) (hi : ir i) (hi1 : i ≠ 1) (hz : ZS N m V tk (FSx V i (cX 0)) (ZSx V i (cX 0)) m' V' tk') (hn : nmC V i 65 = 0) (hs : f1 V i 0 = 2 → ∀ s, s < szM V i / 16 → sln V i s = 0) : St N B m V tk m' (rmV V' i) tk' := by
  have c1 := St.cut (B := B) hN1 h.1 hu hi cX_cl hz
  obtain ⟨-, g2, -, -, g5, -, g6⟩ := h.gone hN1 hN hi hi1 hz hn hs
  have ep := fun {j y : Nat} (hj : ir j) (hy : y < 4234) => hz.pvs h.1 hN1 hi cX_cl hj y hy
  refine c1.tr (St.same (fun j x hj hx => ?_) (fun j hj => ?_))
  · rw [ep hj hx]
    by_cases c : j = i
    · rw [if_pos ⟨c, cX_all⟩, c]
      exact g6 x hx
    · rw [if_neg (fun z => c z.1)]
      exact (g2 j hj c).2.2.2 x hx
  · by_cases c : j = i
    · exact Or.inr (fun x hx => by rw [ep hj hx, if_pos ⟨c, cX_all⟩])
    · refine Or.inl ?_
      rw [(g2 j hj c).1]
      unfold f1 ub
      rw [hz.ino h.1 hN1 hi hj (by decide) (Or.inr (by decide))]
theorem Flr.rs2 (h : Flr N B m m') : ∀ b, m.2.2.2.2 b = 2 → m'.2.2.2.2 b = 2 := h (fun x => ∀ b, m.2.2.2.2 b = 2 → x.2.2.2.2 b = 2) (fun _ h => h) (fun x hx _ b hb => by
  show (if x.2.2.2.2 b = 1 then 0 else x.2.2.2.2 b) = 2
  rw [hx b hb]
  rfl)
theorem St.grow {tb : Bool} {Y : Nat → Prop} (hi : ir i) (htb : f1 V i 0 = 2 → tb = true) (g : Gr N i tb Y V V') (t : TkG i tb Y V V' tk tk') (f : Flr N B m m') : St N B m V tk m' V' tk' := by
  have ek : ∀ j, ir j → f1 V' j 0 = f1 V j 0 := fun j hj => g.2.1 j 0 hj (by decide)
  refine ⟨fun b ⟨h0, j, x, j1, j2, j3, j4⟩ => Or.inl ⟨h0, j, x, j1, j2, ?_, j4.imp id (fun z => by rw [ek j j1]; exact z)⟩, fun b ⟨h0, j, x, j1, j2, j3, j4⟩ => ?_, f.rs2, f.mr⟩
  · rw [g.1 j x j1 j2 (Or.inl (by rw [j3]; exact h0))]
    exact j3
  · by_cases c : pv V j x = 0
    · have e : j = i := Classical.byContradiction (fun z => h0 (by rw [← j3, g.1 j x j1 j2 (Or.inr (Or.inl z))]; exact c))
      refine Or.inl ?_
      rw [e] at c j3 j4
      rw [← j3]
      exact t.2.1 x j2 (j4.imp id (fun z => htb (by rw [← ek i hi]; exact z))) c (by rw [j3]; exact h0)
    · rw [g.1 j x j1 j2 (Or.inl c)] at j3
      exact Or.inr ⟨⟨h0, j, x, j1, j2, j3, j4.imp id (fun z => by rw [← ek j j1]; exact z)⟩, t.1 b⟩
/-- rows that may be own -/
def OkP (m : M5) (V : Nat → Rw) (b : Nat) : Prop := b < 61 ∨ isT V b ∨ m.2.2.2.2 b = 2
theorem OkP.st {b : Nat} (h : OkP m V b) (s : St N B m V tk m' V' tk') : OkP m' V' b := by
  rcases h with h | h | h
  · exact Or.inl h
  · exact Or.inr (s.1 b h)
  · exact Or.inr (Or.inr (s.2.2.1 b h))
def OwT (A : MS) (R : RfT) (m : M5) (V : Nat → Rw) : Prop := OwS A (OkP m V) ∧ OwR R (OkP m V)
/-- rows that differ from before, or are new tables -/
def Chg (m : M5) (V : Nat → Rw) (tk : Nat → Bool) (b : Nat) : Prop := tk b = true ∨ V b ≠ befM m b
abbrev S3 : Type := M5 × (Nat → Rw) × (Nat → Bool)
/-- inside a call that began with s0 -/
def WK (N B gr r : Nat) (s0 : S3) (l : List Nat) (A : MS) (D : CfT) (R : RfT) (m : M5) (V : Nat → Rw) (tk : Nat → Bool) (ow : Nat → Int) : Prop := JX N B gr A D R m V tk ∧ WFs N V ow ∧ Bud N B r m V ∧ OwT A R m V ∧ St N B s0.1 s0.2.1 s0.2.2 m V tk ∧ ∀ b, 43 ≤ b → b < N → Chg m V tk b → Chg s0.1 s0.2.1 s0.2.2 b ∨ b ∈ l
theorem WK.chg {s0 : S3} {l : List Nat} {A A' : MS} {D D' : CfT} {R R' : RfT} {ow' : Nat → Int} {r' : Nat} (h : WK N B gr r s0 l A D R m V tk ow) (hN1 : 61 ≤ N) (x : JX N B gr A' D' R' m' V' tk') (w : WFs N V' ow') (b : Bud N B r' m' V') (s : St N B m V tk m' V' tk') (o : OwS A (OkP m' V') → OwR R (OkP m' V') → OwT A' R' m' V') {l2 : List Nat} (c : ∀ b, 43 ≤ b → b < N → Chg m' V' tk' b → Chg m V tk b ∨ b ∈ l2) : WK N B gr r' s0 (l2 ++ l) A' D' R' m' V' tk' ow' := ⟨x, w, b, o (h.2.2.2.1.1.wk (fun _ z => z.st s)) (h.2.2.2.1.2.wk (fun _ z => z.st s)), h.2.2.2.2.1.tr s, fun u u1 u2 hc => by
  rcases c u u1 u2 hc with q | q
  · rcases h.2.2.2.2.2 u u1 u2 q with p | p
    · exact Or.inl p
    · exact Or.inr (List.mem_append.mpr (Or.inr p))
  · exact Or.inr (List.mem_append.mpr (Or.inl q))⟩
/-- one row changes, the model doesn't -/
theorem Chg.one {b0 : Nat} (e : ∀ c, 43 ≤ c → c ≠ b0 → V' c = V c) : ∀ b, 43 ≤ b → b < N → Chg m V' tk b → Chg m V tk b ∨ b ∈ [b0] := fun b h1 h2 hc => by
  by_cases c : b = b0
  · exact Or.inr (by rw [c]; exact List.mem_singleton.mpr rfl)
  · refine Or.inl (hc.imp id (fun z => ?_))
    rw [← e b h1 c]
    exact z
theorem Bud.v {W : Nat → Rw} (h : Bud N B r m V) (e : W 43 = V 43) : Bud N B r m W := by
  obtain ⟨h1, h2, h3, h4, h5, h6⟩ := h
  exact ⟨h1, h2, h3, h4, by rw [e]; exact h5, h6⟩
end PWY
