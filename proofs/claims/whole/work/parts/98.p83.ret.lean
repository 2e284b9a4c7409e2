/-! ===== pure: calls, how they begin; what they leave ===== -/
section PXJ
variable {N B gr r u : Nat} {V : Nat → Rw} {m : M5} {tk : Nat → Bool} {A : MS} {D D' : CfT} {R R' : RfT} {g : Bool} {hd hi : Nat → Nat} {tp : Nat → Int32} {tl : Nat}
theorem TI.dd (h : TI N A D) (e1 : cS D' 2508 = cS D 2508) (e2 : cA D' 29 = cA D 29) : TI N A D' := by
  obtain ⟨n, tc, h1, h2, h3, h4⟩ := h
  exact ⟨n, tc, h1, by rw [e1]; exact h2, by rw [e2]; exact h3, h4⟩
theorem TJ.dd (h : TJ N A D) (e1 : cS D' 2508 = cS D 2508) (e2 : cA D' 29 = cA D 29) : TJ N A D' := ⟨h.1.dd e1 e2, h.2⟩
theorem CX.dd (h : CX N A D m V tk) (e1 : cS D' 2508 = cS D 2508) (e2 : cA D' 29 = cA D 29) : CX N A D' m V tk := ⟨h.1, h.2.1.dd e1 e2, h.2.2⟩
/-- frames that don't matter -/
theorem IM.fr {S T : List Nat} (h : IM N B gr u g A D R m V tk hd hi tp tl) (e1 : cS D' 2508 = cS D 2508) (e2 : cA D' 29 = cA D 29) (f : Fn S T R R') (hS : ∀ j, j ∈ [1, 2, 3, 9, 10, 11, 12, 13, 14, 18, 20, 22, 25, 29, 33] → j ∉ S) (hT : ∀ k, k ∈ [6, 7, 8, 15, 17, 23, 24, 26, 27, 28, 30, 31, 32, 35, 36, 37, 38, 39, 40, 44, 46, 48] → k ∉ T) (k : Kep D D' R R') (h48 : 48 ∉ T) (e42 : cA D' 42 = cA D 42) : IM N B gr u g A D' R' m V tk hd hi tp tl := by
  obtain ⟨a1, a2, a3, a4, a5, a6, a7, a8, a9, a10⟩ := h
  exact ⟨⟨a1.1.dd e1 e2, a1.2.fr f hS hT⟩, a2, a3, fun z => ⟨(a4 z).1, (a4 z).2.fr f (hT 36 (by decide))⟩, a5, k.hr a6, a7, k.fx a8 (by rw [f.1.2.1 48 h48]; exact a8.2.2.2.2.2.2.2), a9, a10.1, a10.2.1, by rw [e42]; exact a10.2.2⟩
/-- a call begins: mounted it is -/
theorem IM.nm (hN : N ≤ 1024) (h : IM N B gr u g A D R m V tk hd hi tp tl) : d_X11_needMounted N B gr A D = some (.inl ((), A, D)) ∧ ∃ R', e_notMounted R = some (0, R') ∧ IM N B gr u g A D R' m V tk hd hi tp tl ∧ OwT A R' m V ∧ rS R' 0 = 0 ∧ (∀ c, c < 1024 → rA R' 49 c = 0) ∧ Fn [0, 33] [36, 49] R R' := by
  obtain ⟨a1, a2, a3, a4, a5, a6, a7, a8, a9, a10⟩ := h
  obtain ⟨b1, b2, b3, b4, b5, b6, b7, b8⟩ := a8
  constructor
  · rw [d_X11_needMounted, if_neg (by rw [b5.1]; decide)]
  · obtain ⟨R', c1, c2, c3, c4, c5, c6, c7⟩ := j_nm (g := g) hN a1 b7 b6 (fun z => ⟨(a10.1 z).2.1, (a10.1 z).2.2.1⟩)
    have kp : Kep D D R R' := Kep.of Dt.rf c5.1 (by decide) (by decide)
    have ow : OwT A R' m V := by
      cases g with
      | true => exact ⟨(a4 rfl).1, c6 _ (a4 rfl).2⟩
      | false => exact ⟨fun b hb => absurd ((a10.1 rfl).1.1 b) hb, fun b h1 hb => absurd (c7 rfl b h1) hb⟩
    exact ⟨R', c1, ⟨c2, a2, a3, fun _ => ow, a5, kp.hr a6, a7, kp.fx ⟨b1, b2, b3, b4, b5, b6, b7, b8⟩ (by rw [c5.1.2.1 48 (by decide)]; exact b8), a9, a10⟩, ow, c3, c4, c5⟩
/-- the tape is used -/
theorem IM.tape (h : IM N B gr u g A D R m V tk hd hi tp tl) : d_X11_useTape N (vA A) D = some (nI tl, sS D 1 0) ∧ e_useTape R = some (nI tl, setS R 5 0) ∧ IM N B gr u g A (sS D 1 0) (setS R 5 0) m V tk hd hi tp 0 := by
  obtain ⟨a1, a2, a3, a4, a5, a6, a7, ⟨b1, b2, b3, b4, b5, b6, b7, b8⟩, a9, a10⟩ := h
  have f : Fn [5] [] R (setS R 5 0) := Fn.s (by decide)
  have s2 : cS (sS D 1 0) 2 = cS D 2 := rfl
  refine ⟨by rw [d_X11_useTape, ptS, b2], by rw [e_useTape, ptR, b3], ⟨a1.1.dd (show cS (sS D 1 0) 2508 = cS D 2508 from rfl) rfl, a1.2.fr f (by decide) (by decide)⟩, a2, a3, fun z => ⟨(a4 z).1, (a4 z).2.fr f (by decide)⟩, a5, a6, a7, ⟨b1, pk_us (f := D.1) (k := 1), pk_us (f := R.1) (k := 5), by decide, ⟨by rw [s2]; exact b5.1, b5.2⟩, ?_, ?_, b8⟩, a9, a10⟩
  · rw [f.1.1 21 (by decide)]; exact b6
  · rw [f.1.1 34 (by decide)]; exact b7
def OffT (D : CfT) (R : RfT) : Prop := ∃ (tp : Nat → Int32) (tl : Nat), TpR D R tp ∧ cS D 1 = nI tl ∧ rS R 5 = nI tl ∧ tl ≤ 1024 ∧ Byt (cA D 42) ∧ Byt (cA D 53)
theorem Fx.off {o : Hw} (h : Fx N D R g tp tl) (h42 : Byt (cA D 42)) (d : Dt D D') (x : Dd N R o R') : OffT D' R' := by
  obtain ⟨⟨a1, a2, a3⟩, b2, b3, b4, b5, -⟩ := h
  have d42 : cA D' 42 = cA D 42 := d.2 42 (by decide)
  have d53 : cA D' 53 = cA D 53 := d.2 53 (by decide)
  have d1 : cA D' 1 = cA D 1 := d.2 1 (by decide)
  have s1 : cS D' 1 = cS D 1 := d.1 1 (by decide)
  exact ⟨tp, tl, ⟨a1, fun j => by rw [d1]; exact a2 j, fun j hj => by rw [x.1.2.2.2.2.2.2.2.2.2.2]; exact a3 j hj⟩, by rw [s1]; exact b2, by rw [x.1.2.2.2.2.2.2.2.2.2.1 5 (by decide)]; exact b3, b4, by rw [d42]; exact h42, by rw [d53]; exact b5.2⟩
/-- the power is off, with what a crash may leave in order -/
def Offd (N B gr u : Nat) (A : MS) (D : CfT) (R : RfT) : Prop := OffT D R ∧ (∃ R0, Dd N R0 A.1 R ∧ KC N B gr R0) ∧ SfT N u A D
theorem Offd.up {u' : Nat} (h : Offd N B gr u A D R) (hu : u ≤ u') : Offd N B gr u' A D R := ⟨h.1, h.2.1, h.2.2.up hu⟩
/-- whoever lost all names is held -/
def LH (V : Nat → Rw) (hd hi : Nat → Nat) : Prop := ∀ i, ir i → f1 V i 0 ≠ 0 → f1 V i 1 = 0 → tmM hd hi i ≠ 0
theorem LH.keep {V W : Nat → Rw} {hd hi : Nat → Nat} (h : LH V hd hi) (hk : ∀ j, ir j → f1 W j 0 = f1 V j 0 ∧ f1 W j 1 = f1 V j 1) : LH W hd hi := fun i hi0 h0 h1 => by
  rw [(hk i hi0).1] at h0
  rw [(hk i hi0).2] at h1
  exact h i hi0 h0 h1
theorem LH.mono {V : Nat → Rw} {hd hi hd' hi' : Nat → Nat} (h : LH V hd hi) (hm : ∀ j, ir j → tmM hd hi j ≠ 0 → tmM hd' hi' j ≠ 0) : LH V hd' hi' := fun i hi0 h0 h1 => hm i hi0 (h i hi0 h0 h1)
def Mtd (N B gr u : Nat) (A : MS) (D : CfT) (R : RfT) : Prop := ∃ (g : Bool) (m : M5) (V : Nat → Rw) (tk : Nat → Bool) (hd hi : Nat → Nat) (tp : Nat → Int32) (tl : Nat), IM N B gr u g A D R m V tk hd hi tp tl ∧ LH V hd hi
/-- both answer alike -/
def Ret {α : Type} (N B gr u : Nat) (ex : Nat → Int32) (cl : Option (FR α)) (rf : Option (α × RfT)) : Prop := (∃ x A' D' R', cl = some (.inl (x, A', D')) ∧ rf = some (x, R') ∧ rS R' 0 = 0 ∧ Mtd N B gr u A' D' R') ∨ (∃ A' D' R' v, cl = some (.inr (0, A', D')) ∧ rf = some (v, R') ∧ rS R' 0 = 2 ∧ Offd N B gr u A' D' R') ∨ (∃ c A' D' R' v, cl = some (.inr (c, A', D')) ∧ c ≠ 0 ∧ rf = some (v, R') ∧ rS R' 0 = ex c ∧ Mtd N B gr u A' D' R')
/-- both answer alike, and the power stays -/
def RetR {α : Type} (N B gr u : Nat) (ex : Nat → Int32) (cl : Option (FR α)) (rf : Option (α × RfT)) : Prop := (∃ x A' D' R', cl = some (.inl (x, A', D')) ∧ rf = some (x, R') ∧ rS R' 0 = 0 ∧ Mtd N B gr u A' D' R') ∨ (∃ c A' D' R' v, cl = some (.inr (c, A', D')) ∧ c ≠ 0 ∧ rf = some (v, R') ∧ rS R' 0 = ex c ∧ Mtd N B gr u A' D' R')
theorem RetR.ret {α : Type} {ex : Nat → Int32} {cl : Option (FR α)} {rf : Option (α × RfT)} (h : RetR N B gr u ex cl rf) : Ret N B gr u ex cl rf := h.elim Or.inl (fun z => Or.inr (Or.inr z))
theorem MB.up {u' : Nat} (h : MB N B gr u m) (hu : u ≤ u') : MB N B gr u' m := ⟨h.1, Nat.le_trans h.2.1 hu, h.2.2⟩
theorem IM.up {u' : Nat} (h : IM N B gr u g A D R m V tk hd hi tp tl) (hu : u ≤ u') : IM N B gr u' g A D R m V tk hd hi tp tl := ⟨h.1, h.2.1, h.2.2.1.up hu, h.2.2.2⟩
theorem IM.mtd {u' : Nat} (h : IM N B gr u g A D R m V tk hd hi tp tl) (hu : u ≤ u') (hL : LH V hd hi := by assumption) : Mtd N B gr u' A D R := ⟨g, m, V, tk, hd, hi, tp, tl, h.up hu, hL⟩
theorem Ret.ok {α : Type} {u' : Nat} {ex : Nat → Int32} {x : α} {cl : Option (FR α)} {rf : Option (α × RfT)} (h : IM N B gr u g A D R m V tk hd hi tp tl) (hu : u ≤ u') (h0 : rS R 0 = 0) (e1 : cl = some (.inl (x, A, D))) (e2 : rf = some (x, R)) (hL : LH V hd hi := by assumption) : Ret N B gr u' ex cl rf := Or.inl ⟨x, A, D, R, e1, e2, h0, h.mtd hu hL⟩
theorem RetR.ok {α : Type} {u' : Nat} {ex : Nat → Int32} {x : α} {cl : Option (FR α)} {rf : Option (α × RfT)} (h : IM N B gr u g A D R m V tk hd hi tp tl) (hu : u ≤ u') (h0 : rS R 0 = 0) (e1 : cl = some (.inl (x, A, D))) (e2 : rf = some (x, R)) (hL : LH V hd hi := by assumption) : RetR N B gr u' ex cl rf := Or.inl ⟨x, A, D, R, e1, e2, h0, h.mtd hu hL⟩
/-- finish, and the answer -/
theorem w_ret {v : Int32} {s0 : S3} {l : List Nat} {ow : Nat → Int} {ex : Nat → Int32} {cl : Option (FR Int32)} {rf : Option (Int32 × RfT)} (hN1 : 61 ≤ N) (hN : N ≤ 1024) (hgr : 1 ≤ gr) (hgr2 : gr ≤ 16) (hu : u + 4200 < 2 ^ 31) (h : WK N B gr r s0 l A D R m V tk ow) (hmb : MB N B gr u s0.1) (hst : St N B s0.1 (befM s0.1) (fun _ => false) s0.1 s0.2.1 s0.2.2) (hcg : g = false → ∃ l' : List Nat, l'.length ≤ 40 ∧ ∀ b, 43 ≤ b → b < N → Chg m V tk b → b ∈ l') (hV : WF N V) (h42 : Byt (cA D 42)) (hg : gA A = g) (hr : HRel D R hd hi) (hw : HdW V hd hi) (hf : Fx N D R g tp tl) (e1 : cl = bndF (d_X10_finish N B gr A D) (fun _ A' D' => some (.inl (v, A', D')))) (e2 : rf = bnd2 (e_committed R v) (fun a b => some (a, b))) (hL : LH V hd hi := by assumption) : Ret N B gr (u + 100) ex cl rf := by
  rcases w_end (v := v) hN1 hN hgr hgr2 hu h hmb hst hcg hV h42 hg hr hw hf with ⟨A', D', R', m', tk', a1, a2, a3, a4⟩ | ⟨A', D', R', a1, a2, a3, ⟨a4, a4'⟩, a5⟩
  · refine Or.inl ⟨v, A', D', R', ?_, ?_, a3, a4.mtd (Nat.le_refl _) hL⟩
    · rw [e1, bndF_l a1]
    · rw [e2, bnd2_o a2]
  · refine Or.inr (Or.inl ⟨A', D', R', 0, ?_, ?_, a3, hf.off h42 a5 a4, ⟨R, a4, h.1.2.kc⟩, a4'⟩)
    · rw [e1, bndF_r a1]
    · rw [e2, bnd2_o a2]
/-- no change at the start, where there is no group -/
theorem IM.ng (h : IM N B gr u g A D R m V tk hd hi tp tl) : g = false → ∀ b, 43 ≤ b → b < N → ¬ Chg m V tk b := fun z b b1 b2 hc => by
  obtain ⟨n1, n2, n3, n4⟩ := h.2.2.2.2.2.2.2.2.2.1 z
  rcases hc with q | q
  · rw [n3] at q
    cases q
  · exact q (n2 b b1 b2)
theorem IM.cg {A' : MS} {W : Nat → Rw} {m' : M5} {tk' : Nat → Bool} {l : List Nat} {ow : Nat → Int} (h : IM N B gr u g A D R m V tk hd hi tp tl) (w : WK N B gr r (m, V, tk) l A' D' R' m' W tk' ow) (hl : l.length ≤ 40) : g = false → ∃ l' : List Nat, l'.length ≤ 40 ∧ ∀ b, 43 ≤ b → b < N → Chg m' W tk' b → b ∈ l' := fun z => ⟨l, hl, fun b b1 b2 hc => (w.2.2.2.2.2 b b1 b2 hc).resolve_left (h.ng z b b1 b2)⟩
theorem IM.y42 (h : IM N B gr u g A D R m V tk hd hi tp tl) (e : Dt D D') : Byt (cA D' 42) := by
  rw [show cA D' 42 = cA D 42 from e.2 42 (by decide)]
  exact h.2.2.2.2.2.2.2.2.2.2.2
end PXJ
