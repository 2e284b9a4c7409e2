/-! ===== pure: the reference's view, and what changes it ===== -/
section PVB
variable {R : RfT} {N B gr : Nat}
abbrev M5 : Type := Hw × List En × Int32 × List QC × (Nat → Nat)
def befM (m : M5) (b : Nat) : Rw := befV m.1 m.2.1 m.2.2.2.1 b
/-- the reference, mounted, with power: all but its own rows -/
def RMw (N B gr : Nat) (R : RfT) (m : M5) : Prop := RH N B m.1 R ∧ RLg N R m.2.1 m.2.2.1 ∧ RQu N R m.2.2.2.1 ∧ RRs R m.2.2.2.2 ∧ WkO N R ∧ Byt (rA R 46) ∧ rS R 1 = nI N ∧ rS R 3 = nI gr
def RVt (N : Nat) (R : RfT) (V : Nat → Rw) (tk : Nat → Bool) : Prop := ∀ b, 43 ≤ b → b < N → rSee R true b = V b ∧ wTk R b = tk b
def RX (N B gr : Nat) (R : RfT) (m : M5) (V : Nat → Rw) (tk : Nat → Bool) : Prop := RMw N B gr R m ∧ RVt N R V tk
theorem RMw.lk {m : M5} (h : RMw N B gr R m) : lkA R := lk_all h.1 h.2.2.2.2.1 h.2.2.1 h.2.1
theorem RMw.by {m : M5} (h : RMw N B gr R m) : rBy R := by_all h.1 h.2.2.2.2.1 h.2.2.1 h.2.1
theorem RMw.wk {m : M5} (h : RMw N B gr R m) : WkO N R := h.2.2.2.2.1
theorem RMw.bef {m : M5} (h : RMw N B gr R m) (hN : N ≤ 1024) {b : Nat} (hb : b < N) : rSee R false b = befM m b := z_bef hN h.1 h.2.2.1 h.2.1 hb
theorem RMw.fn {S T : List Nat} {m : M5} {R' : RfT} (h : RMw N B gr R m) (f : Fn S T R R') (hw : WkO N R') (hS : ∀ j, j ∈ [1, 2, 3, 9, 10, 11, 12, 13, 14, 18, 20, 22, 25, 29] → j ∉ S) (hT : ∀ k, k ∈ [6, 7, 8, 15, 17, 23, 24, 26, 27, 28, 35, 37, 38, 39, 40, 44, 46] → k ∉ T) : RMw N B gr R' m := by
  obtain ⟨h1, h2, h3, h4, h5, h6, h7, h8⟩ := h
  refine ⟨h1.fn f (fun j hj => hS j ?_) (fun k hk => hT k ?_), h2.fq f.1 (hS 22 (by decide)) (hS 25 (by decide)) (hT 23 (by decide)) (hT 24 (by decide)) (hT 38 (by decide)), h3.fq f.1 (hS 29 (by decide)) (hT 26 (by decide)) (hT 27 (by decide)) (hT 28 (by decide)) (hT 37 (by decide)), h4.fq f.1 (hT 35 (by decide)), hw, by rw [f.1.2.1 46 (hT 46 (by decide))]; exact h6, by rw [f.1.1 1 (hS 1 (by decide))]; exact h7, by rw [f.1.1 3 (hS 3 (by decide))]; exact h8⟩
  · simp only [List.mem_cons, List.not_mem_nil, or_false] at hj ⊢
    omega
  · simp only [List.mem_cons, List.not_mem_nil, or_false] at hk ⊢
    omega
def vU (V : Nat → Rw) (b : Nat) (y : Rw) : Nat → Rw := fun c => if c = b then y else V c
theorem vU_s {V : Nat → Rw} {b : Nat} {y : Rw} : vU V b y b = y := if_pos rfl
theorem vU_n {V : Nat → Rw} {b c : Nat} {y : Rw} (h : c ≠ b) : vU V b y c = V c := if_neg h
def tU (tk : Nat → Bool) (b : Nat) (v : Bool) : Nat → Bool := fun c => if c = b then v else tk c
/-- rows come out of own rows -/
theorem RX.up {m : M5} {V : Nat → Rw} {tk : Nat → Bool} {R' : RfT} {b : Nat} {y : Rw} (hN : N ≤ 1024) (h : RX N B gr R m V tk) (f : Fn [33] [30, 31, 32, 36, 43] R R') (hw : WkO N R') (h1 : ∀ c, c < 1024 → wOw R' c = if c = b then some y else wOw R c) (h2 : ∀ c, c < 1024 → wTk R' c = wTk R c) : RX N B gr R' m (vU V b y) tk := by
  refine ⟨h.1.fn f hw (by decide) (by decide), fun c hc0 hc => ?_⟩
  have e := rSee_ff f.1 (by decide)
  rw [rSee_t, h1 c (by omega), h2 c (by omega), e]
  obtain ⟨q1, q2⟩ := h.2 c hc0 hc
  rw [rSee_t] at q1
  by_cases cc : c = b
  · rw [if_pos cc, cc, vU_s]
    rw [cc] at q2
    exact ⟨rfl, q2⟩
  · rw [if_neg cc, vU_n cc]
    exact ⟨q1, q2⟩
theorem wB_fl {g : Nat → Int32} {k p : Nat} {v : Int32} {j i : Nat} (hi : i < 128) : ∀ n, p + n ≤ 128 → fl (wB g (128 * k + p) v n) j i = if j = k then wB (fl g k) p v n i else fl g j i
  | 0, _ => by
    show fl g j i = if j = k then fl g k i else fl g j i
    split
    · next h => rw [h]
    · rfl
  | n + 1, h => by
    have ih := wB_fl (g := g) (k := k) (p := p) (v := v) (j := j) hi n (by omega)
    show upd (wB g (128 * k + p) v n) (128 * k + p + n) (vp_nar .byte (bK v n)) (128 * j + i) = if j = k then upd (wB (fl g k) p v n) (p + n) (vp_nar .byte (bK v n)) i else fl g j i
    have ih : wB g (128 * k + p) v n (128 * j + i) = _ := ih
    by_cases c : j = k
    · rw [if_pos c] at ih ⊢
      subst c
      by_cases c2 : i = p + n
      · rw [c2, pk_us, show 128 * j + (p + n) = 128 * j + p + n by omega, pk_us]
      · rw [pk_un (show 128 * j + i ≠ 128 * j + p + n by omega), pk_un c2, ih]
    · rw [if_neg c] at ih ⊢
      rw [pk_un (by omega), ih]
theorem Byt.wB {g : Nat → Int32} {p : Nat} {v : Int32} (h : Byt g) : ∀ n, Byt (wB g p v n)
  | 0 => h
  | n + 1 => (Byt.wB h n).upd8
theorem wB_nr {g : Nat → Int32} {p : Nat} {v : Int32} : ∀ n, nr (wB (nr g) p v n) = nr (wB g p v n) := fun n => nr_eq (fun i hi => by
  induction n with
  | zero => exact nr_at hi
  | succ n ih =>
    show upd (_root_.Jvm.Pilot.CLedgerFilesLaw_law_r8562_7928c8.wB (nr g) p v n) (p + n) _ i = upd (_root_.Jvm.Pilot.CLedgerFilesLaw_law_r8562_7928c8.wB g p v n) (p + n) _ i
    by_cases c : i = p + n
    · rw [c, pk_us, pk_us]
    · rw [pk_un c, pk_un c, ih])
theorem z_setNumber {m : M5} {V : Nat → Rw} {tk : Nat → Bool} (hN : N ≤ 1024) (h : RX N B gr R m V tk) {b p n : Nat} {v : Int32} (hb0 : 43 ≤ b) (hb : b < N) (hn : n ≤ 4) (hp : p + n ≤ 128) : ∃ R', e_setNumber R (nI b) (nI p) (nI n) v = some R' ∧ RX N B gr R' m (vU V b (nr (wB (V b) p v n))) tk ∧ Fn [33] [30, 31, 32, 36, 43] R R' ∧ ∀ c, c < 1024 → wOw R' c ≠ none → c = b ∨ wOw R c ≠ none := by
  obtain ⟨k, R1, e1, k1, k2, w1, w2, w3, f1⟩ := z_work hN h.1.lk h.1.by h.1.wk hb
  have hs := z_set71 (R := R1) (p := 128 * k + p) (n := n) (v := v) hn (by omega)
  rw [e_setNumber, bnd2_o e1, nI_add, bnd_o hs]
  have fS : Fn [33] [30, 31, 32, 36, 43] R1 (setA R1 32 (wB (rA R1 32) (128 * k + p) v n)) := Fn.a (by decide)
  obtain ⟨n', n1, n2, n3, n4, n5, n6⟩ := id w1
  have hin : ∀ c, c < 1024 → c ≠ b → ¬ rA R1 36 c = -1 → (rA R1 36 c).toNatClampNeg ≠ k := fun c hc hcb hne z => by
    rcases n4 c hc with y | ⟨j, j1, j2, j3⟩
    · exact hne y
    · rw [j2, nI_clamp (by omega)] at z
      rw [z] at j3
      rcases n4 b (by omega) with y | ⟨i, i1, i2, i3⟩
      · rw [k2] at y
        exact nI_m1 (by omega) y
      · have e : i = k := nI_inj (by omega) (by omega) (i2.symm.trans k2)
        rw [e, j3] at i3
        exact hcb (nI_inj (by omega) (by omega) i3)
  have hw2 : WkO N (setA R1 32 (wB (rA R1 32) (128 * k + p) v n)) := ⟨n', n1, n2, n3, n4, n5.wB n, n6⟩
  have hO : ∀ c, c < 1024 → wOw (setA R1 32 (wB (rA R1 32) (128 * k + p) v n)) c = if c = b then some (nr (wB (V b) p v n)) else wOw R c := fun c hc => by
    have q := w2 c hc
    unfold wOw at q ⊢
    show (if rA R1 36 c = -1 then none else some (nr (fl (wB (rA R1 32) (128 * k + p) v n) (rA R1 36 c).toNatClampNeg))) = _
    by_cases cb : c = b
    · rw [if_pos cb] at q ⊢
      rw [cb] at q ⊢
      rw [k2, if_neg (nI_m1 (by omega)), nI_clamp (by omega)] at q ⊢
      have q := Option.some.inj q
      rw [← (h.2 b hb0 hb).1, ← q, wB_nr]
      congr 1
      exact nr_eq (fun i hi => by rw [wB_fl hi n hp, if_pos rfl])
    · rw [if_neg cb] at q ⊢
      rw [← q]
      by_cases c1 : rA R1 36 c = -1
      · rw [if_pos c1, if_pos c1]
      · rw [if_neg c1, if_neg c1]
        congr 1
        exact nr_eq (fun i hi => by rw [wB_fl hi n hp, if_neg (hin c hc cb c1)])
  refine ⟨_, rfl, RX.up hN h (f1.tr fS) hw2 hO (fun c hc => w3 c hc), f1.tr fS, fun c hc hne => ?_⟩
  rw [hO c hc] at hne
  by_cases cb : c = b
  · exact Or.inl cb
  · rw [if_neg cb] at hne
    exact Or.inr hne
end PVB
