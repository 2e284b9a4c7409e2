/-! ===== pure: what goes away, in whatever order ===== -/
section PVO
variable {N B gr : Nat}
noncomputable def zr (y : Rw) (Z : Nat → Prop) : Rw := fun o => @ite _ (Z o) (Classical.propDecidable _) 0 (y o)
theorem zr_t {y : Rw} {Z : Nat → Prop} {o : Nat} (h : Z o) : zr y Z o = 0 := if_pos h
theorem zr_f {y : Rw} {Z : Nat → Prop} {o : Nat} (h : ¬ Z o) : zr y Z o = y o := if_neg h
theorem zr_zr {y : Rw} {Z Z2 : Nat → Prop} : zr (zr y Z) Z2 = zr y (fun o => Z o ∨ Z2 o) := by
  funext o
  by_cases c2 : Z2 o
  · rw [zr_t c2, zr_t (show Z o ∨ Z2 o from Or.inr c2)]
  · rw [zr_f c2]
    by_cases c : Z o
    · rw [zr_t c, zr_t (show Z o ∨ Z2 o from Or.inl c)]
    · rw [zr_f c, zr_f (show ¬ (Z o ∨ Z2 o) from fun z => z.elim c c2)]
theorem zr_0 {y : Rw} : zr y (fun _ => False) = y := by
  funext o
  exact zr_f (fun z => z)
theorem zr_nr {y : Rw} {Z : Nat → Prop} (h : nr y = y) : nr (zr y Z) = zr y Z := by
  funext o
  by_cases c : o < 128
  · exact nr_at c
  · rw [show nr (zr y Z) o = 0 from if_neg c]
    have e : y o = 0 := by
      rw [← h]
      exact if_neg c
    by_cases c2 : Z o
    · rw [zr_t c2]
    · rw [zr_f c2, e]
theorem zr_b {y : Rw} {Z : Nat → Prop} (h : Byt y) : Byt (zr y Z) := fun o => by
  by_cases c : Z o
  · rw [zr_t c]
    decide
  · rw [zr_f c]
    exact h o
theorem wB_z {y : Rw} {p n : Nat} (hn : n ≤ 4) (hp : p + n ≤ 128) (h : nr y = y) : nr (wB y p 0 n) = zr y (fun o => p ≤ o ∧ o < p + n) := by
  have key : ∀ n, n ≤ 4 → wB y p 0 n = zr y (fun o => p ≤ o ∧ o < p + n) := fun n => by
    induction n with
    | zero =>
      intro _
      funext o
      rw [zr_f (show ¬ (p ≤ o ∧ o < p + 0) by omega)]
      rfl
    | succ n ih =>
      intro hn
      have e := ih (by omega)
      show upd (wB y p 0 n) (p + n) (vp_nar .byte (bK 0 n)) = _
      have hb : vp_nar .byte (bK 0 n) = 0 := by
        have : n = 0 ∨ n = 1 ∨ n = 2 ∨ n = 3 := by omega
        rcases this with rfl | rfl | rfl | rfl <;> decide
      rw [e, hb]
      funext o
      by_cases c : o = p + n
      · rw [c, pk_us, zr_t (show p ≤ p + n ∧ p + n < p + (n + 1) by omega)]
      · rw [pk_un c]
        by_cases c2 : p ≤ o ∧ o < p + n
        · rw [zr_t c2, zr_t (show p ≤ o ∧ o < p + (n + 1) by omega)]
        · rw [zr_f c2, zr_f (show ¬ (p ≤ o ∧ o < p + (n + 1)) by omega)]
  rw [key n hn, zr_nr h]
theorem flt_z {y : Rw} {a z : Nat} (hz : z ≤ 128) (h : nr y = y) : nr (flt y a z (vp_nar .byte 0)) = zr y (fun o => a ≤ o ∧ o < z) := by
  rw [nar0]
  have e : flt y a z 0 = zr y (fun o => a ≤ o ∧ o < z) := by
    funext o
    unfold flt
    by_cases c : a ≤ o ∧ o < z
    · rw [if_pos c, zr_t c]
    · rw [if_neg c, zr_f c]
  rw [e, zr_nr h]
theorem byt_8 {x : Int32} (h : fits .byte (.int x) = true) : x.toInt8.toInt32 = x := nar8 h
theorem bits_eq {u v : Nat} (hu : u < 256) (hv : v < 256) (h : ∀ t, t < 8 → u / 2 ^ t % 2 = v / 2 ^ t % 2) : u = v := by
  have h0 : u / 1 % 2 = v / 1 % 2 := h 0 (by decide)
  have h1 : u / 2 % 2 = v / 2 % 2 := h 1 (by decide)
  have h2 : u / 4 % 2 = v / 4 % 2 := h 2 (by decide)
  have h3 : u / 8 % 2 = v / 8 % 2 := h 3 (by decide)
  have h4 : u / 16 % 2 = v / 16 % 2 := h 4 (by decide)
  have h5 : u / 32 % 2 = v / 32 % 2 := h 5 (by decide)
  have h6 : u / 64 % 2 = v / 64 % 2 := h 6 (by decide)
  have h7 : u / 128 % 2 = v / 128 % 2 := h 7 (by decide)
  omega
theorem row_ext {y z : Rw} (hy : Byt y) (hz : Byt z) (ny : nr y = y) (nz : nr z = z) (h : ∀ b, b < 1024 → btM y b = btM z b) : y = z := by
  rw [← ny, ← nz]
  refine nr_eq (fun i hi => ?_)
  have hu : ub y i = ub z i := by
    refine bits_eq (ub_lt _ _) (ub_lt _ _) (fun t ht => ?_)
    have := h (8 * i + t) (by omega)
    unfold btM at this
    rw [show (8 * i + t) / 8 = i by omega, show (8 * i + t) % 8 = t by omega] at this
    exact this
  rw [← byt_8 (hy i), ← byt_8 (hz i)]
  exact i8_c hu
noncomputable def rF (F : Nat → Prop) (rs : Nat → Nat) : Nat → Nat := fun b => @ite _ (F b) (Classical.propDecidable _) 2 (rs b)
noncomputable def tF (F : Nat → Prop) (tk : Nat → Bool) : Nat → Bool := fun b => @ite _ (F b) (Classical.propDecidable _) false (tk b)
/-- blocks F were freed, bytes Z became 0 -/
def ZS (N : Nat) (m : M5) (V : Nat → Rw) (tk : Nat → Bool) (F : Nat → Prop) (Z : Nat → Nat → Prop) (m' : M5) (V' : Nat → Rw) (tk' : Nat → Bool) : Prop := m' = mRs m (rF F m.2.2.2.2) ∧ tk' = tF F tk ∧ (∀ c, 44 ≤ c → c < N → (F c → V' c = befM m c) ∧ (¬ F c → V' c = zr (V c) (Z c))) ∧ Byt (V' 43) ∧ nr (V' 43) = V' 43 ∧ ∀ b, b < 1024 → (F b → btM (V' 43) b = 0) ∧ (¬ F b → btM (V' 43) b = btM (V 43) b)
theorem ZS.nil {m : M5} {V : Nat → Rw} {tk : Nat → Bool} (h1 : Byt (V 43)) (h2 : nr (V 43) = V 43) : ZS N m V tk (fun _ => False) (fun _ _ => False) m V tk := by
  refine ⟨?_, ?_, fun c _ _ => ⟨fun z => z.elim, fun _ => zr_0.symm⟩, h1, h2, fun b _ => ⟨fun z => z.elim, fun _ => rfl⟩⟩
  · have e : rF (fun _ => False) m.2.2.2.2 = m.2.2.2.2 := by
      funext b
      exact if_neg (fun z => z)
    rw [e]
    rfl
  · funext b
    exact (if_neg (fun z => z)).symm
theorem nr_bs {y : Rw} {c : Nat} {on : Bool} : nr (bsW y c on) = bsW y c on := nr_eq (fun i hi => nr_at hi)
theorem byt_nr {g : Nat → Int32} (h : Byt g) : Byt (nr g) := fun i => by
  unfold nr
  split
  · exact h i
  · decide
theorem byt_bs {y : Rw} {c : Nat} {on : Bool} (h : Byt y) : Byt (bsW y c on) := byt_nr (h.wB 1)
theorem ZS.free {m m' : M5} {V V' : Nat → Rw} {tk tk' : Nat → Bool} {F : Nat → Prop} {Z : Nat → Nat → Prop} (h : ZS N m V tk F Z m' V' tk') {b : Nat} (hN : N ≤ 1024) (h1 : 61 ≤ b) (h2 : b < N) : ZS N m V tk (fun c => F c ∨ c = b) Z (frM5 m' b) (frV m' V' b) (tU tk' b false) := by
  obtain ⟨a1, a2, a3, a4, a5, a6⟩ := h
  have e43 : frV m' V' b 43 = bsW (V' 43) b false := (vU_n (by omega)).trans vU_s
  have eb : befM m' = befM m := by
    rw [a1]
    rfl
  refine ⟨?_, ?_, fun c hc0 hc => ⟨fun z => ?_, fun z => ?_⟩, ?_, ?_, fun d hd => ⟨fun z => ?_, fun z => ?_⟩⟩
  · rw [a1]
    have e : (fun c => if c = b then 2 else rF F m.2.2.2.2 c) = rF (fun c => F c ∨ c = b) m.2.2.2.2 := by
      funext c
      unfold rF
      by_cases cb : c = b
      · rw [if_pos cb, if_pos (show F c ∨ c = b from Or.inr cb)]
      · rw [if_neg cb]
        by_cases cf : F c
        · rw [if_pos cf, if_pos (show F c ∨ c = b from Or.inl cf)]
        · rw [if_neg cf, if_neg (show ¬ (F c ∨ c = b) from fun z => z.elim cf cb)]
    show mRs m (fun c => if c = b then 2 else rF F m.2.2.2.2 c) = _
    rw [e]
  · rw [a2]
    funext c
    unfold tU tF
    by_cases cb : c = b
    · rw [if_pos cb, if_pos (show F c ∨ c = b from Or.inr cb)]
    · rw [if_neg cb]
      by_cases cf : F c
      · rw [if_pos cf, if_pos (show F c ∨ c = b from Or.inl cf)]
      · rw [if_neg cf, if_neg (show ¬ (F c ∨ c = b) from fun z => z.elim cf cb)]
  · by_cases cb : c = b
    · rw [cb, ← eb]
      exact vU_s
    · rw [show frV m' V' b c = V' c from (vU_n cb).trans (vU_n (by omega))]
      exact (a3 c hc0 hc).1 (z.elim id (fun y => absurd y cb))
  · have cb : c ≠ b := fun y => z (Or.inr y)
    rw [show frV m' V' b c = V' c from (vU_n cb).trans (vU_n (by omega))]
    exact (a3 c hc0 hc).2 (fun y => z (Or.inl y))
  · rw [e43]
    exact byt_bs a4
  · rw [e43]
    exact nr_bs
  · rw [e43, bt_bs (by omega) hd]
    by_cases db : d = b
    · rw [if_pos db]
      rfl
    · rw [if_neg db]
      exact (a6 d hd).1 (z.elim id (fun y => absurd y db))
  · have db : d ≠ b := fun y => z (Or.inr y)
    rw [e43, bt_bs (by omega) hd, if_neg db]
    exact (a6 d hd).2 (fun y => z (Or.inl y))
theorem ZS.zero {m m' : M5} {V V' : Nat → Rw} {tk tk' : Nat → Bool} {F : Nat → Prop} {Z : Nat → Nat → Prop} {Z2 : Nat → Prop} (h : ZS N m V tk F Z m' V' tk') {b : Nat} (h1 : 44 ≤ b) (hF : ¬ F b) : ZS N m V tk F (fun c o => Z c o ∨ (c = b ∧ Z2 o)) m' (vU V' b (zr (V' b) Z2)) tk' := by
  obtain ⟨a1, a2, a3, a4, a5, a6⟩ := h
  have e43 : vU V' b (zr (V' b) Z2) 43 = V' 43 := vU_n (by omega)
  refine ⟨a1, a2, fun c hc0 hc => ⟨fun z => ?_, fun z => ?_⟩, by rw [e43]; exact a4, by rw [e43]; exact a5, by rw [e43]; exact a6⟩
  · have cb : c ≠ b := fun y => hF (by rw [← y]; exact z)
    rw [vU_n cb]
    exact (a3 c hc0 hc).1 z
  · have q := (a3 c hc0 hc).2 z
    by_cases cb : c = b
    · rw [cb, vU_s]
      rw [cb] at q
      rw [q, zr_zr]
      congr 1
      funext o
      exact propext ⟨fun y => y.elim Or.inl (fun y => Or.inr ⟨rfl, y⟩), fun y => y.elim Or.inl (fun y => Or.inr y.2)⟩
    · rw [vU_n cb, q]
      congr 1
      funext o
      exact propext ⟨Or.inl, fun y => y.elim id (fun y => absurd y.1 cb)⟩
theorem ZS.uq {m m1 m2 : M5} {V V1 V2 : Nat → Rw} {tk tk1 tk2 : Nat → Bool} {F F2 : Nat → Prop} {Z Z2 : Nat → Nat → Prop} (h1 : ZS N m V tk F Z m1 V1 tk1) (h2 : ZS N m V tk F2 Z2 m2 V2 tk2) (hF : ∀ b, F b ↔ F2 b) (hZ : ∀ c o, 44 ≤ c → c < N → ¬ F c → o < 128 → (Z c o ↔ Z2 c o)) (hn : ∀ c, 44 ≤ c → c < N → nr (V c) = V c) : m1 = m2 ∧ tk1 = tk2 ∧ ∀ c, 43 ≤ c → c < N → V1 c = V2 c := by
  have eF : F = F2 := funext (fun b => propext (hF b))
  subst eF
  obtain ⟨a1, a2, a3, a4, a5, a6⟩ := h1
  obtain ⟨b1, b2, b3, b4, b5, b6⟩ := h2
  refine ⟨by rw [a1, b1], by rw [a2, b2], fun c hc0 hc => ?_⟩
  by_cases c43 : c = 43
  · rw [c43]
    refine row_ext a4 b4 a5 b5 (fun b hb => ?_)
    by_cases cf : F b
    · rw [(a6 b hb).1 cf, (b6 b hb).1 cf]
    · rw [(a6 b hb).2 cf, (b6 b hb).2 cf]
  · by_cases cf : F c
    · rw [(a3 c (by omega) hc).1 cf, (b3 c (by omega) hc).1 cf]
    · rw [(a3 c (by omega) hc).2 cf, (b3 c (by omega) hc).2 cf]
      have hnn := hn c (by omega) hc
      refine (zr_nr hnn).symm.trans (Eq.trans (nr_eq (fun o ho => ?_)) (zr_nr hnn))
      have q := hZ c o (by omega) hc cf ho
      by_cases cz : Z c o
      · rw [zr_t cz, zr_t (q.mp cz)]
      · rw [zr_f cz, zr_f (fun y => cz (q.mpr y))]
/-- what the two sides have is told by what is seen in the range alone -/
theorem RY.ag {R : RfT} {m : M5} {V V2 : Nat → Rw} {tk : Nat → Bool} (hN1 : 61 ≤ N) (h : RY N B gr R m V tk) (e : ∀ c, 43 ≤ c → c < N → V c = V2 c) : RY N B gr R m V2 tk := by
  obtain ⟨⟨h1, h2⟩, h3, h4⟩ := h
  have e43 := e 43 (Nat.le_refl _) (by omega)
  refine ⟨⟨h1, fun b hb0 hb => ?_⟩, ?_, by rw [← e43]; exact h4⟩
  · rw [← e b hb0 hb]
    exact h2 b hb0 hb
  · unfold RU at *
    rw [← e43]
    exact h3
theorem CX.ag {A : MS} {D : CfT} {m : M5} {V V2 : Nat → Rw} {tk : Nat → Bool} (hN1 : 61 ≤ N) (h : CX N A D m V tk) (e : ∀ c, 43 ≤ c → c < N → V c = V2 c) : CX N A D m V2 tk := by
  obtain ⟨a1, a2, a3, a4, a5, a6, a7⟩ := h
  have e43 := e 43 (Nat.le_refl _) (by omega)
  rw [e43] at a3 a4 a6 a7
  refine ⟨a1, a2, fun b hb0 hb => ?_, a4, a5, a6, a7⟩
  rw [← e b hb0 hb]
  exact a3 b hb0 hb
end PVO
