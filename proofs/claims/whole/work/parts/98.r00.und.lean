/-! ===== pure: not mounted, or the power off ===== -/
section PZR
variable {N B gr u : Nat} {A : MS} {D D' : CfT} {R R' : RfT} {o : Hw} {R0 : RfT}
/-- the class, the power on, nothing mounted -/
def AU (N B gr : Nat) (A : MS) (C : CfT) : Prop := HwR N B 1 A.1 C ∧ HOk N B A.1 ∧ Byt (cA C 15) ∧ (∀ r, r < gr * 40 → Byt (cR C 4 r)) ∧ RsR N C A.2.2.2.2.1 ∧ VwW N C A.2.2.2.2.2.1 A.2.2.2.2.2.2.1 ∧ cS C 2511 = (if A.2.2.2.2.2.2.2 then 1 else 0)
/-- the reference, likewise -/
def RN (N B gr : Nat) (hw : Hw) (R : RfT) : Prop := RH N B hw R ∧ WkO N R ∧ RQu N R [] ∧ rS R 1 = nI N ∧ rS R 3 = nI gr ∧ rS R 21 = 0 ∧ rS R 34 = 0
def Und (N B gr u : Nat) (A : MS) (D : CfT) (R : RfT) : Prop := OffT D R ∧ cS D 2 = 0 ∧ RN N B gr A.1 R ∧ Quiet N A.1 ∧ SfT N u A D
theorem WkO.z (h32 : Byt (rA R 32)) (hx : ByX R) (h33 : rS R 33 = 0) (h36 : ∀ b, b < 1024 → rA R 36 b = -1) : WkO N R := ⟨0, Nat.zero_le _, h33, fun k hk => absurd hk (Nat.not_lt_zero _), fun b hb => Or.inl (h36 b hb), h32, fun k hk => absurd hk (Nat.not_lt_zero _), hx⟩
theorem Dd.wk (h : Dd N R0 o R) : WkO N R := by
  obtain ⟨⟨a1, a2, a3, a5, a6, a7, a8, a9, a10, a11, a12⟩, -, B, -, d1, d2⟩ := h
  exact WkO.z d1 d2 a6 (fun b hb => (a8 b hb).2.1)
theorem Dd.self (h : Dd N R0 o R) : Dd N R o R := by
  obtain ⟨⟨a1, a2, a3, a5, a6, a7, a8, a9, a10, a11, a12⟩, h2⟩ := h
  exact ⟨⟨a1, a2, a3, a5, a6, a7, a8, a9, a10, fun _ _ => rfl, rfl⟩, h2⟩
theorem Dd.kc (h : Dd N R0 o R) (k : KC N B gr R0) : KC N B gr R := by
  obtain ⟨⟨a1, a2, a3, a5, a6, a7, a8, a9, a10, a11, a12⟩, h2⟩ := h
  obtain ⟨k1, k2, k3⟩ := k
  exact ⟨by rw [a11 1 (by decide)]; exact k1, by rw [a11 2 (by decide)]; exact k2, by rw [a11 3 (by decide)]; exact k3⟩
theorem Offd.n (h : Offd N B gr u A D R) : OffT D R ∧ Dd N R A.1 R ∧ KC N B gr R ∧ SfT N u A D := by
  obtain ⟨h1, ⟨R0, h2, h3⟩, h4⟩ := h
  exact ⟨h1, h2.self, h2.kc h3, h4⟩
theorem Offd.of (h1 : OffT D R) (h2 : Dd N R A.1 R) (h3 : KC N B gr R) (h4 : SfT N u A D) : Offd N B gr u A D R := ⟨h1, ⟨R, h2, h3⟩, h4⟩
/-- a call that finds nothing mounted -/
theorem z_nmU (hN : N ≤ 1024) (hw : WkO N R) (h21 : rS R 21 = 0) (h34 : rS R 34 = 0) : ∃ R', e_notMounted R = some (1, R') ∧ rS R' 0 = 1 ∧ Fn [0, 33] [36, 49] R R' ∧ rS R' 33 = 0 ∧ ∀ b, b < 1024 → rA R' 36 b = -1 := by
  obtain ⟨R1, e1, f1, z1⟩ := z_nm_l (R := R) fuL 0 R (by decide) (by rw [fuL_4]; omega) Fn.rf (fun c hc => absurd hc (Nat.not_lt_zero _))
  have hw1 : WkO N R1 := hw.fq f1.1 (by decide) (by decide) (by decide) (by decide) (by decide)
  obtain ⟨n, n1, n2, n3, n4, n5, n6⟩ := id hw1
  obtain ⟨R2, e2, f2, s2, a2⟩ := z_noWorks_l n2 n1 (fun k hk => by
    obtain ⟨t, t1, t2, -⟩ := n3 k hk
    exact ⟨t, by omega, t2⟩) fuL 0 R1 (Nat.zero_le _) (by rw [fuL_4]; omega) Fn.rf (fun b hb => by rw [if_neg (fun ⟨i, i1, _⟩ => absurd i1 (Nat.not_lt_zero _))])
  have e2 : e_noWorks R1 = some R2 := e2
  have f3 : Fn [0] [] R2 (setS R2 0 1) := Fn.s (by decide)
  refine ⟨setS R2 0 1, ?_, pk_us (f := R2.1) (k := 0), ((f1.wk (by decide) (by decide)).tr (f2.wk (by decide) (by decide))).tr (f3.wk (by decide) (by decide)), s2, fun b hb => ?_⟩
  · rw [e_notMounted, show (0 : Int32) = nI 0 from rfl, e1, e_notMounted_2, if_pos (show (1024 : Int32) ≤ nI 1024 from nI_le (a := 1024) (b := 1024) (by decide) (by decide)), if_pos (by rw [f1.1.1 34 (by decide)]; exact h34), bnd_o e2, if_pos (by rw [f2.1.1 21 (by decide), f1.1.1 21 (by decide)]; exact h21)]
    rfl
  · show rA R2 36 b = -1
    rw [a2 b hb]
    by_cases c : ∃ i, i < n ∧ rA R1 30 i = nI b
    · rw [if_pos c]
    · rw [if_neg c]
      rcases n4 b hb with z | ⟨k, k1, k2, k3⟩
      · exact z
      · exact absurd ⟨k, k1, k3⟩ c
theorem Dd.nm (h : Dd N R o R) (f : Fn [0, 33] [36, 49] R R') (s : rS R' 33 = 0) (a : ∀ b, b < 1024 → rA R' 36 b = -1) : Dd N R' o R' := by
  obtain ⟨⟨a1, a2, a3, a5, a6, a7, a8, a9, a10, a11, a12⟩, ⟨wf, w, b1, b2, b3, b4, b5, b6, b7, b8, b9⟩, B, ⟨wf', w', hd', n', c1, c2⟩, d1, d2⟩ := h
  have S : ∀ j, j ∉ [0, 33] → rS R' j = rS R j := f.1.1
  have T : ∀ k, k ∉ [36, 49] → rA R' k = rA R k := f.1.2.1
  refine ⟨⟨by rw [S 11 (by decide)]; exact a1, by rw [S 21 (by decide)]; exact a2, by rw [S 18 (by decide)]; exact a3, by rw [S 29 (by decide)]; exact a5, s, by rw [S 34 (by decide)]; exact a7, fun b hb => ⟨by rw [T 35 (by decide)]; exact (a8 b hb).1, a b hb, by rw [T 37 (by decide)]; exact (a8 b hb).2.2.1, by rw [T 38 (by decide)]; exact (a8 b hb).2.2.2.1, by rw [T 39 (by decide)]; exact (a8 b hb).2.2.2.2⟩, fun i hi => by rw [T 52 (by decide)]; exact a9 i hi, fun i hi => by rw [T 53 (by decide)]; exact a10 i hi, fun _ _ => rfl, rfl⟩, ⟨wf, w, b1.same (T 40 (by decide)) (T 7 (by decide)) (T 6 (by decide)) (T 8 (by decide)), by rw [S 9 (by decide), S 10 (by decide)]; exact b2, by rw [T 7 (by decide)]; exact b3, by rw [S 13 (by decide)]; exact b4, by rw [S 14 (by decide)]; exact b5, by rw [S 11 (by decide)]; exact b6, by rw [S 12 (by decide)]; exact b7, by rw [S 20 (by decide)]; exact b8, by rw [f.2.1]; exact b9⟩, B, ⟨wf', w', hd', 0, ?_, Nat.zero_le _, s, fun k hk => absurd hk (Nat.not_lt_zero _)⟩, by rw [T 32 (by decide)]; exact d1, d2.eq (fun k hk => T k (by revert hk; revert k; decide))⟩
  unfold rDb at c1 ⊢
  rw [S 9 (by decide), S 10 (by decide), S 2 (by decide), S 18 (by decide), T 7 (by decide), T 40 (by decide), T 6 (by decide), T 8 (by decide), T 17 (by decide), T 44 (by decide), T 15 (by decide), T 39 (by decide)]
  exact c1
theorem KC.fr {S T : List Nat} (k : KC N B gr R) (f : Fn S T R R') (h1 : 1 ∉ S) (h2 : 2 ∉ S) (h3 : 3 ∉ S) : KC N B gr R' := ⟨by rw [f.1.1 1 h1]; exact k.1, by rw [f.1.1 2 h2]; exact k.2.1, by rw [f.1.1 3 h3]; exact k.2.2⟩
theorem OffT.fr {S T : List Nat} (h : OffT D R) (f : Fn S T R R') (h5 : 5 ∉ S) (h4 : 4 ∉ T) : OffT D R' := by
  obtain ⟨tp, tl, ⟨t1, t2, t3⟩, a2, a3, a4, a5, a6⟩ := h
  exact ⟨tp, tl, ⟨t1, t2, fun j hj => by rw [f.1.2.1 4 h4]; exact t3 j hj⟩, a2, by rw [f.1.1 5 h5]; exact a3, a4, a5, a6⟩
theorem OffT.tape (h : OffT D R) : OffT (sS D 1 0) (setS R 5 0) := by
  obtain ⟨tp, tl, ⟨t1, t2, t3⟩, a2, a3, a4, a5, a6⟩ := h
  exact ⟨tp, 0, ⟨t1, t2, t3⟩, pk_us (f := D.1) (k := 1), pk_us (f := R.1) (k := 5), by decide, a5, a6⟩
theorem SfT.tape (h : SfT N u A D) : SfT N u A (sS D 1 0) := ⟨h.1, h.2.dd (show cS (sS D 1 0) 2508 = cS D 2508 from rfl) rfl⟩
theorem Dd.tape (h : Dd N R o R) : Dd N (setS R 5 0) o (setS R 5 0) := by
  obtain ⟨⟨a1, a2, a3, a5, a6, a7, a8, a9, a10, a11, a12⟩, h2, h3⟩ := h
  exact ⟨⟨a1, a2, a3, a5, a6, a7, a8, a9, a10, fun _ _ => rfl, rfl⟩, h2, h3⟩
theorem RN.tape (h : RN N B gr o R) : RN N B gr o (setS R 5 0) := by
  obtain ⟨h1, h2, h3, h4⟩ := h
  have f : Fn [5] [] R (setS R 5 0) := Fn.s (by decide)
  exact ⟨h1.fn f (by decide) (by decide), h2.fq f.1 (by decide) (by decide) (by decide) (by decide) (by decide), h3.fq f.1 (by decide) (by decide) (by decide) (by decide) (by decide), h4⟩
theorem RN.nm (h : RN N B gr o R) (f : Fn [0, 33] [36, 49] R R') (s : rS R' 33 = 0) (a : ∀ b, b < 1024 → rA R' 36 b = -1) : RN N B gr o R' := by
  obtain ⟨h1, h2, h3, h4, h5, h6, h7⟩ := h
  exact ⟨h1.fn f (by decide) (by decide), WkO.z (by rw [f.1.2.1 32 (by decide)]; exact h2.b32) (h2.x.eq (fun k hk => f.1.2.1 k (by revert hk; revert k; decide))) s a, h3.fq f.1 (by decide) (by decide) (by decide) (by decide) (by decide), by rw [f.1.1 1 (by decide)]; exact h4, by rw [f.1.1 3 (by decide)]; exact h5, by rw [f.1.1 21 (by decide)]; exact h6, by rw [f.1.1 34 (by decide)]; exact h7⟩
/-- the calls that want it mounted: the reference refuses them -/
theorem Und.nm (hN : N ≤ 1024) (h : Und N B gr u A D R) : ∃ R', e_notMounted R = some (1, R') ∧ rS R' 0 = 1 ∧ Und N B gr u A D R' := by
  obtain ⟨h1, h2, h3, h4⟩ := h
  obtain ⟨R', e, e0, f, s, a⟩ := z_nmU hN h3.2.1 h3.2.2.2.2.2.1 h3.2.2.2.2.2.2
  exact ⟨R', e, e0, h1.fr f (by decide) (by decide), h2, h3.nm f s a, h4⟩
theorem Und.tape (h : Und N B gr u A D R) : Und N B gr u A (sS D 1 0) (setS R 5 0) := by
  obtain ⟨h1, h2, h3, h4, h5⟩ := h
  exact ⟨h1.tape, h2, h3.tape, h4, h5.tape⟩
theorem Offd.nm (hN : N ≤ 1024) (h : Offd N B gr u A D R) : ∃ R', e_notMounted R = some (1, R') ∧ rS R' 0 = 1 ∧ Offd N B gr u A D R' := by
  obtain ⟨h1, h2, h3, h4⟩ := h.n
  obtain ⟨R', e, e0, f, s, a⟩ := z_nmU hN h2.wk h2.1.2.1 h2.1.2.2.2.2.2.1
  exact ⟨R', e, e0, Offd.of (h1.fr f (by decide) (by decide)) (h2.nm f s a) (h3.fr f (by decide) (by decide) (by decide)) h4⟩
theorem Offd.tape (h : Offd N B gr u A D R) : Offd N B gr u A (sS D 1 0) (setS R 5 0) := by
  obtain ⟨h1, h2, h3, h4⟩ := h.n
  exact Offd.of h1.tape h2.tape h3 h4.tape
end PZR
