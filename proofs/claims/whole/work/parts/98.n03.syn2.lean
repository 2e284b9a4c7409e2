section DCN
/-- syncAll -/
def fSn (N B gr : Nat) (A : MS) (D : CfT) : Option (FR Unit) := if (aSn A.1).1 = true then some (.inl ((), ((aSn A.1).2, A.2), D)) else some (.inr (0, ((aSn A.1).2, A.2), D))
theorem LgD.sn {hw : Hw} {L : List En} (h : LgD hw L) (hp : (aSn hw).1 = true) : LgD (aSn hw).2 L := fun k hk => by
  obtain ⟨h1, h2, h3⟩ := h k hk
  obtain ⟨a1, a2, a3, a4⟩ := aSn_all (h := hw)
  refine ⟨⟨by rw [a3]; exact h1.1, fun p hp2 => ?_⟩, (a1 _).trans h2, h3⟩
  rw [a4 hp] at hp2
  cases hp2
theorem k_X2_syncAll (E : gE) (f : Nat → va_E) (N B gr : Nat) (C D : CfT) (A : MS) (hz : CfZ E N B gr) (h : CfV E f N B gr C) (hD : Dq D C) (hA : AR N B gr A C) (r : FR Unit) (hr : fSn N B gr A D = some r) : Ct E 7 yX2_syncAll cX2_syncAll 2 none [.ref (gAd E (2))] f (FQ E N B gr f (fun _ => none) r) := by
  obtain ⟨z1, z2, z3, z4, z5, z6, z7⟩ := id hz
  obtain ⟨h1, h2, h3, h4, ⟨en, h5⟩, h6, h7, h8, h9⟩ := id hA
  obtain ⟨hn, hc, hon⟩ := id h1
  obtain ⟨v1, v2⟩ := h.db hn
  rw [hon] at v1
  obtain ⟨⟨Dk, b0, le, wr, ss⟩, A2⟩ := A
  obtain ⟨cd, cb, dk, bk, bs, q1, q2, q3⟩ := id hc
  have q1 : le = cS C 209 := q1
  have q2 : wr = cS C 210 := q2
  have q3 : ss = cS C 211 := q3
  have q := c_X2_syncAll E f N (dkOf C) 1 _ _ _ (by omega) z2 v1 dk
  unfold fSn at hr
  by_cases c0 : le = 0
  · have eo : aSn (Dk, b0, le, wr, ss) = (false, Dk, b0, le, wr, ss) := if_pos c0
    rw [show (((Dk, b0, le, wr, ss), A2) : MS).1 = (Dk, b0, le, wr, ss) from rfl, eo] at hr
    have hr := (ite_f (show ¬ false = true by decide) hr)
    cases hr
    refine q.mono (fun v g q => absurd c0 (by rw [q1]; exact q.2.1)) (fun X g q => ?_)
    obtain ⟨e1, e2, e3, e4⟩ := q
    have fr : Fr (DBK N B) f g := e4.wk (fun _ z => Or.inl z)
    have cc : CH N B (hFl (Dk, b0, le, wr, ss)) (dkOf C, bfOf C, -1, cS C 210, cS C 211) := hc.dark
    have c1 := h.ofDb (s := (dkOf C, bfOf C, -1, cS C 210, cS C 211)) (on := 0) ⟨e3, v2.of (fun k hk => e4 k (fun z => by unfold DkK at z; unfold BfK at hk; omega))⟩ fr
    have c4 : Sm [0] C (cDb C 0 (dkOf C, bfOf C, -1, cS C 210, cS C 211)) := Sm.db
    have c5 := (c4.wk (L' := [0, 1]) (by decide)).q
    have e15 : cA (cDb C 0 (dkOf C, bfOf C, -1, cS C 210, cS C 211)) 15 = cA C 15 := c4.2.1 15 (by decide)
    exact FQ.no e1 ⟨_, c1, hD.q c5, hA.dk c5 (HwR.of cc) (by rw [e15]; exact h3.2.2.2.2.2), fr.wk (fun _ z => DBK_C z)⟩
  · have eo : aSn (Dk, b0, le, wr, ss) = (true, aSy Dk, b0, sLe le, wr, ss + 1) := if_neg c0
    have hl4 := h4.sn (by show (aSn (Dk, b0, le, wr, ss)).1 = true; rw [eo])
    rw [show (((Dk, b0, le, wr, ss), A2) : MS).1 = (Dk, b0, le, wr, ss) from rfl, eo] at hr hl4
    have hr := (ite_t rfl hr)
    cases hr
    refine q.mono (fun v g q => ?_) (fun X g q => absurd (q1.trans q.2.1) c0)
    obtain ⟨e1, e2, e3, e4⟩ := q
    have fr : Fr (DBK N B) f g := e4.wk (fun _ z => Or.inl z)
    have cc : CH N B (aSy Dk, b0, sLe le, wr, ss + 1) (dSync (dkOf C), bfOf C, sLe (cS C 209), cS C 210, cS C 211 + 1) := ⟨cd.sync z2, cb, dIter_ok z2 _ dk, bk, bs, by rw [q1], q2, by rw [q3]⟩
    have c1 := h.ofDb (s := (dSync (dkOf C), bfOf C, sLe (cS C 209), cS C 210, cS C 211 + 1)) (on := 1) ⟨e3, v2.of (fun k hk => e4 k (fun z => by unfold DkK at z; unfold BfK at hk; omega))⟩ fr
    have c4 : Sm [0] C (cDb C 1 (dSync (dkOf C), bfOf C, sLe (cS C 209), cS C 210, cS C 211 + 1)) := Sm.db
    have c5 := c4.wk (L' := [0, 1]) (by decide)
    exact FQ.ok e1 ⟨_, c1, hD.sm c5 (by decide), hA.hl c5 (HwR.of cc) h2 (h3.sm c4 (by decide)) hl4, fr.wk (fun _ z => DBK_C z)⟩
/-- the next block of the buffer from t on, k far -/
def nxF (bf : Nat → Option (Nat × Rw)) : Nat → Nat → Int32
  | 0, _ => -1
  | k + 1, t => match bf t with
    | some _ => nI t
    | none => nxF bf k (t + 1)
theorem nxF_ok {N : Nat} {bf : Nat → Option (Nat × Rw)} {x : Int32} : ∀ (k t : Nat), t + k = N → NxOk N bf t x → x = nxF bf k t
  | 0, t, e, h => by
    rcases h with ⟨h1, -⟩ | ⟨u, h1, h2, -⟩
    · exact h1
    · exact absurd h2 (by omega)
  | k + 1, t, e, h => by
    unfold nxF
    split
    · next y hy =>
      rcases h with ⟨h1, h2⟩ | ⟨u, h1, h2, h3, h4, h5⟩
      · rw [h2 t (Nat.le_refl _) (by omega)] at hy
        cases hy
      · by_cases c : u = t
        · rw [← c]
          exact h3
        · rw [h5 t (Nat.le_refl _) (by omega)] at hy
          cases hy
    · next hy =>
      refine nxF_ok (N := N) k (t + 1) (by omega) ?_
      rcases h with ⟨h1, h2⟩ | ⟨u, h1, h2, h3, h4, h5⟩
      · exact Or.inl ⟨h1, fun u a b => h2 u (by omega) b⟩
      · have : u ≠ t := fun z => h4 (by rw [z]; exact hy)
        exact Or.inr ⟨u, by omega, h2, h3, h4, fun v a b => h5 v (by omega) b⟩
def fNx (N B gr : Nat) (A : MS) (D : CfT) (i : Int32) : Option (FR Int32) := if i = -1 then some (.inl (nxF A.1.2.1.1 N 0, A, D)) else if i < 0 ∨ N ≤ i.toNatClampNeg then none else some (.inl (nxF A.1.2.1.1 (N - (i.toNatClampNeg + 1)) (i.toNatClampNeg + 1), A, D))
theorem k_X0_nextAbove (E : gE) (f : Nat → va_E) (N B gr : Nat) (C D : CfT) (A : MS) (hz : CfZ E N B gr) (h : CfV E f N B gr C) (hD : Dq D C) (hA : AR N B gr A C) (i : Int32) (r : FR Int32) (hr : fNx N B gr A D i = some r) : Ct E 1 yX0_nextAbove cX0_nextAbove 4 (some .int) [.ref (gAd E (8)), .int i] f (FQ E N B gr f (fun r => some (.int r)) r) := by
  obtain ⟨z1, z2, z3, z4, z5, z6, z7⟩ := id hz
  obtain ⟨hn, hc, hon⟩ := hA.1
  obtain ⟨v1, v2⟩ := h.db hn
  obtain ⟨⟨Dk, b0, le, wr, ss⟩, A2⟩ := A
  obtain ⟨cd, cb, dk, bk, bs, q1, q2, q3⟩ := id hc
  have q := c_X0_nextAbove E f N B (bfOf C) (by omega) z2 v2 bk i
  have key : ∀ t, t ≤ N → (∀ u, u < N → (i < nI u ↔ t ≤ u)) → bNext (cA C 11) (cA C 12) i B = nxF b0.1 (N - t) t := fun t ht hx => nxF_ok (N - t) t (by omega) (CBf.nx z2 bs bk cb i t hx)
  unfold fNx at hr
  split at hr
  · next e =>
    cases hr
    refine q.mono (fun v g q => ?_) (fun _ _ q => q.elim)
    obtain ⟨e1, e2⟩ := q
    have e3 := key 0 (Nat.zero_le _) (fun u hu => ⟨fun _ => Nat.zero_le _, fun _ => by rw [e]; exact Int32.lt_of_lt_of_le (by decide) (nI_le (Nat.zero_le u) (by omega))⟩)
    have e2 : v = some (.int (bNext (cA C 11) (cA C 12) i B)) := e2
    rw [e3] at e2
    exact FQ.ok e2 ⟨C, e1 ▸ h, hD, hA, e1 ▸ Fr.rf⟩
  · split at hr
    · cases hr
    · next hi =>
      cases hr
      obtain ⟨hb, e⟩ := vp_nI hi
      refine q.mono (fun v g q => ?_) (fun _ _ q => q.elim)
      obtain ⟨e1, e2⟩ := q
      have e3 := key (i.toNatClampNeg + 1) (by omega) (fun u hu => by
        have q9 : nI i.toNatClampNeg < nI u ↔ i.toNatClampNeg < u := nI_ltI (by omega) (by omega)
        rw [← e] at q9
        exact q9.trans (by omega))
      have e2 : v = some (.int (bNext (cA C 11) (cA C 12) i B)) := e2
      rw [e3] at e2
      exact FQ.ok e2 ⟨C, e1 ▸ h, hD, hA, e1 ▸ Fr.rf⟩
end DCN
