/-! ===== pure: sync ===== -/
section PZW
variable {N B gr r u e : Nat} {V W : Nat → Rw} {m m' : M5} {tk tk' : Nat → Bool} {A A' : MS} {D D' D2 : CfT} {R R' : RfT} {g : Bool} {hd hi : Nat → Nat} {tp : Nat → Int32} {tl : Nat} {ex : Nat → Int32} {h' h2 : Hw} {i : Nat}
theorem bNum_mono {b : Nat → Option (Nat × Rw)} {t : Nat} : ∀ n, t ≤ n → bNum b t ≤ bNum b n
  | 0, h => by rw [show t = 0 by omega]; exact Nat.le_refl _
  | n + 1, h => by
    by_cases c : t = n + 1
    · rw [c]; exact Nat.le_refl _
    · have := bNum_mono (b := b) (t := t) n (by omega)
      show _ ≤ bNum b n + _
      omega
theorem bNum_at {b : Nat → Option (Nat × Rw)} {t : Nat} (h : b t ≠ none) : bNum b (t + 1) = bNum b t + 1 := by
  show bNum b t + (if (b t).isSome then 1 else 0) = _
  cases hb : b t with
  | none => exact absurd hb h
  | some x => rfl
theorem bNum_at0 {b : Nat → Option (Nat × Rw)} {t : Nat} (h : b t = none) : bNum b (t + 1) = bNum b t := by
  show bNum b t + (if (b t).isSome then 1 else 0) = _
  rw [h]
  rfl
theorem nxF_0 {bf : Nat → Option (Nat × Rw)} {t : Nat} (ht : t < N) (h : bf t = none) : nxF bf (N - t) t = nxF bf (N - (t + 1)) (t + 1) := by
  obtain ⟨k, hk⟩ : ∃ k, N - t = k + 1 := ⟨N - t - 1, by omega⟩
  rw [hk, show N - (t + 1) = k by omega]
  show (match bf t with | some _ => nI t | none => nxF bf k (t + 1)) = _
  rw [h]
theorem nxF_1 {bf : Nat → Option (Nat × Rw)} {t : Nat} (ht : t < N) (h : bf t ≠ none) : nxF bf (N - t) t = nI t := by
  obtain ⟨k, hk⟩ : ∃ k, N - t = k + 1 := ⟨N - t - 1, by omega⟩
  rw [hk]
  show (match bf t with | some _ => nI t | none => nxF bf k (t + 1)) = _
  cases hb : bf t with
  | none => exact absurd hb h
  | some x => rfl
theorem nxF_e {bf : Nat → Option (Nat × Rw)} {t : Nat} (ht : N ≤ t) : nxF bf (N - t) t = -1 := by
  rw [show N - t = 0 by omega]
  rfl
theorem fNx_o {t : Nat} (hN : N ≤ 1024) (ht : t < N) : fNx N B gr A D (nI t) = some (.inl (nxF A.1.2.1.1 (N - (t + 1)) (t + 1), A, D)) := by
  rw [fNx, if_neg (nI_m1 (by omega)), nI_clamp (by omega), if_neg (by
    rintro (z | z)
    · exact nI_nn (by omega) z
    · omega)]
theorem fWo_o {t : Nat} (hN : N ≤ 1024) (ht : t < N) : fWo N B gr A D (nI t) = if (aRun 1 t A.1).1 = true then some (.inl ((), ((aRun 1 t A.1).2, A.2), D)) else some (.inr (0, ((aRun 1 t A.1).2, A.2), D)) := by
  rw [fWo, nI_clamp (by omega), if_neg (by
    rintro (z | z)
    · exact nI_nn (by omega) z
    · omega)]
abbrev MS2 : Type := List En × Int32 × List QC × (Nat → Nat) × QC × (Nat → Bool) × Bool
/-- what the two make of it -/
def SyO (N B : Nat) (A2 : MS2) (D : CfT) (R : RfT) (h : Hw) (cl : Option (FR Int32)) (rf : Option (Int32 × RfT)) : Prop := ∃ h' R', HwS N B h h' ∧ ((∃ w, cl = some (.inl (w, (h', A2), D)) ∧ rf = some (w, setS R' 0 0) ∧ RH N B h' R' ∧ Fq [9, 10, 12, 13, 14, 18, 20] [6, 7, 8, 15, 17, 39, 40] R R') ∨ (cl = some (.inr (0, (h', A2), D)) ∧ rf = some (0, setS R' 0 2) ∧ Dd N R h' R'))
theorem SyO.go {A2 : MS2} {h h1 : Hw} {R1 : RfT} {cl : Option (FR Int32)} {rf : Option (Int32 × RfT)} (a : HwS N B h h1) (f : Fq [9, 10, 12, 13, 14, 18, 20] [6, 7, 8, 15, 17, 39, 40] R R1) (s : SyO N B A2 D R1 h1 cl rf) : SyO N B A2 D R h cl rf := by
  obtain ⟨h', R', s1, s2⟩ := s
  refine ⟨h', R', a.tr s1, s2.imp (fun ⟨w, q1, q2, q3, q4⟩ => ⟨w, q1, q2, q3, f.tr q4⟩) (fun ⟨q1, q2, q3⟩ => ⟨q1, q2, q3.fq f (by decide) (by decide)⟩)⟩
theorem sy_end {A2 : MS2} {h : Hw} {w : Int32} (hN : N ≤ 1024) (hr : RH N B h R) (hw : WkO N R) : SyO N B A2 D R h (bndF (fSn N B gr (h, A2) D) (fun _ A5 D5 => some (.inl (w, A5, D5)))) (bnd (e_syncDisk R) (fun R117 => bnd2 (e_answer R117 w) (fun v118 R118 => some (v118, R118)))) := by
  obtain ⟨R1, e1, o⟩ := z_sn hN hr hw
  refine ⟨(aSn h).2, R1, hs_sn, ?_⟩
  rcases o with ⟨t1, x1, f1⟩ | ⟨t1, x1⟩
  · have c1 : fSn N B gr (h, A2) D = some (.inl ((), ((aSn h).2, A2), D)) := by
      rw [fSn, if_pos t1]
    rw [bndF_l c1, bnd_o e1, bnd2_o (ans_on x1.on)]
    exact Or.inl ⟨w, rfl, rfl, x1, f1⟩
  · have c1 : fSn N B gr (h, A2) D = some (.inr (0, ((aSn h).2, A2), D)) := by
      rw [fSn, if_neg (by rw [t1]; decide)]
    rw [bndF_r c1, bnd_o e1, bnd2_o (ans_off x1.1.1)]
    exact Or.inr ⟨rfl, rfl, x1⟩
theorem sy_dead {n : Nat} {w x : Int32} (h0 : rS R 11 = 0) : e_sync_89 (n + 1) R w x = some (0, setS R 0 2) := by
  rw [e_sync_89]
  by_cases c : (1024 : Int32) ≤ x
  · rw [if_pos c, if_pos h0, bnd2_o (ans_off h0)]
  · rw [if_neg c, if_pos h0, if_pos h0, bnd2_o (ans_off h0)]
theorem sy_l {A2 : MS2} {T : Nat → Bool} {ta : Nat → Int32} (hN : N ≤ 1024) (hT : ∀ b, T b = true → 43 ≤ b ∧ b < N) (hta : ∀ b, b < 1024 → ta b = bI (T b)) (hga : ∀ U b, b < N → d_X7_hasGathered N U D (nI b) = some (bI (T b))) : ∀ (k b : Nat) (h : Hw) (R : RfT) (c : Nat) (w : Int32) (nC nR : Nat), b + k = 1024 → k + 1 < nR → N - b < nC → RH N B h R → WkO N R → HOk N B h → rA R 49 = ta → bNum h.2.1.1 N ≤ c + bNum h.2.1.1 b → c < 2 ^ 31 → SyO N B A2 D R h (d_X11_sync_48 N B gr nC (h, A2) D w (nxF h.2.1.1 (N - b) b) (nI c)) (e_sync_89 nR R w (nI b))
  | k, b, h, R, c, w, 0, nR, _, _, hnC, _, _, _, _, _, _ => absurd hnC (Nat.not_lt_zero _)
  | k, b, h, R, c, w, nC, 0, _, hnR, _, _, _, _, _, _, _ => absurd hnR (Nat.not_lt_zero _)
  | 0, b, h, R, c, w, nC + 1, nR + 1, hb, hnR, hnC, hr, hw, ho, h49, hc, hc2 => by
    rw [nxF_e (by omega), d_X11_sync_48, e_sync_89, if_pos (show (1024 : Int32) ≤ nI b from nI_le (a := 1024) (by omega) (by omega)), if_neg hr.on]
    by_cases c0 : nI c ≤ 0
    · rw [if_pos c0]
      exact sy_end hN hr hw
    · rw [if_neg c0, if_pos rfl]
      exact sy_end hN hr hw
  | k + 1, b, h, R, c, w, nC + 1, nR + 1, hb, hnR, hnC, hr, hw, ho, h49, hc, hc2 => by
    have e89 : e_sync_89 (nR + 1) R w (nI b) = if T b = false then e_sync_89 nR R w (nI (b + 1)) else bnd (e_heldAt R (nI b)) (fun v123 => e_sync_126 (e_sync_89 nR) R w (nI b) v123) := by
      rw [e_sync_89, if_neg (show ¬ (1024 : Int32) ≤ nI b from nI_ge (b := 1024) (by omega) (by decide)), if_neg hr.on, ld_n (by omega) (by decide), h49, hta b (by omega)]
      cases hTb : T b with
      | false => rw [if_pos rfl, if_pos (show bI false = 0 from rfl), e_sync_126, if_pos rfl, nI_1]
      | true => rw [if_neg (show ¬ bI true = 0 by decide), if_neg (show ¬ true = false by decide)]
    rw [e89]
    by_cases hbN : b < N
    · rcases hr.at hbN with ⟨q1, q2⟩ | ⟨j, j1, j2, j3, j4, j5⟩
      · have ih := sy_l (A2 := A2) hN hT hta hga k (b + 1) h R c w (nC + 1) nR (by omega) (by omega) (by omega) hr hw ho h49 (by rw [bNum_at0 q1]; exact hc) hc2
        rw [nxF_0 hbN q1]
        cases hTb : T b with
        | false => rw [if_pos rfl]; exact ih
        | true =>
          rw [if_neg (by decide), e_heldAt, ld_n (by omega) (by decide), q2, bnd_o rfl, e_sync_126, if_pos rfl, nI_1]
          exact ih
      · have hm := bNum_mono (b := h.2.1.1) (t := b + 1) N (by omega)
        rw [bNum_at j5] at hm
        obtain ⟨c', rfl⟩ : ∃ c', c = c' + 1 := ⟨c - 1, by omega⟩
        rw [nxF_1 hbN j5, d_X11_sync_48, if_neg (show ¬ nI (c' + 1) ≤ 0 from nI_ge (a := 0) (by omega) hc2), if_neg (nI_m1 (by omega)), bnd_o (hga _ b hbN), show nI (c' + 1) + (-1 : Int32) = nI c' by rw [← nI_1, Int32.add_assoc, show (1 : Int32) + -1 = 0 by decide, Int32.add_zero]]
        cases hTb : T b with
        | false =>
          rw [if_pos rfl, if_pos (show bI false = 0 from rfl), bndF_l (fNx_o hN hbN)]
          exact sy_l hN hT hta hga k (b + 1) h R c' w nC nR (by omega) (by omega) (by omega) hr hw ho h49 (by rw [bNum_at j5]; omega) (by omega)
        | true =>
          rw [if_neg (show ¬ bI true = 0 by decide), if_neg (show ¬ true = false by decide), fWo_o hN hbN, e_heldAt, ld_n (by omega) (by decide), j3, bnd_o rfl, e_sync_126, if_neg (nI_m1 (by omega))]
          obtain ⟨R1, e1, o⟩ := z_out hN hr hw hbN j1 j2 j3 j4 j5
          have hs : HwS N B h (aRun 1 b h).2 := hs_out (hT b hTb).1 hbN
          rw [bnd_o e1]
          rcases o with ⟨t1, t2, R2, t3, t4, t5⟩ | ⟨t1, t2, t3⟩
          · rw [if_pos t1, bndF_l rfl, bndF_l (fNx_o hN hbN), if_neg t2, bnd_o t3, nI_1]
            refine SyO.go hs t5 (sy_l hN hT hta hga k (b + 1) (aRun 1 b h).2 R2 c' (w + 1) nC nR (by omega) (by omega) (by omega) t4 (hw.fq t5 (by decide) (by decide) (by decide) (by decide) (by decide)) (hs.2.2.2.1 ho) (by rw [t5.2.1 49 (by decide)]; exact h49) ?_ (by omega))
            obtain ⟨D0, ⟨bf, hd0, sp, pu⟩, le, wr, ss⟩ := h
            have el : ¬ le = 0 := fun z => by
              rw [aRun_2 j5 z] at t1
              cases t1
            rw [aRun_3 j5 el]
            show bNum (bSet bf b none) N ≤ c' + bNum (bSet bf b none) (b + 1)
            have x1 := bNum_set (b := bf) (t := b) (v := none) N hbN
            have x2 := bNum_set (b := bf) (t := b) (v := none) (b + 1) (by omega)
            have x3 : (if (bf b).isSome = true then 1 else 0) = 1 := by
              have j5 : bf b ≠ none := j5
              cases hq : bf b with
              | none => exact absurd hq j5
              | some x => rfl
            have x4 : (if (none : Option (Nat × Rw)).isSome = true then 1 else 0) = 0 := rfl
            have x5 : bNum bf (b + 1) = bNum bf b + 1 := bNum_at j5
            have hc : bNum bf N ≤ c' + 1 + bNum bf b := hc
            omega
          · obtain ⟨nR', rfl⟩ : ∃ x, nR = x + 1 := ⟨nR - 1, by omega⟩
            rw [if_neg (by rw [t1]; decide), bndF_r rfl, if_pos t3.1.1, sy_dead t3.1.1]
            refine ⟨(aRun 1 b h).2, R1, hs, Or.inr ⟨rfl, rfl, ?_⟩⟩
            rw [t2]
            exact t3
    · have hTb : T b = false := by
        cases hq : T b with
        | false => rfl
        | true => exact absurd (hT b hq).2 hbN
      rw [if_pos hTb]
      have ih := sy_l (A2 := A2) hN hT hta hga k (b + 1) h R c w (nC + 1) nR (by omega) (by omega) (by omega) hr hw ho h49 (Nat.le_trans hc (Nat.add_le_add_left (bNum_mono _ (by omega)) _)) hc2
      rw [nxF_e (by omega)] at ih ⊢
      exact ih
noncomputable def tkQ (V : Nat → Rw) (i q e b : Nat) : Bool := @decide (∃ p, q ≤ p ∧ p < e ∧ pv V i (px p) = b) (Classical.propDecidable _)
theorem tkQ_t {q b : Nat} (h : ∃ p, q ≤ p ∧ p < e ∧ pv V i (px p) = b) : tkQ V i q e b = true := by
  unfold tkQ
  exact @decide_eq_true _ (Classical.propDecidable _) h
theorem tkQ_f {q b : Nat} (h : ¬ ∃ p, q ≤ p ∧ p < e ∧ pv V i (px p) = b) : tkQ V i q e b = false := by
  unfold tkQ
  exact @decide_eq_false _ (Classical.propDecidable _) h
theorem tkQ_o {q b : Nat} (h : tkQ V i q e b = true) : ∃ p, q ≤ p ∧ p < e ∧ pv V i (px p) = b := by
  unfold tkQ at h
  exact @of_decide_eq_true _ (Classical.propDecidable _) h
theorem tkQ_i {q b q' e' b' : Nat} (h : (∃ p, q ≤ p ∧ p < e ∧ pv V i (px p) = b) ↔ ∃ p, q' ≤ p ∧ p < e' ∧ pv V i (px p) = b') : tkQ V i q e b = tkQ V i q' e' b' := by
  cases c : tkQ V i q e b with
  | true => exact (tkQ_t (h.mp (tkQ_o c))).symm
  | false =>
    cases c2 : tkQ V i q' e' b' with
    | false => rfl
    | true =>
      rw [tkQ_t (h.mpr (tkQ_o c2))] at c
      cases c
theorem RH.h64 {h : Hw} (hr : RH N B h R) : h.2.1.2.1 ≤ 64 := by
  obtain ⟨wf, w, h1, h2, h3, h4, h5, h6, h7, h8, h9⟩ := hr
  obtain ⟨-, -, -, -, ⟨-, -, e3, -, e5⟩, -, -⟩ := id h3
  omega
theorem c_hg {U : Nat → Rw} {b : Nat} (hN : N ≤ 1024) (hw : ∀ p, p < e → pv V i (px p) < 1024) (hg : GaD V i e D) (he : e ≤ 4168) (hb : b < N) : ∀ (d q n : Nat), q + d = e → ncM V i 0 e - ncM V i 0 q < n → d_X7_hasGathered_2 N U D n (nI b) (nI (ncM V i 0 q)) = some (bI (if b = 0 then false else tkQ V i q e b)) := by
  intro d
  induction d with
  | zero =>
    intro q n hq hn
    obtain ⟨n, rfl⟩ : ∃ k, n = k + 1 := ⟨n - 1, by omega⟩
    rw [show q = e by omega, d_X7_hasGathered_2, hg.1, if_pos (nI_le (Nat.le_refl _) (by have := nc_le (V := V) (i := i) e; omega)), tkQ_f (fun ⟨p, p1, p2, _⟩ => by omega), ite_self]
    rfl
  | succ d ih =>
    intro q n hq hn
    by_cases c : pv V i (px q) = 0
    · have q1 := ih (q + 1) n (by omega) (by rw [nc_0 c]; exact hn)
      rw [nc_0 c] at q1
      rw [q1]
      by_cases hb0 : b = 0
      · rw [if_pos hb0, if_pos hb0]
      rw [if_neg hb0, if_neg hb0, tkQ_i]
      constructor
      · rintro ⟨p, p1, p2, p3⟩
        exact ⟨p, by omega, p2, p3⟩
      · rintro ⟨p, p1, p2, p3⟩
        by_cases ep : p = q
        · rw [ep, c] at p3
          exact absurd p3.symm hb0
        · exact ⟨p, by omega, p2, p3⟩
    · obtain ⟨n, rfl⟩ : ∃ k, n = k + 1 := ⟨n - 1, by omega⟩
      have hm : ncM V i 0 (q + 1) ≤ ncM V i 0 e := nc_mono (by omega)
      rw [nc_s c] at hm
      have hle := nc_le (V := V) (i := i) e
      have hlq := nc_le (V := V) (i := i) q
      obtain ⟨g1, g2⟩ := hg.2 q (by omega) c
      have hpq := hw q (by omega)
      rw [d_X7_hasGathered_2, hg.1, if_neg (nI_ge (by omega) (by omega)), ld_n (by omega) (by decide), g2]
      by_cases eb : pv V i (px q) = b
      · rw [eb, if_pos rfl, if_neg (show ¬ b = 0 by rw [← eb]; exact c), tkQ_t ⟨q, Nat.le_refl _, by omega, eb⟩]
        rfl
      · rw [if_neg (fun z => eb (nI_inj (by omega) (by omega) z)), nI_1, ← nc_s c, ih (q + 1) n (by omega) (by rw [nc_s c]; omega)]
        by_cases hb0 : b = 0
        · rw [if_pos hb0, if_pos hb0]
        rw [if_neg hb0, if_neg hb0, tkQ_i]
        constructor
        · rintro ⟨p, p1, p2, p3⟩
          exact ⟨p, by omega, p2, p3⟩
        · rintro ⟨p, p1, p2, p3⟩
          by_cases ep : p = q
          · rw [ep] at p3
            exact absurd p3 eb
          · exact ⟨p, by omega, p2, p3⟩
theorem IM.a49 (h : IM N B gr u g A D R m V tk hd hi tp tl) (f : Fn [] [49] R R') : IM N B gr u g A D R' m V tk hd hi tp tl := h.fr rfl rfl f (by decide) (by decide) ⟨fun _ _ => rfl, fun _ _ => rfl, fun j _ => f.1.1 j (by simp), fun k hk => f.1.2.1 k (by revert hk; revert k; decide)⟩ (by decide) rfl
theorem z_sy51 {R1 : RfT} (hN1 : 61 ≤ N) (hN : N ≤ 1024) (h : IM N B gr u g A D R1 m V tk hd hi tp tl) (hir : ir i) (he : e ≤ 4168) (hw : ∀ p, p < e → pv V i (px p) < 1024) : ∀ (d p n : Nat) (R : RfT), p + d = e → d < n → Fn [] [49] R1 R → (∀ b, b < 1024 → rA R 49 b = bI (tkQ V i 0 p b)) → ∃ R', e_sync_51 n R (nI i) (nI e) (nI p) = e_sync_89 fuL R' 0 0 ∧ Fn [] [49] R1 R' ∧ ∀ b, b < 1024 → rA R' 49 b = if b = 0 then 0 else bI (tkQ V i 0 e b) := by
  intro d
  induction d with
  | zero =>
    intro p n R hp hn f hb
    obtain ⟨n, rfl⟩ : ∃ k, n = k + 1 := ⟨n - 1, by omega⟩
    rw [show p = e by omega, e_sync_51, if_pos (nI_le (Nat.le_refl _) (by omega)), st0 (by decide) (by decide)]
    refine ⟨_, rfl, f.tr (Fn.a (by decide)), fun b b1 => ?_⟩
    rw [rA_e]
    by_cases c : b = 0
    · rw [if_pos c, c, pk_us]
      rfl
    · rw [if_neg c, pk_un c, hb b b1, show p = e by omega]
  | succ d ih =>
    intro p n R hp hn f hb
    obtain ⟨n, rfl⟩ : ∃ k, n = k + 1 := ⟨n - 1, by omega⟩
    have hpq := hw p (by omega)
    have z := z_blk hN1 hN (h.a49 f).1.2 ((h.2.1.1).pto hir) hir.1 hir.2 (show p < 4168 by omega)
    rw [e_sync_51, if_neg (nI_ge (by omega) (by omega)), bnd_o z, st_n hpq (by decide), nI_1]
    refine ih (p + 1) n _ (by omega) (by omega) (f.tr (Fn.a (by decide))) (fun b b1 => ?_)
    rw [rA_e]
    by_cases c : b = pv V i (px p)
    · rw [c, pk_us, tkQ_t ⟨p, Nat.zero_le _, by omega, rfl⟩]
      rfl
    · rw [pk_un c, hb b b1, tkQ_i]
      constructor
      · rintro ⟨x, x1, x2, x3⟩
        exact ⟨x, x1, by omega, x3⟩
      · rintro ⟨x, x1, x2, x3⟩
        by_cases ex : x = p
        · rw [ex] at x3
          exact absurd x3.symm c
        · exact ⟨x, x1, by omega, x3⟩
theorem r_sync {a0 : Int32} (hN1 : 61 ≤ N) (hN : N ≤ 1024) (h : IM N B gr u g A D R m V tk hd hi tp tl) (hL : LH V hd hi := by assumption) : Ret N B gr (u + 100) ex (d_X11_sync N B gr A D a0) (e_sync R a0) := by
  obtain ⟨n1, R1, n2, h1, ot, t0, t49, -⟩ := h.nm hN
  rw [d_X11_sync, bndF_l n1, e_sync, bnd2_o n2, i00, d_X7_faultOfFile]
  rcases i_rng a0 with ⟨i, hir, rfl⟩ | hx
  · obtain ⟨k1, k2⟩ := j_kind (D2 := D) hN1 hN h1.1 hir
    have hlt := f1_lt V i 0
    have hk3 : f1 V i 0 = 0 ∨ f1 V i 0 = 1 ∨ f1 V i 0 = 2 := by
      have := (h1.2.1.2.1 i hir).1
      omega
    rw [bnd_o k1, bnd_o k2]
    rcases hk3 with c | c | c
    · rw [c, if_pos (show nI 0 = 0 from rfl), bnd_o rfl, if_neg (by decide), if_neg (by decide), if_pos (show nI 0 = 0 from rfl)]
      exact Ret.ok h1 (by omega) t0 rfl rfl
    · obtain ⟨s1, s2⟩ := j_size (D2 := D) hN1 hN h1.1 hir
      have hsz := h1.2.1.dsz hir
      obtain ⟨D1, g1, g2, g3⟩ := c_gather (D := D) hN1 hN h1.1 (h1.2.1.1.pto hir) hir hsz
      have h2 := h1.dg g3
      generalize he : bfM (szM V i) = e at g2
      have hbe : e ≤ 3125 := by
        rw [← he]
        unfold bfM
        omega
      have hpl : ∀ p, p < e → pv V i (px p) < 1024 := fun p hp => h1.2.1.1.plt hN hir (px_lt (by omega))
      have ebf : (nI (szM V i) + 128 - 1) / 128 = nI e := by
        rw [show (128 : Int32) = nI 128 from rfl, show (1 : Int32) = nI 1 from rfl, nI_add, pk_sub (by omega), pk_div (by omega) (by decide) (by decide), ← he]
        rfl
      obtain ⟨R2, q1, q2, q3⟩ := z_sy51 (e := e) hN1 hN h2 hir (by omega) hpl e 0 fuL R1 (by omega) (by rw [fuL_4]; omega) Fn.rf (fun b hb => by
        rw [t49 b hb, tkQ_f (fun ⟨p, p1, p2, _⟩ => by omega)]
        rfl)
      have h3 := h2.a49 q2
      have ot3 : OwT A R2 m V := ⟨ot.1, ot.2.fq q2.1 (by decide)⟩
      have em : A.1 = m.1 := by
        rw [← h1.1.1.1]
        rfl
      rw [c, if_neg (by decide), if_neg (by decide), bnd_o rfl, if_pos (by decide), bnd_o g1, if_pos (show nI 1 = 1 from rfl), bnd_o s2, nm_o, ebf]
      have q1 : e_sync_51 fuL R1 (nI i) (nI e) 0 = e_sync_89 fuL R2 0 (nI 0) := q1
      rw [q1]
      have hfx : fNx N B gr A D1 (-1) = some (.inl (nxF A.1.2.1.1 (N - 0) 0, A, D1)) := by
        rw [fNx, if_pos rfl]
        rfl
      rw [bndF_l hfx]
      have ho : HOk N B A.1 := by rw [em]; exact h1.2.2.1.1.1
      have hrh : RH N B A.1 R2 := by rw [em]; exact h3.1.2.1.1.1
      obtain ⟨h', R', s1, s2⟩ := sy_l (N := N) (B := B) (gr := gr) (D := D1) (A2 := A.2) (T := fun b => if b = 0 then false else tkQ V i 0 e b) (ta := rA R2 49) hN (fun b hb => by
        by_cases c0 : b = 0
        · rw [if_pos c0] at hb
          cases hb
        · rw [if_neg c0] at hb
          obtain ⟨p, p1, p2, p3⟩ := tkQ_o hb
          rcases h1.2.1.1.pto hir (px p) (px_lt (by omega)) with z | z
          · exact absurd (p3.symm.trans z) c0
          · rw [p3] at z
            exact ⟨by omega, z.2.1⟩) (fun b hb => by
        rw [q3 b hb]
        by_cases c0 : b = 0
        · rw [if_pos c0, if_pos c0]
          rfl
        · rw [if_neg c0, if_neg c0]) (fun U b hb => by
        exact c_hg hN hpl g2 (by omega) hb e 0 fuL (by omega) (by rw [fuL_4]; have := nc_le (V := V) (i := i) e; omega)) 1024 0 A.1 R2 A.1.2.1.2.1 0 fuL fuL (by omega) (by rw [fuL_4]; omega) (by rw [fuL_4]; omega) hrh h3.1.2.1.1.2.2.2.2.1 ho rfl (by rw [ho.2.1]; exact Nat.le_add_right _ _) (by have := hrh.h64; omega)
      rw [em] at s1
      rcases s2 with ⟨w, s3, s4, s5, s6⟩ | ⟨s3, s4, s5⟩
      · exact Ret.ok (h3.hs hN1 hN ot3 s1 s5 s6).thr (by omega) rS_0 s3 s4
      · have sf : Safe N m.1 := h3.2.2.1.2.2.2.2.2.2.1.safe hN1 h3.2.2.1.1 h3.1.2.1.1.2.1.lgn
        exact Or.inr (Or.inl ⟨(h', A.2), D1, _, 0, s3, s4, rS_0, h3.2.2.2.2.2.2.2.1.off h3.2.2.2.2.2.2.2.2.2.2.2 Dt.rf (Dd.thr s5), ⟨R2, Dd.thr s5, h3.1.2.kc⟩, ⟨s1.safe sf, by
          have := h3.2.2.1.2.1
          unfold Phi at this
          show hSp h' ≤ _
          rw [s1.2.2.1]
          omega⟩, h3.1.1.tj⟩)
    · rw [c, if_neg (by decide), if_pos (show nI 2 = 2 from rfl), bnd_o rfl, if_neg (by decide), if_neg (by decide), if_neg (by decide)]
      exact Ret.ok h1 (by omega) t0 rfl rfl
  · obtain ⟨k1, k2⟩ := j_kind0 (N := N) (A := A) (D2 := D) (R := R1) hx
    rw [bnd_o k1, bnd_o k2, if_pos rfl, bnd_o rfl, if_neg (by decide), if_neg (by decide), if_pos rfl]
    exact Ret.ok h1 (by omega) t0 rfl rfl
end PZW
