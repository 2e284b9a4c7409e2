/-! ===== pure: tree ===== -/
section PZU
variable {N B gr r u k : Nat} {V W U : Nat → Rw} {m m' : M5} {tk tk' : Nat → Bool} {A A' : MS} {D D' D0 D2 D9 : CfT} {R R' R0 : RfT} {d s t i x y e q : Nat} {g : Bool} {hd hi : Nat → Nat} {ch cs c : Nat → Nat} {Un : Nat → Prop} {tp : Nat → Int32} {tl : Nat} {ex : Nat → Int32}
/-- a way from the root, the slots that are done, the directories not yet seen, and what is left to do at most -/
def TrT (V : Nat → Rw) (k : Nat) (ch cs c : Nat → Nat) (Un : Nat → Prop) : Prop := ch 0 = 1 ∧ (∀ j, j < k → ir (ch j) ∧ f1 V (ch j) 0 = 2 ∧ 1 ≤ cs j ∧ cs j ≤ szM V (ch j) / 16 ∧ sln V (ch j) (cs j - 1) = ch (j + 1)) ∧ (ir (ch k) ∧ f1 V (ch k) 0 = 2 ∧ cs k ≤ szM V (ch k) / 16) ∧ (∀ j, j ≤ k → c (ch j) + cs j = szM V (ch j) / 16 + 1) ∧ (∀ d, Un d → ir d → f1 V d 0 = 2 → szM V d / 16 + 2 ≤ c d) ∧ (∀ j, j ≤ k → ∀ s, cs j ≤ s → s < szM V (ch j) / 16 → sln V (ch j) s ≠ 0 → f1 V (sln V (ch j) s) 0 = 2 → Un (sln V (ch j) s)) ∧ (∀ p, Un p → ir p → f1 V p 0 = 2 → ∀ s, s < szM V p / 16 → sln V p s ≠ 0 → f1 V (sln V p s) 0 = 2 → Un (sln V p s)) ∧ ∀ j, j ≤ k → ¬ Un (ch j)
theorem TrT.dr (h : TrT V k ch cs c Un) : ∀ j, j ≤ k → ir (ch j) ∧ f1 V (ch j) 0 = 2 := fun j hj => by
  by_cases e : j = k
  · rw [e]; exact ⟨h.2.2.1.1, h.2.2.1.2.1⟩
  · have := h.2.1 j (by omega)
    exact ⟨this.1, this.2.1⟩
theorem TrT.ne (h : TrT V k ch cs c Un) (hw : WF N V) : ∀ i j, i < j → j ≤ k → ch i ≠ ch j := by
  intro i
  induction i with
  | zero =>
    intro j hj hk e
    obtain ⟨a1, a2, a3, a4, a5⟩ := h.2.1 (j - 1) (by omega)
    rw [show j - 1 + 1 = j by omega, ← e, h.1] at a5
    exact hw.n1 a1 a2 (by omega) a5
  | succ i ih =>
    intro j hj hk e
    obtain ⟨a1, a2, a3, a4, a5⟩ := h.2.1 i (by omega)
    obtain ⟨b1, b2, b3, b4, b5⟩ := h.2.1 (j - 1) (by omega)
    rw [show j - 1 + 1 = j by omega, ← e] at b5
    have q := one_name hw (h.dr (i + 1) (by omega)).1 (h.dr (i + 1) (by omega)).2 a1 a2 (show cs i - 1 < szM V (ch i) / 16 by omega) a5 b1 b2 (show cs (j - 1) - 1 < szM V (ch (j - 1)) / 16 by omega) b5
    exact ih (j - 1) (by omega) (by omega) q.1
theorem TrT.inj (h : TrT V k ch cs c Un) (hw : WF N V) {i j : Nat} (hi : i ≤ k) (hj : j ≤ k) (e : ch i = ch j) : i = j := by
  rcases Nat.lt_trichotomy i j with q | q | q
  · exact absurd e (h.ne hw i j q hj)
  · exact q
  · exact absurd e.symm (h.ne hw j i q hi)
theorem TrT.lt (h : TrT V k ch cs c Un) (hw : WF N V) : k < 64 := by
  have hp := pigeon 64 (k + 1) (fun j => ch j - 1) (fun j hj => by
    obtain ⟨j1, j2⟩ := (h.dr j (by omega)).1
    show ch j - 1 < 64
    omega) (fun i j hi hj he => by
    obtain ⟨i1, i2⟩ := (h.dr i (by omega)).1
    obtain ⟨j1, j2⟩ := (h.dr j (by omega)).1
    exact h.inj hw (by omega) (by omega) (by have he : ch i - 1 = ch j - 1 := he; omega))
  omega
/-- a slot is done -/
theorem TrT.slot (h : TrT V k ch cs c Un) (hw : WF N V) (hs : cs k < szM V (ch k) / 16) : TrT V k ch (uN cs k (cs k + 1)) (uN c (ch k) (c (ch k) - 1)) Un ∧ smC (uN c (ch k) (c (ch k) - 1)) 64 < smC c 64 := by
  obtain ⟨a1, a2, a3, a4, a5, a6, a7, a8⟩ := id h
  have hc := a4 k (Nat.le_refl _)
  refine ⟨⟨a1, fun j hj => ?_, ⟨a3.1, a3.2.1, by rw [uN_s]; omega⟩, fun j hj => ?_, fun d ud hd kd => ?_, fun j hj s s1 s2 s3 s4 => ?_, a7, a8⟩, ?_⟩
  · rw [uN_n (by omega)]
    exact a2 j hj
  · by_cases e : j = k
    · rw [e, uN_s, uN_s]
      omega
    · rw [uN_n e, uN_n (fun z => e (h.inj hw hj (Nat.le_refl _) z))]
      exact a4 j hj
  · rw [uN_n (fun z => a8 k (Nat.le_refl _) (by rw [← z]; exact ud))]
    exact a5 d ud hd kd
  · refine a6 j hj s ?_ s2 s3 s4
    by_cases e : j = k
    · rw [e, uN_s] at s1
      rw [e]
      omega
    · rw [uN_n e] at s1
      exact s1
  · have := smC_u (c := c) (v := c (ch k) - 1) a3.1.1 64 a3.1.2
    omega
/-- back from a directory -/
theorem TrT.pop (h : TrT V (k + 1) ch cs c Un) (hw : WF N V) (hs : cs (k + 1) = szM V (ch (k + 1)) / 16) : TrT V k ch cs (uN c (ch (k + 1)) 0) Un ∧ smC (uN c (ch (k + 1)) 0) 64 < smC c 64 := by
  obtain ⟨a1, a2, a3, a4, a5, a6, a7, a8⟩ := id h
  have hc := a4 (k + 1) (Nat.le_refl _)
  obtain ⟨b1, b2, b3, b4, b5⟩ := a2 k (by omega)
  refine ⟨⟨a1, fun j hj => a2 j (by omega), ⟨b1, b2, b4⟩, fun j hj => ?_, fun d ud hd kd => ?_, fun j hj => a6 j (by omega), a7, fun j hj => a8 j (by omega)⟩, ?_⟩
  · rw [uN_n (fun z => by have := h.inj hw (show j ≤ k + 1 by omega) (Nat.le_refl _) z; omega)]
    exact a4 j (by omega)
  · rw [uN_n (fun z => a8 (k + 1) (Nat.le_refl _) (by rw [← z]; exact ud))]
    exact a5 d ud hd kd
  · have := smC_u (c := c) (v := 0) a3.1.1 64 a3.1.2
    omega
/-- down into a directory, behind its slot -/
theorem TrT.push (h : TrT V k ch cs c Un) (hw : WF N V) (hs : cs k < szM V (ch k) / 16) (h1 : sln V (ch k) (cs k) = e) (he0 : e ≠ 0) (ke : f1 V e 0 = 2) : TrT V (k + 1) (uN ch (k + 1) e) (uN (uN cs k (cs k + 1)) (k + 1) 0) (uN (uN c (ch k) (c (ch k) - 1)) e (szM V e / 16 + 1)) (fun z => Un z ∧ z ≠ e) ∧ smC (uN (uN c (ch k) (c (ch k) - 1)) e (szM V e / 16 + 1)) 64 < smC c 64 := by
  have ue : Un e := by
    have := h.2.2.2.2.2.1 k (Nat.le_refl _) (cs k) (Nat.le_refl _) hs
    rw [h1] at this
    exact this he0 ke
  have hfn : Fnd V e := by rw [← h1]; exact hw.fnd h.2.2.1.1 h.2.2.1.2.1 hs (by rw [h1]; exact he0)
  obtain ⟨t1, t2⟩ := h.slot hw hs
  have hnek : ch k ≠ e := fun z => h.2.2.2.2.2.2.2 k (Nat.le_refl _) (by rw [z]; exact ue)
  have dk := h.dr k (Nat.le_refl _)
  obtain ⟨a1, a2, a3, a4, a5, a6, a7, a8⟩ := id t1
  have uniq : ∀ p s', ir p → f1 V p 0 = 2 → s' < szM V p / 16 → sln V p s' = e → p = ch k ∧ s' = cs k := fun p s' hp kp hs' es => one_name hw hfn.1 ke hp kp hs' es dk.1 dk.2 hs h1
  refine ⟨⟨by rw [uN_n (by omega)]; exact a1, fun j hj => ?_, ⟨by rw [uN_s]; exact hfn.1, by rw [uN_s]; exact ke, by rw [uN_s, uN_s]; exact Nat.zero_le _⟩, fun j hj => ?_, fun d ud hd kd => ?_, fun j hj s s1 s2 s3 s4 => ?_, fun p up hp kp s s1 s3 s4 => ⟨a7 p up.1 hp kp s s1 s3 s4, fun z => ?_⟩, fun j hj => ?_⟩, ?_⟩
  · by_cases ej : j = k
    · rw [ej, uN_n (by omega), uN_n (show k ≠ k + 1 by omega), uN_s, uN_s, Nat.add_sub_cancel]
      exact ⟨dk.1, dk.2, by omega, by omega, h1⟩
    · have e1 : uN ch (k + 1) e j = ch j := uN_n (by omega)
      have e2 : uN ch (k + 1) e (j + 1) = ch (j + 1) := uN_n (by omega)
      have e3 : uN (uN cs k (cs k + 1)) (k + 1) 0 j = uN cs k (cs k + 1) j := uN_n (by omega)
      rw [e1, e2, e3]
      exact a2 j (by omega)
  · by_cases ej : j = k + 1
    · rw [ej, uN_s, uN_s, uN_s]
    · rw [uN_n ej, uN_n ej, uN_n (show ch j ≠ e from fun z => a8 j (by omega) (by rw [z]; exact ue))]
      exact a4 j (by omega)
  · rw [uN_n ud.2]
    exact a5 d ud.1 hd kd
  · by_cases ej : j = k + 1
    · rw [ej, uN_s] at s2 s3 s4 ⊢
      refine ⟨a7 e ue hfn.1 ke s s2 s3 s4, fun z => hnek ?_⟩
      exact ((uniq e s hfn.1 ke s2 z).1).symm
    · rw [uN_n ej] at s1 s2 s3 s4 ⊢
      refine ⟨a6 j (by omega) s s1 s2 s3 s4, fun z => ?_⟩
      obtain ⟨u1, u2⟩ := uniq (ch j) s (h.dr j (by omega)).1 (h.dr j (by omega)).2 s2 z
      have ejk := h.inj hw (show j ≤ k by omega) (Nat.le_refl _) u1
      rw [ejk, uN_s] at s1
      omega
  · obtain ⟨u1, u2⟩ := uniq p s hp kp s1 z
    exact a8 k (Nat.le_refl _) (by rw [← u1]; exact up.1)
  · by_cases ej : j = k + 1
    · rw [ej, uN_s]
      exact fun z => z.2 rfl
    · rw [uN_n ej]
      exact fun z => a8 j (by omega) z.1
  · have hu := smC_u (c := uN c (ch k) (c (ch k) - 1)) (v := szM V e / 16 + 1) hfn.1.1 64 hfn.1.2
    have := a5 e ue hfn.1 ke
    omega
/-- what changed besides -/
def DkR (D D' : CfT) : Prop := (∀ j, j ≠ 3705 → D'.1 j = D.1 j) ∧ ∀ k, k ≠ 38 → k ≠ 39 → k ≠ 54 → k ≠ 55 → D'.2.1 k = D.2.1 k
theorem DkR.rf : DkR D D := ⟨fun _ _ => rfl, fun _ _ _ _ _ => rfl⟩
theorem DkR.tr (a : DkR D D') (b : DkR D' D2) : DkR D D2 := ⟨fun j h => (b.1 j h).trans (a.1 j h), fun k h1 h2 h3 h4 => (b.2 k h1 h2 h3 h4).trans (a.2 k h1 h2 h3 h4)⟩
theorem DkR.st {v : Nat → Int32} {i : Nat} (hi : i = 54 ∨ i = 55) : DkR D (sA D i v) := ⟨fun _ _ => rfl, fun k h1 h2 h3 h4 => by
  show cA (sA D i v) k = cA D k
  exact cA_n (by rcases hi with q | q <;> omega)⟩
theorem Dg.dkR (a : Dg D D') : DkR D D' := ⟨a.1, fun k h1 h2 _ _ => a.2 k h1 h2⟩
theorem JX.a57 {v : Nat → Int32} {i : Nat} (hi : i = 43 ∨ i = 57 ∨ i = 58) (h : JX N B gr A D R m V tk) : JX N B gr A D (setA R i v) m V tk := by
  refine ⟨h.1, ?_⟩
  rcases hi with rfl | rfl | rfl
  · exact h.2.fr (Fn.a (S := []) (T := [43]) (by decide)) (by decide) (by decide)
  · exact h.2.fr (Fn.a (S := []) (T := [57]) (by decide)) (by decide) (by decide)
  · exact h.2.fr (Fn.a (S := []) (T := [58]) (by decide)) (by decide) (by decide)
theorem w_tr {x1 : Int32} (hN1 : 61 ≤ N) (hN : N ≤ 1024) (hw : WF N V) : ∀ (n n' k x5 : Nat) (h : Int64) (ch cs c : Nat → Nat) (Un : Nat → Prop) (D : CfT) (R : RfT), smC c 64 < n → smC c 64 < n' → x5 + smC c 64 < 1000000 → JX N B gr A D9 R m V tk → DkR D0 D → Fn [] [43, 57, 58] R0 R → TrT V k ch cs c Un → (∀ j, j ≤ k → cA D 54 j = nI (ch j) ∧ cA D 55 j = nI (cs j)) → (∀ j, j ≤ k → rA R 57 j = nI (ch j) ∧ rA R 58 j = nI (cs j)) → ∃ h' D' R', d_X11_tree_28 N B gr n A D x1 h (nI k) (nI x5) = some (.inl (h', A, D')) ∧ e_tellTree_16 n' (setTl R h) x1 (nI k) = some (setTl R' h') ∧ JX N B gr A D9 R' m V tk ∧ DkR D0 D' ∧ Fn [] [43, 57, 58] R0 R' := by
  intro n
  induction n with
  | zero => intro n' k x5 h ch cs c Un D R hh; exact absurd hh (Nat.not_lt_zero _)
  | succ n ih =>
    intro n' k x5 h ch cs c Un D R hn hn' hx hj hD hR ht hC hE
    obtain ⟨n', rfl⟩ : ∃ q, n' = q + 1 := ⟨n' - 1, by omega⟩
    have hk64 := ht.lt hw
    obtain ⟨d1, d2⟩ := ht.dr k (Nat.le_refl _)
    have d64 := d1.2
    obtain ⟨y1, -⟩ := j_size (D2 := D) hN1 hN hj d1
    have y2 := (j_size (D2 := D) hN1 hN (hj.tl (v := h)) d1).2
    have hz := (hw.pz d1).1
    have hm128 := (hw.2.2.2.2.1 _ d1 d2).1
    have esl : d_X4_slots N (vA A) D (nI (ch k)) = some (nI (szM V (ch k) / 16)) := by
      rw [d_X4_slots, bnd_o y1, show (16 : Int32) = nI 16 from rfl, pk_div (by omega) (by decide) (by decide)]
    have k54 := (hC k (Nat.le_refl _)).1
    have k55 := (hC k (Nat.le_refl _)).2
    have r57 : rA (setTl R h) 57 k = nI (ch k) := (hE k (Nat.le_refl _)).1
    have r58 : rA (setTl R h) 58 k = nI (cs k) := (hE k (Nat.le_refl _)).2
    have hcs := ht.2.2.1.2.2
    have e16 : (16 : Int32) * nI (cs k) = nI (16 * cs k) := by rw [show (16 : Int32) = nI 16 from rfl, pk_mul]
    rw [d_X11_tree_28, if_neg (nI_nn (show k < 2 ^ 31 by omega)), if_neg (show ¬ (1000000 : Int32) ≤ nI x5 from nI_ge (b := 1000000) (by omega) (by decide)), ld_n (show k < 65 by omega) (by decide), k54, ld_n (show k < 65 by omega) (by decide), k55, bnd_o esl, e_tellTree_16, if_neg (nI_nn (show k < 2 ^ 31 by omega)), ld_n (show k < 70 by omega) (by decide), r57, ld_n (show k < 70 by omega) (by decide), r58, bnd_o y2, e16]
    by_cases c1 : cs k < szM V (ch k) / 16
    · obtain ⟨Dn, hDn⟩ : ∃ Dn, Dn = sA D 55 (upd (cA D 55) k (nI (cs k + 1))) := ⟨_, rfl⟩
      obtain ⟨Rn, hRn⟩ : ∃ Rn, Rn = setA R 58 (upd (rA R 58) k (nI (cs k + 1))) := ⟨_, rfl⟩
      have zi := c_sl2 (D2 := Dn) hN1 hN hj.1 hw d1 d2 c1
      have zs := z_sl2 hN1 hN (hj.tl (v := h)).2 hw d1 d2 c1
      have hDT : DkR D0 Dn := by rw [hDn]; exact hD.tr (DkR.st (Or.inr rfl))
      have hRn' : Fn [] [43, 57, 58] R0 Rn := by rw [hRn]; exact hR.tr ((Fn.a (S := []) (T := [58]) (by decide)).wk (by decide) (by decide))
      have hjn : JX N B gr A D9 Rn m V tk := by rw [hRn]; exact hj.a57 (Or.inr (Or.inr rfl))
      have hCn : ∀ j, j ≤ k → cA Dn 54 j = nI (ch j) ∧ cA Dn 55 j = nI (uN cs k (cs k + 1) j) := fun j hj => by
        rw [hDn, cA_n (by decide), cA_e]
        refine ⟨(hC j hj).1, ?_⟩
        by_cases ej : j = k
        · rw [ej, pk_us, uN_s]
        · rw [pk_un ej, uN_n ej]
          exact (hC j hj).2
      have hEn : ∀ j, j ≤ k → rA Rn 57 j = nI (ch j) ∧ rA Rn 58 j = nI (uN cs k (cs k + 1) j) := fun j hj => by
        rw [hRn, rA_n (by decide), rA_e]
        refine ⟨(hE j hj).1, ?_⟩
        by_cases ej : j = k
        · rw [ej, pk_us, uN_s]
        · rw [pk_un ej, uN_n ej]
          exact (hE j hj).2
      have eRs : setA (setTl R h) 58 (upd (rA (setTl R h) 58) k (nI (cs k + 1))) = setTl Rn h := by rw [hRn]
      have ecs : nI (cs k) + 1 = nI (cs k + 1) := nI_1 _
      rw [if_pos (nI_lt c1 (by omega)), ld_n (show k < 65 by omega) (by decide), k55, ecs, stA_n (show k < 65 by omega) (by decide), ← hDn, bnd_o zi, if_pos (nI_lt (by omega) (by omega)), e_tellTree_55, i00, bnd_o zs, e_tellTree_75, ld_n (show k < 70 by omega) (by decide), r58, ecs, st_n (show k < 70 by omega) (by decide), eRs, i00]
      obtain ⟨t, htt⟩ : ∃ t, t = sln V (ch k) (cs k) := ⟨_, rfl⟩
      rw [← htt]
      by_cases t0 : t = 0
      · obtain ⟨s1, s2⟩ := ht.slot hw c1
        rw [t0, nI_0, i00, i00, d_X11_tree_240, nI_1]
        exact ih n' k (x5 + 1) h ch _ _ Un Dn Rn (by omega) (by omega) (by omega) hjn hDT hRn' s1 hCn hEn
      · have hn0 : sln V (ch k) (cs k) ≠ 0 := by rw [← htt]; exact t0
        have hfn : Fnd V t := by rw [htt]; exact hw.fnd d1 d2 c1 hn0
        have t64 := hfn.1.2
        have et : ¬ nI t = 0 := nI_ne0 (by omega) (by omega)
        have kle := (hw.2.1 t hfn.1).1
        have hlt := f1_lt V t 0
        have kc := (j_kind (D2 := Dn) hN1 hN hj hfn.1).1
        have hn := c_hn (D2 := Dn) (h0 := h) hN1 hN hj hw d1 d2 c1 hn0
        have sc := (j_size (D2 := Dn) hN1 hN hj hfn.1).1
        have mc : d_X7_markOf N (vA A) Dn (nI t) = some (nI (f4 V t 8)) := by rw [d_mark hfn.1.1 hfn.1.2 hN1 hN, (f1_ag (a := 8) hN1 hj.1.agu hw.1.1 hfn.1.2).2.2]
        have tn := z_tn (h0 := h) hN1 hN hjn hw d1 d2 c1 hn0 hfn.1
        obtain ⟨h3, hh3⟩ : ∃ h3, h3 = tl3 (hF (gNb V (ch k) (cs k)) h 0 (lnS V (ch k) (cs k))) (f1 V t 0) (szM V t) (f4 V t 8) := ⟨_, rfl⟩
        have kr := (j_kind (D2 := D) hN1 hN (hjn.tl (v := h3)) hfn.1).2
        rw [← hh3] at tn
        rw [if_neg et, bnd_o kc, bnd_o hn, bnd_o sc, bnd_o mc, if_neg et, bnd_o tn, bnd_o kr]
        have eh3 : (((hF (gNb V (ch k) (cs k)) h 0 (lnS V (ch k) (cs k)) + (nI (f1 V t 0)).toInt64) * 31 + (nI (szM V t)).toInt64) * 31 + (nI (f4 V t 8)).toInt64) = h3 := hh3.symm
        rw [eh3]
        by_cases k2 : f1 V t 0 = 2
        · have e2 : nI (f1 V t 0) = (2 : Int32) := by rw [k2]; rfl
          obtain ⟨s1, s2⟩ := ht.push hw c1 htt.symm t0 k2
          have hk63 := s1.lt hw
          rw [if_pos e2, if_neg (show ¬ (64 : Int32) ≤ nI k from nI_ge (b := 64) (by omega) (by decide)), nI_1, stA_n (show k + 1 < 65 by omega) (by decide), stA_n (show k + 1 < 65 by omega) (by decide), d_X11_tree_240, if_pos e2, nI_1, st_n (show k + 1 < 70 by omega) (by decide), st_n (show k + 1 < 70 by omega) (by decide), cA_n (by decide)]
          refine ih n' (k + 1) (x5 + 1) h3 (uN ch (k + 1) t) _ _ _ _ (setA (setA Rn 57 (upd (rA Rn 57) (k + 1) (nI t))) 58 (upd (rA (setA Rn 57 (upd (rA Rn 57) (k + 1) (nI t))) 58) (k + 1) 0)) (by omega) (by omega) (by omega) ((hjn.a57 (Or.inr (Or.inl rfl))).a57 (Or.inr (Or.inr rfl))) ((hDT.tr (DkR.st (Or.inl rfl))).tr (DkR.st (Or.inr rfl))) ((hRn'.tr ((Fn.a (S := []) (T := [57]) (by decide)).wk (by decide) (by decide))).tr ((Fn.a (S := []) (T := [58]) (by decide)).wk (by decide) (by decide))) s1 (fun j hj2 => ⟨?_, ?_⟩) (fun j hj2 => ⟨?_, ?_⟩)
          · rw [cA_n (by decide), cA_e]
            by_cases ej : j = k + 1
            · rw [ej, pk_us, uN_s]
            · rw [pk_un ej, uN_n ej]
              exact (hCn j (by omega)).1
          · rw [cA_e]
            by_cases ej : j = k + 1
            · rw [ej, pk_us, uN_s]
              rfl
            · rw [pk_un ej, uN_n ej]
              exact (hCn j (by omega)).2
          · rw [rA_n (by decide), rA_e]
            by_cases ej : j = k + 1
            · rw [ej, pk_us, uN_s]
            · rw [pk_un ej, uN_n ej]
              exact (hEn j (by omega)).1
          · rw [rA_e, rA_n (by decide)]
            by_cases ej : j = k + 1
            · rw [ej, pk_us, uN_s]
              rfl
            · rw [pk_un ej, uN_n ej]
              exact (hEn j (by omega)).2
        · have e2 : ¬ nI (f1 V t 0) = (2 : Int32) := nx2 k2 (by omega)
          have k1 : f1 V t 0 = 1 := by have := hfn.2.1; omega
          obtain ⟨s1, s2⟩ := ht.slot hw c1
          rw [if_neg e2, if_pos (show nI (f1 V t 0) = (1 : Int32) by rw [k1]; rfl), if_neg e2]
          by_cases cx : x1 = 0
          · rw [if_pos cx, if_pos cx, d_X11_tree_240, nI_1]
            exact ih n' k (x5 + 1) h3 ch _ _ Un Dn Rn (by omega) (by omega) (by omega) hjn hDT hRn' s1 hCn hEn
          · obtain ⟨D', b1, b2⟩ := c_hb (D := Dn) hN1 hN hj hw hfn.1 h3
            obtain ⟨g', b3⟩ := z_tb (h0 := h3) hN1 hN hjn hw hfn.1
            rw [if_neg cx, if_neg cx, bnd2_o b1, bnd_o b3, d_X11_tree_240, nI_1]
            refine ih n' k (x5 + 1) _ ch _ _ Un D' (setA Rn 43 g') (by omega) (by omega) (by omega) (hjn.a57 (Or.inl rfl)) (hDT.tr b2.dkR) (hRn'.tr ((Fn.a (S := []) (T := [43]) (by decide)).wk (by decide) (by decide))) s1 (fun j hj2 => ?_) (fun j hj2 => ?_)
            · rw [show cA D' 54 = cA Dn 54 from b2.2 54 (by decide) (by decide), show cA D' 55 = cA Dn 55 from b2.2 55 (by decide) (by decide)]
              exact hCn j hj2
            · rw [rA_n (by decide), rA_n (by decide)]
              exact hEn j hj2
    · have hce : cs k = szM V (ch k) / 16 := by omega
      have h4 := ht.2.2.2.1 k (Nat.le_refl _)
      have eRs : setA (setTl R h) 58 (upd (rA (setTl R h) 58) k (nI (cs k) + 1)) = setTl (setA R 58 (upd (rA R 58) k (nI (cs k) + 1))) h := rfl
      rw [if_neg (nI_nlt (by omega) (by omega)), d_X11_tree_240, if_neg (nI_nlt (by omega) (by omega)), e_tellTree_55, i10, e_tellTree_75, ld_n (show k < 70 by omega) (by decide), r58, st_n (show k < 70 by omega) (by decide), eRs, i10]
      have hsum : 1 ≤ smC c 64 := by
        have := smC_u (c := c) (v := 0) d1.1 64 d1.2
        omega
      cases k with
      | zero =>
        obtain ⟨n, rfl⟩ : ∃ q, n = q + 1 := ⟨n - 1, by omega⟩
        obtain ⟨n', rfl⟩ : ∃ q, n' = q + 1 := ⟨n' - 1, by omega⟩
        refine ⟨h * 31 + 3, D, setA R 58 (upd (rA R 58) 0 (nI (cs 0) + 1)), ?_, ?_, hj.a57 (Or.inr (Or.inr rfl)), hD, hR.tr ((Fn.a (S := []) (T := [58]) (by decide)).wk (by decide) (by decide))⟩
        · rw [d_X11_tree_28, if_pos (show nI 0 + (-1) < (0 : Int32) by decide)]
        · show e_tellTree_16 (n' + 1) (setTl (setA R 58 (upd (rA R 58) 0 (nI (cs 0) + 1))) (h * 31 + 3)) x1 (nI 0 + (-1)) = _
          rw [e_tellTree_16, if_pos (show nI 0 + (-1) < (0 : Int32) by decide)]
      | succ k =>
        obtain ⟨s1, s2⟩ := ht.pop hw hce
        rw [nI_p (by omega), Nat.add_sub_cancel, nI_1]
        refine ih n' k (x5 + 1) (h * 31 + 3) ch cs _ Un D (setA R 58 (upd (rA R 58) (k + 1) (nI (cs (k + 1)) + 1))) (by omega) (by omega) (by omega) (hj.a57 (Or.inr (Or.inr rfl))) hD (hR.tr ((Fn.a (S := []) (T := [58]) (by decide)).wk (by decide) (by decide))) s1 (fun j hj2 => hC j (by omega)) (fun j hj2 => ?_)
        rw [rA_n (by decide), rA_e, pk_un (by omega)]
        exact hE j (by omega)
theorem IM.dkR (h : IM N B gr u g A D R m V tk hd hi tp tl) (e : DkR D D') (f : Fn [] [43, 57, 58] R R') : IM N B gr u g A D' R' m V tk hd hi tp tl := h.fr (e.1 2508 (by decide)) (e.2 29 (by decide) (by decide) (by decide) (by decide)) f (by decide) (by decide) ⟨fun j hj => e.1 j (by revert hj; revert j; decide), fun k hk => e.2 k (by revert hk; revert k; decide) (by revert hk; revert k; decide) (by revert hk; revert k; decide) (by revert hk; revert k; decide), fun j hj => f.1.1 j (List.not_mem_nil), fun k hk => f.1.2.1 k (by revert hk; revert k; decide)⟩ (by decide) (e.2 42 (by decide) (by decide) (by decide) (by decide))
theorem IM.tel {v : Int64} (h : IM N B gr u g A D R m V tk hd hi tp tl) : IM N B gr u g A D (setTl R v) m V tk hd hi tp tl := h
theorem r_tree {a0 : Int32} (hN1 : 61 ≤ N) (hN : N ≤ 1024) (h : IM N B gr u g A D R m V tk hd hi tp tl) (hL : LH V hd hi := by assumption) : RetR N B gr (u + 100) ex (d_X11_tree N B gr A D a0) (e_tree R a0) := by
  obtain ⟨n1, R1, n2, h1, ot, t0, -, -⟩ := h.nm hN
  have hw := h1.2.1
  have k1 : f1 V 1 0 = 2 := hw.2.2.2.2.2.2.1
  have i1 : ir 1 := ⟨Nat.le_refl _, by decide⟩
  have s16 : ∀ d, ir d → f1 V d 0 = 2 → szM V d / 16 + 2 ≤ 8194 := fun d hd hk => hw.s16 hN hd hk
  have tr : TrT V 0 (fun _ => 1) (fun _ => 0) (uN (fun _ => 8194) 1 (szM V 1 / 16 + 1)) (fun z => z ≠ 1) := by
    refine ⟨rfl, fun j hj => absurd hj (Nat.not_lt_zero _), ⟨i1, k1, Nat.zero_le _⟩, fun j hj => (by show uN (fun _ => 8194) 1 (szM V 1 / 16 + 1) 1 + 0 = szM V 1 / 16 + 1; rw [uN_s]), fun d ud hd kd => by rw [uN_n ud]; exact s16 d hd kd, fun j hj s _ s2 s3 s4 => hw.n1 i1 k1 s2, fun p up hp kp s s1 s3 s4 => hw.n1 hp kp s1, fun j hj z => z rfl⟩
  have sle : smC (uN (fun _ => 8194) 1 (szM V 1 / 16 + 1)) 64 ≤ 8194 * 64 := smC_le (fun j => by
    by_cases ej : j = 1
    · rw [ej, uN_s]
      have := s16 1 i1 k1
      omega
    · rw [uN_n ej]
      exact Nat.le_refl _) 64
  obtain ⟨Dn, hDn⟩ : ∃ Dn, Dn = sA (sA D 54 (upd (cA D 54) 0 1)) 55 (upd (cA (sA D 54 (upd (cA D 54) 0 1)) 55) 0 0) := ⟨_, rfl⟩
  obtain ⟨Rn, hRn⟩ : ∃ Rn, Rn = setA (setA R1 57 (upd (rA R1 57) 0 1)) 58 (upd (rA (setA R1 57 (upd (rA R1 57) 0 1)) 58) 0 0) := ⟨_, rfl⟩
  have hDT : DkR D Dn := by rw [hDn]; exact (DkR.st (Or.inl rfl)).tr (DkR.st (Or.inr rfl))
  have hRT : Fn [] [43, 57, 58] R1 Rn := by rw [hRn]; exact ((Fn.a (S := []) (T := [57]) (by decide)).wk (by decide) (by decide)).tr ((Fn.a (S := []) (T := [58]) (by decide)).wk (by decide) (by decide))
  have hjn : JX N B gr A D Rn m V tk := by rw [hRn]; exact (h1.1.a57 (Or.inr (Or.inl rfl))).a57 (Or.inr (Or.inr rfl))
  obtain ⟨h', D', R', a1, a2, a3, a4, a5⟩ := w_tr (x1 := a0) (D0 := D) (R0 := R1) hN1 hN hw fuL fuL 0 0 17 (fun _ => 1) (fun _ => 0) _ _ Dn Rn (by rw [fuL_4]; omega) (by rw [fuL_4]; omega) (by omega) hjn hDT hRT tr (fun j hj => by
    have ej : j = 0 := by omega
    rw [ej, hDn, cA_n (by decide), cA_e, cA_e, pk_us, pk_us]
    exact ⟨rfl, rfl⟩) (fun j hj => by
    have ej : j = 0 := by omega
    rw [ej, hRn, rA_n (by decide), rA_e, rA_e, pk_us, pk_us]
    exact ⟨rfl, rfl⟩)
  have a1 : d_X11_tree_28 N B gr fuL A Dn a0 17 0 0 = some (.inl (h', A, D')) := a1
  have a2 : e_tellTree_16 fuL (setTl Rn 17) a0 0 = some (setTl R' h') := a2
  have eR : setA (setA (setTl R1 17) 57 (upd (rA (setTl R1 17) 57) 0 1)) 58 (upd (rA (setA (setTl R1 17) 57 (upd (rA (setTl R1 17) 57) 0 1)) 58) 0 0) = setTl Rn 17 := by rw [hRn]
  rw [d_X11_tree, bndF_l n1, stA0 (by decide) (by decide), stA0 (by decide) (by decide), ← hDn, a1, e_tree, bnd2_o n2, i00, ptTl, e_tellTree, st0 (by decide) (by decide), st0 (by decide) (by decide), eR, bnd_o a2]
  exact RetR.ok ((h1.dkR a4 a5).tel (v := h')) (by omega) (show rS R' 0 = 0 by rw [a5.1.1 0 (List.not_mem_nil)]; exact t0) rfl rfl
end PZU
