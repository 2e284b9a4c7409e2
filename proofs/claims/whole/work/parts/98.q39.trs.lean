/-! ===== pure: ways from the root, and how far a walk can go ===== -/
section PZM
variable {N B gr r u n0 k : Nat} {V W : Nat → Rw} {m : M5} {tk : Nat → Bool} {i d s e t : Nat} {ow : Nat → Int} {ch cs c : Nat → Nat}
theorem nmD_mono {i d : Nat} : ∀ {a b : Nat}, a ≤ b → nmD V i d a ≤ nmD V i d b := by
  intro a b h
  induction b with
  | zero => rw [Nat.le_zero.mp h]; exact Nat.le_refl _
  | succ b ih =>
    by_cases c : a = b + 1
    · rw [c]; exact Nat.le_refl _
    · exact Nat.le_trans (ih (by omega)) (Nat.le_add_right _ _)
theorem nmC_mono {i : Nat} : ∀ {a b : Nat}, a ≤ b → nmC V i a ≤ nmC V i b := by
  intro a b h
  induction b with
  | zero => rw [Nat.le_zero.mp h]; exact Nat.le_refl _
  | succ b ih =>
    by_cases c : a = b + 1
    · rw [c]; exact Nat.le_refl _
    · exact Nat.le_trans (ih (by omega)) (Nat.le_add_right _ _)
theorem nmC_ge {i d : Nat} (hk : f1 V d 0 = 2) (hd : 1 ≤ d) : nmC V i (d + 1) = nmC V i d + nmD V i d (szM V d / 16) := by
  show nmC V i d + (if 1 ≤ d ∧ f1 V d 0 = 2 then nmD V i d (szM V d / 16) else 0) = _
  rw [if_pos ⟨hd, hk⟩]
theorem two_D {i d s s' n : Nat} (h1 : s < s') (h2 : s' < n) (e1 : sln V d s = i) (e2 : sln V d s' = i) : 2 ≤ nmD V i d n := by
  have q1 := nmD_pos e1 s' h1
  have q2 : nmD V i d (s' + 1) = nmD V i d s' + 1 := by
    show nmD V i d s' + (if sln V d s' = i then 1 else 0) = _
    rw [if_pos e2]
  have := nmD_mono (V := V) (i := i) (d := d) (show s' + 1 ≤ n by omega)
  omega
/-- a directory has one name -/
theorem one_name {d' s' : Nat} (hw : WF N V) (he : ir e) (hk : f1 V e 0 = 2) (hd : ir d) (kd : f1 V d 0 = 2) (hs : s < szM V d / 16) (h1 : sln V d s = e) (hd' : ir d') (kd' : f1 V d' 0 = 2) (hs' : s' < szM V d' / 16) (h1' : sln V d' s' = e) : d = d' ∧ s = s' := by
  have he1 : e ≠ 1 := by rw [← h1]; exact hw.n1 hd kd hs
  have hl := hw.2.2.2.2.2.2.2.2.1 e he hk he1
  have e8 := hw.s.2.2.2.2.2.2.2 e he
  rw [if_neg he1] at e8
  dsimp only at e8
  have hc : nmC V e 65 ≤ 1 := by omega
  have key : ∀ a b sa sb, ir a → f1 V a 0 = 2 → sa < szM V a / 16 → sln V a sa = e → ir b → f1 V b 0 = 2 → sb < szM V b / 16 → sln V b sb = e → ¬ a < b := fun a b sa sb ha ka hsa ea hb kb hsb eb hlt => by
    have q1 := nmC_pos ka ha.1 hsa ea b hlt
    have q2 := nmC_ge (i := e) kb hb.1
    have q3 := nmD_pos eb _ hsb
    have := nmC_mono (V := V) (i := e) (show b + 1 ≤ 65 by have := hb.2; omega)
    omega
  have hdd : d = d' := by
    have q1 := key d d' s s' hd kd hs h1 hd' kd' hs' h1'
    have q2 := key d' d s' s hd' kd' hs' h1' hd kd hs h1
    omega
  subst hdd
  refine ⟨rfl, Classical.byContradiction (fun z => ?_)⟩
  have q2 := nmC_ge (i := e) kd hd.1
  have q4 := nmC_mono (V := V) (i := e) (show d + 1 ≤ 65 by have := hd.2; omega)
  rcases Nat.lt_or_gt_of_ne z with z | z
  · have := two_D z hs' h1 h1'
    omega
  · have := two_D z hs h1' h1
    omega
def uN (f : Nat → Nat) (a v : Nat) : Nat → Nat := fun x => if x = a then v else f x
theorem uN_s {f : Nat → Nat} {a v : Nat} : uN f a v a = v := if_pos rfl
theorem uN_n {f : Nat → Nat} {a v x : Nat} (h : x ≠ a) : uN f a v x = f x := if_neg h
def smC (c : Nat → Nat) : Nat → Nat
  | 0 => 0
  | n + 1 => smC c n + c (n + 1)
theorem smC_n {a v : Nat} : ∀ n, n < a → smC (uN c a v) n = smC c n := fun n => by
  induction n with
  | zero => intro _; rfl
  | succ n ih =>
    intro h
    show smC (uN c a v) n + uN c a v (n + 1) = smC c n + c (n + 1)
    rw [ih (by omega), uN_n (by omega)]
theorem smC_u {a v : Nat} (h1 : 1 ≤ a) : ∀ n, a ≤ n → smC (uN c a v) n + c a = smC c n + v := fun n => by
  induction n with
  | zero => intro h; omega
  | succ n ih =>
    intro h
    show smC (uN c a v) n + uN c a v (n + 1) + c a = smC c n + c (n + 1) + v
    by_cases e : a = n + 1
    · rw [← e, uN_s, smC_n n (by omega)]
      omega
    · have := ih (by omega)
      rw [uN_n (fun z => e z.symm)]
      omega
theorem smC_le {b : Nat} (h : ∀ j, c j ≤ b) : ∀ n, smC c n ≤ b * n := fun n => by
  induction n with
  | zero => exact Nat.zero_le _
  | succ n ih =>
    have := h (n + 1)
    show smC c n + c (n + 1) ≤ b * (n + 1)
    rw [Nat.mul_add]
    omega
/-- a way from the root to a directory, its upper part done up to slots, and what is left to do at most -/
def TrS (V : Nat → Rw) (n0 k : Nat) (ch cs c : Nat → Nat) : Prop := ch 0 = 1 ∧ (∀ j, j < n0 + k → ir (ch j) ∧ f1 V (ch j) 0 = 2 ∧ cs j < szM V (ch j) / 16 ∧ sln V (ch j) (cs j) = ch (j + 1)) ∧ (ir (ch (n0 + k)) ∧ f1 V (ch (n0 + k)) 0 = 2) ∧ cs (n0 + k) ≤ szM V (ch (n0 + k)) / 16 ∧ (∀ j, n0 < j → j ≤ n0 + k → ∀ s, s < cs j → sln V (ch j) s = 0) ∧ (∀ j, n0 < j → j ≤ n0 + k → c (ch j) + cs j = szM V (ch j) / 16 + 1) ∧ ∀ d, ir d → f1 V d 0 = 2 → 1 ≤ f1 V d 1 → (∀ j, n0 < j → j ≤ n0 + k → ch j ≠ d) → szM V d / 16 + 2 ≤ c d
theorem TrS.dr (h : TrS V n0 k ch cs c) : ∀ j, j ≤ n0 + k → ir (ch j) ∧ f1 V (ch j) 0 = 2 := fun j hj => by
  by_cases e : j = n0 + k
  · rw [e]; exact h.2.2.1
  · have := h.2.1 j (by omega)
    exact ⟨this.1, this.2.1⟩
theorem TrS.fnd (h : TrS V n0 k ch cs c) (hw : WF N V) : ∀ j, j ≤ n0 + k → Fnd V (ch j) := fun j hj => by
  cases j with
  | zero => rw [h.1]; exact hw.root
  | succ j =>
    obtain ⟨a1, a2, a3, a4⟩ := h.2.1 j (by omega)
    have q := hw.fnd a1 a2 a3 (by
      rw [a4]
      have := (h.dr (j + 1) hj).1.1
      omega)
    rw [a4] at q
    exact q
theorem TrS.ne (h : TrS V n0 k ch cs c) (hw : WF N V) : ∀ i j, i < j → j ≤ n0 + k → ch i ≠ ch j := by
  intro i
  induction i with
  | zero =>
    intro j hj hk e
    obtain ⟨a1, a2, a3, a4⟩ := h.2.1 (j - 1) (by omega)
    rw [show j - 1 + 1 = j by omega, ← e, h.1] at a4
    exact hw.n1 a1 a2 a3 a4
  | succ i ih =>
    intro j hj hk e
    obtain ⟨a1, a2, a3, a4⟩ := h.2.1 i (by omega)
    obtain ⟨b1, b2, b3, b4⟩ := h.2.1 (j - 1) (by omega)
    rw [show j - 1 + 1 = j by omega, ← e] at b4
    have q := one_name hw (h.dr (i + 1) (by omega)).1 (h.dr (i + 1) (by omega)).2 a1 a2 a3 a4 b1 b2 b3 b4
    exact ih (j - 1) (by omega) (by omega) q.1
theorem TrS.inj (h : TrS V n0 k ch cs c) (hw : WF N V) {i j : Nat} (hi : i ≤ n0 + k) (hj : j ≤ n0 + k) (e : ch i = ch j) : i = j := by
  rcases Nat.lt_trichotomy i j with q | q | q
  · exact absurd e (h.ne hw i j q hj)
  · exact q
  · exact absurd e.symm (h.ne hw j i q hi)
/-- a slot is done -/
theorem TrS.slot (h : TrS V n0 k ch cs c) (hw : WF N V) (hk : 1 ≤ k) (hs : cs (n0 + k) < szM V (ch (n0 + k)) / 16) (h0 : sln V (ch (n0 + k)) (cs (n0 + k)) = 0) : TrS V n0 k ch (uN cs (n0 + k) (cs (n0 + k) + 1)) (uN c (ch (n0 + k)) (c (ch (n0 + k)) - 1)) ∧ smC (uN c (ch (n0 + k)) (c (ch (n0 + k)) - 1)) 64 < smC c 64 := by
  obtain ⟨a1, a2, a3, a4, a5, a6, a7⟩ := id h
  have hc := a6 (n0 + k) (by omega) (Nat.le_refl _)
  refine ⟨⟨a1, fun j hj => ?_, a3, ?_, fun j h1 h2 s hs2 => ?_, fun j h1 h2 => ?_, fun d hd kd ld hn => ?_⟩, ?_⟩
  · rw [uN_n (by omega)]
    exact a2 j hj
  · rw [uN_s]
    omega
  · by_cases e : j = n0 + k
    · rw [e] at hs2 ⊢
      rw [uN_s] at hs2
      by_cases es : s = cs (n0 + k)
      · rw [es]; exact h0
      · exact a5 (n0 + k) (by omega) (Nat.le_refl _) s (by omega)
    · rw [uN_n e] at hs2
      exact a5 j h1 h2 s hs2
  · by_cases e : j = n0 + k
    · rw [e, uN_s, uN_s]
      omega
    · rw [uN_n e, uN_n (fun z => e (h.inj hw h2 (Nat.le_refl _) z))]
      exact a6 j h1 h2
  · rw [uN_n (fun z => hn (n0 + k) (by omega) (Nat.le_refl _) z.symm)]
    exact a7 d hd kd ld hn
  · have := smC_u (c := c) (v := c (ch (n0 + k)) - 1) a3.1.1 64 a3.1.2
    omega
/-- down into a directory -/
theorem TrS.push (h : TrS V n0 k ch cs c) (hw : WF N V) (hs : cs (n0 + k) < szM V (ch (n0 + k)) / 16) (h1 : sln V (ch (n0 + k)) (cs (n0 + k)) = e) (he0 : e ≠ 0) (ke : f1 V e 0 = 2) : TrS V n0 (k + 1) (uN ch (n0 + k + 1) e) (uN cs (n0 + k + 1) 0) (uN c e (szM V e / 16 + 1)) ∧ smC (uN c e (szM V e / 16 + 1)) 64 < smC c 64 ∧ n0 + k < 63 := by
  obtain ⟨a1, a2, a3, a4, a5, a6, a7⟩ := id h
  have hfn : Fnd V e := by rw [← h1]; exact hw.fnd a3.1 a3.2 hs (by rw [h1]; exact he0)
  have fr : ∀ j, j ≤ n0 + k → ch j ≠ e := fun j hj z => by
    cases j with
    | zero =>
      rw [a1] at z
      exact hw.n1 a3.1 a3.2 hs (by rw [h1, ← z])
    | succ j =>
      obtain ⟨b1, b2, b3, b4⟩ := a2 j (by omega)
      have q := one_name hw hfn.1 ke b1 b2 b3 (b4.trans z) a3.1 a3.2 hs h1
      have := h.inj hw (show j ≤ n0 + k by omega) (Nat.le_refl _) q.1
      omega
  have hce := a7 e hfn.1 ke hfn.2.2 (fun j _ hj => fr j hj)
  refine ⟨⟨by rw [uN_n (by omega)]; exact a1, fun j hj => ?_, ?_, ?_, fun j j1 j2 s hs2 => ?_, fun j j1 j2 => ?_, fun d hd kd ld hn => ?_⟩, ?_, ?_⟩
  · by_cases ej : j = n0 + k
    · rw [ej, uN_n (by omega), uN_n (by omega), uN_s]
      exact ⟨a3.1, a3.2, hs, h1⟩
    · rw [uN_n (by omega), uN_n (by omega), uN_n (by omega)]
      exact a2 j (by omega)
  · rw [← Nat.add_assoc, uN_s]
    exact ⟨hfn.1, ke⟩
  · rw [← Nat.add_assoc, uN_s, uN_s]
    exact Nat.zero_le _
  · by_cases ej : j = n0 + k + 1
    · rw [ej, uN_s] at hs2
      exact absurd hs2 (Nat.not_lt_zero _)
    · rw [uN_n ej] at hs2 ⊢
      exact a5 j j1 (by omega) s hs2
  · by_cases ej : j = n0 + k + 1
    · rw [ej, uN_s, uN_s, uN_s]
    · rw [uN_n ej, uN_n ej, uN_n (fr j (by omega))]
      exact a6 j j1 (by omega)
  · have q := hn (n0 + k + 1) (by omega) (Nat.le_refl _)
    rw [uN_s] at q
    rw [uN_n (fun z => q z.symm)]
    refine a7 d hd kd ld (fun j j1 j2 => ?_)
    have q2 := hn j j1 (by omega)
    rw [uN_n (by omega)] at q2
    exact q2
  · have := smC_u (c := c) (v := szM V e / 16 + 1) hfn.1.1 64 hfn.1.2
    omega
  · have hp := pigeon 64 (n0 + k + 2) (fun j => if j ≤ n0 + k then ch j - 1 else e - 1) (fun j hj => ?_) (fun i j hi hj he => ?_)
    · omega
    · show (if j ≤ n0 + k then ch j - 1 else e - 1) < 64
      split
      · next z =>
        obtain ⟨j1, j2⟩ := (h.dr j z).1
        omega
      · have := hfn.1.1
        have := hfn.1.2
        omega
    · have he : (if i ≤ n0 + k then ch i - 1 else e - 1) = (if j ≤ n0 + k then ch j - 1 else e - 1) := he
      have e1 := hfn.1.1
      by_cases ci : i ≤ n0 + k
      · have i1 := (h.dr i ci).1.1
        rw [if_pos ci] at he
        by_cases cj : j ≤ n0 + k
        · have j1 := (h.dr j cj).1.1
          rw [if_pos cj] at he
          exact h.inj hw ci cj (by omega)
        · rw [if_neg cj] at he
          exact absurd (show ch i = e by omega) (fr i ci)
      · rw [if_neg ci] at he
        by_cases cj : j ≤ n0 + k
        · have j1 := (h.dr j cj).1.1
          rw [if_pos cj] at he
          exact absurd (show ch j = e by omega) (fr j cj)
        · omega
/-- a name at the top goes -/
theorem TrS.rm {k' : Nat} (h : TrS V n0 k ch cs c) (hk' : k' ≤ k) (hkk : k' = k ∨ (k' + 1 = k ∧ t = ch (n0 + k))) (hfr : ∀ j, j ≤ n0 + k' → ch j ≠ t) (hs : cs (n0 + k') < szM V (ch (n0 + k')) / 16) (w1 : ∀ j, ir j → j ≠ t → f1 W j 0 = f1 V j 0 ∧ f1 W j 1 = f1 V j 1 ∧ szM W j = szM V j) (w2 : ∀ d' s', ir d' → d' ≠ t → f1 V d' 0 = 2 → s' < szM V d' / 16 → ¬ (d' = ch (n0 + k') ∧ s' = cs (n0 + k')) → sln W d' s' = sln V d' s') (w3 : sln W (ch (n0 + k')) (cs (n0 + k')) = 0) (w4 : ¬ (f1 W t 0 = 2 ∧ 1 ≤ f1 W t 1)) (hw : WF N V) : TrS W n0 k' ch cs c ∧ cs (n0 + k') < szM W (ch (n0 + k')) / 16 := by
  obtain ⟨a1, a2, a3, a4, a5, a6, a7⟩ := id h
  have hir := fun j (hj : j ≤ n0 + k') => h.dr j (by omega)
  have ef := fun j (hj : j ≤ n0 + k') => w1 (ch j) (hir j hj).1 (hfr j hj)
  refine ⟨⟨a1, fun j hj => ?_, ⟨(hir _ (Nat.le_refl _)).1, by rw [(ef _ (Nat.le_refl _)).1]; exact (hir _ (Nat.le_refl _)).2⟩, ?_, fun j j1 j2 s hs2 => ?_, fun j j1 j2 => ?_, fun d hd kd ld hn => ?_⟩, ?_⟩
  · obtain ⟨b1, b2, b3, b4⟩ := a2 j (by omega)
    have e := ef j (by omega)
    rw [e.1, e.2.2, w2 (ch j) (cs j) b1 (hfr j (by omega)) b2 b3 (fun z => h.ne hw j (n0 + k') hj (by omega) z.1)]
    exact ⟨b1, b2, b3, b4⟩
  · rw [(ef _ (Nat.le_refl _)).2.2]
    omega
  · have z := a5 j j1 (by omega) s hs2
    have e := hir j j2
    by_cases c1 : ch j = ch (n0 + k') ∧ s = cs (n0 + k')
    · rw [c1.1, c1.2]; exact w3
    · have hsl : s < szM V (ch j) / 16 := by
        have q := a6 j j1 (by omega)
        by_cases ej : j = n0 + k
        · rw [ej] at hs2 ⊢; omega
        · have := (a2 j (by omega)).2.2.1
          omega
      rw [w2 (ch j) s e.1 (hfr j j2) e.2 hsl c1]
      exact z
  · rw [(ef j j2).2.2]
    exact a6 j j1 (by omega)
  · by_cases ct : d = t
    · rw [ct] at kd ld
      exact absurd ⟨kd, ld⟩ w4
    · have e := w1 d hd ct
      rw [e.1] at kd
      rw [e.2.1] at ld
      rw [e.2.2]
      refine a7 d hd kd ld (fun j j1 j2 => ?_)
      by_cases cj : j ≤ n0 + k'
      · exact hn j j1 cj
      · rcases hkk with q | ⟨q1, q2⟩
        · omega
        · rw [show j = n0 + k by omega, ← q2]
          exact fun z => ct z.symm
  · rw [(ef _ (Nat.le_refl _)).2.2]
    exact hs
end PZM
