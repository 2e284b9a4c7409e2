/-! ===== pure: the file system that is seen is in order ===== -/
section PWJ
variable {N B gr : Nat} {V : Nat → Rw} {m : M5} {tk : Nat → Bool}
def sln (V : Nat → Rw) (d s : Nat) : Nat := n2 (V (pv V d (px (s / 8)))) (16 * (s % 8))
/-- a slot is free and 0, or it has a name of an inode that is there -/
def SlO (V : Nat → Rw) (y : Rw) (a : Nat) : Prop := (n2 y a = 0 ∧ ∀ o, a + 2 ≤ o → o < a + 16 → y o = 0) ∨ (n2 y a ≠ 0 ∧ n2 y a ≤ 64 ∧ f1 V (n2 y a) 0 ≠ 0 ∧ ∃ ln, y (a + 2) = nI ln ∧ nmOk y (a + 3) ln ∧ ∀ o, a + 3 + ln ≤ o → o < a + 16 → y o = 0)
/-- how many slots of d below s, how many slots of directories below d, name i -/
def nmD (V : Nat → Rw) (i d : Nat) : Nat → Nat
  | 0 => 0
  | s + 1 => nmD V i d s + if sln V d s = i then 1 else 0
def nmC (V : Nat → Rw) (i : Nat) : Nat → Nat
  | 0 => 0
  | d + 1 => nmC V i d + if 1 ≤ d ∧ f1 V d 0 = 2 then nmD V i d (szM V d / 16) else 0
def WF (N : Nat) (V : Nat → Rw) : Prop := PW N V ∧ (∀ i, ir i → f1 V i 0 ≤ 2 ∧ PzE V i) ∧ (∀ i, ir i → f1 V i 0 = 0 → ∀ a, a < 32 → ub (V (homeM i)) (startM i + a) = 0) ∧ (∀ k, k < 1024 → btM (V 44) k = if k < 64 ∧ f1 V (k + 1) 0 ≠ 0 then 1 else 0) ∧ (∀ d, ir d → f1 V d 0 = 2 → szM V d % 128 = 0 ∧ ∀ q, q < szM V d / 128 → pv V d (px q) ≠ 0) ∧ (∀ d s, ir d → f1 V d 0 = 2 → s < szM V d / 16 → SlO V (V (pv V d (px (s / 8)))) (16 * (s % 8))) ∧ f1 V 1 0 = 2 ∧ (∀ i, ir i → f1 V i 1 = nmC V i 65 + if i = 1 then 1 else 0) ∧ (∀ i, ir i → f1 V i 0 = 2 → i ≠ 1 → f1 V i 1 ≤ 1) ∧ nmC V 1 65 = 0 ∧ ∀ d s, ir d → f1 V d 0 = 2 → f1 V d 1 = 0 → s < szM V d / 16 → sln V d s = 0
theorem WF.cut {i : Nat} (h : WF N V) (hN1 : 61 ≤ N) (hN : N ≤ 1024) (hn : ∀ c, 43 ≤ c → c < N → nr (V c) = V c) (hi : ir i) : CutH N V i := ⟨hN1, hN, hi.1, hi.2, h.1.1, hn, h.1.pj hi⟩
theorem WF.pz {i : Nat} (h : WF N V) (hi : ir i) : PzE V i := (h.2.1 i hi).2
theorem WF.dsz {d : Nat} (h : WF N V) (hd : ir d) : szM V d ≤ 400000 := (h.pz hd).1
theorem WF.dblk {d s : Nat} (h : WF N V) (hd : ir d) (hk : f1 V d 0 = 2) (hs : s < szM V d / 16) : s / 8 < 4168 ∧ pv V d (px (s / 8)) ≠ 0 ∧ s < 2 ^ 30 := by
  have h1 := h.dsz hd
  obtain ⟨h2, h3⟩ := h.2.2.2.2.1 d hd hk
  exact ⟨by omega, h3 _ (by omega), by omega⟩
theorem WF.slot {d s : Nat} (h : WF N V) (hd : ir d) (hk : f1 V d 0 = 2) (hs : s < szM V d / 16) : sln V d s = 0 ∨ (ir (sln V d s) ∧ f1 V (sln V d s) 0 ≠ 0) := by
  rcases h.2.2.2.2.2.1 d s hd hk hs with q | q
  · exact Or.inl q.1
  · exact Or.inr ⟨⟨by
      have := q.1
      unfold sln
      omega, q.2.1⟩, q.2.2.1⟩
/-- what is seen through W where it is used is V's -/
theorem sl_ag {W : Nat → Rw} {d s : Nat} (h : PW N V) (hN1 : 61 ≤ N) (ag : AgU N V W) (hd : ir d) (hs : s / 8 < 4168) (h0 : pv V d (px (s / 8)) ≠ 0) : blM W d (s / 8) = pv V d (px (s / 8)) ∧ W (blM W d (s / 8)) = V (pv V d (px (s / 8))) := by
  have e : blM W d (s / 8) = pv V d (px (s / 8)) := by
    rw [← bl_pv hs]
    exact rc_ag hN1 ag h.1 hd.2 (h.pto hd).p138 hs (Nat.le_refl _)
  obtain ⟨q1, q2, q3⟩ := ((h.pto hd) _ (px_lt hs)).resolve_left h0
  rw [e]
  exact ⟨rfl, ag _ (by omega) q2 q3⟩
theorem pok_ag {W : Nat → Rw} {i p : Nat} (h : PW N V) (hN1 : 61 ≤ N) (ag : AgU N V W) (hi : ir i) (hp : p < 4168) : pOk N W i p := by
  have hpo := (h.pto hi).pok hN1 hi.2 hp
  have e := fun k (hk : k ≤ levM p) => rc_ag (k := k) hN1 ag h.1 hi.2 (h.pto hi).p138 hp hk
  exact ⟨hp, fun k hk => by rw [e k (by omega)]; exact hpo.2.1 k hk, by unfold blM; rw [e _ (Nat.le_refl _)]; exact hpo.2.2⟩
theorem pok_1024 {W : Nat → Rw} {i p : Nat} (hN : N ≤ 1024) (h : pOk N W i p) : pOk 1024 W i p := ⟨h.1, fun k hk => by
  have := h.2.1 k hk
  omega, by
  have := h.2.2
  omega⟩
theorem sfM_cg {W : Nat → Rw} {tp tq : Nat → Int32} {d st ln n : Nat} (h : PW N V) (hN1 : 61 ≤ N) (ag : AgU N V W) (hd : ir d) (hb : ∀ s, s < n → s / 8 < 4168 ∧ pv V d (px (s / 8)) ≠ 0) (ht : ∀ j, j < 1024 → tq j = tp j) (hl : ln ≤ 13) (hs : st + ln ≤ 1024) : ∀ (k s : Nat), s + k ≤ n → sfM W tq d st ln k s = sfM V tp d st ln k s
  | 0, s, _ => rfl
  | k + 1, s, hk => by
    have hv := sl_ag (s := s) h hN1 (show AgU N V V from fun _ _ _ _ => rfl) hd (hb s (by omega)).1 (hb s (by omega)).2
    have hw := sl_ag h hN1 ag hd (hb s (by omega)).1 (hb s (by omega)).2
    show (if nmE (W (blM W d (s / 8))) tq (16 * (s % 8)) st ln = true then nI s else sfM W tq d st ln k (s + 1)) = (if nmE (V (blM V d (s / 8))) tp (16 * (s % 8)) st ln = true then nI s else sfM V tp d st ln k (s + 1))
    rw [hw.2, hv.2, nmE_c (y2 := V (pv V d (px (s / 8)))) (tp2 := tp) (T := 1024) (fun _ _ => rfl) ht (by omega) hs, sfM_cg h hN1 ag hd hb ht hl hs k (s + 1) (by omega)]
/-- a slot that is found has a name -/
theorem sfM_o {tp : Nat → Int32} {d st ln : Nat} (h : PW N V) (hN1 : 61 ≤ N) (hd : ir d) {n : Nat} (hn : n < 2 ^ 31) (hb : ∀ s, s < n → s / 8 < 4168 ∧ pv V d (px (s / 8)) ≠ 0) : ∀ (k s : Nat), s + k = n → sfM V tp d st ln k s = -1 ∨ ∃ t, s ≤ t ∧ t < n ∧ sfM V tp d st ln k s = nI t ∧ sln V d t ≠ 0
  | 0, s, _ => Or.inl rfl
  | k + 1, s, hk => by
    have hv := sl_ag (s := s) h hN1 (show AgU N V V from fun _ _ _ _ => rfl) hd (hb s (by omega)).1 (hb s (by omega)).2
    have e : sfM V tp d st ln (k + 1) s = (if nmE (V (blM V d (s / 8))) tp (16 * (s % 8)) st ln = true then nI s else sfM V tp d st ln k (s + 1)) := rfl
    rw [e, hv.2]
    by_cases c : nmE (V (pv V d (px (s / 8)))) tp (16 * (s % 8)) st ln = true
    · rw [if_pos c]
      refine Or.inr ⟨s, Nat.le_refl _, by omega, rfl, fun z => ?_⟩
      unfold nmE at c
      rw [if_pos (show n2 (V (pv V d (px (s / 8)))) (16 * (s % 8)) = 0 from z)] at c
      cases c
    · rw [if_neg c]
      rcases sfM_o h hN1 hd hn hb k (s + 1) (by omega) with q | ⟨t, t1, t2, t3, t4⟩
      · exact Or.inl q
      · exact Or.inr ⟨t, by omega, t2, t3, t4⟩
end PWJ
