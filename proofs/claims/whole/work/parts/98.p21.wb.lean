/-! ===== pure: the reference's batch goes into the log ===== -/
section PUX
variable {R : RfT} {N B : Nat}
theorem Dd.of {S T : List Nat} {R0 R' : RfT} {o : Hw} (h : Dd N R0 o R) (f : Fq S T R R') (hW : rWh R' = rWh R) (hs : ∀ j, j ∈ [1, 2, 3, 5, 9, 10, 11, 12, 13, 14, 18, 20, 21, 29, 33, 34] → j ∉ S) (ht : ∀ k, k ∈ [4, 6, 7, 8, 15, 17, 24, 28, 30, 32, 35, 36, 37, 38, 39, 40, 44, 46, 48, 52, 53] → k ∉ T) : Dd N R0 o R' := by
  have es : ∀ j, j ∈ [1, 2, 3, 5, 9, 10, 11, 12, 13, 14, 18, 20, 21, 29, 33, 34] → rS R' j = rS R j := fun j hj => f.1 j (hs j hj)
  have ea : ∀ k, k ∈ [4, 6, 7, 8, 15, 17, 24, 28, 30, 32, 35, 36, 37, 38, 39, 40, 44, 46, 48, 52, 53] → rA R' k = rA R k := fun k hk => f.2.1 k (ht k hk)
  have e1 : ∀ j, j ∈ [1, 2, 3, 5] → rS R' j = rS R j := fun j hj => es j (List.mem_append.mpr (Or.inl hj) : j ∈ [1, 2, 3, 5] ++ [9, 10, 11, 12, 13, 14, 18, 20, 21, 29, 33, 34])
  unfold Dd Gone RF rOk rDb rWk RDk ByX at h ⊢
  rw [es 2 (by decide), es 9 (by decide), es 10 (by decide), es 11 (by decide), es 12 (by decide), es 13 (by decide), es 14 (by decide), es 18 (by decide), es 20 (by decide), hW, es 21 (by decide), es 29 (by decide), es 33 (by decide), es 34 (by decide), ea 4 (by decide), ea 6 (by decide), ea 7 (by decide), ea 8 (by decide), ea 15 (by decide), ea 17 (by decide), ea 24 (by decide), ea 28 (by decide), ea 30 (by decide), ea 32 (by decide), ea 35 (by decide), ea 36 (by decide), ea 37 (by decide), ea 38 (by decide), ea 39 (by decide), ea 40 (by decide), ea 44 (by decide), ea 46 (by decide), ea 48 (by decide), ea 52 (by decide), ea 53 (by decide)]
  obtain ⟨⟨a1, a2, a3, a5, a6, a7, a8, a9, a10, a11, a12⟩, h2, h3⟩ := h
  exact ⟨⟨a1, a2, a3, a5, a6, a7, a8, a9, a10, fun j hj => (e1 j hj).trans (a11 j hj), a12⟩, h2, h3⟩
theorem z_hand81 {t k : Nat} {x : Rw} {h : Hw} (hN : N ≤ 1024) (hr : RH N B h R) (hw : WkO N R) (ht : t < N) (hsp : hSp h + 1 < 2 ^ 31) (hj : Byt (rA R 46)) (hk : k < 40) (hx : nr (fl (rA R 46) k) = x) : e_hand_81 R (nI t) (nI (128 * k)) = some (rHand R 46 (128 * k) t) ∧ Ou N B [9, 10, 12, 13, 14, 18, 20] [6, 7, 8, 15, 17, 39, 40] R (aPl N B t x h) (rHand R 46 (128 * k) t) := by
  have ok := hr.ok hw hN
  have ok2 := rHand_ok (j := 46) (a := 128 * k) (t := t) ok (by omega) hj (by decide) (by decide) (by decide) (by decide) (by decide) (by decide) (by decide)
  refine ⟨?_, ?_⟩
  · rw [e_hand_81, gd_t ⟨⟨B, ok⟩, nI_in (by omega) (by decide), nI_nn (by omega), by rw [nI_clamp (by omega)]; omega, hj⟩, nI_clamp (by omega), nI_clamp (by omega)]
  · rcases hr.hand (j := 46) (a := 128 * k) hN ht hsp hj (by decide) hx with ⟨a1, a2, a3⟩ | ⟨a1, a2, a3, a4⟩
    · exact Or.inl ⟨a1, a2, a3⟩
    · exact Or.inr ⟨a1, by rw [a2]; exact a3.dd hw ok2 a4⟩
theorem RLg.note {R' : RfT} {L : List En} {tu : Int32} {t : Nat} {x : Rw} (h : RLg N R L tu) (ht : t < N) (hL : L.length < 40) (e22 : rS R' 22 = rS R 22) (e25 : rS R' 25 = nI (L.length + 1)) (e23 : rA R' 23 = upd (rA R 23) L.length (nI t)) (e38 : rA R' 38 = upd (rA R 38) t (nI L.length)) (e24 : ∀ j, j ≠ L.length → nr (fl (rA R' 24) j) = nr (fl (rA R 24) j)) (e24k : nr (fl (rA R' 24) L.length) = x) (hb : Byt (rA R' 24)) : RLg N R' (L ++ [(t, x)]) tu := by
  obtain ⟨h1, h2, h3, h4, h5, h6⟩ := h
  have hl : (L ++ [(t, x)]).length = L.length + 1 := by
    rw [List.length_append]
    rfl
  refine ⟨by rw [e22, h1], by rw [hl, e25], by omega, fun k hk => ?_, fun b hb => ?_, hb⟩
  · by_cases c : k = L.length
    · have e : lAt (L ++ [(t, x)]) k = (t, x) := by
        rw [c]
        exact lAt_end (k := 0)
      rw [e, c, e23, pk_us]
      exact ⟨rfl, ht, e24k⟩
    · have hk2 : k < L.length := by omega
      rw [lAt_app hk2, e23, pk_un c, e24 k c]
      exact h4 k hk2
  · rw [e38]
    exact (h5 b hb).note
theorem RLg.fq {S T : List Nat} {R' : RfT} {L : List En} {tu : Int32} (h : RLg N R L tu) (f : Fq S T R R') (h22 : 22 ∉ S) (h25 : 25 ∉ S) (h23 : 23 ∉ T) (h24 : 24 ∉ T) (h38 : 38 ∉ T) : RLg N R' L tu := by
  unfold RLg at *
  rw [f.1 22 h22, f.1 25 h25, f.2.1 23 h23, f.2.1 24 h24, f.2.1 38 h38]
  exact h
def tB (R : RfT) (k : Nat) : Nat := (rA R 45 k).toNatClampNeg
theorem RBt.tb {n k : Nat} {M : QC} (h : RBt N R n M) (hN : N ≤ 1024) (hk : k < n) : tB R k < N ∧ rA R 45 k = nI (tB R k) ∧ M (tB R k) = Option.some (nr (fl (rA R 46) k)) := by
  obtain ⟨t, ht, e, e2⟩ := h.2.2.1 k hk
  have et : tB R k = t := by
    unfold tB
    rw [e, nI_clamp (by omega)]
  rw [et]
  exact ⟨ht, e, e2⟩
/-- one entry goes into the log -/
noncomputable def wbB (self : RfT → Int32 → Option (RfT)) (R : RfT) (x1 x2 : Int32) : Option RfT := ld (rA R 45) 40 x2 (fun v46 => stR R 23 40 (rS R 25) v46 (fun R47 => ld (rA R47 45) 40 x2 (fun v48 => stR R47 38 1024 v48 (rS R47 25) (fun R49 => bnd (e_move_81_65 R49 (((128 : Int32)) * (x2)) (((128 : Int32)) * (rS R49 25))) (fun R50 => bnd (e_hand_81 R50 (((3 : Int32)) + (rS R50 25)) (((128 : Int32)) * (x2))) (fun R53 => ptR R53 25 ((rS R53 25) + ((1 : Int32))) (fun R54 => stR R54 45 40 x2 ((-1 : Int32)) (fun R55 => self R55 (x1 + (1 : Int32))))))))))
theorem z_wbB {self : RfT → Int32 → Option (RfT)} {x1 : Int32} {i t : Nat} {x : Rw} {L : List En} {tu : Int32} {hw : Hw} (hN1 : 61 ≤ N) (hN : N ≤ 1024) (hr : RH N B hw R) (hk : WkO N R) (hl : RLg N R L tu) (hsp : hSp hw + 1 < 2 ^ 31) (hi : i < 40) (ht : t < N) (e45 : rA R 45 i = nI t) (hx : nr (fl (rA R 46) i) = x) (hb : Byt (rA R 46)) (hL : L.length < 40) : ∃ Y, wbB self R x1 (nI i) = self Y (x1 + 1) ∧ (((aPl N B (3 + L.length) x hw).1 = true ∧ RH N B (aPl N B (3 + L.length) x hw).2 Y ∧ Fq [25, 9, 10, 12, 13, 14, 18, 20] [23, 24, 38, 45, 6, 7, 8, 15, 17, 39, 40] R Y ∧ RLg N Y (L ++ [(t, x)]) tu ∧ rA Y 45 = upd (rA R 45) i (-1)) ∨ ((aPl N B (3 + L.length) x hw).1 = false ∧ Dd N R (aPl N B (3 + L.length) x hw).2 Y)) := by
  obtain ⟨l1, l2, l3, l4, l5, l6⟩ := id hl
  rw [wbB, ld_n hi (by decide), e45, l2, st_n hL (by decide)]
  generalize hR1 : setA R 23 (upd (rA R 23) L.length (nI t)) = R1
  have e145 : rA R1 45 i = nI t := by
    rw [← hR1]
    exact e45
  have e125 : rS R1 25 = nI L.length := by
    rw [← hR1]
    exact l2
  rw [ld_n hi (by decide), e145, e125, st_n (show t < 1024 by omega) (by decide)]
  generalize hR2 : setA R1 38 (upd (rA R1 38) t (nI L.length)) = R2
  have e225 : rS R2 25 = nI L.length := by
    rw [← hR2]
    exact e125
  have e246 : rA R2 46 = rA R 46 := by
    rw [← hR2, ← hR1]
    rfl
  have e224 : rA R2 24 = rA R 24 := by
    rw [← hR2, ← hR1]
    rfl
  have f2 : Fq [25, 9, 10, 12, 13, 14, 18, 20] [23, 24, 38, 45, 6, 7, 8, 15, 17, 39, 40] R R2 := by
    rw [← hR2, ← hR1]
    exact (Fq.a (by decide)).tr (Fq.a (by decide))
  have hr2 : RH N B hw R2 := by
    rw [← hR2, ← hR1]
    exact (hr.a (by decide)).a (by decide)
  have cp := z_cp81_65 (R := R2) (p := 128 * i) (q := 128 * L.length) (by rw [e246]; exact hb) (by omega) (by omega)
  rw [e225, show (128 : Int32) = nI 128 from rfl, pk_mul, pk_mul, bnd_o cp]
  generalize hR3 : setA R2 24 _ = R3
  have e325 : rS R3 25 = nI L.length := by
    rw [← hR3]
    exact e225
  have f3 : Fq [25, 9, 10, 12, 13, 14, 18, 20] [23, 24, 38, 45, 6, 7, 8, 15, 17, 39, 40] R R3 := by
    rw [← hR3]
    exact f2.tr (Fq.a (by decide))
  have hr3 : RH N B hw R3 := by
    rw [← hR3]
    exact hr2.a (by decide)
  have e346 : rA R3 46 = rA R 46 := f3.2.1 46 (by decide)
  have e324 : rA R3 24 = va_cpy (rA R 46) (rA R 24) (128 * i) (128 * L.length) 128 := by
    rw [← hR3, rA_e, e246, e224]
  have hk3 : WkO N R3 := hk.fq4 f3 (by decide) (by decide) (by decide) (by decide) (by decide) (by rw [e324]; exact hb.cpy l6)
  obtain ⟨hd1, hd2⟩ := z_hand81 (t := 3 + L.length) (k := i) (x := x) hN hr3 hk3 (by omega) hsp (by rw [e346]; exact hb) hi (by rw [e346]; exact hx)
  have hd1 : e_hand_81 R3 (3 + nI L.length) (nI (128 * i)) = some (rHand R3 46 (128 * i) (3 + L.length)) := by
    rw [show (3 : Int32) = nI 3 from rfl, nI_add]
    exact hd1
  rw [e325, bnd_o hd1, ptR, st_n hi (by decide)]
  refine ⟨_, rfl, ?_⟩
  have a38 : ∀ (Z : RfT), rA (setA (setS Z 25 (rS Z 25 + 1)) 45 (upd (rA (setS Z 25 (rS Z 25 + 1)) 45) i (-1))) 45 = upd (rA Z 45) i (-1) := fun Z => rA_e
  rcases hd2 with ⟨a1, a2, a3⟩ | ⟨a1, a2⟩
  · have fh : Fq [25, 9, 10, 12, 13, 14, 18, 20] [23, 24, 38, 45, 6, 7, 8, 15, 17, 39, 40] R3 (rHand R3 46 (128 * i) (3 + L.length)) := a3.wk (by decide) (by decide)
    generalize rHand R3 46 (128 * i) (3 + L.length) = Z at *
    have z25 : rS Z 25 = nI L.length := by rw [a3.1 25 (by decide), e325]
    have z45 : rA Z 45 = rA R 45 := by
      rw [a3.2.1 45 (by decide), ← hR3, ← hR2, ← hR1]
      rfl
    refine Or.inl ⟨a1, (a2.s (by decide)).a (by decide), (f3.tr fh).tr ((Fq.s (by decide)).tr (Fq.a (by decide))), ?_, by rw [a38, z45]⟩
    have z24 : rA Z 24 = va_cpy (rA R 46) (rA R 24) (128 * i) (128 * L.length) 128 := by rw [a3.2.1 24 (by decide), e324]
    refine hl.note ht hL ?_ ?_ ?_ ?_ (fun j hj => ?_) ?_ ?_
    · show upd Z.1 25 (rS Z 25 + 1) 22 = _
      rw [pk_un (by decide)]
      exact (a3.1 22 (by decide)).trans (f3.1 22 (by decide))
    · show upd Z.1 25 (rS Z 25 + 1) 25 = _
      rw [pk_us, z25, nI_1]
    · show rA Z 23 = _
      rw [a3.2.1 23 (by decide), ← hR3, ← hR2, ← hR1]
      rfl
    · show rA Z 38 = _
      rw [a3.2.1 38 (by decide), ← hR3, ← hR2, ← hR1]
      rfl
    · show nr (fl (rA Z 24) j) = _
      rw [z24]
      exact fl_out hj
    · show nr (fl (rA Z 24) L.length) = _
      rw [z24, fl_in]
      exact hx
    · show Byt (rA Z 24)
      rw [z24]
      exact hb.cpy l6
  · refine Or.inr ⟨a1, (a2.fq f3 (by decide) (by decide)).of (S := [25]) (T := [45]) ((Fq.s (by decide)).tr (Fq.a (by decide))) rfl (by decide) (by decide)⟩
/-- the least that is left is found -/
theorem z_wb39 {self : RfT → Int32 → Option (RfT)} {x1 : Int32} {n u : Nat} {tk : Nat → Nat} (h47 : rS R 47 = nI n) (hn : n ≤ 40) (htk : ∀ k, k < n → tk k < 1024) (h45 : ∀ k, k < n → rA R 45 k = if tk k < u then -1 else nI (tk k)) (hex : ¬ ∀ i, i < n → tk i < u) : ∀ (m k : Nat) (x2 : Int32), k ≤ n → n - k < m → ((x2 = -1 ∧ ∀ i, i < k → tk i < u) ∨ ∃ i, i < k ∧ x2 = nI i ∧ u ≤ tk i ∧ ∀ j, j < k → u ≤ tk j → tk i ≤ tk j) → ∃ i, i < n ∧ u ≤ tk i ∧ (∀ j, j < n → u ≤ tk j → tk i ≤ tk j) ∧ e_writeBatch_39 self m R x1 x2 (nI k) = wbB self R x1 (nI i) := by
  intro m
  induction m with
  | zero => intro k _ _ h; exact absurd h (Nat.not_lt_zero _)
  | succ m ih =>
    intro k x2 hk hm hi
    rw [e_writeBatch_39, h47]
    by_cases c1 : k = n
    · subst c1
      rw [if_pos (nI_le (Nat.le_refl _) (by omega))]
      rcases hi with ⟨-, hi⟩ | ⟨i, i1, i2, i3, i4⟩
      · exact absurd hi hex
      · exact ⟨i, i1, i3, i4, by rw [i2]; rfl⟩
    · have hkn : k < n := by omega
      have htk1 := htk k hkn
      rw [if_neg (nI_ge (by omega) (by omega)), ld_n (by omega) (by decide), h45 k hkn, nI_1]
      by_cases c2 : tk k < u
      · rw [if_pos c2, if_pos rfl]
        refine ih (k + 1) x2 (by omega) (by omega) ?_
        rcases hi with ⟨h1, h2⟩ | ⟨i, i1, i2, i3, i4⟩
        · refine Or.inl ⟨h1, fun i hi => ?_⟩
          by_cases c3 : i = k
          · rw [c3]
            exact c2
          · exact h2 i (by omega)
        · refine Or.inr ⟨i, by omega, i2, i3, fun j hj hu => ?_⟩
          by_cases c3 : j = k
          · rw [c3] at hu
            omega
          · exact i4 j (by omega) hu
      · rw [if_neg c2, if_neg (nI_m1 (by omega))]
        rcases hi with ⟨h1, h2⟩ | ⟨i, i1, i2, i3, i4⟩
        · rw [if_pos h1]
          refine ih (k + 1) (nI k) (by omega) (by omega) (Or.inr ⟨k, by omega, rfl, by omega, fun j hj hu => ?_⟩)
          by_cases c3 : j = k
          · rw [c3]
            exact Nat.le_refl _
          · have := h2 j (by omega)
            omega
        · have hti := htk i (by omega)
          rw [if_neg (by rw [i2]; exact nI_m1 (by omega)), ld_n (by omega) (by decide), i2, ld_n (by omega) (by decide), h45 k hkn, h45 i (by omega), if_neg c2, if_neg (show ¬ tk i < u by omega)]
          by_cases c4 : tk i ≤ tk k
          · rw [if_pos (nI_le c4 (by omega))]
            refine ih (k + 1) (nI i) (by omega) (by omega) (Or.inr ⟨i, by omega, rfl, i3, fun j hj hu => ?_⟩)
            by_cases c3 : j = k
            · rw [c3]
              exact c4
            · exact i4 j (by omega) hu
          · rw [if_neg (nI_ge (by omega) (by omega))]
            refine ih (k + 1) (nI k) (by omega) (by omega) (Or.inr ⟨k, by omega, rfl, by omega, fun j hj hu => ?_⟩)
            by_cases c3 : j = k
            · rw [c3]
              exact Nat.le_refl _
            · have := i4 j (by omega) hu
              omega
theorem bList_skip {M : QC} {u : Nat} : ∀ t, u ≤ t → (∀ b, u ≤ b → b < t → M b = none) → bList M t = bList M u
  | 0, h, _ => by rw [Nat.le_zero.mp h]
  | t + 1, h, e => by
    by_cases c : u = t + 1
    · rw [c]
    · rw [bList_n (e t (by omega) (by omega)), bList_skip t (by omega) (fun b h1 h2 => e b h1 (by omega))]
theorem bList_pre {M : QC} {u : Nat} : ∀ t, u ≤ t → ∃ l, bList M t = bList M u ++ l
  | 0, h => ⟨[], by rw [Nat.le_zero.mp h]; rfl⟩
  | t + 1, h => by
    by_cases c : u = t + 1
    · exact ⟨[], by rw [c, List.append_nil]⟩
    · obtain ⟨l, e⟩ := bList_pre (M := M) t (show u ≤ t by omega)
      cases hm : M t with
      | none => exact ⟨l, by rw [bList_n hm, e]⟩
      | some x => exact ⟨l ++ [(t, x)], by rw [bList_s hm, e, List.append_assoc]⟩
noncomputable def wbE (R : RfT) : Option RfT := if (rS R 11) = 0 then some R else bnd (e_empty R) (fun R38 => e_writeBatch_199 fuL R38 ((0 : Int32)))
theorem z_wb20 {R0 : RfT} {n : Nat} {M : QC} {L : List En} {tu : Int32} (hN1 : 61 ≤ N) (hN : N ≤ 1024) (hb : RBt N R0 n M) (hLn : L.length + n ≤ 40) : ∀ (m u : Nat) (X : RfT) (hw : Hw) (l : List En), u ≤ N → bList M N = bList M u ++ l → l.length < m → RH N B hw X → WkO N X → RLg N X (L ++ bList M u) tu → rS X 47 = nI n → rA X 46 = rA R0 46 → (∀ k, k < n → rA X 45 k = if tB R0 k < u then -1 else nI (tB R0 k)) → hSp hw + l.length < 2 ^ 31 → ∃ Y, e_writeBatch_20 m X (nI (bList M u).length) = wbE Y ∧ (((mVals N B (L ++ bList M u).length l hw).1 = true ∧ RH N B (mVals N B (L ++ bList M u).length l hw).2 Y ∧ Fq [25, 9, 10, 12, 13, 14, 18, 20] [23, 24, 38, 45, 6, 7, 8, 15, 17, 39, 40] X Y ∧ RLg N Y (L ++ bList M N) tu) ∨ ((mVals N B (L ++ bList M u).length l hw).1 = false ∧ Dd N X (mVals N B (L ++ bList M u).length l hw).2 Y)) := by
  have hlen : (bList M N).length = n := by rw [bList_len, hb.len hN]
  intro m
  induction m with
  | zero => intro u _ _ _ _ _ h; exact absurd h (Nat.not_lt_zero _)
  | succ m ih =>
    intro u X hw l hu el hm hr hk hl e47 e46 e45 hsp
    have hl2 : (bList M u).length + l.length = n := by rw [← hlen, el, List.length_append]
    have hl3 : (L ++ bList M u).length = L.length + (bList M u).length := List.length_append
    rw [e_writeBatch_20, e47]
    cases l with
    | nil =>
      have hl2 : (bList M u).length + 0 = n := hl2
      rw [if_pos (nI_le (by omega) (by omega))]
      refine ⟨X, rfl, Or.inl ⟨rfl, hr, Fq.rf, ?_⟩⟩
      rw [el, List.append_nil]
      exact hl
    | cons p l =>
      have hl2 : (bList M u).length + (l.length + 1) = n := hl2
      have hm : l.length + 1 < m + 1 := hm
      have hsp : hSp hw + (l.length + 1) < 2 ^ 31 := hsp
      rw [if_neg (nI_ge (by omega) (by omega)), if_neg hr.on]
      have hex : ¬ ∀ i, i < n → tB R0 i < u := fun z => by
        have : bList M N = bList M u := bList_skip N hu (fun b h1 h2 => by
          cases hm : M b with
          | none => rfl
          | some x =>
            obtain ⟨k, k1, k2⟩ := hb.2.2.2.2.1 b (by rw [hm]; exact Option.some_ne_none x)
            have := z k k1
            have k2 : tB R0 k = b := k2
            omega)
        rw [this] at hlen
        omega
      have htk : ∀ k, k < n → tB R0 k < 1024 := fun k hk => by
        have := (hb.tb hN hk).1
        omega
      have hn40 := hb.2.1
      obtain ⟨i, i1, i2, i3, i4⟩ := z_wb39 (R := X) (self := e_writeBatch_20 m) (x1 := nI (bList M u).length) (u := u) (tk := tB R0) e47 hb.2.1 htk e45 hex fuL 0 (-1) (Nat.zero_le _) (by rw [fuL_4]; omega) (Or.inl ⟨rfl, fun i hi => absurd hi (Nat.not_lt_zero _)⟩)
      have i4 : e_writeBatch_39 (e_writeBatch_20 m) fuL X (nI (bList M u).length) (-1) 0 = wbB (e_writeBatch_20 m) X (nI (bList M u).length) (nI i) := i4
      obtain ⟨t1, t2, t3⟩ := hb.tb hN i1
      have x45 : rA X 45 i = nI (tB R0 i) := by rw [e45 i i1, if_neg (by omega)]
      have hbt : bList M (tB R0 i) = bList M u := bList_skip _ i2 (fun b h1 h2 => by
        cases hm : M b with
        | none => rfl
        | some x =>
          obtain ⟨k, k1, k2⟩ := hb.2.2.2.2.1 b (by rw [hm]; exact Option.some_ne_none x)
          have k2 : tB R0 k = b := k2
          have := i3 k k1 (by omega)
          omega)
      have hbt1 : bList M (tB R0 i + 1) = bList M u ++ [(tB R0 i, nr (fl (rA R0 46) i))] := by rw [bList_s t3, hbt]
      obtain ⟨l', hl'⟩ := bList_pre (M := M) (u := tB R0 i + 1) N (by omega)
      have hpl : p = (tB R0 i, nr (fl (rA R0 46) i)) ∧ l = l' := by
        have e := el.symm.trans hl'
        rw [hbt1, List.append_assoc] at e
        have e := List.append_cancel_left e
        exact ⟨(List.cons.inj e).1, (List.cons.inj e).2⟩
      obtain ⟨ep, rfl⟩ := hpl
      have ep2 : p.2 = nr (fl (rA R0 46) i) := by rw [ep]
      obtain ⟨Y, y1, y2⟩ := z_wbB (self := e_writeBatch_20 m) (x1 := nI (bList M u).length) (i := i) (t := tB R0 i) (x := nr (fl (rA R0 46) i)) hN1 hN hr hk hl (by omega) (by omega) t1 x45 (by rw [e46]) (by rw [e46]; exact hb.2.2.2.2.2) (by rw [hl3]; omega)
      have mv : mVals N B (L ++ bList M u).length (p :: l) hw = hB (aPl N B (3 + (L ++ bList M u).length) (nr (fl (rA R0 46) i)) hw) (mVals N B ((L ++ bList M u).length + 1) l) := by
        rw [← ep2]
        rfl
      rw [i4, y1, mv, nI_1]
      have hbl : (bList M (tB R0 i + 1)).length = (bList M u).length + 1 := by
        rw [hbt1, List.length_append]
        rfl
      rcases y2 with ⟨a1, a2, a3, a4, a5⟩ | ⟨a1, a2⟩
      · rw [hB_t a1]
        have hsp3 : hSp (aPl N B (3 + (L ++ bList M u).length) (nr (fl (rA R0 46) i)) hw).2 ≤ hSp hw + 1 := aPl_sp
        have a4 : RLg N Y (L ++ bList M (tB R0 i + 1)) tu := by
          rw [hbt1, ← List.append_assoc]
          exact a4
        obtain ⟨Z, z1, z2⟩ := ih (tB R0 i + 1) Y (aPl N B (3 + (L ++ bList M u).length) (nr (fl (rA R0 46) i)) hw).2 l (by omega) hl' (by omega) a2 (hk.fq4 a3 (by decide) (by decide) (by decide) (by decide) (by decide) a4.2.2.2.2.2) a4 (by rw [a3.1 47 (by decide), e47]) (by rw [a3.2.1 46 (by decide), e46]) (fun k hk => by
          rw [a5]
          by_cases c : k = i
          · rw [c, pk_us, if_pos (by omega)]
          · rw [pk_un c, e45 k hk]
            by_cases c2 : tB R0 k < u
            · rw [if_pos c2, if_pos (by omega)]
            · have := i3 k hk (by omega)
              have hne : tB R0 k ≠ tB R0 i := fun z => c (hb.2.2.2.1 k i hk i1 (by rw [(hb.tb hN hk).2.1, t2, z]))
              rw [if_neg c2, if_neg (by omega)]) (by omega)
        rw [hbl] at z1
        have ez : (L ++ bList M (tB R0 i + 1)).length = (L ++ bList M u).length + 1 := by
          rw [List.length_append, hbl, hl3]
          omega
        rw [ez] at z2
        refine ⟨Z, z1, ?_⟩
        rcases z2 with ⟨b1, b2, b3, b4⟩ | ⟨b1, b2⟩
        · exact Or.inl ⟨b1, b2, a3.tr b3, b4⟩
        · exact Or.inr ⟨b1, b2.fq a3 (by decide) (by decide)⟩
      · rw [hB_f a1]
        have a11 : rS Y 11 = 0 := a2.1.1
        refine ⟨Y, ?_, Or.inr ⟨a1, a2⟩⟩
        obtain ⟨m2, rfl⟩ : ∃ m2, m = m2 + 1 := ⟨m - 1, by omega⟩
        rw [e_writeBatch_20, wbE, if_pos a11]
        by_cases c3 : rS Y 47 ≤ nI ((bList M u).length + 1)
        · rw [if_pos c3]
        · rw [if_neg c3, if_pos a11]
end PUX
