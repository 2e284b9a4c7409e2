/-! ===== pure: the reference flushes its queue ===== -/
section PUZ
variable {R : RfT} {N B : Nat}
theorem mStep_all (hN1 : 61 ≤ N) {bt L : List En} {tu : Int32} {hw : Hw} (ho : HOk N B hw) (hd : LgD hw L) (hL : L.length ≤ 40) (hb : bt.length ≤ 40) (h43 : ∀ p ∈ bt, 43 ≤ p.1) (ht : (mStep N B bt (hw, L, tu)).1 = true) : HOk N B (mStep N B bt (hw, L, tu)).2.1 ∧ LgD (mStep N B bt (hw, L, tu)).2.1 (mStep N B bt (hw, L, tu)).2.2.1 ∧ hSp (mStep N B bt (hw, L, tu)).2.1 ≤ hSp hw + 100 := by
  by_cases c : 40 < L.length + bt.length
  · obtain ⟨q1, q2, q3, q4⟩ := aApl_all (B := B) (tu := tu) hN1 ho hd
    cases ha : (aApl N B L tu hw).1 with
    | false =>
      rw [mStep_a1 c ha] at ht
      cases ht
    | true =>
      rw [mStep_a2 c ha] at ht ⊢
      have ht : (mApp N B (lApl L tu).1 (lApl L tu).2 bt (aApl N B L tu hw).2).1 = true := ht
      obtain ⟨m1, m2, -⟩ := mApp_all (B := B) hN1 (L := (lApl L tu).1) (bt := bt) (tu := (lApl L tu).2) q1 (by omega)
      have ml := mApp_ld (B := B) hN1 (L := (lApl L tu).1) (bt := bt) (tu := (lApl L tu).2) q1 (by omega) q3 h43 ht
      refine ⟨m1, ml, ?_⟩
      show hSp (mApp N B (lApl L tu).1 (lApl L tu).2 bt (aApl N B L tu hw).2).2 ≤ _
      omega
  · rw [mStep_b c] at ht ⊢
    have ht : (mApp N B L tu bt hw).1 = true := ht
    obtain ⟨m1, m2, -⟩ := mApp_all (B := B) hN1 (L := L) (bt := bt) (tu := tu) ho (by omega)
    have ml := mApp_ld (B := B) hN1 (L := L) (bt := bt) (tu := tu) ho (by omega) hd h43 ht
    refine ⟨m1, ml, ?_⟩
    show hSp (mApp N B L tu bt hw).2 ≤ _
    omega
/-- the reference's queue -/
def RQu (N : Nat) (R : RfT) (qs : List QC) : Prop := rS R 29 = nI qs.length ∧ qs.length ≤ 16 ∧ (∀ c, c < qs.length → ∃ s, QcR N R c s (qAt qs c)) ∧ Byt (rA R 28) ∧ ∀ b, b < 1024 → (rA R 37 b = -1 ∧ qVal qs b = none) ∨ ∃ k, k < 64 * qs.length ∧ rA R 37 b = nI k ∧ qVal qs b = some (nr (fl (rA R 28) k))
/-- its rests -/
def RRs (R : RfT) (rs : Nat → Nat) : Prop := ∀ b, b < 1024 → rA R 35 b = nI (rs b) ∧ rs b < 3
theorem lt3 {r : Nat} (h : r < 3) : r = 0 ∨ r = 1 ∨ r = 2 := by omega
theorem nar3 {r : Nat} (h : r < 3) : vp_nar .byte (nI r) = nI r := by
  rcases lt3 h with rfl | rfl | rfl <;> decide
theorem z_fq88 {rs : Nat → Nat} {v : Int32} (hr : RRs R rs) : ∀ (m k : Nat) (X : RfT), k ≤ 1024 → 1024 - k < m → Fn [] [35] R X → (∀ b, b < 1024 → rA X 35 b = nI (if b < k ∧ rs b = 1 then 0 else rs b)) → ∃ R', e_flushQueue_88 m X v (nI k) = some (v, R') ∧ Fn [] [35] R R' ∧ RRs R' (fun b => if rs b = 1 then 0 else rs b) := by
  intro m
  induction m with
  | zero => intro k _ _ h; exact absurd h (Nat.not_lt_zero _)
  | succ m ih =>
    intro k X hk hm f h35
    rw [e_flushQueue_88]
    by_cases c : k = 1024
    · rw [c, if_pos (show (1024 : Int32) ≤ nI 1024 from nI_le (a := 1024) (b := 1024) (by decide) (by decide))]
      refine ⟨X, rfl, f, fun b hb => ?_⟩
      have h3 := (hr b hb).2
      rw [h35 b hb, c]
      show nI _ = nI (if rs b = 1 then 0 else rs b) ∧ (if rs b = 1 then 0 else rs b) < 3
      by_cases c2 : rs b = 1
      · rw [if_pos ⟨hb, c2⟩, if_pos c2]
        exact ⟨rfl, by decide⟩
      · rw [if_neg (fun z => c2 z.2), if_neg c2]
        exact ⟨rfl, h3⟩
    · have hkl : k < 1024 := by omega
      have h3 := (hr k hkl).2
      have hx := h35 k hkl
      rw [if_neg (fun z => absurd z.1 (Nat.lt_irrefl k))] at hx
      have key : ∀ w : Int32, w = nI (if rs k = 1 then 0 else rs k) → ∃ R', e_flushQueue_88 m (setA X 35 (upd (rA X 35) k w)) v (nI (k + 1)) = some (v, R') ∧ Fn [] [35] R R' ∧ RRs R' (fun b => if rs b = 1 then 0 else rs b) := fun w hw => by
        refine ih (k + 1) _ (by omega) (by omega) (f.tr (Fn.a (by decide))) (fun b hb => ?_)
        rw [rA_e]
        by_cases c3 : b = k
        · rw [c3, pk_us, hw]
          by_cases c4 : rs k = 1
          · rw [if_pos c4, if_pos ⟨Nat.lt_succ_self k, c4⟩]
          · rw [if_neg c4, if_neg (fun z => c4 z.2)]
        · rw [pk_un c3, h35 b hb]
          congr 1
          by_cases c4 : b < k ∧ rs b = 1
          · rw [if_pos c4, if_pos ⟨by omega, c4.2⟩]
          · rw [if_neg c4, if_neg (fun z => c4 ⟨by omega, z.2⟩)]
      rw [if_neg (show ¬ (1024 : Int32) ≤ nI k from nI_ge (a := k) (b := 1024) (by omega) (by decide)), ld_n hkl (by decide), hx, nI_1]
      by_cases c2 : rs k = 1
      · rw [c2, if_pos (show nI 1 = 1 from rfl), st_n hkl (by decide)]
        exact key _ (by rw [if_pos c2]; exact nar0)
      · rw [if_neg (show ¬ nI (rs k) = 1 from fun z => c2 (nI_inj (b := 1) (by omega) (by decide) z)), ld_n hkl (by decide), hx, st_n hkl (by decide)]
        exact key _ (by rw [if_neg c2]; exact nar3 h3)
/-- a batch is filled -/
theorem z_fq24 {self : RfT → Int32 → Option (Int32 × RfT)} {qs : List QC} (hN : N ≤ 1024) (hq : RQu N R qs) : ∀ (m c n : Nat) (M : QC) (X : RfT), c ≤ qs.length → qs.length - c < m → RBt N X n M → Fn [47] [45, 46] R X → ∃ X' c' n' M', e_flushQueue_24 self m X (nI c) = bnd (e_writeBatch X') (fun R' => self R' (nI c')) ∧ RBt N X' n' M' ∧ qFill N (qs.drop c) (bList M N) = (bList M' N, qs.drop c') ∧ Fn [47] [45, 46] R X' ∧ c ≤ c' ∧ c' ≤ qs.length := by
  obtain ⟨q1, q2, q3, q4, q5⟩ := hq
  intro m
  induction m with
  | zero => intro c _ _ _ _ h; exact absurd h (Nat.not_lt_zero _)
  | succ m ih =>
    intro c n M X hc hm hb f
    have hb2 := hb.2.1
    rw [e_flushQueue_24, f.1.1 29 (by decide), q1]
    by_cases c1 : c = qs.length
    · rw [c1, if_pos (nI_le (Nat.le_refl _) (by omega)), List.drop_length]
      exact ⟨X, qs.length, n, M, rfl, hb, by rw [List.drop_length]; rfl, f, Nat.le_refl _, Nat.le_refl _⟩
    · obtain ⟨s, hs⟩ := q3 c (by omega)
      have hsX := hs.fq f.1 (by decide) (by decide) (by decide)
      have hs40 := hsX.2.2.1
      have hfr := frC_le (R := X) (M := M) (c := c) s
      have hj : bJoin N (bList M N) (qAt qs c) = bList (ovK X M c s) N := (bJoin_eq (bList_srt N) (fun b => by
        rw [bList_val]
        by_cases cb : b < N
        · rw [if_pos cb, if_pos cb, ovK_all hsX hN b]
          unfold qOv
          rw [bList_val, if_pos cb]
          all_goals rfl
        · rw [if_neg cb, if_neg cb])).symm
      have hjl : (bJoin N (bList M N) (qAt qs c)).length = n + frC X M c s := by rw [hj, bList_len, ovK_len hsX hN s (Nat.le_refl _), hb.len hN]
      rw [if_neg (nI_ge (by omega) (by omega)), bnd_o (z_fresh hb hsX hN), hb.1, nI_add, qAt_drop (show c < qs.length by omega)]
      by_cases c2 : n + frC X M c s ≤ 40
      · rw [if_neg (show ¬ (40 : Int32) < nI (n + frC X M c s) from fun z => absurd (nI_le (a := n + frC X M c s) (b := 40) c2 (by decide)) (Int32.not_le.mpr z)), qFill_t (by rw [hjl]; exact c2), hj]
        obtain ⟨X1, x1, x2, x3⟩ := z_join hb hsX hN (by rw [f.1.2.1 28 (by decide)]; exact q4) c2
        rw [bnd_o x1, nI_1]
        obtain ⟨X', c', n', M', y1, y2, y3, y4, y5, y6⟩ := ih (c + 1) _ _ X1 (by omega) (by omega) x2 (f.tr x3)
        exact ⟨X', c', n', M', y1, y2, y3, y4, by omega, y6⟩
      · rw [if_pos (show (40 : Int32) < nI (n + frC X M c s) from Int32.not_le.mp (nI_ge (a := 40) (by omega) (by omega))), qFill_f (by rw [hjl]; exact c2)]
        exact ⟨X, c, n, M, rfl, hb, by rw [qAt_drop (show c < qs.length by omega)], f, Nat.le_refl _, hc⟩
theorem RQu.fq {S T : List Nat} {R' : RfT} {qs : List QC} (h : RQu N R qs) (f : Fq S T R R') (h29 : 29 ∉ S) (h26 : 26 ∉ T) (h27 : 27 ∉ T) (h28 : 28 ∉ T) (h37 : 37 ∉ T) : RQu N R' qs := by
  obtain ⟨q1, q2, q3, q4, q5⟩ := h
  refine ⟨by rw [f.1 29 h29, q1], q2, fun c hc => ?_, by rw [f.2.1 28 h28]; exact q4, fun b hb => by rw [f.2.1 37 h37, f.2.1 28 h28]; exact q5 b hb⟩
  obtain ⟨s, hs⟩ := q3 c hc
  exact ⟨s, hs.fq f h26 h27 h28⟩
theorem RRs.fq {S T : List Nat} {R' : RfT} {rs : Nat → Nat} (h : RRs R rs) (f : Fq S T R R') (h35 : 35 ∉ T) : RRs R' rs := fun b hb => by
  rw [f.2.1 35 h35]
  exact h b hb
theorem z_fq2 {qs : List QC} {rs : Nat → Nat} (hN1 : 61 ≤ N) (hN : N ≤ 1024) (h43 : ∀ q ∈ qs, ∀ b x, q b = some x → 43 ≤ b) : ∀ (m k c : Nat) (R : RfT) (hw : Hw) (L : List En) (tu : Int32), c ≤ qs.length → qs.length - c + 1 < m → qs.length - c ≤ k → RQu N R qs → RRs R rs → RH N B hw R → WkO N R → RLg N R L tu → HOk N B hw → LgD hw L → Byt (rA R 46) → hSp hw + 100 * (qs.length - c) + 200 < 2 ^ 31 → ∃ v R', e_flushQueue_2 m R (nI c) = some (v, R') ∧ (((mFl N B k (qs.drop c) (hw, L, tu)).1 = true ∧ v = nI qs.length ∧ RH N B (mFl N B k (qs.drop c) (hw, L, tu)).2.1 R' ∧ RLg N R' (mFl N B k (qs.drop c) (hw, L, tu)).2.2.1 (mFl N B k (qs.drop c) (hw, L, tu)).2.2.2 ∧ RQu N R' [] ∧ RRs R' (fun b => if rs b = 1 then 0 else rs b) ∧ Fq [29, 47, 22, 25, 9, 10, 12, 13, 14, 18, 20] [35, 37, 46, 23, 24, 38, 44, 45, 6, 7, 8, 15, 17, 39, 40] R R' ∧ Byt (rA R' 46)) ∨ ((mFl N B k (qs.drop c) (hw, L, tu)).1 = false ∧ Dd N R (mFl N B k (qs.drop c) (hw, L, tu)).2.1 R')) := by
  intro m
  induction m with
  | zero => intro k c R _ _ _ _ h; exact absurd h (Nat.not_lt_zero _)
  | succ m ih =>
    intro k c R hw L tu hc hm hk hq hrs hr hwk hl ho hd hb46 hsp
    obtain ⟨q1, q2, q3, q4, q5⟩ := id hq
    rw [e_flushQueue_2, if_neg hr.on, q1]
    by_cases c1 : c = qs.length
    · have em : mFl N B k (qs.drop c) (hw, L, tu) = (true, hw, L, tu) := by
        rw [c1, List.drop_length]
        cases k with
        | zero => rfl
        | succ k => rfl
      rw [em, c1, if_pos (nI_le (Nat.le_refl _) (by omega)), if_neg hr.on, ptR, bnd_o (z_nowhere_74 (R := setS R 29 0))]
      generalize hR1 : setA (setS R 29 0) 37 (flt (rA (setS R 29 0) 37) 0 1024 (-1)) = R1
      have f1 : Fq [29, 47, 22, 25, 9, 10, 12, 13, 14, 18, 20] [35, 37, 46, 23, 24, 38, 44, 45, 6, 7, 8, 15, 17, 39, 40] R R1 := by
        rw [← hR1]
        exact (Fq.s (by decide)).tr (Fq.a (by decide))
      have hrs1 : RRs R1 rs := by
        rw [← hR1]
        exact hrs
      obtain ⟨R', r1, r2, r3⟩ := z_fq88 (v := nI qs.length) hrs1 fuL 0 R1 (Nat.zero_le _) (by rw [fuL_4]; omega) Fn.rf (fun b hb => by rw [if_neg (fun z => absurd z.1 (Nat.not_lt_zero _))]; exact (hrs1 b hb).1)
      refine ⟨_, R', r1, Or.inl ⟨rfl, rfl, ?_, ?_, ⟨?_, Nat.zero_le _, fun c hc => absurd hc (Nat.not_lt_zero _), ?_, fun b hb => Or.inl ⟨?_, rfl⟩⟩, r3, f1.tr (r2.1.wk (fun j hj => absurd hj List.not_mem_nil) (by decide)), by rw [r2.1.2.1 46 (by decide), ← hR1]; exact hb46⟩⟩
      · have hr1 : RH N B hw R1 := by
          rw [← hR1]
          exact (hr.s (by decide)).a (by decide)
        exact hr1.fn r2 (fun j _ => List.not_mem_nil) (by decide)
      · have hl1 : RLg N R1 L tu := by
          rw [← hR1]
          exact hl
        exact hl1.fq r2.1 (by decide) (by decide) (by decide) (by decide) (by decide)
      · rw [r2.1.1 29 (by decide), ← hR1]
        rfl
      · rw [r2.1.2.1 28 (by decide), ← hR1]
        exact q4
      · rw [r2.1.2.1 37 (by decide), ← hR1]
        exact flt_at (Nat.zero_le _) hb
    · have hcl : c < qs.length := by omega
      rw [if_neg (nI_ge (by omega) (by omega)), ptR]
      have f1 : Fn [47] [45, 46] R (setS R 47 0) := Fn.s (by decide)
      have hb0 : RBt N (setS R 47 0) 0 (fun _ => none) := ⟨rfl, Nat.zero_le _, fun k hk => absurd hk (Nat.not_lt_zero _), fun i j hi => absurd hi (Nat.not_lt_zero _), fun t ht => absurd rfl ht, hb46⟩
      obtain ⟨X, c', n', M', y1, y2, y3, y4, y5, y6⟩ := z_fq24 (self := e_flushQueue_2 m) hN hq fuL c 0 (fun _ => none) _ hc (by rw [fuL_4]; omega) hb0 f1
      rw [y1]
      have hbN : ∀ n, bList (fun _ => none) n = [] := fun n => by
        induction n with
        | zero => rfl
        | succ n ih => rw [bList_n rfl, ih]
      rw [hbN] at y3
      obtain ⟨k', rfl⟩ : ∃ k', k = k' + 1 := ⟨k - 1, by omega⟩
      have em : mFl N B (k' + 1) (qs.drop c) (hw, L, tu) = if (mStep N B (bList M' N) (hw, L, tu)).1 = true then mFl N B k' (qs.drop c') (mStep N B (bList M' N) (hw, L, tu)).2 else mStep N B (bList M' N) (hw, L, tu) := by
        rw [qAt_drop hcl] at y3 ⊢
        show (if (mStep N B (qFill N (qAt qs c :: qs.drop (c + 1)) []).1 (hw, L, tu)).1 = true then _ else _) = _
        rw [y3]
      have hcc : c < c' := by
        obtain ⟨s, hs⟩ := q3 c hcl
        have hs40 := hs.2.2.1
        have hl1 : (bJoin N [] (qAt qs c)).length ≤ 40 := by
          have hj : bJoin N [] (qAt qs c) = bList (ovK R (fun _ => none) c s) N := (bJoin_eq (bList_srt N) (fun b => by
            rw [bList_val]
            by_cases cb : b < N
            · rw [if_pos cb, if_pos cb, ovK_all hs hN b]
              rfl
            · rw [if_neg cb, if_neg cb])).symm
          have h0 : rsC (isS (fun _ => none)) 1 N = 0 := by rw [← bList_len, hbN]; rfl
          have := frC_le (R := R) (M := fun _ => none) (c := c) s
          rw [hj, bList_len, ovK_len hs hN s (Nat.le_refl _), h0]
          omega
        rw [qAt_drop hcl, qFill_t hl1] at y3
        have z := qFill_len (N := N) (qs.drop (c + 1)) (bJoin N [] (qAt qs c))
        rw [y3] at z
        have z : (qs.drop c').length ≤ (qs.drop (c + 1)).length := z
        rw [List.length_drop, List.length_drop] at z
        omega
      rw [em]
      have yw := y4.1.wk (S' := [29, 47, 22, 25, 9, 10, 12, 13, 14, 18, 20]) (T' := [35, 37, 46, 23, 24, 38, 44, 45, 6, 7, 8, 15, 17, 39, 40]) (by decide) (by decide)
      have hrX : RH N B hw X := hr.fn y4 (by decide) (by decide)
      obtain ⟨R1, e1, o1⟩ := z_writeBatch hN1 hN hrX (hwk.fq6 y4.1 (by decide) (by decide) (by decide) (by decide) (by decide) y2.2.2.2.2.2) (hl.fq y4.1 (by decide) (by decide) (by decide) (by decide) (by decide)) y2 ho hd (by omega)
      rw [bnd_o e1]
      rcases o1 with ⟨a1, a2, a3, a4⟩ | ⟨a1, a2⟩
      · rw [if_pos a1]
        have b43 := qFill_43 (N := N) (qs.drop c) [] (fun p hp => absurd hp List.not_mem_nil) (fun q hq2 => h43 q (List.mem_of_mem_drop hq2))
        obtain ⟨b40, -⟩ := qFill_40 (N := N) (qs.drop c) [] (by decide) (fun p hp => absurd hp List.not_mem_nil)
        rw [y3] at b43 b40
        obtain ⟨s1, s2, s3⟩ := mStep_all (B := B) (bt := bList M' N) hN1 ho hd hl.2.2.1 b40 b43 a1
        have aw := a4.wk (S' := [29, 47, 22, 25, 9, 10, 12, 13, 14, 18, 20]) (T' := [35, 37, 46, 23, 24, 38, 44, 45, 6, 7, 8, 15, 17, 39, 40]) (by decide) (by decide)
        have hs4 : hSp (mStep N B (bList M' N) (hw, L, tu)).2.1 + 100 * (qs.length - c') + 200 < 2 ^ 31 := by omega
        obtain ⟨v, R', r1, r2⟩ := ih k' c' R1 (mStep N B (bList M' N) (hw, L, tu)).2.1 (mStep N B (bList M' N) (hw, L, tu)).2.2.1 (mStep N B (bList M' N) (hw, L, tu)).2.2.2 y6 (by omega) (by omega) ((hq.fq y4.1 (by decide) (by decide) (by decide) (by decide) (by decide)).fq a4 (by decide) (by decide) (by decide) (by decide) (by decide)) ((hrs.fq y4.1 (by decide)).fq a4 (by decide)) a2 ((hwk.fq6 y4.1 (by decide) (by decide) (by decide) (by decide) (by decide) y2.2.2.2.2.2).fq4 a4 (by decide) (by decide) (by decide) (by decide) (by decide) a3.2.2.2.2.2) a3 s1 s2 (by rw [a4.2.1 46 (by decide)]; exact y2.2.2.2.2.2) hs4
        refine ⟨v, R', r1, ?_⟩
        rcases r2 with ⟨b1, b2, b3, b4, b5, b6, b7, b8⟩ | ⟨b1, b2⟩
        · exact Or.inl ⟨b1, b2, b3, b4, b5, b6, (yw.tr aw).tr b7, b8⟩
        · exact Or.inr ⟨b1, b2.fq (yw.tr aw) (by decide) (by decide)⟩
      · rw [if_neg (by rw [a1]; decide)]
        have a11 : rS R1 11 = 0 := a2.1.1
        obtain ⟨m2, rfl⟩ : ∃ m2, m = m2 + 1 := ⟨m - 1, by omega⟩
        refine ⟨nI c', R1, ?_, Or.inr ⟨a1, a2.fq yw (by decide) (by decide)⟩⟩
        rw [e_flushQueue_2, if_pos a11, if_pos a11]
theorem z_flush {qs : List QC} {rs : Nat → Nat} {hw : Hw} {L : List En} {tu : Int32} (hN1 : 61 ≤ N) (hN : N ≤ 1024) (h43 : ∀ q ∈ qs, ∀ b x, q b = some x → 43 ≤ b) (hq : RQu N R qs) (hrs : RRs R rs) (hr : RH N B hw R) (hwk : WkO N R) (hl : RLg N R L tu) (ho : HOk N B hw) (hd : LgD hw L) (hb : Byt (rA R 46)) (hsp : hSp hw + 100 * qs.length + 200 < 2 ^ 31) : ∃ v R', e_flushQueue R = some (v, R') ∧ (((mFl N B qs.length qs (hw, L, tu)).1 = true ∧ v = nI qs.length ∧ RH N B (mFl N B qs.length qs (hw, L, tu)).2.1 R' ∧ RLg N R' (mFl N B qs.length qs (hw, L, tu)).2.2.1 (mFl N B qs.length qs (hw, L, tu)).2.2.2 ∧ RQu N R' [] ∧ RRs R' (fun b => if rs b = 1 then 0 else rs b) ∧ Fq [29, 47, 22, 25, 9, 10, 12, 13, 14, 18, 20] [35, 37, 46, 23, 24, 38, 44, 45, 6, 7, 8, 15, 17, 39, 40] R R' ∧ Byt (rA R' 46)) ∨ ((mFl N B qs.length qs (hw, L, tu)).1 = false ∧ Dd N R (mFl N B qs.length qs (hw, L, tu)).2.1 R')) := by
  have h16 := hq.2.1
  exact z_fq2 hN1 hN h43 fuL qs.length 0 R hw L tu (Nat.zero_le _) (by rw [fuL_4]; omega) (Nat.le_refl _) hq hrs hr hwk hl ho hd hb hsp
end PUZ
