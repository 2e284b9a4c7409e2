/-! ===== pure: flush and apply leave what is seen ===== -/
section PVE
variable {R : RfT} {N B gr : Nat}
theorem lVal_cat {M : List En} {b : Nat} : ∀ L : List En, lVal (L ++ M) b = match lVal M b with | some x => some x | none => lVal L b
  | [] => by
    cases h : lVal M b with
    | none => exact h
    | some x => exact h
  | p :: L => by
    show (match lVal (L ++ M) b with | some x => some x | none => if p.1 = b then some p.2 else none) = _
    rw [lVal_cat L]
    cases h : lVal M b with
    | none => rfl
    | some x => rfl
def jv (qs : List QC) (bt : List En) (u : Nat) : Option Rw := match qVal qs u with
  | some x => some x
  | none => lVal bt u
theorem qFill_jv {u : Nat} (hu : u < N) : ∀ (qs : List QC) (bt : List En), jv (qFill N qs bt).2 (qFill N qs bt).1 u = jv qs bt u
  | [], bt => rfl
  | q :: qs, bt => by
    by_cases c : (bJoin N bt q).length ≤ 40
    · rw [qFill_t c, qFill_jv hu qs]
      unfold jv
      show _ = match (match qVal qs u with | some x => some x | none => q u) with | some x => some x | none => lVal bt u
      cases h : qVal qs u with
      | some x => rfl
      | none =>
        show lVal (bJoin N bt q) u = match q u with | some x => some x | none => lVal bt u
        unfold bJoin
        rw [bList_val, if_pos hu]
        rfl
    · rw [qFill_f c]
theorem oS_o {a : Option Rw} {b : Option Rw} {y : Rw} : oSee (match a with | some x => some x | none => b) y = oSee a (oSee b y) := by
  cases a with
  | none => rfl
  | some x => rfl
theorem aApl_see (hN1 : 61 ≤ N) {L : List En} {tu : Int32} {hw : Hw} (ho : HOk N B hw) (ht : (aApl N B L tu hw).1 = true) {u : Nat} (h1 : 43 ≤ u) (h2 : u < N) : oSee (lVal (lApl L tu).1 u) (hSee (aApl N B L tu hw).2 u) = oSee (lVal L u) (hSee hw u) := by
  unfold aApl lApl at *
  by_cases c : L.length = 0
  · rw [if_pos c, if_pos c]
  · rw [if_neg c] at ht ⊢
    rw [if_neg c]
    obtain ⟨a1, a2, a3⟩ := mAply_all (B := B) (tu := tu) hN1 (L := L) ho
    obtain ⟨b1, b2⟩ := a3 ht
    rw [b2 u h2, if_neg (show ¬ u = 1 by omega)]
    rfl
theorem mStep_see (hN1 : 61 ≤ N) {bt L : List En} {tu : Int32} {hw : Hw} (ho : HOk N B hw) (hd : LgD hw L) (hL : L.length ≤ 40) (hb : bt.length ≤ 40) (ht : (mStep N B bt (hw, L, tu)).1 = true) {u : Nat} (h1 : 43 ≤ u) (h2 : u < N) : oSee (lVal (mStep N B bt (hw, L, tu)).2.2.1 u) (hSee (mStep N B bt (hw, L, tu)).2.1 u) = oSee (lVal bt u) (oSee (lVal L u) (hSee hw u)) := by
  have key : ∀ (hw' : Hw) (L' : List En) (tu' : Int32), HOk N B hw' → L'.length + bt.length ≤ 40 → (mApp N B L' tu' bt hw').1 = true → oSee (lVal (L' ++ bt) u) (hSee (mApp N B L' tu' bt hw').2 u) = oSee (lVal bt u) (oSee (lVal L' u) (hSee hw' u)) := fun hw' L' tu' ho' hl' ht' => by
    obtain ⟨a1, a2, a3⟩ := mApp_all (B := B) (tu := tu') hN1 (L := L') (bt := bt) ho' hl'
    obtain ⟨b1, b2⟩ := a3 ht'
    rw [b2 u h2, if_neg (show ¬ u = 1 by omega), if_neg (show ¬ u = 2 by omega), if_neg (show ¬ (3 + L'.length ≤ u ∧ u < 3 + L'.length + bt.length) by omega), lVal_cat, oS_o]
  by_cases c : 40 < L.length + bt.length
  · obtain ⟨q1, q2, q3, q4⟩ := aApl_all (B := B) (tu := tu) hN1 ho hd
    cases ha : (aApl N B L tu hw).1 with
    | false =>
      rw [mStep_a1 c ha] at ht
      cases ht
    | true =>
      rw [mStep_a2 c ha] at ht ⊢
      rw [← aApl_see hN1 ho ha h1 h2]
      exact key (aApl N B L tu hw).2 (lApl L tu).1 (lApl L tu).2 q1 (by omega) ht
  · rw [mStep_b c] at ht ⊢
    exact key hw L tu ho (by omega) ht
theorem mFl_see (hN1 : 61 ≤ N) {u : Nat} (h1 : 43 ≤ u) (h2 : u < N) : ∀ (k : Nat) (qs : List QC) (hw : Hw) (L : List En) (tu : Int32), qs.length ≤ k → (∀ q ∈ qs, ∀ b x, q b = some x → 43 ≤ b) → (∀ q ∈ qs, (bJoin N [] q).length ≤ 40) → HOk N B hw → LgD hw L → L.length ≤ 40 → (mFl N B k qs (hw, L, tu)).1 = true → oSee (lVal (mFl N B k qs (hw, L, tu)).2.2.1 u) (hSee (mFl N B k qs (hw, L, tu)).2.1 u) = befV hw L qs u
  | k, [], hw, L, tu, _, _, _, _, _, _, _ => by
    cases k with
    | zero => rfl
    | succ k => rfl
  | 0, q :: qs, hw, L, tu, h, _, _, _, _, _, _ => absurd h (by show ¬ qs.length + 1 ≤ 0; omega)
  | k + 1, q :: qs, hw, L, tu, h, h43, h40, ho, hd, hL, ht => by
    have h : qs.length + 1 ≤ k + 1 := h
    have b43 := qFill_43 (N := N) (q :: qs) [] (fun p hp => absurd hp List.not_mem_nil) h43
    obtain ⟨b40, -⟩ := qFill_40 (N := N) (q :: qs) [] (by decide) (fun p hp => absurd hp List.not_mem_nil)
    have hj := qFill_jv h2 (q :: qs) []
    have hlen : (qFill N (q :: qs) []).2.length ≤ qs.length := by
      rw [qFill_t (h40 q (List.mem_cons_self ..))]
      exact qFill_len qs _
    have hsub : ∀ (qs : List QC) (bt : List En), ∀ x ∈ (qFill N qs bt).2, x ∈ qs := fun qs => by
      induction qs with
      | nil => intro bt x hx; exact hx
      | cons q qs ih =>
        intro bt x hx
        by_cases c : (bJoin N bt q).length ≤ 40
        · rw [qFill_t c] at hx
          exact List.mem_cons_of_mem _ (ih _ x hx)
        · rw [qFill_f c] at hx
          exact hx
    have hs2 := hsub (q :: qs) []
    generalize hbt : (qFill N (q :: qs) []).1 = bt at *
    generalize hr : (qFill N (q :: qs) []).2 = rest at *
    have e : mFl N B (k + 1) (q :: qs) (hw, L, tu) = if (mStep N B bt (hw, L, tu)).1 = true then mFl N B k rest (mStep N B bt (hw, L, tu)).2 else mStep N B bt (hw, L, tu) := by
      show (if (mStep N B (qFill N (q :: qs) []).1 (hw, L, tu)).1 = true then mFl N B k (qFill N (q :: qs) []).2 (mStep N B (qFill N (q :: qs) []).1 (hw, L, tu)).2 else mStep N B (qFill N (q :: qs) []).1 (hw, L, tu)) = _
      rw [hbt, hr]
    rw [e] at ht ⊢
    by_cases c : (mStep N B bt (hw, L, tu)).1 = true
    · rw [if_pos c] at ht ⊢
      obtain ⟨s1, s2, s3⟩ := mStep_all (B := B) hN1 ho hd hL b40 b43 c
      have hsee := mStep_see hN1 ho hd hL b40 c h1 h2
      have hl2 : (mStep N B bt (hw, L, tu)).2.2.1.length ≤ 40 := by
        by_cases c4 : 40 < L.length + bt.length
        · obtain ⟨q1, q2, q3, q4⟩ := aApl_all (B := B) (tu := tu) hN1 ho hd
          cases ha : (aApl N B L tu hw).1 with
          | false =>
            rw [mStep_a1 c4 ha] at c
            cases c
          | true =>
            rw [mStep_a2 c4 ha]
            show ((lApl L tu).1 ++ bt).length ≤ 40
            rw [List.length_append]
            omega
        · rw [mStep_b c4]
          show (L ++ bt).length ≤ 40
          rw [List.length_append]
          omega
      have ih := mFl_see hN1 h1 h2 k rest (mStep N B bt (hw, L, tu)).2.1 (mStep N B bt (hw, L, tu)).2.2.1 (mStep N B bt (hw, L, tu)).2.2.2 (by omega) (fun q' hq' => h43 q' (hs2 q' hq')) (fun q' hq' => h40 q' (hs2 q' hq')) s1 s2 hl2 ht
      refine ih.trans ?_
      unfold befV
      rw [hsee, ← oS_o, ← oS_o, ← oS_o]
      congr 1
      unfold jv at hj
      have hj2 : (match qVal (q :: qs) u with | some x => some x | none => lVal [] u) = qVal (q :: qs) u := by
        cases qVal (q :: qs) u with
        | none => rfl
        | some x => rfl
      rw [hj2] at hj
      rw [hj]
    · rw [if_neg c] at ht
      exact absurd ht c
/-- the model's state behind a flush, behind an apply -/
def flO2 (N B : Nat) (m : M5) : Bool × mSt := mFl N B m.2.2.2.1.length m.2.2.2.1 (m.1, m.2.1, m.2.2.1)
def flM (N B : Nat) (m : M5) : M5 := ((flO2 N B m).2.1, (flO2 N B m).2.2.1, (flO2 N B m).2.2.2, [], fun b => if m.2.2.2.2 b = 1 then 0 else m.2.2.2.2 b)
def apM (N B : Nat) (m : M5) : M5 := ((aApl N B m.2.1 m.2.2.1 m.1).2, (lApl m.2.1 m.2.2.1).1, (lApl m.2.1 m.2.2.1).2, m.2.2.2)
/-- what both need of the model -/
def MOk (N B : Nat) (m : M5) : Prop := HOk N B m.1 ∧ LgD m.1 m.2.1 ∧ m.2.1.length ≤ 40 ∧ (∀ q ∈ m.2.2.2.1, ∀ b x, q b = some x → 43 ≤ b) ∧ ∀ q ∈ m.2.2.2.1, (bJoin N [] q).length ≤ 40
theorem flM_bef {m : M5} (hN1 : 61 ≤ N) (h : MOk N B m) (ht : (flO2 N B m).1 = true) {u : Nat} (h1 : 43 ≤ u) (h2 : u < N) : befM (flM N B m) u = befM m u := mFl_see hN1 h1 h2 m.2.2.2.1.length m.2.2.2.1 m.1 m.2.1 m.2.2.1 (Nat.le_refl _) h.2.2.2.1 h.2.2.2.2 h.1 h.2.1 h.2.2.1 ht
theorem apM_bef {m : M5} (hN1 : 61 ≤ N) (h : MOk N B m) (ht : (aApl N B m.2.1 m.2.2.1 m.1).1 = true) {u : Nat} (h1 : 43 ≤ u) (h2 : u < N) : befM (apM N B m) u = befM m u := by
  have := aApl_see (tu := m.2.2.1) hN1 h.1 ht h1 h2
  unfold befM apM befV
  rw [show ((aApl N B m.2.1 m.2.2.1 m.1).2, (lApl m.2.1 m.2.2.1).1, (lApl m.2.1 m.2.2.1).2, m.2.2.2).1 = (aApl N B m.2.1 m.2.2.1 m.1).2 from rfl]
  rw [this]
theorem wOw_fq {S T : List Nat} {R' : RfT} (f : Fq S T R R') (h31 : 31 ∉ T) (h32 : 32 ∉ T) (h36 : 36 ∉ T) : wOw R' = wOw R ∧ wTk R' = wTk R := by
  refine ⟨?_, ?_⟩
  · funext b
    unfold wOw
    rw [f.2.1 32 h32, f.2.1 36 h36]
  · funext b
    unfold wTk
    rw [f.2.1 31 h31, f.2.1 36 h36]
theorem RX.flush {m : M5} {V : Nat → Rw} {tk : Nat → Bool} (hN1 : 61 ≤ N) (hN : N ≤ 1024) (h : RX N B gr R m V tk) (hm : MOk N B m) (hsp : hSp m.1 + 100 * m.2.2.2.1.length + 200 < 2 ^ 31) : ∃ v R', e_flushQueue R = some (v, R') ∧ (((flO2 N B m).1 = true ∧ v = nI m.2.2.2.1.length ∧ RX N B gr R' (flM N B m) V tk ∧ Fq [29, 47, 22, 25, 9, 10, 12, 13, 14, 18, 20] [35, 37, 46, 23, 24, 38, 44, 45, 6, 7, 8, 15, 17, 39, 40] R R') ∨ ((flO2 N B m).1 = false ∧ Dd N R (flO2 N B m).2.1 R')) := by
  obtain ⟨⟨h1, h2, h3, h4, h5, h6, h7, h8⟩, hv⟩ := id h
  obtain ⟨v, R', e, o⟩ := z_flush hN1 hN hm.2.2.2.1 h3 h4 h1 h5 h2 hm.1 hm.2.1 h6 hsp
  refine ⟨v, R', e, ?_⟩
  rcases o with ⟨a1, a2, a3, a4, a5, a6, a7, hb46⟩ | o
  · have a1 : (flO2 N B m).1 = true := a1
    have hx : RMw N B gr R' (flM N B m) := ⟨a3, a4, a5, a6, h5.fqX a7 (by decide) (by decide) (by decide) (by decide) (by decide) ⟨a4.2.2.2.2.2, by rw [a7.2.1 28 (by decide)]; exact h5.x.2.1, hb46, by rw [a7.2.1 48 (by decide)]; exact h5.x.2.2.2⟩, hb46, by rw [a7.1 1 (by decide)]; exact h7, by rw [a7.1 3 (by decide)]; exact h8⟩
    refine Or.inl ⟨a1, a2, ⟨hx, fun b hb0 hb => ?_⟩, a7⟩
    obtain ⟨o1, o2⟩ := wOw_fq a7 (by decide) (by decide) (by decide)
    rw [rSee_t, o1, o2, hx.bef hN hb, flM_bef hN1 hm a1 hb0 hb]
    exact h.own hN hb0 hb
  · exact Or.inr o
theorem RX.apply {m : M5} {V : Nat → Rw} {tk : Nat → Bool} (hN1 : 61 ≤ N) (hN : N ≤ 1024) (h : RX N B gr R m V tk) (hm : MOk N B m) (hsp : hSp m.1 + 100 < 2 ^ 31) : ∃ R', e_applyLog R = some R' ∧ (((aApl N B m.2.1 m.2.2.1 m.1).1 = true ∧ RX N B gr R' (apM N B m) V tk ∧ Fq [22, 25, 9, 10, 12, 13, 14, 18, 20] [38, 44, 6, 7, 8, 15, 17, 39, 40] R R') ∨ ((aApl N B m.2.1 m.2.2.1 m.1).1 = false ∧ Dd N R (aApl N B m.2.1 m.2.2.1 m.1).2 R')) := by
  obtain ⟨⟨h1, h2, h3, h4, h5, h6, h7, h8⟩, hv⟩ := id h
  obtain ⟨R', e, o⟩ := z_applyLog hN1 hN h1 h5 h2 hm.1 hsp
  refine ⟨R', e, ?_⟩
  rcases o with ⟨a1, a2, a3, a4⟩ | o
  · have hx : RMw N B gr R' (apM N B m) := ⟨a2, a3, h3.fq a4 (by decide) (by decide) (by decide) (by decide) (by decide), h4.fq a4 (by decide), h5.fq a4 (by decide) (by decide) (by decide) (by decide) (by decide), by rw [a4.2.1 46 (by decide)]; exact h6, by rw [a4.1 1 (by decide)]; exact h7, by rw [a4.1 3 (by decide)]; exact h8⟩
    refine Or.inl ⟨a1, ⟨hx, fun b hb0 hb => ?_⟩, a4⟩
    obtain ⟨o1, o2⟩ := wOw_fq a4 (by decide) (by decide) (by decide)
    rw [rSee_t, o1, o2, hx.bef hN hb, apM_bef hN1 hm a1 hb0 hb]
    exact h.own hN hb0 hb
  · exact Or.inr o
end PVE
